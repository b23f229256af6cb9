set_option maxHeartbeats 4000000 in
set_option maxRecDepth 100000 in
theorem c_X5_kindAt (l : Launch) (D : va_G) (cy : Nat → ClassId) (T : Nat → Nat → Nat) (v_0 : Nat → Nat → Int) (o : Nat) (v_i : Int) (t_o : T 0 o = 6) (r_v_i : inR v_i) (hp0 : 0 ≤ (v_0 123 o) ∧ (v_0 123 o) ≤ 400) : KC l D cy T yX5_kindAt cX5_kindAt 2 (some .int) 1 [.ref o, .int (J v_i)] v_0 (KI (fun (z_0 : Int) (v_2 : Nat → Nat → Int) => v_2 = v_0 ∧ ((0 ≤ v_i ∧ v_i < (v_0 123 o) ∧ z_0 = gC_ (v_0 300) (T 120 o) v_i) ∨ (¬ (0 ≤ v_i ∧ v_i < (v_0 123 o)) ∧ z_0 = 1)))) := by
  refine KC.ofi (by decide) (Nat.le_of_ble_eq_true rfl) ?_
  intro p e s m below meth c ls ar QW A0 H0 H locs E hK hA hw hl hret
  have hl : lv_has ls 2 [(0, .ref o), (1, .int (J v_i))] := hl
  have hT : WT T := hw.1.2.1
  refine j_iload_n E 1 rfl dX5_kindAt_0 rfl (lv_at hl 1 rfl) ?_
  refine j_if_lt E 4 30 rfl r_v_i dX5_kindAt_1 (by decide) (fun cc1_ => ?_) (fun cc1_ => ?_)
  · refine j_iconst E 31 rfl dX5_kindAt_30 ?_
    exact hret 31 1 (v_0) _ _ ls hw (rr (by decide)) ⟨rfl, by omega⟩ dX5_kindAt_31
  · refine j_iload_n E 5 rfl dX5_kindAt_4 rfl (lv_at hl 1 rfl) ?_
    refine j_aload_n E 6 rfl dX5_kindAt_5 rfl (lv_at hl 0 rfl) ?_
    refine g_123 E hK hw fl_X5_21 t_o (v_0 123 o) rfl 9 rfl dX5_kindAt_6 (fun rr2_ => ?_)
    refine j_icmp_ge E 12 30 rfl r_v_i rr2_ dX5_kindAt_9 (by decide) (fun cc3_ => ?_) (fun cc3_ => ?_)
    · refine j_iconst E 31 rfl dX5_kindAt_30 ?_
      exact hret 31 1 (v_0) _ _ ls hw (rr (by decide)) ⟨rfl, by omega⟩ dX5_kindAt_31
    · refine j_iload_n E 13 rfl dX5_kindAt_12 rfl (lv_at hl 1 rfl) ?_
      refine j_aload_n E 14 rfl dX5_kindAt_13 rfl (lv_at hl 0 rfl) ?_
      refine g_120 E hK hw fl_X5_9 t_o 17 rfl dX5_kindAt_14 ?_
      have ln4_ := wl_120 hT t_o
      refine a_ln20 E hK hw (wt_120 hT t_o) 18 rfl dX5_kindAt_17 (fun rr5_ => ?_)
      refine j_icmp_ge E 21 30 rfl r_v_i rr5_ dX5_kindAt_18 (by decide) (fun cc6_ => ?_) (fun cc6_ => ?_)
      · refine j_iconst E 31 rfl dX5_kindAt_30 ?_
        exact hret 31 1 (v_0) _ _ ls hw (rr (by decide)) ⟨rfl, by omega⟩ dX5_kindAt_31
      · refine j_aload_n E 22 rfl dX5_kindAt_21 rfl (lv_at hl 0 rfl) ?_
        refine g_120 E hK hw fl_X5_9 t_o 25 rfl dX5_kindAt_22 ?_
        refine j_iload_n E 26 rfl dX5_kindAt_25 rfl (lv_at hl 1 rfl) ?_
        refine a_ld20 E hK hw (wt_120 hT t_o) (by omega) 27 rfl dX5_kindAt_26 (fun zz7_ he7_ rr7_ => ?_)
        have he7_ : zz7_ = v_0 300 (pr (T 120 o) (Int.toNat v_i)) := he7_
        have he_ : zz7_ = gC_ (v_0 300) (T 120 o) v_i := he7_
        refine j_goto E 31 dX5_kindAt_27 (by decide) ?_
        exact hret 31 zz7_ (v_0) _ _ ls hw rr7_ ⟨rfl, by omega⟩ dX5_kindAt_31
set_option maxHeartbeats 4000000 in
set_option maxRecDepth 100000 in
theorem c_X5_valueAt (l : Launch) (D : va_G) (cy : Nat → ClassId) (T : Nat → Nat → Nat) (v_0 : Nat → Nat → Int) (o : Nat) (v_i : Int) (t_o : T 0 o = 6) (r_v_i : inR v_i) (hp0 : 0 ≤ (v_0 123 o) ∧ (v_0 123 o) ≤ 400) : KC l D cy T yX5_valueAt cX5_valueAt 2 (some .int) 1 [.ref o, .int (J v_i)] v_0 (KI (fun (z_0 : Int) (v_2 : Nat → Nat → Int) => v_2 = v_0 ∧ ((0 ≤ v_i ∧ v_i < (v_0 123 o) ∧ z_0 = gC_ (v_0 300) (T 121 o) v_i) ∨ (¬ (0 ≤ v_i ∧ v_i < (v_0 123 o)) ∧ z_0 = 0)))) := by
  refine KC.ofi (by decide) (Nat.le_of_ble_eq_true rfl) ?_
  intro p e s m below meth c ls ar QW A0 H0 H locs E hK hA hw hl hret
  have hl : lv_has ls 2 [(0, .ref o), (1, .int (J v_i))] := hl
  have hT : WT T := hw.1.2.1
  refine j_iload_n E 1 rfl dX5_valueAt_0 rfl (lv_at hl 1 rfl) ?_
  refine j_if_lt E 4 30 rfl r_v_i dX5_valueAt_1 (by decide) (fun cc1_ => ?_) (fun cc1_ => ?_)
  · refine j_iconst E 31 rfl dX5_valueAt_30 ?_
    exact hret 31 0 (v_0) _ _ ls hw (rr (by decide)) ⟨rfl, by omega⟩ dX5_valueAt_31
  · refine j_iload_n E 5 rfl dX5_valueAt_4 rfl (lv_at hl 1 rfl) ?_
    refine j_aload_n E 6 rfl dX5_valueAt_5 rfl (lv_at hl 0 rfl) ?_
    refine g_123 E hK hw fl_X5_21 t_o (v_0 123 o) rfl 9 rfl dX5_valueAt_6 (fun rr2_ => ?_)
    refine j_icmp_ge E 12 30 rfl r_v_i rr2_ dX5_valueAt_9 (by decide) (fun cc3_ => ?_) (fun cc3_ => ?_)
    · refine j_iconst E 31 rfl dX5_valueAt_30 ?_
      exact hret 31 0 (v_0) _ _ ls hw (rr (by decide)) ⟨rfl, by omega⟩ dX5_valueAt_31
    · refine j_iload_n E 13 rfl dX5_valueAt_12 rfl (lv_at hl 1 rfl) ?_
      refine j_aload_n E 14 rfl dX5_valueAt_13 rfl (lv_at hl 0 rfl) ?_
      refine g_121 E hK hw fl_X5_15 t_o 17 rfl dX5_valueAt_14 ?_
      have ln4_ := wl_121 hT t_o
      refine a_ln20 E hK hw (wt_121 hT t_o) 18 rfl dX5_valueAt_17 (fun rr5_ => ?_)
      refine j_icmp_ge E 21 30 rfl r_v_i rr5_ dX5_valueAt_18 (by decide) (fun cc6_ => ?_) (fun cc6_ => ?_)
      · refine j_iconst E 31 rfl dX5_valueAt_30 ?_
        exact hret 31 0 (v_0) _ _ ls hw (rr (by decide)) ⟨rfl, by omega⟩ dX5_valueAt_31
      · refine j_aload_n E 22 rfl dX5_valueAt_21 rfl (lv_at hl 0 rfl) ?_
        refine g_121 E hK hw fl_X5_15 t_o 25 rfl dX5_valueAt_22 ?_
        refine j_iload_n E 26 rfl dX5_valueAt_25 rfl (lv_at hl 1 rfl) ?_
        refine a_ld20 E hK hw (wt_121 hT t_o) (by omega) 27 rfl dX5_valueAt_26 (fun zz7_ he7_ rr7_ => ?_)
        have he7_ : zz7_ = v_0 300 (pr (T 121 o) (Int.toNat v_i)) := he7_
        have he_ : zz7_ = gC_ (v_0 300) (T 121 o) v_i := he7_
        refine j_goto E 31 dX5_valueAt_27 (by decide) ?_
        exact hret 31 zz7_ (v_0) _ _ ls hw rr7_ ⟨rfl, by omega⟩ dX5_valueAt_31
set_option maxHeartbeats 4000000 in
set_option maxRecDepth 100000 in
theorem c_X5_placeAt (l : Launch) (D : va_G) (cy : Nat → ClassId) (T : Nat → Nat → Nat) (v_0 : Nat → Nat → Int) (o : Nat) (v_i : Int) (t_o : T 0 o = 6) (r_v_i : inR v_i) (hp0 : 0 ≤ (v_0 123 o) ∧ (v_0 123 o) ≤ 400) : KC l D cy T yX5_placeAt cX5_placeAt 2 (some .int) 1 [.ref o, .int (J v_i)] v_0 (KI (fun (z_0 : Int) (v_2 : Nat → Nat → Int) => v_2 = v_0 ∧ ((0 ≤ v_i ∧ v_i < (v_0 123 o) ∧ z_0 = gC_ (v_0 300) (T 122 o) v_i) ∨ (¬ (0 ≤ v_i ∧ v_i < (v_0 123 o)) ∧ z_0 = (v_0 124 o))))) := by
  refine KC.ofi (by decide) (Nat.le_of_ble_eq_true rfl) ?_
  intro p e s m below meth c ls ar QW A0 H0 H locs E hK hA hw hl hret
  have hl : lv_has ls 2 [(0, .ref o), (1, .int (J v_i))] := hl
  have hT : WT T := hw.1.2.1
  refine j_iload_n E 1 rfl dX5_placeAt_0 rfl (lv_at hl 1 rfl) ?_
  refine j_if_lt E 4 30 rfl r_v_i dX5_placeAt_1 (by decide) (fun cc1_ => ?_) (fun cc1_ => ?_)
  · refine j_aload_n E 31 rfl dX5_placeAt_30 rfl (lv_at hl 0 rfl) ?_
    refine g_124 E hK hw fl_X5_25 t_o (v_0 124 o) rfl 34 rfl dX5_placeAt_31 (fun rr2_ => ?_)
    exact hret 34 (v_0 124 o) (v_0) _ _ ls hw rr2_ ⟨rfl, by omega⟩ dX5_placeAt_34
  · refine j_iload_n E 5 rfl dX5_placeAt_4 rfl (lv_at hl 1 rfl) ?_
    refine j_aload_n E 6 rfl dX5_placeAt_5 rfl (lv_at hl 0 rfl) ?_
    refine g_123 E hK hw fl_X5_21 t_o (v_0 123 o) rfl 9 rfl dX5_placeAt_6 (fun rr3_ => ?_)
    refine j_icmp_ge E 12 30 rfl r_v_i rr3_ dX5_placeAt_9 (by decide) (fun cc4_ => ?_) (fun cc4_ => ?_)
    · refine j_aload_n E 31 rfl dX5_placeAt_30 rfl (lv_at hl 0 rfl) ?_
      refine g_124 E hK hw fl_X5_25 t_o (v_0 124 o) rfl 34 rfl dX5_placeAt_31 (fun rr5_ => ?_)
      exact hret 34 (v_0 124 o) (v_0) _ _ ls hw rr5_ ⟨rfl, by omega⟩ dX5_placeAt_34
    · refine j_iload_n E 13 rfl dX5_placeAt_12 rfl (lv_at hl 1 rfl) ?_
      refine j_aload_n E 14 rfl dX5_placeAt_13 rfl (lv_at hl 0 rfl) ?_
      refine g_122 E hK hw fl_X5_18 t_o 17 rfl dX5_placeAt_14 ?_
      have ln6_ := wl_122 hT t_o
      refine a_ln20 E hK hw (wt_122 hT t_o) 18 rfl dX5_placeAt_17 (fun rr7_ => ?_)
      refine j_icmp_ge E 21 30 rfl r_v_i rr7_ dX5_placeAt_18 (by decide) (fun cc8_ => ?_) (fun cc8_ => ?_)
      · refine j_aload_n E 31 rfl dX5_placeAt_30 rfl (lv_at hl 0 rfl) ?_
        refine g_124 E hK hw fl_X5_25 t_o (v_0 124 o) rfl 34 rfl dX5_placeAt_31 (fun rr9_ => ?_)
        exact hret 34 (v_0 124 o) (v_0) _ _ ls hw rr9_ ⟨rfl, by omega⟩ dX5_placeAt_34
      · refine j_aload_n E 22 rfl dX5_placeAt_21 rfl (lv_at hl 0 rfl) ?_
        refine g_122 E hK hw fl_X5_18 t_o 25 rfl dX5_placeAt_22 ?_
        refine j_iload_n E 26 rfl dX5_placeAt_25 rfl (lv_at hl 1 rfl) ?_
        refine a_ld20 E hK hw (wt_122 hT t_o) (by omega) 27 rfl dX5_placeAt_26 (fun zz10_ he10_ rr10_ => ?_)
        have he10_ : zz10_ = v_0 300 (pr (T 122 o) (Int.toNat v_i)) := he10_
        have he_ : zz10_ = gC_ (v_0 300) (T 122 o) v_i := he10_
        refine j_goto E 34 dX5_placeAt_27 (by decide) ?_
        exact hret 34 zz10_ (v_0) _ _ ls hw rr10_ ⟨rfl, by omega⟩ dX5_placeAt_34
set_option maxHeartbeats 4000000 in
set_option maxRecDepth 100000 in
theorem c_X5_keep (l : Launch) (D : va_G) (cy : Nat → ClassId) (T : Nat → Nat → Nat) (v_0 : Nat → Nat → Int) (o : Nat) (v_k : Int) (v_x : Int) (v_p : Int) (t_o : T 0 o = 6) (r_v_k : inR v_k) (r_v_x : inR v_x) (r_v_p : inR v_p) (hp0 : 0 ≤ (v_0 123 o) ∧ (v_0 123 o) < 400) : KC l D cy T yX5_keep cX5_keep 4 none 1 [.ref o, .int (J v_k), .int (J v_x), .int (J v_p)] v_0 (KV (fun (v_2 : Nat → Nat → Int) => ∃ (y123_2 : Nat → Int) (y300_2 : Nat → Int) , v_2 = upV (upV v_0 123 y123_2) 300 y300_2 ∧ (((y123_2 o) = (v_0 123 o) + 1 ∧ (y300_2) = upB (upB (upB (v_0 300) (pr (T 120 o) (Int.toNat ((v_0 123 o)))) v_k) (pr (T 121 o) (Int.toNat ((v_0 123 o)))) v_x) (pr (T 122 o) (Int.toNat ((v_0 123 o)))) v_p) ∧ Kd_ T [120, 121, 122] (v_0 300) y300_2))) := by
  refine KC.ofv (by decide) (Nat.le_of_ble_eq_true rfl) ?_
  intro p e s m below meth c ls ar QW A0 H0 H locs E hK hA hw hl hret
  have hl : lv_has ls 4 [(0, .ref o), (1, .int (J v_k)), (2, .int (J v_x)), (3, .int (J v_p))] := hl
  have hT : WT T := hw.1.2.1
  refine j_aload_n E 1 rfl dX5_keep_0 rfl (lv_at hl 0 rfl) ?_
  refine g_123 E hK hw fl_X5_21 t_o (v_0 123 o) rfl 4 rfl dX5_keep_1 (fun rr1_ => ?_)
  refine j_if_lt E 7 57 rfl rr1_ dX5_keep_4 (by decide) (fun cc2_ => ?_) (fun cc2_ => ?_)
  · exfalso; omega
  refine j_aload_n E 8 rfl dX5_keep_7 rfl (lv_at hl 0 rfl) ?_
  refine g_123 E hK hw fl_X5_21 t_o (v_0 123 o) rfl 11 rfl dX5_keep_8 (fun _ => ?_)
  refine j_sipush E 14 rfl dX5_keep_11 (by decide) ?_
  refine j_icmp_ge E 17 57 rfl rr1_ (rr (by decide)) dX5_keep_14 (by decide) (fun cc3_ => ?_) (fun cc3_ => ?_)
  · exfalso; omega
  refine j_aload_n E 18 rfl dX5_keep_17 rfl (lv_at hl 0 rfl) ?_
  refine g_120 E hK hw fl_X5_9 t_o 21 rfl dX5_keep_18 ?_
  have ln4_ := wl_120 hT t_o
  refine j_aload_n E 22 rfl dX5_keep_21 rfl (lv_at hl 0 rfl) ?_
  refine g_123 E hK hw fl_X5_21 t_o (v_0 123 o) rfl 25 rfl dX5_keep_22 (fun _ => ?_)
  refine j_iload_n E 26 rfl dX5_keep_25 rfl (lv_at hl 1 rfl) ?_
  refine a_st20 E hK hw (wt_120 hT t_o) r_v_k (by omega) 27 rfl dX5_keep_26 (fun H locs hw => ?_)
  have hw : WK D cy T (upV v_0 300 (upB (v_0 300) ((pr (T 120 o) (Int.toNat (v_0 123 o)))) v_k)) A0 H0 H locs := cw_eq hw (by first | rfl | (funext j_; simp only [upV, reduceIte]; (repeat' split) <;> first | rfl | omega | (subst_vars; rfl)))
  refine j_aload_n E 28 rfl dX5_keep_27 rfl (lv_at hl 0 rfl) ?_
  refine g_121 E hK hw fl_X5_15 t_o 31 rfl dX5_keep_28 ?_
  have ln6_ := wl_121 hT t_o
  refine j_aload_n E 32 rfl dX5_keep_31 rfl (lv_at hl 0 rfl) ?_
  refine g_123 E hK hw fl_X5_21 t_o (v_0 123 o) rfl 35 rfl dX5_keep_32 (fun _ => ?_)
  refine j_iload_n E 36 rfl dX5_keep_35 rfl (lv_at hl 2 rfl) ?_
  refine a_st20 E hK hw (wt_121 hT t_o) r_v_x (by omega) 37 rfl dX5_keep_36 (fun H locs hw => ?_)
  have hw : WK D cy T (upV v_0 300 (upB (upB (v_0 300) ((pr (T 120 o) (Int.toNat (v_0 123 o)))) v_k) ((pr (T 121 o) (Int.toNat (v_0 123 o)))) v_x)) A0 H0 H locs := cw_eq hw (by first | rfl | (funext j_; simp only [upV, reduceIte]; (repeat' split) <;> first | rfl | omega | (subst_vars; rfl)))
  refine j_aload_n E 38 rfl dX5_keep_37 rfl (lv_at hl 0 rfl) ?_
  refine g_122 E hK hw fl_X5_18 t_o 41 rfl dX5_keep_38 ?_
  have ln8_ := wl_122 hT t_o
  refine j_aload_n E 42 rfl dX5_keep_41 rfl (lv_at hl 0 rfl) ?_
  refine g_123 E hK hw fl_X5_21 t_o (v_0 123 o) rfl 45 rfl dX5_keep_42 (fun _ => ?_)
  refine j_iload_n E 46 rfl dX5_keep_45 rfl (lv_at hl 3 rfl) ?_
  refine a_st20 E hK hw (wt_122 hT t_o) r_v_p (by omega) 47 rfl dX5_keep_46 (fun H locs hw => ?_)
  have hw : WK D cy T (upV v_0 300 (upB (upB (upB (v_0 300) ((pr (T 120 o) (Int.toNat (v_0 123 o)))) v_k) ((pr (T 121 o) (Int.toNat (v_0 123 o)))) v_x) ((pr (T 122 o) (Int.toNat (v_0 123 o)))) v_p)) A0 H0 H locs := cw_eq hw (by first | rfl | (funext j_; simp only [upV, reduceIte]; (repeat' split) <;> first | rfl | omega | (subst_vars; rfl)))
  refine j_aload_n E 48 rfl dX5_keep_47 rfl (lv_at hl 0 rfl) ?_
  refine j_dup E 49 rfl dX5_keep_48 rfl ?_
  refine g_123 E hK hw fl_X5_21 t_o (v_0 123 o) rfl 52 rfl dX5_keep_49 (fun _ => ?_)
  refine j_iconst E 53 rfl dX5_keep_52 ?_
  refine j_iadd E 54 rfl dX5_keep_53 ?_
  refine p_123 E hK hw fl_X5_21 t_o (rr (by omega)) 57 rfl dX5_keep_54 (fun H locs hw => ?_)
  have hw : WK D cy T (upV (upV v_0 123 (upB (v_0 123) o ((v_0 123 o) + 1))) 300 (upB (upB (upB (v_0 300) ((pr (T 120 o) (Int.toNat (v_0 123 o)))) v_k) ((pr (T 121 o) (Int.toNat (v_0 123 o)))) v_x) ((pr (T 122 o) (Int.toNat (v_0 123 o)))) v_p)) A0 H0 H locs := cw_eq hw (by first | rfl | (funext j_; simp only [upV, reduceIte]; (repeat' split) <;> first | rfl | omega | (subst_vars; rfl)))
  exact hret 57 (upV (upV v_0 123 (upB (v_0 123) o ((v_0 123 o) + 1))) 300 (upB (upB (upB (v_0 300) ((pr (T 120 o) (Int.toNat (v_0 123 o)))) v_k) ((pr (T 121 o) (Int.toNat (v_0 123 o)))) v_x) ((pr (T 122 o) (Int.toNat (v_0 123 o)))) v_p)) _ _ ls hw ⟨(upB (v_0 123) o ((v_0 123 o) + 1)), (upB (upB (upB (v_0 300) ((pr (T 120 o) (Int.toNat (v_0 123 o)))) v_k) ((pr (T 121 o) (Int.toNat (v_0 123 o)))) v_x) ((pr (T 122 o) (Int.toNat (v_0 123 o)))) v_p), rfl, ⟨⟨upB_same _ _ _, rfl⟩, (Kd_tr (Kd_tr (Kd_tr Kd_rf (Kd_up (wok (wo_120 hT t_o) (by decide)) (by decide))) (Kd_up (wok (wo_121 hT t_o) (by decide)) (by decide))) (Kd_up (wok (wo_122 hT t_o) (by decide)) (by decide)))⟩⟩ dX5_keep_57
set_option maxHeartbeats 4000000 in
set_option maxRecDepth 100000 in
theorem c_X5_scanToken (l : Launch) (D : va_G) (cy : Nat → ClassId) (T : Nat → Nat → Nat) (v_0 : Nat → Nat → Int) (κ : Nat → Nat → Nat) (o : Nat) (a_t : Nat) (v_f : Int) (hO : ∀ x, ow T x → κ 2 2 ≤ x) (t_o : T 0 o = 6) (t_t : T 0 a_t = 23) (r_v_f : inR v_f) (hp0 : 0 ≤ (v_0 123 o) ∧ (v_0 123 o) < 400) (hp1 : 0 ≤ v_f ∧ v_f < (v_0 124 o) ∧ (v_0 124 o) ≤ (T 1 a_t : Int)) : KZ l D cy κ T yX5_scanToken cX5_scanToken 6 (some .int) 8 [.ref o, .ref a_t, .int (J v_f)] v_0 (KI (fun (z_0 : Int) (v_2 : Nat → Nat → Int) => ∃ (y123_2 : Nat → Int) (y300_2 : Nat → Int) , v_2 = upV (upV v_0 123 y123_2) 300 y300_2 ∧ ((St_ (gC_ (v_0 303) a_t) ((v_0 124 o)) (v_0 300) (y300_2) (T 120 o) (T 121 o) (T 122 o) ((v_0 123 o)) v_f z_0 ∧ (y123_2 o) = (v_0 123 o) + 1) ∧ Kd_ T [120, 121, 122] (v_0 300) y300_2))) := by
  refine KZ.ofi (by decide) (Nat.le_of_ble_eq_true rfl) hO ?_
  intro p e s m below meth c ls ar QW A0 H locs E hK hZ hA hAc hw hl hret
  have hl : lv_has ls 6 [(0, .ref o), (1, .ref a_t), (2, .int (J v_f))] := hl
  have hT : WT T := hw.1.2.1
  refine j_iload_n E 1 rfl dX5_scanToken_0 rfl (lv_at hl 2 rfl) ?_
  refine j_iconst E 2 rfl dX5_scanToken_1 ?_
  refine j_iadd E 3 rfl dX5_scanToken_2 ?_
  refine j_istore_n E 4 rfl [(3, .int (J (v_f + 1))), (0, .ref o), (1, .ref a_t), (2, .int (J v_f))] dX5_scanToken_3 rfl hl (by decide) rfl (fun ls hl => ?_)
  refine j_iload_n E 5 rfl dX5_scanToken_4 rfl (lv_at hl 3 rfl) ?_
  refine j_if_lt E 8 20 rfl r_v_f dX5_scanToken_5 (by decide) (fun cc1_ => ?_) (fun cc1_ => ?_)
  · exfalso; omega
  refine j_iload_n E 9 rfl dX5_scanToken_8 rfl (lv_at hl 3 rfl) ?_
  refine j_aload_n E 10 rfl dX5_scanToken_9 rfl (lv_at hl 2 rfl) ?_
  refine a_ln23 E hK hw t_t 11 rfl dX5_scanToken_10 (fun rr2_ => ?_)
  refine j_icmp_ge E 14 20 rfl r_v_f rr2_ dX5_scanToken_11 (by decide) (fun cc3_ => ?_) (fun cc3_ => ?_)
  · exfalso; omega
  refine j_aload_n E 15 rfl dX5_scanToken_14 rfl (lv_at hl 2 rfl) ?_
  refine j_iload_n E 16 rfl dX5_scanToken_15 rfl (lv_at hl 3 rfl) ?_
  refine a_ld23 E hK hw t_t (by omega) 17 rfl dX5_scanToken_16 (fun zz4_ he4_ rr4_ => ?_)
  have he4_ : zz4_ = v_0 303 (pr a_t (Int.toNat v_f)) := he4_
  have h0_ : zz4_ = gC_ (v_0 303) a_t v_f := he4_
  refine j_goto E 21 dX5_scanToken_17 (by decide) ?_
  refine j_istore E 23 rfl [(4, .int (J zz4_)), (3, .int (J (v_f + 1))), (0, .ref o), (1, .ref a_t), (2, .int (J v_f))] dX5_scanToken_21 hl (by decide) rfl (fun ls hl => ?_)
  refine j_iload E 25 rfl dX5_scanToken_23 (lv_at hl 0 rfl) ?_
  refine kS_i E (c_X8_isLetter l D cy T (v_0) zz4_   rr4_ ) ms_X8_isLetter ml_X5_47 hK hw hA ⟨Nat.le_of_ble_eq_true rfl, Nat.le_of_ble_eq_true rfl⟩ ⟨Nat.le_of_ble_eq_true rfl, Nat.le_of_ble_eq_true rfl⟩ (As := [.int (J zz4_)]) (rest := []) rfl rfl hl.1 (Nat.le_of_ble_eq_true rfl) 28 rfl dX5_scanToken_25 (fun zz5_ v_5 H locs rr5_ hq5_ hw => ?_)
  obtain ⟨ev5_, hh5_⟩ := hq5_
  rw [ev5_] at hw; clear ev5_
  replace hh5_ : (zz5_ = 1 ∧ ((97 ≤ zz4_ ∧ zz4_ ≤ 122) ∨ (65 ≤ zz4_ ∧ zz4_ ≤ 90))) ∨ (zz5_ = 0 ∧ ¬ ((97 ≤ zz4_ ∧ zz4_ ≤ 122) ∨ (65 ≤ zz4_ ∧ zz4_ ≤ 90))) := hh5_
  rcases hh5_ with ⟨ee5_, hh5_⟩ | ⟨ee5_, hh5_⟩
  · subst ee5_
    refine j_if_eq E 31 75 rfl (rr (by decide)) dX5_scanToken_28 (by decide) (fun cc6_ => absurd cc6_ (by decide)) (fun _ => ?_)
    have L31_7 : ∀ (k31 : Nat) (l3_31 : Int) (H : Heap) (locs : List Loc) (ls : Array Slot), inR l3_31 → (v_f < l3_31 ∧ l3_31 ≤ (v_0 124 o) ∧ ∀ i_, v_f ≤ i_ → i_ < l3_31 → isLet_ (gC_ (v_0 303) a_t i_)) → ((v_0 124 o) - l3_31).toNat < k31 → WK D cy T (v_0) A0 s.heap H locs → lv_has ls 6 [(0, .ref o), (1, .ref a_t), (2, .int (J v_f)), (3, .int (J l3_31)), (4, .int (J zz4_))] → W p l e (rmd 8 0 0) s m ar below meth c H locs 0 0 QW (F0 m 31 ls []) := by
      intro k31
      induction k31 with
      | zero =>
        intro l3_31 H locs ls r_l3_31 iv31 ms31 hw hl
        exact absurd ms31 (Nat.not_lt_zero _)
      | succ k31 ih31 =>
        intro l3_31 H locs ls r_l3_31 iv31 ms31 hw hl
        have L60_9 : ∀ (H : Heap) (locs : List Loc) (ls : Array Slot), (l3_31 < (v_0 124 o) → ¬ isLet_ (gC_ (v_0 303) a_t l3_31)) → WK D cy T (v_0) A0 s.heap H locs → lv_has ls 6 [(0, .ref o), (1, .ref a_t), (2, .int (J v_f)), (3, .int (J l3_31)), (4, .int (J zz4_))] → W p l e (rmd 8 0 0) s m ar below meth c H locs 0 0 QW (F0 m 60 ls []) := by
          intro H locs ls iv60 hw hl
          refine j_aload_n E 61 rfl dX5_scanToken_60 rfl (lv_at hl 0 rfl) ?_
          refine j_aload_n E 62 rfl dX5_scanToken_61 rfl (lv_at hl 1 rfl) ?_
          refine j_iload_n E 63 rfl dX5_scanToken_62 rfl (lv_at hl 2 rfl) ?_
          refine j_iload_n E 64 rfl dX5_scanToken_63 rfl (lv_at hl 3 rfl) ?_
          refine zS_i E (c_X8_keywordIn l D cy T (v_0) κ a_t v_f l3_31  hO  t_t r_v_f r_l3_31 (show 0 ≤ v_f ∧ v_f ≤ l3_31 ∧ l3_31 ≤ (T 1 a_t : Int) from by omega)) ms_X8_keywordIn ml_X5_50 hK hZ hAc hw hA ⟨Nat.le_of_ble_eq_true rfl, Nat.le_of_ble_eq_true rfl⟩ ⟨Nat.le_of_ble_eq_true rfl, Nat.le_of_ble_eq_true rfl⟩ (As := [.ref a_t, .int (J v_f), .int (J l3_31)]) (rest := [.ref o]) rfl rfl hl.1 (Nat.le_of_ble_eq_true rfl) 67 rfl dX5_scanToken_64 (fun zz11_ v_11 H locs rr11_ hq11_ hw => ?_)
          obtain ⟨ev11_, hh11_⟩ := hq11_
          rw [ev11_] at hw; clear ev11_
          replace hh11_ : Wk_ (gC_ (v_0 303) a_t) v_f l3_31 zz11_ := hh11_
          have wk_ := hh11_
          clear hh11_
          refine j_iconst E 68 rfl dX5_scanToken_67 ?_
          refine j_iload_n E 69 rfl dX5_scanToken_68 rfl (lv_at hl 2 rfl) ?_
          refine kV_v E (c_X5_keep l D cy T (v_0) o zz11_ 0 v_f  t_o rr11_ (rr (by decide)) r_v_f (show 0 ≤ ((v_0 123) o) ∧ ((v_0 123) o) < 400 from by omega)) mt_X5_keep ml_X5_54 hK hw (cw_rc6 hK hw.1 t_o) hA ⟨Nat.le_of_ble_eq_true rfl, Nat.le_of_ble_eq_true rfl⟩ ⟨Nat.le_of_ble_eq_true rfl, Nat.le_of_ble_eq_true rfl⟩ (As := [.int (J zz11_), .int (J 0), .int (J v_f)]) (rest := []) rfl rfl hl.1 (Nat.le_of_ble_eq_true rfl) 72 rfl dX5_scanToken_69 (fun v_12 H locs hq12_ hw => ?_)
          obtain ⟨y123_12, y300_12, ev12_, hh12_⟩ := hq12_
          rw [ev12_] at hw; clear ev12_
          have hw : WK D cy T (upV (upV v_0 123 y123_12) 300 y300_12) A0 s.heap H locs := cw_eq hw (by first | rfl | (funext j_; simp only [upV, reduceIte]; (repeat' split) <;> first | rfl | omega | (subst_vars; rfl)))
          obtain ⟨hh12_, kf12_⟩ := hh12_
          replace hh12_ : (y123_12 o) = ((v_0 123) o) + 1 ∧ (y300_12) = upB (upB (upB (v_0 300) (pr (T 120 o) (Int.toNat (((v_0 123) o)))) zz11_) (pr (T 121 o) (Int.toNat (((v_0 123) o)))) (0 : Int)) (pr (T 122 o) (Int.toNat (((v_0 123) o)))) v_f := hh12_
          have st_ : St_ (gC_ (v_0 303) a_t) ((v_0 124 o)) (v_0 300) (y300_12) (T 120 o) (T 121 o) (T 122 o) ((v_0 123 o)) v_f l3_31 := ⟨_, _, Lt_wk (by omega) (by omega) (by omega) iv31.2.2 iv60 wk_, hh12_.2⟩
          have ct_ := hh12_.1
          refine j_goto E 175 dX5_scanToken_72 (by decide) ?_
          refine j_iload_n E 176 rfl dX5_scanToken_175 rfl (lv_at hl 3 rfl) ?_
          exact hret 176 l3_31 (upV (upV v_0 123 y123_12) 300 y300_12) _ _ ls hw r_l3_31 ⟨y123_12, y300_12, rfl, ⟨⟨st_, ct_⟩, (Kd_tr Kd_rf (Kd_mono kf12_ (by decide)))⟩⟩ dX5_scanToken_176
        refine j_iload_n E 32 rfl dX5_scanToken_31 rfl (lv_at hl 3 rfl) ?_
        refine j_aload_n E 33 rfl dX5_scanToken_32 rfl (lv_at hl 0 rfl) ?_
        refine g_124 E hK hw fl_X5_25 t_o (v_0 124 o) rfl 36 rfl dX5_scanToken_33 (fun rr13_ => ?_)
        refine j_icmp_ge E 39 60 rfl r_l3_31 rr13_ dX5_scanToken_36 (by decide) (fun cc14_ => ?_) (fun cc14_ => ?_)
        · exact L60_9   H locs ls  (fun q_ => by first | omega | (unfold isLet_; omega)) hw (lv_sub hl [0, 1, 2, 3, 4] rfl)
        · refine j_iload_n E 40 rfl dX5_scanToken_39 rfl (lv_at hl 3 rfl) ?_
          refine j_aload_n E 41 rfl dX5_scanToken_40 rfl (lv_at hl 1 rfl) ?_
          refine a_ln23 E hK hw t_t 42 rfl dX5_scanToken_41 (fun _ => ?_)
          refine j_icmp_ge E 45 60 rfl r_l3_31 rr2_ dX5_scanToken_42 (by decide) (fun cc15_ => ?_) (fun cc15_ => ?_)
          · exfalso; omega
          refine j_aload_n E 46 rfl dX5_scanToken_45 rfl (lv_at hl 1 rfl) ?_
          refine j_iload_n E 47 rfl dX5_scanToken_46 rfl (lv_at hl 3 rfl) ?_
          refine a_ld23 E hK hw t_t (by omega) 48 rfl dX5_scanToken_47 (fun zz16_ he16_ rr16_ => ?_)
          have he16_ : zz16_ = v_0 303 (pr a_t (Int.toNat l3_31)) := he16_
          have he_ : zz16_ = gC_ (v_0 303) a_t l3_31 := he16_
          refine kS_i E (c_X8_isLetter l D cy T (v_0) zz16_   rr16_ ) ms_X8_isLetter ml_X5_47 hK hw hA ⟨Nat.le_of_ble_eq_true rfl, Nat.le_of_ble_eq_true rfl⟩ ⟨Nat.le_of_ble_eq_true rfl, Nat.le_of_ble_eq_true rfl⟩ (As := [.int (J zz16_)]) (rest := []) rfl rfl hl.1 (Nat.le_of_ble_eq_true rfl) 51 rfl dX5_scanToken_48 (fun zz17_ v_17 H locs rr17_ hq17_ hw => ?_)
          obtain ⟨ev17_, hh17_⟩ := hq17_
          rw [ev17_] at hw; clear ev17_
          replace hh17_ : (zz17_ = 1 ∧ ((97 ≤ zz16_ ∧ zz16_ ≤ 122) ∨ (65 ≤ zz16_ ∧ zz16_ ≤ 90))) ∨ (zz17_ = 0 ∧ ¬ ((97 ≤ zz16_ ∧ zz16_ ≤ 122) ∨ (65 ≤ zz16_ ∧ zz16_ ≤ 90))) := hh17_
          rcases hh17_ with ⟨ee17_, hh17_⟩ | ⟨ee17_, hh17_⟩
          · subst ee17_
            refine j_if_eq E 54 60 rfl (rr (by decide)) dX5_scanToken_51 (by decide) (fun cc18_ => absurd cc18_ (by decide)) (fun _ => ?_)
            refine j_iinc E 57 rfl [(3, .int (J (l3_31 + 1))), (0, .ref o), (1, .ref a_t), (2, .int (J v_f)), (4, .int (J zz4_))] dX5_scanToken_54 hl (kk := 3) rfl (by decide) rfl (fun ls hl => ?_)
            refine j_goto E 31 dX5_scanToken_57 (by decide) ?_
            exact ih31 (l3_31 + 1)  H locs ls (rr (by omega)) (⟨by omega, by omega, qr_st iv31.2.2 (by unfold isLet_; omega)⟩) (by omega) hw (lv_sub hl [1, 2, 3, 0, 4] rfl)
          · subst ee17_
            refine j_if_eq E 54 60 rfl (rr (by decide)) dX5_scanToken_51 (by decide) (fun _ => ?_) (fun cc19_ => absurd cc19_ (by decide))
            exact L60_9   H locs ls  (fun q_ => by first | omega | (unfold isLet_; omega)) hw (lv_sub hl [0, 1, 2, 3, 4] rfl)
    exact L31_7 _ (v_f + 1)  H locs ls (rr (by omega)) (⟨by omega, by omega, fun i_ h1_ h2_ => by rw [show i_ = v_f by omega]; unfold isLet_; omega⟩) (Nat.lt_succ_self _) hw (lv_sub hl [2, 3, 4, 1, 0] rfl)
  · subst ee5_
    refine j_if_eq E 31 75 rfl (rr (by decide)) dX5_scanToken_28 (by decide) (fun _ => ?_) (fun cc20_ => absurd cc20_ (by decide))
    refine j_iload E 77 rfl dX5_scanToken_75 (lv_at hl 0 rfl) ?_
    refine kS_i E (c_X8_isDigit l D cy T (v_0) zz4_   rr4_ ) ms_X8_isDigit ml_X5_58 hK hw hA ⟨Nat.le_of_ble_eq_true rfl, Nat.le_of_ble_eq_true rfl⟩ ⟨Nat.le_of_ble_eq_true rfl, Nat.le_of_ble_eq_true rfl⟩ (As := [.int (J zz4_)]) (rest := []) rfl rfl hl.1 (Nat.le_of_ble_eq_true rfl) 80 rfl dX5_scanToken_77 (fun zz21_ v_21 H locs rr21_ hq21_ hw => ?_)
    obtain ⟨ev21_, hh21_⟩ := hq21_
    rw [ev21_] at hw; clear ev21_
    replace hh21_ : (zz21_ = 1 ∧ (48 ≤ zz4_ ∧ zz4_ ≤ 57)) ∨ (zz21_ = 0 ∧ ¬ (48 ≤ zz4_ ∧ zz4_ ≤ 57)) := hh21_
    rcases hh21_ with ⟨ee21_, hh21_⟩ | ⟨ee21_, hh21_⟩
    · subst ee21_
      refine j_if_eq E 83 155 rfl (rr (by decide)) dX5_scanToken_80 (by decide) (fun cc22_ => absurd cc22_ (by decide)) (fun _ => ?_)
      refine j_iload E 85 rfl dX5_scanToken_83 (lv_at hl 0 rfl) ?_
      refine j_bipush E 87 rfl dX5_scanToken_85 (by decide) ?_
      refine j_isub E 88 rfl dX5_scanToken_87 ?_
      refine j_istore E 90 rfl [(5, .int (J (zz4_ - 48))), (4, .int (J zz4_)), (3, .int (J (v_f + 1))), (0, .ref o), (1, .ref a_t), (2, .int (J v_f))] dX5_scanToken_88 hl (by decide) rfl (fun ls hl => ?_)
      have L90_23 : ∀ (k90 : Nat) (l3_90 l5_90 : Int) (H : Heap) (locs : List Loc) (ls : Array Slot), inR l3_90 → inR l5_90 → ((v_f < l3_90 ∧ l3_90 ≤ (v_0 124 o)) ∧ (∀ i_, v_f ≤ i_ → i_ < l3_90 → isDig_ (gC_ (v_0 303) a_t i_)) ∧ (l3_90 - v_f ≤ 4 → l5_90 = dv_ (gC_ (v_0 303) a_t) v_f (l3_90 - v_f).toNat)) → ((v_0 124 o) - l3_90).toNat < k90 → WK D cy T (v_0) A0 s.heap H locs → lv_has ls 6 [(0, .ref o), (1, .ref a_t), (2, .int (J v_f)), (3, .int (J l3_90)), (4, .int (J zz4_)), (5, .int (J l5_90))] → W p l e (rmd 8 0 0) s m ar below meth c H locs 0 0 QW (F0 m 90 ls []) := by
        intro k90
        induction k90 with
        | zero =>
          intro l3_90 l5_90 H locs ls r_l3_90 r_l5_90 iv90 ms90 hw hl
          exact absurd ms90 (Nat.not_lt_zero _)
        | succ k90 ih90 =>
          intro l3_90 l5_90 H locs ls r_l3_90 r_l5_90 iv90 ms90 hw hl
          have L133_25 : ∀ (H : Heap) (locs : List Loc) (ls : Array Slot), (l3_90 < (v_0 124 o) → ¬ isDig_ (gC_ (v_0 303) a_t l3_90)) → WK D cy T (v_0) A0 s.heap H locs → lv_has ls 6 [(0, .ref o), (1, .ref a_t), (2, .int (J v_f)), (3, .int (J l3_90)), (4, .int (J zz4_)), (5, .int (J l5_90))] → W p l e (rmd 8 0 0) s m ar below meth c H locs 0 0 QW (F0 m 133 ls []) := by
            intro H locs ls iv133 hw hl
            refine j_aload_n E 134 rfl dX5_scanToken_133 rfl (lv_at hl 0 rfl) ?_
            refine j_iload_n E 135 rfl dX5_scanToken_134 rfl (lv_at hl 3 rfl) ?_
            refine j_iload_n E 136 rfl dX5_scanToken_135 rfl (lv_at hl 2 rfl) ?_
            refine j_isub E 137 rfl dX5_scanToken_136 ?_
            refine j_iconst E 138 rfl dX5_scanToken_137 ?_
            refine j_icmp_gt E 141 145 rfl (rr (by omega)) (rr (by decide)) dX5_scanToken_138 (by decide) (fun cc27_ => ?_) (fun cc27_ => ?_)
            · refine j_iconst E 146 rfl dX5_scanToken_145 ?_
              refine j_iload E 148 rfl dX5_scanToken_146 (lv_at hl 5 rfl) ?_
              refine j_iload_n E 149 rfl dX5_scanToken_148 rfl (lv_at hl 2 rfl) ?_
              refine kV_v E (c_X5_keep l D cy T (v_0) o 2 l5_90 v_f  t_o (rr (by decide)) r_l5_90 r_v_f (show 0 ≤ ((v_0 123) o) ∧ ((v_0 123) o) < 400 from by omega)) mt_X5_keep ml_X5_54 hK hw (cw_rc6 hK hw.1 t_o) hA ⟨Nat.le_of_ble_eq_true rfl, Nat.le_of_ble_eq_true rfl⟩ ⟨Nat.le_of_ble_eq_true rfl, Nat.le_of_ble_eq_true rfl⟩ (As := [.int (J 2), .int (J l5_90), .int (J v_f)]) (rest := []) rfl rfl hl.1 (Nat.le_of_ble_eq_true rfl) 152 rfl dX5_scanToken_149 (fun v_28 H locs hq28_ hw => ?_)
              obtain ⟨y123_28, y300_28, ev28_, hh28_⟩ := hq28_
              rw [ev28_] at hw; clear ev28_
              have hw : WK D cy T (upV (upV v_0 123 y123_28) 300 y300_28) A0 s.heap H locs := cw_eq hw (by first | rfl | (funext j_; simp only [upV, reduceIte]; (repeat' split) <;> first | rfl | omega | (subst_vars; rfl)))
              obtain ⟨hh28_, kf28_⟩ := hh28_
              replace hh28_ : (y123_28 o) = ((v_0 123) o) + 1 ∧ (y300_28) = upB (upB (upB (v_0 300) (pr (T 120 o) (Int.toNat (((v_0 123) o)))) (2 : Int)) (pr (T 121 o) (Int.toNat (((v_0 123) o)))) l5_90) (pr (T 122 o) (Int.toNat (((v_0 123) o)))) v_f := hh28_
              have st_ : St_ (gC_ (v_0 303) a_t) ((v_0 124 o)) (v_0 300) (y300_28) (T 120 o) (T 121 o) (T 122 o) ((v_0 123 o)) v_f l3_90 := by first | exact ⟨_, _, Lt_d1 (by omega) (by omega) (by omega) iv90.2.1 iv133 (by omega) (iv90.2.2 (by omega)), hh28_.2⟩ | exact ⟨_, _, Lt_d0 (by omega) (by omega) (by omega) iv90.2.1 iv133 (by omega), hh28_.2⟩
              have ct_ := hh28_.1
              refine j_goto E 175 dX5_scanToken_152 (by decide) ?_
              refine j_iload_n E 176 rfl dX5_scanToken_175 rfl (lv_at hl 3 rfl) ?_
              exact hret 176 l3_90 (upV (upV v_0 123 y123_28) 300 y300_28) _ _ ls hw r_l3_90 ⟨y123_28, y300_28, rfl, ⟨⟨st_, ct_⟩, (Kd_tr Kd_rf (Kd_mono kf28_ (by decide)))⟩⟩ dX5_scanToken_176
            · refine j_iconst E 142 rfl dX5_scanToken_141 ?_
              refine j_goto E 146 dX5_scanToken_142 (by decide) ?_
              refine j_iload E 148 rfl dX5_scanToken_146 (lv_at hl 5 rfl) ?_
              refine j_iload_n E 149 rfl dX5_scanToken_148 rfl (lv_at hl 2 rfl) ?_
              refine kV_v E (c_X5_keep l D cy T (v_0) o 3 l5_90 v_f  t_o (rr (by decide)) r_l5_90 r_v_f (show 0 ≤ ((v_0 123) o) ∧ ((v_0 123) o) < 400 from by omega)) mt_X5_keep ml_X5_54 hK hw (cw_rc6 hK hw.1 t_o) hA ⟨Nat.le_of_ble_eq_true rfl, Nat.le_of_ble_eq_true rfl⟩ ⟨Nat.le_of_ble_eq_true rfl, Nat.le_of_ble_eq_true rfl⟩ (As := [.int (J 3), .int (J l5_90), .int (J v_f)]) (rest := []) rfl rfl hl.1 (Nat.le_of_ble_eq_true rfl) 152 rfl dX5_scanToken_149 (fun v_29 H locs hq29_ hw => ?_)
              obtain ⟨y123_29, y300_29, ev29_, hh29_⟩ := hq29_
              rw [ev29_] at hw; clear ev29_
              have hw : WK D cy T (upV (upV v_0 123 y123_29) 300 y300_29) A0 s.heap H locs := cw_eq hw (by first | rfl | (funext j_; simp only [upV, reduceIte]; (repeat' split) <;> first | rfl | omega | (subst_vars; rfl)))
              obtain ⟨hh29_, kf29_⟩ := hh29_
              replace hh29_ : (y123_29 o) = ((v_0 123) o) + 1 ∧ (y300_29) = upB (upB (upB (v_0 300) (pr (T 120 o) (Int.toNat (((v_0 123) o)))) (3 : Int)) (pr (T 121 o) (Int.toNat (((v_0 123) o)))) l5_90) (pr (T 122 o) (Int.toNat (((v_0 123) o)))) v_f := hh29_
              have st_ : St_ (gC_ (v_0 303) a_t) ((v_0 124 o)) (v_0 300) (y300_29) (T 120 o) (T 121 o) (T 122 o) ((v_0 123 o)) v_f l3_90 := by first | exact ⟨_, _, Lt_d1 (by omega) (by omega) (by omega) iv90.2.1 iv133 (by omega) (iv90.2.2 (by omega)), hh29_.2⟩ | exact ⟨_, _, Lt_d0 (by omega) (by omega) (by omega) iv90.2.1 iv133 (by omega), hh29_.2⟩
              have ct_ := hh29_.1
              refine j_goto E 175 dX5_scanToken_152 (by decide) ?_
              refine j_iload_n E 176 rfl dX5_scanToken_175 rfl (lv_at hl 3 rfl) ?_
              exact hret 176 l3_90 (upV (upV v_0 123 y123_29) 300 y300_29) _ _ ls hw r_l3_90 ⟨y123_29, y300_29, rfl, ⟨⟨st_, ct_⟩, (Kd_tr Kd_rf (Kd_mono kf29_ (by decide)))⟩⟩ dX5_scanToken_176
          refine j_iload_n E 91 rfl dX5_scanToken_90 rfl (lv_at hl 3 rfl) ?_
          refine j_aload_n E 92 rfl dX5_scanToken_91 rfl (lv_at hl 0 rfl) ?_
          refine g_124 E hK hw fl_X5_25 t_o (v_0 124 o) rfl 95 rfl dX5_scanToken_92 (fun rr30_ => ?_)
          refine j_icmp_ge E 98 133 rfl r_l3_90 rr30_ dX5_scanToken_95 (by decide) (fun cc31_ => ?_) (fun cc31_ => ?_)
          · exact L133_25   H locs ls  (fun q_ => by first | omega | (unfold isDig_; omega)) hw (lv_sub hl [0, 1, 2, 3, 4, 5] rfl)
          · refine j_iload_n E 99 rfl dX5_scanToken_98 rfl (lv_at hl 3 rfl) ?_
            refine j_aload_n E 100 rfl dX5_scanToken_99 rfl (lv_at hl 1 rfl) ?_
            refine a_ln23 E hK hw t_t 101 rfl dX5_scanToken_100 (fun _ => ?_)
            refine j_icmp_ge E 104 133 rfl r_l3_90 rr2_ dX5_scanToken_101 (by decide) (fun cc32_ => ?_) (fun cc32_ => ?_)
            · exfalso; omega
            refine j_aload_n E 105 rfl dX5_scanToken_104 rfl (lv_at hl 1 rfl) ?_
            refine j_iload_n E 106 rfl dX5_scanToken_105 rfl (lv_at hl 3 rfl) ?_
            refine a_ld23 E hK hw t_t (by omega) 107 rfl dX5_scanToken_106 (fun zz33_ he33_ rr33_ => ?_)
            have he33_ : zz33_ = v_0 303 (pr a_t (Int.toNat l3_90)) := he33_
            have he_ : zz33_ = gC_ (v_0 303) a_t l3_90 := he33_
            refine kS_i E (c_X8_isDigit l D cy T (v_0) zz33_   rr33_ ) ms_X8_isDigit ml_X5_58 hK hw hA ⟨Nat.le_of_ble_eq_true rfl, Nat.le_of_ble_eq_true rfl⟩ ⟨Nat.le_of_ble_eq_true rfl, Nat.le_of_ble_eq_true rfl⟩ (As := [.int (J zz33_)]) (rest := []) rfl rfl hl.1 (Nat.le_of_ble_eq_true rfl) 110 rfl dX5_scanToken_107 (fun zz34_ v_34 H locs rr34_ hq34_ hw => ?_)
            obtain ⟨ev34_, hh34_⟩ := hq34_
            rw [ev34_] at hw; clear ev34_
            replace hh34_ : (zz34_ = 1 ∧ (48 ≤ zz33_ ∧ zz33_ ≤ 57)) ∨ (zz34_ = 0 ∧ ¬ (48 ≤ zz33_ ∧ zz33_ ≤ 57)) := hh34_
            rcases hh34_ with ⟨ee34_, hh34_⟩ | ⟨ee34_, hh34_⟩
            · subst ee34_
              refine j_if_eq E 113 133 rfl (rr (by decide)) dX5_scanToken_110 (by decide) (fun cc35_ => absurd cc35_ (by decide)) (fun _ => ?_)
              refine j_iload E 115 rfl dX5_scanToken_113 (lv_at hl 5 rfl) ?_
              refine j_bipush E 117 rfl dX5_scanToken_115 (by decide) ?_
              refine j_imul E 118 rfl dX5_scanToken_117 ?_
              refine j_aload_n E 119 rfl dX5_scanToken_118 rfl (lv_at hl 1 rfl) ?_
              refine j_iload_n E 120 rfl dX5_scanToken_119 rfl (lv_at hl 3 rfl) ?_
              refine a_ld23 E hK hw t_t (by omega) 121 rfl dX5_scanToken_120 (fun zz36_ he36_ rr36_ => ?_)
              have he36_ : zz36_ = v_0 303 (pr a_t (Int.toNat l3_90)) := he36_
              have hf_ : zz36_ = gC_ (v_0 303) a_t l3_90 := he36_
              refine j_bipush E 123 rfl dX5_scanToken_121 (by decide) ?_
              refine j_isub E 124 rfl dX5_scanToken_123 ?_
              refine j_iadd E 125 rfl dX5_scanToken_124 ?_
              refine j_norm (fun zz37_ rr37_ ee37_ => ?_)
              have en_ := ee37_
              have rn_ := rr37_
              refine j_istore E 127 rfl [(5, .int (J zz37_)), (0, .ref o), (1, .ref a_t), (2, .int (J v_f)), (3, .int (J l3_90)), (4, .int (J zz4_))] dX5_scanToken_125 hl (by decide) rfl (fun ls hl => ?_)
              refine j_iinc E 130 rfl [(3, .int (J (l3_90 + 1))), (5, .int (J zz37_)), (0, .ref o), (1, .ref a_t), (2, .int (J v_f)), (4, .int (J zz4_))] dX5_scanToken_127 hl (kk := 4) rfl (by decide) rfl (fun ls hl => ?_)
              refine j_goto E 90 dX5_scanToken_130 (by decide) ?_
              exact ih90 (l3_90 + 1) zz37_  H locs ls (rr (by omega)) rr37_ (⟨by omega, qr_st iv90.2.1 (by unfold isDig_; omega), fun h_ => by have va_ := iv90.2.2 (by omega); have vb_ := dv_sm iv90.2.1 (by omega) (by omega); have ev_ := (J_inj rn_ (rr (by omega))).mp en_; rw [dv_nx (by omega)]; omega⟩) (by omega) hw (lv_sub hl [2, 3, 4, 0, 5, 1] rfl)
            · subst ee34_
              refine j_if_eq E 113 133 rfl (rr (by decide)) dX5_scanToken_110 (by decide) (fun _ => ?_) (fun cc38_ => absurd cc38_ (by decide))
              exact L133_25   H locs ls  (fun q_ => by first | omega | (unfold isDig_; omega)) hw (lv_sub hl [0, 1, 2, 3, 4, 5] rfl)
      exact L90_23 _ (v_f + 1) (zz4_ - 48)  H locs ls (rr (by omega)) (rr (by omega)) (⟨by omega, fun i_ h1_ h2_ => by rw [show i_ = v_f by omega]; unfold isDig_; omega, fun _ => by rw [dv_1]; omega⟩) (Nat.lt_succ_self _) hw (lv_sub hl [3, 4, 5, 2, 1, 0] rfl)
    · subst ee21_
      refine j_if_eq E 83 155 rfl (rr (by decide)) dX5_scanToken_80 (by decide) (fun _ => ?_) (fun cc39_ => absurd cc39_ (by decide))
      refine j_aload_n E 156 rfl dX5_scanToken_155 rfl (lv_at hl 2 rfl) ?_
      refine j_iload E 158 rfl dX5_scanToken_156 (lv_at hl 0 rfl) ?_
      refine kS_i E (c_X8_isSign l D cy T (v_0) zz4_   rr4_ ) ms_X8_isSign ml_X5_61 hK hw hA ⟨Nat.le_of_ble_eq_true rfl, Nat.le_of_ble_eq_true rfl⟩ ⟨Nat.le_of_ble_eq_true rfl, Nat.le_of_ble_eq_true rfl⟩ (As := [.int (J zz4_)]) (rest := [.ref o]) rfl rfl hl.1 (Nat.le_of_ble_eq_true rfl) 161 rfl dX5_scanToken_158 (fun zz40_ v_40 H locs rr40_ hq40_ hw => ?_)
      obtain ⟨ev40_, hh40_⟩ := hq40_
      rw [ev40_] at hw; clear ev40_
      replace hh40_ : (zz40_ = 1 ∧ (zz4_ = 59 ∨ zz4_ = 43 ∨ zz4_ = 45 ∨ zz4_ = 42 ∨ zz4_ = 47 ∨ zz4_ = 40 ∨ zz4_ = 41 ∨ zz4_ = 60 ∨ zz4_ = 61 ∨ zz4_ = 62)) ∨ (zz40_ = 0 ∧ ¬ (zz4_ = 59 ∨ zz4_ = 43 ∨ zz4_ = 45 ∨ zz4_ = 42 ∨ zz4_ = 47 ∨ zz4_ = 40 ∨ zz4_ = 41 ∨ zz4_ = 60 ∨ zz4_ = 61 ∨ zz4_ = 62)) := hh40_
      rcases hh40_ with ⟨ee40_, hh40_⟩ | ⟨ee40_, hh40_⟩
      · subst ee40_
        refine j_if_eq E 164 169 rfl (rr (by decide)) dX5_scanToken_161 (by decide) (fun cc41_ => absurd cc41_ (by decide)) (fun _ => ?_)
        refine j_iload E 166 rfl dX5_scanToken_164 (lv_at hl 0 rfl) ?_
        refine j_goto E 170 dX5_scanToken_166 (by decide) ?_
        refine j_iconst E 171 rfl dX5_scanToken_170 ?_
        refine j_iload_n E 172 rfl dX5_scanToken_171 rfl (lv_at hl 4 rfl) ?_
        refine kV_v E (c_X5_keep l D cy T (v_0) o zz4_ 0 v_f  t_o rr4_ (rr (by decide)) r_v_f (show 0 ≤ ((v_0 123) o) ∧ ((v_0 123) o) < 400 from by omega)) mt_X5_keep ml_X5_54 hK hw (cw_rc6 hK hw.1 t_o) hA ⟨Nat.le_of_ble_eq_true rfl, Nat.le_of_ble_eq_true rfl⟩ ⟨Nat.le_of_ble_eq_true rfl, Nat.le_of_ble_eq_true rfl⟩ (As := [.int (J zz4_), .int (J 0), .int (J v_f)]) (rest := []) rfl rfl hl.1 (Nat.le_of_ble_eq_true rfl) 175 rfl dX5_scanToken_172 (fun v_42 H locs hq42_ hw => ?_)
        obtain ⟨y123_42, y300_42, ev42_, hh42_⟩ := hq42_
        rw [ev42_] at hw; clear ev42_
        have hw : WK D cy T (upV (upV v_0 123 y123_42) 300 y300_42) A0 s.heap H locs := cw_eq hw (by first | rfl | (funext j_; simp only [upV, reduceIte]; (repeat' split) <;> first | rfl | omega | (subst_vars; rfl)))
        obtain ⟨hh42_, kf42_⟩ := hh42_
        replace hh42_ : (y123_42 o) = ((v_0 123) o) + 1 ∧ (y300_42) = upB (upB (upB (v_0 300) (pr (T 120 o) (Int.toNat (((v_0 123) o)))) zz4_) (pr (T 121 o) (Int.toNat (((v_0 123) o)))) (0 : Int)) (pr (T 122 o) (Int.toNat (((v_0 123) o)))) v_f := hh42_
        have st_ : St_ (gC_ (v_0 303) a_t) ((v_0 124 o)) (v_0 300) (y300_42) (T 120 o) (T 121 o) (T 122 o) ((v_0 123 o)) v_f (v_f + 1) := by first | exact ⟨_, _, Lt_s1 (by omega) (by unfold isLet_; omega) (by unfold isDig_; omega) (by unfold isSg_; omega) (by omega), hh42_.2⟩ | exact ⟨_, _, Lt_s0 (by omega) (by unfold isLet_; omega) (by unfold isDig_; omega) (by unfold isSg_; omega), hh42_.2⟩
        have ct_ := hh42_.1
        refine j_iload_n E 176 rfl dX5_scanToken_175 rfl (lv_at hl 1 rfl) ?_
        exact hret 176 (v_f + 1) (upV (upV v_0 123 y123_42) 300 y300_42) _ _ ls hw (rr (by omega)) ⟨y123_42, y300_42, rfl, ⟨⟨st_, ct_⟩, (Kd_tr Kd_rf (Kd_mono kf42_ (by decide)))⟩⟩ dX5_scanToken_176
      · subst ee40_
        refine j_if_eq E 164 169 rfl (rr (by decide)) dX5_scanToken_161 (by decide) (fun _ => ?_) (fun cc43_ => absurd cc43_ (by decide))
        refine j_iconst E 170 rfl dX5_scanToken_169 ?_
        refine j_iconst E 171 rfl dX5_scanToken_170 ?_
        refine j_iload_n E 172 rfl dX5_scanToken_171 rfl (lv_at hl 4 rfl) ?_
        refine kV_v E (c_X5_keep l D cy T (v_0) o 2 0 v_f  t_o (rr (by decide)) (rr (by decide)) r_v_f (show 0 ≤ ((v_0 123) o) ∧ ((v_0 123) o) < 400 from by omega)) mt_X5_keep ml_X5_54 hK hw (cw_rc6 hK hw.1 t_o) hA ⟨Nat.le_of_ble_eq_true rfl, Nat.le_of_ble_eq_true rfl⟩ ⟨Nat.le_of_ble_eq_true rfl, Nat.le_of_ble_eq_true rfl⟩ (As := [.int (J 2), .int (J 0), .int (J v_f)]) (rest := []) rfl rfl hl.1 (Nat.le_of_ble_eq_true rfl) 175 rfl dX5_scanToken_172 (fun v_44 H locs hq44_ hw => ?_)
        obtain ⟨y123_44, y300_44, ev44_, hh44_⟩ := hq44_
        rw [ev44_] at hw; clear ev44_
        have hw : WK D cy T (upV (upV v_0 123 y123_44) 300 y300_44) A0 s.heap H locs := cw_eq hw (by first | rfl | (funext j_; simp only [upV, reduceIte]; (repeat' split) <;> first | rfl | omega | (subst_vars; rfl)))
        obtain ⟨hh44_, kf44_⟩ := hh44_
        replace hh44_ : (y123_44 o) = ((v_0 123) o) + 1 ∧ (y300_44) = upB (upB (upB (v_0 300) (pr (T 120 o) (Int.toNat (((v_0 123) o)))) (2 : Int)) (pr (T 121 o) (Int.toNat (((v_0 123) o)))) (0 : Int)) (pr (T 122 o) (Int.toNat (((v_0 123) o)))) v_f := hh44_
        have st_ : St_ (gC_ (v_0 303) a_t) ((v_0 124 o)) (v_0 300) (y300_44) (T 120 o) (T 121 o) (T 122 o) ((v_0 123 o)) v_f (v_f + 1) := by first | exact ⟨_, _, Lt_s1 (by omega) (by unfold isLet_; omega) (by unfold isDig_; omega) (by unfold isSg_; omega) (by omega), hh44_.2⟩ | exact ⟨_, _, Lt_s0 (by omega) (by unfold isLet_; omega) (by unfold isDig_; omega) (by unfold isSg_; omega), hh44_.2⟩
        have ct_ := hh44_.1
        refine j_iload_n E 176 rfl dX5_scanToken_175 rfl (lv_at hl 1 rfl) ?_
        exact hret 176 (v_f + 1) (upV (upV v_0 123 y123_44) 300 y300_44) _ _ ls hw (rr (by omega)) ⟨y123_44, y300_44, rfl, ⟨⟨st_, ct_⟩, (Kd_tr Kd_rf (Kd_mono kf44_ (by decide)))⟩⟩ dX5_scanToken_176
set_option maxHeartbeats 4000000 in
set_option maxRecDepth 100000 in
theorem c_X5_scan (l : Launch) (D : va_G) (cy : Nat → ClassId) (T : Nat → Nat → Nat) (v_0 : Nat → Nat → Int) (κ : Nat → Nat → Nat) (o : Nat) (a_t : Nat) (v_n : Int) (hO : ∀ x, ow T x → κ 2 2 ≤ x) (t_o : T 0 o = 6) (t_t : T 0 a_t = 23) (r_v_n : inR v_n) (hp0 : 0 ≤ v_n ∧ v_n ≤ (T 1 a_t : Int) ∧ (T 1 a_t : Int) ≤ 400) : KZ l D cy κ T yX5_scan cX5_scan 5 none 9 [.ref o, .ref a_t, .int (J v_n)] v_0 (KV (fun (v_2 : Nat → Nat → Int) => ∃ (y123_2 : Nat → Int) (y124_2 : Nat → Int) (y300_2 : Nat → Int) , v_2 = upV (upV (upV v_0 123 y123_2) 124 y124_2) 300 y300_2 ∧ ((Ch_ (gC_ (v_0 303) a_t) v_n (y300_2) (T 120 o) (T 121 o) (T 122 o) ((y123_2 o)) v_n ∧ (y124_2 o) = v_n) ∧ Kd_ T [120, 121, 122] (v_0 300) y300_2))) := by
  refine KZ.ofv (by decide) (Nat.le_of_ble_eq_true rfl) hO ?_
  intro p e s m below meth c ls ar QW A0 H locs E hK hZ hA hAc hw hl hret
  have hl : lv_has ls 5 [(0, .ref o), (1, .ref a_t), (2, .int (J v_n))] := hl
  have hT : WT T := hw.1.2.1
  have n1_ : T 120 o ≠ T 121 o := ro_ne (wo_120 hT t_o) (wo_121 hT t_o) (by decide) (by decide) (by omega)
  have n2_ : T 120 o ≠ T 122 o := ro_ne (wo_120 hT t_o) (wo_122 hT t_o) (by decide) (by decide) (by omega)
  have n3_ : T 121 o ≠ T 122 o := ro_ne (wo_121 hT t_o) (wo_122 hT t_o) (by decide) (by decide) (by omega)
  refine j_aload_n E 1 rfl dX5_scan_0 rfl (lv_at hl 0 rfl) ?_
  refine j_iconst E 2 rfl dX5_scan_1 ?_
  refine p_123 E hK hw fl_X5_21 t_o (rr (by decide)) 5 rfl dX5_scan_2 (fun H locs hw => ?_)
  have hw : WK D cy T (upV v_0 123 (upB (v_0 123) o 0)) A0 s.heap H locs := cw_eq hw (by first | rfl | (funext j_; simp only [upV, reduceIte]; (repeat' split) <;> first | rfl | omega | (subst_vars; rfl)))
  refine j_aload_n E 6 rfl dX5_scan_5 rfl (lv_at hl 0 rfl) ?_
  refine j_iconst E 7 rfl dX5_scan_6 ?_
  refine j_iload_n E 8 rfl dX5_scan_7 rfl (lv_at hl 2 rfl) ?_
  refine j_aload_n E 9 rfl dX5_scan_8 rfl (lv_at hl 1 rfl) ?_
  refine a_ln23 E hK hw t_t 10 rfl dX5_scan_9 (fun rr2_ => ?_)
  refine j_min E hl.1 ml_X5_28 r_v_n rr2_ ⟨Nat.le_of_ble_eq_true rfl, Nat.le_of_ble_eq_true rfl⟩ ⟨Nat.le_of_ble_eq_true rfl, Nat.le_of_ble_eq_true rfl⟩ 13 rfl dX5_scan_10 (fun zz3_ rr3_ hh3_ => ?_)
  refine j_max E hl.1 ml_X5_34 (rr (by decide)) rr3_ ⟨Nat.le_of_ble_eq_true rfl, Nat.le_of_ble_eq_true rfl⟩ ⟨Nat.le_of_ble_eq_true rfl, Nat.le_of_ble_eq_true rfl⟩ 16 rfl dX5_scan_13 (fun zz4_ rr4_ hh4_ => ?_)
  have en_ : zz4_ = v_n := by omega
  refine p_124 E hK hw fl_X5_25 t_o rr4_ 19 rfl dX5_scan_16 (fun H locs hw => ?_)
  have hw : WK D cy T (upV (upV v_0 123 (upB (v_0 123) o 0)) 124 (upB (v_0 124) o zz4_)) A0 s.heap H locs := cw_eq hw (by first | rfl | (funext j_; simp only [upV, reduceIte]; (repeat' split) <;> first | rfl | omega | (subst_vars; rfl)))
  refine j_iconst E 20 rfl dX5_scan_19 ?_
  refine j_istore_n E 21 rfl [(3, .int (J 0)), (0, .ref o), (1, .ref a_t), (2, .int (J v_n))] dX5_scan_20 rfl hl (by decide) rfl (fun ls hl => ?_)
  refine j_iconst E 22 rfl dX5_scan_21 ?_
  refine j_istore E 24 rfl [(4, .int (J 0)), (3, .int (J 0)), (0, .ref o), (1, .ref a_t), (2, .int (J v_n))] dX5_scan_22 hl (by decide) rfl (fun ls hl => ?_)
  have L24_6 : ∀ (k24 : Nat) (l3_24 l4_24 : Int) (y123_c24 : Nat → Int) (y300_c24 : Nat → Int) (H : Heap) (locs : List Loc) (ls : Array Slot), inR l3_24 → inR l4_24 → ((Ch_ (gC_ (v_0 303) a_t) v_n (y300_c24) (T 120 o) (T 121 o) (T 122 o) ((y123_c24 o)) l3_24 ∧ 0 ≤ l4_24 ∧ l4_24 ≤ l3_24 ∧ l3_24 ≤ v_n) ∧ Kd_ T [120, 121, 122] (v_0 300) y300_c24) → (v_n - l4_24).toNat < k24 → WK D cy T (upV (upV (upV v_0 123 y123_c24) 124 (upB (v_0 124) o zz4_)) 300 y300_c24) A0 s.heap H locs → lv_has ls 5 [(0, .ref o), (1, .ref a_t), (2, .int (J v_n)), (3, .int (J l3_24)), (4, .int (J l4_24))] → W p l e (rmd 9 0 0) s m ar below meth c H locs 0 0 QW (F0 m 24 ls []) := by
    intro k24
    induction k24 with
    | zero =>
      intro l3_24 l4_24 y123_c24 y300_c24 H locs ls r_l3_24 r_l4_24 iv24 ms24 hw hl
      exact absurd ms24 (Nat.not_lt_zero _)
    | succ k24 ih24 =>
      intro l3_24 l4_24 y123_c24 y300_c24 H locs ls r_l3_24 r_l4_24 iv24 ms24 hw hl
      obtain ⟨iv24, ik24_⟩ := iv24
      refine j_iload E 26 rfl dX5_scan_24 (lv_at hl 4 rfl) ?_
      refine j_aload_n E 27 rfl dX5_scan_26 rfl (lv_at hl 0 rfl) ?_
      refine g_124 E hK hw fl_X5_25 t_o zz4_ (upB_same _ _ _) 30 rfl dX5_scan_27 (fun _ => ?_)
      refine j_icmp_ge E 33 70 rfl r_l4_24 rr4_ dX5_scan_30 (by decide) (fun cc8_ => ?_) (fun cc8_ => ?_)
      · exact hret 70 (upV (upV (upV v_0 123 y123_c24) 124 (upB (v_0 124) o zz4_)) 300 y300_c24) _ _ ls hw ⟨y123_c24, (upB (v_0 124) o zz4_), y300_c24, rfl, ⟨⟨Ch_e iv24.1 (by omega), by rw [upB_same]; exact en_⟩, ik24_⟩⟩ dX5_scan_70
      · refine j_iload E 35 rfl dX5_scan_33 (lv_at hl 4 rfl) ?_
        refine j_iload_n E 36 rfl dX5_scan_35 rfl (lv_at hl 3 rfl) ?_
        refine j_icmp_lt E 39 64 rfl r_l4_24 r_l3_24 dX5_scan_36 (by decide) (fun cc9_ => ?_) (fun cc9_ => ?_)
        · refine j_iinc E 67 rfl [(4, .int (J (l4_24 + 1))), (0, .ref o), (1, .ref a_t), (2, .int (J v_n)), (3, .int (J l3_24))] dX5_scan_64 hl (kk := 4) rfl (by decide) rfl (fun ls hl => ?_)
          refine j_goto E 24 dX5_scan_67 (by decide) ?_
          exact ih24 l3_24 (l4_24 + 1) y123_c24 y300_c24 H locs ls r_l3_24 (rr (by omega)) (⟨by first | exact ⟨by rw [cc_]; exact ct_.1, by omega, by omega, by omega⟩ | exact ⟨cb_, by omega, by omega, by omega⟩ | exact ⟨iv24.1, by omega, by omega, by omega⟩, ik24_⟩) (by omega) hw (lv_sub hl [1, 2, 3, 4, 0] rfl)
        · refine j_aload_n E 40 rfl dX5_scan_39 rfl (lv_at hl 1 rfl) ?_
          refine j_iload E 42 rfl dX5_scan_40 (lv_at hl 4 rfl) ?_
          refine a_ld23 E hK hw t_t (by omega) 43 rfl dX5_scan_42 (fun zz10_ he10_ rr10_ => ?_)
          have he10_ : zz10_ = v_0 303 (pr a_t (Int.toNat l4_24)) := he10_
          have he_ : zz10_ = gC_ (v_0 303) a_t l4_24 := he10_
          refine kS_i E (c_X8_isBlank l D cy T (upV (upV (upV v_0 123 y123_c24) 124 (upB (v_0 124) o zz4_)) 300 y300_c24) zz10_   rr10_ ) ms_X8_isBlank ml_X5_37 hK hw hA ⟨Nat.le_of_ble_eq_true rfl, Nat.le_of_ble_eq_true rfl⟩ ⟨Nat.le_of_ble_eq_true rfl, Nat.le_of_ble_eq_true rfl⟩ (As := [.int (J zz10_)]) (rest := []) rfl rfl hl.1 (Nat.le_of_ble_eq_true rfl) 46 rfl dX5_scan_43 (fun zz11_ v_11 H locs rr11_ hq11_ hw => ?_)
          obtain ⟨ev11_, hh11_⟩ := hq11_
          rw [ev11_] at hw; clear ev11_
          replace hh11_ : (zz11_ = 1 ∧ (zz10_ = 32 ∨ zz10_ = 10)) ∨ (zz11_ = 0 ∧ ¬ (zz10_ = 32 ∨ zz10_ = 10)) := hh11_
          rcases hh11_ with ⟨ee11_, hh11_⟩ | ⟨ee11_, hh11_⟩
          · subst ee11_
            have cb_ := Ch_b2 iv24.1 (show l4_24 = l3_24 by omega) (by unfold isBl_; omega)
            refine j_if_eq E 49 56 rfl (rr (by decide)) dX5_scan_46 (by decide) (fun cc12_ => absurd cc12_ (by decide)) (fun _ => ?_)
            refine j_iload E 51 rfl dX5_scan_49 (lv_at hl 4 rfl) ?_
            refine j_iconst E 52 rfl dX5_scan_51 ?_
            refine j_iadd E 53 rfl dX5_scan_52 ?_
            refine j_goto E 63 dX5_scan_53 (by decide) ?_
            refine j_istore_n E 64 rfl [(3, .int (J (l4_24 + 1))), (0, .ref o), (1, .ref a_t), (2, .int (J v_n)), (4, .int (J l4_24))] dX5_scan_63 rfl hl (by decide) rfl (fun ls hl => ?_)
            refine j_iinc E 67 rfl [(4, .int (J (l4_24 + 1))), (3, .int (J (l4_24 + 1))), (0, .ref o), (1, .ref a_t), (2, .int (J v_n))] dX5_scan_64 hl (kk := 4) rfl (by decide) rfl (fun ls hl => ?_)
            refine j_goto E 24 dX5_scan_67 (by decide) ?_
            exact ih24 (l4_24 + 1) (l4_24 + 1) y123_c24 y300_c24 H locs ls (rr (by omega)) (rr (by omega)) (⟨by first | exact ⟨by rw [cc_]; exact ct_.1, by omega, by omega, by omega⟩ | exact ⟨cb_, by omega, by omega, by omega⟩ | exact ⟨iv24.1, by omega, by omega, by omega⟩, ik24_⟩) (by omega) hw (lv_sub hl [2, 3, 4, 1, 0] rfl)
          · subst ee11_
            have nb_ : ¬ isBl_ (gC_ (v_0 303) a_t l4_24) := by unfold isBl_; omega
            refine j_if_eq E 49 56 rfl (rr (by decide)) dX5_scan_46 (by decide) (fun _ => ?_) (fun cc13_ => absurd cc13_ (by decide))
            refine j_aload_n E 57 rfl dX5_scan_56 rfl (lv_at hl 0 rfl) ?_
            refine j_aload_n E 58 rfl dX5_scan_57 rfl (lv_at hl 1 rfl) ?_
            refine j_iload E 60 rfl dX5_scan_58 (lv_at hl 4 rfl) ?_
            have q4_ := Ch_cnt iv24.1
            refine zV_i E (c_X5_scanToken l D cy T (upV (upV (upV v_0 123 y123_c24) 124 (upB (v_0 124) o zz4_)) 300 y300_c24) κ o a_t l4_24  hO t_o t_t r_l4_24 (show 0 ≤ (y123_c24 o) ∧ (y123_c24 o) < 400 from by omega) (show 0 ≤ l4_24 ∧ l4_24 < ((upB (v_0 124) o zz4_) o) ∧ ((upB (v_0 124) o zz4_) o) ≤ (T 1 a_t : Int) from by rw [upB_same]; omega)) mt_X5_scanToken ml_X5_43 hK hZ hAc hw (cw_rc6 hK hw.1 t_o) hA ⟨Nat.le_of_ble_eq_true rfl, Nat.le_of_ble_eq_true rfl⟩ ⟨Nat.le_of_ble_eq_true rfl, Nat.le_of_ble_eq_true rfl⟩ (As := [.ref a_t, .int (J l4_24)]) (rest := []) rfl rfl hl.1 (Nat.le_of_ble_eq_true rfl) 63 rfl dX5_scan_60 (fun zz14_ v_14 H locs rr14_ hq14_ hw => ?_)
            obtain ⟨y123_14, y300_14, ev14_, hh14_⟩ := hq14_
            rw [ev14_] at hw; clear ev14_
            have hw : WK D cy T (upV (upV (upV v_0 123 y123_14) 124 (upB (v_0 124) o zz4_)) 300 y300_14) A0 s.heap H locs := cw_eq hw (by first | rfl | (funext j_; simp only [upV, reduceIte]; (repeat' split) <;> first | rfl | omega | (subst_vars; rfl)))
            obtain ⟨hh14_, kf14_⟩ := hh14_
            replace hh14_ : St_ (gC_ (v_0 303) a_t) (((upB (v_0 124) o zz4_) o)) (y300_c24) (y300_14) (T 120 o) (T 121 o) (T 122 o) ((y123_c24 o)) l4_24 zz14_ ∧ (y123_14 o) = (y123_c24 o) + 1 := hh14_
            have hs_ := hh14_.1
            rw [upB_same, en_] at hs_
            have ct_ := Ch_t2 iv24.1 (show l4_24 = l3_24 by omega) nb_ hs_ n1_ n2_ n3_
            have cc_ := hh14_.2
            refine j_istore_n E 64 rfl [(3, .int (J zz14_)), (0, .ref o), (1, .ref a_t), (2, .int (J v_n)), (4, .int (J l4_24))] dX5_scan_63 rfl hl (by decide) rfl (fun ls hl => ?_)
            refine j_iinc E 67 rfl [(4, .int (J (l4_24 + 1))), (3, .int (J zz14_)), (0, .ref o), (1, .ref a_t), (2, .int (J v_n))] dX5_scan_64 hl (kk := 4) rfl (by decide) rfl (fun ls hl => ?_)
            refine j_goto E 24 dX5_scan_67 (by decide) ?_
            exact ih24 zz14_ (l4_24 + 1) y123_14 y300_14 H locs ls rr14_ (rr (by omega)) (⟨by first | exact ⟨by rw [cc_]; exact ct_.1, by omega, by omega, by omega⟩ | exact ⟨cb_, by omega, by omega, by omega⟩ | exact ⟨iv24.1, by omega, by omega, by omega⟩, (Kd_tr ik24_ (Kd_mono kf14_ (by decide)))⟩) (by omega) hw (lv_sub hl [2, 3, 4, 1, 0] rfl)
  exact L24_6 _ 0 0 (upB (v_0 123) o 0) (v_0 300) H locs ls (rr (by decide)) (rr (by decide)) (⟨⟨by rw [upB_same]; exact Ch_0, by omega, by omega, by omega⟩, Kd_rf⟩) (Nat.lt_succ_self _) (cw_eq hw (by first | rfl | (funext j_; simp only [upV, reduceIte]; (repeat' split) <;> first | rfl | omega | (subst_vars; rfl)))) (lv_sub hl [2, 3, 4, 1, 0] rfl)
