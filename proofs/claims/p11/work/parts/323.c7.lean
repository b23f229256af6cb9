set_option maxHeartbeats 4000000 in
set_option maxRecDepth 100000 in
theorem c_X5_kindAt (l : Launch) (D : va_G) (cy : Nat → ClassId) (T : Nat → Nat → Nat) (v_0 : Nat → Nat → Int) (o : Nat) (v_i : Int) (t_o : T 0 o = 6) (r_v_i : inR v_i) (hp0 : 0 ≤ (v_0 123 o) ∧ (v_0 123 o) ≤ 400) : KC l D cy T yX5_kindAt cX5_kindAt 2 (some .int) 1 [.ref o, .int (J v_i)] v_0 (KI (fun (z_0 : Int) (v_2 : Nat → Nat → Int) => v_2 = v_0 ∧ ((0 ≤ v_i ∧ v_i < (v_0 123 o) ∧ z_0 = gC_ (v_0 300) (T 120 o) v_i) ∨ (¬ (0 ≤ v_i ∧ v_i < (v_0 123 o)) ∧ z_0 = 1)))) := by
  refine KC.ofi (by decide) (Nat.le_of_ble_eq_true rfl) ?_
  intro p e s m below meth c ls ar QW A0 H0 H locs E hK hA hw hl hret
  have hl : lv_has ls 2 [(0, .ref o), (1, .int (J v_i))] := hl
  have hT : WT T := hw.1.2.1
  refine j_iload_n E 1 rfl dX5_kindAt_0 rfl (lv_at hl 1 rfl) ?_
  refine j_if_lt E 4 30 rfl r_v_i dX5_kindAt_1 (by decide) (fun cc1_ => ?_) (fun cc1_ => ?_)
  · refine j_iconst E 31 rfl dX5_kindAt_30 ?_
    exact hret 31 1 (v_0) _ _ ls hw (rr (by decide)) ⟨rfl, by omega⟩ dX5_kindAt_31
  · refine j_iload_n E 5 rfl dX5_kindAt_4 rfl (lv_at hl 1 rfl) ?_
    refine j_aload_n E 6 rfl dX5_kindAt_5 rfl (lv_at hl 0 rfl) ?_
    refine g_123 E hK hw fl_X5_21 t_o (v_0 123 o) rfl 9 rfl dX5_kindAt_6 (fun rr2_ => ?_)
    refine j_icmp_ge E 12 30 rfl r_v_i rr2_ dX5_kindAt_9 (by decide) (fun cc3_ => ?_) (fun cc3_ => ?_)
    · refine j_iconst E 31 rfl dX5_kindAt_30 ?_
      exact hret 31 1 (v_0) _ _ ls hw (rr (by decide)) ⟨rfl, by omega⟩ dX5_kindAt_31
    · refine j_iload_n E 13 rfl dX5_kindAt_12 rfl (lv_at hl 1 rfl) ?_
      refine j_aload_n E 14 rfl dX5_kindAt_13 rfl (lv_at hl 0 rfl) ?_
      refine g_120 E hK hw fl_X5_9 t_o 17 rfl dX5_kindAt_14 ?_
      have ln4_ := wl_120 hT t_o
      refine a_ln20 E hK hw (wt_120 hT t_o) 18 rfl dX5_kindAt_17 (fun rr5_ => ?_)
      refine j_icmp_ge E 21 30 rfl r_v_i rr5_ dX5_kindAt_18 (by decide) (fun cc6_ => ?_) (fun cc6_ => ?_)
      · refine j_iconst E 31 rfl dX5_kindAt_30 ?_
        exact hret 31 1 (v_0) _ _ ls hw (rr (by decide)) ⟨rfl, by omega⟩ dX5_kindAt_31
      · refine j_aload_n E 22 rfl dX5_kindAt_21 rfl (lv_at hl 0 rfl) ?_
        refine g_120 E hK hw fl_X5_9 t_o 25 rfl dX5_kindAt_22 ?_
        refine j_iload_n E 26 rfl dX5_kindAt_25 rfl (lv_at hl 1 rfl) ?_
        refine a_ld20 E hK hw (wt_120 hT t_o) (by omega) 27 rfl dX5_kindAt_26 (fun zz7_ he7_ rr7_ => ?_)
        have he7_ : zz7_ = v_0 300 (pr (T 120 o) (Int.toNat v_i)) := he7_
        have he_ : zz7_ = gC_ (v_0 300) (T 120 o) v_i := he7_
        refine j_goto E 31 dX5_kindAt_27 (by decide) ?_
        exact hret 31 zz7_ (v_0) _ _ ls hw rr7_ ⟨rfl, by omega⟩ dX5_kindAt_31
set_option maxHeartbeats 4000000 in
set_option maxRecDepth 100000 in
theorem c_X5_valueAt (l : Launch) (D : va_G) (cy : Nat → ClassId) (T : Nat → Nat → Nat) (v_0 : Nat → Nat → Int) (o : Nat) (v_i : Int) (t_o : T 0 o = 6) (r_v_i : inR v_i) (hp0 : 0 ≤ (v_0 123 o) ∧ (v_0 123 o) ≤ 400) : KC l D cy T yX5_valueAt cX5_valueAt 2 (some .int) 1 [.ref o, .int (J v_i)] v_0 (KI (fun (z_0 : Int) (v_2 : Nat → Nat → Int) => v_2 = v_0 ∧ ((0 ≤ v_i ∧ v_i < (v_0 123 o) ∧ z_0 = gC_ (v_0 300) (T 121 o) v_i) ∨ (¬ (0 ≤ v_i ∧ v_i < (v_0 123 o)) ∧ z_0 = 0)))) := by
  refine KC.ofi (by decide) (Nat.le_of_ble_eq_true rfl) ?_
  intro p e s m below meth c ls ar QW A0 H0 H locs E hK hA hw hl hret
  have hl : lv_has ls 2 [(0, .ref o), (1, .int (J v_i))] := hl
  have hT : WT T := hw.1.2.1
  refine j_iload_n E 1 rfl dX5_valueAt_0 rfl (lv_at hl 1 rfl) ?_
  refine j_if_lt E 4 30 rfl r_v_i dX5_valueAt_1 (by decide) (fun cc1_ => ?_) (fun cc1_ => ?_)
  · refine j_iconst E 31 rfl dX5_valueAt_30 ?_
    exact hret 31 0 (v_0) _ _ ls hw (rr (by decide)) ⟨rfl, by omega⟩ dX5_valueAt_31
  · refine j_iload_n E 5 rfl dX5_valueAt_4 rfl (lv_at hl 1 rfl) ?_
    refine j_aload_n E 6 rfl dX5_valueAt_5 rfl (lv_at hl 0 rfl) ?_
    refine g_123 E hK hw fl_X5_21 t_o (v_0 123 o) rfl 9 rfl dX5_valueAt_6 (fun rr2_ => ?_)
    refine j_icmp_ge E 12 30 rfl r_v_i rr2_ dX5_valueAt_9 (by decide) (fun cc3_ => ?_) (fun cc3_ => ?_)
    · refine j_iconst E 31 rfl dX5_valueAt_30 ?_
      exact hret 31 0 (v_0) _ _ ls hw (rr (by decide)) ⟨rfl, by omega⟩ dX5_valueAt_31
    · refine j_iload_n E 13 rfl dX5_valueAt_12 rfl (lv_at hl 1 rfl) ?_
      refine j_aload_n E 14 rfl dX5_valueAt_13 rfl (lv_at hl 0 rfl) ?_
      refine g_121 E hK hw fl_X5_15 t_o 17 rfl dX5_valueAt_14 ?_
      have ln4_ := wl_121 hT t_o
      refine a_ln20 E hK hw (wt_121 hT t_o) 18 rfl dX5_valueAt_17 (fun rr5_ => ?_)
      refine j_icmp_ge E 21 30 rfl r_v_i rr5_ dX5_valueAt_18 (by decide) (fun cc6_ => ?_) (fun cc6_ => ?_)
      · refine j_iconst E 31 rfl dX5_valueAt_30 ?_
        exact hret 31 0 (v_0) _ _ ls hw (rr (by decide)) ⟨rfl, by omega⟩ dX5_valueAt_31
      · refine j_aload_n E 22 rfl dX5_valueAt_21 rfl (lv_at hl 0 rfl) ?_
        refine g_121 E hK hw fl_X5_15 t_o 25 rfl dX5_valueAt_22 ?_
        refine j_iload_n E 26 rfl dX5_valueAt_25 rfl (lv_at hl 1 rfl) ?_
        refine a_ld20 E hK hw (wt_121 hT t_o) (by omega) 27 rfl dX5_valueAt_26 (fun zz7_ he7_ rr7_ => ?_)
        have he7_ : zz7_ = v_0 300 (pr (T 121 o) (Int.toNat v_i)) := he7_
        have he_ : zz7_ = gC_ (v_0 300) (T 121 o) v_i := he7_
        refine j_goto E 31 dX5_valueAt_27 (by decide) ?_
        exact hret 31 zz7_ (v_0) _ _ ls hw rr7_ ⟨rfl, by omega⟩ dX5_valueAt_31
set_option maxHeartbeats 4000000 in
set_option maxRecDepth 100000 in
theorem c_X5_placeAt (l : Launch) (D : va_G) (cy : Nat → ClassId) (T : Nat → Nat → Nat) (v_0 : Nat → Nat → Int) (o : Nat) (v_i : Int) (t_o : T 0 o = 6) (r_v_i : inR v_i) (hp0 : 0 ≤ (v_0 123 o) ∧ (v_0 123 o) ≤ 400) : KC l D cy T yX5_placeAt cX5_placeAt 2 (some .int) 1 [.ref o, .int (J v_i)] v_0 (KI (fun (z_0 : Int) (v_2 : Nat → Nat → Int) => v_2 = v_0 ∧ ((0 ≤ v_i ∧ v_i < (v_0 123 o) ∧ z_0 = gC_ (v_0 300) (T 122 o) v_i) ∨ (¬ (0 ≤ v_i ∧ v_i < (v_0 123 o)) ∧ z_0 = (v_0 124 o))))) := by
  refine KC.ofi (by decide) (Nat.le_of_ble_eq_true rfl) ?_
  intro p e s m below meth c ls ar QW A0 H0 H locs E hK hA hw hl hret
  have hl : lv_has ls 2 [(0, .ref o), (1, .int (J v_i))] := hl
  have hT : WT T := hw.1.2.1
  refine j_iload_n E 1 rfl dX5_placeAt_0 rfl (lv_at hl 1 rfl) ?_
  refine j_if_lt E 4 30 rfl r_v_i dX5_placeAt_1 (by decide) (fun cc1_ => ?_) (fun cc1_ => ?_)
  · refine j_aload_n E 31 rfl dX5_placeAt_30 rfl (lv_at hl 0 rfl) ?_
    refine g_124 E hK hw fl_X5_25 t_o (v_0 124 o) rfl 34 rfl dX5_placeAt_31 (fun rr2_ => ?_)
    exact hret 34 (v_0 124 o) (v_0) _ _ ls hw rr2_ ⟨rfl, by omega⟩ dX5_placeAt_34
  · refine j_iload_n E 5 rfl dX5_placeAt_4 rfl (lv_at hl 1 rfl) ?_
    refine j_aload_n E 6 rfl dX5_placeAt_5 rfl (lv_at hl 0 rfl) ?_
    refine g_123 E hK hw fl_X5_21 t_o (v_0 123 o) rfl 9 rfl dX5_placeAt_6 (fun rr3_ => ?_)
    refine j_icmp_ge E 12 30 rfl r_v_i rr3_ dX5_placeAt_9 (by decide) (fun cc4_ => ?_) (fun cc4_ => ?_)
    · refine j_aload_n E 31 rfl dX5_placeAt_30 rfl (lv_at hl 0 rfl) ?_
      refine g_124 E hK hw fl_X5_25 t_o (v_0 124 o) rfl 34 rfl dX5_placeAt_31 (fun rr5_ => ?_)
      exact hret 34 (v_0 124 o) (v_0) _ _ ls hw rr5_ ⟨rfl, by omega⟩ dX5_placeAt_34
    · refine j_iload_n E 13 rfl dX5_placeAt_12 rfl (lv_at hl 1 rfl) ?_
      refine j_aload_n E 14 rfl dX5_placeAt_13 rfl (lv_at hl 0 rfl) ?_
      refine g_122 E hK hw fl_X5_18 t_o 17 rfl dX5_placeAt_14 ?_
      have ln6_ := wl_122 hT t_o
      refine a_ln20 E hK hw (wt_122 hT t_o) 18 rfl dX5_placeAt_17 (fun rr7_ => ?_)
      refine j_icmp_ge E 21 30 rfl r_v_i rr7_ dX5_placeAt_18 (by decide) (fun cc8_ => ?_) (fun cc8_ => ?_)
      · refine j_aload_n E 31 rfl dX5_placeAt_30 rfl (lv_at hl 0 rfl) ?_
        refine g_124 E hK hw fl_X5_25 t_o (v_0 124 o) rfl 34 rfl dX5_placeAt_31 (fun rr9_ => ?_)
        exact hret 34 (v_0 124 o) (v_0) _ _ ls hw rr9_ ⟨rfl, by omega⟩ dX5_placeAt_34
      · refine j_aload_n E 22 rfl dX5_placeAt_21 rfl (lv_at hl 0 rfl) ?_
        refine g_122 E hK hw fl_X5_18 t_o 25 rfl dX5_placeAt_22 ?_
        refine j_iload_n E 26 rfl dX5_placeAt_25 rfl (lv_at hl 1 rfl) ?_
        refine a_ld20 E hK hw (wt_122 hT t_o) (by omega) 27 rfl dX5_placeAt_26 (fun zz10_ he10_ rr10_ => ?_)
        have he10_ : zz10_ = v_0 300 (pr (T 122 o) (Int.toNat v_i)) := he10_
        have he_ : zz10_ = gC_ (v_0 300) (T 122 o) v_i := he10_
        refine j_goto E 34 dX5_placeAt_27 (by decide) ?_
        exact hret 34 zz10_ (v_0) _ _ ls hw rr10_ ⟨rfl, by omega⟩ dX5_placeAt_34
set_option maxHeartbeats 4000000 in
set_option maxRecDepth 100000 in
theorem c_X5_keep (l : Launch) (D : va_G) (cy : Nat → ClassId) (T : Nat → Nat → Nat) (v_0 : Nat → Nat → Int) (o : Nat) (v_k : Int) (v_x : Int) (v_p : Int) (t_o : T 0 o = 6) (r_v_k : inR v_k) (r_v_x : inR v_x) (r_v_p : inR v_p) (hp0 : 0 ≤ (v_0 123 o) ∧ (v_0 123 o) < 400) : KC l D cy T yX5_keep cX5_keep 4 none 1 [.ref o, .int (J v_k), .int (J v_x), .int (J v_p)] v_0 (KV (fun (v_2 : Nat → Nat → Int) => ∃ (y123_2 : Nat → Int) (y300_2 : Nat → Int) , v_2 = upV (upV v_0 123 y123_2) 300 y300_2 ∧ ((y123_2 o) = (v_0 123 o) + 1 ∧ (y300_2) = upB (upB (upB (v_0 300) (pr (T 120 o) (Int.toNat ((v_0 123 o)))) v_k) (pr (T 121 o) (Int.toNat ((v_0 123 o)))) v_x) (pr (T 122 o) (Int.toNat ((v_0 123 o)))) v_p))) := by
  refine KC.ofv (by decide) (Nat.le_of_ble_eq_true rfl) ?_
  intro p e s m below meth c ls ar QW A0 H0 H locs E hK hA hw hl hret
  have hl : lv_has ls 4 [(0, .ref o), (1, .int (J v_k)), (2, .int (J v_x)), (3, .int (J v_p))] := hl
  have hT : WT T := hw.1.2.1
  refine j_aload_n E 1 rfl dX5_keep_0 rfl (lv_at hl 0 rfl) ?_
  refine g_123 E hK hw fl_X5_21 t_o (v_0 123 o) rfl 4 rfl dX5_keep_1 (fun rr1_ => ?_)
  refine j_if_lt E 7 57 rfl rr1_ dX5_keep_4 (by decide) (fun cc2_ => ?_) (fun cc2_ => ?_)
  · exfalso; omega
  refine j_aload_n E 8 rfl dX5_keep_7 rfl (lv_at hl 0 rfl) ?_
  refine g_123 E hK hw fl_X5_21 t_o (v_0 123 o) rfl 11 rfl dX5_keep_8 (fun _ => ?_)
  refine j_sipush E 14 rfl dX5_keep_11 (by decide) ?_
  refine j_icmp_ge E 17 57 rfl rr1_ (rr (by decide)) dX5_keep_14 (by decide) (fun cc3_ => ?_) (fun cc3_ => ?_)
  · exfalso; omega
  refine j_aload_n E 18 rfl dX5_keep_17 rfl (lv_at hl 0 rfl) ?_
  refine g_120 E hK hw fl_X5_9 t_o 21 rfl dX5_keep_18 ?_
  have ln4_ := wl_120 hT t_o
  refine j_aload_n E 22 rfl dX5_keep_21 rfl (lv_at hl 0 rfl) ?_
  refine g_123 E hK hw fl_X5_21 t_o (v_0 123 o) rfl 25 rfl dX5_keep_22 (fun _ => ?_)
  refine j_iload_n E 26 rfl dX5_keep_25 rfl (lv_at hl 1 rfl) ?_
  refine a_st20 E hK hw (wt_120 hT t_o) r_v_k (by omega) 27 rfl dX5_keep_26 (fun H locs hw => ?_)
  have hw : WK D cy T (upV v_0 300 (upB (v_0 300) ((pr (T 120 o) (Int.toNat (v_0 123 o)))) v_k)) A0 H0 H locs := cw_eq hw (by first | rfl | (funext j_; simp only [upV, reduceIte]; (repeat' split) <;> first | rfl | omega | (subst_vars; rfl)))
  refine j_aload_n E 28 rfl dX5_keep_27 rfl (lv_at hl 0 rfl) ?_
  refine g_121 E hK hw fl_X5_15 t_o 31 rfl dX5_keep_28 ?_
  have ln6_ := wl_121 hT t_o
  refine j_aload_n E 32 rfl dX5_keep_31 rfl (lv_at hl 0 rfl) ?_
  refine g_123 E hK hw fl_X5_21 t_o (v_0 123 o) rfl 35 rfl dX5_keep_32 (fun _ => ?_)
  refine j_iload_n E 36 rfl dX5_keep_35 rfl (lv_at hl 2 rfl) ?_
  refine a_st20 E hK hw (wt_121 hT t_o) r_v_x (by omega) 37 rfl dX5_keep_36 (fun H locs hw => ?_)
  have hw : WK D cy T (upV v_0 300 (upB (upB (v_0 300) ((pr (T 120 o) (Int.toNat (v_0 123 o)))) v_k) ((pr (T 121 o) (Int.toNat (v_0 123 o)))) v_x)) A0 H0 H locs := cw_eq hw (by first | rfl | (funext j_; simp only [upV, reduceIte]; (repeat' split) <;> first | rfl | omega | (subst_vars; rfl)))
  refine j_aload_n E 38 rfl dX5_keep_37 rfl (lv_at hl 0 rfl) ?_
  refine g_122 E hK hw fl_X5_18 t_o 41 rfl dX5_keep_38 ?_
  have ln8_ := wl_122 hT t_o
  refine j_aload_n E 42 rfl dX5_keep_41 rfl (lv_at hl 0 rfl) ?_
  refine g_123 E hK hw fl_X5_21 t_o (v_0 123 o) rfl 45 rfl dX5_keep_42 (fun _ => ?_)
  refine j_iload_n E 46 rfl dX5_keep_45 rfl (lv_at hl 3 rfl) ?_
  refine a_st20 E hK hw (wt_122 hT t_o) r_v_p (by omega) 47 rfl dX5_keep_46 (fun H locs hw => ?_)
  have hw : WK D cy T (upV v_0 300 (upB (upB (upB (v_0 300) ((pr (T 120 o) (Int.toNat (v_0 123 o)))) v_k) ((pr (T 121 o) (Int.toNat (v_0 123 o)))) v_x) ((pr (T 122 o) (Int.toNat (v_0 123 o)))) v_p)) A0 H0 H locs := cw_eq hw (by first | rfl | (funext j_; simp only [upV, reduceIte]; (repeat' split) <;> first | rfl | omega | (subst_vars; rfl)))
  refine j_aload_n E 48 rfl dX5_keep_47 rfl (lv_at hl 0 rfl) ?_
  refine j_dup E 49 rfl dX5_keep_48 rfl ?_
  refine g_123 E hK hw fl_X5_21 t_o (v_0 123 o) rfl 52 rfl dX5_keep_49 (fun _ => ?_)
  refine j_iconst E 53 rfl dX5_keep_52 ?_
  refine j_iadd E 54 rfl dX5_keep_53 ?_
  refine p_123 E hK hw fl_X5_21 t_o (rr (by omega)) 57 rfl dX5_keep_54 (fun H locs hw => ?_)
  have hw : WK D cy T (upV (upV v_0 123 (upB (v_0 123) o ((v_0 123 o) + 1))) 300 (upB (upB (upB (v_0 300) ((pr (T 120 o) (Int.toNat (v_0 123 o)))) v_k) ((pr (T 121 o) (Int.toNat (v_0 123 o)))) v_x) ((pr (T 122 o) (Int.toNat (v_0 123 o)))) v_p)) A0 H0 H locs := cw_eq hw (by first | rfl | (funext j_; simp only [upV, reduceIte]; (repeat' split) <;> first | rfl | omega | (subst_vars; rfl)))
  exact hret 57 (upV (upV v_0 123 (upB (v_0 123) o ((v_0 123 o) + 1))) 300 (upB (upB (upB (v_0 300) ((pr (T 120 o) (Int.toNat (v_0 123 o)))) v_k) ((pr (T 121 o) (Int.toNat (v_0 123 o)))) v_x) ((pr (T 122 o) (Int.toNat (v_0 123 o)))) v_p)) _ _ ls hw ⟨(upB (v_0 123) o ((v_0 123 o) + 1)), (upB (upB (upB (v_0 300) ((pr (T 120 o) (Int.toNat (v_0 123 o)))) v_k) ((pr (T 121 o) (Int.toNat (v_0 123 o)))) v_x) ((pr (T 122 o) (Int.toNat (v_0 123 o)))) v_p), rfl, ⟨upB_same _ _ _, rfl⟩⟩ dX5_keep_57
set_option maxHeartbeats 4000000 in
set_option maxRecDepth 100000 in
theorem c_X5_scanToken (l : Launch) (D : va_G) (cy : Nat → ClassId) (T : Nat → Nat → Nat) (v_0 : Nat → Nat → Int) (κ : Nat → Nat → Nat) (o : Nat) (a_t : Nat) (v_f : Int) (hO : ∀ x, ow T x → κ 2 2 ≤ x) (t_o : T 0 o = 6) (t_t : T 0 a_t = 23) (r_v_f : inR v_f) (hp0 : 0 ≤ (v_0 123 o) ∧ (v_0 123 o) < 400) (hp1 : 0 ≤ v_f ∧ v_f < (v_0 124 o) ∧ (v_0 124 o) ≤ (T 1 a_t : Int)) : KZ l D cy κ T yX5_scanToken cX5_scanToken 6 (some .int) 8 [.ref o, .ref a_t, .int (J v_f)] v_0 (KI (fun (z_0 : Int) (v_2 : Nat → Nat → Int) => ∃ (y123_2 : Nat → Int) (y300_2 : Nat → Int) , v_2 = upV (upV v_0 123 y123_2) 300 y300_2 ∧ (St_ (gC_ (v_0 303) a_t) ((v_0 124 o)) (v_0 300) (y300_2) (T 120 o) (T 121 o) (T 122 o) ((v_0 123 o)) v_f z_0 ∧ (y123_2 o) = (v_0 123 o) + 1))) := by
  refine KZ.ofi (by decide) (Nat.le_of_ble_eq_true rfl) hO ?_
  intro p e s m below meth c ls ar QW A0 H locs E hK hZ hA hAc hw hl hret
  have hl : lv_has ls 6 [(0, .ref o), (1, .ref a_t), (2, .int (J v_f))] := hl
  have hT : WT T := hw.1.2.1
  refine j_iload_n E 1 rfl dX5_scanToken_0 rfl (lv_at hl 2 rfl) ?_
  refine j_iconst E 2 rfl dX5_scanToken_1 ?_
  refine j_iadd E 3 rfl dX5_scanToken_2 ?_
  refine j_istore_n E 4 rfl [(3, .int (J (v_f + 1))), (0, .ref o), (1, .ref a_t), (2, .int (J v_f))] dX5_scanToken_3 rfl hl (by decide) rfl (fun ls hl => ?_)
  refine j_iload_n E 5 rfl dX5_scanToken_4 rfl (lv_at hl 3 rfl) ?_
  refine j_if_lt E 8 20 rfl r_v_f dX5_scanToken_5 (by decide) (fun cc1_ => ?_) (fun cc1_ => ?_)
  · exfalso; omega
  refine j_iload_n E 9 rfl dX5_scanToken_8 rfl (lv_at hl 3 rfl) ?_
  refine j_aload_n E 10 rfl dX5_scanToken_9 rfl (lv_at hl 2 rfl) ?_
  refine a_ln23 E hK hw t_t 11 rfl dX5_scanToken_10 (fun rr2_ => ?_)
  refine j_icmp_ge E 14 20 rfl r_v_f rr2_ dX5_scanToken_11 (by decide) (fun cc3_ => ?_) (fun cc3_ => ?_)
  · exfalso; omega
  refine j_aload_n E 15 rfl dX5_scanToken_14 rfl (lv_at hl 2 rfl) ?_
  refine j_iload_n E 16 rfl dX5_scanToken_15 rfl (lv_at hl 3 rfl) ?_
  refine a_ld23 E hK hw t_t (by omega) 17 rfl dX5_scanToken_16 (fun zz4_ he4_ rr4_ => ?_)
  have he4_ : zz4_ = v_0 303 (pr a_t (Int.toNat v_f)) := he4_
  have h0_ : zz4_ = gC_ (v_0 303) a_t v_f := he4_
  refine j_goto E 21 dX5_scanToken_17 (by decide) ?_
  refine j_istore E 23 rfl [(4, .int (J zz4_)), (3, .int (J (v_f + 1))), (0, .ref o), (1, .ref a_t), (2, .int (J v_f))] dX5_scanToken_21 hl (by decide) rfl (fun ls hl => ?_)
  refine j_iload E 25 rfl dX5_scanToken_23 (lv_at hl 0 rfl) ?_
  refine kS_i E (c_X8_isLetter l D cy T (v_0) zz4_   rr4_ ) ms_X8_isLetter ml_X5_47 hK hw hA ⟨Nat.le_of_ble_eq_true rfl, Nat.le_of_ble_eq_true rfl⟩ ⟨Nat.le_of_ble_eq_true rfl, Nat.le_of_ble_eq_true rfl⟩ (As := [.int (J zz4_)]) (rest := []) rfl rfl hl.1 (Nat.le_of_ble_eq_true rfl) 28 rfl dX5_scanToken_25 (fun zz5_ v_5 H locs rr5_ hq5_ hw => ?_)
  obtain ⟨ev5_, hh5_⟩ := hq5_
  rw [ev5_] at hw; clear ev5_
  have hh5_ : (zz5_ = 1 ∧ ((97 ≤ zz4_ ∧ zz4_ ≤ 122) ∨ (65 ≤ zz4_ ∧ zz4_ ≤ 90))) ∨ (zz5_ = 0 ∧ ¬ ((97 ≤ zz4_ ∧ zz4_ ≤ 122) ∨ (65 ≤ zz4_ ∧ zz4_ ≤ 90))) := hh5_
  rcases hh5_ with ⟨ee5_, hh5_⟩ | ⟨ee5_, hh5_⟩
  · subst ee5_
    refine j_if_eq E 31 75 rfl (rr (by decide)) dX5_scanToken_28 (by decide) (fun cc6_ => absurd cc6_ (by decide)) (fun _ => ?_)
    have L31_7 : ∀ (k31 : Nat) (l3_31 : Int) (H : Heap) (locs : List Loc) (ls : Array Slot), inR l3_31 → (v_f < l3_31 ∧ l3_31 ≤ (v_0 124 o) ∧ ∀ i_, v_f ≤ i_ → i_ < l3_31 → isLet_ (gC_ (v_0 303) a_t i_)) → ((v_0 124 o) - l3_31).toNat < k31 → WK D cy T (v_0) A0 s.heap H locs → lv_has ls 6 [(0, .ref o), (1, .ref a_t), (2, .int (J v_f)), (3, .int (J l3_31)), (4, .int (J zz4_))] → W p l e (rmd 8 0 0) s m ar below meth c H locs 0 0 QW (F0 m 31 ls []) := by
      intro k31
      induction k31 with
      | zero =>
        intro l3_31 H locs ls r_l3_31 iv31 ms31 hw hl
        exact absurd ms31 (Nat.not_lt_zero _)
      | succ k31 ih31 =>
        intro l3_31 H locs ls r_l3_31 iv31 ms31 hw hl
        have L60_9 : ∀ (H : Heap) (locs : List Loc) (ls : Array Slot), (l3_31 < (v_0 124 o) → ¬ isLet_ (gC_ (v_0 303) a_t l3_31)) → WK D cy T (v_0) A0 s.heap H locs → lv_has ls 6 [(0, .ref o), (1, .ref a_t), (2, .int (J v_f)), (3, .int (J l3_31)), (4, .int (J zz4_))] → W p l e (rmd 8 0 0) s m ar below meth c H locs 0 0 QW (F0 m 60 ls []) := by
          intro H locs ls iv60 hw hl
          refine j_aload_n E 61 rfl dX5_scanToken_60 rfl (lv_at hl 0 rfl) ?_
          refine j_aload_n E 62 rfl dX5_scanToken_61 rfl (lv_at hl 1 rfl) ?_
          refine j_iload_n E 63 rfl dX5_scanToken_62 rfl (lv_at hl 2 rfl) ?_
          refine j_iload_n E 64 rfl dX5_scanToken_63 rfl (lv_at hl 3 rfl) ?_
          refine zS_i E (c_X8_keywordIn l D cy T (v_0) κ a_t v_f l3_31  hO  t_t r_v_f r_l3_31 (show 0 ≤ v_f ∧ v_f ≤ l3_31 ∧ l3_31 ≤ (T 1 a_t : Int) from by omega)) ms_X8_keywordIn ml_X5_50 hK hZ hAc hw hA ⟨Nat.le_of_ble_eq_true rfl, Nat.le_of_ble_eq_true rfl⟩ ⟨Nat.le_of_ble_eq_true rfl, Nat.le_of_ble_eq_true rfl⟩ (As := [.ref a_t, .int (J v_f), .int (J l3_31)]) (rest := [.ref o]) rfl rfl hl.1 (Nat.le_of_ble_eq_true rfl) 67 rfl dX5_scanToken_64 (fun zz11_ v_11 H locs rr11_ hq11_ hw => ?_)
          obtain ⟨ev11_, hh11_⟩ := hq11_
          rw [ev11_] at hw; clear ev11_
          have hh11_ : Wk_ (gC_ (v_0 303) a_t) v_f l3_31 zz11_ := hh11_
          have wk_ := hh11_
          refine j_iconst E 68 rfl dX5_scanToken_67 ?_
          refine j_iload_n E 69 rfl dX5_scanToken_68 rfl (lv_at hl 2 rfl) ?_
          refine kV_v E (c_X5_keep l D cy T (v_0) o zz11_ 0 v_f  t_o rr11_ (rr (by decide)) r_v_f (show 0 ≤ ((v_0 123) o) ∧ ((v_0 123) o) < 400 from by omega)) mt_X5_keep ml_X5_54 hK hw (cw_rc6 hK hw.1 t_o) hA ⟨Nat.le_of_ble_eq_true rfl, Nat.le_of_ble_eq_true rfl⟩ ⟨Nat.le_of_ble_eq_true rfl, Nat.le_of_ble_eq_true rfl⟩ (As := [.int (J zz11_), .int (J 0), .int (J v_f)]) (rest := []) rfl rfl hl.1 (Nat.le_of_ble_eq_true rfl) 72 rfl dX5_scanToken_69 (fun v_12 H locs hq12_ hw => ?_)
          obtain ⟨y123_12, y300_12, ev12_, hh12_⟩ := hq12_
          rw [ev12_] at hw; clear ev12_
          have hw : WK D cy T (upV (upV v_0 123 y123_12) 300 y300_12) A0 s.heap H locs := cw_eq hw (by first | rfl | (funext j_; simp only [upV, reduceIte]; (repeat' split) <;> first | rfl | omega | (subst_vars; rfl)))
          have hh12_ : (y123_12 o) = ((v_0 123) o) + 1 ∧ (y300_12) = upB (upB (upB (v_0 300) (pr (T 120 o) (Int.toNat (((v_0 123) o)))) zz11_) (pr (T 121 o) (Int.toNat (((v_0 123) o)))) (0 : Int)) (pr (T 122 o) (Int.toNat (((v_0 123) o)))) v_f := hh12_
          have st_ : St_ (gC_ (v_0 303) a_t) ((v_0 124 o)) (v_0 300) (y300_12) (T 120 o) (T 121 o) (T 122 o) ((v_0 123 o)) v_f l3_31 := ⟨_, _, Lt_wk (by omega) (by omega) (by omega) iv31.2.2 iv60 wk_, hh12_.2⟩
          have ct_ := hh12_.1
          refine j_goto E 175 dX5_scanToken_72 (by decide) ?_
          refine j_iload_n E 176 rfl dX5_scanToken_175 rfl (lv_at hl 3 rfl) ?_
          exact hret 176 l3_31 (upV (upV v_0 123 y123_12) 300 y300_12) _ _ ls hw r_l3_31 ⟨y123_12, y300_12, rfl, ⟨st_, ct_⟩⟩ dX5_scanToken_176
        refine j_iload_n E 32 rfl dX5_scanToken_31 rfl (lv_at hl 3 rfl) ?_
        refine j_aload_n E 33 rfl dX5_scanToken_32 rfl (lv_at hl 0 rfl) ?_
        refine g_124 E hK hw fl_X5_25 t_o (v_0 124 o) rfl 36 rfl dX5_scanToken_33 (fun rr13_ => ?_)
        refine j_icmp_ge E 39 60 rfl r_l3_31 rr13_ dX5_scanToken_36 (by decide) (fun cc14_ => ?_) (fun cc14_ => ?_)
        · exact L60_9   H locs ls  (fun q_ => by first | omega | (unfold isLet_; omega)) hw (lv_sub hl [0, 1, 2, 3, 4] rfl)
        · refine j_iload_n E 40 rfl dX5_scanToken_39 rfl (lv_at hl 3 rfl) ?_
          refine j_aload_n E 41 rfl dX5_scanToken_40 rfl (lv_at hl 1 rfl) ?_
          refine a_ln23 E hK hw t_t 42 rfl dX5_scanToken_41 (fun _ => ?_)
          refine j_icmp_ge E 45 60 rfl r_l3_31 rr2_ dX5_scanToken_42 (by decide) (fun cc15_ => ?_) (fun cc15_ => ?_)
          · exfalso; omega
          refine j_aload_n E 46 rfl dX5_scanToken_45 rfl (lv_at hl 1 rfl) ?_
          refine j_iload_n E 47 rfl dX5_scanToken_46 rfl (lv_at hl 3 rfl) ?_
          refine a_ld23 E hK hw t_t (by omega) 48 rfl dX5_scanToken_47 (fun zz16_ he16_ rr16_ => ?_)
          have he16_ : zz16_ = v_0 303 (pr a_t (Int.toNat l3_31)) := he16_
          have he_ : zz16_ = gC_ (v_0 303) a_t l3_31 := he16_
          refine kS_i E (c_X8_isLetter l D cy T (v_0) zz16_   rr16_ ) ms_X8_isLetter ml_X5_47 hK hw hA ⟨Nat.le_of_ble_eq_true rfl, Nat.le_of_ble_eq_true rfl⟩ ⟨Nat.le_of_ble_eq_true rfl, Nat.le_of_ble_eq_true rfl⟩ (As := [.int (J zz16_)]) (rest := []) rfl rfl hl.1 (Nat.le_of_ble_eq_true rfl) 51 rfl dX5_scanToken_48 (fun zz17_ v_17 H locs rr17_ hq17_ hw => ?_)
          obtain ⟨ev17_, hh17_⟩ := hq17_
          rw [ev17_] at hw; clear ev17_
          have hh17_ : (zz17_ = 1 ∧ ((97 ≤ zz16_ ∧ zz16_ ≤ 122) ∨ (65 ≤ zz16_ ∧ zz16_ ≤ 90))) ∨ (zz17_ = 0 ∧ ¬ ((97 ≤ zz16_ ∧ zz16_ ≤ 122) ∨ (65 ≤ zz16_ ∧ zz16_ ≤ 90))) := hh17_
          rcases hh17_ with ⟨ee17_, hh17_⟩ | ⟨ee17_, hh17_⟩
          · subst ee17_
            refine j_if_eq E 54 60 rfl (rr (by decide)) dX5_scanToken_51 (by decide) (fun cc18_ => absurd cc18_ (by decide)) (fun _ => ?_)
            refine j_iinc E 57 rfl [(3, .int (J (l3_31 + 1))), (0, .ref o), (1, .ref a_t), (2, .int (J v_f)), (4, .int (J zz4_))] dX5_scanToken_54 hl (kk := 3) rfl (by decide) rfl (fun ls hl => ?_)
            refine j_goto E 31 dX5_scanToken_57 (by decide) ?_
            exact ih31 (l3_31 + 1)  H locs ls (rr (by omega)) (⟨by omega, by omega, qr_st iv31.2.2 (by unfold isLet_; omega)⟩) (by omega) hw (lv_sub hl [1, 2, 3, 0, 4] rfl)
          · subst ee17_
            refine j_if_eq E 54 60 rfl (rr (by decide)) dX5_scanToken_51 (by decide) (fun _ => ?_) (fun cc19_ => absurd cc19_ (by decide))
            exact L60_9   H locs ls  (fun q_ => by first | omega | (unfold isLet_; omega)) hw (lv_sub hl [0, 1, 2, 3, 4] rfl)
    exact L31_7 _ (v_f + 1)  H locs ls (rr (by omega)) (⟨by omega, by omega, fun i_ h1_ h2_ => by rw [show i_ = v_f by omega]; unfold isLet_; omega⟩) (Nat.lt_succ_self _) hw (lv_sub hl [2, 3, 4, 1, 0] rfl)
  · subst ee5_
    refine j_if_eq E 31 75 rfl (rr (by decide)) dX5_scanToken_28 (by decide) (fun _ => ?_) (fun cc20_ => absurd cc20_ (by decide))
    refine j_iload E 77 rfl dX5_scanToken_75 (lv_at hl 0 rfl) ?_
    refine kS_i E (c_X8_isDigit l D cy T (v_0) zz4_   rr4_ ) ms_X8_isDigit ml_X5_58 hK hw hA ⟨Nat.le_of_ble_eq_true rfl, Nat.le_of_ble_eq_true rfl⟩ ⟨Nat.le_of_ble_eq_true rfl, Nat.le_of_ble_eq_true rfl⟩ (As := [.int (J zz4_)]) (rest := []) rfl rfl hl.1 (Nat.le_of_ble_eq_true rfl) 80 rfl dX5_scanToken_77 (fun zz21_ v_21 H locs rr21_ hq21_ hw => ?_)
    obtain ⟨ev21_, hh21_⟩ := hq21_
    rw [ev21_] at hw; clear ev21_
    have hh21_ : (zz21_ = 1 ∧ (48 ≤ zz4_ ∧ zz4_ ≤ 57)) ∨ (zz21_ = 0 ∧ ¬ (48 ≤ zz4_ ∧ zz4_ ≤ 57)) := hh21_
    rcases hh21_ with ⟨ee21_, hh21_⟩ | ⟨ee21_, hh21_⟩
    · subst ee21_
      refine j_if_eq E 83 155 rfl (rr (by decide)) dX5_scanToken_80 (by decide) (fun cc22_ => absurd cc22_ (by decide)) (fun _ => ?_)
      refine j_iload E 85 rfl dX5_scanToken_83 (lv_at hl 0 rfl) ?_
      refine j_bipush E 87 rfl dX5_scanToken_85 (by decide) ?_
      refine j_isub E 88 rfl dX5_scanToken_87 ?_
      refine j_istore E 90 rfl [(5, .int (J (zz4_ - 48))), (4, .int (J zz4_)), (3, .int (J (v_f + 1))), (0, .ref o), (1, .ref a_t), (2, .int (J v_f))] dX5_scanToken_88 hl (by decide) rfl (fun ls hl => ?_)
      have L90_23 : ∀ (k90 : Nat) (l3_90 l5_90 : Int) (H : Heap) (locs : List Loc) (ls : Array Slot), inR l3_90 → inR l5_90 → ((v_f < l3_90 ∧ l3_90 ≤ (v_0 124 o)) ∧ (∀ i_, v_f ≤ i_ → i_ < l3_90 → isDig_ (gC_ (v_0 303) a_t i_)) ∧ (l3_90 - v_f ≤ 4 → l5_90 = dv_ (gC_ (v_0 303) a_t) v_f (l3_90 - v_f).toNat)) → ((v_0 124 o) - l3_90).toNat < k90 → WK D cy T (v_0) A0 s.heap H locs → lv_has ls 6 [(0, .ref o), (1, .ref a_t), (2, .int (J v_f)), (3, .int (J l3_90)), (4, .int (J zz4_)), (5, .int (J l5_90))] → W p l e (rmd 8 0 0) s m ar below meth c H locs 0 0 QW (F0 m 90 ls []) := by
        intro k90
        induction k90 with
        | zero =>
          intro l3_90 l5_90 H locs ls r_l3_90 r_l5_90 iv90 ms90 hw hl
          exact absurd ms90 (Nat.not_lt_zero _)
        | succ k90 ih90 =>
          intro l3_90 l5_90 H locs ls r_l3_90 r_l5_90 iv90 ms90 hw hl
          have L133_25 : ∀ (H : Heap) (locs : List Loc) (ls : Array Slot), (l3_90 < (v_0 124 o) → ¬ isDig_ (gC_ (v_0 303) a_t l3_90)) → WK D cy T (v_0) A0 s.heap H locs → lv_has ls 6 [(0, .ref o), (1, .ref a_t), (2, .int (J v_f)), (3, .int (J l3_90)), (4, .int (J zz4_)), (5, .int (J l5_90))] → W p l e (rmd 8 0 0) s m ar below meth c H locs 0 0 QW (F0 m 133 ls []) := by
            intro H locs ls iv133 hw hl
            refine j_aload_n E 134 rfl dX5_scanToken_133 rfl (lv_at hl 0 rfl) ?_
            refine j_iload_n E 135 rfl dX5_scanToken_134 rfl (lv_at hl 3 rfl) ?_
            refine j_iload_n E 136 rfl dX5_scanToken_135 rfl (lv_at hl 2 rfl) ?_
            refine j_isub E 137 rfl dX5_scanToken_136 ?_
            refine j_iconst E 138 rfl dX5_scanToken_137 ?_
            refine j_icmp_gt E 141 145 rfl (rr (by omega)) (rr (by decide)) dX5_scanToken_138 (by decide) (fun cc27_ => ?_) (fun cc27_ => ?_)
            · refine j_iconst E 146 rfl dX5_scanToken_145 ?_
              refine j_iload E 148 rfl dX5_scanToken_146 (lv_at hl 5 rfl) ?_
              refine j_iload_n E 149 rfl dX5_scanToken_148 rfl (lv_at hl 2 rfl) ?_
              refine kV_v E (c_X5_keep l D cy T (v_0) o 2 l5_90 v_f  t_o (rr (by decide)) r_l5_90 r_v_f (show 0 ≤ ((v_0 123) o) ∧ ((v_0 123) o) < 400 from by omega)) mt_X5_keep ml_X5_54 hK hw (cw_rc6 hK hw.1 t_o) hA ⟨Nat.le_of_ble_eq_true rfl, Nat.le_of_ble_eq_true rfl⟩ ⟨Nat.le_of_ble_eq_true rfl, Nat.le_of_ble_eq_true rfl⟩ (As := [.int (J 2), .int (J l5_90), .int (J v_f)]) (rest := []) rfl rfl hl.1 (Nat.le_of_ble_eq_true rfl) 152 rfl dX5_scanToken_149 (fun v_28 H locs hq28_ hw => ?_)
              obtain ⟨y123_28, y300_28, ev28_, hh28_⟩ := hq28_
              rw [ev28_] at hw; clear ev28_
              have hw : WK D cy T (upV (upV v_0 123 y123_28) 300 y300_28) A0 s.heap H locs := cw_eq hw (by first | rfl | (funext j_; simp only [upV, reduceIte]; (repeat' split) <;> first | rfl | omega | (subst_vars; rfl)))
              have hh28_ : (y123_28 o) = ((v_0 123) o) + 1 ∧ (y300_28) = upB (upB (upB (v_0 300) (pr (T 120 o) (Int.toNat (((v_0 123) o)))) (2 : Int)) (pr (T 121 o) (Int.toNat (((v_0 123) o)))) l5_90) (pr (T 122 o) (Int.toNat (((v_0 123) o)))) v_f := hh28_
              have st_ : St_ (gC_ (v_0 303) a_t) ((v_0 124 o)) (v_0 300) (y300_28) (T 120 o) (T 121 o) (T 122 o) ((v_0 123 o)) v_f l3_90 := by first | exact ⟨_, _, Lt_d1 (by omega) (by omega) (by omega) iv90.2.1 iv133 (by omega) (iv90.2.2 (by omega)), hh28_.2⟩ | exact ⟨_, _, Lt_d0 (by omega) (by omega) (by omega) iv90.2.1 iv133 (by omega), hh28_.2⟩
              have ct_ := hh28_.1
              refine j_goto E 175 dX5_scanToken_152 (by decide) ?_
              refine j_iload_n E 176 rfl dX5_scanToken_175 rfl (lv_at hl 3 rfl) ?_
              exact hret 176 l3_90 (upV (upV v_0 123 y123_28) 300 y300_28) _ _ ls hw r_l3_90 ⟨y123_28, y300_28, rfl, ⟨st_, ct_⟩⟩ dX5_scanToken_176
            · refine j_iconst E 142 rfl dX5_scanToken_141 ?_
              refine j_goto E 146 dX5_scanToken_142 (by decide) ?_
              refine j_iload E 148 rfl dX5_scanToken_146 (lv_at hl 5 rfl) ?_
              refine j_iload_n E 149 rfl dX5_scanToken_148 rfl (lv_at hl 2 rfl) ?_
              refine kV_v E (c_X5_keep l D cy T (v_0) o 3 l5_90 v_f  t_o (rr (by decide)) r_l5_90 r_v_f (show 0 ≤ ((v_0 123) o) ∧ ((v_0 123) o) < 400 from by omega)) mt_X5_keep ml_X5_54 hK hw (cw_rc6 hK hw.1 t_o) hA ⟨Nat.le_of_ble_eq_true rfl, Nat.le_of_ble_eq_true rfl⟩ ⟨Nat.le_of_ble_eq_true rfl, Nat.le_of_ble_eq_true rfl⟩ (As := [.int (J 3), .int (J l5_90), .int (J v_f)]) (rest := []) rfl rfl hl.1 (Nat.le_of_ble_eq_true rfl) 152 rfl dX5_scanToken_149 (fun v_29 H locs hq29_ hw => ?_)
              obtain ⟨y123_29, y300_29, ev29_, hh29_⟩ := hq29_
              rw [ev29_] at hw; clear ev29_
              have hw : WK D cy T (upV (upV v_0 123 y123_29) 300 y300_29) A0 s.heap H locs := cw_eq hw (by first | rfl | (funext j_; simp only [upV, reduceIte]; (repeat' split) <;> first | rfl | omega | (subst_vars; rfl)))
              have hh29_ : (y123_29 o) = ((v_0 123) o) + 1 ∧ (y300_29) = upB (upB (upB (v_0 300) (pr (T 120 o) (Int.toNat (((v_0 123) o)))) (3 : Int)) (pr (T 121 o) (Int.toNat (((v_0 123) o)))) l5_90) (pr (T 122 o) (Int.toNat (((v_0 123) o)))) v_f := hh29_
              have st_ : St_ (gC_ (v_0 303) a_t) ((v_0 124 o)) (v_0 300) (y300_29) (T 120 o) (T 121 o) (T 122 o) ((v_0 123 o)) v_f l3_90 := by first | exact ⟨_, _, Lt_d1 (by omega) (by omega) (by omega) iv90.2.1 iv133 (by omega) (iv90.2.2 (by omega)), hh29_.2⟩ | exact ⟨_, _, Lt_d0 (by omega) (by omega) (by omega) iv90.2.1 iv133 (by omega), hh29_.2⟩
              have ct_ := hh29_.1
              refine j_goto E 175 dX5_scanToken_152 (by decide) ?_
              refine j_iload_n E 176 rfl dX5_scanToken_175 rfl (lv_at hl 3 rfl) ?_
              exact hret 176 l3_90 (upV (upV v_0 123 y123_29) 300 y300_29) _ _ ls hw r_l3_90 ⟨y123_29, y300_29, rfl, ⟨st_, ct_⟩⟩ dX5_scanToken_176
          refine j_iload_n E 91 rfl dX5_scanToken_90 rfl (lv_at hl 3 rfl) ?_
          refine j_aload_n E 92 rfl dX5_scanToken_91 rfl (lv_at hl 0 rfl) ?_
          refine g_124 E hK hw fl_X5_25 t_o (v_0 124 o) rfl 95 rfl dX5_scanToken_92 (fun rr30_ => ?_)
          refine j_icmp_ge E 98 133 rfl r_l3_90 rr30_ dX5_scanToken_95 (by decide) (fun cc31_ => ?_) (fun cc31_ => ?_)
          · exact L133_25   H locs ls  (fun q_ => by first | omega | (unfold isDig_; omega)) hw (lv_sub hl [0, 1, 2, 3, 4, 5] rfl)
          · refine j_iload_n E 99 rfl dX5_scanToken_98 rfl (lv_at hl 3 rfl) ?_
            refine j_aload_n E 100 rfl dX5_scanToken_99 rfl (lv_at hl 1 rfl) ?_
            refine a_ln23 E hK hw t_t 101 rfl dX5_scanToken_100 (fun _ => ?_)
            refine j_icmp_ge E 104 133 rfl r_l3_90 rr2_ dX5_scanToken_101 (by decide) (fun cc32_ => ?_) (fun cc32_ => ?_)
            · exfalso; omega
            refine j_aload_n E 105 rfl dX5_scanToken_104 rfl (lv_at hl 1 rfl) ?_
            refine j_iload_n E 106 rfl dX5_scanToken_105 rfl (lv_at hl 3 rfl) ?_
            refine a_ld23 E hK hw t_t (by omega) 107 rfl dX5_scanToken_106 (fun zz33_ he33_ rr33_ => ?_)
            have he33_ : zz33_ = v_0 303 (pr a_t (Int.toNat l3_90)) := he33_
            have he_ : zz33_ = gC_ (v_0 303) a_t l3_90 := he33_
            refine kS_i E (c_X8_isDigit l D cy T (v_0) zz33_   rr33_ ) ms_X8_isDigit ml_X5_58 hK hw hA ⟨Nat.le_of_ble_eq_true rfl, Nat.le_of_ble_eq_true rfl⟩ ⟨Nat.le_of_ble_eq_true rfl, Nat.le_of_ble_eq_true rfl⟩ (As := [.int (J zz33_)]) (rest := []) rfl rfl hl.1 (Nat.le_of_ble_eq_true rfl) 110 rfl dX5_scanToken_107 (fun zz34_ v_34 H locs rr34_ hq34_ hw => ?_)
            obtain ⟨ev34_, hh34_⟩ := hq34_
            rw [ev34_] at hw; clear ev34_
            have hh34_ : (zz34_ = 1 ∧ (48 ≤ zz33_ ∧ zz33_ ≤ 57)) ∨ (zz34_ = 0 ∧ ¬ (48 ≤ zz33_ ∧ zz33_ ≤ 57)) := hh34_
            rcases hh34_ with ⟨ee34_, hh34_⟩ | ⟨ee34_, hh34_⟩
            · subst ee34_
              refine j_if_eq E 113 133 rfl (rr (by decide)) dX5_scanToken_110 (by decide) (fun cc35_ => absurd cc35_ (by decide)) (fun _ => ?_)
              refine j_iload E 115 rfl dX5_scanToken_113 (lv_at hl 5 rfl) ?_
              refine j_bipush E 117 rfl dX5_scanToken_115 (by decide) ?_
              refine j_imul E 118 rfl dX5_scanToken_117 ?_
              refine j_aload_n E 119 rfl dX5_scanToken_118 rfl (lv_at hl 1 rfl) ?_
              refine j_iload_n E 120 rfl dX5_scanToken_119 rfl (lv_at hl 3 rfl) ?_
              refine a_ld23 E hK hw t_t (by omega) 121 rfl dX5_scanToken_120 (fun zz36_ he36_ rr36_ => ?_)
              have he36_ : zz36_ = v_0 303 (pr a_t (Int.toNat l3_90)) := he36_
              have hf_ : zz36_ = gC_ (v_0 303) a_t l3_90 := he36_
              refine j_bipush E 123 rfl dX5_scanToken_121 (by decide) ?_
              refine j_isub E 124 rfl dX5_scanToken_123 ?_
              refine j_iadd E 125 rfl dX5_scanToken_124 ?_
              refine j_norm (fun zz37_ rr37_ ee37_ => ?_)
              have en_ := ee37_
              have rn_ := rr37_
              refine j_istore E 127 rfl [(5, .int (J zz37_)), (0, .ref o), (1, .ref a_t), (2, .int (J v_f)), (3, .int (J l3_90)), (4, .int (J zz4_))] dX5_scanToken_125 hl (by decide) rfl (fun ls hl => ?_)
              refine j_iinc E 130 rfl [(3, .int (J (l3_90 + 1))), (5, .int (J zz37_)), (0, .ref o), (1, .ref a_t), (2, .int (J v_f)), (4, .int (J zz4_))] dX5_scanToken_127 hl (kk := 4) rfl (by decide) rfl (fun ls hl => ?_)
              refine j_goto E 90 dX5_scanToken_130 (by decide) ?_
              exact ih90 (l3_90 + 1) zz37_  H locs ls (rr (by omega)) rr37_ (⟨by omega, qr_st iv90.2.1 (by unfold isDig_; omega), fun h_ => by have va_ := iv90.2.2 (by omega); have vb_ := dv_sm iv90.2.1 (by omega) (by omega); have ev_ := (J_inj rn_ (rr (by omega))).mp en_; rw [dv_nx (by omega)]; omega⟩) (by omega) hw (lv_sub hl [2, 3, 4, 0, 5, 1] rfl)
            · subst ee34_
              refine j_if_eq E 113 133 rfl (rr (by decide)) dX5_scanToken_110 (by decide) (fun _ => ?_) (fun cc38_ => absurd cc38_ (by decide))
              exact L133_25   H locs ls  (fun q_ => by first | omega | (unfold isDig_; omega)) hw (lv_sub hl [0, 1, 2, 3, 4, 5] rfl)
      exact L90_23 _ (v_f + 1) (zz4_ - 48)  H locs ls (rr (by omega)) (rr (by omega)) (⟨by omega, fun i_ h1_ h2_ => by rw [show i_ = v_f by omega]; unfold isDig_; omega, fun _ => by rw [dv_1]; omega⟩) (Nat.lt_succ_self _) hw (lv_sub hl [3, 4, 5, 2, 1, 0] rfl)
    · subst ee21_
      refine j_if_eq E 83 155 rfl (rr (by decide)) dX5_scanToken_80 (by decide) (fun _ => ?_) (fun cc39_ => absurd cc39_ (by decide))
      refine j_aload_n E 156 rfl dX5_scanToken_155 rfl (lv_at hl 2 rfl) ?_
      refine j_iload E 158 rfl dX5_scanToken_156 (lv_at hl 0 rfl) ?_
      refine kS_i E (c_X8_isSign l D cy T (v_0) zz4_   rr4_ ) ms_X8_isSign ml_X5_61 hK hw hA ⟨Nat.le_of_ble_eq_true rfl, Nat.le_of_ble_eq_true rfl⟩ ⟨Nat.le_of_ble_eq_true rfl, Nat.le_of_ble_eq_true rfl⟩ (As := [.int (J zz4_)]) (rest := [.ref o]) rfl rfl hl.1 (Nat.le_of_ble_eq_true rfl) 161 rfl dX5_scanToken_158 (fun zz40_ v_40 H locs rr40_ hq40_ hw => ?_)
      obtain ⟨ev40_, hh40_⟩ := hq40_
      rw [ev40_] at hw; clear ev40_
      have hh40_ : (zz40_ = 1 ∧ (zz4_ = 59 ∨ zz4_ = 43 ∨ zz4_ = 45 ∨ zz4_ = 42 ∨ zz4_ = 47 ∨ zz4_ = 40 ∨ zz4_ = 41 ∨ zz4_ = 60 ∨ zz4_ = 61 ∨ zz4_ = 62)) ∨ (zz40_ = 0 ∧ ¬ (zz4_ = 59 ∨ zz4_ = 43 ∨ zz4_ = 45 ∨ zz4_ = 42 ∨ zz4_ = 47 ∨ zz4_ = 40 ∨ zz4_ = 41 ∨ zz4_ = 60 ∨ zz4_ = 61 ∨ zz4_ = 62)) := hh40_
      rcases hh40_ with ⟨ee40_, hh40_⟩ | ⟨ee40_, hh40_⟩
      · subst ee40_
        refine j_if_eq E 164 169 rfl (rr (by decide)) dX5_scanToken_161 (by decide) (fun cc41_ => absurd cc41_ (by decide)) (fun _ => ?_)
        refine j_iload E 166 rfl dX5_scanToken_164 (lv_at hl 0 rfl) ?_
        refine j_goto E 170 dX5_scanToken_166 (by decide) ?_
        refine j_iconst E 171 rfl dX5_scanToken_170 ?_
        refine j_iload_n E 172 rfl dX5_scanToken_171 rfl (lv_at hl 4 rfl) ?_
        refine kV_v E (c_X5_keep l D cy T (v_0) o zz4_ 0 v_f  t_o rr4_ (rr (by decide)) r_v_f (show 0 ≤ ((v_0 123) o) ∧ ((v_0 123) o) < 400 from by omega)) mt_X5_keep ml_X5_54 hK hw (cw_rc6 hK hw.1 t_o) hA ⟨Nat.le_of_ble_eq_true rfl, Nat.le_of_ble_eq_true rfl⟩ ⟨Nat.le_of_ble_eq_true rfl, Nat.le_of_ble_eq_true rfl⟩ (As := [.int (J zz4_), .int (J 0), .int (J v_f)]) (rest := []) rfl rfl hl.1 (Nat.le_of_ble_eq_true rfl) 175 rfl dX5_scanToken_172 (fun v_42 H locs hq42_ hw => ?_)
        obtain ⟨y123_42, y300_42, ev42_, hh42_⟩ := hq42_
        rw [ev42_] at hw; clear ev42_
        have hw : WK D cy T (upV (upV v_0 123 y123_42) 300 y300_42) A0 s.heap H locs := cw_eq hw (by first | rfl | (funext j_; simp only [upV, reduceIte]; (repeat' split) <;> first | rfl | omega | (subst_vars; rfl)))
        have hh42_ : (y123_42 o) = ((v_0 123) o) + 1 ∧ (y300_42) = upB (upB (upB (v_0 300) (pr (T 120 o) (Int.toNat (((v_0 123) o)))) zz4_) (pr (T 121 o) (Int.toNat (((v_0 123) o)))) (0 : Int)) (pr (T 122 o) (Int.toNat (((v_0 123) o)))) v_f := hh42_
        have st_ : St_ (gC_ (v_0 303) a_t) ((v_0 124 o)) (v_0 300) (y300_42) (T 120 o) (T 121 o) (T 122 o) ((v_0 123 o)) v_f (v_f + 1) := by first | exact ⟨_, _, Lt_s1 (by omega) (by unfold isLet_; omega) (by unfold isDig_; omega) (by unfold isSg_; omega) (by omega), hh42_.2⟩ | exact ⟨_, _, Lt_s0 (by omega) (by unfold isLet_; omega) (by unfold isDig_; omega) (by unfold isSg_; omega), hh42_.2⟩
        have ct_ := hh42_.1
        refine j_iload_n E 176 rfl dX5_scanToken_175 rfl (lv_at hl 1 rfl) ?_
        exact hret 176 (v_f + 1) (upV (upV v_0 123 y123_42) 300 y300_42) _ _ ls hw (rr (by omega)) ⟨y123_42, y300_42, rfl, ⟨st_, ct_⟩⟩ dX5_scanToken_176
      · subst ee40_
        refine j_if_eq E 164 169 rfl (rr (by decide)) dX5_scanToken_161 (by decide) (fun _ => ?_) (fun cc43_ => absurd cc43_ (by decide))
        refine j_iconst E 170 rfl dX5_scanToken_169 ?_
        refine j_iconst E 171 rfl dX5_scanToken_170 ?_
        refine j_iload_n E 172 rfl dX5_scanToken_171 rfl (lv_at hl 4 rfl) ?_
        refine kV_v E (c_X5_keep l D cy T (v_0) o 2 0 v_f  t_o (rr (by decide)) (rr (by decide)) r_v_f (show 0 ≤ ((v_0 123) o) ∧ ((v_0 123) o) < 400 from by omega)) mt_X5_keep ml_X5_54 hK hw (cw_rc6 hK hw.1 t_o) hA ⟨Nat.le_of_ble_eq_true rfl, Nat.le_of_ble_eq_true rfl⟩ ⟨Nat.le_of_ble_eq_true rfl, Nat.le_of_ble_eq_true rfl⟩ (As := [.int (J 2), .int (J 0), .int (J v_f)]) (rest := []) rfl rfl hl.1 (Nat.le_of_ble_eq_true rfl) 175 rfl dX5_scanToken_172 (fun v_44 H locs hq44_ hw => ?_)
        obtain ⟨y123_44, y300_44, ev44_, hh44_⟩ := hq44_
        rw [ev44_] at hw; clear ev44_
        have hw : WK D cy T (upV (upV v_0 123 y123_44) 300 y300_44) A0 s.heap H locs := cw_eq hw (by first | rfl | (funext j_; simp only [upV, reduceIte]; (repeat' split) <;> first | rfl | omega | (subst_vars; rfl)))
        have hh44_ : (y123_44 o) = ((v_0 123) o) + 1 ∧ (y300_44) = upB (upB (upB (v_0 300) (pr (T 120 o) (Int.toNat (((v_0 123) o)))) (2 : Int)) (pr (T 121 o) (Int.toNat (((v_0 123) o)))) (0 : Int)) (pr (T 122 o) (Int.toNat (((v_0 123) o)))) v_f := hh44_
        have st_ : St_ (gC_ (v_0 303) a_t) ((v_0 124 o)) (v_0 300) (y300_44) (T 120 o) (T 121 o) (T 122 o) ((v_0 123 o)) v_f (v_f + 1) := by first | exact ⟨_, _, Lt_s1 (by omega) (by unfold isLet_; omega) (by unfold isDig_; omega) (by unfold isSg_; omega) (by omega), hh44_.2⟩ | exact ⟨_, _, Lt_s0 (by omega) (by unfold isLet_; omega) (by unfold isDig_; omega) (by unfold isSg_; omega), hh44_.2⟩
        have ct_ := hh44_.1
        refine j_iload_n E 176 rfl dX5_scanToken_175 rfl (lv_at hl 1 rfl) ?_
        exact hret 176 (v_f + 1) (upV (upV v_0 123 y123_44) 300 y300_44) _ _ ls hw (rr (by omega)) ⟨y123_44, y300_44, rfl, ⟨st_, ct_⟩⟩ dX5_scanToken_176
set_option maxHeartbeats 4000000 in
set_option maxRecDepth 100000 in
theorem c_X5_scan (l : Launch) (D : va_G) (cy : Nat → ClassId) (T : Nat → Nat → Nat) (v_0 : Nat → Nat → Int) (κ : Nat → Nat → Nat) (o : Nat) (a_t : Nat) (v_n : Int) (hO : ∀ x, ow T x → κ 2 2 ≤ x) (t_o : T 0 o = 6) (t_t : T 0 a_t = 23) (r_v_n : inR v_n) (hp0 : 0 ≤ v_n ∧ v_n ≤ (T 1 a_t : Int) ∧ (T 1 a_t : Int) ≤ 400) : KZ l D cy κ T yX5_scan cX5_scan 5 none 9 [.ref o, .ref a_t, .int (J v_n)] v_0 (KV (fun (v_2 : Nat → Nat → Int) => ∃ (y123_2 : Nat → Int) (y124_2 : Nat → Int) (y300_2 : Nat → Int) , v_2 = upV (upV (upV v_0 123 y123_2) 124 y124_2) 300 y300_2 ∧ (Ch_ (gC_ (v_0 303) a_t) v_n (y300_2) (T 120 o) (T 121 o) (T 122 o) ((y123_2 o)) v_n ∧ (y124_2 o) = v_n))) := by
  refine KZ.ofv (by decide) (Nat.le_of_ble_eq_true rfl) hO ?_
  intro p e s m below meth c ls ar QW A0 H locs E hK hZ hA hAc hw hl hret
  have hl : lv_has ls 5 [(0, .ref o), (1, .ref a_t), (2, .int (J v_n))] := hl
  have hT : WT T := hw.1.2.1
  have n1_ : T 120 o ≠ T 121 o := ro_ne (wo_120 hT t_o) (wo_121 hT t_o) (by decide) (by decide) (by omega)
  have n2_ : T 120 o ≠ T 122 o := ro_ne (wo_120 hT t_o) (wo_122 hT t_o) (by decide) (by decide) (by omega)
  have n3_ : T 121 o ≠ T 122 o := ro_ne (wo_121 hT t_o) (wo_122 hT t_o) (by decide) (by decide) (by omega)
  refine j_aload_n E 1 rfl dX5_scan_0 rfl (lv_at hl 0 rfl) ?_
  refine j_iconst E 2 rfl dX5_scan_1 ?_
  refine p_123 E hK hw fl_X5_21 t_o (rr (by decide)) 5 rfl dX5_scan_2 (fun H locs hw => ?_)
  have hw : WK D cy T (upV v_0 123 (upB (v_0 123) o 0)) A0 s.heap H locs := cw_eq hw (by first | rfl | (funext j_; simp only [upV, reduceIte]; (repeat' split) <;> first | rfl | omega | (subst_vars; rfl)))
  refine j_aload_n E 6 rfl dX5_scan_5 rfl (lv_at hl 0 rfl) ?_
  refine j_iconst E 7 rfl dX5_scan_6 ?_
  refine j_iload_n E 8 rfl dX5_scan_7 rfl (lv_at hl 2 rfl) ?_
  refine j_aload_n E 9 rfl dX5_scan_8 rfl (lv_at hl 1 rfl) ?_
  refine a_ln23 E hK hw t_t 10 rfl dX5_scan_9 (fun rr2_ => ?_)
  refine j_min E hl.1 ml_X5_28 r_v_n rr2_ ⟨Nat.le_of_ble_eq_true rfl, Nat.le_of_ble_eq_true rfl⟩ ⟨Nat.le_of_ble_eq_true rfl, Nat.le_of_ble_eq_true rfl⟩ 13 rfl dX5_scan_10 (fun zz3_ rr3_ hh3_ => ?_)
  refine j_max E hl.1 ml_X5_34 (rr (by decide)) rr3_ ⟨Nat.le_of_ble_eq_true rfl, Nat.le_of_ble_eq_true rfl⟩ ⟨Nat.le_of_ble_eq_true rfl, Nat.le_of_ble_eq_true rfl⟩ 16 rfl dX5_scan_13 (fun zz4_ rr4_ hh4_ => ?_)
  have en_ : zz4_ = v_n := by omega
  refine p_124 E hK hw fl_X5_25 t_o rr4_ 19 rfl dX5_scan_16 (fun H locs hw => ?_)
  have hw : WK D cy T (upV (upV v_0 123 (upB (v_0 123) o 0)) 124 (upB (v_0 124) o zz4_)) A0 s.heap H locs := cw_eq hw (by first | rfl | (funext j_; simp only [upV, reduceIte]; (repeat' split) <;> first | rfl | omega | (subst_vars; rfl)))
  refine j_iconst E 20 rfl dX5_scan_19 ?_
  refine j_istore_n E 21 rfl [(3, .int (J 0)), (0, .ref o), (1, .ref a_t), (2, .int (J v_n))] dX5_scan_20 rfl hl (by decide) rfl (fun ls hl => ?_)
  refine j_iconst E 22 rfl dX5_scan_21 ?_
  refine j_istore E 24 rfl [(4, .int (J 0)), (3, .int (J 0)), (0, .ref o), (1, .ref a_t), (2, .int (J v_n))] dX5_scan_22 hl (by decide) rfl (fun ls hl => ?_)
  have L24_6 : ∀ (k24 : Nat) (l3_24 l4_24 : Int) (y123_c24 : Nat → Int) (y300_c24 : Nat → Int) (H : Heap) (locs : List Loc) (ls : Array Slot), inR l3_24 → inR l4_24 → (Ch_ (gC_ (v_0 303) a_t) v_n (y300_c24) (T 120 o) (T 121 o) (T 122 o) ((y123_c24 o)) l3_24 ∧ 0 ≤ l4_24 ∧ l4_24 ≤ l3_24 ∧ l3_24 ≤ v_n) → (v_n - l4_24).toNat < k24 → WK D cy T (upV (upV (upV v_0 123 y123_c24) 124 (upB (v_0 124) o zz4_)) 300 y300_c24) A0 s.heap H locs → lv_has ls 5 [(0, .ref o), (1, .ref a_t), (2, .int (J v_n)), (3, .int (J l3_24)), (4, .int (J l4_24))] → W p l e (rmd 9 0 0) s m ar below meth c H locs 0 0 QW (F0 m 24 ls []) := by
    intro k24
    induction k24 with
    | zero =>
      intro l3_24 l4_24 y123_c24 y300_c24 H locs ls r_l3_24 r_l4_24 iv24 ms24 hw hl
      exact absurd ms24 (Nat.not_lt_zero _)
    | succ k24 ih24 =>
      intro l3_24 l4_24 y123_c24 y300_c24 H locs ls r_l3_24 r_l4_24 iv24 ms24 hw hl
      refine j_iload E 26 rfl dX5_scan_24 (lv_at hl 4 rfl) ?_
      refine j_aload_n E 27 rfl dX5_scan_26 rfl (lv_at hl 0 rfl) ?_
      refine g_124 E hK hw fl_X5_25 t_o zz4_ (upB_same _ _ _) 30 rfl dX5_scan_27 (fun _ => ?_)
      refine j_icmp_ge E 33 70 rfl r_l4_24 rr4_ dX5_scan_30 (by decide) (fun cc8_ => ?_) (fun cc8_ => ?_)
      · exact hret 70 (upV (upV (upV v_0 123 y123_c24) 124 (upB (v_0 124) o zz4_)) 300 y300_c24) _ _ ls hw ⟨y123_c24, (upB (v_0 124) o zz4_), y300_c24, rfl, ⟨Ch_e iv24.1 (by omega), by rw [upB_same]; exact en_⟩⟩ dX5_scan_70
      · refine j_iload E 35 rfl dX5_scan_33 (lv_at hl 4 rfl) ?_
        refine j_iload_n E 36 rfl dX5_scan_35 rfl (lv_at hl 3 rfl) ?_
        refine j_icmp_lt E 39 64 rfl r_l4_24 r_l3_24 dX5_scan_36 (by decide) (fun cc9_ => ?_) (fun cc9_ => ?_)
        · refine j_iinc E 67 rfl [(4, .int (J (l4_24 + 1))), (0, .ref o), (1, .ref a_t), (2, .int (J v_n)), (3, .int (J l3_24))] dX5_scan_64 hl (kk := 4) rfl (by decide) rfl (fun ls hl => ?_)
          refine j_goto E 24 dX5_scan_67 (by decide) ?_
          exact ih24 l3_24 (l4_24 + 1) y123_c24 y300_c24 H locs ls r_l3_24 (rr (by omega)) (by first | exact ⟨by rw [cc_]; exact ct_.1, by omega, by omega, by omega⟩ | exact ⟨cb_, by omega, by omega, by omega⟩ | exact ⟨iv24.1, by omega, by omega, by omega⟩) (by omega) hw (lv_sub hl [1, 2, 3, 4, 0] rfl)
        · refine j_aload_n E 40 rfl dX5_scan_39 rfl (lv_at hl 1 rfl) ?_
          refine j_iload E 42 rfl dX5_scan_40 (lv_at hl 4 rfl) ?_
          refine a_ld23 E hK hw t_t (by omega) 43 rfl dX5_scan_42 (fun zz10_ he10_ rr10_ => ?_)
          have he10_ : zz10_ = v_0 303 (pr a_t (Int.toNat l4_24)) := he10_
          have he_ : zz10_ = gC_ (v_0 303) a_t l4_24 := he10_
          refine kS_i E (c_X8_isBlank l D cy T (upV (upV (upV v_0 123 y123_c24) 124 (upB (v_0 124) o zz4_)) 300 y300_c24) zz10_   rr10_ ) ms_X8_isBlank ml_X5_37 hK hw hA ⟨Nat.le_of_ble_eq_true rfl, Nat.le_of_ble_eq_true rfl⟩ ⟨Nat.le_of_ble_eq_true rfl, Nat.le_of_ble_eq_true rfl⟩ (As := [.int (J zz10_)]) (rest := []) rfl rfl hl.1 (Nat.le_of_ble_eq_true rfl) 46 rfl dX5_scan_43 (fun zz11_ v_11 H locs rr11_ hq11_ hw => ?_)
          obtain ⟨ev11_, hh11_⟩ := hq11_
          rw [ev11_] at hw; clear ev11_
          have hh11_ : (zz11_ = 1 ∧ (zz10_ = 32 ∨ zz10_ = 10)) ∨ (zz11_ = 0 ∧ ¬ (zz10_ = 32 ∨ zz10_ = 10)) := hh11_
          rcases hh11_ with ⟨ee11_, hh11_⟩ | ⟨ee11_, hh11_⟩
          · subst ee11_
            have cb_ := Ch_b2 iv24.1 (show l4_24 = l3_24 by omega) (by unfold isBl_; omega)
            refine j_if_eq E 49 56 rfl (rr (by decide)) dX5_scan_46 (by decide) (fun cc12_ => absurd cc12_ (by decide)) (fun _ => ?_)
            refine j_iload E 51 rfl dX5_scan_49 (lv_at hl 4 rfl) ?_
            refine j_iconst E 52 rfl dX5_scan_51 ?_
            refine j_iadd E 53 rfl dX5_scan_52 ?_
            refine j_goto E 63 dX5_scan_53 (by decide) ?_
            refine j_istore_n E 64 rfl [(3, .int (J (l4_24 + 1))), (0, .ref o), (1, .ref a_t), (2, .int (J v_n)), (4, .int (J l4_24))] dX5_scan_63 rfl hl (by decide) rfl (fun ls hl => ?_)
            refine j_iinc E 67 rfl [(4, .int (J (l4_24 + 1))), (3, .int (J (l4_24 + 1))), (0, .ref o), (1, .ref a_t), (2, .int (J v_n))] dX5_scan_64 hl (kk := 4) rfl (by decide) rfl (fun ls hl => ?_)
            refine j_goto E 24 dX5_scan_67 (by decide) ?_
            exact ih24 (l4_24 + 1) (l4_24 + 1) y123_c24 y300_c24 H locs ls (rr (by omega)) (rr (by omega)) (by first | exact ⟨by rw [cc_]; exact ct_.1, by omega, by omega, by omega⟩ | exact ⟨cb_, by omega, by omega, by omega⟩ | exact ⟨iv24.1, by omega, by omega, by omega⟩) (by omega) hw (lv_sub hl [2, 3, 4, 1, 0] rfl)
          · subst ee11_
            have nb_ : ¬ isBl_ (gC_ (v_0 303) a_t l4_24) := by unfold isBl_; omega
            refine j_if_eq E 49 56 rfl (rr (by decide)) dX5_scan_46 (by decide) (fun _ => ?_) (fun cc13_ => absurd cc13_ (by decide))
            refine j_aload_n E 57 rfl dX5_scan_56 rfl (lv_at hl 0 rfl) ?_
            refine j_aload_n E 58 rfl dX5_scan_57 rfl (lv_at hl 1 rfl) ?_
            refine j_iload E 60 rfl dX5_scan_58 (lv_at hl 4 rfl) ?_
            have q4_ := Ch_cnt iv24.1
            refine zV_i E (c_X5_scanToken l D cy T (upV (upV (upV v_0 123 y123_c24) 124 (upB (v_0 124) o zz4_)) 300 y300_c24) κ o a_t l4_24  hO t_o t_t r_l4_24 (show 0 ≤ (y123_c24 o) ∧ (y123_c24 o) < 400 from by omega) (show 0 ≤ l4_24 ∧ l4_24 < ((upB (v_0 124) o zz4_) o) ∧ ((upB (v_0 124) o zz4_) o) ≤ (T 1 a_t : Int) from by rw [upB_same]; omega)) mt_X5_scanToken ml_X5_43 hK hZ hAc hw (cw_rc6 hK hw.1 t_o) hA ⟨Nat.le_of_ble_eq_true rfl, Nat.le_of_ble_eq_true rfl⟩ ⟨Nat.le_of_ble_eq_true rfl, Nat.le_of_ble_eq_true rfl⟩ (As := [.ref a_t, .int (J l4_24)]) (rest := []) rfl rfl hl.1 (Nat.le_of_ble_eq_true rfl) 63 rfl dX5_scan_60 (fun zz14_ v_14 H locs rr14_ hq14_ hw => ?_)
            obtain ⟨y123_14, y300_14, ev14_, hh14_⟩ := hq14_
            rw [ev14_] at hw; clear ev14_
            have hw : WK D cy T (upV (upV (upV v_0 123 y123_14) 124 (upB (v_0 124) o zz4_)) 300 y300_14) A0 s.heap H locs := cw_eq hw (by first | rfl | (funext j_; simp only [upV, reduceIte]; (repeat' split) <;> first | rfl | omega | (subst_vars; rfl)))
            have hh14_ : St_ (gC_ (v_0 303) a_t) (((upB (v_0 124) o zz4_) o)) (y300_c24) (y300_14) (T 120 o) (T 121 o) (T 122 o) ((y123_c24 o)) l4_24 zz14_ ∧ (y123_14 o) = (y123_c24 o) + 1 := hh14_
            have hs_ := hh14_.1
            rw [upB_same, en_] at hs_
            have ct_ := Ch_t2 iv24.1 (show l4_24 = l3_24 by omega) nb_ hs_ n1_ n2_ n3_
            have cc_ := hh14_.2
            refine j_istore_n E 64 rfl [(3, .int (J zz14_)), (0, .ref o), (1, .ref a_t), (2, .int (J v_n)), (4, .int (J l4_24))] dX5_scan_63 rfl hl (by decide) rfl (fun ls hl => ?_)
            refine j_iinc E 67 rfl [(4, .int (J (l4_24 + 1))), (3, .int (J zz14_)), (0, .ref o), (1, .ref a_t), (2, .int (J v_n))] dX5_scan_64 hl (kk := 4) rfl (by decide) rfl (fun ls hl => ?_)
            refine j_goto E 24 dX5_scan_67 (by decide) ?_
            exact ih24 zz14_ (l4_24 + 1) y123_14 y300_14 H locs ls rr14_ (rr (by omega)) (by first | exact ⟨by rw [cc_]; exact ct_.1, by omega, by omega, by omega⟩ | exact ⟨cb_, by omega, by omega, by omega⟩ | exact ⟨iv24.1, by omega, by omega, by omega⟩) (by omega) hw (lv_sub hl [2, 3, 4, 1, 0] rfl)
  exact L24_6 _ 0 0 (upB (v_0 123) o 0) (v_0 300) H locs ls (rr (by decide)) (rr (by decide)) (⟨by rw [upB_same]; exact Ch_0, by omega, by omega, by omega⟩) (Nat.lt_succ_self _) (cw_eq hw (by first | rfl | (funext j_; simp only [upV, reduceIte]; (repeat' split) <;> first | rfl | omega | (subst_vars; rfl)))) (lv_sub hl [2, 3, 4, 1, 0] rfl)
set_option maxHeartbeats 4000000 in
set_option maxRecDepth 100000 in
theorem c_X3_step (l : Launch) (D : va_G) (cy : Nat → ClassId) (T : Nat → Nat → Nat) (v_0 : Nat → Nat → Int) (κ : Nat → Nat → Nat) (o : Nat) (K_ : Int → Int) (V_ : Int → Int) (hO : ∀ x, ow T x → κ 2 2 ≤ x) (t_o : T 0 o = 4) (hp0 : RK_ (v_0 300) (T 120 (T 82 o)) (T 121 (T 82 o)) ((v_0 123 (T 82 o))) K_ V_) (hp1 : 0 ≤ (v_0 83 o) ∧ (v_0 83 o) < 400) : KZ l D cy κ T yX3_step cX3_step 1 none 1 [.ref o] v_0 (KV (fun (v_2 : Nat → Nat → Int) => ∃ (y83_2 : Nat → Int) (y84_2 : Nat → Int) , v_2 = upV (upV v_0 83 y83_2) 84 y84_2 ∧ ((y83_2 o) = (v_0 83 o) + 1 ∧ (y84_2 o) = K_ ((v_0 83 o) + 1)))) := by
  refine KZ.ofv (by decide) (Nat.le_of_ble_eq_true rfl) hO ?_
  intro p e s m below meth c ls ar QW A0 H locs E hK hZ hA hAc hw hl hret
  have hl : lv_has ls 1 [(0, .ref o)] := hl
  have hT : WT T := hw.1.2.1
  have c4_ := hp0.2.2.2.1
  refine j_aload_n E 1 rfl dX3_step_0 rfl (lv_at hl 0 rfl) ?_
  refine j_dup E 2 rfl dX3_step_1 rfl ?_
  refine g_83 E hK hw fl_X3_25 t_o (v_0 83 o) rfl 5 rfl dX3_step_2 (fun rr1_ => ?_)
  refine j_iconst E 6 rfl dX3_step_5 ?_
  refine j_iadd E 7 rfl dX3_step_6 ?_
  refine p_83 E hK hw fl_X3_25 t_o (rr (by omega)) 10 rfl dX3_step_7 (fun H locs hw => ?_)
  have hw : WK D cy T (upV v_0 83 (upB (v_0 83) o ((v_0 83 o) + 1))) A0 s.heap H locs := cw_eq hw (by first | rfl | (funext j_; simp only [upV, reduceIte]; (repeat' split) <;> first | rfl | omega | (subst_vars; rfl)))
  refine j_aload_n E 11 rfl dX3_step_10 rfl (lv_at hl 0 rfl) ?_
  refine j_aload_n E 12 rfl dX3_step_11 rfl (lv_at hl 0 rfl) ?_
  refine g_83 E hK hw fl_X3_25 t_o ((v_0 83 o) + 1) (upB_same _ _ _) 15 rfl dX3_step_12 (fun rr3_ => ?_)
  refine j_if_lt E 18 62 rfl rr3_ dX3_step_15 (by decide) (fun cc4_ => ?_) (fun cc4_ => ?_)
  · exfalso; omega
  refine j_aload_n E 19 rfl dX3_step_18 rfl (lv_at hl 0 rfl) ?_
  refine g_83 E hK hw fl_X3_25 t_o ((v_0 83 o) + 1) (upB_same _ _ _) 22 rfl dX3_step_19 (fun _ => ?_)
  refine j_aload_n E 23 rfl dX3_step_22 rfl (lv_at hl 0 rfl) ?_
  refine g_82 E hK hw fl_X3_21 t_o 26 rfl dX3_step_23 ?_
  refine gn_123 E hZ rfl hK hw (wt_82 hT t_o) (v_0 123 (T 82 o)) rfl 29 rfl dX3_step_26 (fun rr5_ => ?_)
  refine j_icmp_ge E 32 62 rfl rr3_ rr5_ dX3_step_29 (by decide) (fun cc6_ => ?_) (fun cc6_ => ?_)
  · refine j_iconst E 63 rfl dX3_step_62 ?_
    refine p_84 E hK hw fl_X3_30 t_o (rr (by decide)) 66 rfl dX3_step_63 (fun H locs hw => ?_)
    have hw : WK D cy T (upV (upV v_0 83 (upB (v_0 83) o ((v_0 83 o) + 1))) 84 (upB (v_0 84) o 1)) A0 s.heap H locs := cw_eq hw (by first | rfl | (funext j_; simp only [upV, reduceIte]; (repeat' split) <;> first | rfl | omega | (subst_vars; rfl)))
    exact hret 66 (upV (upV v_0 83 (upB (v_0 83) o ((v_0 83 o) + 1))) 84 (upB (v_0 84) o 1)) _ _ ls hw ⟨(upB (v_0 83) o ((v_0 83 o) + 1)), (upB (v_0 84) o 1), rfl, ⟨upB_same _ _ _, by rw [upB_same]; first | exact he_.trans (hp0.1 _ (by omega) (by omega)).1 | exact (hp0.2.1 _ (by omega)).symm⟩⟩ dX3_step_66
  · refine j_aload_n E 33 rfl dX3_step_32 rfl (lv_at hl 0 rfl) ?_
    refine g_83 E hK hw fl_X3_25 t_o ((v_0 83 o) + 1) (upB_same _ _ _) 36 rfl dX3_step_33 (fun _ => ?_)
    refine j_aload_n E 37 rfl dX3_step_36 rfl (lv_at hl 0 rfl) ?_
    refine g_82 E hK hw fl_X3_21 t_o 40 rfl dX3_step_37 ?_
    refine gn_120 E hZ rfl hK hw (wt_82 hT t_o) 43 rfl dX3_step_40 ?_
    have ln8_ := wl_120 hT (wt_82 hT t_o)
    refine a_ln20 E hK hw (wt_120 hT (wt_82 hT t_o)) 44 rfl dX3_step_43 (fun rr9_ => ?_)
    refine j_icmp_ge E 47 62 rfl rr3_ rr9_ dX3_step_44 (by decide) (fun cc10_ => ?_) (fun cc10_ => ?_)
    · exfalso; omega
    refine j_aload_n E 48 rfl dX3_step_47 rfl (lv_at hl 0 rfl) ?_
    refine g_82 E hK hw fl_X3_21 t_o 51 rfl dX3_step_48 ?_
    refine gn_120 E hZ rfl hK hw (wt_82 hT t_o) 54 rfl dX3_step_51 ?_
    refine j_aload_n E 55 rfl dX3_step_54 rfl (lv_at hl 0 rfl) ?_
    refine g_83 E hK hw fl_X3_25 t_o ((v_0 83 o) + 1) (upB_same _ _ _) 58 rfl dX3_step_55 (fun _ => ?_)
    refine a_ld20 E hK hw (wt_120 hT (wt_82 hT t_o)) (by omega) 59 rfl dX3_step_58 (fun zz11_ he11_ rr11_ => ?_)
    have he11_ : zz11_ = v_0 300 (pr (T 120 (T 82 o)) (Int.toNat ((v_0 83 o) + 1))) := he11_
    have he_ : zz11_ = gC_ (v_0 300) (T 120 (T 82 o)) (((v_0 83 o) + 1)) := he11_
    refine j_goto E 63 dX3_step_59 (by decide) ?_
    refine p_84 E hK hw fl_X3_30 t_o rr11_ 66 rfl dX3_step_63 (fun H locs hw => ?_)
    have hw : WK D cy T (upV (upV v_0 83 (upB (v_0 83) o ((v_0 83 o) + 1))) 84 (upB (v_0 84) o zz11_)) A0 s.heap H locs := cw_eq hw (by first | rfl | (funext j_; simp only [upV, reduceIte]; (repeat' split) <;> first | rfl | omega | (subst_vars; rfl)))
    exact hret 66 (upV (upV v_0 83 (upB (v_0 83) o ((v_0 83 o) + 1))) 84 (upB (v_0 84) o zz11_)) _ _ ls hw ⟨(upB (v_0 83) o ((v_0 83 o) + 1)), (upB (v_0 84) o zz11_), rfl, ⟨upB_same _ _ _, by rw [upB_same]; first | exact he_.trans (hp0.1 _ (by omega) (by omega)).1 | exact (hp0.2.1 _ (by omega)).symm⟩⟩ dX3_step_66
set_option maxHeartbeats 4000000 in
set_option maxRecDepth 100000 in
theorem c_X3_refuse (l : Launch) (D : va_G) (cy : Nat → ClassId) (T : Nat → Nat → Nat) (v_0 : Nat → Nat → Int) (o : Nat) (v_f : Int) (t_o : T 0 o = 4) (r_v_f : inR v_f) : KC l D cy T yX3_refuse cX3_refuse 2 none 1 [.ref o, .int (J v_f)] v_0 (KV (fun (v_2 : Nat → Nat → Int) => ∃ (y80_2 : Nat → Int) (y84_2 : Nat → Int) , v_2 = upV (upV v_0 80 y80_2) 84 y84_2 ∧ ((y84_2 o) = 2 ∧ (((v_0 80 o) = 0 ∧ (y80_2 o) = v_f) ∨ (¬ (v_0 80 o) = 0 ∧ (y80_2 o) = (v_0 80 o)))))) := by
  refine KC.ofv (by decide) (Nat.le_of_ble_eq_true rfl) ?_
  intro p e s m below meth c ls ar QW A0 H0 H locs E hK hA hw hl hret
  have hl : lv_has ls 2 [(0, .ref o), (1, .int (J v_f))] := hl
  have hT : WT T := hw.1.2.1
  refine j_aload_n E 1 rfl dX3_refuse_0 rfl (lv_at hl 0 rfl) ?_
  have L16_1 : ∀ (s0_16 : Int) (H : Heap) (locs : List Loc) (ls : Array Slot), inR s0_16 → (((v_0 80 o) = 0 ∧ s0_16 = v_f) ∨ (¬ (v_0 80 o) = 0 ∧ s0_16 = (v_0 80 o))) → WK D cy T (v_0) A0 H0 H locs → lv_has ls 2 [(0, .ref o), (1, .int (J v_f))] → W p l e (rmd 1 0 0) s m ar below meth c H locs 0 0 QW (F0 m 16 ls [.int (J s0_16), .ref o]) := by
    intro s0_16 H locs ls r_s0_16 iv16 hw hl
    refine p_80 E hK hw fl_X3_9 t_o r_s0_16 19 rfl dX3_refuse_16 (fun H locs hw => ?_)
    have hw : WK D cy T (upV v_0 80 (upB (v_0 80) o s0_16)) A0 H0 H locs := cw_eq hw (by first | rfl | (funext j_; simp only [upV, reduceIte]; (repeat' split) <;> first | rfl | omega | (subst_vars; rfl)))
    refine j_aload_n E 20 rfl dX3_refuse_19 rfl (lv_at hl 0 rfl) ?_
    refine j_iconst E 21 rfl dX3_refuse_20 ?_
    refine p_84 E hK hw fl_X3_30 t_o (rr (by decide)) 24 rfl dX3_refuse_21 (fun H locs hw => ?_)
    have hw : WK D cy T (upV (upV v_0 80 (upB (v_0 80) o s0_16)) 84 (upB (v_0 84) o 2)) A0 H0 H locs := cw_eq hw (by first | rfl | (funext j_; simp only [upV, reduceIte]; (repeat' split) <;> first | rfl | omega | (subst_vars; rfl)))
    exact hret 24 (upV (upV v_0 80 (upB (v_0 80) o s0_16)) 84 (upB (v_0 84) o 2)) _ _ ls hw ⟨(upB (v_0 80) o s0_16), (upB (v_0 84) o 2), rfl, by first | omega | (simp only [upB_same]; omega)⟩ dX3_refuse_24
  refine j_aload_n E 2 rfl dX3_refuse_1 rfl (lv_at hl 0 rfl) ?_
  refine g_80 E hK hw fl_X3_9 t_o (v_0 80 o) rfl 5 rfl dX3_refuse_2 (fun rr5_ => ?_)
  refine j_if_ne E 8 12 rfl rr5_ dX3_refuse_5 (by decide) (fun cc6_ => ?_) (fun cc6_ => ?_)
  · refine j_aload_n E 13 rfl dX3_refuse_12 rfl (lv_at hl 0 rfl) ?_
    refine g_80 E hK hw fl_X3_9 t_o (v_0 80 o) rfl 16 rfl dX3_refuse_13 (fun _ => ?_)
    exact L16_1 (v_0 80 o)  H locs ls rr5_ (by omega) hw (lv_sub hl [0, 1] rfl)
  · refine j_iload_n E 9 rfl dX3_refuse_8 rfl (lv_at hl 1 rfl) ?_
    refine j_goto E 16 dX3_refuse_9 (by decide) ?_
    exact L16_1 v_f  H locs ls r_v_f (by omega) hw (lv_sub hl [0, 1] rfl)
set_option maxHeartbeats 4000000 in
set_option maxRecDepth 100000 in
theorem c_X3_emit (l : Launch) (D : va_G) (cy : Nat → ClassId) (T : Nat → Nat → Nat) (v_0 : Nat → Nat → Int) (o : Nat) (v_s : Int) (t_o : T 0 o = 4) (r_v_s : inR v_s) (hp0 : 0 ≤ (v_0 86 o) ∧ (v_0 86 o) ≤ 400) : KC l D cy T yX3_emit cX3_emit 2 none 1 [.ref o, .int (J v_s)] v_0 (KV (fun (v_2 : Nat → Nat → Int) => ∃ (y86_2 : Nat → Int) (y300_2 : Nat → Int) , v_2 = upV (upV v_0 86 y86_2) 300 y300_2 ∧ ((0 ≤ (y86_2 o) ∧ (y86_2 o) ≤ 400) ∧ Ro_ (v_0 300) (y300_2) (T 85 o)))) := by
  refine KC.ofv (by decide) (Nat.le_of_ble_eq_true rfl) ?_
  intro p e s m below meth c ls ar QW A0 H0 H locs E hK hA hw hl hret
  have hl : lv_has ls 2 [(0, .ref o), (1, .int (J v_s))] := hl
  have hT : WT T := hw.1.2.1
  refine j_aload_n E 1 rfl dX3_emit_0 rfl (lv_at hl 0 rfl) ?_
  refine g_86 E hK hw fl_X3_37 t_o (v_0 86 o) rfl 4 rfl dX3_emit_1 (fun rr1_ => ?_)
  refine j_if_lt E 7 39 rfl rr1_ dX3_emit_4 (by decide) (fun cc2_ => ?_) (fun cc2_ => ?_)
  · exact hret 39 (upV (upV v_0 86 (v_0 86)) 300 (v_0 300)) _ _ ls (cw_eq hw (by first | rfl | (funext j_; simp only [upV, reduceIte]; (repeat' split) <;> first | rfl | omega | (subst_vars; rfl)))) ⟨(v_0 86), (v_0 300), rfl, by first | exact ⟨by omega, Ro_rf⟩ | exact ⟨by simp only [upB_same]; omega, Ro_up⟩⟩ dX3_emit_39
  · refine j_aload_n E 8 rfl dX3_emit_7 rfl (lv_at hl 0 rfl) ?_
    refine g_86 E hK hw fl_X3_37 t_o (v_0 86 o) rfl 11 rfl dX3_emit_8 (fun _ => ?_)
    refine j_aload_n E 12 rfl dX3_emit_11 rfl (lv_at hl 0 rfl) ?_
    refine g_85 E hK hw fl_X3_33 t_o 15 rfl dX3_emit_12 ?_
    have ln3_ := wl_85 hT t_o
    refine a_ln20 E hK hw (wt_85 hT t_o) 16 rfl dX3_emit_15 (fun rr4_ => ?_)
    refine j_icmp_ge E 19 39 rfl rr1_ rr4_ dX3_emit_16 (by decide) (fun cc5_ => ?_) (fun cc5_ => ?_)
    · exact hret 39 (upV (upV v_0 86 (v_0 86)) 300 (v_0 300)) _ _ ls (cw_eq hw (by first | rfl | (funext j_; simp only [upV, reduceIte]; (repeat' split) <;> first | rfl | omega | (subst_vars; rfl)))) ⟨(v_0 86), (v_0 300), rfl, by first | exact ⟨by omega, Ro_rf⟩ | exact ⟨by simp only [upB_same]; omega, Ro_up⟩⟩ dX3_emit_39
    · refine j_aload_n E 20 rfl dX3_emit_19 rfl (lv_at hl 0 rfl) ?_
      refine g_85 E hK hw fl_X3_33 t_o 23 rfl dX3_emit_20 ?_
      refine j_aload_n E 24 rfl dX3_emit_23 rfl (lv_at hl 0 rfl) ?_
      refine g_86 E hK hw fl_X3_37 t_o (v_0 86 o) rfl 27 rfl dX3_emit_24 (fun _ => ?_)
      refine j_iload_n E 28 rfl dX3_emit_27 rfl (lv_at hl 1 rfl) ?_
      refine a_st20 E hK hw (wt_85 hT t_o) r_v_s (by omega) 29 rfl dX3_emit_28 (fun H locs hw => ?_)
      have hw : WK D cy T (upV v_0 300 (upB (v_0 300) ((pr (T 85 o) (Int.toNat (v_0 86 o)))) v_s)) A0 H0 H locs := cw_eq hw (by first | rfl | (funext j_; simp only [upV, reduceIte]; (repeat' split) <;> first | rfl | omega | (subst_vars; rfl)))
      refine j_aload_n E 30 rfl dX3_emit_29 rfl (lv_at hl 0 rfl) ?_
      refine j_dup E 31 rfl dX3_emit_30 rfl ?_
      refine g_86 E hK hw fl_X3_37 t_o (v_0 86 o) rfl 34 rfl dX3_emit_31 (fun _ => ?_)
      refine j_iconst E 35 rfl dX3_emit_34 ?_
      refine j_iadd E 36 rfl dX3_emit_35 ?_
      refine p_86 E hK hw fl_X3_37 t_o (rr (by omega)) 39 rfl dX3_emit_36 (fun H locs hw => ?_)
      have hw : WK D cy T (upV (upV v_0 86 (upB (v_0 86) o ((v_0 86 o) + 1))) 300 (upB (v_0 300) ((pr (T 85 o) (Int.toNat (v_0 86 o)))) v_s)) A0 H0 H locs := cw_eq hw (by first | rfl | (funext j_; simp only [upV, reduceIte]; (repeat' split) <;> first | rfl | omega | (subst_vars; rfl)))
      exact hret 39 (upV (upV v_0 86 (upB (v_0 86) o ((v_0 86 o) + 1))) 300 (upB (v_0 300) ((pr (T 85 o) (Int.toNat (v_0 86 o)))) v_s)) _ _ ls hw ⟨(upB (v_0 86) o ((v_0 86 o) + 1)), (upB (v_0 300) ((pr (T 85 o) (Int.toNat (v_0 86 o)))) v_s), rfl, by first | exact ⟨by omega, Ro_rf⟩ | exact ⟨by simp only [upB_same]; omega, Ro_up⟩⟩ dX3_emit_39
set_option maxHeartbeats 4000000 in
set_option maxRecDepth 100000 in
theorem c_X3_take (l : Launch) (D : va_G) (cy : Nat → ClassId) (T : Nat → Nat → Nat) (v_0 : Nat → Nat → Int) (κ : Nat → Nat → Nat) (o : Nat) (v_d : Int) (K_ : Int → Int) (V_ : Int → Int) (hO : ∀ x, ow T x → κ 2 2 ≤ x) (t_o : T 0 o = 4) (r_v_d : inR v_d) (hp0 : RK_ (v_0 300) (T 120 (T 82 o)) (T 121 (T 82 o)) ((v_0 123 (T 82 o))) K_ V_) (hp1 : Cs_ K_ ((v_0 83 o)) ((v_0 84 o)) ((v_0 80 o))) (hp2 : 3 < v_d) : KZ l D cy κ T yX3_take cX3_take 2 none 2 [.ref o, .int (J v_d)] v_0 (KV (fun (v_2 : Nat → Nat → Int) => ∃ (y80_2 : Nat → Int) (y83_2 : Nat → Int) (y84_2 : Nat → Int) , v_2 = upV (upV (upV v_0 80 y80_2) 83 y83_2) 84 y84_2 ∧ ((((v_0 84 o) = v_d) ∧ (y83_2 o) = (v_0 83 o) + 1 ∧ (y84_2 o) = K_ ((v_0 83 o) + 1) ∧ (y80_2 o) = (v_0 80 o)) ∨ (¬ ((v_0 84 o) = v_d) ∧ (y83_2 o) = (v_0 83 o) ∧ (y84_2 o) = 2 ∧ (((v_0 80 o) = 0 ∧ (y80_2 o) = 1) ∨ (¬ (v_0 80 o) = 0 ∧ (y80_2 o) = (v_0 80 o))))))) := by
  refine KZ.ofv (by decide) (Nat.le_of_ble_eq_true rfl) hO ?_
  intro p e s m below meth c ls ar QW A0 H locs E hK hZ hA hAc hw hl hret
  have hl : lv_has ls 2 [(0, .ref o), (1, .int (J v_d))] := hl
  have hT : WT T := hw.1.2.1
  have cs_ := hp1
  unfold Cs_ at cs_
  refine j_aload_n E 1 rfl dX3_take_0 rfl (lv_at hl 0 rfl) ?_
  refine g_84 E hK hw fl_X3_30 t_o (v_0 84 o) rfl 4 rfl dX3_take_1 (fun rr1_ => ?_)
  refine j_iload_n E 5 rfl dX3_take_4 rfl (lv_at hl 1 rfl) ?_
  refine j_icmp_ne E 8 15 rfl rr1_ r_v_d dX3_take_5 (by decide) (fun cc2_ => ?_) (fun cc2_ => ?_)
  · refine j_aload_n E 16 rfl dX3_take_15 rfl (lv_at hl 0 rfl) ?_
    refine j_iconst E 17 rfl dX3_take_16 ?_
    refine kV_v E (c_X3_refuse l D cy T (v_0) o 1  t_o (rr (by decide)) ) mt_X3_refuse ml_X3_63 hK hw (cw_rc4 hK hw.1 t_o) hA ⟨Nat.le_of_ble_eq_true rfl, Nat.le_of_ble_eq_true rfl⟩ ⟨Nat.le_of_ble_eq_true rfl, Nat.le_of_ble_eq_true rfl⟩ (As := [.int (J 1)]) (rest := []) rfl rfl hl.1 (Nat.le_of_ble_eq_true rfl) 20 rfl dX3_take_17 (fun v_3 H locs hq3_ hw => ?_)
    obtain ⟨y80_3, y84_3, ev3_, hh3_⟩ := hq3_
    rw [ev3_] at hw; clear ev3_
    have hw : WK D cy T (upV (upV v_0 80 y80_3) 84 y84_3) A0 s.heap H locs := cw_eq hw (by first | rfl | (funext j_; simp only [upV, reduceIte]; (repeat' split) <;> first | rfl | omega | (subst_vars; rfl)))
    have hh3_ : (y84_3 o) = 2 ∧ ((((v_0 80) o) = 0 ∧ (y80_3 o) = (1 : Int)) ∨ (¬ ((v_0 80) o) = 0 ∧ (y80_3 o) = ((v_0 80) o))) := hh3_
    exact hret 20 (upV (upV (upV v_0 80 y80_3) 83 (v_0 83)) 84 y84_3) _ _ ls (cw_eq hw (by first | rfl | (funext j_; simp only [upV, reduceIte]; (repeat' split) <;> first | rfl | omega | (subst_vars; rfl)))) ⟨y80_3, (v_0 83), y84_3, rfl, by first | omega | (simp only [upB_same]; omega)⟩ dX3_take_20
  · refine j_aload_n E 9 rfl dX3_take_8 rfl (lv_at hl 0 rfl) ?_
    refine zV_v E (c_X3_step l D cy T (v_0) κ o K_ V_ hO t_o  (show RK_ (v_0 300) (T 120 (T 82 o)) (T 121 (T 82 o)) (((v_0 123) (T 82 o))) K_ V_ from hp0) (show 0 ≤ ((v_0 83) o) ∧ ((v_0 83) o) < 400 from by have q_ := RK_lt hp0 (j := (v_0 83 o)) (by omega); omega)) mt_X3_step ml_X3_54 hK hZ hAc hw (cw_rc4 hK hw.1 t_o) hA ⟨Nat.le_of_ble_eq_true rfl, Nat.le_of_ble_eq_true rfl⟩ ⟨Nat.le_of_ble_eq_true rfl, Nat.le_of_ble_eq_true rfl⟩ (As := []) (rest := []) rfl rfl hl.1 (Nat.le_of_ble_eq_true rfl) 12 rfl dX3_take_9 (fun v_4 H locs hq4_ hw => ?_)
    obtain ⟨y83_4, y84_4, ev4_, hh4_⟩ := hq4_
    rw [ev4_] at hw; clear ev4_
    have hw : WK D cy T (upV (upV v_0 83 y83_4) 84 y84_4) A0 s.heap H locs := cw_eq hw (by first | rfl | (funext j_; simp only [upV, reduceIte]; (repeat' split) <;> first | rfl | omega | (subst_vars; rfl)))
    have hh4_ : (y83_4 o) = ((v_0 83) o) + 1 ∧ (y84_4 o) = K_ (((v_0 83) o) + 1) := hh4_
    refine j_goto E 20 dX3_take_12 (by decide) ?_
    exact hret 20 (upV (upV (upV v_0 80 (v_0 80)) 83 y83_4) 84 y84_4) _ _ ls (cw_eq hw (by first | rfl | (funext j_; simp only [upV, reduceIte]; (repeat' split) <;> first | rfl | omega | (subst_vars; rfl)))) ⟨(v_0 80), y83_4, y84_4, rfl, by first | omega | (simp only [upB_same]; omega)⟩ dX3_take_20
set_option maxHeartbeats 4000000 in
set_option maxRecDepth 100000 in
theorem c_X3_takeComparison (l : Launch) (D : va_G) (cy : Nat → ClassId) (T : Nat → Nat → Nat) (v_0 : Nat → Nat → Int) (κ : Nat → Nat → Nat) (o : Nat) (K_ : Int → Int) (V_ : Int → Int) (hO : ∀ x, ow T x → κ 2 2 ≤ x) (t_o : T 0 o = 4) (hp0 : RK_ (v_0 300) (T 120 (T 82 o)) (T 121 (T 82 o)) ((v_0 123 (T 82 o))) K_ V_) (hp1 : Cs_ K_ ((v_0 83 o)) ((v_0 84 o)) ((v_0 80 o))) : KZ l D cy κ T yX3_takeComparison cX3_takeComparison 1 none 2 [.ref o] v_0 (KV (fun (v_2 : Nat → Nat → Int) => ∃ (y80_2 : Nat → Int) (y83_2 : Nat → Int) (y84_2 : Nat → Int) , v_2 = upV (upV (upV v_0 80 y80_2) 83 y83_2) 84 y84_2 ∧ ((((v_0 84 o) = 60 ∨ (v_0 84 o) = 61 ∨ (v_0 84 o) = 62) ∧ (y83_2 o) = (v_0 83 o) + 1 ∧ (y84_2 o) = K_ ((v_0 83 o) + 1) ∧ (y80_2 o) = (v_0 80 o)) ∨ (¬ ((v_0 84 o) = 60 ∨ (v_0 84 o) = 61 ∨ (v_0 84 o) = 62) ∧ (y83_2 o) = (v_0 83 o) ∧ (y84_2 o) = 2 ∧ (((v_0 80 o) = 0 ∧ (y80_2 o) = 1) ∨ (¬ (v_0 80 o) = 0 ∧ (y80_2 o) = (v_0 80 o))))))) := by
  refine KZ.ofv (by decide) (Nat.le_of_ble_eq_true rfl) hO ?_
  intro p e s m below meth c ls ar QW A0 H locs E hK hZ hA hAc hw hl hret
  have hl : lv_has ls 1 [(0, .ref o)] := hl
  have hT : WT T := hw.1.2.1
  have cs_ := hp1
  unfold Cs_ at cs_
  refine j_aload_n E 1 rfl dX3_takeComparison_0 rfl (lv_at hl 0 rfl) ?_
  refine g_84 E hK hw fl_X3_30 t_o (v_0 84 o) rfl 4 rfl dX3_takeComparison_1 (fun rr1_ => ?_)
  refine j_bipush E 6 rfl dX3_takeComparison_4 (by decide) ?_
  refine j_icmp_eq E 9 27 rfl rr1_ (rr (by decide)) dX3_takeComparison_6 (by decide) (fun cc2_ => ?_) (fun cc2_ => ?_)
  · refine j_aload_n E 28 rfl dX3_takeComparison_27 rfl (lv_at hl 0 rfl) ?_
    refine zV_v E (c_X3_step l D cy T (v_0) κ o K_ V_ hO t_o  (show RK_ (v_0 300) (T 120 (T 82 o)) (T 121 (T 82 o)) (((v_0 123) (T 82 o))) K_ V_ from hp0) (show 0 ≤ ((v_0 83) o) ∧ ((v_0 83) o) < 400 from by have q_ := RK_lt hp0 (j := (v_0 83 o)) (by omega); omega)) mt_X3_step ml_X3_54 hK hZ hAc hw (cw_rc4 hK hw.1 t_o) hA ⟨Nat.le_of_ble_eq_true rfl, Nat.le_of_ble_eq_true rfl⟩ ⟨Nat.le_of_ble_eq_true rfl, Nat.le_of_ble_eq_true rfl⟩ (As := []) (rest := []) rfl rfl hl.1 (Nat.le_of_ble_eq_true rfl) 31 rfl dX3_takeComparison_28 (fun v_3 H locs hq3_ hw => ?_)
    obtain ⟨y83_3, y84_3, ev3_, hh3_⟩ := hq3_
    rw [ev3_] at hw; clear ev3_
    have hw : WK D cy T (upV (upV v_0 83 y83_3) 84 y84_3) A0 s.heap H locs := cw_eq hw (by first | rfl | (funext j_; simp only [upV, reduceIte]; (repeat' split) <;> first | rfl | omega | (subst_vars; rfl)))
    have hh3_ : (y83_3 o) = ((v_0 83) o) + 1 ∧ (y84_3 o) = K_ (((v_0 83) o) + 1) := hh3_
    refine j_goto E 39 dX3_takeComparison_31 (by decide) ?_
    exact hret 39 (upV (upV (upV v_0 80 (v_0 80)) 83 y83_3) 84 y84_3) _ _ ls (cw_eq hw (by first | rfl | (funext j_; simp only [upV, reduceIte]; (repeat' split) <;> first | rfl | omega | (subst_vars; rfl)))) ⟨(v_0 80), y83_3, y84_3, rfl, by first | omega | (simp only [upB_same]; omega)⟩ dX3_takeComparison_39
  · refine j_aload_n E 10 rfl dX3_takeComparison_9 rfl (lv_at hl 0 rfl) ?_
    refine g_84 E hK hw fl_X3_30 t_o (v_0 84 o) rfl 13 rfl dX3_takeComparison_10 (fun _ => ?_)
    refine j_bipush E 15 rfl dX3_takeComparison_13 (by decide) ?_
    refine j_icmp_eq E 18 27 rfl rr1_ (rr (by decide)) dX3_takeComparison_15 (by decide) (fun cc4_ => ?_) (fun cc4_ => ?_)
    · refine j_aload_n E 28 rfl dX3_takeComparison_27 rfl (lv_at hl 0 rfl) ?_
      refine zV_v E (c_X3_step l D cy T (v_0) κ o K_ V_ hO t_o  (show RK_ (v_0 300) (T 120 (T 82 o)) (T 121 (T 82 o)) (((v_0 123) (T 82 o))) K_ V_ from hp0) (show 0 ≤ ((v_0 83) o) ∧ ((v_0 83) o) < 400 from by have q_ := RK_lt hp0 (j := (v_0 83 o)) (by omega); omega)) mt_X3_step ml_X3_54 hK hZ hAc hw (cw_rc4 hK hw.1 t_o) hA ⟨Nat.le_of_ble_eq_true rfl, Nat.le_of_ble_eq_true rfl⟩ ⟨Nat.le_of_ble_eq_true rfl, Nat.le_of_ble_eq_true rfl⟩ (As := []) (rest := []) rfl rfl hl.1 (Nat.le_of_ble_eq_true rfl) 31 rfl dX3_takeComparison_28 (fun v_5 H locs hq5_ hw => ?_)
      obtain ⟨y83_5, y84_5, ev5_, hh5_⟩ := hq5_
      rw [ev5_] at hw; clear ev5_
      have hw : WK D cy T (upV (upV v_0 83 y83_5) 84 y84_5) A0 s.heap H locs := cw_eq hw (by first | rfl | (funext j_; simp only [upV, reduceIte]; (repeat' split) <;> first | rfl | omega | (subst_vars; rfl)))
      have hh5_ : (y83_5 o) = ((v_0 83) o) + 1 ∧ (y84_5 o) = K_ (((v_0 83) o) + 1) := hh5_
      refine j_goto E 39 dX3_takeComparison_31 (by decide) ?_
      exact hret 39 (upV (upV (upV v_0 80 (v_0 80)) 83 y83_5) 84 y84_5) _ _ ls (cw_eq hw (by first | rfl | (funext j_; simp only [upV, reduceIte]; (repeat' split) <;> first | rfl | omega | (subst_vars; rfl)))) ⟨(v_0 80), y83_5, y84_5, rfl, by first | omega | (simp only [upB_same]; omega)⟩ dX3_takeComparison_39
    · refine j_aload_n E 19 rfl dX3_takeComparison_18 rfl (lv_at hl 0 rfl) ?_
      refine g_84 E hK hw fl_X3_30 t_o (v_0 84 o) rfl 22 rfl dX3_takeComparison_19 (fun _ => ?_)
      refine j_bipush E 24 rfl dX3_takeComparison_22 (by decide) ?_
      refine j_icmp_ne E 27 34 rfl rr1_ (rr (by decide)) dX3_takeComparison_24 (by decide) (fun cc6_ => ?_) (fun cc6_ => ?_)
      · refine j_aload_n E 35 rfl dX3_takeComparison_34 rfl (lv_at hl 0 rfl) ?_
        refine j_iconst E 36 rfl dX3_takeComparison_35 ?_
        refine kV_v E (c_X3_refuse l D cy T (v_0) o 1  t_o (rr (by decide)) ) mt_X3_refuse ml_X3_63 hK hw (cw_rc4 hK hw.1 t_o) hA ⟨Nat.le_of_ble_eq_true rfl, Nat.le_of_ble_eq_true rfl⟩ ⟨Nat.le_of_ble_eq_true rfl, Nat.le_of_ble_eq_true rfl⟩ (As := [.int (J 1)]) (rest := []) rfl rfl hl.1 (Nat.le_of_ble_eq_true rfl) 39 rfl dX3_takeComparison_36 (fun v_7 H locs hq7_ hw => ?_)
        obtain ⟨y80_7, y84_7, ev7_, hh7_⟩ := hq7_
        rw [ev7_] at hw; clear ev7_
        have hw : WK D cy T (upV (upV v_0 80 y80_7) 84 y84_7) A0 s.heap H locs := cw_eq hw (by first | rfl | (funext j_; simp only [upV, reduceIte]; (repeat' split) <;> first | rfl | omega | (subst_vars; rfl)))
        have hh7_ : (y84_7 o) = 2 ∧ ((((v_0 80) o) = 0 ∧ (y80_7 o) = (1 : Int)) ∨ (¬ ((v_0 80) o) = 0 ∧ (y80_7 o) = ((v_0 80) o))) := hh7_
        exact hret 39 (upV (upV (upV v_0 80 y80_7) 83 (v_0 83)) 84 y84_7) _ _ ls (cw_eq hw (by first | rfl | (funext j_; simp only [upV, reduceIte]; (repeat' split) <;> first | rfl | omega | (subst_vars; rfl)))) ⟨y80_7, (v_0 83), y84_7, rfl, by first | omega | (simp only [upB_same]; omega)⟩ dX3_takeComparison_39
      · refine j_aload_n E 28 rfl dX3_takeComparison_27 rfl (lv_at hl 0 rfl) ?_
        refine zV_v E (c_X3_step l D cy T (v_0) κ o K_ V_ hO t_o  (show RK_ (v_0 300) (T 120 (T 82 o)) (T 121 (T 82 o)) (((v_0 123) (T 82 o))) K_ V_ from hp0) (show 0 ≤ ((v_0 83) o) ∧ ((v_0 83) o) < 400 from by have q_ := RK_lt hp0 (j := (v_0 83 o)) (by omega); omega)) mt_X3_step ml_X3_54 hK hZ hAc hw (cw_rc4 hK hw.1 t_o) hA ⟨Nat.le_of_ble_eq_true rfl, Nat.le_of_ble_eq_true rfl⟩ ⟨Nat.le_of_ble_eq_true rfl, Nat.le_of_ble_eq_true rfl⟩ (As := []) (rest := []) rfl rfl hl.1 (Nat.le_of_ble_eq_true rfl) 31 rfl dX3_takeComparison_28 (fun v_8 H locs hq8_ hw => ?_)
        obtain ⟨y83_8, y84_8, ev8_, hh8_⟩ := hq8_
        rw [ev8_] at hw; clear ev8_
        have hw : WK D cy T (upV (upV v_0 83 y83_8) 84 y84_8) A0 s.heap H locs := cw_eq hw (by first | rfl | (funext j_; simp only [upV, reduceIte]; (repeat' split) <;> first | rfl | omega | (subst_vars; rfl)))
        have hh8_ : (y83_8 o) = ((v_0 83) o) + 1 ∧ (y84_8 o) = K_ (((v_0 83) o) + 1) := hh8_
        refine j_goto E 39 dX3_takeComparison_31 (by decide) ?_
        exact hret 39 (upV (upV (upV v_0 80 (v_0 80)) 83 y83_8) 84 y84_8) _ _ ls (cw_eq hw (by first | rfl | (funext j_; simp only [upV, reduceIte]; (repeat' split) <;> first | rfl | omega | (subst_vars; rfl)))) ⟨(v_0 80), y83_8, y84_8, rfl, by first | omega | (simp only [upB_same]; omega)⟩ dX3_takeComparison_39
set_option maxHeartbeats 4000000 in
set_option maxRecDepth 100000 in
theorem c_X3_takeNumber (l : Launch) (D : va_G) (cy : Nat → ClassId) (T : Nat → Nat → Nat) (v_0 : Nat → Nat → Int) (κ : Nat → Nat → Nat) (o : Nat) (v_a : Int) (v_b : Int) (v_c : Int) (K_ : Int → Int) (V_ : Int → Int) (hO : ∀ x, ow T x → κ 2 2 ≤ x) (t_o : T 0 o = 4) (r_v_a : inR v_a) (r_v_b : inR v_b) (r_v_c : inR v_c) (hp0 : 0 ≤ (v_0 86 o) ∧ (v_0 86 o) ≤ 400) (hp1 : RK_ (v_0 300) (T 120 (T 82 o)) (T 121 (T 82 o)) ((v_0 123 (T 82 o))) K_ V_) (hp2 : Cs_ K_ ((v_0 83 o)) ((v_0 84 o)) ((v_0 80 o))) (hp3 : 0 ≤ v_a ∧ v_b ≤ 9999 ∧ 0 ≤ v_c ∧ v_c ≤ 10000) : KZ l D cy κ T yX3_takeNumber cX3_takeNumber 5 none 2 [.ref o, .int (J v_a), .int (J v_b), .int (J v_c)] v_0 (KV (fun (v_2 : Nat → Nat → Int) => ∃ (y80_2 : Nat → Int) (y83_2 : Nat → Int) (y84_2 : Nat → Int) (y86_2 : Nat → Int) (y300_2 : Nat → Int) , v_2 = upV (upV (upV (upV (upV v_0 80 y80_2) 83 y83_2) 84 y84_2) 86 y86_2) 300 y300_2 ∧ ((0 ≤ (y86_2 o) ∧ (y86_2 o) ≤ 400) ∧ Ro_ (v_0 300) (y300_2) (T 85 o) ∧ Tn_ K_ V_ v_a v_b ((v_0 83 o)) ((v_0 84 o)) ((v_0 80 o)) ((y83_2 o)) ((y84_2 o)) ((y80_2 o))))) := by
  refine KZ.ofv (by decide) (Nat.le_of_ble_eq_true rfl) hO ?_
  intro p e s m below meth c ls ar QW A0 H locs E hK hZ hA hAc hw hl hret
  have hl : lv_has ls 5 [(0, .ref o), (1, .int (J v_a)), (2, .int (J v_b)), (3, .int (J v_c))] := hl
  have hT : WT T := hw.1.2.1
  have cs_ := hp2
  unfold Cs_ at cs_
  have nk_ : T 120 (T 82 o) ≠ T 85 o := ro_ne (wo_120 hT (wt_82 hT t_o)) (wo_85 hT t_o) (by decide) (by decide) (by omega)
  have nv_ : T 121 (T 82 o) ≠ T 85 o := ro_ne (wo_121 hT (wt_82 hT t_o)) (wo_85 hT t_o) (by decide) (by decide) (by omega)
  have c4_ := hp1.2.2
  refine j_aload_n E 1 rfl dX3_takeNumber_0 rfl (lv_at hl 0 rfl) ?_
  refine g_82 E hK hw fl_X3_21 t_o 4 rfl dX3_takeNumber_1 ?_
  refine j_aload_n E 5 rfl dX3_takeNumber_4 rfl (lv_at hl 0 rfl) ?_
  refine g_83 E hK hw fl_X3_25 t_o (v_0 83 o) rfl 8 rfl dX3_takeNumber_5 (fun rr1_ => ?_)
  refine kV_i E (c_X5_valueAt l D cy T (v_0) (T 82 o) (v_0 83 o)  (wt_82 hT t_o) rr1_ (show 0 ≤ ((v_0 123) ((T 82 o))) ∧ ((v_0 123) ((T 82 o))) ≤ 400 from by omega)) mt_X5_valueAt ml_X3_105 hK hw (cw_rc6 hK hw.1 (wt_82 hT t_o)) hA ⟨Nat.le_of_ble_eq_true rfl, Nat.le_of_ble_eq_true rfl⟩ ⟨Nat.le_of_ble_eq_true rfl, Nat.le_of_ble_eq_true rfl⟩ (As := [.int (J (v_0 83 o))]) (rest := []) rfl rfl hl.1 (Nat.le_of_ble_eq_true rfl) 11 rfl dX3_takeNumber_8 (fun zz2_ v_2 H locs rr2_ hq2_ hw => ?_)
  obtain ⟨ev2_, hh2_⟩ := hq2_
  rw [ev2_] at hw; clear ev2_
  have hh2_ : (0 ≤ (v_0 83 o) ∧ (v_0 83 o) < ((v_0 123) ((T 82 o))) ∧ zz2_ = gC_ (v_0 300) (T 121 (T 82 o)) (v_0 83 o)) ∨ (¬ (0 ≤ (v_0 83 o) ∧ (v_0 83 o) < ((v_0 123) ((T 82 o)))) ∧ zz2_ = 0) := hh2_
  have hv_ : K_ (v_0 83 o) = 3 → zz2_ = V_ (v_0 83 o) := fun q_ => by have q1_ := RK_lt hp1 (j := v_0 83 o) (by omega); have q2_ := (hp1.1 (v_0 83 o) (by omega) q1_.1).2; omega
  refine j_istore E 13 rfl [(4, .int (J zz2_)), (0, .ref o), (1, .int (J v_a)), (2, .int (J v_b)), (3, .int (J v_c))] dX3_takeNumber_11 hl (by decide) rfl (fun ls hl => ?_)
  refine j_aload_n E 14 rfl dX3_takeNumber_13 rfl (lv_at hl 1 rfl) ?_
  refine g_84 E hK hw fl_X3_30 t_o (v_0 84 o) rfl 17 rfl dX3_takeNumber_14 (fun rr3_ => ?_)
  refine j_iconst E 18 rfl dX3_takeNumber_17 ?_
  refine j_icmp_eq E 21 29 rfl rr3_ (rr (by decide)) dX3_takeNumber_18 (by decide) (fun cc4_ => ?_) (fun cc4_ => ?_)
  · refine j_iload E 31 rfl dX3_takeNumber_29 (lv_at hl 0 rfl) ?_
    refine j_iload_n E 32 rfl dX3_takeNumber_31 rfl (lv_at hl 2 rfl) ?_
    refine j_icmp_lt E 35 41 rfl rr2_ r_v_a dX3_takeNumber_32 (by decide) (fun cc5_ => ?_) (fun cc5_ => ?_)
    · refine j_aload_n E 42 rfl dX3_takeNumber_41 rfl (lv_at hl 1 rfl) ?_
      refine j_iconst E 43 rfl dX3_takeNumber_42 ?_
      refine kV_v E (c_X3_refuse l D cy T (v_0) o 2  t_o (rr (by decide)) ) mt_X3_refuse ml_X3_63 hK hw (cw_rc4 hK hw.1 t_o) hA ⟨Nat.le_of_ble_eq_true rfl, Nat.le_of_ble_eq_true rfl⟩ ⟨Nat.le_of_ble_eq_true rfl, Nat.le_of_ble_eq_true rfl⟩ (As := [.int (J 2)]) (rest := []) rfl rfl hl.1 (Nat.le_of_ble_eq_true rfl) 46 rfl dX3_takeNumber_43 (fun v_6 H locs hq6_ hw => ?_)
      obtain ⟨y80_6, y84_6, ev6_, hh6_⟩ := hq6_
      rw [ev6_] at hw; clear ev6_
      have hw : WK D cy T (upV (upV v_0 80 y80_6) 84 y84_6) A0 s.heap H locs := cw_eq hw (by first | rfl | (funext j_; simp only [upV, reduceIte]; (repeat' split) <;> first | rfl | omega | (subst_vars; rfl)))
      have hh6_ : (y84_6 o) = 2 ∧ ((((v_0 80) o) = 0 ∧ (y80_6 o) = (2 : Int)) ∨ (¬ ((v_0 80) o) = 0 ∧ (y80_6 o) = ((v_0 80) o))) := hh6_
      refine j_goto E 61 dX3_takeNumber_46 (by decide) ?_
      exact hret 61 (upV (upV (upV (upV (upV v_0 80 y80_6) 83 (v_0 83)) 84 y84_6) 86 (v_0 86)) 300 (v_0 300)) _ _ ls (cw_eq hw (by first | rfl | (funext j_; simp only [upV, reduceIte]; (repeat' split) <;> first | rfl | omega | (subst_vars; rfl)))) ⟨y80_6, (v_0 83), y84_6, (v_0 86), (v_0 300), rfl, ⟨by omega, by first | exact ro_ | exact Ro_rf, by unfold Tn_; omega⟩⟩ dX3_takeNumber_61
    · refine j_iload E 37 rfl dX3_takeNumber_35 (lv_at hl 0 rfl) ?_
      refine j_iload_n E 38 rfl dX3_takeNumber_37 rfl (lv_at hl 3 rfl) ?_
      refine j_icmp_le E 41 49 rfl rr2_ r_v_b dX3_takeNumber_38 (by decide) (fun cc7_ => ?_) (fun cc7_ => ?_)
      · refine j_aload_n E 50 rfl dX3_takeNumber_49 rfl (lv_at hl 1 rfl) ?_
        refine j_iload E 52 rfl dX3_takeNumber_50 (lv_at hl 0 rfl) ?_
        refine j_iload_n E 53 rfl dX3_takeNumber_52 rfl (lv_at hl 4 rfl) ?_
        refine j_iadd E 54 rfl dX3_takeNumber_53 ?_
        refine kV_v E (c_X3_emit l D cy T (v_0) o (zz2_ + v_c)  t_o (rr (by omega)) (show 0 ≤ ((v_0 86) o) ∧ ((v_0 86) o) ≤ 400 from by omega)) mt_X3_emit ml_X3_60 hK hw (cw_rc4 hK hw.1 t_o) hA ⟨Nat.le_of_ble_eq_true rfl, Nat.le_of_ble_eq_true rfl⟩ ⟨Nat.le_of_ble_eq_true rfl, Nat.le_of_ble_eq_true rfl⟩ (As := [.int (J (zz2_ + v_c))]) (rest := []) rfl rfl hl.1 (Nat.le_of_ble_eq_true rfl) 57 rfl dX3_takeNumber_54 (fun v_8 H locs hq8_ hw => ?_)
        obtain ⟨y86_8, y300_8, ev8_, hh8_⟩ := hq8_
        rw [ev8_] at hw; clear ev8_
        have hw : WK D cy T (upV (upV v_0 86 y86_8) 300 y300_8) A0 s.heap H locs := cw_eq hw (by first | rfl | (funext j_; simp only [upV, reduceIte]; (repeat' split) <;> first | rfl | omega | (subst_vars; rfl)))
        have hh8_ : (0 ≤ (y86_8 o) ∧ (y86_8 o) ≤ 400) ∧ Ro_ (v_0 300) (y300_8) (T 85 o) := hh8_
        have ro_ := hh8_.2
        refine j_aload_n E 58 rfl dX3_takeNumber_57 rfl (lv_at hl 1 rfl) ?_
        refine zV_v E (c_X3_step l D cy T (upV (upV v_0 86 y86_8) 300 y300_8) κ o K_ V_ hO t_o  (show RK_ (y300_8) (T 120 (T 82 o)) (T 121 (T 82 o)) (((v_0 123) (T 82 o))) K_ V_ from RK_ro hp1 ro_ nk_ nv_) (show 0 ≤ ((v_0 83) o) ∧ ((v_0 83) o) < 400 from by have q_ := RK_lt hp1 (j := (v_0 83 o)) (by omega); omega)) mt_X3_step ml_X3_54 hK hZ hAc hw (cw_rc4 hK hw.1 t_o) hA ⟨Nat.le_of_ble_eq_true rfl, Nat.le_of_ble_eq_true rfl⟩ ⟨Nat.le_of_ble_eq_true rfl, Nat.le_of_ble_eq_true rfl⟩ (As := []) (rest := []) rfl rfl hl.1 (Nat.le_of_ble_eq_true rfl) 61 rfl dX3_takeNumber_58 (fun v_9 H locs hq9_ hw => ?_)
        obtain ⟨y83_9, y84_9, ev9_, hh9_⟩ := hq9_
        rw [ev9_] at hw; clear ev9_
        have hw : WK D cy T (upV (upV (upV (upV v_0 83 y83_9) 84 y84_9) 86 y86_8) 300 y300_8) A0 s.heap H locs := cw_eq hw (by first | rfl | (funext j_; simp only [upV, reduceIte]; (repeat' split) <;> first | rfl | omega | (subst_vars; rfl)))
        have hh9_ : (y83_9 o) = ((v_0 83) o) + 1 ∧ (y84_9 o) = K_ (((v_0 83) o) + 1) := hh9_
        exact hret 61 (upV (upV (upV (upV (upV v_0 80 (v_0 80)) 83 y83_9) 84 y84_9) 86 y86_8) 300 y300_8) _ _ ls (cw_eq hw (by first | rfl | (funext j_; simp only [upV, reduceIte]; (repeat' split) <;> first | rfl | omega | (subst_vars; rfl)))) ⟨(v_0 80), y83_9, y84_9, y86_8, y300_8, rfl, ⟨by omega, by first | exact ro_ | exact Ro_rf, by unfold Tn_; omega⟩⟩ dX3_takeNumber_61
      · refine j_aload_n E 42 rfl dX3_takeNumber_41 rfl (lv_at hl 1 rfl) ?_
        refine j_iconst E 43 rfl dX3_takeNumber_42 ?_
        refine kV_v E (c_X3_refuse l D cy T (v_0) o 2  t_o (rr (by decide)) ) mt_X3_refuse ml_X3_63 hK hw (cw_rc4 hK hw.1 t_o) hA ⟨Nat.le_of_ble_eq_true rfl, Nat.le_of_ble_eq_true rfl⟩ ⟨Nat.le_of_ble_eq_true rfl, Nat.le_of_ble_eq_true rfl⟩ (As := [.int (J 2)]) (rest := []) rfl rfl hl.1 (Nat.le_of_ble_eq_true rfl) 46 rfl dX3_takeNumber_43 (fun v_10 H locs hq10_ hw => ?_)
        obtain ⟨y80_10, y84_10, ev10_, hh10_⟩ := hq10_
        rw [ev10_] at hw; clear ev10_
        have hw : WK D cy T (upV (upV v_0 80 y80_10) 84 y84_10) A0 s.heap H locs := cw_eq hw (by first | rfl | (funext j_; simp only [upV, reduceIte]; (repeat' split) <;> first | rfl | omega | (subst_vars; rfl)))
        have hh10_ : (y84_10 o) = 2 ∧ ((((v_0 80) o) = 0 ∧ (y80_10 o) = (2 : Int)) ∨ (¬ ((v_0 80) o) = 0 ∧ (y80_10 o) = ((v_0 80) o))) := hh10_
        refine j_goto E 61 dX3_takeNumber_46 (by decide) ?_
        exact hret 61 (upV (upV (upV (upV (upV v_0 80 y80_10) 83 (v_0 83)) 84 y84_10) 86 (v_0 86)) 300 (v_0 300)) _ _ ls (cw_eq hw (by first | rfl | (funext j_; simp only [upV, reduceIte]; (repeat' split) <;> first | rfl | omega | (subst_vars; rfl)))) ⟨y80_10, (v_0 83), y84_10, (v_0 86), (v_0 300), rfl, ⟨by omega, by first | exact ro_ | exact Ro_rf, by unfold Tn_; omega⟩⟩ dX3_takeNumber_61
  · refine j_aload_n E 22 rfl dX3_takeNumber_21 rfl (lv_at hl 1 rfl) ?_
    refine j_iconst E 23 rfl dX3_takeNumber_22 ?_
    refine kV_v E (c_X3_refuse l D cy T (v_0) o 1  t_o (rr (by decide)) ) mt_X3_refuse ml_X3_63 hK hw (cw_rc4 hK hw.1 t_o) hA ⟨Nat.le_of_ble_eq_true rfl, Nat.le_of_ble_eq_true rfl⟩ ⟨Nat.le_of_ble_eq_true rfl, Nat.le_of_ble_eq_true rfl⟩ (As := [.int (J 1)]) (rest := []) rfl rfl hl.1 (Nat.le_of_ble_eq_true rfl) 26 rfl dX3_takeNumber_23 (fun v_11 H locs hq11_ hw => ?_)
    obtain ⟨y80_11, y84_11, ev11_, hh11_⟩ := hq11_
    rw [ev11_] at hw; clear ev11_
    have hw : WK D cy T (upV (upV v_0 80 y80_11) 84 y84_11) A0 s.heap H locs := cw_eq hw (by first | rfl | (funext j_; simp only [upV, reduceIte]; (repeat' split) <;> first | rfl | omega | (subst_vars; rfl)))
    have hh11_ : (y84_11 o) = 2 ∧ ((((v_0 80) o) = 0 ∧ (y80_11 o) = (1 : Int)) ∨ (¬ ((v_0 80) o) = 0 ∧ (y80_11 o) = ((v_0 80) o))) := hh11_
    refine j_goto E 61 dX3_takeNumber_26 (by decide) ?_
    exact hret 61 (upV (upV (upV (upV (upV v_0 80 y80_11) 83 (v_0 83)) 84 y84_11) 86 (v_0 86)) 300 (v_0 300)) _ _ ls (cw_eq hw (by first | rfl | (funext j_; simp only [upV, reduceIte]; (repeat' split) <;> first | rfl | omega | (subst_vars; rfl)))) ⟨y80_11, (v_0 83), y84_11, (v_0 86), (v_0 300), rfl, ⟨by omega, by first | exact ro_ | exact Ro_rf, by unfold Tn_; omega⟩⟩ dX3_takeNumber_61
set_option maxHeartbeats 4000000 in
set_option maxRecDepth 100000 in
theorem c_X3_readUnit (l : Launch) (D : va_G) (cy : Nat → ClassId) (T : Nat → Nat → Nat) (v_0 : Nat → Nat → Int) (κ : Nat → Nat → Nat) (o : Nat) (K_ : Int → Int) (V_ : Int → Int) (hO : ∀ x, ow T x → κ 2 2 ≤ x) (t_o : T 0 o = 4) (hp0 : 0 ≤ (v_0 86 o) ∧ (v_0 86 o) ≤ 400) (hp1 : RK_ (v_0 300) (T 120 (T 82 o)) (T 121 (T 82 o)) ((v_0 123 (T 82 o))) K_ V_) (hp2 : Cs_ K_ ((v_0 83 o)) ((v_0 84 o)) ((v_0 80 o))) : KZ l D cy κ T yX3_readUnit cX3_readUnit 1 none 3 [.ref o] v_0 (KV (fun (v_2 : Nat → Nat → Int) => ∃ (y80_2 : Nat → Int) (y83_2 : Nat → Int) (y84_2 : Nat → Int) (y86_2 : Nat → Int) (y300_2 : Nat → Int) , v_2 = upV (upV (upV (upV (upV v_0 80 y80_2) 83 y83_2) 84 y84_2) 86 y86_2) 300 y300_2 ∧ ((0 ≤ (y86_2 o) ∧ (y86_2 o) ≤ 400) ∧ Ro_ (v_0 300) (y300_2) (T 85 o) ∧ Cp_ T1_ TX_ K_ V_ ((v_0 83 o)) ((v_0 80 o)) ((y83_2 o)) ((y84_2 o)) ((y80_2 o))))) := by
  refine KZ.ofv (by decide) (Nat.le_of_ble_eq_true rfl) hO ?_
  intro p e s m below meth c ls ar QW A0 H locs E hK hZ hA hAc hw hl hret
  have hl : lv_has ls 1 [(0, .ref o)] := hl
  have hT : WT T := hw.1.2.1
  have cs_ := hp2
  unfold Cs_ at cs_
  have nk_ : T 120 (T 82 o) ≠ T 85 o := ro_ne (wo_120 hT (wt_82 hT t_o)) (wo_85 hT t_o) (by decide) (by decide) (by omega)
  have nv_ : T 121 (T 82 o) ≠ T 85 o := ro_ne (wo_121 hT (wt_82 hT t_o)) (wo_85 hT t_o) (by decide) (by decide) (by omega)
  refine j_aload_n E 1 rfl dX3_readUnit_0 rfl (lv_at hl 0 rfl) ?_
  refine g_84 E hK hw fl_X3_30 t_o (v_0 84 o) rfl 4 rfl dX3_readUnit_1 (fun rr1_ => ?_)
  refine j_sipush E 7 rfl dX3_readUnit_4 (by decide) ?_
  refine j_icmp_ne E 10 27 rfl rr1_ (rr (by decide)) dX3_readUnit_7 (by decide) (fun cc2_ => ?_) (fun cc2_ => ?_)
  · refine j_aload_n E 28 rfl dX3_readUnit_27 rfl (lv_at hl 0 rfl) ?_
    refine g_84 E hK hw fl_X3_30 t_o (v_0 84 o) rfl 31 rfl dX3_readUnit_28 (fun _ => ?_)
    refine kS_i E (c_X8_isFact l D cy T (v_0) (v_0 84 o)   rr1_ ) ms_X8_isFact ml_X3_102 hK hw hA ⟨Nat.le_of_ble_eq_true rfl, Nat.le_of_ble_eq_true rfl⟩ ⟨Nat.le_of_ble_eq_true rfl, Nat.le_of_ble_eq_true rfl⟩ (As := [.int (J (v_0 84 o))]) (rest := []) rfl rfl hl.1 (Nat.le_of_ble_eq_true rfl) 34 rfl dX3_readUnit_31 (fun zz3_ v_3 H locs rr3_ hq3_ hw => ?_)
    obtain ⟨ev3_, hh3_⟩ := hq3_
    rw [ev3_] at hw; clear ev3_
    have hh3_ : (zz3_ = 1 ∧ (307 ≤ (v_0 84 o) ∧ (v_0 84 o) ≤ 311)) ∨ (zz3_ = 0 ∧ ¬ (307 ≤ (v_0 84 o) ∧ (v_0 84 o) ≤ 311)) := hh3_
    rcases hh3_ with ⟨ee3_, hh3_⟩ | ⟨ee3_, hh3_⟩
    · subst ee3_
      refine j_if_eq E 37 53 rfl (rr (by decide)) dX3_readUnit_34 (by decide) (fun cc4_ => absurd cc4_ (by decide)) (fun _ => ?_)
      refine j_aload_n E 38 rfl dX3_readUnit_37 rfl (lv_at hl 0 rfl) ?_
      refine j_aload_n E 39 rfl dX3_readUnit_38 rfl (lv_at hl 0 rfl) ?_
      refine g_84 E hK hw fl_X3_30 t_o (v_0 84 o) rfl 42 rfl dX3_readUnit_39 (fun _ => ?_)
      refine j_ineg E 43 rfl dX3_readUnit_42 ?_
      refine j_norm (fun zz5_ rr5_ ee5_ => ?_)
      refine kV_v E (c_X3_emit l D cy T (v_0) o zz5_  t_o rr5_ (show 0 ≤ ((v_0 86) o) ∧ ((v_0 86) o) ≤ 400 from by omega)) mt_X3_emit ml_X3_60 hK hw (cw_rc4 hK hw.1 t_o) hA ⟨Nat.le_of_ble_eq_true rfl, Nat.le_of_ble_eq_true rfl⟩ ⟨Nat.le_of_ble_eq_true rfl, Nat.le_of_ble_eq_true rfl⟩ (As := [.int (J zz5_)]) (rest := []) rfl rfl hl.1 (Nat.le_of_ble_eq_true rfl) 46 rfl dX3_readUnit_43 (fun v_6 H locs hq6_ hw => ?_)
      obtain ⟨y86_6, y300_6, ev6_, hh6_⟩ := hq6_
      rw [ev6_] at hw; clear ev6_
      have hw : WK D cy T (upV (upV v_0 86 y86_6) 300 y300_6) A0 s.heap H locs := cw_eq hw (by first | rfl | (funext j_; simp only [upV, reduceIte]; (repeat' split) <;> first | rfl | omega | (subst_vars; rfl)))
      have hh6_ : (0 ≤ (y86_6 o) ∧ (y86_6 o) ≤ 400) ∧ Ro_ (v_0 300) (y300_6) (T 85 o) := hh6_
      have ro1_ := hh6_.2
      refine j_aload_n E 47 rfl dX3_readUnit_46 rfl (lv_at hl 0 rfl) ?_
      refine zV_v E (c_X3_step l D cy T (upV (upV v_0 86 y86_6) 300 y300_6) κ o K_ V_ hO t_o  (show RK_ (y300_6) (T 120 (T 82 o)) (T 121 (T 82 o)) (((v_0 123) (T 82 o))) K_ V_ from RK_ro hp1 ro1_ nk_ nv_) (show 0 ≤ ((v_0 83) o) ∧ ((v_0 83) o) < 400 from by have q_ := RK_lt hp1 (j := (v_0 83 o)) (by omega); omega)) mt_X3_step ml_X3_54 hK hZ hAc hw (cw_rc4 hK hw.1 t_o) hA ⟨Nat.le_of_ble_eq_true rfl, Nat.le_of_ble_eq_true rfl⟩ ⟨Nat.le_of_ble_eq_true rfl, Nat.le_of_ble_eq_true rfl⟩ (As := []) (rest := []) rfl rfl hl.1 (Nat.le_of_ble_eq_true rfl) 50 rfl dX3_readUnit_47 (fun v_7 H locs hq7_ hw => ?_)
      obtain ⟨y83_7, y84_7, ev7_, hh7_⟩ := hq7_
      rw [ev7_] at hw; clear ev7_
      have hw : WK D cy T (upV (upV (upV (upV v_0 83 y83_7) 84 y84_7) 86 y86_6) 300 y300_6) A0 s.heap H locs := cw_eq hw (by first | rfl | (funext j_; simp only [upV, reduceIte]; (repeat' split) <;> first | rfl | omega | (subst_vars; rfl)))
      have hh7_ : (y83_7 o) = ((v_0 83) o) + 1 ∧ (y84_7 o) = K_ (((v_0 83) o) + 1) := hh7_
      have s2_ := hh7_
      refine j_goto E 62 dX3_readUnit_50 (by decide) ?_
      exact hret 62 (upV (upV (upV (upV (upV v_0 80 (v_0 80)) 83 y83_7) 84 y84_7) 86 y86_6) 300 y300_6) _ _ ls (cw_eq hw (by first | rfl | (funext j_; simp only [upV, reduceIte]; (repeat' split) <;> first | rfl | omega | (subst_vars; rfl)))) ⟨(v_0 80), y83_7, y84_7, y86_6, y300_6, rfl, by first | exact ⟨n1_.1, n1_.2.1, cu_line hp2 (by omega) s1_.1 s1_.2 (by omega) n1_.2.2 (fun q_ => ⟨hp1.2.2.2.2 _ (by omega) q_, (RK_lt hp1 (by omega)).2⟩)⟩ | exact ⟨by omega, ro1_, cu_fact hp2 (by omega) s2_.1 s2_.2 (by omega)⟩ | exact ⟨n2_.1, n2_.2.1, cu_num hp2 (by omega) (by omega) n2_.2.2 (fun q_ => ⟨hp1.2.2.2.2 _ (by omega) q_, (RK_lt hp1 (by omega)).2⟩)⟩⟩ dX3_readUnit_62
    · subst ee3_
      refine j_if_eq E 37 53 rfl (rr (by decide)) dX3_readUnit_34 (by decide) (fun _ => ?_) (fun cc8_ => absurd cc8_ (by decide))
      refine j_aload_n E 54 rfl dX3_readUnit_53 rfl (lv_at hl 0 rfl) ?_
      refine j_iconst E 55 rfl dX3_readUnit_54 ?_
      refine j_sipush E 58 rfl dX3_readUnit_55 (by decide) ?_
      refine j_iconst E 59 rfl dX3_readUnit_58 ?_
      refine zV_v E (c_X3_takeNumber l D cy T (v_0) κ o 0 9999 0 K_ V_ hO t_o (rr (by decide)) (rr (by decide)) (rr (by decide)) (show 0 ≤ ((v_0 86) o) ∧ ((v_0 86) o) ≤ 400 from by omega) (show RK_ (v_0 300) (T 120 (T 82 o)) (T 121 (T 82 o)) (((v_0 123) (T 82 o))) K_ V_ from hp1) (show Cs_ K_ (((v_0 83) o)) (((v_0 84) o)) (((v_0 80) o)) from hp2) (show 0 ≤ (0 : Int) ∧ (9999 : Int) ≤ 9999 ∧ 0 ≤ (0 : Int) ∧ (0 : Int) ≤ 10000 from by omega)) mt_X3_takeNumber ml_X3_98 hK hZ hAc hw (cw_rc4 hK hw.1 t_o) hA ⟨Nat.le_of_ble_eq_true rfl, Nat.le_of_ble_eq_true rfl⟩ ⟨Nat.le_of_ble_eq_true rfl, Nat.le_of_ble_eq_true rfl⟩ (As := [.int (J 0), .int (J 9999), .int (J 0)]) (rest := []) rfl rfl hl.1 (Nat.le_of_ble_eq_true rfl) 62 rfl dX3_readUnit_59 (fun v_9 H locs hq9_ hw => ?_)
      obtain ⟨y80_9, y83_9, y84_9, y86_9, y300_9, ev9_, hh9_⟩ := hq9_
      rw [ev9_] at hw; clear ev9_
      have hw : WK D cy T (upV (upV (upV (upV (upV v_0 80 y80_9) 83 y83_9) 84 y84_9) 86 y86_9) 300 y300_9) A0 s.heap H locs := cw_eq hw (by first | rfl | (funext j_; simp only [upV, reduceIte]; (repeat' split) <;> first | rfl | omega | (subst_vars; rfl)))
      have hh9_ : (0 ≤ (y86_9 o) ∧ (y86_9 o) ≤ 400) ∧ Ro_ (v_0 300) (y300_9) (T 85 o) ∧ Tn_ K_ V_ (0 : Int) (9999 : Int) (((v_0 83) o)) (((v_0 84) o)) (((v_0 80) o)) ((y83_9 o)) ((y84_9 o)) ((y80_9 o)) := hh9_
      have n2_ := hh9_
      exact hret 62 (upV (upV (upV (upV (upV v_0 80 y80_9) 83 y83_9) 84 y84_9) 86 y86_9) 300 y300_9) _ _ ls hw ⟨y80_9, y83_9, y84_9, y86_9, y300_9, rfl, by first | exact ⟨n1_.1, n1_.2.1, cu_line hp2 (by omega) s1_.1 s1_.2 (by omega) n1_.2.2 (fun q_ => ⟨hp1.2.2.2.2 _ (by omega) q_, (RK_lt hp1 (by omega)).2⟩)⟩ | exact ⟨by omega, ro1_, cu_fact hp2 (by omega) s2_.1 s2_.2 (by omega)⟩ | exact ⟨n2_.1, n2_.2.1, cu_num hp2 (by omega) (by omega) n2_.2.2 (fun q_ => ⟨hp1.2.2.2.2 _ (by omega) q_, (RK_lt hp1 (by omega)).2⟩)⟩⟩ dX3_readUnit_62
  · refine j_aload_n E 11 rfl dX3_readUnit_10 rfl (lv_at hl 0 rfl) ?_
    refine zV_v E (c_X3_step l D cy T (v_0) κ o K_ V_ hO t_o  (show RK_ (v_0 300) (T 120 (T 82 o)) (T 121 (T 82 o)) (((v_0 123) (T 82 o))) K_ V_ from hp1) (show 0 ≤ ((v_0 83) o) ∧ ((v_0 83) o) < 400 from by have q_ := RK_lt hp1 (j := (v_0 83 o)) (by omega); omega)) mt_X3_step ml_X3_54 hK hZ hAc hw (cw_rc4 hK hw.1 t_o) hA ⟨Nat.le_of_ble_eq_true rfl, Nat.le_of_ble_eq_true rfl⟩ ⟨Nat.le_of_ble_eq_true rfl, Nat.le_of_ble_eq_true rfl⟩ (As := []) (rest := []) rfl rfl hl.1 (Nat.le_of_ble_eq_true rfl) 14 rfl dX3_readUnit_11 (fun v_10 H locs hq10_ hw => ?_)
    obtain ⟨y83_10, y84_10, ev10_, hh10_⟩ := hq10_
    rw [ev10_] at hw; clear ev10_
    have hw : WK D cy T (upV (upV v_0 83 y83_10) 84 y84_10) A0 s.heap H locs := cw_eq hw (by first | rfl | (funext j_; simp only [upV, reduceIte]; (repeat' split) <;> first | rfl | omega | (subst_vars; rfl)))
    have hh10_ : (y83_10 o) = ((v_0 83) o) + 1 ∧ (y84_10 o) = K_ (((v_0 83) o) + 1) := hh10_
    have s1_ := hh10_
    refine j_aload_n E 15 rfl dX3_readUnit_14 rfl (lv_at hl 0 rfl) ?_
    refine j_iconst E 16 rfl dX3_readUnit_15 ?_
    refine j_bipush E 18 rfl dX3_readUnit_16 (by decide) ?_
    refine j_sipush E 21 rfl dX3_readUnit_18 (by decide) ?_
    refine zV_v E (c_X3_takeNumber l D cy T (upV (upV v_0 83 y83_10) 84 y84_10) κ o 0 23 10000 K_ V_ hO t_o (rr (by decide)) (rr (by decide)) (rr (by decide)) (show 0 ≤ ((v_0 86) o) ∧ ((v_0 86) o) ≤ 400 from by omega) (show RK_ (v_0 300) (T 120 (T 82 o)) (T 121 (T 82 o)) (((v_0 123) (T 82 o))) K_ V_ from hp1) (show Cs_ K_ ((y83_10 o)) ((y84_10 o)) (((v_0 80) o)) from Cs_st hp2 (by omega) s1_.1 s1_.2 (by omega)) (show 0 ≤ (0 : Int) ∧ (23 : Int) ≤ 9999 ∧ 0 ≤ (10000 : Int) ∧ (10000 : Int) ≤ 10000 from by omega)) mt_X3_takeNumber ml_X3_98 hK hZ hAc hw (cw_rc4 hK hw.1 t_o) hA ⟨Nat.le_of_ble_eq_true rfl, Nat.le_of_ble_eq_true rfl⟩ ⟨Nat.le_of_ble_eq_true rfl, Nat.le_of_ble_eq_true rfl⟩ (As := [.int (J 0), .int (J 23), .int (J 10000)]) (rest := []) rfl rfl hl.1 (Nat.le_of_ble_eq_true rfl) 24 rfl dX3_readUnit_21 (fun v_11 H locs hq11_ hw => ?_)
    obtain ⟨y80_11, y83_11, y84_11, y86_11, y300_11, ev11_, hh11_⟩ := hq11_
    rw [ev11_] at hw; clear ev11_
    have hw : WK D cy T (upV (upV (upV (upV (upV v_0 80 y80_11) 83 y83_11) 84 y84_11) 86 y86_11) 300 y300_11) A0 s.heap H locs := cw_eq hw (by first | rfl | (funext j_; simp only [upV, reduceIte]; (repeat' split) <;> first | rfl | omega | (subst_vars; rfl)))
    have hh11_ : (0 ≤ (y86_11 o) ∧ (y86_11 o) ≤ 400) ∧ Ro_ (v_0 300) (y300_11) (T 85 o) ∧ Tn_ K_ V_ (0 : Int) (23 : Int) ((y83_10 o)) ((y84_10 o)) (((v_0 80) o)) ((y83_11 o)) ((y84_11 o)) ((y80_11 o)) := hh11_
    have n1_ := hh11_
    refine j_goto E 62 dX3_readUnit_24 (by decide) ?_
    exact hret 62 (upV (upV (upV (upV (upV v_0 80 y80_11) 83 y83_11) 84 y84_11) 86 y86_11) 300 y300_11) _ _ ls hw ⟨y80_11, y83_11, y84_11, y86_11, y300_11, rfl, by first | exact ⟨n1_.1, n1_.2.1, cu_line hp2 (by omega) s1_.1 s1_.2 (by omega) n1_.2.2 (fun q_ => ⟨hp1.2.2.2.2 _ (by omega) q_, (RK_lt hp1 (by omega)).2⟩)⟩ | exact ⟨by omega, ro1_, cu_fact hp2 (by omega) s2_.1 s2_.2 (by omega)⟩ | exact ⟨n2_.1, n2_.2.1, cu_num hp2 (by omega) (by omega) n2_.2.2 (fun q_ => ⟨hp1.2.2.2.2 _ (by omega) q_, (RK_lt hp1 (by omega)).2⟩)⟩⟩ dX3_readUnit_62
set_option maxHeartbeats 4000000 in
set_option maxRecDepth 100000 in
theorem c_X3_readSum (l : Launch) (D : va_G) (cy : Nat → ClassId) (T : Nat → Nat → Nat) (v_0 : Nat → Nat → Int) (κ : Nat → Nat → Nat) (o : Nat) (K_ : Int → Int) (V_ : Int → Int) (hO : ∀ x, ow T x → κ 2 2 ≤ x) (t_o : T 0 o = 4) (hp0 : 0 ≤ (v_0 86 o) ∧ (v_0 86 o) ≤ 400) (hp1 : RK_ (v_0 300) (T 120 (T 82 o)) (T 121 (T 82 o)) ((v_0 123 (T 82 o))) K_ V_) (hp2 : Cs_ K_ ((v_0 83 o)) ((v_0 84 o)) ((v_0 80 o))) : KZ l D cy κ T yX3_readSum cX3_readSum 5 none 4 [.ref o] v_0 (KV (fun (v_2 : Nat → Nat → Int) => ∃ (y80_2 : Nat → Int) (y83_2 : Nat → Int) (y84_2 : Nat → Int) (y86_2 : Nat → Int) (y300_2 : Nat → Int) , v_2 = upV (upV (upV (upV (upV v_0 80 y80_2) 83 y83_2) 84 y84_2) 86 y86_2) 300 y300_2 ∧ ((0 ≤ (y86_2 o) ∧ (y86_2 o) ≤ 400) ∧ Ro_ (v_0 300) (y300_2) (T 85 o) ∧ Cp_ S3_ (N4_ K_) K_ V_ ((v_0 83 o)) ((v_0 80 o)) ((y83_2 o)) ((y84_2 o)) ((y80_2 o))))) := by
  refine KZ.ofv (by decide) (Nat.le_of_ble_eq_true rfl) hO ?_
  intro p e s m below meth c ls ar QW A0 H locs E hK hZ hA hAc hw hl hret
  have hl : lv_has ls 5 [(0, .ref o)] := hl
  have hT : WT T := hw.1.2.1
  have nk_ : T 120 (T 82 o) ≠ T 85 o := ro_ne (wo_120 hT (wt_82 hT t_o)) (wo_85 hT t_o) (by decide) (by decide) (by omega)
  have nv_ : T 121 (T 82 o) ≠ T 85 o := ro_ne (wo_121 hT (wt_82 hT t_o)) (wo_85 hT t_o) (by decide) (by decide) (by omega)
  have c0_ := hp2.1
  refine j_iconst E 1 rfl dX3_readSum_0 ?_
  refine j_istore_n E 2 rfl [(1, .int (J 0)), (0, .ref o)] dX3_readSum_1 rfl hl (by decide) rfl (fun ls hl => ?_)
  refine j_aload_n E 3 rfl dX3_readSum_2 rfl (lv_at hl 1 rfl) ?_
  refine zV_v E (c_X3_readUnit l D cy T (v_0) κ o K_ V_ hO t_o  (show 0 ≤ ((v_0 86) o) ∧ ((v_0 86) o) ≤ 400 from by omega) (show RK_ (v_0 300) (T 120 (T 82 o)) (T 121 (T 82 o)) (((v_0 123) (T 82 o))) K_ V_ from hp1) (show Cs_ K_ (((v_0 83) o)) (((v_0 84) o)) (((v_0 80) o)) from hp2)) mt_X3_readUnit ml_X3_91 hK hZ hAc hw (cw_rc4 hK hw.1 t_o) hA ⟨Nat.le_of_ble_eq_true rfl, Nat.le_of_ble_eq_true rfl⟩ ⟨Nat.le_of_ble_eq_true rfl, Nat.le_of_ble_eq_true rfl⟩ (As := []) (rest := []) rfl rfl hl.1 (Nat.le_of_ble_eq_true rfl) 6 rfl dX3_readSum_3 (fun v_1 H locs hq1_ hw => ?_)
  obtain ⟨y80_1, y83_1, y84_1, y86_1, y300_1, ev1_, hh1_⟩ := hq1_
  rw [ev1_] at hw; clear ev1_
  have hw : WK D cy T (upV (upV (upV (upV (upV v_0 80 y80_1) 83 y83_1) 84 y84_1) 86 y86_1) 300 y300_1) A0 s.heap H locs := cw_eq hw (by first | rfl | (funext j_; simp only [upV, reduceIte]; (repeat' split) <;> first | rfl | omega | (subst_vars; rfl)))
  have hh1_ : (0 ≤ (y86_1 o) ∧ (y86_1 o) ≤ 400) ∧ Ro_ (v_0 300) (y300_1) (T 85 o) ∧ Cp_ T1_ TX_ K_ V_ (((v_0 83) o)) (((v_0 80) o)) ((y83_1 o)) ((y84_1 o)) ((y80_1 o)) := hh1_
  have u0_ := hh1_
  refine j_iconst E 7 rfl dX3_readSum_6 ?_
  refine j_istore_n E 8 rfl [(2, .int (J 0)), (1, .int (J 0)), (0, .ref o)] dX3_readSum_7 rfl hl (by decide) rfl (fun ls hl => ?_)
  have L8_2 : ∀ (k8 : Nat) (l1_8 l2_8 : Int) (y80_c8 : Nat → Int) (y83_c8 : Nat → Int) (y84_c8 : Nat → Int) (y86_c8 : Nat → Int) (y300_c8 : Nat → Int) (H : Heap) (locs : List Loc) (ls : Array Slot), inR l1_8 → inR l2_8 → ((0 ≤ (y86_c8 o) ∧ (y86_c8 o) ≤ 400) ∧ (Ro_ (v_0 300) (y300_c8) (T 85 o)) ∧ 0 ≤ l2_8 ∧ Cl_ {K_} {V_} (v_0 83 o) (v_0 80 o) l1_8 l2_8 ((y83_c8 o)) ((y84_c8 o)) ((y80_c8 o))) → (400 - l2_8).toNat < k8 → WK D cy T (upV (upV (upV (upV (upV v_0 80 y80_c8) 83 y83_c8) 84 y84_c8) 86 y86_c8) 300 y300_c8) A0 s.heap H locs → lv_has ls 5 [(0, .ref o), (1, .int (J l1_8)), (2, .int (J l2_8))] → W p l e (rmd 4 0 0) s m ar below meth c H locs 0 0 QW (F0 m 8 ls []) := by
    intro k8
    induction k8 with
    | zero =>
      intro l1_8 l2_8 y80_c8 y83_c8 y84_c8 y86_c8 y300_c8 H locs ls r_l1_8 r_l2_8 iv8 ms8 hw hl
      exact absurd ms8 (Nat.not_lt_zero _)
    | succ k8 ih8 =>
      intro l1_8 l2_8 y80_c8 y83_c8 y84_c8 y86_c8 y300_c8 H locs ls r_l1_8 r_l2_8 iv8 ms8 hw hl
      have cs1_ := Cl_cs hp2 iv8.2.2.2
      unfold Cs_ at cs1_
      have rk8_ := RK_ro hp1 iv8.2.1 nk_ nv_
      have L112_4 : ∀ (H : Heap) (locs : List Loc) (ls : Array Slot), (¬ ((y84_c8 o) = 43 ∨ (y84_c8 o) = 45 ∨ (y84_c8 o) = 42 ∨ (y84_c8 o) = 47)) → WK D cy T (upV (upV (upV (upV (upV v_0 80 y80_c8) 83 y83_c8) 84 y84_c8) 86 y86_c8) 300 y300_c8) A0 s.heap H locs → lv_has ls 5 [(0, .ref o), (1, .int (J l1_8)), (2, .int (J l2_8))] → W p l e (rmd 4 0 0) s m ar below meth c H locs 0 0 QW (F0 m 112 ls []) := by
        intro H locs ls iv112 hw hl
        refine j_iload_n E 113 rfl dX3_readSum_112 rfl (lv_at hl 1 rfl) ?_
        refine j_if_eq E 116 122 rfl r_l1_8 dX3_readSum_113 (by decide) (fun cc6_ => ?_) (fun cc6_ => ?_)
        · exact hret 122 (upV (upV (upV (upV (upV v_0 80 y80_c8) 83 y83_c8) 84 y84_c8) 86 y86_c8) 300 y300_c8) _ _ ls hw ⟨y80_c8, y83_c8, y84_c8, y86_c8, y300_c8, rfl, by first | exact ⟨by omega, Ro_tr iv8.2.1 roe_, Cl_end iv8.2.2.2 iv112 (by omega)⟩ | exact ⟨by omega, iv8.2.1, Cl_end iv8.2.2.2 iv112 (by omega)⟩⟩ dX3_readSum_122
        · refine j_aload_n E 117 rfl dX3_readSum_116 rfl (lv_at hl 0 rfl) ?_
          refine j_iload_n E 118 rfl dX3_readSum_117 rfl (lv_at hl 1 rfl) ?_
          refine j_ineg E 119 rfl dX3_readSum_118 ?_
          refine j_norm (fun zz7_ rr7_ ee7_ => ?_)
          refine kV_v E (c_X3_emit l D cy T (upV (upV (upV (upV (upV v_0 80 y80_c8) 83 y83_c8) 84 y84_c8) 86 y86_c8) 300 y300_c8) o zz7_  t_o rr7_ (show 0 ≤ (y86_c8 o) ∧ (y86_c8 o) ≤ 400 from by omega)) mt_X3_emit ml_X3_60 hK hw (cw_rc4 hK hw.1 t_o) hA ⟨Nat.le_of_ble_eq_true rfl, Nat.le_of_ble_eq_true rfl⟩ ⟨Nat.le_of_ble_eq_true rfl, Nat.le_of_ble_eq_true rfl⟩ (As := [.int (J zz7_)]) (rest := []) rfl rfl hl.1 (Nat.le_of_ble_eq_true rfl) 122 rfl dX3_readSum_119 (fun v_8 H locs hq8_ hw => ?_)
          obtain ⟨y86_8, y300_8, ev8_, hh8_⟩ := hq8_
          rw [ev8_] at hw; clear ev8_
          have hw : WK D cy T (upV (upV (upV (upV (upV v_0 80 y80_c8) 83 y83_c8) 84 y84_c8) 86 y86_8) 300 y300_8) A0 s.heap H locs := cw_eq hw (by first | rfl | (funext j_; simp only [upV, reduceIte]; (repeat' split) <;> first | rfl | omega | (subst_vars; rfl)))
          have hh8_ : (0 ≤ (y86_8 o) ∧ (y86_8 o) ≤ 400) ∧ Ro_ (y300_c8) (y300_8) (T 85 o) := hh8_
          have roe_ := hh8_.2
          exact hret 122 (upV (upV (upV (upV (upV v_0 80 y80_c8) 83 y83_c8) 84 y84_c8) 86 y86_8) 300 y300_8) _ _ ls hw ⟨y80_c8, y83_c8, y84_c8, y86_8, y300_8, rfl, by first | exact ⟨by omega, Ro_tr iv8.2.1 roe_, Cl_end iv8.2.2.2 iv112 (by omega)⟩ | exact ⟨by omega, iv8.2.1, Cl_end iv8.2.2.2 iv112 (by omega)⟩⟩ dX3_readSum_122
      refine j_iload_n E 9 rfl dX3_readSum_8 rfl (lv_at hl 2 rfl) ?_
      refine j_sipush E 12 rfl dX3_readSum_9 (by decide) ?_
      refine j_icmp_ge E 15 112 rfl r_l2_8 (rr (by decide)) dX3_readSum_12 (by decide) (fun cc9_ => ?_) (fun cc9_ => ?_)
      · exact L112_4   H locs ls  (by first | omega | exact Cl_i iv8.2.2.2 (by omega) (by omega)) hw (lv_sub hl [0, 1, 2] rfl)
      · refine j_aload_n E 16 rfl dX3_readSum_15 rfl (lv_at hl 0 rfl) ?_
        refine g_84 E hK hw fl_X3_30 t_o (y84_c8 o) rfl 19 rfl dX3_readSum_16 (fun rr10_ => ?_)
        refine kS_i E (c_X8_isReckoning l D cy T (upV (upV (upV (upV (upV v_0 80 y80_c8) 83 y83_c8) 84 y84_c8) 86 y86_c8) 300 y300_c8) (y84_c8 o)   rr10_ ) ms_X8_isReckoning ml_X3_94 hK hw hA ⟨Nat.le_of_ble_eq_true rfl, Nat.le_of_ble_eq_true rfl⟩ ⟨Nat.le_of_ble_eq_true rfl, Nat.le_of_ble_eq_true rfl⟩ (As := [.int (J (y84_c8 o))]) (rest := []) rfl rfl hl.1 (Nat.le_of_ble_eq_true rfl) 22 rfl dX3_readSum_19 (fun zz11_ v_11 H locs rr11_ hq11_ hw => ?_)
        obtain ⟨ev11_, hh11_⟩ := hq11_
        rw [ev11_] at hw; clear ev11_
        have hh11_ : (zz11_ = 1 ∧ ((y84_c8 o) = 43 ∨ (y84_c8 o) = 45 ∨ (y84_c8 o) = 42 ∨ (y84_c8 o) = 47)) ∨ (zz11_ = 0 ∧ ¬ ((y84_c8 o) = 43 ∨ (y84_c8 o) = 45 ∨ (y84_c8 o) = 42 ∨ (y84_c8 o) = 47)) := hh11_
        rcases hh11_ with ⟨ee11_, hh11_⟩ | ⟨ee11_, hh11_⟩
        · subst ee11_
          refine j_if_eq E 25 112 rfl (rr (by decide)) dX3_readSum_22 (by decide) (fun cc12_ => absurd cc12_ (by decide)) (fun _ => ?_)
          refine j_aload_n E 26 rfl dX3_readSum_25 rfl (lv_at hl 0 rfl) ?_
          refine g_84 E hK hw fl_X3_30 t_o (y84_c8 o) rfl 29 rfl dX3_readSum_26 (fun _ => ?_)
          refine j_istore_n E 30 rfl [(3, .int (J (y84_c8 o))), (0, .ref o), (1, .int (J l1_8)), (2, .int (J l2_8))] dX3_readSum_29 rfl hl (by decide) rfl (fun ls hl => ?_)
          have L47_13 : ∀ (s0_47 : Int) (H : Heap) (locs : List Loc) (ls : Array Slot), inR s0_47 → ((s0_47 = 1 ∧ ((y84_c8 o) = 42 ∨ (y84_c8 o) = 47)) ∨ (s0_47 = 0 ∧ ¬ ((y84_c8 o) = 42 ∨ (y84_c8 o) = 47))) → WK D cy T (upV (upV (upV (upV (upV v_0 80 y80_c8) 83 y83_c8) 84 y84_c8) 86 y86_c8) 300 y300_c8) A0 s.heap H locs → lv_has ls 5 [(0, .ref o), (1, .int (J l1_8)), (2, .int (J l2_8)), (3, .int (J (y84_c8 o)))] → W p l e (rmd 4 0 0) s m ar below meth c H locs 0 0 QW (F0 m 47 ls [.int (J s0_47)]) := by
            intro s0_47 H locs ls r_s0_47 iv47 hw hl
            refine j_istore E 49 rfl [(4, .int (J s0_47)), (0, .ref o), (1, .int (J l1_8)), (2, .int (J l2_8)), (3, .int (J (y84_c8 o)))] dX3_readSum_47 hl (by decide) rfl (fun ls hl => ?_)
            have L64_15 : ∀ (y86_c64 : Nat → Int) (y300_c64 : Nat → Int) (H : Heap) (locs : List Loc) (ls : Array Slot), ((0 ≤ (y86_c64 o) ∧ (y86_c64 o) ≤ 400) ∧ Ro_ (v_0 300) (y300_c64) (T 85 o)) → WK D cy T (upV (upV (upV (upV (upV v_0 80 y80_c8) 83 y83_c8) 84 y84_c8) 86 y86_c64) 300 y300_c64) A0 s.heap H locs → lv_has ls 5 [(0, .ref o), (1, .int (J l1_8)), (2, .int (J l2_8)), (3, .int (J (y84_c8 o))), (4, .int (J s0_47))] → W p l e (rmd 4 0 0) s m ar below meth c H locs 0 0 QW (F0 m 64 ls []) := by
              intro y86_c64 y300_c64 H locs ls iv64 hw hl
              refine j_aload_n E 65 rfl dX3_readSum_64 rfl (lv_at hl 0 rfl) ?_
              refine zV_v E (c_X3_step l D cy T (upV (upV (upV (upV (upV v_0 80 y80_c8) 83 y83_c8) 84 y84_c8) 86 y86_c64) 300 y300_c64) κ o K_ V_ hO t_o  (show RK_ (y300_c64) (T 120 (T 82 o)) (T 121 (T 82 o)) (((v_0 123) (T 82 o))) K_ V_ from RK_ro hp1 iv64.2 nk_ nv_) (show 0 ≤ (y83_c8 o) ∧ (y83_c8 o) < 400 from by have q_ := RK_lt hp1 (j := (y83_c8 o)) (by omega); omega)) mt_X3_step ml_X3_54 hK hZ hAc hw (cw_rc4 hK hw.1 t_o) hA ⟨Nat.le_of_ble_eq_true rfl, Nat.le_of_ble_eq_true rfl⟩ ⟨Nat.le_of_ble_eq_true rfl, Nat.le_of_ble_eq_true rfl⟩ (As := []) (rest := []) rfl rfl hl.1 (Nat.le_of_ble_eq_true rfl) 68 rfl dX3_readSum_65 (fun v_17 H locs hq17_ hw => ?_)
              obtain ⟨y83_17, y84_17, ev17_, hh17_⟩ := hq17_
              rw [ev17_] at hw; clear ev17_
              have hw : WK D cy T (upV (upV (upV (upV (upV v_0 80 y80_c8) 83 y83_17) 84 y84_17) 86 y86_c64) 300 y300_c64) A0 s.heap H locs := cw_eq hw (by first | rfl | (funext j_; simp only [upV, reduceIte]; (repeat' split) <;> first | rfl | omega | (subst_vars; rfl)))
              have hh17_ : (y83_17 o) = (y83_c8 o) + 1 ∧ (y84_17 o) = K_ ((y83_c8 o) + 1) := hh17_
              have s_ := hh17_
              refine j_iload_n E 69 rfl dX3_readSum_68 rfl (lv_at hl 3 rfl) ?_
              refine j_bipush E 71 rfl dX3_readSum_69 (by decide) ?_
              refine j_icmp_ne E 74 86 rfl rr10_ (rr (by decide)) dX3_readSum_71 (by decide) (fun cc18_ => ?_) (fun cc18_ => ?_)
              · refine j_aload_n E 87 rfl dX3_readSum_86 rfl (lv_at hl 0 rfl) ?_
                refine zV_v E (c_X3_readUnit l D cy T (upV (upV (upV (upV (upV v_0 80 y80_c8) 83 y83_17) 84 y84_17) 86 y86_c64) 300 y300_c64) κ o K_ V_ hO t_o  (show 0 ≤ (y86_c64 o) ∧ (y86_c64 o) ≤ 400 from by omega) (show RK_ (y300_c64) (T 120 (T 82 o)) (T 121 (T 82 o)) (((v_0 123) (T 82 o))) K_ V_ from RK_ro hp1 iv64.2 nk_ nv_) (show Cs_ K_ ((y83_17 o)) ((y84_17 o)) ((y80_c8 o)) from Cs_st (Cl_cs hp2 iv8.2.2.2) (by omega) s_.1 s_.2 (by omega))) mt_X3_readUnit ml_X3_91 hK hZ hAc hw (cw_rc4 hK hw.1 t_o) hA ⟨Nat.le_of_ble_eq_true rfl, Nat.le_of_ble_eq_true rfl⟩ ⟨Nat.le_of_ble_eq_true rfl, Nat.le_of_ble_eq_true rfl⟩ (As := []) (rest := []) rfl rfl hl.1 (Nat.le_of_ble_eq_true rfl) 90 rfl dX3_readSum_87 (fun v_19 H locs hq19_ hw => ?_)
                obtain ⟨y80_19, y83_19, y84_19, y86_19, y300_19, ev19_, hh19_⟩ := hq19_
                rw [ev19_] at hw; clear ev19_
                have hw : WK D cy T (upV (upV (upV (upV (upV v_0 80 y80_19) 83 y83_19) 84 y84_19) 86 y86_19) 300 y300_19) A0 s.heap H locs := cw_eq hw (by first | rfl | (funext j_; simp only [upV, reduceIte]; (repeat' split) <;> first | rfl | omega | (subst_vars; rfl)))
                have hh19_ : (0 ≤ (y86_19 o) ∧ (y86_19 o) ≤ 400) ∧ Ro_ (y300_c64) (y300_19) (T 85 o) ∧ Cp_ T1_ TX_ K_ V_ ((y83_17 o)) ((y80_c8 o)) ((y83_19 o)) ((y84_19 o)) ((y80_19 o)) := hh19_
                have u_ := hh19_
                rw [s_.1] at u_
                refine j_iload E 92 rfl dX3_readSum_90 (lv_at hl 4 rfl) ?_
                refine j_if_eq E 95 104 rfl r_s0_47 dX3_readSum_92 (by decide) (fun cc20_ => ?_) (fun cc20_ => ?_)
                · refine j_iload_n E 105 rfl dX3_readSum_104 rfl (lv_at hl 3 rfl) ?_
                  refine j_istore_n E 106 rfl [(1, .int (J (y84_c8 o))), (0, .ref o), (2, .int (J l2_8)), (3, .int (J (y84_c8 o))), (4, .int (J s0_47))] dX3_readSum_105 rfl hl (by decide) rfl (fun ls hl => ?_)
                  refine j_iinc E 109 rfl [(2, .int (J (l2_8 + 1))), (1, .int (J (y84_c8 o))), (0, .ref o), (3, .int (J (y84_c8 o))), (4, .int (J s0_47))] dX3_readSum_106 hl (kk := 2) rfl (by decide) rfl (fun ls hl => ?_)
                  refine j_goto E 8 dX3_readSum_109 (by decide) ?_
                  exact ih8 (y84_c8 o) (l2_8 + 1) y80_19 y83_19 y84_19 y86_19 y300_19 H locs ls rr10_ (rr (by omega)) (by first | exact ⟨by omega, Ro_tr iv64.2 (Ro_tr u_.2.1 ro9_), by omega, Cl_mul iv8.2.2.2 (by omega) u_.2.2⟩ | exact ⟨by omega, Ro_tr iv64.2 (Ro_tr t_.2.1 ro9_), by omega, Cl_div iv8.2.2.2 (by omega) s_.2 (by omega) t_.2.2 (fun q_ => ⟨hp1.2.2.2.2 _ (by omega) q_, (RK_lt hp1 (by omega)).2⟩)⟩ | exact ⟨by omega, Ro_tr iv64.2 u_.2.1, by omega, Cl_add iv8.2.2.2 (by omega) u_.2.2⟩ | (exfalso; omega)) (by omega) hw (lv_sub hl [2, 1, 0] rfl)
                · refine j_aload_n E 96 rfl dX3_readSum_95 rfl (lv_at hl 0 rfl) ?_
                  refine j_iload_n E 97 rfl dX3_readSum_96 rfl (lv_at hl 3 rfl) ?_
                  refine j_ineg E 98 rfl dX3_readSum_97 ?_
                  refine j_norm (fun zz21_ rr21_ ee21_ => ?_)
                  refine kV_v E (c_X3_emit l D cy T (upV (upV (upV (upV (upV v_0 80 y80_19) 83 y83_19) 84 y84_19) 86 y86_19) 300 y300_19) o zz21_  t_o rr21_ (show 0 ≤ (y86_19 o) ∧ (y86_19 o) ≤ 400 from by omega)) mt_X3_emit ml_X3_60 hK hw (cw_rc4 hK hw.1 t_o) hA ⟨Nat.le_of_ble_eq_true rfl, Nat.le_of_ble_eq_true rfl⟩ ⟨Nat.le_of_ble_eq_true rfl, Nat.le_of_ble_eq_true rfl⟩ (As := [.int (J zz21_)]) (rest := []) rfl rfl hl.1 (Nat.le_of_ble_eq_true rfl) 101 rfl dX3_readSum_98 (fun v_22 H locs hq22_ hw => ?_)
                  obtain ⟨y86_22, y300_22, ev22_, hh22_⟩ := hq22_
                  rw [ev22_] at hw; clear ev22_
                  have hw : WK D cy T (upV (upV (upV (upV (upV v_0 80 y80_19) 83 y83_19) 84 y84_19) 86 y86_22) 300 y300_22) A0 s.heap H locs := cw_eq hw (by first | rfl | (funext j_; simp only [upV, reduceIte]; (repeat' split) <;> first | rfl | omega | (subst_vars; rfl)))
                  have hh22_ : (0 ≤ (y86_22 o) ∧ (y86_22 o) ≤ 400) ∧ Ro_ (y300_19) (y300_22) (T 85 o) := hh22_
                  have ro9_ := hh22_.2
                  refine j_goto E 106 dX3_readSum_101 (by decide) ?_
                  refine j_iinc E 109 rfl [(2, .int (J (l2_8 + 1))), (0, .ref o), (1, .int (J l1_8)), (3, .int (J (y84_c8 o))), (4, .int (J s0_47))] dX3_readSum_106 hl (kk := 2) rfl (by decide) rfl (fun ls hl => ?_)
                  refine j_goto E 8 dX3_readSum_109 (by decide) ?_
                  exact ih8 l1_8 (l2_8 + 1) y80_19 y83_19 y84_19 y86_22 y300_22 H locs ls r_l1_8 (rr (by omega)) (by first | exact ⟨by omega, Ro_tr iv64.2 (Ro_tr u_.2.1 ro9_), by omega, Cl_mul iv8.2.2.2 (by omega) u_.2.2⟩ | exact ⟨by omega, Ro_tr iv64.2 (Ro_tr t_.2.1 ro9_), by omega, Cl_div iv8.2.2.2 (by omega) s_.2 (by omega) t_.2.2 (fun q_ => ⟨hp1.2.2.2.2 _ (by omega) q_, (RK_lt hp1 (by omega)).2⟩)⟩ | exact ⟨by omega, Ro_tr iv64.2 u_.2.1, by omega, Cl_add iv8.2.2.2 (by omega) u_.2.2⟩ | (exfalso; omega)) (by omega) hw (lv_sub hl [1, 2, 0] rfl)
              · refine j_aload_n E 75 rfl dX3_readSum_74 rfl (lv_at hl 0 rfl) ?_
                refine j_iconst E 76 rfl dX3_readSum_75 ?_
                refine j_sipush E 79 rfl dX3_readSum_76 (by decide) ?_
                refine j_iconst E 80 rfl dX3_readSum_79 ?_
                refine zV_v E (c_X3_takeNumber l D cy T (upV (upV (upV (upV (upV v_0 80 y80_c8) 83 y83_17) 84 y84_17) 86 y86_c64) 300 y300_c64) κ o 1 9999 0 K_ V_ hO t_o (rr (by decide)) (rr (by decide)) (rr (by decide)) (show 0 ≤ (y86_c64 o) ∧ (y86_c64 o) ≤ 400 from by omega) (show RK_ (y300_c64) (T 120 (T 82 o)) (T 121 (T 82 o)) (((v_0 123) (T 82 o))) K_ V_ from RK_ro hp1 iv64.2 nk_ nv_) (show Cs_ K_ ((y83_17 o)) ((y84_17 o)) ((y80_c8 o)) from Cs_st (Cl_cs hp2 iv8.2.2.2) (by omega) s_.1 s_.2 (by omega)) (show 0 ≤ (1 : Int) ∧ (9999 : Int) ≤ 9999 ∧ 0 ≤ (0 : Int) ∧ (0 : Int) ≤ 10000 from by omega)) mt_X3_takeNumber ml_X3_98 hK hZ hAc hw (cw_rc4 hK hw.1 t_o) hA ⟨Nat.le_of_ble_eq_true rfl, Nat.le_of_ble_eq_true rfl⟩ ⟨Nat.le_of_ble_eq_true rfl, Nat.le_of_ble_eq_true rfl⟩ (As := [.int (J 1), .int (J 9999), .int (J 0)]) (rest := []) rfl rfl hl.1 (Nat.le_of_ble_eq_true rfl) 83 rfl dX3_readSum_80 (fun v_23 H locs hq23_ hw => ?_)
                obtain ⟨y80_23, y83_23, y84_23, y86_23, y300_23, ev23_, hh23_⟩ := hq23_
                rw [ev23_] at hw; clear ev23_
                have hw : WK D cy T (upV (upV (upV (upV (upV v_0 80 y80_23) 83 y83_23) 84 y84_23) 86 y86_23) 300 y300_23) A0 s.heap H locs := cw_eq hw (by first | rfl | (funext j_; simp only [upV, reduceIte]; (repeat' split) <;> first | rfl | omega | (subst_vars; rfl)))
                have hh23_ : (0 ≤ (y86_23 o) ∧ (y86_23 o) ≤ 400) ∧ Ro_ (y300_c64) (y300_23) (T 85 o) ∧ Tn_ K_ V_ (1 : Int) (9999 : Int) ((y83_17 o)) ((y84_17 o)) ((y80_c8 o)) ((y83_23 o)) ((y84_23 o)) ((y80_23 o)) := hh23_
                have t_ := hh23_
                rw [s_.1] at t_
                refine j_goto E 90 dX3_readSum_83 (by decide) ?_
                refine j_iload E 92 rfl dX3_readSum_90 (lv_at hl 4 rfl) ?_
                refine j_if_eq E 95 104 rfl r_s0_47 dX3_readSum_92 (by decide) (fun cc24_ => ?_) (fun cc24_ => ?_)
                · refine j_iload_n E 105 rfl dX3_readSum_104 rfl (lv_at hl 3 rfl) ?_
                  refine j_istore_n E 106 rfl [(1, .int (J (y84_c8 o))), (0, .ref o), (2, .int (J l2_8)), (3, .int (J (y84_c8 o))), (4, .int (J s0_47))] dX3_readSum_105 rfl hl (by decide) rfl (fun ls hl => ?_)
                  refine j_iinc E 109 rfl [(2, .int (J (l2_8 + 1))), (1, .int (J (y84_c8 o))), (0, .ref o), (3, .int (J (y84_c8 o))), (4, .int (J s0_47))] dX3_readSum_106 hl (kk := 2) rfl (by decide) rfl (fun ls hl => ?_)
                  refine j_goto E 8 dX3_readSum_109 (by decide) ?_
                  exact ih8 (y84_c8 o) (l2_8 + 1) y80_23 y83_23 y84_23 y86_23 y300_23 H locs ls rr10_ (rr (by omega)) (by first | exact ⟨by omega, Ro_tr iv64.2 (Ro_tr u_.2.1 ro9_), by omega, Cl_mul iv8.2.2.2 (by omega) u_.2.2⟩ | exact ⟨by omega, Ro_tr iv64.2 (Ro_tr t_.2.1 ro9_), by omega, Cl_div iv8.2.2.2 (by omega) s_.2 (by omega) t_.2.2 (fun q_ => ⟨hp1.2.2.2.2 _ (by omega) q_, (RK_lt hp1 (by omega)).2⟩)⟩ | exact ⟨by omega, Ro_tr iv64.2 u_.2.1, by omega, Cl_add iv8.2.2.2 (by omega) u_.2.2⟩ | (exfalso; omega)) (by omega) hw (lv_sub hl [2, 1, 0] rfl)
                · refine j_aload_n E 96 rfl dX3_readSum_95 rfl (lv_at hl 0 rfl) ?_
                  refine j_iload_n E 97 rfl dX3_readSum_96 rfl (lv_at hl 3 rfl) ?_
                  refine j_ineg E 98 rfl dX3_readSum_97 ?_
                  refine j_norm (fun zz25_ rr25_ ee25_ => ?_)
                  refine kV_v E (c_X3_emit l D cy T (upV (upV (upV (upV (upV v_0 80 y80_23) 83 y83_23) 84 y84_23) 86 y86_23) 300 y300_23) o zz25_  t_o rr25_ (show 0 ≤ (y86_23 o) ∧ (y86_23 o) ≤ 400 from by omega)) mt_X3_emit ml_X3_60 hK hw (cw_rc4 hK hw.1 t_o) hA ⟨Nat.le_of_ble_eq_true rfl, Nat.le_of_ble_eq_true rfl⟩ ⟨Nat.le_of_ble_eq_true rfl, Nat.le_of_ble_eq_true rfl⟩ (As := [.int (J zz25_)]) (rest := []) rfl rfl hl.1 (Nat.le_of_ble_eq_true rfl) 101 rfl dX3_readSum_98 (fun v_26 H locs hq26_ hw => ?_)
                  obtain ⟨y86_26, y300_26, ev26_, hh26_⟩ := hq26_
                  rw [ev26_] at hw; clear ev26_
                  have hw : WK D cy T (upV (upV (upV (upV (upV v_0 80 y80_23) 83 y83_23) 84 y84_23) 86 y86_26) 300 y300_26) A0 s.heap H locs := cw_eq hw (by first | rfl | (funext j_; simp only [upV, reduceIte]; (repeat' split) <;> first | rfl | omega | (subst_vars; rfl)))
                  have hh26_ : (0 ≤ (y86_26 o) ∧ (y86_26 o) ≤ 400) ∧ Ro_ (y300_23) (y300_26) (T 85 o) := hh26_
                  have ro9_ := hh26_.2
                  refine j_goto E 106 dX3_readSum_101 (by decide) ?_
                  refine j_iinc E 109 rfl [(2, .int (J (l2_8 + 1))), (0, .ref o), (1, .int (J l1_8)), (3, .int (J (y84_c8 o))), (4, .int (J s0_47))] dX3_readSum_106 hl (kk := 2) rfl (by decide) rfl (fun ls hl => ?_)
                  refine j_goto E 8 dX3_readSum_109 (by decide) ?_
                  exact ih8 l1_8 (l2_8 + 1) y80_23 y83_23 y84_23 y86_26 y300_26 H locs ls r_l1_8 (rr (by omega)) (by first | exact ⟨by omega, Ro_tr iv64.2 (Ro_tr u_.2.1 ro9_), by omega, Cl_mul iv8.2.2.2 (by omega) u_.2.2⟩ | exact ⟨by omega, Ro_tr iv64.2 (Ro_tr t_.2.1 ro9_), by omega, Cl_div iv8.2.2.2 (by omega) s_.2 (by omega) t_.2.2 (fun q_ => ⟨hp1.2.2.2.2 _ (by omega) q_, (RK_lt hp1 (by omega)).2⟩)⟩ | exact ⟨by omega, Ro_tr iv64.2 u_.2.1, by omega, Cl_add iv8.2.2.2 (by omega) u_.2.2⟩ | (exfalso; omega)) (by omega) hw (lv_sub hl [1, 2, 0] rfl)
            refine j_iload E 51 rfl dX3_readSum_49 (lv_at hl 0 rfl) ?_
            refine j_if_ne E 54 64 rfl r_s0_47 dX3_readSum_51 (by decide) (fun cc27_ => ?_) (fun cc27_ => ?_)
            · exact L64_15  y86_c8 y300_c8 H locs ls  (by first | exact ⟨by omega, iv8.2.1⟩ | exact ⟨by omega, Ro_tr iv8.2.1 ro7_⟩) hw (lv_sub hl [1, 2, 3, 4, 0] rfl)
            · refine j_iload_n E 55 rfl dX3_readSum_54 rfl (lv_at hl 2 rfl) ?_
              refine j_if_eq E 58 64 rfl r_l1_8 dX3_readSum_55 (by decide) (fun cc28_ => ?_) (fun cc28_ => ?_)
              · exact L64_15  y86_c8 y300_c8 H locs ls  (by first | exact ⟨by omega, iv8.2.1⟩ | exact ⟨by omega, Ro_tr iv8.2.1 ro7_⟩) hw (lv_sub hl [1, 2, 3, 4, 0] rfl)
              · refine j_aload_n E 59 rfl dX3_readSum_58 rfl (lv_at hl 1 rfl) ?_
                refine j_iload_n E 60 rfl dX3_readSum_59 rfl (lv_at hl 2 rfl) ?_
                refine j_ineg E 61 rfl dX3_readSum_60 ?_
                refine j_norm (fun zz29_ rr29_ ee29_ => ?_)
                refine kV_v E (c_X3_emit l D cy T (upV (upV (upV (upV (upV v_0 80 y80_c8) 83 y83_c8) 84 y84_c8) 86 y86_c8) 300 y300_c8) o zz29_  t_o rr29_ (show 0 ≤ (y86_c8 o) ∧ (y86_c8 o) ≤ 400 from by omega)) mt_X3_emit ml_X3_60 hK hw (cw_rc4 hK hw.1 t_o) hA ⟨Nat.le_of_ble_eq_true rfl, Nat.le_of_ble_eq_true rfl⟩ ⟨Nat.le_of_ble_eq_true rfl, Nat.le_of_ble_eq_true rfl⟩ (As := [.int (J zz29_)]) (rest := []) rfl rfl hl.1 (Nat.le_of_ble_eq_true rfl) 64 rfl dX3_readSum_61 (fun v_30 H locs hq30_ hw => ?_)
                obtain ⟨y86_30, y300_30, ev30_, hh30_⟩ := hq30_
                rw [ev30_] at hw; clear ev30_
                have hw : WK D cy T (upV (upV (upV (upV (upV v_0 80 y80_c8) 83 y83_c8) 84 y84_c8) 86 y86_30) 300 y300_30) A0 s.heap H locs := cw_eq hw (by first | rfl | (funext j_; simp only [upV, reduceIte]; (repeat' split) <;> first | rfl | omega | (subst_vars; rfl)))
                have hh30_ : (0 ≤ (y86_30 o) ∧ (y86_30 o) ≤ 400) ∧ Ro_ (y300_c8) (y300_30) (T 85 o) := hh30_
                have ro7_ := hh30_.2
                exact L64_15  y86_30 y300_30 H locs ls  (by first | exact ⟨by omega, iv8.2.1⟩ | exact ⟨by omega, Ro_tr iv8.2.1 ro7_⟩) hw (lv_sub hl [1, 2, 3, 4, 0] rfl)
          refine j_iload_n E 31 rfl dX3_readSum_30 rfl (lv_at hl 0 rfl) ?_
          refine j_bipush E 33 rfl dX3_readSum_31 (by decide) ?_
          refine j_icmp_eq E 36 42 rfl rr10_ (rr (by decide)) dX3_readSum_33 (by decide) (fun cc31_ => ?_) (fun cc31_ => ?_)
          · refine j_iconst E 43 rfl dX3_readSum_42 ?_
            refine j_goto E 47 dX3_readSum_43 (by decide) ?_
            exact L47_13 1  H locs ls (rr (by decide)) (by omega) hw (lv_sub hl [1, 2, 3, 0] rfl)
          · refine j_iload_n E 37 rfl dX3_readSum_36 rfl (lv_at hl 0 rfl) ?_
            refine j_bipush E 39 rfl dX3_readSum_37 (by decide) ?_
            refine j_icmp_ne E 42 46 rfl rr10_ (rr (by decide)) dX3_readSum_39 (by decide) (fun cc32_ => ?_) (fun cc32_ => ?_)
            · refine j_iconst E 47 rfl dX3_readSum_46 ?_
              exact L47_13 0  H locs ls (rr (by decide)) (by omega) hw (lv_sub hl [1, 2, 3, 0] rfl)
            · refine j_iconst E 43 rfl dX3_readSum_42 ?_
              refine j_goto E 47 dX3_readSum_43 (by decide) ?_
              exact L47_13 1  H locs ls (rr (by decide)) (by omega) hw (lv_sub hl [1, 2, 3, 0] rfl)
        · subst ee11_
          refine j_if_eq E 25 112 rfl (rr (by decide)) dX3_readSum_22 (by decide) (fun _ => ?_) (fun cc33_ => absurd cc33_ (by decide))
          exact L112_4   H locs ls  (by first | omega | exact Cl_i iv8.2.2.2 (by omega) (by omega)) hw (lv_sub hl [0, 1, 2] rfl)
  exact L8_2 _ 0 0 y80_1 y83_1 y84_1 y86_1 y300_1 H locs ls (rr (by decide)) (rr (by decide)) (⟨by omega, u0_.2.1, by omega, Cl_0 hp2.1.1 u0_.2.2⟩) (Nat.lt_succ_self _) hw (lv_sub hl [2, 1, 0] rfl)
set_option maxHeartbeats 4000000 in
set_option maxRecDepth 100000 in
theorem c_X3_readCondition_n8 (l : Launch) (D : va_G) (cy : Nat → ClassId) (T : Nat → Nat → Nat) (v_0 : Nat → Nat → Int) (κ : Nat → Nat → Nat) (o : Nat) (K_ : Int → Int) (V_ : Int → Int) (hO : ∀ x, ow T x → κ 2 2 ≤ x) (t_o : T 0 o = 4) (hp0 : 0 ≤ (v_0 86 o) ∧ (v_0 86 o) ≤ 400) (hp1 : RK_ (v_0 300) (T 120 (T 82 o)) (T 121 (T 82 o)) ((v_0 123 (T 82 o))) K_ V_) (hp2 : Cs_ K_ ((v_0 83 o)) ((v_0 84 o)) ((v_0 80 o))) : KZ l D cy κ T yX3_readCondition cX3_readCondition 4 none 5 [.ref o, .int (J 8)] v_0 (KV (fun (v_2 : Nat → Nat → Int) => ∃ (y80_2 : Nat → Int) (y83_2 : Nat → Int) (y84_2 : Nat → Int) (y86_2 : Nat → Int) (y300_2 : Nat → Int) , v_2 = upV (upV (upV (upV (upV v_0 80 y80_2) 83 y83_2) 84 y84_2) 86 y86_2) 300 y300_2 ∧ ((0 ≤ (y86_2 o) ∧ (y86_2 o) ≤ 400) ∧ Ro_ (v_0 300) (y300_2) (T 85 o) ∧ Ck_ S3_ (8 : Int) TX_ K_ V_ ((v_0 83 o)) ((v_0 80 o)) ((y83_2 o)) ((y84_2 o)) ((y80_2 o))))) := by
  refine KZ.ofv (by decide) (Nat.le_of_ble_eq_true rfl) hO ?_
  intro p e s m below meth c ls ar QW A0 H locs E hK hZ hA hAc hw hl hret
  have hl : lv_has ls 4 [(0, .ref o), (1, .int (J 8))] := hl
  have hT : WT T := hw.1.2.1
  have cs_ := hp2
  unfold Cs_ at cs_
  have nk_ : T 120 (T 82 o) ≠ T 85 o := ro_ne (wo_120 hT (wt_82 hT t_o)) (wo_85 hT t_o) (by decide) (by decide) (by omega)
  have nv_ : T 121 (T 82 o) ≠ T 85 o := ro_ne (wo_121 hT (wt_82 hT t_o)) (wo_85 hT t_o) (by decide) (by decide) (by omega)
  refine j_aload_n E 1 rfl dX3_readCondition_0 rfl (lv_at hl 0 rfl) ?_
  refine g_84 E hK hw fl_X3_30 t_o (v_0 84 o) rfl 4 rfl dX3_readCondition_1 (fun rr1_ => ?_)
  refine j_bipush E 6 rfl dX3_readCondition_4 (by decide) ?_
  refine j_icmp_eq E 9 19 rfl rr1_ (rr (by decide)) dX3_readCondition_6 (by decide) (fun cc2_ => ?_) (fun cc2_ => ?_)
  · refine j_iconst E 20 rfl dX3_readCondition_19 ?_
    refine j_goto E 24 dX3_readCondition_20 (by decide) ?_
    refine j_istore_n E 25 rfl [(2, .int (J 1)), (0, .ref o), (1, .int (J 8))] dX3_readCondition_24 rfl hl (by decide) rfl (fun ls hl => ?_)
    refine j_iload_n E 26 rfl dX3_readCondition_25 rfl (lv_at hl 0 rfl) ?_
    refine j_if_eq E 29 43 rfl (rr (by decide)) dX3_readCondition_26 (by decide) (fun cc3_ => absurd cc3_ (by decide)) (fun _ => ?_)
    refine j_iload_n E 30 rfl dX3_readCondition_29 rfl (lv_at hl 2 rfl) ?_
    refine j_bipush E 32 rfl dX3_readCondition_30 (by decide) ?_
    refine j_icmp_lt E 35 43 rfl (rr (by decide)) (rr (by decide)) dX3_readCondition_32 (by decide) (fun cc4_ => absurd cc4_ (by decide)) (fun _ => ?_)
    refine j_aload_n E 36 rfl dX3_readCondition_35 rfl (lv_at hl 1 rfl) ?_
    refine j_iconst E 37 rfl dX3_readCondition_36 ?_
    refine kV_v E (c_X3_refuse l D cy T (v_0) o 3  t_o (rr (by decide)) ) mt_X3_refuse ml_X3_63 hK hw (cw_rc4 hK hw.1 t_o) hA ⟨Nat.le_of_ble_eq_true rfl, Nat.le_of_ble_eq_true rfl⟩ ⟨Nat.le_of_ble_eq_true rfl, Nat.le_of_ble_eq_true rfl⟩ (As := [.int (J 3)]) (rest := []) rfl rfl hl.1 (Nat.le_of_ble_eq_true rfl) 40 rfl dX3_readCondition_37 (fun v_5 H locs hq5_ hw => ?_)
    obtain ⟨y80_5, y84_5, ev5_, hh5_⟩ := hq5_
    rw [ev5_] at hw; clear ev5_
    have hw : WK D cy T (upV (upV v_0 80 y80_5) 84 y84_5) A0 s.heap H locs := cw_eq hw (by first | rfl | (funext j_; simp only [upV, reduceIte]; (repeat' split) <;> first | rfl | omega | (subst_vars; rfl)))
    have hh5_ : (y84_5 o) = 2 ∧ ((((v_0 80) o) = 0 ∧ (y80_5 o) = (3 : Int)) ∨ (¬ ((v_0 80) o) = 0 ∧ (y80_5 o) = ((v_0 80) o))) := hh5_
    have r_ := hh5_
    refine j_goto E 126 dX3_readCondition_40 (by decide) ?_
    exact hret 126 (upV (upV (upV (upV (upV v_0 80 y80_5) 83 (v_0 83)) 84 y84_5) 86 (v_0 86)) 300 (v_0 300)) _ _ ls (cw_eq hw (by first | rfl | (funext j_; simp only [upV, reduceIte]; (repeat' split) <;> first | rfl | omega | (subst_vars; rfl)))) ⟨y80_5, (v_0 83), y84_5, (v_0 86), (v_0 300), rfl, by first | exact ⟨by omega, Ro_rf, ck_deep rfl hp2 (by omega) rfl r_.1 r_.2⟩ | exact ⟨by omega, b_.2.1, ck_bra (by omega) hp2 (by omega) b_.2.2 t_ (fun q_ => (RK_lt hp1 (ck_k b_.2.2 q_)).2)⟩ | exact ⟨by omega, Ro_tr n_.2.1 ro_, ck_not (by omega) hp2 (by omega) n_.2.2⟩ | exact ⟨by omega, Ro_tr e1_.2.1 (Ro_tr e2_.2.1 ro_), ck_cmp hp2 (by omega) (by omega) e1_.2.2 t_ e2_.2.2⟩⟩ dX3_readCondition_126
  · refine j_aload_n E 10 rfl dX3_readCondition_9 rfl (lv_at hl 0 rfl) ?_
    refine g_84 E hK hw fl_X3_30 t_o (v_0 84 o) rfl 13 rfl dX3_readCondition_10 (fun _ => ?_)
    refine j_sipush E 16 rfl dX3_readCondition_13 (by decide) ?_
    refine j_icmp_ne E 19 23 rfl rr1_ (rr (by decide)) dX3_readCondition_16 (by decide) (fun cc6_ => ?_) (fun cc6_ => ?_)
    · refine j_iconst E 24 rfl dX3_readCondition_23 ?_
      refine j_istore_n E 25 rfl [(2, .int (J 0)), (0, .ref o), (1, .int (J 8))] dX3_readCondition_24 rfl hl (by decide) rfl (fun ls hl => ?_)
      refine j_iload_n E 26 rfl dX3_readCondition_25 rfl (lv_at hl 0 rfl) ?_
      refine j_if_eq E 29 43 rfl (rr (by decide)) dX3_readCondition_26 (by decide) (fun _ => ?_) (fun cc7_ => absurd cc7_ (by decide))
      refine j_aload_n E 44 rfl dX3_readCondition_43 rfl (lv_at hl 1 rfl) ?_
      refine g_84 E hK hw fl_X3_30 t_o (v_0 84 o) rfl 47 rfl dX3_readCondition_44 (fun _ => ?_)
      refine j_bipush E 49 rfl dX3_readCondition_47 (by decide) ?_
      refine j_icmp_ne E 52 72 rfl rr1_ (rr (by decide)) dX3_readCondition_49 (by decide) (fun cc8_ => ?_) (fun cc8_ => ?_)
      rotate_left; · exfalso; omega
      refine j_aload_n E 73 rfl dX3_readCondition_72 rfl (lv_at hl 1 rfl) ?_
      refine g_84 E hK hw fl_X3_30 t_o (v_0 84 o) rfl 76 rfl dX3_readCondition_73 (fun _ => ?_)
      refine j_sipush E 79 rfl dX3_readCondition_76 (by decide) ?_
      refine j_icmp_ne E 82 103 rfl rr1_ (rr (by decide)) dX3_readCondition_79 (by decide) (fun cc9_ => ?_) (fun cc9_ => ?_)
      rotate_left; · exfalso; omega
      refine j_aload_n E 104 rfl dX3_readCondition_103 rfl (lv_at hl 1 rfl) ?_
      refine zV_v E (c_X3_readSum l D cy T (v_0) κ o K_ V_ hO t_o  (show 0 ≤ ((v_0 86) o) ∧ ((v_0 86) o) ≤ 400 from by omega) (show RK_ (v_0 300) (T 120 (T 82 o)) (T 121 (T 82 o)) (((v_0 123) (T 82 o))) K_ V_ from hp1) (show Cs_ K_ (((v_0 83) o)) (((v_0 84) o)) (((v_0 80) o)) from hp2)) mt_X3_readSum ml_X3_51 hK hZ hAc hw (cw_rc4 hK hw.1 t_o) hA ⟨Nat.le_of_ble_eq_true rfl, Nat.le_of_ble_eq_true rfl⟩ ⟨Nat.le_of_ble_eq_true rfl, Nat.le_of_ble_eq_true rfl⟩ (As := []) (rest := []) rfl rfl hl.1 (Nat.le_of_ble_eq_true rfl) 107 rfl dX3_readCondition_104 (fun v_10 H locs hq10_ hw => ?_)
      obtain ⟨y80_10, y83_10, y84_10, y86_10, y300_10, ev10_, hh10_⟩ := hq10_
      rw [ev10_] at hw; clear ev10_
      have hw : WK D cy T (upV (upV (upV (upV (upV v_0 80 y80_10) 83 y83_10) 84 y84_10) 86 y86_10) 300 y300_10) A0 s.heap H locs := cw_eq hw (by first | rfl | (funext j_; simp only [upV, reduceIte]; (repeat' split) <;> first | rfl | omega | (subst_vars; rfl)))
      have hh10_ : (0 ≤ (y86_10 o) ∧ (y86_10 o) ≤ 400) ∧ Ro_ (v_0 300) (y300_10) (T 85 o) ∧ Cp_ S3_ (N4_ K_) K_ V_ (((v_0 83) o)) (((v_0 80) o)) ((y83_10 o)) ((y84_10 o)) ((y80_10 o)) := hh10_
      have e1_ := hh10_
      refine j_aload_n E 108 rfl dX3_readCondition_107 rfl (lv_at hl 1 rfl) ?_
      refine g_84 E hK hw fl_X3_30 t_o (y84_10 o) rfl 111 rfl dX3_readCondition_108 (fun rr11_ => ?_)
      refine j_istore_n E 112 rfl [(3, .int (J (y84_10 o))), (2, .int (J 0)), (0, .ref o), (1, .int (J 8))] dX3_readCondition_111 rfl hl (by decide) rfl (fun ls hl => ?_)
      refine j_aload_n E 113 rfl dX3_readCondition_112 rfl (lv_at hl 2 rfl) ?_
      refine zV_v E (c_X3_takeComparison l D cy T (upV (upV (upV (upV (upV v_0 80 y80_10) 83 y83_10) 84 y84_10) 86 y86_10) 300 y300_10) κ o K_ V_ hO t_o  (show RK_ (y300_10) (T 120 (T 82 o)) (T 121 (T 82 o)) (((v_0 123) (T 82 o))) K_ V_ from RK_ro hp1 e1_.2.1 nk_ nv_) (show Cs_ K_ ((y83_10 o)) ((y84_10 o)) ((y80_10 o)) from Cp_cs hp2 e1_.2.2)) mt_X3_takeComparison ml_X3_88 hK hZ hAc hw (cw_rc4 hK hw.1 t_o) hA ⟨Nat.le_of_ble_eq_true rfl, Nat.le_of_ble_eq_true rfl⟩ ⟨Nat.le_of_ble_eq_true rfl, Nat.le_of_ble_eq_true rfl⟩ (As := []) (rest := []) rfl rfl hl.1 (Nat.le_of_ble_eq_true rfl) 116 rfl dX3_readCondition_113 (fun v_12 H locs hq12_ hw => ?_)
      obtain ⟨y80_12, y83_12, y84_12, ev12_, hh12_⟩ := hq12_
      rw [ev12_] at hw; clear ev12_
      have hw : WK D cy T (upV (upV (upV (upV (upV v_0 80 y80_12) 83 y83_12) 84 y84_12) 86 y86_10) 300 y300_10) A0 s.heap H locs := cw_eq hw (by first | rfl | (funext j_; simp only [upV, reduceIte]; (repeat' split) <;> first | rfl | omega | (subst_vars; rfl)))
      have hh12_ : (((y84_10 o) = 60 ∨ (y84_10 o) = 61 ∨ (y84_10 o) = 62) ∧ (y83_12 o) = (y83_10 o) + 1 ∧ (y84_12 o) = K_ ((y83_10 o) + 1) ∧ (y80_12 o) = (y80_10 o)) ∨ (¬ ((y84_10 o) = 60 ∨ (y84_10 o) = 61 ∨ (y84_10 o) = 62) ∧ (y83_12 o) = (y83_10 o) ∧ (y84_12 o) = 2 ∧ (((y80_10 o) = 0 ∧ (y80_12 o) = 1) ∨ (¬ (y80_10 o) = 0 ∧ (y80_12 o) = (y80_10 o)))) := hh12_
      have t_ := hh12_
      refine j_aload_n E 117 rfl dX3_readCondition_116 rfl (lv_at hl 2 rfl) ?_
      refine zV_v E (c_X3_readSum l D cy T (upV (upV (upV (upV (upV v_0 80 y80_12) 83 y83_12) 84 y84_12) 86 y86_10) 300 y300_10) κ o K_ V_ hO t_o  (show 0 ≤ (y86_10 o) ∧ (y86_10 o) ≤ 400 from by omega) (show RK_ (y300_10) (T 120 (T 82 o)) (T 121 (T 82 o)) (((v_0 123) (T 82 o))) K_ V_ from RK_ro hp1 e1_.2.1 nk_ nv_) (show Cs_ K_ ((y83_12 o)) ((y84_12 o)) ((y80_12 o)) from Ct_cs (Cp_cs hp2 e1_.2.2) t_ (fun q_ => (RK_lt hp1 q_).2))) mt_X3_readSum ml_X3_51 hK hZ hAc hw (cw_rc4 hK hw.1 t_o) hA ⟨Nat.le_of_ble_eq_true rfl, Nat.le_of_ble_eq_true rfl⟩ ⟨Nat.le_of_ble_eq_true rfl, Nat.le_of_ble_eq_true rfl⟩ (As := []) (rest := []) rfl rfl hl.1 (Nat.le_of_ble_eq_true rfl) 120 rfl dX3_readCondition_117 (fun v_13 H locs hq13_ hw => ?_)
      obtain ⟨y80_13, y83_13, y84_13, y86_13, y300_13, ev13_, hh13_⟩ := hq13_
      rw [ev13_] at hw; clear ev13_
      have hw : WK D cy T (upV (upV (upV (upV (upV v_0 80 y80_13) 83 y83_13) 84 y84_13) 86 y86_13) 300 y300_13) A0 s.heap H locs := cw_eq hw (by first | rfl | (funext j_; simp only [upV, reduceIte]; (repeat' split) <;> first | rfl | omega | (subst_vars; rfl)))
      have hh13_ : (0 ≤ (y86_13 o) ∧ (y86_13 o) ≤ 400) ∧ Ro_ (y300_10) (y300_13) (T 85 o) ∧ Cp_ S3_ (N4_ K_) K_ V_ ((y83_12 o)) ((y80_12 o)) ((y83_13 o)) ((y84_13 o)) ((y80_13 o)) := hh13_
      have e2_ := hh13_
      refine j_aload_n E 121 rfl dX3_readCondition_120 rfl (lv_at hl 2 rfl) ?_
      refine j_iload_n E 122 rfl dX3_readCondition_121 rfl (lv_at hl 0 rfl) ?_
      refine j_ineg E 123 rfl dX3_readCondition_122 ?_
      refine j_norm (fun zz14_ rr14_ ee14_ => ?_)
      refine kV_v E (c_X3_emit l D cy T (upV (upV (upV (upV (upV v_0 80 y80_13) 83 y83_13) 84 y84_13) 86 y86_13) 300 y300_13) o zz14_  t_o rr14_ (show 0 ≤ (y86_13 o) ∧ (y86_13 o) ≤ 400 from by omega)) mt_X3_emit ml_X3_60 hK hw (cw_rc4 hK hw.1 t_o) hA ⟨Nat.le_of_ble_eq_true rfl, Nat.le_of_ble_eq_true rfl⟩ ⟨Nat.le_of_ble_eq_true rfl, Nat.le_of_ble_eq_true rfl⟩ (As := [.int (J zz14_)]) (rest := []) rfl rfl hl.1 (Nat.le_of_ble_eq_true rfl) 126 rfl dX3_readCondition_123 (fun v_15 H locs hq15_ hw => ?_)
      obtain ⟨y86_15, y300_15, ev15_, hh15_⟩ := hq15_
      rw [ev15_] at hw; clear ev15_
      have hw : WK D cy T (upV (upV (upV (upV (upV v_0 80 y80_13) 83 y83_13) 84 y84_13) 86 y86_15) 300 y300_15) A0 s.heap H locs := cw_eq hw (by first | rfl | (funext j_; simp only [upV, reduceIte]; (repeat' split) <;> first | rfl | omega | (subst_vars; rfl)))
      have hh15_ : (0 ≤ (y86_15 o) ∧ (y86_15 o) ≤ 400) ∧ Ro_ (y300_13) (y300_15) (T 85 o) := hh15_
      have ro_ := hh15_.2
      exact hret 126 (upV (upV (upV (upV (upV v_0 80 y80_13) 83 y83_13) 84 y84_13) 86 y86_15) 300 y300_15) _ _ ls hw ⟨y80_13, y83_13, y84_13, y86_15, y300_15, rfl, by first | exact ⟨by omega, Ro_rf, ck_deep rfl hp2 (by omega) rfl r_.1 r_.2⟩ | exact ⟨by omega, b_.2.1, ck_bra (by omega) hp2 (by omega) b_.2.2 t_ (fun q_ => (RK_lt hp1 (ck_k b_.2.2 q_)).2)⟩ | exact ⟨by omega, Ro_tr n_.2.1 ro_, ck_not (by omega) hp2 (by omega) n_.2.2⟩ | exact ⟨by omega, Ro_tr e1_.2.1 (Ro_tr e2_.2.1 ro_), ck_cmp hp2 (by omega) (by omega) e1_.2.2 t_ e2_.2.2⟩⟩ dX3_readCondition_126
    · refine j_iconst E 20 rfl dX3_readCondition_19 ?_
      refine j_goto E 24 dX3_readCondition_20 (by decide) ?_
      refine j_istore_n E 25 rfl [(2, .int (J 1)), (0, .ref o), (1, .int (J 8))] dX3_readCondition_24 rfl hl (by decide) rfl (fun ls hl => ?_)
      refine j_iload_n E 26 rfl dX3_readCondition_25 rfl (lv_at hl 0 rfl) ?_
      refine j_if_eq E 29 43 rfl (rr (by decide)) dX3_readCondition_26 (by decide) (fun cc16_ => absurd cc16_ (by decide)) (fun _ => ?_)
      refine j_iload_n E 30 rfl dX3_readCondition_29 rfl (lv_at hl 2 rfl) ?_
      refine j_bipush E 32 rfl dX3_readCondition_30 (by decide) ?_
      refine j_icmp_lt E 35 43 rfl (rr (by decide)) (rr (by decide)) dX3_readCondition_32 (by decide) (fun cc17_ => absurd cc17_ (by decide)) (fun _ => ?_)
      refine j_aload_n E 36 rfl dX3_readCondition_35 rfl (lv_at hl 1 rfl) ?_
      refine j_iconst E 37 rfl dX3_readCondition_36 ?_
      refine kV_v E (c_X3_refuse l D cy T (v_0) o 3  t_o (rr (by decide)) ) mt_X3_refuse ml_X3_63 hK hw (cw_rc4 hK hw.1 t_o) hA ⟨Nat.le_of_ble_eq_true rfl, Nat.le_of_ble_eq_true rfl⟩ ⟨Nat.le_of_ble_eq_true rfl, Nat.le_of_ble_eq_true rfl⟩ (As := [.int (J 3)]) (rest := []) rfl rfl hl.1 (Nat.le_of_ble_eq_true rfl) 40 rfl dX3_readCondition_37 (fun v_18 H locs hq18_ hw => ?_)
      obtain ⟨y80_18, y84_18, ev18_, hh18_⟩ := hq18_
      rw [ev18_] at hw; clear ev18_
      have hw : WK D cy T (upV (upV v_0 80 y80_18) 84 y84_18) A0 s.heap H locs := cw_eq hw (by first | rfl | (funext j_; simp only [upV, reduceIte]; (repeat' split) <;> first | rfl | omega | (subst_vars; rfl)))
      have hh18_ : (y84_18 o) = 2 ∧ ((((v_0 80) o) = 0 ∧ (y80_18 o) = (3 : Int)) ∨ (¬ ((v_0 80) o) = 0 ∧ (y80_18 o) = ((v_0 80) o))) := hh18_
      have r_ := hh18_
      refine j_goto E 126 dX3_readCondition_40 (by decide) ?_
      exact hret 126 (upV (upV (upV (upV (upV v_0 80 y80_18) 83 (v_0 83)) 84 y84_18) 86 (v_0 86)) 300 (v_0 300)) _ _ ls (cw_eq hw (by first | rfl | (funext j_; simp only [upV, reduceIte]; (repeat' split) <;> first | rfl | omega | (subst_vars; rfl)))) ⟨y80_18, (v_0 83), y84_18, (v_0 86), (v_0 300), rfl, by first | exact ⟨by omega, Ro_rf, ck_deep rfl hp2 (by omega) rfl r_.1 r_.2⟩ | exact ⟨by omega, b_.2.1, ck_bra (by omega) hp2 (by omega) b_.2.2 t_ (fun q_ => (RK_lt hp1 (ck_k b_.2.2 q_)).2)⟩ | exact ⟨by omega, Ro_tr n_.2.1 ro_, ck_not (by omega) hp2 (by omega) n_.2.2⟩ | exact ⟨by omega, Ro_tr e1_.2.1 (Ro_tr e2_.2.1 ro_), ck_cmp hp2 (by omega) (by omega) e1_.2.2 t_ e2_.2.2⟩⟩ dX3_readCondition_126
set_option maxHeartbeats 4000000 in
set_option maxRecDepth 100000 in
theorem c_X3_readConditions_n8 (l : Launch) (D : va_G) (cy : Nat → ClassId) (T : Nat → Nat → Nat) (v_0 : Nat → Nat → Int) (κ : Nat → Nat → Nat) (o : Nat) (K_ : Int → Int) (V_ : Int → Int) (hO : ∀ x, ow T x → κ 2 2 ≤ x) (t_o : T 0 o = 4) (hp0 : 0 ≤ (v_0 86 o) ∧ (v_0 86 o) ≤ 400) (hp1 : RK_ (v_0 300) (T 120 (T 82 o)) (T 121 (T 82 o)) ((v_0 123 (T 82 o))) K_ V_) (hp2 : Cs_ K_ ((v_0 83 o)) ((v_0 84 o)) ((v_0 80 o))) : KZ l D cy κ T yX3_readConditions cX3_readConditions 5 none 6 [.ref o, .int (J 8)] v_0 (KV (fun (v_2 : Nat → Nat → Int) => ∃ (y80_2 : Nat → Int) (y83_2 : Nat → Int) (y84_2 : Nat → Int) (y86_2 : Nat → Int) (y300_2 : Nat → Int) , v_2 = upV (upV (upV (upV (upV v_0 80 y80_2) 83 y83_2) 84 y84_2) 86 y86_2) 300 y300_2 ∧ ((0 ≤ (y86_2 o) ∧ (y86_2 o) ≤ 400) ∧ Ro_ (v_0 300) (y300_2) (T 85 o) ∧ Ck_ S4_ (8 : Int) (NA_ K_) K_ V_ ((v_0 83 o)) ((v_0 80 o)) ((y83_2 o)) ((y84_2 o)) ((y80_2 o))))) := by
  refine KZ.ofv (by decide) (Nat.le_of_ble_eq_true rfl) hO ?_
  intro p e s m below meth c ls ar QW A0 H locs E hK hZ hA hAc hw hl hret
  have hl : lv_has ls 5 [(0, .ref o), (1, .int (J 8))] := hl
  have hT : WT T := hw.1.2.1
  have nk_ : T 120 (T 82 o) ≠ T 85 o := ro_ne (wo_120 hT (wt_82 hT t_o)) (wo_85 hT t_o) (by decide) (by decide) (by omega)
  have nv_ : T 121 (T 82 o) ≠ T 85 o := ro_ne (wo_121 hT (wt_82 hT t_o)) (wo_85 hT t_o) (by decide) (by decide) (by omega)
  have c0_ := hp2.1
  refine j_aload_n E 1 rfl dX3_readConditions_0 rfl (lv_at hl 0 rfl) ?_
  refine j_iload_n E 2 rfl dX3_readConditions_1 rfl (lv_at hl 1 rfl) ?_
  refine zV_v E (c_X3_readCondition_n8 l D cy T (v_0) κ o K_ V_ hO t_o  (show 0 ≤ ((v_0 86) o) ∧ ((v_0 86) o) ≤ 400 from by omega) (show RK_ (v_0 300) (T 120 (T 82 o)) (T 121 (T 82 o)) (((v_0 123) (T 82 o))) K_ V_ from hp1) (show Cs_ K_ (((v_0 83) o)) (((v_0 84) o)) (((v_0 80) o)) from hp2)) mt_X3_readCondition ml_X3_85 hK hZ hAc hw (cw_rc4 hK hw.1 t_o) hA ⟨Nat.le_of_ble_eq_true rfl, Nat.le_of_ble_eq_true rfl⟩ ⟨Nat.le_of_ble_eq_true rfl, Nat.le_of_ble_eq_true rfl⟩ (As := [.int (J 8)]) (rest := []) rfl rfl hl.1 (Nat.le_of_ble_eq_true rfl) 5 rfl dX3_readConditions_2 (fun v_1 H locs hq1_ hw => ?_)
  obtain ⟨y80_1, y83_1, y84_1, y86_1, y300_1, ev1_, hh1_⟩ := hq1_
  rw [ev1_] at hw; clear ev1_
  have hw : WK D cy T (upV (upV (upV (upV (upV v_0 80 y80_1) 83 y83_1) 84 y84_1) 86 y86_1) 300 y300_1) A0 s.heap H locs := cw_eq hw (by first | rfl | (funext j_; simp only [upV, reduceIte]; (repeat' split) <;> first | rfl | omega | (subst_vars; rfl)))
  have hh1_ : (0 ≤ (y86_1 o) ∧ (y86_1 o) ≤ 400) ∧ Ro_ (v_0 300) (y300_1) (T 85 o) ∧ Ck_ S3_ (8 : Int) TX_ K_ V_ (((v_0 83) o)) (((v_0 80) o)) ((y83_1 o)) ((y84_1 o)) ((y80_1 o)) := hh1_
  have u0_ := hh1_
  refine j_iconst E 6 rfl dX3_readConditions_5 ?_
  refine j_istore_n E 7 rfl [(2, .int (J 0)), (0, .ref o), (1, .int (J 8))] dX3_readConditions_6 rfl hl (by decide) rfl (fun ls hl => ?_)
  refine j_iconst E 8 rfl dX3_readConditions_7 ?_
  refine j_istore_n E 9 rfl [(3, .int (J 0)), (2, .int (J 0)), (0, .ref o), (1, .int (J 8))] dX3_readConditions_8 rfl hl (by decide) rfl (fun ls hl => ?_)
  have L9_2 : ∀ (k9 : Nat) (l2_9 l3_9 : Int) (y80_c9 : Nat → Int) (y83_c9 : Nat → Int) (y84_c9 : Nat → Int) (y86_c9 : Nat → Int) (y300_c9 : Nat → Int) (H : Heap) (locs : List Loc) (ls : Array Slot), inR l2_9 → inR l3_9 → ((0 ≤ (y86_c9 o) ∧ (y86_c9 o) ≤ 400) ∧ (Ro_ (v_0 300) (y300_c9) (T 85 o)) ∧ 0 ≤ l3_9 ∧ Co_ (8 : Int) {K_} {V_} (v_0 83 o) (v_0 80 o) l2_9 l3_9 ((y83_c9 o)) ((y84_c9 o)) ((y80_c9 o))) → (400 - l3_9).toNat < k9 → WK D cy T (upV (upV (upV (upV (upV v_0 80 y80_c9) 83 y83_c9) 84 y84_c9) 86 y86_c9) 300 y300_c9) A0 s.heap H locs → lv_has ls 5 [(0, .ref o), (1, .int (J 8)), (2, .int (J l2_9)), (3, .int (J l3_9))] → W p l e (rmd 6 0 0) s m ar below meth c H locs 0 0 QW (F0 m 9 ls []) := by
    intro k9
    induction k9 with
    | zero =>
      intro l2_9 l3_9 y80_c9 y83_c9 y84_c9 y86_c9 y300_c9 H locs ls r_l2_9 r_l3_9 iv9 ms9 hw hl
      exact absurd ms9 (Nat.not_lt_zero _)
    | succ k9 ih9 =>
      intro l2_9 l3_9 y80_c9 y83_c9 y84_c9 y86_c9 y300_c9 H locs ls r_l2_9 r_l3_9 iv9 ms9 hw hl
      have cs1_ := Co_cs hp2 iv9.2.2.2
      unfold Cs_ at cs1_
      have L111_4 : ∀ (H : Heap) (locs : List Loc) (ls : Array Slot), (¬ ((y84_c9 o) = 305 ∨ (y84_c9 o) = 304)) → WK D cy T (upV (upV (upV (upV (upV v_0 80 y80_c9) 83 y83_c9) 84 y84_c9) 86 y86_c9) 300 y300_c9) A0 s.heap H locs → lv_has ls 5 [(0, .ref o), (1, .int (J 8)), (2, .int (J l2_9)), (3, .int (J l3_9))] → W p l e (rmd 6 0 0) s m ar below meth c H locs 0 0 QW (F0 m 111 ls []) := by
        intro H locs ls iv111 hw hl
        refine j_iload_n E 112 rfl dX3_readConditions_111 rfl (lv_at hl 2 rfl) ?_
        refine j_if_eq E 115 122 rfl r_l2_9 dX3_readConditions_112 (by decide) (fun cc6_ => ?_) (fun cc6_ => ?_)
        · exact hret 122 (upV (upV (upV (upV (upV v_0 80 y80_c9) 83 y83_c9) 84 y84_c9) 86 y86_c9) 300 y300_c9) _ _ ls hw ⟨y80_c9, y83_c9, y84_c9, y86_c9, y300_c9, rfl, by first | exact ⟨by omega, Ro_tr iv9.2.1 roe_, Co_end iv9.2.2.2 iv111 (by omega)⟩ | exact ⟨by omega, iv9.2.1, Co_end iv9.2.2.2 iv111 (by omega)⟩⟩ dX3_readConditions_122
        · refine j_aload_n E 116 rfl dX3_readConditions_115 rfl (lv_at hl 0 rfl) ?_
          refine j_sipush E 119 rfl dX3_readConditions_116 (by decide) ?_
          refine kV_v E (c_X3_emit l D cy T (upV (upV (upV (upV (upV v_0 80 y80_c9) 83 y83_c9) 84 y84_c9) 86 y86_c9) 300 y300_c9) o ((-304))  t_o (rr (by decide)) (show 0 ≤ (y86_c9 o) ∧ (y86_c9 o) ≤ 400 from by omega)) mt_X3_emit ml_X3_60 hK hw (cw_rc4 hK hw.1 t_o) hA ⟨Nat.le_of_ble_eq_true rfl, Nat.le_of_ble_eq_true rfl⟩ ⟨Nat.le_of_ble_eq_true rfl, Nat.le_of_ble_eq_true rfl⟩ (As := [.int (J ((-304)))]) (rest := []) rfl rfl hl.1 (Nat.le_of_ble_eq_true rfl) 122 rfl dX3_readConditions_119 (fun v_7 H locs hq7_ hw => ?_)
          obtain ⟨y86_7, y300_7, ev7_, hh7_⟩ := hq7_
          rw [ev7_] at hw; clear ev7_
          have hw : WK D cy T (upV (upV (upV (upV (upV v_0 80 y80_c9) 83 y83_c9) 84 y84_c9) 86 y86_7) 300 y300_7) A0 s.heap H locs := cw_eq hw (by first | rfl | (funext j_; simp only [upV, reduceIte]; (repeat' split) <;> first | rfl | omega | (subst_vars; rfl)))
          have hh7_ : (0 ≤ (y86_7 o) ∧ (y86_7 o) ≤ 400) ∧ Ro_ (y300_c9) (y300_7) (T 85 o) := hh7_
          have roe_ := hh7_.2
          exact hret 122 (upV (upV (upV (upV (upV v_0 80 y80_c9) 83 y83_c9) 84 y84_c9) 86 y86_7) 300 y300_7) _ _ ls hw ⟨y80_c9, y83_c9, y84_c9, y86_7, y300_7, rfl, by first | exact ⟨by omega, Ro_tr iv9.2.1 roe_, Co_end iv9.2.2.2 iv111 (by omega)⟩ | exact ⟨by omega, iv9.2.1, Co_end iv9.2.2.2 iv111 (by omega)⟩⟩ dX3_readConditions_122
      refine j_iload_n E 10 rfl dX3_readConditions_9 rfl (lv_at hl 3 rfl) ?_
      refine j_sipush E 13 rfl dX3_readConditions_10 (by decide) ?_
      refine j_icmp_ge E 16 111 rfl r_l3_9 (rr (by decide)) dX3_readConditions_13 (by decide) (fun cc8_ => ?_) (fun cc8_ => ?_)
      · exact L111_4   H locs ls  (by first | omega | exact Co_i iv9.2.2.2 (by omega) (by omega)) hw (lv_sub hl [0, 1, 2, 3] rfl)
      · refine j_aload_n E 17 rfl dX3_readConditions_16 rfl (lv_at hl 0 rfl) ?_
        refine g_84 E hK hw fl_X3_30 t_o (y84_c9 o) rfl 20 rfl dX3_readConditions_17 (fun rr9_ => ?_)
        refine j_sipush E 23 rfl dX3_readConditions_20 (by decide) ?_
        refine j_icmp_eq E 26 36 rfl rr9_ (rr (by decide)) dX3_readConditions_23 (by decide) (fun cc10_ => ?_) (fun cc10_ => ?_)
        · have L51_11 : ∀ (s0_51 : Int) (H : Heap) (locs : List Loc) (ls : Array Slot), inR s0_51 → ((s0_51 = 1 ∧ (y84_c9 o) = 305) ∨ (s0_51 = 0 ∧ (y84_c9 o) = 304)) → WK D cy T (upV (upV (upV (upV (upV v_0 80 y80_c9) 83 y83_c9) 84 y84_c9) 86 y86_c9) 300 y300_c9) A0 s.heap H locs → lv_has ls 5 [(0, .ref o), (1, .int (J 8)), (2, .int (J l2_9)), (3, .int (J l3_9))] → W p l e (rmd 6 0 0) s m ar below meth c H locs 0 0 QW (F0 m 51 ls [.int (J s0_51)]) := by
            intro s0_51 H locs ls r_s0_51 iv51 hw hl
            refine j_istore E 53 rfl [(4, .int (J s0_51)), (0, .ref o), (1, .int (J 8)), (2, .int (J l2_9)), (3, .int (J l3_9))] dX3_readConditions_51 hl (by decide) rfl (fun ls hl => ?_)
            have L69_13 : ∀ (y86_c69 : Nat → Int) (y300_c69 : Nat → Int) (H : Heap) (locs : List Loc) (ls : Array Slot), ((0 ≤ (y86_c69 o) ∧ (y86_c69 o) ≤ 400) ∧ Ro_ (v_0 300) (y300_c69) (T 85 o)) → WK D cy T (upV (upV (upV (upV (upV v_0 80 y80_c9) 83 y83_c9) 84 y84_c9) 86 y86_c69) 300 y300_c69) A0 s.heap H locs → lv_has ls 5 [(0, .ref o), (1, .int (J 8)), (2, .int (J l2_9)), (3, .int (J l3_9)), (4, .int (J s0_51))] → W p l e (rmd 6 0 0) s m ar below meth c H locs 0 0 QW (F0 m 69 ls []) := by
              intro y86_c69 y300_c69 H locs ls iv69 hw hl
              refine j_aload_n E 70 rfl dX3_readConditions_69 rfl (lv_at hl 0 rfl) ?_
              refine zV_v E (c_X3_step l D cy T (upV (upV (upV (upV (upV v_0 80 y80_c9) 83 y83_c9) 84 y84_c9) 86 y86_c69) 300 y300_c69) κ o K_ V_ hO t_o  (show RK_ (y300_c69) (T 120 (T 82 o)) (T 121 (T 82 o)) (((v_0 123) (T 82 o))) K_ V_ from RK_ro hp1 iv69.2 nk_ nv_) (show 0 ≤ (y83_c9 o) ∧ (y83_c9 o) < 400 from by have q_ := RK_lt hp1 (j := (y83_c9 o)) (by omega); omega)) mt_X3_step ml_X3_54 hK hZ hAc hw (cw_rc4 hK hw.1 t_o) hA ⟨Nat.le_of_ble_eq_true rfl, Nat.le_of_ble_eq_true rfl⟩ ⟨Nat.le_of_ble_eq_true rfl, Nat.le_of_ble_eq_true rfl⟩ (As := []) (rest := []) rfl rfl hl.1 (Nat.le_of_ble_eq_true rfl) 73 rfl dX3_readConditions_70 (fun v_15 H locs hq15_ hw => ?_)
              obtain ⟨y83_15, y84_15, ev15_, hh15_⟩ := hq15_
              rw [ev15_] at hw; clear ev15_
              have hw : WK D cy T (upV (upV (upV (upV (upV v_0 80 y80_c9) 83 y83_15) 84 y84_15) 86 y86_c69) 300 y300_c69) A0 s.heap H locs := cw_eq hw (by first | rfl | (funext j_; simp only [upV, reduceIte]; (repeat' split) <;> first | rfl | omega | (subst_vars; rfl)))
              have hh15_ : (y83_15 o) = (y83_c9 o) + 1 ∧ (y84_15 o) = K_ ((y83_c9 o) + 1) := hh15_
              have s_ := hh15_
              refine j_aload_n E 74 rfl dX3_readConditions_73 rfl (lv_at hl 0 rfl) ?_
              refine j_iload_n E 75 rfl dX3_readConditions_74 rfl (lv_at hl 1 rfl) ?_
              refine zV_v E (c_X3_readCondition_n8 l D cy T (upV (upV (upV (upV (upV v_0 80 y80_c9) 83 y83_15) 84 y84_15) 86 y86_c69) 300 y300_c69) κ o K_ V_ hO t_o  (show 0 ≤ (y86_c69 o) ∧ (y86_c69 o) ≤ 400 from by omega) (show RK_ (y300_c69) (T 120 (T 82 o)) (T 121 (T 82 o)) (((v_0 123) (T 82 o))) K_ V_ from RK_ro hp1 iv69.2 nk_ nv_) (show Cs_ K_ ((y83_15 o)) ((y84_15 o)) ((y80_c9 o)) from Cs_st (Co_cs hp2 iv9.2.2.2) (by omega) s_.1 s_.2 (by omega))) mt_X3_readCondition ml_X3_85 hK hZ hAc hw (cw_rc4 hK hw.1 t_o) hA ⟨Nat.le_of_ble_eq_true rfl, Nat.le_of_ble_eq_true rfl⟩ ⟨Nat.le_of_ble_eq_true rfl, Nat.le_of_ble_eq_true rfl⟩ (As := [.int (J 8)]) (rest := []) rfl rfl hl.1 (Nat.le_of_ble_eq_true rfl) 78 rfl dX3_readConditions_75 (fun v_16 H locs hq16_ hw => ?_)
              obtain ⟨y80_16, y83_16, y84_16, y86_16, y300_16, ev16_, hh16_⟩ := hq16_
              rw [ev16_] at hw; clear ev16_
              have hw : WK D cy T (upV (upV (upV (upV (upV v_0 80 y80_16) 83 y83_16) 84 y84_16) 86 y86_16) 300 y300_16) A0 s.heap H locs := cw_eq hw (by first | rfl | (funext j_; simp only [upV, reduceIte]; (repeat' split) <;> first | rfl | omega | (subst_vars; rfl)))
              have hh16_ : (0 ≤ (y86_16 o) ∧ (y86_16 o) ≤ 400) ∧ Ro_ (y300_c69) (y300_16) (T 85 o) ∧ Ck_ S3_ (8 : Int) TX_ K_ V_ ((y83_15 o)) ((y80_c9 o)) ((y83_16 o)) ((y84_16 o)) ((y80_16 o)) := hh16_
              have u_ := hh16_
              rw [s_.1] at u_
              refine j_iload E 80 rfl dX3_readConditions_78 (lv_at hl 4 rfl) ?_
              refine j_if_eq E 83 90 rfl r_s0_51 dX3_readConditions_80 (by decide) (fun cc17_ => ?_) (fun cc17_ => ?_)
              · have L104_18 : ∀ (s0_104 : Int) (H : Heap) (locs : List Loc) (ls : Array Slot), inR s0_104 → (((l2_9 ≠ 0 ∨ s0_51 = 0) ∧ s0_104 = 1) ∨ (l2_9 = 0 ∧ s0_51 ≠ 0 ∧ s0_104 = 0)) → WK D cy T (upV (upV (upV (upV (upV v_0 80 y80_16) 83 y83_16) 84 y84_16) 86 y86_16) 300 y300_16) A0 s.heap H locs → lv_has ls 5 [(0, .ref o), (1, .int (J 8)), (2, .int (J l2_9)), (3, .int (J l3_9)), (4, .int (J s0_51))] → W p l e (rmd 6 0 0) s m ar below meth c H locs 0 0 QW (F0 m 104 ls [.int (J s0_104)]) := by
                  intro s0_104 H locs ls r_s0_104 iv104 hw hl
                  refine j_istore_n E 105 rfl [(2, .int (J s0_104)), (0, .ref o), (1, .int (J 8)), (3, .int (J l3_9)), (4, .int (J s0_51))] dX3_readConditions_104 rfl hl (by decide) rfl (fun ls hl => ?_)
                  refine j_iinc E 108 rfl [(3, .int (J (l3_9 + 1))), (2, .int (J s0_104)), (0, .ref o), (1, .int (J 8)), (4, .int (J s0_51))] dX3_readConditions_105 hl (kk := 3) rfl (by decide) rfl (fun ls hl => ?_)
                  refine j_goto E 9 dX3_readConditions_108 (by decide) ?_
                  exact ih9 s0_104 (l3_9 + 1) y80_16 y83_16 y84_16 y86_16 y300_16 H locs ls r_s0_104 (rr (by omega)) (by first | exact ⟨by omega, Ro_tr iv69.2 (Ro_tr u_.2.1 ro9_), by omega, by rw [show s0_104 = l2_9 by omega]; exact Co_and iv9.2.2.2 (by omega) u_.2.2⟩ | exact ⟨by omega, Ro_tr iv69.2 u_.2.1, by omega, by rw [show s0_104 = 1 by omega]; exact Co_or iv9.2.2.2 (by omega) u_.2.2⟩ | (exfalso; omega)) (by omega) hw (lv_sub hl [2, 3, 1, 0] rfl)
                refine j_iload_n E 91 rfl dX3_readConditions_90 rfl (lv_at hl 2 rfl) ?_
                refine j_if_ne E 94 99 rfl r_l2_9 dX3_readConditions_91 (by decide) (fun cc20_ => ?_) (fun cc20_ => ?_)
                · refine j_iconst E 100 rfl dX3_readConditions_99 ?_
                  refine j_goto E 104 dX3_readConditions_100 (by decide) ?_
                  exact L104_18 1  H locs ls (rr (by decide)) (by omega) hw (lv_sub hl [0, 1, 2, 3, 4] rfl)
                · refine j_iload E 96 rfl dX3_readConditions_94 (lv_at hl 4 rfl) ?_
                  refine j_if_ne E 99 103 rfl r_s0_51 dX3_readConditions_96 (by decide) (fun cc21_ => ?_) (fun cc21_ => ?_)
                  · exfalso; omega
                  refine j_iconst E 100 rfl dX3_readConditions_99 ?_
                  refine j_goto E 104 dX3_readConditions_100 (by decide) ?_
                  exact L104_18 1  H locs ls (rr (by decide)) (by omega) hw (lv_sub hl [0, 1, 2, 3, 4] rfl)
              · refine j_aload_n E 84 rfl dX3_readConditions_83 rfl (lv_at hl 0 rfl) ?_
                refine j_sipush E 87 rfl dX3_readConditions_84 (by decide) ?_
                refine kV_v E (c_X3_emit l D cy T (upV (upV (upV (upV (upV v_0 80 y80_16) 83 y83_16) 84 y84_16) 86 y86_16) 300 y300_16) o ((-305))  t_o (rr (by decide)) (show 0 ≤ (y86_16 o) ∧ (y86_16 o) ≤ 400 from by omega)) mt_X3_emit ml_X3_60 hK hw (cw_rc4 hK hw.1 t_o) hA ⟨Nat.le_of_ble_eq_true rfl, Nat.le_of_ble_eq_true rfl⟩ ⟨Nat.le_of_ble_eq_true rfl, Nat.le_of_ble_eq_true rfl⟩ (As := [.int (J ((-305)))]) (rest := []) rfl rfl hl.1 (Nat.le_of_ble_eq_true rfl) 90 rfl dX3_readConditions_87 (fun v_22 H locs hq22_ hw => ?_)
                obtain ⟨y86_22, y300_22, ev22_, hh22_⟩ := hq22_
                rw [ev22_] at hw; clear ev22_
                have hw : WK D cy T (upV (upV (upV (upV (upV v_0 80 y80_16) 83 y83_16) 84 y84_16) 86 y86_22) 300 y300_22) A0 s.heap H locs := cw_eq hw (by first | rfl | (funext j_; simp only [upV, reduceIte]; (repeat' split) <;> first | rfl | omega | (subst_vars; rfl)))
                have hh22_ : (0 ≤ (y86_22 o) ∧ (y86_22 o) ≤ 400) ∧ Ro_ (y300_16) (y300_22) (T 85 o) := hh22_
                have ro9_ := hh22_.2
                have L104_23 : ∀ (s0_104 : Int) (H : Heap) (locs : List Loc) (ls : Array Slot), inR s0_104 → (((l2_9 ≠ 0 ∨ s0_51 = 0) ∧ s0_104 = 1) ∨ (l2_9 = 0 ∧ s0_51 ≠ 0 ∧ s0_104 = 0)) → WK D cy T (upV (upV (upV (upV (upV v_0 80 y80_16) 83 y83_16) 84 y84_16) 86 y86_22) 300 y300_22) A0 s.heap H locs → lv_has ls 5 [(0, .ref o), (1, .int (J 8)), (2, .int (J l2_9)), (3, .int (J l3_9)), (4, .int (J s0_51))] → W p l e (rmd 6 0 0) s m ar below meth c H locs 0 0 QW (F0 m 104 ls [.int (J s0_104)]) := by
                  intro s0_104 H locs ls r_s0_104 iv104 hw hl
                  refine j_istore_n E 105 rfl [(2, .int (J s0_104)), (0, .ref o), (1, .int (J 8)), (3, .int (J l3_9)), (4, .int (J s0_51))] dX3_readConditions_104 rfl hl (by decide) rfl (fun ls hl => ?_)
                  refine j_iinc E 108 rfl [(3, .int (J (l3_9 + 1))), (2, .int (J s0_104)), (0, .ref o), (1, .int (J 8)), (4, .int (J s0_51))] dX3_readConditions_105 hl (kk := 3) rfl (by decide) rfl (fun ls hl => ?_)
                  refine j_goto E 9 dX3_readConditions_108 (by decide) ?_
                  exact ih9 s0_104 (l3_9 + 1) y80_16 y83_16 y84_16 y86_22 y300_22 H locs ls r_s0_104 (rr (by omega)) (by first | exact ⟨by omega, Ro_tr iv69.2 (Ro_tr u_.2.1 ro9_), by omega, by rw [show s0_104 = l2_9 by omega]; exact Co_and iv9.2.2.2 (by omega) u_.2.2⟩ | exact ⟨by omega, Ro_tr iv69.2 u_.2.1, by omega, by rw [show s0_104 = 1 by omega]; exact Co_or iv9.2.2.2 (by omega) u_.2.2⟩ | (exfalso; omega)) (by omega) hw (lv_sub hl [2, 3, 1, 0] rfl)
                refine j_iload_n E 91 rfl dX3_readConditions_90 rfl (lv_at hl 2 rfl) ?_
                refine j_if_ne E 94 99 rfl r_l2_9 dX3_readConditions_91 (by decide) (fun cc25_ => ?_) (fun cc25_ => ?_)
                · refine j_iconst E 100 rfl dX3_readConditions_99 ?_
                  refine j_goto E 104 dX3_readConditions_100 (by decide) ?_
                  exact L104_23 1  H locs ls (rr (by decide)) (by omega) hw (lv_sub hl [0, 1, 2, 3, 4] rfl)
                · refine j_iload E 96 rfl dX3_readConditions_94 (lv_at hl 4 rfl) ?_
                  refine j_if_ne E 99 103 rfl r_s0_51 dX3_readConditions_96 (by decide) (fun cc26_ => ?_) (fun cc26_ => ?_)
                  rotate_left; · exfalso; omega
                  refine j_iconst E 104 rfl dX3_readConditions_103 ?_
                  exact L104_23 0  H locs ls (rr (by decide)) (by omega) hw (lv_sub hl [0, 1, 2, 3, 4] rfl)
            refine j_iload E 55 rfl dX3_readConditions_53 (lv_at hl 0 rfl) ?_
            refine j_if_ne E 58 69 rfl r_s0_51 dX3_readConditions_55 (by decide) (fun cc27_ => ?_) (fun cc27_ => ?_)
            · exact L69_13  y86_c9 y300_c9 H locs ls  (by first | exact ⟨by omega, iv9.2.1⟩ | exact ⟨by omega, Ro_tr iv9.2.1 ro7_⟩) hw (lv_sub hl [1, 2, 3, 4, 0] rfl)
            · refine j_iload_n E 59 rfl dX3_readConditions_58 rfl (lv_at hl 3 rfl) ?_
              refine j_if_eq E 62 69 rfl r_l2_9 dX3_readConditions_59 (by decide) (fun cc28_ => ?_) (fun cc28_ => ?_)
              · exact L69_13  y86_c9 y300_c9 H locs ls  (by first | exact ⟨by omega, iv9.2.1⟩ | exact ⟨by omega, Ro_tr iv9.2.1 ro7_⟩) hw (lv_sub hl [1, 2, 3, 4, 0] rfl)
              · refine j_aload_n E 63 rfl dX3_readConditions_62 rfl (lv_at hl 1 rfl) ?_
                refine j_sipush E 66 rfl dX3_readConditions_63 (by decide) ?_
                refine kV_v E (c_X3_emit l D cy T (upV (upV (upV (upV (upV v_0 80 y80_c9) 83 y83_c9) 84 y84_c9) 86 y86_c9) 300 y300_c9) o ((-304))  t_o (rr (by decide)) (show 0 ≤ (y86_c9 o) ∧ (y86_c9 o) ≤ 400 from by omega)) mt_X3_emit ml_X3_60 hK hw (cw_rc4 hK hw.1 t_o) hA ⟨Nat.le_of_ble_eq_true rfl, Nat.le_of_ble_eq_true rfl⟩ ⟨Nat.le_of_ble_eq_true rfl, Nat.le_of_ble_eq_true rfl⟩ (As := [.int (J ((-304)))]) (rest := []) rfl rfl hl.1 (Nat.le_of_ble_eq_true rfl) 69 rfl dX3_readConditions_66 (fun v_29 H locs hq29_ hw => ?_)
                obtain ⟨y86_29, y300_29, ev29_, hh29_⟩ := hq29_
                rw [ev29_] at hw; clear ev29_
                have hw : WK D cy T (upV (upV (upV (upV (upV v_0 80 y80_c9) 83 y83_c9) 84 y84_c9) 86 y86_29) 300 y300_29) A0 s.heap H locs := cw_eq hw (by first | rfl | (funext j_; simp only [upV, reduceIte]; (repeat' split) <;> first | rfl | omega | (subst_vars; rfl)))
                have hh29_ : (0 ≤ (y86_29 o) ∧ (y86_29 o) ≤ 400) ∧ Ro_ (y300_c9) (y300_29) (T 85 o) := hh29_
                have ro7_ := hh29_.2
                exact L69_13  y86_29 y300_29 H locs ls  (by first | exact ⟨by omega, iv9.2.1⟩ | exact ⟨by omega, Ro_tr iv9.2.1 ro7_⟩) hw (lv_sub hl [1, 2, 3, 4, 0] rfl)
          refine j_aload_n E 37 rfl dX3_readConditions_36 rfl (lv_at hl 0 rfl) ?_
          refine g_84 E hK hw fl_X3_30 t_o (y84_c9 o) rfl 40 rfl dX3_readConditions_37 (fun _ => ?_)
          refine j_sipush E 43 rfl dX3_readConditions_40 (by decide) ?_
          refine j_icmp_ne E 46 50 rfl rr9_ (rr (by decide)) dX3_readConditions_43 (by decide) (fun cc30_ => ?_) (fun cc30_ => ?_)
          · exfalso; omega
          refine j_iconst E 47 rfl dX3_readConditions_46 ?_
          refine j_goto E 51 dX3_readConditions_47 (by decide) ?_
          exact L51_11 1  H locs ls (rr (by decide)) (by omega) hw (lv_sub hl [0, 1, 2, 3] rfl)
        · refine j_aload_n E 27 rfl dX3_readConditions_26 rfl (lv_at hl 0 rfl) ?_
          refine g_84 E hK hw fl_X3_30 t_o (y84_c9 o) rfl 30 rfl dX3_readConditions_27 (fun _ => ?_)
          refine j_sipush E 33 rfl dX3_readConditions_30 (by decide) ?_
          refine j_icmp_ne E 36 111 rfl rr9_ (rr (by decide)) dX3_readConditions_33 (by decide) (fun cc31_ => ?_) (fun cc31_ => ?_)
          · exact L111_4   H locs ls  (by first | omega | exact Co_i iv9.2.2.2 (by omega) (by omega)) hw (lv_sub hl [0, 1, 2, 3] rfl)
          · have L51_32 : ∀ (s0_51 : Int) (H : Heap) (locs : List Loc) (ls : Array Slot), inR s0_51 → ((s0_51 = 1 ∧ (y84_c9 o) = 305) ∨ (s0_51 = 0 ∧ (y84_c9 o) = 304)) → WK D cy T (upV (upV (upV (upV (upV v_0 80 y80_c9) 83 y83_c9) 84 y84_c9) 86 y86_c9) 300 y300_c9) A0 s.heap H locs → lv_has ls 5 [(0, .ref o), (1, .int (J 8)), (2, .int (J l2_9)), (3, .int (J l3_9))] → W p l e (rmd 6 0 0) s m ar below meth c H locs 0 0 QW (F0 m 51 ls [.int (J s0_51)]) := by
              intro s0_51 H locs ls r_s0_51 iv51 hw hl
              refine j_istore E 53 rfl [(4, .int (J s0_51)), (0, .ref o), (1, .int (J 8)), (2, .int (J l2_9)), (3, .int (J l3_9))] dX3_readConditions_51 hl (by decide) rfl (fun ls hl => ?_)
              have L69_34 : ∀ (y86_c69 : Nat → Int) (y300_c69 : Nat → Int) (H : Heap) (locs : List Loc) (ls : Array Slot), ((0 ≤ (y86_c69 o) ∧ (y86_c69 o) ≤ 400) ∧ Ro_ (v_0 300) (y300_c69) (T 85 o)) → WK D cy T (upV (upV (upV (upV (upV v_0 80 y80_c9) 83 y83_c9) 84 y84_c9) 86 y86_c69) 300 y300_c69) A0 s.heap H locs → lv_has ls 5 [(0, .ref o), (1, .int (J 8)), (2, .int (J l2_9)), (3, .int (J l3_9)), (4, .int (J s0_51))] → W p l e (rmd 6 0 0) s m ar below meth c H locs 0 0 QW (F0 m 69 ls []) := by
                intro y86_c69 y300_c69 H locs ls iv69 hw hl
                refine j_aload_n E 70 rfl dX3_readConditions_69 rfl (lv_at hl 0 rfl) ?_
                refine zV_v E (c_X3_step l D cy T (upV (upV (upV (upV (upV v_0 80 y80_c9) 83 y83_c9) 84 y84_c9) 86 y86_c69) 300 y300_c69) κ o K_ V_ hO t_o  (show RK_ (y300_c69) (T 120 (T 82 o)) (T 121 (T 82 o)) (((v_0 123) (T 82 o))) K_ V_ from RK_ro hp1 iv69.2 nk_ nv_) (show 0 ≤ (y83_c9 o) ∧ (y83_c9 o) < 400 from by have q_ := RK_lt hp1 (j := (y83_c9 o)) (by omega); omega)) mt_X3_step ml_X3_54 hK hZ hAc hw (cw_rc4 hK hw.1 t_o) hA ⟨Nat.le_of_ble_eq_true rfl, Nat.le_of_ble_eq_true rfl⟩ ⟨Nat.le_of_ble_eq_true rfl, Nat.le_of_ble_eq_true rfl⟩ (As := []) (rest := []) rfl rfl hl.1 (Nat.le_of_ble_eq_true rfl) 73 rfl dX3_readConditions_70 (fun v_36 H locs hq36_ hw => ?_)
                obtain ⟨y83_36, y84_36, ev36_, hh36_⟩ := hq36_
                rw [ev36_] at hw; clear ev36_
                have hw : WK D cy T (upV (upV (upV (upV (upV v_0 80 y80_c9) 83 y83_36) 84 y84_36) 86 y86_c69) 300 y300_c69) A0 s.heap H locs := cw_eq hw (by first | rfl | (funext j_; simp only [upV, reduceIte]; (repeat' split) <;> first | rfl | omega | (subst_vars; rfl)))
                have hh36_ : (y83_36 o) = (y83_c9 o) + 1 ∧ (y84_36 o) = K_ ((y83_c9 o) + 1) := hh36_
                have s_ := hh36_
                refine j_aload_n E 74 rfl dX3_readConditions_73 rfl (lv_at hl 0 rfl) ?_
                refine j_iload_n E 75 rfl dX3_readConditions_74 rfl (lv_at hl 1 rfl) ?_
                refine zV_v E (c_X3_readCondition_n8 l D cy T (upV (upV (upV (upV (upV v_0 80 y80_c9) 83 y83_36) 84 y84_36) 86 y86_c69) 300 y300_c69) κ o K_ V_ hO t_o  (show 0 ≤ (y86_c69 o) ∧ (y86_c69 o) ≤ 400 from by omega) (show RK_ (y300_c69) (T 120 (T 82 o)) (T 121 (T 82 o)) (((v_0 123) (T 82 o))) K_ V_ from RK_ro hp1 iv69.2 nk_ nv_) (show Cs_ K_ ((y83_36 o)) ((y84_36 o)) ((y80_c9 o)) from Cs_st (Co_cs hp2 iv9.2.2.2) (by omega) s_.1 s_.2 (by omega))) mt_X3_readCondition ml_X3_85 hK hZ hAc hw (cw_rc4 hK hw.1 t_o) hA ⟨Nat.le_of_ble_eq_true rfl, Nat.le_of_ble_eq_true rfl⟩ ⟨Nat.le_of_ble_eq_true rfl, Nat.le_of_ble_eq_true rfl⟩ (As := [.int (J 8)]) (rest := []) rfl rfl hl.1 (Nat.le_of_ble_eq_true rfl) 78 rfl dX3_readConditions_75 (fun v_37 H locs hq37_ hw => ?_)
                obtain ⟨y80_37, y83_37, y84_37, y86_37, y300_37, ev37_, hh37_⟩ := hq37_
                rw [ev37_] at hw; clear ev37_
                have hw : WK D cy T (upV (upV (upV (upV (upV v_0 80 y80_37) 83 y83_37) 84 y84_37) 86 y86_37) 300 y300_37) A0 s.heap H locs := cw_eq hw (by first | rfl | (funext j_; simp only [upV, reduceIte]; (repeat' split) <;> first | rfl | omega | (subst_vars; rfl)))
                have hh37_ : (0 ≤ (y86_37 o) ∧ (y86_37 o) ≤ 400) ∧ Ro_ (y300_c69) (y300_37) (T 85 o) ∧ Ck_ S3_ (8 : Int) TX_ K_ V_ ((y83_36 o)) ((y80_c9 o)) ((y83_37 o)) ((y84_37 o)) ((y80_37 o)) := hh37_
                have u_ := hh37_
                rw [s_.1] at u_
                refine j_iload E 80 rfl dX3_readConditions_78 (lv_at hl 4 rfl) ?_
                refine j_if_eq E 83 90 rfl r_s0_51 dX3_readConditions_80 (by decide) (fun cc38_ => ?_) (fun cc38_ => ?_)
                · have L104_39 : ∀ (s0_104 : Int) (H : Heap) (locs : List Loc) (ls : Array Slot), inR s0_104 → (((l2_9 ≠ 0 ∨ s0_51 = 0) ∧ s0_104 = 1) ∨ (l2_9 = 0 ∧ s0_51 ≠ 0 ∧ s0_104 = 0)) → WK D cy T (upV (upV (upV (upV (upV v_0 80 y80_37) 83 y83_37) 84 y84_37) 86 y86_37) 300 y300_37) A0 s.heap H locs → lv_has ls 5 [(0, .ref o), (1, .int (J 8)), (2, .int (J l2_9)), (3, .int (J l3_9)), (4, .int (J s0_51))] → W p l e (rmd 6 0 0) s m ar below meth c H locs 0 0 QW (F0 m 104 ls [.int (J s0_104)]) := by
                    intro s0_104 H locs ls r_s0_104 iv104 hw hl
                    refine j_istore_n E 105 rfl [(2, .int (J s0_104)), (0, .ref o), (1, .int (J 8)), (3, .int (J l3_9)), (4, .int (J s0_51))] dX3_readConditions_104 rfl hl (by decide) rfl (fun ls hl => ?_)
                    refine j_iinc E 108 rfl [(3, .int (J (l3_9 + 1))), (2, .int (J s0_104)), (0, .ref o), (1, .int (J 8)), (4, .int (J s0_51))] dX3_readConditions_105 hl (kk := 3) rfl (by decide) rfl (fun ls hl => ?_)
                    refine j_goto E 9 dX3_readConditions_108 (by decide) ?_
                    exact ih9 s0_104 (l3_9 + 1) y80_37 y83_37 y84_37 y86_37 y300_37 H locs ls r_s0_104 (rr (by omega)) (by first | exact ⟨by omega, Ro_tr iv69.2 (Ro_tr u_.2.1 ro9_), by omega, by rw [show s0_104 = l2_9 by omega]; exact Co_and iv9.2.2.2 (by omega) u_.2.2⟩ | exact ⟨by omega, Ro_tr iv69.2 u_.2.1, by omega, by rw [show s0_104 = 1 by omega]; exact Co_or iv9.2.2.2 (by omega) u_.2.2⟩ | (exfalso; omega)) (by omega) hw (lv_sub hl [2, 3, 1, 0] rfl)
                  refine j_iload_n E 91 rfl dX3_readConditions_90 rfl (lv_at hl 2 rfl) ?_
                  refine j_if_ne E 94 99 rfl r_l2_9 dX3_readConditions_91 (by decide) (fun cc41_ => ?_) (fun cc41_ => ?_)
                  · refine j_iconst E 100 rfl dX3_readConditions_99 ?_
                    refine j_goto E 104 dX3_readConditions_100 (by decide) ?_
                    exact L104_39 1  H locs ls (rr (by decide)) (by omega) hw (lv_sub hl [0, 1, 2, 3, 4] rfl)
                  · refine j_iload E 96 rfl dX3_readConditions_94 (lv_at hl 4 rfl) ?_
                    refine j_if_ne E 99 103 rfl r_s0_51 dX3_readConditions_96 (by decide) (fun cc42_ => ?_) (fun cc42_ => ?_)
                    · exfalso; omega
                    refine j_iconst E 100 rfl dX3_readConditions_99 ?_
                    refine j_goto E 104 dX3_readConditions_100 (by decide) ?_
                    exact L104_39 1  H locs ls (rr (by decide)) (by omega) hw (lv_sub hl [0, 1, 2, 3, 4] rfl)
                · refine j_aload_n E 84 rfl dX3_readConditions_83 rfl (lv_at hl 0 rfl) ?_
                  refine j_sipush E 87 rfl dX3_readConditions_84 (by decide) ?_
                  refine kV_v E (c_X3_emit l D cy T (upV (upV (upV (upV (upV v_0 80 y80_37) 83 y83_37) 84 y84_37) 86 y86_37) 300 y300_37) o ((-305))  t_o (rr (by decide)) (show 0 ≤ (y86_37 o) ∧ (y86_37 o) ≤ 400 from by omega)) mt_X3_emit ml_X3_60 hK hw (cw_rc4 hK hw.1 t_o) hA ⟨Nat.le_of_ble_eq_true rfl, Nat.le_of_ble_eq_true rfl⟩ ⟨Nat.le_of_ble_eq_true rfl, Nat.le_of_ble_eq_true rfl⟩ (As := [.int (J ((-305)))]) (rest := []) rfl rfl hl.1 (Nat.le_of_ble_eq_true rfl) 90 rfl dX3_readConditions_87 (fun v_43 H locs hq43_ hw => ?_)
                  obtain ⟨y86_43, y300_43, ev43_, hh43_⟩ := hq43_
                  rw [ev43_] at hw; clear ev43_
                  have hw : WK D cy T (upV (upV (upV (upV (upV v_0 80 y80_37) 83 y83_37) 84 y84_37) 86 y86_43) 300 y300_43) A0 s.heap H locs := cw_eq hw (by first | rfl | (funext j_; simp only [upV, reduceIte]; (repeat' split) <;> first | rfl | omega | (subst_vars; rfl)))
                  have hh43_ : (0 ≤ (y86_43 o) ∧ (y86_43 o) ≤ 400) ∧ Ro_ (y300_37) (y300_43) (T 85 o) := hh43_
                  have ro9_ := hh43_.2
                  have L104_44 : ∀ (s0_104 : Int) (H : Heap) (locs : List Loc) (ls : Array Slot), inR s0_104 → (((l2_9 ≠ 0 ∨ s0_51 = 0) ∧ s0_104 = 1) ∨ (l2_9 = 0 ∧ s0_51 ≠ 0 ∧ s0_104 = 0)) → WK D cy T (upV (upV (upV (upV (upV v_0 80 y80_37) 83 y83_37) 84 y84_37) 86 y86_43) 300 y300_43) A0 s.heap H locs → lv_has ls 5 [(0, .ref o), (1, .int (J 8)), (2, .int (J l2_9)), (3, .int (J l3_9)), (4, .int (J s0_51))] → W p l e (rmd 6 0 0) s m ar below meth c H locs 0 0 QW (F0 m 104 ls [.int (J s0_104)]) := by
                    intro s0_104 H locs ls r_s0_104 iv104 hw hl
                    refine j_istore_n E 105 rfl [(2, .int (J s0_104)), (0, .ref o), (1, .int (J 8)), (3, .int (J l3_9)), (4, .int (J s0_51))] dX3_readConditions_104 rfl hl (by decide) rfl (fun ls hl => ?_)
                    refine j_iinc E 108 rfl [(3, .int (J (l3_9 + 1))), (2, .int (J s0_104)), (0, .ref o), (1, .int (J 8)), (4, .int (J s0_51))] dX3_readConditions_105 hl (kk := 3) rfl (by decide) rfl (fun ls hl => ?_)
                    refine j_goto E 9 dX3_readConditions_108 (by decide) ?_
                    exact ih9 s0_104 (l3_9 + 1) y80_37 y83_37 y84_37 y86_43 y300_43 H locs ls r_s0_104 (rr (by omega)) (by first | exact ⟨by omega, Ro_tr iv69.2 (Ro_tr u_.2.1 ro9_), by omega, by rw [show s0_104 = l2_9 by omega]; exact Co_and iv9.2.2.2 (by omega) u_.2.2⟩ | exact ⟨by omega, Ro_tr iv69.2 u_.2.1, by omega, by rw [show s0_104 = 1 by omega]; exact Co_or iv9.2.2.2 (by omega) u_.2.2⟩ | (exfalso; omega)) (by omega) hw (lv_sub hl [2, 3, 1, 0] rfl)
                  refine j_iload_n E 91 rfl dX3_readConditions_90 rfl (lv_at hl 2 rfl) ?_
                  refine j_if_ne E 94 99 rfl r_l2_9 dX3_readConditions_91 (by decide) (fun cc46_ => ?_) (fun cc46_ => ?_)
                  · refine j_iconst E 100 rfl dX3_readConditions_99 ?_
                    refine j_goto E 104 dX3_readConditions_100 (by decide) ?_
                    exact L104_44 1  H locs ls (rr (by decide)) (by omega) hw (lv_sub hl [0, 1, 2, 3, 4] rfl)
                  · refine j_iload E 96 rfl dX3_readConditions_94 (lv_at hl 4 rfl) ?_
                    refine j_if_ne E 99 103 rfl r_s0_51 dX3_readConditions_96 (by decide) (fun cc47_ => ?_) (fun cc47_ => ?_)
                    rotate_left; · exfalso; omega
                    refine j_iconst E 104 rfl dX3_readConditions_103 ?_
                    exact L104_44 0  H locs ls (rr (by decide)) (by omega) hw (lv_sub hl [0, 1, 2, 3, 4] rfl)
              refine j_iload E 55 rfl dX3_readConditions_53 (lv_at hl 0 rfl) ?_
              refine j_if_ne E 58 69 rfl r_s0_51 dX3_readConditions_55 (by decide) (fun cc48_ => ?_) (fun cc48_ => ?_)
              · exact L69_34  y86_c9 y300_c9 H locs ls  (by first | exact ⟨by omega, iv9.2.1⟩ | exact ⟨by omega, Ro_tr iv9.2.1 ro7_⟩) hw (lv_sub hl [1, 2, 3, 4, 0] rfl)
              · refine j_iload_n E 59 rfl dX3_readConditions_58 rfl (lv_at hl 3 rfl) ?_
                refine j_if_eq E 62 69 rfl r_l2_9 dX3_readConditions_59 (by decide) (fun cc49_ => ?_) (fun cc49_ => ?_)
                · exact L69_34  y86_c9 y300_c9 H locs ls  (by first | exact ⟨by omega, iv9.2.1⟩ | exact ⟨by omega, Ro_tr iv9.2.1 ro7_⟩) hw (lv_sub hl [1, 2, 3, 4, 0] rfl)
                · refine j_aload_n E 63 rfl dX3_readConditions_62 rfl (lv_at hl 1 rfl) ?_
                  refine j_sipush E 66 rfl dX3_readConditions_63 (by decide) ?_
                  refine kV_v E (c_X3_emit l D cy T (upV (upV (upV (upV (upV v_0 80 y80_c9) 83 y83_c9) 84 y84_c9) 86 y86_c9) 300 y300_c9) o ((-304))  t_o (rr (by decide)) (show 0 ≤ (y86_c9 o) ∧ (y86_c9 o) ≤ 400 from by omega)) mt_X3_emit ml_X3_60 hK hw (cw_rc4 hK hw.1 t_o) hA ⟨Nat.le_of_ble_eq_true rfl, Nat.le_of_ble_eq_true rfl⟩ ⟨Nat.le_of_ble_eq_true rfl, Nat.le_of_ble_eq_true rfl⟩ (As := [.int (J ((-304)))]) (rest := []) rfl rfl hl.1 (Nat.le_of_ble_eq_true rfl) 69 rfl dX3_readConditions_66 (fun v_50 H locs hq50_ hw => ?_)
                  obtain ⟨y86_50, y300_50, ev50_, hh50_⟩ := hq50_
                  rw [ev50_] at hw; clear ev50_
                  have hw : WK D cy T (upV (upV (upV (upV (upV v_0 80 y80_c9) 83 y83_c9) 84 y84_c9) 86 y86_50) 300 y300_50) A0 s.heap H locs := cw_eq hw (by first | rfl | (funext j_; simp only [upV, reduceIte]; (repeat' split) <;> first | rfl | omega | (subst_vars; rfl)))
                  have hh50_ : (0 ≤ (y86_50 o) ∧ (y86_50 o) ≤ 400) ∧ Ro_ (y300_c9) (y300_50) (T 85 o) := hh50_
                  have ro7_ := hh50_.2
                  exact L69_34  y86_50 y300_50 H locs ls  (by first | exact ⟨by omega, iv9.2.1⟩ | exact ⟨by omega, Ro_tr iv9.2.1 ro7_⟩) hw (lv_sub hl [1, 2, 3, 4, 0] rfl)
            refine j_aload_n E 37 rfl dX3_readConditions_36 rfl (lv_at hl 0 rfl) ?_
            refine g_84 E hK hw fl_X3_30 t_o (y84_c9 o) rfl 40 rfl dX3_readConditions_37 (fun _ => ?_)
            refine j_sipush E 43 rfl dX3_readConditions_40 (by decide) ?_
            refine j_icmp_ne E 46 50 rfl rr9_ (rr (by decide)) dX3_readConditions_43 (by decide) (fun cc51_ => ?_) (fun cc51_ => ?_)
            rotate_left; · exfalso; omega
            refine j_iconst E 51 rfl dX3_readConditions_50 ?_
            exact L51_32 0  H locs ls (rr (by decide)) (by omega) hw (lv_sub hl [0, 1, 2, 3] rfl)
  exact L9_2 _ 0 0 y80_1 y83_1 y84_1 y86_1 y300_1 H locs ls (rr (by decide)) (rr (by decide)) (⟨by omega, u0_.2.1, by omega, Co_0 hp2.1.1 u0_.2.2⟩) (Nat.lt_succ_self _) hw (lv_sub hl [2, 3, 1, 0] rfl)
set_option maxHeartbeats 4000000 in
set_option maxRecDepth 100000 in
theorem c_X3_readCondition_n7 (l : Launch) (D : va_G) (cy : Nat → ClassId) (T : Nat → Nat → Nat) (v_0 : Nat → Nat → Int) (κ : Nat → Nat → Nat) (o : Nat) (K_ : Int → Int) (V_ : Int → Int) (hO : ∀ x, ow T x → κ 2 2 ≤ x) (t_o : T 0 o = 4) (hp0 : 0 ≤ (v_0 86 o) ∧ (v_0 86 o) ≤ 400) (hp1 : RK_ (v_0 300) (T 120 (T 82 o)) (T 121 (T 82 o)) ((v_0 123 (T 82 o))) K_ V_) (hp2 : Cs_ K_ ((v_0 83 o)) ((v_0 84 o)) ((v_0 80 o))) : KZ l D cy κ T yX3_readCondition cX3_readCondition 4 none 7 [.ref o, .int (J 7)] v_0 (KV (fun (v_2 : Nat → Nat → Int) => ∃ (y80_2 : Nat → Int) (y83_2 : Nat → Int) (y84_2 : Nat → Int) (y86_2 : Nat → Int) (y300_2 : Nat → Int) , v_2 = upV (upV (upV (upV (upV v_0 80 y80_2) 83 y83_2) 84 y84_2) 86 y86_2) 300 y300_2 ∧ ((0 ≤ (y86_2 o) ∧ (y86_2 o) ≤ 400) ∧ Ro_ (v_0 300) (y300_2) (T 85 o) ∧ Ck_ S3_ (7 : Int) TX_ K_ V_ ((v_0 83 o)) ((v_0 80 o)) ((y83_2 o)) ((y84_2 o)) ((y80_2 o))))) := by
  refine KZ.ofv (by decide) (Nat.le_of_ble_eq_true rfl) hO ?_
  intro p e s m below meth c ls ar QW A0 H locs E hK hZ hA hAc hw hl hret
  have hl : lv_has ls 4 [(0, .ref o), (1, .int (J 7))] := hl
  have hT : WT T := hw.1.2.1
  have cs_ := hp2
  unfold Cs_ at cs_
  have nk_ : T 120 (T 82 o) ≠ T 85 o := ro_ne (wo_120 hT (wt_82 hT t_o)) (wo_85 hT t_o) (by decide) (by decide) (by omega)
  have nv_ : T 121 (T 82 o) ≠ T 85 o := ro_ne (wo_121 hT (wt_82 hT t_o)) (wo_85 hT t_o) (by decide) (by decide) (by omega)
  refine j_aload_n E 1 rfl dX3_readCondition_0 rfl (lv_at hl 0 rfl) ?_
  refine g_84 E hK hw fl_X3_30 t_o (v_0 84 o) rfl 4 rfl dX3_readCondition_1 (fun rr1_ => ?_)
  refine j_bipush E 6 rfl dX3_readCondition_4 (by decide) ?_
  refine j_icmp_eq E 9 19 rfl rr1_ (rr (by decide)) dX3_readCondition_6 (by decide) (fun cc2_ => ?_) (fun cc2_ => ?_)
  · refine j_iconst E 20 rfl dX3_readCondition_19 ?_
    refine j_goto E 24 dX3_readCondition_20 (by decide) ?_
    refine j_istore_n E 25 rfl [(2, .int (J 1)), (0, .ref o), (1, .int (J 7))] dX3_readCondition_24 rfl hl (by decide) rfl (fun ls hl => ?_)
    refine j_iload_n E 26 rfl dX3_readCondition_25 rfl (lv_at hl 0 rfl) ?_
    refine j_if_eq E 29 43 rfl (rr (by decide)) dX3_readCondition_26 (by decide) (fun cc3_ => absurd cc3_ (by decide)) (fun _ => ?_)
    refine j_iload_n E 30 rfl dX3_readCondition_29 rfl (lv_at hl 2 rfl) ?_
    refine j_bipush E 32 rfl dX3_readCondition_30 (by decide) ?_
    refine j_icmp_lt E 35 43 rfl (rr (by decide)) (rr (by decide)) dX3_readCondition_32 (by decide) (fun _ => ?_) (fun cc4_ => absurd cc4_ (by decide))
    refine j_aload_n E 44 rfl dX3_readCondition_43 rfl (lv_at hl 1 rfl) ?_
    refine g_84 E hK hw fl_X3_30 t_o (v_0 84 o) rfl 47 rfl dX3_readCondition_44 (fun _ => ?_)
    refine j_bipush E 49 rfl dX3_readCondition_47 (by decide) ?_
    refine j_icmp_ne E 52 72 rfl rr1_ (rr (by decide)) dX3_readCondition_49 (by decide) (fun cc5_ => ?_) (fun cc5_ => ?_)
    · exfalso; omega
    refine j_aload_n E 53 rfl dX3_readCondition_52 rfl (lv_at hl 1 rfl) ?_
    refine zV_v E (c_X3_step l D cy T (v_0) κ o K_ V_ hO t_o  (show RK_ (v_0 300) (T 120 (T 82 o)) (T 121 (T 82 o)) (((v_0 123) (T 82 o))) K_ V_ from hp1) (show 0 ≤ ((v_0 83) o) ∧ ((v_0 83) o) < 400 from by have q_ := RK_lt hp1 (j := (v_0 83 o)) (by omega); omega)) mt_X3_step ml_X3_54 hK hZ hAc hw (cw_rc4 hK hw.1 t_o) hA ⟨Nat.le_of_ble_eq_true rfl, Nat.le_of_ble_eq_true rfl⟩ ⟨Nat.le_of_ble_eq_true rfl, Nat.le_of_ble_eq_true rfl⟩ (As := []) (rest := []) rfl rfl hl.1 (Nat.le_of_ble_eq_true rfl) 56 rfl dX3_readCondition_53 (fun v_6 H locs hq6_ hw => ?_)
    obtain ⟨y83_6, y84_6, ev6_, hh6_⟩ := hq6_
    rw [ev6_] at hw; clear ev6_
    have hw : WK D cy T (upV (upV v_0 83 y83_6) 84 y84_6) A0 s.heap H locs := cw_eq hw (by first | rfl | (funext j_; simp only [upV, reduceIte]; (repeat' split) <;> first | rfl | omega | (subst_vars; rfl)))
    have hh6_ : (y83_6 o) = ((v_0 83) o) + 1 ∧ (y84_6 o) = K_ (((v_0 83) o) + 1) := hh6_
    have s1_ := hh6_
    refine j_aload_n E 57 rfl dX3_readCondition_56 rfl (lv_at hl 1 rfl) ?_
    refine j_iload_n E 58 rfl dX3_readCondition_57 rfl (lv_at hl 2 rfl) ?_
    refine j_iconst E 59 rfl dX3_readCondition_58 ?_
    refine j_iadd E 60 rfl dX3_readCondition_59 ?_
    refine j_lit (z := 8) (by decide) ?_
    refine zV_v E (c_X3_readConditions_n8 l D cy T (upV (upV v_0 83 y83_6) 84 y84_6) κ o K_ V_ hO t_o  (show 0 ≤ ((v_0 86) o) ∧ ((v_0 86) o) ≤ 400 from by omega) (show RK_ (v_0 300) (T 120 (T 82 o)) (T 121 (T 82 o)) (((v_0 123) (T 82 o))) K_ V_ from hp1) (show Cs_ K_ ((y83_6 o)) ((y84_6 o)) (((v_0 80) o)) from Cs_st hp2 (by omega) s1_.1 s1_.2 (by omega))) mt_X3_readConditions ml_X3_57 hK hZ hAc hw (cw_rc4 hK hw.1 t_o) hA ⟨Nat.le_of_ble_eq_true rfl, Nat.le_of_ble_eq_true rfl⟩ ⟨Nat.le_of_ble_eq_true rfl, Nat.le_of_ble_eq_true rfl⟩ (As := [.int (J 8)]) (rest := []) rfl rfl hl.1 (Nat.le_of_ble_eq_true rfl) 63 rfl dX3_readCondition_60 (fun v_7 H locs hq7_ hw => ?_)
    obtain ⟨y80_7, y83_7, y84_7, y86_7, y300_7, ev7_, hh7_⟩ := hq7_
    rw [ev7_] at hw; clear ev7_
    have hw : WK D cy T (upV (upV (upV (upV (upV v_0 80 y80_7) 83 y83_7) 84 y84_7) 86 y86_7) 300 y300_7) A0 s.heap H locs := cw_eq hw (by first | rfl | (funext j_; simp only [upV, reduceIte]; (repeat' split) <;> first | rfl | omega | (subst_vars; rfl)))
    have hh7_ : (0 ≤ (y86_7 o) ∧ (y86_7 o) ≤ 400) ∧ Ro_ (v_0 300) (y300_7) (T 85 o) ∧ Ck_ S4_ (8 : Int) (NA_ K_) K_ V_ ((y83_6 o)) (((v_0 80) o)) ((y83_7 o)) ((y84_7 o)) ((y80_7 o)) := hh7_
    have b_ := hh7_
    rw [s1_.1] at b_
    refine j_aload_n E 64 rfl dX3_readCondition_63 rfl (lv_at hl 1 rfl) ?_
    refine j_bipush E 66 rfl dX3_readCondition_64 (by decide) ?_
    refine zV_v E (c_X3_take l D cy T (upV (upV (upV (upV (upV v_0 80 y80_7) 83 y83_7) 84 y84_7) 86 y86_7) 300 y300_7) κ o 41 K_ V_ hO t_o (rr (by decide)) (show RK_ (y300_7) (T 120 (T 82 o)) (T 121 (T 82 o)) (((v_0 123) (T 82 o))) K_ V_ from RK_ro hp1 b_.2.1 nk_ nv_) (show Cs_ K_ ((y83_7 o)) ((y84_7 o)) ((y80_7 o)) from Ck_cs (Cs_st (a1 := v_0 83 o + 1) (k1 := K_ (v_0 83 o + 1)) hp2 (by omega) rfl rfl (by omega)) b_.2.2) (show 3 < (41 : Int) from by omega)) mt_X3_take ml_X3_47 hK hZ hAc hw (cw_rc4 hK hw.1 t_o) hA ⟨Nat.le_of_ble_eq_true rfl, Nat.le_of_ble_eq_true rfl⟩ ⟨Nat.le_of_ble_eq_true rfl, Nat.le_of_ble_eq_true rfl⟩ (As := [.int (J 41)]) (rest := []) rfl rfl hl.1 (Nat.le_of_ble_eq_true rfl) 69 rfl dX3_readCondition_66 (fun v_8 H locs hq8_ hw => ?_)
    obtain ⟨y80_8, y83_8, y84_8, ev8_, hh8_⟩ := hq8_
    rw [ev8_] at hw; clear ev8_
    have hw : WK D cy T (upV (upV (upV (upV (upV v_0 80 y80_8) 83 y83_8) 84 y84_8) 86 y86_7) 300 y300_7) A0 s.heap H locs := cw_eq hw (by first | rfl | (funext j_; simp only [upV, reduceIte]; (repeat' split) <;> first | rfl | omega | (subst_vars; rfl)))
    have hh8_ : (((y84_7 o) = (41 : Int)) ∧ (y83_8 o) = (y83_7 o) + 1 ∧ (y84_8 o) = K_ ((y83_7 o) + 1) ∧ (y80_8 o) = (y80_7 o)) ∨ (¬ ((y84_7 o) = (41 : Int)) ∧ (y83_8 o) = (y83_7 o) ∧ (y84_8 o) = 2 ∧ (((y80_7 o) = 0 ∧ (y80_8 o) = 1) ∨ (¬ (y80_7 o) = 0 ∧ (y80_8 o) = (y80_7 o)))) := hh8_
    have t_ := hh8_
    refine j_goto E 126 dX3_readCondition_69 (by decide) ?_
    exact hret 126 (upV (upV (upV (upV (upV v_0 80 y80_8) 83 y83_8) 84 y84_8) 86 y86_7) 300 y300_7) _ _ ls hw ⟨y80_8, y83_8, y84_8, y86_7, y300_7, rfl, by first | exact ⟨by omega, Ro_rf, ck_deep rfl hp2 (by omega) rfl r_.1 r_.2⟩ | exact ⟨by omega, b_.2.1, ck_bra (by omega) hp2 (by omega) b_.2.2 t_ (fun q_ => (RK_lt hp1 (ck_k b_.2.2 q_)).2)⟩ | exact ⟨by omega, Ro_tr n_.2.1 ro_, ck_not (by omega) hp2 (by omega) n_.2.2⟩ | exact ⟨by omega, Ro_tr e1_.2.1 (Ro_tr e2_.2.1 ro_), ck_cmp hp2 (by omega) (by omega) e1_.2.2 t_ e2_.2.2⟩⟩ dX3_readCondition_126
  · refine j_aload_n E 10 rfl dX3_readCondition_9 rfl (lv_at hl 0 rfl) ?_
    refine g_84 E hK hw fl_X3_30 t_o (v_0 84 o) rfl 13 rfl dX3_readCondition_10 (fun _ => ?_)
    refine j_sipush E 16 rfl dX3_readCondition_13 (by decide) ?_
    refine j_icmp_ne E 19 23 rfl rr1_ (rr (by decide)) dX3_readCondition_16 (by decide) (fun cc9_ => ?_) (fun cc9_ => ?_)
    · refine j_iconst E 24 rfl dX3_readCondition_23 ?_
      refine j_istore_n E 25 rfl [(2, .int (J 0)), (0, .ref o), (1, .int (J 7))] dX3_readCondition_24 rfl hl (by decide) rfl (fun ls hl => ?_)
      refine j_iload_n E 26 rfl dX3_readCondition_25 rfl (lv_at hl 0 rfl) ?_
      refine j_if_eq E 29 43 rfl (rr (by decide)) dX3_readCondition_26 (by decide) (fun _ => ?_) (fun cc10_ => absurd cc10_ (by decide))
      refine j_aload_n E 44 rfl dX3_readCondition_43 rfl (lv_at hl 1 rfl) ?_
      refine g_84 E hK hw fl_X3_30 t_o (v_0 84 o) rfl 47 rfl dX3_readCondition_44 (fun _ => ?_)
      refine j_bipush E 49 rfl dX3_readCondition_47 (by decide) ?_
      refine j_icmp_ne E 52 72 rfl rr1_ (rr (by decide)) dX3_readCondition_49 (by decide) (fun cc11_ => ?_) (fun cc11_ => ?_)
      rotate_left; · exfalso; omega
      refine j_aload_n E 73 rfl dX3_readCondition_72 rfl (lv_at hl 1 rfl) ?_
      refine g_84 E hK hw fl_X3_30 t_o (v_0 84 o) rfl 76 rfl dX3_readCondition_73 (fun _ => ?_)
      refine j_sipush E 79 rfl dX3_readCondition_76 (by decide) ?_
      refine j_icmp_ne E 82 103 rfl rr1_ (rr (by decide)) dX3_readCondition_79 (by decide) (fun cc12_ => ?_) (fun cc12_ => ?_)
      rotate_left; · exfalso; omega
      refine j_aload_n E 104 rfl dX3_readCondition_103 rfl (lv_at hl 1 rfl) ?_
      refine zV_v E (c_X3_readSum l D cy T (v_0) κ o K_ V_ hO t_o  (show 0 ≤ ((v_0 86) o) ∧ ((v_0 86) o) ≤ 400 from by omega) (show RK_ (v_0 300) (T 120 (T 82 o)) (T 121 (T 82 o)) (((v_0 123) (T 82 o))) K_ V_ from hp1) (show Cs_ K_ (((v_0 83) o)) (((v_0 84) o)) (((v_0 80) o)) from hp2)) mt_X3_readSum ml_X3_51 hK hZ hAc hw (cw_rc4 hK hw.1 t_o) hA ⟨Nat.le_of_ble_eq_true rfl, Nat.le_of_ble_eq_true rfl⟩ ⟨Nat.le_of_ble_eq_true rfl, Nat.le_of_ble_eq_true rfl⟩ (As := []) (rest := []) rfl rfl hl.1 (Nat.le_of_ble_eq_true rfl) 107 rfl dX3_readCondition_104 (fun v_13 H locs hq13_ hw => ?_)
      obtain ⟨y80_13, y83_13, y84_13, y86_13, y300_13, ev13_, hh13_⟩ := hq13_
      rw [ev13_] at hw; clear ev13_
      have hw : WK D cy T (upV (upV (upV (upV (upV v_0 80 y80_13) 83 y83_13) 84 y84_13) 86 y86_13) 300 y300_13) A0 s.heap H locs := cw_eq hw (by first | rfl | (funext j_; simp only [upV, reduceIte]; (repeat' split) <;> first | rfl | omega | (subst_vars; rfl)))
      have hh13_ : (0 ≤ (y86_13 o) ∧ (y86_13 o) ≤ 400) ∧ Ro_ (v_0 300) (y300_13) (T 85 o) ∧ Cp_ S3_ (N4_ K_) K_ V_ (((v_0 83) o)) (((v_0 80) o)) ((y83_13 o)) ((y84_13 o)) ((y80_13 o)) := hh13_
      have e1_ := hh13_
      refine j_aload_n E 108 rfl dX3_readCondition_107 rfl (lv_at hl 1 rfl) ?_
      refine g_84 E hK hw fl_X3_30 t_o (y84_13 o) rfl 111 rfl dX3_readCondition_108 (fun rr14_ => ?_)
      refine j_istore_n E 112 rfl [(3, .int (J (y84_13 o))), (2, .int (J 0)), (0, .ref o), (1, .int (J 7))] dX3_readCondition_111 rfl hl (by decide) rfl (fun ls hl => ?_)
      refine j_aload_n E 113 rfl dX3_readCondition_112 rfl (lv_at hl 2 rfl) ?_
      refine zV_v E (c_X3_takeComparison l D cy T (upV (upV (upV (upV (upV v_0 80 y80_13) 83 y83_13) 84 y84_13) 86 y86_13) 300 y300_13) κ o K_ V_ hO t_o  (show RK_ (y300_13) (T 120 (T 82 o)) (T 121 (T 82 o)) (((v_0 123) (T 82 o))) K_ V_ from RK_ro hp1 e1_.2.1 nk_ nv_) (show Cs_ K_ ((y83_13 o)) ((y84_13 o)) ((y80_13 o)) from Cp_cs hp2 e1_.2.2)) mt_X3_takeComparison ml_X3_88 hK hZ hAc hw (cw_rc4 hK hw.1 t_o) hA ⟨Nat.le_of_ble_eq_true rfl, Nat.le_of_ble_eq_true rfl⟩ ⟨Nat.le_of_ble_eq_true rfl, Nat.le_of_ble_eq_true rfl⟩ (As := []) (rest := []) rfl rfl hl.1 (Nat.le_of_ble_eq_true rfl) 116 rfl dX3_readCondition_113 (fun v_15 H locs hq15_ hw => ?_)
      obtain ⟨y80_15, y83_15, y84_15, ev15_, hh15_⟩ := hq15_
      rw [ev15_] at hw; clear ev15_
      have hw : WK D cy T (upV (upV (upV (upV (upV v_0 80 y80_15) 83 y83_15) 84 y84_15) 86 y86_13) 300 y300_13) A0 s.heap H locs := cw_eq hw (by first | rfl | (funext j_; simp only [upV, reduceIte]; (repeat' split) <;> first | rfl | omega | (subst_vars; rfl)))
      have hh15_ : (((y84_13 o) = 60 ∨ (y84_13 o) = 61 ∨ (y84_13 o) = 62) ∧ (y83_15 o) = (y83_13 o) + 1 ∧ (y84_15 o) = K_ ((y83_13 o) + 1) ∧ (y80_15 o) = (y80_13 o)) ∨ (¬ ((y84_13 o) = 60 ∨ (y84_13 o) = 61 ∨ (y84_13 o) = 62) ∧ (y83_15 o) = (y83_13 o) ∧ (y84_15 o) = 2 ∧ (((y80_13 o) = 0 ∧ (y80_15 o) = 1) ∨ (¬ (y80_13 o) = 0 ∧ (y80_15 o) = (y80_13 o)))) := hh15_
      have t_ := hh15_
      refine j_aload_n E 117 rfl dX3_readCondition_116 rfl (lv_at hl 2 rfl) ?_
      refine zV_v E (c_X3_readSum l D cy T (upV (upV (upV (upV (upV v_0 80 y80_15) 83 y83_15) 84 y84_15) 86 y86_13) 300 y300_13) κ o K_ V_ hO t_o  (show 0 ≤ (y86_13 o) ∧ (y86_13 o) ≤ 400 from by omega) (show RK_ (y300_13) (T 120 (T 82 o)) (T 121 (T 82 o)) (((v_0 123) (T 82 o))) K_ V_ from RK_ro hp1 e1_.2.1 nk_ nv_) (show Cs_ K_ ((y83_15 o)) ((y84_15 o)) ((y80_15 o)) from Ct_cs (Cp_cs hp2 e1_.2.2) t_ (fun q_ => (RK_lt hp1 q_).2))) mt_X3_readSum ml_X3_51 hK hZ hAc hw (cw_rc4 hK hw.1 t_o) hA ⟨Nat.le_of_ble_eq_true rfl, Nat.le_of_ble_eq_true rfl⟩ ⟨Nat.le_of_ble_eq_true rfl, Nat.le_of_ble_eq_true rfl⟩ (As := []) (rest := []) rfl rfl hl.1 (Nat.le_of_ble_eq_true rfl) 120 rfl dX3_readCondition_117 (fun v_16 H locs hq16_ hw => ?_)
      obtain ⟨y80_16, y83_16, y84_16, y86_16, y300_16, ev16_, hh16_⟩ := hq16_
      rw [ev16_] at hw; clear ev16_
      have hw : WK D cy T (upV (upV (upV (upV (upV v_0 80 y80_16) 83 y83_16) 84 y84_16) 86 y86_16) 300 y300_16) A0 s.heap H locs := cw_eq hw (by first | rfl | (funext j_; simp only [upV, reduceIte]; (repeat' split) <;> first | rfl | omega | (subst_vars; rfl)))
      have hh16_ : (0 ≤ (y86_16 o) ∧ (y86_16 o) ≤ 400) ∧ Ro_ (y300_13) (y300_16) (T 85 o) ∧ Cp_ S3_ (N4_ K_) K_ V_ ((y83_15 o)) ((y80_15 o)) ((y83_16 o)) ((y84_16 o)) ((y80_16 o)) := hh16_
      have e2_ := hh16_
      refine j_aload_n E 121 rfl dX3_readCondition_120 rfl (lv_at hl 2 rfl) ?_
      refine j_iload_n E 122 rfl dX3_readCondition_121 rfl (lv_at hl 0 rfl) ?_
      refine j_ineg E 123 rfl dX3_readCondition_122 ?_
      refine j_norm (fun zz17_ rr17_ ee17_ => ?_)
      refine kV_v E (c_X3_emit l D cy T (upV (upV (upV (upV (upV v_0 80 y80_16) 83 y83_16) 84 y84_16) 86 y86_16) 300 y300_16) o zz17_  t_o rr17_ (show 0 ≤ (y86_16 o) ∧ (y86_16 o) ≤ 400 from by omega)) mt_X3_emit ml_X3_60 hK hw (cw_rc4 hK hw.1 t_o) hA ⟨Nat.le_of_ble_eq_true rfl, Nat.le_of_ble_eq_true rfl⟩ ⟨Nat.le_of_ble_eq_true rfl, Nat.le_of_ble_eq_true rfl⟩ (As := [.int (J zz17_)]) (rest := []) rfl rfl hl.1 (Nat.le_of_ble_eq_true rfl) 126 rfl dX3_readCondition_123 (fun v_18 H locs hq18_ hw => ?_)
      obtain ⟨y86_18, y300_18, ev18_, hh18_⟩ := hq18_
      rw [ev18_] at hw; clear ev18_
      have hw : WK D cy T (upV (upV (upV (upV (upV v_0 80 y80_16) 83 y83_16) 84 y84_16) 86 y86_18) 300 y300_18) A0 s.heap H locs := cw_eq hw (by first | rfl | (funext j_; simp only [upV, reduceIte]; (repeat' split) <;> first | rfl | omega | (subst_vars; rfl)))
      have hh18_ : (0 ≤ (y86_18 o) ∧ (y86_18 o) ≤ 400) ∧ Ro_ (y300_16) (y300_18) (T 85 o) := hh18_
      have ro_ := hh18_.2
      exact hret 126 (upV (upV (upV (upV (upV v_0 80 y80_16) 83 y83_16) 84 y84_16) 86 y86_18) 300 y300_18) _ _ ls hw ⟨y80_16, y83_16, y84_16, y86_18, y300_18, rfl, by first | exact ⟨by omega, Ro_rf, ck_deep rfl hp2 (by omega) rfl r_.1 r_.2⟩ | exact ⟨by omega, b_.2.1, ck_bra (by omega) hp2 (by omega) b_.2.2 t_ (fun q_ => (RK_lt hp1 (ck_k b_.2.2 q_)).2)⟩ | exact ⟨by omega, Ro_tr n_.2.1 ro_, ck_not (by omega) hp2 (by omega) n_.2.2⟩ | exact ⟨by omega, Ro_tr e1_.2.1 (Ro_tr e2_.2.1 ro_), ck_cmp hp2 (by omega) (by omega) e1_.2.2 t_ e2_.2.2⟩⟩ dX3_readCondition_126
    · refine j_iconst E 20 rfl dX3_readCondition_19 ?_
      refine j_goto E 24 dX3_readCondition_20 (by decide) ?_
      refine j_istore_n E 25 rfl [(2, .int (J 1)), (0, .ref o), (1, .int (J 7))] dX3_readCondition_24 rfl hl (by decide) rfl (fun ls hl => ?_)
      refine j_iload_n E 26 rfl dX3_readCondition_25 rfl (lv_at hl 0 rfl) ?_
      refine j_if_eq E 29 43 rfl (rr (by decide)) dX3_readCondition_26 (by decide) (fun cc19_ => absurd cc19_ (by decide)) (fun _ => ?_)
      refine j_iload_n E 30 rfl dX3_readCondition_29 rfl (lv_at hl 2 rfl) ?_
      refine j_bipush E 32 rfl dX3_readCondition_30 (by decide) ?_
      refine j_icmp_lt E 35 43 rfl (rr (by decide)) (rr (by decide)) dX3_readCondition_32 (by decide) (fun _ => ?_) (fun cc20_ => absurd cc20_ (by decide))
      refine j_aload_n E 44 rfl dX3_readCondition_43 rfl (lv_at hl 1 rfl) ?_
      refine g_84 E hK hw fl_X3_30 t_o (v_0 84 o) rfl 47 rfl dX3_readCondition_44 (fun _ => ?_)
      refine j_bipush E 49 rfl dX3_readCondition_47 (by decide) ?_
      refine j_icmp_ne E 52 72 rfl rr1_ (rr (by decide)) dX3_readCondition_49 (by decide) (fun cc21_ => ?_) (fun cc21_ => ?_)
      rotate_left; · exfalso; omega
      refine j_aload_n E 73 rfl dX3_readCondition_72 rfl (lv_at hl 1 rfl) ?_
      refine g_84 E hK hw fl_X3_30 t_o (v_0 84 o) rfl 76 rfl dX3_readCondition_73 (fun _ => ?_)
      refine j_sipush E 79 rfl dX3_readCondition_76 (by decide) ?_
      refine j_icmp_ne E 82 103 rfl rr1_ (rr (by decide)) dX3_readCondition_79 (by decide) (fun cc22_ => ?_) (fun cc22_ => ?_)
      · exfalso; omega
      refine j_aload_n E 83 rfl dX3_readCondition_82 rfl (lv_at hl 1 rfl) ?_
      refine zV_v E (c_X3_step l D cy T (v_0) κ o K_ V_ hO t_o  (show RK_ (v_0 300) (T 120 (T 82 o)) (T 121 (T 82 o)) (((v_0 123) (T 82 o))) K_ V_ from hp1) (show 0 ≤ ((v_0 83) o) ∧ ((v_0 83) o) < 400 from by have q_ := RK_lt hp1 (j := (v_0 83 o)) (by omega); omega)) mt_X3_step ml_X3_54 hK hZ hAc hw (cw_rc4 hK hw.1 t_o) hA ⟨Nat.le_of_ble_eq_true rfl, Nat.le_of_ble_eq_true rfl⟩ ⟨Nat.le_of_ble_eq_true rfl, Nat.le_of_ble_eq_true rfl⟩ (As := []) (rest := []) rfl rfl hl.1 (Nat.le_of_ble_eq_true rfl) 86 rfl dX3_readCondition_83 (fun v_23 H locs hq23_ hw => ?_)
      obtain ⟨y83_23, y84_23, ev23_, hh23_⟩ := hq23_
      rw [ev23_] at hw; clear ev23_
      have hw : WK D cy T (upV (upV v_0 83 y83_23) 84 y84_23) A0 s.heap H locs := cw_eq hw (by first | rfl | (funext j_; simp only [upV, reduceIte]; (repeat' split) <;> first | rfl | omega | (subst_vars; rfl)))
      have hh23_ : (y83_23 o) = ((v_0 83) o) + 1 ∧ (y84_23 o) = K_ (((v_0 83) o) + 1) := hh23_
      have s2_ := hh23_
      refine j_aload_n E 87 rfl dX3_readCondition_86 rfl (lv_at hl 1 rfl) ?_
      refine j_iload_n E 88 rfl dX3_readCondition_87 rfl (lv_at hl 2 rfl) ?_
      refine j_iconst E 89 rfl dX3_readCondition_88 ?_
      refine j_iadd E 90 rfl dX3_readCondition_89 ?_
      refine j_lit (z := 8) (by decide) ?_
      refine zV_v E (c_X3_readCondition_n8 l D cy T (upV (upV v_0 83 y83_23) 84 y84_23) κ o K_ V_ hO t_o  (show 0 ≤ ((v_0 86) o) ∧ ((v_0 86) o) ≤ 400 from by omega) (show RK_ (v_0 300) (T 120 (T 82 o)) (T 121 (T 82 o)) (((v_0 123) (T 82 o))) K_ V_ from hp1) (show Cs_ K_ ((y83_23 o)) ((y84_23 o)) (((v_0 80) o)) from Cs_st hp2 (by omega) s2_.1 s2_.2 (by omega))) mt_X3_readCondition ml_X3_85 hK hZ hAc hw (cw_rc4 hK hw.1 t_o) hA ⟨Nat.le_of_ble_eq_true rfl, Nat.le_of_ble_eq_true rfl⟩ ⟨Nat.le_of_ble_eq_true rfl, Nat.le_of_ble_eq_true rfl⟩ (As := [.int (J 8)]) (rest := []) rfl rfl hl.1 (Nat.le_of_ble_eq_true rfl) 93 rfl dX3_readCondition_90 (fun v_24 H locs hq24_ hw => ?_)
      obtain ⟨y80_24, y83_24, y84_24, y86_24, y300_24, ev24_, hh24_⟩ := hq24_
      rw [ev24_] at hw; clear ev24_
      have hw : WK D cy T (upV (upV (upV (upV (upV v_0 80 y80_24) 83 y83_24) 84 y84_24) 86 y86_24) 300 y300_24) A0 s.heap H locs := cw_eq hw (by first | rfl | (funext j_; simp only [upV, reduceIte]; (repeat' split) <;> first | rfl | omega | (subst_vars; rfl)))
      have hh24_ : (0 ≤ (y86_24 o) ∧ (y86_24 o) ≤ 400) ∧ Ro_ (v_0 300) (y300_24) (T 85 o) ∧ Ck_ S3_ (8 : Int) TX_ K_ V_ ((y83_23 o)) (((v_0 80) o)) ((y83_24 o)) ((y84_24 o)) ((y80_24 o)) := hh24_
      have n_ := hh24_
      rw [s2_.1] at n_
      refine j_aload_n E 94 rfl dX3_readCondition_93 rfl (lv_at hl 1 rfl) ?_
      refine j_sipush E 97 rfl dX3_readCondition_94 (by decide) ?_
      refine kV_v E (c_X3_emit l D cy T (upV (upV (upV (upV (upV v_0 80 y80_24) 83 y83_24) 84 y84_24) 86 y86_24) 300 y300_24) o ((-306))  t_o (rr (by decide)) (show 0 ≤ (y86_24 o) ∧ (y86_24 o) ≤ 400 from by omega)) mt_X3_emit ml_X3_60 hK hw (cw_rc4 hK hw.1 t_o) hA ⟨Nat.le_of_ble_eq_true rfl, Nat.le_of_ble_eq_true rfl⟩ ⟨Nat.le_of_ble_eq_true rfl, Nat.le_of_ble_eq_true rfl⟩ (As := [.int (J ((-306)))]) (rest := []) rfl rfl hl.1 (Nat.le_of_ble_eq_true rfl) 100 rfl dX3_readCondition_97 (fun v_25 H locs hq25_ hw => ?_)
      obtain ⟨y86_25, y300_25, ev25_, hh25_⟩ := hq25_
      rw [ev25_] at hw; clear ev25_
      have hw : WK D cy T (upV (upV (upV (upV (upV v_0 80 y80_24) 83 y83_24) 84 y84_24) 86 y86_25) 300 y300_25) A0 s.heap H locs := cw_eq hw (by first | rfl | (funext j_; simp only [upV, reduceIte]; (repeat' split) <;> first | rfl | omega | (subst_vars; rfl)))
      have hh25_ : (0 ≤ (y86_25 o) ∧ (y86_25 o) ≤ 400) ∧ Ro_ (y300_24) (y300_25) (T 85 o) := hh25_
      have ro_ := hh25_.2
      refine j_goto E 126 dX3_readCondition_100 (by decide) ?_
      exact hret 126 (upV (upV (upV (upV (upV v_0 80 y80_24) 83 y83_24) 84 y84_24) 86 y86_25) 300 y300_25) _ _ ls hw ⟨y80_24, y83_24, y84_24, y86_25, y300_25, rfl, by first | exact ⟨by omega, Ro_rf, ck_deep rfl hp2 (by omega) rfl r_.1 r_.2⟩ | exact ⟨by omega, b_.2.1, ck_bra (by omega) hp2 (by omega) b_.2.2 t_ (fun q_ => (RK_lt hp1 (ck_k b_.2.2 q_)).2)⟩ | exact ⟨by omega, Ro_tr n_.2.1 ro_, ck_not (by omega) hp2 (by omega) n_.2.2⟩ | exact ⟨by omega, Ro_tr e1_.2.1 (Ro_tr e2_.2.1 ro_), ck_cmp hp2 (by omega) (by omega) e1_.2.2 t_ e2_.2.2⟩⟩ dX3_readCondition_126
set_option maxHeartbeats 4000000 in
set_option maxRecDepth 100000 in
theorem c_X3_readConditions_n7 (l : Launch) (D : va_G) (cy : Nat → ClassId) (T : Nat → Nat → Nat) (v_0 : Nat → Nat → Int) (κ : Nat → Nat → Nat) (o : Nat) (K_ : Int → Int) (V_ : Int → Int) (hO : ∀ x, ow T x → κ 2 2 ≤ x) (t_o : T 0 o = 4) (hp0 : 0 ≤ (v_0 86 o) ∧ (v_0 86 o) ≤ 400) (hp1 : RK_ (v_0 300) (T 120 (T 82 o)) (T 121 (T 82 o)) ((v_0 123 (T 82 o))) K_ V_) (hp2 : Cs_ K_ ((v_0 83 o)) ((v_0 84 o)) ((v_0 80 o))) : KZ l D cy κ T yX3_readConditions cX3_readConditions 5 none 8 [.ref o, .int (J 7)] v_0 (KV (fun (v_2 : Nat → Nat → Int) => ∃ (y80_2 : Nat → Int) (y83_2 : Nat → Int) (y84_2 : Nat → Int) (y86_2 : Nat → Int) (y300_2 : Nat → Int) , v_2 = upV (upV (upV (upV (upV v_0 80 y80_2) 83 y83_2) 84 y84_2) 86 y86_2) 300 y300_2 ∧ ((0 ≤ (y86_2 o) ∧ (y86_2 o) ≤ 400) ∧ Ro_ (v_0 300) (y300_2) (T 85 o) ∧ Ck_ S4_ (7 : Int) (NA_ K_) K_ V_ ((v_0 83 o)) ((v_0 80 o)) ((y83_2 o)) ((y84_2 o)) ((y80_2 o))))) := by
  refine KZ.ofv (by decide) (Nat.le_of_ble_eq_true rfl) hO ?_
  intro p e s m below meth c ls ar QW A0 H locs E hK hZ hA hAc hw hl hret
  have hl : lv_has ls 5 [(0, .ref o), (1, .int (J 7))] := hl
  have hT : WT T := hw.1.2.1
  have nk_ : T 120 (T 82 o) ≠ T 85 o := ro_ne (wo_120 hT (wt_82 hT t_o)) (wo_85 hT t_o) (by decide) (by decide) (by omega)
  have nv_ : T 121 (T 82 o) ≠ T 85 o := ro_ne (wo_121 hT (wt_82 hT t_o)) (wo_85 hT t_o) (by decide) (by decide) (by omega)
  have c0_ := hp2.1
  refine j_aload_n E 1 rfl dX3_readConditions_0 rfl (lv_at hl 0 rfl) ?_
  refine j_iload_n E 2 rfl dX3_readConditions_1 rfl (lv_at hl 1 rfl) ?_
  refine zV_v E (c_X3_readCondition_n7 l D cy T (v_0) κ o K_ V_ hO t_o  (show 0 ≤ ((v_0 86) o) ∧ ((v_0 86) o) ≤ 400 from by omega) (show RK_ (v_0 300) (T 120 (T 82 o)) (T 121 (T 82 o)) (((v_0 123) (T 82 o))) K_ V_ from hp1) (show Cs_ K_ (((v_0 83) o)) (((v_0 84) o)) (((v_0 80) o)) from hp2)) mt_X3_readCondition ml_X3_85 hK hZ hAc hw (cw_rc4 hK hw.1 t_o) hA ⟨Nat.le_of_ble_eq_true rfl, Nat.le_of_ble_eq_true rfl⟩ ⟨Nat.le_of_ble_eq_true rfl, Nat.le_of_ble_eq_true rfl⟩ (As := [.int (J 7)]) (rest := []) rfl rfl hl.1 (Nat.le_of_ble_eq_true rfl) 5 rfl dX3_readConditions_2 (fun v_1 H locs hq1_ hw => ?_)
  obtain ⟨y80_1, y83_1, y84_1, y86_1, y300_1, ev1_, hh1_⟩ := hq1_
  rw [ev1_] at hw; clear ev1_
  have hw : WK D cy T (upV (upV (upV (upV (upV v_0 80 y80_1) 83 y83_1) 84 y84_1) 86 y86_1) 300 y300_1) A0 s.heap H locs := cw_eq hw (by first | rfl | (funext j_; simp only [upV, reduceIte]; (repeat' split) <;> first | rfl | omega | (subst_vars; rfl)))
  have hh1_ : (0 ≤ (y86_1 o) ∧ (y86_1 o) ≤ 400) ∧ Ro_ (v_0 300) (y300_1) (T 85 o) ∧ Ck_ S3_ (7 : Int) TX_ K_ V_ (((v_0 83) o)) (((v_0 80) o)) ((y83_1 o)) ((y84_1 o)) ((y80_1 o)) := hh1_
  have u0_ := hh1_
  refine j_iconst E 6 rfl dX3_readConditions_5 ?_
  refine j_istore_n E 7 rfl [(2, .int (J 0)), (0, .ref o), (1, .int (J 7))] dX3_readConditions_6 rfl hl (by decide) rfl (fun ls hl => ?_)
  refine j_iconst E 8 rfl dX3_readConditions_7 ?_
  refine j_istore_n E 9 rfl [(3, .int (J 0)), (2, .int (J 0)), (0, .ref o), (1, .int (J 7))] dX3_readConditions_8 rfl hl (by decide) rfl (fun ls hl => ?_)
  have L9_2 : ∀ (k9 : Nat) (l2_9 l3_9 : Int) (y80_c9 : Nat → Int) (y83_c9 : Nat → Int) (y84_c9 : Nat → Int) (y86_c9 : Nat → Int) (y300_c9 : Nat → Int) (H : Heap) (locs : List Loc) (ls : Array Slot), inR l2_9 → inR l3_9 → ((0 ≤ (y86_c9 o) ∧ (y86_c9 o) ≤ 400) ∧ (Ro_ (v_0 300) (y300_c9) (T 85 o)) ∧ 0 ≤ l3_9 ∧ Co_ (7 : Int) {K_} {V_} (v_0 83 o) (v_0 80 o) l2_9 l3_9 ((y83_c9 o)) ((y84_c9 o)) ((y80_c9 o))) → (400 - l3_9).toNat < k9 → WK D cy T (upV (upV (upV (upV (upV v_0 80 y80_c9) 83 y83_c9) 84 y84_c9) 86 y86_c9) 300 y300_c9) A0 s.heap H locs → lv_has ls 5 [(0, .ref o), (1, .int (J 7)), (2, .int (J l2_9)), (3, .int (J l3_9))] → W p l e (rmd 8 0 0) s m ar below meth c H locs 0 0 QW (F0 m 9 ls []) := by
    intro k9
    induction k9 with
    | zero =>
      intro l2_9 l3_9 y80_c9 y83_c9 y84_c9 y86_c9 y300_c9 H locs ls r_l2_9 r_l3_9 iv9 ms9 hw hl
      exact absurd ms9 (Nat.not_lt_zero _)
    | succ k9 ih9 =>
      intro l2_9 l3_9 y80_c9 y83_c9 y84_c9 y86_c9 y300_c9 H locs ls r_l2_9 r_l3_9 iv9 ms9 hw hl
      have cs1_ := Co_cs hp2 iv9.2.2.2
      unfold Cs_ at cs1_
      have L111_4 : ∀ (H : Heap) (locs : List Loc) (ls : Array Slot), (¬ ((y84_c9 o) = 305 ∨ (y84_c9 o) = 304)) → WK D cy T (upV (upV (upV (upV (upV v_0 80 y80_c9) 83 y83_c9) 84 y84_c9) 86 y86_c9) 300 y300_c9) A0 s.heap H locs → lv_has ls 5 [(0, .ref o), (1, .int (J 7)), (2, .int (J l2_9)), (3, .int (J l3_9))] → W p l e (rmd 8 0 0) s m ar below meth c H locs 0 0 QW (F0 m 111 ls []) := by
        intro H locs ls iv111 hw hl
        refine j_iload_n E 112 rfl dX3_readConditions_111 rfl (lv_at hl 2 rfl) ?_
        refine j_if_eq E 115 122 rfl r_l2_9 dX3_readConditions_112 (by decide) (fun cc6_ => ?_) (fun cc6_ => ?_)
        · exact hret 122 (upV (upV (upV (upV (upV v_0 80 y80_c9) 83 y83_c9) 84 y84_c9) 86 y86_c9) 300 y300_c9) _ _ ls hw ⟨y80_c9, y83_c9, y84_c9, y86_c9, y300_c9, rfl, by first | exact ⟨by omega, Ro_tr iv9.2.1 roe_, Co_end iv9.2.2.2 iv111 (by omega)⟩ | exact ⟨by omega, iv9.2.1, Co_end iv9.2.2.2 iv111 (by omega)⟩⟩ dX3_readConditions_122
        · refine j_aload_n E 116 rfl dX3_readConditions_115 rfl (lv_at hl 0 rfl) ?_
          refine j_sipush E 119 rfl dX3_readConditions_116 (by decide) ?_
          refine kV_v E (c_X3_emit l D cy T (upV (upV (upV (upV (upV v_0 80 y80_c9) 83 y83_c9) 84 y84_c9) 86 y86_c9) 300 y300_c9) o ((-304))  t_o (rr (by decide)) (show 0 ≤ (y86_c9 o) ∧ (y86_c9 o) ≤ 400 from by omega)) mt_X3_emit ml_X3_60 hK hw (cw_rc4 hK hw.1 t_o) hA ⟨Nat.le_of_ble_eq_true rfl, Nat.le_of_ble_eq_true rfl⟩ ⟨Nat.le_of_ble_eq_true rfl, Nat.le_of_ble_eq_true rfl⟩ (As := [.int (J ((-304)))]) (rest := []) rfl rfl hl.1 (Nat.le_of_ble_eq_true rfl) 122 rfl dX3_readConditions_119 (fun v_7 H locs hq7_ hw => ?_)
          obtain ⟨y86_7, y300_7, ev7_, hh7_⟩ := hq7_
          rw [ev7_] at hw; clear ev7_
          have hw : WK D cy T (upV (upV (upV (upV (upV v_0 80 y80_c9) 83 y83_c9) 84 y84_c9) 86 y86_7) 300 y300_7) A0 s.heap H locs := cw_eq hw (by first | rfl | (funext j_; simp only [upV, reduceIte]; (repeat' split) <;> first | rfl | omega | (subst_vars; rfl)))
          have hh7_ : (0 ≤ (y86_7 o) ∧ (y86_7 o) ≤ 400) ∧ Ro_ (y300_c9) (y300_7) (T 85 o) := hh7_
          have roe_ := hh7_.2
          exact hret 122 (upV (upV (upV (upV (upV v_0 80 y80_c9) 83 y83_c9) 84 y84_c9) 86 y86_7) 300 y300_7) _ _ ls hw ⟨y80_c9, y83_c9, y84_c9, y86_7, y300_7, rfl, by first | exact ⟨by omega, Ro_tr iv9.2.1 roe_, Co_end iv9.2.2.2 iv111 (by omega)⟩ | exact ⟨by omega, iv9.2.1, Co_end iv9.2.2.2 iv111 (by omega)⟩⟩ dX3_readConditions_122
      refine j_iload_n E 10 rfl dX3_readConditions_9 rfl (lv_at hl 3 rfl) ?_
      refine j_sipush E 13 rfl dX3_readConditions_10 (by decide) ?_
      refine j_icmp_ge E 16 111 rfl r_l3_9 (rr (by decide)) dX3_readConditions_13 (by decide) (fun cc8_ => ?_) (fun cc8_ => ?_)
      · exact L111_4   H locs ls  (by first | omega | exact Co_i iv9.2.2.2 (by omega) (by omega)) hw (lv_sub hl [0, 1, 2, 3] rfl)
      · refine j_aload_n E 17 rfl dX3_readConditions_16 rfl (lv_at hl 0 rfl) ?_
        refine g_84 E hK hw fl_X3_30 t_o (y84_c9 o) rfl 20 rfl dX3_readConditions_17 (fun rr9_ => ?_)
        refine j_sipush E 23 rfl dX3_readConditions_20 (by decide) ?_
        refine j_icmp_eq E 26 36 rfl rr9_ (rr (by decide)) dX3_readConditions_23 (by decide) (fun cc10_ => ?_) (fun cc10_ => ?_)
        · have L51_11 : ∀ (s0_51 : Int) (H : Heap) (locs : List Loc) (ls : Array Slot), inR s0_51 → ((s0_51 = 1 ∧ (y84_c9 o) = 305) ∨ (s0_51 = 0 ∧ (y84_c9 o) = 304)) → WK D cy T (upV (upV (upV (upV (upV v_0 80 y80_c9) 83 y83_c9) 84 y84_c9) 86 y86_c9) 300 y300_c9) A0 s.heap H locs → lv_has ls 5 [(0, .ref o), (1, .int (J 7)), (2, .int (J l2_9)), (3, .int (J l3_9))] → W p l e (rmd 8 0 0) s m ar below meth c H locs 0 0 QW (F0 m 51 ls [.int (J s0_51)]) := by
            intro s0_51 H locs ls r_s0_51 iv51 hw hl
            refine j_istore E 53 rfl [(4, .int (J s0_51)), (0, .ref o), (1, .int (J 7)), (2, .int (J l2_9)), (3, .int (J l3_9))] dX3_readConditions_51 hl (by decide) rfl (fun ls hl => ?_)
            have L69_13 : ∀ (y86_c69 : Nat → Int) (y300_c69 : Nat → Int) (H : Heap) (locs : List Loc) (ls : Array Slot), ((0 ≤ (y86_c69 o) ∧ (y86_c69 o) ≤ 400) ∧ Ro_ (v_0 300) (y300_c69) (T 85 o)) → WK D cy T (upV (upV (upV (upV (upV v_0 80 y80_c9) 83 y83_c9) 84 y84_c9) 86 y86_c69) 300 y300_c69) A0 s.heap H locs → lv_has ls 5 [(0, .ref o), (1, .int (J 7)), (2, .int (J l2_9)), (3, .int (J l3_9)), (4, .int (J s0_51))] → W p l e (rmd 8 0 0) s m ar below meth c H locs 0 0 QW (F0 m 69 ls []) := by
              intro y86_c69 y300_c69 H locs ls iv69 hw hl
              refine j_aload_n E 70 rfl dX3_readConditions_69 rfl (lv_at hl 0 rfl) ?_
              refine zV_v E (c_X3_step l D cy T (upV (upV (upV (upV (upV v_0 80 y80_c9) 83 y83_c9) 84 y84_c9) 86 y86_c69) 300 y300_c69) κ o K_ V_ hO t_o  (show RK_ (y300_c69) (T 120 (T 82 o)) (T 121 (T 82 o)) (((v_0 123) (T 82 o))) K_ V_ from RK_ro hp1 iv69.2 nk_ nv_) (show 0 ≤ (y83_c9 o) ∧ (y83_c9 o) < 400 from by have q_ := RK_lt hp1 (j := (y83_c9 o)) (by omega); omega)) mt_X3_step ml_X3_54 hK hZ hAc hw (cw_rc4 hK hw.1 t_o) hA ⟨Nat.le_of_ble_eq_true rfl, Nat.le_of_ble_eq_true rfl⟩ ⟨Nat.le_of_ble_eq_true rfl, Nat.le_of_ble_eq_true rfl⟩ (As := []) (rest := []) rfl rfl hl.1 (Nat.le_of_ble_eq_true rfl) 73 rfl dX3_readConditions_70 (fun v_15 H locs hq15_ hw => ?_)
              obtain ⟨y83_15, y84_15, ev15_, hh15_⟩ := hq15_
              rw [ev15_] at hw; clear ev15_
              have hw : WK D cy T (upV (upV (upV (upV (upV v_0 80 y80_c9) 83 y83_15) 84 y84_15) 86 y86_c69) 300 y300_c69) A0 s.heap H locs := cw_eq hw (by first | rfl | (funext j_; simp only [upV, reduceIte]; (repeat' split) <;> first | rfl | omega | (subst_vars; rfl)))
              have hh15_ : (y83_15 o) = (y83_c9 o) + 1 ∧ (y84_15 o) = K_ ((y83_c9 o) + 1) := hh15_
              have s_ := hh15_
              refine j_aload_n E 74 rfl dX3_readConditions_73 rfl (lv_at hl 0 rfl) ?_
              refine j_iload_n E 75 rfl dX3_readConditions_74 rfl (lv_at hl 1 rfl) ?_
              refine zV_v E (c_X3_readCondition_n7 l D cy T (upV (upV (upV (upV (upV v_0 80 y80_c9) 83 y83_15) 84 y84_15) 86 y86_c69) 300 y300_c69) κ o K_ V_ hO t_o  (show 0 ≤ (y86_c69 o) ∧ (y86_c69 o) ≤ 400 from by omega) (show RK_ (y300_c69) (T 120 (T 82 o)) (T 121 (T 82 o)) (((v_0 123) (T 82 o))) K_ V_ from RK_ro hp1 iv69.2 nk_ nv_) (show Cs_ K_ ((y83_15 o)) ((y84_15 o)) ((y80_c9 o)) from Cs_st (Co_cs hp2 iv9.2.2.2) (by omega) s_.1 s_.2 (by omega))) mt_X3_readCondition ml_X3_85 hK hZ hAc hw (cw_rc4 hK hw.1 t_o) hA ⟨Nat.le_of_ble_eq_true rfl, Nat.le_of_ble_eq_true rfl⟩ ⟨Nat.le_of_ble_eq_true rfl, Nat.le_of_ble_eq_true rfl⟩ (As := [.int (J 7)]) (rest := []) rfl rfl hl.1 (Nat.le_of_ble_eq_true rfl) 78 rfl dX3_readConditions_75 (fun v_16 H locs hq16_ hw => ?_)
              obtain ⟨y80_16, y83_16, y84_16, y86_16, y300_16, ev16_, hh16_⟩ := hq16_
              rw [ev16_] at hw; clear ev16_
              have hw : WK D cy T (upV (upV (upV (upV (upV v_0 80 y80_16) 83 y83_16) 84 y84_16) 86 y86_16) 300 y300_16) A0 s.heap H locs := cw_eq hw (by first | rfl | (funext j_; simp only [upV, reduceIte]; (repeat' split) <;> first | rfl | omega | (subst_vars; rfl)))
              have hh16_ : (0 ≤ (y86_16 o) ∧ (y86_16 o) ≤ 400) ∧ Ro_ (y300_c69) (y300_16) (T 85 o) ∧ Ck_ S3_ (7 : Int) TX_ K_ V_ ((y83_15 o)) ((y80_c9 o)) ((y83_16 o)) ((y84_16 o)) ((y80_16 o)) := hh16_
              have u_ := hh16_
              rw [s_.1] at u_
              refine j_iload E 80 rfl dX3_readConditions_78 (lv_at hl 4 rfl) ?_
              refine j_if_eq E 83 90 rfl r_s0_51 dX3_readConditions_80 (by decide) (fun cc17_ => ?_) (fun cc17_ => ?_)
              · have L104_18 : ∀ (s0_104 : Int) (H : Heap) (locs : List Loc) (ls : Array Slot), inR s0_104 → (((l2_9 ≠ 0 ∨ s0_51 = 0) ∧ s0_104 = 1) ∨ (l2_9 = 0 ∧ s0_51 ≠ 0 ∧ s0_104 = 0)) → WK D cy T (upV (upV (upV (upV (upV v_0 80 y80_16) 83 y83_16) 84 y84_16) 86 y86_16) 300 y300_16) A0 s.heap H locs → lv_has ls 5 [(0, .ref o), (1, .int (J 7)), (2, .int (J l2_9)), (3, .int (J l3_9)), (4, .int (J s0_51))] → W p l e (rmd 8 0 0) s m ar below meth c H locs 0 0 QW (F0 m 104 ls [.int (J s0_104)]) := by
                  intro s0_104 H locs ls r_s0_104 iv104 hw hl
                  refine j_istore_n E 105 rfl [(2, .int (J s0_104)), (0, .ref o), (1, .int (J 7)), (3, .int (J l3_9)), (4, .int (J s0_51))] dX3_readConditions_104 rfl hl (by decide) rfl (fun ls hl => ?_)
                  refine j_iinc E 108 rfl [(3, .int (J (l3_9 + 1))), (2, .int (J s0_104)), (0, .ref o), (1, .int (J 7)), (4, .int (J s0_51))] dX3_readConditions_105 hl (kk := 3) rfl (by decide) rfl (fun ls hl => ?_)
                  refine j_goto E 9 dX3_readConditions_108 (by decide) ?_
                  exact ih9 s0_104 (l3_9 + 1) y80_16 y83_16 y84_16 y86_16 y300_16 H locs ls r_s0_104 (rr (by omega)) (by first | exact ⟨by omega, Ro_tr iv69.2 (Ro_tr u_.2.1 ro9_), by omega, by rw [show s0_104 = l2_9 by omega]; exact Co_and iv9.2.2.2 (by omega) u_.2.2⟩ | exact ⟨by omega, Ro_tr iv69.2 u_.2.1, by omega, by rw [show s0_104 = 1 by omega]; exact Co_or iv9.2.2.2 (by omega) u_.2.2⟩ | (exfalso; omega)) (by omega) hw (lv_sub hl [2, 3, 1, 0] rfl)
                refine j_iload_n E 91 rfl dX3_readConditions_90 rfl (lv_at hl 2 rfl) ?_
                refine j_if_ne E 94 99 rfl r_l2_9 dX3_readConditions_91 (by decide) (fun cc20_ => ?_) (fun cc20_ => ?_)
                · refine j_iconst E 100 rfl dX3_readConditions_99 ?_
                  refine j_goto E 104 dX3_readConditions_100 (by decide) ?_
                  exact L104_18 1  H locs ls (rr (by decide)) (by omega) hw (lv_sub hl [0, 1, 2, 3, 4] rfl)
                · refine j_iload E 96 rfl dX3_readConditions_94 (lv_at hl 4 rfl) ?_
                  refine j_if_ne E 99 103 rfl r_s0_51 dX3_readConditions_96 (by decide) (fun cc21_ => ?_) (fun cc21_ => ?_)
                  · exfalso; omega
                  refine j_iconst E 100 rfl dX3_readConditions_99 ?_
                  refine j_goto E 104 dX3_readConditions_100 (by decide) ?_
                  exact L104_18 1  H locs ls (rr (by decide)) (by omega) hw (lv_sub hl [0, 1, 2, 3, 4] rfl)
              · refine j_aload_n E 84 rfl dX3_readConditions_83 rfl (lv_at hl 0 rfl) ?_
                refine j_sipush E 87 rfl dX3_readConditions_84 (by decide) ?_
                refine kV_v E (c_X3_emit l D cy T (upV (upV (upV (upV (upV v_0 80 y80_16) 83 y83_16) 84 y84_16) 86 y86_16) 300 y300_16) o ((-305))  t_o (rr (by decide)) (show 0 ≤ (y86_16 o) ∧ (y86_16 o) ≤ 400 from by omega)) mt_X3_emit ml_X3_60 hK hw (cw_rc4 hK hw.1 t_o) hA ⟨Nat.le_of_ble_eq_true rfl, Nat.le_of_ble_eq_true rfl⟩ ⟨Nat.le_of_ble_eq_true rfl, Nat.le_of_ble_eq_true rfl⟩ (As := [.int (J ((-305)))]) (rest := []) rfl rfl hl.1 (Nat.le_of_ble_eq_true rfl) 90 rfl dX3_readConditions_87 (fun v_22 H locs hq22_ hw => ?_)
                obtain ⟨y86_22, y300_22, ev22_, hh22_⟩ := hq22_
                rw [ev22_] at hw; clear ev22_
                have hw : WK D cy T (upV (upV (upV (upV (upV v_0 80 y80_16) 83 y83_16) 84 y84_16) 86 y86_22) 300 y300_22) A0 s.heap H locs := cw_eq hw (by first | rfl | (funext j_; simp only [upV, reduceIte]; (repeat' split) <;> first | rfl | omega | (subst_vars; rfl)))
                have hh22_ : (0 ≤ (y86_22 o) ∧ (y86_22 o) ≤ 400) ∧ Ro_ (y300_16) (y300_22) (T 85 o) := hh22_
                have ro9_ := hh22_.2
                have L104_23 : ∀ (s0_104 : Int) (H : Heap) (locs : List Loc) (ls : Array Slot), inR s0_104 → (((l2_9 ≠ 0 ∨ s0_51 = 0) ∧ s0_104 = 1) ∨ (l2_9 = 0 ∧ s0_51 ≠ 0 ∧ s0_104 = 0)) → WK D cy T (upV (upV (upV (upV (upV v_0 80 y80_16) 83 y83_16) 84 y84_16) 86 y86_22) 300 y300_22) A0 s.heap H locs → lv_has ls 5 [(0, .ref o), (1, .int (J 7)), (2, .int (J l2_9)), (3, .int (J l3_9)), (4, .int (J s0_51))] → W p l e (rmd 8 0 0) s m ar below meth c H locs 0 0 QW (F0 m 104 ls [.int (J s0_104)]) := by
                  intro s0_104 H locs ls r_s0_104 iv104 hw hl
                  refine j_istore_n E 105 rfl [(2, .int (J s0_104)), (0, .ref o), (1, .int (J 7)), (3, .int (J l3_9)), (4, .int (J s0_51))] dX3_readConditions_104 rfl hl (by decide) rfl (fun ls hl => ?_)
                  refine j_iinc E 108 rfl [(3, .int (J (l3_9 + 1))), (2, .int (J s0_104)), (0, .ref o), (1, .int (J 7)), (4, .int (J s0_51))] dX3_readConditions_105 hl (kk := 3) rfl (by decide) rfl (fun ls hl => ?_)
                  refine j_goto E 9 dX3_readConditions_108 (by decide) ?_
                  exact ih9 s0_104 (l3_9 + 1) y80_16 y83_16 y84_16 y86_22 y300_22 H locs ls r_s0_104 (rr (by omega)) (by first | exact ⟨by omega, Ro_tr iv69.2 (Ro_tr u_.2.1 ro9_), by omega, by rw [show s0_104 = l2_9 by omega]; exact Co_and iv9.2.2.2 (by omega) u_.2.2⟩ | exact ⟨by omega, Ro_tr iv69.2 u_.2.1, by omega, by rw [show s0_104 = 1 by omega]; exact Co_or iv9.2.2.2 (by omega) u_.2.2⟩ | (exfalso; omega)) (by omega) hw (lv_sub hl [2, 3, 1, 0] rfl)
                refine j_iload_n E 91 rfl dX3_readConditions_90 rfl (lv_at hl 2 rfl) ?_
                refine j_if_ne E 94 99 rfl r_l2_9 dX3_readConditions_91 (by decide) (fun cc25_ => ?_) (fun cc25_ => ?_)
                · refine j_iconst E 100 rfl dX3_readConditions_99 ?_
                  refine j_goto E 104 dX3_readConditions_100 (by decide) ?_
                  exact L104_23 1  H locs ls (rr (by decide)) (by omega) hw (lv_sub hl [0, 1, 2, 3, 4] rfl)
                · refine j_iload E 96 rfl dX3_readConditions_94 (lv_at hl 4 rfl) ?_
                  refine j_if_ne E 99 103 rfl r_s0_51 dX3_readConditions_96 (by decide) (fun cc26_ => ?_) (fun cc26_ => ?_)
                  rotate_left; · exfalso; omega
                  refine j_iconst E 104 rfl dX3_readConditions_103 ?_
                  exact L104_23 0  H locs ls (rr (by decide)) (by omega) hw (lv_sub hl [0, 1, 2, 3, 4] rfl)
            refine j_iload E 55 rfl dX3_readConditions_53 (lv_at hl 0 rfl) ?_
            refine j_if_ne E 58 69 rfl r_s0_51 dX3_readConditions_55 (by decide) (fun cc27_ => ?_) (fun cc27_ => ?_)
            · exact L69_13  y86_c9 y300_c9 H locs ls  (by first | exact ⟨by omega, iv9.2.1⟩ | exact ⟨by omega, Ro_tr iv9.2.1 ro7_⟩) hw (lv_sub hl [1, 2, 3, 4, 0] rfl)
            · refine j_iload_n E 59 rfl dX3_readConditions_58 rfl (lv_at hl 3 rfl) ?_
              refine j_if_eq E 62 69 rfl r_l2_9 dX3_readConditions_59 (by decide) (fun cc28_ => ?_) (fun cc28_ => ?_)
              · exact L69_13  y86_c9 y300_c9 H locs ls  (by first | exact ⟨by omega, iv9.2.1⟩ | exact ⟨by omega, Ro_tr iv9.2.1 ro7_⟩) hw (lv_sub hl [1, 2, 3, 4, 0] rfl)
              · refine j_aload_n E 63 rfl dX3_readConditions_62 rfl (lv_at hl 1 rfl) ?_
                refine j_sipush E 66 rfl dX3_readConditions_63 (by decide) ?_
                refine kV_v E (c_X3_emit l D cy T (upV (upV (upV (upV (upV v_0 80 y80_c9) 83 y83_c9) 84 y84_c9) 86 y86_c9) 300 y300_c9) o ((-304))  t_o (rr (by decide)) (show 0 ≤ (y86_c9 o) ∧ (y86_c9 o) ≤ 400 from by omega)) mt_X3_emit ml_X3_60 hK hw (cw_rc4 hK hw.1 t_o) hA ⟨Nat.le_of_ble_eq_true rfl, Nat.le_of_ble_eq_true rfl⟩ ⟨Nat.le_of_ble_eq_true rfl, Nat.le_of_ble_eq_true rfl⟩ (As := [.int (J ((-304)))]) (rest := []) rfl rfl hl.1 (Nat.le_of_ble_eq_true rfl) 69 rfl dX3_readConditions_66 (fun v_29 H locs hq29_ hw => ?_)
                obtain ⟨y86_29, y300_29, ev29_, hh29_⟩ := hq29_
                rw [ev29_] at hw; clear ev29_
                have hw : WK D cy T (upV (upV (upV (upV (upV v_0 80 y80_c9) 83 y83_c9) 84 y84_c9) 86 y86_29) 300 y300_29) A0 s.heap H locs := cw_eq hw (by first | rfl | (funext j_; simp only [upV, reduceIte]; (repeat' split) <;> first | rfl | omega | (subst_vars; rfl)))
                have hh29_ : (0 ≤ (y86_29 o) ∧ (y86_29 o) ≤ 400) ∧ Ro_ (y300_c9) (y300_29) (T 85 o) := hh29_
                have ro7_ := hh29_.2
                exact L69_13  y86_29 y300_29 H locs ls  (by first | exact ⟨by omega, iv9.2.1⟩ | exact ⟨by omega, Ro_tr iv9.2.1 ro7_⟩) hw (lv_sub hl [1, 2, 3, 4, 0] rfl)
          refine j_aload_n E 37 rfl dX3_readConditions_36 rfl (lv_at hl 0 rfl) ?_
          refine g_84 E hK hw fl_X3_30 t_o (y84_c9 o) rfl 40 rfl dX3_readConditions_37 (fun _ => ?_)
          refine j_sipush E 43 rfl dX3_readConditions_40 (by decide) ?_
          refine j_icmp_ne E 46 50 rfl rr9_ (rr (by decide)) dX3_readConditions_43 (by decide) (fun cc30_ => ?_) (fun cc30_ => ?_)
          · exfalso; omega
          refine j_iconst E 47 rfl dX3_readConditions_46 ?_
          refine j_goto E 51 dX3_readConditions_47 (by decide) ?_
          exact L51_11 1  H locs ls (rr (by decide)) (by omega) hw (lv_sub hl [0, 1, 2, 3] rfl)
        · refine j_aload_n E 27 rfl dX3_readConditions_26 rfl (lv_at hl 0 rfl) ?_
          refine g_84 E hK hw fl_X3_30 t_o (y84_c9 o) rfl 30 rfl dX3_readConditions_27 (fun _ => ?_)
          refine j_sipush E 33 rfl dX3_readConditions_30 (by decide) ?_
          refine j_icmp_ne E 36 111 rfl rr9_ (rr (by decide)) dX3_readConditions_33 (by decide) (fun cc31_ => ?_) (fun cc31_ => ?_)
          · exact L111_4   H locs ls  (by first | omega | exact Co_i iv9.2.2.2 (by omega) (by omega)) hw (lv_sub hl [0, 1, 2, 3] rfl)
          · have L51_32 : ∀ (s0_51 : Int) (H : Heap) (locs : List Loc) (ls : Array Slot), inR s0_51 → ((s0_51 = 1 ∧ (y84_c9 o) = 305) ∨ (s0_51 = 0 ∧ (y84_c9 o) = 304)) → WK D cy T (upV (upV (upV (upV (upV v_0 80 y80_c9) 83 y83_c9) 84 y84_c9) 86 y86_c9) 300 y300_c9) A0 s.heap H locs → lv_has ls 5 [(0, .ref o), (1, .int (J 7)), (2, .int (J l2_9)), (3, .int (J l3_9))] → W p l e (rmd 8 0 0) s m ar below meth c H locs 0 0 QW (F0 m 51 ls [.int (J s0_51)]) := by
              intro s0_51 H locs ls r_s0_51 iv51 hw hl
              refine j_istore E 53 rfl [(4, .int (J s0_51)), (0, .ref o), (1, .int (J 7)), (2, .int (J l2_9)), (3, .int (J l3_9))] dX3_readConditions_51 hl (by decide) rfl (fun ls hl => ?_)
              have L69_34 : ∀ (y86_c69 : Nat → Int) (y300_c69 : Nat → Int) (H : Heap) (locs : List Loc) (ls : Array Slot), ((0 ≤ (y86_c69 o) ∧ (y86_c69 o) ≤ 400) ∧ Ro_ (v_0 300) (y300_c69) (T 85 o)) → WK D cy T (upV (upV (upV (upV (upV v_0 80 y80_c9) 83 y83_c9) 84 y84_c9) 86 y86_c69) 300 y300_c69) A0 s.heap H locs → lv_has ls 5 [(0, .ref o), (1, .int (J 7)), (2, .int (J l2_9)), (3, .int (J l3_9)), (4, .int (J s0_51))] → W p l e (rmd 8 0 0) s m ar below meth c H locs 0 0 QW (F0 m 69 ls []) := by
                intro y86_c69 y300_c69 H locs ls iv69 hw hl
                refine j_aload_n E 70 rfl dX3_readConditions_69 rfl (lv_at hl 0 rfl) ?_
                refine zV_v E (c_X3_step l D cy T (upV (upV (upV (upV (upV v_0 80 y80_c9) 83 y83_c9) 84 y84_c9) 86 y86_c69) 300 y300_c69) κ o K_ V_ hO t_o  (show RK_ (y300_c69) (T 120 (T 82 o)) (T 121 (T 82 o)) (((v_0 123) (T 82 o))) K_ V_ from RK_ro hp1 iv69.2 nk_ nv_) (show 0 ≤ (y83_c9 o) ∧ (y83_c9 o) < 400 from by have q_ := RK_lt hp1 (j := (y83_c9 o)) (by omega); omega)) mt_X3_step ml_X3_54 hK hZ hAc hw (cw_rc4 hK hw.1 t_o) hA ⟨Nat.le_of_ble_eq_true rfl, Nat.le_of_ble_eq_true rfl⟩ ⟨Nat.le_of_ble_eq_true rfl, Nat.le_of_ble_eq_true rfl⟩ (As := []) (rest := []) rfl rfl hl.1 (Nat.le_of_ble_eq_true rfl) 73 rfl dX3_readConditions_70 (fun v_36 H locs hq36_ hw => ?_)
                obtain ⟨y83_36, y84_36, ev36_, hh36_⟩ := hq36_
                rw [ev36_] at hw; clear ev36_
                have hw : WK D cy T (upV (upV (upV (upV (upV v_0 80 y80_c9) 83 y83_36) 84 y84_36) 86 y86_c69) 300 y300_c69) A0 s.heap H locs := cw_eq hw (by first | rfl | (funext j_; simp only [upV, reduceIte]; (repeat' split) <;> first | rfl | omega | (subst_vars; rfl)))
                have hh36_ : (y83_36 o) = (y83_c9 o) + 1 ∧ (y84_36 o) = K_ ((y83_c9 o) + 1) := hh36_
                have s_ := hh36_
                refine j_aload_n E 74 rfl dX3_readConditions_73 rfl (lv_at hl 0 rfl) ?_
                refine j_iload_n E 75 rfl dX3_readConditions_74 rfl (lv_at hl 1 rfl) ?_
                refine zV_v E (c_X3_readCondition_n7 l D cy T (upV (upV (upV (upV (upV v_0 80 y80_c9) 83 y83_36) 84 y84_36) 86 y86_c69) 300 y300_c69) κ o K_ V_ hO t_o  (show 0 ≤ (y86_c69 o) ∧ (y86_c69 o) ≤ 400 from by omega) (show RK_ (y300_c69) (T 120 (T 82 o)) (T 121 (T 82 o)) (((v_0 123) (T 82 o))) K_ V_ from RK_ro hp1 iv69.2 nk_ nv_) (show Cs_ K_ ((y83_36 o)) ((y84_36 o)) ((y80_c9 o)) from Cs_st (Co_cs hp2 iv9.2.2.2) (by omega) s_.1 s_.2 (by omega))) mt_X3_readCondition ml_X3_85 hK hZ hAc hw (cw_rc4 hK hw.1 t_o) hA ⟨Nat.le_of_ble_eq_true rfl, Nat.le_of_ble_eq_true rfl⟩ ⟨Nat.le_of_ble_eq_true rfl, Nat.le_of_ble_eq_true rfl⟩ (As := [.int (J 7)]) (rest := []) rfl rfl hl.1 (Nat.le_of_ble_eq_true rfl) 78 rfl dX3_readConditions_75 (fun v_37 H locs hq37_ hw => ?_)
                obtain ⟨y80_37, y83_37, y84_37, y86_37, y300_37, ev37_, hh37_⟩ := hq37_
                rw [ev37_] at hw; clear ev37_
                have hw : WK D cy T (upV (upV (upV (upV (upV v_0 80 y80_37) 83 y83_37) 84 y84_37) 86 y86_37) 300 y300_37) A0 s.heap H locs := cw_eq hw (by first | rfl | (funext j_; simp only [upV, reduceIte]; (repeat' split) <;> first | rfl | omega | (subst_vars; rfl)))
                have hh37_ : (0 ≤ (y86_37 o) ∧ (y86_37 o) ≤ 400) ∧ Ro_ (y300_c69) (y300_37) (T 85 o) ∧ Ck_ S3_ (7 : Int) TX_ K_ V_ ((y83_36 o)) ((y80_c9 o)) ((y83_37 o)) ((y84_37 o)) ((y80_37 o)) := hh37_
                have u_ := hh37_
                rw [s_.1] at u_
                refine j_iload E 80 rfl dX3_readConditions_78 (lv_at hl 4 rfl) ?_
                refine j_if_eq E 83 90 rfl r_s0_51 dX3_readConditions_80 (by decide) (fun cc38_ => ?_) (fun cc38_ => ?_)
                · have L104_39 : ∀ (s0_104 : Int) (H : Heap) (locs : List Loc) (ls : Array Slot), inR s0_104 → (((l2_9 ≠ 0 ∨ s0_51 = 0) ∧ s0_104 = 1) ∨ (l2_9 = 0 ∧ s0_51 ≠ 0 ∧ s0_104 = 0)) → WK D cy T (upV (upV (upV (upV (upV v_0 80 y80_37) 83 y83_37) 84 y84_37) 86 y86_37) 300 y300_37) A0 s.heap H locs → lv_has ls 5 [(0, .ref o), (1, .int (J 7)), (2, .int (J l2_9)), (3, .int (J l3_9)), (4, .int (J s0_51))] → W p l e (rmd 8 0 0) s m ar below meth c H locs 0 0 QW (F0 m 104 ls [.int (J s0_104)]) := by
                    intro s0_104 H locs ls r_s0_104 iv104 hw hl
                    refine j_istore_n E 105 rfl [(2, .int (J s0_104)), (0, .ref o), (1, .int (J 7)), (3, .int (J l3_9)), (4, .int (J s0_51))] dX3_readConditions_104 rfl hl (by decide) rfl (fun ls hl => ?_)
                    refine j_iinc E 108 rfl [(3, .int (J (l3_9 + 1))), (2, .int (J s0_104)), (0, .ref o), (1, .int (J 7)), (4, .int (J s0_51))] dX3_readConditions_105 hl (kk := 3) rfl (by decide) rfl (fun ls hl => ?_)
                    refine j_goto E 9 dX3_readConditions_108 (by decide) ?_
                    exact ih9 s0_104 (l3_9 + 1) y80_37 y83_37 y84_37 y86_37 y300_37 H locs ls r_s0_104 (rr (by omega)) (by first | exact ⟨by omega, Ro_tr iv69.2 (Ro_tr u_.2.1 ro9_), by omega, by rw [show s0_104 = l2_9 by omega]; exact Co_and iv9.2.2.2 (by omega) u_.2.2⟩ | exact ⟨by omega, Ro_tr iv69.2 u_.2.1, by omega, by rw [show s0_104 = 1 by omega]; exact Co_or iv9.2.2.2 (by omega) u_.2.2⟩ | (exfalso; omega)) (by omega) hw (lv_sub hl [2, 3, 1, 0] rfl)
                  refine j_iload_n E 91 rfl dX3_readConditions_90 rfl (lv_at hl 2 rfl) ?_
                  refine j_if_ne E 94 99 rfl r_l2_9 dX3_readConditions_91 (by decide) (fun cc41_ => ?_) (fun cc41_ => ?_)
                  · refine j_iconst E 100 rfl dX3_readConditions_99 ?_
                    refine j_goto E 104 dX3_readConditions_100 (by decide) ?_
                    exact L104_39 1  H locs ls (rr (by decide)) (by omega) hw (lv_sub hl [0, 1, 2, 3, 4] rfl)
                  · refine j_iload E 96 rfl dX3_readConditions_94 (lv_at hl 4 rfl) ?_
                    refine j_if_ne E 99 103 rfl r_s0_51 dX3_readConditions_96 (by decide) (fun cc42_ => ?_) (fun cc42_ => ?_)
                    · exfalso; omega
                    refine j_iconst E 100 rfl dX3_readConditions_99 ?_
                    refine j_goto E 104 dX3_readConditions_100 (by decide) ?_
                    exact L104_39 1  H locs ls (rr (by decide)) (by omega) hw (lv_sub hl [0, 1, 2, 3, 4] rfl)
                · refine j_aload_n E 84 rfl dX3_readConditions_83 rfl (lv_at hl 0 rfl) ?_
                  refine j_sipush E 87 rfl dX3_readConditions_84 (by decide) ?_
                  refine kV_v E (c_X3_emit l D cy T (upV (upV (upV (upV (upV v_0 80 y80_37) 83 y83_37) 84 y84_37) 86 y86_37) 300 y300_37) o ((-305))  t_o (rr (by decide)) (show 0 ≤ (y86_37 o) ∧ (y86_37 o) ≤ 400 from by omega)) mt_X3_emit ml_X3_60 hK hw (cw_rc4 hK hw.1 t_o) hA ⟨Nat.le_of_ble_eq_true rfl, Nat.le_of_ble_eq_true rfl⟩ ⟨Nat.le_of_ble_eq_true rfl, Nat.le_of_ble_eq_true rfl⟩ (As := [.int (J ((-305)))]) (rest := []) rfl rfl hl.1 (Nat.le_of_ble_eq_true rfl) 90 rfl dX3_readConditions_87 (fun v_43 H locs hq43_ hw => ?_)
                  obtain ⟨y86_43, y300_43, ev43_, hh43_⟩ := hq43_
                  rw [ev43_] at hw; clear ev43_
                  have hw : WK D cy T (upV (upV (upV (upV (upV v_0 80 y80_37) 83 y83_37) 84 y84_37) 86 y86_43) 300 y300_43) A0 s.heap H locs := cw_eq hw (by first | rfl | (funext j_; simp only [upV, reduceIte]; (repeat' split) <;> first | rfl | omega | (subst_vars; rfl)))
                  have hh43_ : (0 ≤ (y86_43 o) ∧ (y86_43 o) ≤ 400) ∧ Ro_ (y300_37) (y300_43) (T 85 o) := hh43_
                  have ro9_ := hh43_.2
                  have L104_44 : ∀ (s0_104 : Int) (H : Heap) (locs : List Loc) (ls : Array Slot), inR s0_104 → (((l2_9 ≠ 0 ∨ s0_51 = 0) ∧ s0_104 = 1) ∨ (l2_9 = 0 ∧ s0_51 ≠ 0 ∧ s0_104 = 0)) → WK D cy T (upV (upV (upV (upV (upV v_0 80 y80_37) 83 y83_37) 84 y84_37) 86 y86_43) 300 y300_43) A0 s.heap H locs → lv_has ls 5 [(0, .ref o), (1, .int (J 7)), (2, .int (J l2_9)), (3, .int (J l3_9)), (4, .int (J s0_51))] → W p l e (rmd 8 0 0) s m ar below meth c H locs 0 0 QW (F0 m 104 ls [.int (J s0_104)]) := by
                    intro s0_104 H locs ls r_s0_104 iv104 hw hl
                    refine j_istore_n E 105 rfl [(2, .int (J s0_104)), (0, .ref o), (1, .int (J 7)), (3, .int (J l3_9)), (4, .int (J s0_51))] dX3_readConditions_104 rfl hl (by decide) rfl (fun ls hl => ?_)
                    refine j_iinc E 108 rfl [(3, .int (J (l3_9 + 1))), (2, .int (J s0_104)), (0, .ref o), (1, .int (J 7)), (4, .int (J s0_51))] dX3_readConditions_105 hl (kk := 3) rfl (by decide) rfl (fun ls hl => ?_)
                    refine j_goto E 9 dX3_readConditions_108 (by decide) ?_
                    exact ih9 s0_104 (l3_9 + 1) y80_37 y83_37 y84_37 y86_43 y300_43 H locs ls r_s0_104 (rr (by omega)) (by first | exact ⟨by omega, Ro_tr iv69.2 (Ro_tr u_.2.1 ro9_), by omega, by rw [show s0_104 = l2_9 by omega]; exact Co_and iv9.2.2.2 (by omega) u_.2.2⟩ | exact ⟨by omega, Ro_tr iv69.2 u_.2.1, by omega, by rw [show s0_104 = 1 by omega]; exact Co_or iv9.2.2.2 (by omega) u_.2.2⟩ | (exfalso; omega)) (by omega) hw (lv_sub hl [2, 3, 1, 0] rfl)
                  refine j_iload_n E 91 rfl dX3_readConditions_90 rfl (lv_at hl 2 rfl) ?_
                  refine j_if_ne E 94 99 rfl r_l2_9 dX3_readConditions_91 (by decide) (fun cc46_ => ?_) (fun cc46_ => ?_)
                  · refine j_iconst E 100 rfl dX3_readConditions_99 ?_
                    refine j_goto E 104 dX3_readConditions_100 (by decide) ?_
                    exact L104_44 1  H locs ls (rr (by decide)) (by omega) hw (lv_sub hl [0, 1, 2, 3, 4] rfl)
                  · refine j_iload E 96 rfl dX3_readConditions_94 (lv_at hl 4 rfl) ?_
                    refine j_if_ne E 99 103 rfl r_s0_51 dX3_readConditions_96 (by decide) (fun cc47_ => ?_) (fun cc47_ => ?_)
                    rotate_left; · exfalso; omega
                    refine j_iconst E 104 rfl dX3_readConditions_103 ?_
                    exact L104_44 0  H locs ls (rr (by decide)) (by omega) hw (lv_sub hl [0, 1, 2, 3, 4] rfl)
              refine j_iload E 55 rfl dX3_readConditions_53 (lv_at hl 0 rfl) ?_
              refine j_if_ne E 58 69 rfl r_s0_51 dX3_readConditions_55 (by decide) (fun cc48_ => ?_) (fun cc48_ => ?_)
              · exact L69_34  y86_c9 y300_c9 H locs ls  (by first | exact ⟨by omega, iv9.2.1⟩ | exact ⟨by omega, Ro_tr iv9.2.1 ro7_⟩) hw (lv_sub hl [1, 2, 3, 4, 0] rfl)
              · refine j_iload_n E 59 rfl dX3_readConditions_58 rfl (lv_at hl 3 rfl) ?_
                refine j_if_eq E 62 69 rfl r_l2_9 dX3_readConditions_59 (by decide) (fun cc49_ => ?_) (fun cc49_ => ?_)
                · exact L69_34  y86_c9 y300_c9 H locs ls  (by first | exact ⟨by omega, iv9.2.1⟩ | exact ⟨by omega, Ro_tr iv9.2.1 ro7_⟩) hw (lv_sub hl [1, 2, 3, 4, 0] rfl)
                · refine j_aload_n E 63 rfl dX3_readConditions_62 rfl (lv_at hl 1 rfl) ?_
                  refine j_sipush E 66 rfl dX3_readConditions_63 (by decide) ?_
                  refine kV_v E (c_X3_emit l D cy T (upV (upV (upV (upV (upV v_0 80 y80_c9) 83 y83_c9) 84 y84_c9) 86 y86_c9) 300 y300_c9) o ((-304))  t_o (rr (by decide)) (show 0 ≤ (y86_c9 o) ∧ (y86_c9 o) ≤ 400 from by omega)) mt_X3_emit ml_X3_60 hK hw (cw_rc4 hK hw.1 t_o) hA ⟨Nat.le_of_ble_eq_true rfl, Nat.le_of_ble_eq_true rfl⟩ ⟨Nat.le_of_ble_eq_true rfl, Nat.le_of_ble_eq_true rfl⟩ (As := [.int (J ((-304)))]) (rest := []) rfl rfl hl.1 (Nat.le_of_ble_eq_true rfl) 69 rfl dX3_readConditions_66 (fun v_50 H locs hq50_ hw => ?_)
                  obtain ⟨y86_50, y300_50, ev50_, hh50_⟩ := hq50_
                  rw [ev50_] at hw; clear ev50_
                  have hw : WK D cy T (upV (upV (upV (upV (upV v_0 80 y80_c9) 83 y83_c9) 84 y84_c9) 86 y86_50) 300 y300_50) A0 s.heap H locs := cw_eq hw (by first | rfl | (funext j_; simp only [upV, reduceIte]; (repeat' split) <;> first | rfl | omega | (subst_vars; rfl)))
                  have hh50_ : (0 ≤ (y86_50 o) ∧ (y86_50 o) ≤ 400) ∧ Ro_ (y300_c9) (y300_50) (T 85 o) := hh50_
                  have ro7_ := hh50_.2
                  exact L69_34  y86_50 y300_50 H locs ls  (by first | exact ⟨by omega, iv9.2.1⟩ | exact ⟨by omega, Ro_tr iv9.2.1 ro7_⟩) hw (lv_sub hl [1, 2, 3, 4, 0] rfl)
            refine j_aload_n E 37 rfl dX3_readConditions_36 rfl (lv_at hl 0 rfl) ?_
            refine g_84 E hK hw fl_X3_30 t_o (y84_c9 o) rfl 40 rfl dX3_readConditions_37 (fun _ => ?_)
            refine j_sipush E 43 rfl dX3_readConditions_40 (by decide) ?_
            refine j_icmp_ne E 46 50 rfl rr9_ (rr (by decide)) dX3_readConditions_43 (by decide) (fun cc51_ => ?_) (fun cc51_ => ?_)
            rotate_left; · exfalso; omega
            refine j_iconst E 51 rfl dX3_readConditions_50 ?_
            exact L51_32 0  H locs ls (rr (by decide)) (by omega) hw (lv_sub hl [0, 1, 2, 3] rfl)
  exact L9_2 _ 0 0 y80_1 y83_1 y84_1 y86_1 y300_1 H locs ls (rr (by decide)) (rr (by decide)) (⟨by omega, u0_.2.1, by omega, Co_0 hp2.1.1 u0_.2.2⟩) (Nat.lt_succ_self _) hw (lv_sub hl [2, 3, 1, 0] rfl)
set_option maxHeartbeats 4000000 in
set_option maxRecDepth 100000 in
theorem c_X3_readCondition_n6 (l : Launch) (D : va_G) (cy : Nat → ClassId) (T : Nat → Nat → Nat) (v_0 : Nat → Nat → Int) (κ : Nat → Nat → Nat) (o : Nat) (K_ : Int → Int) (V_ : Int → Int) (hO : ∀ x, ow T x → κ 2 2 ≤ x) (t_o : T 0 o = 4) (hp0 : 0 ≤ (v_0 86 o) ∧ (v_0 86 o) ≤ 400) (hp1 : RK_ (v_0 300) (T 120 (T 82 o)) (T 121 (T 82 o)) ((v_0 123 (T 82 o))) K_ V_) (hp2 : Cs_ K_ ((v_0 83 o)) ((v_0 84 o)) ((v_0 80 o))) : KZ l D cy κ T yX3_readCondition cX3_readCondition 4 none 9 [.ref o, .int (J 6)] v_0 (KV (fun (v_2 : Nat → Nat → Int) => ∃ (y80_2 : Nat → Int) (y83_2 : Nat → Int) (y84_2 : Nat → Int) (y86_2 : Nat → Int) (y300_2 : Nat → Int) , v_2 = upV (upV (upV (upV (upV v_0 80 y80_2) 83 y83_2) 84 y84_2) 86 y86_2) 300 y300_2 ∧ ((0 ≤ (y86_2 o) ∧ (y86_2 o) ≤ 400) ∧ Ro_ (v_0 300) (y300_2) (T 85 o) ∧ Ck_ S3_ (6 : Int) TX_ K_ V_ ((v_0 83 o)) ((v_0 80 o)) ((y83_2 o)) ((y84_2 o)) ((y80_2 o))))) := by
  refine KZ.ofv (by decide) (Nat.le_of_ble_eq_true rfl) hO ?_
  intro p e s m below meth c ls ar QW A0 H locs E hK hZ hA hAc hw hl hret
  have hl : lv_has ls 4 [(0, .ref o), (1, .int (J 6))] := hl
  have hT : WT T := hw.1.2.1
  have cs_ := hp2
  unfold Cs_ at cs_
  have nk_ : T 120 (T 82 o) ≠ T 85 o := ro_ne (wo_120 hT (wt_82 hT t_o)) (wo_85 hT t_o) (by decide) (by decide) (by omega)
  have nv_ : T 121 (T 82 o) ≠ T 85 o := ro_ne (wo_121 hT (wt_82 hT t_o)) (wo_85 hT t_o) (by decide) (by decide) (by omega)
  refine j_aload_n E 1 rfl dX3_readCondition_0 rfl (lv_at hl 0 rfl) ?_
  refine g_84 E hK hw fl_X3_30 t_o (v_0 84 o) rfl 4 rfl dX3_readCondition_1 (fun rr1_ => ?_)
  refine j_bipush E 6 rfl dX3_readCondition_4 (by decide) ?_
  refine j_icmp_eq E 9 19 rfl rr1_ (rr (by decide)) dX3_readCondition_6 (by decide) (fun cc2_ => ?_) (fun cc2_ => ?_)
  · refine j_iconst E 20 rfl dX3_readCondition_19 ?_
    refine j_goto E 24 dX3_readCondition_20 (by decide) ?_
    refine j_istore_n E 25 rfl [(2, .int (J 1)), (0, .ref o), (1, .int (J 6))] dX3_readCondition_24 rfl hl (by decide) rfl (fun ls hl => ?_)
    refine j_iload_n E 26 rfl dX3_readCondition_25 rfl (lv_at hl 0 rfl) ?_
    refine j_if_eq E 29 43 rfl (rr (by decide)) dX3_readCondition_26 (by decide) (fun cc3_ => absurd cc3_ (by decide)) (fun _ => ?_)
    refine j_iload_n E 30 rfl dX3_readCondition_29 rfl (lv_at hl 2 rfl) ?_
    refine j_bipush E 32 rfl dX3_readCondition_30 (by decide) ?_
    refine j_icmp_lt E 35 43 rfl (rr (by decide)) (rr (by decide)) dX3_readCondition_32 (by decide) (fun _ => ?_) (fun cc4_ => absurd cc4_ (by decide))
    refine j_aload_n E 44 rfl dX3_readCondition_43 rfl (lv_at hl 1 rfl) ?_
    refine g_84 E hK hw fl_X3_30 t_o (v_0 84 o) rfl 47 rfl dX3_readCondition_44 (fun _ => ?_)
    refine j_bipush E 49 rfl dX3_readCondition_47 (by decide) ?_
    refine j_icmp_ne E 52 72 rfl rr1_ (rr (by decide)) dX3_readCondition_49 (by decide) (fun cc5_ => ?_) (fun cc5_ => ?_)
    · exfalso; omega
    refine j_aload_n E 53 rfl dX3_readCondition_52 rfl (lv_at hl 1 rfl) ?_
    refine zV_v E (c_X3_step l D cy T (v_0) κ o K_ V_ hO t_o  (show RK_ (v_0 300) (T 120 (T 82 o)) (T 121 (T 82 o)) (((v_0 123) (T 82 o))) K_ V_ from hp1) (show 0 ≤ ((v_0 83) o) ∧ ((v_0 83) o) < 400 from by have q_ := RK_lt hp1 (j := (v_0 83 o)) (by omega); omega)) mt_X3_step ml_X3_54 hK hZ hAc hw (cw_rc4 hK hw.1 t_o) hA ⟨Nat.le_of_ble_eq_true rfl, Nat.le_of_ble_eq_true rfl⟩ ⟨Nat.le_of_ble_eq_true rfl, Nat.le_of_ble_eq_true rfl⟩ (As := []) (rest := []) rfl rfl hl.1 (Nat.le_of_ble_eq_true rfl) 56 rfl dX3_readCondition_53 (fun v_6 H locs hq6_ hw => ?_)
    obtain ⟨y83_6, y84_6, ev6_, hh6_⟩ := hq6_
    rw [ev6_] at hw; clear ev6_
    have hw : WK D cy T (upV (upV v_0 83 y83_6) 84 y84_6) A0 s.heap H locs := cw_eq hw (by first | rfl | (funext j_; simp only [upV, reduceIte]; (repeat' split) <;> first | rfl | omega | (subst_vars; rfl)))
    have hh6_ : (y83_6 o) = ((v_0 83) o) + 1 ∧ (y84_6 o) = K_ (((v_0 83) o) + 1) := hh6_
    have s1_ := hh6_
    refine j_aload_n E 57 rfl dX3_readCondition_56 rfl (lv_at hl 1 rfl) ?_
    refine j_iload_n E 58 rfl dX3_readCondition_57 rfl (lv_at hl 2 rfl) ?_
    refine j_iconst E 59 rfl dX3_readCondition_58 ?_
    refine j_iadd E 60 rfl dX3_readCondition_59 ?_
    refine j_lit (z := 7) (by decide) ?_
    refine zV_v E (c_X3_readConditions_n7 l D cy T (upV (upV v_0 83 y83_6) 84 y84_6) κ o K_ V_ hO t_o  (show 0 ≤ ((v_0 86) o) ∧ ((v_0 86) o) ≤ 400 from by omega) (show RK_ (v_0 300) (T 120 (T 82 o)) (T 121 (T 82 o)) (((v_0 123) (T 82 o))) K_ V_ from hp1) (show Cs_ K_ ((y83_6 o)) ((y84_6 o)) (((v_0 80) o)) from Cs_st hp2 (by omega) s1_.1 s1_.2 (by omega))) mt_X3_readConditions ml_X3_57 hK hZ hAc hw (cw_rc4 hK hw.1 t_o) hA ⟨Nat.le_of_ble_eq_true rfl, Nat.le_of_ble_eq_true rfl⟩ ⟨Nat.le_of_ble_eq_true rfl, Nat.le_of_ble_eq_true rfl⟩ (As := [.int (J 7)]) (rest := []) rfl rfl hl.1 (Nat.le_of_ble_eq_true rfl) 63 rfl dX3_readCondition_60 (fun v_7 H locs hq7_ hw => ?_)
    obtain ⟨y80_7, y83_7, y84_7, y86_7, y300_7, ev7_, hh7_⟩ := hq7_
    rw [ev7_] at hw; clear ev7_
    have hw : WK D cy T (upV (upV (upV (upV (upV v_0 80 y80_7) 83 y83_7) 84 y84_7) 86 y86_7) 300 y300_7) A0 s.heap H locs := cw_eq hw (by first | rfl | (funext j_; simp only [upV, reduceIte]; (repeat' split) <;> first | rfl | omega | (subst_vars; rfl)))
    have hh7_ : (0 ≤ (y86_7 o) ∧ (y86_7 o) ≤ 400) ∧ Ro_ (v_0 300) (y300_7) (T 85 o) ∧ Ck_ S4_ (7 : Int) (NA_ K_) K_ V_ ((y83_6 o)) (((v_0 80) o)) ((y83_7 o)) ((y84_7 o)) ((y80_7 o)) := hh7_
    have b_ := hh7_
    rw [s1_.1] at b_
    refine j_aload_n E 64 rfl dX3_readCondition_63 rfl (lv_at hl 1 rfl) ?_
    refine j_bipush E 66 rfl dX3_readCondition_64 (by decide) ?_
    refine zV_v E (c_X3_take l D cy T (upV (upV (upV (upV (upV v_0 80 y80_7) 83 y83_7) 84 y84_7) 86 y86_7) 300 y300_7) κ o 41 K_ V_ hO t_o (rr (by decide)) (show RK_ (y300_7) (T 120 (T 82 o)) (T 121 (T 82 o)) (((v_0 123) (T 82 o))) K_ V_ from RK_ro hp1 b_.2.1 nk_ nv_) (show Cs_ K_ ((y83_7 o)) ((y84_7 o)) ((y80_7 o)) from Ck_cs (Cs_st (a1 := v_0 83 o + 1) (k1 := K_ (v_0 83 o + 1)) hp2 (by omega) rfl rfl (by omega)) b_.2.2) (show 3 < (41 : Int) from by omega)) mt_X3_take ml_X3_47 hK hZ hAc hw (cw_rc4 hK hw.1 t_o) hA ⟨Nat.le_of_ble_eq_true rfl, Nat.le_of_ble_eq_true rfl⟩ ⟨Nat.le_of_ble_eq_true rfl, Nat.le_of_ble_eq_true rfl⟩ (As := [.int (J 41)]) (rest := []) rfl rfl hl.1 (Nat.le_of_ble_eq_true rfl) 69 rfl dX3_readCondition_66 (fun v_8 H locs hq8_ hw => ?_)
    obtain ⟨y80_8, y83_8, y84_8, ev8_, hh8_⟩ := hq8_
    rw [ev8_] at hw; clear ev8_
    have hw : WK D cy T (upV (upV (upV (upV (upV v_0 80 y80_8) 83 y83_8) 84 y84_8) 86 y86_7) 300 y300_7) A0 s.heap H locs := cw_eq hw (by first | rfl | (funext j_; simp only [upV, reduceIte]; (repeat' split) <;> first | rfl | omega | (subst_vars; rfl)))
    have hh8_ : (((y84_7 o) = (41 : Int)) ∧ (y83_8 o) = (y83_7 o) + 1 ∧ (y84_8 o) = K_ ((y83_7 o) + 1) ∧ (y80_8 o) = (y80_7 o)) ∨ (¬ ((y84_7 o) = (41 : Int)) ∧ (y83_8 o) = (y83_7 o) ∧ (y84_8 o) = 2 ∧ (((y80_7 o) = 0 ∧ (y80_8 o) = 1) ∨ (¬ (y80_7 o) = 0 ∧ (y80_8 o) = (y80_7 o)))) := hh8_
    have t_ := hh8_
    refine j_goto E 126 dX3_readCondition_69 (by decide) ?_
    exact hret 126 (upV (upV (upV (upV (upV v_0 80 y80_8) 83 y83_8) 84 y84_8) 86 y86_7) 300 y300_7) _ _ ls hw ⟨y80_8, y83_8, y84_8, y86_7, y300_7, rfl, by first | exact ⟨by omega, Ro_rf, ck_deep rfl hp2 (by omega) rfl r_.1 r_.2⟩ | exact ⟨by omega, b_.2.1, ck_bra (by omega) hp2 (by omega) b_.2.2 t_ (fun q_ => (RK_lt hp1 (ck_k b_.2.2 q_)).2)⟩ | exact ⟨by omega, Ro_tr n_.2.1 ro_, ck_not (by omega) hp2 (by omega) n_.2.2⟩ | exact ⟨by omega, Ro_tr e1_.2.1 (Ro_tr e2_.2.1 ro_), ck_cmp hp2 (by omega) (by omega) e1_.2.2 t_ e2_.2.2⟩⟩ dX3_readCondition_126
  · refine j_aload_n E 10 rfl dX3_readCondition_9 rfl (lv_at hl 0 rfl) ?_
    refine g_84 E hK hw fl_X3_30 t_o (v_0 84 o) rfl 13 rfl dX3_readCondition_10 (fun _ => ?_)
    refine j_sipush E 16 rfl dX3_readCondition_13 (by decide) ?_
    refine j_icmp_ne E 19 23 rfl rr1_ (rr (by decide)) dX3_readCondition_16 (by decide) (fun cc9_ => ?_) (fun cc9_ => ?_)
    · refine j_iconst E 24 rfl dX3_readCondition_23 ?_
      refine j_istore_n E 25 rfl [(2, .int (J 0)), (0, .ref o), (1, .int (J 6))] dX3_readCondition_24 rfl hl (by decide) rfl (fun ls hl => ?_)
      refine j_iload_n E 26 rfl dX3_readCondition_25 rfl (lv_at hl 0 rfl) ?_
      refine j_if_eq E 29 43 rfl (rr (by decide)) dX3_readCondition_26 (by decide) (fun _ => ?_) (fun cc10_ => absurd cc10_ (by decide))
      refine j_aload_n E 44 rfl dX3_readCondition_43 rfl (lv_at hl 1 rfl) ?_
      refine g_84 E hK hw fl_X3_30 t_o (v_0 84 o) rfl 47 rfl dX3_readCondition_44 (fun _ => ?_)
      refine j_bipush E 49 rfl dX3_readCondition_47 (by decide) ?_
      refine j_icmp_ne E 52 72 rfl rr1_ (rr (by decide)) dX3_readCondition_49 (by decide) (fun cc11_ => ?_) (fun cc11_ => ?_)
      rotate_left; · exfalso; omega
      refine j_aload_n E 73 rfl dX3_readCondition_72 rfl (lv_at hl 1 rfl) ?_
      refine g_84 E hK hw fl_X3_30 t_o (v_0 84 o) rfl 76 rfl dX3_readCondition_73 (fun _ => ?_)
      refine j_sipush E 79 rfl dX3_readCondition_76 (by decide) ?_
      refine j_icmp_ne E 82 103 rfl rr1_ (rr (by decide)) dX3_readCondition_79 (by decide) (fun cc12_ => ?_) (fun cc12_ => ?_)
      rotate_left; · exfalso; omega
      refine j_aload_n E 104 rfl dX3_readCondition_103 rfl (lv_at hl 1 rfl) ?_
      refine zV_v E (c_X3_readSum l D cy T (v_0) κ o K_ V_ hO t_o  (show 0 ≤ ((v_0 86) o) ∧ ((v_0 86) o) ≤ 400 from by omega) (show RK_ (v_0 300) (T 120 (T 82 o)) (T 121 (T 82 o)) (((v_0 123) (T 82 o))) K_ V_ from hp1) (show Cs_ K_ (((v_0 83) o)) (((v_0 84) o)) (((v_0 80) o)) from hp2)) mt_X3_readSum ml_X3_51 hK hZ hAc hw (cw_rc4 hK hw.1 t_o) hA ⟨Nat.le_of_ble_eq_true rfl, Nat.le_of_ble_eq_true rfl⟩ ⟨Nat.le_of_ble_eq_true rfl, Nat.le_of_ble_eq_true rfl⟩ (As := []) (rest := []) rfl rfl hl.1 (Nat.le_of_ble_eq_true rfl) 107 rfl dX3_readCondition_104 (fun v_13 H locs hq13_ hw => ?_)
      obtain ⟨y80_13, y83_13, y84_13, y86_13, y300_13, ev13_, hh13_⟩ := hq13_
      rw [ev13_] at hw; clear ev13_
      have hw : WK D cy T (upV (upV (upV (upV (upV v_0 80 y80_13) 83 y83_13) 84 y84_13) 86 y86_13) 300 y300_13) A0 s.heap H locs := cw_eq hw (by first | rfl | (funext j_; simp only [upV, reduceIte]; (repeat' split) <;> first | rfl | omega | (subst_vars; rfl)))
      have hh13_ : (0 ≤ (y86_13 o) ∧ (y86_13 o) ≤ 400) ∧ Ro_ (v_0 300) (y300_13) (T 85 o) ∧ Cp_ S3_ (N4_ K_) K_ V_ (((v_0 83) o)) (((v_0 80) o)) ((y83_13 o)) ((y84_13 o)) ((y80_13 o)) := hh13_
      have e1_ := hh13_
      refine j_aload_n E 108 rfl dX3_readCondition_107 rfl (lv_at hl 1 rfl) ?_
      refine g_84 E hK hw fl_X3_30 t_o (y84_13 o) rfl 111 rfl dX3_readCondition_108 (fun rr14_ => ?_)
      refine j_istore_n E 112 rfl [(3, .int (J (y84_13 o))), (2, .int (J 0)), (0, .ref o), (1, .int (J 6))] dX3_readCondition_111 rfl hl (by decide) rfl (fun ls hl => ?_)
      refine j_aload_n E 113 rfl dX3_readCondition_112 rfl (lv_at hl 2 rfl) ?_
      refine zV_v E (c_X3_takeComparison l D cy T (upV (upV (upV (upV (upV v_0 80 y80_13) 83 y83_13) 84 y84_13) 86 y86_13) 300 y300_13) κ o K_ V_ hO t_o  (show RK_ (y300_13) (T 120 (T 82 o)) (T 121 (T 82 o)) (((v_0 123) (T 82 o))) K_ V_ from RK_ro hp1 e1_.2.1 nk_ nv_) (show Cs_ K_ ((y83_13 o)) ((y84_13 o)) ((y80_13 o)) from Cp_cs hp2 e1_.2.2)) mt_X3_takeComparison ml_X3_88 hK hZ hAc hw (cw_rc4 hK hw.1 t_o) hA ⟨Nat.le_of_ble_eq_true rfl, Nat.le_of_ble_eq_true rfl⟩ ⟨Nat.le_of_ble_eq_true rfl, Nat.le_of_ble_eq_true rfl⟩ (As := []) (rest := []) rfl rfl hl.1 (Nat.le_of_ble_eq_true rfl) 116 rfl dX3_readCondition_113 (fun v_15 H locs hq15_ hw => ?_)
      obtain ⟨y80_15, y83_15, y84_15, ev15_, hh15_⟩ := hq15_
      rw [ev15_] at hw; clear ev15_
      have hw : WK D cy T (upV (upV (upV (upV (upV v_0 80 y80_15) 83 y83_15) 84 y84_15) 86 y86_13) 300 y300_13) A0 s.heap H locs := cw_eq hw (by first | rfl | (funext j_; simp only [upV, reduceIte]; (repeat' split) <;> first | rfl | omega | (subst_vars; rfl)))
      have hh15_ : (((y84_13 o) = 60 ∨ (y84_13 o) = 61 ∨ (y84_13 o) = 62) ∧ (y83_15 o) = (y83_13 o) + 1 ∧ (y84_15 o) = K_ ((y83_13 o) + 1) ∧ (y80_15 o) = (y80_13 o)) ∨ (¬ ((y84_13 o) = 60 ∨ (y84_13 o) = 61 ∨ (y84_13 o) = 62) ∧ (y83_15 o) = (y83_13 o) ∧ (y84_15 o) = 2 ∧ (((y80_13 o) = 0 ∧ (y80_15 o) = 1) ∨ (¬ (y80_13 o) = 0 ∧ (y80_15 o) = (y80_13 o)))) := hh15_
      have t_ := hh15_
      refine j_aload_n E 117 rfl dX3_readCondition_116 rfl (lv_at hl 2 rfl) ?_
      refine zV_v E (c_X3_readSum l D cy T (upV (upV (upV (upV (upV v_0 80 y80_15) 83 y83_15) 84 y84_15) 86 y86_13) 300 y300_13) κ o K_ V_ hO t_o  (show 0 ≤ (y86_13 o) ∧ (y86_13 o) ≤ 400 from by omega) (show RK_ (y300_13) (T 120 (T 82 o)) (T 121 (T 82 o)) (((v_0 123) (T 82 o))) K_ V_ from RK_ro hp1 e1_.2.1 nk_ nv_) (show Cs_ K_ ((y83_15 o)) ((y84_15 o)) ((y80_15 o)) from Ct_cs (Cp_cs hp2 e1_.2.2) t_ (fun q_ => (RK_lt hp1 q_).2))) mt_X3_readSum ml_X3_51 hK hZ hAc hw (cw_rc4 hK hw.1 t_o) hA ⟨Nat.le_of_ble_eq_true rfl, Nat.le_of_ble_eq_true rfl⟩ ⟨Nat.le_of_ble_eq_true rfl, Nat.le_of_ble_eq_true rfl⟩ (As := []) (rest := []) rfl rfl hl.1 (Nat.le_of_ble_eq_true rfl) 120 rfl dX3_readCondition_117 (fun v_16 H locs hq16_ hw => ?_)
      obtain ⟨y80_16, y83_16, y84_16, y86_16, y300_16, ev16_, hh16_⟩ := hq16_
      rw [ev16_] at hw; clear ev16_
      have hw : WK D cy T (upV (upV (upV (upV (upV v_0 80 y80_16) 83 y83_16) 84 y84_16) 86 y86_16) 300 y300_16) A0 s.heap H locs := cw_eq hw (by first | rfl | (funext j_; simp only [upV, reduceIte]; (repeat' split) <;> first | rfl | omega | (subst_vars; rfl)))
      have hh16_ : (0 ≤ (y86_16 o) ∧ (y86_16 o) ≤ 400) ∧ Ro_ (y300_13) (y300_16) (T 85 o) ∧ Cp_ S3_ (N4_ K_) K_ V_ ((y83_15 o)) ((y80_15 o)) ((y83_16 o)) ((y84_16 o)) ((y80_16 o)) := hh16_
      have e2_ := hh16_
      refine j_aload_n E 121 rfl dX3_readCondition_120 rfl (lv_at hl 2 rfl) ?_
      refine j_iload_n E 122 rfl dX3_readCondition_121 rfl (lv_at hl 0 rfl) ?_
      refine j_ineg E 123 rfl dX3_readCondition_122 ?_
      refine j_norm (fun zz17_ rr17_ ee17_ => ?_)
      refine kV_v E (c_X3_emit l D cy T (upV (upV (upV (upV (upV v_0 80 y80_16) 83 y83_16) 84 y84_16) 86 y86_16) 300 y300_16) o zz17_  t_o rr17_ (show 0 ≤ (y86_16 o) ∧ (y86_16 o) ≤ 400 from by omega)) mt_X3_emit ml_X3_60 hK hw (cw_rc4 hK hw.1 t_o) hA ⟨Nat.le_of_ble_eq_true rfl, Nat.le_of_ble_eq_true rfl⟩ ⟨Nat.le_of_ble_eq_true rfl, Nat.le_of_ble_eq_true rfl⟩ (As := [.int (J zz17_)]) (rest := []) rfl rfl hl.1 (Nat.le_of_ble_eq_true rfl) 126 rfl dX3_readCondition_123 (fun v_18 H locs hq18_ hw => ?_)
      obtain ⟨y86_18, y300_18, ev18_, hh18_⟩ := hq18_
      rw [ev18_] at hw; clear ev18_
      have hw : WK D cy T (upV (upV (upV (upV (upV v_0 80 y80_16) 83 y83_16) 84 y84_16) 86 y86_18) 300 y300_18) A0 s.heap H locs := cw_eq hw (by first | rfl | (funext j_; simp only [upV, reduceIte]; (repeat' split) <;> first | rfl | omega | (subst_vars; rfl)))
      have hh18_ : (0 ≤ (y86_18 o) ∧ (y86_18 o) ≤ 400) ∧ Ro_ (y300_16) (y300_18) (T 85 o) := hh18_
      have ro_ := hh18_.2
      exact hret 126 (upV (upV (upV (upV (upV v_0 80 y80_16) 83 y83_16) 84 y84_16) 86 y86_18) 300 y300_18) _ _ ls hw ⟨y80_16, y83_16, y84_16, y86_18, y300_18, rfl, by first | exact ⟨by omega, Ro_rf, ck_deep rfl hp2 (by omega) rfl r_.1 r_.2⟩ | exact ⟨by omega, b_.2.1, ck_bra (by omega) hp2 (by omega) b_.2.2 t_ (fun q_ => (RK_lt hp1 (ck_k b_.2.2 q_)).2)⟩ | exact ⟨by omega, Ro_tr n_.2.1 ro_, ck_not (by omega) hp2 (by omega) n_.2.2⟩ | exact ⟨by omega, Ro_tr e1_.2.1 (Ro_tr e2_.2.1 ro_), ck_cmp hp2 (by omega) (by omega) e1_.2.2 t_ e2_.2.2⟩⟩ dX3_readCondition_126
    · refine j_iconst E 20 rfl dX3_readCondition_19 ?_
      refine j_goto E 24 dX3_readCondition_20 (by decide) ?_
      refine j_istore_n E 25 rfl [(2, .int (J 1)), (0, .ref o), (1, .int (J 6))] dX3_readCondition_24 rfl hl (by decide) rfl (fun ls hl => ?_)
      refine j_iload_n E 26 rfl dX3_readCondition_25 rfl (lv_at hl 0 rfl) ?_
      refine j_if_eq E 29 43 rfl (rr (by decide)) dX3_readCondition_26 (by decide) (fun cc19_ => absurd cc19_ (by decide)) (fun _ => ?_)
      refine j_iload_n E 30 rfl dX3_readCondition_29 rfl (lv_at hl 2 rfl) ?_
      refine j_bipush E 32 rfl dX3_readCondition_30 (by decide) ?_
      refine j_icmp_lt E 35 43 rfl (rr (by decide)) (rr (by decide)) dX3_readCondition_32 (by decide) (fun _ => ?_) (fun cc20_ => absurd cc20_ (by decide))
      refine j_aload_n E 44 rfl dX3_readCondition_43 rfl (lv_at hl 1 rfl) ?_
      refine g_84 E hK hw fl_X3_30 t_o (v_0 84 o) rfl 47 rfl dX3_readCondition_44 (fun _ => ?_)
      refine j_bipush E 49 rfl dX3_readCondition_47 (by decide) ?_
      refine j_icmp_ne E 52 72 rfl rr1_ (rr (by decide)) dX3_readCondition_49 (by decide) (fun cc21_ => ?_) (fun cc21_ => ?_)
      rotate_left; · exfalso; omega
      refine j_aload_n E 73 rfl dX3_readCondition_72 rfl (lv_at hl 1 rfl) ?_
      refine g_84 E hK hw fl_X3_30 t_o (v_0 84 o) rfl 76 rfl dX3_readCondition_73 (fun _ => ?_)
      refine j_sipush E 79 rfl dX3_readCondition_76 (by decide) ?_
      refine j_icmp_ne E 82 103 rfl rr1_ (rr (by decide)) dX3_readCondition_79 (by decide) (fun cc22_ => ?_) (fun cc22_ => ?_)
      · exfalso; omega
      refine j_aload_n E 83 rfl dX3_readCondition_82 rfl (lv_at hl 1 rfl) ?_
      refine zV_v E (c_X3_step l D cy T (v_0) κ o K_ V_ hO t_o  (show RK_ (v_0 300) (T 120 (T 82 o)) (T 121 (T 82 o)) (((v_0 123) (T 82 o))) K_ V_ from hp1) (show 0 ≤ ((v_0 83) o) ∧ ((v_0 83) o) < 400 from by have q_ := RK_lt hp1 (j := (v_0 83 o)) (by omega); omega)) mt_X3_step ml_X3_54 hK hZ hAc hw (cw_rc4 hK hw.1 t_o) hA ⟨Nat.le_of_ble_eq_true rfl, Nat.le_of_ble_eq_true rfl⟩ ⟨Nat.le_of_ble_eq_true rfl, Nat.le_of_ble_eq_true rfl⟩ (As := []) (rest := []) rfl rfl hl.1 (Nat.le_of_ble_eq_true rfl) 86 rfl dX3_readCondition_83 (fun v_23 H locs hq23_ hw => ?_)
      obtain ⟨y83_23, y84_23, ev23_, hh23_⟩ := hq23_
      rw [ev23_] at hw; clear ev23_
      have hw : WK D cy T (upV (upV v_0 83 y83_23) 84 y84_23) A0 s.heap H locs := cw_eq hw (by first | rfl | (funext j_; simp only [upV, reduceIte]; (repeat' split) <;> first | rfl | omega | (subst_vars; rfl)))
      have hh23_ : (y83_23 o) = ((v_0 83) o) + 1 ∧ (y84_23 o) = K_ (((v_0 83) o) + 1) := hh23_
      have s2_ := hh23_
      refine j_aload_n E 87 rfl dX3_readCondition_86 rfl (lv_at hl 1 rfl) ?_
      refine j_iload_n E 88 rfl dX3_readCondition_87 rfl (lv_at hl 2 rfl) ?_
      refine j_iconst E 89 rfl dX3_readCondition_88 ?_
      refine j_iadd E 90 rfl dX3_readCondition_89 ?_
      refine j_lit (z := 7) (by decide) ?_
      refine zV_v E (c_X3_readCondition_n7 l D cy T (upV (upV v_0 83 y83_23) 84 y84_23) κ o K_ V_ hO t_o  (show 0 ≤ ((v_0 86) o) ∧ ((v_0 86) o) ≤ 400 from by omega) (show RK_ (v_0 300) (T 120 (T 82 o)) (T 121 (T 82 o)) (((v_0 123) (T 82 o))) K_ V_ from hp1) (show Cs_ K_ ((y83_23 o)) ((y84_23 o)) (((v_0 80) o)) from Cs_st hp2 (by omega) s2_.1 s2_.2 (by omega))) mt_X3_readCondition ml_X3_85 hK hZ hAc hw (cw_rc4 hK hw.1 t_o) hA ⟨Nat.le_of_ble_eq_true rfl, Nat.le_of_ble_eq_true rfl⟩ ⟨Nat.le_of_ble_eq_true rfl, Nat.le_of_ble_eq_true rfl⟩ (As := [.int (J 7)]) (rest := []) rfl rfl hl.1 (Nat.le_of_ble_eq_true rfl) 93 rfl dX3_readCondition_90 (fun v_24 H locs hq24_ hw => ?_)
      obtain ⟨y80_24, y83_24, y84_24, y86_24, y300_24, ev24_, hh24_⟩ := hq24_
      rw [ev24_] at hw; clear ev24_
      have hw : WK D cy T (upV (upV (upV (upV (upV v_0 80 y80_24) 83 y83_24) 84 y84_24) 86 y86_24) 300 y300_24) A0 s.heap H locs := cw_eq hw (by first | rfl | (funext j_; simp only [upV, reduceIte]; (repeat' split) <;> first | rfl | omega | (subst_vars; rfl)))
      have hh24_ : (0 ≤ (y86_24 o) ∧ (y86_24 o) ≤ 400) ∧ Ro_ (v_0 300) (y300_24) (T 85 o) ∧ Ck_ S3_ (7 : Int) TX_ K_ V_ ((y83_23 o)) (((v_0 80) o)) ((y83_24 o)) ((y84_24 o)) ((y80_24 o)) := hh24_
      have n_ := hh24_
      rw [s2_.1] at n_
      refine j_aload_n E 94 rfl dX3_readCondition_93 rfl (lv_at hl 1 rfl) ?_
      refine j_sipush E 97 rfl dX3_readCondition_94 (by decide) ?_
      refine kV_v E (c_X3_emit l D cy T (upV (upV (upV (upV (upV v_0 80 y80_24) 83 y83_24) 84 y84_24) 86 y86_24) 300 y300_24) o ((-306))  t_o (rr (by decide)) (show 0 ≤ (y86_24 o) ∧ (y86_24 o) ≤ 400 from by omega)) mt_X3_emit ml_X3_60 hK hw (cw_rc4 hK hw.1 t_o) hA ⟨Nat.le_of_ble_eq_true rfl, Nat.le_of_ble_eq_true rfl⟩ ⟨Nat.le_of_ble_eq_true rfl, Nat.le_of_ble_eq_true rfl⟩ (As := [.int (J ((-306)))]) (rest := []) rfl rfl hl.1 (Nat.le_of_ble_eq_true rfl) 100 rfl dX3_readCondition_97 (fun v_25 H locs hq25_ hw => ?_)
      obtain ⟨y86_25, y300_25, ev25_, hh25_⟩ := hq25_
      rw [ev25_] at hw; clear ev25_
      have hw : WK D cy T (upV (upV (upV (upV (upV v_0 80 y80_24) 83 y83_24) 84 y84_24) 86 y86_25) 300 y300_25) A0 s.heap H locs := cw_eq hw (by first | rfl | (funext j_; simp only [upV, reduceIte]; (repeat' split) <;> first | rfl | omega | (subst_vars; rfl)))
      have hh25_ : (0 ≤ (y86_25 o) ∧ (y86_25 o) ≤ 400) ∧ Ro_ (y300_24) (y300_25) (T 85 o) := hh25_
      have ro_ := hh25_.2
      refine j_goto E 126 dX3_readCondition_100 (by decide) ?_
      exact hret 126 (upV (upV (upV (upV (upV v_0 80 y80_24) 83 y83_24) 84 y84_24) 86 y86_25) 300 y300_25) _ _ ls hw ⟨y80_24, y83_24, y84_24, y86_25, y300_25, rfl, by first | exact ⟨by omega, Ro_rf, ck_deep rfl hp2 (by omega) rfl r_.1 r_.2⟩ | exact ⟨by omega, b_.2.1, ck_bra (by omega) hp2 (by omega) b_.2.2 t_ (fun q_ => (RK_lt hp1 (ck_k b_.2.2 q_)).2)⟩ | exact ⟨by omega, Ro_tr n_.2.1 ro_, ck_not (by omega) hp2 (by omega) n_.2.2⟩ | exact ⟨by omega, Ro_tr e1_.2.1 (Ro_tr e2_.2.1 ro_), ck_cmp hp2 (by omega) (by omega) e1_.2.2 t_ e2_.2.2⟩⟩ dX3_readCondition_126
set_option maxHeartbeats 4000000 in
set_option maxRecDepth 100000 in
theorem c_X3_readConditions_n6 (l : Launch) (D : va_G) (cy : Nat → ClassId) (T : Nat → Nat → Nat) (v_0 : Nat → Nat → Int) (κ : Nat → Nat → Nat) (o : Nat) (K_ : Int → Int) (V_ : Int → Int) (hO : ∀ x, ow T x → κ 2 2 ≤ x) (t_o : T 0 o = 4) (hp0 : 0 ≤ (v_0 86 o) ∧ (v_0 86 o) ≤ 400) (hp1 : RK_ (v_0 300) (T 120 (T 82 o)) (T 121 (T 82 o)) ((v_0 123 (T 82 o))) K_ V_) (hp2 : Cs_ K_ ((v_0 83 o)) ((v_0 84 o)) ((v_0 80 o))) : KZ l D cy κ T yX3_readConditions cX3_readConditions 5 none 10 [.ref o, .int (J 6)] v_0 (KV (fun (v_2 : Nat → Nat → Int) => ∃ (y80_2 : Nat → Int) (y83_2 : Nat → Int) (y84_2 : Nat → Int) (y86_2 : Nat → Int) (y300_2 : Nat → Int) , v_2 = upV (upV (upV (upV (upV v_0 80 y80_2) 83 y83_2) 84 y84_2) 86 y86_2) 300 y300_2 ∧ ((0 ≤ (y86_2 o) ∧ (y86_2 o) ≤ 400) ∧ Ro_ (v_0 300) (y300_2) (T 85 o) ∧ Ck_ S4_ (6 : Int) (NA_ K_) K_ V_ ((v_0 83 o)) ((v_0 80 o)) ((y83_2 o)) ((y84_2 o)) ((y80_2 o))))) := by
  refine KZ.ofv (by decide) (Nat.le_of_ble_eq_true rfl) hO ?_
  intro p e s m below meth c ls ar QW A0 H locs E hK hZ hA hAc hw hl hret
  have hl : lv_has ls 5 [(0, .ref o), (1, .int (J 6))] := hl
  have hT : WT T := hw.1.2.1
  have nk_ : T 120 (T 82 o) ≠ T 85 o := ro_ne (wo_120 hT (wt_82 hT t_o)) (wo_85 hT t_o) (by decide) (by decide) (by omega)
  have nv_ : T 121 (T 82 o) ≠ T 85 o := ro_ne (wo_121 hT (wt_82 hT t_o)) (wo_85 hT t_o) (by decide) (by decide) (by omega)
  have c0_ := hp2.1
  refine j_aload_n E 1 rfl dX3_readConditions_0 rfl (lv_at hl 0 rfl) ?_
  refine j_iload_n E 2 rfl dX3_readConditions_1 rfl (lv_at hl 1 rfl) ?_
  refine zV_v E (c_X3_readCondition_n6 l D cy T (v_0) κ o K_ V_ hO t_o  (show 0 ≤ ((v_0 86) o) ∧ ((v_0 86) o) ≤ 400 from by omega) (show RK_ (v_0 300) (T 120 (T 82 o)) (T 121 (T 82 o)) (((v_0 123) (T 82 o))) K_ V_ from hp1) (show Cs_ K_ (((v_0 83) o)) (((v_0 84) o)) (((v_0 80) o)) from hp2)) mt_X3_readCondition ml_X3_85 hK hZ hAc hw (cw_rc4 hK hw.1 t_o) hA ⟨Nat.le_of_ble_eq_true rfl, Nat.le_of_ble_eq_true rfl⟩ ⟨Nat.le_of_ble_eq_true rfl, Nat.le_of_ble_eq_true rfl⟩ (As := [.int (J 6)]) (rest := []) rfl rfl hl.1 (Nat.le_of_ble_eq_true rfl) 5 rfl dX3_readConditions_2 (fun v_1 H locs hq1_ hw => ?_)
  obtain ⟨y80_1, y83_1, y84_1, y86_1, y300_1, ev1_, hh1_⟩ := hq1_
  rw [ev1_] at hw; clear ev1_
  have hw : WK D cy T (upV (upV (upV (upV (upV v_0 80 y80_1) 83 y83_1) 84 y84_1) 86 y86_1) 300 y300_1) A0 s.heap H locs := cw_eq hw (by first | rfl | (funext j_; simp only [upV, reduceIte]; (repeat' split) <;> first | rfl | omega | (subst_vars; rfl)))
  have hh1_ : (0 ≤ (y86_1 o) ∧ (y86_1 o) ≤ 400) ∧ Ro_ (v_0 300) (y300_1) (T 85 o) ∧ Ck_ S3_ (6 : Int) TX_ K_ V_ (((v_0 83) o)) (((v_0 80) o)) ((y83_1 o)) ((y84_1 o)) ((y80_1 o)) := hh1_
  have u0_ := hh1_
  refine j_iconst E 6 rfl dX3_readConditions_5 ?_
  refine j_istore_n E 7 rfl [(2, .int (J 0)), (0, .ref o), (1, .int (J 6))] dX3_readConditions_6 rfl hl (by decide) rfl (fun ls hl => ?_)
  refine j_iconst E 8 rfl dX3_readConditions_7 ?_
  refine j_istore_n E 9 rfl [(3, .int (J 0)), (2, .int (J 0)), (0, .ref o), (1, .int (J 6))] dX3_readConditions_8 rfl hl (by decide) rfl (fun ls hl => ?_)
  have L9_2 : ∀ (k9 : Nat) (l2_9 l3_9 : Int) (y80_c9 : Nat → Int) (y83_c9 : Nat → Int) (y84_c9 : Nat → Int) (y86_c9 : Nat → Int) (y300_c9 : Nat → Int) (H : Heap) (locs : List Loc) (ls : Array Slot), inR l2_9 → inR l3_9 → ((0 ≤ (y86_c9 o) ∧ (y86_c9 o) ≤ 400) ∧ (Ro_ (v_0 300) (y300_c9) (T 85 o)) ∧ 0 ≤ l3_9 ∧ Co_ (6 : Int) {K_} {V_} (v_0 83 o) (v_0 80 o) l2_9 l3_9 ((y83_c9 o)) ((y84_c9 o)) ((y80_c9 o))) → (400 - l3_9).toNat < k9 → WK D cy T (upV (upV (upV (upV (upV v_0 80 y80_c9) 83 y83_c9) 84 y84_c9) 86 y86_c9) 300 y300_c9) A0 s.heap H locs → lv_has ls 5 [(0, .ref o), (1, .int (J 6)), (2, .int (J l2_9)), (3, .int (J l3_9))] → W p l e (rmd 10 0 0) s m ar below meth c H locs 0 0 QW (F0 m 9 ls []) := by
    intro k9
    induction k9 with
    | zero =>
      intro l2_9 l3_9 y80_c9 y83_c9 y84_c9 y86_c9 y300_c9 H locs ls r_l2_9 r_l3_9 iv9 ms9 hw hl
      exact absurd ms9 (Nat.not_lt_zero _)
    | succ k9 ih9 =>
      intro l2_9 l3_9 y80_c9 y83_c9 y84_c9 y86_c9 y300_c9 H locs ls r_l2_9 r_l3_9 iv9 ms9 hw hl
      have cs1_ := Co_cs hp2 iv9.2.2.2
      unfold Cs_ at cs1_
      have L111_4 : ∀ (H : Heap) (locs : List Loc) (ls : Array Slot), (¬ ((y84_c9 o) = 305 ∨ (y84_c9 o) = 304)) → WK D cy T (upV (upV (upV (upV (upV v_0 80 y80_c9) 83 y83_c9) 84 y84_c9) 86 y86_c9) 300 y300_c9) A0 s.heap H locs → lv_has ls 5 [(0, .ref o), (1, .int (J 6)), (2, .int (J l2_9)), (3, .int (J l3_9))] → W p l e (rmd 10 0 0) s m ar below meth c H locs 0 0 QW (F0 m 111 ls []) := by
        intro H locs ls iv111 hw hl
        refine j_iload_n E 112 rfl dX3_readConditions_111 rfl (lv_at hl 2 rfl) ?_
        refine j_if_eq E 115 122 rfl r_l2_9 dX3_readConditions_112 (by decide) (fun cc6_ => ?_) (fun cc6_ => ?_)
        · exact hret 122 (upV (upV (upV (upV (upV v_0 80 y80_c9) 83 y83_c9) 84 y84_c9) 86 y86_c9) 300 y300_c9) _ _ ls hw ⟨y80_c9, y83_c9, y84_c9, y86_c9, y300_c9, rfl, by first | exact ⟨by omega, Ro_tr iv9.2.1 roe_, Co_end iv9.2.2.2 iv111 (by omega)⟩ | exact ⟨by omega, iv9.2.1, Co_end iv9.2.2.2 iv111 (by omega)⟩⟩ dX3_readConditions_122
        · refine j_aload_n E 116 rfl dX3_readConditions_115 rfl (lv_at hl 0 rfl) ?_
          refine j_sipush E 119 rfl dX3_readConditions_116 (by decide) ?_
          refine kV_v E (c_X3_emit l D cy T (upV (upV (upV (upV (upV v_0 80 y80_c9) 83 y83_c9) 84 y84_c9) 86 y86_c9) 300 y300_c9) o ((-304))  t_o (rr (by decide)) (show 0 ≤ (y86_c9 o) ∧ (y86_c9 o) ≤ 400 from by omega)) mt_X3_emit ml_X3_60 hK hw (cw_rc4 hK hw.1 t_o) hA ⟨Nat.le_of_ble_eq_true rfl, Nat.le_of_ble_eq_true rfl⟩ ⟨Nat.le_of_ble_eq_true rfl, Nat.le_of_ble_eq_true rfl⟩ (As := [.int (J ((-304)))]) (rest := []) rfl rfl hl.1 (Nat.le_of_ble_eq_true rfl) 122 rfl dX3_readConditions_119 (fun v_7 H locs hq7_ hw => ?_)
          obtain ⟨y86_7, y300_7, ev7_, hh7_⟩ := hq7_
          rw [ev7_] at hw; clear ev7_
          have hw : WK D cy T (upV (upV (upV (upV (upV v_0 80 y80_c9) 83 y83_c9) 84 y84_c9) 86 y86_7) 300 y300_7) A0 s.heap H locs := cw_eq hw (by first | rfl | (funext j_; simp only [upV, reduceIte]; (repeat' split) <;> first | rfl | omega | (subst_vars; rfl)))
          have hh7_ : (0 ≤ (y86_7 o) ∧ (y86_7 o) ≤ 400) ∧ Ro_ (y300_c9) (y300_7) (T 85 o) := hh7_
          have roe_ := hh7_.2
          exact hret 122 (upV (upV (upV (upV (upV v_0 80 y80_c9) 83 y83_c9) 84 y84_c9) 86 y86_7) 300 y300_7) _ _ ls hw ⟨y80_c9, y83_c9, y84_c9, y86_7, y300_7, rfl, by first | exact ⟨by omega, Ro_tr iv9.2.1 roe_, Co_end iv9.2.2.2 iv111 (by omega)⟩ | exact ⟨by omega, iv9.2.1, Co_end iv9.2.2.2 iv111 (by omega)⟩⟩ dX3_readConditions_122
      refine j_iload_n E 10 rfl dX3_readConditions_9 rfl (lv_at hl 3 rfl) ?_
      refine j_sipush E 13 rfl dX3_readConditions_10 (by decide) ?_
      refine j_icmp_ge E 16 111 rfl r_l3_9 (rr (by decide)) dX3_readConditions_13 (by decide) (fun cc8_ => ?_) (fun cc8_ => ?_)
      · exact L111_4   H locs ls  (by first | omega | exact Co_i iv9.2.2.2 (by omega) (by omega)) hw (lv_sub hl [0, 1, 2, 3] rfl)
      · refine j_aload_n E 17 rfl dX3_readConditions_16 rfl (lv_at hl 0 rfl) ?_
        refine g_84 E hK hw fl_X3_30 t_o (y84_c9 o) rfl 20 rfl dX3_readConditions_17 (fun rr9_ => ?_)
        refine j_sipush E 23 rfl dX3_readConditions_20 (by decide) ?_
        refine j_icmp_eq E 26 36 rfl rr9_ (rr (by decide)) dX3_readConditions_23 (by decide) (fun cc10_ => ?_) (fun cc10_ => ?_)
        · have L51_11 : ∀ (s0_51 : Int) (H : Heap) (locs : List Loc) (ls : Array Slot), inR s0_51 → ((s0_51 = 1 ∧ (y84_c9 o) = 305) ∨ (s0_51 = 0 ∧ (y84_c9 o) = 304)) → WK D cy T (upV (upV (upV (upV (upV v_0 80 y80_c9) 83 y83_c9) 84 y84_c9) 86 y86_c9) 300 y300_c9) A0 s.heap H locs → lv_has ls 5 [(0, .ref o), (1, .int (J 6)), (2, .int (J l2_9)), (3, .int (J l3_9))] → W p l e (rmd 10 0 0) s m ar below meth c H locs 0 0 QW (F0 m 51 ls [.int (J s0_51)]) := by
            intro s0_51 H locs ls r_s0_51 iv51 hw hl
            refine j_istore E 53 rfl [(4, .int (J s0_51)), (0, .ref o), (1, .int (J 6)), (2, .int (J l2_9)), (3, .int (J l3_9))] dX3_readConditions_51 hl (by decide) rfl (fun ls hl => ?_)
            have L69_13 : ∀ (y86_c69 : Nat → Int) (y300_c69 : Nat → Int) (H : Heap) (locs : List Loc) (ls : Array Slot), ((0 ≤ (y86_c69 o) ∧ (y86_c69 o) ≤ 400) ∧ Ro_ (v_0 300) (y300_c69) (T 85 o)) → WK D cy T (upV (upV (upV (upV (upV v_0 80 y80_c9) 83 y83_c9) 84 y84_c9) 86 y86_c69) 300 y300_c69) A0 s.heap H locs → lv_has ls 5 [(0, .ref o), (1, .int (J 6)), (2, .int (J l2_9)), (3, .int (J l3_9)), (4, .int (J s0_51))] → W p l e (rmd 10 0 0) s m ar below meth c H locs 0 0 QW (F0 m 69 ls []) := by
              intro y86_c69 y300_c69 H locs ls iv69 hw hl
              refine j_aload_n E 70 rfl dX3_readConditions_69 rfl (lv_at hl 0 rfl) ?_
              refine zV_v E (c_X3_step l D cy T (upV (upV (upV (upV (upV v_0 80 y80_c9) 83 y83_c9) 84 y84_c9) 86 y86_c69) 300 y300_c69) κ o K_ V_ hO t_o  (show RK_ (y300_c69) (T 120 (T 82 o)) (T 121 (T 82 o)) (((v_0 123) (T 82 o))) K_ V_ from RK_ro hp1 iv69.2 nk_ nv_) (show 0 ≤ (y83_c9 o) ∧ (y83_c9 o) < 400 from by have q_ := RK_lt hp1 (j := (y83_c9 o)) (by omega); omega)) mt_X3_step ml_X3_54 hK hZ hAc hw (cw_rc4 hK hw.1 t_o) hA ⟨Nat.le_of_ble_eq_true rfl, Nat.le_of_ble_eq_true rfl⟩ ⟨Nat.le_of_ble_eq_true rfl, Nat.le_of_ble_eq_true rfl⟩ (As := []) (rest := []) rfl rfl hl.1 (Nat.le_of_ble_eq_true rfl) 73 rfl dX3_readConditions_70 (fun v_15 H locs hq15_ hw => ?_)
              obtain ⟨y83_15, y84_15, ev15_, hh15_⟩ := hq15_
              rw [ev15_] at hw; clear ev15_
              have hw : WK D cy T (upV (upV (upV (upV (upV v_0 80 y80_c9) 83 y83_15) 84 y84_15) 86 y86_c69) 300 y300_c69) A0 s.heap H locs := cw_eq hw (by first | rfl | (funext j_; simp only [upV, reduceIte]; (repeat' split) <;> first | rfl | omega | (subst_vars; rfl)))
              have hh15_ : (y83_15 o) = (y83_c9 o) + 1 ∧ (y84_15 o) = K_ ((y83_c9 o) + 1) := hh15_
              have s_ := hh15_
              refine j_aload_n E 74 rfl dX3_readConditions_73 rfl (lv_at hl 0 rfl) ?_
              refine j_iload_n E 75 rfl dX3_readConditions_74 rfl (lv_at hl 1 rfl) ?_
              refine zV_v E (c_X3_readCondition_n6 l D cy T (upV (upV (upV (upV (upV v_0 80 y80_c9) 83 y83_15) 84 y84_15) 86 y86_c69) 300 y300_c69) κ o K_ V_ hO t_o  (show 0 ≤ (y86_c69 o) ∧ (y86_c69 o) ≤ 400 from by omega) (show RK_ (y300_c69) (T 120 (T 82 o)) (T 121 (T 82 o)) (((v_0 123) (T 82 o))) K_ V_ from RK_ro hp1 iv69.2 nk_ nv_) (show Cs_ K_ ((y83_15 o)) ((y84_15 o)) ((y80_c9 o)) from Cs_st (Co_cs hp2 iv9.2.2.2) (by omega) s_.1 s_.2 (by omega))) mt_X3_readCondition ml_X3_85 hK hZ hAc hw (cw_rc4 hK hw.1 t_o) hA ⟨Nat.le_of_ble_eq_true rfl, Nat.le_of_ble_eq_true rfl⟩ ⟨Nat.le_of_ble_eq_true rfl, Nat.le_of_ble_eq_true rfl⟩ (As := [.int (J 6)]) (rest := []) rfl rfl hl.1 (Nat.le_of_ble_eq_true rfl) 78 rfl dX3_readConditions_75 (fun v_16 H locs hq16_ hw => ?_)
              obtain ⟨y80_16, y83_16, y84_16, y86_16, y300_16, ev16_, hh16_⟩ := hq16_
              rw [ev16_] at hw; clear ev16_
              have hw : WK D cy T (upV (upV (upV (upV (upV v_0 80 y80_16) 83 y83_16) 84 y84_16) 86 y86_16) 300 y300_16) A0 s.heap H locs := cw_eq hw (by first | rfl | (funext j_; simp only [upV, reduceIte]; (repeat' split) <;> first | rfl | omega | (subst_vars; rfl)))
              have hh16_ : (0 ≤ (y86_16 o) ∧ (y86_16 o) ≤ 400) ∧ Ro_ (y300_c69) (y300_16) (T 85 o) ∧ Ck_ S3_ (6 : Int) TX_ K_ V_ ((y83_15 o)) ((y80_c9 o)) ((y83_16 o)) ((y84_16 o)) ((y80_16 o)) := hh16_
              have u_ := hh16_
              rw [s_.1] at u_
              refine j_iload E 80 rfl dX3_readConditions_78 (lv_at hl 4 rfl) ?_
              refine j_if_eq E 83 90 rfl r_s0_51 dX3_readConditions_80 (by decide) (fun cc17_ => ?_) (fun cc17_ => ?_)
              · have L104_18 : ∀ (s0_104 : Int) (H : Heap) (locs : List Loc) (ls : Array Slot), inR s0_104 → (((l2_9 ≠ 0 ∨ s0_51 = 0) ∧ s0_104 = 1) ∨ (l2_9 = 0 ∧ s0_51 ≠ 0 ∧ s0_104 = 0)) → WK D cy T (upV (upV (upV (upV (upV v_0 80 y80_16) 83 y83_16) 84 y84_16) 86 y86_16) 300 y300_16) A0 s.heap H locs → lv_has ls 5 [(0, .ref o), (1, .int (J 6)), (2, .int (J l2_9)), (3, .int (J l3_9)), (4, .int (J s0_51))] → W p l e (rmd 10 0 0) s m ar below meth c H locs 0 0 QW (F0 m 104 ls [.int (J s0_104)]) := by
                  intro s0_104 H locs ls r_s0_104 iv104 hw hl
                  refine j_istore_n E 105 rfl [(2, .int (J s0_104)), (0, .ref o), (1, .int (J 6)), (3, .int (J l3_9)), (4, .int (J s0_51))] dX3_readConditions_104 rfl hl (by decide) rfl (fun ls hl => ?_)
                  refine j_iinc E 108 rfl [(3, .int (J (l3_9 + 1))), (2, .int (J s0_104)), (0, .ref o), (1, .int (J 6)), (4, .int (J s0_51))] dX3_readConditions_105 hl (kk := 3) rfl (by decide) rfl (fun ls hl => ?_)
                  refine j_goto E 9 dX3_readConditions_108 (by decide) ?_
                  exact ih9 s0_104 (l3_9 + 1) y80_16 y83_16 y84_16 y86_16 y300_16 H locs ls r_s0_104 (rr (by omega)) (by first | exact ⟨by omega, Ro_tr iv69.2 (Ro_tr u_.2.1 ro9_), by omega, by rw [show s0_104 = l2_9 by omega]; exact Co_and iv9.2.2.2 (by omega) u_.2.2⟩ | exact ⟨by omega, Ro_tr iv69.2 u_.2.1, by omega, by rw [show s0_104 = 1 by omega]; exact Co_or iv9.2.2.2 (by omega) u_.2.2⟩ | (exfalso; omega)) (by omega) hw (lv_sub hl [2, 3, 1, 0] rfl)
                refine j_iload_n E 91 rfl dX3_readConditions_90 rfl (lv_at hl 2 rfl) ?_
                refine j_if_ne E 94 99 rfl r_l2_9 dX3_readConditions_91 (by decide) (fun cc20_ => ?_) (fun cc20_ => ?_)
                · refine j_iconst E 100 rfl dX3_readConditions_99 ?_
                  refine j_goto E 104 dX3_readConditions_100 (by decide) ?_
                  exact L104_18 1  H locs ls (rr (by decide)) (by omega) hw (lv_sub hl [0, 1, 2, 3, 4] rfl)
                · refine j_iload E 96 rfl dX3_readConditions_94 (lv_at hl 4 rfl) ?_
                  refine j_if_ne E 99 103 rfl r_s0_51 dX3_readConditions_96 (by decide) (fun cc21_ => ?_) (fun cc21_ => ?_)
                  · exfalso; omega
                  refine j_iconst E 100 rfl dX3_readConditions_99 ?_
                  refine j_goto E 104 dX3_readConditions_100 (by decide) ?_
                  exact L104_18 1  H locs ls (rr (by decide)) (by omega) hw (lv_sub hl [0, 1, 2, 3, 4] rfl)
              · refine j_aload_n E 84 rfl dX3_readConditions_83 rfl (lv_at hl 0 rfl) ?_
                refine j_sipush E 87 rfl dX3_readConditions_84 (by decide) ?_
                refine kV_v E (c_X3_emit l D cy T (upV (upV (upV (upV (upV v_0 80 y80_16) 83 y83_16) 84 y84_16) 86 y86_16) 300 y300_16) o ((-305))  t_o (rr (by decide)) (show 0 ≤ (y86_16 o) ∧ (y86_16 o) ≤ 400 from by omega)) mt_X3_emit ml_X3_60 hK hw (cw_rc4 hK hw.1 t_o) hA ⟨Nat.le_of_ble_eq_true rfl, Nat.le_of_ble_eq_true rfl⟩ ⟨Nat.le_of_ble_eq_true rfl, Nat.le_of_ble_eq_true rfl⟩ (As := [.int (J ((-305)))]) (rest := []) rfl rfl hl.1 (Nat.le_of_ble_eq_true rfl) 90 rfl dX3_readConditions_87 (fun v_22 H locs hq22_ hw => ?_)
                obtain ⟨y86_22, y300_22, ev22_, hh22_⟩ := hq22_
                rw [ev22_] at hw; clear ev22_
                have hw : WK D cy T (upV (upV (upV (upV (upV v_0 80 y80_16) 83 y83_16) 84 y84_16) 86 y86_22) 300 y300_22) A0 s.heap H locs := cw_eq hw (by first | rfl | (funext j_; simp only [upV, reduceIte]; (repeat' split) <;> first | rfl | omega | (subst_vars; rfl)))
                have hh22_ : (0 ≤ (y86_22 o) ∧ (y86_22 o) ≤ 400) ∧ Ro_ (y300_16) (y300_22) (T 85 o) := hh22_
                have ro9_ := hh22_.2
                have L104_23 : ∀ (s0_104 : Int) (H : Heap) (locs : List Loc) (ls : Array Slot), inR s0_104 → (((l2_9 ≠ 0 ∨ s0_51 = 0) ∧ s0_104 = 1) ∨ (l2_9 = 0 ∧ s0_51 ≠ 0 ∧ s0_104 = 0)) → WK D cy T (upV (upV (upV (upV (upV v_0 80 y80_16) 83 y83_16) 84 y84_16) 86 y86_22) 300 y300_22) A0 s.heap H locs → lv_has ls 5 [(0, .ref o), (1, .int (J 6)), (2, .int (J l2_9)), (3, .int (J l3_9)), (4, .int (J s0_51))] → W p l e (rmd 10 0 0) s m ar below meth c H locs 0 0 QW (F0 m 104 ls [.int (J s0_104)]) := by
                  intro s0_104 H locs ls r_s0_104 iv104 hw hl
                  refine j_istore_n E 105 rfl [(2, .int (J s0_104)), (0, .ref o), (1, .int (J 6)), (3, .int (J l3_9)), (4, .int (J s0_51))] dX3_readConditions_104 rfl hl (by decide) rfl (fun ls hl => ?_)
                  refine j_iinc E 108 rfl [(3, .int (J (l3_9 + 1))), (2, .int (J s0_104)), (0, .ref o), (1, .int (J 6)), (4, .int (J s0_51))] dX3_readConditions_105 hl (kk := 3) rfl (by decide) rfl (fun ls hl => ?_)
                  refine j_goto E 9 dX3_readConditions_108 (by decide) ?_
                  exact ih9 s0_104 (l3_9 + 1) y80_16 y83_16 y84_16 y86_22 y300_22 H locs ls r_s0_104 (rr (by omega)) (by first | exact ⟨by omega, Ro_tr iv69.2 (Ro_tr u_.2.1 ro9_), by omega, by rw [show s0_104 = l2_9 by omega]; exact Co_and iv9.2.2.2 (by omega) u_.2.2⟩ | exact ⟨by omega, Ro_tr iv69.2 u_.2.1, by omega, by rw [show s0_104 = 1 by omega]; exact Co_or iv9.2.2.2 (by omega) u_.2.2⟩ | (exfalso; omega)) (by omega) hw (lv_sub hl [2, 3, 1, 0] rfl)
                refine j_iload_n E 91 rfl dX3_readConditions_90 rfl (lv_at hl 2 rfl) ?_
                refine j_if_ne E 94 99 rfl r_l2_9 dX3_readConditions_91 (by decide) (fun cc25_ => ?_) (fun cc25_ => ?_)
                · refine j_iconst E 100 rfl dX3_readConditions_99 ?_
                  refine j_goto E 104 dX3_readConditions_100 (by decide) ?_
                  exact L104_23 1  H locs ls (rr (by decide)) (by omega) hw (lv_sub hl [0, 1, 2, 3, 4] rfl)
                · refine j_iload E 96 rfl dX3_readConditions_94 (lv_at hl 4 rfl) ?_
                  refine j_if_ne E 99 103 rfl r_s0_51 dX3_readConditions_96 (by decide) (fun cc26_ => ?_) (fun cc26_ => ?_)
                  rotate_left; · exfalso; omega
                  refine j_iconst E 104 rfl dX3_readConditions_103 ?_
                  exact L104_23 0  H locs ls (rr (by decide)) (by omega) hw (lv_sub hl [0, 1, 2, 3, 4] rfl)
            refine j_iload E 55 rfl dX3_readConditions_53 (lv_at hl 0 rfl) ?_
            refine j_if_ne E 58 69 rfl r_s0_51 dX3_readConditions_55 (by decide) (fun cc27_ => ?_) (fun cc27_ => ?_)
            · exact L69_13  y86_c9 y300_c9 H locs ls  (by first | exact ⟨by omega, iv9.2.1⟩ | exact ⟨by omega, Ro_tr iv9.2.1 ro7_⟩) hw (lv_sub hl [1, 2, 3, 4, 0] rfl)
            · refine j_iload_n E 59 rfl dX3_readConditions_58 rfl (lv_at hl 3 rfl) ?_
              refine j_if_eq E 62 69 rfl r_l2_9 dX3_readConditions_59 (by decide) (fun cc28_ => ?_) (fun cc28_ => ?_)
              · exact L69_13  y86_c9 y300_c9 H locs ls  (by first | exact ⟨by omega, iv9.2.1⟩ | exact ⟨by omega, Ro_tr iv9.2.1 ro7_⟩) hw (lv_sub hl [1, 2, 3, 4, 0] rfl)
              · refine j_aload_n E 63 rfl dX3_readConditions_62 rfl (lv_at hl 1 rfl) ?_
                refine j_sipush E 66 rfl dX3_readConditions_63 (by decide) ?_
                refine kV_v E (c_X3_emit l D cy T (upV (upV (upV (upV (upV v_0 80 y80_c9) 83 y83_c9) 84 y84_c9) 86 y86_c9) 300 y300_c9) o ((-304))  t_o (rr (by decide)) (show 0 ≤ (y86_c9 o) ∧ (y86_c9 o) ≤ 400 from by omega)) mt_X3_emit ml_X3_60 hK hw (cw_rc4 hK hw.1 t_o) hA ⟨Nat.le_of_ble_eq_true rfl, Nat.le_of_ble_eq_true rfl⟩ ⟨Nat.le_of_ble_eq_true rfl, Nat.le_of_ble_eq_true rfl⟩ (As := [.int (J ((-304)))]) (rest := []) rfl rfl hl.1 (Nat.le_of_ble_eq_true rfl) 69 rfl dX3_readConditions_66 (fun v_29 H locs hq29_ hw => ?_)
                obtain ⟨y86_29, y300_29, ev29_, hh29_⟩ := hq29_
                rw [ev29_] at hw; clear ev29_
                have hw : WK D cy T (upV (upV (upV (upV (upV v_0 80 y80_c9) 83 y83_c9) 84 y84_c9) 86 y86_29) 300 y300_29) A0 s.heap H locs := cw_eq hw (by first | rfl | (funext j_; simp only [upV, reduceIte]; (repeat' split) <;> first | rfl | omega | (subst_vars; rfl)))
                have hh29_ : (0 ≤ (y86_29 o) ∧ (y86_29 o) ≤ 400) ∧ Ro_ (y300_c9) (y300_29) (T 85 o) := hh29_
                have ro7_ := hh29_.2
                exact L69_13  y86_29 y300_29 H locs ls  (by first | exact ⟨by omega, iv9.2.1⟩ | exact ⟨by omega, Ro_tr iv9.2.1 ro7_⟩) hw (lv_sub hl [1, 2, 3, 4, 0] rfl)
          refine j_aload_n E 37 rfl dX3_readConditions_36 rfl (lv_at hl 0 rfl) ?_
          refine g_84 E hK hw fl_X3_30 t_o (y84_c9 o) rfl 40 rfl dX3_readConditions_37 (fun _ => ?_)
          refine j_sipush E 43 rfl dX3_readConditions_40 (by decide) ?_
          refine j_icmp_ne E 46 50 rfl rr9_ (rr (by decide)) dX3_readConditions_43 (by decide) (fun cc30_ => ?_) (fun cc30_ => ?_)
          · exfalso; omega
          refine j_iconst E 47 rfl dX3_readConditions_46 ?_
          refine j_goto E 51 dX3_readConditions_47 (by decide) ?_
          exact L51_11 1  H locs ls (rr (by decide)) (by omega) hw (lv_sub hl [0, 1, 2, 3] rfl)
        · refine j_aload_n E 27 rfl dX3_readConditions_26 rfl (lv_at hl 0 rfl) ?_
          refine g_84 E hK hw fl_X3_30 t_o (y84_c9 o) rfl 30 rfl dX3_readConditions_27 (fun _ => ?_)
          refine j_sipush E 33 rfl dX3_readConditions_30 (by decide) ?_
          refine j_icmp_ne E 36 111 rfl rr9_ (rr (by decide)) dX3_readConditions_33 (by decide) (fun cc31_ => ?_) (fun cc31_ => ?_)
          · exact L111_4   H locs ls  (by first | omega | exact Co_i iv9.2.2.2 (by omega) (by omega)) hw (lv_sub hl [0, 1, 2, 3] rfl)
          · have L51_32 : ∀ (s0_51 : Int) (H : Heap) (locs : List Loc) (ls : Array Slot), inR s0_51 → ((s0_51 = 1 ∧ (y84_c9 o) = 305) ∨ (s0_51 = 0 ∧ (y84_c9 o) = 304)) → WK D cy T (upV (upV (upV (upV (upV v_0 80 y80_c9) 83 y83_c9) 84 y84_c9) 86 y86_c9) 300 y300_c9) A0 s.heap H locs → lv_has ls 5 [(0, .ref o), (1, .int (J 6)), (2, .int (J l2_9)), (3, .int (J l3_9))] → W p l e (rmd 10 0 0) s m ar below meth c H locs 0 0 QW (F0 m 51 ls [.int (J s0_51)]) := by
              intro s0_51 H locs ls r_s0_51 iv51 hw hl
              refine j_istore E 53 rfl [(4, .int (J s0_51)), (0, .ref o), (1, .int (J 6)), (2, .int (J l2_9)), (3, .int (J l3_9))] dX3_readConditions_51 hl (by decide) rfl (fun ls hl => ?_)
              have L69_34 : ∀ (y86_c69 : Nat → Int) (y300_c69 : Nat → Int) (H : Heap) (locs : List Loc) (ls : Array Slot), ((0 ≤ (y86_c69 o) ∧ (y86_c69 o) ≤ 400) ∧ Ro_ (v_0 300) (y300_c69) (T 85 o)) → WK D cy T (upV (upV (upV (upV (upV v_0 80 y80_c9) 83 y83_c9) 84 y84_c9) 86 y86_c69) 300 y300_c69) A0 s.heap H locs → lv_has ls 5 [(0, .ref o), (1, .int (J 6)), (2, .int (J l2_9)), (3, .int (J l3_9)), (4, .int (J s0_51))] → W p l e (rmd 10 0 0) s m ar below meth c H locs 0 0 QW (F0 m 69 ls []) := by
                intro y86_c69 y300_c69 H locs ls iv69 hw hl
                refine j_aload_n E 70 rfl dX3_readConditions_69 rfl (lv_at hl 0 rfl) ?_
                refine zV_v E (c_X3_step l D cy T (upV (upV (upV (upV (upV v_0 80 y80_c9) 83 y83_c9) 84 y84_c9) 86 y86_c69) 300 y300_c69) κ o K_ V_ hO t_o  (show RK_ (y300_c69) (T 120 (T 82 o)) (T 121 (T 82 o)) (((v_0 123) (T 82 o))) K_ V_ from RK_ro hp1 iv69.2 nk_ nv_) (show 0 ≤ (y83_c9 o) ∧ (y83_c9 o) < 400 from by have q_ := RK_lt hp1 (j := (y83_c9 o)) (by omega); omega)) mt_X3_step ml_X3_54 hK hZ hAc hw (cw_rc4 hK hw.1 t_o) hA ⟨Nat.le_of_ble_eq_true rfl, Nat.le_of_ble_eq_true rfl⟩ ⟨Nat.le_of_ble_eq_true rfl, Nat.le_of_ble_eq_true rfl⟩ (As := []) (rest := []) rfl rfl hl.1 (Nat.le_of_ble_eq_true rfl) 73 rfl dX3_readConditions_70 (fun v_36 H locs hq36_ hw => ?_)
                obtain ⟨y83_36, y84_36, ev36_, hh36_⟩ := hq36_
                rw [ev36_] at hw; clear ev36_
                have hw : WK D cy T (upV (upV (upV (upV (upV v_0 80 y80_c9) 83 y83_36) 84 y84_36) 86 y86_c69) 300 y300_c69) A0 s.heap H locs := cw_eq hw (by first | rfl | (funext j_; simp only [upV, reduceIte]; (repeat' split) <;> first | rfl | omega | (subst_vars; rfl)))
                have hh36_ : (y83_36 o) = (y83_c9 o) + 1 ∧ (y84_36 o) = K_ ((y83_c9 o) + 1) := hh36_
                have s_ := hh36_
                refine j_aload_n E 74 rfl dX3_readConditions_73 rfl (lv_at hl 0 rfl) ?_
                refine j_iload_n E 75 rfl dX3_readConditions_74 rfl (lv_at hl 1 rfl) ?_
                refine zV_v E (c_X3_readCondition_n6 l D cy T (upV (upV (upV (upV (upV v_0 80 y80_c9) 83 y83_36) 84 y84_36) 86 y86_c69) 300 y300_c69) κ o K_ V_ hO t_o  (show 0 ≤ (y86_c69 o) ∧ (y86_c69 o) ≤ 400 from by omega) (show RK_ (y300_c69) (T 120 (T 82 o)) (T 121 (T 82 o)) (((v_0 123) (T 82 o))) K_ V_ from RK_ro hp1 iv69.2 nk_ nv_) (show Cs_ K_ ((y83_36 o)) ((y84_36 o)) ((y80_c9 o)) from Cs_st (Co_cs hp2 iv9.2.2.2) (by omega) s_.1 s_.2 (by omega))) mt_X3_readCondition ml_X3_85 hK hZ hAc hw (cw_rc4 hK hw.1 t_o) hA ⟨Nat.le_of_ble_eq_true rfl, Nat.le_of_ble_eq_true rfl⟩ ⟨Nat.le_of_ble_eq_true rfl, Nat.le_of_ble_eq_true rfl⟩ (As := [.int (J 6)]) (rest := []) rfl rfl hl.1 (Nat.le_of_ble_eq_true rfl) 78 rfl dX3_readConditions_75 (fun v_37 H locs hq37_ hw => ?_)
                obtain ⟨y80_37, y83_37, y84_37, y86_37, y300_37, ev37_, hh37_⟩ := hq37_
                rw [ev37_] at hw; clear ev37_
                have hw : WK D cy T (upV (upV (upV (upV (upV v_0 80 y80_37) 83 y83_37) 84 y84_37) 86 y86_37) 300 y300_37) A0 s.heap H locs := cw_eq hw (by first | rfl | (funext j_; simp only [upV, reduceIte]; (repeat' split) <;> first | rfl | omega | (subst_vars; rfl)))
                have hh37_ : (0 ≤ (y86_37 o) ∧ (y86_37 o) ≤ 400) ∧ Ro_ (y300_c69) (y300_37) (T 85 o) ∧ Ck_ S3_ (6 : Int) TX_ K_ V_ ((y83_36 o)) ((y80_c9 o)) ((y83_37 o)) ((y84_37 o)) ((y80_37 o)) := hh37_
                have u_ := hh37_
                rw [s_.1] at u_
                refine j_iload E 80 rfl dX3_readConditions_78 (lv_at hl 4 rfl) ?_
                refine j_if_eq E 83 90 rfl r_s0_51 dX3_readConditions_80 (by decide) (fun cc38_ => ?_) (fun cc38_ => ?_)
                · have L104_39 : ∀ (s0_104 : Int) (H : Heap) (locs : List Loc) (ls : Array Slot), inR s0_104 → (((l2_9 ≠ 0 ∨ s0_51 = 0) ∧ s0_104 = 1) ∨ (l2_9 = 0 ∧ s0_51 ≠ 0 ∧ s0_104 = 0)) → WK D cy T (upV (upV (upV (upV (upV v_0 80 y80_37) 83 y83_37) 84 y84_37) 86 y86_37) 300 y300_37) A0 s.heap H locs → lv_has ls 5 [(0, .ref o), (1, .int (J 6)), (2, .int (J l2_9)), (3, .int (J l3_9)), (4, .int (J s0_51))] → W p l e (rmd 10 0 0) s m ar below meth c H locs 0 0 QW (F0 m 104 ls [.int (J s0_104)]) := by
                    intro s0_104 H locs ls r_s0_104 iv104 hw hl
                    refine j_istore_n E 105 rfl [(2, .int (J s0_104)), (0, .ref o), (1, .int (J 6)), (3, .int (J l3_9)), (4, .int (J s0_51))] dX3_readConditions_104 rfl hl (by decide) rfl (fun ls hl => ?_)
                    refine j_iinc E 108 rfl [(3, .int (J (l3_9 + 1))), (2, .int (J s0_104)), (0, .ref o), (1, .int (J 6)), (4, .int (J s0_51))] dX3_readConditions_105 hl (kk := 3) rfl (by decide) rfl (fun ls hl => ?_)
                    refine j_goto E 9 dX3_readConditions_108 (by decide) ?_
                    exact ih9 s0_104 (l3_9 + 1) y80_37 y83_37 y84_37 y86_37 y300_37 H locs ls r_s0_104 (rr (by omega)) (by first | exact ⟨by omega, Ro_tr iv69.2 (Ro_tr u_.2.1 ro9_), by omega, by rw [show s0_104 = l2_9 by omega]; exact Co_and iv9.2.2.2 (by omega) u_.2.2⟩ | exact ⟨by omega, Ro_tr iv69.2 u_.2.1, by omega, by rw [show s0_104 = 1 by omega]; exact Co_or iv9.2.2.2 (by omega) u_.2.2⟩ | (exfalso; omega)) (by omega) hw (lv_sub hl [2, 3, 1, 0] rfl)
                  refine j_iload_n E 91 rfl dX3_readConditions_90 rfl (lv_at hl 2 rfl) ?_
                  refine j_if_ne E 94 99 rfl r_l2_9 dX3_readConditions_91 (by decide) (fun cc41_ => ?_) (fun cc41_ => ?_)
                  · refine j_iconst E 100 rfl dX3_readConditions_99 ?_
                    refine j_goto E 104 dX3_readConditions_100 (by decide) ?_
                    exact L104_39 1  H locs ls (rr (by decide)) (by omega) hw (lv_sub hl [0, 1, 2, 3, 4] rfl)
                  · refine j_iload E 96 rfl dX3_readConditions_94 (lv_at hl 4 rfl) ?_
                    refine j_if_ne E 99 103 rfl r_s0_51 dX3_readConditions_96 (by decide) (fun cc42_ => ?_) (fun cc42_ => ?_)
                    · exfalso; omega
                    refine j_iconst E 100 rfl dX3_readConditions_99 ?_
                    refine j_goto E 104 dX3_readConditions_100 (by decide) ?_
                    exact L104_39 1  H locs ls (rr (by decide)) (by omega) hw (lv_sub hl [0, 1, 2, 3, 4] rfl)
                · refine j_aload_n E 84 rfl dX3_readConditions_83 rfl (lv_at hl 0 rfl) ?_
                  refine j_sipush E 87 rfl dX3_readConditions_84 (by decide) ?_
                  refine kV_v E (c_X3_emit l D cy T (upV (upV (upV (upV (upV v_0 80 y80_37) 83 y83_37) 84 y84_37) 86 y86_37) 300 y300_37) o ((-305))  t_o (rr (by decide)) (show 0 ≤ (y86_37 o) ∧ (y86_37 o) ≤ 400 from by omega)) mt_X3_emit ml_X3_60 hK hw (cw_rc4 hK hw.1 t_o) hA ⟨Nat.le_of_ble_eq_true rfl, Nat.le_of_ble_eq_true rfl⟩ ⟨Nat.le_of_ble_eq_true rfl, Nat.le_of_ble_eq_true rfl⟩ (As := [.int (J ((-305)))]) (rest := []) rfl rfl hl.1 (Nat.le_of_ble_eq_true rfl) 90 rfl dX3_readConditions_87 (fun v_43 H locs hq43_ hw => ?_)
                  obtain ⟨y86_43, y300_43, ev43_, hh43_⟩ := hq43_
                  rw [ev43_] at hw; clear ev43_
                  have hw : WK D cy T (upV (upV (upV (upV (upV v_0 80 y80_37) 83 y83_37) 84 y84_37) 86 y86_43) 300 y300_43) A0 s.heap H locs := cw_eq hw (by first | rfl | (funext j_; simp only [upV, reduceIte]; (repeat' split) <;> first | rfl | omega | (subst_vars; rfl)))
                  have hh43_ : (0 ≤ (y86_43 o) ∧ (y86_43 o) ≤ 400) ∧ Ro_ (y300_37) (y300_43) (T 85 o) := hh43_
                  have ro9_ := hh43_.2
                  have L104_44 : ∀ (s0_104 : Int) (H : Heap) (locs : List Loc) (ls : Array Slot), inR s0_104 → (((l2_9 ≠ 0 ∨ s0_51 = 0) ∧ s0_104 = 1) ∨ (l2_9 = 0 ∧ s0_51 ≠ 0 ∧ s0_104 = 0)) → WK D cy T (upV (upV (upV (upV (upV v_0 80 y80_37) 83 y83_37) 84 y84_37) 86 y86_43) 300 y300_43) A0 s.heap H locs → lv_has ls 5 [(0, .ref o), (1, .int (J 6)), (2, .int (J l2_9)), (3, .int (J l3_9)), (4, .int (J s0_51))] → W p l e (rmd 10 0 0) s m ar below meth c H locs 0 0 QW (F0 m 104 ls [.int (J s0_104)]) := by
                    intro s0_104 H locs ls r_s0_104 iv104 hw hl
                    refine j_istore_n E 105 rfl [(2, .int (J s0_104)), (0, .ref o), (1, .int (J 6)), (3, .int (J l3_9)), (4, .int (J s0_51))] dX3_readConditions_104 rfl hl (by decide) rfl (fun ls hl => ?_)
                    refine j_iinc E 108 rfl [(3, .int (J (l3_9 + 1))), (2, .int (J s0_104)), (0, .ref o), (1, .int (J 6)), (4, .int (J s0_51))] dX3_readConditions_105 hl (kk := 3) rfl (by decide) rfl (fun ls hl => ?_)
                    refine j_goto E 9 dX3_readConditions_108 (by decide) ?_
                    exact ih9 s0_104 (l3_9 + 1) y80_37 y83_37 y84_37 y86_43 y300_43 H locs ls r_s0_104 (rr (by omega)) (by first | exact ⟨by omega, Ro_tr iv69.2 (Ro_tr u_.2.1 ro9_), by omega, by rw [show s0_104 = l2_9 by omega]; exact Co_and iv9.2.2.2 (by omega) u_.2.2⟩ | exact ⟨by omega, Ro_tr iv69.2 u_.2.1, by omega, by rw [show s0_104 = 1 by omega]; exact Co_or iv9.2.2.2 (by omega) u_.2.2⟩ | (exfalso; omega)) (by omega) hw (lv_sub hl [2, 3, 1, 0] rfl)
                  refine j_iload_n E 91 rfl dX3_readConditions_90 rfl (lv_at hl 2 rfl) ?_
                  refine j_if_ne E 94 99 rfl r_l2_9 dX3_readConditions_91 (by decide) (fun cc46_ => ?_) (fun cc46_ => ?_)
                  · refine j_iconst E 100 rfl dX3_readConditions_99 ?_
                    refine j_goto E 104 dX3_readConditions_100 (by decide) ?_
                    exact L104_44 1  H locs ls (rr (by decide)) (by omega) hw (lv_sub hl [0, 1, 2, 3, 4] rfl)
                  · refine j_iload E 96 rfl dX3_readConditions_94 (lv_at hl 4 rfl) ?_
                    refine j_if_ne E 99 103 rfl r_s0_51 dX3_readConditions_96 (by decide) (fun cc47_ => ?_) (fun cc47_ => ?_)
                    rotate_left; · exfalso; omega
                    refine j_iconst E 104 rfl dX3_readConditions_103 ?_
                    exact L104_44 0  H locs ls (rr (by decide)) (by omega) hw (lv_sub hl [0, 1, 2, 3, 4] rfl)
              refine j_iload E 55 rfl dX3_readConditions_53 (lv_at hl 0 rfl) ?_
              refine j_if_ne E 58 69 rfl r_s0_51 dX3_readConditions_55 (by decide) (fun cc48_ => ?_) (fun cc48_ => ?_)
              · exact L69_34  y86_c9 y300_c9 H locs ls  (by first | exact ⟨by omega, iv9.2.1⟩ | exact ⟨by omega, Ro_tr iv9.2.1 ro7_⟩) hw (lv_sub hl [1, 2, 3, 4, 0] rfl)
              · refine j_iload_n E 59 rfl dX3_readConditions_58 rfl (lv_at hl 3 rfl) ?_
                refine j_if_eq E 62 69 rfl r_l2_9 dX3_readConditions_59 (by decide) (fun cc49_ => ?_) (fun cc49_ => ?_)
                · exact L69_34  y86_c9 y300_c9 H locs ls  (by first | exact ⟨by omega, iv9.2.1⟩ | exact ⟨by omega, Ro_tr iv9.2.1 ro7_⟩) hw (lv_sub hl [1, 2, 3, 4, 0] rfl)
                · refine j_aload_n E 63 rfl dX3_readConditions_62 rfl (lv_at hl 1 rfl) ?_
                  refine j_sipush E 66 rfl dX3_readConditions_63 (by decide) ?_
                  refine kV_v E (c_X3_emit l D cy T (upV (upV (upV (upV (upV v_0 80 y80_c9) 83 y83_c9) 84 y84_c9) 86 y86_c9) 300 y300_c9) o ((-304))  t_o (rr (by decide)) (show 0 ≤ (y86_c9 o) ∧ (y86_c9 o) ≤ 400 from by omega)) mt_X3_emit ml_X3_60 hK hw (cw_rc4 hK hw.1 t_o) hA ⟨Nat.le_of_ble_eq_true rfl, Nat.le_of_ble_eq_true rfl⟩ ⟨Nat.le_of_ble_eq_true rfl, Nat.le_of_ble_eq_true rfl⟩ (As := [.int (J ((-304)))]) (rest := []) rfl rfl hl.1 (Nat.le_of_ble_eq_true rfl) 69 rfl dX3_readConditions_66 (fun v_50 H locs hq50_ hw => ?_)
                  obtain ⟨y86_50, y300_50, ev50_, hh50_⟩ := hq50_
                  rw [ev50_] at hw; clear ev50_
                  have hw : WK D cy T (upV (upV (upV (upV (upV v_0 80 y80_c9) 83 y83_c9) 84 y84_c9) 86 y86_50) 300 y300_50) A0 s.heap H locs := cw_eq hw (by first | rfl | (funext j_; simp only [upV, reduceIte]; (repeat' split) <;> first | rfl | omega | (subst_vars; rfl)))
                  have hh50_ : (0 ≤ (y86_50 o) ∧ (y86_50 o) ≤ 400) ∧ Ro_ (y300_c9) (y300_50) (T 85 o) := hh50_
                  have ro7_ := hh50_.2
                  exact L69_34  y86_50 y300_50 H locs ls  (by first | exact ⟨by omega, iv9.2.1⟩ | exact ⟨by omega, Ro_tr iv9.2.1 ro7_⟩) hw (lv_sub hl [1, 2, 3, 4, 0] rfl)
            refine j_aload_n E 37 rfl dX3_readConditions_36 rfl (lv_at hl 0 rfl) ?_
            refine g_84 E hK hw fl_X3_30 t_o (y84_c9 o) rfl 40 rfl dX3_readConditions_37 (fun _ => ?_)
            refine j_sipush E 43 rfl dX3_readConditions_40 (by decide) ?_
            refine j_icmp_ne E 46 50 rfl rr9_ (rr (by decide)) dX3_readConditions_43 (by decide) (fun cc51_ => ?_) (fun cc51_ => ?_)
            rotate_left; · exfalso; omega
            refine j_iconst E 51 rfl dX3_readConditions_50 ?_
            exact L51_32 0  H locs ls (rr (by decide)) (by omega) hw (lv_sub hl [0, 1, 2, 3] rfl)
  exact L9_2 _ 0 0 y80_1 y83_1 y84_1 y86_1 y300_1 H locs ls (rr (by decide)) (rr (by decide)) (⟨by omega, u0_.2.1, by omega, Co_0 hp2.1.1 u0_.2.2⟩) (Nat.lt_succ_self _) hw (lv_sub hl [2, 3, 1, 0] rfl)
set_option maxHeartbeats 4000000 in
set_option maxRecDepth 100000 in
theorem c_X3_readCondition_n5 (l : Launch) (D : va_G) (cy : Nat → ClassId) (T : Nat → Nat → Nat) (v_0 : Nat → Nat → Int) (κ : Nat → Nat → Nat) (o : Nat) (K_ : Int → Int) (V_ : Int → Int) (hO : ∀ x, ow T x → κ 2 2 ≤ x) (t_o : T 0 o = 4) (hp0 : 0 ≤ (v_0 86 o) ∧ (v_0 86 o) ≤ 400) (hp1 : RK_ (v_0 300) (T 120 (T 82 o)) (T 121 (T 82 o)) ((v_0 123 (T 82 o))) K_ V_) (hp2 : Cs_ K_ ((v_0 83 o)) ((v_0 84 o)) ((v_0 80 o))) : KZ l D cy κ T yX3_readCondition cX3_readCondition 4 none 11 [.ref o, .int (J 5)] v_0 (KV (fun (v_2 : Nat → Nat → Int) => ∃ (y80_2 : Nat → Int) (y83_2 : Nat → Int) (y84_2 : Nat → Int) (y86_2 : Nat → Int) (y300_2 : Nat → Int) , v_2 = upV (upV (upV (upV (upV v_0 80 y80_2) 83 y83_2) 84 y84_2) 86 y86_2) 300 y300_2 ∧ ((0 ≤ (y86_2 o) ∧ (y86_2 o) ≤ 400) ∧ Ro_ (v_0 300) (y300_2) (T 85 o) ∧ Ck_ S3_ (5 : Int) TX_ K_ V_ ((v_0 83 o)) ((v_0 80 o)) ((y83_2 o)) ((y84_2 o)) ((y80_2 o))))) := by
  refine KZ.ofv (by decide) (Nat.le_of_ble_eq_true rfl) hO ?_
  intro p e s m below meth c ls ar QW A0 H locs E hK hZ hA hAc hw hl hret
  have hl : lv_has ls 4 [(0, .ref o), (1, .int (J 5))] := hl
  have hT : WT T := hw.1.2.1
  have cs_ := hp2
  unfold Cs_ at cs_
  have nk_ : T 120 (T 82 o) ≠ T 85 o := ro_ne (wo_120 hT (wt_82 hT t_o)) (wo_85 hT t_o) (by decide) (by decide) (by omega)
  have nv_ : T 121 (T 82 o) ≠ T 85 o := ro_ne (wo_121 hT (wt_82 hT t_o)) (wo_85 hT t_o) (by decide) (by decide) (by omega)
  refine j_aload_n E 1 rfl dX3_readCondition_0 rfl (lv_at hl 0 rfl) ?_
  refine g_84 E hK hw fl_X3_30 t_o (v_0 84 o) rfl 4 rfl dX3_readCondition_1 (fun rr1_ => ?_)
  refine j_bipush E 6 rfl dX3_readCondition_4 (by decide) ?_
  refine j_icmp_eq E 9 19 rfl rr1_ (rr (by decide)) dX3_readCondition_6 (by decide) (fun cc2_ => ?_) (fun cc2_ => ?_)
  · refine j_iconst E 20 rfl dX3_readCondition_19 ?_
    refine j_goto E 24 dX3_readCondition_20 (by decide) ?_
    refine j_istore_n E 25 rfl [(2, .int (J 1)), (0, .ref o), (1, .int (J 5))] dX3_readCondition_24 rfl hl (by decide) rfl (fun ls hl => ?_)
    refine j_iload_n E 26 rfl dX3_readCondition_25 rfl (lv_at hl 0 rfl) ?_
    refine j_if_eq E 29 43 rfl (rr (by decide)) dX3_readCondition_26 (by decide) (fun cc3_ => absurd cc3_ (by decide)) (fun _ => ?_)
    refine j_iload_n E 30 rfl dX3_readCondition_29 rfl (lv_at hl 2 rfl) ?_
    refine j_bipush E 32 rfl dX3_readCondition_30 (by decide) ?_
    refine j_icmp_lt E 35 43 rfl (rr (by decide)) (rr (by decide)) dX3_readCondition_32 (by decide) (fun _ => ?_) (fun cc4_ => absurd cc4_ (by decide))
    refine j_aload_n E 44 rfl dX3_readCondition_43 rfl (lv_at hl 1 rfl) ?_
    refine g_84 E hK hw fl_X3_30 t_o (v_0 84 o) rfl 47 rfl dX3_readCondition_44 (fun _ => ?_)
    refine j_bipush E 49 rfl dX3_readCondition_47 (by decide) ?_
    refine j_icmp_ne E 52 72 rfl rr1_ (rr (by decide)) dX3_readCondition_49 (by decide) (fun cc5_ => ?_) (fun cc5_ => ?_)
    · exfalso; omega
    refine j_aload_n E 53 rfl dX3_readCondition_52 rfl (lv_at hl 1 rfl) ?_
    refine zV_v E (c_X3_step l D cy T (v_0) κ o K_ V_ hO t_o  (show RK_ (v_0 300) (T 120 (T 82 o)) (T 121 (T 82 o)) (((v_0 123) (T 82 o))) K_ V_ from hp1) (show 0 ≤ ((v_0 83) o) ∧ ((v_0 83) o) < 400 from by have q_ := RK_lt hp1 (j := (v_0 83 o)) (by omega); omega)) mt_X3_step ml_X3_54 hK hZ hAc hw (cw_rc4 hK hw.1 t_o) hA ⟨Nat.le_of_ble_eq_true rfl, Nat.le_of_ble_eq_true rfl⟩ ⟨Nat.le_of_ble_eq_true rfl, Nat.le_of_ble_eq_true rfl⟩ (As := []) (rest := []) rfl rfl hl.1 (Nat.le_of_ble_eq_true rfl) 56 rfl dX3_readCondition_53 (fun v_6 H locs hq6_ hw => ?_)
    obtain ⟨y83_6, y84_6, ev6_, hh6_⟩ := hq6_
    rw [ev6_] at hw; clear ev6_
    have hw : WK D cy T (upV (upV v_0 83 y83_6) 84 y84_6) A0 s.heap H locs := cw_eq hw (by first | rfl | (funext j_; simp only [upV, reduceIte]; (repeat' split) <;> first | rfl | omega | (subst_vars; rfl)))
    have hh6_ : (y83_6 o) = ((v_0 83) o) + 1 ∧ (y84_6 o) = K_ (((v_0 83) o) + 1) := hh6_
    have s1_ := hh6_
    refine j_aload_n E 57 rfl dX3_readCondition_56 rfl (lv_at hl 1 rfl) ?_
    refine j_iload_n E 58 rfl dX3_readCondition_57 rfl (lv_at hl 2 rfl) ?_
    refine j_iconst E 59 rfl dX3_readCondition_58 ?_
    refine j_iadd E 60 rfl dX3_readCondition_59 ?_
    refine j_lit (z := 6) (by decide) ?_
    refine zV_v E (c_X3_readConditions_n6 l D cy T (upV (upV v_0 83 y83_6) 84 y84_6) κ o K_ V_ hO t_o  (show 0 ≤ ((v_0 86) o) ∧ ((v_0 86) o) ≤ 400 from by omega) (show RK_ (v_0 300) (T 120 (T 82 o)) (T 121 (T 82 o)) (((v_0 123) (T 82 o))) K_ V_ from hp1) (show Cs_ K_ ((y83_6 o)) ((y84_6 o)) (((v_0 80) o)) from Cs_st hp2 (by omega) s1_.1 s1_.2 (by omega))) mt_X3_readConditions ml_X3_57 hK hZ hAc hw (cw_rc4 hK hw.1 t_o) hA ⟨Nat.le_of_ble_eq_true rfl, Nat.le_of_ble_eq_true rfl⟩ ⟨Nat.le_of_ble_eq_true rfl, Nat.le_of_ble_eq_true rfl⟩ (As := [.int (J 6)]) (rest := []) rfl rfl hl.1 (Nat.le_of_ble_eq_true rfl) 63 rfl dX3_readCondition_60 (fun v_7 H locs hq7_ hw => ?_)
    obtain ⟨y80_7, y83_7, y84_7, y86_7, y300_7, ev7_, hh7_⟩ := hq7_
    rw [ev7_] at hw; clear ev7_
    have hw : WK D cy T (upV (upV (upV (upV (upV v_0 80 y80_7) 83 y83_7) 84 y84_7) 86 y86_7) 300 y300_7) A0 s.heap H locs := cw_eq hw (by first | rfl | (funext j_; simp only [upV, reduceIte]; (repeat' split) <;> first | rfl | omega | (subst_vars; rfl)))
    have hh7_ : (0 ≤ (y86_7 o) ∧ (y86_7 o) ≤ 400) ∧ Ro_ (v_0 300) (y300_7) (T 85 o) ∧ Ck_ S4_ (6 : Int) (NA_ K_) K_ V_ ((y83_6 o)) (((v_0 80) o)) ((y83_7 o)) ((y84_7 o)) ((y80_7 o)) := hh7_
    have b_ := hh7_
    rw [s1_.1] at b_
    refine j_aload_n E 64 rfl dX3_readCondition_63 rfl (lv_at hl 1 rfl) ?_
    refine j_bipush E 66 rfl dX3_readCondition_64 (by decide) ?_
    refine zV_v E (c_X3_take l D cy T (upV (upV (upV (upV (upV v_0 80 y80_7) 83 y83_7) 84 y84_7) 86 y86_7) 300 y300_7) κ o 41 K_ V_ hO t_o (rr (by decide)) (show RK_ (y300_7) (T 120 (T 82 o)) (T 121 (T 82 o)) (((v_0 123) (T 82 o))) K_ V_ from RK_ro hp1 b_.2.1 nk_ nv_) (show Cs_ K_ ((y83_7 o)) ((y84_7 o)) ((y80_7 o)) from Ck_cs (Cs_st (a1 := v_0 83 o + 1) (k1 := K_ (v_0 83 o + 1)) hp2 (by omega) rfl rfl (by omega)) b_.2.2) (show 3 < (41 : Int) from by omega)) mt_X3_take ml_X3_47 hK hZ hAc hw (cw_rc4 hK hw.1 t_o) hA ⟨Nat.le_of_ble_eq_true rfl, Nat.le_of_ble_eq_true rfl⟩ ⟨Nat.le_of_ble_eq_true rfl, Nat.le_of_ble_eq_true rfl⟩ (As := [.int (J 41)]) (rest := []) rfl rfl hl.1 (Nat.le_of_ble_eq_true rfl) 69 rfl dX3_readCondition_66 (fun v_8 H locs hq8_ hw => ?_)
    obtain ⟨y80_8, y83_8, y84_8, ev8_, hh8_⟩ := hq8_
    rw [ev8_] at hw; clear ev8_
    have hw : WK D cy T (upV (upV (upV (upV (upV v_0 80 y80_8) 83 y83_8) 84 y84_8) 86 y86_7) 300 y300_7) A0 s.heap H locs := cw_eq hw (by first | rfl | (funext j_; simp only [upV, reduceIte]; (repeat' split) <;> first | rfl | omega | (subst_vars; rfl)))
    have hh8_ : (((y84_7 o) = (41 : Int)) ∧ (y83_8 o) = (y83_7 o) + 1 ∧ (y84_8 o) = K_ ((y83_7 o) + 1) ∧ (y80_8 o) = (y80_7 o)) ∨ (¬ ((y84_7 o) = (41 : Int)) ∧ (y83_8 o) = (y83_7 o) ∧ (y84_8 o) = 2 ∧ (((y80_7 o) = 0 ∧ (y80_8 o) = 1) ∨ (¬ (y80_7 o) = 0 ∧ (y80_8 o) = (y80_7 o)))) := hh8_
    have t_ := hh8_
    refine j_goto E 126 dX3_readCondition_69 (by decide) ?_
    exact hret 126 (upV (upV (upV (upV (upV v_0 80 y80_8) 83 y83_8) 84 y84_8) 86 y86_7) 300 y300_7) _ _ ls hw ⟨y80_8, y83_8, y84_8, y86_7, y300_7, rfl, by first | exact ⟨by omega, Ro_rf, ck_deep rfl hp2 (by omega) rfl r_.1 r_.2⟩ | exact ⟨by omega, b_.2.1, ck_bra (by omega) hp2 (by omega) b_.2.2 t_ (fun q_ => (RK_lt hp1 (ck_k b_.2.2 q_)).2)⟩ | exact ⟨by omega, Ro_tr n_.2.1 ro_, ck_not (by omega) hp2 (by omega) n_.2.2⟩ | exact ⟨by omega, Ro_tr e1_.2.1 (Ro_tr e2_.2.1 ro_), ck_cmp hp2 (by omega) (by omega) e1_.2.2 t_ e2_.2.2⟩⟩ dX3_readCondition_126
  · refine j_aload_n E 10 rfl dX3_readCondition_9 rfl (lv_at hl 0 rfl) ?_
    refine g_84 E hK hw fl_X3_30 t_o (v_0 84 o) rfl 13 rfl dX3_readCondition_10 (fun _ => ?_)
    refine j_sipush E 16 rfl dX3_readCondition_13 (by decide) ?_
    refine j_icmp_ne E 19 23 rfl rr1_ (rr (by decide)) dX3_readCondition_16 (by decide) (fun cc9_ => ?_) (fun cc9_ => ?_)
    · refine j_iconst E 24 rfl dX3_readCondition_23 ?_
      refine j_istore_n E 25 rfl [(2, .int (J 0)), (0, .ref o), (1, .int (J 5))] dX3_readCondition_24 rfl hl (by decide) rfl (fun ls hl => ?_)
      refine j_iload_n E 26 rfl dX3_readCondition_25 rfl (lv_at hl 0 rfl) ?_
      refine j_if_eq E 29 43 rfl (rr (by decide)) dX3_readCondition_26 (by decide) (fun _ => ?_) (fun cc10_ => absurd cc10_ (by decide))
      refine j_aload_n E 44 rfl dX3_readCondition_43 rfl (lv_at hl 1 rfl) ?_
      refine g_84 E hK hw fl_X3_30 t_o (v_0 84 o) rfl 47 rfl dX3_readCondition_44 (fun _ => ?_)
      refine j_bipush E 49 rfl dX3_readCondition_47 (by decide) ?_
      refine j_icmp_ne E 52 72 rfl rr1_ (rr (by decide)) dX3_readCondition_49 (by decide) (fun cc11_ => ?_) (fun cc11_ => ?_)
      rotate_left; · exfalso; omega
      refine j_aload_n E 73 rfl dX3_readCondition_72 rfl (lv_at hl 1 rfl) ?_
      refine g_84 E hK hw fl_X3_30 t_o (v_0 84 o) rfl 76 rfl dX3_readCondition_73 (fun _ => ?_)
      refine j_sipush E 79 rfl dX3_readCondition_76 (by decide) ?_
      refine j_icmp_ne E 82 103 rfl rr1_ (rr (by decide)) dX3_readCondition_79 (by decide) (fun cc12_ => ?_) (fun cc12_ => ?_)
      rotate_left; · exfalso; omega
      refine j_aload_n E 104 rfl dX3_readCondition_103 rfl (lv_at hl 1 rfl) ?_
      refine zV_v E (c_X3_readSum l D cy T (v_0) κ o K_ V_ hO t_o  (show 0 ≤ ((v_0 86) o) ∧ ((v_0 86) o) ≤ 400 from by omega) (show RK_ (v_0 300) (T 120 (T 82 o)) (T 121 (T 82 o)) (((v_0 123) (T 82 o))) K_ V_ from hp1) (show Cs_ K_ (((v_0 83) o)) (((v_0 84) o)) (((v_0 80) o)) from hp2)) mt_X3_readSum ml_X3_51 hK hZ hAc hw (cw_rc4 hK hw.1 t_o) hA ⟨Nat.le_of_ble_eq_true rfl, Nat.le_of_ble_eq_true rfl⟩ ⟨Nat.le_of_ble_eq_true rfl, Nat.le_of_ble_eq_true rfl⟩ (As := []) (rest := []) rfl rfl hl.1 (Nat.le_of_ble_eq_true rfl) 107 rfl dX3_readCondition_104 (fun v_13 H locs hq13_ hw => ?_)
      obtain ⟨y80_13, y83_13, y84_13, y86_13, y300_13, ev13_, hh13_⟩ := hq13_
      rw [ev13_] at hw; clear ev13_
      have hw : WK D cy T (upV (upV (upV (upV (upV v_0 80 y80_13) 83 y83_13) 84 y84_13) 86 y86_13) 300 y300_13) A0 s.heap H locs := cw_eq hw (by first | rfl | (funext j_; simp only [upV, reduceIte]; (repeat' split) <;> first | rfl | omega | (subst_vars; rfl)))
      have hh13_ : (0 ≤ (y86_13 o) ∧ (y86_13 o) ≤ 400) ∧ Ro_ (v_0 300) (y300_13) (T 85 o) ∧ Cp_ S3_ (N4_ K_) K_ V_ (((v_0 83) o)) (((v_0 80) o)) ((y83_13 o)) ((y84_13 o)) ((y80_13 o)) := hh13_
      have e1_ := hh13_
      refine j_aload_n E 108 rfl dX3_readCondition_107 rfl (lv_at hl 1 rfl) ?_
      refine g_84 E hK hw fl_X3_30 t_o (y84_13 o) rfl 111 rfl dX3_readCondition_108 (fun rr14_ => ?_)
      refine j_istore_n E 112 rfl [(3, .int (J (y84_13 o))), (2, .int (J 0)), (0, .ref o), (1, .int (J 5))] dX3_readCondition_111 rfl hl (by decide) rfl (fun ls hl => ?_)
      refine j_aload_n E 113 rfl dX3_readCondition_112 rfl (lv_at hl 2 rfl) ?_
      refine zV_v E (c_X3_takeComparison l D cy T (upV (upV (upV (upV (upV v_0 80 y80_13) 83 y83_13) 84 y84_13) 86 y86_13) 300 y300_13) κ o K_ V_ hO t_o  (show RK_ (y300_13) (T 120 (T 82 o)) (T 121 (T 82 o)) (((v_0 123) (T 82 o))) K_ V_ from RK_ro hp1 e1_.2.1 nk_ nv_) (show Cs_ K_ ((y83_13 o)) ((y84_13 o)) ((y80_13 o)) from Cp_cs hp2 e1_.2.2)) mt_X3_takeComparison ml_X3_88 hK hZ hAc hw (cw_rc4 hK hw.1 t_o) hA ⟨Nat.le_of_ble_eq_true rfl, Nat.le_of_ble_eq_true rfl⟩ ⟨Nat.le_of_ble_eq_true rfl, Nat.le_of_ble_eq_true rfl⟩ (As := []) (rest := []) rfl rfl hl.1 (Nat.le_of_ble_eq_true rfl) 116 rfl dX3_readCondition_113 (fun v_15 H locs hq15_ hw => ?_)
      obtain ⟨y80_15, y83_15, y84_15, ev15_, hh15_⟩ := hq15_
      rw [ev15_] at hw; clear ev15_
      have hw : WK D cy T (upV (upV (upV (upV (upV v_0 80 y80_15) 83 y83_15) 84 y84_15) 86 y86_13) 300 y300_13) A0 s.heap H locs := cw_eq hw (by first | rfl | (funext j_; simp only [upV, reduceIte]; (repeat' split) <;> first | rfl | omega | (subst_vars; rfl)))
      have hh15_ : (((y84_13 o) = 60 ∨ (y84_13 o) = 61 ∨ (y84_13 o) = 62) ∧ (y83_15 o) = (y83_13 o) + 1 ∧ (y84_15 o) = K_ ((y83_13 o) + 1) ∧ (y80_15 o) = (y80_13 o)) ∨ (¬ ((y84_13 o) = 60 ∨ (y84_13 o) = 61 ∨ (y84_13 o) = 62) ∧ (y83_15 o) = (y83_13 o) ∧ (y84_15 o) = 2 ∧ (((y80_13 o) = 0 ∧ (y80_15 o) = 1) ∨ (¬ (y80_13 o) = 0 ∧ (y80_15 o) = (y80_13 o)))) := hh15_
      have t_ := hh15_
      refine j_aload_n E 117 rfl dX3_readCondition_116 rfl (lv_at hl 2 rfl) ?_
      refine zV_v E (c_X3_readSum l D cy T (upV (upV (upV (upV (upV v_0 80 y80_15) 83 y83_15) 84 y84_15) 86 y86_13) 300 y300_13) κ o K_ V_ hO t_o  (show 0 ≤ (y86_13 o) ∧ (y86_13 o) ≤ 400 from by omega) (show RK_ (y300_13) (T 120 (T 82 o)) (T 121 (T 82 o)) (((v_0 123) (T 82 o))) K_ V_ from RK_ro hp1 e1_.2.1 nk_ nv_) (show Cs_ K_ ((y83_15 o)) ((y84_15 o)) ((y80_15 o)) from Ct_cs (Cp_cs hp2 e1_.2.2) t_ (fun q_ => (RK_lt hp1 q_).2))) mt_X3_readSum ml_X3_51 hK hZ hAc hw (cw_rc4 hK hw.1 t_o) hA ⟨Nat.le_of_ble_eq_true rfl, Nat.le_of_ble_eq_true rfl⟩ ⟨Nat.le_of_ble_eq_true rfl, Nat.le_of_ble_eq_true rfl⟩ (As := []) (rest := []) rfl rfl hl.1 (Nat.le_of_ble_eq_true rfl) 120 rfl dX3_readCondition_117 (fun v_16 H locs hq16_ hw => ?_)
      obtain ⟨y80_16, y83_16, y84_16, y86_16, y300_16, ev16_, hh16_⟩ := hq16_
      rw [ev16_] at hw; clear ev16_
      have hw : WK D cy T (upV (upV (upV (upV (upV v_0 80 y80_16) 83 y83_16) 84 y84_16) 86 y86_16) 300 y300_16) A0 s.heap H locs := cw_eq hw (by first | rfl | (funext j_; simp only [upV, reduceIte]; (repeat' split) <;> first | rfl | omega | (subst_vars; rfl)))
      have hh16_ : (0 ≤ (y86_16 o) ∧ (y86_16 o) ≤ 400) ∧ Ro_ (y300_13) (y300_16) (T 85 o) ∧ Cp_ S3_ (N4_ K_) K_ V_ ((y83_15 o)) ((y80_15 o)) ((y83_16 o)) ((y84_16 o)) ((y80_16 o)) := hh16_
      have e2_ := hh16_
      refine j_aload_n E 121 rfl dX3_readCondition_120 rfl (lv_at hl 2 rfl) ?_
      refine j_iload_n E 122 rfl dX3_readCondition_121 rfl (lv_at hl 0 rfl) ?_
      refine j_ineg E 123 rfl dX3_readCondition_122 ?_
      refine j_norm (fun zz17_ rr17_ ee17_ => ?_)
      refine kV_v E (c_X3_emit l D cy T (upV (upV (upV (upV (upV v_0 80 y80_16) 83 y83_16) 84 y84_16) 86 y86_16) 300 y300_16) o zz17_  t_o rr17_ (show 0 ≤ (y86_16 o) ∧ (y86_16 o) ≤ 400 from by omega)) mt_X3_emit ml_X3_60 hK hw (cw_rc4 hK hw.1 t_o) hA ⟨Nat.le_of_ble_eq_true rfl, Nat.le_of_ble_eq_true rfl⟩ ⟨Nat.le_of_ble_eq_true rfl, Nat.le_of_ble_eq_true rfl⟩ (As := [.int (J zz17_)]) (rest := []) rfl rfl hl.1 (Nat.le_of_ble_eq_true rfl) 126 rfl dX3_readCondition_123 (fun v_18 H locs hq18_ hw => ?_)
      obtain ⟨y86_18, y300_18, ev18_, hh18_⟩ := hq18_
      rw [ev18_] at hw; clear ev18_
      have hw : WK D cy T (upV (upV (upV (upV (upV v_0 80 y80_16) 83 y83_16) 84 y84_16) 86 y86_18) 300 y300_18) A0 s.heap H locs := cw_eq hw (by first | rfl | (funext j_; simp only [upV, reduceIte]; (repeat' split) <;> first | rfl | omega | (subst_vars; rfl)))
      have hh18_ : (0 ≤ (y86_18 o) ∧ (y86_18 o) ≤ 400) ∧ Ro_ (y300_16) (y300_18) (T 85 o) := hh18_
      have ro_ := hh18_.2
      exact hret 126 (upV (upV (upV (upV (upV v_0 80 y80_16) 83 y83_16) 84 y84_16) 86 y86_18) 300 y300_18) _ _ ls hw ⟨y80_16, y83_16, y84_16, y86_18, y300_18, rfl, by first | exact ⟨by omega, Ro_rf, ck_deep rfl hp2 (by omega) rfl r_.1 r_.2⟩ | exact ⟨by omega, b_.2.1, ck_bra (by omega) hp2 (by omega) b_.2.2 t_ (fun q_ => (RK_lt hp1 (ck_k b_.2.2 q_)).2)⟩ | exact ⟨by omega, Ro_tr n_.2.1 ro_, ck_not (by omega) hp2 (by omega) n_.2.2⟩ | exact ⟨by omega, Ro_tr e1_.2.1 (Ro_tr e2_.2.1 ro_), ck_cmp hp2 (by omega) (by omega) e1_.2.2 t_ e2_.2.2⟩⟩ dX3_readCondition_126
    · refine j_iconst E 20 rfl dX3_readCondition_19 ?_
      refine j_goto E 24 dX3_readCondition_20 (by decide) ?_
      refine j_istore_n E 25 rfl [(2, .int (J 1)), (0, .ref o), (1, .int (J 5))] dX3_readCondition_24 rfl hl (by decide) rfl (fun ls hl => ?_)
      refine j_iload_n E 26 rfl dX3_readCondition_25 rfl (lv_at hl 0 rfl) ?_
      refine j_if_eq E 29 43 rfl (rr (by decide)) dX3_readCondition_26 (by decide) (fun cc19_ => absurd cc19_ (by decide)) (fun _ => ?_)
      refine j_iload_n E 30 rfl dX3_readCondition_29 rfl (lv_at hl 2 rfl) ?_
      refine j_bipush E 32 rfl dX3_readCondition_30 (by decide) ?_
      refine j_icmp_lt E 35 43 rfl (rr (by decide)) (rr (by decide)) dX3_readCondition_32 (by decide) (fun _ => ?_) (fun cc20_ => absurd cc20_ (by decide))
      refine j_aload_n E 44 rfl dX3_readCondition_43 rfl (lv_at hl 1 rfl) ?_
      refine g_84 E hK hw fl_X3_30 t_o (v_0 84 o) rfl 47 rfl dX3_readCondition_44 (fun _ => ?_)
      refine j_bipush E 49 rfl dX3_readCondition_47 (by decide) ?_
      refine j_icmp_ne E 52 72 rfl rr1_ (rr (by decide)) dX3_readCondition_49 (by decide) (fun cc21_ => ?_) (fun cc21_ => ?_)
      rotate_left; · exfalso; omega
      refine j_aload_n E 73 rfl dX3_readCondition_72 rfl (lv_at hl 1 rfl) ?_
      refine g_84 E hK hw fl_X3_30 t_o (v_0 84 o) rfl 76 rfl dX3_readCondition_73 (fun _ => ?_)
      refine j_sipush E 79 rfl dX3_readCondition_76 (by decide) ?_
      refine j_icmp_ne E 82 103 rfl rr1_ (rr (by decide)) dX3_readCondition_79 (by decide) (fun cc22_ => ?_) (fun cc22_ => ?_)
      · exfalso; omega
      refine j_aload_n E 83 rfl dX3_readCondition_82 rfl (lv_at hl 1 rfl) ?_
      refine zV_v E (c_X3_step l D cy T (v_0) κ o K_ V_ hO t_o  (show RK_ (v_0 300) (T 120 (T 82 o)) (T 121 (T 82 o)) (((v_0 123) (T 82 o))) K_ V_ from hp1) (show 0 ≤ ((v_0 83) o) ∧ ((v_0 83) o) < 400 from by have q_ := RK_lt hp1 (j := (v_0 83 o)) (by omega); omega)) mt_X3_step ml_X3_54 hK hZ hAc hw (cw_rc4 hK hw.1 t_o) hA ⟨Nat.le_of_ble_eq_true rfl, Nat.le_of_ble_eq_true rfl⟩ ⟨Nat.le_of_ble_eq_true rfl, Nat.le_of_ble_eq_true rfl⟩ (As := []) (rest := []) rfl rfl hl.1 (Nat.le_of_ble_eq_true rfl) 86 rfl dX3_readCondition_83 (fun v_23 H locs hq23_ hw => ?_)
      obtain ⟨y83_23, y84_23, ev23_, hh23_⟩ := hq23_
      rw [ev23_] at hw; clear ev23_
      have hw : WK D cy T (upV (upV v_0 83 y83_23) 84 y84_23) A0 s.heap H locs := cw_eq hw (by first | rfl | (funext j_; simp only [upV, reduceIte]; (repeat' split) <;> first | rfl | omega | (subst_vars; rfl)))
      have hh23_ : (y83_23 o) = ((v_0 83) o) + 1 ∧ (y84_23 o) = K_ (((v_0 83) o) + 1) := hh23_
      have s2_ := hh23_
      refine j_aload_n E 87 rfl dX3_readCondition_86 rfl (lv_at hl 1 rfl) ?_
      refine j_iload_n E 88 rfl dX3_readCondition_87 rfl (lv_at hl 2 rfl) ?_
      refine j_iconst E 89 rfl dX3_readCondition_88 ?_
      refine j_iadd E 90 rfl dX3_readCondition_89 ?_
      refine j_lit (z := 6) (by decide) ?_
      refine zV_v E (c_X3_readCondition_n6 l D cy T (upV (upV v_0 83 y83_23) 84 y84_23) κ o K_ V_ hO t_o  (show 0 ≤ ((v_0 86) o) ∧ ((v_0 86) o) ≤ 400 from by omega) (show RK_ (v_0 300) (T 120 (T 82 o)) (T 121 (T 82 o)) (((v_0 123) (T 82 o))) K_ V_ from hp1) (show Cs_ K_ ((y83_23 o)) ((y84_23 o)) (((v_0 80) o)) from Cs_st hp2 (by omega) s2_.1 s2_.2 (by omega))) mt_X3_readCondition ml_X3_85 hK hZ hAc hw (cw_rc4 hK hw.1 t_o) hA ⟨Nat.le_of_ble_eq_true rfl, Nat.le_of_ble_eq_true rfl⟩ ⟨Nat.le_of_ble_eq_true rfl, Nat.le_of_ble_eq_true rfl⟩ (As := [.int (J 6)]) (rest := []) rfl rfl hl.1 (Nat.le_of_ble_eq_true rfl) 93 rfl dX3_readCondition_90 (fun v_24 H locs hq24_ hw => ?_)
      obtain ⟨y80_24, y83_24, y84_24, y86_24, y300_24, ev24_, hh24_⟩ := hq24_
      rw [ev24_] at hw; clear ev24_
      have hw : WK D cy T (upV (upV (upV (upV (upV v_0 80 y80_24) 83 y83_24) 84 y84_24) 86 y86_24) 300 y300_24) A0 s.heap H locs := cw_eq hw (by first | rfl | (funext j_; simp only [upV, reduceIte]; (repeat' split) <;> first | rfl | omega | (subst_vars; rfl)))
      have hh24_ : (0 ≤ (y86_24 o) ∧ (y86_24 o) ≤ 400) ∧ Ro_ (v_0 300) (y300_24) (T 85 o) ∧ Ck_ S3_ (6 : Int) TX_ K_ V_ ((y83_23 o)) (((v_0 80) o)) ((y83_24 o)) ((y84_24 o)) ((y80_24 o)) := hh24_
      have n_ := hh24_
      rw [s2_.1] at n_
      refine j_aload_n E 94 rfl dX3_readCondition_93 rfl (lv_at hl 1 rfl) ?_
      refine j_sipush E 97 rfl dX3_readCondition_94 (by decide) ?_
      refine kV_v E (c_X3_emit l D cy T (upV (upV (upV (upV (upV v_0 80 y80_24) 83 y83_24) 84 y84_24) 86 y86_24) 300 y300_24) o ((-306))  t_o (rr (by decide)) (show 0 ≤ (y86_24 o) ∧ (y86_24 o) ≤ 400 from by omega)) mt_X3_emit ml_X3_60 hK hw (cw_rc4 hK hw.1 t_o) hA ⟨Nat.le_of_ble_eq_true rfl, Nat.le_of_ble_eq_true rfl⟩ ⟨Nat.le_of_ble_eq_true rfl, Nat.le_of_ble_eq_true rfl⟩ (As := [.int (J ((-306)))]) (rest := []) rfl rfl hl.1 (Nat.le_of_ble_eq_true rfl) 100 rfl dX3_readCondition_97 (fun v_25 H locs hq25_ hw => ?_)
      obtain ⟨y86_25, y300_25, ev25_, hh25_⟩ := hq25_
      rw [ev25_] at hw; clear ev25_
      have hw : WK D cy T (upV (upV (upV (upV (upV v_0 80 y80_24) 83 y83_24) 84 y84_24) 86 y86_25) 300 y300_25) A0 s.heap H locs := cw_eq hw (by first | rfl | (funext j_; simp only [upV, reduceIte]; (repeat' split) <;> first | rfl | omega | (subst_vars; rfl)))
      have hh25_ : (0 ≤ (y86_25 o) ∧ (y86_25 o) ≤ 400) ∧ Ro_ (y300_24) (y300_25) (T 85 o) := hh25_
      have ro_ := hh25_.2
      refine j_goto E 126 dX3_readCondition_100 (by decide) ?_
      exact hret 126 (upV (upV (upV (upV (upV v_0 80 y80_24) 83 y83_24) 84 y84_24) 86 y86_25) 300 y300_25) _ _ ls hw ⟨y80_24, y83_24, y84_24, y86_25, y300_25, rfl, by first | exact ⟨by omega, Ro_rf, ck_deep rfl hp2 (by omega) rfl r_.1 r_.2⟩ | exact ⟨by omega, b_.2.1, ck_bra (by omega) hp2 (by omega) b_.2.2 t_ (fun q_ => (RK_lt hp1 (ck_k b_.2.2 q_)).2)⟩ | exact ⟨by omega, Ro_tr n_.2.1 ro_, ck_not (by omega) hp2 (by omega) n_.2.2⟩ | exact ⟨by omega, Ro_tr e1_.2.1 (Ro_tr e2_.2.1 ro_), ck_cmp hp2 (by omega) (by omega) e1_.2.2 t_ e2_.2.2⟩⟩ dX3_readCondition_126
set_option maxHeartbeats 4000000 in
set_option maxRecDepth 100000 in
theorem c_X3_readConditions_n5 (l : Launch) (D : va_G) (cy : Nat → ClassId) (T : Nat → Nat → Nat) (v_0 : Nat → Nat → Int) (κ : Nat → Nat → Nat) (o : Nat) (K_ : Int → Int) (V_ : Int → Int) (hO : ∀ x, ow T x → κ 2 2 ≤ x) (t_o : T 0 o = 4) (hp0 : 0 ≤ (v_0 86 o) ∧ (v_0 86 o) ≤ 400) (hp1 : RK_ (v_0 300) (T 120 (T 82 o)) (T 121 (T 82 o)) ((v_0 123 (T 82 o))) K_ V_) (hp2 : Cs_ K_ ((v_0 83 o)) ((v_0 84 o)) ((v_0 80 o))) : KZ l D cy κ T yX3_readConditions cX3_readConditions 5 none 12 [.ref o, .int (J 5)] v_0 (KV (fun (v_2 : Nat → Nat → Int) => ∃ (y80_2 : Nat → Int) (y83_2 : Nat → Int) (y84_2 : Nat → Int) (y86_2 : Nat → Int) (y300_2 : Nat → Int) , v_2 = upV (upV (upV (upV (upV v_0 80 y80_2) 83 y83_2) 84 y84_2) 86 y86_2) 300 y300_2 ∧ ((0 ≤ (y86_2 o) ∧ (y86_2 o) ≤ 400) ∧ Ro_ (v_0 300) (y300_2) (T 85 o) ∧ Ck_ S4_ (5 : Int) (NA_ K_) K_ V_ ((v_0 83 o)) ((v_0 80 o)) ((y83_2 o)) ((y84_2 o)) ((y80_2 o))))) := by
  refine KZ.ofv (by decide) (Nat.le_of_ble_eq_true rfl) hO ?_
  intro p e s m below meth c ls ar QW A0 H locs E hK hZ hA hAc hw hl hret
  have hl : lv_has ls 5 [(0, .ref o), (1, .int (J 5))] := hl
  have hT : WT T := hw.1.2.1
  have nk_ : T 120 (T 82 o) ≠ T 85 o := ro_ne (wo_120 hT (wt_82 hT t_o)) (wo_85 hT t_o) (by decide) (by decide) (by omega)
  have nv_ : T 121 (T 82 o) ≠ T 85 o := ro_ne (wo_121 hT (wt_82 hT t_o)) (wo_85 hT t_o) (by decide) (by decide) (by omega)
  have c0_ := hp2.1
  refine j_aload_n E 1 rfl dX3_readConditions_0 rfl (lv_at hl 0 rfl) ?_
  refine j_iload_n E 2 rfl dX3_readConditions_1 rfl (lv_at hl 1 rfl) ?_
  refine zV_v E (c_X3_readCondition_n5 l D cy T (v_0) κ o K_ V_ hO t_o  (show 0 ≤ ((v_0 86) o) ∧ ((v_0 86) o) ≤ 400 from by omega) (show RK_ (v_0 300) (T 120 (T 82 o)) (T 121 (T 82 o)) (((v_0 123) (T 82 o))) K_ V_ from hp1) (show Cs_ K_ (((v_0 83) o)) (((v_0 84) o)) (((v_0 80) o)) from hp2)) mt_X3_readCondition ml_X3_85 hK hZ hAc hw (cw_rc4 hK hw.1 t_o) hA ⟨Nat.le_of_ble_eq_true rfl, Nat.le_of_ble_eq_true rfl⟩ ⟨Nat.le_of_ble_eq_true rfl, Nat.le_of_ble_eq_true rfl⟩ (As := [.int (J 5)]) (rest := []) rfl rfl hl.1 (Nat.le_of_ble_eq_true rfl) 5 rfl dX3_readConditions_2 (fun v_1 H locs hq1_ hw => ?_)
  obtain ⟨y80_1, y83_1, y84_1, y86_1, y300_1, ev1_, hh1_⟩ := hq1_
  rw [ev1_] at hw; clear ev1_
  have hw : WK D cy T (upV (upV (upV (upV (upV v_0 80 y80_1) 83 y83_1) 84 y84_1) 86 y86_1) 300 y300_1) A0 s.heap H locs := cw_eq hw (by first | rfl | (funext j_; simp only [upV, reduceIte]; (repeat' split) <;> first | rfl | omega | (subst_vars; rfl)))
  have hh1_ : (0 ≤ (y86_1 o) ∧ (y86_1 o) ≤ 400) ∧ Ro_ (v_0 300) (y300_1) (T 85 o) ∧ Ck_ S3_ (5 : Int) TX_ K_ V_ (((v_0 83) o)) (((v_0 80) o)) ((y83_1 o)) ((y84_1 o)) ((y80_1 o)) := hh1_
  have u0_ := hh1_
  refine j_iconst E 6 rfl dX3_readConditions_5 ?_
  refine j_istore_n E 7 rfl [(2, .int (J 0)), (0, .ref o), (1, .int (J 5))] dX3_readConditions_6 rfl hl (by decide) rfl (fun ls hl => ?_)
  refine j_iconst E 8 rfl dX3_readConditions_7 ?_
  refine j_istore_n E 9 rfl [(3, .int (J 0)), (2, .int (J 0)), (0, .ref o), (1, .int (J 5))] dX3_readConditions_8 rfl hl (by decide) rfl (fun ls hl => ?_)
  have L9_2 : ∀ (k9 : Nat) (l2_9 l3_9 : Int) (y80_c9 : Nat → Int) (y83_c9 : Nat → Int) (y84_c9 : Nat → Int) (y86_c9 : Nat → Int) (y300_c9 : Nat → Int) (H : Heap) (locs : List Loc) (ls : Array Slot), inR l2_9 → inR l3_9 → ((0 ≤ (y86_c9 o) ∧ (y86_c9 o) ≤ 400) ∧ (Ro_ (v_0 300) (y300_c9) (T 85 o)) ∧ 0 ≤ l3_9 ∧ Co_ (5 : Int) {K_} {V_} (v_0 83 o) (v_0 80 o) l2_9 l3_9 ((y83_c9 o)) ((y84_c9 o)) ((y80_c9 o))) → (400 - l3_9).toNat < k9 → WK D cy T (upV (upV (upV (upV (upV v_0 80 y80_c9) 83 y83_c9) 84 y84_c9) 86 y86_c9) 300 y300_c9) A0 s.heap H locs → lv_has ls 5 [(0, .ref o), (1, .int (J 5)), (2, .int (J l2_9)), (3, .int (J l3_9))] → W p l e (rmd 12 0 0) s m ar below meth c H locs 0 0 QW (F0 m 9 ls []) := by
    intro k9
    induction k9 with
    | zero =>
      intro l2_9 l3_9 y80_c9 y83_c9 y84_c9 y86_c9 y300_c9 H locs ls r_l2_9 r_l3_9 iv9 ms9 hw hl
      exact absurd ms9 (Nat.not_lt_zero _)
    | succ k9 ih9 =>
      intro l2_9 l3_9 y80_c9 y83_c9 y84_c9 y86_c9 y300_c9 H locs ls r_l2_9 r_l3_9 iv9 ms9 hw hl
      have cs1_ := Co_cs hp2 iv9.2.2.2
      unfold Cs_ at cs1_
      have L111_4 : ∀ (H : Heap) (locs : List Loc) (ls : Array Slot), (¬ ((y84_c9 o) = 305 ∨ (y84_c9 o) = 304)) → WK D cy T (upV (upV (upV (upV (upV v_0 80 y80_c9) 83 y83_c9) 84 y84_c9) 86 y86_c9) 300 y300_c9) A0 s.heap H locs → lv_has ls 5 [(0, .ref o), (1, .int (J 5)), (2, .int (J l2_9)), (3, .int (J l3_9))] → W p l e (rmd 12 0 0) s m ar below meth c H locs 0 0 QW (F0 m 111 ls []) := by
        intro H locs ls iv111 hw hl
        refine j_iload_n E 112 rfl dX3_readConditions_111 rfl (lv_at hl 2 rfl) ?_
        refine j_if_eq E 115 122 rfl r_l2_9 dX3_readConditions_112 (by decide) (fun cc6_ => ?_) (fun cc6_ => ?_)
        · exact hret 122 (upV (upV (upV (upV (upV v_0 80 y80_c9) 83 y83_c9) 84 y84_c9) 86 y86_c9) 300 y300_c9) _ _ ls hw ⟨y80_c9, y83_c9, y84_c9, y86_c9, y300_c9, rfl, by first | exact ⟨by omega, Ro_tr iv9.2.1 roe_, Co_end iv9.2.2.2 iv111 (by omega)⟩ | exact ⟨by omega, iv9.2.1, Co_end iv9.2.2.2 iv111 (by omega)⟩⟩ dX3_readConditions_122
        · refine j_aload_n E 116 rfl dX3_readConditions_115 rfl (lv_at hl 0 rfl) ?_
          refine j_sipush E 119 rfl dX3_readConditions_116 (by decide) ?_
          refine kV_v E (c_X3_emit l D cy T (upV (upV (upV (upV (upV v_0 80 y80_c9) 83 y83_c9) 84 y84_c9) 86 y86_c9) 300 y300_c9) o ((-304))  t_o (rr (by decide)) (show 0 ≤ (y86_c9 o) ∧ (y86_c9 o) ≤ 400 from by omega)) mt_X3_emit ml_X3_60 hK hw (cw_rc4 hK hw.1 t_o) hA ⟨Nat.le_of_ble_eq_true rfl, Nat.le_of_ble_eq_true rfl⟩ ⟨Nat.le_of_ble_eq_true rfl, Nat.le_of_ble_eq_true rfl⟩ (As := [.int (J ((-304)))]) (rest := []) rfl rfl hl.1 (Nat.le_of_ble_eq_true rfl) 122 rfl dX3_readConditions_119 (fun v_7 H locs hq7_ hw => ?_)
          obtain ⟨y86_7, y300_7, ev7_, hh7_⟩ := hq7_
          rw [ev7_] at hw; clear ev7_
          have hw : WK D cy T (upV (upV (upV (upV (upV v_0 80 y80_c9) 83 y83_c9) 84 y84_c9) 86 y86_7) 300 y300_7) A0 s.heap H locs := cw_eq hw (by first | rfl | (funext j_; simp only [upV, reduceIte]; (repeat' split) <;> first | rfl | omega | (subst_vars; rfl)))
          have hh7_ : (0 ≤ (y86_7 o) ∧ (y86_7 o) ≤ 400) ∧ Ro_ (y300_c9) (y300_7) (T 85 o) := hh7_
          have roe_ := hh7_.2
          exact hret 122 (upV (upV (upV (upV (upV v_0 80 y80_c9) 83 y83_c9) 84 y84_c9) 86 y86_7) 300 y300_7) _ _ ls hw ⟨y80_c9, y83_c9, y84_c9, y86_7, y300_7, rfl, by first | exact ⟨by omega, Ro_tr iv9.2.1 roe_, Co_end iv9.2.2.2 iv111 (by omega)⟩ | exact ⟨by omega, iv9.2.1, Co_end iv9.2.2.2 iv111 (by omega)⟩⟩ dX3_readConditions_122
      refine j_iload_n E 10 rfl dX3_readConditions_9 rfl (lv_at hl 3 rfl) ?_
      refine j_sipush E 13 rfl dX3_readConditions_10 (by decide) ?_
      refine j_icmp_ge E 16 111 rfl r_l3_9 (rr (by decide)) dX3_readConditions_13 (by decide) (fun cc8_ => ?_) (fun cc8_ => ?_)
      · exact L111_4   H locs ls  (by first | omega | exact Co_i iv9.2.2.2 (by omega) (by omega)) hw (lv_sub hl [0, 1, 2, 3] rfl)
      · refine j_aload_n E 17 rfl dX3_readConditions_16 rfl (lv_at hl 0 rfl) ?_
        refine g_84 E hK hw fl_X3_30 t_o (y84_c9 o) rfl 20 rfl dX3_readConditions_17 (fun rr9_ => ?_)
        refine j_sipush E 23 rfl dX3_readConditions_20 (by decide) ?_
        refine j_icmp_eq E 26 36 rfl rr9_ (rr (by decide)) dX3_readConditions_23 (by decide) (fun cc10_ => ?_) (fun cc10_ => ?_)
        · have L51_11 : ∀ (s0_51 : Int) (H : Heap) (locs : List Loc) (ls : Array Slot), inR s0_51 → ((s0_51 = 1 ∧ (y84_c9 o) = 305) ∨ (s0_51 = 0 ∧ (y84_c9 o) = 304)) → WK D cy T (upV (upV (upV (upV (upV v_0 80 y80_c9) 83 y83_c9) 84 y84_c9) 86 y86_c9) 300 y300_c9) A0 s.heap H locs → lv_has ls 5 [(0, .ref o), (1, .int (J 5)), (2, .int (J l2_9)), (3, .int (J l3_9))] → W p l e (rmd 12 0 0) s m ar below meth c H locs 0 0 QW (F0 m 51 ls [.int (J s0_51)]) := by
            intro s0_51 H locs ls r_s0_51 iv51 hw hl
            refine j_istore E 53 rfl [(4, .int (J s0_51)), (0, .ref o), (1, .int (J 5)), (2, .int (J l2_9)), (3, .int (J l3_9))] dX3_readConditions_51 hl (by decide) rfl (fun ls hl => ?_)
            have L69_13 : ∀ (y86_c69 : Nat → Int) (y300_c69 : Nat → Int) (H : Heap) (locs : List Loc) (ls : Array Slot), ((0 ≤ (y86_c69 o) ∧ (y86_c69 o) ≤ 400) ∧ Ro_ (v_0 300) (y300_c69) (T 85 o)) → WK D cy T (upV (upV (upV (upV (upV v_0 80 y80_c9) 83 y83_c9) 84 y84_c9) 86 y86_c69) 300 y300_c69) A0 s.heap H locs → lv_has ls 5 [(0, .ref o), (1, .int (J 5)), (2, .int (J l2_9)), (3, .int (J l3_9)), (4, .int (J s0_51))] → W p l e (rmd 12 0 0) s m ar below meth c H locs 0 0 QW (F0 m 69 ls []) := by
              intro y86_c69 y300_c69 H locs ls iv69 hw hl
              refine j_aload_n E 70 rfl dX3_readConditions_69 rfl (lv_at hl 0 rfl) ?_
              refine zV_v E (c_X3_step l D cy T (upV (upV (upV (upV (upV v_0 80 y80_c9) 83 y83_c9) 84 y84_c9) 86 y86_c69) 300 y300_c69) κ o K_ V_ hO t_o  (show RK_ (y300_c69) (T 120 (T 82 o)) (T 121 (T 82 o)) (((v_0 123) (T 82 o))) K_ V_ from RK_ro hp1 iv69.2 nk_ nv_) (show 0 ≤ (y83_c9 o) ∧ (y83_c9 o) < 400 from by have q_ := RK_lt hp1 (j := (y83_c9 o)) (by omega); omega)) mt_X3_step ml_X3_54 hK hZ hAc hw (cw_rc4 hK hw.1 t_o) hA ⟨Nat.le_of_ble_eq_true rfl, Nat.le_of_ble_eq_true rfl⟩ ⟨Nat.le_of_ble_eq_true rfl, Nat.le_of_ble_eq_true rfl⟩ (As := []) (rest := []) rfl rfl hl.1 (Nat.le_of_ble_eq_true rfl) 73 rfl dX3_readConditions_70 (fun v_15 H locs hq15_ hw => ?_)
              obtain ⟨y83_15, y84_15, ev15_, hh15_⟩ := hq15_
              rw [ev15_] at hw; clear ev15_
              have hw : WK D cy T (upV (upV (upV (upV (upV v_0 80 y80_c9) 83 y83_15) 84 y84_15) 86 y86_c69) 300 y300_c69) A0 s.heap H locs := cw_eq hw (by first | rfl | (funext j_; simp only [upV, reduceIte]; (repeat' split) <;> first | rfl | omega | (subst_vars; rfl)))
              have hh15_ : (y83_15 o) = (y83_c9 o) + 1 ∧ (y84_15 o) = K_ ((y83_c9 o) + 1) := hh15_
              have s_ := hh15_
              refine j_aload_n E 74 rfl dX3_readConditions_73 rfl (lv_at hl 0 rfl) ?_
              refine j_iload_n E 75 rfl dX3_readConditions_74 rfl (lv_at hl 1 rfl) ?_
              refine zV_v E (c_X3_readCondition_n5 l D cy T (upV (upV (upV (upV (upV v_0 80 y80_c9) 83 y83_15) 84 y84_15) 86 y86_c69) 300 y300_c69) κ o K_ V_ hO t_o  (show 0 ≤ (y86_c69 o) ∧ (y86_c69 o) ≤ 400 from by omega) (show RK_ (y300_c69) (T 120 (T 82 o)) (T 121 (T 82 o)) (((v_0 123) (T 82 o))) K_ V_ from RK_ro hp1 iv69.2 nk_ nv_) (show Cs_ K_ ((y83_15 o)) ((y84_15 o)) ((y80_c9 o)) from Cs_st (Co_cs hp2 iv9.2.2.2) (by omega) s_.1 s_.2 (by omega))) mt_X3_readCondition ml_X3_85 hK hZ hAc hw (cw_rc4 hK hw.1 t_o) hA ⟨Nat.le_of_ble_eq_true rfl, Nat.le_of_ble_eq_true rfl⟩ ⟨Nat.le_of_ble_eq_true rfl, Nat.le_of_ble_eq_true rfl⟩ (As := [.int (J 5)]) (rest := []) rfl rfl hl.1 (Nat.le_of_ble_eq_true rfl) 78 rfl dX3_readConditions_75 (fun v_16 H locs hq16_ hw => ?_)
              obtain ⟨y80_16, y83_16, y84_16, y86_16, y300_16, ev16_, hh16_⟩ := hq16_
              rw [ev16_] at hw; clear ev16_
              have hw : WK D cy T (upV (upV (upV (upV (upV v_0 80 y80_16) 83 y83_16) 84 y84_16) 86 y86_16) 300 y300_16) A0 s.heap H locs := cw_eq hw (by first | rfl | (funext j_; simp only [upV, reduceIte]; (repeat' split) <;> first | rfl | omega | (subst_vars; rfl)))
              have hh16_ : (0 ≤ (y86_16 o) ∧ (y86_16 o) ≤ 400) ∧ Ro_ (y300_c69) (y300_16) (T 85 o) ∧ Ck_ S3_ (5 : Int) TX_ K_ V_ ((y83_15 o)) ((y80_c9 o)) ((y83_16 o)) ((y84_16 o)) ((y80_16 o)) := hh16_
              have u_ := hh16_
              rw [s_.1] at u_
              refine j_iload E 80 rfl dX3_readConditions_78 (lv_at hl 4 rfl) ?_
              refine j_if_eq E 83 90 rfl r_s0_51 dX3_readConditions_80 (by decide) (fun cc17_ => ?_) (fun cc17_ => ?_)
              · have L104_18 : ∀ (s0_104 : Int) (H : Heap) (locs : List Loc) (ls : Array Slot), inR s0_104 → (((l2_9 ≠ 0 ∨ s0_51 = 0) ∧ s0_104 = 1) ∨ (l2_9 = 0 ∧ s0_51 ≠ 0 ∧ s0_104 = 0)) → WK D cy T (upV (upV (upV (upV (upV v_0 80 y80_16) 83 y83_16) 84 y84_16) 86 y86_16) 300 y300_16) A0 s.heap H locs → lv_has ls 5 [(0, .ref o), (1, .int (J 5)), (2, .int (J l2_9)), (3, .int (J l3_9)), (4, .int (J s0_51))] → W p l e (rmd 12 0 0) s m ar below meth c H locs 0 0 QW (F0 m 104 ls [.int (J s0_104)]) := by
                  intro s0_104 H locs ls r_s0_104 iv104 hw hl
                  refine j_istore_n E 105 rfl [(2, .int (J s0_104)), (0, .ref o), (1, .int (J 5)), (3, .int (J l3_9)), (4, .int (J s0_51))] dX3_readConditions_104 rfl hl (by decide) rfl (fun ls hl => ?_)
                  refine j_iinc E 108 rfl [(3, .int (J (l3_9 + 1))), (2, .int (J s0_104)), (0, .ref o), (1, .int (J 5)), (4, .int (J s0_51))] dX3_readConditions_105 hl (kk := 3) rfl (by decide) rfl (fun ls hl => ?_)
                  refine j_goto E 9 dX3_readConditions_108 (by decide) ?_
                  exact ih9 s0_104 (l3_9 + 1) y80_16 y83_16 y84_16 y86_16 y300_16 H locs ls r_s0_104 (rr (by omega)) (by first | exact ⟨by omega, Ro_tr iv69.2 (Ro_tr u_.2.1 ro9_), by omega, by rw [show s0_104 = l2_9 by omega]; exact Co_and iv9.2.2.2 (by omega) u_.2.2⟩ | exact ⟨by omega, Ro_tr iv69.2 u_.2.1, by omega, by rw [show s0_104 = 1 by omega]; exact Co_or iv9.2.2.2 (by omega) u_.2.2⟩ | (exfalso; omega)) (by omega) hw (lv_sub hl [2, 3, 1, 0] rfl)
                refine j_iload_n E 91 rfl dX3_readConditions_90 rfl (lv_at hl 2 rfl) ?_
                refine j_if_ne E 94 99 rfl r_l2_9 dX3_readConditions_91 (by decide) (fun cc20_ => ?_) (fun cc20_ => ?_)
                · refine j_iconst E 100 rfl dX3_readConditions_99 ?_
                  refine j_goto E 104 dX3_readConditions_100 (by decide) ?_
                  exact L104_18 1  H locs ls (rr (by decide)) (by omega) hw (lv_sub hl [0, 1, 2, 3, 4] rfl)
                · refine j_iload E 96 rfl dX3_readConditions_94 (lv_at hl 4 rfl) ?_
                  refine j_if_ne E 99 103 rfl r_s0_51 dX3_readConditions_96 (by decide) (fun cc21_ => ?_) (fun cc21_ => ?_)
                  · exfalso; omega
                  refine j_iconst E 100 rfl dX3_readConditions_99 ?_
                  refine j_goto E 104 dX3_readConditions_100 (by decide) ?_
                  exact L104_18 1  H locs ls (rr (by decide)) (by omega) hw (lv_sub hl [0, 1, 2, 3, 4] rfl)
              · refine j_aload_n E 84 rfl dX3_readConditions_83 rfl (lv_at hl 0 rfl) ?_
                refine j_sipush E 87 rfl dX3_readConditions_84 (by decide) ?_
                refine kV_v E (c_X3_emit l D cy T (upV (upV (upV (upV (upV v_0 80 y80_16) 83 y83_16) 84 y84_16) 86 y86_16) 300 y300_16) o ((-305))  t_o (rr (by decide)) (show 0 ≤ (y86_16 o) ∧ (y86_16 o) ≤ 400 from by omega)) mt_X3_emit ml_X3_60 hK hw (cw_rc4 hK hw.1 t_o) hA ⟨Nat.le_of_ble_eq_true rfl, Nat.le_of_ble_eq_true rfl⟩ ⟨Nat.le_of_ble_eq_true rfl, Nat.le_of_ble_eq_true rfl⟩ (As := [.int (J ((-305)))]) (rest := []) rfl rfl hl.1 (Nat.le_of_ble_eq_true rfl) 90 rfl dX3_readConditions_87 (fun v_22 H locs hq22_ hw => ?_)
                obtain ⟨y86_22, y300_22, ev22_, hh22_⟩ := hq22_
                rw [ev22_] at hw; clear ev22_
                have hw : WK D cy T (upV (upV (upV (upV (upV v_0 80 y80_16) 83 y83_16) 84 y84_16) 86 y86_22) 300 y300_22) A0 s.heap H locs := cw_eq hw (by first | rfl | (funext j_; simp only [upV, reduceIte]; (repeat' split) <;> first | rfl | omega | (subst_vars; rfl)))
                have hh22_ : (0 ≤ (y86_22 o) ∧ (y86_22 o) ≤ 400) ∧ Ro_ (y300_16) (y300_22) (T 85 o) := hh22_
                have ro9_ := hh22_.2
                have L104_23 : ∀ (s0_104 : Int) (H : Heap) (locs : List Loc) (ls : Array Slot), inR s0_104 → (((l2_9 ≠ 0 ∨ s0_51 = 0) ∧ s0_104 = 1) ∨ (l2_9 = 0 ∧ s0_51 ≠ 0 ∧ s0_104 = 0)) → WK D cy T (upV (upV (upV (upV (upV v_0 80 y80_16) 83 y83_16) 84 y84_16) 86 y86_22) 300 y300_22) A0 s.heap H locs → lv_has ls 5 [(0, .ref o), (1, .int (J 5)), (2, .int (J l2_9)), (3, .int (J l3_9)), (4, .int (J s0_51))] → W p l e (rmd 12 0 0) s m ar below meth c H locs 0 0 QW (F0 m 104 ls [.int (J s0_104)]) := by
                  intro s0_104 H locs ls r_s0_104 iv104 hw hl
                  refine j_istore_n E 105 rfl [(2, .int (J s0_104)), (0, .ref o), (1, .int (J 5)), (3, .int (J l3_9)), (4, .int (J s0_51))] dX3_readConditions_104 rfl hl (by decide) rfl (fun ls hl => ?_)
                  refine j_iinc E 108 rfl [(3, .int (J (l3_9 + 1))), (2, .int (J s0_104)), (0, .ref o), (1, .int (J 5)), (4, .int (J s0_51))] dX3_readConditions_105 hl (kk := 3) rfl (by decide) rfl (fun ls hl => ?_)
                  refine j_goto E 9 dX3_readConditions_108 (by decide) ?_
                  exact ih9 s0_104 (l3_9 + 1) y80_16 y83_16 y84_16 y86_22 y300_22 H locs ls r_s0_104 (rr (by omega)) (by first | exact ⟨by omega, Ro_tr iv69.2 (Ro_tr u_.2.1 ro9_), by omega, by rw [show s0_104 = l2_9 by omega]; exact Co_and iv9.2.2.2 (by omega) u_.2.2⟩ | exact ⟨by omega, Ro_tr iv69.2 u_.2.1, by omega, by rw [show s0_104 = 1 by omega]; exact Co_or iv9.2.2.2 (by omega) u_.2.2⟩ | (exfalso; omega)) (by omega) hw (lv_sub hl [2, 3, 1, 0] rfl)
                refine j_iload_n E 91 rfl dX3_readConditions_90 rfl (lv_at hl 2 rfl) ?_
                refine j_if_ne E 94 99 rfl r_l2_9 dX3_readConditions_91 (by decide) (fun cc25_ => ?_) (fun cc25_ => ?_)
                · refine j_iconst E 100 rfl dX3_readConditions_99 ?_
                  refine j_goto E 104 dX3_readConditions_100 (by decide) ?_
                  exact L104_23 1  H locs ls (rr (by decide)) (by omega) hw (lv_sub hl [0, 1, 2, 3, 4] rfl)
                · refine j_iload E 96 rfl dX3_readConditions_94 (lv_at hl 4 rfl) ?_
                  refine j_if_ne E 99 103 rfl r_s0_51 dX3_readConditions_96 (by decide) (fun cc26_ => ?_) (fun cc26_ => ?_)
                  rotate_left; · exfalso; omega
                  refine j_iconst E 104 rfl dX3_readConditions_103 ?_
                  exact L104_23 0  H locs ls (rr (by decide)) (by omega) hw (lv_sub hl [0, 1, 2, 3, 4] rfl)
            refine j_iload E 55 rfl dX3_readConditions_53 (lv_at hl 0 rfl) ?_
            refine j_if_ne E 58 69 rfl r_s0_51 dX3_readConditions_55 (by decide) (fun cc27_ => ?_) (fun cc27_ => ?_)
            · exact L69_13  y86_c9 y300_c9 H locs ls  (by first | exact ⟨by omega, iv9.2.1⟩ | exact ⟨by omega, Ro_tr iv9.2.1 ro7_⟩) hw (lv_sub hl [1, 2, 3, 4, 0] rfl)
            · refine j_iload_n E 59 rfl dX3_readConditions_58 rfl (lv_at hl 3 rfl) ?_
              refine j_if_eq E 62 69 rfl r_l2_9 dX3_readConditions_59 (by decide) (fun cc28_ => ?_) (fun cc28_ => ?_)
              · exact L69_13  y86_c9 y300_c9 H locs ls  (by first | exact ⟨by omega, iv9.2.1⟩ | exact ⟨by omega, Ro_tr iv9.2.1 ro7_⟩) hw (lv_sub hl [1, 2, 3, 4, 0] rfl)
              · refine j_aload_n E 63 rfl dX3_readConditions_62 rfl (lv_at hl 1 rfl) ?_
                refine j_sipush E 66 rfl dX3_readConditions_63 (by decide) ?_
                refine kV_v E (c_X3_emit l D cy T (upV (upV (upV (upV (upV v_0 80 y80_c9) 83 y83_c9) 84 y84_c9) 86 y86_c9) 300 y300_c9) o ((-304))  t_o (rr (by decide)) (show 0 ≤ (y86_c9 o) ∧ (y86_c9 o) ≤ 400 from by omega)) mt_X3_emit ml_X3_60 hK hw (cw_rc4 hK hw.1 t_o) hA ⟨Nat.le_of_ble_eq_true rfl, Nat.le_of_ble_eq_true rfl⟩ ⟨Nat.le_of_ble_eq_true rfl, Nat.le_of_ble_eq_true rfl⟩ (As := [.int (J ((-304)))]) (rest := []) rfl rfl hl.1 (Nat.le_of_ble_eq_true rfl) 69 rfl dX3_readConditions_66 (fun v_29 H locs hq29_ hw => ?_)
                obtain ⟨y86_29, y300_29, ev29_, hh29_⟩ := hq29_
                rw [ev29_] at hw; clear ev29_
                have hw : WK D cy T (upV (upV (upV (upV (upV v_0 80 y80_c9) 83 y83_c9) 84 y84_c9) 86 y86_29) 300 y300_29) A0 s.heap H locs := cw_eq hw (by first | rfl | (funext j_; simp only [upV, reduceIte]; (repeat' split) <;> first | rfl | omega | (subst_vars; rfl)))
                have hh29_ : (0 ≤ (y86_29 o) ∧ (y86_29 o) ≤ 400) ∧ Ro_ (y300_c9) (y300_29) (T 85 o) := hh29_
                have ro7_ := hh29_.2
                exact L69_13  y86_29 y300_29 H locs ls  (by first | exact ⟨by omega, iv9.2.1⟩ | exact ⟨by omega, Ro_tr iv9.2.1 ro7_⟩) hw (lv_sub hl [1, 2, 3, 4, 0] rfl)
          refine j_aload_n E 37 rfl dX3_readConditions_36 rfl (lv_at hl 0 rfl) ?_
          refine g_84 E hK hw fl_X3_30 t_o (y84_c9 o) rfl 40 rfl dX3_readConditions_37 (fun _ => ?_)
          refine j_sipush E 43 rfl dX3_readConditions_40 (by decide) ?_
          refine j_icmp_ne E 46 50 rfl rr9_ (rr (by decide)) dX3_readConditions_43 (by decide) (fun cc30_ => ?_) (fun cc30_ => ?_)
          · exfalso; omega
          refine j_iconst E 47 rfl dX3_readConditions_46 ?_
          refine j_goto E 51 dX3_readConditions_47 (by decide) ?_
          exact L51_11 1  H locs ls (rr (by decide)) (by omega) hw (lv_sub hl [0, 1, 2, 3] rfl)
        · refine j_aload_n E 27 rfl dX3_readConditions_26 rfl (lv_at hl 0 rfl) ?_
          refine g_84 E hK hw fl_X3_30 t_o (y84_c9 o) rfl 30 rfl dX3_readConditions_27 (fun _ => ?_)
          refine j_sipush E 33 rfl dX3_readConditions_30 (by decide) ?_
          refine j_icmp_ne E 36 111 rfl rr9_ (rr (by decide)) dX3_readConditions_33 (by decide) (fun cc31_ => ?_) (fun cc31_ => ?_)
          · exact L111_4   H locs ls  (by first | omega | exact Co_i iv9.2.2.2 (by omega) (by omega)) hw (lv_sub hl [0, 1, 2, 3] rfl)
          · have L51_32 : ∀ (s0_51 : Int) (H : Heap) (locs : List Loc) (ls : Array Slot), inR s0_51 → ((s0_51 = 1 ∧ (y84_c9 o) = 305) ∨ (s0_51 = 0 ∧ (y84_c9 o) = 304)) → WK D cy T (upV (upV (upV (upV (upV v_0 80 y80_c9) 83 y83_c9) 84 y84_c9) 86 y86_c9) 300 y300_c9) A0 s.heap H locs → lv_has ls 5 [(0, .ref o), (1, .int (J 5)), (2, .int (J l2_9)), (3, .int (J l3_9))] → W p l e (rmd 12 0 0) s m ar below meth c H locs 0 0 QW (F0 m 51 ls [.int (J s0_51)]) := by
              intro s0_51 H locs ls r_s0_51 iv51 hw hl
              refine j_istore E 53 rfl [(4, .int (J s0_51)), (0, .ref o), (1, .int (J 5)), (2, .int (J l2_9)), (3, .int (J l3_9))] dX3_readConditions_51 hl (by decide) rfl (fun ls hl => ?_)
              have L69_34 : ∀ (y86_c69 : Nat → Int) (y300_c69 : Nat → Int) (H : Heap) (locs : List Loc) (ls : Array Slot), ((0 ≤ (y86_c69 o) ∧ (y86_c69 o) ≤ 400) ∧ Ro_ (v_0 300) (y300_c69) (T 85 o)) → WK D cy T (upV (upV (upV (upV (upV v_0 80 y80_c9) 83 y83_c9) 84 y84_c9) 86 y86_c69) 300 y300_c69) A0 s.heap H locs → lv_has ls 5 [(0, .ref o), (1, .int (J 5)), (2, .int (J l2_9)), (3, .int (J l3_9)), (4, .int (J s0_51))] → W p l e (rmd 12 0 0) s m ar below meth c H locs 0 0 QW (F0 m 69 ls []) := by
                intro y86_c69 y300_c69 H locs ls iv69 hw hl
                refine j_aload_n E 70 rfl dX3_readConditions_69 rfl (lv_at hl 0 rfl) ?_
                refine zV_v E (c_X3_step l D cy T (upV (upV (upV (upV (upV v_0 80 y80_c9) 83 y83_c9) 84 y84_c9) 86 y86_c69) 300 y300_c69) κ o K_ V_ hO t_o  (show RK_ (y300_c69) (T 120 (T 82 o)) (T 121 (T 82 o)) (((v_0 123) (T 82 o))) K_ V_ from RK_ro hp1 iv69.2 nk_ nv_) (show 0 ≤ (y83_c9 o) ∧ (y83_c9 o) < 400 from by have q_ := RK_lt hp1 (j := (y83_c9 o)) (by omega); omega)) mt_X3_step ml_X3_54 hK hZ hAc hw (cw_rc4 hK hw.1 t_o) hA ⟨Nat.le_of_ble_eq_true rfl, Nat.le_of_ble_eq_true rfl⟩ ⟨Nat.le_of_ble_eq_true rfl, Nat.le_of_ble_eq_true rfl⟩ (As := []) (rest := []) rfl rfl hl.1 (Nat.le_of_ble_eq_true rfl) 73 rfl dX3_readConditions_70 (fun v_36 H locs hq36_ hw => ?_)
                obtain ⟨y83_36, y84_36, ev36_, hh36_⟩ := hq36_
                rw [ev36_] at hw; clear ev36_
                have hw : WK D cy T (upV (upV (upV (upV (upV v_0 80 y80_c9) 83 y83_36) 84 y84_36) 86 y86_c69) 300 y300_c69) A0 s.heap H locs := cw_eq hw (by first | rfl | (funext j_; simp only [upV, reduceIte]; (repeat' split) <;> first | rfl | omega | (subst_vars; rfl)))
                have hh36_ : (y83_36 o) = (y83_c9 o) + 1 ∧ (y84_36 o) = K_ ((y83_c9 o) + 1) := hh36_
                have s_ := hh36_
                refine j_aload_n E 74 rfl dX3_readConditions_73 rfl (lv_at hl 0 rfl) ?_
                refine j_iload_n E 75 rfl dX3_readConditions_74 rfl (lv_at hl 1 rfl) ?_
                refine zV_v E (c_X3_readCondition_n5 l D cy T (upV (upV (upV (upV (upV v_0 80 y80_c9) 83 y83_36) 84 y84_36) 86 y86_c69) 300 y300_c69) κ o K_ V_ hO t_o  (show 0 ≤ (y86_c69 o) ∧ (y86_c69 o) ≤ 400 from by omega) (show RK_ (y300_c69) (T 120 (T 82 o)) (T 121 (T 82 o)) (((v_0 123) (T 82 o))) K_ V_ from RK_ro hp1 iv69.2 nk_ nv_) (show Cs_ K_ ((y83_36 o)) ((y84_36 o)) ((y80_c9 o)) from Cs_st (Co_cs hp2 iv9.2.2.2) (by omega) s_.1 s_.2 (by omega))) mt_X3_readCondition ml_X3_85 hK hZ hAc hw (cw_rc4 hK hw.1 t_o) hA ⟨Nat.le_of_ble_eq_true rfl, Nat.le_of_ble_eq_true rfl⟩ ⟨Nat.le_of_ble_eq_true rfl, Nat.le_of_ble_eq_true rfl⟩ (As := [.int (J 5)]) (rest := []) rfl rfl hl.1 (Nat.le_of_ble_eq_true rfl) 78 rfl dX3_readConditions_75 (fun v_37 H locs hq37_ hw => ?_)
                obtain ⟨y80_37, y83_37, y84_37, y86_37, y300_37, ev37_, hh37_⟩ := hq37_
                rw [ev37_] at hw; clear ev37_
                have hw : WK D cy T (upV (upV (upV (upV (upV v_0 80 y80_37) 83 y83_37) 84 y84_37) 86 y86_37) 300 y300_37) A0 s.heap H locs := cw_eq hw (by first | rfl | (funext j_; simp only [upV, reduceIte]; (repeat' split) <;> first | rfl | omega | (subst_vars; rfl)))
                have hh37_ : (0 ≤ (y86_37 o) ∧ (y86_37 o) ≤ 400) ∧ Ro_ (y300_c69) (y300_37) (T 85 o) ∧ Ck_ S3_ (5 : Int) TX_ K_ V_ ((y83_36 o)) ((y80_c9 o)) ((y83_37 o)) ((y84_37 o)) ((y80_37 o)) := hh37_
                have u_ := hh37_
                rw [s_.1] at u_
                refine j_iload E 80 rfl dX3_readConditions_78 (lv_at hl 4 rfl) ?_
                refine j_if_eq E 83 90 rfl r_s0_51 dX3_readConditions_80 (by decide) (fun cc38_ => ?_) (fun cc38_ => ?_)
                · have L104_39 : ∀ (s0_104 : Int) (H : Heap) (locs : List Loc) (ls : Array Slot), inR s0_104 → (((l2_9 ≠ 0 ∨ s0_51 = 0) ∧ s0_104 = 1) ∨ (l2_9 = 0 ∧ s0_51 ≠ 0 ∧ s0_104 = 0)) → WK D cy T (upV (upV (upV (upV (upV v_0 80 y80_37) 83 y83_37) 84 y84_37) 86 y86_37) 300 y300_37) A0 s.heap H locs → lv_has ls 5 [(0, .ref o), (1, .int (J 5)), (2, .int (J l2_9)), (3, .int (J l3_9)), (4, .int (J s0_51))] → W p l e (rmd 12 0 0) s m ar below meth c H locs 0 0 QW (F0 m 104 ls [.int (J s0_104)]) := by
                    intro s0_104 H locs ls r_s0_104 iv104 hw hl
                    refine j_istore_n E 105 rfl [(2, .int (J s0_104)), (0, .ref o), (1, .int (J 5)), (3, .int (J l3_9)), (4, .int (J s0_51))] dX3_readConditions_104 rfl hl (by decide) rfl (fun ls hl => ?_)
                    refine j_iinc E 108 rfl [(3, .int (J (l3_9 + 1))), (2, .int (J s0_104)), (0, .ref o), (1, .int (J 5)), (4, .int (J s0_51))] dX3_readConditions_105 hl (kk := 3) rfl (by decide) rfl (fun ls hl => ?_)
                    refine j_goto E 9 dX3_readConditions_108 (by decide) ?_
                    exact ih9 s0_104 (l3_9 + 1) y80_37 y83_37 y84_37 y86_37 y300_37 H locs ls r_s0_104 (rr (by omega)) (by first | exact ⟨by omega, Ro_tr iv69.2 (Ro_tr u_.2.1 ro9_), by omega, by rw [show s0_104 = l2_9 by omega]; exact Co_and iv9.2.2.2 (by omega) u_.2.2⟩ | exact ⟨by omega, Ro_tr iv69.2 u_.2.1, by omega, by rw [show s0_104 = 1 by omega]; exact Co_or iv9.2.2.2 (by omega) u_.2.2⟩ | (exfalso; omega)) (by omega) hw (lv_sub hl [2, 3, 1, 0] rfl)
                  refine j_iload_n E 91 rfl dX3_readConditions_90 rfl (lv_at hl 2 rfl) ?_
                  refine j_if_ne E 94 99 rfl r_l2_9 dX3_readConditions_91 (by decide) (fun cc41_ => ?_) (fun cc41_ => ?_)
                  · refine j_iconst E 100 rfl dX3_readConditions_99 ?_
                    refine j_goto E 104 dX3_readConditions_100 (by decide) ?_
                    exact L104_39 1  H locs ls (rr (by decide)) (by omega) hw (lv_sub hl [0, 1, 2, 3, 4] rfl)
                  · refine j_iload E 96 rfl dX3_readConditions_94 (lv_at hl 4 rfl) ?_
                    refine j_if_ne E 99 103 rfl r_s0_51 dX3_readConditions_96 (by decide) (fun cc42_ => ?_) (fun cc42_ => ?_)
                    · exfalso; omega
                    refine j_iconst E 100 rfl dX3_readConditions_99 ?_
                    refine j_goto E 104 dX3_readConditions_100 (by decide) ?_
                    exact L104_39 1  H locs ls (rr (by decide)) (by omega) hw (lv_sub hl [0, 1, 2, 3, 4] rfl)
                · refine j_aload_n E 84 rfl dX3_readConditions_83 rfl (lv_at hl 0 rfl) ?_
                  refine j_sipush E 87 rfl dX3_readConditions_84 (by decide) ?_
                  refine kV_v E (c_X3_emit l D cy T (upV (upV (upV (upV (upV v_0 80 y80_37) 83 y83_37) 84 y84_37) 86 y86_37) 300 y300_37) o ((-305))  t_o (rr (by decide)) (show 0 ≤ (y86_37 o) ∧ (y86_37 o) ≤ 400 from by omega)) mt_X3_emit ml_X3_60 hK hw (cw_rc4 hK hw.1 t_o) hA ⟨Nat.le_of_ble_eq_true rfl, Nat.le_of_ble_eq_true rfl⟩ ⟨Nat.le_of_ble_eq_true rfl, Nat.le_of_ble_eq_true rfl⟩ (As := [.int (J ((-305)))]) (rest := []) rfl rfl hl.1 (Nat.le_of_ble_eq_true rfl) 90 rfl dX3_readConditions_87 (fun v_43 H locs hq43_ hw => ?_)
                  obtain ⟨y86_43, y300_43, ev43_, hh43_⟩ := hq43_
                  rw [ev43_] at hw; clear ev43_
                  have hw : WK D cy T (upV (upV (upV (upV (upV v_0 80 y80_37) 83 y83_37) 84 y84_37) 86 y86_43) 300 y300_43) A0 s.heap H locs := cw_eq hw (by first | rfl | (funext j_; simp only [upV, reduceIte]; (repeat' split) <;> first | rfl | omega | (subst_vars; rfl)))
                  have hh43_ : (0 ≤ (y86_43 o) ∧ (y86_43 o) ≤ 400) ∧ Ro_ (y300_37) (y300_43) (T 85 o) := hh43_
                  have ro9_ := hh43_.2
                  have L104_44 : ∀ (s0_104 : Int) (H : Heap) (locs : List Loc) (ls : Array Slot), inR s0_104 → (((l2_9 ≠ 0 ∨ s0_51 = 0) ∧ s0_104 = 1) ∨ (l2_9 = 0 ∧ s0_51 ≠ 0 ∧ s0_104 = 0)) → WK D cy T (upV (upV (upV (upV (upV v_0 80 y80_37) 83 y83_37) 84 y84_37) 86 y86_43) 300 y300_43) A0 s.heap H locs → lv_has ls 5 [(0, .ref o), (1, .int (J 5)), (2, .int (J l2_9)), (3, .int (J l3_9)), (4, .int (J s0_51))] → W p l e (rmd 12 0 0) s m ar below meth c H locs 0 0 QW (F0 m 104 ls [.int (J s0_104)]) := by
                    intro s0_104 H locs ls r_s0_104 iv104 hw hl
                    refine j_istore_n E 105 rfl [(2, .int (J s0_104)), (0, .ref o), (1, .int (J 5)), (3, .int (J l3_9)), (4, .int (J s0_51))] dX3_readConditions_104 rfl hl (by decide) rfl (fun ls hl => ?_)
                    refine j_iinc E 108 rfl [(3, .int (J (l3_9 + 1))), (2, .int (J s0_104)), (0, .ref o), (1, .int (J 5)), (4, .int (J s0_51))] dX3_readConditions_105 hl (kk := 3) rfl (by decide) rfl (fun ls hl => ?_)
                    refine j_goto E 9 dX3_readConditions_108 (by decide) ?_
                    exact ih9 s0_104 (l3_9 + 1) y80_37 y83_37 y84_37 y86_43 y300_43 H locs ls r_s0_104 (rr (by omega)) (by first | exact ⟨by omega, Ro_tr iv69.2 (Ro_tr u_.2.1 ro9_), by omega, by rw [show s0_104 = l2_9 by omega]; exact Co_and iv9.2.2.2 (by omega) u_.2.2⟩ | exact ⟨by omega, Ro_tr iv69.2 u_.2.1, by omega, by rw [show s0_104 = 1 by omega]; exact Co_or iv9.2.2.2 (by omega) u_.2.2⟩ | (exfalso; omega)) (by omega) hw (lv_sub hl [2, 3, 1, 0] rfl)
                  refine j_iload_n E 91 rfl dX3_readConditions_90 rfl (lv_at hl 2 rfl) ?_
                  refine j_if_ne E 94 99 rfl r_l2_9 dX3_readConditions_91 (by decide) (fun cc46_ => ?_) (fun cc46_ => ?_)
                  · refine j_iconst E 100 rfl dX3_readConditions_99 ?_
                    refine j_goto E 104 dX3_readConditions_100 (by decide) ?_
                    exact L104_44 1  H locs ls (rr (by decide)) (by omega) hw (lv_sub hl [0, 1, 2, 3, 4] rfl)
                  · refine j_iload E 96 rfl dX3_readConditions_94 (lv_at hl 4 rfl) ?_
                    refine j_if_ne E 99 103 rfl r_s0_51 dX3_readConditions_96 (by decide) (fun cc47_ => ?_) (fun cc47_ => ?_)
                    rotate_left; · exfalso; omega
                    refine j_iconst E 104 rfl dX3_readConditions_103 ?_
                    exact L104_44 0  H locs ls (rr (by decide)) (by omega) hw (lv_sub hl [0, 1, 2, 3, 4] rfl)
              refine j_iload E 55 rfl dX3_readConditions_53 (lv_at hl 0 rfl) ?_
              refine j_if_ne E 58 69 rfl r_s0_51 dX3_readConditions_55 (by decide) (fun cc48_ => ?_) (fun cc48_ => ?_)
              · exact L69_34  y86_c9 y300_c9 H locs ls  (by first | exact ⟨by omega, iv9.2.1⟩ | exact ⟨by omega, Ro_tr iv9.2.1 ro7_⟩) hw (lv_sub hl [1, 2, 3, 4, 0] rfl)
              · refine j_iload_n E 59 rfl dX3_readConditions_58 rfl (lv_at hl 3 rfl) ?_
                refine j_if_eq E 62 69 rfl r_l2_9 dX3_readConditions_59 (by decide) (fun cc49_ => ?_) (fun cc49_ => ?_)
                · exact L69_34  y86_c9 y300_c9 H locs ls  (by first | exact ⟨by omega, iv9.2.1⟩ | exact ⟨by omega, Ro_tr iv9.2.1 ro7_⟩) hw (lv_sub hl [1, 2, 3, 4, 0] rfl)
                · refine j_aload_n E 63 rfl dX3_readConditions_62 rfl (lv_at hl 1 rfl) ?_
                  refine j_sipush E 66 rfl dX3_readConditions_63 (by decide) ?_
                  refine kV_v E (c_X3_emit l D cy T (upV (upV (upV (upV (upV v_0 80 y80_c9) 83 y83_c9) 84 y84_c9) 86 y86_c9) 300 y300_c9) o ((-304))  t_o (rr (by decide)) (show 0 ≤ (y86_c9 o) ∧ (y86_c9 o) ≤ 400 from by omega)) mt_X3_emit ml_X3_60 hK hw (cw_rc4 hK hw.1 t_o) hA ⟨Nat.le_of_ble_eq_true rfl, Nat.le_of_ble_eq_true rfl⟩ ⟨Nat.le_of_ble_eq_true rfl, Nat.le_of_ble_eq_true rfl⟩ (As := [.int (J ((-304)))]) (rest := []) rfl rfl hl.1 (Nat.le_of_ble_eq_true rfl) 69 rfl dX3_readConditions_66 (fun v_50 H locs hq50_ hw => ?_)
                  obtain ⟨y86_50, y300_50, ev50_, hh50_⟩ := hq50_
                  rw [ev50_] at hw; clear ev50_
                  have hw : WK D cy T (upV (upV (upV (upV (upV v_0 80 y80_c9) 83 y83_c9) 84 y84_c9) 86 y86_50) 300 y300_50) A0 s.heap H locs := cw_eq hw (by first | rfl | (funext j_; simp only [upV, reduceIte]; (repeat' split) <;> first | rfl | omega | (subst_vars; rfl)))
                  have hh50_ : (0 ≤ (y86_50 o) ∧ (y86_50 o) ≤ 400) ∧ Ro_ (y300_c9) (y300_50) (T 85 o) := hh50_
                  have ro7_ := hh50_.2
                  exact L69_34  y86_50 y300_50 H locs ls  (by first | exact ⟨by omega, iv9.2.1⟩ | exact ⟨by omega, Ro_tr iv9.2.1 ro7_⟩) hw (lv_sub hl [1, 2, 3, 4, 0] rfl)
            refine j_aload_n E 37 rfl dX3_readConditions_36 rfl (lv_at hl 0 rfl) ?_
            refine g_84 E hK hw fl_X3_30 t_o (y84_c9 o) rfl 40 rfl dX3_readConditions_37 (fun _ => ?_)
            refine j_sipush E 43 rfl dX3_readConditions_40 (by decide) ?_
            refine j_icmp_ne E 46 50 rfl rr9_ (rr (by decide)) dX3_readConditions_43 (by decide) (fun cc51_ => ?_) (fun cc51_ => ?_)
            rotate_left; · exfalso; omega
            refine j_iconst E 51 rfl dX3_readConditions_50 ?_
            exact L51_32 0  H locs ls (rr (by decide)) (by omega) hw (lv_sub hl [0, 1, 2, 3] rfl)
  exact L9_2 _ 0 0 y80_1 y83_1 y84_1 y86_1 y300_1 H locs ls (rr (by decide)) (rr (by decide)) (⟨by omega, u0_.2.1, by omega, Co_0 hp2.1.1 u0_.2.2⟩) (Nat.lt_succ_self _) hw (lv_sub hl [2, 3, 1, 0] rfl)
set_option maxHeartbeats 4000000 in
set_option maxRecDepth 100000 in
theorem c_X3_readCondition_n4 (l : Launch) (D : va_G) (cy : Nat → ClassId) (T : Nat → Nat → Nat) (v_0 : Nat → Nat → Int) (κ : Nat → Nat → Nat) (o : Nat) (K_ : Int → Int) (V_ : Int → Int) (hO : ∀ x, ow T x → κ 2 2 ≤ x) (t_o : T 0 o = 4) (hp0 : 0 ≤ (v_0 86 o) ∧ (v_0 86 o) ≤ 400) (hp1 : RK_ (v_0 300) (T 120 (T 82 o)) (T 121 (T 82 o)) ((v_0 123 (T 82 o))) K_ V_) (hp2 : Cs_ K_ ((v_0 83 o)) ((v_0 84 o)) ((v_0 80 o))) : KZ l D cy κ T yX3_readCondition cX3_readCondition 4 none 13 [.ref o, .int (J 4)] v_0 (KV (fun (v_2 : Nat → Nat → Int) => ∃ (y80_2 : Nat → Int) (y83_2 : Nat → Int) (y84_2 : Nat → Int) (y86_2 : Nat → Int) (y300_2 : Nat → Int) , v_2 = upV (upV (upV (upV (upV v_0 80 y80_2) 83 y83_2) 84 y84_2) 86 y86_2) 300 y300_2 ∧ ((0 ≤ (y86_2 o) ∧ (y86_2 o) ≤ 400) ∧ Ro_ (v_0 300) (y300_2) (T 85 o) ∧ Ck_ S3_ (4 : Int) TX_ K_ V_ ((v_0 83 o)) ((v_0 80 o)) ((y83_2 o)) ((y84_2 o)) ((y80_2 o))))) := by
  refine KZ.ofv (by decide) (Nat.le_of_ble_eq_true rfl) hO ?_
  intro p e s m below meth c ls ar QW A0 H locs E hK hZ hA hAc hw hl hret
  have hl : lv_has ls 4 [(0, .ref o), (1, .int (J 4))] := hl
  have hT : WT T := hw.1.2.1
  have cs_ := hp2
  unfold Cs_ at cs_
  have nk_ : T 120 (T 82 o) ≠ T 85 o := ro_ne (wo_120 hT (wt_82 hT t_o)) (wo_85 hT t_o) (by decide) (by decide) (by omega)
  have nv_ : T 121 (T 82 o) ≠ T 85 o := ro_ne (wo_121 hT (wt_82 hT t_o)) (wo_85 hT t_o) (by decide) (by decide) (by omega)
  refine j_aload_n E 1 rfl dX3_readCondition_0 rfl (lv_at hl 0 rfl) ?_
  refine g_84 E hK hw fl_X3_30 t_o (v_0 84 o) rfl 4 rfl dX3_readCondition_1 (fun rr1_ => ?_)
  refine j_bipush E 6 rfl dX3_readCondition_4 (by decide) ?_
  refine j_icmp_eq E 9 19 rfl rr1_ (rr (by decide)) dX3_readCondition_6 (by decide) (fun cc2_ => ?_) (fun cc2_ => ?_)
  · refine j_iconst E 20 rfl dX3_readCondition_19 ?_
    refine j_goto E 24 dX3_readCondition_20 (by decide) ?_
    refine j_istore_n E 25 rfl [(2, .int (J 1)), (0, .ref o), (1, .int (J 4))] dX3_readCondition_24 rfl hl (by decide) rfl (fun ls hl => ?_)
    refine j_iload_n E 26 rfl dX3_readCondition_25 rfl (lv_at hl 0 rfl) ?_
    refine j_if_eq E 29 43 rfl (rr (by decide)) dX3_readCondition_26 (by decide) (fun cc3_ => absurd cc3_ (by decide)) (fun _ => ?_)
    refine j_iload_n E 30 rfl dX3_readCondition_29 rfl (lv_at hl 2 rfl) ?_
    refine j_bipush E 32 rfl dX3_readCondition_30 (by decide) ?_
    refine j_icmp_lt E 35 43 rfl (rr (by decide)) (rr (by decide)) dX3_readCondition_32 (by decide) (fun _ => ?_) (fun cc4_ => absurd cc4_ (by decide))
    refine j_aload_n E 44 rfl dX3_readCondition_43 rfl (lv_at hl 1 rfl) ?_
    refine g_84 E hK hw fl_X3_30 t_o (v_0 84 o) rfl 47 rfl dX3_readCondition_44 (fun _ => ?_)
    refine j_bipush E 49 rfl dX3_readCondition_47 (by decide) ?_
    refine j_icmp_ne E 52 72 rfl rr1_ (rr (by decide)) dX3_readCondition_49 (by decide) (fun cc5_ => ?_) (fun cc5_ => ?_)
    · exfalso; omega
    refine j_aload_n E 53 rfl dX3_readCondition_52 rfl (lv_at hl 1 rfl) ?_
    refine zV_v E (c_X3_step l D cy T (v_0) κ o K_ V_ hO t_o  (show RK_ (v_0 300) (T 120 (T 82 o)) (T 121 (T 82 o)) (((v_0 123) (T 82 o))) K_ V_ from hp1) (show 0 ≤ ((v_0 83) o) ∧ ((v_0 83) o) < 400 from by have q_ := RK_lt hp1 (j := (v_0 83 o)) (by omega); omega)) mt_X3_step ml_X3_54 hK hZ hAc hw (cw_rc4 hK hw.1 t_o) hA ⟨Nat.le_of_ble_eq_true rfl, Nat.le_of_ble_eq_true rfl⟩ ⟨Nat.le_of_ble_eq_true rfl, Nat.le_of_ble_eq_true rfl⟩ (As := []) (rest := []) rfl rfl hl.1 (Nat.le_of_ble_eq_true rfl) 56 rfl dX3_readCondition_53 (fun v_6 H locs hq6_ hw => ?_)
    obtain ⟨y83_6, y84_6, ev6_, hh6_⟩ := hq6_
    rw [ev6_] at hw; clear ev6_
    have hw : WK D cy T (upV (upV v_0 83 y83_6) 84 y84_6) A0 s.heap H locs := cw_eq hw (by first | rfl | (funext j_; simp only [upV, reduceIte]; (repeat' split) <;> first | rfl | omega | (subst_vars; rfl)))
    have hh6_ : (y83_6 o) = ((v_0 83) o) + 1 ∧ (y84_6 o) = K_ (((v_0 83) o) + 1) := hh6_
    have s1_ := hh6_
    refine j_aload_n E 57 rfl dX3_readCondition_56 rfl (lv_at hl 1 rfl) ?_
    refine j_iload_n E 58 rfl dX3_readCondition_57 rfl (lv_at hl 2 rfl) ?_
    refine j_iconst E 59 rfl dX3_readCondition_58 ?_
    refine j_iadd E 60 rfl dX3_readCondition_59 ?_
    refine j_lit (z := 5) (by decide) ?_
    refine zV_v E (c_X3_readConditions_n5 l D cy T (upV (upV v_0 83 y83_6) 84 y84_6) κ o K_ V_ hO t_o  (show 0 ≤ ((v_0 86) o) ∧ ((v_0 86) o) ≤ 400 from by omega) (show RK_ (v_0 300) (T 120 (T 82 o)) (T 121 (T 82 o)) (((v_0 123) (T 82 o))) K_ V_ from hp1) (show Cs_ K_ ((y83_6 o)) ((y84_6 o)) (((v_0 80) o)) from Cs_st hp2 (by omega) s1_.1 s1_.2 (by omega))) mt_X3_readConditions ml_X3_57 hK hZ hAc hw (cw_rc4 hK hw.1 t_o) hA ⟨Nat.le_of_ble_eq_true rfl, Nat.le_of_ble_eq_true rfl⟩ ⟨Nat.le_of_ble_eq_true rfl, Nat.le_of_ble_eq_true rfl⟩ (As := [.int (J 5)]) (rest := []) rfl rfl hl.1 (Nat.le_of_ble_eq_true rfl) 63 rfl dX3_readCondition_60 (fun v_7 H locs hq7_ hw => ?_)
    obtain ⟨y80_7, y83_7, y84_7, y86_7, y300_7, ev7_, hh7_⟩ := hq7_
    rw [ev7_] at hw; clear ev7_
    have hw : WK D cy T (upV (upV (upV (upV (upV v_0 80 y80_7) 83 y83_7) 84 y84_7) 86 y86_7) 300 y300_7) A0 s.heap H locs := cw_eq hw (by first | rfl | (funext j_; simp only [upV, reduceIte]; (repeat' split) <;> first | rfl | omega | (subst_vars; rfl)))
    have hh7_ : (0 ≤ (y86_7 o) ∧ (y86_7 o) ≤ 400) ∧ Ro_ (v_0 300) (y300_7) (T 85 o) ∧ Ck_ S4_ (5 : Int) (NA_ K_) K_ V_ ((y83_6 o)) (((v_0 80) o)) ((y83_7 o)) ((y84_7 o)) ((y80_7 o)) := hh7_
    have b_ := hh7_
    rw [s1_.1] at b_
    refine j_aload_n E 64 rfl dX3_readCondition_63 rfl (lv_at hl 1 rfl) ?_
    refine j_bipush E 66 rfl dX3_readCondition_64 (by decide) ?_
    refine zV_v E (c_X3_take l D cy T (upV (upV (upV (upV (upV v_0 80 y80_7) 83 y83_7) 84 y84_7) 86 y86_7) 300 y300_7) κ o 41 K_ V_ hO t_o (rr (by decide)) (show RK_ (y300_7) (T 120 (T 82 o)) (T 121 (T 82 o)) (((v_0 123) (T 82 o))) K_ V_ from RK_ro hp1 b_.2.1 nk_ nv_) (show Cs_ K_ ((y83_7 o)) ((y84_7 o)) ((y80_7 o)) from Ck_cs (Cs_st (a1 := v_0 83 o + 1) (k1 := K_ (v_0 83 o + 1)) hp2 (by omega) rfl rfl (by omega)) b_.2.2) (show 3 < (41 : Int) from by omega)) mt_X3_take ml_X3_47 hK hZ hAc hw (cw_rc4 hK hw.1 t_o) hA ⟨Nat.le_of_ble_eq_true rfl, Nat.le_of_ble_eq_true rfl⟩ ⟨Nat.le_of_ble_eq_true rfl, Nat.le_of_ble_eq_true rfl⟩ (As := [.int (J 41)]) (rest := []) rfl rfl hl.1 (Nat.le_of_ble_eq_true rfl) 69 rfl dX3_readCondition_66 (fun v_8 H locs hq8_ hw => ?_)
    obtain ⟨y80_8, y83_8, y84_8, ev8_, hh8_⟩ := hq8_
    rw [ev8_] at hw; clear ev8_
    have hw : WK D cy T (upV (upV (upV (upV (upV v_0 80 y80_8) 83 y83_8) 84 y84_8) 86 y86_7) 300 y300_7) A0 s.heap H locs := cw_eq hw (by first | rfl | (funext j_; simp only [upV, reduceIte]; (repeat' split) <;> first | rfl | omega | (subst_vars; rfl)))
    have hh8_ : (((y84_7 o) = (41 : Int)) ∧ (y83_8 o) = (y83_7 o) + 1 ∧ (y84_8 o) = K_ ((y83_7 o) + 1) ∧ (y80_8 o) = (y80_7 o)) ∨ (¬ ((y84_7 o) = (41 : Int)) ∧ (y83_8 o) = (y83_7 o) ∧ (y84_8 o) = 2 ∧ (((y80_7 o) = 0 ∧ (y80_8 o) = 1) ∨ (¬ (y80_7 o) = 0 ∧ (y80_8 o) = (y80_7 o)))) := hh8_
    have t_ := hh8_
    refine j_goto E 126 dX3_readCondition_69 (by decide) ?_
    exact hret 126 (upV (upV (upV (upV (upV v_0 80 y80_8) 83 y83_8) 84 y84_8) 86 y86_7) 300 y300_7) _ _ ls hw ⟨y80_8, y83_8, y84_8, y86_7, y300_7, rfl, by first | exact ⟨by omega, Ro_rf, ck_deep rfl hp2 (by omega) rfl r_.1 r_.2⟩ | exact ⟨by omega, b_.2.1, ck_bra (by omega) hp2 (by omega) b_.2.2 t_ (fun q_ => (RK_lt hp1 (ck_k b_.2.2 q_)).2)⟩ | exact ⟨by omega, Ro_tr n_.2.1 ro_, ck_not (by omega) hp2 (by omega) n_.2.2⟩ | exact ⟨by omega, Ro_tr e1_.2.1 (Ro_tr e2_.2.1 ro_), ck_cmp hp2 (by omega) (by omega) e1_.2.2 t_ e2_.2.2⟩⟩ dX3_readCondition_126
  · refine j_aload_n E 10 rfl dX3_readCondition_9 rfl (lv_at hl 0 rfl) ?_
    refine g_84 E hK hw fl_X3_30 t_o (v_0 84 o) rfl 13 rfl dX3_readCondition_10 (fun _ => ?_)
    refine j_sipush E 16 rfl dX3_readCondition_13 (by decide) ?_
    refine j_icmp_ne E 19 23 rfl rr1_ (rr (by decide)) dX3_readCondition_16 (by decide) (fun cc9_ => ?_) (fun cc9_ => ?_)
    · refine j_iconst E 24 rfl dX3_readCondition_23 ?_
      refine j_istore_n E 25 rfl [(2, .int (J 0)), (0, .ref o), (1, .int (J 4))] dX3_readCondition_24 rfl hl (by decide) rfl (fun ls hl => ?_)
      refine j_iload_n E 26 rfl dX3_readCondition_25 rfl (lv_at hl 0 rfl) ?_
      refine j_if_eq E 29 43 rfl (rr (by decide)) dX3_readCondition_26 (by decide) (fun _ => ?_) (fun cc10_ => absurd cc10_ (by decide))
      refine j_aload_n E 44 rfl dX3_readCondition_43 rfl (lv_at hl 1 rfl) ?_
      refine g_84 E hK hw fl_X3_30 t_o (v_0 84 o) rfl 47 rfl dX3_readCondition_44 (fun _ => ?_)
      refine j_bipush E 49 rfl dX3_readCondition_47 (by decide) ?_
      refine j_icmp_ne E 52 72 rfl rr1_ (rr (by decide)) dX3_readCondition_49 (by decide) (fun cc11_ => ?_) (fun cc11_ => ?_)
      rotate_left; · exfalso; omega
      refine j_aload_n E 73 rfl dX3_readCondition_72 rfl (lv_at hl 1 rfl) ?_
      refine g_84 E hK hw fl_X3_30 t_o (v_0 84 o) rfl 76 rfl dX3_readCondition_73 (fun _ => ?_)
      refine j_sipush E 79 rfl dX3_readCondition_76 (by decide) ?_
      refine j_icmp_ne E 82 103 rfl rr1_ (rr (by decide)) dX3_readCondition_79 (by decide) (fun cc12_ => ?_) (fun cc12_ => ?_)
      rotate_left; · exfalso; omega
      refine j_aload_n E 104 rfl dX3_readCondition_103 rfl (lv_at hl 1 rfl) ?_
      refine zV_v E (c_X3_readSum l D cy T (v_0) κ o K_ V_ hO t_o  (show 0 ≤ ((v_0 86) o) ∧ ((v_0 86) o) ≤ 400 from by omega) (show RK_ (v_0 300) (T 120 (T 82 o)) (T 121 (T 82 o)) (((v_0 123) (T 82 o))) K_ V_ from hp1) (show Cs_ K_ (((v_0 83) o)) (((v_0 84) o)) (((v_0 80) o)) from hp2)) mt_X3_readSum ml_X3_51 hK hZ hAc hw (cw_rc4 hK hw.1 t_o) hA ⟨Nat.le_of_ble_eq_true rfl, Nat.le_of_ble_eq_true rfl⟩ ⟨Nat.le_of_ble_eq_true rfl, Nat.le_of_ble_eq_true rfl⟩ (As := []) (rest := []) rfl rfl hl.1 (Nat.le_of_ble_eq_true rfl) 107 rfl dX3_readCondition_104 (fun v_13 H locs hq13_ hw => ?_)
      obtain ⟨y80_13, y83_13, y84_13, y86_13, y300_13, ev13_, hh13_⟩ := hq13_
      rw [ev13_] at hw; clear ev13_
      have hw : WK D cy T (upV (upV (upV (upV (upV v_0 80 y80_13) 83 y83_13) 84 y84_13) 86 y86_13) 300 y300_13) A0 s.heap H locs := cw_eq hw (by first | rfl | (funext j_; simp only [upV, reduceIte]; (repeat' split) <;> first | rfl | omega | (subst_vars; rfl)))
      have hh13_ : (0 ≤ (y86_13 o) ∧ (y86_13 o) ≤ 400) ∧ Ro_ (v_0 300) (y300_13) (T 85 o) ∧ Cp_ S3_ (N4_ K_) K_ V_ (((v_0 83) o)) (((v_0 80) o)) ((y83_13 o)) ((y84_13 o)) ((y80_13 o)) := hh13_
      have e1_ := hh13_
      refine j_aload_n E 108 rfl dX3_readCondition_107 rfl (lv_at hl 1 rfl) ?_
      refine g_84 E hK hw fl_X3_30 t_o (y84_13 o) rfl 111 rfl dX3_readCondition_108 (fun rr14_ => ?_)
      refine j_istore_n E 112 rfl [(3, .int (J (y84_13 o))), (2, .int (J 0)), (0, .ref o), (1, .int (J 4))] dX3_readCondition_111 rfl hl (by decide) rfl (fun ls hl => ?_)
      refine j_aload_n E 113 rfl dX3_readCondition_112 rfl (lv_at hl 2 rfl) ?_
      refine zV_v E (c_X3_takeComparison l D cy T (upV (upV (upV (upV (upV v_0 80 y80_13) 83 y83_13) 84 y84_13) 86 y86_13) 300 y300_13) κ o K_ V_ hO t_o  (show RK_ (y300_13) (T 120 (T 82 o)) (T 121 (T 82 o)) (((v_0 123) (T 82 o))) K_ V_ from RK_ro hp1 e1_.2.1 nk_ nv_) (show Cs_ K_ ((y83_13 o)) ((y84_13 o)) ((y80_13 o)) from Cp_cs hp2 e1_.2.2)) mt_X3_takeComparison ml_X3_88 hK hZ hAc hw (cw_rc4 hK hw.1 t_o) hA ⟨Nat.le_of_ble_eq_true rfl, Nat.le_of_ble_eq_true rfl⟩ ⟨Nat.le_of_ble_eq_true rfl, Nat.le_of_ble_eq_true rfl⟩ (As := []) (rest := []) rfl rfl hl.1 (Nat.le_of_ble_eq_true rfl) 116 rfl dX3_readCondition_113 (fun v_15 H locs hq15_ hw => ?_)
      obtain ⟨y80_15, y83_15, y84_15, ev15_, hh15_⟩ := hq15_
      rw [ev15_] at hw; clear ev15_
      have hw : WK D cy T (upV (upV (upV (upV (upV v_0 80 y80_15) 83 y83_15) 84 y84_15) 86 y86_13) 300 y300_13) A0 s.heap H locs := cw_eq hw (by first | rfl | (funext j_; simp only [upV, reduceIte]; (repeat' split) <;> first | rfl | omega | (subst_vars; rfl)))
      have hh15_ : (((y84_13 o) = 60 ∨ (y84_13 o) = 61 ∨ (y84_13 o) = 62) ∧ (y83_15 o) = (y83_13 o) + 1 ∧ (y84_15 o) = K_ ((y83_13 o) + 1) ∧ (y80_15 o) = (y80_13 o)) ∨ (¬ ((y84_13 o) = 60 ∨ (y84_13 o) = 61 ∨ (y84_13 o) = 62) ∧ (y83_15 o) = (y83_13 o) ∧ (y84_15 o) = 2 ∧ (((y80_13 o) = 0 ∧ (y80_15 o) = 1) ∨ (¬ (y80_13 o) = 0 ∧ (y80_15 o) = (y80_13 o)))) := hh15_
      have t_ := hh15_
      refine j_aload_n E 117 rfl dX3_readCondition_116 rfl (lv_at hl 2 rfl) ?_
      refine zV_v E (c_X3_readSum l D cy T (upV (upV (upV (upV (upV v_0 80 y80_15) 83 y83_15) 84 y84_15) 86 y86_13) 300 y300_13) κ o K_ V_ hO t_o  (show 0 ≤ (y86_13 o) ∧ (y86_13 o) ≤ 400 from by omega) (show RK_ (y300_13) (T 120 (T 82 o)) (T 121 (T 82 o)) (((v_0 123) (T 82 o))) K_ V_ from RK_ro hp1 e1_.2.1 nk_ nv_) (show Cs_ K_ ((y83_15 o)) ((y84_15 o)) ((y80_15 o)) from Ct_cs (Cp_cs hp2 e1_.2.2) t_ (fun q_ => (RK_lt hp1 q_).2))) mt_X3_readSum ml_X3_51 hK hZ hAc hw (cw_rc4 hK hw.1 t_o) hA ⟨Nat.le_of_ble_eq_true rfl, Nat.le_of_ble_eq_true rfl⟩ ⟨Nat.le_of_ble_eq_true rfl, Nat.le_of_ble_eq_true rfl⟩ (As := []) (rest := []) rfl rfl hl.1 (Nat.le_of_ble_eq_true rfl) 120 rfl dX3_readCondition_117 (fun v_16 H locs hq16_ hw => ?_)
      obtain ⟨y80_16, y83_16, y84_16, y86_16, y300_16, ev16_, hh16_⟩ := hq16_
      rw [ev16_] at hw; clear ev16_
      have hw : WK D cy T (upV (upV (upV (upV (upV v_0 80 y80_16) 83 y83_16) 84 y84_16) 86 y86_16) 300 y300_16) A0 s.heap H locs := cw_eq hw (by first | rfl | (funext j_; simp only [upV, reduceIte]; (repeat' split) <;> first | rfl | omega | (subst_vars; rfl)))
      have hh16_ : (0 ≤ (y86_16 o) ∧ (y86_16 o) ≤ 400) ∧ Ro_ (y300_13) (y300_16) (T 85 o) ∧ Cp_ S3_ (N4_ K_) K_ V_ ((y83_15 o)) ((y80_15 o)) ((y83_16 o)) ((y84_16 o)) ((y80_16 o)) := hh16_
      have e2_ := hh16_
      refine j_aload_n E 121 rfl dX3_readCondition_120 rfl (lv_at hl 2 rfl) ?_
      refine j_iload_n E 122 rfl dX3_readCondition_121 rfl (lv_at hl 0 rfl) ?_
      refine j_ineg E 123 rfl dX3_readCondition_122 ?_
      refine j_norm (fun zz17_ rr17_ ee17_ => ?_)
      refine kV_v E (c_X3_emit l D cy T (upV (upV (upV (upV (upV v_0 80 y80_16) 83 y83_16) 84 y84_16) 86 y86_16) 300 y300_16) o zz17_  t_o rr17_ (show 0 ≤ (y86_16 o) ∧ (y86_16 o) ≤ 400 from by omega)) mt_X3_emit ml_X3_60 hK hw (cw_rc4 hK hw.1 t_o) hA ⟨Nat.le_of_ble_eq_true rfl, Nat.le_of_ble_eq_true rfl⟩ ⟨Nat.le_of_ble_eq_true rfl, Nat.le_of_ble_eq_true rfl⟩ (As := [.int (J zz17_)]) (rest := []) rfl rfl hl.1 (Nat.le_of_ble_eq_true rfl) 126 rfl dX3_readCondition_123 (fun v_18 H locs hq18_ hw => ?_)
      obtain ⟨y86_18, y300_18, ev18_, hh18_⟩ := hq18_
      rw [ev18_] at hw; clear ev18_
      have hw : WK D cy T (upV (upV (upV (upV (upV v_0 80 y80_16) 83 y83_16) 84 y84_16) 86 y86_18) 300 y300_18) A0 s.heap H locs := cw_eq hw (by first | rfl | (funext j_; simp only [upV, reduceIte]; (repeat' split) <;> first | rfl | omega | (subst_vars; rfl)))
      have hh18_ : (0 ≤ (y86_18 o) ∧ (y86_18 o) ≤ 400) ∧ Ro_ (y300_16) (y300_18) (T 85 o) := hh18_
      have ro_ := hh18_.2
      exact hret 126 (upV (upV (upV (upV (upV v_0 80 y80_16) 83 y83_16) 84 y84_16) 86 y86_18) 300 y300_18) _ _ ls hw ⟨y80_16, y83_16, y84_16, y86_18, y300_18, rfl, by first | exact ⟨by omega, Ro_rf, ck_deep rfl hp2 (by omega) rfl r_.1 r_.2⟩ | exact ⟨by omega, b_.2.1, ck_bra (by omega) hp2 (by omega) b_.2.2 t_ (fun q_ => (RK_lt hp1 (ck_k b_.2.2 q_)).2)⟩ | exact ⟨by omega, Ro_tr n_.2.1 ro_, ck_not (by omega) hp2 (by omega) n_.2.2⟩ | exact ⟨by omega, Ro_tr e1_.2.1 (Ro_tr e2_.2.1 ro_), ck_cmp hp2 (by omega) (by omega) e1_.2.2 t_ e2_.2.2⟩⟩ dX3_readCondition_126
    · refine j_iconst E 20 rfl dX3_readCondition_19 ?_
      refine j_goto E 24 dX3_readCondition_20 (by decide) ?_
      refine j_istore_n E 25 rfl [(2, .int (J 1)), (0, .ref o), (1, .int (J 4))] dX3_readCondition_24 rfl hl (by decide) rfl (fun ls hl => ?_)
      refine j_iload_n E 26 rfl dX3_readCondition_25 rfl (lv_at hl 0 rfl) ?_
      refine j_if_eq E 29 43 rfl (rr (by decide)) dX3_readCondition_26 (by decide) (fun cc19_ => absurd cc19_ (by decide)) (fun _ => ?_)
      refine j_iload_n E 30 rfl dX3_readCondition_29 rfl (lv_at hl 2 rfl) ?_
      refine j_bipush E 32 rfl dX3_readCondition_30 (by decide) ?_
      refine j_icmp_lt E 35 43 rfl (rr (by decide)) (rr (by decide)) dX3_readCondition_32 (by decide) (fun _ => ?_) (fun cc20_ => absurd cc20_ (by decide))
      refine j_aload_n E 44 rfl dX3_readCondition_43 rfl (lv_at hl 1 rfl) ?_
      refine g_84 E hK hw fl_X3_30 t_o (v_0 84 o) rfl 47 rfl dX3_readCondition_44 (fun _ => ?_)
      refine j_bipush E 49 rfl dX3_readCondition_47 (by decide) ?_
      refine j_icmp_ne E 52 72 rfl rr1_ (rr (by decide)) dX3_readCondition_49 (by decide) (fun cc21_ => ?_) (fun cc21_ => ?_)
      rotate_left; · exfalso; omega
      refine j_aload_n E 73 rfl dX3_readCondition_72 rfl (lv_at hl 1 rfl) ?_
      refine g_84 E hK hw fl_X3_30 t_o (v_0 84 o) rfl 76 rfl dX3_readCondition_73 (fun _ => ?_)
      refine j_sipush E 79 rfl dX3_readCondition_76 (by decide) ?_
      refine j_icmp_ne E 82 103 rfl rr1_ (rr (by decide)) dX3_readCondition_79 (by decide) (fun cc22_ => ?_) (fun cc22_ => ?_)
      · exfalso; omega
      refine j_aload_n E 83 rfl dX3_readCondition_82 rfl (lv_at hl 1 rfl) ?_
      refine zV_v E (c_X3_step l D cy T (v_0) κ o K_ V_ hO t_o  (show RK_ (v_0 300) (T 120 (T 82 o)) (T 121 (T 82 o)) (((v_0 123) (T 82 o))) K_ V_ from hp1) (show 0 ≤ ((v_0 83) o) ∧ ((v_0 83) o) < 400 from by have q_ := RK_lt hp1 (j := (v_0 83 o)) (by omega); omega)) mt_X3_step ml_X3_54 hK hZ hAc hw (cw_rc4 hK hw.1 t_o) hA ⟨Nat.le_of_ble_eq_true rfl, Nat.le_of_ble_eq_true rfl⟩ ⟨Nat.le_of_ble_eq_true rfl, Nat.le_of_ble_eq_true rfl⟩ (As := []) (rest := []) rfl rfl hl.1 (Nat.le_of_ble_eq_true rfl) 86 rfl dX3_readCondition_83 (fun v_23 H locs hq23_ hw => ?_)
      obtain ⟨y83_23, y84_23, ev23_, hh23_⟩ := hq23_
      rw [ev23_] at hw; clear ev23_
      have hw : WK D cy T (upV (upV v_0 83 y83_23) 84 y84_23) A0 s.heap H locs := cw_eq hw (by first | rfl | (funext j_; simp only [upV, reduceIte]; (repeat' split) <;> first | rfl | omega | (subst_vars; rfl)))
      have hh23_ : (y83_23 o) = ((v_0 83) o) + 1 ∧ (y84_23 o) = K_ (((v_0 83) o) + 1) := hh23_
      have s2_ := hh23_
      refine j_aload_n E 87 rfl dX3_readCondition_86 rfl (lv_at hl 1 rfl) ?_
      refine j_iload_n E 88 rfl dX3_readCondition_87 rfl (lv_at hl 2 rfl) ?_
      refine j_iconst E 89 rfl dX3_readCondition_88 ?_
      refine j_iadd E 90 rfl dX3_readCondition_89 ?_
      refine j_lit (z := 5) (by decide) ?_
      refine zV_v E (c_X3_readCondition_n5 l D cy T (upV (upV v_0 83 y83_23) 84 y84_23) κ o K_ V_ hO t_o  (show 0 ≤ ((v_0 86) o) ∧ ((v_0 86) o) ≤ 400 from by omega) (show RK_ (v_0 300) (T 120 (T 82 o)) (T 121 (T 82 o)) (((v_0 123) (T 82 o))) K_ V_ from hp1) (show Cs_ K_ ((y83_23 o)) ((y84_23 o)) (((v_0 80) o)) from Cs_st hp2 (by omega) s2_.1 s2_.2 (by omega))) mt_X3_readCondition ml_X3_85 hK hZ hAc hw (cw_rc4 hK hw.1 t_o) hA ⟨Nat.le_of_ble_eq_true rfl, Nat.le_of_ble_eq_true rfl⟩ ⟨Nat.le_of_ble_eq_true rfl, Nat.le_of_ble_eq_true rfl⟩ (As := [.int (J 5)]) (rest := []) rfl rfl hl.1 (Nat.le_of_ble_eq_true rfl) 93 rfl dX3_readCondition_90 (fun v_24 H locs hq24_ hw => ?_)
      obtain ⟨y80_24, y83_24, y84_24, y86_24, y300_24, ev24_, hh24_⟩ := hq24_
      rw [ev24_] at hw; clear ev24_
      have hw : WK D cy T (upV (upV (upV (upV (upV v_0 80 y80_24) 83 y83_24) 84 y84_24) 86 y86_24) 300 y300_24) A0 s.heap H locs := cw_eq hw (by first | rfl | (funext j_; simp only [upV, reduceIte]; (repeat' split) <;> first | rfl | omega | (subst_vars; rfl)))
      have hh24_ : (0 ≤ (y86_24 o) ∧ (y86_24 o) ≤ 400) ∧ Ro_ (v_0 300) (y300_24) (T 85 o) ∧ Ck_ S3_ (5 : Int) TX_ K_ V_ ((y83_23 o)) (((v_0 80) o)) ((y83_24 o)) ((y84_24 o)) ((y80_24 o)) := hh24_
      have n_ := hh24_
      rw [s2_.1] at n_
      refine j_aload_n E 94 rfl dX3_readCondition_93 rfl (lv_at hl 1 rfl) ?_
      refine j_sipush E 97 rfl dX3_readCondition_94 (by decide) ?_
      refine kV_v E (c_X3_emit l D cy T (upV (upV (upV (upV (upV v_0 80 y80_24) 83 y83_24) 84 y84_24) 86 y86_24) 300 y300_24) o ((-306))  t_o (rr (by decide)) (show 0 ≤ (y86_24 o) ∧ (y86_24 o) ≤ 400 from by omega)) mt_X3_emit ml_X3_60 hK hw (cw_rc4 hK hw.1 t_o) hA ⟨Nat.le_of_ble_eq_true rfl, Nat.le_of_ble_eq_true rfl⟩ ⟨Nat.le_of_ble_eq_true rfl, Nat.le_of_ble_eq_true rfl⟩ (As := [.int (J ((-306)))]) (rest := []) rfl rfl hl.1 (Nat.le_of_ble_eq_true rfl) 100 rfl dX3_readCondition_97 (fun v_25 H locs hq25_ hw => ?_)
      obtain ⟨y86_25, y300_25, ev25_, hh25_⟩ := hq25_
      rw [ev25_] at hw; clear ev25_
      have hw : WK D cy T (upV (upV (upV (upV (upV v_0 80 y80_24) 83 y83_24) 84 y84_24) 86 y86_25) 300 y300_25) A0 s.heap H locs := cw_eq hw (by first | rfl | (funext j_; simp only [upV, reduceIte]; (repeat' split) <;> first | rfl | omega | (subst_vars; rfl)))
      have hh25_ : (0 ≤ (y86_25 o) ∧ (y86_25 o) ≤ 400) ∧ Ro_ (y300_24) (y300_25) (T 85 o) := hh25_
      have ro_ := hh25_.2
      refine j_goto E 126 dX3_readCondition_100 (by decide) ?_
      exact hret 126 (upV (upV (upV (upV (upV v_0 80 y80_24) 83 y83_24) 84 y84_24) 86 y86_25) 300 y300_25) _ _ ls hw ⟨y80_24, y83_24, y84_24, y86_25, y300_25, rfl, by first | exact ⟨by omega, Ro_rf, ck_deep rfl hp2 (by omega) rfl r_.1 r_.2⟩ | exact ⟨by omega, b_.2.1, ck_bra (by omega) hp2 (by omega) b_.2.2 t_ (fun q_ => (RK_lt hp1 (ck_k b_.2.2 q_)).2)⟩ | exact ⟨by omega, Ro_tr n_.2.1 ro_, ck_not (by omega) hp2 (by omega) n_.2.2⟩ | exact ⟨by omega, Ro_tr e1_.2.1 (Ro_tr e2_.2.1 ro_), ck_cmp hp2 (by omega) (by omega) e1_.2.2 t_ e2_.2.2⟩⟩ dX3_readCondition_126
set_option maxHeartbeats 4000000 in
set_option maxRecDepth 100000 in
theorem c_X3_readConditions_n4 (l : Launch) (D : va_G) (cy : Nat → ClassId) (T : Nat → Nat → Nat) (v_0 : Nat → Nat → Int) (κ : Nat → Nat → Nat) (o : Nat) (K_ : Int → Int) (V_ : Int → Int) (hO : ∀ x, ow T x → κ 2 2 ≤ x) (t_o : T 0 o = 4) (hp0 : 0 ≤ (v_0 86 o) ∧ (v_0 86 o) ≤ 400) (hp1 : RK_ (v_0 300) (T 120 (T 82 o)) (T 121 (T 82 o)) ((v_0 123 (T 82 o))) K_ V_) (hp2 : Cs_ K_ ((v_0 83 o)) ((v_0 84 o)) ((v_0 80 o))) : KZ l D cy κ T yX3_readConditions cX3_readConditions 5 none 14 [.ref o, .int (J 4)] v_0 (KV (fun (v_2 : Nat → Nat → Int) => ∃ (y80_2 : Nat → Int) (y83_2 : Nat → Int) (y84_2 : Nat → Int) (y86_2 : Nat → Int) (y300_2 : Nat → Int) , v_2 = upV (upV (upV (upV (upV v_0 80 y80_2) 83 y83_2) 84 y84_2) 86 y86_2) 300 y300_2 ∧ ((0 ≤ (y86_2 o) ∧ (y86_2 o) ≤ 400) ∧ Ro_ (v_0 300) (y300_2) (T 85 o) ∧ Ck_ S4_ (4 : Int) (NA_ K_) K_ V_ ((v_0 83 o)) ((v_0 80 o)) ((y83_2 o)) ((y84_2 o)) ((y80_2 o))))) := by
  refine KZ.ofv (by decide) (Nat.le_of_ble_eq_true rfl) hO ?_
  intro p e s m below meth c ls ar QW A0 H locs E hK hZ hA hAc hw hl hret
  have hl : lv_has ls 5 [(0, .ref o), (1, .int (J 4))] := hl
  have hT : WT T := hw.1.2.1
  have nk_ : T 120 (T 82 o) ≠ T 85 o := ro_ne (wo_120 hT (wt_82 hT t_o)) (wo_85 hT t_o) (by decide) (by decide) (by omega)
  have nv_ : T 121 (T 82 o) ≠ T 85 o := ro_ne (wo_121 hT (wt_82 hT t_o)) (wo_85 hT t_o) (by decide) (by decide) (by omega)
  have c0_ := hp2.1
  refine j_aload_n E 1 rfl dX3_readConditions_0 rfl (lv_at hl 0 rfl) ?_
  refine j_iload_n E 2 rfl dX3_readConditions_1 rfl (lv_at hl 1 rfl) ?_
  refine zV_v E (c_X3_readCondition_n4 l D cy T (v_0) κ o K_ V_ hO t_o  (show 0 ≤ ((v_0 86) o) ∧ ((v_0 86) o) ≤ 400 from by omega) (show RK_ (v_0 300) (T 120 (T 82 o)) (T 121 (T 82 o)) (((v_0 123) (T 82 o))) K_ V_ from hp1) (show Cs_ K_ (((v_0 83) o)) (((v_0 84) o)) (((v_0 80) o)) from hp2)) mt_X3_readCondition ml_X3_85 hK hZ hAc hw (cw_rc4 hK hw.1 t_o) hA ⟨Nat.le_of_ble_eq_true rfl, Nat.le_of_ble_eq_true rfl⟩ ⟨Nat.le_of_ble_eq_true rfl, Nat.le_of_ble_eq_true rfl⟩ (As := [.int (J 4)]) (rest := []) rfl rfl hl.1 (Nat.le_of_ble_eq_true rfl) 5 rfl dX3_readConditions_2 (fun v_1 H locs hq1_ hw => ?_)
  obtain ⟨y80_1, y83_1, y84_1, y86_1, y300_1, ev1_, hh1_⟩ := hq1_
  rw [ev1_] at hw; clear ev1_
  have hw : WK D cy T (upV (upV (upV (upV (upV v_0 80 y80_1) 83 y83_1) 84 y84_1) 86 y86_1) 300 y300_1) A0 s.heap H locs := cw_eq hw (by first | rfl | (funext j_; simp only [upV, reduceIte]; (repeat' split) <;> first | rfl | omega | (subst_vars; rfl)))
  have hh1_ : (0 ≤ (y86_1 o) ∧ (y86_1 o) ≤ 400) ∧ Ro_ (v_0 300) (y300_1) (T 85 o) ∧ Ck_ S3_ (4 : Int) TX_ K_ V_ (((v_0 83) o)) (((v_0 80) o)) ((y83_1 o)) ((y84_1 o)) ((y80_1 o)) := hh1_
  have u0_ := hh1_
  refine j_iconst E 6 rfl dX3_readConditions_5 ?_
  refine j_istore_n E 7 rfl [(2, .int (J 0)), (0, .ref o), (1, .int (J 4))] dX3_readConditions_6 rfl hl (by decide) rfl (fun ls hl => ?_)
  refine j_iconst E 8 rfl dX3_readConditions_7 ?_
  refine j_istore_n E 9 rfl [(3, .int (J 0)), (2, .int (J 0)), (0, .ref o), (1, .int (J 4))] dX3_readConditions_8 rfl hl (by decide) rfl (fun ls hl => ?_)
  have L9_2 : ∀ (k9 : Nat) (l2_9 l3_9 : Int) (y80_c9 : Nat → Int) (y83_c9 : Nat → Int) (y84_c9 : Nat → Int) (y86_c9 : Nat → Int) (y300_c9 : Nat → Int) (H : Heap) (locs : List Loc) (ls : Array Slot), inR l2_9 → inR l3_9 → ((0 ≤ (y86_c9 o) ∧ (y86_c9 o) ≤ 400) ∧ (Ro_ (v_0 300) (y300_c9) (T 85 o)) ∧ 0 ≤ l3_9 ∧ Co_ (4 : Int) {K_} {V_} (v_0 83 o) (v_0 80 o) l2_9 l3_9 ((y83_c9 o)) ((y84_c9 o)) ((y80_c9 o))) → (400 - l3_9).toNat < k9 → WK D cy T (upV (upV (upV (upV (upV v_0 80 y80_c9) 83 y83_c9) 84 y84_c9) 86 y86_c9) 300 y300_c9) A0 s.heap H locs → lv_has ls 5 [(0, .ref o), (1, .int (J 4)), (2, .int (J l2_9)), (3, .int (J l3_9))] → W p l e (rmd 14 0 0) s m ar below meth c H locs 0 0 QW (F0 m 9 ls []) := by
    intro k9
    induction k9 with
    | zero =>
      intro l2_9 l3_9 y80_c9 y83_c9 y84_c9 y86_c9 y300_c9 H locs ls r_l2_9 r_l3_9 iv9 ms9 hw hl
      exact absurd ms9 (Nat.not_lt_zero _)
    | succ k9 ih9 =>
      intro l2_9 l3_9 y80_c9 y83_c9 y84_c9 y86_c9 y300_c9 H locs ls r_l2_9 r_l3_9 iv9 ms9 hw hl
      have cs1_ := Co_cs hp2 iv9.2.2.2
      unfold Cs_ at cs1_
      have L111_4 : ∀ (H : Heap) (locs : List Loc) (ls : Array Slot), (¬ ((y84_c9 o) = 305 ∨ (y84_c9 o) = 304)) → WK D cy T (upV (upV (upV (upV (upV v_0 80 y80_c9) 83 y83_c9) 84 y84_c9) 86 y86_c9) 300 y300_c9) A0 s.heap H locs → lv_has ls 5 [(0, .ref o), (1, .int (J 4)), (2, .int (J l2_9)), (3, .int (J l3_9))] → W p l e (rmd 14 0 0) s m ar below meth c H locs 0 0 QW (F0 m 111 ls []) := by
        intro H locs ls iv111 hw hl
        refine j_iload_n E 112 rfl dX3_readConditions_111 rfl (lv_at hl 2 rfl) ?_
        refine j_if_eq E 115 122 rfl r_l2_9 dX3_readConditions_112 (by decide) (fun cc6_ => ?_) (fun cc6_ => ?_)
        · exact hret 122 (upV (upV (upV (upV (upV v_0 80 y80_c9) 83 y83_c9) 84 y84_c9) 86 y86_c9) 300 y300_c9) _ _ ls hw ⟨y80_c9, y83_c9, y84_c9, y86_c9, y300_c9, rfl, by first | exact ⟨by omega, Ro_tr iv9.2.1 roe_, Co_end iv9.2.2.2 iv111 (by omega)⟩ | exact ⟨by omega, iv9.2.1, Co_end iv9.2.2.2 iv111 (by omega)⟩⟩ dX3_readConditions_122
        · refine j_aload_n E 116 rfl dX3_readConditions_115 rfl (lv_at hl 0 rfl) ?_
          refine j_sipush E 119 rfl dX3_readConditions_116 (by decide) ?_
          refine kV_v E (c_X3_emit l D cy T (upV (upV (upV (upV (upV v_0 80 y80_c9) 83 y83_c9) 84 y84_c9) 86 y86_c9) 300 y300_c9) o ((-304))  t_o (rr (by decide)) (show 0 ≤ (y86_c9 o) ∧ (y86_c9 o) ≤ 400 from by omega)) mt_X3_emit ml_X3_60 hK hw (cw_rc4 hK hw.1 t_o) hA ⟨Nat.le_of_ble_eq_true rfl, Nat.le_of_ble_eq_true rfl⟩ ⟨Nat.le_of_ble_eq_true rfl, Nat.le_of_ble_eq_true rfl⟩ (As := [.int (J ((-304)))]) (rest := []) rfl rfl hl.1 (Nat.le_of_ble_eq_true rfl) 122 rfl dX3_readConditions_119 (fun v_7 H locs hq7_ hw => ?_)
          obtain ⟨y86_7, y300_7, ev7_, hh7_⟩ := hq7_
          rw [ev7_] at hw; clear ev7_
          have hw : WK D cy T (upV (upV (upV (upV (upV v_0 80 y80_c9) 83 y83_c9) 84 y84_c9) 86 y86_7) 300 y300_7) A0 s.heap H locs := cw_eq hw (by first | rfl | (funext j_; simp only [upV, reduceIte]; (repeat' split) <;> first | rfl | omega | (subst_vars; rfl)))
          have hh7_ : (0 ≤ (y86_7 o) ∧ (y86_7 o) ≤ 400) ∧ Ro_ (y300_c9) (y300_7) (T 85 o) := hh7_
          have roe_ := hh7_.2
          exact hret 122 (upV (upV (upV (upV (upV v_0 80 y80_c9) 83 y83_c9) 84 y84_c9) 86 y86_7) 300 y300_7) _ _ ls hw ⟨y80_c9, y83_c9, y84_c9, y86_7, y300_7, rfl, by first | exact ⟨by omega, Ro_tr iv9.2.1 roe_, Co_end iv9.2.2.2 iv111 (by omega)⟩ | exact ⟨by omega, iv9.2.1, Co_end iv9.2.2.2 iv111 (by omega)⟩⟩ dX3_readConditions_122
      refine j_iload_n E 10 rfl dX3_readConditions_9 rfl (lv_at hl 3 rfl) ?_
      refine j_sipush E 13 rfl dX3_readConditions_10 (by decide) ?_
      refine j_icmp_ge E 16 111 rfl r_l3_9 (rr (by decide)) dX3_readConditions_13 (by decide) (fun cc8_ => ?_) (fun cc8_ => ?_)
      · exact L111_4   H locs ls  (by first | omega | exact Co_i iv9.2.2.2 (by omega) (by omega)) hw (lv_sub hl [0, 1, 2, 3] rfl)
      · refine j_aload_n E 17 rfl dX3_readConditions_16 rfl (lv_at hl 0 rfl) ?_
        refine g_84 E hK hw fl_X3_30 t_o (y84_c9 o) rfl 20 rfl dX3_readConditions_17 (fun rr9_ => ?_)
        refine j_sipush E 23 rfl dX3_readConditions_20 (by decide) ?_
        refine j_icmp_eq E 26 36 rfl rr9_ (rr (by decide)) dX3_readConditions_23 (by decide) (fun cc10_ => ?_) (fun cc10_ => ?_)
        · have L51_11 : ∀ (s0_51 : Int) (H : Heap) (locs : List Loc) (ls : Array Slot), inR s0_51 → ((s0_51 = 1 ∧ (y84_c9 o) = 305) ∨ (s0_51 = 0 ∧ (y84_c9 o) = 304)) → WK D cy T (upV (upV (upV (upV (upV v_0 80 y80_c9) 83 y83_c9) 84 y84_c9) 86 y86_c9) 300 y300_c9) A0 s.heap H locs → lv_has ls 5 [(0, .ref o), (1, .int (J 4)), (2, .int (J l2_9)), (3, .int (J l3_9))] → W p l e (rmd 14 0 0) s m ar below meth c H locs 0 0 QW (F0 m 51 ls [.int (J s0_51)]) := by
            intro s0_51 H locs ls r_s0_51 iv51 hw hl
            refine j_istore E 53 rfl [(4, .int (J s0_51)), (0, .ref o), (1, .int (J 4)), (2, .int (J l2_9)), (3, .int (J l3_9))] dX3_readConditions_51 hl (by decide) rfl (fun ls hl => ?_)
            have L69_13 : ∀ (y86_c69 : Nat → Int) (y300_c69 : Nat → Int) (H : Heap) (locs : List Loc) (ls : Array Slot), ((0 ≤ (y86_c69 o) ∧ (y86_c69 o) ≤ 400) ∧ Ro_ (v_0 300) (y300_c69) (T 85 o)) → WK D cy T (upV (upV (upV (upV (upV v_0 80 y80_c9) 83 y83_c9) 84 y84_c9) 86 y86_c69) 300 y300_c69) A0 s.heap H locs → lv_has ls 5 [(0, .ref o), (1, .int (J 4)), (2, .int (J l2_9)), (3, .int (J l3_9)), (4, .int (J s0_51))] → W p l e (rmd 14 0 0) s m ar below meth c H locs 0 0 QW (F0 m 69 ls []) := by
              intro y86_c69 y300_c69 H locs ls iv69 hw hl
              refine j_aload_n E 70 rfl dX3_readConditions_69 rfl (lv_at hl 0 rfl) ?_
              refine zV_v E (c_X3_step l D cy T (upV (upV (upV (upV (upV v_0 80 y80_c9) 83 y83_c9) 84 y84_c9) 86 y86_c69) 300 y300_c69) κ o K_ V_ hO t_o  (show RK_ (y300_c69) (T 120 (T 82 o)) (T 121 (T 82 o)) (((v_0 123) (T 82 o))) K_ V_ from RK_ro hp1 iv69.2 nk_ nv_) (show 0 ≤ (y83_c9 o) ∧ (y83_c9 o) < 400 from by have q_ := RK_lt hp1 (j := (y83_c9 o)) (by omega); omega)) mt_X3_step ml_X3_54 hK hZ hAc hw (cw_rc4 hK hw.1 t_o) hA ⟨Nat.le_of_ble_eq_true rfl, Nat.le_of_ble_eq_true rfl⟩ ⟨Nat.le_of_ble_eq_true rfl, Nat.le_of_ble_eq_true rfl⟩ (As := []) (rest := []) rfl rfl hl.1 (Nat.le_of_ble_eq_true rfl) 73 rfl dX3_readConditions_70 (fun v_15 H locs hq15_ hw => ?_)
              obtain ⟨y83_15, y84_15, ev15_, hh15_⟩ := hq15_
              rw [ev15_] at hw; clear ev15_
              have hw : WK D cy T (upV (upV (upV (upV (upV v_0 80 y80_c9) 83 y83_15) 84 y84_15) 86 y86_c69) 300 y300_c69) A0 s.heap H locs := cw_eq hw (by first | rfl | (funext j_; simp only [upV, reduceIte]; (repeat' split) <;> first | rfl | omega | (subst_vars; rfl)))
              have hh15_ : (y83_15 o) = (y83_c9 o) + 1 ∧ (y84_15 o) = K_ ((y83_c9 o) + 1) := hh15_
              have s_ := hh15_
              refine j_aload_n E 74 rfl dX3_readConditions_73 rfl (lv_at hl 0 rfl) ?_
              refine j_iload_n E 75 rfl dX3_readConditions_74 rfl (lv_at hl 1 rfl) ?_
              refine zV_v E (c_X3_readCondition_n4 l D cy T (upV (upV (upV (upV (upV v_0 80 y80_c9) 83 y83_15) 84 y84_15) 86 y86_c69) 300 y300_c69) κ o K_ V_ hO t_o  (show 0 ≤ (y86_c69 o) ∧ (y86_c69 o) ≤ 400 from by omega) (show RK_ (y300_c69) (T 120 (T 82 o)) (T 121 (T 82 o)) (((v_0 123) (T 82 o))) K_ V_ from RK_ro hp1 iv69.2 nk_ nv_) (show Cs_ K_ ((y83_15 o)) ((y84_15 o)) ((y80_c9 o)) from Cs_st (Co_cs hp2 iv9.2.2.2) (by omega) s_.1 s_.2 (by omega))) mt_X3_readCondition ml_X3_85 hK hZ hAc hw (cw_rc4 hK hw.1 t_o) hA ⟨Nat.le_of_ble_eq_true rfl, Nat.le_of_ble_eq_true rfl⟩ ⟨Nat.le_of_ble_eq_true rfl, Nat.le_of_ble_eq_true rfl⟩ (As := [.int (J 4)]) (rest := []) rfl rfl hl.1 (Nat.le_of_ble_eq_true rfl) 78 rfl dX3_readConditions_75 (fun v_16 H locs hq16_ hw => ?_)
              obtain ⟨y80_16, y83_16, y84_16, y86_16, y300_16, ev16_, hh16_⟩ := hq16_
              rw [ev16_] at hw; clear ev16_
              have hw : WK D cy T (upV (upV (upV (upV (upV v_0 80 y80_16) 83 y83_16) 84 y84_16) 86 y86_16) 300 y300_16) A0 s.heap H locs := cw_eq hw (by first | rfl | (funext j_; simp only [upV, reduceIte]; (repeat' split) <;> first | rfl | omega | (subst_vars; rfl)))
              have hh16_ : (0 ≤ (y86_16 o) ∧ (y86_16 o) ≤ 400) ∧ Ro_ (y300_c69) (y300_16) (T 85 o) ∧ Ck_ S3_ (4 : Int) TX_ K_ V_ ((y83_15 o)) ((y80_c9 o)) ((y83_16 o)) ((y84_16 o)) ((y80_16 o)) := hh16_
              have u_ := hh16_
              rw [s_.1] at u_
              refine j_iload E 80 rfl dX3_readConditions_78 (lv_at hl 4 rfl) ?_
              refine j_if_eq E 83 90 rfl r_s0_51 dX3_readConditions_80 (by decide) (fun cc17_ => ?_) (fun cc17_ => ?_)
              · have L104_18 : ∀ (s0_104 : Int) (H : Heap) (locs : List Loc) (ls : Array Slot), inR s0_104 → (((l2_9 ≠ 0 ∨ s0_51 = 0) ∧ s0_104 = 1) ∨ (l2_9 = 0 ∧ s0_51 ≠ 0 ∧ s0_104 = 0)) → WK D cy T (upV (upV (upV (upV (upV v_0 80 y80_16) 83 y83_16) 84 y84_16) 86 y86_16) 300 y300_16) A0 s.heap H locs → lv_has ls 5 [(0, .ref o), (1, .int (J 4)), (2, .int (J l2_9)), (3, .int (J l3_9)), (4, .int (J s0_51))] → W p l e (rmd 14 0 0) s m ar below meth c H locs 0 0 QW (F0 m 104 ls [.int (J s0_104)]) := by
                  intro s0_104 H locs ls r_s0_104 iv104 hw hl
                  refine j_istore_n E 105 rfl [(2, .int (J s0_104)), (0, .ref o), (1, .int (J 4)), (3, .int (J l3_9)), (4, .int (J s0_51))] dX3_readConditions_104 rfl hl (by decide) rfl (fun ls hl => ?_)
                  refine j_iinc E 108 rfl [(3, .int (J (l3_9 + 1))), (2, .int (J s0_104)), (0, .ref o), (1, .int (J 4)), (4, .int (J s0_51))] dX3_readConditions_105 hl (kk := 3) rfl (by decide) rfl (fun ls hl => ?_)
                  refine j_goto E 9 dX3_readConditions_108 (by decide) ?_
                  exact ih9 s0_104 (l3_9 + 1) y80_16 y83_16 y84_16 y86_16 y300_16 H locs ls r_s0_104 (rr (by omega)) (by first | exact ⟨by omega, Ro_tr iv69.2 (Ro_tr u_.2.1 ro9_), by omega, by rw [show s0_104 = l2_9 by omega]; exact Co_and iv9.2.2.2 (by omega) u_.2.2⟩ | exact ⟨by omega, Ro_tr iv69.2 u_.2.1, by omega, by rw [show s0_104 = 1 by omega]; exact Co_or iv9.2.2.2 (by omega) u_.2.2⟩ | (exfalso; omega)) (by omega) hw (lv_sub hl [2, 3, 1, 0] rfl)
                refine j_iload_n E 91 rfl dX3_readConditions_90 rfl (lv_at hl 2 rfl) ?_
                refine j_if_ne E 94 99 rfl r_l2_9 dX3_readConditions_91 (by decide) (fun cc20_ => ?_) (fun cc20_ => ?_)
                · refine j_iconst E 100 rfl dX3_readConditions_99 ?_
                  refine j_goto E 104 dX3_readConditions_100 (by decide) ?_
                  exact L104_18 1  H locs ls (rr (by decide)) (by omega) hw (lv_sub hl [0, 1, 2, 3, 4] rfl)
                · refine j_iload E 96 rfl dX3_readConditions_94 (lv_at hl 4 rfl) ?_
                  refine j_if_ne E 99 103 rfl r_s0_51 dX3_readConditions_96 (by decide) (fun cc21_ => ?_) (fun cc21_ => ?_)
                  · exfalso; omega
                  refine j_iconst E 100 rfl dX3_readConditions_99 ?_
                  refine j_goto E 104 dX3_readConditions_100 (by decide) ?_
                  exact L104_18 1  H locs ls (rr (by decide)) (by omega) hw (lv_sub hl [0, 1, 2, 3, 4] rfl)
              · refine j_aload_n E 84 rfl dX3_readConditions_83 rfl (lv_at hl 0 rfl) ?_
                refine j_sipush E 87 rfl dX3_readConditions_84 (by decide) ?_
                refine kV_v E (c_X3_emit l D cy T (upV (upV (upV (upV (upV v_0 80 y80_16) 83 y83_16) 84 y84_16) 86 y86_16) 300 y300_16) o ((-305))  t_o (rr (by decide)) (show 0 ≤ (y86_16 o) ∧ (y86_16 o) ≤ 400 from by omega)) mt_X3_emit ml_X3_60 hK hw (cw_rc4 hK hw.1 t_o) hA ⟨Nat.le_of_ble_eq_true rfl, Nat.le_of_ble_eq_true rfl⟩ ⟨Nat.le_of_ble_eq_true rfl, Nat.le_of_ble_eq_true rfl⟩ (As := [.int (J ((-305)))]) (rest := []) rfl rfl hl.1 (Nat.le_of_ble_eq_true rfl) 90 rfl dX3_readConditions_87 (fun v_22 H locs hq22_ hw => ?_)
                obtain ⟨y86_22, y300_22, ev22_, hh22_⟩ := hq22_
                rw [ev22_] at hw; clear ev22_
                have hw : WK D cy T (upV (upV (upV (upV (upV v_0 80 y80_16) 83 y83_16) 84 y84_16) 86 y86_22) 300 y300_22) A0 s.heap H locs := cw_eq hw (by first | rfl | (funext j_; simp only [upV, reduceIte]; (repeat' split) <;> first | rfl | omega | (subst_vars; rfl)))
                have hh22_ : (0 ≤ (y86_22 o) ∧ (y86_22 o) ≤ 400) ∧ Ro_ (y300_16) (y300_22) (T 85 o) := hh22_
                have ro9_ := hh22_.2
                have L104_23 : ∀ (s0_104 : Int) (H : Heap) (locs : List Loc) (ls : Array Slot), inR s0_104 → (((l2_9 ≠ 0 ∨ s0_51 = 0) ∧ s0_104 = 1) ∨ (l2_9 = 0 ∧ s0_51 ≠ 0 ∧ s0_104 = 0)) → WK D cy T (upV (upV (upV (upV (upV v_0 80 y80_16) 83 y83_16) 84 y84_16) 86 y86_22) 300 y300_22) A0 s.heap H locs → lv_has ls 5 [(0, .ref o), (1, .int (J 4)), (2, .int (J l2_9)), (3, .int (J l3_9)), (4, .int (J s0_51))] → W p l e (rmd 14 0 0) s m ar below meth c H locs 0 0 QW (F0 m 104 ls [.int (J s0_104)]) := by
                  intro s0_104 H locs ls r_s0_104 iv104 hw hl
                  refine j_istore_n E 105 rfl [(2, .int (J s0_104)), (0, .ref o), (1, .int (J 4)), (3, .int (J l3_9)), (4, .int (J s0_51))] dX3_readConditions_104 rfl hl (by decide) rfl (fun ls hl => ?_)
                  refine j_iinc E 108 rfl [(3, .int (J (l3_9 + 1))), (2, .int (J s0_104)), (0, .ref o), (1, .int (J 4)), (4, .int (J s0_51))] dX3_readConditions_105 hl (kk := 3) rfl (by decide) rfl (fun ls hl => ?_)
                  refine j_goto E 9 dX3_readConditions_108 (by decide) ?_
                  exact ih9 s0_104 (l3_9 + 1) y80_16 y83_16 y84_16 y86_22 y300_22 H locs ls r_s0_104 (rr (by omega)) (by first | exact ⟨by omega, Ro_tr iv69.2 (Ro_tr u_.2.1 ro9_), by omega, by rw [show s0_104 = l2_9 by omega]; exact Co_and iv9.2.2.2 (by omega) u_.2.2⟩ | exact ⟨by omega, Ro_tr iv69.2 u_.2.1, by omega, by rw [show s0_104 = 1 by omega]; exact Co_or iv9.2.2.2 (by omega) u_.2.2⟩ | (exfalso; omega)) (by omega) hw (lv_sub hl [2, 3, 1, 0] rfl)
                refine j_iload_n E 91 rfl dX3_readConditions_90 rfl (lv_at hl 2 rfl) ?_
                refine j_if_ne E 94 99 rfl r_l2_9 dX3_readConditions_91 (by decide) (fun cc25_ => ?_) (fun cc25_ => ?_)
                · refine j_iconst E 100 rfl dX3_readConditions_99 ?_
                  refine j_goto E 104 dX3_readConditions_100 (by decide) ?_
                  exact L104_23 1  H locs ls (rr (by decide)) (by omega) hw (lv_sub hl [0, 1, 2, 3, 4] rfl)
                · refine j_iload E 96 rfl dX3_readConditions_94 (lv_at hl 4 rfl) ?_
                  refine j_if_ne E 99 103 rfl r_s0_51 dX3_readConditions_96 (by decide) (fun cc26_ => ?_) (fun cc26_ => ?_)
                  rotate_left; · exfalso; omega
                  refine j_iconst E 104 rfl dX3_readConditions_103 ?_
                  exact L104_23 0  H locs ls (rr (by decide)) (by omega) hw (lv_sub hl [0, 1, 2, 3, 4] rfl)
            refine j_iload E 55 rfl dX3_readConditions_53 (lv_at hl 0 rfl) ?_
            refine j_if_ne E 58 69 rfl r_s0_51 dX3_readConditions_55 (by decide) (fun cc27_ => ?_) (fun cc27_ => ?_)
            · exact L69_13  y86_c9 y300_c9 H locs ls  (by first | exact ⟨by omega, iv9.2.1⟩ | exact ⟨by omega, Ro_tr iv9.2.1 ro7_⟩) hw (lv_sub hl [1, 2, 3, 4, 0] rfl)
            · refine j_iload_n E 59 rfl dX3_readConditions_58 rfl (lv_at hl 3 rfl) ?_
              refine j_if_eq E 62 69 rfl r_l2_9 dX3_readConditions_59 (by decide) (fun cc28_ => ?_) (fun cc28_ => ?_)
              · exact L69_13  y86_c9 y300_c9 H locs ls  (by first | exact ⟨by omega, iv9.2.1⟩ | exact ⟨by omega, Ro_tr iv9.2.1 ro7_⟩) hw (lv_sub hl [1, 2, 3, 4, 0] rfl)
              · refine j_aload_n E 63 rfl dX3_readConditions_62 rfl (lv_at hl 1 rfl) ?_
                refine j_sipush E 66 rfl dX3_readConditions_63 (by decide) ?_
                refine kV_v E (c_X3_emit l D cy T (upV (upV (upV (upV (upV v_0 80 y80_c9) 83 y83_c9) 84 y84_c9) 86 y86_c9) 300 y300_c9) o ((-304))  t_o (rr (by decide)) (show 0 ≤ (y86_c9 o) ∧ (y86_c9 o) ≤ 400 from by omega)) mt_X3_emit ml_X3_60 hK hw (cw_rc4 hK hw.1 t_o) hA ⟨Nat.le_of_ble_eq_true rfl, Nat.le_of_ble_eq_true rfl⟩ ⟨Nat.le_of_ble_eq_true rfl, Nat.le_of_ble_eq_true rfl⟩ (As := [.int (J ((-304)))]) (rest := []) rfl rfl hl.1 (Nat.le_of_ble_eq_true rfl) 69 rfl dX3_readConditions_66 (fun v_29 H locs hq29_ hw => ?_)
                obtain ⟨y86_29, y300_29, ev29_, hh29_⟩ := hq29_
                rw [ev29_] at hw; clear ev29_
                have hw : WK D cy T (upV (upV (upV (upV (upV v_0 80 y80_c9) 83 y83_c9) 84 y84_c9) 86 y86_29) 300 y300_29) A0 s.heap H locs := cw_eq hw (by first | rfl | (funext j_; simp only [upV, reduceIte]; (repeat' split) <;> first | rfl | omega | (subst_vars; rfl)))
                have hh29_ : (0 ≤ (y86_29 o) ∧ (y86_29 o) ≤ 400) ∧ Ro_ (y300_c9) (y300_29) (T 85 o) := hh29_
                have ro7_ := hh29_.2
                exact L69_13  y86_29 y300_29 H locs ls  (by first | exact ⟨by omega, iv9.2.1⟩ | exact ⟨by omega, Ro_tr iv9.2.1 ro7_⟩) hw (lv_sub hl [1, 2, 3, 4, 0] rfl)
          refine j_aload_n E 37 rfl dX3_readConditions_36 rfl (lv_at hl 0 rfl) ?_
          refine g_84 E hK hw fl_X3_30 t_o (y84_c9 o) rfl 40 rfl dX3_readConditions_37 (fun _ => ?_)
          refine j_sipush E 43 rfl dX3_readConditions_40 (by decide) ?_
          refine j_icmp_ne E 46 50 rfl rr9_ (rr (by decide)) dX3_readConditions_43 (by decide) (fun cc30_ => ?_) (fun cc30_ => ?_)
          · exfalso; omega
          refine j_iconst E 47 rfl dX3_readConditions_46 ?_
          refine j_goto E 51 dX3_readConditions_47 (by decide) ?_
          exact L51_11 1  H locs ls (rr (by decide)) (by omega) hw (lv_sub hl [0, 1, 2, 3] rfl)
        · refine j_aload_n E 27 rfl dX3_readConditions_26 rfl (lv_at hl 0 rfl) ?_
          refine g_84 E hK hw fl_X3_30 t_o (y84_c9 o) rfl 30 rfl dX3_readConditions_27 (fun _ => ?_)
          refine j_sipush E 33 rfl dX3_readConditions_30 (by decide) ?_
          refine j_icmp_ne E 36 111 rfl rr9_ (rr (by decide)) dX3_readConditions_33 (by decide) (fun cc31_ => ?_) (fun cc31_ => ?_)
          · exact L111_4   H locs ls  (by first | omega | exact Co_i iv9.2.2.2 (by omega) (by omega)) hw (lv_sub hl [0, 1, 2, 3] rfl)
          · have L51_32 : ∀ (s0_51 : Int) (H : Heap) (locs : List Loc) (ls : Array Slot), inR s0_51 → ((s0_51 = 1 ∧ (y84_c9 o) = 305) ∨ (s0_51 = 0 ∧ (y84_c9 o) = 304)) → WK D cy T (upV (upV (upV (upV (upV v_0 80 y80_c9) 83 y83_c9) 84 y84_c9) 86 y86_c9) 300 y300_c9) A0 s.heap H locs → lv_has ls 5 [(0, .ref o), (1, .int (J 4)), (2, .int (J l2_9)), (3, .int (J l3_9))] → W p l e (rmd 14 0 0) s m ar below meth c H locs 0 0 QW (F0 m 51 ls [.int (J s0_51)]) := by
              intro s0_51 H locs ls r_s0_51 iv51 hw hl
              refine j_istore E 53 rfl [(4, .int (J s0_51)), (0, .ref o), (1, .int (J 4)), (2, .int (J l2_9)), (3, .int (J l3_9))] dX3_readConditions_51 hl (by decide) rfl (fun ls hl => ?_)
              have L69_34 : ∀ (y86_c69 : Nat → Int) (y300_c69 : Nat → Int) (H : Heap) (locs : List Loc) (ls : Array Slot), ((0 ≤ (y86_c69 o) ∧ (y86_c69 o) ≤ 400) ∧ Ro_ (v_0 300) (y300_c69) (T 85 o)) → WK D cy T (upV (upV (upV (upV (upV v_0 80 y80_c9) 83 y83_c9) 84 y84_c9) 86 y86_c69) 300 y300_c69) A0 s.heap H locs → lv_has ls 5 [(0, .ref o), (1, .int (J 4)), (2, .int (J l2_9)), (3, .int (J l3_9)), (4, .int (J s0_51))] → W p l e (rmd 14 0 0) s m ar below meth c H locs 0 0 QW (F0 m 69 ls []) := by
                intro y86_c69 y300_c69 H locs ls iv69 hw hl
                refine j_aload_n E 70 rfl dX3_readConditions_69 rfl (lv_at hl 0 rfl) ?_
                refine zV_v E (c_X3_step l D cy T (upV (upV (upV (upV (upV v_0 80 y80_c9) 83 y83_c9) 84 y84_c9) 86 y86_c69) 300 y300_c69) κ o K_ V_ hO t_o  (show RK_ (y300_c69) (T 120 (T 82 o)) (T 121 (T 82 o)) (((v_0 123) (T 82 o))) K_ V_ from RK_ro hp1 iv69.2 nk_ nv_) (show 0 ≤ (y83_c9 o) ∧ (y83_c9 o) < 400 from by have q_ := RK_lt hp1 (j := (y83_c9 o)) (by omega); omega)) mt_X3_step ml_X3_54 hK hZ hAc hw (cw_rc4 hK hw.1 t_o) hA ⟨Nat.le_of_ble_eq_true rfl, Nat.le_of_ble_eq_true rfl⟩ ⟨Nat.le_of_ble_eq_true rfl, Nat.le_of_ble_eq_true rfl⟩ (As := []) (rest := []) rfl rfl hl.1 (Nat.le_of_ble_eq_true rfl) 73 rfl dX3_readConditions_70 (fun v_36 H locs hq36_ hw => ?_)
                obtain ⟨y83_36, y84_36, ev36_, hh36_⟩ := hq36_
                rw [ev36_] at hw; clear ev36_
                have hw : WK D cy T (upV (upV (upV (upV (upV v_0 80 y80_c9) 83 y83_36) 84 y84_36) 86 y86_c69) 300 y300_c69) A0 s.heap H locs := cw_eq hw (by first | rfl | (funext j_; simp only [upV, reduceIte]; (repeat' split) <;> first | rfl | omega | (subst_vars; rfl)))
                have hh36_ : (y83_36 o) = (y83_c9 o) + 1 ∧ (y84_36 o) = K_ ((y83_c9 o) + 1) := hh36_
                have s_ := hh36_
                refine j_aload_n E 74 rfl dX3_readConditions_73 rfl (lv_at hl 0 rfl) ?_
                refine j_iload_n E 75 rfl dX3_readConditions_74 rfl (lv_at hl 1 rfl) ?_
                refine zV_v E (c_X3_readCondition_n4 l D cy T (upV (upV (upV (upV (upV v_0 80 y80_c9) 83 y83_36) 84 y84_36) 86 y86_c69) 300 y300_c69) κ o K_ V_ hO t_o  (show 0 ≤ (y86_c69 o) ∧ (y86_c69 o) ≤ 400 from by omega) (show RK_ (y300_c69) (T 120 (T 82 o)) (T 121 (T 82 o)) (((v_0 123) (T 82 o))) K_ V_ from RK_ro hp1 iv69.2 nk_ nv_) (show Cs_ K_ ((y83_36 o)) ((y84_36 o)) ((y80_c9 o)) from Cs_st (Co_cs hp2 iv9.2.2.2) (by omega) s_.1 s_.2 (by omega))) mt_X3_readCondition ml_X3_85 hK hZ hAc hw (cw_rc4 hK hw.1 t_o) hA ⟨Nat.le_of_ble_eq_true rfl, Nat.le_of_ble_eq_true rfl⟩ ⟨Nat.le_of_ble_eq_true rfl, Nat.le_of_ble_eq_true rfl⟩ (As := [.int (J 4)]) (rest := []) rfl rfl hl.1 (Nat.le_of_ble_eq_true rfl) 78 rfl dX3_readConditions_75 (fun v_37 H locs hq37_ hw => ?_)
                obtain ⟨y80_37, y83_37, y84_37, y86_37, y300_37, ev37_, hh37_⟩ := hq37_
                rw [ev37_] at hw; clear ev37_
                have hw : WK D cy T (upV (upV (upV (upV (upV v_0 80 y80_37) 83 y83_37) 84 y84_37) 86 y86_37) 300 y300_37) A0 s.heap H locs := cw_eq hw (by first | rfl | (funext j_; simp only [upV, reduceIte]; (repeat' split) <;> first | rfl | omega | (subst_vars; rfl)))
                have hh37_ : (0 ≤ (y86_37 o) ∧ (y86_37 o) ≤ 400) ∧ Ro_ (y300_c69) (y300_37) (T 85 o) ∧ Ck_ S3_ (4 : Int) TX_ K_ V_ ((y83_36 o)) ((y80_c9 o)) ((y83_37 o)) ((y84_37 o)) ((y80_37 o)) := hh37_
                have u_ := hh37_
                rw [s_.1] at u_
                refine j_iload E 80 rfl dX3_readConditions_78 (lv_at hl 4 rfl) ?_
                refine j_if_eq E 83 90 rfl r_s0_51 dX3_readConditions_80 (by decide) (fun cc38_ => ?_) (fun cc38_ => ?_)
                · have L104_39 : ∀ (s0_104 : Int) (H : Heap) (locs : List Loc) (ls : Array Slot), inR s0_104 → (((l2_9 ≠ 0 ∨ s0_51 = 0) ∧ s0_104 = 1) ∨ (l2_9 = 0 ∧ s0_51 ≠ 0 ∧ s0_104 = 0)) → WK D cy T (upV (upV (upV (upV (upV v_0 80 y80_37) 83 y83_37) 84 y84_37) 86 y86_37) 300 y300_37) A0 s.heap H locs → lv_has ls 5 [(0, .ref o), (1, .int (J 4)), (2, .int (J l2_9)), (3, .int (J l3_9)), (4, .int (J s0_51))] → W p l e (rmd 14 0 0) s m ar below meth c H locs 0 0 QW (F0 m 104 ls [.int (J s0_104)]) := by
                    intro s0_104 H locs ls r_s0_104 iv104 hw hl
                    refine j_istore_n E 105 rfl [(2, .int (J s0_104)), (0, .ref o), (1, .int (J 4)), (3, .int (J l3_9)), (4, .int (J s0_51))] dX3_readConditions_104 rfl hl (by decide) rfl (fun ls hl => ?_)
                    refine j_iinc E 108 rfl [(3, .int (J (l3_9 + 1))), (2, .int (J s0_104)), (0, .ref o), (1, .int (J 4)), (4, .int (J s0_51))] dX3_readConditions_105 hl (kk := 3) rfl (by decide) rfl (fun ls hl => ?_)
                    refine j_goto E 9 dX3_readConditions_108 (by decide) ?_
                    exact ih9 s0_104 (l3_9 + 1) y80_37 y83_37 y84_37 y86_37 y300_37 H locs ls r_s0_104 (rr (by omega)) (by first | exact ⟨by omega, Ro_tr iv69.2 (Ro_tr u_.2.1 ro9_), by omega, by rw [show s0_104 = l2_9 by omega]; exact Co_and iv9.2.2.2 (by omega) u_.2.2⟩ | exact ⟨by omega, Ro_tr iv69.2 u_.2.1, by omega, by rw [show s0_104 = 1 by omega]; exact Co_or iv9.2.2.2 (by omega) u_.2.2⟩ | (exfalso; omega)) (by omega) hw (lv_sub hl [2, 3, 1, 0] rfl)
                  refine j_iload_n E 91 rfl dX3_readConditions_90 rfl (lv_at hl 2 rfl) ?_
                  refine j_if_ne E 94 99 rfl r_l2_9 dX3_readConditions_91 (by decide) (fun cc41_ => ?_) (fun cc41_ => ?_)
                  · refine j_iconst E 100 rfl dX3_readConditions_99 ?_
                    refine j_goto E 104 dX3_readConditions_100 (by decide) ?_
                    exact L104_39 1  H locs ls (rr (by decide)) (by omega) hw (lv_sub hl [0, 1, 2, 3, 4] rfl)
                  · refine j_iload E 96 rfl dX3_readConditions_94 (lv_at hl 4 rfl) ?_
                    refine j_if_ne E 99 103 rfl r_s0_51 dX3_readConditions_96 (by decide) (fun cc42_ => ?_) (fun cc42_ => ?_)
                    · exfalso; omega
                    refine j_iconst E 100 rfl dX3_readConditions_99 ?_
                    refine j_goto E 104 dX3_readConditions_100 (by decide) ?_
                    exact L104_39 1  H locs ls (rr (by decide)) (by omega) hw (lv_sub hl [0, 1, 2, 3, 4] rfl)
                · refine j_aload_n E 84 rfl dX3_readConditions_83 rfl (lv_at hl 0 rfl) ?_
                  refine j_sipush E 87 rfl dX3_readConditions_84 (by decide) ?_
                  refine kV_v E (c_X3_emit l D cy T (upV (upV (upV (upV (upV v_0 80 y80_37) 83 y83_37) 84 y84_37) 86 y86_37) 300 y300_37) o ((-305))  t_o (rr (by decide)) (show 0 ≤ (y86_37 o) ∧ (y86_37 o) ≤ 400 from by omega)) mt_X3_emit ml_X3_60 hK hw (cw_rc4 hK hw.1 t_o) hA ⟨Nat.le_of_ble_eq_true rfl, Nat.le_of_ble_eq_true rfl⟩ ⟨Nat.le_of_ble_eq_true rfl, Nat.le_of_ble_eq_true rfl⟩ (As := [.int (J ((-305)))]) (rest := []) rfl rfl hl.1 (Nat.le_of_ble_eq_true rfl) 90 rfl dX3_readConditions_87 (fun v_43 H locs hq43_ hw => ?_)
                  obtain ⟨y86_43, y300_43, ev43_, hh43_⟩ := hq43_
                  rw [ev43_] at hw; clear ev43_
                  have hw : WK D cy T (upV (upV (upV (upV (upV v_0 80 y80_37) 83 y83_37) 84 y84_37) 86 y86_43) 300 y300_43) A0 s.heap H locs := cw_eq hw (by first | rfl | (funext j_; simp only [upV, reduceIte]; (repeat' split) <;> first | rfl | omega | (subst_vars; rfl)))
                  have hh43_ : (0 ≤ (y86_43 o) ∧ (y86_43 o) ≤ 400) ∧ Ro_ (y300_37) (y300_43) (T 85 o) := hh43_
                  have ro9_ := hh43_.2
                  have L104_44 : ∀ (s0_104 : Int) (H : Heap) (locs : List Loc) (ls : Array Slot), inR s0_104 → (((l2_9 ≠ 0 ∨ s0_51 = 0) ∧ s0_104 = 1) ∨ (l2_9 = 0 ∧ s0_51 ≠ 0 ∧ s0_104 = 0)) → WK D cy T (upV (upV (upV (upV (upV v_0 80 y80_37) 83 y83_37) 84 y84_37) 86 y86_43) 300 y300_43) A0 s.heap H locs → lv_has ls 5 [(0, .ref o), (1, .int (J 4)), (2, .int (J l2_9)), (3, .int (J l3_9)), (4, .int (J s0_51))] → W p l e (rmd 14 0 0) s m ar below meth c H locs 0 0 QW (F0 m 104 ls [.int (J s0_104)]) := by
                    intro s0_104 H locs ls r_s0_104 iv104 hw hl
                    refine j_istore_n E 105 rfl [(2, .int (J s0_104)), (0, .ref o), (1, .int (J 4)), (3, .int (J l3_9)), (4, .int (J s0_51))] dX3_readConditions_104 rfl hl (by decide) rfl (fun ls hl => ?_)
                    refine j_iinc E 108 rfl [(3, .int (J (l3_9 + 1))), (2, .int (J s0_104)), (0, .ref o), (1, .int (J 4)), (4, .int (J s0_51))] dX3_readConditions_105 hl (kk := 3) rfl (by decide) rfl (fun ls hl => ?_)
                    refine j_goto E 9 dX3_readConditions_108 (by decide) ?_
                    exact ih9 s0_104 (l3_9 + 1) y80_37 y83_37 y84_37 y86_43 y300_43 H locs ls r_s0_104 (rr (by omega)) (by first | exact ⟨by omega, Ro_tr iv69.2 (Ro_tr u_.2.1 ro9_), by omega, by rw [show s0_104 = l2_9 by omega]; exact Co_and iv9.2.2.2 (by omega) u_.2.2⟩ | exact ⟨by omega, Ro_tr iv69.2 u_.2.1, by omega, by rw [show s0_104 = 1 by omega]; exact Co_or iv9.2.2.2 (by omega) u_.2.2⟩ | (exfalso; omega)) (by omega) hw (lv_sub hl [2, 3, 1, 0] rfl)
                  refine j_iload_n E 91 rfl dX3_readConditions_90 rfl (lv_at hl 2 rfl) ?_
                  refine j_if_ne E 94 99 rfl r_l2_9 dX3_readConditions_91 (by decide) (fun cc46_ => ?_) (fun cc46_ => ?_)
                  · refine j_iconst E 100 rfl dX3_readConditions_99 ?_
                    refine j_goto E 104 dX3_readConditions_100 (by decide) ?_
                    exact L104_44 1  H locs ls (rr (by decide)) (by omega) hw (lv_sub hl [0, 1, 2, 3, 4] rfl)
                  · refine j_iload E 96 rfl dX3_readConditions_94 (lv_at hl 4 rfl) ?_
                    refine j_if_ne E 99 103 rfl r_s0_51 dX3_readConditions_96 (by decide) (fun cc47_ => ?_) (fun cc47_ => ?_)
                    rotate_left; · exfalso; omega
                    refine j_iconst E 104 rfl dX3_readConditions_103 ?_
                    exact L104_44 0  H locs ls (rr (by decide)) (by omega) hw (lv_sub hl [0, 1, 2, 3, 4] rfl)
              refine j_iload E 55 rfl dX3_readConditions_53 (lv_at hl 0 rfl) ?_
              refine j_if_ne E 58 69 rfl r_s0_51 dX3_readConditions_55 (by decide) (fun cc48_ => ?_) (fun cc48_ => ?_)
              · exact L69_34  y86_c9 y300_c9 H locs ls  (by first | exact ⟨by omega, iv9.2.1⟩ | exact ⟨by omega, Ro_tr iv9.2.1 ro7_⟩) hw (lv_sub hl [1, 2, 3, 4, 0] rfl)
              · refine j_iload_n E 59 rfl dX3_readConditions_58 rfl (lv_at hl 3 rfl) ?_
                refine j_if_eq E 62 69 rfl r_l2_9 dX3_readConditions_59 (by decide) (fun cc49_ => ?_) (fun cc49_ => ?_)
                · exact L69_34  y86_c9 y300_c9 H locs ls  (by first | exact ⟨by omega, iv9.2.1⟩ | exact ⟨by omega, Ro_tr iv9.2.1 ro7_⟩) hw (lv_sub hl [1, 2, 3, 4, 0] rfl)
                · refine j_aload_n E 63 rfl dX3_readConditions_62 rfl (lv_at hl 1 rfl) ?_
                  refine j_sipush E 66 rfl dX3_readConditions_63 (by decide) ?_
                  refine kV_v E (c_X3_emit l D cy T (upV (upV (upV (upV (upV v_0 80 y80_c9) 83 y83_c9) 84 y84_c9) 86 y86_c9) 300 y300_c9) o ((-304))  t_o (rr (by decide)) (show 0 ≤ (y86_c9 o) ∧ (y86_c9 o) ≤ 400 from by omega)) mt_X3_emit ml_X3_60 hK hw (cw_rc4 hK hw.1 t_o) hA ⟨Nat.le_of_ble_eq_true rfl, Nat.le_of_ble_eq_true rfl⟩ ⟨Nat.le_of_ble_eq_true rfl, Nat.le_of_ble_eq_true rfl⟩ (As := [.int (J ((-304)))]) (rest := []) rfl rfl hl.1 (Nat.le_of_ble_eq_true rfl) 69 rfl dX3_readConditions_66 (fun v_50 H locs hq50_ hw => ?_)
                  obtain ⟨y86_50, y300_50, ev50_, hh50_⟩ := hq50_
                  rw [ev50_] at hw; clear ev50_
                  have hw : WK D cy T (upV (upV (upV (upV (upV v_0 80 y80_c9) 83 y83_c9) 84 y84_c9) 86 y86_50) 300 y300_50) A0 s.heap H locs := cw_eq hw (by first | rfl | (funext j_; simp only [upV, reduceIte]; (repeat' split) <;> first | rfl | omega | (subst_vars; rfl)))
                  have hh50_ : (0 ≤ (y86_50 o) ∧ (y86_50 o) ≤ 400) ∧ Ro_ (y300_c9) (y300_50) (T 85 o) := hh50_
                  have ro7_ := hh50_.2
                  exact L69_34  y86_50 y300_50 H locs ls  (by first | exact ⟨by omega, iv9.2.1⟩ | exact ⟨by omega, Ro_tr iv9.2.1 ro7_⟩) hw (lv_sub hl [1, 2, 3, 4, 0] rfl)
            refine j_aload_n E 37 rfl dX3_readConditions_36 rfl (lv_at hl 0 rfl) ?_
            refine g_84 E hK hw fl_X3_30 t_o (y84_c9 o) rfl 40 rfl dX3_readConditions_37 (fun _ => ?_)
            refine j_sipush E 43 rfl dX3_readConditions_40 (by decide) ?_
            refine j_icmp_ne E 46 50 rfl rr9_ (rr (by decide)) dX3_readConditions_43 (by decide) (fun cc51_ => ?_) (fun cc51_ => ?_)
            rotate_left; · exfalso; omega
            refine j_iconst E 51 rfl dX3_readConditions_50 ?_
            exact L51_32 0  H locs ls (rr (by decide)) (by omega) hw (lv_sub hl [0, 1, 2, 3] rfl)
  exact L9_2 _ 0 0 y80_1 y83_1 y84_1 y86_1 y300_1 H locs ls (rr (by decide)) (rr (by decide)) (⟨by omega, u0_.2.1, by omega, Co_0 hp2.1.1 u0_.2.2⟩) (Nat.lt_succ_self _) hw (lv_sub hl [2, 3, 1, 0] rfl)
set_option maxHeartbeats 4000000 in
set_option maxRecDepth 100000 in
theorem c_X3_readCondition_n3 (l : Launch) (D : va_G) (cy : Nat → ClassId) (T : Nat → Nat → Nat) (v_0 : Nat → Nat → Int) (κ : Nat → Nat → Nat) (o : Nat) (K_ : Int → Int) (V_ : Int → Int) (hO : ∀ x, ow T x → κ 2 2 ≤ x) (t_o : T 0 o = 4) (hp0 : 0 ≤ (v_0 86 o) ∧ (v_0 86 o) ≤ 400) (hp1 : RK_ (v_0 300) (T 120 (T 82 o)) (T 121 (T 82 o)) ((v_0 123 (T 82 o))) K_ V_) (hp2 : Cs_ K_ ((v_0 83 o)) ((v_0 84 o)) ((v_0 80 o))) : KZ l D cy κ T yX3_readCondition cX3_readCondition 4 none 15 [.ref o, .int (J 3)] v_0 (KV (fun (v_2 : Nat → Nat → Int) => ∃ (y80_2 : Nat → Int) (y83_2 : Nat → Int) (y84_2 : Nat → Int) (y86_2 : Nat → Int) (y300_2 : Nat → Int) , v_2 = upV (upV (upV (upV (upV v_0 80 y80_2) 83 y83_2) 84 y84_2) 86 y86_2) 300 y300_2 ∧ ((0 ≤ (y86_2 o) ∧ (y86_2 o) ≤ 400) ∧ Ro_ (v_0 300) (y300_2) (T 85 o) ∧ Ck_ S3_ (3 : Int) TX_ K_ V_ ((v_0 83 o)) ((v_0 80 o)) ((y83_2 o)) ((y84_2 o)) ((y80_2 o))))) := by
  refine KZ.ofv (by decide) (Nat.le_of_ble_eq_true rfl) hO ?_
  intro p e s m below meth c ls ar QW A0 H locs E hK hZ hA hAc hw hl hret
  have hl : lv_has ls 4 [(0, .ref o), (1, .int (J 3))] := hl
  have hT : WT T := hw.1.2.1
  have cs_ := hp2
  unfold Cs_ at cs_
  have nk_ : T 120 (T 82 o) ≠ T 85 o := ro_ne (wo_120 hT (wt_82 hT t_o)) (wo_85 hT t_o) (by decide) (by decide) (by omega)
  have nv_ : T 121 (T 82 o) ≠ T 85 o := ro_ne (wo_121 hT (wt_82 hT t_o)) (wo_85 hT t_o) (by decide) (by decide) (by omega)
  refine j_aload_n E 1 rfl dX3_readCondition_0 rfl (lv_at hl 0 rfl) ?_
  refine g_84 E hK hw fl_X3_30 t_o (v_0 84 o) rfl 4 rfl dX3_readCondition_1 (fun rr1_ => ?_)
  refine j_bipush E 6 rfl dX3_readCondition_4 (by decide) ?_
  refine j_icmp_eq E 9 19 rfl rr1_ (rr (by decide)) dX3_readCondition_6 (by decide) (fun cc2_ => ?_) (fun cc2_ => ?_)
  · refine j_iconst E 20 rfl dX3_readCondition_19 ?_
    refine j_goto E 24 dX3_readCondition_20 (by decide) ?_
    refine j_istore_n E 25 rfl [(2, .int (J 1)), (0, .ref o), (1, .int (J 3))] dX3_readCondition_24 rfl hl (by decide) rfl (fun ls hl => ?_)
    refine j_iload_n E 26 rfl dX3_readCondition_25 rfl (lv_at hl 0 rfl) ?_
    refine j_if_eq E 29 43 rfl (rr (by decide)) dX3_readCondition_26 (by decide) (fun cc3_ => absurd cc3_ (by decide)) (fun _ => ?_)
    refine j_iload_n E 30 rfl dX3_readCondition_29 rfl (lv_at hl 2 rfl) ?_
    refine j_bipush E 32 rfl dX3_readCondition_30 (by decide) ?_
    refine j_icmp_lt E 35 43 rfl (rr (by decide)) (rr (by decide)) dX3_readCondition_32 (by decide) (fun _ => ?_) (fun cc4_ => absurd cc4_ (by decide))
    refine j_aload_n E 44 rfl dX3_readCondition_43 rfl (lv_at hl 1 rfl) ?_
    refine g_84 E hK hw fl_X3_30 t_o (v_0 84 o) rfl 47 rfl dX3_readCondition_44 (fun _ => ?_)
    refine j_bipush E 49 rfl dX3_readCondition_47 (by decide) ?_
    refine j_icmp_ne E 52 72 rfl rr1_ (rr (by decide)) dX3_readCondition_49 (by decide) (fun cc5_ => ?_) (fun cc5_ => ?_)
    · exfalso; omega
    refine j_aload_n E 53 rfl dX3_readCondition_52 rfl (lv_at hl 1 rfl) ?_
    refine zV_v E (c_X3_step l D cy T (v_0) κ o K_ V_ hO t_o  (show RK_ (v_0 300) (T 120 (T 82 o)) (T 121 (T 82 o)) (((v_0 123) (T 82 o))) K_ V_ from hp1) (show 0 ≤ ((v_0 83) o) ∧ ((v_0 83) o) < 400 from by have q_ := RK_lt hp1 (j := (v_0 83 o)) (by omega); omega)) mt_X3_step ml_X3_54 hK hZ hAc hw (cw_rc4 hK hw.1 t_o) hA ⟨Nat.le_of_ble_eq_true rfl, Nat.le_of_ble_eq_true rfl⟩ ⟨Nat.le_of_ble_eq_true rfl, Nat.le_of_ble_eq_true rfl⟩ (As := []) (rest := []) rfl rfl hl.1 (Nat.le_of_ble_eq_true rfl) 56 rfl dX3_readCondition_53 (fun v_6 H locs hq6_ hw => ?_)
    obtain ⟨y83_6, y84_6, ev6_, hh6_⟩ := hq6_
    rw [ev6_] at hw; clear ev6_
    have hw : WK D cy T (upV (upV v_0 83 y83_6) 84 y84_6) A0 s.heap H locs := cw_eq hw (by first | rfl | (funext j_; simp only [upV, reduceIte]; (repeat' split) <;> first | rfl | omega | (subst_vars; rfl)))
    have hh6_ : (y83_6 o) = ((v_0 83) o) + 1 ∧ (y84_6 o) = K_ (((v_0 83) o) + 1) := hh6_
    have s1_ := hh6_
    refine j_aload_n E 57 rfl dX3_readCondition_56 rfl (lv_at hl 1 rfl) ?_
    refine j_iload_n E 58 rfl dX3_readCondition_57 rfl (lv_at hl 2 rfl) ?_
    refine j_iconst E 59 rfl dX3_readCondition_58 ?_
    refine j_iadd E 60 rfl dX3_readCondition_59 ?_
    refine j_lit (z := 4) (by decide) ?_
    refine zV_v E (c_X3_readConditions_n4 l D cy T (upV (upV v_0 83 y83_6) 84 y84_6) κ o K_ V_ hO t_o  (show 0 ≤ ((v_0 86) o) ∧ ((v_0 86) o) ≤ 400 from by omega) (show RK_ (v_0 300) (T 120 (T 82 o)) (T 121 (T 82 o)) (((v_0 123) (T 82 o))) K_ V_ from hp1) (show Cs_ K_ ((y83_6 o)) ((y84_6 o)) (((v_0 80) o)) from Cs_st hp2 (by omega) s1_.1 s1_.2 (by omega))) mt_X3_readConditions ml_X3_57 hK hZ hAc hw (cw_rc4 hK hw.1 t_o) hA ⟨Nat.le_of_ble_eq_true rfl, Nat.le_of_ble_eq_true rfl⟩ ⟨Nat.le_of_ble_eq_true rfl, Nat.le_of_ble_eq_true rfl⟩ (As := [.int (J 4)]) (rest := []) rfl rfl hl.1 (Nat.le_of_ble_eq_true rfl) 63 rfl dX3_readCondition_60 (fun v_7 H locs hq7_ hw => ?_)
    obtain ⟨y80_7, y83_7, y84_7, y86_7, y300_7, ev7_, hh7_⟩ := hq7_
    rw [ev7_] at hw; clear ev7_
    have hw : WK D cy T (upV (upV (upV (upV (upV v_0 80 y80_7) 83 y83_7) 84 y84_7) 86 y86_7) 300 y300_7) A0 s.heap H locs := cw_eq hw (by first | rfl | (funext j_; simp only [upV, reduceIte]; (repeat' split) <;> first | rfl | omega | (subst_vars; rfl)))
    have hh7_ : (0 ≤ (y86_7 o) ∧ (y86_7 o) ≤ 400) ∧ Ro_ (v_0 300) (y300_7) (T 85 o) ∧ Ck_ S4_ (4 : Int) (NA_ K_) K_ V_ ((y83_6 o)) (((v_0 80) o)) ((y83_7 o)) ((y84_7 o)) ((y80_7 o)) := hh7_
    have b_ := hh7_
    rw [s1_.1] at b_
    refine j_aload_n E 64 rfl dX3_readCondition_63 rfl (lv_at hl 1 rfl) ?_
    refine j_bipush E 66 rfl dX3_readCondition_64 (by decide) ?_
    refine zV_v E (c_X3_take l D cy T (upV (upV (upV (upV (upV v_0 80 y80_7) 83 y83_7) 84 y84_7) 86 y86_7) 300 y300_7) κ o 41 K_ V_ hO t_o (rr (by decide)) (show RK_ (y300_7) (T 120 (T 82 o)) (T 121 (T 82 o)) (((v_0 123) (T 82 o))) K_ V_ from RK_ro hp1 b_.2.1 nk_ nv_) (show Cs_ K_ ((y83_7 o)) ((y84_7 o)) ((y80_7 o)) from Ck_cs (Cs_st (a1 := v_0 83 o + 1) (k1 := K_ (v_0 83 o + 1)) hp2 (by omega) rfl rfl (by omega)) b_.2.2) (show 3 < (41 : Int) from by omega)) mt_X3_take ml_X3_47 hK hZ hAc hw (cw_rc4 hK hw.1 t_o) hA ⟨Nat.le_of_ble_eq_true rfl, Nat.le_of_ble_eq_true rfl⟩ ⟨Nat.le_of_ble_eq_true rfl, Nat.le_of_ble_eq_true rfl⟩ (As := [.int (J 41)]) (rest := []) rfl rfl hl.1 (Nat.le_of_ble_eq_true rfl) 69 rfl dX3_readCondition_66 (fun v_8 H locs hq8_ hw => ?_)
    obtain ⟨y80_8, y83_8, y84_8, ev8_, hh8_⟩ := hq8_
    rw [ev8_] at hw; clear ev8_
    have hw : WK D cy T (upV (upV (upV (upV (upV v_0 80 y80_8) 83 y83_8) 84 y84_8) 86 y86_7) 300 y300_7) A0 s.heap H locs := cw_eq hw (by first | rfl | (funext j_; simp only [upV, reduceIte]; (repeat' split) <;> first | rfl | omega | (subst_vars; rfl)))
    have hh8_ : (((y84_7 o) = (41 : Int)) ∧ (y83_8 o) = (y83_7 o) + 1 ∧ (y84_8 o) = K_ ((y83_7 o) + 1) ∧ (y80_8 o) = (y80_7 o)) ∨ (¬ ((y84_7 o) = (41 : Int)) ∧ (y83_8 o) = (y83_7 o) ∧ (y84_8 o) = 2 ∧ (((y80_7 o) = 0 ∧ (y80_8 o) = 1) ∨ (¬ (y80_7 o) = 0 ∧ (y80_8 o) = (y80_7 o)))) := hh8_
    have t_ := hh8_
    refine j_goto E 126 dX3_readCondition_69 (by decide) ?_
    exact hret 126 (upV (upV (upV (upV (upV v_0 80 y80_8) 83 y83_8) 84 y84_8) 86 y86_7) 300 y300_7) _ _ ls hw ⟨y80_8, y83_8, y84_8, y86_7, y300_7, rfl, by first | exact ⟨by omega, Ro_rf, ck_deep rfl hp2 (by omega) rfl r_.1 r_.2⟩ | exact ⟨by omega, b_.2.1, ck_bra (by omega) hp2 (by omega) b_.2.2 t_ (fun q_ => (RK_lt hp1 (ck_k b_.2.2 q_)).2)⟩ | exact ⟨by omega, Ro_tr n_.2.1 ro_, ck_not (by omega) hp2 (by omega) n_.2.2⟩ | exact ⟨by omega, Ro_tr e1_.2.1 (Ro_tr e2_.2.1 ro_), ck_cmp hp2 (by omega) (by omega) e1_.2.2 t_ e2_.2.2⟩⟩ dX3_readCondition_126
  · refine j_aload_n E 10 rfl dX3_readCondition_9 rfl (lv_at hl 0 rfl) ?_
    refine g_84 E hK hw fl_X3_30 t_o (v_0 84 o) rfl 13 rfl dX3_readCondition_10 (fun _ => ?_)
    refine j_sipush E 16 rfl dX3_readCondition_13 (by decide) ?_
    refine j_icmp_ne E 19 23 rfl rr1_ (rr (by decide)) dX3_readCondition_16 (by decide) (fun cc9_ => ?_) (fun cc9_ => ?_)
    · refine j_iconst E 24 rfl dX3_readCondition_23 ?_
      refine j_istore_n E 25 rfl [(2, .int (J 0)), (0, .ref o), (1, .int (J 3))] dX3_readCondition_24 rfl hl (by decide) rfl (fun ls hl => ?_)
      refine j_iload_n E 26 rfl dX3_readCondition_25 rfl (lv_at hl 0 rfl) ?_
      refine j_if_eq E 29 43 rfl (rr (by decide)) dX3_readCondition_26 (by decide) (fun _ => ?_) (fun cc10_ => absurd cc10_ (by decide))
      refine j_aload_n E 44 rfl dX3_readCondition_43 rfl (lv_at hl 1 rfl) ?_
      refine g_84 E hK hw fl_X3_30 t_o (v_0 84 o) rfl 47 rfl dX3_readCondition_44 (fun _ => ?_)
      refine j_bipush E 49 rfl dX3_readCondition_47 (by decide) ?_
      refine j_icmp_ne E 52 72 rfl rr1_ (rr (by decide)) dX3_readCondition_49 (by decide) (fun cc11_ => ?_) (fun cc11_ => ?_)
      rotate_left; · exfalso; omega
      refine j_aload_n E 73 rfl dX3_readCondition_72 rfl (lv_at hl 1 rfl) ?_
      refine g_84 E hK hw fl_X3_30 t_o (v_0 84 o) rfl 76 rfl dX3_readCondition_73 (fun _ => ?_)
      refine j_sipush E 79 rfl dX3_readCondition_76 (by decide) ?_
      refine j_icmp_ne E 82 103 rfl rr1_ (rr (by decide)) dX3_readCondition_79 (by decide) (fun cc12_ => ?_) (fun cc12_ => ?_)
      rotate_left; · exfalso; omega
      refine j_aload_n E 104 rfl dX3_readCondition_103 rfl (lv_at hl 1 rfl) ?_
      refine zV_v E (c_X3_readSum l D cy T (v_0) κ o K_ V_ hO t_o  (show 0 ≤ ((v_0 86) o) ∧ ((v_0 86) o) ≤ 400 from by omega) (show RK_ (v_0 300) (T 120 (T 82 o)) (T 121 (T 82 o)) (((v_0 123) (T 82 o))) K_ V_ from hp1) (show Cs_ K_ (((v_0 83) o)) (((v_0 84) o)) (((v_0 80) o)) from hp2)) mt_X3_readSum ml_X3_51 hK hZ hAc hw (cw_rc4 hK hw.1 t_o) hA ⟨Nat.le_of_ble_eq_true rfl, Nat.le_of_ble_eq_true rfl⟩ ⟨Nat.le_of_ble_eq_true rfl, Nat.le_of_ble_eq_true rfl⟩ (As := []) (rest := []) rfl rfl hl.1 (Nat.le_of_ble_eq_true rfl) 107 rfl dX3_readCondition_104 (fun v_13 H locs hq13_ hw => ?_)
      obtain ⟨y80_13, y83_13, y84_13, y86_13, y300_13, ev13_, hh13_⟩ := hq13_
      rw [ev13_] at hw; clear ev13_
      have hw : WK D cy T (upV (upV (upV (upV (upV v_0 80 y80_13) 83 y83_13) 84 y84_13) 86 y86_13) 300 y300_13) A0 s.heap H locs := cw_eq hw (by first | rfl | (funext j_; simp only [upV, reduceIte]; (repeat' split) <;> first | rfl | omega | (subst_vars; rfl)))
      have hh13_ : (0 ≤ (y86_13 o) ∧ (y86_13 o) ≤ 400) ∧ Ro_ (v_0 300) (y300_13) (T 85 o) ∧ Cp_ S3_ (N4_ K_) K_ V_ (((v_0 83) o)) (((v_0 80) o)) ((y83_13 o)) ((y84_13 o)) ((y80_13 o)) := hh13_
      have e1_ := hh13_
      refine j_aload_n E 108 rfl dX3_readCondition_107 rfl (lv_at hl 1 rfl) ?_
      refine g_84 E hK hw fl_X3_30 t_o (y84_13 o) rfl 111 rfl dX3_readCondition_108 (fun rr14_ => ?_)
      refine j_istore_n E 112 rfl [(3, .int (J (y84_13 o))), (2, .int (J 0)), (0, .ref o), (1, .int (J 3))] dX3_readCondition_111 rfl hl (by decide) rfl (fun ls hl => ?_)
      refine j_aload_n E 113 rfl dX3_readCondition_112 rfl (lv_at hl 2 rfl) ?_
      refine zV_v E (c_X3_takeComparison l D cy T (upV (upV (upV (upV (upV v_0 80 y80_13) 83 y83_13) 84 y84_13) 86 y86_13) 300 y300_13) κ o K_ V_ hO t_o  (show RK_ (y300_13) (T 120 (T 82 o)) (T 121 (T 82 o)) (((v_0 123) (T 82 o))) K_ V_ from RK_ro hp1 e1_.2.1 nk_ nv_) (show Cs_ K_ ((y83_13 o)) ((y84_13 o)) ((y80_13 o)) from Cp_cs hp2 e1_.2.2)) mt_X3_takeComparison ml_X3_88 hK hZ hAc hw (cw_rc4 hK hw.1 t_o) hA ⟨Nat.le_of_ble_eq_true rfl, Nat.le_of_ble_eq_true rfl⟩ ⟨Nat.le_of_ble_eq_true rfl, Nat.le_of_ble_eq_true rfl⟩ (As := []) (rest := []) rfl rfl hl.1 (Nat.le_of_ble_eq_true rfl) 116 rfl dX3_readCondition_113 (fun v_15 H locs hq15_ hw => ?_)
      obtain ⟨y80_15, y83_15, y84_15, ev15_, hh15_⟩ := hq15_
      rw [ev15_] at hw; clear ev15_
      have hw : WK D cy T (upV (upV (upV (upV (upV v_0 80 y80_15) 83 y83_15) 84 y84_15) 86 y86_13) 300 y300_13) A0 s.heap H locs := cw_eq hw (by first | rfl | (funext j_; simp only [upV, reduceIte]; (repeat' split) <;> first | rfl | omega | (subst_vars; rfl)))
      have hh15_ : (((y84_13 o) = 60 ∨ (y84_13 o) = 61 ∨ (y84_13 o) = 62) ∧ (y83_15 o) = (y83_13 o) + 1 ∧ (y84_15 o) = K_ ((y83_13 o) + 1) ∧ (y80_15 o) = (y80_13 o)) ∨ (¬ ((y84_13 o) = 60 ∨ (y84_13 o) = 61 ∨ (y84_13 o) = 62) ∧ (y83_15 o) = (y83_13 o) ∧ (y84_15 o) = 2 ∧ (((y80_13 o) = 0 ∧ (y80_15 o) = 1) ∨ (¬ (y80_13 o) = 0 ∧ (y80_15 o) = (y80_13 o)))) := hh15_
      have t_ := hh15_
      refine j_aload_n E 117 rfl dX3_readCondition_116 rfl (lv_at hl 2 rfl) ?_
      refine zV_v E (c_X3_readSum l D cy T (upV (upV (upV (upV (upV v_0 80 y80_15) 83 y83_15) 84 y84_15) 86 y86_13) 300 y300_13) κ o K_ V_ hO t_o  (show 0 ≤ (y86_13 o) ∧ (y86_13 o) ≤ 400 from by omega) (show RK_ (y300_13) (T 120 (T 82 o)) (T 121 (T 82 o)) (((v_0 123) (T 82 o))) K_ V_ from RK_ro hp1 e1_.2.1 nk_ nv_) (show Cs_ K_ ((y83_15 o)) ((y84_15 o)) ((y80_15 o)) from Ct_cs (Cp_cs hp2 e1_.2.2) t_ (fun q_ => (RK_lt hp1 q_).2))) mt_X3_readSum ml_X3_51 hK hZ hAc hw (cw_rc4 hK hw.1 t_o) hA ⟨Nat.le_of_ble_eq_true rfl, Nat.le_of_ble_eq_true rfl⟩ ⟨Nat.le_of_ble_eq_true rfl, Nat.le_of_ble_eq_true rfl⟩ (As := []) (rest := []) rfl rfl hl.1 (Nat.le_of_ble_eq_true rfl) 120 rfl dX3_readCondition_117 (fun v_16 H locs hq16_ hw => ?_)
      obtain ⟨y80_16, y83_16, y84_16, y86_16, y300_16, ev16_, hh16_⟩ := hq16_
      rw [ev16_] at hw; clear ev16_
      have hw : WK D cy T (upV (upV (upV (upV (upV v_0 80 y80_16) 83 y83_16) 84 y84_16) 86 y86_16) 300 y300_16) A0 s.heap H locs := cw_eq hw (by first | rfl | (funext j_; simp only [upV, reduceIte]; (repeat' split) <;> first | rfl | omega | (subst_vars; rfl)))
      have hh16_ : (0 ≤ (y86_16 o) ∧ (y86_16 o) ≤ 400) ∧ Ro_ (y300_13) (y300_16) (T 85 o) ∧ Cp_ S3_ (N4_ K_) K_ V_ ((y83_15 o)) ((y80_15 o)) ((y83_16 o)) ((y84_16 o)) ((y80_16 o)) := hh16_
      have e2_ := hh16_
      refine j_aload_n E 121 rfl dX3_readCondition_120 rfl (lv_at hl 2 rfl) ?_
      refine j_iload_n E 122 rfl dX3_readCondition_121 rfl (lv_at hl 0 rfl) ?_
      refine j_ineg E 123 rfl dX3_readCondition_122 ?_
      refine j_norm (fun zz17_ rr17_ ee17_ => ?_)
      refine kV_v E (c_X3_emit l D cy T (upV (upV (upV (upV (upV v_0 80 y80_16) 83 y83_16) 84 y84_16) 86 y86_16) 300 y300_16) o zz17_  t_o rr17_ (show 0 ≤ (y86_16 o) ∧ (y86_16 o) ≤ 400 from by omega)) mt_X3_emit ml_X3_60 hK hw (cw_rc4 hK hw.1 t_o) hA ⟨Nat.le_of_ble_eq_true rfl, Nat.le_of_ble_eq_true rfl⟩ ⟨Nat.le_of_ble_eq_true rfl, Nat.le_of_ble_eq_true rfl⟩ (As := [.int (J zz17_)]) (rest := []) rfl rfl hl.1 (Nat.le_of_ble_eq_true rfl) 126 rfl dX3_readCondition_123 (fun v_18 H locs hq18_ hw => ?_)
      obtain ⟨y86_18, y300_18, ev18_, hh18_⟩ := hq18_
      rw [ev18_] at hw; clear ev18_
      have hw : WK D cy T (upV (upV (upV (upV (upV v_0 80 y80_16) 83 y83_16) 84 y84_16) 86 y86_18) 300 y300_18) A0 s.heap H locs := cw_eq hw (by first | rfl | (funext j_; simp only [upV, reduceIte]; (repeat' split) <;> first | rfl | omega | (subst_vars; rfl)))
      have hh18_ : (0 ≤ (y86_18 o) ∧ (y86_18 o) ≤ 400) ∧ Ro_ (y300_16) (y300_18) (T 85 o) := hh18_
      have ro_ := hh18_.2
      exact hret 126 (upV (upV (upV (upV (upV v_0 80 y80_16) 83 y83_16) 84 y84_16) 86 y86_18) 300 y300_18) _ _ ls hw ⟨y80_16, y83_16, y84_16, y86_18, y300_18, rfl, by first | exact ⟨by omega, Ro_rf, ck_deep rfl hp2 (by omega) rfl r_.1 r_.2⟩ | exact ⟨by omega, b_.2.1, ck_bra (by omega) hp2 (by omega) b_.2.2 t_ (fun q_ => (RK_lt hp1 (ck_k b_.2.2 q_)).2)⟩ | exact ⟨by omega, Ro_tr n_.2.1 ro_, ck_not (by omega) hp2 (by omega) n_.2.2⟩ | exact ⟨by omega, Ro_tr e1_.2.1 (Ro_tr e2_.2.1 ro_), ck_cmp hp2 (by omega) (by omega) e1_.2.2 t_ e2_.2.2⟩⟩ dX3_readCondition_126
    · refine j_iconst E 20 rfl dX3_readCondition_19 ?_
      refine j_goto E 24 dX3_readCondition_20 (by decide) ?_
      refine j_istore_n E 25 rfl [(2, .int (J 1)), (0, .ref o), (1, .int (J 3))] dX3_readCondition_24 rfl hl (by decide) rfl (fun ls hl => ?_)
      refine j_iload_n E 26 rfl dX3_readCondition_25 rfl (lv_at hl 0 rfl) ?_
      refine j_if_eq E 29 43 rfl (rr (by decide)) dX3_readCondition_26 (by decide) (fun cc19_ => absurd cc19_ (by decide)) (fun _ => ?_)
      refine j_iload_n E 30 rfl dX3_readCondition_29 rfl (lv_at hl 2 rfl) ?_
      refine j_bipush E 32 rfl dX3_readCondition_30 (by decide) ?_
      refine j_icmp_lt E 35 43 rfl (rr (by decide)) (rr (by decide)) dX3_readCondition_32 (by decide) (fun _ => ?_) (fun cc20_ => absurd cc20_ (by decide))
      refine j_aload_n E 44 rfl dX3_readCondition_43 rfl (lv_at hl 1 rfl) ?_
      refine g_84 E hK hw fl_X3_30 t_o (v_0 84 o) rfl 47 rfl dX3_readCondition_44 (fun _ => ?_)
      refine j_bipush E 49 rfl dX3_readCondition_47 (by decide) ?_
      refine j_icmp_ne E 52 72 rfl rr1_ (rr (by decide)) dX3_readCondition_49 (by decide) (fun cc21_ => ?_) (fun cc21_ => ?_)
      rotate_left; · exfalso; omega
      refine j_aload_n E 73 rfl dX3_readCondition_72 rfl (lv_at hl 1 rfl) ?_
      refine g_84 E hK hw fl_X3_30 t_o (v_0 84 o) rfl 76 rfl dX3_readCondition_73 (fun _ => ?_)
      refine j_sipush E 79 rfl dX3_readCondition_76 (by decide) ?_
      refine j_icmp_ne E 82 103 rfl rr1_ (rr (by decide)) dX3_readCondition_79 (by decide) (fun cc22_ => ?_) (fun cc22_ => ?_)
      · exfalso; omega
      refine j_aload_n E 83 rfl dX3_readCondition_82 rfl (lv_at hl 1 rfl) ?_
      refine zV_v E (c_X3_step l D cy T (v_0) κ o K_ V_ hO t_o  (show RK_ (v_0 300) (T 120 (T 82 o)) (T 121 (T 82 o)) (((v_0 123) (T 82 o))) K_ V_ from hp1) (show 0 ≤ ((v_0 83) o) ∧ ((v_0 83) o) < 400 from by have q_ := RK_lt hp1 (j := (v_0 83 o)) (by omega); omega)) mt_X3_step ml_X3_54 hK hZ hAc hw (cw_rc4 hK hw.1 t_o) hA ⟨Nat.le_of_ble_eq_true rfl, Nat.le_of_ble_eq_true rfl⟩ ⟨Nat.le_of_ble_eq_true rfl, Nat.le_of_ble_eq_true rfl⟩ (As := []) (rest := []) rfl rfl hl.1 (Nat.le_of_ble_eq_true rfl) 86 rfl dX3_readCondition_83 (fun v_23 H locs hq23_ hw => ?_)
      obtain ⟨y83_23, y84_23, ev23_, hh23_⟩ := hq23_
      rw [ev23_] at hw; clear ev23_
      have hw : WK D cy T (upV (upV v_0 83 y83_23) 84 y84_23) A0 s.heap H locs := cw_eq hw (by first | rfl | (funext j_; simp only [upV, reduceIte]; (repeat' split) <;> first | rfl | omega | (subst_vars; rfl)))
      have hh23_ : (y83_23 o) = ((v_0 83) o) + 1 ∧ (y84_23 o) = K_ (((v_0 83) o) + 1) := hh23_
      have s2_ := hh23_
      refine j_aload_n E 87 rfl dX3_readCondition_86 rfl (lv_at hl 1 rfl) ?_
      refine j_iload_n E 88 rfl dX3_readCondition_87 rfl (lv_at hl 2 rfl) ?_
      refine j_iconst E 89 rfl dX3_readCondition_88 ?_
      refine j_iadd E 90 rfl dX3_readCondition_89 ?_
      refine j_lit (z := 4) (by decide) ?_
      refine zV_v E (c_X3_readCondition_n4 l D cy T (upV (upV v_0 83 y83_23) 84 y84_23) κ o K_ V_ hO t_o  (show 0 ≤ ((v_0 86) o) ∧ ((v_0 86) o) ≤ 400 from by omega) (show RK_ (v_0 300) (T 120 (T 82 o)) (T 121 (T 82 o)) (((v_0 123) (T 82 o))) K_ V_ from hp1) (show Cs_ K_ ((y83_23 o)) ((y84_23 o)) (((v_0 80) o)) from Cs_st hp2 (by omega) s2_.1 s2_.2 (by omega))) mt_X3_readCondition ml_X3_85 hK hZ hAc hw (cw_rc4 hK hw.1 t_o) hA ⟨Nat.le_of_ble_eq_true rfl, Nat.le_of_ble_eq_true rfl⟩ ⟨Nat.le_of_ble_eq_true rfl, Nat.le_of_ble_eq_true rfl⟩ (As := [.int (J 4)]) (rest := []) rfl rfl hl.1 (Nat.le_of_ble_eq_true rfl) 93 rfl dX3_readCondition_90 (fun v_24 H locs hq24_ hw => ?_)
      obtain ⟨y80_24, y83_24, y84_24, y86_24, y300_24, ev24_, hh24_⟩ := hq24_
      rw [ev24_] at hw; clear ev24_
      have hw : WK D cy T (upV (upV (upV (upV (upV v_0 80 y80_24) 83 y83_24) 84 y84_24) 86 y86_24) 300 y300_24) A0 s.heap H locs := cw_eq hw (by first | rfl | (funext j_; simp only [upV, reduceIte]; (repeat' split) <;> first | rfl | omega | (subst_vars; rfl)))
      have hh24_ : (0 ≤ (y86_24 o) ∧ (y86_24 o) ≤ 400) ∧ Ro_ (v_0 300) (y300_24) (T 85 o) ∧ Ck_ S3_ (4 : Int) TX_ K_ V_ ((y83_23 o)) (((v_0 80) o)) ((y83_24 o)) ((y84_24 o)) ((y80_24 o)) := hh24_
      have n_ := hh24_
      rw [s2_.1] at n_
      refine j_aload_n E 94 rfl dX3_readCondition_93 rfl (lv_at hl 1 rfl) ?_
      refine j_sipush E 97 rfl dX3_readCondition_94 (by decide) ?_
      refine kV_v E (c_X3_emit l D cy T (upV (upV (upV (upV (upV v_0 80 y80_24) 83 y83_24) 84 y84_24) 86 y86_24) 300 y300_24) o ((-306))  t_o (rr (by decide)) (show 0 ≤ (y86_24 o) ∧ (y86_24 o) ≤ 400 from by omega)) mt_X3_emit ml_X3_60 hK hw (cw_rc4 hK hw.1 t_o) hA ⟨Nat.le_of_ble_eq_true rfl, Nat.le_of_ble_eq_true rfl⟩ ⟨Nat.le_of_ble_eq_true rfl, Nat.le_of_ble_eq_true rfl⟩ (As := [.int (J ((-306)))]) (rest := []) rfl rfl hl.1 (Nat.le_of_ble_eq_true rfl) 100 rfl dX3_readCondition_97 (fun v_25 H locs hq25_ hw => ?_)
      obtain ⟨y86_25, y300_25, ev25_, hh25_⟩ := hq25_
      rw [ev25_] at hw; clear ev25_
      have hw : WK D cy T (upV (upV (upV (upV (upV v_0 80 y80_24) 83 y83_24) 84 y84_24) 86 y86_25) 300 y300_25) A0 s.heap H locs := cw_eq hw (by first | rfl | (funext j_; simp only [upV, reduceIte]; (repeat' split) <;> first | rfl | omega | (subst_vars; rfl)))
      have hh25_ : (0 ≤ (y86_25 o) ∧ (y86_25 o) ≤ 400) ∧ Ro_ (y300_24) (y300_25) (T 85 o) := hh25_
      have ro_ := hh25_.2
      refine j_goto E 126 dX3_readCondition_100 (by decide) ?_
      exact hret 126 (upV (upV (upV (upV (upV v_0 80 y80_24) 83 y83_24) 84 y84_24) 86 y86_25) 300 y300_25) _ _ ls hw ⟨y80_24, y83_24, y84_24, y86_25, y300_25, rfl, by first | exact ⟨by omega, Ro_rf, ck_deep rfl hp2 (by omega) rfl r_.1 r_.2⟩ | exact ⟨by omega, b_.2.1, ck_bra (by omega) hp2 (by omega) b_.2.2 t_ (fun q_ => (RK_lt hp1 (ck_k b_.2.2 q_)).2)⟩ | exact ⟨by omega, Ro_tr n_.2.1 ro_, ck_not (by omega) hp2 (by omega) n_.2.2⟩ | exact ⟨by omega, Ro_tr e1_.2.1 (Ro_tr e2_.2.1 ro_), ck_cmp hp2 (by omega) (by omega) e1_.2.2 t_ e2_.2.2⟩⟩ dX3_readCondition_126
set_option maxHeartbeats 4000000 in
set_option maxRecDepth 100000 in
theorem c_X3_readConditions_n3 (l : Launch) (D : va_G) (cy : Nat → ClassId) (T : Nat → Nat → Nat) (v_0 : Nat → Nat → Int) (κ : Nat → Nat → Nat) (o : Nat) (K_ : Int → Int) (V_ : Int → Int) (hO : ∀ x, ow T x → κ 2 2 ≤ x) (t_o : T 0 o = 4) (hp0 : 0 ≤ (v_0 86 o) ∧ (v_0 86 o) ≤ 400) (hp1 : RK_ (v_0 300) (T 120 (T 82 o)) (T 121 (T 82 o)) ((v_0 123 (T 82 o))) K_ V_) (hp2 : Cs_ K_ ((v_0 83 o)) ((v_0 84 o)) ((v_0 80 o))) : KZ l D cy κ T yX3_readConditions cX3_readConditions 5 none 16 [.ref o, .int (J 3)] v_0 (KV (fun (v_2 : Nat → Nat → Int) => ∃ (y80_2 : Nat → Int) (y83_2 : Nat → Int) (y84_2 : Nat → Int) (y86_2 : Nat → Int) (y300_2 : Nat → Int) , v_2 = upV (upV (upV (upV (upV v_0 80 y80_2) 83 y83_2) 84 y84_2) 86 y86_2) 300 y300_2 ∧ ((0 ≤ (y86_2 o) ∧ (y86_2 o) ≤ 400) ∧ Ro_ (v_0 300) (y300_2) (T 85 o) ∧ Ck_ S4_ (3 : Int) (NA_ K_) K_ V_ ((v_0 83 o)) ((v_0 80 o)) ((y83_2 o)) ((y84_2 o)) ((y80_2 o))))) := by
  refine KZ.ofv (by decide) (Nat.le_of_ble_eq_true rfl) hO ?_
  intro p e s m below meth c ls ar QW A0 H locs E hK hZ hA hAc hw hl hret
  have hl : lv_has ls 5 [(0, .ref o), (1, .int (J 3))] := hl
  have hT : WT T := hw.1.2.1
  have nk_ : T 120 (T 82 o) ≠ T 85 o := ro_ne (wo_120 hT (wt_82 hT t_o)) (wo_85 hT t_o) (by decide) (by decide) (by omega)
  have nv_ : T 121 (T 82 o) ≠ T 85 o := ro_ne (wo_121 hT (wt_82 hT t_o)) (wo_85 hT t_o) (by decide) (by decide) (by omega)
  have c0_ := hp2.1
  refine j_aload_n E 1 rfl dX3_readConditions_0 rfl (lv_at hl 0 rfl) ?_
  refine j_iload_n E 2 rfl dX3_readConditions_1 rfl (lv_at hl 1 rfl) ?_
  refine zV_v E (c_X3_readCondition_n3 l D cy T (v_0) κ o K_ V_ hO t_o  (show 0 ≤ ((v_0 86) o) ∧ ((v_0 86) o) ≤ 400 from by omega) (show RK_ (v_0 300) (T 120 (T 82 o)) (T 121 (T 82 o)) (((v_0 123) (T 82 o))) K_ V_ from hp1) (show Cs_ K_ (((v_0 83) o)) (((v_0 84) o)) (((v_0 80) o)) from hp2)) mt_X3_readCondition ml_X3_85 hK hZ hAc hw (cw_rc4 hK hw.1 t_o) hA ⟨Nat.le_of_ble_eq_true rfl, Nat.le_of_ble_eq_true rfl⟩ ⟨Nat.le_of_ble_eq_true rfl, Nat.le_of_ble_eq_true rfl⟩ (As := [.int (J 3)]) (rest := []) rfl rfl hl.1 (Nat.le_of_ble_eq_true rfl) 5 rfl dX3_readConditions_2 (fun v_1 H locs hq1_ hw => ?_)
  obtain ⟨y80_1, y83_1, y84_1, y86_1, y300_1, ev1_, hh1_⟩ := hq1_
  rw [ev1_] at hw; clear ev1_
  have hw : WK D cy T (upV (upV (upV (upV (upV v_0 80 y80_1) 83 y83_1) 84 y84_1) 86 y86_1) 300 y300_1) A0 s.heap H locs := cw_eq hw (by first | rfl | (funext j_; simp only [upV, reduceIte]; (repeat' split) <;> first | rfl | omega | (subst_vars; rfl)))
  have hh1_ : (0 ≤ (y86_1 o) ∧ (y86_1 o) ≤ 400) ∧ Ro_ (v_0 300) (y300_1) (T 85 o) ∧ Ck_ S3_ (3 : Int) TX_ K_ V_ (((v_0 83) o)) (((v_0 80) o)) ((y83_1 o)) ((y84_1 o)) ((y80_1 o)) := hh1_
  have u0_ := hh1_
  refine j_iconst E 6 rfl dX3_readConditions_5 ?_
  refine j_istore_n E 7 rfl [(2, .int (J 0)), (0, .ref o), (1, .int (J 3))] dX3_readConditions_6 rfl hl (by decide) rfl (fun ls hl => ?_)
  refine j_iconst E 8 rfl dX3_readConditions_7 ?_
  refine j_istore_n E 9 rfl [(3, .int (J 0)), (2, .int (J 0)), (0, .ref o), (1, .int (J 3))] dX3_readConditions_8 rfl hl (by decide) rfl (fun ls hl => ?_)
  have L9_2 : ∀ (k9 : Nat) (l2_9 l3_9 : Int) (y80_c9 : Nat → Int) (y83_c9 : Nat → Int) (y84_c9 : Nat → Int) (y86_c9 : Nat → Int) (y300_c9 : Nat → Int) (H : Heap) (locs : List Loc) (ls : Array Slot), inR l2_9 → inR l3_9 → ((0 ≤ (y86_c9 o) ∧ (y86_c9 o) ≤ 400) ∧ (Ro_ (v_0 300) (y300_c9) (T 85 o)) ∧ 0 ≤ l3_9 ∧ Co_ (3 : Int) {K_} {V_} (v_0 83 o) (v_0 80 o) l2_9 l3_9 ((y83_c9 o)) ((y84_c9 o)) ((y80_c9 o))) → (400 - l3_9).toNat < k9 → WK D cy T (upV (upV (upV (upV (upV v_0 80 y80_c9) 83 y83_c9) 84 y84_c9) 86 y86_c9) 300 y300_c9) A0 s.heap H locs → lv_has ls 5 [(0, .ref o), (1, .int (J 3)), (2, .int (J l2_9)), (3, .int (J l3_9))] → W p l e (rmd 16 0 0) s m ar below meth c H locs 0 0 QW (F0 m 9 ls []) := by
    intro k9
    induction k9 with
    | zero =>
      intro l2_9 l3_9 y80_c9 y83_c9 y84_c9 y86_c9 y300_c9 H locs ls r_l2_9 r_l3_9 iv9 ms9 hw hl
      exact absurd ms9 (Nat.not_lt_zero _)
    | succ k9 ih9 =>
      intro l2_9 l3_9 y80_c9 y83_c9 y84_c9 y86_c9 y300_c9 H locs ls r_l2_9 r_l3_9 iv9 ms9 hw hl
      have cs1_ := Co_cs hp2 iv9.2.2.2
      unfold Cs_ at cs1_
      have L111_4 : ∀ (H : Heap) (locs : List Loc) (ls : Array Slot), (¬ ((y84_c9 o) = 305 ∨ (y84_c9 o) = 304)) → WK D cy T (upV (upV (upV (upV (upV v_0 80 y80_c9) 83 y83_c9) 84 y84_c9) 86 y86_c9) 300 y300_c9) A0 s.heap H locs → lv_has ls 5 [(0, .ref o), (1, .int (J 3)), (2, .int (J l2_9)), (3, .int (J l3_9))] → W p l e (rmd 16 0 0) s m ar below meth c H locs 0 0 QW (F0 m 111 ls []) := by
        intro H locs ls iv111 hw hl
        refine j_iload_n E 112 rfl dX3_readConditions_111 rfl (lv_at hl 2 rfl) ?_
        refine j_if_eq E 115 122 rfl r_l2_9 dX3_readConditions_112 (by decide) (fun cc6_ => ?_) (fun cc6_ => ?_)
        · exact hret 122 (upV (upV (upV (upV (upV v_0 80 y80_c9) 83 y83_c9) 84 y84_c9) 86 y86_c9) 300 y300_c9) _ _ ls hw ⟨y80_c9, y83_c9, y84_c9, y86_c9, y300_c9, rfl, by first | exact ⟨by omega, Ro_tr iv9.2.1 roe_, Co_end iv9.2.2.2 iv111 (by omega)⟩ | exact ⟨by omega, iv9.2.1, Co_end iv9.2.2.2 iv111 (by omega)⟩⟩ dX3_readConditions_122
        · refine j_aload_n E 116 rfl dX3_readConditions_115 rfl (lv_at hl 0 rfl) ?_
          refine j_sipush E 119 rfl dX3_readConditions_116 (by decide) ?_
          refine kV_v E (c_X3_emit l D cy T (upV (upV (upV (upV (upV v_0 80 y80_c9) 83 y83_c9) 84 y84_c9) 86 y86_c9) 300 y300_c9) o ((-304))  t_o (rr (by decide)) (show 0 ≤ (y86_c9 o) ∧ (y86_c9 o) ≤ 400 from by omega)) mt_X3_emit ml_X3_60 hK hw (cw_rc4 hK hw.1 t_o) hA ⟨Nat.le_of_ble_eq_true rfl, Nat.le_of_ble_eq_true rfl⟩ ⟨Nat.le_of_ble_eq_true rfl, Nat.le_of_ble_eq_true rfl⟩ (As := [.int (J ((-304)))]) (rest := []) rfl rfl hl.1 (Nat.le_of_ble_eq_true rfl) 122 rfl dX3_readConditions_119 (fun v_7 H locs hq7_ hw => ?_)
          obtain ⟨y86_7, y300_7, ev7_, hh7_⟩ := hq7_
          rw [ev7_] at hw; clear ev7_
          have hw : WK D cy T (upV (upV (upV (upV (upV v_0 80 y80_c9) 83 y83_c9) 84 y84_c9) 86 y86_7) 300 y300_7) A0 s.heap H locs := cw_eq hw (by first | rfl | (funext j_; simp only [upV, reduceIte]; (repeat' split) <;> first | rfl | omega | (subst_vars; rfl)))
          have hh7_ : (0 ≤ (y86_7 o) ∧ (y86_7 o) ≤ 400) ∧ Ro_ (y300_c9) (y300_7) (T 85 o) := hh7_
          have roe_ := hh7_.2
          exact hret 122 (upV (upV (upV (upV (upV v_0 80 y80_c9) 83 y83_c9) 84 y84_c9) 86 y86_7) 300 y300_7) _ _ ls hw ⟨y80_c9, y83_c9, y84_c9, y86_7, y300_7, rfl, by first | exact ⟨by omega, Ro_tr iv9.2.1 roe_, Co_end iv9.2.2.2 iv111 (by omega)⟩ | exact ⟨by omega, iv9.2.1, Co_end iv9.2.2.2 iv111 (by omega)⟩⟩ dX3_readConditions_122
      refine j_iload_n E 10 rfl dX3_readConditions_9 rfl (lv_at hl 3 rfl) ?_
      refine j_sipush E 13 rfl dX3_readConditions_10 (by decide) ?_
      refine j_icmp_ge E 16 111 rfl r_l3_9 (rr (by decide)) dX3_readConditions_13 (by decide) (fun cc8_ => ?_) (fun cc8_ => ?_)
      · exact L111_4   H locs ls  (by first | omega | exact Co_i iv9.2.2.2 (by omega) (by omega)) hw (lv_sub hl [0, 1, 2, 3] rfl)
      · refine j_aload_n E 17 rfl dX3_readConditions_16 rfl (lv_at hl 0 rfl) ?_
        refine g_84 E hK hw fl_X3_30 t_o (y84_c9 o) rfl 20 rfl dX3_readConditions_17 (fun rr9_ => ?_)
        refine j_sipush E 23 rfl dX3_readConditions_20 (by decide) ?_
        refine j_icmp_eq E 26 36 rfl rr9_ (rr (by decide)) dX3_readConditions_23 (by decide) (fun cc10_ => ?_) (fun cc10_ => ?_)
        · have L51_11 : ∀ (s0_51 : Int) (H : Heap) (locs : List Loc) (ls : Array Slot), inR s0_51 → ((s0_51 = 1 ∧ (y84_c9 o) = 305) ∨ (s0_51 = 0 ∧ (y84_c9 o) = 304)) → WK D cy T (upV (upV (upV (upV (upV v_0 80 y80_c9) 83 y83_c9) 84 y84_c9) 86 y86_c9) 300 y300_c9) A0 s.heap H locs → lv_has ls 5 [(0, .ref o), (1, .int (J 3)), (2, .int (J l2_9)), (3, .int (J l3_9))] → W p l e (rmd 16 0 0) s m ar below meth c H locs 0 0 QW (F0 m 51 ls [.int (J s0_51)]) := by
            intro s0_51 H locs ls r_s0_51 iv51 hw hl
            refine j_istore E 53 rfl [(4, .int (J s0_51)), (0, .ref o), (1, .int (J 3)), (2, .int (J l2_9)), (3, .int (J l3_9))] dX3_readConditions_51 hl (by decide) rfl (fun ls hl => ?_)
            have L69_13 : ∀ (y86_c69 : Nat → Int) (y300_c69 : Nat → Int) (H : Heap) (locs : List Loc) (ls : Array Slot), ((0 ≤ (y86_c69 o) ∧ (y86_c69 o) ≤ 400) ∧ Ro_ (v_0 300) (y300_c69) (T 85 o)) → WK D cy T (upV (upV (upV (upV (upV v_0 80 y80_c9) 83 y83_c9) 84 y84_c9) 86 y86_c69) 300 y300_c69) A0 s.heap H locs → lv_has ls 5 [(0, .ref o), (1, .int (J 3)), (2, .int (J l2_9)), (3, .int (J l3_9)), (4, .int (J s0_51))] → W p l e (rmd 16 0 0) s m ar below meth c H locs 0 0 QW (F0 m 69 ls []) := by
              intro y86_c69 y300_c69 H locs ls iv69 hw hl
              refine j_aload_n E 70 rfl dX3_readConditions_69 rfl (lv_at hl 0 rfl) ?_
              refine zV_v E (c_X3_step l D cy T (upV (upV (upV (upV (upV v_0 80 y80_c9) 83 y83_c9) 84 y84_c9) 86 y86_c69) 300 y300_c69) κ o K_ V_ hO t_o  (show RK_ (y300_c69) (T 120 (T 82 o)) (T 121 (T 82 o)) (((v_0 123) (T 82 o))) K_ V_ from RK_ro hp1 iv69.2 nk_ nv_) (show 0 ≤ (y83_c9 o) ∧ (y83_c9 o) < 400 from by have q_ := RK_lt hp1 (j := (y83_c9 o)) (by omega); omega)) mt_X3_step ml_X3_54 hK hZ hAc hw (cw_rc4 hK hw.1 t_o) hA ⟨Nat.le_of_ble_eq_true rfl, Nat.le_of_ble_eq_true rfl⟩ ⟨Nat.le_of_ble_eq_true rfl, Nat.le_of_ble_eq_true rfl⟩ (As := []) (rest := []) rfl rfl hl.1 (Nat.le_of_ble_eq_true rfl) 73 rfl dX3_readConditions_70 (fun v_15 H locs hq15_ hw => ?_)
              obtain ⟨y83_15, y84_15, ev15_, hh15_⟩ := hq15_
              rw [ev15_] at hw; clear ev15_
              have hw : WK D cy T (upV (upV (upV (upV (upV v_0 80 y80_c9) 83 y83_15) 84 y84_15) 86 y86_c69) 300 y300_c69) A0 s.heap H locs := cw_eq hw (by first | rfl | (funext j_; simp only [upV, reduceIte]; (repeat' split) <;> first | rfl | omega | (subst_vars; rfl)))
              have hh15_ : (y83_15 o) = (y83_c9 o) + 1 ∧ (y84_15 o) = K_ ((y83_c9 o) + 1) := hh15_
              have s_ := hh15_
              refine j_aload_n E 74 rfl dX3_readConditions_73 rfl (lv_at hl 0 rfl) ?_
              refine j_iload_n E 75 rfl dX3_readConditions_74 rfl (lv_at hl 1 rfl) ?_
              refine zV_v E (c_X3_readCondition_n3 l D cy T (upV (upV (upV (upV (upV v_0 80 y80_c9) 83 y83_15) 84 y84_15) 86 y86_c69) 300 y300_c69) κ o K_ V_ hO t_o  (show 0 ≤ (y86_c69 o) ∧ (y86_c69 o) ≤ 400 from by omega) (show RK_ (y300_c69) (T 120 (T 82 o)) (T 121 (T 82 o)) (((v_0 123) (T 82 o))) K_ V_ from RK_ro hp1 iv69.2 nk_ nv_) (show Cs_ K_ ((y83_15 o)) ((y84_15 o)) ((y80_c9 o)) from Cs_st (Co_cs hp2 iv9.2.2.2) (by omega) s_.1 s_.2 (by omega))) mt_X3_readCondition ml_X3_85 hK hZ hAc hw (cw_rc4 hK hw.1 t_o) hA ⟨Nat.le_of_ble_eq_true rfl, Nat.le_of_ble_eq_true rfl⟩ ⟨Nat.le_of_ble_eq_true rfl, Nat.le_of_ble_eq_true rfl⟩ (As := [.int (J 3)]) (rest := []) rfl rfl hl.1 (Nat.le_of_ble_eq_true rfl) 78 rfl dX3_readConditions_75 (fun v_16 H locs hq16_ hw => ?_)
              obtain ⟨y80_16, y83_16, y84_16, y86_16, y300_16, ev16_, hh16_⟩ := hq16_
              rw [ev16_] at hw; clear ev16_
              have hw : WK D cy T (upV (upV (upV (upV (upV v_0 80 y80_16) 83 y83_16) 84 y84_16) 86 y86_16) 300 y300_16) A0 s.heap H locs := cw_eq hw (by first | rfl | (funext j_; simp only [upV, reduceIte]; (repeat' split) <;> first | rfl | omega | (subst_vars; rfl)))
              have hh16_ : (0 ≤ (y86_16 o) ∧ (y86_16 o) ≤ 400) ∧ Ro_ (y300_c69) (y300_16) (T 85 o) ∧ Ck_ S3_ (3 : Int) TX_ K_ V_ ((y83_15 o)) ((y80_c9 o)) ((y83_16 o)) ((y84_16 o)) ((y80_16 o)) := hh16_
              have u_ := hh16_
              rw [s_.1] at u_
              refine j_iload E 80 rfl dX3_readConditions_78 (lv_at hl 4 rfl) ?_
              refine j_if_eq E 83 90 rfl r_s0_51 dX3_readConditions_80 (by decide) (fun cc17_ => ?_) (fun cc17_ => ?_)
              · have L104_18 : ∀ (s0_104 : Int) (H : Heap) (locs : List Loc) (ls : Array Slot), inR s0_104 → (((l2_9 ≠ 0 ∨ s0_51 = 0) ∧ s0_104 = 1) ∨ (l2_9 = 0 ∧ s0_51 ≠ 0 ∧ s0_104 = 0)) → WK D cy T (upV (upV (upV (upV (upV v_0 80 y80_16) 83 y83_16) 84 y84_16) 86 y86_16) 300 y300_16) A0 s.heap H locs → lv_has ls 5 [(0, .ref o), (1, .int (J 3)), (2, .int (J l2_9)), (3, .int (J l3_9)), (4, .int (J s0_51))] → W p l e (rmd 16 0 0) s m ar below meth c H locs 0 0 QW (F0 m 104 ls [.int (J s0_104)]) := by
                  intro s0_104 H locs ls r_s0_104 iv104 hw hl
                  refine j_istore_n E 105 rfl [(2, .int (J s0_104)), (0, .ref o), (1, .int (J 3)), (3, .int (J l3_9)), (4, .int (J s0_51))] dX3_readConditions_104 rfl hl (by decide) rfl (fun ls hl => ?_)
                  refine j_iinc E 108 rfl [(3, .int (J (l3_9 + 1))), (2, .int (J s0_104)), (0, .ref o), (1, .int (J 3)), (4, .int (J s0_51))] dX3_readConditions_105 hl (kk := 3) rfl (by decide) rfl (fun ls hl => ?_)
                  refine j_goto E 9 dX3_readConditions_108 (by decide) ?_
                  exact ih9 s0_104 (l3_9 + 1) y80_16 y83_16 y84_16 y86_16 y300_16 H locs ls r_s0_104 (rr (by omega)) (by first | exact ⟨by omega, Ro_tr iv69.2 (Ro_tr u_.2.1 ro9_), by omega, by rw [show s0_104 = l2_9 by omega]; exact Co_and iv9.2.2.2 (by omega) u_.2.2⟩ | exact ⟨by omega, Ro_tr iv69.2 u_.2.1, by omega, by rw [show s0_104 = 1 by omega]; exact Co_or iv9.2.2.2 (by omega) u_.2.2⟩ | (exfalso; omega)) (by omega) hw (lv_sub hl [2, 3, 1, 0] rfl)
                refine j_iload_n E 91 rfl dX3_readConditions_90 rfl (lv_at hl 2 rfl) ?_
                refine j_if_ne E 94 99 rfl r_l2_9 dX3_readConditions_91 (by decide) (fun cc20_ => ?_) (fun cc20_ => ?_)
                · refine j_iconst E 100 rfl dX3_readConditions_99 ?_
                  refine j_goto E 104 dX3_readConditions_100 (by decide) ?_
                  exact L104_18 1  H locs ls (rr (by decide)) (by omega) hw (lv_sub hl [0, 1, 2, 3, 4] rfl)
                · refine j_iload E 96 rfl dX3_readConditions_94 (lv_at hl 4 rfl) ?_
                  refine j_if_ne E 99 103 rfl r_s0_51 dX3_readConditions_96 (by decide) (fun cc21_ => ?_) (fun cc21_ => ?_)
                  · exfalso; omega
                  refine j_iconst E 100 rfl dX3_readConditions_99 ?_
                  refine j_goto E 104 dX3_readConditions_100 (by decide) ?_
                  exact L104_18 1  H locs ls (rr (by decide)) (by omega) hw (lv_sub hl [0, 1, 2, 3, 4] rfl)
              · refine j_aload_n E 84 rfl dX3_readConditions_83 rfl (lv_at hl 0 rfl) ?_
                refine j_sipush E 87 rfl dX3_readConditions_84 (by decide) ?_
                refine kV_v E (c_X3_emit l D cy T (upV (upV (upV (upV (upV v_0 80 y80_16) 83 y83_16) 84 y84_16) 86 y86_16) 300 y300_16) o ((-305))  t_o (rr (by decide)) (show 0 ≤ (y86_16 o) ∧ (y86_16 o) ≤ 400 from by omega)) mt_X3_emit ml_X3_60 hK hw (cw_rc4 hK hw.1 t_o) hA ⟨Nat.le_of_ble_eq_true rfl, Nat.le_of_ble_eq_true rfl⟩ ⟨Nat.le_of_ble_eq_true rfl, Nat.le_of_ble_eq_true rfl⟩ (As := [.int (J ((-305)))]) (rest := []) rfl rfl hl.1 (Nat.le_of_ble_eq_true rfl) 90 rfl dX3_readConditions_87 (fun v_22 H locs hq22_ hw => ?_)
                obtain ⟨y86_22, y300_22, ev22_, hh22_⟩ := hq22_
                rw [ev22_] at hw; clear ev22_
                have hw : WK D cy T (upV (upV (upV (upV (upV v_0 80 y80_16) 83 y83_16) 84 y84_16) 86 y86_22) 300 y300_22) A0 s.heap H locs := cw_eq hw (by first | rfl | (funext j_; simp only [upV, reduceIte]; (repeat' split) <;> first | rfl | omega | (subst_vars; rfl)))
                have hh22_ : (0 ≤ (y86_22 o) ∧ (y86_22 o) ≤ 400) ∧ Ro_ (y300_16) (y300_22) (T 85 o) := hh22_
                have ro9_ := hh22_.2
                have L104_23 : ∀ (s0_104 : Int) (H : Heap) (locs : List Loc) (ls : Array Slot), inR s0_104 → (((l2_9 ≠ 0 ∨ s0_51 = 0) ∧ s0_104 = 1) ∨ (l2_9 = 0 ∧ s0_51 ≠ 0 ∧ s0_104 = 0)) → WK D cy T (upV (upV (upV (upV (upV v_0 80 y80_16) 83 y83_16) 84 y84_16) 86 y86_22) 300 y300_22) A0 s.heap H locs → lv_has ls 5 [(0, .ref o), (1, .int (J 3)), (2, .int (J l2_9)), (3, .int (J l3_9)), (4, .int (J s0_51))] → W p l e (rmd 16 0 0) s m ar below meth c H locs 0 0 QW (F0 m 104 ls [.int (J s0_104)]) := by
                  intro s0_104 H locs ls r_s0_104 iv104 hw hl
                  refine j_istore_n E 105 rfl [(2, .int (J s0_104)), (0, .ref o), (1, .int (J 3)), (3, .int (J l3_9)), (4, .int (J s0_51))] dX3_readConditions_104 rfl hl (by decide) rfl (fun ls hl => ?_)
                  refine j_iinc E 108 rfl [(3, .int (J (l3_9 + 1))), (2, .int (J s0_104)), (0, .ref o), (1, .int (J 3)), (4, .int (J s0_51))] dX3_readConditions_105 hl (kk := 3) rfl (by decide) rfl (fun ls hl => ?_)
                  refine j_goto E 9 dX3_readConditions_108 (by decide) ?_
                  exact ih9 s0_104 (l3_9 + 1) y80_16 y83_16 y84_16 y86_22 y300_22 H locs ls r_s0_104 (rr (by omega)) (by first | exact ⟨by omega, Ro_tr iv69.2 (Ro_tr u_.2.1 ro9_), by omega, by rw [show s0_104 = l2_9 by omega]; exact Co_and iv9.2.2.2 (by omega) u_.2.2⟩ | exact ⟨by omega, Ro_tr iv69.2 u_.2.1, by omega, by rw [show s0_104 = 1 by omega]; exact Co_or iv9.2.2.2 (by omega) u_.2.2⟩ | (exfalso; omega)) (by omega) hw (lv_sub hl [2, 3, 1, 0] rfl)
                refine j_iload_n E 91 rfl dX3_readConditions_90 rfl (lv_at hl 2 rfl) ?_
                refine j_if_ne E 94 99 rfl r_l2_9 dX3_readConditions_91 (by decide) (fun cc25_ => ?_) (fun cc25_ => ?_)
                · refine j_iconst E 100 rfl dX3_readConditions_99 ?_
                  refine j_goto E 104 dX3_readConditions_100 (by decide) ?_
                  exact L104_23 1  H locs ls (rr (by decide)) (by omega) hw (lv_sub hl [0, 1, 2, 3, 4] rfl)
                · refine j_iload E 96 rfl dX3_readConditions_94 (lv_at hl 4 rfl) ?_
                  refine j_if_ne E 99 103 rfl r_s0_51 dX3_readConditions_96 (by decide) (fun cc26_ => ?_) (fun cc26_ => ?_)
                  rotate_left; · exfalso; omega
                  refine j_iconst E 104 rfl dX3_readConditions_103 ?_
                  exact L104_23 0  H locs ls (rr (by decide)) (by omega) hw (lv_sub hl [0, 1, 2, 3, 4] rfl)
            refine j_iload E 55 rfl dX3_readConditions_53 (lv_at hl 0 rfl) ?_
            refine j_if_ne E 58 69 rfl r_s0_51 dX3_readConditions_55 (by decide) (fun cc27_ => ?_) (fun cc27_ => ?_)
            · exact L69_13  y86_c9 y300_c9 H locs ls  (by first | exact ⟨by omega, iv9.2.1⟩ | exact ⟨by omega, Ro_tr iv9.2.1 ro7_⟩) hw (lv_sub hl [1, 2, 3, 4, 0] rfl)
            · refine j_iload_n E 59 rfl dX3_readConditions_58 rfl (lv_at hl 3 rfl) ?_
              refine j_if_eq E 62 69 rfl r_l2_9 dX3_readConditions_59 (by decide) (fun cc28_ => ?_) (fun cc28_ => ?_)
              · exact L69_13  y86_c9 y300_c9 H locs ls  (by first | exact ⟨by omega, iv9.2.1⟩ | exact ⟨by omega, Ro_tr iv9.2.1 ro7_⟩) hw (lv_sub hl [1, 2, 3, 4, 0] rfl)
              · refine j_aload_n E 63 rfl dX3_readConditions_62 rfl (lv_at hl 1 rfl) ?_
                refine j_sipush E 66 rfl dX3_readConditions_63 (by decide) ?_
                refine kV_v E (c_X3_emit l D cy T (upV (upV (upV (upV (upV v_0 80 y80_c9) 83 y83_c9) 84 y84_c9) 86 y86_c9) 300 y300_c9) o ((-304))  t_o (rr (by decide)) (show 0 ≤ (y86_c9 o) ∧ (y86_c9 o) ≤ 400 from by omega)) mt_X3_emit ml_X3_60 hK hw (cw_rc4 hK hw.1 t_o) hA ⟨Nat.le_of_ble_eq_true rfl, Nat.le_of_ble_eq_true rfl⟩ ⟨Nat.le_of_ble_eq_true rfl, Nat.le_of_ble_eq_true rfl⟩ (As := [.int (J ((-304)))]) (rest := []) rfl rfl hl.1 (Nat.le_of_ble_eq_true rfl) 69 rfl dX3_readConditions_66 (fun v_29 H locs hq29_ hw => ?_)
                obtain ⟨y86_29, y300_29, ev29_, hh29_⟩ := hq29_
                rw [ev29_] at hw; clear ev29_
                have hw : WK D cy T (upV (upV (upV (upV (upV v_0 80 y80_c9) 83 y83_c9) 84 y84_c9) 86 y86_29) 300 y300_29) A0 s.heap H locs := cw_eq hw (by first | rfl | (funext j_; simp only [upV, reduceIte]; (repeat' split) <;> first | rfl | omega | (subst_vars; rfl)))
                have hh29_ : (0 ≤ (y86_29 o) ∧ (y86_29 o) ≤ 400) ∧ Ro_ (y300_c9) (y300_29) (T 85 o) := hh29_
                have ro7_ := hh29_.2
                exact L69_13  y86_29 y300_29 H locs ls  (by first | exact ⟨by omega, iv9.2.1⟩ | exact ⟨by omega, Ro_tr iv9.2.1 ro7_⟩) hw (lv_sub hl [1, 2, 3, 4, 0] rfl)
          refine j_aload_n E 37 rfl dX3_readConditions_36 rfl (lv_at hl 0 rfl) ?_
          refine g_84 E hK hw fl_X3_30 t_o (y84_c9 o) rfl 40 rfl dX3_readConditions_37 (fun _ => ?_)
          refine j_sipush E 43 rfl dX3_readConditions_40 (by decide) ?_
          refine j_icmp_ne E 46 50 rfl rr9_ (rr (by decide)) dX3_readConditions_43 (by decide) (fun cc30_ => ?_) (fun cc30_ => ?_)
          · exfalso; omega
          refine j_iconst E 47 rfl dX3_readConditions_46 ?_
          refine j_goto E 51 dX3_readConditions_47 (by decide) ?_
          exact L51_11 1  H locs ls (rr (by decide)) (by omega) hw (lv_sub hl [0, 1, 2, 3] rfl)
        · refine j_aload_n E 27 rfl dX3_readConditions_26 rfl (lv_at hl 0 rfl) ?_
          refine g_84 E hK hw fl_X3_30 t_o (y84_c9 o) rfl 30 rfl dX3_readConditions_27 (fun _ => ?_)
          refine j_sipush E 33 rfl dX3_readConditions_30 (by decide) ?_
          refine j_icmp_ne E 36 111 rfl rr9_ (rr (by decide)) dX3_readConditions_33 (by decide) (fun cc31_ => ?_) (fun cc31_ => ?_)
          · exact L111_4   H locs ls  (by first | omega | exact Co_i iv9.2.2.2 (by omega) (by omega)) hw (lv_sub hl [0, 1, 2, 3] rfl)
          · have L51_32 : ∀ (s0_51 : Int) (H : Heap) (locs : List Loc) (ls : Array Slot), inR s0_51 → ((s0_51 = 1 ∧ (y84_c9 o) = 305) ∨ (s0_51 = 0 ∧ (y84_c9 o) = 304)) → WK D cy T (upV (upV (upV (upV (upV v_0 80 y80_c9) 83 y83_c9) 84 y84_c9) 86 y86_c9) 300 y300_c9) A0 s.heap H locs → lv_has ls 5 [(0, .ref o), (1, .int (J 3)), (2, .int (J l2_9)), (3, .int (J l3_9))] → W p l e (rmd 16 0 0) s m ar below meth c H locs 0 0 QW (F0 m 51 ls [.int (J s0_51)]) := by
              intro s0_51 H locs ls r_s0_51 iv51 hw hl
              refine j_istore E 53 rfl [(4, .int (J s0_51)), (0, .ref o), (1, .int (J 3)), (2, .int (J l2_9)), (3, .int (J l3_9))] dX3_readConditions_51 hl (by decide) rfl (fun ls hl => ?_)
              have L69_34 : ∀ (y86_c69 : Nat → Int) (y300_c69 : Nat → Int) (H : Heap) (locs : List Loc) (ls : Array Slot), ((0 ≤ (y86_c69 o) ∧ (y86_c69 o) ≤ 400) ∧ Ro_ (v_0 300) (y300_c69) (T 85 o)) → WK D cy T (upV (upV (upV (upV (upV v_0 80 y80_c9) 83 y83_c9) 84 y84_c9) 86 y86_c69) 300 y300_c69) A0 s.heap H locs → lv_has ls 5 [(0, .ref o), (1, .int (J 3)), (2, .int (J l2_9)), (3, .int (J l3_9)), (4, .int (J s0_51))] → W p l e (rmd 16 0 0) s m ar below meth c H locs 0 0 QW (F0 m 69 ls []) := by
                intro y86_c69 y300_c69 H locs ls iv69 hw hl
                refine j_aload_n E 70 rfl dX3_readConditions_69 rfl (lv_at hl 0 rfl) ?_
                refine zV_v E (c_X3_step l D cy T (upV (upV (upV (upV (upV v_0 80 y80_c9) 83 y83_c9) 84 y84_c9) 86 y86_c69) 300 y300_c69) κ o K_ V_ hO t_o  (show RK_ (y300_c69) (T 120 (T 82 o)) (T 121 (T 82 o)) (((v_0 123) (T 82 o))) K_ V_ from RK_ro hp1 iv69.2 nk_ nv_) (show 0 ≤ (y83_c9 o) ∧ (y83_c9 o) < 400 from by have q_ := RK_lt hp1 (j := (y83_c9 o)) (by omega); omega)) mt_X3_step ml_X3_54 hK hZ hAc hw (cw_rc4 hK hw.1 t_o) hA ⟨Nat.le_of_ble_eq_true rfl, Nat.le_of_ble_eq_true rfl⟩ ⟨Nat.le_of_ble_eq_true rfl, Nat.le_of_ble_eq_true rfl⟩ (As := []) (rest := []) rfl rfl hl.1 (Nat.le_of_ble_eq_true rfl) 73 rfl dX3_readConditions_70 (fun v_36 H locs hq36_ hw => ?_)
                obtain ⟨y83_36, y84_36, ev36_, hh36_⟩ := hq36_
                rw [ev36_] at hw; clear ev36_
                have hw : WK D cy T (upV (upV (upV (upV (upV v_0 80 y80_c9) 83 y83_36) 84 y84_36) 86 y86_c69) 300 y300_c69) A0 s.heap H locs := cw_eq hw (by first | rfl | (funext j_; simp only [upV, reduceIte]; (repeat' split) <;> first | rfl | omega | (subst_vars; rfl)))
                have hh36_ : (y83_36 o) = (y83_c9 o) + 1 ∧ (y84_36 o) = K_ ((y83_c9 o) + 1) := hh36_
                have s_ := hh36_
                refine j_aload_n E 74 rfl dX3_readConditions_73 rfl (lv_at hl 0 rfl) ?_
                refine j_iload_n E 75 rfl dX3_readConditions_74 rfl (lv_at hl 1 rfl) ?_
                refine zV_v E (c_X3_readCondition_n3 l D cy T (upV (upV (upV (upV (upV v_0 80 y80_c9) 83 y83_36) 84 y84_36) 86 y86_c69) 300 y300_c69) κ o K_ V_ hO t_o  (show 0 ≤ (y86_c69 o) ∧ (y86_c69 o) ≤ 400 from by omega) (show RK_ (y300_c69) (T 120 (T 82 o)) (T 121 (T 82 o)) (((v_0 123) (T 82 o))) K_ V_ from RK_ro hp1 iv69.2 nk_ nv_) (show Cs_ K_ ((y83_36 o)) ((y84_36 o)) ((y80_c9 o)) from Cs_st (Co_cs hp2 iv9.2.2.2) (by omega) s_.1 s_.2 (by omega))) mt_X3_readCondition ml_X3_85 hK hZ hAc hw (cw_rc4 hK hw.1 t_o) hA ⟨Nat.le_of_ble_eq_true rfl, Nat.le_of_ble_eq_true rfl⟩ ⟨Nat.le_of_ble_eq_true rfl, Nat.le_of_ble_eq_true rfl⟩ (As := [.int (J 3)]) (rest := []) rfl rfl hl.1 (Nat.le_of_ble_eq_true rfl) 78 rfl dX3_readConditions_75 (fun v_37 H locs hq37_ hw => ?_)
                obtain ⟨y80_37, y83_37, y84_37, y86_37, y300_37, ev37_, hh37_⟩ := hq37_
                rw [ev37_] at hw; clear ev37_
                have hw : WK D cy T (upV (upV (upV (upV (upV v_0 80 y80_37) 83 y83_37) 84 y84_37) 86 y86_37) 300 y300_37) A0 s.heap H locs := cw_eq hw (by first | rfl | (funext j_; simp only [upV, reduceIte]; (repeat' split) <;> first | rfl | omega | (subst_vars; rfl)))
                have hh37_ : (0 ≤ (y86_37 o) ∧ (y86_37 o) ≤ 400) ∧ Ro_ (y300_c69) (y300_37) (T 85 o) ∧ Ck_ S3_ (3 : Int) TX_ K_ V_ ((y83_36 o)) ((y80_c9 o)) ((y83_37 o)) ((y84_37 o)) ((y80_37 o)) := hh37_
                have u_ := hh37_
                rw [s_.1] at u_
                refine j_iload E 80 rfl dX3_readConditions_78 (lv_at hl 4 rfl) ?_
                refine j_if_eq E 83 90 rfl r_s0_51 dX3_readConditions_80 (by decide) (fun cc38_ => ?_) (fun cc38_ => ?_)
                · have L104_39 : ∀ (s0_104 : Int) (H : Heap) (locs : List Loc) (ls : Array Slot), inR s0_104 → (((l2_9 ≠ 0 ∨ s0_51 = 0) ∧ s0_104 = 1) ∨ (l2_9 = 0 ∧ s0_51 ≠ 0 ∧ s0_104 = 0)) → WK D cy T (upV (upV (upV (upV (upV v_0 80 y80_37) 83 y83_37) 84 y84_37) 86 y86_37) 300 y300_37) A0 s.heap H locs → lv_has ls 5 [(0, .ref o), (1, .int (J 3)), (2, .int (J l2_9)), (3, .int (J l3_9)), (4, .int (J s0_51))] → W p l e (rmd 16 0 0) s m ar below meth c H locs 0 0 QW (F0 m 104 ls [.int (J s0_104)]) := by
                    intro s0_104 H locs ls r_s0_104 iv104 hw hl
                    refine j_istore_n E 105 rfl [(2, .int (J s0_104)), (0, .ref o), (1, .int (J 3)), (3, .int (J l3_9)), (4, .int (J s0_51))] dX3_readConditions_104 rfl hl (by decide) rfl (fun ls hl => ?_)
                    refine j_iinc E 108 rfl [(3, .int (J (l3_9 + 1))), (2, .int (J s0_104)), (0, .ref o), (1, .int (J 3)), (4, .int (J s0_51))] dX3_readConditions_105 hl (kk := 3) rfl (by decide) rfl (fun ls hl => ?_)
                    refine j_goto E 9 dX3_readConditions_108 (by decide) ?_
                    exact ih9 s0_104 (l3_9 + 1) y80_37 y83_37 y84_37 y86_37 y300_37 H locs ls r_s0_104 (rr (by omega)) (by first | exact ⟨by omega, Ro_tr iv69.2 (Ro_tr u_.2.1 ro9_), by omega, by rw [show s0_104 = l2_9 by omega]; exact Co_and iv9.2.2.2 (by omega) u_.2.2⟩ | exact ⟨by omega, Ro_tr iv69.2 u_.2.1, by omega, by rw [show s0_104 = 1 by omega]; exact Co_or iv9.2.2.2 (by omega) u_.2.2⟩ | (exfalso; omega)) (by omega) hw (lv_sub hl [2, 3, 1, 0] rfl)
                  refine j_iload_n E 91 rfl dX3_readConditions_90 rfl (lv_at hl 2 rfl) ?_
                  refine j_if_ne E 94 99 rfl r_l2_9 dX3_readConditions_91 (by decide) (fun cc41_ => ?_) (fun cc41_ => ?_)
                  · refine j_iconst E 100 rfl dX3_readConditions_99 ?_
                    refine j_goto E 104 dX3_readConditions_100 (by decide) ?_
                    exact L104_39 1  H locs ls (rr (by decide)) (by omega) hw (lv_sub hl [0, 1, 2, 3, 4] rfl)
                  · refine j_iload E 96 rfl dX3_readConditions_94 (lv_at hl 4 rfl) ?_
                    refine j_if_ne E 99 103 rfl r_s0_51 dX3_readConditions_96 (by decide) (fun cc42_ => ?_) (fun cc42_ => ?_)
                    · exfalso; omega
                    refine j_iconst E 100 rfl dX3_readConditions_99 ?_
                    refine j_goto E 104 dX3_readConditions_100 (by decide) ?_
                    exact L104_39 1  H locs ls (rr (by decide)) (by omega) hw (lv_sub hl [0, 1, 2, 3, 4] rfl)
                · refine j_aload_n E 84 rfl dX3_readConditions_83 rfl (lv_at hl 0 rfl) ?_
                  refine j_sipush E 87 rfl dX3_readConditions_84 (by decide) ?_
                  refine kV_v E (c_X3_emit l D cy T (upV (upV (upV (upV (upV v_0 80 y80_37) 83 y83_37) 84 y84_37) 86 y86_37) 300 y300_37) o ((-305))  t_o (rr (by decide)) (show 0 ≤ (y86_37 o) ∧ (y86_37 o) ≤ 400 from by omega)) mt_X3_emit ml_X3_60 hK hw (cw_rc4 hK hw.1 t_o) hA ⟨Nat.le_of_ble_eq_true rfl, Nat.le_of_ble_eq_true rfl⟩ ⟨Nat.le_of_ble_eq_true rfl, Nat.le_of_ble_eq_true rfl⟩ (As := [.int (J ((-305)))]) (rest := []) rfl rfl hl.1 (Nat.le_of_ble_eq_true rfl) 90 rfl dX3_readConditions_87 (fun v_43 H locs hq43_ hw => ?_)
                  obtain ⟨y86_43, y300_43, ev43_, hh43_⟩ := hq43_
                  rw [ev43_] at hw; clear ev43_
                  have hw : WK D cy T (upV (upV (upV (upV (upV v_0 80 y80_37) 83 y83_37) 84 y84_37) 86 y86_43) 300 y300_43) A0 s.heap H locs := cw_eq hw (by first | rfl | (funext j_; simp only [upV, reduceIte]; (repeat' split) <;> first | rfl | omega | (subst_vars; rfl)))
                  have hh43_ : (0 ≤ (y86_43 o) ∧ (y86_43 o) ≤ 400) ∧ Ro_ (y300_37) (y300_43) (T 85 o) := hh43_
                  have ro9_ := hh43_.2
                  have L104_44 : ∀ (s0_104 : Int) (H : Heap) (locs : List Loc) (ls : Array Slot), inR s0_104 → (((l2_9 ≠ 0 ∨ s0_51 = 0) ∧ s0_104 = 1) ∨ (l2_9 = 0 ∧ s0_51 ≠ 0 ∧ s0_104 = 0)) → WK D cy T (upV (upV (upV (upV (upV v_0 80 y80_37) 83 y83_37) 84 y84_37) 86 y86_43) 300 y300_43) A0 s.heap H locs → lv_has ls 5 [(0, .ref o), (1, .int (J 3)), (2, .int (J l2_9)), (3, .int (J l3_9)), (4, .int (J s0_51))] → W p l e (rmd 16 0 0) s m ar below meth c H locs 0 0 QW (F0 m 104 ls [.int (J s0_104)]) := by
                    intro s0_104 H locs ls r_s0_104 iv104 hw hl
                    refine j_istore_n E 105 rfl [(2, .int (J s0_104)), (0, .ref o), (1, .int (J 3)), (3, .int (J l3_9)), (4, .int (J s0_51))] dX3_readConditions_104 rfl hl (by decide) rfl (fun ls hl => ?_)
                    refine j_iinc E 108 rfl [(3, .int (J (l3_9 + 1))), (2, .int (J s0_104)), (0, .ref o), (1, .int (J 3)), (4, .int (J s0_51))] dX3_readConditions_105 hl (kk := 3) rfl (by decide) rfl (fun ls hl => ?_)
                    refine j_goto E 9 dX3_readConditions_108 (by decide) ?_
                    exact ih9 s0_104 (l3_9 + 1) y80_37 y83_37 y84_37 y86_43 y300_43 H locs ls r_s0_104 (rr (by omega)) (by first | exact ⟨by omega, Ro_tr iv69.2 (Ro_tr u_.2.1 ro9_), by omega, by rw [show s0_104 = l2_9 by omega]; exact Co_and iv9.2.2.2 (by omega) u_.2.2⟩ | exact ⟨by omega, Ro_tr iv69.2 u_.2.1, by omega, by rw [show s0_104 = 1 by omega]; exact Co_or iv9.2.2.2 (by omega) u_.2.2⟩ | (exfalso; omega)) (by omega) hw (lv_sub hl [2, 3, 1, 0] rfl)
                  refine j_iload_n E 91 rfl dX3_readConditions_90 rfl (lv_at hl 2 rfl) ?_
                  refine j_if_ne E 94 99 rfl r_l2_9 dX3_readConditions_91 (by decide) (fun cc46_ => ?_) (fun cc46_ => ?_)
                  · refine j_iconst E 100 rfl dX3_readConditions_99 ?_
                    refine j_goto E 104 dX3_readConditions_100 (by decide) ?_
                    exact L104_44 1  H locs ls (rr (by decide)) (by omega) hw (lv_sub hl [0, 1, 2, 3, 4] rfl)
                  · refine j_iload E 96 rfl dX3_readConditions_94 (lv_at hl 4 rfl) ?_
                    refine j_if_ne E 99 103 rfl r_s0_51 dX3_readConditions_96 (by decide) (fun cc47_ => ?_) (fun cc47_ => ?_)
                    rotate_left; · exfalso; omega
                    refine j_iconst E 104 rfl dX3_readConditions_103 ?_
                    exact L104_44 0  H locs ls (rr (by decide)) (by omega) hw (lv_sub hl [0, 1, 2, 3, 4] rfl)
              refine j_iload E 55 rfl dX3_readConditions_53 (lv_at hl 0 rfl) ?_
              refine j_if_ne E 58 69 rfl r_s0_51 dX3_readConditions_55 (by decide) (fun cc48_ => ?_) (fun cc48_ => ?_)
              · exact L69_34  y86_c9 y300_c9 H locs ls  (by first | exact ⟨by omega, iv9.2.1⟩ | exact ⟨by omega, Ro_tr iv9.2.1 ro7_⟩) hw (lv_sub hl [1, 2, 3, 4, 0] rfl)
              · refine j_iload_n E 59 rfl dX3_readConditions_58 rfl (lv_at hl 3 rfl) ?_
                refine j_if_eq E 62 69 rfl r_l2_9 dX3_readConditions_59 (by decide) (fun cc49_ => ?_) (fun cc49_ => ?_)
                · exact L69_34  y86_c9 y300_c9 H locs ls  (by first | exact ⟨by omega, iv9.2.1⟩ | exact ⟨by omega, Ro_tr iv9.2.1 ro7_⟩) hw (lv_sub hl [1, 2, 3, 4, 0] rfl)
                · refine j_aload_n E 63 rfl dX3_readConditions_62 rfl (lv_at hl 1 rfl) ?_
                  refine j_sipush E 66 rfl dX3_readConditions_63 (by decide) ?_
                  refine kV_v E (c_X3_emit l D cy T (upV (upV (upV (upV (upV v_0 80 y80_c9) 83 y83_c9) 84 y84_c9) 86 y86_c9) 300 y300_c9) o ((-304))  t_o (rr (by decide)) (show 0 ≤ (y86_c9 o) ∧ (y86_c9 o) ≤ 400 from by omega)) mt_X3_emit ml_X3_60 hK hw (cw_rc4 hK hw.1 t_o) hA ⟨Nat.le_of_ble_eq_true rfl, Nat.le_of_ble_eq_true rfl⟩ ⟨Nat.le_of_ble_eq_true rfl, Nat.le_of_ble_eq_true rfl⟩ (As := [.int (J ((-304)))]) (rest := []) rfl rfl hl.1 (Nat.le_of_ble_eq_true rfl) 69 rfl dX3_readConditions_66 (fun v_50 H locs hq50_ hw => ?_)
                  obtain ⟨y86_50, y300_50, ev50_, hh50_⟩ := hq50_
                  rw [ev50_] at hw; clear ev50_
                  have hw : WK D cy T (upV (upV (upV (upV (upV v_0 80 y80_c9) 83 y83_c9) 84 y84_c9) 86 y86_50) 300 y300_50) A0 s.heap H locs := cw_eq hw (by first | rfl | (funext j_; simp only [upV, reduceIte]; (repeat' split) <;> first | rfl | omega | (subst_vars; rfl)))
                  have hh50_ : (0 ≤ (y86_50 o) ∧ (y86_50 o) ≤ 400) ∧ Ro_ (y300_c9) (y300_50) (T 85 o) := hh50_
                  have ro7_ := hh50_.2
                  exact L69_34  y86_50 y300_50 H locs ls  (by first | exact ⟨by omega, iv9.2.1⟩ | exact ⟨by omega, Ro_tr iv9.2.1 ro7_⟩) hw (lv_sub hl [1, 2, 3, 4, 0] rfl)
            refine j_aload_n E 37 rfl dX3_readConditions_36 rfl (lv_at hl 0 rfl) ?_
            refine g_84 E hK hw fl_X3_30 t_o (y84_c9 o) rfl 40 rfl dX3_readConditions_37 (fun _ => ?_)
            refine j_sipush E 43 rfl dX3_readConditions_40 (by decide) ?_
            refine j_icmp_ne E 46 50 rfl rr9_ (rr (by decide)) dX3_readConditions_43 (by decide) (fun cc51_ => ?_) (fun cc51_ => ?_)
            rotate_left; · exfalso; omega
            refine j_iconst E 51 rfl dX3_readConditions_50 ?_
            exact L51_32 0  H locs ls (rr (by decide)) (by omega) hw (lv_sub hl [0, 1, 2, 3] rfl)
  exact L9_2 _ 0 0 y80_1 y83_1 y84_1 y86_1 y300_1 H locs ls (rr (by decide)) (rr (by decide)) (⟨by omega, u0_.2.1, by omega, Co_0 hp2.1.1 u0_.2.2⟩) (Nat.lt_succ_self _) hw (lv_sub hl [2, 3, 1, 0] rfl)
set_option maxHeartbeats 4000000 in
set_option maxRecDepth 100000 in
theorem c_X3_readCondition_n2 (l : Launch) (D : va_G) (cy : Nat → ClassId) (T : Nat → Nat → Nat) (v_0 : Nat → Nat → Int) (κ : Nat → Nat → Nat) (o : Nat) (K_ : Int → Int) (V_ : Int → Int) (hO : ∀ x, ow T x → κ 2 2 ≤ x) (t_o : T 0 o = 4) (hp0 : 0 ≤ (v_0 86 o) ∧ (v_0 86 o) ≤ 400) (hp1 : RK_ (v_0 300) (T 120 (T 82 o)) (T 121 (T 82 o)) ((v_0 123 (T 82 o))) K_ V_) (hp2 : Cs_ K_ ((v_0 83 o)) ((v_0 84 o)) ((v_0 80 o))) : KZ l D cy κ T yX3_readCondition cX3_readCondition 4 none 17 [.ref o, .int (J 2)] v_0 (KV (fun (v_2 : Nat → Nat → Int) => ∃ (y80_2 : Nat → Int) (y83_2 : Nat → Int) (y84_2 : Nat → Int) (y86_2 : Nat → Int) (y300_2 : Nat → Int) , v_2 = upV (upV (upV (upV (upV v_0 80 y80_2) 83 y83_2) 84 y84_2) 86 y86_2) 300 y300_2 ∧ ((0 ≤ (y86_2 o) ∧ (y86_2 o) ≤ 400) ∧ Ro_ (v_0 300) (y300_2) (T 85 o) ∧ Ck_ S3_ (2 : Int) TX_ K_ V_ ((v_0 83 o)) ((v_0 80 o)) ((y83_2 o)) ((y84_2 o)) ((y80_2 o))))) := by
  refine KZ.ofv (by decide) (Nat.le_of_ble_eq_true rfl) hO ?_
  intro p e s m below meth c ls ar QW A0 H locs E hK hZ hA hAc hw hl hret
  have hl : lv_has ls 4 [(0, .ref o), (1, .int (J 2))] := hl
  have hT : WT T := hw.1.2.1
  have cs_ := hp2
  unfold Cs_ at cs_
  have nk_ : T 120 (T 82 o) ≠ T 85 o := ro_ne (wo_120 hT (wt_82 hT t_o)) (wo_85 hT t_o) (by decide) (by decide) (by omega)
  have nv_ : T 121 (T 82 o) ≠ T 85 o := ro_ne (wo_121 hT (wt_82 hT t_o)) (wo_85 hT t_o) (by decide) (by decide) (by omega)
  refine j_aload_n E 1 rfl dX3_readCondition_0 rfl (lv_at hl 0 rfl) ?_
  refine g_84 E hK hw fl_X3_30 t_o (v_0 84 o) rfl 4 rfl dX3_readCondition_1 (fun rr1_ => ?_)
  refine j_bipush E 6 rfl dX3_readCondition_4 (by decide) ?_
  refine j_icmp_eq E 9 19 rfl rr1_ (rr (by decide)) dX3_readCondition_6 (by decide) (fun cc2_ => ?_) (fun cc2_ => ?_)
  · refine j_iconst E 20 rfl dX3_readCondition_19 ?_
    refine j_goto E 24 dX3_readCondition_20 (by decide) ?_
    refine j_istore_n E 25 rfl [(2, .int (J 1)), (0, .ref o), (1, .int (J 2))] dX3_readCondition_24 rfl hl (by decide) rfl (fun ls hl => ?_)
    refine j_iload_n E 26 rfl dX3_readCondition_25 rfl (lv_at hl 0 rfl) ?_
    refine j_if_eq E 29 43 rfl (rr (by decide)) dX3_readCondition_26 (by decide) (fun cc3_ => absurd cc3_ (by decide)) (fun _ => ?_)
    refine j_iload_n E 30 rfl dX3_readCondition_29 rfl (lv_at hl 2 rfl) ?_
    refine j_bipush E 32 rfl dX3_readCondition_30 (by decide) ?_
    refine j_icmp_lt E 35 43 rfl (rr (by decide)) (rr (by decide)) dX3_readCondition_32 (by decide) (fun _ => ?_) (fun cc4_ => absurd cc4_ (by decide))
    refine j_aload_n E 44 rfl dX3_readCondition_43 rfl (lv_at hl 1 rfl) ?_
    refine g_84 E hK hw fl_X3_30 t_o (v_0 84 o) rfl 47 rfl dX3_readCondition_44 (fun _ => ?_)
    refine j_bipush E 49 rfl dX3_readCondition_47 (by decide) ?_
    refine j_icmp_ne E 52 72 rfl rr1_ (rr (by decide)) dX3_readCondition_49 (by decide) (fun cc5_ => ?_) (fun cc5_ => ?_)
    · exfalso; omega
    refine j_aload_n E 53 rfl dX3_readCondition_52 rfl (lv_at hl 1 rfl) ?_
    refine zV_v E (c_X3_step l D cy T (v_0) κ o K_ V_ hO t_o  (show RK_ (v_0 300) (T 120 (T 82 o)) (T 121 (T 82 o)) (((v_0 123) (T 82 o))) K_ V_ from hp1) (show 0 ≤ ((v_0 83) o) ∧ ((v_0 83) o) < 400 from by have q_ := RK_lt hp1 (j := (v_0 83 o)) (by omega); omega)) mt_X3_step ml_X3_54 hK hZ hAc hw (cw_rc4 hK hw.1 t_o) hA ⟨Nat.le_of_ble_eq_true rfl, Nat.le_of_ble_eq_true rfl⟩ ⟨Nat.le_of_ble_eq_true rfl, Nat.le_of_ble_eq_true rfl⟩ (As := []) (rest := []) rfl rfl hl.1 (Nat.le_of_ble_eq_true rfl) 56 rfl dX3_readCondition_53 (fun v_6 H locs hq6_ hw => ?_)
    obtain ⟨y83_6, y84_6, ev6_, hh6_⟩ := hq6_
    rw [ev6_] at hw; clear ev6_
    have hw : WK D cy T (upV (upV v_0 83 y83_6) 84 y84_6) A0 s.heap H locs := cw_eq hw (by first | rfl | (funext j_; simp only [upV, reduceIte]; (repeat' split) <;> first | rfl | omega | (subst_vars; rfl)))
    have hh6_ : (y83_6 o) = ((v_0 83) o) + 1 ∧ (y84_6 o) = K_ (((v_0 83) o) + 1) := hh6_
    have s1_ := hh6_
    refine j_aload_n E 57 rfl dX3_readCondition_56 rfl (lv_at hl 1 rfl) ?_
    refine j_iload_n E 58 rfl dX3_readCondition_57 rfl (lv_at hl 2 rfl) ?_
    refine j_iconst E 59 rfl dX3_readCondition_58 ?_
    refine j_iadd E 60 rfl dX3_readCondition_59 ?_
    refine j_lit (z := 3) (by decide) ?_
    refine zV_v E (c_X3_readConditions_n3 l D cy T (upV (upV v_0 83 y83_6) 84 y84_6) κ o K_ V_ hO t_o  (show 0 ≤ ((v_0 86) o) ∧ ((v_0 86) o) ≤ 400 from by omega) (show RK_ (v_0 300) (T 120 (T 82 o)) (T 121 (T 82 o)) (((v_0 123) (T 82 o))) K_ V_ from hp1) (show Cs_ K_ ((y83_6 o)) ((y84_6 o)) (((v_0 80) o)) from Cs_st hp2 (by omega) s1_.1 s1_.2 (by omega))) mt_X3_readConditions ml_X3_57 hK hZ hAc hw (cw_rc4 hK hw.1 t_o) hA ⟨Nat.le_of_ble_eq_true rfl, Nat.le_of_ble_eq_true rfl⟩ ⟨Nat.le_of_ble_eq_true rfl, Nat.le_of_ble_eq_true rfl⟩ (As := [.int (J 3)]) (rest := []) rfl rfl hl.1 (Nat.le_of_ble_eq_true rfl) 63 rfl dX3_readCondition_60 (fun v_7 H locs hq7_ hw => ?_)
    obtain ⟨y80_7, y83_7, y84_7, y86_7, y300_7, ev7_, hh7_⟩ := hq7_
    rw [ev7_] at hw; clear ev7_
    have hw : WK D cy T (upV (upV (upV (upV (upV v_0 80 y80_7) 83 y83_7) 84 y84_7) 86 y86_7) 300 y300_7) A0 s.heap H locs := cw_eq hw (by first | rfl | (funext j_; simp only [upV, reduceIte]; (repeat' split) <;> first | rfl | omega | (subst_vars; rfl)))
    have hh7_ : (0 ≤ (y86_7 o) ∧ (y86_7 o) ≤ 400) ∧ Ro_ (v_0 300) (y300_7) (T 85 o) ∧ Ck_ S4_ (3 : Int) (NA_ K_) K_ V_ ((y83_6 o)) (((v_0 80) o)) ((y83_7 o)) ((y84_7 o)) ((y80_7 o)) := hh7_
    have b_ := hh7_
    rw [s1_.1] at b_
    refine j_aload_n E 64 rfl dX3_readCondition_63 rfl (lv_at hl 1 rfl) ?_
    refine j_bipush E 66 rfl dX3_readCondition_64 (by decide) ?_
    refine zV_v E (c_X3_take l D cy T (upV (upV (upV (upV (upV v_0 80 y80_7) 83 y83_7) 84 y84_7) 86 y86_7) 300 y300_7) κ o 41 K_ V_ hO t_o (rr (by decide)) (show RK_ (y300_7) (T 120 (T 82 o)) (T 121 (T 82 o)) (((v_0 123) (T 82 o))) K_ V_ from RK_ro hp1 b_.2.1 nk_ nv_) (show Cs_ K_ ((y83_7 o)) ((y84_7 o)) ((y80_7 o)) from Ck_cs (Cs_st (a1 := v_0 83 o + 1) (k1 := K_ (v_0 83 o + 1)) hp2 (by omega) rfl rfl (by omega)) b_.2.2) (show 3 < (41 : Int) from by omega)) mt_X3_take ml_X3_47 hK hZ hAc hw (cw_rc4 hK hw.1 t_o) hA ⟨Nat.le_of_ble_eq_true rfl, Nat.le_of_ble_eq_true rfl⟩ ⟨Nat.le_of_ble_eq_true rfl, Nat.le_of_ble_eq_true rfl⟩ (As := [.int (J 41)]) (rest := []) rfl rfl hl.1 (Nat.le_of_ble_eq_true rfl) 69 rfl dX3_readCondition_66 (fun v_8 H locs hq8_ hw => ?_)
    obtain ⟨y80_8, y83_8, y84_8, ev8_, hh8_⟩ := hq8_
    rw [ev8_] at hw; clear ev8_
    have hw : WK D cy T (upV (upV (upV (upV (upV v_0 80 y80_8) 83 y83_8) 84 y84_8) 86 y86_7) 300 y300_7) A0 s.heap H locs := cw_eq hw (by first | rfl | (funext j_; simp only [upV, reduceIte]; (repeat' split) <;> first | rfl | omega | (subst_vars; rfl)))
    have hh8_ : (((y84_7 o) = (41 : Int)) ∧ (y83_8 o) = (y83_7 o) + 1 ∧ (y84_8 o) = K_ ((y83_7 o) + 1) ∧ (y80_8 o) = (y80_7 o)) ∨ (¬ ((y84_7 o) = (41 : Int)) ∧ (y83_8 o) = (y83_7 o) ∧ (y84_8 o) = 2 ∧ (((y80_7 o) = 0 ∧ (y80_8 o) = 1) ∨ (¬ (y80_7 o) = 0 ∧ (y80_8 o) = (y80_7 o)))) := hh8_
    have t_ := hh8_
    refine j_goto E 126 dX3_readCondition_69 (by decide) ?_
    exact hret 126 (upV (upV (upV (upV (upV v_0 80 y80_8) 83 y83_8) 84 y84_8) 86 y86_7) 300 y300_7) _ _ ls hw ⟨y80_8, y83_8, y84_8, y86_7, y300_7, rfl, by first | exact ⟨by omega, Ro_rf, ck_deep rfl hp2 (by omega) rfl r_.1 r_.2⟩ | exact ⟨by omega, b_.2.1, ck_bra (by omega) hp2 (by omega) b_.2.2 t_ (fun q_ => (RK_lt hp1 (ck_k b_.2.2 q_)).2)⟩ | exact ⟨by omega, Ro_tr n_.2.1 ro_, ck_not (by omega) hp2 (by omega) n_.2.2⟩ | exact ⟨by omega, Ro_tr e1_.2.1 (Ro_tr e2_.2.1 ro_), ck_cmp hp2 (by omega) (by omega) e1_.2.2 t_ e2_.2.2⟩⟩ dX3_readCondition_126
  · refine j_aload_n E 10 rfl dX3_readCondition_9 rfl (lv_at hl 0 rfl) ?_
    refine g_84 E hK hw fl_X3_30 t_o (v_0 84 o) rfl 13 rfl dX3_readCondition_10 (fun _ => ?_)
    refine j_sipush E 16 rfl dX3_readCondition_13 (by decide) ?_
    refine j_icmp_ne E 19 23 rfl rr1_ (rr (by decide)) dX3_readCondition_16 (by decide) (fun cc9_ => ?_) (fun cc9_ => ?_)
    · refine j_iconst E 24 rfl dX3_readCondition_23 ?_
      refine j_istore_n E 25 rfl [(2, .int (J 0)), (0, .ref o), (1, .int (J 2))] dX3_readCondition_24 rfl hl (by decide) rfl (fun ls hl => ?_)
      refine j_iload_n E 26 rfl dX3_readCondition_25 rfl (lv_at hl 0 rfl) ?_
      refine j_if_eq E 29 43 rfl (rr (by decide)) dX3_readCondition_26 (by decide) (fun _ => ?_) (fun cc10_ => absurd cc10_ (by decide))
      refine j_aload_n E 44 rfl dX3_readCondition_43 rfl (lv_at hl 1 rfl) ?_
      refine g_84 E hK hw fl_X3_30 t_o (v_0 84 o) rfl 47 rfl dX3_readCondition_44 (fun _ => ?_)
      refine j_bipush E 49 rfl dX3_readCondition_47 (by decide) ?_
      refine j_icmp_ne E 52 72 rfl rr1_ (rr (by decide)) dX3_readCondition_49 (by decide) (fun cc11_ => ?_) (fun cc11_ => ?_)
      rotate_left; · exfalso; omega
      refine j_aload_n E 73 rfl dX3_readCondition_72 rfl (lv_at hl 1 rfl) ?_
      refine g_84 E hK hw fl_X3_30 t_o (v_0 84 o) rfl 76 rfl dX3_readCondition_73 (fun _ => ?_)
      refine j_sipush E 79 rfl dX3_readCondition_76 (by decide) ?_
      refine j_icmp_ne E 82 103 rfl rr1_ (rr (by decide)) dX3_readCondition_79 (by decide) (fun cc12_ => ?_) (fun cc12_ => ?_)
      rotate_left; · exfalso; omega
      refine j_aload_n E 104 rfl dX3_readCondition_103 rfl (lv_at hl 1 rfl) ?_
      refine zV_v E (c_X3_readSum l D cy T (v_0) κ o K_ V_ hO t_o  (show 0 ≤ ((v_0 86) o) ∧ ((v_0 86) o) ≤ 400 from by omega) (show RK_ (v_0 300) (T 120 (T 82 o)) (T 121 (T 82 o)) (((v_0 123) (T 82 o))) K_ V_ from hp1) (show Cs_ K_ (((v_0 83) o)) (((v_0 84) o)) (((v_0 80) o)) from hp2)) mt_X3_readSum ml_X3_51 hK hZ hAc hw (cw_rc4 hK hw.1 t_o) hA ⟨Nat.le_of_ble_eq_true rfl, Nat.le_of_ble_eq_true rfl⟩ ⟨Nat.le_of_ble_eq_true rfl, Nat.le_of_ble_eq_true rfl⟩ (As := []) (rest := []) rfl rfl hl.1 (Nat.le_of_ble_eq_true rfl) 107 rfl dX3_readCondition_104 (fun v_13 H locs hq13_ hw => ?_)
      obtain ⟨y80_13, y83_13, y84_13, y86_13, y300_13, ev13_, hh13_⟩ := hq13_
      rw [ev13_] at hw; clear ev13_
      have hw : WK D cy T (upV (upV (upV (upV (upV v_0 80 y80_13) 83 y83_13) 84 y84_13) 86 y86_13) 300 y300_13) A0 s.heap H locs := cw_eq hw (by first | rfl | (funext j_; simp only [upV, reduceIte]; (repeat' split) <;> first | rfl | omega | (subst_vars; rfl)))
      have hh13_ : (0 ≤ (y86_13 o) ∧ (y86_13 o) ≤ 400) ∧ Ro_ (v_0 300) (y300_13) (T 85 o) ∧ Cp_ S3_ (N4_ K_) K_ V_ (((v_0 83) o)) (((v_0 80) o)) ((y83_13 o)) ((y84_13 o)) ((y80_13 o)) := hh13_
      have e1_ := hh13_
      refine j_aload_n E 108 rfl dX3_readCondition_107 rfl (lv_at hl 1 rfl) ?_
      refine g_84 E hK hw fl_X3_30 t_o (y84_13 o) rfl 111 rfl dX3_readCondition_108 (fun rr14_ => ?_)
      refine j_istore_n E 112 rfl [(3, .int (J (y84_13 o))), (2, .int (J 0)), (0, .ref o), (1, .int (J 2))] dX3_readCondition_111 rfl hl (by decide) rfl (fun ls hl => ?_)
      refine j_aload_n E 113 rfl dX3_readCondition_112 rfl (lv_at hl 2 rfl) ?_
      refine zV_v E (c_X3_takeComparison l D cy T (upV (upV (upV (upV (upV v_0 80 y80_13) 83 y83_13) 84 y84_13) 86 y86_13) 300 y300_13) κ o K_ V_ hO t_o  (show RK_ (y300_13) (T 120 (T 82 o)) (T 121 (T 82 o)) (((v_0 123) (T 82 o))) K_ V_ from RK_ro hp1 e1_.2.1 nk_ nv_) (show Cs_ K_ ((y83_13 o)) ((y84_13 o)) ((y80_13 o)) from Cp_cs hp2 e1_.2.2)) mt_X3_takeComparison ml_X3_88 hK hZ hAc hw (cw_rc4 hK hw.1 t_o) hA ⟨Nat.le_of_ble_eq_true rfl, Nat.le_of_ble_eq_true rfl⟩ ⟨Nat.le_of_ble_eq_true rfl, Nat.le_of_ble_eq_true rfl⟩ (As := []) (rest := []) rfl rfl hl.1 (Nat.le_of_ble_eq_true rfl) 116 rfl dX3_readCondition_113 (fun v_15 H locs hq15_ hw => ?_)
      obtain ⟨y80_15, y83_15, y84_15, ev15_, hh15_⟩ := hq15_
      rw [ev15_] at hw; clear ev15_
      have hw : WK D cy T (upV (upV (upV (upV (upV v_0 80 y80_15) 83 y83_15) 84 y84_15) 86 y86_13) 300 y300_13) A0 s.heap H locs := cw_eq hw (by first | rfl | (funext j_; simp only [upV, reduceIte]; (repeat' split) <;> first | rfl | omega | (subst_vars; rfl)))
      have hh15_ : (((y84_13 o) = 60 ∨ (y84_13 o) = 61 ∨ (y84_13 o) = 62) ∧ (y83_15 o) = (y83_13 o) + 1 ∧ (y84_15 o) = K_ ((y83_13 o) + 1) ∧ (y80_15 o) = (y80_13 o)) ∨ (¬ ((y84_13 o) = 60 ∨ (y84_13 o) = 61 ∨ (y84_13 o) = 62) ∧ (y83_15 o) = (y83_13 o) ∧ (y84_15 o) = 2 ∧ (((y80_13 o) = 0 ∧ (y80_15 o) = 1) ∨ (¬ (y80_13 o) = 0 ∧ (y80_15 o) = (y80_13 o)))) := hh15_
      have t_ := hh15_
      refine j_aload_n E 117 rfl dX3_readCondition_116 rfl (lv_at hl 2 rfl) ?_
      refine zV_v E (c_X3_readSum l D cy T (upV (upV (upV (upV (upV v_0 80 y80_15) 83 y83_15) 84 y84_15) 86 y86_13) 300 y300_13) κ o K_ V_ hO t_o  (show 0 ≤ (y86_13 o) ∧ (y86_13 o) ≤ 400 from by omega) (show RK_ (y300_13) (T 120 (T 82 o)) (T 121 (T 82 o)) (((v_0 123) (T 82 o))) K_ V_ from RK_ro hp1 e1_.2.1 nk_ nv_) (show Cs_ K_ ((y83_15 o)) ((y84_15 o)) ((y80_15 o)) from Ct_cs (Cp_cs hp2 e1_.2.2) t_ (fun q_ => (RK_lt hp1 q_).2))) mt_X3_readSum ml_X3_51 hK hZ hAc hw (cw_rc4 hK hw.1 t_o) hA ⟨Nat.le_of_ble_eq_true rfl, Nat.le_of_ble_eq_true rfl⟩ ⟨Nat.le_of_ble_eq_true rfl, Nat.le_of_ble_eq_true rfl⟩ (As := []) (rest := []) rfl rfl hl.1 (Nat.le_of_ble_eq_true rfl) 120 rfl dX3_readCondition_117 (fun v_16 H locs hq16_ hw => ?_)
      obtain ⟨y80_16, y83_16, y84_16, y86_16, y300_16, ev16_, hh16_⟩ := hq16_
      rw [ev16_] at hw; clear ev16_
      have hw : WK D cy T (upV (upV (upV (upV (upV v_0 80 y80_16) 83 y83_16) 84 y84_16) 86 y86_16) 300 y300_16) A0 s.heap H locs := cw_eq hw (by first | rfl | (funext j_; simp only [upV, reduceIte]; (repeat' split) <;> first | rfl | omega | (subst_vars; rfl)))
      have hh16_ : (0 ≤ (y86_16 o) ∧ (y86_16 o) ≤ 400) ∧ Ro_ (y300_13) (y300_16) (T 85 o) ∧ Cp_ S3_ (N4_ K_) K_ V_ ((y83_15 o)) ((y80_15 o)) ((y83_16 o)) ((y84_16 o)) ((y80_16 o)) := hh16_
      have e2_ := hh16_
      refine j_aload_n E 121 rfl dX3_readCondition_120 rfl (lv_at hl 2 rfl) ?_
      refine j_iload_n E 122 rfl dX3_readCondition_121 rfl (lv_at hl 0 rfl) ?_
      refine j_ineg E 123 rfl dX3_readCondition_122 ?_
      refine j_norm (fun zz17_ rr17_ ee17_ => ?_)
      refine kV_v E (c_X3_emit l D cy T (upV (upV (upV (upV (upV v_0 80 y80_16) 83 y83_16) 84 y84_16) 86 y86_16) 300 y300_16) o zz17_  t_o rr17_ (show 0 ≤ (y86_16 o) ∧ (y86_16 o) ≤ 400 from by omega)) mt_X3_emit ml_X3_60 hK hw (cw_rc4 hK hw.1 t_o) hA ⟨Nat.le_of_ble_eq_true rfl, Nat.le_of_ble_eq_true rfl⟩ ⟨Nat.le_of_ble_eq_true rfl, Nat.le_of_ble_eq_true rfl⟩ (As := [.int (J zz17_)]) (rest := []) rfl rfl hl.1 (Nat.le_of_ble_eq_true rfl) 126 rfl dX3_readCondition_123 (fun v_18 H locs hq18_ hw => ?_)
      obtain ⟨y86_18, y300_18, ev18_, hh18_⟩ := hq18_
      rw [ev18_] at hw; clear ev18_
      have hw : WK D cy T (upV (upV (upV (upV (upV v_0 80 y80_16) 83 y83_16) 84 y84_16) 86 y86_18) 300 y300_18) A0 s.heap H locs := cw_eq hw (by first | rfl | (funext j_; simp only [upV, reduceIte]; (repeat' split) <;> first | rfl | omega | (subst_vars; rfl)))
      have hh18_ : (0 ≤ (y86_18 o) ∧ (y86_18 o) ≤ 400) ∧ Ro_ (y300_16) (y300_18) (T 85 o) := hh18_
      have ro_ := hh18_.2
      exact hret 126 (upV (upV (upV (upV (upV v_0 80 y80_16) 83 y83_16) 84 y84_16) 86 y86_18) 300 y300_18) _ _ ls hw ⟨y80_16, y83_16, y84_16, y86_18, y300_18, rfl, by first | exact ⟨by omega, Ro_rf, ck_deep rfl hp2 (by omega) rfl r_.1 r_.2⟩ | exact ⟨by omega, b_.2.1, ck_bra (by omega) hp2 (by omega) b_.2.2 t_ (fun q_ => (RK_lt hp1 (ck_k b_.2.2 q_)).2)⟩ | exact ⟨by omega, Ro_tr n_.2.1 ro_, ck_not (by omega) hp2 (by omega) n_.2.2⟩ | exact ⟨by omega, Ro_tr e1_.2.1 (Ro_tr e2_.2.1 ro_), ck_cmp hp2 (by omega) (by omega) e1_.2.2 t_ e2_.2.2⟩⟩ dX3_readCondition_126
    · refine j_iconst E 20 rfl dX3_readCondition_19 ?_
      refine j_goto E 24 dX3_readCondition_20 (by decide) ?_
      refine j_istore_n E 25 rfl [(2, .int (J 1)), (0, .ref o), (1, .int (J 2))] dX3_readCondition_24 rfl hl (by decide) rfl (fun ls hl => ?_)
      refine j_iload_n E 26 rfl dX3_readCondition_25 rfl (lv_at hl 0 rfl) ?_
      refine j_if_eq E 29 43 rfl (rr (by decide)) dX3_readCondition_26 (by decide) (fun cc19_ => absurd cc19_ (by decide)) (fun _ => ?_)
      refine j_iload_n E 30 rfl dX3_readCondition_29 rfl (lv_at hl 2 rfl) ?_
      refine j_bipush E 32 rfl dX3_readCondition_30 (by decide) ?_
      refine j_icmp_lt E 35 43 rfl (rr (by decide)) (rr (by decide)) dX3_readCondition_32 (by decide) (fun _ => ?_) (fun cc20_ => absurd cc20_ (by decide))
      refine j_aload_n E 44 rfl dX3_readCondition_43 rfl (lv_at hl 1 rfl) ?_
      refine g_84 E hK hw fl_X3_30 t_o (v_0 84 o) rfl 47 rfl dX3_readCondition_44 (fun _ => ?_)
      refine j_bipush E 49 rfl dX3_readCondition_47 (by decide) ?_
      refine j_icmp_ne E 52 72 rfl rr1_ (rr (by decide)) dX3_readCondition_49 (by decide) (fun cc21_ => ?_) (fun cc21_ => ?_)
      rotate_left; · exfalso; omega
      refine j_aload_n E 73 rfl dX3_readCondition_72 rfl (lv_at hl 1 rfl) ?_
      refine g_84 E hK hw fl_X3_30 t_o (v_0 84 o) rfl 76 rfl dX3_readCondition_73 (fun _ => ?_)
      refine j_sipush E 79 rfl dX3_readCondition_76 (by decide) ?_
      refine j_icmp_ne E 82 103 rfl rr1_ (rr (by decide)) dX3_readCondition_79 (by decide) (fun cc22_ => ?_) (fun cc22_ => ?_)
      · exfalso; omega
      refine j_aload_n E 83 rfl dX3_readCondition_82 rfl (lv_at hl 1 rfl) ?_
      refine zV_v E (c_X3_step l D cy T (v_0) κ o K_ V_ hO t_o  (show RK_ (v_0 300) (T 120 (T 82 o)) (T 121 (T 82 o)) (((v_0 123) (T 82 o))) K_ V_ from hp1) (show 0 ≤ ((v_0 83) o) ∧ ((v_0 83) o) < 400 from by have q_ := RK_lt hp1 (j := (v_0 83 o)) (by omega); omega)) mt_X3_step ml_X3_54 hK hZ hAc hw (cw_rc4 hK hw.1 t_o) hA ⟨Nat.le_of_ble_eq_true rfl, Nat.le_of_ble_eq_true rfl⟩ ⟨Nat.le_of_ble_eq_true rfl, Nat.le_of_ble_eq_true rfl⟩ (As := []) (rest := []) rfl rfl hl.1 (Nat.le_of_ble_eq_true rfl) 86 rfl dX3_readCondition_83 (fun v_23 H locs hq23_ hw => ?_)
      obtain ⟨y83_23, y84_23, ev23_, hh23_⟩ := hq23_
      rw [ev23_] at hw; clear ev23_
      have hw : WK D cy T (upV (upV v_0 83 y83_23) 84 y84_23) A0 s.heap H locs := cw_eq hw (by first | rfl | (funext j_; simp only [upV, reduceIte]; (repeat' split) <;> first | rfl | omega | (subst_vars; rfl)))
      have hh23_ : (y83_23 o) = ((v_0 83) o) + 1 ∧ (y84_23 o) = K_ (((v_0 83) o) + 1) := hh23_
      have s2_ := hh23_
      refine j_aload_n E 87 rfl dX3_readCondition_86 rfl (lv_at hl 1 rfl) ?_
      refine j_iload_n E 88 rfl dX3_readCondition_87 rfl (lv_at hl 2 rfl) ?_
      refine j_iconst E 89 rfl dX3_readCondition_88 ?_
      refine j_iadd E 90 rfl dX3_readCondition_89 ?_
      refine j_lit (z := 3) (by decide) ?_
      refine zV_v E (c_X3_readCondition_n3 l D cy T (upV (upV v_0 83 y83_23) 84 y84_23) κ o K_ V_ hO t_o  (show 0 ≤ ((v_0 86) o) ∧ ((v_0 86) o) ≤ 400 from by omega) (show RK_ (v_0 300) (T 120 (T 82 o)) (T 121 (T 82 o)) (((v_0 123) (T 82 o))) K_ V_ from hp1) (show Cs_ K_ ((y83_23 o)) ((y84_23 o)) (((v_0 80) o)) from Cs_st hp2 (by omega) s2_.1 s2_.2 (by omega))) mt_X3_readCondition ml_X3_85 hK hZ hAc hw (cw_rc4 hK hw.1 t_o) hA ⟨Nat.le_of_ble_eq_true rfl, Nat.le_of_ble_eq_true rfl⟩ ⟨Nat.le_of_ble_eq_true rfl, Nat.le_of_ble_eq_true rfl⟩ (As := [.int (J 3)]) (rest := []) rfl rfl hl.1 (Nat.le_of_ble_eq_true rfl) 93 rfl dX3_readCondition_90 (fun v_24 H locs hq24_ hw => ?_)
      obtain ⟨y80_24, y83_24, y84_24, y86_24, y300_24, ev24_, hh24_⟩ := hq24_
      rw [ev24_] at hw; clear ev24_
      have hw : WK D cy T (upV (upV (upV (upV (upV v_0 80 y80_24) 83 y83_24) 84 y84_24) 86 y86_24) 300 y300_24) A0 s.heap H locs := cw_eq hw (by first | rfl | (funext j_; simp only [upV, reduceIte]; (repeat' split) <;> first | rfl | omega | (subst_vars; rfl)))
      have hh24_ : (0 ≤ (y86_24 o) ∧ (y86_24 o) ≤ 400) ∧ Ro_ (v_0 300) (y300_24) (T 85 o) ∧ Ck_ S3_ (3 : Int) TX_ K_ V_ ((y83_23 o)) (((v_0 80) o)) ((y83_24 o)) ((y84_24 o)) ((y80_24 o)) := hh24_
      have n_ := hh24_
      rw [s2_.1] at n_
      refine j_aload_n E 94 rfl dX3_readCondition_93 rfl (lv_at hl 1 rfl) ?_
      refine j_sipush E 97 rfl dX3_readCondition_94 (by decide) ?_
      refine kV_v E (c_X3_emit l D cy T (upV (upV (upV (upV (upV v_0 80 y80_24) 83 y83_24) 84 y84_24) 86 y86_24) 300 y300_24) o ((-306))  t_o (rr (by decide)) (show 0 ≤ (y86_24 o) ∧ (y86_24 o) ≤ 400 from by omega)) mt_X3_emit ml_X3_60 hK hw (cw_rc4 hK hw.1 t_o) hA ⟨Nat.le_of_ble_eq_true rfl, Nat.le_of_ble_eq_true rfl⟩ ⟨Nat.le_of_ble_eq_true rfl, Nat.le_of_ble_eq_true rfl⟩ (As := [.int (J ((-306)))]) (rest := []) rfl rfl hl.1 (Nat.le_of_ble_eq_true rfl) 100 rfl dX3_readCondition_97 (fun v_25 H locs hq25_ hw => ?_)
      obtain ⟨y86_25, y300_25, ev25_, hh25_⟩ := hq25_
      rw [ev25_] at hw; clear ev25_
      have hw : WK D cy T (upV (upV (upV (upV (upV v_0 80 y80_24) 83 y83_24) 84 y84_24) 86 y86_25) 300 y300_25) A0 s.heap H locs := cw_eq hw (by first | rfl | (funext j_; simp only [upV, reduceIte]; (repeat' split) <;> first | rfl | omega | (subst_vars; rfl)))
      have hh25_ : (0 ≤ (y86_25 o) ∧ (y86_25 o) ≤ 400) ∧ Ro_ (y300_24) (y300_25) (T 85 o) := hh25_
      have ro_ := hh25_.2
      refine j_goto E 126 dX3_readCondition_100 (by decide) ?_
      exact hret 126 (upV (upV (upV (upV (upV v_0 80 y80_24) 83 y83_24) 84 y84_24) 86 y86_25) 300 y300_25) _ _ ls hw ⟨y80_24, y83_24, y84_24, y86_25, y300_25, rfl, by first | exact ⟨by omega, Ro_rf, ck_deep rfl hp2 (by omega) rfl r_.1 r_.2⟩ | exact ⟨by omega, b_.2.1, ck_bra (by omega) hp2 (by omega) b_.2.2 t_ (fun q_ => (RK_lt hp1 (ck_k b_.2.2 q_)).2)⟩ | exact ⟨by omega, Ro_tr n_.2.1 ro_, ck_not (by omega) hp2 (by omega) n_.2.2⟩ | exact ⟨by omega, Ro_tr e1_.2.1 (Ro_tr e2_.2.1 ro_), ck_cmp hp2 (by omega) (by omega) e1_.2.2 t_ e2_.2.2⟩⟩ dX3_readCondition_126
set_option maxHeartbeats 4000000 in
set_option maxRecDepth 100000 in
theorem c_X3_readConditions_n2 (l : Launch) (D : va_G) (cy : Nat → ClassId) (T : Nat → Nat → Nat) (v_0 : Nat → Nat → Int) (κ : Nat → Nat → Nat) (o : Nat) (K_ : Int → Int) (V_ : Int → Int) (hO : ∀ x, ow T x → κ 2 2 ≤ x) (t_o : T 0 o = 4) (hp0 : 0 ≤ (v_0 86 o) ∧ (v_0 86 o) ≤ 400) (hp1 : RK_ (v_0 300) (T 120 (T 82 o)) (T 121 (T 82 o)) ((v_0 123 (T 82 o))) K_ V_) (hp2 : Cs_ K_ ((v_0 83 o)) ((v_0 84 o)) ((v_0 80 o))) : KZ l D cy κ T yX3_readConditions cX3_readConditions 5 none 18 [.ref o, .int (J 2)] v_0 (KV (fun (v_2 : Nat → Nat → Int) => ∃ (y80_2 : Nat → Int) (y83_2 : Nat → Int) (y84_2 : Nat → Int) (y86_2 : Nat → Int) (y300_2 : Nat → Int) , v_2 = upV (upV (upV (upV (upV v_0 80 y80_2) 83 y83_2) 84 y84_2) 86 y86_2) 300 y300_2 ∧ ((0 ≤ (y86_2 o) ∧ (y86_2 o) ≤ 400) ∧ Ro_ (v_0 300) (y300_2) (T 85 o) ∧ Ck_ S4_ (2 : Int) (NA_ K_) K_ V_ ((v_0 83 o)) ((v_0 80 o)) ((y83_2 o)) ((y84_2 o)) ((y80_2 o))))) := by
  refine KZ.ofv (by decide) (Nat.le_of_ble_eq_true rfl) hO ?_
  intro p e s m below meth c ls ar QW A0 H locs E hK hZ hA hAc hw hl hret
  have hl : lv_has ls 5 [(0, .ref o), (1, .int (J 2))] := hl
  have hT : WT T := hw.1.2.1
  have nk_ : T 120 (T 82 o) ≠ T 85 o := ro_ne (wo_120 hT (wt_82 hT t_o)) (wo_85 hT t_o) (by decide) (by decide) (by omega)
  have nv_ : T 121 (T 82 o) ≠ T 85 o := ro_ne (wo_121 hT (wt_82 hT t_o)) (wo_85 hT t_o) (by decide) (by decide) (by omega)
  have c0_ := hp2.1
  refine j_aload_n E 1 rfl dX3_readConditions_0 rfl (lv_at hl 0 rfl) ?_
  refine j_iload_n E 2 rfl dX3_readConditions_1 rfl (lv_at hl 1 rfl) ?_
  refine zV_v E (c_X3_readCondition_n2 l D cy T (v_0) κ o K_ V_ hO t_o  (show 0 ≤ ((v_0 86) o) ∧ ((v_0 86) o) ≤ 400 from by omega) (show RK_ (v_0 300) (T 120 (T 82 o)) (T 121 (T 82 o)) (((v_0 123) (T 82 o))) K_ V_ from hp1) (show Cs_ K_ (((v_0 83) o)) (((v_0 84) o)) (((v_0 80) o)) from hp2)) mt_X3_readCondition ml_X3_85 hK hZ hAc hw (cw_rc4 hK hw.1 t_o) hA ⟨Nat.le_of_ble_eq_true rfl, Nat.le_of_ble_eq_true rfl⟩ ⟨Nat.le_of_ble_eq_true rfl, Nat.le_of_ble_eq_true rfl⟩ (As := [.int (J 2)]) (rest := []) rfl rfl hl.1 (Nat.le_of_ble_eq_true rfl) 5 rfl dX3_readConditions_2 (fun v_1 H locs hq1_ hw => ?_)
  obtain ⟨y80_1, y83_1, y84_1, y86_1, y300_1, ev1_, hh1_⟩ := hq1_
  rw [ev1_] at hw; clear ev1_
  have hw : WK D cy T (upV (upV (upV (upV (upV v_0 80 y80_1) 83 y83_1) 84 y84_1) 86 y86_1) 300 y300_1) A0 s.heap H locs := cw_eq hw (by first | rfl | (funext j_; simp only [upV, reduceIte]; (repeat' split) <;> first | rfl | omega | (subst_vars; rfl)))
  have hh1_ : (0 ≤ (y86_1 o) ∧ (y86_1 o) ≤ 400) ∧ Ro_ (v_0 300) (y300_1) (T 85 o) ∧ Ck_ S3_ (2 : Int) TX_ K_ V_ (((v_0 83) o)) (((v_0 80) o)) ((y83_1 o)) ((y84_1 o)) ((y80_1 o)) := hh1_
  have u0_ := hh1_
  refine j_iconst E 6 rfl dX3_readConditions_5 ?_
  refine j_istore_n E 7 rfl [(2, .int (J 0)), (0, .ref o), (1, .int (J 2))] dX3_readConditions_6 rfl hl (by decide) rfl (fun ls hl => ?_)
  refine j_iconst E 8 rfl dX3_readConditions_7 ?_
  refine j_istore_n E 9 rfl [(3, .int (J 0)), (2, .int (J 0)), (0, .ref o), (1, .int (J 2))] dX3_readConditions_8 rfl hl (by decide) rfl (fun ls hl => ?_)
  have L9_2 : ∀ (k9 : Nat) (l2_9 l3_9 : Int) (y80_c9 : Nat → Int) (y83_c9 : Nat → Int) (y84_c9 : Nat → Int) (y86_c9 : Nat → Int) (y300_c9 : Nat → Int) (H : Heap) (locs : List Loc) (ls : Array Slot), inR l2_9 → inR l3_9 → ((0 ≤ (y86_c9 o) ∧ (y86_c9 o) ≤ 400) ∧ (Ro_ (v_0 300) (y300_c9) (T 85 o)) ∧ 0 ≤ l3_9 ∧ Co_ (2 : Int) {K_} {V_} (v_0 83 o) (v_0 80 o) l2_9 l3_9 ((y83_c9 o)) ((y84_c9 o)) ((y80_c9 o))) → (400 - l3_9).toNat < k9 → WK D cy T (upV (upV (upV (upV (upV v_0 80 y80_c9) 83 y83_c9) 84 y84_c9) 86 y86_c9) 300 y300_c9) A0 s.heap H locs → lv_has ls 5 [(0, .ref o), (1, .int (J 2)), (2, .int (J l2_9)), (3, .int (J l3_9))] → W p l e (rmd 18 0 0) s m ar below meth c H locs 0 0 QW (F0 m 9 ls []) := by
    intro k9
    induction k9 with
    | zero =>
      intro l2_9 l3_9 y80_c9 y83_c9 y84_c9 y86_c9 y300_c9 H locs ls r_l2_9 r_l3_9 iv9 ms9 hw hl
      exact absurd ms9 (Nat.not_lt_zero _)
    | succ k9 ih9 =>
      intro l2_9 l3_9 y80_c9 y83_c9 y84_c9 y86_c9 y300_c9 H locs ls r_l2_9 r_l3_9 iv9 ms9 hw hl
      have cs1_ := Co_cs hp2 iv9.2.2.2
      unfold Cs_ at cs1_
      have L111_4 : ∀ (H : Heap) (locs : List Loc) (ls : Array Slot), (¬ ((y84_c9 o) = 305 ∨ (y84_c9 o) = 304)) → WK D cy T (upV (upV (upV (upV (upV v_0 80 y80_c9) 83 y83_c9) 84 y84_c9) 86 y86_c9) 300 y300_c9) A0 s.heap H locs → lv_has ls 5 [(0, .ref o), (1, .int (J 2)), (2, .int (J l2_9)), (3, .int (J l3_9))] → W p l e (rmd 18 0 0) s m ar below meth c H locs 0 0 QW (F0 m 111 ls []) := by
        intro H locs ls iv111 hw hl
        refine j_iload_n E 112 rfl dX3_readConditions_111 rfl (lv_at hl 2 rfl) ?_
        refine j_if_eq E 115 122 rfl r_l2_9 dX3_readConditions_112 (by decide) (fun cc6_ => ?_) (fun cc6_ => ?_)
        · exact hret 122 (upV (upV (upV (upV (upV v_0 80 y80_c9) 83 y83_c9) 84 y84_c9) 86 y86_c9) 300 y300_c9) _ _ ls hw ⟨y80_c9, y83_c9, y84_c9, y86_c9, y300_c9, rfl, by first | exact ⟨by omega, Ro_tr iv9.2.1 roe_, Co_end iv9.2.2.2 iv111 (by omega)⟩ | exact ⟨by omega, iv9.2.1, Co_end iv9.2.2.2 iv111 (by omega)⟩⟩ dX3_readConditions_122
        · refine j_aload_n E 116 rfl dX3_readConditions_115 rfl (lv_at hl 0 rfl) ?_
          refine j_sipush E 119 rfl dX3_readConditions_116 (by decide) ?_
          refine kV_v E (c_X3_emit l D cy T (upV (upV (upV (upV (upV v_0 80 y80_c9) 83 y83_c9) 84 y84_c9) 86 y86_c9) 300 y300_c9) o ((-304))  t_o (rr (by decide)) (show 0 ≤ (y86_c9 o) ∧ (y86_c9 o) ≤ 400 from by omega)) mt_X3_emit ml_X3_60 hK hw (cw_rc4 hK hw.1 t_o) hA ⟨Nat.le_of_ble_eq_true rfl, Nat.le_of_ble_eq_true rfl⟩ ⟨Nat.le_of_ble_eq_true rfl, Nat.le_of_ble_eq_true rfl⟩ (As := [.int (J ((-304)))]) (rest := []) rfl rfl hl.1 (Nat.le_of_ble_eq_true rfl) 122 rfl dX3_readConditions_119 (fun v_7 H locs hq7_ hw => ?_)
          obtain ⟨y86_7, y300_7, ev7_, hh7_⟩ := hq7_
          rw [ev7_] at hw; clear ev7_
          have hw : WK D cy T (upV (upV (upV (upV (upV v_0 80 y80_c9) 83 y83_c9) 84 y84_c9) 86 y86_7) 300 y300_7) A0 s.heap H locs := cw_eq hw (by first | rfl | (funext j_; simp only [upV, reduceIte]; (repeat' split) <;> first | rfl | omega | (subst_vars; rfl)))
          have hh7_ : (0 ≤ (y86_7 o) ∧ (y86_7 o) ≤ 400) ∧ Ro_ (y300_c9) (y300_7) (T 85 o) := hh7_
          have roe_ := hh7_.2
          exact hret 122 (upV (upV (upV (upV (upV v_0 80 y80_c9) 83 y83_c9) 84 y84_c9) 86 y86_7) 300 y300_7) _ _ ls hw ⟨y80_c9, y83_c9, y84_c9, y86_7, y300_7, rfl, by first | exact ⟨by omega, Ro_tr iv9.2.1 roe_, Co_end iv9.2.2.2 iv111 (by omega)⟩ | exact ⟨by omega, iv9.2.1, Co_end iv9.2.2.2 iv111 (by omega)⟩⟩ dX3_readConditions_122
      refine j_iload_n E 10 rfl dX3_readConditions_9 rfl (lv_at hl 3 rfl) ?_
      refine j_sipush E 13 rfl dX3_readConditions_10 (by decide) ?_
      refine j_icmp_ge E 16 111 rfl r_l3_9 (rr (by decide)) dX3_readConditions_13 (by decide) (fun cc8_ => ?_) (fun cc8_ => ?_)
      · exact L111_4   H locs ls  (by first | omega | exact Co_i iv9.2.2.2 (by omega) (by omega)) hw (lv_sub hl [0, 1, 2, 3] rfl)
      · refine j_aload_n E 17 rfl dX3_readConditions_16 rfl (lv_at hl 0 rfl) ?_
        refine g_84 E hK hw fl_X3_30 t_o (y84_c9 o) rfl 20 rfl dX3_readConditions_17 (fun rr9_ => ?_)
        refine j_sipush E 23 rfl dX3_readConditions_20 (by decide) ?_
        refine j_icmp_eq E 26 36 rfl rr9_ (rr (by decide)) dX3_readConditions_23 (by decide) (fun cc10_ => ?_) (fun cc10_ => ?_)
        · have L51_11 : ∀ (s0_51 : Int) (H : Heap) (locs : List Loc) (ls : Array Slot), inR s0_51 → ((s0_51 = 1 ∧ (y84_c9 o) = 305) ∨ (s0_51 = 0 ∧ (y84_c9 o) = 304)) → WK D cy T (upV (upV (upV (upV (upV v_0 80 y80_c9) 83 y83_c9) 84 y84_c9) 86 y86_c9) 300 y300_c9) A0 s.heap H locs → lv_has ls 5 [(0, .ref o), (1, .int (J 2)), (2, .int (J l2_9)), (3, .int (J l3_9))] → W p l e (rmd 18 0 0) s m ar below meth c H locs 0 0 QW (F0 m 51 ls [.int (J s0_51)]) := by
            intro s0_51 H locs ls r_s0_51 iv51 hw hl
            refine j_istore E 53 rfl [(4, .int (J s0_51)), (0, .ref o), (1, .int (J 2)), (2, .int (J l2_9)), (3, .int (J l3_9))] dX3_readConditions_51 hl (by decide) rfl (fun ls hl => ?_)
            have L69_13 : ∀ (y86_c69 : Nat → Int) (y300_c69 : Nat → Int) (H : Heap) (locs : List Loc) (ls : Array Slot), ((0 ≤ (y86_c69 o) ∧ (y86_c69 o) ≤ 400) ∧ Ro_ (v_0 300) (y300_c69) (T 85 o)) → WK D cy T (upV (upV (upV (upV (upV v_0 80 y80_c9) 83 y83_c9) 84 y84_c9) 86 y86_c69) 300 y300_c69) A0 s.heap H locs → lv_has ls 5 [(0, .ref o), (1, .int (J 2)), (2, .int (J l2_9)), (3, .int (J l3_9)), (4, .int (J s0_51))] → W p l e (rmd 18 0 0) s m ar below meth c H locs 0 0 QW (F0 m 69 ls []) := by
              intro y86_c69 y300_c69 H locs ls iv69 hw hl
              refine j_aload_n E 70 rfl dX3_readConditions_69 rfl (lv_at hl 0 rfl) ?_
              refine zV_v E (c_X3_step l D cy T (upV (upV (upV (upV (upV v_0 80 y80_c9) 83 y83_c9) 84 y84_c9) 86 y86_c69) 300 y300_c69) κ o K_ V_ hO t_o  (show RK_ (y300_c69) (T 120 (T 82 o)) (T 121 (T 82 o)) (((v_0 123) (T 82 o))) K_ V_ from RK_ro hp1 iv69.2 nk_ nv_) (show 0 ≤ (y83_c9 o) ∧ (y83_c9 o) < 400 from by have q_ := RK_lt hp1 (j := (y83_c9 o)) (by omega); omega)) mt_X3_step ml_X3_54 hK hZ hAc hw (cw_rc4 hK hw.1 t_o) hA ⟨Nat.le_of_ble_eq_true rfl, Nat.le_of_ble_eq_true rfl⟩ ⟨Nat.le_of_ble_eq_true rfl, Nat.le_of_ble_eq_true rfl⟩ (As := []) (rest := []) rfl rfl hl.1 (Nat.le_of_ble_eq_true rfl) 73 rfl dX3_readConditions_70 (fun v_15 H locs hq15_ hw => ?_)
              obtain ⟨y83_15, y84_15, ev15_, hh15_⟩ := hq15_
              rw [ev15_] at hw; clear ev15_
              have hw : WK D cy T (upV (upV (upV (upV (upV v_0 80 y80_c9) 83 y83_15) 84 y84_15) 86 y86_c69) 300 y300_c69) A0 s.heap H locs := cw_eq hw (by first | rfl | (funext j_; simp only [upV, reduceIte]; (repeat' split) <;> first | rfl | omega | (subst_vars; rfl)))
              have hh15_ : (y83_15 o) = (y83_c9 o) + 1 ∧ (y84_15 o) = K_ ((y83_c9 o) + 1) := hh15_
              have s_ := hh15_
              refine j_aload_n E 74 rfl dX3_readConditions_73 rfl (lv_at hl 0 rfl) ?_
              refine j_iload_n E 75 rfl dX3_readConditions_74 rfl (lv_at hl 1 rfl) ?_
              refine zV_v E (c_X3_readCondition_n2 l D cy T (upV (upV (upV (upV (upV v_0 80 y80_c9) 83 y83_15) 84 y84_15) 86 y86_c69) 300 y300_c69) κ o K_ V_ hO t_o  (show 0 ≤ (y86_c69 o) ∧ (y86_c69 o) ≤ 400 from by omega) (show RK_ (y300_c69) (T 120 (T 82 o)) (T 121 (T 82 o)) (((v_0 123) (T 82 o))) K_ V_ from RK_ro hp1 iv69.2 nk_ nv_) (show Cs_ K_ ((y83_15 o)) ((y84_15 o)) ((y80_c9 o)) from Cs_st (Co_cs hp2 iv9.2.2.2) (by omega) s_.1 s_.2 (by omega))) mt_X3_readCondition ml_X3_85 hK hZ hAc hw (cw_rc4 hK hw.1 t_o) hA ⟨Nat.le_of_ble_eq_true rfl, Nat.le_of_ble_eq_true rfl⟩ ⟨Nat.le_of_ble_eq_true rfl, Nat.le_of_ble_eq_true rfl⟩ (As := [.int (J 2)]) (rest := []) rfl rfl hl.1 (Nat.le_of_ble_eq_true rfl) 78 rfl dX3_readConditions_75 (fun v_16 H locs hq16_ hw => ?_)
              obtain ⟨y80_16, y83_16, y84_16, y86_16, y300_16, ev16_, hh16_⟩ := hq16_
              rw [ev16_] at hw; clear ev16_
              have hw : WK D cy T (upV (upV (upV (upV (upV v_0 80 y80_16) 83 y83_16) 84 y84_16) 86 y86_16) 300 y300_16) A0 s.heap H locs := cw_eq hw (by first | rfl | (funext j_; simp only [upV, reduceIte]; (repeat' split) <;> first | rfl | omega | (subst_vars; rfl)))
              have hh16_ : (0 ≤ (y86_16 o) ∧ (y86_16 o) ≤ 400) ∧ Ro_ (y300_c69) (y300_16) (T 85 o) ∧ Ck_ S3_ (2 : Int) TX_ K_ V_ ((y83_15 o)) ((y80_c9 o)) ((y83_16 o)) ((y84_16 o)) ((y80_16 o)) := hh16_
              have u_ := hh16_
              rw [s_.1] at u_
              refine j_iload E 80 rfl dX3_readConditions_78 (lv_at hl 4 rfl) ?_
              refine j_if_eq E 83 90 rfl r_s0_51 dX3_readConditions_80 (by decide) (fun cc17_ => ?_) (fun cc17_ => ?_)
              · have L104_18 : ∀ (s0_104 : Int) (H : Heap) (locs : List Loc) (ls : Array Slot), inR s0_104 → (((l2_9 ≠ 0 ∨ s0_51 = 0) ∧ s0_104 = 1) ∨ (l2_9 = 0 ∧ s0_51 ≠ 0 ∧ s0_104 = 0)) → WK D cy T (upV (upV (upV (upV (upV v_0 80 y80_16) 83 y83_16) 84 y84_16) 86 y86_16) 300 y300_16) A0 s.heap H locs → lv_has ls 5 [(0, .ref o), (1, .int (J 2)), (2, .int (J l2_9)), (3, .int (J l3_9)), (4, .int (J s0_51))] → W p l e (rmd 18 0 0) s m ar below meth c H locs 0 0 QW (F0 m 104 ls [.int (J s0_104)]) := by
                  intro s0_104 H locs ls r_s0_104 iv104 hw hl
                  refine j_istore_n E 105 rfl [(2, .int (J s0_104)), (0, .ref o), (1, .int (J 2)), (3, .int (J l3_9)), (4, .int (J s0_51))] dX3_readConditions_104 rfl hl (by decide) rfl (fun ls hl => ?_)
                  refine j_iinc E 108 rfl [(3, .int (J (l3_9 + 1))), (2, .int (J s0_104)), (0, .ref o), (1, .int (J 2)), (4, .int (J s0_51))] dX3_readConditions_105 hl (kk := 3) rfl (by decide) rfl (fun ls hl => ?_)
                  refine j_goto E 9 dX3_readConditions_108 (by decide) ?_
                  exact ih9 s0_104 (l3_9 + 1) y80_16 y83_16 y84_16 y86_16 y300_16 H locs ls r_s0_104 (rr (by omega)) (by first | exact ⟨by omega, Ro_tr iv69.2 (Ro_tr u_.2.1 ro9_), by omega, by rw [show s0_104 = l2_9 by omega]; exact Co_and iv9.2.2.2 (by omega) u_.2.2⟩ | exact ⟨by omega, Ro_tr iv69.2 u_.2.1, by omega, by rw [show s0_104 = 1 by omega]; exact Co_or iv9.2.2.2 (by omega) u_.2.2⟩ | (exfalso; omega)) (by omega) hw (lv_sub hl [2, 3, 1, 0] rfl)
                refine j_iload_n E 91 rfl dX3_readConditions_90 rfl (lv_at hl 2 rfl) ?_
                refine j_if_ne E 94 99 rfl r_l2_9 dX3_readConditions_91 (by decide) (fun cc20_ => ?_) (fun cc20_ => ?_)
                · refine j_iconst E 100 rfl dX3_readConditions_99 ?_
                  refine j_goto E 104 dX3_readConditions_100 (by decide) ?_
                  exact L104_18 1  H locs ls (rr (by decide)) (by omega) hw (lv_sub hl [0, 1, 2, 3, 4] rfl)
                · refine j_iload E 96 rfl dX3_readConditions_94 (lv_at hl 4 rfl) ?_
                  refine j_if_ne E 99 103 rfl r_s0_51 dX3_readConditions_96 (by decide) (fun cc21_ => ?_) (fun cc21_ => ?_)
                  · exfalso; omega
                  refine j_iconst E 100 rfl dX3_readConditions_99 ?_
                  refine j_goto E 104 dX3_readConditions_100 (by decide) ?_
                  exact L104_18 1  H locs ls (rr (by decide)) (by omega) hw (lv_sub hl [0, 1, 2, 3, 4] rfl)
              · refine j_aload_n E 84 rfl dX3_readConditions_83 rfl (lv_at hl 0 rfl) ?_
                refine j_sipush E 87 rfl dX3_readConditions_84 (by decide) ?_
                refine kV_v E (c_X3_emit l D cy T (upV (upV (upV (upV (upV v_0 80 y80_16) 83 y83_16) 84 y84_16) 86 y86_16) 300 y300_16) o ((-305))  t_o (rr (by decide)) (show 0 ≤ (y86_16 o) ∧ (y86_16 o) ≤ 400 from by omega)) mt_X3_emit ml_X3_60 hK hw (cw_rc4 hK hw.1 t_o) hA ⟨Nat.le_of_ble_eq_true rfl, Nat.le_of_ble_eq_true rfl⟩ ⟨Nat.le_of_ble_eq_true rfl, Nat.le_of_ble_eq_true rfl⟩ (As := [.int (J ((-305)))]) (rest := []) rfl rfl hl.1 (Nat.le_of_ble_eq_true rfl) 90 rfl dX3_readConditions_87 (fun v_22 H locs hq22_ hw => ?_)
                obtain ⟨y86_22, y300_22, ev22_, hh22_⟩ := hq22_
                rw [ev22_] at hw; clear ev22_
                have hw : WK D cy T (upV (upV (upV (upV (upV v_0 80 y80_16) 83 y83_16) 84 y84_16) 86 y86_22) 300 y300_22) A0 s.heap H locs := cw_eq hw (by first | rfl | (funext j_; simp only [upV, reduceIte]; (repeat' split) <;> first | rfl | omega | (subst_vars; rfl)))
                have hh22_ : (0 ≤ (y86_22 o) ∧ (y86_22 o) ≤ 400) ∧ Ro_ (y300_16) (y300_22) (T 85 o) := hh22_
                have ro9_ := hh22_.2
                have L104_23 : ∀ (s0_104 : Int) (H : Heap) (locs : List Loc) (ls : Array Slot), inR s0_104 → (((l2_9 ≠ 0 ∨ s0_51 = 0) ∧ s0_104 = 1) ∨ (l2_9 = 0 ∧ s0_51 ≠ 0 ∧ s0_104 = 0)) → WK D cy T (upV (upV (upV (upV (upV v_0 80 y80_16) 83 y83_16) 84 y84_16) 86 y86_22) 300 y300_22) A0 s.heap H locs → lv_has ls 5 [(0, .ref o), (1, .int (J 2)), (2, .int (J l2_9)), (3, .int (J l3_9)), (4, .int (J s0_51))] → W p l e (rmd 18 0 0) s m ar below meth c H locs 0 0 QW (F0 m 104 ls [.int (J s0_104)]) := by
                  intro s0_104 H locs ls r_s0_104 iv104 hw hl
                  refine j_istore_n E 105 rfl [(2, .int (J s0_104)), (0, .ref o), (1, .int (J 2)), (3, .int (J l3_9)), (4, .int (J s0_51))] dX3_readConditions_104 rfl hl (by decide) rfl (fun ls hl => ?_)
                  refine j_iinc E 108 rfl [(3, .int (J (l3_9 + 1))), (2, .int (J s0_104)), (0, .ref o), (1, .int (J 2)), (4, .int (J s0_51))] dX3_readConditions_105 hl (kk := 3) rfl (by decide) rfl (fun ls hl => ?_)
                  refine j_goto E 9 dX3_readConditions_108 (by decide) ?_
                  exact ih9 s0_104 (l3_9 + 1) y80_16 y83_16 y84_16 y86_22 y300_22 H locs ls r_s0_104 (rr (by omega)) (by first | exact ⟨by omega, Ro_tr iv69.2 (Ro_tr u_.2.1 ro9_), by omega, by rw [show s0_104 = l2_9 by omega]; exact Co_and iv9.2.2.2 (by omega) u_.2.2⟩ | exact ⟨by omega, Ro_tr iv69.2 u_.2.1, by omega, by rw [show s0_104 = 1 by omega]; exact Co_or iv9.2.2.2 (by omega) u_.2.2⟩ | (exfalso; omega)) (by omega) hw (lv_sub hl [2, 3, 1, 0] rfl)
                refine j_iload_n E 91 rfl dX3_readConditions_90 rfl (lv_at hl 2 rfl) ?_
                refine j_if_ne E 94 99 rfl r_l2_9 dX3_readConditions_91 (by decide) (fun cc25_ => ?_) (fun cc25_ => ?_)
                · refine j_iconst E 100 rfl dX3_readConditions_99 ?_
                  refine j_goto E 104 dX3_readConditions_100 (by decide) ?_
                  exact L104_23 1  H locs ls (rr (by decide)) (by omega) hw (lv_sub hl [0, 1, 2, 3, 4] rfl)
                · refine j_iload E 96 rfl dX3_readConditions_94 (lv_at hl 4 rfl) ?_
                  refine j_if_ne E 99 103 rfl r_s0_51 dX3_readConditions_96 (by decide) (fun cc26_ => ?_) (fun cc26_ => ?_)
                  rotate_left; · exfalso; omega
                  refine j_iconst E 104 rfl dX3_readConditions_103 ?_
                  exact L104_23 0  H locs ls (rr (by decide)) (by omega) hw (lv_sub hl [0, 1, 2, 3, 4] rfl)
            refine j_iload E 55 rfl dX3_readConditions_53 (lv_at hl 0 rfl) ?_
            refine j_if_ne E 58 69 rfl r_s0_51 dX3_readConditions_55 (by decide) (fun cc27_ => ?_) (fun cc27_ => ?_)
            · exact L69_13  y86_c9 y300_c9 H locs ls  (by first | exact ⟨by omega, iv9.2.1⟩ | exact ⟨by omega, Ro_tr iv9.2.1 ro7_⟩) hw (lv_sub hl [1, 2, 3, 4, 0] rfl)
            · refine j_iload_n E 59 rfl dX3_readConditions_58 rfl (lv_at hl 3 rfl) ?_
              refine j_if_eq E 62 69 rfl r_l2_9 dX3_readConditions_59 (by decide) (fun cc28_ => ?_) (fun cc28_ => ?_)
              · exact L69_13  y86_c9 y300_c9 H locs ls  (by first | exact ⟨by omega, iv9.2.1⟩ | exact ⟨by omega, Ro_tr iv9.2.1 ro7_⟩) hw (lv_sub hl [1, 2, 3, 4, 0] rfl)
              · refine j_aload_n E 63 rfl dX3_readConditions_62 rfl (lv_at hl 1 rfl) ?_
                refine j_sipush E 66 rfl dX3_readConditions_63 (by decide) ?_
                refine kV_v E (c_X3_emit l D cy T (upV (upV (upV (upV (upV v_0 80 y80_c9) 83 y83_c9) 84 y84_c9) 86 y86_c9) 300 y300_c9) o ((-304))  t_o (rr (by decide)) (show 0 ≤ (y86_c9 o) ∧ (y86_c9 o) ≤ 400 from by omega)) mt_X3_emit ml_X3_60 hK hw (cw_rc4 hK hw.1 t_o) hA ⟨Nat.le_of_ble_eq_true rfl, Nat.le_of_ble_eq_true rfl⟩ ⟨Nat.le_of_ble_eq_true rfl, Nat.le_of_ble_eq_true rfl⟩ (As := [.int (J ((-304)))]) (rest := []) rfl rfl hl.1 (Nat.le_of_ble_eq_true rfl) 69 rfl dX3_readConditions_66 (fun v_29 H locs hq29_ hw => ?_)
                obtain ⟨y86_29, y300_29, ev29_, hh29_⟩ := hq29_
                rw [ev29_] at hw; clear ev29_
                have hw : WK D cy T (upV (upV (upV (upV (upV v_0 80 y80_c9) 83 y83_c9) 84 y84_c9) 86 y86_29) 300 y300_29) A0 s.heap H locs := cw_eq hw (by first | rfl | (funext j_; simp only [upV, reduceIte]; (repeat' split) <;> first | rfl | omega | (subst_vars; rfl)))
                have hh29_ : (0 ≤ (y86_29 o) ∧ (y86_29 o) ≤ 400) ∧ Ro_ (y300_c9) (y300_29) (T 85 o) := hh29_
                have ro7_ := hh29_.2
                exact L69_13  y86_29 y300_29 H locs ls  (by first | exact ⟨by omega, iv9.2.1⟩ | exact ⟨by omega, Ro_tr iv9.2.1 ro7_⟩) hw (lv_sub hl [1, 2, 3, 4, 0] rfl)
          refine j_aload_n E 37 rfl dX3_readConditions_36 rfl (lv_at hl 0 rfl) ?_
          refine g_84 E hK hw fl_X3_30 t_o (y84_c9 o) rfl 40 rfl dX3_readConditions_37 (fun _ => ?_)
          refine j_sipush E 43 rfl dX3_readConditions_40 (by decide) ?_
          refine j_icmp_ne E 46 50 rfl rr9_ (rr (by decide)) dX3_readConditions_43 (by decide) (fun cc30_ => ?_) (fun cc30_ => ?_)
          · exfalso; omega
          refine j_iconst E 47 rfl dX3_readConditions_46 ?_
          refine j_goto E 51 dX3_readConditions_47 (by decide) ?_
          exact L51_11 1  H locs ls (rr (by decide)) (by omega) hw (lv_sub hl [0, 1, 2, 3] rfl)
        · refine j_aload_n E 27 rfl dX3_readConditions_26 rfl (lv_at hl 0 rfl) ?_
          refine g_84 E hK hw fl_X3_30 t_o (y84_c9 o) rfl 30 rfl dX3_readConditions_27 (fun _ => ?_)
          refine j_sipush E 33 rfl dX3_readConditions_30 (by decide) ?_
          refine j_icmp_ne E 36 111 rfl rr9_ (rr (by decide)) dX3_readConditions_33 (by decide) (fun cc31_ => ?_) (fun cc31_ => ?_)
          · exact L111_4   H locs ls  (by first | omega | exact Co_i iv9.2.2.2 (by omega) (by omega)) hw (lv_sub hl [0, 1, 2, 3] rfl)
          · have L51_32 : ∀ (s0_51 : Int) (H : Heap) (locs : List Loc) (ls : Array Slot), inR s0_51 → ((s0_51 = 1 ∧ (y84_c9 o) = 305) ∨ (s0_51 = 0 ∧ (y84_c9 o) = 304)) → WK D cy T (upV (upV (upV (upV (upV v_0 80 y80_c9) 83 y83_c9) 84 y84_c9) 86 y86_c9) 300 y300_c9) A0 s.heap H locs → lv_has ls 5 [(0, .ref o), (1, .int (J 2)), (2, .int (J l2_9)), (3, .int (J l3_9))] → W p l e (rmd 18 0 0) s m ar below meth c H locs 0 0 QW (F0 m 51 ls [.int (J s0_51)]) := by
              intro s0_51 H locs ls r_s0_51 iv51 hw hl
              refine j_istore E 53 rfl [(4, .int (J s0_51)), (0, .ref o), (1, .int (J 2)), (2, .int (J l2_9)), (3, .int (J l3_9))] dX3_readConditions_51 hl (by decide) rfl (fun ls hl => ?_)
              have L69_34 : ∀ (y86_c69 : Nat → Int) (y300_c69 : Nat → Int) (H : Heap) (locs : List Loc) (ls : Array Slot), ((0 ≤ (y86_c69 o) ∧ (y86_c69 o) ≤ 400) ∧ Ro_ (v_0 300) (y300_c69) (T 85 o)) → WK D cy T (upV (upV (upV (upV (upV v_0 80 y80_c9) 83 y83_c9) 84 y84_c9) 86 y86_c69) 300 y300_c69) A0 s.heap H locs → lv_has ls 5 [(0, .ref o), (1, .int (J 2)), (2, .int (J l2_9)), (3, .int (J l3_9)), (4, .int (J s0_51))] → W p l e (rmd 18 0 0) s m ar below meth c H locs 0 0 QW (F0 m 69 ls []) := by
                intro y86_c69 y300_c69 H locs ls iv69 hw hl
                refine j_aload_n E 70 rfl dX3_readConditions_69 rfl (lv_at hl 0 rfl) ?_
                refine zV_v E (c_X3_step l D cy T (upV (upV (upV (upV (upV v_0 80 y80_c9) 83 y83_c9) 84 y84_c9) 86 y86_c69) 300 y300_c69) κ o K_ V_ hO t_o  (show RK_ (y300_c69) (T 120 (T 82 o)) (T 121 (T 82 o)) (((v_0 123) (T 82 o))) K_ V_ from RK_ro hp1 iv69.2 nk_ nv_) (show 0 ≤ (y83_c9 o) ∧ (y83_c9 o) < 400 from by have q_ := RK_lt hp1 (j := (y83_c9 o)) (by omega); omega)) mt_X3_step ml_X3_54 hK hZ hAc hw (cw_rc4 hK hw.1 t_o) hA ⟨Nat.le_of_ble_eq_true rfl, Nat.le_of_ble_eq_true rfl⟩ ⟨Nat.le_of_ble_eq_true rfl, Nat.le_of_ble_eq_true rfl⟩ (As := []) (rest := []) rfl rfl hl.1 (Nat.le_of_ble_eq_true rfl) 73 rfl dX3_readConditions_70 (fun v_36 H locs hq36_ hw => ?_)
                obtain ⟨y83_36, y84_36, ev36_, hh36_⟩ := hq36_
                rw [ev36_] at hw; clear ev36_
                have hw : WK D cy T (upV (upV (upV (upV (upV v_0 80 y80_c9) 83 y83_36) 84 y84_36) 86 y86_c69) 300 y300_c69) A0 s.heap H locs := cw_eq hw (by first | rfl | (funext j_; simp only [upV, reduceIte]; (repeat' split) <;> first | rfl | omega | (subst_vars; rfl)))
                have hh36_ : (y83_36 o) = (y83_c9 o) + 1 ∧ (y84_36 o) = K_ ((y83_c9 o) + 1) := hh36_
                have s_ := hh36_
                refine j_aload_n E 74 rfl dX3_readConditions_73 rfl (lv_at hl 0 rfl) ?_
                refine j_iload_n E 75 rfl dX3_readConditions_74 rfl (lv_at hl 1 rfl) ?_
                refine zV_v E (c_X3_readCondition_n2 l D cy T (upV (upV (upV (upV (upV v_0 80 y80_c9) 83 y83_36) 84 y84_36) 86 y86_c69) 300 y300_c69) κ o K_ V_ hO t_o  (show 0 ≤ (y86_c69 o) ∧ (y86_c69 o) ≤ 400 from by omega) (show RK_ (y300_c69) (T 120 (T 82 o)) (T 121 (T 82 o)) (((v_0 123) (T 82 o))) K_ V_ from RK_ro hp1 iv69.2 nk_ nv_) (show Cs_ K_ ((y83_36 o)) ((y84_36 o)) ((y80_c9 o)) from Cs_st (Co_cs hp2 iv9.2.2.2) (by omega) s_.1 s_.2 (by omega))) mt_X3_readCondition ml_X3_85 hK hZ hAc hw (cw_rc4 hK hw.1 t_o) hA ⟨Nat.le_of_ble_eq_true rfl, Nat.le_of_ble_eq_true rfl⟩ ⟨Nat.le_of_ble_eq_true rfl, Nat.le_of_ble_eq_true rfl⟩ (As := [.int (J 2)]) (rest := []) rfl rfl hl.1 (Nat.le_of_ble_eq_true rfl) 78 rfl dX3_readConditions_75 (fun v_37 H locs hq37_ hw => ?_)
                obtain ⟨y80_37, y83_37, y84_37, y86_37, y300_37, ev37_, hh37_⟩ := hq37_
                rw [ev37_] at hw; clear ev37_
                have hw : WK D cy T (upV (upV (upV (upV (upV v_0 80 y80_37) 83 y83_37) 84 y84_37) 86 y86_37) 300 y300_37) A0 s.heap H locs := cw_eq hw (by first | rfl | (funext j_; simp only [upV, reduceIte]; (repeat' split) <;> first | rfl | omega | (subst_vars; rfl)))
                have hh37_ : (0 ≤ (y86_37 o) ∧ (y86_37 o) ≤ 400) ∧ Ro_ (y300_c69) (y300_37) (T 85 o) ∧ Ck_ S3_ (2 : Int) TX_ K_ V_ ((y83_36 o)) ((y80_c9 o)) ((y83_37 o)) ((y84_37 o)) ((y80_37 o)) := hh37_
                have u_ := hh37_
                rw [s_.1] at u_
                refine j_iload E 80 rfl dX3_readConditions_78 (lv_at hl 4 rfl) ?_
                refine j_if_eq E 83 90 rfl r_s0_51 dX3_readConditions_80 (by decide) (fun cc38_ => ?_) (fun cc38_ => ?_)
                · have L104_39 : ∀ (s0_104 : Int) (H : Heap) (locs : List Loc) (ls : Array Slot), inR s0_104 → (((l2_9 ≠ 0 ∨ s0_51 = 0) ∧ s0_104 = 1) ∨ (l2_9 = 0 ∧ s0_51 ≠ 0 ∧ s0_104 = 0)) → WK D cy T (upV (upV (upV (upV (upV v_0 80 y80_37) 83 y83_37) 84 y84_37) 86 y86_37) 300 y300_37) A0 s.heap H locs → lv_has ls 5 [(0, .ref o), (1, .int (J 2)), (2, .int (J l2_9)), (3, .int (J l3_9)), (4, .int (J s0_51))] → W p l e (rmd 18 0 0) s m ar below meth c H locs 0 0 QW (F0 m 104 ls [.int (J s0_104)]) := by
                    intro s0_104 H locs ls r_s0_104 iv104 hw hl
                    refine j_istore_n E 105 rfl [(2, .int (J s0_104)), (0, .ref o), (1, .int (J 2)), (3, .int (J l3_9)), (4, .int (J s0_51))] dX3_readConditions_104 rfl hl (by decide) rfl (fun ls hl => ?_)
                    refine j_iinc E 108 rfl [(3, .int (J (l3_9 + 1))), (2, .int (J s0_104)), (0, .ref o), (1, .int (J 2)), (4, .int (J s0_51))] dX3_readConditions_105 hl (kk := 3) rfl (by decide) rfl (fun ls hl => ?_)
                    refine j_goto E 9 dX3_readConditions_108 (by decide) ?_
                    exact ih9 s0_104 (l3_9 + 1) y80_37 y83_37 y84_37 y86_37 y300_37 H locs ls r_s0_104 (rr (by omega)) (by first | exact ⟨by omega, Ro_tr iv69.2 (Ro_tr u_.2.1 ro9_), by omega, by rw [show s0_104 = l2_9 by omega]; exact Co_and iv9.2.2.2 (by omega) u_.2.2⟩ | exact ⟨by omega, Ro_tr iv69.2 u_.2.1, by omega, by rw [show s0_104 = 1 by omega]; exact Co_or iv9.2.2.2 (by omega) u_.2.2⟩ | (exfalso; omega)) (by omega) hw (lv_sub hl [2, 3, 1, 0] rfl)
                  refine j_iload_n E 91 rfl dX3_readConditions_90 rfl (lv_at hl 2 rfl) ?_
                  refine j_if_ne E 94 99 rfl r_l2_9 dX3_readConditions_91 (by decide) (fun cc41_ => ?_) (fun cc41_ => ?_)
                  · refine j_iconst E 100 rfl dX3_readConditions_99 ?_
                    refine j_goto E 104 dX3_readConditions_100 (by decide) ?_
                    exact L104_39 1  H locs ls (rr (by decide)) (by omega) hw (lv_sub hl [0, 1, 2, 3, 4] rfl)
                  · refine j_iload E 96 rfl dX3_readConditions_94 (lv_at hl 4 rfl) ?_
                    refine j_if_ne E 99 103 rfl r_s0_51 dX3_readConditions_96 (by decide) (fun cc42_ => ?_) (fun cc42_ => ?_)
                    · exfalso; omega
                    refine j_iconst E 100 rfl dX3_readConditions_99 ?_
                    refine j_goto E 104 dX3_readConditions_100 (by decide) ?_
                    exact L104_39 1  H locs ls (rr (by decide)) (by omega) hw (lv_sub hl [0, 1, 2, 3, 4] rfl)
                · refine j_aload_n E 84 rfl dX3_readConditions_83 rfl (lv_at hl 0 rfl) ?_
                  refine j_sipush E 87 rfl dX3_readConditions_84 (by decide) ?_
                  refine kV_v E (c_X3_emit l D cy T (upV (upV (upV (upV (upV v_0 80 y80_37) 83 y83_37) 84 y84_37) 86 y86_37) 300 y300_37) o ((-305))  t_o (rr (by decide)) (show 0 ≤ (y86_37 o) ∧ (y86_37 o) ≤ 400 from by omega)) mt_X3_emit ml_X3_60 hK hw (cw_rc4 hK hw.1 t_o) hA ⟨Nat.le_of_ble_eq_true rfl, Nat.le_of_ble_eq_true rfl⟩ ⟨Nat.le_of_ble_eq_true rfl, Nat.le_of_ble_eq_true rfl⟩ (As := [.int (J ((-305)))]) (rest := []) rfl rfl hl.1 (Nat.le_of_ble_eq_true rfl) 90 rfl dX3_readConditions_87 (fun v_43 H locs hq43_ hw => ?_)
                  obtain ⟨y86_43, y300_43, ev43_, hh43_⟩ := hq43_
                  rw [ev43_] at hw; clear ev43_
                  have hw : WK D cy T (upV (upV (upV (upV (upV v_0 80 y80_37) 83 y83_37) 84 y84_37) 86 y86_43) 300 y300_43) A0 s.heap H locs := cw_eq hw (by first | rfl | (funext j_; simp only [upV, reduceIte]; (repeat' split) <;> first | rfl | omega | (subst_vars; rfl)))
                  have hh43_ : (0 ≤ (y86_43 o) ∧ (y86_43 o) ≤ 400) ∧ Ro_ (y300_37) (y300_43) (T 85 o) := hh43_
                  have ro9_ := hh43_.2
                  have L104_44 : ∀ (s0_104 : Int) (H : Heap) (locs : List Loc) (ls : Array Slot), inR s0_104 → (((l2_9 ≠ 0 ∨ s0_51 = 0) ∧ s0_104 = 1) ∨ (l2_9 = 0 ∧ s0_51 ≠ 0 ∧ s0_104 = 0)) → WK D cy T (upV (upV (upV (upV (upV v_0 80 y80_37) 83 y83_37) 84 y84_37) 86 y86_43) 300 y300_43) A0 s.heap H locs → lv_has ls 5 [(0, .ref o), (1, .int (J 2)), (2, .int (J l2_9)), (3, .int (J l3_9)), (4, .int (J s0_51))] → W p l e (rmd 18 0 0) s m ar below meth c H locs 0 0 QW (F0 m 104 ls [.int (J s0_104)]) := by
                    intro s0_104 H locs ls r_s0_104 iv104 hw hl
                    refine j_istore_n E 105 rfl [(2, .int (J s0_104)), (0, .ref o), (1, .int (J 2)), (3, .int (J l3_9)), (4, .int (J s0_51))] dX3_readConditions_104 rfl hl (by decide) rfl (fun ls hl => ?_)
                    refine j_iinc E 108 rfl [(3, .int (J (l3_9 + 1))), (2, .int (J s0_104)), (0, .ref o), (1, .int (J 2)), (4, .int (J s0_51))] dX3_readConditions_105 hl (kk := 3) rfl (by decide) rfl (fun ls hl => ?_)
                    refine j_goto E 9 dX3_readConditions_108 (by decide) ?_
                    exact ih9 s0_104 (l3_9 + 1) y80_37 y83_37 y84_37 y86_43 y300_43 H locs ls r_s0_104 (rr (by omega)) (by first | exact ⟨by omega, Ro_tr iv69.2 (Ro_tr u_.2.1 ro9_), by omega, by rw [show s0_104 = l2_9 by omega]; exact Co_and iv9.2.2.2 (by omega) u_.2.2⟩ | exact ⟨by omega, Ro_tr iv69.2 u_.2.1, by omega, by rw [show s0_104 = 1 by omega]; exact Co_or iv9.2.2.2 (by omega) u_.2.2⟩ | (exfalso; omega)) (by omega) hw (lv_sub hl [2, 3, 1, 0] rfl)
                  refine j_iload_n E 91 rfl dX3_readConditions_90 rfl (lv_at hl 2 rfl) ?_
                  refine j_if_ne E 94 99 rfl r_l2_9 dX3_readConditions_91 (by decide) (fun cc46_ => ?_) (fun cc46_ => ?_)
                  · refine j_iconst E 100 rfl dX3_readConditions_99 ?_
                    refine j_goto E 104 dX3_readConditions_100 (by decide) ?_
                    exact L104_44 1  H locs ls (rr (by decide)) (by omega) hw (lv_sub hl [0, 1, 2, 3, 4] rfl)
                  · refine j_iload E 96 rfl dX3_readConditions_94 (lv_at hl 4 rfl) ?_
                    refine j_if_ne E 99 103 rfl r_s0_51 dX3_readConditions_96 (by decide) (fun cc47_ => ?_) (fun cc47_ => ?_)
                    rotate_left; · exfalso; omega
                    refine j_iconst E 104 rfl dX3_readConditions_103 ?_
                    exact L104_44 0  H locs ls (rr (by decide)) (by omega) hw (lv_sub hl [0, 1, 2, 3, 4] rfl)
              refine j_iload E 55 rfl dX3_readConditions_53 (lv_at hl 0 rfl) ?_
              refine j_if_ne E 58 69 rfl r_s0_51 dX3_readConditions_55 (by decide) (fun cc48_ => ?_) (fun cc48_ => ?_)
              · exact L69_34  y86_c9 y300_c9 H locs ls  (by first | exact ⟨by omega, iv9.2.1⟩ | exact ⟨by omega, Ro_tr iv9.2.1 ro7_⟩) hw (lv_sub hl [1, 2, 3, 4, 0] rfl)
              · refine j_iload_n E 59 rfl dX3_readConditions_58 rfl (lv_at hl 3 rfl) ?_
                refine j_if_eq E 62 69 rfl r_l2_9 dX3_readConditions_59 (by decide) (fun cc49_ => ?_) (fun cc49_ => ?_)
                · exact L69_34  y86_c9 y300_c9 H locs ls  (by first | exact ⟨by omega, iv9.2.1⟩ | exact ⟨by omega, Ro_tr iv9.2.1 ro7_⟩) hw (lv_sub hl [1, 2, 3, 4, 0] rfl)
                · refine j_aload_n E 63 rfl dX3_readConditions_62 rfl (lv_at hl 1 rfl) ?_
                  refine j_sipush E 66 rfl dX3_readConditions_63 (by decide) ?_
                  refine kV_v E (c_X3_emit l D cy T (upV (upV (upV (upV (upV v_0 80 y80_c9) 83 y83_c9) 84 y84_c9) 86 y86_c9) 300 y300_c9) o ((-304))  t_o (rr (by decide)) (show 0 ≤ (y86_c9 o) ∧ (y86_c9 o) ≤ 400 from by omega)) mt_X3_emit ml_X3_60 hK hw (cw_rc4 hK hw.1 t_o) hA ⟨Nat.le_of_ble_eq_true rfl, Nat.le_of_ble_eq_true rfl⟩ ⟨Nat.le_of_ble_eq_true rfl, Nat.le_of_ble_eq_true rfl⟩ (As := [.int (J ((-304)))]) (rest := []) rfl rfl hl.1 (Nat.le_of_ble_eq_true rfl) 69 rfl dX3_readConditions_66 (fun v_50 H locs hq50_ hw => ?_)
                  obtain ⟨y86_50, y300_50, ev50_, hh50_⟩ := hq50_
                  rw [ev50_] at hw; clear ev50_
                  have hw : WK D cy T (upV (upV (upV (upV (upV v_0 80 y80_c9) 83 y83_c9) 84 y84_c9) 86 y86_50) 300 y300_50) A0 s.heap H locs := cw_eq hw (by first | rfl | (funext j_; simp only [upV, reduceIte]; (repeat' split) <;> first | rfl | omega | (subst_vars; rfl)))
                  have hh50_ : (0 ≤ (y86_50 o) ∧ (y86_50 o) ≤ 400) ∧ Ro_ (y300_c9) (y300_50) (T 85 o) := hh50_
                  have ro7_ := hh50_.2
                  exact L69_34  y86_50 y300_50 H locs ls  (by first | exact ⟨by omega, iv9.2.1⟩ | exact ⟨by omega, Ro_tr iv9.2.1 ro7_⟩) hw (lv_sub hl [1, 2, 3, 4, 0] rfl)
            refine j_aload_n E 37 rfl dX3_readConditions_36 rfl (lv_at hl 0 rfl) ?_
            refine g_84 E hK hw fl_X3_30 t_o (y84_c9 o) rfl 40 rfl dX3_readConditions_37 (fun _ => ?_)
            refine j_sipush E 43 rfl dX3_readConditions_40 (by decide) ?_
            refine j_icmp_ne E 46 50 rfl rr9_ (rr (by decide)) dX3_readConditions_43 (by decide) (fun cc51_ => ?_) (fun cc51_ => ?_)
            rotate_left; · exfalso; omega
            refine j_iconst E 51 rfl dX3_readConditions_50 ?_
            exact L51_32 0  H locs ls (rr (by decide)) (by omega) hw (lv_sub hl [0, 1, 2, 3] rfl)
  exact L9_2 _ 0 0 y80_1 y83_1 y84_1 y86_1 y300_1 H locs ls (rr (by decide)) (rr (by decide)) (⟨by omega, u0_.2.1, by omega, Co_0 hp2.1.1 u0_.2.2⟩) (Nat.lt_succ_self _) hw (lv_sub hl [2, 3, 1, 0] rfl)
set_option maxHeartbeats 4000000 in
set_option maxRecDepth 100000 in
theorem c_X3_readCondition_n1 (l : Launch) (D : va_G) (cy : Nat → ClassId) (T : Nat → Nat → Nat) (v_0 : Nat → Nat → Int) (κ : Nat → Nat → Nat) (o : Nat) (K_ : Int → Int) (V_ : Int → Int) (hO : ∀ x, ow T x → κ 2 2 ≤ x) (t_o : T 0 o = 4) (hp0 : 0 ≤ (v_0 86 o) ∧ (v_0 86 o) ≤ 400) (hp1 : RK_ (v_0 300) (T 120 (T 82 o)) (T 121 (T 82 o)) ((v_0 123 (T 82 o))) K_ V_) (hp2 : Cs_ K_ ((v_0 83 o)) ((v_0 84 o)) ((v_0 80 o))) : KZ l D cy κ T yX3_readCondition cX3_readCondition 4 none 19 [.ref o, .int (J 1)] v_0 (KV (fun (v_2 : Nat → Nat → Int) => ∃ (y80_2 : Nat → Int) (y83_2 : Nat → Int) (y84_2 : Nat → Int) (y86_2 : Nat → Int) (y300_2 : Nat → Int) , v_2 = upV (upV (upV (upV (upV v_0 80 y80_2) 83 y83_2) 84 y84_2) 86 y86_2) 300 y300_2 ∧ ((0 ≤ (y86_2 o) ∧ (y86_2 o) ≤ 400) ∧ Ro_ (v_0 300) (y300_2) (T 85 o) ∧ Ck_ S3_ (1 : Int) TX_ K_ V_ ((v_0 83 o)) ((v_0 80 o)) ((y83_2 o)) ((y84_2 o)) ((y80_2 o))))) := by
  refine KZ.ofv (by decide) (Nat.le_of_ble_eq_true rfl) hO ?_
  intro p e s m below meth c ls ar QW A0 H locs E hK hZ hA hAc hw hl hret
  have hl : lv_has ls 4 [(0, .ref o), (1, .int (J 1))] := hl
  have hT : WT T := hw.1.2.1
  have cs_ := hp2
  unfold Cs_ at cs_
  have nk_ : T 120 (T 82 o) ≠ T 85 o := ro_ne (wo_120 hT (wt_82 hT t_o)) (wo_85 hT t_o) (by decide) (by decide) (by omega)
  have nv_ : T 121 (T 82 o) ≠ T 85 o := ro_ne (wo_121 hT (wt_82 hT t_o)) (wo_85 hT t_o) (by decide) (by decide) (by omega)
  refine j_aload_n E 1 rfl dX3_readCondition_0 rfl (lv_at hl 0 rfl) ?_
  refine g_84 E hK hw fl_X3_30 t_o (v_0 84 o) rfl 4 rfl dX3_readCondition_1 (fun rr1_ => ?_)
  refine j_bipush E 6 rfl dX3_readCondition_4 (by decide) ?_
  refine j_icmp_eq E 9 19 rfl rr1_ (rr (by decide)) dX3_readCondition_6 (by decide) (fun cc2_ => ?_) (fun cc2_ => ?_)
  · refine j_iconst E 20 rfl dX3_readCondition_19 ?_
    refine j_goto E 24 dX3_readCondition_20 (by decide) ?_
    refine j_istore_n E 25 rfl [(2, .int (J 1)), (0, .ref o), (1, .int (J 1))] dX3_readCondition_24 rfl hl (by decide) rfl (fun ls hl => ?_)
    refine j_iload_n E 26 rfl dX3_readCondition_25 rfl (lv_at hl 0 rfl) ?_
    refine j_if_eq E 29 43 rfl (rr (by decide)) dX3_readCondition_26 (by decide) (fun cc3_ => absurd cc3_ (by decide)) (fun _ => ?_)
    refine j_iload_n E 30 rfl dX3_readCondition_29 rfl (lv_at hl 2 rfl) ?_
    refine j_bipush E 32 rfl dX3_readCondition_30 (by decide) ?_
    refine j_icmp_lt E 35 43 rfl (rr (by decide)) (rr (by decide)) dX3_readCondition_32 (by decide) (fun _ => ?_) (fun cc4_ => absurd cc4_ (by decide))
    refine j_aload_n E 44 rfl dX3_readCondition_43 rfl (lv_at hl 1 rfl) ?_
    refine g_84 E hK hw fl_X3_30 t_o (v_0 84 o) rfl 47 rfl dX3_readCondition_44 (fun _ => ?_)
    refine j_bipush E 49 rfl dX3_readCondition_47 (by decide) ?_
    refine j_icmp_ne E 52 72 rfl rr1_ (rr (by decide)) dX3_readCondition_49 (by decide) (fun cc5_ => ?_) (fun cc5_ => ?_)
    · exfalso; omega
    refine j_aload_n E 53 rfl dX3_readCondition_52 rfl (lv_at hl 1 rfl) ?_
    refine zV_v E (c_X3_step l D cy T (v_0) κ o K_ V_ hO t_o  (show RK_ (v_0 300) (T 120 (T 82 o)) (T 121 (T 82 o)) (((v_0 123) (T 82 o))) K_ V_ from hp1) (show 0 ≤ ((v_0 83) o) ∧ ((v_0 83) o) < 400 from by have q_ := RK_lt hp1 (j := (v_0 83 o)) (by omega); omega)) mt_X3_step ml_X3_54 hK hZ hAc hw (cw_rc4 hK hw.1 t_o) hA ⟨Nat.le_of_ble_eq_true rfl, Nat.le_of_ble_eq_true rfl⟩ ⟨Nat.le_of_ble_eq_true rfl, Nat.le_of_ble_eq_true rfl⟩ (As := []) (rest := []) rfl rfl hl.1 (Nat.le_of_ble_eq_true rfl) 56 rfl dX3_readCondition_53 (fun v_6 H locs hq6_ hw => ?_)
    obtain ⟨y83_6, y84_6, ev6_, hh6_⟩ := hq6_
    rw [ev6_] at hw; clear ev6_
    have hw : WK D cy T (upV (upV v_0 83 y83_6) 84 y84_6) A0 s.heap H locs := cw_eq hw (by first | rfl | (funext j_; simp only [upV, reduceIte]; (repeat' split) <;> first | rfl | omega | (subst_vars; rfl)))
    have hh6_ : (y83_6 o) = ((v_0 83) o) + 1 ∧ (y84_6 o) = K_ (((v_0 83) o) + 1) := hh6_
    have s1_ := hh6_
    refine j_aload_n E 57 rfl dX3_readCondition_56 rfl (lv_at hl 1 rfl) ?_
    refine j_iload_n E 58 rfl dX3_readCondition_57 rfl (lv_at hl 2 rfl) ?_
    refine j_iconst E 59 rfl dX3_readCondition_58 ?_
    refine j_iadd E 60 rfl dX3_readCondition_59 ?_
    refine j_lit (z := 2) (by decide) ?_
    refine zV_v E (c_X3_readConditions_n2 l D cy T (upV (upV v_0 83 y83_6) 84 y84_6) κ o K_ V_ hO t_o  (show 0 ≤ ((v_0 86) o) ∧ ((v_0 86) o) ≤ 400 from by omega) (show RK_ (v_0 300) (T 120 (T 82 o)) (T 121 (T 82 o)) (((v_0 123) (T 82 o))) K_ V_ from hp1) (show Cs_ K_ ((y83_6 o)) ((y84_6 o)) (((v_0 80) o)) from Cs_st hp2 (by omega) s1_.1 s1_.2 (by omega))) mt_X3_readConditions ml_X3_57 hK hZ hAc hw (cw_rc4 hK hw.1 t_o) hA ⟨Nat.le_of_ble_eq_true rfl, Nat.le_of_ble_eq_true rfl⟩ ⟨Nat.le_of_ble_eq_true rfl, Nat.le_of_ble_eq_true rfl⟩ (As := [.int (J 2)]) (rest := []) rfl rfl hl.1 (Nat.le_of_ble_eq_true rfl) 63 rfl dX3_readCondition_60 (fun v_7 H locs hq7_ hw => ?_)
    obtain ⟨y80_7, y83_7, y84_7, y86_7, y300_7, ev7_, hh7_⟩ := hq7_
    rw [ev7_] at hw; clear ev7_
    have hw : WK D cy T (upV (upV (upV (upV (upV v_0 80 y80_7) 83 y83_7) 84 y84_7) 86 y86_7) 300 y300_7) A0 s.heap H locs := cw_eq hw (by first | rfl | (funext j_; simp only [upV, reduceIte]; (repeat' split) <;> first | rfl | omega | (subst_vars; rfl)))
    have hh7_ : (0 ≤ (y86_7 o) ∧ (y86_7 o) ≤ 400) ∧ Ro_ (v_0 300) (y300_7) (T 85 o) ∧ Ck_ S4_ (2 : Int) (NA_ K_) K_ V_ ((y83_6 o)) (((v_0 80) o)) ((y83_7 o)) ((y84_7 o)) ((y80_7 o)) := hh7_
    have b_ := hh7_
    rw [s1_.1] at b_
    refine j_aload_n E 64 rfl dX3_readCondition_63 rfl (lv_at hl 1 rfl) ?_
    refine j_bipush E 66 rfl dX3_readCondition_64 (by decide) ?_
    refine zV_v E (c_X3_take l D cy T (upV (upV (upV (upV (upV v_0 80 y80_7) 83 y83_7) 84 y84_7) 86 y86_7) 300 y300_7) κ o 41 K_ V_ hO t_o (rr (by decide)) (show RK_ (y300_7) (T 120 (T 82 o)) (T 121 (T 82 o)) (((v_0 123) (T 82 o))) K_ V_ from RK_ro hp1 b_.2.1 nk_ nv_) (show Cs_ K_ ((y83_7 o)) ((y84_7 o)) ((y80_7 o)) from Ck_cs (Cs_st (a1 := v_0 83 o + 1) (k1 := K_ (v_0 83 o + 1)) hp2 (by omega) rfl rfl (by omega)) b_.2.2) (show 3 < (41 : Int) from by omega)) mt_X3_take ml_X3_47 hK hZ hAc hw (cw_rc4 hK hw.1 t_o) hA ⟨Nat.le_of_ble_eq_true rfl, Nat.le_of_ble_eq_true rfl⟩ ⟨Nat.le_of_ble_eq_true rfl, Nat.le_of_ble_eq_true rfl⟩ (As := [.int (J 41)]) (rest := []) rfl rfl hl.1 (Nat.le_of_ble_eq_true rfl) 69 rfl dX3_readCondition_66 (fun v_8 H locs hq8_ hw => ?_)
    obtain ⟨y80_8, y83_8, y84_8, ev8_, hh8_⟩ := hq8_
    rw [ev8_] at hw; clear ev8_
    have hw : WK D cy T (upV (upV (upV (upV (upV v_0 80 y80_8) 83 y83_8) 84 y84_8) 86 y86_7) 300 y300_7) A0 s.heap H locs := cw_eq hw (by first | rfl | (funext j_; simp only [upV, reduceIte]; (repeat' split) <;> first | rfl | omega | (subst_vars; rfl)))
    have hh8_ : (((y84_7 o) = (41 : Int)) ∧ (y83_8 o) = (y83_7 o) + 1 ∧ (y84_8 o) = K_ ((y83_7 o) + 1) ∧ (y80_8 o) = (y80_7 o)) ∨ (¬ ((y84_7 o) = (41 : Int)) ∧ (y83_8 o) = (y83_7 o) ∧ (y84_8 o) = 2 ∧ (((y80_7 o) = 0 ∧ (y80_8 o) = 1) ∨ (¬ (y80_7 o) = 0 ∧ (y80_8 o) = (y80_7 o)))) := hh8_
    have t_ := hh8_
    refine j_goto E 126 dX3_readCondition_69 (by decide) ?_
    exact hret 126 (upV (upV (upV (upV (upV v_0 80 y80_8) 83 y83_8) 84 y84_8) 86 y86_7) 300 y300_7) _ _ ls hw ⟨y80_8, y83_8, y84_8, y86_7, y300_7, rfl, by first | exact ⟨by omega, Ro_rf, ck_deep rfl hp2 (by omega) rfl r_.1 r_.2⟩ | exact ⟨by omega, b_.2.1, ck_bra (by omega) hp2 (by omega) b_.2.2 t_ (fun q_ => (RK_lt hp1 (ck_k b_.2.2 q_)).2)⟩ | exact ⟨by omega, Ro_tr n_.2.1 ro_, ck_not (by omega) hp2 (by omega) n_.2.2⟩ | exact ⟨by omega, Ro_tr e1_.2.1 (Ro_tr e2_.2.1 ro_), ck_cmp hp2 (by omega) (by omega) e1_.2.2 t_ e2_.2.2⟩⟩ dX3_readCondition_126
  · refine j_aload_n E 10 rfl dX3_readCondition_9 rfl (lv_at hl 0 rfl) ?_
    refine g_84 E hK hw fl_X3_30 t_o (v_0 84 o) rfl 13 rfl dX3_readCondition_10 (fun _ => ?_)
    refine j_sipush E 16 rfl dX3_readCondition_13 (by decide) ?_
    refine j_icmp_ne E 19 23 rfl rr1_ (rr (by decide)) dX3_readCondition_16 (by decide) (fun cc9_ => ?_) (fun cc9_ => ?_)
    · refine j_iconst E 24 rfl dX3_readCondition_23 ?_
      refine j_istore_n E 25 rfl [(2, .int (J 0)), (0, .ref o), (1, .int (J 1))] dX3_readCondition_24 rfl hl (by decide) rfl (fun ls hl => ?_)
      refine j_iload_n E 26 rfl dX3_readCondition_25 rfl (lv_at hl 0 rfl) ?_
      refine j_if_eq E 29 43 rfl (rr (by decide)) dX3_readCondition_26 (by decide) (fun _ => ?_) (fun cc10_ => absurd cc10_ (by decide))
      refine j_aload_n E 44 rfl dX3_readCondition_43 rfl (lv_at hl 1 rfl) ?_
      refine g_84 E hK hw fl_X3_30 t_o (v_0 84 o) rfl 47 rfl dX3_readCondition_44 (fun _ => ?_)
      refine j_bipush E 49 rfl dX3_readCondition_47 (by decide) ?_
      refine j_icmp_ne E 52 72 rfl rr1_ (rr (by decide)) dX3_readCondition_49 (by decide) (fun cc11_ => ?_) (fun cc11_ => ?_)
      rotate_left; · exfalso; omega
      refine j_aload_n E 73 rfl dX3_readCondition_72 rfl (lv_at hl 1 rfl) ?_
      refine g_84 E hK hw fl_X3_30 t_o (v_0 84 o) rfl 76 rfl dX3_readCondition_73 (fun _ => ?_)
      refine j_sipush E 79 rfl dX3_readCondition_76 (by decide) ?_
      refine j_icmp_ne E 82 103 rfl rr1_ (rr (by decide)) dX3_readCondition_79 (by decide) (fun cc12_ => ?_) (fun cc12_ => ?_)
      rotate_left; · exfalso; omega
      refine j_aload_n E 104 rfl dX3_readCondition_103 rfl (lv_at hl 1 rfl) ?_
      refine zV_v E (c_X3_readSum l D cy T (v_0) κ o K_ V_ hO t_o  (show 0 ≤ ((v_0 86) o) ∧ ((v_0 86) o) ≤ 400 from by omega) (show RK_ (v_0 300) (T 120 (T 82 o)) (T 121 (T 82 o)) (((v_0 123) (T 82 o))) K_ V_ from hp1) (show Cs_ K_ (((v_0 83) o)) (((v_0 84) o)) (((v_0 80) o)) from hp2)) mt_X3_readSum ml_X3_51 hK hZ hAc hw (cw_rc4 hK hw.1 t_o) hA ⟨Nat.le_of_ble_eq_true rfl, Nat.le_of_ble_eq_true rfl⟩ ⟨Nat.le_of_ble_eq_true rfl, Nat.le_of_ble_eq_true rfl⟩ (As := []) (rest := []) rfl rfl hl.1 (Nat.le_of_ble_eq_true rfl) 107 rfl dX3_readCondition_104 (fun v_13 H locs hq13_ hw => ?_)
      obtain ⟨y80_13, y83_13, y84_13, y86_13, y300_13, ev13_, hh13_⟩ := hq13_
      rw [ev13_] at hw; clear ev13_
      have hw : WK D cy T (upV (upV (upV (upV (upV v_0 80 y80_13) 83 y83_13) 84 y84_13) 86 y86_13) 300 y300_13) A0 s.heap H locs := cw_eq hw (by first | rfl | (funext j_; simp only [upV, reduceIte]; (repeat' split) <;> first | rfl | omega | (subst_vars; rfl)))
      have hh13_ : (0 ≤ (y86_13 o) ∧ (y86_13 o) ≤ 400) ∧ Ro_ (v_0 300) (y300_13) (T 85 o) ∧ Cp_ S3_ (N4_ K_) K_ V_ (((v_0 83) o)) (((v_0 80) o)) ((y83_13 o)) ((y84_13 o)) ((y80_13 o)) := hh13_
      have e1_ := hh13_
      refine j_aload_n E 108 rfl dX3_readCondition_107 rfl (lv_at hl 1 rfl) ?_
      refine g_84 E hK hw fl_X3_30 t_o (y84_13 o) rfl 111 rfl dX3_readCondition_108 (fun rr14_ => ?_)
      refine j_istore_n E 112 rfl [(3, .int (J (y84_13 o))), (2, .int (J 0)), (0, .ref o), (1, .int (J 1))] dX3_readCondition_111 rfl hl (by decide) rfl (fun ls hl => ?_)
      refine j_aload_n E 113 rfl dX3_readCondition_112 rfl (lv_at hl 2 rfl) ?_
      refine zV_v E (c_X3_takeComparison l D cy T (upV (upV (upV (upV (upV v_0 80 y80_13) 83 y83_13) 84 y84_13) 86 y86_13) 300 y300_13) κ o K_ V_ hO t_o  (show RK_ (y300_13) (T 120 (T 82 o)) (T 121 (T 82 o)) (((v_0 123) (T 82 o))) K_ V_ from RK_ro hp1 e1_.2.1 nk_ nv_) (show Cs_ K_ ((y83_13 o)) ((y84_13 o)) ((y80_13 o)) from Cp_cs hp2 e1_.2.2)) mt_X3_takeComparison ml_X3_88 hK hZ hAc hw (cw_rc4 hK hw.1 t_o) hA ⟨Nat.le_of_ble_eq_true rfl, Nat.le_of_ble_eq_true rfl⟩ ⟨Nat.le_of_ble_eq_true rfl, Nat.le_of_ble_eq_true rfl⟩ (As := []) (rest := []) rfl rfl hl.1 (Nat.le_of_ble_eq_true rfl) 116 rfl dX3_readCondition_113 (fun v_15 H locs hq15_ hw => ?_)
      obtain ⟨y80_15, y83_15, y84_15, ev15_, hh15_⟩ := hq15_
      rw [ev15_] at hw; clear ev15_
      have hw : WK D cy T (upV (upV (upV (upV (upV v_0 80 y80_15) 83 y83_15) 84 y84_15) 86 y86_13) 300 y300_13) A0 s.heap H locs := cw_eq hw (by first | rfl | (funext j_; simp only [upV, reduceIte]; (repeat' split) <;> first | rfl | omega | (subst_vars; rfl)))
      have hh15_ : (((y84_13 o) = 60 ∨ (y84_13 o) = 61 ∨ (y84_13 o) = 62) ∧ (y83_15 o) = (y83_13 o) + 1 ∧ (y84_15 o) = K_ ((y83_13 o) + 1) ∧ (y80_15 o) = (y80_13 o)) ∨ (¬ ((y84_13 o) = 60 ∨ (y84_13 o) = 61 ∨ (y84_13 o) = 62) ∧ (y83_15 o) = (y83_13 o) ∧ (y84_15 o) = 2 ∧ (((y80_13 o) = 0 ∧ (y80_15 o) = 1) ∨ (¬ (y80_13 o) = 0 ∧ (y80_15 o) = (y80_13 o)))) := hh15_
      have t_ := hh15_
      refine j_aload_n E 117 rfl dX3_readCondition_116 rfl (lv_at hl 2 rfl) ?_
      refine zV_v E (c_X3_readSum l D cy T (upV (upV (upV (upV (upV v_0 80 y80_15) 83 y83_15) 84 y84_15) 86 y86_13) 300 y300_13) κ o K_ V_ hO t_o  (show 0 ≤ (y86_13 o) ∧ (y86_13 o) ≤ 400 from by omega) (show RK_ (y300_13) (T 120 (T 82 o)) (T 121 (T 82 o)) (((v_0 123) (T 82 o))) K_ V_ from RK_ro hp1 e1_.2.1 nk_ nv_) (show Cs_ K_ ((y83_15 o)) ((y84_15 o)) ((y80_15 o)) from Ct_cs (Cp_cs hp2 e1_.2.2) t_ (fun q_ => (RK_lt hp1 q_).2))) mt_X3_readSum ml_X3_51 hK hZ hAc hw (cw_rc4 hK hw.1 t_o) hA ⟨Nat.le_of_ble_eq_true rfl, Nat.le_of_ble_eq_true rfl⟩ ⟨Nat.le_of_ble_eq_true rfl, Nat.le_of_ble_eq_true rfl⟩ (As := []) (rest := []) rfl rfl hl.1 (Nat.le_of_ble_eq_true rfl) 120 rfl dX3_readCondition_117 (fun v_16 H locs hq16_ hw => ?_)
      obtain ⟨y80_16, y83_16, y84_16, y86_16, y300_16, ev16_, hh16_⟩ := hq16_
      rw [ev16_] at hw; clear ev16_
      have hw : WK D cy T (upV (upV (upV (upV (upV v_0 80 y80_16) 83 y83_16) 84 y84_16) 86 y86_16) 300 y300_16) A0 s.heap H locs := cw_eq hw (by first | rfl | (funext j_; simp only [upV, reduceIte]; (repeat' split) <;> first | rfl | omega | (subst_vars; rfl)))
      have hh16_ : (0 ≤ (y86_16 o) ∧ (y86_16 o) ≤ 400) ∧ Ro_ (y300_13) (y300_16) (T 85 o) ∧ Cp_ S3_ (N4_ K_) K_ V_ ((y83_15 o)) ((y80_15 o)) ((y83_16 o)) ((y84_16 o)) ((y80_16 o)) := hh16_
      have e2_ := hh16_
      refine j_aload_n E 121 rfl dX3_readCondition_120 rfl (lv_at hl 2 rfl) ?_
      refine j_iload_n E 122 rfl dX3_readCondition_121 rfl (lv_at hl 0 rfl) ?_
      refine j_ineg E 123 rfl dX3_readCondition_122 ?_
      refine j_norm (fun zz17_ rr17_ ee17_ => ?_)
      refine kV_v E (c_X3_emit l D cy T (upV (upV (upV (upV (upV v_0 80 y80_16) 83 y83_16) 84 y84_16) 86 y86_16) 300 y300_16) o zz17_  t_o rr17_ (show 0 ≤ (y86_16 o) ∧ (y86_16 o) ≤ 400 from by omega)) mt_X3_emit ml_X3_60 hK hw (cw_rc4 hK hw.1 t_o) hA ⟨Nat.le_of_ble_eq_true rfl, Nat.le_of_ble_eq_true rfl⟩ ⟨Nat.le_of_ble_eq_true rfl, Nat.le_of_ble_eq_true rfl⟩ (As := [.int (J zz17_)]) (rest := []) rfl rfl hl.1 (Nat.le_of_ble_eq_true rfl) 126 rfl dX3_readCondition_123 (fun v_18 H locs hq18_ hw => ?_)
      obtain ⟨y86_18, y300_18, ev18_, hh18_⟩ := hq18_
      rw [ev18_] at hw; clear ev18_
      have hw : WK D cy T (upV (upV (upV (upV (upV v_0 80 y80_16) 83 y83_16) 84 y84_16) 86 y86_18) 300 y300_18) A0 s.heap H locs := cw_eq hw (by first | rfl | (funext j_; simp only [upV, reduceIte]; (repeat' split) <;> first | rfl | omega | (subst_vars; rfl)))
      have hh18_ : (0 ≤ (y86_18 o) ∧ (y86_18 o) ≤ 400) ∧ Ro_ (y300_16) (y300_18) (T 85 o) := hh18_
      have ro_ := hh18_.2
      exact hret 126 (upV (upV (upV (upV (upV v_0 80 y80_16) 83 y83_16) 84 y84_16) 86 y86_18) 300 y300_18) _ _ ls hw ⟨y80_16, y83_16, y84_16, y86_18, y300_18, rfl, by first | exact ⟨by omega, Ro_rf, ck_deep rfl hp2 (by omega) rfl r_.1 r_.2⟩ | exact ⟨by omega, b_.2.1, ck_bra (by omega) hp2 (by omega) b_.2.2 t_ (fun q_ => (RK_lt hp1 (ck_k b_.2.2 q_)).2)⟩ | exact ⟨by omega, Ro_tr n_.2.1 ro_, ck_not (by omega) hp2 (by omega) n_.2.2⟩ | exact ⟨by omega, Ro_tr e1_.2.1 (Ro_tr e2_.2.1 ro_), ck_cmp hp2 (by omega) (by omega) e1_.2.2 t_ e2_.2.2⟩⟩ dX3_readCondition_126
    · refine j_iconst E 20 rfl dX3_readCondition_19 ?_
      refine j_goto E 24 dX3_readCondition_20 (by decide) ?_
      refine j_istore_n E 25 rfl [(2, .int (J 1)), (0, .ref o), (1, .int (J 1))] dX3_readCondition_24 rfl hl (by decide) rfl (fun ls hl => ?_)
      refine j_iload_n E 26 rfl dX3_readCondition_25 rfl (lv_at hl 0 rfl) ?_
      refine j_if_eq E 29 43 rfl (rr (by decide)) dX3_readCondition_26 (by decide) (fun cc19_ => absurd cc19_ (by decide)) (fun _ => ?_)
      refine j_iload_n E 30 rfl dX3_readCondition_29 rfl (lv_at hl 2 rfl) ?_
      refine j_bipush E 32 rfl dX3_readCondition_30 (by decide) ?_
      refine j_icmp_lt E 35 43 rfl (rr (by decide)) (rr (by decide)) dX3_readCondition_32 (by decide) (fun _ => ?_) (fun cc20_ => absurd cc20_ (by decide))
      refine j_aload_n E 44 rfl dX3_readCondition_43 rfl (lv_at hl 1 rfl) ?_
      refine g_84 E hK hw fl_X3_30 t_o (v_0 84 o) rfl 47 rfl dX3_readCondition_44 (fun _ => ?_)
      refine j_bipush E 49 rfl dX3_readCondition_47 (by decide) ?_
      refine j_icmp_ne E 52 72 rfl rr1_ (rr (by decide)) dX3_readCondition_49 (by decide) (fun cc21_ => ?_) (fun cc21_ => ?_)
      rotate_left; · exfalso; omega
      refine j_aload_n E 73 rfl dX3_readCondition_72 rfl (lv_at hl 1 rfl) ?_
      refine g_84 E hK hw fl_X3_30 t_o (v_0 84 o) rfl 76 rfl dX3_readCondition_73 (fun _ => ?_)
      refine j_sipush E 79 rfl dX3_readCondition_76 (by decide) ?_
      refine j_icmp_ne E 82 103 rfl rr1_ (rr (by decide)) dX3_readCondition_79 (by decide) (fun cc22_ => ?_) (fun cc22_ => ?_)
      · exfalso; omega
      refine j_aload_n E 83 rfl dX3_readCondition_82 rfl (lv_at hl 1 rfl) ?_
      refine zV_v E (c_X3_step l D cy T (v_0) κ o K_ V_ hO t_o  (show RK_ (v_0 300) (T 120 (T 82 o)) (T 121 (T 82 o)) (((v_0 123) (T 82 o))) K_ V_ from hp1) (show 0 ≤ ((v_0 83) o) ∧ ((v_0 83) o) < 400 from by have q_ := RK_lt hp1 (j := (v_0 83 o)) (by omega); omega)) mt_X3_step ml_X3_54 hK hZ hAc hw (cw_rc4 hK hw.1 t_o) hA ⟨Nat.le_of_ble_eq_true rfl, Nat.le_of_ble_eq_true rfl⟩ ⟨Nat.le_of_ble_eq_true rfl, Nat.le_of_ble_eq_true rfl⟩ (As := []) (rest := []) rfl rfl hl.1 (Nat.le_of_ble_eq_true rfl) 86 rfl dX3_readCondition_83 (fun v_23 H locs hq23_ hw => ?_)
      obtain ⟨y83_23, y84_23, ev23_, hh23_⟩ := hq23_
      rw [ev23_] at hw; clear ev23_
      have hw : WK D cy T (upV (upV v_0 83 y83_23) 84 y84_23) A0 s.heap H locs := cw_eq hw (by first | rfl | (funext j_; simp only [upV, reduceIte]; (repeat' split) <;> first | rfl | omega | (subst_vars; rfl)))
      have hh23_ : (y83_23 o) = ((v_0 83) o) + 1 ∧ (y84_23 o) = K_ (((v_0 83) o) + 1) := hh23_
      have s2_ := hh23_
      refine j_aload_n E 87 rfl dX3_readCondition_86 rfl (lv_at hl 1 rfl) ?_
      refine j_iload_n E 88 rfl dX3_readCondition_87 rfl (lv_at hl 2 rfl) ?_
      refine j_iconst E 89 rfl dX3_readCondition_88 ?_
      refine j_iadd E 90 rfl dX3_readCondition_89 ?_
      refine j_lit (z := 2) (by decide) ?_
      refine zV_v E (c_X3_readCondition_n2 l D cy T (upV (upV v_0 83 y83_23) 84 y84_23) κ o K_ V_ hO t_o  (show 0 ≤ ((v_0 86) o) ∧ ((v_0 86) o) ≤ 400 from by omega) (show RK_ (v_0 300) (T 120 (T 82 o)) (T 121 (T 82 o)) (((v_0 123) (T 82 o))) K_ V_ from hp1) (show Cs_ K_ ((y83_23 o)) ((y84_23 o)) (((v_0 80) o)) from Cs_st hp2 (by omega) s2_.1 s2_.2 (by omega))) mt_X3_readCondition ml_X3_85 hK hZ hAc hw (cw_rc4 hK hw.1 t_o) hA ⟨Nat.le_of_ble_eq_true rfl, Nat.le_of_ble_eq_true rfl⟩ ⟨Nat.le_of_ble_eq_true rfl, Nat.le_of_ble_eq_true rfl⟩ (As := [.int (J 2)]) (rest := []) rfl rfl hl.1 (Nat.le_of_ble_eq_true rfl) 93 rfl dX3_readCondition_90 (fun v_24 H locs hq24_ hw => ?_)
      obtain ⟨y80_24, y83_24, y84_24, y86_24, y300_24, ev24_, hh24_⟩ := hq24_
      rw [ev24_] at hw; clear ev24_
      have hw : WK D cy T (upV (upV (upV (upV (upV v_0 80 y80_24) 83 y83_24) 84 y84_24) 86 y86_24) 300 y300_24) A0 s.heap H locs := cw_eq hw (by first | rfl | (funext j_; simp only [upV, reduceIte]; (repeat' split) <;> first | rfl | omega | (subst_vars; rfl)))
      have hh24_ : (0 ≤ (y86_24 o) ∧ (y86_24 o) ≤ 400) ∧ Ro_ (v_0 300) (y300_24) (T 85 o) ∧ Ck_ S3_ (2 : Int) TX_ K_ V_ ((y83_23 o)) (((v_0 80) o)) ((y83_24 o)) ((y84_24 o)) ((y80_24 o)) := hh24_
      have n_ := hh24_
      rw [s2_.1] at n_
      refine j_aload_n E 94 rfl dX3_readCondition_93 rfl (lv_at hl 1 rfl) ?_
      refine j_sipush E 97 rfl dX3_readCondition_94 (by decide) ?_
      refine kV_v E (c_X3_emit l D cy T (upV (upV (upV (upV (upV v_0 80 y80_24) 83 y83_24) 84 y84_24) 86 y86_24) 300 y300_24) o ((-306))  t_o (rr (by decide)) (show 0 ≤ (y86_24 o) ∧ (y86_24 o) ≤ 400 from by omega)) mt_X3_emit ml_X3_60 hK hw (cw_rc4 hK hw.1 t_o) hA ⟨Nat.le_of_ble_eq_true rfl, Nat.le_of_ble_eq_true rfl⟩ ⟨Nat.le_of_ble_eq_true rfl, Nat.le_of_ble_eq_true rfl⟩ (As := [.int (J ((-306)))]) (rest := []) rfl rfl hl.1 (Nat.le_of_ble_eq_true rfl) 100 rfl dX3_readCondition_97 (fun v_25 H locs hq25_ hw => ?_)
      obtain ⟨y86_25, y300_25, ev25_, hh25_⟩ := hq25_
      rw [ev25_] at hw; clear ev25_
      have hw : WK D cy T (upV (upV (upV (upV (upV v_0 80 y80_24) 83 y83_24) 84 y84_24) 86 y86_25) 300 y300_25) A0 s.heap H locs := cw_eq hw (by first | rfl | (funext j_; simp only [upV, reduceIte]; (repeat' split) <;> first | rfl | omega | (subst_vars; rfl)))
      have hh25_ : (0 ≤ (y86_25 o) ∧ (y86_25 o) ≤ 400) ∧ Ro_ (y300_24) (y300_25) (T 85 o) := hh25_
      have ro_ := hh25_.2
      refine j_goto E 126 dX3_readCondition_100 (by decide) ?_
      exact hret 126 (upV (upV (upV (upV (upV v_0 80 y80_24) 83 y83_24) 84 y84_24) 86 y86_25) 300 y300_25) _ _ ls hw ⟨y80_24, y83_24, y84_24, y86_25, y300_25, rfl, by first | exact ⟨by omega, Ro_rf, ck_deep rfl hp2 (by omega) rfl r_.1 r_.2⟩ | exact ⟨by omega, b_.2.1, ck_bra (by omega) hp2 (by omega) b_.2.2 t_ (fun q_ => (RK_lt hp1 (ck_k b_.2.2 q_)).2)⟩ | exact ⟨by omega, Ro_tr n_.2.1 ro_, ck_not (by omega) hp2 (by omega) n_.2.2⟩ | exact ⟨by omega, Ro_tr e1_.2.1 (Ro_tr e2_.2.1 ro_), ck_cmp hp2 (by omega) (by omega) e1_.2.2 t_ e2_.2.2⟩⟩ dX3_readCondition_126
set_option maxHeartbeats 4000000 in
set_option maxRecDepth 100000 in
theorem c_X3_readConditions_n1 (l : Launch) (D : va_G) (cy : Nat → ClassId) (T : Nat → Nat → Nat) (v_0 : Nat → Nat → Int) (κ : Nat → Nat → Nat) (o : Nat) (K_ : Int → Int) (V_ : Int → Int) (hO : ∀ x, ow T x → κ 2 2 ≤ x) (t_o : T 0 o = 4) (hp0 : 0 ≤ (v_0 86 o) ∧ (v_0 86 o) ≤ 400) (hp1 : RK_ (v_0 300) (T 120 (T 82 o)) (T 121 (T 82 o)) ((v_0 123 (T 82 o))) K_ V_) (hp2 : Cs_ K_ ((v_0 83 o)) ((v_0 84 o)) ((v_0 80 o))) : KZ l D cy κ T yX3_readConditions cX3_readConditions 5 none 20 [.ref o, .int (J 1)] v_0 (KV (fun (v_2 : Nat → Nat → Int) => ∃ (y80_2 : Nat → Int) (y83_2 : Nat → Int) (y84_2 : Nat → Int) (y86_2 : Nat → Int) (y300_2 : Nat → Int) , v_2 = upV (upV (upV (upV (upV v_0 80 y80_2) 83 y83_2) 84 y84_2) 86 y86_2) 300 y300_2 ∧ ((0 ≤ (y86_2 o) ∧ (y86_2 o) ≤ 400) ∧ Ro_ (v_0 300) (y300_2) (T 85 o) ∧ Ck_ S4_ (1 : Int) (NA_ K_) K_ V_ ((v_0 83 o)) ((v_0 80 o)) ((y83_2 o)) ((y84_2 o)) ((y80_2 o))))) := by
  refine KZ.ofv (by decide) (Nat.le_of_ble_eq_true rfl) hO ?_
  intro p e s m below meth c ls ar QW A0 H locs E hK hZ hA hAc hw hl hret
  have hl : lv_has ls 5 [(0, .ref o), (1, .int (J 1))] := hl
  have hT : WT T := hw.1.2.1
  have nk_ : T 120 (T 82 o) ≠ T 85 o := ro_ne (wo_120 hT (wt_82 hT t_o)) (wo_85 hT t_o) (by decide) (by decide) (by omega)
  have nv_ : T 121 (T 82 o) ≠ T 85 o := ro_ne (wo_121 hT (wt_82 hT t_o)) (wo_85 hT t_o) (by decide) (by decide) (by omega)
  have c0_ := hp2.1
  refine j_aload_n E 1 rfl dX3_readConditions_0 rfl (lv_at hl 0 rfl) ?_
  refine j_iload_n E 2 rfl dX3_readConditions_1 rfl (lv_at hl 1 rfl) ?_
  refine zV_v E (c_X3_readCondition_n1 l D cy T (v_0) κ o K_ V_ hO t_o  (show 0 ≤ ((v_0 86) o) ∧ ((v_0 86) o) ≤ 400 from by omega) (show RK_ (v_0 300) (T 120 (T 82 o)) (T 121 (T 82 o)) (((v_0 123) (T 82 o))) K_ V_ from hp1) (show Cs_ K_ (((v_0 83) o)) (((v_0 84) o)) (((v_0 80) o)) from hp2)) mt_X3_readCondition ml_X3_85 hK hZ hAc hw (cw_rc4 hK hw.1 t_o) hA ⟨Nat.le_of_ble_eq_true rfl, Nat.le_of_ble_eq_true rfl⟩ ⟨Nat.le_of_ble_eq_true rfl, Nat.le_of_ble_eq_true rfl⟩ (As := [.int (J 1)]) (rest := []) rfl rfl hl.1 (Nat.le_of_ble_eq_true rfl) 5 rfl dX3_readConditions_2 (fun v_1 H locs hq1_ hw => ?_)
  obtain ⟨y80_1, y83_1, y84_1, y86_1, y300_1, ev1_, hh1_⟩ := hq1_
  rw [ev1_] at hw; clear ev1_
  have hw : WK D cy T (upV (upV (upV (upV (upV v_0 80 y80_1) 83 y83_1) 84 y84_1) 86 y86_1) 300 y300_1) A0 s.heap H locs := cw_eq hw (by first | rfl | (funext j_; simp only [upV, reduceIte]; (repeat' split) <;> first | rfl | omega | (subst_vars; rfl)))
  have hh1_ : (0 ≤ (y86_1 o) ∧ (y86_1 o) ≤ 400) ∧ Ro_ (v_0 300) (y300_1) (T 85 o) ∧ Ck_ S3_ (1 : Int) TX_ K_ V_ (((v_0 83) o)) (((v_0 80) o)) ((y83_1 o)) ((y84_1 o)) ((y80_1 o)) := hh1_
  have u0_ := hh1_
  refine j_iconst E 6 rfl dX3_readConditions_5 ?_
  refine j_istore_n E 7 rfl [(2, .int (J 0)), (0, .ref o), (1, .int (J 1))] dX3_readConditions_6 rfl hl (by decide) rfl (fun ls hl => ?_)
  refine j_iconst E 8 rfl dX3_readConditions_7 ?_
  refine j_istore_n E 9 rfl [(3, .int (J 0)), (2, .int (J 0)), (0, .ref o), (1, .int (J 1))] dX3_readConditions_8 rfl hl (by decide) rfl (fun ls hl => ?_)
  have L9_2 : ∀ (k9 : Nat) (l2_9 l3_9 : Int) (y80_c9 : Nat → Int) (y83_c9 : Nat → Int) (y84_c9 : Nat → Int) (y86_c9 : Nat → Int) (y300_c9 : Nat → Int) (H : Heap) (locs : List Loc) (ls : Array Slot), inR l2_9 → inR l3_9 → ((0 ≤ (y86_c9 o) ∧ (y86_c9 o) ≤ 400) ∧ (Ro_ (v_0 300) (y300_c9) (T 85 o)) ∧ 0 ≤ l3_9 ∧ Co_ (1 : Int) {K_} {V_} (v_0 83 o) (v_0 80 o) l2_9 l3_9 ((y83_c9 o)) ((y84_c9 o)) ((y80_c9 o))) → (400 - l3_9).toNat < k9 → WK D cy T (upV (upV (upV (upV (upV v_0 80 y80_c9) 83 y83_c9) 84 y84_c9) 86 y86_c9) 300 y300_c9) A0 s.heap H locs → lv_has ls 5 [(0, .ref o), (1, .int (J 1)), (2, .int (J l2_9)), (3, .int (J l3_9))] → W p l e (rmd 20 0 0) s m ar below meth c H locs 0 0 QW (F0 m 9 ls []) := by
    intro k9
    induction k9 with
    | zero =>
      intro l2_9 l3_9 y80_c9 y83_c9 y84_c9 y86_c9 y300_c9 H locs ls r_l2_9 r_l3_9 iv9 ms9 hw hl
      exact absurd ms9 (Nat.not_lt_zero _)
    | succ k9 ih9 =>
      intro l2_9 l3_9 y80_c9 y83_c9 y84_c9 y86_c9 y300_c9 H locs ls r_l2_9 r_l3_9 iv9 ms9 hw hl
      have cs1_ := Co_cs hp2 iv9.2.2.2
      unfold Cs_ at cs1_
      have L111_4 : ∀ (H : Heap) (locs : List Loc) (ls : Array Slot), (¬ ((y84_c9 o) = 305 ∨ (y84_c9 o) = 304)) → WK D cy T (upV (upV (upV (upV (upV v_0 80 y80_c9) 83 y83_c9) 84 y84_c9) 86 y86_c9) 300 y300_c9) A0 s.heap H locs → lv_has ls 5 [(0, .ref o), (1, .int (J 1)), (2, .int (J l2_9)), (3, .int (J l3_9))] → W p l e (rmd 20 0 0) s m ar below meth c H locs 0 0 QW (F0 m 111 ls []) := by
        intro H locs ls iv111 hw hl
        refine j_iload_n E 112 rfl dX3_readConditions_111 rfl (lv_at hl 2 rfl) ?_
        refine j_if_eq E 115 122 rfl r_l2_9 dX3_readConditions_112 (by decide) (fun cc6_ => ?_) (fun cc6_ => ?_)
        · exact hret 122 (upV (upV (upV (upV (upV v_0 80 y80_c9) 83 y83_c9) 84 y84_c9) 86 y86_c9) 300 y300_c9) _ _ ls hw ⟨y80_c9, y83_c9, y84_c9, y86_c9, y300_c9, rfl, by first | exact ⟨by omega, Ro_tr iv9.2.1 roe_, Co_end iv9.2.2.2 iv111 (by omega)⟩ | exact ⟨by omega, iv9.2.1, Co_end iv9.2.2.2 iv111 (by omega)⟩⟩ dX3_readConditions_122
        · refine j_aload_n E 116 rfl dX3_readConditions_115 rfl (lv_at hl 0 rfl) ?_
          refine j_sipush E 119 rfl dX3_readConditions_116 (by decide) ?_
          refine kV_v E (c_X3_emit l D cy T (upV (upV (upV (upV (upV v_0 80 y80_c9) 83 y83_c9) 84 y84_c9) 86 y86_c9) 300 y300_c9) o ((-304))  t_o (rr (by decide)) (show 0 ≤ (y86_c9 o) ∧ (y86_c9 o) ≤ 400 from by omega)) mt_X3_emit ml_X3_60 hK hw (cw_rc4 hK hw.1 t_o) hA ⟨Nat.le_of_ble_eq_true rfl, Nat.le_of_ble_eq_true rfl⟩ ⟨Nat.le_of_ble_eq_true rfl, Nat.le_of_ble_eq_true rfl⟩ (As := [.int (J ((-304)))]) (rest := []) rfl rfl hl.1 (Nat.le_of_ble_eq_true rfl) 122 rfl dX3_readConditions_119 (fun v_7 H locs hq7_ hw => ?_)
          obtain ⟨y86_7, y300_7, ev7_, hh7_⟩ := hq7_
          rw [ev7_] at hw; clear ev7_
          have hw : WK D cy T (upV (upV (upV (upV (upV v_0 80 y80_c9) 83 y83_c9) 84 y84_c9) 86 y86_7) 300 y300_7) A0 s.heap H locs := cw_eq hw (by first | rfl | (funext j_; simp only [upV, reduceIte]; (repeat' split) <;> first | rfl | omega | (subst_vars; rfl)))
          have hh7_ : (0 ≤ (y86_7 o) ∧ (y86_7 o) ≤ 400) ∧ Ro_ (y300_c9) (y300_7) (T 85 o) := hh7_
          have roe_ := hh7_.2
          exact hret 122 (upV (upV (upV (upV (upV v_0 80 y80_c9) 83 y83_c9) 84 y84_c9) 86 y86_7) 300 y300_7) _ _ ls hw ⟨y80_c9, y83_c9, y84_c9, y86_7, y300_7, rfl, by first | exact ⟨by omega, Ro_tr iv9.2.1 roe_, Co_end iv9.2.2.2 iv111 (by omega)⟩ | exact ⟨by omega, iv9.2.1, Co_end iv9.2.2.2 iv111 (by omega)⟩⟩ dX3_readConditions_122
      refine j_iload_n E 10 rfl dX3_readConditions_9 rfl (lv_at hl 3 rfl) ?_
      refine j_sipush E 13 rfl dX3_readConditions_10 (by decide) ?_
      refine j_icmp_ge E 16 111 rfl r_l3_9 (rr (by decide)) dX3_readConditions_13 (by decide) (fun cc8_ => ?_) (fun cc8_ => ?_)
      · exact L111_4   H locs ls  (by first | omega | exact Co_i iv9.2.2.2 (by omega) (by omega)) hw (lv_sub hl [0, 1, 2, 3] rfl)
      · refine j_aload_n E 17 rfl dX3_readConditions_16 rfl (lv_at hl 0 rfl) ?_
        refine g_84 E hK hw fl_X3_30 t_o (y84_c9 o) rfl 20 rfl dX3_readConditions_17 (fun rr9_ => ?_)
        refine j_sipush E 23 rfl dX3_readConditions_20 (by decide) ?_
        refine j_icmp_eq E 26 36 rfl rr9_ (rr (by decide)) dX3_readConditions_23 (by decide) (fun cc10_ => ?_) (fun cc10_ => ?_)
        · have L51_11 : ∀ (s0_51 : Int) (H : Heap) (locs : List Loc) (ls : Array Slot), inR s0_51 → ((s0_51 = 1 ∧ (y84_c9 o) = 305) ∨ (s0_51 = 0 ∧ (y84_c9 o) = 304)) → WK D cy T (upV (upV (upV (upV (upV v_0 80 y80_c9) 83 y83_c9) 84 y84_c9) 86 y86_c9) 300 y300_c9) A0 s.heap H locs → lv_has ls 5 [(0, .ref o), (1, .int (J 1)), (2, .int (J l2_9)), (3, .int (J l3_9))] → W p l e (rmd 20 0 0) s m ar below meth c H locs 0 0 QW (F0 m 51 ls [.int (J s0_51)]) := by
            intro s0_51 H locs ls r_s0_51 iv51 hw hl
            refine j_istore E 53 rfl [(4, .int (J s0_51)), (0, .ref o), (1, .int (J 1)), (2, .int (J l2_9)), (3, .int (J l3_9))] dX3_readConditions_51 hl (by decide) rfl (fun ls hl => ?_)
            have L69_13 : ∀ (y86_c69 : Nat → Int) (y300_c69 : Nat → Int) (H : Heap) (locs : List Loc) (ls : Array Slot), ((0 ≤ (y86_c69 o) ∧ (y86_c69 o) ≤ 400) ∧ Ro_ (v_0 300) (y300_c69) (T 85 o)) → WK D cy T (upV (upV (upV (upV (upV v_0 80 y80_c9) 83 y83_c9) 84 y84_c9) 86 y86_c69) 300 y300_c69) A0 s.heap H locs → lv_has ls 5 [(0, .ref o), (1, .int (J 1)), (2, .int (J l2_9)), (3, .int (J l3_9)), (4, .int (J s0_51))] → W p l e (rmd 20 0 0) s m ar below meth c H locs 0 0 QW (F0 m 69 ls []) := by
              intro y86_c69 y300_c69 H locs ls iv69 hw hl
              refine j_aload_n E 70 rfl dX3_readConditions_69 rfl (lv_at hl 0 rfl) ?_
              refine zV_v E (c_X3_step l D cy T (upV (upV (upV (upV (upV v_0 80 y80_c9) 83 y83_c9) 84 y84_c9) 86 y86_c69) 300 y300_c69) κ o K_ V_ hO t_o  (show RK_ (y300_c69) (T 120 (T 82 o)) (T 121 (T 82 o)) (((v_0 123) (T 82 o))) K_ V_ from RK_ro hp1 iv69.2 nk_ nv_) (show 0 ≤ (y83_c9 o) ∧ (y83_c9 o) < 400 from by have q_ := RK_lt hp1 (j := (y83_c9 o)) (by omega); omega)) mt_X3_step ml_X3_54 hK hZ hAc hw (cw_rc4 hK hw.1 t_o) hA ⟨Nat.le_of_ble_eq_true rfl, Nat.le_of_ble_eq_true rfl⟩ ⟨Nat.le_of_ble_eq_true rfl, Nat.le_of_ble_eq_true rfl⟩ (As := []) (rest := []) rfl rfl hl.1 (Nat.le_of_ble_eq_true rfl) 73 rfl dX3_readConditions_70 (fun v_15 H locs hq15_ hw => ?_)
              obtain ⟨y83_15, y84_15, ev15_, hh15_⟩ := hq15_
              rw [ev15_] at hw; clear ev15_
              have hw : WK D cy T (upV (upV (upV (upV (upV v_0 80 y80_c9) 83 y83_15) 84 y84_15) 86 y86_c69) 300 y300_c69) A0 s.heap H locs := cw_eq hw (by first | rfl | (funext j_; simp only [upV, reduceIte]; (repeat' split) <;> first | rfl | omega | (subst_vars; rfl)))
              have hh15_ : (y83_15 o) = (y83_c9 o) + 1 ∧ (y84_15 o) = K_ ((y83_c9 o) + 1) := hh15_
              have s_ := hh15_
              refine j_aload_n E 74 rfl dX3_readConditions_73 rfl (lv_at hl 0 rfl) ?_
              refine j_iload_n E 75 rfl dX3_readConditions_74 rfl (lv_at hl 1 rfl) ?_
              refine zV_v E (c_X3_readCondition_n1 l D cy T (upV (upV (upV (upV (upV v_0 80 y80_c9) 83 y83_15) 84 y84_15) 86 y86_c69) 300 y300_c69) κ o K_ V_ hO t_o  (show 0 ≤ (y86_c69 o) ∧ (y86_c69 o) ≤ 400 from by omega) (show RK_ (y300_c69) (T 120 (T 82 o)) (T 121 (T 82 o)) (((v_0 123) (T 82 o))) K_ V_ from RK_ro hp1 iv69.2 nk_ nv_) (show Cs_ K_ ((y83_15 o)) ((y84_15 o)) ((y80_c9 o)) from Cs_st (Co_cs hp2 iv9.2.2.2) (by omega) s_.1 s_.2 (by omega))) mt_X3_readCondition ml_X3_85 hK hZ hAc hw (cw_rc4 hK hw.1 t_o) hA ⟨Nat.le_of_ble_eq_true rfl, Nat.le_of_ble_eq_true rfl⟩ ⟨Nat.le_of_ble_eq_true rfl, Nat.le_of_ble_eq_true rfl⟩ (As := [.int (J 1)]) (rest := []) rfl rfl hl.1 (Nat.le_of_ble_eq_true rfl) 78 rfl dX3_readConditions_75 (fun v_16 H locs hq16_ hw => ?_)
              obtain ⟨y80_16, y83_16, y84_16, y86_16, y300_16, ev16_, hh16_⟩ := hq16_
              rw [ev16_] at hw; clear ev16_
              have hw : WK D cy T (upV (upV (upV (upV (upV v_0 80 y80_16) 83 y83_16) 84 y84_16) 86 y86_16) 300 y300_16) A0 s.heap H locs := cw_eq hw (by first | rfl | (funext j_; simp only [upV, reduceIte]; (repeat' split) <;> first | rfl | omega | (subst_vars; rfl)))
              have hh16_ : (0 ≤ (y86_16 o) ∧ (y86_16 o) ≤ 400) ∧ Ro_ (y300_c69) (y300_16) (T 85 o) ∧ Ck_ S3_ (1 : Int) TX_ K_ V_ ((y83_15 o)) ((y80_c9 o)) ((y83_16 o)) ((y84_16 o)) ((y80_16 o)) := hh16_
              have u_ := hh16_
              rw [s_.1] at u_
              refine j_iload E 80 rfl dX3_readConditions_78 (lv_at hl 4 rfl) ?_
              refine j_if_eq E 83 90 rfl r_s0_51 dX3_readConditions_80 (by decide) (fun cc17_ => ?_) (fun cc17_ => ?_)
              · have L104_18 : ∀ (s0_104 : Int) (H : Heap) (locs : List Loc) (ls : Array Slot), inR s0_104 → (((l2_9 ≠ 0 ∨ s0_51 = 0) ∧ s0_104 = 1) ∨ (l2_9 = 0 ∧ s0_51 ≠ 0 ∧ s0_104 = 0)) → WK D cy T (upV (upV (upV (upV (upV v_0 80 y80_16) 83 y83_16) 84 y84_16) 86 y86_16) 300 y300_16) A0 s.heap H locs → lv_has ls 5 [(0, .ref o), (1, .int (J 1)), (2, .int (J l2_9)), (3, .int (J l3_9)), (4, .int (J s0_51))] → W p l e (rmd 20 0 0) s m ar below meth c H locs 0 0 QW (F0 m 104 ls [.int (J s0_104)]) := by
                  intro s0_104 H locs ls r_s0_104 iv104 hw hl
                  refine j_istore_n E 105 rfl [(2, .int (J s0_104)), (0, .ref o), (1, .int (J 1)), (3, .int (J l3_9)), (4, .int (J s0_51))] dX3_readConditions_104 rfl hl (by decide) rfl (fun ls hl => ?_)
                  refine j_iinc E 108 rfl [(3, .int (J (l3_9 + 1))), (2, .int (J s0_104)), (0, .ref o), (1, .int (J 1)), (4, .int (J s0_51))] dX3_readConditions_105 hl (kk := 3) rfl (by decide) rfl (fun ls hl => ?_)
                  refine j_goto E 9 dX3_readConditions_108 (by decide) ?_
                  exact ih9 s0_104 (l3_9 + 1) y80_16 y83_16 y84_16 y86_16 y300_16 H locs ls r_s0_104 (rr (by omega)) (by first | exact ⟨by omega, Ro_tr iv69.2 (Ro_tr u_.2.1 ro9_), by omega, by rw [show s0_104 = l2_9 by omega]; exact Co_and iv9.2.2.2 (by omega) u_.2.2⟩ | exact ⟨by omega, Ro_tr iv69.2 u_.2.1, by omega, by rw [show s0_104 = 1 by omega]; exact Co_or iv9.2.2.2 (by omega) u_.2.2⟩ | (exfalso; omega)) (by omega) hw (lv_sub hl [2, 3, 1, 0] rfl)
                refine j_iload_n E 91 rfl dX3_readConditions_90 rfl (lv_at hl 2 rfl) ?_
                refine j_if_ne E 94 99 rfl r_l2_9 dX3_readConditions_91 (by decide) (fun cc20_ => ?_) (fun cc20_ => ?_)
                · refine j_iconst E 100 rfl dX3_readConditions_99 ?_
                  refine j_goto E 104 dX3_readConditions_100 (by decide) ?_
                  exact L104_18 1  H locs ls (rr (by decide)) (by omega) hw (lv_sub hl [0, 1, 2, 3, 4] rfl)
                · refine j_iload E 96 rfl dX3_readConditions_94 (lv_at hl 4 rfl) ?_
                  refine j_if_ne E 99 103 rfl r_s0_51 dX3_readConditions_96 (by decide) (fun cc21_ => ?_) (fun cc21_ => ?_)
                  · exfalso; omega
                  refine j_iconst E 100 rfl dX3_readConditions_99 ?_
                  refine j_goto E 104 dX3_readConditions_100 (by decide) ?_
                  exact L104_18 1  H locs ls (rr (by decide)) (by omega) hw (lv_sub hl [0, 1, 2, 3, 4] rfl)
              · refine j_aload_n E 84 rfl dX3_readConditions_83 rfl (lv_at hl 0 rfl) ?_
                refine j_sipush E 87 rfl dX3_readConditions_84 (by decide) ?_
                refine kV_v E (c_X3_emit l D cy T (upV (upV (upV (upV (upV v_0 80 y80_16) 83 y83_16) 84 y84_16) 86 y86_16) 300 y300_16) o ((-305))  t_o (rr (by decide)) (show 0 ≤ (y86_16 o) ∧ (y86_16 o) ≤ 400 from by omega)) mt_X3_emit ml_X3_60 hK hw (cw_rc4 hK hw.1 t_o) hA ⟨Nat.le_of_ble_eq_true rfl, Nat.le_of_ble_eq_true rfl⟩ ⟨Nat.le_of_ble_eq_true rfl, Nat.le_of_ble_eq_true rfl⟩ (As := [.int (J ((-305)))]) (rest := []) rfl rfl hl.1 (Nat.le_of_ble_eq_true rfl) 90 rfl dX3_readConditions_87 (fun v_22 H locs hq22_ hw => ?_)
                obtain ⟨y86_22, y300_22, ev22_, hh22_⟩ := hq22_
                rw [ev22_] at hw; clear ev22_
                have hw : WK D cy T (upV (upV (upV (upV (upV v_0 80 y80_16) 83 y83_16) 84 y84_16) 86 y86_22) 300 y300_22) A0 s.heap H locs := cw_eq hw (by first | rfl | (funext j_; simp only [upV, reduceIte]; (repeat' split) <;> first | rfl | omega | (subst_vars; rfl)))
                have hh22_ : (0 ≤ (y86_22 o) ∧ (y86_22 o) ≤ 400) ∧ Ro_ (y300_16) (y300_22) (T 85 o) := hh22_
                have ro9_ := hh22_.2
                have L104_23 : ∀ (s0_104 : Int) (H : Heap) (locs : List Loc) (ls : Array Slot), inR s0_104 → (((l2_9 ≠ 0 ∨ s0_51 = 0) ∧ s0_104 = 1) ∨ (l2_9 = 0 ∧ s0_51 ≠ 0 ∧ s0_104 = 0)) → WK D cy T (upV (upV (upV (upV (upV v_0 80 y80_16) 83 y83_16) 84 y84_16) 86 y86_22) 300 y300_22) A0 s.heap H locs → lv_has ls 5 [(0, .ref o), (1, .int (J 1)), (2, .int (J l2_9)), (3, .int (J l3_9)), (4, .int (J s0_51))] → W p l e (rmd 20 0 0) s m ar below meth c H locs 0 0 QW (F0 m 104 ls [.int (J s0_104)]) := by
                  intro s0_104 H locs ls r_s0_104 iv104 hw hl
                  refine j_istore_n E 105 rfl [(2, .int (J s0_104)), (0, .ref o), (1, .int (J 1)), (3, .int (J l3_9)), (4, .int (J s0_51))] dX3_readConditions_104 rfl hl (by decide) rfl (fun ls hl => ?_)
                  refine j_iinc E 108 rfl [(3, .int (J (l3_9 + 1))), (2, .int (J s0_104)), (0, .ref o), (1, .int (J 1)), (4, .int (J s0_51))] dX3_readConditions_105 hl (kk := 3) rfl (by decide) rfl (fun ls hl => ?_)
                  refine j_goto E 9 dX3_readConditions_108 (by decide) ?_
                  exact ih9 s0_104 (l3_9 + 1) y80_16 y83_16 y84_16 y86_22 y300_22 H locs ls r_s0_104 (rr (by omega)) (by first | exact ⟨by omega, Ro_tr iv69.2 (Ro_tr u_.2.1 ro9_), by omega, by rw [show s0_104 = l2_9 by omega]; exact Co_and iv9.2.2.2 (by omega) u_.2.2⟩ | exact ⟨by omega, Ro_tr iv69.2 u_.2.1, by omega, by rw [show s0_104 = 1 by omega]; exact Co_or iv9.2.2.2 (by omega) u_.2.2⟩ | (exfalso; omega)) (by omega) hw (lv_sub hl [2, 3, 1, 0] rfl)
                refine j_iload_n E 91 rfl dX3_readConditions_90 rfl (lv_at hl 2 rfl) ?_
                refine j_if_ne E 94 99 rfl r_l2_9 dX3_readConditions_91 (by decide) (fun cc25_ => ?_) (fun cc25_ => ?_)
                · refine j_iconst E 100 rfl dX3_readConditions_99 ?_
                  refine j_goto E 104 dX3_readConditions_100 (by decide) ?_
                  exact L104_23 1  H locs ls (rr (by decide)) (by omega) hw (lv_sub hl [0, 1, 2, 3, 4] rfl)
                · refine j_iload E 96 rfl dX3_readConditions_94 (lv_at hl 4 rfl) ?_
                  refine j_if_ne E 99 103 rfl r_s0_51 dX3_readConditions_96 (by decide) (fun cc26_ => ?_) (fun cc26_ => ?_)
                  rotate_left; · exfalso; omega
                  refine j_iconst E 104 rfl dX3_readConditions_103 ?_
                  exact L104_23 0  H locs ls (rr (by decide)) (by omega) hw (lv_sub hl [0, 1, 2, 3, 4] rfl)
            refine j_iload E 55 rfl dX3_readConditions_53 (lv_at hl 0 rfl) ?_
            refine j_if_ne E 58 69 rfl r_s0_51 dX3_readConditions_55 (by decide) (fun cc27_ => ?_) (fun cc27_ => ?_)
            · exact L69_13  y86_c9 y300_c9 H locs ls  (by first | exact ⟨by omega, iv9.2.1⟩ | exact ⟨by omega, Ro_tr iv9.2.1 ro7_⟩) hw (lv_sub hl [1, 2, 3, 4, 0] rfl)
            · refine j_iload_n E 59 rfl dX3_readConditions_58 rfl (lv_at hl 3 rfl) ?_
              refine j_if_eq E 62 69 rfl r_l2_9 dX3_readConditions_59 (by decide) (fun cc28_ => ?_) (fun cc28_ => ?_)
              · exact L69_13  y86_c9 y300_c9 H locs ls  (by first | exact ⟨by omega, iv9.2.1⟩ | exact ⟨by omega, Ro_tr iv9.2.1 ro7_⟩) hw (lv_sub hl [1, 2, 3, 4, 0] rfl)
              · refine j_aload_n E 63 rfl dX3_readConditions_62 rfl (lv_at hl 1 rfl) ?_
                refine j_sipush E 66 rfl dX3_readConditions_63 (by decide) ?_
                refine kV_v E (c_X3_emit l D cy T (upV (upV (upV (upV (upV v_0 80 y80_c9) 83 y83_c9) 84 y84_c9) 86 y86_c9) 300 y300_c9) o ((-304))  t_o (rr (by decide)) (show 0 ≤ (y86_c9 o) ∧ (y86_c9 o) ≤ 400 from by omega)) mt_X3_emit ml_X3_60 hK hw (cw_rc4 hK hw.1 t_o) hA ⟨Nat.le_of_ble_eq_true rfl, Nat.le_of_ble_eq_true rfl⟩ ⟨Nat.le_of_ble_eq_true rfl, Nat.le_of_ble_eq_true rfl⟩ (As := [.int (J ((-304)))]) (rest := []) rfl rfl hl.1 (Nat.le_of_ble_eq_true rfl) 69 rfl dX3_readConditions_66 (fun v_29 H locs hq29_ hw => ?_)
                obtain ⟨y86_29, y300_29, ev29_, hh29_⟩ := hq29_
                rw [ev29_] at hw; clear ev29_
                have hw : WK D cy T (upV (upV (upV (upV (upV v_0 80 y80_c9) 83 y83_c9) 84 y84_c9) 86 y86_29) 300 y300_29) A0 s.heap H locs := cw_eq hw (by first | rfl | (funext j_; simp only [upV, reduceIte]; (repeat' split) <;> first | rfl | omega | (subst_vars; rfl)))
                have hh29_ : (0 ≤ (y86_29 o) ∧ (y86_29 o) ≤ 400) ∧ Ro_ (y300_c9) (y300_29) (T 85 o) := hh29_
                have ro7_ := hh29_.2
                exact L69_13  y86_29 y300_29 H locs ls  (by first | exact ⟨by omega, iv9.2.1⟩ | exact ⟨by omega, Ro_tr iv9.2.1 ro7_⟩) hw (lv_sub hl [1, 2, 3, 4, 0] rfl)
          refine j_aload_n E 37 rfl dX3_readConditions_36 rfl (lv_at hl 0 rfl) ?_
          refine g_84 E hK hw fl_X3_30 t_o (y84_c9 o) rfl 40 rfl dX3_readConditions_37 (fun _ => ?_)
          refine j_sipush E 43 rfl dX3_readConditions_40 (by decide) ?_
          refine j_icmp_ne E 46 50 rfl rr9_ (rr (by decide)) dX3_readConditions_43 (by decide) (fun cc30_ => ?_) (fun cc30_ => ?_)
          · exfalso; omega
          refine j_iconst E 47 rfl dX3_readConditions_46 ?_
          refine j_goto E 51 dX3_readConditions_47 (by decide) ?_
          exact L51_11 1  H locs ls (rr (by decide)) (by omega) hw (lv_sub hl [0, 1, 2, 3] rfl)
        · refine j_aload_n E 27 rfl dX3_readConditions_26 rfl (lv_at hl 0 rfl) ?_
          refine g_84 E hK hw fl_X3_30 t_o (y84_c9 o) rfl 30 rfl dX3_readConditions_27 (fun _ => ?_)
          refine j_sipush E 33 rfl dX3_readConditions_30 (by decide) ?_
          refine j_icmp_ne E 36 111 rfl rr9_ (rr (by decide)) dX3_readConditions_33 (by decide) (fun cc31_ => ?_) (fun cc31_ => ?_)
          · exact L111_4   H locs ls  (by first | omega | exact Co_i iv9.2.2.2 (by omega) (by omega)) hw (lv_sub hl [0, 1, 2, 3] rfl)
          · have L51_32 : ∀ (s0_51 : Int) (H : Heap) (locs : List Loc) (ls : Array Slot), inR s0_51 → ((s0_51 = 1 ∧ (y84_c9 o) = 305) ∨ (s0_51 = 0 ∧ (y84_c9 o) = 304)) → WK D cy T (upV (upV (upV (upV (upV v_0 80 y80_c9) 83 y83_c9) 84 y84_c9) 86 y86_c9) 300 y300_c9) A0 s.heap H locs → lv_has ls 5 [(0, .ref o), (1, .int (J 1)), (2, .int (J l2_9)), (3, .int (J l3_9))] → W p l e (rmd 20 0 0) s m ar below meth c H locs 0 0 QW (F0 m 51 ls [.int (J s0_51)]) := by
              intro s0_51 H locs ls r_s0_51 iv51 hw hl
              refine j_istore E 53 rfl [(4, .int (J s0_51)), (0, .ref o), (1, .int (J 1)), (2, .int (J l2_9)), (3, .int (J l3_9))] dX3_readConditions_51 hl (by decide) rfl (fun ls hl => ?_)
              have L69_34 : ∀ (y86_c69 : Nat → Int) (y300_c69 : Nat → Int) (H : Heap) (locs : List Loc) (ls : Array Slot), ((0 ≤ (y86_c69 o) ∧ (y86_c69 o) ≤ 400) ∧ Ro_ (v_0 300) (y300_c69) (T 85 o)) → WK D cy T (upV (upV (upV (upV (upV v_0 80 y80_c9) 83 y83_c9) 84 y84_c9) 86 y86_c69) 300 y300_c69) A0 s.heap H locs → lv_has ls 5 [(0, .ref o), (1, .int (J 1)), (2, .int (J l2_9)), (3, .int (J l3_9)), (4, .int (J s0_51))] → W p l e (rmd 20 0 0) s m ar below meth c H locs 0 0 QW (F0 m 69 ls []) := by
                intro y86_c69 y300_c69 H locs ls iv69 hw hl
                refine j_aload_n E 70 rfl dX3_readConditions_69 rfl (lv_at hl 0 rfl) ?_
                refine zV_v E (c_X3_step l D cy T (upV (upV (upV (upV (upV v_0 80 y80_c9) 83 y83_c9) 84 y84_c9) 86 y86_c69) 300 y300_c69) κ o K_ V_ hO t_o  (show RK_ (y300_c69) (T 120 (T 82 o)) (T 121 (T 82 o)) (((v_0 123) (T 82 o))) K_ V_ from RK_ro hp1 iv69.2 nk_ nv_) (show 0 ≤ (y83_c9 o) ∧ (y83_c9 o) < 400 from by have q_ := RK_lt hp1 (j := (y83_c9 o)) (by omega); omega)) mt_X3_step ml_X3_54 hK hZ hAc hw (cw_rc4 hK hw.1 t_o) hA ⟨Nat.le_of_ble_eq_true rfl, Nat.le_of_ble_eq_true rfl⟩ ⟨Nat.le_of_ble_eq_true rfl, Nat.le_of_ble_eq_true rfl⟩ (As := []) (rest := []) rfl rfl hl.1 (Nat.le_of_ble_eq_true rfl) 73 rfl dX3_readConditions_70 (fun v_36 H locs hq36_ hw => ?_)
                obtain ⟨y83_36, y84_36, ev36_, hh36_⟩ := hq36_
                rw [ev36_] at hw; clear ev36_
                have hw : WK D cy T (upV (upV (upV (upV (upV v_0 80 y80_c9) 83 y83_36) 84 y84_36) 86 y86_c69) 300 y300_c69) A0 s.heap H locs := cw_eq hw (by first | rfl | (funext j_; simp only [upV, reduceIte]; (repeat' split) <;> first | rfl | omega | (subst_vars; rfl)))
                have hh36_ : (y83_36 o) = (y83_c9 o) + 1 ∧ (y84_36 o) = K_ ((y83_c9 o) + 1) := hh36_
                have s_ := hh36_
                refine j_aload_n E 74 rfl dX3_readConditions_73 rfl (lv_at hl 0 rfl) ?_
                refine j_iload_n E 75 rfl dX3_readConditions_74 rfl (lv_at hl 1 rfl) ?_
                refine zV_v E (c_X3_readCondition_n1 l D cy T (upV (upV (upV (upV (upV v_0 80 y80_c9) 83 y83_36) 84 y84_36) 86 y86_c69) 300 y300_c69) κ o K_ V_ hO t_o  (show 0 ≤ (y86_c69 o) ∧ (y86_c69 o) ≤ 400 from by omega) (show RK_ (y300_c69) (T 120 (T 82 o)) (T 121 (T 82 o)) (((v_0 123) (T 82 o))) K_ V_ from RK_ro hp1 iv69.2 nk_ nv_) (show Cs_ K_ ((y83_36 o)) ((y84_36 o)) ((y80_c9 o)) from Cs_st (Co_cs hp2 iv9.2.2.2) (by omega) s_.1 s_.2 (by omega))) mt_X3_readCondition ml_X3_85 hK hZ hAc hw (cw_rc4 hK hw.1 t_o) hA ⟨Nat.le_of_ble_eq_true rfl, Nat.le_of_ble_eq_true rfl⟩ ⟨Nat.le_of_ble_eq_true rfl, Nat.le_of_ble_eq_true rfl⟩ (As := [.int (J 1)]) (rest := []) rfl rfl hl.1 (Nat.le_of_ble_eq_true rfl) 78 rfl dX3_readConditions_75 (fun v_37 H locs hq37_ hw => ?_)
                obtain ⟨y80_37, y83_37, y84_37, y86_37, y300_37, ev37_, hh37_⟩ := hq37_
                rw [ev37_] at hw; clear ev37_
                have hw : WK D cy T (upV (upV (upV (upV (upV v_0 80 y80_37) 83 y83_37) 84 y84_37) 86 y86_37) 300 y300_37) A0 s.heap H locs := cw_eq hw (by first | rfl | (funext j_; simp only [upV, reduceIte]; (repeat' split) <;> first | rfl | omega | (subst_vars; rfl)))
                have hh37_ : (0 ≤ (y86_37 o) ∧ (y86_37 o) ≤ 400) ∧ Ro_ (y300_c69) (y300_37) (T 85 o) ∧ Ck_ S3_ (1 : Int) TX_ K_ V_ ((y83_36 o)) ((y80_c9 o)) ((y83_37 o)) ((y84_37 o)) ((y80_37 o)) := hh37_
                have u_ := hh37_
                rw [s_.1] at u_
                refine j_iload E 80 rfl dX3_readConditions_78 (lv_at hl 4 rfl) ?_
                refine j_if_eq E 83 90 rfl r_s0_51 dX3_readConditions_80 (by decide) (fun cc38_ => ?_) (fun cc38_ => ?_)
                · have L104_39 : ∀ (s0_104 : Int) (H : Heap) (locs : List Loc) (ls : Array Slot), inR s0_104 → (((l2_9 ≠ 0 ∨ s0_51 = 0) ∧ s0_104 = 1) ∨ (l2_9 = 0 ∧ s0_51 ≠ 0 ∧ s0_104 = 0)) → WK D cy T (upV (upV (upV (upV (upV v_0 80 y80_37) 83 y83_37) 84 y84_37) 86 y86_37) 300 y300_37) A0 s.heap H locs → lv_has ls 5 [(0, .ref o), (1, .int (J 1)), (2, .int (J l2_9)), (3, .int (J l3_9)), (4, .int (J s0_51))] → W p l e (rmd 20 0 0) s m ar below meth c H locs 0 0 QW (F0 m 104 ls [.int (J s0_104)]) := by
                    intro s0_104 H locs ls r_s0_104 iv104 hw hl
                    refine j_istore_n E 105 rfl [(2, .int (J s0_104)), (0, .ref o), (1, .int (J 1)), (3, .int (J l3_9)), (4, .int (J s0_51))] dX3_readConditions_104 rfl hl (by decide) rfl (fun ls hl => ?_)
                    refine j_iinc E 108 rfl [(3, .int (J (l3_9 + 1))), (2, .int (J s0_104)), (0, .ref o), (1, .int (J 1)), (4, .int (J s0_51))] dX3_readConditions_105 hl (kk := 3) rfl (by decide) rfl (fun ls hl => ?_)
                    refine j_goto E 9 dX3_readConditions_108 (by decide) ?_
                    exact ih9 s0_104 (l3_9 + 1) y80_37 y83_37 y84_37 y86_37 y300_37 H locs ls r_s0_104 (rr (by omega)) (by first | exact ⟨by omega, Ro_tr iv69.2 (Ro_tr u_.2.1 ro9_), by omega, by rw [show s0_104 = l2_9 by omega]; exact Co_and iv9.2.2.2 (by omega) u_.2.2⟩ | exact ⟨by omega, Ro_tr iv69.2 u_.2.1, by omega, by rw [show s0_104 = 1 by omega]; exact Co_or iv9.2.2.2 (by omega) u_.2.2⟩ | (exfalso; omega)) (by omega) hw (lv_sub hl [2, 3, 1, 0] rfl)
                  refine j_iload_n E 91 rfl dX3_readConditions_90 rfl (lv_at hl 2 rfl) ?_
                  refine j_if_ne E 94 99 rfl r_l2_9 dX3_readConditions_91 (by decide) (fun cc41_ => ?_) (fun cc41_ => ?_)
                  · refine j_iconst E 100 rfl dX3_readConditions_99 ?_
                    refine j_goto E 104 dX3_readConditions_100 (by decide) ?_
                    exact L104_39 1  H locs ls (rr (by decide)) (by omega) hw (lv_sub hl [0, 1, 2, 3, 4] rfl)
                  · refine j_iload E 96 rfl dX3_readConditions_94 (lv_at hl 4 rfl) ?_
                    refine j_if_ne E 99 103 rfl r_s0_51 dX3_readConditions_96 (by decide) (fun cc42_ => ?_) (fun cc42_ => ?_)
                    · exfalso; omega
                    refine j_iconst E 100 rfl dX3_readConditions_99 ?_
                    refine j_goto E 104 dX3_readConditions_100 (by decide) ?_
                    exact L104_39 1  H locs ls (rr (by decide)) (by omega) hw (lv_sub hl [0, 1, 2, 3, 4] rfl)
                · refine j_aload_n E 84 rfl dX3_readConditions_83 rfl (lv_at hl 0 rfl) ?_
                  refine j_sipush E 87 rfl dX3_readConditions_84 (by decide) ?_
                  refine kV_v E (c_X3_emit l D cy T (upV (upV (upV (upV (upV v_0 80 y80_37) 83 y83_37) 84 y84_37) 86 y86_37) 300 y300_37) o ((-305))  t_o (rr (by decide)) (show 0 ≤ (y86_37 o) ∧ (y86_37 o) ≤ 400 from by omega)) mt_X3_emit ml_X3_60 hK hw (cw_rc4 hK hw.1 t_o) hA ⟨Nat.le_of_ble_eq_true rfl, Nat.le_of_ble_eq_true rfl⟩ ⟨Nat.le_of_ble_eq_true rfl, Nat.le_of_ble_eq_true rfl⟩ (As := [.int (J ((-305)))]) (rest := []) rfl rfl hl.1 (Nat.le_of_ble_eq_true rfl) 90 rfl dX3_readConditions_87 (fun v_43 H locs hq43_ hw => ?_)
                  obtain ⟨y86_43, y300_43, ev43_, hh43_⟩ := hq43_
                  rw [ev43_] at hw; clear ev43_
                  have hw : WK D cy T (upV (upV (upV (upV (upV v_0 80 y80_37) 83 y83_37) 84 y84_37) 86 y86_43) 300 y300_43) A0 s.heap H locs := cw_eq hw (by first | rfl | (funext j_; simp only [upV, reduceIte]; (repeat' split) <;> first | rfl | omega | (subst_vars; rfl)))
                  have hh43_ : (0 ≤ (y86_43 o) ∧ (y86_43 o) ≤ 400) ∧ Ro_ (y300_37) (y300_43) (T 85 o) := hh43_
                  have ro9_ := hh43_.2
                  have L104_44 : ∀ (s0_104 : Int) (H : Heap) (locs : List Loc) (ls : Array Slot), inR s0_104 → (((l2_9 ≠ 0 ∨ s0_51 = 0) ∧ s0_104 = 1) ∨ (l2_9 = 0 ∧ s0_51 ≠ 0 ∧ s0_104 = 0)) → WK D cy T (upV (upV (upV (upV (upV v_0 80 y80_37) 83 y83_37) 84 y84_37) 86 y86_43) 300 y300_43) A0 s.heap H locs → lv_has ls 5 [(0, .ref o), (1, .int (J 1)), (2, .int (J l2_9)), (3, .int (J l3_9)), (4, .int (J s0_51))] → W p l e (rmd 20 0 0) s m ar below meth c H locs 0 0 QW (F0 m 104 ls [.int (J s0_104)]) := by
                    intro s0_104 H locs ls r_s0_104 iv104 hw hl
                    refine j_istore_n E 105 rfl [(2, .int (J s0_104)), (0, .ref o), (1, .int (J 1)), (3, .int (J l3_9)), (4, .int (J s0_51))] dX3_readConditions_104 rfl hl (by decide) rfl (fun ls hl => ?_)
                    refine j_iinc E 108 rfl [(3, .int (J (l3_9 + 1))), (2, .int (J s0_104)), (0, .ref o), (1, .int (J 1)), (4, .int (J s0_51))] dX3_readConditions_105 hl (kk := 3) rfl (by decide) rfl (fun ls hl => ?_)
                    refine j_goto E 9 dX3_readConditions_108 (by decide) ?_
                    exact ih9 s0_104 (l3_9 + 1) y80_37 y83_37 y84_37 y86_43 y300_43 H locs ls r_s0_104 (rr (by omega)) (by first | exact ⟨by omega, Ro_tr iv69.2 (Ro_tr u_.2.1 ro9_), by omega, by rw [show s0_104 = l2_9 by omega]; exact Co_and iv9.2.2.2 (by omega) u_.2.2⟩ | exact ⟨by omega, Ro_tr iv69.2 u_.2.1, by omega, by rw [show s0_104 = 1 by omega]; exact Co_or iv9.2.2.2 (by omega) u_.2.2⟩ | (exfalso; omega)) (by omega) hw (lv_sub hl [2, 3, 1, 0] rfl)
                  refine j_iload_n E 91 rfl dX3_readConditions_90 rfl (lv_at hl 2 rfl) ?_
                  refine j_if_ne E 94 99 rfl r_l2_9 dX3_readConditions_91 (by decide) (fun cc46_ => ?_) (fun cc46_ => ?_)
                  · refine j_iconst E 100 rfl dX3_readConditions_99 ?_
                    refine j_goto E 104 dX3_readConditions_100 (by decide) ?_
                    exact L104_44 1  H locs ls (rr (by decide)) (by omega) hw (lv_sub hl [0, 1, 2, 3, 4] rfl)
                  · refine j_iload E 96 rfl dX3_readConditions_94 (lv_at hl 4 rfl) ?_
                    refine j_if_ne E 99 103 rfl r_s0_51 dX3_readConditions_96 (by decide) (fun cc47_ => ?_) (fun cc47_ => ?_)
                    rotate_left; · exfalso; omega
                    refine j_iconst E 104 rfl dX3_readConditions_103 ?_
                    exact L104_44 0  H locs ls (rr (by decide)) (by omega) hw (lv_sub hl [0, 1, 2, 3, 4] rfl)
              refine j_iload E 55 rfl dX3_readConditions_53 (lv_at hl 0 rfl) ?_
              refine j_if_ne E 58 69 rfl r_s0_51 dX3_readConditions_55 (by decide) (fun cc48_ => ?_) (fun cc48_ => ?_)
              · exact L69_34  y86_c9 y300_c9 H locs ls  (by first | exact ⟨by omega, iv9.2.1⟩ | exact ⟨by omega, Ro_tr iv9.2.1 ro7_⟩) hw (lv_sub hl [1, 2, 3, 4, 0] rfl)
              · refine j_iload_n E 59 rfl dX3_readConditions_58 rfl (lv_at hl 3 rfl) ?_
                refine j_if_eq E 62 69 rfl r_l2_9 dX3_readConditions_59 (by decide) (fun cc49_ => ?_) (fun cc49_ => ?_)
                · exact L69_34  y86_c9 y300_c9 H locs ls  (by first | exact ⟨by omega, iv9.2.1⟩ | exact ⟨by omega, Ro_tr iv9.2.1 ro7_⟩) hw (lv_sub hl [1, 2, 3, 4, 0] rfl)
                · refine j_aload_n E 63 rfl dX3_readConditions_62 rfl (lv_at hl 1 rfl) ?_
                  refine j_sipush E 66 rfl dX3_readConditions_63 (by decide) ?_
                  refine kV_v E (c_X3_emit l D cy T (upV (upV (upV (upV (upV v_0 80 y80_c9) 83 y83_c9) 84 y84_c9) 86 y86_c9) 300 y300_c9) o ((-304))  t_o (rr (by decide)) (show 0 ≤ (y86_c9 o) ∧ (y86_c9 o) ≤ 400 from by omega)) mt_X3_emit ml_X3_60 hK hw (cw_rc4 hK hw.1 t_o) hA ⟨Nat.le_of_ble_eq_true rfl, Nat.le_of_ble_eq_true rfl⟩ ⟨Nat.le_of_ble_eq_true rfl, Nat.le_of_ble_eq_true rfl⟩ (As := [.int (J ((-304)))]) (rest := []) rfl rfl hl.1 (Nat.le_of_ble_eq_true rfl) 69 rfl dX3_readConditions_66 (fun v_50 H locs hq50_ hw => ?_)
                  obtain ⟨y86_50, y300_50, ev50_, hh50_⟩ := hq50_
                  rw [ev50_] at hw; clear ev50_
                  have hw : WK D cy T (upV (upV (upV (upV (upV v_0 80 y80_c9) 83 y83_c9) 84 y84_c9) 86 y86_50) 300 y300_50) A0 s.heap H locs := cw_eq hw (by first | rfl | (funext j_; simp only [upV, reduceIte]; (repeat' split) <;> first | rfl | omega | (subst_vars; rfl)))
                  have hh50_ : (0 ≤ (y86_50 o) ∧ (y86_50 o) ≤ 400) ∧ Ro_ (y300_c9) (y300_50) (T 85 o) := hh50_
                  have ro7_ := hh50_.2
                  exact L69_34  y86_50 y300_50 H locs ls  (by first | exact ⟨by omega, iv9.2.1⟩ | exact ⟨by omega, Ro_tr iv9.2.1 ro7_⟩) hw (lv_sub hl [1, 2, 3, 4, 0] rfl)
            refine j_aload_n E 37 rfl dX3_readConditions_36 rfl (lv_at hl 0 rfl) ?_
            refine g_84 E hK hw fl_X3_30 t_o (y84_c9 o) rfl 40 rfl dX3_readConditions_37 (fun _ => ?_)
            refine j_sipush E 43 rfl dX3_readConditions_40 (by decide) ?_
            refine j_icmp_ne E 46 50 rfl rr9_ (rr (by decide)) dX3_readConditions_43 (by decide) (fun cc51_ => ?_) (fun cc51_ => ?_)
            rotate_left; · exfalso; omega
            refine j_iconst E 51 rfl dX3_readConditions_50 ?_
            exact L51_32 0  H locs ls (rr (by decide)) (by omega) hw (lv_sub hl [0, 1, 2, 3] rfl)
  exact L9_2 _ 0 0 y80_1 y83_1 y84_1 y86_1 y300_1 H locs ls (rr (by decide)) (rr (by decide)) (⟨by omega, u0_.2.1, by omega, Co_0 hp2.1.1 u0_.2.2⟩) (Nat.lt_succ_self _) hw (lv_sub hl [2, 3, 1, 0] rfl)
set_option maxHeartbeats 4000000 in
set_option maxRecDepth 100000 in
theorem c_X3_readCondition_n0 (l : Launch) (D : va_G) (cy : Nat → ClassId) (T : Nat → Nat → Nat) (v_0 : Nat → Nat → Int) (κ : Nat → Nat → Nat) (o : Nat) (K_ : Int → Int) (V_ : Int → Int) (hO : ∀ x, ow T x → κ 2 2 ≤ x) (t_o : T 0 o = 4) (hp0 : 0 ≤ (v_0 86 o) ∧ (v_0 86 o) ≤ 400) (hp1 : RK_ (v_0 300) (T 120 (T 82 o)) (T 121 (T 82 o)) ((v_0 123 (T 82 o))) K_ V_) (hp2 : Cs_ K_ ((v_0 83 o)) ((v_0 84 o)) ((v_0 80 o))) : KZ l D cy κ T yX3_readCondition cX3_readCondition 4 none 21 [.ref o, .int (J 0)] v_0 (KV (fun (v_2 : Nat → Nat → Int) => ∃ (y80_2 : Nat → Int) (y83_2 : Nat → Int) (y84_2 : Nat → Int) (y86_2 : Nat → Int) (y300_2 : Nat → Int) , v_2 = upV (upV (upV (upV (upV v_0 80 y80_2) 83 y83_2) 84 y84_2) 86 y86_2) 300 y300_2 ∧ ((0 ≤ (y86_2 o) ∧ (y86_2 o) ≤ 400) ∧ Ro_ (v_0 300) (y300_2) (T 85 o) ∧ Ck_ S3_ (0 : Int) TX_ K_ V_ ((v_0 83 o)) ((v_0 80 o)) ((y83_2 o)) ((y84_2 o)) ((y80_2 o))))) := by
  refine KZ.ofv (by decide) (Nat.le_of_ble_eq_true rfl) hO ?_
  intro p e s m below meth c ls ar QW A0 H locs E hK hZ hA hAc hw hl hret
  have hl : lv_has ls 4 [(0, .ref o), (1, .int (J 0))] := hl
  have hT : WT T := hw.1.2.1
  have cs_ := hp2
  unfold Cs_ at cs_
  have nk_ : T 120 (T 82 o) ≠ T 85 o := ro_ne (wo_120 hT (wt_82 hT t_o)) (wo_85 hT t_o) (by decide) (by decide) (by omega)
  have nv_ : T 121 (T 82 o) ≠ T 85 o := ro_ne (wo_121 hT (wt_82 hT t_o)) (wo_85 hT t_o) (by decide) (by decide) (by omega)
  refine j_aload_n E 1 rfl dX3_readCondition_0 rfl (lv_at hl 0 rfl) ?_
  refine g_84 E hK hw fl_X3_30 t_o (v_0 84 o) rfl 4 rfl dX3_readCondition_1 (fun rr1_ => ?_)
  refine j_bipush E 6 rfl dX3_readCondition_4 (by decide) ?_
  refine j_icmp_eq E 9 19 rfl rr1_ (rr (by decide)) dX3_readCondition_6 (by decide) (fun cc2_ => ?_) (fun cc2_ => ?_)
  · refine j_iconst E 20 rfl dX3_readCondition_19 ?_
    refine j_goto E 24 dX3_readCondition_20 (by decide) ?_
    refine j_istore_n E 25 rfl [(2, .int (J 1)), (0, .ref o), (1, .int (J 0))] dX3_readCondition_24 rfl hl (by decide) rfl (fun ls hl => ?_)
    refine j_iload_n E 26 rfl dX3_readCondition_25 rfl (lv_at hl 0 rfl) ?_
    refine j_if_eq E 29 43 rfl (rr (by decide)) dX3_readCondition_26 (by decide) (fun cc3_ => absurd cc3_ (by decide)) (fun _ => ?_)
    refine j_iload_n E 30 rfl dX3_readCondition_29 rfl (lv_at hl 2 rfl) ?_
    refine j_bipush E 32 rfl dX3_readCondition_30 (by decide) ?_
    refine j_icmp_lt E 35 43 rfl (rr (by decide)) (rr (by decide)) dX3_readCondition_32 (by decide) (fun _ => ?_) (fun cc4_ => absurd cc4_ (by decide))
    refine j_aload_n E 44 rfl dX3_readCondition_43 rfl (lv_at hl 1 rfl) ?_
    refine g_84 E hK hw fl_X3_30 t_o (v_0 84 o) rfl 47 rfl dX3_readCondition_44 (fun _ => ?_)
    refine j_bipush E 49 rfl dX3_readCondition_47 (by decide) ?_
    refine j_icmp_ne E 52 72 rfl rr1_ (rr (by decide)) dX3_readCondition_49 (by decide) (fun cc5_ => ?_) (fun cc5_ => ?_)
    · exfalso; omega
    refine j_aload_n E 53 rfl dX3_readCondition_52 rfl (lv_at hl 1 rfl) ?_
    refine zV_v E (c_X3_step l D cy T (v_0) κ o K_ V_ hO t_o  (show RK_ (v_0 300) (T 120 (T 82 o)) (T 121 (T 82 o)) (((v_0 123) (T 82 o))) K_ V_ from hp1) (show 0 ≤ ((v_0 83) o) ∧ ((v_0 83) o) < 400 from by have q_ := RK_lt hp1 (j := (v_0 83 o)) (by omega); omega)) mt_X3_step ml_X3_54 hK hZ hAc hw (cw_rc4 hK hw.1 t_o) hA ⟨Nat.le_of_ble_eq_true rfl, Nat.le_of_ble_eq_true rfl⟩ ⟨Nat.le_of_ble_eq_true rfl, Nat.le_of_ble_eq_true rfl⟩ (As := []) (rest := []) rfl rfl hl.1 (Nat.le_of_ble_eq_true rfl) 56 rfl dX3_readCondition_53 (fun v_6 H locs hq6_ hw => ?_)
    obtain ⟨y83_6, y84_6, ev6_, hh6_⟩ := hq6_
    rw [ev6_] at hw; clear ev6_
    have hw : WK D cy T (upV (upV v_0 83 y83_6) 84 y84_6) A0 s.heap H locs := cw_eq hw (by first | rfl | (funext j_; simp only [upV, reduceIte]; (repeat' split) <;> first | rfl | omega | (subst_vars; rfl)))
    have hh6_ : (y83_6 o) = ((v_0 83) o) + 1 ∧ (y84_6 o) = K_ (((v_0 83) o) + 1) := hh6_
    have s1_ := hh6_
    refine j_aload_n E 57 rfl dX3_readCondition_56 rfl (lv_at hl 1 rfl) ?_
    refine j_iload_n E 58 rfl dX3_readCondition_57 rfl (lv_at hl 2 rfl) ?_
    refine j_iconst E 59 rfl dX3_readCondition_58 ?_
    refine j_iadd E 60 rfl dX3_readCondition_59 ?_
    refine j_lit (z := 1) (by decide) ?_
    refine zV_v E (c_X3_readConditions_n1 l D cy T (upV (upV v_0 83 y83_6) 84 y84_6) κ o K_ V_ hO t_o  (show 0 ≤ ((v_0 86) o) ∧ ((v_0 86) o) ≤ 400 from by omega) (show RK_ (v_0 300) (T 120 (T 82 o)) (T 121 (T 82 o)) (((v_0 123) (T 82 o))) K_ V_ from hp1) (show Cs_ K_ ((y83_6 o)) ((y84_6 o)) (((v_0 80) o)) from Cs_st hp2 (by omega) s1_.1 s1_.2 (by omega))) mt_X3_readConditions ml_X3_57 hK hZ hAc hw (cw_rc4 hK hw.1 t_o) hA ⟨Nat.le_of_ble_eq_true rfl, Nat.le_of_ble_eq_true rfl⟩ ⟨Nat.le_of_ble_eq_true rfl, Nat.le_of_ble_eq_true rfl⟩ (As := [.int (J 1)]) (rest := []) rfl rfl hl.1 (Nat.le_of_ble_eq_true rfl) 63 rfl dX3_readCondition_60 (fun v_7 H locs hq7_ hw => ?_)
    obtain ⟨y80_7, y83_7, y84_7, y86_7, y300_7, ev7_, hh7_⟩ := hq7_
    rw [ev7_] at hw; clear ev7_
    have hw : WK D cy T (upV (upV (upV (upV (upV v_0 80 y80_7) 83 y83_7) 84 y84_7) 86 y86_7) 300 y300_7) A0 s.heap H locs := cw_eq hw (by first | rfl | (funext j_; simp only [upV, reduceIte]; (repeat' split) <;> first | rfl | omega | (subst_vars; rfl)))
    have hh7_ : (0 ≤ (y86_7 o) ∧ (y86_7 o) ≤ 400) ∧ Ro_ (v_0 300) (y300_7) (T 85 o) ∧ Ck_ S4_ (1 : Int) (NA_ K_) K_ V_ ((y83_6 o)) (((v_0 80) o)) ((y83_7 o)) ((y84_7 o)) ((y80_7 o)) := hh7_
    have b_ := hh7_
    rw [s1_.1] at b_
    refine j_aload_n E 64 rfl dX3_readCondition_63 rfl (lv_at hl 1 rfl) ?_
    refine j_bipush E 66 rfl dX3_readCondition_64 (by decide) ?_
    refine zV_v E (c_X3_take l D cy T (upV (upV (upV (upV (upV v_0 80 y80_7) 83 y83_7) 84 y84_7) 86 y86_7) 300 y300_7) κ o 41 K_ V_ hO t_o (rr (by decide)) (show RK_ (y300_7) (T 120 (T 82 o)) (T 121 (T 82 o)) (((v_0 123) (T 82 o))) K_ V_ from RK_ro hp1 b_.2.1 nk_ nv_) (show Cs_ K_ ((y83_7 o)) ((y84_7 o)) ((y80_7 o)) from Ck_cs (Cs_st (a1 := v_0 83 o + 1) (k1 := K_ (v_0 83 o + 1)) hp2 (by omega) rfl rfl (by omega)) b_.2.2) (show 3 < (41 : Int) from by omega)) mt_X3_take ml_X3_47 hK hZ hAc hw (cw_rc4 hK hw.1 t_o) hA ⟨Nat.le_of_ble_eq_true rfl, Nat.le_of_ble_eq_true rfl⟩ ⟨Nat.le_of_ble_eq_true rfl, Nat.le_of_ble_eq_true rfl⟩ (As := [.int (J 41)]) (rest := []) rfl rfl hl.1 (Nat.le_of_ble_eq_true rfl) 69 rfl dX3_readCondition_66 (fun v_8 H locs hq8_ hw => ?_)
    obtain ⟨y80_8, y83_8, y84_8, ev8_, hh8_⟩ := hq8_
    rw [ev8_] at hw; clear ev8_
    have hw : WK D cy T (upV (upV (upV (upV (upV v_0 80 y80_8) 83 y83_8) 84 y84_8) 86 y86_7) 300 y300_7) A0 s.heap H locs := cw_eq hw (by first | rfl | (funext j_; simp only [upV, reduceIte]; (repeat' split) <;> first | rfl | omega | (subst_vars; rfl)))
    have hh8_ : (((y84_7 o) = (41 : Int)) ∧ (y83_8 o) = (y83_7 o) + 1 ∧ (y84_8 o) = K_ ((y83_7 o) + 1) ∧ (y80_8 o) = (y80_7 o)) ∨ (¬ ((y84_7 o) = (41 : Int)) ∧ (y83_8 o) = (y83_7 o) ∧ (y84_8 o) = 2 ∧ (((y80_7 o) = 0 ∧ (y80_8 o) = 1) ∨ (¬ (y80_7 o) = 0 ∧ (y80_8 o) = (y80_7 o)))) := hh8_
    have t_ := hh8_
    refine j_goto E 126 dX3_readCondition_69 (by decide) ?_
    exact hret 126 (upV (upV (upV (upV (upV v_0 80 y80_8) 83 y83_8) 84 y84_8) 86 y86_7) 300 y300_7) _ _ ls hw ⟨y80_8, y83_8, y84_8, y86_7, y300_7, rfl, by first | exact ⟨by omega, Ro_rf, ck_deep rfl hp2 (by omega) rfl r_.1 r_.2⟩ | exact ⟨by omega, b_.2.1, ck_bra (by omega) hp2 (by omega) b_.2.2 t_ (fun q_ => (RK_lt hp1 (ck_k b_.2.2 q_)).2)⟩ | exact ⟨by omega, Ro_tr n_.2.1 ro_, ck_not (by omega) hp2 (by omega) n_.2.2⟩ | exact ⟨by omega, Ro_tr e1_.2.1 (Ro_tr e2_.2.1 ro_), ck_cmp hp2 (by omega) (by omega) e1_.2.2 t_ e2_.2.2⟩⟩ dX3_readCondition_126
  · refine j_aload_n E 10 rfl dX3_readCondition_9 rfl (lv_at hl 0 rfl) ?_
    refine g_84 E hK hw fl_X3_30 t_o (v_0 84 o) rfl 13 rfl dX3_readCondition_10 (fun _ => ?_)
    refine j_sipush E 16 rfl dX3_readCondition_13 (by decide) ?_
    refine j_icmp_ne E 19 23 rfl rr1_ (rr (by decide)) dX3_readCondition_16 (by decide) (fun cc9_ => ?_) (fun cc9_ => ?_)
    · refine j_iconst E 24 rfl dX3_readCondition_23 ?_
      refine j_istore_n E 25 rfl [(2, .int (J 0)), (0, .ref o), (1, .int (J 0))] dX3_readCondition_24 rfl hl (by decide) rfl (fun ls hl => ?_)
      refine j_iload_n E 26 rfl dX3_readCondition_25 rfl (lv_at hl 0 rfl) ?_
      refine j_if_eq E 29 43 rfl (rr (by decide)) dX3_readCondition_26 (by decide) (fun _ => ?_) (fun cc10_ => absurd cc10_ (by decide))
      refine j_aload_n E 44 rfl dX3_readCondition_43 rfl (lv_at hl 1 rfl) ?_
      refine g_84 E hK hw fl_X3_30 t_o (v_0 84 o) rfl 47 rfl dX3_readCondition_44 (fun _ => ?_)
      refine j_bipush E 49 rfl dX3_readCondition_47 (by decide) ?_
      refine j_icmp_ne E 52 72 rfl rr1_ (rr (by decide)) dX3_readCondition_49 (by decide) (fun cc11_ => ?_) (fun cc11_ => ?_)
      rotate_left; · exfalso; omega
      refine j_aload_n E 73 rfl dX3_readCondition_72 rfl (lv_at hl 1 rfl) ?_
      refine g_84 E hK hw fl_X3_30 t_o (v_0 84 o) rfl 76 rfl dX3_readCondition_73 (fun _ => ?_)
      refine j_sipush E 79 rfl dX3_readCondition_76 (by decide) ?_
      refine j_icmp_ne E 82 103 rfl rr1_ (rr (by decide)) dX3_readCondition_79 (by decide) (fun cc12_ => ?_) (fun cc12_ => ?_)
      rotate_left; · exfalso; omega
      refine j_aload_n E 104 rfl dX3_readCondition_103 rfl (lv_at hl 1 rfl) ?_
      refine zV_v E (c_X3_readSum l D cy T (v_0) κ o K_ V_ hO t_o  (show 0 ≤ ((v_0 86) o) ∧ ((v_0 86) o) ≤ 400 from by omega) (show RK_ (v_0 300) (T 120 (T 82 o)) (T 121 (T 82 o)) (((v_0 123) (T 82 o))) K_ V_ from hp1) (show Cs_ K_ (((v_0 83) o)) (((v_0 84) o)) (((v_0 80) o)) from hp2)) mt_X3_readSum ml_X3_51 hK hZ hAc hw (cw_rc4 hK hw.1 t_o) hA ⟨Nat.le_of_ble_eq_true rfl, Nat.le_of_ble_eq_true rfl⟩ ⟨Nat.le_of_ble_eq_true rfl, Nat.le_of_ble_eq_true rfl⟩ (As := []) (rest := []) rfl rfl hl.1 (Nat.le_of_ble_eq_true rfl) 107 rfl dX3_readCondition_104 (fun v_13 H locs hq13_ hw => ?_)
      obtain ⟨y80_13, y83_13, y84_13, y86_13, y300_13, ev13_, hh13_⟩ := hq13_
      rw [ev13_] at hw; clear ev13_
      have hw : WK D cy T (upV (upV (upV (upV (upV v_0 80 y80_13) 83 y83_13) 84 y84_13) 86 y86_13) 300 y300_13) A0 s.heap H locs := cw_eq hw (by first | rfl | (funext j_; simp only [upV, reduceIte]; (repeat' split) <;> first | rfl | omega | (subst_vars; rfl)))
      have hh13_ : (0 ≤ (y86_13 o) ∧ (y86_13 o) ≤ 400) ∧ Ro_ (v_0 300) (y300_13) (T 85 o) ∧ Cp_ S3_ (N4_ K_) K_ V_ (((v_0 83) o)) (((v_0 80) o)) ((y83_13 o)) ((y84_13 o)) ((y80_13 o)) := hh13_
      have e1_ := hh13_
      refine j_aload_n E 108 rfl dX3_readCondition_107 rfl (lv_at hl 1 rfl) ?_
      refine g_84 E hK hw fl_X3_30 t_o (y84_13 o) rfl 111 rfl dX3_readCondition_108 (fun rr14_ => ?_)
      refine j_istore_n E 112 rfl [(3, .int (J (y84_13 o))), (2, .int (J 0)), (0, .ref o), (1, .int (J 0))] dX3_readCondition_111 rfl hl (by decide) rfl (fun ls hl => ?_)
      refine j_aload_n E 113 rfl dX3_readCondition_112 rfl (lv_at hl 2 rfl) ?_
      refine zV_v E (c_X3_takeComparison l D cy T (upV (upV (upV (upV (upV v_0 80 y80_13) 83 y83_13) 84 y84_13) 86 y86_13) 300 y300_13) κ o K_ V_ hO t_o  (show RK_ (y300_13) (T 120 (T 82 o)) (T 121 (T 82 o)) (((v_0 123) (T 82 o))) K_ V_ from RK_ro hp1 e1_.2.1 nk_ nv_) (show Cs_ K_ ((y83_13 o)) ((y84_13 o)) ((y80_13 o)) from Cp_cs hp2 e1_.2.2)) mt_X3_takeComparison ml_X3_88 hK hZ hAc hw (cw_rc4 hK hw.1 t_o) hA ⟨Nat.le_of_ble_eq_true rfl, Nat.le_of_ble_eq_true rfl⟩ ⟨Nat.le_of_ble_eq_true rfl, Nat.le_of_ble_eq_true rfl⟩ (As := []) (rest := []) rfl rfl hl.1 (Nat.le_of_ble_eq_true rfl) 116 rfl dX3_readCondition_113 (fun v_15 H locs hq15_ hw => ?_)
      obtain ⟨y80_15, y83_15, y84_15, ev15_, hh15_⟩ := hq15_
      rw [ev15_] at hw; clear ev15_
      have hw : WK D cy T (upV (upV (upV (upV (upV v_0 80 y80_15) 83 y83_15) 84 y84_15) 86 y86_13) 300 y300_13) A0 s.heap H locs := cw_eq hw (by first | rfl | (funext j_; simp only [upV, reduceIte]; (repeat' split) <;> first | rfl | omega | (subst_vars; rfl)))
      have hh15_ : (((y84_13 o) = 60 ∨ (y84_13 o) = 61 ∨ (y84_13 o) = 62) ∧ (y83_15 o) = (y83_13 o) + 1 ∧ (y84_15 o) = K_ ((y83_13 o) + 1) ∧ (y80_15 o) = (y80_13 o)) ∨ (¬ ((y84_13 o) = 60 ∨ (y84_13 o) = 61 ∨ (y84_13 o) = 62) ∧ (y83_15 o) = (y83_13 o) ∧ (y84_15 o) = 2 ∧ (((y80_13 o) = 0 ∧ (y80_15 o) = 1) ∨ (¬ (y80_13 o) = 0 ∧ (y80_15 o) = (y80_13 o)))) := hh15_
      have t_ := hh15_
      refine j_aload_n E 117 rfl dX3_readCondition_116 rfl (lv_at hl 2 rfl) ?_
      refine zV_v E (c_X3_readSum l D cy T (upV (upV (upV (upV (upV v_0 80 y80_15) 83 y83_15) 84 y84_15) 86 y86_13) 300 y300_13) κ o K_ V_ hO t_o  (show 0 ≤ (y86_13 o) ∧ (y86_13 o) ≤ 400 from by omega) (show RK_ (y300_13) (T 120 (T 82 o)) (T 121 (T 82 o)) (((v_0 123) (T 82 o))) K_ V_ from RK_ro hp1 e1_.2.1 nk_ nv_) (show Cs_ K_ ((y83_15 o)) ((y84_15 o)) ((y80_15 o)) from Ct_cs (Cp_cs hp2 e1_.2.2) t_ (fun q_ => (RK_lt hp1 q_).2))) mt_X3_readSum ml_X3_51 hK hZ hAc hw (cw_rc4 hK hw.1 t_o) hA ⟨Nat.le_of_ble_eq_true rfl, Nat.le_of_ble_eq_true rfl⟩ ⟨Nat.le_of_ble_eq_true rfl, Nat.le_of_ble_eq_true rfl⟩ (As := []) (rest := []) rfl rfl hl.1 (Nat.le_of_ble_eq_true rfl) 120 rfl dX3_readCondition_117 (fun v_16 H locs hq16_ hw => ?_)
      obtain ⟨y80_16, y83_16, y84_16, y86_16, y300_16, ev16_, hh16_⟩ := hq16_
      rw [ev16_] at hw; clear ev16_
      have hw : WK D cy T (upV (upV (upV (upV (upV v_0 80 y80_16) 83 y83_16) 84 y84_16) 86 y86_16) 300 y300_16) A0 s.heap H locs := cw_eq hw (by first | rfl | (funext j_; simp only [upV, reduceIte]; (repeat' split) <;> first | rfl | omega | (subst_vars; rfl)))
      have hh16_ : (0 ≤ (y86_16 o) ∧ (y86_16 o) ≤ 400) ∧ Ro_ (y300_13) (y300_16) (T 85 o) ∧ Cp_ S3_ (N4_ K_) K_ V_ ((y83_15 o)) ((y80_15 o)) ((y83_16 o)) ((y84_16 o)) ((y80_16 o)) := hh16_
      have e2_ := hh16_
      refine j_aload_n E 121 rfl dX3_readCondition_120 rfl (lv_at hl 2 rfl) ?_
      refine j_iload_n E 122 rfl dX3_readCondition_121 rfl (lv_at hl 0 rfl) ?_
      refine j_ineg E 123 rfl dX3_readCondition_122 ?_
      refine j_norm (fun zz17_ rr17_ ee17_ => ?_)
      refine kV_v E (c_X3_emit l D cy T (upV (upV (upV (upV (upV v_0 80 y80_16) 83 y83_16) 84 y84_16) 86 y86_16) 300 y300_16) o zz17_  t_o rr17_ (show 0 ≤ (y86_16 o) ∧ (y86_16 o) ≤ 400 from by omega)) mt_X3_emit ml_X3_60 hK hw (cw_rc4 hK hw.1 t_o) hA ⟨Nat.le_of_ble_eq_true rfl, Nat.le_of_ble_eq_true rfl⟩ ⟨Nat.le_of_ble_eq_true rfl, Nat.le_of_ble_eq_true rfl⟩ (As := [.int (J zz17_)]) (rest := []) rfl rfl hl.1 (Nat.le_of_ble_eq_true rfl) 126 rfl dX3_readCondition_123 (fun v_18 H locs hq18_ hw => ?_)
      obtain ⟨y86_18, y300_18, ev18_, hh18_⟩ := hq18_
      rw [ev18_] at hw; clear ev18_
      have hw : WK D cy T (upV (upV (upV (upV (upV v_0 80 y80_16) 83 y83_16) 84 y84_16) 86 y86_18) 300 y300_18) A0 s.heap H locs := cw_eq hw (by first | rfl | (funext j_; simp only [upV, reduceIte]; (repeat' split) <;> first | rfl | omega | (subst_vars; rfl)))
      have hh18_ : (0 ≤ (y86_18 o) ∧ (y86_18 o) ≤ 400) ∧ Ro_ (y300_16) (y300_18) (T 85 o) := hh18_
      have ro_ := hh18_.2
      exact hret 126 (upV (upV (upV (upV (upV v_0 80 y80_16) 83 y83_16) 84 y84_16) 86 y86_18) 300 y300_18) _ _ ls hw ⟨y80_16, y83_16, y84_16, y86_18, y300_18, rfl, by first | exact ⟨by omega, Ro_rf, ck_deep rfl hp2 (by omega) rfl r_.1 r_.2⟩ | exact ⟨by omega, b_.2.1, ck_bra (by omega) hp2 (by omega) b_.2.2 t_ (fun q_ => (RK_lt hp1 (ck_k b_.2.2 q_)).2)⟩ | exact ⟨by omega, Ro_tr n_.2.1 ro_, ck_not (by omega) hp2 (by omega) n_.2.2⟩ | exact ⟨by omega, Ro_tr e1_.2.1 (Ro_tr e2_.2.1 ro_), ck_cmp hp2 (by omega) (by omega) e1_.2.2 t_ e2_.2.2⟩⟩ dX3_readCondition_126
    · refine j_iconst E 20 rfl dX3_readCondition_19 ?_
      refine j_goto E 24 dX3_readCondition_20 (by decide) ?_
      refine j_istore_n E 25 rfl [(2, .int (J 1)), (0, .ref o), (1, .int (J 0))] dX3_readCondition_24 rfl hl (by decide) rfl (fun ls hl => ?_)
      refine j_iload_n E 26 rfl dX3_readCondition_25 rfl (lv_at hl 0 rfl) ?_
      refine j_if_eq E 29 43 rfl (rr (by decide)) dX3_readCondition_26 (by decide) (fun cc19_ => absurd cc19_ (by decide)) (fun _ => ?_)
      refine j_iload_n E 30 rfl dX3_readCondition_29 rfl (lv_at hl 2 rfl) ?_
      refine j_bipush E 32 rfl dX3_readCondition_30 (by decide) ?_
      refine j_icmp_lt E 35 43 rfl (rr (by decide)) (rr (by decide)) dX3_readCondition_32 (by decide) (fun _ => ?_) (fun cc20_ => absurd cc20_ (by decide))
      refine j_aload_n E 44 rfl dX3_readCondition_43 rfl (lv_at hl 1 rfl) ?_
      refine g_84 E hK hw fl_X3_30 t_o (v_0 84 o) rfl 47 rfl dX3_readCondition_44 (fun _ => ?_)
      refine j_bipush E 49 rfl dX3_readCondition_47 (by decide) ?_
      refine j_icmp_ne E 52 72 rfl rr1_ (rr (by decide)) dX3_readCondition_49 (by decide) (fun cc21_ => ?_) (fun cc21_ => ?_)
      rotate_left; · exfalso; omega
      refine j_aload_n E 73 rfl dX3_readCondition_72 rfl (lv_at hl 1 rfl) ?_
      refine g_84 E hK hw fl_X3_30 t_o (v_0 84 o) rfl 76 rfl dX3_readCondition_73 (fun _ => ?_)
      refine j_sipush E 79 rfl dX3_readCondition_76 (by decide) ?_
      refine j_icmp_ne E 82 103 rfl rr1_ (rr (by decide)) dX3_readCondition_79 (by decide) (fun cc22_ => ?_) (fun cc22_ => ?_)
      · exfalso; omega
      refine j_aload_n E 83 rfl dX3_readCondition_82 rfl (lv_at hl 1 rfl) ?_
      refine zV_v E (c_X3_step l D cy T (v_0) κ o K_ V_ hO t_o  (show RK_ (v_0 300) (T 120 (T 82 o)) (T 121 (T 82 o)) (((v_0 123) (T 82 o))) K_ V_ from hp1) (show 0 ≤ ((v_0 83) o) ∧ ((v_0 83) o) < 400 from by have q_ := RK_lt hp1 (j := (v_0 83 o)) (by omega); omega)) mt_X3_step ml_X3_54 hK hZ hAc hw (cw_rc4 hK hw.1 t_o) hA ⟨Nat.le_of_ble_eq_true rfl, Nat.le_of_ble_eq_true rfl⟩ ⟨Nat.le_of_ble_eq_true rfl, Nat.le_of_ble_eq_true rfl⟩ (As := []) (rest := []) rfl rfl hl.1 (Nat.le_of_ble_eq_true rfl) 86 rfl dX3_readCondition_83 (fun v_23 H locs hq23_ hw => ?_)
      obtain ⟨y83_23, y84_23, ev23_, hh23_⟩ := hq23_
      rw [ev23_] at hw; clear ev23_
      have hw : WK D cy T (upV (upV v_0 83 y83_23) 84 y84_23) A0 s.heap H locs := cw_eq hw (by first | rfl | (funext j_; simp only [upV, reduceIte]; (repeat' split) <;> first | rfl | omega | (subst_vars; rfl)))
      have hh23_ : (y83_23 o) = ((v_0 83) o) + 1 ∧ (y84_23 o) = K_ (((v_0 83) o) + 1) := hh23_
      have s2_ := hh23_
      refine j_aload_n E 87 rfl dX3_readCondition_86 rfl (lv_at hl 1 rfl) ?_
      refine j_iload_n E 88 rfl dX3_readCondition_87 rfl (lv_at hl 2 rfl) ?_
      refine j_iconst E 89 rfl dX3_readCondition_88 ?_
      refine j_iadd E 90 rfl dX3_readCondition_89 ?_
      refine j_lit (z := 1) (by decide) ?_
      refine zV_v E (c_X3_readCondition_n1 l D cy T (upV (upV v_0 83 y83_23) 84 y84_23) κ o K_ V_ hO t_o  (show 0 ≤ ((v_0 86) o) ∧ ((v_0 86) o) ≤ 400 from by omega) (show RK_ (v_0 300) (T 120 (T 82 o)) (T 121 (T 82 o)) (((v_0 123) (T 82 o))) K_ V_ from hp1) (show Cs_ K_ ((y83_23 o)) ((y84_23 o)) (((v_0 80) o)) from Cs_st hp2 (by omega) s2_.1 s2_.2 (by omega))) mt_X3_readCondition ml_X3_85 hK hZ hAc hw (cw_rc4 hK hw.1 t_o) hA ⟨Nat.le_of_ble_eq_true rfl, Nat.le_of_ble_eq_true rfl⟩ ⟨Nat.le_of_ble_eq_true rfl, Nat.le_of_ble_eq_true rfl⟩ (As := [.int (J 1)]) (rest := []) rfl rfl hl.1 (Nat.le_of_ble_eq_true rfl) 93 rfl dX3_readCondition_90 (fun v_24 H locs hq24_ hw => ?_)
      obtain ⟨y80_24, y83_24, y84_24, y86_24, y300_24, ev24_, hh24_⟩ := hq24_
      rw [ev24_] at hw; clear ev24_
      have hw : WK D cy T (upV (upV (upV (upV (upV v_0 80 y80_24) 83 y83_24) 84 y84_24) 86 y86_24) 300 y300_24) A0 s.heap H locs := cw_eq hw (by first | rfl | (funext j_; simp only [upV, reduceIte]; (repeat' split) <;> first | rfl | omega | (subst_vars; rfl)))
      have hh24_ : (0 ≤ (y86_24 o) ∧ (y86_24 o) ≤ 400) ∧ Ro_ (v_0 300) (y300_24) (T 85 o) ∧ Ck_ S3_ (1 : Int) TX_ K_ V_ ((y83_23 o)) (((v_0 80) o)) ((y83_24 o)) ((y84_24 o)) ((y80_24 o)) := hh24_
      have n_ := hh24_
      rw [s2_.1] at n_
      refine j_aload_n E 94 rfl dX3_readCondition_93 rfl (lv_at hl 1 rfl) ?_
      refine j_sipush E 97 rfl dX3_readCondition_94 (by decide) ?_
      refine kV_v E (c_X3_emit l D cy T (upV (upV (upV (upV (upV v_0 80 y80_24) 83 y83_24) 84 y84_24) 86 y86_24) 300 y300_24) o ((-306))  t_o (rr (by decide)) (show 0 ≤ (y86_24 o) ∧ (y86_24 o) ≤ 400 from by omega)) mt_X3_emit ml_X3_60 hK hw (cw_rc4 hK hw.1 t_o) hA ⟨Nat.le_of_ble_eq_true rfl, Nat.le_of_ble_eq_true rfl⟩ ⟨Nat.le_of_ble_eq_true rfl, Nat.le_of_ble_eq_true rfl⟩ (As := [.int (J ((-306)))]) (rest := []) rfl rfl hl.1 (Nat.le_of_ble_eq_true rfl) 100 rfl dX3_readCondition_97 (fun v_25 H locs hq25_ hw => ?_)
      obtain ⟨y86_25, y300_25, ev25_, hh25_⟩ := hq25_
      rw [ev25_] at hw; clear ev25_
      have hw : WK D cy T (upV (upV (upV (upV (upV v_0 80 y80_24) 83 y83_24) 84 y84_24) 86 y86_25) 300 y300_25) A0 s.heap H locs := cw_eq hw (by first | rfl | (funext j_; simp only [upV, reduceIte]; (repeat' split) <;> first | rfl | omega | (subst_vars; rfl)))
      have hh25_ : (0 ≤ (y86_25 o) ∧ (y86_25 o) ≤ 400) ∧ Ro_ (y300_24) (y300_25) (T 85 o) := hh25_
      have ro_ := hh25_.2
      refine j_goto E 126 dX3_readCondition_100 (by decide) ?_
      exact hret 126 (upV (upV (upV (upV (upV v_0 80 y80_24) 83 y83_24) 84 y84_24) 86 y86_25) 300 y300_25) _ _ ls hw ⟨y80_24, y83_24, y84_24, y86_25, y300_25, rfl, by first | exact ⟨by omega, Ro_rf, ck_deep rfl hp2 (by omega) rfl r_.1 r_.2⟩ | exact ⟨by omega, b_.2.1, ck_bra (by omega) hp2 (by omega) b_.2.2 t_ (fun q_ => (RK_lt hp1 (ck_k b_.2.2 q_)).2)⟩ | exact ⟨by omega, Ro_tr n_.2.1 ro_, ck_not (by omega) hp2 (by omega) n_.2.2⟩ | exact ⟨by omega, Ro_tr e1_.2.1 (Ro_tr e2_.2.1 ro_), ck_cmp hp2 (by omega) (by omega) e1_.2.2 t_ e2_.2.2⟩⟩ dX3_readCondition_126
set_option maxHeartbeats 4000000 in
set_option maxRecDepth 100000 in
theorem c_X3_readConditions_n0 (l : Launch) (D : va_G) (cy : Nat → ClassId) (T : Nat → Nat → Nat) (v_0 : Nat → Nat → Int) (κ : Nat → Nat → Nat) (o : Nat) (K_ : Int → Int) (V_ : Int → Int) (hO : ∀ x, ow T x → κ 2 2 ≤ x) (t_o : T 0 o = 4) (hp0 : 0 ≤ (v_0 86 o) ∧ (v_0 86 o) ≤ 400) (hp1 : RK_ (v_0 300) (T 120 (T 82 o)) (T 121 (T 82 o)) ((v_0 123 (T 82 o))) K_ V_) (hp2 : Cs_ K_ ((v_0 83 o)) ((v_0 84 o)) ((v_0 80 o))) : KZ l D cy κ T yX3_readConditions cX3_readConditions 5 none 22 [.ref o, .int (J 0)] v_0 (KV (fun (v_2 : Nat → Nat → Int) => ∃ (y80_2 : Nat → Int) (y83_2 : Nat → Int) (y84_2 : Nat → Int) (y86_2 : Nat → Int) (y300_2 : Nat → Int) , v_2 = upV (upV (upV (upV (upV v_0 80 y80_2) 83 y83_2) 84 y84_2) 86 y86_2) 300 y300_2 ∧ ((0 ≤ (y86_2 o) ∧ (y86_2 o) ≤ 400) ∧ Ro_ (v_0 300) (y300_2) (T 85 o) ∧ Ck_ S4_ (0 : Int) (NA_ K_) K_ V_ ((v_0 83 o)) ((v_0 80 o)) ((y83_2 o)) ((y84_2 o)) ((y80_2 o))))) := by
  refine KZ.ofv (by decide) (Nat.le_of_ble_eq_true rfl) hO ?_
  intro p e s m below meth c ls ar QW A0 H locs E hK hZ hA hAc hw hl hret
  have hl : lv_has ls 5 [(0, .ref o), (1, .int (J 0))] := hl
  have hT : WT T := hw.1.2.1
  have nk_ : T 120 (T 82 o) ≠ T 85 o := ro_ne (wo_120 hT (wt_82 hT t_o)) (wo_85 hT t_o) (by decide) (by decide) (by omega)
  have nv_ : T 121 (T 82 o) ≠ T 85 o := ro_ne (wo_121 hT (wt_82 hT t_o)) (wo_85 hT t_o) (by decide) (by decide) (by omega)
  have c0_ := hp2.1
  refine j_aload_n E 1 rfl dX3_readConditions_0 rfl (lv_at hl 0 rfl) ?_
  refine j_iload_n E 2 rfl dX3_readConditions_1 rfl (lv_at hl 1 rfl) ?_
  refine zV_v E (c_X3_readCondition_n0 l D cy T (v_0) κ o K_ V_ hO t_o  (show 0 ≤ ((v_0 86) o) ∧ ((v_0 86) o) ≤ 400 from by omega) (show RK_ (v_0 300) (T 120 (T 82 o)) (T 121 (T 82 o)) (((v_0 123) (T 82 o))) K_ V_ from hp1) (show Cs_ K_ (((v_0 83) o)) (((v_0 84) o)) (((v_0 80) o)) from hp2)) mt_X3_readCondition ml_X3_85 hK hZ hAc hw (cw_rc4 hK hw.1 t_o) hA ⟨Nat.le_of_ble_eq_true rfl, Nat.le_of_ble_eq_true rfl⟩ ⟨Nat.le_of_ble_eq_true rfl, Nat.le_of_ble_eq_true rfl⟩ (As := [.int (J 0)]) (rest := []) rfl rfl hl.1 (Nat.le_of_ble_eq_true rfl) 5 rfl dX3_readConditions_2 (fun v_1 H locs hq1_ hw => ?_)
  obtain ⟨y80_1, y83_1, y84_1, y86_1, y300_1, ev1_, hh1_⟩ := hq1_
  rw [ev1_] at hw; clear ev1_
  have hw : WK D cy T (upV (upV (upV (upV (upV v_0 80 y80_1) 83 y83_1) 84 y84_1) 86 y86_1) 300 y300_1) A0 s.heap H locs := cw_eq hw (by first | rfl | (funext j_; simp only [upV, reduceIte]; (repeat' split) <;> first | rfl | omega | (subst_vars; rfl)))
  have hh1_ : (0 ≤ (y86_1 o) ∧ (y86_1 o) ≤ 400) ∧ Ro_ (v_0 300) (y300_1) (T 85 o) ∧ Ck_ S3_ (0 : Int) TX_ K_ V_ (((v_0 83) o)) (((v_0 80) o)) ((y83_1 o)) ((y84_1 o)) ((y80_1 o)) := hh1_
  have u0_ := hh1_
  refine j_iconst E 6 rfl dX3_readConditions_5 ?_
  refine j_istore_n E 7 rfl [(2, .int (J 0)), (0, .ref o), (1, .int (J 0))] dX3_readConditions_6 rfl hl (by decide) rfl (fun ls hl => ?_)
  refine j_iconst E 8 rfl dX3_readConditions_7 ?_
  refine j_istore_n E 9 rfl [(3, .int (J 0)), (2, .int (J 0)), (0, .ref o), (1, .int (J 0))] dX3_readConditions_8 rfl hl (by decide) rfl (fun ls hl => ?_)
  have L9_2 : ∀ (k9 : Nat) (l2_9 l3_9 : Int) (y80_c9 : Nat → Int) (y83_c9 : Nat → Int) (y84_c9 : Nat → Int) (y86_c9 : Nat → Int) (y300_c9 : Nat → Int) (H : Heap) (locs : List Loc) (ls : Array Slot), inR l2_9 → inR l3_9 → ((0 ≤ (y86_c9 o) ∧ (y86_c9 o) ≤ 400) ∧ (Ro_ (v_0 300) (y300_c9) (T 85 o)) ∧ 0 ≤ l3_9 ∧ Co_ (0 : Int) {K_} {V_} (v_0 83 o) (v_0 80 o) l2_9 l3_9 ((y83_c9 o)) ((y84_c9 o)) ((y80_c9 o))) → (400 - l3_9).toNat < k9 → WK D cy T (upV (upV (upV (upV (upV v_0 80 y80_c9) 83 y83_c9) 84 y84_c9) 86 y86_c9) 300 y300_c9) A0 s.heap H locs → lv_has ls 5 [(0, .ref o), (1, .int (J 0)), (2, .int (J l2_9)), (3, .int (J l3_9))] → W p l e (rmd 22 0 0) s m ar below meth c H locs 0 0 QW (F0 m 9 ls []) := by
    intro k9
    induction k9 with
    | zero =>
      intro l2_9 l3_9 y80_c9 y83_c9 y84_c9 y86_c9 y300_c9 H locs ls r_l2_9 r_l3_9 iv9 ms9 hw hl
      exact absurd ms9 (Nat.not_lt_zero _)
    | succ k9 ih9 =>
      intro l2_9 l3_9 y80_c9 y83_c9 y84_c9 y86_c9 y300_c9 H locs ls r_l2_9 r_l3_9 iv9 ms9 hw hl
      have cs1_ := Co_cs hp2 iv9.2.2.2
      unfold Cs_ at cs1_
      have L111_4 : ∀ (H : Heap) (locs : List Loc) (ls : Array Slot), (¬ ((y84_c9 o) = 305 ∨ (y84_c9 o) = 304)) → WK D cy T (upV (upV (upV (upV (upV v_0 80 y80_c9) 83 y83_c9) 84 y84_c9) 86 y86_c9) 300 y300_c9) A0 s.heap H locs → lv_has ls 5 [(0, .ref o), (1, .int (J 0)), (2, .int (J l2_9)), (3, .int (J l3_9))] → W p l e (rmd 22 0 0) s m ar below meth c H locs 0 0 QW (F0 m 111 ls []) := by
        intro H locs ls iv111 hw hl
        refine j_iload_n E 112 rfl dX3_readConditions_111 rfl (lv_at hl 2 rfl) ?_
        refine j_if_eq E 115 122 rfl r_l2_9 dX3_readConditions_112 (by decide) (fun cc6_ => ?_) (fun cc6_ => ?_)
        · exact hret 122 (upV (upV (upV (upV (upV v_0 80 y80_c9) 83 y83_c9) 84 y84_c9) 86 y86_c9) 300 y300_c9) _ _ ls hw ⟨y80_c9, y83_c9, y84_c9, y86_c9, y300_c9, rfl, by first | exact ⟨by omega, Ro_tr iv9.2.1 roe_, Co_end iv9.2.2.2 iv111 (by omega)⟩ | exact ⟨by omega, iv9.2.1, Co_end iv9.2.2.2 iv111 (by omega)⟩⟩ dX3_readConditions_122
        · refine j_aload_n E 116 rfl dX3_readConditions_115 rfl (lv_at hl 0 rfl) ?_
          refine j_sipush E 119 rfl dX3_readConditions_116 (by decide) ?_
          refine kV_v E (c_X3_emit l D cy T (upV (upV (upV (upV (upV v_0 80 y80_c9) 83 y83_c9) 84 y84_c9) 86 y86_c9) 300 y300_c9) o ((-304))  t_o (rr (by decide)) (show 0 ≤ (y86_c9 o) ∧ (y86_c9 o) ≤ 400 from by omega)) mt_X3_emit ml_X3_60 hK hw (cw_rc4 hK hw.1 t_o) hA ⟨Nat.le_of_ble_eq_true rfl, Nat.le_of_ble_eq_true rfl⟩ ⟨Nat.le_of_ble_eq_true rfl, Nat.le_of_ble_eq_true rfl⟩ (As := [.int (J ((-304)))]) (rest := []) rfl rfl hl.1 (Nat.le_of_ble_eq_true rfl) 122 rfl dX3_readConditions_119 (fun v_7 H locs hq7_ hw => ?_)
          obtain ⟨y86_7, y300_7, ev7_, hh7_⟩ := hq7_
          rw [ev7_] at hw; clear ev7_
          have hw : WK D cy T (upV (upV (upV (upV (upV v_0 80 y80_c9) 83 y83_c9) 84 y84_c9) 86 y86_7) 300 y300_7) A0 s.heap H locs := cw_eq hw (by first | rfl | (funext j_; simp only [upV, reduceIte]; (repeat' split) <;> first | rfl | omega | (subst_vars; rfl)))
          have hh7_ : (0 ≤ (y86_7 o) ∧ (y86_7 o) ≤ 400) ∧ Ro_ (y300_c9) (y300_7) (T 85 o) := hh7_
          have roe_ := hh7_.2
          exact hret 122 (upV (upV (upV (upV (upV v_0 80 y80_c9) 83 y83_c9) 84 y84_c9) 86 y86_7) 300 y300_7) _ _ ls hw ⟨y80_c9, y83_c9, y84_c9, y86_7, y300_7, rfl, by first | exact ⟨by omega, Ro_tr iv9.2.1 roe_, Co_end iv9.2.2.2 iv111 (by omega)⟩ | exact ⟨by omega, iv9.2.1, Co_end iv9.2.2.2 iv111 (by omega)⟩⟩ dX3_readConditions_122
      refine j_iload_n E 10 rfl dX3_readConditions_9 rfl (lv_at hl 3 rfl) ?_
      refine j_sipush E 13 rfl dX3_readConditions_10 (by decide) ?_
      refine j_icmp_ge E 16 111 rfl r_l3_9 (rr (by decide)) dX3_readConditions_13 (by decide) (fun cc8_ => ?_) (fun cc8_ => ?_)
      · exact L111_4   H locs ls  (by first | omega | exact Co_i iv9.2.2.2 (by omega) (by omega)) hw (lv_sub hl [0, 1, 2, 3] rfl)
      · refine j_aload_n E 17 rfl dX3_readConditions_16 rfl (lv_at hl 0 rfl) ?_
        refine g_84 E hK hw fl_X3_30 t_o (y84_c9 o) rfl 20 rfl dX3_readConditions_17 (fun rr9_ => ?_)
        refine j_sipush E 23 rfl dX3_readConditions_20 (by decide) ?_
        refine j_icmp_eq E 26 36 rfl rr9_ (rr (by decide)) dX3_readConditions_23 (by decide) (fun cc10_ => ?_) (fun cc10_ => ?_)
        · have L51_11 : ∀ (s0_51 : Int) (H : Heap) (locs : List Loc) (ls : Array Slot), inR s0_51 → ((s0_51 = 1 ∧ (y84_c9 o) = 305) ∨ (s0_51 = 0 ∧ (y84_c9 o) = 304)) → WK D cy T (upV (upV (upV (upV (upV v_0 80 y80_c9) 83 y83_c9) 84 y84_c9) 86 y86_c9) 300 y300_c9) A0 s.heap H locs → lv_has ls 5 [(0, .ref o), (1, .int (J 0)), (2, .int (J l2_9)), (3, .int (J l3_9))] → W p l e (rmd 22 0 0) s m ar below meth c H locs 0 0 QW (F0 m 51 ls [.int (J s0_51)]) := by
            intro s0_51 H locs ls r_s0_51 iv51 hw hl
            refine j_istore E 53 rfl [(4, .int (J s0_51)), (0, .ref o), (1, .int (J 0)), (2, .int (J l2_9)), (3, .int (J l3_9))] dX3_readConditions_51 hl (by decide) rfl (fun ls hl => ?_)
            have L69_13 : ∀ (y86_c69 : Nat → Int) (y300_c69 : Nat → Int) (H : Heap) (locs : List Loc) (ls : Array Slot), ((0 ≤ (y86_c69 o) ∧ (y86_c69 o) ≤ 400) ∧ Ro_ (v_0 300) (y300_c69) (T 85 o)) → WK D cy T (upV (upV (upV (upV (upV v_0 80 y80_c9) 83 y83_c9) 84 y84_c9) 86 y86_c69) 300 y300_c69) A0 s.heap H locs → lv_has ls 5 [(0, .ref o), (1, .int (J 0)), (2, .int (J l2_9)), (3, .int (J l3_9)), (4, .int (J s0_51))] → W p l e (rmd 22 0 0) s m ar below meth c H locs 0 0 QW (F0 m 69 ls []) := by
              intro y86_c69 y300_c69 H locs ls iv69 hw hl
              refine j_aload_n E 70 rfl dX3_readConditions_69 rfl (lv_at hl 0 rfl) ?_
              refine zV_v E (c_X3_step l D cy T (upV (upV (upV (upV (upV v_0 80 y80_c9) 83 y83_c9) 84 y84_c9) 86 y86_c69) 300 y300_c69) κ o K_ V_ hO t_o  (show RK_ (y300_c69) (T 120 (T 82 o)) (T 121 (T 82 o)) (((v_0 123) (T 82 o))) K_ V_ from RK_ro hp1 iv69.2 nk_ nv_) (show 0 ≤ (y83_c9 o) ∧ (y83_c9 o) < 400 from by have q_ := RK_lt hp1 (j := (y83_c9 o)) (by omega); omega)) mt_X3_step ml_X3_54 hK hZ hAc hw (cw_rc4 hK hw.1 t_o) hA ⟨Nat.le_of_ble_eq_true rfl, Nat.le_of_ble_eq_true rfl⟩ ⟨Nat.le_of_ble_eq_true rfl, Nat.le_of_ble_eq_true rfl⟩ (As := []) (rest := []) rfl rfl hl.1 (Nat.le_of_ble_eq_true rfl) 73 rfl dX3_readConditions_70 (fun v_15 H locs hq15_ hw => ?_)
              obtain ⟨y83_15, y84_15, ev15_, hh15_⟩ := hq15_
              rw [ev15_] at hw; clear ev15_
              have hw : WK D cy T (upV (upV (upV (upV (upV v_0 80 y80_c9) 83 y83_15) 84 y84_15) 86 y86_c69) 300 y300_c69) A0 s.heap H locs := cw_eq hw (by first | rfl | (funext j_; simp only [upV, reduceIte]; (repeat' split) <;> first | rfl | omega | (subst_vars; rfl)))
              have hh15_ : (y83_15 o) = (y83_c9 o) + 1 ∧ (y84_15 o) = K_ ((y83_c9 o) + 1) := hh15_
              have s_ := hh15_
              refine j_aload_n E 74 rfl dX3_readConditions_73 rfl (lv_at hl 0 rfl) ?_
              refine j_iload_n E 75 rfl dX3_readConditions_74 rfl (lv_at hl 1 rfl) ?_
              refine zV_v E (c_X3_readCondition_n0 l D cy T (upV (upV (upV (upV (upV v_0 80 y80_c9) 83 y83_15) 84 y84_15) 86 y86_c69) 300 y300_c69) κ o K_ V_ hO t_o  (show 0 ≤ (y86_c69 o) ∧ (y86_c69 o) ≤ 400 from by omega) (show RK_ (y300_c69) (T 120 (T 82 o)) (T 121 (T 82 o)) (((v_0 123) (T 82 o))) K_ V_ from RK_ro hp1 iv69.2 nk_ nv_) (show Cs_ K_ ((y83_15 o)) ((y84_15 o)) ((y80_c9 o)) from Cs_st (Co_cs hp2 iv9.2.2.2) (by omega) s_.1 s_.2 (by omega))) mt_X3_readCondition ml_X3_85 hK hZ hAc hw (cw_rc4 hK hw.1 t_o) hA ⟨Nat.le_of_ble_eq_true rfl, Nat.le_of_ble_eq_true rfl⟩ ⟨Nat.le_of_ble_eq_true rfl, Nat.le_of_ble_eq_true rfl⟩ (As := [.int (J 0)]) (rest := []) rfl rfl hl.1 (Nat.le_of_ble_eq_true rfl) 78 rfl dX3_readConditions_75 (fun v_16 H locs hq16_ hw => ?_)
              obtain ⟨y80_16, y83_16, y84_16, y86_16, y300_16, ev16_, hh16_⟩ := hq16_
              rw [ev16_] at hw; clear ev16_
              have hw : WK D cy T (upV (upV (upV (upV (upV v_0 80 y80_16) 83 y83_16) 84 y84_16) 86 y86_16) 300 y300_16) A0 s.heap H locs := cw_eq hw (by first | rfl | (funext j_; simp only [upV, reduceIte]; (repeat' split) <;> first | rfl | omega | (subst_vars; rfl)))
              have hh16_ : (0 ≤ (y86_16 o) ∧ (y86_16 o) ≤ 400) ∧ Ro_ (y300_c69) (y300_16) (T 85 o) ∧ Ck_ S3_ (0 : Int) TX_ K_ V_ ((y83_15 o)) ((y80_c9 o)) ((y83_16 o)) ((y84_16 o)) ((y80_16 o)) := hh16_
              have u_ := hh16_
              rw [s_.1] at u_
              refine j_iload E 80 rfl dX3_readConditions_78 (lv_at hl 4 rfl) ?_
              refine j_if_eq E 83 90 rfl r_s0_51 dX3_readConditions_80 (by decide) (fun cc17_ => ?_) (fun cc17_ => ?_)
              · have L104_18 : ∀ (s0_104 : Int) (H : Heap) (locs : List Loc) (ls : Array Slot), inR s0_104 → (((l2_9 ≠ 0 ∨ s0_51 = 0) ∧ s0_104 = 1) ∨ (l2_9 = 0 ∧ s0_51 ≠ 0 ∧ s0_104 = 0)) → WK D cy T (upV (upV (upV (upV (upV v_0 80 y80_16) 83 y83_16) 84 y84_16) 86 y86_16) 300 y300_16) A0 s.heap H locs → lv_has ls 5 [(0, .ref o), (1, .int (J 0)), (2, .int (J l2_9)), (3, .int (J l3_9)), (4, .int (J s0_51))] → W p l e (rmd 22 0 0) s m ar below meth c H locs 0 0 QW (F0 m 104 ls [.int (J s0_104)]) := by
                  intro s0_104 H locs ls r_s0_104 iv104 hw hl
                  refine j_istore_n E 105 rfl [(2, .int (J s0_104)), (0, .ref o), (1, .int (J 0)), (3, .int (J l3_9)), (4, .int (J s0_51))] dX3_readConditions_104 rfl hl (by decide) rfl (fun ls hl => ?_)
                  refine j_iinc E 108 rfl [(3, .int (J (l3_9 + 1))), (2, .int (J s0_104)), (0, .ref o), (1, .int (J 0)), (4, .int (J s0_51))] dX3_readConditions_105 hl (kk := 3) rfl (by decide) rfl (fun ls hl => ?_)
                  refine j_goto E 9 dX3_readConditions_108 (by decide) ?_
                  exact ih9 s0_104 (l3_9 + 1) y80_16 y83_16 y84_16 y86_16 y300_16 H locs ls r_s0_104 (rr (by omega)) (by first | exact ⟨by omega, Ro_tr iv69.2 (Ro_tr u_.2.1 ro9_), by omega, by rw [show s0_104 = l2_9 by omega]; exact Co_and iv9.2.2.2 (by omega) u_.2.2⟩ | exact ⟨by omega, Ro_tr iv69.2 u_.2.1, by omega, by rw [show s0_104 = 1 by omega]; exact Co_or iv9.2.2.2 (by omega) u_.2.2⟩ | (exfalso; omega)) (by omega) hw (lv_sub hl [2, 3, 1, 0] rfl)
                refine j_iload_n E 91 rfl dX3_readConditions_90 rfl (lv_at hl 2 rfl) ?_
                refine j_if_ne E 94 99 rfl r_l2_9 dX3_readConditions_91 (by decide) (fun cc20_ => ?_) (fun cc20_ => ?_)
                · refine j_iconst E 100 rfl dX3_readConditions_99 ?_
                  refine j_goto E 104 dX3_readConditions_100 (by decide) ?_
                  exact L104_18 1  H locs ls (rr (by decide)) (by omega) hw (lv_sub hl [0, 1, 2, 3, 4] rfl)
                · refine j_iload E 96 rfl dX3_readConditions_94 (lv_at hl 4 rfl) ?_
                  refine j_if_ne E 99 103 rfl r_s0_51 dX3_readConditions_96 (by decide) (fun cc21_ => ?_) (fun cc21_ => ?_)
                  · exfalso; omega
                  refine j_iconst E 100 rfl dX3_readConditions_99 ?_
                  refine j_goto E 104 dX3_readConditions_100 (by decide) ?_
                  exact L104_18 1  H locs ls (rr (by decide)) (by omega) hw (lv_sub hl [0, 1, 2, 3, 4] rfl)
              · refine j_aload_n E 84 rfl dX3_readConditions_83 rfl (lv_at hl 0 rfl) ?_
                refine j_sipush E 87 rfl dX3_readConditions_84 (by decide) ?_
                refine kV_v E (c_X3_emit l D cy T (upV (upV (upV (upV (upV v_0 80 y80_16) 83 y83_16) 84 y84_16) 86 y86_16) 300 y300_16) o ((-305))  t_o (rr (by decide)) (show 0 ≤ (y86_16 o) ∧ (y86_16 o) ≤ 400 from by omega)) mt_X3_emit ml_X3_60 hK hw (cw_rc4 hK hw.1 t_o) hA ⟨Nat.le_of_ble_eq_true rfl, Nat.le_of_ble_eq_true rfl⟩ ⟨Nat.le_of_ble_eq_true rfl, Nat.le_of_ble_eq_true rfl⟩ (As := [.int (J ((-305)))]) (rest := []) rfl rfl hl.1 (Nat.le_of_ble_eq_true rfl) 90 rfl dX3_readConditions_87 (fun v_22 H locs hq22_ hw => ?_)
                obtain ⟨y86_22, y300_22, ev22_, hh22_⟩ := hq22_
                rw [ev22_] at hw; clear ev22_
                have hw : WK D cy T (upV (upV (upV (upV (upV v_0 80 y80_16) 83 y83_16) 84 y84_16) 86 y86_22) 300 y300_22) A0 s.heap H locs := cw_eq hw (by first | rfl | (funext j_; simp only [upV, reduceIte]; (repeat' split) <;> first | rfl | omega | (subst_vars; rfl)))
                have hh22_ : (0 ≤ (y86_22 o) ∧ (y86_22 o) ≤ 400) ∧ Ro_ (y300_16) (y300_22) (T 85 o) := hh22_
                have ro9_ := hh22_.2
                have L104_23 : ∀ (s0_104 : Int) (H : Heap) (locs : List Loc) (ls : Array Slot), inR s0_104 → (((l2_9 ≠ 0 ∨ s0_51 = 0) ∧ s0_104 = 1) ∨ (l2_9 = 0 ∧ s0_51 ≠ 0 ∧ s0_104 = 0)) → WK D cy T (upV (upV (upV (upV (upV v_0 80 y80_16) 83 y83_16) 84 y84_16) 86 y86_22) 300 y300_22) A0 s.heap H locs → lv_has ls 5 [(0, .ref o), (1, .int (J 0)), (2, .int (J l2_9)), (3, .int (J l3_9)), (4, .int (J s0_51))] → W p l e (rmd 22 0 0) s m ar below meth c H locs 0 0 QW (F0 m 104 ls [.int (J s0_104)]) := by
                  intro s0_104 H locs ls r_s0_104 iv104 hw hl
                  refine j_istore_n E 105 rfl [(2, .int (J s0_104)), (0, .ref o), (1, .int (J 0)), (3, .int (J l3_9)), (4, .int (J s0_51))] dX3_readConditions_104 rfl hl (by decide) rfl (fun ls hl => ?_)
                  refine j_iinc E 108 rfl [(3, .int (J (l3_9 + 1))), (2, .int (J s0_104)), (0, .ref o), (1, .int (J 0)), (4, .int (J s0_51))] dX3_readConditions_105 hl (kk := 3) rfl (by decide) rfl (fun ls hl => ?_)
                  refine j_goto E 9 dX3_readConditions_108 (by decide) ?_
                  exact ih9 s0_104 (l3_9 + 1) y80_16 y83_16 y84_16 y86_22 y300_22 H locs ls r_s0_104 (rr (by omega)) (by first | exact ⟨by omega, Ro_tr iv69.2 (Ro_tr u_.2.1 ro9_), by omega, by rw [show s0_104 = l2_9 by omega]; exact Co_and iv9.2.2.2 (by omega) u_.2.2⟩ | exact ⟨by omega, Ro_tr iv69.2 u_.2.1, by omega, by rw [show s0_104 = 1 by omega]; exact Co_or iv9.2.2.2 (by omega) u_.2.2⟩ | (exfalso; omega)) (by omega) hw (lv_sub hl [2, 3, 1, 0] rfl)
                refine j_iload_n E 91 rfl dX3_readConditions_90 rfl (lv_at hl 2 rfl) ?_
                refine j_if_ne E 94 99 rfl r_l2_9 dX3_readConditions_91 (by decide) (fun cc25_ => ?_) (fun cc25_ => ?_)
                · refine j_iconst E 100 rfl dX3_readConditions_99 ?_
                  refine j_goto E 104 dX3_readConditions_100 (by decide) ?_
                  exact L104_23 1  H locs ls (rr (by decide)) (by omega) hw (lv_sub hl [0, 1, 2, 3, 4] rfl)
                · refine j_iload E 96 rfl dX3_readConditions_94 (lv_at hl 4 rfl) ?_
                  refine j_if_ne E 99 103 rfl r_s0_51 dX3_readConditions_96 (by decide) (fun cc26_ => ?_) (fun cc26_ => ?_)
                  rotate_left; · exfalso; omega
                  refine j_iconst E 104 rfl dX3_readConditions_103 ?_
                  exact L104_23 0  H locs ls (rr (by decide)) (by omega) hw (lv_sub hl [0, 1, 2, 3, 4] rfl)
            refine j_iload E 55 rfl dX3_readConditions_53 (lv_at hl 0 rfl) ?_
            refine j_if_ne E 58 69 rfl r_s0_51 dX3_readConditions_55 (by decide) (fun cc27_ => ?_) (fun cc27_ => ?_)
            · exact L69_13  y86_c9 y300_c9 H locs ls  (by first | exact ⟨by omega, iv9.2.1⟩ | exact ⟨by omega, Ro_tr iv9.2.1 ro7_⟩) hw (lv_sub hl [1, 2, 3, 4, 0] rfl)
            · refine j_iload_n E 59 rfl dX3_readConditions_58 rfl (lv_at hl 3 rfl) ?_
              refine j_if_eq E 62 69 rfl r_l2_9 dX3_readConditions_59 (by decide) (fun cc28_ => ?_) (fun cc28_ => ?_)
              · exact L69_13  y86_c9 y300_c9 H locs ls  (by first | exact ⟨by omega, iv9.2.1⟩ | exact ⟨by omega, Ro_tr iv9.2.1 ro7_⟩) hw (lv_sub hl [1, 2, 3, 4, 0] rfl)
              · refine j_aload_n E 63 rfl dX3_readConditions_62 rfl (lv_at hl 1 rfl) ?_
                refine j_sipush E 66 rfl dX3_readConditions_63 (by decide) ?_
                refine kV_v E (c_X3_emit l D cy T (upV (upV (upV (upV (upV v_0 80 y80_c9) 83 y83_c9) 84 y84_c9) 86 y86_c9) 300 y300_c9) o ((-304))  t_o (rr (by decide)) (show 0 ≤ (y86_c9 o) ∧ (y86_c9 o) ≤ 400 from by omega)) mt_X3_emit ml_X3_60 hK hw (cw_rc4 hK hw.1 t_o) hA ⟨Nat.le_of_ble_eq_true rfl, Nat.le_of_ble_eq_true rfl⟩ ⟨Nat.le_of_ble_eq_true rfl, Nat.le_of_ble_eq_true rfl⟩ (As := [.int (J ((-304)))]) (rest := []) rfl rfl hl.1 (Nat.le_of_ble_eq_true rfl) 69 rfl dX3_readConditions_66 (fun v_29 H locs hq29_ hw => ?_)
                obtain ⟨y86_29, y300_29, ev29_, hh29_⟩ := hq29_
                rw [ev29_] at hw; clear ev29_
                have hw : WK D cy T (upV (upV (upV (upV (upV v_0 80 y80_c9) 83 y83_c9) 84 y84_c9) 86 y86_29) 300 y300_29) A0 s.heap H locs := cw_eq hw (by first | rfl | (funext j_; simp only [upV, reduceIte]; (repeat' split) <;> first | rfl | omega | (subst_vars; rfl)))
                have hh29_ : (0 ≤ (y86_29 o) ∧ (y86_29 o) ≤ 400) ∧ Ro_ (y300_c9) (y300_29) (T 85 o) := hh29_
                have ro7_ := hh29_.2
                exact L69_13  y86_29 y300_29 H locs ls  (by first | exact ⟨by omega, iv9.2.1⟩ | exact ⟨by omega, Ro_tr iv9.2.1 ro7_⟩) hw (lv_sub hl [1, 2, 3, 4, 0] rfl)
          refine j_aload_n E 37 rfl dX3_readConditions_36 rfl (lv_at hl 0 rfl) ?_
          refine g_84 E hK hw fl_X3_30 t_o (y84_c9 o) rfl 40 rfl dX3_readConditions_37 (fun _ => ?_)
          refine j_sipush E 43 rfl dX3_readConditions_40 (by decide) ?_
          refine j_icmp_ne E 46 50 rfl rr9_ (rr (by decide)) dX3_readConditions_43 (by decide) (fun cc30_ => ?_) (fun cc30_ => ?_)
          · exfalso; omega
          refine j_iconst E 47 rfl dX3_readConditions_46 ?_
          refine j_goto E 51 dX3_readConditions_47 (by decide) ?_
          exact L51_11 1  H locs ls (rr (by decide)) (by omega) hw (lv_sub hl [0, 1, 2, 3] rfl)
        · refine j_aload_n E 27 rfl dX3_readConditions_26 rfl (lv_at hl 0 rfl) ?_
          refine g_84 E hK hw fl_X3_30 t_o (y84_c9 o) rfl 30 rfl dX3_readConditions_27 (fun _ => ?_)
          refine j_sipush E 33 rfl dX3_readConditions_30 (by decide) ?_
          refine j_icmp_ne E 36 111 rfl rr9_ (rr (by decide)) dX3_readConditions_33 (by decide) (fun cc31_ => ?_) (fun cc31_ => ?_)
          · exact L111_4   H locs ls  (by first | omega | exact Co_i iv9.2.2.2 (by omega) (by omega)) hw (lv_sub hl [0, 1, 2, 3] rfl)
          · have L51_32 : ∀ (s0_51 : Int) (H : Heap) (locs : List Loc) (ls : Array Slot), inR s0_51 → ((s0_51 = 1 ∧ (y84_c9 o) = 305) ∨ (s0_51 = 0 ∧ (y84_c9 o) = 304)) → WK D cy T (upV (upV (upV (upV (upV v_0 80 y80_c9) 83 y83_c9) 84 y84_c9) 86 y86_c9) 300 y300_c9) A0 s.heap H locs → lv_has ls 5 [(0, .ref o), (1, .int (J 0)), (2, .int (J l2_9)), (3, .int (J l3_9))] → W p l e (rmd 22 0 0) s m ar below meth c H locs 0 0 QW (F0 m 51 ls [.int (J s0_51)]) := by
              intro s0_51 H locs ls r_s0_51 iv51 hw hl
              refine j_istore E 53 rfl [(4, .int (J s0_51)), (0, .ref o), (1, .int (J 0)), (2, .int (J l2_9)), (3, .int (J l3_9))] dX3_readConditions_51 hl (by decide) rfl (fun ls hl => ?_)
              have L69_34 : ∀ (y86_c69 : Nat → Int) (y300_c69 : Nat → Int) (H : Heap) (locs : List Loc) (ls : Array Slot), ((0 ≤ (y86_c69 o) ∧ (y86_c69 o) ≤ 400) ∧ Ro_ (v_0 300) (y300_c69) (T 85 o)) → WK D cy T (upV (upV (upV (upV (upV v_0 80 y80_c9) 83 y83_c9) 84 y84_c9) 86 y86_c69) 300 y300_c69) A0 s.heap H locs → lv_has ls 5 [(0, .ref o), (1, .int (J 0)), (2, .int (J l2_9)), (3, .int (J l3_9)), (4, .int (J s0_51))] → W p l e (rmd 22 0 0) s m ar below meth c H locs 0 0 QW (F0 m 69 ls []) := by
                intro y86_c69 y300_c69 H locs ls iv69 hw hl
                refine j_aload_n E 70 rfl dX3_readConditions_69 rfl (lv_at hl 0 rfl) ?_
                refine zV_v E (c_X3_step l D cy T (upV (upV (upV (upV (upV v_0 80 y80_c9) 83 y83_c9) 84 y84_c9) 86 y86_c69) 300 y300_c69) κ o K_ V_ hO t_o  (show RK_ (y300_c69) (T 120 (T 82 o)) (T 121 (T 82 o)) (((v_0 123) (T 82 o))) K_ V_ from RK_ro hp1 iv69.2 nk_ nv_) (show 0 ≤ (y83_c9 o) ∧ (y83_c9 o) < 400 from by have q_ := RK_lt hp1 (j := (y83_c9 o)) (by omega); omega)) mt_X3_step ml_X3_54 hK hZ hAc hw (cw_rc4 hK hw.1 t_o) hA ⟨Nat.le_of_ble_eq_true rfl, Nat.le_of_ble_eq_true rfl⟩ ⟨Nat.le_of_ble_eq_true rfl, Nat.le_of_ble_eq_true rfl⟩ (As := []) (rest := []) rfl rfl hl.1 (Nat.le_of_ble_eq_true rfl) 73 rfl dX3_readConditions_70 (fun v_36 H locs hq36_ hw => ?_)
                obtain ⟨y83_36, y84_36, ev36_, hh36_⟩ := hq36_
                rw [ev36_] at hw; clear ev36_
                have hw : WK D cy T (upV (upV (upV (upV (upV v_0 80 y80_c9) 83 y83_36) 84 y84_36) 86 y86_c69) 300 y300_c69) A0 s.heap H locs := cw_eq hw (by first | rfl | (funext j_; simp only [upV, reduceIte]; (repeat' split) <;> first | rfl | omega | (subst_vars; rfl)))
                have hh36_ : (y83_36 o) = (y83_c9 o) + 1 ∧ (y84_36 o) = K_ ((y83_c9 o) + 1) := hh36_
                have s_ := hh36_
                refine j_aload_n E 74 rfl dX3_readConditions_73 rfl (lv_at hl 0 rfl) ?_
                refine j_iload_n E 75 rfl dX3_readConditions_74 rfl (lv_at hl 1 rfl) ?_
                refine zV_v E (c_X3_readCondition_n0 l D cy T (upV (upV (upV (upV (upV v_0 80 y80_c9) 83 y83_36) 84 y84_36) 86 y86_c69) 300 y300_c69) κ o K_ V_ hO t_o  (show 0 ≤ (y86_c69 o) ∧ (y86_c69 o) ≤ 400 from by omega) (show RK_ (y300_c69) (T 120 (T 82 o)) (T 121 (T 82 o)) (((v_0 123) (T 82 o))) K_ V_ from RK_ro hp1 iv69.2 nk_ nv_) (show Cs_ K_ ((y83_36 o)) ((y84_36 o)) ((y80_c9 o)) from Cs_st (Co_cs hp2 iv9.2.2.2) (by omega) s_.1 s_.2 (by omega))) mt_X3_readCondition ml_X3_85 hK hZ hAc hw (cw_rc4 hK hw.1 t_o) hA ⟨Nat.le_of_ble_eq_true rfl, Nat.le_of_ble_eq_true rfl⟩ ⟨Nat.le_of_ble_eq_true rfl, Nat.le_of_ble_eq_true rfl⟩ (As := [.int (J 0)]) (rest := []) rfl rfl hl.1 (Nat.le_of_ble_eq_true rfl) 78 rfl dX3_readConditions_75 (fun v_37 H locs hq37_ hw => ?_)
                obtain ⟨y80_37, y83_37, y84_37, y86_37, y300_37, ev37_, hh37_⟩ := hq37_
                rw [ev37_] at hw; clear ev37_
                have hw : WK D cy T (upV (upV (upV (upV (upV v_0 80 y80_37) 83 y83_37) 84 y84_37) 86 y86_37) 300 y300_37) A0 s.heap H locs := cw_eq hw (by first | rfl | (funext j_; simp only [upV, reduceIte]; (repeat' split) <;> first | rfl | omega | (subst_vars; rfl)))
                have hh37_ : (0 ≤ (y86_37 o) ∧ (y86_37 o) ≤ 400) ∧ Ro_ (y300_c69) (y300_37) (T 85 o) ∧ Ck_ S3_ (0 : Int) TX_ K_ V_ ((y83_36 o)) ((y80_c9 o)) ((y83_37 o)) ((y84_37 o)) ((y80_37 o)) := hh37_
                have u_ := hh37_
                rw [s_.1] at u_
                refine j_iload E 80 rfl dX3_readConditions_78 (lv_at hl 4 rfl) ?_
                refine j_if_eq E 83 90 rfl r_s0_51 dX3_readConditions_80 (by decide) (fun cc38_ => ?_) (fun cc38_ => ?_)
                · have L104_39 : ∀ (s0_104 : Int) (H : Heap) (locs : List Loc) (ls : Array Slot), inR s0_104 → (((l2_9 ≠ 0 ∨ s0_51 = 0) ∧ s0_104 = 1) ∨ (l2_9 = 0 ∧ s0_51 ≠ 0 ∧ s0_104 = 0)) → WK D cy T (upV (upV (upV (upV (upV v_0 80 y80_37) 83 y83_37) 84 y84_37) 86 y86_37) 300 y300_37) A0 s.heap H locs → lv_has ls 5 [(0, .ref o), (1, .int (J 0)), (2, .int (J l2_9)), (3, .int (J l3_9)), (4, .int (J s0_51))] → W p l e (rmd 22 0 0) s m ar below meth c H locs 0 0 QW (F0 m 104 ls [.int (J s0_104)]) := by
                    intro s0_104 H locs ls r_s0_104 iv104 hw hl
                    refine j_istore_n E 105 rfl [(2, .int (J s0_104)), (0, .ref o), (1, .int (J 0)), (3, .int (J l3_9)), (4, .int (J s0_51))] dX3_readConditions_104 rfl hl (by decide) rfl (fun ls hl => ?_)
                    refine j_iinc E 108 rfl [(3, .int (J (l3_9 + 1))), (2, .int (J s0_104)), (0, .ref o), (1, .int (J 0)), (4, .int (J s0_51))] dX3_readConditions_105 hl (kk := 3) rfl (by decide) rfl (fun ls hl => ?_)
                    refine j_goto E 9 dX3_readConditions_108 (by decide) ?_
                    exact ih9 s0_104 (l3_9 + 1) y80_37 y83_37 y84_37 y86_37 y300_37 H locs ls r_s0_104 (rr (by omega)) (by first | exact ⟨by omega, Ro_tr iv69.2 (Ro_tr u_.2.1 ro9_), by omega, by rw [show s0_104 = l2_9 by omega]; exact Co_and iv9.2.2.2 (by omega) u_.2.2⟩ | exact ⟨by omega, Ro_tr iv69.2 u_.2.1, by omega, by rw [show s0_104 = 1 by omega]; exact Co_or iv9.2.2.2 (by omega) u_.2.2⟩ | (exfalso; omega)) (by omega) hw (lv_sub hl [2, 3, 1, 0] rfl)
                  refine j_iload_n E 91 rfl dX3_readConditions_90 rfl (lv_at hl 2 rfl) ?_
                  refine j_if_ne E 94 99 rfl r_l2_9 dX3_readConditions_91 (by decide) (fun cc41_ => ?_) (fun cc41_ => ?_)
                  · refine j_iconst E 100 rfl dX3_readConditions_99 ?_
                    refine j_goto E 104 dX3_readConditions_100 (by decide) ?_
                    exact L104_39 1  H locs ls (rr (by decide)) (by omega) hw (lv_sub hl [0, 1, 2, 3, 4] rfl)
                  · refine j_iload E 96 rfl dX3_readConditions_94 (lv_at hl 4 rfl) ?_
                    refine j_if_ne E 99 103 rfl r_s0_51 dX3_readConditions_96 (by decide) (fun cc42_ => ?_) (fun cc42_ => ?_)
                    · exfalso; omega
                    refine j_iconst E 100 rfl dX3_readConditions_99 ?_
                    refine j_goto E 104 dX3_readConditions_100 (by decide) ?_
                    exact L104_39 1  H locs ls (rr (by decide)) (by omega) hw (lv_sub hl [0, 1, 2, 3, 4] rfl)
                · refine j_aload_n E 84 rfl dX3_readConditions_83 rfl (lv_at hl 0 rfl) ?_
                  refine j_sipush E 87 rfl dX3_readConditions_84 (by decide) ?_
                  refine kV_v E (c_X3_emit l D cy T (upV (upV (upV (upV (upV v_0 80 y80_37) 83 y83_37) 84 y84_37) 86 y86_37) 300 y300_37) o ((-305))  t_o (rr (by decide)) (show 0 ≤ (y86_37 o) ∧ (y86_37 o) ≤ 400 from by omega)) mt_X3_emit ml_X3_60 hK hw (cw_rc4 hK hw.1 t_o) hA ⟨Nat.le_of_ble_eq_true rfl, Nat.le_of_ble_eq_true rfl⟩ ⟨Nat.le_of_ble_eq_true rfl, Nat.le_of_ble_eq_true rfl⟩ (As := [.int (J ((-305)))]) (rest := []) rfl rfl hl.1 (Nat.le_of_ble_eq_true rfl) 90 rfl dX3_readConditions_87 (fun v_43 H locs hq43_ hw => ?_)
                  obtain ⟨y86_43, y300_43, ev43_, hh43_⟩ := hq43_
                  rw [ev43_] at hw; clear ev43_
                  have hw : WK D cy T (upV (upV (upV (upV (upV v_0 80 y80_37) 83 y83_37) 84 y84_37) 86 y86_43) 300 y300_43) A0 s.heap H locs := cw_eq hw (by first | rfl | (funext j_; simp only [upV, reduceIte]; (repeat' split) <;> first | rfl | omega | (subst_vars; rfl)))
                  have hh43_ : (0 ≤ (y86_43 o) ∧ (y86_43 o) ≤ 400) ∧ Ro_ (y300_37) (y300_43) (T 85 o) := hh43_
                  have ro9_ := hh43_.2
                  have L104_44 : ∀ (s0_104 : Int) (H : Heap) (locs : List Loc) (ls : Array Slot), inR s0_104 → (((l2_9 ≠ 0 ∨ s0_51 = 0) ∧ s0_104 = 1) ∨ (l2_9 = 0 ∧ s0_51 ≠ 0 ∧ s0_104 = 0)) → WK D cy T (upV (upV (upV (upV (upV v_0 80 y80_37) 83 y83_37) 84 y84_37) 86 y86_43) 300 y300_43) A0 s.heap H locs → lv_has ls 5 [(0, .ref o), (1, .int (J 0)), (2, .int (J l2_9)), (3, .int (J l3_9)), (4, .int (J s0_51))] → W p l e (rmd 22 0 0) s m ar below meth c H locs 0 0 QW (F0 m 104 ls [.int (J s0_104)]) := by
                    intro s0_104 H locs ls r_s0_104 iv104 hw hl
                    refine j_istore_n E 105 rfl [(2, .int (J s0_104)), (0, .ref o), (1, .int (J 0)), (3, .int (J l3_9)), (4, .int (J s0_51))] dX3_readConditions_104 rfl hl (by decide) rfl (fun ls hl => ?_)
                    refine j_iinc E 108 rfl [(3, .int (J (l3_9 + 1))), (2, .int (J s0_104)), (0, .ref o), (1, .int (J 0)), (4, .int (J s0_51))] dX3_readConditions_105 hl (kk := 3) rfl (by decide) rfl (fun ls hl => ?_)
                    refine j_goto E 9 dX3_readConditions_108 (by decide) ?_
                    exact ih9 s0_104 (l3_9 + 1) y80_37 y83_37 y84_37 y86_43 y300_43 H locs ls r_s0_104 (rr (by omega)) (by first | exact ⟨by omega, Ro_tr iv69.2 (Ro_tr u_.2.1 ro9_), by omega, by rw [show s0_104 = l2_9 by omega]; exact Co_and iv9.2.2.2 (by omega) u_.2.2⟩ | exact ⟨by omega, Ro_tr iv69.2 u_.2.1, by omega, by rw [show s0_104 = 1 by omega]; exact Co_or iv9.2.2.2 (by omega) u_.2.2⟩ | (exfalso; omega)) (by omega) hw (lv_sub hl [2, 3, 1, 0] rfl)
                  refine j_iload_n E 91 rfl dX3_readConditions_90 rfl (lv_at hl 2 rfl) ?_
                  refine j_if_ne E 94 99 rfl r_l2_9 dX3_readConditions_91 (by decide) (fun cc46_ => ?_) (fun cc46_ => ?_)
                  · refine j_iconst E 100 rfl dX3_readConditions_99 ?_
                    refine j_goto E 104 dX3_readConditions_100 (by decide) ?_
                    exact L104_44 1  H locs ls (rr (by decide)) (by omega) hw (lv_sub hl [0, 1, 2, 3, 4] rfl)
                  · refine j_iload E 96 rfl dX3_readConditions_94 (lv_at hl 4 rfl) ?_
                    refine j_if_ne E 99 103 rfl r_s0_51 dX3_readConditions_96 (by decide) (fun cc47_ => ?_) (fun cc47_ => ?_)
                    rotate_left; · exfalso; omega
                    refine j_iconst E 104 rfl dX3_readConditions_103 ?_
                    exact L104_44 0  H locs ls (rr (by decide)) (by omega) hw (lv_sub hl [0, 1, 2, 3, 4] rfl)
              refine j_iload E 55 rfl dX3_readConditions_53 (lv_at hl 0 rfl) ?_
              refine j_if_ne E 58 69 rfl r_s0_51 dX3_readConditions_55 (by decide) (fun cc48_ => ?_) (fun cc48_ => ?_)
              · exact L69_34  y86_c9 y300_c9 H locs ls  (by first | exact ⟨by omega, iv9.2.1⟩ | exact ⟨by omega, Ro_tr iv9.2.1 ro7_⟩) hw (lv_sub hl [1, 2, 3, 4, 0] rfl)
              · refine j_iload_n E 59 rfl dX3_readConditions_58 rfl (lv_at hl 3 rfl) ?_
                refine j_if_eq E 62 69 rfl r_l2_9 dX3_readConditions_59 (by decide) (fun cc49_ => ?_) (fun cc49_ => ?_)
                · exact L69_34  y86_c9 y300_c9 H locs ls  (by first | exact ⟨by omega, iv9.2.1⟩ | exact ⟨by omega, Ro_tr iv9.2.1 ro7_⟩) hw (lv_sub hl [1, 2, 3, 4, 0] rfl)
                · refine j_aload_n E 63 rfl dX3_readConditions_62 rfl (lv_at hl 1 rfl) ?_
                  refine j_sipush E 66 rfl dX3_readConditions_63 (by decide) ?_
                  refine kV_v E (c_X3_emit l D cy T (upV (upV (upV (upV (upV v_0 80 y80_c9) 83 y83_c9) 84 y84_c9) 86 y86_c9) 300 y300_c9) o ((-304))  t_o (rr (by decide)) (show 0 ≤ (y86_c9 o) ∧ (y86_c9 o) ≤ 400 from by omega)) mt_X3_emit ml_X3_60 hK hw (cw_rc4 hK hw.1 t_o) hA ⟨Nat.le_of_ble_eq_true rfl, Nat.le_of_ble_eq_true rfl⟩ ⟨Nat.le_of_ble_eq_true rfl, Nat.le_of_ble_eq_true rfl⟩ (As := [.int (J ((-304)))]) (rest := []) rfl rfl hl.1 (Nat.le_of_ble_eq_true rfl) 69 rfl dX3_readConditions_66 (fun v_50 H locs hq50_ hw => ?_)
                  obtain ⟨y86_50, y300_50, ev50_, hh50_⟩ := hq50_
                  rw [ev50_] at hw; clear ev50_
                  have hw : WK D cy T (upV (upV (upV (upV (upV v_0 80 y80_c9) 83 y83_c9) 84 y84_c9) 86 y86_50) 300 y300_50) A0 s.heap H locs := cw_eq hw (by first | rfl | (funext j_; simp only [upV, reduceIte]; (repeat' split) <;> first | rfl | omega | (subst_vars; rfl)))
                  have hh50_ : (0 ≤ (y86_50 o) ∧ (y86_50 o) ≤ 400) ∧ Ro_ (y300_c9) (y300_50) (T 85 o) := hh50_
                  have ro7_ := hh50_.2
                  exact L69_34  y86_50 y300_50 H locs ls  (by first | exact ⟨by omega, iv9.2.1⟩ | exact ⟨by omega, Ro_tr iv9.2.1 ro7_⟩) hw (lv_sub hl [1, 2, 3, 4, 0] rfl)
            refine j_aload_n E 37 rfl dX3_readConditions_36 rfl (lv_at hl 0 rfl) ?_
            refine g_84 E hK hw fl_X3_30 t_o (y84_c9 o) rfl 40 rfl dX3_readConditions_37 (fun _ => ?_)
            refine j_sipush E 43 rfl dX3_readConditions_40 (by decide) ?_
            refine j_icmp_ne E 46 50 rfl rr9_ (rr (by decide)) dX3_readConditions_43 (by decide) (fun cc51_ => ?_) (fun cc51_ => ?_)
            rotate_left; · exfalso; omega
            refine j_iconst E 51 rfl dX3_readConditions_50 ?_
            exact L51_32 0  H locs ls (rr (by decide)) (by omega) hw (lv_sub hl [0, 1, 2, 3] rfl)
  exact L9_2 _ 0 0 y80_1 y83_1 y84_1 y86_1 y300_1 H locs ls (rr (by decide)) (rr (by decide)) (⟨by omega, u0_.2.1, by omega, Co_0 hp2.1.1 u0_.2.2⟩) (Nat.lt_succ_self _) hw (lv_sub hl [2, 3, 1, 0] rfl)
set_option maxHeartbeats 4000000 in
set_option maxRecDepth 100000 in
theorem c_X3_read (l : Launch) (D : va_G) (cy : Nat → ClassId) (T : Nat → Nat → Nat) (v_0 : Nat → Nat → Int) (κ : Nat → Nat → Nat) (o : Nat) (a_t : Nat) (v_n : Int) (hO : ∀ x, ow T x → κ 2 2 ≤ x) (t_o : T 0 o = 4) (t_t : T 0 a_t = 23) (r_v_n : inR v_n) (hp0 : 0 ≤ v_n ∧ v_n ≤ (T 1 a_t : Int) ∧ (T 1 a_t : Int) ≤ 400) : KZ l D cy κ T yX3_read cX3_read 3 (some .boolean) 23 [.ref o, .ref a_t, .int (J v_n)] v_0 (KI (fun (z_0 : Int) (v_2 : Nat → Nat → Int) => ∃ (y80_2 : Nat → Int) (y81_2 : Nat → Int) (y83_2 : Nat → Int) (y84_2 : Nat → Int) (y86_2 : Nat → Int) (y123_2 : Nat → Int) (y124_2 : Nat → Int) (y300_2 : Nat → Int) , v_2 = upV (upV (upV (upV (upV (upV (upV (upV v_0 80 y80_2) 81 y81_2) 83 y83_2) 84 y84_2) 86 y86_2) 123 y123_2) 124 y124_2) 300 y300_2 ∧ ((0 ≤ (y86_2 o) ∧ (y86_2 o) ≤ 400) ∧ (0 ≤ (y123_2 (T 82 o)) ∧ (y123_2 (T 82 o)) ≤ 400) ∧ ∃ K_ V_ P_ Q_ : Int → Int, Strm_ (gC_ (v_0 303) a_t) v_n K_ V_ P_ Q_ ∧ ((z_0 = 1 ∧ (y80_2 o) = 0 ∧ (y81_2 o) = -1 ∧ ∃ jn_ : Int, Ra_ K_ V_ 9 jn_) ∨ (z_0 = 0 ∧ (1 ≤ (y80_2 o) ∧ (y80_2 o) ≤ 3) ∧ ∃ jn_ : Int, (y81_2 o) = P_ jn_ ∧ Rf_ K_ V_ ((y80_2 o)) jn_))))) := by
  refine KZ.ofz (by decide) (Nat.le_of_ble_eq_true rfl) hO ?_
  intro p e s m below meth c ls ar QW A0 H locs E hK hZ hA hAc hw hl hret
  have hl : lv_has ls 3 [(0, .ref o), (1, .ref a_t), (2, .int (J v_n))] := hl
  have hT : WT T := hw.1.2.1
  have nk_ : T 120 (T 82 o) ≠ T 85 o := ro_ne (wo_120 hT (wt_82 hT t_o)) (wo_85 hT t_o) (by decide) (by decide) (by omega)
  have nv_ : T 121 (T 82 o) ≠ T 85 o := ro_ne (wo_121 hT (wt_82 hT t_o)) (wo_85 hT t_o) (by decide) (by decide) (by omega)
  have np_ : T 122 (T 82 o) ≠ T 85 o := ro_ne (wo_122 hT (wt_82 hT t_o)) (wo_85 hT t_o) (by decide) (by decide) (by omega)
  refine j_aload_n E 1 rfl dX3_read_0 rfl (lv_at hl 0 rfl) ?_
  refine g_82 E hK hw fl_X3_21 t_o 4 rfl dX3_read_1 ?_
  refine j_aload_n E 5 rfl dX3_read_4 rfl (lv_at hl 1 rfl) ?_
  refine j_iload_n E 6 rfl dX3_read_5 rfl (lv_at hl 2 rfl) ?_
  refine zV_v E (c_X5_scan l D cy T (v_0) κ (T 82 o) a_t v_n  hO (wt_82 hT t_o) t_t r_v_n (show 0 ≤ v_n ∧ v_n ≤ (T 1 a_t : Int) ∧ (T 1 a_t : Int) ≤ 400 from by omega)) mt_X5_scan ml_X3_40 hK hZ hAc hw (cw_rc6 hK hw.1 (wt_82 hT t_o)) hA ⟨Nat.le_of_ble_eq_true rfl, Nat.le_of_ble_eq_true rfl⟩ ⟨Nat.le_of_ble_eq_true rfl, Nat.le_of_ble_eq_true rfl⟩ (As := [.ref a_t, .int (J v_n)]) (rest := []) rfl rfl hl.1 (Nat.le_of_ble_eq_true rfl) 9 rfl dX3_read_6 (fun v_1 H locs hq1_ hw => ?_)
  obtain ⟨y123_1, y124_1, y300_1, ev1_, hh1_⟩ := hq1_
  rw [ev1_] at hw; clear ev1_
  have hw : WK D cy T (upV (upV (upV v_0 123 y123_1) 124 y124_1) 300 y300_1) A0 s.heap H locs := cw_eq hw (by first | rfl | (funext j_; simp only [upV, reduceIte]; (repeat' split) <;> first | rfl | omega | (subst_vars; rfl)))
  have hh1_ : Ch_ (gC_ (v_0 303) a_t) v_n (y300_1) (T 120 (T 82 o)) (T 121 (T 82 o)) (T 122 (T 82 o)) ((y123_1 ((T 82 o)))) v_n ∧ (y124_1 ((T 82 o))) = v_n := hh1_
  have ch_ := hh1_.1
  have ln_ := hh1_.2
  have cq_ := Ch_cnt ch_
  obtain ⟨Q_, sm_⟩ := Ch_strm ch_ (by omega)
  have rk_ := RK_of sm_ (by omega) (by omega)
  obtain ⟨yS_, eS_⟩ : ∃ y_ : Nat → Int, y_ = (y300_1) := ⟨_, rfl⟩
  obtain ⟨K_, eK_⟩ : ∃ y_ : Int → Int, y_ = kf_ (y300_1) (T 120 (T 82 o)) ((y123_1 (T 82 o))) 1 := ⟨_, rfl⟩
  obtain ⟨V_, eV_⟩ : ∃ y_ : Int → Int, y_ = gC_ (y300_1) (T 121 (T 82 o)) := ⟨_, rfl⟩
  rw [← eK_, ← eV_] at rk_
  rw [← eK_, ← eV_] at sm_
  have rkS_ := rk_
  rw [← eS_] at rkS_
  rw [← eS_] at sm_
  refine j_aload_n E 10 rfl dX3_read_9 rfl (lv_at hl 0 rfl) ?_
  refine j_iconst E 11 rfl dX3_read_10 ?_
  refine p_83 E hK hw fl_X3_25 t_o (rr (by decide)) 14 rfl dX3_read_11 (fun H locs hw => ?_)
  have hw : WK D cy T (upV (upV (upV (upV v_0 83 (upB (v_0 83) o 0)) 123 y123_1) 124 y124_1) 300 y300_1) A0 s.heap H locs := cw_eq hw (by first | rfl | (funext j_; simp only [upV, reduceIte]; (repeat' split) <;> first | rfl | omega | (subst_vars; rfl)))
  refine j_aload_n E 15 rfl dX3_read_14 rfl (lv_at hl 0 rfl) ?_
  refine j_aload_n E 16 rfl dX3_read_15 rfl (lv_at hl 0 rfl) ?_
  refine g_82 E hK hw fl_X3_21 t_o 19 rfl dX3_read_16 ?_
  refine j_iconst E 20 rfl dX3_read_19 ?_
  refine kV_i E (c_X5_kindAt l D cy T (upV (upV (upV (upV v_0 83 (upB (v_0 83) o 0)) 123 y123_1) 124 y124_1) 300 y300_1) (T 82 o) 0  (wt_82 hT t_o) (rr (by decide)) (show 0 ≤ (y123_1 ((T 82 o))) ∧ (y123_1 ((T 82 o))) ≤ 400 from by omega)) mt_X5_kindAt ml_X3_43 hK hw (cw_rc6 hK hw.1 (wt_82 hT t_o)) hA ⟨Nat.le_of_ble_eq_true rfl, Nat.le_of_ble_eq_true rfl⟩ ⟨Nat.le_of_ble_eq_true rfl, Nat.le_of_ble_eq_true rfl⟩ (As := [.int (J 0)]) (rest := [.ref o]) rfl rfl hl.1 (Nat.le_of_ble_eq_true rfl) 23 rfl dX3_read_20 (fun zz3_ v_3 H locs rr3_ hq3_ hw => ?_)
  obtain ⟨ev3_, hh3_⟩ := hq3_
  rw [ev3_] at hw; clear ev3_
  have hh3_ : (0 ≤ (0 : Int) ∧ (0 : Int) < (y123_1 ((T 82 o))) ∧ zz3_ = gC_ (y300_1) (T 120 (T 82 o)) (0 : Int)) ∨ (¬ (0 ≤ (0 : Int) ∧ (0 : Int) < (y123_1 ((T 82 o)))) ∧ zz3_ = 1) := hh3_
  have hk0_ := hh3_
  have kk_ : zz3_ = K_ 0 := by rw [eK_]; show zz3_ = (if (0 : Int) < (y123_1 (T 82 o)) then _ else _); rcases hk0_ with ⟨_, q1_, q2_⟩ | ⟨q1_, q2_⟩; (rw [if_pos q1_]; exact q2_); (rw [if_neg (by omega)]; exact q2_)
  refine p_84 E hK hw fl_X3_30 t_o rr3_ 26 rfl dX3_read_23 (fun H locs hw => ?_)
  have hw : WK D cy T (upV (upV (upV (upV (upV v_0 83 (upB (v_0 83) o 0)) 84 (upB (v_0 84) o zz3_)) 123 y123_1) 124 y124_1) 300 y300_1) A0 s.heap H locs := cw_eq hw (by first | rfl | (funext j_; simp only [upV, reduceIte]; (repeat' split) <;> first | rfl | omega | (subst_vars; rfl)))
  refine j_aload_n E 27 rfl dX3_read_26 rfl (lv_at hl 0 rfl) ?_
  refine j_iconst E 28 rfl dX3_read_27 ?_
  refine p_80 E hK hw fl_X3_9 t_o (rr (by decide)) 31 rfl dX3_read_28 (fun H locs hw => ?_)
  have hw : WK D cy T (upV (upV (upV (upV (upV (upV v_0 80 (upB (v_0 80) o 0)) 83 (upB (v_0 83) o 0)) 84 (upB (v_0 84) o zz3_)) 123 y123_1) 124 y124_1) 300 y300_1) A0 s.heap H locs := cw_eq hw (by first | rfl | exact (funext fun j_ => if a80_ : j_ = 80 then (by subst a80_; rfl) else if a83_ : j_ = 83 then (by subst a83_; rfl) else if a84_ : j_ = 84 then (by subst a84_; rfl) else if a123_ : j_ = 123 then (by subst a123_; rfl) else if a124_ : j_ = 124 then (by subst a124_; rfl) else if a300_ : j_ = 300 then (by subst a300_; rfl) else (by simp only [upV, if_neg a80_, if_neg a83_, if_neg a84_, if_neg a123_, if_neg a124_, if_neg a300_])))
  refine j_aload_n E 32 rfl dX3_read_31 rfl (lv_at hl 0 rfl) ?_
  refine j_iconst E 33 rfl dX3_read_32 ?_
  refine p_86 E hK hw fl_X3_37 t_o (rr (by decide)) 36 rfl dX3_read_33 (fun H locs hw => ?_)
  have hw : WK D cy T (upV (upV (upV (upV (upV (upV (upV v_0 80 (upB (v_0 80) o 0)) 83 (upB (v_0 83) o 0)) 84 (upB (v_0 84) o zz3_)) 86 (upB (v_0 86) o 0)) 123 y123_1) 124 y124_1) 300 y300_1) A0 s.heap H locs := cw_eq hw (by first | rfl | exact (funext fun j_ => if a80_ : j_ = 80 then (by subst a80_; rfl) else if a83_ : j_ = 83 then (by subst a83_; rfl) else if a84_ : j_ = 84 then (by subst a84_; rfl) else if a86_ : j_ = 86 then (by subst a86_; rfl) else if a123_ : j_ = 123 then (by subst a123_; rfl) else if a124_ : j_ = 124 then (by subst a124_; rfl) else if a300_ : j_ = 300 then (by subst a300_; rfl) else (by simp only [upV, if_neg a80_, if_neg a83_, if_neg a84_, if_neg a86_, if_neg a123_, if_neg a124_, if_neg a300_])))
  refine j_aload_n E 37 rfl dX3_read_36 rfl (lv_at hl 0 rfl) ?_
  refine j_sipush E 40 rfl dX3_read_37 (by decide) ?_
  refine zV_v E (c_X3_take l D cy T (upV (upV (upV (upV (upV (upV (upV v_0 80 (upB (v_0 80) o 0)) 83 (upB (v_0 83) o 0)) 84 (upB (v_0 84) o zz3_)) 86 (upB (v_0 86) o 0)) 123 y123_1) 124 y124_1) 300 y300_1) κ o 301 K_ V_ hO t_o (rr (by decide)) (show RK_ (y300_1) (T 120 (T 82 o)) (T 121 (T 82 o)) ((y123_1 (T 82 o))) K_ V_ from rk_) (show Cs_ K_ (((upB (v_0 83) o 0) o)) (((upB (v_0 84) o zz3_) o)) (((upB (v_0 80) o 0) o)) from by rw [upB_same, upB_same, upB_same]; exact ⟨by omega, Or.inl ⟨rfl, kk_⟩⟩) (show 3 < (301 : Int) from by omega)) mt_X3_take ml_X3_47 hK hZ hAc hw (cw_rc4 hK hw.1 t_o) hA ⟨Nat.le_of_ble_eq_true rfl, Nat.le_of_ble_eq_true rfl⟩ ⟨Nat.le_of_ble_eq_true rfl, Nat.le_of_ble_eq_true rfl⟩ (As := [.int (J 301)]) (rest := []) rfl rfl hl.1 (Nat.le_of_ble_eq_true rfl) 43 rfl dX3_read_40 (fun v_7 H locs hq7_ hw => ?_)
  obtain ⟨y80_7, y83_7, y84_7, ev7_, hh7_⟩ := hq7_
  rw [ev7_] at hw; clear ev7_
  have hw : WK D cy T (upV (upV (upV (upV (upV (upV (upV v_0 80 y80_7) 83 y83_7) 84 y84_7) 86 (upB (v_0 86) o 0)) 123 y123_1) 124 y124_1) 300 y300_1) A0 s.heap H locs := cw_eq hw (by first | rfl | exact (funext fun j_ => if a80_ : j_ = 80 then (by subst a80_; rfl) else if a83_ : j_ = 83 then (by subst a83_; rfl) else if a84_ : j_ = 84 then (by subst a84_; rfl) else if a86_ : j_ = 86 then (by subst a86_; rfl) else if a123_ : j_ = 123 then (by subst a123_; rfl) else if a124_ : j_ = 124 then (by subst a124_; rfl) else if a300_ : j_ = 300 then (by subst a300_; rfl) else (by simp only [upV, if_neg a80_, if_neg a83_, if_neg a84_, if_neg a86_, if_neg a123_, if_neg a124_, if_neg a300_])))
  have hh7_ : ((((upB (v_0 84) o zz3_) o) = (301 : Int)) ∧ (y83_7 o) = ((upB (v_0 83) o 0) o) + 1 ∧ (y84_7 o) = K_ (((upB (v_0 83) o 0) o) + 1) ∧ (y80_7 o) = ((upB (v_0 80) o 0) o)) ∨ (¬ (((upB (v_0 84) o zz3_) o) = (301 : Int)) ∧ (y83_7 o) = ((upB (v_0 83) o 0) o) ∧ (y84_7 o) = 2 ∧ ((((upB (v_0 80) o 0) o) = 0 ∧ (y80_7 o) = 1) ∨ (¬ ((upB (v_0 80) o 0) o) = 0 ∧ (y80_7 o) = ((upB (v_0 80) o 0) o)))) := hh7_
  have t1_ := hh7_
  rw [upB_same, upB_same, upB_same] at t1_
  refine j_aload_n E 44 rfl dX3_read_43 rfl (lv_at hl 0 rfl) ?_
  refine zV_v E (c_X3_readSum l D cy T (upV (upV (upV (upV (upV (upV (upV v_0 80 y80_7) 83 y83_7) 84 y84_7) 86 (upB (v_0 86) o 0)) 123 y123_1) 124 y124_1) 300 y300_1) κ o K_ V_ hO t_o  (show 0 ≤ ((upB (v_0 86) o 0) o) ∧ ((upB (v_0 86) o 0) o) ≤ 400 from by rw [upB_same]; omega) (show RK_ (y300_1) (T 120 (T 82 o)) (T 121 (T 82 o)) ((y123_1 (T 82 o))) K_ V_ from rk_) (show Cs_ K_ ((y83_7 o)) ((y84_7 o)) ((y80_7 o)) from Ct_c2 kk_ t1_)) mt_X3_readSum ml_X3_51 hK hZ hAc hw (cw_rc4 hK hw.1 t_o) hA ⟨Nat.le_of_ble_eq_true rfl, Nat.le_of_ble_eq_true rfl⟩ ⟨Nat.le_of_ble_eq_true rfl, Nat.le_of_ble_eq_true rfl⟩ (As := []) (rest := []) rfl rfl hl.1 (Nat.le_of_ble_eq_true rfl) 47 rfl dX3_read_44 (fun v_8 H locs hq8_ hw => ?_)
  obtain ⟨y80_8, y83_8, y84_8, y86_8, y300_8, ev8_, hh8_⟩ := hq8_
  rw [ev8_] at hw; clear ev8_
  have hw : WK D cy T (upV (upV (upV (upV (upV (upV (upV v_0 80 y80_8) 83 y83_8) 84 y84_8) 86 y86_8) 123 y123_1) 124 y124_1) 300 y300_8) A0 s.heap H locs := cw_eq hw (by first | rfl | exact (funext fun j_ => if a80_ : j_ = 80 then (by subst a80_; rfl) else if a83_ : j_ = 83 then (by subst a83_; rfl) else if a84_ : j_ = 84 then (by subst a84_; rfl) else if a86_ : j_ = 86 then (by subst a86_; rfl) else if a123_ : j_ = 123 then (by subst a123_; rfl) else if a124_ : j_ = 124 then (by subst a124_; rfl) else if a300_ : j_ = 300 then (by subst a300_; rfl) else (by simp only [upV, if_neg a80_, if_neg a83_, if_neg a84_, if_neg a86_, if_neg a123_, if_neg a124_, if_neg a300_])))
  have hh8_ : (0 ≤ (y86_8 o) ∧ (y86_8 o) ≤ 400) ∧ Ro_ (y300_1) (y300_8) (T 85 o) ∧ Cp_ S3_ (N4_ K_) K_ V_ ((y83_7 o)) ((y80_7 o)) ((y83_8 o)) ((y84_8 o)) ((y80_8 o)) := hh8_
  have u1_ := hh8_
  have m3_ := cr_sum kk_ t1_ u1_.2.2
  have ro0_ : Ro_ yS_ (y300_8) (T 85 o) := by rw [eS_]; exact u1_.2.1
  have rk3_ := RK_ro rk_ u1_.2.1 nk_ nv_
  have L74_9 : ∀ (y80_c74 : Nat → Int) (y83_c74 : Nat → Int) (y84_c74 : Nat → Int) (y86_c74 : Nat → Int) (y300_c74 : Nat → Int) (H : Heap) (locs : List Loc) (ls : Array Slot), ((0 ≤ (y86_c74 o) ∧ (y86_c74 o) ≤ 400) ∧ Ro_ yS_ (y300_c74) (T 85 o) ∧ Cr_ 6 K_ V_ ((y83_c74 o)) ((y84_c74 o)) ((y80_c74 o))) → WK D cy T (upV (upV (upV (upV (upV (upV (upV v_0 80 y80_c74) 83 y83_c74) 84 y84_c74) 86 y86_c74) 123 y123_1) 124 y124_1) 300 y300_c74) A0 s.heap H locs → lv_has ls 3 [(0, .ref o), (1, .ref a_t), (2, .int (J v_n))] → W p l e (rmd 23 0 0) s m ar below meth c H locs 0 0 QW (F0 m 74 ls []) := by
    intro y80_c74 y83_c74 y84_c74 y86_c74 y300_c74 H locs ls iv74 hw hl
    have L101_11 : ∀ (y80_c101 : Nat → Int) (y83_c101 : Nat → Int) (y84_c101 : Nat → Int) (y86_c101 : Nat → Int) (y300_c101 : Nat → Int) (H : Heap) (locs : List Loc) (ls : Array Slot), ((0 ≤ (y86_c101 o) ∧ (y86_c101 o) ≤ 400) ∧ Ro_ yS_ (y300_c101) (T 85 o) ∧ Cr_ 7 K_ V_ ((y83_c101 o)) ((y84_c101 o)) ((y80_c101 o))) → WK D cy T (upV (upV (upV (upV (upV (upV (upV v_0 80 y80_c101) 83 y83_c101) 84 y84_c101) 86 y86_c101) 123 y123_1) 124 y124_1) 300 y300_c101) A0 s.heap H locs → lv_has ls 3 [(0, .ref o), (1, .ref a_t), (2, .int (J v_n))] → W p l e (rmd 23 0 0) s m ar below meth c H locs 0 0 QW (F0 m 101 ls []) := by
      intro y80_c101 y83_c101 y84_c101 y86_c101 y300_c101 H locs ls iv101 hw hl
      refine j_aload_n E 102 rfl dX3_read_101 rfl (lv_at hl 0 rfl) ?_
      refine j_bipush E 104 rfl dX3_read_102 (by decide) ?_
      refine zV_v E (c_X3_take l D cy T (upV (upV (upV (upV (upV (upV (upV v_0 80 y80_c101) 83 y83_c101) 84 y84_c101) 86 y86_c101) 123 y123_1) 124 y124_1) 300 y300_c101) κ o 59 K_ V_ hO t_o (rr (by decide)) (show RK_ (y300_c101) (T 120 (T 82 o)) (T 121 (T 82 o)) ((y123_1 (T 82 o))) K_ V_ from RK_ro rkS_ iv101.2.1 nk_ nv_) (show Cs_ K_ ((y83_c101 o)) ((y84_c101 o)) ((y80_c101 o)) from Cr_cs iv101.2.2) (show 3 < (59 : Int) from by omega)) mt_X3_take ml_X3_47 hK hZ hAc hw (cw_rc4 hK hw.1 t_o) hA ⟨Nat.le_of_ble_eq_true rfl, Nat.le_of_ble_eq_true rfl⟩ ⟨Nat.le_of_ble_eq_true rfl, Nat.le_of_ble_eq_true rfl⟩ (As := [.int (J 59)]) (rest := []) rfl rfl hl.1 (Nat.le_of_ble_eq_true rfl) 107 rfl dX3_read_104 (fun v_13 H locs hq13_ hw => ?_)
      obtain ⟨y80_13, y83_13, y84_13, ev13_, hh13_⟩ := hq13_
      rw [ev13_] at hw; clear ev13_
      have hw : WK D cy T (upV (upV (upV (upV (upV (upV (upV v_0 80 y80_13) 83 y83_13) 84 y84_13) 86 y86_c101) 123 y123_1) 124 y124_1) 300 y300_c101) A0 s.heap H locs := cw_eq hw (by first | rfl | exact (funext fun j_ => if a80_ : j_ = 80 then (by subst a80_; rfl) else if a83_ : j_ = 83 then (by subst a83_; rfl) else if a84_ : j_ = 84 then (by subst a84_; rfl) else if a86_ : j_ = 86 then (by subst a86_; rfl) else if a123_ : j_ = 123 then (by subst a123_; rfl) else if a124_ : j_ = 124 then (by subst a124_; rfl) else if a300_ : j_ = 300 then (by subst a300_; rfl) else (by simp only [upV, if_neg a80_, if_neg a83_, if_neg a84_, if_neg a86_, if_neg a123_, if_neg a124_, if_neg a300_])))
      have hh13_ : (((y84_c101 o) = (59 : Int)) ∧ (y83_13 o) = (y83_c101 o) + 1 ∧ (y84_13 o) = K_ ((y83_c101 o) + 1) ∧ (y80_13 o) = (y80_c101 o)) ∨ (¬ ((y84_c101 o) = (59 : Int)) ∧ (y83_13 o) = (y83_c101 o) ∧ (y84_13 o) = 2 ∧ (((y80_c101 o) = 0 ∧ (y80_13 o) = 1) ∨ (¬ (y80_c101 o) = 0 ∧ (y80_13 o) = (y80_c101 o)))) := hh13_
      have t3_ := hh13_
      have m8_ := cr_semi iv101.2.2 (fun q_ => (RK_lt rk_ (j := (y83_c101 o)) (cr_k iv101.2.2 q_)).2) t3_
      have a0_ := (Cr_cs m8_).1.1
      have L120_14 : ∀ (y80_c120 : Nat → Int) (y84_c120 : Nat → Int) (H : Heap) (locs : List Loc) (ls : Array Slot), (((y80_c120 o) = 0 ∧ Ra_ K_ V_ 9 ((y83_13 o))) ∨ ((1 ≤ (y80_c120 o) ∧ (y80_c120 o) ≤ 3) ∧ Rf_ K_ V_ ((y80_c120 o)) ((y83_13 o)))) → WK D cy T (upV (upV (upV (upV (upV (upV (upV v_0 80 y80_c120) 83 y83_13) 84 y84_c120) 86 y86_c101) 123 y123_1) 124 y124_1) 300 y300_c101) A0 s.heap H locs → lv_has ls 3 [(0, .ref o), (1, .ref a_t), (2, .int (J v_n))] → W p l e (rmd 23 0 0) s m ar below meth c H locs 0 0 QW (F0 m 120 ls []) := by
        intro y80_c120 y84_c120 H locs ls iv120 hw hl
        refine j_aload_n E 121 rfl dX3_read_120 rfl (lv_at hl 0 rfl) ?_
        have L143_16 : ∀ (s0_143 : Int) (H : Heap) (locs : List Loc) (ls : Array Slot), inR s0_143 → (((y80_c120 o) = 0 ∧ s0_143 = -1) ∨ (¬ (y80_c120 o) = 0 ∧ s0_143 = kf_ yS_ (T 122 (T 82 o)) ((y123_1 (T 82 o))) v_n ((y83_13 o)))) → WK D cy T (upV (upV (upV (upV (upV (upV (upV v_0 80 y80_c120) 83 y83_13) 84 y84_c120) 86 y86_c101) 123 y123_1) 124 y124_1) 300 y300_c101) A0 s.heap H locs → lv_has ls 3 [(0, .ref o), (1, .ref a_t), (2, .int (J v_n))] → W p l e (rmd 23 0 0) s m ar below meth c H locs 0 0 QW (F0 m 143 ls [.int (J s0_143), .ref o]) := by
          intro s0_143 H locs ls r_s0_143 iv143 hw hl
          refine p_81 E hK hw fl_X3_15 t_o r_s0_143 146 rfl dX3_read_143 (fun H locs hw => ?_)
          have hw : WK D cy T (upV (upV (upV (upV (upV (upV (upV (upV v_0 80 y80_c120) 81 (upB (v_0 81) o s0_143)) 83 y83_13) 84 y84_c120) 86 y86_c101) 123 y123_1) 124 y124_1) 300 y300_c101) A0 s.heap H locs := cw_eq hw (by first | rfl | exact (funext fun j_ => if a80_ : j_ = 80 then (by subst a80_; rfl) else if a81_ : j_ = 81 then (by subst a81_; rfl) else if a83_ : j_ = 83 then (by subst a83_; rfl) else if a84_ : j_ = 84 then (by subst a84_; rfl) else if a86_ : j_ = 86 then (by subst a86_; rfl) else if a123_ : j_ = 123 then (by subst a123_; rfl) else if a124_ : j_ = 124 then (by subst a124_; rfl) else if a300_ : j_ = 300 then (by subst a300_; rfl) else (by simp only [upV, if_neg a80_, if_neg a81_, if_neg a83_, if_neg a84_, if_neg a86_, if_neg a123_, if_neg a124_, if_neg a300_])))
          refine j_aload_n E 147 rfl dX3_read_146 rfl (lv_at hl 0 rfl) ?_
          refine g_80 E hK hw fl_X3_9 t_o (y80_c120 o) rfl 150 rfl dX3_read_147 (fun rr19_ => ?_)
          refine j_if_ne E 153 157 rfl rr19_ dX3_read_150 (by decide) (fun cc20_ => ?_) (fun cc20_ => ?_)
          · refine j_iconst E 158 rfl dX3_read_157 ?_
            exact hret 158 0 (upV (upV (upV (upV (upV (upV (upV (upV v_0 80 y80_c120) 81 (upB (v_0 81) o s0_143)) 83 y83_13) 84 y84_c120) 86 y86_c101) 123 y123_1) 124 y124_1) 300 y300_c101) _ _ ls hw (Or.inl rfl) ⟨y80_c120, (upB (v_0 81) o s0_143), y83_13, y84_c120, y86_c101, y123_1, y124_1, y300_c101, rfl, ⟨by omega, by omega, K_, V_, _, Q_, sm_, by first | exact Or.inl ⟨rfl, by omega, by rw [upB_same]; omega, iv120.elim (fun q_ => ⟨_, q_.2⟩) (fun q_ => absurd q_.1 (by omega))⟩ | exact Or.inr ⟨rfl, iv120.elim (fun q_ => absurd q_.1 (by omega)) (fun q_ => q_.1), _, by rw [upB_same]; exact iv143.elim (fun q_ => absurd q_.1 (by omega)) (fun q_ => q_.2), iv120.elim (fun q_ => absurd q_.1 (by omega)) (fun q_ => q_.2)⟩⟩⟩ dX3_read_158
          · refine j_iconst E 154 rfl dX3_read_153 ?_
            refine j_goto E 158 dX3_read_154 (by decide) ?_
            exact hret 158 1 (upV (upV (upV (upV (upV (upV (upV (upV v_0 80 y80_c120) 81 (upB (v_0 81) o s0_143)) 83 y83_13) 84 y84_c120) 86 y86_c101) 123 y123_1) 124 y124_1) 300 y300_c101) _ _ ls hw (Or.inr rfl) ⟨y80_c120, (upB (v_0 81) o s0_143), y83_13, y84_c120, y86_c101, y123_1, y124_1, y300_c101, rfl, ⟨by omega, by omega, K_, V_, _, Q_, sm_, by first | exact Or.inl ⟨rfl, by omega, by rw [upB_same]; omega, iv120.elim (fun q_ => ⟨_, q_.2⟩) (fun q_ => absurd q_.1 (by omega))⟩ | exact Or.inr ⟨rfl, iv120.elim (fun q_ => absurd q_.1 (by omega)) (fun q_ => q_.1), _, by rw [upB_same]; exact iv143.elim (fun q_ => absurd q_.1 (by omega)) (fun q_ => q_.2), iv120.elim (fun q_ => absurd q_.1 (by omega)) (fun q_ => q_.2)⟩⟩⟩ dX3_read_158
        refine j_aload_n E 122 rfl dX3_read_121 rfl (lv_at hl 0 rfl) ?_
        refine g_80 E hK hw fl_X3_9 t_o (y80_c120 o) rfl 125 rfl dX3_read_122 (fun rr21_ => ?_)
        refine j_if_ne E 128 132 rfl rr21_ dX3_read_125 (by decide) (fun cc22_ => ?_) (fun cc22_ => ?_)
        · refine j_aload_n E 133 rfl dX3_read_132 rfl (lv_at hl 0 rfl) ?_
          refine g_82 E hK hw fl_X3_21 t_o 136 rfl dX3_read_133 ?_
          refine j_aload_n E 137 rfl dX3_read_136 rfl (lv_at hl 0 rfl) ?_
          refine g_83 E hK hw fl_X3_25 t_o (y83_13 o) rfl 140 rfl dX3_read_137 (fun rr23_ => ?_)
          refine kV_i E (c_X5_placeAt l D cy T (upV (upV (upV (upV (upV (upV (upV v_0 80 y80_c120) 83 y83_13) 84 y84_c120) 86 y86_c101) 123 y123_1) 124 y124_1) 300 y300_c101) (T 82 o) (y83_13 o)  (wt_82 hT t_o) rr23_ (show 0 ≤ (y123_1 ((T 82 o))) ∧ (y123_1 ((T 82 o))) ≤ 400 from by omega)) mt_X5_placeAt ml_X3_66 hK hw (cw_rc6 hK hw.1 (wt_82 hT t_o)) hA ⟨Nat.le_of_ble_eq_true rfl, Nat.le_of_ble_eq_true rfl⟩ ⟨Nat.le_of_ble_eq_true rfl, Nat.le_of_ble_eq_true rfl⟩ (As := [.int (J (y83_13 o))]) (rest := [.ref o]) rfl rfl hl.1 (Nat.le_of_ble_eq_true rfl) 143 rfl dX3_read_140 (fun zz24_ v_24 H locs rr24_ hq24_ hw => ?_)
          obtain ⟨ev24_, hh24_⟩ := hq24_
          rw [ev24_] at hw; clear ev24_
          have hh24_ : (0 ≤ (y83_13 o) ∧ (y83_13 o) < (y123_1 ((T 82 o))) ∧ zz24_ = gC_ (y300_c101) (T 122 (T 82 o)) (y83_13 o)) ∨ (¬ (0 ≤ (y83_13 o) ∧ (y83_13 o) < (y123_1 ((T 82 o)))) ∧ zz24_ = (y124_1 ((T 82 o)))) := hh24_
          have pl_ := hh24_
          exact L143_16 zz24_  H locs ls rr24_ (by first | exact Or.inl ⟨by omega, rfl⟩ | exact Or.inr ⟨by omega, pl_kf pl_ iv101.2.1 np_ ln_ a0_⟩) hw (lv_sub hl [0, 1, 2] rfl)
        · refine j_iconst E 129 rfl dX3_read_128 ?_
          refine j_goto E 143 dX3_read_129 (by decide) ?_
          exact L143_16 ((-1))  H locs ls (rr (by decide)) (by first | exact Or.inl ⟨by omega, rfl⟩ | exact Or.inr ⟨by omega, pl_kf pl_ iv101.2.1 np_ ln_ a0_⟩) hw (lv_sub hl [0, 1, 2] rfl)
      refine j_aload_n E 108 rfl dX3_read_107 rfl (lv_at hl 0 rfl) ?_
      refine g_84 E hK hw fl_X3_30 t_o (y84_13 o) rfl 111 rfl dX3_read_108 (fun rr25_ => ?_)
      refine j_iconst E 112 rfl dX3_read_111 ?_
      refine j_icmp_eq E 115 120 rfl rr25_ (rr (by decide)) dX3_read_112 (by decide) (fun cc26_ => ?_) (fun cc26_ => ?_)
      · exact L120_14  y80_13 y84_13 H locs ls  (by first | exact cr_end m8_ (Or.inl ⟨by omega, rfl⟩) | exact cr_end m8_ (Or.inr ⟨by omega, rf_.2⟩)) hw (lv_sub hl [0, 1, 2] rfl)
      · refine j_aload_n E 116 rfl dX3_read_115 rfl (lv_at hl 0 rfl) ?_
        refine j_iconst E 117 rfl dX3_read_116 ?_
        refine kV_v E (c_X3_refuse l D cy T (upV (upV (upV (upV (upV (upV (upV v_0 80 y80_13) 83 y83_13) 84 y84_13) 86 y86_c101) 123 y123_1) 124 y124_1) 300 y300_c101) o 1  t_o (rr (by decide)) ) mt_X3_refuse ml_X3_63 hK hw (cw_rc4 hK hw.1 t_o) hA ⟨Nat.le_of_ble_eq_true rfl, Nat.le_of_ble_eq_true rfl⟩ ⟨Nat.le_of_ble_eq_true rfl, Nat.le_of_ble_eq_true rfl⟩ (As := [.int (J 1)]) (rest := []) rfl rfl hl.1 (Nat.le_of_ble_eq_true rfl) 120 rfl dX3_read_117 (fun v_27 H locs hq27_ hw => ?_)
        obtain ⟨y80_27, y84_27, ev27_, hh27_⟩ := hq27_
        rw [ev27_] at hw; clear ev27_
        have hw : WK D cy T (upV (upV (upV (upV (upV (upV (upV v_0 80 y80_27) 83 y83_13) 84 y84_27) 86 y86_c101) 123 y123_1) 124 y124_1) 300 y300_c101) A0 s.heap H locs := cw_eq hw (by first | rfl | exact (funext fun j_ => if a80_ : j_ = 80 then (by subst a80_; rfl) else if a83_ : j_ = 83 then (by subst a83_; rfl) else if a84_ : j_ = 84 then (by subst a84_; rfl) else if a86_ : j_ = 86 then (by subst a86_; rfl) else if a123_ : j_ = 123 then (by subst a123_; rfl) else if a124_ : j_ = 124 then (by subst a124_; rfl) else if a300_ : j_ = 300 then (by subst a300_; rfl) else (by simp only [upV, if_neg a80_, if_neg a83_, if_neg a84_, if_neg a86_, if_neg a123_, if_neg a124_, if_neg a300_])))
        have hh27_ : (y84_27 o) = 2 ∧ (((y80_13 o) = 0 ∧ (y80_27 o) = (1 : Int)) ∨ (¬ (y80_13 o) = 0 ∧ (y80_27 o) = (y80_13 o))) := hh27_
        have rf_ := hh27_
        exact L120_14  y80_27 y84_27 H locs ls  (by first | exact cr_end m8_ (Or.inl ⟨by omega, rfl⟩) | exact cr_end m8_ (Or.inr ⟨by omega, rf_.2⟩)) hw (lv_sub hl [0, 1, 2] rfl)
    refine j_aload_n E 75 rfl dX3_read_74 rfl (lv_at hl 0 rfl) ?_
    refine g_84 E hK hw fl_X3_30 t_o (y84_c74 o) rfl 78 rfl dX3_read_75 (fun rr28_ => ?_)
    refine j_sipush E 81 rfl dX3_read_78 (by decide) ?_
    refine j_icmp_ne E 84 96 rfl rr28_ (rr (by decide)) dX3_read_81 (by decide) (fun cc29_ => ?_) (fun cc29_ => ?_)
    · refine j_aload_n E 97 rfl dX3_read_96 rfl (lv_at hl 0 rfl) ?_
      refine j_iconst E 98 rfl dX3_read_97 ?_
      refine kV_v E (c_X3_emit l D cy T (upV (upV (upV (upV (upV (upV (upV v_0 80 y80_c74) 83 y83_c74) 84 y84_c74) 86 y86_c74) 123 y123_1) 124 y124_1) 300 y300_c74) o 0  t_o (rr (by decide)) (show 0 ≤ (y86_c74 o) ∧ (y86_c74 o) ≤ 400 from by omega)) mt_X3_emit ml_X3_60 hK hw (cw_rc4 hK hw.1 t_o) hA ⟨Nat.le_of_ble_eq_true rfl, Nat.le_of_ble_eq_true rfl⟩ ⟨Nat.le_of_ble_eq_true rfl, Nat.le_of_ble_eq_true rfl⟩ (As := [.int (J 0)]) (rest := []) rfl rfl hl.1 (Nat.le_of_ble_eq_true rfl) 101 rfl dX3_read_98 (fun v_30 H locs hq30_ hw => ?_)
      obtain ⟨y86_30, y300_30, ev30_, hh30_⟩ := hq30_
      rw [ev30_] at hw; clear ev30_
      have hw : WK D cy T (upV (upV (upV (upV (upV (upV (upV v_0 80 y80_c74) 83 y83_c74) 84 y84_c74) 86 y86_30) 123 y123_1) 124 y124_1) 300 y300_30) A0 s.heap H locs := cw_eq hw (by first | rfl | exact (funext fun j_ => if a80_ : j_ = 80 then (by subst a80_; rfl) else if a83_ : j_ = 83 then (by subst a83_; rfl) else if a84_ : j_ = 84 then (by subst a84_; rfl) else if a86_ : j_ = 86 then (by subst a86_; rfl) else if a123_ : j_ = 123 then (by subst a123_; rfl) else if a124_ : j_ = 124 then (by subst a124_; rfl) else if a300_ : j_ = 300 then (by subst a300_; rfl) else (by simp only [upV, if_neg a80_, if_neg a83_, if_neg a84_, if_neg a86_, if_neg a123_, if_neg a124_, if_neg a300_])))
      have hh30_ : (0 ≤ (y86_30 o) ∧ (y86_30 o) ≤ 400) ∧ Ro_ (y300_c74) (y300_30) (T 85 o) := hh30_
      have ro2_ := hh30_.2
      exact L101_11  y80_c74 y83_c74 y84_c74 y86_30 y300_30 H locs ls  (by first | exact ⟨by omega, Ro_tr iv74.2.1 w2_.2.1, m7_⟩ | exact ⟨by omega, Ro_tr iv74.2.1 ro2_, cr_nou iv74.2.2 (by omega)⟩) hw (lv_sub hl [0, 1, 2] rfl)
    · refine j_aload_n E 85 rfl dX3_read_84 rfl (lv_at hl 0 rfl) ?_
      refine zV_v E (c_X3_step l D cy T (upV (upV (upV (upV (upV (upV (upV v_0 80 y80_c74) 83 y83_c74) 84 y84_c74) 86 y86_c74) 123 y123_1) 124 y124_1) 300 y300_c74) κ o K_ V_ hO t_o  (show RK_ (y300_c74) (T 120 (T 82 o)) (T 121 (T 82 o)) ((y123_1 (T 82 o))) K_ V_ from RK_ro rkS_ iv74.2.1 nk_ nv_) (show 0 ≤ (y83_c74 o) ∧ (y83_c74 o) < 400 from by have q_ := Cr_cs iv74.2.2; unfold Cs_ at q_; have q2_ := RK_lt rk_ (j := (y83_c74 o)) (by omega); omega)) mt_X3_step ml_X3_54 hK hZ hAc hw (cw_rc4 hK hw.1 t_o) hA ⟨Nat.le_of_ble_eq_true rfl, Nat.le_of_ble_eq_true rfl⟩ ⟨Nat.le_of_ble_eq_true rfl, Nat.le_of_ble_eq_true rfl⟩ (As := []) (rest := []) rfl rfl hl.1 (Nat.le_of_ble_eq_true rfl) 88 rfl dX3_read_85 (fun v_31 H locs hq31_ hw => ?_)
      obtain ⟨y83_31, y84_31, ev31_, hh31_⟩ := hq31_
      rw [ev31_] at hw; clear ev31_
      have hw : WK D cy T (upV (upV (upV (upV (upV (upV (upV v_0 80 y80_c74) 83 y83_31) 84 y84_31) 86 y86_c74) 123 y123_1) 124 y124_1) 300 y300_c74) A0 s.heap H locs := cw_eq hw (by first | rfl | exact (funext fun j_ => if a80_ : j_ = 80 then (by subst a80_; rfl) else if a83_ : j_ = 83 then (by subst a83_; rfl) else if a84_ : j_ = 84 then (by subst a84_; rfl) else if a86_ : j_ = 86 then (by subst a86_; rfl) else if a123_ : j_ = 123 then (by subst a123_; rfl) else if a124_ : j_ = 124 then (by subst a124_; rfl) else if a300_ : j_ = 300 then (by subst a300_; rfl) else (by simp only [upV, if_neg a80_, if_neg a83_, if_neg a84_, if_neg a86_, if_neg a123_, if_neg a124_, if_neg a300_])))
      have hh31_ : (y83_31 o) = (y83_c74 o) + 1 ∧ (y84_31 o) = K_ ((y83_c74 o) + 1) := hh31_
      have s2_ := hh31_
      refine j_aload_n E 89 rfl dX3_read_88 rfl (lv_at hl 0 rfl) ?_
      refine j_iconst E 90 rfl dX3_read_89 ?_
      refine zV_v E (c_X3_readConditions_n0 l D cy T (upV (upV (upV (upV (upV (upV (upV v_0 80 y80_c74) 83 y83_31) 84 y84_31) 86 y86_c74) 123 y123_1) 124 y124_1) 300 y300_c74) κ o K_ V_ hO t_o  (show 0 ≤ (y86_c74 o) ∧ (y86_c74 o) ≤ 400 from by omega) (show RK_ (y300_c74) (T 120 (T 82 o)) (T 121 (T 82 o)) ((y123_1 (T 82 o))) K_ V_ from RK_ro rkS_ iv74.2.1 nk_ nv_) (show Cs_ K_ ((y83_31 o)) ((y84_31 o)) ((y80_c74 o)) from by have q_ := Cr_cs iv74.2.2; exact Cs_st q_ (by unfold Cs_ at q_; omega) s2_.1 s2_.2 (by unfold Cs_ at q_; omega))) mt_X3_readConditions ml_X3_57 hK hZ hAc hw (cw_rc4 hK hw.1 t_o) hA ⟨Nat.le_of_ble_eq_true rfl, Nat.le_of_ble_eq_true rfl⟩ ⟨Nat.le_of_ble_eq_true rfl, Nat.le_of_ble_eq_true rfl⟩ (As := [.int (J 0)]) (rest := []) rfl rfl hl.1 (Nat.le_of_ble_eq_true rfl) 93 rfl dX3_read_90 (fun v_32 H locs hq32_ hw => ?_)
      obtain ⟨y80_32, y83_32, y84_32, y86_32, y300_32, ev32_, hh32_⟩ := hq32_
      rw [ev32_] at hw; clear ev32_
      have hw : WK D cy T (upV (upV (upV (upV (upV (upV (upV v_0 80 y80_32) 83 y83_32) 84 y84_32) 86 y86_32) 123 y123_1) 124 y124_1) 300 y300_32) A0 s.heap H locs := cw_eq hw (by first | rfl | exact (funext fun j_ => if a80_ : j_ = 80 then (by subst a80_; rfl) else if a83_ : j_ = 83 then (by subst a83_; rfl) else if a84_ : j_ = 84 then (by subst a84_; rfl) else if a86_ : j_ = 86 then (by subst a86_; rfl) else if a123_ : j_ = 123 then (by subst a123_; rfl) else if a124_ : j_ = 124 then (by subst a124_; rfl) else if a300_ : j_ = 300 then (by subst a300_; rfl) else (by simp only [upV, if_neg a80_, if_neg a83_, if_neg a84_, if_neg a86_, if_neg a123_, if_neg a124_, if_neg a300_])))
      have hh32_ : (0 ≤ (y86_32 o) ∧ (y86_32 o) ≤ 400) ∧ Ro_ (y300_c74) (y300_32) (T 85 o) ∧ Ck_ S4_ (0 : Int) (NA_ K_) K_ V_ ((y83_31 o)) ((y80_c74 o)) ((y83_32 o)) ((y84_32 o)) ((y80_32 o)) := hh32_
      have w2_ := hh32_
      rw [s2_.1] at w2_
      have m7_ := cr_unl iv74.2.2 (by omega) w2_.2.2
      refine j_goto E 101 dX3_read_93 (by decide) ?_
      exact L101_11  y80_32 y83_32 y84_32 y86_32 y300_32 H locs ls  (by first | exact ⟨by omega, Ro_tr iv74.2.1 w2_.2.1, m7_⟩ | exact ⟨by omega, Ro_tr iv74.2.1 ro2_, cr_nou iv74.2.2 (by omega)⟩) hw (lv_sub hl [0, 1, 2] rfl)
  refine j_aload_n E 48 rfl dX3_read_47 rfl (lv_at hl 0 rfl) ?_
  refine g_84 E hK hw fl_X3_30 t_o (y84_8 o) rfl 51 rfl dX3_read_48 (fun rr33_ => ?_)
  refine j_sipush E 54 rfl dX3_read_51 (by decide) ?_
  refine j_icmp_ne E 57 69 rfl rr33_ (rr (by decide)) dX3_read_54 (by decide) (fun cc34_ => ?_) (fun cc34_ => ?_)
  · refine j_aload_n E 70 rfl dX3_read_69 rfl (lv_at hl 0 rfl) ?_
    refine j_iconst E 71 rfl dX3_read_70 ?_
    refine kV_v E (c_X3_emit l D cy T (upV (upV (upV (upV (upV (upV (upV v_0 80 y80_8) 83 y83_8) 84 y84_8) 86 y86_8) 123 y123_1) 124 y124_1) 300 y300_8) o 1  t_o (rr (by decide)) (show 0 ≤ (y86_8 o) ∧ (y86_8 o) ≤ 400 from by omega)) mt_X3_emit ml_X3_60 hK hw (cw_rc4 hK hw.1 t_o) hA ⟨Nat.le_of_ble_eq_true rfl, Nat.le_of_ble_eq_true rfl⟩ ⟨Nat.le_of_ble_eq_true rfl, Nat.le_of_ble_eq_true rfl⟩ (As := [.int (J 1)]) (rest := []) rfl rfl hl.1 (Nat.le_of_ble_eq_true rfl) 74 rfl dX3_read_71 (fun v_35 H locs hq35_ hw => ?_)
    obtain ⟨y86_35, y300_35, ev35_, hh35_⟩ := hq35_
    rw [ev35_] at hw; clear ev35_
    have hw : WK D cy T (upV (upV (upV (upV (upV (upV (upV v_0 80 y80_8) 83 y83_8) 84 y84_8) 86 y86_35) 123 y123_1) 124 y124_1) 300 y300_35) A0 s.heap H locs := cw_eq hw (by first | rfl | exact (funext fun j_ => if a80_ : j_ = 80 then (by subst a80_; rfl) else if a83_ : j_ = 83 then (by subst a83_; rfl) else if a84_ : j_ = 84 then (by subst a84_; rfl) else if a86_ : j_ = 86 then (by subst a86_; rfl) else if a123_ : j_ = 123 then (by subst a123_; rfl) else if a124_ : j_ = 124 then (by subst a124_; rfl) else if a300_ : j_ = 300 then (by subst a300_; rfl) else (by simp only [upV, if_neg a80_, if_neg a83_, if_neg a84_, if_neg a86_, if_neg a123_, if_neg a124_, if_neg a300_])))
    have hh35_ : (0 ≤ (y86_35 o) ∧ (y86_35 o) ≤ 400) ∧ Ro_ (y300_8) (y300_35) (T 85 o) := hh35_
    have ro1_ := hh35_.2
    exact L74_9  y80_8 y83_8 y84_8 y86_35 y300_35 H locs ls  (by first | exact ⟨by omega, Ro_tr ro0_ w1_.2.1, m6_⟩ | exact ⟨by omega, Ro_tr ro0_ ro1_, cr_now m3_ (by omega)⟩) hw (lv_sub hl [0, 1, 2] rfl)
  · refine j_aload_n E 58 rfl dX3_read_57 rfl (lv_at hl 0 rfl) ?_
    refine zV_v E (c_X3_step l D cy T (upV (upV (upV (upV (upV (upV (upV v_0 80 y80_8) 83 y83_8) 84 y84_8) 86 y86_8) 123 y123_1) 124 y124_1) 300 y300_8) κ o K_ V_ hO t_o  (show RK_ (y300_8) (T 120 (T 82 o)) (T 121 (T 82 o)) ((y123_1 (T 82 o))) K_ V_ from rk3_) (show 0 ≤ (y83_8 o) ∧ (y83_8 o) < 400 from by have q_ := Cr_cs m3_; unfold Cs_ at q_; have q2_ := RK_lt rk_ (j := (y83_8 o)) (by omega); omega)) mt_X3_step ml_X3_54 hK hZ hAc hw (cw_rc4 hK hw.1 t_o) hA ⟨Nat.le_of_ble_eq_true rfl, Nat.le_of_ble_eq_true rfl⟩ ⟨Nat.le_of_ble_eq_true rfl, Nat.le_of_ble_eq_true rfl⟩ (As := []) (rest := []) rfl rfl hl.1 (Nat.le_of_ble_eq_true rfl) 61 rfl dX3_read_58 (fun v_36 H locs hq36_ hw => ?_)
    obtain ⟨y83_36, y84_36, ev36_, hh36_⟩ := hq36_
    rw [ev36_] at hw; clear ev36_
    have hw : WK D cy T (upV (upV (upV (upV (upV (upV (upV v_0 80 y80_8) 83 y83_36) 84 y84_36) 86 y86_8) 123 y123_1) 124 y124_1) 300 y300_8) A0 s.heap H locs := cw_eq hw (by first | rfl | exact (funext fun j_ => if a80_ : j_ = 80 then (by subst a80_; rfl) else if a83_ : j_ = 83 then (by subst a83_; rfl) else if a84_ : j_ = 84 then (by subst a84_; rfl) else if a86_ : j_ = 86 then (by subst a86_; rfl) else if a123_ : j_ = 123 then (by subst a123_; rfl) else if a124_ : j_ = 124 then (by subst a124_; rfl) else if a300_ : j_ = 300 then (by subst a300_; rfl) else (by simp only [upV, if_neg a80_, if_neg a83_, if_neg a84_, if_neg a86_, if_neg a123_, if_neg a124_, if_neg a300_])))
    have hh36_ : (y83_36 o) = (y83_8 o) + 1 ∧ (y84_36 o) = K_ ((y83_8 o) + 1) := hh36_
    have s1_ := hh36_
    refine j_aload_n E 62 rfl dX3_read_61 rfl (lv_at hl 0 rfl) ?_
    refine j_iconst E 63 rfl dX3_read_62 ?_
    refine zV_v E (c_X3_readConditions_n0 l D cy T (upV (upV (upV (upV (upV (upV (upV v_0 80 y80_8) 83 y83_36) 84 y84_36) 86 y86_8) 123 y123_1) 124 y124_1) 300 y300_8) κ o K_ V_ hO t_o  (show 0 ≤ (y86_8 o) ∧ (y86_8 o) ≤ 400 from by omega) (show RK_ (y300_8) (T 120 (T 82 o)) (T 121 (T 82 o)) ((y123_1 (T 82 o))) K_ V_ from rk3_) (show Cs_ K_ ((y83_36 o)) ((y84_36 o)) ((y80_8 o)) from by have q_ := Cr_cs m3_; exact Cs_st q_ (by unfold Cs_ at q_; omega) s1_.1 s1_.2 (by unfold Cs_ at q_; omega))) mt_X3_readConditions ml_X3_57 hK hZ hAc hw (cw_rc4 hK hw.1 t_o) hA ⟨Nat.le_of_ble_eq_true rfl, Nat.le_of_ble_eq_true rfl⟩ ⟨Nat.le_of_ble_eq_true rfl, Nat.le_of_ble_eq_true rfl⟩ (As := [.int (J 0)]) (rest := []) rfl rfl hl.1 (Nat.le_of_ble_eq_true rfl) 66 rfl dX3_read_63 (fun v_37 H locs hq37_ hw => ?_)
    obtain ⟨y80_37, y83_37, y84_37, y86_37, y300_37, ev37_, hh37_⟩ := hq37_
    rw [ev37_] at hw; clear ev37_
    have hw : WK D cy T (upV (upV (upV (upV (upV (upV (upV v_0 80 y80_37) 83 y83_37) 84 y84_37) 86 y86_37) 123 y123_1) 124 y124_1) 300 y300_37) A0 s.heap H locs := cw_eq hw (by first | rfl | exact (funext fun j_ => if a80_ : j_ = 80 then (by subst a80_; rfl) else if a83_ : j_ = 83 then (by subst a83_; rfl) else if a84_ : j_ = 84 then (by subst a84_; rfl) else if a86_ : j_ = 86 then (by subst a86_; rfl) else if a123_ : j_ = 123 then (by subst a123_; rfl) else if a124_ : j_ = 124 then (by subst a124_; rfl) else if a300_ : j_ = 300 then (by subst a300_; rfl) else (by simp only [upV, if_neg a80_, if_neg a83_, if_neg a84_, if_neg a86_, if_neg a123_, if_neg a124_, if_neg a300_])))
    have hh37_ : (0 ≤ (y86_37 o) ∧ (y86_37 o) ≤ 400) ∧ Ro_ (y300_8) (y300_37) (T 85 o) ∧ Ck_ S4_ (0 : Int) (NA_ K_) K_ V_ ((y83_36 o)) ((y80_8 o)) ((y83_37 o)) ((y84_37 o)) ((y80_37 o)) := hh37_
    have w1_ := hh37_
    rw [s1_.1] at w1_
    have m6_ := cr_when m3_ (by omega) w1_.2.2
    refine j_goto E 74 dX3_read_66 (by decide) ?_
    exact L74_9  y80_37 y83_37 y84_37 y86_37 y300_37 H locs ls  (by first | exact ⟨by omega, Ro_tr ro0_ w1_.2.1, m6_⟩ | exact ⟨by omega, Ro_tr ro0_ ro1_, cr_now m3_ (by omega)⟩) hw (lv_sub hl [0, 1, 2] rfl)
