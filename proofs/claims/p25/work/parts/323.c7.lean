set_option maxHeartbeats 4000000 in
set_option maxRecDepth 100000 in
theorem c_X5_kindAt (l : Launch) (D : va_G) (cy : Nat → ClassId) (T : Nat → Nat → Nat) (v_0 : Nat → Nat → Int) (o : Nat) (v_i : Int) (t_o : T 0 o = 6) (r_v_i : inR v_i) : KC l D cy T yX5_kindAt cX5_kindAt 2 (some .int) 1 [.ref o, .int (J v_i)] v_0 (KI (fun (z_0 : Int) (v_2 : Nat → Nat → Int) => v_2 = v_0 ∧ (True))) := by
  refine KC.ofi (by decide) (Nat.le_of_ble_eq_true rfl) ?_
  intro p e s m below meth c ls ar QW A0 H0 H locs E hK hA hw hl hret
  have hl : lv_has ls 2 [(0, .ref o), (1, .int (J v_i))] := hl
  have hT : WT T := hw.1.2.1
  refine j_iload_n E 1 rfl dX5_kindAt_0 rfl (lv_at hl 1 rfl) ?_
  refine j_if_lt E 4 30 rfl r_v_i dX5_kindAt_1 (by decide) (fun cc1_ => ?_) (fun cc1_ => ?_)
  · refine j_iconst E 31 rfl dX5_kindAt_30 ?_
    exact hret 31 1 (v_0) _ _ ls hw (rr (by decide)) ⟨rfl, trivial⟩ dX5_kindAt_31
  · refine j_iload_n E 5 rfl dX5_kindAt_4 rfl (lv_at hl 1 rfl) ?_
    refine j_aload_n E 6 rfl dX5_kindAt_5 rfl (lv_at hl 0 rfl) ?_
    refine g_123 E hK hw fl_X5_21 t_o (v_0 123 o) rfl 9 rfl dX5_kindAt_6 (fun rr2_ => ?_)
    refine j_icmp_ge E 12 30 rfl r_v_i rr2_ dX5_kindAt_9 (by decide) (fun cc3_ => ?_) (fun cc3_ => ?_)
    · refine j_iconst E 31 rfl dX5_kindAt_30 ?_
      exact hret 31 1 (v_0) _ _ ls hw (rr (by decide)) ⟨rfl, trivial⟩ dX5_kindAt_31
    · refine j_iload_n E 13 rfl dX5_kindAt_12 rfl (lv_at hl 1 rfl) ?_
      refine j_aload_n E 14 rfl dX5_kindAt_13 rfl (lv_at hl 0 rfl) ?_
      refine g_120 E hK hw fl_X5_9 t_o 17 rfl dX5_kindAt_14 ?_
      have ln4_ := wl_120 hT t_o
      refine a_ln20 E hK hw (wt_120 hT t_o) 18 rfl dX5_kindAt_17 (fun rr5_ => ?_)
      refine j_icmp_ge E 21 30 rfl r_v_i rr5_ dX5_kindAt_18 (by decide) (fun cc6_ => ?_) (fun cc6_ => ?_)
      · refine j_iconst E 31 rfl dX5_kindAt_30 ?_
        exact hret 31 1 (v_0) _ _ ls hw (rr (by decide)) ⟨rfl, trivial⟩ dX5_kindAt_31
      · refine j_aload_n E 22 rfl dX5_kindAt_21 rfl (lv_at hl 0 rfl) ?_
        refine g_120 E hK hw fl_X5_9 t_o 25 rfl dX5_kindAt_22 ?_
        refine j_iload_n E 26 rfl dX5_kindAt_25 rfl (lv_at hl 1 rfl) ?_
        refine a_ld20 E hK hw (wt_120 hT t_o) (by omega) 27 rfl dX5_kindAt_26 (fun zz7_ rr7_ => ?_)
        refine j_goto E 31 dX5_kindAt_27 (by decide) ?_
        exact hret 31 zz7_ (v_0) _ _ ls hw rr7_ ⟨rfl, trivial⟩ dX5_kindAt_31
set_option maxHeartbeats 4000000 in
set_option maxRecDepth 100000 in
theorem c_X5_valueAt (l : Launch) (D : va_G) (cy : Nat → ClassId) (T : Nat → Nat → Nat) (v_0 : Nat → Nat → Int) (o : Nat) (v_i : Int) (t_o : T 0 o = 6) (r_v_i : inR v_i) : KC l D cy T yX5_valueAt cX5_valueAt 2 (some .int) 1 [.ref o, .int (J v_i)] v_0 (KI (fun (z_0 : Int) (v_2 : Nat → Nat → Int) => v_2 = v_0 ∧ (True))) := by
  refine KC.ofi (by decide) (Nat.le_of_ble_eq_true rfl) ?_
  intro p e s m below meth c ls ar QW A0 H0 H locs E hK hA hw hl hret
  have hl : lv_has ls 2 [(0, .ref o), (1, .int (J v_i))] := hl
  have hT : WT T := hw.1.2.1
  refine j_iload_n E 1 rfl dX5_valueAt_0 rfl (lv_at hl 1 rfl) ?_
  refine j_if_lt E 4 30 rfl r_v_i dX5_valueAt_1 (by decide) (fun cc1_ => ?_) (fun cc1_ => ?_)
  · refine j_iconst E 31 rfl dX5_valueAt_30 ?_
    exact hret 31 0 (v_0) _ _ ls hw (rr (by decide)) ⟨rfl, trivial⟩ dX5_valueAt_31
  · refine j_iload_n E 5 rfl dX5_valueAt_4 rfl (lv_at hl 1 rfl) ?_
    refine j_aload_n E 6 rfl dX5_valueAt_5 rfl (lv_at hl 0 rfl) ?_
    refine g_123 E hK hw fl_X5_21 t_o (v_0 123 o) rfl 9 rfl dX5_valueAt_6 (fun rr2_ => ?_)
    refine j_icmp_ge E 12 30 rfl r_v_i rr2_ dX5_valueAt_9 (by decide) (fun cc3_ => ?_) (fun cc3_ => ?_)
    · refine j_iconst E 31 rfl dX5_valueAt_30 ?_
      exact hret 31 0 (v_0) _ _ ls hw (rr (by decide)) ⟨rfl, trivial⟩ dX5_valueAt_31
    · refine j_iload_n E 13 rfl dX5_valueAt_12 rfl (lv_at hl 1 rfl) ?_
      refine j_aload_n E 14 rfl dX5_valueAt_13 rfl (lv_at hl 0 rfl) ?_
      refine g_121 E hK hw fl_X5_15 t_o 17 rfl dX5_valueAt_14 ?_
      have ln4_ := wl_121 hT t_o
      refine a_ln20 E hK hw (wt_121 hT t_o) 18 rfl dX5_valueAt_17 (fun rr5_ => ?_)
      refine j_icmp_ge E 21 30 rfl r_v_i rr5_ dX5_valueAt_18 (by decide) (fun cc6_ => ?_) (fun cc6_ => ?_)
      · refine j_iconst E 31 rfl dX5_valueAt_30 ?_
        exact hret 31 0 (v_0) _ _ ls hw (rr (by decide)) ⟨rfl, trivial⟩ dX5_valueAt_31
      · refine j_aload_n E 22 rfl dX5_valueAt_21 rfl (lv_at hl 0 rfl) ?_
        refine g_121 E hK hw fl_X5_15 t_o 25 rfl dX5_valueAt_22 ?_
        refine j_iload_n E 26 rfl dX5_valueAt_25 rfl (lv_at hl 1 rfl) ?_
        refine a_ld20 E hK hw (wt_121 hT t_o) (by omega) 27 rfl dX5_valueAt_26 (fun zz7_ rr7_ => ?_)
        refine j_goto E 31 dX5_valueAt_27 (by decide) ?_
        exact hret 31 zz7_ (v_0) _ _ ls hw rr7_ ⟨rfl, trivial⟩ dX5_valueAt_31
set_option maxHeartbeats 4000000 in
set_option maxRecDepth 100000 in
theorem c_X5_placeAt (l : Launch) (D : va_G) (cy : Nat → ClassId) (T : Nat → Nat → Nat) (v_0 : Nat → Nat → Int) (o : Nat) (v_i : Int) (t_o : T 0 o = 6) (r_v_i : inR v_i) : KC l D cy T yX5_placeAt cX5_placeAt 2 (some .int) 1 [.ref o, .int (J v_i)] v_0 (KI (fun (z_0 : Int) (v_2 : Nat → Nat → Int) => v_2 = v_0 ∧ (True))) := by
  refine KC.ofi (by decide) (Nat.le_of_ble_eq_true rfl) ?_
  intro p e s m below meth c ls ar QW A0 H0 H locs E hK hA hw hl hret
  have hl : lv_has ls 2 [(0, .ref o), (1, .int (J v_i))] := hl
  have hT : WT T := hw.1.2.1
  refine j_iload_n E 1 rfl dX5_placeAt_0 rfl (lv_at hl 1 rfl) ?_
  refine j_if_lt E 4 30 rfl r_v_i dX5_placeAt_1 (by decide) (fun cc1_ => ?_) (fun cc1_ => ?_)
  · refine j_aload_n E 31 rfl dX5_placeAt_30 rfl (lv_at hl 0 rfl) ?_
    refine g_124 E hK hw fl_X5_25 t_o (v_0 124 o) rfl 34 rfl dX5_placeAt_31 (fun rr2_ => ?_)
    exact hret 34 (v_0 124 o) (v_0) _ _ ls hw rr2_ ⟨rfl, trivial⟩ dX5_placeAt_34
  · refine j_iload_n E 5 rfl dX5_placeAt_4 rfl (lv_at hl 1 rfl) ?_
    refine j_aload_n E 6 rfl dX5_placeAt_5 rfl (lv_at hl 0 rfl) ?_
    refine g_123 E hK hw fl_X5_21 t_o (v_0 123 o) rfl 9 rfl dX5_placeAt_6 (fun rr3_ => ?_)
    refine j_icmp_ge E 12 30 rfl r_v_i rr3_ dX5_placeAt_9 (by decide) (fun cc4_ => ?_) (fun cc4_ => ?_)
    · refine j_aload_n E 31 rfl dX5_placeAt_30 rfl (lv_at hl 0 rfl) ?_
      refine g_124 E hK hw fl_X5_25 t_o (v_0 124 o) rfl 34 rfl dX5_placeAt_31 (fun rr5_ => ?_)
      exact hret 34 (v_0 124 o) (v_0) _ _ ls hw rr5_ ⟨rfl, trivial⟩ dX5_placeAt_34
    · refine j_iload_n E 13 rfl dX5_placeAt_12 rfl (lv_at hl 1 rfl) ?_
      refine j_aload_n E 14 rfl dX5_placeAt_13 rfl (lv_at hl 0 rfl) ?_
      refine g_122 E hK hw fl_X5_18 t_o 17 rfl dX5_placeAt_14 ?_
      have ln6_ := wl_122 hT t_o
      refine a_ln20 E hK hw (wt_122 hT t_o) 18 rfl dX5_placeAt_17 (fun rr7_ => ?_)
      refine j_icmp_ge E 21 30 rfl r_v_i rr7_ dX5_placeAt_18 (by decide) (fun cc8_ => ?_) (fun cc8_ => ?_)
      · refine j_aload_n E 31 rfl dX5_placeAt_30 rfl (lv_at hl 0 rfl) ?_
        refine g_124 E hK hw fl_X5_25 t_o (v_0 124 o) rfl 34 rfl dX5_placeAt_31 (fun rr9_ => ?_)
        exact hret 34 (v_0 124 o) (v_0) _ _ ls hw rr9_ ⟨rfl, trivial⟩ dX5_placeAt_34
      · refine j_aload_n E 22 rfl dX5_placeAt_21 rfl (lv_at hl 0 rfl) ?_
        refine g_122 E hK hw fl_X5_18 t_o 25 rfl dX5_placeAt_22 ?_
        refine j_iload_n E 26 rfl dX5_placeAt_25 rfl (lv_at hl 1 rfl) ?_
        refine a_ld20 E hK hw (wt_122 hT t_o) (by omega) 27 rfl dX5_placeAt_26 (fun zz10_ rr10_ => ?_)
        refine j_goto E 34 dX5_placeAt_27 (by decide) ?_
        exact hret 34 zz10_ (v_0) _ _ ls hw rr10_ ⟨rfl, trivial⟩ dX5_placeAt_34
set_option maxHeartbeats 4000000 in
set_option maxRecDepth 100000 in
theorem c_X5_keep (l : Launch) (D : va_G) (cy : Nat → ClassId) (T : Nat → Nat → Nat) (v_0 : Nat → Nat → Int) (o : Nat) (v_k : Int) (v_x : Int) (v_p : Int) (t_o : T 0 o = 6) (r_v_k : inR v_k) (r_v_x : inR v_x) (r_v_p : inR v_p) (hp0 : 0 ≤ (v_0 123 o) ∧ (v_0 123 o) ≤ 400) : KC l D cy T yX5_keep cX5_keep 4 none 1 [.ref o, .int (J v_k), .int (J v_x), .int (J v_p)] v_0 (KV (fun (v_2 : Nat → Nat → Int) => ∃ (y123_2 : Nat → Int) , v_2 = upV v_0 123 y123_2 ∧ (0 ≤ (y123_2 o) ∧ (y123_2 o) ≤ 400))) := by
  refine KC.ofv (by decide) (Nat.le_of_ble_eq_true rfl) ?_
  intro p e s m below meth c ls ar QW A0 H0 H locs E hK hA hw hl hret
  have hl : lv_has ls 4 [(0, .ref o), (1, .int (J v_k)), (2, .int (J v_x)), (3, .int (J v_p))] := hl
  have hT : WT T := hw.1.2.1
  refine j_aload_n E 1 rfl dX5_keep_0 rfl (lv_at hl 0 rfl) ?_
  refine g_123 E hK hw fl_X5_21 t_o (v_0 123 o) rfl 4 rfl dX5_keep_1 (fun rr1_ => ?_)
  refine j_if_lt E 7 57 rfl rr1_ dX5_keep_4 (by decide) (fun cc2_ => ?_) (fun cc2_ => ?_)
  · exact hret 57 (upV v_0 123 (v_0 123)) _ _ ls (cw_eq hw (by first | rfl | (funext j_; simp only [upV, reduceIte]; (repeat' split) <;> first | rfl | omega | (subst_vars; rfl)))) ⟨(v_0 123), rfl, by first | omega | (simp only [upB_same]; omega)⟩ dX5_keep_57
  · refine j_aload_n E 8 rfl dX5_keep_7 rfl (lv_at hl 0 rfl) ?_
    refine g_123 E hK hw fl_X5_21 t_o (v_0 123 o) rfl 11 rfl dX5_keep_8 (fun _ => ?_)
    refine j_sipush E 14 rfl dX5_keep_11 (by decide) ?_
    refine j_icmp_ge E 17 57 rfl rr1_ (rr (by decide)) dX5_keep_14 (by decide) (fun cc3_ => ?_) (fun cc3_ => ?_)
    · exact hret 57 (upV v_0 123 (v_0 123)) _ _ ls (cw_eq hw (by first | rfl | (funext j_; simp only [upV, reduceIte]; (repeat' split) <;> first | rfl | omega | (subst_vars; rfl)))) ⟨(v_0 123), rfl, by first | omega | (simp only [upB_same]; omega)⟩ dX5_keep_57
    · refine j_aload_n E 18 rfl dX5_keep_17 rfl (lv_at hl 0 rfl) ?_
      refine g_120 E hK hw fl_X5_9 t_o 21 rfl dX5_keep_18 ?_
      have ln4_ := wl_120 hT t_o
      refine j_aload_n E 22 rfl dX5_keep_21 rfl (lv_at hl 0 rfl) ?_
      refine g_123 E hK hw fl_X5_21 t_o (v_0 123 o) rfl 25 rfl dX5_keep_22 (fun _ => ?_)
      refine j_iload_n E 26 rfl dX5_keep_25 rfl (lv_at hl 1 rfl) ?_
      refine a_st20 E hK hw (wt_120 hT t_o) (by omega) 27 rfl dX5_keep_26 (fun H locs hw => ?_)
      refine j_aload_n E 28 rfl dX5_keep_27 rfl (lv_at hl 0 rfl) ?_
      refine g_121 E hK hw fl_X5_15 t_o 31 rfl dX5_keep_28 ?_
      have ln5_ := wl_121 hT t_o
      refine j_aload_n E 32 rfl dX5_keep_31 rfl (lv_at hl 0 rfl) ?_
      refine g_123 E hK hw fl_X5_21 t_o (v_0 123 o) rfl 35 rfl dX5_keep_32 (fun _ => ?_)
      refine j_iload_n E 36 rfl dX5_keep_35 rfl (lv_at hl 2 rfl) ?_
      refine a_st20 E hK hw (wt_121 hT t_o) (by omega) 37 rfl dX5_keep_36 (fun H locs hw => ?_)
      refine j_aload_n E 38 rfl dX5_keep_37 rfl (lv_at hl 0 rfl) ?_
      refine g_122 E hK hw fl_X5_18 t_o 41 rfl dX5_keep_38 ?_
      have ln6_ := wl_122 hT t_o
      refine j_aload_n E 42 rfl dX5_keep_41 rfl (lv_at hl 0 rfl) ?_
      refine g_123 E hK hw fl_X5_21 t_o (v_0 123 o) rfl 45 rfl dX5_keep_42 (fun _ => ?_)
      refine j_iload_n E 46 rfl dX5_keep_45 rfl (lv_at hl 3 rfl) ?_
      refine a_st20 E hK hw (wt_122 hT t_o) (by omega) 47 rfl dX5_keep_46 (fun H locs hw => ?_)
      refine j_aload_n E 48 rfl dX5_keep_47 rfl (lv_at hl 0 rfl) ?_
      refine j_dup E 49 rfl dX5_keep_48 rfl ?_
      refine g_123 E hK hw fl_X5_21 t_o (v_0 123 o) rfl 52 rfl dX5_keep_49 (fun _ => ?_)
      refine j_iconst E 53 rfl dX5_keep_52 ?_
      refine j_iadd E 54 rfl dX5_keep_53 ?_
      refine p_123 E hK hw fl_X5_21 t_o (rr (by omega)) 57 rfl dX5_keep_54 (fun H locs hw => ?_)
      have hw : WK D cy T (upV v_0 123 (upB (v_0 123) o ((v_0 123 o) + 1))) A0 H0 H locs := cw_eq hw (by first | rfl | (funext j_; simp only [upV, reduceIte]; (repeat' split) <;> first | rfl | omega | (subst_vars; rfl)))
      exact hret 57 (upV v_0 123 (upB (v_0 123) o ((v_0 123 o) + 1))) _ _ ls hw ⟨(upB (v_0 123) o ((v_0 123 o) + 1)), rfl, by first | omega | (simp only [upB_same]; omega)⟩ dX5_keep_57
set_option maxHeartbeats 4000000 in
set_option maxRecDepth 100000 in
theorem c_X5_scanToken (l : Launch) (D : va_G) (cy : Nat → ClassId) (T : Nat → Nat → Nat) (v_0 : Nat → Nat → Int) (κ : Nat → Nat → Nat) (o : Nat) (a_t : Nat) (v_f : Int) (hO : ∀ x, ow T x → κ 2 2 ≤ x) (t_o : T 0 o = 6) (t_t : T 0 a_t = 23) (r_v_f : inR v_f) (hp0 : 0 ≤ (v_0 123 o) ∧ (v_0 123 o) ≤ 400 ∧ 0 ≤ v_f ∧ v_f < 2147483647) : KZ l D cy κ T yX5_scanToken cX5_scanToken 6 (some .int) 8 [.ref o, .ref a_t, .int (J v_f)] v_0 (KI (fun (z_0 : Int) (v_2 : Nat → Nat → Int) => ∃ (y123_2 : Nat → Int) , v_2 = upV v_0 123 y123_2 ∧ (0 ≤ (y123_2 o) ∧ (y123_2 o) ≤ 400))) := by
  refine KZ.ofi (by decide) (Nat.le_of_ble_eq_true rfl) hO ?_
  intro p e s m below meth c ls ar QW A0 H locs E hK hZ hA hAc hw hl hret
  have hl : lv_has ls 6 [(0, .ref o), (1, .ref a_t), (2, .int (J v_f))] := hl
  have hT : WT T := hw.1.2.1
  refine j_iload_n E 1 rfl dX5_scanToken_0 rfl (lv_at hl 2 rfl) ?_
  refine j_iconst E 2 rfl dX5_scanToken_1 ?_
  refine j_iadd E 3 rfl dX5_scanToken_2 ?_
  refine j_istore_n E 4 rfl [(3, .int (J (v_f + 1))), (0, .ref o), (1, .ref a_t), (2, .int (J v_f))] dX5_scanToken_3 rfl hl (by decide) rfl (fun ls hl => ?_)
  have L21_1 : ∀ (s0_21 : Int) (H : Heap) (locs : List Loc) (ls : Array Slot), inR s0_21 → (True) → WK D cy T (v_0) A0 s.heap H locs → lv_has ls 6 [(0, .ref o), (1, .ref a_t), (2, .int (J v_f)), (3, .int (J (v_f + 1)))] → W p l e (rmd 8 0 0) s m ar below meth c H locs 0 0 QW (F0 m 21 ls [.int (J s0_21)]) := by
    intro s0_21 H locs ls r_s0_21 iv21 hw hl
    refine j_istore E 23 rfl [(4, .int (J s0_21)), (0, .ref o), (1, .ref a_t), (2, .int (J v_f)), (3, .int (J (v_f + 1)))] dX5_scanToken_21 hl (by decide) rfl (fun ls hl => ?_)
    refine j_iload E 25 rfl dX5_scanToken_23 (lv_at hl 0 rfl) ?_
    refine kS_i E (c_X8_isLetter l D cy T (v_0) s0_21   r_s0_21 ) ms_X8_isLetter ml_X5_47 hK hw hA ⟨Nat.le_of_ble_eq_true rfl, Nat.le_of_ble_eq_true rfl⟩ ⟨Nat.le_of_ble_eq_true rfl, Nat.le_of_ble_eq_true rfl⟩ (As := [.int (J s0_21)]) (rest := []) rfl rfl hl.1 (Nat.le_of_ble_eq_true rfl) 28 rfl dX5_scanToken_25 (fun zz3_ v_3 H locs rr3_ hq3_ hw => ?_)
    obtain ⟨ev3_, hh3_⟩ := hq3_
    rw [ev3_] at hw; clear ev3_
    refine j_if_eq E 31 75 rfl rr3_ dX5_scanToken_28 (by decide) (fun cc4_ => ?_) (fun cc4_ => ?_)
    · refine j_iload E 77 rfl dX5_scanToken_75 (lv_at hl 0 rfl) ?_
      refine kS_i E (c_X8_isDigit l D cy T (v_0) s0_21   r_s0_21 ) ms_X8_isDigit ml_X5_58 hK hw hA ⟨Nat.le_of_ble_eq_true rfl, Nat.le_of_ble_eq_true rfl⟩ ⟨Nat.le_of_ble_eq_true rfl, Nat.le_of_ble_eq_true rfl⟩ (As := [.int (J s0_21)]) (rest := []) rfl rfl hl.1 (Nat.le_of_ble_eq_true rfl) 80 rfl dX5_scanToken_77 (fun zz5_ v_5 H locs rr5_ hq5_ hw => ?_)
      obtain ⟨ev5_, hh5_⟩ := hq5_
      rw [ev5_] at hw; clear ev5_
      refine j_if_eq E 83 155 rfl rr5_ dX5_scanToken_80 (by decide) (fun cc6_ => ?_) (fun cc6_ => ?_)
      · refine j_aload_n E 156 rfl dX5_scanToken_155 rfl (lv_at hl 1 rfl) ?_
        refine j_iload E 158 rfl dX5_scanToken_156 (lv_at hl 0 rfl) ?_
        refine kS_i E (c_X8_isSign l D cy T (v_0) s0_21   r_s0_21 ) ms_X8_isSign ml_X5_61 hK hw hA ⟨Nat.le_of_ble_eq_true rfl, Nat.le_of_ble_eq_true rfl⟩ ⟨Nat.le_of_ble_eq_true rfl, Nat.le_of_ble_eq_true rfl⟩ (As := [.int (J s0_21)]) (rest := [.ref o]) rfl rfl hl.1 (Nat.le_of_ble_eq_true rfl) 161 rfl dX5_scanToken_158 (fun zz7_ v_7 H locs rr7_ hq7_ hw => ?_)
        obtain ⟨ev7_, hh7_⟩ := hq7_
        rw [ev7_] at hw; clear ev7_
        refine j_if_eq E 164 169 rfl rr7_ dX5_scanToken_161 (by decide) (fun cc8_ => ?_) (fun cc8_ => ?_)
        · refine j_iconst E 170 rfl dX5_scanToken_169 ?_
          refine j_iconst E 171 rfl dX5_scanToken_170 ?_
          refine j_iload_n E 172 rfl dX5_scanToken_171 rfl (lv_at hl 3 rfl) ?_
          refine kV_v E (c_X5_keep l D cy T (v_0) o 2 0 v_f  t_o (rr (by decide)) (rr (by decide)) r_v_f (show 0 ≤ ((v_0 123) o) ∧ ((v_0 123) o) ≤ 400 from by omega)) mt_X5_keep ml_X5_54 hK hw (cw_rc6 hK hw.1 t_o) hA ⟨Nat.le_of_ble_eq_true rfl, Nat.le_of_ble_eq_true rfl⟩ ⟨Nat.le_of_ble_eq_true rfl, Nat.le_of_ble_eq_true rfl⟩ (As := [.int (J 2), .int (J 0), .int (J v_f)]) (rest := []) rfl rfl hl.1 (Nat.le_of_ble_eq_true rfl) 175 rfl dX5_scanToken_172 (fun v_9 H locs hq9_ hw => ?_)
          obtain ⟨y123_9, ev9_, hh9_⟩ := hq9_
          rw [ev9_] at hw; clear ev9_
          have hw : WK D cy T (upV v_0 123 y123_9) A0 s.heap H locs := cw_eq hw (by first | rfl | (funext j_; simp only [upV, reduceIte]; (repeat' split) <;> first | rfl | omega | (subst_vars; rfl)))
          have hh9_ : 0 ≤ (y123_9 o) ∧ (y123_9 o) ≤ 400 := hh9_
          refine j_iload_n E 176 rfl dX5_scanToken_175 rfl (lv_at hl 4 rfl) ?_
          exact hret 176 (v_f + 1) (upV v_0 123 y123_9) _ _ ls hw (rr (by omega)) ⟨y123_9, rfl, by first | omega | (simp only [upB_same]; omega)⟩ dX5_scanToken_176
        · refine j_iload E 166 rfl dX5_scanToken_164 (lv_at hl 0 rfl) ?_
          refine j_goto E 170 dX5_scanToken_166 (by decide) ?_
          refine j_iconst E 171 rfl dX5_scanToken_170 ?_
          refine j_iload_n E 172 rfl dX5_scanToken_171 rfl (lv_at hl 3 rfl) ?_
          refine kV_v E (c_X5_keep l D cy T (v_0) o s0_21 0 v_f  t_o r_s0_21 (rr (by decide)) r_v_f (show 0 ≤ ((v_0 123) o) ∧ ((v_0 123) o) ≤ 400 from by omega)) mt_X5_keep ml_X5_54 hK hw (cw_rc6 hK hw.1 t_o) hA ⟨Nat.le_of_ble_eq_true rfl, Nat.le_of_ble_eq_true rfl⟩ ⟨Nat.le_of_ble_eq_true rfl, Nat.le_of_ble_eq_true rfl⟩ (As := [.int (J s0_21), .int (J 0), .int (J v_f)]) (rest := []) rfl rfl hl.1 (Nat.le_of_ble_eq_true rfl) 175 rfl dX5_scanToken_172 (fun v_10 H locs hq10_ hw => ?_)
          obtain ⟨y123_10, ev10_, hh10_⟩ := hq10_
          rw [ev10_] at hw; clear ev10_
          have hw : WK D cy T (upV v_0 123 y123_10) A0 s.heap H locs := cw_eq hw (by first | rfl | (funext j_; simp only [upV, reduceIte]; (repeat' split) <;> first | rfl | omega | (subst_vars; rfl)))
          have hh10_ : 0 ≤ (y123_10 o) ∧ (y123_10 o) ≤ 400 := hh10_
          refine j_iload_n E 176 rfl dX5_scanToken_175 rfl (lv_at hl 4 rfl) ?_
          exact hret 176 (v_f + 1) (upV v_0 123 y123_10) _ _ ls hw (rr (by omega)) ⟨y123_10, rfl, by first | omega | (simp only [upB_same]; omega)⟩ dX5_scanToken_176
      · refine j_iload E 85 rfl dX5_scanToken_83 (lv_at hl 0 rfl) ?_
        refine j_bipush E 87 rfl dX5_scanToken_85 (by decide) ?_
        refine j_isub E 88 rfl dX5_scanToken_87 ?_
        refine j_norm (fun zz11_ rr11_ ee11_ => ?_)
        refine j_istore E 90 rfl [(5, .int (J zz11_)), (4, .int (J s0_21)), (0, .ref o), (1, .ref a_t), (2, .int (J v_f)), (3, .int (J (v_f + 1)))] dX5_scanToken_88 hl (by decide) rfl (fun ls hl => ?_)
        have L90_12 : ∀ (k90 : Nat) (l3_90 l5_90 : Int) (H : Heap) (locs : List Loc) (ls : Array Slot), inR l3_90 → inR l5_90 → (v_f < l3_90) → ((T 1 a_t : Int) - l3_90).toNat < k90 → WK D cy T (v_0) A0 s.heap H locs → lv_has ls 6 [(0, .ref o), (1, .ref a_t), (2, .int (J v_f)), (3, .int (J l3_90)), (4, .int (J s0_21)), (5, .int (J l5_90))] → W p l e (rmd 8 0 0) s m ar below meth c H locs 0 0 QW (F0 m 90 ls []) := by
          intro k90
          induction k90 with
          | zero =>
            intro l3_90 l5_90 H locs ls r_l3_90 r_l5_90 iv90 ms90 hw hl
            exact absurd ms90 (Nat.not_lt_zero _)
          | succ k90 ih90 =>
            intro l3_90 l5_90 H locs ls r_l3_90 r_l5_90 iv90 ms90 hw hl
            refine j_iload_n E 91 rfl dX5_scanToken_90 rfl (lv_at hl 3 rfl) ?_
            refine j_aload_n E 92 rfl dX5_scanToken_91 rfl (lv_at hl 0 rfl) ?_
            refine g_124 E hK hw fl_X5_25 t_o (v_0 124 o) rfl 95 rfl dX5_scanToken_92 (fun rr14_ => ?_)
            refine j_icmp_ge E 98 133 rfl r_l3_90 rr14_ dX5_scanToken_95 (by decide) (fun cc15_ => ?_) (fun cc15_ => ?_)
            · refine j_aload_n E 134 rfl dX5_scanToken_133 rfl (lv_at hl 0 rfl) ?_
              refine j_iload_n E 135 rfl dX5_scanToken_134 rfl (lv_at hl 3 rfl) ?_
              refine j_iload_n E 136 rfl dX5_scanToken_135 rfl (lv_at hl 2 rfl) ?_
              refine j_isub E 137 rfl dX5_scanToken_136 ?_
              refine j_norm (fun zz16_ rr16_ ee16_ => ?_)
              refine j_iconst E 138 rfl dX5_scanToken_137 ?_
              refine j_icmp_gt E 141 145 rfl rr16_ (rr (by decide)) dX5_scanToken_138 (by decide) (fun cc17_ => ?_) (fun cc17_ => ?_)
              · refine j_iconst E 146 rfl dX5_scanToken_145 ?_
                refine j_iload E 148 rfl dX5_scanToken_146 (lv_at hl 5 rfl) ?_
                refine j_iload_n E 149 rfl dX5_scanToken_148 rfl (lv_at hl 2 rfl) ?_
                refine kV_v E (c_X5_keep l D cy T (v_0) o 2 l5_90 v_f  t_o (rr (by decide)) r_l5_90 r_v_f (show 0 ≤ ((v_0 123) o) ∧ ((v_0 123) o) ≤ 400 from by omega)) mt_X5_keep ml_X5_54 hK hw (cw_rc6 hK hw.1 t_o) hA ⟨Nat.le_of_ble_eq_true rfl, Nat.le_of_ble_eq_true rfl⟩ ⟨Nat.le_of_ble_eq_true rfl, Nat.le_of_ble_eq_true rfl⟩ (As := [.int (J 2), .int (J l5_90), .int (J v_f)]) (rest := []) rfl rfl hl.1 (Nat.le_of_ble_eq_true rfl) 152 rfl dX5_scanToken_149 (fun v_18 H locs hq18_ hw => ?_)
                obtain ⟨y123_18, ev18_, hh18_⟩ := hq18_
                rw [ev18_] at hw; clear ev18_
                have hw : WK D cy T (upV v_0 123 y123_18) A0 s.heap H locs := cw_eq hw (by first | rfl | (funext j_; simp only [upV, reduceIte]; (repeat' split) <;> first | rfl | omega | (subst_vars; rfl)))
                have hh18_ : 0 ≤ (y123_18 o) ∧ (y123_18 o) ≤ 400 := hh18_
                refine j_goto E 175 dX5_scanToken_152 (by decide) ?_
                refine j_iload_n E 176 rfl dX5_scanToken_175 rfl (lv_at hl 3 rfl) ?_
                exact hret 176 l3_90 (upV v_0 123 y123_18) _ _ ls hw r_l3_90 ⟨y123_18, rfl, by first | omega | (simp only [upB_same]; omega)⟩ dX5_scanToken_176
              · refine j_iconst E 142 rfl dX5_scanToken_141 ?_
                refine j_goto E 146 dX5_scanToken_142 (by decide) ?_
                refine j_iload E 148 rfl dX5_scanToken_146 (lv_at hl 5 rfl) ?_
                refine j_iload_n E 149 rfl dX5_scanToken_148 rfl (lv_at hl 2 rfl) ?_
                refine kV_v E (c_X5_keep l D cy T (v_0) o 3 l5_90 v_f  t_o (rr (by decide)) r_l5_90 r_v_f (show 0 ≤ ((v_0 123) o) ∧ ((v_0 123) o) ≤ 400 from by omega)) mt_X5_keep ml_X5_54 hK hw (cw_rc6 hK hw.1 t_o) hA ⟨Nat.le_of_ble_eq_true rfl, Nat.le_of_ble_eq_true rfl⟩ ⟨Nat.le_of_ble_eq_true rfl, Nat.le_of_ble_eq_true rfl⟩ (As := [.int (J 3), .int (J l5_90), .int (J v_f)]) (rest := []) rfl rfl hl.1 (Nat.le_of_ble_eq_true rfl) 152 rfl dX5_scanToken_149 (fun v_19 H locs hq19_ hw => ?_)
                obtain ⟨y123_19, ev19_, hh19_⟩ := hq19_
                rw [ev19_] at hw; clear ev19_
                have hw : WK D cy T (upV v_0 123 y123_19) A0 s.heap H locs := cw_eq hw (by first | rfl | (funext j_; simp only [upV, reduceIte]; (repeat' split) <;> first | rfl | omega | (subst_vars; rfl)))
                have hh19_ : 0 ≤ (y123_19 o) ∧ (y123_19 o) ≤ 400 := hh19_
                refine j_goto E 175 dX5_scanToken_152 (by decide) ?_
                refine j_iload_n E 176 rfl dX5_scanToken_175 rfl (lv_at hl 3 rfl) ?_
                exact hret 176 l3_90 (upV v_0 123 y123_19) _ _ ls hw r_l3_90 ⟨y123_19, rfl, by first | omega | (simp only [upB_same]; omega)⟩ dX5_scanToken_176
            · refine j_iload_n E 99 rfl dX5_scanToken_98 rfl (lv_at hl 3 rfl) ?_
              refine j_aload_n E 100 rfl dX5_scanToken_99 rfl (lv_at hl 1 rfl) ?_
              refine a_ln23 E hK hw t_t 101 rfl dX5_scanToken_100 (fun rr20_ => ?_)
              refine j_icmp_ge E 104 133 rfl r_l3_90 rr20_ dX5_scanToken_101 (by decide) (fun cc21_ => ?_) (fun cc21_ => ?_)
              · refine j_aload_n E 134 rfl dX5_scanToken_133 rfl (lv_at hl 0 rfl) ?_
                refine j_iload_n E 135 rfl dX5_scanToken_134 rfl (lv_at hl 3 rfl) ?_
                refine j_iload_n E 136 rfl dX5_scanToken_135 rfl (lv_at hl 2 rfl) ?_
                refine j_isub E 137 rfl dX5_scanToken_136 ?_
                refine j_norm (fun zz22_ rr22_ ee22_ => ?_)
                refine j_iconst E 138 rfl dX5_scanToken_137 ?_
                refine j_icmp_gt E 141 145 rfl rr22_ (rr (by decide)) dX5_scanToken_138 (by decide) (fun cc23_ => ?_) (fun cc23_ => ?_)
                · refine j_iconst E 146 rfl dX5_scanToken_145 ?_
                  refine j_iload E 148 rfl dX5_scanToken_146 (lv_at hl 5 rfl) ?_
                  refine j_iload_n E 149 rfl dX5_scanToken_148 rfl (lv_at hl 2 rfl) ?_
                  refine kV_v E (c_X5_keep l D cy T (v_0) o 2 l5_90 v_f  t_o (rr (by decide)) r_l5_90 r_v_f (show 0 ≤ ((v_0 123) o) ∧ ((v_0 123) o) ≤ 400 from by omega)) mt_X5_keep ml_X5_54 hK hw (cw_rc6 hK hw.1 t_o) hA ⟨Nat.le_of_ble_eq_true rfl, Nat.le_of_ble_eq_true rfl⟩ ⟨Nat.le_of_ble_eq_true rfl, Nat.le_of_ble_eq_true rfl⟩ (As := [.int (J 2), .int (J l5_90), .int (J v_f)]) (rest := []) rfl rfl hl.1 (Nat.le_of_ble_eq_true rfl) 152 rfl dX5_scanToken_149 (fun v_24 H locs hq24_ hw => ?_)
                  obtain ⟨y123_24, ev24_, hh24_⟩ := hq24_
                  rw [ev24_] at hw; clear ev24_
                  have hw : WK D cy T (upV v_0 123 y123_24) A0 s.heap H locs := cw_eq hw (by first | rfl | (funext j_; simp only [upV, reduceIte]; (repeat' split) <;> first | rfl | omega | (subst_vars; rfl)))
                  have hh24_ : 0 ≤ (y123_24 o) ∧ (y123_24 o) ≤ 400 := hh24_
                  refine j_goto E 175 dX5_scanToken_152 (by decide) ?_
                  refine j_iload_n E 176 rfl dX5_scanToken_175 rfl (lv_at hl 3 rfl) ?_
                  exact hret 176 l3_90 (upV v_0 123 y123_24) _ _ ls hw r_l3_90 ⟨y123_24, rfl, by first | omega | (simp only [upB_same]; omega)⟩ dX5_scanToken_176
                · refine j_iconst E 142 rfl dX5_scanToken_141 ?_
                  refine j_goto E 146 dX5_scanToken_142 (by decide) ?_
                  refine j_iload E 148 rfl dX5_scanToken_146 (lv_at hl 5 rfl) ?_
                  refine j_iload_n E 149 rfl dX5_scanToken_148 rfl (lv_at hl 2 rfl) ?_
                  refine kV_v E (c_X5_keep l D cy T (v_0) o 3 l5_90 v_f  t_o (rr (by decide)) r_l5_90 r_v_f (show 0 ≤ ((v_0 123) o) ∧ ((v_0 123) o) ≤ 400 from by omega)) mt_X5_keep ml_X5_54 hK hw (cw_rc6 hK hw.1 t_o) hA ⟨Nat.le_of_ble_eq_true rfl, Nat.le_of_ble_eq_true rfl⟩ ⟨Nat.le_of_ble_eq_true rfl, Nat.le_of_ble_eq_true rfl⟩ (As := [.int (J 3), .int (J l5_90), .int (J v_f)]) (rest := []) rfl rfl hl.1 (Nat.le_of_ble_eq_true rfl) 152 rfl dX5_scanToken_149 (fun v_25 H locs hq25_ hw => ?_)
                  obtain ⟨y123_25, ev25_, hh25_⟩ := hq25_
                  rw [ev25_] at hw; clear ev25_
                  have hw : WK D cy T (upV v_0 123 y123_25) A0 s.heap H locs := cw_eq hw (by first | rfl | (funext j_; simp only [upV, reduceIte]; (repeat' split) <;> first | rfl | omega | (subst_vars; rfl)))
                  have hh25_ : 0 ≤ (y123_25 o) ∧ (y123_25 o) ≤ 400 := hh25_
                  refine j_goto E 175 dX5_scanToken_152 (by decide) ?_
                  refine j_iload_n E 176 rfl dX5_scanToken_175 rfl (lv_at hl 3 rfl) ?_
                  exact hret 176 l3_90 (upV v_0 123 y123_25) _ _ ls hw r_l3_90 ⟨y123_25, rfl, by first | omega | (simp only [upB_same]; omega)⟩ dX5_scanToken_176
              · refine j_aload_n E 105 rfl dX5_scanToken_104 rfl (lv_at hl 1 rfl) ?_
                refine j_iload_n E 106 rfl dX5_scanToken_105 rfl (lv_at hl 3 rfl) ?_
                refine a_ld23 E hK hw t_t (by omega) 107 rfl dX5_scanToken_106 (fun zz26_ rr26_ => ?_)
                refine kS_i E (c_X8_isDigit l D cy T (v_0) zz26_   rr26_ ) ms_X8_isDigit ml_X5_58 hK hw hA ⟨Nat.le_of_ble_eq_true rfl, Nat.le_of_ble_eq_true rfl⟩ ⟨Nat.le_of_ble_eq_true rfl, Nat.le_of_ble_eq_true rfl⟩ (As := [.int (J zz26_)]) (rest := []) rfl rfl hl.1 (Nat.le_of_ble_eq_true rfl) 110 rfl dX5_scanToken_107 (fun zz27_ v_27 H locs rr27_ hq27_ hw => ?_)
                obtain ⟨ev27_, hh27_⟩ := hq27_
                rw [ev27_] at hw; clear ev27_
                refine j_if_eq E 113 133 rfl rr27_ dX5_scanToken_110 (by decide) (fun cc28_ => ?_) (fun cc28_ => ?_)
                · refine j_aload_n E 134 rfl dX5_scanToken_133 rfl (lv_at hl 0 rfl) ?_
                  refine j_iload_n E 135 rfl dX5_scanToken_134 rfl (lv_at hl 3 rfl) ?_
                  refine j_iload_n E 136 rfl dX5_scanToken_135 rfl (lv_at hl 2 rfl) ?_
                  refine j_isub E 137 rfl dX5_scanToken_136 ?_
                  refine j_norm (fun zz29_ rr29_ ee29_ => ?_)
                  refine j_iconst E 138 rfl dX5_scanToken_137 ?_
                  refine j_icmp_gt E 141 145 rfl rr29_ (rr (by decide)) dX5_scanToken_138 (by decide) (fun cc30_ => ?_) (fun cc30_ => ?_)
                  · refine j_iconst E 146 rfl dX5_scanToken_145 ?_
                    refine j_iload E 148 rfl dX5_scanToken_146 (lv_at hl 5 rfl) ?_
                    refine j_iload_n E 149 rfl dX5_scanToken_148 rfl (lv_at hl 2 rfl) ?_
                    refine kV_v E (c_X5_keep l D cy T (v_0) o 2 l5_90 v_f  t_o (rr (by decide)) r_l5_90 r_v_f (show 0 ≤ ((v_0 123) o) ∧ ((v_0 123) o) ≤ 400 from by omega)) mt_X5_keep ml_X5_54 hK hw (cw_rc6 hK hw.1 t_o) hA ⟨Nat.le_of_ble_eq_true rfl, Nat.le_of_ble_eq_true rfl⟩ ⟨Nat.le_of_ble_eq_true rfl, Nat.le_of_ble_eq_true rfl⟩ (As := [.int (J 2), .int (J l5_90), .int (J v_f)]) (rest := []) rfl rfl hl.1 (Nat.le_of_ble_eq_true rfl) 152 rfl dX5_scanToken_149 (fun v_31 H locs hq31_ hw => ?_)
                    obtain ⟨y123_31, ev31_, hh31_⟩ := hq31_
                    rw [ev31_] at hw; clear ev31_
                    have hw : WK D cy T (upV v_0 123 y123_31) A0 s.heap H locs := cw_eq hw (by first | rfl | (funext j_; simp only [upV, reduceIte]; (repeat' split) <;> first | rfl | omega | (subst_vars; rfl)))
                    have hh31_ : 0 ≤ (y123_31 o) ∧ (y123_31 o) ≤ 400 := hh31_
                    refine j_goto E 175 dX5_scanToken_152 (by decide) ?_
                    refine j_iload_n E 176 rfl dX5_scanToken_175 rfl (lv_at hl 3 rfl) ?_
                    exact hret 176 l3_90 (upV v_0 123 y123_31) _ _ ls hw r_l3_90 ⟨y123_31, rfl, by first | omega | (simp only [upB_same]; omega)⟩ dX5_scanToken_176
                  · refine j_iconst E 142 rfl dX5_scanToken_141 ?_
                    refine j_goto E 146 dX5_scanToken_142 (by decide) ?_
                    refine j_iload E 148 rfl dX5_scanToken_146 (lv_at hl 5 rfl) ?_
                    refine j_iload_n E 149 rfl dX5_scanToken_148 rfl (lv_at hl 2 rfl) ?_
                    refine kV_v E (c_X5_keep l D cy T (v_0) o 3 l5_90 v_f  t_o (rr (by decide)) r_l5_90 r_v_f (show 0 ≤ ((v_0 123) o) ∧ ((v_0 123) o) ≤ 400 from by omega)) mt_X5_keep ml_X5_54 hK hw (cw_rc6 hK hw.1 t_o) hA ⟨Nat.le_of_ble_eq_true rfl, Nat.le_of_ble_eq_true rfl⟩ ⟨Nat.le_of_ble_eq_true rfl, Nat.le_of_ble_eq_true rfl⟩ (As := [.int (J 3), .int (J l5_90), .int (J v_f)]) (rest := []) rfl rfl hl.1 (Nat.le_of_ble_eq_true rfl) 152 rfl dX5_scanToken_149 (fun v_32 H locs hq32_ hw => ?_)
                    obtain ⟨y123_32, ev32_, hh32_⟩ := hq32_
                    rw [ev32_] at hw; clear ev32_
                    have hw : WK D cy T (upV v_0 123 y123_32) A0 s.heap H locs := cw_eq hw (by first | rfl | (funext j_; simp only [upV, reduceIte]; (repeat' split) <;> first | rfl | omega | (subst_vars; rfl)))
                    have hh32_ : 0 ≤ (y123_32 o) ∧ (y123_32 o) ≤ 400 := hh32_
                    refine j_goto E 175 dX5_scanToken_152 (by decide) ?_
                    refine j_iload_n E 176 rfl dX5_scanToken_175 rfl (lv_at hl 3 rfl) ?_
                    exact hret 176 l3_90 (upV v_0 123 y123_32) _ _ ls hw r_l3_90 ⟨y123_32, rfl, by first | omega | (simp only [upB_same]; omega)⟩ dX5_scanToken_176
                · refine j_iload E 115 rfl dX5_scanToken_113 (lv_at hl 5 rfl) ?_
                  refine j_bipush E 117 rfl dX5_scanToken_115 (by decide) ?_
                  refine j_imul E 118 rfl dX5_scanToken_117 ?_
                  refine j_norm (fun zz33_ rr33_ ee33_ => ?_)
                  refine j_aload_n E 119 rfl dX5_scanToken_118 rfl (lv_at hl 1 rfl) ?_
                  refine j_iload_n E 120 rfl dX5_scanToken_119 rfl (lv_at hl 3 rfl) ?_
                  refine a_ld23 E hK hw t_t (by omega) 121 rfl dX5_scanToken_120 (fun zz34_ rr34_ => ?_)
                  refine j_bipush E 123 rfl dX5_scanToken_121 (by decide) ?_
                  refine j_isub E 124 rfl dX5_scanToken_123 ?_
                  refine j_norm (fun zz35_ rr35_ ee35_ => ?_)
                  refine j_iadd E 125 rfl dX5_scanToken_124 ?_
                  refine j_norm (fun zz36_ rr36_ ee36_ => ?_)
                  refine j_istore E 127 rfl [(5, .int (J zz36_)), (0, .ref o), (1, .ref a_t), (2, .int (J v_f)), (3, .int (J l3_90)), (4, .int (J s0_21))] dX5_scanToken_125 hl (by decide) rfl (fun ls hl => ?_)
                  refine j_iinc E 130 rfl [(3, .int (J (l3_90 + 1))), (5, .int (J zz36_)), (0, .ref o), (1, .ref a_t), (2, .int (J v_f)), (4, .int (J s0_21))] dX5_scanToken_127 hl (kk := 4) rfl (by decide) rfl (fun ls hl => ?_)
                  refine j_goto E 90 dX5_scanToken_130 (by decide) ?_
                  exact ih90 (l3_90 + 1) zz36_  H locs ls (rr (by omega)) rr36_ (by omega) (by omega) hw (lv_sub hl [2, 3, 4, 0, 5, 1] rfl)
        exact L90_12 _ (v_f + 1) zz11_  H locs ls (rr (by omega)) rr11_ (by omega) (Nat.lt_succ_self _) hw (lv_sub hl [2, 3, 4, 5, 1, 0] rfl)
    · have L31_37 : ∀ (k31 : Nat) (l3_31 : Int) (H : Heap) (locs : List Loc) (ls : Array Slot), inR l3_31 → (v_f < l3_31) → ((T 1 a_t : Int) - l3_31).toNat < k31 → WK D cy T (v_0) A0 s.heap H locs → lv_has ls 6 [(0, .ref o), (1, .ref a_t), (2, .int (J v_f)), (3, .int (J l3_31)), (4, .int (J s0_21))] → W p l e (rmd 8 0 0) s m ar below meth c H locs 0 0 QW (F0 m 31 ls []) := by
        intro k31
        induction k31 with
        | zero =>
          intro l3_31 H locs ls r_l3_31 iv31 ms31 hw hl
          exact absurd ms31 (Nat.not_lt_zero _)
        | succ k31 ih31 =>
          intro l3_31 H locs ls r_l3_31 iv31 ms31 hw hl
          refine j_iload_n E 32 rfl dX5_scanToken_31 rfl (lv_at hl 3 rfl) ?_
          refine j_aload_n E 33 rfl dX5_scanToken_32 rfl (lv_at hl 0 rfl) ?_
          refine g_124 E hK hw fl_X5_25 t_o (v_0 124 o) rfl 36 rfl dX5_scanToken_33 (fun rr39_ => ?_)
          refine j_icmp_ge E 39 60 rfl r_l3_31 rr39_ dX5_scanToken_36 (by decide) (fun cc40_ => ?_) (fun cc40_ => ?_)
          · refine j_aload_n E 61 rfl dX5_scanToken_60 rfl (lv_at hl 0 rfl) ?_
            refine j_aload_n E 62 rfl dX5_scanToken_61 rfl (lv_at hl 1 rfl) ?_
            refine j_iload_n E 63 rfl dX5_scanToken_62 rfl (lv_at hl 2 rfl) ?_
            refine j_iload_n E 64 rfl dX5_scanToken_63 rfl (lv_at hl 3 rfl) ?_
            refine zS_i E (c_X8_keywordIn l D cy T (v_0) κ a_t v_f l3_31  hO  t_t r_v_f r_l3_31 (show 0 ≤ v_f ∧ v_f ≤ l3_31 from by omega)) ms_X8_keywordIn ml_X5_50 hK hZ hAc hw hA ⟨Nat.le_of_ble_eq_true rfl, Nat.le_of_ble_eq_true rfl⟩ ⟨Nat.le_of_ble_eq_true rfl, Nat.le_of_ble_eq_true rfl⟩ (As := [.ref a_t, .int (J v_f), .int (J l3_31)]) (rest := [.ref o]) rfl rfl hl.1 (Nat.le_of_ble_eq_true rfl) 67 rfl dX5_scanToken_64 (fun zz41_ v_41 H locs rr41_ hq41_ hw => ?_)
            obtain ⟨ev41_, hh41_⟩ := hq41_
            rw [ev41_] at hw; clear ev41_
            refine j_iconst E 68 rfl dX5_scanToken_67 ?_
            refine j_iload_n E 69 rfl dX5_scanToken_68 rfl (lv_at hl 2 rfl) ?_
            refine kV_v E (c_X5_keep l D cy T (v_0) o zz41_ 0 v_f  t_o rr41_ (rr (by decide)) r_v_f (show 0 ≤ ((v_0 123) o) ∧ ((v_0 123) o) ≤ 400 from by omega)) mt_X5_keep ml_X5_54 hK hw (cw_rc6 hK hw.1 t_o) hA ⟨Nat.le_of_ble_eq_true rfl, Nat.le_of_ble_eq_true rfl⟩ ⟨Nat.le_of_ble_eq_true rfl, Nat.le_of_ble_eq_true rfl⟩ (As := [.int (J zz41_), .int (J 0), .int (J v_f)]) (rest := []) rfl rfl hl.1 (Nat.le_of_ble_eq_true rfl) 72 rfl dX5_scanToken_69 (fun v_42 H locs hq42_ hw => ?_)
            obtain ⟨y123_42, ev42_, hh42_⟩ := hq42_
            rw [ev42_] at hw; clear ev42_
            have hw : WK D cy T (upV v_0 123 y123_42) A0 s.heap H locs := cw_eq hw (by first | rfl | (funext j_; simp only [upV, reduceIte]; (repeat' split) <;> first | rfl | omega | (subst_vars; rfl)))
            have hh42_ : 0 ≤ (y123_42 o) ∧ (y123_42 o) ≤ 400 := hh42_
            refine j_goto E 175 dX5_scanToken_72 (by decide) ?_
            refine j_iload_n E 176 rfl dX5_scanToken_175 rfl (lv_at hl 3 rfl) ?_
            exact hret 176 l3_31 (upV v_0 123 y123_42) _ _ ls hw r_l3_31 ⟨y123_42, rfl, by first | omega | (simp only [upB_same]; omega)⟩ dX5_scanToken_176
          · refine j_iload_n E 40 rfl dX5_scanToken_39 rfl (lv_at hl 3 rfl) ?_
            refine j_aload_n E 41 rfl dX5_scanToken_40 rfl (lv_at hl 1 rfl) ?_
            refine a_ln23 E hK hw t_t 42 rfl dX5_scanToken_41 (fun rr43_ => ?_)
            refine j_icmp_ge E 45 60 rfl r_l3_31 rr43_ dX5_scanToken_42 (by decide) (fun cc44_ => ?_) (fun cc44_ => ?_)
            · refine j_aload_n E 61 rfl dX5_scanToken_60 rfl (lv_at hl 0 rfl) ?_
              refine j_aload_n E 62 rfl dX5_scanToken_61 rfl (lv_at hl 1 rfl) ?_
              refine j_iload_n E 63 rfl dX5_scanToken_62 rfl (lv_at hl 2 rfl) ?_
              refine j_iload_n E 64 rfl dX5_scanToken_63 rfl (lv_at hl 3 rfl) ?_
              refine zS_i E (c_X8_keywordIn l D cy T (v_0) κ a_t v_f l3_31  hO  t_t r_v_f r_l3_31 (show 0 ≤ v_f ∧ v_f ≤ l3_31 from by omega)) ms_X8_keywordIn ml_X5_50 hK hZ hAc hw hA ⟨Nat.le_of_ble_eq_true rfl, Nat.le_of_ble_eq_true rfl⟩ ⟨Nat.le_of_ble_eq_true rfl, Nat.le_of_ble_eq_true rfl⟩ (As := [.ref a_t, .int (J v_f), .int (J l3_31)]) (rest := [.ref o]) rfl rfl hl.1 (Nat.le_of_ble_eq_true rfl) 67 rfl dX5_scanToken_64 (fun zz45_ v_45 H locs rr45_ hq45_ hw => ?_)
              obtain ⟨ev45_, hh45_⟩ := hq45_
              rw [ev45_] at hw; clear ev45_
              refine j_iconst E 68 rfl dX5_scanToken_67 ?_
              refine j_iload_n E 69 rfl dX5_scanToken_68 rfl (lv_at hl 2 rfl) ?_
              refine kV_v E (c_X5_keep l D cy T (v_0) o zz45_ 0 v_f  t_o rr45_ (rr (by decide)) r_v_f (show 0 ≤ ((v_0 123) o) ∧ ((v_0 123) o) ≤ 400 from by omega)) mt_X5_keep ml_X5_54 hK hw (cw_rc6 hK hw.1 t_o) hA ⟨Nat.le_of_ble_eq_true rfl, Nat.le_of_ble_eq_true rfl⟩ ⟨Nat.le_of_ble_eq_true rfl, Nat.le_of_ble_eq_true rfl⟩ (As := [.int (J zz45_), .int (J 0), .int (J v_f)]) (rest := []) rfl rfl hl.1 (Nat.le_of_ble_eq_true rfl) 72 rfl dX5_scanToken_69 (fun v_46 H locs hq46_ hw => ?_)
              obtain ⟨y123_46, ev46_, hh46_⟩ := hq46_
              rw [ev46_] at hw; clear ev46_
              have hw : WK D cy T (upV v_0 123 y123_46) A0 s.heap H locs := cw_eq hw (by first | rfl | (funext j_; simp only [upV, reduceIte]; (repeat' split) <;> first | rfl | omega | (subst_vars; rfl)))
              have hh46_ : 0 ≤ (y123_46 o) ∧ (y123_46 o) ≤ 400 := hh46_
              refine j_goto E 175 dX5_scanToken_72 (by decide) ?_
              refine j_iload_n E 176 rfl dX5_scanToken_175 rfl (lv_at hl 3 rfl) ?_
              exact hret 176 l3_31 (upV v_0 123 y123_46) _ _ ls hw r_l3_31 ⟨y123_46, rfl, by first | omega | (simp only [upB_same]; omega)⟩ dX5_scanToken_176
            · refine j_aload_n E 46 rfl dX5_scanToken_45 rfl (lv_at hl 1 rfl) ?_
              refine j_iload_n E 47 rfl dX5_scanToken_46 rfl (lv_at hl 3 rfl) ?_
              refine a_ld23 E hK hw t_t (by omega) 48 rfl dX5_scanToken_47 (fun zz47_ rr47_ => ?_)
              refine kS_i E (c_X8_isLetter l D cy T (v_0) zz47_   rr47_ ) ms_X8_isLetter ml_X5_47 hK hw hA ⟨Nat.le_of_ble_eq_true rfl, Nat.le_of_ble_eq_true rfl⟩ ⟨Nat.le_of_ble_eq_true rfl, Nat.le_of_ble_eq_true rfl⟩ (As := [.int (J zz47_)]) (rest := []) rfl rfl hl.1 (Nat.le_of_ble_eq_true rfl) 51 rfl dX5_scanToken_48 (fun zz48_ v_48 H locs rr48_ hq48_ hw => ?_)
              obtain ⟨ev48_, hh48_⟩ := hq48_
              rw [ev48_] at hw; clear ev48_
              refine j_if_eq E 54 60 rfl rr48_ dX5_scanToken_51 (by decide) (fun cc49_ => ?_) (fun cc49_ => ?_)
              · refine j_aload_n E 61 rfl dX5_scanToken_60 rfl (lv_at hl 0 rfl) ?_
                refine j_aload_n E 62 rfl dX5_scanToken_61 rfl (lv_at hl 1 rfl) ?_
                refine j_iload_n E 63 rfl dX5_scanToken_62 rfl (lv_at hl 2 rfl) ?_
                refine j_iload_n E 64 rfl dX5_scanToken_63 rfl (lv_at hl 3 rfl) ?_
                refine zS_i E (c_X8_keywordIn l D cy T (v_0) κ a_t v_f l3_31  hO  t_t r_v_f r_l3_31 (show 0 ≤ v_f ∧ v_f ≤ l3_31 from by omega)) ms_X8_keywordIn ml_X5_50 hK hZ hAc hw hA ⟨Nat.le_of_ble_eq_true rfl, Nat.le_of_ble_eq_true rfl⟩ ⟨Nat.le_of_ble_eq_true rfl, Nat.le_of_ble_eq_true rfl⟩ (As := [.ref a_t, .int (J v_f), .int (J l3_31)]) (rest := [.ref o]) rfl rfl hl.1 (Nat.le_of_ble_eq_true rfl) 67 rfl dX5_scanToken_64 (fun zz50_ v_50 H locs rr50_ hq50_ hw => ?_)
                obtain ⟨ev50_, hh50_⟩ := hq50_
                rw [ev50_] at hw; clear ev50_
                refine j_iconst E 68 rfl dX5_scanToken_67 ?_
                refine j_iload_n E 69 rfl dX5_scanToken_68 rfl (lv_at hl 2 rfl) ?_
                refine kV_v E (c_X5_keep l D cy T (v_0) o zz50_ 0 v_f  t_o rr50_ (rr (by decide)) r_v_f (show 0 ≤ ((v_0 123) o) ∧ ((v_0 123) o) ≤ 400 from by omega)) mt_X5_keep ml_X5_54 hK hw (cw_rc6 hK hw.1 t_o) hA ⟨Nat.le_of_ble_eq_true rfl, Nat.le_of_ble_eq_true rfl⟩ ⟨Nat.le_of_ble_eq_true rfl, Nat.le_of_ble_eq_true rfl⟩ (As := [.int (J zz50_), .int (J 0), .int (J v_f)]) (rest := []) rfl rfl hl.1 (Nat.le_of_ble_eq_true rfl) 72 rfl dX5_scanToken_69 (fun v_51 H locs hq51_ hw => ?_)
                obtain ⟨y123_51, ev51_, hh51_⟩ := hq51_
                rw [ev51_] at hw; clear ev51_
                have hw : WK D cy T (upV v_0 123 y123_51) A0 s.heap H locs := cw_eq hw (by first | rfl | (funext j_; simp only [upV, reduceIte]; (repeat' split) <;> first | rfl | omega | (subst_vars; rfl)))
                have hh51_ : 0 ≤ (y123_51 o) ∧ (y123_51 o) ≤ 400 := hh51_
                refine j_goto E 175 dX5_scanToken_72 (by decide) ?_
                refine j_iload_n E 176 rfl dX5_scanToken_175 rfl (lv_at hl 3 rfl) ?_
                exact hret 176 l3_31 (upV v_0 123 y123_51) _ _ ls hw r_l3_31 ⟨y123_51, rfl, by first | omega | (simp only [upB_same]; omega)⟩ dX5_scanToken_176
              · refine j_iinc E 57 rfl [(3, .int (J (l3_31 + 1))), (0, .ref o), (1, .ref a_t), (2, .int (J v_f)), (4, .int (J s0_21))] dX5_scanToken_54 hl (kk := 3) rfl (by decide) rfl (fun ls hl => ?_)
                refine j_goto E 31 dX5_scanToken_57 (by decide) ?_
                exact ih31 (l3_31 + 1)  H locs ls (rr (by omega)) (by omega) (by omega) hw (lv_sub hl [1, 2, 3, 0, 4] rfl)
      exact L31_37 _ (v_f + 1)  H locs ls (rr (by omega)) (by omega) (Nat.lt_succ_self _) hw (lv_sub hl [1, 2, 3, 4, 0] rfl)
  refine j_iload_n E 5 rfl dX5_scanToken_4 rfl (lv_at hl 3 rfl) ?_
  refine j_if_lt E 8 20 rfl r_v_f dX5_scanToken_5 (by decide) (fun cc52_ => ?_) (fun cc52_ => ?_)
  · refine j_iconst E 21 rfl dX5_scanToken_20 ?_
    exact L21_1 0  H locs ls (rr (by decide)) (trivial) hw (lv_sub hl [1, 2, 3, 0] rfl)
  · refine j_iload_n E 9 rfl dX5_scanToken_8 rfl (lv_at hl 3 rfl) ?_
    refine j_aload_n E 10 rfl dX5_scanToken_9 rfl (lv_at hl 2 rfl) ?_
    refine a_ln23 E hK hw t_t 11 rfl dX5_scanToken_10 (fun rr53_ => ?_)
    refine j_icmp_ge E 14 20 rfl r_v_f rr53_ dX5_scanToken_11 (by decide) (fun cc54_ => ?_) (fun cc54_ => ?_)
    · refine j_iconst E 21 rfl dX5_scanToken_20 ?_
      exact L21_1 0  H locs ls (rr (by decide)) (trivial) hw (lv_sub hl [1, 2, 3, 0] rfl)
    · refine j_aload_n E 15 rfl dX5_scanToken_14 rfl (lv_at hl 2 rfl) ?_
      refine j_iload_n E 16 rfl dX5_scanToken_15 rfl (lv_at hl 3 rfl) ?_
      refine a_ld23 E hK hw t_t (by omega) 17 rfl dX5_scanToken_16 (fun zz55_ rr55_ => ?_)
      refine j_goto E 21 dX5_scanToken_17 (by decide) ?_
      exact L21_1 zz55_  H locs ls rr55_ (trivial) hw (lv_sub hl [1, 2, 3, 0] rfl)
set_option maxHeartbeats 4000000 in
set_option maxRecDepth 100000 in
theorem c_X5_scan (l : Launch) (D : va_G) (cy : Nat → ClassId) (T : Nat → Nat → Nat) (v_0 : Nat → Nat → Int) (κ : Nat → Nat → Nat) (o : Nat) (a_t : Nat) (v_n : Int) (hO : ∀ x, ow T x → κ 2 2 ≤ x) (t_o : T 0 o = 6) (t_t : T 0 a_t = 23) (r_v_n : inR v_n) : KZ l D cy κ T yX5_scan cX5_scan 5 none 9 [.ref o, .ref a_t, .int (J v_n)] v_0 (KV (fun (v_2 : Nat → Nat → Int) => ∃ (y123_2 : Nat → Int) (y124_2 : Nat → Int) , v_2 = upV (upV v_0 123 y123_2) 124 y124_2 ∧ (0 ≤ (y123_2 o) ∧ (y123_2 o) ≤ 400))) := by
  refine KZ.ofv (by decide) (Nat.le_of_ble_eq_true rfl) hO ?_
  intro p e s m below meth c ls ar QW A0 H locs E hK hZ hA hAc hw hl hret
  have hl : lv_has ls 5 [(0, .ref o), (1, .ref a_t), (2, .int (J v_n))] := hl
  have hT : WT T := hw.1.2.1
  refine j_aload_n E 1 rfl dX5_scan_0 rfl (lv_at hl 0 rfl) ?_
  refine j_iconst E 2 rfl dX5_scan_1 ?_
  refine p_123 E hK hw fl_X5_21 t_o (rr (by decide)) 5 rfl dX5_scan_2 (fun H locs hw => ?_)
  have hw : WK D cy T (upV v_0 123 (upB (v_0 123) o 0)) A0 s.heap H locs := cw_eq hw (by first | rfl | (funext j_; simp only [upV, reduceIte]; (repeat' split) <;> first | rfl | omega | (subst_vars; rfl)))
  refine j_aload_n E 6 rfl dX5_scan_5 rfl (lv_at hl 0 rfl) ?_
  refine j_iconst E 7 rfl dX5_scan_6 ?_
  refine j_iload_n E 8 rfl dX5_scan_7 rfl (lv_at hl 2 rfl) ?_
  refine j_aload_n E 9 rfl dX5_scan_8 rfl (lv_at hl 1 rfl) ?_
  refine a_ln23 E hK hw t_t 10 rfl dX5_scan_9 (fun rr2_ => ?_)
  refine j_min E hl.1 ml_X5_28 r_v_n rr2_ ⟨Nat.le_of_ble_eq_true rfl, Nat.le_of_ble_eq_true rfl⟩ ⟨Nat.le_of_ble_eq_true rfl, Nat.le_of_ble_eq_true rfl⟩ 13 rfl dX5_scan_10 (fun zz3_ rr3_ hh3_ => ?_)
  refine j_max E hl.1 ml_X5_34 (rr (by decide)) rr3_ ⟨Nat.le_of_ble_eq_true rfl, Nat.le_of_ble_eq_true rfl⟩ ⟨Nat.le_of_ble_eq_true rfl, Nat.le_of_ble_eq_true rfl⟩ 16 rfl dX5_scan_13 (fun zz4_ rr4_ hh4_ => ?_)
  refine p_124 E hK hw fl_X5_25 t_o rr4_ 19 rfl dX5_scan_16 (fun H locs hw => ?_)
  have hw : WK D cy T (upV (upV v_0 123 (upB (v_0 123) o 0)) 124 (upB (v_0 124) o zz4_)) A0 s.heap H locs := cw_eq hw (by first | rfl | (funext j_; simp only [upV, reduceIte]; (repeat' split) <;> first | rfl | omega | (subst_vars; rfl)))
  refine j_iconst E 20 rfl dX5_scan_19 ?_
  refine j_istore_n E 21 rfl [(3, .int (J 0)), (0, .ref o), (1, .ref a_t), (2, .int (J v_n))] dX5_scan_20 rfl hl (by decide) rfl (fun ls hl => ?_)
  refine j_iconst E 22 rfl dX5_scan_21 ?_
  refine j_istore E 24 rfl [(4, .int (J 0)), (3, .int (J 0)), (0, .ref o), (1, .ref a_t), (2, .int (J v_n))] dX5_scan_22 hl (by decide) rfl (fun ls hl => ?_)
  have L24_6 : ∀ (k24 : Nat) (l3_24 l4_24 : Int) (y123_c24 : Nat → Int) (H : Heap) (locs : List Loc) (ls : Array Slot), inR l3_24 → inR l4_24 → (0 ≤ l4_24 ∧ 0 ≤ (y123_c24 o) ∧ (y123_c24 o) ≤ 400) → ((T 1 a_t : Int) - l4_24).toNat < k24 → WK D cy T (upV (upV v_0 123 y123_c24) 124 (upB (v_0 124) o zz4_)) A0 s.heap H locs → lv_has ls 5 [(0, .ref o), (1, .ref a_t), (2, .int (J v_n)), (3, .int (J l3_24)), (4, .int (J l4_24))] → W p l e (rmd 9 0 0) s m ar below meth c H locs 0 0 QW (F0 m 24 ls []) := by
    intro k24
    induction k24 with
    | zero =>
      intro l3_24 l4_24 y123_c24 H locs ls r_l3_24 r_l4_24 iv24 ms24 hw hl
      exact absurd ms24 (Nat.not_lt_zero _)
    | succ k24 ih24 =>
      intro l3_24 l4_24 y123_c24 H locs ls r_l3_24 r_l4_24 iv24 ms24 hw hl
      refine j_iload E 26 rfl dX5_scan_24 (lv_at hl 4 rfl) ?_
      refine j_aload_n E 27 rfl dX5_scan_26 rfl (lv_at hl 0 rfl) ?_
      refine g_124 E hK hw fl_X5_25 t_o zz4_ (upB_same _ _ _) 30 rfl dX5_scan_27 (fun _ => ?_)
      refine j_icmp_ge E 33 70 rfl r_l4_24 rr4_ dX5_scan_30 (by decide) (fun cc8_ => ?_) (fun cc8_ => ?_)
      · exact hret 70 (upV (upV v_0 123 y123_c24) 124 (upB (v_0 124) o zz4_)) _ _ ls hw ⟨y123_c24, (upB (v_0 124) o zz4_), rfl, by first | omega | (simp only [upB_same]; omega)⟩ dX5_scan_70
      · refine j_iload E 35 rfl dX5_scan_33 (lv_at hl 4 rfl) ?_
        refine j_iload_n E 36 rfl dX5_scan_35 rfl (lv_at hl 3 rfl) ?_
        refine j_icmp_lt E 39 64 rfl r_l4_24 r_l3_24 dX5_scan_36 (by decide) (fun cc9_ => ?_) (fun cc9_ => ?_)
        · refine j_iinc E 67 rfl [(4, .int (J (l4_24 + 1))), (0, .ref o), (1, .ref a_t), (2, .int (J v_n)), (3, .int (J l3_24))] dX5_scan_64 hl (kk := 4) rfl (by decide) rfl (fun ls hl => ?_)
          refine j_goto E 24 dX5_scan_67 (by decide) ?_
          exact ih24 l3_24 (l4_24 + 1) y123_c24 H locs ls r_l3_24 (rr (by omega)) (by omega) (by omega) hw (lv_sub hl [1, 2, 3, 4, 0] rfl)
        · refine j_aload_n E 40 rfl dX5_scan_39 rfl (lv_at hl 1 rfl) ?_
          refine j_iload E 42 rfl dX5_scan_40 (lv_at hl 4 rfl) ?_
          refine a_ld23 E hK hw t_t (by omega) 43 rfl dX5_scan_42 (fun zz10_ rr10_ => ?_)
          refine kS_i E (c_X8_isBlank l D cy T (upV (upV v_0 123 y123_c24) 124 (upB (v_0 124) o zz4_)) zz10_   rr10_ ) ms_X8_isBlank ml_X5_37 hK hw hA ⟨Nat.le_of_ble_eq_true rfl, Nat.le_of_ble_eq_true rfl⟩ ⟨Nat.le_of_ble_eq_true rfl, Nat.le_of_ble_eq_true rfl⟩ (As := [.int (J zz10_)]) (rest := []) rfl rfl hl.1 (Nat.le_of_ble_eq_true rfl) 46 rfl dX5_scan_43 (fun zz11_ v_11 H locs rr11_ hq11_ hw => ?_)
          obtain ⟨ev11_, hh11_⟩ := hq11_
          rw [ev11_] at hw; clear ev11_
          refine j_if_eq E 49 56 rfl rr11_ dX5_scan_46 (by decide) (fun cc12_ => ?_) (fun cc12_ => ?_)
          · refine j_aload_n E 57 rfl dX5_scan_56 rfl (lv_at hl 0 rfl) ?_
            refine j_aload_n E 58 rfl dX5_scan_57 rfl (lv_at hl 1 rfl) ?_
            refine j_iload E 60 rfl dX5_scan_58 (lv_at hl 4 rfl) ?_
            refine zV_i E (c_X5_scanToken l D cy T (upV (upV v_0 123 y123_c24) 124 (upB (v_0 124) o zz4_)) κ o a_t l4_24  hO t_o t_t r_l4_24 (show 0 ≤ (y123_c24 o) ∧ (y123_c24 o) ≤ 400 ∧ 0 ≤ l4_24 ∧ l4_24 < 2147483647 from by omega)) mt_X5_scanToken ml_X5_43 hK hZ hAc hw (cw_rc6 hK hw.1 t_o) hA ⟨Nat.le_of_ble_eq_true rfl, Nat.le_of_ble_eq_true rfl⟩ ⟨Nat.le_of_ble_eq_true rfl, Nat.le_of_ble_eq_true rfl⟩ (As := [.ref a_t, .int (J l4_24)]) (rest := []) rfl rfl hl.1 (Nat.le_of_ble_eq_true rfl) 63 rfl dX5_scan_60 (fun zz13_ v_13 H locs rr13_ hq13_ hw => ?_)
            obtain ⟨y123_13, ev13_, hh13_⟩ := hq13_
            rw [ev13_] at hw; clear ev13_
            have hw : WK D cy T (upV (upV v_0 123 y123_13) 124 (upB (v_0 124) o zz4_)) A0 s.heap H locs := cw_eq hw (by first | rfl | (funext j_; simp only [upV, reduceIte]; (repeat' split) <;> first | rfl | omega | (subst_vars; rfl)))
            have hh13_ : 0 ≤ (y123_13 o) ∧ (y123_13 o) ≤ 400 := hh13_
            refine j_istore_n E 64 rfl [(3, .int (J zz13_)), (0, .ref o), (1, .ref a_t), (2, .int (J v_n)), (4, .int (J l4_24))] dX5_scan_63 rfl hl (by decide) rfl (fun ls hl => ?_)
            refine j_iinc E 67 rfl [(4, .int (J (l4_24 + 1))), (3, .int (J zz13_)), (0, .ref o), (1, .ref a_t), (2, .int (J v_n))] dX5_scan_64 hl (kk := 4) rfl (by decide) rfl (fun ls hl => ?_)
            refine j_goto E 24 dX5_scan_67 (by decide) ?_
            exact ih24 zz13_ (l4_24 + 1) y123_13 H locs ls rr13_ (rr (by omega)) (by omega) (by omega) hw (lv_sub hl [2, 3, 4, 1, 0] rfl)
          · refine j_iload E 51 rfl dX5_scan_49 (lv_at hl 4 rfl) ?_
            refine j_iconst E 52 rfl dX5_scan_51 ?_
            refine j_iadd E 53 rfl dX5_scan_52 ?_
            refine j_norm (fun zz14_ rr14_ ee14_ => ?_)
            refine j_goto E 63 dX5_scan_53 (by decide) ?_
            refine j_istore_n E 64 rfl [(3, .int (J zz14_)), (0, .ref o), (1, .ref a_t), (2, .int (J v_n)), (4, .int (J l4_24))] dX5_scan_63 rfl hl (by decide) rfl (fun ls hl => ?_)
            refine j_iinc E 67 rfl [(4, .int (J (l4_24 + 1))), (3, .int (J zz14_)), (0, .ref o), (1, .ref a_t), (2, .int (J v_n))] dX5_scan_64 hl (kk := 4) rfl (by decide) rfl (fun ls hl => ?_)
            refine j_goto E 24 dX5_scan_67 (by decide) ?_
            exact ih24 zz14_ (l4_24 + 1) y123_c24 H locs ls rr14_ (rr (by omega)) (by omega) (by omega) hw (lv_sub hl [2, 3, 4, 1, 0] rfl)
  exact L24_6 _ 0 0 (upB (v_0 123) o 0) H locs ls (rr (by decide)) (rr (by decide)) (⟨by omega, by rw [upB_same]; omega, by rw [upB_same]; omega⟩) (Nat.lt_succ_self _) hw (lv_sub hl [2, 3, 4, 1, 0] rfl)
set_option maxHeartbeats 4000000 in
set_option maxRecDepth 100000 in
theorem c_X3_step (l : Launch) (D : va_G) (cy : Nat → ClassId) (T : Nat → Nat → Nat) (v_0 : Nat → Nat → Int) (κ : Nat → Nat → Nat) (o : Nat) (hO : ∀ x, ow T x → κ 2 2 ≤ x) (t_o : T 0 o = 4) : KZ l D cy κ T yX3_step cX3_step 1 none 1 [.ref o] v_0 (KV (fun (v_2 : Nat → Nat → Int) => ∃ (y83_2 : Nat → Int) (y84_2 : Nat → Int) , v_2 = upV (upV v_0 83 y83_2) 84 y84_2 ∧ (True))) := by
  refine KZ.ofv (by decide) (Nat.le_of_ble_eq_true rfl) hO ?_
  intro p e s m below meth c ls ar QW A0 H locs E hK hZ hA hAc hw hl hret
  have hl : lv_has ls 1 [(0, .ref o)] := hl
  have hT : WT T := hw.1.2.1
  refine j_aload_n E 1 rfl dX3_step_0 rfl (lv_at hl 0 rfl) ?_
  refine j_dup E 2 rfl dX3_step_1 rfl ?_
  refine g_83 E hK hw fl_X3_25 t_o (v_0 83 o) rfl 5 rfl dX3_step_2 (fun rr1_ => ?_)
  refine j_iconst E 6 rfl dX3_step_5 ?_
  refine j_iadd E 7 rfl dX3_step_6 ?_
  refine j_norm (fun zz2_ rr2_ ee2_ => ?_)
  refine p_83 E hK hw fl_X3_25 t_o rr2_ 10 rfl dX3_step_7 (fun H locs hw => ?_)
  have hw : WK D cy T (upV v_0 83 (upB (v_0 83) o zz2_)) A0 s.heap H locs := cw_eq hw (by first | rfl | (funext j_; simp only [upV, reduceIte]; (repeat' split) <;> first | rfl | omega | (subst_vars; rfl)))
  refine j_aload_n E 11 rfl dX3_step_10 rfl (lv_at hl 0 rfl) ?_
  refine j_aload_n E 12 rfl dX3_step_11 rfl (lv_at hl 0 rfl) ?_
  refine g_83 E hK hw fl_X3_25 t_o zz2_ (upB_same _ _ _) 15 rfl dX3_step_12 (fun _ => ?_)
  refine j_if_lt E 18 62 rfl rr2_ dX3_step_15 (by decide) (fun cc4_ => ?_) (fun cc4_ => ?_)
  · refine j_iconst E 63 rfl dX3_step_62 ?_
    refine p_84 E hK hw fl_X3_30 t_o (rr (by decide)) 66 rfl dX3_step_63 (fun H locs hw => ?_)
    have hw : WK D cy T (upV (upV v_0 83 (upB (v_0 83) o zz2_)) 84 (upB (v_0 84) o 1)) A0 s.heap H locs := cw_eq hw (by first | rfl | (funext j_; simp only [upV, reduceIte]; (repeat' split) <;> first | rfl | omega | (subst_vars; rfl)))
    exact hret 66 (upV (upV v_0 83 (upB (v_0 83) o zz2_)) 84 (upB (v_0 84) o 1)) _ _ ls hw ⟨(upB (v_0 83) o zz2_), (upB (v_0 84) o 1), rfl, trivial⟩ dX3_step_66
  · refine j_aload_n E 19 rfl dX3_step_18 rfl (lv_at hl 0 rfl) ?_
    refine g_83 E hK hw fl_X3_25 t_o zz2_ (upB_same _ _ _) 22 rfl dX3_step_19 (fun _ => ?_)
    refine j_aload_n E 23 rfl dX3_step_22 rfl (lv_at hl 0 rfl) ?_
    refine g_82 E hK hw fl_X3_21 t_o 26 rfl dX3_step_23 ?_
    refine gn_123 E hZ rfl hK hw (wt_82 hT t_o) (v_0 123 (T 82 o)) rfl 29 rfl dX3_step_26 (fun rr6_ => ?_)
    refine j_icmp_ge E 32 62 rfl rr2_ rr6_ dX3_step_29 (by decide) (fun cc7_ => ?_) (fun cc7_ => ?_)
    · refine j_iconst E 63 rfl dX3_step_62 ?_
      refine p_84 E hK hw fl_X3_30 t_o (rr (by decide)) 66 rfl dX3_step_63 (fun H locs hw => ?_)
      have hw : WK D cy T (upV (upV v_0 83 (upB (v_0 83) o zz2_)) 84 (upB (v_0 84) o 1)) A0 s.heap H locs := cw_eq hw (by first | rfl | (funext j_; simp only [upV, reduceIte]; (repeat' split) <;> first | rfl | omega | (subst_vars; rfl)))
      exact hret 66 (upV (upV v_0 83 (upB (v_0 83) o zz2_)) 84 (upB (v_0 84) o 1)) _ _ ls hw ⟨(upB (v_0 83) o zz2_), (upB (v_0 84) o 1), rfl, trivial⟩ dX3_step_66
    · refine j_aload_n E 33 rfl dX3_step_32 rfl (lv_at hl 0 rfl) ?_
      refine g_83 E hK hw fl_X3_25 t_o zz2_ (upB_same _ _ _) 36 rfl dX3_step_33 (fun _ => ?_)
      refine j_aload_n E 37 rfl dX3_step_36 rfl (lv_at hl 0 rfl) ?_
      refine g_82 E hK hw fl_X3_21 t_o 40 rfl dX3_step_37 ?_
      refine gn_120 E hZ rfl hK hw (wt_82 hT t_o) 43 rfl dX3_step_40 ?_
      have ln9_ := wl_120 hT (wt_82 hT t_o)
      refine a_ln20 E hK hw (wt_120 hT (wt_82 hT t_o)) 44 rfl dX3_step_43 (fun rr10_ => ?_)
      refine j_icmp_ge E 47 62 rfl rr2_ rr10_ dX3_step_44 (by decide) (fun cc11_ => ?_) (fun cc11_ => ?_)
      · refine j_iconst E 63 rfl dX3_step_62 ?_
        refine p_84 E hK hw fl_X3_30 t_o (rr (by decide)) 66 rfl dX3_step_63 (fun H locs hw => ?_)
        have hw : WK D cy T (upV (upV v_0 83 (upB (v_0 83) o zz2_)) 84 (upB (v_0 84) o 1)) A0 s.heap H locs := cw_eq hw (by first | rfl | (funext j_; simp only [upV, reduceIte]; (repeat' split) <;> first | rfl | omega | (subst_vars; rfl)))
        exact hret 66 (upV (upV v_0 83 (upB (v_0 83) o zz2_)) 84 (upB (v_0 84) o 1)) _ _ ls hw ⟨(upB (v_0 83) o zz2_), (upB (v_0 84) o 1), rfl, trivial⟩ dX3_step_66
      · refine j_aload_n E 48 rfl dX3_step_47 rfl (lv_at hl 0 rfl) ?_
        refine g_82 E hK hw fl_X3_21 t_o 51 rfl dX3_step_48 ?_
        refine gn_120 E hZ rfl hK hw (wt_82 hT t_o) 54 rfl dX3_step_51 ?_
        refine j_aload_n E 55 rfl dX3_step_54 rfl (lv_at hl 0 rfl) ?_
        refine g_83 E hK hw fl_X3_25 t_o zz2_ (upB_same _ _ _) 58 rfl dX3_step_55 (fun _ => ?_)
        refine a_ld20 E hK hw (wt_120 hT (wt_82 hT t_o)) (by omega) 59 rfl dX3_step_58 (fun zz13_ rr13_ => ?_)
        refine j_goto E 63 dX3_step_59 (by decide) ?_
        refine p_84 E hK hw fl_X3_30 t_o rr13_ 66 rfl dX3_step_63 (fun H locs hw => ?_)
        have hw : WK D cy T (upV (upV v_0 83 (upB (v_0 83) o zz2_)) 84 (upB (v_0 84) o zz13_)) A0 s.heap H locs := cw_eq hw (by first | rfl | (funext j_; simp only [upV, reduceIte]; (repeat' split) <;> first | rfl | omega | (subst_vars; rfl)))
        exact hret 66 (upV (upV v_0 83 (upB (v_0 83) o zz2_)) 84 (upB (v_0 84) o zz13_)) _ _ ls hw ⟨(upB (v_0 83) o zz2_), (upB (v_0 84) o zz13_), rfl, trivial⟩ dX3_step_66
set_option maxHeartbeats 4000000 in
set_option maxRecDepth 100000 in
theorem c_X3_refuse (l : Launch) (D : va_G) (cy : Nat → ClassId) (T : Nat → Nat → Nat) (v_0 : Nat → Nat → Int) (o : Nat) (v_f : Int) (t_o : T 0 o = 4) (r_v_f : inR v_f) : KC l D cy T yX3_refuse cX3_refuse 2 none 1 [.ref o, .int (J v_f)] v_0 (KV (fun (v_2 : Nat → Nat → Int) => ∃ (y80_2 : Nat → Int) (y84_2 : Nat → Int) , v_2 = upV (upV v_0 80 y80_2) 84 y84_2 ∧ (True))) := by
  refine KC.ofv (by decide) (Nat.le_of_ble_eq_true rfl) ?_
  intro p e s m below meth c ls ar QW A0 H0 H locs E hK hA hw hl hret
  have hl : lv_has ls 2 [(0, .ref o), (1, .int (J v_f))] := hl
  have hT : WT T := hw.1.2.1
  refine j_aload_n E 1 rfl dX3_refuse_0 rfl (lv_at hl 0 rfl) ?_
  have L16_1 : ∀ (s0_16 : Int) (H : Heap) (locs : List Loc) (ls : Array Slot), inR s0_16 → (True) → WK D cy T (v_0) A0 H0 H locs → lv_has ls 2 [(0, .ref o), (1, .int (J v_f))] → W p l e (rmd 1 0 0) s m ar below meth c H locs 0 0 QW (F0 m 16 ls [.int (J s0_16), .ref o]) := by
    intro s0_16 H locs ls r_s0_16 iv16 hw hl
    refine p_80 E hK hw fl_X3_9 t_o r_s0_16 19 rfl dX3_refuse_16 (fun H locs hw => ?_)
    have hw : WK D cy T (upV v_0 80 (upB (v_0 80) o s0_16)) A0 H0 H locs := cw_eq hw (by first | rfl | (funext j_; simp only [upV, reduceIte]; (repeat' split) <;> first | rfl | omega | (subst_vars; rfl)))
    refine j_aload_n E 20 rfl dX3_refuse_19 rfl (lv_at hl 0 rfl) ?_
    refine j_iconst E 21 rfl dX3_refuse_20 ?_
    refine p_84 E hK hw fl_X3_30 t_o (rr (by decide)) 24 rfl dX3_refuse_21 (fun H locs hw => ?_)
    have hw : WK D cy T (upV (upV v_0 80 (upB (v_0 80) o s0_16)) 84 (upB (v_0 84) o 2)) A0 H0 H locs := cw_eq hw (by first | rfl | (funext j_; simp only [upV, reduceIte]; (repeat' split) <;> first | rfl | omega | (subst_vars; rfl)))
    exact hret 24 (upV (upV v_0 80 (upB (v_0 80) o s0_16)) 84 (upB (v_0 84) o 2)) _ _ ls hw ⟨(upB (v_0 80) o s0_16), (upB (v_0 84) o 2), rfl, trivial⟩ dX3_refuse_24
  refine j_aload_n E 2 rfl dX3_refuse_1 rfl (lv_at hl 0 rfl) ?_
  refine g_80 E hK hw fl_X3_9 t_o (v_0 80 o) rfl 5 rfl dX3_refuse_2 (fun rr5_ => ?_)
  refine j_if_ne E 8 12 rfl rr5_ dX3_refuse_5 (by decide) (fun cc6_ => ?_) (fun cc6_ => ?_)
  · refine j_aload_n E 13 rfl dX3_refuse_12 rfl (lv_at hl 0 rfl) ?_
    refine g_80 E hK hw fl_X3_9 t_o (v_0 80 o) rfl 16 rfl dX3_refuse_13 (fun _ => ?_)
    exact L16_1 (v_0 80 o)  H locs ls rr5_ (trivial) hw (lv_sub hl [0, 1] rfl)
  · refine j_iload_n E 9 rfl dX3_refuse_8 rfl (lv_at hl 1 rfl) ?_
    refine j_goto E 16 dX3_refuse_9 (by decide) ?_
    exact L16_1 v_f  H locs ls r_v_f (trivial) hw (lv_sub hl [0, 1] rfl)
set_option maxHeartbeats 4000000 in
set_option maxRecDepth 100000 in
theorem c_X3_emit (l : Launch) (D : va_G) (cy : Nat → ClassId) (T : Nat → Nat → Nat) (v_0 : Nat → Nat → Int) (o : Nat) (v_s : Int) (t_o : T 0 o = 4) (r_v_s : inR v_s) (hp0 : 0 ≤ (v_0 86 o) ∧ (v_0 86 o) ≤ 400) : KC l D cy T yX3_emit cX3_emit 2 none 1 [.ref o, .int (J v_s)] v_0 (KV (fun (v_2 : Nat → Nat → Int) => ∃ (y86_2 : Nat → Int) , v_2 = upV v_0 86 y86_2 ∧ (0 ≤ (y86_2 o) ∧ (y86_2 o) ≤ 400))) := by
  refine KC.ofv (by decide) (Nat.le_of_ble_eq_true rfl) ?_
  intro p e s m below meth c ls ar QW A0 H0 H locs E hK hA hw hl hret
  have hl : lv_has ls 2 [(0, .ref o), (1, .int (J v_s))] := hl
  have hT : WT T := hw.1.2.1
  refine j_aload_n E 1 rfl dX3_emit_0 rfl (lv_at hl 0 rfl) ?_
  refine g_86 E hK hw fl_X3_37 t_o (v_0 86 o) rfl 4 rfl dX3_emit_1 (fun rr1_ => ?_)
  refine j_if_lt E 7 39 rfl rr1_ dX3_emit_4 (by decide) (fun cc2_ => ?_) (fun cc2_ => ?_)
  · exact hret 39 (upV v_0 86 (v_0 86)) _ _ ls (cw_eq hw (by first | rfl | (funext j_; simp only [upV, reduceIte]; (repeat' split) <;> first | rfl | omega | (subst_vars; rfl)))) ⟨(v_0 86), rfl, by first | omega | (simp only [upB_same]; omega)⟩ dX3_emit_39
  · refine j_aload_n E 8 rfl dX3_emit_7 rfl (lv_at hl 0 rfl) ?_
    refine g_86 E hK hw fl_X3_37 t_o (v_0 86 o) rfl 11 rfl dX3_emit_8 (fun _ => ?_)
    refine j_aload_n E 12 rfl dX3_emit_11 rfl (lv_at hl 0 rfl) ?_
    refine g_85 E hK hw fl_X3_33 t_o 15 rfl dX3_emit_12 ?_
    have ln3_ := wl_85 hT t_o
    refine a_ln20 E hK hw (wt_85 hT t_o) 16 rfl dX3_emit_15 (fun rr4_ => ?_)
    refine j_icmp_ge E 19 39 rfl rr1_ rr4_ dX3_emit_16 (by decide) (fun cc5_ => ?_) (fun cc5_ => ?_)
    · exact hret 39 (upV v_0 86 (v_0 86)) _ _ ls (cw_eq hw (by first | rfl | (funext j_; simp only [upV, reduceIte]; (repeat' split) <;> first | rfl | omega | (subst_vars; rfl)))) ⟨(v_0 86), rfl, by first | omega | (simp only [upB_same]; omega)⟩ dX3_emit_39
    · refine j_aload_n E 20 rfl dX3_emit_19 rfl (lv_at hl 0 rfl) ?_
      refine g_85 E hK hw fl_X3_33 t_o 23 rfl dX3_emit_20 ?_
      refine j_aload_n E 24 rfl dX3_emit_23 rfl (lv_at hl 0 rfl) ?_
      refine g_86 E hK hw fl_X3_37 t_o (v_0 86 o) rfl 27 rfl dX3_emit_24 (fun _ => ?_)
      refine j_iload_n E 28 rfl dX3_emit_27 rfl (lv_at hl 1 rfl) ?_
      refine a_st20 E hK hw (wt_85 hT t_o) (by omega) 29 rfl dX3_emit_28 (fun H locs hw => ?_)
      refine j_aload_n E 30 rfl dX3_emit_29 rfl (lv_at hl 0 rfl) ?_
      refine j_dup E 31 rfl dX3_emit_30 rfl ?_
      refine g_86 E hK hw fl_X3_37 t_o (v_0 86 o) rfl 34 rfl dX3_emit_31 (fun _ => ?_)
      refine j_iconst E 35 rfl dX3_emit_34 ?_
      refine j_iadd E 36 rfl dX3_emit_35 ?_
      refine p_86 E hK hw fl_X3_37 t_o (rr (by omega)) 39 rfl dX3_emit_36 (fun H locs hw => ?_)
      have hw : WK D cy T (upV v_0 86 (upB (v_0 86) o ((v_0 86 o) + 1))) A0 H0 H locs := cw_eq hw (by first | rfl | (funext j_; simp only [upV, reduceIte]; (repeat' split) <;> first | rfl | omega | (subst_vars; rfl)))
      exact hret 39 (upV v_0 86 (upB (v_0 86) o ((v_0 86 o) + 1))) _ _ ls hw ⟨(upB (v_0 86) o ((v_0 86 o) + 1)), rfl, by first | omega | (simp only [upB_same]; omega)⟩ dX3_emit_39
set_option maxHeartbeats 4000000 in
set_option maxRecDepth 100000 in
theorem c_X3_take (l : Launch) (D : va_G) (cy : Nat → ClassId) (T : Nat → Nat → Nat) (v_0 : Nat → Nat → Int) (κ : Nat → Nat → Nat) (o : Nat) (v_d : Int) (hO : ∀ x, ow T x → κ 2 2 ≤ x) (t_o : T 0 o = 4) (r_v_d : inR v_d) : KZ l D cy κ T yX3_take cX3_take 2 none 2 [.ref o, .int (J v_d)] v_0 (KV (fun (v_2 : Nat → Nat → Int) => ∃ (y80_2 : Nat → Int) (y83_2 : Nat → Int) (y84_2 : Nat → Int) , v_2 = upV (upV (upV v_0 80 y80_2) 83 y83_2) 84 y84_2 ∧ (True))) := by
  refine KZ.ofv (by decide) (Nat.le_of_ble_eq_true rfl) hO ?_
  intro p e s m below meth c ls ar QW A0 H locs E hK hZ hA hAc hw hl hret
  have hl : lv_has ls 2 [(0, .ref o), (1, .int (J v_d))] := hl
  have hT : WT T := hw.1.2.1
  refine j_aload_n E 1 rfl dX3_take_0 rfl (lv_at hl 0 rfl) ?_
  refine g_84 E hK hw fl_X3_30 t_o (v_0 84 o) rfl 4 rfl dX3_take_1 (fun rr1_ => ?_)
  refine j_iload_n E 5 rfl dX3_take_4 rfl (lv_at hl 1 rfl) ?_
  refine j_icmp_ne E 8 15 rfl rr1_ r_v_d dX3_take_5 (by decide) (fun cc2_ => ?_) (fun cc2_ => ?_)
  · refine j_aload_n E 16 rfl dX3_take_15 rfl (lv_at hl 0 rfl) ?_
    refine j_iconst E 17 rfl dX3_take_16 ?_
    refine kV_v E (c_X3_refuse l D cy T (v_0) o 1  t_o (rr (by decide)) ) mt_X3_refuse ml_X3_63 hK hw (cw_rc4 hK hw.1 t_o) hA ⟨Nat.le_of_ble_eq_true rfl, Nat.le_of_ble_eq_true rfl⟩ ⟨Nat.le_of_ble_eq_true rfl, Nat.le_of_ble_eq_true rfl⟩ (As := [.int (J 1)]) (rest := []) rfl rfl hl.1 (Nat.le_of_ble_eq_true rfl) 20 rfl dX3_take_17 (fun v_3 H locs hq3_ hw => ?_)
    obtain ⟨y80_3, y84_3, ev3_, hh3_⟩ := hq3_
    rw [ev3_] at hw; clear ev3_
    have hw : WK D cy T (upV (upV v_0 80 y80_3) 84 y84_3) A0 s.heap H locs := cw_eq hw (by first | rfl | (funext j_; simp only [upV, reduceIte]; (repeat' split) <;> first | rfl | omega | (subst_vars; rfl)))
    exact hret 20 (upV (upV (upV v_0 80 y80_3) 83 (v_0 83)) 84 y84_3) _ _ ls (cw_eq hw (by first | rfl | (funext j_; simp only [upV, reduceIte]; (repeat' split) <;> first | rfl | omega | (subst_vars; rfl)))) ⟨y80_3, (v_0 83), y84_3, rfl, trivial⟩ dX3_take_20
  · refine j_aload_n E 9 rfl dX3_take_8 rfl (lv_at hl 0 rfl) ?_
    refine zV_v E (c_X3_step l D cy T (v_0) κ o  hO t_o  ) mt_X3_step ml_X3_54 hK hZ hAc hw (cw_rc4 hK hw.1 t_o) hA ⟨Nat.le_of_ble_eq_true rfl, Nat.le_of_ble_eq_true rfl⟩ ⟨Nat.le_of_ble_eq_true rfl, Nat.le_of_ble_eq_true rfl⟩ (As := []) (rest := []) rfl rfl hl.1 (Nat.le_of_ble_eq_true rfl) 12 rfl dX3_take_9 (fun v_4 H locs hq4_ hw => ?_)
    obtain ⟨y83_4, y84_4, ev4_, hh4_⟩ := hq4_
    rw [ev4_] at hw; clear ev4_
    have hw : WK D cy T (upV (upV v_0 83 y83_4) 84 y84_4) A0 s.heap H locs := cw_eq hw (by first | rfl | (funext j_; simp only [upV, reduceIte]; (repeat' split) <;> first | rfl | omega | (subst_vars; rfl)))
    refine j_goto E 20 dX3_take_12 (by decide) ?_
    exact hret 20 (upV (upV (upV v_0 80 (v_0 80)) 83 y83_4) 84 y84_4) _ _ ls (cw_eq hw (by first | rfl | (funext j_; simp only [upV, reduceIte]; (repeat' split) <;> first | rfl | omega | (subst_vars; rfl)))) ⟨(v_0 80), y83_4, y84_4, rfl, trivial⟩ dX3_take_20
set_option maxHeartbeats 4000000 in
set_option maxRecDepth 100000 in
theorem c_X3_takeComparison (l : Launch) (D : va_G) (cy : Nat → ClassId) (T : Nat → Nat → Nat) (v_0 : Nat → Nat → Int) (κ : Nat → Nat → Nat) (o : Nat) (hO : ∀ x, ow T x → κ 2 2 ≤ x) (t_o : T 0 o = 4) : KZ l D cy κ T yX3_takeComparison cX3_takeComparison 1 none 2 [.ref o] v_0 (KV (fun (v_2 : Nat → Nat → Int) => ∃ (y80_2 : Nat → Int) (y83_2 : Nat → Int) (y84_2 : Nat → Int) , v_2 = upV (upV (upV v_0 80 y80_2) 83 y83_2) 84 y84_2 ∧ (True))) := by
  refine KZ.ofv (by decide) (Nat.le_of_ble_eq_true rfl) hO ?_
  intro p e s m below meth c ls ar QW A0 H locs E hK hZ hA hAc hw hl hret
  have hl : lv_has ls 1 [(0, .ref o)] := hl
  have hT : WT T := hw.1.2.1
  refine j_aload_n E 1 rfl dX3_takeComparison_0 rfl (lv_at hl 0 rfl) ?_
  refine g_84 E hK hw fl_X3_30 t_o (v_0 84 o) rfl 4 rfl dX3_takeComparison_1 (fun rr1_ => ?_)
  refine j_bipush E 6 rfl dX3_takeComparison_4 (by decide) ?_
  refine j_icmp_eq E 9 27 rfl rr1_ (rr (by decide)) dX3_takeComparison_6 (by decide) (fun cc2_ => ?_) (fun cc2_ => ?_)
  · refine j_aload_n E 28 rfl dX3_takeComparison_27 rfl (lv_at hl 0 rfl) ?_
    refine zV_v E (c_X3_step l D cy T (v_0) κ o  hO t_o  ) mt_X3_step ml_X3_54 hK hZ hAc hw (cw_rc4 hK hw.1 t_o) hA ⟨Nat.le_of_ble_eq_true rfl, Nat.le_of_ble_eq_true rfl⟩ ⟨Nat.le_of_ble_eq_true rfl, Nat.le_of_ble_eq_true rfl⟩ (As := []) (rest := []) rfl rfl hl.1 (Nat.le_of_ble_eq_true rfl) 31 rfl dX3_takeComparison_28 (fun v_3 H locs hq3_ hw => ?_)
    obtain ⟨y83_3, y84_3, ev3_, hh3_⟩ := hq3_
    rw [ev3_] at hw; clear ev3_
    have hw : WK D cy T (upV (upV v_0 83 y83_3) 84 y84_3) A0 s.heap H locs := cw_eq hw (by first | rfl | (funext j_; simp only [upV, reduceIte]; (repeat' split) <;> first | rfl | omega | (subst_vars; rfl)))
    refine j_goto E 39 dX3_takeComparison_31 (by decide) ?_
    exact hret 39 (upV (upV (upV v_0 80 (v_0 80)) 83 y83_3) 84 y84_3) _ _ ls (cw_eq hw (by first | rfl | (funext j_; simp only [upV, reduceIte]; (repeat' split) <;> first | rfl | omega | (subst_vars; rfl)))) ⟨(v_0 80), y83_3, y84_3, rfl, trivial⟩ dX3_takeComparison_39
  · refine j_aload_n E 10 rfl dX3_takeComparison_9 rfl (lv_at hl 0 rfl) ?_
    refine g_84 E hK hw fl_X3_30 t_o (v_0 84 o) rfl 13 rfl dX3_takeComparison_10 (fun _ => ?_)
    refine j_bipush E 15 rfl dX3_takeComparison_13 (by decide) ?_
    refine j_icmp_eq E 18 27 rfl rr1_ (rr (by decide)) dX3_takeComparison_15 (by decide) (fun cc4_ => ?_) (fun cc4_ => ?_)
    · refine j_aload_n E 28 rfl dX3_takeComparison_27 rfl (lv_at hl 0 rfl) ?_
      refine zV_v E (c_X3_step l D cy T (v_0) κ o  hO t_o  ) mt_X3_step ml_X3_54 hK hZ hAc hw (cw_rc4 hK hw.1 t_o) hA ⟨Nat.le_of_ble_eq_true rfl, Nat.le_of_ble_eq_true rfl⟩ ⟨Nat.le_of_ble_eq_true rfl, Nat.le_of_ble_eq_true rfl⟩ (As := []) (rest := []) rfl rfl hl.1 (Nat.le_of_ble_eq_true rfl) 31 rfl dX3_takeComparison_28 (fun v_5 H locs hq5_ hw => ?_)
      obtain ⟨y83_5, y84_5, ev5_, hh5_⟩ := hq5_
      rw [ev5_] at hw; clear ev5_
      have hw : WK D cy T (upV (upV v_0 83 y83_5) 84 y84_5) A0 s.heap H locs := cw_eq hw (by first | rfl | (funext j_; simp only [upV, reduceIte]; (repeat' split) <;> first | rfl | omega | (subst_vars; rfl)))
      refine j_goto E 39 dX3_takeComparison_31 (by decide) ?_
      exact hret 39 (upV (upV (upV v_0 80 (v_0 80)) 83 y83_5) 84 y84_5) _ _ ls (cw_eq hw (by first | rfl | (funext j_; simp only [upV, reduceIte]; (repeat' split) <;> first | rfl | omega | (subst_vars; rfl)))) ⟨(v_0 80), y83_5, y84_5, rfl, trivial⟩ dX3_takeComparison_39
    · refine j_aload_n E 19 rfl dX3_takeComparison_18 rfl (lv_at hl 0 rfl) ?_
      refine g_84 E hK hw fl_X3_30 t_o (v_0 84 o) rfl 22 rfl dX3_takeComparison_19 (fun _ => ?_)
      refine j_bipush E 24 rfl dX3_takeComparison_22 (by decide) ?_
      refine j_icmp_ne E 27 34 rfl rr1_ (rr (by decide)) dX3_takeComparison_24 (by decide) (fun cc6_ => ?_) (fun cc6_ => ?_)
      · refine j_aload_n E 35 rfl dX3_takeComparison_34 rfl (lv_at hl 0 rfl) ?_
        refine j_iconst E 36 rfl dX3_takeComparison_35 ?_
        refine kV_v E (c_X3_refuse l D cy T (v_0) o 1  t_o (rr (by decide)) ) mt_X3_refuse ml_X3_63 hK hw (cw_rc4 hK hw.1 t_o) hA ⟨Nat.le_of_ble_eq_true rfl, Nat.le_of_ble_eq_true rfl⟩ ⟨Nat.le_of_ble_eq_true rfl, Nat.le_of_ble_eq_true rfl⟩ (As := [.int (J 1)]) (rest := []) rfl rfl hl.1 (Nat.le_of_ble_eq_true rfl) 39 rfl dX3_takeComparison_36 (fun v_7 H locs hq7_ hw => ?_)
        obtain ⟨y80_7, y84_7, ev7_, hh7_⟩ := hq7_
        rw [ev7_] at hw; clear ev7_
        have hw : WK D cy T (upV (upV v_0 80 y80_7) 84 y84_7) A0 s.heap H locs := cw_eq hw (by first | rfl | (funext j_; simp only [upV, reduceIte]; (repeat' split) <;> first | rfl | omega | (subst_vars; rfl)))
        exact hret 39 (upV (upV (upV v_0 80 y80_7) 83 (v_0 83)) 84 y84_7) _ _ ls (cw_eq hw (by first | rfl | (funext j_; simp only [upV, reduceIte]; (repeat' split) <;> first | rfl | omega | (subst_vars; rfl)))) ⟨y80_7, (v_0 83), y84_7, rfl, trivial⟩ dX3_takeComparison_39
      · refine j_aload_n E 28 rfl dX3_takeComparison_27 rfl (lv_at hl 0 rfl) ?_
        refine zV_v E (c_X3_step l D cy T (v_0) κ o  hO t_o  ) mt_X3_step ml_X3_54 hK hZ hAc hw (cw_rc4 hK hw.1 t_o) hA ⟨Nat.le_of_ble_eq_true rfl, Nat.le_of_ble_eq_true rfl⟩ ⟨Nat.le_of_ble_eq_true rfl, Nat.le_of_ble_eq_true rfl⟩ (As := []) (rest := []) rfl rfl hl.1 (Nat.le_of_ble_eq_true rfl) 31 rfl dX3_takeComparison_28 (fun v_8 H locs hq8_ hw => ?_)
        obtain ⟨y83_8, y84_8, ev8_, hh8_⟩ := hq8_
        rw [ev8_] at hw; clear ev8_
        have hw : WK D cy T (upV (upV v_0 83 y83_8) 84 y84_8) A0 s.heap H locs := cw_eq hw (by first | rfl | (funext j_; simp only [upV, reduceIte]; (repeat' split) <;> first | rfl | omega | (subst_vars; rfl)))
        refine j_goto E 39 dX3_takeComparison_31 (by decide) ?_
        exact hret 39 (upV (upV (upV v_0 80 (v_0 80)) 83 y83_8) 84 y84_8) _ _ ls (cw_eq hw (by first | rfl | (funext j_; simp only [upV, reduceIte]; (repeat' split) <;> first | rfl | omega | (subst_vars; rfl)))) ⟨(v_0 80), y83_8, y84_8, rfl, trivial⟩ dX3_takeComparison_39
set_option maxHeartbeats 4000000 in
set_option maxRecDepth 100000 in
theorem c_X3_takeNumber (l : Launch) (D : va_G) (cy : Nat → ClassId) (T : Nat → Nat → Nat) (v_0 : Nat → Nat → Int) (κ : Nat → Nat → Nat) (o : Nat) (v_a : Int) (v_b : Int) (v_c : Int) (hO : ∀ x, ow T x → κ 2 2 ≤ x) (t_o : T 0 o = 4) (r_v_a : inR v_a) (r_v_b : inR v_b) (r_v_c : inR v_c) (hp0 : 0 ≤ (v_0 86 o) ∧ (v_0 86 o) ≤ 400) : KZ l D cy κ T yX3_takeNumber cX3_takeNumber 5 none 2 [.ref o, .int (J v_a), .int (J v_b), .int (J v_c)] v_0 (KV (fun (v_2 : Nat → Nat → Int) => ∃ (y80_2 : Nat → Int) (y83_2 : Nat → Int) (y84_2 : Nat → Int) (y86_2 : Nat → Int) , v_2 = upV (upV (upV (upV v_0 80 y80_2) 83 y83_2) 84 y84_2) 86 y86_2 ∧ (0 ≤ (y86_2 o) ∧ (y86_2 o) ≤ 400))) := by
  refine KZ.ofv (by decide) (Nat.le_of_ble_eq_true rfl) hO ?_
  intro p e s m below meth c ls ar QW A0 H locs E hK hZ hA hAc hw hl hret
  have hl : lv_has ls 5 [(0, .ref o), (1, .int (J v_a)), (2, .int (J v_b)), (3, .int (J v_c))] := hl
  have hT : WT T := hw.1.2.1
  refine j_aload_n E 1 rfl dX3_takeNumber_0 rfl (lv_at hl 0 rfl) ?_
  refine g_82 E hK hw fl_X3_21 t_o 4 rfl dX3_takeNumber_1 ?_
  refine j_aload_n E 5 rfl dX3_takeNumber_4 rfl (lv_at hl 0 rfl) ?_
  refine g_83 E hK hw fl_X3_25 t_o (v_0 83 o) rfl 8 rfl dX3_takeNumber_5 (fun rr1_ => ?_)
  refine kV_i E (c_X5_valueAt l D cy T (v_0) (T 82 o) (v_0 83 o)  (wt_82 hT t_o) rr1_ ) mt_X5_valueAt ml_X3_105 hK hw (cw_rc6 hK hw.1 (wt_82 hT t_o)) hA ⟨Nat.le_of_ble_eq_true rfl, Nat.le_of_ble_eq_true rfl⟩ ⟨Nat.le_of_ble_eq_true rfl, Nat.le_of_ble_eq_true rfl⟩ (As := [.int (J (v_0 83 o))]) (rest := []) rfl rfl hl.1 (Nat.le_of_ble_eq_true rfl) 11 rfl dX3_takeNumber_8 (fun zz2_ v_2 H locs rr2_ hq2_ hw => ?_)
  obtain ⟨ev2_, hh2_⟩ := hq2_
  rw [ev2_] at hw; clear ev2_
  refine j_istore E 13 rfl [(4, .int (J zz2_)), (0, .ref o), (1, .int (J v_a)), (2, .int (J v_b)), (3, .int (J v_c))] dX3_takeNumber_11 hl (by decide) rfl (fun ls hl => ?_)
  refine j_aload_n E 14 rfl dX3_takeNumber_13 rfl (lv_at hl 1 rfl) ?_
  refine g_84 E hK hw fl_X3_30 t_o (v_0 84 o) rfl 17 rfl dX3_takeNumber_14 (fun rr3_ => ?_)
  refine j_iconst E 18 rfl dX3_takeNumber_17 ?_
  refine j_icmp_eq E 21 29 rfl rr3_ (rr (by decide)) dX3_takeNumber_18 (by decide) (fun cc4_ => ?_) (fun cc4_ => ?_)
  · refine j_iload E 31 rfl dX3_takeNumber_29 (lv_at hl 0 rfl) ?_
    refine j_iload_n E 32 rfl dX3_takeNumber_31 rfl (lv_at hl 2 rfl) ?_
    refine j_icmp_lt E 35 41 rfl rr2_ r_v_a dX3_takeNumber_32 (by decide) (fun cc5_ => ?_) (fun cc5_ => ?_)
    · refine j_aload_n E 42 rfl dX3_takeNumber_41 rfl (lv_at hl 1 rfl) ?_
      refine j_iconst E 43 rfl dX3_takeNumber_42 ?_
      refine kV_v E (c_X3_refuse l D cy T (v_0) o 2  t_o (rr (by decide)) ) mt_X3_refuse ml_X3_63 hK hw (cw_rc4 hK hw.1 t_o) hA ⟨Nat.le_of_ble_eq_true rfl, Nat.le_of_ble_eq_true rfl⟩ ⟨Nat.le_of_ble_eq_true rfl, Nat.le_of_ble_eq_true rfl⟩ (As := [.int (J 2)]) (rest := []) rfl rfl hl.1 (Nat.le_of_ble_eq_true rfl) 46 rfl dX3_takeNumber_43 (fun v_6 H locs hq6_ hw => ?_)
      obtain ⟨y80_6, y84_6, ev6_, hh6_⟩ := hq6_
      rw [ev6_] at hw; clear ev6_
      have hw : WK D cy T (upV (upV v_0 80 y80_6) 84 y84_6) A0 s.heap H locs := cw_eq hw (by first | rfl | (funext j_; simp only [upV, reduceIte]; (repeat' split) <;> first | rfl | omega | (subst_vars; rfl)))
      refine j_goto E 61 dX3_takeNumber_46 (by decide) ?_
      exact hret 61 (upV (upV (upV (upV v_0 80 y80_6) 83 (v_0 83)) 84 y84_6) 86 (v_0 86)) _ _ ls (cw_eq hw (by first | rfl | (funext j_; simp only [upV, reduceIte]; (repeat' split) <;> first | rfl | omega | (subst_vars; rfl)))) ⟨y80_6, (v_0 83), y84_6, (v_0 86), rfl, by first | omega | (simp only [upB_same]; omega)⟩ dX3_takeNumber_61
    · refine j_iload E 37 rfl dX3_takeNumber_35 (lv_at hl 0 rfl) ?_
      refine j_iload_n E 38 rfl dX3_takeNumber_37 rfl (lv_at hl 3 rfl) ?_
      refine j_icmp_le E 41 49 rfl rr2_ r_v_b dX3_takeNumber_38 (by decide) (fun cc7_ => ?_) (fun cc7_ => ?_)
      · refine j_aload_n E 50 rfl dX3_takeNumber_49 rfl (lv_at hl 1 rfl) ?_
        refine j_iload E 52 rfl dX3_takeNumber_50 (lv_at hl 0 rfl) ?_
        refine j_iload_n E 53 rfl dX3_takeNumber_52 rfl (lv_at hl 4 rfl) ?_
        refine j_iadd E 54 rfl dX3_takeNumber_53 ?_
        refine j_norm (fun zz8_ rr8_ ee8_ => ?_)
        refine kV_v E (c_X3_emit l D cy T (v_0) o zz8_  t_o rr8_ (show 0 ≤ ((v_0 86) o) ∧ ((v_0 86) o) ≤ 400 from by omega)) mt_X3_emit ml_X3_60 hK hw (cw_rc4 hK hw.1 t_o) hA ⟨Nat.le_of_ble_eq_true rfl, Nat.le_of_ble_eq_true rfl⟩ ⟨Nat.le_of_ble_eq_true rfl, Nat.le_of_ble_eq_true rfl⟩ (As := [.int (J zz8_)]) (rest := []) rfl rfl hl.1 (Nat.le_of_ble_eq_true rfl) 57 rfl dX3_takeNumber_54 (fun v_9 H locs hq9_ hw => ?_)
        obtain ⟨y86_9, ev9_, hh9_⟩ := hq9_
        rw [ev9_] at hw; clear ev9_
        have hw : WK D cy T (upV v_0 86 y86_9) A0 s.heap H locs := cw_eq hw (by first | rfl | (funext j_; simp only [upV, reduceIte]; (repeat' split) <;> first | rfl | omega | (subst_vars; rfl)))
        have hh9_ : 0 ≤ (y86_9 o) ∧ (y86_9 o) ≤ 400 := hh9_
        refine j_aload_n E 58 rfl dX3_takeNumber_57 rfl (lv_at hl 1 rfl) ?_
        refine zV_v E (c_X3_step l D cy T (upV v_0 86 y86_9) κ o  hO t_o  ) mt_X3_step ml_X3_54 hK hZ hAc hw (cw_rc4 hK hw.1 t_o) hA ⟨Nat.le_of_ble_eq_true rfl, Nat.le_of_ble_eq_true rfl⟩ ⟨Nat.le_of_ble_eq_true rfl, Nat.le_of_ble_eq_true rfl⟩ (As := []) (rest := []) rfl rfl hl.1 (Nat.le_of_ble_eq_true rfl) 61 rfl dX3_takeNumber_58 (fun v_10 H locs hq10_ hw => ?_)
        obtain ⟨y83_10, y84_10, ev10_, hh10_⟩ := hq10_
        rw [ev10_] at hw; clear ev10_
        have hw : WK D cy T (upV (upV (upV v_0 83 y83_10) 84 y84_10) 86 y86_9) A0 s.heap H locs := cw_eq hw (by first | rfl | (funext j_; simp only [upV, reduceIte]; (repeat' split) <;> first | rfl | omega | (subst_vars; rfl)))
        exact hret 61 (upV (upV (upV (upV v_0 80 (v_0 80)) 83 y83_10) 84 y84_10) 86 y86_9) _ _ ls (cw_eq hw (by first | rfl | (funext j_; simp only [upV, reduceIte]; (repeat' split) <;> first | rfl | omega | (subst_vars; rfl)))) ⟨(v_0 80), y83_10, y84_10, y86_9, rfl, by first | omega | (simp only [upB_same]; omega)⟩ dX3_takeNumber_61
      · refine j_aload_n E 42 rfl dX3_takeNumber_41 rfl (lv_at hl 1 rfl) ?_
        refine j_iconst E 43 rfl dX3_takeNumber_42 ?_
        refine kV_v E (c_X3_refuse l D cy T (v_0) o 2  t_o (rr (by decide)) ) mt_X3_refuse ml_X3_63 hK hw (cw_rc4 hK hw.1 t_o) hA ⟨Nat.le_of_ble_eq_true rfl, Nat.le_of_ble_eq_true rfl⟩ ⟨Nat.le_of_ble_eq_true rfl, Nat.le_of_ble_eq_true rfl⟩ (As := [.int (J 2)]) (rest := []) rfl rfl hl.1 (Nat.le_of_ble_eq_true rfl) 46 rfl dX3_takeNumber_43 (fun v_11 H locs hq11_ hw => ?_)
        obtain ⟨y80_11, y84_11, ev11_, hh11_⟩ := hq11_
        rw [ev11_] at hw; clear ev11_
        have hw : WK D cy T (upV (upV v_0 80 y80_11) 84 y84_11) A0 s.heap H locs := cw_eq hw (by first | rfl | (funext j_; simp only [upV, reduceIte]; (repeat' split) <;> first | rfl | omega | (subst_vars; rfl)))
        refine j_goto E 61 dX3_takeNumber_46 (by decide) ?_
        exact hret 61 (upV (upV (upV (upV v_0 80 y80_11) 83 (v_0 83)) 84 y84_11) 86 (v_0 86)) _ _ ls (cw_eq hw (by first | rfl | (funext j_; simp only [upV, reduceIte]; (repeat' split) <;> first | rfl | omega | (subst_vars; rfl)))) ⟨y80_11, (v_0 83), y84_11, (v_0 86), rfl, by first | omega | (simp only [upB_same]; omega)⟩ dX3_takeNumber_61
  · refine j_aload_n E 22 rfl dX3_takeNumber_21 rfl (lv_at hl 1 rfl) ?_
    refine j_iconst E 23 rfl dX3_takeNumber_22 ?_
    refine kV_v E (c_X3_refuse l D cy T (v_0) o 1  t_o (rr (by decide)) ) mt_X3_refuse ml_X3_63 hK hw (cw_rc4 hK hw.1 t_o) hA ⟨Nat.le_of_ble_eq_true rfl, Nat.le_of_ble_eq_true rfl⟩ ⟨Nat.le_of_ble_eq_true rfl, Nat.le_of_ble_eq_true rfl⟩ (As := [.int (J 1)]) (rest := []) rfl rfl hl.1 (Nat.le_of_ble_eq_true rfl) 26 rfl dX3_takeNumber_23 (fun v_12 H locs hq12_ hw => ?_)
    obtain ⟨y80_12, y84_12, ev12_, hh12_⟩ := hq12_
    rw [ev12_] at hw; clear ev12_
    have hw : WK D cy T (upV (upV v_0 80 y80_12) 84 y84_12) A0 s.heap H locs := cw_eq hw (by first | rfl | (funext j_; simp only [upV, reduceIte]; (repeat' split) <;> first | rfl | omega | (subst_vars; rfl)))
    refine j_goto E 61 dX3_takeNumber_26 (by decide) ?_
    exact hret 61 (upV (upV (upV (upV v_0 80 y80_12) 83 (v_0 83)) 84 y84_12) 86 (v_0 86)) _ _ ls (cw_eq hw (by first | rfl | (funext j_; simp only [upV, reduceIte]; (repeat' split) <;> first | rfl | omega | (subst_vars; rfl)))) ⟨y80_12, (v_0 83), y84_12, (v_0 86), rfl, by first | omega | (simp only [upB_same]; omega)⟩ dX3_takeNumber_61
set_option maxHeartbeats 4000000 in
set_option maxRecDepth 100000 in
theorem c_X3_readUnit (l : Launch) (D : va_G) (cy : Nat → ClassId) (T : Nat → Nat → Nat) (v_0 : Nat → Nat → Int) (κ : Nat → Nat → Nat) (o : Nat) (hO : ∀ x, ow T x → κ 2 2 ≤ x) (t_o : T 0 o = 4) (hp0 : 0 ≤ (v_0 86 o) ∧ (v_0 86 o) ≤ 400) : KZ l D cy κ T yX3_readUnit cX3_readUnit 1 none 3 [.ref o] v_0 (KV (fun (v_2 : Nat → Nat → Int) => ∃ (y80_2 : Nat → Int) (y83_2 : Nat → Int) (y84_2 : Nat → Int) (y86_2 : Nat → Int) , v_2 = upV (upV (upV (upV v_0 80 y80_2) 83 y83_2) 84 y84_2) 86 y86_2 ∧ (0 ≤ (y86_2 o) ∧ (y86_2 o) ≤ 400))) := by
  refine KZ.ofv (by decide) (Nat.le_of_ble_eq_true rfl) hO ?_
  intro p e s m below meth c ls ar QW A0 H locs E hK hZ hA hAc hw hl hret
  have hl : lv_has ls 1 [(0, .ref o)] := hl
  have hT : WT T := hw.1.2.1
  refine j_aload_n E 1 rfl dX3_readUnit_0 rfl (lv_at hl 0 rfl) ?_
  refine g_84 E hK hw fl_X3_30 t_o (v_0 84 o) rfl 4 rfl dX3_readUnit_1 (fun rr1_ => ?_)
  refine j_sipush E 7 rfl dX3_readUnit_4 (by decide) ?_
  refine j_icmp_ne E 10 27 rfl rr1_ (rr (by decide)) dX3_readUnit_7 (by decide) (fun cc2_ => ?_) (fun cc2_ => ?_)
  · refine j_aload_n E 28 rfl dX3_readUnit_27 rfl (lv_at hl 0 rfl) ?_
    refine g_84 E hK hw fl_X3_30 t_o (v_0 84 o) rfl 31 rfl dX3_readUnit_28 (fun _ => ?_)
    refine kS_i E (c_X8_isFact l D cy T (v_0) (v_0 84 o)   rr1_ ) ms_X8_isFact ml_X3_102 hK hw hA ⟨Nat.le_of_ble_eq_true rfl, Nat.le_of_ble_eq_true rfl⟩ ⟨Nat.le_of_ble_eq_true rfl, Nat.le_of_ble_eq_true rfl⟩ (As := [.int (J (v_0 84 o))]) (rest := []) rfl rfl hl.1 (Nat.le_of_ble_eq_true rfl) 34 rfl dX3_readUnit_31 (fun zz3_ v_3 H locs rr3_ hq3_ hw => ?_)
    obtain ⟨ev3_, hh3_⟩ := hq3_
    rw [ev3_] at hw; clear ev3_
    refine j_if_eq E 37 53 rfl rr3_ dX3_readUnit_34 (by decide) (fun cc4_ => ?_) (fun cc4_ => ?_)
    · refine j_aload_n E 54 rfl dX3_readUnit_53 rfl (lv_at hl 0 rfl) ?_
      refine j_iconst E 55 rfl dX3_readUnit_54 ?_
      refine j_sipush E 58 rfl dX3_readUnit_55 (by decide) ?_
      refine j_iconst E 59 rfl dX3_readUnit_58 ?_
      refine zV_v E (c_X3_takeNumber l D cy T (v_0) κ o 0 9999 0  hO t_o (rr (by decide)) (rr (by decide)) (rr (by decide)) (show 0 ≤ ((v_0 86) o) ∧ ((v_0 86) o) ≤ 400 from by omega)) mt_X3_takeNumber ml_X3_98 hK hZ hAc hw (cw_rc4 hK hw.1 t_o) hA ⟨Nat.le_of_ble_eq_true rfl, Nat.le_of_ble_eq_true rfl⟩ ⟨Nat.le_of_ble_eq_true rfl, Nat.le_of_ble_eq_true rfl⟩ (As := [.int (J 0), .int (J 9999), .int (J 0)]) (rest := []) rfl rfl hl.1 (Nat.le_of_ble_eq_true rfl) 62 rfl dX3_readUnit_59 (fun v_5 H locs hq5_ hw => ?_)
      obtain ⟨y80_5, y83_5, y84_5, y86_5, ev5_, hh5_⟩ := hq5_
      rw [ev5_] at hw; clear ev5_
      have hw : WK D cy T (upV (upV (upV (upV v_0 80 y80_5) 83 y83_5) 84 y84_5) 86 y86_5) A0 s.heap H locs := cw_eq hw (by first | rfl | (funext j_; simp only [upV, reduceIte]; (repeat' split) <;> first | rfl | omega | (subst_vars; rfl)))
      have hh5_ : 0 ≤ (y86_5 o) ∧ (y86_5 o) ≤ 400 := hh5_
      exact hret 62 (upV (upV (upV (upV v_0 80 y80_5) 83 y83_5) 84 y84_5) 86 y86_5) _ _ ls hw ⟨y80_5, y83_5, y84_5, y86_5, rfl, by first | omega | (simp only [upB_same]; omega)⟩ dX3_readUnit_62
    · refine j_aload_n E 38 rfl dX3_readUnit_37 rfl (lv_at hl 0 rfl) ?_
      refine j_aload_n E 39 rfl dX3_readUnit_38 rfl (lv_at hl 0 rfl) ?_
      refine g_84 E hK hw fl_X3_30 t_o (v_0 84 o) rfl 42 rfl dX3_readUnit_39 (fun _ => ?_)
      refine j_ineg E 43 rfl dX3_readUnit_42 ?_
      refine j_norm (fun zz6_ rr6_ ee6_ => ?_)
      refine kV_v E (c_X3_emit l D cy T (v_0) o zz6_  t_o rr6_ (show 0 ≤ ((v_0 86) o) ∧ ((v_0 86) o) ≤ 400 from by omega)) mt_X3_emit ml_X3_60 hK hw (cw_rc4 hK hw.1 t_o) hA ⟨Nat.le_of_ble_eq_true rfl, Nat.le_of_ble_eq_true rfl⟩ ⟨Nat.le_of_ble_eq_true rfl, Nat.le_of_ble_eq_true rfl⟩ (As := [.int (J zz6_)]) (rest := []) rfl rfl hl.1 (Nat.le_of_ble_eq_true rfl) 46 rfl dX3_readUnit_43 (fun v_7 H locs hq7_ hw => ?_)
      obtain ⟨y86_7, ev7_, hh7_⟩ := hq7_
      rw [ev7_] at hw; clear ev7_
      have hw : WK D cy T (upV v_0 86 y86_7) A0 s.heap H locs := cw_eq hw (by first | rfl | (funext j_; simp only [upV, reduceIte]; (repeat' split) <;> first | rfl | omega | (subst_vars; rfl)))
      have hh7_ : 0 ≤ (y86_7 o) ∧ (y86_7 o) ≤ 400 := hh7_
      refine j_aload_n E 47 rfl dX3_readUnit_46 rfl (lv_at hl 0 rfl) ?_
      refine zV_v E (c_X3_step l D cy T (upV v_0 86 y86_7) κ o  hO t_o  ) mt_X3_step ml_X3_54 hK hZ hAc hw (cw_rc4 hK hw.1 t_o) hA ⟨Nat.le_of_ble_eq_true rfl, Nat.le_of_ble_eq_true rfl⟩ ⟨Nat.le_of_ble_eq_true rfl, Nat.le_of_ble_eq_true rfl⟩ (As := []) (rest := []) rfl rfl hl.1 (Nat.le_of_ble_eq_true rfl) 50 rfl dX3_readUnit_47 (fun v_8 H locs hq8_ hw => ?_)
      obtain ⟨y83_8, y84_8, ev8_, hh8_⟩ := hq8_
      rw [ev8_] at hw; clear ev8_
      have hw : WK D cy T (upV (upV (upV v_0 83 y83_8) 84 y84_8) 86 y86_7) A0 s.heap H locs := cw_eq hw (by first | rfl | (funext j_; simp only [upV, reduceIte]; (repeat' split) <;> first | rfl | omega | (subst_vars; rfl)))
      refine j_goto E 62 dX3_readUnit_50 (by decide) ?_
      exact hret 62 (upV (upV (upV (upV v_0 80 (v_0 80)) 83 y83_8) 84 y84_8) 86 y86_7) _ _ ls (cw_eq hw (by first | rfl | (funext j_; simp only [upV, reduceIte]; (repeat' split) <;> first | rfl | omega | (subst_vars; rfl)))) ⟨(v_0 80), y83_8, y84_8, y86_7, rfl, by first | omega | (simp only [upB_same]; omega)⟩ dX3_readUnit_62
  · refine j_aload_n E 11 rfl dX3_readUnit_10 rfl (lv_at hl 0 rfl) ?_
    refine zV_v E (c_X3_step l D cy T (v_0) κ o  hO t_o  ) mt_X3_step ml_X3_54 hK hZ hAc hw (cw_rc4 hK hw.1 t_o) hA ⟨Nat.le_of_ble_eq_true rfl, Nat.le_of_ble_eq_true rfl⟩ ⟨Nat.le_of_ble_eq_true rfl, Nat.le_of_ble_eq_true rfl⟩ (As := []) (rest := []) rfl rfl hl.1 (Nat.le_of_ble_eq_true rfl) 14 rfl dX3_readUnit_11 (fun v_9 H locs hq9_ hw => ?_)
    obtain ⟨y83_9, y84_9, ev9_, hh9_⟩ := hq9_
    rw [ev9_] at hw; clear ev9_
    have hw : WK D cy T (upV (upV v_0 83 y83_9) 84 y84_9) A0 s.heap H locs := cw_eq hw (by first | rfl | (funext j_; simp only [upV, reduceIte]; (repeat' split) <;> first | rfl | omega | (subst_vars; rfl)))
    refine j_aload_n E 15 rfl dX3_readUnit_14 rfl (lv_at hl 0 rfl) ?_
    refine j_iconst E 16 rfl dX3_readUnit_15 ?_
    refine j_bipush E 18 rfl dX3_readUnit_16 (by decide) ?_
    refine j_sipush E 21 rfl dX3_readUnit_18 (by decide) ?_
    refine zV_v E (c_X3_takeNumber l D cy T (upV (upV v_0 83 y83_9) 84 y84_9) κ o 0 23 10000  hO t_o (rr (by decide)) (rr (by decide)) (rr (by decide)) (show 0 ≤ ((v_0 86) o) ∧ ((v_0 86) o) ≤ 400 from by omega)) mt_X3_takeNumber ml_X3_98 hK hZ hAc hw (cw_rc4 hK hw.1 t_o) hA ⟨Nat.le_of_ble_eq_true rfl, Nat.le_of_ble_eq_true rfl⟩ ⟨Nat.le_of_ble_eq_true rfl, Nat.le_of_ble_eq_true rfl⟩ (As := [.int (J 0), .int (J 23), .int (J 10000)]) (rest := []) rfl rfl hl.1 (Nat.le_of_ble_eq_true rfl) 24 rfl dX3_readUnit_21 (fun v_10 H locs hq10_ hw => ?_)
    obtain ⟨y80_10, y83_10, y84_10, y86_10, ev10_, hh10_⟩ := hq10_
    rw [ev10_] at hw; clear ev10_
    have hw : WK D cy T (upV (upV (upV (upV v_0 80 y80_10) 83 y83_10) 84 y84_10) 86 y86_10) A0 s.heap H locs := cw_eq hw (by first | rfl | (funext j_; simp only [upV, reduceIte]; (repeat' split) <;> first | rfl | omega | (subst_vars; rfl)))
    have hh10_ : 0 ≤ (y86_10 o) ∧ (y86_10 o) ≤ 400 := hh10_
    refine j_goto E 62 dX3_readUnit_24 (by decide) ?_
    exact hret 62 (upV (upV (upV (upV v_0 80 y80_10) 83 y83_10) 84 y84_10) 86 y86_10) _ _ ls hw ⟨y80_10, y83_10, y84_10, y86_10, rfl, by first | omega | (simp only [upB_same]; omega)⟩ dX3_readUnit_62
set_option maxHeartbeats 4000000 in
set_option maxRecDepth 100000 in
theorem c_X3_readSum (l : Launch) (D : va_G) (cy : Nat → ClassId) (T : Nat → Nat → Nat) (v_0 : Nat → Nat → Int) (κ : Nat → Nat → Nat) (o : Nat) (hO : ∀ x, ow T x → κ 2 2 ≤ x) (t_o : T 0 o = 4) (hp0 : 0 ≤ (v_0 86 o) ∧ (v_0 86 o) ≤ 400) : KZ l D cy κ T yX3_readSum cX3_readSum 5 none 4 [.ref o] v_0 (KV (fun (v_2 : Nat → Nat → Int) => ∃ (y80_2 : Nat → Int) (y83_2 : Nat → Int) (y84_2 : Nat → Int) (y86_2 : Nat → Int) , v_2 = upV (upV (upV (upV v_0 80 y80_2) 83 y83_2) 84 y84_2) 86 y86_2 ∧ (0 ≤ (y86_2 o) ∧ (y86_2 o) ≤ 400))) := by
  refine KZ.ofv (by decide) (Nat.le_of_ble_eq_true rfl) hO ?_
  intro p e s m below meth c ls ar QW A0 H locs E hK hZ hA hAc hw hl hret
  have hl : lv_has ls 5 [(0, .ref o)] := hl
  have hT : WT T := hw.1.2.1
  refine j_iconst E 1 rfl dX3_readSum_0 ?_
  refine j_istore_n E 2 rfl [(1, .int (J 0)), (0, .ref o)] dX3_readSum_1 rfl hl (by decide) rfl (fun ls hl => ?_)
  refine j_aload_n E 3 rfl dX3_readSum_2 rfl (lv_at hl 1 rfl) ?_
  refine zV_v E (c_X3_readUnit l D cy T (v_0) κ o  hO t_o  (show 0 ≤ ((v_0 86) o) ∧ ((v_0 86) o) ≤ 400 from by omega)) mt_X3_readUnit ml_X3_91 hK hZ hAc hw (cw_rc4 hK hw.1 t_o) hA ⟨Nat.le_of_ble_eq_true rfl, Nat.le_of_ble_eq_true rfl⟩ ⟨Nat.le_of_ble_eq_true rfl, Nat.le_of_ble_eq_true rfl⟩ (As := []) (rest := []) rfl rfl hl.1 (Nat.le_of_ble_eq_true rfl) 6 rfl dX3_readSum_3 (fun v_1 H locs hq1_ hw => ?_)
  obtain ⟨y80_1, y83_1, y84_1, y86_1, ev1_, hh1_⟩ := hq1_
  rw [ev1_] at hw; clear ev1_
  have hw : WK D cy T (upV (upV (upV (upV v_0 80 y80_1) 83 y83_1) 84 y84_1) 86 y86_1) A0 s.heap H locs := cw_eq hw (by first | rfl | (funext j_; simp only [upV, reduceIte]; (repeat' split) <;> first | rfl | omega | (subst_vars; rfl)))
  have hh1_ : 0 ≤ (y86_1 o) ∧ (y86_1 o) ≤ 400 := hh1_
  refine j_iconst E 7 rfl dX3_readSum_6 ?_
  refine j_istore_n E 8 rfl [(2, .int (J 0)), (1, .int (J 0)), (0, .ref o)] dX3_readSum_7 rfl hl (by decide) rfl (fun ls hl => ?_)
  have L8_2 : ∀ (k8 : Nat) (l1_8 l2_8 : Int) (y80_c8 : Nat → Int) (y83_c8 : Nat → Int) (y84_c8 : Nat → Int) (y86_c8 : Nat → Int) (H : Heap) (locs : List Loc) (ls : Array Slot), inR l1_8 → inR l2_8 → (0 ≤ (y86_c8 o) ∧ (y86_c8 o) ≤ 400) → (400 - l2_8).toNat < k8 → WK D cy T (upV (upV (upV (upV v_0 80 y80_c8) 83 y83_c8) 84 y84_c8) 86 y86_c8) A0 s.heap H locs → lv_has ls 5 [(0, .ref o), (1, .int (J l1_8)), (2, .int (J l2_8))] → W p l e (rmd 4 0 0) s m ar below meth c H locs 0 0 QW (F0 m 8 ls []) := by
    intro k8
    induction k8 with
    | zero =>
      intro l1_8 l2_8 y80_c8 y83_c8 y84_c8 y86_c8 H locs ls r_l1_8 r_l2_8 iv8 ms8 hw hl
      exact absurd ms8 (Nat.not_lt_zero _)
    | succ k8 ih8 =>
      intro l1_8 l2_8 y80_c8 y83_c8 y84_c8 y86_c8 H locs ls r_l1_8 r_l2_8 iv8 ms8 hw hl
      refine j_iload_n E 9 rfl dX3_readSum_8 rfl (lv_at hl 2 rfl) ?_
      refine j_sipush E 12 rfl dX3_readSum_9 (by decide) ?_
      refine j_icmp_ge E 15 112 rfl r_l2_8 (rr (by decide)) dX3_readSum_12 (by decide) (fun cc4_ => ?_) (fun cc4_ => ?_)
      · refine j_iload_n E 113 rfl dX3_readSum_112 rfl (lv_at hl 1 rfl) ?_
        refine j_if_eq E 116 122 rfl r_l1_8 dX3_readSum_113 (by decide) (fun cc5_ => ?_) (fun cc5_ => ?_)
        · exact hret 122 (upV (upV (upV (upV v_0 80 y80_c8) 83 y83_c8) 84 y84_c8) 86 y86_c8) _ _ ls hw ⟨y80_c8, y83_c8, y84_c8, y86_c8, rfl, by first | omega | (simp only [upB_same]; omega)⟩ dX3_readSum_122
        · refine j_aload_n E 117 rfl dX3_readSum_116 rfl (lv_at hl 0 rfl) ?_
          refine j_iload_n E 118 rfl dX3_readSum_117 rfl (lv_at hl 1 rfl) ?_
          refine j_ineg E 119 rfl dX3_readSum_118 ?_
          refine j_norm (fun zz6_ rr6_ ee6_ => ?_)
          refine kV_v E (c_X3_emit l D cy T (upV (upV (upV (upV v_0 80 y80_c8) 83 y83_c8) 84 y84_c8) 86 y86_c8) o zz6_  t_o rr6_ (show 0 ≤ (y86_c8 o) ∧ (y86_c8 o) ≤ 400 from by omega)) mt_X3_emit ml_X3_60 hK hw (cw_rc4 hK hw.1 t_o) hA ⟨Nat.le_of_ble_eq_true rfl, Nat.le_of_ble_eq_true rfl⟩ ⟨Nat.le_of_ble_eq_true rfl, Nat.le_of_ble_eq_true rfl⟩ (As := [.int (J zz6_)]) (rest := []) rfl rfl hl.1 (Nat.le_of_ble_eq_true rfl) 122 rfl dX3_readSum_119 (fun v_7 H locs hq7_ hw => ?_)
          obtain ⟨y86_7, ev7_, hh7_⟩ := hq7_
          rw [ev7_] at hw; clear ev7_
          have hw : WK D cy T (upV (upV (upV (upV v_0 80 y80_c8) 83 y83_c8) 84 y84_c8) 86 y86_7) A0 s.heap H locs := cw_eq hw (by first | rfl | (funext j_; simp only [upV, reduceIte]; (repeat' split) <;> first | rfl | omega | (subst_vars; rfl)))
          have hh7_ : 0 ≤ (y86_7 o) ∧ (y86_7 o) ≤ 400 := hh7_
          exact hret 122 (upV (upV (upV (upV v_0 80 y80_c8) 83 y83_c8) 84 y84_c8) 86 y86_7) _ _ ls hw ⟨y80_c8, y83_c8, y84_c8, y86_7, rfl, by first | omega | (simp only [upB_same]; omega)⟩ dX3_readSum_122
      · refine j_aload_n E 16 rfl dX3_readSum_15 rfl (lv_at hl 0 rfl) ?_
        refine g_84 E hK hw fl_X3_30 t_o (y84_c8 o) rfl 19 rfl dX3_readSum_16 (fun rr8_ => ?_)
        refine kS_i E (c_X8_isReckoning l D cy T (upV (upV (upV (upV v_0 80 y80_c8) 83 y83_c8) 84 y84_c8) 86 y86_c8) (y84_c8 o)   rr8_ ) ms_X8_isReckoning ml_X3_94 hK hw hA ⟨Nat.le_of_ble_eq_true rfl, Nat.le_of_ble_eq_true rfl⟩ ⟨Nat.le_of_ble_eq_true rfl, Nat.le_of_ble_eq_true rfl⟩ (As := [.int (J (y84_c8 o))]) (rest := []) rfl rfl hl.1 (Nat.le_of_ble_eq_true rfl) 22 rfl dX3_readSum_19 (fun zz9_ v_9 H locs rr9_ hq9_ hw => ?_)
        obtain ⟨ev9_, hh9_⟩ := hq9_
        rw [ev9_] at hw; clear ev9_
        refine j_if_eq E 25 112 rfl rr9_ dX3_readSum_22 (by decide) (fun cc10_ => ?_) (fun cc10_ => ?_)
        · refine j_iload_n E 113 rfl dX3_readSum_112 rfl (lv_at hl 1 rfl) ?_
          refine j_if_eq E 116 122 rfl r_l1_8 dX3_readSum_113 (by decide) (fun cc11_ => ?_) (fun cc11_ => ?_)
          · exact hret 122 (upV (upV (upV (upV v_0 80 y80_c8) 83 y83_c8) 84 y84_c8) 86 y86_c8) _ _ ls hw ⟨y80_c8, y83_c8, y84_c8, y86_c8, rfl, by first | omega | (simp only [upB_same]; omega)⟩ dX3_readSum_122
          · refine j_aload_n E 117 rfl dX3_readSum_116 rfl (lv_at hl 0 rfl) ?_
            refine j_iload_n E 118 rfl dX3_readSum_117 rfl (lv_at hl 1 rfl) ?_
            refine j_ineg E 119 rfl dX3_readSum_118 ?_
            refine j_norm (fun zz12_ rr12_ ee12_ => ?_)
            refine kV_v E (c_X3_emit l D cy T (upV (upV (upV (upV v_0 80 y80_c8) 83 y83_c8) 84 y84_c8) 86 y86_c8) o zz12_  t_o rr12_ (show 0 ≤ (y86_c8 o) ∧ (y86_c8 o) ≤ 400 from by omega)) mt_X3_emit ml_X3_60 hK hw (cw_rc4 hK hw.1 t_o) hA ⟨Nat.le_of_ble_eq_true rfl, Nat.le_of_ble_eq_true rfl⟩ ⟨Nat.le_of_ble_eq_true rfl, Nat.le_of_ble_eq_true rfl⟩ (As := [.int (J zz12_)]) (rest := []) rfl rfl hl.1 (Nat.le_of_ble_eq_true rfl) 122 rfl dX3_readSum_119 (fun v_13 H locs hq13_ hw => ?_)
            obtain ⟨y86_13, ev13_, hh13_⟩ := hq13_
            rw [ev13_] at hw; clear ev13_
            have hw : WK D cy T (upV (upV (upV (upV v_0 80 y80_c8) 83 y83_c8) 84 y84_c8) 86 y86_13) A0 s.heap H locs := cw_eq hw (by first | rfl | (funext j_; simp only [upV, reduceIte]; (repeat' split) <;> first | rfl | omega | (subst_vars; rfl)))
            have hh13_ : 0 ≤ (y86_13 o) ∧ (y86_13 o) ≤ 400 := hh13_
            exact hret 122 (upV (upV (upV (upV v_0 80 y80_c8) 83 y83_c8) 84 y84_c8) 86 y86_13) _ _ ls hw ⟨y80_c8, y83_c8, y84_c8, y86_13, rfl, by first | omega | (simp only [upB_same]; omega)⟩ dX3_readSum_122
        · refine j_aload_n E 26 rfl dX3_readSum_25 rfl (lv_at hl 0 rfl) ?_
          refine g_84 E hK hw fl_X3_30 t_o (y84_c8 o) rfl 29 rfl dX3_readSum_26 (fun _ => ?_)
          refine j_istore_n E 30 rfl [(3, .int (J (y84_c8 o))), (0, .ref o), (1, .int (J l1_8)), (2, .int (J l2_8))] dX3_readSum_29 rfl hl (by decide) rfl (fun ls hl => ?_)
          have L47_14 : ∀ (s0_47 : Int) (H : Heap) (locs : List Loc) (ls : Array Slot), inR s0_47 → (True) → WK D cy T (upV (upV (upV (upV v_0 80 y80_c8) 83 y83_c8) 84 y84_c8) 86 y86_c8) A0 s.heap H locs → lv_has ls 5 [(0, .ref o), (1, .int (J l1_8)), (2, .int (J l2_8)), (3, .int (J (y84_c8 o)))] → W p l e (rmd 4 0 0) s m ar below meth c H locs 0 0 QW (F0 m 47 ls [.int (J s0_47)]) := by
            intro s0_47 H locs ls r_s0_47 iv47 hw hl
            refine j_istore E 49 rfl [(4, .int (J s0_47)), (0, .ref o), (1, .int (J l1_8)), (2, .int (J l2_8)), (3, .int (J (y84_c8 o)))] dX3_readSum_47 hl (by decide) rfl (fun ls hl => ?_)
            have L64_16 : ∀ (y86_c64 : Nat → Int) (H : Heap) (locs : List Loc) (ls : Array Slot), (0 ≤ (y86_c64 o) ∧ (y86_c64 o) ≤ 400) → WK D cy T (upV (upV (upV (upV v_0 80 y80_c8) 83 y83_c8) 84 y84_c8) 86 y86_c64) A0 s.heap H locs → lv_has ls 5 [(0, .ref o), (1, .int (J l1_8)), (2, .int (J l2_8)), (3, .int (J (y84_c8 o))), (4, .int (J s0_47))] → W p l e (rmd 4 0 0) s m ar below meth c H locs 0 0 QW (F0 m 64 ls []) := by
              intro y86_c64 H locs ls iv64 hw hl
              refine j_aload_n E 65 rfl dX3_readSum_64 rfl (lv_at hl 0 rfl) ?_
              refine zV_v E (c_X3_step l D cy T (upV (upV (upV (upV v_0 80 y80_c8) 83 y83_c8) 84 y84_c8) 86 y86_c64) κ o  hO t_o  ) mt_X3_step ml_X3_54 hK hZ hAc hw (cw_rc4 hK hw.1 t_o) hA ⟨Nat.le_of_ble_eq_true rfl, Nat.le_of_ble_eq_true rfl⟩ ⟨Nat.le_of_ble_eq_true rfl, Nat.le_of_ble_eq_true rfl⟩ (As := []) (rest := []) rfl rfl hl.1 (Nat.le_of_ble_eq_true rfl) 68 rfl dX3_readSum_65 (fun v_18 H locs hq18_ hw => ?_)
              obtain ⟨y83_18, y84_18, ev18_, hh18_⟩ := hq18_
              rw [ev18_] at hw; clear ev18_
              have hw : WK D cy T (upV (upV (upV (upV v_0 80 y80_c8) 83 y83_18) 84 y84_18) 86 y86_c64) A0 s.heap H locs := cw_eq hw (by first | rfl | (funext j_; simp only [upV, reduceIte]; (repeat' split) <;> first | rfl | omega | (subst_vars; rfl)))
              have L90_19 : ∀ (y80_c90 : Nat → Int) (y83_c90 : Nat → Int) (y84_c90 : Nat → Int) (y86_c90 : Nat → Int) (H : Heap) (locs : List Loc) (ls : Array Slot), (0 ≤ (y86_c90 o) ∧ (y86_c90 o) ≤ 400) → WK D cy T (upV (upV (upV (upV v_0 80 y80_c90) 83 y83_c90) 84 y84_c90) 86 y86_c90) A0 s.heap H locs → lv_has ls 5 [(0, .ref o), (1, .int (J l1_8)), (2, .int (J l2_8)), (3, .int (J (y84_c8 o))), (4, .int (J s0_47))] → W p l e (rmd 4 0 0) s m ar below meth c H locs 0 0 QW (F0 m 90 ls []) := by
                intro y80_c90 y83_c90 y84_c90 y86_c90 H locs ls iv90 hw hl
                refine j_iload E 92 rfl dX3_readSum_90 (lv_at hl 4 rfl) ?_
                refine j_if_eq E 95 104 rfl r_s0_47 dX3_readSum_92 (by decide) (fun cc21_ => ?_) (fun cc21_ => ?_)
                · refine j_iload_n E 105 rfl dX3_readSum_104 rfl (lv_at hl 3 rfl) ?_
                  refine j_istore_n E 106 rfl [(1, .int (J (y84_c8 o))), (0, .ref o), (2, .int (J l2_8)), (3, .int (J (y84_c8 o))), (4, .int (J s0_47))] dX3_readSum_105 rfl hl (by decide) rfl (fun ls hl => ?_)
                  refine j_iinc E 109 rfl [(2, .int (J (l2_8 + 1))), (1, .int (J (y84_c8 o))), (0, .ref o), (3, .int (J (y84_c8 o))), (4, .int (J s0_47))] dX3_readSum_106 hl (kk := 2) rfl (by decide) rfl (fun ls hl => ?_)
                  refine j_goto E 8 dX3_readSum_109 (by decide) ?_
                  exact ih8 (y84_c8 o) (l2_8 + 1) y80_c90 y83_c90 y84_c90 y86_c90 H locs ls rr8_ (rr (by omega)) (by first | omega | (simp only [upB_same]; omega)) (by omega) hw (lv_sub hl [2, 1, 0] rfl)
                · refine j_aload_n E 96 rfl dX3_readSum_95 rfl (lv_at hl 0 rfl) ?_
                  refine j_iload_n E 97 rfl dX3_readSum_96 rfl (lv_at hl 3 rfl) ?_
                  refine j_ineg E 98 rfl dX3_readSum_97 ?_
                  refine j_norm (fun zz22_ rr22_ ee22_ => ?_)
                  refine kV_v E (c_X3_emit l D cy T (upV (upV (upV (upV v_0 80 y80_c90) 83 y83_c90) 84 y84_c90) 86 y86_c90) o zz22_  t_o rr22_ (show 0 ≤ (y86_c90 o) ∧ (y86_c90 o) ≤ 400 from by omega)) mt_X3_emit ml_X3_60 hK hw (cw_rc4 hK hw.1 t_o) hA ⟨Nat.le_of_ble_eq_true rfl, Nat.le_of_ble_eq_true rfl⟩ ⟨Nat.le_of_ble_eq_true rfl, Nat.le_of_ble_eq_true rfl⟩ (As := [.int (J zz22_)]) (rest := []) rfl rfl hl.1 (Nat.le_of_ble_eq_true rfl) 101 rfl dX3_readSum_98 (fun v_23 H locs hq23_ hw => ?_)
                  obtain ⟨y86_23, ev23_, hh23_⟩ := hq23_
                  rw [ev23_] at hw; clear ev23_
                  have hw : WK D cy T (upV (upV (upV (upV v_0 80 y80_c90) 83 y83_c90) 84 y84_c90) 86 y86_23) A0 s.heap H locs := cw_eq hw (by first | rfl | (funext j_; simp only [upV, reduceIte]; (repeat' split) <;> first | rfl | omega | (subst_vars; rfl)))
                  have hh23_ : 0 ≤ (y86_23 o) ∧ (y86_23 o) ≤ 400 := hh23_
                  refine j_goto E 106 dX3_readSum_101 (by decide) ?_
                  refine j_iinc E 109 rfl [(2, .int (J (l2_8 + 1))), (0, .ref o), (1, .int (J l1_8)), (3, .int (J (y84_c8 o))), (4, .int (J s0_47))] dX3_readSum_106 hl (kk := 2) rfl (by decide) rfl (fun ls hl => ?_)
                  refine j_goto E 8 dX3_readSum_109 (by decide) ?_
                  exact ih8 l1_8 (l2_8 + 1) y80_c90 y83_c90 y84_c90 y86_23 H locs ls r_l1_8 (rr (by omega)) (by first | omega | (simp only [upB_same]; omega)) (by omega) hw (lv_sub hl [1, 2, 0] rfl)
              refine j_iload_n E 69 rfl dX3_readSum_68 rfl (lv_at hl 3 rfl) ?_
              refine j_bipush E 71 rfl dX3_readSum_69 (by decide) ?_
              refine j_icmp_ne E 74 86 rfl rr8_ (rr (by decide)) dX3_readSum_71 (by decide) (fun cc24_ => ?_) (fun cc24_ => ?_)
              · refine j_aload_n E 87 rfl dX3_readSum_86 rfl (lv_at hl 0 rfl) ?_
                refine zV_v E (c_X3_readUnit l D cy T (upV (upV (upV (upV v_0 80 y80_c8) 83 y83_18) 84 y84_18) 86 y86_c64) κ o  hO t_o  (show 0 ≤ (y86_c64 o) ∧ (y86_c64 o) ≤ 400 from by omega)) mt_X3_readUnit ml_X3_91 hK hZ hAc hw (cw_rc4 hK hw.1 t_o) hA ⟨Nat.le_of_ble_eq_true rfl, Nat.le_of_ble_eq_true rfl⟩ ⟨Nat.le_of_ble_eq_true rfl, Nat.le_of_ble_eq_true rfl⟩ (As := []) (rest := []) rfl rfl hl.1 (Nat.le_of_ble_eq_true rfl) 90 rfl dX3_readSum_87 (fun v_25 H locs hq25_ hw => ?_)
                obtain ⟨y80_25, y83_25, y84_25, y86_25, ev25_, hh25_⟩ := hq25_
                rw [ev25_] at hw; clear ev25_
                have hw : WK D cy T (upV (upV (upV (upV v_0 80 y80_25) 83 y83_25) 84 y84_25) 86 y86_25) A0 s.heap H locs := cw_eq hw (by first | rfl | (funext j_; simp only [upV, reduceIte]; (repeat' split) <;> first | rfl | omega | (subst_vars; rfl)))
                have hh25_ : 0 ≤ (y86_25 o) ∧ (y86_25 o) ≤ 400 := hh25_
                exact L90_19  y80_25 y83_25 y84_25 y86_25 H locs ls  (by first | omega | (simp only [upB_same]; omega)) hw (lv_sub hl [0, 1, 2, 3, 4] rfl)
              · refine j_aload_n E 75 rfl dX3_readSum_74 rfl (lv_at hl 0 rfl) ?_
                refine j_iconst E 76 rfl dX3_readSum_75 ?_
                refine j_sipush E 79 rfl dX3_readSum_76 (by decide) ?_
                refine j_iconst E 80 rfl dX3_readSum_79 ?_
                refine zV_v E (c_X3_takeNumber l D cy T (upV (upV (upV (upV v_0 80 y80_c8) 83 y83_18) 84 y84_18) 86 y86_c64) κ o 1 9999 0  hO t_o (rr (by decide)) (rr (by decide)) (rr (by decide)) (show 0 ≤ (y86_c64 o) ∧ (y86_c64 o) ≤ 400 from by omega)) mt_X3_takeNumber ml_X3_98 hK hZ hAc hw (cw_rc4 hK hw.1 t_o) hA ⟨Nat.le_of_ble_eq_true rfl, Nat.le_of_ble_eq_true rfl⟩ ⟨Nat.le_of_ble_eq_true rfl, Nat.le_of_ble_eq_true rfl⟩ (As := [.int (J 1), .int (J 9999), .int (J 0)]) (rest := []) rfl rfl hl.1 (Nat.le_of_ble_eq_true rfl) 83 rfl dX3_readSum_80 (fun v_26 H locs hq26_ hw => ?_)
                obtain ⟨y80_26, y83_26, y84_26, y86_26, ev26_, hh26_⟩ := hq26_
                rw [ev26_] at hw; clear ev26_
                have hw : WK D cy T (upV (upV (upV (upV v_0 80 y80_26) 83 y83_26) 84 y84_26) 86 y86_26) A0 s.heap H locs := cw_eq hw (by first | rfl | (funext j_; simp only [upV, reduceIte]; (repeat' split) <;> first | rfl | omega | (subst_vars; rfl)))
                have hh26_ : 0 ≤ (y86_26 o) ∧ (y86_26 o) ≤ 400 := hh26_
                refine j_goto E 90 dX3_readSum_83 (by decide) ?_
                exact L90_19  y80_26 y83_26 y84_26 y86_26 H locs ls  (by first | omega | (simp only [upB_same]; omega)) hw (lv_sub hl [0, 1, 2, 3, 4] rfl)
            refine j_iload E 51 rfl dX3_readSum_49 (lv_at hl 0 rfl) ?_
            refine j_if_ne E 54 64 rfl r_s0_47 dX3_readSum_51 (by decide) (fun cc27_ => ?_) (fun cc27_ => ?_)
            · exact L64_16  y86_c8 H locs ls  (by first | omega | (simp only [upB_same]; omega)) hw (lv_sub hl [1, 2, 3, 4, 0] rfl)
            · refine j_iload_n E 55 rfl dX3_readSum_54 rfl (lv_at hl 2 rfl) ?_
              refine j_if_eq E 58 64 rfl r_l1_8 dX3_readSum_55 (by decide) (fun cc28_ => ?_) (fun cc28_ => ?_)
              · exact L64_16  y86_c8 H locs ls  (by first | omega | (simp only [upB_same]; omega)) hw (lv_sub hl [1, 2, 3, 4, 0] rfl)
              · refine j_aload_n E 59 rfl dX3_readSum_58 rfl (lv_at hl 1 rfl) ?_
                refine j_iload_n E 60 rfl dX3_readSum_59 rfl (lv_at hl 2 rfl) ?_
                refine j_ineg E 61 rfl dX3_readSum_60 ?_
                refine j_norm (fun zz29_ rr29_ ee29_ => ?_)
                refine kV_v E (c_X3_emit l D cy T (upV (upV (upV (upV v_0 80 y80_c8) 83 y83_c8) 84 y84_c8) 86 y86_c8) o zz29_  t_o rr29_ (show 0 ≤ (y86_c8 o) ∧ (y86_c8 o) ≤ 400 from by omega)) mt_X3_emit ml_X3_60 hK hw (cw_rc4 hK hw.1 t_o) hA ⟨Nat.le_of_ble_eq_true rfl, Nat.le_of_ble_eq_true rfl⟩ ⟨Nat.le_of_ble_eq_true rfl, Nat.le_of_ble_eq_true rfl⟩ (As := [.int (J zz29_)]) (rest := []) rfl rfl hl.1 (Nat.le_of_ble_eq_true rfl) 64 rfl dX3_readSum_61 (fun v_30 H locs hq30_ hw => ?_)
                obtain ⟨y86_30, ev30_, hh30_⟩ := hq30_
                rw [ev30_] at hw; clear ev30_
                have hw : WK D cy T (upV (upV (upV (upV v_0 80 y80_c8) 83 y83_c8) 84 y84_c8) 86 y86_30) A0 s.heap H locs := cw_eq hw (by first | rfl | (funext j_; simp only [upV, reduceIte]; (repeat' split) <;> first | rfl | omega | (subst_vars; rfl)))
                have hh30_ : 0 ≤ (y86_30 o) ∧ (y86_30 o) ≤ 400 := hh30_
                exact L64_16  y86_30 H locs ls  (by first | omega | (simp only [upB_same]; omega)) hw (lv_sub hl [1, 2, 3, 4, 0] rfl)
          refine j_iload_n E 31 rfl dX3_readSum_30 rfl (lv_at hl 0 rfl) ?_
          refine j_bipush E 33 rfl dX3_readSum_31 (by decide) ?_
          refine j_icmp_eq E 36 42 rfl rr8_ (rr (by decide)) dX3_readSum_33 (by decide) (fun cc31_ => ?_) (fun cc31_ => ?_)
          · refine j_iconst E 43 rfl dX3_readSum_42 ?_
            refine j_goto E 47 dX3_readSum_43 (by decide) ?_
            exact L47_14 1  H locs ls (rr (by decide)) (trivial) hw (lv_sub hl [1, 2, 3, 0] rfl)
          · refine j_iload_n E 37 rfl dX3_readSum_36 rfl (lv_at hl 0 rfl) ?_
            refine j_bipush E 39 rfl dX3_readSum_37 (by decide) ?_
            refine j_icmp_ne E 42 46 rfl rr8_ (rr (by decide)) dX3_readSum_39 (by decide) (fun cc32_ => ?_) (fun cc32_ => ?_)
            · refine j_iconst E 47 rfl dX3_readSum_46 ?_
              exact L47_14 0  H locs ls (rr (by decide)) (trivial) hw (lv_sub hl [1, 2, 3, 0] rfl)
            · refine j_iconst E 43 rfl dX3_readSum_42 ?_
              refine j_goto E 47 dX3_readSum_43 (by decide) ?_
              exact L47_14 1  H locs ls (rr (by decide)) (trivial) hw (lv_sub hl [1, 2, 3, 0] rfl)
  exact L8_2 _ 0 0 y80_1 y83_1 y84_1 y86_1 H locs ls (rr (by decide)) (rr (by decide)) (by first | omega | (simp only [upB_same]; omega)) (Nat.lt_succ_self _) hw (lv_sub hl [2, 1, 0] rfl)
set_option maxHeartbeats 4000000 in
set_option maxRecDepth 100000 in
theorem c_X3_readCondition_n8 (l : Launch) (D : va_G) (cy : Nat → ClassId) (T : Nat → Nat → Nat) (v_0 : Nat → Nat → Int) (κ : Nat → Nat → Nat) (o : Nat) (hO : ∀ x, ow T x → κ 2 2 ≤ x) (t_o : T 0 o = 4) (hp0 : 0 ≤ (v_0 86 o) ∧ (v_0 86 o) ≤ 400) : KZ l D cy κ T yX3_readCondition cX3_readCondition 4 none 5 [.ref o, .int (J 8)] v_0 (KV (fun (v_2 : Nat → Nat → Int) => ∃ (y80_2 : Nat → Int) (y83_2 : Nat → Int) (y84_2 : Nat → Int) (y86_2 : Nat → Int) , v_2 = upV (upV (upV (upV v_0 80 y80_2) 83 y83_2) 84 y84_2) 86 y86_2 ∧ (0 ≤ (y86_2 o) ∧ (y86_2 o) ≤ 400))) := by
  refine KZ.ofv (by decide) (Nat.le_of_ble_eq_true rfl) hO ?_
  intro p e s m below meth c ls ar QW A0 H locs E hK hZ hA hAc hw hl hret
  have hl : lv_has ls 4 [(0, .ref o), (1, .int (J 8))] := hl
  have hT : WT T := hw.1.2.1
  refine j_aload_n E 1 rfl dX3_readCondition_0 rfl (lv_at hl 0 rfl) ?_
  refine g_84 E hK hw fl_X3_30 t_o (v_0 84 o) rfl 4 rfl dX3_readCondition_1 (fun rr1_ => ?_)
  refine j_bipush E 6 rfl dX3_readCondition_4 (by decide) ?_
  refine j_icmp_eq E 9 19 rfl rr1_ (rr (by decide)) dX3_readCondition_6 (by decide) (fun cc2_ => ?_) (fun cc2_ => ?_)
  · refine j_iconst E 20 rfl dX3_readCondition_19 ?_
    refine j_goto E 24 dX3_readCondition_20 (by decide) ?_
    refine j_istore_n E 25 rfl [(2, .int (J 1)), (0, .ref o), (1, .int (J 8))] dX3_readCondition_24 rfl hl (by decide) rfl (fun ls hl => ?_)
    refine j_iload_n E 26 rfl dX3_readCondition_25 rfl (lv_at hl 0 rfl) ?_
    refine j_if_eq E 29 43 rfl (rr (by decide)) dX3_readCondition_26 (by decide) (fun cc3_ => absurd cc3_ (by decide)) (fun _ => ?_)
    refine j_iload_n E 30 rfl dX3_readCondition_29 rfl (lv_at hl 2 rfl) ?_
    refine j_bipush E 32 rfl dX3_readCondition_30 (by decide) ?_
    refine j_icmp_lt E 35 43 rfl (rr (by decide)) (rr (by decide)) dX3_readCondition_32 (by decide) (fun cc4_ => absurd cc4_ (by decide)) (fun _ => ?_)
    refine j_aload_n E 36 rfl dX3_readCondition_35 rfl (lv_at hl 1 rfl) ?_
    refine j_iconst E 37 rfl dX3_readCondition_36 ?_
    refine kV_v E (c_X3_refuse l D cy T (v_0) o 3  t_o (rr (by decide)) ) mt_X3_refuse ml_X3_63 hK hw (cw_rc4 hK hw.1 t_o) hA ⟨Nat.le_of_ble_eq_true rfl, Nat.le_of_ble_eq_true rfl⟩ ⟨Nat.le_of_ble_eq_true rfl, Nat.le_of_ble_eq_true rfl⟩ (As := [.int (J 3)]) (rest := []) rfl rfl hl.1 (Nat.le_of_ble_eq_true rfl) 40 rfl dX3_readCondition_37 (fun v_5 H locs hq5_ hw => ?_)
    obtain ⟨y80_5, y84_5, ev5_, hh5_⟩ := hq5_
    rw [ev5_] at hw; clear ev5_
    have hw : WK D cy T (upV (upV v_0 80 y80_5) 84 y84_5) A0 s.heap H locs := cw_eq hw (by first | rfl | (funext j_; simp only [upV, reduceIte]; (repeat' split) <;> first | rfl | omega | (subst_vars; rfl)))
    refine j_goto E 126 dX3_readCondition_40 (by decide) ?_
    exact hret 126 (upV (upV (upV (upV v_0 80 y80_5) 83 (v_0 83)) 84 y84_5) 86 (v_0 86)) _ _ ls (cw_eq hw (by first | rfl | (funext j_; simp only [upV, reduceIte]; (repeat' split) <;> first | rfl | omega | (subst_vars; rfl)))) ⟨y80_5, (v_0 83), y84_5, (v_0 86), rfl, by first | omega | (simp only [upB_same]; omega)⟩ dX3_readCondition_126
  · refine j_aload_n E 10 rfl dX3_readCondition_9 rfl (lv_at hl 0 rfl) ?_
    refine g_84 E hK hw fl_X3_30 t_o (v_0 84 o) rfl 13 rfl dX3_readCondition_10 (fun _ => ?_)
    refine j_sipush E 16 rfl dX3_readCondition_13 (by decide) ?_
    refine j_icmp_ne E 19 23 rfl rr1_ (rr (by decide)) dX3_readCondition_16 (by decide) (fun cc6_ => ?_) (fun cc6_ => ?_)
    · refine j_iconst E 24 rfl dX3_readCondition_23 ?_
      refine j_istore_n E 25 rfl [(2, .int (J 0)), (0, .ref o), (1, .int (J 8))] dX3_readCondition_24 rfl hl (by decide) rfl (fun ls hl => ?_)
      refine j_iload_n E 26 rfl dX3_readCondition_25 rfl (lv_at hl 0 rfl) ?_
      refine j_if_eq E 29 43 rfl (rr (by decide)) dX3_readCondition_26 (by decide) (fun _ => ?_) (fun cc7_ => absurd cc7_ (by decide))
      refine j_aload_n E 44 rfl dX3_readCondition_43 rfl (lv_at hl 1 rfl) ?_
      refine g_84 E hK hw fl_X3_30 t_o (v_0 84 o) rfl 47 rfl dX3_readCondition_44 (fun _ => ?_)
      refine j_bipush E 49 rfl dX3_readCondition_47 (by decide) ?_
      refine j_icmp_ne E 52 72 rfl rr1_ (rr (by decide)) dX3_readCondition_49 (by decide) (fun cc8_ => ?_) (fun cc8_ => ?_)
      rotate_left; · exfalso; omega
      refine j_aload_n E 73 rfl dX3_readCondition_72 rfl (lv_at hl 1 rfl) ?_
      refine g_84 E hK hw fl_X3_30 t_o (v_0 84 o) rfl 76 rfl dX3_readCondition_73 (fun _ => ?_)
      refine j_sipush E 79 rfl dX3_readCondition_76 (by decide) ?_
      refine j_icmp_ne E 82 103 rfl rr1_ (rr (by decide)) dX3_readCondition_79 (by decide) (fun cc9_ => ?_) (fun cc9_ => ?_)
      rotate_left; · exfalso; omega
      refine j_aload_n E 104 rfl dX3_readCondition_103 rfl (lv_at hl 1 rfl) ?_
      refine zV_v E (c_X3_readSum l D cy T (v_0) κ o  hO t_o  (show 0 ≤ ((v_0 86) o) ∧ ((v_0 86) o) ≤ 400 from by omega)) mt_X3_readSum ml_X3_51 hK hZ hAc hw (cw_rc4 hK hw.1 t_o) hA ⟨Nat.le_of_ble_eq_true rfl, Nat.le_of_ble_eq_true rfl⟩ ⟨Nat.le_of_ble_eq_true rfl, Nat.le_of_ble_eq_true rfl⟩ (As := []) (rest := []) rfl rfl hl.1 (Nat.le_of_ble_eq_true rfl) 107 rfl dX3_readCondition_104 (fun v_10 H locs hq10_ hw => ?_)
      obtain ⟨y80_10, y83_10, y84_10, y86_10, ev10_, hh10_⟩ := hq10_
      rw [ev10_] at hw; clear ev10_
      have hw : WK D cy T (upV (upV (upV (upV v_0 80 y80_10) 83 y83_10) 84 y84_10) 86 y86_10) A0 s.heap H locs := cw_eq hw (by first | rfl | (funext j_; simp only [upV, reduceIte]; (repeat' split) <;> first | rfl | omega | (subst_vars; rfl)))
      have hh10_ : 0 ≤ (y86_10 o) ∧ (y86_10 o) ≤ 400 := hh10_
      refine j_aload_n E 108 rfl dX3_readCondition_107 rfl (lv_at hl 1 rfl) ?_
      refine g_84 E hK hw fl_X3_30 t_o (y84_10 o) rfl 111 rfl dX3_readCondition_108 (fun rr11_ => ?_)
      refine j_istore_n E 112 rfl [(3, .int (J (y84_10 o))), (2, .int (J 0)), (0, .ref o), (1, .int (J 8))] dX3_readCondition_111 rfl hl (by decide) rfl (fun ls hl => ?_)
      refine j_aload_n E 113 rfl dX3_readCondition_112 rfl (lv_at hl 2 rfl) ?_
      refine zV_v E (c_X3_takeComparison l D cy T (upV (upV (upV (upV v_0 80 y80_10) 83 y83_10) 84 y84_10) 86 y86_10) κ o  hO t_o  ) mt_X3_takeComparison ml_X3_88 hK hZ hAc hw (cw_rc4 hK hw.1 t_o) hA ⟨Nat.le_of_ble_eq_true rfl, Nat.le_of_ble_eq_true rfl⟩ ⟨Nat.le_of_ble_eq_true rfl, Nat.le_of_ble_eq_true rfl⟩ (As := []) (rest := []) rfl rfl hl.1 (Nat.le_of_ble_eq_true rfl) 116 rfl dX3_readCondition_113 (fun v_12 H locs hq12_ hw => ?_)
      obtain ⟨y80_12, y83_12, y84_12, ev12_, hh12_⟩ := hq12_
      rw [ev12_] at hw; clear ev12_
      have hw : WK D cy T (upV (upV (upV (upV v_0 80 y80_12) 83 y83_12) 84 y84_12) 86 y86_10) A0 s.heap H locs := cw_eq hw (by first | rfl | (funext j_; simp only [upV, reduceIte]; (repeat' split) <;> first | rfl | omega | (subst_vars; rfl)))
      refine j_aload_n E 117 rfl dX3_readCondition_116 rfl (lv_at hl 2 rfl) ?_
      refine zV_v E (c_X3_readSum l D cy T (upV (upV (upV (upV v_0 80 y80_12) 83 y83_12) 84 y84_12) 86 y86_10) κ o  hO t_o  (show 0 ≤ (y86_10 o) ∧ (y86_10 o) ≤ 400 from by omega)) mt_X3_readSum ml_X3_51 hK hZ hAc hw (cw_rc4 hK hw.1 t_o) hA ⟨Nat.le_of_ble_eq_true rfl, Nat.le_of_ble_eq_true rfl⟩ ⟨Nat.le_of_ble_eq_true rfl, Nat.le_of_ble_eq_true rfl⟩ (As := []) (rest := []) rfl rfl hl.1 (Nat.le_of_ble_eq_true rfl) 120 rfl dX3_readCondition_117 (fun v_13 H locs hq13_ hw => ?_)
      obtain ⟨y80_13, y83_13, y84_13, y86_13, ev13_, hh13_⟩ := hq13_
      rw [ev13_] at hw; clear ev13_
      have hw : WK D cy T (upV (upV (upV (upV v_0 80 y80_13) 83 y83_13) 84 y84_13) 86 y86_13) A0 s.heap H locs := cw_eq hw (by first | rfl | (funext j_; simp only [upV, reduceIte]; (repeat' split) <;> first | rfl | omega | (subst_vars; rfl)))
      have hh13_ : 0 ≤ (y86_13 o) ∧ (y86_13 o) ≤ 400 := hh13_
      refine j_aload_n E 121 rfl dX3_readCondition_120 rfl (lv_at hl 2 rfl) ?_
      refine j_iload_n E 122 rfl dX3_readCondition_121 rfl (lv_at hl 0 rfl) ?_
      refine j_ineg E 123 rfl dX3_readCondition_122 ?_
      refine j_norm (fun zz14_ rr14_ ee14_ => ?_)
      refine kV_v E (c_X3_emit l D cy T (upV (upV (upV (upV v_0 80 y80_13) 83 y83_13) 84 y84_13) 86 y86_13) o zz14_  t_o rr14_ (show 0 ≤ (y86_13 o) ∧ (y86_13 o) ≤ 400 from by omega)) mt_X3_emit ml_X3_60 hK hw (cw_rc4 hK hw.1 t_o) hA ⟨Nat.le_of_ble_eq_true rfl, Nat.le_of_ble_eq_true rfl⟩ ⟨Nat.le_of_ble_eq_true rfl, Nat.le_of_ble_eq_true rfl⟩ (As := [.int (J zz14_)]) (rest := []) rfl rfl hl.1 (Nat.le_of_ble_eq_true rfl) 126 rfl dX3_readCondition_123 (fun v_15 H locs hq15_ hw => ?_)
      obtain ⟨y86_15, ev15_, hh15_⟩ := hq15_
      rw [ev15_] at hw; clear ev15_
      have hw : WK D cy T (upV (upV (upV (upV v_0 80 y80_13) 83 y83_13) 84 y84_13) 86 y86_15) A0 s.heap H locs := cw_eq hw (by first | rfl | (funext j_; simp only [upV, reduceIte]; (repeat' split) <;> first | rfl | omega | (subst_vars; rfl)))
      have hh15_ : 0 ≤ (y86_15 o) ∧ (y86_15 o) ≤ 400 := hh15_
      exact hret 126 (upV (upV (upV (upV v_0 80 y80_13) 83 y83_13) 84 y84_13) 86 y86_15) _ _ ls hw ⟨y80_13, y83_13, y84_13, y86_15, rfl, by first | omega | (simp only [upB_same]; omega)⟩ dX3_readCondition_126
    · refine j_iconst E 20 rfl dX3_readCondition_19 ?_
      refine j_goto E 24 dX3_readCondition_20 (by decide) ?_
      refine j_istore_n E 25 rfl [(2, .int (J 1)), (0, .ref o), (1, .int (J 8))] dX3_readCondition_24 rfl hl (by decide) rfl (fun ls hl => ?_)
      refine j_iload_n E 26 rfl dX3_readCondition_25 rfl (lv_at hl 0 rfl) ?_
      refine j_if_eq E 29 43 rfl (rr (by decide)) dX3_readCondition_26 (by decide) (fun cc16_ => absurd cc16_ (by decide)) (fun _ => ?_)
      refine j_iload_n E 30 rfl dX3_readCondition_29 rfl (lv_at hl 2 rfl) ?_
      refine j_bipush E 32 rfl dX3_readCondition_30 (by decide) ?_
      refine j_icmp_lt E 35 43 rfl (rr (by decide)) (rr (by decide)) dX3_readCondition_32 (by decide) (fun cc17_ => absurd cc17_ (by decide)) (fun _ => ?_)
      refine j_aload_n E 36 rfl dX3_readCondition_35 rfl (lv_at hl 1 rfl) ?_
      refine j_iconst E 37 rfl dX3_readCondition_36 ?_
      refine kV_v E (c_X3_refuse l D cy T (v_0) o 3  t_o (rr (by decide)) ) mt_X3_refuse ml_X3_63 hK hw (cw_rc4 hK hw.1 t_o) hA ⟨Nat.le_of_ble_eq_true rfl, Nat.le_of_ble_eq_true rfl⟩ ⟨Nat.le_of_ble_eq_true rfl, Nat.le_of_ble_eq_true rfl⟩ (As := [.int (J 3)]) (rest := []) rfl rfl hl.1 (Nat.le_of_ble_eq_true rfl) 40 rfl dX3_readCondition_37 (fun v_18 H locs hq18_ hw => ?_)
      obtain ⟨y80_18, y84_18, ev18_, hh18_⟩ := hq18_
      rw [ev18_] at hw; clear ev18_
      have hw : WK D cy T (upV (upV v_0 80 y80_18) 84 y84_18) A0 s.heap H locs := cw_eq hw (by first | rfl | (funext j_; simp only [upV, reduceIte]; (repeat' split) <;> first | rfl | omega | (subst_vars; rfl)))
      refine j_goto E 126 dX3_readCondition_40 (by decide) ?_
      exact hret 126 (upV (upV (upV (upV v_0 80 y80_18) 83 (v_0 83)) 84 y84_18) 86 (v_0 86)) _ _ ls (cw_eq hw (by first | rfl | (funext j_; simp only [upV, reduceIte]; (repeat' split) <;> first | rfl | omega | (subst_vars; rfl)))) ⟨y80_18, (v_0 83), y84_18, (v_0 86), rfl, by first | omega | (simp only [upB_same]; omega)⟩ dX3_readCondition_126
set_option maxHeartbeats 4000000 in
set_option maxRecDepth 100000 in
theorem c_X3_readConditions_n8 (l : Launch) (D : va_G) (cy : Nat → ClassId) (T : Nat → Nat → Nat) (v_0 : Nat → Nat → Int) (κ : Nat → Nat → Nat) (o : Nat) (hO : ∀ x, ow T x → κ 2 2 ≤ x) (t_o : T 0 o = 4) (hp0 : 0 ≤ (v_0 86 o) ∧ (v_0 86 o) ≤ 400) : KZ l D cy κ T yX3_readConditions cX3_readConditions 5 none 6 [.ref o, .int (J 8)] v_0 (KV (fun (v_2 : Nat → Nat → Int) => ∃ (y80_2 : Nat → Int) (y83_2 : Nat → Int) (y84_2 : Nat → Int) (y86_2 : Nat → Int) , v_2 = upV (upV (upV (upV v_0 80 y80_2) 83 y83_2) 84 y84_2) 86 y86_2 ∧ (0 ≤ (y86_2 o) ∧ (y86_2 o) ≤ 400))) := by
  refine KZ.ofv (by decide) (Nat.le_of_ble_eq_true rfl) hO ?_
  intro p e s m below meth c ls ar QW A0 H locs E hK hZ hA hAc hw hl hret
  have hl : lv_has ls 5 [(0, .ref o), (1, .int (J 8))] := hl
  have hT : WT T := hw.1.2.1
  refine j_aload_n E 1 rfl dX3_readConditions_0 rfl (lv_at hl 0 rfl) ?_
  refine j_iload_n E 2 rfl dX3_readConditions_1 rfl (lv_at hl 1 rfl) ?_
  refine zV_v E (c_X3_readCondition_n8 l D cy T (v_0) κ o  hO t_o  (show 0 ≤ ((v_0 86) o) ∧ ((v_0 86) o) ≤ 400 from by omega)) mt_X3_readCondition ml_X3_85 hK hZ hAc hw (cw_rc4 hK hw.1 t_o) hA ⟨Nat.le_of_ble_eq_true rfl, Nat.le_of_ble_eq_true rfl⟩ ⟨Nat.le_of_ble_eq_true rfl, Nat.le_of_ble_eq_true rfl⟩ (As := [.int (J 8)]) (rest := []) rfl rfl hl.1 (Nat.le_of_ble_eq_true rfl) 5 rfl dX3_readConditions_2 (fun v_1 H locs hq1_ hw => ?_)
  obtain ⟨y80_1, y83_1, y84_1, y86_1, ev1_, hh1_⟩ := hq1_
  rw [ev1_] at hw; clear ev1_
  have hw : WK D cy T (upV (upV (upV (upV v_0 80 y80_1) 83 y83_1) 84 y84_1) 86 y86_1) A0 s.heap H locs := cw_eq hw (by first | rfl | (funext j_; simp only [upV, reduceIte]; (repeat' split) <;> first | rfl | omega | (subst_vars; rfl)))
  have hh1_ : 0 ≤ (y86_1 o) ∧ (y86_1 o) ≤ 400 := hh1_
  refine j_iconst E 6 rfl dX3_readConditions_5 ?_
  refine j_istore_n E 7 rfl [(2, .int (J 0)), (0, .ref o), (1, .int (J 8))] dX3_readConditions_6 rfl hl (by decide) rfl (fun ls hl => ?_)
  refine j_iconst E 8 rfl dX3_readConditions_7 ?_
  refine j_istore_n E 9 rfl [(3, .int (J 0)), (2, .int (J 0)), (0, .ref o), (1, .int (J 8))] dX3_readConditions_8 rfl hl (by decide) rfl (fun ls hl => ?_)
  have L9_2 : ∀ (k9 : Nat) (l2_9 l3_9 : Int) (y80_c9 : Nat → Int) (y83_c9 : Nat → Int) (y84_c9 : Nat → Int) (y86_c9 : Nat → Int) (H : Heap) (locs : List Loc) (ls : Array Slot), inR l2_9 → inR l3_9 → (0 ≤ (y86_c9 o) ∧ (y86_c9 o) ≤ 400) → (400 - l3_9).toNat < k9 → WK D cy T (upV (upV (upV (upV v_0 80 y80_c9) 83 y83_c9) 84 y84_c9) 86 y86_c9) A0 s.heap H locs → lv_has ls 5 [(0, .ref o), (1, .int (J 8)), (2, .int (J l2_9)), (3, .int (J l3_9))] → W p l e (rmd 6 0 0) s m ar below meth c H locs 0 0 QW (F0 m 9 ls []) := by
    intro k9
    induction k9 with
    | zero =>
      intro l2_9 l3_9 y80_c9 y83_c9 y84_c9 y86_c9 H locs ls r_l2_9 r_l3_9 iv9 ms9 hw hl
      exact absurd ms9 (Nat.not_lt_zero _)
    | succ k9 ih9 =>
      intro l2_9 l3_9 y80_c9 y83_c9 y84_c9 y86_c9 H locs ls r_l2_9 r_l3_9 iv9 ms9 hw hl
      refine j_iload_n E 10 rfl dX3_readConditions_9 rfl (lv_at hl 3 rfl) ?_
      refine j_sipush E 13 rfl dX3_readConditions_10 (by decide) ?_
      refine j_icmp_ge E 16 111 rfl r_l3_9 (rr (by decide)) dX3_readConditions_13 (by decide) (fun cc4_ => ?_) (fun cc4_ => ?_)
      · refine j_iload_n E 112 rfl dX3_readConditions_111 rfl (lv_at hl 2 rfl) ?_
        refine j_if_eq E 115 122 rfl r_l2_9 dX3_readConditions_112 (by decide) (fun cc5_ => ?_) (fun cc5_ => ?_)
        · exact hret 122 (upV (upV (upV (upV v_0 80 y80_c9) 83 y83_c9) 84 y84_c9) 86 y86_c9) _ _ ls hw ⟨y80_c9, y83_c9, y84_c9, y86_c9, rfl, by first | omega | (simp only [upB_same]; omega)⟩ dX3_readConditions_122
        · refine j_aload_n E 116 rfl dX3_readConditions_115 rfl (lv_at hl 0 rfl) ?_
          refine j_sipush E 119 rfl dX3_readConditions_116 (by decide) ?_
          refine kV_v E (c_X3_emit l D cy T (upV (upV (upV (upV v_0 80 y80_c9) 83 y83_c9) 84 y84_c9) 86 y86_c9) o ((-304))  t_o (rr (by decide)) (show 0 ≤ (y86_c9 o) ∧ (y86_c9 o) ≤ 400 from by omega)) mt_X3_emit ml_X3_60 hK hw (cw_rc4 hK hw.1 t_o) hA ⟨Nat.le_of_ble_eq_true rfl, Nat.le_of_ble_eq_true rfl⟩ ⟨Nat.le_of_ble_eq_true rfl, Nat.le_of_ble_eq_true rfl⟩ (As := [.int (J ((-304)))]) (rest := []) rfl rfl hl.1 (Nat.le_of_ble_eq_true rfl) 122 rfl dX3_readConditions_119 (fun v_6 H locs hq6_ hw => ?_)
          obtain ⟨y86_6, ev6_, hh6_⟩ := hq6_
          rw [ev6_] at hw; clear ev6_
          have hw : WK D cy T (upV (upV (upV (upV v_0 80 y80_c9) 83 y83_c9) 84 y84_c9) 86 y86_6) A0 s.heap H locs := cw_eq hw (by first | rfl | (funext j_; simp only [upV, reduceIte]; (repeat' split) <;> first | rfl | omega | (subst_vars; rfl)))
          have hh6_ : 0 ≤ (y86_6 o) ∧ (y86_6 o) ≤ 400 := hh6_
          exact hret 122 (upV (upV (upV (upV v_0 80 y80_c9) 83 y83_c9) 84 y84_c9) 86 y86_6) _ _ ls hw ⟨y80_c9, y83_c9, y84_c9, y86_6, rfl, by first | omega | (simp only [upB_same]; omega)⟩ dX3_readConditions_122
      · refine j_aload_n E 17 rfl dX3_readConditions_16 rfl (lv_at hl 0 rfl) ?_
        refine g_84 E hK hw fl_X3_30 t_o (y84_c9 o) rfl 20 rfl dX3_readConditions_17 (fun rr7_ => ?_)
        refine j_sipush E 23 rfl dX3_readConditions_20 (by decide) ?_
        refine j_icmp_eq E 26 36 rfl rr7_ (rr (by decide)) dX3_readConditions_23 (by decide) (fun cc8_ => ?_) (fun cc8_ => ?_)
        · have L51_9 : ∀ (s0_51 : Int) (H : Heap) (locs : List Loc) (ls : Array Slot), inR s0_51 → (True) → WK D cy T (upV (upV (upV (upV v_0 80 y80_c9) 83 y83_c9) 84 y84_c9) 86 y86_c9) A0 s.heap H locs → lv_has ls 5 [(0, .ref o), (1, .int (J 8)), (2, .int (J l2_9)), (3, .int (J l3_9))] → W p l e (rmd 6 0 0) s m ar below meth c H locs 0 0 QW (F0 m 51 ls [.int (J s0_51)]) := by
            intro s0_51 H locs ls r_s0_51 iv51 hw hl
            refine j_istore E 53 rfl [(4, .int (J s0_51)), (0, .ref o), (1, .int (J 8)), (2, .int (J l2_9)), (3, .int (J l3_9))] dX3_readConditions_51 hl (by decide) rfl (fun ls hl => ?_)
            have L69_11 : ∀ (y86_c69 : Nat → Int) (H : Heap) (locs : List Loc) (ls : Array Slot), (0 ≤ (y86_c69 o) ∧ (y86_c69 o) ≤ 400) → WK D cy T (upV (upV (upV (upV v_0 80 y80_c9) 83 y83_c9) 84 y84_c9) 86 y86_c69) A0 s.heap H locs → lv_has ls 5 [(0, .ref o), (1, .int (J 8)), (2, .int (J l2_9)), (3, .int (J l3_9)), (4, .int (J s0_51))] → W p l e (rmd 6 0 0) s m ar below meth c H locs 0 0 QW (F0 m 69 ls []) := by
              intro y86_c69 H locs ls iv69 hw hl
              refine j_aload_n E 70 rfl dX3_readConditions_69 rfl (lv_at hl 0 rfl) ?_
              refine zV_v E (c_X3_step l D cy T (upV (upV (upV (upV v_0 80 y80_c9) 83 y83_c9) 84 y84_c9) 86 y86_c69) κ o  hO t_o  ) mt_X3_step ml_X3_54 hK hZ hAc hw (cw_rc4 hK hw.1 t_o) hA ⟨Nat.le_of_ble_eq_true rfl, Nat.le_of_ble_eq_true rfl⟩ ⟨Nat.le_of_ble_eq_true rfl, Nat.le_of_ble_eq_true rfl⟩ (As := []) (rest := []) rfl rfl hl.1 (Nat.le_of_ble_eq_true rfl) 73 rfl dX3_readConditions_70 (fun v_13 H locs hq13_ hw => ?_)
              obtain ⟨y83_13, y84_13, ev13_, hh13_⟩ := hq13_
              rw [ev13_] at hw; clear ev13_
              have hw : WK D cy T (upV (upV (upV (upV v_0 80 y80_c9) 83 y83_13) 84 y84_13) 86 y86_c69) A0 s.heap H locs := cw_eq hw (by first | rfl | (funext j_; simp only [upV, reduceIte]; (repeat' split) <;> first | rfl | omega | (subst_vars; rfl)))
              refine j_aload_n E 74 rfl dX3_readConditions_73 rfl (lv_at hl 0 rfl) ?_
              refine j_iload_n E 75 rfl dX3_readConditions_74 rfl (lv_at hl 1 rfl) ?_
              refine zV_v E (c_X3_readCondition_n8 l D cy T (upV (upV (upV (upV v_0 80 y80_c9) 83 y83_13) 84 y84_13) 86 y86_c69) κ o  hO t_o  (show 0 ≤ (y86_c69 o) ∧ (y86_c69 o) ≤ 400 from by omega)) mt_X3_readCondition ml_X3_85 hK hZ hAc hw (cw_rc4 hK hw.1 t_o) hA ⟨Nat.le_of_ble_eq_true rfl, Nat.le_of_ble_eq_true rfl⟩ ⟨Nat.le_of_ble_eq_true rfl, Nat.le_of_ble_eq_true rfl⟩ (As := [.int (J 8)]) (rest := []) rfl rfl hl.1 (Nat.le_of_ble_eq_true rfl) 78 rfl dX3_readConditions_75 (fun v_14 H locs hq14_ hw => ?_)
              obtain ⟨y80_14, y83_14, y84_14, y86_14, ev14_, hh14_⟩ := hq14_
              rw [ev14_] at hw; clear ev14_
              have hw : WK D cy T (upV (upV (upV (upV v_0 80 y80_14) 83 y83_14) 84 y84_14) 86 y86_14) A0 s.heap H locs := cw_eq hw (by first | rfl | (funext j_; simp only [upV, reduceIte]; (repeat' split) <;> first | rfl | omega | (subst_vars; rfl)))
              have hh14_ : 0 ≤ (y86_14 o) ∧ (y86_14 o) ≤ 400 := hh14_
              have L90_15 : ∀ (y86_c90 : Nat → Int) (H : Heap) (locs : List Loc) (ls : Array Slot), (0 ≤ (y86_c90 o) ∧ (y86_c90 o) ≤ 400) → WK D cy T (upV (upV (upV (upV v_0 80 y80_14) 83 y83_14) 84 y84_14) 86 y86_c90) A0 s.heap H locs → lv_has ls 5 [(0, .ref o), (1, .int (J 8)), (2, .int (J l2_9)), (3, .int (J l3_9)), (4, .int (J s0_51))] → W p l e (rmd 6 0 0) s m ar below meth c H locs 0 0 QW (F0 m 90 ls []) := by
                intro y86_c90 H locs ls iv90 hw hl
                have L104_17 : ∀ (s0_104 : Int) (H : Heap) (locs : List Loc) (ls : Array Slot), inR s0_104 → (True) → WK D cy T (upV (upV (upV (upV v_0 80 y80_14) 83 y83_14) 84 y84_14) 86 y86_c90) A0 s.heap H locs → lv_has ls 5 [(0, .ref o), (1, .int (J 8)), (2, .int (J l2_9)), (3, .int (J l3_9)), (4, .int (J s0_51))] → W p l e (rmd 6 0 0) s m ar below meth c H locs 0 0 QW (F0 m 104 ls [.int (J s0_104)]) := by
                  intro s0_104 H locs ls r_s0_104 iv104 hw hl
                  refine j_istore_n E 105 rfl [(2, .int (J s0_104)), (0, .ref o), (1, .int (J 8)), (3, .int (J l3_9)), (4, .int (J s0_51))] dX3_readConditions_104 rfl hl (by decide) rfl (fun ls hl => ?_)
                  refine j_iinc E 108 rfl [(3, .int (J (l3_9 + 1))), (2, .int (J s0_104)), (0, .ref o), (1, .int (J 8)), (4, .int (J s0_51))] dX3_readConditions_105 hl (kk := 3) rfl (by decide) rfl (fun ls hl => ?_)
                  refine j_goto E 9 dX3_readConditions_108 (by decide) ?_
                  exact ih9 s0_104 (l3_9 + 1) y80_14 y83_14 y84_14 y86_c90 H locs ls r_s0_104 (rr (by omega)) (by first | omega | (simp only [upB_same]; omega)) (by omega) hw (lv_sub hl [2, 3, 1, 0] rfl)
                refine j_iload_n E 91 rfl dX3_readConditions_90 rfl (lv_at hl 2 rfl) ?_
                refine j_if_ne E 94 99 rfl r_l2_9 dX3_readConditions_91 (by decide) (fun cc19_ => ?_) (fun cc19_ => ?_)
                · refine j_iconst E 100 rfl dX3_readConditions_99 ?_
                  refine j_goto E 104 dX3_readConditions_100 (by decide) ?_
                  exact L104_17 1  H locs ls (rr (by decide)) (trivial) hw (lv_sub hl [0, 1, 2, 3, 4] rfl)
                · refine j_iload E 96 rfl dX3_readConditions_94 (lv_at hl 4 rfl) ?_
                  refine j_if_ne E 99 103 rfl r_s0_51 dX3_readConditions_96 (by decide) (fun cc20_ => ?_) (fun cc20_ => ?_)
                  · refine j_iconst E 104 rfl dX3_readConditions_103 ?_
                    exact L104_17 0  H locs ls (rr (by decide)) (trivial) hw (lv_sub hl [0, 1, 2, 3, 4] rfl)
                  · refine j_iconst E 100 rfl dX3_readConditions_99 ?_
                    refine j_goto E 104 dX3_readConditions_100 (by decide) ?_
                    exact L104_17 1  H locs ls (rr (by decide)) (trivial) hw (lv_sub hl [0, 1, 2, 3, 4] rfl)
              refine j_iload E 80 rfl dX3_readConditions_78 (lv_at hl 4 rfl) ?_
              refine j_if_eq E 83 90 rfl r_s0_51 dX3_readConditions_80 (by decide) (fun cc21_ => ?_) (fun cc21_ => ?_)
              · exact L90_15  y86_14 H locs ls  (by first | omega | (simp only [upB_same]; omega)) hw (lv_sub hl [0, 1, 2, 3, 4] rfl)
              · refine j_aload_n E 84 rfl dX3_readConditions_83 rfl (lv_at hl 0 rfl) ?_
                refine j_sipush E 87 rfl dX3_readConditions_84 (by decide) ?_
                refine kV_v E (c_X3_emit l D cy T (upV (upV (upV (upV v_0 80 y80_14) 83 y83_14) 84 y84_14) 86 y86_14) o ((-305))  t_o (rr (by decide)) (show 0 ≤ (y86_14 o) ∧ (y86_14 o) ≤ 400 from by omega)) mt_X3_emit ml_X3_60 hK hw (cw_rc4 hK hw.1 t_o) hA ⟨Nat.le_of_ble_eq_true rfl, Nat.le_of_ble_eq_true rfl⟩ ⟨Nat.le_of_ble_eq_true rfl, Nat.le_of_ble_eq_true rfl⟩ (As := [.int (J ((-305)))]) (rest := []) rfl rfl hl.1 (Nat.le_of_ble_eq_true rfl) 90 rfl dX3_readConditions_87 (fun v_22 H locs hq22_ hw => ?_)
                obtain ⟨y86_22, ev22_, hh22_⟩ := hq22_
                rw [ev22_] at hw; clear ev22_
                have hw : WK D cy T (upV (upV (upV (upV v_0 80 y80_14) 83 y83_14) 84 y84_14) 86 y86_22) A0 s.heap H locs := cw_eq hw (by first | rfl | (funext j_; simp only [upV, reduceIte]; (repeat' split) <;> first | rfl | omega | (subst_vars; rfl)))
                have hh22_ : 0 ≤ (y86_22 o) ∧ (y86_22 o) ≤ 400 := hh22_
                exact L90_15  y86_22 H locs ls  (by first | omega | (simp only [upB_same]; omega)) hw (lv_sub hl [0, 1, 2, 3, 4] rfl)
            refine j_iload E 55 rfl dX3_readConditions_53 (lv_at hl 0 rfl) ?_
            refine j_if_ne E 58 69 rfl r_s0_51 dX3_readConditions_55 (by decide) (fun cc23_ => ?_) (fun cc23_ => ?_)
            · exact L69_11  y86_c9 H locs ls  (by first | omega | (simp only [upB_same]; omega)) hw (lv_sub hl [1, 2, 3, 4, 0] rfl)
            · refine j_iload_n E 59 rfl dX3_readConditions_58 rfl (lv_at hl 3 rfl) ?_
              refine j_if_eq E 62 69 rfl r_l2_9 dX3_readConditions_59 (by decide) (fun cc24_ => ?_) (fun cc24_ => ?_)
              · exact L69_11  y86_c9 H locs ls  (by first | omega | (simp only [upB_same]; omega)) hw (lv_sub hl [1, 2, 3, 4, 0] rfl)
              · refine j_aload_n E 63 rfl dX3_readConditions_62 rfl (lv_at hl 1 rfl) ?_
                refine j_sipush E 66 rfl dX3_readConditions_63 (by decide) ?_
                refine kV_v E (c_X3_emit l D cy T (upV (upV (upV (upV v_0 80 y80_c9) 83 y83_c9) 84 y84_c9) 86 y86_c9) o ((-304))  t_o (rr (by decide)) (show 0 ≤ (y86_c9 o) ∧ (y86_c9 o) ≤ 400 from by omega)) mt_X3_emit ml_X3_60 hK hw (cw_rc4 hK hw.1 t_o) hA ⟨Nat.le_of_ble_eq_true rfl, Nat.le_of_ble_eq_true rfl⟩ ⟨Nat.le_of_ble_eq_true rfl, Nat.le_of_ble_eq_true rfl⟩ (As := [.int (J ((-304)))]) (rest := []) rfl rfl hl.1 (Nat.le_of_ble_eq_true rfl) 69 rfl dX3_readConditions_66 (fun v_25 H locs hq25_ hw => ?_)
                obtain ⟨y86_25, ev25_, hh25_⟩ := hq25_
                rw [ev25_] at hw; clear ev25_
                have hw : WK D cy T (upV (upV (upV (upV v_0 80 y80_c9) 83 y83_c9) 84 y84_c9) 86 y86_25) A0 s.heap H locs := cw_eq hw (by first | rfl | (funext j_; simp only [upV, reduceIte]; (repeat' split) <;> first | rfl | omega | (subst_vars; rfl)))
                have hh25_ : 0 ≤ (y86_25 o) ∧ (y86_25 o) ≤ 400 := hh25_
                exact L69_11  y86_25 H locs ls  (by first | omega | (simp only [upB_same]; omega)) hw (lv_sub hl [1, 2, 3, 4, 0] rfl)
          refine j_aload_n E 37 rfl dX3_readConditions_36 rfl (lv_at hl 0 rfl) ?_
          refine g_84 E hK hw fl_X3_30 t_o (y84_c9 o) rfl 40 rfl dX3_readConditions_37 (fun _ => ?_)
          refine j_sipush E 43 rfl dX3_readConditions_40 (by decide) ?_
          refine j_icmp_ne E 46 50 rfl rr7_ (rr (by decide)) dX3_readConditions_43 (by decide) (fun cc26_ => ?_) (fun cc26_ => ?_)
          · exfalso; omega
          refine j_iconst E 47 rfl dX3_readConditions_46 ?_
          refine j_goto E 51 dX3_readConditions_47 (by decide) ?_
          exact L51_9 1  H locs ls (rr (by decide)) (trivial) hw (lv_sub hl [0, 1, 2, 3] rfl)
        · refine j_aload_n E 27 rfl dX3_readConditions_26 rfl (lv_at hl 0 rfl) ?_
          refine g_84 E hK hw fl_X3_30 t_o (y84_c9 o) rfl 30 rfl dX3_readConditions_27 (fun _ => ?_)
          refine j_sipush E 33 rfl dX3_readConditions_30 (by decide) ?_
          refine j_icmp_ne E 36 111 rfl rr7_ (rr (by decide)) dX3_readConditions_33 (by decide) (fun cc27_ => ?_) (fun cc27_ => ?_)
          · refine j_iload_n E 112 rfl dX3_readConditions_111 rfl (lv_at hl 2 rfl) ?_
            refine j_if_eq E 115 122 rfl r_l2_9 dX3_readConditions_112 (by decide) (fun cc28_ => ?_) (fun cc28_ => ?_)
            · exact hret 122 (upV (upV (upV (upV v_0 80 y80_c9) 83 y83_c9) 84 y84_c9) 86 y86_c9) _ _ ls hw ⟨y80_c9, y83_c9, y84_c9, y86_c9, rfl, by first | omega | (simp only [upB_same]; omega)⟩ dX3_readConditions_122
            · refine j_aload_n E 116 rfl dX3_readConditions_115 rfl (lv_at hl 0 rfl) ?_
              refine j_sipush E 119 rfl dX3_readConditions_116 (by decide) ?_
              refine kV_v E (c_X3_emit l D cy T (upV (upV (upV (upV v_0 80 y80_c9) 83 y83_c9) 84 y84_c9) 86 y86_c9) o ((-304))  t_o (rr (by decide)) (show 0 ≤ (y86_c9 o) ∧ (y86_c9 o) ≤ 400 from by omega)) mt_X3_emit ml_X3_60 hK hw (cw_rc4 hK hw.1 t_o) hA ⟨Nat.le_of_ble_eq_true rfl, Nat.le_of_ble_eq_true rfl⟩ ⟨Nat.le_of_ble_eq_true rfl, Nat.le_of_ble_eq_true rfl⟩ (As := [.int (J ((-304)))]) (rest := []) rfl rfl hl.1 (Nat.le_of_ble_eq_true rfl) 122 rfl dX3_readConditions_119 (fun v_29 H locs hq29_ hw => ?_)
              obtain ⟨y86_29, ev29_, hh29_⟩ := hq29_
              rw [ev29_] at hw; clear ev29_
              have hw : WK D cy T (upV (upV (upV (upV v_0 80 y80_c9) 83 y83_c9) 84 y84_c9) 86 y86_29) A0 s.heap H locs := cw_eq hw (by first | rfl | (funext j_; simp only [upV, reduceIte]; (repeat' split) <;> first | rfl | omega | (subst_vars; rfl)))
              have hh29_ : 0 ≤ (y86_29 o) ∧ (y86_29 o) ≤ 400 := hh29_
              exact hret 122 (upV (upV (upV (upV v_0 80 y80_c9) 83 y83_c9) 84 y84_c9) 86 y86_29) _ _ ls hw ⟨y80_c9, y83_c9, y84_c9, y86_29, rfl, by first | omega | (simp only [upB_same]; omega)⟩ dX3_readConditions_122
          · have L51_30 : ∀ (s0_51 : Int) (H : Heap) (locs : List Loc) (ls : Array Slot), inR s0_51 → (True) → WK D cy T (upV (upV (upV (upV v_0 80 y80_c9) 83 y83_c9) 84 y84_c9) 86 y86_c9) A0 s.heap H locs → lv_has ls 5 [(0, .ref o), (1, .int (J 8)), (2, .int (J l2_9)), (3, .int (J l3_9))] → W p l e (rmd 6 0 0) s m ar below meth c H locs 0 0 QW (F0 m 51 ls [.int (J s0_51)]) := by
              intro s0_51 H locs ls r_s0_51 iv51 hw hl
              refine j_istore E 53 rfl [(4, .int (J s0_51)), (0, .ref o), (1, .int (J 8)), (2, .int (J l2_9)), (3, .int (J l3_9))] dX3_readConditions_51 hl (by decide) rfl (fun ls hl => ?_)
              have L69_32 : ∀ (y86_c69 : Nat → Int) (H : Heap) (locs : List Loc) (ls : Array Slot), (0 ≤ (y86_c69 o) ∧ (y86_c69 o) ≤ 400) → WK D cy T (upV (upV (upV (upV v_0 80 y80_c9) 83 y83_c9) 84 y84_c9) 86 y86_c69) A0 s.heap H locs → lv_has ls 5 [(0, .ref o), (1, .int (J 8)), (2, .int (J l2_9)), (3, .int (J l3_9)), (4, .int (J s0_51))] → W p l e (rmd 6 0 0) s m ar below meth c H locs 0 0 QW (F0 m 69 ls []) := by
                intro y86_c69 H locs ls iv69 hw hl
                refine j_aload_n E 70 rfl dX3_readConditions_69 rfl (lv_at hl 0 rfl) ?_
                refine zV_v E (c_X3_step l D cy T (upV (upV (upV (upV v_0 80 y80_c9) 83 y83_c9) 84 y84_c9) 86 y86_c69) κ o  hO t_o  ) mt_X3_step ml_X3_54 hK hZ hAc hw (cw_rc4 hK hw.1 t_o) hA ⟨Nat.le_of_ble_eq_true rfl, Nat.le_of_ble_eq_true rfl⟩ ⟨Nat.le_of_ble_eq_true rfl, Nat.le_of_ble_eq_true rfl⟩ (As := []) (rest := []) rfl rfl hl.1 (Nat.le_of_ble_eq_true rfl) 73 rfl dX3_readConditions_70 (fun v_34 H locs hq34_ hw => ?_)
                obtain ⟨y83_34, y84_34, ev34_, hh34_⟩ := hq34_
                rw [ev34_] at hw; clear ev34_
                have hw : WK D cy T (upV (upV (upV (upV v_0 80 y80_c9) 83 y83_34) 84 y84_34) 86 y86_c69) A0 s.heap H locs := cw_eq hw (by first | rfl | (funext j_; simp only [upV, reduceIte]; (repeat' split) <;> first | rfl | omega | (subst_vars; rfl)))
                refine j_aload_n E 74 rfl dX3_readConditions_73 rfl (lv_at hl 0 rfl) ?_
                refine j_iload_n E 75 rfl dX3_readConditions_74 rfl (lv_at hl 1 rfl) ?_
                refine zV_v E (c_X3_readCondition_n8 l D cy T (upV (upV (upV (upV v_0 80 y80_c9) 83 y83_34) 84 y84_34) 86 y86_c69) κ o  hO t_o  (show 0 ≤ (y86_c69 o) ∧ (y86_c69 o) ≤ 400 from by omega)) mt_X3_readCondition ml_X3_85 hK hZ hAc hw (cw_rc4 hK hw.1 t_o) hA ⟨Nat.le_of_ble_eq_true rfl, Nat.le_of_ble_eq_true rfl⟩ ⟨Nat.le_of_ble_eq_true rfl, Nat.le_of_ble_eq_true rfl⟩ (As := [.int (J 8)]) (rest := []) rfl rfl hl.1 (Nat.le_of_ble_eq_true rfl) 78 rfl dX3_readConditions_75 (fun v_35 H locs hq35_ hw => ?_)
                obtain ⟨y80_35, y83_35, y84_35, y86_35, ev35_, hh35_⟩ := hq35_
                rw [ev35_] at hw; clear ev35_
                have hw : WK D cy T (upV (upV (upV (upV v_0 80 y80_35) 83 y83_35) 84 y84_35) 86 y86_35) A0 s.heap H locs := cw_eq hw (by first | rfl | (funext j_; simp only [upV, reduceIte]; (repeat' split) <;> first | rfl | omega | (subst_vars; rfl)))
                have hh35_ : 0 ≤ (y86_35 o) ∧ (y86_35 o) ≤ 400 := hh35_
                have L90_36 : ∀ (y86_c90 : Nat → Int) (H : Heap) (locs : List Loc) (ls : Array Slot), (0 ≤ (y86_c90 o) ∧ (y86_c90 o) ≤ 400) → WK D cy T (upV (upV (upV (upV v_0 80 y80_35) 83 y83_35) 84 y84_35) 86 y86_c90) A0 s.heap H locs → lv_has ls 5 [(0, .ref o), (1, .int (J 8)), (2, .int (J l2_9)), (3, .int (J l3_9)), (4, .int (J s0_51))] → W p l e (rmd 6 0 0) s m ar below meth c H locs 0 0 QW (F0 m 90 ls []) := by
                  intro y86_c90 H locs ls iv90 hw hl
                  have L104_38 : ∀ (s0_104 : Int) (H : Heap) (locs : List Loc) (ls : Array Slot), inR s0_104 → (True) → WK D cy T (upV (upV (upV (upV v_0 80 y80_35) 83 y83_35) 84 y84_35) 86 y86_c90) A0 s.heap H locs → lv_has ls 5 [(0, .ref o), (1, .int (J 8)), (2, .int (J l2_9)), (3, .int (J l3_9)), (4, .int (J s0_51))] → W p l e (rmd 6 0 0) s m ar below meth c H locs 0 0 QW (F0 m 104 ls [.int (J s0_104)]) := by
                    intro s0_104 H locs ls r_s0_104 iv104 hw hl
                    refine j_istore_n E 105 rfl [(2, .int (J s0_104)), (0, .ref o), (1, .int (J 8)), (3, .int (J l3_9)), (4, .int (J s0_51))] dX3_readConditions_104 rfl hl (by decide) rfl (fun ls hl => ?_)
                    refine j_iinc E 108 rfl [(3, .int (J (l3_9 + 1))), (2, .int (J s0_104)), (0, .ref o), (1, .int (J 8)), (4, .int (J s0_51))] dX3_readConditions_105 hl (kk := 3) rfl (by decide) rfl (fun ls hl => ?_)
                    refine j_goto E 9 dX3_readConditions_108 (by decide) ?_
                    exact ih9 s0_104 (l3_9 + 1) y80_35 y83_35 y84_35 y86_c90 H locs ls r_s0_104 (rr (by omega)) (by first | omega | (simp only [upB_same]; omega)) (by omega) hw (lv_sub hl [2, 3, 1, 0] rfl)
                  refine j_iload_n E 91 rfl dX3_readConditions_90 rfl (lv_at hl 2 rfl) ?_
                  refine j_if_ne E 94 99 rfl r_l2_9 dX3_readConditions_91 (by decide) (fun cc40_ => ?_) (fun cc40_ => ?_)
                  · refine j_iconst E 100 rfl dX3_readConditions_99 ?_
                    refine j_goto E 104 dX3_readConditions_100 (by decide) ?_
                    exact L104_38 1  H locs ls (rr (by decide)) (trivial) hw (lv_sub hl [0, 1, 2, 3, 4] rfl)
                  · refine j_iload E 96 rfl dX3_readConditions_94 (lv_at hl 4 rfl) ?_
                    refine j_if_ne E 99 103 rfl r_s0_51 dX3_readConditions_96 (by decide) (fun cc41_ => ?_) (fun cc41_ => ?_)
                    · refine j_iconst E 104 rfl dX3_readConditions_103 ?_
                      exact L104_38 0  H locs ls (rr (by decide)) (trivial) hw (lv_sub hl [0, 1, 2, 3, 4] rfl)
                    · refine j_iconst E 100 rfl dX3_readConditions_99 ?_
                      refine j_goto E 104 dX3_readConditions_100 (by decide) ?_
                      exact L104_38 1  H locs ls (rr (by decide)) (trivial) hw (lv_sub hl [0, 1, 2, 3, 4] rfl)
                refine j_iload E 80 rfl dX3_readConditions_78 (lv_at hl 4 rfl) ?_
                refine j_if_eq E 83 90 rfl r_s0_51 dX3_readConditions_80 (by decide) (fun cc42_ => ?_) (fun cc42_ => ?_)
                · exact L90_36  y86_35 H locs ls  (by first | omega | (simp only [upB_same]; omega)) hw (lv_sub hl [0, 1, 2, 3, 4] rfl)
                · refine j_aload_n E 84 rfl dX3_readConditions_83 rfl (lv_at hl 0 rfl) ?_
                  refine j_sipush E 87 rfl dX3_readConditions_84 (by decide) ?_
                  refine kV_v E (c_X3_emit l D cy T (upV (upV (upV (upV v_0 80 y80_35) 83 y83_35) 84 y84_35) 86 y86_35) o ((-305))  t_o (rr (by decide)) (show 0 ≤ (y86_35 o) ∧ (y86_35 o) ≤ 400 from by omega)) mt_X3_emit ml_X3_60 hK hw (cw_rc4 hK hw.1 t_o) hA ⟨Nat.le_of_ble_eq_true rfl, Nat.le_of_ble_eq_true rfl⟩ ⟨Nat.le_of_ble_eq_true rfl, Nat.le_of_ble_eq_true rfl⟩ (As := [.int (J ((-305)))]) (rest := []) rfl rfl hl.1 (Nat.le_of_ble_eq_true rfl) 90 rfl dX3_readConditions_87 (fun v_43 H locs hq43_ hw => ?_)
                  obtain ⟨y86_43, ev43_, hh43_⟩ := hq43_
                  rw [ev43_] at hw; clear ev43_
                  have hw : WK D cy T (upV (upV (upV (upV v_0 80 y80_35) 83 y83_35) 84 y84_35) 86 y86_43) A0 s.heap H locs := cw_eq hw (by first | rfl | (funext j_; simp only [upV, reduceIte]; (repeat' split) <;> first | rfl | omega | (subst_vars; rfl)))
                  have hh43_ : 0 ≤ (y86_43 o) ∧ (y86_43 o) ≤ 400 := hh43_
                  exact L90_36  y86_43 H locs ls  (by first | omega | (simp only [upB_same]; omega)) hw (lv_sub hl [0, 1, 2, 3, 4] rfl)
              refine j_iload E 55 rfl dX3_readConditions_53 (lv_at hl 0 rfl) ?_
              refine j_if_ne E 58 69 rfl r_s0_51 dX3_readConditions_55 (by decide) (fun cc44_ => ?_) (fun cc44_ => ?_)
              · exact L69_32  y86_c9 H locs ls  (by first | omega | (simp only [upB_same]; omega)) hw (lv_sub hl [1, 2, 3, 4, 0] rfl)
              · refine j_iload_n E 59 rfl dX3_readConditions_58 rfl (lv_at hl 3 rfl) ?_
                refine j_if_eq E 62 69 rfl r_l2_9 dX3_readConditions_59 (by decide) (fun cc45_ => ?_) (fun cc45_ => ?_)
                · exact L69_32  y86_c9 H locs ls  (by first | omega | (simp only [upB_same]; omega)) hw (lv_sub hl [1, 2, 3, 4, 0] rfl)
                · refine j_aload_n E 63 rfl dX3_readConditions_62 rfl (lv_at hl 1 rfl) ?_
                  refine j_sipush E 66 rfl dX3_readConditions_63 (by decide) ?_
                  refine kV_v E (c_X3_emit l D cy T (upV (upV (upV (upV v_0 80 y80_c9) 83 y83_c9) 84 y84_c9) 86 y86_c9) o ((-304))  t_o (rr (by decide)) (show 0 ≤ (y86_c9 o) ∧ (y86_c9 o) ≤ 400 from by omega)) mt_X3_emit ml_X3_60 hK hw (cw_rc4 hK hw.1 t_o) hA ⟨Nat.le_of_ble_eq_true rfl, Nat.le_of_ble_eq_true rfl⟩ ⟨Nat.le_of_ble_eq_true rfl, Nat.le_of_ble_eq_true rfl⟩ (As := [.int (J ((-304)))]) (rest := []) rfl rfl hl.1 (Nat.le_of_ble_eq_true rfl) 69 rfl dX3_readConditions_66 (fun v_46 H locs hq46_ hw => ?_)
                  obtain ⟨y86_46, ev46_, hh46_⟩ := hq46_
                  rw [ev46_] at hw; clear ev46_
                  have hw : WK D cy T (upV (upV (upV (upV v_0 80 y80_c9) 83 y83_c9) 84 y84_c9) 86 y86_46) A0 s.heap H locs := cw_eq hw (by first | rfl | (funext j_; simp only [upV, reduceIte]; (repeat' split) <;> first | rfl | omega | (subst_vars; rfl)))
                  have hh46_ : 0 ≤ (y86_46 o) ∧ (y86_46 o) ≤ 400 := hh46_
                  exact L69_32  y86_46 H locs ls  (by first | omega | (simp only [upB_same]; omega)) hw (lv_sub hl [1, 2, 3, 4, 0] rfl)
            refine j_aload_n E 37 rfl dX3_readConditions_36 rfl (lv_at hl 0 rfl) ?_
            refine g_84 E hK hw fl_X3_30 t_o (y84_c9 o) rfl 40 rfl dX3_readConditions_37 (fun _ => ?_)
            refine j_sipush E 43 rfl dX3_readConditions_40 (by decide) ?_
            refine j_icmp_ne E 46 50 rfl rr7_ (rr (by decide)) dX3_readConditions_43 (by decide) (fun cc47_ => ?_) (fun cc47_ => ?_)
            rotate_left; · exfalso; omega
            refine j_iconst E 51 rfl dX3_readConditions_50 ?_
            exact L51_30 0  H locs ls (rr (by decide)) (trivial) hw (lv_sub hl [0, 1, 2, 3] rfl)
  exact L9_2 _ 0 0 y80_1 y83_1 y84_1 y86_1 H locs ls (rr (by decide)) (rr (by decide)) (by first | omega | (simp only [upB_same]; omega)) (Nat.lt_succ_self _) hw (lv_sub hl [2, 3, 1, 0] rfl)
set_option maxHeartbeats 4000000 in
set_option maxRecDepth 100000 in
theorem c_X3_readCondition_n7 (l : Launch) (D : va_G) (cy : Nat → ClassId) (T : Nat → Nat → Nat) (v_0 : Nat → Nat → Int) (κ : Nat → Nat → Nat) (o : Nat) (hO : ∀ x, ow T x → κ 2 2 ≤ x) (t_o : T 0 o = 4) (hp0 : 0 ≤ (v_0 86 o) ∧ (v_0 86 o) ≤ 400) : KZ l D cy κ T yX3_readCondition cX3_readCondition 4 none 7 [.ref o, .int (J 7)] v_0 (KV (fun (v_2 : Nat → Nat → Int) => ∃ (y80_2 : Nat → Int) (y83_2 : Nat → Int) (y84_2 : Nat → Int) (y86_2 : Nat → Int) , v_2 = upV (upV (upV (upV v_0 80 y80_2) 83 y83_2) 84 y84_2) 86 y86_2 ∧ (0 ≤ (y86_2 o) ∧ (y86_2 o) ≤ 400))) := by
  refine KZ.ofv (by decide) (Nat.le_of_ble_eq_true rfl) hO ?_
  intro p e s m below meth c ls ar QW A0 H locs E hK hZ hA hAc hw hl hret
  have hl : lv_has ls 4 [(0, .ref o), (1, .int (J 7))] := hl
  have hT : WT T := hw.1.2.1
  refine j_aload_n E 1 rfl dX3_readCondition_0 rfl (lv_at hl 0 rfl) ?_
  refine g_84 E hK hw fl_X3_30 t_o (v_0 84 o) rfl 4 rfl dX3_readCondition_1 (fun rr1_ => ?_)
  refine j_bipush E 6 rfl dX3_readCondition_4 (by decide) ?_
  refine j_icmp_eq E 9 19 rfl rr1_ (rr (by decide)) dX3_readCondition_6 (by decide) (fun cc2_ => ?_) (fun cc2_ => ?_)
  · refine j_iconst E 20 rfl dX3_readCondition_19 ?_
    refine j_goto E 24 dX3_readCondition_20 (by decide) ?_
    refine j_istore_n E 25 rfl [(2, .int (J 1)), (0, .ref o), (1, .int (J 7))] dX3_readCondition_24 rfl hl (by decide) rfl (fun ls hl => ?_)
    refine j_iload_n E 26 rfl dX3_readCondition_25 rfl (lv_at hl 0 rfl) ?_
    refine j_if_eq E 29 43 rfl (rr (by decide)) dX3_readCondition_26 (by decide) (fun cc3_ => absurd cc3_ (by decide)) (fun _ => ?_)
    refine j_iload_n E 30 rfl dX3_readCondition_29 rfl (lv_at hl 2 rfl) ?_
    refine j_bipush E 32 rfl dX3_readCondition_30 (by decide) ?_
    refine j_icmp_lt E 35 43 rfl (rr (by decide)) (rr (by decide)) dX3_readCondition_32 (by decide) (fun _ => ?_) (fun cc4_ => absurd cc4_ (by decide))
    refine j_aload_n E 44 rfl dX3_readCondition_43 rfl (lv_at hl 1 rfl) ?_
    refine g_84 E hK hw fl_X3_30 t_o (v_0 84 o) rfl 47 rfl dX3_readCondition_44 (fun _ => ?_)
    refine j_bipush E 49 rfl dX3_readCondition_47 (by decide) ?_
    refine j_icmp_ne E 52 72 rfl rr1_ (rr (by decide)) dX3_readCondition_49 (by decide) (fun cc5_ => ?_) (fun cc5_ => ?_)
    · exfalso; omega
    refine j_aload_n E 53 rfl dX3_readCondition_52 rfl (lv_at hl 1 rfl) ?_
    refine zV_v E (c_X3_step l D cy T (v_0) κ o  hO t_o  ) mt_X3_step ml_X3_54 hK hZ hAc hw (cw_rc4 hK hw.1 t_o) hA ⟨Nat.le_of_ble_eq_true rfl, Nat.le_of_ble_eq_true rfl⟩ ⟨Nat.le_of_ble_eq_true rfl, Nat.le_of_ble_eq_true rfl⟩ (As := []) (rest := []) rfl rfl hl.1 (Nat.le_of_ble_eq_true rfl) 56 rfl dX3_readCondition_53 (fun v_6 H locs hq6_ hw => ?_)
    obtain ⟨y83_6, y84_6, ev6_, hh6_⟩ := hq6_
    rw [ev6_] at hw; clear ev6_
    have hw : WK D cy T (upV (upV v_0 83 y83_6) 84 y84_6) A0 s.heap H locs := cw_eq hw (by first | rfl | (funext j_; simp only [upV, reduceIte]; (repeat' split) <;> first | rfl | omega | (subst_vars; rfl)))
    refine j_aload_n E 57 rfl dX3_readCondition_56 rfl (lv_at hl 1 rfl) ?_
    refine j_iload_n E 58 rfl dX3_readCondition_57 rfl (lv_at hl 2 rfl) ?_
    refine j_iconst E 59 rfl dX3_readCondition_58 ?_
    refine j_iadd E 60 rfl dX3_readCondition_59 ?_
    refine j_lit (z := 8) (by decide) ?_
    refine zV_v E (c_X3_readConditions_n8 l D cy T (upV (upV v_0 83 y83_6) 84 y84_6) κ o  hO t_o  (show 0 ≤ ((v_0 86) o) ∧ ((v_0 86) o) ≤ 400 from by omega)) mt_X3_readConditions ml_X3_57 hK hZ hAc hw (cw_rc4 hK hw.1 t_o) hA ⟨Nat.le_of_ble_eq_true rfl, Nat.le_of_ble_eq_true rfl⟩ ⟨Nat.le_of_ble_eq_true rfl, Nat.le_of_ble_eq_true rfl⟩ (As := [.int (J 8)]) (rest := []) rfl rfl hl.1 (Nat.le_of_ble_eq_true rfl) 63 rfl dX3_readCondition_60 (fun v_7 H locs hq7_ hw => ?_)
    obtain ⟨y80_7, y83_7, y84_7, y86_7, ev7_, hh7_⟩ := hq7_
    rw [ev7_] at hw; clear ev7_
    have hw : WK D cy T (upV (upV (upV (upV v_0 80 y80_7) 83 y83_7) 84 y84_7) 86 y86_7) A0 s.heap H locs := cw_eq hw (by first | rfl | (funext j_; simp only [upV, reduceIte]; (repeat' split) <;> first | rfl | omega | (subst_vars; rfl)))
    have hh7_ : 0 ≤ (y86_7 o) ∧ (y86_7 o) ≤ 400 := hh7_
    refine j_aload_n E 64 rfl dX3_readCondition_63 rfl (lv_at hl 1 rfl) ?_
    refine j_bipush E 66 rfl dX3_readCondition_64 (by decide) ?_
    refine zV_v E (c_X3_take l D cy T (upV (upV (upV (upV v_0 80 y80_7) 83 y83_7) 84 y84_7) 86 y86_7) κ o 41  hO t_o (rr (by decide)) ) mt_X3_take ml_X3_47 hK hZ hAc hw (cw_rc4 hK hw.1 t_o) hA ⟨Nat.le_of_ble_eq_true rfl, Nat.le_of_ble_eq_true rfl⟩ ⟨Nat.le_of_ble_eq_true rfl, Nat.le_of_ble_eq_true rfl⟩ (As := [.int (J 41)]) (rest := []) rfl rfl hl.1 (Nat.le_of_ble_eq_true rfl) 69 rfl dX3_readCondition_66 (fun v_8 H locs hq8_ hw => ?_)
    obtain ⟨y80_8, y83_8, y84_8, ev8_, hh8_⟩ := hq8_
    rw [ev8_] at hw; clear ev8_
    have hw : WK D cy T (upV (upV (upV (upV v_0 80 y80_8) 83 y83_8) 84 y84_8) 86 y86_7) A0 s.heap H locs := cw_eq hw (by first | rfl | (funext j_; simp only [upV, reduceIte]; (repeat' split) <;> first | rfl | omega | (subst_vars; rfl)))
    refine j_goto E 126 dX3_readCondition_69 (by decide) ?_
    exact hret 126 (upV (upV (upV (upV v_0 80 y80_8) 83 y83_8) 84 y84_8) 86 y86_7) _ _ ls hw ⟨y80_8, y83_8, y84_8, y86_7, rfl, by first | omega | (simp only [upB_same]; omega)⟩ dX3_readCondition_126
  · refine j_aload_n E 10 rfl dX3_readCondition_9 rfl (lv_at hl 0 rfl) ?_
    refine g_84 E hK hw fl_X3_30 t_o (v_0 84 o) rfl 13 rfl dX3_readCondition_10 (fun _ => ?_)
    refine j_sipush E 16 rfl dX3_readCondition_13 (by decide) ?_
    refine j_icmp_ne E 19 23 rfl rr1_ (rr (by decide)) dX3_readCondition_16 (by decide) (fun cc9_ => ?_) (fun cc9_ => ?_)
    · refine j_iconst E 24 rfl dX3_readCondition_23 ?_
      refine j_istore_n E 25 rfl [(2, .int (J 0)), (0, .ref o), (1, .int (J 7))] dX3_readCondition_24 rfl hl (by decide) rfl (fun ls hl => ?_)
      refine j_iload_n E 26 rfl dX3_readCondition_25 rfl (lv_at hl 0 rfl) ?_
      refine j_if_eq E 29 43 rfl (rr (by decide)) dX3_readCondition_26 (by decide) (fun _ => ?_) (fun cc10_ => absurd cc10_ (by decide))
      refine j_aload_n E 44 rfl dX3_readCondition_43 rfl (lv_at hl 1 rfl) ?_
      refine g_84 E hK hw fl_X3_30 t_o (v_0 84 o) rfl 47 rfl dX3_readCondition_44 (fun _ => ?_)
      refine j_bipush E 49 rfl dX3_readCondition_47 (by decide) ?_
      refine j_icmp_ne E 52 72 rfl rr1_ (rr (by decide)) dX3_readCondition_49 (by decide) (fun cc11_ => ?_) (fun cc11_ => ?_)
      rotate_left; · exfalso; omega
      refine j_aload_n E 73 rfl dX3_readCondition_72 rfl (lv_at hl 1 rfl) ?_
      refine g_84 E hK hw fl_X3_30 t_o (v_0 84 o) rfl 76 rfl dX3_readCondition_73 (fun _ => ?_)
      refine j_sipush E 79 rfl dX3_readCondition_76 (by decide) ?_
      refine j_icmp_ne E 82 103 rfl rr1_ (rr (by decide)) dX3_readCondition_79 (by decide) (fun cc12_ => ?_) (fun cc12_ => ?_)
      rotate_left; · exfalso; omega
      refine j_aload_n E 104 rfl dX3_readCondition_103 rfl (lv_at hl 1 rfl) ?_
      refine zV_v E (c_X3_readSum l D cy T (v_0) κ o  hO t_o  (show 0 ≤ ((v_0 86) o) ∧ ((v_0 86) o) ≤ 400 from by omega)) mt_X3_readSum ml_X3_51 hK hZ hAc hw (cw_rc4 hK hw.1 t_o) hA ⟨Nat.le_of_ble_eq_true rfl, Nat.le_of_ble_eq_true rfl⟩ ⟨Nat.le_of_ble_eq_true rfl, Nat.le_of_ble_eq_true rfl⟩ (As := []) (rest := []) rfl rfl hl.1 (Nat.le_of_ble_eq_true rfl) 107 rfl dX3_readCondition_104 (fun v_13 H locs hq13_ hw => ?_)
      obtain ⟨y80_13, y83_13, y84_13, y86_13, ev13_, hh13_⟩ := hq13_
      rw [ev13_] at hw; clear ev13_
      have hw : WK D cy T (upV (upV (upV (upV v_0 80 y80_13) 83 y83_13) 84 y84_13) 86 y86_13) A0 s.heap H locs := cw_eq hw (by first | rfl | (funext j_; simp only [upV, reduceIte]; (repeat' split) <;> first | rfl | omega | (subst_vars; rfl)))
      have hh13_ : 0 ≤ (y86_13 o) ∧ (y86_13 o) ≤ 400 := hh13_
      refine j_aload_n E 108 rfl dX3_readCondition_107 rfl (lv_at hl 1 rfl) ?_
      refine g_84 E hK hw fl_X3_30 t_o (y84_13 o) rfl 111 rfl dX3_readCondition_108 (fun rr14_ => ?_)
      refine j_istore_n E 112 rfl [(3, .int (J (y84_13 o))), (2, .int (J 0)), (0, .ref o), (1, .int (J 7))] dX3_readCondition_111 rfl hl (by decide) rfl (fun ls hl => ?_)
      refine j_aload_n E 113 rfl dX3_readCondition_112 rfl (lv_at hl 2 rfl) ?_
      refine zV_v E (c_X3_takeComparison l D cy T (upV (upV (upV (upV v_0 80 y80_13) 83 y83_13) 84 y84_13) 86 y86_13) κ o  hO t_o  ) mt_X3_takeComparison ml_X3_88 hK hZ hAc hw (cw_rc4 hK hw.1 t_o) hA ⟨Nat.le_of_ble_eq_true rfl, Nat.le_of_ble_eq_true rfl⟩ ⟨Nat.le_of_ble_eq_true rfl, Nat.le_of_ble_eq_true rfl⟩ (As := []) (rest := []) rfl rfl hl.1 (Nat.le_of_ble_eq_true rfl) 116 rfl dX3_readCondition_113 (fun v_15 H locs hq15_ hw => ?_)
      obtain ⟨y80_15, y83_15, y84_15, ev15_, hh15_⟩ := hq15_
      rw [ev15_] at hw; clear ev15_
      have hw : WK D cy T (upV (upV (upV (upV v_0 80 y80_15) 83 y83_15) 84 y84_15) 86 y86_13) A0 s.heap H locs := cw_eq hw (by first | rfl | (funext j_; simp only [upV, reduceIte]; (repeat' split) <;> first | rfl | omega | (subst_vars; rfl)))
      refine j_aload_n E 117 rfl dX3_readCondition_116 rfl (lv_at hl 2 rfl) ?_
      refine zV_v E (c_X3_readSum l D cy T (upV (upV (upV (upV v_0 80 y80_15) 83 y83_15) 84 y84_15) 86 y86_13) κ o  hO t_o  (show 0 ≤ (y86_13 o) ∧ (y86_13 o) ≤ 400 from by omega)) mt_X3_readSum ml_X3_51 hK hZ hAc hw (cw_rc4 hK hw.1 t_o) hA ⟨Nat.le_of_ble_eq_true rfl, Nat.le_of_ble_eq_true rfl⟩ ⟨Nat.le_of_ble_eq_true rfl, Nat.le_of_ble_eq_true rfl⟩ (As := []) (rest := []) rfl rfl hl.1 (Nat.le_of_ble_eq_true rfl) 120 rfl dX3_readCondition_117 (fun v_16 H locs hq16_ hw => ?_)
      obtain ⟨y80_16, y83_16, y84_16, y86_16, ev16_, hh16_⟩ := hq16_
      rw [ev16_] at hw; clear ev16_
      have hw : WK D cy T (upV (upV (upV (upV v_0 80 y80_16) 83 y83_16) 84 y84_16) 86 y86_16) A0 s.heap H locs := cw_eq hw (by first | rfl | (funext j_; simp only [upV, reduceIte]; (repeat' split) <;> first | rfl | omega | (subst_vars; rfl)))
      have hh16_ : 0 ≤ (y86_16 o) ∧ (y86_16 o) ≤ 400 := hh16_
      refine j_aload_n E 121 rfl dX3_readCondition_120 rfl (lv_at hl 2 rfl) ?_
      refine j_iload_n E 122 rfl dX3_readCondition_121 rfl (lv_at hl 0 rfl) ?_
      refine j_ineg E 123 rfl dX3_readCondition_122 ?_
      refine j_norm (fun zz17_ rr17_ ee17_ => ?_)
      refine kV_v E (c_X3_emit l D cy T (upV (upV (upV (upV v_0 80 y80_16) 83 y83_16) 84 y84_16) 86 y86_16) o zz17_  t_o rr17_ (show 0 ≤ (y86_16 o) ∧ (y86_16 o) ≤ 400 from by omega)) mt_X3_emit ml_X3_60 hK hw (cw_rc4 hK hw.1 t_o) hA ⟨Nat.le_of_ble_eq_true rfl, Nat.le_of_ble_eq_true rfl⟩ ⟨Nat.le_of_ble_eq_true rfl, Nat.le_of_ble_eq_true rfl⟩ (As := [.int (J zz17_)]) (rest := []) rfl rfl hl.1 (Nat.le_of_ble_eq_true rfl) 126 rfl dX3_readCondition_123 (fun v_18 H locs hq18_ hw => ?_)
      obtain ⟨y86_18, ev18_, hh18_⟩ := hq18_
      rw [ev18_] at hw; clear ev18_
      have hw : WK D cy T (upV (upV (upV (upV v_0 80 y80_16) 83 y83_16) 84 y84_16) 86 y86_18) A0 s.heap H locs := cw_eq hw (by first | rfl | (funext j_; simp only [upV, reduceIte]; (repeat' split) <;> first | rfl | omega | (subst_vars; rfl)))
      have hh18_ : 0 ≤ (y86_18 o) ∧ (y86_18 o) ≤ 400 := hh18_
      exact hret 126 (upV (upV (upV (upV v_0 80 y80_16) 83 y83_16) 84 y84_16) 86 y86_18) _ _ ls hw ⟨y80_16, y83_16, y84_16, y86_18, rfl, by first | omega | (simp only [upB_same]; omega)⟩ dX3_readCondition_126
    · refine j_iconst E 20 rfl dX3_readCondition_19 ?_
      refine j_goto E 24 dX3_readCondition_20 (by decide) ?_
      refine j_istore_n E 25 rfl [(2, .int (J 1)), (0, .ref o), (1, .int (J 7))] dX3_readCondition_24 rfl hl (by decide) rfl (fun ls hl => ?_)
      refine j_iload_n E 26 rfl dX3_readCondition_25 rfl (lv_at hl 0 rfl) ?_
      refine j_if_eq E 29 43 rfl (rr (by decide)) dX3_readCondition_26 (by decide) (fun cc19_ => absurd cc19_ (by decide)) (fun _ => ?_)
      refine j_iload_n E 30 rfl dX3_readCondition_29 rfl (lv_at hl 2 rfl) ?_
      refine j_bipush E 32 rfl dX3_readCondition_30 (by decide) ?_
      refine j_icmp_lt E 35 43 rfl (rr (by decide)) (rr (by decide)) dX3_readCondition_32 (by decide) (fun _ => ?_) (fun cc20_ => absurd cc20_ (by decide))
      refine j_aload_n E 44 rfl dX3_readCondition_43 rfl (lv_at hl 1 rfl) ?_
      refine g_84 E hK hw fl_X3_30 t_o (v_0 84 o) rfl 47 rfl dX3_readCondition_44 (fun _ => ?_)
      refine j_bipush E 49 rfl dX3_readCondition_47 (by decide) ?_
      refine j_icmp_ne E 52 72 rfl rr1_ (rr (by decide)) dX3_readCondition_49 (by decide) (fun cc21_ => ?_) (fun cc21_ => ?_)
      rotate_left; · exfalso; omega
      refine j_aload_n E 73 rfl dX3_readCondition_72 rfl (lv_at hl 1 rfl) ?_
      refine g_84 E hK hw fl_X3_30 t_o (v_0 84 o) rfl 76 rfl dX3_readCondition_73 (fun _ => ?_)
      refine j_sipush E 79 rfl dX3_readCondition_76 (by decide) ?_
      refine j_icmp_ne E 82 103 rfl rr1_ (rr (by decide)) dX3_readCondition_79 (by decide) (fun cc22_ => ?_) (fun cc22_ => ?_)
      · exfalso; omega
      refine j_aload_n E 83 rfl dX3_readCondition_82 rfl (lv_at hl 1 rfl) ?_
      refine zV_v E (c_X3_step l D cy T (v_0) κ o  hO t_o  ) mt_X3_step ml_X3_54 hK hZ hAc hw (cw_rc4 hK hw.1 t_o) hA ⟨Nat.le_of_ble_eq_true rfl, Nat.le_of_ble_eq_true rfl⟩ ⟨Nat.le_of_ble_eq_true rfl, Nat.le_of_ble_eq_true rfl⟩ (As := []) (rest := []) rfl rfl hl.1 (Nat.le_of_ble_eq_true rfl) 86 rfl dX3_readCondition_83 (fun v_23 H locs hq23_ hw => ?_)
      obtain ⟨y83_23, y84_23, ev23_, hh23_⟩ := hq23_
      rw [ev23_] at hw; clear ev23_
      have hw : WK D cy T (upV (upV v_0 83 y83_23) 84 y84_23) A0 s.heap H locs := cw_eq hw (by first | rfl | (funext j_; simp only [upV, reduceIte]; (repeat' split) <;> first | rfl | omega | (subst_vars; rfl)))
      refine j_aload_n E 87 rfl dX3_readCondition_86 rfl (lv_at hl 1 rfl) ?_
      refine j_iload_n E 88 rfl dX3_readCondition_87 rfl (lv_at hl 2 rfl) ?_
      refine j_iconst E 89 rfl dX3_readCondition_88 ?_
      refine j_iadd E 90 rfl dX3_readCondition_89 ?_
      refine j_lit (z := 8) (by decide) ?_
      refine zV_v E (c_X3_readCondition_n8 l D cy T (upV (upV v_0 83 y83_23) 84 y84_23) κ o  hO t_o  (show 0 ≤ ((v_0 86) o) ∧ ((v_0 86) o) ≤ 400 from by omega)) mt_X3_readCondition ml_X3_85 hK hZ hAc hw (cw_rc4 hK hw.1 t_o) hA ⟨Nat.le_of_ble_eq_true rfl, Nat.le_of_ble_eq_true rfl⟩ ⟨Nat.le_of_ble_eq_true rfl, Nat.le_of_ble_eq_true rfl⟩ (As := [.int (J 8)]) (rest := []) rfl rfl hl.1 (Nat.le_of_ble_eq_true rfl) 93 rfl dX3_readCondition_90 (fun v_24 H locs hq24_ hw => ?_)
      obtain ⟨y80_24, y83_24, y84_24, y86_24, ev24_, hh24_⟩ := hq24_
      rw [ev24_] at hw; clear ev24_
      have hw : WK D cy T (upV (upV (upV (upV v_0 80 y80_24) 83 y83_24) 84 y84_24) 86 y86_24) A0 s.heap H locs := cw_eq hw (by first | rfl | (funext j_; simp only [upV, reduceIte]; (repeat' split) <;> first | rfl | omega | (subst_vars; rfl)))
      have hh24_ : 0 ≤ (y86_24 o) ∧ (y86_24 o) ≤ 400 := hh24_
      refine j_aload_n E 94 rfl dX3_readCondition_93 rfl (lv_at hl 1 rfl) ?_
      refine j_sipush E 97 rfl dX3_readCondition_94 (by decide) ?_
      refine kV_v E (c_X3_emit l D cy T (upV (upV (upV (upV v_0 80 y80_24) 83 y83_24) 84 y84_24) 86 y86_24) o ((-306))  t_o (rr (by decide)) (show 0 ≤ (y86_24 o) ∧ (y86_24 o) ≤ 400 from by omega)) mt_X3_emit ml_X3_60 hK hw (cw_rc4 hK hw.1 t_o) hA ⟨Nat.le_of_ble_eq_true rfl, Nat.le_of_ble_eq_true rfl⟩ ⟨Nat.le_of_ble_eq_true rfl, Nat.le_of_ble_eq_true rfl⟩ (As := [.int (J ((-306)))]) (rest := []) rfl rfl hl.1 (Nat.le_of_ble_eq_true rfl) 100 rfl dX3_readCondition_97 (fun v_25 H locs hq25_ hw => ?_)
      obtain ⟨y86_25, ev25_, hh25_⟩ := hq25_
      rw [ev25_] at hw; clear ev25_
      have hw : WK D cy T (upV (upV (upV (upV v_0 80 y80_24) 83 y83_24) 84 y84_24) 86 y86_25) A0 s.heap H locs := cw_eq hw (by first | rfl | (funext j_; simp only [upV, reduceIte]; (repeat' split) <;> first | rfl | omega | (subst_vars; rfl)))
      have hh25_ : 0 ≤ (y86_25 o) ∧ (y86_25 o) ≤ 400 := hh25_
      refine j_goto E 126 dX3_readCondition_100 (by decide) ?_
      exact hret 126 (upV (upV (upV (upV v_0 80 y80_24) 83 y83_24) 84 y84_24) 86 y86_25) _ _ ls hw ⟨y80_24, y83_24, y84_24, y86_25, rfl, by first | omega | (simp only [upB_same]; omega)⟩ dX3_readCondition_126
set_option maxHeartbeats 4000000 in
set_option maxRecDepth 100000 in
theorem c_X3_readConditions_n7 (l : Launch) (D : va_G) (cy : Nat → ClassId) (T : Nat → Nat → Nat) (v_0 : Nat → Nat → Int) (κ : Nat → Nat → Nat) (o : Nat) (hO : ∀ x, ow T x → κ 2 2 ≤ x) (t_o : T 0 o = 4) (hp0 : 0 ≤ (v_0 86 o) ∧ (v_0 86 o) ≤ 400) : KZ l D cy κ T yX3_readConditions cX3_readConditions 5 none 8 [.ref o, .int (J 7)] v_0 (KV (fun (v_2 : Nat → Nat → Int) => ∃ (y80_2 : Nat → Int) (y83_2 : Nat → Int) (y84_2 : Nat → Int) (y86_2 : Nat → Int) , v_2 = upV (upV (upV (upV v_0 80 y80_2) 83 y83_2) 84 y84_2) 86 y86_2 ∧ (0 ≤ (y86_2 o) ∧ (y86_2 o) ≤ 400))) := by
  refine KZ.ofv (by decide) (Nat.le_of_ble_eq_true rfl) hO ?_
  intro p e s m below meth c ls ar QW A0 H locs E hK hZ hA hAc hw hl hret
  have hl : lv_has ls 5 [(0, .ref o), (1, .int (J 7))] := hl
  have hT : WT T := hw.1.2.1
  refine j_aload_n E 1 rfl dX3_readConditions_0 rfl (lv_at hl 0 rfl) ?_
  refine j_iload_n E 2 rfl dX3_readConditions_1 rfl (lv_at hl 1 rfl) ?_
  refine zV_v E (c_X3_readCondition_n7 l D cy T (v_0) κ o  hO t_o  (show 0 ≤ ((v_0 86) o) ∧ ((v_0 86) o) ≤ 400 from by omega)) mt_X3_readCondition ml_X3_85 hK hZ hAc hw (cw_rc4 hK hw.1 t_o) hA ⟨Nat.le_of_ble_eq_true rfl, Nat.le_of_ble_eq_true rfl⟩ ⟨Nat.le_of_ble_eq_true rfl, Nat.le_of_ble_eq_true rfl⟩ (As := [.int (J 7)]) (rest := []) rfl rfl hl.1 (Nat.le_of_ble_eq_true rfl) 5 rfl dX3_readConditions_2 (fun v_1 H locs hq1_ hw => ?_)
  obtain ⟨y80_1, y83_1, y84_1, y86_1, ev1_, hh1_⟩ := hq1_
  rw [ev1_] at hw; clear ev1_
  have hw : WK D cy T (upV (upV (upV (upV v_0 80 y80_1) 83 y83_1) 84 y84_1) 86 y86_1) A0 s.heap H locs := cw_eq hw (by first | rfl | (funext j_; simp only [upV, reduceIte]; (repeat' split) <;> first | rfl | omega | (subst_vars; rfl)))
  have hh1_ : 0 ≤ (y86_1 o) ∧ (y86_1 o) ≤ 400 := hh1_
  refine j_iconst E 6 rfl dX3_readConditions_5 ?_
  refine j_istore_n E 7 rfl [(2, .int (J 0)), (0, .ref o), (1, .int (J 7))] dX3_readConditions_6 rfl hl (by decide) rfl (fun ls hl => ?_)
  refine j_iconst E 8 rfl dX3_readConditions_7 ?_
  refine j_istore_n E 9 rfl [(3, .int (J 0)), (2, .int (J 0)), (0, .ref o), (1, .int (J 7))] dX3_readConditions_8 rfl hl (by decide) rfl (fun ls hl => ?_)
  have L9_2 : ∀ (k9 : Nat) (l2_9 l3_9 : Int) (y80_c9 : Nat → Int) (y83_c9 : Nat → Int) (y84_c9 : Nat → Int) (y86_c9 : Nat → Int) (H : Heap) (locs : List Loc) (ls : Array Slot), inR l2_9 → inR l3_9 → (0 ≤ (y86_c9 o) ∧ (y86_c9 o) ≤ 400) → (400 - l3_9).toNat < k9 → WK D cy T (upV (upV (upV (upV v_0 80 y80_c9) 83 y83_c9) 84 y84_c9) 86 y86_c9) A0 s.heap H locs → lv_has ls 5 [(0, .ref o), (1, .int (J 7)), (2, .int (J l2_9)), (3, .int (J l3_9))] → W p l e (rmd 8 0 0) s m ar below meth c H locs 0 0 QW (F0 m 9 ls []) := by
    intro k9
    induction k9 with
    | zero =>
      intro l2_9 l3_9 y80_c9 y83_c9 y84_c9 y86_c9 H locs ls r_l2_9 r_l3_9 iv9 ms9 hw hl
      exact absurd ms9 (Nat.not_lt_zero _)
    | succ k9 ih9 =>
      intro l2_9 l3_9 y80_c9 y83_c9 y84_c9 y86_c9 H locs ls r_l2_9 r_l3_9 iv9 ms9 hw hl
      refine j_iload_n E 10 rfl dX3_readConditions_9 rfl (lv_at hl 3 rfl) ?_
      refine j_sipush E 13 rfl dX3_readConditions_10 (by decide) ?_
      refine j_icmp_ge E 16 111 rfl r_l3_9 (rr (by decide)) dX3_readConditions_13 (by decide) (fun cc4_ => ?_) (fun cc4_ => ?_)
      · refine j_iload_n E 112 rfl dX3_readConditions_111 rfl (lv_at hl 2 rfl) ?_
        refine j_if_eq E 115 122 rfl r_l2_9 dX3_readConditions_112 (by decide) (fun cc5_ => ?_) (fun cc5_ => ?_)
        · exact hret 122 (upV (upV (upV (upV v_0 80 y80_c9) 83 y83_c9) 84 y84_c9) 86 y86_c9) _ _ ls hw ⟨y80_c9, y83_c9, y84_c9, y86_c9, rfl, by first | omega | (simp only [upB_same]; omega)⟩ dX3_readConditions_122
        · refine j_aload_n E 116 rfl dX3_readConditions_115 rfl (lv_at hl 0 rfl) ?_
          refine j_sipush E 119 rfl dX3_readConditions_116 (by decide) ?_
          refine kV_v E (c_X3_emit l D cy T (upV (upV (upV (upV v_0 80 y80_c9) 83 y83_c9) 84 y84_c9) 86 y86_c9) o ((-304))  t_o (rr (by decide)) (show 0 ≤ (y86_c9 o) ∧ (y86_c9 o) ≤ 400 from by omega)) mt_X3_emit ml_X3_60 hK hw (cw_rc4 hK hw.1 t_o) hA ⟨Nat.le_of_ble_eq_true rfl, Nat.le_of_ble_eq_true rfl⟩ ⟨Nat.le_of_ble_eq_true rfl, Nat.le_of_ble_eq_true rfl⟩ (As := [.int (J ((-304)))]) (rest := []) rfl rfl hl.1 (Nat.le_of_ble_eq_true rfl) 122 rfl dX3_readConditions_119 (fun v_6 H locs hq6_ hw => ?_)
          obtain ⟨y86_6, ev6_, hh6_⟩ := hq6_
          rw [ev6_] at hw; clear ev6_
          have hw : WK D cy T (upV (upV (upV (upV v_0 80 y80_c9) 83 y83_c9) 84 y84_c9) 86 y86_6) A0 s.heap H locs := cw_eq hw (by first | rfl | (funext j_; simp only [upV, reduceIte]; (repeat' split) <;> first | rfl | omega | (subst_vars; rfl)))
          have hh6_ : 0 ≤ (y86_6 o) ∧ (y86_6 o) ≤ 400 := hh6_
          exact hret 122 (upV (upV (upV (upV v_0 80 y80_c9) 83 y83_c9) 84 y84_c9) 86 y86_6) _ _ ls hw ⟨y80_c9, y83_c9, y84_c9, y86_6, rfl, by first | omega | (simp only [upB_same]; omega)⟩ dX3_readConditions_122
      · refine j_aload_n E 17 rfl dX3_readConditions_16 rfl (lv_at hl 0 rfl) ?_
        refine g_84 E hK hw fl_X3_30 t_o (y84_c9 o) rfl 20 rfl dX3_readConditions_17 (fun rr7_ => ?_)
        refine j_sipush E 23 rfl dX3_readConditions_20 (by decide) ?_
        refine j_icmp_eq E 26 36 rfl rr7_ (rr (by decide)) dX3_readConditions_23 (by decide) (fun cc8_ => ?_) (fun cc8_ => ?_)
        · have L51_9 : ∀ (s0_51 : Int) (H : Heap) (locs : List Loc) (ls : Array Slot), inR s0_51 → (True) → WK D cy T (upV (upV (upV (upV v_0 80 y80_c9) 83 y83_c9) 84 y84_c9) 86 y86_c9) A0 s.heap H locs → lv_has ls 5 [(0, .ref o), (1, .int (J 7)), (2, .int (J l2_9)), (3, .int (J l3_9))] → W p l e (rmd 8 0 0) s m ar below meth c H locs 0 0 QW (F0 m 51 ls [.int (J s0_51)]) := by
            intro s0_51 H locs ls r_s0_51 iv51 hw hl
            refine j_istore E 53 rfl [(4, .int (J s0_51)), (0, .ref o), (1, .int (J 7)), (2, .int (J l2_9)), (3, .int (J l3_9))] dX3_readConditions_51 hl (by decide) rfl (fun ls hl => ?_)
            have L69_11 : ∀ (y86_c69 : Nat → Int) (H : Heap) (locs : List Loc) (ls : Array Slot), (0 ≤ (y86_c69 o) ∧ (y86_c69 o) ≤ 400) → WK D cy T (upV (upV (upV (upV v_0 80 y80_c9) 83 y83_c9) 84 y84_c9) 86 y86_c69) A0 s.heap H locs → lv_has ls 5 [(0, .ref o), (1, .int (J 7)), (2, .int (J l2_9)), (3, .int (J l3_9)), (4, .int (J s0_51))] → W p l e (rmd 8 0 0) s m ar below meth c H locs 0 0 QW (F0 m 69 ls []) := by
              intro y86_c69 H locs ls iv69 hw hl
              refine j_aload_n E 70 rfl dX3_readConditions_69 rfl (lv_at hl 0 rfl) ?_
              refine zV_v E (c_X3_step l D cy T (upV (upV (upV (upV v_0 80 y80_c9) 83 y83_c9) 84 y84_c9) 86 y86_c69) κ o  hO t_o  ) mt_X3_step ml_X3_54 hK hZ hAc hw (cw_rc4 hK hw.1 t_o) hA ⟨Nat.le_of_ble_eq_true rfl, Nat.le_of_ble_eq_true rfl⟩ ⟨Nat.le_of_ble_eq_true rfl, Nat.le_of_ble_eq_true rfl⟩ (As := []) (rest := []) rfl rfl hl.1 (Nat.le_of_ble_eq_true rfl) 73 rfl dX3_readConditions_70 (fun v_13 H locs hq13_ hw => ?_)
              obtain ⟨y83_13, y84_13, ev13_, hh13_⟩ := hq13_
              rw [ev13_] at hw; clear ev13_
              have hw : WK D cy T (upV (upV (upV (upV v_0 80 y80_c9) 83 y83_13) 84 y84_13) 86 y86_c69) A0 s.heap H locs := cw_eq hw (by first | rfl | (funext j_; simp only [upV, reduceIte]; (repeat' split) <;> first | rfl | omega | (subst_vars; rfl)))
              refine j_aload_n E 74 rfl dX3_readConditions_73 rfl (lv_at hl 0 rfl) ?_
              refine j_iload_n E 75 rfl dX3_readConditions_74 rfl (lv_at hl 1 rfl) ?_
              refine zV_v E (c_X3_readCondition_n7 l D cy T (upV (upV (upV (upV v_0 80 y80_c9) 83 y83_13) 84 y84_13) 86 y86_c69) κ o  hO t_o  (show 0 ≤ (y86_c69 o) ∧ (y86_c69 o) ≤ 400 from by omega)) mt_X3_readCondition ml_X3_85 hK hZ hAc hw (cw_rc4 hK hw.1 t_o) hA ⟨Nat.le_of_ble_eq_true rfl, Nat.le_of_ble_eq_true rfl⟩ ⟨Nat.le_of_ble_eq_true rfl, Nat.le_of_ble_eq_true rfl⟩ (As := [.int (J 7)]) (rest := []) rfl rfl hl.1 (Nat.le_of_ble_eq_true rfl) 78 rfl dX3_readConditions_75 (fun v_14 H locs hq14_ hw => ?_)
              obtain ⟨y80_14, y83_14, y84_14, y86_14, ev14_, hh14_⟩ := hq14_
              rw [ev14_] at hw; clear ev14_
              have hw : WK D cy T (upV (upV (upV (upV v_0 80 y80_14) 83 y83_14) 84 y84_14) 86 y86_14) A0 s.heap H locs := cw_eq hw (by first | rfl | (funext j_; simp only [upV, reduceIte]; (repeat' split) <;> first | rfl | omega | (subst_vars; rfl)))
              have hh14_ : 0 ≤ (y86_14 o) ∧ (y86_14 o) ≤ 400 := hh14_
              have L90_15 : ∀ (y86_c90 : Nat → Int) (H : Heap) (locs : List Loc) (ls : Array Slot), (0 ≤ (y86_c90 o) ∧ (y86_c90 o) ≤ 400) → WK D cy T (upV (upV (upV (upV v_0 80 y80_14) 83 y83_14) 84 y84_14) 86 y86_c90) A0 s.heap H locs → lv_has ls 5 [(0, .ref o), (1, .int (J 7)), (2, .int (J l2_9)), (3, .int (J l3_9)), (4, .int (J s0_51))] → W p l e (rmd 8 0 0) s m ar below meth c H locs 0 0 QW (F0 m 90 ls []) := by
                intro y86_c90 H locs ls iv90 hw hl
                have L104_17 : ∀ (s0_104 : Int) (H : Heap) (locs : List Loc) (ls : Array Slot), inR s0_104 → (True) → WK D cy T (upV (upV (upV (upV v_0 80 y80_14) 83 y83_14) 84 y84_14) 86 y86_c90) A0 s.heap H locs → lv_has ls 5 [(0, .ref o), (1, .int (J 7)), (2, .int (J l2_9)), (3, .int (J l3_9)), (4, .int (J s0_51))] → W p l e (rmd 8 0 0) s m ar below meth c H locs 0 0 QW (F0 m 104 ls [.int (J s0_104)]) := by
                  intro s0_104 H locs ls r_s0_104 iv104 hw hl
                  refine j_istore_n E 105 rfl [(2, .int (J s0_104)), (0, .ref o), (1, .int (J 7)), (3, .int (J l3_9)), (4, .int (J s0_51))] dX3_readConditions_104 rfl hl (by decide) rfl (fun ls hl => ?_)
                  refine j_iinc E 108 rfl [(3, .int (J (l3_9 + 1))), (2, .int (J s0_104)), (0, .ref o), (1, .int (J 7)), (4, .int (J s0_51))] dX3_readConditions_105 hl (kk := 3) rfl (by decide) rfl (fun ls hl => ?_)
                  refine j_goto E 9 dX3_readConditions_108 (by decide) ?_
                  exact ih9 s0_104 (l3_9 + 1) y80_14 y83_14 y84_14 y86_c90 H locs ls r_s0_104 (rr (by omega)) (by first | omega | (simp only [upB_same]; omega)) (by omega) hw (lv_sub hl [2, 3, 1, 0] rfl)
                refine j_iload_n E 91 rfl dX3_readConditions_90 rfl (lv_at hl 2 rfl) ?_
                refine j_if_ne E 94 99 rfl r_l2_9 dX3_readConditions_91 (by decide) (fun cc19_ => ?_) (fun cc19_ => ?_)
                · refine j_iconst E 100 rfl dX3_readConditions_99 ?_
                  refine j_goto E 104 dX3_readConditions_100 (by decide) ?_
                  exact L104_17 1  H locs ls (rr (by decide)) (trivial) hw (lv_sub hl [0, 1, 2, 3, 4] rfl)
                · refine j_iload E 96 rfl dX3_readConditions_94 (lv_at hl 4 rfl) ?_
                  refine j_if_ne E 99 103 rfl r_s0_51 dX3_readConditions_96 (by decide) (fun cc20_ => ?_) (fun cc20_ => ?_)
                  · refine j_iconst E 104 rfl dX3_readConditions_103 ?_
                    exact L104_17 0  H locs ls (rr (by decide)) (trivial) hw (lv_sub hl [0, 1, 2, 3, 4] rfl)
                  · refine j_iconst E 100 rfl dX3_readConditions_99 ?_
                    refine j_goto E 104 dX3_readConditions_100 (by decide) ?_
                    exact L104_17 1  H locs ls (rr (by decide)) (trivial) hw (lv_sub hl [0, 1, 2, 3, 4] rfl)
              refine j_iload E 80 rfl dX3_readConditions_78 (lv_at hl 4 rfl) ?_
              refine j_if_eq E 83 90 rfl r_s0_51 dX3_readConditions_80 (by decide) (fun cc21_ => ?_) (fun cc21_ => ?_)
              · exact L90_15  y86_14 H locs ls  (by first | omega | (simp only [upB_same]; omega)) hw (lv_sub hl [0, 1, 2, 3, 4] rfl)
              · refine j_aload_n E 84 rfl dX3_readConditions_83 rfl (lv_at hl 0 rfl) ?_
                refine j_sipush E 87 rfl dX3_readConditions_84 (by decide) ?_
                refine kV_v E (c_X3_emit l D cy T (upV (upV (upV (upV v_0 80 y80_14) 83 y83_14) 84 y84_14) 86 y86_14) o ((-305))  t_o (rr (by decide)) (show 0 ≤ (y86_14 o) ∧ (y86_14 o) ≤ 400 from by omega)) mt_X3_emit ml_X3_60 hK hw (cw_rc4 hK hw.1 t_o) hA ⟨Nat.le_of_ble_eq_true rfl, Nat.le_of_ble_eq_true rfl⟩ ⟨Nat.le_of_ble_eq_true rfl, Nat.le_of_ble_eq_true rfl⟩ (As := [.int (J ((-305)))]) (rest := []) rfl rfl hl.1 (Nat.le_of_ble_eq_true rfl) 90 rfl dX3_readConditions_87 (fun v_22 H locs hq22_ hw => ?_)
                obtain ⟨y86_22, ev22_, hh22_⟩ := hq22_
                rw [ev22_] at hw; clear ev22_
                have hw : WK D cy T (upV (upV (upV (upV v_0 80 y80_14) 83 y83_14) 84 y84_14) 86 y86_22) A0 s.heap H locs := cw_eq hw (by first | rfl | (funext j_; simp only [upV, reduceIte]; (repeat' split) <;> first | rfl | omega | (subst_vars; rfl)))
                have hh22_ : 0 ≤ (y86_22 o) ∧ (y86_22 o) ≤ 400 := hh22_
                exact L90_15  y86_22 H locs ls  (by first | omega | (simp only [upB_same]; omega)) hw (lv_sub hl [0, 1, 2, 3, 4] rfl)
            refine j_iload E 55 rfl dX3_readConditions_53 (lv_at hl 0 rfl) ?_
            refine j_if_ne E 58 69 rfl r_s0_51 dX3_readConditions_55 (by decide) (fun cc23_ => ?_) (fun cc23_ => ?_)
            · exact L69_11  y86_c9 H locs ls  (by first | omega | (simp only [upB_same]; omega)) hw (lv_sub hl [1, 2, 3, 4, 0] rfl)
            · refine j_iload_n E 59 rfl dX3_readConditions_58 rfl (lv_at hl 3 rfl) ?_
              refine j_if_eq E 62 69 rfl r_l2_9 dX3_readConditions_59 (by decide) (fun cc24_ => ?_) (fun cc24_ => ?_)
              · exact L69_11  y86_c9 H locs ls  (by first | omega | (simp only [upB_same]; omega)) hw (lv_sub hl [1, 2, 3, 4, 0] rfl)
              · refine j_aload_n E 63 rfl dX3_readConditions_62 rfl (lv_at hl 1 rfl) ?_
                refine j_sipush E 66 rfl dX3_readConditions_63 (by decide) ?_
                refine kV_v E (c_X3_emit l D cy T (upV (upV (upV (upV v_0 80 y80_c9) 83 y83_c9) 84 y84_c9) 86 y86_c9) o ((-304))  t_o (rr (by decide)) (show 0 ≤ (y86_c9 o) ∧ (y86_c9 o) ≤ 400 from by omega)) mt_X3_emit ml_X3_60 hK hw (cw_rc4 hK hw.1 t_o) hA ⟨Nat.le_of_ble_eq_true rfl, Nat.le_of_ble_eq_true rfl⟩ ⟨Nat.le_of_ble_eq_true rfl, Nat.le_of_ble_eq_true rfl⟩ (As := [.int (J ((-304)))]) (rest := []) rfl rfl hl.1 (Nat.le_of_ble_eq_true rfl) 69 rfl dX3_readConditions_66 (fun v_25 H locs hq25_ hw => ?_)
                obtain ⟨y86_25, ev25_, hh25_⟩ := hq25_
                rw [ev25_] at hw; clear ev25_
                have hw : WK D cy T (upV (upV (upV (upV v_0 80 y80_c9) 83 y83_c9) 84 y84_c9) 86 y86_25) A0 s.heap H locs := cw_eq hw (by first | rfl | (funext j_; simp only [upV, reduceIte]; (repeat' split) <;> first | rfl | omega | (subst_vars; rfl)))
                have hh25_ : 0 ≤ (y86_25 o) ∧ (y86_25 o) ≤ 400 := hh25_
                exact L69_11  y86_25 H locs ls  (by first | omega | (simp only [upB_same]; omega)) hw (lv_sub hl [1, 2, 3, 4, 0] rfl)
          refine j_aload_n E 37 rfl dX3_readConditions_36 rfl (lv_at hl 0 rfl) ?_
          refine g_84 E hK hw fl_X3_30 t_o (y84_c9 o) rfl 40 rfl dX3_readConditions_37 (fun _ => ?_)
          refine j_sipush E 43 rfl dX3_readConditions_40 (by decide) ?_
          refine j_icmp_ne E 46 50 rfl rr7_ (rr (by decide)) dX3_readConditions_43 (by decide) (fun cc26_ => ?_) (fun cc26_ => ?_)
          · exfalso; omega
          refine j_iconst E 47 rfl dX3_readConditions_46 ?_
          refine j_goto E 51 dX3_readConditions_47 (by decide) ?_
          exact L51_9 1  H locs ls (rr (by decide)) (trivial) hw (lv_sub hl [0, 1, 2, 3] rfl)
        · refine j_aload_n E 27 rfl dX3_readConditions_26 rfl (lv_at hl 0 rfl) ?_
          refine g_84 E hK hw fl_X3_30 t_o (y84_c9 o) rfl 30 rfl dX3_readConditions_27 (fun _ => ?_)
          refine j_sipush E 33 rfl dX3_readConditions_30 (by decide) ?_
          refine j_icmp_ne E 36 111 rfl rr7_ (rr (by decide)) dX3_readConditions_33 (by decide) (fun cc27_ => ?_) (fun cc27_ => ?_)
          · refine j_iload_n E 112 rfl dX3_readConditions_111 rfl (lv_at hl 2 rfl) ?_
            refine j_if_eq E 115 122 rfl r_l2_9 dX3_readConditions_112 (by decide) (fun cc28_ => ?_) (fun cc28_ => ?_)
            · exact hret 122 (upV (upV (upV (upV v_0 80 y80_c9) 83 y83_c9) 84 y84_c9) 86 y86_c9) _ _ ls hw ⟨y80_c9, y83_c9, y84_c9, y86_c9, rfl, by first | omega | (simp only [upB_same]; omega)⟩ dX3_readConditions_122
            · refine j_aload_n E 116 rfl dX3_readConditions_115 rfl (lv_at hl 0 rfl) ?_
              refine j_sipush E 119 rfl dX3_readConditions_116 (by decide) ?_
              refine kV_v E (c_X3_emit l D cy T (upV (upV (upV (upV v_0 80 y80_c9) 83 y83_c9) 84 y84_c9) 86 y86_c9) o ((-304))  t_o (rr (by decide)) (show 0 ≤ (y86_c9 o) ∧ (y86_c9 o) ≤ 400 from by omega)) mt_X3_emit ml_X3_60 hK hw (cw_rc4 hK hw.1 t_o) hA ⟨Nat.le_of_ble_eq_true rfl, Nat.le_of_ble_eq_true rfl⟩ ⟨Nat.le_of_ble_eq_true rfl, Nat.le_of_ble_eq_true rfl⟩ (As := [.int (J ((-304)))]) (rest := []) rfl rfl hl.1 (Nat.le_of_ble_eq_true rfl) 122 rfl dX3_readConditions_119 (fun v_29 H locs hq29_ hw => ?_)
              obtain ⟨y86_29, ev29_, hh29_⟩ := hq29_
              rw [ev29_] at hw; clear ev29_
              have hw : WK D cy T (upV (upV (upV (upV v_0 80 y80_c9) 83 y83_c9) 84 y84_c9) 86 y86_29) A0 s.heap H locs := cw_eq hw (by first | rfl | (funext j_; simp only [upV, reduceIte]; (repeat' split) <;> first | rfl | omega | (subst_vars; rfl)))
              have hh29_ : 0 ≤ (y86_29 o) ∧ (y86_29 o) ≤ 400 := hh29_
              exact hret 122 (upV (upV (upV (upV v_0 80 y80_c9) 83 y83_c9) 84 y84_c9) 86 y86_29) _ _ ls hw ⟨y80_c9, y83_c9, y84_c9, y86_29, rfl, by first | omega | (simp only [upB_same]; omega)⟩ dX3_readConditions_122
          · have L51_30 : ∀ (s0_51 : Int) (H : Heap) (locs : List Loc) (ls : Array Slot), inR s0_51 → (True) → WK D cy T (upV (upV (upV (upV v_0 80 y80_c9) 83 y83_c9) 84 y84_c9) 86 y86_c9) A0 s.heap H locs → lv_has ls 5 [(0, .ref o), (1, .int (J 7)), (2, .int (J l2_9)), (3, .int (J l3_9))] → W p l e (rmd 8 0 0) s m ar below meth c H locs 0 0 QW (F0 m 51 ls [.int (J s0_51)]) := by
              intro s0_51 H locs ls r_s0_51 iv51 hw hl
              refine j_istore E 53 rfl [(4, .int (J s0_51)), (0, .ref o), (1, .int (J 7)), (2, .int (J l2_9)), (3, .int (J l3_9))] dX3_readConditions_51 hl (by decide) rfl (fun ls hl => ?_)
              have L69_32 : ∀ (y86_c69 : Nat → Int) (H : Heap) (locs : List Loc) (ls : Array Slot), (0 ≤ (y86_c69 o) ∧ (y86_c69 o) ≤ 400) → WK D cy T (upV (upV (upV (upV v_0 80 y80_c9) 83 y83_c9) 84 y84_c9) 86 y86_c69) A0 s.heap H locs → lv_has ls 5 [(0, .ref o), (1, .int (J 7)), (2, .int (J l2_9)), (3, .int (J l3_9)), (4, .int (J s0_51))] → W p l e (rmd 8 0 0) s m ar below meth c H locs 0 0 QW (F0 m 69 ls []) := by
                intro y86_c69 H locs ls iv69 hw hl
                refine j_aload_n E 70 rfl dX3_readConditions_69 rfl (lv_at hl 0 rfl) ?_
                refine zV_v E (c_X3_step l D cy T (upV (upV (upV (upV v_0 80 y80_c9) 83 y83_c9) 84 y84_c9) 86 y86_c69) κ o  hO t_o  ) mt_X3_step ml_X3_54 hK hZ hAc hw (cw_rc4 hK hw.1 t_o) hA ⟨Nat.le_of_ble_eq_true rfl, Nat.le_of_ble_eq_true rfl⟩ ⟨Nat.le_of_ble_eq_true rfl, Nat.le_of_ble_eq_true rfl⟩ (As := []) (rest := []) rfl rfl hl.1 (Nat.le_of_ble_eq_true rfl) 73 rfl dX3_readConditions_70 (fun v_34 H locs hq34_ hw => ?_)
                obtain ⟨y83_34, y84_34, ev34_, hh34_⟩ := hq34_
                rw [ev34_] at hw; clear ev34_
                have hw : WK D cy T (upV (upV (upV (upV v_0 80 y80_c9) 83 y83_34) 84 y84_34) 86 y86_c69) A0 s.heap H locs := cw_eq hw (by first | rfl | (funext j_; simp only [upV, reduceIte]; (repeat' split) <;> first | rfl | omega | (subst_vars; rfl)))
                refine j_aload_n E 74 rfl dX3_readConditions_73 rfl (lv_at hl 0 rfl) ?_
                refine j_iload_n E 75 rfl dX3_readConditions_74 rfl (lv_at hl 1 rfl) ?_
                refine zV_v E (c_X3_readCondition_n7 l D cy T (upV (upV (upV (upV v_0 80 y80_c9) 83 y83_34) 84 y84_34) 86 y86_c69) κ o  hO t_o  (show 0 ≤ (y86_c69 o) ∧ (y86_c69 o) ≤ 400 from by omega)) mt_X3_readCondition ml_X3_85 hK hZ hAc hw (cw_rc4 hK hw.1 t_o) hA ⟨Nat.le_of_ble_eq_true rfl, Nat.le_of_ble_eq_true rfl⟩ ⟨Nat.le_of_ble_eq_true rfl, Nat.le_of_ble_eq_true rfl⟩ (As := [.int (J 7)]) (rest := []) rfl rfl hl.1 (Nat.le_of_ble_eq_true rfl) 78 rfl dX3_readConditions_75 (fun v_35 H locs hq35_ hw => ?_)
                obtain ⟨y80_35, y83_35, y84_35, y86_35, ev35_, hh35_⟩ := hq35_
                rw [ev35_] at hw; clear ev35_
                have hw : WK D cy T (upV (upV (upV (upV v_0 80 y80_35) 83 y83_35) 84 y84_35) 86 y86_35) A0 s.heap H locs := cw_eq hw (by first | rfl | (funext j_; simp only [upV, reduceIte]; (repeat' split) <;> first | rfl | omega | (subst_vars; rfl)))
                have hh35_ : 0 ≤ (y86_35 o) ∧ (y86_35 o) ≤ 400 := hh35_
                have L90_36 : ∀ (y86_c90 : Nat → Int) (H : Heap) (locs : List Loc) (ls : Array Slot), (0 ≤ (y86_c90 o) ∧ (y86_c90 o) ≤ 400) → WK D cy T (upV (upV (upV (upV v_0 80 y80_35) 83 y83_35) 84 y84_35) 86 y86_c90) A0 s.heap H locs → lv_has ls 5 [(0, .ref o), (1, .int (J 7)), (2, .int (J l2_9)), (3, .int (J l3_9)), (4, .int (J s0_51))] → W p l e (rmd 8 0 0) s m ar below meth c H locs 0 0 QW (F0 m 90 ls []) := by
                  intro y86_c90 H locs ls iv90 hw hl
                  have L104_38 : ∀ (s0_104 : Int) (H : Heap) (locs : List Loc) (ls : Array Slot), inR s0_104 → (True) → WK D cy T (upV (upV (upV (upV v_0 80 y80_35) 83 y83_35) 84 y84_35) 86 y86_c90) A0 s.heap H locs → lv_has ls 5 [(0, .ref o), (1, .int (J 7)), (2, .int (J l2_9)), (3, .int (J l3_9)), (4, .int (J s0_51))] → W p l e (rmd 8 0 0) s m ar below meth c H locs 0 0 QW (F0 m 104 ls [.int (J s0_104)]) := by
                    intro s0_104 H locs ls r_s0_104 iv104 hw hl
                    refine j_istore_n E 105 rfl [(2, .int (J s0_104)), (0, .ref o), (1, .int (J 7)), (3, .int (J l3_9)), (4, .int (J s0_51))] dX3_readConditions_104 rfl hl (by decide) rfl (fun ls hl => ?_)
                    refine j_iinc E 108 rfl [(3, .int (J (l3_9 + 1))), (2, .int (J s0_104)), (0, .ref o), (1, .int (J 7)), (4, .int (J s0_51))] dX3_readConditions_105 hl (kk := 3) rfl (by decide) rfl (fun ls hl => ?_)
                    refine j_goto E 9 dX3_readConditions_108 (by decide) ?_
                    exact ih9 s0_104 (l3_9 + 1) y80_35 y83_35 y84_35 y86_c90 H locs ls r_s0_104 (rr (by omega)) (by first | omega | (simp only [upB_same]; omega)) (by omega) hw (lv_sub hl [2, 3, 1, 0] rfl)
                  refine j_iload_n E 91 rfl dX3_readConditions_90 rfl (lv_at hl 2 rfl) ?_
                  refine j_if_ne E 94 99 rfl r_l2_9 dX3_readConditions_91 (by decide) (fun cc40_ => ?_) (fun cc40_ => ?_)
                  · refine j_iconst E 100 rfl dX3_readConditions_99 ?_
                    refine j_goto E 104 dX3_readConditions_100 (by decide) ?_
                    exact L104_38 1  H locs ls (rr (by decide)) (trivial) hw (lv_sub hl [0, 1, 2, 3, 4] rfl)
                  · refine j_iload E 96 rfl dX3_readConditions_94 (lv_at hl 4 rfl) ?_
                    refine j_if_ne E 99 103 rfl r_s0_51 dX3_readConditions_96 (by decide) (fun cc41_ => ?_) (fun cc41_ => ?_)
                    · refine j_iconst E 104 rfl dX3_readConditions_103 ?_
                      exact L104_38 0  H locs ls (rr (by decide)) (trivial) hw (lv_sub hl [0, 1, 2, 3, 4] rfl)
                    · refine j_iconst E 100 rfl dX3_readConditions_99 ?_
                      refine j_goto E 104 dX3_readConditions_100 (by decide) ?_
                      exact L104_38 1  H locs ls (rr (by decide)) (trivial) hw (lv_sub hl [0, 1, 2, 3, 4] rfl)
                refine j_iload E 80 rfl dX3_readConditions_78 (lv_at hl 4 rfl) ?_
                refine j_if_eq E 83 90 rfl r_s0_51 dX3_readConditions_80 (by decide) (fun cc42_ => ?_) (fun cc42_ => ?_)
                · exact L90_36  y86_35 H locs ls  (by first | omega | (simp only [upB_same]; omega)) hw (lv_sub hl [0, 1, 2, 3, 4] rfl)
                · refine j_aload_n E 84 rfl dX3_readConditions_83 rfl (lv_at hl 0 rfl) ?_
                  refine j_sipush E 87 rfl dX3_readConditions_84 (by decide) ?_
                  refine kV_v E (c_X3_emit l D cy T (upV (upV (upV (upV v_0 80 y80_35) 83 y83_35) 84 y84_35) 86 y86_35) o ((-305))  t_o (rr (by decide)) (show 0 ≤ (y86_35 o) ∧ (y86_35 o) ≤ 400 from by omega)) mt_X3_emit ml_X3_60 hK hw (cw_rc4 hK hw.1 t_o) hA ⟨Nat.le_of_ble_eq_true rfl, Nat.le_of_ble_eq_true rfl⟩ ⟨Nat.le_of_ble_eq_true rfl, Nat.le_of_ble_eq_true rfl⟩ (As := [.int (J ((-305)))]) (rest := []) rfl rfl hl.1 (Nat.le_of_ble_eq_true rfl) 90 rfl dX3_readConditions_87 (fun v_43 H locs hq43_ hw => ?_)
                  obtain ⟨y86_43, ev43_, hh43_⟩ := hq43_
                  rw [ev43_] at hw; clear ev43_
                  have hw : WK D cy T (upV (upV (upV (upV v_0 80 y80_35) 83 y83_35) 84 y84_35) 86 y86_43) A0 s.heap H locs := cw_eq hw (by first | rfl | (funext j_; simp only [upV, reduceIte]; (repeat' split) <;> first | rfl | omega | (subst_vars; rfl)))
                  have hh43_ : 0 ≤ (y86_43 o) ∧ (y86_43 o) ≤ 400 := hh43_
                  exact L90_36  y86_43 H locs ls  (by first | omega | (simp only [upB_same]; omega)) hw (lv_sub hl [0, 1, 2, 3, 4] rfl)
              refine j_iload E 55 rfl dX3_readConditions_53 (lv_at hl 0 rfl) ?_
              refine j_if_ne E 58 69 rfl r_s0_51 dX3_readConditions_55 (by decide) (fun cc44_ => ?_) (fun cc44_ => ?_)
              · exact L69_32  y86_c9 H locs ls  (by first | omega | (simp only [upB_same]; omega)) hw (lv_sub hl [1, 2, 3, 4, 0] rfl)
              · refine j_iload_n E 59 rfl dX3_readConditions_58 rfl (lv_at hl 3 rfl) ?_
                refine j_if_eq E 62 69 rfl r_l2_9 dX3_readConditions_59 (by decide) (fun cc45_ => ?_) (fun cc45_ => ?_)
                · exact L69_32  y86_c9 H locs ls  (by first | omega | (simp only [upB_same]; omega)) hw (lv_sub hl [1, 2, 3, 4, 0] rfl)
                · refine j_aload_n E 63 rfl dX3_readConditions_62 rfl (lv_at hl 1 rfl) ?_
                  refine j_sipush E 66 rfl dX3_readConditions_63 (by decide) ?_
                  refine kV_v E (c_X3_emit l D cy T (upV (upV (upV (upV v_0 80 y80_c9) 83 y83_c9) 84 y84_c9) 86 y86_c9) o ((-304))  t_o (rr (by decide)) (show 0 ≤ (y86_c9 o) ∧ (y86_c9 o) ≤ 400 from by omega)) mt_X3_emit ml_X3_60 hK hw (cw_rc4 hK hw.1 t_o) hA ⟨Nat.le_of_ble_eq_true rfl, Nat.le_of_ble_eq_true rfl⟩ ⟨Nat.le_of_ble_eq_true rfl, Nat.le_of_ble_eq_true rfl⟩ (As := [.int (J ((-304)))]) (rest := []) rfl rfl hl.1 (Nat.le_of_ble_eq_true rfl) 69 rfl dX3_readConditions_66 (fun v_46 H locs hq46_ hw => ?_)
                  obtain ⟨y86_46, ev46_, hh46_⟩ := hq46_
                  rw [ev46_] at hw; clear ev46_
                  have hw : WK D cy T (upV (upV (upV (upV v_0 80 y80_c9) 83 y83_c9) 84 y84_c9) 86 y86_46) A0 s.heap H locs := cw_eq hw (by first | rfl | (funext j_; simp only [upV, reduceIte]; (repeat' split) <;> first | rfl | omega | (subst_vars; rfl)))
                  have hh46_ : 0 ≤ (y86_46 o) ∧ (y86_46 o) ≤ 400 := hh46_
                  exact L69_32  y86_46 H locs ls  (by first | omega | (simp only [upB_same]; omega)) hw (lv_sub hl [1, 2, 3, 4, 0] rfl)
            refine j_aload_n E 37 rfl dX3_readConditions_36 rfl (lv_at hl 0 rfl) ?_
            refine g_84 E hK hw fl_X3_30 t_o (y84_c9 o) rfl 40 rfl dX3_readConditions_37 (fun _ => ?_)
            refine j_sipush E 43 rfl dX3_readConditions_40 (by decide) ?_
            refine j_icmp_ne E 46 50 rfl rr7_ (rr (by decide)) dX3_readConditions_43 (by decide) (fun cc47_ => ?_) (fun cc47_ => ?_)
            rotate_left; · exfalso; omega
            refine j_iconst E 51 rfl dX3_readConditions_50 ?_
            exact L51_30 0  H locs ls (rr (by decide)) (trivial) hw (lv_sub hl [0, 1, 2, 3] rfl)
  exact L9_2 _ 0 0 y80_1 y83_1 y84_1 y86_1 H locs ls (rr (by decide)) (rr (by decide)) (by first | omega | (simp only [upB_same]; omega)) (Nat.lt_succ_self _) hw (lv_sub hl [2, 3, 1, 0] rfl)
set_option maxHeartbeats 4000000 in
set_option maxRecDepth 100000 in
theorem c_X3_readCondition_n6 (l : Launch) (D : va_G) (cy : Nat → ClassId) (T : Nat → Nat → Nat) (v_0 : Nat → Nat → Int) (κ : Nat → Nat → Nat) (o : Nat) (hO : ∀ x, ow T x → κ 2 2 ≤ x) (t_o : T 0 o = 4) (hp0 : 0 ≤ (v_0 86 o) ∧ (v_0 86 o) ≤ 400) : KZ l D cy κ T yX3_readCondition cX3_readCondition 4 none 9 [.ref o, .int (J 6)] v_0 (KV (fun (v_2 : Nat → Nat → Int) => ∃ (y80_2 : Nat → Int) (y83_2 : Nat → Int) (y84_2 : Nat → Int) (y86_2 : Nat → Int) , v_2 = upV (upV (upV (upV v_0 80 y80_2) 83 y83_2) 84 y84_2) 86 y86_2 ∧ (0 ≤ (y86_2 o) ∧ (y86_2 o) ≤ 400))) := by
  refine KZ.ofv (by decide) (Nat.le_of_ble_eq_true rfl) hO ?_
  intro p e s m below meth c ls ar QW A0 H locs E hK hZ hA hAc hw hl hret
  have hl : lv_has ls 4 [(0, .ref o), (1, .int (J 6))] := hl
  have hT : WT T := hw.1.2.1
  refine j_aload_n E 1 rfl dX3_readCondition_0 rfl (lv_at hl 0 rfl) ?_
  refine g_84 E hK hw fl_X3_30 t_o (v_0 84 o) rfl 4 rfl dX3_readCondition_1 (fun rr1_ => ?_)
  refine j_bipush E 6 rfl dX3_readCondition_4 (by decide) ?_
  refine j_icmp_eq E 9 19 rfl rr1_ (rr (by decide)) dX3_readCondition_6 (by decide) (fun cc2_ => ?_) (fun cc2_ => ?_)
  · refine j_iconst E 20 rfl dX3_readCondition_19 ?_
    refine j_goto E 24 dX3_readCondition_20 (by decide) ?_
    refine j_istore_n E 25 rfl [(2, .int (J 1)), (0, .ref o), (1, .int (J 6))] dX3_readCondition_24 rfl hl (by decide) rfl (fun ls hl => ?_)
    refine j_iload_n E 26 rfl dX3_readCondition_25 rfl (lv_at hl 0 rfl) ?_
    refine j_if_eq E 29 43 rfl (rr (by decide)) dX3_readCondition_26 (by decide) (fun cc3_ => absurd cc3_ (by decide)) (fun _ => ?_)
    refine j_iload_n E 30 rfl dX3_readCondition_29 rfl (lv_at hl 2 rfl) ?_
    refine j_bipush E 32 rfl dX3_readCondition_30 (by decide) ?_
    refine j_icmp_lt E 35 43 rfl (rr (by decide)) (rr (by decide)) dX3_readCondition_32 (by decide) (fun _ => ?_) (fun cc4_ => absurd cc4_ (by decide))
    refine j_aload_n E 44 rfl dX3_readCondition_43 rfl (lv_at hl 1 rfl) ?_
    refine g_84 E hK hw fl_X3_30 t_o (v_0 84 o) rfl 47 rfl dX3_readCondition_44 (fun _ => ?_)
    refine j_bipush E 49 rfl dX3_readCondition_47 (by decide) ?_
    refine j_icmp_ne E 52 72 rfl rr1_ (rr (by decide)) dX3_readCondition_49 (by decide) (fun cc5_ => ?_) (fun cc5_ => ?_)
    · exfalso; omega
    refine j_aload_n E 53 rfl dX3_readCondition_52 rfl (lv_at hl 1 rfl) ?_
    refine zV_v E (c_X3_step l D cy T (v_0) κ o  hO t_o  ) mt_X3_step ml_X3_54 hK hZ hAc hw (cw_rc4 hK hw.1 t_o) hA ⟨Nat.le_of_ble_eq_true rfl, Nat.le_of_ble_eq_true rfl⟩ ⟨Nat.le_of_ble_eq_true rfl, Nat.le_of_ble_eq_true rfl⟩ (As := []) (rest := []) rfl rfl hl.1 (Nat.le_of_ble_eq_true rfl) 56 rfl dX3_readCondition_53 (fun v_6 H locs hq6_ hw => ?_)
    obtain ⟨y83_6, y84_6, ev6_, hh6_⟩ := hq6_
    rw [ev6_] at hw; clear ev6_
    have hw : WK D cy T (upV (upV v_0 83 y83_6) 84 y84_6) A0 s.heap H locs := cw_eq hw (by first | rfl | (funext j_; simp only [upV, reduceIte]; (repeat' split) <;> first | rfl | omega | (subst_vars; rfl)))
    refine j_aload_n E 57 rfl dX3_readCondition_56 rfl (lv_at hl 1 rfl) ?_
    refine j_iload_n E 58 rfl dX3_readCondition_57 rfl (lv_at hl 2 rfl) ?_
    refine j_iconst E 59 rfl dX3_readCondition_58 ?_
    refine j_iadd E 60 rfl dX3_readCondition_59 ?_
    refine j_lit (z := 7) (by decide) ?_
    refine zV_v E (c_X3_readConditions_n7 l D cy T (upV (upV v_0 83 y83_6) 84 y84_6) κ o  hO t_o  (show 0 ≤ ((v_0 86) o) ∧ ((v_0 86) o) ≤ 400 from by omega)) mt_X3_readConditions ml_X3_57 hK hZ hAc hw (cw_rc4 hK hw.1 t_o) hA ⟨Nat.le_of_ble_eq_true rfl, Nat.le_of_ble_eq_true rfl⟩ ⟨Nat.le_of_ble_eq_true rfl, Nat.le_of_ble_eq_true rfl⟩ (As := [.int (J 7)]) (rest := []) rfl rfl hl.1 (Nat.le_of_ble_eq_true rfl) 63 rfl dX3_readCondition_60 (fun v_7 H locs hq7_ hw => ?_)
    obtain ⟨y80_7, y83_7, y84_7, y86_7, ev7_, hh7_⟩ := hq7_
    rw [ev7_] at hw; clear ev7_
    have hw : WK D cy T (upV (upV (upV (upV v_0 80 y80_7) 83 y83_7) 84 y84_7) 86 y86_7) A0 s.heap H locs := cw_eq hw (by first | rfl | (funext j_; simp only [upV, reduceIte]; (repeat' split) <;> first | rfl | omega | (subst_vars; rfl)))
    have hh7_ : 0 ≤ (y86_7 o) ∧ (y86_7 o) ≤ 400 := hh7_
    refine j_aload_n E 64 rfl dX3_readCondition_63 rfl (lv_at hl 1 rfl) ?_
    refine j_bipush E 66 rfl dX3_readCondition_64 (by decide) ?_
    refine zV_v E (c_X3_take l D cy T (upV (upV (upV (upV v_0 80 y80_7) 83 y83_7) 84 y84_7) 86 y86_7) κ o 41  hO t_o (rr (by decide)) ) mt_X3_take ml_X3_47 hK hZ hAc hw (cw_rc4 hK hw.1 t_o) hA ⟨Nat.le_of_ble_eq_true rfl, Nat.le_of_ble_eq_true rfl⟩ ⟨Nat.le_of_ble_eq_true rfl, Nat.le_of_ble_eq_true rfl⟩ (As := [.int (J 41)]) (rest := []) rfl rfl hl.1 (Nat.le_of_ble_eq_true rfl) 69 rfl dX3_readCondition_66 (fun v_8 H locs hq8_ hw => ?_)
    obtain ⟨y80_8, y83_8, y84_8, ev8_, hh8_⟩ := hq8_
    rw [ev8_] at hw; clear ev8_
    have hw : WK D cy T (upV (upV (upV (upV v_0 80 y80_8) 83 y83_8) 84 y84_8) 86 y86_7) A0 s.heap H locs := cw_eq hw (by first | rfl | (funext j_; simp only [upV, reduceIte]; (repeat' split) <;> first | rfl | omega | (subst_vars; rfl)))
    refine j_goto E 126 dX3_readCondition_69 (by decide) ?_
    exact hret 126 (upV (upV (upV (upV v_0 80 y80_8) 83 y83_8) 84 y84_8) 86 y86_7) _ _ ls hw ⟨y80_8, y83_8, y84_8, y86_7, rfl, by first | omega | (simp only [upB_same]; omega)⟩ dX3_readCondition_126
  · refine j_aload_n E 10 rfl dX3_readCondition_9 rfl (lv_at hl 0 rfl) ?_
    refine g_84 E hK hw fl_X3_30 t_o (v_0 84 o) rfl 13 rfl dX3_readCondition_10 (fun _ => ?_)
    refine j_sipush E 16 rfl dX3_readCondition_13 (by decide) ?_
    refine j_icmp_ne E 19 23 rfl rr1_ (rr (by decide)) dX3_readCondition_16 (by decide) (fun cc9_ => ?_) (fun cc9_ => ?_)
    · refine j_iconst E 24 rfl dX3_readCondition_23 ?_
      refine j_istore_n E 25 rfl [(2, .int (J 0)), (0, .ref o), (1, .int (J 6))] dX3_readCondition_24 rfl hl (by decide) rfl (fun ls hl => ?_)
      refine j_iload_n E 26 rfl dX3_readCondition_25 rfl (lv_at hl 0 rfl) ?_
      refine j_if_eq E 29 43 rfl (rr (by decide)) dX3_readCondition_26 (by decide) (fun _ => ?_) (fun cc10_ => absurd cc10_ (by decide))
      refine j_aload_n E 44 rfl dX3_readCondition_43 rfl (lv_at hl 1 rfl) ?_
      refine g_84 E hK hw fl_X3_30 t_o (v_0 84 o) rfl 47 rfl dX3_readCondition_44 (fun _ => ?_)
      refine j_bipush E 49 rfl dX3_readCondition_47 (by decide) ?_
      refine j_icmp_ne E 52 72 rfl rr1_ (rr (by decide)) dX3_readCondition_49 (by decide) (fun cc11_ => ?_) (fun cc11_ => ?_)
      rotate_left; · exfalso; omega
      refine j_aload_n E 73 rfl dX3_readCondition_72 rfl (lv_at hl 1 rfl) ?_
      refine g_84 E hK hw fl_X3_30 t_o (v_0 84 o) rfl 76 rfl dX3_readCondition_73 (fun _ => ?_)
      refine j_sipush E 79 rfl dX3_readCondition_76 (by decide) ?_
      refine j_icmp_ne E 82 103 rfl rr1_ (rr (by decide)) dX3_readCondition_79 (by decide) (fun cc12_ => ?_) (fun cc12_ => ?_)
      rotate_left; · exfalso; omega
      refine j_aload_n E 104 rfl dX3_readCondition_103 rfl (lv_at hl 1 rfl) ?_
      refine zV_v E (c_X3_readSum l D cy T (v_0) κ o  hO t_o  (show 0 ≤ ((v_0 86) o) ∧ ((v_0 86) o) ≤ 400 from by omega)) mt_X3_readSum ml_X3_51 hK hZ hAc hw (cw_rc4 hK hw.1 t_o) hA ⟨Nat.le_of_ble_eq_true rfl, Nat.le_of_ble_eq_true rfl⟩ ⟨Nat.le_of_ble_eq_true rfl, Nat.le_of_ble_eq_true rfl⟩ (As := []) (rest := []) rfl rfl hl.1 (Nat.le_of_ble_eq_true rfl) 107 rfl dX3_readCondition_104 (fun v_13 H locs hq13_ hw => ?_)
      obtain ⟨y80_13, y83_13, y84_13, y86_13, ev13_, hh13_⟩ := hq13_
      rw [ev13_] at hw; clear ev13_
      have hw : WK D cy T (upV (upV (upV (upV v_0 80 y80_13) 83 y83_13) 84 y84_13) 86 y86_13) A0 s.heap H locs := cw_eq hw (by first | rfl | (funext j_; simp only [upV, reduceIte]; (repeat' split) <;> first | rfl | omega | (subst_vars; rfl)))
      have hh13_ : 0 ≤ (y86_13 o) ∧ (y86_13 o) ≤ 400 := hh13_
      refine j_aload_n E 108 rfl dX3_readCondition_107 rfl (lv_at hl 1 rfl) ?_
      refine g_84 E hK hw fl_X3_30 t_o (y84_13 o) rfl 111 rfl dX3_readCondition_108 (fun rr14_ => ?_)
      refine j_istore_n E 112 rfl [(3, .int (J (y84_13 o))), (2, .int (J 0)), (0, .ref o), (1, .int (J 6))] dX3_readCondition_111 rfl hl (by decide) rfl (fun ls hl => ?_)
      refine j_aload_n E 113 rfl dX3_readCondition_112 rfl (lv_at hl 2 rfl) ?_
      refine zV_v E (c_X3_takeComparison l D cy T (upV (upV (upV (upV v_0 80 y80_13) 83 y83_13) 84 y84_13) 86 y86_13) κ o  hO t_o  ) mt_X3_takeComparison ml_X3_88 hK hZ hAc hw (cw_rc4 hK hw.1 t_o) hA ⟨Nat.le_of_ble_eq_true rfl, Nat.le_of_ble_eq_true rfl⟩ ⟨Nat.le_of_ble_eq_true rfl, Nat.le_of_ble_eq_true rfl⟩ (As := []) (rest := []) rfl rfl hl.1 (Nat.le_of_ble_eq_true rfl) 116 rfl dX3_readCondition_113 (fun v_15 H locs hq15_ hw => ?_)
      obtain ⟨y80_15, y83_15, y84_15, ev15_, hh15_⟩ := hq15_
      rw [ev15_] at hw; clear ev15_
      have hw : WK D cy T (upV (upV (upV (upV v_0 80 y80_15) 83 y83_15) 84 y84_15) 86 y86_13) A0 s.heap H locs := cw_eq hw (by first | rfl | (funext j_; simp only [upV, reduceIte]; (repeat' split) <;> first | rfl | omega | (subst_vars; rfl)))
      refine j_aload_n E 117 rfl dX3_readCondition_116 rfl (lv_at hl 2 rfl) ?_
      refine zV_v E (c_X3_readSum l D cy T (upV (upV (upV (upV v_0 80 y80_15) 83 y83_15) 84 y84_15) 86 y86_13) κ o  hO t_o  (show 0 ≤ (y86_13 o) ∧ (y86_13 o) ≤ 400 from by omega)) mt_X3_readSum ml_X3_51 hK hZ hAc hw (cw_rc4 hK hw.1 t_o) hA ⟨Nat.le_of_ble_eq_true rfl, Nat.le_of_ble_eq_true rfl⟩ ⟨Nat.le_of_ble_eq_true rfl, Nat.le_of_ble_eq_true rfl⟩ (As := []) (rest := []) rfl rfl hl.1 (Nat.le_of_ble_eq_true rfl) 120 rfl dX3_readCondition_117 (fun v_16 H locs hq16_ hw => ?_)
      obtain ⟨y80_16, y83_16, y84_16, y86_16, ev16_, hh16_⟩ := hq16_
      rw [ev16_] at hw; clear ev16_
      have hw : WK D cy T (upV (upV (upV (upV v_0 80 y80_16) 83 y83_16) 84 y84_16) 86 y86_16) A0 s.heap H locs := cw_eq hw (by first | rfl | (funext j_; simp only [upV, reduceIte]; (repeat' split) <;> first | rfl | omega | (subst_vars; rfl)))
      have hh16_ : 0 ≤ (y86_16 o) ∧ (y86_16 o) ≤ 400 := hh16_
      refine j_aload_n E 121 rfl dX3_readCondition_120 rfl (lv_at hl 2 rfl) ?_
      refine j_iload_n E 122 rfl dX3_readCondition_121 rfl (lv_at hl 0 rfl) ?_
      refine j_ineg E 123 rfl dX3_readCondition_122 ?_
      refine j_norm (fun zz17_ rr17_ ee17_ => ?_)
      refine kV_v E (c_X3_emit l D cy T (upV (upV (upV (upV v_0 80 y80_16) 83 y83_16) 84 y84_16) 86 y86_16) o zz17_  t_o rr17_ (show 0 ≤ (y86_16 o) ∧ (y86_16 o) ≤ 400 from by omega)) mt_X3_emit ml_X3_60 hK hw (cw_rc4 hK hw.1 t_o) hA ⟨Nat.le_of_ble_eq_true rfl, Nat.le_of_ble_eq_true rfl⟩ ⟨Nat.le_of_ble_eq_true rfl, Nat.le_of_ble_eq_true rfl⟩ (As := [.int (J zz17_)]) (rest := []) rfl rfl hl.1 (Nat.le_of_ble_eq_true rfl) 126 rfl dX3_readCondition_123 (fun v_18 H locs hq18_ hw => ?_)
      obtain ⟨y86_18, ev18_, hh18_⟩ := hq18_
      rw [ev18_] at hw; clear ev18_
      have hw : WK D cy T (upV (upV (upV (upV v_0 80 y80_16) 83 y83_16) 84 y84_16) 86 y86_18) A0 s.heap H locs := cw_eq hw (by first | rfl | (funext j_; simp only [upV, reduceIte]; (repeat' split) <;> first | rfl | omega | (subst_vars; rfl)))
      have hh18_ : 0 ≤ (y86_18 o) ∧ (y86_18 o) ≤ 400 := hh18_
      exact hret 126 (upV (upV (upV (upV v_0 80 y80_16) 83 y83_16) 84 y84_16) 86 y86_18) _ _ ls hw ⟨y80_16, y83_16, y84_16, y86_18, rfl, by first | omega | (simp only [upB_same]; omega)⟩ dX3_readCondition_126
    · refine j_iconst E 20 rfl dX3_readCondition_19 ?_
      refine j_goto E 24 dX3_readCondition_20 (by decide) ?_
      refine j_istore_n E 25 rfl [(2, .int (J 1)), (0, .ref o), (1, .int (J 6))] dX3_readCondition_24 rfl hl (by decide) rfl (fun ls hl => ?_)
      refine j_iload_n E 26 rfl dX3_readCondition_25 rfl (lv_at hl 0 rfl) ?_
      refine j_if_eq E 29 43 rfl (rr (by decide)) dX3_readCondition_26 (by decide) (fun cc19_ => absurd cc19_ (by decide)) (fun _ => ?_)
      refine j_iload_n E 30 rfl dX3_readCondition_29 rfl (lv_at hl 2 rfl) ?_
      refine j_bipush E 32 rfl dX3_readCondition_30 (by decide) ?_
      refine j_icmp_lt E 35 43 rfl (rr (by decide)) (rr (by decide)) dX3_readCondition_32 (by decide) (fun _ => ?_) (fun cc20_ => absurd cc20_ (by decide))
      refine j_aload_n E 44 rfl dX3_readCondition_43 rfl (lv_at hl 1 rfl) ?_
      refine g_84 E hK hw fl_X3_30 t_o (v_0 84 o) rfl 47 rfl dX3_readCondition_44 (fun _ => ?_)
      refine j_bipush E 49 rfl dX3_readCondition_47 (by decide) ?_
      refine j_icmp_ne E 52 72 rfl rr1_ (rr (by decide)) dX3_readCondition_49 (by decide) (fun cc21_ => ?_) (fun cc21_ => ?_)
      rotate_left; · exfalso; omega
      refine j_aload_n E 73 rfl dX3_readCondition_72 rfl (lv_at hl 1 rfl) ?_
      refine g_84 E hK hw fl_X3_30 t_o (v_0 84 o) rfl 76 rfl dX3_readCondition_73 (fun _ => ?_)
      refine j_sipush E 79 rfl dX3_readCondition_76 (by decide) ?_
      refine j_icmp_ne E 82 103 rfl rr1_ (rr (by decide)) dX3_readCondition_79 (by decide) (fun cc22_ => ?_) (fun cc22_ => ?_)
      · exfalso; omega
      refine j_aload_n E 83 rfl dX3_readCondition_82 rfl (lv_at hl 1 rfl) ?_
      refine zV_v E (c_X3_step l D cy T (v_0) κ o  hO t_o  ) mt_X3_step ml_X3_54 hK hZ hAc hw (cw_rc4 hK hw.1 t_o) hA ⟨Nat.le_of_ble_eq_true rfl, Nat.le_of_ble_eq_true rfl⟩ ⟨Nat.le_of_ble_eq_true rfl, Nat.le_of_ble_eq_true rfl⟩ (As := []) (rest := []) rfl rfl hl.1 (Nat.le_of_ble_eq_true rfl) 86 rfl dX3_readCondition_83 (fun v_23 H locs hq23_ hw => ?_)
      obtain ⟨y83_23, y84_23, ev23_, hh23_⟩ := hq23_
      rw [ev23_] at hw; clear ev23_
      have hw : WK D cy T (upV (upV v_0 83 y83_23) 84 y84_23) A0 s.heap H locs := cw_eq hw (by first | rfl | (funext j_; simp only [upV, reduceIte]; (repeat' split) <;> first | rfl | omega | (subst_vars; rfl)))
      refine j_aload_n E 87 rfl dX3_readCondition_86 rfl (lv_at hl 1 rfl) ?_
      refine j_iload_n E 88 rfl dX3_readCondition_87 rfl (lv_at hl 2 rfl) ?_
      refine j_iconst E 89 rfl dX3_readCondition_88 ?_
      refine j_iadd E 90 rfl dX3_readCondition_89 ?_
      refine j_lit (z := 7) (by decide) ?_
      refine zV_v E (c_X3_readCondition_n7 l D cy T (upV (upV v_0 83 y83_23) 84 y84_23) κ o  hO t_o  (show 0 ≤ ((v_0 86) o) ∧ ((v_0 86) o) ≤ 400 from by omega)) mt_X3_readCondition ml_X3_85 hK hZ hAc hw (cw_rc4 hK hw.1 t_o) hA ⟨Nat.le_of_ble_eq_true rfl, Nat.le_of_ble_eq_true rfl⟩ ⟨Nat.le_of_ble_eq_true rfl, Nat.le_of_ble_eq_true rfl⟩ (As := [.int (J 7)]) (rest := []) rfl rfl hl.1 (Nat.le_of_ble_eq_true rfl) 93 rfl dX3_readCondition_90 (fun v_24 H locs hq24_ hw => ?_)
      obtain ⟨y80_24, y83_24, y84_24, y86_24, ev24_, hh24_⟩ := hq24_
      rw [ev24_] at hw; clear ev24_
      have hw : WK D cy T (upV (upV (upV (upV v_0 80 y80_24) 83 y83_24) 84 y84_24) 86 y86_24) A0 s.heap H locs := cw_eq hw (by first | rfl | (funext j_; simp only [upV, reduceIte]; (repeat' split) <;> first | rfl | omega | (subst_vars; rfl)))
      have hh24_ : 0 ≤ (y86_24 o) ∧ (y86_24 o) ≤ 400 := hh24_
      refine j_aload_n E 94 rfl dX3_readCondition_93 rfl (lv_at hl 1 rfl) ?_
      refine j_sipush E 97 rfl dX3_readCondition_94 (by decide) ?_
      refine kV_v E (c_X3_emit l D cy T (upV (upV (upV (upV v_0 80 y80_24) 83 y83_24) 84 y84_24) 86 y86_24) o ((-306))  t_o (rr (by decide)) (show 0 ≤ (y86_24 o) ∧ (y86_24 o) ≤ 400 from by omega)) mt_X3_emit ml_X3_60 hK hw (cw_rc4 hK hw.1 t_o) hA ⟨Nat.le_of_ble_eq_true rfl, Nat.le_of_ble_eq_true rfl⟩ ⟨Nat.le_of_ble_eq_true rfl, Nat.le_of_ble_eq_true rfl⟩ (As := [.int (J ((-306)))]) (rest := []) rfl rfl hl.1 (Nat.le_of_ble_eq_true rfl) 100 rfl dX3_readCondition_97 (fun v_25 H locs hq25_ hw => ?_)
      obtain ⟨y86_25, ev25_, hh25_⟩ := hq25_
      rw [ev25_] at hw; clear ev25_
      have hw : WK D cy T (upV (upV (upV (upV v_0 80 y80_24) 83 y83_24) 84 y84_24) 86 y86_25) A0 s.heap H locs := cw_eq hw (by first | rfl | (funext j_; simp only [upV, reduceIte]; (repeat' split) <;> first | rfl | omega | (subst_vars; rfl)))
      have hh25_ : 0 ≤ (y86_25 o) ∧ (y86_25 o) ≤ 400 := hh25_
      refine j_goto E 126 dX3_readCondition_100 (by decide) ?_
      exact hret 126 (upV (upV (upV (upV v_0 80 y80_24) 83 y83_24) 84 y84_24) 86 y86_25) _ _ ls hw ⟨y80_24, y83_24, y84_24, y86_25, rfl, by first | omega | (simp only [upB_same]; omega)⟩ dX3_readCondition_126
set_option maxHeartbeats 4000000 in
set_option maxRecDepth 100000 in
theorem c_X3_readConditions_n6 (l : Launch) (D : va_G) (cy : Nat → ClassId) (T : Nat → Nat → Nat) (v_0 : Nat → Nat → Int) (κ : Nat → Nat → Nat) (o : Nat) (hO : ∀ x, ow T x → κ 2 2 ≤ x) (t_o : T 0 o = 4) (hp0 : 0 ≤ (v_0 86 o) ∧ (v_0 86 o) ≤ 400) : KZ l D cy κ T yX3_readConditions cX3_readConditions 5 none 10 [.ref o, .int (J 6)] v_0 (KV (fun (v_2 : Nat → Nat → Int) => ∃ (y80_2 : Nat → Int) (y83_2 : Nat → Int) (y84_2 : Nat → Int) (y86_2 : Nat → Int) , v_2 = upV (upV (upV (upV v_0 80 y80_2) 83 y83_2) 84 y84_2) 86 y86_2 ∧ (0 ≤ (y86_2 o) ∧ (y86_2 o) ≤ 400))) := by
  refine KZ.ofv (by decide) (Nat.le_of_ble_eq_true rfl) hO ?_
  intro p e s m below meth c ls ar QW A0 H locs E hK hZ hA hAc hw hl hret
  have hl : lv_has ls 5 [(0, .ref o), (1, .int (J 6))] := hl
  have hT : WT T := hw.1.2.1
  refine j_aload_n E 1 rfl dX3_readConditions_0 rfl (lv_at hl 0 rfl) ?_
  refine j_iload_n E 2 rfl dX3_readConditions_1 rfl (lv_at hl 1 rfl) ?_
  refine zV_v E (c_X3_readCondition_n6 l D cy T (v_0) κ o  hO t_o  (show 0 ≤ ((v_0 86) o) ∧ ((v_0 86) o) ≤ 400 from by omega)) mt_X3_readCondition ml_X3_85 hK hZ hAc hw (cw_rc4 hK hw.1 t_o) hA ⟨Nat.le_of_ble_eq_true rfl, Nat.le_of_ble_eq_true rfl⟩ ⟨Nat.le_of_ble_eq_true rfl, Nat.le_of_ble_eq_true rfl⟩ (As := [.int (J 6)]) (rest := []) rfl rfl hl.1 (Nat.le_of_ble_eq_true rfl) 5 rfl dX3_readConditions_2 (fun v_1 H locs hq1_ hw => ?_)
  obtain ⟨y80_1, y83_1, y84_1, y86_1, ev1_, hh1_⟩ := hq1_
  rw [ev1_] at hw; clear ev1_
  have hw : WK D cy T (upV (upV (upV (upV v_0 80 y80_1) 83 y83_1) 84 y84_1) 86 y86_1) A0 s.heap H locs := cw_eq hw (by first | rfl | (funext j_; simp only [upV, reduceIte]; (repeat' split) <;> first | rfl | omega | (subst_vars; rfl)))
  have hh1_ : 0 ≤ (y86_1 o) ∧ (y86_1 o) ≤ 400 := hh1_
  refine j_iconst E 6 rfl dX3_readConditions_5 ?_
  refine j_istore_n E 7 rfl [(2, .int (J 0)), (0, .ref o), (1, .int (J 6))] dX3_readConditions_6 rfl hl (by decide) rfl (fun ls hl => ?_)
  refine j_iconst E 8 rfl dX3_readConditions_7 ?_
  refine j_istore_n E 9 rfl [(3, .int (J 0)), (2, .int (J 0)), (0, .ref o), (1, .int (J 6))] dX3_readConditions_8 rfl hl (by decide) rfl (fun ls hl => ?_)
  have L9_2 : ∀ (k9 : Nat) (l2_9 l3_9 : Int) (y80_c9 : Nat → Int) (y83_c9 : Nat → Int) (y84_c9 : Nat → Int) (y86_c9 : Nat → Int) (H : Heap) (locs : List Loc) (ls : Array Slot), inR l2_9 → inR l3_9 → (0 ≤ (y86_c9 o) ∧ (y86_c9 o) ≤ 400) → (400 - l3_9).toNat < k9 → WK D cy T (upV (upV (upV (upV v_0 80 y80_c9) 83 y83_c9) 84 y84_c9) 86 y86_c9) A0 s.heap H locs → lv_has ls 5 [(0, .ref o), (1, .int (J 6)), (2, .int (J l2_9)), (3, .int (J l3_9))] → W p l e (rmd 10 0 0) s m ar below meth c H locs 0 0 QW (F0 m 9 ls []) := by
    intro k9
    induction k9 with
    | zero =>
      intro l2_9 l3_9 y80_c9 y83_c9 y84_c9 y86_c9 H locs ls r_l2_9 r_l3_9 iv9 ms9 hw hl
      exact absurd ms9 (Nat.not_lt_zero _)
    | succ k9 ih9 =>
      intro l2_9 l3_9 y80_c9 y83_c9 y84_c9 y86_c9 H locs ls r_l2_9 r_l3_9 iv9 ms9 hw hl
      refine j_iload_n E 10 rfl dX3_readConditions_9 rfl (lv_at hl 3 rfl) ?_
      refine j_sipush E 13 rfl dX3_readConditions_10 (by decide) ?_
      refine j_icmp_ge E 16 111 rfl r_l3_9 (rr (by decide)) dX3_readConditions_13 (by decide) (fun cc4_ => ?_) (fun cc4_ => ?_)
      · refine j_iload_n E 112 rfl dX3_readConditions_111 rfl (lv_at hl 2 rfl) ?_
        refine j_if_eq E 115 122 rfl r_l2_9 dX3_readConditions_112 (by decide) (fun cc5_ => ?_) (fun cc5_ => ?_)
        · exact hret 122 (upV (upV (upV (upV v_0 80 y80_c9) 83 y83_c9) 84 y84_c9) 86 y86_c9) _ _ ls hw ⟨y80_c9, y83_c9, y84_c9, y86_c9, rfl, by first | omega | (simp only [upB_same]; omega)⟩ dX3_readConditions_122
        · refine j_aload_n E 116 rfl dX3_readConditions_115 rfl (lv_at hl 0 rfl) ?_
          refine j_sipush E 119 rfl dX3_readConditions_116 (by decide) ?_
          refine kV_v E (c_X3_emit l D cy T (upV (upV (upV (upV v_0 80 y80_c9) 83 y83_c9) 84 y84_c9) 86 y86_c9) o ((-304))  t_o (rr (by decide)) (show 0 ≤ (y86_c9 o) ∧ (y86_c9 o) ≤ 400 from by omega)) mt_X3_emit ml_X3_60 hK hw (cw_rc4 hK hw.1 t_o) hA ⟨Nat.le_of_ble_eq_true rfl, Nat.le_of_ble_eq_true rfl⟩ ⟨Nat.le_of_ble_eq_true rfl, Nat.le_of_ble_eq_true rfl⟩ (As := [.int (J ((-304)))]) (rest := []) rfl rfl hl.1 (Nat.le_of_ble_eq_true rfl) 122 rfl dX3_readConditions_119 (fun v_6 H locs hq6_ hw => ?_)
          obtain ⟨y86_6, ev6_, hh6_⟩ := hq6_
          rw [ev6_] at hw; clear ev6_
          have hw : WK D cy T (upV (upV (upV (upV v_0 80 y80_c9) 83 y83_c9) 84 y84_c9) 86 y86_6) A0 s.heap H locs := cw_eq hw (by first | rfl | (funext j_; simp only [upV, reduceIte]; (repeat' split) <;> first | rfl | omega | (subst_vars; rfl)))
          have hh6_ : 0 ≤ (y86_6 o) ∧ (y86_6 o) ≤ 400 := hh6_
          exact hret 122 (upV (upV (upV (upV v_0 80 y80_c9) 83 y83_c9) 84 y84_c9) 86 y86_6) _ _ ls hw ⟨y80_c9, y83_c9, y84_c9, y86_6, rfl, by first | omega | (simp only [upB_same]; omega)⟩ dX3_readConditions_122
      · refine j_aload_n E 17 rfl dX3_readConditions_16 rfl (lv_at hl 0 rfl) ?_
        refine g_84 E hK hw fl_X3_30 t_o (y84_c9 o) rfl 20 rfl dX3_readConditions_17 (fun rr7_ => ?_)
        refine j_sipush E 23 rfl dX3_readConditions_20 (by decide) ?_
        refine j_icmp_eq E 26 36 rfl rr7_ (rr (by decide)) dX3_readConditions_23 (by decide) (fun cc8_ => ?_) (fun cc8_ => ?_)
        · have L51_9 : ∀ (s0_51 : Int) (H : Heap) (locs : List Loc) (ls : Array Slot), inR s0_51 → (True) → WK D cy T (upV (upV (upV (upV v_0 80 y80_c9) 83 y83_c9) 84 y84_c9) 86 y86_c9) A0 s.heap H locs → lv_has ls 5 [(0, .ref o), (1, .int (J 6)), (2, .int (J l2_9)), (3, .int (J l3_9))] → W p l e (rmd 10 0 0) s m ar below meth c H locs 0 0 QW (F0 m 51 ls [.int (J s0_51)]) := by
            intro s0_51 H locs ls r_s0_51 iv51 hw hl
            refine j_istore E 53 rfl [(4, .int (J s0_51)), (0, .ref o), (1, .int (J 6)), (2, .int (J l2_9)), (3, .int (J l3_9))] dX3_readConditions_51 hl (by decide) rfl (fun ls hl => ?_)
            have L69_11 : ∀ (y86_c69 : Nat → Int) (H : Heap) (locs : List Loc) (ls : Array Slot), (0 ≤ (y86_c69 o) ∧ (y86_c69 o) ≤ 400) → WK D cy T (upV (upV (upV (upV v_0 80 y80_c9) 83 y83_c9) 84 y84_c9) 86 y86_c69) A0 s.heap H locs → lv_has ls 5 [(0, .ref o), (1, .int (J 6)), (2, .int (J l2_9)), (3, .int (J l3_9)), (4, .int (J s0_51))] → W p l e (rmd 10 0 0) s m ar below meth c H locs 0 0 QW (F0 m 69 ls []) := by
              intro y86_c69 H locs ls iv69 hw hl
              refine j_aload_n E 70 rfl dX3_readConditions_69 rfl (lv_at hl 0 rfl) ?_
              refine zV_v E (c_X3_step l D cy T (upV (upV (upV (upV v_0 80 y80_c9) 83 y83_c9) 84 y84_c9) 86 y86_c69) κ o  hO t_o  ) mt_X3_step ml_X3_54 hK hZ hAc hw (cw_rc4 hK hw.1 t_o) hA ⟨Nat.le_of_ble_eq_true rfl, Nat.le_of_ble_eq_true rfl⟩ ⟨Nat.le_of_ble_eq_true rfl, Nat.le_of_ble_eq_true rfl⟩ (As := []) (rest := []) rfl rfl hl.1 (Nat.le_of_ble_eq_true rfl) 73 rfl dX3_readConditions_70 (fun v_13 H locs hq13_ hw => ?_)
              obtain ⟨y83_13, y84_13, ev13_, hh13_⟩ := hq13_
              rw [ev13_] at hw; clear ev13_
              have hw : WK D cy T (upV (upV (upV (upV v_0 80 y80_c9) 83 y83_13) 84 y84_13) 86 y86_c69) A0 s.heap H locs := cw_eq hw (by first | rfl | (funext j_; simp only [upV, reduceIte]; (repeat' split) <;> first | rfl | omega | (subst_vars; rfl)))
              refine j_aload_n E 74 rfl dX3_readConditions_73 rfl (lv_at hl 0 rfl) ?_
              refine j_iload_n E 75 rfl dX3_readConditions_74 rfl (lv_at hl 1 rfl) ?_
              refine zV_v E (c_X3_readCondition_n6 l D cy T (upV (upV (upV (upV v_0 80 y80_c9) 83 y83_13) 84 y84_13) 86 y86_c69) κ o  hO t_o  (show 0 ≤ (y86_c69 o) ∧ (y86_c69 o) ≤ 400 from by omega)) mt_X3_readCondition ml_X3_85 hK hZ hAc hw (cw_rc4 hK hw.1 t_o) hA ⟨Nat.le_of_ble_eq_true rfl, Nat.le_of_ble_eq_true rfl⟩ ⟨Nat.le_of_ble_eq_true rfl, Nat.le_of_ble_eq_true rfl⟩ (As := [.int (J 6)]) (rest := []) rfl rfl hl.1 (Nat.le_of_ble_eq_true rfl) 78 rfl dX3_readConditions_75 (fun v_14 H locs hq14_ hw => ?_)
              obtain ⟨y80_14, y83_14, y84_14, y86_14, ev14_, hh14_⟩ := hq14_
              rw [ev14_] at hw; clear ev14_
              have hw : WK D cy T (upV (upV (upV (upV v_0 80 y80_14) 83 y83_14) 84 y84_14) 86 y86_14) A0 s.heap H locs := cw_eq hw (by first | rfl | (funext j_; simp only [upV, reduceIte]; (repeat' split) <;> first | rfl | omega | (subst_vars; rfl)))
              have hh14_ : 0 ≤ (y86_14 o) ∧ (y86_14 o) ≤ 400 := hh14_
              have L90_15 : ∀ (y86_c90 : Nat → Int) (H : Heap) (locs : List Loc) (ls : Array Slot), (0 ≤ (y86_c90 o) ∧ (y86_c90 o) ≤ 400) → WK D cy T (upV (upV (upV (upV v_0 80 y80_14) 83 y83_14) 84 y84_14) 86 y86_c90) A0 s.heap H locs → lv_has ls 5 [(0, .ref o), (1, .int (J 6)), (2, .int (J l2_9)), (3, .int (J l3_9)), (4, .int (J s0_51))] → W p l e (rmd 10 0 0) s m ar below meth c H locs 0 0 QW (F0 m 90 ls []) := by
                intro y86_c90 H locs ls iv90 hw hl
                have L104_17 : ∀ (s0_104 : Int) (H : Heap) (locs : List Loc) (ls : Array Slot), inR s0_104 → (True) → WK D cy T (upV (upV (upV (upV v_0 80 y80_14) 83 y83_14) 84 y84_14) 86 y86_c90) A0 s.heap H locs → lv_has ls 5 [(0, .ref o), (1, .int (J 6)), (2, .int (J l2_9)), (3, .int (J l3_9)), (4, .int (J s0_51))] → W p l e (rmd 10 0 0) s m ar below meth c H locs 0 0 QW (F0 m 104 ls [.int (J s0_104)]) := by
                  intro s0_104 H locs ls r_s0_104 iv104 hw hl
                  refine j_istore_n E 105 rfl [(2, .int (J s0_104)), (0, .ref o), (1, .int (J 6)), (3, .int (J l3_9)), (4, .int (J s0_51))] dX3_readConditions_104 rfl hl (by decide) rfl (fun ls hl => ?_)
                  refine j_iinc E 108 rfl [(3, .int (J (l3_9 + 1))), (2, .int (J s0_104)), (0, .ref o), (1, .int (J 6)), (4, .int (J s0_51))] dX3_readConditions_105 hl (kk := 3) rfl (by decide) rfl (fun ls hl => ?_)
                  refine j_goto E 9 dX3_readConditions_108 (by decide) ?_
                  exact ih9 s0_104 (l3_9 + 1) y80_14 y83_14 y84_14 y86_c90 H locs ls r_s0_104 (rr (by omega)) (by first | omega | (simp only [upB_same]; omega)) (by omega) hw (lv_sub hl [2, 3, 1, 0] rfl)
                refine j_iload_n E 91 rfl dX3_readConditions_90 rfl (lv_at hl 2 rfl) ?_
                refine j_if_ne E 94 99 rfl r_l2_9 dX3_readConditions_91 (by decide) (fun cc19_ => ?_) (fun cc19_ => ?_)
                · refine j_iconst E 100 rfl dX3_readConditions_99 ?_
                  refine j_goto E 104 dX3_readConditions_100 (by decide) ?_
                  exact L104_17 1  H locs ls (rr (by decide)) (trivial) hw (lv_sub hl [0, 1, 2, 3, 4] rfl)
                · refine j_iload E 96 rfl dX3_readConditions_94 (lv_at hl 4 rfl) ?_
                  refine j_if_ne E 99 103 rfl r_s0_51 dX3_readConditions_96 (by decide) (fun cc20_ => ?_) (fun cc20_ => ?_)
                  · refine j_iconst E 104 rfl dX3_readConditions_103 ?_
                    exact L104_17 0  H locs ls (rr (by decide)) (trivial) hw (lv_sub hl [0, 1, 2, 3, 4] rfl)
                  · refine j_iconst E 100 rfl dX3_readConditions_99 ?_
                    refine j_goto E 104 dX3_readConditions_100 (by decide) ?_
                    exact L104_17 1  H locs ls (rr (by decide)) (trivial) hw (lv_sub hl [0, 1, 2, 3, 4] rfl)
              refine j_iload E 80 rfl dX3_readConditions_78 (lv_at hl 4 rfl) ?_
              refine j_if_eq E 83 90 rfl r_s0_51 dX3_readConditions_80 (by decide) (fun cc21_ => ?_) (fun cc21_ => ?_)
              · exact L90_15  y86_14 H locs ls  (by first | omega | (simp only [upB_same]; omega)) hw (lv_sub hl [0, 1, 2, 3, 4] rfl)
              · refine j_aload_n E 84 rfl dX3_readConditions_83 rfl (lv_at hl 0 rfl) ?_
                refine j_sipush E 87 rfl dX3_readConditions_84 (by decide) ?_
                refine kV_v E (c_X3_emit l D cy T (upV (upV (upV (upV v_0 80 y80_14) 83 y83_14) 84 y84_14) 86 y86_14) o ((-305))  t_o (rr (by decide)) (show 0 ≤ (y86_14 o) ∧ (y86_14 o) ≤ 400 from by omega)) mt_X3_emit ml_X3_60 hK hw (cw_rc4 hK hw.1 t_o) hA ⟨Nat.le_of_ble_eq_true rfl, Nat.le_of_ble_eq_true rfl⟩ ⟨Nat.le_of_ble_eq_true rfl, Nat.le_of_ble_eq_true rfl⟩ (As := [.int (J ((-305)))]) (rest := []) rfl rfl hl.1 (Nat.le_of_ble_eq_true rfl) 90 rfl dX3_readConditions_87 (fun v_22 H locs hq22_ hw => ?_)
                obtain ⟨y86_22, ev22_, hh22_⟩ := hq22_
                rw [ev22_] at hw; clear ev22_
                have hw : WK D cy T (upV (upV (upV (upV v_0 80 y80_14) 83 y83_14) 84 y84_14) 86 y86_22) A0 s.heap H locs := cw_eq hw (by first | rfl | (funext j_; simp only [upV, reduceIte]; (repeat' split) <;> first | rfl | omega | (subst_vars; rfl)))
                have hh22_ : 0 ≤ (y86_22 o) ∧ (y86_22 o) ≤ 400 := hh22_
                exact L90_15  y86_22 H locs ls  (by first | omega | (simp only [upB_same]; omega)) hw (lv_sub hl [0, 1, 2, 3, 4] rfl)
            refine j_iload E 55 rfl dX3_readConditions_53 (lv_at hl 0 rfl) ?_
            refine j_if_ne E 58 69 rfl r_s0_51 dX3_readConditions_55 (by decide) (fun cc23_ => ?_) (fun cc23_ => ?_)
            · exact L69_11  y86_c9 H locs ls  (by first | omega | (simp only [upB_same]; omega)) hw (lv_sub hl [1, 2, 3, 4, 0] rfl)
            · refine j_iload_n E 59 rfl dX3_readConditions_58 rfl (lv_at hl 3 rfl) ?_
              refine j_if_eq E 62 69 rfl r_l2_9 dX3_readConditions_59 (by decide) (fun cc24_ => ?_) (fun cc24_ => ?_)
              · exact L69_11  y86_c9 H locs ls  (by first | omega | (simp only [upB_same]; omega)) hw (lv_sub hl [1, 2, 3, 4, 0] rfl)
              · refine j_aload_n E 63 rfl dX3_readConditions_62 rfl (lv_at hl 1 rfl) ?_
                refine j_sipush E 66 rfl dX3_readConditions_63 (by decide) ?_
                refine kV_v E (c_X3_emit l D cy T (upV (upV (upV (upV v_0 80 y80_c9) 83 y83_c9) 84 y84_c9) 86 y86_c9) o ((-304))  t_o (rr (by decide)) (show 0 ≤ (y86_c9 o) ∧ (y86_c9 o) ≤ 400 from by omega)) mt_X3_emit ml_X3_60 hK hw (cw_rc4 hK hw.1 t_o) hA ⟨Nat.le_of_ble_eq_true rfl, Nat.le_of_ble_eq_true rfl⟩ ⟨Nat.le_of_ble_eq_true rfl, Nat.le_of_ble_eq_true rfl⟩ (As := [.int (J ((-304)))]) (rest := []) rfl rfl hl.1 (Nat.le_of_ble_eq_true rfl) 69 rfl dX3_readConditions_66 (fun v_25 H locs hq25_ hw => ?_)
                obtain ⟨y86_25, ev25_, hh25_⟩ := hq25_
                rw [ev25_] at hw; clear ev25_
                have hw : WK D cy T (upV (upV (upV (upV v_0 80 y80_c9) 83 y83_c9) 84 y84_c9) 86 y86_25) A0 s.heap H locs := cw_eq hw (by first | rfl | (funext j_; simp only [upV, reduceIte]; (repeat' split) <;> first | rfl | omega | (subst_vars; rfl)))
                have hh25_ : 0 ≤ (y86_25 o) ∧ (y86_25 o) ≤ 400 := hh25_
                exact L69_11  y86_25 H locs ls  (by first | omega | (simp only [upB_same]; omega)) hw (lv_sub hl [1, 2, 3, 4, 0] rfl)
          refine j_aload_n E 37 rfl dX3_readConditions_36 rfl (lv_at hl 0 rfl) ?_
          refine g_84 E hK hw fl_X3_30 t_o (y84_c9 o) rfl 40 rfl dX3_readConditions_37 (fun _ => ?_)
          refine j_sipush E 43 rfl dX3_readConditions_40 (by decide) ?_
          refine j_icmp_ne E 46 50 rfl rr7_ (rr (by decide)) dX3_readConditions_43 (by decide) (fun cc26_ => ?_) (fun cc26_ => ?_)
          · exfalso; omega
          refine j_iconst E 47 rfl dX3_readConditions_46 ?_
          refine j_goto E 51 dX3_readConditions_47 (by decide) ?_
          exact L51_9 1  H locs ls (rr (by decide)) (trivial) hw (lv_sub hl [0, 1, 2, 3] rfl)
        · refine j_aload_n E 27 rfl dX3_readConditions_26 rfl (lv_at hl 0 rfl) ?_
          refine g_84 E hK hw fl_X3_30 t_o (y84_c9 o) rfl 30 rfl dX3_readConditions_27 (fun _ => ?_)
          refine j_sipush E 33 rfl dX3_readConditions_30 (by decide) ?_
          refine j_icmp_ne E 36 111 rfl rr7_ (rr (by decide)) dX3_readConditions_33 (by decide) (fun cc27_ => ?_) (fun cc27_ => ?_)
          · refine j_iload_n E 112 rfl dX3_readConditions_111 rfl (lv_at hl 2 rfl) ?_
            refine j_if_eq E 115 122 rfl r_l2_9 dX3_readConditions_112 (by decide) (fun cc28_ => ?_) (fun cc28_ => ?_)
            · exact hret 122 (upV (upV (upV (upV v_0 80 y80_c9) 83 y83_c9) 84 y84_c9) 86 y86_c9) _ _ ls hw ⟨y80_c9, y83_c9, y84_c9, y86_c9, rfl, by first | omega | (simp only [upB_same]; omega)⟩ dX3_readConditions_122
            · refine j_aload_n E 116 rfl dX3_readConditions_115 rfl (lv_at hl 0 rfl) ?_
              refine j_sipush E 119 rfl dX3_readConditions_116 (by decide) ?_
              refine kV_v E (c_X3_emit l D cy T (upV (upV (upV (upV v_0 80 y80_c9) 83 y83_c9) 84 y84_c9) 86 y86_c9) o ((-304))  t_o (rr (by decide)) (show 0 ≤ (y86_c9 o) ∧ (y86_c9 o) ≤ 400 from by omega)) mt_X3_emit ml_X3_60 hK hw (cw_rc4 hK hw.1 t_o) hA ⟨Nat.le_of_ble_eq_true rfl, Nat.le_of_ble_eq_true rfl⟩ ⟨Nat.le_of_ble_eq_true rfl, Nat.le_of_ble_eq_true rfl⟩ (As := [.int (J ((-304)))]) (rest := []) rfl rfl hl.1 (Nat.le_of_ble_eq_true rfl) 122 rfl dX3_readConditions_119 (fun v_29 H locs hq29_ hw => ?_)
              obtain ⟨y86_29, ev29_, hh29_⟩ := hq29_
              rw [ev29_] at hw; clear ev29_
              have hw : WK D cy T (upV (upV (upV (upV v_0 80 y80_c9) 83 y83_c9) 84 y84_c9) 86 y86_29) A0 s.heap H locs := cw_eq hw (by first | rfl | (funext j_; simp only [upV, reduceIte]; (repeat' split) <;> first | rfl | omega | (subst_vars; rfl)))
              have hh29_ : 0 ≤ (y86_29 o) ∧ (y86_29 o) ≤ 400 := hh29_
              exact hret 122 (upV (upV (upV (upV v_0 80 y80_c9) 83 y83_c9) 84 y84_c9) 86 y86_29) _ _ ls hw ⟨y80_c9, y83_c9, y84_c9, y86_29, rfl, by first | omega | (simp only [upB_same]; omega)⟩ dX3_readConditions_122
          · have L51_30 : ∀ (s0_51 : Int) (H : Heap) (locs : List Loc) (ls : Array Slot), inR s0_51 → (True) → WK D cy T (upV (upV (upV (upV v_0 80 y80_c9) 83 y83_c9) 84 y84_c9) 86 y86_c9) A0 s.heap H locs → lv_has ls 5 [(0, .ref o), (1, .int (J 6)), (2, .int (J l2_9)), (3, .int (J l3_9))] → W p l e (rmd 10 0 0) s m ar below meth c H locs 0 0 QW (F0 m 51 ls [.int (J s0_51)]) := by
              intro s0_51 H locs ls r_s0_51 iv51 hw hl
              refine j_istore E 53 rfl [(4, .int (J s0_51)), (0, .ref o), (1, .int (J 6)), (2, .int (J l2_9)), (3, .int (J l3_9))] dX3_readConditions_51 hl (by decide) rfl (fun ls hl => ?_)
              have L69_32 : ∀ (y86_c69 : Nat → Int) (H : Heap) (locs : List Loc) (ls : Array Slot), (0 ≤ (y86_c69 o) ∧ (y86_c69 o) ≤ 400) → WK D cy T (upV (upV (upV (upV v_0 80 y80_c9) 83 y83_c9) 84 y84_c9) 86 y86_c69) A0 s.heap H locs → lv_has ls 5 [(0, .ref o), (1, .int (J 6)), (2, .int (J l2_9)), (3, .int (J l3_9)), (4, .int (J s0_51))] → W p l e (rmd 10 0 0) s m ar below meth c H locs 0 0 QW (F0 m 69 ls []) := by
                intro y86_c69 H locs ls iv69 hw hl
                refine j_aload_n E 70 rfl dX3_readConditions_69 rfl (lv_at hl 0 rfl) ?_
                refine zV_v E (c_X3_step l D cy T (upV (upV (upV (upV v_0 80 y80_c9) 83 y83_c9) 84 y84_c9) 86 y86_c69) κ o  hO t_o  ) mt_X3_step ml_X3_54 hK hZ hAc hw (cw_rc4 hK hw.1 t_o) hA ⟨Nat.le_of_ble_eq_true rfl, Nat.le_of_ble_eq_true rfl⟩ ⟨Nat.le_of_ble_eq_true rfl, Nat.le_of_ble_eq_true rfl⟩ (As := []) (rest := []) rfl rfl hl.1 (Nat.le_of_ble_eq_true rfl) 73 rfl dX3_readConditions_70 (fun v_34 H locs hq34_ hw => ?_)
                obtain ⟨y83_34, y84_34, ev34_, hh34_⟩ := hq34_
                rw [ev34_] at hw; clear ev34_
                have hw : WK D cy T (upV (upV (upV (upV v_0 80 y80_c9) 83 y83_34) 84 y84_34) 86 y86_c69) A0 s.heap H locs := cw_eq hw (by first | rfl | (funext j_; simp only [upV, reduceIte]; (repeat' split) <;> first | rfl | omega | (subst_vars; rfl)))
                refine j_aload_n E 74 rfl dX3_readConditions_73 rfl (lv_at hl 0 rfl) ?_
                refine j_iload_n E 75 rfl dX3_readConditions_74 rfl (lv_at hl 1 rfl) ?_
                refine zV_v E (c_X3_readCondition_n6 l D cy T (upV (upV (upV (upV v_0 80 y80_c9) 83 y83_34) 84 y84_34) 86 y86_c69) κ o  hO t_o  (show 0 ≤ (y86_c69 o) ∧ (y86_c69 o) ≤ 400 from by omega)) mt_X3_readCondition ml_X3_85 hK hZ hAc hw (cw_rc4 hK hw.1 t_o) hA ⟨Nat.le_of_ble_eq_true rfl, Nat.le_of_ble_eq_true rfl⟩ ⟨Nat.le_of_ble_eq_true rfl, Nat.le_of_ble_eq_true rfl⟩ (As := [.int (J 6)]) (rest := []) rfl rfl hl.1 (Nat.le_of_ble_eq_true rfl) 78 rfl dX3_readConditions_75 (fun v_35 H locs hq35_ hw => ?_)
                obtain ⟨y80_35, y83_35, y84_35, y86_35, ev35_, hh35_⟩ := hq35_
                rw [ev35_] at hw; clear ev35_
                have hw : WK D cy T (upV (upV (upV (upV v_0 80 y80_35) 83 y83_35) 84 y84_35) 86 y86_35) A0 s.heap H locs := cw_eq hw (by first | rfl | (funext j_; simp only [upV, reduceIte]; (repeat' split) <;> first | rfl | omega | (subst_vars; rfl)))
                have hh35_ : 0 ≤ (y86_35 o) ∧ (y86_35 o) ≤ 400 := hh35_
                have L90_36 : ∀ (y86_c90 : Nat → Int) (H : Heap) (locs : List Loc) (ls : Array Slot), (0 ≤ (y86_c90 o) ∧ (y86_c90 o) ≤ 400) → WK D cy T (upV (upV (upV (upV v_0 80 y80_35) 83 y83_35) 84 y84_35) 86 y86_c90) A0 s.heap H locs → lv_has ls 5 [(0, .ref o), (1, .int (J 6)), (2, .int (J l2_9)), (3, .int (J l3_9)), (4, .int (J s0_51))] → W p l e (rmd 10 0 0) s m ar below meth c H locs 0 0 QW (F0 m 90 ls []) := by
                  intro y86_c90 H locs ls iv90 hw hl
                  have L104_38 : ∀ (s0_104 : Int) (H : Heap) (locs : List Loc) (ls : Array Slot), inR s0_104 → (True) → WK D cy T (upV (upV (upV (upV v_0 80 y80_35) 83 y83_35) 84 y84_35) 86 y86_c90) A0 s.heap H locs → lv_has ls 5 [(0, .ref o), (1, .int (J 6)), (2, .int (J l2_9)), (3, .int (J l3_9)), (4, .int (J s0_51))] → W p l e (rmd 10 0 0) s m ar below meth c H locs 0 0 QW (F0 m 104 ls [.int (J s0_104)]) := by
                    intro s0_104 H locs ls r_s0_104 iv104 hw hl
                    refine j_istore_n E 105 rfl [(2, .int (J s0_104)), (0, .ref o), (1, .int (J 6)), (3, .int (J l3_9)), (4, .int (J s0_51))] dX3_readConditions_104 rfl hl (by decide) rfl (fun ls hl => ?_)
                    refine j_iinc E 108 rfl [(3, .int (J (l3_9 + 1))), (2, .int (J s0_104)), (0, .ref o), (1, .int (J 6)), (4, .int (J s0_51))] dX3_readConditions_105 hl (kk := 3) rfl (by decide) rfl (fun ls hl => ?_)
                    refine j_goto E 9 dX3_readConditions_108 (by decide) ?_
                    exact ih9 s0_104 (l3_9 + 1) y80_35 y83_35 y84_35 y86_c90 H locs ls r_s0_104 (rr (by omega)) (by first | omega | (simp only [upB_same]; omega)) (by omega) hw (lv_sub hl [2, 3, 1, 0] rfl)
                  refine j_iload_n E 91 rfl dX3_readConditions_90 rfl (lv_at hl 2 rfl) ?_
                  refine j_if_ne E 94 99 rfl r_l2_9 dX3_readConditions_91 (by decide) (fun cc40_ => ?_) (fun cc40_ => ?_)
                  · refine j_iconst E 100 rfl dX3_readConditions_99 ?_
                    refine j_goto E 104 dX3_readConditions_100 (by decide) ?_
                    exact L104_38 1  H locs ls (rr (by decide)) (trivial) hw (lv_sub hl [0, 1, 2, 3, 4] rfl)
                  · refine j_iload E 96 rfl dX3_readConditions_94 (lv_at hl 4 rfl) ?_
                    refine j_if_ne E 99 103 rfl r_s0_51 dX3_readConditions_96 (by decide) (fun cc41_ => ?_) (fun cc41_ => ?_)
                    · refine j_iconst E 104 rfl dX3_readConditions_103 ?_
                      exact L104_38 0  H locs ls (rr (by decide)) (trivial) hw (lv_sub hl [0, 1, 2, 3, 4] rfl)
                    · refine j_iconst E 100 rfl dX3_readConditions_99 ?_
                      refine j_goto E 104 dX3_readConditions_100 (by decide) ?_
                      exact L104_38 1  H locs ls (rr (by decide)) (trivial) hw (lv_sub hl [0, 1, 2, 3, 4] rfl)
                refine j_iload E 80 rfl dX3_readConditions_78 (lv_at hl 4 rfl) ?_
                refine j_if_eq E 83 90 rfl r_s0_51 dX3_readConditions_80 (by decide) (fun cc42_ => ?_) (fun cc42_ => ?_)
                · exact L90_36  y86_35 H locs ls  (by first | omega | (simp only [upB_same]; omega)) hw (lv_sub hl [0, 1, 2, 3, 4] rfl)
                · refine j_aload_n E 84 rfl dX3_readConditions_83 rfl (lv_at hl 0 rfl) ?_
                  refine j_sipush E 87 rfl dX3_readConditions_84 (by decide) ?_
                  refine kV_v E (c_X3_emit l D cy T (upV (upV (upV (upV v_0 80 y80_35) 83 y83_35) 84 y84_35) 86 y86_35) o ((-305))  t_o (rr (by decide)) (show 0 ≤ (y86_35 o) ∧ (y86_35 o) ≤ 400 from by omega)) mt_X3_emit ml_X3_60 hK hw (cw_rc4 hK hw.1 t_o) hA ⟨Nat.le_of_ble_eq_true rfl, Nat.le_of_ble_eq_true rfl⟩ ⟨Nat.le_of_ble_eq_true rfl, Nat.le_of_ble_eq_true rfl⟩ (As := [.int (J ((-305)))]) (rest := []) rfl rfl hl.1 (Nat.le_of_ble_eq_true rfl) 90 rfl dX3_readConditions_87 (fun v_43 H locs hq43_ hw => ?_)
                  obtain ⟨y86_43, ev43_, hh43_⟩ := hq43_
                  rw [ev43_] at hw; clear ev43_
                  have hw : WK D cy T (upV (upV (upV (upV v_0 80 y80_35) 83 y83_35) 84 y84_35) 86 y86_43) A0 s.heap H locs := cw_eq hw (by first | rfl | (funext j_; simp only [upV, reduceIte]; (repeat' split) <;> first | rfl | omega | (subst_vars; rfl)))
                  have hh43_ : 0 ≤ (y86_43 o) ∧ (y86_43 o) ≤ 400 := hh43_
                  exact L90_36  y86_43 H locs ls  (by first | omega | (simp only [upB_same]; omega)) hw (lv_sub hl [0, 1, 2, 3, 4] rfl)
              refine j_iload E 55 rfl dX3_readConditions_53 (lv_at hl 0 rfl) ?_
              refine j_if_ne E 58 69 rfl r_s0_51 dX3_readConditions_55 (by decide) (fun cc44_ => ?_) (fun cc44_ => ?_)
              · exact L69_32  y86_c9 H locs ls  (by first | omega | (simp only [upB_same]; omega)) hw (lv_sub hl [1, 2, 3, 4, 0] rfl)
              · refine j_iload_n E 59 rfl dX3_readConditions_58 rfl (lv_at hl 3 rfl) ?_
                refine j_if_eq E 62 69 rfl r_l2_9 dX3_readConditions_59 (by decide) (fun cc45_ => ?_) (fun cc45_ => ?_)
                · exact L69_32  y86_c9 H locs ls  (by first | omega | (simp only [upB_same]; omega)) hw (lv_sub hl [1, 2, 3, 4, 0] rfl)
                · refine j_aload_n E 63 rfl dX3_readConditions_62 rfl (lv_at hl 1 rfl) ?_
                  refine j_sipush E 66 rfl dX3_readConditions_63 (by decide) ?_
                  refine kV_v E (c_X3_emit l D cy T (upV (upV (upV (upV v_0 80 y80_c9) 83 y83_c9) 84 y84_c9) 86 y86_c9) o ((-304))  t_o (rr (by decide)) (show 0 ≤ (y86_c9 o) ∧ (y86_c9 o) ≤ 400 from by omega)) mt_X3_emit ml_X3_60 hK hw (cw_rc4 hK hw.1 t_o) hA ⟨Nat.le_of_ble_eq_true rfl, Nat.le_of_ble_eq_true rfl⟩ ⟨Nat.le_of_ble_eq_true rfl, Nat.le_of_ble_eq_true rfl⟩ (As := [.int (J ((-304)))]) (rest := []) rfl rfl hl.1 (Nat.le_of_ble_eq_true rfl) 69 rfl dX3_readConditions_66 (fun v_46 H locs hq46_ hw => ?_)
                  obtain ⟨y86_46, ev46_, hh46_⟩ := hq46_
                  rw [ev46_] at hw; clear ev46_
                  have hw : WK D cy T (upV (upV (upV (upV v_0 80 y80_c9) 83 y83_c9) 84 y84_c9) 86 y86_46) A0 s.heap H locs := cw_eq hw (by first | rfl | (funext j_; simp only [upV, reduceIte]; (repeat' split) <;> first | rfl | omega | (subst_vars; rfl)))
                  have hh46_ : 0 ≤ (y86_46 o) ∧ (y86_46 o) ≤ 400 := hh46_
                  exact L69_32  y86_46 H locs ls  (by first | omega | (simp only [upB_same]; omega)) hw (lv_sub hl [1, 2, 3, 4, 0] rfl)
            refine j_aload_n E 37 rfl dX3_readConditions_36 rfl (lv_at hl 0 rfl) ?_
            refine g_84 E hK hw fl_X3_30 t_o (y84_c9 o) rfl 40 rfl dX3_readConditions_37 (fun _ => ?_)
            refine j_sipush E 43 rfl dX3_readConditions_40 (by decide) ?_
            refine j_icmp_ne E 46 50 rfl rr7_ (rr (by decide)) dX3_readConditions_43 (by decide) (fun cc47_ => ?_) (fun cc47_ => ?_)
            rotate_left; · exfalso; omega
            refine j_iconst E 51 rfl dX3_readConditions_50 ?_
            exact L51_30 0  H locs ls (rr (by decide)) (trivial) hw (lv_sub hl [0, 1, 2, 3] rfl)
  exact L9_2 _ 0 0 y80_1 y83_1 y84_1 y86_1 H locs ls (rr (by decide)) (rr (by decide)) (by first | omega | (simp only [upB_same]; omega)) (Nat.lt_succ_self _) hw (lv_sub hl [2, 3, 1, 0] rfl)
set_option maxHeartbeats 4000000 in
set_option maxRecDepth 100000 in
theorem c_X3_readCondition_n5 (l : Launch) (D : va_G) (cy : Nat → ClassId) (T : Nat → Nat → Nat) (v_0 : Nat → Nat → Int) (κ : Nat → Nat → Nat) (o : Nat) (hO : ∀ x, ow T x → κ 2 2 ≤ x) (t_o : T 0 o = 4) (hp0 : 0 ≤ (v_0 86 o) ∧ (v_0 86 o) ≤ 400) : KZ l D cy κ T yX3_readCondition cX3_readCondition 4 none 11 [.ref o, .int (J 5)] v_0 (KV (fun (v_2 : Nat → Nat → Int) => ∃ (y80_2 : Nat → Int) (y83_2 : Nat → Int) (y84_2 : Nat → Int) (y86_2 : Nat → Int) , v_2 = upV (upV (upV (upV v_0 80 y80_2) 83 y83_2) 84 y84_2) 86 y86_2 ∧ (0 ≤ (y86_2 o) ∧ (y86_2 o) ≤ 400))) := by
  refine KZ.ofv (by decide) (Nat.le_of_ble_eq_true rfl) hO ?_
  intro p e s m below meth c ls ar QW A0 H locs E hK hZ hA hAc hw hl hret
  have hl : lv_has ls 4 [(0, .ref o), (1, .int (J 5))] := hl
  have hT : WT T := hw.1.2.1
  refine j_aload_n E 1 rfl dX3_readCondition_0 rfl (lv_at hl 0 rfl) ?_
  refine g_84 E hK hw fl_X3_30 t_o (v_0 84 o) rfl 4 rfl dX3_readCondition_1 (fun rr1_ => ?_)
  refine j_bipush E 6 rfl dX3_readCondition_4 (by decide) ?_
  refine j_icmp_eq E 9 19 rfl rr1_ (rr (by decide)) dX3_readCondition_6 (by decide) (fun cc2_ => ?_) (fun cc2_ => ?_)
  · refine j_iconst E 20 rfl dX3_readCondition_19 ?_
    refine j_goto E 24 dX3_readCondition_20 (by decide) ?_
    refine j_istore_n E 25 rfl [(2, .int (J 1)), (0, .ref o), (1, .int (J 5))] dX3_readCondition_24 rfl hl (by decide) rfl (fun ls hl => ?_)
    refine j_iload_n E 26 rfl dX3_readCondition_25 rfl (lv_at hl 0 rfl) ?_
    refine j_if_eq E 29 43 rfl (rr (by decide)) dX3_readCondition_26 (by decide) (fun cc3_ => absurd cc3_ (by decide)) (fun _ => ?_)
    refine j_iload_n E 30 rfl dX3_readCondition_29 rfl (lv_at hl 2 rfl) ?_
    refine j_bipush E 32 rfl dX3_readCondition_30 (by decide) ?_
    refine j_icmp_lt E 35 43 rfl (rr (by decide)) (rr (by decide)) dX3_readCondition_32 (by decide) (fun _ => ?_) (fun cc4_ => absurd cc4_ (by decide))
    refine j_aload_n E 44 rfl dX3_readCondition_43 rfl (lv_at hl 1 rfl) ?_
    refine g_84 E hK hw fl_X3_30 t_o (v_0 84 o) rfl 47 rfl dX3_readCondition_44 (fun _ => ?_)
    refine j_bipush E 49 rfl dX3_readCondition_47 (by decide) ?_
    refine j_icmp_ne E 52 72 rfl rr1_ (rr (by decide)) dX3_readCondition_49 (by decide) (fun cc5_ => ?_) (fun cc5_ => ?_)
    · exfalso; omega
    refine j_aload_n E 53 rfl dX3_readCondition_52 rfl (lv_at hl 1 rfl) ?_
    refine zV_v E (c_X3_step l D cy T (v_0) κ o  hO t_o  ) mt_X3_step ml_X3_54 hK hZ hAc hw (cw_rc4 hK hw.1 t_o) hA ⟨Nat.le_of_ble_eq_true rfl, Nat.le_of_ble_eq_true rfl⟩ ⟨Nat.le_of_ble_eq_true rfl, Nat.le_of_ble_eq_true rfl⟩ (As := []) (rest := []) rfl rfl hl.1 (Nat.le_of_ble_eq_true rfl) 56 rfl dX3_readCondition_53 (fun v_6 H locs hq6_ hw => ?_)
    obtain ⟨y83_6, y84_6, ev6_, hh6_⟩ := hq6_
    rw [ev6_] at hw; clear ev6_
    have hw : WK D cy T (upV (upV v_0 83 y83_6) 84 y84_6) A0 s.heap H locs := cw_eq hw (by first | rfl | (funext j_; simp only [upV, reduceIte]; (repeat' split) <;> first | rfl | omega | (subst_vars; rfl)))
    refine j_aload_n E 57 rfl dX3_readCondition_56 rfl (lv_at hl 1 rfl) ?_
    refine j_iload_n E 58 rfl dX3_readCondition_57 rfl (lv_at hl 2 rfl) ?_
    refine j_iconst E 59 rfl dX3_readCondition_58 ?_
    refine j_iadd E 60 rfl dX3_readCondition_59 ?_
    refine j_lit (z := 6) (by decide) ?_
    refine zV_v E (c_X3_readConditions_n6 l D cy T (upV (upV v_0 83 y83_6) 84 y84_6) κ o  hO t_o  (show 0 ≤ ((v_0 86) o) ∧ ((v_0 86) o) ≤ 400 from by omega)) mt_X3_readConditions ml_X3_57 hK hZ hAc hw (cw_rc4 hK hw.1 t_o) hA ⟨Nat.le_of_ble_eq_true rfl, Nat.le_of_ble_eq_true rfl⟩ ⟨Nat.le_of_ble_eq_true rfl, Nat.le_of_ble_eq_true rfl⟩ (As := [.int (J 6)]) (rest := []) rfl rfl hl.1 (Nat.le_of_ble_eq_true rfl) 63 rfl dX3_readCondition_60 (fun v_7 H locs hq7_ hw => ?_)
    obtain ⟨y80_7, y83_7, y84_7, y86_7, ev7_, hh7_⟩ := hq7_
    rw [ev7_] at hw; clear ev7_
    have hw : WK D cy T (upV (upV (upV (upV v_0 80 y80_7) 83 y83_7) 84 y84_7) 86 y86_7) A0 s.heap H locs := cw_eq hw (by first | rfl | (funext j_; simp only [upV, reduceIte]; (repeat' split) <;> first | rfl | omega | (subst_vars; rfl)))
    have hh7_ : 0 ≤ (y86_7 o) ∧ (y86_7 o) ≤ 400 := hh7_
    refine j_aload_n E 64 rfl dX3_readCondition_63 rfl (lv_at hl 1 rfl) ?_
    refine j_bipush E 66 rfl dX3_readCondition_64 (by decide) ?_
    refine zV_v E (c_X3_take l D cy T (upV (upV (upV (upV v_0 80 y80_7) 83 y83_7) 84 y84_7) 86 y86_7) κ o 41  hO t_o (rr (by decide)) ) mt_X3_take ml_X3_47 hK hZ hAc hw (cw_rc4 hK hw.1 t_o) hA ⟨Nat.le_of_ble_eq_true rfl, Nat.le_of_ble_eq_true rfl⟩ ⟨Nat.le_of_ble_eq_true rfl, Nat.le_of_ble_eq_true rfl⟩ (As := [.int (J 41)]) (rest := []) rfl rfl hl.1 (Nat.le_of_ble_eq_true rfl) 69 rfl dX3_readCondition_66 (fun v_8 H locs hq8_ hw => ?_)
    obtain ⟨y80_8, y83_8, y84_8, ev8_, hh8_⟩ := hq8_
    rw [ev8_] at hw; clear ev8_
    have hw : WK D cy T (upV (upV (upV (upV v_0 80 y80_8) 83 y83_8) 84 y84_8) 86 y86_7) A0 s.heap H locs := cw_eq hw (by first | rfl | (funext j_; simp only [upV, reduceIte]; (repeat' split) <;> first | rfl | omega | (subst_vars; rfl)))
    refine j_goto E 126 dX3_readCondition_69 (by decide) ?_
    exact hret 126 (upV (upV (upV (upV v_0 80 y80_8) 83 y83_8) 84 y84_8) 86 y86_7) _ _ ls hw ⟨y80_8, y83_8, y84_8, y86_7, rfl, by first | omega | (simp only [upB_same]; omega)⟩ dX3_readCondition_126
  · refine j_aload_n E 10 rfl dX3_readCondition_9 rfl (lv_at hl 0 rfl) ?_
    refine g_84 E hK hw fl_X3_30 t_o (v_0 84 o) rfl 13 rfl dX3_readCondition_10 (fun _ => ?_)
    refine j_sipush E 16 rfl dX3_readCondition_13 (by decide) ?_
    refine j_icmp_ne E 19 23 rfl rr1_ (rr (by decide)) dX3_readCondition_16 (by decide) (fun cc9_ => ?_) (fun cc9_ => ?_)
    · refine j_iconst E 24 rfl dX3_readCondition_23 ?_
      refine j_istore_n E 25 rfl [(2, .int (J 0)), (0, .ref o), (1, .int (J 5))] dX3_readCondition_24 rfl hl (by decide) rfl (fun ls hl => ?_)
      refine j_iload_n E 26 rfl dX3_readCondition_25 rfl (lv_at hl 0 rfl) ?_
      refine j_if_eq E 29 43 rfl (rr (by decide)) dX3_readCondition_26 (by decide) (fun _ => ?_) (fun cc10_ => absurd cc10_ (by decide))
      refine j_aload_n E 44 rfl dX3_readCondition_43 rfl (lv_at hl 1 rfl) ?_
      refine g_84 E hK hw fl_X3_30 t_o (v_0 84 o) rfl 47 rfl dX3_readCondition_44 (fun _ => ?_)
      refine j_bipush E 49 rfl dX3_readCondition_47 (by decide) ?_
      refine j_icmp_ne E 52 72 rfl rr1_ (rr (by decide)) dX3_readCondition_49 (by decide) (fun cc11_ => ?_) (fun cc11_ => ?_)
      rotate_left; · exfalso; omega
      refine j_aload_n E 73 rfl dX3_readCondition_72 rfl (lv_at hl 1 rfl) ?_
      refine g_84 E hK hw fl_X3_30 t_o (v_0 84 o) rfl 76 rfl dX3_readCondition_73 (fun _ => ?_)
      refine j_sipush E 79 rfl dX3_readCondition_76 (by decide) ?_
      refine j_icmp_ne E 82 103 rfl rr1_ (rr (by decide)) dX3_readCondition_79 (by decide) (fun cc12_ => ?_) (fun cc12_ => ?_)
      rotate_left; · exfalso; omega
      refine j_aload_n E 104 rfl dX3_readCondition_103 rfl (lv_at hl 1 rfl) ?_
      refine zV_v E (c_X3_readSum l D cy T (v_0) κ o  hO t_o  (show 0 ≤ ((v_0 86) o) ∧ ((v_0 86) o) ≤ 400 from by omega)) mt_X3_readSum ml_X3_51 hK hZ hAc hw (cw_rc4 hK hw.1 t_o) hA ⟨Nat.le_of_ble_eq_true rfl, Nat.le_of_ble_eq_true rfl⟩ ⟨Nat.le_of_ble_eq_true rfl, Nat.le_of_ble_eq_true rfl⟩ (As := []) (rest := []) rfl rfl hl.1 (Nat.le_of_ble_eq_true rfl) 107 rfl dX3_readCondition_104 (fun v_13 H locs hq13_ hw => ?_)
      obtain ⟨y80_13, y83_13, y84_13, y86_13, ev13_, hh13_⟩ := hq13_
      rw [ev13_] at hw; clear ev13_
      have hw : WK D cy T (upV (upV (upV (upV v_0 80 y80_13) 83 y83_13) 84 y84_13) 86 y86_13) A0 s.heap H locs := cw_eq hw (by first | rfl | (funext j_; simp only [upV, reduceIte]; (repeat' split) <;> first | rfl | omega | (subst_vars; rfl)))
      have hh13_ : 0 ≤ (y86_13 o) ∧ (y86_13 o) ≤ 400 := hh13_
      refine j_aload_n E 108 rfl dX3_readCondition_107 rfl (lv_at hl 1 rfl) ?_
      refine g_84 E hK hw fl_X3_30 t_o (y84_13 o) rfl 111 rfl dX3_readCondition_108 (fun rr14_ => ?_)
      refine j_istore_n E 112 rfl [(3, .int (J (y84_13 o))), (2, .int (J 0)), (0, .ref o), (1, .int (J 5))] dX3_readCondition_111 rfl hl (by decide) rfl (fun ls hl => ?_)
      refine j_aload_n E 113 rfl dX3_readCondition_112 rfl (lv_at hl 2 rfl) ?_
      refine zV_v E (c_X3_takeComparison l D cy T (upV (upV (upV (upV v_0 80 y80_13) 83 y83_13) 84 y84_13) 86 y86_13) κ o  hO t_o  ) mt_X3_takeComparison ml_X3_88 hK hZ hAc hw (cw_rc4 hK hw.1 t_o) hA ⟨Nat.le_of_ble_eq_true rfl, Nat.le_of_ble_eq_true rfl⟩ ⟨Nat.le_of_ble_eq_true rfl, Nat.le_of_ble_eq_true rfl⟩ (As := []) (rest := []) rfl rfl hl.1 (Nat.le_of_ble_eq_true rfl) 116 rfl dX3_readCondition_113 (fun v_15 H locs hq15_ hw => ?_)
      obtain ⟨y80_15, y83_15, y84_15, ev15_, hh15_⟩ := hq15_
      rw [ev15_] at hw; clear ev15_
      have hw : WK D cy T (upV (upV (upV (upV v_0 80 y80_15) 83 y83_15) 84 y84_15) 86 y86_13) A0 s.heap H locs := cw_eq hw (by first | rfl | (funext j_; simp only [upV, reduceIte]; (repeat' split) <;> first | rfl | omega | (subst_vars; rfl)))
      refine j_aload_n E 117 rfl dX3_readCondition_116 rfl (lv_at hl 2 rfl) ?_
      refine zV_v E (c_X3_readSum l D cy T (upV (upV (upV (upV v_0 80 y80_15) 83 y83_15) 84 y84_15) 86 y86_13) κ o  hO t_o  (show 0 ≤ (y86_13 o) ∧ (y86_13 o) ≤ 400 from by omega)) mt_X3_readSum ml_X3_51 hK hZ hAc hw (cw_rc4 hK hw.1 t_o) hA ⟨Nat.le_of_ble_eq_true rfl, Nat.le_of_ble_eq_true rfl⟩ ⟨Nat.le_of_ble_eq_true rfl, Nat.le_of_ble_eq_true rfl⟩ (As := []) (rest := []) rfl rfl hl.1 (Nat.le_of_ble_eq_true rfl) 120 rfl dX3_readCondition_117 (fun v_16 H locs hq16_ hw => ?_)
      obtain ⟨y80_16, y83_16, y84_16, y86_16, ev16_, hh16_⟩ := hq16_
      rw [ev16_] at hw; clear ev16_
      have hw : WK D cy T (upV (upV (upV (upV v_0 80 y80_16) 83 y83_16) 84 y84_16) 86 y86_16) A0 s.heap H locs := cw_eq hw (by first | rfl | (funext j_; simp only [upV, reduceIte]; (repeat' split) <;> first | rfl | omega | (subst_vars; rfl)))
      have hh16_ : 0 ≤ (y86_16 o) ∧ (y86_16 o) ≤ 400 := hh16_
      refine j_aload_n E 121 rfl dX3_readCondition_120 rfl (lv_at hl 2 rfl) ?_
      refine j_iload_n E 122 rfl dX3_readCondition_121 rfl (lv_at hl 0 rfl) ?_
      refine j_ineg E 123 rfl dX3_readCondition_122 ?_
      refine j_norm (fun zz17_ rr17_ ee17_ => ?_)
      refine kV_v E (c_X3_emit l D cy T (upV (upV (upV (upV v_0 80 y80_16) 83 y83_16) 84 y84_16) 86 y86_16) o zz17_  t_o rr17_ (show 0 ≤ (y86_16 o) ∧ (y86_16 o) ≤ 400 from by omega)) mt_X3_emit ml_X3_60 hK hw (cw_rc4 hK hw.1 t_o) hA ⟨Nat.le_of_ble_eq_true rfl, Nat.le_of_ble_eq_true rfl⟩ ⟨Nat.le_of_ble_eq_true rfl, Nat.le_of_ble_eq_true rfl⟩ (As := [.int (J zz17_)]) (rest := []) rfl rfl hl.1 (Nat.le_of_ble_eq_true rfl) 126 rfl dX3_readCondition_123 (fun v_18 H locs hq18_ hw => ?_)
      obtain ⟨y86_18, ev18_, hh18_⟩ := hq18_
      rw [ev18_] at hw; clear ev18_
      have hw : WK D cy T (upV (upV (upV (upV v_0 80 y80_16) 83 y83_16) 84 y84_16) 86 y86_18) A0 s.heap H locs := cw_eq hw (by first | rfl | (funext j_; simp only [upV, reduceIte]; (repeat' split) <;> first | rfl | omega | (subst_vars; rfl)))
      have hh18_ : 0 ≤ (y86_18 o) ∧ (y86_18 o) ≤ 400 := hh18_
      exact hret 126 (upV (upV (upV (upV v_0 80 y80_16) 83 y83_16) 84 y84_16) 86 y86_18) _ _ ls hw ⟨y80_16, y83_16, y84_16, y86_18, rfl, by first | omega | (simp only [upB_same]; omega)⟩ dX3_readCondition_126
    · refine j_iconst E 20 rfl dX3_readCondition_19 ?_
      refine j_goto E 24 dX3_readCondition_20 (by decide) ?_
      refine j_istore_n E 25 rfl [(2, .int (J 1)), (0, .ref o), (1, .int (J 5))] dX3_readCondition_24 rfl hl (by decide) rfl (fun ls hl => ?_)
      refine j_iload_n E 26 rfl dX3_readCondition_25 rfl (lv_at hl 0 rfl) ?_
      refine j_if_eq E 29 43 rfl (rr (by decide)) dX3_readCondition_26 (by decide) (fun cc19_ => absurd cc19_ (by decide)) (fun _ => ?_)
      refine j_iload_n E 30 rfl dX3_readCondition_29 rfl (lv_at hl 2 rfl) ?_
      refine j_bipush E 32 rfl dX3_readCondition_30 (by decide) ?_
      refine j_icmp_lt E 35 43 rfl (rr (by decide)) (rr (by decide)) dX3_readCondition_32 (by decide) (fun _ => ?_) (fun cc20_ => absurd cc20_ (by decide))
      refine j_aload_n E 44 rfl dX3_readCondition_43 rfl (lv_at hl 1 rfl) ?_
      refine g_84 E hK hw fl_X3_30 t_o (v_0 84 o) rfl 47 rfl dX3_readCondition_44 (fun _ => ?_)
      refine j_bipush E 49 rfl dX3_readCondition_47 (by decide) ?_
      refine j_icmp_ne E 52 72 rfl rr1_ (rr (by decide)) dX3_readCondition_49 (by decide) (fun cc21_ => ?_) (fun cc21_ => ?_)
      rotate_left; · exfalso; omega
      refine j_aload_n E 73 rfl dX3_readCondition_72 rfl (lv_at hl 1 rfl) ?_
      refine g_84 E hK hw fl_X3_30 t_o (v_0 84 o) rfl 76 rfl dX3_readCondition_73 (fun _ => ?_)
      refine j_sipush E 79 rfl dX3_readCondition_76 (by decide) ?_
      refine j_icmp_ne E 82 103 rfl rr1_ (rr (by decide)) dX3_readCondition_79 (by decide) (fun cc22_ => ?_) (fun cc22_ => ?_)
      · exfalso; omega
      refine j_aload_n E 83 rfl dX3_readCondition_82 rfl (lv_at hl 1 rfl) ?_
      refine zV_v E (c_X3_step l D cy T (v_0) κ o  hO t_o  ) mt_X3_step ml_X3_54 hK hZ hAc hw (cw_rc4 hK hw.1 t_o) hA ⟨Nat.le_of_ble_eq_true rfl, Nat.le_of_ble_eq_true rfl⟩ ⟨Nat.le_of_ble_eq_true rfl, Nat.le_of_ble_eq_true rfl⟩ (As := []) (rest := []) rfl rfl hl.1 (Nat.le_of_ble_eq_true rfl) 86 rfl dX3_readCondition_83 (fun v_23 H locs hq23_ hw => ?_)
      obtain ⟨y83_23, y84_23, ev23_, hh23_⟩ := hq23_
      rw [ev23_] at hw; clear ev23_
      have hw : WK D cy T (upV (upV v_0 83 y83_23) 84 y84_23) A0 s.heap H locs := cw_eq hw (by first | rfl | (funext j_; simp only [upV, reduceIte]; (repeat' split) <;> first | rfl | omega | (subst_vars; rfl)))
      refine j_aload_n E 87 rfl dX3_readCondition_86 rfl (lv_at hl 1 rfl) ?_
      refine j_iload_n E 88 rfl dX3_readCondition_87 rfl (lv_at hl 2 rfl) ?_
      refine j_iconst E 89 rfl dX3_readCondition_88 ?_
      refine j_iadd E 90 rfl dX3_readCondition_89 ?_
      refine j_lit (z := 6) (by decide) ?_
      refine zV_v E (c_X3_readCondition_n6 l D cy T (upV (upV v_0 83 y83_23) 84 y84_23) κ o  hO t_o  (show 0 ≤ ((v_0 86) o) ∧ ((v_0 86) o) ≤ 400 from by omega)) mt_X3_readCondition ml_X3_85 hK hZ hAc hw (cw_rc4 hK hw.1 t_o) hA ⟨Nat.le_of_ble_eq_true rfl, Nat.le_of_ble_eq_true rfl⟩ ⟨Nat.le_of_ble_eq_true rfl, Nat.le_of_ble_eq_true rfl⟩ (As := [.int (J 6)]) (rest := []) rfl rfl hl.1 (Nat.le_of_ble_eq_true rfl) 93 rfl dX3_readCondition_90 (fun v_24 H locs hq24_ hw => ?_)
      obtain ⟨y80_24, y83_24, y84_24, y86_24, ev24_, hh24_⟩ := hq24_
      rw [ev24_] at hw; clear ev24_
      have hw : WK D cy T (upV (upV (upV (upV v_0 80 y80_24) 83 y83_24) 84 y84_24) 86 y86_24) A0 s.heap H locs := cw_eq hw (by first | rfl | (funext j_; simp only [upV, reduceIte]; (repeat' split) <;> first | rfl | omega | (subst_vars; rfl)))
      have hh24_ : 0 ≤ (y86_24 o) ∧ (y86_24 o) ≤ 400 := hh24_
      refine j_aload_n E 94 rfl dX3_readCondition_93 rfl (lv_at hl 1 rfl) ?_
      refine j_sipush E 97 rfl dX3_readCondition_94 (by decide) ?_
      refine kV_v E (c_X3_emit l D cy T (upV (upV (upV (upV v_0 80 y80_24) 83 y83_24) 84 y84_24) 86 y86_24) o ((-306))  t_o (rr (by decide)) (show 0 ≤ (y86_24 o) ∧ (y86_24 o) ≤ 400 from by omega)) mt_X3_emit ml_X3_60 hK hw (cw_rc4 hK hw.1 t_o) hA ⟨Nat.le_of_ble_eq_true rfl, Nat.le_of_ble_eq_true rfl⟩ ⟨Nat.le_of_ble_eq_true rfl, Nat.le_of_ble_eq_true rfl⟩ (As := [.int (J ((-306)))]) (rest := []) rfl rfl hl.1 (Nat.le_of_ble_eq_true rfl) 100 rfl dX3_readCondition_97 (fun v_25 H locs hq25_ hw => ?_)
      obtain ⟨y86_25, ev25_, hh25_⟩ := hq25_
      rw [ev25_] at hw; clear ev25_
      have hw : WK D cy T (upV (upV (upV (upV v_0 80 y80_24) 83 y83_24) 84 y84_24) 86 y86_25) A0 s.heap H locs := cw_eq hw (by first | rfl | (funext j_; simp only [upV, reduceIte]; (repeat' split) <;> first | rfl | omega | (subst_vars; rfl)))
      have hh25_ : 0 ≤ (y86_25 o) ∧ (y86_25 o) ≤ 400 := hh25_
      refine j_goto E 126 dX3_readCondition_100 (by decide) ?_
      exact hret 126 (upV (upV (upV (upV v_0 80 y80_24) 83 y83_24) 84 y84_24) 86 y86_25) _ _ ls hw ⟨y80_24, y83_24, y84_24, y86_25, rfl, by first | omega | (simp only [upB_same]; omega)⟩ dX3_readCondition_126
set_option maxHeartbeats 4000000 in
set_option maxRecDepth 100000 in
theorem c_X3_readConditions_n5 (l : Launch) (D : va_G) (cy : Nat → ClassId) (T : Nat → Nat → Nat) (v_0 : Nat → Nat → Int) (κ : Nat → Nat → Nat) (o : Nat) (hO : ∀ x, ow T x → κ 2 2 ≤ x) (t_o : T 0 o = 4) (hp0 : 0 ≤ (v_0 86 o) ∧ (v_0 86 o) ≤ 400) : KZ l D cy κ T yX3_readConditions cX3_readConditions 5 none 12 [.ref o, .int (J 5)] v_0 (KV (fun (v_2 : Nat → Nat → Int) => ∃ (y80_2 : Nat → Int) (y83_2 : Nat → Int) (y84_2 : Nat → Int) (y86_2 : Nat → Int) , v_2 = upV (upV (upV (upV v_0 80 y80_2) 83 y83_2) 84 y84_2) 86 y86_2 ∧ (0 ≤ (y86_2 o) ∧ (y86_2 o) ≤ 400))) := by
  refine KZ.ofv (by decide) (Nat.le_of_ble_eq_true rfl) hO ?_
  intro p e s m below meth c ls ar QW A0 H locs E hK hZ hA hAc hw hl hret
  have hl : lv_has ls 5 [(0, .ref o), (1, .int (J 5))] := hl
  have hT : WT T := hw.1.2.1
  refine j_aload_n E 1 rfl dX3_readConditions_0 rfl (lv_at hl 0 rfl) ?_
  refine j_iload_n E 2 rfl dX3_readConditions_1 rfl (lv_at hl 1 rfl) ?_
  refine zV_v E (c_X3_readCondition_n5 l D cy T (v_0) κ o  hO t_o  (show 0 ≤ ((v_0 86) o) ∧ ((v_0 86) o) ≤ 400 from by omega)) mt_X3_readCondition ml_X3_85 hK hZ hAc hw (cw_rc4 hK hw.1 t_o) hA ⟨Nat.le_of_ble_eq_true rfl, Nat.le_of_ble_eq_true rfl⟩ ⟨Nat.le_of_ble_eq_true rfl, Nat.le_of_ble_eq_true rfl⟩ (As := [.int (J 5)]) (rest := []) rfl rfl hl.1 (Nat.le_of_ble_eq_true rfl) 5 rfl dX3_readConditions_2 (fun v_1 H locs hq1_ hw => ?_)
  obtain ⟨y80_1, y83_1, y84_1, y86_1, ev1_, hh1_⟩ := hq1_
  rw [ev1_] at hw; clear ev1_
  have hw : WK D cy T (upV (upV (upV (upV v_0 80 y80_1) 83 y83_1) 84 y84_1) 86 y86_1) A0 s.heap H locs := cw_eq hw (by first | rfl | (funext j_; simp only [upV, reduceIte]; (repeat' split) <;> first | rfl | omega | (subst_vars; rfl)))
  have hh1_ : 0 ≤ (y86_1 o) ∧ (y86_1 o) ≤ 400 := hh1_
  refine j_iconst E 6 rfl dX3_readConditions_5 ?_
  refine j_istore_n E 7 rfl [(2, .int (J 0)), (0, .ref o), (1, .int (J 5))] dX3_readConditions_6 rfl hl (by decide) rfl (fun ls hl => ?_)
  refine j_iconst E 8 rfl dX3_readConditions_7 ?_
  refine j_istore_n E 9 rfl [(3, .int (J 0)), (2, .int (J 0)), (0, .ref o), (1, .int (J 5))] dX3_readConditions_8 rfl hl (by decide) rfl (fun ls hl => ?_)
  have L9_2 : ∀ (k9 : Nat) (l2_9 l3_9 : Int) (y80_c9 : Nat → Int) (y83_c9 : Nat → Int) (y84_c9 : Nat → Int) (y86_c9 : Nat → Int) (H : Heap) (locs : List Loc) (ls : Array Slot), inR l2_9 → inR l3_9 → (0 ≤ (y86_c9 o) ∧ (y86_c9 o) ≤ 400) → (400 - l3_9).toNat < k9 → WK D cy T (upV (upV (upV (upV v_0 80 y80_c9) 83 y83_c9) 84 y84_c9) 86 y86_c9) A0 s.heap H locs → lv_has ls 5 [(0, .ref o), (1, .int (J 5)), (2, .int (J l2_9)), (3, .int (J l3_9))] → W p l e (rmd 12 0 0) s m ar below meth c H locs 0 0 QW (F0 m 9 ls []) := by
    intro k9
    induction k9 with
    | zero =>
      intro l2_9 l3_9 y80_c9 y83_c9 y84_c9 y86_c9 H locs ls r_l2_9 r_l3_9 iv9 ms9 hw hl
      exact absurd ms9 (Nat.not_lt_zero _)
    | succ k9 ih9 =>
      intro l2_9 l3_9 y80_c9 y83_c9 y84_c9 y86_c9 H locs ls r_l2_9 r_l3_9 iv9 ms9 hw hl
      refine j_iload_n E 10 rfl dX3_readConditions_9 rfl (lv_at hl 3 rfl) ?_
      refine j_sipush E 13 rfl dX3_readConditions_10 (by decide) ?_
      refine j_icmp_ge E 16 111 rfl r_l3_9 (rr (by decide)) dX3_readConditions_13 (by decide) (fun cc4_ => ?_) (fun cc4_ => ?_)
      · refine j_iload_n E 112 rfl dX3_readConditions_111 rfl (lv_at hl 2 rfl) ?_
        refine j_if_eq E 115 122 rfl r_l2_9 dX3_readConditions_112 (by decide) (fun cc5_ => ?_) (fun cc5_ => ?_)
        · exact hret 122 (upV (upV (upV (upV v_0 80 y80_c9) 83 y83_c9) 84 y84_c9) 86 y86_c9) _ _ ls hw ⟨y80_c9, y83_c9, y84_c9, y86_c9, rfl, by first | omega | (simp only [upB_same]; omega)⟩ dX3_readConditions_122
        · refine j_aload_n E 116 rfl dX3_readConditions_115 rfl (lv_at hl 0 rfl) ?_
          refine j_sipush E 119 rfl dX3_readConditions_116 (by decide) ?_
          refine kV_v E (c_X3_emit l D cy T (upV (upV (upV (upV v_0 80 y80_c9) 83 y83_c9) 84 y84_c9) 86 y86_c9) o ((-304))  t_o (rr (by decide)) (show 0 ≤ (y86_c9 o) ∧ (y86_c9 o) ≤ 400 from by omega)) mt_X3_emit ml_X3_60 hK hw (cw_rc4 hK hw.1 t_o) hA ⟨Nat.le_of_ble_eq_true rfl, Nat.le_of_ble_eq_true rfl⟩ ⟨Nat.le_of_ble_eq_true rfl, Nat.le_of_ble_eq_true rfl⟩ (As := [.int (J ((-304)))]) (rest := []) rfl rfl hl.1 (Nat.le_of_ble_eq_true rfl) 122 rfl dX3_readConditions_119 (fun v_6 H locs hq6_ hw => ?_)
          obtain ⟨y86_6, ev6_, hh6_⟩ := hq6_
          rw [ev6_] at hw; clear ev6_
          have hw : WK D cy T (upV (upV (upV (upV v_0 80 y80_c9) 83 y83_c9) 84 y84_c9) 86 y86_6) A0 s.heap H locs := cw_eq hw (by first | rfl | (funext j_; simp only [upV, reduceIte]; (repeat' split) <;> first | rfl | omega | (subst_vars; rfl)))
          have hh6_ : 0 ≤ (y86_6 o) ∧ (y86_6 o) ≤ 400 := hh6_
          exact hret 122 (upV (upV (upV (upV v_0 80 y80_c9) 83 y83_c9) 84 y84_c9) 86 y86_6) _ _ ls hw ⟨y80_c9, y83_c9, y84_c9, y86_6, rfl, by first | omega | (simp only [upB_same]; omega)⟩ dX3_readConditions_122
      · refine j_aload_n E 17 rfl dX3_readConditions_16 rfl (lv_at hl 0 rfl) ?_
        refine g_84 E hK hw fl_X3_30 t_o (y84_c9 o) rfl 20 rfl dX3_readConditions_17 (fun rr7_ => ?_)
        refine j_sipush E 23 rfl dX3_readConditions_20 (by decide) ?_
        refine j_icmp_eq E 26 36 rfl rr7_ (rr (by decide)) dX3_readConditions_23 (by decide) (fun cc8_ => ?_) (fun cc8_ => ?_)
        · have L51_9 : ∀ (s0_51 : Int) (H : Heap) (locs : List Loc) (ls : Array Slot), inR s0_51 → (True) → WK D cy T (upV (upV (upV (upV v_0 80 y80_c9) 83 y83_c9) 84 y84_c9) 86 y86_c9) A0 s.heap H locs → lv_has ls 5 [(0, .ref o), (1, .int (J 5)), (2, .int (J l2_9)), (3, .int (J l3_9))] → W p l e (rmd 12 0 0) s m ar below meth c H locs 0 0 QW (F0 m 51 ls [.int (J s0_51)]) := by
            intro s0_51 H locs ls r_s0_51 iv51 hw hl
            refine j_istore E 53 rfl [(4, .int (J s0_51)), (0, .ref o), (1, .int (J 5)), (2, .int (J l2_9)), (3, .int (J l3_9))] dX3_readConditions_51 hl (by decide) rfl (fun ls hl => ?_)
            have L69_11 : ∀ (y86_c69 : Nat → Int) (H : Heap) (locs : List Loc) (ls : Array Slot), (0 ≤ (y86_c69 o) ∧ (y86_c69 o) ≤ 400) → WK D cy T (upV (upV (upV (upV v_0 80 y80_c9) 83 y83_c9) 84 y84_c9) 86 y86_c69) A0 s.heap H locs → lv_has ls 5 [(0, .ref o), (1, .int (J 5)), (2, .int (J l2_9)), (3, .int (J l3_9)), (4, .int (J s0_51))] → W p l e (rmd 12 0 0) s m ar below meth c H locs 0 0 QW (F0 m 69 ls []) := by
              intro y86_c69 H locs ls iv69 hw hl
              refine j_aload_n E 70 rfl dX3_readConditions_69 rfl (lv_at hl 0 rfl) ?_
              refine zV_v E (c_X3_step l D cy T (upV (upV (upV (upV v_0 80 y80_c9) 83 y83_c9) 84 y84_c9) 86 y86_c69) κ o  hO t_o  ) mt_X3_step ml_X3_54 hK hZ hAc hw (cw_rc4 hK hw.1 t_o) hA ⟨Nat.le_of_ble_eq_true rfl, Nat.le_of_ble_eq_true rfl⟩ ⟨Nat.le_of_ble_eq_true rfl, Nat.le_of_ble_eq_true rfl⟩ (As := []) (rest := []) rfl rfl hl.1 (Nat.le_of_ble_eq_true rfl) 73 rfl dX3_readConditions_70 (fun v_13 H locs hq13_ hw => ?_)
              obtain ⟨y83_13, y84_13, ev13_, hh13_⟩ := hq13_
              rw [ev13_] at hw; clear ev13_
              have hw : WK D cy T (upV (upV (upV (upV v_0 80 y80_c9) 83 y83_13) 84 y84_13) 86 y86_c69) A0 s.heap H locs := cw_eq hw (by first | rfl | (funext j_; simp only [upV, reduceIte]; (repeat' split) <;> first | rfl | omega | (subst_vars; rfl)))
              refine j_aload_n E 74 rfl dX3_readConditions_73 rfl (lv_at hl 0 rfl) ?_
              refine j_iload_n E 75 rfl dX3_readConditions_74 rfl (lv_at hl 1 rfl) ?_
              refine zV_v E (c_X3_readCondition_n5 l D cy T (upV (upV (upV (upV v_0 80 y80_c9) 83 y83_13) 84 y84_13) 86 y86_c69) κ o  hO t_o  (show 0 ≤ (y86_c69 o) ∧ (y86_c69 o) ≤ 400 from by omega)) mt_X3_readCondition ml_X3_85 hK hZ hAc hw (cw_rc4 hK hw.1 t_o) hA ⟨Nat.le_of_ble_eq_true rfl, Nat.le_of_ble_eq_true rfl⟩ ⟨Nat.le_of_ble_eq_true rfl, Nat.le_of_ble_eq_true rfl⟩ (As := [.int (J 5)]) (rest := []) rfl rfl hl.1 (Nat.le_of_ble_eq_true rfl) 78 rfl dX3_readConditions_75 (fun v_14 H locs hq14_ hw => ?_)
              obtain ⟨y80_14, y83_14, y84_14, y86_14, ev14_, hh14_⟩ := hq14_
              rw [ev14_] at hw; clear ev14_
              have hw : WK D cy T (upV (upV (upV (upV v_0 80 y80_14) 83 y83_14) 84 y84_14) 86 y86_14) A0 s.heap H locs := cw_eq hw (by first | rfl | (funext j_; simp only [upV, reduceIte]; (repeat' split) <;> first | rfl | omega | (subst_vars; rfl)))
              have hh14_ : 0 ≤ (y86_14 o) ∧ (y86_14 o) ≤ 400 := hh14_
              have L90_15 : ∀ (y86_c90 : Nat → Int) (H : Heap) (locs : List Loc) (ls : Array Slot), (0 ≤ (y86_c90 o) ∧ (y86_c90 o) ≤ 400) → WK D cy T (upV (upV (upV (upV v_0 80 y80_14) 83 y83_14) 84 y84_14) 86 y86_c90) A0 s.heap H locs → lv_has ls 5 [(0, .ref o), (1, .int (J 5)), (2, .int (J l2_9)), (3, .int (J l3_9)), (4, .int (J s0_51))] → W p l e (rmd 12 0 0) s m ar below meth c H locs 0 0 QW (F0 m 90 ls []) := by
                intro y86_c90 H locs ls iv90 hw hl
                have L104_17 : ∀ (s0_104 : Int) (H : Heap) (locs : List Loc) (ls : Array Slot), inR s0_104 → (True) → WK D cy T (upV (upV (upV (upV v_0 80 y80_14) 83 y83_14) 84 y84_14) 86 y86_c90) A0 s.heap H locs → lv_has ls 5 [(0, .ref o), (1, .int (J 5)), (2, .int (J l2_9)), (3, .int (J l3_9)), (4, .int (J s0_51))] → W p l e (rmd 12 0 0) s m ar below meth c H locs 0 0 QW (F0 m 104 ls [.int (J s0_104)]) := by
                  intro s0_104 H locs ls r_s0_104 iv104 hw hl
                  refine j_istore_n E 105 rfl [(2, .int (J s0_104)), (0, .ref o), (1, .int (J 5)), (3, .int (J l3_9)), (4, .int (J s0_51))] dX3_readConditions_104 rfl hl (by decide) rfl (fun ls hl => ?_)
                  refine j_iinc E 108 rfl [(3, .int (J (l3_9 + 1))), (2, .int (J s0_104)), (0, .ref o), (1, .int (J 5)), (4, .int (J s0_51))] dX3_readConditions_105 hl (kk := 3) rfl (by decide) rfl (fun ls hl => ?_)
                  refine j_goto E 9 dX3_readConditions_108 (by decide) ?_
                  exact ih9 s0_104 (l3_9 + 1) y80_14 y83_14 y84_14 y86_c90 H locs ls r_s0_104 (rr (by omega)) (by first | omega | (simp only [upB_same]; omega)) (by omega) hw (lv_sub hl [2, 3, 1, 0] rfl)
                refine j_iload_n E 91 rfl dX3_readConditions_90 rfl (lv_at hl 2 rfl) ?_
                refine j_if_ne E 94 99 rfl r_l2_9 dX3_readConditions_91 (by decide) (fun cc19_ => ?_) (fun cc19_ => ?_)
                · refine j_iconst E 100 rfl dX3_readConditions_99 ?_
                  refine j_goto E 104 dX3_readConditions_100 (by decide) ?_
                  exact L104_17 1  H locs ls (rr (by decide)) (trivial) hw (lv_sub hl [0, 1, 2, 3, 4] rfl)
                · refine j_iload E 96 rfl dX3_readConditions_94 (lv_at hl 4 rfl) ?_
                  refine j_if_ne E 99 103 rfl r_s0_51 dX3_readConditions_96 (by decide) (fun cc20_ => ?_) (fun cc20_ => ?_)
                  · refine j_iconst E 104 rfl dX3_readConditions_103 ?_
                    exact L104_17 0  H locs ls (rr (by decide)) (trivial) hw (lv_sub hl [0, 1, 2, 3, 4] rfl)
                  · refine j_iconst E 100 rfl dX3_readConditions_99 ?_
                    refine j_goto E 104 dX3_readConditions_100 (by decide) ?_
                    exact L104_17 1  H locs ls (rr (by decide)) (trivial) hw (lv_sub hl [0, 1, 2, 3, 4] rfl)
              refine j_iload E 80 rfl dX3_readConditions_78 (lv_at hl 4 rfl) ?_
              refine j_if_eq E 83 90 rfl r_s0_51 dX3_readConditions_80 (by decide) (fun cc21_ => ?_) (fun cc21_ => ?_)
              · exact L90_15  y86_14 H locs ls  (by first | omega | (simp only [upB_same]; omega)) hw (lv_sub hl [0, 1, 2, 3, 4] rfl)
              · refine j_aload_n E 84 rfl dX3_readConditions_83 rfl (lv_at hl 0 rfl) ?_
                refine j_sipush E 87 rfl dX3_readConditions_84 (by decide) ?_
                refine kV_v E (c_X3_emit l D cy T (upV (upV (upV (upV v_0 80 y80_14) 83 y83_14) 84 y84_14) 86 y86_14) o ((-305))  t_o (rr (by decide)) (show 0 ≤ (y86_14 o) ∧ (y86_14 o) ≤ 400 from by omega)) mt_X3_emit ml_X3_60 hK hw (cw_rc4 hK hw.1 t_o) hA ⟨Nat.le_of_ble_eq_true rfl, Nat.le_of_ble_eq_true rfl⟩ ⟨Nat.le_of_ble_eq_true rfl, Nat.le_of_ble_eq_true rfl⟩ (As := [.int (J ((-305)))]) (rest := []) rfl rfl hl.1 (Nat.le_of_ble_eq_true rfl) 90 rfl dX3_readConditions_87 (fun v_22 H locs hq22_ hw => ?_)
                obtain ⟨y86_22, ev22_, hh22_⟩ := hq22_
                rw [ev22_] at hw; clear ev22_
                have hw : WK D cy T (upV (upV (upV (upV v_0 80 y80_14) 83 y83_14) 84 y84_14) 86 y86_22) A0 s.heap H locs := cw_eq hw (by first | rfl | (funext j_; simp only [upV, reduceIte]; (repeat' split) <;> first | rfl | omega | (subst_vars; rfl)))
                have hh22_ : 0 ≤ (y86_22 o) ∧ (y86_22 o) ≤ 400 := hh22_
                exact L90_15  y86_22 H locs ls  (by first | omega | (simp only [upB_same]; omega)) hw (lv_sub hl [0, 1, 2, 3, 4] rfl)
            refine j_iload E 55 rfl dX3_readConditions_53 (lv_at hl 0 rfl) ?_
            refine j_if_ne E 58 69 rfl r_s0_51 dX3_readConditions_55 (by decide) (fun cc23_ => ?_) (fun cc23_ => ?_)
            · exact L69_11  y86_c9 H locs ls  (by first | omega | (simp only [upB_same]; omega)) hw (lv_sub hl [1, 2, 3, 4, 0] rfl)
            · refine j_iload_n E 59 rfl dX3_readConditions_58 rfl (lv_at hl 3 rfl) ?_
              refine j_if_eq E 62 69 rfl r_l2_9 dX3_readConditions_59 (by decide) (fun cc24_ => ?_) (fun cc24_ => ?_)
              · exact L69_11  y86_c9 H locs ls  (by first | omega | (simp only [upB_same]; omega)) hw (lv_sub hl [1, 2, 3, 4, 0] rfl)
              · refine j_aload_n E 63 rfl dX3_readConditions_62 rfl (lv_at hl 1 rfl) ?_
                refine j_sipush E 66 rfl dX3_readConditions_63 (by decide) ?_
                refine kV_v E (c_X3_emit l D cy T (upV (upV (upV (upV v_0 80 y80_c9) 83 y83_c9) 84 y84_c9) 86 y86_c9) o ((-304))  t_o (rr (by decide)) (show 0 ≤ (y86_c9 o) ∧ (y86_c9 o) ≤ 400 from by omega)) mt_X3_emit ml_X3_60 hK hw (cw_rc4 hK hw.1 t_o) hA ⟨Nat.le_of_ble_eq_true rfl, Nat.le_of_ble_eq_true rfl⟩ ⟨Nat.le_of_ble_eq_true rfl, Nat.le_of_ble_eq_true rfl⟩ (As := [.int (J ((-304)))]) (rest := []) rfl rfl hl.1 (Nat.le_of_ble_eq_true rfl) 69 rfl dX3_readConditions_66 (fun v_25 H locs hq25_ hw => ?_)
                obtain ⟨y86_25, ev25_, hh25_⟩ := hq25_
                rw [ev25_] at hw; clear ev25_
                have hw : WK D cy T (upV (upV (upV (upV v_0 80 y80_c9) 83 y83_c9) 84 y84_c9) 86 y86_25) A0 s.heap H locs := cw_eq hw (by first | rfl | (funext j_; simp only [upV, reduceIte]; (repeat' split) <;> first | rfl | omega | (subst_vars; rfl)))
                have hh25_ : 0 ≤ (y86_25 o) ∧ (y86_25 o) ≤ 400 := hh25_
                exact L69_11  y86_25 H locs ls  (by first | omega | (simp only [upB_same]; omega)) hw (lv_sub hl [1, 2, 3, 4, 0] rfl)
          refine j_aload_n E 37 rfl dX3_readConditions_36 rfl (lv_at hl 0 rfl) ?_
          refine g_84 E hK hw fl_X3_30 t_o (y84_c9 o) rfl 40 rfl dX3_readConditions_37 (fun _ => ?_)
          refine j_sipush E 43 rfl dX3_readConditions_40 (by decide) ?_
          refine j_icmp_ne E 46 50 rfl rr7_ (rr (by decide)) dX3_readConditions_43 (by decide) (fun cc26_ => ?_) (fun cc26_ => ?_)
          · exfalso; omega
          refine j_iconst E 47 rfl dX3_readConditions_46 ?_
          refine j_goto E 51 dX3_readConditions_47 (by decide) ?_
          exact L51_9 1  H locs ls (rr (by decide)) (trivial) hw (lv_sub hl [0, 1, 2, 3] rfl)
        · refine j_aload_n E 27 rfl dX3_readConditions_26 rfl (lv_at hl 0 rfl) ?_
          refine g_84 E hK hw fl_X3_30 t_o (y84_c9 o) rfl 30 rfl dX3_readConditions_27 (fun _ => ?_)
          refine j_sipush E 33 rfl dX3_readConditions_30 (by decide) ?_
          refine j_icmp_ne E 36 111 rfl rr7_ (rr (by decide)) dX3_readConditions_33 (by decide) (fun cc27_ => ?_) (fun cc27_ => ?_)
          · refine j_iload_n E 112 rfl dX3_readConditions_111 rfl (lv_at hl 2 rfl) ?_
            refine j_if_eq E 115 122 rfl r_l2_9 dX3_readConditions_112 (by decide) (fun cc28_ => ?_) (fun cc28_ => ?_)
            · exact hret 122 (upV (upV (upV (upV v_0 80 y80_c9) 83 y83_c9) 84 y84_c9) 86 y86_c9) _ _ ls hw ⟨y80_c9, y83_c9, y84_c9, y86_c9, rfl, by first | omega | (simp only [upB_same]; omega)⟩ dX3_readConditions_122
            · refine j_aload_n E 116 rfl dX3_readConditions_115 rfl (lv_at hl 0 rfl) ?_
              refine j_sipush E 119 rfl dX3_readConditions_116 (by decide) ?_
              refine kV_v E (c_X3_emit l D cy T (upV (upV (upV (upV v_0 80 y80_c9) 83 y83_c9) 84 y84_c9) 86 y86_c9) o ((-304))  t_o (rr (by decide)) (show 0 ≤ (y86_c9 o) ∧ (y86_c9 o) ≤ 400 from by omega)) mt_X3_emit ml_X3_60 hK hw (cw_rc4 hK hw.1 t_o) hA ⟨Nat.le_of_ble_eq_true rfl, Nat.le_of_ble_eq_true rfl⟩ ⟨Nat.le_of_ble_eq_true rfl, Nat.le_of_ble_eq_true rfl⟩ (As := [.int (J ((-304)))]) (rest := []) rfl rfl hl.1 (Nat.le_of_ble_eq_true rfl) 122 rfl dX3_readConditions_119 (fun v_29 H locs hq29_ hw => ?_)
              obtain ⟨y86_29, ev29_, hh29_⟩ := hq29_
              rw [ev29_] at hw; clear ev29_
              have hw : WK D cy T (upV (upV (upV (upV v_0 80 y80_c9) 83 y83_c9) 84 y84_c9) 86 y86_29) A0 s.heap H locs := cw_eq hw (by first | rfl | (funext j_; simp only [upV, reduceIte]; (repeat' split) <;> first | rfl | omega | (subst_vars; rfl)))
              have hh29_ : 0 ≤ (y86_29 o) ∧ (y86_29 o) ≤ 400 := hh29_
              exact hret 122 (upV (upV (upV (upV v_0 80 y80_c9) 83 y83_c9) 84 y84_c9) 86 y86_29) _ _ ls hw ⟨y80_c9, y83_c9, y84_c9, y86_29, rfl, by first | omega | (simp only [upB_same]; omega)⟩ dX3_readConditions_122
          · have L51_30 : ∀ (s0_51 : Int) (H : Heap) (locs : List Loc) (ls : Array Slot), inR s0_51 → (True) → WK D cy T (upV (upV (upV (upV v_0 80 y80_c9) 83 y83_c9) 84 y84_c9) 86 y86_c9) A0 s.heap H locs → lv_has ls 5 [(0, .ref o), (1, .int (J 5)), (2, .int (J l2_9)), (3, .int (J l3_9))] → W p l e (rmd 12 0 0) s m ar below meth c H locs 0 0 QW (F0 m 51 ls [.int (J s0_51)]) := by
              intro s0_51 H locs ls r_s0_51 iv51 hw hl
              refine j_istore E 53 rfl [(4, .int (J s0_51)), (0, .ref o), (1, .int (J 5)), (2, .int (J l2_9)), (3, .int (J l3_9))] dX3_readConditions_51 hl (by decide) rfl (fun ls hl => ?_)
              have L69_32 : ∀ (y86_c69 : Nat → Int) (H : Heap) (locs : List Loc) (ls : Array Slot), (0 ≤ (y86_c69 o) ∧ (y86_c69 o) ≤ 400) → WK D cy T (upV (upV (upV (upV v_0 80 y80_c9) 83 y83_c9) 84 y84_c9) 86 y86_c69) A0 s.heap H locs → lv_has ls 5 [(0, .ref o), (1, .int (J 5)), (2, .int (J l2_9)), (3, .int (J l3_9)), (4, .int (J s0_51))] → W p l e (rmd 12 0 0) s m ar below meth c H locs 0 0 QW (F0 m 69 ls []) := by
                intro y86_c69 H locs ls iv69 hw hl
                refine j_aload_n E 70 rfl dX3_readConditions_69 rfl (lv_at hl 0 rfl) ?_
                refine zV_v E (c_X3_step l D cy T (upV (upV (upV (upV v_0 80 y80_c9) 83 y83_c9) 84 y84_c9) 86 y86_c69) κ o  hO t_o  ) mt_X3_step ml_X3_54 hK hZ hAc hw (cw_rc4 hK hw.1 t_o) hA ⟨Nat.le_of_ble_eq_true rfl, Nat.le_of_ble_eq_true rfl⟩ ⟨Nat.le_of_ble_eq_true rfl, Nat.le_of_ble_eq_true rfl⟩ (As := []) (rest := []) rfl rfl hl.1 (Nat.le_of_ble_eq_true rfl) 73 rfl dX3_readConditions_70 (fun v_34 H locs hq34_ hw => ?_)
                obtain ⟨y83_34, y84_34, ev34_, hh34_⟩ := hq34_
                rw [ev34_] at hw; clear ev34_
                have hw : WK D cy T (upV (upV (upV (upV v_0 80 y80_c9) 83 y83_34) 84 y84_34) 86 y86_c69) A0 s.heap H locs := cw_eq hw (by first | rfl | (funext j_; simp only [upV, reduceIte]; (repeat' split) <;> first | rfl | omega | (subst_vars; rfl)))
                refine j_aload_n E 74 rfl dX3_readConditions_73 rfl (lv_at hl 0 rfl) ?_
                refine j_iload_n E 75 rfl dX3_readConditions_74 rfl (lv_at hl 1 rfl) ?_
                refine zV_v E (c_X3_readCondition_n5 l D cy T (upV (upV (upV (upV v_0 80 y80_c9) 83 y83_34) 84 y84_34) 86 y86_c69) κ o  hO t_o  (show 0 ≤ (y86_c69 o) ∧ (y86_c69 o) ≤ 400 from by omega)) mt_X3_readCondition ml_X3_85 hK hZ hAc hw (cw_rc4 hK hw.1 t_o) hA ⟨Nat.le_of_ble_eq_true rfl, Nat.le_of_ble_eq_true rfl⟩ ⟨Nat.le_of_ble_eq_true rfl, Nat.le_of_ble_eq_true rfl⟩ (As := [.int (J 5)]) (rest := []) rfl rfl hl.1 (Nat.le_of_ble_eq_true rfl) 78 rfl dX3_readConditions_75 (fun v_35 H locs hq35_ hw => ?_)
                obtain ⟨y80_35, y83_35, y84_35, y86_35, ev35_, hh35_⟩ := hq35_
                rw [ev35_] at hw; clear ev35_
                have hw : WK D cy T (upV (upV (upV (upV v_0 80 y80_35) 83 y83_35) 84 y84_35) 86 y86_35) A0 s.heap H locs := cw_eq hw (by first | rfl | (funext j_; simp only [upV, reduceIte]; (repeat' split) <;> first | rfl | omega | (subst_vars; rfl)))
                have hh35_ : 0 ≤ (y86_35 o) ∧ (y86_35 o) ≤ 400 := hh35_
                have L90_36 : ∀ (y86_c90 : Nat → Int) (H : Heap) (locs : List Loc) (ls : Array Slot), (0 ≤ (y86_c90 o) ∧ (y86_c90 o) ≤ 400) → WK D cy T (upV (upV (upV (upV v_0 80 y80_35) 83 y83_35) 84 y84_35) 86 y86_c90) A0 s.heap H locs → lv_has ls 5 [(0, .ref o), (1, .int (J 5)), (2, .int (J l2_9)), (3, .int (J l3_9)), (4, .int (J s0_51))] → W p l e (rmd 12 0 0) s m ar below meth c H locs 0 0 QW (F0 m 90 ls []) := by
                  intro y86_c90 H locs ls iv90 hw hl
                  have L104_38 : ∀ (s0_104 : Int) (H : Heap) (locs : List Loc) (ls : Array Slot), inR s0_104 → (True) → WK D cy T (upV (upV (upV (upV v_0 80 y80_35) 83 y83_35) 84 y84_35) 86 y86_c90) A0 s.heap H locs → lv_has ls 5 [(0, .ref o), (1, .int (J 5)), (2, .int (J l2_9)), (3, .int (J l3_9)), (4, .int (J s0_51))] → W p l e (rmd 12 0 0) s m ar below meth c H locs 0 0 QW (F0 m 104 ls [.int (J s0_104)]) := by
                    intro s0_104 H locs ls r_s0_104 iv104 hw hl
                    refine j_istore_n E 105 rfl [(2, .int (J s0_104)), (0, .ref o), (1, .int (J 5)), (3, .int (J l3_9)), (4, .int (J s0_51))] dX3_readConditions_104 rfl hl (by decide) rfl (fun ls hl => ?_)
                    refine j_iinc E 108 rfl [(3, .int (J (l3_9 + 1))), (2, .int (J s0_104)), (0, .ref o), (1, .int (J 5)), (4, .int (J s0_51))] dX3_readConditions_105 hl (kk := 3) rfl (by decide) rfl (fun ls hl => ?_)
                    refine j_goto E 9 dX3_readConditions_108 (by decide) ?_
                    exact ih9 s0_104 (l3_9 + 1) y80_35 y83_35 y84_35 y86_c90 H locs ls r_s0_104 (rr (by omega)) (by first | omega | (simp only [upB_same]; omega)) (by omega) hw (lv_sub hl [2, 3, 1, 0] rfl)
                  refine j_iload_n E 91 rfl dX3_readConditions_90 rfl (lv_at hl 2 rfl) ?_
                  refine j_if_ne E 94 99 rfl r_l2_9 dX3_readConditions_91 (by decide) (fun cc40_ => ?_) (fun cc40_ => ?_)
                  · refine j_iconst E 100 rfl dX3_readConditions_99 ?_
                    refine j_goto E 104 dX3_readConditions_100 (by decide) ?_
                    exact L104_38 1  H locs ls (rr (by decide)) (trivial) hw (lv_sub hl [0, 1, 2, 3, 4] rfl)
                  · refine j_iload E 96 rfl dX3_readConditions_94 (lv_at hl 4 rfl) ?_
                    refine j_if_ne E 99 103 rfl r_s0_51 dX3_readConditions_96 (by decide) (fun cc41_ => ?_) (fun cc41_ => ?_)
                    · refine j_iconst E 104 rfl dX3_readConditions_103 ?_
                      exact L104_38 0  H locs ls (rr (by decide)) (trivial) hw (lv_sub hl [0, 1, 2, 3, 4] rfl)
                    · refine j_iconst E 100 rfl dX3_readConditions_99 ?_
                      refine j_goto E 104 dX3_readConditions_100 (by decide) ?_
                      exact L104_38 1  H locs ls (rr (by decide)) (trivial) hw (lv_sub hl [0, 1, 2, 3, 4] rfl)
                refine j_iload E 80 rfl dX3_readConditions_78 (lv_at hl 4 rfl) ?_
                refine j_if_eq E 83 90 rfl r_s0_51 dX3_readConditions_80 (by decide) (fun cc42_ => ?_) (fun cc42_ => ?_)
                · exact L90_36  y86_35 H locs ls  (by first | omega | (simp only [upB_same]; omega)) hw (lv_sub hl [0, 1, 2, 3, 4] rfl)
                · refine j_aload_n E 84 rfl dX3_readConditions_83 rfl (lv_at hl 0 rfl) ?_
                  refine j_sipush E 87 rfl dX3_readConditions_84 (by decide) ?_
                  refine kV_v E (c_X3_emit l D cy T (upV (upV (upV (upV v_0 80 y80_35) 83 y83_35) 84 y84_35) 86 y86_35) o ((-305))  t_o (rr (by decide)) (show 0 ≤ (y86_35 o) ∧ (y86_35 o) ≤ 400 from by omega)) mt_X3_emit ml_X3_60 hK hw (cw_rc4 hK hw.1 t_o) hA ⟨Nat.le_of_ble_eq_true rfl, Nat.le_of_ble_eq_true rfl⟩ ⟨Nat.le_of_ble_eq_true rfl, Nat.le_of_ble_eq_true rfl⟩ (As := [.int (J ((-305)))]) (rest := []) rfl rfl hl.1 (Nat.le_of_ble_eq_true rfl) 90 rfl dX3_readConditions_87 (fun v_43 H locs hq43_ hw => ?_)
                  obtain ⟨y86_43, ev43_, hh43_⟩ := hq43_
                  rw [ev43_] at hw; clear ev43_
                  have hw : WK D cy T (upV (upV (upV (upV v_0 80 y80_35) 83 y83_35) 84 y84_35) 86 y86_43) A0 s.heap H locs := cw_eq hw (by first | rfl | (funext j_; simp only [upV, reduceIte]; (repeat' split) <;> first | rfl | omega | (subst_vars; rfl)))
                  have hh43_ : 0 ≤ (y86_43 o) ∧ (y86_43 o) ≤ 400 := hh43_
                  exact L90_36  y86_43 H locs ls  (by first | omega | (simp only [upB_same]; omega)) hw (lv_sub hl [0, 1, 2, 3, 4] rfl)
              refine j_iload E 55 rfl dX3_readConditions_53 (lv_at hl 0 rfl) ?_
              refine j_if_ne E 58 69 rfl r_s0_51 dX3_readConditions_55 (by decide) (fun cc44_ => ?_) (fun cc44_ => ?_)
              · exact L69_32  y86_c9 H locs ls  (by first | omega | (simp only [upB_same]; omega)) hw (lv_sub hl [1, 2, 3, 4, 0] rfl)
              · refine j_iload_n E 59 rfl dX3_readConditions_58 rfl (lv_at hl 3 rfl) ?_
                refine j_if_eq E 62 69 rfl r_l2_9 dX3_readConditions_59 (by decide) (fun cc45_ => ?_) (fun cc45_ => ?_)
                · exact L69_32  y86_c9 H locs ls  (by first | omega | (simp only [upB_same]; omega)) hw (lv_sub hl [1, 2, 3, 4, 0] rfl)
                · refine j_aload_n E 63 rfl dX3_readConditions_62 rfl (lv_at hl 1 rfl) ?_
                  refine j_sipush E 66 rfl dX3_readConditions_63 (by decide) ?_
                  refine kV_v E (c_X3_emit l D cy T (upV (upV (upV (upV v_0 80 y80_c9) 83 y83_c9) 84 y84_c9) 86 y86_c9) o ((-304))  t_o (rr (by decide)) (show 0 ≤ (y86_c9 o) ∧ (y86_c9 o) ≤ 400 from by omega)) mt_X3_emit ml_X3_60 hK hw (cw_rc4 hK hw.1 t_o) hA ⟨Nat.le_of_ble_eq_true rfl, Nat.le_of_ble_eq_true rfl⟩ ⟨Nat.le_of_ble_eq_true rfl, Nat.le_of_ble_eq_true rfl⟩ (As := [.int (J ((-304)))]) (rest := []) rfl rfl hl.1 (Nat.le_of_ble_eq_true rfl) 69 rfl dX3_readConditions_66 (fun v_46 H locs hq46_ hw => ?_)
                  obtain ⟨y86_46, ev46_, hh46_⟩ := hq46_
                  rw [ev46_] at hw; clear ev46_
                  have hw : WK D cy T (upV (upV (upV (upV v_0 80 y80_c9) 83 y83_c9) 84 y84_c9) 86 y86_46) A0 s.heap H locs := cw_eq hw (by first | rfl | (funext j_; simp only [upV, reduceIte]; (repeat' split) <;> first | rfl | omega | (subst_vars; rfl)))
                  have hh46_ : 0 ≤ (y86_46 o) ∧ (y86_46 o) ≤ 400 := hh46_
                  exact L69_32  y86_46 H locs ls  (by first | omega | (simp only [upB_same]; omega)) hw (lv_sub hl [1, 2, 3, 4, 0] rfl)
            refine j_aload_n E 37 rfl dX3_readConditions_36 rfl (lv_at hl 0 rfl) ?_
            refine g_84 E hK hw fl_X3_30 t_o (y84_c9 o) rfl 40 rfl dX3_readConditions_37 (fun _ => ?_)
            refine j_sipush E 43 rfl dX3_readConditions_40 (by decide) ?_
            refine j_icmp_ne E 46 50 rfl rr7_ (rr (by decide)) dX3_readConditions_43 (by decide) (fun cc47_ => ?_) (fun cc47_ => ?_)
            rotate_left; · exfalso; omega
            refine j_iconst E 51 rfl dX3_readConditions_50 ?_
            exact L51_30 0  H locs ls (rr (by decide)) (trivial) hw (lv_sub hl [0, 1, 2, 3] rfl)
  exact L9_2 _ 0 0 y80_1 y83_1 y84_1 y86_1 H locs ls (rr (by decide)) (rr (by decide)) (by first | omega | (simp only [upB_same]; omega)) (Nat.lt_succ_self _) hw (lv_sub hl [2, 3, 1, 0] rfl)
set_option maxHeartbeats 4000000 in
set_option maxRecDepth 100000 in
theorem c_X3_readCondition_n4 (l : Launch) (D : va_G) (cy : Nat → ClassId) (T : Nat → Nat → Nat) (v_0 : Nat → Nat → Int) (κ : Nat → Nat → Nat) (o : Nat) (hO : ∀ x, ow T x → κ 2 2 ≤ x) (t_o : T 0 o = 4) (hp0 : 0 ≤ (v_0 86 o) ∧ (v_0 86 o) ≤ 400) : KZ l D cy κ T yX3_readCondition cX3_readCondition 4 none 13 [.ref o, .int (J 4)] v_0 (KV (fun (v_2 : Nat → Nat → Int) => ∃ (y80_2 : Nat → Int) (y83_2 : Nat → Int) (y84_2 : Nat → Int) (y86_2 : Nat → Int) , v_2 = upV (upV (upV (upV v_0 80 y80_2) 83 y83_2) 84 y84_2) 86 y86_2 ∧ (0 ≤ (y86_2 o) ∧ (y86_2 o) ≤ 400))) := by
  refine KZ.ofv (by decide) (Nat.le_of_ble_eq_true rfl) hO ?_
  intro p e s m below meth c ls ar QW A0 H locs E hK hZ hA hAc hw hl hret
  have hl : lv_has ls 4 [(0, .ref o), (1, .int (J 4))] := hl
  have hT : WT T := hw.1.2.1
  refine j_aload_n E 1 rfl dX3_readCondition_0 rfl (lv_at hl 0 rfl) ?_
  refine g_84 E hK hw fl_X3_30 t_o (v_0 84 o) rfl 4 rfl dX3_readCondition_1 (fun rr1_ => ?_)
  refine j_bipush E 6 rfl dX3_readCondition_4 (by decide) ?_
  refine j_icmp_eq E 9 19 rfl rr1_ (rr (by decide)) dX3_readCondition_6 (by decide) (fun cc2_ => ?_) (fun cc2_ => ?_)
  · refine j_iconst E 20 rfl dX3_readCondition_19 ?_
    refine j_goto E 24 dX3_readCondition_20 (by decide) ?_
    refine j_istore_n E 25 rfl [(2, .int (J 1)), (0, .ref o), (1, .int (J 4))] dX3_readCondition_24 rfl hl (by decide) rfl (fun ls hl => ?_)
    refine j_iload_n E 26 rfl dX3_readCondition_25 rfl (lv_at hl 0 rfl) ?_
    refine j_if_eq E 29 43 rfl (rr (by decide)) dX3_readCondition_26 (by decide) (fun cc3_ => absurd cc3_ (by decide)) (fun _ => ?_)
    refine j_iload_n E 30 rfl dX3_readCondition_29 rfl (lv_at hl 2 rfl) ?_
    refine j_bipush E 32 rfl dX3_readCondition_30 (by decide) ?_
    refine j_icmp_lt E 35 43 rfl (rr (by decide)) (rr (by decide)) dX3_readCondition_32 (by decide) (fun _ => ?_) (fun cc4_ => absurd cc4_ (by decide))
    refine j_aload_n E 44 rfl dX3_readCondition_43 rfl (lv_at hl 1 rfl) ?_
    refine g_84 E hK hw fl_X3_30 t_o (v_0 84 o) rfl 47 rfl dX3_readCondition_44 (fun _ => ?_)
    refine j_bipush E 49 rfl dX3_readCondition_47 (by decide) ?_
    refine j_icmp_ne E 52 72 rfl rr1_ (rr (by decide)) dX3_readCondition_49 (by decide) (fun cc5_ => ?_) (fun cc5_ => ?_)
    · exfalso; omega
    refine j_aload_n E 53 rfl dX3_readCondition_52 rfl (lv_at hl 1 rfl) ?_
    refine zV_v E (c_X3_step l D cy T (v_0) κ o  hO t_o  ) mt_X3_step ml_X3_54 hK hZ hAc hw (cw_rc4 hK hw.1 t_o) hA ⟨Nat.le_of_ble_eq_true rfl, Nat.le_of_ble_eq_true rfl⟩ ⟨Nat.le_of_ble_eq_true rfl, Nat.le_of_ble_eq_true rfl⟩ (As := []) (rest := []) rfl rfl hl.1 (Nat.le_of_ble_eq_true rfl) 56 rfl dX3_readCondition_53 (fun v_6 H locs hq6_ hw => ?_)
    obtain ⟨y83_6, y84_6, ev6_, hh6_⟩ := hq6_
    rw [ev6_] at hw; clear ev6_
    have hw : WK D cy T (upV (upV v_0 83 y83_6) 84 y84_6) A0 s.heap H locs := cw_eq hw (by first | rfl | (funext j_; simp only [upV, reduceIte]; (repeat' split) <;> first | rfl | omega | (subst_vars; rfl)))
    refine j_aload_n E 57 rfl dX3_readCondition_56 rfl (lv_at hl 1 rfl) ?_
    refine j_iload_n E 58 rfl dX3_readCondition_57 rfl (lv_at hl 2 rfl) ?_
    refine j_iconst E 59 rfl dX3_readCondition_58 ?_
    refine j_iadd E 60 rfl dX3_readCondition_59 ?_
    refine j_lit (z := 5) (by decide) ?_
    refine zV_v E (c_X3_readConditions_n5 l D cy T (upV (upV v_0 83 y83_6) 84 y84_6) κ o  hO t_o  (show 0 ≤ ((v_0 86) o) ∧ ((v_0 86) o) ≤ 400 from by omega)) mt_X3_readConditions ml_X3_57 hK hZ hAc hw (cw_rc4 hK hw.1 t_o) hA ⟨Nat.le_of_ble_eq_true rfl, Nat.le_of_ble_eq_true rfl⟩ ⟨Nat.le_of_ble_eq_true rfl, Nat.le_of_ble_eq_true rfl⟩ (As := [.int (J 5)]) (rest := []) rfl rfl hl.1 (Nat.le_of_ble_eq_true rfl) 63 rfl dX3_readCondition_60 (fun v_7 H locs hq7_ hw => ?_)
    obtain ⟨y80_7, y83_7, y84_7, y86_7, ev7_, hh7_⟩ := hq7_
    rw [ev7_] at hw; clear ev7_
    have hw : WK D cy T (upV (upV (upV (upV v_0 80 y80_7) 83 y83_7) 84 y84_7) 86 y86_7) A0 s.heap H locs := cw_eq hw (by first | rfl | (funext j_; simp only [upV, reduceIte]; (repeat' split) <;> first | rfl | omega | (subst_vars; rfl)))
    have hh7_ : 0 ≤ (y86_7 o) ∧ (y86_7 o) ≤ 400 := hh7_
    refine j_aload_n E 64 rfl dX3_readCondition_63 rfl (lv_at hl 1 rfl) ?_
    refine j_bipush E 66 rfl dX3_readCondition_64 (by decide) ?_
    refine zV_v E (c_X3_take l D cy T (upV (upV (upV (upV v_0 80 y80_7) 83 y83_7) 84 y84_7) 86 y86_7) κ o 41  hO t_o (rr (by decide)) ) mt_X3_take ml_X3_47 hK hZ hAc hw (cw_rc4 hK hw.1 t_o) hA ⟨Nat.le_of_ble_eq_true rfl, Nat.le_of_ble_eq_true rfl⟩ ⟨Nat.le_of_ble_eq_true rfl, Nat.le_of_ble_eq_true rfl⟩ (As := [.int (J 41)]) (rest := []) rfl rfl hl.1 (Nat.le_of_ble_eq_true rfl) 69 rfl dX3_readCondition_66 (fun v_8 H locs hq8_ hw => ?_)
    obtain ⟨y80_8, y83_8, y84_8, ev8_, hh8_⟩ := hq8_
    rw [ev8_] at hw; clear ev8_
    have hw : WK D cy T (upV (upV (upV (upV v_0 80 y80_8) 83 y83_8) 84 y84_8) 86 y86_7) A0 s.heap H locs := cw_eq hw (by first | rfl | (funext j_; simp only [upV, reduceIte]; (repeat' split) <;> first | rfl | omega | (subst_vars; rfl)))
    refine j_goto E 126 dX3_readCondition_69 (by decide) ?_
    exact hret 126 (upV (upV (upV (upV v_0 80 y80_8) 83 y83_8) 84 y84_8) 86 y86_7) _ _ ls hw ⟨y80_8, y83_8, y84_8, y86_7, rfl, by first | omega | (simp only [upB_same]; omega)⟩ dX3_readCondition_126
  · refine j_aload_n E 10 rfl dX3_readCondition_9 rfl (lv_at hl 0 rfl) ?_
    refine g_84 E hK hw fl_X3_30 t_o (v_0 84 o) rfl 13 rfl dX3_readCondition_10 (fun _ => ?_)
    refine j_sipush E 16 rfl dX3_readCondition_13 (by decide) ?_
    refine j_icmp_ne E 19 23 rfl rr1_ (rr (by decide)) dX3_readCondition_16 (by decide) (fun cc9_ => ?_) (fun cc9_ => ?_)
    · refine j_iconst E 24 rfl dX3_readCondition_23 ?_
      refine j_istore_n E 25 rfl [(2, .int (J 0)), (0, .ref o), (1, .int (J 4))] dX3_readCondition_24 rfl hl (by decide) rfl (fun ls hl => ?_)
      refine j_iload_n E 26 rfl dX3_readCondition_25 rfl (lv_at hl 0 rfl) ?_
      refine j_if_eq E 29 43 rfl (rr (by decide)) dX3_readCondition_26 (by decide) (fun _ => ?_) (fun cc10_ => absurd cc10_ (by decide))
      refine j_aload_n E 44 rfl dX3_readCondition_43 rfl (lv_at hl 1 rfl) ?_
      refine g_84 E hK hw fl_X3_30 t_o (v_0 84 o) rfl 47 rfl dX3_readCondition_44 (fun _ => ?_)
      refine j_bipush E 49 rfl dX3_readCondition_47 (by decide) ?_
      refine j_icmp_ne E 52 72 rfl rr1_ (rr (by decide)) dX3_readCondition_49 (by decide) (fun cc11_ => ?_) (fun cc11_ => ?_)
      rotate_left; · exfalso; omega
      refine j_aload_n E 73 rfl dX3_readCondition_72 rfl (lv_at hl 1 rfl) ?_
      refine g_84 E hK hw fl_X3_30 t_o (v_0 84 o) rfl 76 rfl dX3_readCondition_73 (fun _ => ?_)
      refine j_sipush E 79 rfl dX3_readCondition_76 (by decide) ?_
      refine j_icmp_ne E 82 103 rfl rr1_ (rr (by decide)) dX3_readCondition_79 (by decide) (fun cc12_ => ?_) (fun cc12_ => ?_)
      rotate_left; · exfalso; omega
      refine j_aload_n E 104 rfl dX3_readCondition_103 rfl (lv_at hl 1 rfl) ?_
      refine zV_v E (c_X3_readSum l D cy T (v_0) κ o  hO t_o  (show 0 ≤ ((v_0 86) o) ∧ ((v_0 86) o) ≤ 400 from by omega)) mt_X3_readSum ml_X3_51 hK hZ hAc hw (cw_rc4 hK hw.1 t_o) hA ⟨Nat.le_of_ble_eq_true rfl, Nat.le_of_ble_eq_true rfl⟩ ⟨Nat.le_of_ble_eq_true rfl, Nat.le_of_ble_eq_true rfl⟩ (As := []) (rest := []) rfl rfl hl.1 (Nat.le_of_ble_eq_true rfl) 107 rfl dX3_readCondition_104 (fun v_13 H locs hq13_ hw => ?_)
      obtain ⟨y80_13, y83_13, y84_13, y86_13, ev13_, hh13_⟩ := hq13_
      rw [ev13_] at hw; clear ev13_
      have hw : WK D cy T (upV (upV (upV (upV v_0 80 y80_13) 83 y83_13) 84 y84_13) 86 y86_13) A0 s.heap H locs := cw_eq hw (by first | rfl | (funext j_; simp only [upV, reduceIte]; (repeat' split) <;> first | rfl | omega | (subst_vars; rfl)))
      have hh13_ : 0 ≤ (y86_13 o) ∧ (y86_13 o) ≤ 400 := hh13_
      refine j_aload_n E 108 rfl dX3_readCondition_107 rfl (lv_at hl 1 rfl) ?_
      refine g_84 E hK hw fl_X3_30 t_o (y84_13 o) rfl 111 rfl dX3_readCondition_108 (fun rr14_ => ?_)
      refine j_istore_n E 112 rfl [(3, .int (J (y84_13 o))), (2, .int (J 0)), (0, .ref o), (1, .int (J 4))] dX3_readCondition_111 rfl hl (by decide) rfl (fun ls hl => ?_)
      refine j_aload_n E 113 rfl dX3_readCondition_112 rfl (lv_at hl 2 rfl) ?_
      refine zV_v E (c_X3_takeComparison l D cy T (upV (upV (upV (upV v_0 80 y80_13) 83 y83_13) 84 y84_13) 86 y86_13) κ o  hO t_o  ) mt_X3_takeComparison ml_X3_88 hK hZ hAc hw (cw_rc4 hK hw.1 t_o) hA ⟨Nat.le_of_ble_eq_true rfl, Nat.le_of_ble_eq_true rfl⟩ ⟨Nat.le_of_ble_eq_true rfl, Nat.le_of_ble_eq_true rfl⟩ (As := []) (rest := []) rfl rfl hl.1 (Nat.le_of_ble_eq_true rfl) 116 rfl dX3_readCondition_113 (fun v_15 H locs hq15_ hw => ?_)
      obtain ⟨y80_15, y83_15, y84_15, ev15_, hh15_⟩ := hq15_
      rw [ev15_] at hw; clear ev15_
      have hw : WK D cy T (upV (upV (upV (upV v_0 80 y80_15) 83 y83_15) 84 y84_15) 86 y86_13) A0 s.heap H locs := cw_eq hw (by first | rfl | (funext j_; simp only [upV, reduceIte]; (repeat' split) <;> first | rfl | omega | (subst_vars; rfl)))
      refine j_aload_n E 117 rfl dX3_readCondition_116 rfl (lv_at hl 2 rfl) ?_
      refine zV_v E (c_X3_readSum l D cy T (upV (upV (upV (upV v_0 80 y80_15) 83 y83_15) 84 y84_15) 86 y86_13) κ o  hO t_o  (show 0 ≤ (y86_13 o) ∧ (y86_13 o) ≤ 400 from by omega)) mt_X3_readSum ml_X3_51 hK hZ hAc hw (cw_rc4 hK hw.1 t_o) hA ⟨Nat.le_of_ble_eq_true rfl, Nat.le_of_ble_eq_true rfl⟩ ⟨Nat.le_of_ble_eq_true rfl, Nat.le_of_ble_eq_true rfl⟩ (As := []) (rest := []) rfl rfl hl.1 (Nat.le_of_ble_eq_true rfl) 120 rfl dX3_readCondition_117 (fun v_16 H locs hq16_ hw => ?_)
      obtain ⟨y80_16, y83_16, y84_16, y86_16, ev16_, hh16_⟩ := hq16_
      rw [ev16_] at hw; clear ev16_
      have hw : WK D cy T (upV (upV (upV (upV v_0 80 y80_16) 83 y83_16) 84 y84_16) 86 y86_16) A0 s.heap H locs := cw_eq hw (by first | rfl | (funext j_; simp only [upV, reduceIte]; (repeat' split) <;> first | rfl | omega | (subst_vars; rfl)))
      have hh16_ : 0 ≤ (y86_16 o) ∧ (y86_16 o) ≤ 400 := hh16_
      refine j_aload_n E 121 rfl dX3_readCondition_120 rfl (lv_at hl 2 rfl) ?_
      refine j_iload_n E 122 rfl dX3_readCondition_121 rfl (lv_at hl 0 rfl) ?_
      refine j_ineg E 123 rfl dX3_readCondition_122 ?_
      refine j_norm (fun zz17_ rr17_ ee17_ => ?_)
      refine kV_v E (c_X3_emit l D cy T (upV (upV (upV (upV v_0 80 y80_16) 83 y83_16) 84 y84_16) 86 y86_16) o zz17_  t_o rr17_ (show 0 ≤ (y86_16 o) ∧ (y86_16 o) ≤ 400 from by omega)) mt_X3_emit ml_X3_60 hK hw (cw_rc4 hK hw.1 t_o) hA ⟨Nat.le_of_ble_eq_true rfl, Nat.le_of_ble_eq_true rfl⟩ ⟨Nat.le_of_ble_eq_true rfl, Nat.le_of_ble_eq_true rfl⟩ (As := [.int (J zz17_)]) (rest := []) rfl rfl hl.1 (Nat.le_of_ble_eq_true rfl) 126 rfl dX3_readCondition_123 (fun v_18 H locs hq18_ hw => ?_)
      obtain ⟨y86_18, ev18_, hh18_⟩ := hq18_
      rw [ev18_] at hw; clear ev18_
      have hw : WK D cy T (upV (upV (upV (upV v_0 80 y80_16) 83 y83_16) 84 y84_16) 86 y86_18) A0 s.heap H locs := cw_eq hw (by first | rfl | (funext j_; simp only [upV, reduceIte]; (repeat' split) <;> first | rfl | omega | (subst_vars; rfl)))
      have hh18_ : 0 ≤ (y86_18 o) ∧ (y86_18 o) ≤ 400 := hh18_
      exact hret 126 (upV (upV (upV (upV v_0 80 y80_16) 83 y83_16) 84 y84_16) 86 y86_18) _ _ ls hw ⟨y80_16, y83_16, y84_16, y86_18, rfl, by first | omega | (simp only [upB_same]; omega)⟩ dX3_readCondition_126
    · refine j_iconst E 20 rfl dX3_readCondition_19 ?_
      refine j_goto E 24 dX3_readCondition_20 (by decide) ?_
      refine j_istore_n E 25 rfl [(2, .int (J 1)), (0, .ref o), (1, .int (J 4))] dX3_readCondition_24 rfl hl (by decide) rfl (fun ls hl => ?_)
      refine j_iload_n E 26 rfl dX3_readCondition_25 rfl (lv_at hl 0 rfl) ?_
      refine j_if_eq E 29 43 rfl (rr (by decide)) dX3_readCondition_26 (by decide) (fun cc19_ => absurd cc19_ (by decide)) (fun _ => ?_)
      refine j_iload_n E 30 rfl dX3_readCondition_29 rfl (lv_at hl 2 rfl) ?_
      refine j_bipush E 32 rfl dX3_readCondition_30 (by decide) ?_
      refine j_icmp_lt E 35 43 rfl (rr (by decide)) (rr (by decide)) dX3_readCondition_32 (by decide) (fun _ => ?_) (fun cc20_ => absurd cc20_ (by decide))
      refine j_aload_n E 44 rfl dX3_readCondition_43 rfl (lv_at hl 1 rfl) ?_
      refine g_84 E hK hw fl_X3_30 t_o (v_0 84 o) rfl 47 rfl dX3_readCondition_44 (fun _ => ?_)
      refine j_bipush E 49 rfl dX3_readCondition_47 (by decide) ?_
      refine j_icmp_ne E 52 72 rfl rr1_ (rr (by decide)) dX3_readCondition_49 (by decide) (fun cc21_ => ?_) (fun cc21_ => ?_)
      rotate_left; · exfalso; omega
      refine j_aload_n E 73 rfl dX3_readCondition_72 rfl (lv_at hl 1 rfl) ?_
      refine g_84 E hK hw fl_X3_30 t_o (v_0 84 o) rfl 76 rfl dX3_readCondition_73 (fun _ => ?_)
      refine j_sipush E 79 rfl dX3_readCondition_76 (by decide) ?_
      refine j_icmp_ne E 82 103 rfl rr1_ (rr (by decide)) dX3_readCondition_79 (by decide) (fun cc22_ => ?_) (fun cc22_ => ?_)
      · exfalso; omega
      refine j_aload_n E 83 rfl dX3_readCondition_82 rfl (lv_at hl 1 rfl) ?_
      refine zV_v E (c_X3_step l D cy T (v_0) κ o  hO t_o  ) mt_X3_step ml_X3_54 hK hZ hAc hw (cw_rc4 hK hw.1 t_o) hA ⟨Nat.le_of_ble_eq_true rfl, Nat.le_of_ble_eq_true rfl⟩ ⟨Nat.le_of_ble_eq_true rfl, Nat.le_of_ble_eq_true rfl⟩ (As := []) (rest := []) rfl rfl hl.1 (Nat.le_of_ble_eq_true rfl) 86 rfl dX3_readCondition_83 (fun v_23 H locs hq23_ hw => ?_)
      obtain ⟨y83_23, y84_23, ev23_, hh23_⟩ := hq23_
      rw [ev23_] at hw; clear ev23_
      have hw : WK D cy T (upV (upV v_0 83 y83_23) 84 y84_23) A0 s.heap H locs := cw_eq hw (by first | rfl | (funext j_; simp only [upV, reduceIte]; (repeat' split) <;> first | rfl | omega | (subst_vars; rfl)))
      refine j_aload_n E 87 rfl dX3_readCondition_86 rfl (lv_at hl 1 rfl) ?_
      refine j_iload_n E 88 rfl dX3_readCondition_87 rfl (lv_at hl 2 rfl) ?_
      refine j_iconst E 89 rfl dX3_readCondition_88 ?_
      refine j_iadd E 90 rfl dX3_readCondition_89 ?_
      refine j_lit (z := 5) (by decide) ?_
      refine zV_v E (c_X3_readCondition_n5 l D cy T (upV (upV v_0 83 y83_23) 84 y84_23) κ o  hO t_o  (show 0 ≤ ((v_0 86) o) ∧ ((v_0 86) o) ≤ 400 from by omega)) mt_X3_readCondition ml_X3_85 hK hZ hAc hw (cw_rc4 hK hw.1 t_o) hA ⟨Nat.le_of_ble_eq_true rfl, Nat.le_of_ble_eq_true rfl⟩ ⟨Nat.le_of_ble_eq_true rfl, Nat.le_of_ble_eq_true rfl⟩ (As := [.int (J 5)]) (rest := []) rfl rfl hl.1 (Nat.le_of_ble_eq_true rfl) 93 rfl dX3_readCondition_90 (fun v_24 H locs hq24_ hw => ?_)
      obtain ⟨y80_24, y83_24, y84_24, y86_24, ev24_, hh24_⟩ := hq24_
      rw [ev24_] at hw; clear ev24_
      have hw : WK D cy T (upV (upV (upV (upV v_0 80 y80_24) 83 y83_24) 84 y84_24) 86 y86_24) A0 s.heap H locs := cw_eq hw (by first | rfl | (funext j_; simp only [upV, reduceIte]; (repeat' split) <;> first | rfl | omega | (subst_vars; rfl)))
      have hh24_ : 0 ≤ (y86_24 o) ∧ (y86_24 o) ≤ 400 := hh24_
      refine j_aload_n E 94 rfl dX3_readCondition_93 rfl (lv_at hl 1 rfl) ?_
      refine j_sipush E 97 rfl dX3_readCondition_94 (by decide) ?_
      refine kV_v E (c_X3_emit l D cy T (upV (upV (upV (upV v_0 80 y80_24) 83 y83_24) 84 y84_24) 86 y86_24) o ((-306))  t_o (rr (by decide)) (show 0 ≤ (y86_24 o) ∧ (y86_24 o) ≤ 400 from by omega)) mt_X3_emit ml_X3_60 hK hw (cw_rc4 hK hw.1 t_o) hA ⟨Nat.le_of_ble_eq_true rfl, Nat.le_of_ble_eq_true rfl⟩ ⟨Nat.le_of_ble_eq_true rfl, Nat.le_of_ble_eq_true rfl⟩ (As := [.int (J ((-306)))]) (rest := []) rfl rfl hl.1 (Nat.le_of_ble_eq_true rfl) 100 rfl dX3_readCondition_97 (fun v_25 H locs hq25_ hw => ?_)
      obtain ⟨y86_25, ev25_, hh25_⟩ := hq25_
      rw [ev25_] at hw; clear ev25_
      have hw : WK D cy T (upV (upV (upV (upV v_0 80 y80_24) 83 y83_24) 84 y84_24) 86 y86_25) A0 s.heap H locs := cw_eq hw (by first | rfl | (funext j_; simp only [upV, reduceIte]; (repeat' split) <;> first | rfl | omega | (subst_vars; rfl)))
      have hh25_ : 0 ≤ (y86_25 o) ∧ (y86_25 o) ≤ 400 := hh25_
      refine j_goto E 126 dX3_readCondition_100 (by decide) ?_
      exact hret 126 (upV (upV (upV (upV v_0 80 y80_24) 83 y83_24) 84 y84_24) 86 y86_25) _ _ ls hw ⟨y80_24, y83_24, y84_24, y86_25, rfl, by first | omega | (simp only [upB_same]; omega)⟩ dX3_readCondition_126
set_option maxHeartbeats 4000000 in
set_option maxRecDepth 100000 in
theorem c_X3_readConditions_n4 (l : Launch) (D : va_G) (cy : Nat → ClassId) (T : Nat → Nat → Nat) (v_0 : Nat → Nat → Int) (κ : Nat → Nat → Nat) (o : Nat) (hO : ∀ x, ow T x → κ 2 2 ≤ x) (t_o : T 0 o = 4) (hp0 : 0 ≤ (v_0 86 o) ∧ (v_0 86 o) ≤ 400) : KZ l D cy κ T yX3_readConditions cX3_readConditions 5 none 14 [.ref o, .int (J 4)] v_0 (KV (fun (v_2 : Nat → Nat → Int) => ∃ (y80_2 : Nat → Int) (y83_2 : Nat → Int) (y84_2 : Nat → Int) (y86_2 : Nat → Int) , v_2 = upV (upV (upV (upV v_0 80 y80_2) 83 y83_2) 84 y84_2) 86 y86_2 ∧ (0 ≤ (y86_2 o) ∧ (y86_2 o) ≤ 400))) := by
  refine KZ.ofv (by decide) (Nat.le_of_ble_eq_true rfl) hO ?_
  intro p e s m below meth c ls ar QW A0 H locs E hK hZ hA hAc hw hl hret
  have hl : lv_has ls 5 [(0, .ref o), (1, .int (J 4))] := hl
  have hT : WT T := hw.1.2.1
  refine j_aload_n E 1 rfl dX3_readConditions_0 rfl (lv_at hl 0 rfl) ?_
  refine j_iload_n E 2 rfl dX3_readConditions_1 rfl (lv_at hl 1 rfl) ?_
  refine zV_v E (c_X3_readCondition_n4 l D cy T (v_0) κ o  hO t_o  (show 0 ≤ ((v_0 86) o) ∧ ((v_0 86) o) ≤ 400 from by omega)) mt_X3_readCondition ml_X3_85 hK hZ hAc hw (cw_rc4 hK hw.1 t_o) hA ⟨Nat.le_of_ble_eq_true rfl, Nat.le_of_ble_eq_true rfl⟩ ⟨Nat.le_of_ble_eq_true rfl, Nat.le_of_ble_eq_true rfl⟩ (As := [.int (J 4)]) (rest := []) rfl rfl hl.1 (Nat.le_of_ble_eq_true rfl) 5 rfl dX3_readConditions_2 (fun v_1 H locs hq1_ hw => ?_)
  obtain ⟨y80_1, y83_1, y84_1, y86_1, ev1_, hh1_⟩ := hq1_
  rw [ev1_] at hw; clear ev1_
  have hw : WK D cy T (upV (upV (upV (upV v_0 80 y80_1) 83 y83_1) 84 y84_1) 86 y86_1) A0 s.heap H locs := cw_eq hw (by first | rfl | (funext j_; simp only [upV, reduceIte]; (repeat' split) <;> first | rfl | omega | (subst_vars; rfl)))
  have hh1_ : 0 ≤ (y86_1 o) ∧ (y86_1 o) ≤ 400 := hh1_
  refine j_iconst E 6 rfl dX3_readConditions_5 ?_
  refine j_istore_n E 7 rfl [(2, .int (J 0)), (0, .ref o), (1, .int (J 4))] dX3_readConditions_6 rfl hl (by decide) rfl (fun ls hl => ?_)
  refine j_iconst E 8 rfl dX3_readConditions_7 ?_
  refine j_istore_n E 9 rfl [(3, .int (J 0)), (2, .int (J 0)), (0, .ref o), (1, .int (J 4))] dX3_readConditions_8 rfl hl (by decide) rfl (fun ls hl => ?_)
  have L9_2 : ∀ (k9 : Nat) (l2_9 l3_9 : Int) (y80_c9 : Nat → Int) (y83_c9 : Nat → Int) (y84_c9 : Nat → Int) (y86_c9 : Nat → Int) (H : Heap) (locs : List Loc) (ls : Array Slot), inR l2_9 → inR l3_9 → (0 ≤ (y86_c9 o) ∧ (y86_c9 o) ≤ 400) → (400 - l3_9).toNat < k9 → WK D cy T (upV (upV (upV (upV v_0 80 y80_c9) 83 y83_c9) 84 y84_c9) 86 y86_c9) A0 s.heap H locs → lv_has ls 5 [(0, .ref o), (1, .int (J 4)), (2, .int (J l2_9)), (3, .int (J l3_9))] → W p l e (rmd 14 0 0) s m ar below meth c H locs 0 0 QW (F0 m 9 ls []) := by
    intro k9
    induction k9 with
    | zero =>
      intro l2_9 l3_9 y80_c9 y83_c9 y84_c9 y86_c9 H locs ls r_l2_9 r_l3_9 iv9 ms9 hw hl
      exact absurd ms9 (Nat.not_lt_zero _)
    | succ k9 ih9 =>
      intro l2_9 l3_9 y80_c9 y83_c9 y84_c9 y86_c9 H locs ls r_l2_9 r_l3_9 iv9 ms9 hw hl
      refine j_iload_n E 10 rfl dX3_readConditions_9 rfl (lv_at hl 3 rfl) ?_
      refine j_sipush E 13 rfl dX3_readConditions_10 (by decide) ?_
      refine j_icmp_ge E 16 111 rfl r_l3_9 (rr (by decide)) dX3_readConditions_13 (by decide) (fun cc4_ => ?_) (fun cc4_ => ?_)
      · refine j_iload_n E 112 rfl dX3_readConditions_111 rfl (lv_at hl 2 rfl) ?_
        refine j_if_eq E 115 122 rfl r_l2_9 dX3_readConditions_112 (by decide) (fun cc5_ => ?_) (fun cc5_ => ?_)
        · exact hret 122 (upV (upV (upV (upV v_0 80 y80_c9) 83 y83_c9) 84 y84_c9) 86 y86_c9) _ _ ls hw ⟨y80_c9, y83_c9, y84_c9, y86_c9, rfl, by first | omega | (simp only [upB_same]; omega)⟩ dX3_readConditions_122
        · refine j_aload_n E 116 rfl dX3_readConditions_115 rfl (lv_at hl 0 rfl) ?_
          refine j_sipush E 119 rfl dX3_readConditions_116 (by decide) ?_
          refine kV_v E (c_X3_emit l D cy T (upV (upV (upV (upV v_0 80 y80_c9) 83 y83_c9) 84 y84_c9) 86 y86_c9) o ((-304))  t_o (rr (by decide)) (show 0 ≤ (y86_c9 o) ∧ (y86_c9 o) ≤ 400 from by omega)) mt_X3_emit ml_X3_60 hK hw (cw_rc4 hK hw.1 t_o) hA ⟨Nat.le_of_ble_eq_true rfl, Nat.le_of_ble_eq_true rfl⟩ ⟨Nat.le_of_ble_eq_true rfl, Nat.le_of_ble_eq_true rfl⟩ (As := [.int (J ((-304)))]) (rest := []) rfl rfl hl.1 (Nat.le_of_ble_eq_true rfl) 122 rfl dX3_readConditions_119 (fun v_6 H locs hq6_ hw => ?_)
          obtain ⟨y86_6, ev6_, hh6_⟩ := hq6_
          rw [ev6_] at hw; clear ev6_
          have hw : WK D cy T (upV (upV (upV (upV v_0 80 y80_c9) 83 y83_c9) 84 y84_c9) 86 y86_6) A0 s.heap H locs := cw_eq hw (by first | rfl | (funext j_; simp only [upV, reduceIte]; (repeat' split) <;> first | rfl | omega | (subst_vars; rfl)))
          have hh6_ : 0 ≤ (y86_6 o) ∧ (y86_6 o) ≤ 400 := hh6_
          exact hret 122 (upV (upV (upV (upV v_0 80 y80_c9) 83 y83_c9) 84 y84_c9) 86 y86_6) _ _ ls hw ⟨y80_c9, y83_c9, y84_c9, y86_6, rfl, by first | omega | (simp only [upB_same]; omega)⟩ dX3_readConditions_122
      · refine j_aload_n E 17 rfl dX3_readConditions_16 rfl (lv_at hl 0 rfl) ?_
        refine g_84 E hK hw fl_X3_30 t_o (y84_c9 o) rfl 20 rfl dX3_readConditions_17 (fun rr7_ => ?_)
        refine j_sipush E 23 rfl dX3_readConditions_20 (by decide) ?_
        refine j_icmp_eq E 26 36 rfl rr7_ (rr (by decide)) dX3_readConditions_23 (by decide) (fun cc8_ => ?_) (fun cc8_ => ?_)
        · have L51_9 : ∀ (s0_51 : Int) (H : Heap) (locs : List Loc) (ls : Array Slot), inR s0_51 → (True) → WK D cy T (upV (upV (upV (upV v_0 80 y80_c9) 83 y83_c9) 84 y84_c9) 86 y86_c9) A0 s.heap H locs → lv_has ls 5 [(0, .ref o), (1, .int (J 4)), (2, .int (J l2_9)), (3, .int (J l3_9))] → W p l e (rmd 14 0 0) s m ar below meth c H locs 0 0 QW (F0 m 51 ls [.int (J s0_51)]) := by
            intro s0_51 H locs ls r_s0_51 iv51 hw hl
            refine j_istore E 53 rfl [(4, .int (J s0_51)), (0, .ref o), (1, .int (J 4)), (2, .int (J l2_9)), (3, .int (J l3_9))] dX3_readConditions_51 hl (by decide) rfl (fun ls hl => ?_)
            have L69_11 : ∀ (y86_c69 : Nat → Int) (H : Heap) (locs : List Loc) (ls : Array Slot), (0 ≤ (y86_c69 o) ∧ (y86_c69 o) ≤ 400) → WK D cy T (upV (upV (upV (upV v_0 80 y80_c9) 83 y83_c9) 84 y84_c9) 86 y86_c69) A0 s.heap H locs → lv_has ls 5 [(0, .ref o), (1, .int (J 4)), (2, .int (J l2_9)), (3, .int (J l3_9)), (4, .int (J s0_51))] → W p l e (rmd 14 0 0) s m ar below meth c H locs 0 0 QW (F0 m 69 ls []) := by
              intro y86_c69 H locs ls iv69 hw hl
              refine j_aload_n E 70 rfl dX3_readConditions_69 rfl (lv_at hl 0 rfl) ?_
              refine zV_v E (c_X3_step l D cy T (upV (upV (upV (upV v_0 80 y80_c9) 83 y83_c9) 84 y84_c9) 86 y86_c69) κ o  hO t_o  ) mt_X3_step ml_X3_54 hK hZ hAc hw (cw_rc4 hK hw.1 t_o) hA ⟨Nat.le_of_ble_eq_true rfl, Nat.le_of_ble_eq_true rfl⟩ ⟨Nat.le_of_ble_eq_true rfl, Nat.le_of_ble_eq_true rfl⟩ (As := []) (rest := []) rfl rfl hl.1 (Nat.le_of_ble_eq_true rfl) 73 rfl dX3_readConditions_70 (fun v_13 H locs hq13_ hw => ?_)
              obtain ⟨y83_13, y84_13, ev13_, hh13_⟩ := hq13_
              rw [ev13_] at hw; clear ev13_
              have hw : WK D cy T (upV (upV (upV (upV v_0 80 y80_c9) 83 y83_13) 84 y84_13) 86 y86_c69) A0 s.heap H locs := cw_eq hw (by first | rfl | (funext j_; simp only [upV, reduceIte]; (repeat' split) <;> first | rfl | omega | (subst_vars; rfl)))
              refine j_aload_n E 74 rfl dX3_readConditions_73 rfl (lv_at hl 0 rfl) ?_
              refine j_iload_n E 75 rfl dX3_readConditions_74 rfl (lv_at hl 1 rfl) ?_
              refine zV_v E (c_X3_readCondition_n4 l D cy T (upV (upV (upV (upV v_0 80 y80_c9) 83 y83_13) 84 y84_13) 86 y86_c69) κ o  hO t_o  (show 0 ≤ (y86_c69 o) ∧ (y86_c69 o) ≤ 400 from by omega)) mt_X3_readCondition ml_X3_85 hK hZ hAc hw (cw_rc4 hK hw.1 t_o) hA ⟨Nat.le_of_ble_eq_true rfl, Nat.le_of_ble_eq_true rfl⟩ ⟨Nat.le_of_ble_eq_true rfl, Nat.le_of_ble_eq_true rfl⟩ (As := [.int (J 4)]) (rest := []) rfl rfl hl.1 (Nat.le_of_ble_eq_true rfl) 78 rfl dX3_readConditions_75 (fun v_14 H locs hq14_ hw => ?_)
              obtain ⟨y80_14, y83_14, y84_14, y86_14, ev14_, hh14_⟩ := hq14_
              rw [ev14_] at hw; clear ev14_
              have hw : WK D cy T (upV (upV (upV (upV v_0 80 y80_14) 83 y83_14) 84 y84_14) 86 y86_14) A0 s.heap H locs := cw_eq hw (by first | rfl | (funext j_; simp only [upV, reduceIte]; (repeat' split) <;> first | rfl | omega | (subst_vars; rfl)))
              have hh14_ : 0 ≤ (y86_14 o) ∧ (y86_14 o) ≤ 400 := hh14_
              have L90_15 : ∀ (y86_c90 : Nat → Int) (H : Heap) (locs : List Loc) (ls : Array Slot), (0 ≤ (y86_c90 o) ∧ (y86_c90 o) ≤ 400) → WK D cy T (upV (upV (upV (upV v_0 80 y80_14) 83 y83_14) 84 y84_14) 86 y86_c90) A0 s.heap H locs → lv_has ls 5 [(0, .ref o), (1, .int (J 4)), (2, .int (J l2_9)), (3, .int (J l3_9)), (4, .int (J s0_51))] → W p l e (rmd 14 0 0) s m ar below meth c H locs 0 0 QW (F0 m 90 ls []) := by
                intro y86_c90 H locs ls iv90 hw hl
                have L104_17 : ∀ (s0_104 : Int) (H : Heap) (locs : List Loc) (ls : Array Slot), inR s0_104 → (True) → WK D cy T (upV (upV (upV (upV v_0 80 y80_14) 83 y83_14) 84 y84_14) 86 y86_c90) A0 s.heap H locs → lv_has ls 5 [(0, .ref o), (1, .int (J 4)), (2, .int (J l2_9)), (3, .int (J l3_9)), (4, .int (J s0_51))] → W p l e (rmd 14 0 0) s m ar below meth c H locs 0 0 QW (F0 m 104 ls [.int (J s0_104)]) := by
                  intro s0_104 H locs ls r_s0_104 iv104 hw hl
                  refine j_istore_n E 105 rfl [(2, .int (J s0_104)), (0, .ref o), (1, .int (J 4)), (3, .int (J l3_9)), (4, .int (J s0_51))] dX3_readConditions_104 rfl hl (by decide) rfl (fun ls hl => ?_)
                  refine j_iinc E 108 rfl [(3, .int (J (l3_9 + 1))), (2, .int (J s0_104)), (0, .ref o), (1, .int (J 4)), (4, .int (J s0_51))] dX3_readConditions_105 hl (kk := 3) rfl (by decide) rfl (fun ls hl => ?_)
                  refine j_goto E 9 dX3_readConditions_108 (by decide) ?_
                  exact ih9 s0_104 (l3_9 + 1) y80_14 y83_14 y84_14 y86_c90 H locs ls r_s0_104 (rr (by omega)) (by first | omega | (simp only [upB_same]; omega)) (by omega) hw (lv_sub hl [2, 3, 1, 0] rfl)
                refine j_iload_n E 91 rfl dX3_readConditions_90 rfl (lv_at hl 2 rfl) ?_
                refine j_if_ne E 94 99 rfl r_l2_9 dX3_readConditions_91 (by decide) (fun cc19_ => ?_) (fun cc19_ => ?_)
                · refine j_iconst E 100 rfl dX3_readConditions_99 ?_
                  refine j_goto E 104 dX3_readConditions_100 (by decide) ?_
                  exact L104_17 1  H locs ls (rr (by decide)) (trivial) hw (lv_sub hl [0, 1, 2, 3, 4] rfl)
                · refine j_iload E 96 rfl dX3_readConditions_94 (lv_at hl 4 rfl) ?_
                  refine j_if_ne E 99 103 rfl r_s0_51 dX3_readConditions_96 (by decide) (fun cc20_ => ?_) (fun cc20_ => ?_)
                  · refine j_iconst E 104 rfl dX3_readConditions_103 ?_
                    exact L104_17 0  H locs ls (rr (by decide)) (trivial) hw (lv_sub hl [0, 1, 2, 3, 4] rfl)
                  · refine j_iconst E 100 rfl dX3_readConditions_99 ?_
                    refine j_goto E 104 dX3_readConditions_100 (by decide) ?_
                    exact L104_17 1  H locs ls (rr (by decide)) (trivial) hw (lv_sub hl [0, 1, 2, 3, 4] rfl)
              refine j_iload E 80 rfl dX3_readConditions_78 (lv_at hl 4 rfl) ?_
              refine j_if_eq E 83 90 rfl r_s0_51 dX3_readConditions_80 (by decide) (fun cc21_ => ?_) (fun cc21_ => ?_)
              · exact L90_15  y86_14 H locs ls  (by first | omega | (simp only [upB_same]; omega)) hw (lv_sub hl [0, 1, 2, 3, 4] rfl)
              · refine j_aload_n E 84 rfl dX3_readConditions_83 rfl (lv_at hl 0 rfl) ?_
                refine j_sipush E 87 rfl dX3_readConditions_84 (by decide) ?_
                refine kV_v E (c_X3_emit l D cy T (upV (upV (upV (upV v_0 80 y80_14) 83 y83_14) 84 y84_14) 86 y86_14) o ((-305))  t_o (rr (by decide)) (show 0 ≤ (y86_14 o) ∧ (y86_14 o) ≤ 400 from by omega)) mt_X3_emit ml_X3_60 hK hw (cw_rc4 hK hw.1 t_o) hA ⟨Nat.le_of_ble_eq_true rfl, Nat.le_of_ble_eq_true rfl⟩ ⟨Nat.le_of_ble_eq_true rfl, Nat.le_of_ble_eq_true rfl⟩ (As := [.int (J ((-305)))]) (rest := []) rfl rfl hl.1 (Nat.le_of_ble_eq_true rfl) 90 rfl dX3_readConditions_87 (fun v_22 H locs hq22_ hw => ?_)
                obtain ⟨y86_22, ev22_, hh22_⟩ := hq22_
                rw [ev22_] at hw; clear ev22_
                have hw : WK D cy T (upV (upV (upV (upV v_0 80 y80_14) 83 y83_14) 84 y84_14) 86 y86_22) A0 s.heap H locs := cw_eq hw (by first | rfl | (funext j_; simp only [upV, reduceIte]; (repeat' split) <;> first | rfl | omega | (subst_vars; rfl)))
                have hh22_ : 0 ≤ (y86_22 o) ∧ (y86_22 o) ≤ 400 := hh22_
                exact L90_15  y86_22 H locs ls  (by first | omega | (simp only [upB_same]; omega)) hw (lv_sub hl [0, 1, 2, 3, 4] rfl)
            refine j_iload E 55 rfl dX3_readConditions_53 (lv_at hl 0 rfl) ?_
            refine j_if_ne E 58 69 rfl r_s0_51 dX3_readConditions_55 (by decide) (fun cc23_ => ?_) (fun cc23_ => ?_)
            · exact L69_11  y86_c9 H locs ls  (by first | omega | (simp only [upB_same]; omega)) hw (lv_sub hl [1, 2, 3, 4, 0] rfl)
            · refine j_iload_n E 59 rfl dX3_readConditions_58 rfl (lv_at hl 3 rfl) ?_
              refine j_if_eq E 62 69 rfl r_l2_9 dX3_readConditions_59 (by decide) (fun cc24_ => ?_) (fun cc24_ => ?_)
              · exact L69_11  y86_c9 H locs ls  (by first | omega | (simp only [upB_same]; omega)) hw (lv_sub hl [1, 2, 3, 4, 0] rfl)
              · refine j_aload_n E 63 rfl dX3_readConditions_62 rfl (lv_at hl 1 rfl) ?_
                refine j_sipush E 66 rfl dX3_readConditions_63 (by decide) ?_
                refine kV_v E (c_X3_emit l D cy T (upV (upV (upV (upV v_0 80 y80_c9) 83 y83_c9) 84 y84_c9) 86 y86_c9) o ((-304))  t_o (rr (by decide)) (show 0 ≤ (y86_c9 o) ∧ (y86_c9 o) ≤ 400 from by omega)) mt_X3_emit ml_X3_60 hK hw (cw_rc4 hK hw.1 t_o) hA ⟨Nat.le_of_ble_eq_true rfl, Nat.le_of_ble_eq_true rfl⟩ ⟨Nat.le_of_ble_eq_true rfl, Nat.le_of_ble_eq_true rfl⟩ (As := [.int (J ((-304)))]) (rest := []) rfl rfl hl.1 (Nat.le_of_ble_eq_true rfl) 69 rfl dX3_readConditions_66 (fun v_25 H locs hq25_ hw => ?_)
                obtain ⟨y86_25, ev25_, hh25_⟩ := hq25_
                rw [ev25_] at hw; clear ev25_
                have hw : WK D cy T (upV (upV (upV (upV v_0 80 y80_c9) 83 y83_c9) 84 y84_c9) 86 y86_25) A0 s.heap H locs := cw_eq hw (by first | rfl | (funext j_; simp only [upV, reduceIte]; (repeat' split) <;> first | rfl | omega | (subst_vars; rfl)))
                have hh25_ : 0 ≤ (y86_25 o) ∧ (y86_25 o) ≤ 400 := hh25_
                exact L69_11  y86_25 H locs ls  (by first | omega | (simp only [upB_same]; omega)) hw (lv_sub hl [1, 2, 3, 4, 0] rfl)
          refine j_aload_n E 37 rfl dX3_readConditions_36 rfl (lv_at hl 0 rfl) ?_
          refine g_84 E hK hw fl_X3_30 t_o (y84_c9 o) rfl 40 rfl dX3_readConditions_37 (fun _ => ?_)
          refine j_sipush E 43 rfl dX3_readConditions_40 (by decide) ?_
          refine j_icmp_ne E 46 50 rfl rr7_ (rr (by decide)) dX3_readConditions_43 (by decide) (fun cc26_ => ?_) (fun cc26_ => ?_)
          · exfalso; omega
          refine j_iconst E 47 rfl dX3_readConditions_46 ?_
          refine j_goto E 51 dX3_readConditions_47 (by decide) ?_
          exact L51_9 1  H locs ls (rr (by decide)) (trivial) hw (lv_sub hl [0, 1, 2, 3] rfl)
        · refine j_aload_n E 27 rfl dX3_readConditions_26 rfl (lv_at hl 0 rfl) ?_
          refine g_84 E hK hw fl_X3_30 t_o (y84_c9 o) rfl 30 rfl dX3_readConditions_27 (fun _ => ?_)
          refine j_sipush E 33 rfl dX3_readConditions_30 (by decide) ?_
          refine j_icmp_ne E 36 111 rfl rr7_ (rr (by decide)) dX3_readConditions_33 (by decide) (fun cc27_ => ?_) (fun cc27_ => ?_)
          · refine j_iload_n E 112 rfl dX3_readConditions_111 rfl (lv_at hl 2 rfl) ?_
            refine j_if_eq E 115 122 rfl r_l2_9 dX3_readConditions_112 (by decide) (fun cc28_ => ?_) (fun cc28_ => ?_)
            · exact hret 122 (upV (upV (upV (upV v_0 80 y80_c9) 83 y83_c9) 84 y84_c9) 86 y86_c9) _ _ ls hw ⟨y80_c9, y83_c9, y84_c9, y86_c9, rfl, by first | omega | (simp only [upB_same]; omega)⟩ dX3_readConditions_122
            · refine j_aload_n E 116 rfl dX3_readConditions_115 rfl (lv_at hl 0 rfl) ?_
              refine j_sipush E 119 rfl dX3_readConditions_116 (by decide) ?_
              refine kV_v E (c_X3_emit l D cy T (upV (upV (upV (upV v_0 80 y80_c9) 83 y83_c9) 84 y84_c9) 86 y86_c9) o ((-304))  t_o (rr (by decide)) (show 0 ≤ (y86_c9 o) ∧ (y86_c9 o) ≤ 400 from by omega)) mt_X3_emit ml_X3_60 hK hw (cw_rc4 hK hw.1 t_o) hA ⟨Nat.le_of_ble_eq_true rfl, Nat.le_of_ble_eq_true rfl⟩ ⟨Nat.le_of_ble_eq_true rfl, Nat.le_of_ble_eq_true rfl⟩ (As := [.int (J ((-304)))]) (rest := []) rfl rfl hl.1 (Nat.le_of_ble_eq_true rfl) 122 rfl dX3_readConditions_119 (fun v_29 H locs hq29_ hw => ?_)
              obtain ⟨y86_29, ev29_, hh29_⟩ := hq29_
              rw [ev29_] at hw; clear ev29_
              have hw : WK D cy T (upV (upV (upV (upV v_0 80 y80_c9) 83 y83_c9) 84 y84_c9) 86 y86_29) A0 s.heap H locs := cw_eq hw (by first | rfl | (funext j_; simp only [upV, reduceIte]; (repeat' split) <;> first | rfl | omega | (subst_vars; rfl)))
              have hh29_ : 0 ≤ (y86_29 o) ∧ (y86_29 o) ≤ 400 := hh29_
              exact hret 122 (upV (upV (upV (upV v_0 80 y80_c9) 83 y83_c9) 84 y84_c9) 86 y86_29) _ _ ls hw ⟨y80_c9, y83_c9, y84_c9, y86_29, rfl, by first | omega | (simp only [upB_same]; omega)⟩ dX3_readConditions_122
          · have L51_30 : ∀ (s0_51 : Int) (H : Heap) (locs : List Loc) (ls : Array Slot), inR s0_51 → (True) → WK D cy T (upV (upV (upV (upV v_0 80 y80_c9) 83 y83_c9) 84 y84_c9) 86 y86_c9) A0 s.heap H locs → lv_has ls 5 [(0, .ref o), (1, .int (J 4)), (2, .int (J l2_9)), (3, .int (J l3_9))] → W p l e (rmd 14 0 0) s m ar below meth c H locs 0 0 QW (F0 m 51 ls [.int (J s0_51)]) := by
              intro s0_51 H locs ls r_s0_51 iv51 hw hl
              refine j_istore E 53 rfl [(4, .int (J s0_51)), (0, .ref o), (1, .int (J 4)), (2, .int (J l2_9)), (3, .int (J l3_9))] dX3_readConditions_51 hl (by decide) rfl (fun ls hl => ?_)
              have L69_32 : ∀ (y86_c69 : Nat → Int) (H : Heap) (locs : List Loc) (ls : Array Slot), (0 ≤ (y86_c69 o) ∧ (y86_c69 o) ≤ 400) → WK D cy T (upV (upV (upV (upV v_0 80 y80_c9) 83 y83_c9) 84 y84_c9) 86 y86_c69) A0 s.heap H locs → lv_has ls 5 [(0, .ref o), (1, .int (J 4)), (2, .int (J l2_9)), (3, .int (J l3_9)), (4, .int (J s0_51))] → W p l e (rmd 14 0 0) s m ar below meth c H locs 0 0 QW (F0 m 69 ls []) := by
                intro y86_c69 H locs ls iv69 hw hl
                refine j_aload_n E 70 rfl dX3_readConditions_69 rfl (lv_at hl 0 rfl) ?_
                refine zV_v E (c_X3_step l D cy T (upV (upV (upV (upV v_0 80 y80_c9) 83 y83_c9) 84 y84_c9) 86 y86_c69) κ o  hO t_o  ) mt_X3_step ml_X3_54 hK hZ hAc hw (cw_rc4 hK hw.1 t_o) hA ⟨Nat.le_of_ble_eq_true rfl, Nat.le_of_ble_eq_true rfl⟩ ⟨Nat.le_of_ble_eq_true rfl, Nat.le_of_ble_eq_true rfl⟩ (As := []) (rest := []) rfl rfl hl.1 (Nat.le_of_ble_eq_true rfl) 73 rfl dX3_readConditions_70 (fun v_34 H locs hq34_ hw => ?_)
                obtain ⟨y83_34, y84_34, ev34_, hh34_⟩ := hq34_
                rw [ev34_] at hw; clear ev34_
                have hw : WK D cy T (upV (upV (upV (upV v_0 80 y80_c9) 83 y83_34) 84 y84_34) 86 y86_c69) A0 s.heap H locs := cw_eq hw (by first | rfl | (funext j_; simp only [upV, reduceIte]; (repeat' split) <;> first | rfl | omega | (subst_vars; rfl)))
                refine j_aload_n E 74 rfl dX3_readConditions_73 rfl (lv_at hl 0 rfl) ?_
                refine j_iload_n E 75 rfl dX3_readConditions_74 rfl (lv_at hl 1 rfl) ?_
                refine zV_v E (c_X3_readCondition_n4 l D cy T (upV (upV (upV (upV v_0 80 y80_c9) 83 y83_34) 84 y84_34) 86 y86_c69) κ o  hO t_o  (show 0 ≤ (y86_c69 o) ∧ (y86_c69 o) ≤ 400 from by omega)) mt_X3_readCondition ml_X3_85 hK hZ hAc hw (cw_rc4 hK hw.1 t_o) hA ⟨Nat.le_of_ble_eq_true rfl, Nat.le_of_ble_eq_true rfl⟩ ⟨Nat.le_of_ble_eq_true rfl, Nat.le_of_ble_eq_true rfl⟩ (As := [.int (J 4)]) (rest := []) rfl rfl hl.1 (Nat.le_of_ble_eq_true rfl) 78 rfl dX3_readConditions_75 (fun v_35 H locs hq35_ hw => ?_)
                obtain ⟨y80_35, y83_35, y84_35, y86_35, ev35_, hh35_⟩ := hq35_
                rw [ev35_] at hw; clear ev35_
                have hw : WK D cy T (upV (upV (upV (upV v_0 80 y80_35) 83 y83_35) 84 y84_35) 86 y86_35) A0 s.heap H locs := cw_eq hw (by first | rfl | (funext j_; simp only [upV, reduceIte]; (repeat' split) <;> first | rfl | omega | (subst_vars; rfl)))
                have hh35_ : 0 ≤ (y86_35 o) ∧ (y86_35 o) ≤ 400 := hh35_
                have L90_36 : ∀ (y86_c90 : Nat → Int) (H : Heap) (locs : List Loc) (ls : Array Slot), (0 ≤ (y86_c90 o) ∧ (y86_c90 o) ≤ 400) → WK D cy T (upV (upV (upV (upV v_0 80 y80_35) 83 y83_35) 84 y84_35) 86 y86_c90) A0 s.heap H locs → lv_has ls 5 [(0, .ref o), (1, .int (J 4)), (2, .int (J l2_9)), (3, .int (J l3_9)), (4, .int (J s0_51))] → W p l e (rmd 14 0 0) s m ar below meth c H locs 0 0 QW (F0 m 90 ls []) := by
                  intro y86_c90 H locs ls iv90 hw hl
                  have L104_38 : ∀ (s0_104 : Int) (H : Heap) (locs : List Loc) (ls : Array Slot), inR s0_104 → (True) → WK D cy T (upV (upV (upV (upV v_0 80 y80_35) 83 y83_35) 84 y84_35) 86 y86_c90) A0 s.heap H locs → lv_has ls 5 [(0, .ref o), (1, .int (J 4)), (2, .int (J l2_9)), (3, .int (J l3_9)), (4, .int (J s0_51))] → W p l e (rmd 14 0 0) s m ar below meth c H locs 0 0 QW (F0 m 104 ls [.int (J s0_104)]) := by
                    intro s0_104 H locs ls r_s0_104 iv104 hw hl
                    refine j_istore_n E 105 rfl [(2, .int (J s0_104)), (0, .ref o), (1, .int (J 4)), (3, .int (J l3_9)), (4, .int (J s0_51))] dX3_readConditions_104 rfl hl (by decide) rfl (fun ls hl => ?_)
                    refine j_iinc E 108 rfl [(3, .int (J (l3_9 + 1))), (2, .int (J s0_104)), (0, .ref o), (1, .int (J 4)), (4, .int (J s0_51))] dX3_readConditions_105 hl (kk := 3) rfl (by decide) rfl (fun ls hl => ?_)
                    refine j_goto E 9 dX3_readConditions_108 (by decide) ?_
                    exact ih9 s0_104 (l3_9 + 1) y80_35 y83_35 y84_35 y86_c90 H locs ls r_s0_104 (rr (by omega)) (by first | omega | (simp only [upB_same]; omega)) (by omega) hw (lv_sub hl [2, 3, 1, 0] rfl)
                  refine j_iload_n E 91 rfl dX3_readConditions_90 rfl (lv_at hl 2 rfl) ?_
                  refine j_if_ne E 94 99 rfl r_l2_9 dX3_readConditions_91 (by decide) (fun cc40_ => ?_) (fun cc40_ => ?_)
                  · refine j_iconst E 100 rfl dX3_readConditions_99 ?_
                    refine j_goto E 104 dX3_readConditions_100 (by decide) ?_
                    exact L104_38 1  H locs ls (rr (by decide)) (trivial) hw (lv_sub hl [0, 1, 2, 3, 4] rfl)
                  · refine j_iload E 96 rfl dX3_readConditions_94 (lv_at hl 4 rfl) ?_
                    refine j_if_ne E 99 103 rfl r_s0_51 dX3_readConditions_96 (by decide) (fun cc41_ => ?_) (fun cc41_ => ?_)
                    · refine j_iconst E 104 rfl dX3_readConditions_103 ?_
                      exact L104_38 0  H locs ls (rr (by decide)) (trivial) hw (lv_sub hl [0, 1, 2, 3, 4] rfl)
                    · refine j_iconst E 100 rfl dX3_readConditions_99 ?_
                      refine j_goto E 104 dX3_readConditions_100 (by decide) ?_
                      exact L104_38 1  H locs ls (rr (by decide)) (trivial) hw (lv_sub hl [0, 1, 2, 3, 4] rfl)
                refine j_iload E 80 rfl dX3_readConditions_78 (lv_at hl 4 rfl) ?_
                refine j_if_eq E 83 90 rfl r_s0_51 dX3_readConditions_80 (by decide) (fun cc42_ => ?_) (fun cc42_ => ?_)
                · exact L90_36  y86_35 H locs ls  (by first | omega | (simp only [upB_same]; omega)) hw (lv_sub hl [0, 1, 2, 3, 4] rfl)
                · refine j_aload_n E 84 rfl dX3_readConditions_83 rfl (lv_at hl 0 rfl) ?_
                  refine j_sipush E 87 rfl dX3_readConditions_84 (by decide) ?_
                  refine kV_v E (c_X3_emit l D cy T (upV (upV (upV (upV v_0 80 y80_35) 83 y83_35) 84 y84_35) 86 y86_35) o ((-305))  t_o (rr (by decide)) (show 0 ≤ (y86_35 o) ∧ (y86_35 o) ≤ 400 from by omega)) mt_X3_emit ml_X3_60 hK hw (cw_rc4 hK hw.1 t_o) hA ⟨Nat.le_of_ble_eq_true rfl, Nat.le_of_ble_eq_true rfl⟩ ⟨Nat.le_of_ble_eq_true rfl, Nat.le_of_ble_eq_true rfl⟩ (As := [.int (J ((-305)))]) (rest := []) rfl rfl hl.1 (Nat.le_of_ble_eq_true rfl) 90 rfl dX3_readConditions_87 (fun v_43 H locs hq43_ hw => ?_)
                  obtain ⟨y86_43, ev43_, hh43_⟩ := hq43_
                  rw [ev43_] at hw; clear ev43_
                  have hw : WK D cy T (upV (upV (upV (upV v_0 80 y80_35) 83 y83_35) 84 y84_35) 86 y86_43) A0 s.heap H locs := cw_eq hw (by first | rfl | (funext j_; simp only [upV, reduceIte]; (repeat' split) <;> first | rfl | omega | (subst_vars; rfl)))
                  have hh43_ : 0 ≤ (y86_43 o) ∧ (y86_43 o) ≤ 400 := hh43_
                  exact L90_36  y86_43 H locs ls  (by first | omega | (simp only [upB_same]; omega)) hw (lv_sub hl [0, 1, 2, 3, 4] rfl)
              refine j_iload E 55 rfl dX3_readConditions_53 (lv_at hl 0 rfl) ?_
              refine j_if_ne E 58 69 rfl r_s0_51 dX3_readConditions_55 (by decide) (fun cc44_ => ?_) (fun cc44_ => ?_)
              · exact L69_32  y86_c9 H locs ls  (by first | omega | (simp only [upB_same]; omega)) hw (lv_sub hl [1, 2, 3, 4, 0] rfl)
              · refine j_iload_n E 59 rfl dX3_readConditions_58 rfl (lv_at hl 3 rfl) ?_
                refine j_if_eq E 62 69 rfl r_l2_9 dX3_readConditions_59 (by decide) (fun cc45_ => ?_) (fun cc45_ => ?_)
                · exact L69_32  y86_c9 H locs ls  (by first | omega | (simp only [upB_same]; omega)) hw (lv_sub hl [1, 2, 3, 4, 0] rfl)
                · refine j_aload_n E 63 rfl dX3_readConditions_62 rfl (lv_at hl 1 rfl) ?_
                  refine j_sipush E 66 rfl dX3_readConditions_63 (by decide) ?_
                  refine kV_v E (c_X3_emit l D cy T (upV (upV (upV (upV v_0 80 y80_c9) 83 y83_c9) 84 y84_c9) 86 y86_c9) o ((-304))  t_o (rr (by decide)) (show 0 ≤ (y86_c9 o) ∧ (y86_c9 o) ≤ 400 from by omega)) mt_X3_emit ml_X3_60 hK hw (cw_rc4 hK hw.1 t_o) hA ⟨Nat.le_of_ble_eq_true rfl, Nat.le_of_ble_eq_true rfl⟩ ⟨Nat.le_of_ble_eq_true rfl, Nat.le_of_ble_eq_true rfl⟩ (As := [.int (J ((-304)))]) (rest := []) rfl rfl hl.1 (Nat.le_of_ble_eq_true rfl) 69 rfl dX3_readConditions_66 (fun v_46 H locs hq46_ hw => ?_)
                  obtain ⟨y86_46, ev46_, hh46_⟩ := hq46_
                  rw [ev46_] at hw; clear ev46_
                  have hw : WK D cy T (upV (upV (upV (upV v_0 80 y80_c9) 83 y83_c9) 84 y84_c9) 86 y86_46) A0 s.heap H locs := cw_eq hw (by first | rfl | (funext j_; simp only [upV, reduceIte]; (repeat' split) <;> first | rfl | omega | (subst_vars; rfl)))
                  have hh46_ : 0 ≤ (y86_46 o) ∧ (y86_46 o) ≤ 400 := hh46_
                  exact L69_32  y86_46 H locs ls  (by first | omega | (simp only [upB_same]; omega)) hw (lv_sub hl [1, 2, 3, 4, 0] rfl)
            refine j_aload_n E 37 rfl dX3_readConditions_36 rfl (lv_at hl 0 rfl) ?_
            refine g_84 E hK hw fl_X3_30 t_o (y84_c9 o) rfl 40 rfl dX3_readConditions_37 (fun _ => ?_)
            refine j_sipush E 43 rfl dX3_readConditions_40 (by decide) ?_
            refine j_icmp_ne E 46 50 rfl rr7_ (rr (by decide)) dX3_readConditions_43 (by decide) (fun cc47_ => ?_) (fun cc47_ => ?_)
            rotate_left; · exfalso; omega
            refine j_iconst E 51 rfl dX3_readConditions_50 ?_
            exact L51_30 0  H locs ls (rr (by decide)) (trivial) hw (lv_sub hl [0, 1, 2, 3] rfl)
  exact L9_2 _ 0 0 y80_1 y83_1 y84_1 y86_1 H locs ls (rr (by decide)) (rr (by decide)) (by first | omega | (simp only [upB_same]; omega)) (Nat.lt_succ_self _) hw (lv_sub hl [2, 3, 1, 0] rfl)
set_option maxHeartbeats 4000000 in
set_option maxRecDepth 100000 in
theorem c_X3_readCondition_n3 (l : Launch) (D : va_G) (cy : Nat → ClassId) (T : Nat → Nat → Nat) (v_0 : Nat → Nat → Int) (κ : Nat → Nat → Nat) (o : Nat) (hO : ∀ x, ow T x → κ 2 2 ≤ x) (t_o : T 0 o = 4) (hp0 : 0 ≤ (v_0 86 o) ∧ (v_0 86 o) ≤ 400) : KZ l D cy κ T yX3_readCondition cX3_readCondition 4 none 15 [.ref o, .int (J 3)] v_0 (KV (fun (v_2 : Nat → Nat → Int) => ∃ (y80_2 : Nat → Int) (y83_2 : Nat → Int) (y84_2 : Nat → Int) (y86_2 : Nat → Int) , v_2 = upV (upV (upV (upV v_0 80 y80_2) 83 y83_2) 84 y84_2) 86 y86_2 ∧ (0 ≤ (y86_2 o) ∧ (y86_2 o) ≤ 400))) := by
  refine KZ.ofv (by decide) (Nat.le_of_ble_eq_true rfl) hO ?_
  intro p e s m below meth c ls ar QW A0 H locs E hK hZ hA hAc hw hl hret
  have hl : lv_has ls 4 [(0, .ref o), (1, .int (J 3))] := hl
  have hT : WT T := hw.1.2.1
  refine j_aload_n E 1 rfl dX3_readCondition_0 rfl (lv_at hl 0 rfl) ?_
  refine g_84 E hK hw fl_X3_30 t_o (v_0 84 o) rfl 4 rfl dX3_readCondition_1 (fun rr1_ => ?_)
  refine j_bipush E 6 rfl dX3_readCondition_4 (by decide) ?_
  refine j_icmp_eq E 9 19 rfl rr1_ (rr (by decide)) dX3_readCondition_6 (by decide) (fun cc2_ => ?_) (fun cc2_ => ?_)
  · refine j_iconst E 20 rfl dX3_readCondition_19 ?_
    refine j_goto E 24 dX3_readCondition_20 (by decide) ?_
    refine j_istore_n E 25 rfl [(2, .int (J 1)), (0, .ref o), (1, .int (J 3))] dX3_readCondition_24 rfl hl (by decide) rfl (fun ls hl => ?_)
    refine j_iload_n E 26 rfl dX3_readCondition_25 rfl (lv_at hl 0 rfl) ?_
    refine j_if_eq E 29 43 rfl (rr (by decide)) dX3_readCondition_26 (by decide) (fun cc3_ => absurd cc3_ (by decide)) (fun _ => ?_)
    refine j_iload_n E 30 rfl dX3_readCondition_29 rfl (lv_at hl 2 rfl) ?_
    refine j_bipush E 32 rfl dX3_readCondition_30 (by decide) ?_
    refine j_icmp_lt E 35 43 rfl (rr (by decide)) (rr (by decide)) dX3_readCondition_32 (by decide) (fun _ => ?_) (fun cc4_ => absurd cc4_ (by decide))
    refine j_aload_n E 44 rfl dX3_readCondition_43 rfl (lv_at hl 1 rfl) ?_
    refine g_84 E hK hw fl_X3_30 t_o (v_0 84 o) rfl 47 rfl dX3_readCondition_44 (fun _ => ?_)
    refine j_bipush E 49 rfl dX3_readCondition_47 (by decide) ?_
    refine j_icmp_ne E 52 72 rfl rr1_ (rr (by decide)) dX3_readCondition_49 (by decide) (fun cc5_ => ?_) (fun cc5_ => ?_)
    · exfalso; omega
    refine j_aload_n E 53 rfl dX3_readCondition_52 rfl (lv_at hl 1 rfl) ?_
    refine zV_v E (c_X3_step l D cy T (v_0) κ o  hO t_o  ) mt_X3_step ml_X3_54 hK hZ hAc hw (cw_rc4 hK hw.1 t_o) hA ⟨Nat.le_of_ble_eq_true rfl, Nat.le_of_ble_eq_true rfl⟩ ⟨Nat.le_of_ble_eq_true rfl, Nat.le_of_ble_eq_true rfl⟩ (As := []) (rest := []) rfl rfl hl.1 (Nat.le_of_ble_eq_true rfl) 56 rfl dX3_readCondition_53 (fun v_6 H locs hq6_ hw => ?_)
    obtain ⟨y83_6, y84_6, ev6_, hh6_⟩ := hq6_
    rw [ev6_] at hw; clear ev6_
    have hw : WK D cy T (upV (upV v_0 83 y83_6) 84 y84_6) A0 s.heap H locs := cw_eq hw (by first | rfl | (funext j_; simp only [upV, reduceIte]; (repeat' split) <;> first | rfl | omega | (subst_vars; rfl)))
    refine j_aload_n E 57 rfl dX3_readCondition_56 rfl (lv_at hl 1 rfl) ?_
    refine j_iload_n E 58 rfl dX3_readCondition_57 rfl (lv_at hl 2 rfl) ?_
    refine j_iconst E 59 rfl dX3_readCondition_58 ?_
    refine j_iadd E 60 rfl dX3_readCondition_59 ?_
    refine j_lit (z := 4) (by decide) ?_
    refine zV_v E (c_X3_readConditions_n4 l D cy T (upV (upV v_0 83 y83_6) 84 y84_6) κ o  hO t_o  (show 0 ≤ ((v_0 86) o) ∧ ((v_0 86) o) ≤ 400 from by omega)) mt_X3_readConditions ml_X3_57 hK hZ hAc hw (cw_rc4 hK hw.1 t_o) hA ⟨Nat.le_of_ble_eq_true rfl, Nat.le_of_ble_eq_true rfl⟩ ⟨Nat.le_of_ble_eq_true rfl, Nat.le_of_ble_eq_true rfl⟩ (As := [.int (J 4)]) (rest := []) rfl rfl hl.1 (Nat.le_of_ble_eq_true rfl) 63 rfl dX3_readCondition_60 (fun v_7 H locs hq7_ hw => ?_)
    obtain ⟨y80_7, y83_7, y84_7, y86_7, ev7_, hh7_⟩ := hq7_
    rw [ev7_] at hw; clear ev7_
    have hw : WK D cy T (upV (upV (upV (upV v_0 80 y80_7) 83 y83_7) 84 y84_7) 86 y86_7) A0 s.heap H locs := cw_eq hw (by first | rfl | (funext j_; simp only [upV, reduceIte]; (repeat' split) <;> first | rfl | omega | (subst_vars; rfl)))
    have hh7_ : 0 ≤ (y86_7 o) ∧ (y86_7 o) ≤ 400 := hh7_
    refine j_aload_n E 64 rfl dX3_readCondition_63 rfl (lv_at hl 1 rfl) ?_
    refine j_bipush E 66 rfl dX3_readCondition_64 (by decide) ?_
    refine zV_v E (c_X3_take l D cy T (upV (upV (upV (upV v_0 80 y80_7) 83 y83_7) 84 y84_7) 86 y86_7) κ o 41  hO t_o (rr (by decide)) ) mt_X3_take ml_X3_47 hK hZ hAc hw (cw_rc4 hK hw.1 t_o) hA ⟨Nat.le_of_ble_eq_true rfl, Nat.le_of_ble_eq_true rfl⟩ ⟨Nat.le_of_ble_eq_true rfl, Nat.le_of_ble_eq_true rfl⟩ (As := [.int (J 41)]) (rest := []) rfl rfl hl.1 (Nat.le_of_ble_eq_true rfl) 69 rfl dX3_readCondition_66 (fun v_8 H locs hq8_ hw => ?_)
    obtain ⟨y80_8, y83_8, y84_8, ev8_, hh8_⟩ := hq8_
    rw [ev8_] at hw; clear ev8_
    have hw : WK D cy T (upV (upV (upV (upV v_0 80 y80_8) 83 y83_8) 84 y84_8) 86 y86_7) A0 s.heap H locs := cw_eq hw (by first | rfl | (funext j_; simp only [upV, reduceIte]; (repeat' split) <;> first | rfl | omega | (subst_vars; rfl)))
    refine j_goto E 126 dX3_readCondition_69 (by decide) ?_
    exact hret 126 (upV (upV (upV (upV v_0 80 y80_8) 83 y83_8) 84 y84_8) 86 y86_7) _ _ ls hw ⟨y80_8, y83_8, y84_8, y86_7, rfl, by first | omega | (simp only [upB_same]; omega)⟩ dX3_readCondition_126
  · refine j_aload_n E 10 rfl dX3_readCondition_9 rfl (lv_at hl 0 rfl) ?_
    refine g_84 E hK hw fl_X3_30 t_o (v_0 84 o) rfl 13 rfl dX3_readCondition_10 (fun _ => ?_)
    refine j_sipush E 16 rfl dX3_readCondition_13 (by decide) ?_
    refine j_icmp_ne E 19 23 rfl rr1_ (rr (by decide)) dX3_readCondition_16 (by decide) (fun cc9_ => ?_) (fun cc9_ => ?_)
    · refine j_iconst E 24 rfl dX3_readCondition_23 ?_
      refine j_istore_n E 25 rfl [(2, .int (J 0)), (0, .ref o), (1, .int (J 3))] dX3_readCondition_24 rfl hl (by decide) rfl (fun ls hl => ?_)
      refine j_iload_n E 26 rfl dX3_readCondition_25 rfl (lv_at hl 0 rfl) ?_
      refine j_if_eq E 29 43 rfl (rr (by decide)) dX3_readCondition_26 (by decide) (fun _ => ?_) (fun cc10_ => absurd cc10_ (by decide))
      refine j_aload_n E 44 rfl dX3_readCondition_43 rfl (lv_at hl 1 rfl) ?_
      refine g_84 E hK hw fl_X3_30 t_o (v_0 84 o) rfl 47 rfl dX3_readCondition_44 (fun _ => ?_)
      refine j_bipush E 49 rfl dX3_readCondition_47 (by decide) ?_
      refine j_icmp_ne E 52 72 rfl rr1_ (rr (by decide)) dX3_readCondition_49 (by decide) (fun cc11_ => ?_) (fun cc11_ => ?_)
      rotate_left; · exfalso; omega
      refine j_aload_n E 73 rfl dX3_readCondition_72 rfl (lv_at hl 1 rfl) ?_
      refine g_84 E hK hw fl_X3_30 t_o (v_0 84 o) rfl 76 rfl dX3_readCondition_73 (fun _ => ?_)
      refine j_sipush E 79 rfl dX3_readCondition_76 (by decide) ?_
      refine j_icmp_ne E 82 103 rfl rr1_ (rr (by decide)) dX3_readCondition_79 (by decide) (fun cc12_ => ?_) (fun cc12_ => ?_)
      rotate_left; · exfalso; omega
      refine j_aload_n E 104 rfl dX3_readCondition_103 rfl (lv_at hl 1 rfl) ?_
      refine zV_v E (c_X3_readSum l D cy T (v_0) κ o  hO t_o  (show 0 ≤ ((v_0 86) o) ∧ ((v_0 86) o) ≤ 400 from by omega)) mt_X3_readSum ml_X3_51 hK hZ hAc hw (cw_rc4 hK hw.1 t_o) hA ⟨Nat.le_of_ble_eq_true rfl, Nat.le_of_ble_eq_true rfl⟩ ⟨Nat.le_of_ble_eq_true rfl, Nat.le_of_ble_eq_true rfl⟩ (As := []) (rest := []) rfl rfl hl.1 (Nat.le_of_ble_eq_true rfl) 107 rfl dX3_readCondition_104 (fun v_13 H locs hq13_ hw => ?_)
      obtain ⟨y80_13, y83_13, y84_13, y86_13, ev13_, hh13_⟩ := hq13_
      rw [ev13_] at hw; clear ev13_
      have hw : WK D cy T (upV (upV (upV (upV v_0 80 y80_13) 83 y83_13) 84 y84_13) 86 y86_13) A0 s.heap H locs := cw_eq hw (by first | rfl | (funext j_; simp only [upV, reduceIte]; (repeat' split) <;> first | rfl | omega | (subst_vars; rfl)))
      have hh13_ : 0 ≤ (y86_13 o) ∧ (y86_13 o) ≤ 400 := hh13_
      refine j_aload_n E 108 rfl dX3_readCondition_107 rfl (lv_at hl 1 rfl) ?_
      refine g_84 E hK hw fl_X3_30 t_o (y84_13 o) rfl 111 rfl dX3_readCondition_108 (fun rr14_ => ?_)
      refine j_istore_n E 112 rfl [(3, .int (J (y84_13 o))), (2, .int (J 0)), (0, .ref o), (1, .int (J 3))] dX3_readCondition_111 rfl hl (by decide) rfl (fun ls hl => ?_)
      refine j_aload_n E 113 rfl dX3_readCondition_112 rfl (lv_at hl 2 rfl) ?_
      refine zV_v E (c_X3_takeComparison l D cy T (upV (upV (upV (upV v_0 80 y80_13) 83 y83_13) 84 y84_13) 86 y86_13) κ o  hO t_o  ) mt_X3_takeComparison ml_X3_88 hK hZ hAc hw (cw_rc4 hK hw.1 t_o) hA ⟨Nat.le_of_ble_eq_true rfl, Nat.le_of_ble_eq_true rfl⟩ ⟨Nat.le_of_ble_eq_true rfl, Nat.le_of_ble_eq_true rfl⟩ (As := []) (rest := []) rfl rfl hl.1 (Nat.le_of_ble_eq_true rfl) 116 rfl dX3_readCondition_113 (fun v_15 H locs hq15_ hw => ?_)
      obtain ⟨y80_15, y83_15, y84_15, ev15_, hh15_⟩ := hq15_
      rw [ev15_] at hw; clear ev15_
      have hw : WK D cy T (upV (upV (upV (upV v_0 80 y80_15) 83 y83_15) 84 y84_15) 86 y86_13) A0 s.heap H locs := cw_eq hw (by first | rfl | (funext j_; simp only [upV, reduceIte]; (repeat' split) <;> first | rfl | omega | (subst_vars; rfl)))
      refine j_aload_n E 117 rfl dX3_readCondition_116 rfl (lv_at hl 2 rfl) ?_
      refine zV_v E (c_X3_readSum l D cy T (upV (upV (upV (upV v_0 80 y80_15) 83 y83_15) 84 y84_15) 86 y86_13) κ o  hO t_o  (show 0 ≤ (y86_13 o) ∧ (y86_13 o) ≤ 400 from by omega)) mt_X3_readSum ml_X3_51 hK hZ hAc hw (cw_rc4 hK hw.1 t_o) hA ⟨Nat.le_of_ble_eq_true rfl, Nat.le_of_ble_eq_true rfl⟩ ⟨Nat.le_of_ble_eq_true rfl, Nat.le_of_ble_eq_true rfl⟩ (As := []) (rest := []) rfl rfl hl.1 (Nat.le_of_ble_eq_true rfl) 120 rfl dX3_readCondition_117 (fun v_16 H locs hq16_ hw => ?_)
      obtain ⟨y80_16, y83_16, y84_16, y86_16, ev16_, hh16_⟩ := hq16_
      rw [ev16_] at hw; clear ev16_
      have hw : WK D cy T (upV (upV (upV (upV v_0 80 y80_16) 83 y83_16) 84 y84_16) 86 y86_16) A0 s.heap H locs := cw_eq hw (by first | rfl | (funext j_; simp only [upV, reduceIte]; (repeat' split) <;> first | rfl | omega | (subst_vars; rfl)))
      have hh16_ : 0 ≤ (y86_16 o) ∧ (y86_16 o) ≤ 400 := hh16_
      refine j_aload_n E 121 rfl dX3_readCondition_120 rfl (lv_at hl 2 rfl) ?_
      refine j_iload_n E 122 rfl dX3_readCondition_121 rfl (lv_at hl 0 rfl) ?_
      refine j_ineg E 123 rfl dX3_readCondition_122 ?_
      refine j_norm (fun zz17_ rr17_ ee17_ => ?_)
      refine kV_v E (c_X3_emit l D cy T (upV (upV (upV (upV v_0 80 y80_16) 83 y83_16) 84 y84_16) 86 y86_16) o zz17_  t_o rr17_ (show 0 ≤ (y86_16 o) ∧ (y86_16 o) ≤ 400 from by omega)) mt_X3_emit ml_X3_60 hK hw (cw_rc4 hK hw.1 t_o) hA ⟨Nat.le_of_ble_eq_true rfl, Nat.le_of_ble_eq_true rfl⟩ ⟨Nat.le_of_ble_eq_true rfl, Nat.le_of_ble_eq_true rfl⟩ (As := [.int (J zz17_)]) (rest := []) rfl rfl hl.1 (Nat.le_of_ble_eq_true rfl) 126 rfl dX3_readCondition_123 (fun v_18 H locs hq18_ hw => ?_)
      obtain ⟨y86_18, ev18_, hh18_⟩ := hq18_
      rw [ev18_] at hw; clear ev18_
      have hw : WK D cy T (upV (upV (upV (upV v_0 80 y80_16) 83 y83_16) 84 y84_16) 86 y86_18) A0 s.heap H locs := cw_eq hw (by first | rfl | (funext j_; simp only [upV, reduceIte]; (repeat' split) <;> first | rfl | omega | (subst_vars; rfl)))
      have hh18_ : 0 ≤ (y86_18 o) ∧ (y86_18 o) ≤ 400 := hh18_
      exact hret 126 (upV (upV (upV (upV v_0 80 y80_16) 83 y83_16) 84 y84_16) 86 y86_18) _ _ ls hw ⟨y80_16, y83_16, y84_16, y86_18, rfl, by first | omega | (simp only [upB_same]; omega)⟩ dX3_readCondition_126
    · refine j_iconst E 20 rfl dX3_readCondition_19 ?_
      refine j_goto E 24 dX3_readCondition_20 (by decide) ?_
      refine j_istore_n E 25 rfl [(2, .int (J 1)), (0, .ref o), (1, .int (J 3))] dX3_readCondition_24 rfl hl (by decide) rfl (fun ls hl => ?_)
      refine j_iload_n E 26 rfl dX3_readCondition_25 rfl (lv_at hl 0 rfl) ?_
      refine j_if_eq E 29 43 rfl (rr (by decide)) dX3_readCondition_26 (by decide) (fun cc19_ => absurd cc19_ (by decide)) (fun _ => ?_)
      refine j_iload_n E 30 rfl dX3_readCondition_29 rfl (lv_at hl 2 rfl) ?_
      refine j_bipush E 32 rfl dX3_readCondition_30 (by decide) ?_
      refine j_icmp_lt E 35 43 rfl (rr (by decide)) (rr (by decide)) dX3_readCondition_32 (by decide) (fun _ => ?_) (fun cc20_ => absurd cc20_ (by decide))
      refine j_aload_n E 44 rfl dX3_readCondition_43 rfl (lv_at hl 1 rfl) ?_
      refine g_84 E hK hw fl_X3_30 t_o (v_0 84 o) rfl 47 rfl dX3_readCondition_44 (fun _ => ?_)
      refine j_bipush E 49 rfl dX3_readCondition_47 (by decide) ?_
      refine j_icmp_ne E 52 72 rfl rr1_ (rr (by decide)) dX3_readCondition_49 (by decide) (fun cc21_ => ?_) (fun cc21_ => ?_)
      rotate_left; · exfalso; omega
      refine j_aload_n E 73 rfl dX3_readCondition_72 rfl (lv_at hl 1 rfl) ?_
      refine g_84 E hK hw fl_X3_30 t_o (v_0 84 o) rfl 76 rfl dX3_readCondition_73 (fun _ => ?_)
      refine j_sipush E 79 rfl dX3_readCondition_76 (by decide) ?_
      refine j_icmp_ne E 82 103 rfl rr1_ (rr (by decide)) dX3_readCondition_79 (by decide) (fun cc22_ => ?_) (fun cc22_ => ?_)
      · exfalso; omega
      refine j_aload_n E 83 rfl dX3_readCondition_82 rfl (lv_at hl 1 rfl) ?_
      refine zV_v E (c_X3_step l D cy T (v_0) κ o  hO t_o  ) mt_X3_step ml_X3_54 hK hZ hAc hw (cw_rc4 hK hw.1 t_o) hA ⟨Nat.le_of_ble_eq_true rfl, Nat.le_of_ble_eq_true rfl⟩ ⟨Nat.le_of_ble_eq_true rfl, Nat.le_of_ble_eq_true rfl⟩ (As := []) (rest := []) rfl rfl hl.1 (Nat.le_of_ble_eq_true rfl) 86 rfl dX3_readCondition_83 (fun v_23 H locs hq23_ hw => ?_)
      obtain ⟨y83_23, y84_23, ev23_, hh23_⟩ := hq23_
      rw [ev23_] at hw; clear ev23_
      have hw : WK D cy T (upV (upV v_0 83 y83_23) 84 y84_23) A0 s.heap H locs := cw_eq hw (by first | rfl | (funext j_; simp only [upV, reduceIte]; (repeat' split) <;> first | rfl | omega | (subst_vars; rfl)))
      refine j_aload_n E 87 rfl dX3_readCondition_86 rfl (lv_at hl 1 rfl) ?_
      refine j_iload_n E 88 rfl dX3_readCondition_87 rfl (lv_at hl 2 rfl) ?_
      refine j_iconst E 89 rfl dX3_readCondition_88 ?_
      refine j_iadd E 90 rfl dX3_readCondition_89 ?_
      refine j_lit (z := 4) (by decide) ?_
      refine zV_v E (c_X3_readCondition_n4 l D cy T (upV (upV v_0 83 y83_23) 84 y84_23) κ o  hO t_o  (show 0 ≤ ((v_0 86) o) ∧ ((v_0 86) o) ≤ 400 from by omega)) mt_X3_readCondition ml_X3_85 hK hZ hAc hw (cw_rc4 hK hw.1 t_o) hA ⟨Nat.le_of_ble_eq_true rfl, Nat.le_of_ble_eq_true rfl⟩ ⟨Nat.le_of_ble_eq_true rfl, Nat.le_of_ble_eq_true rfl⟩ (As := [.int (J 4)]) (rest := []) rfl rfl hl.1 (Nat.le_of_ble_eq_true rfl) 93 rfl dX3_readCondition_90 (fun v_24 H locs hq24_ hw => ?_)
      obtain ⟨y80_24, y83_24, y84_24, y86_24, ev24_, hh24_⟩ := hq24_
      rw [ev24_] at hw; clear ev24_
      have hw : WK D cy T (upV (upV (upV (upV v_0 80 y80_24) 83 y83_24) 84 y84_24) 86 y86_24) A0 s.heap H locs := cw_eq hw (by first | rfl | (funext j_; simp only [upV, reduceIte]; (repeat' split) <;> first | rfl | omega | (subst_vars; rfl)))
      have hh24_ : 0 ≤ (y86_24 o) ∧ (y86_24 o) ≤ 400 := hh24_
      refine j_aload_n E 94 rfl dX3_readCondition_93 rfl (lv_at hl 1 rfl) ?_
      refine j_sipush E 97 rfl dX3_readCondition_94 (by decide) ?_
      refine kV_v E (c_X3_emit l D cy T (upV (upV (upV (upV v_0 80 y80_24) 83 y83_24) 84 y84_24) 86 y86_24) o ((-306))  t_o (rr (by decide)) (show 0 ≤ (y86_24 o) ∧ (y86_24 o) ≤ 400 from by omega)) mt_X3_emit ml_X3_60 hK hw (cw_rc4 hK hw.1 t_o) hA ⟨Nat.le_of_ble_eq_true rfl, Nat.le_of_ble_eq_true rfl⟩ ⟨Nat.le_of_ble_eq_true rfl, Nat.le_of_ble_eq_true rfl⟩ (As := [.int (J ((-306)))]) (rest := []) rfl rfl hl.1 (Nat.le_of_ble_eq_true rfl) 100 rfl dX3_readCondition_97 (fun v_25 H locs hq25_ hw => ?_)
      obtain ⟨y86_25, ev25_, hh25_⟩ := hq25_
      rw [ev25_] at hw; clear ev25_
      have hw : WK D cy T (upV (upV (upV (upV v_0 80 y80_24) 83 y83_24) 84 y84_24) 86 y86_25) A0 s.heap H locs := cw_eq hw (by first | rfl | (funext j_; simp only [upV, reduceIte]; (repeat' split) <;> first | rfl | omega | (subst_vars; rfl)))
      have hh25_ : 0 ≤ (y86_25 o) ∧ (y86_25 o) ≤ 400 := hh25_
      refine j_goto E 126 dX3_readCondition_100 (by decide) ?_
      exact hret 126 (upV (upV (upV (upV v_0 80 y80_24) 83 y83_24) 84 y84_24) 86 y86_25) _ _ ls hw ⟨y80_24, y83_24, y84_24, y86_25, rfl, by first | omega | (simp only [upB_same]; omega)⟩ dX3_readCondition_126
set_option maxHeartbeats 4000000 in
set_option maxRecDepth 100000 in
theorem c_X3_readConditions_n3 (l : Launch) (D : va_G) (cy : Nat → ClassId) (T : Nat → Nat → Nat) (v_0 : Nat → Nat → Int) (κ : Nat → Nat → Nat) (o : Nat) (hO : ∀ x, ow T x → κ 2 2 ≤ x) (t_o : T 0 o = 4) (hp0 : 0 ≤ (v_0 86 o) ∧ (v_0 86 o) ≤ 400) : KZ l D cy κ T yX3_readConditions cX3_readConditions 5 none 16 [.ref o, .int (J 3)] v_0 (KV (fun (v_2 : Nat → Nat → Int) => ∃ (y80_2 : Nat → Int) (y83_2 : Nat → Int) (y84_2 : Nat → Int) (y86_2 : Nat → Int) , v_2 = upV (upV (upV (upV v_0 80 y80_2) 83 y83_2) 84 y84_2) 86 y86_2 ∧ (0 ≤ (y86_2 o) ∧ (y86_2 o) ≤ 400))) := by
  refine KZ.ofv (by decide) (Nat.le_of_ble_eq_true rfl) hO ?_
  intro p e s m below meth c ls ar QW A0 H locs E hK hZ hA hAc hw hl hret
  have hl : lv_has ls 5 [(0, .ref o), (1, .int (J 3))] := hl
  have hT : WT T := hw.1.2.1
  refine j_aload_n E 1 rfl dX3_readConditions_0 rfl (lv_at hl 0 rfl) ?_
  refine j_iload_n E 2 rfl dX3_readConditions_1 rfl (lv_at hl 1 rfl) ?_
  refine zV_v E (c_X3_readCondition_n3 l D cy T (v_0) κ o  hO t_o  (show 0 ≤ ((v_0 86) o) ∧ ((v_0 86) o) ≤ 400 from by omega)) mt_X3_readCondition ml_X3_85 hK hZ hAc hw (cw_rc4 hK hw.1 t_o) hA ⟨Nat.le_of_ble_eq_true rfl, Nat.le_of_ble_eq_true rfl⟩ ⟨Nat.le_of_ble_eq_true rfl, Nat.le_of_ble_eq_true rfl⟩ (As := [.int (J 3)]) (rest := []) rfl rfl hl.1 (Nat.le_of_ble_eq_true rfl) 5 rfl dX3_readConditions_2 (fun v_1 H locs hq1_ hw => ?_)
  obtain ⟨y80_1, y83_1, y84_1, y86_1, ev1_, hh1_⟩ := hq1_
  rw [ev1_] at hw; clear ev1_
  have hw : WK D cy T (upV (upV (upV (upV v_0 80 y80_1) 83 y83_1) 84 y84_1) 86 y86_1) A0 s.heap H locs := cw_eq hw (by first | rfl | (funext j_; simp only [upV, reduceIte]; (repeat' split) <;> first | rfl | omega | (subst_vars; rfl)))
  have hh1_ : 0 ≤ (y86_1 o) ∧ (y86_1 o) ≤ 400 := hh1_
  refine j_iconst E 6 rfl dX3_readConditions_5 ?_
  refine j_istore_n E 7 rfl [(2, .int (J 0)), (0, .ref o), (1, .int (J 3))] dX3_readConditions_6 rfl hl (by decide) rfl (fun ls hl => ?_)
  refine j_iconst E 8 rfl dX3_readConditions_7 ?_
  refine j_istore_n E 9 rfl [(3, .int (J 0)), (2, .int (J 0)), (0, .ref o), (1, .int (J 3))] dX3_readConditions_8 rfl hl (by decide) rfl (fun ls hl => ?_)
  have L9_2 : ∀ (k9 : Nat) (l2_9 l3_9 : Int) (y80_c9 : Nat → Int) (y83_c9 : Nat → Int) (y84_c9 : Nat → Int) (y86_c9 : Nat → Int) (H : Heap) (locs : List Loc) (ls : Array Slot), inR l2_9 → inR l3_9 → (0 ≤ (y86_c9 o) ∧ (y86_c9 o) ≤ 400) → (400 - l3_9).toNat < k9 → WK D cy T (upV (upV (upV (upV v_0 80 y80_c9) 83 y83_c9) 84 y84_c9) 86 y86_c9) A0 s.heap H locs → lv_has ls 5 [(0, .ref o), (1, .int (J 3)), (2, .int (J l2_9)), (3, .int (J l3_9))] → W p l e (rmd 16 0 0) s m ar below meth c H locs 0 0 QW (F0 m 9 ls []) := by
    intro k9
    induction k9 with
    | zero =>
      intro l2_9 l3_9 y80_c9 y83_c9 y84_c9 y86_c9 H locs ls r_l2_9 r_l3_9 iv9 ms9 hw hl
      exact absurd ms9 (Nat.not_lt_zero _)
    | succ k9 ih9 =>
      intro l2_9 l3_9 y80_c9 y83_c9 y84_c9 y86_c9 H locs ls r_l2_9 r_l3_9 iv9 ms9 hw hl
      refine j_iload_n E 10 rfl dX3_readConditions_9 rfl (lv_at hl 3 rfl) ?_
      refine j_sipush E 13 rfl dX3_readConditions_10 (by decide) ?_
      refine j_icmp_ge E 16 111 rfl r_l3_9 (rr (by decide)) dX3_readConditions_13 (by decide) (fun cc4_ => ?_) (fun cc4_ => ?_)
      · refine j_iload_n E 112 rfl dX3_readConditions_111 rfl (lv_at hl 2 rfl) ?_
        refine j_if_eq E 115 122 rfl r_l2_9 dX3_readConditions_112 (by decide) (fun cc5_ => ?_) (fun cc5_ => ?_)
        · exact hret 122 (upV (upV (upV (upV v_0 80 y80_c9) 83 y83_c9) 84 y84_c9) 86 y86_c9) _ _ ls hw ⟨y80_c9, y83_c9, y84_c9, y86_c9, rfl, by first | omega | (simp only [upB_same]; omega)⟩ dX3_readConditions_122
        · refine j_aload_n E 116 rfl dX3_readConditions_115 rfl (lv_at hl 0 rfl) ?_
          refine j_sipush E 119 rfl dX3_readConditions_116 (by decide) ?_
          refine kV_v E (c_X3_emit l D cy T (upV (upV (upV (upV v_0 80 y80_c9) 83 y83_c9) 84 y84_c9) 86 y86_c9) o ((-304))  t_o (rr (by decide)) (show 0 ≤ (y86_c9 o) ∧ (y86_c9 o) ≤ 400 from by omega)) mt_X3_emit ml_X3_60 hK hw (cw_rc4 hK hw.1 t_o) hA ⟨Nat.le_of_ble_eq_true rfl, Nat.le_of_ble_eq_true rfl⟩ ⟨Nat.le_of_ble_eq_true rfl, Nat.le_of_ble_eq_true rfl⟩ (As := [.int (J ((-304)))]) (rest := []) rfl rfl hl.1 (Nat.le_of_ble_eq_true rfl) 122 rfl dX3_readConditions_119 (fun v_6 H locs hq6_ hw => ?_)
          obtain ⟨y86_6, ev6_, hh6_⟩ := hq6_
          rw [ev6_] at hw; clear ev6_
          have hw : WK D cy T (upV (upV (upV (upV v_0 80 y80_c9) 83 y83_c9) 84 y84_c9) 86 y86_6) A0 s.heap H locs := cw_eq hw (by first | rfl | (funext j_; simp only [upV, reduceIte]; (repeat' split) <;> first | rfl | omega | (subst_vars; rfl)))
          have hh6_ : 0 ≤ (y86_6 o) ∧ (y86_6 o) ≤ 400 := hh6_
          exact hret 122 (upV (upV (upV (upV v_0 80 y80_c9) 83 y83_c9) 84 y84_c9) 86 y86_6) _ _ ls hw ⟨y80_c9, y83_c9, y84_c9, y86_6, rfl, by first | omega | (simp only [upB_same]; omega)⟩ dX3_readConditions_122
      · refine j_aload_n E 17 rfl dX3_readConditions_16 rfl (lv_at hl 0 rfl) ?_
        refine g_84 E hK hw fl_X3_30 t_o (y84_c9 o) rfl 20 rfl dX3_readConditions_17 (fun rr7_ => ?_)
        refine j_sipush E 23 rfl dX3_readConditions_20 (by decide) ?_
        refine j_icmp_eq E 26 36 rfl rr7_ (rr (by decide)) dX3_readConditions_23 (by decide) (fun cc8_ => ?_) (fun cc8_ => ?_)
        · have L51_9 : ∀ (s0_51 : Int) (H : Heap) (locs : List Loc) (ls : Array Slot), inR s0_51 → (True) → WK D cy T (upV (upV (upV (upV v_0 80 y80_c9) 83 y83_c9) 84 y84_c9) 86 y86_c9) A0 s.heap H locs → lv_has ls 5 [(0, .ref o), (1, .int (J 3)), (2, .int (J l2_9)), (3, .int (J l3_9))] → W p l e (rmd 16 0 0) s m ar below meth c H locs 0 0 QW (F0 m 51 ls [.int (J s0_51)]) := by
            intro s0_51 H locs ls r_s0_51 iv51 hw hl
            refine j_istore E 53 rfl [(4, .int (J s0_51)), (0, .ref o), (1, .int (J 3)), (2, .int (J l2_9)), (3, .int (J l3_9))] dX3_readConditions_51 hl (by decide) rfl (fun ls hl => ?_)
            have L69_11 : ∀ (y86_c69 : Nat → Int) (H : Heap) (locs : List Loc) (ls : Array Slot), (0 ≤ (y86_c69 o) ∧ (y86_c69 o) ≤ 400) → WK D cy T (upV (upV (upV (upV v_0 80 y80_c9) 83 y83_c9) 84 y84_c9) 86 y86_c69) A0 s.heap H locs → lv_has ls 5 [(0, .ref o), (1, .int (J 3)), (2, .int (J l2_9)), (3, .int (J l3_9)), (4, .int (J s0_51))] → W p l e (rmd 16 0 0) s m ar below meth c H locs 0 0 QW (F0 m 69 ls []) := by
              intro y86_c69 H locs ls iv69 hw hl
              refine j_aload_n E 70 rfl dX3_readConditions_69 rfl (lv_at hl 0 rfl) ?_
              refine zV_v E (c_X3_step l D cy T (upV (upV (upV (upV v_0 80 y80_c9) 83 y83_c9) 84 y84_c9) 86 y86_c69) κ o  hO t_o  ) mt_X3_step ml_X3_54 hK hZ hAc hw (cw_rc4 hK hw.1 t_o) hA ⟨Nat.le_of_ble_eq_true rfl, Nat.le_of_ble_eq_true rfl⟩ ⟨Nat.le_of_ble_eq_true rfl, Nat.le_of_ble_eq_true rfl⟩ (As := []) (rest := []) rfl rfl hl.1 (Nat.le_of_ble_eq_true rfl) 73 rfl dX3_readConditions_70 (fun v_13 H locs hq13_ hw => ?_)
              obtain ⟨y83_13, y84_13, ev13_, hh13_⟩ := hq13_
              rw [ev13_] at hw; clear ev13_
              have hw : WK D cy T (upV (upV (upV (upV v_0 80 y80_c9) 83 y83_13) 84 y84_13) 86 y86_c69) A0 s.heap H locs := cw_eq hw (by first | rfl | (funext j_; simp only [upV, reduceIte]; (repeat' split) <;> first | rfl | omega | (subst_vars; rfl)))
              refine j_aload_n E 74 rfl dX3_readConditions_73 rfl (lv_at hl 0 rfl) ?_
              refine j_iload_n E 75 rfl dX3_readConditions_74 rfl (lv_at hl 1 rfl) ?_
              refine zV_v E (c_X3_readCondition_n3 l D cy T (upV (upV (upV (upV v_0 80 y80_c9) 83 y83_13) 84 y84_13) 86 y86_c69) κ o  hO t_o  (show 0 ≤ (y86_c69 o) ∧ (y86_c69 o) ≤ 400 from by omega)) mt_X3_readCondition ml_X3_85 hK hZ hAc hw (cw_rc4 hK hw.1 t_o) hA ⟨Nat.le_of_ble_eq_true rfl, Nat.le_of_ble_eq_true rfl⟩ ⟨Nat.le_of_ble_eq_true rfl, Nat.le_of_ble_eq_true rfl⟩ (As := [.int (J 3)]) (rest := []) rfl rfl hl.1 (Nat.le_of_ble_eq_true rfl) 78 rfl dX3_readConditions_75 (fun v_14 H locs hq14_ hw => ?_)
              obtain ⟨y80_14, y83_14, y84_14, y86_14, ev14_, hh14_⟩ := hq14_
              rw [ev14_] at hw; clear ev14_
              have hw : WK D cy T (upV (upV (upV (upV v_0 80 y80_14) 83 y83_14) 84 y84_14) 86 y86_14) A0 s.heap H locs := cw_eq hw (by first | rfl | (funext j_; simp only [upV, reduceIte]; (repeat' split) <;> first | rfl | omega | (subst_vars; rfl)))
              have hh14_ : 0 ≤ (y86_14 o) ∧ (y86_14 o) ≤ 400 := hh14_
              have L90_15 : ∀ (y86_c90 : Nat → Int) (H : Heap) (locs : List Loc) (ls : Array Slot), (0 ≤ (y86_c90 o) ∧ (y86_c90 o) ≤ 400) → WK D cy T (upV (upV (upV (upV v_0 80 y80_14) 83 y83_14) 84 y84_14) 86 y86_c90) A0 s.heap H locs → lv_has ls 5 [(0, .ref o), (1, .int (J 3)), (2, .int (J l2_9)), (3, .int (J l3_9)), (4, .int (J s0_51))] → W p l e (rmd 16 0 0) s m ar below meth c H locs 0 0 QW (F0 m 90 ls []) := by
                intro y86_c90 H locs ls iv90 hw hl
                have L104_17 : ∀ (s0_104 : Int) (H : Heap) (locs : List Loc) (ls : Array Slot), inR s0_104 → (True) → WK D cy T (upV (upV (upV (upV v_0 80 y80_14) 83 y83_14) 84 y84_14) 86 y86_c90) A0 s.heap H locs → lv_has ls 5 [(0, .ref o), (1, .int (J 3)), (2, .int (J l2_9)), (3, .int (J l3_9)), (4, .int (J s0_51))] → W p l e (rmd 16 0 0) s m ar below meth c H locs 0 0 QW (F0 m 104 ls [.int (J s0_104)]) := by
                  intro s0_104 H locs ls r_s0_104 iv104 hw hl
                  refine j_istore_n E 105 rfl [(2, .int (J s0_104)), (0, .ref o), (1, .int (J 3)), (3, .int (J l3_9)), (4, .int (J s0_51))] dX3_readConditions_104 rfl hl (by decide) rfl (fun ls hl => ?_)
                  refine j_iinc E 108 rfl [(3, .int (J (l3_9 + 1))), (2, .int (J s0_104)), (0, .ref o), (1, .int (J 3)), (4, .int (J s0_51))] dX3_readConditions_105 hl (kk := 3) rfl (by decide) rfl (fun ls hl => ?_)
                  refine j_goto E 9 dX3_readConditions_108 (by decide) ?_
                  exact ih9 s0_104 (l3_9 + 1) y80_14 y83_14 y84_14 y86_c90 H locs ls r_s0_104 (rr (by omega)) (by first | omega | (simp only [upB_same]; omega)) (by omega) hw (lv_sub hl [2, 3, 1, 0] rfl)
                refine j_iload_n E 91 rfl dX3_readConditions_90 rfl (lv_at hl 2 rfl) ?_
                refine j_if_ne E 94 99 rfl r_l2_9 dX3_readConditions_91 (by decide) (fun cc19_ => ?_) (fun cc19_ => ?_)
                · refine j_iconst E 100 rfl dX3_readConditions_99 ?_
                  refine j_goto E 104 dX3_readConditions_100 (by decide) ?_
                  exact L104_17 1  H locs ls (rr (by decide)) (trivial) hw (lv_sub hl [0, 1, 2, 3, 4] rfl)
                · refine j_iload E 96 rfl dX3_readConditions_94 (lv_at hl 4 rfl) ?_
                  refine j_if_ne E 99 103 rfl r_s0_51 dX3_readConditions_96 (by decide) (fun cc20_ => ?_) (fun cc20_ => ?_)
                  · refine j_iconst E 104 rfl dX3_readConditions_103 ?_
                    exact L104_17 0  H locs ls (rr (by decide)) (trivial) hw (lv_sub hl [0, 1, 2, 3, 4] rfl)
                  · refine j_iconst E 100 rfl dX3_readConditions_99 ?_
                    refine j_goto E 104 dX3_readConditions_100 (by decide) ?_
                    exact L104_17 1  H locs ls (rr (by decide)) (trivial) hw (lv_sub hl [0, 1, 2, 3, 4] rfl)
              refine j_iload E 80 rfl dX3_readConditions_78 (lv_at hl 4 rfl) ?_
              refine j_if_eq E 83 90 rfl r_s0_51 dX3_readConditions_80 (by decide) (fun cc21_ => ?_) (fun cc21_ => ?_)
              · exact L90_15  y86_14 H locs ls  (by first | omega | (simp only [upB_same]; omega)) hw (lv_sub hl [0, 1, 2, 3, 4] rfl)
              · refine j_aload_n E 84 rfl dX3_readConditions_83 rfl (lv_at hl 0 rfl) ?_
                refine j_sipush E 87 rfl dX3_readConditions_84 (by decide) ?_
                refine kV_v E (c_X3_emit l D cy T (upV (upV (upV (upV v_0 80 y80_14) 83 y83_14) 84 y84_14) 86 y86_14) o ((-305))  t_o (rr (by decide)) (show 0 ≤ (y86_14 o) ∧ (y86_14 o) ≤ 400 from by omega)) mt_X3_emit ml_X3_60 hK hw (cw_rc4 hK hw.1 t_o) hA ⟨Nat.le_of_ble_eq_true rfl, Nat.le_of_ble_eq_true rfl⟩ ⟨Nat.le_of_ble_eq_true rfl, Nat.le_of_ble_eq_true rfl⟩ (As := [.int (J ((-305)))]) (rest := []) rfl rfl hl.1 (Nat.le_of_ble_eq_true rfl) 90 rfl dX3_readConditions_87 (fun v_22 H locs hq22_ hw => ?_)
                obtain ⟨y86_22, ev22_, hh22_⟩ := hq22_
                rw [ev22_] at hw; clear ev22_
                have hw : WK D cy T (upV (upV (upV (upV v_0 80 y80_14) 83 y83_14) 84 y84_14) 86 y86_22) A0 s.heap H locs := cw_eq hw (by first | rfl | (funext j_; simp only [upV, reduceIte]; (repeat' split) <;> first | rfl | omega | (subst_vars; rfl)))
                have hh22_ : 0 ≤ (y86_22 o) ∧ (y86_22 o) ≤ 400 := hh22_
                exact L90_15  y86_22 H locs ls  (by first | omega | (simp only [upB_same]; omega)) hw (lv_sub hl [0, 1, 2, 3, 4] rfl)
            refine j_iload E 55 rfl dX3_readConditions_53 (lv_at hl 0 rfl) ?_
            refine j_if_ne E 58 69 rfl r_s0_51 dX3_readConditions_55 (by decide) (fun cc23_ => ?_) (fun cc23_ => ?_)
            · exact L69_11  y86_c9 H locs ls  (by first | omega | (simp only [upB_same]; omega)) hw (lv_sub hl [1, 2, 3, 4, 0] rfl)
            · refine j_iload_n E 59 rfl dX3_readConditions_58 rfl (lv_at hl 3 rfl) ?_
              refine j_if_eq E 62 69 rfl r_l2_9 dX3_readConditions_59 (by decide) (fun cc24_ => ?_) (fun cc24_ => ?_)
              · exact L69_11  y86_c9 H locs ls  (by first | omega | (simp only [upB_same]; omega)) hw (lv_sub hl [1, 2, 3, 4, 0] rfl)
              · refine j_aload_n E 63 rfl dX3_readConditions_62 rfl (lv_at hl 1 rfl) ?_
                refine j_sipush E 66 rfl dX3_readConditions_63 (by decide) ?_
                refine kV_v E (c_X3_emit l D cy T (upV (upV (upV (upV v_0 80 y80_c9) 83 y83_c9) 84 y84_c9) 86 y86_c9) o ((-304))  t_o (rr (by decide)) (show 0 ≤ (y86_c9 o) ∧ (y86_c9 o) ≤ 400 from by omega)) mt_X3_emit ml_X3_60 hK hw (cw_rc4 hK hw.1 t_o) hA ⟨Nat.le_of_ble_eq_true rfl, Nat.le_of_ble_eq_true rfl⟩ ⟨Nat.le_of_ble_eq_true rfl, Nat.le_of_ble_eq_true rfl⟩ (As := [.int (J ((-304)))]) (rest := []) rfl rfl hl.1 (Nat.le_of_ble_eq_true rfl) 69 rfl dX3_readConditions_66 (fun v_25 H locs hq25_ hw => ?_)
                obtain ⟨y86_25, ev25_, hh25_⟩ := hq25_
                rw [ev25_] at hw; clear ev25_
                have hw : WK D cy T (upV (upV (upV (upV v_0 80 y80_c9) 83 y83_c9) 84 y84_c9) 86 y86_25) A0 s.heap H locs := cw_eq hw (by first | rfl | (funext j_; simp only [upV, reduceIte]; (repeat' split) <;> first | rfl | omega | (subst_vars; rfl)))
                have hh25_ : 0 ≤ (y86_25 o) ∧ (y86_25 o) ≤ 400 := hh25_
                exact L69_11  y86_25 H locs ls  (by first | omega | (simp only [upB_same]; omega)) hw (lv_sub hl [1, 2, 3, 4, 0] rfl)
          refine j_aload_n E 37 rfl dX3_readConditions_36 rfl (lv_at hl 0 rfl) ?_
          refine g_84 E hK hw fl_X3_30 t_o (y84_c9 o) rfl 40 rfl dX3_readConditions_37 (fun _ => ?_)
          refine j_sipush E 43 rfl dX3_readConditions_40 (by decide) ?_
          refine j_icmp_ne E 46 50 rfl rr7_ (rr (by decide)) dX3_readConditions_43 (by decide) (fun cc26_ => ?_) (fun cc26_ => ?_)
          · exfalso; omega
          refine j_iconst E 47 rfl dX3_readConditions_46 ?_
          refine j_goto E 51 dX3_readConditions_47 (by decide) ?_
          exact L51_9 1  H locs ls (rr (by decide)) (trivial) hw (lv_sub hl [0, 1, 2, 3] rfl)
        · refine j_aload_n E 27 rfl dX3_readConditions_26 rfl (lv_at hl 0 rfl) ?_
          refine g_84 E hK hw fl_X3_30 t_o (y84_c9 o) rfl 30 rfl dX3_readConditions_27 (fun _ => ?_)
          refine j_sipush E 33 rfl dX3_readConditions_30 (by decide) ?_
          refine j_icmp_ne E 36 111 rfl rr7_ (rr (by decide)) dX3_readConditions_33 (by decide) (fun cc27_ => ?_) (fun cc27_ => ?_)
          · refine j_iload_n E 112 rfl dX3_readConditions_111 rfl (lv_at hl 2 rfl) ?_
            refine j_if_eq E 115 122 rfl r_l2_9 dX3_readConditions_112 (by decide) (fun cc28_ => ?_) (fun cc28_ => ?_)
            · exact hret 122 (upV (upV (upV (upV v_0 80 y80_c9) 83 y83_c9) 84 y84_c9) 86 y86_c9) _ _ ls hw ⟨y80_c9, y83_c9, y84_c9, y86_c9, rfl, by first | omega | (simp only [upB_same]; omega)⟩ dX3_readConditions_122
            · refine j_aload_n E 116 rfl dX3_readConditions_115 rfl (lv_at hl 0 rfl) ?_
              refine j_sipush E 119 rfl dX3_readConditions_116 (by decide) ?_
              refine kV_v E (c_X3_emit l D cy T (upV (upV (upV (upV v_0 80 y80_c9) 83 y83_c9) 84 y84_c9) 86 y86_c9) o ((-304))  t_o (rr (by decide)) (show 0 ≤ (y86_c9 o) ∧ (y86_c9 o) ≤ 400 from by omega)) mt_X3_emit ml_X3_60 hK hw (cw_rc4 hK hw.1 t_o) hA ⟨Nat.le_of_ble_eq_true rfl, Nat.le_of_ble_eq_true rfl⟩ ⟨Nat.le_of_ble_eq_true rfl, Nat.le_of_ble_eq_true rfl⟩ (As := [.int (J ((-304)))]) (rest := []) rfl rfl hl.1 (Nat.le_of_ble_eq_true rfl) 122 rfl dX3_readConditions_119 (fun v_29 H locs hq29_ hw => ?_)
              obtain ⟨y86_29, ev29_, hh29_⟩ := hq29_
              rw [ev29_] at hw; clear ev29_
              have hw : WK D cy T (upV (upV (upV (upV v_0 80 y80_c9) 83 y83_c9) 84 y84_c9) 86 y86_29) A0 s.heap H locs := cw_eq hw (by first | rfl | (funext j_; simp only [upV, reduceIte]; (repeat' split) <;> first | rfl | omega | (subst_vars; rfl)))
              have hh29_ : 0 ≤ (y86_29 o) ∧ (y86_29 o) ≤ 400 := hh29_
              exact hret 122 (upV (upV (upV (upV v_0 80 y80_c9) 83 y83_c9) 84 y84_c9) 86 y86_29) _ _ ls hw ⟨y80_c9, y83_c9, y84_c9, y86_29, rfl, by first | omega | (simp only [upB_same]; omega)⟩ dX3_readConditions_122
          · have L51_30 : ∀ (s0_51 : Int) (H : Heap) (locs : List Loc) (ls : Array Slot), inR s0_51 → (True) → WK D cy T (upV (upV (upV (upV v_0 80 y80_c9) 83 y83_c9) 84 y84_c9) 86 y86_c9) A0 s.heap H locs → lv_has ls 5 [(0, .ref o), (1, .int (J 3)), (2, .int (J l2_9)), (3, .int (J l3_9))] → W p l e (rmd 16 0 0) s m ar below meth c H locs 0 0 QW (F0 m 51 ls [.int (J s0_51)]) := by
              intro s0_51 H locs ls r_s0_51 iv51 hw hl
              refine j_istore E 53 rfl [(4, .int (J s0_51)), (0, .ref o), (1, .int (J 3)), (2, .int (J l2_9)), (3, .int (J l3_9))] dX3_readConditions_51 hl (by decide) rfl (fun ls hl => ?_)
              have L69_32 : ∀ (y86_c69 : Nat → Int) (H : Heap) (locs : List Loc) (ls : Array Slot), (0 ≤ (y86_c69 o) ∧ (y86_c69 o) ≤ 400) → WK D cy T (upV (upV (upV (upV v_0 80 y80_c9) 83 y83_c9) 84 y84_c9) 86 y86_c69) A0 s.heap H locs → lv_has ls 5 [(0, .ref o), (1, .int (J 3)), (2, .int (J l2_9)), (3, .int (J l3_9)), (4, .int (J s0_51))] → W p l e (rmd 16 0 0) s m ar below meth c H locs 0 0 QW (F0 m 69 ls []) := by
                intro y86_c69 H locs ls iv69 hw hl
                refine j_aload_n E 70 rfl dX3_readConditions_69 rfl (lv_at hl 0 rfl) ?_
                refine zV_v E (c_X3_step l D cy T (upV (upV (upV (upV v_0 80 y80_c9) 83 y83_c9) 84 y84_c9) 86 y86_c69) κ o  hO t_o  ) mt_X3_step ml_X3_54 hK hZ hAc hw (cw_rc4 hK hw.1 t_o) hA ⟨Nat.le_of_ble_eq_true rfl, Nat.le_of_ble_eq_true rfl⟩ ⟨Nat.le_of_ble_eq_true rfl, Nat.le_of_ble_eq_true rfl⟩ (As := []) (rest := []) rfl rfl hl.1 (Nat.le_of_ble_eq_true rfl) 73 rfl dX3_readConditions_70 (fun v_34 H locs hq34_ hw => ?_)
                obtain ⟨y83_34, y84_34, ev34_, hh34_⟩ := hq34_
                rw [ev34_] at hw; clear ev34_
                have hw : WK D cy T (upV (upV (upV (upV v_0 80 y80_c9) 83 y83_34) 84 y84_34) 86 y86_c69) A0 s.heap H locs := cw_eq hw (by first | rfl | (funext j_; simp only [upV, reduceIte]; (repeat' split) <;> first | rfl | omega | (subst_vars; rfl)))
                refine j_aload_n E 74 rfl dX3_readConditions_73 rfl (lv_at hl 0 rfl) ?_
                refine j_iload_n E 75 rfl dX3_readConditions_74 rfl (lv_at hl 1 rfl) ?_
                refine zV_v E (c_X3_readCondition_n3 l D cy T (upV (upV (upV (upV v_0 80 y80_c9) 83 y83_34) 84 y84_34) 86 y86_c69) κ o  hO t_o  (show 0 ≤ (y86_c69 o) ∧ (y86_c69 o) ≤ 400 from by omega)) mt_X3_readCondition ml_X3_85 hK hZ hAc hw (cw_rc4 hK hw.1 t_o) hA ⟨Nat.le_of_ble_eq_true rfl, Nat.le_of_ble_eq_true rfl⟩ ⟨Nat.le_of_ble_eq_true rfl, Nat.le_of_ble_eq_true rfl⟩ (As := [.int (J 3)]) (rest := []) rfl rfl hl.1 (Nat.le_of_ble_eq_true rfl) 78 rfl dX3_readConditions_75 (fun v_35 H locs hq35_ hw => ?_)
                obtain ⟨y80_35, y83_35, y84_35, y86_35, ev35_, hh35_⟩ := hq35_
                rw [ev35_] at hw; clear ev35_
                have hw : WK D cy T (upV (upV (upV (upV v_0 80 y80_35) 83 y83_35) 84 y84_35) 86 y86_35) A0 s.heap H locs := cw_eq hw (by first | rfl | (funext j_; simp only [upV, reduceIte]; (repeat' split) <;> first | rfl | omega | (subst_vars; rfl)))
                have hh35_ : 0 ≤ (y86_35 o) ∧ (y86_35 o) ≤ 400 := hh35_
                have L90_36 : ∀ (y86_c90 : Nat → Int) (H : Heap) (locs : List Loc) (ls : Array Slot), (0 ≤ (y86_c90 o) ∧ (y86_c90 o) ≤ 400) → WK D cy T (upV (upV (upV (upV v_0 80 y80_35) 83 y83_35) 84 y84_35) 86 y86_c90) A0 s.heap H locs → lv_has ls 5 [(0, .ref o), (1, .int (J 3)), (2, .int (J l2_9)), (3, .int (J l3_9)), (4, .int (J s0_51))] → W p l e (rmd 16 0 0) s m ar below meth c H locs 0 0 QW (F0 m 90 ls []) := by
                  intro y86_c90 H locs ls iv90 hw hl
                  have L104_38 : ∀ (s0_104 : Int) (H : Heap) (locs : List Loc) (ls : Array Slot), inR s0_104 → (True) → WK D cy T (upV (upV (upV (upV v_0 80 y80_35) 83 y83_35) 84 y84_35) 86 y86_c90) A0 s.heap H locs → lv_has ls 5 [(0, .ref o), (1, .int (J 3)), (2, .int (J l2_9)), (3, .int (J l3_9)), (4, .int (J s0_51))] → W p l e (rmd 16 0 0) s m ar below meth c H locs 0 0 QW (F0 m 104 ls [.int (J s0_104)]) := by
                    intro s0_104 H locs ls r_s0_104 iv104 hw hl
                    refine j_istore_n E 105 rfl [(2, .int (J s0_104)), (0, .ref o), (1, .int (J 3)), (3, .int (J l3_9)), (4, .int (J s0_51))] dX3_readConditions_104 rfl hl (by decide) rfl (fun ls hl => ?_)
                    refine j_iinc E 108 rfl [(3, .int (J (l3_9 + 1))), (2, .int (J s0_104)), (0, .ref o), (1, .int (J 3)), (4, .int (J s0_51))] dX3_readConditions_105 hl (kk := 3) rfl (by decide) rfl (fun ls hl => ?_)
                    refine j_goto E 9 dX3_readConditions_108 (by decide) ?_
                    exact ih9 s0_104 (l3_9 + 1) y80_35 y83_35 y84_35 y86_c90 H locs ls r_s0_104 (rr (by omega)) (by first | omega | (simp only [upB_same]; omega)) (by omega) hw (lv_sub hl [2, 3, 1, 0] rfl)
                  refine j_iload_n E 91 rfl dX3_readConditions_90 rfl (lv_at hl 2 rfl) ?_
                  refine j_if_ne E 94 99 rfl r_l2_9 dX3_readConditions_91 (by decide) (fun cc40_ => ?_) (fun cc40_ => ?_)
                  · refine j_iconst E 100 rfl dX3_readConditions_99 ?_
                    refine j_goto E 104 dX3_readConditions_100 (by decide) ?_
                    exact L104_38 1  H locs ls (rr (by decide)) (trivial) hw (lv_sub hl [0, 1, 2, 3, 4] rfl)
                  · refine j_iload E 96 rfl dX3_readConditions_94 (lv_at hl 4 rfl) ?_
                    refine j_if_ne E 99 103 rfl r_s0_51 dX3_readConditions_96 (by decide) (fun cc41_ => ?_) (fun cc41_ => ?_)
                    · refine j_iconst E 104 rfl dX3_readConditions_103 ?_
                      exact L104_38 0  H locs ls (rr (by decide)) (trivial) hw (lv_sub hl [0, 1, 2, 3, 4] rfl)
                    · refine j_iconst E 100 rfl dX3_readConditions_99 ?_
                      refine j_goto E 104 dX3_readConditions_100 (by decide) ?_
                      exact L104_38 1  H locs ls (rr (by decide)) (trivial) hw (lv_sub hl [0, 1, 2, 3, 4] rfl)
                refine j_iload E 80 rfl dX3_readConditions_78 (lv_at hl 4 rfl) ?_
                refine j_if_eq E 83 90 rfl r_s0_51 dX3_readConditions_80 (by decide) (fun cc42_ => ?_) (fun cc42_ => ?_)
                · exact L90_36  y86_35 H locs ls  (by first | omega | (simp only [upB_same]; omega)) hw (lv_sub hl [0, 1, 2, 3, 4] rfl)
                · refine j_aload_n E 84 rfl dX3_readConditions_83 rfl (lv_at hl 0 rfl) ?_
                  refine j_sipush E 87 rfl dX3_readConditions_84 (by decide) ?_
                  refine kV_v E (c_X3_emit l D cy T (upV (upV (upV (upV v_0 80 y80_35) 83 y83_35) 84 y84_35) 86 y86_35) o ((-305))  t_o (rr (by decide)) (show 0 ≤ (y86_35 o) ∧ (y86_35 o) ≤ 400 from by omega)) mt_X3_emit ml_X3_60 hK hw (cw_rc4 hK hw.1 t_o) hA ⟨Nat.le_of_ble_eq_true rfl, Nat.le_of_ble_eq_true rfl⟩ ⟨Nat.le_of_ble_eq_true rfl, Nat.le_of_ble_eq_true rfl⟩ (As := [.int (J ((-305)))]) (rest := []) rfl rfl hl.1 (Nat.le_of_ble_eq_true rfl) 90 rfl dX3_readConditions_87 (fun v_43 H locs hq43_ hw => ?_)
                  obtain ⟨y86_43, ev43_, hh43_⟩ := hq43_
                  rw [ev43_] at hw; clear ev43_
                  have hw : WK D cy T (upV (upV (upV (upV v_0 80 y80_35) 83 y83_35) 84 y84_35) 86 y86_43) A0 s.heap H locs := cw_eq hw (by first | rfl | (funext j_; simp only [upV, reduceIte]; (repeat' split) <;> first | rfl | omega | (subst_vars; rfl)))
                  have hh43_ : 0 ≤ (y86_43 o) ∧ (y86_43 o) ≤ 400 := hh43_
                  exact L90_36  y86_43 H locs ls  (by first | omega | (simp only [upB_same]; omega)) hw (lv_sub hl [0, 1, 2, 3, 4] rfl)
              refine j_iload E 55 rfl dX3_readConditions_53 (lv_at hl 0 rfl) ?_
              refine j_if_ne E 58 69 rfl r_s0_51 dX3_readConditions_55 (by decide) (fun cc44_ => ?_) (fun cc44_ => ?_)
              · exact L69_32  y86_c9 H locs ls  (by first | omega | (simp only [upB_same]; omega)) hw (lv_sub hl [1, 2, 3, 4, 0] rfl)
              · refine j_iload_n E 59 rfl dX3_readConditions_58 rfl (lv_at hl 3 rfl) ?_
                refine j_if_eq E 62 69 rfl r_l2_9 dX3_readConditions_59 (by decide) (fun cc45_ => ?_) (fun cc45_ => ?_)
                · exact L69_32  y86_c9 H locs ls  (by first | omega | (simp only [upB_same]; omega)) hw (lv_sub hl [1, 2, 3, 4, 0] rfl)
                · refine j_aload_n E 63 rfl dX3_readConditions_62 rfl (lv_at hl 1 rfl) ?_
                  refine j_sipush E 66 rfl dX3_readConditions_63 (by decide) ?_
                  refine kV_v E (c_X3_emit l D cy T (upV (upV (upV (upV v_0 80 y80_c9) 83 y83_c9) 84 y84_c9) 86 y86_c9) o ((-304))  t_o (rr (by decide)) (show 0 ≤ (y86_c9 o) ∧ (y86_c9 o) ≤ 400 from by omega)) mt_X3_emit ml_X3_60 hK hw (cw_rc4 hK hw.1 t_o) hA ⟨Nat.le_of_ble_eq_true rfl, Nat.le_of_ble_eq_true rfl⟩ ⟨Nat.le_of_ble_eq_true rfl, Nat.le_of_ble_eq_true rfl⟩ (As := [.int (J ((-304)))]) (rest := []) rfl rfl hl.1 (Nat.le_of_ble_eq_true rfl) 69 rfl dX3_readConditions_66 (fun v_46 H locs hq46_ hw => ?_)
                  obtain ⟨y86_46, ev46_, hh46_⟩ := hq46_
                  rw [ev46_] at hw; clear ev46_
                  have hw : WK D cy T (upV (upV (upV (upV v_0 80 y80_c9) 83 y83_c9) 84 y84_c9) 86 y86_46) A0 s.heap H locs := cw_eq hw (by first | rfl | (funext j_; simp only [upV, reduceIte]; (repeat' split) <;> first | rfl | omega | (subst_vars; rfl)))
                  have hh46_ : 0 ≤ (y86_46 o) ∧ (y86_46 o) ≤ 400 := hh46_
                  exact L69_32  y86_46 H locs ls  (by first | omega | (simp only [upB_same]; omega)) hw (lv_sub hl [1, 2, 3, 4, 0] rfl)
            refine j_aload_n E 37 rfl dX3_readConditions_36 rfl (lv_at hl 0 rfl) ?_
            refine g_84 E hK hw fl_X3_30 t_o (y84_c9 o) rfl 40 rfl dX3_readConditions_37 (fun _ => ?_)
            refine j_sipush E 43 rfl dX3_readConditions_40 (by decide) ?_
            refine j_icmp_ne E 46 50 rfl rr7_ (rr (by decide)) dX3_readConditions_43 (by decide) (fun cc47_ => ?_) (fun cc47_ => ?_)
            rotate_left; · exfalso; omega
            refine j_iconst E 51 rfl dX3_readConditions_50 ?_
            exact L51_30 0  H locs ls (rr (by decide)) (trivial) hw (lv_sub hl [0, 1, 2, 3] rfl)
  exact L9_2 _ 0 0 y80_1 y83_1 y84_1 y86_1 H locs ls (rr (by decide)) (rr (by decide)) (by first | omega | (simp only [upB_same]; omega)) (Nat.lt_succ_self _) hw (lv_sub hl [2, 3, 1, 0] rfl)
set_option maxHeartbeats 4000000 in
set_option maxRecDepth 100000 in
theorem c_X3_readCondition_n2 (l : Launch) (D : va_G) (cy : Nat → ClassId) (T : Nat → Nat → Nat) (v_0 : Nat → Nat → Int) (κ : Nat → Nat → Nat) (o : Nat) (hO : ∀ x, ow T x → κ 2 2 ≤ x) (t_o : T 0 o = 4) (hp0 : 0 ≤ (v_0 86 o) ∧ (v_0 86 o) ≤ 400) : KZ l D cy κ T yX3_readCondition cX3_readCondition 4 none 17 [.ref o, .int (J 2)] v_0 (KV (fun (v_2 : Nat → Nat → Int) => ∃ (y80_2 : Nat → Int) (y83_2 : Nat → Int) (y84_2 : Nat → Int) (y86_2 : Nat → Int) , v_2 = upV (upV (upV (upV v_0 80 y80_2) 83 y83_2) 84 y84_2) 86 y86_2 ∧ (0 ≤ (y86_2 o) ∧ (y86_2 o) ≤ 400))) := by
  refine KZ.ofv (by decide) (Nat.le_of_ble_eq_true rfl) hO ?_
  intro p e s m below meth c ls ar QW A0 H locs E hK hZ hA hAc hw hl hret
  have hl : lv_has ls 4 [(0, .ref o), (1, .int (J 2))] := hl
  have hT : WT T := hw.1.2.1
  refine j_aload_n E 1 rfl dX3_readCondition_0 rfl (lv_at hl 0 rfl) ?_
  refine g_84 E hK hw fl_X3_30 t_o (v_0 84 o) rfl 4 rfl dX3_readCondition_1 (fun rr1_ => ?_)
  refine j_bipush E 6 rfl dX3_readCondition_4 (by decide) ?_
  refine j_icmp_eq E 9 19 rfl rr1_ (rr (by decide)) dX3_readCondition_6 (by decide) (fun cc2_ => ?_) (fun cc2_ => ?_)
  · refine j_iconst E 20 rfl dX3_readCondition_19 ?_
    refine j_goto E 24 dX3_readCondition_20 (by decide) ?_
    refine j_istore_n E 25 rfl [(2, .int (J 1)), (0, .ref o), (1, .int (J 2))] dX3_readCondition_24 rfl hl (by decide) rfl (fun ls hl => ?_)
    refine j_iload_n E 26 rfl dX3_readCondition_25 rfl (lv_at hl 0 rfl) ?_
    refine j_if_eq E 29 43 rfl (rr (by decide)) dX3_readCondition_26 (by decide) (fun cc3_ => absurd cc3_ (by decide)) (fun _ => ?_)
    refine j_iload_n E 30 rfl dX3_readCondition_29 rfl (lv_at hl 2 rfl) ?_
    refine j_bipush E 32 rfl dX3_readCondition_30 (by decide) ?_
    refine j_icmp_lt E 35 43 rfl (rr (by decide)) (rr (by decide)) dX3_readCondition_32 (by decide) (fun _ => ?_) (fun cc4_ => absurd cc4_ (by decide))
    refine j_aload_n E 44 rfl dX3_readCondition_43 rfl (lv_at hl 1 rfl) ?_
    refine g_84 E hK hw fl_X3_30 t_o (v_0 84 o) rfl 47 rfl dX3_readCondition_44 (fun _ => ?_)
    refine j_bipush E 49 rfl dX3_readCondition_47 (by decide) ?_
    refine j_icmp_ne E 52 72 rfl rr1_ (rr (by decide)) dX3_readCondition_49 (by decide) (fun cc5_ => ?_) (fun cc5_ => ?_)
    · exfalso; omega
    refine j_aload_n E 53 rfl dX3_readCondition_52 rfl (lv_at hl 1 rfl) ?_
    refine zV_v E (c_X3_step l D cy T (v_0) κ o  hO t_o  ) mt_X3_step ml_X3_54 hK hZ hAc hw (cw_rc4 hK hw.1 t_o) hA ⟨Nat.le_of_ble_eq_true rfl, Nat.le_of_ble_eq_true rfl⟩ ⟨Nat.le_of_ble_eq_true rfl, Nat.le_of_ble_eq_true rfl⟩ (As := []) (rest := []) rfl rfl hl.1 (Nat.le_of_ble_eq_true rfl) 56 rfl dX3_readCondition_53 (fun v_6 H locs hq6_ hw => ?_)
    obtain ⟨y83_6, y84_6, ev6_, hh6_⟩ := hq6_
    rw [ev6_] at hw; clear ev6_
    have hw : WK D cy T (upV (upV v_0 83 y83_6) 84 y84_6) A0 s.heap H locs := cw_eq hw (by first | rfl | (funext j_; simp only [upV, reduceIte]; (repeat' split) <;> first | rfl | omega | (subst_vars; rfl)))
    refine j_aload_n E 57 rfl dX3_readCondition_56 rfl (lv_at hl 1 rfl) ?_
    refine j_iload_n E 58 rfl dX3_readCondition_57 rfl (lv_at hl 2 rfl) ?_
    refine j_iconst E 59 rfl dX3_readCondition_58 ?_
    refine j_iadd E 60 rfl dX3_readCondition_59 ?_
    refine j_lit (z := 3) (by decide) ?_
    refine zV_v E (c_X3_readConditions_n3 l D cy T (upV (upV v_0 83 y83_6) 84 y84_6) κ o  hO t_o  (show 0 ≤ ((v_0 86) o) ∧ ((v_0 86) o) ≤ 400 from by omega)) mt_X3_readConditions ml_X3_57 hK hZ hAc hw (cw_rc4 hK hw.1 t_o) hA ⟨Nat.le_of_ble_eq_true rfl, Nat.le_of_ble_eq_true rfl⟩ ⟨Nat.le_of_ble_eq_true rfl, Nat.le_of_ble_eq_true rfl⟩ (As := [.int (J 3)]) (rest := []) rfl rfl hl.1 (Nat.le_of_ble_eq_true rfl) 63 rfl dX3_readCondition_60 (fun v_7 H locs hq7_ hw => ?_)
    obtain ⟨y80_7, y83_7, y84_7, y86_7, ev7_, hh7_⟩ := hq7_
    rw [ev7_] at hw; clear ev7_
    have hw : WK D cy T (upV (upV (upV (upV v_0 80 y80_7) 83 y83_7) 84 y84_7) 86 y86_7) A0 s.heap H locs := cw_eq hw (by first | rfl | (funext j_; simp only [upV, reduceIte]; (repeat' split) <;> first | rfl | omega | (subst_vars; rfl)))
    have hh7_ : 0 ≤ (y86_7 o) ∧ (y86_7 o) ≤ 400 := hh7_
    refine j_aload_n E 64 rfl dX3_readCondition_63 rfl (lv_at hl 1 rfl) ?_
    refine j_bipush E 66 rfl dX3_readCondition_64 (by decide) ?_
    refine zV_v E (c_X3_take l D cy T (upV (upV (upV (upV v_0 80 y80_7) 83 y83_7) 84 y84_7) 86 y86_7) κ o 41  hO t_o (rr (by decide)) ) mt_X3_take ml_X3_47 hK hZ hAc hw (cw_rc4 hK hw.1 t_o) hA ⟨Nat.le_of_ble_eq_true rfl, Nat.le_of_ble_eq_true rfl⟩ ⟨Nat.le_of_ble_eq_true rfl, Nat.le_of_ble_eq_true rfl⟩ (As := [.int (J 41)]) (rest := []) rfl rfl hl.1 (Nat.le_of_ble_eq_true rfl) 69 rfl dX3_readCondition_66 (fun v_8 H locs hq8_ hw => ?_)
    obtain ⟨y80_8, y83_8, y84_8, ev8_, hh8_⟩ := hq8_
    rw [ev8_] at hw; clear ev8_
    have hw : WK D cy T (upV (upV (upV (upV v_0 80 y80_8) 83 y83_8) 84 y84_8) 86 y86_7) A0 s.heap H locs := cw_eq hw (by first | rfl | (funext j_; simp only [upV, reduceIte]; (repeat' split) <;> first | rfl | omega | (subst_vars; rfl)))
    refine j_goto E 126 dX3_readCondition_69 (by decide) ?_
    exact hret 126 (upV (upV (upV (upV v_0 80 y80_8) 83 y83_8) 84 y84_8) 86 y86_7) _ _ ls hw ⟨y80_8, y83_8, y84_8, y86_7, rfl, by first | omega | (simp only [upB_same]; omega)⟩ dX3_readCondition_126
  · refine j_aload_n E 10 rfl dX3_readCondition_9 rfl (lv_at hl 0 rfl) ?_
    refine g_84 E hK hw fl_X3_30 t_o (v_0 84 o) rfl 13 rfl dX3_readCondition_10 (fun _ => ?_)
    refine j_sipush E 16 rfl dX3_readCondition_13 (by decide) ?_
    refine j_icmp_ne E 19 23 rfl rr1_ (rr (by decide)) dX3_readCondition_16 (by decide) (fun cc9_ => ?_) (fun cc9_ => ?_)
    · refine j_iconst E 24 rfl dX3_readCondition_23 ?_
      refine j_istore_n E 25 rfl [(2, .int (J 0)), (0, .ref o), (1, .int (J 2))] dX3_readCondition_24 rfl hl (by decide) rfl (fun ls hl => ?_)
      refine j_iload_n E 26 rfl dX3_readCondition_25 rfl (lv_at hl 0 rfl) ?_
      refine j_if_eq E 29 43 rfl (rr (by decide)) dX3_readCondition_26 (by decide) (fun _ => ?_) (fun cc10_ => absurd cc10_ (by decide))
      refine j_aload_n E 44 rfl dX3_readCondition_43 rfl (lv_at hl 1 rfl) ?_
      refine g_84 E hK hw fl_X3_30 t_o (v_0 84 o) rfl 47 rfl dX3_readCondition_44 (fun _ => ?_)
      refine j_bipush E 49 rfl dX3_readCondition_47 (by decide) ?_
      refine j_icmp_ne E 52 72 rfl rr1_ (rr (by decide)) dX3_readCondition_49 (by decide) (fun cc11_ => ?_) (fun cc11_ => ?_)
      rotate_left; · exfalso; omega
      refine j_aload_n E 73 rfl dX3_readCondition_72 rfl (lv_at hl 1 rfl) ?_
      refine g_84 E hK hw fl_X3_30 t_o (v_0 84 o) rfl 76 rfl dX3_readCondition_73 (fun _ => ?_)
      refine j_sipush E 79 rfl dX3_readCondition_76 (by decide) ?_
      refine j_icmp_ne E 82 103 rfl rr1_ (rr (by decide)) dX3_readCondition_79 (by decide) (fun cc12_ => ?_) (fun cc12_ => ?_)
      rotate_left; · exfalso; omega
      refine j_aload_n E 104 rfl dX3_readCondition_103 rfl (lv_at hl 1 rfl) ?_
      refine zV_v E (c_X3_readSum l D cy T (v_0) κ o  hO t_o  (show 0 ≤ ((v_0 86) o) ∧ ((v_0 86) o) ≤ 400 from by omega)) mt_X3_readSum ml_X3_51 hK hZ hAc hw (cw_rc4 hK hw.1 t_o) hA ⟨Nat.le_of_ble_eq_true rfl, Nat.le_of_ble_eq_true rfl⟩ ⟨Nat.le_of_ble_eq_true rfl, Nat.le_of_ble_eq_true rfl⟩ (As := []) (rest := []) rfl rfl hl.1 (Nat.le_of_ble_eq_true rfl) 107 rfl dX3_readCondition_104 (fun v_13 H locs hq13_ hw => ?_)
      obtain ⟨y80_13, y83_13, y84_13, y86_13, ev13_, hh13_⟩ := hq13_
      rw [ev13_] at hw; clear ev13_
      have hw : WK D cy T (upV (upV (upV (upV v_0 80 y80_13) 83 y83_13) 84 y84_13) 86 y86_13) A0 s.heap H locs := cw_eq hw (by first | rfl | (funext j_; simp only [upV, reduceIte]; (repeat' split) <;> first | rfl | omega | (subst_vars; rfl)))
      have hh13_ : 0 ≤ (y86_13 o) ∧ (y86_13 o) ≤ 400 := hh13_
      refine j_aload_n E 108 rfl dX3_readCondition_107 rfl (lv_at hl 1 rfl) ?_
      refine g_84 E hK hw fl_X3_30 t_o (y84_13 o) rfl 111 rfl dX3_readCondition_108 (fun rr14_ => ?_)
      refine j_istore_n E 112 rfl [(3, .int (J (y84_13 o))), (2, .int (J 0)), (0, .ref o), (1, .int (J 2))] dX3_readCondition_111 rfl hl (by decide) rfl (fun ls hl => ?_)
      refine j_aload_n E 113 rfl dX3_readCondition_112 rfl (lv_at hl 2 rfl) ?_
      refine zV_v E (c_X3_takeComparison l D cy T (upV (upV (upV (upV v_0 80 y80_13) 83 y83_13) 84 y84_13) 86 y86_13) κ o  hO t_o  ) mt_X3_takeComparison ml_X3_88 hK hZ hAc hw (cw_rc4 hK hw.1 t_o) hA ⟨Nat.le_of_ble_eq_true rfl, Nat.le_of_ble_eq_true rfl⟩ ⟨Nat.le_of_ble_eq_true rfl, Nat.le_of_ble_eq_true rfl⟩ (As := []) (rest := []) rfl rfl hl.1 (Nat.le_of_ble_eq_true rfl) 116 rfl dX3_readCondition_113 (fun v_15 H locs hq15_ hw => ?_)
      obtain ⟨y80_15, y83_15, y84_15, ev15_, hh15_⟩ := hq15_
      rw [ev15_] at hw; clear ev15_
      have hw : WK D cy T (upV (upV (upV (upV v_0 80 y80_15) 83 y83_15) 84 y84_15) 86 y86_13) A0 s.heap H locs := cw_eq hw (by first | rfl | (funext j_; simp only [upV, reduceIte]; (repeat' split) <;> first | rfl | omega | (subst_vars; rfl)))
      refine j_aload_n E 117 rfl dX3_readCondition_116 rfl (lv_at hl 2 rfl) ?_
      refine zV_v E (c_X3_readSum l D cy T (upV (upV (upV (upV v_0 80 y80_15) 83 y83_15) 84 y84_15) 86 y86_13) κ o  hO t_o  (show 0 ≤ (y86_13 o) ∧ (y86_13 o) ≤ 400 from by omega)) mt_X3_readSum ml_X3_51 hK hZ hAc hw (cw_rc4 hK hw.1 t_o) hA ⟨Nat.le_of_ble_eq_true rfl, Nat.le_of_ble_eq_true rfl⟩ ⟨Nat.le_of_ble_eq_true rfl, Nat.le_of_ble_eq_true rfl⟩ (As := []) (rest := []) rfl rfl hl.1 (Nat.le_of_ble_eq_true rfl) 120 rfl dX3_readCondition_117 (fun v_16 H locs hq16_ hw => ?_)
      obtain ⟨y80_16, y83_16, y84_16, y86_16, ev16_, hh16_⟩ := hq16_
      rw [ev16_] at hw; clear ev16_
      have hw : WK D cy T (upV (upV (upV (upV v_0 80 y80_16) 83 y83_16) 84 y84_16) 86 y86_16) A0 s.heap H locs := cw_eq hw (by first | rfl | (funext j_; simp only [upV, reduceIte]; (repeat' split) <;> first | rfl | omega | (subst_vars; rfl)))
      have hh16_ : 0 ≤ (y86_16 o) ∧ (y86_16 o) ≤ 400 := hh16_
      refine j_aload_n E 121 rfl dX3_readCondition_120 rfl (lv_at hl 2 rfl) ?_
      refine j_iload_n E 122 rfl dX3_readCondition_121 rfl (lv_at hl 0 rfl) ?_
      refine j_ineg E 123 rfl dX3_readCondition_122 ?_
      refine j_norm (fun zz17_ rr17_ ee17_ => ?_)
      refine kV_v E (c_X3_emit l D cy T (upV (upV (upV (upV v_0 80 y80_16) 83 y83_16) 84 y84_16) 86 y86_16) o zz17_  t_o rr17_ (show 0 ≤ (y86_16 o) ∧ (y86_16 o) ≤ 400 from by omega)) mt_X3_emit ml_X3_60 hK hw (cw_rc4 hK hw.1 t_o) hA ⟨Nat.le_of_ble_eq_true rfl, Nat.le_of_ble_eq_true rfl⟩ ⟨Nat.le_of_ble_eq_true rfl, Nat.le_of_ble_eq_true rfl⟩ (As := [.int (J zz17_)]) (rest := []) rfl rfl hl.1 (Nat.le_of_ble_eq_true rfl) 126 rfl dX3_readCondition_123 (fun v_18 H locs hq18_ hw => ?_)
      obtain ⟨y86_18, ev18_, hh18_⟩ := hq18_
      rw [ev18_] at hw; clear ev18_
      have hw : WK D cy T (upV (upV (upV (upV v_0 80 y80_16) 83 y83_16) 84 y84_16) 86 y86_18) A0 s.heap H locs := cw_eq hw (by first | rfl | (funext j_; simp only [upV, reduceIte]; (repeat' split) <;> first | rfl | omega | (subst_vars; rfl)))
      have hh18_ : 0 ≤ (y86_18 o) ∧ (y86_18 o) ≤ 400 := hh18_
      exact hret 126 (upV (upV (upV (upV v_0 80 y80_16) 83 y83_16) 84 y84_16) 86 y86_18) _ _ ls hw ⟨y80_16, y83_16, y84_16, y86_18, rfl, by first | omega | (simp only [upB_same]; omega)⟩ dX3_readCondition_126
    · refine j_iconst E 20 rfl dX3_readCondition_19 ?_
      refine j_goto E 24 dX3_readCondition_20 (by decide) ?_
      refine j_istore_n E 25 rfl [(2, .int (J 1)), (0, .ref o), (1, .int (J 2))] dX3_readCondition_24 rfl hl (by decide) rfl (fun ls hl => ?_)
      refine j_iload_n E 26 rfl dX3_readCondition_25 rfl (lv_at hl 0 rfl) ?_
      refine j_if_eq E 29 43 rfl (rr (by decide)) dX3_readCondition_26 (by decide) (fun cc19_ => absurd cc19_ (by decide)) (fun _ => ?_)
      refine j_iload_n E 30 rfl dX3_readCondition_29 rfl (lv_at hl 2 rfl) ?_
      refine j_bipush E 32 rfl dX3_readCondition_30 (by decide) ?_
      refine j_icmp_lt E 35 43 rfl (rr (by decide)) (rr (by decide)) dX3_readCondition_32 (by decide) (fun _ => ?_) (fun cc20_ => absurd cc20_ (by decide))
      refine j_aload_n E 44 rfl dX3_readCondition_43 rfl (lv_at hl 1 rfl) ?_
      refine g_84 E hK hw fl_X3_30 t_o (v_0 84 o) rfl 47 rfl dX3_readCondition_44 (fun _ => ?_)
      refine j_bipush E 49 rfl dX3_readCondition_47 (by decide) ?_
      refine j_icmp_ne E 52 72 rfl rr1_ (rr (by decide)) dX3_readCondition_49 (by decide) (fun cc21_ => ?_) (fun cc21_ => ?_)
      rotate_left; · exfalso; omega
      refine j_aload_n E 73 rfl dX3_readCondition_72 rfl (lv_at hl 1 rfl) ?_
      refine g_84 E hK hw fl_X3_30 t_o (v_0 84 o) rfl 76 rfl dX3_readCondition_73 (fun _ => ?_)
      refine j_sipush E 79 rfl dX3_readCondition_76 (by decide) ?_
      refine j_icmp_ne E 82 103 rfl rr1_ (rr (by decide)) dX3_readCondition_79 (by decide) (fun cc22_ => ?_) (fun cc22_ => ?_)
      · exfalso; omega
      refine j_aload_n E 83 rfl dX3_readCondition_82 rfl (lv_at hl 1 rfl) ?_
      refine zV_v E (c_X3_step l D cy T (v_0) κ o  hO t_o  ) mt_X3_step ml_X3_54 hK hZ hAc hw (cw_rc4 hK hw.1 t_o) hA ⟨Nat.le_of_ble_eq_true rfl, Nat.le_of_ble_eq_true rfl⟩ ⟨Nat.le_of_ble_eq_true rfl, Nat.le_of_ble_eq_true rfl⟩ (As := []) (rest := []) rfl rfl hl.1 (Nat.le_of_ble_eq_true rfl) 86 rfl dX3_readCondition_83 (fun v_23 H locs hq23_ hw => ?_)
      obtain ⟨y83_23, y84_23, ev23_, hh23_⟩ := hq23_
      rw [ev23_] at hw; clear ev23_
      have hw : WK D cy T (upV (upV v_0 83 y83_23) 84 y84_23) A0 s.heap H locs := cw_eq hw (by first | rfl | (funext j_; simp only [upV, reduceIte]; (repeat' split) <;> first | rfl | omega | (subst_vars; rfl)))
      refine j_aload_n E 87 rfl dX3_readCondition_86 rfl (lv_at hl 1 rfl) ?_
      refine j_iload_n E 88 rfl dX3_readCondition_87 rfl (lv_at hl 2 rfl) ?_
      refine j_iconst E 89 rfl dX3_readCondition_88 ?_
      refine j_iadd E 90 rfl dX3_readCondition_89 ?_
      refine j_lit (z := 3) (by decide) ?_
      refine zV_v E (c_X3_readCondition_n3 l D cy T (upV (upV v_0 83 y83_23) 84 y84_23) κ o  hO t_o  (show 0 ≤ ((v_0 86) o) ∧ ((v_0 86) o) ≤ 400 from by omega)) mt_X3_readCondition ml_X3_85 hK hZ hAc hw (cw_rc4 hK hw.1 t_o) hA ⟨Nat.le_of_ble_eq_true rfl, Nat.le_of_ble_eq_true rfl⟩ ⟨Nat.le_of_ble_eq_true rfl, Nat.le_of_ble_eq_true rfl⟩ (As := [.int (J 3)]) (rest := []) rfl rfl hl.1 (Nat.le_of_ble_eq_true rfl) 93 rfl dX3_readCondition_90 (fun v_24 H locs hq24_ hw => ?_)
      obtain ⟨y80_24, y83_24, y84_24, y86_24, ev24_, hh24_⟩ := hq24_
      rw [ev24_] at hw; clear ev24_
      have hw : WK D cy T (upV (upV (upV (upV v_0 80 y80_24) 83 y83_24) 84 y84_24) 86 y86_24) A0 s.heap H locs := cw_eq hw (by first | rfl | (funext j_; simp only [upV, reduceIte]; (repeat' split) <;> first | rfl | omega | (subst_vars; rfl)))
      have hh24_ : 0 ≤ (y86_24 o) ∧ (y86_24 o) ≤ 400 := hh24_
      refine j_aload_n E 94 rfl dX3_readCondition_93 rfl (lv_at hl 1 rfl) ?_
      refine j_sipush E 97 rfl dX3_readCondition_94 (by decide) ?_
      refine kV_v E (c_X3_emit l D cy T (upV (upV (upV (upV v_0 80 y80_24) 83 y83_24) 84 y84_24) 86 y86_24) o ((-306))  t_o (rr (by decide)) (show 0 ≤ (y86_24 o) ∧ (y86_24 o) ≤ 400 from by omega)) mt_X3_emit ml_X3_60 hK hw (cw_rc4 hK hw.1 t_o) hA ⟨Nat.le_of_ble_eq_true rfl, Nat.le_of_ble_eq_true rfl⟩ ⟨Nat.le_of_ble_eq_true rfl, Nat.le_of_ble_eq_true rfl⟩ (As := [.int (J ((-306)))]) (rest := []) rfl rfl hl.1 (Nat.le_of_ble_eq_true rfl) 100 rfl dX3_readCondition_97 (fun v_25 H locs hq25_ hw => ?_)
      obtain ⟨y86_25, ev25_, hh25_⟩ := hq25_
      rw [ev25_] at hw; clear ev25_
      have hw : WK D cy T (upV (upV (upV (upV v_0 80 y80_24) 83 y83_24) 84 y84_24) 86 y86_25) A0 s.heap H locs := cw_eq hw (by first | rfl | (funext j_; simp only [upV, reduceIte]; (repeat' split) <;> first | rfl | omega | (subst_vars; rfl)))
      have hh25_ : 0 ≤ (y86_25 o) ∧ (y86_25 o) ≤ 400 := hh25_
      refine j_goto E 126 dX3_readCondition_100 (by decide) ?_
      exact hret 126 (upV (upV (upV (upV v_0 80 y80_24) 83 y83_24) 84 y84_24) 86 y86_25) _ _ ls hw ⟨y80_24, y83_24, y84_24, y86_25, rfl, by first | omega | (simp only [upB_same]; omega)⟩ dX3_readCondition_126
set_option maxHeartbeats 4000000 in
set_option maxRecDepth 100000 in
theorem c_X3_readConditions_n2 (l : Launch) (D : va_G) (cy : Nat → ClassId) (T : Nat → Nat → Nat) (v_0 : Nat → Nat → Int) (κ : Nat → Nat → Nat) (o : Nat) (hO : ∀ x, ow T x → κ 2 2 ≤ x) (t_o : T 0 o = 4) (hp0 : 0 ≤ (v_0 86 o) ∧ (v_0 86 o) ≤ 400) : KZ l D cy κ T yX3_readConditions cX3_readConditions 5 none 18 [.ref o, .int (J 2)] v_0 (KV (fun (v_2 : Nat → Nat → Int) => ∃ (y80_2 : Nat → Int) (y83_2 : Nat → Int) (y84_2 : Nat → Int) (y86_2 : Nat → Int) , v_2 = upV (upV (upV (upV v_0 80 y80_2) 83 y83_2) 84 y84_2) 86 y86_2 ∧ (0 ≤ (y86_2 o) ∧ (y86_2 o) ≤ 400))) := by
  refine KZ.ofv (by decide) (Nat.le_of_ble_eq_true rfl) hO ?_
  intro p e s m below meth c ls ar QW A0 H locs E hK hZ hA hAc hw hl hret
  have hl : lv_has ls 5 [(0, .ref o), (1, .int (J 2))] := hl
  have hT : WT T := hw.1.2.1
  refine j_aload_n E 1 rfl dX3_readConditions_0 rfl (lv_at hl 0 rfl) ?_
  refine j_iload_n E 2 rfl dX3_readConditions_1 rfl (lv_at hl 1 rfl) ?_
  refine zV_v E (c_X3_readCondition_n2 l D cy T (v_0) κ o  hO t_o  (show 0 ≤ ((v_0 86) o) ∧ ((v_0 86) o) ≤ 400 from by omega)) mt_X3_readCondition ml_X3_85 hK hZ hAc hw (cw_rc4 hK hw.1 t_o) hA ⟨Nat.le_of_ble_eq_true rfl, Nat.le_of_ble_eq_true rfl⟩ ⟨Nat.le_of_ble_eq_true rfl, Nat.le_of_ble_eq_true rfl⟩ (As := [.int (J 2)]) (rest := []) rfl rfl hl.1 (Nat.le_of_ble_eq_true rfl) 5 rfl dX3_readConditions_2 (fun v_1 H locs hq1_ hw => ?_)
  obtain ⟨y80_1, y83_1, y84_1, y86_1, ev1_, hh1_⟩ := hq1_
  rw [ev1_] at hw; clear ev1_
  have hw : WK D cy T (upV (upV (upV (upV v_0 80 y80_1) 83 y83_1) 84 y84_1) 86 y86_1) A0 s.heap H locs := cw_eq hw (by first | rfl | (funext j_; simp only [upV, reduceIte]; (repeat' split) <;> first | rfl | omega | (subst_vars; rfl)))
  have hh1_ : 0 ≤ (y86_1 o) ∧ (y86_1 o) ≤ 400 := hh1_
  refine j_iconst E 6 rfl dX3_readConditions_5 ?_
  refine j_istore_n E 7 rfl [(2, .int (J 0)), (0, .ref o), (1, .int (J 2))] dX3_readConditions_6 rfl hl (by decide) rfl (fun ls hl => ?_)
  refine j_iconst E 8 rfl dX3_readConditions_7 ?_
  refine j_istore_n E 9 rfl [(3, .int (J 0)), (2, .int (J 0)), (0, .ref o), (1, .int (J 2))] dX3_readConditions_8 rfl hl (by decide) rfl (fun ls hl => ?_)
  have L9_2 : ∀ (k9 : Nat) (l2_9 l3_9 : Int) (y80_c9 : Nat → Int) (y83_c9 : Nat → Int) (y84_c9 : Nat → Int) (y86_c9 : Nat → Int) (H : Heap) (locs : List Loc) (ls : Array Slot), inR l2_9 → inR l3_9 → (0 ≤ (y86_c9 o) ∧ (y86_c9 o) ≤ 400) → (400 - l3_9).toNat < k9 → WK D cy T (upV (upV (upV (upV v_0 80 y80_c9) 83 y83_c9) 84 y84_c9) 86 y86_c9) A0 s.heap H locs → lv_has ls 5 [(0, .ref o), (1, .int (J 2)), (2, .int (J l2_9)), (3, .int (J l3_9))] → W p l e (rmd 18 0 0) s m ar below meth c H locs 0 0 QW (F0 m 9 ls []) := by
    intro k9
    induction k9 with
    | zero =>
      intro l2_9 l3_9 y80_c9 y83_c9 y84_c9 y86_c9 H locs ls r_l2_9 r_l3_9 iv9 ms9 hw hl
      exact absurd ms9 (Nat.not_lt_zero _)
    | succ k9 ih9 =>
      intro l2_9 l3_9 y80_c9 y83_c9 y84_c9 y86_c9 H locs ls r_l2_9 r_l3_9 iv9 ms9 hw hl
      refine j_iload_n E 10 rfl dX3_readConditions_9 rfl (lv_at hl 3 rfl) ?_
      refine j_sipush E 13 rfl dX3_readConditions_10 (by decide) ?_
      refine j_icmp_ge E 16 111 rfl r_l3_9 (rr (by decide)) dX3_readConditions_13 (by decide) (fun cc4_ => ?_) (fun cc4_ => ?_)
      · refine j_iload_n E 112 rfl dX3_readConditions_111 rfl (lv_at hl 2 rfl) ?_
        refine j_if_eq E 115 122 rfl r_l2_9 dX3_readConditions_112 (by decide) (fun cc5_ => ?_) (fun cc5_ => ?_)
        · exact hret 122 (upV (upV (upV (upV v_0 80 y80_c9) 83 y83_c9) 84 y84_c9) 86 y86_c9) _ _ ls hw ⟨y80_c9, y83_c9, y84_c9, y86_c9, rfl, by first | omega | (simp only [upB_same]; omega)⟩ dX3_readConditions_122
        · refine j_aload_n E 116 rfl dX3_readConditions_115 rfl (lv_at hl 0 rfl) ?_
          refine j_sipush E 119 rfl dX3_readConditions_116 (by decide) ?_
          refine kV_v E (c_X3_emit l D cy T (upV (upV (upV (upV v_0 80 y80_c9) 83 y83_c9) 84 y84_c9) 86 y86_c9) o ((-304))  t_o (rr (by decide)) (show 0 ≤ (y86_c9 o) ∧ (y86_c9 o) ≤ 400 from by omega)) mt_X3_emit ml_X3_60 hK hw (cw_rc4 hK hw.1 t_o) hA ⟨Nat.le_of_ble_eq_true rfl, Nat.le_of_ble_eq_true rfl⟩ ⟨Nat.le_of_ble_eq_true rfl, Nat.le_of_ble_eq_true rfl⟩ (As := [.int (J ((-304)))]) (rest := []) rfl rfl hl.1 (Nat.le_of_ble_eq_true rfl) 122 rfl dX3_readConditions_119 (fun v_6 H locs hq6_ hw => ?_)
          obtain ⟨y86_6, ev6_, hh6_⟩ := hq6_
          rw [ev6_] at hw; clear ev6_
          have hw : WK D cy T (upV (upV (upV (upV v_0 80 y80_c9) 83 y83_c9) 84 y84_c9) 86 y86_6) A0 s.heap H locs := cw_eq hw (by first | rfl | (funext j_; simp only [upV, reduceIte]; (repeat' split) <;> first | rfl | omega | (subst_vars; rfl)))
          have hh6_ : 0 ≤ (y86_6 o) ∧ (y86_6 o) ≤ 400 := hh6_
          exact hret 122 (upV (upV (upV (upV v_0 80 y80_c9) 83 y83_c9) 84 y84_c9) 86 y86_6) _ _ ls hw ⟨y80_c9, y83_c9, y84_c9, y86_6, rfl, by first | omega | (simp only [upB_same]; omega)⟩ dX3_readConditions_122
      · refine j_aload_n E 17 rfl dX3_readConditions_16 rfl (lv_at hl 0 rfl) ?_
        refine g_84 E hK hw fl_X3_30 t_o (y84_c9 o) rfl 20 rfl dX3_readConditions_17 (fun rr7_ => ?_)
        refine j_sipush E 23 rfl dX3_readConditions_20 (by decide) ?_
        refine j_icmp_eq E 26 36 rfl rr7_ (rr (by decide)) dX3_readConditions_23 (by decide) (fun cc8_ => ?_) (fun cc8_ => ?_)
        · have L51_9 : ∀ (s0_51 : Int) (H : Heap) (locs : List Loc) (ls : Array Slot), inR s0_51 → (True) → WK D cy T (upV (upV (upV (upV v_0 80 y80_c9) 83 y83_c9) 84 y84_c9) 86 y86_c9) A0 s.heap H locs → lv_has ls 5 [(0, .ref o), (1, .int (J 2)), (2, .int (J l2_9)), (3, .int (J l3_9))] → W p l e (rmd 18 0 0) s m ar below meth c H locs 0 0 QW (F0 m 51 ls [.int (J s0_51)]) := by
            intro s0_51 H locs ls r_s0_51 iv51 hw hl
            refine j_istore E 53 rfl [(4, .int (J s0_51)), (0, .ref o), (1, .int (J 2)), (2, .int (J l2_9)), (3, .int (J l3_9))] dX3_readConditions_51 hl (by decide) rfl (fun ls hl => ?_)
            have L69_11 : ∀ (y86_c69 : Nat → Int) (H : Heap) (locs : List Loc) (ls : Array Slot), (0 ≤ (y86_c69 o) ∧ (y86_c69 o) ≤ 400) → WK D cy T (upV (upV (upV (upV v_0 80 y80_c9) 83 y83_c9) 84 y84_c9) 86 y86_c69) A0 s.heap H locs → lv_has ls 5 [(0, .ref o), (1, .int (J 2)), (2, .int (J l2_9)), (3, .int (J l3_9)), (4, .int (J s0_51))] → W p l e (rmd 18 0 0) s m ar below meth c H locs 0 0 QW (F0 m 69 ls []) := by
              intro y86_c69 H locs ls iv69 hw hl
              refine j_aload_n E 70 rfl dX3_readConditions_69 rfl (lv_at hl 0 rfl) ?_
              refine zV_v E (c_X3_step l D cy T (upV (upV (upV (upV v_0 80 y80_c9) 83 y83_c9) 84 y84_c9) 86 y86_c69) κ o  hO t_o  ) mt_X3_step ml_X3_54 hK hZ hAc hw (cw_rc4 hK hw.1 t_o) hA ⟨Nat.le_of_ble_eq_true rfl, Nat.le_of_ble_eq_true rfl⟩ ⟨Nat.le_of_ble_eq_true rfl, Nat.le_of_ble_eq_true rfl⟩ (As := []) (rest := []) rfl rfl hl.1 (Nat.le_of_ble_eq_true rfl) 73 rfl dX3_readConditions_70 (fun v_13 H locs hq13_ hw => ?_)
              obtain ⟨y83_13, y84_13, ev13_, hh13_⟩ := hq13_
              rw [ev13_] at hw; clear ev13_
              have hw : WK D cy T (upV (upV (upV (upV v_0 80 y80_c9) 83 y83_13) 84 y84_13) 86 y86_c69) A0 s.heap H locs := cw_eq hw (by first | rfl | (funext j_; simp only [upV, reduceIte]; (repeat' split) <;> first | rfl | omega | (subst_vars; rfl)))
              refine j_aload_n E 74 rfl dX3_readConditions_73 rfl (lv_at hl 0 rfl) ?_
              refine j_iload_n E 75 rfl dX3_readConditions_74 rfl (lv_at hl 1 rfl) ?_
              refine zV_v E (c_X3_readCondition_n2 l D cy T (upV (upV (upV (upV v_0 80 y80_c9) 83 y83_13) 84 y84_13) 86 y86_c69) κ o  hO t_o  (show 0 ≤ (y86_c69 o) ∧ (y86_c69 o) ≤ 400 from by omega)) mt_X3_readCondition ml_X3_85 hK hZ hAc hw (cw_rc4 hK hw.1 t_o) hA ⟨Nat.le_of_ble_eq_true rfl, Nat.le_of_ble_eq_true rfl⟩ ⟨Nat.le_of_ble_eq_true rfl, Nat.le_of_ble_eq_true rfl⟩ (As := [.int (J 2)]) (rest := []) rfl rfl hl.1 (Nat.le_of_ble_eq_true rfl) 78 rfl dX3_readConditions_75 (fun v_14 H locs hq14_ hw => ?_)
              obtain ⟨y80_14, y83_14, y84_14, y86_14, ev14_, hh14_⟩ := hq14_
              rw [ev14_] at hw; clear ev14_
              have hw : WK D cy T (upV (upV (upV (upV v_0 80 y80_14) 83 y83_14) 84 y84_14) 86 y86_14) A0 s.heap H locs := cw_eq hw (by first | rfl | (funext j_; simp only [upV, reduceIte]; (repeat' split) <;> first | rfl | omega | (subst_vars; rfl)))
              have hh14_ : 0 ≤ (y86_14 o) ∧ (y86_14 o) ≤ 400 := hh14_
              have L90_15 : ∀ (y86_c90 : Nat → Int) (H : Heap) (locs : List Loc) (ls : Array Slot), (0 ≤ (y86_c90 o) ∧ (y86_c90 o) ≤ 400) → WK D cy T (upV (upV (upV (upV v_0 80 y80_14) 83 y83_14) 84 y84_14) 86 y86_c90) A0 s.heap H locs → lv_has ls 5 [(0, .ref o), (1, .int (J 2)), (2, .int (J l2_9)), (3, .int (J l3_9)), (4, .int (J s0_51))] → W p l e (rmd 18 0 0) s m ar below meth c H locs 0 0 QW (F0 m 90 ls []) := by
                intro y86_c90 H locs ls iv90 hw hl
                have L104_17 : ∀ (s0_104 : Int) (H : Heap) (locs : List Loc) (ls : Array Slot), inR s0_104 → (True) → WK D cy T (upV (upV (upV (upV v_0 80 y80_14) 83 y83_14) 84 y84_14) 86 y86_c90) A0 s.heap H locs → lv_has ls 5 [(0, .ref o), (1, .int (J 2)), (2, .int (J l2_9)), (3, .int (J l3_9)), (4, .int (J s0_51))] → W p l e (rmd 18 0 0) s m ar below meth c H locs 0 0 QW (F0 m 104 ls [.int (J s0_104)]) := by
                  intro s0_104 H locs ls r_s0_104 iv104 hw hl
                  refine j_istore_n E 105 rfl [(2, .int (J s0_104)), (0, .ref o), (1, .int (J 2)), (3, .int (J l3_9)), (4, .int (J s0_51))] dX3_readConditions_104 rfl hl (by decide) rfl (fun ls hl => ?_)
                  refine j_iinc E 108 rfl [(3, .int (J (l3_9 + 1))), (2, .int (J s0_104)), (0, .ref o), (1, .int (J 2)), (4, .int (J s0_51))] dX3_readConditions_105 hl (kk := 3) rfl (by decide) rfl (fun ls hl => ?_)
                  refine j_goto E 9 dX3_readConditions_108 (by decide) ?_
                  exact ih9 s0_104 (l3_9 + 1) y80_14 y83_14 y84_14 y86_c90 H locs ls r_s0_104 (rr (by omega)) (by first | omega | (simp only [upB_same]; omega)) (by omega) hw (lv_sub hl [2, 3, 1, 0] rfl)
                refine j_iload_n E 91 rfl dX3_readConditions_90 rfl (lv_at hl 2 rfl) ?_
                refine j_if_ne E 94 99 rfl r_l2_9 dX3_readConditions_91 (by decide) (fun cc19_ => ?_) (fun cc19_ => ?_)
                · refine j_iconst E 100 rfl dX3_readConditions_99 ?_
                  refine j_goto E 104 dX3_readConditions_100 (by decide) ?_
                  exact L104_17 1  H locs ls (rr (by decide)) (trivial) hw (lv_sub hl [0, 1, 2, 3, 4] rfl)
                · refine j_iload E 96 rfl dX3_readConditions_94 (lv_at hl 4 rfl) ?_
                  refine j_if_ne E 99 103 rfl r_s0_51 dX3_readConditions_96 (by decide) (fun cc20_ => ?_) (fun cc20_ => ?_)
                  · refine j_iconst E 104 rfl dX3_readConditions_103 ?_
                    exact L104_17 0  H locs ls (rr (by decide)) (trivial) hw (lv_sub hl [0, 1, 2, 3, 4] rfl)
                  · refine j_iconst E 100 rfl dX3_readConditions_99 ?_
                    refine j_goto E 104 dX3_readConditions_100 (by decide) ?_
                    exact L104_17 1  H locs ls (rr (by decide)) (trivial) hw (lv_sub hl [0, 1, 2, 3, 4] rfl)
              refine j_iload E 80 rfl dX3_readConditions_78 (lv_at hl 4 rfl) ?_
              refine j_if_eq E 83 90 rfl r_s0_51 dX3_readConditions_80 (by decide) (fun cc21_ => ?_) (fun cc21_ => ?_)
              · exact L90_15  y86_14 H locs ls  (by first | omega | (simp only [upB_same]; omega)) hw (lv_sub hl [0, 1, 2, 3, 4] rfl)
              · refine j_aload_n E 84 rfl dX3_readConditions_83 rfl (lv_at hl 0 rfl) ?_
                refine j_sipush E 87 rfl dX3_readConditions_84 (by decide) ?_
                refine kV_v E (c_X3_emit l D cy T (upV (upV (upV (upV v_0 80 y80_14) 83 y83_14) 84 y84_14) 86 y86_14) o ((-305))  t_o (rr (by decide)) (show 0 ≤ (y86_14 o) ∧ (y86_14 o) ≤ 400 from by omega)) mt_X3_emit ml_X3_60 hK hw (cw_rc4 hK hw.1 t_o) hA ⟨Nat.le_of_ble_eq_true rfl, Nat.le_of_ble_eq_true rfl⟩ ⟨Nat.le_of_ble_eq_true rfl, Nat.le_of_ble_eq_true rfl⟩ (As := [.int (J ((-305)))]) (rest := []) rfl rfl hl.1 (Nat.le_of_ble_eq_true rfl) 90 rfl dX3_readConditions_87 (fun v_22 H locs hq22_ hw => ?_)
                obtain ⟨y86_22, ev22_, hh22_⟩ := hq22_
                rw [ev22_] at hw; clear ev22_
                have hw : WK D cy T (upV (upV (upV (upV v_0 80 y80_14) 83 y83_14) 84 y84_14) 86 y86_22) A0 s.heap H locs := cw_eq hw (by first | rfl | (funext j_; simp only [upV, reduceIte]; (repeat' split) <;> first | rfl | omega | (subst_vars; rfl)))
                have hh22_ : 0 ≤ (y86_22 o) ∧ (y86_22 o) ≤ 400 := hh22_
                exact L90_15  y86_22 H locs ls  (by first | omega | (simp only [upB_same]; omega)) hw (lv_sub hl [0, 1, 2, 3, 4] rfl)
            refine j_iload E 55 rfl dX3_readConditions_53 (lv_at hl 0 rfl) ?_
            refine j_if_ne E 58 69 rfl r_s0_51 dX3_readConditions_55 (by decide) (fun cc23_ => ?_) (fun cc23_ => ?_)
            · exact L69_11  y86_c9 H locs ls  (by first | omega | (simp only [upB_same]; omega)) hw (lv_sub hl [1, 2, 3, 4, 0] rfl)
            · refine j_iload_n E 59 rfl dX3_readConditions_58 rfl (lv_at hl 3 rfl) ?_
              refine j_if_eq E 62 69 rfl r_l2_9 dX3_readConditions_59 (by decide) (fun cc24_ => ?_) (fun cc24_ => ?_)
              · exact L69_11  y86_c9 H locs ls  (by first | omega | (simp only [upB_same]; omega)) hw (lv_sub hl [1, 2, 3, 4, 0] rfl)
              · refine j_aload_n E 63 rfl dX3_readConditions_62 rfl (lv_at hl 1 rfl) ?_
                refine j_sipush E 66 rfl dX3_readConditions_63 (by decide) ?_
                refine kV_v E (c_X3_emit l D cy T (upV (upV (upV (upV v_0 80 y80_c9) 83 y83_c9) 84 y84_c9) 86 y86_c9) o ((-304))  t_o (rr (by decide)) (show 0 ≤ (y86_c9 o) ∧ (y86_c9 o) ≤ 400 from by omega)) mt_X3_emit ml_X3_60 hK hw (cw_rc4 hK hw.1 t_o) hA ⟨Nat.le_of_ble_eq_true rfl, Nat.le_of_ble_eq_true rfl⟩ ⟨Nat.le_of_ble_eq_true rfl, Nat.le_of_ble_eq_true rfl⟩ (As := [.int (J ((-304)))]) (rest := []) rfl rfl hl.1 (Nat.le_of_ble_eq_true rfl) 69 rfl dX3_readConditions_66 (fun v_25 H locs hq25_ hw => ?_)
                obtain ⟨y86_25, ev25_, hh25_⟩ := hq25_
                rw [ev25_] at hw; clear ev25_
                have hw : WK D cy T (upV (upV (upV (upV v_0 80 y80_c9) 83 y83_c9) 84 y84_c9) 86 y86_25) A0 s.heap H locs := cw_eq hw (by first | rfl | (funext j_; simp only [upV, reduceIte]; (repeat' split) <;> first | rfl | omega | (subst_vars; rfl)))
                have hh25_ : 0 ≤ (y86_25 o) ∧ (y86_25 o) ≤ 400 := hh25_
                exact L69_11  y86_25 H locs ls  (by first | omega | (simp only [upB_same]; omega)) hw (lv_sub hl [1, 2, 3, 4, 0] rfl)
          refine j_aload_n E 37 rfl dX3_readConditions_36 rfl (lv_at hl 0 rfl) ?_
          refine g_84 E hK hw fl_X3_30 t_o (y84_c9 o) rfl 40 rfl dX3_readConditions_37 (fun _ => ?_)
          refine j_sipush E 43 rfl dX3_readConditions_40 (by decide) ?_
          refine j_icmp_ne E 46 50 rfl rr7_ (rr (by decide)) dX3_readConditions_43 (by decide) (fun cc26_ => ?_) (fun cc26_ => ?_)
          · exfalso; omega
          refine j_iconst E 47 rfl dX3_readConditions_46 ?_
          refine j_goto E 51 dX3_readConditions_47 (by decide) ?_
          exact L51_9 1  H locs ls (rr (by decide)) (trivial) hw (lv_sub hl [0, 1, 2, 3] rfl)
        · refine j_aload_n E 27 rfl dX3_readConditions_26 rfl (lv_at hl 0 rfl) ?_
          refine g_84 E hK hw fl_X3_30 t_o (y84_c9 o) rfl 30 rfl dX3_readConditions_27 (fun _ => ?_)
          refine j_sipush E 33 rfl dX3_readConditions_30 (by decide) ?_
          refine j_icmp_ne E 36 111 rfl rr7_ (rr (by decide)) dX3_readConditions_33 (by decide) (fun cc27_ => ?_) (fun cc27_ => ?_)
          · refine j_iload_n E 112 rfl dX3_readConditions_111 rfl (lv_at hl 2 rfl) ?_
            refine j_if_eq E 115 122 rfl r_l2_9 dX3_readConditions_112 (by decide) (fun cc28_ => ?_) (fun cc28_ => ?_)
            · exact hret 122 (upV (upV (upV (upV v_0 80 y80_c9) 83 y83_c9) 84 y84_c9) 86 y86_c9) _ _ ls hw ⟨y80_c9, y83_c9, y84_c9, y86_c9, rfl, by first | omega | (simp only [upB_same]; omega)⟩ dX3_readConditions_122
            · refine j_aload_n E 116 rfl dX3_readConditions_115 rfl (lv_at hl 0 rfl) ?_
              refine j_sipush E 119 rfl dX3_readConditions_116 (by decide) ?_
              refine kV_v E (c_X3_emit l D cy T (upV (upV (upV (upV v_0 80 y80_c9) 83 y83_c9) 84 y84_c9) 86 y86_c9) o ((-304))  t_o (rr (by decide)) (show 0 ≤ (y86_c9 o) ∧ (y86_c9 o) ≤ 400 from by omega)) mt_X3_emit ml_X3_60 hK hw (cw_rc4 hK hw.1 t_o) hA ⟨Nat.le_of_ble_eq_true rfl, Nat.le_of_ble_eq_true rfl⟩ ⟨Nat.le_of_ble_eq_true rfl, Nat.le_of_ble_eq_true rfl⟩ (As := [.int (J ((-304)))]) (rest := []) rfl rfl hl.1 (Nat.le_of_ble_eq_true rfl) 122 rfl dX3_readConditions_119 (fun v_29 H locs hq29_ hw => ?_)
              obtain ⟨y86_29, ev29_, hh29_⟩ := hq29_
              rw [ev29_] at hw; clear ev29_
              have hw : WK D cy T (upV (upV (upV (upV v_0 80 y80_c9) 83 y83_c9) 84 y84_c9) 86 y86_29) A0 s.heap H locs := cw_eq hw (by first | rfl | (funext j_; simp only [upV, reduceIte]; (repeat' split) <;> first | rfl | omega | (subst_vars; rfl)))
              have hh29_ : 0 ≤ (y86_29 o) ∧ (y86_29 o) ≤ 400 := hh29_
              exact hret 122 (upV (upV (upV (upV v_0 80 y80_c9) 83 y83_c9) 84 y84_c9) 86 y86_29) _ _ ls hw ⟨y80_c9, y83_c9, y84_c9, y86_29, rfl, by first | omega | (simp only [upB_same]; omega)⟩ dX3_readConditions_122
          · have L51_30 : ∀ (s0_51 : Int) (H : Heap) (locs : List Loc) (ls : Array Slot), inR s0_51 → (True) → WK D cy T (upV (upV (upV (upV v_0 80 y80_c9) 83 y83_c9) 84 y84_c9) 86 y86_c9) A0 s.heap H locs → lv_has ls 5 [(0, .ref o), (1, .int (J 2)), (2, .int (J l2_9)), (3, .int (J l3_9))] → W p l e (rmd 18 0 0) s m ar below meth c H locs 0 0 QW (F0 m 51 ls [.int (J s0_51)]) := by
              intro s0_51 H locs ls r_s0_51 iv51 hw hl
              refine j_istore E 53 rfl [(4, .int (J s0_51)), (0, .ref o), (1, .int (J 2)), (2, .int (J l2_9)), (3, .int (J l3_9))] dX3_readConditions_51 hl (by decide) rfl (fun ls hl => ?_)
              have L69_32 : ∀ (y86_c69 : Nat → Int) (H : Heap) (locs : List Loc) (ls : Array Slot), (0 ≤ (y86_c69 o) ∧ (y86_c69 o) ≤ 400) → WK D cy T (upV (upV (upV (upV v_0 80 y80_c9) 83 y83_c9) 84 y84_c9) 86 y86_c69) A0 s.heap H locs → lv_has ls 5 [(0, .ref o), (1, .int (J 2)), (2, .int (J l2_9)), (3, .int (J l3_9)), (4, .int (J s0_51))] → W p l e (rmd 18 0 0) s m ar below meth c H locs 0 0 QW (F0 m 69 ls []) := by
                intro y86_c69 H locs ls iv69 hw hl
                refine j_aload_n E 70 rfl dX3_readConditions_69 rfl (lv_at hl 0 rfl) ?_
                refine zV_v E (c_X3_step l D cy T (upV (upV (upV (upV v_0 80 y80_c9) 83 y83_c9) 84 y84_c9) 86 y86_c69) κ o  hO t_o  ) mt_X3_step ml_X3_54 hK hZ hAc hw (cw_rc4 hK hw.1 t_o) hA ⟨Nat.le_of_ble_eq_true rfl, Nat.le_of_ble_eq_true rfl⟩ ⟨Nat.le_of_ble_eq_true rfl, Nat.le_of_ble_eq_true rfl⟩ (As := []) (rest := []) rfl rfl hl.1 (Nat.le_of_ble_eq_true rfl) 73 rfl dX3_readConditions_70 (fun v_34 H locs hq34_ hw => ?_)
                obtain ⟨y83_34, y84_34, ev34_, hh34_⟩ := hq34_
                rw [ev34_] at hw; clear ev34_
                have hw : WK D cy T (upV (upV (upV (upV v_0 80 y80_c9) 83 y83_34) 84 y84_34) 86 y86_c69) A0 s.heap H locs := cw_eq hw (by first | rfl | (funext j_; simp only [upV, reduceIte]; (repeat' split) <;> first | rfl | omega | (subst_vars; rfl)))
                refine j_aload_n E 74 rfl dX3_readConditions_73 rfl (lv_at hl 0 rfl) ?_
                refine j_iload_n E 75 rfl dX3_readConditions_74 rfl (lv_at hl 1 rfl) ?_
                refine zV_v E (c_X3_readCondition_n2 l D cy T (upV (upV (upV (upV v_0 80 y80_c9) 83 y83_34) 84 y84_34) 86 y86_c69) κ o  hO t_o  (show 0 ≤ (y86_c69 o) ∧ (y86_c69 o) ≤ 400 from by omega)) mt_X3_readCondition ml_X3_85 hK hZ hAc hw (cw_rc4 hK hw.1 t_o) hA ⟨Nat.le_of_ble_eq_true rfl, Nat.le_of_ble_eq_true rfl⟩ ⟨Nat.le_of_ble_eq_true rfl, Nat.le_of_ble_eq_true rfl⟩ (As := [.int (J 2)]) (rest := []) rfl rfl hl.1 (Nat.le_of_ble_eq_true rfl) 78 rfl dX3_readConditions_75 (fun v_35 H locs hq35_ hw => ?_)
                obtain ⟨y80_35, y83_35, y84_35, y86_35, ev35_, hh35_⟩ := hq35_
                rw [ev35_] at hw; clear ev35_
                have hw : WK D cy T (upV (upV (upV (upV v_0 80 y80_35) 83 y83_35) 84 y84_35) 86 y86_35) A0 s.heap H locs := cw_eq hw (by first | rfl | (funext j_; simp only [upV, reduceIte]; (repeat' split) <;> first | rfl | omega | (subst_vars; rfl)))
                have hh35_ : 0 ≤ (y86_35 o) ∧ (y86_35 o) ≤ 400 := hh35_
                have L90_36 : ∀ (y86_c90 : Nat → Int) (H : Heap) (locs : List Loc) (ls : Array Slot), (0 ≤ (y86_c90 o) ∧ (y86_c90 o) ≤ 400) → WK D cy T (upV (upV (upV (upV v_0 80 y80_35) 83 y83_35) 84 y84_35) 86 y86_c90) A0 s.heap H locs → lv_has ls 5 [(0, .ref o), (1, .int (J 2)), (2, .int (J l2_9)), (3, .int (J l3_9)), (4, .int (J s0_51))] → W p l e (rmd 18 0 0) s m ar below meth c H locs 0 0 QW (F0 m 90 ls []) := by
                  intro y86_c90 H locs ls iv90 hw hl
                  have L104_38 : ∀ (s0_104 : Int) (H : Heap) (locs : List Loc) (ls : Array Slot), inR s0_104 → (True) → WK D cy T (upV (upV (upV (upV v_0 80 y80_35) 83 y83_35) 84 y84_35) 86 y86_c90) A0 s.heap H locs → lv_has ls 5 [(0, .ref o), (1, .int (J 2)), (2, .int (J l2_9)), (3, .int (J l3_9)), (4, .int (J s0_51))] → W p l e (rmd 18 0 0) s m ar below meth c H locs 0 0 QW (F0 m 104 ls [.int (J s0_104)]) := by
                    intro s0_104 H locs ls r_s0_104 iv104 hw hl
                    refine j_istore_n E 105 rfl [(2, .int (J s0_104)), (0, .ref o), (1, .int (J 2)), (3, .int (J l3_9)), (4, .int (J s0_51))] dX3_readConditions_104 rfl hl (by decide) rfl (fun ls hl => ?_)
                    refine j_iinc E 108 rfl [(3, .int (J (l3_9 + 1))), (2, .int (J s0_104)), (0, .ref o), (1, .int (J 2)), (4, .int (J s0_51))] dX3_readConditions_105 hl (kk := 3) rfl (by decide) rfl (fun ls hl => ?_)
                    refine j_goto E 9 dX3_readConditions_108 (by decide) ?_
                    exact ih9 s0_104 (l3_9 + 1) y80_35 y83_35 y84_35 y86_c90 H locs ls r_s0_104 (rr (by omega)) (by first | omega | (simp only [upB_same]; omega)) (by omega) hw (lv_sub hl [2, 3, 1, 0] rfl)
                  refine j_iload_n E 91 rfl dX3_readConditions_90 rfl (lv_at hl 2 rfl) ?_
                  refine j_if_ne E 94 99 rfl r_l2_9 dX3_readConditions_91 (by decide) (fun cc40_ => ?_) (fun cc40_ => ?_)
                  · refine j_iconst E 100 rfl dX3_readConditions_99 ?_
                    refine j_goto E 104 dX3_readConditions_100 (by decide) ?_
                    exact L104_38 1  H locs ls (rr (by decide)) (trivial) hw (lv_sub hl [0, 1, 2, 3, 4] rfl)
                  · refine j_iload E 96 rfl dX3_readConditions_94 (lv_at hl 4 rfl) ?_
                    refine j_if_ne E 99 103 rfl r_s0_51 dX3_readConditions_96 (by decide) (fun cc41_ => ?_) (fun cc41_ => ?_)
                    · refine j_iconst E 104 rfl dX3_readConditions_103 ?_
                      exact L104_38 0  H locs ls (rr (by decide)) (trivial) hw (lv_sub hl [0, 1, 2, 3, 4] rfl)
                    · refine j_iconst E 100 rfl dX3_readConditions_99 ?_
                      refine j_goto E 104 dX3_readConditions_100 (by decide) ?_
                      exact L104_38 1  H locs ls (rr (by decide)) (trivial) hw (lv_sub hl [0, 1, 2, 3, 4] rfl)
                refine j_iload E 80 rfl dX3_readConditions_78 (lv_at hl 4 rfl) ?_
                refine j_if_eq E 83 90 rfl r_s0_51 dX3_readConditions_80 (by decide) (fun cc42_ => ?_) (fun cc42_ => ?_)
                · exact L90_36  y86_35 H locs ls  (by first | omega | (simp only [upB_same]; omega)) hw (lv_sub hl [0, 1, 2, 3, 4] rfl)
                · refine j_aload_n E 84 rfl dX3_readConditions_83 rfl (lv_at hl 0 rfl) ?_
                  refine j_sipush E 87 rfl dX3_readConditions_84 (by decide) ?_
                  refine kV_v E (c_X3_emit l D cy T (upV (upV (upV (upV v_0 80 y80_35) 83 y83_35) 84 y84_35) 86 y86_35) o ((-305))  t_o (rr (by decide)) (show 0 ≤ (y86_35 o) ∧ (y86_35 o) ≤ 400 from by omega)) mt_X3_emit ml_X3_60 hK hw (cw_rc4 hK hw.1 t_o) hA ⟨Nat.le_of_ble_eq_true rfl, Nat.le_of_ble_eq_true rfl⟩ ⟨Nat.le_of_ble_eq_true rfl, Nat.le_of_ble_eq_true rfl⟩ (As := [.int (J ((-305)))]) (rest := []) rfl rfl hl.1 (Nat.le_of_ble_eq_true rfl) 90 rfl dX3_readConditions_87 (fun v_43 H locs hq43_ hw => ?_)
                  obtain ⟨y86_43, ev43_, hh43_⟩ := hq43_
                  rw [ev43_] at hw; clear ev43_
                  have hw : WK D cy T (upV (upV (upV (upV v_0 80 y80_35) 83 y83_35) 84 y84_35) 86 y86_43) A0 s.heap H locs := cw_eq hw (by first | rfl | (funext j_; simp only [upV, reduceIte]; (repeat' split) <;> first | rfl | omega | (subst_vars; rfl)))
                  have hh43_ : 0 ≤ (y86_43 o) ∧ (y86_43 o) ≤ 400 := hh43_
                  exact L90_36  y86_43 H locs ls  (by first | omega | (simp only [upB_same]; omega)) hw (lv_sub hl [0, 1, 2, 3, 4] rfl)
              refine j_iload E 55 rfl dX3_readConditions_53 (lv_at hl 0 rfl) ?_
              refine j_if_ne E 58 69 rfl r_s0_51 dX3_readConditions_55 (by decide) (fun cc44_ => ?_) (fun cc44_ => ?_)
              · exact L69_32  y86_c9 H locs ls  (by first | omega | (simp only [upB_same]; omega)) hw (lv_sub hl [1, 2, 3, 4, 0] rfl)
              · refine j_iload_n E 59 rfl dX3_readConditions_58 rfl (lv_at hl 3 rfl) ?_
                refine j_if_eq E 62 69 rfl r_l2_9 dX3_readConditions_59 (by decide) (fun cc45_ => ?_) (fun cc45_ => ?_)
                · exact L69_32  y86_c9 H locs ls  (by first | omega | (simp only [upB_same]; omega)) hw (lv_sub hl [1, 2, 3, 4, 0] rfl)
                · refine j_aload_n E 63 rfl dX3_readConditions_62 rfl (lv_at hl 1 rfl) ?_
                  refine j_sipush E 66 rfl dX3_readConditions_63 (by decide) ?_
                  refine kV_v E (c_X3_emit l D cy T (upV (upV (upV (upV v_0 80 y80_c9) 83 y83_c9) 84 y84_c9) 86 y86_c9) o ((-304))  t_o (rr (by decide)) (show 0 ≤ (y86_c9 o) ∧ (y86_c9 o) ≤ 400 from by omega)) mt_X3_emit ml_X3_60 hK hw (cw_rc4 hK hw.1 t_o) hA ⟨Nat.le_of_ble_eq_true rfl, Nat.le_of_ble_eq_true rfl⟩ ⟨Nat.le_of_ble_eq_true rfl, Nat.le_of_ble_eq_true rfl⟩ (As := [.int (J ((-304)))]) (rest := []) rfl rfl hl.1 (Nat.le_of_ble_eq_true rfl) 69 rfl dX3_readConditions_66 (fun v_46 H locs hq46_ hw => ?_)
                  obtain ⟨y86_46, ev46_, hh46_⟩ := hq46_
                  rw [ev46_] at hw; clear ev46_
                  have hw : WK D cy T (upV (upV (upV (upV v_0 80 y80_c9) 83 y83_c9) 84 y84_c9) 86 y86_46) A0 s.heap H locs := cw_eq hw (by first | rfl | (funext j_; simp only [upV, reduceIte]; (repeat' split) <;> first | rfl | omega | (subst_vars; rfl)))
                  have hh46_ : 0 ≤ (y86_46 o) ∧ (y86_46 o) ≤ 400 := hh46_
                  exact L69_32  y86_46 H locs ls  (by first | omega | (simp only [upB_same]; omega)) hw (lv_sub hl [1, 2, 3, 4, 0] rfl)
            refine j_aload_n E 37 rfl dX3_readConditions_36 rfl (lv_at hl 0 rfl) ?_
            refine g_84 E hK hw fl_X3_30 t_o (y84_c9 o) rfl 40 rfl dX3_readConditions_37 (fun _ => ?_)
            refine j_sipush E 43 rfl dX3_readConditions_40 (by decide) ?_
            refine j_icmp_ne E 46 50 rfl rr7_ (rr (by decide)) dX3_readConditions_43 (by decide) (fun cc47_ => ?_) (fun cc47_ => ?_)
            rotate_left; · exfalso; omega
            refine j_iconst E 51 rfl dX3_readConditions_50 ?_
            exact L51_30 0  H locs ls (rr (by decide)) (trivial) hw (lv_sub hl [0, 1, 2, 3] rfl)
  exact L9_2 _ 0 0 y80_1 y83_1 y84_1 y86_1 H locs ls (rr (by decide)) (rr (by decide)) (by first | omega | (simp only [upB_same]; omega)) (Nat.lt_succ_self _) hw (lv_sub hl [2, 3, 1, 0] rfl)
set_option maxHeartbeats 4000000 in
set_option maxRecDepth 100000 in
theorem c_X3_readCondition_n1 (l : Launch) (D : va_G) (cy : Nat → ClassId) (T : Nat → Nat → Nat) (v_0 : Nat → Nat → Int) (κ : Nat → Nat → Nat) (o : Nat) (hO : ∀ x, ow T x → κ 2 2 ≤ x) (t_o : T 0 o = 4) (hp0 : 0 ≤ (v_0 86 o) ∧ (v_0 86 o) ≤ 400) : KZ l D cy κ T yX3_readCondition cX3_readCondition 4 none 19 [.ref o, .int (J 1)] v_0 (KV (fun (v_2 : Nat → Nat → Int) => ∃ (y80_2 : Nat → Int) (y83_2 : Nat → Int) (y84_2 : Nat → Int) (y86_2 : Nat → Int) , v_2 = upV (upV (upV (upV v_0 80 y80_2) 83 y83_2) 84 y84_2) 86 y86_2 ∧ (0 ≤ (y86_2 o) ∧ (y86_2 o) ≤ 400))) := by
  refine KZ.ofv (by decide) (Nat.le_of_ble_eq_true rfl) hO ?_
  intro p e s m below meth c ls ar QW A0 H locs E hK hZ hA hAc hw hl hret
  have hl : lv_has ls 4 [(0, .ref o), (1, .int (J 1))] := hl
  have hT : WT T := hw.1.2.1
  refine j_aload_n E 1 rfl dX3_readCondition_0 rfl (lv_at hl 0 rfl) ?_
  refine g_84 E hK hw fl_X3_30 t_o (v_0 84 o) rfl 4 rfl dX3_readCondition_1 (fun rr1_ => ?_)
  refine j_bipush E 6 rfl dX3_readCondition_4 (by decide) ?_
  refine j_icmp_eq E 9 19 rfl rr1_ (rr (by decide)) dX3_readCondition_6 (by decide) (fun cc2_ => ?_) (fun cc2_ => ?_)
  · refine j_iconst E 20 rfl dX3_readCondition_19 ?_
    refine j_goto E 24 dX3_readCondition_20 (by decide) ?_
    refine j_istore_n E 25 rfl [(2, .int (J 1)), (0, .ref o), (1, .int (J 1))] dX3_readCondition_24 rfl hl (by decide) rfl (fun ls hl => ?_)
    refine j_iload_n E 26 rfl dX3_readCondition_25 rfl (lv_at hl 0 rfl) ?_
    refine j_if_eq E 29 43 rfl (rr (by decide)) dX3_readCondition_26 (by decide) (fun cc3_ => absurd cc3_ (by decide)) (fun _ => ?_)
    refine j_iload_n E 30 rfl dX3_readCondition_29 rfl (lv_at hl 2 rfl) ?_
    refine j_bipush E 32 rfl dX3_readCondition_30 (by decide) ?_
    refine j_icmp_lt E 35 43 rfl (rr (by decide)) (rr (by decide)) dX3_readCondition_32 (by decide) (fun _ => ?_) (fun cc4_ => absurd cc4_ (by decide))
    refine j_aload_n E 44 rfl dX3_readCondition_43 rfl (lv_at hl 1 rfl) ?_
    refine g_84 E hK hw fl_X3_30 t_o (v_0 84 o) rfl 47 rfl dX3_readCondition_44 (fun _ => ?_)
    refine j_bipush E 49 rfl dX3_readCondition_47 (by decide) ?_
    refine j_icmp_ne E 52 72 rfl rr1_ (rr (by decide)) dX3_readCondition_49 (by decide) (fun cc5_ => ?_) (fun cc5_ => ?_)
    · exfalso; omega
    refine j_aload_n E 53 rfl dX3_readCondition_52 rfl (lv_at hl 1 rfl) ?_
    refine zV_v E (c_X3_step l D cy T (v_0) κ o  hO t_o  ) mt_X3_step ml_X3_54 hK hZ hAc hw (cw_rc4 hK hw.1 t_o) hA ⟨Nat.le_of_ble_eq_true rfl, Nat.le_of_ble_eq_true rfl⟩ ⟨Nat.le_of_ble_eq_true rfl, Nat.le_of_ble_eq_true rfl⟩ (As := []) (rest := []) rfl rfl hl.1 (Nat.le_of_ble_eq_true rfl) 56 rfl dX3_readCondition_53 (fun v_6 H locs hq6_ hw => ?_)
    obtain ⟨y83_6, y84_6, ev6_, hh6_⟩ := hq6_
    rw [ev6_] at hw; clear ev6_
    have hw : WK D cy T (upV (upV v_0 83 y83_6) 84 y84_6) A0 s.heap H locs := cw_eq hw (by first | rfl | (funext j_; simp only [upV, reduceIte]; (repeat' split) <;> first | rfl | omega | (subst_vars; rfl)))
    refine j_aload_n E 57 rfl dX3_readCondition_56 rfl (lv_at hl 1 rfl) ?_
    refine j_iload_n E 58 rfl dX3_readCondition_57 rfl (lv_at hl 2 rfl) ?_
    refine j_iconst E 59 rfl dX3_readCondition_58 ?_
    refine j_iadd E 60 rfl dX3_readCondition_59 ?_
    refine j_lit (z := 2) (by decide) ?_
    refine zV_v E (c_X3_readConditions_n2 l D cy T (upV (upV v_0 83 y83_6) 84 y84_6) κ o  hO t_o  (show 0 ≤ ((v_0 86) o) ∧ ((v_0 86) o) ≤ 400 from by omega)) mt_X3_readConditions ml_X3_57 hK hZ hAc hw (cw_rc4 hK hw.1 t_o) hA ⟨Nat.le_of_ble_eq_true rfl, Nat.le_of_ble_eq_true rfl⟩ ⟨Nat.le_of_ble_eq_true rfl, Nat.le_of_ble_eq_true rfl⟩ (As := [.int (J 2)]) (rest := []) rfl rfl hl.1 (Nat.le_of_ble_eq_true rfl) 63 rfl dX3_readCondition_60 (fun v_7 H locs hq7_ hw => ?_)
    obtain ⟨y80_7, y83_7, y84_7, y86_7, ev7_, hh7_⟩ := hq7_
    rw [ev7_] at hw; clear ev7_
    have hw : WK D cy T (upV (upV (upV (upV v_0 80 y80_7) 83 y83_7) 84 y84_7) 86 y86_7) A0 s.heap H locs := cw_eq hw (by first | rfl | (funext j_; simp only [upV, reduceIte]; (repeat' split) <;> first | rfl | omega | (subst_vars; rfl)))
    have hh7_ : 0 ≤ (y86_7 o) ∧ (y86_7 o) ≤ 400 := hh7_
    refine j_aload_n E 64 rfl dX3_readCondition_63 rfl (lv_at hl 1 rfl) ?_
    refine j_bipush E 66 rfl dX3_readCondition_64 (by decide) ?_
    refine zV_v E (c_X3_take l D cy T (upV (upV (upV (upV v_0 80 y80_7) 83 y83_7) 84 y84_7) 86 y86_7) κ o 41  hO t_o (rr (by decide)) ) mt_X3_take ml_X3_47 hK hZ hAc hw (cw_rc4 hK hw.1 t_o) hA ⟨Nat.le_of_ble_eq_true rfl, Nat.le_of_ble_eq_true rfl⟩ ⟨Nat.le_of_ble_eq_true rfl, Nat.le_of_ble_eq_true rfl⟩ (As := [.int (J 41)]) (rest := []) rfl rfl hl.1 (Nat.le_of_ble_eq_true rfl) 69 rfl dX3_readCondition_66 (fun v_8 H locs hq8_ hw => ?_)
    obtain ⟨y80_8, y83_8, y84_8, ev8_, hh8_⟩ := hq8_
    rw [ev8_] at hw; clear ev8_
    have hw : WK D cy T (upV (upV (upV (upV v_0 80 y80_8) 83 y83_8) 84 y84_8) 86 y86_7) A0 s.heap H locs := cw_eq hw (by first | rfl | (funext j_; simp only [upV, reduceIte]; (repeat' split) <;> first | rfl | omega | (subst_vars; rfl)))
    refine j_goto E 126 dX3_readCondition_69 (by decide) ?_
    exact hret 126 (upV (upV (upV (upV v_0 80 y80_8) 83 y83_8) 84 y84_8) 86 y86_7) _ _ ls hw ⟨y80_8, y83_8, y84_8, y86_7, rfl, by first | omega | (simp only [upB_same]; omega)⟩ dX3_readCondition_126
  · refine j_aload_n E 10 rfl dX3_readCondition_9 rfl (lv_at hl 0 rfl) ?_
    refine g_84 E hK hw fl_X3_30 t_o (v_0 84 o) rfl 13 rfl dX3_readCondition_10 (fun _ => ?_)
    refine j_sipush E 16 rfl dX3_readCondition_13 (by decide) ?_
    refine j_icmp_ne E 19 23 rfl rr1_ (rr (by decide)) dX3_readCondition_16 (by decide) (fun cc9_ => ?_) (fun cc9_ => ?_)
    · refine j_iconst E 24 rfl dX3_readCondition_23 ?_
      refine j_istore_n E 25 rfl [(2, .int (J 0)), (0, .ref o), (1, .int (J 1))] dX3_readCondition_24 rfl hl (by decide) rfl (fun ls hl => ?_)
      refine j_iload_n E 26 rfl dX3_readCondition_25 rfl (lv_at hl 0 rfl) ?_
      refine j_if_eq E 29 43 rfl (rr (by decide)) dX3_readCondition_26 (by decide) (fun _ => ?_) (fun cc10_ => absurd cc10_ (by decide))
      refine j_aload_n E 44 rfl dX3_readCondition_43 rfl (lv_at hl 1 rfl) ?_
      refine g_84 E hK hw fl_X3_30 t_o (v_0 84 o) rfl 47 rfl dX3_readCondition_44 (fun _ => ?_)
      refine j_bipush E 49 rfl dX3_readCondition_47 (by decide) ?_
      refine j_icmp_ne E 52 72 rfl rr1_ (rr (by decide)) dX3_readCondition_49 (by decide) (fun cc11_ => ?_) (fun cc11_ => ?_)
      rotate_left; · exfalso; omega
      refine j_aload_n E 73 rfl dX3_readCondition_72 rfl (lv_at hl 1 rfl) ?_
      refine g_84 E hK hw fl_X3_30 t_o (v_0 84 o) rfl 76 rfl dX3_readCondition_73 (fun _ => ?_)
      refine j_sipush E 79 rfl dX3_readCondition_76 (by decide) ?_
      refine j_icmp_ne E 82 103 rfl rr1_ (rr (by decide)) dX3_readCondition_79 (by decide) (fun cc12_ => ?_) (fun cc12_ => ?_)
      rotate_left; · exfalso; omega
      refine j_aload_n E 104 rfl dX3_readCondition_103 rfl (lv_at hl 1 rfl) ?_
      refine zV_v E (c_X3_readSum l D cy T (v_0) κ o  hO t_o  (show 0 ≤ ((v_0 86) o) ∧ ((v_0 86) o) ≤ 400 from by omega)) mt_X3_readSum ml_X3_51 hK hZ hAc hw (cw_rc4 hK hw.1 t_o) hA ⟨Nat.le_of_ble_eq_true rfl, Nat.le_of_ble_eq_true rfl⟩ ⟨Nat.le_of_ble_eq_true rfl, Nat.le_of_ble_eq_true rfl⟩ (As := []) (rest := []) rfl rfl hl.1 (Nat.le_of_ble_eq_true rfl) 107 rfl dX3_readCondition_104 (fun v_13 H locs hq13_ hw => ?_)
      obtain ⟨y80_13, y83_13, y84_13, y86_13, ev13_, hh13_⟩ := hq13_
      rw [ev13_] at hw; clear ev13_
      have hw : WK D cy T (upV (upV (upV (upV v_0 80 y80_13) 83 y83_13) 84 y84_13) 86 y86_13) A0 s.heap H locs := cw_eq hw (by first | rfl | (funext j_; simp only [upV, reduceIte]; (repeat' split) <;> first | rfl | omega | (subst_vars; rfl)))
      have hh13_ : 0 ≤ (y86_13 o) ∧ (y86_13 o) ≤ 400 := hh13_
      refine j_aload_n E 108 rfl dX3_readCondition_107 rfl (lv_at hl 1 rfl) ?_
      refine g_84 E hK hw fl_X3_30 t_o (y84_13 o) rfl 111 rfl dX3_readCondition_108 (fun rr14_ => ?_)
      refine j_istore_n E 112 rfl [(3, .int (J (y84_13 o))), (2, .int (J 0)), (0, .ref o), (1, .int (J 1))] dX3_readCondition_111 rfl hl (by decide) rfl (fun ls hl => ?_)
      refine j_aload_n E 113 rfl dX3_readCondition_112 rfl (lv_at hl 2 rfl) ?_
      refine zV_v E (c_X3_takeComparison l D cy T (upV (upV (upV (upV v_0 80 y80_13) 83 y83_13) 84 y84_13) 86 y86_13) κ o  hO t_o  ) mt_X3_takeComparison ml_X3_88 hK hZ hAc hw (cw_rc4 hK hw.1 t_o) hA ⟨Nat.le_of_ble_eq_true rfl, Nat.le_of_ble_eq_true rfl⟩ ⟨Nat.le_of_ble_eq_true rfl, Nat.le_of_ble_eq_true rfl⟩ (As := []) (rest := []) rfl rfl hl.1 (Nat.le_of_ble_eq_true rfl) 116 rfl dX3_readCondition_113 (fun v_15 H locs hq15_ hw => ?_)
      obtain ⟨y80_15, y83_15, y84_15, ev15_, hh15_⟩ := hq15_
      rw [ev15_] at hw; clear ev15_
      have hw : WK D cy T (upV (upV (upV (upV v_0 80 y80_15) 83 y83_15) 84 y84_15) 86 y86_13) A0 s.heap H locs := cw_eq hw (by first | rfl | (funext j_; simp only [upV, reduceIte]; (repeat' split) <;> first | rfl | omega | (subst_vars; rfl)))
      refine j_aload_n E 117 rfl dX3_readCondition_116 rfl (lv_at hl 2 rfl) ?_
      refine zV_v E (c_X3_readSum l D cy T (upV (upV (upV (upV v_0 80 y80_15) 83 y83_15) 84 y84_15) 86 y86_13) κ o  hO t_o  (show 0 ≤ (y86_13 o) ∧ (y86_13 o) ≤ 400 from by omega)) mt_X3_readSum ml_X3_51 hK hZ hAc hw (cw_rc4 hK hw.1 t_o) hA ⟨Nat.le_of_ble_eq_true rfl, Nat.le_of_ble_eq_true rfl⟩ ⟨Nat.le_of_ble_eq_true rfl, Nat.le_of_ble_eq_true rfl⟩ (As := []) (rest := []) rfl rfl hl.1 (Nat.le_of_ble_eq_true rfl) 120 rfl dX3_readCondition_117 (fun v_16 H locs hq16_ hw => ?_)
      obtain ⟨y80_16, y83_16, y84_16, y86_16, ev16_, hh16_⟩ := hq16_
      rw [ev16_] at hw; clear ev16_
      have hw : WK D cy T (upV (upV (upV (upV v_0 80 y80_16) 83 y83_16) 84 y84_16) 86 y86_16) A0 s.heap H locs := cw_eq hw (by first | rfl | (funext j_; simp only [upV, reduceIte]; (repeat' split) <;> first | rfl | omega | (subst_vars; rfl)))
      have hh16_ : 0 ≤ (y86_16 o) ∧ (y86_16 o) ≤ 400 := hh16_
      refine j_aload_n E 121 rfl dX3_readCondition_120 rfl (lv_at hl 2 rfl) ?_
      refine j_iload_n E 122 rfl dX3_readCondition_121 rfl (lv_at hl 0 rfl) ?_
      refine j_ineg E 123 rfl dX3_readCondition_122 ?_
      refine j_norm (fun zz17_ rr17_ ee17_ => ?_)
      refine kV_v E (c_X3_emit l D cy T (upV (upV (upV (upV v_0 80 y80_16) 83 y83_16) 84 y84_16) 86 y86_16) o zz17_  t_o rr17_ (show 0 ≤ (y86_16 o) ∧ (y86_16 o) ≤ 400 from by omega)) mt_X3_emit ml_X3_60 hK hw (cw_rc4 hK hw.1 t_o) hA ⟨Nat.le_of_ble_eq_true rfl, Nat.le_of_ble_eq_true rfl⟩ ⟨Nat.le_of_ble_eq_true rfl, Nat.le_of_ble_eq_true rfl⟩ (As := [.int (J zz17_)]) (rest := []) rfl rfl hl.1 (Nat.le_of_ble_eq_true rfl) 126 rfl dX3_readCondition_123 (fun v_18 H locs hq18_ hw => ?_)
      obtain ⟨y86_18, ev18_, hh18_⟩ := hq18_
      rw [ev18_] at hw; clear ev18_
      have hw : WK D cy T (upV (upV (upV (upV v_0 80 y80_16) 83 y83_16) 84 y84_16) 86 y86_18) A0 s.heap H locs := cw_eq hw (by first | rfl | (funext j_; simp only [upV, reduceIte]; (repeat' split) <;> first | rfl | omega | (subst_vars; rfl)))
      have hh18_ : 0 ≤ (y86_18 o) ∧ (y86_18 o) ≤ 400 := hh18_
      exact hret 126 (upV (upV (upV (upV v_0 80 y80_16) 83 y83_16) 84 y84_16) 86 y86_18) _ _ ls hw ⟨y80_16, y83_16, y84_16, y86_18, rfl, by first | omega | (simp only [upB_same]; omega)⟩ dX3_readCondition_126
    · refine j_iconst E 20 rfl dX3_readCondition_19 ?_
      refine j_goto E 24 dX3_readCondition_20 (by decide) ?_
      refine j_istore_n E 25 rfl [(2, .int (J 1)), (0, .ref o), (1, .int (J 1))] dX3_readCondition_24 rfl hl (by decide) rfl (fun ls hl => ?_)
      refine j_iload_n E 26 rfl dX3_readCondition_25 rfl (lv_at hl 0 rfl) ?_
      refine j_if_eq E 29 43 rfl (rr (by decide)) dX3_readCondition_26 (by decide) (fun cc19_ => absurd cc19_ (by decide)) (fun _ => ?_)
      refine j_iload_n E 30 rfl dX3_readCondition_29 rfl (lv_at hl 2 rfl) ?_
      refine j_bipush E 32 rfl dX3_readCondition_30 (by decide) ?_
      refine j_icmp_lt E 35 43 rfl (rr (by decide)) (rr (by decide)) dX3_readCondition_32 (by decide) (fun _ => ?_) (fun cc20_ => absurd cc20_ (by decide))
      refine j_aload_n E 44 rfl dX3_readCondition_43 rfl (lv_at hl 1 rfl) ?_
      refine g_84 E hK hw fl_X3_30 t_o (v_0 84 o) rfl 47 rfl dX3_readCondition_44 (fun _ => ?_)
      refine j_bipush E 49 rfl dX3_readCondition_47 (by decide) ?_
      refine j_icmp_ne E 52 72 rfl rr1_ (rr (by decide)) dX3_readCondition_49 (by decide) (fun cc21_ => ?_) (fun cc21_ => ?_)
      rotate_left; · exfalso; omega
      refine j_aload_n E 73 rfl dX3_readCondition_72 rfl (lv_at hl 1 rfl) ?_
      refine g_84 E hK hw fl_X3_30 t_o (v_0 84 o) rfl 76 rfl dX3_readCondition_73 (fun _ => ?_)
      refine j_sipush E 79 rfl dX3_readCondition_76 (by decide) ?_
      refine j_icmp_ne E 82 103 rfl rr1_ (rr (by decide)) dX3_readCondition_79 (by decide) (fun cc22_ => ?_) (fun cc22_ => ?_)
      · exfalso; omega
      refine j_aload_n E 83 rfl dX3_readCondition_82 rfl (lv_at hl 1 rfl) ?_
      refine zV_v E (c_X3_step l D cy T (v_0) κ o  hO t_o  ) mt_X3_step ml_X3_54 hK hZ hAc hw (cw_rc4 hK hw.1 t_o) hA ⟨Nat.le_of_ble_eq_true rfl, Nat.le_of_ble_eq_true rfl⟩ ⟨Nat.le_of_ble_eq_true rfl, Nat.le_of_ble_eq_true rfl⟩ (As := []) (rest := []) rfl rfl hl.1 (Nat.le_of_ble_eq_true rfl) 86 rfl dX3_readCondition_83 (fun v_23 H locs hq23_ hw => ?_)
      obtain ⟨y83_23, y84_23, ev23_, hh23_⟩ := hq23_
      rw [ev23_] at hw; clear ev23_
      have hw : WK D cy T (upV (upV v_0 83 y83_23) 84 y84_23) A0 s.heap H locs := cw_eq hw (by first | rfl | (funext j_; simp only [upV, reduceIte]; (repeat' split) <;> first | rfl | omega | (subst_vars; rfl)))
      refine j_aload_n E 87 rfl dX3_readCondition_86 rfl (lv_at hl 1 rfl) ?_
      refine j_iload_n E 88 rfl dX3_readCondition_87 rfl (lv_at hl 2 rfl) ?_
      refine j_iconst E 89 rfl dX3_readCondition_88 ?_
      refine j_iadd E 90 rfl dX3_readCondition_89 ?_
      refine j_lit (z := 2) (by decide) ?_
      refine zV_v E (c_X3_readCondition_n2 l D cy T (upV (upV v_0 83 y83_23) 84 y84_23) κ o  hO t_o  (show 0 ≤ ((v_0 86) o) ∧ ((v_0 86) o) ≤ 400 from by omega)) mt_X3_readCondition ml_X3_85 hK hZ hAc hw (cw_rc4 hK hw.1 t_o) hA ⟨Nat.le_of_ble_eq_true rfl, Nat.le_of_ble_eq_true rfl⟩ ⟨Nat.le_of_ble_eq_true rfl, Nat.le_of_ble_eq_true rfl⟩ (As := [.int (J 2)]) (rest := []) rfl rfl hl.1 (Nat.le_of_ble_eq_true rfl) 93 rfl dX3_readCondition_90 (fun v_24 H locs hq24_ hw => ?_)
      obtain ⟨y80_24, y83_24, y84_24, y86_24, ev24_, hh24_⟩ := hq24_
      rw [ev24_] at hw; clear ev24_
      have hw : WK D cy T (upV (upV (upV (upV v_0 80 y80_24) 83 y83_24) 84 y84_24) 86 y86_24) A0 s.heap H locs := cw_eq hw (by first | rfl | (funext j_; simp only [upV, reduceIte]; (repeat' split) <;> first | rfl | omega | (subst_vars; rfl)))
      have hh24_ : 0 ≤ (y86_24 o) ∧ (y86_24 o) ≤ 400 := hh24_
      refine j_aload_n E 94 rfl dX3_readCondition_93 rfl (lv_at hl 1 rfl) ?_
      refine j_sipush E 97 rfl dX3_readCondition_94 (by decide) ?_
      refine kV_v E (c_X3_emit l D cy T (upV (upV (upV (upV v_0 80 y80_24) 83 y83_24) 84 y84_24) 86 y86_24) o ((-306))  t_o (rr (by decide)) (show 0 ≤ (y86_24 o) ∧ (y86_24 o) ≤ 400 from by omega)) mt_X3_emit ml_X3_60 hK hw (cw_rc4 hK hw.1 t_o) hA ⟨Nat.le_of_ble_eq_true rfl, Nat.le_of_ble_eq_true rfl⟩ ⟨Nat.le_of_ble_eq_true rfl, Nat.le_of_ble_eq_true rfl⟩ (As := [.int (J ((-306)))]) (rest := []) rfl rfl hl.1 (Nat.le_of_ble_eq_true rfl) 100 rfl dX3_readCondition_97 (fun v_25 H locs hq25_ hw => ?_)
      obtain ⟨y86_25, ev25_, hh25_⟩ := hq25_
      rw [ev25_] at hw; clear ev25_
      have hw : WK D cy T (upV (upV (upV (upV v_0 80 y80_24) 83 y83_24) 84 y84_24) 86 y86_25) A0 s.heap H locs := cw_eq hw (by first | rfl | (funext j_; simp only [upV, reduceIte]; (repeat' split) <;> first | rfl | omega | (subst_vars; rfl)))
      have hh25_ : 0 ≤ (y86_25 o) ∧ (y86_25 o) ≤ 400 := hh25_
      refine j_goto E 126 dX3_readCondition_100 (by decide) ?_
      exact hret 126 (upV (upV (upV (upV v_0 80 y80_24) 83 y83_24) 84 y84_24) 86 y86_25) _ _ ls hw ⟨y80_24, y83_24, y84_24, y86_25, rfl, by first | omega | (simp only [upB_same]; omega)⟩ dX3_readCondition_126
set_option maxHeartbeats 4000000 in
set_option maxRecDepth 100000 in
theorem c_X3_readConditions_n1 (l : Launch) (D : va_G) (cy : Nat → ClassId) (T : Nat → Nat → Nat) (v_0 : Nat → Nat → Int) (κ : Nat → Nat → Nat) (o : Nat) (hO : ∀ x, ow T x → κ 2 2 ≤ x) (t_o : T 0 o = 4) (hp0 : 0 ≤ (v_0 86 o) ∧ (v_0 86 o) ≤ 400) : KZ l D cy κ T yX3_readConditions cX3_readConditions 5 none 20 [.ref o, .int (J 1)] v_0 (KV (fun (v_2 : Nat → Nat → Int) => ∃ (y80_2 : Nat → Int) (y83_2 : Nat → Int) (y84_2 : Nat → Int) (y86_2 : Nat → Int) , v_2 = upV (upV (upV (upV v_0 80 y80_2) 83 y83_2) 84 y84_2) 86 y86_2 ∧ (0 ≤ (y86_2 o) ∧ (y86_2 o) ≤ 400))) := by
  refine KZ.ofv (by decide) (Nat.le_of_ble_eq_true rfl) hO ?_
  intro p e s m below meth c ls ar QW A0 H locs E hK hZ hA hAc hw hl hret
  have hl : lv_has ls 5 [(0, .ref o), (1, .int (J 1))] := hl
  have hT : WT T := hw.1.2.1
  refine j_aload_n E 1 rfl dX3_readConditions_0 rfl (lv_at hl 0 rfl) ?_
  refine j_iload_n E 2 rfl dX3_readConditions_1 rfl (lv_at hl 1 rfl) ?_
  refine zV_v E (c_X3_readCondition_n1 l D cy T (v_0) κ o  hO t_o  (show 0 ≤ ((v_0 86) o) ∧ ((v_0 86) o) ≤ 400 from by omega)) mt_X3_readCondition ml_X3_85 hK hZ hAc hw (cw_rc4 hK hw.1 t_o) hA ⟨Nat.le_of_ble_eq_true rfl, Nat.le_of_ble_eq_true rfl⟩ ⟨Nat.le_of_ble_eq_true rfl, Nat.le_of_ble_eq_true rfl⟩ (As := [.int (J 1)]) (rest := []) rfl rfl hl.1 (Nat.le_of_ble_eq_true rfl) 5 rfl dX3_readConditions_2 (fun v_1 H locs hq1_ hw => ?_)
  obtain ⟨y80_1, y83_1, y84_1, y86_1, ev1_, hh1_⟩ := hq1_
  rw [ev1_] at hw; clear ev1_
  have hw : WK D cy T (upV (upV (upV (upV v_0 80 y80_1) 83 y83_1) 84 y84_1) 86 y86_1) A0 s.heap H locs := cw_eq hw (by first | rfl | (funext j_; simp only [upV, reduceIte]; (repeat' split) <;> first | rfl | omega | (subst_vars; rfl)))
  have hh1_ : 0 ≤ (y86_1 o) ∧ (y86_1 o) ≤ 400 := hh1_
  refine j_iconst E 6 rfl dX3_readConditions_5 ?_
  refine j_istore_n E 7 rfl [(2, .int (J 0)), (0, .ref o), (1, .int (J 1))] dX3_readConditions_6 rfl hl (by decide) rfl (fun ls hl => ?_)
  refine j_iconst E 8 rfl dX3_readConditions_7 ?_
  refine j_istore_n E 9 rfl [(3, .int (J 0)), (2, .int (J 0)), (0, .ref o), (1, .int (J 1))] dX3_readConditions_8 rfl hl (by decide) rfl (fun ls hl => ?_)
  have L9_2 : ∀ (k9 : Nat) (l2_9 l3_9 : Int) (y80_c9 : Nat → Int) (y83_c9 : Nat → Int) (y84_c9 : Nat → Int) (y86_c9 : Nat → Int) (H : Heap) (locs : List Loc) (ls : Array Slot), inR l2_9 → inR l3_9 → (0 ≤ (y86_c9 o) ∧ (y86_c9 o) ≤ 400) → (400 - l3_9).toNat < k9 → WK D cy T (upV (upV (upV (upV v_0 80 y80_c9) 83 y83_c9) 84 y84_c9) 86 y86_c9) A0 s.heap H locs → lv_has ls 5 [(0, .ref o), (1, .int (J 1)), (2, .int (J l2_9)), (3, .int (J l3_9))] → W p l e (rmd 20 0 0) s m ar below meth c H locs 0 0 QW (F0 m 9 ls []) := by
    intro k9
    induction k9 with
    | zero =>
      intro l2_9 l3_9 y80_c9 y83_c9 y84_c9 y86_c9 H locs ls r_l2_9 r_l3_9 iv9 ms9 hw hl
      exact absurd ms9 (Nat.not_lt_zero _)
    | succ k9 ih9 =>
      intro l2_9 l3_9 y80_c9 y83_c9 y84_c9 y86_c9 H locs ls r_l2_9 r_l3_9 iv9 ms9 hw hl
      refine j_iload_n E 10 rfl dX3_readConditions_9 rfl (lv_at hl 3 rfl) ?_
      refine j_sipush E 13 rfl dX3_readConditions_10 (by decide) ?_
      refine j_icmp_ge E 16 111 rfl r_l3_9 (rr (by decide)) dX3_readConditions_13 (by decide) (fun cc4_ => ?_) (fun cc4_ => ?_)
      · refine j_iload_n E 112 rfl dX3_readConditions_111 rfl (lv_at hl 2 rfl) ?_
        refine j_if_eq E 115 122 rfl r_l2_9 dX3_readConditions_112 (by decide) (fun cc5_ => ?_) (fun cc5_ => ?_)
        · exact hret 122 (upV (upV (upV (upV v_0 80 y80_c9) 83 y83_c9) 84 y84_c9) 86 y86_c9) _ _ ls hw ⟨y80_c9, y83_c9, y84_c9, y86_c9, rfl, by first | omega | (simp only [upB_same]; omega)⟩ dX3_readConditions_122
        · refine j_aload_n E 116 rfl dX3_readConditions_115 rfl (lv_at hl 0 rfl) ?_
          refine j_sipush E 119 rfl dX3_readConditions_116 (by decide) ?_
          refine kV_v E (c_X3_emit l D cy T (upV (upV (upV (upV v_0 80 y80_c9) 83 y83_c9) 84 y84_c9) 86 y86_c9) o ((-304))  t_o (rr (by decide)) (show 0 ≤ (y86_c9 o) ∧ (y86_c9 o) ≤ 400 from by omega)) mt_X3_emit ml_X3_60 hK hw (cw_rc4 hK hw.1 t_o) hA ⟨Nat.le_of_ble_eq_true rfl, Nat.le_of_ble_eq_true rfl⟩ ⟨Nat.le_of_ble_eq_true rfl, Nat.le_of_ble_eq_true rfl⟩ (As := [.int (J ((-304)))]) (rest := []) rfl rfl hl.1 (Nat.le_of_ble_eq_true rfl) 122 rfl dX3_readConditions_119 (fun v_6 H locs hq6_ hw => ?_)
          obtain ⟨y86_6, ev6_, hh6_⟩ := hq6_
          rw [ev6_] at hw; clear ev6_
          have hw : WK D cy T (upV (upV (upV (upV v_0 80 y80_c9) 83 y83_c9) 84 y84_c9) 86 y86_6) A0 s.heap H locs := cw_eq hw (by first | rfl | (funext j_; simp only [upV, reduceIte]; (repeat' split) <;> first | rfl | omega | (subst_vars; rfl)))
          have hh6_ : 0 ≤ (y86_6 o) ∧ (y86_6 o) ≤ 400 := hh6_
          exact hret 122 (upV (upV (upV (upV v_0 80 y80_c9) 83 y83_c9) 84 y84_c9) 86 y86_6) _ _ ls hw ⟨y80_c9, y83_c9, y84_c9, y86_6, rfl, by first | omega | (simp only [upB_same]; omega)⟩ dX3_readConditions_122
      · refine j_aload_n E 17 rfl dX3_readConditions_16 rfl (lv_at hl 0 rfl) ?_
        refine g_84 E hK hw fl_X3_30 t_o (y84_c9 o) rfl 20 rfl dX3_readConditions_17 (fun rr7_ => ?_)
        refine j_sipush E 23 rfl dX3_readConditions_20 (by decide) ?_
        refine j_icmp_eq E 26 36 rfl rr7_ (rr (by decide)) dX3_readConditions_23 (by decide) (fun cc8_ => ?_) (fun cc8_ => ?_)
        · have L51_9 : ∀ (s0_51 : Int) (H : Heap) (locs : List Loc) (ls : Array Slot), inR s0_51 → (True) → WK D cy T (upV (upV (upV (upV v_0 80 y80_c9) 83 y83_c9) 84 y84_c9) 86 y86_c9) A0 s.heap H locs → lv_has ls 5 [(0, .ref o), (1, .int (J 1)), (2, .int (J l2_9)), (3, .int (J l3_9))] → W p l e (rmd 20 0 0) s m ar below meth c H locs 0 0 QW (F0 m 51 ls [.int (J s0_51)]) := by
            intro s0_51 H locs ls r_s0_51 iv51 hw hl
            refine j_istore E 53 rfl [(4, .int (J s0_51)), (0, .ref o), (1, .int (J 1)), (2, .int (J l2_9)), (3, .int (J l3_9))] dX3_readConditions_51 hl (by decide) rfl (fun ls hl => ?_)
            have L69_11 : ∀ (y86_c69 : Nat → Int) (H : Heap) (locs : List Loc) (ls : Array Slot), (0 ≤ (y86_c69 o) ∧ (y86_c69 o) ≤ 400) → WK D cy T (upV (upV (upV (upV v_0 80 y80_c9) 83 y83_c9) 84 y84_c9) 86 y86_c69) A0 s.heap H locs → lv_has ls 5 [(0, .ref o), (1, .int (J 1)), (2, .int (J l2_9)), (3, .int (J l3_9)), (4, .int (J s0_51))] → W p l e (rmd 20 0 0) s m ar below meth c H locs 0 0 QW (F0 m 69 ls []) := by
              intro y86_c69 H locs ls iv69 hw hl
              refine j_aload_n E 70 rfl dX3_readConditions_69 rfl (lv_at hl 0 rfl) ?_
              refine zV_v E (c_X3_step l D cy T (upV (upV (upV (upV v_0 80 y80_c9) 83 y83_c9) 84 y84_c9) 86 y86_c69) κ o  hO t_o  ) mt_X3_step ml_X3_54 hK hZ hAc hw (cw_rc4 hK hw.1 t_o) hA ⟨Nat.le_of_ble_eq_true rfl, Nat.le_of_ble_eq_true rfl⟩ ⟨Nat.le_of_ble_eq_true rfl, Nat.le_of_ble_eq_true rfl⟩ (As := []) (rest := []) rfl rfl hl.1 (Nat.le_of_ble_eq_true rfl) 73 rfl dX3_readConditions_70 (fun v_13 H locs hq13_ hw => ?_)
              obtain ⟨y83_13, y84_13, ev13_, hh13_⟩ := hq13_
              rw [ev13_] at hw; clear ev13_
              have hw : WK D cy T (upV (upV (upV (upV v_0 80 y80_c9) 83 y83_13) 84 y84_13) 86 y86_c69) A0 s.heap H locs := cw_eq hw (by first | rfl | (funext j_; simp only [upV, reduceIte]; (repeat' split) <;> first | rfl | omega | (subst_vars; rfl)))
              refine j_aload_n E 74 rfl dX3_readConditions_73 rfl (lv_at hl 0 rfl) ?_
              refine j_iload_n E 75 rfl dX3_readConditions_74 rfl (lv_at hl 1 rfl) ?_
              refine zV_v E (c_X3_readCondition_n1 l D cy T (upV (upV (upV (upV v_0 80 y80_c9) 83 y83_13) 84 y84_13) 86 y86_c69) κ o  hO t_o  (show 0 ≤ (y86_c69 o) ∧ (y86_c69 o) ≤ 400 from by omega)) mt_X3_readCondition ml_X3_85 hK hZ hAc hw (cw_rc4 hK hw.1 t_o) hA ⟨Nat.le_of_ble_eq_true rfl, Nat.le_of_ble_eq_true rfl⟩ ⟨Nat.le_of_ble_eq_true rfl, Nat.le_of_ble_eq_true rfl⟩ (As := [.int (J 1)]) (rest := []) rfl rfl hl.1 (Nat.le_of_ble_eq_true rfl) 78 rfl dX3_readConditions_75 (fun v_14 H locs hq14_ hw => ?_)
              obtain ⟨y80_14, y83_14, y84_14, y86_14, ev14_, hh14_⟩ := hq14_
              rw [ev14_] at hw; clear ev14_
              have hw : WK D cy T (upV (upV (upV (upV v_0 80 y80_14) 83 y83_14) 84 y84_14) 86 y86_14) A0 s.heap H locs := cw_eq hw (by first | rfl | (funext j_; simp only [upV, reduceIte]; (repeat' split) <;> first | rfl | omega | (subst_vars; rfl)))
              have hh14_ : 0 ≤ (y86_14 o) ∧ (y86_14 o) ≤ 400 := hh14_
              have L90_15 : ∀ (y86_c90 : Nat → Int) (H : Heap) (locs : List Loc) (ls : Array Slot), (0 ≤ (y86_c90 o) ∧ (y86_c90 o) ≤ 400) → WK D cy T (upV (upV (upV (upV v_0 80 y80_14) 83 y83_14) 84 y84_14) 86 y86_c90) A0 s.heap H locs → lv_has ls 5 [(0, .ref o), (1, .int (J 1)), (2, .int (J l2_9)), (3, .int (J l3_9)), (4, .int (J s0_51))] → W p l e (rmd 20 0 0) s m ar below meth c H locs 0 0 QW (F0 m 90 ls []) := by
                intro y86_c90 H locs ls iv90 hw hl
                have L104_17 : ∀ (s0_104 : Int) (H : Heap) (locs : List Loc) (ls : Array Slot), inR s0_104 → (True) → WK D cy T (upV (upV (upV (upV v_0 80 y80_14) 83 y83_14) 84 y84_14) 86 y86_c90) A0 s.heap H locs → lv_has ls 5 [(0, .ref o), (1, .int (J 1)), (2, .int (J l2_9)), (3, .int (J l3_9)), (4, .int (J s0_51))] → W p l e (rmd 20 0 0) s m ar below meth c H locs 0 0 QW (F0 m 104 ls [.int (J s0_104)]) := by
                  intro s0_104 H locs ls r_s0_104 iv104 hw hl
                  refine j_istore_n E 105 rfl [(2, .int (J s0_104)), (0, .ref o), (1, .int (J 1)), (3, .int (J l3_9)), (4, .int (J s0_51))] dX3_readConditions_104 rfl hl (by decide) rfl (fun ls hl => ?_)
                  refine j_iinc E 108 rfl [(3, .int (J (l3_9 + 1))), (2, .int (J s0_104)), (0, .ref o), (1, .int (J 1)), (4, .int (J s0_51))] dX3_readConditions_105 hl (kk := 3) rfl (by decide) rfl (fun ls hl => ?_)
                  refine j_goto E 9 dX3_readConditions_108 (by decide) ?_
                  exact ih9 s0_104 (l3_9 + 1) y80_14 y83_14 y84_14 y86_c90 H locs ls r_s0_104 (rr (by omega)) (by first | omega | (simp only [upB_same]; omega)) (by omega) hw (lv_sub hl [2, 3, 1, 0] rfl)
                refine j_iload_n E 91 rfl dX3_readConditions_90 rfl (lv_at hl 2 rfl) ?_
                refine j_if_ne E 94 99 rfl r_l2_9 dX3_readConditions_91 (by decide) (fun cc19_ => ?_) (fun cc19_ => ?_)
                · refine j_iconst E 100 rfl dX3_readConditions_99 ?_
                  refine j_goto E 104 dX3_readConditions_100 (by decide) ?_
                  exact L104_17 1  H locs ls (rr (by decide)) (trivial) hw (lv_sub hl [0, 1, 2, 3, 4] rfl)
                · refine j_iload E 96 rfl dX3_readConditions_94 (lv_at hl 4 rfl) ?_
                  refine j_if_ne E 99 103 rfl r_s0_51 dX3_readConditions_96 (by decide) (fun cc20_ => ?_) (fun cc20_ => ?_)
                  · refine j_iconst E 104 rfl dX3_readConditions_103 ?_
                    exact L104_17 0  H locs ls (rr (by decide)) (trivial) hw (lv_sub hl [0, 1, 2, 3, 4] rfl)
                  · refine j_iconst E 100 rfl dX3_readConditions_99 ?_
                    refine j_goto E 104 dX3_readConditions_100 (by decide) ?_
                    exact L104_17 1  H locs ls (rr (by decide)) (trivial) hw (lv_sub hl [0, 1, 2, 3, 4] rfl)
              refine j_iload E 80 rfl dX3_readConditions_78 (lv_at hl 4 rfl) ?_
              refine j_if_eq E 83 90 rfl r_s0_51 dX3_readConditions_80 (by decide) (fun cc21_ => ?_) (fun cc21_ => ?_)
              · exact L90_15  y86_14 H locs ls  (by first | omega | (simp only [upB_same]; omega)) hw (lv_sub hl [0, 1, 2, 3, 4] rfl)
              · refine j_aload_n E 84 rfl dX3_readConditions_83 rfl (lv_at hl 0 rfl) ?_
                refine j_sipush E 87 rfl dX3_readConditions_84 (by decide) ?_
                refine kV_v E (c_X3_emit l D cy T (upV (upV (upV (upV v_0 80 y80_14) 83 y83_14) 84 y84_14) 86 y86_14) o ((-305))  t_o (rr (by decide)) (show 0 ≤ (y86_14 o) ∧ (y86_14 o) ≤ 400 from by omega)) mt_X3_emit ml_X3_60 hK hw (cw_rc4 hK hw.1 t_o) hA ⟨Nat.le_of_ble_eq_true rfl, Nat.le_of_ble_eq_true rfl⟩ ⟨Nat.le_of_ble_eq_true rfl, Nat.le_of_ble_eq_true rfl⟩ (As := [.int (J ((-305)))]) (rest := []) rfl rfl hl.1 (Nat.le_of_ble_eq_true rfl) 90 rfl dX3_readConditions_87 (fun v_22 H locs hq22_ hw => ?_)
                obtain ⟨y86_22, ev22_, hh22_⟩ := hq22_
                rw [ev22_] at hw; clear ev22_
                have hw : WK D cy T (upV (upV (upV (upV v_0 80 y80_14) 83 y83_14) 84 y84_14) 86 y86_22) A0 s.heap H locs := cw_eq hw (by first | rfl | (funext j_; simp only [upV, reduceIte]; (repeat' split) <;> first | rfl | omega | (subst_vars; rfl)))
                have hh22_ : 0 ≤ (y86_22 o) ∧ (y86_22 o) ≤ 400 := hh22_
                exact L90_15  y86_22 H locs ls  (by first | omega | (simp only [upB_same]; omega)) hw (lv_sub hl [0, 1, 2, 3, 4] rfl)
            refine j_iload E 55 rfl dX3_readConditions_53 (lv_at hl 0 rfl) ?_
            refine j_if_ne E 58 69 rfl r_s0_51 dX3_readConditions_55 (by decide) (fun cc23_ => ?_) (fun cc23_ => ?_)
            · exact L69_11  y86_c9 H locs ls  (by first | omega | (simp only [upB_same]; omega)) hw (lv_sub hl [1, 2, 3, 4, 0] rfl)
            · refine j_iload_n E 59 rfl dX3_readConditions_58 rfl (lv_at hl 3 rfl) ?_
              refine j_if_eq E 62 69 rfl r_l2_9 dX3_readConditions_59 (by decide) (fun cc24_ => ?_) (fun cc24_ => ?_)
              · exact L69_11  y86_c9 H locs ls  (by first | omega | (simp only [upB_same]; omega)) hw (lv_sub hl [1, 2, 3, 4, 0] rfl)
              · refine j_aload_n E 63 rfl dX3_readConditions_62 rfl (lv_at hl 1 rfl) ?_
                refine j_sipush E 66 rfl dX3_readConditions_63 (by decide) ?_
                refine kV_v E (c_X3_emit l D cy T (upV (upV (upV (upV v_0 80 y80_c9) 83 y83_c9) 84 y84_c9) 86 y86_c9) o ((-304))  t_o (rr (by decide)) (show 0 ≤ (y86_c9 o) ∧ (y86_c9 o) ≤ 400 from by omega)) mt_X3_emit ml_X3_60 hK hw (cw_rc4 hK hw.1 t_o) hA ⟨Nat.le_of_ble_eq_true rfl, Nat.le_of_ble_eq_true rfl⟩ ⟨Nat.le_of_ble_eq_true rfl, Nat.le_of_ble_eq_true rfl⟩ (As := [.int (J ((-304)))]) (rest := []) rfl rfl hl.1 (Nat.le_of_ble_eq_true rfl) 69 rfl dX3_readConditions_66 (fun v_25 H locs hq25_ hw => ?_)
                obtain ⟨y86_25, ev25_, hh25_⟩ := hq25_
                rw [ev25_] at hw; clear ev25_
                have hw : WK D cy T (upV (upV (upV (upV v_0 80 y80_c9) 83 y83_c9) 84 y84_c9) 86 y86_25) A0 s.heap H locs := cw_eq hw (by first | rfl | (funext j_; simp only [upV, reduceIte]; (repeat' split) <;> first | rfl | omega | (subst_vars; rfl)))
                have hh25_ : 0 ≤ (y86_25 o) ∧ (y86_25 o) ≤ 400 := hh25_
                exact L69_11  y86_25 H locs ls  (by first | omega | (simp only [upB_same]; omega)) hw (lv_sub hl [1, 2, 3, 4, 0] rfl)
          refine j_aload_n E 37 rfl dX3_readConditions_36 rfl (lv_at hl 0 rfl) ?_
          refine g_84 E hK hw fl_X3_30 t_o (y84_c9 o) rfl 40 rfl dX3_readConditions_37 (fun _ => ?_)
          refine j_sipush E 43 rfl dX3_readConditions_40 (by decide) ?_
          refine j_icmp_ne E 46 50 rfl rr7_ (rr (by decide)) dX3_readConditions_43 (by decide) (fun cc26_ => ?_) (fun cc26_ => ?_)
          · exfalso; omega
          refine j_iconst E 47 rfl dX3_readConditions_46 ?_
          refine j_goto E 51 dX3_readConditions_47 (by decide) ?_
          exact L51_9 1  H locs ls (rr (by decide)) (trivial) hw (lv_sub hl [0, 1, 2, 3] rfl)
        · refine j_aload_n E 27 rfl dX3_readConditions_26 rfl (lv_at hl 0 rfl) ?_
          refine g_84 E hK hw fl_X3_30 t_o (y84_c9 o) rfl 30 rfl dX3_readConditions_27 (fun _ => ?_)
          refine j_sipush E 33 rfl dX3_readConditions_30 (by decide) ?_
          refine j_icmp_ne E 36 111 rfl rr7_ (rr (by decide)) dX3_readConditions_33 (by decide) (fun cc27_ => ?_) (fun cc27_ => ?_)
          · refine j_iload_n E 112 rfl dX3_readConditions_111 rfl (lv_at hl 2 rfl) ?_
            refine j_if_eq E 115 122 rfl r_l2_9 dX3_readConditions_112 (by decide) (fun cc28_ => ?_) (fun cc28_ => ?_)
            · exact hret 122 (upV (upV (upV (upV v_0 80 y80_c9) 83 y83_c9) 84 y84_c9) 86 y86_c9) _ _ ls hw ⟨y80_c9, y83_c9, y84_c9, y86_c9, rfl, by first | omega | (simp only [upB_same]; omega)⟩ dX3_readConditions_122
            · refine j_aload_n E 116 rfl dX3_readConditions_115 rfl (lv_at hl 0 rfl) ?_
              refine j_sipush E 119 rfl dX3_readConditions_116 (by decide) ?_
              refine kV_v E (c_X3_emit l D cy T (upV (upV (upV (upV v_0 80 y80_c9) 83 y83_c9) 84 y84_c9) 86 y86_c9) o ((-304))  t_o (rr (by decide)) (show 0 ≤ (y86_c9 o) ∧ (y86_c9 o) ≤ 400 from by omega)) mt_X3_emit ml_X3_60 hK hw (cw_rc4 hK hw.1 t_o) hA ⟨Nat.le_of_ble_eq_true rfl, Nat.le_of_ble_eq_true rfl⟩ ⟨Nat.le_of_ble_eq_true rfl, Nat.le_of_ble_eq_true rfl⟩ (As := [.int (J ((-304)))]) (rest := []) rfl rfl hl.1 (Nat.le_of_ble_eq_true rfl) 122 rfl dX3_readConditions_119 (fun v_29 H locs hq29_ hw => ?_)
              obtain ⟨y86_29, ev29_, hh29_⟩ := hq29_
              rw [ev29_] at hw; clear ev29_
              have hw : WK D cy T (upV (upV (upV (upV v_0 80 y80_c9) 83 y83_c9) 84 y84_c9) 86 y86_29) A0 s.heap H locs := cw_eq hw (by first | rfl | (funext j_; simp only [upV, reduceIte]; (repeat' split) <;> first | rfl | omega | (subst_vars; rfl)))
              have hh29_ : 0 ≤ (y86_29 o) ∧ (y86_29 o) ≤ 400 := hh29_
              exact hret 122 (upV (upV (upV (upV v_0 80 y80_c9) 83 y83_c9) 84 y84_c9) 86 y86_29) _ _ ls hw ⟨y80_c9, y83_c9, y84_c9, y86_29, rfl, by first | omega | (simp only [upB_same]; omega)⟩ dX3_readConditions_122
          · have L51_30 : ∀ (s0_51 : Int) (H : Heap) (locs : List Loc) (ls : Array Slot), inR s0_51 → (True) → WK D cy T (upV (upV (upV (upV v_0 80 y80_c9) 83 y83_c9) 84 y84_c9) 86 y86_c9) A0 s.heap H locs → lv_has ls 5 [(0, .ref o), (1, .int (J 1)), (2, .int (J l2_9)), (3, .int (J l3_9))] → W p l e (rmd 20 0 0) s m ar below meth c H locs 0 0 QW (F0 m 51 ls [.int (J s0_51)]) := by
              intro s0_51 H locs ls r_s0_51 iv51 hw hl
              refine j_istore E 53 rfl [(4, .int (J s0_51)), (0, .ref o), (1, .int (J 1)), (2, .int (J l2_9)), (3, .int (J l3_9))] dX3_readConditions_51 hl (by decide) rfl (fun ls hl => ?_)
              have L69_32 : ∀ (y86_c69 : Nat → Int) (H : Heap) (locs : List Loc) (ls : Array Slot), (0 ≤ (y86_c69 o) ∧ (y86_c69 o) ≤ 400) → WK D cy T (upV (upV (upV (upV v_0 80 y80_c9) 83 y83_c9) 84 y84_c9) 86 y86_c69) A0 s.heap H locs → lv_has ls 5 [(0, .ref o), (1, .int (J 1)), (2, .int (J l2_9)), (3, .int (J l3_9)), (4, .int (J s0_51))] → W p l e (rmd 20 0 0) s m ar below meth c H locs 0 0 QW (F0 m 69 ls []) := by
                intro y86_c69 H locs ls iv69 hw hl
                refine j_aload_n E 70 rfl dX3_readConditions_69 rfl (lv_at hl 0 rfl) ?_
                refine zV_v E (c_X3_step l D cy T (upV (upV (upV (upV v_0 80 y80_c9) 83 y83_c9) 84 y84_c9) 86 y86_c69) κ o  hO t_o  ) mt_X3_step ml_X3_54 hK hZ hAc hw (cw_rc4 hK hw.1 t_o) hA ⟨Nat.le_of_ble_eq_true rfl, Nat.le_of_ble_eq_true rfl⟩ ⟨Nat.le_of_ble_eq_true rfl, Nat.le_of_ble_eq_true rfl⟩ (As := []) (rest := []) rfl rfl hl.1 (Nat.le_of_ble_eq_true rfl) 73 rfl dX3_readConditions_70 (fun v_34 H locs hq34_ hw => ?_)
                obtain ⟨y83_34, y84_34, ev34_, hh34_⟩ := hq34_
                rw [ev34_] at hw; clear ev34_
                have hw : WK D cy T (upV (upV (upV (upV v_0 80 y80_c9) 83 y83_34) 84 y84_34) 86 y86_c69) A0 s.heap H locs := cw_eq hw (by first | rfl | (funext j_; simp only [upV, reduceIte]; (repeat' split) <;> first | rfl | omega | (subst_vars; rfl)))
                refine j_aload_n E 74 rfl dX3_readConditions_73 rfl (lv_at hl 0 rfl) ?_
                refine j_iload_n E 75 rfl dX3_readConditions_74 rfl (lv_at hl 1 rfl) ?_
                refine zV_v E (c_X3_readCondition_n1 l D cy T (upV (upV (upV (upV v_0 80 y80_c9) 83 y83_34) 84 y84_34) 86 y86_c69) κ o  hO t_o  (show 0 ≤ (y86_c69 o) ∧ (y86_c69 o) ≤ 400 from by omega)) mt_X3_readCondition ml_X3_85 hK hZ hAc hw (cw_rc4 hK hw.1 t_o) hA ⟨Nat.le_of_ble_eq_true rfl, Nat.le_of_ble_eq_true rfl⟩ ⟨Nat.le_of_ble_eq_true rfl, Nat.le_of_ble_eq_true rfl⟩ (As := [.int (J 1)]) (rest := []) rfl rfl hl.1 (Nat.le_of_ble_eq_true rfl) 78 rfl dX3_readConditions_75 (fun v_35 H locs hq35_ hw => ?_)
                obtain ⟨y80_35, y83_35, y84_35, y86_35, ev35_, hh35_⟩ := hq35_
                rw [ev35_] at hw; clear ev35_
                have hw : WK D cy T (upV (upV (upV (upV v_0 80 y80_35) 83 y83_35) 84 y84_35) 86 y86_35) A0 s.heap H locs := cw_eq hw (by first | rfl | (funext j_; simp only [upV, reduceIte]; (repeat' split) <;> first | rfl | omega | (subst_vars; rfl)))
                have hh35_ : 0 ≤ (y86_35 o) ∧ (y86_35 o) ≤ 400 := hh35_
                have L90_36 : ∀ (y86_c90 : Nat → Int) (H : Heap) (locs : List Loc) (ls : Array Slot), (0 ≤ (y86_c90 o) ∧ (y86_c90 o) ≤ 400) → WK D cy T (upV (upV (upV (upV v_0 80 y80_35) 83 y83_35) 84 y84_35) 86 y86_c90) A0 s.heap H locs → lv_has ls 5 [(0, .ref o), (1, .int (J 1)), (2, .int (J l2_9)), (3, .int (J l3_9)), (4, .int (J s0_51))] → W p l e (rmd 20 0 0) s m ar below meth c H locs 0 0 QW (F0 m 90 ls []) := by
                  intro y86_c90 H locs ls iv90 hw hl
                  have L104_38 : ∀ (s0_104 : Int) (H : Heap) (locs : List Loc) (ls : Array Slot), inR s0_104 → (True) → WK D cy T (upV (upV (upV (upV v_0 80 y80_35) 83 y83_35) 84 y84_35) 86 y86_c90) A0 s.heap H locs → lv_has ls 5 [(0, .ref o), (1, .int (J 1)), (2, .int (J l2_9)), (3, .int (J l3_9)), (4, .int (J s0_51))] → W p l e (rmd 20 0 0) s m ar below meth c H locs 0 0 QW (F0 m 104 ls [.int (J s0_104)]) := by
                    intro s0_104 H locs ls r_s0_104 iv104 hw hl
                    refine j_istore_n E 105 rfl [(2, .int (J s0_104)), (0, .ref o), (1, .int (J 1)), (3, .int (J l3_9)), (4, .int (J s0_51))] dX3_readConditions_104 rfl hl (by decide) rfl (fun ls hl => ?_)
                    refine j_iinc E 108 rfl [(3, .int (J (l3_9 + 1))), (2, .int (J s0_104)), (0, .ref o), (1, .int (J 1)), (4, .int (J s0_51))] dX3_readConditions_105 hl (kk := 3) rfl (by decide) rfl (fun ls hl => ?_)
                    refine j_goto E 9 dX3_readConditions_108 (by decide) ?_
                    exact ih9 s0_104 (l3_9 + 1) y80_35 y83_35 y84_35 y86_c90 H locs ls r_s0_104 (rr (by omega)) (by first | omega | (simp only [upB_same]; omega)) (by omega) hw (lv_sub hl [2, 3, 1, 0] rfl)
                  refine j_iload_n E 91 rfl dX3_readConditions_90 rfl (lv_at hl 2 rfl) ?_
                  refine j_if_ne E 94 99 rfl r_l2_9 dX3_readConditions_91 (by decide) (fun cc40_ => ?_) (fun cc40_ => ?_)
                  · refine j_iconst E 100 rfl dX3_readConditions_99 ?_
                    refine j_goto E 104 dX3_readConditions_100 (by decide) ?_
                    exact L104_38 1  H locs ls (rr (by decide)) (trivial) hw (lv_sub hl [0, 1, 2, 3, 4] rfl)
                  · refine j_iload E 96 rfl dX3_readConditions_94 (lv_at hl 4 rfl) ?_
                    refine j_if_ne E 99 103 rfl r_s0_51 dX3_readConditions_96 (by decide) (fun cc41_ => ?_) (fun cc41_ => ?_)
                    · refine j_iconst E 104 rfl dX3_readConditions_103 ?_
                      exact L104_38 0  H locs ls (rr (by decide)) (trivial) hw (lv_sub hl [0, 1, 2, 3, 4] rfl)
                    · refine j_iconst E 100 rfl dX3_readConditions_99 ?_
                      refine j_goto E 104 dX3_readConditions_100 (by decide) ?_
                      exact L104_38 1  H locs ls (rr (by decide)) (trivial) hw (lv_sub hl [0, 1, 2, 3, 4] rfl)
                refine j_iload E 80 rfl dX3_readConditions_78 (lv_at hl 4 rfl) ?_
                refine j_if_eq E 83 90 rfl r_s0_51 dX3_readConditions_80 (by decide) (fun cc42_ => ?_) (fun cc42_ => ?_)
                · exact L90_36  y86_35 H locs ls  (by first | omega | (simp only [upB_same]; omega)) hw (lv_sub hl [0, 1, 2, 3, 4] rfl)
                · refine j_aload_n E 84 rfl dX3_readConditions_83 rfl (lv_at hl 0 rfl) ?_
                  refine j_sipush E 87 rfl dX3_readConditions_84 (by decide) ?_
                  refine kV_v E (c_X3_emit l D cy T (upV (upV (upV (upV v_0 80 y80_35) 83 y83_35) 84 y84_35) 86 y86_35) o ((-305))  t_o (rr (by decide)) (show 0 ≤ (y86_35 o) ∧ (y86_35 o) ≤ 400 from by omega)) mt_X3_emit ml_X3_60 hK hw (cw_rc4 hK hw.1 t_o) hA ⟨Nat.le_of_ble_eq_true rfl, Nat.le_of_ble_eq_true rfl⟩ ⟨Nat.le_of_ble_eq_true rfl, Nat.le_of_ble_eq_true rfl⟩ (As := [.int (J ((-305)))]) (rest := []) rfl rfl hl.1 (Nat.le_of_ble_eq_true rfl) 90 rfl dX3_readConditions_87 (fun v_43 H locs hq43_ hw => ?_)
                  obtain ⟨y86_43, ev43_, hh43_⟩ := hq43_
                  rw [ev43_] at hw; clear ev43_
                  have hw : WK D cy T (upV (upV (upV (upV v_0 80 y80_35) 83 y83_35) 84 y84_35) 86 y86_43) A0 s.heap H locs := cw_eq hw (by first | rfl | (funext j_; simp only [upV, reduceIte]; (repeat' split) <;> first | rfl | omega | (subst_vars; rfl)))
                  have hh43_ : 0 ≤ (y86_43 o) ∧ (y86_43 o) ≤ 400 := hh43_
                  exact L90_36  y86_43 H locs ls  (by first | omega | (simp only [upB_same]; omega)) hw (lv_sub hl [0, 1, 2, 3, 4] rfl)
              refine j_iload E 55 rfl dX3_readConditions_53 (lv_at hl 0 rfl) ?_
              refine j_if_ne E 58 69 rfl r_s0_51 dX3_readConditions_55 (by decide) (fun cc44_ => ?_) (fun cc44_ => ?_)
              · exact L69_32  y86_c9 H locs ls  (by first | omega | (simp only [upB_same]; omega)) hw (lv_sub hl [1, 2, 3, 4, 0] rfl)
              · refine j_iload_n E 59 rfl dX3_readConditions_58 rfl (lv_at hl 3 rfl) ?_
                refine j_if_eq E 62 69 rfl r_l2_9 dX3_readConditions_59 (by decide) (fun cc45_ => ?_) (fun cc45_ => ?_)
                · exact L69_32  y86_c9 H locs ls  (by first | omega | (simp only [upB_same]; omega)) hw (lv_sub hl [1, 2, 3, 4, 0] rfl)
                · refine j_aload_n E 63 rfl dX3_readConditions_62 rfl (lv_at hl 1 rfl) ?_
                  refine j_sipush E 66 rfl dX3_readConditions_63 (by decide) ?_
                  refine kV_v E (c_X3_emit l D cy T (upV (upV (upV (upV v_0 80 y80_c9) 83 y83_c9) 84 y84_c9) 86 y86_c9) o ((-304))  t_o (rr (by decide)) (show 0 ≤ (y86_c9 o) ∧ (y86_c9 o) ≤ 400 from by omega)) mt_X3_emit ml_X3_60 hK hw (cw_rc4 hK hw.1 t_o) hA ⟨Nat.le_of_ble_eq_true rfl, Nat.le_of_ble_eq_true rfl⟩ ⟨Nat.le_of_ble_eq_true rfl, Nat.le_of_ble_eq_true rfl⟩ (As := [.int (J ((-304)))]) (rest := []) rfl rfl hl.1 (Nat.le_of_ble_eq_true rfl) 69 rfl dX3_readConditions_66 (fun v_46 H locs hq46_ hw => ?_)
                  obtain ⟨y86_46, ev46_, hh46_⟩ := hq46_
                  rw [ev46_] at hw; clear ev46_
                  have hw : WK D cy T (upV (upV (upV (upV v_0 80 y80_c9) 83 y83_c9) 84 y84_c9) 86 y86_46) A0 s.heap H locs := cw_eq hw (by first | rfl | (funext j_; simp only [upV, reduceIte]; (repeat' split) <;> first | rfl | omega | (subst_vars; rfl)))
                  have hh46_ : 0 ≤ (y86_46 o) ∧ (y86_46 o) ≤ 400 := hh46_
                  exact L69_32  y86_46 H locs ls  (by first | omega | (simp only [upB_same]; omega)) hw (lv_sub hl [1, 2, 3, 4, 0] rfl)
            refine j_aload_n E 37 rfl dX3_readConditions_36 rfl (lv_at hl 0 rfl) ?_
            refine g_84 E hK hw fl_X3_30 t_o (y84_c9 o) rfl 40 rfl dX3_readConditions_37 (fun _ => ?_)
            refine j_sipush E 43 rfl dX3_readConditions_40 (by decide) ?_
            refine j_icmp_ne E 46 50 rfl rr7_ (rr (by decide)) dX3_readConditions_43 (by decide) (fun cc47_ => ?_) (fun cc47_ => ?_)
            rotate_left; · exfalso; omega
            refine j_iconst E 51 rfl dX3_readConditions_50 ?_
            exact L51_30 0  H locs ls (rr (by decide)) (trivial) hw (lv_sub hl [0, 1, 2, 3] rfl)
  exact L9_2 _ 0 0 y80_1 y83_1 y84_1 y86_1 H locs ls (rr (by decide)) (rr (by decide)) (by first | omega | (simp only [upB_same]; omega)) (Nat.lt_succ_self _) hw (lv_sub hl [2, 3, 1, 0] rfl)
set_option maxHeartbeats 4000000 in
set_option maxRecDepth 100000 in
theorem c_X3_readCondition_n0 (l : Launch) (D : va_G) (cy : Nat → ClassId) (T : Nat → Nat → Nat) (v_0 : Nat → Nat → Int) (κ : Nat → Nat → Nat) (o : Nat) (hO : ∀ x, ow T x → κ 2 2 ≤ x) (t_o : T 0 o = 4) (hp0 : 0 ≤ (v_0 86 o) ∧ (v_0 86 o) ≤ 400) : KZ l D cy κ T yX3_readCondition cX3_readCondition 4 none 21 [.ref o, .int (J 0)] v_0 (KV (fun (v_2 : Nat → Nat → Int) => ∃ (y80_2 : Nat → Int) (y83_2 : Nat → Int) (y84_2 : Nat → Int) (y86_2 : Nat → Int) , v_2 = upV (upV (upV (upV v_0 80 y80_2) 83 y83_2) 84 y84_2) 86 y86_2 ∧ (0 ≤ (y86_2 o) ∧ (y86_2 o) ≤ 400))) := by
  refine KZ.ofv (by decide) (Nat.le_of_ble_eq_true rfl) hO ?_
  intro p e s m below meth c ls ar QW A0 H locs E hK hZ hA hAc hw hl hret
  have hl : lv_has ls 4 [(0, .ref o), (1, .int (J 0))] := hl
  have hT : WT T := hw.1.2.1
  refine j_aload_n E 1 rfl dX3_readCondition_0 rfl (lv_at hl 0 rfl) ?_
  refine g_84 E hK hw fl_X3_30 t_o (v_0 84 o) rfl 4 rfl dX3_readCondition_1 (fun rr1_ => ?_)
  refine j_bipush E 6 rfl dX3_readCondition_4 (by decide) ?_
  refine j_icmp_eq E 9 19 rfl rr1_ (rr (by decide)) dX3_readCondition_6 (by decide) (fun cc2_ => ?_) (fun cc2_ => ?_)
  · refine j_iconst E 20 rfl dX3_readCondition_19 ?_
    refine j_goto E 24 dX3_readCondition_20 (by decide) ?_
    refine j_istore_n E 25 rfl [(2, .int (J 1)), (0, .ref o), (1, .int (J 0))] dX3_readCondition_24 rfl hl (by decide) rfl (fun ls hl => ?_)
    refine j_iload_n E 26 rfl dX3_readCondition_25 rfl (lv_at hl 0 rfl) ?_
    refine j_if_eq E 29 43 rfl (rr (by decide)) dX3_readCondition_26 (by decide) (fun cc3_ => absurd cc3_ (by decide)) (fun _ => ?_)
    refine j_iload_n E 30 rfl dX3_readCondition_29 rfl (lv_at hl 2 rfl) ?_
    refine j_bipush E 32 rfl dX3_readCondition_30 (by decide) ?_
    refine j_icmp_lt E 35 43 rfl (rr (by decide)) (rr (by decide)) dX3_readCondition_32 (by decide) (fun _ => ?_) (fun cc4_ => absurd cc4_ (by decide))
    refine j_aload_n E 44 rfl dX3_readCondition_43 rfl (lv_at hl 1 rfl) ?_
    refine g_84 E hK hw fl_X3_30 t_o (v_0 84 o) rfl 47 rfl dX3_readCondition_44 (fun _ => ?_)
    refine j_bipush E 49 rfl dX3_readCondition_47 (by decide) ?_
    refine j_icmp_ne E 52 72 rfl rr1_ (rr (by decide)) dX3_readCondition_49 (by decide) (fun cc5_ => ?_) (fun cc5_ => ?_)
    · exfalso; omega
    refine j_aload_n E 53 rfl dX3_readCondition_52 rfl (lv_at hl 1 rfl) ?_
    refine zV_v E (c_X3_step l D cy T (v_0) κ o  hO t_o  ) mt_X3_step ml_X3_54 hK hZ hAc hw (cw_rc4 hK hw.1 t_o) hA ⟨Nat.le_of_ble_eq_true rfl, Nat.le_of_ble_eq_true rfl⟩ ⟨Nat.le_of_ble_eq_true rfl, Nat.le_of_ble_eq_true rfl⟩ (As := []) (rest := []) rfl rfl hl.1 (Nat.le_of_ble_eq_true rfl) 56 rfl dX3_readCondition_53 (fun v_6 H locs hq6_ hw => ?_)
    obtain ⟨y83_6, y84_6, ev6_, hh6_⟩ := hq6_
    rw [ev6_] at hw; clear ev6_
    have hw : WK D cy T (upV (upV v_0 83 y83_6) 84 y84_6) A0 s.heap H locs := cw_eq hw (by first | rfl | (funext j_; simp only [upV, reduceIte]; (repeat' split) <;> first | rfl | omega | (subst_vars; rfl)))
    refine j_aload_n E 57 rfl dX3_readCondition_56 rfl (lv_at hl 1 rfl) ?_
    refine j_iload_n E 58 rfl dX3_readCondition_57 rfl (lv_at hl 2 rfl) ?_
    refine j_iconst E 59 rfl dX3_readCondition_58 ?_
    refine j_iadd E 60 rfl dX3_readCondition_59 ?_
    refine j_lit (z := 1) (by decide) ?_
    refine zV_v E (c_X3_readConditions_n1 l D cy T (upV (upV v_0 83 y83_6) 84 y84_6) κ o  hO t_o  (show 0 ≤ ((v_0 86) o) ∧ ((v_0 86) o) ≤ 400 from by omega)) mt_X3_readConditions ml_X3_57 hK hZ hAc hw (cw_rc4 hK hw.1 t_o) hA ⟨Nat.le_of_ble_eq_true rfl, Nat.le_of_ble_eq_true rfl⟩ ⟨Nat.le_of_ble_eq_true rfl, Nat.le_of_ble_eq_true rfl⟩ (As := [.int (J 1)]) (rest := []) rfl rfl hl.1 (Nat.le_of_ble_eq_true rfl) 63 rfl dX3_readCondition_60 (fun v_7 H locs hq7_ hw => ?_)
    obtain ⟨y80_7, y83_7, y84_7, y86_7, ev7_, hh7_⟩ := hq7_
    rw [ev7_] at hw; clear ev7_
    have hw : WK D cy T (upV (upV (upV (upV v_0 80 y80_7) 83 y83_7) 84 y84_7) 86 y86_7) A0 s.heap H locs := cw_eq hw (by first | rfl | (funext j_; simp only [upV, reduceIte]; (repeat' split) <;> first | rfl | omega | (subst_vars; rfl)))
    have hh7_ : 0 ≤ (y86_7 o) ∧ (y86_7 o) ≤ 400 := hh7_
    refine j_aload_n E 64 rfl dX3_readCondition_63 rfl (lv_at hl 1 rfl) ?_
    refine j_bipush E 66 rfl dX3_readCondition_64 (by decide) ?_
    refine zV_v E (c_X3_take l D cy T (upV (upV (upV (upV v_0 80 y80_7) 83 y83_7) 84 y84_7) 86 y86_7) κ o 41  hO t_o (rr (by decide)) ) mt_X3_take ml_X3_47 hK hZ hAc hw (cw_rc4 hK hw.1 t_o) hA ⟨Nat.le_of_ble_eq_true rfl, Nat.le_of_ble_eq_true rfl⟩ ⟨Nat.le_of_ble_eq_true rfl, Nat.le_of_ble_eq_true rfl⟩ (As := [.int (J 41)]) (rest := []) rfl rfl hl.1 (Nat.le_of_ble_eq_true rfl) 69 rfl dX3_readCondition_66 (fun v_8 H locs hq8_ hw => ?_)
    obtain ⟨y80_8, y83_8, y84_8, ev8_, hh8_⟩ := hq8_
    rw [ev8_] at hw; clear ev8_
    have hw : WK D cy T (upV (upV (upV (upV v_0 80 y80_8) 83 y83_8) 84 y84_8) 86 y86_7) A0 s.heap H locs := cw_eq hw (by first | rfl | (funext j_; simp only [upV, reduceIte]; (repeat' split) <;> first | rfl | omega | (subst_vars; rfl)))
    refine j_goto E 126 dX3_readCondition_69 (by decide) ?_
    exact hret 126 (upV (upV (upV (upV v_0 80 y80_8) 83 y83_8) 84 y84_8) 86 y86_7) _ _ ls hw ⟨y80_8, y83_8, y84_8, y86_7, rfl, by first | omega | (simp only [upB_same]; omega)⟩ dX3_readCondition_126
  · refine j_aload_n E 10 rfl dX3_readCondition_9 rfl (lv_at hl 0 rfl) ?_
    refine g_84 E hK hw fl_X3_30 t_o (v_0 84 o) rfl 13 rfl dX3_readCondition_10 (fun _ => ?_)
    refine j_sipush E 16 rfl dX3_readCondition_13 (by decide) ?_
    refine j_icmp_ne E 19 23 rfl rr1_ (rr (by decide)) dX3_readCondition_16 (by decide) (fun cc9_ => ?_) (fun cc9_ => ?_)
    · refine j_iconst E 24 rfl dX3_readCondition_23 ?_
      refine j_istore_n E 25 rfl [(2, .int (J 0)), (0, .ref o), (1, .int (J 0))] dX3_readCondition_24 rfl hl (by decide) rfl (fun ls hl => ?_)
      refine j_iload_n E 26 rfl dX3_readCondition_25 rfl (lv_at hl 0 rfl) ?_
      refine j_if_eq E 29 43 rfl (rr (by decide)) dX3_readCondition_26 (by decide) (fun _ => ?_) (fun cc10_ => absurd cc10_ (by decide))
      refine j_aload_n E 44 rfl dX3_readCondition_43 rfl (lv_at hl 1 rfl) ?_
      refine g_84 E hK hw fl_X3_30 t_o (v_0 84 o) rfl 47 rfl dX3_readCondition_44 (fun _ => ?_)
      refine j_bipush E 49 rfl dX3_readCondition_47 (by decide) ?_
      refine j_icmp_ne E 52 72 rfl rr1_ (rr (by decide)) dX3_readCondition_49 (by decide) (fun cc11_ => ?_) (fun cc11_ => ?_)
      rotate_left; · exfalso; omega
      refine j_aload_n E 73 rfl dX3_readCondition_72 rfl (lv_at hl 1 rfl) ?_
      refine g_84 E hK hw fl_X3_30 t_o (v_0 84 o) rfl 76 rfl dX3_readCondition_73 (fun _ => ?_)
      refine j_sipush E 79 rfl dX3_readCondition_76 (by decide) ?_
      refine j_icmp_ne E 82 103 rfl rr1_ (rr (by decide)) dX3_readCondition_79 (by decide) (fun cc12_ => ?_) (fun cc12_ => ?_)
      rotate_left; · exfalso; omega
      refine j_aload_n E 104 rfl dX3_readCondition_103 rfl (lv_at hl 1 rfl) ?_
      refine zV_v E (c_X3_readSum l D cy T (v_0) κ o  hO t_o  (show 0 ≤ ((v_0 86) o) ∧ ((v_0 86) o) ≤ 400 from by omega)) mt_X3_readSum ml_X3_51 hK hZ hAc hw (cw_rc4 hK hw.1 t_o) hA ⟨Nat.le_of_ble_eq_true rfl, Nat.le_of_ble_eq_true rfl⟩ ⟨Nat.le_of_ble_eq_true rfl, Nat.le_of_ble_eq_true rfl⟩ (As := []) (rest := []) rfl rfl hl.1 (Nat.le_of_ble_eq_true rfl) 107 rfl dX3_readCondition_104 (fun v_13 H locs hq13_ hw => ?_)
      obtain ⟨y80_13, y83_13, y84_13, y86_13, ev13_, hh13_⟩ := hq13_
      rw [ev13_] at hw; clear ev13_
      have hw : WK D cy T (upV (upV (upV (upV v_0 80 y80_13) 83 y83_13) 84 y84_13) 86 y86_13) A0 s.heap H locs := cw_eq hw (by first | rfl | (funext j_; simp only [upV, reduceIte]; (repeat' split) <;> first | rfl | omega | (subst_vars; rfl)))
      have hh13_ : 0 ≤ (y86_13 o) ∧ (y86_13 o) ≤ 400 := hh13_
      refine j_aload_n E 108 rfl dX3_readCondition_107 rfl (lv_at hl 1 rfl) ?_
      refine g_84 E hK hw fl_X3_30 t_o (y84_13 o) rfl 111 rfl dX3_readCondition_108 (fun rr14_ => ?_)
      refine j_istore_n E 112 rfl [(3, .int (J (y84_13 o))), (2, .int (J 0)), (0, .ref o), (1, .int (J 0))] dX3_readCondition_111 rfl hl (by decide) rfl (fun ls hl => ?_)
      refine j_aload_n E 113 rfl dX3_readCondition_112 rfl (lv_at hl 2 rfl) ?_
      refine zV_v E (c_X3_takeComparison l D cy T (upV (upV (upV (upV v_0 80 y80_13) 83 y83_13) 84 y84_13) 86 y86_13) κ o  hO t_o  ) mt_X3_takeComparison ml_X3_88 hK hZ hAc hw (cw_rc4 hK hw.1 t_o) hA ⟨Nat.le_of_ble_eq_true rfl, Nat.le_of_ble_eq_true rfl⟩ ⟨Nat.le_of_ble_eq_true rfl, Nat.le_of_ble_eq_true rfl⟩ (As := []) (rest := []) rfl rfl hl.1 (Nat.le_of_ble_eq_true rfl) 116 rfl dX3_readCondition_113 (fun v_15 H locs hq15_ hw => ?_)
      obtain ⟨y80_15, y83_15, y84_15, ev15_, hh15_⟩ := hq15_
      rw [ev15_] at hw; clear ev15_
      have hw : WK D cy T (upV (upV (upV (upV v_0 80 y80_15) 83 y83_15) 84 y84_15) 86 y86_13) A0 s.heap H locs := cw_eq hw (by first | rfl | (funext j_; simp only [upV, reduceIte]; (repeat' split) <;> first | rfl | omega | (subst_vars; rfl)))
      refine j_aload_n E 117 rfl dX3_readCondition_116 rfl (lv_at hl 2 rfl) ?_
      refine zV_v E (c_X3_readSum l D cy T (upV (upV (upV (upV v_0 80 y80_15) 83 y83_15) 84 y84_15) 86 y86_13) κ o  hO t_o  (show 0 ≤ (y86_13 o) ∧ (y86_13 o) ≤ 400 from by omega)) mt_X3_readSum ml_X3_51 hK hZ hAc hw (cw_rc4 hK hw.1 t_o) hA ⟨Nat.le_of_ble_eq_true rfl, Nat.le_of_ble_eq_true rfl⟩ ⟨Nat.le_of_ble_eq_true rfl, Nat.le_of_ble_eq_true rfl⟩ (As := []) (rest := []) rfl rfl hl.1 (Nat.le_of_ble_eq_true rfl) 120 rfl dX3_readCondition_117 (fun v_16 H locs hq16_ hw => ?_)
      obtain ⟨y80_16, y83_16, y84_16, y86_16, ev16_, hh16_⟩ := hq16_
      rw [ev16_] at hw; clear ev16_
      have hw : WK D cy T (upV (upV (upV (upV v_0 80 y80_16) 83 y83_16) 84 y84_16) 86 y86_16) A0 s.heap H locs := cw_eq hw (by first | rfl | (funext j_; simp only [upV, reduceIte]; (repeat' split) <;> first | rfl | omega | (subst_vars; rfl)))
      have hh16_ : 0 ≤ (y86_16 o) ∧ (y86_16 o) ≤ 400 := hh16_
      refine j_aload_n E 121 rfl dX3_readCondition_120 rfl (lv_at hl 2 rfl) ?_
      refine j_iload_n E 122 rfl dX3_readCondition_121 rfl (lv_at hl 0 rfl) ?_
      refine j_ineg E 123 rfl dX3_readCondition_122 ?_
      refine j_norm (fun zz17_ rr17_ ee17_ => ?_)
      refine kV_v E (c_X3_emit l D cy T (upV (upV (upV (upV v_0 80 y80_16) 83 y83_16) 84 y84_16) 86 y86_16) o zz17_  t_o rr17_ (show 0 ≤ (y86_16 o) ∧ (y86_16 o) ≤ 400 from by omega)) mt_X3_emit ml_X3_60 hK hw (cw_rc4 hK hw.1 t_o) hA ⟨Nat.le_of_ble_eq_true rfl, Nat.le_of_ble_eq_true rfl⟩ ⟨Nat.le_of_ble_eq_true rfl, Nat.le_of_ble_eq_true rfl⟩ (As := [.int (J zz17_)]) (rest := []) rfl rfl hl.1 (Nat.le_of_ble_eq_true rfl) 126 rfl dX3_readCondition_123 (fun v_18 H locs hq18_ hw => ?_)
      obtain ⟨y86_18, ev18_, hh18_⟩ := hq18_
      rw [ev18_] at hw; clear ev18_
      have hw : WK D cy T (upV (upV (upV (upV v_0 80 y80_16) 83 y83_16) 84 y84_16) 86 y86_18) A0 s.heap H locs := cw_eq hw (by first | rfl | (funext j_; simp only [upV, reduceIte]; (repeat' split) <;> first | rfl | omega | (subst_vars; rfl)))
      have hh18_ : 0 ≤ (y86_18 o) ∧ (y86_18 o) ≤ 400 := hh18_
      exact hret 126 (upV (upV (upV (upV v_0 80 y80_16) 83 y83_16) 84 y84_16) 86 y86_18) _ _ ls hw ⟨y80_16, y83_16, y84_16, y86_18, rfl, by first | omega | (simp only [upB_same]; omega)⟩ dX3_readCondition_126
    · refine j_iconst E 20 rfl dX3_readCondition_19 ?_
      refine j_goto E 24 dX3_readCondition_20 (by decide) ?_
      refine j_istore_n E 25 rfl [(2, .int (J 1)), (0, .ref o), (1, .int (J 0))] dX3_readCondition_24 rfl hl (by decide) rfl (fun ls hl => ?_)
      refine j_iload_n E 26 rfl dX3_readCondition_25 rfl (lv_at hl 0 rfl) ?_
      refine j_if_eq E 29 43 rfl (rr (by decide)) dX3_readCondition_26 (by decide) (fun cc19_ => absurd cc19_ (by decide)) (fun _ => ?_)
      refine j_iload_n E 30 rfl dX3_readCondition_29 rfl (lv_at hl 2 rfl) ?_
      refine j_bipush E 32 rfl dX3_readCondition_30 (by decide) ?_
      refine j_icmp_lt E 35 43 rfl (rr (by decide)) (rr (by decide)) dX3_readCondition_32 (by decide) (fun _ => ?_) (fun cc20_ => absurd cc20_ (by decide))
      refine j_aload_n E 44 rfl dX3_readCondition_43 rfl (lv_at hl 1 rfl) ?_
      refine g_84 E hK hw fl_X3_30 t_o (v_0 84 o) rfl 47 rfl dX3_readCondition_44 (fun _ => ?_)
      refine j_bipush E 49 rfl dX3_readCondition_47 (by decide) ?_
      refine j_icmp_ne E 52 72 rfl rr1_ (rr (by decide)) dX3_readCondition_49 (by decide) (fun cc21_ => ?_) (fun cc21_ => ?_)
      rotate_left; · exfalso; omega
      refine j_aload_n E 73 rfl dX3_readCondition_72 rfl (lv_at hl 1 rfl) ?_
      refine g_84 E hK hw fl_X3_30 t_o (v_0 84 o) rfl 76 rfl dX3_readCondition_73 (fun _ => ?_)
      refine j_sipush E 79 rfl dX3_readCondition_76 (by decide) ?_
      refine j_icmp_ne E 82 103 rfl rr1_ (rr (by decide)) dX3_readCondition_79 (by decide) (fun cc22_ => ?_) (fun cc22_ => ?_)
      · exfalso; omega
      refine j_aload_n E 83 rfl dX3_readCondition_82 rfl (lv_at hl 1 rfl) ?_
      refine zV_v E (c_X3_step l D cy T (v_0) κ o  hO t_o  ) mt_X3_step ml_X3_54 hK hZ hAc hw (cw_rc4 hK hw.1 t_o) hA ⟨Nat.le_of_ble_eq_true rfl, Nat.le_of_ble_eq_true rfl⟩ ⟨Nat.le_of_ble_eq_true rfl, Nat.le_of_ble_eq_true rfl⟩ (As := []) (rest := []) rfl rfl hl.1 (Nat.le_of_ble_eq_true rfl) 86 rfl dX3_readCondition_83 (fun v_23 H locs hq23_ hw => ?_)
      obtain ⟨y83_23, y84_23, ev23_, hh23_⟩ := hq23_
      rw [ev23_] at hw; clear ev23_
      have hw : WK D cy T (upV (upV v_0 83 y83_23) 84 y84_23) A0 s.heap H locs := cw_eq hw (by first | rfl | (funext j_; simp only [upV, reduceIte]; (repeat' split) <;> first | rfl | omega | (subst_vars; rfl)))
      refine j_aload_n E 87 rfl dX3_readCondition_86 rfl (lv_at hl 1 rfl) ?_
      refine j_iload_n E 88 rfl dX3_readCondition_87 rfl (lv_at hl 2 rfl) ?_
      refine j_iconst E 89 rfl dX3_readCondition_88 ?_
      refine j_iadd E 90 rfl dX3_readCondition_89 ?_
      refine j_lit (z := 1) (by decide) ?_
      refine zV_v E (c_X3_readCondition_n1 l D cy T (upV (upV v_0 83 y83_23) 84 y84_23) κ o  hO t_o  (show 0 ≤ ((v_0 86) o) ∧ ((v_0 86) o) ≤ 400 from by omega)) mt_X3_readCondition ml_X3_85 hK hZ hAc hw (cw_rc4 hK hw.1 t_o) hA ⟨Nat.le_of_ble_eq_true rfl, Nat.le_of_ble_eq_true rfl⟩ ⟨Nat.le_of_ble_eq_true rfl, Nat.le_of_ble_eq_true rfl⟩ (As := [.int (J 1)]) (rest := []) rfl rfl hl.1 (Nat.le_of_ble_eq_true rfl) 93 rfl dX3_readCondition_90 (fun v_24 H locs hq24_ hw => ?_)
      obtain ⟨y80_24, y83_24, y84_24, y86_24, ev24_, hh24_⟩ := hq24_
      rw [ev24_] at hw; clear ev24_
      have hw : WK D cy T (upV (upV (upV (upV v_0 80 y80_24) 83 y83_24) 84 y84_24) 86 y86_24) A0 s.heap H locs := cw_eq hw (by first | rfl | (funext j_; simp only [upV, reduceIte]; (repeat' split) <;> first | rfl | omega | (subst_vars; rfl)))
      have hh24_ : 0 ≤ (y86_24 o) ∧ (y86_24 o) ≤ 400 := hh24_
      refine j_aload_n E 94 rfl dX3_readCondition_93 rfl (lv_at hl 1 rfl) ?_
      refine j_sipush E 97 rfl dX3_readCondition_94 (by decide) ?_
      refine kV_v E (c_X3_emit l D cy T (upV (upV (upV (upV v_0 80 y80_24) 83 y83_24) 84 y84_24) 86 y86_24) o ((-306))  t_o (rr (by decide)) (show 0 ≤ (y86_24 o) ∧ (y86_24 o) ≤ 400 from by omega)) mt_X3_emit ml_X3_60 hK hw (cw_rc4 hK hw.1 t_o) hA ⟨Nat.le_of_ble_eq_true rfl, Nat.le_of_ble_eq_true rfl⟩ ⟨Nat.le_of_ble_eq_true rfl, Nat.le_of_ble_eq_true rfl⟩ (As := [.int (J ((-306)))]) (rest := []) rfl rfl hl.1 (Nat.le_of_ble_eq_true rfl) 100 rfl dX3_readCondition_97 (fun v_25 H locs hq25_ hw => ?_)
      obtain ⟨y86_25, ev25_, hh25_⟩ := hq25_
      rw [ev25_] at hw; clear ev25_
      have hw : WK D cy T (upV (upV (upV (upV v_0 80 y80_24) 83 y83_24) 84 y84_24) 86 y86_25) A0 s.heap H locs := cw_eq hw (by first | rfl | (funext j_; simp only [upV, reduceIte]; (repeat' split) <;> first | rfl | omega | (subst_vars; rfl)))
      have hh25_ : 0 ≤ (y86_25 o) ∧ (y86_25 o) ≤ 400 := hh25_
      refine j_goto E 126 dX3_readCondition_100 (by decide) ?_
      exact hret 126 (upV (upV (upV (upV v_0 80 y80_24) 83 y83_24) 84 y84_24) 86 y86_25) _ _ ls hw ⟨y80_24, y83_24, y84_24, y86_25, rfl, by first | omega | (simp only [upB_same]; omega)⟩ dX3_readCondition_126
set_option maxHeartbeats 4000000 in
set_option maxRecDepth 100000 in
theorem c_X3_readConditions_n0 (l : Launch) (D : va_G) (cy : Nat → ClassId) (T : Nat → Nat → Nat) (v_0 : Nat → Nat → Int) (κ : Nat → Nat → Nat) (o : Nat) (hO : ∀ x, ow T x → κ 2 2 ≤ x) (t_o : T 0 o = 4) (hp0 : 0 ≤ (v_0 86 o) ∧ (v_0 86 o) ≤ 400) : KZ l D cy κ T yX3_readConditions cX3_readConditions 5 none 22 [.ref o, .int (J 0)] v_0 (KV (fun (v_2 : Nat → Nat → Int) => ∃ (y80_2 : Nat → Int) (y83_2 : Nat → Int) (y84_2 : Nat → Int) (y86_2 : Nat → Int) , v_2 = upV (upV (upV (upV v_0 80 y80_2) 83 y83_2) 84 y84_2) 86 y86_2 ∧ (0 ≤ (y86_2 o) ∧ (y86_2 o) ≤ 400))) := by
  refine KZ.ofv (by decide) (Nat.le_of_ble_eq_true rfl) hO ?_
  intro p e s m below meth c ls ar QW A0 H locs E hK hZ hA hAc hw hl hret
  have hl : lv_has ls 5 [(0, .ref o), (1, .int (J 0))] := hl
  have hT : WT T := hw.1.2.1
  refine j_aload_n E 1 rfl dX3_readConditions_0 rfl (lv_at hl 0 rfl) ?_
  refine j_iload_n E 2 rfl dX3_readConditions_1 rfl (lv_at hl 1 rfl) ?_
  refine zV_v E (c_X3_readCondition_n0 l D cy T (v_0) κ o  hO t_o  (show 0 ≤ ((v_0 86) o) ∧ ((v_0 86) o) ≤ 400 from by omega)) mt_X3_readCondition ml_X3_85 hK hZ hAc hw (cw_rc4 hK hw.1 t_o) hA ⟨Nat.le_of_ble_eq_true rfl, Nat.le_of_ble_eq_true rfl⟩ ⟨Nat.le_of_ble_eq_true rfl, Nat.le_of_ble_eq_true rfl⟩ (As := [.int (J 0)]) (rest := []) rfl rfl hl.1 (Nat.le_of_ble_eq_true rfl) 5 rfl dX3_readConditions_2 (fun v_1 H locs hq1_ hw => ?_)
  obtain ⟨y80_1, y83_1, y84_1, y86_1, ev1_, hh1_⟩ := hq1_
  rw [ev1_] at hw; clear ev1_
  have hw : WK D cy T (upV (upV (upV (upV v_0 80 y80_1) 83 y83_1) 84 y84_1) 86 y86_1) A0 s.heap H locs := cw_eq hw (by first | rfl | (funext j_; simp only [upV, reduceIte]; (repeat' split) <;> first | rfl | omega | (subst_vars; rfl)))
  have hh1_ : 0 ≤ (y86_1 o) ∧ (y86_1 o) ≤ 400 := hh1_
  refine j_iconst E 6 rfl dX3_readConditions_5 ?_
  refine j_istore_n E 7 rfl [(2, .int (J 0)), (0, .ref o), (1, .int (J 0))] dX3_readConditions_6 rfl hl (by decide) rfl (fun ls hl => ?_)
  refine j_iconst E 8 rfl dX3_readConditions_7 ?_
  refine j_istore_n E 9 rfl [(3, .int (J 0)), (2, .int (J 0)), (0, .ref o), (1, .int (J 0))] dX3_readConditions_8 rfl hl (by decide) rfl (fun ls hl => ?_)
  have L9_2 : ∀ (k9 : Nat) (l2_9 l3_9 : Int) (y80_c9 : Nat → Int) (y83_c9 : Nat → Int) (y84_c9 : Nat → Int) (y86_c9 : Nat → Int) (H : Heap) (locs : List Loc) (ls : Array Slot), inR l2_9 → inR l3_9 → (0 ≤ (y86_c9 o) ∧ (y86_c9 o) ≤ 400) → (400 - l3_9).toNat < k9 → WK D cy T (upV (upV (upV (upV v_0 80 y80_c9) 83 y83_c9) 84 y84_c9) 86 y86_c9) A0 s.heap H locs → lv_has ls 5 [(0, .ref o), (1, .int (J 0)), (2, .int (J l2_9)), (3, .int (J l3_9))] → W p l e (rmd 22 0 0) s m ar below meth c H locs 0 0 QW (F0 m 9 ls []) := by
    intro k9
    induction k9 with
    | zero =>
      intro l2_9 l3_9 y80_c9 y83_c9 y84_c9 y86_c9 H locs ls r_l2_9 r_l3_9 iv9 ms9 hw hl
      exact absurd ms9 (Nat.not_lt_zero _)
    | succ k9 ih9 =>
      intro l2_9 l3_9 y80_c9 y83_c9 y84_c9 y86_c9 H locs ls r_l2_9 r_l3_9 iv9 ms9 hw hl
      refine j_iload_n E 10 rfl dX3_readConditions_9 rfl (lv_at hl 3 rfl) ?_
      refine j_sipush E 13 rfl dX3_readConditions_10 (by decide) ?_
      refine j_icmp_ge E 16 111 rfl r_l3_9 (rr (by decide)) dX3_readConditions_13 (by decide) (fun cc4_ => ?_) (fun cc4_ => ?_)
      · refine j_iload_n E 112 rfl dX3_readConditions_111 rfl (lv_at hl 2 rfl) ?_
        refine j_if_eq E 115 122 rfl r_l2_9 dX3_readConditions_112 (by decide) (fun cc5_ => ?_) (fun cc5_ => ?_)
        · exact hret 122 (upV (upV (upV (upV v_0 80 y80_c9) 83 y83_c9) 84 y84_c9) 86 y86_c9) _ _ ls hw ⟨y80_c9, y83_c9, y84_c9, y86_c9, rfl, by first | omega | (simp only [upB_same]; omega)⟩ dX3_readConditions_122
        · refine j_aload_n E 116 rfl dX3_readConditions_115 rfl (lv_at hl 0 rfl) ?_
          refine j_sipush E 119 rfl dX3_readConditions_116 (by decide) ?_
          refine kV_v E (c_X3_emit l D cy T (upV (upV (upV (upV v_0 80 y80_c9) 83 y83_c9) 84 y84_c9) 86 y86_c9) o ((-304))  t_o (rr (by decide)) (show 0 ≤ (y86_c9 o) ∧ (y86_c9 o) ≤ 400 from by omega)) mt_X3_emit ml_X3_60 hK hw (cw_rc4 hK hw.1 t_o) hA ⟨Nat.le_of_ble_eq_true rfl, Nat.le_of_ble_eq_true rfl⟩ ⟨Nat.le_of_ble_eq_true rfl, Nat.le_of_ble_eq_true rfl⟩ (As := [.int (J ((-304)))]) (rest := []) rfl rfl hl.1 (Nat.le_of_ble_eq_true rfl) 122 rfl dX3_readConditions_119 (fun v_6 H locs hq6_ hw => ?_)
          obtain ⟨y86_6, ev6_, hh6_⟩ := hq6_
          rw [ev6_] at hw; clear ev6_
          have hw : WK D cy T (upV (upV (upV (upV v_0 80 y80_c9) 83 y83_c9) 84 y84_c9) 86 y86_6) A0 s.heap H locs := cw_eq hw (by first | rfl | (funext j_; simp only [upV, reduceIte]; (repeat' split) <;> first | rfl | omega | (subst_vars; rfl)))
          have hh6_ : 0 ≤ (y86_6 o) ∧ (y86_6 o) ≤ 400 := hh6_
          exact hret 122 (upV (upV (upV (upV v_0 80 y80_c9) 83 y83_c9) 84 y84_c9) 86 y86_6) _ _ ls hw ⟨y80_c9, y83_c9, y84_c9, y86_6, rfl, by first | omega | (simp only [upB_same]; omega)⟩ dX3_readConditions_122
      · refine j_aload_n E 17 rfl dX3_readConditions_16 rfl (lv_at hl 0 rfl) ?_
        refine g_84 E hK hw fl_X3_30 t_o (y84_c9 o) rfl 20 rfl dX3_readConditions_17 (fun rr7_ => ?_)
        refine j_sipush E 23 rfl dX3_readConditions_20 (by decide) ?_
        refine j_icmp_eq E 26 36 rfl rr7_ (rr (by decide)) dX3_readConditions_23 (by decide) (fun cc8_ => ?_) (fun cc8_ => ?_)
        · have L51_9 : ∀ (s0_51 : Int) (H : Heap) (locs : List Loc) (ls : Array Slot), inR s0_51 → (True) → WK D cy T (upV (upV (upV (upV v_0 80 y80_c9) 83 y83_c9) 84 y84_c9) 86 y86_c9) A0 s.heap H locs → lv_has ls 5 [(0, .ref o), (1, .int (J 0)), (2, .int (J l2_9)), (3, .int (J l3_9))] → W p l e (rmd 22 0 0) s m ar below meth c H locs 0 0 QW (F0 m 51 ls [.int (J s0_51)]) := by
            intro s0_51 H locs ls r_s0_51 iv51 hw hl
            refine j_istore E 53 rfl [(4, .int (J s0_51)), (0, .ref o), (1, .int (J 0)), (2, .int (J l2_9)), (3, .int (J l3_9))] dX3_readConditions_51 hl (by decide) rfl (fun ls hl => ?_)
            have L69_11 : ∀ (y86_c69 : Nat → Int) (H : Heap) (locs : List Loc) (ls : Array Slot), (0 ≤ (y86_c69 o) ∧ (y86_c69 o) ≤ 400) → WK D cy T (upV (upV (upV (upV v_0 80 y80_c9) 83 y83_c9) 84 y84_c9) 86 y86_c69) A0 s.heap H locs → lv_has ls 5 [(0, .ref o), (1, .int (J 0)), (2, .int (J l2_9)), (3, .int (J l3_9)), (4, .int (J s0_51))] → W p l e (rmd 22 0 0) s m ar below meth c H locs 0 0 QW (F0 m 69 ls []) := by
              intro y86_c69 H locs ls iv69 hw hl
              refine j_aload_n E 70 rfl dX3_readConditions_69 rfl (lv_at hl 0 rfl) ?_
              refine zV_v E (c_X3_step l D cy T (upV (upV (upV (upV v_0 80 y80_c9) 83 y83_c9) 84 y84_c9) 86 y86_c69) κ o  hO t_o  ) mt_X3_step ml_X3_54 hK hZ hAc hw (cw_rc4 hK hw.1 t_o) hA ⟨Nat.le_of_ble_eq_true rfl, Nat.le_of_ble_eq_true rfl⟩ ⟨Nat.le_of_ble_eq_true rfl, Nat.le_of_ble_eq_true rfl⟩ (As := []) (rest := []) rfl rfl hl.1 (Nat.le_of_ble_eq_true rfl) 73 rfl dX3_readConditions_70 (fun v_13 H locs hq13_ hw => ?_)
              obtain ⟨y83_13, y84_13, ev13_, hh13_⟩ := hq13_
              rw [ev13_] at hw; clear ev13_
              have hw : WK D cy T (upV (upV (upV (upV v_0 80 y80_c9) 83 y83_13) 84 y84_13) 86 y86_c69) A0 s.heap H locs := cw_eq hw (by first | rfl | (funext j_; simp only [upV, reduceIte]; (repeat' split) <;> first | rfl | omega | (subst_vars; rfl)))
              refine j_aload_n E 74 rfl dX3_readConditions_73 rfl (lv_at hl 0 rfl) ?_
              refine j_iload_n E 75 rfl dX3_readConditions_74 rfl (lv_at hl 1 rfl) ?_
              refine zV_v E (c_X3_readCondition_n0 l D cy T (upV (upV (upV (upV v_0 80 y80_c9) 83 y83_13) 84 y84_13) 86 y86_c69) κ o  hO t_o  (show 0 ≤ (y86_c69 o) ∧ (y86_c69 o) ≤ 400 from by omega)) mt_X3_readCondition ml_X3_85 hK hZ hAc hw (cw_rc4 hK hw.1 t_o) hA ⟨Nat.le_of_ble_eq_true rfl, Nat.le_of_ble_eq_true rfl⟩ ⟨Nat.le_of_ble_eq_true rfl, Nat.le_of_ble_eq_true rfl⟩ (As := [.int (J 0)]) (rest := []) rfl rfl hl.1 (Nat.le_of_ble_eq_true rfl) 78 rfl dX3_readConditions_75 (fun v_14 H locs hq14_ hw => ?_)
              obtain ⟨y80_14, y83_14, y84_14, y86_14, ev14_, hh14_⟩ := hq14_
              rw [ev14_] at hw; clear ev14_
              have hw : WK D cy T (upV (upV (upV (upV v_0 80 y80_14) 83 y83_14) 84 y84_14) 86 y86_14) A0 s.heap H locs := cw_eq hw (by first | rfl | (funext j_; simp only [upV, reduceIte]; (repeat' split) <;> first | rfl | omega | (subst_vars; rfl)))
              have hh14_ : 0 ≤ (y86_14 o) ∧ (y86_14 o) ≤ 400 := hh14_
              have L90_15 : ∀ (y86_c90 : Nat → Int) (H : Heap) (locs : List Loc) (ls : Array Slot), (0 ≤ (y86_c90 o) ∧ (y86_c90 o) ≤ 400) → WK D cy T (upV (upV (upV (upV v_0 80 y80_14) 83 y83_14) 84 y84_14) 86 y86_c90) A0 s.heap H locs → lv_has ls 5 [(0, .ref o), (1, .int (J 0)), (2, .int (J l2_9)), (3, .int (J l3_9)), (4, .int (J s0_51))] → W p l e (rmd 22 0 0) s m ar below meth c H locs 0 0 QW (F0 m 90 ls []) := by
                intro y86_c90 H locs ls iv90 hw hl
                have L104_17 : ∀ (s0_104 : Int) (H : Heap) (locs : List Loc) (ls : Array Slot), inR s0_104 → (True) → WK D cy T (upV (upV (upV (upV v_0 80 y80_14) 83 y83_14) 84 y84_14) 86 y86_c90) A0 s.heap H locs → lv_has ls 5 [(0, .ref o), (1, .int (J 0)), (2, .int (J l2_9)), (3, .int (J l3_9)), (4, .int (J s0_51))] → W p l e (rmd 22 0 0) s m ar below meth c H locs 0 0 QW (F0 m 104 ls [.int (J s0_104)]) := by
                  intro s0_104 H locs ls r_s0_104 iv104 hw hl
                  refine j_istore_n E 105 rfl [(2, .int (J s0_104)), (0, .ref o), (1, .int (J 0)), (3, .int (J l3_9)), (4, .int (J s0_51))] dX3_readConditions_104 rfl hl (by decide) rfl (fun ls hl => ?_)
                  refine j_iinc E 108 rfl [(3, .int (J (l3_9 + 1))), (2, .int (J s0_104)), (0, .ref o), (1, .int (J 0)), (4, .int (J s0_51))] dX3_readConditions_105 hl (kk := 3) rfl (by decide) rfl (fun ls hl => ?_)
                  refine j_goto E 9 dX3_readConditions_108 (by decide) ?_
                  exact ih9 s0_104 (l3_9 + 1) y80_14 y83_14 y84_14 y86_c90 H locs ls r_s0_104 (rr (by omega)) (by first | omega | (simp only [upB_same]; omega)) (by omega) hw (lv_sub hl [2, 3, 1, 0] rfl)
                refine j_iload_n E 91 rfl dX3_readConditions_90 rfl (lv_at hl 2 rfl) ?_
                refine j_if_ne E 94 99 rfl r_l2_9 dX3_readConditions_91 (by decide) (fun cc19_ => ?_) (fun cc19_ => ?_)
                · refine j_iconst E 100 rfl dX3_readConditions_99 ?_
                  refine j_goto E 104 dX3_readConditions_100 (by decide) ?_
                  exact L104_17 1  H locs ls (rr (by decide)) (trivial) hw (lv_sub hl [0, 1, 2, 3, 4] rfl)
                · refine j_iload E 96 rfl dX3_readConditions_94 (lv_at hl 4 rfl) ?_
                  refine j_if_ne E 99 103 rfl r_s0_51 dX3_readConditions_96 (by decide) (fun cc20_ => ?_) (fun cc20_ => ?_)
                  · refine j_iconst E 104 rfl dX3_readConditions_103 ?_
                    exact L104_17 0  H locs ls (rr (by decide)) (trivial) hw (lv_sub hl [0, 1, 2, 3, 4] rfl)
                  · refine j_iconst E 100 rfl dX3_readConditions_99 ?_
                    refine j_goto E 104 dX3_readConditions_100 (by decide) ?_
                    exact L104_17 1  H locs ls (rr (by decide)) (trivial) hw (lv_sub hl [0, 1, 2, 3, 4] rfl)
              refine j_iload E 80 rfl dX3_readConditions_78 (lv_at hl 4 rfl) ?_
              refine j_if_eq E 83 90 rfl r_s0_51 dX3_readConditions_80 (by decide) (fun cc21_ => ?_) (fun cc21_ => ?_)
              · exact L90_15  y86_14 H locs ls  (by first | omega | (simp only [upB_same]; omega)) hw (lv_sub hl [0, 1, 2, 3, 4] rfl)
              · refine j_aload_n E 84 rfl dX3_readConditions_83 rfl (lv_at hl 0 rfl) ?_
                refine j_sipush E 87 rfl dX3_readConditions_84 (by decide) ?_
                refine kV_v E (c_X3_emit l D cy T (upV (upV (upV (upV v_0 80 y80_14) 83 y83_14) 84 y84_14) 86 y86_14) o ((-305))  t_o (rr (by decide)) (show 0 ≤ (y86_14 o) ∧ (y86_14 o) ≤ 400 from by omega)) mt_X3_emit ml_X3_60 hK hw (cw_rc4 hK hw.1 t_o) hA ⟨Nat.le_of_ble_eq_true rfl, Nat.le_of_ble_eq_true rfl⟩ ⟨Nat.le_of_ble_eq_true rfl, Nat.le_of_ble_eq_true rfl⟩ (As := [.int (J ((-305)))]) (rest := []) rfl rfl hl.1 (Nat.le_of_ble_eq_true rfl) 90 rfl dX3_readConditions_87 (fun v_22 H locs hq22_ hw => ?_)
                obtain ⟨y86_22, ev22_, hh22_⟩ := hq22_
                rw [ev22_] at hw; clear ev22_
                have hw : WK D cy T (upV (upV (upV (upV v_0 80 y80_14) 83 y83_14) 84 y84_14) 86 y86_22) A0 s.heap H locs := cw_eq hw (by first | rfl | (funext j_; simp only [upV, reduceIte]; (repeat' split) <;> first | rfl | omega | (subst_vars; rfl)))
                have hh22_ : 0 ≤ (y86_22 o) ∧ (y86_22 o) ≤ 400 := hh22_
                exact L90_15  y86_22 H locs ls  (by first | omega | (simp only [upB_same]; omega)) hw (lv_sub hl [0, 1, 2, 3, 4] rfl)
            refine j_iload E 55 rfl dX3_readConditions_53 (lv_at hl 0 rfl) ?_
            refine j_if_ne E 58 69 rfl r_s0_51 dX3_readConditions_55 (by decide) (fun cc23_ => ?_) (fun cc23_ => ?_)
            · exact L69_11  y86_c9 H locs ls  (by first | omega | (simp only [upB_same]; omega)) hw (lv_sub hl [1, 2, 3, 4, 0] rfl)
            · refine j_iload_n E 59 rfl dX3_readConditions_58 rfl (lv_at hl 3 rfl) ?_
              refine j_if_eq E 62 69 rfl r_l2_9 dX3_readConditions_59 (by decide) (fun cc24_ => ?_) (fun cc24_ => ?_)
              · exact L69_11  y86_c9 H locs ls  (by first | omega | (simp only [upB_same]; omega)) hw (lv_sub hl [1, 2, 3, 4, 0] rfl)
              · refine j_aload_n E 63 rfl dX3_readConditions_62 rfl (lv_at hl 1 rfl) ?_
                refine j_sipush E 66 rfl dX3_readConditions_63 (by decide) ?_
                refine kV_v E (c_X3_emit l D cy T (upV (upV (upV (upV v_0 80 y80_c9) 83 y83_c9) 84 y84_c9) 86 y86_c9) o ((-304))  t_o (rr (by decide)) (show 0 ≤ (y86_c9 o) ∧ (y86_c9 o) ≤ 400 from by omega)) mt_X3_emit ml_X3_60 hK hw (cw_rc4 hK hw.1 t_o) hA ⟨Nat.le_of_ble_eq_true rfl, Nat.le_of_ble_eq_true rfl⟩ ⟨Nat.le_of_ble_eq_true rfl, Nat.le_of_ble_eq_true rfl⟩ (As := [.int (J ((-304)))]) (rest := []) rfl rfl hl.1 (Nat.le_of_ble_eq_true rfl) 69 rfl dX3_readConditions_66 (fun v_25 H locs hq25_ hw => ?_)
                obtain ⟨y86_25, ev25_, hh25_⟩ := hq25_
                rw [ev25_] at hw; clear ev25_
                have hw : WK D cy T (upV (upV (upV (upV v_0 80 y80_c9) 83 y83_c9) 84 y84_c9) 86 y86_25) A0 s.heap H locs := cw_eq hw (by first | rfl | (funext j_; simp only [upV, reduceIte]; (repeat' split) <;> first | rfl | omega | (subst_vars; rfl)))
                have hh25_ : 0 ≤ (y86_25 o) ∧ (y86_25 o) ≤ 400 := hh25_
                exact L69_11  y86_25 H locs ls  (by first | omega | (simp only [upB_same]; omega)) hw (lv_sub hl [1, 2, 3, 4, 0] rfl)
          refine j_aload_n E 37 rfl dX3_readConditions_36 rfl (lv_at hl 0 rfl) ?_
          refine g_84 E hK hw fl_X3_30 t_o (y84_c9 o) rfl 40 rfl dX3_readConditions_37 (fun _ => ?_)
          refine j_sipush E 43 rfl dX3_readConditions_40 (by decide) ?_
          refine j_icmp_ne E 46 50 rfl rr7_ (rr (by decide)) dX3_readConditions_43 (by decide) (fun cc26_ => ?_) (fun cc26_ => ?_)
          · exfalso; omega
          refine j_iconst E 47 rfl dX3_readConditions_46 ?_
          refine j_goto E 51 dX3_readConditions_47 (by decide) ?_
          exact L51_9 1  H locs ls (rr (by decide)) (trivial) hw (lv_sub hl [0, 1, 2, 3] rfl)
        · refine j_aload_n E 27 rfl dX3_readConditions_26 rfl (lv_at hl 0 rfl) ?_
          refine g_84 E hK hw fl_X3_30 t_o (y84_c9 o) rfl 30 rfl dX3_readConditions_27 (fun _ => ?_)
          refine j_sipush E 33 rfl dX3_readConditions_30 (by decide) ?_
          refine j_icmp_ne E 36 111 rfl rr7_ (rr (by decide)) dX3_readConditions_33 (by decide) (fun cc27_ => ?_) (fun cc27_ => ?_)
          · refine j_iload_n E 112 rfl dX3_readConditions_111 rfl (lv_at hl 2 rfl) ?_
            refine j_if_eq E 115 122 rfl r_l2_9 dX3_readConditions_112 (by decide) (fun cc28_ => ?_) (fun cc28_ => ?_)
            · exact hret 122 (upV (upV (upV (upV v_0 80 y80_c9) 83 y83_c9) 84 y84_c9) 86 y86_c9) _ _ ls hw ⟨y80_c9, y83_c9, y84_c9, y86_c9, rfl, by first | omega | (simp only [upB_same]; omega)⟩ dX3_readConditions_122
            · refine j_aload_n E 116 rfl dX3_readConditions_115 rfl (lv_at hl 0 rfl) ?_
              refine j_sipush E 119 rfl dX3_readConditions_116 (by decide) ?_
              refine kV_v E (c_X3_emit l D cy T (upV (upV (upV (upV v_0 80 y80_c9) 83 y83_c9) 84 y84_c9) 86 y86_c9) o ((-304))  t_o (rr (by decide)) (show 0 ≤ (y86_c9 o) ∧ (y86_c9 o) ≤ 400 from by omega)) mt_X3_emit ml_X3_60 hK hw (cw_rc4 hK hw.1 t_o) hA ⟨Nat.le_of_ble_eq_true rfl, Nat.le_of_ble_eq_true rfl⟩ ⟨Nat.le_of_ble_eq_true rfl, Nat.le_of_ble_eq_true rfl⟩ (As := [.int (J ((-304)))]) (rest := []) rfl rfl hl.1 (Nat.le_of_ble_eq_true rfl) 122 rfl dX3_readConditions_119 (fun v_29 H locs hq29_ hw => ?_)
              obtain ⟨y86_29, ev29_, hh29_⟩ := hq29_
              rw [ev29_] at hw; clear ev29_
              have hw : WK D cy T (upV (upV (upV (upV v_0 80 y80_c9) 83 y83_c9) 84 y84_c9) 86 y86_29) A0 s.heap H locs := cw_eq hw (by first | rfl | (funext j_; simp only [upV, reduceIte]; (repeat' split) <;> first | rfl | omega | (subst_vars; rfl)))
              have hh29_ : 0 ≤ (y86_29 o) ∧ (y86_29 o) ≤ 400 := hh29_
              exact hret 122 (upV (upV (upV (upV v_0 80 y80_c9) 83 y83_c9) 84 y84_c9) 86 y86_29) _ _ ls hw ⟨y80_c9, y83_c9, y84_c9, y86_29, rfl, by first | omega | (simp only [upB_same]; omega)⟩ dX3_readConditions_122
          · have L51_30 : ∀ (s0_51 : Int) (H : Heap) (locs : List Loc) (ls : Array Slot), inR s0_51 → (True) → WK D cy T (upV (upV (upV (upV v_0 80 y80_c9) 83 y83_c9) 84 y84_c9) 86 y86_c9) A0 s.heap H locs → lv_has ls 5 [(0, .ref o), (1, .int (J 0)), (2, .int (J l2_9)), (3, .int (J l3_9))] → W p l e (rmd 22 0 0) s m ar below meth c H locs 0 0 QW (F0 m 51 ls [.int (J s0_51)]) := by
              intro s0_51 H locs ls r_s0_51 iv51 hw hl
              refine j_istore E 53 rfl [(4, .int (J s0_51)), (0, .ref o), (1, .int (J 0)), (2, .int (J l2_9)), (3, .int (J l3_9))] dX3_readConditions_51 hl (by decide) rfl (fun ls hl => ?_)
              have L69_32 : ∀ (y86_c69 : Nat → Int) (H : Heap) (locs : List Loc) (ls : Array Slot), (0 ≤ (y86_c69 o) ∧ (y86_c69 o) ≤ 400) → WK D cy T (upV (upV (upV (upV v_0 80 y80_c9) 83 y83_c9) 84 y84_c9) 86 y86_c69) A0 s.heap H locs → lv_has ls 5 [(0, .ref o), (1, .int (J 0)), (2, .int (J l2_9)), (3, .int (J l3_9)), (4, .int (J s0_51))] → W p l e (rmd 22 0 0) s m ar below meth c H locs 0 0 QW (F0 m 69 ls []) := by
                intro y86_c69 H locs ls iv69 hw hl
                refine j_aload_n E 70 rfl dX3_readConditions_69 rfl (lv_at hl 0 rfl) ?_
                refine zV_v E (c_X3_step l D cy T (upV (upV (upV (upV v_0 80 y80_c9) 83 y83_c9) 84 y84_c9) 86 y86_c69) κ o  hO t_o  ) mt_X3_step ml_X3_54 hK hZ hAc hw (cw_rc4 hK hw.1 t_o) hA ⟨Nat.le_of_ble_eq_true rfl, Nat.le_of_ble_eq_true rfl⟩ ⟨Nat.le_of_ble_eq_true rfl, Nat.le_of_ble_eq_true rfl⟩ (As := []) (rest := []) rfl rfl hl.1 (Nat.le_of_ble_eq_true rfl) 73 rfl dX3_readConditions_70 (fun v_34 H locs hq34_ hw => ?_)
                obtain ⟨y83_34, y84_34, ev34_, hh34_⟩ := hq34_
                rw [ev34_] at hw; clear ev34_
                have hw : WK D cy T (upV (upV (upV (upV v_0 80 y80_c9) 83 y83_34) 84 y84_34) 86 y86_c69) A0 s.heap H locs := cw_eq hw (by first | rfl | (funext j_; simp only [upV, reduceIte]; (repeat' split) <;> first | rfl | omega | (subst_vars; rfl)))
                refine j_aload_n E 74 rfl dX3_readConditions_73 rfl (lv_at hl 0 rfl) ?_
                refine j_iload_n E 75 rfl dX3_readConditions_74 rfl (lv_at hl 1 rfl) ?_
                refine zV_v E (c_X3_readCondition_n0 l D cy T (upV (upV (upV (upV v_0 80 y80_c9) 83 y83_34) 84 y84_34) 86 y86_c69) κ o  hO t_o  (show 0 ≤ (y86_c69 o) ∧ (y86_c69 o) ≤ 400 from by omega)) mt_X3_readCondition ml_X3_85 hK hZ hAc hw (cw_rc4 hK hw.1 t_o) hA ⟨Nat.le_of_ble_eq_true rfl, Nat.le_of_ble_eq_true rfl⟩ ⟨Nat.le_of_ble_eq_true rfl, Nat.le_of_ble_eq_true rfl⟩ (As := [.int (J 0)]) (rest := []) rfl rfl hl.1 (Nat.le_of_ble_eq_true rfl) 78 rfl dX3_readConditions_75 (fun v_35 H locs hq35_ hw => ?_)
                obtain ⟨y80_35, y83_35, y84_35, y86_35, ev35_, hh35_⟩ := hq35_
                rw [ev35_] at hw; clear ev35_
                have hw : WK D cy T (upV (upV (upV (upV v_0 80 y80_35) 83 y83_35) 84 y84_35) 86 y86_35) A0 s.heap H locs := cw_eq hw (by first | rfl | (funext j_; simp only [upV, reduceIte]; (repeat' split) <;> first | rfl | omega | (subst_vars; rfl)))
                have hh35_ : 0 ≤ (y86_35 o) ∧ (y86_35 o) ≤ 400 := hh35_
                have L90_36 : ∀ (y86_c90 : Nat → Int) (H : Heap) (locs : List Loc) (ls : Array Slot), (0 ≤ (y86_c90 o) ∧ (y86_c90 o) ≤ 400) → WK D cy T (upV (upV (upV (upV v_0 80 y80_35) 83 y83_35) 84 y84_35) 86 y86_c90) A0 s.heap H locs → lv_has ls 5 [(0, .ref o), (1, .int (J 0)), (2, .int (J l2_9)), (3, .int (J l3_9)), (4, .int (J s0_51))] → W p l e (rmd 22 0 0) s m ar below meth c H locs 0 0 QW (F0 m 90 ls []) := by
                  intro y86_c90 H locs ls iv90 hw hl
                  have L104_38 : ∀ (s0_104 : Int) (H : Heap) (locs : List Loc) (ls : Array Slot), inR s0_104 → (True) → WK D cy T (upV (upV (upV (upV v_0 80 y80_35) 83 y83_35) 84 y84_35) 86 y86_c90) A0 s.heap H locs → lv_has ls 5 [(0, .ref o), (1, .int (J 0)), (2, .int (J l2_9)), (3, .int (J l3_9)), (4, .int (J s0_51))] → W p l e (rmd 22 0 0) s m ar below meth c H locs 0 0 QW (F0 m 104 ls [.int (J s0_104)]) := by
                    intro s0_104 H locs ls r_s0_104 iv104 hw hl
                    refine j_istore_n E 105 rfl [(2, .int (J s0_104)), (0, .ref o), (1, .int (J 0)), (3, .int (J l3_9)), (4, .int (J s0_51))] dX3_readConditions_104 rfl hl (by decide) rfl (fun ls hl => ?_)
                    refine j_iinc E 108 rfl [(3, .int (J (l3_9 + 1))), (2, .int (J s0_104)), (0, .ref o), (1, .int (J 0)), (4, .int (J s0_51))] dX3_readConditions_105 hl (kk := 3) rfl (by decide) rfl (fun ls hl => ?_)
                    refine j_goto E 9 dX3_readConditions_108 (by decide) ?_
                    exact ih9 s0_104 (l3_9 + 1) y80_35 y83_35 y84_35 y86_c90 H locs ls r_s0_104 (rr (by omega)) (by first | omega | (simp only [upB_same]; omega)) (by omega) hw (lv_sub hl [2, 3, 1, 0] rfl)
                  refine j_iload_n E 91 rfl dX3_readConditions_90 rfl (lv_at hl 2 rfl) ?_
                  refine j_if_ne E 94 99 rfl r_l2_9 dX3_readConditions_91 (by decide) (fun cc40_ => ?_) (fun cc40_ => ?_)
                  · refine j_iconst E 100 rfl dX3_readConditions_99 ?_
                    refine j_goto E 104 dX3_readConditions_100 (by decide) ?_
                    exact L104_38 1  H locs ls (rr (by decide)) (trivial) hw (lv_sub hl [0, 1, 2, 3, 4] rfl)
                  · refine j_iload E 96 rfl dX3_readConditions_94 (lv_at hl 4 rfl) ?_
                    refine j_if_ne E 99 103 rfl r_s0_51 dX3_readConditions_96 (by decide) (fun cc41_ => ?_) (fun cc41_ => ?_)
                    · refine j_iconst E 104 rfl dX3_readConditions_103 ?_
                      exact L104_38 0  H locs ls (rr (by decide)) (trivial) hw (lv_sub hl [0, 1, 2, 3, 4] rfl)
                    · refine j_iconst E 100 rfl dX3_readConditions_99 ?_
                      refine j_goto E 104 dX3_readConditions_100 (by decide) ?_
                      exact L104_38 1  H locs ls (rr (by decide)) (trivial) hw (lv_sub hl [0, 1, 2, 3, 4] rfl)
                refine j_iload E 80 rfl dX3_readConditions_78 (lv_at hl 4 rfl) ?_
                refine j_if_eq E 83 90 rfl r_s0_51 dX3_readConditions_80 (by decide) (fun cc42_ => ?_) (fun cc42_ => ?_)
                · exact L90_36  y86_35 H locs ls  (by first | omega | (simp only [upB_same]; omega)) hw (lv_sub hl [0, 1, 2, 3, 4] rfl)
                · refine j_aload_n E 84 rfl dX3_readConditions_83 rfl (lv_at hl 0 rfl) ?_
                  refine j_sipush E 87 rfl dX3_readConditions_84 (by decide) ?_
                  refine kV_v E (c_X3_emit l D cy T (upV (upV (upV (upV v_0 80 y80_35) 83 y83_35) 84 y84_35) 86 y86_35) o ((-305))  t_o (rr (by decide)) (show 0 ≤ (y86_35 o) ∧ (y86_35 o) ≤ 400 from by omega)) mt_X3_emit ml_X3_60 hK hw (cw_rc4 hK hw.1 t_o) hA ⟨Nat.le_of_ble_eq_true rfl, Nat.le_of_ble_eq_true rfl⟩ ⟨Nat.le_of_ble_eq_true rfl, Nat.le_of_ble_eq_true rfl⟩ (As := [.int (J ((-305)))]) (rest := []) rfl rfl hl.1 (Nat.le_of_ble_eq_true rfl) 90 rfl dX3_readConditions_87 (fun v_43 H locs hq43_ hw => ?_)
                  obtain ⟨y86_43, ev43_, hh43_⟩ := hq43_
                  rw [ev43_] at hw; clear ev43_
                  have hw : WK D cy T (upV (upV (upV (upV v_0 80 y80_35) 83 y83_35) 84 y84_35) 86 y86_43) A0 s.heap H locs := cw_eq hw (by first | rfl | (funext j_; simp only [upV, reduceIte]; (repeat' split) <;> first | rfl | omega | (subst_vars; rfl)))
                  have hh43_ : 0 ≤ (y86_43 o) ∧ (y86_43 o) ≤ 400 := hh43_
                  exact L90_36  y86_43 H locs ls  (by first | omega | (simp only [upB_same]; omega)) hw (lv_sub hl [0, 1, 2, 3, 4] rfl)
              refine j_iload E 55 rfl dX3_readConditions_53 (lv_at hl 0 rfl) ?_
              refine j_if_ne E 58 69 rfl r_s0_51 dX3_readConditions_55 (by decide) (fun cc44_ => ?_) (fun cc44_ => ?_)
              · exact L69_32  y86_c9 H locs ls  (by first | omega | (simp only [upB_same]; omega)) hw (lv_sub hl [1, 2, 3, 4, 0] rfl)
              · refine j_iload_n E 59 rfl dX3_readConditions_58 rfl (lv_at hl 3 rfl) ?_
                refine j_if_eq E 62 69 rfl r_l2_9 dX3_readConditions_59 (by decide) (fun cc45_ => ?_) (fun cc45_ => ?_)
                · exact L69_32  y86_c9 H locs ls  (by first | omega | (simp only [upB_same]; omega)) hw (lv_sub hl [1, 2, 3, 4, 0] rfl)
                · refine j_aload_n E 63 rfl dX3_readConditions_62 rfl (lv_at hl 1 rfl) ?_
                  refine j_sipush E 66 rfl dX3_readConditions_63 (by decide) ?_
                  refine kV_v E (c_X3_emit l D cy T (upV (upV (upV (upV v_0 80 y80_c9) 83 y83_c9) 84 y84_c9) 86 y86_c9) o ((-304))  t_o (rr (by decide)) (show 0 ≤ (y86_c9 o) ∧ (y86_c9 o) ≤ 400 from by omega)) mt_X3_emit ml_X3_60 hK hw (cw_rc4 hK hw.1 t_o) hA ⟨Nat.le_of_ble_eq_true rfl, Nat.le_of_ble_eq_true rfl⟩ ⟨Nat.le_of_ble_eq_true rfl, Nat.le_of_ble_eq_true rfl⟩ (As := [.int (J ((-304)))]) (rest := []) rfl rfl hl.1 (Nat.le_of_ble_eq_true rfl) 69 rfl dX3_readConditions_66 (fun v_46 H locs hq46_ hw => ?_)
                  obtain ⟨y86_46, ev46_, hh46_⟩ := hq46_
                  rw [ev46_] at hw; clear ev46_
                  have hw : WK D cy T (upV (upV (upV (upV v_0 80 y80_c9) 83 y83_c9) 84 y84_c9) 86 y86_46) A0 s.heap H locs := cw_eq hw (by first | rfl | (funext j_; simp only [upV, reduceIte]; (repeat' split) <;> first | rfl | omega | (subst_vars; rfl)))
                  have hh46_ : 0 ≤ (y86_46 o) ∧ (y86_46 o) ≤ 400 := hh46_
                  exact L69_32  y86_46 H locs ls  (by first | omega | (simp only [upB_same]; omega)) hw (lv_sub hl [1, 2, 3, 4, 0] rfl)
            refine j_aload_n E 37 rfl dX3_readConditions_36 rfl (lv_at hl 0 rfl) ?_
            refine g_84 E hK hw fl_X3_30 t_o (y84_c9 o) rfl 40 rfl dX3_readConditions_37 (fun _ => ?_)
            refine j_sipush E 43 rfl dX3_readConditions_40 (by decide) ?_
            refine j_icmp_ne E 46 50 rfl rr7_ (rr (by decide)) dX3_readConditions_43 (by decide) (fun cc47_ => ?_) (fun cc47_ => ?_)
            rotate_left; · exfalso; omega
            refine j_iconst E 51 rfl dX3_readConditions_50 ?_
            exact L51_30 0  H locs ls (rr (by decide)) (trivial) hw (lv_sub hl [0, 1, 2, 3] rfl)
  exact L9_2 _ 0 0 y80_1 y83_1 y84_1 y86_1 H locs ls (rr (by decide)) (rr (by decide)) (by first | omega | (simp only [upB_same]; omega)) (Nat.lt_succ_self _) hw (lv_sub hl [2, 3, 1, 0] rfl)
set_option maxHeartbeats 4000000 in
set_option maxRecDepth 100000 in
theorem c_X3_read (l : Launch) (D : va_G) (cy : Nat → ClassId) (T : Nat → Nat → Nat) (v_0 : Nat → Nat → Int) (κ : Nat → Nat → Nat) (o : Nat) (a_t : Nat) (v_n : Int) (hO : ∀ x, ow T x → κ 2 2 ≤ x) (t_o : T 0 o = 4) (t_t : T 0 a_t = 23) (r_v_n : inR v_n) : KZ l D cy κ T yX3_read cX3_read 3 (some .boolean) 23 [.ref o, .ref a_t, .int (J v_n)] v_0 (KI (fun (z_0 : Int) (v_2 : Nat → Nat → Int) => ∃ (y80_2 : Nat → Int) (y81_2 : Nat → Int) (y83_2 : Nat → Int) (y84_2 : Nat → Int) (y86_2 : Nat → Int) (y123_2 : Nat → Int) (y124_2 : Nat → Int) , v_2 = upV (upV (upV (upV (upV (upV (upV v_0 80 y80_2) 81 y81_2) 83 y83_2) 84 y84_2) 86 y86_2) 123 y123_2) 124 y124_2 ∧ (0 ≤ (y86_2 o) ∧ (y86_2 o) ≤ 400 ∧ 0 ≤ (y123_2 (T 82 o)) ∧ (y123_2 (T 82 o)) ≤ 400))) := by
  refine KZ.ofz (by decide) (Nat.le_of_ble_eq_true rfl) hO ?_
  intro p e s m below meth c ls ar QW A0 H locs E hK hZ hA hAc hw hl hret
  have hl : lv_has ls 3 [(0, .ref o), (1, .ref a_t), (2, .int (J v_n))] := hl
  have hT : WT T := hw.1.2.1
  refine j_aload_n E 1 rfl dX3_read_0 rfl (lv_at hl 0 rfl) ?_
  refine g_82 E hK hw fl_X3_21 t_o 4 rfl dX3_read_1 ?_
  refine j_aload_n E 5 rfl dX3_read_4 rfl (lv_at hl 1 rfl) ?_
  refine j_iload_n E 6 rfl dX3_read_5 rfl (lv_at hl 2 rfl) ?_
  refine zV_v E (c_X5_scan l D cy T (v_0) κ (T 82 o) a_t v_n  hO (wt_82 hT t_o) t_t r_v_n ) mt_X5_scan ml_X3_40 hK hZ hAc hw (cw_rc6 hK hw.1 (wt_82 hT t_o)) hA ⟨Nat.le_of_ble_eq_true rfl, Nat.le_of_ble_eq_true rfl⟩ ⟨Nat.le_of_ble_eq_true rfl, Nat.le_of_ble_eq_true rfl⟩ (As := [.ref a_t, .int (J v_n)]) (rest := []) rfl rfl hl.1 (Nat.le_of_ble_eq_true rfl) 9 rfl dX3_read_6 (fun v_1 H locs hq1_ hw => ?_)
  obtain ⟨y123_1, y124_1, ev1_, hh1_⟩ := hq1_
  rw [ev1_] at hw; clear ev1_
  have hw : WK D cy T (upV (upV v_0 123 y123_1) 124 y124_1) A0 s.heap H locs := cw_eq hw (by first | rfl | (funext j_; simp only [upV, reduceIte]; (repeat' split) <;> first | rfl | omega | (subst_vars; rfl)))
  have hh1_ : 0 ≤ (y123_1 ((T 82 o))) ∧ (y123_1 ((T 82 o))) ≤ 400 := hh1_
  refine j_aload_n E 10 rfl dX3_read_9 rfl (lv_at hl 0 rfl) ?_
  refine j_iconst E 11 rfl dX3_read_10 ?_
  refine p_83 E hK hw fl_X3_25 t_o (rr (by decide)) 14 rfl dX3_read_11 (fun H locs hw => ?_)
  have hw : WK D cy T (upV (upV (upV v_0 83 (upB (v_0 83) o 0)) 123 y123_1) 124 y124_1) A0 s.heap H locs := cw_eq hw (by first | rfl | (funext j_; simp only [upV, reduceIte]; (repeat' split) <;> first | rfl | omega | (subst_vars; rfl)))
  refine j_aload_n E 15 rfl dX3_read_14 rfl (lv_at hl 0 rfl) ?_
  refine j_aload_n E 16 rfl dX3_read_15 rfl (lv_at hl 0 rfl) ?_
  refine g_82 E hK hw fl_X3_21 t_o 19 rfl dX3_read_16 ?_
  refine j_iconst E 20 rfl dX3_read_19 ?_
  refine kV_i E (c_X5_kindAt l D cy T (upV (upV (upV v_0 83 (upB (v_0 83) o 0)) 123 y123_1) 124 y124_1) (T 82 o) 0  (wt_82 hT t_o) (rr (by decide)) ) mt_X5_kindAt ml_X3_43 hK hw (cw_rc6 hK hw.1 (wt_82 hT t_o)) hA ⟨Nat.le_of_ble_eq_true rfl, Nat.le_of_ble_eq_true rfl⟩ ⟨Nat.le_of_ble_eq_true rfl, Nat.le_of_ble_eq_true rfl⟩ (As := [.int (J 0)]) (rest := [.ref o]) rfl rfl hl.1 (Nat.le_of_ble_eq_true rfl) 23 rfl dX3_read_20 (fun zz3_ v_3 H locs rr3_ hq3_ hw => ?_)
  obtain ⟨ev3_, hh3_⟩ := hq3_
  rw [ev3_] at hw; clear ev3_
  refine p_84 E hK hw fl_X3_30 t_o rr3_ 26 rfl dX3_read_23 (fun H locs hw => ?_)
  have hw : WK D cy T (upV (upV (upV (upV v_0 83 (upB (v_0 83) o 0)) 84 (upB (v_0 84) o zz3_)) 123 y123_1) 124 y124_1) A0 s.heap H locs := cw_eq hw (by first | rfl | (funext j_; simp only [upV, reduceIte]; (repeat' split) <;> first | rfl | omega | (subst_vars; rfl)))
  refine j_aload_n E 27 rfl dX3_read_26 rfl (lv_at hl 0 rfl) ?_
  refine j_iconst E 28 rfl dX3_read_27 ?_
  refine p_80 E hK hw fl_X3_9 t_o (rr (by decide)) 31 rfl dX3_read_28 (fun H locs hw => ?_)
  have hw : WK D cy T (upV (upV (upV (upV (upV v_0 80 (upB (v_0 80) o 0)) 83 (upB (v_0 83) o 0)) 84 (upB (v_0 84) o zz3_)) 123 y123_1) 124 y124_1) A0 s.heap H locs := cw_eq hw (by first | rfl | (funext j_; simp only [upV, reduceIte]; (repeat' split) <;> first | rfl | omega | (subst_vars; rfl)))
  refine j_aload_n E 32 rfl dX3_read_31 rfl (lv_at hl 0 rfl) ?_
  refine j_iconst E 33 rfl dX3_read_32 ?_
  refine p_86 E hK hw fl_X3_37 t_o (rr (by decide)) 36 rfl dX3_read_33 (fun H locs hw => ?_)
  have hw : WK D cy T (upV (upV (upV (upV (upV (upV v_0 80 (upB (v_0 80) o 0)) 83 (upB (v_0 83) o 0)) 84 (upB (v_0 84) o zz3_)) 86 (upB (v_0 86) o 0)) 123 y123_1) 124 y124_1) A0 s.heap H locs := cw_eq hw (by first | rfl | (funext j_; simp only [upV, reduceIte]; (repeat' split) <;> first | rfl | omega | (subst_vars; rfl)))
  refine j_aload_n E 37 rfl dX3_read_36 rfl (lv_at hl 0 rfl) ?_
  refine j_sipush E 40 rfl dX3_read_37 (by decide) ?_
  refine zV_v E (c_X3_take l D cy T (upV (upV (upV (upV (upV (upV v_0 80 (upB (v_0 80) o 0)) 83 (upB (v_0 83) o 0)) 84 (upB (v_0 84) o zz3_)) 86 (upB (v_0 86) o 0)) 123 y123_1) 124 y124_1) κ o 301  hO t_o (rr (by decide)) ) mt_X3_take ml_X3_47 hK hZ hAc hw (cw_rc4 hK hw.1 t_o) hA ⟨Nat.le_of_ble_eq_true rfl, Nat.le_of_ble_eq_true rfl⟩ ⟨Nat.le_of_ble_eq_true rfl, Nat.le_of_ble_eq_true rfl⟩ (As := [.int (J 301)]) (rest := []) rfl rfl hl.1 (Nat.le_of_ble_eq_true rfl) 43 rfl dX3_read_40 (fun v_7 H locs hq7_ hw => ?_)
  obtain ⟨y80_7, y83_7, y84_7, ev7_, hh7_⟩ := hq7_
  rw [ev7_] at hw; clear ev7_
  have hw : WK D cy T (upV (upV (upV (upV (upV (upV v_0 80 y80_7) 83 y83_7) 84 y84_7) 86 (upB (v_0 86) o 0)) 123 y123_1) 124 y124_1) A0 s.heap H locs := cw_eq hw (by first | rfl | (funext j_; simp only [upV, reduceIte]; (repeat' split) <;> first | rfl | omega | (subst_vars; rfl)))
  refine j_aload_n E 44 rfl dX3_read_43 rfl (lv_at hl 0 rfl) ?_
  refine zV_v E (c_X3_readSum l D cy T (upV (upV (upV (upV (upV (upV v_0 80 y80_7) 83 y83_7) 84 y84_7) 86 (upB (v_0 86) o 0)) 123 y123_1) 124 y124_1) κ o  hO t_o  (show 0 ≤ ((upB (v_0 86) o 0) o) ∧ ((upB (v_0 86) o 0) o) ≤ 400 from by first | omega | (simp only [upB_same]; omega))) mt_X3_readSum ml_X3_51 hK hZ hAc hw (cw_rc4 hK hw.1 t_o) hA ⟨Nat.le_of_ble_eq_true rfl, Nat.le_of_ble_eq_true rfl⟩ ⟨Nat.le_of_ble_eq_true rfl, Nat.le_of_ble_eq_true rfl⟩ (As := []) (rest := []) rfl rfl hl.1 (Nat.le_of_ble_eq_true rfl) 47 rfl dX3_read_44 (fun v_8 H locs hq8_ hw => ?_)
  obtain ⟨y80_8, y83_8, y84_8, y86_8, ev8_, hh8_⟩ := hq8_
  rw [ev8_] at hw; clear ev8_
  have hw : WK D cy T (upV (upV (upV (upV (upV (upV v_0 80 y80_8) 83 y83_8) 84 y84_8) 86 y86_8) 123 y123_1) 124 y124_1) A0 s.heap H locs := cw_eq hw (by first | rfl | (funext j_; simp only [upV, reduceIte]; (repeat' split) <;> first | rfl | omega | (subst_vars; rfl)))
  have hh8_ : 0 ≤ (y86_8 o) ∧ (y86_8 o) ≤ 400 := hh8_
  have L74_9 : ∀ (y80_c74 : Nat → Int) (y83_c74 : Nat → Int) (y84_c74 : Nat → Int) (y86_c74 : Nat → Int) (H : Heap) (locs : List Loc) (ls : Array Slot), (0 ≤ (y86_c74 o) ∧ (y86_c74 o) ≤ 400) → WK D cy T (upV (upV (upV (upV (upV (upV v_0 80 y80_c74) 83 y83_c74) 84 y84_c74) 86 y86_c74) 123 y123_1) 124 y124_1) A0 s.heap H locs → lv_has ls 3 [(0, .ref o), (1, .ref a_t), (2, .int (J v_n))] → W p l e (rmd 23 0 0) s m ar below meth c H locs 0 0 QW (F0 m 74 ls []) := by
    intro y80_c74 y83_c74 y84_c74 y86_c74 H locs ls iv74 hw hl
    have L101_11 : ∀ (y80_c101 : Nat → Int) (y83_c101 : Nat → Int) (y84_c101 : Nat → Int) (y86_c101 : Nat → Int) (H : Heap) (locs : List Loc) (ls : Array Slot), (0 ≤ (y86_c101 o) ∧ (y86_c101 o) ≤ 400) → WK D cy T (upV (upV (upV (upV (upV (upV v_0 80 y80_c101) 83 y83_c101) 84 y84_c101) 86 y86_c101) 123 y123_1) 124 y124_1) A0 s.heap H locs → lv_has ls 3 [(0, .ref o), (1, .ref a_t), (2, .int (J v_n))] → W p l e (rmd 23 0 0) s m ar below meth c H locs 0 0 QW (F0 m 101 ls []) := by
      intro y80_c101 y83_c101 y84_c101 y86_c101 H locs ls iv101 hw hl
      refine j_aload_n E 102 rfl dX3_read_101 rfl (lv_at hl 0 rfl) ?_
      refine j_bipush E 104 rfl dX3_read_102 (by decide) ?_
      refine zV_v E (c_X3_take l D cy T (upV (upV (upV (upV (upV (upV v_0 80 y80_c101) 83 y83_c101) 84 y84_c101) 86 y86_c101) 123 y123_1) 124 y124_1) κ o 59  hO t_o (rr (by decide)) ) mt_X3_take ml_X3_47 hK hZ hAc hw (cw_rc4 hK hw.1 t_o) hA ⟨Nat.le_of_ble_eq_true rfl, Nat.le_of_ble_eq_true rfl⟩ ⟨Nat.le_of_ble_eq_true rfl, Nat.le_of_ble_eq_true rfl⟩ (As := [.int (J 59)]) (rest := []) rfl rfl hl.1 (Nat.le_of_ble_eq_true rfl) 107 rfl dX3_read_104 (fun v_13 H locs hq13_ hw => ?_)
      obtain ⟨y80_13, y83_13, y84_13, ev13_, hh13_⟩ := hq13_
      rw [ev13_] at hw; clear ev13_
      have hw : WK D cy T (upV (upV (upV (upV (upV (upV v_0 80 y80_13) 83 y83_13) 84 y84_13) 86 y86_c101) 123 y123_1) 124 y124_1) A0 s.heap H locs := cw_eq hw (by first | rfl | (funext j_; simp only [upV, reduceIte]; (repeat' split) <;> first | rfl | omega | (subst_vars; rfl)))
      have L120_14 : ∀ (y80_c120 : Nat → Int) (y84_c120 : Nat → Int) (H : Heap) (locs : List Loc) (ls : Array Slot), (True) → WK D cy T (upV (upV (upV (upV (upV (upV v_0 80 y80_c120) 83 y83_13) 84 y84_c120) 86 y86_c101) 123 y123_1) 124 y124_1) A0 s.heap H locs → lv_has ls 3 [(0, .ref o), (1, .ref a_t), (2, .int (J v_n))] → W p l e (rmd 23 0 0) s m ar below meth c H locs 0 0 QW (F0 m 120 ls []) := by
        intro y80_c120 y84_c120 H locs ls iv120 hw hl
        refine j_aload_n E 121 rfl dX3_read_120 rfl (lv_at hl 0 rfl) ?_
        have L143_16 : ∀ (s0_143 : Int) (H : Heap) (locs : List Loc) (ls : Array Slot), inR s0_143 → (True) → WK D cy T (upV (upV (upV (upV (upV (upV v_0 80 y80_c120) 83 y83_13) 84 y84_c120) 86 y86_c101) 123 y123_1) 124 y124_1) A0 s.heap H locs → lv_has ls 3 [(0, .ref o), (1, .ref a_t), (2, .int (J v_n))] → W p l e (rmd 23 0 0) s m ar below meth c H locs 0 0 QW (F0 m 143 ls [.int (J s0_143), .ref o]) := by
          intro s0_143 H locs ls r_s0_143 iv143 hw hl
          refine p_81 E hK hw fl_X3_15 t_o r_s0_143 146 rfl dX3_read_143 (fun H locs hw => ?_)
          have hw : WK D cy T (upV (upV (upV (upV (upV (upV (upV v_0 80 y80_c120) 81 (upB (v_0 81) o s0_143)) 83 y83_13) 84 y84_c120) 86 y86_c101) 123 y123_1) 124 y124_1) A0 s.heap H locs := cw_eq hw (by first | rfl | (funext j_; simp only [upV, reduceIte]; (repeat' split) <;> first | rfl | omega | (subst_vars; rfl)))
          refine j_aload_n E 147 rfl dX3_read_146 rfl (lv_at hl 0 rfl) ?_
          refine g_80 E hK hw fl_X3_9 t_o (y80_c120 o) rfl 150 rfl dX3_read_147 (fun rr19_ => ?_)
          refine j_if_ne E 153 157 rfl rr19_ dX3_read_150 (by decide) (fun cc20_ => ?_) (fun cc20_ => ?_)
          · refine j_iconst E 158 rfl dX3_read_157 ?_
            exact hret 158 0 (upV (upV (upV (upV (upV (upV (upV v_0 80 y80_c120) 81 (upB (v_0 81) o s0_143)) 83 y83_13) 84 y84_c120) 86 y86_c101) 123 y123_1) 124 y124_1) _ _ ls hw (Or.inl rfl) ⟨y80_c120, (upB (v_0 81) o s0_143), y83_13, y84_c120, y86_c101, y123_1, y124_1, rfl, by first | omega | (simp only [upB_same]; omega)⟩ dX3_read_158
          · refine j_iconst E 154 rfl dX3_read_153 ?_
            refine j_goto E 158 dX3_read_154 (by decide) ?_
            exact hret 158 1 (upV (upV (upV (upV (upV (upV (upV v_0 80 y80_c120) 81 (upB (v_0 81) o s0_143)) 83 y83_13) 84 y84_c120) 86 y86_c101) 123 y123_1) 124 y124_1) _ _ ls hw (Or.inr rfl) ⟨y80_c120, (upB (v_0 81) o s0_143), y83_13, y84_c120, y86_c101, y123_1, y124_1, rfl, by first | omega | (simp only [upB_same]; omega)⟩ dX3_read_158
        refine j_aload_n E 122 rfl dX3_read_121 rfl (lv_at hl 0 rfl) ?_
        refine g_80 E hK hw fl_X3_9 t_o (y80_c120 o) rfl 125 rfl dX3_read_122 (fun rr21_ => ?_)
        refine j_if_ne E 128 132 rfl rr21_ dX3_read_125 (by decide) (fun cc22_ => ?_) (fun cc22_ => ?_)
        · refine j_aload_n E 133 rfl dX3_read_132 rfl (lv_at hl 0 rfl) ?_
          refine g_82 E hK hw fl_X3_21 t_o 136 rfl dX3_read_133 ?_
          refine j_aload_n E 137 rfl dX3_read_136 rfl (lv_at hl 0 rfl) ?_
          refine g_83 E hK hw fl_X3_25 t_o (y83_13 o) rfl 140 rfl dX3_read_137 (fun rr23_ => ?_)
          refine kV_i E (c_X5_placeAt l D cy T (upV (upV (upV (upV (upV (upV v_0 80 y80_c120) 83 y83_13) 84 y84_c120) 86 y86_c101) 123 y123_1) 124 y124_1) (T 82 o) (y83_13 o)  (wt_82 hT t_o) rr23_ ) mt_X5_placeAt ml_X3_66 hK hw (cw_rc6 hK hw.1 (wt_82 hT t_o)) hA ⟨Nat.le_of_ble_eq_true rfl, Nat.le_of_ble_eq_true rfl⟩ ⟨Nat.le_of_ble_eq_true rfl, Nat.le_of_ble_eq_true rfl⟩ (As := [.int (J (y83_13 o))]) (rest := [.ref o]) rfl rfl hl.1 (Nat.le_of_ble_eq_true rfl) 143 rfl dX3_read_140 (fun zz24_ v_24 H locs rr24_ hq24_ hw => ?_)
          obtain ⟨ev24_, hh24_⟩ := hq24_
          rw [ev24_] at hw; clear ev24_
          exact L143_16 zz24_  H locs ls rr24_ (trivial) hw (lv_sub hl [0, 1, 2] rfl)
        · refine j_iconst E 129 rfl dX3_read_128 ?_
          refine j_goto E 143 dX3_read_129 (by decide) ?_
          exact L143_16 ((-1))  H locs ls (rr (by decide)) (trivial) hw (lv_sub hl [0, 1, 2] rfl)
      refine j_aload_n E 108 rfl dX3_read_107 rfl (lv_at hl 0 rfl) ?_
      refine g_84 E hK hw fl_X3_30 t_o (y84_13 o) rfl 111 rfl dX3_read_108 (fun rr25_ => ?_)
      refine j_iconst E 112 rfl dX3_read_111 ?_
      refine j_icmp_eq E 115 120 rfl rr25_ (rr (by decide)) dX3_read_112 (by decide) (fun cc26_ => ?_) (fun cc26_ => ?_)
      · exact L120_14  y80_13 y84_13 H locs ls  (trivial) hw (lv_sub hl [0, 1, 2] rfl)
      · refine j_aload_n E 116 rfl dX3_read_115 rfl (lv_at hl 0 rfl) ?_
        refine j_iconst E 117 rfl dX3_read_116 ?_
        refine kV_v E (c_X3_refuse l D cy T (upV (upV (upV (upV (upV (upV v_0 80 y80_13) 83 y83_13) 84 y84_13) 86 y86_c101) 123 y123_1) 124 y124_1) o 1  t_o (rr (by decide)) ) mt_X3_refuse ml_X3_63 hK hw (cw_rc4 hK hw.1 t_o) hA ⟨Nat.le_of_ble_eq_true rfl, Nat.le_of_ble_eq_true rfl⟩ ⟨Nat.le_of_ble_eq_true rfl, Nat.le_of_ble_eq_true rfl⟩ (As := [.int (J 1)]) (rest := []) rfl rfl hl.1 (Nat.le_of_ble_eq_true rfl) 120 rfl dX3_read_117 (fun v_27 H locs hq27_ hw => ?_)
        obtain ⟨y80_27, y84_27, ev27_, hh27_⟩ := hq27_
        rw [ev27_] at hw; clear ev27_
        have hw : WK D cy T (upV (upV (upV (upV (upV (upV v_0 80 y80_27) 83 y83_13) 84 y84_27) 86 y86_c101) 123 y123_1) 124 y124_1) A0 s.heap H locs := cw_eq hw (by first | rfl | (funext j_; simp only [upV, reduceIte]; (repeat' split) <;> first | rfl | omega | (subst_vars; rfl)))
        exact L120_14  y80_27 y84_27 H locs ls  (trivial) hw (lv_sub hl [0, 1, 2] rfl)
    refine j_aload_n E 75 rfl dX3_read_74 rfl (lv_at hl 0 rfl) ?_
    refine g_84 E hK hw fl_X3_30 t_o (y84_c74 o) rfl 78 rfl dX3_read_75 (fun rr28_ => ?_)
    refine j_sipush E 81 rfl dX3_read_78 (by decide) ?_
    refine j_icmp_ne E 84 96 rfl rr28_ (rr (by decide)) dX3_read_81 (by decide) (fun cc29_ => ?_) (fun cc29_ => ?_)
    · refine j_aload_n E 97 rfl dX3_read_96 rfl (lv_at hl 0 rfl) ?_
      refine j_iconst E 98 rfl dX3_read_97 ?_
      refine kV_v E (c_X3_emit l D cy T (upV (upV (upV (upV (upV (upV v_0 80 y80_c74) 83 y83_c74) 84 y84_c74) 86 y86_c74) 123 y123_1) 124 y124_1) o 0  t_o (rr (by decide)) (show 0 ≤ (y86_c74 o) ∧ (y86_c74 o) ≤ 400 from by omega)) mt_X3_emit ml_X3_60 hK hw (cw_rc4 hK hw.1 t_o) hA ⟨Nat.le_of_ble_eq_true rfl, Nat.le_of_ble_eq_true rfl⟩ ⟨Nat.le_of_ble_eq_true rfl, Nat.le_of_ble_eq_true rfl⟩ (As := [.int (J 0)]) (rest := []) rfl rfl hl.1 (Nat.le_of_ble_eq_true rfl) 101 rfl dX3_read_98 (fun v_30 H locs hq30_ hw => ?_)
      obtain ⟨y86_30, ev30_, hh30_⟩ := hq30_
      rw [ev30_] at hw; clear ev30_
      have hw : WK D cy T (upV (upV (upV (upV (upV (upV v_0 80 y80_c74) 83 y83_c74) 84 y84_c74) 86 y86_30) 123 y123_1) 124 y124_1) A0 s.heap H locs := cw_eq hw (by first | rfl | (funext j_; simp only [upV, reduceIte]; (repeat' split) <;> first | rfl | omega | (subst_vars; rfl)))
      have hh30_ : 0 ≤ (y86_30 o) ∧ (y86_30 o) ≤ 400 := hh30_
      exact L101_11  y80_c74 y83_c74 y84_c74 y86_30 H locs ls  (by first | omega | (simp only [upB_same]; omega)) hw (lv_sub hl [0, 1, 2] rfl)
    · refine j_aload_n E 85 rfl dX3_read_84 rfl (lv_at hl 0 rfl) ?_
      refine zV_v E (c_X3_step l D cy T (upV (upV (upV (upV (upV (upV v_0 80 y80_c74) 83 y83_c74) 84 y84_c74) 86 y86_c74) 123 y123_1) 124 y124_1) κ o  hO t_o  ) mt_X3_step ml_X3_54 hK hZ hAc hw (cw_rc4 hK hw.1 t_o) hA ⟨Nat.le_of_ble_eq_true rfl, Nat.le_of_ble_eq_true rfl⟩ ⟨Nat.le_of_ble_eq_true rfl, Nat.le_of_ble_eq_true rfl⟩ (As := []) (rest := []) rfl rfl hl.1 (Nat.le_of_ble_eq_true rfl) 88 rfl dX3_read_85 (fun v_31 H locs hq31_ hw => ?_)
      obtain ⟨y83_31, y84_31, ev31_, hh31_⟩ := hq31_
      rw [ev31_] at hw; clear ev31_
      have hw : WK D cy T (upV (upV (upV (upV (upV (upV v_0 80 y80_c74) 83 y83_31) 84 y84_31) 86 y86_c74) 123 y123_1) 124 y124_1) A0 s.heap H locs := cw_eq hw (by first | rfl | (funext j_; simp only [upV, reduceIte]; (repeat' split) <;> first | rfl | omega | (subst_vars; rfl)))
      refine j_aload_n E 89 rfl dX3_read_88 rfl (lv_at hl 0 rfl) ?_
      refine j_iconst E 90 rfl dX3_read_89 ?_
      refine zV_v E (c_X3_readConditions_n0 l D cy T (upV (upV (upV (upV (upV (upV v_0 80 y80_c74) 83 y83_31) 84 y84_31) 86 y86_c74) 123 y123_1) 124 y124_1) κ o  hO t_o  (show 0 ≤ (y86_c74 o) ∧ (y86_c74 o) ≤ 400 from by omega)) mt_X3_readConditions ml_X3_57 hK hZ hAc hw (cw_rc4 hK hw.1 t_o) hA ⟨Nat.le_of_ble_eq_true rfl, Nat.le_of_ble_eq_true rfl⟩ ⟨Nat.le_of_ble_eq_true rfl, Nat.le_of_ble_eq_true rfl⟩ (As := [.int (J 0)]) (rest := []) rfl rfl hl.1 (Nat.le_of_ble_eq_true rfl) 93 rfl dX3_read_90 (fun v_32 H locs hq32_ hw => ?_)
      obtain ⟨y80_32, y83_32, y84_32, y86_32, ev32_, hh32_⟩ := hq32_
      rw [ev32_] at hw; clear ev32_
      have hw : WK D cy T (upV (upV (upV (upV (upV (upV v_0 80 y80_32) 83 y83_32) 84 y84_32) 86 y86_32) 123 y123_1) 124 y124_1) A0 s.heap H locs := cw_eq hw (by first | rfl | (funext j_; simp only [upV, reduceIte]; (repeat' split) <;> first | rfl | omega | (subst_vars; rfl)))
      have hh32_ : 0 ≤ (y86_32 o) ∧ (y86_32 o) ≤ 400 := hh32_
      refine j_goto E 101 dX3_read_93 (by decide) ?_
      exact L101_11  y80_32 y83_32 y84_32 y86_32 H locs ls  (by first | omega | (simp only [upB_same]; omega)) hw (lv_sub hl [0, 1, 2] rfl)
  refine j_aload_n E 48 rfl dX3_read_47 rfl (lv_at hl 0 rfl) ?_
  refine g_84 E hK hw fl_X3_30 t_o (y84_8 o) rfl 51 rfl dX3_read_48 (fun rr33_ => ?_)
  refine j_sipush E 54 rfl dX3_read_51 (by decide) ?_
  refine j_icmp_ne E 57 69 rfl rr33_ (rr (by decide)) dX3_read_54 (by decide) (fun cc34_ => ?_) (fun cc34_ => ?_)
  · refine j_aload_n E 70 rfl dX3_read_69 rfl (lv_at hl 0 rfl) ?_
    refine j_iconst E 71 rfl dX3_read_70 ?_
    refine kV_v E (c_X3_emit l D cy T (upV (upV (upV (upV (upV (upV v_0 80 y80_8) 83 y83_8) 84 y84_8) 86 y86_8) 123 y123_1) 124 y124_1) o 1  t_o (rr (by decide)) (show 0 ≤ (y86_8 o) ∧ (y86_8 o) ≤ 400 from by omega)) mt_X3_emit ml_X3_60 hK hw (cw_rc4 hK hw.1 t_o) hA ⟨Nat.le_of_ble_eq_true rfl, Nat.le_of_ble_eq_true rfl⟩ ⟨Nat.le_of_ble_eq_true rfl, Nat.le_of_ble_eq_true rfl⟩ (As := [.int (J 1)]) (rest := []) rfl rfl hl.1 (Nat.le_of_ble_eq_true rfl) 74 rfl dX3_read_71 (fun v_35 H locs hq35_ hw => ?_)
    obtain ⟨y86_35, ev35_, hh35_⟩ := hq35_
    rw [ev35_] at hw; clear ev35_
    have hw : WK D cy T (upV (upV (upV (upV (upV (upV v_0 80 y80_8) 83 y83_8) 84 y84_8) 86 y86_35) 123 y123_1) 124 y124_1) A0 s.heap H locs := cw_eq hw (by first | rfl | (funext j_; simp only [upV, reduceIte]; (repeat' split) <;> first | rfl | omega | (subst_vars; rfl)))
    have hh35_ : 0 ≤ (y86_35 o) ∧ (y86_35 o) ≤ 400 := hh35_
    exact L74_9  y80_8 y83_8 y84_8 y86_35 H locs ls  (by first | omega | (simp only [upB_same]; omega)) hw (lv_sub hl [0, 1, 2] rfl)
  · refine j_aload_n E 58 rfl dX3_read_57 rfl (lv_at hl 0 rfl) ?_
    refine zV_v E (c_X3_step l D cy T (upV (upV (upV (upV (upV (upV v_0 80 y80_8) 83 y83_8) 84 y84_8) 86 y86_8) 123 y123_1) 124 y124_1) κ o  hO t_o  ) mt_X3_step ml_X3_54 hK hZ hAc hw (cw_rc4 hK hw.1 t_o) hA ⟨Nat.le_of_ble_eq_true rfl, Nat.le_of_ble_eq_true rfl⟩ ⟨Nat.le_of_ble_eq_true rfl, Nat.le_of_ble_eq_true rfl⟩ (As := []) (rest := []) rfl rfl hl.1 (Nat.le_of_ble_eq_true rfl) 61 rfl dX3_read_58 (fun v_36 H locs hq36_ hw => ?_)
    obtain ⟨y83_36, y84_36, ev36_, hh36_⟩ := hq36_
    rw [ev36_] at hw; clear ev36_
    have hw : WK D cy T (upV (upV (upV (upV (upV (upV v_0 80 y80_8) 83 y83_36) 84 y84_36) 86 y86_8) 123 y123_1) 124 y124_1) A0 s.heap H locs := cw_eq hw (by first | rfl | (funext j_; simp only [upV, reduceIte]; (repeat' split) <;> first | rfl | omega | (subst_vars; rfl)))
    refine j_aload_n E 62 rfl dX3_read_61 rfl (lv_at hl 0 rfl) ?_
    refine j_iconst E 63 rfl dX3_read_62 ?_
    refine zV_v E (c_X3_readConditions_n0 l D cy T (upV (upV (upV (upV (upV (upV v_0 80 y80_8) 83 y83_36) 84 y84_36) 86 y86_8) 123 y123_1) 124 y124_1) κ o  hO t_o  (show 0 ≤ (y86_8 o) ∧ (y86_8 o) ≤ 400 from by omega)) mt_X3_readConditions ml_X3_57 hK hZ hAc hw (cw_rc4 hK hw.1 t_o) hA ⟨Nat.le_of_ble_eq_true rfl, Nat.le_of_ble_eq_true rfl⟩ ⟨Nat.le_of_ble_eq_true rfl, Nat.le_of_ble_eq_true rfl⟩ (As := [.int (J 0)]) (rest := []) rfl rfl hl.1 (Nat.le_of_ble_eq_true rfl) 66 rfl dX3_read_63 (fun v_37 H locs hq37_ hw => ?_)
    obtain ⟨y80_37, y83_37, y84_37, y86_37, ev37_, hh37_⟩ := hq37_
    rw [ev37_] at hw; clear ev37_
    have hw : WK D cy T (upV (upV (upV (upV (upV (upV v_0 80 y80_37) 83 y83_37) 84 y84_37) 86 y86_37) 123 y123_1) 124 y124_1) A0 s.heap H locs := cw_eq hw (by first | rfl | (funext j_; simp only [upV, reduceIte]; (repeat' split) <;> first | rfl | omega | (subst_vars; rfl)))
    have hh37_ : 0 ≤ (y86_37 o) ∧ (y86_37 o) ≤ 400 := hh37_
    refine j_goto E 74 dX3_read_66 (by decide) ?_
    exact L74_9  y80_37 y83_37 y84_37 y86_37 H locs ls  (by first | omega | (simp only [upB_same]; omega)) hw (lv_sub hl [0, 1, 2] rfl)
