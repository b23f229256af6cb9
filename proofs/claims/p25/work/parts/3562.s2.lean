set_option maxHeartbeats 4000000 in
set_option maxRecDepth 100000 in
theorem c_X9_putBytes_n2 (l : Launch) (D : va_G) (cy : Nat → ClassId) (T : Nat → Nat → Nat) (v_0 : Nat → Nat → Int) (o : Nat) (v_n : Int) (t_o : T 0 o = 9) (r_v_n : inR v_n) (hp0 : 0 ≤ (v_0 186 o) ∧ (v_0 186 o) ≤ 396) : KC l D cy T yX9_putBytes cX9_putBytes 3 none 1 [.ref o, .int (J v_n)] v_0 (KV (fun (v_2 : Nat → Nat → Int) => ∃ (y186_2 : Nat → Int) , v_2 = upV v_0 186 y186_2 ∧ ((y186_2 o) = (v_0 186 o) + 4))) := by
  refine KC.ofv (by decide) (Nat.le_of_ble_eq_true rfl) ?_
  intro p e s m below meth c ls ar QW A0 H0 H locs E hK hA hw hl hret
  have hl : lv_has ls 3 [(0, .ref o), (1, .int (J v_n))] := hl
  have hT : WT T := hw.1.2.1
  refine j_bipush E 2 rfl dX9_putBytes_0 (by decide) ?_
  refine j_istore_n E 3 rfl [(2, .int (J 24)), (0, .ref o), (1, .int (J v_n))] dX9_putBytes_2 rfl hl (by decide) rfl (fun ls hl => ?_)
  have L3_1 : ∀ (k3 : Nat) (l2_3 : Int) (y186_c3 : Nat → Int) (H : Heap) (locs : List Loc) (ls : Array Slot), inR l2_3 → (-8 ≤ l2_3 ∧ l2_3 ≤ 24 ∧ 8 * ((y186_c3 o) - (v_0 186 o)) = 24 - l2_3) → (l2_3 + 9).toNat < k3 → WK D cy T (upV v_0 186 y186_c3) A0 H0 H locs → lv_has ls 3 [(0, .ref o), (1, .int (J v_n)), (2, .int (J l2_3))] → W p l e (rmd 1 0 0) s m ar below meth c H locs 0 0 QW (F0 m 3 ls []) := by
    intro k3
    induction k3 with
    | zero =>
      intro l2_3 y186_c3 H locs ls r_l2_3 iv3 ms3 hw hl
      exact absurd ms3 (Nat.not_lt_zero _)
    | succ k3 ih3 =>
      intro l2_3 y186_c3 H locs ls r_l2_3 iv3 ms3 hw hl
      refine j_iload_n E 4 rfl dX9_putBytes_3 rfl (lv_at hl 2 rfl) ?_
      refine j_if_lt E 7 59 rfl r_l2_3 dX9_putBytes_4 (by decide) (fun cc3_ => ?_) (fun cc3_ => ?_)
      · exact hret 59 (upV v_0 186 y186_c3) _ _ ls hw ⟨y186_c3, rfl, by first | omega | (simp only [upB_same]; omega)⟩ dX9_putBytes_59
      · refine j_aload_n E 8 rfl dX9_putBytes_7 rfl (lv_at hl 0 rfl) ?_
        refine g_186 E hK hw fl_X9_33 t_o (y186_c3 o) rfl 11 rfl dX9_putBytes_8 (fun rr4_ => ?_)
        refine j_if_lt E 14 53 rfl rr4_ dX9_putBytes_11 (by decide) (fun cc5_ => ?_) (fun cc5_ => ?_)
        · exfalso; omega
        refine j_aload_n E 15 rfl dX9_putBytes_14 rfl (lv_at hl 0 rfl) ?_
        refine g_186 E hK hw fl_X9_33 t_o (y186_c3 o) rfl 18 rfl dX9_putBytes_15 (fun _ => ?_)
        refine j_aload_n E 19 rfl dX9_putBytes_18 rfl (lv_at hl 0 rfl) ?_
        refine g_185 E hK hw fl_X9_29 t_o 22 rfl dX9_putBytes_19 ?_
        have ln6_ := wl_185 hT t_o
        refine a_ln23 E hK hw (wt_185 hT t_o) 23 rfl dX9_putBytes_22 (fun rr7_ => ?_)
        refine j_icmp_ge E 26 53 rfl rr4_ rr7_ dX9_putBytes_23 (by decide) (fun cc8_ => ?_) (fun cc8_ => ?_)
        · exfalso; omega
        refine j_aload_n E 27 rfl dX9_putBytes_26 rfl (lv_at hl 0 rfl) ?_
        refine g_185 E hK hw fl_X9_29 t_o 30 rfl dX9_putBytes_27 ?_
        refine j_aload_n E 31 rfl dX9_putBytes_30 rfl (lv_at hl 0 rfl) ?_
        refine g_186 E hK hw fl_X9_33 t_o (y186_c3 o) rfl 34 rfl dX9_putBytes_31 (fun _ => ?_)
        refine j_iload_n E 35 rfl dX9_putBytes_34 rfl (lv_at hl 1 rfl) ?_
        refine j_iload_n E 36 rfl dX9_putBytes_35 rfl (lv_at hl 2 rfl) ?_
        refine j_iushr E 37 rfl dX9_putBytes_36 (fun zz9_ rr9_ ee9_ => ?_)
        refine j_sipush E 40 rfl dX9_putBytes_37 (by decide) ?_
        refine j_iand E 41 rfl dX9_putBytes_40 (fun zz10_ rr10_ ee10_ => ?_)
        refine j_i2c E 42 rfl dX9_putBytes_41 (fun zz11_ rr11_ ee11_ => ?_)
        refine a_st23 E hK hw (wt_185 hT t_o) (by omega) 43 rfl dX9_putBytes_42 (fun H locs hw => ?_)
        refine j_aload_n E 44 rfl dX9_putBytes_43 rfl (lv_at hl 0 rfl) ?_
        refine j_dup E 45 rfl dX9_putBytes_44 rfl ?_
        refine g_186 E hK hw fl_X9_33 t_o (y186_c3 o) rfl 48 rfl dX9_putBytes_45 (fun _ => ?_)
        refine j_iconst E 49 rfl dX9_putBytes_48 ?_
        refine j_iadd E 50 rfl dX9_putBytes_49 ?_
        refine p_186 E hK hw fl_X9_33 t_o (rr (by omega)) 53 rfl dX9_putBytes_50 (fun H locs hw => ?_)
        have hw : WK D cy T (upV v_0 186 (upB y186_c3 o ((y186_c3 o) + 1))) A0 H0 H locs := cw_eq hw (by first | rfl | (funext j_; simp only [upV, reduceIte]; (repeat' split) <;> first | rfl | omega | (subst_vars; rfl)))
        refine j_iinc E 56 rfl [(2, .int (J (l2_3 + (-8)))), (0, .ref o), (1, .int (J v_n))] dX9_putBytes_53 hl (kk := 2) rfl (by decide) rfl (fun ls hl => ?_)
        refine j_goto E 3 dX9_putBytes_56 (by decide) ?_
        exact ih3 (l2_3 + (-8)) (upB y186_c3 o ((y186_c3 o) + 1)) H locs ls (rr (by omega)) (by first | omega | (simp only [upB_same]; omega)) (by omega) hw (lv_sub hl [1, 2, 0] rfl)
  exact L3_1 _ 24 (v_0 186) H locs ls (rr (by decide)) (by first | omega | (simp only [upB_same]; omega)) (Nat.lt_succ_self _) (cw_eq hw (by first | rfl | (funext j_; simp only [upV, reduceIte]; (repeat' split) <;> first | rfl | omega | (subst_vars; rfl)))) (lv_sub hl [1, 2, 0] rfl)
set_option maxHeartbeats 4000000 in
set_option maxRecDepth 100000 in
theorem c_X9_feed_n2 (l : Launch) (D : va_G) (cy : Nat → ClassId) (T : Nat → Nat → Nat) (v_0 : Nat → Nat → Int) (o : Nat) (v_a : Int) (v_b : Int) (v_c : Int) (v_d : Int) (v_e : Int) (t_o : T 0 o = 9) (r_v_a : inR v_a) (r_v_b : inR v_b) (r_v_c : inR v_c) (r_v_d : inR v_d) (r_v_e : inR v_e) (hp0 : 0 ≤ (v_0 186 o) ∧ (v_0 186 o) ≤ 400) : KC l D cy T yX9_feed cX9_feed 6 (some .int) 2 [.ref o, .int (J v_a), .int (J v_b), .int (J v_c), .int (J v_d), .int (J v_e)] v_0 (KI (fun (z_0 : Int) (v_2 : Nat → Nat → Int) => ∃ (y186_2 : Nat → Int) , v_2 = upV v_0 186 y186_2 ∧ ((z_0 = -1 ∧ 380 < (v_0 186 o) ∧ (y186_2 o) = (v_0 186 o)) ∨ (z_0 = (y186_2 o) ∧ (v_0 186 o) ≤ 380 ∧ (y186_2 o) = (v_0 186 o) + 20)))) := by
  refine KC.ofi (by decide) (Nat.le_of_ble_eq_true rfl) ?_
  intro p e s m below meth c ls ar QW A0 H0 H locs E hK hA hw hl hret
  have hl : lv_has ls 6 [(0, .ref o), (1, .int (J v_a)), (2, .int (J v_b)), (3, .int (J v_c)), (4, .int (J v_d)), (5, .int (J v_e))] := hl
  have hT : WT T := hw.1.2.1
  refine j_aload_n E 1 rfl dX9_feed_0 rfl (lv_at hl 0 rfl) ?_
  refine g_186 E hK hw fl_X9_33 t_o (v_0 186 o) rfl 4 rfl dX9_feed_1 (fun rr1_ => ?_)
  refine j_sipush E 7 rfl dX9_feed_4 (by decide) ?_
  refine j_icmp_le E 10 12 rfl rr1_ (rr (by decide)) dX9_feed_7 (by decide) (fun cc2_ => ?_) (fun cc2_ => ?_)
  · refine j_aload_n E 13 rfl dX9_feed_12 rfl (lv_at hl 0 rfl) ?_
    refine j_iload_n E 14 rfl dX9_feed_13 rfl (lv_at hl 1 rfl) ?_
    refine kV_v E (c_X9_putBytes_n2 l D cy T (v_0) o v_a  t_o r_v_a (show 0 ≤ ((v_0 186) o) ∧ ((v_0 186) o) ≤ 396 from by omega)) mt_X9_putBytes ml_X9_142 hK hw (cw_rc9 hK hw.1 t_o) hA ⟨Nat.le_of_ble_eq_true rfl, Nat.le_of_ble_eq_true rfl⟩ ⟨Nat.le_of_ble_eq_true rfl, Nat.le_of_ble_eq_true rfl⟩ (As := [.int (J v_a)]) (rest := []) rfl rfl hl.1 (Nat.le_of_ble_eq_true rfl) 17 rfl dX9_feed_14 (fun v_3 H locs hq3_ hw => ?_)
    obtain ⟨y186_3, ev3_, hh3_⟩ := hq3_
    rw [ev3_] at hw; clear ev3_
    have hw : WK D cy T (upV v_0 186 y186_3) A0 H0 H locs := cw_eq hw (by first | rfl | (funext j_; simp only [upV, reduceIte]; (repeat' split) <;> first | rfl | omega | (subst_vars; rfl)))
    have hh3_ : (y186_3 o) = ((v_0 186) o) + 4 := hh3_
    refine j_aload_n E 18 rfl dX9_feed_17 rfl (lv_at hl 0 rfl) ?_
    refine j_iload_n E 19 rfl dX9_feed_18 rfl (lv_at hl 2 rfl) ?_
    refine kV_v E (c_X9_putBytes_n2 l D cy T (upV v_0 186 y186_3) o v_b  t_o r_v_b (show 0 ≤ (y186_3 o) ∧ (y186_3 o) ≤ 396 from by omega)) mt_X9_putBytes ml_X9_142 hK hw (cw_rc9 hK hw.1 t_o) hA ⟨Nat.le_of_ble_eq_true rfl, Nat.le_of_ble_eq_true rfl⟩ ⟨Nat.le_of_ble_eq_true rfl, Nat.le_of_ble_eq_true rfl⟩ (As := [.int (J v_b)]) (rest := []) rfl rfl hl.1 (Nat.le_of_ble_eq_true rfl) 22 rfl dX9_feed_19 (fun v_4 H locs hq4_ hw => ?_)
    obtain ⟨y186_4, ev4_, hh4_⟩ := hq4_
    rw [ev4_] at hw; clear ev4_
    have hw : WK D cy T (upV v_0 186 y186_4) A0 H0 H locs := cw_eq hw (by first | rfl | (funext j_; simp only [upV, reduceIte]; (repeat' split) <;> first | rfl | omega | (subst_vars; rfl)))
    have hh4_ : (y186_4 o) = (y186_3 o) + 4 := hh4_
    refine j_aload_n E 23 rfl dX9_feed_22 rfl (lv_at hl 0 rfl) ?_
    refine j_iload_n E 24 rfl dX9_feed_23 rfl (lv_at hl 3 rfl) ?_
    refine kV_v E (c_X9_putBytes_n2 l D cy T (upV v_0 186 y186_4) o v_c  t_o r_v_c (show 0 ≤ (y186_4 o) ∧ (y186_4 o) ≤ 396 from by omega)) mt_X9_putBytes ml_X9_142 hK hw (cw_rc9 hK hw.1 t_o) hA ⟨Nat.le_of_ble_eq_true rfl, Nat.le_of_ble_eq_true rfl⟩ ⟨Nat.le_of_ble_eq_true rfl, Nat.le_of_ble_eq_true rfl⟩ (As := [.int (J v_c)]) (rest := []) rfl rfl hl.1 (Nat.le_of_ble_eq_true rfl) 27 rfl dX9_feed_24 (fun v_5 H locs hq5_ hw => ?_)
    obtain ⟨y186_5, ev5_, hh5_⟩ := hq5_
    rw [ev5_] at hw; clear ev5_
    have hw : WK D cy T (upV v_0 186 y186_5) A0 H0 H locs := cw_eq hw (by first | rfl | (funext j_; simp only [upV, reduceIte]; (repeat' split) <;> first | rfl | omega | (subst_vars; rfl)))
    have hh5_ : (y186_5 o) = (y186_4 o) + 4 := hh5_
    refine j_aload_n E 28 rfl dX9_feed_27 rfl (lv_at hl 0 rfl) ?_
    refine j_iload E 30 rfl dX9_feed_28 (lv_at hl 4 rfl) ?_
    refine kV_v E (c_X9_putBytes_n2 l D cy T (upV v_0 186 y186_5) o v_d  t_o r_v_d (show 0 ≤ (y186_5 o) ∧ (y186_5 o) ≤ 396 from by omega)) mt_X9_putBytes ml_X9_142 hK hw (cw_rc9 hK hw.1 t_o) hA ⟨Nat.le_of_ble_eq_true rfl, Nat.le_of_ble_eq_true rfl⟩ ⟨Nat.le_of_ble_eq_true rfl, Nat.le_of_ble_eq_true rfl⟩ (As := [.int (J v_d)]) (rest := []) rfl rfl hl.1 (Nat.le_of_ble_eq_true rfl) 33 rfl dX9_feed_30 (fun v_6 H locs hq6_ hw => ?_)
    obtain ⟨y186_6, ev6_, hh6_⟩ := hq6_
    rw [ev6_] at hw; clear ev6_
    have hw : WK D cy T (upV v_0 186 y186_6) A0 H0 H locs := cw_eq hw (by first | rfl | (funext j_; simp only [upV, reduceIte]; (repeat' split) <;> first | rfl | omega | (subst_vars; rfl)))
    have hh6_ : (y186_6 o) = (y186_5 o) + 4 := hh6_
    refine j_aload_n E 34 rfl dX9_feed_33 rfl (lv_at hl 0 rfl) ?_
    refine j_iload E 36 rfl dX9_feed_34 (lv_at hl 5 rfl) ?_
    refine kV_v E (c_X9_putBytes_n2 l D cy T (upV v_0 186 y186_6) o v_e  t_o r_v_e (show 0 ≤ (y186_6 o) ∧ (y186_6 o) ≤ 396 from by omega)) mt_X9_putBytes ml_X9_142 hK hw (cw_rc9 hK hw.1 t_o) hA ⟨Nat.le_of_ble_eq_true rfl, Nat.le_of_ble_eq_true rfl⟩ ⟨Nat.le_of_ble_eq_true rfl, Nat.le_of_ble_eq_true rfl⟩ (As := [.int (J v_e)]) (rest := []) rfl rfl hl.1 (Nat.le_of_ble_eq_true rfl) 39 rfl dX9_feed_36 (fun v_7 H locs hq7_ hw => ?_)
    obtain ⟨y186_7, ev7_, hh7_⟩ := hq7_
    rw [ev7_] at hw; clear ev7_
    have hw : WK D cy T (upV v_0 186 y186_7) A0 H0 H locs := cw_eq hw (by first | rfl | (funext j_; simp only [upV, reduceIte]; (repeat' split) <;> first | rfl | omega | (subst_vars; rfl)))
    have hh7_ : (y186_7 o) = (y186_6 o) + 4 := hh7_
    refine j_aload_n E 40 rfl dX9_feed_39 rfl (lv_at hl 0 rfl) ?_
    refine g_186 E hK hw fl_X9_33 t_o (y186_7 o) rfl 43 rfl dX9_feed_40 (fun rr8_ => ?_)
    exact hret 43 (y186_7 o) (upV v_0 186 y186_7) _ _ ls hw rr8_ ⟨y186_7, rfl, by first | omega | (simp only [upB_same]; omega)⟩ dX9_feed_43
  · refine j_iconst E 11 rfl dX9_feed_10 ?_
    exact hret 11 ((-1)) (upV v_0 186 (v_0 186)) _ _ ls (cw_eq hw (by first | rfl | (funext j_; simp only [upV, reduceIte]; (repeat' split) <;> first | rfl | omega | (subst_vars; rfl)))) (rr (by decide)) ⟨(v_0 186), rfl, by first | omega | (simp only [upB_same]; omega)⟩ dX9_feed_11
set_option maxHeartbeats 4000000 in
set_option maxRecDepth 100000 in
theorem c_X9_end_n2 (l : Launch) (D : va_G) (cy : Nat → ClassId) (T : Nat → Nat → Nat) (v_0 : Nat → Nat → Int) (o : Nat) (v_n : Int) (t_o : T 0 o = 9) (r_v_n : inR v_n) : KC l D cy T yX9_end cX9_end 2 (some .boolean) 1 [.ref o, .int (J v_n)] v_0 (KI (fun (z_0 : Int) (v_2 : Nat → Nat → Int) => ∃ (y186_2 : Nat → Int) , v_2 = upV v_0 186 y186_2 ∧ ((z_0 = 1 ∧ 0 ≤ v_n ∧ v_n ≤ (v_0 186 o) ∧ (y186_2 o) = v_n) ∨ (z_0 = 0 ∧ (v_n < 0 ∨ (v_0 186 o) < v_n) ∧ (y186_2 o) = (v_0 186 o))))) := by
  refine KC.ofz (by decide) (Nat.le_of_ble_eq_true rfl) ?_
  intro p e s m below meth c ls ar QW A0 H0 H locs E hK hA hw hl hret
  have hl : lv_has ls 2 [(0, .ref o), (1, .int (J v_n))] := hl
  have hT : WT T := hw.1.2.1
  refine j_iload_n E 1 rfl dX9_end_0 rfl (lv_at hl 1 rfl) ?_
  refine j_if_lt E 4 12 rfl r_v_n dX9_end_1 (by decide) (fun cc1_ => ?_) (fun cc1_ => ?_)
  · refine j_iconst E 13 rfl dX9_end_12 ?_
    exact hret 13 0 (upV v_0 186 (v_0 186)) _ _ ls (cw_eq hw (by first | rfl | (funext j_; simp only [upV, reduceIte]; (repeat' split) <;> first | rfl | omega | (subst_vars; rfl)))) (Or.inl rfl) ⟨(v_0 186), rfl, by omega⟩ dX9_end_13
  · refine j_iload_n E 5 rfl dX9_end_4 rfl (lv_at hl 1 rfl) ?_
    refine j_aload_n E 6 rfl dX9_end_5 rfl (lv_at hl 0 rfl) ?_
    refine g_186 E hK hw fl_X9_33 t_o (v_0 186 o) rfl 9 rfl dX9_end_6 (fun rr2_ => ?_)
    refine j_icmp_le E 12 14 rfl r_v_n rr2_ dX9_end_9 (by decide) (fun cc3_ => ?_) (fun cc3_ => ?_)
    · refine j_aload_n E 15 rfl dX9_end_14 rfl (lv_at hl 0 rfl) ?_
      refine j_iload_n E 16 rfl dX9_end_15 rfl (lv_at hl 1 rfl) ?_
      refine p_186 E hK hw fl_X9_33 t_o r_v_n 19 rfl dX9_end_16 (fun H locs hw => ?_)
      have hw : WK D cy T (upV v_0 186 (upB (v_0 186) o v_n)) A0 H0 H locs := cw_eq hw (by first | rfl | (funext j_; simp only [upV, reduceIte]; (repeat' split) <;> first | rfl | omega | (subst_vars; rfl)))
      refine j_iconst E 20 rfl dX9_end_19 ?_
      exact hret 20 1 (upV v_0 186 (upB (v_0 186) o v_n)) _ _ ls hw (Or.inr rfl) ⟨(upB (v_0 186) o v_n), rfl, Or.inl ⟨rfl, by omega, by omega, upB_same _ _ _⟩⟩ dX9_end_20
    · refine j_iconst E 13 rfl dX9_end_12 ?_
      exact hret 13 0 (upV v_0 186 (v_0 186)) _ _ ls (cw_eq hw (by first | rfl | (funext j_; simp only [upV, reduceIte]; (repeat' split) <;> first | rfl | omega | (subst_vars; rfl)))) (Or.inl rfl) ⟨(v_0 186), rfl, by omega⟩ dX9_end_13
set_option maxHeartbeats 4000000 in
set_option maxRecDepth 100000 in
theorem c_X9_passSummer_n2 (l : Launch) (D : va_G) (cy : Nat → ClassId) (T : Nat → Nat → Nat) (v_0 : Nat → Nat → Int) (o : Nat) (t_o : T 0 o = 9) (hp0 : 0 ≤ (v_0 187 o) ∧ (v_0 187 o) ≤ 198) : KC l D cy T yX9_passSummer cX9_passSummer 5 none 8 [.ref o] v_0 (KV (fun (v_2 : Nat → Nat → Int) => ∃ (y22_2 : Nat → Int) (y23_2 : Nat → Int) (y24_2 : Nat → Int) (y44_2 : Nat → Int) (y187_2 : Nat → Int) , v_2 = upV (upV (upV (upV (upV v_0 22 y22_2) 23 y23_2) 24 y24_2) 44 y44_2) 187 y187_2 ∧ ((y187_2 o) = (v_0 187 o) + 1))) := by
  refine KC.ofv (by decide) (Nat.le_of_ble_eq_true rfl) ?_
  intro p e s m below meth c ls ar QW A0 H0 H locs E hK hA hw hl hret
  have hl : lv_has ls 5 [(0, .ref o)] := hl
  have hT : WT T := hw.1.2.1
  refine j_aload_n E 1 rfl dX9_passSummer_0 rfl (lv_at hl 0 rfl) ?_
  refine kV_i E (c_X9_presentOnes l D cy T (v_0) o  t_o  ) mt_X9_presentOnes ml_X9_229 hK hw (cw_rc9 hK hw.1 t_o) hA ⟨Nat.le_of_ble_eq_true rfl, Nat.le_of_ble_eq_true rfl⟩ ⟨Nat.le_of_ble_eq_true rfl, Nat.le_of_ble_eq_true rfl⟩ (As := []) (rest := []) rfl rfl hl.1 (Nat.le_of_ble_eq_true rfl) 4 rfl dX9_passSummer_1 (fun zz1_ v_1 H locs rr1_ hq1_ hw => ?_)
  obtain ⟨ev1_, hh1_⟩ := hq1_
  rw [ev1_] at hw; clear ev1_
  refine j_istore_n E 5 rfl [(1, .int (J zz1_)), (0, .ref o)] dX9_passSummer_4 rfl hl (by decide) rfl (fun ls hl => ?_)
  refine j_iconst E 6 rfl dX9_passSummer_5 ?_
  refine j_istore_n E 7 rfl [(2, .int (J 0)), (1, .int (J zz1_)), (0, .ref o)] dX9_passSummer_6 rfl hl (by decide) rfl (fun ls hl => ?_)
  refine j_iconst E 8 rfl dX9_passSummer_7 ?_
  refine j_istore_n E 9 rfl [(3, .int (J 0)), (2, .int (J 0)), (1, .int (J zz1_)), (0, .ref o)] dX9_passSummer_8 rfl hl (by decide) rfl (fun ls hl => ?_)
  have L9_2 : ∀ (k9 : Nat) (l2_9 l3_9 : Int) (y22_c9 : Nat → Int) (y23_c9 : Nat → Int) (y24_c9 : Nat → Int) (H : Heap) (locs : List Loc) (ls : Array Slot), inR l2_9 → inR l3_9 → (0 ≤ l3_9) → ((v_0 202 (T 181 o)) - l3_9).toNat < k9 → WK D cy T (upV (upV (upV v_0 22 y22_c9) 23 y23_c9) 24 y24_c9) A0 H0 H locs → lv_has ls 5 [(0, .ref o), (1, .int (J zz1_)), (2, .int (J l2_9)), (3, .int (J l3_9))] → W p l e (rmd 8 0 0) s m ar below meth c H locs 0 0 QW (F0 m 9 ls []) := by
    intro k9
    induction k9 with
    | zero =>
      intro l2_9 l3_9 y22_c9 y23_c9 y24_c9 H locs ls r_l2_9 r_l3_9 iv9 ms9 hw hl
      exact absurd ms9 (Nat.not_lt_zero _)
    | succ k9 ih9 =>
      intro l2_9 l3_9 y22_c9 y23_c9 y24_c9 H locs ls r_l2_9 r_l3_9 iv9 ms9 hw hl
      refine j_iload_n E 10 rfl dX9_passSummer_9 rfl (lv_at hl 3 rfl) ?_
      refine j_aload_n E 11 rfl dX9_passSummer_10 rfl (lv_at hl 0 rfl) ?_
      refine g_181 E hK hw fl_X9_16 t_o 14 rfl dX9_passSummer_11 ?_
      refine kV_i E (c_Jx4a65c_size_8abf5 l D cy T (upV (upV (upV v_0 22 y22_c9) 23 y23_c9) 24 y24_c9) (T 181 o)  (wt_181 hT t_o)  ) mt_Jx4a65c_size_8abf5 ml_X9_80 hK hw (cw_rc10 hK hw.1 (wt_181 hT t_o)) hA ⟨Nat.le_of_ble_eq_true rfl, Nat.le_of_ble_eq_true rfl⟩ ⟨Nat.le_of_ble_eq_true rfl, Nat.le_of_ble_eq_true rfl⟩ (As := []) (rest := [.int (J l3_9)]) rfl rfl hl.1 (Nat.le_of_ble_eq_true rfl) 17 rfl dX9_passSummer_14 (fun zz4_ v_4 H locs rr4_ hq4_ hw => ?_)
      obtain ⟨ev4_, hh4_⟩ := hq4_
      rw [ev4_] at hw; clear ev4_
      have hh4_ : zz4_ = ((v_0 202) ((T 181 o))) ∧ 0 ≤ zz4_ := hh4_
      refine j_icmp_ge E 20 78 rfl r_l3_9 rr4_ dX9_passSummer_17 (by decide) (fun cc5_ => ?_) (fun cc5_ => ?_)
      · refine j_iconst E 79 rfl dX9_passSummer_78 ?_
        refine j_istore_n E 80 rfl [(3, .int (J 0)), (0, .ref o), (1, .int (J zz1_)), (2, .int (J l2_9))] dX9_passSummer_79 rfl hl (by decide) rfl (fun ls hl => ?_)
        have L80_6 : ∀ (k80 : Nat) (l3_80 : Int) (H : Heap) (locs : List Loc) (ls : Array Slot), inR l3_80 → (0 ≤ l3_80) → ((v_0 202 (T 181 o)) - l3_80).toNat < k80 → WK D cy T (upV (upV (upV v_0 22 y22_c9) 23 y23_c9) 24 y24_c9) A0 H0 H locs → lv_has ls 5 [(0, .ref o), (1, .int (J zz1_)), (2, .int (J l2_9)), (3, .int (J l3_80))] → W p l e (rmd 8 0 0) s m ar below meth c H locs 0 0 QW (F0 m 80 ls []) := by
          intro k80
          induction k80 with
          | zero =>
            intro l3_80 H locs ls r_l3_80 iv80 ms80 hw hl
            exact absurd ms80 (Nat.not_lt_zero _)
          | succ k80 ih80 =>
            intro l3_80 H locs ls r_l3_80 iv80 ms80 hw hl
            refine j_iload_n E 81 rfl dX9_passSummer_80 rfl (lv_at hl 3 rfl) ?_
            refine j_aload_n E 82 rfl dX9_passSummer_81 rfl (lv_at hl 0 rfl) ?_
            refine g_181 E hK hw fl_X9_16 t_o 85 rfl dX9_passSummer_82 ?_
            refine kV_i E (c_Jx4a65c_size_8abf5 l D cy T (upV (upV (upV v_0 22 y22_c9) 23 y23_c9) 24 y24_c9) (T 181 o)  (wt_181 hT t_o)  ) mt_Jx4a65c_size_8abf5 ml_X9_80 hK hw (cw_rc10 hK hw.1 (wt_181 hT t_o)) hA ⟨Nat.le_of_ble_eq_true rfl, Nat.le_of_ble_eq_true rfl⟩ ⟨Nat.le_of_ble_eq_true rfl, Nat.le_of_ble_eq_true rfl⟩ (As := []) (rest := [.int (J l3_80)]) rfl rfl hl.1 (Nat.le_of_ble_eq_true rfl) 88 rfl dX9_passSummer_85 (fun zz8_ v_8 H locs rr8_ hq8_ hw => ?_)
            obtain ⟨ev8_, hh8_⟩ := hq8_
            rw [ev8_] at hw; clear ev8_
            have hh8_ : zz8_ = ((v_0 202) ((T 181 o))) ∧ 0 ≤ zz8_ := hh8_
            refine j_icmp_ge E 91 149 rfl r_l3_80 rr8_ dX9_passSummer_88 (by decide) (fun cc9_ => ?_) (fun cc9_ => ?_)
            · refine j_iconst E 150 rfl dX9_passSummer_149 ?_
              refine j_istore_n E 151 rfl [(3, .int (J 0)), (0, .ref o), (1, .int (J zz1_)), (2, .int (J l2_9))] dX9_passSummer_150 rfl hl (by decide) rfl (fun ls hl => ?_)
              have L151_10 : ∀ (k151 : Nat) (l3_151 : Int) (y44_c151 : Nat → Int) (H : Heap) (locs : List Loc) (ls : Array Slot), inR l3_151 → (0 ≤ l3_151) → ((v_0 202 (T 180 o)) - l3_151).toNat < k151 → WK D cy T (upV (upV (upV (upV v_0 22 y22_c9) 23 y23_c9) 24 y24_c9) 44 y44_c151) A0 H0 H locs → lv_has ls 5 [(0, .ref o), (1, .int (J zz1_)), (2, .int (J l2_9)), (3, .int (J l3_151))] → W p l e (rmd 8 0 0) s m ar below meth c H locs 0 0 QW (F0 m 151 ls []) := by
                intro k151
                induction k151 with
                | zero =>
                  intro l3_151 y44_c151 H locs ls r_l3_151 iv151 ms151 hw hl
                  exact absurd ms151 (Nat.not_lt_zero _)
                | succ k151 ih151 =>
                  intro l3_151 y44_c151 H locs ls r_l3_151 iv151 ms151 hw hl
                  refine j_iload_n E 152 rfl dX9_passSummer_151 rfl (lv_at hl 3 rfl) ?_
                  refine j_aload_n E 153 rfl dX9_passSummer_152 rfl (lv_at hl 0 rfl) ?_
                  refine g_180 E hK hw fl_X9_12 t_o 156 rfl dX9_passSummer_153 ?_
                  refine kV_i E (c_Jx4a65c_size_8abf5 l D cy T (upV (upV (upV (upV v_0 22 y22_c9) 23 y23_c9) 24 y24_c9) 44 y44_c151) (T 180 o)  (wt_180 hT t_o)  ) mt_Jx4a65c_size_8abf5 ml_X9_80 hK hw (cw_rc10 hK hw.1 (wt_180 hT t_o)) hA ⟨Nat.le_of_ble_eq_true rfl, Nat.le_of_ble_eq_true rfl⟩ ⟨Nat.le_of_ble_eq_true rfl, Nat.le_of_ble_eq_true rfl⟩ (As := []) (rest := [.int (J l3_151)]) rfl rfl hl.1 (Nat.le_of_ble_eq_true rfl) 159 rfl dX9_passSummer_156 (fun zz12_ v_12 H locs rr12_ hq12_ hw => ?_)
                  obtain ⟨ev12_, hh12_⟩ := hq12_
                  rw [ev12_] at hw; clear ev12_
                  have hh12_ : zz12_ = ((v_0 202) ((T 180 o))) ∧ 0 ≤ zz12_ := hh12_
                  refine j_icmp_ge E 162 183 rfl r_l3_151 rr12_ dX9_passSummer_159 (by decide) (fun cc13_ => ?_) (fun cc13_ => ?_)
                  · refine j_aload_n E 184 rfl dX9_passSummer_183 rfl (lv_at hl 0 rfl) ?_
                    refine j_dup E 185 rfl dX9_passSummer_184 rfl ?_
                    refine g_187 E hK hw fl_X9_37 t_o (v_0 187 o) rfl 188 rfl dX9_passSummer_185 (fun rr14_ => ?_)
                    refine j_iconst E 189 rfl dX9_passSummer_188 ?_
                    refine j_iadd E 190 rfl dX9_passSummer_189 ?_
                    refine p_187 E hK hw fl_X9_37 t_o (rr (by omega)) 193 rfl dX9_passSummer_190 (fun H locs hw => ?_)
                    have hw : WK D cy T (upV (upV (upV (upV (upV v_0 22 y22_c9) 23 y23_c9) 24 y24_c9) 44 y44_c151) 187 (upB (v_0 187) o ((v_0 187 o) + 1))) A0 H0 H locs := cw_eq hw (by first | rfl | (funext j_; simp only [upV, reduceIte]; (repeat' split) <;> first | rfl | omega | (subst_vars; rfl)))
                    exact hret 193 (upV (upV (upV (upV (upV v_0 22 y22_c9) 23 y23_c9) 24 y24_c9) 44 y44_c151) 187 (upB (v_0 187) o ((v_0 187 o) + 1))) _ _ ls hw ⟨y22_c9, y23_c9, y24_c9, y44_c151, (upB (v_0 187) o ((v_0 187 o) + 1)), rfl, upB_same _ _ _⟩ dX9_passSummer_193
                  · refine j_aload_n E 163 rfl dX9_passSummer_162 rfl (lv_at hl 0 rfl) ?_
                    refine g_180 E hK hw fl_X9_12 t_o 166 rfl dX9_passSummer_163 ?_
                    refine j_iload_n E 167 rfl dX9_passSummer_166 rfl (lv_at hl 3 rfl) ?_
                    refine kV_n E (c_Jx4a65c_get_915e3 l D cy T (upV (upV (upV (upV v_0 22 y22_c9) 23 y23_c9) 24 y24_c9) 44 y44_c151) (T 180 o) l3_151  (wt_180 hT t_o) r_l3_151 (show 0 ≤ l3_151 ∧ l3_151 < ((v_0 202) ((T 180 o))) from by omega)) mt_Jx4a65c_get_915e3 ml_X9_123 hK hw (cw_rc10 hK hw.1 (wt_180 hT t_o)) hA ⟨Nat.le_of_ble_eq_true rfl, Nat.le_of_ble_eq_true rfl⟩ ⟨Nat.le_of_ble_eq_true rfl, Nat.le_of_ble_eq_true rfl⟩ (As := [.int (J l3_151)]) (rest := []) rfl rfl hl.1 (Nat.le_of_ble_eq_true rfl) 170 rfl dX9_passSummer_167 (fun xx16_ v_16 H locs hq16_ hw => ?_)
                    obtain ⟨ev16_, hh16_⟩ := hq16_
                    rw [ev16_] at hw; clear ev16_
                    have hh16_ : T 0 xx16_ = T 2 (T 180 o) := hh16_
                    have te16_ : T 0 xx16_ = 2 := hh16_.trans (we_180 hT t_o)
                    refine k_cast2 E hK hw cl_X9_84 te16_ 173 rfl dX9_passSummer_170 ?_
                    refine j_iconst E 174 rfl dX9_passSummer_173 ?_
                    refine p_44 E hK hw fl_X9_100 te16_ (rr (by decide)) (Or.inl rfl) 177 rfl dX9_passSummer_174 (fun H locs hw => ?_)
                    have hw : WK D cy T (upV (upV (upV (upV v_0 22 y22_c9) 23 y23_c9) 24 y24_c9) 44 (upB y44_c151 xx16_ 0)) A0 H0 H locs := cw_eq hw (by first | rfl | (funext j_; simp only [upV, reduceIte]; (repeat' split) <;> first | rfl | omega | (subst_vars; rfl)))
                    refine j_iinc E 180 rfl [(3, .int (J (l3_151 + 1))), (0, .ref o), (1, .int (J zz1_)), (2, .int (J l2_9))] dX9_passSummer_177 hl (kk := 3) rfl (by decide) rfl (fun ls hl => ?_)
                    refine j_goto E 151 dX9_passSummer_180 (by decide) ?_
                    exact ih151 (l3_151 + 1) (upB y44_c151 xx16_ 0) H locs ls (rr (by omega)) (by first | omega | (simp only [upB_same]; omega)) (by omega) hw (lv_sub hl [1, 2, 3, 0] rfl)
              exact L151_10 _ 0 (v_0 44) H locs ls (rr (by decide)) (by first | omega | (simp only [upB_same]; omega)) (Nat.lt_succ_self _) (cw_eq hw (by first | rfl | (funext j_; simp only [upV, reduceIte]; (repeat' split) <;> first | rfl | omega | (subst_vars; rfl)))) (lv_sub hl [1, 2, 3, 0] rfl)
            · refine j_aload_n E 92 rfl dX9_passSummer_91 rfl (lv_at hl 0 rfl) ?_
              refine g_181 E hK hw fl_X9_16 t_o 95 rfl dX9_passSummer_92 ?_
              refine j_iload_n E 96 rfl dX9_passSummer_95 rfl (lv_at hl 3 rfl) ?_
              refine kV_n E (c_Jx4a65c_get_915e3 l D cy T (upV (upV (upV v_0 22 y22_c9) 23 y23_c9) 24 y24_c9) (T 181 o) l3_80  (wt_181 hT t_o) r_l3_80 (show 0 ≤ l3_80 ∧ l3_80 < ((v_0 202) ((T 181 o))) from by omega)) mt_Jx4a65c_get_915e3 ml_X9_123 hK hw (cw_rc10 hK hw.1 (wt_181 hT t_o)) hA ⟨Nat.le_of_ble_eq_true rfl, Nat.le_of_ble_eq_true rfl⟩ ⟨Nat.le_of_ble_eq_true rfl, Nat.le_of_ble_eq_true rfl⟩ (As := [.int (J l3_80)]) (rest := []) rfl rfl hl.1 (Nat.le_of_ble_eq_true rfl) 99 rfl dX9_passSummer_96 (fun xx18_ v_18 H locs hq18_ hw => ?_)
              obtain ⟨ev18_, hh18_⟩ := hq18_
              rw [ev18_] at hw; clear ev18_
              have hh18_ : T 0 xx18_ = T 2 (T 181 o) := hh18_
              have te18_ : T 0 xx18_ = 1 := hh18_.trans (we_181 hT t_o)
              refine k_cast1 E hK hw cl_X9_167 te18_ 102 rfl dX9_passSummer_99 ?_
              refine g_21 E hK hw fl_X9_202 te18_ (v_0 21 xx18_) rfl 105 rfl dX9_passSummer_102 (fun rr19_ => ?_)
              refine j_if_eq E 108 122 rfl rr19_ dX9_passSummer_105 (by decide) (fun cc20_ => ?_) (fun cc20_ => ?_)
              · refine j_iconst E 123 rfl dX9_passSummer_122 ?_
                refine j_istore E 125 rfl [(4, .int (J 0)), (0, .ref o), (1, .int (J zz1_)), (2, .int (J l2_9)), (3, .int (J l3_80))] dX9_passSummer_123 hl (by decide) rfl (fun ls hl => ?_)
                refine j_iload_n E 126 rfl dX9_passSummer_125 rfl (lv_at hl 3 rfl) ?_
                refine j_iload_n E 127 rfl dX9_passSummer_126 rfl (lv_at hl 4 rfl) ?_
                refine j_iushr E 128 rfl dX9_passSummer_127 (fun zz21_ rr21_ ee21_ => ?_)
                refine j_iconst E 129 rfl dX9_passSummer_128 ?_
                refine j_iand E 130 rfl dX9_passSummer_129 (fun zz22_ rr22_ ee22_ => ?_)
                refine j_if_ne E 133 143 rfl rr22_ dX9_passSummer_130 (by decide) (fun cc23_ => ?_) (fun cc23_ => ?_)
                · refine j_iinc E 146 rfl [(3, .int (J (l3_80 + 1))), (4, .int (J 0)), (0, .ref o), (1, .int (J zz1_)), (2, .int (J l2_9))] dX9_passSummer_143 hl (kk := 4) rfl (by decide) rfl (fun ls hl => ?_)
                  refine j_goto E 80 dX9_passSummer_146 (by decide) ?_
                  exact ih80 (l3_80 + 1)  H locs ls (rr (by omega)) (by omega) (by omega) hw (lv_sub hl [2, 3, 4, 0] rfl)
                · refine j_iload E 135 rfl dX9_passSummer_133 (lv_at hl 0 rfl) ?_
                  refine j_if_ne E 138 143 rfl (rr (by decide)) dX9_passSummer_135 (by decide) (fun cc24_ => absurd cc24_ (by decide)) (fun _ => ?_)
                  refine j_aload_n E 139 rfl dX9_passSummer_138 rfl (lv_at hl 1 rfl) ?_
                  refine j_iload_n E 140 rfl dX9_passSummer_139 rfl (lv_at hl 4 rfl) ?_
                  refine kV_v E (c_X9_fade l D cy T (upV (upV (upV v_0 22 y22_c9) 23 y23_c9) 24 y24_c9) o l3_80  t_o r_l3_80 ) mt_X9_fade ml_X9_236 hK hw (cw_rc9 hK hw.1 t_o) hA ⟨Nat.le_of_ble_eq_true rfl, Nat.le_of_ble_eq_true rfl⟩ ⟨Nat.le_of_ble_eq_true rfl, Nat.le_of_ble_eq_true rfl⟩ (As := [.int (J l3_80)]) (rest := []) rfl rfl hl.1 (Nat.le_of_ble_eq_true rfl) 143 rfl dX9_passSummer_140 (fun v_25 H locs hq25_ hw => ?_)
                  obtain ⟨ev25_, hh25_⟩ := hq25_
                  rw [ev25_] at hw; clear ev25_
                  refine j_iinc E 146 rfl [(3, .int (J (l3_80 + 1))), (4, .int (J 0)), (0, .ref o), (1, .int (J zz1_)), (2, .int (J l2_9))] dX9_passSummer_143 hl (kk := 4) rfl (by decide) rfl (fun ls hl => ?_)
                  refine j_goto E 80 dX9_passSummer_146 (by decide) ?_
                  exact ih80 (l3_80 + 1)  H locs ls (rr (by omega)) (by omega) (by omega) hw (lv_sub hl [2, 3, 4, 0] rfl)
              · refine j_aload_n E 109 rfl dX9_passSummer_108 rfl (lv_at hl 0 rfl) ?_
                refine g_187 E hK hw fl_X9_37 t_o (v_0 187 o) rfl 112 rfl dX9_passSummer_109 (fun rr26_ => ?_)
                refine j_iconst E 113 rfl dX9_passSummer_112 ?_
                refine j_irem E 114 rfl dX9_passSummer_113 (by decide +kernel) (fun zz27_ rr27_ ee27_ => ?_)
                refine j_iconst E 115 rfl dX9_passSummer_114 ?_
                refine j_icmp_eq E 118 122 rfl rr27_ (rr (by decide)) dX9_passSummer_115 (by decide) (fun cc28_ => ?_) (fun cc28_ => ?_)
                · refine j_iconst E 123 rfl dX9_passSummer_122 ?_
                  refine j_istore E 125 rfl [(4, .int (J 0)), (0, .ref o), (1, .int (J zz1_)), (2, .int (J l2_9)), (3, .int (J l3_80))] dX9_passSummer_123 hl (by decide) rfl (fun ls hl => ?_)
                  refine j_iload_n E 126 rfl dX9_passSummer_125 rfl (lv_at hl 3 rfl) ?_
                  refine j_iload_n E 127 rfl dX9_passSummer_126 rfl (lv_at hl 4 rfl) ?_
                  refine j_iushr E 128 rfl dX9_passSummer_127 (fun zz29_ rr29_ ee29_ => ?_)
                  refine j_iconst E 129 rfl dX9_passSummer_128 ?_
                  refine j_iand E 130 rfl dX9_passSummer_129 (fun zz30_ rr30_ ee30_ => ?_)
                  refine j_if_ne E 133 143 rfl rr30_ dX9_passSummer_130 (by decide) (fun cc31_ => ?_) (fun cc31_ => ?_)
                  · refine j_iinc E 146 rfl [(3, .int (J (l3_80 + 1))), (4, .int (J 0)), (0, .ref o), (1, .int (J zz1_)), (2, .int (J l2_9))] dX9_passSummer_143 hl (kk := 4) rfl (by decide) rfl (fun ls hl => ?_)
                    refine j_goto E 80 dX9_passSummer_146 (by decide) ?_
                    exact ih80 (l3_80 + 1)  H locs ls (rr (by omega)) (by omega) (by omega) hw (lv_sub hl [2, 3, 4, 0] rfl)
                  · refine j_iload E 135 rfl dX9_passSummer_133 (lv_at hl 0 rfl) ?_
                    refine j_if_ne E 138 143 rfl (rr (by decide)) dX9_passSummer_135 (by decide) (fun cc32_ => absurd cc32_ (by decide)) (fun _ => ?_)
                    refine j_aload_n E 139 rfl dX9_passSummer_138 rfl (lv_at hl 1 rfl) ?_
                    refine j_iload_n E 140 rfl dX9_passSummer_139 rfl (lv_at hl 4 rfl) ?_
                    refine kV_v E (c_X9_fade l D cy T (upV (upV (upV v_0 22 y22_c9) 23 y23_c9) 24 y24_c9) o l3_80  t_o r_l3_80 ) mt_X9_fade ml_X9_236 hK hw (cw_rc9 hK hw.1 t_o) hA ⟨Nat.le_of_ble_eq_true rfl, Nat.le_of_ble_eq_true rfl⟩ ⟨Nat.le_of_ble_eq_true rfl, Nat.le_of_ble_eq_true rfl⟩ (As := [.int (J l3_80)]) (rest := []) rfl rfl hl.1 (Nat.le_of_ble_eq_true rfl) 143 rfl dX9_passSummer_140 (fun v_33 H locs hq33_ hw => ?_)
                    obtain ⟨ev33_, hh33_⟩ := hq33_
                    rw [ev33_] at hw; clear ev33_
                    refine j_iinc E 146 rfl [(3, .int (J (l3_80 + 1))), (4, .int (J 0)), (0, .ref o), (1, .int (J zz1_)), (2, .int (J l2_9))] dX9_passSummer_143 hl (kk := 4) rfl (by decide) rfl (fun ls hl => ?_)
                    refine j_goto E 80 dX9_passSummer_146 (by decide) ?_
                    exact ih80 (l3_80 + 1)  H locs ls (rr (by omega)) (by omega) (by omega) hw (lv_sub hl [2, 3, 4, 0] rfl)
                · refine j_iconst E 119 rfl dX9_passSummer_118 ?_
                  refine j_goto E 123 dX9_passSummer_119 (by decide) ?_
                  refine j_istore E 125 rfl [(4, .int (J 1)), (0, .ref o), (1, .int (J zz1_)), (2, .int (J l2_9)), (3, .int (J l3_80))] dX9_passSummer_123 hl (by decide) rfl (fun ls hl => ?_)
                  refine j_iload_n E 126 rfl dX9_passSummer_125 rfl (lv_at hl 3 rfl) ?_
                  refine j_iload_n E 127 rfl dX9_passSummer_126 rfl (lv_at hl 4 rfl) ?_
                  refine j_iushr E 128 rfl dX9_passSummer_127 (fun zz34_ rr34_ ee34_ => ?_)
                  refine j_iconst E 129 rfl dX9_passSummer_128 ?_
                  refine j_iand E 130 rfl dX9_passSummer_129 (fun zz35_ rr35_ ee35_ => ?_)
                  refine j_if_ne E 133 143 rfl rr35_ dX9_passSummer_130 (by decide) (fun cc36_ => ?_) (fun cc36_ => ?_)
                  · refine j_iinc E 146 rfl [(3, .int (J (l3_80 + 1))), (4, .int (J 1)), (0, .ref o), (1, .int (J zz1_)), (2, .int (J l2_9))] dX9_passSummer_143 hl (kk := 4) rfl (by decide) rfl (fun ls hl => ?_)
                    refine j_goto E 80 dX9_passSummer_146 (by decide) ?_
                    exact ih80 (l3_80 + 1)  H locs ls (rr (by omega)) (by omega) (by omega) hw (lv_sub hl [2, 3, 4, 0] rfl)
                  · refine j_iload E 135 rfl dX9_passSummer_133 (lv_at hl 0 rfl) ?_
                    refine j_if_ne E 138 143 rfl (rr (by decide)) dX9_passSummer_135 (by decide) (fun _ => ?_) (fun cc37_ => absurd cc37_ (by decide))
                    refine j_iinc E 146 rfl [(3, .int (J (l3_80 + 1))), (4, .int (J 1)), (0, .ref o), (1, .int (J zz1_)), (2, .int (J l2_9))] dX9_passSummer_143 hl (kk := 4) rfl (by decide) rfl (fun ls hl => ?_)
                    refine j_goto E 80 dX9_passSummer_146 (by decide) ?_
                    exact ih80 (l3_80 + 1)  H locs ls (rr (by omega)) (by omega) (by omega) hw (lv_sub hl [2, 3, 4, 0] rfl)
        exact L80_6 _ 0  H locs ls (rr (by decide)) (by omega) (Nat.lt_succ_self _) hw (lv_sub hl [1, 2, 3, 0] rfl)
      · refine j_aload_n E 21 rfl dX9_passSummer_20 rfl (lv_at hl 0 rfl) ?_
        refine g_181 E hK hw fl_X9_16 t_o 24 rfl dX9_passSummer_21 ?_
        refine j_iload_n E 25 rfl dX9_passSummer_24 rfl (lv_at hl 3 rfl) ?_
        refine kV_n E (c_Jx4a65c_get_915e3 l D cy T (upV (upV (upV v_0 22 y22_c9) 23 y23_c9) 24 y24_c9) (T 181 o) l3_9  (wt_181 hT t_o) r_l3_9 (show 0 ≤ l3_9 ∧ l3_9 < ((v_0 202) ((T 181 o))) from by omega)) mt_Jx4a65c_get_915e3 ml_X9_123 hK hw (cw_rc10 hK hw.1 (wt_181 hT t_o)) hA ⟨Nat.le_of_ble_eq_true rfl, Nat.le_of_ble_eq_true rfl⟩ ⟨Nat.le_of_ble_eq_true rfl, Nat.le_of_ble_eq_true rfl⟩ (As := [.int (J l3_9)]) (rest := []) rfl rfl hl.1 (Nat.le_of_ble_eq_true rfl) 28 rfl dX9_passSummer_25 (fun xx38_ v_38 H locs hq38_ hw => ?_)
        obtain ⟨ev38_, hh38_⟩ := hq38_
        rw [ev38_] at hw; clear ev38_
        have hh38_ : T 0 xx38_ = T 2 (T 181 o) := hh38_
        have te38_ : T 0 xx38_ = 1 := hh38_.trans (we_181 hT t_o)
        refine k_cast1 E hK hw cl_X9_167 te38_ 31 rfl dX9_passSummer_28 ?_
        refine j_astore E 33 rfl [(4, .ref xx38_), (0, .ref o), (1, .int (J zz1_)), (2, .int (J l2_9)), (3, .int (J l3_9))] dX9_passSummer_31 hl (by decide) rfl (fun ls hl => ?_)
        refine j_aload E 35 rfl dX9_passSummer_33 (lv_at hl 0 rfl) ?_
        refine g_20 E hK hw fl_X9_199 te38_ (v_0 20 xx38_) rfl 38 rfl dX9_passSummer_35 (fun rr39_ => ?_)
        refine j_aload_n E 39 rfl dX9_passSummer_38 rfl (lv_at hl 1 rfl) ?_
        refine g_187 E hK hw fl_X9_37 t_o (v_0 187 o) rfl 42 rfl dX9_passSummer_39 (fun rr40_ => ?_)
        refine j_iconst E 43 rfl dX9_passSummer_42 ?_
        refine j_irem E 44 rfl dX9_passSummer_43 (by decide +kernel) (fun zz41_ rr41_ ee41_ => ?_)
        refine j_icmp_ne E 47 72 rfl rr39_ rr41_ dX9_passSummer_44 (by decide) (fun cc42_ => ?_) (fun cc42_ => ?_)
        · refine j_iinc E 75 rfl [(3, .int (J (l3_9 + 1))), (4, .ref xx38_), (0, .ref o), (1, .int (J zz1_)), (2, .int (J l2_9))] dX9_passSummer_72 hl (kk := 4) rfl (by decide) rfl (fun ls hl => ?_)
          refine j_goto E 9 dX9_passSummer_75 (by decide) ?_
          exact ih9 l2_9 (l3_9 + 1) y22_c9 y23_c9 y24_c9 H locs ls r_l2_9 (rr (by omega)) (by first | omega | (simp only [upB_same]; omega)) (by omega) hw (lv_sub hl [2, 3, 4, 0] rfl)
        · refine j_aload E 49 rfl dX9_passSummer_47 (lv_at hl 0 rfl) ?_
          refine kV_i E (c_X0_isDead l D cy T (upV (upV (upV v_0 22 y22_c9) 23 y23_c9) 24 y24_c9) xx38_  te38_  ) mt_X0_isDead ml_X9_223 hK hw (cw_rc1 hK hw.1 te38_) hA ⟨Nat.le_of_ble_eq_true rfl, Nat.le_of_ble_eq_true rfl⟩ ⟨Nat.le_of_ble_eq_true rfl, Nat.le_of_ble_eq_true rfl⟩ (As := []) (rest := []) rfl rfl hl.1 (Nat.le_of_ble_eq_true rfl) 52 rfl dX9_passSummer_49 (fun zz43_ v_43 H locs rr43_ hq43_ hw => ?_)
          obtain ⟨ev43_, hh43_⟩ := hq43_
          rw [ev43_] at hw; clear ev43_
          refine j_if_ne E 55 72 rfl rr43_ dX9_passSummer_52 (by decide) (fun cc44_ => ?_) (fun cc44_ => ?_)
          · refine j_iinc E 75 rfl [(3, .int (J (l3_9 + 1))), (4, .ref xx38_), (0, .ref o), (1, .int (J zz1_)), (2, .int (J l2_9))] dX9_passSummer_72 hl (kk := 4) rfl (by decide) rfl (fun ls hl => ?_)
            refine j_goto E 9 dX9_passSummer_75 (by decide) ?_
            exact ih9 l2_9 (l3_9 + 1) y22_c9 y23_c9 y24_c9 H locs ls r_l2_9 (rr (by omega)) (by first | omega | (simp only [upB_same]; omega)) (by omega) hw (lv_sub hl [2, 3, 4, 0] rfl)
          · refine j_aload_n E 56 rfl dX9_passSummer_55 rfl (lv_at hl 1 rfl) ?_
            refine j_iload_n E 57 rfl dX9_passSummer_56 rfl (lv_at hl 4 rfl) ?_
            refine j_aload E 59 rfl dX9_passSummer_57 (lv_at hl 0 rfl) ?_
            refine j_iload_n E 60 rfl dX9_passSummer_59 rfl (lv_at hl 2 rfl) ?_
            refine kV_i E (c_X9_callLine l D cy T (upV (upV (upV v_0 22 y22_c9) 23 y23_c9) 24 y24_c9) o l3_9 xx38_ zz1_  t_o r_l3_9 te38_ rr1_ ) mt_X9_callLine ml_X9_232 hK hw (cw_rc9 hK hw.1 t_o) hA ⟨Nat.le_of_ble_eq_true rfl, Nat.le_of_ble_eq_true rfl⟩ ⟨Nat.le_of_ble_eq_true rfl, Nat.le_of_ble_eq_true rfl⟩ (As := [.int (J l3_9), .ref xx38_, .int (J zz1_)]) (rest := []) rfl rfl hl.1 (Nat.le_of_ble_eq_true rfl) 63 rfl dX9_passSummer_60 (fun zz45_ v_45 H locs rr45_ hq45_ hw => ?_)
            obtain ⟨y22_45, y23_45, y24_45, ev45_, hh45_⟩ := hq45_
            rw [ev45_] at hw; clear ev45_
            have hw : WK D cy T (upV (upV (upV v_0 22 y22_45) 23 y23_45) 24 y24_45) A0 H0 H locs := cw_eq hw (by first | rfl | (funext j_; simp only [upV, reduceIte]; (repeat' split) <;> first | rfl | omega | (subst_vars; rfl)))
            refine j_if_eq E 66 72 rfl rr45_ dX9_passSummer_63 (by decide) (fun cc46_ => ?_) (fun cc46_ => ?_)
            · refine j_iinc E 75 rfl [(3, .int (J (l3_9 + 1))), (4, .ref xx38_), (0, .ref o), (1, .int (J zz1_)), (2, .int (J l2_9))] dX9_passSummer_72 hl (kk := 4) rfl (by decide) rfl (fun ls hl => ?_)
              refine j_goto E 9 dX9_passSummer_75 (by decide) ?_
              exact ih9 l2_9 (l3_9 + 1) y22_45 y23_45 y24_45 H locs ls r_l2_9 (rr (by omega)) (by first | omega | (simp only [upB_same]; omega)) (by omega) hw (lv_sub hl [2, 3, 4, 0] rfl)
            · refine j_iload_n E 67 rfl dX9_passSummer_66 rfl (lv_at hl 3 rfl) ?_
              refine j_iconst E 68 rfl dX9_passSummer_67 ?_
              refine j_iload_n E 69 rfl dX9_passSummer_68 rfl (lv_at hl 4 rfl) ?_
              refine j_ishl E 70 rfl dX9_passSummer_69 (fun zz47_ rr47_ ee47_ => ?_)
              refine j_ior E 71 rfl dX9_passSummer_70 (fun zz48_ rr48_ ee48_ => ?_)
              refine j_istore_n E 72 rfl [(2, .int (J zz48_)), (4, .ref xx38_), (0, .ref o), (1, .int (J zz1_)), (3, .int (J l3_9))] dX9_passSummer_71 rfl hl (by decide) rfl (fun ls hl => ?_)
              refine j_iinc E 75 rfl [(3, .int (J (l3_9 + 1))), (2, .int (J zz48_)), (4, .ref xx38_), (0, .ref o), (1, .int (J zz1_))] dX9_passSummer_72 hl (kk := 4) rfl (by decide) rfl (fun ls hl => ?_)
              refine j_goto E 9 dX9_passSummer_75 (by decide) ?_
              exact ih9 zz48_ (l3_9 + 1) y22_45 y23_45 y24_45 H locs ls rr48_ (rr (by omega)) (by first | omega | (simp only [upB_same]; omega)) (by omega) hw (lv_sub hl [3, 4, 1, 0] rfl)
  exact L9_2 _ 0 0 (v_0 22) (v_0 23) (v_0 24) H locs ls (rr (by decide)) (rr (by decide)) (by first | omega | (simp only [upB_same]; omega)) (Nat.lt_succ_self _) (cw_eq hw (by first | rfl | (funext j_; simp only [upV, reduceIte]; (repeat' split) <;> first | rfl | omega | (subst_vars; rfl)))) (lv_sub hl [3, 2, 1, 0] rfl)
set_option maxHeartbeats 4000000 in
set_option maxRecDepth 100000 in
theorem c_X9_summers_n2 (l : Launch) (D : va_G) (cy : Nat → ClassId) (T : Nat → Nat → Nat) (v_0 : Nat → Nat → Int) (o : Nat) (v_n : Int) (t_o : T 0 o = 9) (r_v_n : inR v_n) (hp0 : 0 ≤ (v_0 187 o) ∧ (v_0 187 o) ≤ 199) : KC l D cy T yX9_summers cX9_summers 3 (some .int) 9 [.ref o, .int (J v_n)] v_0 (KI (fun (z_0 : Int) (v_2 : Nat → Nat → Int) => ∃ (y22_2 : Nat → Int) (y23_2 : Nat → Int) (y24_2 : Nat → Int) (y44_2 : Nat → Int) (y187_2 : Nat → Int) , v_2 = upV (upV (upV (upV (upV v_0 22 y22_2) 23 y23_2) 24 y24_2) 44 y44_2) 187 y187_2 ∧ ((z_0 = -1 ∧ (v_n < 1 ∨ 20 < v_n ∨ 199 < (v_0 187 o) + v_n) ∧ (y187_2 o) = (v_0 187 o)) ∨ (z_0 = (y187_2 o) ∧ 1 ≤ v_n ∧ v_n ≤ 20 ∧ (v_0 187 o) + v_n ≤ 199 ∧ (y187_2 o) = (v_0 187 o) + v_n)))) := by
  refine KC.ofi (by decide) (Nat.le_of_ble_eq_true rfl) ?_
  intro p e s m below meth c ls ar QW A0 H0 H locs E hK hA hw hl hret
  have hl : lv_has ls 3 [(0, .ref o), (1, .int (J v_n))] := hl
  have hT : WT T := hw.1.2.1
  refine j_iload_n E 1 rfl dX9_summers_0 rfl (lv_at hl 1 rfl) ?_
  refine j_iconst E 2 rfl dX9_summers_1 ?_
  refine j_icmp_lt E 5 23 rfl r_v_n (rr (by decide)) dX9_summers_2 (by decide) (fun cc1_ => ?_) (fun cc1_ => ?_)
  · refine j_iconst E 24 rfl dX9_summers_23 ?_
    exact hret 24 ((-1)) (upV (upV (upV (upV (upV v_0 22 (v_0 22)) 23 (v_0 23)) 24 (v_0 24)) 44 (v_0 44)) 187 (v_0 187)) _ _ ls (cw_eq hw (by first | rfl | (funext j_; simp only [upV, reduceIte]; (repeat' split) <;> first | rfl | omega | (subst_vars; rfl)))) (rr (by decide)) ⟨(v_0 22), (v_0 23), (v_0 24), (v_0 44), (v_0 187), rfl, by first | omega | (simp only [upB_same]; omega)⟩ dX9_summers_24
  · refine j_iload_n E 6 rfl dX9_summers_5 rfl (lv_at hl 1 rfl) ?_
    refine j_bipush E 8 rfl dX9_summers_6 (by decide) ?_
    refine j_icmp_gt E 11 23 rfl r_v_n (rr (by decide)) dX9_summers_8 (by decide) (fun cc2_ => ?_) (fun cc2_ => ?_)
    · refine j_iconst E 24 rfl dX9_summers_23 ?_
      exact hret 24 ((-1)) (upV (upV (upV (upV (upV v_0 22 (v_0 22)) 23 (v_0 23)) 24 (v_0 24)) 44 (v_0 44)) 187 (v_0 187)) _ _ ls (cw_eq hw (by first | rfl | (funext j_; simp only [upV, reduceIte]; (repeat' split) <;> first | rfl | omega | (subst_vars; rfl)))) (rr (by decide)) ⟨(v_0 22), (v_0 23), (v_0 24), (v_0 44), (v_0 187), rfl, by first | omega | (simp only [upB_same]; omega)⟩ dX9_summers_24
    · refine j_aload_n E 12 rfl dX9_summers_11 rfl (lv_at hl 0 rfl) ?_
      refine g_187 E hK hw fl_X9_37 t_o (v_0 187 o) rfl 15 rfl dX9_summers_12 (fun rr3_ => ?_)
      refine j_iload_n E 16 rfl dX9_summers_15 rfl (lv_at hl 1 rfl) ?_
      refine j_iadd E 17 rfl dX9_summers_16 ?_
      refine j_sipush E 20 rfl dX9_summers_17 (by decide) ?_
      refine j_icmp_le E 23 25 rfl (rr (by omega)) (rr (by decide)) dX9_summers_20 (by decide) (fun cc4_ => ?_) (fun cc4_ => ?_)
      · refine j_iconst E 26 rfl dX9_summers_25 ?_
        refine j_istore_n E 27 rfl [(2, .int (J 0)), (0, .ref o), (1, .int (J v_n))] dX9_summers_26 rfl hl (by decide) rfl (fun ls hl => ?_)
        have L27_5 : ∀ (k27 : Nat) (l2_27 : Int) (y22_c27 : Nat → Int) (y23_c27 : Nat → Int) (y24_c27 : Nat → Int) (y44_c27 : Nat → Int) (y187_c27 : Nat → Int) (H : Heap) (locs : List Loc) (ls : Array Slot), inR l2_27 → (0 ≤ l2_27 ∧ l2_27 ≤ v_n ∧ (y187_c27 o) = (v_0 187 o) + l2_27) → (v_n - l2_27).toNat < k27 → WK D cy T (upV (upV (upV (upV (upV v_0 22 y22_c27) 23 y23_c27) 24 y24_c27) 44 y44_c27) 187 y187_c27) A0 H0 H locs → lv_has ls 3 [(0, .ref o), (1, .int (J v_n)), (2, .int (J l2_27))] → W p l e (rmd 9 0 0) s m ar below meth c H locs 0 0 QW (F0 m 27 ls []) := by
          intro k27
          induction k27 with
          | zero =>
            intro l2_27 y22_c27 y23_c27 y24_c27 y44_c27 y187_c27 H locs ls r_l2_27 iv27 ms27 hw hl
            exact absurd ms27 (Nat.not_lt_zero _)
          | succ k27 ih27 =>
            intro l2_27 y22_c27 y23_c27 y24_c27 y44_c27 y187_c27 H locs ls r_l2_27 iv27 ms27 hw hl
            refine j_iload_n E 28 rfl dX9_summers_27 rfl (lv_at hl 2 rfl) ?_
            refine j_iload_n E 29 rfl dX9_summers_28 rfl (lv_at hl 1 rfl) ?_
            refine j_icmp_ge E 32 42 rfl r_l2_27 r_v_n dX9_summers_29 (by decide) (fun cc7_ => ?_) (fun cc7_ => ?_)
            · refine j_aload_n E 43 rfl dX9_summers_42 rfl (lv_at hl 0 rfl) ?_
              refine g_187 E hK hw fl_X9_37 t_o (y187_c27 o) rfl 46 rfl dX9_summers_43 (fun rr8_ => ?_)
              exact hret 46 (y187_c27 o) (upV (upV (upV (upV (upV v_0 22 y22_c27) 23 y23_c27) 24 y24_c27) 44 y44_c27) 187 y187_c27) _ _ ls hw rr8_ ⟨y22_c27, y23_c27, y24_c27, y44_c27, y187_c27, rfl, by first | omega | (simp only [upB_same]; omega)⟩ dX9_summers_46
            · refine j_aload_n E 33 rfl dX9_summers_32 rfl (lv_at hl 0 rfl) ?_
              refine kV_v E (c_X9_passSummer_n2 l D cy T (upV (upV (upV (upV (upV v_0 22 y22_c27) 23 y23_c27) 24 y24_c27) 44 y44_c27) 187 y187_c27) o  t_o  (show 0 ≤ (y187_c27 o) ∧ (y187_c27 o) ≤ 198 from by omega)) mt_X9_passSummer ml_X9_226 hK hw (cw_rc9 hK hw.1 t_o) hA ⟨Nat.le_of_ble_eq_true rfl, Nat.le_of_ble_eq_true rfl⟩ ⟨Nat.le_of_ble_eq_true rfl, Nat.le_of_ble_eq_true rfl⟩ (As := []) (rest := []) rfl rfl hl.1 (Nat.le_of_ble_eq_true rfl) 36 rfl dX9_summers_33 (fun v_9 H locs hq9_ hw => ?_)
              obtain ⟨y22_9, y23_9, y24_9, y44_9, y187_9, ev9_, hh9_⟩ := hq9_
              rw [ev9_] at hw; clear ev9_
              have hw : WK D cy T (upV (upV (upV (upV (upV v_0 22 y22_9) 23 y23_9) 24 y24_9) 44 y44_9) 187 y187_9) A0 H0 H locs := cw_eq hw (by first | rfl | (funext j_; simp only [upV, reduceIte]; (repeat' split) <;> first | rfl | omega | (subst_vars; rfl)))
              have hh9_ : (y187_9 o) = (y187_c27 o) + 1 := hh9_
              refine j_iinc E 39 rfl [(2, .int (J (l2_27 + 1))), (0, .ref o), (1, .int (J v_n))] dX9_summers_36 hl (kk := 2) rfl (by decide) rfl (fun ls hl => ?_)
              refine j_goto E 27 dX9_summers_39 (by decide) ?_
              exact ih27 (l2_27 + 1) y22_9 y23_9 y24_9 y44_9 y187_9 H locs ls (rr (by omega)) (by first | omega | (simp only [upB_same]; omega)) (by omega) hw (lv_sub hl [1, 2, 0] rfl)
        exact L27_5 _ 0 (v_0 22) (v_0 23) (v_0 24) (v_0 44) (v_0 187) H locs ls (rr (by decide)) (by first | omega | (simp only [upB_same]; omega)) (Nat.lt_succ_self _) (cw_eq hw (by first | rfl | (funext j_; simp only [upV, reduceIte]; (repeat' split) <;> first | rfl | omega | (subst_vars; rfl)))) (lv_sub hl [1, 2, 0] rfl)
      · refine j_iconst E 24 rfl dX9_summers_23 ?_
        exact hret 24 ((-1)) (upV (upV (upV (upV (upV v_0 22 (v_0 22)) 23 (v_0 23)) 24 (v_0 24)) 44 (v_0 44)) 187 (v_0 187)) _ _ ls (cw_eq hw (by first | rfl | (funext j_; simp only [upV, reduceIte]; (repeat' split) <;> first | rfl | omega | (subst_vars; rfl)))) (rr (by decide)) ⟨(v_0 22), (v_0 23), (v_0 24), (v_0 44), (v_0 187), rfl, by first | omega | (simp only [upB_same]; omega)⟩ dX9_summers_24
