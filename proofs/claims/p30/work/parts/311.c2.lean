set_option maxHeartbeats 4000000 in
set_option maxRecDepth 100000 in
theorem c_X1_lives (l : Launch) (D : va_G) (cy : Nat → ClassId) (T : Nat → Nat → Nat) (v_0 : Nat → Nat → Int) (o : Nat) (t_o : T 0 o = 2) : KC l D cy T yX1_lives cX1_lives 1 (some .boolean) 1 [.ref o] v_0 (KI (fun (z_0 : Int) (v_2 : Nat → Nat → Int) => v_2 = v_0 ∧ ((z_0 = 1 ∧ (v_0 43 o) = -1) ∨ (z_0 = 0 ∧ ¬ (v_0 43 o) = -1)))) := by
  refine KC.ofz (by decide) (Nat.le_of_ble_eq_true rfl) ?_
  intro p e s m below meth c ls ar QW A0 H0 H locs E hK hA hw hl hret
  have hl : lv_has ls 1 [(0, .ref o)] := hl
  have hT : WT T := hw.1.2.1
  refine j_aload_n E 1 rfl dX1_lives_0 rfl (lv_at hl 0 rfl) ?_
  refine g_43 E hK hw fl_X1_9 t_o (v_0 43 o) rfl 4 rfl dX1_lives_1 (fun rr1_ => ?_)
  refine j_iconst E 5 rfl dX1_lives_4 ?_
  refine j_icmp_ne E 8 12 rfl rr1_ (rr (by decide)) dX1_lives_5 (by decide) (fun cc2_ => ?_) (fun cc2_ => ?_)
  · refine j_iconst E 13 rfl dX1_lives_12 ?_
    exact hret 13 0 (v_0) _ _ ls hw (Or.inl rfl) ⟨rfl, by omega⟩ dX1_lives_13
  · refine j_iconst E 9 rfl dX1_lives_8 ?_
    refine j_goto E 13 dX1_lives_9 (by decide) ?_
    exact hret 13 1 (v_0) _ _ ls hw (Or.inr rfl) ⟨rfl, by omega⟩ dX1_lives_13
set_option maxHeartbeats 4000000 in
set_option maxRecDepth 100000 in
theorem c_X1_strengthOf (l : Launch) (D : va_G) (cy : Nat → ClassId) (T : Nat → Nat → Nat) (v_0 : Nat → Nat → Int) (o : Nat) (v_l : Int) (t_o : T 0 o = 2) (r_v_l : inR v_l) : KC l D cy T yX1_strengthOf cX1_strengthOf 2 (some .int) 1 [.ref o, .int (J v_l)] v_0 (KI (fun (z_0 : Int) (v_2 : Nat → Nat → Int) => v_2 = v_0 ∧ (True))) := by
  refine KC.ofi (by decide) (Nat.le_of_ble_eq_true rfl) ?_
  intro p e s m below meth c ls ar QW A0 H0 H locs E hK hA hw hl hret
  have hl : lv_has ls 2 [(0, .ref o), (1, .int (J v_l))] := hl
  have hT : WT T := hw.1.2.1
  refine j_iload_n E 1 rfl dX1_strengthOf_0 rfl (lv_at hl 1 rfl) ?_
  refine j_if_lt E 4 22 rfl r_v_l dX1_strengthOf_1 (by decide) (fun cc1_ => ?_) (fun cc1_ => ?_)
  · refine j_iconst E 23 rfl dX1_strengthOf_22 ?_
    exact hret 23 0 (v_0) _ _ ls hw (rr (by decide)) ⟨rfl, trivial⟩ dX1_strengthOf_23
  · refine j_iload_n E 5 rfl dX1_strengthOf_4 rfl (lv_at hl 1 rfl) ?_
    refine j_aload_n E 6 rfl dX1_strengthOf_5 rfl (lv_at hl 0 rfl) ?_
    refine g_47 E hK hw fl_X1_26 t_o 9 rfl dX1_strengthOf_6 ?_
    have ln2_ := wl_47 hT t_o
    refine a_ln20 E hK hw (wt_47 hT t_o) 10 rfl dX1_strengthOf_9 (fun rr3_ => ?_)
    refine j_icmp_ge E 13 22 rfl r_v_l rr3_ dX1_strengthOf_10 (by decide) (fun cc4_ => ?_) (fun cc4_ => ?_)
    · refine j_iconst E 23 rfl dX1_strengthOf_22 ?_
      exact hret 23 0 (v_0) _ _ ls hw (rr (by decide)) ⟨rfl, trivial⟩ dX1_strengthOf_23
    · refine j_aload_n E 14 rfl dX1_strengthOf_13 rfl (lv_at hl 0 rfl) ?_
      refine g_47 E hK hw fl_X1_26 t_o 17 rfl dX1_strengthOf_14 ?_
      refine j_iload_n E 18 rfl dX1_strengthOf_17 rfl (lv_at hl 1 rfl) ?_
      refine a_ld20 E hK hw (wt_47 hT t_o) (by omega) 19 rfl dX1_strengthOf_18 (fun zz5_ he5_ rr5_ => ?_)
      refine j_goto E 23 dX1_strengthOf_19 (by decide) ?_
      exact hret 23 zz5_ (v_0) _ _ ls hw rr5_ ⟨rfl, trivial⟩ dX1_strengthOf_23
set_option maxHeartbeats 4000000 in
set_option maxRecDepth 100000 in
theorem c_X1_knows (l : Launch) (D : va_G) (cy : Nat → ClassId) (T : Nat → Nat → Nat) (v_0 : Nat → Nat → Int) (o : Nat) (v_l : Int) (t_o : T 0 o = 2) (r_v_l : inR v_l) : KC l D cy T yX1_knows cX1_knows 2 (some .boolean) 2 [.ref o, .int (J v_l)] v_0 (KI (fun (z_0 : Int) (v_2 : Nat → Nat → Int) => v_2 = v_0 ∧ (True))) := by
  refine KC.ofz (by decide) (Nat.le_of_ble_eq_true rfl) ?_
  intro p e s m below meth c ls ar QW A0 H0 H locs E hK hA hw hl hret
  have hl : lv_has ls 2 [(0, .ref o), (1, .int (J v_l))] := hl
  have hT : WT T := hw.1.2.1
  refine j_aload_n E 1 rfl dX1_knows_0 rfl (lv_at hl 0 rfl) ?_
  refine j_iload_n E 2 rfl dX1_knows_1 rfl (lv_at hl 1 rfl) ?_
  refine kV_i E (c_X1_strengthOf l D cy T (v_0) o v_l  t_o r_v_l ) mt_X1_strengthOf ml_X1_47 hK hw (cw_rc2 hK hw.1 t_o) hA ⟨Nat.le_of_ble_eq_true rfl, Nat.le_of_ble_eq_true rfl⟩ ⟨Nat.le_of_ble_eq_true rfl, Nat.le_of_ble_eq_true rfl⟩ (As := [.int (J v_l)]) (rest := []) rfl rfl hl.1 (Nat.le_of_ble_eq_true rfl) 5 rfl dX1_knows_2 (fun zz1_ v_1 H locs rr1_ hq1_ hw => ?_)
  obtain ⟨ev1_, hh1_⟩ := hq1_
  rw [ev1_] at hw; clear ev1_
  refine j_if_le E 8 12 rfl rr1_ dX1_knows_5 (by decide) (fun cc2_ => ?_) (fun cc2_ => ?_)
  · refine j_iconst E 13 rfl dX1_knows_12 ?_
    exact hret 13 0 (v_0) _ _ ls hw (Or.inl rfl) ⟨rfl, trivial⟩ dX1_knows_13
  · refine j_iconst E 9 rfl dX1_knows_8 ?_
    refine j_goto E 13 dX1_knows_9 (by decide) ?_
    exact hret 13 1 (v_0) _ _ ls hw (Or.inr rfl) ⟨rfl, trivial⟩ dX1_knows_13
set_option maxHeartbeats 4000000 in
set_option maxRecDepth 100000 in
theorem c_X1_wordingOf (l : Launch) (D : va_G) (cy : Nat → ClassId) (T : Nat → Nat → Nat) (v_0 : Nat → Nat → Int) (o : Nat) (v_l : Int) (t_o : T 0 o = 2) (r_v_l : inR v_l) : KC l D cy T yX1_wordingOf cX1_wordingOf 2 (some .int) 1 [.ref o, .int (J v_l)] v_0 (KI (fun (z_0 : Int) (v_2 : Nat → Nat → Int) => v_2 = v_0 ∧ (True))) := by
  refine KC.ofi (by decide) (Nat.le_of_ble_eq_true rfl) ?_
  intro p e s m below meth c ls ar QW A0 H0 H locs E hK hA hw hl hret
  have hl : lv_has ls 2 [(0, .ref o), (1, .int (J v_l))] := hl
  have hT : WT T := hw.1.2.1
  refine j_iload_n E 1 rfl dX1_wordingOf_0 rfl (lv_at hl 1 rfl) ?_
  refine j_if_lt E 4 22 rfl r_v_l dX1_wordingOf_1 (by decide) (fun cc1_ => ?_) (fun cc1_ => ?_)
  · refine j_iconst E 23 rfl dX1_wordingOf_22 ?_
    exact hret 23 ((-1)) (v_0) _ _ ls hw (rr (by decide)) ⟨rfl, trivial⟩ dX1_wordingOf_23
  · refine j_iload_n E 5 rfl dX1_wordingOf_4 rfl (lv_at hl 1 rfl) ?_
    refine j_aload_n E 6 rfl dX1_wordingOf_5 rfl (lv_at hl 0 rfl) ?_
    refine g_46 E hK hw fl_X1_22 t_o 9 rfl dX1_wordingOf_6 ?_
    have ln2_ := wl_46 hT t_o
    refine a_ln20 E hK hw (wt_46 hT t_o) 10 rfl dX1_wordingOf_9 (fun rr3_ => ?_)
    refine j_icmp_ge E 13 22 rfl r_v_l rr3_ dX1_wordingOf_10 (by decide) (fun cc4_ => ?_) (fun cc4_ => ?_)
    · refine j_iconst E 23 rfl dX1_wordingOf_22 ?_
      exact hret 23 ((-1)) (v_0) _ _ ls hw (rr (by decide)) ⟨rfl, trivial⟩ dX1_wordingOf_23
    · refine j_aload_n E 14 rfl dX1_wordingOf_13 rfl (lv_at hl 0 rfl) ?_
      refine g_46 E hK hw fl_X1_22 t_o 17 rfl dX1_wordingOf_14 ?_
      refine j_iload_n E 18 rfl dX1_wordingOf_17 rfl (lv_at hl 1 rfl) ?_
      refine a_ld20 E hK hw (wt_46 hT t_o) (by omega) 19 rfl dX1_wordingOf_18 (fun zz5_ he5_ rr5_ => ?_)
      refine j_goto E 23 dX1_wordingOf_19 (by decide) ?_
      exact hret 23 zz5_ (v_0) _ _ ls hw rr5_ ⟨rfl, trivial⟩ dX1_wordingOf_23
set_option maxHeartbeats 4000000 in
set_option maxRecDepth 100000 in
theorem c_X1_sourceOf (l : Launch) (D : va_G) (cy : Nat → ClassId) (T : Nat → Nat → Nat) (v_0 : Nat → Nat → Int) (o : Nat) (v_l : Int) (t_o : T 0 o = 2) (r_v_l : inR v_l) : KC l D cy T yX1_sourceOf cX1_sourceOf 2 (some .int) 1 [.ref o, .int (J v_l)] v_0 (KI (fun (z_0 : Int) (v_2 : Nat → Nat → Int) => v_2 = v_0 ∧ (True))) := by
  refine KC.ofi (by decide) (Nat.le_of_ble_eq_true rfl) ?_
  intro p e s m below meth c ls ar QW A0 H0 H locs E hK hA hw hl hret
  have hl : lv_has ls 2 [(0, .ref o), (1, .int (J v_l))] := hl
  have hT : WT T := hw.1.2.1
  refine j_iload_n E 1 rfl dX1_sourceOf_0 rfl (lv_at hl 1 rfl) ?_
  refine j_if_lt E 4 22 rfl r_v_l dX1_sourceOf_1 (by decide) (fun cc1_ => ?_) (fun cc1_ => ?_)
  · refine j_iconst E 23 rfl dX1_sourceOf_22 ?_
    exact hret 23 ((-1)) (v_0) _ _ ls hw (rr (by decide)) ⟨rfl, trivial⟩ dX1_sourceOf_23
  · refine j_iload_n E 5 rfl dX1_sourceOf_4 rfl (lv_at hl 1 rfl) ?_
    refine j_aload_n E 6 rfl dX1_sourceOf_5 rfl (lv_at hl 0 rfl) ?_
    refine g_48 E hK hw fl_X1_29 t_o 9 rfl dX1_sourceOf_6 ?_
    have ln2_ := wl_48 hT t_o
    refine a_ln20 E hK hw (wt_48 hT t_o) 10 rfl dX1_sourceOf_9 (fun rr3_ => ?_)
    refine j_icmp_ge E 13 22 rfl r_v_l rr3_ dX1_sourceOf_10 (by decide) (fun cc4_ => ?_) (fun cc4_ => ?_)
    · refine j_iconst E 23 rfl dX1_sourceOf_22 ?_
      exact hret 23 ((-1)) (v_0) _ _ ls hw (rr (by decide)) ⟨rfl, trivial⟩ dX1_sourceOf_23
    · refine j_aload_n E 14 rfl dX1_sourceOf_13 rfl (lv_at hl 0 rfl) ?_
      refine g_48 E hK hw fl_X1_29 t_o 17 rfl dX1_sourceOf_14 ?_
      refine j_iload_n E 18 rfl dX1_sourceOf_17 rfl (lv_at hl 1 rfl) ?_
      refine a_ld20 E hK hw (wt_48 hT t_o) (by omega) 19 rfl dX1_sourceOf_18 (fun zz5_ he5_ rr5_ => ?_)
      refine j_goto E 23 dX1_sourceOf_19 (by decide) ?_
      exact hret 23 zz5_ (v_0) _ _ ls hw rr5_ ⟨rfl, trivial⟩ dX1_sourceOf_23
set_option maxHeartbeats 4000000 in
set_option maxRecDepth 100000 in
theorem c_X1_countLines (l : Launch) (D : va_G) (cy : Nat → ClassId) (T : Nat → Nat → Nat) (v_0 : Nat → Nat → Int) (o : Nat) (t_o : T 0 o = 2) : KC l D cy T yX1_countLines cX1_countLines 3 (some .int) 1 [.ref o] v_0 (KI (fun (z_0 : Int) (v_2 : Nat → Nat → Int) => v_2 = v_0 ∧ (True))) := by
  refine KC.ofi (by decide) (Nat.le_of_ble_eq_true rfl) ?_
  intro p e s m below meth c ls ar QW A0 H0 H locs E hK hA hw hl hret
  have hl : lv_has ls 3 [(0, .ref o)] := hl
  have hT : WT T := hw.1.2.1
  refine j_iconst E 1 rfl dX1_countLines_0 ?_
  refine j_istore_n E 2 rfl [(1, .int (J 0)), (0, .ref o)] dX1_countLines_1 rfl hl (by decide) rfl (fun ls hl => ?_)
  refine j_iconst E 3 rfl dX1_countLines_2 ?_
  refine j_istore_n E 4 rfl [(2, .int (J 0)), (1, .int (J 0)), (0, .ref o)] dX1_countLines_3 rfl hl (by decide) rfl (fun ls hl => ?_)
  have L4_1 : ∀ (k4 : Nat) (l1_4 l2_4 : Int) (H : Heap) (locs : List Loc) (ls : Array Slot), inR l1_4 → inR l2_4 → (0 ≤ l2_4) → ((T 1 (T 47 o) : Int) - l2_4).toNat < k4 → WK D cy T (v_0) A0 H0 H locs → lv_has ls 3 [(0, .ref o), (1, .int (J l1_4)), (2, .int (J l2_4))] → W p l e (rmd 1 0 0) s m ar below meth c H locs 0 0 QW (F0 m 4 ls []) := by
    intro k4
    induction k4 with
    | zero =>
      intro l1_4 l2_4 H locs ls r_l1_4 r_l2_4 iv4 ms4 hw hl
      exact absurd ms4 (Nat.not_lt_zero _)
    | succ k4 ih4 =>
      intro l1_4 l2_4 H locs ls r_l1_4 r_l2_4 iv4 ms4 hw hl
      refine j_iload_n E 5 rfl dX1_countLines_4 rfl (lv_at hl 2 rfl) ?_
      refine j_aload_n E 6 rfl dX1_countLines_5 rfl (lv_at hl 0 rfl) ?_
      refine g_47 E hK hw fl_X1_26 t_o 9 rfl dX1_countLines_6 ?_
      have ln3_ := wl_47 hT t_o
      refine a_ln20 E hK hw (wt_47 hT t_o) 10 rfl dX1_countLines_9 (fun rr4_ => ?_)
      refine j_icmp_ge E 13 36 rfl r_l2_4 rr4_ dX1_countLines_10 (by decide) (fun cc5_ => ?_) (fun cc5_ => ?_)
      · refine j_iload_n E 37 rfl dX1_countLines_36 rfl (lv_at hl 1 rfl) ?_
        exact hret 37 l1_4 (v_0) _ _ ls hw r_l1_4 ⟨rfl, trivial⟩ dX1_countLines_37
      · refine j_iload_n E 14 rfl dX1_countLines_13 rfl (lv_at hl 1 rfl) ?_
        refine j_aload_n E 15 rfl dX1_countLines_14 rfl (lv_at hl 0 rfl) ?_
        refine g_47 E hK hw fl_X1_26 t_o 18 rfl dX1_countLines_15 ?_
        refine j_iload_n E 19 rfl dX1_countLines_18 rfl (lv_at hl 2 rfl) ?_
        refine a_ld20 E hK hw (wt_47 hT t_o) (by omega) 20 rfl dX1_countLines_19 (fun zz6_ he6_ rr6_ => ?_)
        refine j_if_le E 23 27 rfl rr6_ dX1_countLines_20 (by decide) (fun cc7_ => ?_) (fun cc7_ => ?_)
        · refine j_iconst E 28 rfl dX1_countLines_27 ?_
          refine j_iadd E 29 rfl dX1_countLines_28 ?_
          refine j_norm (fun zz8_ rr8_ ee8_ => ?_)
          refine j_istore_n E 30 rfl [(1, .int (J zz8_)), (0, .ref o), (2, .int (J l2_4))] dX1_countLines_29 rfl hl (by decide) rfl (fun ls hl => ?_)
          refine j_iinc E 33 rfl [(2, .int (J (l2_4 + 1))), (1, .int (J zz8_)), (0, .ref o)] dX1_countLines_30 hl (kk := 2) rfl (by decide) rfl (fun ls hl => ?_)
          refine j_goto E 4 dX1_countLines_33 (by decide) ?_
          exact ih4 zz8_ (l2_4 + 1)  H locs ls rr8_ (rr (by omega)) (by omega) (by omega) hw (lv_sub hl [2, 1, 0] rfl)
        · refine j_iconst E 24 rfl dX1_countLines_23 ?_
          refine j_goto E 28 dX1_countLines_24 (by decide) ?_
          refine j_iadd E 29 rfl dX1_countLines_28 ?_
          refine j_norm (fun zz9_ rr9_ ee9_ => ?_)
          refine j_istore_n E 30 rfl [(1, .int (J zz9_)), (0, .ref o), (2, .int (J l2_4))] dX1_countLines_29 rfl hl (by decide) rfl (fun ls hl => ?_)
          refine j_iinc E 33 rfl [(2, .int (J (l2_4 + 1))), (1, .int (J zz9_)), (0, .ref o)] dX1_countLines_30 hl (kk := 2) rfl (by decide) rfl (fun ls hl => ?_)
          refine j_goto E 4 dX1_countLines_33 (by decide) ?_
          exact ih4 zz9_ (l2_4 + 1)  H locs ls rr9_ (rr (by omega)) (by omega) (by omega) hw (lv_sub hl [2, 1, 0] rfl)
  exact L4_1 _ 0 0  H locs ls (rr (by decide)) (rr (by decide)) (by omega) (Nat.lt_succ_self _) hw (lv_sub hl [2, 1, 0] rfl)
set_option maxHeartbeats 4000000 in
set_option maxRecDepth 100000 in
theorem c_X1_learn (l : Launch) (D : va_G) (cy : Nat → ClassId) (T : Nat → Nat → Nat) (v_0 : Nat → Nat → Int) (o : Nat) (v_l : Int) (v_w : Int) (v_st : Int) (v_so : Int) (t_o : T 0 o = 2) (r_v_l : inR v_l) (r_v_w : inR v_w) (r_v_st : inR v_st) (r_v_so : inR v_so) : KC l D cy T yX1_learn cX1_learn 5 none 1 [.ref o, .int (J v_l), .int (J v_w), .int (J v_st), .int (J v_so)] v_0 (KV (fun (v_2 : Nat → Nat → Int) => ∃ (y300_2 : Nat → Int) , v_2 = upV v_0 300 y300_2 ∧ ((True) ∧ Kd_ T [46, 47, 48] (v_0 300) y300_2))) := by
  refine KC.ofv (by decide) (Nat.le_of_ble_eq_true rfl) ?_
  intro p e s m below meth c ls ar QW A0 H0 H locs E hK hA hw hl hret
  have hl : lv_has ls 5 [(0, .ref o), (1, .int (J v_l)), (2, .int (J v_w)), (3, .int (J v_st)), (4, .int (J v_so))] := hl
  have hT : WT T := hw.1.2.1
  refine j_iload_n E 1 rfl dX1_learn_0 rfl (lv_at hl 1 rfl) ?_
  refine j_if_lt E 4 53 rfl r_v_l dX1_learn_1 (by decide) (fun cc1_ => ?_) (fun cc1_ => ?_)
  · exact hret 53 (upV v_0 300 (v_0 300)) _ _ ls (cw_eq hw (by first | rfl | (funext j_; simp only [upV, reduceIte]; (repeat' split) <;> first | rfl | omega | (subst_vars; rfl)))) ⟨(v_0 300), rfl, ⟨trivial, Kd_rf⟩⟩ dX1_learn_53
  · refine j_iload_n E 5 rfl dX1_learn_4 rfl (lv_at hl 1 rfl) ?_
    refine j_aload_n E 6 rfl dX1_learn_5 rfl (lv_at hl 0 rfl) ?_
    refine g_46 E hK hw fl_X1_22 t_o 9 rfl dX1_learn_6 ?_
    have ln2_ := wl_46 hT t_o
    refine a_ln20 E hK hw (wt_46 hT t_o) 10 rfl dX1_learn_9 (fun rr3_ => ?_)
    refine j_icmp_ge E 13 53 rfl r_v_l rr3_ dX1_learn_10 (by decide) (fun cc4_ => ?_) (fun cc4_ => ?_)
    · exact hret 53 (upV v_0 300 (v_0 300)) _ _ ls (cw_eq hw (by first | rfl | (funext j_; simp only [upV, reduceIte]; (repeat' split) <;> first | rfl | omega | (subst_vars; rfl)))) ⟨(v_0 300), rfl, ⟨trivial, Kd_rf⟩⟩ dX1_learn_53
    · refine j_iload_n E 14 rfl dX1_learn_13 rfl (lv_at hl 1 rfl) ?_
      refine j_aload_n E 15 rfl dX1_learn_14 rfl (lv_at hl 0 rfl) ?_
      refine g_47 E hK hw fl_X1_26 t_o 18 rfl dX1_learn_15 ?_
      have ln5_ := wl_47 hT t_o
      refine a_ln20 E hK hw (wt_47 hT t_o) 19 rfl dX1_learn_18 (fun rr6_ => ?_)
      refine j_icmp_ge E 22 53 rfl r_v_l rr6_ dX1_learn_19 (by decide) (fun cc7_ => ?_) (fun cc7_ => ?_)
      · exact hret 53 (upV v_0 300 (v_0 300)) _ _ ls (cw_eq hw (by first | rfl | (funext j_; simp only [upV, reduceIte]; (repeat' split) <;> first | rfl | omega | (subst_vars; rfl)))) ⟨(v_0 300), rfl, ⟨trivial, Kd_rf⟩⟩ dX1_learn_53
      · refine j_iload_n E 23 rfl dX1_learn_22 rfl (lv_at hl 1 rfl) ?_
        refine j_aload_n E 24 rfl dX1_learn_23 rfl (lv_at hl 0 rfl) ?_
        refine g_48 E hK hw fl_X1_29 t_o 27 rfl dX1_learn_24 ?_
        have ln8_ := wl_48 hT t_o
        refine a_ln20 E hK hw (wt_48 hT t_o) 28 rfl dX1_learn_27 (fun rr9_ => ?_)
        refine j_icmp_ge E 31 53 rfl r_v_l rr9_ dX1_learn_28 (by decide) (fun cc10_ => ?_) (fun cc10_ => ?_)
        · exact hret 53 (upV v_0 300 (v_0 300)) _ _ ls (cw_eq hw (by first | rfl | (funext j_; simp only [upV, reduceIte]; (repeat' split) <;> first | rfl | omega | (subst_vars; rfl)))) ⟨(v_0 300), rfl, ⟨trivial, Kd_rf⟩⟩ dX1_learn_53
        · refine j_aload_n E 32 rfl dX1_learn_31 rfl (lv_at hl 0 rfl) ?_
          refine g_46 E hK hw fl_X1_22 t_o 35 rfl dX1_learn_32 ?_
          refine j_iload_n E 36 rfl dX1_learn_35 rfl (lv_at hl 1 rfl) ?_
          refine j_iload_n E 37 rfl dX1_learn_36 rfl (lv_at hl 2 rfl) ?_
          refine a_st20 E hK hw (wt_46 hT t_o) r_v_w (by omega) 38 rfl dX1_learn_37 (fun H locs hw => ?_)
          have hw : WK D cy T (upV v_0 300 (upB (v_0 300) ((pr (T 46 o) (Int.toNat v_l))) v_w)) A0 H0 H locs := cw_eq hw (by first | rfl | (funext j_; simp only [upV, reduceIte]; (repeat' split) <;> first | rfl | omega | (subst_vars; rfl)))
          refine j_aload_n E 39 rfl dX1_learn_38 rfl (lv_at hl 0 rfl) ?_
          refine g_47 E hK hw fl_X1_26 t_o 42 rfl dX1_learn_39 ?_
          refine j_iload_n E 43 rfl dX1_learn_42 rfl (lv_at hl 1 rfl) ?_
          refine j_iload_n E 44 rfl dX1_learn_43 rfl (lv_at hl 3 rfl) ?_
          refine a_st20 E hK hw (wt_47 hT t_o) r_v_st (by omega) 45 rfl dX1_learn_44 (fun H locs hw => ?_)
          have hw : WK D cy T (upV v_0 300 (upB (upB (v_0 300) ((pr (T 46 o) (Int.toNat v_l))) v_w) ((pr (T 47 o) (Int.toNat v_l))) v_st)) A0 H0 H locs := cw_eq hw (by first | rfl | (funext j_; simp only [upV, reduceIte]; (repeat' split) <;> first | rfl | omega | (subst_vars; rfl)))
          refine j_aload_n E 46 rfl dX1_learn_45 rfl (lv_at hl 0 rfl) ?_
          refine g_48 E hK hw fl_X1_29 t_o 49 rfl dX1_learn_46 ?_
          refine j_iload_n E 50 rfl dX1_learn_49 rfl (lv_at hl 1 rfl) ?_
          refine j_iload E 52 rfl dX1_learn_50 (lv_at hl 4 rfl) ?_
          refine a_st20 E hK hw (wt_48 hT t_o) r_v_so (by omega) 53 rfl dX1_learn_52 (fun H locs hw => ?_)
          have hw : WK D cy T (upV v_0 300 (upB (upB (upB (v_0 300) ((pr (T 46 o) (Int.toNat v_l))) v_w) ((pr (T 47 o) (Int.toNat v_l))) v_st) ((pr (T 48 o) (Int.toNat v_l))) v_so)) A0 H0 H locs := cw_eq hw (by first | rfl | (funext j_; simp only [upV, reduceIte]; (repeat' split) <;> first | rfl | omega | (subst_vars; rfl)))
          exact hret 53 (upV v_0 300 (upB (upB (upB (v_0 300) ((pr (T 46 o) (Int.toNat v_l))) v_w) ((pr (T 47 o) (Int.toNat v_l))) v_st) ((pr (T 48 o) (Int.toNat v_l))) v_so)) _ _ ls hw ⟨(upB (upB (upB (v_0 300) ((pr (T 46 o) (Int.toNat v_l))) v_w) ((pr (T 47 o) (Int.toNat v_l))) v_st) ((pr (T 48 o) (Int.toNat v_l))) v_so), rfl, ⟨trivial, (Kd_tr (Kd_tr (Kd_tr Kd_rf (Kd_up (wok (wo_46 hT t_o) (by decide)) (by decide))) (Kd_up (wok (wo_47 hT t_o) (by decide)) (by decide))) (Kd_up (wok (wo_48 hT t_o) (by decide)) (by decide)))⟩⟩ dX1_learn_53
set_option maxHeartbeats 4000000 in
set_option maxRecDepth 100000 in
theorem c_X1_strengthen (l : Launch) (D : va_G) (cy : Nat → ClassId) (T : Nat → Nat → Nat) (v_0 : Nat → Nat → Int) (o : Nat) (v_l : Int) (t_o : T 0 o = 2) (r_v_l : inR v_l) : KC l D cy T yX1_strengthen cX1_strengthen 2 none 2 [.ref o, .int (J v_l)] v_0 (KV (fun (v_2 : Nat → Nat → Int) => ∃ (y300_2 : Nat → Int) , v_2 = upV v_0 300 y300_2 ∧ ((True) ∧ Kd_ T [47] (v_0 300) y300_2))) := by
  refine KC.ofv (by decide) (Nat.le_of_ble_eq_true rfl) ?_
  intro p e s m below meth c ls ar QW A0 H0 H locs E hK hA hw hl hret
  have hl : lv_has ls 2 [(0, .ref o), (1, .int (J v_l))] := hl
  have hT : WT T := hw.1.2.1
  refine j_iload_n E 1 rfl dX1_strengthen_0 rfl (lv_at hl 1 rfl) ?_
  refine j_if_lt E 4 32 rfl r_v_l dX1_strengthen_1 (by decide) (fun cc1_ => ?_) (fun cc1_ => ?_)
  · exact hret 32 (upV v_0 300 (v_0 300)) _ _ ls (cw_eq hw (by first | rfl | (funext j_; simp only [upV, reduceIte]; (repeat' split) <;> first | rfl | omega | (subst_vars; rfl)))) ⟨(v_0 300), rfl, ⟨trivial, Kd_rf⟩⟩ dX1_strengthen_32
  · refine j_iload_n E 5 rfl dX1_strengthen_4 rfl (lv_at hl 1 rfl) ?_
    refine j_aload_n E 6 rfl dX1_strengthen_5 rfl (lv_at hl 0 rfl) ?_
    refine g_47 E hK hw fl_X1_26 t_o 9 rfl dX1_strengthen_6 ?_
    have ln2_ := wl_47 hT t_o
    refine a_ln20 E hK hw (wt_47 hT t_o) 10 rfl dX1_strengthen_9 (fun rr3_ => ?_)
    refine j_icmp_ge E 13 32 rfl r_v_l rr3_ dX1_strengthen_10 (by decide) (fun cc4_ => ?_) (fun cc4_ => ?_)
    · exact hret 32 (upV v_0 300 (v_0 300)) _ _ ls (cw_eq hw (by first | rfl | (funext j_; simp only [upV, reduceIte]; (repeat' split) <;> first | rfl | omega | (subst_vars; rfl)))) ⟨(v_0 300), rfl, ⟨trivial, Kd_rf⟩⟩ dX1_strengthen_32
    · refine j_aload_n E 14 rfl dX1_strengthen_13 rfl (lv_at hl 0 rfl) ?_
      refine g_47 E hK hw fl_X1_26 t_o 17 rfl dX1_strengthen_14 ?_
      refine j_iload_n E 18 rfl dX1_strengthen_17 rfl (lv_at hl 1 rfl) ?_
      refine j_bipush E 20 rfl dX1_strengthen_18 (by decide) ?_
      refine j_aload_n E 21 rfl dX1_strengthen_20 rfl (lv_at hl 0 rfl) ?_
      refine g_47 E hK hw fl_X1_26 t_o 24 rfl dX1_strengthen_21 ?_
      refine j_iload_n E 25 rfl dX1_strengthen_24 rfl (lv_at hl 1 rfl) ?_
      refine a_ld20 E hK hw (wt_47 hT t_o) (by omega) 26 rfl dX1_strengthen_25 (fun zz5_ he5_ rr5_ => ?_)
      refine j_iconst E 27 rfl dX1_strengthen_26 ?_
      refine j_iadd E 28 rfl dX1_strengthen_27 ?_
      refine j_norm (fun zz6_ rr6_ ee6_ => ?_)
      refine j_min E hl.1 ml_X1_51 (rr (by decide)) rr6_ ⟨Nat.le_of_ble_eq_true rfl, Nat.le_of_ble_eq_true rfl⟩ ⟨Nat.le_of_ble_eq_true rfl, Nat.le_of_ble_eq_true rfl⟩ 31 rfl dX1_strengthen_28 (fun zz7_ rr7_ hh7_ => ?_)
      refine a_st20 E hK hw (wt_47 hT t_o) rr7_ (by omega) 32 rfl dX1_strengthen_31 (fun H locs hw => ?_)
      have hw : WK D cy T (upV v_0 300 (upB (v_0 300) ((pr (T 47 o) (Int.toNat v_l))) zz7_)) A0 H0 H locs := cw_eq hw (by first | rfl | (funext j_; simp only [upV, reduceIte]; (repeat' split) <;> first | rfl | omega | (subst_vars; rfl)))
      exact hret 32 (upV v_0 300 (upB (v_0 300) ((pr (T 47 o) (Int.toNat v_l))) zz7_)) _ _ ls hw ⟨(upB (v_0 300) ((pr (T 47 o) (Int.toNat v_l))) zz7_), rfl, ⟨trivial, (Kd_tr Kd_rf (Kd_up (wok (wo_47 hT t_o) (by decide)) (by decide)))⟩⟩ dX1_strengthen_32
set_option maxHeartbeats 4000000 in
set_option maxRecDepth 100000 in
theorem c_X1_weaken (l : Launch) (D : va_G) (cy : Nat → ClassId) (T : Nat → Nat → Nat) (v_0 : Nat → Nat → Int) (o : Nat) (v_l : Int) (t_o : T 0 o = 2) (r_v_l : inR v_l) : KC l D cy T yX1_weaken cX1_weaken 3 none 2 [.ref o, .int (J v_l)] v_0 (KV (fun (v_2 : Nat → Nat → Int) => ∃ (y300_2 : Nat → Int) , v_2 = upV v_0 300 y300_2 ∧ ((True) ∧ Kd_ T [46, 47, 48] (v_0 300) y300_2))) := by
  refine KC.ofv (by decide) (Nat.le_of_ble_eq_true rfl) ?_
  intro p e s m below meth c ls ar QW A0 H0 H locs E hK hA hw hl hret
  have hl : lv_has ls 3 [(0, .ref o), (1, .int (J v_l))] := hl
  have hT : WT T := hw.1.2.1
  refine j_aload_n E 1 rfl dX1_weaken_0 rfl (lv_at hl 0 rfl) ?_
  refine j_iload_n E 2 rfl dX1_weaken_1 rfl (lv_at hl 1 rfl) ?_
  refine kV_i E (c_X1_strengthOf l D cy T (v_0) o v_l  t_o r_v_l ) mt_X1_strengthOf ml_X1_47 hK hw (cw_rc2 hK hw.1 t_o) hA ⟨Nat.le_of_ble_eq_true rfl, Nat.le_of_ble_eq_true rfl⟩ ⟨Nat.le_of_ble_eq_true rfl, Nat.le_of_ble_eq_true rfl⟩ (As := [.int (J v_l)]) (rest := []) rfl rfl hl.1 (Nat.le_of_ble_eq_true rfl) 5 rfl dX1_weaken_2 (fun zz1_ v_1 H locs rr1_ hq1_ hw => ?_)
  obtain ⟨ev1_, hh1_⟩ := hq1_
  rw [ev1_] at hw; clear ev1_
  refine j_iconst E 6 rfl dX1_weaken_5 ?_
  refine j_isub E 7 rfl dX1_weaken_6 ?_
  refine j_norm (fun zz2_ rr2_ ee2_ => ?_)
  refine j_istore_n E 8 rfl [(2, .int (J zz2_)), (0, .ref o), (1, .int (J v_l))] dX1_weaken_7 rfl hl (by decide) rfl (fun ls hl => ?_)
  refine j_iload_n E 9 rfl dX1_weaken_8 rfl (lv_at hl 0 rfl) ?_
  refine j_if_le E 12 31 rfl rr2_ dX1_weaken_9 (by decide) (fun cc3_ => ?_) (fun cc3_ => ?_)
  · refine j_aload_n E 32 rfl dX1_weaken_31 rfl (lv_at hl 1 rfl) ?_
    refine j_iload_n E 33 rfl dX1_weaken_32 rfl (lv_at hl 2 rfl) ?_
    refine j_iconst E 34 rfl dX1_weaken_33 ?_
    refine j_iconst E 35 rfl dX1_weaken_34 ?_
    refine j_iconst E 36 rfl dX1_weaken_35 ?_
    refine kV_v E (c_X1_learn l D cy T (v_0) o v_l ((-1)) 0 ((-1))  t_o r_v_l (rr (by decide)) (rr (by decide)) (rr (by decide)) ) mt_X1_learn ml_X1_63 hK hw (cw_rc2 hK hw.1 t_o) hA ⟨Nat.le_of_ble_eq_true rfl, Nat.le_of_ble_eq_true rfl⟩ ⟨Nat.le_of_ble_eq_true rfl, Nat.le_of_ble_eq_true rfl⟩ (As := [.int (J v_l), .int (J ((-1))), .int (J 0), .int (J ((-1)))]) (rest := []) rfl rfl hl.1 (Nat.le_of_ble_eq_true rfl) 39 rfl dX1_weaken_36 (fun v_4 H locs hq4_ hw => ?_)
    obtain ⟨y300_4, ev4_, hh4_⟩ := hq4_
    rw [ev4_] at hw; clear ev4_
    have hw : WK D cy T (upV v_0 300 y300_4) A0 H0 H locs := cw_eq hw (by first | rfl | (funext j_; simp only [upV, reduceIte]; (repeat' split) <;> first | rfl | omega | (subst_vars; rfl)))
    obtain ⟨hh4_, kf4_⟩ := hh4_
    exact hret 39 (upV v_0 300 y300_4) _ _ ls hw ⟨y300_4, rfl, ⟨trivial, (Kd_tr Kd_rf (Kd_mono kf4_ (by decide)))⟩⟩ dX1_weaken_39
  · refine j_aload_n E 13 rfl dX1_weaken_12 rfl (lv_at hl 1 rfl) ?_
    refine j_iload_n E 14 rfl dX1_weaken_13 rfl (lv_at hl 2 rfl) ?_
    refine j_aload_n E 15 rfl dX1_weaken_14 rfl (lv_at hl 1 rfl) ?_
    refine j_iload_n E 16 rfl dX1_weaken_15 rfl (lv_at hl 2 rfl) ?_
    refine kV_i E (c_X1_wordingOf l D cy T (v_0) o v_l  t_o r_v_l ) mt_X1_wordingOf ml_X1_57 hK hw (cw_rc2 hK hw.1 t_o) hA ⟨Nat.le_of_ble_eq_true rfl, Nat.le_of_ble_eq_true rfl⟩ ⟨Nat.le_of_ble_eq_true rfl, Nat.le_of_ble_eq_true rfl⟩ (As := [.int (J v_l)]) (rest := [.int (J v_l), .ref o]) rfl rfl hl.1 (Nat.le_of_ble_eq_true rfl) 19 rfl dX1_weaken_16 (fun zz5_ v_5 H locs rr5_ hq5_ hw => ?_)
    obtain ⟨ev5_, hh5_⟩ := hq5_
    rw [ev5_] at hw; clear ev5_
    refine j_iload_n E 20 rfl dX1_weaken_19 rfl (lv_at hl 0 rfl) ?_
    refine j_aload_n E 21 rfl dX1_weaken_20 rfl (lv_at hl 1 rfl) ?_
    refine j_iload_n E 22 rfl dX1_weaken_21 rfl (lv_at hl 2 rfl) ?_
    refine kV_i E (c_X1_sourceOf l D cy T (v_0) o v_l  t_o r_v_l ) mt_X1_sourceOf ml_X1_60 hK hw (cw_rc2 hK hw.1 t_o) hA ⟨Nat.le_of_ble_eq_true rfl, Nat.le_of_ble_eq_true rfl⟩ ⟨Nat.le_of_ble_eq_true rfl, Nat.le_of_ble_eq_true rfl⟩ (As := [.int (J v_l)]) (rest := [.int (J zz2_), .int (J zz5_), .int (J v_l), .ref o]) rfl rfl hl.1 (Nat.le_of_ble_eq_true rfl) 25 rfl dX1_weaken_22 (fun zz6_ v_6 H locs rr6_ hq6_ hw => ?_)
    obtain ⟨ev6_, hh6_⟩ := hq6_
    rw [ev6_] at hw; clear ev6_
    refine kV_v E (c_X1_learn l D cy T (v_0) o v_l zz5_ zz2_ zz6_  t_o r_v_l rr5_ rr2_ rr6_ ) mt_X1_learn ml_X1_63 hK hw (cw_rc2 hK hw.1 t_o) hA ⟨Nat.le_of_ble_eq_true rfl, Nat.le_of_ble_eq_true rfl⟩ ⟨Nat.le_of_ble_eq_true rfl, Nat.le_of_ble_eq_true rfl⟩ (As := [.int (J v_l), .int (J zz5_), .int (J zz2_), .int (J zz6_)]) (rest := []) rfl rfl hl.1 (Nat.le_of_ble_eq_true rfl) 28 rfl dX1_weaken_25 (fun v_7 H locs hq7_ hw => ?_)
    obtain ⟨y300_7, ev7_, hh7_⟩ := hq7_
    rw [ev7_] at hw; clear ev7_
    have hw : WK D cy T (upV v_0 300 y300_7) A0 H0 H locs := cw_eq hw (by first | rfl | (funext j_; simp only [upV, reduceIte]; (repeat' split) <;> first | rfl | omega | (subst_vars; rfl)))
    obtain ⟨hh7_, kf7_⟩ := hh7_
    refine j_goto E 39 dX1_weaken_28 (by decide) ?_
    exact hret 39 (upV v_0 300 y300_7) _ _ ls hw ⟨y300_7, rfl, ⟨trivial, (Kd_tr Kd_rf (Kd_mono kf7_ (by decide)))⟩⟩ dX1_weaken_39
set_option maxHeartbeats 4000000 in
set_option maxRecDepth 100000 in
theorem c_X0_isDead (l : Launch) (D : va_G) (cy : Nat → ClassId) (T : Nat → Nat → Nat) (v_0 : Nat → Nat → Int) (o : Nat) (t_o : T 0 o = 1) : KC l D cy T yX0_isDead cX0_isDead 1 (some .boolean) 1 [.ref o] v_0 (KI (fun (z_0 : Int) (v_2 : Nat → Nat → Int) => v_2 = v_0 ∧ ((z_0 = 1 ∧ ¬ (v_0 23 o) = -1) ∨ (z_0 = 0 ∧ (v_0 23 o) = -1)))) := by
  refine KC.ofz (by decide) (Nat.le_of_ble_eq_true rfl) ?_
  intro p e s m below meth c ls ar QW A0 H0 H locs E hK hA hw hl hret
  have hl : lv_has ls 1 [(0, .ref o)] := hl
  have hT : WT T := hw.1.2.1
  refine j_aload_n E 1 rfl dX0_isDead_0 rfl (lv_at hl 0 rfl) ?_
  refine g_23 E hK hw fl_X0_15 t_o (v_0 23 o) rfl 4 rfl dX0_isDead_1 (fun rr1_ => ?_)
  refine j_iconst E 5 rfl dX0_isDead_4 ?_
  refine j_icmp_eq E 8 12 rfl rr1_ (rr (by decide)) dX0_isDead_5 (by decide) (fun cc2_ => ?_) (fun cc2_ => ?_)
  · refine j_iconst E 13 rfl dX0_isDead_12 ?_
    exact hret 13 0 (v_0) _ _ ls hw (Or.inl rfl) ⟨rfl, by omega⟩ dX0_isDead_13
  · refine j_iconst E 9 rfl dX0_isDead_8 ?_
    refine j_goto E 13 dX0_isDead_9 (by decide) ?_
    exact hret 13 1 (v_0) _ _ ls hw (Or.inr rfl) ⟨rfl, by omega⟩ dX0_isDead_13
set_option maxHeartbeats 4000000 in
set_option maxRecDepth 100000 in
theorem c_X0_setVoice (l : Launch) (D : va_G) (cy : Nat → ClassId) (T : Nat → Nat → Nat) (v_0 : Nat → Nat → Int) (o : Nat) (v_k : Int) (v_w : Int) (t_o : T 0 o = 1) (r_v_k : inR v_k) (r_v_w : inR v_w) : KC l D cy T yX0_setVoice cX0_setVoice 3 none 1 [.ref o, .int (J v_k), .int (J v_w)] v_0 (KV (fun (v_2 : Nat → Nat → Int) => ∃ (y302_2 : Nat → Int) , v_2 = upV v_0 302 y302_2 ∧ (True))) := by
  refine KC.ofv (by decide) (Nat.le_of_ble_eq_true rfl) ?_
  intro p e s m below meth c ls ar QW A0 H0 H locs E hK hA hw hl hret
  have hl : lv_has ls 3 [(0, .ref o), (1, .int (J v_k)), (2, .int (J v_w))] := hl
  have hT : WT T := hw.1.2.1
  refine j_iload_n E 1 rfl dX0_setVoice_0 rfl (lv_at hl 1 rfl) ?_
  refine j_if_lt E 4 21 rfl r_v_k dX0_setVoice_1 (by decide) (fun cc1_ => ?_) (fun cc1_ => ?_)
  · exact hret 21 (upV v_0 302 (v_0 302)) _ _ ls (cw_eq hw (by first | rfl | (funext j_; simp only [upV, reduceIte]; (repeat' split) <;> first | rfl | omega | (subst_vars; rfl)))) ⟨(v_0 302), rfl, trivial⟩ dX0_setVoice_21
  · refine j_iload_n E 5 rfl dX0_setVoice_4 rfl (lv_at hl 1 rfl) ?_
    refine j_aload_n E 6 rfl dX0_setVoice_5 rfl (lv_at hl 0 rfl) ?_
    refine g_26 E hK hw fl_X0_24 t_o 9 rfl dX0_setVoice_6 ?_
    have ln2_ := wl_26 hT t_o
    refine a_ln22 E hK hw (wt_26 hT t_o) 10 rfl dX0_setVoice_9 (fun rr3_ => ?_)
    refine j_icmp_ge E 13 21 rfl r_v_k rr3_ dX0_setVoice_10 (by decide) (fun cc4_ => ?_) (fun cc4_ => ?_)
    · exact hret 21 (upV v_0 302 (v_0 302)) _ _ ls (cw_eq hw (by first | rfl | (funext j_; simp only [upV, reduceIte]; (repeat' split) <;> first | rfl | omega | (subst_vars; rfl)))) ⟨(v_0 302), rfl, trivial⟩ dX0_setVoice_21
    · refine j_aload_n E 14 rfl dX0_setVoice_13 rfl (lv_at hl 0 rfl) ?_
      refine g_26 E hK hw fl_X0_24 t_o 17 rfl dX0_setVoice_14 ?_
      refine j_iload_n E 18 rfl dX0_setVoice_17 rfl (lv_at hl 1 rfl) ?_
      refine j_iload_n E 19 rfl dX0_setVoice_18 rfl (lv_at hl 2 rfl) ?_
      refine j_i2b E 20 rfl dX0_setVoice_19 (fun zz5_ rr5_ ee5_ => ?_)
      obtain ⟨zz6_, rr6_, en6_⟩ := J_ex (vp_nar .byte (J zz5_))
      refine a_st22 E hK hw (wt_26 hT t_o) en6_ rr6_ (by omega) 21 rfl dX0_setVoice_20 (fun H locs hw => ?_)
      have hw : WK D cy T (upV v_0 302 (upB (v_0 302) ((pr (T 26 o) (Int.toNat v_k))) zz6_)) A0 H0 H locs := cw_eq hw (by first | rfl | (funext j_; simp only [upV, reduceIte]; (repeat' split) <;> first | rfl | omega | (subst_vars; rfl)))
      exact hret 21 (upV v_0 302 (upB (v_0 302) ((pr (T 26 o) (Int.toNat v_k))) zz6_)) _ _ ls hw ⟨(upB (v_0 302) ((pr (T 26 o) (Int.toNat v_k))) zz6_), rfl, trivial⟩ dX0_setVoice_21
set_option maxHeartbeats 4000000 in
set_option maxRecDepth 100000 in
theorem c_X0_fallSilent (l : Launch) (D : va_G) (cy : Nat → ClassId) (T : Nat → Nat → Nat) (v_0 : Nat → Nat → Int) (o : Nat) (v_k : Int) (t_o : T 0 o = 1) (r_v_k : inR v_k) : KC l D cy T yX0_fallSilent cX0_fallSilent 2 none 2 [.ref o, .int (J v_k)] v_0 (KV (fun (v_2 : Nat → Nat → Int) => ∃ (y22_2 : Nat → Int) (y23_2 : Nat → Int) (y302_2 : Nat → Int) , v_2 = upV (upV (upV v_0 22 y22_2) 23 y23_2) 302 y302_2 ∧ (True))) := by
  refine KC.ofv (by decide) (Nat.le_of_ble_eq_true rfl) ?_
  intro p e s m below meth c ls ar QW A0 H0 H locs E hK hA hw hl hret
  have hl : lv_has ls 2 [(0, .ref o), (1, .int (J v_k))] := hl
  have hT : WT T := hw.1.2.1
  refine j_aload_n E 1 rfl dX0_fallSilent_0 rfl (lv_at hl 0 rfl) ?_
  refine j_iload_n E 2 rfl dX0_fallSilent_1 rfl (lv_at hl 1 rfl) ?_
  refine j_iconst E 3 rfl dX0_fallSilent_2 ?_
  refine kV_v E (c_X0_setVoice l D cy T (v_0) o v_k ((-1))  t_o r_v_k (rr (by decide)) ) mt_X0_setVoice ml_X0_41 hK hw (cw_rc1 hK hw.1 t_o) hA ⟨Nat.le_of_ble_eq_true rfl, Nat.le_of_ble_eq_true rfl⟩ ⟨Nat.le_of_ble_eq_true rfl, Nat.le_of_ble_eq_true rfl⟩ (As := [.int (J v_k), .int (J ((-1)))]) (rest := []) rfl rfl hl.1 (Nat.le_of_ble_eq_true rfl) 6 rfl dX0_fallSilent_3 (fun v_1 H locs hq1_ hw => ?_)
  obtain ⟨y302_1, ev1_, hh1_⟩ := hq1_
  rw [ev1_] at hw; clear ev1_
  have hw : WK D cy T (upV v_0 302 y302_1) A0 H0 H locs := cw_eq hw (by first | rfl | (funext j_; simp only [upV, reduceIte]; (repeat' split) <;> first | rfl | omega | (subst_vars; rfl)))
  refine j_aload_n E 7 rfl dX0_fallSilent_6 rfl (lv_at hl 0 rfl) ?_
  refine j_dup E 8 rfl dX0_fallSilent_7 rfl ?_
  refine g_22 E hK hw fl_X0_9 t_o (v_0 22 o) rfl 11 rfl dX0_fallSilent_8 (fun rr2_ => ?_)
  refine j_iconst E 12 rfl dX0_fallSilent_11 ?_
  refine j_iadd E 13 rfl dX0_fallSilent_12 ?_
  refine j_norm (fun zz3_ rr3_ ee3_ => ?_)
  refine p_22 E hK hw fl_X0_9 t_o rr3_ 16 rfl dX0_fallSilent_13 (fun H locs hw => ?_)
  have hw : WK D cy T (upV (upV v_0 22 (upB (v_0 22) o zz3_)) 302 y302_1) A0 H0 H locs := cw_eq hw (by first | rfl | (funext j_; simp only [upV, reduceIte]; (repeat' split) <;> first | rfl | omega | (subst_vars; rfl)))
  refine j_aload_n E 17 rfl dX0_fallSilent_16 rfl (lv_at hl 0 rfl) ?_
  refine g_22 E hK hw fl_X0_9 t_o zz3_ (upB_same _ _ _) 20 rfl dX0_fallSilent_17 (fun _ => ?_)
  refine j_iconst E 21 rfl dX0_fallSilent_20 ?_
  refine j_icmp_lt E 24 29 rfl rr3_ (rr (by decide)) dX0_fallSilent_21 (by decide) (fun cc5_ => ?_) (fun cc5_ => ?_)
  · exact hret 29 (upV (upV (upV v_0 22 (upB (v_0 22) o zz3_)) 23 (v_0 23)) 302 y302_1) _ _ ls (cw_eq hw (by first | rfl | (funext j_; simp only [upV, reduceIte]; (repeat' split) <;> first | rfl | omega | (subst_vars; rfl)))) ⟨(upB (v_0 22) o zz3_), (v_0 23), y302_1, rfl, trivial⟩ dX0_fallSilent_29
  · refine j_aload_n E 25 rfl dX0_fallSilent_24 rfl (lv_at hl 0 rfl) ?_
    refine j_iload_n E 26 rfl dX0_fallSilent_25 rfl (lv_at hl 1 rfl) ?_
    refine p_23 E hK hw fl_X0_15 t_o r_v_k 29 rfl dX0_fallSilent_26 (fun H locs hw => ?_)
    have hw : WK D cy T (upV (upV (upV v_0 22 (upB (v_0 22) o zz3_)) 23 (upB (v_0 23) o v_k)) 302 y302_1) A0 H0 H locs := cw_eq hw (by first | rfl | (funext j_; simp only [upV, reduceIte]; (repeat' split) <;> first | rfl | omega | (subst_vars; rfl)))
    exact hret 29 (upV (upV (upV v_0 22 (upB (v_0 22) o zz3_)) 23 (upB (v_0 23) o v_k)) 302 y302_1) _ _ ls hw ⟨(upB (v_0 22) o zz3_), (upB (v_0 23) o v_k), y302_1, rfl, trivial⟩ dX0_fallSilent_29
set_option maxHeartbeats 4000000 in
set_option maxRecDepth 100000 in
theorem c_X0_sayAloud (l : Launch) (D : va_G) (cy : Nat → ClassId) (T : Nat → Nat → Nat) (v_0 : Nat → Nat → Int) (o : Nat) (v_k : Int) (v_w : Int) (t_o : T 0 o = 1) (r_v_k : inR v_k) (r_v_w : inR v_w) : KC l D cy T yX0_sayAloud cX0_sayAloud 3 none 2 [.ref o, .int (J v_k), .int (J v_w)] v_0 (KV (fun (v_2 : Nat → Nat → Int) => ∃ (y22_2 : Nat → Int) (y24_2 : Nat → Int) (y302_2 : Nat → Int) , v_2 = upV (upV (upV v_0 22 y22_2) 24 y24_2) 302 y302_2 ∧ (True))) := by
  refine KC.ofv (by decide) (Nat.le_of_ble_eq_true rfl) ?_
  intro p e s m below meth c ls ar QW A0 H0 H locs E hK hA hw hl hret
  have hl : lv_has ls 3 [(0, .ref o), (1, .int (J v_k)), (2, .int (J v_w))] := hl
  have hT : WT T := hw.1.2.1
  refine j_aload_n E 1 rfl dX0_sayAloud_0 rfl (lv_at hl 0 rfl) ?_
  refine j_iload_n E 2 rfl dX0_sayAloud_1 rfl (lv_at hl 1 rfl) ?_
  refine j_iload_n E 3 rfl dX0_sayAloud_2 rfl (lv_at hl 2 rfl) ?_
  refine kV_v E (c_X0_setVoice l D cy T (v_0) o v_k v_w  t_o r_v_k r_v_w ) mt_X0_setVoice ml_X0_41 hK hw (cw_rc1 hK hw.1 t_o) hA ⟨Nat.le_of_ble_eq_true rfl, Nat.le_of_ble_eq_true rfl⟩ ⟨Nat.le_of_ble_eq_true rfl, Nat.le_of_ble_eq_true rfl⟩ (As := [.int (J v_k), .int (J v_w)]) (rest := []) rfl rfl hl.1 (Nat.le_of_ble_eq_true rfl) 6 rfl dX0_sayAloud_3 (fun v_1 H locs hq1_ hw => ?_)
  obtain ⟨y302_1, ev1_, hh1_⟩ := hq1_
  rw [ev1_] at hw; clear ev1_
  have hw : WK D cy T (upV v_0 302 y302_1) A0 H0 H locs := cw_eq hw (by first | rfl | (funext j_; simp only [upV, reduceIte]; (repeat' split) <;> first | rfl | omega | (subst_vars; rfl)))
  refine j_aload_n E 7 rfl dX0_sayAloud_6 rfl (lv_at hl 0 rfl) ?_
  refine j_iconst E 8 rfl dX0_sayAloud_7 ?_
  refine p_22 E hK hw fl_X0_9 t_o (rr (by decide)) 11 rfl dX0_sayAloud_8 (fun H locs hw => ?_)
  have hw : WK D cy T (upV (upV v_0 22 (upB (v_0 22) o 0)) 302 y302_1) A0 H0 H locs := cw_eq hw (by first | rfl | (funext j_; simp only [upV, reduceIte]; (repeat' split) <;> first | rfl | omega | (subst_vars; rfl)))
  refine j_aload_n E 12 rfl dX0_sayAloud_11 rfl (lv_at hl 0 rfl) ?_
  refine j_dup E 13 rfl dX0_sayAloud_12 rfl ?_
  refine g_24 E hK hw fl_X0_18 t_o (v_0 24 o) rfl 16 rfl dX0_sayAloud_13 (fun rr3_ => ?_)
  refine j_iconst E 17 rfl dX0_sayAloud_16 ?_
  refine j_iadd E 18 rfl dX0_sayAloud_17 ?_
  refine j_norm (fun zz4_ rr4_ ee4_ => ?_)
  refine p_24 E hK hw fl_X0_18 t_o rr4_ 21 rfl dX0_sayAloud_18 (fun H locs hw => ?_)
  have hw : WK D cy T (upV (upV (upV v_0 22 (upB (v_0 22) o 0)) 24 (upB (v_0 24) o zz4_)) 302 y302_1) A0 H0 H locs := cw_eq hw (by first | rfl | (funext j_; simp only [upV, reduceIte]; (repeat' split) <;> first | rfl | omega | (subst_vars; rfl)))
  exact hret 21 (upV (upV (upV v_0 22 (upB (v_0 22) o 0)) 24 (upB (v_0 24) o zz4_)) 302 y302_1) _ _ ls hw ⟨(upB (v_0 22) o 0), (upB (v_0 24) o zz4_), y302_1, rfl, trivial⟩ dX0_sayAloud_21
set_option maxHeartbeats 4000000 in
set_option maxRecDepth 100000 in
theorem c_X0_voiceIn (l : Launch) (D : va_G) (cy : Nat → ClassId) (T : Nat → Nat → Nat) (v_0 : Nat → Nat → Int) (o : Nat) (v_k : Int) (t_o : T 0 o = 1) (r_v_k : inR v_k) : KC l D cy T yX0_voiceIn cX0_voiceIn 2 (some .int) 1 [.ref o, .int (J v_k)] v_0 (KI (fun (z_0 : Int) (v_2 : Nat → Nat → Int) => v_2 = v_0 ∧ (True))) := by
  refine KC.ofi (by decide) (Nat.le_of_ble_eq_true rfl) ?_
  intro p e s m below meth c ls ar QW A0 H0 H locs E hK hA hw hl hret
  have hl : lv_has ls 2 [(0, .ref o), (1, .int (J v_k))] := hl
  have hT : WT T := hw.1.2.1
  refine j_iload_n E 1 rfl dX0_voiceIn_0 rfl (lv_at hl 1 rfl) ?_
  refine j_if_lt E 4 22 rfl r_v_k dX0_voiceIn_1 (by decide) (fun cc1_ => ?_) (fun cc1_ => ?_)
  · refine j_bipush E 24 rfl dX0_voiceIn_22 (by decide) ?_
    exact hret 24 ((-2)) (v_0) _ _ ls hw (rr (by decide)) ⟨rfl, trivial⟩ dX0_voiceIn_24
  · refine j_iload_n E 5 rfl dX0_voiceIn_4 rfl (lv_at hl 1 rfl) ?_
    refine j_aload_n E 6 rfl dX0_voiceIn_5 rfl (lv_at hl 0 rfl) ?_
    refine g_26 E hK hw fl_X0_24 t_o 9 rfl dX0_voiceIn_6 ?_
    have ln2_ := wl_26 hT t_o
    refine a_ln22 E hK hw (wt_26 hT t_o) 10 rfl dX0_voiceIn_9 (fun rr3_ => ?_)
    refine j_icmp_ge E 13 22 rfl r_v_k rr3_ dX0_voiceIn_10 (by decide) (fun cc4_ => ?_) (fun cc4_ => ?_)
    · refine j_bipush E 24 rfl dX0_voiceIn_22 (by decide) ?_
      exact hret 24 ((-2)) (v_0) _ _ ls hw (rr (by decide)) ⟨rfl, trivial⟩ dX0_voiceIn_24
    · refine j_aload_n E 14 rfl dX0_voiceIn_13 rfl (lv_at hl 0 rfl) ?_
      refine g_26 E hK hw fl_X0_24 t_o 17 rfl dX0_voiceIn_14 ?_
      refine j_iload_n E 18 rfl dX0_voiceIn_17 rfl (lv_at hl 1 rfl) ?_
      refine a_ld22 E hK hw (wt_26 hT t_o) (by omega) 19 rfl dX0_voiceIn_18 (fun zz5_ he5_ rr5_ => ?_)
      refine j_goto E 24 dX0_voiceIn_19 (by decide) ?_
      exact hret 24 zz5_ (v_0) _ _ ls hw rr5_ ⟨rfl, trivial⟩ dX0_voiceIn_24
set_option maxHeartbeats 4000000 in
set_option maxRecDepth 100000 in
theorem c_X0_lawAt (l : Launch) (D : va_G) (cy : Nat → ClassId) (T : Nat → Nat → Nat) (v_0 : Nat → Nat → Int) (o : Nat) (v_k : Int) (t_o : T 0 o = 1) (r_v_k : inR v_k) (hp0 : v_k < 200) : KC l D cy T yX0_lawAt cX0_lawAt 3 (some .int) 2 [.ref o, .int (J v_k)] v_0 (KI (fun (z_0 : Int) (v_2 : Nat → Nat → Int) => v_2 = v_0 ∧ (Lw_ ((v_0 23 o)) (gC_ (v_0 302) (T 26 o)) v_k z_0))) := by
  refine KC.ofi (by decide) (Nat.le_of_ble_eq_true rfl) ?_
  intro p e s m below meth c ls ar QW A0 H0 H locs E hK hA hw hl hret
  have hl : lv_has ls 3 [(0, .ref o), (1, .int (J v_k))] := hl
  have hT : WT T := hw.1.2.1
  refine j_aload_n E 1 rfl dX0_lawAt_0 rfl (lv_at hl 0 rfl) ?_
  refine kV_i E (c_X0_isDead l D cy T (v_0) o  t_o  ) mt_X0_isDead ml_X0_45 hK hw (cw_rc1 hK hw.1 t_o) hA ⟨Nat.le_of_ble_eq_true rfl, Nat.le_of_ble_eq_true rfl⟩ ⟨Nat.le_of_ble_eq_true rfl, Nat.le_of_ble_eq_true rfl⟩ (As := []) (rest := []) rfl rfl hl.1 (Nat.le_of_ble_eq_true rfl) 4 rfl dX0_lawAt_1 (fun zz1_ v_1 H locs rr1_ hq1_ hw => ?_)
  obtain ⟨ev1_, hh1_⟩ := hq1_
  rw [ev1_] at hw; clear ev1_
  replace hh1_ : (zz1_ = 1 ∧ ¬ ((v_0 23) o) = -1) ∨ (zz1_ = 0 ∧ ((v_0 23) o) = -1) := hh1_
  refine j_if_eq E 7 17 rfl rr1_ dX0_lawAt_4 (by decide) (fun cc2_ => ?_) (fun cc2_ => ?_)
  · refine j_iload_n E 18 rfl dX0_lawAt_17 rfl (lv_at hl 1 rfl) ?_
    refine j_aload_n E 19 rfl dX0_lawAt_18 rfl (lv_at hl 0 rfl) ?_
    refine g_26 E hK hw fl_X0_24 t_o 22 rfl dX0_lawAt_19 ?_
    have ln3_ := wl_26 hT t_o
    refine a_ln22 E hK hw (wt_26 hT t_o) 23 rfl dX0_lawAt_22 (fun rr4_ => ?_)
    refine j_iconst E 24 rfl dX0_lawAt_23 ?_
    refine j_isub E 25 rfl dX0_lawAt_24 ?_
    refine j_min E hl.1 ml_X0_49 r_v_k (rr (by omega)) ⟨Nat.le_of_ble_eq_true rfl, Nat.le_of_ble_eq_true rfl⟩ ⟨Nat.le_of_ble_eq_true rfl, Nat.le_of_ble_eq_true rfl⟩ 28 rfl dX0_lawAt_25 (fun zz5_ rr5_ hh5_ => ?_)
    refine j_istore_n E 29 rfl [(2, .int (J zz5_)), (0, .ref o), (1, .int (J v_k))] dX0_lawAt_28 rfl hl (by decide) rfl (fun ls hl => ?_)
    have L29_6 : ∀ (k29 : Nat) (l2_29 : Int) (H : Heap) (locs : List Loc) (ls : Array Slot), inR l2_29 → ((l2_29 ≤ v_k ∧ l2_29 < 200) ∧ ¬ (¬ (v_0 23 o) = -1 ∧ (v_0 23 o) ≤ v_k) ∧ ∀ t_, l2_29 < t_ → t_ ≤ v_k → gC_ (v_0 302) (T 26 o) t_ < 0) → (l2_29 + 1).toNat < k29 → WK D cy T (v_0) A0 H0 H locs → lv_has ls 3 [(0, .ref o), (1, .int (J v_k)), (2, .int (J l2_29))] → W p l e (rmd 2 0 0) s m ar below meth c H locs 0 0 QW (F0 m 29 ls []) := by
      intro k29
      induction k29 with
      | zero =>
        intro l2_29 H locs ls r_l2_29 iv29 ms29 hw hl
        exact absurd ms29 (Nat.not_lt_zero _)
      | succ k29 ih29 =>
        intro l2_29 H locs ls r_l2_29 iv29 ms29 hw hl
        refine j_iload_n E 30 rfl dX0_lawAt_29 rfl (lv_at hl 2 rfl) ?_
        refine j_if_lt E 33 55 rfl r_l2_29 dX0_lawAt_30 (by decide) (fun cc8_ => ?_) (fun cc8_ => ?_)
        · refine j_iconst E 56 rfl dX0_lawAt_55 ?_
          exact hret 56 ((-1)) (v_0) _ _ ls hw (rr (by decide)) ⟨rfl, show Lw_ _ _ _ _ from Or.inr ⟨iv29.2.1, Or.inl ⟨rfl, fun t_ h1_ h2_ => iv29.2.2 t_ (by omega) h2_⟩⟩⟩ dX0_lawAt_56
        · refine j_aload_n E 34 rfl dX0_lawAt_33 rfl (lv_at hl 0 rfl) ?_
          refine g_26 E hK hw fl_X0_24 t_o 37 rfl dX0_lawAt_34 ?_
          refine j_iload_n E 38 rfl dX0_lawAt_37 rfl (lv_at hl 2 rfl) ?_
          refine a_ld22 E hK hw (wt_26 hT t_o) (by omega) 39 rfl dX0_lawAt_38 (fun zz9_ he9_ rr9_ => ?_)
          have he9_ : zz9_ = v_0 302 (pr (T 26 o) (Int.toNat l2_29)) := he9_
          have he_ : zz9_ = gC_ (v_0 302) (T 26 o) l2_29 := he9_
          refine j_if_lt E 42 49 rfl rr9_ dX0_lawAt_39 (by decide) (fun cc10_ => ?_) (fun cc10_ => ?_)
          · refine j_iinc E 52 rfl [(2, .int (J (l2_29 + (-1)))), (0, .ref o), (1, .int (J v_k))] dX0_lawAt_49 hl (kk := 2) rfl (by decide) rfl (fun ls hl => ?_)
            refine j_goto E 29 dX0_lawAt_52 (by decide) ?_
            exact ih29 (l2_29 + (-1))  H locs ls (rr (by omega)) (⟨by omega, iv29.2.1, fun t_ h1_ h2_ => by by_cases q_ : t_ = l2_29; (rw [q_]; omega); exact iv29.2.2 t_ (by omega) h2_⟩) (by omega) hw (lv_sub hl [1, 2, 0] rfl)
          · refine j_aload_n E 43 rfl dX0_lawAt_42 rfl (lv_at hl 0 rfl) ?_
            refine g_26 E hK hw fl_X0_24 t_o 46 rfl dX0_lawAt_43 ?_
            refine j_iload_n E 47 rfl dX0_lawAt_46 rfl (lv_at hl 2 rfl) ?_
            refine a_ld22 E hK hw (wt_26 hT t_o) (by omega) 48 rfl dX0_lawAt_47 (fun zz11_ he11_ rr11_ => ?_)
            have he11_ : zz11_ = v_0 302 (pr (T 26 o) (Int.toNat l2_29)) := he11_
            have hf_ : zz11_ = gC_ (v_0 302) (T 26 o) l2_29 := he11_
            exact hret 48 zz11_ (v_0) _ _ ls hw rr11_ ⟨rfl, show Lw_ _ _ _ _ from Or.inr ⟨iv29.2.1, Or.inr ⟨by omega, l2_29, by omega, by omega, hf_, iv29.2.2⟩⟩⟩ dX0_lawAt_48
    exact L29_6 _ zz5_  H locs ls rr5_ (⟨by omega, by omega, fun t_ h1_ h2_ => absurd h2_ (by omega)⟩) (Nat.lt_succ_self _) hw (lv_sub hl [1, 2, 0] rfl)
  · refine j_aload_n E 8 rfl dX0_lawAt_7 rfl (lv_at hl 0 rfl) ?_
    refine g_23 E hK hw fl_X0_15 t_o (v_0 23 o) rfl 11 rfl dX0_lawAt_8 (fun rr12_ => ?_)
    refine j_iload_n E 12 rfl dX0_lawAt_11 rfl (lv_at hl 1 rfl) ?_
    refine j_icmp_gt E 15 17 rfl rr12_ r_v_k dX0_lawAt_12 (by decide) (fun cc13_ => ?_) (fun cc13_ => ?_)
    · refine j_iload_n E 18 rfl dX0_lawAt_17 rfl (lv_at hl 1 rfl) ?_
      refine j_aload_n E 19 rfl dX0_lawAt_18 rfl (lv_at hl 0 rfl) ?_
      refine g_26 E hK hw fl_X0_24 t_o 22 rfl dX0_lawAt_19 ?_
      have ln14_ := wl_26 hT t_o
      refine a_ln22 E hK hw (wt_26 hT t_o) 23 rfl dX0_lawAt_22 (fun rr15_ => ?_)
      refine j_iconst E 24 rfl dX0_lawAt_23 ?_
      refine j_isub E 25 rfl dX0_lawAt_24 ?_
      refine j_min E hl.1 ml_X0_49 r_v_k (rr (by omega)) ⟨Nat.le_of_ble_eq_true rfl, Nat.le_of_ble_eq_true rfl⟩ ⟨Nat.le_of_ble_eq_true rfl, Nat.le_of_ble_eq_true rfl⟩ 28 rfl dX0_lawAt_25 (fun zz16_ rr16_ hh16_ => ?_)
      refine j_istore_n E 29 rfl [(2, .int (J zz16_)), (0, .ref o), (1, .int (J v_k))] dX0_lawAt_28 rfl hl (by decide) rfl (fun ls hl => ?_)
      have L29_17 : ∀ (k29 : Nat) (l2_29 : Int) (H : Heap) (locs : List Loc) (ls : Array Slot), inR l2_29 → ((l2_29 ≤ v_k ∧ l2_29 < 200) ∧ ¬ (¬ (v_0 23 o) = -1 ∧ (v_0 23 o) ≤ v_k) ∧ ∀ t_, l2_29 < t_ → t_ ≤ v_k → gC_ (v_0 302) (T 26 o) t_ < 0) → (l2_29 + 1).toNat < k29 → WK D cy T (v_0) A0 H0 H locs → lv_has ls 3 [(0, .ref o), (1, .int (J v_k)), (2, .int (J l2_29))] → W p l e (rmd 2 0 0) s m ar below meth c H locs 0 0 QW (F0 m 29 ls []) := by
        intro k29
        induction k29 with
        | zero =>
          intro l2_29 H locs ls r_l2_29 iv29 ms29 hw hl
          exact absurd ms29 (Nat.not_lt_zero _)
        | succ k29 ih29 =>
          intro l2_29 H locs ls r_l2_29 iv29 ms29 hw hl
          refine j_iload_n E 30 rfl dX0_lawAt_29 rfl (lv_at hl 2 rfl) ?_
          refine j_if_lt E 33 55 rfl r_l2_29 dX0_lawAt_30 (by decide) (fun cc19_ => ?_) (fun cc19_ => ?_)
          · refine j_iconst E 56 rfl dX0_lawAt_55 ?_
            exact hret 56 ((-1)) (v_0) _ _ ls hw (rr (by decide)) ⟨rfl, show Lw_ _ _ _ _ from Or.inr ⟨iv29.2.1, Or.inl ⟨rfl, fun t_ h1_ h2_ => iv29.2.2 t_ (by omega) h2_⟩⟩⟩ dX0_lawAt_56
          · refine j_aload_n E 34 rfl dX0_lawAt_33 rfl (lv_at hl 0 rfl) ?_
            refine g_26 E hK hw fl_X0_24 t_o 37 rfl dX0_lawAt_34 ?_
            refine j_iload_n E 38 rfl dX0_lawAt_37 rfl (lv_at hl 2 rfl) ?_
            refine a_ld22 E hK hw (wt_26 hT t_o) (by omega) 39 rfl dX0_lawAt_38 (fun zz20_ he20_ rr20_ => ?_)
            have he20_ : zz20_ = v_0 302 (pr (T 26 o) (Int.toNat l2_29)) := he20_
            have he_ : zz20_ = gC_ (v_0 302) (T 26 o) l2_29 := he20_
            refine j_if_lt E 42 49 rfl rr20_ dX0_lawAt_39 (by decide) (fun cc21_ => ?_) (fun cc21_ => ?_)
            · refine j_iinc E 52 rfl [(2, .int (J (l2_29 + (-1)))), (0, .ref o), (1, .int (J v_k))] dX0_lawAt_49 hl (kk := 2) rfl (by decide) rfl (fun ls hl => ?_)
              refine j_goto E 29 dX0_lawAt_52 (by decide) ?_
              exact ih29 (l2_29 + (-1))  H locs ls (rr (by omega)) (⟨by omega, iv29.2.1, fun t_ h1_ h2_ => by by_cases q_ : t_ = l2_29; (rw [q_]; omega); exact iv29.2.2 t_ (by omega) h2_⟩) (by omega) hw (lv_sub hl [1, 2, 0] rfl)
            · refine j_aload_n E 43 rfl dX0_lawAt_42 rfl (lv_at hl 0 rfl) ?_
              refine g_26 E hK hw fl_X0_24 t_o 46 rfl dX0_lawAt_43 ?_
              refine j_iload_n E 47 rfl dX0_lawAt_46 rfl (lv_at hl 2 rfl) ?_
              refine a_ld22 E hK hw (wt_26 hT t_o) (by omega) 48 rfl dX0_lawAt_47 (fun zz22_ he22_ rr22_ => ?_)
              have he22_ : zz22_ = v_0 302 (pr (T 26 o) (Int.toNat l2_29)) := he22_
              have hf_ : zz22_ = gC_ (v_0 302) (T 26 o) l2_29 := he22_
              exact hret 48 zz22_ (v_0) _ _ ls hw rr22_ ⟨rfl, show Lw_ _ _ _ _ from Or.inr ⟨iv29.2.1, Or.inr ⟨by omega, l2_29, by omega, by omega, hf_, iv29.2.2⟩⟩⟩ dX0_lawAt_48
      exact L29_17 _ zz16_  H locs ls rr16_ (⟨by omega, by omega, fun t_ h1_ h2_ => absurd h2_ (by omega)⟩) (Nat.lt_succ_self _) hw (lv_sub hl [1, 2, 0] rfl)
    · refine j_iconst E 16 rfl dX0_lawAt_15 ?_
      exact hret 16 ((-1)) (v_0) _ _ ls hw (rr (by decide)) ⟨rfl, show Lw_ _ _ _ _ from Or.inl ⟨by omega, by omega, rfl⟩⟩ dX0_lawAt_16
set_option maxHeartbeats 4000000 in
set_option maxRecDepth 100000 in
theorem c_X6_isOpen (l : Launch) (D : va_G) (cy : Nat → ClassId) (T : Nat → Nat → Nat) (v_0 : Nat → Nat → Int) (o : Nat) (t_o : T 0 o = 7) : KC l D cy T yX6_isOpen cX6_isOpen 1 (some .boolean) 1 [.ref o] v_0 (KI (fun (z_0 : Int) (v_2 : Nat → Nat → Int) => v_2 = v_0 ∧ (True))) := by
  refine KC.ofz (by decide) (Nat.le_of_ble_eq_true rfl) ?_
  intro p e s m below meth c ls ar QW A0 H0 H locs E hK hA hw hl hret
  have hl : lv_has ls 1 [(0, .ref o)] := hl
  have hT : WT T := hw.1.2.1
  refine j_aload_n E 1 rfl dX6_isOpen_0 rfl (lv_at hl 0 rfl) ?_
  refine g_146 E hK hw fl_X6_9 t_o (v_0 146 o) rfl 4 rfl dX6_isOpen_1 (fun rr1_ => ?_)
  refine j_if_ne E 7 18 rfl rr1_ dX6_isOpen_4 (by decide) (fun cc2_ => ?_) (fun cc2_ => ?_)
  · refine j_iconst E 19 rfl dX6_isOpen_18 ?_
    exact hret 19 0 (v_0) _ _ ls hw (Or.inl rfl) ⟨rfl, trivial⟩ dX6_isOpen_19
  · refine j_aload_n E 8 rfl dX6_isOpen_7 rfl (lv_at hl 0 rfl) ?_
    refine g_143 E hK hw fl_X6_25 t_o (v_0 143 o) rfl 11 rfl dX6_isOpen_8 (fun rr3_ => ?_)
    refine j_if_le E 14 18 rfl rr3_ dX6_isOpen_11 (by decide) (fun cc4_ => ?_) (fun cc4_ => ?_)
    · refine j_iconst E 19 rfl dX6_isOpen_18 ?_
      exact hret 19 0 (v_0) _ _ ls hw (Or.inl rfl) ⟨rfl, trivial⟩ dX6_isOpen_19
    · refine j_iconst E 15 rfl dX6_isOpen_14 ?_
      refine j_goto E 19 dX6_isOpen_15 (by decide) ?_
      exact hret 19 1 (v_0) _ _ ls hw (Or.inr rfl) ⟨rfl, trivial⟩ dX6_isOpen_19
set_option maxHeartbeats 4000000 in
set_option maxRecDepth 100000 in
theorem c_X6_partOf (l : Launch) (D : va_G) (cy : Nat → ClassId) (T : Nat → Nat → Nat) (v_0 : Nat → Nat → Int) (o : Nat) (v_r : Int) (t_o : T 0 o = 7) (r_v_r : inR v_r) : KC l D cy T yX6_partOf cX6_partOf 4 (some .int) 2 [.ref o, .int (J v_r)] v_0 (KI (fun (z_0 : Int) (v_2 : Nat → Nat → Int) => v_2 = v_0 ∧ (True))) := by
  refine KC.ofi (by decide) (Nat.le_of_ble_eq_true rfl) ?_
  intro p e s m below meth c ls ar QW A0 H0 H locs E hK hA hw hl hret
  have hl : lv_has ls 4 [(0, .ref o), (1, .int (J v_r))] := hl
  have hT : WT T := hw.1.2.1
  refine j_aload_n E 1 rfl dX6_partOf_0 rfl (lv_at hl 0 rfl) ?_
  refine g_145 E hK hw fl_X6_31 t_o (v_0 145 o) rfl 4 rfl dX6_partOf_1 (fun rr1_ => ?_)
  refine kS_i E (c_J6_bitCount_0f7a4 l D cy T (v_0) (v_0 145 o)   rr1_ ) ms_J6_bitCount_0f7a4 ml_X6_34 hK hw hA ⟨Nat.le_of_ble_eq_true rfl, Nat.le_of_ble_eq_true rfl⟩ ⟨Nat.le_of_ble_eq_true rfl, Nat.le_of_ble_eq_true rfl⟩ (As := [.int (J (v_0 145 o))]) (rest := []) rfl rfl hl.1 (Nat.le_of_ble_eq_true rfl) 7 rfl dX6_partOf_4 (fun zz2_ v_2 H locs rr2_ hq2_ hw => ?_)
  obtain ⟨ev2_, hh2_⟩ := hq2_
  rw [ev2_] at hw; clear ev2_
  refine j_istore_n E 8 rfl [(2, .int (J zz2_)), (0, .ref o), (1, .int (J v_r))] dX6_partOf_7 rfl hl (by decide) rfl (fun ls hl => ?_)
  have L24_3 : ∀ (s0_24 : Int) (H : Heap) (locs : List Loc) (ls : Array Slot), inR s0_24 → (True) → WK D cy T (v_0) A0 H0 H locs → lv_has ls 4 [(0, .ref o), (1, .int (J v_r)), (2, .int (J zz2_))] → W p l e (rmd 2 0 0) s m ar below meth c H locs 0 0 QW (F0 m 24 ls [.int (J s0_24)]) := by
    intro s0_24 H locs ls r_s0_24 iv24 hw hl
    refine j_istore_n E 25 rfl [(3, .int (J s0_24)), (0, .ref o), (1, .int (J v_r)), (2, .int (J zz2_))] dX6_partOf_24 rfl hl (by decide) rfl (fun ls hl => ?_)
    refine j_iload_n E 26 rfl dX6_partOf_25 rfl (lv_at hl 2 rfl) ?_
    refine j_aload_n E 27 rfl dX6_partOf_26 rfl (lv_at hl 1 rfl) ?_
    refine g_140 E hK hw fl_X6_15 t_o (v_0 140 o) rfl 30 rfl dX6_partOf_27 (fun rr5_ => ?_)
    refine j_icmp_ne E 33 42 rfl r_v_r rr5_ dX6_partOf_30 (by decide) (fun cc6_ => ?_) (fun cc6_ => ?_)
    · refine j_iload_n E 43 rfl dX6_partOf_42 rfl (lv_at hl 2 rfl) ?_
      refine j_if_lt E 46 67 rfl r_v_r dX6_partOf_43 (by decide) (fun cc7_ => ?_) (fun cc7_ => ?_)
      · refine j_iconst E 68 rfl dX6_partOf_67 ?_
        exact hret 68 0 (v_0) _ _ ls hw (rr (by decide)) ⟨rfl, trivial⟩ dX6_partOf_68
      · refine j_iload_n E 47 rfl dX6_partOf_46 rfl (lv_at hl 2 rfl) ?_
        refine j_bipush E 49 rfl dX6_partOf_47 (by decide) ?_
        refine j_icmp_ge E 52 67 rfl r_v_r (rr (by decide)) dX6_partOf_49 (by decide) (fun cc8_ => ?_) (fun cc8_ => ?_)
        · refine j_iconst E 68 rfl dX6_partOf_67 ?_
          exact hret 68 0 (v_0) _ _ ls hw (rr (by decide)) ⟨rfl, trivial⟩ dX6_partOf_68
        · refine j_aload_n E 53 rfl dX6_partOf_52 rfl (lv_at hl 1 rfl) ?_
          refine g_145 E hK hw fl_X6_31 t_o (v_0 145 o) rfl 56 rfl dX6_partOf_53 (fun _ => ?_)
          refine j_iload_n E 57 rfl dX6_partOf_56 rfl (lv_at hl 2 rfl) ?_
          refine j_iushr E 58 rfl dX6_partOf_57 (fun zz9_ rr9_ ee9_ => ?_)
          refine j_iconst E 59 rfl dX6_partOf_58 ?_
          refine j_iand E 60 rfl dX6_partOf_59 (fun zz10_ rr10_ ee10_ => ?_)
          refine j_if_eq E 63 67 rfl rr10_ dX6_partOf_60 (by decide) (fun cc11_ => ?_) (fun cc11_ => ?_)
          · refine j_iconst E 68 rfl dX6_partOf_67 ?_
            exact hret 68 0 (v_0) _ _ ls hw (rr (by decide)) ⟨rfl, trivial⟩ dX6_partOf_68
          · refine j_iload_n E 64 rfl dX6_partOf_63 rfl (lv_at hl 0 rfl) ?_
            refine j_goto E 68 dX6_partOf_64 (by decide) ?_
            exact hret 68 s0_24 (v_0) _ _ ls hw r_s0_24 ⟨rfl, trivial⟩ dX6_partOf_68
    · refine j_aload_n E 34 rfl dX6_partOf_33 rfl (lv_at hl 1 rfl) ?_
      refine g_143 E hK hw fl_X6_25 t_o (v_0 143 o) rfl 37 rfl dX6_partOf_34 (fun rr12_ => ?_)
      refine j_iload_n E 38 rfl dX6_partOf_37 rfl (lv_at hl 0 rfl) ?_
      refine j_iload_n E 39 rfl dX6_partOf_38 rfl (lv_at hl 3 rfl) ?_
      refine j_imul E 40 rfl dX6_partOf_39 ?_
      refine j_norm (fun zz13_ rr13_ ee13_ => ?_)
      refine j_isub E 41 rfl dX6_partOf_40 ?_
      refine j_norm (fun zz14_ rr14_ ee14_ => ?_)
      exact hret 41 zz14_ (v_0) _ _ ls hw rr14_ ⟨rfl, trivial⟩ dX6_partOf_41
  refine j_iload_n E 9 rfl dX6_partOf_8 rfl (lv_at hl 0 rfl) ?_
  refine j_if_le E 12 23 rfl rr2_ dX6_partOf_9 (by decide) (fun cc15_ => ?_) (fun cc15_ => ?_)
  · refine j_iconst E 24 rfl dX6_partOf_23 ?_
    exact L24_3 0  H locs ls (rr (by decide)) (trivial) hw (lv_sub hl [1, 2, 0] rfl)
  · refine j_aload_n E 13 rfl dX6_partOf_12 rfl (lv_at hl 1 rfl) ?_
    refine g_143 E hK hw fl_X6_25 t_o (v_0 143 o) rfl 16 rfl dX6_partOf_13 (fun rr16_ => ?_)
    refine j_iconst E 17 rfl dX6_partOf_16 ?_
    refine j_idiv E 18 rfl dX6_partOf_17 (by decide +kernel) (fun zz17_ rr17_ ee17_ => ?_)
    refine j_iload_n E 19 rfl dX6_partOf_18 rfl (lv_at hl 0 rfl) ?_
    refine j_idiv E 20 rfl dX6_partOf_19 (fun h => absurd ((J_inj rr2_ inR0).mp (h.trans J_0.symm)) (by omega)) (fun zz18_ rr18_ ee18_ => ?_)
    refine j_goto E 24 dX6_partOf_20 (by decide) ?_
    exact L24_3 zz18_  H locs ls rr18_ (trivial) hw (lv_sub hl [1, 2, 0] rfl)
set_option maxHeartbeats 4000000 in
set_option maxRecDepth 100000 in
theorem c_X7_distanceTo (l : Launch) (D : va_G) (cy : Nat → ClassId) (T : Nat → Nat → Nat) (v_0 : Nat → Nat → Int) (o : Nat) (v_l : Int) (t_o : T 0 o = 8) (r_v_l : inR v_l) : KC l D cy T yX7_distanceTo cX7_distanceTo 2 (some .int) 1 [.ref o, .int (J v_l)] v_0 (KI (fun (z_0 : Int) (v_2 : Nat → Nat → Int) => v_2 = v_0 ∧ (True))) := by
  refine KC.ofi (by decide) (Nat.le_of_ble_eq_true rfl) ?_
  intro p e s m below meth c ls ar QW A0 H0 H locs E hK hA hw hl hret
  have hl : lv_has ls 2 [(0, .ref o), (1, .int (J v_l))] := hl
  have hT : WT T := hw.1.2.1
  refine j_iload_n E 1 rfl dX7_distanceTo_0 rfl (lv_at hl 1 rfl) ?_
  refine j_if_lt E 4 22 rfl r_v_l dX7_distanceTo_1 (by decide) (fun cc1_ => ?_) (fun cc1_ => ?_)
  · refine j_iconst E 23 rfl dX7_distanceTo_22 ?_
    exact hret 23 ((-1)) (v_0) _ _ ls hw (rr (by decide)) ⟨rfl, trivial⟩ dX7_distanceTo_23
  · refine j_iload_n E 5 rfl dX7_distanceTo_4 rfl (lv_at hl 1 rfl) ?_
    refine j_aload_n E 6 rfl dX7_distanceTo_5 rfl (lv_at hl 0 rfl) ?_
    refine g_163 E hK hw fl_X7_28 t_o 9 rfl dX7_distanceTo_6 ?_
    refine a_ln20 E hK hw (wt_163 hT t_o) 10 rfl dX7_distanceTo_9 (fun rr2_ => ?_)
    refine j_icmp_ge E 13 22 rfl r_v_l rr2_ dX7_distanceTo_10 (by decide) (fun cc3_ => ?_) (fun cc3_ => ?_)
    · refine j_iconst E 23 rfl dX7_distanceTo_22 ?_
      exact hret 23 ((-1)) (v_0) _ _ ls hw (rr (by decide)) ⟨rfl, trivial⟩ dX7_distanceTo_23
    · refine j_aload_n E 14 rfl dX7_distanceTo_13 rfl (lv_at hl 0 rfl) ?_
      refine g_163 E hK hw fl_X7_28 t_o 17 rfl dX7_distanceTo_14 ?_
      refine j_iload_n E 18 rfl dX7_distanceTo_17 rfl (lv_at hl 1 rfl) ?_
      refine a_ld20 E hK hw (wt_163 hT t_o) (by omega) 19 rfl dX7_distanceTo_18 (fun zz4_ he4_ rr4_ => ?_)
      refine j_goto E 23 dX7_distanceTo_19 (by decide) ?_
      exact hret 23 zz4_ (v_0) _ _ ls hw rr4_ ⟨rfl, trivial⟩ dX7_distanceTo_23
set_option maxHeartbeats 4000000 in
set_option maxRecDepth 100000 in
theorem c_X7_keepDistance (l : Launch) (D : va_G) (cy : Nat → ClassId) (T : Nat → Nat → Nat) (v_0 : Nat → Nat → Int) (o : Nat) (v_l : Int) (v_c : Int) (t_o : T 0 o = 8) (r_v_l : inR v_l) (r_v_c : inR v_c) : KC l D cy T yX7_keepDistance cX7_keepDistance 3 none 1 [.ref o, .int (J v_l), .int (J v_c)] v_0 (KV (fun (v_2 : Nat → Nat → Int) => ∃ (y300_2 : Nat → Int) , v_2 = upV v_0 300 y300_2 ∧ ((True) ∧ Kd_ T [163] (v_0 300) y300_2))) := by
  refine KC.ofv (by decide) (Nat.le_of_ble_eq_true rfl) ?_
  intro p e s m below meth c ls ar QW A0 H0 H locs E hK hA hw hl hret
  have hl : lv_has ls 3 [(0, .ref o), (1, .int (J v_l)), (2, .int (J v_c))] := hl
  have hT : WT T := hw.1.2.1
  refine j_iload_n E 1 rfl dX7_keepDistance_0 rfl (lv_at hl 1 rfl) ?_
  refine j_if_lt E 4 20 rfl r_v_l dX7_keepDistance_1 (by decide) (fun cc1_ => ?_) (fun cc1_ => ?_)
  · exact hret 20 (upV v_0 300 (v_0 300)) _ _ ls (cw_eq hw (by first | rfl | (funext j_; simp only [upV, reduceIte]; (repeat' split) <;> first | rfl | omega | (subst_vars; rfl)))) ⟨(v_0 300), rfl, ⟨trivial, Kd_rf⟩⟩ dX7_keepDistance_20
  · refine j_iload_n E 5 rfl dX7_keepDistance_4 rfl (lv_at hl 1 rfl) ?_
    refine j_aload_n E 6 rfl dX7_keepDistance_5 rfl (lv_at hl 0 rfl) ?_
    refine g_163 E hK hw fl_X7_28 t_o 9 rfl dX7_keepDistance_6 ?_
    refine a_ln20 E hK hw (wt_163 hT t_o) 10 rfl dX7_keepDistance_9 (fun rr2_ => ?_)
    refine j_icmp_ge E 13 20 rfl r_v_l rr2_ dX7_keepDistance_10 (by decide) (fun cc3_ => ?_) (fun cc3_ => ?_)
    · exact hret 20 (upV v_0 300 (v_0 300)) _ _ ls (cw_eq hw (by first | rfl | (funext j_; simp only [upV, reduceIte]; (repeat' split) <;> first | rfl | omega | (subst_vars; rfl)))) ⟨(v_0 300), rfl, ⟨trivial, Kd_rf⟩⟩ dX7_keepDistance_20
    · refine j_aload_n E 14 rfl dX7_keepDistance_13 rfl (lv_at hl 0 rfl) ?_
      refine g_163 E hK hw fl_X7_28 t_o 17 rfl dX7_keepDistance_14 ?_
      refine j_iload_n E 18 rfl dX7_keepDistance_17 rfl (lv_at hl 1 rfl) ?_
      refine j_iload_n E 19 rfl dX7_keepDistance_18 rfl (lv_at hl 2 rfl) ?_
      refine a_st20 E hK hw (wt_163 hT t_o) r_v_c (by omega) 20 rfl dX7_keepDistance_19 (fun H locs hw => ?_)
      have hw : WK D cy T (upV v_0 300 (upB (v_0 300) ((pr (T 163 o) (Int.toNat v_l))) v_c)) A0 H0 H locs := cw_eq hw (by first | rfl | (funext j_; simp only [upV, reduceIte]; (repeat' split) <;> first | rfl | omega | (subst_vars; rfl)))
      exact hret 20 (upV v_0 300 (upB (v_0 300) ((pr (T 163 o) (Int.toNat v_l))) v_c)) _ _ ls hw ⟨(upB (v_0 300) ((pr (T 163 o) (Int.toNat v_l))) v_c), rfl, ⟨trivial, (Kd_tr Kd_rf (Kd_up (wok (wo_163 hT t_o) (by decide)) (by decide)))⟩⟩ dX7_keepDistance_20
set_option maxHeartbeats 4000000 in
set_option maxRecDepth 100000 in
theorem c_X7_codeLength (l : Launch) (D : va_G) (cy : Nat → ClassId) (T : Nat → Nat → Nat) (v_0 : Nat → Nat → Int) (o : Nat) (t_o : T 0 o = 8) : KC l D cy T yX7_codeLength cX7_codeLength 1 (some .int) 1 [.ref o] v_0 (KI (fun (z_0 : Int) (v_2 : Nat → Nat → Int) => v_2 = v_0 ∧ (z_0 = (T 1 (T 162 o) : Int)))) := by
  refine KC.ofi (by decide) (Nat.le_of_ble_eq_true rfl) ?_
  intro p e s m below meth c ls ar QW A0 H0 H locs E hK hA hw hl hret
  have hl : lv_has ls 1 [(0, .ref o)] := hl
  have hT : WT T := hw.1.2.1
  refine j_aload_n E 1 rfl dX7_codeLength_0 rfl (lv_at hl 0 rfl) ?_
  refine g_162 E hK hw fl_X7_19 t_o 4 rfl dX7_codeLength_1 ?_
  refine a_ln20 E hK hw (wt_162 hT t_o) 5 rfl dX7_codeLength_4 (fun rr1_ => ?_)
  exact hret 5 ((T 1 (T 162 o) : Int)) (v_0) _ _ ls hw rr1_ ⟨rfl, rfl⟩ dX7_codeLength_5
set_option maxHeartbeats 4000000 in
set_option maxRecDepth 100000 in
theorem c_X7_isSameFromEnd (l : Launch) (D : va_G) (cy : Nat → ClassId) (T : Nat → Nat → Nat) (v_0 : Nat → Nat → Int) (a_m : Nat) (a_t : Nat) (v_h : Int) (v_l : Int) (t_m : T 0 a_m = 20) (t_t : T 0 a_t = 20) (r_v_h : inR v_h) (r_v_l : inR v_l) (hp0 : 0 ≤ v_h ∧ 0 ≤ v_l ∧ v_l ≤ (T 1 a_m : Int) ∧ v_l ≤ (T 1 a_t : Int)) : KC l D cy T yX7_isSameFromEnd cX7_isSameFromEnd 6 (some .boolean) 1 [.ref a_m, .ref a_t, .int (J v_h), .int (J v_l)] v_0 (KI (fun (z_0 : Int) (v_2 : Nat → Nat → Int) => v_2 = v_0 ∧ (z_0 ≠ 0 → v_h ≤ (T 1 a_m : Int) - 1 - v_l ∧ v_h ≤ (T 1 a_t : Int) - 1 - v_l))) := by
  refine KC.ofz (by decide) (Nat.le_of_ble_eq_true rfl) ?_
  intro p e s m below meth c ls ar QW A0 H0 H locs E hK hA hw hl hret
  have hl : lv_has ls 6 [(0, .ref a_m), (1, .ref a_t), (2, .int (J v_h)), (3, .int (J v_l))] := hl
  have hT : WT T := hw.1.2.1
  refine j_aload_n E 1 rfl dX7_isSameFromEnd_0 rfl (lv_at hl 0 rfl) ?_
  refine a_ln20 E hK hw t_m 2 rfl dX7_isSameFromEnd_1 (fun rr1_ => ?_)
  refine j_iconst E 3 rfl dX7_isSameFromEnd_2 ?_
  refine j_isub E 4 rfl dX7_isSameFromEnd_3 ?_
  refine j_iload_n E 5 rfl dX7_isSameFromEnd_4 rfl (lv_at hl 3 rfl) ?_
  refine j_isub E 6 rfl dX7_isSameFromEnd_5 ?_
  refine j_istore E 8 rfl [(4, .int (J ((((T 1 a_m : Int)) - 1) - v_l))), (0, .ref a_m), (1, .ref a_t), (2, .int (J v_h)), (3, .int (J v_l))] dX7_isSameFromEnd_6 hl (by decide) rfl (fun ls hl => ?_)
  refine j_aload_n E 9 rfl dX7_isSameFromEnd_8 rfl (lv_at hl 2 rfl) ?_
  refine a_ln20 E hK hw t_t 10 rfl dX7_isSameFromEnd_9 (fun rr2_ => ?_)
  refine j_iconst E 11 rfl dX7_isSameFromEnd_10 ?_
  refine j_isub E 12 rfl dX7_isSameFromEnd_11 ?_
  refine j_iload_n E 13 rfl dX7_isSameFromEnd_12 rfl (lv_at hl 4 rfl) ?_
  refine j_isub E 14 rfl dX7_isSameFromEnd_13 ?_
  refine j_istore E 16 rfl [(5, .int (J ((((T 1 a_t : Int)) - 1) - v_l))), (4, .int (J ((((T 1 a_m : Int)) - 1) - v_l))), (0, .ref a_m), (1, .ref a_t), (2, .int (J v_h)), (3, .int (J v_l))] dX7_isSameFromEnd_14 hl (by decide) rfl (fun ls hl => ?_)
  refine j_iload E 18 rfl dX7_isSameFromEnd_16 (lv_at hl 1 rfl) ?_
  refine j_iload_n E 19 rfl dX7_isSameFromEnd_18 rfl (lv_at hl 4 rfl) ?_
  refine j_icmp_lt E 22 57 rfl (rr (by omega)) r_v_h dX7_isSameFromEnd_19 (by decide) (fun cc3_ => ?_) (fun cc3_ => ?_)
  · refine j_iconst E 58 rfl dX7_isSameFromEnd_57 ?_
    exact hret 58 0 (v_0) _ _ ls hw (Or.inl rfl) ⟨rfl, by omega⟩ dX7_isSameFromEnd_58
  · refine j_iload E 24 rfl dX7_isSameFromEnd_22 (lv_at hl 0 rfl) ?_
    refine j_iload_n E 25 rfl dX7_isSameFromEnd_24 rfl (lv_at hl 4 rfl) ?_
    refine j_icmp_lt E 28 57 rfl (rr (by omega)) r_v_h dX7_isSameFromEnd_25 (by decide) (fun cc4_ => ?_) (fun cc4_ => ?_)
    · refine j_iconst E 58 rfl dX7_isSameFromEnd_57 ?_
      exact hret 58 0 (v_0) _ _ ls hw (Or.inl rfl) ⟨rfl, by omega⟩ dX7_isSameFromEnd_58
    · refine j_iload E 30 rfl dX7_isSameFromEnd_28 (lv_at hl 1 rfl) ?_
      refine j_aload_n E 31 rfl dX7_isSameFromEnd_30 rfl (lv_at hl 2 rfl) ?_
      refine a_ln20 E hK hw t_m 32 rfl dX7_isSameFromEnd_31 (fun _ => ?_)
      refine j_icmp_ge E 35 57 rfl (rr (by omega)) rr1_ dX7_isSameFromEnd_32 (by decide) (fun cc5_ => ?_) (fun cc5_ => ?_)
      · refine j_iconst E 58 rfl dX7_isSameFromEnd_57 ?_
        exact hret 58 0 (v_0) _ _ ls hw (Or.inl rfl) ⟨rfl, by omega⟩ dX7_isSameFromEnd_58
      · refine j_iload E 37 rfl dX7_isSameFromEnd_35 (lv_at hl 0 rfl) ?_
        refine j_aload_n E 38 rfl dX7_isSameFromEnd_37 rfl (lv_at hl 3 rfl) ?_
        refine a_ln20 E hK hw t_t 39 rfl dX7_isSameFromEnd_38 (fun _ => ?_)
        refine j_icmp_ge E 42 57 rfl (rr (by omega)) rr2_ dX7_isSameFromEnd_39 (by decide) (fun cc6_ => ?_) (fun cc6_ => ?_)
        · refine j_iconst E 58 rfl dX7_isSameFromEnd_57 ?_
          exact hret 58 0 (v_0) _ _ ls hw (Or.inl rfl) ⟨rfl, by omega⟩ dX7_isSameFromEnd_58
        · refine j_aload_n E 43 rfl dX7_isSameFromEnd_42 rfl (lv_at hl 2 rfl) ?_
          refine j_iload E 45 rfl dX7_isSameFromEnd_43 (lv_at hl 1 rfl) ?_
          refine a_ld20 E hK hw t_m (by omega) 46 rfl dX7_isSameFromEnd_45 (fun zz7_ he7_ rr7_ => ?_)
          refine j_aload_n E 47 rfl dX7_isSameFromEnd_46 rfl (lv_at hl 3 rfl) ?_
          refine j_iload E 49 rfl dX7_isSameFromEnd_47 (lv_at hl 0 rfl) ?_
          refine a_ld20 E hK hw t_t (by omega) 50 rfl dX7_isSameFromEnd_49 (fun zz8_ he8_ rr8_ => ?_)
          refine j_icmp_ne E 53 57 rfl rr7_ rr8_ dX7_isSameFromEnd_50 (by decide) (fun cc9_ => ?_) (fun cc9_ => ?_)
          · refine j_iconst E 58 rfl dX7_isSameFromEnd_57 ?_
            exact hret 58 0 (v_0) _ _ ls hw (Or.inl rfl) ⟨rfl, by omega⟩ dX7_isSameFromEnd_58
          · refine j_iconst E 54 rfl dX7_isSameFromEnd_53 ?_
            refine j_goto E 58 dX7_isSameFromEnd_54 (by decide) ?_
            exact hret 58 1 (v_0) _ _ ls hw (Or.inr rfl) ⟨rfl, by omega⟩ dX7_isSameFromEnd_58
set_option maxHeartbeats 4000000 in
set_option maxRecDepth 100000 in
theorem c_X7_stepRow (l : Launch) (D : va_G) (cy : Nat → ClassId) (T : Nat → Nat → Nat) (v_0 : Nat → Nat → Int) (v_k : Int) (a_t : Nat) (v_h : Int) (a_r : Nat) (v_w : Int) (r_v_k : inR v_k) (t_t : T 0 a_t = 20) (r_v_h : inR v_h) (t_r : T 0 a_r = 20) (r_v_w : inR v_w) (hp0 : 0 ≤ v_h ∧ v_w + v_h ≤ (T 1 a_t : Int)) : KC l D cy T yX7_stepRow cX7_stepRow 10 none 2 [.int (J v_k), .ref a_t, .int (J v_h), .ref a_r, .int (J v_w)] v_0 (KV (fun (v_2 : Nat → Nat → Int) => ∃ (y300_2 : Nat → Int) , v_2 = upV v_0 300 y300_2 ∧ ((True) ∧ Ro_ (v_0 300) y300_2 a_r))) := by
  refine KC.ofv (by decide) (Nat.le_of_ble_eq_true rfl) ?_
  intro p e s m below meth c ls ar QW A0 H0 H locs E hK hA hw hl hret
  have hl : lv_has ls 10 [(0, .int (J v_k)), (1, .ref a_t), (2, .int (J v_h)), (3, .ref a_r), (4, .int (J v_w))] := hl
  have hT : WT T := hw.1.2.1
  refine j_aload_n E 1 rfl dX7_stepRow_0 rfl (lv_at hl 3 rfl) ?_
  refine a_ln20 E hK hw t_r 2 rfl dX7_stepRow_1 (fun rr1_ => ?_)
  refine j_if_ne E 5 6 rfl rr1_ dX7_stepRow_2 (by decide) (fun cc2_ => ?_) (fun cc2_ => ?_)
  · refine j_aload_n E 7 rfl dX7_stepRow_6 rfl (lv_at hl 3 rfl) ?_
    refine j_iconst E 8 rfl dX7_stepRow_7 ?_
    refine a_ld20 E hK hw t_r (by omega) 9 rfl dX7_stepRow_8 (fun zz3_ he3_ rr3_ => ?_)
    refine j_istore E 11 rfl [(5, .int (J zz3_)), (0, .int (J v_k)), (1, .ref a_t), (2, .int (J v_h)), (3, .ref a_r), (4, .int (J v_w))] dX7_stepRow_9 hl (by decide) rfl (fun ls hl => ?_)
    refine j_iload E 13 rfl dX7_stepRow_11 (lv_at hl 0 rfl) ?_
    refine j_iconst E 14 rfl dX7_stepRow_13 ?_
    refine j_iadd E 15 rfl dX7_stepRow_14 ?_
    refine j_norm (fun zz4_ rr4_ ee4_ => ?_)
    refine j_istore E 17 rfl [(6, .int (J zz4_)), (5, .int (J zz3_)), (0, .int (J v_k)), (1, .ref a_t), (2, .int (J v_h)), (3, .ref a_r), (4, .int (J v_w))] dX7_stepRow_15 hl (by decide) rfl (fun ls hl => ?_)
    refine j_aload_n E 18 rfl dX7_stepRow_17 rfl (lv_at hl 5 rfl) ?_
    refine j_iconst E 19 rfl dX7_stepRow_18 ?_
    refine j_iload E 21 rfl dX7_stepRow_19 (lv_at hl 0 rfl) ?_
    refine a_st20 E hK hw t_r rr4_ (by omega) 22 rfl dX7_stepRow_21 (fun H locs hw => ?_)
    have hw : WK D cy T (upV v_0 300 (upB (v_0 300) ((pr a_r (Int.toNat 0))) zz4_)) A0 H0 H locs := cw_eq hw (by first | rfl | (funext j_; simp only [upV, reduceIte]; (repeat' split) <;> first | rfl | omega | (subst_vars; rfl)))
    refine j_iconst E 23 rfl dX7_stepRow_22 ?_
    refine j_istore E 25 rfl [(7, .int (J 1)), (6, .int (J zz4_)), (5, .int (J zz3_)), (0, .int (J v_k)), (1, .ref a_t), (2, .int (J v_h)), (3, .ref a_r), (4, .int (J v_w))] dX7_stepRow_23 hl (by decide) rfl (fun ls hl => ?_)
    have L25_6 : ∀ (k25 : Nat) (l5_25 l6_25 l7_25 : Int) (y300_c25 : Nat → Int) (H : Heap) (locs : List Loc) (ls : Array Slot), inR l5_25 → inR l6_25 → inR l7_25 → ((1 ≤ l7_25) ∧ Ro_ (v_0 300) y300_c25 a_r) → ((T 1 a_r : Int) - l7_25).toNat < k25 → WK D cy T (upV v_0 300 y300_c25) A0 H0 H locs → lv_has ls 10 [(0, .int (J v_k)), (1, .ref a_t), (2, .int (J v_h)), (3, .ref a_r), (4, .int (J v_w)), (5, .int (J l5_25)), (6, .int (J l6_25)), (7, .int (J l7_25))] → W p l e (rmd 2 0 0) s m ar below meth c H locs 0 0 QW (F0 m 25 ls []) := by
      intro k25
      induction k25 with
      | zero =>
        intro l5_25 l6_25 l7_25 y300_c25 H locs ls r_l5_25 r_l6_25 r_l7_25 iv25 ms25 hw hl
        exact absurd ms25 (Nat.not_lt_zero _)
      | succ k25 ih25 =>
        intro l5_25 l6_25 l7_25 y300_c25 H locs ls r_l5_25 r_l6_25 r_l7_25 iv25 ms25 hw hl
        obtain ⟨iv25, ik25_⟩ := iv25
        refine j_iload E 27 rfl dX7_stepRow_25 (lv_at hl 7 rfl) ?_
        refine j_iload E 29 rfl dX7_stepRow_27 (lv_at hl 4 rfl) ?_
        refine j_icmp_gt E 32 110 rfl r_l7_25 r_v_w dX7_stepRow_29 (by decide) (fun cc8_ => ?_) (fun cc8_ => ?_)
        · exact hret 110 (upV v_0 300 y300_c25) _ _ ls hw ⟨y300_c25, rfl, ⟨trivial, ik25_⟩⟩ dX7_stepRow_110
        · refine j_iload E 34 rfl dX7_stepRow_32 (lv_at hl 7 rfl) ?_
          refine j_aload_n E 35 rfl dX7_stepRow_34 rfl (lv_at hl 3 rfl) ?_
          refine a_ln20 E hK hw t_r 36 rfl dX7_stepRow_35 (fun _ => ?_)
          refine j_icmp_ge E 39 110 rfl r_l7_25 rr1_ dX7_stepRow_36 (by decide) (fun cc9_ => ?_) (fun cc9_ => ?_)
          · exact hret 110 (upV v_0 300 y300_c25) _ _ ls hw ⟨y300_c25, rfl, ⟨trivial, ik25_⟩⟩ dX7_stepRow_110
          · refine j_iload_n E 40 rfl dX7_stepRow_39 rfl (lv_at hl 2 rfl) ?_
            refine j_iload E 42 rfl dX7_stepRow_40 (lv_at hl 7 rfl) ?_
            refine j_iadd E 43 rfl dX7_stepRow_42 ?_
            refine j_iconst E 44 rfl dX7_stepRow_43 ?_
            refine j_isub E 45 rfl dX7_stepRow_44 ?_
            refine j_aload_n E 46 rfl dX7_stepRow_45 rfl (lv_at hl 1 rfl) ?_
            refine a_ln20 E hK hw t_t 47 rfl dX7_stepRow_46 (fun rr10_ => ?_)
            refine j_icmp_ge E 50 110 rfl (rr (by omega)) rr10_ dX7_stepRow_47 (by decide) (fun cc11_ => ?_) (fun cc11_ => ?_)
            · exact hret 110 (upV v_0 300 y300_c25) _ _ ls hw ⟨y300_c25, rfl, ⟨trivial, ik25_⟩⟩ dX7_stepRow_110
            · refine j_aload_n E 51 rfl dX7_stepRow_50 rfl (lv_at hl 3 rfl) ?_
              refine j_iload E 53 rfl dX7_stepRow_51 (lv_at hl 7 rfl) ?_
              refine a_ld20 E hK hw t_r (by omega) 54 rfl dX7_stepRow_53 (fun zz12_ he12_ rr12_ => ?_)
              refine j_istore E 56 rfl [(8, .int (J zz12_)), (0, .int (J v_k)), (1, .ref a_t), (2, .int (J v_h)), (3, .ref a_r), (4, .int (J v_w)), (5, .int (J l5_25)), (6, .int (J l6_25)), (7, .int (J l7_25))] dX7_stepRow_54 hl (by decide) rfl (fun ls hl => ?_)
              refine j_iload E 58 rfl dX7_stepRow_56 (lv_at hl 6 rfl) ?_
              refine j_iload_n E 59 rfl dX7_stepRow_58 rfl (lv_at hl 1 rfl) ?_
              refine j_aload_n E 60 rfl dX7_stepRow_59 rfl (lv_at hl 2 rfl) ?_
              refine j_iload_n E 61 rfl dX7_stepRow_60 rfl (lv_at hl 3 rfl) ?_
              refine j_iload E 63 rfl dX7_stepRow_61 (lv_at hl 8 rfl) ?_
              refine j_iadd E 64 rfl dX7_stepRow_63 ?_
              refine j_iconst E 65 rfl dX7_stepRow_64 ?_
              refine j_isub E 66 rfl dX7_stepRow_65 ?_
              refine a_ld20 E hK hw t_t (by omega) 67 rfl dX7_stepRow_66 (fun zz13_ he13_ rr13_ => ?_)
              refine j_icmp_ne E 70 74 rfl r_v_k rr13_ dX7_stepRow_67 (by decide) (fun cc14_ => ?_) (fun cc14_ => ?_)
              · refine j_iconst E 75 rfl dX7_stepRow_74 ?_
                refine j_iadd E 76 rfl dX7_stepRow_75 ?_
                refine j_norm (fun zz15_ rr15_ ee15_ => ?_)
                refine j_istore E 78 rfl [(9, .int (J zz15_)), (8, .int (J zz12_)), (0, .int (J v_k)), (1, .ref a_t), (2, .int (J v_h)), (3, .ref a_r), (4, .int (J v_w)), (5, .int (J l5_25)), (6, .int (J l6_25)), (7, .int (J l7_25))] dX7_stepRow_76 hl (by decide) rfl (fun ls hl => ?_)
                refine j_iload E 80 rfl dX7_stepRow_78 (lv_at hl 0 rfl) ?_
                refine j_iload E 82 rfl dX7_stepRow_80 (lv_at hl 1 rfl) ?_
                refine j_iload E 84 rfl dX7_stepRow_82 (lv_at hl 8 rfl) ?_
                refine j_min E hl.1 ml_X7_45 rr12_ r_l6_25 ⟨Nat.le_of_ble_eq_true rfl, Nat.le_of_ble_eq_true rfl⟩ ⟨Nat.le_of_ble_eq_true rfl, Nat.le_of_ble_eq_true rfl⟩ 87 rfl dX7_stepRow_84 (fun zz16_ rr16_ hh16_ => ?_)
                refine j_iconst E 88 rfl dX7_stepRow_87 ?_
                refine j_iadd E 89 rfl dX7_stepRow_88 ?_
                refine j_norm (fun zz17_ rr17_ ee17_ => ?_)
                refine j_min E hl.1 ml_X7_45 rr15_ rr17_ ⟨Nat.le_of_ble_eq_true rfl, Nat.le_of_ble_eq_true rfl⟩ ⟨Nat.le_of_ble_eq_true rfl, Nat.le_of_ble_eq_true rfl⟩ 92 rfl dX7_stepRow_89 (fun zz18_ rr18_ hh18_ => ?_)
                refine j_istore E 94 rfl [(6, .int (J zz18_)), (9, .int (J zz15_)), (8, .int (J zz12_)), (0, .int (J v_k)), (1, .ref a_t), (2, .int (J v_h)), (3, .ref a_r), (4, .int (J v_w)), (5, .int (J l5_25)), (7, .int (J l7_25))] dX7_stepRow_92 hl (by decide) rfl (fun ls hl => ?_)
                refine j_aload_n E 95 rfl dX7_stepRow_94 rfl (lv_at hl 6 rfl) ?_
                refine j_iload E 97 rfl dX7_stepRow_95 (lv_at hl 9 rfl) ?_
                refine j_iload E 99 rfl dX7_stepRow_97 (lv_at hl 0 rfl) ?_
                refine a_st20 E hK hw t_r rr18_ (by omega) 100 rfl dX7_stepRow_99 (fun H locs hw => ?_)
                have hw : WK D cy T (upV v_0 300 (upB y300_c25 ((pr a_r (Int.toNat l7_25))) zz18_)) A0 H0 H locs := cw_eq hw (by first | rfl | (funext j_; simp only [upV, reduceIte]; (repeat' split) <;> first | rfl | omega | (subst_vars; rfl)))
                refine j_iload E 102 rfl dX7_stepRow_100 (lv_at hl 2 rfl) ?_
                refine j_istore E 104 rfl [(5, .int (J zz12_)), (6, .int (J zz18_)), (9, .int (J zz15_)), (8, .int (J zz12_)), (0, .int (J v_k)), (1, .ref a_t), (2, .int (J v_h)), (3, .ref a_r), (4, .int (J v_w)), (7, .int (J l7_25))] dX7_stepRow_102 hl (by decide) rfl (fun ls hl => ?_)
                refine j_iinc E 107 rfl [(7, .int (J (l7_25 + 1))), (5, .int (J zz12_)), (6, .int (J zz18_)), (9, .int (J zz15_)), (8, .int (J zz12_)), (0, .int (J v_k)), (1, .ref a_t), (2, .int (J v_h)), (3, .ref a_r), (4, .int (J v_w))] dX7_stepRow_104 hl (kk := 9) rfl (by decide) rfl (fun ls hl => ?_)
                refine j_goto E 25 dX7_stepRow_107 (by decide) ?_
                exact ih25 zz12_ zz18_ (l7_25 + 1) (upB y300_c25 ((pr a_r (Int.toNat l7_25))) zz18_) H locs ls rr12_ rr18_ (rr (by omega)) (⟨by first | omega | (simp only [upB_same]; omega), (Ro_tr ik25_ Ro_up)⟩) (by omega) hw (lv_sub hl [5, 6, 7, 8, 9, 1, 2, 0] rfl)
              · refine j_iconst E 71 rfl dX7_stepRow_70 ?_
                refine j_goto E 75 dX7_stepRow_71 (by decide) ?_
                refine j_iadd E 76 rfl dX7_stepRow_75 ?_
                refine j_norm (fun zz20_ rr20_ ee20_ => ?_)
                refine j_istore E 78 rfl [(9, .int (J zz20_)), (8, .int (J zz12_)), (0, .int (J v_k)), (1, .ref a_t), (2, .int (J v_h)), (3, .ref a_r), (4, .int (J v_w)), (5, .int (J l5_25)), (6, .int (J l6_25)), (7, .int (J l7_25))] dX7_stepRow_76 hl (by decide) rfl (fun ls hl => ?_)
                refine j_iload E 80 rfl dX7_stepRow_78 (lv_at hl 0 rfl) ?_
                refine j_iload E 82 rfl dX7_stepRow_80 (lv_at hl 1 rfl) ?_
                refine j_iload E 84 rfl dX7_stepRow_82 (lv_at hl 8 rfl) ?_
                refine j_min E hl.1 ml_X7_45 rr12_ r_l6_25 ⟨Nat.le_of_ble_eq_true rfl, Nat.le_of_ble_eq_true rfl⟩ ⟨Nat.le_of_ble_eq_true rfl, Nat.le_of_ble_eq_true rfl⟩ 87 rfl dX7_stepRow_84 (fun zz21_ rr21_ hh21_ => ?_)
                refine j_iconst E 88 rfl dX7_stepRow_87 ?_
                refine j_iadd E 89 rfl dX7_stepRow_88 ?_
                refine j_norm (fun zz22_ rr22_ ee22_ => ?_)
                refine j_min E hl.1 ml_X7_45 rr20_ rr22_ ⟨Nat.le_of_ble_eq_true rfl, Nat.le_of_ble_eq_true rfl⟩ ⟨Nat.le_of_ble_eq_true rfl, Nat.le_of_ble_eq_true rfl⟩ 92 rfl dX7_stepRow_89 (fun zz23_ rr23_ hh23_ => ?_)
                refine j_istore E 94 rfl [(6, .int (J zz23_)), (9, .int (J zz20_)), (8, .int (J zz12_)), (0, .int (J v_k)), (1, .ref a_t), (2, .int (J v_h)), (3, .ref a_r), (4, .int (J v_w)), (5, .int (J l5_25)), (7, .int (J l7_25))] dX7_stepRow_92 hl (by decide) rfl (fun ls hl => ?_)
                refine j_aload_n E 95 rfl dX7_stepRow_94 rfl (lv_at hl 6 rfl) ?_
                refine j_iload E 97 rfl dX7_stepRow_95 (lv_at hl 9 rfl) ?_
                refine j_iload E 99 rfl dX7_stepRow_97 (lv_at hl 0 rfl) ?_
                refine a_st20 E hK hw t_r rr23_ (by omega) 100 rfl dX7_stepRow_99 (fun H locs hw => ?_)
                have hw : WK D cy T (upV v_0 300 (upB y300_c25 ((pr a_r (Int.toNat l7_25))) zz23_)) A0 H0 H locs := cw_eq hw (by first | rfl | (funext j_; simp only [upV, reduceIte]; (repeat' split) <;> first | rfl | omega | (subst_vars; rfl)))
                refine j_iload E 102 rfl dX7_stepRow_100 (lv_at hl 2 rfl) ?_
                refine j_istore E 104 rfl [(5, .int (J zz12_)), (6, .int (J zz23_)), (9, .int (J zz20_)), (8, .int (J zz12_)), (0, .int (J v_k)), (1, .ref a_t), (2, .int (J v_h)), (3, .ref a_r), (4, .int (J v_w)), (7, .int (J l7_25))] dX7_stepRow_102 hl (by decide) rfl (fun ls hl => ?_)
                refine j_iinc E 107 rfl [(7, .int (J (l7_25 + 1))), (5, .int (J zz12_)), (6, .int (J zz23_)), (9, .int (J zz20_)), (8, .int (J zz12_)), (0, .int (J v_k)), (1, .ref a_t), (2, .int (J v_h)), (3, .ref a_r), (4, .int (J v_w))] dX7_stepRow_104 hl (kk := 9) rfl (by decide) rfl (fun ls hl => ?_)
                refine j_goto E 25 dX7_stepRow_107 (by decide) ?_
                exact ih25 zz12_ zz23_ (l7_25 + 1) (upB y300_c25 ((pr a_r (Int.toNat l7_25))) zz23_) H locs ls rr12_ rr23_ (rr (by omega)) (⟨by first | omega | (simp only [upB_same]; omega), (Ro_tr ik25_ Ro_up)⟩) (by omega) hw (lv_sub hl [5, 6, 7, 8, 9, 1, 2, 0] rfl)
    exact L25_6 _ zz3_ zz4_ 1 (upB (v_0 300) ((pr a_r (Int.toNat 0))) zz4_) H locs ls rr3_ rr4_ (rr (by decide)) (⟨by first | omega | (simp only [upB_same]; omega), (Ro_tr Ro_rf Ro_up)⟩) (Nat.lt_succ_self _) hw (lv_sub hl [3, 4, 5, 6, 7, 2, 1, 0] rfl)
  · exact hret 5 (upV v_0 300 (v_0 300)) _ _ ls (cw_eq hw (by first | rfl | (funext j_; simp only [upV, reduceIte]; (repeat' split) <;> first | rfl | omega | (subst_vars; rfl)))) ⟨(v_0 300), rfl, ⟨trivial, Ro_rf⟩⟩ dX7_stepRow_5
set_option maxHeartbeats 4000000 in
set_option maxRecDepth 100000 in
theorem c_X7_leastChanges (l : Launch) (D : va_G) (cy : Nat → ClassId) (T : Nat → Nat → Nat) (v_0 : Nat → Nat → Int) (o : Nat) (a_w : Nat) (a_r : Nat) (t_o : T 0 o = 8) (t_w : T 0 a_w = 8) (t_r : T 0 a_r = 20) : KC l D cy T yX7_leastChanges cX7_leastChanges 9 (some .int) 3 [.ref o, .ref a_w, .ref a_r] v_0 (KI (fun (z_0 : Int) (v_2 : Nat → Nat → Int) => ∃ (y300_2 : Nat → Int) , v_2 = upV v_0 300 y300_2 ∧ ((True) ∧ Ro_ (v_0 300) y300_2 a_r))) := by
  refine KC.ofi (by decide) (Nat.le_of_ble_eq_true rfl) ?_
  intro p e s m below meth c ls ar QW A0 H0 H locs E hK hA hw hl hret
  have hl : lv_has ls 9 [(0, .ref o), (1, .ref a_w), (2, .ref a_r)] := hl
  have hT : WT T := hw.1.2.1
  refine j_aload_n E 1 rfl dX7_leastChanges_0 rfl (lv_at hl 0 rfl) ?_
  refine g_161 E hK hw fl_X7_15 t_o 4 rfl dX7_leastChanges_1 ?_
  refine j_astore_n E 5 rfl [(3, .ref (T 161 o)), (0, .ref o), (1, .ref a_w), (2, .ref a_r)] dX7_leastChanges_4 rfl hl (by decide) rfl (fun ls hl => ?_)
  refine j_aload_n E 6 rfl dX7_leastChanges_5 rfl (lv_at hl 2 rfl) ?_
  refine g_161 E hK hw fl_X7_15 t_w 9 rfl dX7_leastChanges_6 ?_
  refine j_astore E 11 rfl [(4, .ref (T 161 a_w)), (3, .ref (T 161 o)), (0, .ref o), (1, .ref a_w), (2, .ref a_r)] dX7_leastChanges_9 hl (by decide) rfl (fun ls hl => ?_)
  refine j_iconst E 12 rfl dX7_leastChanges_11 ?_
  refine j_istore E 14 rfl [(5, .int (J 0)), (4, .ref (T 161 a_w)), (3, .ref (T 161 o)), (0, .ref o), (1, .ref a_w), (2, .ref a_r)] dX7_leastChanges_12 hl (by decide) rfl (fun ls hl => ?_)
  have L14_1 : ∀ (k14 : Nat) (l5_14 : Int) (H : Heap) (locs : List Loc) (ls : Array Slot), inR l5_14 → (0 ≤ l5_14 ∧ l5_14 ≤ (T 1 (T 161 o) : Int) ∧ l5_14 ≤ (T 1 (T 161 a_w) : Int)) → ((T 1 (T 161 o) : Int) - l5_14).toNat < k14 → WK D cy T (v_0) A0 H0 H locs → lv_has ls 9 [(0, .ref o), (1, .ref a_w), (2, .ref a_r), (3, .ref (T 161 o)), (4, .ref (T 161 a_w)), (5, .int (J l5_14))] → W p l e (rmd 3 0 0) s m ar below meth c H locs 0 0 QW (F0 m 14 ls []) := by
    intro k14
    induction k14 with
    | zero =>
      intro l5_14 H locs ls r_l5_14 iv14 ms14 hw hl
      exact absurd ms14 (Nat.not_lt_zero _)
    | succ k14 ih14 =>
      intro l5_14 H locs ls r_l5_14 iv14 ms14 hw hl
      refine j_iload E 16 rfl dX7_leastChanges_14 (lv_at hl 5 rfl) ?_
      refine j_aload_n E 17 rfl dX7_leastChanges_16 rfl (lv_at hl 3 rfl) ?_
      refine a_ln20 E hK hw (wt_161 hT t_o) 18 rfl dX7_leastChanges_17 (fun rr3_ => ?_)
      refine j_icmp_ge E 21 47 rfl r_l5_14 rr3_ dX7_leastChanges_18 (by decide) (fun cc4_ => ?_) (fun cc4_ => ?_)
      · refine j_iconst E 48 rfl dX7_leastChanges_47 ?_
        refine j_istore E 50 rfl [(6, .int (J 0)), (0, .ref o), (1, .ref a_w), (2, .ref a_r), (3, .ref (T 161 o)), (4, .ref (T 161 a_w)), (5, .int (J l5_14))] dX7_leastChanges_48 hl (by decide) rfl (fun ls hl => ?_)
        have L50_5 : ∀ (k50 : Nat) (l6_50 : Int) (H : Heap) (locs : List Loc) (ls : Array Slot), inR l6_50 → (0 ≤ l6_50 ∧ l6_50 + l5_14 ≤ (T 1 (T 161 o) : Int) ∧ l6_50 + l5_14 ≤ (T 1 (T 161 a_w) : Int)) → ((T 1 (T 161 o) : Int) - l6_50).toNat < k50 → WK D cy T (v_0) A0 H0 H locs → lv_has ls 9 [(0, .ref o), (1, .ref a_w), (2, .ref a_r), (3, .ref (T 161 o)), (4, .ref (T 161 a_w)), (5, .int (J l5_14)), (6, .int (J l6_50))] → W p l e (rmd 3 0 0) s m ar below meth c H locs 0 0 QW (F0 m 50 ls []) := by
          intro k50
          induction k50 with
          | zero =>
            intro l6_50 H locs ls r_l6_50 iv50 ms50 hw hl
            exact absurd ms50 (Nat.not_lt_zero _)
          | succ k50 ih50 =>
            intro l6_50 H locs ls r_l6_50 iv50 ms50 hw hl
            refine j_iload E 52 rfl dX7_leastChanges_50 (lv_at hl 6 rfl) ?_
            refine j_aload_n E 53 rfl dX7_leastChanges_52 rfl (lv_at hl 3 rfl) ?_
            refine a_ln20 E hK hw (wt_161 hT t_o) 54 rfl dX7_leastChanges_53 (fun _ => ?_)
            refine j_icmp_ge E 57 76 rfl r_l6_50 rr3_ dX7_leastChanges_54 (by decide) (fun cc7_ => ?_) (fun cc7_ => ?_)
            · refine j_aload E 78 rfl dX7_leastChanges_76 (lv_at hl 4 rfl) ?_
              refine a_ln20 E hK hw (wt_161 hT t_w) 79 rfl dX7_leastChanges_78 (fun rr8_ => ?_)
              refine j_iload E 81 rfl dX7_leastChanges_79 (lv_at hl 6 rfl) ?_
              refine j_isub E 82 rfl dX7_leastChanges_81 ?_
              refine j_iload E 84 rfl dX7_leastChanges_82 (lv_at hl 5 rfl) ?_
              refine j_isub E 85 rfl dX7_leastChanges_84 ?_
              refine j_istore E 87 rfl [(7, .int (J ((((T 1 (T 161 a_w) : Int)) - l6_50) - l5_14))), (0, .ref o), (1, .ref a_w), (2, .ref a_r), (3, .ref (T 161 o)), (4, .ref (T 161 a_w)), (5, .int (J l5_14)), (6, .int (J l6_50))] dX7_leastChanges_85 hl (by decide) rfl (fun ls hl => ?_)
              refine j_iconst E 88 rfl dX7_leastChanges_87 ?_
              refine j_istore E 90 rfl [(8, .int (J 0)), (7, .int (J ((((T 1 (T 161 a_w) : Int)) - l6_50) - l5_14))), (0, .ref o), (1, .ref a_w), (2, .ref a_r), (3, .ref (T 161 o)), (4, .ref (T 161 a_w)), (5, .int (J l5_14)), (6, .int (J l6_50))] dX7_leastChanges_88 hl (by decide) rfl (fun ls hl => ?_)
              have L90_9 : ∀ (k90 : Nat) (l8_90 : Int) (y300_c90 : Nat → Int) (H : Heap) (locs : List Loc) (ls : Array Slot), inR l8_90 → ((0 ≤ l8_90) ∧ Ro_ (v_0 300) y300_c90 a_r) → ((T 1 a_r : Int) - l8_90).toNat < k90 → WK D cy T (upV v_0 300 y300_c90) A0 H0 H locs → lv_has ls 9 [(0, .ref o), (1, .ref a_w), (2, .ref a_r), (3, .ref (T 161 o)), (4, .ref (T 161 a_w)), (5, .int (J l5_14)), (6, .int (J l6_50)), (7, .int (J ((((T 1 (T 161 a_w) : Int)) - l6_50) - l5_14))), (8, .int (J l8_90))] → W p l e (rmd 3 0 0) s m ar below meth c H locs 0 0 QW (F0 m 90 ls []) := by
                intro k90
                induction k90 with
                | zero =>
                  intro l8_90 y300_c90 H locs ls r_l8_90 iv90 ms90 hw hl
                  exact absurd ms90 (Nat.not_lt_zero _)
                | succ k90 ih90 =>
                  intro l8_90 y300_c90 H locs ls r_l8_90 iv90 ms90 hw hl
                  obtain ⟨iv90, ik90_⟩ := iv90
                  refine j_iload E 92 rfl dX7_leastChanges_90 (lv_at hl 8 rfl) ?_
                  refine j_iload E 94 rfl dX7_leastChanges_92 (lv_at hl 7 rfl) ?_
                  refine j_icmp_gt E 97 116 rfl r_l8_90 (rr (by omega)) dX7_leastChanges_94 (by decide) (fun cc11_ => ?_) (fun cc11_ => ?_)
                  · refine j_iload E 118 rfl dX7_leastChanges_116 (lv_at hl 5 rfl) ?_
                    refine j_istore E 120 rfl [(8, .int (J l5_14)), (0, .ref o), (1, .ref a_w), (2, .ref a_r), (3, .ref (T 161 o)), (4, .ref (T 161 a_w)), (5, .int (J l5_14)), (6, .int (J l6_50)), (7, .int (J ((((T 1 (T 161 a_w) : Int)) - l6_50) - l5_14)))] dX7_leastChanges_118 hl (by decide) rfl (fun ls hl => ?_)
                    have L120_12 : ∀ (k120 : Nat) (l8_120 : Int) (y300_c120 : Nat → Int) (H : Heap) (locs : List Loc) (ls : Array Slot), inR l8_120 → ((l5_14 ≤ l8_120) ∧ Ro_ (v_0 300) y300_c120 a_r) → ((T 1 (T 161 o) : Int) - l8_120).toNat < k120 → WK D cy T (upV v_0 300 y300_c120) A0 H0 H locs → lv_has ls 9 [(0, .ref o), (1, .ref a_w), (2, .ref a_r), (3, .ref (T 161 o)), (4, .ref (T 161 a_w)), (5, .int (J l5_14)), (6, .int (J l6_50)), (7, .int (J ((((T 1 (T 161 a_w) : Int)) - l6_50) - l5_14))), (8, .int (J l8_120))] → W p l e (rmd 3 0 0) s m ar below meth c H locs 0 0 QW (F0 m 120 ls []) := by
                      intro k120
                      induction k120 with
                      | zero =>
                        intro l8_120 y300_c120 H locs ls r_l8_120 iv120 ms120 hw hl
                        exact absurd ms120 (Nat.not_lt_zero _)
                      | succ k120 ih120 =>
                        intro l8_120 y300_c120 H locs ls r_l8_120 iv120 ms120 hw hl
                        obtain ⟨iv120, ik120_⟩ := iv120
                        refine j_iload E 122 rfl dX7_leastChanges_120 (lv_at hl 8 rfl) ?_
                        refine j_aload_n E 123 rfl dX7_leastChanges_122 rfl (lv_at hl 3 rfl) ?_
                        refine a_ln20 E hK hw (wt_161 hT t_o) 124 rfl dX7_leastChanges_123 (fun _ => ?_)
                        refine j_iload E 126 rfl dX7_leastChanges_124 (lv_at hl 6 rfl) ?_
                        refine j_isub E 127 rfl dX7_leastChanges_126 ?_
                        refine j_icmp_ge E 130 150 rfl r_l8_120 (rr (by omega)) dX7_leastChanges_127 (by decide) (fun cc14_ => ?_) (fun cc14_ => ?_)
                        · refine j_iload E 152 rfl dX7_leastChanges_150 (lv_at hl 7 rfl) ?_
                          refine j_if_lt E 155 169 rfl (rr (by omega)) dX7_leastChanges_152 (by decide) (fun cc15_ => ?_) (fun cc15_ => ?_)
                          · refine j_iconst E 170 rfl dX7_leastChanges_169 ?_
                            exact hret 170 0 (upV v_0 300 y300_c120) _ _ ls hw (rr (by decide)) ⟨y300_c120, rfl, ⟨trivial, ik120_⟩⟩ dX7_leastChanges_170
                          · refine j_iload E 157 rfl dX7_leastChanges_155 (lv_at hl 7 rfl) ?_
                            refine j_aload_n E 158 rfl dX7_leastChanges_157 rfl (lv_at hl 2 rfl) ?_
                            refine a_ln20 E hK hw t_r 159 rfl dX7_leastChanges_158 (fun rr16_ => ?_)
                            refine j_icmp_ge E 162 169 rfl (rr (by omega)) rr16_ dX7_leastChanges_159 (by decide) (fun cc17_ => ?_) (fun cc17_ => ?_)
                            · refine j_iconst E 170 rfl dX7_leastChanges_169 ?_
                              exact hret 170 0 (upV v_0 300 y300_c120) _ _ ls hw (rr (by decide)) ⟨y300_c120, rfl, ⟨trivial, ik120_⟩⟩ dX7_leastChanges_170
                            · refine j_aload_n E 163 rfl dX7_leastChanges_162 rfl (lv_at hl 2 rfl) ?_
                              refine j_iload E 165 rfl dX7_leastChanges_163 (lv_at hl 7 rfl) ?_
                              refine a_ld20 E hK hw t_r (by omega) 166 rfl dX7_leastChanges_165 (fun zz18_ he18_ rr18_ => ?_)
                              refine j_goto E 170 dX7_leastChanges_166 (by decide) ?_
                              exact hret 170 zz18_ (upV v_0 300 y300_c120) _ _ ls hw rr18_ ⟨y300_c120, rfl, ⟨trivial, ik120_⟩⟩ dX7_leastChanges_170
                        · refine j_aload_n E 131 rfl dX7_leastChanges_130 rfl (lv_at hl 3 rfl) ?_
                          refine j_iload E 133 rfl dX7_leastChanges_131 (lv_at hl 8 rfl) ?_
                          refine a_ld20 E hK hw (wt_161 hT t_o) (by omega) 134 rfl dX7_leastChanges_133 (fun zz19_ he19_ rr19_ => ?_)
                          refine j_aload E 136 rfl dX7_leastChanges_134 (lv_at hl 4 rfl) ?_
                          refine j_iload E 138 rfl dX7_leastChanges_136 (lv_at hl 5 rfl) ?_
                          refine j_aload_n E 139 rfl dX7_leastChanges_138 rfl (lv_at hl 2 rfl) ?_
                          refine j_iload E 141 rfl dX7_leastChanges_139 (lv_at hl 7 rfl) ?_
                          refine kS_v E (c_X7_stepRow l D cy T (upV v_0 300 y300_c120) zz19_ (T 161 a_w) l5_14 a_r ((((T 1 (T 161 a_w) : Int)) - l6_50) - l5_14)   rr19_ (wt_161 hT t_w) r_l5_14 t_r (rr (by omega)) (show 0 ≤ l5_14 ∧ ((((T 1 (T 161 a_w) : Int)) - l6_50) - l5_14) + l5_14 ≤ (T 1 (T 161 a_w) : Int) from by omega)) ms_X7_stepRow ml_X7_41 hK hw hA ⟨Nat.le_of_ble_eq_true rfl, Nat.le_of_ble_eq_true rfl⟩ ⟨Nat.le_of_ble_eq_true rfl, Nat.le_of_ble_eq_true rfl⟩ (As := [.int (J zz19_), .ref (T 161 a_w), .int (J l5_14), .ref a_r, .int (J ((((T 1 (T 161 a_w) : Int)) - l6_50) - l5_14))]) (rest := []) rfl rfl hl.1 (Nat.le_of_ble_eq_true rfl) 144 rfl dX7_leastChanges_141 (fun v_20 H locs hq20_ hw => ?_)
                          obtain ⟨y300_20, ev20_, hh20_⟩ := hq20_
                          rw [ev20_] at hw; clear ev20_
                          have hw : WK D cy T (upV v_0 300 y300_20) A0 H0 H locs := cw_eq hw (by first | rfl | (funext j_; simp only [upV, reduceIte]; (repeat' split) <;> first | rfl | omega | (subst_vars; rfl)))
                          obtain ⟨hh20_, kf20_⟩ := hh20_
                          refine j_iinc E 147 rfl [(8, .int (J (l8_120 + 1))), (0, .ref o), (1, .ref a_w), (2, .ref a_r), (3, .ref (T 161 o)), (4, .ref (T 161 a_w)), (5, .int (J l5_14)), (6, .int (J l6_50)), (7, .int (J ((((T 1 (T 161 a_w) : Int)) - l6_50) - l5_14)))] dX7_leastChanges_144 hl (kk := 8) rfl (by decide) rfl (fun ls hl => ?_)
                          refine j_goto E 120 dX7_leastChanges_147 (by decide) ?_
                          exact ih120 (l8_120 + 1) y300_20 H locs ls (rr (by omega)) (⟨by first | omega | (simp only [upB_same]; omega), (Ro_tr ik120_ kf20_)⟩) (by omega) hw (lv_sub hl [1, 2, 3, 4, 5, 6, 7, 8, 0] rfl)
                    exact L120_12 _ l5_14 y300_c90 H locs ls r_l5_14 (⟨by first | omega | (simp only [upB_same]; omega), ik90_⟩) (Nat.lt_succ_self _) hw (lv_sub hl [1, 2, 3, 4, 5, 6, 7, 8, 0] rfl)
                  · refine j_iload E 99 rfl dX7_leastChanges_97 (lv_at hl 8 rfl) ?_
                    refine j_aload_n E 100 rfl dX7_leastChanges_99 rfl (lv_at hl 2 rfl) ?_
                    refine a_ln20 E hK hw t_r 101 rfl dX7_leastChanges_100 (fun rr21_ => ?_)
                    refine j_icmp_ge E 104 116 rfl r_l8_90 rr21_ dX7_leastChanges_101 (by decide) (fun cc22_ => ?_) (fun cc22_ => ?_)
                    · refine j_iload E 118 rfl dX7_leastChanges_116 (lv_at hl 5 rfl) ?_
                      refine j_istore E 120 rfl [(8, .int (J l5_14)), (0, .ref o), (1, .ref a_w), (2, .ref a_r), (3, .ref (T 161 o)), (4, .ref (T 161 a_w)), (5, .int (J l5_14)), (6, .int (J l6_50)), (7, .int (J ((((T 1 (T 161 a_w) : Int)) - l6_50) - l5_14)))] dX7_leastChanges_118 hl (by decide) rfl (fun ls hl => ?_)
                      have L120_23 : ∀ (k120 : Nat) (l8_120 : Int) (y300_c120 : Nat → Int) (H : Heap) (locs : List Loc) (ls : Array Slot), inR l8_120 → ((l5_14 ≤ l8_120) ∧ Ro_ (v_0 300) y300_c120 a_r) → ((T 1 (T 161 o) : Int) - l8_120).toNat < k120 → WK D cy T (upV v_0 300 y300_c120) A0 H0 H locs → lv_has ls 9 [(0, .ref o), (1, .ref a_w), (2, .ref a_r), (3, .ref (T 161 o)), (4, .ref (T 161 a_w)), (5, .int (J l5_14)), (6, .int (J l6_50)), (7, .int (J ((((T 1 (T 161 a_w) : Int)) - l6_50) - l5_14))), (8, .int (J l8_120))] → W p l e (rmd 3 0 0) s m ar below meth c H locs 0 0 QW (F0 m 120 ls []) := by
                        intro k120
                        induction k120 with
                        | zero =>
                          intro l8_120 y300_c120 H locs ls r_l8_120 iv120 ms120 hw hl
                          exact absurd ms120 (Nat.not_lt_zero _)
                        | succ k120 ih120 =>
                          intro l8_120 y300_c120 H locs ls r_l8_120 iv120 ms120 hw hl
                          obtain ⟨iv120, ik120_⟩ := iv120
                          refine j_iload E 122 rfl dX7_leastChanges_120 (lv_at hl 8 rfl) ?_
                          refine j_aload_n E 123 rfl dX7_leastChanges_122 rfl (lv_at hl 3 rfl) ?_
                          refine a_ln20 E hK hw (wt_161 hT t_o) 124 rfl dX7_leastChanges_123 (fun _ => ?_)
                          refine j_iload E 126 rfl dX7_leastChanges_124 (lv_at hl 6 rfl) ?_
                          refine j_isub E 127 rfl dX7_leastChanges_126 ?_
                          refine j_icmp_ge E 130 150 rfl r_l8_120 (rr (by omega)) dX7_leastChanges_127 (by decide) (fun cc25_ => ?_) (fun cc25_ => ?_)
                          · refine j_iload E 152 rfl dX7_leastChanges_150 (lv_at hl 7 rfl) ?_
                            refine j_if_lt E 155 169 rfl (rr (by omega)) dX7_leastChanges_152 (by decide) (fun cc26_ => ?_) (fun cc26_ => ?_)
                            · refine j_iconst E 170 rfl dX7_leastChanges_169 ?_
                              exact hret 170 0 (upV v_0 300 y300_c120) _ _ ls hw (rr (by decide)) ⟨y300_c120, rfl, ⟨trivial, ik120_⟩⟩ dX7_leastChanges_170
                            · refine j_iload E 157 rfl dX7_leastChanges_155 (lv_at hl 7 rfl) ?_
                              refine j_aload_n E 158 rfl dX7_leastChanges_157 rfl (lv_at hl 2 rfl) ?_
                              refine a_ln20 E hK hw t_r 159 rfl dX7_leastChanges_158 (fun _ => ?_)
                              refine j_icmp_ge E 162 169 rfl (rr (by omega)) rr21_ dX7_leastChanges_159 (by decide) (fun cc27_ => ?_) (fun cc27_ => ?_)
                              · refine j_iconst E 170 rfl dX7_leastChanges_169 ?_
                                exact hret 170 0 (upV v_0 300 y300_c120) _ _ ls hw (rr (by decide)) ⟨y300_c120, rfl, ⟨trivial, ik120_⟩⟩ dX7_leastChanges_170
                              · refine j_aload_n E 163 rfl dX7_leastChanges_162 rfl (lv_at hl 2 rfl) ?_
                                refine j_iload E 165 rfl dX7_leastChanges_163 (lv_at hl 7 rfl) ?_
                                refine a_ld20 E hK hw t_r (by omega) 166 rfl dX7_leastChanges_165 (fun zz28_ he28_ rr28_ => ?_)
                                refine j_goto E 170 dX7_leastChanges_166 (by decide) ?_
                                exact hret 170 zz28_ (upV v_0 300 y300_c120) _ _ ls hw rr28_ ⟨y300_c120, rfl, ⟨trivial, ik120_⟩⟩ dX7_leastChanges_170
                          · refine j_aload_n E 131 rfl dX7_leastChanges_130 rfl (lv_at hl 3 rfl) ?_
                            refine j_iload E 133 rfl dX7_leastChanges_131 (lv_at hl 8 rfl) ?_
                            refine a_ld20 E hK hw (wt_161 hT t_o) (by omega) 134 rfl dX7_leastChanges_133 (fun zz29_ he29_ rr29_ => ?_)
                            refine j_aload E 136 rfl dX7_leastChanges_134 (lv_at hl 4 rfl) ?_
                            refine j_iload E 138 rfl dX7_leastChanges_136 (lv_at hl 5 rfl) ?_
                            refine j_aload_n E 139 rfl dX7_leastChanges_138 rfl (lv_at hl 2 rfl) ?_
                            refine j_iload E 141 rfl dX7_leastChanges_139 (lv_at hl 7 rfl) ?_
                            refine kS_v E (c_X7_stepRow l D cy T (upV v_0 300 y300_c120) zz29_ (T 161 a_w) l5_14 a_r ((((T 1 (T 161 a_w) : Int)) - l6_50) - l5_14)   rr29_ (wt_161 hT t_w) r_l5_14 t_r (rr (by omega)) (show 0 ≤ l5_14 ∧ ((((T 1 (T 161 a_w) : Int)) - l6_50) - l5_14) + l5_14 ≤ (T 1 (T 161 a_w) : Int) from by omega)) ms_X7_stepRow ml_X7_41 hK hw hA ⟨Nat.le_of_ble_eq_true rfl, Nat.le_of_ble_eq_true rfl⟩ ⟨Nat.le_of_ble_eq_true rfl, Nat.le_of_ble_eq_true rfl⟩ (As := [.int (J zz29_), .ref (T 161 a_w), .int (J l5_14), .ref a_r, .int (J ((((T 1 (T 161 a_w) : Int)) - l6_50) - l5_14))]) (rest := []) rfl rfl hl.1 (Nat.le_of_ble_eq_true rfl) 144 rfl dX7_leastChanges_141 (fun v_30 H locs hq30_ hw => ?_)
                            obtain ⟨y300_30, ev30_, hh30_⟩ := hq30_
                            rw [ev30_] at hw; clear ev30_
                            have hw : WK D cy T (upV v_0 300 y300_30) A0 H0 H locs := cw_eq hw (by first | rfl | (funext j_; simp only [upV, reduceIte]; (repeat' split) <;> first | rfl | omega | (subst_vars; rfl)))
                            obtain ⟨hh30_, kf30_⟩ := hh30_
                            refine j_iinc E 147 rfl [(8, .int (J (l8_120 + 1))), (0, .ref o), (1, .ref a_w), (2, .ref a_r), (3, .ref (T 161 o)), (4, .ref (T 161 a_w)), (5, .int (J l5_14)), (6, .int (J l6_50)), (7, .int (J ((((T 1 (T 161 a_w) : Int)) - l6_50) - l5_14)))] dX7_leastChanges_144 hl (kk := 8) rfl (by decide) rfl (fun ls hl => ?_)
                            refine j_goto E 120 dX7_leastChanges_147 (by decide) ?_
                            exact ih120 (l8_120 + 1) y300_30 H locs ls (rr (by omega)) (⟨by first | omega | (simp only [upB_same]; omega), (Ro_tr ik120_ kf30_)⟩) (by omega) hw (lv_sub hl [1, 2, 3, 4, 5, 6, 7, 8, 0] rfl)
                      exact L120_23 _ l5_14 y300_c90 H locs ls r_l5_14 (⟨by first | omega | (simp only [upB_same]; omega), ik90_⟩) (Nat.lt_succ_self _) hw (lv_sub hl [1, 2, 3, 4, 5, 6, 7, 8, 0] rfl)
                    · refine j_aload_n E 105 rfl dX7_leastChanges_104 rfl (lv_at hl 2 rfl) ?_
                      refine j_iload E 107 rfl dX7_leastChanges_105 (lv_at hl 8 rfl) ?_
                      refine j_iload E 109 rfl dX7_leastChanges_107 (lv_at hl 8 rfl) ?_
                      refine a_st20 E hK hw t_r r_l8_90 (by omega) 110 rfl dX7_leastChanges_109 (fun H locs hw => ?_)
                      have hw : WK D cy T (upV v_0 300 (upB y300_c90 ((pr a_r (Int.toNat l8_90))) l8_90)) A0 H0 H locs := cw_eq hw (by first | rfl | (funext j_; simp only [upV, reduceIte]; (repeat' split) <;> first | rfl | omega | (subst_vars; rfl)))
                      refine j_iinc E 113 rfl [(8, .int (J (l8_90 + 1))), (0, .ref o), (1, .ref a_w), (2, .ref a_r), (3, .ref (T 161 o)), (4, .ref (T 161 a_w)), (5, .int (J l5_14)), (6, .int (J l6_50)), (7, .int (J ((((T 1 (T 161 a_w) : Int)) - l6_50) - l5_14)))] dX7_leastChanges_110 hl (kk := 8) rfl (by decide) rfl (fun ls hl => ?_)
                      refine j_goto E 90 dX7_leastChanges_113 (by decide) ?_
                      exact ih90 (l8_90 + 1) (upB y300_c90 ((pr a_r (Int.toNat l8_90))) l8_90) H locs ls (rr (by omega)) (⟨by first | omega | (simp only [upB_same]; omega), (Ro_tr ik90_ Ro_up)⟩) (by omega) hw (lv_sub hl [1, 2, 3, 4, 5, 6, 7, 8, 0] rfl)
              exact L90_9 _ 0 (v_0 300) H locs ls (rr (by decide)) (⟨by first | omega | (simp only [upB_same]; omega), Ro_rf⟩) (Nat.lt_succ_self _) (cw_eq hw (by first | rfl | (funext j_; simp only [upV, reduceIte]; (repeat' split) <;> first | rfl | omega | (subst_vars; rfl)))) (lv_sub hl [2, 3, 4, 5, 6, 7, 8, 1, 0] rfl)
            · refine j_aload_n E 58 rfl dX7_leastChanges_57 rfl (lv_at hl 3 rfl) ?_
              refine j_aload E 60 rfl dX7_leastChanges_58 (lv_at hl 4 rfl) ?_
              refine j_iload E 62 rfl dX7_leastChanges_60 (lv_at hl 5 rfl) ?_
              refine j_iload E 64 rfl dX7_leastChanges_62 (lv_at hl 6 rfl) ?_
              refine kS_i E (c_X7_isSameFromEnd l D cy T (v_0) (T 161 o) (T 161 a_w) l5_14 l6_50   (wt_161 hT t_o) (wt_161 hT t_w) r_l5_14 r_l6_50 (show 0 ≤ l5_14 ∧ 0 ≤ l6_50 ∧ l6_50 ≤ (T 1 (T 161 o) : Int) ∧ l6_50 ≤ (T 1 (T 161 a_w) : Int) from by omega)) ms_X7_isSameFromEnd ml_X7_37 hK hw hA ⟨Nat.le_of_ble_eq_true rfl, Nat.le_of_ble_eq_true rfl⟩ ⟨Nat.le_of_ble_eq_true rfl, Nat.le_of_ble_eq_true rfl⟩ (As := [.ref (T 161 o), .ref (T 161 a_w), .int (J l5_14), .int (J l6_50)]) (rest := []) rfl rfl hl.1 (Nat.le_of_ble_eq_true rfl) 67 rfl dX7_leastChanges_64 (fun zz32_ v_32 H locs rr32_ hq32_ hw => ?_)
              obtain ⟨ev32_, hh32_⟩ := hq32_
              rw [ev32_] at hw; clear ev32_
              replace hh32_ : zz32_ ≠ 0 → l5_14 ≤ (T 1 (T 161 o) : Int) - 1 - l6_50 ∧ l5_14 ≤ (T 1 (T 161 a_w) : Int) - 1 - l6_50 := hh32_
              refine j_if_eq E 70 76 rfl rr32_ dX7_leastChanges_67 (by decide) (fun cc33_ => ?_) (fun cc33_ => ?_)
              · refine j_aload E 78 rfl dX7_leastChanges_76 (lv_at hl 4 rfl) ?_
                refine a_ln20 E hK hw (wt_161 hT t_w) 79 rfl dX7_leastChanges_78 (fun rr34_ => ?_)
                refine j_iload E 81 rfl dX7_leastChanges_79 (lv_at hl 6 rfl) ?_
                refine j_isub E 82 rfl dX7_leastChanges_81 ?_
                refine j_iload E 84 rfl dX7_leastChanges_82 (lv_at hl 5 rfl) ?_
                refine j_isub E 85 rfl dX7_leastChanges_84 ?_
                refine j_istore E 87 rfl [(7, .int (J ((((T 1 (T 161 a_w) : Int)) - l6_50) - l5_14))), (0, .ref o), (1, .ref a_w), (2, .ref a_r), (3, .ref (T 161 o)), (4, .ref (T 161 a_w)), (5, .int (J l5_14)), (6, .int (J l6_50))] dX7_leastChanges_85 hl (by decide) rfl (fun ls hl => ?_)
                refine j_iconst E 88 rfl dX7_leastChanges_87 ?_
                refine j_istore E 90 rfl [(8, .int (J 0)), (7, .int (J ((((T 1 (T 161 a_w) : Int)) - l6_50) - l5_14))), (0, .ref o), (1, .ref a_w), (2, .ref a_r), (3, .ref (T 161 o)), (4, .ref (T 161 a_w)), (5, .int (J l5_14)), (6, .int (J l6_50))] dX7_leastChanges_88 hl (by decide) rfl (fun ls hl => ?_)
                have L90_35 : ∀ (k90 : Nat) (l8_90 : Int) (y300_c90 : Nat → Int) (H : Heap) (locs : List Loc) (ls : Array Slot), inR l8_90 → ((0 ≤ l8_90) ∧ Ro_ (v_0 300) y300_c90 a_r) → ((T 1 a_r : Int) - l8_90).toNat < k90 → WK D cy T (upV v_0 300 y300_c90) A0 H0 H locs → lv_has ls 9 [(0, .ref o), (1, .ref a_w), (2, .ref a_r), (3, .ref (T 161 o)), (4, .ref (T 161 a_w)), (5, .int (J l5_14)), (6, .int (J l6_50)), (7, .int (J ((((T 1 (T 161 a_w) : Int)) - l6_50) - l5_14))), (8, .int (J l8_90))] → W p l e (rmd 3 0 0) s m ar below meth c H locs 0 0 QW (F0 m 90 ls []) := by
                  intro k90
                  induction k90 with
                  | zero =>
                    intro l8_90 y300_c90 H locs ls r_l8_90 iv90 ms90 hw hl
                    exact absurd ms90 (Nat.not_lt_zero _)
                  | succ k90 ih90 =>
                    intro l8_90 y300_c90 H locs ls r_l8_90 iv90 ms90 hw hl
                    obtain ⟨iv90, ik90_⟩ := iv90
                    refine j_iload E 92 rfl dX7_leastChanges_90 (lv_at hl 8 rfl) ?_
                    refine j_iload E 94 rfl dX7_leastChanges_92 (lv_at hl 7 rfl) ?_
                    refine j_icmp_gt E 97 116 rfl r_l8_90 (rr (by omega)) dX7_leastChanges_94 (by decide) (fun cc37_ => ?_) (fun cc37_ => ?_)
                    · refine j_iload E 118 rfl dX7_leastChanges_116 (lv_at hl 5 rfl) ?_
                      refine j_istore E 120 rfl [(8, .int (J l5_14)), (0, .ref o), (1, .ref a_w), (2, .ref a_r), (3, .ref (T 161 o)), (4, .ref (T 161 a_w)), (5, .int (J l5_14)), (6, .int (J l6_50)), (7, .int (J ((((T 1 (T 161 a_w) : Int)) - l6_50) - l5_14)))] dX7_leastChanges_118 hl (by decide) rfl (fun ls hl => ?_)
                      have L120_38 : ∀ (k120 : Nat) (l8_120 : Int) (y300_c120 : Nat → Int) (H : Heap) (locs : List Loc) (ls : Array Slot), inR l8_120 → ((l5_14 ≤ l8_120) ∧ Ro_ (v_0 300) y300_c120 a_r) → ((T 1 (T 161 o) : Int) - l8_120).toNat < k120 → WK D cy T (upV v_0 300 y300_c120) A0 H0 H locs → lv_has ls 9 [(0, .ref o), (1, .ref a_w), (2, .ref a_r), (3, .ref (T 161 o)), (4, .ref (T 161 a_w)), (5, .int (J l5_14)), (6, .int (J l6_50)), (7, .int (J ((((T 1 (T 161 a_w) : Int)) - l6_50) - l5_14))), (8, .int (J l8_120))] → W p l e (rmd 3 0 0) s m ar below meth c H locs 0 0 QW (F0 m 120 ls []) := by
                        intro k120
                        induction k120 with
                        | zero =>
                          intro l8_120 y300_c120 H locs ls r_l8_120 iv120 ms120 hw hl
                          exact absurd ms120 (Nat.not_lt_zero _)
                        | succ k120 ih120 =>
                          intro l8_120 y300_c120 H locs ls r_l8_120 iv120 ms120 hw hl
                          obtain ⟨iv120, ik120_⟩ := iv120
                          refine j_iload E 122 rfl dX7_leastChanges_120 (lv_at hl 8 rfl) ?_
                          refine j_aload_n E 123 rfl dX7_leastChanges_122 rfl (lv_at hl 3 rfl) ?_
                          refine a_ln20 E hK hw (wt_161 hT t_o) 124 rfl dX7_leastChanges_123 (fun _ => ?_)
                          refine j_iload E 126 rfl dX7_leastChanges_124 (lv_at hl 6 rfl) ?_
                          refine j_isub E 127 rfl dX7_leastChanges_126 ?_
                          refine j_icmp_ge E 130 150 rfl r_l8_120 (rr (by omega)) dX7_leastChanges_127 (by decide) (fun cc40_ => ?_) (fun cc40_ => ?_)
                          · refine j_iload E 152 rfl dX7_leastChanges_150 (lv_at hl 7 rfl) ?_
                            refine j_if_lt E 155 169 rfl (rr (by omega)) dX7_leastChanges_152 (by decide) (fun cc41_ => ?_) (fun cc41_ => ?_)
                            · refine j_iconst E 170 rfl dX7_leastChanges_169 ?_
                              exact hret 170 0 (upV v_0 300 y300_c120) _ _ ls hw (rr (by decide)) ⟨y300_c120, rfl, ⟨trivial, ik120_⟩⟩ dX7_leastChanges_170
                            · refine j_iload E 157 rfl dX7_leastChanges_155 (lv_at hl 7 rfl) ?_
                              refine j_aload_n E 158 rfl dX7_leastChanges_157 rfl (lv_at hl 2 rfl) ?_
                              refine a_ln20 E hK hw t_r 159 rfl dX7_leastChanges_158 (fun rr42_ => ?_)
                              refine j_icmp_ge E 162 169 rfl (rr (by omega)) rr42_ dX7_leastChanges_159 (by decide) (fun cc43_ => ?_) (fun cc43_ => ?_)
                              · refine j_iconst E 170 rfl dX7_leastChanges_169 ?_
                                exact hret 170 0 (upV v_0 300 y300_c120) _ _ ls hw (rr (by decide)) ⟨y300_c120, rfl, ⟨trivial, ik120_⟩⟩ dX7_leastChanges_170
                              · refine j_aload_n E 163 rfl dX7_leastChanges_162 rfl (lv_at hl 2 rfl) ?_
                                refine j_iload E 165 rfl dX7_leastChanges_163 (lv_at hl 7 rfl) ?_
                                refine a_ld20 E hK hw t_r (by omega) 166 rfl dX7_leastChanges_165 (fun zz44_ he44_ rr44_ => ?_)
                                refine j_goto E 170 dX7_leastChanges_166 (by decide) ?_
                                exact hret 170 zz44_ (upV v_0 300 y300_c120) _ _ ls hw rr44_ ⟨y300_c120, rfl, ⟨trivial, ik120_⟩⟩ dX7_leastChanges_170
                          · refine j_aload_n E 131 rfl dX7_leastChanges_130 rfl (lv_at hl 3 rfl) ?_
                            refine j_iload E 133 rfl dX7_leastChanges_131 (lv_at hl 8 rfl) ?_
                            refine a_ld20 E hK hw (wt_161 hT t_o) (by omega) 134 rfl dX7_leastChanges_133 (fun zz45_ he45_ rr45_ => ?_)
                            refine j_aload E 136 rfl dX7_leastChanges_134 (lv_at hl 4 rfl) ?_
                            refine j_iload E 138 rfl dX7_leastChanges_136 (lv_at hl 5 rfl) ?_
                            refine j_aload_n E 139 rfl dX7_leastChanges_138 rfl (lv_at hl 2 rfl) ?_
                            refine j_iload E 141 rfl dX7_leastChanges_139 (lv_at hl 7 rfl) ?_
                            refine kS_v E (c_X7_stepRow l D cy T (upV v_0 300 y300_c120) zz45_ (T 161 a_w) l5_14 a_r ((((T 1 (T 161 a_w) : Int)) - l6_50) - l5_14)   rr45_ (wt_161 hT t_w) r_l5_14 t_r (rr (by omega)) (show 0 ≤ l5_14 ∧ ((((T 1 (T 161 a_w) : Int)) - l6_50) - l5_14) + l5_14 ≤ (T 1 (T 161 a_w) : Int) from by omega)) ms_X7_stepRow ml_X7_41 hK hw hA ⟨Nat.le_of_ble_eq_true rfl, Nat.le_of_ble_eq_true rfl⟩ ⟨Nat.le_of_ble_eq_true rfl, Nat.le_of_ble_eq_true rfl⟩ (As := [.int (J zz45_), .ref (T 161 a_w), .int (J l5_14), .ref a_r, .int (J ((((T 1 (T 161 a_w) : Int)) - l6_50) - l5_14))]) (rest := []) rfl rfl hl.1 (Nat.le_of_ble_eq_true rfl) 144 rfl dX7_leastChanges_141 (fun v_46 H locs hq46_ hw => ?_)
                            obtain ⟨y300_46, ev46_, hh46_⟩ := hq46_
                            rw [ev46_] at hw; clear ev46_
                            have hw : WK D cy T (upV v_0 300 y300_46) A0 H0 H locs := cw_eq hw (by first | rfl | (funext j_; simp only [upV, reduceIte]; (repeat' split) <;> first | rfl | omega | (subst_vars; rfl)))
                            obtain ⟨hh46_, kf46_⟩ := hh46_
                            refine j_iinc E 147 rfl [(8, .int (J (l8_120 + 1))), (0, .ref o), (1, .ref a_w), (2, .ref a_r), (3, .ref (T 161 o)), (4, .ref (T 161 a_w)), (5, .int (J l5_14)), (6, .int (J l6_50)), (7, .int (J ((((T 1 (T 161 a_w) : Int)) - l6_50) - l5_14)))] dX7_leastChanges_144 hl (kk := 8) rfl (by decide) rfl (fun ls hl => ?_)
                            refine j_goto E 120 dX7_leastChanges_147 (by decide) ?_
                            exact ih120 (l8_120 + 1) y300_46 H locs ls (rr (by omega)) (⟨by first | omega | (simp only [upB_same]; omega), (Ro_tr ik120_ kf46_)⟩) (by omega) hw (lv_sub hl [1, 2, 3, 4, 5, 6, 7, 8, 0] rfl)
                      exact L120_38 _ l5_14 y300_c90 H locs ls r_l5_14 (⟨by first | omega | (simp only [upB_same]; omega), ik90_⟩) (Nat.lt_succ_self _) hw (lv_sub hl [1, 2, 3, 4, 5, 6, 7, 8, 0] rfl)
                    · refine j_iload E 99 rfl dX7_leastChanges_97 (lv_at hl 8 rfl) ?_
                      refine j_aload_n E 100 rfl dX7_leastChanges_99 rfl (lv_at hl 2 rfl) ?_
                      refine a_ln20 E hK hw t_r 101 rfl dX7_leastChanges_100 (fun rr47_ => ?_)
                      refine j_icmp_ge E 104 116 rfl r_l8_90 rr47_ dX7_leastChanges_101 (by decide) (fun cc48_ => ?_) (fun cc48_ => ?_)
                      · refine j_iload E 118 rfl dX7_leastChanges_116 (lv_at hl 5 rfl) ?_
                        refine j_istore E 120 rfl [(8, .int (J l5_14)), (0, .ref o), (1, .ref a_w), (2, .ref a_r), (3, .ref (T 161 o)), (4, .ref (T 161 a_w)), (5, .int (J l5_14)), (6, .int (J l6_50)), (7, .int (J ((((T 1 (T 161 a_w) : Int)) - l6_50) - l5_14)))] dX7_leastChanges_118 hl (by decide) rfl (fun ls hl => ?_)
                        have L120_49 : ∀ (k120 : Nat) (l8_120 : Int) (y300_c120 : Nat → Int) (H : Heap) (locs : List Loc) (ls : Array Slot), inR l8_120 → ((l5_14 ≤ l8_120) ∧ Ro_ (v_0 300) y300_c120 a_r) → ((T 1 (T 161 o) : Int) - l8_120).toNat < k120 → WK D cy T (upV v_0 300 y300_c120) A0 H0 H locs → lv_has ls 9 [(0, .ref o), (1, .ref a_w), (2, .ref a_r), (3, .ref (T 161 o)), (4, .ref (T 161 a_w)), (5, .int (J l5_14)), (6, .int (J l6_50)), (7, .int (J ((((T 1 (T 161 a_w) : Int)) - l6_50) - l5_14))), (8, .int (J l8_120))] → W p l e (rmd 3 0 0) s m ar below meth c H locs 0 0 QW (F0 m 120 ls []) := by
                          intro k120
                          induction k120 with
                          | zero =>
                            intro l8_120 y300_c120 H locs ls r_l8_120 iv120 ms120 hw hl
                            exact absurd ms120 (Nat.not_lt_zero _)
                          | succ k120 ih120 =>
                            intro l8_120 y300_c120 H locs ls r_l8_120 iv120 ms120 hw hl
                            obtain ⟨iv120, ik120_⟩ := iv120
                            refine j_iload E 122 rfl dX7_leastChanges_120 (lv_at hl 8 rfl) ?_
                            refine j_aload_n E 123 rfl dX7_leastChanges_122 rfl (lv_at hl 3 rfl) ?_
                            refine a_ln20 E hK hw (wt_161 hT t_o) 124 rfl dX7_leastChanges_123 (fun _ => ?_)
                            refine j_iload E 126 rfl dX7_leastChanges_124 (lv_at hl 6 rfl) ?_
                            refine j_isub E 127 rfl dX7_leastChanges_126 ?_
                            refine j_icmp_ge E 130 150 rfl r_l8_120 (rr (by omega)) dX7_leastChanges_127 (by decide) (fun cc51_ => ?_) (fun cc51_ => ?_)
                            · refine j_iload E 152 rfl dX7_leastChanges_150 (lv_at hl 7 rfl) ?_
                              refine j_if_lt E 155 169 rfl (rr (by omega)) dX7_leastChanges_152 (by decide) (fun cc52_ => ?_) (fun cc52_ => ?_)
                              · refine j_iconst E 170 rfl dX7_leastChanges_169 ?_
                                exact hret 170 0 (upV v_0 300 y300_c120) _ _ ls hw (rr (by decide)) ⟨y300_c120, rfl, ⟨trivial, ik120_⟩⟩ dX7_leastChanges_170
                              · refine j_iload E 157 rfl dX7_leastChanges_155 (lv_at hl 7 rfl) ?_
                                refine j_aload_n E 158 rfl dX7_leastChanges_157 rfl (lv_at hl 2 rfl) ?_
                                refine a_ln20 E hK hw t_r 159 rfl dX7_leastChanges_158 (fun _ => ?_)
                                refine j_icmp_ge E 162 169 rfl (rr (by omega)) rr47_ dX7_leastChanges_159 (by decide) (fun cc53_ => ?_) (fun cc53_ => ?_)
                                · refine j_iconst E 170 rfl dX7_leastChanges_169 ?_
                                  exact hret 170 0 (upV v_0 300 y300_c120) _ _ ls hw (rr (by decide)) ⟨y300_c120, rfl, ⟨trivial, ik120_⟩⟩ dX7_leastChanges_170
                                · refine j_aload_n E 163 rfl dX7_leastChanges_162 rfl (lv_at hl 2 rfl) ?_
                                  refine j_iload E 165 rfl dX7_leastChanges_163 (lv_at hl 7 rfl) ?_
                                  refine a_ld20 E hK hw t_r (by omega) 166 rfl dX7_leastChanges_165 (fun zz54_ he54_ rr54_ => ?_)
                                  refine j_goto E 170 dX7_leastChanges_166 (by decide) ?_
                                  exact hret 170 zz54_ (upV v_0 300 y300_c120) _ _ ls hw rr54_ ⟨y300_c120, rfl, ⟨trivial, ik120_⟩⟩ dX7_leastChanges_170
                            · refine j_aload_n E 131 rfl dX7_leastChanges_130 rfl (lv_at hl 3 rfl) ?_
                              refine j_iload E 133 rfl dX7_leastChanges_131 (lv_at hl 8 rfl) ?_
                              refine a_ld20 E hK hw (wt_161 hT t_o) (by omega) 134 rfl dX7_leastChanges_133 (fun zz55_ he55_ rr55_ => ?_)
                              refine j_aload E 136 rfl dX7_leastChanges_134 (lv_at hl 4 rfl) ?_
                              refine j_iload E 138 rfl dX7_leastChanges_136 (lv_at hl 5 rfl) ?_
                              refine j_aload_n E 139 rfl dX7_leastChanges_138 rfl (lv_at hl 2 rfl) ?_
                              refine j_iload E 141 rfl dX7_leastChanges_139 (lv_at hl 7 rfl) ?_
                              refine kS_v E (c_X7_stepRow l D cy T (upV v_0 300 y300_c120) zz55_ (T 161 a_w) l5_14 a_r ((((T 1 (T 161 a_w) : Int)) - l6_50) - l5_14)   rr55_ (wt_161 hT t_w) r_l5_14 t_r (rr (by omega)) (show 0 ≤ l5_14 ∧ ((((T 1 (T 161 a_w) : Int)) - l6_50) - l5_14) + l5_14 ≤ (T 1 (T 161 a_w) : Int) from by omega)) ms_X7_stepRow ml_X7_41 hK hw hA ⟨Nat.le_of_ble_eq_true rfl, Nat.le_of_ble_eq_true rfl⟩ ⟨Nat.le_of_ble_eq_true rfl, Nat.le_of_ble_eq_true rfl⟩ (As := [.int (J zz55_), .ref (T 161 a_w), .int (J l5_14), .ref a_r, .int (J ((((T 1 (T 161 a_w) : Int)) - l6_50) - l5_14))]) (rest := []) rfl rfl hl.1 (Nat.le_of_ble_eq_true rfl) 144 rfl dX7_leastChanges_141 (fun v_56 H locs hq56_ hw => ?_)
                              obtain ⟨y300_56, ev56_, hh56_⟩ := hq56_
                              rw [ev56_] at hw; clear ev56_
                              have hw : WK D cy T (upV v_0 300 y300_56) A0 H0 H locs := cw_eq hw (by first | rfl | (funext j_; simp only [upV, reduceIte]; (repeat' split) <;> first | rfl | omega | (subst_vars; rfl)))
                              obtain ⟨hh56_, kf56_⟩ := hh56_
                              refine j_iinc E 147 rfl [(8, .int (J (l8_120 + 1))), (0, .ref o), (1, .ref a_w), (2, .ref a_r), (3, .ref (T 161 o)), (4, .ref (T 161 a_w)), (5, .int (J l5_14)), (6, .int (J l6_50)), (7, .int (J ((((T 1 (T 161 a_w) : Int)) - l6_50) - l5_14)))] dX7_leastChanges_144 hl (kk := 8) rfl (by decide) rfl (fun ls hl => ?_)
                              refine j_goto E 120 dX7_leastChanges_147 (by decide) ?_
                              exact ih120 (l8_120 + 1) y300_56 H locs ls (rr (by omega)) (⟨by first | omega | (simp only [upB_same]; omega), (Ro_tr ik120_ kf56_)⟩) (by omega) hw (lv_sub hl [1, 2, 3, 4, 5, 6, 7, 8, 0] rfl)
                        exact L120_49 _ l5_14 y300_c90 H locs ls r_l5_14 (⟨by first | omega | (simp only [upB_same]; omega), ik90_⟩) (Nat.lt_succ_self _) hw (lv_sub hl [1, 2, 3, 4, 5, 6, 7, 8, 0] rfl)
                      · refine j_aload_n E 105 rfl dX7_leastChanges_104 rfl (lv_at hl 2 rfl) ?_
                        refine j_iload E 107 rfl dX7_leastChanges_105 (lv_at hl 8 rfl) ?_
                        refine j_iload E 109 rfl dX7_leastChanges_107 (lv_at hl 8 rfl) ?_
                        refine a_st20 E hK hw t_r r_l8_90 (by omega) 110 rfl dX7_leastChanges_109 (fun H locs hw => ?_)
                        have hw : WK D cy T (upV v_0 300 (upB y300_c90 ((pr a_r (Int.toNat l8_90))) l8_90)) A0 H0 H locs := cw_eq hw (by first | rfl | (funext j_; simp only [upV, reduceIte]; (repeat' split) <;> first | rfl | omega | (subst_vars; rfl)))
                        refine j_iinc E 113 rfl [(8, .int (J (l8_90 + 1))), (0, .ref o), (1, .ref a_w), (2, .ref a_r), (3, .ref (T 161 o)), (4, .ref (T 161 a_w)), (5, .int (J l5_14)), (6, .int (J l6_50)), (7, .int (J ((((T 1 (T 161 a_w) : Int)) - l6_50) - l5_14)))] dX7_leastChanges_110 hl (kk := 8) rfl (by decide) rfl (fun ls hl => ?_)
                        refine j_goto E 90 dX7_leastChanges_113 (by decide) ?_
                        exact ih90 (l8_90 + 1) (upB y300_c90 ((pr a_r (Int.toNat l8_90))) l8_90) H locs ls (rr (by omega)) (⟨by first | omega | (simp only [upB_same]; omega), (Ro_tr ik90_ Ro_up)⟩) (by omega) hw (lv_sub hl [1, 2, 3, 4, 5, 6, 7, 8, 0] rfl)
                exact L90_35 _ 0 (v_0 300) H locs ls (rr (by decide)) (⟨by first | omega | (simp only [upB_same]; omega), Ro_rf⟩) (Nat.lt_succ_self _) (cw_eq hw (by first | rfl | (funext j_; simp only [upV, reduceIte]; (repeat' split) <;> first | rfl | omega | (subst_vars; rfl)))) (lv_sub hl [2, 3, 4, 5, 6, 7, 8, 1, 0] rfl)
              · refine j_iinc E 73 rfl [(6, .int (J (l6_50 + 1))), (0, .ref o), (1, .ref a_w), (2, .ref a_r), (3, .ref (T 161 o)), (4, .ref (T 161 a_w)), (5, .int (J l5_14))] dX7_leastChanges_70 hl (kk := 6) rfl (by decide) rfl (fun ls hl => ?_)
                refine j_goto E 50 dX7_leastChanges_73 (by decide) ?_
                exact ih50 (l6_50 + 1)  H locs ls (rr (by omega)) (by omega) (by omega) hw (lv_sub hl [1, 2, 3, 4, 5, 6, 0] rfl)
        exact L50_5 _ 0  H locs ls (rr (by decide)) (by omega) (Nat.lt_succ_self _) hw (lv_sub hl [1, 2, 3, 4, 5, 6, 0] rfl)
      · refine j_iload E 23 rfl dX7_leastChanges_21 (lv_at hl 5 rfl) ?_
        refine j_aload E 25 rfl dX7_leastChanges_23 (lv_at hl 4 rfl) ?_
        refine a_ln20 E hK hw (wt_161 hT t_w) 26 rfl dX7_leastChanges_25 (fun rr58_ => ?_)
        refine j_icmp_ge E 29 47 rfl r_l5_14 rr58_ dX7_leastChanges_26 (by decide) (fun cc59_ => ?_) (fun cc59_ => ?_)
        · refine j_iconst E 48 rfl dX7_leastChanges_47 ?_
          refine j_istore E 50 rfl [(6, .int (J 0)), (0, .ref o), (1, .ref a_w), (2, .ref a_r), (3, .ref (T 161 o)), (4, .ref (T 161 a_w)), (5, .int (J l5_14))] dX7_leastChanges_48 hl (by decide) rfl (fun ls hl => ?_)
          have L50_60 : ∀ (k50 : Nat) (l6_50 : Int) (H : Heap) (locs : List Loc) (ls : Array Slot), inR l6_50 → (0 ≤ l6_50 ∧ l6_50 + l5_14 ≤ (T 1 (T 161 o) : Int) ∧ l6_50 + l5_14 ≤ (T 1 (T 161 a_w) : Int)) → ((T 1 (T 161 o) : Int) - l6_50).toNat < k50 → WK D cy T (v_0) A0 H0 H locs → lv_has ls 9 [(0, .ref o), (1, .ref a_w), (2, .ref a_r), (3, .ref (T 161 o)), (4, .ref (T 161 a_w)), (5, .int (J l5_14)), (6, .int (J l6_50))] → W p l e (rmd 3 0 0) s m ar below meth c H locs 0 0 QW (F0 m 50 ls []) := by
            intro k50
            induction k50 with
            | zero =>
              intro l6_50 H locs ls r_l6_50 iv50 ms50 hw hl
              exact absurd ms50 (Nat.not_lt_zero _)
            | succ k50 ih50 =>
              intro l6_50 H locs ls r_l6_50 iv50 ms50 hw hl
              refine j_iload E 52 rfl dX7_leastChanges_50 (lv_at hl 6 rfl) ?_
              refine j_aload_n E 53 rfl dX7_leastChanges_52 rfl (lv_at hl 3 rfl) ?_
              refine a_ln20 E hK hw (wt_161 hT t_o) 54 rfl dX7_leastChanges_53 (fun _ => ?_)
              refine j_icmp_ge E 57 76 rfl r_l6_50 rr3_ dX7_leastChanges_54 (by decide) (fun cc62_ => ?_) (fun cc62_ => ?_)
              · refine j_aload E 78 rfl dX7_leastChanges_76 (lv_at hl 4 rfl) ?_
                refine a_ln20 E hK hw (wt_161 hT t_w) 79 rfl dX7_leastChanges_78 (fun _ => ?_)
                refine j_iload E 81 rfl dX7_leastChanges_79 (lv_at hl 6 rfl) ?_
                refine j_isub E 82 rfl dX7_leastChanges_81 ?_
                refine j_iload E 84 rfl dX7_leastChanges_82 (lv_at hl 5 rfl) ?_
                refine j_isub E 85 rfl dX7_leastChanges_84 ?_
                refine j_istore E 87 rfl [(7, .int (J ((((T 1 (T 161 a_w) : Int)) - l6_50) - l5_14))), (0, .ref o), (1, .ref a_w), (2, .ref a_r), (3, .ref (T 161 o)), (4, .ref (T 161 a_w)), (5, .int (J l5_14)), (6, .int (J l6_50))] dX7_leastChanges_85 hl (by decide) rfl (fun ls hl => ?_)
                refine j_iconst E 88 rfl dX7_leastChanges_87 ?_
                refine j_istore E 90 rfl [(8, .int (J 0)), (7, .int (J ((((T 1 (T 161 a_w) : Int)) - l6_50) - l5_14))), (0, .ref o), (1, .ref a_w), (2, .ref a_r), (3, .ref (T 161 o)), (4, .ref (T 161 a_w)), (5, .int (J l5_14)), (6, .int (J l6_50))] dX7_leastChanges_88 hl (by decide) rfl (fun ls hl => ?_)
                have L90_63 : ∀ (k90 : Nat) (l8_90 : Int) (y300_c90 : Nat → Int) (H : Heap) (locs : List Loc) (ls : Array Slot), inR l8_90 → ((0 ≤ l8_90) ∧ Ro_ (v_0 300) y300_c90 a_r) → ((T 1 a_r : Int) - l8_90).toNat < k90 → WK D cy T (upV v_0 300 y300_c90) A0 H0 H locs → lv_has ls 9 [(0, .ref o), (1, .ref a_w), (2, .ref a_r), (3, .ref (T 161 o)), (4, .ref (T 161 a_w)), (5, .int (J l5_14)), (6, .int (J l6_50)), (7, .int (J ((((T 1 (T 161 a_w) : Int)) - l6_50) - l5_14))), (8, .int (J l8_90))] → W p l e (rmd 3 0 0) s m ar below meth c H locs 0 0 QW (F0 m 90 ls []) := by
                  intro k90
                  induction k90 with
                  | zero =>
                    intro l8_90 y300_c90 H locs ls r_l8_90 iv90 ms90 hw hl
                    exact absurd ms90 (Nat.not_lt_zero _)
                  | succ k90 ih90 =>
                    intro l8_90 y300_c90 H locs ls r_l8_90 iv90 ms90 hw hl
                    obtain ⟨iv90, ik90_⟩ := iv90
                    refine j_iload E 92 rfl dX7_leastChanges_90 (lv_at hl 8 rfl) ?_
                    refine j_iload E 94 rfl dX7_leastChanges_92 (lv_at hl 7 rfl) ?_
                    refine j_icmp_gt E 97 116 rfl r_l8_90 (rr (by omega)) dX7_leastChanges_94 (by decide) (fun cc65_ => ?_) (fun cc65_ => ?_)
                    · refine j_iload E 118 rfl dX7_leastChanges_116 (lv_at hl 5 rfl) ?_
                      refine j_istore E 120 rfl [(8, .int (J l5_14)), (0, .ref o), (1, .ref a_w), (2, .ref a_r), (3, .ref (T 161 o)), (4, .ref (T 161 a_w)), (5, .int (J l5_14)), (6, .int (J l6_50)), (7, .int (J ((((T 1 (T 161 a_w) : Int)) - l6_50) - l5_14)))] dX7_leastChanges_118 hl (by decide) rfl (fun ls hl => ?_)
                      have L120_66 : ∀ (k120 : Nat) (l8_120 : Int) (y300_c120 : Nat → Int) (H : Heap) (locs : List Loc) (ls : Array Slot), inR l8_120 → ((l5_14 ≤ l8_120) ∧ Ro_ (v_0 300) y300_c120 a_r) → ((T 1 (T 161 o) : Int) - l8_120).toNat < k120 → WK D cy T (upV v_0 300 y300_c120) A0 H0 H locs → lv_has ls 9 [(0, .ref o), (1, .ref a_w), (2, .ref a_r), (3, .ref (T 161 o)), (4, .ref (T 161 a_w)), (5, .int (J l5_14)), (6, .int (J l6_50)), (7, .int (J ((((T 1 (T 161 a_w) : Int)) - l6_50) - l5_14))), (8, .int (J l8_120))] → W p l e (rmd 3 0 0) s m ar below meth c H locs 0 0 QW (F0 m 120 ls []) := by
                        intro k120
                        induction k120 with
                        | zero =>
                          intro l8_120 y300_c120 H locs ls r_l8_120 iv120 ms120 hw hl
                          exact absurd ms120 (Nat.not_lt_zero _)
                        | succ k120 ih120 =>
                          intro l8_120 y300_c120 H locs ls r_l8_120 iv120 ms120 hw hl
                          obtain ⟨iv120, ik120_⟩ := iv120
                          refine j_iload E 122 rfl dX7_leastChanges_120 (lv_at hl 8 rfl) ?_
                          refine j_aload_n E 123 rfl dX7_leastChanges_122 rfl (lv_at hl 3 rfl) ?_
                          refine a_ln20 E hK hw (wt_161 hT t_o) 124 rfl dX7_leastChanges_123 (fun _ => ?_)
                          refine j_iload E 126 rfl dX7_leastChanges_124 (lv_at hl 6 rfl) ?_
                          refine j_isub E 127 rfl dX7_leastChanges_126 ?_
                          refine j_icmp_ge E 130 150 rfl r_l8_120 (rr (by omega)) dX7_leastChanges_127 (by decide) (fun cc68_ => ?_) (fun cc68_ => ?_)
                          · refine j_iload E 152 rfl dX7_leastChanges_150 (lv_at hl 7 rfl) ?_
                            refine j_if_lt E 155 169 rfl (rr (by omega)) dX7_leastChanges_152 (by decide) (fun cc69_ => ?_) (fun cc69_ => ?_)
                            · refine j_iconst E 170 rfl dX7_leastChanges_169 ?_
                              exact hret 170 0 (upV v_0 300 y300_c120) _ _ ls hw (rr (by decide)) ⟨y300_c120, rfl, ⟨trivial, ik120_⟩⟩ dX7_leastChanges_170
                            · refine j_iload E 157 rfl dX7_leastChanges_155 (lv_at hl 7 rfl) ?_
                              refine j_aload_n E 158 rfl dX7_leastChanges_157 rfl (lv_at hl 2 rfl) ?_
                              refine a_ln20 E hK hw t_r 159 rfl dX7_leastChanges_158 (fun rr70_ => ?_)
                              refine j_icmp_ge E 162 169 rfl (rr (by omega)) rr70_ dX7_leastChanges_159 (by decide) (fun cc71_ => ?_) (fun cc71_ => ?_)
                              · refine j_iconst E 170 rfl dX7_leastChanges_169 ?_
                                exact hret 170 0 (upV v_0 300 y300_c120) _ _ ls hw (rr (by decide)) ⟨y300_c120, rfl, ⟨trivial, ik120_⟩⟩ dX7_leastChanges_170
                              · refine j_aload_n E 163 rfl dX7_leastChanges_162 rfl (lv_at hl 2 rfl) ?_
                                refine j_iload E 165 rfl dX7_leastChanges_163 (lv_at hl 7 rfl) ?_
                                refine a_ld20 E hK hw t_r (by omega) 166 rfl dX7_leastChanges_165 (fun zz72_ he72_ rr72_ => ?_)
                                refine j_goto E 170 dX7_leastChanges_166 (by decide) ?_
                                exact hret 170 zz72_ (upV v_0 300 y300_c120) _ _ ls hw rr72_ ⟨y300_c120, rfl, ⟨trivial, ik120_⟩⟩ dX7_leastChanges_170
                          · refine j_aload_n E 131 rfl dX7_leastChanges_130 rfl (lv_at hl 3 rfl) ?_
                            refine j_iload E 133 rfl dX7_leastChanges_131 (lv_at hl 8 rfl) ?_
                            refine a_ld20 E hK hw (wt_161 hT t_o) (by omega) 134 rfl dX7_leastChanges_133 (fun zz73_ he73_ rr73_ => ?_)
                            refine j_aload E 136 rfl dX7_leastChanges_134 (lv_at hl 4 rfl) ?_
                            refine j_iload E 138 rfl dX7_leastChanges_136 (lv_at hl 5 rfl) ?_
                            refine j_aload_n E 139 rfl dX7_leastChanges_138 rfl (lv_at hl 2 rfl) ?_
                            refine j_iload E 141 rfl dX7_leastChanges_139 (lv_at hl 7 rfl) ?_
                            refine kS_v E (c_X7_stepRow l D cy T (upV v_0 300 y300_c120) zz73_ (T 161 a_w) l5_14 a_r ((((T 1 (T 161 a_w) : Int)) - l6_50) - l5_14)   rr73_ (wt_161 hT t_w) r_l5_14 t_r (rr (by omega)) (show 0 ≤ l5_14 ∧ ((((T 1 (T 161 a_w) : Int)) - l6_50) - l5_14) + l5_14 ≤ (T 1 (T 161 a_w) : Int) from by omega)) ms_X7_stepRow ml_X7_41 hK hw hA ⟨Nat.le_of_ble_eq_true rfl, Nat.le_of_ble_eq_true rfl⟩ ⟨Nat.le_of_ble_eq_true rfl, Nat.le_of_ble_eq_true rfl⟩ (As := [.int (J zz73_), .ref (T 161 a_w), .int (J l5_14), .ref a_r, .int (J ((((T 1 (T 161 a_w) : Int)) - l6_50) - l5_14))]) (rest := []) rfl rfl hl.1 (Nat.le_of_ble_eq_true rfl) 144 rfl dX7_leastChanges_141 (fun v_74 H locs hq74_ hw => ?_)
                            obtain ⟨y300_74, ev74_, hh74_⟩ := hq74_
                            rw [ev74_] at hw; clear ev74_
                            have hw : WK D cy T (upV v_0 300 y300_74) A0 H0 H locs := cw_eq hw (by first | rfl | (funext j_; simp only [upV, reduceIte]; (repeat' split) <;> first | rfl | omega | (subst_vars; rfl)))
                            obtain ⟨hh74_, kf74_⟩ := hh74_
                            refine j_iinc E 147 rfl [(8, .int (J (l8_120 + 1))), (0, .ref o), (1, .ref a_w), (2, .ref a_r), (3, .ref (T 161 o)), (4, .ref (T 161 a_w)), (5, .int (J l5_14)), (6, .int (J l6_50)), (7, .int (J ((((T 1 (T 161 a_w) : Int)) - l6_50) - l5_14)))] dX7_leastChanges_144 hl (kk := 8) rfl (by decide) rfl (fun ls hl => ?_)
                            refine j_goto E 120 dX7_leastChanges_147 (by decide) ?_
                            exact ih120 (l8_120 + 1) y300_74 H locs ls (rr (by omega)) (⟨by first | omega | (simp only [upB_same]; omega), (Ro_tr ik120_ kf74_)⟩) (by omega) hw (lv_sub hl [1, 2, 3, 4, 5, 6, 7, 8, 0] rfl)
                      exact L120_66 _ l5_14 y300_c90 H locs ls r_l5_14 (⟨by first | omega | (simp only [upB_same]; omega), ik90_⟩) (Nat.lt_succ_self _) hw (lv_sub hl [1, 2, 3, 4, 5, 6, 7, 8, 0] rfl)
                    · refine j_iload E 99 rfl dX7_leastChanges_97 (lv_at hl 8 rfl) ?_
                      refine j_aload_n E 100 rfl dX7_leastChanges_99 rfl (lv_at hl 2 rfl) ?_
                      refine a_ln20 E hK hw t_r 101 rfl dX7_leastChanges_100 (fun rr75_ => ?_)
                      refine j_icmp_ge E 104 116 rfl r_l8_90 rr75_ dX7_leastChanges_101 (by decide) (fun cc76_ => ?_) (fun cc76_ => ?_)
                      · refine j_iload E 118 rfl dX7_leastChanges_116 (lv_at hl 5 rfl) ?_
                        refine j_istore E 120 rfl [(8, .int (J l5_14)), (0, .ref o), (1, .ref a_w), (2, .ref a_r), (3, .ref (T 161 o)), (4, .ref (T 161 a_w)), (5, .int (J l5_14)), (6, .int (J l6_50)), (7, .int (J ((((T 1 (T 161 a_w) : Int)) - l6_50) - l5_14)))] dX7_leastChanges_118 hl (by decide) rfl (fun ls hl => ?_)
                        have L120_77 : ∀ (k120 : Nat) (l8_120 : Int) (y300_c120 : Nat → Int) (H : Heap) (locs : List Loc) (ls : Array Slot), inR l8_120 → ((l5_14 ≤ l8_120) ∧ Ro_ (v_0 300) y300_c120 a_r) → ((T 1 (T 161 o) : Int) - l8_120).toNat < k120 → WK D cy T (upV v_0 300 y300_c120) A0 H0 H locs → lv_has ls 9 [(0, .ref o), (1, .ref a_w), (2, .ref a_r), (3, .ref (T 161 o)), (4, .ref (T 161 a_w)), (5, .int (J l5_14)), (6, .int (J l6_50)), (7, .int (J ((((T 1 (T 161 a_w) : Int)) - l6_50) - l5_14))), (8, .int (J l8_120))] → W p l e (rmd 3 0 0) s m ar below meth c H locs 0 0 QW (F0 m 120 ls []) := by
                          intro k120
                          induction k120 with
                          | zero =>
                            intro l8_120 y300_c120 H locs ls r_l8_120 iv120 ms120 hw hl
                            exact absurd ms120 (Nat.not_lt_zero _)
                          | succ k120 ih120 =>
                            intro l8_120 y300_c120 H locs ls r_l8_120 iv120 ms120 hw hl
                            obtain ⟨iv120, ik120_⟩ := iv120
                            refine j_iload E 122 rfl dX7_leastChanges_120 (lv_at hl 8 rfl) ?_
                            refine j_aload_n E 123 rfl dX7_leastChanges_122 rfl (lv_at hl 3 rfl) ?_
                            refine a_ln20 E hK hw (wt_161 hT t_o) 124 rfl dX7_leastChanges_123 (fun _ => ?_)
                            refine j_iload E 126 rfl dX7_leastChanges_124 (lv_at hl 6 rfl) ?_
                            refine j_isub E 127 rfl dX7_leastChanges_126 ?_
                            refine j_icmp_ge E 130 150 rfl r_l8_120 (rr (by omega)) dX7_leastChanges_127 (by decide) (fun cc79_ => ?_) (fun cc79_ => ?_)
                            · refine j_iload E 152 rfl dX7_leastChanges_150 (lv_at hl 7 rfl) ?_
                              refine j_if_lt E 155 169 rfl (rr (by omega)) dX7_leastChanges_152 (by decide) (fun cc80_ => ?_) (fun cc80_ => ?_)
                              · refine j_iconst E 170 rfl dX7_leastChanges_169 ?_
                                exact hret 170 0 (upV v_0 300 y300_c120) _ _ ls hw (rr (by decide)) ⟨y300_c120, rfl, ⟨trivial, ik120_⟩⟩ dX7_leastChanges_170
                              · refine j_iload E 157 rfl dX7_leastChanges_155 (lv_at hl 7 rfl) ?_
                                refine j_aload_n E 158 rfl dX7_leastChanges_157 rfl (lv_at hl 2 rfl) ?_
                                refine a_ln20 E hK hw t_r 159 rfl dX7_leastChanges_158 (fun _ => ?_)
                                refine j_icmp_ge E 162 169 rfl (rr (by omega)) rr75_ dX7_leastChanges_159 (by decide) (fun cc81_ => ?_) (fun cc81_ => ?_)
                                · refine j_iconst E 170 rfl dX7_leastChanges_169 ?_
                                  exact hret 170 0 (upV v_0 300 y300_c120) _ _ ls hw (rr (by decide)) ⟨y300_c120, rfl, ⟨trivial, ik120_⟩⟩ dX7_leastChanges_170
                                · refine j_aload_n E 163 rfl dX7_leastChanges_162 rfl (lv_at hl 2 rfl) ?_
                                  refine j_iload E 165 rfl dX7_leastChanges_163 (lv_at hl 7 rfl) ?_
                                  refine a_ld20 E hK hw t_r (by omega) 166 rfl dX7_leastChanges_165 (fun zz82_ he82_ rr82_ => ?_)
                                  refine j_goto E 170 dX7_leastChanges_166 (by decide) ?_
                                  exact hret 170 zz82_ (upV v_0 300 y300_c120) _ _ ls hw rr82_ ⟨y300_c120, rfl, ⟨trivial, ik120_⟩⟩ dX7_leastChanges_170
                            · refine j_aload_n E 131 rfl dX7_leastChanges_130 rfl (lv_at hl 3 rfl) ?_
                              refine j_iload E 133 rfl dX7_leastChanges_131 (lv_at hl 8 rfl) ?_
                              refine a_ld20 E hK hw (wt_161 hT t_o) (by omega) 134 rfl dX7_leastChanges_133 (fun zz83_ he83_ rr83_ => ?_)
                              refine j_aload E 136 rfl dX7_leastChanges_134 (lv_at hl 4 rfl) ?_
                              refine j_iload E 138 rfl dX7_leastChanges_136 (lv_at hl 5 rfl) ?_
                              refine j_aload_n E 139 rfl dX7_leastChanges_138 rfl (lv_at hl 2 rfl) ?_
                              refine j_iload E 141 rfl dX7_leastChanges_139 (lv_at hl 7 rfl) ?_
                              refine kS_v E (c_X7_stepRow l D cy T (upV v_0 300 y300_c120) zz83_ (T 161 a_w) l5_14 a_r ((((T 1 (T 161 a_w) : Int)) - l6_50) - l5_14)   rr83_ (wt_161 hT t_w) r_l5_14 t_r (rr (by omega)) (show 0 ≤ l5_14 ∧ ((((T 1 (T 161 a_w) : Int)) - l6_50) - l5_14) + l5_14 ≤ (T 1 (T 161 a_w) : Int) from by omega)) ms_X7_stepRow ml_X7_41 hK hw hA ⟨Nat.le_of_ble_eq_true rfl, Nat.le_of_ble_eq_true rfl⟩ ⟨Nat.le_of_ble_eq_true rfl, Nat.le_of_ble_eq_true rfl⟩ (As := [.int (J zz83_), .ref (T 161 a_w), .int (J l5_14), .ref a_r, .int (J ((((T 1 (T 161 a_w) : Int)) - l6_50) - l5_14))]) (rest := []) rfl rfl hl.1 (Nat.le_of_ble_eq_true rfl) 144 rfl dX7_leastChanges_141 (fun v_84 H locs hq84_ hw => ?_)
                              obtain ⟨y300_84, ev84_, hh84_⟩ := hq84_
                              rw [ev84_] at hw; clear ev84_
                              have hw : WK D cy T (upV v_0 300 y300_84) A0 H0 H locs := cw_eq hw (by first | rfl | (funext j_; simp only [upV, reduceIte]; (repeat' split) <;> first | rfl | omega | (subst_vars; rfl)))
                              obtain ⟨hh84_, kf84_⟩ := hh84_
                              refine j_iinc E 147 rfl [(8, .int (J (l8_120 + 1))), (0, .ref o), (1, .ref a_w), (2, .ref a_r), (3, .ref (T 161 o)), (4, .ref (T 161 a_w)), (5, .int (J l5_14)), (6, .int (J l6_50)), (7, .int (J ((((T 1 (T 161 a_w) : Int)) - l6_50) - l5_14)))] dX7_leastChanges_144 hl (kk := 8) rfl (by decide) rfl (fun ls hl => ?_)
                              refine j_goto E 120 dX7_leastChanges_147 (by decide) ?_
                              exact ih120 (l8_120 + 1) y300_84 H locs ls (rr (by omega)) (⟨by first | omega | (simp only [upB_same]; omega), (Ro_tr ik120_ kf84_)⟩) (by omega) hw (lv_sub hl [1, 2, 3, 4, 5, 6, 7, 8, 0] rfl)
                        exact L120_77 _ l5_14 y300_c90 H locs ls r_l5_14 (⟨by first | omega | (simp only [upB_same]; omega), ik90_⟩) (Nat.lt_succ_self _) hw (lv_sub hl [1, 2, 3, 4, 5, 6, 7, 8, 0] rfl)
                      · refine j_aload_n E 105 rfl dX7_leastChanges_104 rfl (lv_at hl 2 rfl) ?_
                        refine j_iload E 107 rfl dX7_leastChanges_105 (lv_at hl 8 rfl) ?_
                        refine j_iload E 109 rfl dX7_leastChanges_107 (lv_at hl 8 rfl) ?_
                        refine a_st20 E hK hw t_r r_l8_90 (by omega) 110 rfl dX7_leastChanges_109 (fun H locs hw => ?_)
                        have hw : WK D cy T (upV v_0 300 (upB y300_c90 ((pr a_r (Int.toNat l8_90))) l8_90)) A0 H0 H locs := cw_eq hw (by first | rfl | (funext j_; simp only [upV, reduceIte]; (repeat' split) <;> first | rfl | omega | (subst_vars; rfl)))
                        refine j_iinc E 113 rfl [(8, .int (J (l8_90 + 1))), (0, .ref o), (1, .ref a_w), (2, .ref a_r), (3, .ref (T 161 o)), (4, .ref (T 161 a_w)), (5, .int (J l5_14)), (6, .int (J l6_50)), (7, .int (J ((((T 1 (T 161 a_w) : Int)) - l6_50) - l5_14)))] dX7_leastChanges_110 hl (kk := 8) rfl (by decide) rfl (fun ls hl => ?_)
                        refine j_goto E 90 dX7_leastChanges_113 (by decide) ?_
                        exact ih90 (l8_90 + 1) (upB y300_c90 ((pr a_r (Int.toNat l8_90))) l8_90) H locs ls (rr (by omega)) (⟨by first | omega | (simp only [upB_same]; omega), (Ro_tr ik90_ Ro_up)⟩) (by omega) hw (lv_sub hl [1, 2, 3, 4, 5, 6, 7, 8, 0] rfl)
                exact L90_63 _ 0 (v_0 300) H locs ls (rr (by decide)) (⟨by first | omega | (simp only [upB_same]; omega), Ro_rf⟩) (Nat.lt_succ_self _) (cw_eq hw (by first | rfl | (funext j_; simp only [upV, reduceIte]; (repeat' split) <;> first | rfl | omega | (subst_vars; rfl)))) (lv_sub hl [2, 3, 4, 5, 6, 7, 8, 1, 0] rfl)
              · refine j_aload_n E 58 rfl dX7_leastChanges_57 rfl (lv_at hl 3 rfl) ?_
                refine j_aload E 60 rfl dX7_leastChanges_58 (lv_at hl 4 rfl) ?_
                refine j_iload E 62 rfl dX7_leastChanges_60 (lv_at hl 5 rfl) ?_
                refine j_iload E 64 rfl dX7_leastChanges_62 (lv_at hl 6 rfl) ?_
                refine kS_i E (c_X7_isSameFromEnd l D cy T (v_0) (T 161 o) (T 161 a_w) l5_14 l6_50   (wt_161 hT t_o) (wt_161 hT t_w) r_l5_14 r_l6_50 (show 0 ≤ l5_14 ∧ 0 ≤ l6_50 ∧ l6_50 ≤ (T 1 (T 161 o) : Int) ∧ l6_50 ≤ (T 1 (T 161 a_w) : Int) from by omega)) ms_X7_isSameFromEnd ml_X7_37 hK hw hA ⟨Nat.le_of_ble_eq_true rfl, Nat.le_of_ble_eq_true rfl⟩ ⟨Nat.le_of_ble_eq_true rfl, Nat.le_of_ble_eq_true rfl⟩ (As := [.ref (T 161 o), .ref (T 161 a_w), .int (J l5_14), .int (J l6_50)]) (rest := []) rfl rfl hl.1 (Nat.le_of_ble_eq_true rfl) 67 rfl dX7_leastChanges_64 (fun zz86_ v_86 H locs rr86_ hq86_ hw => ?_)
                obtain ⟨ev86_, hh86_⟩ := hq86_
                rw [ev86_] at hw; clear ev86_
                replace hh86_ : zz86_ ≠ 0 → l5_14 ≤ (T 1 (T 161 o) : Int) - 1 - l6_50 ∧ l5_14 ≤ (T 1 (T 161 a_w) : Int) - 1 - l6_50 := hh86_
                refine j_if_eq E 70 76 rfl rr86_ dX7_leastChanges_67 (by decide) (fun cc87_ => ?_) (fun cc87_ => ?_)
                · refine j_aload E 78 rfl dX7_leastChanges_76 (lv_at hl 4 rfl) ?_
                  refine a_ln20 E hK hw (wt_161 hT t_w) 79 rfl dX7_leastChanges_78 (fun _ => ?_)
                  refine j_iload E 81 rfl dX7_leastChanges_79 (lv_at hl 6 rfl) ?_
                  refine j_isub E 82 rfl dX7_leastChanges_81 ?_
                  refine j_iload E 84 rfl dX7_leastChanges_82 (lv_at hl 5 rfl) ?_
                  refine j_isub E 85 rfl dX7_leastChanges_84 ?_
                  refine j_istore E 87 rfl [(7, .int (J ((((T 1 (T 161 a_w) : Int)) - l6_50) - l5_14))), (0, .ref o), (1, .ref a_w), (2, .ref a_r), (3, .ref (T 161 o)), (4, .ref (T 161 a_w)), (5, .int (J l5_14)), (6, .int (J l6_50))] dX7_leastChanges_85 hl (by decide) rfl (fun ls hl => ?_)
                  refine j_iconst E 88 rfl dX7_leastChanges_87 ?_
                  refine j_istore E 90 rfl [(8, .int (J 0)), (7, .int (J ((((T 1 (T 161 a_w) : Int)) - l6_50) - l5_14))), (0, .ref o), (1, .ref a_w), (2, .ref a_r), (3, .ref (T 161 o)), (4, .ref (T 161 a_w)), (5, .int (J l5_14)), (6, .int (J l6_50))] dX7_leastChanges_88 hl (by decide) rfl (fun ls hl => ?_)
                  have L90_88 : ∀ (k90 : Nat) (l8_90 : Int) (y300_c90 : Nat → Int) (H : Heap) (locs : List Loc) (ls : Array Slot), inR l8_90 → ((0 ≤ l8_90) ∧ Ro_ (v_0 300) y300_c90 a_r) → ((T 1 a_r : Int) - l8_90).toNat < k90 → WK D cy T (upV v_0 300 y300_c90) A0 H0 H locs → lv_has ls 9 [(0, .ref o), (1, .ref a_w), (2, .ref a_r), (3, .ref (T 161 o)), (4, .ref (T 161 a_w)), (5, .int (J l5_14)), (6, .int (J l6_50)), (7, .int (J ((((T 1 (T 161 a_w) : Int)) - l6_50) - l5_14))), (8, .int (J l8_90))] → W p l e (rmd 3 0 0) s m ar below meth c H locs 0 0 QW (F0 m 90 ls []) := by
                    intro k90
                    induction k90 with
                    | zero =>
                      intro l8_90 y300_c90 H locs ls r_l8_90 iv90 ms90 hw hl
                      exact absurd ms90 (Nat.not_lt_zero _)
                    | succ k90 ih90 =>
                      intro l8_90 y300_c90 H locs ls r_l8_90 iv90 ms90 hw hl
                      obtain ⟨iv90, ik90_⟩ := iv90
                      refine j_iload E 92 rfl dX7_leastChanges_90 (lv_at hl 8 rfl) ?_
                      refine j_iload E 94 rfl dX7_leastChanges_92 (lv_at hl 7 rfl) ?_
                      refine j_icmp_gt E 97 116 rfl r_l8_90 (rr (by omega)) dX7_leastChanges_94 (by decide) (fun cc90_ => ?_) (fun cc90_ => ?_)
                      · refine j_iload E 118 rfl dX7_leastChanges_116 (lv_at hl 5 rfl) ?_
                        refine j_istore E 120 rfl [(8, .int (J l5_14)), (0, .ref o), (1, .ref a_w), (2, .ref a_r), (3, .ref (T 161 o)), (4, .ref (T 161 a_w)), (5, .int (J l5_14)), (6, .int (J l6_50)), (7, .int (J ((((T 1 (T 161 a_w) : Int)) - l6_50) - l5_14)))] dX7_leastChanges_118 hl (by decide) rfl (fun ls hl => ?_)
                        have L120_91 : ∀ (k120 : Nat) (l8_120 : Int) (y300_c120 : Nat → Int) (H : Heap) (locs : List Loc) (ls : Array Slot), inR l8_120 → ((l5_14 ≤ l8_120) ∧ Ro_ (v_0 300) y300_c120 a_r) → ((T 1 (T 161 o) : Int) - l8_120).toNat < k120 → WK D cy T (upV v_0 300 y300_c120) A0 H0 H locs → lv_has ls 9 [(0, .ref o), (1, .ref a_w), (2, .ref a_r), (3, .ref (T 161 o)), (4, .ref (T 161 a_w)), (5, .int (J l5_14)), (6, .int (J l6_50)), (7, .int (J ((((T 1 (T 161 a_w) : Int)) - l6_50) - l5_14))), (8, .int (J l8_120))] → W p l e (rmd 3 0 0) s m ar below meth c H locs 0 0 QW (F0 m 120 ls []) := by
                          intro k120
                          induction k120 with
                          | zero =>
                            intro l8_120 y300_c120 H locs ls r_l8_120 iv120 ms120 hw hl
                            exact absurd ms120 (Nat.not_lt_zero _)
                          | succ k120 ih120 =>
                            intro l8_120 y300_c120 H locs ls r_l8_120 iv120 ms120 hw hl
                            obtain ⟨iv120, ik120_⟩ := iv120
                            refine j_iload E 122 rfl dX7_leastChanges_120 (lv_at hl 8 rfl) ?_
                            refine j_aload_n E 123 rfl dX7_leastChanges_122 rfl (lv_at hl 3 rfl) ?_
                            refine a_ln20 E hK hw (wt_161 hT t_o) 124 rfl dX7_leastChanges_123 (fun _ => ?_)
                            refine j_iload E 126 rfl dX7_leastChanges_124 (lv_at hl 6 rfl) ?_
                            refine j_isub E 127 rfl dX7_leastChanges_126 ?_
                            refine j_icmp_ge E 130 150 rfl r_l8_120 (rr (by omega)) dX7_leastChanges_127 (by decide) (fun cc93_ => ?_) (fun cc93_ => ?_)
                            · refine j_iload E 152 rfl dX7_leastChanges_150 (lv_at hl 7 rfl) ?_
                              refine j_if_lt E 155 169 rfl (rr (by omega)) dX7_leastChanges_152 (by decide) (fun cc94_ => ?_) (fun cc94_ => ?_)
                              · refine j_iconst E 170 rfl dX7_leastChanges_169 ?_
                                exact hret 170 0 (upV v_0 300 y300_c120) _ _ ls hw (rr (by decide)) ⟨y300_c120, rfl, ⟨trivial, ik120_⟩⟩ dX7_leastChanges_170
                              · refine j_iload E 157 rfl dX7_leastChanges_155 (lv_at hl 7 rfl) ?_
                                refine j_aload_n E 158 rfl dX7_leastChanges_157 rfl (lv_at hl 2 rfl) ?_
                                refine a_ln20 E hK hw t_r 159 rfl dX7_leastChanges_158 (fun rr95_ => ?_)
                                refine j_icmp_ge E 162 169 rfl (rr (by omega)) rr95_ dX7_leastChanges_159 (by decide) (fun cc96_ => ?_) (fun cc96_ => ?_)
                                · refine j_iconst E 170 rfl dX7_leastChanges_169 ?_
                                  exact hret 170 0 (upV v_0 300 y300_c120) _ _ ls hw (rr (by decide)) ⟨y300_c120, rfl, ⟨trivial, ik120_⟩⟩ dX7_leastChanges_170
                                · refine j_aload_n E 163 rfl dX7_leastChanges_162 rfl (lv_at hl 2 rfl) ?_
                                  refine j_iload E 165 rfl dX7_leastChanges_163 (lv_at hl 7 rfl) ?_
                                  refine a_ld20 E hK hw t_r (by omega) 166 rfl dX7_leastChanges_165 (fun zz97_ he97_ rr97_ => ?_)
                                  refine j_goto E 170 dX7_leastChanges_166 (by decide) ?_
                                  exact hret 170 zz97_ (upV v_0 300 y300_c120) _ _ ls hw rr97_ ⟨y300_c120, rfl, ⟨trivial, ik120_⟩⟩ dX7_leastChanges_170
                            · refine j_aload_n E 131 rfl dX7_leastChanges_130 rfl (lv_at hl 3 rfl) ?_
                              refine j_iload E 133 rfl dX7_leastChanges_131 (lv_at hl 8 rfl) ?_
                              refine a_ld20 E hK hw (wt_161 hT t_o) (by omega) 134 rfl dX7_leastChanges_133 (fun zz98_ he98_ rr98_ => ?_)
                              refine j_aload E 136 rfl dX7_leastChanges_134 (lv_at hl 4 rfl) ?_
                              refine j_iload E 138 rfl dX7_leastChanges_136 (lv_at hl 5 rfl) ?_
                              refine j_aload_n E 139 rfl dX7_leastChanges_138 rfl (lv_at hl 2 rfl) ?_
                              refine j_iload E 141 rfl dX7_leastChanges_139 (lv_at hl 7 rfl) ?_
                              refine kS_v E (c_X7_stepRow l D cy T (upV v_0 300 y300_c120) zz98_ (T 161 a_w) l5_14 a_r ((((T 1 (T 161 a_w) : Int)) - l6_50) - l5_14)   rr98_ (wt_161 hT t_w) r_l5_14 t_r (rr (by omega)) (show 0 ≤ l5_14 ∧ ((((T 1 (T 161 a_w) : Int)) - l6_50) - l5_14) + l5_14 ≤ (T 1 (T 161 a_w) : Int) from by omega)) ms_X7_stepRow ml_X7_41 hK hw hA ⟨Nat.le_of_ble_eq_true rfl, Nat.le_of_ble_eq_true rfl⟩ ⟨Nat.le_of_ble_eq_true rfl, Nat.le_of_ble_eq_true rfl⟩ (As := [.int (J zz98_), .ref (T 161 a_w), .int (J l5_14), .ref a_r, .int (J ((((T 1 (T 161 a_w) : Int)) - l6_50) - l5_14))]) (rest := []) rfl rfl hl.1 (Nat.le_of_ble_eq_true rfl) 144 rfl dX7_leastChanges_141 (fun v_99 H locs hq99_ hw => ?_)
                              obtain ⟨y300_99, ev99_, hh99_⟩ := hq99_
                              rw [ev99_] at hw; clear ev99_
                              have hw : WK D cy T (upV v_0 300 y300_99) A0 H0 H locs := cw_eq hw (by first | rfl | (funext j_; simp only [upV, reduceIte]; (repeat' split) <;> first | rfl | omega | (subst_vars; rfl)))
                              obtain ⟨hh99_, kf99_⟩ := hh99_
                              refine j_iinc E 147 rfl [(8, .int (J (l8_120 + 1))), (0, .ref o), (1, .ref a_w), (2, .ref a_r), (3, .ref (T 161 o)), (4, .ref (T 161 a_w)), (5, .int (J l5_14)), (6, .int (J l6_50)), (7, .int (J ((((T 1 (T 161 a_w) : Int)) - l6_50) - l5_14)))] dX7_leastChanges_144 hl (kk := 8) rfl (by decide) rfl (fun ls hl => ?_)
                              refine j_goto E 120 dX7_leastChanges_147 (by decide) ?_
                              exact ih120 (l8_120 + 1) y300_99 H locs ls (rr (by omega)) (⟨by first | omega | (simp only [upB_same]; omega), (Ro_tr ik120_ kf99_)⟩) (by omega) hw (lv_sub hl [1, 2, 3, 4, 5, 6, 7, 8, 0] rfl)
                        exact L120_91 _ l5_14 y300_c90 H locs ls r_l5_14 (⟨by first | omega | (simp only [upB_same]; omega), ik90_⟩) (Nat.lt_succ_self _) hw (lv_sub hl [1, 2, 3, 4, 5, 6, 7, 8, 0] rfl)
                      · refine j_iload E 99 rfl dX7_leastChanges_97 (lv_at hl 8 rfl) ?_
                        refine j_aload_n E 100 rfl dX7_leastChanges_99 rfl (lv_at hl 2 rfl) ?_
                        refine a_ln20 E hK hw t_r 101 rfl dX7_leastChanges_100 (fun rr100_ => ?_)
                        refine j_icmp_ge E 104 116 rfl r_l8_90 rr100_ dX7_leastChanges_101 (by decide) (fun cc101_ => ?_) (fun cc101_ => ?_)
                        · refine j_iload E 118 rfl dX7_leastChanges_116 (lv_at hl 5 rfl) ?_
                          refine j_istore E 120 rfl [(8, .int (J l5_14)), (0, .ref o), (1, .ref a_w), (2, .ref a_r), (3, .ref (T 161 o)), (4, .ref (T 161 a_w)), (5, .int (J l5_14)), (6, .int (J l6_50)), (7, .int (J ((((T 1 (T 161 a_w) : Int)) - l6_50) - l5_14)))] dX7_leastChanges_118 hl (by decide) rfl (fun ls hl => ?_)
                          have L120_102 : ∀ (k120 : Nat) (l8_120 : Int) (y300_c120 : Nat → Int) (H : Heap) (locs : List Loc) (ls : Array Slot), inR l8_120 → ((l5_14 ≤ l8_120) ∧ Ro_ (v_0 300) y300_c120 a_r) → ((T 1 (T 161 o) : Int) - l8_120).toNat < k120 → WK D cy T (upV v_0 300 y300_c120) A0 H0 H locs → lv_has ls 9 [(0, .ref o), (1, .ref a_w), (2, .ref a_r), (3, .ref (T 161 o)), (4, .ref (T 161 a_w)), (5, .int (J l5_14)), (6, .int (J l6_50)), (7, .int (J ((((T 1 (T 161 a_w) : Int)) - l6_50) - l5_14))), (8, .int (J l8_120))] → W p l e (rmd 3 0 0) s m ar below meth c H locs 0 0 QW (F0 m 120 ls []) := by
                            intro k120
                            induction k120 with
                            | zero =>
                              intro l8_120 y300_c120 H locs ls r_l8_120 iv120 ms120 hw hl
                              exact absurd ms120 (Nat.not_lt_zero _)
                            | succ k120 ih120 =>
                              intro l8_120 y300_c120 H locs ls r_l8_120 iv120 ms120 hw hl
                              obtain ⟨iv120, ik120_⟩ := iv120
                              refine j_iload E 122 rfl dX7_leastChanges_120 (lv_at hl 8 rfl) ?_
                              refine j_aload_n E 123 rfl dX7_leastChanges_122 rfl (lv_at hl 3 rfl) ?_
                              refine a_ln20 E hK hw (wt_161 hT t_o) 124 rfl dX7_leastChanges_123 (fun _ => ?_)
                              refine j_iload E 126 rfl dX7_leastChanges_124 (lv_at hl 6 rfl) ?_
                              refine j_isub E 127 rfl dX7_leastChanges_126 ?_
                              refine j_icmp_ge E 130 150 rfl r_l8_120 (rr (by omega)) dX7_leastChanges_127 (by decide) (fun cc104_ => ?_) (fun cc104_ => ?_)
                              · refine j_iload E 152 rfl dX7_leastChanges_150 (lv_at hl 7 rfl) ?_
                                refine j_if_lt E 155 169 rfl (rr (by omega)) dX7_leastChanges_152 (by decide) (fun cc105_ => ?_) (fun cc105_ => ?_)
                                · refine j_iconst E 170 rfl dX7_leastChanges_169 ?_
                                  exact hret 170 0 (upV v_0 300 y300_c120) _ _ ls hw (rr (by decide)) ⟨y300_c120, rfl, ⟨trivial, ik120_⟩⟩ dX7_leastChanges_170
                                · refine j_iload E 157 rfl dX7_leastChanges_155 (lv_at hl 7 rfl) ?_
                                  refine j_aload_n E 158 rfl dX7_leastChanges_157 rfl (lv_at hl 2 rfl) ?_
                                  refine a_ln20 E hK hw t_r 159 rfl dX7_leastChanges_158 (fun _ => ?_)
                                  refine j_icmp_ge E 162 169 rfl (rr (by omega)) rr100_ dX7_leastChanges_159 (by decide) (fun cc106_ => ?_) (fun cc106_ => ?_)
                                  · refine j_iconst E 170 rfl dX7_leastChanges_169 ?_
                                    exact hret 170 0 (upV v_0 300 y300_c120) _ _ ls hw (rr (by decide)) ⟨y300_c120, rfl, ⟨trivial, ik120_⟩⟩ dX7_leastChanges_170
                                  · refine j_aload_n E 163 rfl dX7_leastChanges_162 rfl (lv_at hl 2 rfl) ?_
                                    refine j_iload E 165 rfl dX7_leastChanges_163 (lv_at hl 7 rfl) ?_
                                    refine a_ld20 E hK hw t_r (by omega) 166 rfl dX7_leastChanges_165 (fun zz107_ he107_ rr107_ => ?_)
                                    refine j_goto E 170 dX7_leastChanges_166 (by decide) ?_
                                    exact hret 170 zz107_ (upV v_0 300 y300_c120) _ _ ls hw rr107_ ⟨y300_c120, rfl, ⟨trivial, ik120_⟩⟩ dX7_leastChanges_170
                              · refine j_aload_n E 131 rfl dX7_leastChanges_130 rfl (lv_at hl 3 rfl) ?_
                                refine j_iload E 133 rfl dX7_leastChanges_131 (lv_at hl 8 rfl) ?_
                                refine a_ld20 E hK hw (wt_161 hT t_o) (by omega) 134 rfl dX7_leastChanges_133 (fun zz108_ he108_ rr108_ => ?_)
                                refine j_aload E 136 rfl dX7_leastChanges_134 (lv_at hl 4 rfl) ?_
                                refine j_iload E 138 rfl dX7_leastChanges_136 (lv_at hl 5 rfl) ?_
                                refine j_aload_n E 139 rfl dX7_leastChanges_138 rfl (lv_at hl 2 rfl) ?_
                                refine j_iload E 141 rfl dX7_leastChanges_139 (lv_at hl 7 rfl) ?_
                                refine kS_v E (c_X7_stepRow l D cy T (upV v_0 300 y300_c120) zz108_ (T 161 a_w) l5_14 a_r ((((T 1 (T 161 a_w) : Int)) - l6_50) - l5_14)   rr108_ (wt_161 hT t_w) r_l5_14 t_r (rr (by omega)) (show 0 ≤ l5_14 ∧ ((((T 1 (T 161 a_w) : Int)) - l6_50) - l5_14) + l5_14 ≤ (T 1 (T 161 a_w) : Int) from by omega)) ms_X7_stepRow ml_X7_41 hK hw hA ⟨Nat.le_of_ble_eq_true rfl, Nat.le_of_ble_eq_true rfl⟩ ⟨Nat.le_of_ble_eq_true rfl, Nat.le_of_ble_eq_true rfl⟩ (As := [.int (J zz108_), .ref (T 161 a_w), .int (J l5_14), .ref a_r, .int (J ((((T 1 (T 161 a_w) : Int)) - l6_50) - l5_14))]) (rest := []) rfl rfl hl.1 (Nat.le_of_ble_eq_true rfl) 144 rfl dX7_leastChanges_141 (fun v_109 H locs hq109_ hw => ?_)
                                obtain ⟨y300_109, ev109_, hh109_⟩ := hq109_
                                rw [ev109_] at hw; clear ev109_
                                have hw : WK D cy T (upV v_0 300 y300_109) A0 H0 H locs := cw_eq hw (by first | rfl | (funext j_; simp only [upV, reduceIte]; (repeat' split) <;> first | rfl | omega | (subst_vars; rfl)))
                                obtain ⟨hh109_, kf109_⟩ := hh109_
                                refine j_iinc E 147 rfl [(8, .int (J (l8_120 + 1))), (0, .ref o), (1, .ref a_w), (2, .ref a_r), (3, .ref (T 161 o)), (4, .ref (T 161 a_w)), (5, .int (J l5_14)), (6, .int (J l6_50)), (7, .int (J ((((T 1 (T 161 a_w) : Int)) - l6_50) - l5_14)))] dX7_leastChanges_144 hl (kk := 8) rfl (by decide) rfl (fun ls hl => ?_)
                                refine j_goto E 120 dX7_leastChanges_147 (by decide) ?_
                                exact ih120 (l8_120 + 1) y300_109 H locs ls (rr (by omega)) (⟨by first | omega | (simp only [upB_same]; omega), (Ro_tr ik120_ kf109_)⟩) (by omega) hw (lv_sub hl [1, 2, 3, 4, 5, 6, 7, 8, 0] rfl)
                          exact L120_102 _ l5_14 y300_c90 H locs ls r_l5_14 (⟨by first | omega | (simp only [upB_same]; omega), ik90_⟩) (Nat.lt_succ_self _) hw (lv_sub hl [1, 2, 3, 4, 5, 6, 7, 8, 0] rfl)
                        · refine j_aload_n E 105 rfl dX7_leastChanges_104 rfl (lv_at hl 2 rfl) ?_
                          refine j_iload E 107 rfl dX7_leastChanges_105 (lv_at hl 8 rfl) ?_
                          refine j_iload E 109 rfl dX7_leastChanges_107 (lv_at hl 8 rfl) ?_
                          refine a_st20 E hK hw t_r r_l8_90 (by omega) 110 rfl dX7_leastChanges_109 (fun H locs hw => ?_)
                          have hw : WK D cy T (upV v_0 300 (upB y300_c90 ((pr a_r (Int.toNat l8_90))) l8_90)) A0 H0 H locs := cw_eq hw (by first | rfl | (funext j_; simp only [upV, reduceIte]; (repeat' split) <;> first | rfl | omega | (subst_vars; rfl)))
                          refine j_iinc E 113 rfl [(8, .int (J (l8_90 + 1))), (0, .ref o), (1, .ref a_w), (2, .ref a_r), (3, .ref (T 161 o)), (4, .ref (T 161 a_w)), (5, .int (J l5_14)), (6, .int (J l6_50)), (7, .int (J ((((T 1 (T 161 a_w) : Int)) - l6_50) - l5_14)))] dX7_leastChanges_110 hl (kk := 8) rfl (by decide) rfl (fun ls hl => ?_)
                          refine j_goto E 90 dX7_leastChanges_113 (by decide) ?_
                          exact ih90 (l8_90 + 1) (upB y300_c90 ((pr a_r (Int.toNat l8_90))) l8_90) H locs ls (rr (by omega)) (⟨by first | omega | (simp only [upB_same]; omega), (Ro_tr ik90_ Ro_up)⟩) (by omega) hw (lv_sub hl [1, 2, 3, 4, 5, 6, 7, 8, 0] rfl)
                  exact L90_88 _ 0 (v_0 300) H locs ls (rr (by decide)) (⟨by first | omega | (simp only [upB_same]; omega), Ro_rf⟩) (Nat.lt_succ_self _) (cw_eq hw (by first | rfl | (funext j_; simp only [upV, reduceIte]; (repeat' split) <;> first | rfl | omega | (subst_vars; rfl)))) (lv_sub hl [2, 3, 4, 5, 6, 7, 8, 1, 0] rfl)
                · refine j_iinc E 73 rfl [(6, .int (J (l6_50 + 1))), (0, .ref o), (1, .ref a_w), (2, .ref a_r), (3, .ref (T 161 o)), (4, .ref (T 161 a_w)), (5, .int (J l5_14))] dX7_leastChanges_70 hl (kk := 6) rfl (by decide) rfl (fun ls hl => ?_)
                  refine j_goto E 50 dX7_leastChanges_73 (by decide) ?_
                  exact ih50 (l6_50 + 1)  H locs ls (rr (by omega)) (by omega) (by omega) hw (lv_sub hl [1, 2, 3, 4, 5, 6, 0] rfl)
          exact L50_60 _ 0  H locs ls (rr (by decide)) (by omega) (Nat.lt_succ_self _) hw (lv_sub hl [1, 2, 3, 4, 5, 6, 0] rfl)
        · refine j_aload_n E 30 rfl dX7_leastChanges_29 rfl (lv_at hl 3 rfl) ?_
          refine j_iload E 32 rfl dX7_leastChanges_30 (lv_at hl 5 rfl) ?_
          refine a_ld20 E hK hw (wt_161 hT t_o) (by omega) 33 rfl dX7_leastChanges_32 (fun zz111_ he111_ rr111_ => ?_)
          refine j_aload E 35 rfl dX7_leastChanges_33 (lv_at hl 4 rfl) ?_
          refine j_iload E 37 rfl dX7_leastChanges_35 (lv_at hl 5 rfl) ?_
          refine a_ld20 E hK hw (wt_161 hT t_w) (by omega) 38 rfl dX7_leastChanges_37 (fun zz112_ he112_ rr112_ => ?_)
          refine j_icmp_ne E 41 47 rfl rr111_ rr112_ dX7_leastChanges_38 (by decide) (fun cc113_ => ?_) (fun cc113_ => ?_)
          · refine j_iconst E 48 rfl dX7_leastChanges_47 ?_
            refine j_istore E 50 rfl [(6, .int (J 0)), (0, .ref o), (1, .ref a_w), (2, .ref a_r), (3, .ref (T 161 o)), (4, .ref (T 161 a_w)), (5, .int (J l5_14))] dX7_leastChanges_48 hl (by decide) rfl (fun ls hl => ?_)
            have L50_114 : ∀ (k50 : Nat) (l6_50 : Int) (H : Heap) (locs : List Loc) (ls : Array Slot), inR l6_50 → (0 ≤ l6_50 ∧ l6_50 + l5_14 ≤ (T 1 (T 161 o) : Int) ∧ l6_50 + l5_14 ≤ (T 1 (T 161 a_w) : Int)) → ((T 1 (T 161 o) : Int) - l6_50).toNat < k50 → WK D cy T (v_0) A0 H0 H locs → lv_has ls 9 [(0, .ref o), (1, .ref a_w), (2, .ref a_r), (3, .ref (T 161 o)), (4, .ref (T 161 a_w)), (5, .int (J l5_14)), (6, .int (J l6_50))] → W p l e (rmd 3 0 0) s m ar below meth c H locs 0 0 QW (F0 m 50 ls []) := by
              intro k50
              induction k50 with
              | zero =>
                intro l6_50 H locs ls r_l6_50 iv50 ms50 hw hl
                exact absurd ms50 (Nat.not_lt_zero _)
              | succ k50 ih50 =>
                intro l6_50 H locs ls r_l6_50 iv50 ms50 hw hl
                refine j_iload E 52 rfl dX7_leastChanges_50 (lv_at hl 6 rfl) ?_
                refine j_aload_n E 53 rfl dX7_leastChanges_52 rfl (lv_at hl 3 rfl) ?_
                refine a_ln20 E hK hw (wt_161 hT t_o) 54 rfl dX7_leastChanges_53 (fun _ => ?_)
                refine j_icmp_ge E 57 76 rfl r_l6_50 rr3_ dX7_leastChanges_54 (by decide) (fun cc116_ => ?_) (fun cc116_ => ?_)
                · refine j_aload E 78 rfl dX7_leastChanges_76 (lv_at hl 4 rfl) ?_
                  refine a_ln20 E hK hw (wt_161 hT t_w) 79 rfl dX7_leastChanges_78 (fun _ => ?_)
                  refine j_iload E 81 rfl dX7_leastChanges_79 (lv_at hl 6 rfl) ?_
                  refine j_isub E 82 rfl dX7_leastChanges_81 ?_
                  refine j_iload E 84 rfl dX7_leastChanges_82 (lv_at hl 5 rfl) ?_
                  refine j_isub E 85 rfl dX7_leastChanges_84 ?_
                  refine j_istore E 87 rfl [(7, .int (J ((((T 1 (T 161 a_w) : Int)) - l6_50) - l5_14))), (0, .ref o), (1, .ref a_w), (2, .ref a_r), (3, .ref (T 161 o)), (4, .ref (T 161 a_w)), (5, .int (J l5_14)), (6, .int (J l6_50))] dX7_leastChanges_85 hl (by decide) rfl (fun ls hl => ?_)
                  refine j_iconst E 88 rfl dX7_leastChanges_87 ?_
                  refine j_istore E 90 rfl [(8, .int (J 0)), (7, .int (J ((((T 1 (T 161 a_w) : Int)) - l6_50) - l5_14))), (0, .ref o), (1, .ref a_w), (2, .ref a_r), (3, .ref (T 161 o)), (4, .ref (T 161 a_w)), (5, .int (J l5_14)), (6, .int (J l6_50))] dX7_leastChanges_88 hl (by decide) rfl (fun ls hl => ?_)
                  have L90_117 : ∀ (k90 : Nat) (l8_90 : Int) (y300_c90 : Nat → Int) (H : Heap) (locs : List Loc) (ls : Array Slot), inR l8_90 → ((0 ≤ l8_90) ∧ Ro_ (v_0 300) y300_c90 a_r) → ((T 1 a_r : Int) - l8_90).toNat < k90 → WK D cy T (upV v_0 300 y300_c90) A0 H0 H locs → lv_has ls 9 [(0, .ref o), (1, .ref a_w), (2, .ref a_r), (3, .ref (T 161 o)), (4, .ref (T 161 a_w)), (5, .int (J l5_14)), (6, .int (J l6_50)), (7, .int (J ((((T 1 (T 161 a_w) : Int)) - l6_50) - l5_14))), (8, .int (J l8_90))] → W p l e (rmd 3 0 0) s m ar below meth c H locs 0 0 QW (F0 m 90 ls []) := by
                    intro k90
                    induction k90 with
                    | zero =>
                      intro l8_90 y300_c90 H locs ls r_l8_90 iv90 ms90 hw hl
                      exact absurd ms90 (Nat.not_lt_zero _)
                    | succ k90 ih90 =>
                      intro l8_90 y300_c90 H locs ls r_l8_90 iv90 ms90 hw hl
                      obtain ⟨iv90, ik90_⟩ := iv90
                      refine j_iload E 92 rfl dX7_leastChanges_90 (lv_at hl 8 rfl) ?_
                      refine j_iload E 94 rfl dX7_leastChanges_92 (lv_at hl 7 rfl) ?_
                      refine j_icmp_gt E 97 116 rfl r_l8_90 (rr (by omega)) dX7_leastChanges_94 (by decide) (fun cc119_ => ?_) (fun cc119_ => ?_)
                      · refine j_iload E 118 rfl dX7_leastChanges_116 (lv_at hl 5 rfl) ?_
                        refine j_istore E 120 rfl [(8, .int (J l5_14)), (0, .ref o), (1, .ref a_w), (2, .ref a_r), (3, .ref (T 161 o)), (4, .ref (T 161 a_w)), (5, .int (J l5_14)), (6, .int (J l6_50)), (7, .int (J ((((T 1 (T 161 a_w) : Int)) - l6_50) - l5_14)))] dX7_leastChanges_118 hl (by decide) rfl (fun ls hl => ?_)
                        have L120_120 : ∀ (k120 : Nat) (l8_120 : Int) (y300_c120 : Nat → Int) (H : Heap) (locs : List Loc) (ls : Array Slot), inR l8_120 → ((l5_14 ≤ l8_120) ∧ Ro_ (v_0 300) y300_c120 a_r) → ((T 1 (T 161 o) : Int) - l8_120).toNat < k120 → WK D cy T (upV v_0 300 y300_c120) A0 H0 H locs → lv_has ls 9 [(0, .ref o), (1, .ref a_w), (2, .ref a_r), (3, .ref (T 161 o)), (4, .ref (T 161 a_w)), (5, .int (J l5_14)), (6, .int (J l6_50)), (7, .int (J ((((T 1 (T 161 a_w) : Int)) - l6_50) - l5_14))), (8, .int (J l8_120))] → W p l e (rmd 3 0 0) s m ar below meth c H locs 0 0 QW (F0 m 120 ls []) := by
                          intro k120
                          induction k120 with
                          | zero =>
                            intro l8_120 y300_c120 H locs ls r_l8_120 iv120 ms120 hw hl
                            exact absurd ms120 (Nat.not_lt_zero _)
                          | succ k120 ih120 =>
                            intro l8_120 y300_c120 H locs ls r_l8_120 iv120 ms120 hw hl
                            obtain ⟨iv120, ik120_⟩ := iv120
                            refine j_iload E 122 rfl dX7_leastChanges_120 (lv_at hl 8 rfl) ?_
                            refine j_aload_n E 123 rfl dX7_leastChanges_122 rfl (lv_at hl 3 rfl) ?_
                            refine a_ln20 E hK hw (wt_161 hT t_o) 124 rfl dX7_leastChanges_123 (fun _ => ?_)
                            refine j_iload E 126 rfl dX7_leastChanges_124 (lv_at hl 6 rfl) ?_
                            refine j_isub E 127 rfl dX7_leastChanges_126 ?_
                            refine j_icmp_ge E 130 150 rfl r_l8_120 (rr (by omega)) dX7_leastChanges_127 (by decide) (fun cc122_ => ?_) (fun cc122_ => ?_)
                            · refine j_iload E 152 rfl dX7_leastChanges_150 (lv_at hl 7 rfl) ?_
                              refine j_if_lt E 155 169 rfl (rr (by omega)) dX7_leastChanges_152 (by decide) (fun cc123_ => ?_) (fun cc123_ => ?_)
                              · refine j_iconst E 170 rfl dX7_leastChanges_169 ?_
                                exact hret 170 0 (upV v_0 300 y300_c120) _ _ ls hw (rr (by decide)) ⟨y300_c120, rfl, ⟨trivial, ik120_⟩⟩ dX7_leastChanges_170
                              · refine j_iload E 157 rfl dX7_leastChanges_155 (lv_at hl 7 rfl) ?_
                                refine j_aload_n E 158 rfl dX7_leastChanges_157 rfl (lv_at hl 2 rfl) ?_
                                refine a_ln20 E hK hw t_r 159 rfl dX7_leastChanges_158 (fun rr124_ => ?_)
                                refine j_icmp_ge E 162 169 rfl (rr (by omega)) rr124_ dX7_leastChanges_159 (by decide) (fun cc125_ => ?_) (fun cc125_ => ?_)
                                · refine j_iconst E 170 rfl dX7_leastChanges_169 ?_
                                  exact hret 170 0 (upV v_0 300 y300_c120) _ _ ls hw (rr (by decide)) ⟨y300_c120, rfl, ⟨trivial, ik120_⟩⟩ dX7_leastChanges_170
                                · refine j_aload_n E 163 rfl dX7_leastChanges_162 rfl (lv_at hl 2 rfl) ?_
                                  refine j_iload E 165 rfl dX7_leastChanges_163 (lv_at hl 7 rfl) ?_
                                  refine a_ld20 E hK hw t_r (by omega) 166 rfl dX7_leastChanges_165 (fun zz126_ he126_ rr126_ => ?_)
                                  refine j_goto E 170 dX7_leastChanges_166 (by decide) ?_
                                  exact hret 170 zz126_ (upV v_0 300 y300_c120) _ _ ls hw rr126_ ⟨y300_c120, rfl, ⟨trivial, ik120_⟩⟩ dX7_leastChanges_170
                            · refine j_aload_n E 131 rfl dX7_leastChanges_130 rfl (lv_at hl 3 rfl) ?_
                              refine j_iload E 133 rfl dX7_leastChanges_131 (lv_at hl 8 rfl) ?_
                              refine a_ld20 E hK hw (wt_161 hT t_o) (by omega) 134 rfl dX7_leastChanges_133 (fun zz127_ he127_ rr127_ => ?_)
                              refine j_aload E 136 rfl dX7_leastChanges_134 (lv_at hl 4 rfl) ?_
                              refine j_iload E 138 rfl dX7_leastChanges_136 (lv_at hl 5 rfl) ?_
                              refine j_aload_n E 139 rfl dX7_leastChanges_138 rfl (lv_at hl 2 rfl) ?_
                              refine j_iload E 141 rfl dX7_leastChanges_139 (lv_at hl 7 rfl) ?_
                              refine kS_v E (c_X7_stepRow l D cy T (upV v_0 300 y300_c120) zz127_ (T 161 a_w) l5_14 a_r ((((T 1 (T 161 a_w) : Int)) - l6_50) - l5_14)   rr127_ (wt_161 hT t_w) r_l5_14 t_r (rr (by omega)) (show 0 ≤ l5_14 ∧ ((((T 1 (T 161 a_w) : Int)) - l6_50) - l5_14) + l5_14 ≤ (T 1 (T 161 a_w) : Int) from by omega)) ms_X7_stepRow ml_X7_41 hK hw hA ⟨Nat.le_of_ble_eq_true rfl, Nat.le_of_ble_eq_true rfl⟩ ⟨Nat.le_of_ble_eq_true rfl, Nat.le_of_ble_eq_true rfl⟩ (As := [.int (J zz127_), .ref (T 161 a_w), .int (J l5_14), .ref a_r, .int (J ((((T 1 (T 161 a_w) : Int)) - l6_50) - l5_14))]) (rest := []) rfl rfl hl.1 (Nat.le_of_ble_eq_true rfl) 144 rfl dX7_leastChanges_141 (fun v_128 H locs hq128_ hw => ?_)
                              obtain ⟨y300_128, ev128_, hh128_⟩ := hq128_
                              rw [ev128_] at hw; clear ev128_
                              have hw : WK D cy T (upV v_0 300 y300_128) A0 H0 H locs := cw_eq hw (by first | rfl | (funext j_; simp only [upV, reduceIte]; (repeat' split) <;> first | rfl | omega | (subst_vars; rfl)))
                              obtain ⟨hh128_, kf128_⟩ := hh128_
                              refine j_iinc E 147 rfl [(8, .int (J (l8_120 + 1))), (0, .ref o), (1, .ref a_w), (2, .ref a_r), (3, .ref (T 161 o)), (4, .ref (T 161 a_w)), (5, .int (J l5_14)), (6, .int (J l6_50)), (7, .int (J ((((T 1 (T 161 a_w) : Int)) - l6_50) - l5_14)))] dX7_leastChanges_144 hl (kk := 8) rfl (by decide) rfl (fun ls hl => ?_)
                              refine j_goto E 120 dX7_leastChanges_147 (by decide) ?_
                              exact ih120 (l8_120 + 1) y300_128 H locs ls (rr (by omega)) (⟨by first | omega | (simp only [upB_same]; omega), (Ro_tr ik120_ kf128_)⟩) (by omega) hw (lv_sub hl [1, 2, 3, 4, 5, 6, 7, 8, 0] rfl)
                        exact L120_120 _ l5_14 y300_c90 H locs ls r_l5_14 (⟨by first | omega | (simp only [upB_same]; omega), ik90_⟩) (Nat.lt_succ_self _) hw (lv_sub hl [1, 2, 3, 4, 5, 6, 7, 8, 0] rfl)
                      · refine j_iload E 99 rfl dX7_leastChanges_97 (lv_at hl 8 rfl) ?_
                        refine j_aload_n E 100 rfl dX7_leastChanges_99 rfl (lv_at hl 2 rfl) ?_
                        refine a_ln20 E hK hw t_r 101 rfl dX7_leastChanges_100 (fun rr129_ => ?_)
                        refine j_icmp_ge E 104 116 rfl r_l8_90 rr129_ dX7_leastChanges_101 (by decide) (fun cc130_ => ?_) (fun cc130_ => ?_)
                        · refine j_iload E 118 rfl dX7_leastChanges_116 (lv_at hl 5 rfl) ?_
                          refine j_istore E 120 rfl [(8, .int (J l5_14)), (0, .ref o), (1, .ref a_w), (2, .ref a_r), (3, .ref (T 161 o)), (4, .ref (T 161 a_w)), (5, .int (J l5_14)), (6, .int (J l6_50)), (7, .int (J ((((T 1 (T 161 a_w) : Int)) - l6_50) - l5_14)))] dX7_leastChanges_118 hl (by decide) rfl (fun ls hl => ?_)
                          have L120_131 : ∀ (k120 : Nat) (l8_120 : Int) (y300_c120 : Nat → Int) (H : Heap) (locs : List Loc) (ls : Array Slot), inR l8_120 → ((l5_14 ≤ l8_120) ∧ Ro_ (v_0 300) y300_c120 a_r) → ((T 1 (T 161 o) : Int) - l8_120).toNat < k120 → WK D cy T (upV v_0 300 y300_c120) A0 H0 H locs → lv_has ls 9 [(0, .ref o), (1, .ref a_w), (2, .ref a_r), (3, .ref (T 161 o)), (4, .ref (T 161 a_w)), (5, .int (J l5_14)), (6, .int (J l6_50)), (7, .int (J ((((T 1 (T 161 a_w) : Int)) - l6_50) - l5_14))), (8, .int (J l8_120))] → W p l e (rmd 3 0 0) s m ar below meth c H locs 0 0 QW (F0 m 120 ls []) := by
                            intro k120
                            induction k120 with
                            | zero =>
                              intro l8_120 y300_c120 H locs ls r_l8_120 iv120 ms120 hw hl
                              exact absurd ms120 (Nat.not_lt_zero _)
                            | succ k120 ih120 =>
                              intro l8_120 y300_c120 H locs ls r_l8_120 iv120 ms120 hw hl
                              obtain ⟨iv120, ik120_⟩ := iv120
                              refine j_iload E 122 rfl dX7_leastChanges_120 (lv_at hl 8 rfl) ?_
                              refine j_aload_n E 123 rfl dX7_leastChanges_122 rfl (lv_at hl 3 rfl) ?_
                              refine a_ln20 E hK hw (wt_161 hT t_o) 124 rfl dX7_leastChanges_123 (fun _ => ?_)
                              refine j_iload E 126 rfl dX7_leastChanges_124 (lv_at hl 6 rfl) ?_
                              refine j_isub E 127 rfl dX7_leastChanges_126 ?_
                              refine j_icmp_ge E 130 150 rfl r_l8_120 (rr (by omega)) dX7_leastChanges_127 (by decide) (fun cc133_ => ?_) (fun cc133_ => ?_)
                              · refine j_iload E 152 rfl dX7_leastChanges_150 (lv_at hl 7 rfl) ?_
                                refine j_if_lt E 155 169 rfl (rr (by omega)) dX7_leastChanges_152 (by decide) (fun cc134_ => ?_) (fun cc134_ => ?_)
                                · refine j_iconst E 170 rfl dX7_leastChanges_169 ?_
                                  exact hret 170 0 (upV v_0 300 y300_c120) _ _ ls hw (rr (by decide)) ⟨y300_c120, rfl, ⟨trivial, ik120_⟩⟩ dX7_leastChanges_170
                                · refine j_iload E 157 rfl dX7_leastChanges_155 (lv_at hl 7 rfl) ?_
                                  refine j_aload_n E 158 rfl dX7_leastChanges_157 rfl (lv_at hl 2 rfl) ?_
                                  refine a_ln20 E hK hw t_r 159 rfl dX7_leastChanges_158 (fun _ => ?_)
                                  refine j_icmp_ge E 162 169 rfl (rr (by omega)) rr129_ dX7_leastChanges_159 (by decide) (fun cc135_ => ?_) (fun cc135_ => ?_)
                                  · refine j_iconst E 170 rfl dX7_leastChanges_169 ?_
                                    exact hret 170 0 (upV v_0 300 y300_c120) _ _ ls hw (rr (by decide)) ⟨y300_c120, rfl, ⟨trivial, ik120_⟩⟩ dX7_leastChanges_170
                                  · refine j_aload_n E 163 rfl dX7_leastChanges_162 rfl (lv_at hl 2 rfl) ?_
                                    refine j_iload E 165 rfl dX7_leastChanges_163 (lv_at hl 7 rfl) ?_
                                    refine a_ld20 E hK hw t_r (by omega) 166 rfl dX7_leastChanges_165 (fun zz136_ he136_ rr136_ => ?_)
                                    refine j_goto E 170 dX7_leastChanges_166 (by decide) ?_
                                    exact hret 170 zz136_ (upV v_0 300 y300_c120) _ _ ls hw rr136_ ⟨y300_c120, rfl, ⟨trivial, ik120_⟩⟩ dX7_leastChanges_170
                              · refine j_aload_n E 131 rfl dX7_leastChanges_130 rfl (lv_at hl 3 rfl) ?_
                                refine j_iload E 133 rfl dX7_leastChanges_131 (lv_at hl 8 rfl) ?_
                                refine a_ld20 E hK hw (wt_161 hT t_o) (by omega) 134 rfl dX7_leastChanges_133 (fun zz137_ he137_ rr137_ => ?_)
                                refine j_aload E 136 rfl dX7_leastChanges_134 (lv_at hl 4 rfl) ?_
                                refine j_iload E 138 rfl dX7_leastChanges_136 (lv_at hl 5 rfl) ?_
                                refine j_aload_n E 139 rfl dX7_leastChanges_138 rfl (lv_at hl 2 rfl) ?_
                                refine j_iload E 141 rfl dX7_leastChanges_139 (lv_at hl 7 rfl) ?_
                                refine kS_v E (c_X7_stepRow l D cy T (upV v_0 300 y300_c120) zz137_ (T 161 a_w) l5_14 a_r ((((T 1 (T 161 a_w) : Int)) - l6_50) - l5_14)   rr137_ (wt_161 hT t_w) r_l5_14 t_r (rr (by omega)) (show 0 ≤ l5_14 ∧ ((((T 1 (T 161 a_w) : Int)) - l6_50) - l5_14) + l5_14 ≤ (T 1 (T 161 a_w) : Int) from by omega)) ms_X7_stepRow ml_X7_41 hK hw hA ⟨Nat.le_of_ble_eq_true rfl, Nat.le_of_ble_eq_true rfl⟩ ⟨Nat.le_of_ble_eq_true rfl, Nat.le_of_ble_eq_true rfl⟩ (As := [.int (J zz137_), .ref (T 161 a_w), .int (J l5_14), .ref a_r, .int (J ((((T 1 (T 161 a_w) : Int)) - l6_50) - l5_14))]) (rest := []) rfl rfl hl.1 (Nat.le_of_ble_eq_true rfl) 144 rfl dX7_leastChanges_141 (fun v_138 H locs hq138_ hw => ?_)
                                obtain ⟨y300_138, ev138_, hh138_⟩ := hq138_
                                rw [ev138_] at hw; clear ev138_
                                have hw : WK D cy T (upV v_0 300 y300_138) A0 H0 H locs := cw_eq hw (by first | rfl | (funext j_; simp only [upV, reduceIte]; (repeat' split) <;> first | rfl | omega | (subst_vars; rfl)))
                                obtain ⟨hh138_, kf138_⟩ := hh138_
                                refine j_iinc E 147 rfl [(8, .int (J (l8_120 + 1))), (0, .ref o), (1, .ref a_w), (2, .ref a_r), (3, .ref (T 161 o)), (4, .ref (T 161 a_w)), (5, .int (J l5_14)), (6, .int (J l6_50)), (7, .int (J ((((T 1 (T 161 a_w) : Int)) - l6_50) - l5_14)))] dX7_leastChanges_144 hl (kk := 8) rfl (by decide) rfl (fun ls hl => ?_)
                                refine j_goto E 120 dX7_leastChanges_147 (by decide) ?_
                                exact ih120 (l8_120 + 1) y300_138 H locs ls (rr (by omega)) (⟨by first | omega | (simp only [upB_same]; omega), (Ro_tr ik120_ kf138_)⟩) (by omega) hw (lv_sub hl [1, 2, 3, 4, 5, 6, 7, 8, 0] rfl)
                          exact L120_131 _ l5_14 y300_c90 H locs ls r_l5_14 (⟨by first | omega | (simp only [upB_same]; omega), ik90_⟩) (Nat.lt_succ_self _) hw (lv_sub hl [1, 2, 3, 4, 5, 6, 7, 8, 0] rfl)
                        · refine j_aload_n E 105 rfl dX7_leastChanges_104 rfl (lv_at hl 2 rfl) ?_
                          refine j_iload E 107 rfl dX7_leastChanges_105 (lv_at hl 8 rfl) ?_
                          refine j_iload E 109 rfl dX7_leastChanges_107 (lv_at hl 8 rfl) ?_
                          refine a_st20 E hK hw t_r r_l8_90 (by omega) 110 rfl dX7_leastChanges_109 (fun H locs hw => ?_)
                          have hw : WK D cy T (upV v_0 300 (upB y300_c90 ((pr a_r (Int.toNat l8_90))) l8_90)) A0 H0 H locs := cw_eq hw (by first | rfl | (funext j_; simp only [upV, reduceIte]; (repeat' split) <;> first | rfl | omega | (subst_vars; rfl)))
                          refine j_iinc E 113 rfl [(8, .int (J (l8_90 + 1))), (0, .ref o), (1, .ref a_w), (2, .ref a_r), (3, .ref (T 161 o)), (4, .ref (T 161 a_w)), (5, .int (J l5_14)), (6, .int (J l6_50)), (7, .int (J ((((T 1 (T 161 a_w) : Int)) - l6_50) - l5_14)))] dX7_leastChanges_110 hl (kk := 8) rfl (by decide) rfl (fun ls hl => ?_)
                          refine j_goto E 90 dX7_leastChanges_113 (by decide) ?_
                          exact ih90 (l8_90 + 1) (upB y300_c90 ((pr a_r (Int.toNat l8_90))) l8_90) H locs ls (rr (by omega)) (⟨by first | omega | (simp only [upB_same]; omega), (Ro_tr ik90_ Ro_up)⟩) (by omega) hw (lv_sub hl [1, 2, 3, 4, 5, 6, 7, 8, 0] rfl)
                  exact L90_117 _ 0 (v_0 300) H locs ls (rr (by decide)) (⟨by first | omega | (simp only [upB_same]; omega), Ro_rf⟩) (Nat.lt_succ_self _) (cw_eq hw (by first | rfl | (funext j_; simp only [upV, reduceIte]; (repeat' split) <;> first | rfl | omega | (subst_vars; rfl)))) (lv_sub hl [2, 3, 4, 5, 6, 7, 8, 1, 0] rfl)
                · refine j_aload_n E 58 rfl dX7_leastChanges_57 rfl (lv_at hl 3 rfl) ?_
                  refine j_aload E 60 rfl dX7_leastChanges_58 (lv_at hl 4 rfl) ?_
                  refine j_iload E 62 rfl dX7_leastChanges_60 (lv_at hl 5 rfl) ?_
                  refine j_iload E 64 rfl dX7_leastChanges_62 (lv_at hl 6 rfl) ?_
                  refine kS_i E (c_X7_isSameFromEnd l D cy T (v_0) (T 161 o) (T 161 a_w) l5_14 l6_50   (wt_161 hT t_o) (wt_161 hT t_w) r_l5_14 r_l6_50 (show 0 ≤ l5_14 ∧ 0 ≤ l6_50 ∧ l6_50 ≤ (T 1 (T 161 o) : Int) ∧ l6_50 ≤ (T 1 (T 161 a_w) : Int) from by omega)) ms_X7_isSameFromEnd ml_X7_37 hK hw hA ⟨Nat.le_of_ble_eq_true rfl, Nat.le_of_ble_eq_true rfl⟩ ⟨Nat.le_of_ble_eq_true rfl, Nat.le_of_ble_eq_true rfl⟩ (As := [.ref (T 161 o), .ref (T 161 a_w), .int (J l5_14), .int (J l6_50)]) (rest := []) rfl rfl hl.1 (Nat.le_of_ble_eq_true rfl) 67 rfl dX7_leastChanges_64 (fun zz140_ v_140 H locs rr140_ hq140_ hw => ?_)
                  obtain ⟨ev140_, hh140_⟩ := hq140_
                  rw [ev140_] at hw; clear ev140_
                  replace hh140_ : zz140_ ≠ 0 → l5_14 ≤ (T 1 (T 161 o) : Int) - 1 - l6_50 ∧ l5_14 ≤ (T 1 (T 161 a_w) : Int) - 1 - l6_50 := hh140_
                  refine j_if_eq E 70 76 rfl rr140_ dX7_leastChanges_67 (by decide) (fun cc141_ => ?_) (fun cc141_ => ?_)
                  · refine j_aload E 78 rfl dX7_leastChanges_76 (lv_at hl 4 rfl) ?_
                    refine a_ln20 E hK hw (wt_161 hT t_w) 79 rfl dX7_leastChanges_78 (fun _ => ?_)
                    refine j_iload E 81 rfl dX7_leastChanges_79 (lv_at hl 6 rfl) ?_
                    refine j_isub E 82 rfl dX7_leastChanges_81 ?_
                    refine j_iload E 84 rfl dX7_leastChanges_82 (lv_at hl 5 rfl) ?_
                    refine j_isub E 85 rfl dX7_leastChanges_84 ?_
                    refine j_istore E 87 rfl [(7, .int (J ((((T 1 (T 161 a_w) : Int)) - l6_50) - l5_14))), (0, .ref o), (1, .ref a_w), (2, .ref a_r), (3, .ref (T 161 o)), (4, .ref (T 161 a_w)), (5, .int (J l5_14)), (6, .int (J l6_50))] dX7_leastChanges_85 hl (by decide) rfl (fun ls hl => ?_)
                    refine j_iconst E 88 rfl dX7_leastChanges_87 ?_
                    refine j_istore E 90 rfl [(8, .int (J 0)), (7, .int (J ((((T 1 (T 161 a_w) : Int)) - l6_50) - l5_14))), (0, .ref o), (1, .ref a_w), (2, .ref a_r), (3, .ref (T 161 o)), (4, .ref (T 161 a_w)), (5, .int (J l5_14)), (6, .int (J l6_50))] dX7_leastChanges_88 hl (by decide) rfl (fun ls hl => ?_)
                    have L90_142 : ∀ (k90 : Nat) (l8_90 : Int) (y300_c90 : Nat → Int) (H : Heap) (locs : List Loc) (ls : Array Slot), inR l8_90 → ((0 ≤ l8_90) ∧ Ro_ (v_0 300) y300_c90 a_r) → ((T 1 a_r : Int) - l8_90).toNat < k90 → WK D cy T (upV v_0 300 y300_c90) A0 H0 H locs → lv_has ls 9 [(0, .ref o), (1, .ref a_w), (2, .ref a_r), (3, .ref (T 161 o)), (4, .ref (T 161 a_w)), (5, .int (J l5_14)), (6, .int (J l6_50)), (7, .int (J ((((T 1 (T 161 a_w) : Int)) - l6_50) - l5_14))), (8, .int (J l8_90))] → W p l e (rmd 3 0 0) s m ar below meth c H locs 0 0 QW (F0 m 90 ls []) := by
                      intro k90
                      induction k90 with
                      | zero =>
                        intro l8_90 y300_c90 H locs ls r_l8_90 iv90 ms90 hw hl
                        exact absurd ms90 (Nat.not_lt_zero _)
                      | succ k90 ih90 =>
                        intro l8_90 y300_c90 H locs ls r_l8_90 iv90 ms90 hw hl
                        obtain ⟨iv90, ik90_⟩ := iv90
                        refine j_iload E 92 rfl dX7_leastChanges_90 (lv_at hl 8 rfl) ?_
                        refine j_iload E 94 rfl dX7_leastChanges_92 (lv_at hl 7 rfl) ?_
                        refine j_icmp_gt E 97 116 rfl r_l8_90 (rr (by omega)) dX7_leastChanges_94 (by decide) (fun cc144_ => ?_) (fun cc144_ => ?_)
                        · refine j_iload E 118 rfl dX7_leastChanges_116 (lv_at hl 5 rfl) ?_
                          refine j_istore E 120 rfl [(8, .int (J l5_14)), (0, .ref o), (1, .ref a_w), (2, .ref a_r), (3, .ref (T 161 o)), (4, .ref (T 161 a_w)), (5, .int (J l5_14)), (6, .int (J l6_50)), (7, .int (J ((((T 1 (T 161 a_w) : Int)) - l6_50) - l5_14)))] dX7_leastChanges_118 hl (by decide) rfl (fun ls hl => ?_)
                          have L120_145 : ∀ (k120 : Nat) (l8_120 : Int) (y300_c120 : Nat → Int) (H : Heap) (locs : List Loc) (ls : Array Slot), inR l8_120 → ((l5_14 ≤ l8_120) ∧ Ro_ (v_0 300) y300_c120 a_r) → ((T 1 (T 161 o) : Int) - l8_120).toNat < k120 → WK D cy T (upV v_0 300 y300_c120) A0 H0 H locs → lv_has ls 9 [(0, .ref o), (1, .ref a_w), (2, .ref a_r), (3, .ref (T 161 o)), (4, .ref (T 161 a_w)), (5, .int (J l5_14)), (6, .int (J l6_50)), (7, .int (J ((((T 1 (T 161 a_w) : Int)) - l6_50) - l5_14))), (8, .int (J l8_120))] → W p l e (rmd 3 0 0) s m ar below meth c H locs 0 0 QW (F0 m 120 ls []) := by
                            intro k120
                            induction k120 with
                            | zero =>
                              intro l8_120 y300_c120 H locs ls r_l8_120 iv120 ms120 hw hl
                              exact absurd ms120 (Nat.not_lt_zero _)
                            | succ k120 ih120 =>
                              intro l8_120 y300_c120 H locs ls r_l8_120 iv120 ms120 hw hl
                              obtain ⟨iv120, ik120_⟩ := iv120
                              refine j_iload E 122 rfl dX7_leastChanges_120 (lv_at hl 8 rfl) ?_
                              refine j_aload_n E 123 rfl dX7_leastChanges_122 rfl (lv_at hl 3 rfl) ?_
                              refine a_ln20 E hK hw (wt_161 hT t_o) 124 rfl dX7_leastChanges_123 (fun _ => ?_)
                              refine j_iload E 126 rfl dX7_leastChanges_124 (lv_at hl 6 rfl) ?_
                              refine j_isub E 127 rfl dX7_leastChanges_126 ?_
                              refine j_icmp_ge E 130 150 rfl r_l8_120 (rr (by omega)) dX7_leastChanges_127 (by decide) (fun cc147_ => ?_) (fun cc147_ => ?_)
                              · refine j_iload E 152 rfl dX7_leastChanges_150 (lv_at hl 7 rfl) ?_
                                refine j_if_lt E 155 169 rfl (rr (by omega)) dX7_leastChanges_152 (by decide) (fun cc148_ => ?_) (fun cc148_ => ?_)
                                · refine j_iconst E 170 rfl dX7_leastChanges_169 ?_
                                  exact hret 170 0 (upV v_0 300 y300_c120) _ _ ls hw (rr (by decide)) ⟨y300_c120, rfl, ⟨trivial, ik120_⟩⟩ dX7_leastChanges_170
                                · refine j_iload E 157 rfl dX7_leastChanges_155 (lv_at hl 7 rfl) ?_
                                  refine j_aload_n E 158 rfl dX7_leastChanges_157 rfl (lv_at hl 2 rfl) ?_
                                  refine a_ln20 E hK hw t_r 159 rfl dX7_leastChanges_158 (fun rr149_ => ?_)
                                  refine j_icmp_ge E 162 169 rfl (rr (by omega)) rr149_ dX7_leastChanges_159 (by decide) (fun cc150_ => ?_) (fun cc150_ => ?_)
                                  · refine j_iconst E 170 rfl dX7_leastChanges_169 ?_
                                    exact hret 170 0 (upV v_0 300 y300_c120) _ _ ls hw (rr (by decide)) ⟨y300_c120, rfl, ⟨trivial, ik120_⟩⟩ dX7_leastChanges_170
                                  · refine j_aload_n E 163 rfl dX7_leastChanges_162 rfl (lv_at hl 2 rfl) ?_
                                    refine j_iload E 165 rfl dX7_leastChanges_163 (lv_at hl 7 rfl) ?_
                                    refine a_ld20 E hK hw t_r (by omega) 166 rfl dX7_leastChanges_165 (fun zz151_ he151_ rr151_ => ?_)
                                    refine j_goto E 170 dX7_leastChanges_166 (by decide) ?_
                                    exact hret 170 zz151_ (upV v_0 300 y300_c120) _ _ ls hw rr151_ ⟨y300_c120, rfl, ⟨trivial, ik120_⟩⟩ dX7_leastChanges_170
                              · refine j_aload_n E 131 rfl dX7_leastChanges_130 rfl (lv_at hl 3 rfl) ?_
                                refine j_iload E 133 rfl dX7_leastChanges_131 (lv_at hl 8 rfl) ?_
                                refine a_ld20 E hK hw (wt_161 hT t_o) (by omega) 134 rfl dX7_leastChanges_133 (fun zz152_ he152_ rr152_ => ?_)
                                refine j_aload E 136 rfl dX7_leastChanges_134 (lv_at hl 4 rfl) ?_
                                refine j_iload E 138 rfl dX7_leastChanges_136 (lv_at hl 5 rfl) ?_
                                refine j_aload_n E 139 rfl dX7_leastChanges_138 rfl (lv_at hl 2 rfl) ?_
                                refine j_iload E 141 rfl dX7_leastChanges_139 (lv_at hl 7 rfl) ?_
                                refine kS_v E (c_X7_stepRow l D cy T (upV v_0 300 y300_c120) zz152_ (T 161 a_w) l5_14 a_r ((((T 1 (T 161 a_w) : Int)) - l6_50) - l5_14)   rr152_ (wt_161 hT t_w) r_l5_14 t_r (rr (by omega)) (show 0 ≤ l5_14 ∧ ((((T 1 (T 161 a_w) : Int)) - l6_50) - l5_14) + l5_14 ≤ (T 1 (T 161 a_w) : Int) from by omega)) ms_X7_stepRow ml_X7_41 hK hw hA ⟨Nat.le_of_ble_eq_true rfl, Nat.le_of_ble_eq_true rfl⟩ ⟨Nat.le_of_ble_eq_true rfl, Nat.le_of_ble_eq_true rfl⟩ (As := [.int (J zz152_), .ref (T 161 a_w), .int (J l5_14), .ref a_r, .int (J ((((T 1 (T 161 a_w) : Int)) - l6_50) - l5_14))]) (rest := []) rfl rfl hl.1 (Nat.le_of_ble_eq_true rfl) 144 rfl dX7_leastChanges_141 (fun v_153 H locs hq153_ hw => ?_)
                                obtain ⟨y300_153, ev153_, hh153_⟩ := hq153_
                                rw [ev153_] at hw; clear ev153_
                                have hw : WK D cy T (upV v_0 300 y300_153) A0 H0 H locs := cw_eq hw (by first | rfl | (funext j_; simp only [upV, reduceIte]; (repeat' split) <;> first | rfl | omega | (subst_vars; rfl)))
                                obtain ⟨hh153_, kf153_⟩ := hh153_
                                refine j_iinc E 147 rfl [(8, .int (J (l8_120 + 1))), (0, .ref o), (1, .ref a_w), (2, .ref a_r), (3, .ref (T 161 o)), (4, .ref (T 161 a_w)), (5, .int (J l5_14)), (6, .int (J l6_50)), (7, .int (J ((((T 1 (T 161 a_w) : Int)) - l6_50) - l5_14)))] dX7_leastChanges_144 hl (kk := 8) rfl (by decide) rfl (fun ls hl => ?_)
                                refine j_goto E 120 dX7_leastChanges_147 (by decide) ?_
                                exact ih120 (l8_120 + 1) y300_153 H locs ls (rr (by omega)) (⟨by first | omega | (simp only [upB_same]; omega), (Ro_tr ik120_ kf153_)⟩) (by omega) hw (lv_sub hl [1, 2, 3, 4, 5, 6, 7, 8, 0] rfl)
                          exact L120_145 _ l5_14 y300_c90 H locs ls r_l5_14 (⟨by first | omega | (simp only [upB_same]; omega), ik90_⟩) (Nat.lt_succ_self _) hw (lv_sub hl [1, 2, 3, 4, 5, 6, 7, 8, 0] rfl)
                        · refine j_iload E 99 rfl dX7_leastChanges_97 (lv_at hl 8 rfl) ?_
                          refine j_aload_n E 100 rfl dX7_leastChanges_99 rfl (lv_at hl 2 rfl) ?_
                          refine a_ln20 E hK hw t_r 101 rfl dX7_leastChanges_100 (fun rr154_ => ?_)
                          refine j_icmp_ge E 104 116 rfl r_l8_90 rr154_ dX7_leastChanges_101 (by decide) (fun cc155_ => ?_) (fun cc155_ => ?_)
                          · refine j_iload E 118 rfl dX7_leastChanges_116 (lv_at hl 5 rfl) ?_
                            refine j_istore E 120 rfl [(8, .int (J l5_14)), (0, .ref o), (1, .ref a_w), (2, .ref a_r), (3, .ref (T 161 o)), (4, .ref (T 161 a_w)), (5, .int (J l5_14)), (6, .int (J l6_50)), (7, .int (J ((((T 1 (T 161 a_w) : Int)) - l6_50) - l5_14)))] dX7_leastChanges_118 hl (by decide) rfl (fun ls hl => ?_)
                            have L120_156 : ∀ (k120 : Nat) (l8_120 : Int) (y300_c120 : Nat → Int) (H : Heap) (locs : List Loc) (ls : Array Slot), inR l8_120 → ((l5_14 ≤ l8_120) ∧ Ro_ (v_0 300) y300_c120 a_r) → ((T 1 (T 161 o) : Int) - l8_120).toNat < k120 → WK D cy T (upV v_0 300 y300_c120) A0 H0 H locs → lv_has ls 9 [(0, .ref o), (1, .ref a_w), (2, .ref a_r), (3, .ref (T 161 o)), (4, .ref (T 161 a_w)), (5, .int (J l5_14)), (6, .int (J l6_50)), (7, .int (J ((((T 1 (T 161 a_w) : Int)) - l6_50) - l5_14))), (8, .int (J l8_120))] → W p l e (rmd 3 0 0) s m ar below meth c H locs 0 0 QW (F0 m 120 ls []) := by
                              intro k120
                              induction k120 with
                              | zero =>
                                intro l8_120 y300_c120 H locs ls r_l8_120 iv120 ms120 hw hl
                                exact absurd ms120 (Nat.not_lt_zero _)
                              | succ k120 ih120 =>
                                intro l8_120 y300_c120 H locs ls r_l8_120 iv120 ms120 hw hl
                                obtain ⟨iv120, ik120_⟩ := iv120
                                refine j_iload E 122 rfl dX7_leastChanges_120 (lv_at hl 8 rfl) ?_
                                refine j_aload_n E 123 rfl dX7_leastChanges_122 rfl (lv_at hl 3 rfl) ?_
                                refine a_ln20 E hK hw (wt_161 hT t_o) 124 rfl dX7_leastChanges_123 (fun _ => ?_)
                                refine j_iload E 126 rfl dX7_leastChanges_124 (lv_at hl 6 rfl) ?_
                                refine j_isub E 127 rfl dX7_leastChanges_126 ?_
                                refine j_icmp_ge E 130 150 rfl r_l8_120 (rr (by omega)) dX7_leastChanges_127 (by decide) (fun cc158_ => ?_) (fun cc158_ => ?_)
                                · refine j_iload E 152 rfl dX7_leastChanges_150 (lv_at hl 7 rfl) ?_
                                  refine j_if_lt E 155 169 rfl (rr (by omega)) dX7_leastChanges_152 (by decide) (fun cc159_ => ?_) (fun cc159_ => ?_)
                                  · refine j_iconst E 170 rfl dX7_leastChanges_169 ?_
                                    exact hret 170 0 (upV v_0 300 y300_c120) _ _ ls hw (rr (by decide)) ⟨y300_c120, rfl, ⟨trivial, ik120_⟩⟩ dX7_leastChanges_170
                                  · refine j_iload E 157 rfl dX7_leastChanges_155 (lv_at hl 7 rfl) ?_
                                    refine j_aload_n E 158 rfl dX7_leastChanges_157 rfl (lv_at hl 2 rfl) ?_
                                    refine a_ln20 E hK hw t_r 159 rfl dX7_leastChanges_158 (fun _ => ?_)
                                    refine j_icmp_ge E 162 169 rfl (rr (by omega)) rr154_ dX7_leastChanges_159 (by decide) (fun cc160_ => ?_) (fun cc160_ => ?_)
                                    · refine j_iconst E 170 rfl dX7_leastChanges_169 ?_
                                      exact hret 170 0 (upV v_0 300 y300_c120) _ _ ls hw (rr (by decide)) ⟨y300_c120, rfl, ⟨trivial, ik120_⟩⟩ dX7_leastChanges_170
                                    · refine j_aload_n E 163 rfl dX7_leastChanges_162 rfl (lv_at hl 2 rfl) ?_
                                      refine j_iload E 165 rfl dX7_leastChanges_163 (lv_at hl 7 rfl) ?_
                                      refine a_ld20 E hK hw t_r (by omega) 166 rfl dX7_leastChanges_165 (fun zz161_ he161_ rr161_ => ?_)
                                      refine j_goto E 170 dX7_leastChanges_166 (by decide) ?_
                                      exact hret 170 zz161_ (upV v_0 300 y300_c120) _ _ ls hw rr161_ ⟨y300_c120, rfl, ⟨trivial, ik120_⟩⟩ dX7_leastChanges_170
                                · refine j_aload_n E 131 rfl dX7_leastChanges_130 rfl (lv_at hl 3 rfl) ?_
                                  refine j_iload E 133 rfl dX7_leastChanges_131 (lv_at hl 8 rfl) ?_
                                  refine a_ld20 E hK hw (wt_161 hT t_o) (by omega) 134 rfl dX7_leastChanges_133 (fun zz162_ he162_ rr162_ => ?_)
                                  refine j_aload E 136 rfl dX7_leastChanges_134 (lv_at hl 4 rfl) ?_
                                  refine j_iload E 138 rfl dX7_leastChanges_136 (lv_at hl 5 rfl) ?_
                                  refine j_aload_n E 139 rfl dX7_leastChanges_138 rfl (lv_at hl 2 rfl) ?_
                                  refine j_iload E 141 rfl dX7_leastChanges_139 (lv_at hl 7 rfl) ?_
                                  refine kS_v E (c_X7_stepRow l D cy T (upV v_0 300 y300_c120) zz162_ (T 161 a_w) l5_14 a_r ((((T 1 (T 161 a_w) : Int)) - l6_50) - l5_14)   rr162_ (wt_161 hT t_w) r_l5_14 t_r (rr (by omega)) (show 0 ≤ l5_14 ∧ ((((T 1 (T 161 a_w) : Int)) - l6_50) - l5_14) + l5_14 ≤ (T 1 (T 161 a_w) : Int) from by omega)) ms_X7_stepRow ml_X7_41 hK hw hA ⟨Nat.le_of_ble_eq_true rfl, Nat.le_of_ble_eq_true rfl⟩ ⟨Nat.le_of_ble_eq_true rfl, Nat.le_of_ble_eq_true rfl⟩ (As := [.int (J zz162_), .ref (T 161 a_w), .int (J l5_14), .ref a_r, .int (J ((((T 1 (T 161 a_w) : Int)) - l6_50) - l5_14))]) (rest := []) rfl rfl hl.1 (Nat.le_of_ble_eq_true rfl) 144 rfl dX7_leastChanges_141 (fun v_163 H locs hq163_ hw => ?_)
                                  obtain ⟨y300_163, ev163_, hh163_⟩ := hq163_
                                  rw [ev163_] at hw; clear ev163_
                                  have hw : WK D cy T (upV v_0 300 y300_163) A0 H0 H locs := cw_eq hw (by first | rfl | (funext j_; simp only [upV, reduceIte]; (repeat' split) <;> first | rfl | omega | (subst_vars; rfl)))
                                  obtain ⟨hh163_, kf163_⟩ := hh163_
                                  refine j_iinc E 147 rfl [(8, .int (J (l8_120 + 1))), (0, .ref o), (1, .ref a_w), (2, .ref a_r), (3, .ref (T 161 o)), (4, .ref (T 161 a_w)), (5, .int (J l5_14)), (6, .int (J l6_50)), (7, .int (J ((((T 1 (T 161 a_w) : Int)) - l6_50) - l5_14)))] dX7_leastChanges_144 hl (kk := 8) rfl (by decide) rfl (fun ls hl => ?_)
                                  refine j_goto E 120 dX7_leastChanges_147 (by decide) ?_
                                  exact ih120 (l8_120 + 1) y300_163 H locs ls (rr (by omega)) (⟨by first | omega | (simp only [upB_same]; omega), (Ro_tr ik120_ kf163_)⟩) (by omega) hw (lv_sub hl [1, 2, 3, 4, 5, 6, 7, 8, 0] rfl)
                            exact L120_156 _ l5_14 y300_c90 H locs ls r_l5_14 (⟨by first | omega | (simp only [upB_same]; omega), ik90_⟩) (Nat.lt_succ_self _) hw (lv_sub hl [1, 2, 3, 4, 5, 6, 7, 8, 0] rfl)
                          · refine j_aload_n E 105 rfl dX7_leastChanges_104 rfl (lv_at hl 2 rfl) ?_
                            refine j_iload E 107 rfl dX7_leastChanges_105 (lv_at hl 8 rfl) ?_
                            refine j_iload E 109 rfl dX7_leastChanges_107 (lv_at hl 8 rfl) ?_
                            refine a_st20 E hK hw t_r r_l8_90 (by omega) 110 rfl dX7_leastChanges_109 (fun H locs hw => ?_)
                            have hw : WK D cy T (upV v_0 300 (upB y300_c90 ((pr a_r (Int.toNat l8_90))) l8_90)) A0 H0 H locs := cw_eq hw (by first | rfl | (funext j_; simp only [upV, reduceIte]; (repeat' split) <;> first | rfl | omega | (subst_vars; rfl)))
                            refine j_iinc E 113 rfl [(8, .int (J (l8_90 + 1))), (0, .ref o), (1, .ref a_w), (2, .ref a_r), (3, .ref (T 161 o)), (4, .ref (T 161 a_w)), (5, .int (J l5_14)), (6, .int (J l6_50)), (7, .int (J ((((T 1 (T 161 a_w) : Int)) - l6_50) - l5_14)))] dX7_leastChanges_110 hl (kk := 8) rfl (by decide) rfl (fun ls hl => ?_)
                            refine j_goto E 90 dX7_leastChanges_113 (by decide) ?_
                            exact ih90 (l8_90 + 1) (upB y300_c90 ((pr a_r (Int.toNat l8_90))) l8_90) H locs ls (rr (by omega)) (⟨by first | omega | (simp only [upB_same]; omega), (Ro_tr ik90_ Ro_up)⟩) (by omega) hw (lv_sub hl [1, 2, 3, 4, 5, 6, 7, 8, 0] rfl)
                    exact L90_142 _ 0 (v_0 300) H locs ls (rr (by decide)) (⟨by first | omega | (simp only [upB_same]; omega), Ro_rf⟩) (Nat.lt_succ_self _) (cw_eq hw (by first | rfl | (funext j_; simp only [upV, reduceIte]; (repeat' split) <;> first | rfl | omega | (subst_vars; rfl)))) (lv_sub hl [2, 3, 4, 5, 6, 7, 8, 1, 0] rfl)
                  · refine j_iinc E 73 rfl [(6, .int (J (l6_50 + 1))), (0, .ref o), (1, .ref a_w), (2, .ref a_r), (3, .ref (T 161 o)), (4, .ref (T 161 a_w)), (5, .int (J l5_14))] dX7_leastChanges_70 hl (kk := 6) rfl (by decide) rfl (fun ls hl => ?_)
                    refine j_goto E 50 dX7_leastChanges_73 (by decide) ?_
                    exact ih50 (l6_50 + 1)  H locs ls (rr (by omega)) (by omega) (by omega) hw (lv_sub hl [1, 2, 3, 4, 5, 6, 0] rfl)
            exact L50_114 _ 0  H locs ls (rr (by decide)) (by omega) (Nat.lt_succ_self _) hw (lv_sub hl [1, 2, 3, 4, 5, 6, 0] rfl)
          · refine j_iinc E 44 rfl [(5, .int (J (l5_14 + 1))), (0, .ref o), (1, .ref a_w), (2, .ref a_r), (3, .ref (T 161 o)), (4, .ref (T 161 a_w))] dX7_leastChanges_41 hl (kk := 5) rfl (by decide) rfl (fun ls hl => ?_)
            refine j_goto E 14 dX7_leastChanges_44 (by decide) ?_
            exact ih14 (l5_14 + 1)  H locs ls (rr (by omega)) (by omega) (by omega) hw (lv_sub hl [1, 2, 3, 4, 5, 0] rfl)
  exact L14_1 _ 0  H locs ls (rr (by decide)) (by omega) (Nat.lt_succ_self _) hw (lv_sub hl [3, 4, 5, 2, 1, 0] rfl)
set_option maxHeartbeats 4000000 in
set_option maxRecDepth 100000 in
theorem c_X8_isLetter (l : Launch) (D : va_G) (cy : Nat → ClassId) (T : Nat → Nat → Nat) (v_0 : Nat → Nat → Int) (v_c : Int) (r_v_c : inR v_c) : KC l D cy T yX8_isLetter cX8_isLetter 1 (some .boolean) 1 [.int (J v_c)] v_0 (KI (fun (z_0 : Int) (v_2 : Nat → Nat → Int) => v_2 = v_0 ∧ ((z_0 = 1 ∧ ((97 ≤ v_c ∧ v_c ≤ 122) ∨ (65 ≤ v_c ∧ v_c ≤ 90))) ∨ (z_0 = 0 ∧ ¬ ((97 ≤ v_c ∧ v_c ≤ 122) ∨ (65 ≤ v_c ∧ v_c ≤ 90)))))) := by
  refine KC.ofz (by decide) (Nat.le_of_ble_eq_true rfl) ?_
  intro p e s m below meth c ls ar QW A0 H0 H locs E hK hA hw hl hret
  have hl : lv_has ls 1 [(0, .int (J v_c))] := hl
  have hT : WT T := hw.1.2.1
  refine j_iload_n E 1 rfl dX8_isLetter_0 rfl (lv_at hl 0 rfl) ?_
  refine j_bipush E 3 rfl dX8_isLetter_1 (by decide) ?_
  refine j_icmp_lt E 6 12 rfl r_v_c (rr (by decide)) dX8_isLetter_3 (by decide) (fun cc1_ => ?_) (fun cc1_ => ?_)
  · refine j_iload_n E 13 rfl dX8_isLetter_12 rfl (lv_at hl 0 rfl) ?_
    refine j_bipush E 15 rfl dX8_isLetter_13 (by decide) ?_
    refine j_icmp_lt E 18 28 rfl r_v_c (rr (by decide)) dX8_isLetter_15 (by decide) (fun cc2_ => ?_) (fun cc2_ => ?_)
    · refine j_iconst E 29 rfl dX8_isLetter_28 ?_
      exact hret 29 0 (v_0) _ _ ls hw (Or.inl rfl) ⟨rfl, by omega⟩ dX8_isLetter_29
    · refine j_iload_n E 19 rfl dX8_isLetter_18 rfl (lv_at hl 0 rfl) ?_
      refine j_bipush E 21 rfl dX8_isLetter_19 (by decide) ?_
      refine j_icmp_gt E 24 28 rfl r_v_c (rr (by decide)) dX8_isLetter_21 (by decide) (fun cc3_ => ?_) (fun cc3_ => ?_)
      · refine j_iconst E 29 rfl dX8_isLetter_28 ?_
        exact hret 29 0 (v_0) _ _ ls hw (Or.inl rfl) ⟨rfl, by omega⟩ dX8_isLetter_29
      · refine j_iconst E 25 rfl dX8_isLetter_24 ?_
        refine j_goto E 29 dX8_isLetter_25 (by decide) ?_
        exact hret 29 1 (v_0) _ _ ls hw (Or.inr rfl) ⟨rfl, by omega⟩ dX8_isLetter_29
  · refine j_iload_n E 7 rfl dX8_isLetter_6 rfl (lv_at hl 0 rfl) ?_
    refine j_bipush E 9 rfl dX8_isLetter_7 (by decide) ?_
    refine j_icmp_le E 12 24 rfl r_v_c (rr (by decide)) dX8_isLetter_9 (by decide) (fun cc4_ => ?_) (fun cc4_ => ?_)
    · refine j_iconst E 25 rfl dX8_isLetter_24 ?_
      refine j_goto E 29 dX8_isLetter_25 (by decide) ?_
      exact hret 29 1 (v_0) _ _ ls hw (Or.inr rfl) ⟨rfl, by omega⟩ dX8_isLetter_29
    · refine j_iload_n E 13 rfl dX8_isLetter_12 rfl (lv_at hl 0 rfl) ?_
      refine j_bipush E 15 rfl dX8_isLetter_13 (by decide) ?_
      refine j_icmp_lt E 18 28 rfl r_v_c (rr (by decide)) dX8_isLetter_15 (by decide) (fun cc5_ => ?_) (fun cc5_ => ?_)
      · refine j_iconst E 29 rfl dX8_isLetter_28 ?_
        exact hret 29 0 (v_0) _ _ ls hw (Or.inl rfl) ⟨rfl, by omega⟩ dX8_isLetter_29
      · refine j_iload_n E 19 rfl dX8_isLetter_18 rfl (lv_at hl 0 rfl) ?_
        refine j_bipush E 21 rfl dX8_isLetter_19 (by decide) ?_
        refine j_icmp_gt E 24 28 rfl r_v_c (rr (by decide)) dX8_isLetter_21 (by decide) (fun cc6_ => ?_) (fun cc6_ => ?_)
        · refine j_iconst E 29 rfl dX8_isLetter_28 ?_
          exact hret 29 0 (v_0) _ _ ls hw (Or.inl rfl) ⟨rfl, by omega⟩ dX8_isLetter_29
        · refine j_iconst E 25 rfl dX8_isLetter_24 ?_
          refine j_goto E 29 dX8_isLetter_25 (by decide) ?_
          exact hret 29 1 (v_0) _ _ ls hw (Or.inr rfl) ⟨rfl, by omega⟩ dX8_isLetter_29
set_option maxHeartbeats 4000000 in
set_option maxRecDepth 100000 in
theorem c_X8_isDigit (l : Launch) (D : va_G) (cy : Nat → ClassId) (T : Nat → Nat → Nat) (v_0 : Nat → Nat → Int) (v_c : Int) (r_v_c : inR v_c) : KC l D cy T yX8_isDigit cX8_isDigit 1 (some .boolean) 1 [.int (J v_c)] v_0 (KI (fun (z_0 : Int) (v_2 : Nat → Nat → Int) => v_2 = v_0 ∧ ((z_0 = 1 ∧ (48 ≤ v_c ∧ v_c ≤ 57)) ∨ (z_0 = 0 ∧ ¬ (48 ≤ v_c ∧ v_c ≤ 57))))) := by
  refine KC.ofz (by decide) (Nat.le_of_ble_eq_true rfl) ?_
  intro p e s m below meth c ls ar QW A0 H0 H locs E hK hA hw hl hret
  have hl : lv_has ls 1 [(0, .int (J v_c))] := hl
  have hT : WT T := hw.1.2.1
  refine j_iload_n E 1 rfl dX8_isDigit_0 rfl (lv_at hl 0 rfl) ?_
  refine j_bipush E 3 rfl dX8_isDigit_1 (by decide) ?_
  refine j_icmp_lt E 6 16 rfl r_v_c (rr (by decide)) dX8_isDigit_3 (by decide) (fun cc1_ => ?_) (fun cc1_ => ?_)
  · refine j_iconst E 17 rfl dX8_isDigit_16 ?_
    exact hret 17 0 (v_0) _ _ ls hw (Or.inl rfl) ⟨rfl, by omega⟩ dX8_isDigit_17
  · refine j_iload_n E 7 rfl dX8_isDigit_6 rfl (lv_at hl 0 rfl) ?_
    refine j_bipush E 9 rfl dX8_isDigit_7 (by decide) ?_
    refine j_icmp_gt E 12 16 rfl r_v_c (rr (by decide)) dX8_isDigit_9 (by decide) (fun cc2_ => ?_) (fun cc2_ => ?_)
    · refine j_iconst E 17 rfl dX8_isDigit_16 ?_
      exact hret 17 0 (v_0) _ _ ls hw (Or.inl rfl) ⟨rfl, by omega⟩ dX8_isDigit_17
    · refine j_iconst E 13 rfl dX8_isDigit_12 ?_
      refine j_goto E 17 dX8_isDigit_13 (by decide) ?_
      exact hret 17 1 (v_0) _ _ ls hw (Or.inr rfl) ⟨rfl, by omega⟩ dX8_isDigit_17
set_option maxHeartbeats 4000000 in
set_option maxRecDepth 100000 in
theorem c_X8_isBlank (l : Launch) (D : va_G) (cy : Nat → ClassId) (T : Nat → Nat → Nat) (v_0 : Nat → Nat → Int) (v_c : Int) (r_v_c : inR v_c) : KC l D cy T yX8_isBlank cX8_isBlank 1 (some .boolean) 1 [.int (J v_c)] v_0 (KI (fun (z_0 : Int) (v_2 : Nat → Nat → Int) => v_2 = v_0 ∧ ((z_0 = 1 ∧ (v_c = 32 ∨ v_c = 10)) ∨ (z_0 = 0 ∧ ¬ (v_c = 32 ∨ v_c = 10))))) := by
  refine KC.ofz (by decide) (Nat.le_of_ble_eq_true rfl) ?_
  intro p e s m below meth c ls ar QW A0 H0 H locs E hK hA hw hl hret
  have hl : lv_has ls 1 [(0, .int (J v_c))] := hl
  have hT : WT T := hw.1.2.1
  refine j_iload_n E 1 rfl dX8_isBlank_0 rfl (lv_at hl 0 rfl) ?_
  refine j_bipush E 3 rfl dX8_isBlank_1 (by decide) ?_
  refine j_icmp_eq E 6 12 rfl r_v_c (rr (by decide)) dX8_isBlank_3 (by decide) (fun cc1_ => ?_) (fun cc1_ => ?_)
  · refine j_iconst E 13 rfl dX8_isBlank_12 ?_
    refine j_goto E 17 dX8_isBlank_13 (by decide) ?_
    exact hret 17 1 (v_0) _ _ ls hw (Or.inr rfl) ⟨rfl, by omega⟩ dX8_isBlank_17
  · refine j_iload_n E 7 rfl dX8_isBlank_6 rfl (lv_at hl 0 rfl) ?_
    refine j_bipush E 9 rfl dX8_isBlank_7 (by decide) ?_
    refine j_icmp_ne E 12 16 rfl r_v_c (rr (by decide)) dX8_isBlank_9 (by decide) (fun cc2_ => ?_) (fun cc2_ => ?_)
    · refine j_iconst E 17 rfl dX8_isBlank_16 ?_
      exact hret 17 0 (v_0) _ _ ls hw (Or.inl rfl) ⟨rfl, by omega⟩ dX8_isBlank_17
    · refine j_iconst E 13 rfl dX8_isBlank_12 ?_
      refine j_goto E 17 dX8_isBlank_13 (by decide) ?_
      exact hret 17 1 (v_0) _ _ ls hw (Or.inr rfl) ⟨rfl, by omega⟩ dX8_isBlank_17
set_option maxHeartbeats 4000000 in
set_option maxRecDepth 100000 in
theorem c_X8_isSign (l : Launch) (D : va_G) (cy : Nat → ClassId) (T : Nat → Nat → Nat) (v_0 : Nat → Nat → Int) (v_c : Int) (r_v_c : inR v_c) : KC l D cy T yX8_isSign cX8_isSign 1 (some .boolean) 1 [.int (J v_c)] v_0 (KI (fun (z_0 : Int) (v_2 : Nat → Nat → Int) => v_2 = v_0 ∧ ((z_0 = 1 ∧ (v_c = 59 ∨ v_c = 43 ∨ v_c = 45 ∨ v_c = 42 ∨ v_c = 47 ∨ v_c = 40 ∨ v_c = 41 ∨ v_c = 60 ∨ v_c = 61 ∨ v_c = 62)) ∨ (z_0 = 0 ∧ ¬ (v_c = 59 ∨ v_c = 43 ∨ v_c = 45 ∨ v_c = 42 ∨ v_c = 47 ∨ v_c = 40 ∨ v_c = 41 ∨ v_c = 60 ∨ v_c = 61 ∨ v_c = 62))))) := by
  refine KC.ofz (by decide) (Nat.le_of_ble_eq_true rfl) ?_
  intro p e s m below meth c ls ar QW A0 H0 H locs E hK hA hw hl hret
  have hl : lv_has ls 1 [(0, .int (J v_c))] := hl
  have hT : WT T := hw.1.2.1
  refine j_iload_n E 1 rfl dX8_isSign_0 rfl (lv_at hl 0 rfl) ?_
  by_cases tb1_0 : v_c = 40
  · refine j_tabIn E 108 r_v_c 0 dX8_isSign_1 (by omega) rfl (by decide) ?_
    refine j_iconst E 109 rfl dX8_isSign_108 ?_
    exact hret 109 1 (v_0) _ _ ls hw (Or.inr rfl) ⟨rfl, by omega⟩ dX8_isSign_109
  by_cases tb1_1 : v_c = 41
  · refine j_tabIn E 108 r_v_c 1 dX8_isSign_1 (by omega) rfl (by decide) ?_
    refine j_iconst E 109 rfl dX8_isSign_108 ?_
    exact hret 109 1 (v_0) _ _ ls hw (Or.inr rfl) ⟨rfl, by omega⟩ dX8_isSign_109
  by_cases tb1_2 : v_c = 42
  · refine j_tabIn E 108 r_v_c 2 dX8_isSign_1 (by omega) rfl (by decide) ?_
    refine j_iconst E 109 rfl dX8_isSign_108 ?_
    exact hret 109 1 (v_0) _ _ ls hw (Or.inr rfl) ⟨rfl, by omega⟩ dX8_isSign_109
  by_cases tb1_3 : v_c = 43
  · refine j_tabIn E 108 r_v_c 3 dX8_isSign_1 (by omega) rfl (by decide) ?_
    refine j_iconst E 109 rfl dX8_isSign_108 ?_
    exact hret 109 1 (v_0) _ _ ls hw (Or.inr rfl) ⟨rfl, by omega⟩ dX8_isSign_109
  by_cases tb1_4 : v_c = 44
  · refine j_tabIn E 110 r_v_c 4 dX8_isSign_1 (by omega) rfl (by decide) ?_
    refine j_iconst E 111 rfl dX8_isSign_110 ?_
    exact hret 111 0 (v_0) _ _ ls hw (Or.inl rfl) ⟨rfl, by omega⟩ dX8_isSign_111
  by_cases tb1_5 : v_c = 45
  · refine j_tabIn E 108 r_v_c 5 dX8_isSign_1 (by omega) rfl (by decide) ?_
    refine j_iconst E 109 rfl dX8_isSign_108 ?_
    exact hret 109 1 (v_0) _ _ ls hw (Or.inr rfl) ⟨rfl, by omega⟩ dX8_isSign_109
  by_cases tb1_6 : v_c = 46
  · refine j_tabIn E 110 r_v_c 6 dX8_isSign_1 (by omega) rfl (by decide) ?_
    refine j_iconst E 111 rfl dX8_isSign_110 ?_
    exact hret 111 0 (v_0) _ _ ls hw (Or.inl rfl) ⟨rfl, by omega⟩ dX8_isSign_111
  by_cases tb1_7 : v_c = 47
  · refine j_tabIn E 108 r_v_c 7 dX8_isSign_1 (by omega) rfl (by decide) ?_
    refine j_iconst E 109 rfl dX8_isSign_108 ?_
    exact hret 109 1 (v_0) _ _ ls hw (Or.inr rfl) ⟨rfl, by omega⟩ dX8_isSign_109
  by_cases tb1_8 : v_c = 48
  · refine j_tabIn E 110 r_v_c 8 dX8_isSign_1 (by omega) rfl (by decide) ?_
    refine j_iconst E 111 rfl dX8_isSign_110 ?_
    exact hret 111 0 (v_0) _ _ ls hw (Or.inl rfl) ⟨rfl, by omega⟩ dX8_isSign_111
  by_cases tb1_9 : v_c = 49
  · refine j_tabIn E 110 r_v_c 9 dX8_isSign_1 (by omega) rfl (by decide) ?_
    refine j_iconst E 111 rfl dX8_isSign_110 ?_
    exact hret 111 0 (v_0) _ _ ls hw (Or.inl rfl) ⟨rfl, by omega⟩ dX8_isSign_111
  by_cases tb1_10 : v_c = 50
  · refine j_tabIn E 110 r_v_c 10 dX8_isSign_1 (by omega) rfl (by decide) ?_
    refine j_iconst E 111 rfl dX8_isSign_110 ?_
    exact hret 111 0 (v_0) _ _ ls hw (Or.inl rfl) ⟨rfl, by omega⟩ dX8_isSign_111
  by_cases tb1_11 : v_c = 51
  · refine j_tabIn E 110 r_v_c 11 dX8_isSign_1 (by omega) rfl (by decide) ?_
    refine j_iconst E 111 rfl dX8_isSign_110 ?_
    exact hret 111 0 (v_0) _ _ ls hw (Or.inl rfl) ⟨rfl, by omega⟩ dX8_isSign_111
  by_cases tb1_12 : v_c = 52
  · refine j_tabIn E 110 r_v_c 12 dX8_isSign_1 (by omega) rfl (by decide) ?_
    refine j_iconst E 111 rfl dX8_isSign_110 ?_
    exact hret 111 0 (v_0) _ _ ls hw (Or.inl rfl) ⟨rfl, by omega⟩ dX8_isSign_111
  by_cases tb1_13 : v_c = 53
  · refine j_tabIn E 110 r_v_c 13 dX8_isSign_1 (by omega) rfl (by decide) ?_
    refine j_iconst E 111 rfl dX8_isSign_110 ?_
    exact hret 111 0 (v_0) _ _ ls hw (Or.inl rfl) ⟨rfl, by omega⟩ dX8_isSign_111
  by_cases tb1_14 : v_c = 54
  · refine j_tabIn E 110 r_v_c 14 dX8_isSign_1 (by omega) rfl (by decide) ?_
    refine j_iconst E 111 rfl dX8_isSign_110 ?_
    exact hret 111 0 (v_0) _ _ ls hw (Or.inl rfl) ⟨rfl, by omega⟩ dX8_isSign_111
  by_cases tb1_15 : v_c = 55
  · refine j_tabIn E 110 r_v_c 15 dX8_isSign_1 (by omega) rfl (by decide) ?_
    refine j_iconst E 111 rfl dX8_isSign_110 ?_
    exact hret 111 0 (v_0) _ _ ls hw (Or.inl rfl) ⟨rfl, by omega⟩ dX8_isSign_111
  by_cases tb1_16 : v_c = 56
  · refine j_tabIn E 110 r_v_c 16 dX8_isSign_1 (by omega) rfl (by decide) ?_
    refine j_iconst E 111 rfl dX8_isSign_110 ?_
    exact hret 111 0 (v_0) _ _ ls hw (Or.inl rfl) ⟨rfl, by omega⟩ dX8_isSign_111
  by_cases tb1_17 : v_c = 57
  · refine j_tabIn E 110 r_v_c 17 dX8_isSign_1 (by omega) rfl (by decide) ?_
    refine j_iconst E 111 rfl dX8_isSign_110 ?_
    exact hret 111 0 (v_0) _ _ ls hw (Or.inl rfl) ⟨rfl, by omega⟩ dX8_isSign_111
  by_cases tb1_18 : v_c = 58
  · refine j_tabIn E 110 r_v_c 18 dX8_isSign_1 (by omega) rfl (by decide) ?_
    refine j_iconst E 111 rfl dX8_isSign_110 ?_
    exact hret 111 0 (v_0) _ _ ls hw (Or.inl rfl) ⟨rfl, by omega⟩ dX8_isSign_111
  by_cases tb1_19 : v_c = 59
  · refine j_tabIn E 108 r_v_c 19 dX8_isSign_1 (by omega) rfl (by decide) ?_
    refine j_iconst E 109 rfl dX8_isSign_108 ?_
    exact hret 109 1 (v_0) _ _ ls hw (Or.inr rfl) ⟨rfl, by omega⟩ dX8_isSign_109
  by_cases tb1_20 : v_c = 60
  · refine j_tabIn E 108 r_v_c 20 dX8_isSign_1 (by omega) rfl (by decide) ?_
    refine j_iconst E 109 rfl dX8_isSign_108 ?_
    exact hret 109 1 (v_0) _ _ ls hw (Or.inr rfl) ⟨rfl, by omega⟩ dX8_isSign_109
  by_cases tb1_21 : v_c = 61
  · refine j_tabIn E 108 r_v_c 21 dX8_isSign_1 (by omega) rfl (by decide) ?_
    refine j_iconst E 109 rfl dX8_isSign_108 ?_
    exact hret 109 1 (v_0) _ _ ls hw (Or.inr rfl) ⟨rfl, by omega⟩ dX8_isSign_109
  by_cases tb1_22 : v_c = 62
  · refine j_tabIn E 108 r_v_c 22 dX8_isSign_1 (by omega) rfl (by decide) ?_
    refine j_iconst E 109 rfl dX8_isSign_108 ?_
    exact hret 109 1 (v_0) _ _ ls hw (Or.inr rfl) ⟨rfl, by omega⟩ dX8_isSign_109
  refine j_tabOut E 110 r_v_c dX8_isSign_1 (by omega) (by decide) ?_
  refine j_iconst E 111 rfl dX8_isSign_110 ?_
  exact hret 111 0 (v_0) _ _ ls hw (Or.inl rfl) ⟨rfl, by omega⟩ dX8_isSign_111
set_option maxHeartbeats 4000000 in
set_option maxRecDepth 100000 in
theorem c_X8_isFact (l : Launch) (D : va_G) (cy : Nat → ClassId) (T : Nat → Nat → Nat) (v_0 : Nat → Nat → Int) (v_c : Int) (r_v_c : inR v_c) : KC l D cy T yX8_isFact cX8_isFact 1 (some .boolean) 1 [.int (J v_c)] v_0 (KI (fun (z_0 : Int) (v_2 : Nat → Nat → Int) => v_2 = v_0 ∧ ((z_0 = 1 ∧ (307 ≤ v_c ∧ v_c ≤ 311)) ∨ (z_0 = 0 ∧ ¬ (307 ≤ v_c ∧ v_c ≤ 311))))) := by
  refine KC.ofz (by decide) (Nat.le_of_ble_eq_true rfl) ?_
  intro p e s m below meth c ls ar QW A0 H0 H locs E hK hA hw hl hret
  have hl : lv_has ls 1 [(0, .int (J v_c))] := hl
  have hT : WT T := hw.1.2.1
  refine j_iload_n E 1 rfl dX8_isFact_0 rfl (lv_at hl 0 rfl) ?_
  refine j_sipush E 4 rfl dX8_isFact_1 (by decide) ?_
  refine j_icmp_lt E 7 18 rfl r_v_c (rr (by decide)) dX8_isFact_4 (by decide) (fun cc1_ => ?_) (fun cc1_ => ?_)
  · refine j_iconst E 19 rfl dX8_isFact_18 ?_
    exact hret 19 0 (v_0) _ _ ls hw (Or.inl rfl) ⟨rfl, by omega⟩ dX8_isFact_19
  · refine j_iload_n E 8 rfl dX8_isFact_7 rfl (lv_at hl 0 rfl) ?_
    refine j_sipush E 11 rfl dX8_isFact_8 (by decide) ?_
    refine j_icmp_gt E 14 18 rfl r_v_c (rr (by decide)) dX8_isFact_11 (by decide) (fun cc2_ => ?_) (fun cc2_ => ?_)
    · refine j_iconst E 19 rfl dX8_isFact_18 ?_
      exact hret 19 0 (v_0) _ _ ls hw (Or.inl rfl) ⟨rfl, by omega⟩ dX8_isFact_19
    · refine j_iconst E 15 rfl dX8_isFact_14 ?_
      refine j_goto E 19 dX8_isFact_15 (by decide) ?_
      exact hret 19 1 (v_0) _ _ ls hw (Or.inr rfl) ⟨rfl, by omega⟩ dX8_isFact_19
set_option maxHeartbeats 4000000 in
set_option maxRecDepth 100000 in
theorem c_X8_isReckoning (l : Launch) (D : va_G) (cy : Nat → ClassId) (T : Nat → Nat → Nat) (v_0 : Nat → Nat → Int) (v_c : Int) (r_v_c : inR v_c) : KC l D cy T yX8_isReckoning cX8_isReckoning 1 (some .boolean) 1 [.int (J v_c)] v_0 (KI (fun (z_0 : Int) (v_2 : Nat → Nat → Int) => v_2 = v_0 ∧ ((z_0 = 1 ∧ (v_c = 43 ∨ v_c = 45 ∨ v_c = 42 ∨ v_c = 47)) ∨ (z_0 = 0 ∧ ¬ (v_c = 43 ∨ v_c = 45 ∨ v_c = 42 ∨ v_c = 47))))) := by
  refine KC.ofz (by decide) (Nat.le_of_ble_eq_true rfl) ?_
  intro p e s m below meth c ls ar QW A0 H0 H locs E hK hA hw hl hret
  have hl : lv_has ls 1 [(0, .int (J v_c))] := hl
  have hT : WT T := hw.1.2.1
  refine j_iload_n E 1 rfl dX8_isReckoning_0 rfl (lv_at hl 0 rfl) ?_
  refine j_bipush E 3 rfl dX8_isReckoning_1 (by decide) ?_
  refine j_icmp_eq E 6 24 rfl r_v_c (rr (by decide)) dX8_isReckoning_3 (by decide) (fun cc1_ => ?_) (fun cc1_ => ?_)
  · refine j_iconst E 25 rfl dX8_isReckoning_24 ?_
    refine j_goto E 29 dX8_isReckoning_25 (by decide) ?_
    exact hret 29 1 (v_0) _ _ ls hw (Or.inr rfl) ⟨rfl, by omega⟩ dX8_isReckoning_29
  · refine j_iload_n E 7 rfl dX8_isReckoning_6 rfl (lv_at hl 0 rfl) ?_
    refine j_bipush E 9 rfl dX8_isReckoning_7 (by decide) ?_
    refine j_icmp_eq E 12 24 rfl r_v_c (rr (by decide)) dX8_isReckoning_9 (by decide) (fun cc2_ => ?_) (fun cc2_ => ?_)
    · refine j_iconst E 25 rfl dX8_isReckoning_24 ?_
      refine j_goto E 29 dX8_isReckoning_25 (by decide) ?_
      exact hret 29 1 (v_0) _ _ ls hw (Or.inr rfl) ⟨rfl, by omega⟩ dX8_isReckoning_29
    · refine j_iload_n E 13 rfl dX8_isReckoning_12 rfl (lv_at hl 0 rfl) ?_
      refine j_bipush E 15 rfl dX8_isReckoning_13 (by decide) ?_
      refine j_icmp_eq E 18 24 rfl r_v_c (rr (by decide)) dX8_isReckoning_15 (by decide) (fun cc3_ => ?_) (fun cc3_ => ?_)
      · refine j_iconst E 25 rfl dX8_isReckoning_24 ?_
        refine j_goto E 29 dX8_isReckoning_25 (by decide) ?_
        exact hret 29 1 (v_0) _ _ ls hw (Or.inr rfl) ⟨rfl, by omega⟩ dX8_isReckoning_29
      · refine j_iload_n E 19 rfl dX8_isReckoning_18 rfl (lv_at hl 0 rfl) ?_
        refine j_bipush E 21 rfl dX8_isReckoning_19 (by decide) ?_
        refine j_icmp_ne E 24 28 rfl r_v_c (rr (by decide)) dX8_isReckoning_21 (by decide) (fun cc4_ => ?_) (fun cc4_ => ?_)
        · refine j_iconst E 29 rfl dX8_isReckoning_28 ?_
          exact hret 29 0 (v_0) _ _ ls hw (Or.inl rfl) ⟨rfl, by omega⟩ dX8_isReckoning_29
        · refine j_iconst E 25 rfl dX8_isReckoning_24 ?_
          refine j_goto E 29 dX8_isReckoning_25 (by decide) ?_
          exact hret 29 1 (v_0) _ _ ls hw (Or.inr rfl) ⟨rfl, by omega⟩ dX8_isReckoning_29
set_option maxHeartbeats 4000000 in
set_option maxRecDepth 100000 in
theorem c_X4_owedBy (l : Launch) (D : va_G) (cy : Nat → ClassId) (T : Nat → Nat → Nat) (v_0 : Nat → Nat → Int) (o : Nat) (v_l : Int) (t_o : T 0 o = 5) (r_v_l : inR v_l) : KC l D cy T yX4_owedBy cX4_owedBy 2 (some .int) 1 [.ref o, .int (J v_l)] v_0 (KI (fun (z_0 : Int) (v_2 : Nat → Nat → Int) => v_2 = v_0 ∧ ((0 ≤ v_l ∧ v_l < 24 ∧ z_0 = gC_ (v_0 300) (T 101 o) v_l) ∨ (¬ (0 ≤ v_l ∧ v_l < 24) ∧ z_0 = 0)))) := by
  refine KC.ofi (by decide) (Nat.le_of_ble_eq_true rfl) ?_
  intro p e s m below meth c ls ar QW A0 H0 H locs E hK hA hw hl hret
  have hl : lv_has ls 2 [(0, .ref o), (1, .int (J v_l))] := hl
  have hT : WT T := hw.1.2.1
  refine j_iload_n E 1 rfl dX4_owedBy_0 rfl (lv_at hl 1 rfl) ?_
  refine j_if_lt E 4 22 rfl r_v_l dX4_owedBy_1 (by decide) (fun cc1_ => ?_) (fun cc1_ => ?_)
  · refine j_iconst E 23 rfl dX4_owedBy_22 ?_
    exact hret 23 0 (v_0) _ _ ls hw (rr (by decide)) ⟨rfl, by omega⟩ dX4_owedBy_23
  · refine j_iload_n E 5 rfl dX4_owedBy_4 rfl (lv_at hl 1 rfl) ?_
    refine j_aload_n E 6 rfl dX4_owedBy_5 rfl (lv_at hl 0 rfl) ?_
    refine g_101 E hK hw fl_X4_17 t_o 9 rfl dX4_owedBy_6 ?_
    have ln2_ := wl_101 hT t_o
    refine a_ln20 E hK hw (wt_101 hT t_o) 10 rfl dX4_owedBy_9 (fun rr3_ => ?_)
    refine j_icmp_ge E 13 22 rfl r_v_l rr3_ dX4_owedBy_10 (by decide) (fun cc4_ => ?_) (fun cc4_ => ?_)
    · refine j_iconst E 23 rfl dX4_owedBy_22 ?_
      exact hret 23 0 (v_0) _ _ ls hw (rr (by decide)) ⟨rfl, by omega⟩ dX4_owedBy_23
    · refine j_aload_n E 14 rfl dX4_owedBy_13 rfl (lv_at hl 0 rfl) ?_
      refine g_101 E hK hw fl_X4_17 t_o 17 rfl dX4_owedBy_14 ?_
      refine j_iload_n E 18 rfl dX4_owedBy_17 rfl (lv_at hl 1 rfl) ?_
      refine a_ld20 E hK hw (wt_101 hT t_o) (by omega) 19 rfl dX4_owedBy_18 (fun zz5_ he5_ rr5_ => ?_)
      have he5_ : zz5_ = v_0 300 (pr (T 101 o) (Int.toNat v_l)) := he5_
      have he_ : zz5_ = gC_ (v_0 300) (T 101 o) v_l := he5_
      refine j_goto E 23 dX4_owedBy_19 (by decide) ?_
      exact hret 23 zz5_ (v_0) _ _ ls hw rr5_ ⟨rfl, by omega⟩ dX4_owedBy_23
set_option maxHeartbeats 4000000 in
set_option maxRecDepth 100000 in
theorem c_X4_putFact (l : Launch) (D : va_G) (cy : Nat → ClassId) (T : Nat → Nat → Nat) (v_0 : Nat → Nat → Int) (o : Nat) (v_k : Int) (v_f : Int) (t_o : T 0 o = 5) (r_v_k : inR v_k) (r_v_f : inR v_f) (hp0 : 307 ≤ v_k ∧ v_k ≤ 311) : KC l D cy T yX4_putFact cX4_putFact 4 none 1 [.ref o, .int (J v_k), .int (J v_f)] v_0 (KV (fun (v_2 : Nat → Nat → Int) => ∃ (y300_2 : Nat → Int) , v_2 = upV v_0 300 y300_2 ∧ (((y300_2) = upB (v_0 300) (pr (T 100 o) (Int.toNat (v_k - 307))) v_f) ∧ Kd_ T [100] (v_0 300) y300_2))) := by
  refine KC.ofv (by decide) (Nat.le_of_ble_eq_true rfl) ?_
  intro p e s m below meth c ls ar QW A0 H0 H locs E hK hA hw hl hret
  have hl : lv_has ls 4 [(0, .ref o), (1, .int (J v_k)), (2, .int (J v_f))] := hl
  have hT : WT T := hw.1.2.1
  refine j_iload_n E 1 rfl dX4_putFact_0 rfl (lv_at hl 1 rfl) ?_
  refine j_sipush E 4 rfl dX4_putFact_1 (by decide) ?_
  refine j_isub E 5 rfl dX4_putFact_4 ?_
  refine j_istore_n E 6 rfl [(3, .int (J (v_k - 307))), (0, .ref o), (1, .int (J v_k)), (2, .int (J v_f))] dX4_putFact_5 rfl hl (by decide) rfl (fun ls hl => ?_)
  refine j_iload_n E 7 rfl dX4_putFact_6 rfl (lv_at hl 0 rfl) ?_
  refine j_if_lt E 10 26 rfl (rr (by omega)) dX4_putFact_7 (by decide) (fun cc1_ => ?_) (fun cc1_ => ?_)
  · exfalso; omega
  refine j_iload_n E 11 rfl dX4_putFact_10 rfl (lv_at hl 0 rfl) ?_
  refine j_aload_n E 12 rfl dX4_putFact_11 rfl (lv_at hl 1 rfl) ?_
  refine g_100 E hK hw fl_X4_11 t_o 15 rfl dX4_putFact_12 ?_
  have ln2_ := wl_100 hT t_o
  refine a_ln20 E hK hw (wt_100 hT t_o) 16 rfl dX4_putFact_15 (fun rr3_ => ?_)
  refine j_icmp_ge E 19 26 rfl (rr (by omega)) rr3_ dX4_putFact_16 (by decide) (fun cc4_ => ?_) (fun cc4_ => ?_)
  · exfalso; omega
  refine j_aload_n E 20 rfl dX4_putFact_19 rfl (lv_at hl 1 rfl) ?_
  refine g_100 E hK hw fl_X4_11 t_o 23 rfl dX4_putFact_20 ?_
  refine j_iload_n E 24 rfl dX4_putFact_23 rfl (lv_at hl 0 rfl) ?_
  refine j_iload_n E 25 rfl dX4_putFact_24 rfl (lv_at hl 3 rfl) ?_
  refine a_st20 E hK hw (wt_100 hT t_o) r_v_f (by omega) 26 rfl dX4_putFact_25 (fun H locs hw => ?_)
  have hw : WK D cy T (upV v_0 300 (upB (v_0 300) ((pr (T 100 o) (Int.toNat (v_k - 307)))) v_f)) A0 H0 H locs := cw_eq hw (by first | rfl | (funext j_; simp only [upV, reduceIte]; (repeat' split) <;> first | rfl | omega | (subst_vars; rfl)))
  exact hret 26 (upV v_0 300 (upB (v_0 300) ((pr (T 100 o) (Int.toNat (v_k - 307)))) v_f)) _ _ ls hw ⟨(upB (v_0 300) ((pr (T 100 o) (Int.toNat (v_k - 307)))) v_f), rfl, ⟨rfl, (Kd_tr Kd_rf (Kd_up (wok (wo_100 hT t_o) (by decide)) (by decide)))⟩⟩ dX4_putFact_26
set_option maxHeartbeats 4000000 in
set_option maxRecDepth 100000 in
theorem c_X4_factOf (l : Launch) (D : va_G) (cy : Nat → ClassId) (T : Nat → Nat → Nat) (v_0 : Nat → Nat → Int) (o : Nat) (v_k : Int) (t_o : T 0 o = 5) (r_v_k : inR v_k) (hp0 : 307 ≤ v_k ∧ v_k ≤ 311) : KC l D cy T yX4_factOf cX4_factOf 3 (some .int) 1 [.ref o, .int (J v_k)] v_0 (KI (fun (z_0 : Int) (v_2 : Nat → Nat → Int) => v_2 = v_0 ∧ (z_0 = gC_ (v_0 300) (T 100 o) (v_k - 307)))) := by
  refine KC.ofi (by decide) (Nat.le_of_ble_eq_true rfl) ?_
  intro p e s m below meth c ls ar QW A0 H0 H locs E hK hA hw hl hret
  have hl : lv_has ls 3 [(0, .ref o), (1, .int (J v_k))] := hl
  have hT : WT T := hw.1.2.1
  refine j_iload_n E 1 rfl dX4_factOf_0 rfl (lv_at hl 1 rfl) ?_
  refine j_sipush E 4 rfl dX4_factOf_1 (by decide) ?_
  refine j_isub E 5 rfl dX4_factOf_4 ?_
  refine j_istore_n E 6 rfl [(2, .int (J (v_k - 307))), (0, .ref o), (1, .int (J v_k))] dX4_factOf_5 rfl hl (by decide) rfl (fun ls hl => ?_)
  refine j_iload_n E 7 rfl dX4_factOf_6 rfl (lv_at hl 0 rfl) ?_
  refine j_if_lt E 10 28 rfl (rr (by omega)) dX4_factOf_7 (by decide) (fun cc1_ => ?_) (fun cc1_ => ?_)
  · exfalso; omega
  refine j_iload_n E 11 rfl dX4_factOf_10 rfl (lv_at hl 0 rfl) ?_
  refine j_aload_n E 12 rfl dX4_factOf_11 rfl (lv_at hl 1 rfl) ?_
  refine g_100 E hK hw fl_X4_11 t_o 15 rfl dX4_factOf_12 ?_
  have ln2_ := wl_100 hT t_o
  refine a_ln20 E hK hw (wt_100 hT t_o) 16 rfl dX4_factOf_15 (fun rr3_ => ?_)
  refine j_icmp_ge E 19 28 rfl (rr (by omega)) rr3_ dX4_factOf_16 (by decide) (fun cc4_ => ?_) (fun cc4_ => ?_)
  · exfalso; omega
  refine j_aload_n E 20 rfl dX4_factOf_19 rfl (lv_at hl 1 rfl) ?_
  refine g_100 E hK hw fl_X4_11 t_o 23 rfl dX4_factOf_20 ?_
  refine j_iload_n E 24 rfl dX4_factOf_23 rfl (lv_at hl 0 rfl) ?_
  refine a_ld20 E hK hw (wt_100 hT t_o) (by omega) 25 rfl dX4_factOf_24 (fun zz5_ he5_ rr5_ => ?_)
  have he5_ : zz5_ = v_0 300 (pr (T 100 o) (Int.toNat (v_k - 307))) := he5_
  have he_ : zz5_ = gC_ (v_0 300) (T 100 o) (v_k - 307) := he5_
  refine j_goto E 29 dX4_factOf_25 (by decide) ?_
  exact hret 29 zz5_ (v_0) _ _ ls hw rr5_ ⟨rfl, he_⟩ dX4_factOf_29
set_option maxHeartbeats 4000000 in
set_option maxRecDepth 100000 in
theorem c_X4_push (l : Launch) (D : va_G) (cy : Nat → ClassId) (T : Nat → Nat → Nat) (v_0 : Nat → Nat → Int) (o : Nat) (v_n : Int) (s_ : List Int) (t_o : T 0 o = 5) (r_v_n : inR v_n) (hp0 : Sk_ (gC_ (v_0 300) (T 102 o)) s_) (hp1 : (v_0 103 o) = (s_.length : Int) ∧ s_.length ≤ 31) : KC l D cy T yX4_push cX4_push 2 none 1 [.ref o, .int (J v_n)] v_0 (KV (fun (v_2 : Nat → Nat → Int) => ∃ (y103_2 : Nat → Int) (y300_2 : Nat → Int) , v_2 = upV (upV v_0 103 y103_2) 300 y300_2 ∧ ((Sk_ (gC_ (y300_2) (T 102 o)) (v_n :: s_) ∧ (y103_2 o) = (s_.length : Int) + 1 ∧ Ro_ (v_0 300) (y300_2) (T 102 o)) ∧ Kd_ T [102] (v_0 300) y300_2))) := by
  refine KC.ofv (by decide) (Nat.le_of_ble_eq_true rfl) ?_
  intro p e s m below meth c ls ar QW A0 H0 H locs E hK hA hw hl hret
  have hl : lv_has ls 2 [(0, .ref o), (1, .int (J v_n))] := hl
  have hT : WT T := hw.1.2.1
  refine j_aload_n E 1 rfl dX4_push_0 rfl (lv_at hl 0 rfl) ?_
  refine g_103 E hK hw fl_X4_23 t_o (v_0 103 o) rfl 4 rfl dX4_push_1 (fun rr1_ => ?_)
  refine j_if_lt E 7 39 rfl rr1_ dX4_push_4 (by decide) (fun cc2_ => ?_) (fun cc2_ => ?_)
  · exfalso; omega
  refine j_aload_n E 8 rfl dX4_push_7 rfl (lv_at hl 0 rfl) ?_
  refine g_103 E hK hw fl_X4_23 t_o (v_0 103 o) rfl 11 rfl dX4_push_8 (fun _ => ?_)
  refine j_aload_n E 12 rfl dX4_push_11 rfl (lv_at hl 0 rfl) ?_
  refine g_102 E hK hw fl_X4_20 t_o 15 rfl dX4_push_12 ?_
  have ln3_ := wl_102 hT t_o
  refine a_ln20 E hK hw (wt_102 hT t_o) 16 rfl dX4_push_15 (fun rr4_ => ?_)
  refine j_icmp_ge E 19 39 rfl rr1_ rr4_ dX4_push_16 (by decide) (fun cc5_ => ?_) (fun cc5_ => ?_)
  · exfalso; omega
  refine j_aload_n E 20 rfl dX4_push_19 rfl (lv_at hl 0 rfl) ?_
  refine g_102 E hK hw fl_X4_20 t_o 23 rfl dX4_push_20 ?_
  refine j_aload_n E 24 rfl dX4_push_23 rfl (lv_at hl 0 rfl) ?_
  refine g_103 E hK hw fl_X4_23 t_o (v_0 103 o) rfl 27 rfl dX4_push_24 (fun _ => ?_)
  refine j_iload_n E 28 rfl dX4_push_27 rfl (lv_at hl 1 rfl) ?_
  refine a_st20 E hK hw (wt_102 hT t_o) r_v_n (by omega) 29 rfl dX4_push_28 (fun H locs hw => ?_)
  have hw : WK D cy T (upV v_0 300 (upB (v_0 300) ((pr (T 102 o) (Int.toNat (v_0 103 o)))) v_n)) A0 H0 H locs := cw_eq hw (by first | rfl | (funext j_; simp only [upV, reduceIte]; (repeat' split) <;> first | rfl | omega | (subst_vars; rfl)))
  refine j_aload_n E 30 rfl dX4_push_29 rfl (lv_at hl 0 rfl) ?_
  refine j_dup E 31 rfl dX4_push_30 rfl ?_
  refine g_103 E hK hw fl_X4_23 t_o (v_0 103 o) rfl 34 rfl dX4_push_31 (fun _ => ?_)
  refine j_iconst E 35 rfl dX4_push_34 ?_
  refine j_iadd E 36 rfl dX4_push_35 ?_
  refine p_103 E hK hw fl_X4_23 t_o (rr (by omega)) 39 rfl dX4_push_36 (fun H locs hw => ?_)
  have hw : WK D cy T (upV (upV v_0 103 (upB (v_0 103) o ((v_0 103 o) + 1))) 300 (upB (v_0 300) ((pr (T 102 o) (Int.toNat (v_0 103 o)))) v_n)) A0 H0 H locs := cw_eq hw (by first | rfl | (funext j_; simp only [upV, reduceIte]; (repeat' split) <;> first | rfl | omega | (subst_vars; rfl)))
  exact hret 39 (upV (upV v_0 103 (upB (v_0 103) o ((v_0 103 o) + 1))) 300 (upB (v_0 300) ((pr (T 102 o) (Int.toNat (v_0 103 o)))) v_n)) _ _ ls hw ⟨(upB (v_0 103) o ((v_0 103 o) + 1)), (upB (v_0 300) ((pr (T 102 o) (Int.toNat (v_0 103 o)))) v_n), rfl, ⟨⟨Sk_push hp0 hp1.1, by rw [upB_same]; omega, Ro_up⟩, (Kd_tr Kd_rf (Kd_up (wok (wo_102 hT t_o) (by decide)) (by decide)))⟩⟩ dX4_push_39
set_option maxHeartbeats 4000000 in
set_option maxRecDepth 100000 in
theorem c_X4_pop (l : Launch) (D : va_G) (cy : Nat → ClassId) (T : Nat → Nat → Nat) (v_0 : Nat → Nat → Int) (o : Nat) (s_ : List Int) (t_o : T 0 o = 5) (hp0 : Sk_ (gC_ (v_0 300) (T 102 o)) s_) (hp1 : (v_0 103 o) = (s_.length : Int) ∧ s_.length ≤ 32) : KC l D cy T yX4_pop cX4_pop 1 (some .int) 1 [.ref o] v_0 (KI (fun (z_0 : Int) (v_2 : Nat → Nat → Int) => ∃ (y103_2 : Nat → Int) , v_2 = upV v_0 103 y103_2 ∧ (z_0 = s_.headD 0 ∧ (y103_2 o) = (s_.tail.length : Int)))) := by
  refine KC.ofi (by decide) (Nat.le_of_ble_eq_true rfl) ?_
  intro p e s m below meth c ls ar QW A0 H0 H locs E hK hA hw hl hret
  have hl : lv_has ls 1 [(0, .ref o)] := hl
  have hT : WT T := hw.1.2.1
  refine j_aload_n E 1 rfl dX4_pop_0 rfl (lv_at hl 0 rfl) ?_
  refine g_103 E hK hw fl_X4_23 t_o (v_0 103 o) rfl 4 rfl dX4_pop_1 (fun rr1_ => ?_)
  refine j_if_le E 7 39 rfl rr1_ dX4_pop_4 (by decide) (fun cc2_ => ?_) (fun cc2_ => ?_)
  · refine j_iconst E 40 rfl dX4_pop_39 ?_
    exact hret 40 0 (upV v_0 103 (v_0 103)) _ _ ls (cw_eq hw (by first | rfl | (funext j_; simp only [upV, reduceIte]; (repeat' split) <;> first | rfl | omega | (subst_vars; rfl)))) (rr (by decide)) ⟨(v_0 103), rfl, Sk_p0 hp1.1 (by omega)⟩ dX4_pop_40
  · refine j_aload_n E 8 rfl dX4_pop_7 rfl (lv_at hl 0 rfl) ?_
    refine g_103 E hK hw fl_X4_23 t_o (v_0 103 o) rfl 11 rfl dX4_pop_8 (fun _ => ?_)
    refine j_aload_n E 12 rfl dX4_pop_11 rfl (lv_at hl 0 rfl) ?_
    refine g_102 E hK hw fl_X4_20 t_o 15 rfl dX4_pop_12 ?_
    have ln3_ := wl_102 hT t_o
    refine a_ln20 E hK hw (wt_102 hT t_o) 16 rfl dX4_pop_15 (fun rr4_ => ?_)
    refine j_icmp_gt E 19 39 rfl rr1_ rr4_ dX4_pop_16 (by decide) (fun cc5_ => ?_) (fun cc5_ => ?_)
    · exfalso; omega
    refine j_aload_n E 20 rfl dX4_pop_19 rfl (lv_at hl 0 rfl) ?_
    refine j_dup E 21 rfl dX4_pop_20 rfl ?_
    refine g_103 E hK hw fl_X4_23 t_o (v_0 103 o) rfl 24 rfl dX4_pop_21 (fun _ => ?_)
    refine j_iconst E 25 rfl dX4_pop_24 ?_
    refine j_isub E 26 rfl dX4_pop_25 ?_
    refine p_103 E hK hw fl_X4_23 t_o (rr (by omega)) 29 rfl dX4_pop_26 (fun H locs hw => ?_)
    have hw : WK D cy T (upV v_0 103 (upB (v_0 103) o ((v_0 103 o) - 1))) A0 H0 H locs := cw_eq hw (by first | rfl | (funext j_; simp only [upV, reduceIte]; (repeat' split) <;> first | rfl | omega | (subst_vars; rfl)))
    refine j_aload_n E 30 rfl dX4_pop_29 rfl (lv_at hl 0 rfl) ?_
    refine g_102 E hK hw fl_X4_20 t_o 33 rfl dX4_pop_30 ?_
    refine j_aload_n E 34 rfl dX4_pop_33 rfl (lv_at hl 0 rfl) ?_
    refine g_103 E hK hw fl_X4_23 t_o ((v_0 103 o) - 1) (upB_same _ _ _) 37 rfl dX4_pop_34 (fun rr7_ => ?_)
    refine a_ld20 E hK hw (wt_102 hT t_o) (by omega) 38 rfl dX4_pop_37 (fun zz8_ he8_ rr8_ => ?_)
    have he8_ : zz8_ = v_0 300 (pr (T 102 o) (Int.toNat ((v_0 103 o) - 1))) := he8_
    have he_ : zz8_ = gC_ (v_0 300) (T 102 o) (((v_0 103 o) - 1)) := he8_
    exact hret 38 zz8_ (upV v_0 103 (upB (v_0 103) o ((v_0 103 o) - 1))) _ _ ls hw rr8_ ⟨(upB (v_0 103) o ((v_0 103 o) - 1)), rfl, by rw [upB_same]; exact Sk_pop hp0 hp1.1 (by omega) he_⟩ dX4_pop_38
set_option maxHeartbeats 4000000 in
set_option maxRecDepth 100000 in
theorem c_X4_join (l : Launch) (D : va_G) (cy : Nat → ClassId) (T : Nat → Nat → Nat) (v_0 : Nat → Nat → Int) (v_k : Int) (v_l : Int) (v_r : Int) (r_v_k : inR v_k) (r_v_l : inR v_l) (r_v_r : inR v_r) : KC l D cy T yX4_join cX4_join 3 (some .int) 1 [.int (J v_k), .int (J v_l), .int (J v_r)] v_0 (KI (fun (z_0 : Int) (v_2 : Nat → Nat → Int) => v_2 = v_0 ∧ (z_0 = jn_ v_k v_l v_r))) := by
  refine KC.ofi (by decide) (Nat.le_of_ble_eq_true rfl) ?_
  intro p e s m below meth c ls ar QW A0 H0 H locs E hK hA hw hl hret
  have hl : lv_has ls 3 [(0, .int (J v_k)), (1, .int (J v_l)), (2, .int (J v_r))] := hl
  have hT : WT T := hw.1.2.1
  refine j_iload_n E 1 rfl dX4_join_0 rfl (lv_at hl 0 rfl) ?_
  by_cases tb1_0 : v_k = 42
  · refine j_look E 92 r_v_k dX4_join_1 (by decide +kernel) (off := 91) (by rw [tb1_0]; rfl) (by decide) ?_
    refine j_iload_n E 93 rfl dX4_join_92 rfl (lv_at hl 1 rfl) ?_
    refine j_iload_n E 94 rfl dX4_join_93 rfl (lv_at hl 2 rfl) ?_
    refine j_imul E 95 rfl dX4_join_94 ?_
    refine j_norm (fun zz2_ rr2_ ee2_ => ?_)
    have en_ := ee2_
    have rn_ := rr2_
    exact hret 95 zz2_ (v_0) _ _ ls hw rr2_ ⟨rfl, by rw [jn_42 (by omega)]; exact w32_of rn_ en_⟩ dX4_join_95
  by_cases tb1_1 : v_k = 43
  · refine j_look E 84 r_v_k dX4_join_1 (by decide +kernel) (off := 83) (by rw [tb1_1]; rfl) (by decide) ?_
    refine j_iload_n E 85 rfl dX4_join_84 rfl (lv_at hl 1 rfl) ?_
    refine j_iload_n E 86 rfl dX4_join_85 rfl (lv_at hl 2 rfl) ?_
    refine j_iadd E 87 rfl dX4_join_86 ?_
    refine j_norm (fun zz3_ rr3_ ee3_ => ?_)
    have en_ := ee3_
    have rn_ := rr3_
    exact hret 87 zz3_ (v_0) _ _ ls hw rr3_ ⟨rfl, by rw [jn_43 (by omega)]; exact w32_of rn_ en_⟩ dX4_join_87
  by_cases tb1_2 : v_k = 45
  · refine j_look E 88 r_v_k dX4_join_1 (by decide +kernel) (off := 87) (by rw [tb1_2]; rfl) (by decide) ?_
    refine j_iload_n E 89 rfl dX4_join_88 rfl (lv_at hl 1 rfl) ?_
    refine j_iload_n E 90 rfl dX4_join_89 rfl (lv_at hl 2 rfl) ?_
    refine j_isub E 91 rfl dX4_join_90 ?_
    refine j_norm (fun zz4_ rr4_ ee4_ => ?_)
    have en_ := ee4_
    have rn_ := rr4_
    exact hret 91 zz4_ (v_0) _ _ ls hw rr4_ ⟨rfl, by rw [jn_45 (by omega)]; exact w32_of rn_ en_⟩ dX4_join_91
  by_cases tb1_3 : v_k = 47
  · refine j_look E 96 r_v_k dX4_join_1 (by decide +kernel) (off := 95) (by rw [tb1_3]; rfl) (by decide) ?_
    refine j_iload_n E 97 rfl dX4_join_96 rfl (lv_at hl 2 rfl) ?_
    refine j_if_eq E 100 106 rfl r_v_r dX4_join_97 (by decide) (fun cc5_ => ?_) (fun cc5_ => ?_)
    · refine j_iconst E 107 rfl dX4_join_106 ?_
      exact hret 107 0 (v_0) _ _ ls hw (rr (by decide)) ⟨rfl, by first | (rw [jn_47 (by omega) (by omega)]; exact eq_of_J rn_ en_) | exact (jn_470 (by omega) (by omega)).symm⟩ dX4_join_107
    · refine j_iload_n E 101 rfl dX4_join_100 rfl (lv_at hl 1 rfl) ?_
      refine j_iload_n E 102 rfl dX4_join_101 rfl (lv_at hl 2 rfl) ?_
      refine j_idiv E 103 rfl dX4_join_102 (fun h => absurd ((J_inj r_v_r inR0).mp (h.trans J_0.symm)) (by omega)) (fun zz6_ rr6_ ee6_ => ?_)
      have en_ := ee6_
      have rn_ := rr6_
      refine j_goto E 107 dX4_join_103 (by decide) ?_
      exact hret 107 zz6_ (v_0) _ _ ls hw rr6_ ⟨rfl, by first | (rw [jn_47 (by omega) (by omega)]; exact eq_of_J rn_ en_) | exact (jn_470 (by omega) (by omega)).symm⟩ dX4_join_107
  by_cases tb1_4 : v_k = 60
  · refine j_look E 108 r_v_k dX4_join_1 (by decide +kernel) (off := 107) (by rw [tb1_4]; rfl) (by decide) ?_
    refine j_iload_n E 109 rfl dX4_join_108 rfl (lv_at hl 1 rfl) ?_
    refine j_iload_n E 110 rfl dX4_join_109 rfl (lv_at hl 2 rfl) ?_
    refine j_icmp_ge E 113 117 rfl r_v_l r_v_r dX4_join_110 (by decide) (fun cc7_ => ?_) (fun cc7_ => ?_)
    · refine j_iconst E 118 rfl dX4_join_117 ?_
      exact hret 118 0 (v_0) _ _ ls hw (rr (by decide)) ⟨rfl, by rw [jn_60 (by omega)]; first | exact (if_pos (by omega)).symm | exact (if_neg (by omega)).symm⟩ dX4_join_118
    · refine j_iconst E 114 rfl dX4_join_113 ?_
      refine j_goto E 118 dX4_join_114 (by decide) ?_
      exact hret 118 1 (v_0) _ _ ls hw (rr (by decide)) ⟨rfl, by rw [jn_60 (by omega)]; first | exact (if_pos (by omega)).symm | exact (if_neg (by omega)).symm⟩ dX4_join_118
  by_cases tb1_5 : v_k = 61
  · refine j_look E 119 r_v_k dX4_join_1 (by decide +kernel) (off := 118) (by rw [tb1_5]; rfl) (by decide) ?_
    refine j_iload_n E 120 rfl dX4_join_119 rfl (lv_at hl 1 rfl) ?_
    refine j_iload_n E 121 rfl dX4_join_120 rfl (lv_at hl 2 rfl) ?_
    refine j_icmp_ne E 124 128 rfl r_v_l r_v_r dX4_join_121 (by decide) (fun cc8_ => ?_) (fun cc8_ => ?_)
    · refine j_iconst E 129 rfl dX4_join_128 ?_
      exact hret 129 0 (v_0) _ _ ls hw (rr (by decide)) ⟨rfl, by rw [jn_61 (by omega)]; first | exact (if_pos (by omega)).symm | exact (if_neg (by omega)).symm⟩ dX4_join_129
    · refine j_iconst E 125 rfl dX4_join_124 ?_
      refine j_goto E 129 dX4_join_125 (by decide) ?_
      exact hret 129 1 (v_0) _ _ ls hw (rr (by decide)) ⟨rfl, by rw [jn_61 (by omega)]; first | exact (if_pos (by omega)).symm | exact (if_neg (by omega)).symm⟩ dX4_join_129
  by_cases tb1_6 : v_k = 62
  · refine j_look E 130 r_v_k dX4_join_1 (by decide +kernel) (off := 129) (by rw [tb1_6]; rfl) (by decide) ?_
    refine j_iload_n E 131 rfl dX4_join_130 rfl (lv_at hl 1 rfl) ?_
    refine j_iload_n E 132 rfl dX4_join_131 rfl (lv_at hl 2 rfl) ?_
    refine j_icmp_le E 135 139 rfl r_v_l r_v_r dX4_join_132 (by decide) (fun cc9_ => ?_) (fun cc9_ => ?_)
    · refine j_iconst E 140 rfl dX4_join_139 ?_
      exact hret 140 0 (v_0) _ _ ls hw (rr (by decide)) ⟨rfl, by rw [jn_62 (by omega)]; first | exact (if_pos (by omega)).symm | exact (if_neg (by omega)).symm⟩ dX4_join_140
    · refine j_iconst E 136 rfl dX4_join_135 ?_
      refine j_goto E 140 dX4_join_136 (by decide) ?_
      exact hret 140 1 (v_0) _ _ ls hw (rr (by decide)) ⟨rfl, by rw [jn_62 (by omega)]; first | exact (if_pos (by omega)).symm | exact (if_neg (by omega)).symm⟩ dX4_join_140
  by_cases tb1_7 : v_k = 304
  · refine j_look E 145 r_v_k dX4_join_1 (by decide +kernel) (off := 144) (by rw [tb1_7]; rfl) (by decide) ?_
    refine j_iload_n E 146 rfl dX4_join_145 rfl (lv_at hl 1 rfl) ?_
    refine j_iload_n E 147 rfl dX4_join_146 rfl (lv_at hl 2 rfl) ?_
    refine j_ior E 148 rfl dX4_join_147 (fun zz10_ rr10_ ee10_ => ?_)
    have en_ := ee10_
    have rn_ := rr10_
    exact hret 148 zz10_ (v_0) _ _ ls hw rr10_ ⟨rfl, by rw [jn_304 (by omega)]; exact eq_of_J rn_ en_⟩ dX4_join_148
  by_cases tb1_8 : v_k = 305
  · refine j_look E 141 r_v_k dX4_join_1 (by decide +kernel) (off := 140) (by rw [tb1_8]; rfl) (by decide) ?_
    refine j_iload_n E 142 rfl dX4_join_141 rfl (lv_at hl 1 rfl) ?_
    refine j_iload_n E 143 rfl dX4_join_142 rfl (lv_at hl 2 rfl) ?_
    refine j_iand E 144 rfl dX4_join_143 (fun zz11_ rr11_ ee11_ => ?_)
    have en_ := ee11_
    have rn_ := rr11_
    exact hret 144 zz11_ (v_0) _ _ ls hw rr11_ ⟨rfl, by rw [jn_305 (by omega)]; exact eq_of_J rn_ en_⟩ dX4_join_144
  refine j_look E 149 r_v_k dX4_join_1 (by decide +kernel) (off := 148) (by simp only [Op.lookupswitch.offset_cons, Op.lookupswitch.offset_nil]; rw [if_neg (fun q => tb1_0 q.symm), if_neg (fun q => tb1_1 q.symm), if_neg (fun q => tb1_2 q.symm), if_neg (fun q => tb1_3 q.symm), if_neg (fun q => tb1_4 q.symm), if_neg (fun q => tb1_5 q.symm), if_neg (fun q => tb1_6 q.symm), if_neg (fun q => tb1_7 q.symm), if_neg (fun q => tb1_8 q.symm)]) (by decide) ?_
  refine j_iconst E 150 rfl dX4_join_149 ?_
  exact hret 150 0 (v_0) _ _ ls hw (rr (by decide)) ⟨rfl, (jn_d (by omega) (by omega) (by omega) (by omega) (by omega) (by omega) (by omega) (by omega) (by omega)).symm⟩ dX4_join_150
set_option maxHeartbeats 4000000 in
set_option maxRecDepth 100000 in
theorem c_X4_runStep (l : Launch) (D : va_G) (cy : Nat → ClassId) (T : Nat → Nat → Nat) (v_0 : Nat → Nat → Int) (o : Nat) (v_s : Int) (v_l : Int) (F_ : Int → Int) (O_ : Int → Int) (s_ : List Int) (t_o : T 0 o = 5) (r_v_s : inR v_s) (r_v_l : inR v_l) (hp0 : F_ = gC_ (v_0 300) (T 100 o)) (hp1 : O_ = gC_ (v_0 300) (T 101 o)) (hp2 : Sk_ (gC_ (v_0 300) (T 102 o)) s_) (hp3 : (v_0 103 o) = (s_.length : Int) ∧ s_.length ≤ 31) (hp4 : v_l ≤ 24 ∧ -400 ≤ v_s) : KC l D cy T yX4_runStep cX4_runStep 5 none 2 [.ref o, .int (J v_s), .int (J v_l)] v_0 (KV (fun (v_2 : Nat → Nat → Int) => ∃ (y103_2 : Nat → Int) (y300_2 : Nat → Int) , v_2 = upV (upV v_0 103 y103_2) 300 y300_2 ∧ (((Sk_ (gC_ (y300_2) (T 102 o)) (ev1_ F_ O_ v_l v_s s_) ∧ (y103_2 o) = ((ev1_ F_ O_ v_l v_s s_).length : Int)) ∧ Ro_ (v_0 300) (y300_2) (T 102 o)) ∧ Kd_ T [102] (v_0 300) y300_2))) := by
  refine KC.ofv (by decide) (Nat.le_of_ble_eq_true rfl) ?_
  intro p e s m below meth c ls ar QW A0 H0 H locs E hK hA hw hl hret
  have hl : lv_has ls 5 [(0, .ref o), (1, .int (J v_s)), (2, .int (J v_l))] := hl
  have hT : WT T := hw.1.2.1
  have tl_ := tl_len (s := s_)
  have tt_ := tl_len (s := s_.tail)
  refine j_iload_n E 1 rfl dX4_runStep_0 rfl (lv_at hl 1 rfl) ?_
  refine j_sipush E 4 rfl dX4_runStep_1 (by decide) ?_
  refine j_icmp_lt E 7 34 rfl r_v_s (rr (by decide)) dX4_runStep_4 (by decide) (fun cc1_ => ?_) (fun cc1_ => ?_)
  · refine j_iload_n E 35 rfl dX4_runStep_34 rfl (lv_at hl 1 rfl) ?_
    refine j_if_lt E 38 46 rfl r_v_s dX4_runStep_35 (by decide) (fun cc2_ => ?_) (fun cc2_ => ?_)
    · refine j_iload_n E 47 rfl dX4_runStep_46 rfl (lv_at hl 1 rfl) ?_
      refine j_ineg E 48 rfl dX4_runStep_47 ?_
      refine kS_i E (c_X8_isFact l D cy T (v_0) (-v_s)   (rr (by omega)) ) ms_X8_isFact ml_X4_67 hK hw hA ⟨Nat.le_of_ble_eq_true rfl, Nat.le_of_ble_eq_true rfl⟩ ⟨Nat.le_of_ble_eq_true rfl, Nat.le_of_ble_eq_true rfl⟩ (As := [.int (J (-v_s))]) (rest := []) rfl rfl hl.1 (Nat.le_of_ble_eq_true rfl) 51 rfl dX4_runStep_48 (fun zz3_ v_3 H locs rr3_ hq3_ hw => ?_)
      obtain ⟨ev3_, hh3_⟩ := hq3_
      rw [ev3_] at hw; clear ev3_
      replace hh3_ : (zz3_ = 1 ∧ (307 ≤ (-v_s) ∧ (-v_s) ≤ 311)) ∨ (zz3_ = 0 ∧ ¬ (307 ≤ (-v_s) ∧ (-v_s) ≤ 311)) := hh3_
      rcases hh3_ with ⟨ee3_, hh3_⟩ | ⟨ee3_, hh3_⟩
      · subst ee3_
        refine j_if_eq E 54 67 rfl (rr (by decide)) dX4_runStep_51 (by decide) (fun cc4_ => absurd cc4_ (by decide)) (fun _ => ?_)
        refine j_aload_n E 55 rfl dX4_runStep_54 rfl (lv_at hl 0 rfl) ?_
        refine j_aload_n E 56 rfl dX4_runStep_55 rfl (lv_at hl 0 rfl) ?_
        refine j_iload_n E 57 rfl dX4_runStep_56 rfl (lv_at hl 1 rfl) ?_
        refine j_ineg E 58 rfl dX4_runStep_57 ?_
        refine kV_i E (c_X4_factOf l D cy T (v_0) o (-v_s)  t_o (rr (by omega)) (show 307 ≤ (-v_s) ∧ (-v_s) ≤ 311 from by omega)) mt_X4_factOf ml_X4_71 hK hw (cw_rc5 hK hw.1 t_o) hA ⟨Nat.le_of_ble_eq_true rfl, Nat.le_of_ble_eq_true rfl⟩ ⟨Nat.le_of_ble_eq_true rfl, Nat.le_of_ble_eq_true rfl⟩ (As := [.int (J (-v_s))]) (rest := [.ref o]) rfl rfl hl.1 (Nat.le_of_ble_eq_true rfl) 61 rfl dX4_runStep_58 (fun zz5_ v_5 H locs rr5_ hq5_ hw => ?_)
        obtain ⟨ev5_, hh5_⟩ := hq5_
        rw [ev5_] at hw; clear ev5_
        replace hh5_ : zz5_ = gC_ (v_0 300) (T 100 o) ((-v_s) - 307) := hh5_
        have fo_ := hh5_
        clear hh5_
        refine kV_v E (c_X4_push l D cy T (v_0) o zz5_ s_ t_o rr5_ (show Sk_ (gC_ (v_0 300) (T 102 o)) s_ from hp2) (show ((v_0 103) o) = (s_.length : Int) ∧ s_.length ≤ 31 from by omega)) mt_X4_push ml_X4_63 hK hw (cw_rc5 hK hw.1 t_o) hA ⟨Nat.le_of_ble_eq_true rfl, Nat.le_of_ble_eq_true rfl⟩ ⟨Nat.le_of_ble_eq_true rfl, Nat.le_of_ble_eq_true rfl⟩ (As := [.int (J zz5_)]) (rest := []) rfl rfl hl.1 (Nat.le_of_ble_eq_true rfl) 64 rfl dX4_runStep_61 (fun v_6 H locs hq6_ hw => ?_)
        obtain ⟨y103_6, y300_6, ev6_, hh6_⟩ := hq6_
        rw [ev6_] at hw; clear ev6_
        have hw : WK D cy T (upV (upV v_0 103 y103_6) 300 y300_6) A0 H0 H locs := cw_eq hw (by first | rfl | (funext j_; simp only [upV, reduceIte]; (repeat' split) <;> first | rfl | omega | (subst_vars; rfl)))
        obtain ⟨hh6_, kf6_⟩ := hh6_
        replace hh6_ : Sk_ (gC_ (y300_6) (T 102 o)) (zz5_ :: s_) ∧ (y103_6 o) = (s_.length : Int) + 1 ∧ Ro_ (v_0 300) (y300_6) (T 102 o) := hh6_
        have pu_ := hh6_
        clear hh6_
        refine j_goto E 116 dX4_runStep_64 (by decide) ?_
        exact hret 116 (upV (upV v_0 103 y103_6) 300 y300_6) _ _ ls hw ⟨y103_6, y300_6, rfl, ⟨by first | exact ⟨rs_of (by rw [ev1_l1 (by omega) (by omega), hp1]; congr 1; omega) pu_.1 pu_.2.1, pu_.2.2⟩ | exact ⟨rs_of (ev1_l0 (by omega) (by omega)) pu_.1 pu_.2.1, pu_.2.2⟩ | exact ⟨rs_of (ev1_n (by omega) (by omega)) pu_.1 pu_.2.1, pu_.2.2⟩ | exact ⟨rs_of (by rw [ev1_f (by omega), hp0, ← fo_]) pu_.1 pu_.2.1, pu_.2.2⟩ | exact ⟨rs_of (by rw [ev1_not (by omega), ← po_.1]; congr 1; first | exact if_pos (by omega) | exact if_neg (by omega)) pu_.1 pu_.2.1, pu_.2.2⟩ | exact ⟨rs_of (by rw [ev1_j (by omega) (by omega) (by omega), ← po_.1, ← pq_.1, ← jo_]) pu_.1 pu_.2.1, pu_.2.2⟩, (Kd_tr Kd_rf (Kd_mono kf6_ (by decide)))⟩⟩ dX4_runStep_116
      · subst ee3_
        refine j_if_eq E 54 67 rfl (rr (by decide)) dX4_runStep_51 (by decide) (fun _ => ?_) (fun cc7_ => absurd cc7_ (by decide))
        refine j_iload_n E 68 rfl dX4_runStep_67 rfl (lv_at hl 1 rfl) ?_
        refine j_sipush E 71 rfl dX4_runStep_68 (by decide) ?_
        refine j_icmp_ne E 74 93 rfl r_v_s (rr (by decide)) dX4_runStep_71 (by decide) (fun cc8_ => ?_) (fun cc8_ => ?_)
        · refine j_aload_n E 94 rfl dX4_runStep_93 rfl (lv_at hl 0 rfl) ?_
          refine kV_i E (c_X4_pop l D cy T (v_0) o s_ t_o  (show Sk_ (gC_ (v_0 300) (T 102 o)) s_ from hp2) (show ((v_0 103) o) = (s_.length : Int) ∧ s_.length ≤ 32 from by omega)) mt_X4_pop ml_X4_48 hK hw (cw_rc5 hK hw.1 t_o) hA ⟨Nat.le_of_ble_eq_true rfl, Nat.le_of_ble_eq_true rfl⟩ ⟨Nat.le_of_ble_eq_true rfl, Nat.le_of_ble_eq_true rfl⟩ (As := []) (rest := []) rfl rfl hl.1 (Nat.le_of_ble_eq_true rfl) 97 rfl dX4_runStep_94 (fun zz9_ v_9 H locs rr9_ hq9_ hw => ?_)
          obtain ⟨y103_9, ev9_, hh9_⟩ := hq9_
          rw [ev9_] at hw; clear ev9_
          have hw : WK D cy T (upV v_0 103 y103_9) A0 H0 H locs := cw_eq hw (by first | rfl | (funext j_; simp only [upV, reduceIte]; (repeat' split) <;> first | rfl | omega | (subst_vars; rfl)))
          replace hh9_ : zz9_ = s_.headD 0 ∧ (y103_9 o) = (s_.tail.length : Int) := hh9_
          have po_ := hh9_
          clear hh9_
          refine j_istore_n E 98 rfl [(3, .int (J zz9_)), (0, .ref o), (1, .int (J v_s)), (2, .int (J v_l))] dX4_runStep_97 rfl hl (by decide) rfl (fun ls hl => ?_)
          refine j_aload_n E 99 rfl dX4_runStep_98 rfl (lv_at hl 1 rfl) ?_
          refine kV_i E (c_X4_pop l D cy T (upV v_0 103 y103_9) o (s_.tail) t_o  (show Sk_ (gC_ (v_0 300) (T 102 o)) ((s_.tail)) from Sk_tl hp2) (show (y103_9 o) = (((s_.tail)).length : Int) ∧ ((s_.tail)).length ≤ 32 from by omega)) mt_X4_pop ml_X4_48 hK hw (cw_rc5 hK hw.1 t_o) hA ⟨Nat.le_of_ble_eq_true rfl, Nat.le_of_ble_eq_true rfl⟩ ⟨Nat.le_of_ble_eq_true rfl, Nat.le_of_ble_eq_true rfl⟩ (As := []) (rest := []) rfl rfl hl.1 (Nat.le_of_ble_eq_true rfl) 102 rfl dX4_runStep_99 (fun zz10_ v_10 H locs rr10_ hq10_ hw => ?_)
          obtain ⟨y103_10, ev10_, hh10_⟩ := hq10_
          rw [ev10_] at hw; clear ev10_
          have hw : WK D cy T (upV v_0 103 y103_10) A0 H0 H locs := cw_eq hw (by first | rfl | (funext j_; simp only [upV, reduceIte]; (repeat' split) <;> first | rfl | omega | (subst_vars; rfl)))
          replace hh10_ : zz10_ = ((s_.tail)).headD 0 ∧ (y103_10 o) = (((s_.tail)).tail.length : Int) := hh10_
          have pq_ := hh10_
          clear hh10_
          refine j_istore E 104 rfl [(4, .int (J zz10_)), (3, .int (J zz9_)), (0, .ref o), (1, .int (J v_s)), (2, .int (J v_l))] dX4_runStep_102 hl (by decide) rfl (fun ls hl => ?_)
          refine j_aload_n E 105 rfl dX4_runStep_104 rfl (lv_at hl 2 rfl) ?_
          refine j_iload_n E 106 rfl dX4_runStep_105 rfl (lv_at hl 3 rfl) ?_
          refine j_ineg E 107 rfl dX4_runStep_106 ?_
          refine j_iload E 109 rfl dX4_runStep_107 (lv_at hl 0 rfl) ?_
          refine j_iload_n E 110 rfl dX4_runStep_109 rfl (lv_at hl 1 rfl) ?_
          refine kS_i E (c_X4_join l D cy T (upV v_0 103 y103_10) (-v_s) zz10_ zz9_   (rr (by omega)) rr10_ rr9_ ) ms_X4_join ml_X4_74 hK hw hA ⟨Nat.le_of_ble_eq_true rfl, Nat.le_of_ble_eq_true rfl⟩ ⟨Nat.le_of_ble_eq_true rfl, Nat.le_of_ble_eq_true rfl⟩ (As := [.int (J (-v_s)), .int (J zz10_), .int (J zz9_)]) (rest := [.ref o]) rfl rfl hl.1 (Nat.le_of_ble_eq_true rfl) 113 rfl dX4_runStep_110 (fun zz11_ v_11 H locs rr11_ hq11_ hw => ?_)
          obtain ⟨ev11_, hh11_⟩ := hq11_
          rw [ev11_] at hw; clear ev11_
          replace hh11_ : zz11_ = jn_ (-v_s) zz10_ zz9_ := hh11_
          have jo_ := hh11_
          clear hh11_
          refine kV_v E (c_X4_push l D cy T (upV v_0 103 y103_10) o zz11_ (s_.tail.tail) t_o rr11_ (show Sk_ (gC_ (v_0 300) (T 102 o)) ((s_.tail.tail)) from Sk_tl (Sk_tl hp2)) (show (y103_10 o) = (((s_.tail.tail)).length : Int) ∧ ((s_.tail.tail)).length ≤ 31 from by omega)) mt_X4_push ml_X4_63 hK hw (cw_rc5 hK hw.1 t_o) hA ⟨Nat.le_of_ble_eq_true rfl, Nat.le_of_ble_eq_true rfl⟩ ⟨Nat.le_of_ble_eq_true rfl, Nat.le_of_ble_eq_true rfl⟩ (As := [.int (J zz11_)]) (rest := []) rfl rfl hl.1 (Nat.le_of_ble_eq_true rfl) 116 rfl dX4_runStep_113 (fun v_12 H locs hq12_ hw => ?_)
          obtain ⟨y103_12, y300_12, ev12_, hh12_⟩ := hq12_
          rw [ev12_] at hw; clear ev12_
          have hw : WK D cy T (upV (upV v_0 103 y103_12) 300 y300_12) A0 H0 H locs := cw_eq hw (by first | rfl | (funext j_; simp only [upV, reduceIte]; (repeat' split) <;> first | rfl | omega | (subst_vars; rfl)))
          obtain ⟨hh12_, kf12_⟩ := hh12_
          replace hh12_ : Sk_ (gC_ (y300_12) (T 102 o)) (zz11_ :: ((s_.tail.tail))) ∧ (y103_12 o) = (((s_.tail.tail)).length : Int) + 1 ∧ Ro_ (v_0 300) (y300_12) (T 102 o) := hh12_
          have pu_ := hh12_
          clear hh12_
          exact hret 116 (upV (upV v_0 103 y103_12) 300 y300_12) _ _ ls hw ⟨y103_12, y300_12, rfl, ⟨by first | exact ⟨rs_of (by rw [ev1_l1 (by omega) (by omega), hp1]; congr 1; omega) pu_.1 pu_.2.1, pu_.2.2⟩ | exact ⟨rs_of (ev1_l0 (by omega) (by omega)) pu_.1 pu_.2.1, pu_.2.2⟩ | exact ⟨rs_of (ev1_n (by omega) (by omega)) pu_.1 pu_.2.1, pu_.2.2⟩ | exact ⟨rs_of (by rw [ev1_f (by omega), hp0, ← fo_]) pu_.1 pu_.2.1, pu_.2.2⟩ | exact ⟨rs_of (by rw [ev1_not (by omega), ← po_.1]; congr 1; first | exact if_pos (by omega) | exact if_neg (by omega)) pu_.1 pu_.2.1, pu_.2.2⟩ | exact ⟨rs_of (by rw [ev1_j (by omega) (by omega) (by omega), ← po_.1, ← pq_.1, ← jo_]) pu_.1 pu_.2.1, pu_.2.2⟩, (Kd_tr Kd_rf (Kd_mono kf12_ (by decide)))⟩⟩ dX4_runStep_116
        · refine j_aload_n E 75 rfl dX4_runStep_74 rfl (lv_at hl 0 rfl) ?_
          refine j_aload_n E 76 rfl dX4_runStep_75 rfl (lv_at hl 0 rfl) ?_
          refine kV_i E (c_X4_pop l D cy T (v_0) o s_ t_o  (show Sk_ (gC_ (v_0 300) (T 102 o)) s_ from hp2) (show ((v_0 103) o) = (s_.length : Int) ∧ s_.length ≤ 32 from by omega)) mt_X4_pop ml_X4_48 hK hw (cw_rc5 hK hw.1 t_o) hA ⟨Nat.le_of_ble_eq_true rfl, Nat.le_of_ble_eq_true rfl⟩ ⟨Nat.le_of_ble_eq_true rfl, Nat.le_of_ble_eq_true rfl⟩ (As := []) (rest := [.ref o]) rfl rfl hl.1 (Nat.le_of_ble_eq_true rfl) 79 rfl dX4_runStep_76 (fun zz13_ v_13 H locs rr13_ hq13_ hw => ?_)
          obtain ⟨y103_13, ev13_, hh13_⟩ := hq13_
          rw [ev13_] at hw; clear ev13_
          have hw : WK D cy T (upV v_0 103 y103_13) A0 H0 H locs := cw_eq hw (by first | rfl | (funext j_; simp only [upV, reduceIte]; (repeat' split) <;> first | rfl | omega | (subst_vars; rfl)))
          replace hh13_ : zz13_ = s_.headD 0 ∧ (y103_13 o) = (s_.tail.length : Int) := hh13_
          have po_ := hh13_
          clear hh13_
          refine j_if_ne E 82 86 rfl rr13_ dX4_runStep_79 (by decide) (fun cc14_ => ?_) (fun cc14_ => ?_)
          · refine j_iconst E 87 rfl dX4_runStep_86 ?_
            refine kV_v E (c_X4_push l D cy T (upV v_0 103 y103_13) o 0 (s_.tail) t_o (rr (by decide)) (show Sk_ (gC_ (v_0 300) (T 102 o)) ((s_.tail)) from Sk_tl hp2) (show (y103_13 o) = (((s_.tail)).length : Int) ∧ ((s_.tail)).length ≤ 31 from by omega)) mt_X4_push ml_X4_63 hK hw (cw_rc5 hK hw.1 t_o) hA ⟨Nat.le_of_ble_eq_true rfl, Nat.le_of_ble_eq_true rfl⟩ ⟨Nat.le_of_ble_eq_true rfl, Nat.le_of_ble_eq_true rfl⟩ (As := [.int (J 0)]) (rest := []) rfl rfl hl.1 (Nat.le_of_ble_eq_true rfl) 90 rfl dX4_runStep_87 (fun v_15 H locs hq15_ hw => ?_)
            obtain ⟨y103_15, y300_15, ev15_, hh15_⟩ := hq15_
            rw [ev15_] at hw; clear ev15_
            have hw : WK D cy T (upV (upV v_0 103 y103_15) 300 y300_15) A0 H0 H locs := cw_eq hw (by first | rfl | (funext j_; simp only [upV, reduceIte]; (repeat' split) <;> first | rfl | omega | (subst_vars; rfl)))
            obtain ⟨hh15_, kf15_⟩ := hh15_
            replace hh15_ : Sk_ (gC_ (y300_15) (T 102 o)) ((0 : Int) :: ((s_.tail))) ∧ (y103_15 o) = (((s_.tail)).length : Int) + 1 ∧ Ro_ (v_0 300) (y300_15) (T 102 o) := hh15_
            have pu_ := hh15_
            clear hh15_
            refine j_goto E 116 dX4_runStep_90 (by decide) ?_
            exact hret 116 (upV (upV v_0 103 y103_15) 300 y300_15) _ _ ls hw ⟨y103_15, y300_15, rfl, ⟨by first | exact ⟨rs_of (by rw [ev1_l1 (by omega) (by omega), hp1]; congr 1; omega) pu_.1 pu_.2.1, pu_.2.2⟩ | exact ⟨rs_of (ev1_l0 (by omega) (by omega)) pu_.1 pu_.2.1, pu_.2.2⟩ | exact ⟨rs_of (ev1_n (by omega) (by omega)) pu_.1 pu_.2.1, pu_.2.2⟩ | exact ⟨rs_of (by rw [ev1_f (by omega), hp0, ← fo_]) pu_.1 pu_.2.1, pu_.2.2⟩ | exact ⟨rs_of (by rw [ev1_not (by omega), ← po_.1]; congr 1; first | exact if_pos (by omega) | exact if_neg (by omega)) pu_.1 pu_.2.1, pu_.2.2⟩ | exact ⟨rs_of (by rw [ev1_j (by omega) (by omega) (by omega), ← po_.1, ← pq_.1, ← jo_]) pu_.1 pu_.2.1, pu_.2.2⟩, (Kd_tr Kd_rf (Kd_mono kf15_ (by decide)))⟩⟩ dX4_runStep_116
          · refine j_iconst E 83 rfl dX4_runStep_82 ?_
            refine j_goto E 87 dX4_runStep_83 (by decide) ?_
            refine kV_v E (c_X4_push l D cy T (upV v_0 103 y103_13) o 1 (s_.tail) t_o (rr (by decide)) (show Sk_ (gC_ (v_0 300) (T 102 o)) ((s_.tail)) from Sk_tl hp2) (show (y103_13 o) = (((s_.tail)).length : Int) ∧ ((s_.tail)).length ≤ 31 from by omega)) mt_X4_push ml_X4_63 hK hw (cw_rc5 hK hw.1 t_o) hA ⟨Nat.le_of_ble_eq_true rfl, Nat.le_of_ble_eq_true rfl⟩ ⟨Nat.le_of_ble_eq_true rfl, Nat.le_of_ble_eq_true rfl⟩ (As := [.int (J 1)]) (rest := []) rfl rfl hl.1 (Nat.le_of_ble_eq_true rfl) 90 rfl dX4_runStep_87 (fun v_16 H locs hq16_ hw => ?_)
            obtain ⟨y103_16, y300_16, ev16_, hh16_⟩ := hq16_
            rw [ev16_] at hw; clear ev16_
            have hw : WK D cy T (upV (upV v_0 103 y103_16) 300 y300_16) A0 H0 H locs := cw_eq hw (by first | rfl | (funext j_; simp only [upV, reduceIte]; (repeat' split) <;> first | rfl | omega | (subst_vars; rfl)))
            obtain ⟨hh16_, kf16_⟩ := hh16_
            replace hh16_ : Sk_ (gC_ (y300_16) (T 102 o)) ((1 : Int) :: ((s_.tail))) ∧ (y103_16 o) = (((s_.tail)).length : Int) + 1 ∧ Ro_ (v_0 300) (y300_16) (T 102 o) := hh16_
            have pu_ := hh16_
            clear hh16_
            refine j_goto E 116 dX4_runStep_90 (by decide) ?_
            exact hret 116 (upV (upV v_0 103 y103_16) 300 y300_16) _ _ ls hw ⟨y103_16, y300_16, rfl, ⟨by first | exact ⟨rs_of (by rw [ev1_l1 (by omega) (by omega), hp1]; congr 1; omega) pu_.1 pu_.2.1, pu_.2.2⟩ | exact ⟨rs_of (ev1_l0 (by omega) (by omega)) pu_.1 pu_.2.1, pu_.2.2⟩ | exact ⟨rs_of (ev1_n (by omega) (by omega)) pu_.1 pu_.2.1, pu_.2.2⟩ | exact ⟨rs_of (by rw [ev1_f (by omega), hp0, ← fo_]) pu_.1 pu_.2.1, pu_.2.2⟩ | exact ⟨rs_of (by rw [ev1_not (by omega), ← po_.1]; congr 1; first | exact if_pos (by omega) | exact if_neg (by omega)) pu_.1 pu_.2.1, pu_.2.2⟩ | exact ⟨rs_of (by rw [ev1_j (by omega) (by omega) (by omega), ← po_.1, ← pq_.1, ← jo_]) pu_.1 pu_.2.1, pu_.2.2⟩, (Kd_tr Kd_rf (Kd_mono kf16_ (by decide)))⟩⟩ dX4_runStep_116
    · refine j_aload_n E 39 rfl dX4_runStep_38 rfl (lv_at hl 0 rfl) ?_
      refine j_iload_n E 40 rfl dX4_runStep_39 rfl (lv_at hl 1 rfl) ?_
      refine kV_v E (c_X4_push l D cy T (v_0) o v_s s_ t_o r_v_s (show Sk_ (gC_ (v_0 300) (T 102 o)) s_ from hp2) (show ((v_0 103) o) = (s_.length : Int) ∧ s_.length ≤ 31 from by omega)) mt_X4_push ml_X4_63 hK hw (cw_rc5 hK hw.1 t_o) hA ⟨Nat.le_of_ble_eq_true rfl, Nat.le_of_ble_eq_true rfl⟩ ⟨Nat.le_of_ble_eq_true rfl, Nat.le_of_ble_eq_true rfl⟩ (As := [.int (J v_s)]) (rest := []) rfl rfl hl.1 (Nat.le_of_ble_eq_true rfl) 43 rfl dX4_runStep_40 (fun v_17 H locs hq17_ hw => ?_)
      obtain ⟨y103_17, y300_17, ev17_, hh17_⟩ := hq17_
      rw [ev17_] at hw; clear ev17_
      have hw : WK D cy T (upV (upV v_0 103 y103_17) 300 y300_17) A0 H0 H locs := cw_eq hw (by first | rfl | (funext j_; simp only [upV, reduceIte]; (repeat' split) <;> first | rfl | omega | (subst_vars; rfl)))
      obtain ⟨hh17_, kf17_⟩ := hh17_
      replace hh17_ : Sk_ (gC_ (y300_17) (T 102 o)) (v_s :: s_) ∧ (y103_17 o) = (s_.length : Int) + 1 ∧ Ro_ (v_0 300) (y300_17) (T 102 o) := hh17_
      have pu_ := hh17_
      clear hh17_
      refine j_goto E 116 dX4_runStep_43 (by decide) ?_
      exact hret 116 (upV (upV v_0 103 y103_17) 300 y300_17) _ _ ls hw ⟨y103_17, y300_17, rfl, ⟨by first | exact ⟨rs_of (by rw [ev1_l1 (by omega) (by omega), hp1]; congr 1; omega) pu_.1 pu_.2.1, pu_.2.2⟩ | exact ⟨rs_of (ev1_l0 (by omega) (by omega)) pu_.1 pu_.2.1, pu_.2.2⟩ | exact ⟨rs_of (ev1_n (by omega) (by omega)) pu_.1 pu_.2.1, pu_.2.2⟩ | exact ⟨rs_of (by rw [ev1_f (by omega), hp0, ← fo_]) pu_.1 pu_.2.1, pu_.2.2⟩ | exact ⟨rs_of (by rw [ev1_not (by omega), ← po_.1]; congr 1; first | exact if_pos (by omega) | exact if_neg (by omega)) pu_.1 pu_.2.1, pu_.2.2⟩ | exact ⟨rs_of (by rw [ev1_j (by omega) (by omega) (by omega), ← po_.1, ← pq_.1, ← jo_]) pu_.1 pu_.2.1, pu_.2.2⟩, (Kd_tr Kd_rf (Kd_mono kf17_ (by decide)))⟩⟩ dX4_runStep_116
  · refine j_iload_n E 8 rfl dX4_runStep_7 rfl (lv_at hl 1 rfl) ?_
    refine j_sipush E 11 rfl dX4_runStep_8 (by decide) ?_
    refine j_isub E 12 rfl dX4_runStep_11 ?_
    refine j_istore_n E 13 rfl [(3, .int (J (v_s - 10000))), (0, .ref o), (1, .int (J v_s)), (2, .int (J v_l))] dX4_runStep_12 rfl hl (by decide) rfl (fun ls hl => ?_)
    refine j_aload_n E 14 rfl dX4_runStep_13 rfl (lv_at hl 1 rfl) ?_
    refine j_iload_n E 15 rfl dX4_runStep_14 rfl (lv_at hl 0 rfl) ?_
    refine j_iload_n E 16 rfl dX4_runStep_15 rfl (lv_at hl 3 rfl) ?_
    refine j_icmp_ge E 19 27 rfl (rr (by omega)) r_v_l dX4_runStep_16 (by decide) (fun cc18_ => ?_) (fun cc18_ => ?_)
    · refine j_iconst E 28 rfl dX4_runStep_27 ?_
      refine kV_v E (c_X4_push l D cy T (v_0) o 0 s_ t_o (rr (by decide)) (show Sk_ (gC_ (v_0 300) (T 102 o)) s_ from hp2) (show ((v_0 103) o) = (s_.length : Int) ∧ s_.length ≤ 31 from by omega)) mt_X4_push ml_X4_63 hK hw (cw_rc5 hK hw.1 t_o) hA ⟨Nat.le_of_ble_eq_true rfl, Nat.le_of_ble_eq_true rfl⟩ ⟨Nat.le_of_ble_eq_true rfl, Nat.le_of_ble_eq_true rfl⟩ (As := [.int (J 0)]) (rest := []) rfl rfl hl.1 (Nat.le_of_ble_eq_true rfl) 31 rfl dX4_runStep_28 (fun v_19 H locs hq19_ hw => ?_)
      obtain ⟨y103_19, y300_19, ev19_, hh19_⟩ := hq19_
      rw [ev19_] at hw; clear ev19_
      have hw : WK D cy T (upV (upV v_0 103 y103_19) 300 y300_19) A0 H0 H locs := cw_eq hw (by first | rfl | (funext j_; simp only [upV, reduceIte]; (repeat' split) <;> first | rfl | omega | (subst_vars; rfl)))
      obtain ⟨hh19_, kf19_⟩ := hh19_
      replace hh19_ : Sk_ (gC_ (y300_19) (T 102 o)) ((0 : Int) :: s_) ∧ (y103_19 o) = (s_.length : Int) + 1 ∧ Ro_ (v_0 300) (y300_19) (T 102 o) := hh19_
      have pu_ := hh19_
      clear hh19_
      refine j_goto E 116 dX4_runStep_31 (by decide) ?_
      exact hret 116 (upV (upV v_0 103 y103_19) 300 y300_19) _ _ ls hw ⟨y103_19, y300_19, rfl, ⟨by first | exact ⟨rs_of (by rw [ev1_l1 (by omega) (by omega), hp1]; congr 1; omega) pu_.1 pu_.2.1, pu_.2.2⟩ | exact ⟨rs_of (ev1_l0 (by omega) (by omega)) pu_.1 pu_.2.1, pu_.2.2⟩ | exact ⟨rs_of (ev1_n (by omega) (by omega)) pu_.1 pu_.2.1, pu_.2.2⟩ | exact ⟨rs_of (by rw [ev1_f (by omega), hp0, ← fo_]) pu_.1 pu_.2.1, pu_.2.2⟩ | exact ⟨rs_of (by rw [ev1_not (by omega), ← po_.1]; congr 1; first | exact if_pos (by omega) | exact if_neg (by omega)) pu_.1 pu_.2.1, pu_.2.2⟩ | exact ⟨rs_of (by rw [ev1_j (by omega) (by omega) (by omega), ← po_.1, ← pq_.1, ← jo_]) pu_.1 pu_.2.1, pu_.2.2⟩, (Kd_tr Kd_rf (Kd_mono kf19_ (by decide)))⟩⟩ dX4_runStep_116
    · refine j_aload_n E 20 rfl dX4_runStep_19 rfl (lv_at hl 1 rfl) ?_
      refine j_iload_n E 21 rfl dX4_runStep_20 rfl (lv_at hl 0 rfl) ?_
      refine kV_i E (c_X4_owedBy l D cy T (v_0) o (v_s - 10000)  t_o (rr (by omega)) ) mt_X4_owedBy ml_X4_60 hK hw (cw_rc5 hK hw.1 t_o) hA ⟨Nat.le_of_ble_eq_true rfl, Nat.le_of_ble_eq_true rfl⟩ ⟨Nat.le_of_ble_eq_true rfl, Nat.le_of_ble_eq_true rfl⟩ (As := [.int (J (v_s - 10000))]) (rest := [.ref o]) rfl rfl hl.1 (Nat.le_of_ble_eq_true rfl) 24 rfl dX4_runStep_21 (fun zz20_ v_20 H locs rr20_ hq20_ hw => ?_)
      obtain ⟨ev20_, hh20_⟩ := hq20_
      rw [ev20_] at hw; clear ev20_
      replace hh20_ : (0 ≤ (v_s - 10000) ∧ (v_s - 10000) < 24 ∧ zz20_ = gC_ (v_0 300) (T 101 o) (v_s - 10000)) ∨ (¬ (0 ≤ (v_s - 10000) ∧ (v_s - 10000) < 24) ∧ zz20_ = 0) := hh20_
      have ob_ := hh20_
      clear hh20_
      refine j_goto E 28 dX4_runStep_24 (by decide) ?_
      refine kV_v E (c_X4_push l D cy T (v_0) o zz20_ s_ t_o rr20_ (show Sk_ (gC_ (v_0 300) (T 102 o)) s_ from hp2) (show ((v_0 103) o) = (s_.length : Int) ∧ s_.length ≤ 31 from by omega)) mt_X4_push ml_X4_63 hK hw (cw_rc5 hK hw.1 t_o) hA ⟨Nat.le_of_ble_eq_true rfl, Nat.le_of_ble_eq_true rfl⟩ ⟨Nat.le_of_ble_eq_true rfl, Nat.le_of_ble_eq_true rfl⟩ (As := [.int (J zz20_)]) (rest := []) rfl rfl hl.1 (Nat.le_of_ble_eq_true rfl) 31 rfl dX4_runStep_28 (fun v_21 H locs hq21_ hw => ?_)
      obtain ⟨y103_21, y300_21, ev21_, hh21_⟩ := hq21_
      rw [ev21_] at hw; clear ev21_
      have hw : WK D cy T (upV (upV v_0 103 y103_21) 300 y300_21) A0 H0 H locs := cw_eq hw (by first | rfl | (funext j_; simp only [upV, reduceIte]; (repeat' split) <;> first | rfl | omega | (subst_vars; rfl)))
      obtain ⟨hh21_, kf21_⟩ := hh21_
      replace hh21_ : Sk_ (gC_ (y300_21) (T 102 o)) (zz20_ :: s_) ∧ (y103_21 o) = (s_.length : Int) + 1 ∧ Ro_ (v_0 300) (y300_21) (T 102 o) := hh21_
      have pu_ := hh21_
      clear hh21_
      refine j_goto E 116 dX4_runStep_31 (by decide) ?_
      exact hret 116 (upV (upV v_0 103 y103_21) 300 y300_21) _ _ ls hw ⟨y103_21, y300_21, rfl, ⟨by first | exact ⟨rs_of (by rw [ev1_l1 (by omega) (by omega), hp1]; congr 1; omega) pu_.1 pu_.2.1, pu_.2.2⟩ | exact ⟨rs_of (ev1_l0 (by omega) (by omega)) pu_.1 pu_.2.1, pu_.2.2⟩ | exact ⟨rs_of (ev1_n (by omega) (by omega)) pu_.1 pu_.2.1, pu_.2.2⟩ | exact ⟨rs_of (by rw [ev1_f (by omega), hp0, ← fo_]) pu_.1 pu_.2.1, pu_.2.2⟩ | exact ⟨rs_of (by rw [ev1_not (by omega), ← po_.1]; congr 1; first | exact if_pos (by omega) | exact if_neg (by omega)) pu_.1 pu_.2.1, pu_.2.2⟩ | exact ⟨rs_of (by rw [ev1_j (by omega) (by omega) (by omega), ← po_.1, ← pq_.1, ← jo_]) pu_.1 pu_.2.1, pu_.2.2⟩, (Kd_tr Kd_rf (Kd_mono kf21_ (by decide)))⟩⟩ dX4_runStep_116
set_option maxHeartbeats 4000000 in
set_option maxRecDepth 100000 in
theorem c_X4_takeFacts (l : Launch) (D : va_G) (cy : Nat → ClassId) (T : Nat → Nat → Nat) (v_0 : Nat → Nat → Int) (o : Nat) (v_a : Int) (v_b : Int) (v_c : Int) (v_d : Int) (v_e : Int) (t_o : T 0 o = 5) (r_v_a : inR v_a) (r_v_b : inR v_b) (r_v_c : inR v_c) (r_v_d : inR v_d) (r_v_e : inR v_e) : KC l D cy T yX4_takeFacts cX4_takeFacts 6 (some .boolean) 2 [.ref o, .int (J v_a), .int (J v_b), .int (J v_c), .int (J v_d), .int (J v_e)] v_0 (KI (fun (z_0 : Int) (v_2 : Nat → Nat → Int) => ∃ (y300_2 : Nat → Int) , v_2 = upV v_0 300 y300_2 ∧ (((z_0 = 1 ∧ (0 ≤ v_a ∧ v_a ≤ 99 ∧ 0 ≤ v_b ∧ v_b ≤ 9 ∧ 0 ≤ v_c ∧ v_c ≤ 299 ∧ 0 ≤ v_d ∧ v_d ≤ 1 ∧ -99 ≤ v_e ∧ v_e ≤ 299) ∧ Fc_ (y300_2) (T 100 o) v_a v_b v_c v_d v_e ∧ Ro_ (v_0 300) (y300_2) (T 100 o)) ∨ (z_0 = 0 ∧ ¬ (0 ≤ v_a ∧ v_a ≤ 99 ∧ 0 ≤ v_b ∧ v_b ≤ 9 ∧ 0 ≤ v_c ∧ v_c ≤ 299 ∧ 0 ≤ v_d ∧ v_d ≤ 1 ∧ -99 ≤ v_e ∧ v_e ≤ 299) ∧ (y300_2) = (v_0 300))) ∧ Kd_ T [100] (v_0 300) y300_2))) := by
  refine KC.ofz (by decide) (Nat.le_of_ble_eq_true rfl) ?_
  intro p e s m below meth c ls ar QW A0 H0 H locs E hK hA hw hl hret
  have hl : lv_has ls 6 [(0, .ref o), (1, .int (J v_a)), (2, .int (J v_b)), (3, .int (J v_c)), (4, .int (J v_d)), (5, .int (J v_e))] := hl
  have hT : WT T := hw.1.2.1
  refine j_iload_n E 1 rfl dX4_takeFacts_0 rfl (lv_at hl 1 rfl) ?_
  refine j_if_lt E 4 31 rfl r_v_a dX4_takeFacts_1 (by decide) (fun cc1_ => ?_) (fun cc1_ => ?_)
  · refine j_iconst E 32 rfl dX4_takeFacts_31 ?_
    exact hret 32 0 (upV v_0 300 (v_0 300)) _ _ ls (cw_eq hw (by first | rfl | (funext j_; simp only [upV, reduceIte]; (repeat' split) <;> first | rfl | omega | (subst_vars; rfl)))) (Or.inl rfl) ⟨(v_0 300), rfl, ⟨Or.inr ⟨rfl, by omega, rfl⟩, Kd_rf⟩⟩ dX4_takeFacts_32
  · refine j_iload_n E 5 rfl dX4_takeFacts_4 rfl (lv_at hl 1 rfl) ?_
    refine j_bipush E 7 rfl dX4_takeFacts_5 (by decide) ?_
    refine j_icmp_gt E 10 31 rfl r_v_a (rr (by decide)) dX4_takeFacts_7 (by decide) (fun cc2_ => ?_) (fun cc2_ => ?_)
    · refine j_iconst E 32 rfl dX4_takeFacts_31 ?_
      exact hret 32 0 (upV v_0 300 (v_0 300)) _ _ ls (cw_eq hw (by first | rfl | (funext j_; simp only [upV, reduceIte]; (repeat' split) <;> first | rfl | omega | (subst_vars; rfl)))) (Or.inl rfl) ⟨(v_0 300), rfl, ⟨Or.inr ⟨rfl, by omega, rfl⟩, Kd_rf⟩⟩ dX4_takeFacts_32
    · refine j_iload_n E 11 rfl dX4_takeFacts_10 rfl (lv_at hl 2 rfl) ?_
      refine j_if_lt E 14 31 rfl r_v_b dX4_takeFacts_11 (by decide) (fun cc3_ => ?_) (fun cc3_ => ?_)
      · refine j_iconst E 32 rfl dX4_takeFacts_31 ?_
        exact hret 32 0 (upV v_0 300 (v_0 300)) _ _ ls (cw_eq hw (by first | rfl | (funext j_; simp only [upV, reduceIte]; (repeat' split) <;> first | rfl | omega | (subst_vars; rfl)))) (Or.inl rfl) ⟨(v_0 300), rfl, ⟨Or.inr ⟨rfl, by omega, rfl⟩, Kd_rf⟩⟩ dX4_takeFacts_32
      · refine j_iload_n E 15 rfl dX4_takeFacts_14 rfl (lv_at hl 2 rfl) ?_
        refine j_bipush E 17 rfl dX4_takeFacts_15 (by decide) ?_
        refine j_icmp_gt E 20 31 rfl r_v_b (rr (by decide)) dX4_takeFacts_17 (by decide) (fun cc4_ => ?_) (fun cc4_ => ?_)
        · refine j_iconst E 32 rfl dX4_takeFacts_31 ?_
          exact hret 32 0 (upV v_0 300 (v_0 300)) _ _ ls (cw_eq hw (by first | rfl | (funext j_; simp only [upV, reduceIte]; (repeat' split) <;> first | rfl | omega | (subst_vars; rfl)))) (Or.inl rfl) ⟨(v_0 300), rfl, ⟨Or.inr ⟨rfl, by omega, rfl⟩, Kd_rf⟩⟩ dX4_takeFacts_32
        · refine j_iload_n E 21 rfl dX4_takeFacts_20 rfl (lv_at hl 3 rfl) ?_
          refine j_if_lt E 24 31 rfl r_v_c dX4_takeFacts_21 (by decide) (fun cc5_ => ?_) (fun cc5_ => ?_)
          · refine j_iconst E 32 rfl dX4_takeFacts_31 ?_
            exact hret 32 0 (upV v_0 300 (v_0 300)) _ _ ls (cw_eq hw (by first | rfl | (funext j_; simp only [upV, reduceIte]; (repeat' split) <;> first | rfl | omega | (subst_vars; rfl)))) (Or.inl rfl) ⟨(v_0 300), rfl, ⟨Or.inr ⟨rfl, by omega, rfl⟩, Kd_rf⟩⟩ dX4_takeFacts_32
          · refine j_iload_n E 25 rfl dX4_takeFacts_24 rfl (lv_at hl 3 rfl) ?_
            refine j_sipush E 28 rfl dX4_takeFacts_25 (by decide) ?_
            refine j_icmp_le E 31 33 rfl r_v_c (rr (by decide)) dX4_takeFacts_28 (by decide) (fun cc6_ => ?_) (fun cc6_ => ?_)
            · refine j_iload E 35 rfl dX4_takeFacts_33 (lv_at hl 4 rfl) ?_
              refine j_if_lt E 38 59 rfl r_v_d dX4_takeFacts_35 (by decide) (fun cc7_ => ?_) (fun cc7_ => ?_)
              · refine j_iconst E 60 rfl dX4_takeFacts_59 ?_
                exact hret 60 0 (upV v_0 300 (v_0 300)) _ _ ls (cw_eq hw (by first | rfl | (funext j_; simp only [upV, reduceIte]; (repeat' split) <;> first | rfl | omega | (subst_vars; rfl)))) (Or.inl rfl) ⟨(v_0 300), rfl, ⟨Or.inr ⟨rfl, by omega, rfl⟩, Kd_rf⟩⟩ dX4_takeFacts_60
              · refine j_iload E 40 rfl dX4_takeFacts_38 (lv_at hl 4 rfl) ?_
                refine j_iconst E 41 rfl dX4_takeFacts_40 ?_
                refine j_icmp_gt E 44 59 rfl r_v_d (rr (by decide)) dX4_takeFacts_41 (by decide) (fun cc8_ => ?_) (fun cc8_ => ?_)
                · refine j_iconst E 60 rfl dX4_takeFacts_59 ?_
                  exact hret 60 0 (upV v_0 300 (v_0 300)) _ _ ls (cw_eq hw (by first | rfl | (funext j_; simp only [upV, reduceIte]; (repeat' split) <;> first | rfl | omega | (subst_vars; rfl)))) (Or.inl rfl) ⟨(v_0 300), rfl, ⟨Or.inr ⟨rfl, by omega, rfl⟩, Kd_rf⟩⟩ dX4_takeFacts_60
                · refine j_iload E 46 rfl dX4_takeFacts_44 (lv_at hl 5 rfl) ?_
                  refine j_bipush E 48 rfl dX4_takeFacts_46 (by decide) ?_
                  refine j_icmp_lt E 51 59 rfl r_v_e (rr (by decide)) dX4_takeFacts_48 (by decide) (fun cc9_ => ?_) (fun cc9_ => ?_)
                  · refine j_iconst E 60 rfl dX4_takeFacts_59 ?_
                    exact hret 60 0 (upV v_0 300 (v_0 300)) _ _ ls (cw_eq hw (by first | rfl | (funext j_; simp only [upV, reduceIte]; (repeat' split) <;> first | rfl | omega | (subst_vars; rfl)))) (Or.inl rfl) ⟨(v_0 300), rfl, ⟨Or.inr ⟨rfl, by omega, rfl⟩, Kd_rf⟩⟩ dX4_takeFacts_60
                  · refine j_iload E 53 rfl dX4_takeFacts_51 (lv_at hl 5 rfl) ?_
                    refine j_sipush E 56 rfl dX4_takeFacts_53 (by decide) ?_
                    refine j_icmp_le E 59 61 rfl r_v_e (rr (by decide)) dX4_takeFacts_56 (by decide) (fun cc10_ => ?_) (fun cc10_ => ?_)
                    · refine j_aload_n E 62 rfl dX4_takeFacts_61 rfl (lv_at hl 0 rfl) ?_
                      refine j_sipush E 65 rfl dX4_takeFacts_62 (by decide) ?_
                      refine j_iload_n E 66 rfl dX4_takeFacts_65 rfl (lv_at hl 1 rfl) ?_
                      refine kV_v E (c_X4_putFact l D cy T (v_0) o 307 v_a  t_o (rr (by decide)) r_v_a (show 307 ≤ (307 : Int) ∧ (307 : Int) ≤ 311 from by omega)) mt_X4_putFact ml_X4_27 hK hw (cw_rc5 hK hw.1 t_o) hA ⟨Nat.le_of_ble_eq_true rfl, Nat.le_of_ble_eq_true rfl⟩ ⟨Nat.le_of_ble_eq_true rfl, Nat.le_of_ble_eq_true rfl⟩ (As := [.int (J 307), .int (J v_a)]) (rest := []) rfl rfl hl.1 (Nat.le_of_ble_eq_true rfl) 69 rfl dX4_takeFacts_66 (fun v_11 H locs hq11_ hw => ?_)
                      obtain ⟨y300_11, ev11_, hh11_⟩ := hq11_
                      rw [ev11_] at hw; clear ev11_
                      have hw : WK D cy T (upV v_0 300 y300_11) A0 H0 H locs := cw_eq hw (by first | rfl | (funext j_; simp only [upV, reduceIte]; (repeat' split) <;> first | rfl | omega | (subst_vars; rfl)))
                      obtain ⟨hh11_, kf11_⟩ := hh11_
                      replace hh11_ : (y300_11) = upB (v_0 300) (pr (T 100 o) (Int.toNat ((307 : Int) - 307))) v_a := hh11_
                      have f1_ := hh11_
                      clear hh11_
                      refine j_aload_n E 70 rfl dX4_takeFacts_69 rfl (lv_at hl 0 rfl) ?_
                      refine j_sipush E 73 rfl dX4_takeFacts_70 (by decide) ?_
                      refine j_iload_n E 74 rfl dX4_takeFacts_73 rfl (lv_at hl 2 rfl) ?_
                      refine kV_v E (c_X4_putFact l D cy T (upV v_0 300 y300_11) o 308 v_b  t_o (rr (by decide)) r_v_b (show 307 ≤ (308 : Int) ∧ (308 : Int) ≤ 311 from by omega)) mt_X4_putFact ml_X4_27 hK hw (cw_rc5 hK hw.1 t_o) hA ⟨Nat.le_of_ble_eq_true rfl, Nat.le_of_ble_eq_true rfl⟩ ⟨Nat.le_of_ble_eq_true rfl, Nat.le_of_ble_eq_true rfl⟩ (As := [.int (J 308), .int (J v_b)]) (rest := []) rfl rfl hl.1 (Nat.le_of_ble_eq_true rfl) 77 rfl dX4_takeFacts_74 (fun v_12 H locs hq12_ hw => ?_)
                      obtain ⟨y300_12, ev12_, hh12_⟩ := hq12_
                      rw [ev12_] at hw; clear ev12_
                      have hw : WK D cy T (upV v_0 300 y300_12) A0 H0 H locs := cw_eq hw (by first | rfl | (funext j_; simp only [upV, reduceIte]; (repeat' split) <;> first | rfl | omega | (subst_vars; rfl)))
                      obtain ⟨hh12_, kf12_⟩ := hh12_
                      replace hh12_ : (y300_12) = upB (y300_11) (pr (T 100 o) (Int.toNat ((308 : Int) - 307))) v_b := hh12_
                      have f2_ := hh12_
                      clear hh12_
                      refine j_aload_n E 78 rfl dX4_takeFacts_77 rfl (lv_at hl 0 rfl) ?_
                      refine j_sipush E 81 rfl dX4_takeFacts_78 (by decide) ?_
                      refine j_iload_n E 82 rfl dX4_takeFacts_81 rfl (lv_at hl 3 rfl) ?_
                      refine kV_v E (c_X4_putFact l D cy T (upV v_0 300 y300_12) o 309 v_c  t_o (rr (by decide)) r_v_c (show 307 ≤ (309 : Int) ∧ (309 : Int) ≤ 311 from by omega)) mt_X4_putFact ml_X4_27 hK hw (cw_rc5 hK hw.1 t_o) hA ⟨Nat.le_of_ble_eq_true rfl, Nat.le_of_ble_eq_true rfl⟩ ⟨Nat.le_of_ble_eq_true rfl, Nat.le_of_ble_eq_true rfl⟩ (As := [.int (J 309), .int (J v_c)]) (rest := []) rfl rfl hl.1 (Nat.le_of_ble_eq_true rfl) 85 rfl dX4_takeFacts_82 (fun v_13 H locs hq13_ hw => ?_)
                      obtain ⟨y300_13, ev13_, hh13_⟩ := hq13_
                      rw [ev13_] at hw; clear ev13_
                      have hw : WK D cy T (upV v_0 300 y300_13) A0 H0 H locs := cw_eq hw (by first | rfl | (funext j_; simp only [upV, reduceIte]; (repeat' split) <;> first | rfl | omega | (subst_vars; rfl)))
                      obtain ⟨hh13_, kf13_⟩ := hh13_
                      replace hh13_ : (y300_13) = upB (y300_12) (pr (T 100 o) (Int.toNat ((309 : Int) - 307))) v_c := hh13_
                      have f3_ := hh13_
                      clear hh13_
                      refine j_aload_n E 86 rfl dX4_takeFacts_85 rfl (lv_at hl 0 rfl) ?_
                      refine j_sipush E 89 rfl dX4_takeFacts_86 (by decide) ?_
                      refine j_iload E 91 rfl dX4_takeFacts_89 (lv_at hl 4 rfl) ?_
                      refine kV_v E (c_X4_putFact l D cy T (upV v_0 300 y300_13) o 310 v_d  t_o (rr (by decide)) r_v_d (show 307 ≤ (310 : Int) ∧ (310 : Int) ≤ 311 from by omega)) mt_X4_putFact ml_X4_27 hK hw (cw_rc5 hK hw.1 t_o) hA ⟨Nat.le_of_ble_eq_true rfl, Nat.le_of_ble_eq_true rfl⟩ ⟨Nat.le_of_ble_eq_true rfl, Nat.le_of_ble_eq_true rfl⟩ (As := [.int (J 310), .int (J v_d)]) (rest := []) rfl rfl hl.1 (Nat.le_of_ble_eq_true rfl) 94 rfl dX4_takeFacts_91 (fun v_14 H locs hq14_ hw => ?_)
                      obtain ⟨y300_14, ev14_, hh14_⟩ := hq14_
                      rw [ev14_] at hw; clear ev14_
                      have hw : WK D cy T (upV v_0 300 y300_14) A0 H0 H locs := cw_eq hw (by first | rfl | (funext j_; simp only [upV, reduceIte]; (repeat' split) <;> first | rfl | omega | (subst_vars; rfl)))
                      obtain ⟨hh14_, kf14_⟩ := hh14_
                      replace hh14_ : (y300_14) = upB (y300_13) (pr (T 100 o) (Int.toNat ((310 : Int) - 307))) v_d := hh14_
                      have f4_ := hh14_
                      clear hh14_
                      refine j_aload_n E 95 rfl dX4_takeFacts_94 rfl (lv_at hl 0 rfl) ?_
                      refine j_sipush E 98 rfl dX4_takeFacts_95 (by decide) ?_
                      refine j_iload E 100 rfl dX4_takeFacts_98 (lv_at hl 5 rfl) ?_
                      refine kV_v E (c_X4_putFact l D cy T (upV v_0 300 y300_14) o 311 v_e  t_o (rr (by decide)) r_v_e (show 307 ≤ (311 : Int) ∧ (311 : Int) ≤ 311 from by omega)) mt_X4_putFact ml_X4_27 hK hw (cw_rc5 hK hw.1 t_o) hA ⟨Nat.le_of_ble_eq_true rfl, Nat.le_of_ble_eq_true rfl⟩ ⟨Nat.le_of_ble_eq_true rfl, Nat.le_of_ble_eq_true rfl⟩ (As := [.int (J 311), .int (J v_e)]) (rest := []) rfl rfl hl.1 (Nat.le_of_ble_eq_true rfl) 103 rfl dX4_takeFacts_100 (fun v_15 H locs hq15_ hw => ?_)
                      obtain ⟨y300_15, ev15_, hh15_⟩ := hq15_
                      rw [ev15_] at hw; clear ev15_
                      have hw : WK D cy T (upV v_0 300 y300_15) A0 H0 H locs := cw_eq hw (by first | rfl | (funext j_; simp only [upV, reduceIte]; (repeat' split) <;> first | rfl | omega | (subst_vars; rfl)))
                      obtain ⟨hh15_, kf15_⟩ := hh15_
                      replace hh15_ : (y300_15) = upB (y300_14) (pr (T 100 o) (Int.toNat ((311 : Int) - 307))) v_e := hh15_
                      have f5_ := hh15_
                      clear hh15_
                      refine j_iconst E 104 rfl dX4_takeFacts_103 ?_
                      exact hret 104 1 (upV v_0 300 y300_15) _ _ ls hw (Or.inr rfl) ⟨y300_15, rfl, ⟨Or.inl ⟨rfl, by omega, fc_all f1_ f2_ f3_ f4_ f5_⟩, (Kd_tr (Kd_tr (Kd_tr (Kd_tr (Kd_tr Kd_rf (Kd_mono kf11_ (by decide))) (Kd_mono kf12_ (by decide))) (Kd_mono kf13_ (by decide))) (Kd_mono kf14_ (by decide))) (Kd_mono kf15_ (by decide)))⟩⟩ dX4_takeFacts_104
                    · refine j_iconst E 60 rfl dX4_takeFacts_59 ?_
                      exact hret 60 0 (upV v_0 300 (v_0 300)) _ _ ls (cw_eq hw (by first | rfl | (funext j_; simp only [upV, reduceIte]; (repeat' split) <;> first | rfl | omega | (subst_vars; rfl)))) (Or.inl rfl) ⟨(v_0 300), rfl, ⟨Or.inr ⟨rfl, by omega, rfl⟩, Kd_rf⟩⟩ dX4_takeFacts_60
            · refine j_iconst E 32 rfl dX4_takeFacts_31 ?_
              exact hret 32 0 (upV v_0 300 (v_0 300)) _ _ ls (cw_eq hw (by first | rfl | (funext j_; simp only [upV, reduceIte]; (repeat' split) <;> first | rfl | omega | (subst_vars; rfl)))) (Or.inl rfl) ⟨(v_0 300), rfl, ⟨Or.inr ⟨rfl, by omega, rfl⟩, Kd_rf⟩⟩ dX4_takeFacts_32
set_option maxHeartbeats 4000000 in
set_option maxRecDepth 100000 in
theorem c_X7_codeAt (l : Launch) (D : va_G) (cy : Nat → ClassId) (T : Nat → Nat → Nat) (v_0 : Nat → Nat → Int) (o : Nat) (v_i : Int) (t_o : T 0 o = 8) (r_v_i : inR v_i) : KC l D cy T yX7_codeAt cX7_codeAt 2 (some .int) 1 [.ref o, .int (J v_i)] v_0 (KI (fun (z_0 : Int) (v_2 : Nat → Nat → Int) => v_2 = v_0 ∧ ((0 ≤ v_i ∧ v_i < (T 1 (T 162 o) : Int)) → z_0 = gC_ (v_0 300) (T 162 o) v_i))) := by
  refine KC.ofi (by decide) (Nat.le_of_ble_eq_true rfl) ?_
  intro p e s m below meth c ls ar QW A0 H0 H locs E hK hA hw hl hret
  have hl : lv_has ls 2 [(0, .ref o), (1, .int (J v_i))] := hl
  have hT : WT T := hw.1.2.1
  refine j_iload_n E 1 rfl dX7_codeAt_0 rfl (lv_at hl 1 rfl) ?_
  refine j_if_lt E 4 22 rfl r_v_i dX7_codeAt_1 (by decide) (fun cc1_ => ?_) (fun cc1_ => ?_)
  · refine j_iconst E 23 rfl dX7_codeAt_22 ?_
    exact hret 23 0 (v_0) _ _ ls hw (rr (by decide)) ⟨rfl, fun q_ => by first | exact he_ | (exfalso; omega)⟩ dX7_codeAt_23
  · refine j_iload_n E 5 rfl dX7_codeAt_4 rfl (lv_at hl 1 rfl) ?_
    refine j_aload_n E 6 rfl dX7_codeAt_5 rfl (lv_at hl 0 rfl) ?_
    refine g_162 E hK hw fl_X7_19 t_o 9 rfl dX7_codeAt_6 ?_
    refine a_ln20 E hK hw (wt_162 hT t_o) 10 rfl dX7_codeAt_9 (fun rr2_ => ?_)
    refine j_icmp_ge E 13 22 rfl r_v_i rr2_ dX7_codeAt_10 (by decide) (fun cc3_ => ?_) (fun cc3_ => ?_)
    · refine j_iconst E 23 rfl dX7_codeAt_22 ?_
      exact hret 23 0 (v_0) _ _ ls hw (rr (by decide)) ⟨rfl, fun q_ => by first | exact he_ | (exfalso; omega)⟩ dX7_codeAt_23
    · refine j_aload_n E 14 rfl dX7_codeAt_13 rfl (lv_at hl 0 rfl) ?_
      refine g_162 E hK hw fl_X7_19 t_o 17 rfl dX7_codeAt_14 ?_
      refine j_iload_n E 18 rfl dX7_codeAt_17 rfl (lv_at hl 1 rfl) ?_
      refine a_ld20 E hK hw (wt_162 hT t_o) (by omega) 19 rfl dX7_codeAt_18 (fun zz4_ he4_ rr4_ => ?_)
      have he4_ : zz4_ = v_0 300 (pr (T 162 o) (Int.toNat v_i)) := he4_
      have he_ : zz4_ = gC_ (v_0 300) (T 162 o) v_i := he4_
      refine j_goto E 23 dX7_codeAt_19 (by decide) ?_
      exact hret 23 zz4_ (v_0) _ _ ls hw rr4_ ⟨rfl, fun q_ => by first | exact he_ | (exfalso; omega)⟩ dX7_codeAt_23
set_option maxHeartbeats 4000000 in
set_option maxRecDepth 100000 in
theorem c_X4_run (l : Launch) (D : va_G) (cy : Nat → ClassId) (T : Nat → Nat → Nat) (v_0 : Nat → Nat → Int) (o : Nat) (a_w : Nat) (v_l : Int) (F_ : Int → Int) (O_ : Int → Int) (s1_ : List Int) (s2_ : List Int) (s3_ : List Int) (t_o : T 0 o = 5) (t_w : T 0 a_w = 8) (r_v_l : inR v_l) (hp0 : F_ = gC_ (v_0 300) (T 100 o)) (hp1 : O_ = gC_ (v_0 300) (T 101 o)) (hp2 : lL_ (gC_ (v_0 300) (T 162 a_w)) 0 (T 1 (T 162 a_w) : Int) = s1_ ++ (wh_ s2_ ++ ul_ s3_)) (hp3 : TyN_ s1_ ∧ TyB_ s2_ ∧ TyB_ s3_) (hp4 : v_l ≤ 24) : KC l D cy T yX4_run cX4_run 6 (some .int) 3 [.ref o, .ref a_w, .int (J v_l)] v_0 (KI (fun (z_0 : Int) (v_2 : Nat → Nat → Int) => ∃ (y103_2 : Nat → Int) (y300_2 : Nat → Int) , v_2 = upV (upV v_0 103 y103_2) 300 y300_2 ∧ ((z_0 = own_ F_ O_ v_l s1_ s2_ s3_ ∧ Ro_ (v_0 300) (y300_2) (T 102 o)) ∧ Kd_ T [102] (v_0 300) y300_2))) := by
  refine KC.ofi (by decide) (Nat.le_of_ble_eq_true rfl) ?_
  intro p e s m below meth c ls ar QW A0 H0 H locs E hK hA hw hl hret
  have hl : lv_has ls 6 [(0, .ref o), (1, .ref a_w), (2, .int (J v_l))] := hl
  have hT : WT T := hw.1.2.1
  have nf_ : T 100 o ≠ T 102 o := ro_ne (wo_100 hT t_o) (wo_102 hT t_o) (by decide) (by decide) (by omega)
  have no_ : T 101 o ≠ T 102 o := ro_ne (wo_101 hT t_o) (wo_102 hT t_o) (by decide) (by decide) (by omega)
  have ns_ : T 162 a_w ≠ T 102 o := ro_ne (wo_162 hT t_w) (wo_102 hT t_o) (by decide) (by decide) (by omega)
  obtain ⟨tt_, ty_⟩ := all_ty hp3.1 hp3.2.1 hp3.2.2
  rw [← hp2] at ty_
  refine j_aload_n E 1 rfl dX4_run_0 rfl (lv_at hl 0 rfl) ?_
  refine j_iconst E 2 rfl dX4_run_1 ?_
  refine p_103 E hK hw fl_X4_23 t_o (rr (by decide)) 5 rfl dX4_run_2 (fun H locs hw => ?_)
  have hw : WK D cy T (upV v_0 103 (upB (v_0 103) o 0)) A0 H0 H locs := cw_eq hw (by first | rfl | (funext j_; simp only [upV, reduceIte]; (repeat' split) <;> first | rfl | omega | (subst_vars; rfl)))
  refine j_iconst E 6 rfl dX4_run_5 ?_
  refine j_istore_n E 7 rfl [(3, .int (J 0)), (0, .ref o), (1, .ref a_w), (2, .int (J v_l))] dX4_run_6 rfl hl (by decide) rfl (fun ls hl => ?_)
  have L7_2 : ∀ (k7 : Nat) (l3_7 : Int) (y103_c7 : Nat → Int) (y300_c7 : Nat → Int) (H : Heap) (locs : List Loc) (ls : Array Slot), inR l3_7 → (((0 ≤ l3_7 ∧ l3_7 ≤ (T 1 (T 162 a_w) : Int)) ∧ Ro_ (v_0 300) (y300_c7) (T 102 o) ∧ Sk_ (gC_ (y300_c7) (T 102 o)) (evs_ F_ O_ v_l (lL_ (gC_ (v_0 300) (T 162 a_w)) 0 l3_7) []) ∧ (y103_c7 o) = ((evs_ F_ O_ v_l (lL_ (gC_ (v_0 300) (T 162 a_w)) 0 l3_7) []).length : Int)) ∧ Kd_ T [102] (v_0 300) y300_c7) → ((T 1 (T 162 a_w) : Int) - l3_7).toNat < k7 → WK D cy T (upV (upV v_0 103 y103_c7) 300 y300_c7) A0 H0 H locs → lv_has ls 6 [(0, .ref o), (1, .ref a_w), (2, .int (J v_l)), (3, .int (J l3_7))] → W p l e (rmd 3 0 0) s m ar below meth c H locs 0 0 QW (F0 m 7 ls []) := by
    intro k7
    induction k7 with
    | zero =>
      intro l3_7 y103_c7 y300_c7 H locs ls r_l3_7 iv7 ms7 hw hl
      exact absurd ms7 (Nat.not_lt_zero _)
    | succ k7 ih7 =>
      intro l3_7 y103_c7 y300_c7 H locs ls r_l3_7 iv7 ms7 hw hl
      obtain ⟨iv7, ik7_⟩ := iv7
      refine j_iload_n E 8 rfl dX4_run_7 rfl (lv_at hl 3 rfl) ?_
      refine j_aload_n E 9 rfl dX4_run_8 rfl (lv_at hl 1 rfl) ?_
      refine kV_i E (c_X7_codeLength l D cy T (upV (upV v_0 103 y103_c7) 300 y300_c7) a_w  t_w  ) mt_X7_codeLength ml_X4_35 hK hw (cw_rc8 hK hw.1 t_w) hA ⟨Nat.le_of_ble_eq_true rfl, Nat.le_of_ble_eq_true rfl⟩ ⟨Nat.le_of_ble_eq_true rfl, Nat.le_of_ble_eq_true rfl⟩ (As := []) (rest := [.int (J l3_7)]) rfl rfl hl.1 (Nat.le_of_ble_eq_true rfl) 12 rfl dX4_run_9 (fun zz4_ v_4 H locs rr4_ hq4_ hw => ?_)
      obtain ⟨ev4_, hh4_⟩ := hq4_
      rw [ev4_] at hw; clear ev4_
      replace hh4_ : zz4_ = (T 1 (T 162 a_w) : Int) := hh4_
      refine j_icmp_ge E 15 31 rfl r_l3_7 rr4_ dX4_run_12 (by decide) (fun cc5_ => ?_) (fun cc5_ => ?_)
      · have ae_ : evs_ F_ O_ v_l (lL_ (gC_ (v_0 300) (T 162 a_w)) 0 l3_7) [] = [vl_ F_ O_ v_l (ul_ s3_), vl_ F_ O_ v_l (wh_ s2_), vl_ F_ O_ v_l s1_] := by rw [show l3_7 = (T 1 (T 162 a_w) : Int) by omega, hp2]; exact all_ev hp3.1 hp3.2.1 hp3.2.2
        have sk_ := iv7.2.2.1
        have tp_ := iv7.2.2.2
        rw [ae_] at sk_ tp_
        refine j_aload_n E 32 rfl dX4_run_31 rfl (lv_at hl 0 rfl) ?_
        refine kV_i E (c_X4_pop l D cy T (upV (upV v_0 103 y103_c7) 300 y300_c7) o ([vl_ F_ O_ v_l (ul_ s3_), vl_ F_ O_ v_l (wh_ s2_), vl_ F_ O_ v_l s1_]) t_o  (show Sk_ (gC_ (y300_c7) (T 102 o)) (([vl_ F_ O_ v_l (ul_ s3_), vl_ F_ O_ v_l (wh_ s2_), vl_ F_ O_ v_l s1_])) from sk_) (show (y103_c7 o) = ((([vl_ F_ O_ v_l (ul_ s3_), vl_ F_ O_ v_l (wh_ s2_), vl_ F_ O_ v_l s1_])).length : Int) ∧ (([vl_ F_ O_ v_l (ul_ s3_), vl_ F_ O_ v_l (wh_ s2_), vl_ F_ O_ v_l s1_])).length ≤ 32 from ⟨tp_, Nat.le_of_ble_eq_true rfl⟩)) mt_X4_pop ml_X4_48 hK hw (cw_rc5 hK hw.1 t_o) hA ⟨Nat.le_of_ble_eq_true rfl, Nat.le_of_ble_eq_true rfl⟩ ⟨Nat.le_of_ble_eq_true rfl, Nat.le_of_ble_eq_true rfl⟩ (As := []) (rest := []) rfl rfl hl.1 (Nat.le_of_ble_eq_true rfl) 35 rfl dX4_run_32 (fun zz6_ v_6 H locs rr6_ hq6_ hw => ?_)
        obtain ⟨y103_6, ev6_, hh6_⟩ := hq6_
        rw [ev6_] at hw; clear ev6_
        have hw : WK D cy T (upV (upV v_0 103 y103_6) 300 y300_c7) A0 H0 H locs := cw_eq hw (by first | rfl | (funext j_; simp only [upV, reduceIte]; (repeat' split) <;> first | rfl | omega | (subst_vars; rfl)))
        replace hh6_ : zz6_ = (([vl_ F_ O_ v_l (ul_ s3_), vl_ F_ O_ v_l (wh_ s2_), vl_ F_ O_ v_l s1_])).headD 0 ∧ (y103_6 o) = ((([vl_ F_ O_ v_l (ul_ s3_), vl_ F_ O_ v_l (wh_ s2_), vl_ F_ O_ v_l s1_])).tail.length : Int) := hh6_
        have pa_ := hh6_
        clear hh6_
        have pz_ : zz6_ = vl_ F_ O_ v_l (ul_ s3_) := pa_.1
        refine j_istore_n E 36 rfl [(3, .int (J zz6_)), (0, .ref o), (1, .ref a_w), (2, .int (J v_l))] dX4_run_35 rfl hl (by decide) rfl (fun ls hl => ?_)
        refine j_aload_n E 37 rfl dX4_run_36 rfl (lv_at hl 1 rfl) ?_
        refine kV_i E (c_X4_pop l D cy T (upV (upV v_0 103 y103_6) 300 y300_c7) o ([vl_ F_ O_ v_l (wh_ s2_), vl_ F_ O_ v_l s1_]) t_o  (show Sk_ (gC_ (y300_c7) (T 102 o)) (([vl_ F_ O_ v_l (wh_ s2_), vl_ F_ O_ v_l s1_])) from sk_.2) (show (y103_6 o) = ((([vl_ F_ O_ v_l (wh_ s2_), vl_ F_ O_ v_l s1_])).length : Int) ∧ (([vl_ F_ O_ v_l (wh_ s2_), vl_ F_ O_ v_l s1_])).length ≤ 32 from ⟨pa_.2, Nat.le_of_ble_eq_true rfl⟩)) mt_X4_pop ml_X4_48 hK hw (cw_rc5 hK hw.1 t_o) hA ⟨Nat.le_of_ble_eq_true rfl, Nat.le_of_ble_eq_true rfl⟩ ⟨Nat.le_of_ble_eq_true rfl, Nat.le_of_ble_eq_true rfl⟩ (As := []) (rest := []) rfl rfl hl.1 (Nat.le_of_ble_eq_true rfl) 40 rfl dX4_run_37 (fun zz7_ v_7 H locs rr7_ hq7_ hw => ?_)
        obtain ⟨y103_7, ev7_, hh7_⟩ := hq7_
        rw [ev7_] at hw; clear ev7_
        have hw : WK D cy T (upV (upV v_0 103 y103_7) 300 y300_c7) A0 H0 H locs := cw_eq hw (by first | rfl | (funext j_; simp only [upV, reduceIte]; (repeat' split) <;> first | rfl | omega | (subst_vars; rfl)))
        replace hh7_ : zz7_ = (([vl_ F_ O_ v_l (wh_ s2_), vl_ F_ O_ v_l s1_])).headD 0 ∧ (y103_7 o) = ((([vl_ F_ O_ v_l (wh_ s2_), vl_ F_ O_ v_l s1_])).tail.length : Int) := hh7_
        have pb_ := hh7_
        clear hh7_
        have py_ : zz7_ = vl_ F_ O_ v_l (wh_ s2_) := pb_.1
        refine j_istore E 42 rfl [(4, .int (J zz7_)), (3, .int (J zz6_)), (0, .ref o), (1, .ref a_w), (2, .int (J v_l))] dX4_run_40 hl (by decide) rfl (fun ls hl => ?_)
        refine j_aload_n E 43 rfl dX4_run_42 rfl (lv_at hl 2 rfl) ?_
        refine kV_i E (c_X4_pop l D cy T (upV (upV v_0 103 y103_7) 300 y300_c7) o ([vl_ F_ O_ v_l s1_]) t_o  (show Sk_ (gC_ (y300_c7) (T 102 o)) (([vl_ F_ O_ v_l s1_])) from sk_.2.2) (show (y103_7 o) = ((([vl_ F_ O_ v_l s1_])).length : Int) ∧ (([vl_ F_ O_ v_l s1_])).length ≤ 32 from ⟨pb_.2, Nat.le_of_ble_eq_true rfl⟩)) mt_X4_pop ml_X4_48 hK hw (cw_rc5 hK hw.1 t_o) hA ⟨Nat.le_of_ble_eq_true rfl, Nat.le_of_ble_eq_true rfl⟩ ⟨Nat.le_of_ble_eq_true rfl, Nat.le_of_ble_eq_true rfl⟩ (As := []) (rest := []) rfl rfl hl.1 (Nat.le_of_ble_eq_true rfl) 46 rfl dX4_run_43 (fun zz8_ v_8 H locs rr8_ hq8_ hw => ?_)
        obtain ⟨y103_8, ev8_, hh8_⟩ := hq8_
        rw [ev8_] at hw; clear ev8_
        have hw : WK D cy T (upV (upV v_0 103 y103_8) 300 y300_c7) A0 H0 H locs := cw_eq hw (by first | rfl | (funext j_; simp only [upV, reduceIte]; (repeat' split) <;> first | rfl | omega | (subst_vars; rfl)))
        replace hh8_ : zz8_ = (([vl_ F_ O_ v_l s1_])).headD 0 ∧ (y103_8 o) = ((([vl_ F_ O_ v_l s1_])).tail.length : Int) := hh8_
        have px_ : zz8_ = vl_ F_ O_ v_l s1_ := hh8_.1
        refine j_istore E 48 rfl [(5, .int (J zz8_)), (4, .int (J zz7_)), (3, .int (J zz6_)), (0, .ref o), (1, .ref a_w), (2, .int (J v_l))] dX4_run_46 hl (by decide) rfl (fun ls hl => ?_)
        refine j_iload E 50 rfl dX4_run_48 (lv_at hl 1 rfl) ?_
        refine j_if_eq E 53 72 rfl rr7_ dX4_run_50 (by decide) (fun cc9_ => ?_) (fun cc9_ => ?_)
        · refine j_iconst E 73 rfl dX4_run_72 ?_
          exact hret 73 0 (upV (upV v_0 103 y103_8) 300 y300_c7) _ _ ls hw (rr (by decide)) ⟨y103_8, y300_c7, rfl, ⟨⟨by rw [own_wh]; first | (rw [if_pos ⟨by omega, by omega⟩]; unfold cl4_; (repeat' split) <;> omega) | exact (if_neg (by omega)).symm, iv7.2.1⟩, ik7_⟩⟩ dX4_run_73
        · refine j_iload_n E 54 rfl dX4_run_53 rfl (lv_at hl 2 rfl) ?_
          refine j_if_ne E 57 72 rfl rr6_ dX4_run_54 (by decide) (fun cc10_ => ?_) (fun cc10_ => ?_)
          · refine j_iconst E 73 rfl dX4_run_72 ?_
            exact hret 73 0 (upV (upV v_0 103 y103_8) 300 y300_c7) _ _ ls hw (rr (by decide)) ⟨y103_8, y300_c7, rfl, ⟨⟨by rw [own_wh]; first | (rw [if_pos ⟨by omega, by omega⟩]; unfold cl4_; (repeat' split) <;> omega) | exact (if_neg (by omega)).symm, iv7.2.1⟩, ik7_⟩⟩ dX4_run_73
          · refine j_iconst E 58 rfl dX4_run_57 ?_
            refine j_sipush E 61 rfl dX4_run_58 (by decide) ?_
            refine j_iload E 63 rfl dX4_run_61 (lv_at hl 0 rfl) ?_
            refine j_min E hl.1 ml_X4_51 (rr (by decide)) rr8_ ⟨Nat.le_of_ble_eq_true rfl, Nat.le_of_ble_eq_true rfl⟩ ⟨Nat.le_of_ble_eq_true rfl, Nat.le_of_ble_eq_true rfl⟩ 66 rfl dX4_run_63 (fun zz11_ rr11_ hh11_ => ?_)
            refine j_max E hl.1 ml_X4_57 (rr (by decide)) rr11_ ⟨Nat.le_of_ble_eq_true rfl, Nat.le_of_ble_eq_true rfl⟩ ⟨Nat.le_of_ble_eq_true rfl, Nat.le_of_ble_eq_true rfl⟩ 69 rfl dX4_run_66 (fun zz12_ rr12_ hh12_ => ?_)
            refine j_goto E 73 dX4_run_69 (by decide) ?_
            exact hret 73 zz12_ (upV (upV v_0 103 y103_8) 300 y300_c7) _ _ ls hw rr12_ ⟨y103_8, y300_c7, rfl, ⟨⟨by rw [own_wh]; first | (rw [if_pos ⟨by omega, by omega⟩]; unfold cl4_; (repeat' split) <;> omega) | exact (if_neg (by omega)).symm, iv7.2.1⟩, ik7_⟩⟩ dX4_run_73
      · have ep_ := ev_pre (F := F_) (O := O_) (l := v_l) ty_ (i := l3_7) (by omega) (by omega)
        have e2_ := ep_.2 (by omega)
        refine j_aload_n E 16 rfl dX4_run_15 rfl (lv_at hl 0 rfl) ?_
        refine j_aload_n E 17 rfl dX4_run_16 rfl (lv_at hl 1 rfl) ?_
        refine j_iload_n E 18 rfl dX4_run_17 rfl (lv_at hl 3 rfl) ?_
        refine kV_i E (c_X7_codeAt l D cy T (upV (upV v_0 103 y103_c7) 300 y300_c7) a_w l3_7  t_w r_l3_7 ) mt_X7_codeAt ml_X4_41 hK hw (cw_rc8 hK hw.1 t_w) hA ⟨Nat.le_of_ble_eq_true rfl, Nat.le_of_ble_eq_true rfl⟩ ⟨Nat.le_of_ble_eq_true rfl, Nat.le_of_ble_eq_true rfl⟩ (As := [.int (J l3_7)]) (rest := [.ref o]) rfl rfl hl.1 (Nat.le_of_ble_eq_true rfl) 21 rfl dX4_run_18 (fun zz13_ v_13 H locs rr13_ hq13_ hw => ?_)
        obtain ⟨ev13_, hh13_⟩ := hq13_
        rw [ev13_] at hw; clear ev13_
        replace hh13_ : (0 ≤ l3_7 ∧ l3_7 < (T 1 (T 162 a_w) : Int)) → zz13_ = gC_ (y300_c7) (T 162 a_w) l3_7 := hh13_
        have ca_ : zz13_ = gC_ (v_0 300) (T 162 a_w) l3_7 := (hh13_ (by omega)).trans (iv7.2.1 _ ns_ _)
        refine j_iload_n E 22 rfl dX4_run_21 rfl (lv_at hl 2 rfl) ?_
        refine kV_v E (c_X4_runStep l D cy T (upV (upV v_0 103 y103_c7) 300 y300_c7) o zz13_ v_l F_ O_ (evs_ F_ O_ v_l (lL_ (gC_ (v_0 300) (T 162 a_w)) 0 l3_7) []) t_o rr13_ r_v_l (show F_ = gC_ (y300_c7) (T 100 o) from hp0.trans (gC_ro iv7.2.1 nf_).symm) (show O_ = gC_ (y300_c7) (T 101 o) from hp1.trans (gC_ro iv7.2.1 no_).symm) (show Sk_ (gC_ (y300_c7) (T 102 o)) ((evs_ F_ O_ v_l (lL_ (gC_ (v_0 300) (T 162 a_w)) 0 l3_7) [])) from iv7.2.2.1) (show (y103_c7 o) = (((evs_ F_ O_ v_l (lL_ (gC_ (v_0 300) (T 162 a_w)) 0 l3_7) [])).length : Int) ∧ ((evs_ F_ O_ v_l (lL_ (gC_ (v_0 300) (T 162 a_w)) 0 l3_7) [])).length ≤ 31 from ⟨iv7.2.2.2, by omega⟩) (show v_l ≤ 24 ∧ -400 ≤ zz13_ from by omega)) mt_X4_runStep ml_X4_45 hK hw (cw_rc5 hK hw.1 t_o) hA ⟨Nat.le_of_ble_eq_true rfl, Nat.le_of_ble_eq_true rfl⟩ ⟨Nat.le_of_ble_eq_true rfl, Nat.le_of_ble_eq_true rfl⟩ (As := [.int (J zz13_), .int (J v_l)]) (rest := []) rfl rfl hl.1 (Nat.le_of_ble_eq_true rfl) 25 rfl dX4_run_22 (fun v_14 H locs hq14_ hw => ?_)
        obtain ⟨y103_14, y300_14, ev14_, hh14_⟩ := hq14_
        rw [ev14_] at hw; clear ev14_
        have hw : WK D cy T (upV (upV v_0 103 y103_14) 300 y300_14) A0 H0 H locs := cw_eq hw (by first | rfl | (funext j_; simp only [upV, reduceIte]; (repeat' split) <;> first | rfl | omega | (subst_vars; rfl)))
        obtain ⟨hh14_, kf14_⟩ := hh14_
        replace hh14_ : (Sk_ (gC_ (y300_14) (T 102 o)) (ev1_ F_ O_ v_l zz13_ ((evs_ F_ O_ v_l (lL_ (gC_ (v_0 300) (T 162 a_w)) 0 l3_7) []))) ∧ (y103_14 o) = ((ev1_ F_ O_ v_l zz13_ ((evs_ F_ O_ v_l (lL_ (gC_ (v_0 300) (T 162 a_w)) 0 l3_7) []))).length : Int)) ∧ Ro_ (y300_c7) (y300_14) (T 102 o) := hh14_
        have rs_ := hh14_
        clear hh14_
        refine j_iinc E 28 rfl [(3, .int (J (l3_7 + 1))), (0, .ref o), (1, .ref a_w), (2, .int (J v_l))] dX4_run_25 hl (kk := 3) rfl (by decide) rfl (fun ls hl => ?_)
        refine j_goto E 7 dX4_run_28 (by decide) ?_
        exact ih7 (l3_7 + 1) y103_14 y300_14 H locs ls (rr (by omega)) (⟨⟨by omega, Ro_tr iv7.2.1 rs_.2, by rw [ev_nx (by omega), ← ca_]; exact rs_.1.1, by rw [ev_nx (by omega), ← ca_]; exact rs_.1.2⟩, (Kd_tr ik7_ (Kd_mono kf14_ (by decide)))⟩) (by omega) hw (lv_sub hl [1, 2, 3, 0] rfl)
  exact L7_2 _ 0 (upB (v_0 103) o 0) (v_0 300) H locs ls (rr (by decide)) (⟨⟨by omega, Ro_rf, by rw [lL_0 rfl]; exact trivial, by rw [lL_0 rfl, upB_same]; rfl⟩, Kd_rf⟩) (Nat.lt_succ_self _) (cw_eq hw (by first | rfl | (funext j_; simp only [upV, reduceIte]; (repeat' split) <;> first | rfl | omega | (subst_vars; rfl)))) (lv_sub hl [1, 2, 3, 0] rfl)
set_option maxHeartbeats 4000000 in
set_option maxRecDepth 100000 in
theorem c_X4_reckon (l : Launch) (D : va_G) (cy : Nat → ClassId) (T : Nat → Nat → Nat) (v_0 : Nat → Nat → Int) (o : Nat) (v_l : Int) (o_w : Option Nat) (F_ : Int → Int) (O_ : Int → Int) (s1_ : List Int) (s2_ : List Int) (s3_ : List Int) (t_o : T 0 o = 5) (r_v_l : inR v_l) (t_w : ∀ x, o_w = some x → T 0 x = 8) (hp0 : F_ = gC_ (v_0 300) (T 100 o)) (hp1 : O_ = gC_ (v_0 300) (T 101 o)) (hp2 : ∀ x_, o_w = some x_ → lL_ (gC_ (v_0 300) (T 162 x_)) 0 (T 1 (T 162 x_) : Int) = s1_ ++ (wh_ s2_ ++ ul_ s3_) ∧ TyN_ s1_ ∧ TyB_ s2_ ∧ TyB_ s3_) (hp3 : 0 ≤ v_l ∧ v_l < 24) : KC l D cy T yX4_reckon cX4_reckon 3 none 4 [.ref o, .int (J v_l), va_rf o_w] v_0 (KV (fun (v_2 : Nat → Nat → Int) => ∃ (y103_2 : Nat → Int) (y300_2 : Nat → Int) , v_2 = upV (upV v_0 103 y103_2) 300 y300_2 ∧ ((Rc_ (v_0 300) (y300_2) (T 101 o) (T 102 o) v_l (rk_ o_w F_ O_ v_l s1_ s2_ s3_)) ∧ Kd_ T [101, 102] (v_0 300) y300_2))) := by
  cases o_w with
  | none =>
    refine KC.ofv (by decide) (Nat.le_of_ble_eq_true rfl) ?_
    intro p e s m below meth c ls ar QW A0 H0 H locs E hK hA hw hl hret
    have hl : lv_has ls 3 [(0, .ref o), (1, .int (J v_l)), (2, .null)] := hl
    have hT : WT T := hw.1.2.1
    have nf_ : T 100 o ≠ T 102 o := ro_ne (wo_100 hT t_o) (wo_102 hT t_o) (by decide) (by decide) (by omega)
    have no_ : T 101 o ≠ T 102 o := ro_ne (wo_101 hT t_o) (wo_102 hT t_o) (by decide) (by decide) (by omega)
    refine j_iload_n E 1 rfl dX4_reckon_0 rfl (lv_at hl 1 rfl) ?_
    refine j_if_lt E 4 33 rfl r_v_l dX4_reckon_1 (by decide) (fun cc1_ => ?_) (fun cc1_ => ?_)
    · exfalso; omega
    refine j_iload_n E 5 rfl dX4_reckon_4 rfl (lv_at hl 1 rfl) ?_
    refine j_aload_n E 6 rfl dX4_reckon_5 rfl (lv_at hl 0 rfl) ?_
    refine g_101 E hK hw fl_X4_17 t_o 9 rfl dX4_reckon_6 ?_
    have ln2_ := wl_101 hT t_o
    refine a_ln20 E hK hw (wt_101 hT t_o) 10 rfl dX4_reckon_9 (fun rr3_ => ?_)
    refine j_icmp_ge E 13 33 rfl r_v_l rr3_ dX4_reckon_10 (by decide) (fun cc4_ => ?_) (fun cc4_ => ?_)
    · exfalso; omega
    refine j_aload_n E 14 rfl dX4_reckon_13 rfl (lv_at hl 0 rfl) ?_
    refine g_101 E hK hw fl_X4_17 t_o 17 rfl dX4_reckon_14 ?_
    refine j_iload_n E 18 rfl dX4_reckon_17 rfl (lv_at hl 1 rfl) ?_
    refine j_aload_nN E 19 rfl dX4_reckon_18 rfl (lv_at hl 2 rfl) ?_
    refine j_ifnonnullN E 22 rfl dX4_reckon_19 ?_
    refine j_iconst E 23 rfl dX4_reckon_22 ?_
    refine j_goto E 32 dX4_reckon_23 (by decide) ?_
    refine a_st20 E hK hw (wt_101 hT t_o) (rr (by decide)) (by omega) 33 rfl dX4_reckon_32 (fun H locs hw => ?_)
    have hw : WK D cy T (upV v_0 300 (upB (v_0 300) ((pr (T 101 o) (Int.toNat v_l))) 0)) A0 H0 H locs := cw_eq hw (by first | rfl | (funext j_; simp only [upV, reduceIte]; (repeat' split) <;> first | rfl | omega | (subst_vars; rfl)))
    exact hret 33 (upV (upV v_0 103 (v_0 103)) 300 (upB (v_0 300) ((pr (T 101 o) (Int.toNat v_l))) 0)) _ _ ls (cw_eq hw (by first | rfl | (funext j_; simp only [upV, reduceIte]; (repeat' split) <;> first | rfl | omega | (subst_vars; rfl)))) ⟨(v_0 103), (upB (v_0 300) ((pr (T 101 o) (Int.toNat v_l))) 0), rfl, ⟨by first | exact Rc_0 hp3.1 | (rw [ru_.1]; exact Rc_1 hp3.1 ru_.2 no_), (Kd_tr Kd_rf (Kd_up (wok (wo_101 hT t_o) (by decide)) (by decide)))⟩⟩ dX4_reckon_33
  | some a_w =>
    have t_w : T 0 a_w = 8 := t_w a_w rfl
    refine KC.ofv (by decide) (Nat.le_of_ble_eq_true rfl) ?_
    intro p e s m below meth c ls ar QW A0 H0 H locs E hK hA hw hl hret
    have hl : lv_has ls 3 [(0, .ref o), (1, .int (J v_l)), (2, .ref a_w)] := hl
    have hT : WT T := hw.1.2.1
    have nf_ : T 100 o ≠ T 102 o := ro_ne (wo_100 hT t_o) (wo_102 hT t_o) (by decide) (by decide) (by omega)
    have no_ : T 101 o ≠ T 102 o := ro_ne (wo_101 hT t_o) (wo_102 hT t_o) (by decide) (by decide) (by omega)
    refine j_iload_n E 1 rfl dX4_reckon_0 rfl (lv_at hl 1 rfl) ?_
    refine j_if_lt E 4 33 rfl r_v_l dX4_reckon_1 (by decide) (fun cc6_ => ?_) (fun cc6_ => ?_)
    · exfalso; omega
    refine j_iload_n E 5 rfl dX4_reckon_4 rfl (lv_at hl 1 rfl) ?_
    refine j_aload_n E 6 rfl dX4_reckon_5 rfl (lv_at hl 0 rfl) ?_
    refine g_101 E hK hw fl_X4_17 t_o 9 rfl dX4_reckon_6 ?_
    have ln7_ := wl_101 hT t_o
    refine a_ln20 E hK hw (wt_101 hT t_o) 10 rfl dX4_reckon_9 (fun rr8_ => ?_)
    refine j_icmp_ge E 13 33 rfl r_v_l rr8_ dX4_reckon_10 (by decide) (fun cc9_ => ?_) (fun cc9_ => ?_)
    · exfalso; omega
    refine j_aload_n E 14 rfl dX4_reckon_13 rfl (lv_at hl 0 rfl) ?_
    refine g_101 E hK hw fl_X4_17 t_o 17 rfl dX4_reckon_14 ?_
    refine j_iload_n E 18 rfl dX4_reckon_17 rfl (lv_at hl 1 rfl) ?_
    refine j_aload_n E 19 rfl dX4_reckon_18 rfl (lv_at hl 2 rfl) ?_
    refine j_ifnonnullR E 26 dX4_reckon_19 (by decide) ?_
    refine j_aload_n E 27 rfl dX4_reckon_26 rfl (lv_at hl 0 rfl) ?_
    refine j_aload_n E 28 rfl dX4_reckon_27 rfl (lv_at hl 2 rfl) ?_
    refine j_iload_n E 29 rfl dX4_reckon_28 rfl (lv_at hl 1 rfl) ?_
    refine kV_i E (c_X4_run l D cy T (v_0) o a_w v_l F_ O_ s1_ s2_ s3_ t_o t_w r_v_l (show F_ = gC_ (v_0 300) (T 100 o) from hp0) (show O_ = gC_ (v_0 300) (T 101 o) from hp1) (show lL_ (gC_ (v_0 300) (T 162 a_w)) 0 (T 1 (T 162 a_w) : Int) = s1_ ++ (wh_ s2_ ++ ul_ s3_) from (hp2 _ rfl).1) (show TyN_ s1_ ∧ TyB_ s2_ ∧ TyB_ s3_ from (hp2 _ rfl).2) (show v_l ≤ 24 from by omega)) mt_X4_run ml_X4_31 hK hw (cw_rc5 hK hw.1 t_o) hA ⟨Nat.le_of_ble_eq_true rfl, Nat.le_of_ble_eq_true rfl⟩ ⟨Nat.le_of_ble_eq_true rfl, Nat.le_of_ble_eq_true rfl⟩ (As := [.ref a_w, .int (J v_l)]) (rest := [.int (J v_l), .ref (T 101 o)]) rfl rfl hl.1 (Nat.le_of_ble_eq_true rfl) 32 rfl dX4_reckon_29 (fun zz10_ v_10 H locs rr10_ hq10_ hw => ?_)
    obtain ⟨y103_10, y300_10, ev10_, hh10_⟩ := hq10_
    rw [ev10_] at hw; clear ev10_
    have hw : WK D cy T (upV (upV v_0 103 y103_10) 300 y300_10) A0 H0 H locs := cw_eq hw (by first | rfl | (funext j_; simp only [upV, reduceIte]; (repeat' split) <;> first | rfl | omega | (subst_vars; rfl)))
    obtain ⟨hh10_, kf10_⟩ := hh10_
    replace hh10_ : zz10_ = own_ F_ O_ v_l s1_ s2_ s3_ ∧ Ro_ (v_0 300) (y300_10) (T 102 o) := hh10_
    have ru_ := hh10_
    clear hh10_
    refine a_st20 E hK hw (wt_101 hT t_o) rr10_ (by omega) 33 rfl dX4_reckon_32 (fun H locs hw => ?_)
    have hw : WK D cy T (upV (upV v_0 103 y103_10) 300 (upB y300_10 ((pr (T 101 o) (Int.toNat v_l))) zz10_)) A0 H0 H locs := cw_eq hw (by first | rfl | (funext j_; simp only [upV, reduceIte]; (repeat' split) <;> first | rfl | omega | (subst_vars; rfl)))
    exact hret 33 (upV (upV v_0 103 y103_10) 300 (upB y300_10 ((pr (T 101 o) (Int.toNat v_l))) zz10_)) _ _ ls hw ⟨y103_10, (upB y300_10 ((pr (T 101 o) (Int.toNat v_l))) zz10_), rfl, ⟨by first | exact Rc_0 hp3.1 | (rw [ru_.1]; exact Rc_1 hp3.1 ru_.2 no_), (Kd_tr (Kd_tr Kd_rf (Kd_mono kf10_ (by decide))) (Kd_up (wok (wo_101 hT t_o) (by decide)) (by decide)))⟩⟩ dX4_reckon_33
