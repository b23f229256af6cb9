set_option maxHeartbeats 4000000 in
set_option maxRecDepth 100000 in
theorem n_X0_init (l : Launch) (D : va_G) (cy : Nat → ClassId) (κ T : Nat → Nat → Nat) (v_0 : Nat → Nat → Int) (o : Nat) (v_a : Int) (v_b : Int) (sz : Nat) (hO : ∀ x, ow T x → κ 2 2 ≤ x) (t_o : T 0 o = 101) (r_v_a : inR v_a) (r_v_b : inR v_b) (hp0 : v_b = 0 ∨ v_b = 1) : KA l D cy κ T yX0_init cX0_init 3 none 2 1 200 [.ref o, .int (J v_a), .int (J v_b)] v_0 sz (AV (fun (T_2 : Nat → Nat → Nat) (v_2 : Nat → Nat → Int) => ∃ (y20_2 : Nat → Int) (y21_2 : Nat → Int) (y22_2 : Nat → Int) (y23_2 : Nat → Int) (y24_2 : Nat → Int) (y25_2 : Nat → Int) , v_2 = upV (upV (upV (upV (upV (upV v_0 20 y20_2) 21 y21_2) 22 y22_2) 23 y23_2) 24 y24_2) 25 y25_2 ∧ ((∀ b, b < sz → b ≠ o → ∀ k, T_2 k b = T k b) ∧ T_2 0 o = 1))) := by
  refine KA.ofv (by decide) (Nat.le_of_ble_eq_true rfl) hO ?_
  intro p e s m below meth c ls ar QW A0 H locs E hK hZ hA hAc hsz hnm hw hlo_ hl hret
  have hl : lv_has ls 3 [(0, .ref o), (1, .int (J v_a)), (2, .int (J v_b))] := hl
  have hT : WT T := hw.1.2.1
  have hoT_ : OW T T s.heap.size := OW.rf T _
  have hR_ : ∀ b, b < sz → b ≠ o → ∀ k, T k b = T k b := fun b _ _ k => rfl
  refine j_aload_n E 1 rfl dX0_init_0 rfl (lv_at hl 0 rfl) ?_
  refine W.objInit E.1 E.2.1 E.2.2.2.1 (E.2.2.2.2.1 _ mo_X0_3) (E.2.2.2.2.1 _ im_ob) (E.2.2.2.2.1 _ cd_ob) rfl (by rw [E.2.2.1]; exact hl.1) rfl dX0_init_1 (Nat.le_of_ble_eq_true rfl) (Nat.le_of_ble_eq_true rfl) ?_
  show W p l e (rmd 2 1 200) s m ar below meth c H locs _ _ QW (F0 m 4 ls [])
  refine j_aload_n E 5 rfl dX0_init_4 rfl (lv_at hl 0 rfl) ?_
  refine j_iconst E 6 rfl dX0_init_5 ?_
  refine rp_22 E hK hw fl_X0_9 t_o (rr (by decide)) 9 rfl dX0_init_6 (fun H locs hw => ?_)
  have hw : WK D cy T (upV v_0 22 (upB (v_0 22) o 0)) A0 s.heap H locs := cw_eq hw (by first | rfl | (funext j_; simp only [upV, reduceIte]; (repeat' split) <;> first | rfl | omega | (subst_vars; rfl)))
  refine j_aload_n E 10 rfl dX0_init_9 rfl (lv_at hl 0 rfl) ?_
  refine j_iconst E 11 rfl dX0_init_10 ?_
  refine rp_23 E hK hw fl_X0_15 t_o (rr (by decide)) 14 rfl dX0_init_11 (fun H locs hw => ?_)
  have hw : WK D cy T (upV (upV v_0 22 (upB (v_0 22) o 0)) 23 (upB (v_0 23) o ((-1)))) A0 s.heap H locs := cw_eq hw (by first | rfl | (funext j_; simp only [upV, reduceIte]; (repeat' split) <;> first | rfl | omega | (subst_vars; rfl)))
  refine j_aload_n E 15 rfl dX0_init_14 rfl (lv_at hl 0 rfl) ?_
  refine j_iconst E 16 rfl dX0_init_15 ?_
  refine rp_24 E hK hw fl_X0_18 t_o (rr (by decide)) 19 rfl dX0_init_16 (fun H locs hw => ?_)
  have hw : WK D cy T (upV (upV (upV v_0 22 (upB (v_0 22) o 0)) 23 (upB (v_0 23) o ((-1)))) 24 (upB (v_0 24) o 0)) A0 s.heap H locs := cw_eq hw (by first | rfl | (funext j_; simp only [upV, reduceIte]; (repeat' split) <;> first | rfl | omega | (subst_vars; rfl)))
  refine j_aload_n E 20 rfl dX0_init_19 rfl (lv_at hl 0 rfl) ?_
  refine j_iconst E 21 rfl dX0_init_20 ?_
  refine rp_25 E hK hw fl_X0_21 t_o (rr (by decide)) 24 rfl dX0_init_21 (fun H locs hw => ?_)
  have hw : WK D cy T (upV (upV (upV (upV v_0 22 (upB (v_0 22) o 0)) 23 (upB (v_0 23) o ((-1)))) 24 (upB (v_0 24) o 0)) 25 (upB (v_0 25) o ((-1)))) A0 s.heap H locs := cw_eq hw (by first | rfl | (funext j_; simp only [upV, reduceIte]; (repeat' split) <;> first | rfl | omega | (subst_vars; rfl)))
  refine j_aload_n E 25 rfl dX0_init_24 rfl (lv_at hl 0 rfl) ?_
  refine j_sipush E 28 rfl dX0_init_25 (by decide) ?_
  have hw0_ := hw
  refine n_arr22 E hK hw hA 200 (by decide) (by decide) (Nat.le_of_ble_eq_true rfl) (Nat.le_of_ble_eq_true rfl) 30 rfl dX0_init_28 (fun q5_ T5_ H hge5_ hx5_ ho5_ tq5_ tl5_ hw => ?_)
  have fq5_ : s.heap.size ≤ q5_ := Nat.le_trans hw0_.2.2.1 hge5_
  have hT5_ : WT T5_ := hw.1.2.1
  have hO5_ : ∀ x, ow T5_ x → κ 2 2 ≤ x := fun x h => hAc x (hw.2.1 x h)
  have hoT_ : OW T T5_ s.heap.size := OW.tr hw0_.2.2.1 hoT_ ho5_
  have hR_ : ∀ b, b < sz → b ≠ o → ∀ k, T5_ k b = T k b := fun b_ h1_ h2_ k_ => (hx5_ b_ (by have := hw0_.2.2.1; have := hge5_; omega) k_).trans (hR_ b_ h1_ h2_ k_)
  have u6_ : T5_ 0 o = 101 := (hx5_ o (Nat.ne_of_lt (Nat.lt_of_lt_of_le (cw_lt hw0_.1 t_o (fun _ _ _ => ⟨_, rfl⟩)) hge5_)) 0).trans t_o
  have hw0_ := hw
  refine rr_26 E hK hw hnm fl_X0_24 u6_ 33 rfl dX0_init_30 (fun T7_ H locs hx7_ hj7_ hk7_ ho7_ hw => ?_)
  have hT7_ : WT T7_ := hw.1.2.1
  have hO7_ : ∀ x, ow T7_ x → κ 2 2 ≤ x := fun x h => hAc x (hw.2.1 x h)
  have hoT_ : OW T T7_ s.heap.size := OW.tr0 hoT_ ho7_
  have hR_ : ∀ b, b < sz → b ≠ o → ∀ k, T7_ k b = T k b := fun b_ h1_ h2_ k_ => (hx7_ b_ h2_ k_).trans (hR_ b_ h1_ h2_ k_)
  have u8_ : T7_ 0 o = 101 := (hj7_ 0 (by decide)).trans u6_
  have u9_ : T7_ 0 q5_ = 22 := (hx7_ q5_ (ty_ne tq5_ u6_ (by decide)) 0).trans tq5_
  have u10_ : T7_ 1 q5_ = 200 := (hx7_ q5_ (ty_ne tq5_ u6_ (by decide)) 1).trans tl5_
  refine j_aload_n E 34 rfl dX0_init_33 rfl (lv_at hl 0 rfl) ?_
  refine j_iload_n E 35 rfl dX0_init_34 rfl (lv_at hl 1 rfl) ?_
  refine rp_20 E hK hw hnm fl_X0_28 u8_ r_v_a 38 rfl dX0_init_35 (fun H locs hw => ?_)
  have hw : WK D cy T7_ (upV (upV (upV (upV (upV v_0 20 (upB (v_0 20) o v_a)) 22 (upB (v_0 22) o 0)) 23 (upB (v_0 23) o ((-1)))) 24 (upB (v_0 24) o 0)) 25 (upB (v_0 25) o ((-1)))) A0 s.heap H locs := cw_eq hw (by first | rfl | (funext j_; simp only [upV, reduceIte]; (repeat' split) <;> first | rfl | omega | (subst_vars; rfl)))
  refine j_aload_n E 39 rfl dX0_init_38 rfl (lv_at hl 0 rfl) ?_
  refine j_iload_n E 40 rfl dX0_init_39 rfl (lv_at hl 2 rfl) ?_
  refine rp_21 E hK hw hnm fl_X0_31 u8_ r_v_b (by omega) 43 rfl dX0_init_40 (fun H locs hw => ?_)
  have hw : WK D cy T7_ (upV (upV (upV (upV (upV (upV v_0 20 (upB (v_0 20) o v_a)) 21 (upB (v_0 21) o v_b)) 22 (upB (v_0 22) o 0)) 23 (upB (v_0 23) o ((-1)))) 24 (upB (v_0 24) o 0)) 25 (upB (v_0 25) o ((-1)))) A0 s.heap H locs := cw_eq hw (by first | rfl | (funext j_; simp only [upV, reduceIte]; (repeat' split) <;> first | rfl | omega | (subst_vars; rfl)))
  have hw0_ := hw
  obtain ⟨T13_, hx13_, tq13_, xe13_26_, ho13_, hw⟩ := pm_1 hw u8_ hk7_ u9_ u10_
  have hT13_ : WT T13_ := hw.1.2.1
  have hO13_ : ∀ x, ow T13_ x → κ 2 2 ≤ x := fun x h => hAc x (hw.2.1 x h)
  have hoT_ : OW T T13_ s.heap.size := OW.tr0 hoT_ ho13_
  have hR_ : ∀ b, b < sz → b ≠ o → ∀ k, T13_ k b = T k b := fun b_ h1_ h2_ k_ => (hx13_ b_ h2_ k_).trans (hR_ b_ h1_ h2_ k_)
  refine j_aload_n E 44 rfl dX0_init_43 rfl (lv_at hl 0 rfl) ?_
  refine g_26 E hK hw fl_X0_24 tq13_ 47 rfl dX0_init_44 ?_
  have ln14_ := wl_26 hT13_ tq13_
  refine j_bipush E 49 rfl dX0_init_47 (by decide) ?_
  refine kS_v E (c_J7_fill_031fb l D cy T13_ (upV (upV (upV (upV (upV (upV v_0 20 (upB (v_0 20) o v_a)) 21 (upB (v_0 21) o v_b)) 22 (upB (v_0 22) o 0)) 23 (upB (v_0 23) o ((-1)))) 24 (upB (v_0 24) o 0)) 25 (upB (v_0 25) o ((-1)))) (T13_ 26 o) ((-2))   (wt_26 hT13_ tq13_) (rr (by decide)) ) ms_J7_fill_031fb ml_X0_35 hK hw hA ⟨Nat.le_of_ble_eq_true rfl, Nat.le_of_ble_eq_true rfl⟩ ⟨Nat.le_of_ble_eq_true rfl, Nat.le_of_ble_eq_true rfl⟩ (As := [.ref (T13_ 26 o), .int (J ((-2)))]) (rest := []) rfl rfl hl.1 (Nat.le_of_ble_eq_true rfl) 52 rfl dX0_init_49 (fun v_15 H locs hq15_ hw => ?_)
  obtain ⟨ev15_, hh15_⟩ := hq15_
  rw [ev15_] at hw; clear ev15_
  exact hret 52 T13_ (upV (upV (upV (upV (upV (upV v_0 20 (upB (v_0 20) o v_a)) 21 (upB (v_0 21) o v_b)) 22 (upB (v_0 22) o 0)) 23 (upB (v_0 23) o ((-1)))) 24 (upB (v_0 24) o 0)) 25 (upB (v_0 25) o ((-1)))) _ _ ls _ _ hw hoT_ ⟨(upB (v_0 20) o v_a), (upB (v_0 21) o v_b), (upB (v_0 22) o 0), (upB (v_0 23) o ((-1))), (upB (v_0 24) o 0), (upB (v_0 25) o ((-1))), rfl, ⟨hR_, tq13_⟩⟩ (Nat.le_of_ble_eq_true rfl) (Nat.le_of_ble_eq_true rfl) dX0_init_52
set_option maxHeartbeats 4000000 in
set_option maxRecDepth 100000 in
theorem n_X1_init (l : Launch) (D : va_G) (cy : Nat → ClassId) (κ T : Nat → Nat → Nat) (v_0 : Nat → Nat → Int) (o : Nat) (v_a : Int) (v_b : Int) (v_c : Int) (sz : Nat) (hO : ∀ x, ow T x → κ 2 2 ≤ x) (t_o : T 0 o = 102) (r_v_a : inR v_a) (r_v_b : inR v_b) (r_v_c : inR v_c) : KA l D cy κ T yX1_init cX1_init 4 none 2 3 72 [.ref o, .int (J v_a), .int (J v_b), .int (J v_c)] v_0 sz (AV (fun (T_2 : Nat → Nat → Nat) (v_2 : Nat → Nat → Int) => ∃ (y40_2 : Nat → Int) (y41_2 : Nat → Int) (y42_2 : Nat → Int) (y43_2 : Nat → Int) (y44_2 : Nat → Int) (y45_2 : Nat → Int) , v_2 = upV (upV (upV (upV (upV (upV v_0 40 y40_2) 41 y41_2) 42 y42_2) 43 y43_2) 44 y44_2) 45 y45_2 ∧ ((∀ b, b < sz → b ≠ o → ∀ k, T_2 k b = T k b) ∧ T_2 0 o = 2))) := by
  refine KA.ofv (by decide) (Nat.le_of_ble_eq_true rfl) hO ?_
  intro p e s m below meth c ls ar QW A0 H locs E hK hZ hA hAc hsz hnm hw hlo_ hl hret
  have hl : lv_has ls 4 [(0, .ref o), (1, .int (J v_a)), (2, .int (J v_b)), (3, .int (J v_c))] := hl
  have hT : WT T := hw.1.2.1
  have hoT_ : OW T T s.heap.size := OW.rf T _
  have hR_ : ∀ b, b < sz → b ≠ o → ∀ k, T k b = T k b := fun b _ _ k => rfl
  refine j_aload_n E 1 rfl dX1_init_0 rfl (lv_at hl 0 rfl) ?_
  refine W.objInit E.1 E.2.1 E.2.2.2.1 (E.2.2.2.2.1 _ mo_X1_3) (E.2.2.2.2.1 _ im_ob) (E.2.2.2.2.1 _ cd_ob) rfl (by rw [E.2.2.1]; exact hl.1) rfl dX1_init_1 (Nat.le_of_ble_eq_true rfl) (Nat.le_of_ble_eq_true rfl) ?_
  show W p l e (rmd 2 3 72) s m ar below meth c H locs _ _ QW (F0 m 4 ls [])
  refine j_aload_n E 5 rfl dX1_init_4 rfl (lv_at hl 0 rfl) ?_
  refine j_iconst E 6 rfl dX1_init_5 ?_
  refine rp_43 E hK hw fl_X1_9 t_o (rr (by decide)) 9 rfl dX1_init_6 (fun H locs hw => ?_)
  have hw : WK D cy T (upV v_0 43 (upB (v_0 43) o ((-1)))) A0 s.heap H locs := cw_eq hw (by first | rfl | (funext j_; simp only [upV, reduceIte]; (repeat' split) <;> first | rfl | omega | (subst_vars; rfl)))
  refine j_aload_n E 10 rfl dX1_init_9 rfl (lv_at hl 0 rfl) ?_
  refine j_iconst E 11 rfl dX1_init_10 ?_
  refine rp_44 E hK hw fl_X1_15 t_o (rr (by decide)) (Or.inl rfl) 14 rfl dX1_init_11 (fun H locs hw => ?_)
  have hw : WK D cy T (upV (upV v_0 43 (upB (v_0 43) o ((-1)))) 44 (upB (v_0 44) o 0)) A0 s.heap H locs := cw_eq hw (by first | rfl | (funext j_; simp only [upV, reduceIte]; (repeat' split) <;> first | rfl | omega | (subst_vars; rfl)))
  refine j_aload_n E 15 rfl dX1_init_14 rfl (lv_at hl 0 rfl) ?_
  refine j_iconst E 16 rfl dX1_init_15 ?_
  refine rp_45 E hK hw fl_X1_19 t_o (rr (by decide)) 19 rfl dX1_init_16 (fun H locs hw => ?_)
  have hw : WK D cy T (upV (upV (upV v_0 43 (upB (v_0 43) o ((-1)))) 44 (upB (v_0 44) o 0)) 45 (upB (v_0 45) o ((-1)))) A0 s.heap H locs := cw_eq hw (by first | rfl | (funext j_; simp only [upV, reduceIte]; (repeat' split) <;> first | rfl | omega | (subst_vars; rfl)))
  refine j_aload_n E 20 rfl dX1_init_19 rfl (lv_at hl 0 rfl) ?_
  refine j_bipush E 22 rfl dX1_init_20 (by decide) ?_
  have hw0_ := hw
  refine n_arr20 E hK hw hA 24 (by decide) (by decide) (Nat.le_of_ble_eq_true rfl) (Nat.le_of_ble_eq_true rfl) 24 rfl dX1_init_22 (fun q4_ T4_ H hge4_ hx4_ ho4_ tq4_ tl4_ hw => ?_)
  have fq4_ : s.heap.size ≤ q4_ := Nat.le_trans hw0_.2.2.1 hge4_
  have hT4_ : WT T4_ := hw.1.2.1
  have hO4_ : ∀ x, ow T4_ x → κ 2 2 ≤ x := fun x h => hAc x (hw.2.1 x h)
  have hoT_ : OW T T4_ s.heap.size := OW.tr hw0_.2.2.1 hoT_ ho4_
  have hR_ : ∀ b, b < sz → b ≠ o → ∀ k, T4_ k b = T k b := fun b_ h1_ h2_ k_ => (hx4_ b_ (by have := hw0_.2.2.1; have := hge4_; omega) k_).trans (hR_ b_ h1_ h2_ k_)
  have u5_ : T4_ 0 o = 102 := (hx4_ o (Nat.ne_of_lt (Nat.lt_of_lt_of_le (cw_lt hw0_.1 t_o (fun _ _ _ => ⟨_, rfl⟩)) hge4_)) 0).trans t_o
  have hw0_ := hw
  refine rr_46 E hK hw hnm fl_X1_22 u5_ 27 rfl dX1_init_24 (fun T6_ H locs hx6_ hj6_ hk6_ ho6_ hw => ?_)
  have hT6_ : WT T6_ := hw.1.2.1
  have hO6_ : ∀ x, ow T6_ x → κ 2 2 ≤ x := fun x h => hAc x (hw.2.1 x h)
  have hoT_ : OW T T6_ s.heap.size := OW.tr0 hoT_ ho6_
  have hR_ : ∀ b, b < sz → b ≠ o → ∀ k, T6_ k b = T k b := fun b_ h1_ h2_ k_ => (hx6_ b_ h2_ k_).trans (hR_ b_ h1_ h2_ k_)
  have u7_ : T6_ 0 o = 102 := (hj6_ 0 (by decide)).trans u5_
  have u8_ : T6_ 0 q4_ = 20 := (hx6_ q4_ (ty_ne tq4_ u5_ (by decide)) 0).trans tq4_
  have u9_ : T6_ 1 q4_ = 24 := (hx6_ q4_ (ty_ne tq4_ u5_ (by decide)) 1).trans tl4_
  refine j_aload_n E 28 rfl dX1_init_27 rfl (lv_at hl 0 rfl) ?_
  refine j_bipush E 30 rfl dX1_init_28 (by decide) ?_
  have hw0_ := hw
  refine n_arr20 E hK hw hA 24 (by decide) (by decide) (Nat.le_of_ble_eq_true rfl) (Nat.le_of_ble_eq_true rfl) 32 rfl dX1_init_30 (fun q10_ T10_ H hge10_ hx10_ ho10_ tq10_ tl10_ hw => ?_)
  have fq10_ : s.heap.size ≤ q10_ := Nat.le_trans hw0_.2.2.1 hge10_
  have hT10_ : WT T10_ := hw.1.2.1
  have hO10_ : ∀ x, ow T10_ x → κ 2 2 ≤ x := fun x h => hAc x (hw.2.1 x h)
  have hoT_ : OW T T10_ s.heap.size := OW.tr hw0_.2.2.1 hoT_ ho10_
  have hR_ : ∀ b, b < sz → b ≠ o → ∀ k, T10_ k b = T k b := fun b_ h1_ h2_ k_ => (hx10_ b_ (by have := hw0_.2.2.1; have := hge10_; omega) k_).trans (hR_ b_ h1_ h2_ k_)
  have u11_ : T10_ 0 o = 102 := (hx10_ o (Nat.ne_of_lt (Nat.lt_of_lt_of_le (cw_lt hw0_.1 u7_ (fun _ _ _ => ⟨_, rfl⟩)) hge10_)) 0).trans u7_
  have u12_ : T10_ 0 q4_ = 20 := (hx10_ q4_ (Nat.ne_of_lt (Nat.lt_of_lt_of_le (cw_lt hw0_.1 u8_ (fun _ _ _ => ⟨_, rfl⟩)) hge10_)) 0).trans u8_
  have u13_ : T10_ 1 q4_ = 24 := (hx10_ q4_ (Nat.ne_of_lt (Nat.lt_of_lt_of_le (cw_lt hw0_.1 u8_ (fun _ _ _ => ⟨_, rfl⟩)) hge10_)) 1).trans u9_
  have u14_ : T10_ 46 o = q4_ + 1 := (hx10_ o (Nat.ne_of_lt (Nat.lt_of_lt_of_le (cw_lt hw0_.1 u7_ (fun _ _ _ => ⟨_, rfl⟩)) hge10_)) 46).trans hk6_
  have hw0_ := hw
  refine rr_47 E hK hw hnm fl_X1_26 u11_ 35 rfl dX1_init_32 (fun T15_ H locs hx15_ hj15_ hk15_ ho15_ hw => ?_)
  have hT15_ : WT T15_ := hw.1.2.1
  have hO15_ : ∀ x, ow T15_ x → κ 2 2 ≤ x := fun x h => hAc x (hw.2.1 x h)
  have hoT_ : OW T T15_ s.heap.size := OW.tr0 hoT_ ho15_
  have hR_ : ∀ b, b < sz → b ≠ o → ∀ k, T15_ k b = T k b := fun b_ h1_ h2_ k_ => (hx15_ b_ h2_ k_).trans (hR_ b_ h1_ h2_ k_)
  have u16_ : T15_ 0 o = 102 := (hj15_ 0 (by decide)).trans u11_
  have u17_ : T15_ 0 q4_ = 20 := (hx15_ q4_ (ty_ne u12_ u11_ (by decide)) 0).trans u12_
  have u18_ : T15_ 0 q10_ = 20 := (hx15_ q10_ (ty_ne tq10_ u11_ (by decide)) 0).trans tq10_
  have u19_ : T15_ 1 q4_ = 24 := (hx15_ q4_ (ty_ne u12_ u11_ (by decide)) 1).trans u13_
  have u20_ : T15_ 1 q10_ = 24 := (hx15_ q10_ (ty_ne tq10_ u11_ (by decide)) 1).trans tl10_
  have u21_ : T15_ 46 o = q4_ + 1 := (hj15_ 46 (by decide)).trans u14_
  refine j_aload_n E 36 rfl dX1_init_35 rfl (lv_at hl 0 rfl) ?_
  refine j_bipush E 38 rfl dX1_init_36 (by decide) ?_
  have hw0_ := hw
  refine n_arr20 E hK hw hA 24 (by decide) (by decide) (Nat.le_of_ble_eq_true rfl) (Nat.le_of_ble_eq_true rfl) 40 rfl dX1_init_38 (fun q22_ T22_ H hge22_ hx22_ ho22_ tq22_ tl22_ hw => ?_)
  have fq22_ : s.heap.size ≤ q22_ := Nat.le_trans hw0_.2.2.1 hge22_
  have hT22_ : WT T22_ := hw.1.2.1
  have hO22_ : ∀ x, ow T22_ x → κ 2 2 ≤ x := fun x h => hAc x (hw.2.1 x h)
  have hoT_ : OW T T22_ s.heap.size := OW.tr hw0_.2.2.1 hoT_ ho22_
  have hR_ : ∀ b, b < sz → b ≠ o → ∀ k, T22_ k b = T k b := fun b_ h1_ h2_ k_ => (hx22_ b_ (by have := hw0_.2.2.1; have := hge22_; omega) k_).trans (hR_ b_ h1_ h2_ k_)
  have u23_ : T22_ 0 o = 102 := (hx22_ o (Nat.ne_of_lt (Nat.lt_of_lt_of_le (cw_lt hw0_.1 u16_ (fun _ _ _ => ⟨_, rfl⟩)) hge22_)) 0).trans u16_
  have u24_ : T22_ 0 q4_ = 20 := (hx22_ q4_ (Nat.ne_of_lt (Nat.lt_of_lt_of_le (cw_lt hw0_.1 u17_ (fun _ _ _ => ⟨_, rfl⟩)) hge22_)) 0).trans u17_
  have u25_ : T22_ 0 q10_ = 20 := (hx22_ q10_ (Nat.ne_of_lt (Nat.lt_of_lt_of_le (cw_lt hw0_.1 u18_ (fun _ _ _ => ⟨_, rfl⟩)) hge22_)) 0).trans u18_
  have u26_ : T22_ 1 q4_ = 24 := (hx22_ q4_ (Nat.ne_of_lt (Nat.lt_of_lt_of_le (cw_lt hw0_.1 u17_ (fun _ _ _ => ⟨_, rfl⟩)) hge22_)) 1).trans u19_
  have u27_ : T22_ 1 q10_ = 24 := (hx22_ q10_ (Nat.ne_of_lt (Nat.lt_of_lt_of_le (cw_lt hw0_.1 u18_ (fun _ _ _ => ⟨_, rfl⟩)) hge22_)) 1).trans u20_
  have u28_ : T22_ 46 o = q4_ + 1 := (hx22_ o (Nat.ne_of_lt (Nat.lt_of_lt_of_le (cw_lt hw0_.1 u16_ (fun _ _ _ => ⟨_, rfl⟩)) hge22_)) 46).trans u21_
  have u29_ : T22_ 47 o = q10_ + 1 := (hx22_ o (Nat.ne_of_lt (Nat.lt_of_lt_of_le (cw_lt hw0_.1 u16_ (fun _ _ _ => ⟨_, rfl⟩)) hge22_)) 47).trans hk15_
  have hw0_ := hw
  refine rr_48 E hK hw hnm fl_X1_29 u23_ 43 rfl dX1_init_40 (fun T30_ H locs hx30_ hj30_ hk30_ ho30_ hw => ?_)
  have hT30_ : WT T30_ := hw.1.2.1
  have hO30_ : ∀ x, ow T30_ x → κ 2 2 ≤ x := fun x h => hAc x (hw.2.1 x h)
  have hoT_ : OW T T30_ s.heap.size := OW.tr0 hoT_ ho30_
  have hR_ : ∀ b, b < sz → b ≠ o → ∀ k, T30_ k b = T k b := fun b_ h1_ h2_ k_ => (hx30_ b_ h2_ k_).trans (hR_ b_ h1_ h2_ k_)
  have u31_ : T30_ 0 o = 102 := (hj30_ 0 (by decide)).trans u23_
  have u32_ : T30_ 0 q4_ = 20 := (hx30_ q4_ (ty_ne u24_ u23_ (by decide)) 0).trans u24_
  have u33_ : T30_ 0 q10_ = 20 := (hx30_ q10_ (ty_ne u25_ u23_ (by decide)) 0).trans u25_
  have u34_ : T30_ 0 q22_ = 20 := (hx30_ q22_ (ty_ne tq22_ u23_ (by decide)) 0).trans tq22_
  have u35_ : T30_ 1 q4_ = 24 := (hx30_ q4_ (ty_ne u24_ u23_ (by decide)) 1).trans u26_
  have u36_ : T30_ 1 q10_ = 24 := (hx30_ q10_ (ty_ne u25_ u23_ (by decide)) 1).trans u27_
  have u37_ : T30_ 1 q22_ = 24 := (hx30_ q22_ (ty_ne tq22_ u23_ (by decide)) 1).trans tl22_
  have u38_ : T30_ 46 o = q4_ + 1 := (hj30_ 46 (by decide)).trans u28_
  have u39_ : T30_ 47 o = q10_ + 1 := (hj30_ 47 (by decide)).trans u29_
  refine j_aload_n E 44 rfl dX1_init_43 rfl (lv_at hl 0 rfl) ?_
  refine j_iload_n E 45 rfl dX1_init_44 rfl (lv_at hl 1 rfl) ?_
  refine rp_40 E hK hw hnm fl_X1_32 u31_ r_v_a 48 rfl dX1_init_45 (fun H locs hw => ?_)
  have hw : WK D cy T30_ (upV (upV (upV (upV v_0 40 (upB (v_0 40) o v_a)) 43 (upB (v_0 43) o ((-1)))) 44 (upB (v_0 44) o 0)) 45 (upB (v_0 45) o ((-1)))) A0 s.heap H locs := cw_eq hw (by first | rfl | (funext j_; simp only [upV, reduceIte]; (repeat' split) <;> first | rfl | omega | (subst_vars; rfl)))
  refine j_aload_n E 49 rfl dX1_init_48 rfl (lv_at hl 0 rfl) ?_
  refine j_iload_n E 50 rfl dX1_init_49 rfl (lv_at hl 2 rfl) ?_
  refine rp_41 E hK hw hnm fl_X1_35 u31_ r_v_b 53 rfl dX1_init_50 (fun H locs hw => ?_)
  have hw : WK D cy T30_ (upV (upV (upV (upV (upV v_0 40 (upB (v_0 40) o v_a)) 41 (upB (v_0 41) o v_b)) 43 (upB (v_0 43) o ((-1)))) 44 (upB (v_0 44) o 0)) 45 (upB (v_0 45) o ((-1)))) A0 s.heap H locs := cw_eq hw (by first | rfl | (funext j_; simp only [upV, reduceIte]; (repeat' split) <;> first | rfl | omega | (subst_vars; rfl)))
  refine j_aload_n E 54 rfl dX1_init_53 rfl (lv_at hl 0 rfl) ?_
  refine j_iload_n E 55 rfl dX1_init_54 rfl (lv_at hl 3 rfl) ?_
  refine rp_42 E hK hw hnm fl_X1_38 u31_ r_v_c 58 rfl dX1_init_55 (fun H locs hw => ?_)
  have hw : WK D cy T30_ (upV (upV (upV (upV (upV (upV v_0 40 (upB (v_0 40) o v_a)) 41 (upB (v_0 41) o v_b)) 42 (upB (v_0 42) o v_c)) 43 (upB (v_0 43) o ((-1)))) 44 (upB (v_0 44) o 0)) 45 (upB (v_0 45) o ((-1)))) A0 s.heap H locs := cw_eq hw (by first | rfl | (funext j_; simp only [upV, reduceIte]; (repeat' split) <;> first | rfl | omega | (subst_vars; rfl)))
  have hw0_ := hw
  obtain ⟨T43_, hx43_, tq43_, xe43_46_, xe43_47_, xe43_48_, ho43_, hw⟩ := pm_2 hw u31_ u38_ u32_ u35_ u39_ u33_ u36_ hk30_ u34_ u37_
  have hT43_ : WT T43_ := hw.1.2.1
  have hO43_ : ∀ x, ow T43_ x → κ 2 2 ≤ x := fun x h => hAc x (hw.2.1 x h)
  have hoT_ : OW T T43_ s.heap.size := OW.tr0 hoT_ ho43_
  have hR_ : ∀ b, b < sz → b ≠ o → ∀ k, T43_ k b = T k b := fun b_ h1_ h2_ k_ => (hx43_ b_ h2_ k_).trans (hR_ b_ h1_ h2_ k_)
  refine j_aload_n E 59 rfl dX1_init_58 rfl (lv_at hl 0 rfl) ?_
  refine g_46 E hK hw fl_X1_22 tq43_ 62 rfl dX1_init_59 ?_
  have ln44_ := wl_46 hT43_ tq43_
  refine j_iconst E 63 rfl dX1_init_62 ?_
  refine kS_v E (c_J7_fill_53178 l D cy T43_ (upV (upV (upV (upV (upV (upV v_0 40 (upB (v_0 40) o v_a)) 41 (upB (v_0 41) o v_b)) 42 (upB (v_0 42) o v_c)) 43 (upB (v_0 43) o ((-1)))) 44 (upB (v_0 44) o 0)) 45 (upB (v_0 45) o ((-1)))) (T43_ 46 o) ((-1))   (wt_46 hT43_ tq43_) (rr (by decide)) ) ms_J7_fill_53178 ml_X1_41 hK hw hA ⟨Nat.le_of_ble_eq_true rfl, Nat.le_of_ble_eq_true rfl⟩ ⟨Nat.le_of_ble_eq_true rfl, Nat.le_of_ble_eq_true rfl⟩ (As := [.ref (T43_ 46 o), .int (J ((-1)))]) (rest := []) rfl rfl hl.1 (Nat.le_of_ble_eq_true rfl) 66 rfl dX1_init_63 (fun v_45 H locs hq45_ hw => ?_)
  obtain ⟨ev45_, hh45_⟩ := hq45_
  rw [ev45_] at hw; clear ev45_
  refine j_aload_n E 67 rfl dX1_init_66 rfl (lv_at hl 0 rfl) ?_
  refine g_48 E hK hw fl_X1_29 tq43_ 70 rfl dX1_init_67 ?_
  have ln46_ := wl_48 hT43_ tq43_
  refine j_iconst E 71 rfl dX1_init_70 ?_
  refine kS_v E (c_J7_fill_53178 l D cy T43_ (upV (upV (upV (upV (upV (upV v_0 40 (upB (v_0 40) o v_a)) 41 (upB (v_0 41) o v_b)) 42 (upB (v_0 42) o v_c)) 43 (upB (v_0 43) o ((-1)))) 44 (upB (v_0 44) o 0)) 45 (upB (v_0 45) o ((-1)))) (T43_ 48 o) ((-1))   (wt_48 hT43_ tq43_) (rr (by decide)) ) ms_J7_fill_53178 ml_X1_41 hK hw hA ⟨Nat.le_of_ble_eq_true rfl, Nat.le_of_ble_eq_true rfl⟩ ⟨Nat.le_of_ble_eq_true rfl, Nat.le_of_ble_eq_true rfl⟩ (As := [.ref (T43_ 48 o), .int (J ((-1)))]) (rest := []) rfl rfl hl.1 (Nat.le_of_ble_eq_true rfl) 74 rfl dX1_init_71 (fun v_47 H locs hq47_ hw => ?_)
  obtain ⟨ev47_, hh47_⟩ := hq47_
  rw [ev47_] at hw; clear ev47_
  exact hret 74 T43_ (upV (upV (upV (upV (upV (upV v_0 40 (upB (v_0 40) o v_a)) 41 (upB (v_0 41) o v_b)) 42 (upB (v_0 42) o v_c)) 43 (upB (v_0 43) o ((-1)))) 44 (upB (v_0 44) o 0)) 45 (upB (v_0 45) o ((-1)))) _ _ ls _ _ hw hoT_ ⟨(upB (v_0 40) o v_a), (upB (v_0 41) o v_b), (upB (v_0 42) o v_c), (upB (v_0 43) o ((-1))), (upB (v_0 44) o 0), (upB (v_0 45) o ((-1))), rfl, ⟨hR_, tq43_⟩⟩ (Nat.le_of_ble_eq_true rfl) (Nat.le_of_ble_eq_true rfl) dX1_init_74
set_option maxHeartbeats 4000000 in
set_option maxRecDepth 100000 in
theorem n_X2_init (l : Launch) (D : va_G) (cy : Nat → ClassId) (κ T : Nat → Nat → Nat) (v_0 : Nat → Nat → Int) (o : Nat) (sz : Nat) (hO : ∀ x, ow T x → κ 2 2 ≤ x) (t_o : T 0 o = 103) : KA l D cy κ T yX2_init cX2_init 1 none 1 4 6524 [.ref o] v_0 sz (AV (fun (T_2 : Nat → Nat → Nat) (v_2 : Nat → Nat → Int) => ∃ (y64_2 : Nat → Int) (y65_2 : Nat → Int) (y66_2 : Nat → Int) , v_2 = upV (upV (upV v_0 64 y64_2) 65 y65_2) 66 y66_2 ∧ ((∀ b, b < sz → b ≠ o → ∀ k, T_2 k b = T k b) ∧ T_2 0 o = 3))) := by
  refine KA.ofv (by decide) (Nat.le_of_ble_eq_true rfl) hO ?_
  intro p e s m below meth c ls ar QW A0 H locs E hK hZ hA hAc hsz hnm hw hlo_ hl hret
  have hl : lv_has ls 1 [(0, .ref o)] := hl
  have hT : WT T := hw.1.2.1
  have hoT_ : OW T T s.heap.size := OW.rf T _
  have hR_ : ∀ b, b < sz → b ≠ o → ∀ k, T k b = T k b := fun b _ _ k => rfl
  refine j_aload_n E 1 rfl dX2_init_0 rfl (lv_at hl 0 rfl) ?_
  refine W.objInit E.1 E.2.1 E.2.2.2.1 (E.2.2.2.2.1 _ mo_X2_3) (E.2.2.2.2.1 _ im_ob) (E.2.2.2.2.1 _ cd_ob) rfl (by rw [E.2.2.1]; exact hl.1) rfl dX2_init_1 (Nat.le_of_ble_eq_true rfl) (Nat.le_of_ble_eq_true rfl) ?_
  show W p l e (rmd 1 4 6524) s m ar below meth c H locs _ _ QW (F0 m 4 ls [])
  refine j_aload_n E 5 rfl dX2_init_4 rfl (lv_at hl 0 rfl) ?_
  refine j_sipush E 8 rfl dX2_init_5 (by decide) ?_
  have hw0_ := hw
  refine n_arr20 E hK hw hA 6400 (by decide) (by decide) (Nat.le_of_ble_eq_true rfl) (Nat.le_of_ble_eq_true rfl) 10 rfl dX2_init_8 (fun q1_ T1_ H hge1_ hx1_ ho1_ tq1_ tl1_ hw => ?_)
  have fq1_ : s.heap.size ≤ q1_ := Nat.le_trans hw0_.2.2.1 hge1_
  have hT1_ : WT T1_ := hw.1.2.1
  have hO1_ : ∀ x, ow T1_ x → κ 2 2 ≤ x := fun x h => hAc x (hw.2.1 x h)
  have hoT_ : OW T T1_ s.heap.size := OW.tr hw0_.2.2.1 hoT_ ho1_
  have hR_ : ∀ b, b < sz → b ≠ o → ∀ k, T1_ k b = T k b := fun b_ h1_ h2_ k_ => (hx1_ b_ (by have := hw0_.2.2.1; have := hge1_; omega) k_).trans (hR_ b_ h1_ h2_ k_)
  have u2_ : T1_ 0 o = 103 := (hx1_ o (Nat.ne_of_lt (Nat.lt_of_lt_of_le (cw_lt hw0_.1 t_o (fun _ _ _ => ⟨_, rfl⟩)) hge1_)) 0).trans t_o
  have hw0_ := hw
  refine rr_60 E hK hw hnm fl_X2_11 u2_ 13 rfl dX2_init_10 (fun T3_ H locs hx3_ hj3_ hk3_ ho3_ hw => ?_)
  have hT3_ : WT T3_ := hw.1.2.1
  have hO3_ : ∀ x, ow T3_ x → κ 2 2 ≤ x := fun x h => hAc x (hw.2.1 x h)
  have hoT_ : OW T T3_ s.heap.size := OW.tr0 hoT_ ho3_
  have hR_ : ∀ b, b < sz → b ≠ o → ∀ k, T3_ k b = T k b := fun b_ h1_ h2_ k_ => (hx3_ b_ h2_ k_).trans (hR_ b_ h1_ h2_ k_)
  have u4_ : T3_ 0 o = 103 := (hj3_ 0 (by decide)).trans u2_
  have u5_ : T3_ 0 q1_ = 20 := (hx3_ q1_ (ty_ne tq1_ u2_ (by decide)) 0).trans tq1_
  have u6_ : T3_ 1 q1_ = 6400 := (hx3_ q1_ (ty_ne tq1_ u2_ (by decide)) 1).trans tl1_
  refine j_aload_n E 14 rfl dX2_init_13 rfl (lv_at hl 0 rfl) ?_
  refine j_bipush E 16 rfl dX2_init_14 (by decide) ?_
  have hw0_ := hw
  refine n_arr20 E hK hw hA 96 (by decide) (by decide) (Nat.le_of_ble_eq_true rfl) (Nat.le_of_ble_eq_true rfl) 18 rfl dX2_init_16 (fun q7_ T7_ H hge7_ hx7_ ho7_ tq7_ tl7_ hw => ?_)
  have fq7_ : s.heap.size ≤ q7_ := Nat.le_trans hw0_.2.2.1 hge7_
  have hT7_ : WT T7_ := hw.1.2.1
  have hO7_ : ∀ x, ow T7_ x → κ 2 2 ≤ x := fun x h => hAc x (hw.2.1 x h)
  have hoT_ : OW T T7_ s.heap.size := OW.tr hw0_.2.2.1 hoT_ ho7_
  have hR_ : ∀ b, b < sz → b ≠ o → ∀ k, T7_ k b = T k b := fun b_ h1_ h2_ k_ => (hx7_ b_ (by have := hw0_.2.2.1; have := hge7_; omega) k_).trans (hR_ b_ h1_ h2_ k_)
  have u8_ : T7_ 0 o = 103 := (hx7_ o (Nat.ne_of_lt (Nat.lt_of_lt_of_le (cw_lt hw0_.1 u4_ (fun _ _ _ => ⟨_, rfl⟩)) hge7_)) 0).trans u4_
  have u9_ : T7_ 0 q1_ = 20 := (hx7_ q1_ (Nat.ne_of_lt (Nat.lt_of_lt_of_le (cw_lt hw0_.1 u5_ (fun _ _ _ => ⟨_, rfl⟩)) hge7_)) 0).trans u5_
  have u10_ : T7_ 1 q1_ = 6400 := (hx7_ q1_ (Nat.ne_of_lt (Nat.lt_of_lt_of_le (cw_lt hw0_.1 u5_ (fun _ _ _ => ⟨_, rfl⟩)) hge7_)) 1).trans u6_
  have u11_ : T7_ 60 o = q1_ + 1 := (hx7_ o (Nat.ne_of_lt (Nat.lt_of_lt_of_le (cw_lt hw0_.1 u4_ (fun _ _ _ => ⟨_, rfl⟩)) hge7_)) 60).trans hk3_
  have hw0_ := hw
  refine rr_61 E hK hw hnm fl_X2_15 u8_ 21 rfl dX2_init_18 (fun T12_ H locs hx12_ hj12_ hk12_ ho12_ hw => ?_)
  have hT12_ : WT T12_ := hw.1.2.1
  have hO12_ : ∀ x, ow T12_ x → κ 2 2 ≤ x := fun x h => hAc x (hw.2.1 x h)
  have hoT_ : OW T T12_ s.heap.size := OW.tr0 hoT_ ho12_
  have hR_ : ∀ b, b < sz → b ≠ o → ∀ k, T12_ k b = T k b := fun b_ h1_ h2_ k_ => (hx12_ b_ h2_ k_).trans (hR_ b_ h1_ h2_ k_)
  have u13_ : T12_ 0 o = 103 := (hj12_ 0 (by decide)).trans u8_
  have u14_ : T12_ 0 q1_ = 20 := (hx12_ q1_ (ty_ne u9_ u8_ (by decide)) 0).trans u9_
  have u15_ : T12_ 0 q7_ = 20 := (hx12_ q7_ (ty_ne tq7_ u8_ (by decide)) 0).trans tq7_
  have u16_ : T12_ 1 q1_ = 6400 := (hx12_ q1_ (ty_ne u9_ u8_ (by decide)) 1).trans u10_
  have u17_ : T12_ 1 q7_ = 96 := (hx12_ q7_ (ty_ne tq7_ u8_ (by decide)) 1).trans tl7_
  have u18_ : T12_ 60 o = q1_ + 1 := (hj12_ 60 (by decide)).trans u11_
  refine j_aload_n E 22 rfl dX2_init_21 rfl (lv_at hl 0 rfl) ?_
  refine j_iconst E 23 rfl dX2_init_22 ?_
  have hw0_ := hw
  refine n_arr20 E hK hw hA 4 (by decide) (by decide) (Nat.le_of_ble_eq_true rfl) (Nat.le_of_ble_eq_true rfl) 25 rfl dX2_init_23 (fun q19_ T19_ H hge19_ hx19_ ho19_ tq19_ tl19_ hw => ?_)
  have fq19_ : s.heap.size ≤ q19_ := Nat.le_trans hw0_.2.2.1 hge19_
  have hT19_ : WT T19_ := hw.1.2.1
  have hO19_ : ∀ x, ow T19_ x → κ 2 2 ≤ x := fun x h => hAc x (hw.2.1 x h)
  have hoT_ : OW T T19_ s.heap.size := OW.tr hw0_.2.2.1 hoT_ ho19_
  have hR_ : ∀ b, b < sz → b ≠ o → ∀ k, T19_ k b = T k b := fun b_ h1_ h2_ k_ => (hx19_ b_ (by have := hw0_.2.2.1; have := hge19_; omega) k_).trans (hR_ b_ h1_ h2_ k_)
  have u20_ : T19_ 0 o = 103 := (hx19_ o (Nat.ne_of_lt (Nat.lt_of_lt_of_le (cw_lt hw0_.1 u13_ (fun _ _ _ => ⟨_, rfl⟩)) hge19_)) 0).trans u13_
  have u21_ : T19_ 0 q1_ = 20 := (hx19_ q1_ (Nat.ne_of_lt (Nat.lt_of_lt_of_le (cw_lt hw0_.1 u14_ (fun _ _ _ => ⟨_, rfl⟩)) hge19_)) 0).trans u14_
  have u22_ : T19_ 0 q7_ = 20 := (hx19_ q7_ (Nat.ne_of_lt (Nat.lt_of_lt_of_le (cw_lt hw0_.1 u15_ (fun _ _ _ => ⟨_, rfl⟩)) hge19_)) 0).trans u15_
  have u23_ : T19_ 1 q1_ = 6400 := (hx19_ q1_ (Nat.ne_of_lt (Nat.lt_of_lt_of_le (cw_lt hw0_.1 u14_ (fun _ _ _ => ⟨_, rfl⟩)) hge19_)) 1).trans u16_
  have u24_ : T19_ 1 q7_ = 96 := (hx19_ q7_ (Nat.ne_of_lt (Nat.lt_of_lt_of_le (cw_lt hw0_.1 u15_ (fun _ _ _ => ⟨_, rfl⟩)) hge19_)) 1).trans u17_
  have u25_ : T19_ 60 o = q1_ + 1 := (hx19_ o (Nat.ne_of_lt (Nat.lt_of_lt_of_le (cw_lt hw0_.1 u13_ (fun _ _ _ => ⟨_, rfl⟩)) hge19_)) 60).trans u18_
  have u26_ : T19_ 61 o = q7_ + 1 := (hx19_ o (Nat.ne_of_lt (Nat.lt_of_lt_of_le (cw_lt hw0_.1 u13_ (fun _ _ _ => ⟨_, rfl⟩)) hge19_)) 61).trans hk12_
  have hw0_ := hw
  refine rr_62 E hK hw hnm fl_X2_18 u20_ 28 rfl dX2_init_25 (fun T27_ H locs hx27_ hj27_ hk27_ ho27_ hw => ?_)
  have hT27_ : WT T27_ := hw.1.2.1
  have hO27_ : ∀ x, ow T27_ x → κ 2 2 ≤ x := fun x h => hAc x (hw.2.1 x h)
  have hoT_ : OW T T27_ s.heap.size := OW.tr0 hoT_ ho27_
  have hR_ : ∀ b, b < sz → b ≠ o → ∀ k, T27_ k b = T k b := fun b_ h1_ h2_ k_ => (hx27_ b_ h2_ k_).trans (hR_ b_ h1_ h2_ k_)
  have u28_ : T27_ 0 o = 103 := (hj27_ 0 (by decide)).trans u20_
  have u29_ : T27_ 0 q1_ = 20 := (hx27_ q1_ (ty_ne u21_ u20_ (by decide)) 0).trans u21_
  have u30_ : T27_ 0 q7_ = 20 := (hx27_ q7_ (ty_ne u22_ u20_ (by decide)) 0).trans u22_
  have u31_ : T27_ 0 q19_ = 20 := (hx27_ q19_ (ty_ne tq19_ u20_ (by decide)) 0).trans tq19_
  have u32_ : T27_ 1 q1_ = 6400 := (hx27_ q1_ (ty_ne u21_ u20_ (by decide)) 1).trans u23_
  have u33_ : T27_ 1 q7_ = 96 := (hx27_ q7_ (ty_ne u22_ u20_ (by decide)) 1).trans u24_
  have u34_ : T27_ 1 q19_ = 4 := (hx27_ q19_ (ty_ne tq19_ u20_ (by decide)) 1).trans tl19_
  have u35_ : T27_ 60 o = q1_ + 1 := (hj27_ 60 (by decide)).trans u25_
  have u36_ : T27_ 61 o = q7_ + 1 := (hj27_ 61 (by decide)).trans u26_
  refine j_aload_n E 29 rfl dX2_init_28 rfl (lv_at hl 0 rfl) ?_
  refine j_bipush E 31 rfl dX2_init_29 (by decide) ?_
  have hw0_ := hw
  refine n_arr20 E hK hw hA 24 (by decide) (by decide) (Nat.le_of_ble_eq_true rfl) (Nat.le_of_ble_eq_true rfl) 33 rfl dX2_init_31 (fun q37_ T37_ H hge37_ hx37_ ho37_ tq37_ tl37_ hw => ?_)
  have fq37_ : s.heap.size ≤ q37_ := Nat.le_trans hw0_.2.2.1 hge37_
  have hT37_ : WT T37_ := hw.1.2.1
  have hO37_ : ∀ x, ow T37_ x → κ 2 2 ≤ x := fun x h => hAc x (hw.2.1 x h)
  have hoT_ : OW T T37_ s.heap.size := OW.tr hw0_.2.2.1 hoT_ ho37_
  have hR_ : ∀ b, b < sz → b ≠ o → ∀ k, T37_ k b = T k b := fun b_ h1_ h2_ k_ => (hx37_ b_ (by have := hw0_.2.2.1; have := hge37_; omega) k_).trans (hR_ b_ h1_ h2_ k_)
  have u38_ : T37_ 0 o = 103 := (hx37_ o (Nat.ne_of_lt (Nat.lt_of_lt_of_le (cw_lt hw0_.1 u28_ (fun _ _ _ => ⟨_, rfl⟩)) hge37_)) 0).trans u28_
  have u39_ : T37_ 0 q1_ = 20 := (hx37_ q1_ (Nat.ne_of_lt (Nat.lt_of_lt_of_le (cw_lt hw0_.1 u29_ (fun _ _ _ => ⟨_, rfl⟩)) hge37_)) 0).trans u29_
  have u40_ : T37_ 0 q7_ = 20 := (hx37_ q7_ (Nat.ne_of_lt (Nat.lt_of_lt_of_le (cw_lt hw0_.1 u30_ (fun _ _ _ => ⟨_, rfl⟩)) hge37_)) 0).trans u30_
  have u41_ : T37_ 0 q19_ = 20 := (hx37_ q19_ (Nat.ne_of_lt (Nat.lt_of_lt_of_le (cw_lt hw0_.1 u31_ (fun _ _ _ => ⟨_, rfl⟩)) hge37_)) 0).trans u31_
  have u42_ : T37_ 1 q1_ = 6400 := (hx37_ q1_ (Nat.ne_of_lt (Nat.lt_of_lt_of_le (cw_lt hw0_.1 u29_ (fun _ _ _ => ⟨_, rfl⟩)) hge37_)) 1).trans u32_
  have u43_ : T37_ 1 q7_ = 96 := (hx37_ q7_ (Nat.ne_of_lt (Nat.lt_of_lt_of_le (cw_lt hw0_.1 u30_ (fun _ _ _ => ⟨_, rfl⟩)) hge37_)) 1).trans u33_
  have u44_ : T37_ 1 q19_ = 4 := (hx37_ q19_ (Nat.ne_of_lt (Nat.lt_of_lt_of_le (cw_lt hw0_.1 u31_ (fun _ _ _ => ⟨_, rfl⟩)) hge37_)) 1).trans u34_
  have u45_ : T37_ 60 o = q1_ + 1 := (hx37_ o (Nat.ne_of_lt (Nat.lt_of_lt_of_le (cw_lt hw0_.1 u28_ (fun _ _ _ => ⟨_, rfl⟩)) hge37_)) 60).trans u35_
  have u46_ : T37_ 61 o = q7_ + 1 := (hx37_ o (Nat.ne_of_lt (Nat.lt_of_lt_of_le (cw_lt hw0_.1 u28_ (fun _ _ _ => ⟨_, rfl⟩)) hge37_)) 61).trans u36_
  have u47_ : T37_ 62 o = q19_ + 1 := (hx37_ o (Nat.ne_of_lt (Nat.lt_of_lt_of_le (cw_lt hw0_.1 u28_ (fun _ _ _ => ⟨_, rfl⟩)) hge37_)) 62).trans hk27_
  have hw0_ := hw
  refine rr_63 E hK hw hnm fl_X2_21 u38_ 36 rfl dX2_init_33 (fun T48_ H locs hx48_ hj48_ hk48_ ho48_ hw => ?_)
  have hT48_ : WT T48_ := hw.1.2.1
  have hO48_ : ∀ x, ow T48_ x → κ 2 2 ≤ x := fun x h => hAc x (hw.2.1 x h)
  have hoT_ : OW T T48_ s.heap.size := OW.tr0 hoT_ ho48_
  have hR_ : ∀ b, b < sz → b ≠ o → ∀ k, T48_ k b = T k b := fun b_ h1_ h2_ k_ => (hx48_ b_ h2_ k_).trans (hR_ b_ h1_ h2_ k_)
  have u49_ : T48_ 0 o = 103 := (hj48_ 0 (by decide)).trans u38_
  have u50_ : T48_ 0 q1_ = 20 := (hx48_ q1_ (ty_ne u39_ u38_ (by decide)) 0).trans u39_
  have u51_ : T48_ 0 q7_ = 20 := (hx48_ q7_ (ty_ne u40_ u38_ (by decide)) 0).trans u40_
  have u52_ : T48_ 0 q19_ = 20 := (hx48_ q19_ (ty_ne u41_ u38_ (by decide)) 0).trans u41_
  have u53_ : T48_ 0 q37_ = 20 := (hx48_ q37_ (ty_ne tq37_ u38_ (by decide)) 0).trans tq37_
  have u54_ : T48_ 1 q1_ = 6400 := (hx48_ q1_ (ty_ne u39_ u38_ (by decide)) 1).trans u42_
  have u55_ : T48_ 1 q7_ = 96 := (hx48_ q7_ (ty_ne u40_ u38_ (by decide)) 1).trans u43_
  have u56_ : T48_ 1 q19_ = 4 := (hx48_ q19_ (ty_ne u41_ u38_ (by decide)) 1).trans u44_
  have u57_ : T48_ 1 q37_ = 24 := (hx48_ q37_ (ty_ne tq37_ u38_ (by decide)) 1).trans tl37_
  have u58_ : T48_ 60 o = q1_ + 1 := (hj48_ 60 (by decide)).trans u45_
  have u59_ : T48_ 61 o = q7_ + 1 := (hj48_ 61 (by decide)).trans u46_
  have u60_ : T48_ 62 o = q19_ + 1 := (hj48_ 62 (by decide)).trans u47_
  refine j_aload_n E 37 rfl dX2_init_36 rfl (lv_at hl 0 rfl) ?_
  refine j_iconst E 38 rfl dX2_init_37 ?_
  refine rp_64 E hK hw fl_X2_24 u49_ (rr (by decide)) 41 rfl dX2_init_38 (fun H locs hw => ?_)
  have hw : WK D cy T48_ (upV v_0 64 (upB (v_0 64) o 0)) A0 s.heap H locs := cw_eq hw (by first | rfl | (funext j_; simp only [upV, reduceIte]; (repeat' split) <;> first | rfl | omega | (subst_vars; rfl)))
  refine j_aload_n E 42 rfl dX2_init_41 rfl (lv_at hl 0 rfl) ?_
  refine j_iconst E 43 rfl dX2_init_42 ?_
  refine rp_65 E hK hw fl_X2_28 u49_ (rr (by decide)) 46 rfl dX2_init_43 (fun H locs hw => ?_)
  have hw : WK D cy T48_ (upV (upV v_0 64 (upB (v_0 64) o 0)) 65 (upB (v_0 65) o 0)) A0 s.heap H locs := cw_eq hw (by first | rfl | (funext j_; simp only [upV, reduceIte]; (repeat' split) <;> first | rfl | omega | (subst_vars; rfl)))
  refine j_aload_n E 47 rfl dX2_init_46 rfl (lv_at hl 0 rfl) ?_
  refine j_iconst E 48 rfl dX2_init_47 ?_
  refine rp_66 E hK hw fl_X2_31 u49_ (rr (by decide)) 51 rfl dX2_init_48 (fun H locs hw => ?_)
  have hw : WK D cy T48_ (upV (upV (upV v_0 64 (upB (v_0 64) o 0)) 65 (upB (v_0 65) o 0)) 66 (upB (v_0 66) o 0)) A0 s.heap H locs := cw_eq hw (by first | rfl | (funext j_; simp only [upV, reduceIte]; (repeat' split) <;> first | rfl | omega | (subst_vars; rfl)))
  have hw0_ := hw
  obtain ⟨T64_, hx64_, tq64_, xe64_60_, xe64_61_, xe64_62_, xe64_63_, ho64_, hw⟩ := pm_3 hw u49_ u58_ u50_ u54_ u59_ u51_ u55_ u60_ u52_ u56_ hk48_ u53_ u57_
  have hT64_ : WT T64_ := hw.1.2.1
  have hO64_ : ∀ x, ow T64_ x → κ 2 2 ≤ x := fun x h => hAc x (hw.2.1 x h)
  have hoT_ : OW T T64_ s.heap.size := OW.tr0 hoT_ ho64_
  have hR_ : ∀ b, b < sz → b ≠ o → ∀ k, T64_ k b = T k b := fun b_ h1_ h2_ k_ => (hx64_ b_ h2_ k_).trans (hR_ b_ h1_ h2_ k_)
  exact hret 51 T64_ (upV (upV (upV v_0 64 (upB (v_0 64) o 0)) 65 (upB (v_0 65) o 0)) 66 (upB (v_0 66) o 0)) _ _ ls _ _ hw hoT_ ⟨(upB (v_0 64) o 0), (upB (v_0 65) o 0), (upB (v_0 66) o 0), rfl, ⟨hR_, tq64_⟩⟩ (Nat.le_of_ble_eq_true rfl) (Nat.le_of_ble_eq_true rfl) dX2_init_51
set_option maxHeartbeats 4000000 in
set_option maxRecDepth 100000 in
theorem n_X4_init (l : Launch) (D : va_G) (cy : Nat → ClassId) (κ T : Nat → Nat → Nat) (v_0 : Nat → Nat → Int) (o : Nat) (sz : Nat) (hO : ∀ x, ow T x → κ 2 2 ≤ x) (t_o : T 0 o = 105) : KA l D cy κ T yX4_init cX4_init 1 none 1 3 61 [.ref o] v_0 sz (AV (fun (T_2 : Nat → Nat → Nat) (v_2 : Nat → Nat → Int) => ∃ (y103_2 : Nat → Int) , v_2 = upV v_0 103 y103_2 ∧ ((∀ b, b < sz → b ≠ o → ∀ k, T_2 k b = T k b) ∧ T_2 0 o = 5))) := by
  refine KA.ofv (by decide) (Nat.le_of_ble_eq_true rfl) hO ?_
  intro p e s m below meth c ls ar QW A0 H locs E hK hZ hA hAc hsz hnm hw hlo_ hl hret
  have hl : lv_has ls 1 [(0, .ref o)] := hl
  have hT : WT T := hw.1.2.1
  have hoT_ : OW T T s.heap.size := OW.rf T _
  have hR_ : ∀ b, b < sz → b ≠ o → ∀ k, T k b = T k b := fun b _ _ k => rfl
  refine j_aload_n E 1 rfl dX4_init_0 rfl (lv_at hl 0 rfl) ?_
  refine W.objInit E.1 E.2.1 E.2.2.2.1 (E.2.2.2.2.1 _ mo_X4_3) (E.2.2.2.2.1 _ im_ob) (E.2.2.2.2.1 _ cd_ob) rfl (by rw [E.2.2.1]; exact hl.1) rfl dX4_init_1 (Nat.le_of_ble_eq_true rfl) (Nat.le_of_ble_eq_true rfl) ?_
  show W p l e (rmd 1 3 61) s m ar below meth c H locs _ _ QW (F0 m 4 ls [])
  refine j_aload_n E 5 rfl dX4_init_4 rfl (lv_at hl 0 rfl) ?_
  refine j_iconst E 6 rfl dX4_init_5 ?_
  have hw0_ := hw
  refine n_arr20 E hK hw hA 5 (by decide) (by decide) (Nat.le_of_ble_eq_true rfl) (Nat.le_of_ble_eq_true rfl) 8 rfl dX4_init_6 (fun q1_ T1_ H hge1_ hx1_ ho1_ tq1_ tl1_ hw => ?_)
  have fq1_ : s.heap.size ≤ q1_ := Nat.le_trans hw0_.2.2.1 hge1_
  have hT1_ : WT T1_ := hw.1.2.1
  have hO1_ : ∀ x, ow T1_ x → κ 2 2 ≤ x := fun x h => hAc x (hw.2.1 x h)
  have hoT_ : OW T T1_ s.heap.size := OW.tr hw0_.2.2.1 hoT_ ho1_
  have hR_ : ∀ b, b < sz → b ≠ o → ∀ k, T1_ k b = T k b := fun b_ h1_ h2_ k_ => (hx1_ b_ (by have := hw0_.2.2.1; have := hge1_; omega) k_).trans (hR_ b_ h1_ h2_ k_)
  have u2_ : T1_ 0 o = 105 := (hx1_ o (Nat.ne_of_lt (Nat.lt_of_lt_of_le (cw_lt hw0_.1 t_o (fun _ _ _ => ⟨_, rfl⟩)) hge1_)) 0).trans t_o
  have hw0_ := hw
  refine rr_100 E hK hw hnm fl_X4_11 u2_ 11 rfl dX4_init_8 (fun T3_ H locs hx3_ hj3_ hk3_ ho3_ hw => ?_)
  have hT3_ : WT T3_ := hw.1.2.1
  have hO3_ : ∀ x, ow T3_ x → κ 2 2 ≤ x := fun x h => hAc x (hw.2.1 x h)
  have hoT_ : OW T T3_ s.heap.size := OW.tr0 hoT_ ho3_
  have hR_ : ∀ b, b < sz → b ≠ o → ∀ k, T3_ k b = T k b := fun b_ h1_ h2_ k_ => (hx3_ b_ h2_ k_).trans (hR_ b_ h1_ h2_ k_)
  have u4_ : T3_ 0 o = 105 := (hj3_ 0 (by decide)).trans u2_
  have u5_ : T3_ 0 q1_ = 20 := (hx3_ q1_ (ty_ne tq1_ u2_ (by decide)) 0).trans tq1_
  have u6_ : T3_ 1 q1_ = 5 := (hx3_ q1_ (ty_ne tq1_ u2_ (by decide)) 1).trans tl1_
  refine j_aload_n E 12 rfl dX4_init_11 rfl (lv_at hl 0 rfl) ?_
  refine j_bipush E 14 rfl dX4_init_12 (by decide) ?_
  have hw0_ := hw
  refine n_arr20 E hK hw hA 24 (by decide) (by decide) (Nat.le_of_ble_eq_true rfl) (Nat.le_of_ble_eq_true rfl) 16 rfl dX4_init_14 (fun q7_ T7_ H hge7_ hx7_ ho7_ tq7_ tl7_ hw => ?_)
  have fq7_ : s.heap.size ≤ q7_ := Nat.le_trans hw0_.2.2.1 hge7_
  have hT7_ : WT T7_ := hw.1.2.1
  have hO7_ : ∀ x, ow T7_ x → κ 2 2 ≤ x := fun x h => hAc x (hw.2.1 x h)
  have hoT_ : OW T T7_ s.heap.size := OW.tr hw0_.2.2.1 hoT_ ho7_
  have hR_ : ∀ b, b < sz → b ≠ o → ∀ k, T7_ k b = T k b := fun b_ h1_ h2_ k_ => (hx7_ b_ (by have := hw0_.2.2.1; have := hge7_; omega) k_).trans (hR_ b_ h1_ h2_ k_)
  have u8_ : T7_ 0 o = 105 := (hx7_ o (Nat.ne_of_lt (Nat.lt_of_lt_of_le (cw_lt hw0_.1 u4_ (fun _ _ _ => ⟨_, rfl⟩)) hge7_)) 0).trans u4_
  have u9_ : T7_ 0 q1_ = 20 := (hx7_ q1_ (Nat.ne_of_lt (Nat.lt_of_lt_of_le (cw_lt hw0_.1 u5_ (fun _ _ _ => ⟨_, rfl⟩)) hge7_)) 0).trans u5_
  have u10_ : T7_ 1 q1_ = 5 := (hx7_ q1_ (Nat.ne_of_lt (Nat.lt_of_lt_of_le (cw_lt hw0_.1 u5_ (fun _ _ _ => ⟨_, rfl⟩)) hge7_)) 1).trans u6_
  have u11_ : T7_ 100 o = q1_ + 1 := (hx7_ o (Nat.ne_of_lt (Nat.lt_of_lt_of_le (cw_lt hw0_.1 u4_ (fun _ _ _ => ⟨_, rfl⟩)) hge7_)) 100).trans hk3_
  have hw0_ := hw
  refine rr_101 E hK hw hnm fl_X4_17 u8_ 19 rfl dX4_init_16 (fun T12_ H locs hx12_ hj12_ hk12_ ho12_ hw => ?_)
  have hT12_ : WT T12_ := hw.1.2.1
  have hO12_ : ∀ x, ow T12_ x → κ 2 2 ≤ x := fun x h => hAc x (hw.2.1 x h)
  have hoT_ : OW T T12_ s.heap.size := OW.tr0 hoT_ ho12_
  have hR_ : ∀ b, b < sz → b ≠ o → ∀ k, T12_ k b = T k b := fun b_ h1_ h2_ k_ => (hx12_ b_ h2_ k_).trans (hR_ b_ h1_ h2_ k_)
  have u13_ : T12_ 0 o = 105 := (hj12_ 0 (by decide)).trans u8_
  have u14_ : T12_ 0 q1_ = 20 := (hx12_ q1_ (ty_ne u9_ u8_ (by decide)) 0).trans u9_
  have u15_ : T12_ 0 q7_ = 20 := (hx12_ q7_ (ty_ne tq7_ u8_ (by decide)) 0).trans tq7_
  have u16_ : T12_ 1 q1_ = 5 := (hx12_ q1_ (ty_ne u9_ u8_ (by decide)) 1).trans u10_
  have u17_ : T12_ 1 q7_ = 24 := (hx12_ q7_ (ty_ne tq7_ u8_ (by decide)) 1).trans tl7_
  have u18_ : T12_ 100 o = q1_ + 1 := (hj12_ 100 (by decide)).trans u11_
  refine j_aload_n E 20 rfl dX4_init_19 rfl (lv_at hl 0 rfl) ?_
  refine j_bipush E 22 rfl dX4_init_20 (by decide) ?_
  have hw0_ := hw
  refine n_arr20 E hK hw hA 32 (by decide) (by decide) (Nat.le_of_ble_eq_true rfl) (Nat.le_of_ble_eq_true rfl) 24 rfl dX4_init_22 (fun q19_ T19_ H hge19_ hx19_ ho19_ tq19_ tl19_ hw => ?_)
  have fq19_ : s.heap.size ≤ q19_ := Nat.le_trans hw0_.2.2.1 hge19_
  have hT19_ : WT T19_ := hw.1.2.1
  have hO19_ : ∀ x, ow T19_ x → κ 2 2 ≤ x := fun x h => hAc x (hw.2.1 x h)
  have hoT_ : OW T T19_ s.heap.size := OW.tr hw0_.2.2.1 hoT_ ho19_
  have hR_ : ∀ b, b < sz → b ≠ o → ∀ k, T19_ k b = T k b := fun b_ h1_ h2_ k_ => (hx19_ b_ (by have := hw0_.2.2.1; have := hge19_; omega) k_).trans (hR_ b_ h1_ h2_ k_)
  have u20_ : T19_ 0 o = 105 := (hx19_ o (Nat.ne_of_lt (Nat.lt_of_lt_of_le (cw_lt hw0_.1 u13_ (fun _ _ _ => ⟨_, rfl⟩)) hge19_)) 0).trans u13_
  have u21_ : T19_ 0 q1_ = 20 := (hx19_ q1_ (Nat.ne_of_lt (Nat.lt_of_lt_of_le (cw_lt hw0_.1 u14_ (fun _ _ _ => ⟨_, rfl⟩)) hge19_)) 0).trans u14_
  have u22_ : T19_ 0 q7_ = 20 := (hx19_ q7_ (Nat.ne_of_lt (Nat.lt_of_lt_of_le (cw_lt hw0_.1 u15_ (fun _ _ _ => ⟨_, rfl⟩)) hge19_)) 0).trans u15_
  have u23_ : T19_ 1 q1_ = 5 := (hx19_ q1_ (Nat.ne_of_lt (Nat.lt_of_lt_of_le (cw_lt hw0_.1 u14_ (fun _ _ _ => ⟨_, rfl⟩)) hge19_)) 1).trans u16_
  have u24_ : T19_ 1 q7_ = 24 := (hx19_ q7_ (Nat.ne_of_lt (Nat.lt_of_lt_of_le (cw_lt hw0_.1 u15_ (fun _ _ _ => ⟨_, rfl⟩)) hge19_)) 1).trans u17_
  have u25_ : T19_ 100 o = q1_ + 1 := (hx19_ o (Nat.ne_of_lt (Nat.lt_of_lt_of_le (cw_lt hw0_.1 u13_ (fun _ _ _ => ⟨_, rfl⟩)) hge19_)) 100).trans u18_
  have u26_ : T19_ 101 o = q7_ + 1 := (hx19_ o (Nat.ne_of_lt (Nat.lt_of_lt_of_le (cw_lt hw0_.1 u13_ (fun _ _ _ => ⟨_, rfl⟩)) hge19_)) 101).trans hk12_
  have hw0_ := hw
  refine rr_102 E hK hw hnm fl_X4_20 u20_ 27 rfl dX4_init_24 (fun T27_ H locs hx27_ hj27_ hk27_ ho27_ hw => ?_)
  have hT27_ : WT T27_ := hw.1.2.1
  have hO27_ : ∀ x, ow T27_ x → κ 2 2 ≤ x := fun x h => hAc x (hw.2.1 x h)
  have hoT_ : OW T T27_ s.heap.size := OW.tr0 hoT_ ho27_
  have hR_ : ∀ b, b < sz → b ≠ o → ∀ k, T27_ k b = T k b := fun b_ h1_ h2_ k_ => (hx27_ b_ h2_ k_).trans (hR_ b_ h1_ h2_ k_)
  have u28_ : T27_ 0 o = 105 := (hj27_ 0 (by decide)).trans u20_
  have u29_ : T27_ 0 q1_ = 20 := (hx27_ q1_ (ty_ne u21_ u20_ (by decide)) 0).trans u21_
  have u30_ : T27_ 0 q7_ = 20 := (hx27_ q7_ (ty_ne u22_ u20_ (by decide)) 0).trans u22_
  have u31_ : T27_ 0 q19_ = 20 := (hx27_ q19_ (ty_ne tq19_ u20_ (by decide)) 0).trans tq19_
  have u32_ : T27_ 1 q1_ = 5 := (hx27_ q1_ (ty_ne u21_ u20_ (by decide)) 1).trans u23_
  have u33_ : T27_ 1 q7_ = 24 := (hx27_ q7_ (ty_ne u22_ u20_ (by decide)) 1).trans u24_
  have u34_ : T27_ 1 q19_ = 32 := (hx27_ q19_ (ty_ne tq19_ u20_ (by decide)) 1).trans tl19_
  have u35_ : T27_ 100 o = q1_ + 1 := (hj27_ 100 (by decide)).trans u25_
  have u36_ : T27_ 101 o = q7_ + 1 := (hj27_ 101 (by decide)).trans u26_
  refine j_aload_n E 28 rfl dX4_init_27 rfl (lv_at hl 0 rfl) ?_
  refine j_iconst E 29 rfl dX4_init_28 ?_
  refine rp_103 E hK hw fl_X4_23 u28_ (rr (by decide)) 32 rfl dX4_init_29 (fun H locs hw => ?_)
  have hw : WK D cy T27_ (upV v_0 103 (upB (v_0 103) o 0)) A0 s.heap H locs := cw_eq hw (by first | rfl | (funext j_; simp only [upV, reduceIte]; (repeat' split) <;> first | rfl | omega | (subst_vars; rfl)))
  have hw0_ := hw
  obtain ⟨T38_, hx38_, tq38_, xe38_100_, xe38_101_, xe38_102_, ho38_, hw⟩ := pm_5 hw u28_ u35_ u29_ u32_ u36_ u30_ u33_ hk27_ u31_ u34_
  have hT38_ : WT T38_ := hw.1.2.1
  have hO38_ : ∀ x, ow T38_ x → κ 2 2 ≤ x := fun x h => hAc x (hw.2.1 x h)
  have hoT_ : OW T T38_ s.heap.size := OW.tr0 hoT_ ho38_
  have hR_ : ∀ b, b < sz → b ≠ o → ∀ k, T38_ k b = T k b := fun b_ h1_ h2_ k_ => (hx38_ b_ h2_ k_).trans (hR_ b_ h1_ h2_ k_)
  exact hret 32 T38_ (upV v_0 103 (upB (v_0 103) o 0)) _ _ ls _ _ hw hoT_ ⟨(upB (v_0 103) o 0), rfl, ⟨hR_, tq38_⟩⟩ (Nat.le_of_ble_eq_true rfl) (Nat.le_of_ble_eq_true rfl) dX4_init_32
set_option maxHeartbeats 4000000 in
set_option maxRecDepth 100000 in
theorem n_X5_init (l : Launch) (D : va_G) (cy : Nat → ClassId) (κ T : Nat → Nat → Nat) (v_0 : Nat → Nat → Int) (o : Nat) (sz : Nat) (hO : ∀ x, ow T x → κ 2 2 ≤ x) (t_o : T 0 o = 106) : KA l D cy κ T yX5_init cX5_init 1 none 1 3 1200 [.ref o] v_0 sz (AV (fun (T_2 : Nat → Nat → Nat) (v_2 : Nat → Nat → Int) => ∃ (y123_2 : Nat → Int) (y124_2 : Nat → Int) , v_2 = upV (upV v_0 123 y123_2) 124 y124_2 ∧ ((∀ b, b < sz → b ≠ o → ∀ k, T_2 k b = T k b) ∧ T_2 0 o = 6))) := by
  refine KA.ofv (by decide) (Nat.le_of_ble_eq_true rfl) hO ?_
  intro p e s m below meth c ls ar QW A0 H locs E hK hZ hA hAc hsz hnm hw hlo_ hl hret
  have hl : lv_has ls 1 [(0, .ref o)] := hl
  have hT : WT T := hw.1.2.1
  have hoT_ : OW T T s.heap.size := OW.rf T _
  have hR_ : ∀ b, b < sz → b ≠ o → ∀ k, T k b = T k b := fun b _ _ k => rfl
  refine j_aload_n E 1 rfl dX5_init_0 rfl (lv_at hl 0 rfl) ?_
  refine W.objInit E.1 E.2.1 E.2.2.2.1 (E.2.2.2.2.1 _ mo_X5_3) (E.2.2.2.2.1 _ im_ob) (E.2.2.2.2.1 _ cd_ob) rfl (by rw [E.2.2.1]; exact hl.1) rfl dX5_init_1 (Nat.le_of_ble_eq_true rfl) (Nat.le_of_ble_eq_true rfl) ?_
  show W p l e (rmd 1 3 1200) s m ar below meth c H locs _ _ QW (F0 m 4 ls [])
  refine j_aload_n E 5 rfl dX5_init_4 rfl (lv_at hl 0 rfl) ?_
  refine j_sipush E 8 rfl dX5_init_5 (by decide) ?_
  have hw0_ := hw
  refine n_arr20 E hK hw hA 400 (by decide) (by decide) (Nat.le_of_ble_eq_true rfl) (Nat.le_of_ble_eq_true rfl) 10 rfl dX5_init_8 (fun q1_ T1_ H hge1_ hx1_ ho1_ tq1_ tl1_ hw => ?_)
  have fq1_ : s.heap.size ≤ q1_ := Nat.le_trans hw0_.2.2.1 hge1_
  have hT1_ : WT T1_ := hw.1.2.1
  have hO1_ : ∀ x, ow T1_ x → κ 2 2 ≤ x := fun x h => hAc x (hw.2.1 x h)
  have hoT_ : OW T T1_ s.heap.size := OW.tr hw0_.2.2.1 hoT_ ho1_
  have hR_ : ∀ b, b < sz → b ≠ o → ∀ k, T1_ k b = T k b := fun b_ h1_ h2_ k_ => (hx1_ b_ (by have := hw0_.2.2.1; have := hge1_; omega) k_).trans (hR_ b_ h1_ h2_ k_)
  have u2_ : T1_ 0 o = 106 := (hx1_ o (Nat.ne_of_lt (Nat.lt_of_lt_of_le (cw_lt hw0_.1 t_o (fun _ _ _ => ⟨_, rfl⟩)) hge1_)) 0).trans t_o
  have hw0_ := hw
  refine rr_120 E hK hw hnm fl_X5_9 u2_ 13 rfl dX5_init_10 (fun T3_ H locs hx3_ hj3_ hk3_ ho3_ hw => ?_)
  have hT3_ : WT T3_ := hw.1.2.1
  have hO3_ : ∀ x, ow T3_ x → κ 2 2 ≤ x := fun x h => hAc x (hw.2.1 x h)
  have hoT_ : OW T T3_ s.heap.size := OW.tr0 hoT_ ho3_
  have hR_ : ∀ b, b < sz → b ≠ o → ∀ k, T3_ k b = T k b := fun b_ h1_ h2_ k_ => (hx3_ b_ h2_ k_).trans (hR_ b_ h1_ h2_ k_)
  have u4_ : T3_ 0 o = 106 := (hj3_ 0 (by decide)).trans u2_
  have u5_ : T3_ 0 q1_ = 20 := (hx3_ q1_ (ty_ne tq1_ u2_ (by decide)) 0).trans tq1_
  have u6_ : T3_ 1 q1_ = 400 := (hx3_ q1_ (ty_ne tq1_ u2_ (by decide)) 1).trans tl1_
  refine j_aload_n E 14 rfl dX5_init_13 rfl (lv_at hl 0 rfl) ?_
  refine j_sipush E 17 rfl dX5_init_14 (by decide) ?_
  have hw0_ := hw
  refine n_arr20 E hK hw hA 400 (by decide) (by decide) (Nat.le_of_ble_eq_true rfl) (Nat.le_of_ble_eq_true rfl) 19 rfl dX5_init_17 (fun q7_ T7_ H hge7_ hx7_ ho7_ tq7_ tl7_ hw => ?_)
  have fq7_ : s.heap.size ≤ q7_ := Nat.le_trans hw0_.2.2.1 hge7_
  have hT7_ : WT T7_ := hw.1.2.1
  have hO7_ : ∀ x, ow T7_ x → κ 2 2 ≤ x := fun x h => hAc x (hw.2.1 x h)
  have hoT_ : OW T T7_ s.heap.size := OW.tr hw0_.2.2.1 hoT_ ho7_
  have hR_ : ∀ b, b < sz → b ≠ o → ∀ k, T7_ k b = T k b := fun b_ h1_ h2_ k_ => (hx7_ b_ (by have := hw0_.2.2.1; have := hge7_; omega) k_).trans (hR_ b_ h1_ h2_ k_)
  have u8_ : T7_ 0 o = 106 := (hx7_ o (Nat.ne_of_lt (Nat.lt_of_lt_of_le (cw_lt hw0_.1 u4_ (fun _ _ _ => ⟨_, rfl⟩)) hge7_)) 0).trans u4_
  have u9_ : T7_ 0 q1_ = 20 := (hx7_ q1_ (Nat.ne_of_lt (Nat.lt_of_lt_of_le (cw_lt hw0_.1 u5_ (fun _ _ _ => ⟨_, rfl⟩)) hge7_)) 0).trans u5_
  have u10_ : T7_ 1 q1_ = 400 := (hx7_ q1_ (Nat.ne_of_lt (Nat.lt_of_lt_of_le (cw_lt hw0_.1 u5_ (fun _ _ _ => ⟨_, rfl⟩)) hge7_)) 1).trans u6_
  have u11_ : T7_ 120 o = q1_ + 1 := (hx7_ o (Nat.ne_of_lt (Nat.lt_of_lt_of_le (cw_lt hw0_.1 u4_ (fun _ _ _ => ⟨_, rfl⟩)) hge7_)) 120).trans hk3_
  have hw0_ := hw
  refine rr_121 E hK hw hnm fl_X5_15 u8_ 22 rfl dX5_init_19 (fun T12_ H locs hx12_ hj12_ hk12_ ho12_ hw => ?_)
  have hT12_ : WT T12_ := hw.1.2.1
  have hO12_ : ∀ x, ow T12_ x → κ 2 2 ≤ x := fun x h => hAc x (hw.2.1 x h)
  have hoT_ : OW T T12_ s.heap.size := OW.tr0 hoT_ ho12_
  have hR_ : ∀ b, b < sz → b ≠ o → ∀ k, T12_ k b = T k b := fun b_ h1_ h2_ k_ => (hx12_ b_ h2_ k_).trans (hR_ b_ h1_ h2_ k_)
  have u13_ : T12_ 0 o = 106 := (hj12_ 0 (by decide)).trans u8_
  have u14_ : T12_ 0 q1_ = 20 := (hx12_ q1_ (ty_ne u9_ u8_ (by decide)) 0).trans u9_
  have u15_ : T12_ 0 q7_ = 20 := (hx12_ q7_ (ty_ne tq7_ u8_ (by decide)) 0).trans tq7_
  have u16_ : T12_ 1 q1_ = 400 := (hx12_ q1_ (ty_ne u9_ u8_ (by decide)) 1).trans u10_
  have u17_ : T12_ 1 q7_ = 400 := (hx12_ q7_ (ty_ne tq7_ u8_ (by decide)) 1).trans tl7_
  have u18_ : T12_ 120 o = q1_ + 1 := (hj12_ 120 (by decide)).trans u11_
  refine j_aload_n E 23 rfl dX5_init_22 rfl (lv_at hl 0 rfl) ?_
  refine j_sipush E 26 rfl dX5_init_23 (by decide) ?_
  have hw0_ := hw
  refine n_arr20 E hK hw hA 400 (by decide) (by decide) (Nat.le_of_ble_eq_true rfl) (Nat.le_of_ble_eq_true rfl) 28 rfl dX5_init_26 (fun q19_ T19_ H hge19_ hx19_ ho19_ tq19_ tl19_ hw => ?_)
  have fq19_ : s.heap.size ≤ q19_ := Nat.le_trans hw0_.2.2.1 hge19_
  have hT19_ : WT T19_ := hw.1.2.1
  have hO19_ : ∀ x, ow T19_ x → κ 2 2 ≤ x := fun x h => hAc x (hw.2.1 x h)
  have hoT_ : OW T T19_ s.heap.size := OW.tr hw0_.2.2.1 hoT_ ho19_
  have hR_ : ∀ b, b < sz → b ≠ o → ∀ k, T19_ k b = T k b := fun b_ h1_ h2_ k_ => (hx19_ b_ (by have := hw0_.2.2.1; have := hge19_; omega) k_).trans (hR_ b_ h1_ h2_ k_)
  have u20_ : T19_ 0 o = 106 := (hx19_ o (Nat.ne_of_lt (Nat.lt_of_lt_of_le (cw_lt hw0_.1 u13_ (fun _ _ _ => ⟨_, rfl⟩)) hge19_)) 0).trans u13_
  have u21_ : T19_ 0 q1_ = 20 := (hx19_ q1_ (Nat.ne_of_lt (Nat.lt_of_lt_of_le (cw_lt hw0_.1 u14_ (fun _ _ _ => ⟨_, rfl⟩)) hge19_)) 0).trans u14_
  have u22_ : T19_ 0 q7_ = 20 := (hx19_ q7_ (Nat.ne_of_lt (Nat.lt_of_lt_of_le (cw_lt hw0_.1 u15_ (fun _ _ _ => ⟨_, rfl⟩)) hge19_)) 0).trans u15_
  have u23_ : T19_ 1 q1_ = 400 := (hx19_ q1_ (Nat.ne_of_lt (Nat.lt_of_lt_of_le (cw_lt hw0_.1 u14_ (fun _ _ _ => ⟨_, rfl⟩)) hge19_)) 1).trans u16_
  have u24_ : T19_ 1 q7_ = 400 := (hx19_ q7_ (Nat.ne_of_lt (Nat.lt_of_lt_of_le (cw_lt hw0_.1 u15_ (fun _ _ _ => ⟨_, rfl⟩)) hge19_)) 1).trans u17_
  have u25_ : T19_ 120 o = q1_ + 1 := (hx19_ o (Nat.ne_of_lt (Nat.lt_of_lt_of_le (cw_lt hw0_.1 u13_ (fun _ _ _ => ⟨_, rfl⟩)) hge19_)) 120).trans u18_
  have u26_ : T19_ 121 o = q7_ + 1 := (hx19_ o (Nat.ne_of_lt (Nat.lt_of_lt_of_le (cw_lt hw0_.1 u13_ (fun _ _ _ => ⟨_, rfl⟩)) hge19_)) 121).trans hk12_
  have hw0_ := hw
  refine rr_122 E hK hw hnm fl_X5_18 u20_ 31 rfl dX5_init_28 (fun T27_ H locs hx27_ hj27_ hk27_ ho27_ hw => ?_)
  have hT27_ : WT T27_ := hw.1.2.1
  have hO27_ : ∀ x, ow T27_ x → κ 2 2 ≤ x := fun x h => hAc x (hw.2.1 x h)
  have hoT_ : OW T T27_ s.heap.size := OW.tr0 hoT_ ho27_
  have hR_ : ∀ b, b < sz → b ≠ o → ∀ k, T27_ k b = T k b := fun b_ h1_ h2_ k_ => (hx27_ b_ h2_ k_).trans (hR_ b_ h1_ h2_ k_)
  have u28_ : T27_ 0 o = 106 := (hj27_ 0 (by decide)).trans u20_
  have u29_ : T27_ 0 q1_ = 20 := (hx27_ q1_ (ty_ne u21_ u20_ (by decide)) 0).trans u21_
  have u30_ : T27_ 0 q7_ = 20 := (hx27_ q7_ (ty_ne u22_ u20_ (by decide)) 0).trans u22_
  have u31_ : T27_ 0 q19_ = 20 := (hx27_ q19_ (ty_ne tq19_ u20_ (by decide)) 0).trans tq19_
  have u32_ : T27_ 1 q1_ = 400 := (hx27_ q1_ (ty_ne u21_ u20_ (by decide)) 1).trans u23_
  have u33_ : T27_ 1 q7_ = 400 := (hx27_ q7_ (ty_ne u22_ u20_ (by decide)) 1).trans u24_
  have u34_ : T27_ 1 q19_ = 400 := (hx27_ q19_ (ty_ne tq19_ u20_ (by decide)) 1).trans tl19_
  have u35_ : T27_ 120 o = q1_ + 1 := (hj27_ 120 (by decide)).trans u25_
  have u36_ : T27_ 121 o = q7_ + 1 := (hj27_ 121 (by decide)).trans u26_
  refine j_aload_n E 32 rfl dX5_init_31 rfl (lv_at hl 0 rfl) ?_
  refine j_iconst E 33 rfl dX5_init_32 ?_
  refine rp_123 E hK hw fl_X5_21 u28_ (rr (by decide)) 36 rfl dX5_init_33 (fun H locs hw => ?_)
  have hw : WK D cy T27_ (upV v_0 123 (upB (v_0 123) o 0)) A0 s.heap H locs := cw_eq hw (by first | rfl | (funext j_; simp only [upV, reduceIte]; (repeat' split) <;> first | rfl | omega | (subst_vars; rfl)))
  refine j_aload_n E 37 rfl dX5_init_36 rfl (lv_at hl 0 rfl) ?_
  refine j_iconst E 38 rfl dX5_init_37 ?_
  refine rp_124 E hK hw fl_X5_25 u28_ (rr (by decide)) 41 rfl dX5_init_38 (fun H locs hw => ?_)
  have hw : WK D cy T27_ (upV (upV v_0 123 (upB (v_0 123) o 0)) 124 (upB (v_0 124) o 0)) A0 s.heap H locs := cw_eq hw (by first | rfl | (funext j_; simp only [upV, reduceIte]; (repeat' split) <;> first | rfl | omega | (subst_vars; rfl)))
  have hw0_ := hw
  obtain ⟨T39_, hx39_, tq39_, xe39_120_, xe39_121_, xe39_122_, ho39_, hw⟩ := pm_6 hw u28_ u35_ u29_ u32_ u36_ u30_ u33_ hk27_ u31_ u34_
  have hT39_ : WT T39_ := hw.1.2.1
  have hO39_ : ∀ x, ow T39_ x → κ 2 2 ≤ x := fun x h => hAc x (hw.2.1 x h)
  have hoT_ : OW T T39_ s.heap.size := OW.tr0 hoT_ ho39_
  have hR_ : ∀ b, b < sz → b ≠ o → ∀ k, T39_ k b = T k b := fun b_ h1_ h2_ k_ => (hx39_ b_ h2_ k_).trans (hR_ b_ h1_ h2_ k_)
  exact hret 41 T39_ (upV (upV v_0 123 (upB (v_0 123) o 0)) 124 (upB (v_0 124) o 0)) _ _ ls _ _ hw hoT_ ⟨(upB (v_0 123) o 0), (upB (v_0 124) o 0), rfl, ⟨hR_, tq39_⟩⟩ (Nat.le_of_ble_eq_true rfl) (Nat.le_of_ble_eq_true rfl) dX5_init_41
set_option maxHeartbeats 4000000 in
set_option maxRecDepth 100000 in
theorem n_X6_init (l : Launch) (D : va_G) (cy : Nat → ClassId) (κ T : Nat → Nat → Nat) (v_0 : Nat → Nat → Int) (o : Nat) (v_a : Int) (v_b : Int) (v_c : Int) (v_d : Int) (v_e : Int) (v_f : Int) (sz : Nat) (hO : ∀ x, ow T x → κ 2 2 ≤ x) (t_o : T 0 o = 107) (r_v_a : inR v_a) (r_v_b : inR v_b) (r_v_c : inR v_c) (r_v_d : inR v_d) (r_v_e : inR v_e) (r_v_f : inR v_f) : KA l D cy κ T yX6_init cX6_init 7 none 1 0 0 [.ref o, .int (J v_a), .int (J v_b), .int (J v_c), .int (J v_d), .int (J v_e), .int (J v_f)] v_0 sz (AV (fun (T_2 : Nat → Nat → Nat) (v_2 : Nat → Nat → Int) => ∃ (y140_2 : Nat → Int) (y141_2 : Nat → Int) (y142_2 : Nat → Int) (y143_2 : Nat → Int) (y144_2 : Nat → Int) (y145_2 : Nat → Int) (y146_2 : Nat → Int) , v_2 = upV (upV (upV (upV (upV (upV (upV v_0 140 y140_2) 141 y141_2) 142 y142_2) 143 y143_2) 144 y144_2) 145 y145_2) 146 y146_2 ∧ ((∀ b, b < sz → b ≠ o → ∀ k, T_2 k b = T k b) ∧ T_2 0 o = 7))) := by
  refine KA.ofv (by decide) (Nat.le_of_ble_eq_true rfl) hO ?_
  intro p e s m below meth c ls ar QW A0 H locs E hK hZ hA hAc hsz hnm hw hlo_ hl hret
  have hl : lv_has ls 7 [(0, .ref o), (1, .int (J v_a)), (2, .int (J v_b)), (3, .int (J v_c)), (4, .int (J v_d)), (5, .int (J v_e)), (6, .int (J v_f))] := hl
  have hT : WT T := hw.1.2.1
  have hoT_ : OW T T s.heap.size := OW.rf T _
  have hR_ : ∀ b, b < sz → b ≠ o → ∀ k, T k b = T k b := fun b _ _ k => rfl
  refine j_aload_n E 1 rfl dX6_init_0 rfl (lv_at hl 0 rfl) ?_
  refine W.objInit E.1 E.2.1 E.2.2.2.1 (E.2.2.2.2.1 _ mo_X6_3) (E.2.2.2.2.1 _ im_ob) (E.2.2.2.2.1 _ cd_ob) rfl (by rw [E.2.2.1]; exact hl.1) rfl dX6_init_1 (Nat.le_of_ble_eq_true rfl) (Nat.le_of_ble_eq_true rfl) ?_
  show W p l e (rmd 1 0 0) s m ar below meth c H locs _ _ QW (F0 m 4 ls [])
  refine j_aload_n E 5 rfl dX6_init_4 rfl (lv_at hl 0 rfl) ?_
  refine j_iconst E 6 rfl dX6_init_5 ?_
  refine rp_146 E hK hw fl_X6_9 t_o (rr (by decide)) (Or.inl rfl) 9 rfl dX6_init_6 (fun H locs hw => ?_)
  have hw : WK D cy T (upV v_0 146 (upB (v_0 146) o 0)) A0 s.heap H locs := cw_eq hw (by first | rfl | (funext j_; simp only [upV, reduceIte]; (repeat' split) <;> first | rfl | omega | (subst_vars; rfl)))
  refine j_aload_n E 10 rfl dX6_init_9 rfl (lv_at hl 0 rfl) ?_
  refine j_iload_n E 11 rfl dX6_init_10 rfl (lv_at hl 1 rfl) ?_
  refine rp_140 E hK hw hnm fl_X6_15 t_o r_v_a 14 rfl dX6_init_11 (fun H locs hw => ?_)
  have hw : WK D cy T (upV (upV v_0 140 (upB (v_0 140) o v_a)) 146 (upB (v_0 146) o 0)) A0 s.heap H locs := cw_eq hw (by first | rfl | (funext j_; simp only [upV, reduceIte]; (repeat' split) <;> first | rfl | omega | (subst_vars; rfl)))
  refine j_aload_n E 15 rfl dX6_init_14 rfl (lv_at hl 0 rfl) ?_
  refine j_iload_n E 16 rfl dX6_init_15 rfl (lv_at hl 2 rfl) ?_
  refine rp_141 E hK hw hnm fl_X6_19 t_o r_v_b 19 rfl dX6_init_16 (fun H locs hw => ?_)
  have hw : WK D cy T (upV (upV (upV v_0 140 (upB (v_0 140) o v_a)) 141 (upB (v_0 141) o v_b)) 146 (upB (v_0 146) o 0)) A0 s.heap H locs := cw_eq hw (by first | rfl | (funext j_; simp only [upV, reduceIte]; (repeat' split) <;> first | rfl | omega | (subst_vars; rfl)))
  refine j_aload_n E 20 rfl dX6_init_19 rfl (lv_at hl 0 rfl) ?_
  refine j_iload_n E 21 rfl dX6_init_20 rfl (lv_at hl 3 rfl) ?_
  refine rp_142 E hK hw hnm fl_X6_22 t_o r_v_c 24 rfl dX6_init_21 (fun H locs hw => ?_)
  have hw : WK D cy T (upV (upV (upV (upV v_0 140 (upB (v_0 140) o v_a)) 141 (upB (v_0 141) o v_b)) 142 (upB (v_0 142) o v_c)) 146 (upB (v_0 146) o 0)) A0 s.heap H locs := cw_eq hw (by first | rfl | (funext j_; simp only [upV, reduceIte]; (repeat' split) <;> first | rfl | omega | (subst_vars; rfl)))
  refine j_aload_n E 25 rfl dX6_init_24 rfl (lv_at hl 0 rfl) ?_
  refine j_iload E 27 rfl dX6_init_25 (lv_at hl 4 rfl) ?_
  refine rp_143 E hK hw hnm fl_X6_25 t_o r_v_d 30 rfl dX6_init_27 (fun H locs hw => ?_)
  have hw : WK D cy T (upV (upV (upV (upV (upV v_0 140 (upB (v_0 140) o v_a)) 141 (upB (v_0 141) o v_b)) 142 (upB (v_0 142) o v_c)) 143 (upB (v_0 143) o v_d)) 146 (upB (v_0 146) o 0)) A0 s.heap H locs := cw_eq hw (by first | rfl | (funext j_; simp only [upV, reduceIte]; (repeat' split) <;> first | rfl | omega | (subst_vars; rfl)))
  refine j_aload_n E 31 rfl dX6_init_30 rfl (lv_at hl 0 rfl) ?_
  refine j_iload E 33 rfl dX6_init_31 (lv_at hl 5 rfl) ?_
  refine rp_144 E hK hw hnm fl_X6_28 t_o r_v_e 36 rfl dX6_init_33 (fun H locs hw => ?_)
  have hw : WK D cy T (upV (upV (upV (upV (upV (upV v_0 140 (upB (v_0 140) o v_a)) 141 (upB (v_0 141) o v_b)) 142 (upB (v_0 142) o v_c)) 143 (upB (v_0 143) o v_d)) 144 (upB (v_0 144) o v_e)) 146 (upB (v_0 146) o 0)) A0 s.heap H locs := cw_eq hw (by first | rfl | (funext j_; simp only [upV, reduceIte]; (repeat' split) <;> first | rfl | omega | (subst_vars; rfl)))
  refine j_aload_n E 37 rfl dX6_init_36 rfl (lv_at hl 0 rfl) ?_
  refine j_iload E 39 rfl dX6_init_37 (lv_at hl 6 rfl) ?_
  refine rp_145 E hK hw hnm fl_X6_31 t_o r_v_f 42 rfl dX6_init_39 (fun H locs hw => ?_)
  have hw : WK D cy T (upV (upV (upV (upV (upV (upV (upV v_0 140 (upB (v_0 140) o v_a)) 141 (upB (v_0 141) o v_b)) 142 (upB (v_0 142) o v_c)) 143 (upB (v_0 143) o v_d)) 144 (upB (v_0 144) o v_e)) 145 (upB (v_0 145) o v_f)) 146 (upB (v_0 146) o 0)) A0 s.heap H locs := cw_eq hw (by first | rfl | (funext j_; simp only [upV, reduceIte]; (repeat' split) <;> first | rfl | omega | (subst_vars; rfl)))
  have hw0_ := hw
  obtain ⟨T8_, hx8_, tq8_, ho8_, hw⟩ := pm_7 hw t_o 
  have hT8_ : WT T8_ := hw.1.2.1
  have hO8_ : ∀ x, ow T8_ x → κ 2 2 ≤ x := fun x h => hAc x (hw.2.1 x h)
  have hoT_ : OW T T8_ s.heap.size := OW.tr0 hoT_ ho8_
  have hR_ : ∀ b, b < sz → b ≠ o → ∀ k, T8_ k b = T k b := fun b_ h1_ h2_ k_ => (hx8_ b_ h2_ k_).trans (hR_ b_ h1_ h2_ k_)
  exact hret 42 T8_ (upV (upV (upV (upV (upV (upV (upV v_0 140 (upB (v_0 140) o v_a)) 141 (upB (v_0 141) o v_b)) 142 (upB (v_0 142) o v_c)) 143 (upB (v_0 143) o v_d)) 144 (upB (v_0 144) o v_e)) 145 (upB (v_0 145) o v_f)) 146 (upB (v_0 146) o 0)) _ _ ls _ _ hw hoT_ ⟨(upB (v_0 140) o v_a), (upB (v_0 141) o v_b), (upB (v_0 142) o v_c), (upB (v_0 143) o v_d), (upB (v_0 144) o v_e), (upB (v_0 145) o v_f), (upB (v_0 146) o 0), rfl, ⟨hR_, tq8_⟩⟩ (Nat.le_of_ble_eq_true rfl) (Nat.le_of_ble_eq_true rfl) dX6_init_42
set_option maxHeartbeats 4000000 in
set_option maxRecDepth 100000 in
theorem n_X3_init (l : Launch) (D : va_G) (cy : Nat → ClassId) (κ T : Nat → Nat → Nat) (v_0 : Nat → Nat → Int) (o : Nat) (sz : Nat) (hO : ∀ x, ow T x → κ 2 2 ≤ x) (t_o : T 0 o = 104) : KA l D cy κ T yX3_init cX3_init 1 none 2 5 1605 [.ref o] v_0 sz (AV (fun (T_2 : Nat → Nat → Nat) (v_2 : Nat → Nat → Int) => ∃ (y80_2 : Nat → Int) (y81_2 : Nat → Int) (y83_2 : Nat → Int) (y84_2 : Nat → Int) (y86_2 : Nat → Int) (y123_2 : Nat → Int) (y124_2 : Nat → Int) , v_2 = upV (upV (upV (upV (upV (upV (upV v_0 80 y80_2) 81 y81_2) 83 y83_2) 84 y84_2) 86 y86_2) 123 y123_2) 124 y124_2 ∧ ((∀ b, b < sz → b ≠ o → ∀ k, T_2 k b = T k b) ∧ T_2 0 o = 4))) := by
  refine KA.ofv (by decide) (Nat.le_of_ble_eq_true rfl) hO ?_
  intro p e s m below meth c ls ar QW A0 H locs E hK hZ hA hAc hsz hnm hw hlo_ hl hret
  have hl : lv_has ls 1 [(0, .ref o)] := hl
  have hT : WT T := hw.1.2.1
  have hoT_ : OW T T s.heap.size := OW.rf T _
  have hR_ : ∀ b, b < sz → b ≠ o → ∀ k, T k b = T k b := fun b _ _ k => rfl
  refine j_aload_n E 1 rfl dX3_init_0 rfl (lv_at hl 0 rfl) ?_
  refine W.objInit E.1 E.2.1 E.2.2.2.1 (E.2.2.2.2.1 _ mo_X3_3) (E.2.2.2.2.1 _ im_ob) (E.2.2.2.2.1 _ cd_ob) rfl (by rw [E.2.2.1]; exact hl.1) rfl dX3_init_1 (Nat.le_of_ble_eq_true rfl) (Nat.le_of_ble_eq_true rfl) ?_
  show W p l e (rmd 2 5 1605) s m ar below meth c H locs _ _ QW (F0 m 4 ls [])
  refine j_aload_n E 5 rfl dX3_init_4 rfl (lv_at hl 0 rfl) ?_
  refine j_iconst E 6 rfl dX3_init_5 ?_
  refine rp_80 E hK hw fl_X3_9 t_o (rr (by decide)) 9 rfl dX3_init_6 (fun H locs hw => ?_)
  have hw : WK D cy T (upV v_0 80 (upB (v_0 80) o 0)) A0 s.heap H locs := cw_eq hw (by first | rfl | (funext j_; simp only [upV, reduceIte]; (repeat' split) <;> first | rfl | omega | (subst_vars; rfl)))
  refine j_aload_n E 10 rfl dX3_init_9 rfl (lv_at hl 0 rfl) ?_
  refine j_iconst E 11 rfl dX3_init_10 ?_
  refine rp_81 E hK hw fl_X3_15 t_o (rr (by decide)) 14 rfl dX3_init_11 (fun H locs hw => ?_)
  have hw : WK D cy T (upV (upV v_0 80 (upB (v_0 80) o 0)) 81 (upB (v_0 81) o ((-1)))) A0 s.heap H locs := cw_eq hw (by first | rfl | (funext j_; simp only [upV, reduceIte]; (repeat' split) <;> first | rfl | omega | (subst_vars; rfl)))
  refine j_aload_n E 15 rfl dX3_init_14 rfl (lv_at hl 0 rfl) ?_
  have hw0_ := hw
  refine n_obj6 E hK hw hA cl_X3_18 (Nat.le_of_ble_eq_true rfl) (Nat.le_of_ble_eq_true rfl) 18 rfl dX3_init_15 (fun q3_ T3_ H hge3_ hx3_ ho3_ tq3_ hw => ?_)
  have fq3_ : s.heap.size ≤ q3_ := Nat.le_trans hw0_.2.2.1 hge3_
  have hw : WK D cy T3_ (upV (upV (upV (upV v_0 80 (upB (v_0 80) o 0)) 81 (upB (v_0 81) o ((-1)))) 123 (upB (v_0 123) q3_ 0)) 124 (upB (v_0 124) q3_ 0)) A0 s.heap H locs := cw_eq hw (by first | rfl | (funext j_; simp only [upV, reduceIte]; (repeat' split) <;> first | rfl | omega | (subst_vars; rfl)))
  have hT3_ : WT T3_ := hw.1.2.1
  have hO3_ : ∀ x, ow T3_ x → κ 2 2 ≤ x := fun x h => hAc x (hw.2.1 x h)
  have hoT_ : OW T T3_ s.heap.size := OW.tr hw0_.2.2.1 hoT_ ho3_
  have hR_ : ∀ b, b < sz → b ≠ o → ∀ k, T3_ k b = T k b := fun b_ h1_ h2_ k_ => (hx3_ b_ (by have := hw0_.2.2.1; have := hge3_; omega) k_).trans (hR_ b_ h1_ h2_ k_)
  have u4_ : T3_ 0 o = 104 := (hx3_ o (Nat.ne_of_lt (Nat.lt_of_lt_of_le (cw_lt hw0_.1 t_o (fun _ _ _ => ⟨_, rfl⟩)) hge3_)) 0).trans t_o
  refine j_dup E 19 rfl dX3_init_18 rfl ?_
  have hw0_ := hw
  refine aN_v E (n_X5_init l D cy κ T3_ (upV (upV (upV (upV v_0 80 (upB (v_0 80) o 0)) 81 (upB (v_0 81) o ((-1)))) 123 (upB (v_0 123) q3_ 0)) 124 (upB (v_0 124) q3_ 0)) q3_ H.size  hO3_ tq3_  ) mi_X5_init hZ.1.mS hK hZ hAc hw hA ⟨(Nat.le_of_ble_eq_true rfl), (Nat.le_of_ble_eq_true rfl)⟩ ⟨(Nat.le_of_ble_eq_true rfl), (Nat.le_of_ble_eq_true rfl)⟩ (As := []) (rest := [.ref q3_, .ref o]) rfl rfl hl.1 (Nat.le_of_ble_eq_true rfl) 22 rfl dX3_init_19 (fun T5_ v_5 H locs hge5_ ho5_ hq5_ hw => ?_)
  obtain ⟨y123_5, y124_5, ev5_, hh5_⟩ := hq5_
  rw [ev5_] at hw; clear ev5_
  have hw : WK D cy T5_ (upV (upV (upV (upV v_0 80 (upB (v_0 80) o 0)) 81 (upB (v_0 81) o ((-1)))) 123 y123_5) 124 y124_5) A0 s.heap H locs := cw_eq hw (by first | rfl | (funext j_; simp only [upV, reduceIte]; (repeat' split) <;> first | rfl | omega | (subst_vars; rfl)))
  obtain ⟨hx5_, tq5_⟩ := hh5_
  have hT5_ : WT T5_ := hw.1.2.1
  have hO5_ : ∀ x, ow T5_ x → κ 2 2 ≤ x := fun x h => hAc x (hw.2.1 x h)
  have hoT_ : OW T T5_ s.heap.size := OW.tr hw0_.2.2.1 hoT_ ho5_
  have hR_ : ∀ b, b < sz → b ≠ o → ∀ k, T5_ k b = T k b := fun b_ h1_ h2_ k_ => (hx5_ b_ (by have := hw0_.2.2.1; omega) (by have := fq3_; omega) k_).trans (hR_ b_ h1_ h2_ k_)
  have u6_ : T5_ 0 o = 104 := (hx5_ o (cw_lt hw0_.1 u4_ (fun _ _ _ => ⟨_, rfl⟩)) (ty_ne u4_ tq3_ (by decide)) 0).trans u4_
  have hw0_ := hw
  refine rr_82 E hK hw hnm fl_X3_21 u6_ 25 rfl dX3_init_22 (fun T7_ H locs hx7_ hj7_ hk7_ ho7_ hw => ?_)
  have hT7_ : WT T7_ := hw.1.2.1
  have hO7_ : ∀ x, ow T7_ x → κ 2 2 ≤ x := fun x h => hAc x (hw.2.1 x h)
  have hoT_ : OW T T7_ s.heap.size := OW.tr0 hoT_ ho7_
  have hR_ : ∀ b, b < sz → b ≠ o → ∀ k, T7_ k b = T k b := fun b_ h1_ h2_ k_ => (hx7_ b_ h2_ k_).trans (hR_ b_ h1_ h2_ k_)
  have u8_ : T7_ 0 o = 104 := (hj7_ 0 (by decide)).trans u6_
  have u9_ : T7_ 0 q3_ = 6 := (hx7_ q3_ (ty_ne tq5_ u6_ (by decide)) 0).trans tq5_
  refine j_aload_n E 26 rfl dX3_init_25 rfl (lv_at hl 0 rfl) ?_
  refine j_iconst E 27 rfl dX3_init_26 ?_
  refine rp_83 E hK hw fl_X3_25 u8_ (rr (by decide)) 30 rfl dX3_init_27 (fun H locs hw => ?_)
  have hw : WK D cy T7_ (upV (upV (upV (upV (upV v_0 80 (upB (v_0 80) o 0)) 81 (upB (v_0 81) o ((-1)))) 83 (upB (v_0 83) o 0)) 123 y123_5) 124 y124_5) A0 s.heap H locs := cw_eq hw (by first | rfl | (funext j_; simp only [upV, reduceIte]; (repeat' split) <;> first | rfl | omega | (subst_vars; rfl)))
  refine j_aload_n E 31 rfl dX3_init_30 rfl (lv_at hl 0 rfl) ?_
  refine j_iconst E 32 rfl dX3_init_31 ?_
  refine rp_84 E hK hw fl_X3_30 u8_ (rr (by decide)) 35 rfl dX3_init_32 (fun H locs hw => ?_)
  have hw : WK D cy T7_ (upV (upV (upV (upV (upV (upV v_0 80 (upB (v_0 80) o 0)) 81 (upB (v_0 81) o ((-1)))) 83 (upB (v_0 83) o 0)) 84 (upB (v_0 84) o 1)) 123 y123_5) 124 y124_5) A0 s.heap H locs := cw_eq hw (by first | rfl | (funext j_; simp only [upV, reduceIte]; (repeat' split) <;> first | rfl | omega | (subst_vars; rfl)))
  refine j_aload_n E 36 rfl dX3_init_35 rfl (lv_at hl 0 rfl) ?_
  refine j_sipush E 39 rfl dX3_init_36 (by decide) ?_
  have hw0_ := hw
  refine n_arr20 E hK hw hA 400 (by decide) (by decide) (Nat.le_of_ble_eq_true rfl) (Nat.le_of_ble_eq_true rfl) 41 rfl dX3_init_39 (fun q12_ T12_ H hge12_ hx12_ ho12_ tq12_ tl12_ hw => ?_)
  have fq12_ : s.heap.size ≤ q12_ := Nat.le_trans hw0_.2.2.1 hge12_
  have hT12_ : WT T12_ := hw.1.2.1
  have hO12_ : ∀ x, ow T12_ x → κ 2 2 ≤ x := fun x h => hAc x (hw.2.1 x h)
  have hoT_ : OW T T12_ s.heap.size := OW.tr hw0_.2.2.1 hoT_ ho12_
  have hR_ : ∀ b, b < sz → b ≠ o → ∀ k, T12_ k b = T k b := fun b_ h1_ h2_ k_ => (hx12_ b_ (by have := hw0_.2.2.1; have := hge12_; omega) k_).trans (hR_ b_ h1_ h2_ k_)
  have u13_ : T12_ 0 o = 104 := (hx12_ o (Nat.ne_of_lt (Nat.lt_of_lt_of_le (cw_lt hw0_.1 u8_ (fun _ _ _ => ⟨_, rfl⟩)) hge12_)) 0).trans u8_
  have u14_ : T12_ 0 q3_ = 6 := (hx12_ q3_ (Nat.ne_of_lt (Nat.lt_of_lt_of_le (cw_lt hw0_.1 u9_ (fun _ _ _ => ⟨_, rfl⟩)) hge12_)) 0).trans u9_
  have u15_ : T12_ 82 o = q3_ + 1 := (hx12_ o (Nat.ne_of_lt (Nat.lt_of_lt_of_le (cw_lt hw0_.1 u8_ (fun _ _ _ => ⟨_, rfl⟩)) hge12_)) 82).trans hk7_
  have hw0_ := hw
  refine rr_85 E hK hw hnm fl_X3_33 u13_ 44 rfl dX3_init_41 (fun T16_ H locs hx16_ hj16_ hk16_ ho16_ hw => ?_)
  have hT16_ : WT T16_ := hw.1.2.1
  have hO16_ : ∀ x, ow T16_ x → κ 2 2 ≤ x := fun x h => hAc x (hw.2.1 x h)
  have hoT_ : OW T T16_ s.heap.size := OW.tr0 hoT_ ho16_
  have hR_ : ∀ b, b < sz → b ≠ o → ∀ k, T16_ k b = T k b := fun b_ h1_ h2_ k_ => (hx16_ b_ h2_ k_).trans (hR_ b_ h1_ h2_ k_)
  have u17_ : T16_ 0 o = 104 := (hj16_ 0 (by decide)).trans u13_
  have u18_ : T16_ 0 q3_ = 6 := (hx16_ q3_ (ty_ne u14_ u13_ (by decide)) 0).trans u14_
  have u19_ : T16_ 0 q12_ = 20 := (hx16_ q12_ (ty_ne tq12_ u13_ (by decide)) 0).trans tq12_
  have u20_ : T16_ 1 q12_ = 400 := (hx16_ q12_ (ty_ne tq12_ u13_ (by decide)) 1).trans tl12_
  have u21_ : T16_ 82 o = q3_ + 1 := (hj16_ 82 (by decide)).trans u15_
  refine j_aload_n E 45 rfl dX3_init_44 rfl (lv_at hl 0 rfl) ?_
  refine j_iconst E 46 rfl dX3_init_45 ?_
  refine rp_86 E hK hw fl_X3_37 u17_ (rr (by decide)) 49 rfl dX3_init_46 (fun H locs hw => ?_)
  have hw : WK D cy T16_ (upV (upV (upV (upV (upV (upV (upV v_0 80 (upB (v_0 80) o 0)) 81 (upB (v_0 81) o ((-1)))) 83 (upB (v_0 83) o 0)) 84 (upB (v_0 84) o 1)) 86 (upB (v_0 86) o 0)) 123 y123_5) 124 y124_5) A0 s.heap H locs := cw_eq hw (by first | rfl | (funext j_; simp only [upV, reduceIte]; (repeat' split) <;> first | rfl | omega | (subst_vars; rfl)))
  have hw0_ := hw
  obtain ⟨T23_, hx23_, tq23_, xe23_82_, xe23_85_, ho23_, hw⟩ := pm_4 hw u17_ u21_ u18_ hk16_ u19_ u20_
  have hT23_ : WT T23_ := hw.1.2.1
  have hO23_ : ∀ x, ow T23_ x → κ 2 2 ≤ x := fun x h => hAc x (hw.2.1 x h)
  have hoT_ : OW T T23_ s.heap.size := OW.tr0 hoT_ ho23_
  have hR_ : ∀ b, b < sz → b ≠ o → ∀ k, T23_ k b = T k b := fun b_ h1_ h2_ k_ => (hx23_ b_ h2_ k_).trans (hR_ b_ h1_ h2_ k_)
  exact hret 49 T23_ (upV (upV (upV (upV (upV (upV (upV v_0 80 (upB (v_0 80) o 0)) 81 (upB (v_0 81) o ((-1)))) 83 (upB (v_0 83) o 0)) 84 (upB (v_0 84) o 1)) 86 (upB (v_0 86) o 0)) 123 y123_5) 124 y124_5) _ _ ls _ _ hw hoT_ ⟨(upB (v_0 80) o 0), (upB (v_0 81) o ((-1))), (upB (v_0 83) o 0), (upB (v_0 84) o 1), (upB (v_0 86) o 0), y123_5, y124_5, rfl, ⟨hR_, tq23_⟩⟩ (Nat.le_of_ble_eq_true rfl) (Nat.le_of_ble_eq_true rfl) dX3_init_49
