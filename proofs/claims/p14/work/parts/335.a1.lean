set_option maxHeartbeats 4000000 in
set_option maxRecDepth 100000 in
theorem n_X0_init (l : Launch) (D : va_G) (cy : Nat → ClassId) (κ T : Nat → Nat → Nat) (v_0 : Nat → Nat → Int) (o : Nat) (v_a : Int) (v_b : Int) (sz : Nat) (hO : ∀ x, ow T x → κ 2 2 ≤ x) (t_o : T 0 o = 101) (r_v_a : inR v_a) (r_v_b : inR v_b) (hp0 : v_b = 0 ∨ v_b = 1) : KA l D cy κ T yX0_init cX0_init 3 none 2 1 200 [.ref o, .int (J v_a), .int (J v_b)] v_0 sz (AV (fun (T_2 : Nat → Nat → Nat) (v_2 : Nat → Nat → Int) => ∃ (y20_2 : Nat → Int) (y21_2 : Nat → Int) (y22_2 : Nat → Int) (y23_2 : Nat → Int) (y24_2 : Nat → Int) (y25_2 : Nat → Int) (y302_2 : Nat → Int) , v_2 = upV (upV (upV (upV (upV (upV (upV v_0 20 y20_2) 21 y21_2) 22 y22_2) 23 y23_2) 24 y24_2) 25 y25_2) 302 y302_2 ∧ ((∀ b, b < sz → b ≠ o → ∀ k, T_2 k b = T k b) ∧ T_2 0 o = 1))) := by
  refine KA.ofv (by decide) (Nat.le_of_ble_eq_true rfl) hO ?_
  intro p e s m below meth c ls ar QW A0 H locs E hK hZ hA hAc hsz hnm hw hlo_ hl hret
  have hl : lv_has ls 3 [(0, .ref o), (1, .int (J v_a)), (2, .int (J v_b))] := hl
  have hT : WT T := hw.1.2.1
  have hoT_ : OW T T s.heap.size := OW.rf T _
  have hR_ : ∀ b, b < sz → b ≠ o → ∀ k, T k b = T k b := fun b _ _ k => rfl
  refine j_aload_n E 1 rfl dX0_init_0 rfl (lv_at hl 0 rfl) ?_
  refine W.objInit E.1 E.2.1 E.2.2.2.1 (E.2.2.2.2.1 _ mo_X0_3) (E.2.2.2.2.1 _ im_ob) (E.2.2.2.2.1 _ cd_ob) rfl (by rw [E.2.2.1]; exact hl.1) rfl dX0_init_1 (Nat.le_of_ble_eq_true rfl) (Nat.le_of_ble_eq_true rfl) ?_
  show W p l e (rmd 2 1 200) s m ar below meth c H locs _ _ QW (F0 m 4 ls [])
  refine j_aload_n E 5 rfl dX0_init_4 rfl (lv_at hl 0 rfl) ?_
  refine j_iconst E 6 rfl dX0_init_5 ?_
  refine rp_22 E hK hw fl_X0_9 t_o (rr (by decide)) 9 rfl dX0_init_6 (fun H locs hw => ?_)
  have hw : WK D cy T (upV v_0 22 (upB (v_0 22) o 0)) A0 s.heap H locs := cw_eq hw (by first | rfl | (funext j_; simp only [upV, reduceIte]; (repeat' split) <;> first | rfl | omega | (subst_vars; rfl)))
  refine j_aload_n E 10 rfl dX0_init_9 rfl (lv_at hl 0 rfl) ?_
  refine j_iconst E 11 rfl dX0_init_10 ?_
  refine rp_23 E hK hw fl_X0_15 t_o (rr (by decide)) 14 rfl dX0_init_11 (fun H locs hw => ?_)
  have hw : WK D cy T (upV (upV v_0 22 (upB (v_0 22) o 0)) 23 (upB (v_0 23) o ((-1)))) A0 s.heap H locs := cw_eq hw (by first | rfl | (funext j_; simp only [upV, reduceIte]; (repeat' split) <;> first | rfl | omega | (subst_vars; rfl)))
  refine j_aload_n E 15 rfl dX0_init_14 rfl (lv_at hl 0 rfl) ?_
  refine j_iconst E 16 rfl dX0_init_15 ?_
  refine rp_24 E hK hw fl_X0_18 t_o (rr (by decide)) 19 rfl dX0_init_16 (fun H locs hw => ?_)
  have hw : WK D cy T (upV (upV (upV v_0 22 (upB (v_0 22) o 0)) 23 (upB (v_0 23) o ((-1)))) 24 (upB (v_0 24) o 0)) A0 s.heap H locs := cw_eq hw (by first | rfl | (funext j_; simp only [upV, reduceIte]; (repeat' split) <;> first | rfl | omega | (subst_vars; rfl)))
  refine j_aload_n E 20 rfl dX0_init_19 rfl (lv_at hl 0 rfl) ?_
  refine j_iconst E 21 rfl dX0_init_20 ?_
  refine rp_25 E hK hw fl_X0_21 t_o (rr (by decide)) 24 rfl dX0_init_21 (fun H locs hw => ?_)
  have hw : WK D cy T (upV (upV (upV (upV v_0 22 (upB (v_0 22) o 0)) 23 (upB (v_0 23) o ((-1)))) 24 (upB (v_0 24) o 0)) 25 (upB (v_0 25) o ((-1)))) A0 s.heap H locs := cw_eq hw (by first | rfl | (funext j_; simp only [upV, reduceIte]; (repeat' split) <;> first | rfl | omega | (subst_vars; rfl)))
  refine j_aload_n E 25 rfl dX0_init_24 rfl (lv_at hl 0 rfl) ?_
  refine j_sipush E 28 rfl dX0_init_25 (by decide) ?_
  have hw0_ := hw
  refine n_arr22 E hK hw hA (300 * o + 26) 200 (by decide) (by decide) (Nat.le_of_ble_eq_true rfl) (Nat.le_of_ble_eq_true rfl) 30 rfl dX0_init_28 (fun q5_ T5_ y302_5 H hge5_ hx5_ ho5_ tq5_ tl5_ tw5_ yz5_ yo5_ hw => ?_)
  have fq5_ : s.heap.size ≤ q5_ := Nat.le_trans hw0_.2.2.1 hge5_
  have hw : WK D cy T5_ (upV (upV (upV (upV (upV v_0 22 (upB (v_0 22) o 0)) 23 (upB (v_0 23) o ((-1)))) 24 (upB (v_0 24) o 0)) 25 (upB (v_0 25) o ((-1)))) 302 y302_5) A0 s.heap H locs := cw_eq hw (by first | rfl | (funext j_; simp only [upV, reduceIte]; (repeat' split) <;> first | rfl | omega | (subst_vars; rfl)))
  have yo5_ : ∀ b, b ≠ q5_ → ∀ i, y302_5 (pr b i) = v_0 302 (pr b i) := yo5_
  have hT5_ : WT T5_ := hw.1.2.1
  have hO5_ : ∀ x, ow T5_ x → κ 2 2 ≤ x := fun x h => hAc x (hw.2.1 x h)
  have hoT_ : OW T T5_ s.heap.size := OW.tr hw0_.2.2.1 hoT_ ho5_
  have hR_ : ∀ b, b < sz → b ≠ o → ∀ k, T5_ k b = T k b := fun b_ h1_ h2_ k_ => (hx5_ b_ (by have := hw0_.2.2.1; have := hge5_; omega) k_).trans (hR_ b_ h1_ h2_ k_)
  have u6_ : T5_ 0 o = 101 := (hx5_ o (Nat.ne_of_lt (Nat.lt_of_lt_of_le (cw_lt hw0_.1 t_o (fun _ _ _ => ⟨_, rfl⟩)) hge5_)) 0).trans t_o
  have hw0_ := hw
  refine rr_26 E hK hw hnm fl_X0_24 u6_ 33 rfl dX0_init_30 (fun T7_ H locs hx7_ hj7_ hk7_ ho7_ hw => ?_)
  have hT7_ : WT T7_ := hw.1.2.1
  have hO7_ : ∀ x, ow T7_ x → κ 2 2 ≤ x := fun x h => hAc x (hw.2.1 x h)
  have hoT_ : OW T T7_ s.heap.size := OW.tr0 hoT_ ho7_
  have hR_ : ∀ b, b < sz → b ≠ o → ∀ k, T7_ k b = T k b := fun b_ h1_ h2_ k_ => (hx7_ b_ h2_ k_).trans (hR_ b_ h1_ h2_ k_)
  have u8_ : T7_ 0 o = 101 := (hj7_ 0 (by decide)).trans u6_
  have u9_ : T7_ 0 q5_ = 22 := (hx7_ q5_ (ty_ne tq5_ u6_ (by decide)) 0).trans tq5_
  have u10_ : T7_ 1 q5_ = 200 := (hx7_ q5_ (ty_ne tq5_ u6_ (by decide)) 1).trans tl5_
  have u11_ : T7_ 3 q5_ = 300 * o + 26 := (hx7_ q5_ (ty_ne tq5_ u6_ (by decide)) 3).trans tw5_
  refine j_aload_n E 34 rfl dX0_init_33 rfl (lv_at hl 0 rfl) ?_
  refine j_iload_n E 35 rfl dX0_init_34 rfl (lv_at hl 1 rfl) ?_
  refine rp_20 E hK hw hnm fl_X0_28 u8_ r_v_a 38 rfl dX0_init_35 (fun H locs hw => ?_)
  have hw : WK D cy T7_ (upV (upV (upV (upV (upV (upV v_0 20 (upB (v_0 20) o v_a)) 22 (upB (v_0 22) o 0)) 23 (upB (v_0 23) o ((-1)))) 24 (upB (v_0 24) o 0)) 25 (upB (v_0 25) o ((-1)))) 302 y302_5) A0 s.heap H locs := cw_eq hw (by first | rfl | exact (funext fun j_ => if a20_ : j_ = 20 then (by subst a20_; rfl) else if a22_ : j_ = 22 then (by subst a22_; rfl) else if a23_ : j_ = 23 then (by subst a23_; rfl) else if a24_ : j_ = 24 then (by subst a24_; rfl) else if a25_ : j_ = 25 then (by subst a25_; rfl) else if a302_ : j_ = 302 then (by subst a302_; rfl) else (by simp only [upV, if_neg a20_, if_neg a22_, if_neg a23_, if_neg a24_, if_neg a25_, if_neg a302_])))
  refine j_aload_n E 39 rfl dX0_init_38 rfl (lv_at hl 0 rfl) ?_
  refine j_iload_n E 40 rfl dX0_init_39 rfl (lv_at hl 2 rfl) ?_
  refine rp_21 E hK hw hnm fl_X0_31 u8_ r_v_b (by omega) 43 rfl dX0_init_40 (fun H locs hw => ?_)
  have hw : WK D cy T7_ (upV (upV (upV (upV (upV (upV (upV v_0 20 (upB (v_0 20) o v_a)) 21 (upB (v_0 21) o v_b)) 22 (upB (v_0 22) o 0)) 23 (upB (v_0 23) o ((-1)))) 24 (upB (v_0 24) o 0)) 25 (upB (v_0 25) o ((-1)))) 302 y302_5) A0 s.heap H locs := cw_eq hw (by first | rfl | exact (funext fun j_ => if a20_ : j_ = 20 then (by subst a20_; rfl) else if a21_ : j_ = 21 then (by subst a21_; rfl) else if a22_ : j_ = 22 then (by subst a22_; rfl) else if a23_ : j_ = 23 then (by subst a23_; rfl) else if a24_ : j_ = 24 then (by subst a24_; rfl) else if a25_ : j_ = 25 then (by subst a25_; rfl) else if a302_ : j_ = 302 then (by subst a302_; rfl) else (by simp only [upV, if_neg a20_, if_neg a21_, if_neg a22_, if_neg a23_, if_neg a24_, if_neg a25_, if_neg a302_])))
  have hw0_ := hw
  obtain ⟨T14_, hx14_, tq14_, xe14_26_, ho14_, hw⟩ := pm_1 hw u8_ hk7_ u9_ u10_ u11_
  have hT14_ : WT T14_ := hw.1.2.1
  have hO14_ : ∀ x, ow T14_ x → κ 2 2 ≤ x := fun x h => hAc x (hw.2.1 x h)
  have hoT_ : OW T T14_ s.heap.size := OW.tr0 hoT_ ho14_
  have hR_ : ∀ b, b < sz → b ≠ o → ∀ k, T14_ k b = T k b := fun b_ h1_ h2_ k_ => (hx14_ b_ h2_ k_).trans (hR_ b_ h1_ h2_ k_)
  refine j_aload_n E 44 rfl dX0_init_43 rfl (lv_at hl 0 rfl) ?_
  refine g_26 E hK hw fl_X0_24 tq14_ 47 rfl dX0_init_44 ?_
  have ln15_ := wl_26 hT14_ tq14_
  refine j_bipush E 49 rfl dX0_init_47 (by decide) ?_
  refine kS_v E (c_J7_fill_031fb l D cy T14_ (upV (upV (upV (upV (upV (upV (upV v_0 20 (upB (v_0 20) o v_a)) 21 (upB (v_0 21) o v_b)) 22 (upB (v_0 22) o 0)) 23 (upB (v_0 23) o ((-1)))) 24 (upB (v_0 24) o 0)) 25 (upB (v_0 25) o ((-1)))) 302 y302_5) (T14_ 26 o) ((-2))   (wt_26 hT14_ tq14_) (rr (by decide)) ) ms_J7_fill_031fb ml_X0_35 hK hw hA ⟨Nat.le_of_ble_eq_true rfl, Nat.le_of_ble_eq_true rfl⟩ ⟨Nat.le_of_ble_eq_true rfl, Nat.le_of_ble_eq_true rfl⟩ (As := [.ref (T14_ 26 o), .int (J ((-2)))]) (rest := []) rfl rfl hl.1 (Nat.le_of_ble_eq_true rfl) 52 rfl dX0_init_49 (fun v_16 H locs hq16_ hw => ?_)
  obtain ⟨y302_16, ev16_, hh16_⟩ := hq16_
  rw [ev16_] at hw; clear ev16_
  have hw : WK D cy T14_ (upV (upV (upV (upV (upV (upV (upV v_0 20 (upB (v_0 20) o v_a)) 21 (upB (v_0 21) o v_b)) 22 (upB (v_0 22) o 0)) 23 (upB (v_0 23) o ((-1)))) 24 (upB (v_0 24) o 0)) 25 (upB (v_0 25) o ((-1)))) 302 y302_16) A0 s.heap H locs := cw_eq hw (by first | rfl | exact (funext fun j_ => if a20_ : j_ = 20 then (by subst a20_; rfl) else if a21_ : j_ = 21 then (by subst a21_; rfl) else if a22_ : j_ = 22 then (by subst a22_; rfl) else if a23_ : j_ = 23 then (by subst a23_; rfl) else if a24_ : j_ = 24 then (by subst a24_; rfl) else if a25_ : j_ = 25 then (by subst a25_; rfl) else if a302_ : j_ = 302 then (by subst a302_; rfl) else (by simp only [upV, if_neg a20_, if_neg a21_, if_neg a22_, if_neg a23_, if_neg a24_, if_neg a25_, if_neg a302_])))
  exact hret 52 T14_ (upV (upV (upV (upV (upV (upV (upV v_0 20 (upB (v_0 20) o v_a)) 21 (upB (v_0 21) o v_b)) 22 (upB (v_0 22) o 0)) 23 (upB (v_0 23) o ((-1)))) 24 (upB (v_0 24) o 0)) 25 (upB (v_0 25) o ((-1)))) 302 y302_16) _ _ ls _ _ hw hoT_ ⟨(upB (v_0 20) o v_a), (upB (v_0 21) o v_b), (upB (v_0 22) o 0), (upB (v_0 23) o ((-1))), (upB (v_0 24) o 0), (upB (v_0 25) o ((-1))), y302_16, rfl, ⟨hR_, tq14_⟩⟩ (Nat.le_of_ble_eq_true rfl) (Nat.le_of_ble_eq_true rfl) dX0_init_52
set_option maxHeartbeats 4000000 in
set_option maxRecDepth 100000 in
theorem n_X1_init (l : Launch) (D : va_G) (cy : Nat → ClassId) (κ T : Nat → Nat → Nat) (v_0 : Nat → Nat → Int) (o : Nat) (v_a : Int) (v_b : Int) (v_c : Int) (sz : Nat) (hO : ∀ x, ow T x → κ 2 2 ≤ x) (t_o : T 0 o = 102) (r_v_a : inR v_a) (r_v_b : inR v_b) (r_v_c : inR v_c) : KA l D cy κ T yX1_init cX1_init 4 none 2 3 72 [.ref o, .int (J v_a), .int (J v_b), .int (J v_c)] v_0 sz (AV (fun (T_2 : Nat → Nat → Nat) (v_2 : Nat → Nat → Int) => ∃ (y40_2 : Nat → Int) (y41_2 : Nat → Int) (y42_2 : Nat → Int) (y43_2 : Nat → Int) (y44_2 : Nat → Int) (y45_2 : Nat → Int) (y300_2 : Nat → Int) , v_2 = upV (upV (upV (upV (upV (upV (upV v_0 40 y40_2) 41 y41_2) 42 y42_2) 43 y43_2) 44 y44_2) 45 y45_2) 300 y300_2 ∧ ((∀ b, b < sz → b ≠ o → ∀ k, T_2 k b = T k b) ∧ T_2 0 o = 2))) := by
  refine KA.ofv (by decide) (Nat.le_of_ble_eq_true rfl) hO ?_
  intro p e s m below meth c ls ar QW A0 H locs E hK hZ hA hAc hsz hnm hw hlo_ hl hret
  have hl : lv_has ls 4 [(0, .ref o), (1, .int (J v_a)), (2, .int (J v_b)), (3, .int (J v_c))] := hl
  have hT : WT T := hw.1.2.1
  have hoT_ : OW T T s.heap.size := OW.rf T _
  have hR_ : ∀ b, b < sz → b ≠ o → ∀ k, T k b = T k b := fun b _ _ k => rfl
  refine j_aload_n E 1 rfl dX1_init_0 rfl (lv_at hl 0 rfl) ?_
  refine W.objInit E.1 E.2.1 E.2.2.2.1 (E.2.2.2.2.1 _ mo_X1_3) (E.2.2.2.2.1 _ im_ob) (E.2.2.2.2.1 _ cd_ob) rfl (by rw [E.2.2.1]; exact hl.1) rfl dX1_init_1 (Nat.le_of_ble_eq_true rfl) (Nat.le_of_ble_eq_true rfl) ?_
  show W p l e (rmd 2 3 72) s m ar below meth c H locs _ _ QW (F0 m 4 ls [])
  refine j_aload_n E 5 rfl dX1_init_4 rfl (lv_at hl 0 rfl) ?_
  refine j_iconst E 6 rfl dX1_init_5 ?_
  refine rp_43 E hK hw fl_X1_9 t_o (rr (by decide)) 9 rfl dX1_init_6 (fun H locs hw => ?_)
  have hw : WK D cy T (upV v_0 43 (upB (v_0 43) o ((-1)))) A0 s.heap H locs := cw_eq hw (by first | rfl | (funext j_; simp only [upV, reduceIte]; (repeat' split) <;> first | rfl | omega | (subst_vars; rfl)))
  refine j_aload_n E 10 rfl dX1_init_9 rfl (lv_at hl 0 rfl) ?_
  refine j_iconst E 11 rfl dX1_init_10 ?_
  refine rp_44 E hK hw fl_X1_15 t_o (rr (by decide)) (Or.inl rfl) 14 rfl dX1_init_11 (fun H locs hw => ?_)
  have hw : WK D cy T (upV (upV v_0 43 (upB (v_0 43) o ((-1)))) 44 (upB (v_0 44) o 0)) A0 s.heap H locs := cw_eq hw (by first | rfl | (funext j_; simp only [upV, reduceIte]; (repeat' split) <;> first | rfl | omega | (subst_vars; rfl)))
  refine j_aload_n E 15 rfl dX1_init_14 rfl (lv_at hl 0 rfl) ?_
  refine j_iconst E 16 rfl dX1_init_15 ?_
  refine rp_45 E hK hw fl_X1_19 t_o (rr (by decide)) 19 rfl dX1_init_16 (fun H locs hw => ?_)
  have hw : WK D cy T (upV (upV (upV v_0 43 (upB (v_0 43) o ((-1)))) 44 (upB (v_0 44) o 0)) 45 (upB (v_0 45) o ((-1)))) A0 s.heap H locs := cw_eq hw (by first | rfl | (funext j_; simp only [upV, reduceIte]; (repeat' split) <;> first | rfl | omega | (subst_vars; rfl)))
  refine j_aload_n E 20 rfl dX1_init_19 rfl (lv_at hl 0 rfl) ?_
  refine j_bipush E 22 rfl dX1_init_20 (by decide) ?_
  have hw0_ := hw
  refine n_arr20 E hK hw hA (300 * o + 46) 24 (by decide) (by decide) (Nat.le_of_ble_eq_true rfl) (Nat.le_of_ble_eq_true rfl) 24 rfl dX1_init_22 (fun q4_ T4_ y300_4 H hge4_ hx4_ ho4_ tq4_ tl4_ tw4_ yz4_ yo4_ hw => ?_)
  have fq4_ : s.heap.size ≤ q4_ := Nat.le_trans hw0_.2.2.1 hge4_
  have hw : WK D cy T4_ (upV (upV (upV (upV v_0 43 (upB (v_0 43) o ((-1)))) 44 (upB (v_0 44) o 0)) 45 (upB (v_0 45) o ((-1)))) 300 y300_4) A0 s.heap H locs := cw_eq hw (by first | rfl | (funext j_; simp only [upV, reduceIte]; (repeat' split) <;> first | rfl | omega | (subst_vars; rfl)))
  have yo4_ : ∀ b, b ≠ q4_ → ∀ i, y300_4 (pr b i) = v_0 300 (pr b i) := yo4_
  have hT4_ : WT T4_ := hw.1.2.1
  have hO4_ : ∀ x, ow T4_ x → κ 2 2 ≤ x := fun x h => hAc x (hw.2.1 x h)
  have hoT_ : OW T T4_ s.heap.size := OW.tr hw0_.2.2.1 hoT_ ho4_
  have hR_ : ∀ b, b < sz → b ≠ o → ∀ k, T4_ k b = T k b := fun b_ h1_ h2_ k_ => (hx4_ b_ (by have := hw0_.2.2.1; have := hge4_; omega) k_).trans (hR_ b_ h1_ h2_ k_)
  have u5_ : T4_ 0 o = 102 := (hx4_ o (Nat.ne_of_lt (Nat.lt_of_lt_of_le (cw_lt hw0_.1 t_o (fun _ _ _ => ⟨_, rfl⟩)) hge4_)) 0).trans t_o
  have hw0_ := hw
  refine rr_46 E hK hw hnm fl_X1_22 u5_ 27 rfl dX1_init_24 (fun T6_ H locs hx6_ hj6_ hk6_ ho6_ hw => ?_)
  have hT6_ : WT T6_ := hw.1.2.1
  have hO6_ : ∀ x, ow T6_ x → κ 2 2 ≤ x := fun x h => hAc x (hw.2.1 x h)
  have hoT_ : OW T T6_ s.heap.size := OW.tr0 hoT_ ho6_
  have hR_ : ∀ b, b < sz → b ≠ o → ∀ k, T6_ k b = T k b := fun b_ h1_ h2_ k_ => (hx6_ b_ h2_ k_).trans (hR_ b_ h1_ h2_ k_)
  have u7_ : T6_ 0 o = 102 := (hj6_ 0 (by decide)).trans u5_
  have u8_ : T6_ 0 q4_ = 20 := (hx6_ q4_ (ty_ne tq4_ u5_ (by decide)) 0).trans tq4_
  have u9_ : T6_ 1 q4_ = 24 := (hx6_ q4_ (ty_ne tq4_ u5_ (by decide)) 1).trans tl4_
  have u10_ : T6_ 3 q4_ = 300 * o + 46 := (hx6_ q4_ (ty_ne tq4_ u5_ (by decide)) 3).trans tw4_
  refine j_aload_n E 28 rfl dX1_init_27 rfl (lv_at hl 0 rfl) ?_
  refine j_bipush E 30 rfl dX1_init_28 (by decide) ?_
  have hw0_ := hw
  refine n_arr20 E hK hw hA (300 * o + 47) 24 (by decide) (by decide) (Nat.le_of_ble_eq_true rfl) (Nat.le_of_ble_eq_true rfl) 32 rfl dX1_init_30 (fun q11_ T11_ y300_11 H hge11_ hx11_ ho11_ tq11_ tl11_ tw11_ yz11_ yo11_ hw => ?_)
  have fq11_ : s.heap.size ≤ q11_ := Nat.le_trans hw0_.2.2.1 hge11_
  have hw : WK D cy T11_ (upV (upV (upV (upV v_0 43 (upB (v_0 43) o ((-1)))) 44 (upB (v_0 44) o 0)) 45 (upB (v_0 45) o ((-1)))) 300 y300_11) A0 s.heap H locs := cw_eq hw (by first | rfl | (funext j_; simp only [upV, reduceIte]; (repeat' split) <;> first | rfl | omega | (subst_vars; rfl)))
  have yo11_ : ∀ b, b ≠ q11_ → ∀ i, y300_11 (pr b i) = y300_4 (pr b i) := yo11_
  have hT11_ : WT T11_ := hw.1.2.1
  have hO11_ : ∀ x, ow T11_ x → κ 2 2 ≤ x := fun x h => hAc x (hw.2.1 x h)
  have hoT_ : OW T T11_ s.heap.size := OW.tr hw0_.2.2.1 hoT_ ho11_
  have hR_ : ∀ b, b < sz → b ≠ o → ∀ k, T11_ k b = T k b := fun b_ h1_ h2_ k_ => (hx11_ b_ (by have := hw0_.2.2.1; have := hge11_; omega) k_).trans (hR_ b_ h1_ h2_ k_)
  have u12_ : T11_ 0 o = 102 := (hx11_ o (Nat.ne_of_lt (Nat.lt_of_lt_of_le (cw_lt hw0_.1 u7_ (fun _ _ _ => ⟨_, rfl⟩)) hge11_)) 0).trans u7_
  have u13_ : T11_ 0 q4_ = 20 := (hx11_ q4_ (Nat.ne_of_lt (Nat.lt_of_lt_of_le (cw_lt hw0_.1 u8_ (fun _ _ _ => ⟨_, rfl⟩)) hge11_)) 0).trans u8_
  have u14_ : T11_ 1 q4_ = 24 := (hx11_ q4_ (Nat.ne_of_lt (Nat.lt_of_lt_of_le (cw_lt hw0_.1 u8_ (fun _ _ _ => ⟨_, rfl⟩)) hge11_)) 1).trans u9_
  have u15_ : T11_ 3 q4_ = 300 * o + 46 := (hx11_ q4_ (Nat.ne_of_lt (Nat.lt_of_lt_of_le (cw_lt hw0_.1 u8_ (fun _ _ _ => ⟨_, rfl⟩)) hge11_)) 3).trans u10_
  have u16_ : T11_ 46 o = q4_ + 1 := (hx11_ o (Nat.ne_of_lt (Nat.lt_of_lt_of_le (cw_lt hw0_.1 u7_ (fun _ _ _ => ⟨_, rfl⟩)) hge11_)) 46).trans hk6_
  have hw0_ := hw
  refine rr_47 E hK hw hnm fl_X1_26 u12_ 35 rfl dX1_init_32 (fun T17_ H locs hx17_ hj17_ hk17_ ho17_ hw => ?_)
  have hT17_ : WT T17_ := hw.1.2.1
  have hO17_ : ∀ x, ow T17_ x → κ 2 2 ≤ x := fun x h => hAc x (hw.2.1 x h)
  have hoT_ : OW T T17_ s.heap.size := OW.tr0 hoT_ ho17_
  have hR_ : ∀ b, b < sz → b ≠ o → ∀ k, T17_ k b = T k b := fun b_ h1_ h2_ k_ => (hx17_ b_ h2_ k_).trans (hR_ b_ h1_ h2_ k_)
  have u18_ : T17_ 0 o = 102 := (hj17_ 0 (by decide)).trans u12_
  have u19_ : T17_ 0 q4_ = 20 := (hx17_ q4_ (ty_ne u13_ u12_ (by decide)) 0).trans u13_
  have u20_ : T17_ 0 q11_ = 20 := (hx17_ q11_ (ty_ne tq11_ u12_ (by decide)) 0).trans tq11_
  have u21_ : T17_ 1 q4_ = 24 := (hx17_ q4_ (ty_ne u13_ u12_ (by decide)) 1).trans u14_
  have u22_ : T17_ 1 q11_ = 24 := (hx17_ q11_ (ty_ne tq11_ u12_ (by decide)) 1).trans tl11_
  have u23_ : T17_ 3 q4_ = 300 * o + 46 := (hx17_ q4_ (ty_ne u13_ u12_ (by decide)) 3).trans u15_
  have u24_ : T17_ 3 q11_ = 300 * o + 47 := (hx17_ q11_ (ty_ne tq11_ u12_ (by decide)) 3).trans tw11_
  have u25_ : T17_ 46 o = q4_ + 1 := (hj17_ 46 (by decide)).trans u16_
  refine j_aload_n E 36 rfl dX1_init_35 rfl (lv_at hl 0 rfl) ?_
  refine j_bipush E 38 rfl dX1_init_36 (by decide) ?_
  have hw0_ := hw
  refine n_arr20 E hK hw hA (300 * o + 48) 24 (by decide) (by decide) (Nat.le_of_ble_eq_true rfl) (Nat.le_of_ble_eq_true rfl) 40 rfl dX1_init_38 (fun q26_ T26_ y300_26 H hge26_ hx26_ ho26_ tq26_ tl26_ tw26_ yz26_ yo26_ hw => ?_)
  have fq26_ : s.heap.size ≤ q26_ := Nat.le_trans hw0_.2.2.1 hge26_
  have hw : WK D cy T26_ (upV (upV (upV (upV v_0 43 (upB (v_0 43) o ((-1)))) 44 (upB (v_0 44) o 0)) 45 (upB (v_0 45) o ((-1)))) 300 y300_26) A0 s.heap H locs := cw_eq hw (by first | rfl | (funext j_; simp only [upV, reduceIte]; (repeat' split) <;> first | rfl | omega | (subst_vars; rfl)))
  have yo26_ : ∀ b, b ≠ q26_ → ∀ i, y300_26 (pr b i) = y300_11 (pr b i) := yo26_
  have hT26_ : WT T26_ := hw.1.2.1
  have hO26_ : ∀ x, ow T26_ x → κ 2 2 ≤ x := fun x h => hAc x (hw.2.1 x h)
  have hoT_ : OW T T26_ s.heap.size := OW.tr hw0_.2.2.1 hoT_ ho26_
  have hR_ : ∀ b, b < sz → b ≠ o → ∀ k, T26_ k b = T k b := fun b_ h1_ h2_ k_ => (hx26_ b_ (by have := hw0_.2.2.1; have := hge26_; omega) k_).trans (hR_ b_ h1_ h2_ k_)
  have u27_ : T26_ 0 o = 102 := (hx26_ o (Nat.ne_of_lt (Nat.lt_of_lt_of_le (cw_lt hw0_.1 u18_ (fun _ _ _ => ⟨_, rfl⟩)) hge26_)) 0).trans u18_
  have u28_ : T26_ 0 q4_ = 20 := (hx26_ q4_ (Nat.ne_of_lt (Nat.lt_of_lt_of_le (cw_lt hw0_.1 u19_ (fun _ _ _ => ⟨_, rfl⟩)) hge26_)) 0).trans u19_
  have u29_ : T26_ 0 q11_ = 20 := (hx26_ q11_ (Nat.ne_of_lt (Nat.lt_of_lt_of_le (cw_lt hw0_.1 u20_ (fun _ _ _ => ⟨_, rfl⟩)) hge26_)) 0).trans u20_
  have u30_ : T26_ 1 q4_ = 24 := (hx26_ q4_ (Nat.ne_of_lt (Nat.lt_of_lt_of_le (cw_lt hw0_.1 u19_ (fun _ _ _ => ⟨_, rfl⟩)) hge26_)) 1).trans u21_
  have u31_ : T26_ 1 q11_ = 24 := (hx26_ q11_ (Nat.ne_of_lt (Nat.lt_of_lt_of_le (cw_lt hw0_.1 u20_ (fun _ _ _ => ⟨_, rfl⟩)) hge26_)) 1).trans u22_
  have u32_ : T26_ 3 q4_ = 300 * o + 46 := (hx26_ q4_ (Nat.ne_of_lt (Nat.lt_of_lt_of_le (cw_lt hw0_.1 u19_ (fun _ _ _ => ⟨_, rfl⟩)) hge26_)) 3).trans u23_
  have u33_ : T26_ 3 q11_ = 300 * o + 47 := (hx26_ q11_ (Nat.ne_of_lt (Nat.lt_of_lt_of_le (cw_lt hw0_.1 u20_ (fun _ _ _ => ⟨_, rfl⟩)) hge26_)) 3).trans u24_
  have u34_ : T26_ 46 o = q4_ + 1 := (hx26_ o (Nat.ne_of_lt (Nat.lt_of_lt_of_le (cw_lt hw0_.1 u18_ (fun _ _ _ => ⟨_, rfl⟩)) hge26_)) 46).trans u25_
  have u35_ : T26_ 47 o = q11_ + 1 := (hx26_ o (Nat.ne_of_lt (Nat.lt_of_lt_of_le (cw_lt hw0_.1 u18_ (fun _ _ _ => ⟨_, rfl⟩)) hge26_)) 47).trans hk17_
  have hw0_ := hw
  refine rr_48 E hK hw hnm fl_X1_29 u27_ 43 rfl dX1_init_40 (fun T36_ H locs hx36_ hj36_ hk36_ ho36_ hw => ?_)
  have hT36_ : WT T36_ := hw.1.2.1
  have hO36_ : ∀ x, ow T36_ x → κ 2 2 ≤ x := fun x h => hAc x (hw.2.1 x h)
  have hoT_ : OW T T36_ s.heap.size := OW.tr0 hoT_ ho36_
  have hR_ : ∀ b, b < sz → b ≠ o → ∀ k, T36_ k b = T k b := fun b_ h1_ h2_ k_ => (hx36_ b_ h2_ k_).trans (hR_ b_ h1_ h2_ k_)
  have u37_ : T36_ 0 o = 102 := (hj36_ 0 (by decide)).trans u27_
  have u38_ : T36_ 0 q4_ = 20 := (hx36_ q4_ (ty_ne u28_ u27_ (by decide)) 0).trans u28_
  have u39_ : T36_ 0 q11_ = 20 := (hx36_ q11_ (ty_ne u29_ u27_ (by decide)) 0).trans u29_
  have u40_ : T36_ 0 q26_ = 20 := (hx36_ q26_ (ty_ne tq26_ u27_ (by decide)) 0).trans tq26_
  have u41_ : T36_ 1 q4_ = 24 := (hx36_ q4_ (ty_ne u28_ u27_ (by decide)) 1).trans u30_
  have u42_ : T36_ 1 q11_ = 24 := (hx36_ q11_ (ty_ne u29_ u27_ (by decide)) 1).trans u31_
  have u43_ : T36_ 1 q26_ = 24 := (hx36_ q26_ (ty_ne tq26_ u27_ (by decide)) 1).trans tl26_
  have u44_ : T36_ 3 q4_ = 300 * o + 46 := (hx36_ q4_ (ty_ne u28_ u27_ (by decide)) 3).trans u32_
  have u45_ : T36_ 3 q11_ = 300 * o + 47 := (hx36_ q11_ (ty_ne u29_ u27_ (by decide)) 3).trans u33_
  have u46_ : T36_ 3 q26_ = 300 * o + 48 := (hx36_ q26_ (ty_ne tq26_ u27_ (by decide)) 3).trans tw26_
  have u47_ : T36_ 46 o = q4_ + 1 := (hj36_ 46 (by decide)).trans u34_
  have u48_ : T36_ 47 o = q11_ + 1 := (hj36_ 47 (by decide)).trans u35_
  refine j_aload_n E 44 rfl dX1_init_43 rfl (lv_at hl 0 rfl) ?_
  refine j_iload_n E 45 rfl dX1_init_44 rfl (lv_at hl 1 rfl) ?_
  refine rp_40 E hK hw hnm fl_X1_32 u37_ r_v_a 48 rfl dX1_init_45 (fun H locs hw => ?_)
  have hw : WK D cy T36_ (upV (upV (upV (upV (upV v_0 40 (upB (v_0 40) o v_a)) 43 (upB (v_0 43) o ((-1)))) 44 (upB (v_0 44) o 0)) 45 (upB (v_0 45) o ((-1)))) 300 y300_26) A0 s.heap H locs := cw_eq hw (by first | rfl | (funext j_; simp only [upV, reduceIte]; (repeat' split) <;> first | rfl | omega | (subst_vars; rfl)))
  refine j_aload_n E 49 rfl dX1_init_48 rfl (lv_at hl 0 rfl) ?_
  refine j_iload_n E 50 rfl dX1_init_49 rfl (lv_at hl 2 rfl) ?_
  refine rp_41 E hK hw hnm fl_X1_35 u37_ r_v_b 53 rfl dX1_init_50 (fun H locs hw => ?_)
  have hw : WK D cy T36_ (upV (upV (upV (upV (upV (upV v_0 40 (upB (v_0 40) o v_a)) 41 (upB (v_0 41) o v_b)) 43 (upB (v_0 43) o ((-1)))) 44 (upB (v_0 44) o 0)) 45 (upB (v_0 45) o ((-1)))) 300 y300_26) A0 s.heap H locs := cw_eq hw (by first | rfl | exact (funext fun j_ => if a40_ : j_ = 40 then (by subst a40_; rfl) else if a41_ : j_ = 41 then (by subst a41_; rfl) else if a43_ : j_ = 43 then (by subst a43_; rfl) else if a44_ : j_ = 44 then (by subst a44_; rfl) else if a45_ : j_ = 45 then (by subst a45_; rfl) else if a300_ : j_ = 300 then (by subst a300_; rfl) else (by simp only [upV, if_neg a40_, if_neg a41_, if_neg a43_, if_neg a44_, if_neg a45_, if_neg a300_])))
  refine j_aload_n E 54 rfl dX1_init_53 rfl (lv_at hl 0 rfl) ?_
  refine j_iload_n E 55 rfl dX1_init_54 rfl (lv_at hl 3 rfl) ?_
  refine rp_42 E hK hw hnm fl_X1_38 u37_ r_v_c 58 rfl dX1_init_55 (fun H locs hw => ?_)
  have hw : WK D cy T36_ (upV (upV (upV (upV (upV (upV (upV v_0 40 (upB (v_0 40) o v_a)) 41 (upB (v_0 41) o v_b)) 42 (upB (v_0 42) o v_c)) 43 (upB (v_0 43) o ((-1)))) 44 (upB (v_0 44) o 0)) 45 (upB (v_0 45) o ((-1)))) 300 y300_26) A0 s.heap H locs := cw_eq hw (by first | rfl | exact (funext fun j_ => if a40_ : j_ = 40 then (by subst a40_; rfl) else if a41_ : j_ = 41 then (by subst a41_; rfl) else if a42_ : j_ = 42 then (by subst a42_; rfl) else if a43_ : j_ = 43 then (by subst a43_; rfl) else if a44_ : j_ = 44 then (by subst a44_; rfl) else if a45_ : j_ = 45 then (by subst a45_; rfl) else if a300_ : j_ = 300 then (by subst a300_; rfl) else (by simp only [upV, if_neg a40_, if_neg a41_, if_neg a42_, if_neg a43_, if_neg a44_, if_neg a45_, if_neg a300_])))
  have hw0_ := hw
  obtain ⟨T52_, hx52_, tq52_, xe52_46_, xe52_47_, xe52_48_, ho52_, hw⟩ := pm_2 hw u37_ u47_ u38_ u41_ u44_ u48_ u39_ u42_ u45_ hk36_ u40_ u43_ u46_
  have hT52_ : WT T52_ := hw.1.2.1
  have hO52_ : ∀ x, ow T52_ x → κ 2 2 ≤ x := fun x h => hAc x (hw.2.1 x h)
  have hoT_ : OW T T52_ s.heap.size := OW.tr0 hoT_ ho52_
  have hR_ : ∀ b, b < sz → b ≠ o → ∀ k, T52_ k b = T k b := fun b_ h1_ h2_ k_ => (hx52_ b_ h2_ k_).trans (hR_ b_ h1_ h2_ k_)
  refine j_aload_n E 59 rfl dX1_init_58 rfl (lv_at hl 0 rfl) ?_
  refine g_46 E hK hw fl_X1_22 tq52_ 62 rfl dX1_init_59 ?_
  have ln53_ := wl_46 hT52_ tq52_
  refine j_iconst E 63 rfl dX1_init_62 ?_
  refine kS_v E (c_J7_fill_53178 l D cy T52_ (upV (upV (upV (upV (upV (upV (upV v_0 40 (upB (v_0 40) o v_a)) 41 (upB (v_0 41) o v_b)) 42 (upB (v_0 42) o v_c)) 43 (upB (v_0 43) o ((-1)))) 44 (upB (v_0 44) o 0)) 45 (upB (v_0 45) o ((-1)))) 300 y300_26) (T52_ 46 o) ((-1))   (wt_46 hT52_ tq52_) (rr (by decide)) ) ms_J7_fill_53178 ml_X1_41 hK hw hA ⟨Nat.le_of_ble_eq_true rfl, Nat.le_of_ble_eq_true rfl⟩ ⟨Nat.le_of_ble_eq_true rfl, Nat.le_of_ble_eq_true rfl⟩ (As := [.ref (T52_ 46 o), .int (J ((-1)))]) (rest := []) rfl rfl hl.1 (Nat.le_of_ble_eq_true rfl) 66 rfl dX1_init_63 (fun v_54 H locs hq54_ hw => ?_)
  obtain ⟨y300_54, ev54_, hh54_⟩ := hq54_
  rw [ev54_] at hw; clear ev54_
  have hw : WK D cy T52_ (upV (upV (upV (upV (upV (upV (upV v_0 40 (upB (v_0 40) o v_a)) 41 (upB (v_0 41) o v_b)) 42 (upB (v_0 42) o v_c)) 43 (upB (v_0 43) o ((-1)))) 44 (upB (v_0 44) o 0)) 45 (upB (v_0 45) o ((-1)))) 300 y300_54) A0 s.heap H locs := cw_eq hw (by first | rfl | exact (funext fun j_ => if a40_ : j_ = 40 then (by subst a40_; rfl) else if a41_ : j_ = 41 then (by subst a41_; rfl) else if a42_ : j_ = 42 then (by subst a42_; rfl) else if a43_ : j_ = 43 then (by subst a43_; rfl) else if a44_ : j_ = 44 then (by subst a44_; rfl) else if a45_ : j_ = 45 then (by subst a45_; rfl) else if a300_ : j_ = 300 then (by subst a300_; rfl) else (by simp only [upV, if_neg a40_, if_neg a41_, if_neg a42_, if_neg a43_, if_neg a44_, if_neg a45_, if_neg a300_])))
  refine j_aload_n E 67 rfl dX1_init_66 rfl (lv_at hl 0 rfl) ?_
  refine g_48 E hK hw fl_X1_29 tq52_ 70 rfl dX1_init_67 ?_
  have ln55_ := wl_48 hT52_ tq52_
  refine j_iconst E 71 rfl dX1_init_70 ?_
  refine kS_v E (c_J7_fill_53178 l D cy T52_ (upV (upV (upV (upV (upV (upV (upV v_0 40 (upB (v_0 40) o v_a)) 41 (upB (v_0 41) o v_b)) 42 (upB (v_0 42) o v_c)) 43 (upB (v_0 43) o ((-1)))) 44 (upB (v_0 44) o 0)) 45 (upB (v_0 45) o ((-1)))) 300 y300_54) (T52_ 48 o) ((-1))   (wt_48 hT52_ tq52_) (rr (by decide)) ) ms_J7_fill_53178 ml_X1_41 hK hw hA ⟨Nat.le_of_ble_eq_true rfl, Nat.le_of_ble_eq_true rfl⟩ ⟨Nat.le_of_ble_eq_true rfl, Nat.le_of_ble_eq_true rfl⟩ (As := [.ref (T52_ 48 o), .int (J ((-1)))]) (rest := []) rfl rfl hl.1 (Nat.le_of_ble_eq_true rfl) 74 rfl dX1_init_71 (fun v_56 H locs hq56_ hw => ?_)
  obtain ⟨y300_56, ev56_, hh56_⟩ := hq56_
  rw [ev56_] at hw; clear ev56_
  have hw : WK D cy T52_ (upV (upV (upV (upV (upV (upV (upV v_0 40 (upB (v_0 40) o v_a)) 41 (upB (v_0 41) o v_b)) 42 (upB (v_0 42) o v_c)) 43 (upB (v_0 43) o ((-1)))) 44 (upB (v_0 44) o 0)) 45 (upB (v_0 45) o ((-1)))) 300 y300_56) A0 s.heap H locs := cw_eq hw (by first | rfl | exact (funext fun j_ => if a40_ : j_ = 40 then (by subst a40_; rfl) else if a41_ : j_ = 41 then (by subst a41_; rfl) else if a42_ : j_ = 42 then (by subst a42_; rfl) else if a43_ : j_ = 43 then (by subst a43_; rfl) else if a44_ : j_ = 44 then (by subst a44_; rfl) else if a45_ : j_ = 45 then (by subst a45_; rfl) else if a300_ : j_ = 300 then (by subst a300_; rfl) else (by simp only [upV, if_neg a40_, if_neg a41_, if_neg a42_, if_neg a43_, if_neg a44_, if_neg a45_, if_neg a300_])))
  exact hret 74 T52_ (upV (upV (upV (upV (upV (upV (upV v_0 40 (upB (v_0 40) o v_a)) 41 (upB (v_0 41) o v_b)) 42 (upB (v_0 42) o v_c)) 43 (upB (v_0 43) o ((-1)))) 44 (upB (v_0 44) o 0)) 45 (upB (v_0 45) o ((-1)))) 300 y300_56) _ _ ls _ _ hw hoT_ ⟨(upB (v_0 40) o v_a), (upB (v_0 41) o v_b), (upB (v_0 42) o v_c), (upB (v_0 43) o ((-1))), (upB (v_0 44) o 0), (upB (v_0 45) o ((-1))), y300_56, rfl, ⟨hR_, tq52_⟩⟩ (Nat.le_of_ble_eq_true rfl) (Nat.le_of_ble_eq_true rfl) dX1_init_74
set_option maxHeartbeats 4000000 in
set_option maxRecDepth 100000 in
theorem n_X2_init (l : Launch) (D : va_G) (cy : Nat → ClassId) (κ T : Nat → Nat → Nat) (v_0 : Nat → Nat → Int) (o : Nat) (sz : Nat) (hO : ∀ x, ow T x → κ 2 2 ≤ x) (t_o : T 0 o = 103) : KA l D cy κ T yX2_init cX2_init 1 none 1 4 6524 [.ref o] v_0 sz (AV (fun (T_2 : Nat → Nat → Nat) (v_2 : Nat → Nat → Int) => ∃ (y64_2 : Nat → Int) (y65_2 : Nat → Int) (y66_2 : Nat → Int) (y300_2 : Nat → Int) , v_2 = upV (upV (upV (upV v_0 64 y64_2) 65 y65_2) 66 y66_2) 300 y300_2 ∧ ((∀ b, b < sz → b ≠ o → ∀ k, T_2 k b = T k b) ∧ T_2 0 o = 3))) := by
  refine KA.ofv (by decide) (Nat.le_of_ble_eq_true rfl) hO ?_
  intro p e s m below meth c ls ar QW A0 H locs E hK hZ hA hAc hsz hnm hw hlo_ hl hret
  have hl : lv_has ls 1 [(0, .ref o)] := hl
  have hT : WT T := hw.1.2.1
  have hoT_ : OW T T s.heap.size := OW.rf T _
  have hR_ : ∀ b, b < sz → b ≠ o → ∀ k, T k b = T k b := fun b _ _ k => rfl
  refine j_aload_n E 1 rfl dX2_init_0 rfl (lv_at hl 0 rfl) ?_
  refine W.objInit E.1 E.2.1 E.2.2.2.1 (E.2.2.2.2.1 _ mo_X2_3) (E.2.2.2.2.1 _ im_ob) (E.2.2.2.2.1 _ cd_ob) rfl (by rw [E.2.2.1]; exact hl.1) rfl dX2_init_1 (Nat.le_of_ble_eq_true rfl) (Nat.le_of_ble_eq_true rfl) ?_
  show W p l e (rmd 1 4 6524) s m ar below meth c H locs _ _ QW (F0 m 4 ls [])
  refine j_aload_n E 5 rfl dX2_init_4 rfl (lv_at hl 0 rfl) ?_
  refine j_sipush E 8 rfl dX2_init_5 (by decide) ?_
  have hw0_ := hw
  refine n_arr20 E hK hw hA (300 * o + 60) 6400 (by decide) (by decide) (Nat.le_of_ble_eq_true rfl) (Nat.le_of_ble_eq_true rfl) 10 rfl dX2_init_8 (fun q1_ T1_ y300_1 H hge1_ hx1_ ho1_ tq1_ tl1_ tw1_ yz1_ yo1_ hw => ?_)
  have fq1_ : s.heap.size ≤ q1_ := Nat.le_trans hw0_.2.2.1 hge1_
  have hw : WK D cy T1_ (upV v_0 300 y300_1) A0 s.heap H locs := cw_eq hw (by first | rfl | (funext j_; simp only [upV, reduceIte]; (repeat' split) <;> first | rfl | omega | (subst_vars; rfl)))
  have yo1_ : ∀ b, b ≠ q1_ → ∀ i, y300_1 (pr b i) = v_0 300 (pr b i) := yo1_
  have hT1_ : WT T1_ := hw.1.2.1
  have hO1_ : ∀ x, ow T1_ x → κ 2 2 ≤ x := fun x h => hAc x (hw.2.1 x h)
  have hoT_ : OW T T1_ s.heap.size := OW.tr hw0_.2.2.1 hoT_ ho1_
  have hR_ : ∀ b, b < sz → b ≠ o → ∀ k, T1_ k b = T k b := fun b_ h1_ h2_ k_ => (hx1_ b_ (by have := hw0_.2.2.1; have := hge1_; omega) k_).trans (hR_ b_ h1_ h2_ k_)
  have u2_ : T1_ 0 o = 103 := (hx1_ o (Nat.ne_of_lt (Nat.lt_of_lt_of_le (cw_lt hw0_.1 t_o (fun _ _ _ => ⟨_, rfl⟩)) hge1_)) 0).trans t_o
  have hw0_ := hw
  refine rr_60 E hK hw hnm fl_X2_11 u2_ 13 rfl dX2_init_10 (fun T3_ H locs hx3_ hj3_ hk3_ ho3_ hw => ?_)
  have hT3_ : WT T3_ := hw.1.2.1
  have hO3_ : ∀ x, ow T3_ x → κ 2 2 ≤ x := fun x h => hAc x (hw.2.1 x h)
  have hoT_ : OW T T3_ s.heap.size := OW.tr0 hoT_ ho3_
  have hR_ : ∀ b, b < sz → b ≠ o → ∀ k, T3_ k b = T k b := fun b_ h1_ h2_ k_ => (hx3_ b_ h2_ k_).trans (hR_ b_ h1_ h2_ k_)
  have u4_ : T3_ 0 o = 103 := (hj3_ 0 (by decide)).trans u2_
  have u5_ : T3_ 0 q1_ = 20 := (hx3_ q1_ (ty_ne tq1_ u2_ (by decide)) 0).trans tq1_
  have u6_ : T3_ 1 q1_ = 6400 := (hx3_ q1_ (ty_ne tq1_ u2_ (by decide)) 1).trans tl1_
  have u7_ : T3_ 3 q1_ = 300 * o + 60 := (hx3_ q1_ (ty_ne tq1_ u2_ (by decide)) 3).trans tw1_
  refine j_aload_n E 14 rfl dX2_init_13 rfl (lv_at hl 0 rfl) ?_
  refine j_bipush E 16 rfl dX2_init_14 (by decide) ?_
  have hw0_ := hw
  refine n_arr20 E hK hw hA (300 * o + 61) 96 (by decide) (by decide) (Nat.le_of_ble_eq_true rfl) (Nat.le_of_ble_eq_true rfl) 18 rfl dX2_init_16 (fun q8_ T8_ y300_8 H hge8_ hx8_ ho8_ tq8_ tl8_ tw8_ yz8_ yo8_ hw => ?_)
  have fq8_ : s.heap.size ≤ q8_ := Nat.le_trans hw0_.2.2.1 hge8_
  have hw : WK D cy T8_ (upV v_0 300 y300_8) A0 s.heap H locs := cw_eq hw (by first | rfl | (funext j_; simp only [upV, reduceIte]; (repeat' split) <;> first | rfl | omega | (subst_vars; rfl)))
  have yo8_ : ∀ b, b ≠ q8_ → ∀ i, y300_8 (pr b i) = y300_1 (pr b i) := yo8_
  have hT8_ : WT T8_ := hw.1.2.1
  have hO8_ : ∀ x, ow T8_ x → κ 2 2 ≤ x := fun x h => hAc x (hw.2.1 x h)
  have hoT_ : OW T T8_ s.heap.size := OW.tr hw0_.2.2.1 hoT_ ho8_
  have hR_ : ∀ b, b < sz → b ≠ o → ∀ k, T8_ k b = T k b := fun b_ h1_ h2_ k_ => (hx8_ b_ (by have := hw0_.2.2.1; have := hge8_; omega) k_).trans (hR_ b_ h1_ h2_ k_)
  have u9_ : T8_ 0 o = 103 := (hx8_ o (Nat.ne_of_lt (Nat.lt_of_lt_of_le (cw_lt hw0_.1 u4_ (fun _ _ _ => ⟨_, rfl⟩)) hge8_)) 0).trans u4_
  have u10_ : T8_ 0 q1_ = 20 := (hx8_ q1_ (Nat.ne_of_lt (Nat.lt_of_lt_of_le (cw_lt hw0_.1 u5_ (fun _ _ _ => ⟨_, rfl⟩)) hge8_)) 0).trans u5_
  have u11_ : T8_ 1 q1_ = 6400 := (hx8_ q1_ (Nat.ne_of_lt (Nat.lt_of_lt_of_le (cw_lt hw0_.1 u5_ (fun _ _ _ => ⟨_, rfl⟩)) hge8_)) 1).trans u6_
  have u12_ : T8_ 3 q1_ = 300 * o + 60 := (hx8_ q1_ (Nat.ne_of_lt (Nat.lt_of_lt_of_le (cw_lt hw0_.1 u5_ (fun _ _ _ => ⟨_, rfl⟩)) hge8_)) 3).trans u7_
  have u13_ : T8_ 60 o = q1_ + 1 := (hx8_ o (Nat.ne_of_lt (Nat.lt_of_lt_of_le (cw_lt hw0_.1 u4_ (fun _ _ _ => ⟨_, rfl⟩)) hge8_)) 60).trans hk3_
  have hw0_ := hw
  refine rr_61 E hK hw hnm fl_X2_15 u9_ 21 rfl dX2_init_18 (fun T14_ H locs hx14_ hj14_ hk14_ ho14_ hw => ?_)
  have hT14_ : WT T14_ := hw.1.2.1
  have hO14_ : ∀ x, ow T14_ x → κ 2 2 ≤ x := fun x h => hAc x (hw.2.1 x h)
  have hoT_ : OW T T14_ s.heap.size := OW.tr0 hoT_ ho14_
  have hR_ : ∀ b, b < sz → b ≠ o → ∀ k, T14_ k b = T k b := fun b_ h1_ h2_ k_ => (hx14_ b_ h2_ k_).trans (hR_ b_ h1_ h2_ k_)
  have u15_ : T14_ 0 o = 103 := (hj14_ 0 (by decide)).trans u9_
  have u16_ : T14_ 0 q1_ = 20 := (hx14_ q1_ (ty_ne u10_ u9_ (by decide)) 0).trans u10_
  have u17_ : T14_ 0 q8_ = 20 := (hx14_ q8_ (ty_ne tq8_ u9_ (by decide)) 0).trans tq8_
  have u18_ : T14_ 1 q1_ = 6400 := (hx14_ q1_ (ty_ne u10_ u9_ (by decide)) 1).trans u11_
  have u19_ : T14_ 1 q8_ = 96 := (hx14_ q8_ (ty_ne tq8_ u9_ (by decide)) 1).trans tl8_
  have u20_ : T14_ 3 q1_ = 300 * o + 60 := (hx14_ q1_ (ty_ne u10_ u9_ (by decide)) 3).trans u12_
  have u21_ : T14_ 3 q8_ = 300 * o + 61 := (hx14_ q8_ (ty_ne tq8_ u9_ (by decide)) 3).trans tw8_
  have u22_ : T14_ 60 o = q1_ + 1 := (hj14_ 60 (by decide)).trans u13_
  refine j_aload_n E 22 rfl dX2_init_21 rfl (lv_at hl 0 rfl) ?_
  refine j_iconst E 23 rfl dX2_init_22 ?_
  have hw0_ := hw
  refine n_arr20 E hK hw hA (300 * o + 62) 4 (by decide) (by decide) (Nat.le_of_ble_eq_true rfl) (Nat.le_of_ble_eq_true rfl) 25 rfl dX2_init_23 (fun q23_ T23_ y300_23 H hge23_ hx23_ ho23_ tq23_ tl23_ tw23_ yz23_ yo23_ hw => ?_)
  have fq23_ : s.heap.size ≤ q23_ := Nat.le_trans hw0_.2.2.1 hge23_
  have hw : WK D cy T23_ (upV v_0 300 y300_23) A0 s.heap H locs := cw_eq hw (by first | rfl | (funext j_; simp only [upV, reduceIte]; (repeat' split) <;> first | rfl | omega | (subst_vars; rfl)))
  have yo23_ : ∀ b, b ≠ q23_ → ∀ i, y300_23 (pr b i) = y300_8 (pr b i) := yo23_
  have hT23_ : WT T23_ := hw.1.2.1
  have hO23_ : ∀ x, ow T23_ x → κ 2 2 ≤ x := fun x h => hAc x (hw.2.1 x h)
  have hoT_ : OW T T23_ s.heap.size := OW.tr hw0_.2.2.1 hoT_ ho23_
  have hR_ : ∀ b, b < sz → b ≠ o → ∀ k, T23_ k b = T k b := fun b_ h1_ h2_ k_ => (hx23_ b_ (by have := hw0_.2.2.1; have := hge23_; omega) k_).trans (hR_ b_ h1_ h2_ k_)
  have u24_ : T23_ 0 o = 103 := (hx23_ o (Nat.ne_of_lt (Nat.lt_of_lt_of_le (cw_lt hw0_.1 u15_ (fun _ _ _ => ⟨_, rfl⟩)) hge23_)) 0).trans u15_
  have u25_ : T23_ 0 q1_ = 20 := (hx23_ q1_ (Nat.ne_of_lt (Nat.lt_of_lt_of_le (cw_lt hw0_.1 u16_ (fun _ _ _ => ⟨_, rfl⟩)) hge23_)) 0).trans u16_
  have u26_ : T23_ 0 q8_ = 20 := (hx23_ q8_ (Nat.ne_of_lt (Nat.lt_of_lt_of_le (cw_lt hw0_.1 u17_ (fun _ _ _ => ⟨_, rfl⟩)) hge23_)) 0).trans u17_
  have u27_ : T23_ 1 q1_ = 6400 := (hx23_ q1_ (Nat.ne_of_lt (Nat.lt_of_lt_of_le (cw_lt hw0_.1 u16_ (fun _ _ _ => ⟨_, rfl⟩)) hge23_)) 1).trans u18_
  have u28_ : T23_ 1 q8_ = 96 := (hx23_ q8_ (Nat.ne_of_lt (Nat.lt_of_lt_of_le (cw_lt hw0_.1 u17_ (fun _ _ _ => ⟨_, rfl⟩)) hge23_)) 1).trans u19_
  have u29_ : T23_ 3 q1_ = 300 * o + 60 := (hx23_ q1_ (Nat.ne_of_lt (Nat.lt_of_lt_of_le (cw_lt hw0_.1 u16_ (fun _ _ _ => ⟨_, rfl⟩)) hge23_)) 3).trans u20_
  have u30_ : T23_ 3 q8_ = 300 * o + 61 := (hx23_ q8_ (Nat.ne_of_lt (Nat.lt_of_lt_of_le (cw_lt hw0_.1 u17_ (fun _ _ _ => ⟨_, rfl⟩)) hge23_)) 3).trans u21_
  have u31_ : T23_ 60 o = q1_ + 1 := (hx23_ o (Nat.ne_of_lt (Nat.lt_of_lt_of_le (cw_lt hw0_.1 u15_ (fun _ _ _ => ⟨_, rfl⟩)) hge23_)) 60).trans u22_
  have u32_ : T23_ 61 o = q8_ + 1 := (hx23_ o (Nat.ne_of_lt (Nat.lt_of_lt_of_le (cw_lt hw0_.1 u15_ (fun _ _ _ => ⟨_, rfl⟩)) hge23_)) 61).trans hk14_
  have hw0_ := hw
  refine rr_62 E hK hw hnm fl_X2_18 u24_ 28 rfl dX2_init_25 (fun T33_ H locs hx33_ hj33_ hk33_ ho33_ hw => ?_)
  have hT33_ : WT T33_ := hw.1.2.1
  have hO33_ : ∀ x, ow T33_ x → κ 2 2 ≤ x := fun x h => hAc x (hw.2.1 x h)
  have hoT_ : OW T T33_ s.heap.size := OW.tr0 hoT_ ho33_
  have hR_ : ∀ b, b < sz → b ≠ o → ∀ k, T33_ k b = T k b := fun b_ h1_ h2_ k_ => (hx33_ b_ h2_ k_).trans (hR_ b_ h1_ h2_ k_)
  have u34_ : T33_ 0 o = 103 := (hj33_ 0 (by decide)).trans u24_
  have u35_ : T33_ 0 q1_ = 20 := (hx33_ q1_ (ty_ne u25_ u24_ (by decide)) 0).trans u25_
  have u36_ : T33_ 0 q8_ = 20 := (hx33_ q8_ (ty_ne u26_ u24_ (by decide)) 0).trans u26_
  have u37_ : T33_ 0 q23_ = 20 := (hx33_ q23_ (ty_ne tq23_ u24_ (by decide)) 0).trans tq23_
  have u38_ : T33_ 1 q1_ = 6400 := (hx33_ q1_ (ty_ne u25_ u24_ (by decide)) 1).trans u27_
  have u39_ : T33_ 1 q8_ = 96 := (hx33_ q8_ (ty_ne u26_ u24_ (by decide)) 1).trans u28_
  have u40_ : T33_ 1 q23_ = 4 := (hx33_ q23_ (ty_ne tq23_ u24_ (by decide)) 1).trans tl23_
  have u41_ : T33_ 3 q1_ = 300 * o + 60 := (hx33_ q1_ (ty_ne u25_ u24_ (by decide)) 3).trans u29_
  have u42_ : T33_ 3 q8_ = 300 * o + 61 := (hx33_ q8_ (ty_ne u26_ u24_ (by decide)) 3).trans u30_
  have u43_ : T33_ 3 q23_ = 300 * o + 62 := (hx33_ q23_ (ty_ne tq23_ u24_ (by decide)) 3).trans tw23_
  have u44_ : T33_ 60 o = q1_ + 1 := (hj33_ 60 (by decide)).trans u31_
  have u45_ : T33_ 61 o = q8_ + 1 := (hj33_ 61 (by decide)).trans u32_
  refine j_aload_n E 29 rfl dX2_init_28 rfl (lv_at hl 0 rfl) ?_
  refine j_bipush E 31 rfl dX2_init_29 (by decide) ?_
  have hw0_ := hw
  refine n_arr20 E hK hw hA (300 * o + 63) 24 (by decide) (by decide) (Nat.le_of_ble_eq_true rfl) (Nat.le_of_ble_eq_true rfl) 33 rfl dX2_init_31 (fun q46_ T46_ y300_46 H hge46_ hx46_ ho46_ tq46_ tl46_ tw46_ yz46_ yo46_ hw => ?_)
  have fq46_ : s.heap.size ≤ q46_ := Nat.le_trans hw0_.2.2.1 hge46_
  have hw : WK D cy T46_ (upV v_0 300 y300_46) A0 s.heap H locs := cw_eq hw (by first | rfl | (funext j_; simp only [upV, reduceIte]; (repeat' split) <;> first | rfl | omega | (subst_vars; rfl)))
  have yo46_ : ∀ b, b ≠ q46_ → ∀ i, y300_46 (pr b i) = y300_23 (pr b i) := yo46_
  have hT46_ : WT T46_ := hw.1.2.1
  have hO46_ : ∀ x, ow T46_ x → κ 2 2 ≤ x := fun x h => hAc x (hw.2.1 x h)
  have hoT_ : OW T T46_ s.heap.size := OW.tr hw0_.2.2.1 hoT_ ho46_
  have hR_ : ∀ b, b < sz → b ≠ o → ∀ k, T46_ k b = T k b := fun b_ h1_ h2_ k_ => (hx46_ b_ (by have := hw0_.2.2.1; have := hge46_; omega) k_).trans (hR_ b_ h1_ h2_ k_)
  have u47_ : T46_ 0 o = 103 := (hx46_ o (Nat.ne_of_lt (Nat.lt_of_lt_of_le (cw_lt hw0_.1 u34_ (fun _ _ _ => ⟨_, rfl⟩)) hge46_)) 0).trans u34_
  have u48_ : T46_ 0 q1_ = 20 := (hx46_ q1_ (Nat.ne_of_lt (Nat.lt_of_lt_of_le (cw_lt hw0_.1 u35_ (fun _ _ _ => ⟨_, rfl⟩)) hge46_)) 0).trans u35_
  have u49_ : T46_ 0 q8_ = 20 := (hx46_ q8_ (Nat.ne_of_lt (Nat.lt_of_lt_of_le (cw_lt hw0_.1 u36_ (fun _ _ _ => ⟨_, rfl⟩)) hge46_)) 0).trans u36_
  have u50_ : T46_ 0 q23_ = 20 := (hx46_ q23_ (Nat.ne_of_lt (Nat.lt_of_lt_of_le (cw_lt hw0_.1 u37_ (fun _ _ _ => ⟨_, rfl⟩)) hge46_)) 0).trans u37_
  have u51_ : T46_ 1 q1_ = 6400 := (hx46_ q1_ (Nat.ne_of_lt (Nat.lt_of_lt_of_le (cw_lt hw0_.1 u35_ (fun _ _ _ => ⟨_, rfl⟩)) hge46_)) 1).trans u38_
  have u52_ : T46_ 1 q8_ = 96 := (hx46_ q8_ (Nat.ne_of_lt (Nat.lt_of_lt_of_le (cw_lt hw0_.1 u36_ (fun _ _ _ => ⟨_, rfl⟩)) hge46_)) 1).trans u39_
  have u53_ : T46_ 1 q23_ = 4 := (hx46_ q23_ (Nat.ne_of_lt (Nat.lt_of_lt_of_le (cw_lt hw0_.1 u37_ (fun _ _ _ => ⟨_, rfl⟩)) hge46_)) 1).trans u40_
  have u54_ : T46_ 3 q1_ = 300 * o + 60 := (hx46_ q1_ (Nat.ne_of_lt (Nat.lt_of_lt_of_le (cw_lt hw0_.1 u35_ (fun _ _ _ => ⟨_, rfl⟩)) hge46_)) 3).trans u41_
  have u55_ : T46_ 3 q8_ = 300 * o + 61 := (hx46_ q8_ (Nat.ne_of_lt (Nat.lt_of_lt_of_le (cw_lt hw0_.1 u36_ (fun _ _ _ => ⟨_, rfl⟩)) hge46_)) 3).trans u42_
  have u56_ : T46_ 3 q23_ = 300 * o + 62 := (hx46_ q23_ (Nat.ne_of_lt (Nat.lt_of_lt_of_le (cw_lt hw0_.1 u37_ (fun _ _ _ => ⟨_, rfl⟩)) hge46_)) 3).trans u43_
  have u57_ : T46_ 60 o = q1_ + 1 := (hx46_ o (Nat.ne_of_lt (Nat.lt_of_lt_of_le (cw_lt hw0_.1 u34_ (fun _ _ _ => ⟨_, rfl⟩)) hge46_)) 60).trans u44_
  have u58_ : T46_ 61 o = q8_ + 1 := (hx46_ o (Nat.ne_of_lt (Nat.lt_of_lt_of_le (cw_lt hw0_.1 u34_ (fun _ _ _ => ⟨_, rfl⟩)) hge46_)) 61).trans u45_
  have u59_ : T46_ 62 o = q23_ + 1 := (hx46_ o (Nat.ne_of_lt (Nat.lt_of_lt_of_le (cw_lt hw0_.1 u34_ (fun _ _ _ => ⟨_, rfl⟩)) hge46_)) 62).trans hk33_
  have hw0_ := hw
  refine rr_63 E hK hw hnm fl_X2_21 u47_ 36 rfl dX2_init_33 (fun T60_ H locs hx60_ hj60_ hk60_ ho60_ hw => ?_)
  have hT60_ : WT T60_ := hw.1.2.1
  have hO60_ : ∀ x, ow T60_ x → κ 2 2 ≤ x := fun x h => hAc x (hw.2.1 x h)
  have hoT_ : OW T T60_ s.heap.size := OW.tr0 hoT_ ho60_
  have hR_ : ∀ b, b < sz → b ≠ o → ∀ k, T60_ k b = T k b := fun b_ h1_ h2_ k_ => (hx60_ b_ h2_ k_).trans (hR_ b_ h1_ h2_ k_)
  have u61_ : T60_ 0 o = 103 := (hj60_ 0 (by decide)).trans u47_
  have u62_ : T60_ 0 q1_ = 20 := (hx60_ q1_ (ty_ne u48_ u47_ (by decide)) 0).trans u48_
  have u63_ : T60_ 0 q8_ = 20 := (hx60_ q8_ (ty_ne u49_ u47_ (by decide)) 0).trans u49_
  have u64_ : T60_ 0 q23_ = 20 := (hx60_ q23_ (ty_ne u50_ u47_ (by decide)) 0).trans u50_
  have u65_ : T60_ 0 q46_ = 20 := (hx60_ q46_ (ty_ne tq46_ u47_ (by decide)) 0).trans tq46_
  have u66_ : T60_ 1 q1_ = 6400 := (hx60_ q1_ (ty_ne u48_ u47_ (by decide)) 1).trans u51_
  have u67_ : T60_ 1 q8_ = 96 := (hx60_ q8_ (ty_ne u49_ u47_ (by decide)) 1).trans u52_
  have u68_ : T60_ 1 q23_ = 4 := (hx60_ q23_ (ty_ne u50_ u47_ (by decide)) 1).trans u53_
  have u69_ : T60_ 1 q46_ = 24 := (hx60_ q46_ (ty_ne tq46_ u47_ (by decide)) 1).trans tl46_
  have u70_ : T60_ 3 q1_ = 300 * o + 60 := (hx60_ q1_ (ty_ne u48_ u47_ (by decide)) 3).trans u54_
  have u71_ : T60_ 3 q8_ = 300 * o + 61 := (hx60_ q8_ (ty_ne u49_ u47_ (by decide)) 3).trans u55_
  have u72_ : T60_ 3 q23_ = 300 * o + 62 := (hx60_ q23_ (ty_ne u50_ u47_ (by decide)) 3).trans u56_
  have u73_ : T60_ 3 q46_ = 300 * o + 63 := (hx60_ q46_ (ty_ne tq46_ u47_ (by decide)) 3).trans tw46_
  have u74_ : T60_ 60 o = q1_ + 1 := (hj60_ 60 (by decide)).trans u57_
  have u75_ : T60_ 61 o = q8_ + 1 := (hj60_ 61 (by decide)).trans u58_
  have u76_ : T60_ 62 o = q23_ + 1 := (hj60_ 62 (by decide)).trans u59_
  refine j_aload_n E 37 rfl dX2_init_36 rfl (lv_at hl 0 rfl) ?_
  refine j_iconst E 38 rfl dX2_init_37 ?_
  refine rp_64 E hK hw fl_X2_24 u61_ (rr (by decide)) 41 rfl dX2_init_38 (fun H locs hw => ?_)
  have hw : WK D cy T60_ (upV (upV v_0 64 (upB (v_0 64) o 0)) 300 y300_46) A0 s.heap H locs := cw_eq hw (by first | rfl | (funext j_; simp only [upV, reduceIte]; (repeat' split) <;> first | rfl | omega | (subst_vars; rfl)))
  refine j_aload_n E 42 rfl dX2_init_41 rfl (lv_at hl 0 rfl) ?_
  refine j_iconst E 43 rfl dX2_init_42 ?_
  refine rp_65 E hK hw fl_X2_28 u61_ (rr (by decide)) 46 rfl dX2_init_43 (fun H locs hw => ?_)
  have hw : WK D cy T60_ (upV (upV (upV v_0 64 (upB (v_0 64) o 0)) 65 (upB (v_0 65) o 0)) 300 y300_46) A0 s.heap H locs := cw_eq hw (by first | rfl | (funext j_; simp only [upV, reduceIte]; (repeat' split) <;> first | rfl | omega | (subst_vars; rfl)))
  refine j_aload_n E 47 rfl dX2_init_46 rfl (lv_at hl 0 rfl) ?_
  refine j_iconst E 48 rfl dX2_init_47 ?_
  refine rp_66 E hK hw fl_X2_31 u61_ (rr (by decide)) 51 rfl dX2_init_48 (fun H locs hw => ?_)
  have hw : WK D cy T60_ (upV (upV (upV (upV v_0 64 (upB (v_0 64) o 0)) 65 (upB (v_0 65) o 0)) 66 (upB (v_0 66) o 0)) 300 y300_46) A0 s.heap H locs := cw_eq hw (by first | rfl | (funext j_; simp only [upV, reduceIte]; (repeat' split) <;> first | rfl | omega | (subst_vars; rfl)))
  have hw0_ := hw
  obtain ⟨T80_, hx80_, tq80_, xe80_60_, xe80_61_, xe80_62_, xe80_63_, ho80_, hw⟩ := pm_3 hw u61_ u74_ u62_ u66_ u70_ u75_ u63_ u67_ u71_ u76_ u64_ u68_ u72_ hk60_ u65_ u69_ u73_
  have hT80_ : WT T80_ := hw.1.2.1
  have hO80_ : ∀ x, ow T80_ x → κ 2 2 ≤ x := fun x h => hAc x (hw.2.1 x h)
  have hoT_ : OW T T80_ s.heap.size := OW.tr0 hoT_ ho80_
  have hR_ : ∀ b, b < sz → b ≠ o → ∀ k, T80_ k b = T k b := fun b_ h1_ h2_ k_ => (hx80_ b_ h2_ k_).trans (hR_ b_ h1_ h2_ k_)
  exact hret 51 T80_ (upV (upV (upV (upV v_0 64 (upB (v_0 64) o 0)) 65 (upB (v_0 65) o 0)) 66 (upB (v_0 66) o 0)) 300 y300_46) _ _ ls _ _ hw hoT_ ⟨(upB (v_0 64) o 0), (upB (v_0 65) o 0), (upB (v_0 66) o 0), y300_46, rfl, ⟨hR_, tq80_⟩⟩ (Nat.le_of_ble_eq_true rfl) (Nat.le_of_ble_eq_true rfl) dX2_init_51
set_option maxHeartbeats 4000000 in
set_option maxRecDepth 100000 in
theorem n_X4_init (l : Launch) (D : va_G) (cy : Nat → ClassId) (κ T : Nat → Nat → Nat) (v_0 : Nat → Nat → Int) (o : Nat) (sz : Nat) (hO : ∀ x, ow T x → κ 2 2 ≤ x) (t_o : T 0 o = 105) : KA l D cy κ T yX4_init cX4_init 1 none 1 3 61 [.ref o] v_0 sz (AV (fun (T_2 : Nat → Nat → Nat) (v_2 : Nat → Nat → Int) => ∃ (y103_2 : Nat → Int) (y300_2 : Nat → Int) , v_2 = upV (upV v_0 103 y103_2) 300 y300_2 ∧ ((∀ b, b < sz → b ≠ o → ∀ k, T_2 k b = T k b) ∧ T_2 0 o = 5))) := by
  refine KA.ofv (by decide) (Nat.le_of_ble_eq_true rfl) hO ?_
  intro p e s m below meth c ls ar QW A0 H locs E hK hZ hA hAc hsz hnm hw hlo_ hl hret
  have hl : lv_has ls 1 [(0, .ref o)] := hl
  have hT : WT T := hw.1.2.1
  have hoT_ : OW T T s.heap.size := OW.rf T _
  have hR_ : ∀ b, b < sz → b ≠ o → ∀ k, T k b = T k b := fun b _ _ k => rfl
  refine j_aload_n E 1 rfl dX4_init_0 rfl (lv_at hl 0 rfl) ?_
  refine W.objInit E.1 E.2.1 E.2.2.2.1 (E.2.2.2.2.1 _ mo_X4_3) (E.2.2.2.2.1 _ im_ob) (E.2.2.2.2.1 _ cd_ob) rfl (by rw [E.2.2.1]; exact hl.1) rfl dX4_init_1 (Nat.le_of_ble_eq_true rfl) (Nat.le_of_ble_eq_true rfl) ?_
  show W p l e (rmd 1 3 61) s m ar below meth c H locs _ _ QW (F0 m 4 ls [])
  refine j_aload_n E 5 rfl dX4_init_4 rfl (lv_at hl 0 rfl) ?_
  refine j_iconst E 6 rfl dX4_init_5 ?_
  have hw0_ := hw
  refine n_arr20 E hK hw hA (300 * o + 100) 5 (by decide) (by decide) (Nat.le_of_ble_eq_true rfl) (Nat.le_of_ble_eq_true rfl) 8 rfl dX4_init_6 (fun q1_ T1_ y300_1 H hge1_ hx1_ ho1_ tq1_ tl1_ tw1_ yz1_ yo1_ hw => ?_)
  have fq1_ : s.heap.size ≤ q1_ := Nat.le_trans hw0_.2.2.1 hge1_
  have hw : WK D cy T1_ (upV v_0 300 y300_1) A0 s.heap H locs := cw_eq hw (by first | rfl | (funext j_; simp only [upV, reduceIte]; (repeat' split) <;> first | rfl | omega | (subst_vars; rfl)))
  have yo1_ : ∀ b, b ≠ q1_ → ∀ i, y300_1 (pr b i) = v_0 300 (pr b i) := yo1_
  have hT1_ : WT T1_ := hw.1.2.1
  have hO1_ : ∀ x, ow T1_ x → κ 2 2 ≤ x := fun x h => hAc x (hw.2.1 x h)
  have hoT_ : OW T T1_ s.heap.size := OW.tr hw0_.2.2.1 hoT_ ho1_
  have hR_ : ∀ b, b < sz → b ≠ o → ∀ k, T1_ k b = T k b := fun b_ h1_ h2_ k_ => (hx1_ b_ (by have := hw0_.2.2.1; have := hge1_; omega) k_).trans (hR_ b_ h1_ h2_ k_)
  have u2_ : T1_ 0 o = 105 := (hx1_ o (Nat.ne_of_lt (Nat.lt_of_lt_of_le (cw_lt hw0_.1 t_o (fun _ _ _ => ⟨_, rfl⟩)) hge1_)) 0).trans t_o
  have hw0_ := hw
  refine rr_100 E hK hw hnm fl_X4_11 u2_ 11 rfl dX4_init_8 (fun T3_ H locs hx3_ hj3_ hk3_ ho3_ hw => ?_)
  have hT3_ : WT T3_ := hw.1.2.1
  have hO3_ : ∀ x, ow T3_ x → κ 2 2 ≤ x := fun x h => hAc x (hw.2.1 x h)
  have hoT_ : OW T T3_ s.heap.size := OW.tr0 hoT_ ho3_
  have hR_ : ∀ b, b < sz → b ≠ o → ∀ k, T3_ k b = T k b := fun b_ h1_ h2_ k_ => (hx3_ b_ h2_ k_).trans (hR_ b_ h1_ h2_ k_)
  have u4_ : T3_ 0 o = 105 := (hj3_ 0 (by decide)).trans u2_
  have u5_ : T3_ 0 q1_ = 20 := (hx3_ q1_ (ty_ne tq1_ u2_ (by decide)) 0).trans tq1_
  have u6_ : T3_ 1 q1_ = 5 := (hx3_ q1_ (ty_ne tq1_ u2_ (by decide)) 1).trans tl1_
  have u7_ : T3_ 3 q1_ = 300 * o + 100 := (hx3_ q1_ (ty_ne tq1_ u2_ (by decide)) 3).trans tw1_
  refine j_aload_n E 12 rfl dX4_init_11 rfl (lv_at hl 0 rfl) ?_
  refine j_bipush E 14 rfl dX4_init_12 (by decide) ?_
  have hw0_ := hw
  refine n_arr20 E hK hw hA (300 * o + 101) 24 (by decide) (by decide) (Nat.le_of_ble_eq_true rfl) (Nat.le_of_ble_eq_true rfl) 16 rfl dX4_init_14 (fun q8_ T8_ y300_8 H hge8_ hx8_ ho8_ tq8_ tl8_ tw8_ yz8_ yo8_ hw => ?_)
  have fq8_ : s.heap.size ≤ q8_ := Nat.le_trans hw0_.2.2.1 hge8_
  have hw : WK D cy T8_ (upV v_0 300 y300_8) A0 s.heap H locs := cw_eq hw (by first | rfl | (funext j_; simp only [upV, reduceIte]; (repeat' split) <;> first | rfl | omega | (subst_vars; rfl)))
  have yo8_ : ∀ b, b ≠ q8_ → ∀ i, y300_8 (pr b i) = y300_1 (pr b i) := yo8_
  have hT8_ : WT T8_ := hw.1.2.1
  have hO8_ : ∀ x, ow T8_ x → κ 2 2 ≤ x := fun x h => hAc x (hw.2.1 x h)
  have hoT_ : OW T T8_ s.heap.size := OW.tr hw0_.2.2.1 hoT_ ho8_
  have hR_ : ∀ b, b < sz → b ≠ o → ∀ k, T8_ k b = T k b := fun b_ h1_ h2_ k_ => (hx8_ b_ (by have := hw0_.2.2.1; have := hge8_; omega) k_).trans (hR_ b_ h1_ h2_ k_)
  have u9_ : T8_ 0 o = 105 := (hx8_ o (Nat.ne_of_lt (Nat.lt_of_lt_of_le (cw_lt hw0_.1 u4_ (fun _ _ _ => ⟨_, rfl⟩)) hge8_)) 0).trans u4_
  have u10_ : T8_ 0 q1_ = 20 := (hx8_ q1_ (Nat.ne_of_lt (Nat.lt_of_lt_of_le (cw_lt hw0_.1 u5_ (fun _ _ _ => ⟨_, rfl⟩)) hge8_)) 0).trans u5_
  have u11_ : T8_ 1 q1_ = 5 := (hx8_ q1_ (Nat.ne_of_lt (Nat.lt_of_lt_of_le (cw_lt hw0_.1 u5_ (fun _ _ _ => ⟨_, rfl⟩)) hge8_)) 1).trans u6_
  have u12_ : T8_ 3 q1_ = 300 * o + 100 := (hx8_ q1_ (Nat.ne_of_lt (Nat.lt_of_lt_of_le (cw_lt hw0_.1 u5_ (fun _ _ _ => ⟨_, rfl⟩)) hge8_)) 3).trans u7_
  have u13_ : T8_ 100 o = q1_ + 1 := (hx8_ o (Nat.ne_of_lt (Nat.lt_of_lt_of_le (cw_lt hw0_.1 u4_ (fun _ _ _ => ⟨_, rfl⟩)) hge8_)) 100).trans hk3_
  have hw0_ := hw
  refine rr_101 E hK hw hnm fl_X4_17 u9_ 19 rfl dX4_init_16 (fun T14_ H locs hx14_ hj14_ hk14_ ho14_ hw => ?_)
  have hT14_ : WT T14_ := hw.1.2.1
  have hO14_ : ∀ x, ow T14_ x → κ 2 2 ≤ x := fun x h => hAc x (hw.2.1 x h)
  have hoT_ : OW T T14_ s.heap.size := OW.tr0 hoT_ ho14_
  have hR_ : ∀ b, b < sz → b ≠ o → ∀ k, T14_ k b = T k b := fun b_ h1_ h2_ k_ => (hx14_ b_ h2_ k_).trans (hR_ b_ h1_ h2_ k_)
  have u15_ : T14_ 0 o = 105 := (hj14_ 0 (by decide)).trans u9_
  have u16_ : T14_ 0 q1_ = 20 := (hx14_ q1_ (ty_ne u10_ u9_ (by decide)) 0).trans u10_
  have u17_ : T14_ 0 q8_ = 20 := (hx14_ q8_ (ty_ne tq8_ u9_ (by decide)) 0).trans tq8_
  have u18_ : T14_ 1 q1_ = 5 := (hx14_ q1_ (ty_ne u10_ u9_ (by decide)) 1).trans u11_
  have u19_ : T14_ 1 q8_ = 24 := (hx14_ q8_ (ty_ne tq8_ u9_ (by decide)) 1).trans tl8_
  have u20_ : T14_ 3 q1_ = 300 * o + 100 := (hx14_ q1_ (ty_ne u10_ u9_ (by decide)) 3).trans u12_
  have u21_ : T14_ 3 q8_ = 300 * o + 101 := (hx14_ q8_ (ty_ne tq8_ u9_ (by decide)) 3).trans tw8_
  have u22_ : T14_ 100 o = q1_ + 1 := (hj14_ 100 (by decide)).trans u13_
  refine j_aload_n E 20 rfl dX4_init_19 rfl (lv_at hl 0 rfl) ?_
  refine j_bipush E 22 rfl dX4_init_20 (by decide) ?_
  have hw0_ := hw
  refine n_arr20 E hK hw hA (300 * o + 102) 32 (by decide) (by decide) (Nat.le_of_ble_eq_true rfl) (Nat.le_of_ble_eq_true rfl) 24 rfl dX4_init_22 (fun q23_ T23_ y300_23 H hge23_ hx23_ ho23_ tq23_ tl23_ tw23_ yz23_ yo23_ hw => ?_)
  have fq23_ : s.heap.size ≤ q23_ := Nat.le_trans hw0_.2.2.1 hge23_
  have hw : WK D cy T23_ (upV v_0 300 y300_23) A0 s.heap H locs := cw_eq hw (by first | rfl | (funext j_; simp only [upV, reduceIte]; (repeat' split) <;> first | rfl | omega | (subst_vars; rfl)))
  have yo23_ : ∀ b, b ≠ q23_ → ∀ i, y300_23 (pr b i) = y300_8 (pr b i) := yo23_
  have hT23_ : WT T23_ := hw.1.2.1
  have hO23_ : ∀ x, ow T23_ x → κ 2 2 ≤ x := fun x h => hAc x (hw.2.1 x h)
  have hoT_ : OW T T23_ s.heap.size := OW.tr hw0_.2.2.1 hoT_ ho23_
  have hR_ : ∀ b, b < sz → b ≠ o → ∀ k, T23_ k b = T k b := fun b_ h1_ h2_ k_ => (hx23_ b_ (by have := hw0_.2.2.1; have := hge23_; omega) k_).trans (hR_ b_ h1_ h2_ k_)
  have u24_ : T23_ 0 o = 105 := (hx23_ o (Nat.ne_of_lt (Nat.lt_of_lt_of_le (cw_lt hw0_.1 u15_ (fun _ _ _ => ⟨_, rfl⟩)) hge23_)) 0).trans u15_
  have u25_ : T23_ 0 q1_ = 20 := (hx23_ q1_ (Nat.ne_of_lt (Nat.lt_of_lt_of_le (cw_lt hw0_.1 u16_ (fun _ _ _ => ⟨_, rfl⟩)) hge23_)) 0).trans u16_
  have u26_ : T23_ 0 q8_ = 20 := (hx23_ q8_ (Nat.ne_of_lt (Nat.lt_of_lt_of_le (cw_lt hw0_.1 u17_ (fun _ _ _ => ⟨_, rfl⟩)) hge23_)) 0).trans u17_
  have u27_ : T23_ 1 q1_ = 5 := (hx23_ q1_ (Nat.ne_of_lt (Nat.lt_of_lt_of_le (cw_lt hw0_.1 u16_ (fun _ _ _ => ⟨_, rfl⟩)) hge23_)) 1).trans u18_
  have u28_ : T23_ 1 q8_ = 24 := (hx23_ q8_ (Nat.ne_of_lt (Nat.lt_of_lt_of_le (cw_lt hw0_.1 u17_ (fun _ _ _ => ⟨_, rfl⟩)) hge23_)) 1).trans u19_
  have u29_ : T23_ 3 q1_ = 300 * o + 100 := (hx23_ q1_ (Nat.ne_of_lt (Nat.lt_of_lt_of_le (cw_lt hw0_.1 u16_ (fun _ _ _ => ⟨_, rfl⟩)) hge23_)) 3).trans u20_
  have u30_ : T23_ 3 q8_ = 300 * o + 101 := (hx23_ q8_ (Nat.ne_of_lt (Nat.lt_of_lt_of_le (cw_lt hw0_.1 u17_ (fun _ _ _ => ⟨_, rfl⟩)) hge23_)) 3).trans u21_
  have u31_ : T23_ 100 o = q1_ + 1 := (hx23_ o (Nat.ne_of_lt (Nat.lt_of_lt_of_le (cw_lt hw0_.1 u15_ (fun _ _ _ => ⟨_, rfl⟩)) hge23_)) 100).trans u22_
  have u32_ : T23_ 101 o = q8_ + 1 := (hx23_ o (Nat.ne_of_lt (Nat.lt_of_lt_of_le (cw_lt hw0_.1 u15_ (fun _ _ _ => ⟨_, rfl⟩)) hge23_)) 101).trans hk14_
  have hw0_ := hw
  refine rr_102 E hK hw hnm fl_X4_20 u24_ 27 rfl dX4_init_24 (fun T33_ H locs hx33_ hj33_ hk33_ ho33_ hw => ?_)
  have hT33_ : WT T33_ := hw.1.2.1
  have hO33_ : ∀ x, ow T33_ x → κ 2 2 ≤ x := fun x h => hAc x (hw.2.1 x h)
  have hoT_ : OW T T33_ s.heap.size := OW.tr0 hoT_ ho33_
  have hR_ : ∀ b, b < sz → b ≠ o → ∀ k, T33_ k b = T k b := fun b_ h1_ h2_ k_ => (hx33_ b_ h2_ k_).trans (hR_ b_ h1_ h2_ k_)
  have u34_ : T33_ 0 o = 105 := (hj33_ 0 (by decide)).trans u24_
  have u35_ : T33_ 0 q1_ = 20 := (hx33_ q1_ (ty_ne u25_ u24_ (by decide)) 0).trans u25_
  have u36_ : T33_ 0 q8_ = 20 := (hx33_ q8_ (ty_ne u26_ u24_ (by decide)) 0).trans u26_
  have u37_ : T33_ 0 q23_ = 20 := (hx33_ q23_ (ty_ne tq23_ u24_ (by decide)) 0).trans tq23_
  have u38_ : T33_ 1 q1_ = 5 := (hx33_ q1_ (ty_ne u25_ u24_ (by decide)) 1).trans u27_
  have u39_ : T33_ 1 q8_ = 24 := (hx33_ q8_ (ty_ne u26_ u24_ (by decide)) 1).trans u28_
  have u40_ : T33_ 1 q23_ = 32 := (hx33_ q23_ (ty_ne tq23_ u24_ (by decide)) 1).trans tl23_
  have u41_ : T33_ 3 q1_ = 300 * o + 100 := (hx33_ q1_ (ty_ne u25_ u24_ (by decide)) 3).trans u29_
  have u42_ : T33_ 3 q8_ = 300 * o + 101 := (hx33_ q8_ (ty_ne u26_ u24_ (by decide)) 3).trans u30_
  have u43_ : T33_ 3 q23_ = 300 * o + 102 := (hx33_ q23_ (ty_ne tq23_ u24_ (by decide)) 3).trans tw23_
  have u44_ : T33_ 100 o = q1_ + 1 := (hj33_ 100 (by decide)).trans u31_
  have u45_ : T33_ 101 o = q8_ + 1 := (hj33_ 101 (by decide)).trans u32_
  refine j_aload_n E 28 rfl dX4_init_27 rfl (lv_at hl 0 rfl) ?_
  refine j_iconst E 29 rfl dX4_init_28 ?_
  refine rp_103 E hK hw fl_X4_23 u34_ (rr (by decide)) 32 rfl dX4_init_29 (fun H locs hw => ?_)
  have hw : WK D cy T33_ (upV (upV v_0 103 (upB (v_0 103) o 0)) 300 y300_23) A0 s.heap H locs := cw_eq hw (by first | rfl | (funext j_; simp only [upV, reduceIte]; (repeat' split) <;> first | rfl | omega | (subst_vars; rfl)))
  have hw0_ := hw
  obtain ⟨T47_, hx47_, tq47_, xe47_100_, xe47_101_, xe47_102_, ho47_, hw⟩ := pm_5 hw u34_ u44_ u35_ u38_ u41_ u45_ u36_ u39_ u42_ hk33_ u37_ u40_ u43_
  have hT47_ : WT T47_ := hw.1.2.1
  have hO47_ : ∀ x, ow T47_ x → κ 2 2 ≤ x := fun x h => hAc x (hw.2.1 x h)
  have hoT_ : OW T T47_ s.heap.size := OW.tr0 hoT_ ho47_
  have hR_ : ∀ b, b < sz → b ≠ o → ∀ k, T47_ k b = T k b := fun b_ h1_ h2_ k_ => (hx47_ b_ h2_ k_).trans (hR_ b_ h1_ h2_ k_)
  exact hret 32 T47_ (upV (upV v_0 103 (upB (v_0 103) o 0)) 300 y300_23) _ _ ls _ _ hw hoT_ ⟨(upB (v_0 103) o 0), y300_23, rfl, ⟨hR_, tq47_⟩⟩ (Nat.le_of_ble_eq_true rfl) (Nat.le_of_ble_eq_true rfl) dX4_init_32
set_option maxHeartbeats 4000000 in
set_option maxRecDepth 100000 in
theorem n_X5_init (l : Launch) (D : va_G) (cy : Nat → ClassId) (κ T : Nat → Nat → Nat) (v_0 : Nat → Nat → Int) (o : Nat) (sz : Nat) (hO : ∀ x, ow T x → κ 2 2 ≤ x) (t_o : T 0 o = 106) : KA l D cy κ T yX5_init cX5_init 1 none 1 3 1200 [.ref o] v_0 sz (AV (fun (T_2 : Nat → Nat → Nat) (v_2 : Nat → Nat → Int) => ∃ (y123_2 : Nat → Int) (y124_2 : Nat → Int) (y300_2 : Nat → Int) , v_2 = upV (upV (upV v_0 123 y123_2) 124 y124_2) 300 y300_2 ∧ ((∀ b, b < sz → b ≠ o → ∀ k, T_2 k b = T k b) ∧ T_2 0 o = 6))) := by
  refine KA.ofv (by decide) (Nat.le_of_ble_eq_true rfl) hO ?_
  intro p e s m below meth c ls ar QW A0 H locs E hK hZ hA hAc hsz hnm hw hlo_ hl hret
  have hl : lv_has ls 1 [(0, .ref o)] := hl
  have hT : WT T := hw.1.2.1
  have hoT_ : OW T T s.heap.size := OW.rf T _
  have hR_ : ∀ b, b < sz → b ≠ o → ∀ k, T k b = T k b := fun b _ _ k => rfl
  refine j_aload_n E 1 rfl dX5_init_0 rfl (lv_at hl 0 rfl) ?_
  refine W.objInit E.1 E.2.1 E.2.2.2.1 (E.2.2.2.2.1 _ mo_X5_3) (E.2.2.2.2.1 _ im_ob) (E.2.2.2.2.1 _ cd_ob) rfl (by rw [E.2.2.1]; exact hl.1) rfl dX5_init_1 (Nat.le_of_ble_eq_true rfl) (Nat.le_of_ble_eq_true rfl) ?_
  show W p l e (rmd 1 3 1200) s m ar below meth c H locs _ _ QW (F0 m 4 ls [])
  refine j_aload_n E 5 rfl dX5_init_4 rfl (lv_at hl 0 rfl) ?_
  refine j_sipush E 8 rfl dX5_init_5 (by decide) ?_
  have hw0_ := hw
  refine n_arr20 E hK hw hA (300 * o + 120) 400 (by decide) (by decide) (Nat.le_of_ble_eq_true rfl) (Nat.le_of_ble_eq_true rfl) 10 rfl dX5_init_8 (fun q1_ T1_ y300_1 H hge1_ hx1_ ho1_ tq1_ tl1_ tw1_ yz1_ yo1_ hw => ?_)
  have fq1_ : s.heap.size ≤ q1_ := Nat.le_trans hw0_.2.2.1 hge1_
  have hw : WK D cy T1_ (upV v_0 300 y300_1) A0 s.heap H locs := cw_eq hw (by first | rfl | (funext j_; simp only [upV, reduceIte]; (repeat' split) <;> first | rfl | omega | (subst_vars; rfl)))
  have yo1_ : ∀ b, b ≠ q1_ → ∀ i, y300_1 (pr b i) = v_0 300 (pr b i) := yo1_
  have hT1_ : WT T1_ := hw.1.2.1
  have hO1_ : ∀ x, ow T1_ x → κ 2 2 ≤ x := fun x h => hAc x (hw.2.1 x h)
  have hoT_ : OW T T1_ s.heap.size := OW.tr hw0_.2.2.1 hoT_ ho1_
  have hR_ : ∀ b, b < sz → b ≠ o → ∀ k, T1_ k b = T k b := fun b_ h1_ h2_ k_ => (hx1_ b_ (by have := hw0_.2.2.1; have := hge1_; omega) k_).trans (hR_ b_ h1_ h2_ k_)
  have u2_ : T1_ 0 o = 106 := (hx1_ o (Nat.ne_of_lt (Nat.lt_of_lt_of_le (cw_lt hw0_.1 t_o (fun _ _ _ => ⟨_, rfl⟩)) hge1_)) 0).trans t_o
  have hw0_ := hw
  refine rr_120 E hK hw hnm fl_X5_9 u2_ 13 rfl dX5_init_10 (fun T3_ H locs hx3_ hj3_ hk3_ ho3_ hw => ?_)
  have hT3_ : WT T3_ := hw.1.2.1
  have hO3_ : ∀ x, ow T3_ x → κ 2 2 ≤ x := fun x h => hAc x (hw.2.1 x h)
  have hoT_ : OW T T3_ s.heap.size := OW.tr0 hoT_ ho3_
  have hR_ : ∀ b, b < sz → b ≠ o → ∀ k, T3_ k b = T k b := fun b_ h1_ h2_ k_ => (hx3_ b_ h2_ k_).trans (hR_ b_ h1_ h2_ k_)
  have u4_ : T3_ 0 o = 106 := (hj3_ 0 (by decide)).trans u2_
  have u5_ : T3_ 0 q1_ = 20 := (hx3_ q1_ (ty_ne tq1_ u2_ (by decide)) 0).trans tq1_
  have u6_ : T3_ 1 q1_ = 400 := (hx3_ q1_ (ty_ne tq1_ u2_ (by decide)) 1).trans tl1_
  have u7_ : T3_ 3 q1_ = 300 * o + 120 := (hx3_ q1_ (ty_ne tq1_ u2_ (by decide)) 3).trans tw1_
  refine j_aload_n E 14 rfl dX5_init_13 rfl (lv_at hl 0 rfl) ?_
  refine j_sipush E 17 rfl dX5_init_14 (by decide) ?_
  have hw0_ := hw
  refine n_arr20 E hK hw hA (300 * o + 121) 400 (by decide) (by decide) (Nat.le_of_ble_eq_true rfl) (Nat.le_of_ble_eq_true rfl) 19 rfl dX5_init_17 (fun q8_ T8_ y300_8 H hge8_ hx8_ ho8_ tq8_ tl8_ tw8_ yz8_ yo8_ hw => ?_)
  have fq8_ : s.heap.size ≤ q8_ := Nat.le_trans hw0_.2.2.1 hge8_
  have hw : WK D cy T8_ (upV v_0 300 y300_8) A0 s.heap H locs := cw_eq hw (by first | rfl | (funext j_; simp only [upV, reduceIte]; (repeat' split) <;> first | rfl | omega | (subst_vars; rfl)))
  have yo8_ : ∀ b, b ≠ q8_ → ∀ i, y300_8 (pr b i) = y300_1 (pr b i) := yo8_
  have hT8_ : WT T8_ := hw.1.2.1
  have hO8_ : ∀ x, ow T8_ x → κ 2 2 ≤ x := fun x h => hAc x (hw.2.1 x h)
  have hoT_ : OW T T8_ s.heap.size := OW.tr hw0_.2.2.1 hoT_ ho8_
  have hR_ : ∀ b, b < sz → b ≠ o → ∀ k, T8_ k b = T k b := fun b_ h1_ h2_ k_ => (hx8_ b_ (by have := hw0_.2.2.1; have := hge8_; omega) k_).trans (hR_ b_ h1_ h2_ k_)
  have u9_ : T8_ 0 o = 106 := (hx8_ o (Nat.ne_of_lt (Nat.lt_of_lt_of_le (cw_lt hw0_.1 u4_ (fun _ _ _ => ⟨_, rfl⟩)) hge8_)) 0).trans u4_
  have u10_ : T8_ 0 q1_ = 20 := (hx8_ q1_ (Nat.ne_of_lt (Nat.lt_of_lt_of_le (cw_lt hw0_.1 u5_ (fun _ _ _ => ⟨_, rfl⟩)) hge8_)) 0).trans u5_
  have u11_ : T8_ 1 q1_ = 400 := (hx8_ q1_ (Nat.ne_of_lt (Nat.lt_of_lt_of_le (cw_lt hw0_.1 u5_ (fun _ _ _ => ⟨_, rfl⟩)) hge8_)) 1).trans u6_
  have u12_ : T8_ 3 q1_ = 300 * o + 120 := (hx8_ q1_ (Nat.ne_of_lt (Nat.lt_of_lt_of_le (cw_lt hw0_.1 u5_ (fun _ _ _ => ⟨_, rfl⟩)) hge8_)) 3).trans u7_
  have u13_ : T8_ 120 o = q1_ + 1 := (hx8_ o (Nat.ne_of_lt (Nat.lt_of_lt_of_le (cw_lt hw0_.1 u4_ (fun _ _ _ => ⟨_, rfl⟩)) hge8_)) 120).trans hk3_
  have hw0_ := hw
  refine rr_121 E hK hw hnm fl_X5_15 u9_ 22 rfl dX5_init_19 (fun T14_ H locs hx14_ hj14_ hk14_ ho14_ hw => ?_)
  have hT14_ : WT T14_ := hw.1.2.1
  have hO14_ : ∀ x, ow T14_ x → κ 2 2 ≤ x := fun x h => hAc x (hw.2.1 x h)
  have hoT_ : OW T T14_ s.heap.size := OW.tr0 hoT_ ho14_
  have hR_ : ∀ b, b < sz → b ≠ o → ∀ k, T14_ k b = T k b := fun b_ h1_ h2_ k_ => (hx14_ b_ h2_ k_).trans (hR_ b_ h1_ h2_ k_)
  have u15_ : T14_ 0 o = 106 := (hj14_ 0 (by decide)).trans u9_
  have u16_ : T14_ 0 q1_ = 20 := (hx14_ q1_ (ty_ne u10_ u9_ (by decide)) 0).trans u10_
  have u17_ : T14_ 0 q8_ = 20 := (hx14_ q8_ (ty_ne tq8_ u9_ (by decide)) 0).trans tq8_
  have u18_ : T14_ 1 q1_ = 400 := (hx14_ q1_ (ty_ne u10_ u9_ (by decide)) 1).trans u11_
  have u19_ : T14_ 1 q8_ = 400 := (hx14_ q8_ (ty_ne tq8_ u9_ (by decide)) 1).trans tl8_
  have u20_ : T14_ 3 q1_ = 300 * o + 120 := (hx14_ q1_ (ty_ne u10_ u9_ (by decide)) 3).trans u12_
  have u21_ : T14_ 3 q8_ = 300 * o + 121 := (hx14_ q8_ (ty_ne tq8_ u9_ (by decide)) 3).trans tw8_
  have u22_ : T14_ 120 o = q1_ + 1 := (hj14_ 120 (by decide)).trans u13_
  refine j_aload_n E 23 rfl dX5_init_22 rfl (lv_at hl 0 rfl) ?_
  refine j_sipush E 26 rfl dX5_init_23 (by decide) ?_
  have hw0_ := hw
  refine n_arr20 E hK hw hA (300 * o + 122) 400 (by decide) (by decide) (Nat.le_of_ble_eq_true rfl) (Nat.le_of_ble_eq_true rfl) 28 rfl dX5_init_26 (fun q23_ T23_ y300_23 H hge23_ hx23_ ho23_ tq23_ tl23_ tw23_ yz23_ yo23_ hw => ?_)
  have fq23_ : s.heap.size ≤ q23_ := Nat.le_trans hw0_.2.2.1 hge23_
  have hw : WK D cy T23_ (upV v_0 300 y300_23) A0 s.heap H locs := cw_eq hw (by first | rfl | (funext j_; simp only [upV, reduceIte]; (repeat' split) <;> first | rfl | omega | (subst_vars; rfl)))
  have yo23_ : ∀ b, b ≠ q23_ → ∀ i, y300_23 (pr b i) = y300_8 (pr b i) := yo23_
  have hT23_ : WT T23_ := hw.1.2.1
  have hO23_ : ∀ x, ow T23_ x → κ 2 2 ≤ x := fun x h => hAc x (hw.2.1 x h)
  have hoT_ : OW T T23_ s.heap.size := OW.tr hw0_.2.2.1 hoT_ ho23_
  have hR_ : ∀ b, b < sz → b ≠ o → ∀ k, T23_ k b = T k b := fun b_ h1_ h2_ k_ => (hx23_ b_ (by have := hw0_.2.2.1; have := hge23_; omega) k_).trans (hR_ b_ h1_ h2_ k_)
  have u24_ : T23_ 0 o = 106 := (hx23_ o (Nat.ne_of_lt (Nat.lt_of_lt_of_le (cw_lt hw0_.1 u15_ (fun _ _ _ => ⟨_, rfl⟩)) hge23_)) 0).trans u15_
  have u25_ : T23_ 0 q1_ = 20 := (hx23_ q1_ (Nat.ne_of_lt (Nat.lt_of_lt_of_le (cw_lt hw0_.1 u16_ (fun _ _ _ => ⟨_, rfl⟩)) hge23_)) 0).trans u16_
  have u26_ : T23_ 0 q8_ = 20 := (hx23_ q8_ (Nat.ne_of_lt (Nat.lt_of_lt_of_le (cw_lt hw0_.1 u17_ (fun _ _ _ => ⟨_, rfl⟩)) hge23_)) 0).trans u17_
  have u27_ : T23_ 1 q1_ = 400 := (hx23_ q1_ (Nat.ne_of_lt (Nat.lt_of_lt_of_le (cw_lt hw0_.1 u16_ (fun _ _ _ => ⟨_, rfl⟩)) hge23_)) 1).trans u18_
  have u28_ : T23_ 1 q8_ = 400 := (hx23_ q8_ (Nat.ne_of_lt (Nat.lt_of_lt_of_le (cw_lt hw0_.1 u17_ (fun _ _ _ => ⟨_, rfl⟩)) hge23_)) 1).trans u19_
  have u29_ : T23_ 3 q1_ = 300 * o + 120 := (hx23_ q1_ (Nat.ne_of_lt (Nat.lt_of_lt_of_le (cw_lt hw0_.1 u16_ (fun _ _ _ => ⟨_, rfl⟩)) hge23_)) 3).trans u20_
  have u30_ : T23_ 3 q8_ = 300 * o + 121 := (hx23_ q8_ (Nat.ne_of_lt (Nat.lt_of_lt_of_le (cw_lt hw0_.1 u17_ (fun _ _ _ => ⟨_, rfl⟩)) hge23_)) 3).trans u21_
  have u31_ : T23_ 120 o = q1_ + 1 := (hx23_ o (Nat.ne_of_lt (Nat.lt_of_lt_of_le (cw_lt hw0_.1 u15_ (fun _ _ _ => ⟨_, rfl⟩)) hge23_)) 120).trans u22_
  have u32_ : T23_ 121 o = q8_ + 1 := (hx23_ o (Nat.ne_of_lt (Nat.lt_of_lt_of_le (cw_lt hw0_.1 u15_ (fun _ _ _ => ⟨_, rfl⟩)) hge23_)) 121).trans hk14_
  have hw0_ := hw
  refine rr_122 E hK hw hnm fl_X5_18 u24_ 31 rfl dX5_init_28 (fun T33_ H locs hx33_ hj33_ hk33_ ho33_ hw => ?_)
  have hT33_ : WT T33_ := hw.1.2.1
  have hO33_ : ∀ x, ow T33_ x → κ 2 2 ≤ x := fun x h => hAc x (hw.2.1 x h)
  have hoT_ : OW T T33_ s.heap.size := OW.tr0 hoT_ ho33_
  have hR_ : ∀ b, b < sz → b ≠ o → ∀ k, T33_ k b = T k b := fun b_ h1_ h2_ k_ => (hx33_ b_ h2_ k_).trans (hR_ b_ h1_ h2_ k_)
  have u34_ : T33_ 0 o = 106 := (hj33_ 0 (by decide)).trans u24_
  have u35_ : T33_ 0 q1_ = 20 := (hx33_ q1_ (ty_ne u25_ u24_ (by decide)) 0).trans u25_
  have u36_ : T33_ 0 q8_ = 20 := (hx33_ q8_ (ty_ne u26_ u24_ (by decide)) 0).trans u26_
  have u37_ : T33_ 0 q23_ = 20 := (hx33_ q23_ (ty_ne tq23_ u24_ (by decide)) 0).trans tq23_
  have u38_ : T33_ 1 q1_ = 400 := (hx33_ q1_ (ty_ne u25_ u24_ (by decide)) 1).trans u27_
  have u39_ : T33_ 1 q8_ = 400 := (hx33_ q8_ (ty_ne u26_ u24_ (by decide)) 1).trans u28_
  have u40_ : T33_ 1 q23_ = 400 := (hx33_ q23_ (ty_ne tq23_ u24_ (by decide)) 1).trans tl23_
  have u41_ : T33_ 3 q1_ = 300 * o + 120 := (hx33_ q1_ (ty_ne u25_ u24_ (by decide)) 3).trans u29_
  have u42_ : T33_ 3 q8_ = 300 * o + 121 := (hx33_ q8_ (ty_ne u26_ u24_ (by decide)) 3).trans u30_
  have u43_ : T33_ 3 q23_ = 300 * o + 122 := (hx33_ q23_ (ty_ne tq23_ u24_ (by decide)) 3).trans tw23_
  have u44_ : T33_ 120 o = q1_ + 1 := (hj33_ 120 (by decide)).trans u31_
  have u45_ : T33_ 121 o = q8_ + 1 := (hj33_ 121 (by decide)).trans u32_
  refine j_aload_n E 32 rfl dX5_init_31 rfl (lv_at hl 0 rfl) ?_
  refine j_iconst E 33 rfl dX5_init_32 ?_
  refine rp_123 E hK hw fl_X5_21 u34_ (rr (by decide)) 36 rfl dX5_init_33 (fun H locs hw => ?_)
  have hw : WK D cy T33_ (upV (upV v_0 123 (upB (v_0 123) o 0)) 300 y300_23) A0 s.heap H locs := cw_eq hw (by first | rfl | (funext j_; simp only [upV, reduceIte]; (repeat' split) <;> first | rfl | omega | (subst_vars; rfl)))
  refine j_aload_n E 37 rfl dX5_init_36 rfl (lv_at hl 0 rfl) ?_
  refine j_iconst E 38 rfl dX5_init_37 ?_
  refine rp_124 E hK hw fl_X5_25 u34_ (rr (by decide)) 41 rfl dX5_init_38 (fun H locs hw => ?_)
  have hw : WK D cy T33_ (upV (upV (upV v_0 123 (upB (v_0 123) o 0)) 124 (upB (v_0 124) o 0)) 300 y300_23) A0 s.heap H locs := cw_eq hw (by first | rfl | (funext j_; simp only [upV, reduceIte]; (repeat' split) <;> first | rfl | omega | (subst_vars; rfl)))
  have hw0_ := hw
  obtain ⟨T48_, hx48_, tq48_, xe48_120_, xe48_121_, xe48_122_, ho48_, hw⟩ := pm_6 hw u34_ u44_ u35_ u38_ u41_ u45_ u36_ u39_ u42_ hk33_ u37_ u40_ u43_
  have hT48_ : WT T48_ := hw.1.2.1
  have hO48_ : ∀ x, ow T48_ x → κ 2 2 ≤ x := fun x h => hAc x (hw.2.1 x h)
  have hoT_ : OW T T48_ s.heap.size := OW.tr0 hoT_ ho48_
  have hR_ : ∀ b, b < sz → b ≠ o → ∀ k, T48_ k b = T k b := fun b_ h1_ h2_ k_ => (hx48_ b_ h2_ k_).trans (hR_ b_ h1_ h2_ k_)
  exact hret 41 T48_ (upV (upV (upV v_0 123 (upB (v_0 123) o 0)) 124 (upB (v_0 124) o 0)) 300 y300_23) _ _ ls _ _ hw hoT_ ⟨(upB (v_0 123) o 0), (upB (v_0 124) o 0), y300_23, rfl, ⟨hR_, tq48_⟩⟩ (Nat.le_of_ble_eq_true rfl) (Nat.le_of_ble_eq_true rfl) dX5_init_41
set_option maxHeartbeats 4000000 in
set_option maxRecDepth 100000 in
theorem n_X6_init (l : Launch) (D : va_G) (cy : Nat → ClassId) (κ T : Nat → Nat → Nat) (v_0 : Nat → Nat → Int) (o : Nat) (v_a : Int) (v_b : Int) (v_c : Int) (v_d : Int) (v_e : Int) (v_f : Int) (sz : Nat) (hO : ∀ x, ow T x → κ 2 2 ≤ x) (t_o : T 0 o = 107) (r_v_a : inR v_a) (r_v_b : inR v_b) (r_v_c : inR v_c) (r_v_d : inR v_d) (r_v_e : inR v_e) (r_v_f : inR v_f) : KA l D cy κ T yX6_init cX6_init 7 none 1 0 0 [.ref o, .int (J v_a), .int (J v_b), .int (J v_c), .int (J v_d), .int (J v_e), .int (J v_f)] v_0 sz (AV (fun (T_2 : Nat → Nat → Nat) (v_2 : Nat → Nat → Int) => ∃ (y140_2 : Nat → Int) (y141_2 : Nat → Int) (y142_2 : Nat → Int) (y143_2 : Nat → Int) (y144_2 : Nat → Int) (y145_2 : Nat → Int) (y146_2 : Nat → Int) , v_2 = upV (upV (upV (upV (upV (upV (upV v_0 140 y140_2) 141 y141_2) 142 y142_2) 143 y143_2) 144 y144_2) 145 y145_2) 146 y146_2 ∧ ((∀ b, b < sz → b ≠ o → ∀ k, T_2 k b = T k b) ∧ T_2 0 o = 7))) := by
  refine KA.ofv (by decide) (Nat.le_of_ble_eq_true rfl) hO ?_
  intro p e s m below meth c ls ar QW A0 H locs E hK hZ hA hAc hsz hnm hw hlo_ hl hret
  have hl : lv_has ls 7 [(0, .ref o), (1, .int (J v_a)), (2, .int (J v_b)), (3, .int (J v_c)), (4, .int (J v_d)), (5, .int (J v_e)), (6, .int (J v_f))] := hl
  have hT : WT T := hw.1.2.1
  have hoT_ : OW T T s.heap.size := OW.rf T _
  have hR_ : ∀ b, b < sz → b ≠ o → ∀ k, T k b = T k b := fun b _ _ k => rfl
  refine j_aload_n E 1 rfl dX6_init_0 rfl (lv_at hl 0 rfl) ?_
  refine W.objInit E.1 E.2.1 E.2.2.2.1 (E.2.2.2.2.1 _ mo_X6_3) (E.2.2.2.2.1 _ im_ob) (E.2.2.2.2.1 _ cd_ob) rfl (by rw [E.2.2.1]; exact hl.1) rfl dX6_init_1 (Nat.le_of_ble_eq_true rfl) (Nat.le_of_ble_eq_true rfl) ?_
  show W p l e (rmd 1 0 0) s m ar below meth c H locs _ _ QW (F0 m 4 ls [])
  refine j_aload_n E 5 rfl dX6_init_4 rfl (lv_at hl 0 rfl) ?_
  refine j_iconst E 6 rfl dX6_init_5 ?_
  refine rp_146 E hK hw fl_X6_9 t_o (rr (by decide)) (Or.inl rfl) 9 rfl dX6_init_6 (fun H locs hw => ?_)
  have hw : WK D cy T (upV v_0 146 (upB (v_0 146) o 0)) A0 s.heap H locs := cw_eq hw (by first | rfl | (funext j_; simp only [upV, reduceIte]; (repeat' split) <;> first | rfl | omega | (subst_vars; rfl)))
  refine j_aload_n E 10 rfl dX6_init_9 rfl (lv_at hl 0 rfl) ?_
  refine j_iload_n E 11 rfl dX6_init_10 rfl (lv_at hl 1 rfl) ?_
  refine rp_140 E hK hw hnm fl_X6_15 t_o r_v_a 14 rfl dX6_init_11 (fun H locs hw => ?_)
  have hw : WK D cy T (upV (upV v_0 140 (upB (v_0 140) o v_a)) 146 (upB (v_0 146) o 0)) A0 s.heap H locs := cw_eq hw (by first | rfl | (funext j_; simp only [upV, reduceIte]; (repeat' split) <;> first | rfl | omega | (subst_vars; rfl)))
  refine j_aload_n E 15 rfl dX6_init_14 rfl (lv_at hl 0 rfl) ?_
  refine j_iload_n E 16 rfl dX6_init_15 rfl (lv_at hl 2 rfl) ?_
  refine rp_141 E hK hw hnm fl_X6_19 t_o r_v_b 19 rfl dX6_init_16 (fun H locs hw => ?_)
  have hw : WK D cy T (upV (upV (upV v_0 140 (upB (v_0 140) o v_a)) 141 (upB (v_0 141) o v_b)) 146 (upB (v_0 146) o 0)) A0 s.heap H locs := cw_eq hw (by first | rfl | (funext j_; simp only [upV, reduceIte]; (repeat' split) <;> first | rfl | omega | (subst_vars; rfl)))
  refine j_aload_n E 20 rfl dX6_init_19 rfl (lv_at hl 0 rfl) ?_
  refine j_iload_n E 21 rfl dX6_init_20 rfl (lv_at hl 3 rfl) ?_
  refine rp_142 E hK hw hnm fl_X6_22 t_o r_v_c 24 rfl dX6_init_21 (fun H locs hw => ?_)
  have hw : WK D cy T (upV (upV (upV (upV v_0 140 (upB (v_0 140) o v_a)) 141 (upB (v_0 141) o v_b)) 142 (upB (v_0 142) o v_c)) 146 (upB (v_0 146) o 0)) A0 s.heap H locs := cw_eq hw (by first | rfl | (funext j_; simp only [upV, reduceIte]; (repeat' split) <;> first | rfl | omega | (subst_vars; rfl)))
  refine j_aload_n E 25 rfl dX6_init_24 rfl (lv_at hl 0 rfl) ?_
  refine j_iload E 27 rfl dX6_init_25 (lv_at hl 4 rfl) ?_
  refine rp_143 E hK hw hnm fl_X6_25 t_o r_v_d 30 rfl dX6_init_27 (fun H locs hw => ?_)
  have hw : WK D cy T (upV (upV (upV (upV (upV v_0 140 (upB (v_0 140) o v_a)) 141 (upB (v_0 141) o v_b)) 142 (upB (v_0 142) o v_c)) 143 (upB (v_0 143) o v_d)) 146 (upB (v_0 146) o 0)) A0 s.heap H locs := cw_eq hw (by first | rfl | (funext j_; simp only [upV, reduceIte]; (repeat' split) <;> first | rfl | omega | (subst_vars; rfl)))
  refine j_aload_n E 31 rfl dX6_init_30 rfl (lv_at hl 0 rfl) ?_
  refine j_iload E 33 rfl dX6_init_31 (lv_at hl 5 rfl) ?_
  refine rp_144 E hK hw hnm fl_X6_28 t_o r_v_e 36 rfl dX6_init_33 (fun H locs hw => ?_)
  have hw : WK D cy T (upV (upV (upV (upV (upV (upV v_0 140 (upB (v_0 140) o v_a)) 141 (upB (v_0 141) o v_b)) 142 (upB (v_0 142) o v_c)) 143 (upB (v_0 143) o v_d)) 144 (upB (v_0 144) o v_e)) 146 (upB (v_0 146) o 0)) A0 s.heap H locs := cw_eq hw (by first | rfl | exact (funext fun j_ => if a140_ : j_ = 140 then (by subst a140_; rfl) else if a141_ : j_ = 141 then (by subst a141_; rfl) else if a142_ : j_ = 142 then (by subst a142_; rfl) else if a143_ : j_ = 143 then (by subst a143_; rfl) else if a144_ : j_ = 144 then (by subst a144_; rfl) else if a146_ : j_ = 146 then (by subst a146_; rfl) else (by simp only [upV, if_neg a140_, if_neg a141_, if_neg a142_, if_neg a143_, if_neg a144_, if_neg a146_])))
  refine j_aload_n E 37 rfl dX6_init_36 rfl (lv_at hl 0 rfl) ?_
  refine j_iload E 39 rfl dX6_init_37 (lv_at hl 6 rfl) ?_
  refine rp_145 E hK hw hnm fl_X6_31 t_o r_v_f 42 rfl dX6_init_39 (fun H locs hw => ?_)
  have hw : WK D cy T (upV (upV (upV (upV (upV (upV (upV v_0 140 (upB (v_0 140) o v_a)) 141 (upB (v_0 141) o v_b)) 142 (upB (v_0 142) o v_c)) 143 (upB (v_0 143) o v_d)) 144 (upB (v_0 144) o v_e)) 145 (upB (v_0 145) o v_f)) 146 (upB (v_0 146) o 0)) A0 s.heap H locs := cw_eq hw (by first | rfl | exact (funext fun j_ => if a140_ : j_ = 140 then (by subst a140_; rfl) else if a141_ : j_ = 141 then (by subst a141_; rfl) else if a142_ : j_ = 142 then (by subst a142_; rfl) else if a143_ : j_ = 143 then (by subst a143_; rfl) else if a144_ : j_ = 144 then (by subst a144_; rfl) else if a145_ : j_ = 145 then (by subst a145_; rfl) else if a146_ : j_ = 146 then (by subst a146_; rfl) else (by simp only [upV, if_neg a140_, if_neg a141_, if_neg a142_, if_neg a143_, if_neg a144_, if_neg a145_, if_neg a146_])))
  have hw0_ := hw
  obtain ⟨T8_, hx8_, tq8_, ho8_, hw⟩ := pm_7 hw t_o 
  have hT8_ : WT T8_ := hw.1.2.1
  have hO8_ : ∀ x, ow T8_ x → κ 2 2 ≤ x := fun x h => hAc x (hw.2.1 x h)
  have hoT_ : OW T T8_ s.heap.size := OW.tr0 hoT_ ho8_
  have hR_ : ∀ b, b < sz → b ≠ o → ∀ k, T8_ k b = T k b := fun b_ h1_ h2_ k_ => (hx8_ b_ h2_ k_).trans (hR_ b_ h1_ h2_ k_)
  exact hret 42 T8_ (upV (upV (upV (upV (upV (upV (upV v_0 140 (upB (v_0 140) o v_a)) 141 (upB (v_0 141) o v_b)) 142 (upB (v_0 142) o v_c)) 143 (upB (v_0 143) o v_d)) 144 (upB (v_0 144) o v_e)) 145 (upB (v_0 145) o v_f)) 146 (upB (v_0 146) o 0)) _ _ ls _ _ hw hoT_ ⟨(upB (v_0 140) o v_a), (upB (v_0 141) o v_b), (upB (v_0 142) o v_c), (upB (v_0 143) o v_d), (upB (v_0 144) o v_e), (upB (v_0 145) o v_f), (upB (v_0 146) o 0), rfl, ⟨hR_, tq8_⟩⟩ (Nat.le_of_ble_eq_true rfl) (Nat.le_of_ble_eq_true rfl) dX6_init_42
set_option maxHeartbeats 4000000 in
set_option maxRecDepth 100000 in
theorem n_X3_init (l : Launch) (D : va_G) (cy : Nat → ClassId) (κ T : Nat → Nat → Nat) (v_0 : Nat → Nat → Int) (o : Nat) (sz : Nat) (hO : ∀ x, ow T x → κ 2 2 ≤ x) (t_o : T 0 o = 104) : KA l D cy κ T yX3_init cX3_init 1 none 2 5 1605 [.ref o] v_0 sz (AV (fun (T_2 : Nat → Nat → Nat) (v_2 : Nat → Nat → Int) => ∃ (y80_2 : Nat → Int) (y81_2 : Nat → Int) (y83_2 : Nat → Int) (y84_2 : Nat → Int) (y86_2 : Nat → Int) (y123_2 : Nat → Int) (y124_2 : Nat → Int) (y300_2 : Nat → Int) , v_2 = upV (upV (upV (upV (upV (upV (upV (upV v_0 80 y80_2) 81 y81_2) 83 y83_2) 84 y84_2) 86 y86_2) 123 y123_2) 124 y124_2) 300 y300_2 ∧ ((∀ b, b < sz → b ≠ o → ∀ k, T_2 k b = T k b) ∧ T_2 0 o = 4))) := by
  refine KA.ofv (by decide) (Nat.le_of_ble_eq_true rfl) hO ?_
  intro p e s m below meth c ls ar QW A0 H locs E hK hZ hA hAc hsz hnm hw hlo_ hl hret
  have hl : lv_has ls 1 [(0, .ref o)] := hl
  have hT : WT T := hw.1.2.1
  have hoT_ : OW T T s.heap.size := OW.rf T _
  have hR_ : ∀ b, b < sz → b ≠ o → ∀ k, T k b = T k b := fun b _ _ k => rfl
  refine j_aload_n E 1 rfl dX3_init_0 rfl (lv_at hl 0 rfl) ?_
  refine W.objInit E.1 E.2.1 E.2.2.2.1 (E.2.2.2.2.1 _ mo_X3_3) (E.2.2.2.2.1 _ im_ob) (E.2.2.2.2.1 _ cd_ob) rfl (by rw [E.2.2.1]; exact hl.1) rfl dX3_init_1 (Nat.le_of_ble_eq_true rfl) (Nat.le_of_ble_eq_true rfl) ?_
  show W p l e (rmd 2 5 1605) s m ar below meth c H locs _ _ QW (F0 m 4 ls [])
  refine j_aload_n E 5 rfl dX3_init_4 rfl (lv_at hl 0 rfl) ?_
  refine j_iconst E 6 rfl dX3_init_5 ?_
  refine rp_80 E hK hw fl_X3_9 t_o (rr (by decide)) 9 rfl dX3_init_6 (fun H locs hw => ?_)
  have hw : WK D cy T (upV v_0 80 (upB (v_0 80) o 0)) A0 s.heap H locs := cw_eq hw (by first | rfl | (funext j_; simp only [upV, reduceIte]; (repeat' split) <;> first | rfl | omega | (subst_vars; rfl)))
  refine j_aload_n E 10 rfl dX3_init_9 rfl (lv_at hl 0 rfl) ?_
  refine j_iconst E 11 rfl dX3_init_10 ?_
  refine rp_81 E hK hw fl_X3_15 t_o (rr (by decide)) 14 rfl dX3_init_11 (fun H locs hw => ?_)
  have hw : WK D cy T (upV (upV v_0 80 (upB (v_0 80) o 0)) 81 (upB (v_0 81) o ((-1)))) A0 s.heap H locs := cw_eq hw (by first | rfl | (funext j_; simp only [upV, reduceIte]; (repeat' split) <;> first | rfl | omega | (subst_vars; rfl)))
  refine j_aload_n E 15 rfl dX3_init_14 rfl (lv_at hl 0 rfl) ?_
  have hw0_ := hw
  refine n_obj6 E hK hw hA cl_X3_18 (Nat.le_of_ble_eq_true rfl) (Nat.le_of_ble_eq_true rfl) 18 rfl dX3_init_15 (fun q3_ T3_ H hge3_ hx3_ ho3_ tq3_ hw => ?_)
  have fq3_ : s.heap.size ≤ q3_ := Nat.le_trans hw0_.2.2.1 hge3_
  have hw : WK D cy T3_ (upV (upV (upV (upV v_0 80 (upB (v_0 80) o 0)) 81 (upB (v_0 81) o ((-1)))) 123 (upB (v_0 123) q3_ 0)) 124 (upB (v_0 124) q3_ 0)) A0 s.heap H locs := cw_eq hw (by first | rfl | (funext j_; simp only [upV, reduceIte]; (repeat' split) <;> first | rfl | omega | (subst_vars; rfl)))
  have hT3_ : WT T3_ := hw.1.2.1
  have hO3_ : ∀ x, ow T3_ x → κ 2 2 ≤ x := fun x h => hAc x (hw.2.1 x h)
  have hoT_ : OW T T3_ s.heap.size := OW.tr hw0_.2.2.1 hoT_ ho3_
  have hR_ : ∀ b, b < sz → b ≠ o → ∀ k, T3_ k b = T k b := fun b_ h1_ h2_ k_ => (hx3_ b_ (by have := hw0_.2.2.1; have := hge3_; omega) k_).trans (hR_ b_ h1_ h2_ k_)
  have u4_ : T3_ 0 o = 104 := (hx3_ o (Nat.ne_of_lt (Nat.lt_of_lt_of_le (cw_lt hw0_.1 t_o (fun _ _ _ => ⟨_, rfl⟩)) hge3_)) 0).trans t_o
  refine j_dup E 19 rfl dX3_init_18 rfl ?_
  have hw0_ := hw
  refine aN_v E (n_X5_init l D cy κ T3_ (upV (upV (upV (upV v_0 80 (upB (v_0 80) o 0)) 81 (upB (v_0 81) o ((-1)))) 123 (upB (v_0 123) q3_ 0)) 124 (upB (v_0 124) q3_ 0)) q3_ H.size  hO3_ tq3_  ) mi_X5_init hZ.1.mS hK hZ hAc hw hA ⟨(Nat.le_of_ble_eq_true rfl), (Nat.le_of_ble_eq_true rfl)⟩ ⟨(Nat.le_of_ble_eq_true rfl), (Nat.le_of_ble_eq_true rfl)⟩ (As := []) (rest := [.ref q3_, .ref o]) rfl rfl hl.1 (Nat.le_of_ble_eq_true rfl) 22 rfl dX3_init_19 (fun T5_ v_5 H locs hge5_ ho5_ hq5_ hw => ?_)
  obtain ⟨y123_5, y124_5, y300_5, ev5_, hh5_⟩ := hq5_
  rw [ev5_] at hw; clear ev5_
  have hw : WK D cy T5_ (upV (upV (upV (upV (upV v_0 80 (upB (v_0 80) o 0)) 81 (upB (v_0 81) o ((-1)))) 123 y123_5) 124 y124_5) 300 y300_5) A0 s.heap H locs := cw_eq hw (by first | rfl | (funext j_; simp only [upV, reduceIte]; (repeat' split) <;> first | rfl | omega | (subst_vars; rfl)))
  obtain ⟨hx5_, tq5_⟩ := hh5_
  have hT5_ : WT T5_ := hw.1.2.1
  have hO5_ : ∀ x, ow T5_ x → κ 2 2 ≤ x := fun x h => hAc x (hw.2.1 x h)
  have hoT_ : OW T T5_ s.heap.size := OW.tr hw0_.2.2.1 hoT_ ho5_
  have hR_ : ∀ b, b < sz → b ≠ o → ∀ k, T5_ k b = T k b := fun b_ h1_ h2_ k_ => (hx5_ b_ (by have := hw0_.2.2.1; omega) (by have := fq3_; omega) k_).trans (hR_ b_ h1_ h2_ k_)
  have u6_ : T5_ 0 o = 104 := (hx5_ o (cw_lt hw0_.1 u4_ (fun _ _ _ => ⟨_, rfl⟩)) (ty_ne u4_ tq3_ (by decide)) 0).trans u4_
  have hw0_ := hw
  refine rr_82 E hK hw hnm fl_X3_21 u6_ 25 rfl dX3_init_22 (fun T7_ H locs hx7_ hj7_ hk7_ ho7_ hw => ?_)
  have hT7_ : WT T7_ := hw.1.2.1
  have hO7_ : ∀ x, ow T7_ x → κ 2 2 ≤ x := fun x h => hAc x (hw.2.1 x h)
  have hoT_ : OW T T7_ s.heap.size := OW.tr0 hoT_ ho7_
  have hR_ : ∀ b, b < sz → b ≠ o → ∀ k, T7_ k b = T k b := fun b_ h1_ h2_ k_ => (hx7_ b_ h2_ k_).trans (hR_ b_ h1_ h2_ k_)
  have u8_ : T7_ 0 o = 104 := (hj7_ 0 (by decide)).trans u6_
  have u9_ : T7_ 0 q3_ = 6 := (hx7_ q3_ (ty_ne tq5_ u6_ (by decide)) 0).trans tq5_
  refine j_aload_n E 26 rfl dX3_init_25 rfl (lv_at hl 0 rfl) ?_
  refine j_iconst E 27 rfl dX3_init_26 ?_
  refine rp_83 E hK hw fl_X3_25 u8_ (rr (by decide)) 30 rfl dX3_init_27 (fun H locs hw => ?_)
  have hw : WK D cy T7_ (upV (upV (upV (upV (upV (upV v_0 80 (upB (v_0 80) o 0)) 81 (upB (v_0 81) o ((-1)))) 83 (upB (v_0 83) o 0)) 123 y123_5) 124 y124_5) 300 y300_5) A0 s.heap H locs := cw_eq hw (by first | rfl | exact (funext fun j_ => if a80_ : j_ = 80 then (by subst a80_; rfl) else if a81_ : j_ = 81 then (by subst a81_; rfl) else if a83_ : j_ = 83 then (by subst a83_; rfl) else if a123_ : j_ = 123 then (by subst a123_; rfl) else if a124_ : j_ = 124 then (by subst a124_; rfl) else if a300_ : j_ = 300 then (by subst a300_; rfl) else (by simp only [upV, if_neg a80_, if_neg a81_, if_neg a83_, if_neg a123_, if_neg a124_, if_neg a300_])))
  refine j_aload_n E 31 rfl dX3_init_30 rfl (lv_at hl 0 rfl) ?_
  refine j_iconst E 32 rfl dX3_init_31 ?_
  refine rp_84 E hK hw fl_X3_30 u8_ (rr (by decide)) 35 rfl dX3_init_32 (fun H locs hw => ?_)
  have hw : WK D cy T7_ (upV (upV (upV (upV (upV (upV (upV v_0 80 (upB (v_0 80) o 0)) 81 (upB (v_0 81) o ((-1)))) 83 (upB (v_0 83) o 0)) 84 (upB (v_0 84) o 1)) 123 y123_5) 124 y124_5) 300 y300_5) A0 s.heap H locs := cw_eq hw (by first | rfl | exact (funext fun j_ => if a80_ : j_ = 80 then (by subst a80_; rfl) else if a81_ : j_ = 81 then (by subst a81_; rfl) else if a83_ : j_ = 83 then (by subst a83_; rfl) else if a84_ : j_ = 84 then (by subst a84_; rfl) else if a123_ : j_ = 123 then (by subst a123_; rfl) else if a124_ : j_ = 124 then (by subst a124_; rfl) else if a300_ : j_ = 300 then (by subst a300_; rfl) else (by simp only [upV, if_neg a80_, if_neg a81_, if_neg a83_, if_neg a84_, if_neg a123_, if_neg a124_, if_neg a300_])))
  refine j_aload_n E 36 rfl dX3_init_35 rfl (lv_at hl 0 rfl) ?_
  refine j_sipush E 39 rfl dX3_init_36 (by decide) ?_
  have hw0_ := hw
  refine n_arr20 E hK hw hA (300 * o + 85) 400 (by decide) (by decide) (Nat.le_of_ble_eq_true rfl) (Nat.le_of_ble_eq_true rfl) 41 rfl dX3_init_39 (fun q12_ T12_ y300_12 H hge12_ hx12_ ho12_ tq12_ tl12_ tw12_ yz12_ yo12_ hw => ?_)
  have fq12_ : s.heap.size ≤ q12_ := Nat.le_trans hw0_.2.2.1 hge12_
  have hw : WK D cy T12_ (upV (upV (upV (upV (upV (upV (upV v_0 80 (upB (v_0 80) o 0)) 81 (upB (v_0 81) o ((-1)))) 83 (upB (v_0 83) o 0)) 84 (upB (v_0 84) o 1)) 123 y123_5) 124 y124_5) 300 y300_12) A0 s.heap H locs := cw_eq hw (by first | rfl | exact (funext fun j_ => if a80_ : j_ = 80 then (by subst a80_; rfl) else if a81_ : j_ = 81 then (by subst a81_; rfl) else if a83_ : j_ = 83 then (by subst a83_; rfl) else if a84_ : j_ = 84 then (by subst a84_; rfl) else if a123_ : j_ = 123 then (by subst a123_; rfl) else if a124_ : j_ = 124 then (by subst a124_; rfl) else if a300_ : j_ = 300 then (by subst a300_; rfl) else (by simp only [upV, if_neg a80_, if_neg a81_, if_neg a83_, if_neg a84_, if_neg a123_, if_neg a124_, if_neg a300_])))
  have yo12_ : ∀ b, b ≠ q12_ → ∀ i, y300_12 (pr b i) = y300_5 (pr b i) := yo12_
  have hT12_ : WT T12_ := hw.1.2.1
  have hO12_ : ∀ x, ow T12_ x → κ 2 2 ≤ x := fun x h => hAc x (hw.2.1 x h)
  have hoT_ : OW T T12_ s.heap.size := OW.tr hw0_.2.2.1 hoT_ ho12_
  have hR_ : ∀ b, b < sz → b ≠ o → ∀ k, T12_ k b = T k b := fun b_ h1_ h2_ k_ => (hx12_ b_ (by have := hw0_.2.2.1; have := hge12_; omega) k_).trans (hR_ b_ h1_ h2_ k_)
  have u13_ : T12_ 0 o = 104 := (hx12_ o (Nat.ne_of_lt (Nat.lt_of_lt_of_le (cw_lt hw0_.1 u8_ (fun _ _ _ => ⟨_, rfl⟩)) hge12_)) 0).trans u8_
  have u14_ : T12_ 0 q3_ = 6 := (hx12_ q3_ (Nat.ne_of_lt (Nat.lt_of_lt_of_le (cw_lt hw0_.1 u9_ (fun _ _ _ => ⟨_, rfl⟩)) hge12_)) 0).trans u9_
  have u15_ : T12_ 82 o = q3_ + 1 := (hx12_ o (Nat.ne_of_lt (Nat.lt_of_lt_of_le (cw_lt hw0_.1 u8_ (fun _ _ _ => ⟨_, rfl⟩)) hge12_)) 82).trans hk7_
  have hw0_ := hw
  refine rr_85 E hK hw hnm fl_X3_33 u13_ 44 rfl dX3_init_41 (fun T16_ H locs hx16_ hj16_ hk16_ ho16_ hw => ?_)
  have hT16_ : WT T16_ := hw.1.2.1
  have hO16_ : ∀ x, ow T16_ x → κ 2 2 ≤ x := fun x h => hAc x (hw.2.1 x h)
  have hoT_ : OW T T16_ s.heap.size := OW.tr0 hoT_ ho16_
  have hR_ : ∀ b, b < sz → b ≠ o → ∀ k, T16_ k b = T k b := fun b_ h1_ h2_ k_ => (hx16_ b_ h2_ k_).trans (hR_ b_ h1_ h2_ k_)
  have u17_ : T16_ 0 o = 104 := (hj16_ 0 (by decide)).trans u13_
  have u18_ : T16_ 0 q3_ = 6 := (hx16_ q3_ (ty_ne u14_ u13_ (by decide)) 0).trans u14_
  have u19_ : T16_ 0 q12_ = 20 := (hx16_ q12_ (ty_ne tq12_ u13_ (by decide)) 0).trans tq12_
  have u20_ : T16_ 1 q12_ = 400 := (hx16_ q12_ (ty_ne tq12_ u13_ (by decide)) 1).trans tl12_
  have u21_ : T16_ 3 q12_ = 300 * o + 85 := (hx16_ q12_ (ty_ne tq12_ u13_ (by decide)) 3).trans tw12_
  have u22_ : T16_ 82 o = q3_ + 1 := (hj16_ 82 (by decide)).trans u15_
  refine j_aload_n E 45 rfl dX3_init_44 rfl (lv_at hl 0 rfl) ?_
  refine j_iconst E 46 rfl dX3_init_45 ?_
  refine rp_86 E hK hw fl_X3_37 u17_ (rr (by decide)) 49 rfl dX3_init_46 (fun H locs hw => ?_)
  have hw : WK D cy T16_ (upV (upV (upV (upV (upV (upV (upV (upV v_0 80 (upB (v_0 80) o 0)) 81 (upB (v_0 81) o ((-1)))) 83 (upB (v_0 83) o 0)) 84 (upB (v_0 84) o 1)) 86 (upB (v_0 86) o 0)) 123 y123_5) 124 y124_5) 300 y300_12) A0 s.heap H locs := cw_eq hw (by first | rfl | exact (funext fun j_ => if a80_ : j_ = 80 then (by subst a80_; rfl) else if a81_ : j_ = 81 then (by subst a81_; rfl) else if a83_ : j_ = 83 then (by subst a83_; rfl) else if a84_ : j_ = 84 then (by subst a84_; rfl) else if a86_ : j_ = 86 then (by subst a86_; rfl) else if a123_ : j_ = 123 then (by subst a123_; rfl) else if a124_ : j_ = 124 then (by subst a124_; rfl) else if a300_ : j_ = 300 then (by subst a300_; rfl) else (by simp only [upV, if_neg a80_, if_neg a81_, if_neg a83_, if_neg a84_, if_neg a86_, if_neg a123_, if_neg a124_, if_neg a300_])))
  have hw0_ := hw
  obtain ⟨T24_, hx24_, tq24_, xe24_82_, xe24_85_, ho24_, hw⟩ := pm_4 hw u17_ u22_ u18_ hk16_ u19_ u20_ u21_
  have hT24_ : WT T24_ := hw.1.2.1
  have hO24_ : ∀ x, ow T24_ x → κ 2 2 ≤ x := fun x h => hAc x (hw.2.1 x h)
  have hoT_ : OW T T24_ s.heap.size := OW.tr0 hoT_ ho24_
  have hR_ : ∀ b, b < sz → b ≠ o → ∀ k, T24_ k b = T k b := fun b_ h1_ h2_ k_ => (hx24_ b_ h2_ k_).trans (hR_ b_ h1_ h2_ k_)
  exact hret 49 T24_ (upV (upV (upV (upV (upV (upV (upV (upV v_0 80 (upB (v_0 80) o 0)) 81 (upB (v_0 81) o ((-1)))) 83 (upB (v_0 83) o 0)) 84 (upB (v_0 84) o 1)) 86 (upB (v_0 86) o 0)) 123 y123_5) 124 y124_5) 300 y300_12) _ _ ls _ _ hw hoT_ ⟨(upB (v_0 80) o 0), (upB (v_0 81) o ((-1))), (upB (v_0 83) o 0), (upB (v_0 84) o 1), (upB (v_0 86) o 0), y123_5, y124_5, y300_12, rfl, ⟨hR_, tq24_⟩⟩ (Nat.le_of_ble_eq_true rfl) (Nat.le_of_ble_eq_true rfl) dX3_init_49
