set_option maxHeartbeats 4000000 in
set_option maxRecDepth 100000 in
theorem n_X0_init (l : Launch) (D : va_G) (cy : Nat → ClassId) (κ T : Nat → Nat → Nat) (v_0 : Nat → Nat → Int) (o : Nat) (v_a : Int) (v_b : Int) (sz : Nat) (hO : ∀ x, ow T x → κ 2 2 ≤ x) (t_o : T 0 o = 101) (r_v_a : inR v_a) (r_v_b : inR v_b) (hp0 : v_b = 0 ∨ v_b = 1) : KA l D cy κ T yX0_init cX0_init 3 none 2 1 200 [.ref o, .int (J v_a), .int (J v_b)] v_0 sz (AV (fun (T_2 : Nat → Nat → Nat) (v_2 : Nat → Nat → Int) => ∃ (y20_2 : Nat → Int) (y21_2 : Nat → Int) (y22_2 : Nat → Int) (y23_2 : Nat → Int) (y24_2 : Nat → Int) (y25_2 : Nat → Int) (y302_2 : Nat → Int) , v_2 = upV (upV (upV (upV (upV (upV (upV v_0 20 y20_2) 21 y21_2) 22 y22_2) 23 y23_2) 24 y24_2) 25 y25_2) 302 y302_2 ∧ ((∀ b, b < sz → b ≠ o → ∀ k, T_2 k b = T k b) ∧ T_2 0 o = 1))) := by
  refine KA.ofv (by decide) (Nat.le_of_ble_eq_true rfl) hO ?_
  intro p e s m below meth c ls ar QW A0 H locs E hK hZ hA hAc hsz hszH_ hnm hw hlo_ hl hret
  have hl : lv_has ls 3 [(0, .ref o), (1, .int (J v_a)), (2, .int (J v_b))] := hl
  have hT : WT T := hw.1.2.1
  have hoT_ : OW T T s.heap.size := OW.rf T _
  have hC_ : ∀ b, b < sz → T 0 b ≠ 10 → T 0 b ≠ 24 → T 0 b ≠ 26 → b ≠ o → ∀ j, j ≠ 197 → T j b = T j b := fun _ _ _ _ _ _ _ _ => rfl
  have hR_ : ∀ b, b < sz → b ≠ o → ∀ k, T k b = T k b := fun b _ _ k => rfl
  refine j_aload_n E 1 rfl dX0_init_0 rfl (lv_at hl 0 rfl) ?_
  refine W.objInit E.1 E.2.1 E.2.2.2.1 (E.2.2.2.2.1 _ mo_X0_3) (E.2.2.2.2.1 _ im_ob) (E.2.2.2.2.1 _ cd_ob) rfl (by rw [E.2.2.1]; exact hl.1) rfl dX0_init_1 (Nat.le_of_ble_eq_true rfl) (Nat.le_of_ble_eq_true rfl) ?_
  show W p l e (rmd 2 1 200) s m ar below meth c H locs _ _ QW (F0 m 4 ls [])
  refine j_aload_n E 5 rfl dX0_init_4 rfl (lv_at hl 0 rfl) ?_
  refine j_iconst E 6 rfl dX0_init_5 ?_
  refine rp_22 E hK hw fl_X0_9 t_o (rr (by decide)) 9 rfl dX0_init_6 (fun H locs hw => ?_)
  have hw : WK D cy T (upV v_0 22 (upB (v_0 22) o 0)) A0 s.heap H locs := cw_eq hw (by first | rfl | (funext j_; simp only [upV, reduceIte]; (repeat' split) <;> first | rfl | omega | (subst_vars; rfl)))
  refine j_aload_n E 10 rfl dX0_init_9 rfl (lv_at hl 0 rfl) ?_
  refine j_iconst E 11 rfl dX0_init_10 ?_
  refine rp_23 E hK hw fl_X0_15 t_o (rr (by decide)) 14 rfl dX0_init_11 (fun H locs hw => ?_)
  have hw : WK D cy T (upV (upV v_0 22 (upB (v_0 22) o 0)) 23 (upB (v_0 23) o ((-1)))) A0 s.heap H locs := cw_eq hw (by first | rfl | (funext j_; simp only [upV, reduceIte]; (repeat' split) <;> first | rfl | omega | (subst_vars; rfl)))
  refine j_aload_n E 15 rfl dX0_init_14 rfl (lv_at hl 0 rfl) ?_
  refine j_iconst E 16 rfl dX0_init_15 ?_
  refine rp_24 E hK hw fl_X0_18 t_o (rr (by decide)) 19 rfl dX0_init_16 (fun H locs hw => ?_)
  have hw : WK D cy T (upV (upV (upV v_0 22 (upB (v_0 22) o 0)) 23 (upB (v_0 23) o ((-1)))) 24 (upB (v_0 24) o 0)) A0 s.heap H locs := cw_eq hw (by first | rfl | (funext j_; simp only [upV, reduceIte]; (repeat' split) <;> first | rfl | omega | (subst_vars; rfl)))
  refine j_aload_n E 20 rfl dX0_init_19 rfl (lv_at hl 0 rfl) ?_
  refine j_iconst E 21 rfl dX0_init_20 ?_
  refine rp_25 E hK hw fl_X0_21 t_o (rr (by decide)) 24 rfl dX0_init_21 (fun H locs hw => ?_)
  have hw : WK D cy T (upV (upV (upV (upV v_0 22 (upB (v_0 22) o 0)) 23 (upB (v_0 23) o ((-1)))) 24 (upB (v_0 24) o 0)) 25 (upB (v_0 25) o ((-1)))) A0 s.heap H locs := cw_eq hw (by first | rfl | (funext j_; simp only [upV, reduceIte]; (repeat' split) <;> first | rfl | omega | (subst_vars; rfl)))
  refine j_aload_n E 25 rfl dX0_init_24 rfl (lv_at hl 0 rfl) ?_
  refine j_sipush E 28 rfl dX0_init_25 (by decide) ?_
  have hw0_ := hw
  refine n_arr22 E hK hw hA (300 * o + 26) 200 (by decide) (by decide) (Nat.le_of_ble_eq_true rfl) (Nat.le_of_ble_eq_true rfl) 30 rfl dX0_init_28 (fun q5_ T5_ y302_5 H hge5_ hx5_ ho5_ tq5_ tl5_ tw5_ yz5_ yo5_ hw => ?_)
  have fq5_ : s.heap.size ≤ q5_ := Nat.le_trans hw0_.2.2.1 hge5_
  have hw : WK D cy T5_ (upV (upV (upV (upV (upV v_0 22 (upB (v_0 22) o 0)) 23 (upB (v_0 23) o ((-1)))) 24 (upB (v_0 24) o 0)) 25 (upB (v_0 25) o ((-1)))) 302 y302_5) A0 s.heap H locs := cw_eq hw (by first | rfl | (funext j_; simp only [upV, reduceIte]; (repeat' split) <;> first | rfl | omega | (subst_vars; rfl)))
  have yo5_ : ∀ b, b ≠ q5_ → ∀ i, y302_5 (pr b i) = v_0 302 (pr b i) := yo5_
  have hT5_ : WT T5_ := hw.1.2.1
  have hO5_ : ∀ x, ow T5_ x → κ 2 2 ≤ x := fun x h => hAc x (hw.2.1 x h)
  have hoT_ : OW T T5_ s.heap.size := OW.tr hw0_.2.2.1 hoT_ ho5_
  have hC_ : ∀ b, b < sz → T 0 b ≠ 10 → T 0 b ≠ 24 → T 0 b ≠ 26 → b ≠ o → ∀ j, j ≠ 197 → T5_ j b = T j b := fun b_ h1_ h2_ h3_ h4_ h5_ j_ h6_ => (hx5_ b_ (by have := hw0_.2.2.1; have := hge5_; omega) j_).trans (hC_ b_ h1_ h2_ h3_ h4_ h5_ j_ h6_)
  have hR_ : ∀ b, b < sz → b ≠ o → ∀ k, T5_ k b = T k b := fun b_ h1_ h2_ k_ => (hx5_ b_ (by have := hw0_.2.2.1; have := hge5_; omega) k_).trans (hR_ b_ h1_ h2_ k_)
  have u6_ : T5_ 0 o = 101 := (hx5_ o (Nat.ne_of_lt (Nat.lt_of_lt_of_le (cw_lt hw0_.1 t_o (fun _ _ _ => ⟨_, rfl⟩)) hge5_)) 0).trans t_o
  have hw0_ := hw
  refine rr_26 E hK hw hnm fl_X0_24 u6_ 33 rfl dX0_init_30 (fun T7_ H locs hx7_ hj7_ hk7_ ho7_ hw => ?_)
  have hT7_ : WT T7_ := hw.1.2.1
  have hO7_ : ∀ x, ow T7_ x → κ 2 2 ≤ x := fun x h => hAc x (hw.2.1 x h)
  have hoT_ : OW T T7_ s.heap.size := OW.tr0 hoT_ ho7_
  have hC_ : ∀ b, b < sz → T 0 b ≠ 10 → T 0 b ≠ 24 → T 0 b ≠ 26 → b ≠ o → ∀ j, j ≠ 197 → T7_ j b = T j b := fun b_ h1_ h2_ h3_ h4_ h5_ j_ h6_ => (hx7_ b_ h5_ j_).trans (hC_ b_ h1_ h2_ h3_ h4_ h5_ j_ h6_)
  have hR_ : ∀ b, b < sz → b ≠ o → ∀ k, T7_ k b = T k b := fun b_ h1_ h2_ k_ => (hx7_ b_ h2_ k_).trans (hR_ b_ h1_ h2_ k_)
  have u8_ : T7_ 0 o = 101 := (hj7_ 0 (by decide)).trans u6_
  have u9_ : T7_ 0 q5_ = 22 := (hx7_ q5_ (ty_ne tq5_ u6_ (by decide)) 0).trans tq5_
  have u10_ : T7_ 1 q5_ = 200 := (hx7_ q5_ (ty_ne tq5_ u6_ (by decide)) 1).trans tl5_
  have u11_ : T7_ 3 q5_ = 300 * o + 26 := (hx7_ q5_ (ty_ne tq5_ u6_ (by decide)) 3).trans tw5_
  refine j_aload_n E 34 rfl dX0_init_33 rfl (lv_at hl 0 rfl) ?_
  refine j_iload_n E 35 rfl dX0_init_34 rfl (lv_at hl 1 rfl) ?_
  refine rp_20 E hK hw hnm fl_X0_28 u8_ r_v_a 38 rfl dX0_init_35 (fun H locs hw => ?_)
  have hw : WK D cy T7_ (upV (upV (upV (upV (upV (upV v_0 20 (upB (v_0 20) o v_a)) 22 (upB (v_0 22) o 0)) 23 (upB (v_0 23) o ((-1)))) 24 (upB (v_0 24) o 0)) 25 (upB (v_0 25) o ((-1)))) 302 y302_5) A0 s.heap H locs := cw_eq hw (by first | rfl | exact (funext fun j_ => if a20_ : j_ = 20 then (by subst a20_; rfl) else if a22_ : j_ = 22 then (by subst a22_; rfl) else if a23_ : j_ = 23 then (by subst a23_; rfl) else if a24_ : j_ = 24 then (by subst a24_; rfl) else if a25_ : j_ = 25 then (by subst a25_; rfl) else if a302_ : j_ = 302 then (by subst a302_; rfl) else (by simp only [upV, if_neg a20_, if_neg a22_, if_neg a23_, if_neg a24_, if_neg a25_, if_neg a302_])))
  refine j_aload_n E 39 rfl dX0_init_38 rfl (lv_at hl 0 rfl) ?_
  refine j_iload_n E 40 rfl dX0_init_39 rfl (lv_at hl 2 rfl) ?_
  refine rp_21 E hK hw hnm fl_X0_31 u8_ r_v_b (by omega) 43 rfl dX0_init_40 (fun H locs hw => ?_)
  have hw : WK D cy T7_ (upV (upV (upV (upV (upV (upV (upV v_0 20 (upB (v_0 20) o v_a)) 21 (upB (v_0 21) o v_b)) 22 (upB (v_0 22) o 0)) 23 (upB (v_0 23) o ((-1)))) 24 (upB (v_0 24) o 0)) 25 (upB (v_0 25) o ((-1)))) 302 y302_5) A0 s.heap H locs := cw_eq hw (by first | rfl | exact (funext fun j_ => if a20_ : j_ = 20 then (by subst a20_; rfl) else if a21_ : j_ = 21 then (by subst a21_; rfl) else if a22_ : j_ = 22 then (by subst a22_; rfl) else if a23_ : j_ = 23 then (by subst a23_; rfl) else if a24_ : j_ = 24 then (by subst a24_; rfl) else if a25_ : j_ = 25 then (by subst a25_; rfl) else if a302_ : j_ = 302 then (by subst a302_; rfl) else (by simp only [upV, if_neg a20_, if_neg a21_, if_neg a22_, if_neg a23_, if_neg a24_, if_neg a25_, if_neg a302_])))
  have hw0_ := hw
  obtain ⟨T14_, hx14_, tq14_, xe14_26_, ho14_, hw⟩ := pm_1 hw u8_ hk7_ u9_ u10_ u11_
  have hT14_ : WT T14_ := hw.1.2.1
  have hO14_ : ∀ x, ow T14_ x → κ 2 2 ≤ x := fun x h => hAc x (hw.2.1 x h)
  have hoT_ : OW T T14_ s.heap.size := OW.tr0 hoT_ ho14_
  have hC_ : ∀ b, b < sz → T 0 b ≠ 10 → T 0 b ≠ 24 → T 0 b ≠ 26 → b ≠ o → ∀ j, j ≠ 197 → T14_ j b = T j b := fun b_ h1_ h2_ h3_ h4_ h5_ j_ h6_ => (hx14_ b_ h5_ j_).trans (hC_ b_ h1_ h2_ h3_ h4_ h5_ j_ h6_)
  have hR_ : ∀ b, b < sz → b ≠ o → ∀ k, T14_ k b = T k b := fun b_ h1_ h2_ k_ => (hx14_ b_ h2_ k_).trans (hR_ b_ h1_ h2_ k_)
  have u15_ : T14_ 1 q5_ = 200 := (hx14_ q5_ (ty_ne u9_ u8_ (by decide)) 1).trans u10_
  refine j_aload_n E 44 rfl dX0_init_43 rfl (lv_at hl 0 rfl) ?_
  refine g_26 E hK hw fl_X0_24 tq14_ 47 rfl dX0_init_44 ?_
  have ln16_ := wl_26 hT14_ tq14_
  refine j_bipush E 49 rfl dX0_init_47 (by decide) ?_
  refine kS_v E (c_J7_fill_031fb l D cy T14_ (upV (upV (upV (upV (upV (upV (upV v_0 20 (upB (v_0 20) o v_a)) 21 (upB (v_0 21) o v_b)) 22 (upB (v_0 22) o 0)) 23 (upB (v_0 23) o ((-1)))) 24 (upB (v_0 24) o 0)) 25 (upB (v_0 25) o ((-1)))) 302 y302_5) (T14_ 26 o) ((-2))   (wt_26 hT14_ tq14_) (rr (by decide)) ) ms_J7_fill_031fb ml_X0_35 hK hw hA ⟨Nat.le_of_ble_eq_true rfl, Nat.le_of_ble_eq_true rfl⟩ ⟨Nat.le_of_ble_eq_true rfl, Nat.le_of_ble_eq_true rfl⟩ (As := [.ref (T14_ 26 o), .int (J ((-2)))]) (rest := []) rfl rfl hl.1 (Nat.le_of_ble_eq_true rfl) 52 rfl dX0_init_49 (fun v_17 H locs hq17_ hw => ?_)
  obtain ⟨y302_17, ev17_, hh17_⟩ := hq17_
  rw [ev17_] at hw; clear ev17_
  have hw : WK D cy T14_ (upV (upV (upV (upV (upV (upV (upV v_0 20 (upB (v_0 20) o v_a)) 21 (upB (v_0 21) o v_b)) 22 (upB (v_0 22) o 0)) 23 (upB (v_0 23) o ((-1)))) 24 (upB (v_0 24) o 0)) 25 (upB (v_0 25) o ((-1)))) 302 y302_17) A0 s.heap H locs := cw_eq hw (by first | rfl | exact (funext fun j_ => if a20_ : j_ = 20 then (by subst a20_; rfl) else if a21_ : j_ = 21 then (by subst a21_; rfl) else if a22_ : j_ = 22 then (by subst a22_; rfl) else if a23_ : j_ = 23 then (by subst a23_; rfl) else if a24_ : j_ = 24 then (by subst a24_; rfl) else if a25_ : j_ = 25 then (by subst a25_; rfl) else if a302_ : j_ = 302 then (by subst a302_; rfl) else (by simp only [upV, if_neg a20_, if_neg a21_, if_neg a22_, if_neg a23_, if_neg a24_, if_neg a25_, if_neg a302_])))
  exact hret 52 T14_ (upV (upV (upV (upV (upV (upV (upV v_0 20 (upB (v_0 20) o v_a)) 21 (upB (v_0 21) o v_b)) 22 (upB (v_0 22) o 0)) 23 (upB (v_0 23) o ((-1)))) 24 (upB (v_0 24) o 0)) 25 (upB (v_0 25) o ((-1)))) 302 y302_17) _ _ ls _ _ hw hoT_ ⟨(upB (v_0 20) o v_a), (upB (v_0 21) o v_b), (upB (v_0 22) o 0), (upB (v_0 23) o ((-1))), (upB (v_0 24) o 0), (upB (v_0 25) o ((-1))), y302_17, rfl, ⟨hR_, tq14_⟩⟩ (Nat.le_of_ble_eq_true rfl) (Nat.le_of_ble_eq_true rfl) dX0_init_52
set_option maxHeartbeats 4000000 in
set_option maxRecDepth 100000 in
theorem n_X1_init (l : Launch) (D : va_G) (cy : Nat → ClassId) (κ T : Nat → Nat → Nat) (v_0 : Nat → Nat → Int) (o : Nat) (v_a : Int) (v_b : Int) (v_c : Int) (sz : Nat) (hO : ∀ x, ow T x → κ 2 2 ≤ x) (t_o : T 0 o = 102) (r_v_a : inR v_a) (r_v_b : inR v_b) (r_v_c : inR v_c) : KA l D cy κ T yX1_init cX1_init 4 none 2 3 72 [.ref o, .int (J v_a), .int (J v_b), .int (J v_c)] v_0 sz (AV (fun (T_2 : Nat → Nat → Nat) (v_2 : Nat → Nat → Int) => ∃ (y40_2 : Nat → Int) (y41_2 : Nat → Int) (y42_2 : Nat → Int) (y43_2 : Nat → Int) (y44_2 : Nat → Int) (y45_2 : Nat → Int) (y300_2 : Nat → Int) , v_2 = upV (upV (upV (upV (upV (upV (upV v_0 40 y40_2) 41 y41_2) 42 y42_2) 43 y43_2) 44 y44_2) 45 y45_2) 300 y300_2 ∧ (((∀ b, b < sz → b ≠ o → ∀ k, T_2 k b = T k b) ∧ T_2 0 o = 2) ∧ KdA_ T sz [] (v_0 300) y300_2))) := by
  refine KA.ofv (by decide) (Nat.le_of_ble_eq_true rfl) hO ?_
  intro p e s m below meth c ls ar QW A0 H locs E hK hZ hA hAc hsz hszH_ hnm hw hlo_ hl hret
  have hl : lv_has ls 4 [(0, .ref o), (1, .int (J v_a)), (2, .int (J v_b)), (3, .int (J v_c))] := hl
  have hT : WT T := hw.1.2.1
  have hoT_ : OW T T s.heap.size := OW.rf T _
  have hC_ : ∀ b, b < sz → T 0 b ≠ 10 → T 0 b ≠ 24 → T 0 b ≠ 26 → b ≠ o → ∀ j, j ≠ 197 → T j b = T j b := fun _ _ _ _ _ _ _ _ => rfl
  have hR_ : ∀ b, b < sz → b ≠ o → ∀ k, T k b = T k b := fun b _ _ k => rfl
  refine j_aload_n E 1 rfl dX1_init_0 rfl (lv_at hl 0 rfl) ?_
  refine W.objInit E.1 E.2.1 E.2.2.2.1 (E.2.2.2.2.1 _ mo_X1_3) (E.2.2.2.2.1 _ im_ob) (E.2.2.2.2.1 _ cd_ob) rfl (by rw [E.2.2.1]; exact hl.1) rfl dX1_init_1 (Nat.le_of_ble_eq_true rfl) (Nat.le_of_ble_eq_true rfl) ?_
  show W p l e (rmd 2 3 72) s m ar below meth c H locs _ _ QW (F0 m 4 ls [])
  refine j_aload_n E 5 rfl dX1_init_4 rfl (lv_at hl 0 rfl) ?_
  refine j_iconst E 6 rfl dX1_init_5 ?_
  refine rp_43 E hK hw fl_X1_9 t_o (rr (by decide)) 9 rfl dX1_init_6 (fun H locs hw => ?_)
  have hw : WK D cy T (upV v_0 43 (upB (v_0 43) o ((-1)))) A0 s.heap H locs := cw_eq hw (by first | rfl | (funext j_; simp only [upV, reduceIte]; (repeat' split) <;> first | rfl | omega | (subst_vars; rfl)))
  refine j_aload_n E 10 rfl dX1_init_9 rfl (lv_at hl 0 rfl) ?_
  refine j_iconst E 11 rfl dX1_init_10 ?_
  refine rp_44 E hK hw fl_X1_15 t_o (rr (by decide)) (Or.inl rfl) 14 rfl dX1_init_11 (fun H locs hw => ?_)
  have hw : WK D cy T (upV (upV v_0 43 (upB (v_0 43) o ((-1)))) 44 (upB (v_0 44) o 0)) A0 s.heap H locs := cw_eq hw (by first | rfl | (funext j_; simp only [upV, reduceIte]; (repeat' split) <;> first | rfl | omega | (subst_vars; rfl)))
  refine j_aload_n E 15 rfl dX1_init_14 rfl (lv_at hl 0 rfl) ?_
  refine j_iconst E 16 rfl dX1_init_15 ?_
  refine rp_45 E hK hw fl_X1_19 t_o (rr (by decide)) 19 rfl dX1_init_16 (fun H locs hw => ?_)
  have hw : WK D cy T (upV (upV (upV v_0 43 (upB (v_0 43) o ((-1)))) 44 (upB (v_0 44) o 0)) 45 (upB (v_0 45) o ((-1)))) A0 s.heap H locs := cw_eq hw (by first | rfl | (funext j_; simp only [upV, reduceIte]; (repeat' split) <;> first | rfl | omega | (subst_vars; rfl)))
  refine j_aload_n E 20 rfl dX1_init_19 rfl (lv_at hl 0 rfl) ?_
  refine j_bipush E 22 rfl dX1_init_20 (by decide) ?_
  have hw0_ := hw
  refine n_arr20 E hK hw hA (300 * o + 46) 24 (by decide) (by decide) (Nat.le_of_ble_eq_true rfl) (Nat.le_of_ble_eq_true rfl) 24 rfl dX1_init_22 (fun q4_ T4_ y300_4 H hge4_ hx4_ ho4_ tq4_ tl4_ tw4_ yz4_ yo4_ hw => ?_)
  have fq4_ : s.heap.size ≤ q4_ := Nat.le_trans hw0_.2.2.1 hge4_
  have hw : WK D cy T4_ (upV (upV (upV (upV v_0 43 (upB (v_0 43) o ((-1)))) 44 (upB (v_0 44) o 0)) 45 (upB (v_0 45) o ((-1)))) 300 y300_4) A0 s.heap H locs := cw_eq hw (by first | rfl | (funext j_; simp only [upV, reduceIte]; (repeat' split) <;> first | rfl | omega | (subst_vars; rfl)))
  have yo4_ : ∀ b, b ≠ q4_ → ∀ i, y300_4 (pr b i) = v_0 300 (pr b i) := yo4_
  have kd5_ : KdA_ T sz [] (v_0 300) (y300_4) := KdA_tr KdA_rf (KdA_new yo4_ (by omega))
  have hT4_ : WT T4_ := hw.1.2.1
  have hO4_ : ∀ x, ow T4_ x → κ 2 2 ≤ x := fun x h => hAc x (hw.2.1 x h)
  have hoT_ : OW T T4_ s.heap.size := OW.tr hw0_.2.2.1 hoT_ ho4_
  have hC_ : ∀ b, b < sz → T 0 b ≠ 10 → T 0 b ≠ 24 → T 0 b ≠ 26 → b ≠ o → ∀ j, j ≠ 197 → T4_ j b = T j b := fun b_ h1_ h2_ h3_ h4_ h5_ j_ h6_ => (hx4_ b_ (by have := hw0_.2.2.1; have := hge4_; omega) j_).trans (hC_ b_ h1_ h2_ h3_ h4_ h5_ j_ h6_)
  have hR_ : ∀ b, b < sz → b ≠ o → ∀ k, T4_ k b = T k b := fun b_ h1_ h2_ k_ => (hx4_ b_ (by have := hw0_.2.2.1; have := hge4_; omega) k_).trans (hR_ b_ h1_ h2_ k_)
  have u6_ : T4_ 0 o = 102 := (hx4_ o (Nat.ne_of_lt (Nat.lt_of_lt_of_le (cw_lt hw0_.1 t_o (fun _ _ _ => ⟨_, rfl⟩)) hge4_)) 0).trans t_o
  have hw0_ := hw
  refine rr_46 E hK hw hnm fl_X1_22 u6_ 27 rfl dX1_init_24 (fun T7_ H locs hx7_ hj7_ hk7_ ho7_ hw => ?_)
  have hT7_ : WT T7_ := hw.1.2.1
  have hO7_ : ∀ x, ow T7_ x → κ 2 2 ≤ x := fun x h => hAc x (hw.2.1 x h)
  have hoT_ : OW T T7_ s.heap.size := OW.tr0 hoT_ ho7_
  have hC_ : ∀ b, b < sz → T 0 b ≠ 10 → T 0 b ≠ 24 → T 0 b ≠ 26 → b ≠ o → ∀ j, j ≠ 197 → T7_ j b = T j b := fun b_ h1_ h2_ h3_ h4_ h5_ j_ h6_ => (hx7_ b_ h5_ j_).trans (hC_ b_ h1_ h2_ h3_ h4_ h5_ j_ h6_)
  have hR_ : ∀ b, b < sz → b ≠ o → ∀ k, T7_ k b = T k b := fun b_ h1_ h2_ k_ => (hx7_ b_ h2_ k_).trans (hR_ b_ h1_ h2_ k_)
  have u8_ : T7_ 0 o = 102 := (hj7_ 0 (by decide)).trans u6_
  have u9_ : T7_ 0 q4_ = 20 := (hx7_ q4_ (ty_ne tq4_ u6_ (by decide)) 0).trans tq4_
  have u10_ : T7_ 1 q4_ = 24 := (hx7_ q4_ (ty_ne tq4_ u6_ (by decide)) 1).trans tl4_
  have u11_ : T7_ 3 q4_ = 300 * o + 46 := (hx7_ q4_ (ty_ne tq4_ u6_ (by decide)) 3).trans tw4_
  refine j_aload_n E 28 rfl dX1_init_27 rfl (lv_at hl 0 rfl) ?_
  refine j_bipush E 30 rfl dX1_init_28 (by decide) ?_
  have hw0_ := hw
  refine n_arr20 E hK hw hA (300 * o + 47) 24 (by decide) (by decide) (Nat.le_of_ble_eq_true rfl) (Nat.le_of_ble_eq_true rfl) 32 rfl dX1_init_30 (fun q12_ T12_ y300_12 H hge12_ hx12_ ho12_ tq12_ tl12_ tw12_ yz12_ yo12_ hw => ?_)
  have fq12_ : s.heap.size ≤ q12_ := Nat.le_trans hw0_.2.2.1 hge12_
  have hw : WK D cy T12_ (upV (upV (upV (upV v_0 43 (upB (v_0 43) o ((-1)))) 44 (upB (v_0 44) o 0)) 45 (upB (v_0 45) o ((-1)))) 300 y300_12) A0 s.heap H locs := cw_eq hw (by first | rfl | (funext j_; simp only [upV, reduceIte]; (repeat' split) <;> first | rfl | omega | (subst_vars; rfl)))
  have yo12_ : ∀ b, b ≠ q12_ → ∀ i, y300_12 (pr b i) = y300_4 (pr b i) := yo12_
  have kd13_ : KdA_ T sz [] (v_0 300) (y300_12) := KdA_tr kd5_ (KdA_new yo12_ (by omega))
  have hT12_ : WT T12_ := hw.1.2.1
  have hO12_ : ∀ x, ow T12_ x → κ 2 2 ≤ x := fun x h => hAc x (hw.2.1 x h)
  have hoT_ : OW T T12_ s.heap.size := OW.tr hw0_.2.2.1 hoT_ ho12_
  have hC_ : ∀ b, b < sz → T 0 b ≠ 10 → T 0 b ≠ 24 → T 0 b ≠ 26 → b ≠ o → ∀ j, j ≠ 197 → T12_ j b = T j b := fun b_ h1_ h2_ h3_ h4_ h5_ j_ h6_ => (hx12_ b_ (by have := hw0_.2.2.1; have := hge12_; omega) j_).trans (hC_ b_ h1_ h2_ h3_ h4_ h5_ j_ h6_)
  have hR_ : ∀ b, b < sz → b ≠ o → ∀ k, T12_ k b = T k b := fun b_ h1_ h2_ k_ => (hx12_ b_ (by have := hw0_.2.2.1; have := hge12_; omega) k_).trans (hR_ b_ h1_ h2_ k_)
  have u14_ : T12_ 0 o = 102 := (hx12_ o (Nat.ne_of_lt (Nat.lt_of_lt_of_le (cw_lt hw0_.1 u8_ (fun _ _ _ => ⟨_, rfl⟩)) hge12_)) 0).trans u8_
  have u15_ : T12_ 0 q4_ = 20 := (hx12_ q4_ (Nat.ne_of_lt (Nat.lt_of_lt_of_le (cw_lt hw0_.1 u9_ (fun _ _ _ => ⟨_, rfl⟩)) hge12_)) 0).trans u9_
  have u16_ : T12_ 1 q4_ = 24 := (hx12_ q4_ (Nat.ne_of_lt (Nat.lt_of_lt_of_le (cw_lt hw0_.1 u9_ (fun _ _ _ => ⟨_, rfl⟩)) hge12_)) 1).trans u10_
  have u17_ : T12_ 3 q4_ = 300 * o + 46 := (hx12_ q4_ (Nat.ne_of_lt (Nat.lt_of_lt_of_le (cw_lt hw0_.1 u9_ (fun _ _ _ => ⟨_, rfl⟩)) hge12_)) 3).trans u11_
  have u18_ : T12_ 46 o = q4_ + 1 := (hx12_ o (Nat.ne_of_lt (Nat.lt_of_lt_of_le (cw_lt hw0_.1 u8_ (fun _ _ _ => ⟨_, rfl⟩)) hge12_)) 46).trans hk7_
  have hw0_ := hw
  refine rr_47 E hK hw hnm fl_X1_26 u14_ 35 rfl dX1_init_32 (fun T19_ H locs hx19_ hj19_ hk19_ ho19_ hw => ?_)
  have hT19_ : WT T19_ := hw.1.2.1
  have hO19_ : ∀ x, ow T19_ x → κ 2 2 ≤ x := fun x h => hAc x (hw.2.1 x h)
  have hoT_ : OW T T19_ s.heap.size := OW.tr0 hoT_ ho19_
  have hC_ : ∀ b, b < sz → T 0 b ≠ 10 → T 0 b ≠ 24 → T 0 b ≠ 26 → b ≠ o → ∀ j, j ≠ 197 → T19_ j b = T j b := fun b_ h1_ h2_ h3_ h4_ h5_ j_ h6_ => (hx19_ b_ h5_ j_).trans (hC_ b_ h1_ h2_ h3_ h4_ h5_ j_ h6_)
  have hR_ : ∀ b, b < sz → b ≠ o → ∀ k, T19_ k b = T k b := fun b_ h1_ h2_ k_ => (hx19_ b_ h2_ k_).trans (hR_ b_ h1_ h2_ k_)
  have u20_ : T19_ 0 o = 102 := (hj19_ 0 (by decide)).trans u14_
  have u21_ : T19_ 0 q4_ = 20 := (hx19_ q4_ (ty_ne u15_ u14_ (by decide)) 0).trans u15_
  have u22_ : T19_ 0 q12_ = 20 := (hx19_ q12_ (ty_ne tq12_ u14_ (by decide)) 0).trans tq12_
  have u23_ : T19_ 1 q4_ = 24 := (hx19_ q4_ (ty_ne u15_ u14_ (by decide)) 1).trans u16_
  have u24_ : T19_ 1 q12_ = 24 := (hx19_ q12_ (ty_ne tq12_ u14_ (by decide)) 1).trans tl12_
  have u25_ : T19_ 3 q4_ = 300 * o + 46 := (hx19_ q4_ (ty_ne u15_ u14_ (by decide)) 3).trans u17_
  have u26_ : T19_ 3 q12_ = 300 * o + 47 := (hx19_ q12_ (ty_ne tq12_ u14_ (by decide)) 3).trans tw12_
  have u27_ : T19_ 46 o = q4_ + 1 := (hj19_ 46 (by decide)).trans u18_
  refine j_aload_n E 36 rfl dX1_init_35 rfl (lv_at hl 0 rfl) ?_
  refine j_bipush E 38 rfl dX1_init_36 (by decide) ?_
  have hw0_ := hw
  refine n_arr20 E hK hw hA (300 * o + 48) 24 (by decide) (by decide) (Nat.le_of_ble_eq_true rfl) (Nat.le_of_ble_eq_true rfl) 40 rfl dX1_init_38 (fun q28_ T28_ y300_28 H hge28_ hx28_ ho28_ tq28_ tl28_ tw28_ yz28_ yo28_ hw => ?_)
  have fq28_ : s.heap.size ≤ q28_ := Nat.le_trans hw0_.2.2.1 hge28_
  have hw : WK D cy T28_ (upV (upV (upV (upV v_0 43 (upB (v_0 43) o ((-1)))) 44 (upB (v_0 44) o 0)) 45 (upB (v_0 45) o ((-1)))) 300 y300_28) A0 s.heap H locs := cw_eq hw (by first | rfl | (funext j_; simp only [upV, reduceIte]; (repeat' split) <;> first | rfl | omega | (subst_vars; rfl)))
  have yo28_ : ∀ b, b ≠ q28_ → ∀ i, y300_28 (pr b i) = y300_12 (pr b i) := yo28_
  have kd29_ : KdA_ T sz [] (v_0 300) (y300_28) := KdA_tr kd13_ (KdA_new yo28_ (by omega))
  have hT28_ : WT T28_ := hw.1.2.1
  have hO28_ : ∀ x, ow T28_ x → κ 2 2 ≤ x := fun x h => hAc x (hw.2.1 x h)
  have hoT_ : OW T T28_ s.heap.size := OW.tr hw0_.2.2.1 hoT_ ho28_
  have hC_ : ∀ b, b < sz → T 0 b ≠ 10 → T 0 b ≠ 24 → T 0 b ≠ 26 → b ≠ o → ∀ j, j ≠ 197 → T28_ j b = T j b := fun b_ h1_ h2_ h3_ h4_ h5_ j_ h6_ => (hx28_ b_ (by have := hw0_.2.2.1; have := hge28_; omega) j_).trans (hC_ b_ h1_ h2_ h3_ h4_ h5_ j_ h6_)
  have hR_ : ∀ b, b < sz → b ≠ o → ∀ k, T28_ k b = T k b := fun b_ h1_ h2_ k_ => (hx28_ b_ (by have := hw0_.2.2.1; have := hge28_; omega) k_).trans (hR_ b_ h1_ h2_ k_)
  have u30_ : T28_ 0 o = 102 := (hx28_ o (Nat.ne_of_lt (Nat.lt_of_lt_of_le (cw_lt hw0_.1 u20_ (fun _ _ _ => ⟨_, rfl⟩)) hge28_)) 0).trans u20_
  have u31_ : T28_ 0 q4_ = 20 := (hx28_ q4_ (Nat.ne_of_lt (Nat.lt_of_lt_of_le (cw_lt hw0_.1 u21_ (fun _ _ _ => ⟨_, rfl⟩)) hge28_)) 0).trans u21_
  have u32_ : T28_ 0 q12_ = 20 := (hx28_ q12_ (Nat.ne_of_lt (Nat.lt_of_lt_of_le (cw_lt hw0_.1 u22_ (fun _ _ _ => ⟨_, rfl⟩)) hge28_)) 0).trans u22_
  have u33_ : T28_ 1 q4_ = 24 := (hx28_ q4_ (Nat.ne_of_lt (Nat.lt_of_lt_of_le (cw_lt hw0_.1 u21_ (fun _ _ _ => ⟨_, rfl⟩)) hge28_)) 1).trans u23_
  have u34_ : T28_ 1 q12_ = 24 := (hx28_ q12_ (Nat.ne_of_lt (Nat.lt_of_lt_of_le (cw_lt hw0_.1 u22_ (fun _ _ _ => ⟨_, rfl⟩)) hge28_)) 1).trans u24_
  have u35_ : T28_ 3 q4_ = 300 * o + 46 := (hx28_ q4_ (Nat.ne_of_lt (Nat.lt_of_lt_of_le (cw_lt hw0_.1 u21_ (fun _ _ _ => ⟨_, rfl⟩)) hge28_)) 3).trans u25_
  have u36_ : T28_ 3 q12_ = 300 * o + 47 := (hx28_ q12_ (Nat.ne_of_lt (Nat.lt_of_lt_of_le (cw_lt hw0_.1 u22_ (fun _ _ _ => ⟨_, rfl⟩)) hge28_)) 3).trans u26_
  have u37_ : T28_ 46 o = q4_ + 1 := (hx28_ o (Nat.ne_of_lt (Nat.lt_of_lt_of_le (cw_lt hw0_.1 u20_ (fun _ _ _ => ⟨_, rfl⟩)) hge28_)) 46).trans u27_
  have u38_ : T28_ 47 o = q12_ + 1 := (hx28_ o (Nat.ne_of_lt (Nat.lt_of_lt_of_le (cw_lt hw0_.1 u20_ (fun _ _ _ => ⟨_, rfl⟩)) hge28_)) 47).trans hk19_
  have hw0_ := hw
  refine rr_48 E hK hw hnm fl_X1_29 u30_ 43 rfl dX1_init_40 (fun T39_ H locs hx39_ hj39_ hk39_ ho39_ hw => ?_)
  have hT39_ : WT T39_ := hw.1.2.1
  have hO39_ : ∀ x, ow T39_ x → κ 2 2 ≤ x := fun x h => hAc x (hw.2.1 x h)
  have hoT_ : OW T T39_ s.heap.size := OW.tr0 hoT_ ho39_
  have hC_ : ∀ b, b < sz → T 0 b ≠ 10 → T 0 b ≠ 24 → T 0 b ≠ 26 → b ≠ o → ∀ j, j ≠ 197 → T39_ j b = T j b := fun b_ h1_ h2_ h3_ h4_ h5_ j_ h6_ => (hx39_ b_ h5_ j_).trans (hC_ b_ h1_ h2_ h3_ h4_ h5_ j_ h6_)
  have hR_ : ∀ b, b < sz → b ≠ o → ∀ k, T39_ k b = T k b := fun b_ h1_ h2_ k_ => (hx39_ b_ h2_ k_).trans (hR_ b_ h1_ h2_ k_)
  have u40_ : T39_ 0 o = 102 := (hj39_ 0 (by decide)).trans u30_
  have u41_ : T39_ 0 q4_ = 20 := (hx39_ q4_ (ty_ne u31_ u30_ (by decide)) 0).trans u31_
  have u42_ : T39_ 0 q12_ = 20 := (hx39_ q12_ (ty_ne u32_ u30_ (by decide)) 0).trans u32_
  have u43_ : T39_ 0 q28_ = 20 := (hx39_ q28_ (ty_ne tq28_ u30_ (by decide)) 0).trans tq28_
  have u44_ : T39_ 1 q4_ = 24 := (hx39_ q4_ (ty_ne u31_ u30_ (by decide)) 1).trans u33_
  have u45_ : T39_ 1 q12_ = 24 := (hx39_ q12_ (ty_ne u32_ u30_ (by decide)) 1).trans u34_
  have u46_ : T39_ 1 q28_ = 24 := (hx39_ q28_ (ty_ne tq28_ u30_ (by decide)) 1).trans tl28_
  have u47_ : T39_ 3 q4_ = 300 * o + 46 := (hx39_ q4_ (ty_ne u31_ u30_ (by decide)) 3).trans u35_
  have u48_ : T39_ 3 q12_ = 300 * o + 47 := (hx39_ q12_ (ty_ne u32_ u30_ (by decide)) 3).trans u36_
  have u49_ : T39_ 3 q28_ = 300 * o + 48 := (hx39_ q28_ (ty_ne tq28_ u30_ (by decide)) 3).trans tw28_
  have u50_ : T39_ 46 o = q4_ + 1 := (hj39_ 46 (by decide)).trans u37_
  have u51_ : T39_ 47 o = q12_ + 1 := (hj39_ 47 (by decide)).trans u38_
  refine j_aload_n E 44 rfl dX1_init_43 rfl (lv_at hl 0 rfl) ?_
  refine j_iload_n E 45 rfl dX1_init_44 rfl (lv_at hl 1 rfl) ?_
  refine rp_40 E hK hw hnm fl_X1_32 u40_ r_v_a 48 rfl dX1_init_45 (fun H locs hw => ?_)
  have hw : WK D cy T39_ (upV (upV (upV (upV (upV v_0 40 (upB (v_0 40) o v_a)) 43 (upB (v_0 43) o ((-1)))) 44 (upB (v_0 44) o 0)) 45 (upB (v_0 45) o ((-1)))) 300 y300_28) A0 s.heap H locs := cw_eq hw (by first | rfl | (funext j_; simp only [upV, reduceIte]; (repeat' split) <;> first | rfl | omega | (subst_vars; rfl)))
  refine j_aload_n E 49 rfl dX1_init_48 rfl (lv_at hl 0 rfl) ?_
  refine j_iload_n E 50 rfl dX1_init_49 rfl (lv_at hl 2 rfl) ?_
  refine rp_41 E hK hw hnm fl_X1_35 u40_ r_v_b 53 rfl dX1_init_50 (fun H locs hw => ?_)
  have hw : WK D cy T39_ (upV (upV (upV (upV (upV (upV v_0 40 (upB (v_0 40) o v_a)) 41 (upB (v_0 41) o v_b)) 43 (upB (v_0 43) o ((-1)))) 44 (upB (v_0 44) o 0)) 45 (upB (v_0 45) o ((-1)))) 300 y300_28) A0 s.heap H locs := cw_eq hw (by first | rfl | exact (funext fun j_ => if a40_ : j_ = 40 then (by subst a40_; rfl) else if a41_ : j_ = 41 then (by subst a41_; rfl) else if a43_ : j_ = 43 then (by subst a43_; rfl) else if a44_ : j_ = 44 then (by subst a44_; rfl) else if a45_ : j_ = 45 then (by subst a45_; rfl) else if a300_ : j_ = 300 then (by subst a300_; rfl) else (by simp only [upV, if_neg a40_, if_neg a41_, if_neg a43_, if_neg a44_, if_neg a45_, if_neg a300_])))
  refine j_aload_n E 54 rfl dX1_init_53 rfl (lv_at hl 0 rfl) ?_
  refine j_iload_n E 55 rfl dX1_init_54 rfl (lv_at hl 3 rfl) ?_
  refine rp_42 E hK hw hnm fl_X1_38 u40_ r_v_c 58 rfl dX1_init_55 (fun H locs hw => ?_)
  have hw : WK D cy T39_ (upV (upV (upV (upV (upV (upV (upV v_0 40 (upB (v_0 40) o v_a)) 41 (upB (v_0 41) o v_b)) 42 (upB (v_0 42) o v_c)) 43 (upB (v_0 43) o ((-1)))) 44 (upB (v_0 44) o 0)) 45 (upB (v_0 45) o ((-1)))) 300 y300_28) A0 s.heap H locs := cw_eq hw (by first | rfl | exact (funext fun j_ => if a40_ : j_ = 40 then (by subst a40_; rfl) else if a41_ : j_ = 41 then (by subst a41_; rfl) else if a42_ : j_ = 42 then (by subst a42_; rfl) else if a43_ : j_ = 43 then (by subst a43_; rfl) else if a44_ : j_ = 44 then (by subst a44_; rfl) else if a45_ : j_ = 45 then (by subst a45_; rfl) else if a300_ : j_ = 300 then (by subst a300_; rfl) else (by simp only [upV, if_neg a40_, if_neg a41_, if_neg a42_, if_neg a43_, if_neg a44_, if_neg a45_, if_neg a300_])))
  have hw0_ := hw
  obtain ⟨T55_, hx55_, tq55_, xe55_46_, xe55_47_, xe55_48_, ho55_, hw⟩ := pm_2 hw u40_ u50_ u41_ u44_ u47_ u51_ u42_ u45_ u48_ hk39_ u43_ u46_ u49_
  have hT55_ : WT T55_ := hw.1.2.1
  have hO55_ : ∀ x, ow T55_ x → κ 2 2 ≤ x := fun x h => hAc x (hw.2.1 x h)
  have hoT_ : OW T T55_ s.heap.size := OW.tr0 hoT_ ho55_
  have hC_ : ∀ b, b < sz → T 0 b ≠ 10 → T 0 b ≠ 24 → T 0 b ≠ 26 → b ≠ o → ∀ j, j ≠ 197 → T55_ j b = T j b := fun b_ h1_ h2_ h3_ h4_ h5_ j_ h6_ => (hx55_ b_ h5_ j_).trans (hC_ b_ h1_ h2_ h3_ h4_ h5_ j_ h6_)
  have hR_ : ∀ b, b < sz → b ≠ o → ∀ k, T55_ k b = T k b := fun b_ h1_ h2_ k_ => (hx55_ b_ h2_ k_).trans (hR_ b_ h1_ h2_ k_)
  have u56_ : T55_ 1 q4_ = 24 := (hx55_ q4_ (ty_ne u41_ u40_ (by decide)) 1).trans u44_
  have u57_ : T55_ 1 q12_ = 24 := (hx55_ q12_ (ty_ne u42_ u40_ (by decide)) 1).trans u45_
  have u58_ : T55_ 1 q28_ = 24 := (hx55_ q28_ (ty_ne u43_ u40_ (by decide)) 1).trans u46_
  refine j_aload_n E 59 rfl dX1_init_58 rfl (lv_at hl 0 rfl) ?_
  refine g_46 E hK hw fl_X1_22 tq55_ 62 rfl dX1_init_59 ?_
  have ln59_ := wl_46 hT55_ tq55_
  refine j_iconst E 63 rfl dX1_init_62 ?_
  refine kS_v E (c_J7_fill_53178 l D cy T55_ (upV (upV (upV (upV (upV (upV (upV v_0 40 (upB (v_0 40) o v_a)) 41 (upB (v_0 41) o v_b)) 42 (upB (v_0 42) o v_c)) 43 (upB (v_0 43) o ((-1)))) 44 (upB (v_0 44) o 0)) 45 (upB (v_0 45) o ((-1)))) 300 y300_28) (T55_ 46 o) ((-1))   (wt_46 hT55_ tq55_) (rr (by decide)) ) ms_J7_fill_53178 ml_X1_41 hK hw hA ⟨Nat.le_of_ble_eq_true rfl, Nat.le_of_ble_eq_true rfl⟩ ⟨Nat.le_of_ble_eq_true rfl, Nat.le_of_ble_eq_true rfl⟩ (As := [.ref (T55_ 46 o), .int (J ((-1)))]) (rest := []) rfl rfl hl.1 (Nat.le_of_ble_eq_true rfl) 66 rfl dX1_init_63 (fun v_60 H locs hq60_ hw => ?_)
  obtain ⟨y300_60, ev60_, hh60_⟩ := hq60_
  rw [ev60_] at hw; clear ev60_
  have hw : WK D cy T55_ (upV (upV (upV (upV (upV (upV (upV v_0 40 (upB (v_0 40) o v_a)) 41 (upB (v_0 41) o v_b)) 42 (upB (v_0 42) o v_c)) 43 (upB (v_0 43) o ((-1)))) 44 (upB (v_0 44) o 0)) 45 (upB (v_0 45) o ((-1)))) 300 y300_60) A0 s.heap H locs := cw_eq hw (by first | rfl | exact (funext fun j_ => if a40_ : j_ = 40 then (by subst a40_; rfl) else if a41_ : j_ = 41 then (by subst a41_; rfl) else if a42_ : j_ = 42 then (by subst a42_; rfl) else if a43_ : j_ = 43 then (by subst a43_; rfl) else if a44_ : j_ = 44 then (by subst a44_; rfl) else if a45_ : j_ = 45 then (by subst a45_; rfl) else if a300_ : j_ = 300 then (by subst a300_; rfl) else (by simp only [upV, if_neg a40_, if_neg a41_, if_neg a42_, if_neg a43_, if_neg a44_, if_neg a45_, if_neg a300_])))
  obtain ⟨hh60_, kf60_⟩ := hh60_
  have kd61_ : KdA_ T sz [] (v_0 300) (y300_60) := KdA_tr kd29_ (KdA_ro kf60_ (by rw [xe55_46_]; have := fq4_; omega))
  replace hh60_ : ∀ j_, 0 ≤ j_ → j_ < (T55_ 1 (T55_ 46 o) : Int) → gC_ (y300_60) (T55_ 46 o) j_ = (-1 : Int) := hh60_
  refine j_aload_n E 67 rfl dX1_init_66 rfl (lv_at hl 0 rfl) ?_
  refine g_48 E hK hw fl_X1_29 tq55_ 70 rfl dX1_init_67 ?_
  have ln62_ := wl_48 hT55_ tq55_
  refine j_iconst E 71 rfl dX1_init_70 ?_
  refine kS_v E (c_J7_fill_53178 l D cy T55_ (upV (upV (upV (upV (upV (upV (upV v_0 40 (upB (v_0 40) o v_a)) 41 (upB (v_0 41) o v_b)) 42 (upB (v_0 42) o v_c)) 43 (upB (v_0 43) o ((-1)))) 44 (upB (v_0 44) o 0)) 45 (upB (v_0 45) o ((-1)))) 300 y300_60) (T55_ 48 o) ((-1))   (wt_48 hT55_ tq55_) (rr (by decide)) ) ms_J7_fill_53178 ml_X1_41 hK hw hA ⟨Nat.le_of_ble_eq_true rfl, Nat.le_of_ble_eq_true rfl⟩ ⟨Nat.le_of_ble_eq_true rfl, Nat.le_of_ble_eq_true rfl⟩ (As := [.ref (T55_ 48 o), .int (J ((-1)))]) (rest := []) rfl rfl hl.1 (Nat.le_of_ble_eq_true rfl) 74 rfl dX1_init_71 (fun v_63 H locs hq63_ hw => ?_)
  obtain ⟨y300_63, ev63_, hh63_⟩ := hq63_
  rw [ev63_] at hw; clear ev63_
  have hw : WK D cy T55_ (upV (upV (upV (upV (upV (upV (upV v_0 40 (upB (v_0 40) o v_a)) 41 (upB (v_0 41) o v_b)) 42 (upB (v_0 42) o v_c)) 43 (upB (v_0 43) o ((-1)))) 44 (upB (v_0 44) o 0)) 45 (upB (v_0 45) o ((-1)))) 300 y300_63) A0 s.heap H locs := cw_eq hw (by first | rfl | exact (funext fun j_ => if a40_ : j_ = 40 then (by subst a40_; rfl) else if a41_ : j_ = 41 then (by subst a41_; rfl) else if a42_ : j_ = 42 then (by subst a42_; rfl) else if a43_ : j_ = 43 then (by subst a43_; rfl) else if a44_ : j_ = 44 then (by subst a44_; rfl) else if a45_ : j_ = 45 then (by subst a45_; rfl) else if a300_ : j_ = 300 then (by subst a300_; rfl) else (by simp only [upV, if_neg a40_, if_neg a41_, if_neg a42_, if_neg a43_, if_neg a44_, if_neg a45_, if_neg a300_])))
  obtain ⟨hh63_, kf63_⟩ := hh63_
  have kd64_ : KdA_ T sz [] (v_0 300) (y300_63) := KdA_tr kd61_ (KdA_ro kf63_ (by rw [xe55_48_]; have := fq28_; omega))
  replace hh63_ : ∀ j_, 0 ≤ j_ → j_ < (T55_ 1 (T55_ 48 o) : Int) → gC_ (y300_63) (T55_ 48 o) j_ = (-1 : Int) := hh63_
  exact hret 74 T55_ (upV (upV (upV (upV (upV (upV (upV v_0 40 (upB (v_0 40) o v_a)) 41 (upB (v_0 41) o v_b)) 42 (upB (v_0 42) o v_c)) 43 (upB (v_0 43) o ((-1)))) 44 (upB (v_0 44) o 0)) 45 (upB (v_0 45) o ((-1)))) 300 y300_63) _ _ ls _ _ hw hoT_ ⟨(upB (v_0 40) o v_a), (upB (v_0 41) o v_b), (upB (v_0 42) o v_c), (upB (v_0 43) o ((-1))), (upB (v_0 44) o 0), (upB (v_0 45) o ((-1))), y300_63, rfl, ⟨⟨hR_, tq55_⟩, kd64_⟩⟩ (Nat.le_of_ble_eq_true rfl) (Nat.le_of_ble_eq_true rfl) dX1_init_74
set_option maxHeartbeats 4000000 in
set_option maxRecDepth 100000 in
theorem n_X2_init (l : Launch) (D : va_G) (cy : Nat → ClassId) (κ T : Nat → Nat → Nat) (v_0 : Nat → Nat → Int) (o : Nat) (sz : Nat) (hO : ∀ x, ow T x → κ 2 2 ≤ x) (t_o : T 0 o = 103) : KA l D cy κ T yX2_init cX2_init 1 none 1 4 6524 [.ref o] v_0 sz (AV (fun (T_2 : Nat → Nat → Nat) (v_2 : Nat → Nat → Int) => ∃ (y64_2 : Nat → Int) (y65_2 : Nat → Int) (y66_2 : Nat → Int) (y300_2 : Nat → Int) , v_2 = upV (upV (upV (upV v_0 64 y64_2) 65 y65_2) 66 y66_2) 300 y300_2 ∧ (((∀ b, b < sz → b ≠ o → ∀ k, T_2 k b = T k b) ∧ T_2 0 o = 3) ∧ KdA_ T sz [] (v_0 300) y300_2))) := by
  refine KA.ofv (by decide) (Nat.le_of_ble_eq_true rfl) hO ?_
  intro p e s m below meth c ls ar QW A0 H locs E hK hZ hA hAc hsz hszH_ hnm hw hlo_ hl hret
  have hl : lv_has ls 1 [(0, .ref o)] := hl
  have hT : WT T := hw.1.2.1
  have hoT_ : OW T T s.heap.size := OW.rf T _
  have hC_ : ∀ b, b < sz → T 0 b ≠ 10 → T 0 b ≠ 24 → T 0 b ≠ 26 → b ≠ o → ∀ j, j ≠ 197 → T j b = T j b := fun _ _ _ _ _ _ _ _ => rfl
  have hR_ : ∀ b, b < sz → b ≠ o → ∀ k, T k b = T k b := fun b _ _ k => rfl
  refine j_aload_n E 1 rfl dX2_init_0 rfl (lv_at hl 0 rfl) ?_
  refine W.objInit E.1 E.2.1 E.2.2.2.1 (E.2.2.2.2.1 _ mo_X2_3) (E.2.2.2.2.1 _ im_ob) (E.2.2.2.2.1 _ cd_ob) rfl (by rw [E.2.2.1]; exact hl.1) rfl dX2_init_1 (Nat.le_of_ble_eq_true rfl) (Nat.le_of_ble_eq_true rfl) ?_
  show W p l e (rmd 1 4 6524) s m ar below meth c H locs _ _ QW (F0 m 4 ls [])
  refine j_aload_n E 5 rfl dX2_init_4 rfl (lv_at hl 0 rfl) ?_
  refine j_sipush E 8 rfl dX2_init_5 (by decide) ?_
  have hw0_ := hw
  refine n_arr20 E hK hw hA (300 * o + 60) 6400 (by decide) (by decide) (Nat.le_of_ble_eq_true rfl) (Nat.le_of_ble_eq_true rfl) 10 rfl dX2_init_8 (fun q1_ T1_ y300_1 H hge1_ hx1_ ho1_ tq1_ tl1_ tw1_ yz1_ yo1_ hw => ?_)
  have fq1_ : s.heap.size ≤ q1_ := Nat.le_trans hw0_.2.2.1 hge1_
  have hw : WK D cy T1_ (upV v_0 300 y300_1) A0 s.heap H locs := cw_eq hw (by first | rfl | (funext j_; simp only [upV, reduceIte]; (repeat' split) <;> first | rfl | omega | (subst_vars; rfl)))
  have yo1_ : ∀ b, b ≠ q1_ → ∀ i, y300_1 (pr b i) = v_0 300 (pr b i) := yo1_
  have kd2_ : KdA_ T sz [] (v_0 300) (y300_1) := KdA_tr KdA_rf (KdA_new yo1_ (by omega))
  have hT1_ : WT T1_ := hw.1.2.1
  have hO1_ : ∀ x, ow T1_ x → κ 2 2 ≤ x := fun x h => hAc x (hw.2.1 x h)
  have hoT_ : OW T T1_ s.heap.size := OW.tr hw0_.2.2.1 hoT_ ho1_
  have hC_ : ∀ b, b < sz → T 0 b ≠ 10 → T 0 b ≠ 24 → T 0 b ≠ 26 → b ≠ o → ∀ j, j ≠ 197 → T1_ j b = T j b := fun b_ h1_ h2_ h3_ h4_ h5_ j_ h6_ => (hx1_ b_ (by have := hw0_.2.2.1; have := hge1_; omega) j_).trans (hC_ b_ h1_ h2_ h3_ h4_ h5_ j_ h6_)
  have hR_ : ∀ b, b < sz → b ≠ o → ∀ k, T1_ k b = T k b := fun b_ h1_ h2_ k_ => (hx1_ b_ (by have := hw0_.2.2.1; have := hge1_; omega) k_).trans (hR_ b_ h1_ h2_ k_)
  have u3_ : T1_ 0 o = 103 := (hx1_ o (Nat.ne_of_lt (Nat.lt_of_lt_of_le (cw_lt hw0_.1 t_o (fun _ _ _ => ⟨_, rfl⟩)) hge1_)) 0).trans t_o
  have hw0_ := hw
  refine rr_60 E hK hw hnm fl_X2_11 u3_ 13 rfl dX2_init_10 (fun T4_ H locs hx4_ hj4_ hk4_ ho4_ hw => ?_)
  have hT4_ : WT T4_ := hw.1.2.1
  have hO4_ : ∀ x, ow T4_ x → κ 2 2 ≤ x := fun x h => hAc x (hw.2.1 x h)
  have hoT_ : OW T T4_ s.heap.size := OW.tr0 hoT_ ho4_
  have hC_ : ∀ b, b < sz → T 0 b ≠ 10 → T 0 b ≠ 24 → T 0 b ≠ 26 → b ≠ o → ∀ j, j ≠ 197 → T4_ j b = T j b := fun b_ h1_ h2_ h3_ h4_ h5_ j_ h6_ => (hx4_ b_ h5_ j_).trans (hC_ b_ h1_ h2_ h3_ h4_ h5_ j_ h6_)
  have hR_ : ∀ b, b < sz → b ≠ o → ∀ k, T4_ k b = T k b := fun b_ h1_ h2_ k_ => (hx4_ b_ h2_ k_).trans (hR_ b_ h1_ h2_ k_)
  have u5_ : T4_ 0 o = 103 := (hj4_ 0 (by decide)).trans u3_
  have u6_ : T4_ 0 q1_ = 20 := (hx4_ q1_ (ty_ne tq1_ u3_ (by decide)) 0).trans tq1_
  have u7_ : T4_ 1 q1_ = 6400 := (hx4_ q1_ (ty_ne tq1_ u3_ (by decide)) 1).trans tl1_
  have u8_ : T4_ 3 q1_ = 300 * o + 60 := (hx4_ q1_ (ty_ne tq1_ u3_ (by decide)) 3).trans tw1_
  refine j_aload_n E 14 rfl dX2_init_13 rfl (lv_at hl 0 rfl) ?_
  refine j_bipush E 16 rfl dX2_init_14 (by decide) ?_
  have hw0_ := hw
  refine n_arr20 E hK hw hA (300 * o + 61) 96 (by decide) (by decide) (Nat.le_of_ble_eq_true rfl) (Nat.le_of_ble_eq_true rfl) 18 rfl dX2_init_16 (fun q9_ T9_ y300_9 H hge9_ hx9_ ho9_ tq9_ tl9_ tw9_ yz9_ yo9_ hw => ?_)
  have fq9_ : s.heap.size ≤ q9_ := Nat.le_trans hw0_.2.2.1 hge9_
  have hw : WK D cy T9_ (upV v_0 300 y300_9) A0 s.heap H locs := cw_eq hw (by first | rfl | (funext j_; simp only [upV, reduceIte]; (repeat' split) <;> first | rfl | omega | (subst_vars; rfl)))
  have yo9_ : ∀ b, b ≠ q9_ → ∀ i, y300_9 (pr b i) = y300_1 (pr b i) := yo9_
  have kd10_ : KdA_ T sz [] (v_0 300) (y300_9) := KdA_tr kd2_ (KdA_new yo9_ (by omega))
  have hT9_ : WT T9_ := hw.1.2.1
  have hO9_ : ∀ x, ow T9_ x → κ 2 2 ≤ x := fun x h => hAc x (hw.2.1 x h)
  have hoT_ : OW T T9_ s.heap.size := OW.tr hw0_.2.2.1 hoT_ ho9_
  have hC_ : ∀ b, b < sz → T 0 b ≠ 10 → T 0 b ≠ 24 → T 0 b ≠ 26 → b ≠ o → ∀ j, j ≠ 197 → T9_ j b = T j b := fun b_ h1_ h2_ h3_ h4_ h5_ j_ h6_ => (hx9_ b_ (by have := hw0_.2.2.1; have := hge9_; omega) j_).trans (hC_ b_ h1_ h2_ h3_ h4_ h5_ j_ h6_)
  have hR_ : ∀ b, b < sz → b ≠ o → ∀ k, T9_ k b = T k b := fun b_ h1_ h2_ k_ => (hx9_ b_ (by have := hw0_.2.2.1; have := hge9_; omega) k_).trans (hR_ b_ h1_ h2_ k_)
  have u11_ : T9_ 0 o = 103 := (hx9_ o (Nat.ne_of_lt (Nat.lt_of_lt_of_le (cw_lt hw0_.1 u5_ (fun _ _ _ => ⟨_, rfl⟩)) hge9_)) 0).trans u5_
  have u12_ : T9_ 0 q1_ = 20 := (hx9_ q1_ (Nat.ne_of_lt (Nat.lt_of_lt_of_le (cw_lt hw0_.1 u6_ (fun _ _ _ => ⟨_, rfl⟩)) hge9_)) 0).trans u6_
  have u13_ : T9_ 1 q1_ = 6400 := (hx9_ q1_ (Nat.ne_of_lt (Nat.lt_of_lt_of_le (cw_lt hw0_.1 u6_ (fun _ _ _ => ⟨_, rfl⟩)) hge9_)) 1).trans u7_
  have u14_ : T9_ 3 q1_ = 300 * o + 60 := (hx9_ q1_ (Nat.ne_of_lt (Nat.lt_of_lt_of_le (cw_lt hw0_.1 u6_ (fun _ _ _ => ⟨_, rfl⟩)) hge9_)) 3).trans u8_
  have u15_ : T9_ 60 o = q1_ + 1 := (hx9_ o (Nat.ne_of_lt (Nat.lt_of_lt_of_le (cw_lt hw0_.1 u5_ (fun _ _ _ => ⟨_, rfl⟩)) hge9_)) 60).trans hk4_
  have hw0_ := hw
  refine rr_61 E hK hw hnm fl_X2_15 u11_ 21 rfl dX2_init_18 (fun T16_ H locs hx16_ hj16_ hk16_ ho16_ hw => ?_)
  have hT16_ : WT T16_ := hw.1.2.1
  have hO16_ : ∀ x, ow T16_ x → κ 2 2 ≤ x := fun x h => hAc x (hw.2.1 x h)
  have hoT_ : OW T T16_ s.heap.size := OW.tr0 hoT_ ho16_
  have hC_ : ∀ b, b < sz → T 0 b ≠ 10 → T 0 b ≠ 24 → T 0 b ≠ 26 → b ≠ o → ∀ j, j ≠ 197 → T16_ j b = T j b := fun b_ h1_ h2_ h3_ h4_ h5_ j_ h6_ => (hx16_ b_ h5_ j_).trans (hC_ b_ h1_ h2_ h3_ h4_ h5_ j_ h6_)
  have hR_ : ∀ b, b < sz → b ≠ o → ∀ k, T16_ k b = T k b := fun b_ h1_ h2_ k_ => (hx16_ b_ h2_ k_).trans (hR_ b_ h1_ h2_ k_)
  have u17_ : T16_ 0 o = 103 := (hj16_ 0 (by decide)).trans u11_
  have u18_ : T16_ 0 q1_ = 20 := (hx16_ q1_ (ty_ne u12_ u11_ (by decide)) 0).trans u12_
  have u19_ : T16_ 0 q9_ = 20 := (hx16_ q9_ (ty_ne tq9_ u11_ (by decide)) 0).trans tq9_
  have u20_ : T16_ 1 q1_ = 6400 := (hx16_ q1_ (ty_ne u12_ u11_ (by decide)) 1).trans u13_
  have u21_ : T16_ 1 q9_ = 96 := (hx16_ q9_ (ty_ne tq9_ u11_ (by decide)) 1).trans tl9_
  have u22_ : T16_ 3 q1_ = 300 * o + 60 := (hx16_ q1_ (ty_ne u12_ u11_ (by decide)) 3).trans u14_
  have u23_ : T16_ 3 q9_ = 300 * o + 61 := (hx16_ q9_ (ty_ne tq9_ u11_ (by decide)) 3).trans tw9_
  have u24_ : T16_ 60 o = q1_ + 1 := (hj16_ 60 (by decide)).trans u15_
  refine j_aload_n E 22 rfl dX2_init_21 rfl (lv_at hl 0 rfl) ?_
  refine j_iconst E 23 rfl dX2_init_22 ?_
  have hw0_ := hw
  refine n_arr20 E hK hw hA (300 * o + 62) 4 (by decide) (by decide) (Nat.le_of_ble_eq_true rfl) (Nat.le_of_ble_eq_true rfl) 25 rfl dX2_init_23 (fun q25_ T25_ y300_25 H hge25_ hx25_ ho25_ tq25_ tl25_ tw25_ yz25_ yo25_ hw => ?_)
  have fq25_ : s.heap.size ≤ q25_ := Nat.le_trans hw0_.2.2.1 hge25_
  have hw : WK D cy T25_ (upV v_0 300 y300_25) A0 s.heap H locs := cw_eq hw (by first | rfl | (funext j_; simp only [upV, reduceIte]; (repeat' split) <;> first | rfl | omega | (subst_vars; rfl)))
  have yo25_ : ∀ b, b ≠ q25_ → ∀ i, y300_25 (pr b i) = y300_9 (pr b i) := yo25_
  have kd26_ : KdA_ T sz [] (v_0 300) (y300_25) := KdA_tr kd10_ (KdA_new yo25_ (by omega))
  have hT25_ : WT T25_ := hw.1.2.1
  have hO25_ : ∀ x, ow T25_ x → κ 2 2 ≤ x := fun x h => hAc x (hw.2.1 x h)
  have hoT_ : OW T T25_ s.heap.size := OW.tr hw0_.2.2.1 hoT_ ho25_
  have hC_ : ∀ b, b < sz → T 0 b ≠ 10 → T 0 b ≠ 24 → T 0 b ≠ 26 → b ≠ o → ∀ j, j ≠ 197 → T25_ j b = T j b := fun b_ h1_ h2_ h3_ h4_ h5_ j_ h6_ => (hx25_ b_ (by have := hw0_.2.2.1; have := hge25_; omega) j_).trans (hC_ b_ h1_ h2_ h3_ h4_ h5_ j_ h6_)
  have hR_ : ∀ b, b < sz → b ≠ o → ∀ k, T25_ k b = T k b := fun b_ h1_ h2_ k_ => (hx25_ b_ (by have := hw0_.2.2.1; have := hge25_; omega) k_).trans (hR_ b_ h1_ h2_ k_)
  have u27_ : T25_ 0 o = 103 := (hx25_ o (Nat.ne_of_lt (Nat.lt_of_lt_of_le (cw_lt hw0_.1 u17_ (fun _ _ _ => ⟨_, rfl⟩)) hge25_)) 0).trans u17_
  have u28_ : T25_ 0 q1_ = 20 := (hx25_ q1_ (Nat.ne_of_lt (Nat.lt_of_lt_of_le (cw_lt hw0_.1 u18_ (fun _ _ _ => ⟨_, rfl⟩)) hge25_)) 0).trans u18_
  have u29_ : T25_ 0 q9_ = 20 := (hx25_ q9_ (Nat.ne_of_lt (Nat.lt_of_lt_of_le (cw_lt hw0_.1 u19_ (fun _ _ _ => ⟨_, rfl⟩)) hge25_)) 0).trans u19_
  have u30_ : T25_ 1 q1_ = 6400 := (hx25_ q1_ (Nat.ne_of_lt (Nat.lt_of_lt_of_le (cw_lt hw0_.1 u18_ (fun _ _ _ => ⟨_, rfl⟩)) hge25_)) 1).trans u20_
  have u31_ : T25_ 1 q9_ = 96 := (hx25_ q9_ (Nat.ne_of_lt (Nat.lt_of_lt_of_le (cw_lt hw0_.1 u19_ (fun _ _ _ => ⟨_, rfl⟩)) hge25_)) 1).trans u21_
  have u32_ : T25_ 3 q1_ = 300 * o + 60 := (hx25_ q1_ (Nat.ne_of_lt (Nat.lt_of_lt_of_le (cw_lt hw0_.1 u18_ (fun _ _ _ => ⟨_, rfl⟩)) hge25_)) 3).trans u22_
  have u33_ : T25_ 3 q9_ = 300 * o + 61 := (hx25_ q9_ (Nat.ne_of_lt (Nat.lt_of_lt_of_le (cw_lt hw0_.1 u19_ (fun _ _ _ => ⟨_, rfl⟩)) hge25_)) 3).trans u23_
  have u34_ : T25_ 60 o = q1_ + 1 := (hx25_ o (Nat.ne_of_lt (Nat.lt_of_lt_of_le (cw_lt hw0_.1 u17_ (fun _ _ _ => ⟨_, rfl⟩)) hge25_)) 60).trans u24_
  have u35_ : T25_ 61 o = q9_ + 1 := (hx25_ o (Nat.ne_of_lt (Nat.lt_of_lt_of_le (cw_lt hw0_.1 u17_ (fun _ _ _ => ⟨_, rfl⟩)) hge25_)) 61).trans hk16_
  have hw0_ := hw
  refine rr_62 E hK hw hnm fl_X2_18 u27_ 28 rfl dX2_init_25 (fun T36_ H locs hx36_ hj36_ hk36_ ho36_ hw => ?_)
  have hT36_ : WT T36_ := hw.1.2.1
  have hO36_ : ∀ x, ow T36_ x → κ 2 2 ≤ x := fun x h => hAc x (hw.2.1 x h)
  have hoT_ : OW T T36_ s.heap.size := OW.tr0 hoT_ ho36_
  have hC_ : ∀ b, b < sz → T 0 b ≠ 10 → T 0 b ≠ 24 → T 0 b ≠ 26 → b ≠ o → ∀ j, j ≠ 197 → T36_ j b = T j b := fun b_ h1_ h2_ h3_ h4_ h5_ j_ h6_ => (hx36_ b_ h5_ j_).trans (hC_ b_ h1_ h2_ h3_ h4_ h5_ j_ h6_)
  have hR_ : ∀ b, b < sz → b ≠ o → ∀ k, T36_ k b = T k b := fun b_ h1_ h2_ k_ => (hx36_ b_ h2_ k_).trans (hR_ b_ h1_ h2_ k_)
  have u37_ : T36_ 0 o = 103 := (hj36_ 0 (by decide)).trans u27_
  have u38_ : T36_ 0 q1_ = 20 := (hx36_ q1_ (ty_ne u28_ u27_ (by decide)) 0).trans u28_
  have u39_ : T36_ 0 q9_ = 20 := (hx36_ q9_ (ty_ne u29_ u27_ (by decide)) 0).trans u29_
  have u40_ : T36_ 0 q25_ = 20 := (hx36_ q25_ (ty_ne tq25_ u27_ (by decide)) 0).trans tq25_
  have u41_ : T36_ 1 q1_ = 6400 := (hx36_ q1_ (ty_ne u28_ u27_ (by decide)) 1).trans u30_
  have u42_ : T36_ 1 q9_ = 96 := (hx36_ q9_ (ty_ne u29_ u27_ (by decide)) 1).trans u31_
  have u43_ : T36_ 1 q25_ = 4 := (hx36_ q25_ (ty_ne tq25_ u27_ (by decide)) 1).trans tl25_
  have u44_ : T36_ 3 q1_ = 300 * o + 60 := (hx36_ q1_ (ty_ne u28_ u27_ (by decide)) 3).trans u32_
  have u45_ : T36_ 3 q9_ = 300 * o + 61 := (hx36_ q9_ (ty_ne u29_ u27_ (by decide)) 3).trans u33_
  have u46_ : T36_ 3 q25_ = 300 * o + 62 := (hx36_ q25_ (ty_ne tq25_ u27_ (by decide)) 3).trans tw25_
  have u47_ : T36_ 60 o = q1_ + 1 := (hj36_ 60 (by decide)).trans u34_
  have u48_ : T36_ 61 o = q9_ + 1 := (hj36_ 61 (by decide)).trans u35_
  refine j_aload_n E 29 rfl dX2_init_28 rfl (lv_at hl 0 rfl) ?_
  refine j_bipush E 31 rfl dX2_init_29 (by decide) ?_
  have hw0_ := hw
  refine n_arr20 E hK hw hA (300 * o + 63) 24 (by decide) (by decide) (Nat.le_of_ble_eq_true rfl) (Nat.le_of_ble_eq_true rfl) 33 rfl dX2_init_31 (fun q49_ T49_ y300_49 H hge49_ hx49_ ho49_ tq49_ tl49_ tw49_ yz49_ yo49_ hw => ?_)
  have fq49_ : s.heap.size ≤ q49_ := Nat.le_trans hw0_.2.2.1 hge49_
  have hw : WK D cy T49_ (upV v_0 300 y300_49) A0 s.heap H locs := cw_eq hw (by first | rfl | (funext j_; simp only [upV, reduceIte]; (repeat' split) <;> first | rfl | omega | (subst_vars; rfl)))
  have yo49_ : ∀ b, b ≠ q49_ → ∀ i, y300_49 (pr b i) = y300_25 (pr b i) := yo49_
  have kd50_ : KdA_ T sz [] (v_0 300) (y300_49) := KdA_tr kd26_ (KdA_new yo49_ (by omega))
  have hT49_ : WT T49_ := hw.1.2.1
  have hO49_ : ∀ x, ow T49_ x → κ 2 2 ≤ x := fun x h => hAc x (hw.2.1 x h)
  have hoT_ : OW T T49_ s.heap.size := OW.tr hw0_.2.2.1 hoT_ ho49_
  have hC_ : ∀ b, b < sz → T 0 b ≠ 10 → T 0 b ≠ 24 → T 0 b ≠ 26 → b ≠ o → ∀ j, j ≠ 197 → T49_ j b = T j b := fun b_ h1_ h2_ h3_ h4_ h5_ j_ h6_ => (hx49_ b_ (by have := hw0_.2.2.1; have := hge49_; omega) j_).trans (hC_ b_ h1_ h2_ h3_ h4_ h5_ j_ h6_)
  have hR_ : ∀ b, b < sz → b ≠ o → ∀ k, T49_ k b = T k b := fun b_ h1_ h2_ k_ => (hx49_ b_ (by have := hw0_.2.2.1; have := hge49_; omega) k_).trans (hR_ b_ h1_ h2_ k_)
  have u51_ : T49_ 0 o = 103 := (hx49_ o (Nat.ne_of_lt (Nat.lt_of_lt_of_le (cw_lt hw0_.1 u37_ (fun _ _ _ => ⟨_, rfl⟩)) hge49_)) 0).trans u37_
  have u52_ : T49_ 0 q1_ = 20 := (hx49_ q1_ (Nat.ne_of_lt (Nat.lt_of_lt_of_le (cw_lt hw0_.1 u38_ (fun _ _ _ => ⟨_, rfl⟩)) hge49_)) 0).trans u38_
  have u53_ : T49_ 0 q9_ = 20 := (hx49_ q9_ (Nat.ne_of_lt (Nat.lt_of_lt_of_le (cw_lt hw0_.1 u39_ (fun _ _ _ => ⟨_, rfl⟩)) hge49_)) 0).trans u39_
  have u54_ : T49_ 0 q25_ = 20 := (hx49_ q25_ (Nat.ne_of_lt (Nat.lt_of_lt_of_le (cw_lt hw0_.1 u40_ (fun _ _ _ => ⟨_, rfl⟩)) hge49_)) 0).trans u40_
  have u55_ : T49_ 1 q1_ = 6400 := (hx49_ q1_ (Nat.ne_of_lt (Nat.lt_of_lt_of_le (cw_lt hw0_.1 u38_ (fun _ _ _ => ⟨_, rfl⟩)) hge49_)) 1).trans u41_
  have u56_ : T49_ 1 q9_ = 96 := (hx49_ q9_ (Nat.ne_of_lt (Nat.lt_of_lt_of_le (cw_lt hw0_.1 u39_ (fun _ _ _ => ⟨_, rfl⟩)) hge49_)) 1).trans u42_
  have u57_ : T49_ 1 q25_ = 4 := (hx49_ q25_ (Nat.ne_of_lt (Nat.lt_of_lt_of_le (cw_lt hw0_.1 u40_ (fun _ _ _ => ⟨_, rfl⟩)) hge49_)) 1).trans u43_
  have u58_ : T49_ 3 q1_ = 300 * o + 60 := (hx49_ q1_ (Nat.ne_of_lt (Nat.lt_of_lt_of_le (cw_lt hw0_.1 u38_ (fun _ _ _ => ⟨_, rfl⟩)) hge49_)) 3).trans u44_
  have u59_ : T49_ 3 q9_ = 300 * o + 61 := (hx49_ q9_ (Nat.ne_of_lt (Nat.lt_of_lt_of_le (cw_lt hw0_.1 u39_ (fun _ _ _ => ⟨_, rfl⟩)) hge49_)) 3).trans u45_
  have u60_ : T49_ 3 q25_ = 300 * o + 62 := (hx49_ q25_ (Nat.ne_of_lt (Nat.lt_of_lt_of_le (cw_lt hw0_.1 u40_ (fun _ _ _ => ⟨_, rfl⟩)) hge49_)) 3).trans u46_
  have u61_ : T49_ 60 o = q1_ + 1 := (hx49_ o (Nat.ne_of_lt (Nat.lt_of_lt_of_le (cw_lt hw0_.1 u37_ (fun _ _ _ => ⟨_, rfl⟩)) hge49_)) 60).trans u47_
  have u62_ : T49_ 61 o = q9_ + 1 := (hx49_ o (Nat.ne_of_lt (Nat.lt_of_lt_of_le (cw_lt hw0_.1 u37_ (fun _ _ _ => ⟨_, rfl⟩)) hge49_)) 61).trans u48_
  have u63_ : T49_ 62 o = q25_ + 1 := (hx49_ o (Nat.ne_of_lt (Nat.lt_of_lt_of_le (cw_lt hw0_.1 u37_ (fun _ _ _ => ⟨_, rfl⟩)) hge49_)) 62).trans hk36_
  have hw0_ := hw
  refine rr_63 E hK hw hnm fl_X2_21 u51_ 36 rfl dX2_init_33 (fun T64_ H locs hx64_ hj64_ hk64_ ho64_ hw => ?_)
  have hT64_ : WT T64_ := hw.1.2.1
  have hO64_ : ∀ x, ow T64_ x → κ 2 2 ≤ x := fun x h => hAc x (hw.2.1 x h)
  have hoT_ : OW T T64_ s.heap.size := OW.tr0 hoT_ ho64_
  have hC_ : ∀ b, b < sz → T 0 b ≠ 10 → T 0 b ≠ 24 → T 0 b ≠ 26 → b ≠ o → ∀ j, j ≠ 197 → T64_ j b = T j b := fun b_ h1_ h2_ h3_ h4_ h5_ j_ h6_ => (hx64_ b_ h5_ j_).trans (hC_ b_ h1_ h2_ h3_ h4_ h5_ j_ h6_)
  have hR_ : ∀ b, b < sz → b ≠ o → ∀ k, T64_ k b = T k b := fun b_ h1_ h2_ k_ => (hx64_ b_ h2_ k_).trans (hR_ b_ h1_ h2_ k_)
  have u65_ : T64_ 0 o = 103 := (hj64_ 0 (by decide)).trans u51_
  have u66_ : T64_ 0 q1_ = 20 := (hx64_ q1_ (ty_ne u52_ u51_ (by decide)) 0).trans u52_
  have u67_ : T64_ 0 q9_ = 20 := (hx64_ q9_ (ty_ne u53_ u51_ (by decide)) 0).trans u53_
  have u68_ : T64_ 0 q25_ = 20 := (hx64_ q25_ (ty_ne u54_ u51_ (by decide)) 0).trans u54_
  have u69_ : T64_ 0 q49_ = 20 := (hx64_ q49_ (ty_ne tq49_ u51_ (by decide)) 0).trans tq49_
  have u70_ : T64_ 1 q1_ = 6400 := (hx64_ q1_ (ty_ne u52_ u51_ (by decide)) 1).trans u55_
  have u71_ : T64_ 1 q9_ = 96 := (hx64_ q9_ (ty_ne u53_ u51_ (by decide)) 1).trans u56_
  have u72_ : T64_ 1 q25_ = 4 := (hx64_ q25_ (ty_ne u54_ u51_ (by decide)) 1).trans u57_
  have u73_ : T64_ 1 q49_ = 24 := (hx64_ q49_ (ty_ne tq49_ u51_ (by decide)) 1).trans tl49_
  have u74_ : T64_ 3 q1_ = 300 * o + 60 := (hx64_ q1_ (ty_ne u52_ u51_ (by decide)) 3).trans u58_
  have u75_ : T64_ 3 q9_ = 300 * o + 61 := (hx64_ q9_ (ty_ne u53_ u51_ (by decide)) 3).trans u59_
  have u76_ : T64_ 3 q25_ = 300 * o + 62 := (hx64_ q25_ (ty_ne u54_ u51_ (by decide)) 3).trans u60_
  have u77_ : T64_ 3 q49_ = 300 * o + 63 := (hx64_ q49_ (ty_ne tq49_ u51_ (by decide)) 3).trans tw49_
  have u78_ : T64_ 60 o = q1_ + 1 := (hj64_ 60 (by decide)).trans u61_
  have u79_ : T64_ 61 o = q9_ + 1 := (hj64_ 61 (by decide)).trans u62_
  have u80_ : T64_ 62 o = q25_ + 1 := (hj64_ 62 (by decide)).trans u63_
  refine j_aload_n E 37 rfl dX2_init_36 rfl (lv_at hl 0 rfl) ?_
  refine j_iconst E 38 rfl dX2_init_37 ?_
  refine rp_64 E hK hw fl_X2_24 u65_ (rr (by decide)) 41 rfl dX2_init_38 (fun H locs hw => ?_)
  have hw : WK D cy T64_ (upV (upV v_0 64 (upB (v_0 64) o 0)) 300 y300_49) A0 s.heap H locs := cw_eq hw (by first | rfl | (funext j_; simp only [upV, reduceIte]; (repeat' split) <;> first | rfl | omega | (subst_vars; rfl)))
  refine j_aload_n E 42 rfl dX2_init_41 rfl (lv_at hl 0 rfl) ?_
  refine j_iconst E 43 rfl dX2_init_42 ?_
  refine rp_65 E hK hw fl_X2_28 u65_ (rr (by decide)) 46 rfl dX2_init_43 (fun H locs hw => ?_)
  have hw : WK D cy T64_ (upV (upV (upV v_0 64 (upB (v_0 64) o 0)) 65 (upB (v_0 65) o 0)) 300 y300_49) A0 s.heap H locs := cw_eq hw (by first | rfl | (funext j_; simp only [upV, reduceIte]; (repeat' split) <;> first | rfl | omega | (subst_vars; rfl)))
  refine j_aload_n E 47 rfl dX2_init_46 rfl (lv_at hl 0 rfl) ?_
  refine j_iconst E 48 rfl dX2_init_47 ?_
  refine rp_66 E hK hw fl_X2_31 u65_ (rr (by decide)) 51 rfl dX2_init_48 (fun H locs hw => ?_)
  have hw : WK D cy T64_ (upV (upV (upV (upV v_0 64 (upB (v_0 64) o 0)) 65 (upB (v_0 65) o 0)) 66 (upB (v_0 66) o 0)) 300 y300_49) A0 s.heap H locs := cw_eq hw (by first | rfl | (funext j_; simp only [upV, reduceIte]; (repeat' split) <;> first | rfl | omega | (subst_vars; rfl)))
  have hw0_ := hw
  obtain ⟨T84_, hx84_, tq84_, xe84_60_, xe84_61_, xe84_62_, xe84_63_, ho84_, hw⟩ := pm_3 hw u65_ u78_ u66_ u70_ u74_ u79_ u67_ u71_ u75_ u80_ u68_ u72_ u76_ hk64_ u69_ u73_ u77_
  have hT84_ : WT T84_ := hw.1.2.1
  have hO84_ : ∀ x, ow T84_ x → κ 2 2 ≤ x := fun x h => hAc x (hw.2.1 x h)
  have hoT_ : OW T T84_ s.heap.size := OW.tr0 hoT_ ho84_
  have hC_ : ∀ b, b < sz → T 0 b ≠ 10 → T 0 b ≠ 24 → T 0 b ≠ 26 → b ≠ o → ∀ j, j ≠ 197 → T84_ j b = T j b := fun b_ h1_ h2_ h3_ h4_ h5_ j_ h6_ => (hx84_ b_ h5_ j_).trans (hC_ b_ h1_ h2_ h3_ h4_ h5_ j_ h6_)
  have hR_ : ∀ b, b < sz → b ≠ o → ∀ k, T84_ k b = T k b := fun b_ h1_ h2_ k_ => (hx84_ b_ h2_ k_).trans (hR_ b_ h1_ h2_ k_)
  have u85_ : T84_ 1 q1_ = 6400 := (hx84_ q1_ (ty_ne u66_ u65_ (by decide)) 1).trans u70_
  have u86_ : T84_ 1 q9_ = 96 := (hx84_ q9_ (ty_ne u67_ u65_ (by decide)) 1).trans u71_
  have u87_ : T84_ 1 q25_ = 4 := (hx84_ q25_ (ty_ne u68_ u65_ (by decide)) 1).trans u72_
  have u88_ : T84_ 1 q49_ = 24 := (hx84_ q49_ (ty_ne u69_ u65_ (by decide)) 1).trans u73_
  exact hret 51 T84_ (upV (upV (upV (upV v_0 64 (upB (v_0 64) o 0)) 65 (upB (v_0 65) o 0)) 66 (upB (v_0 66) o 0)) 300 y300_49) _ _ ls _ _ hw hoT_ ⟨(upB (v_0 64) o 0), (upB (v_0 65) o 0), (upB (v_0 66) o 0), y300_49, rfl, ⟨⟨hR_, tq84_⟩, kd50_⟩⟩ (Nat.le_of_ble_eq_true rfl) (Nat.le_of_ble_eq_true rfl) dX2_init_51
set_option maxHeartbeats 4000000 in
set_option maxRecDepth 100000 in
theorem n_X4_init (l : Launch) (D : va_G) (cy : Nat → ClassId) (κ T : Nat → Nat → Nat) (v_0 : Nat → Nat → Int) (o : Nat) (sz : Nat) (hO : ∀ x, ow T x → κ 2 2 ≤ x) (t_o : T 0 o = 105) : KA l D cy κ T yX4_init cX4_init 1 none 1 3 61 [.ref o] v_0 sz (AV (fun (T_2 : Nat → Nat → Nat) (v_2 : Nat → Nat → Int) => ∃ (y103_2 : Nat → Int) (y300_2 : Nat → Int) , v_2 = upV (upV v_0 103 y103_2) 300 y300_2 ∧ (((∀ b, b < sz → b ≠ o → ∀ k, T_2 k b = T k b) ∧ T_2 0 o = 5) ∧ KdA_ T sz [] (v_0 300) y300_2))) := by
  refine KA.ofv (by decide) (Nat.le_of_ble_eq_true rfl) hO ?_
  intro p e s m below meth c ls ar QW A0 H locs E hK hZ hA hAc hsz hszH_ hnm hw hlo_ hl hret
  have hl : lv_has ls 1 [(0, .ref o)] := hl
  have hT : WT T := hw.1.2.1
  have hoT_ : OW T T s.heap.size := OW.rf T _
  have hC_ : ∀ b, b < sz → T 0 b ≠ 10 → T 0 b ≠ 24 → T 0 b ≠ 26 → b ≠ o → ∀ j, j ≠ 197 → T j b = T j b := fun _ _ _ _ _ _ _ _ => rfl
  have hR_ : ∀ b, b < sz → b ≠ o → ∀ k, T k b = T k b := fun b _ _ k => rfl
  refine j_aload_n E 1 rfl dX4_init_0 rfl (lv_at hl 0 rfl) ?_
  refine W.objInit E.1 E.2.1 E.2.2.2.1 (E.2.2.2.2.1 _ mo_X4_3) (E.2.2.2.2.1 _ im_ob) (E.2.2.2.2.1 _ cd_ob) rfl (by rw [E.2.2.1]; exact hl.1) rfl dX4_init_1 (Nat.le_of_ble_eq_true rfl) (Nat.le_of_ble_eq_true rfl) ?_
  show W p l e (rmd 1 3 61) s m ar below meth c H locs _ _ QW (F0 m 4 ls [])
  refine j_aload_n E 5 rfl dX4_init_4 rfl (lv_at hl 0 rfl) ?_
  refine j_iconst E 6 rfl dX4_init_5 ?_
  have hw0_ := hw
  refine n_arr20 E hK hw hA (300 * o + 100) 5 (by decide) (by decide) (Nat.le_of_ble_eq_true rfl) (Nat.le_of_ble_eq_true rfl) 8 rfl dX4_init_6 (fun q1_ T1_ y300_1 H hge1_ hx1_ ho1_ tq1_ tl1_ tw1_ yz1_ yo1_ hw => ?_)
  have fq1_ : s.heap.size ≤ q1_ := Nat.le_trans hw0_.2.2.1 hge1_
  have hw : WK D cy T1_ (upV v_0 300 y300_1) A0 s.heap H locs := cw_eq hw (by first | rfl | (funext j_; simp only [upV, reduceIte]; (repeat' split) <;> first | rfl | omega | (subst_vars; rfl)))
  have yo1_ : ∀ b, b ≠ q1_ → ∀ i, y300_1 (pr b i) = v_0 300 (pr b i) := yo1_
  have kd2_ : KdA_ T sz [] (v_0 300) (y300_1) := KdA_tr KdA_rf (KdA_new yo1_ (by omega))
  have hT1_ : WT T1_ := hw.1.2.1
  have hO1_ : ∀ x, ow T1_ x → κ 2 2 ≤ x := fun x h => hAc x (hw.2.1 x h)
  have hoT_ : OW T T1_ s.heap.size := OW.tr hw0_.2.2.1 hoT_ ho1_
  have hC_ : ∀ b, b < sz → T 0 b ≠ 10 → T 0 b ≠ 24 → T 0 b ≠ 26 → b ≠ o → ∀ j, j ≠ 197 → T1_ j b = T j b := fun b_ h1_ h2_ h3_ h4_ h5_ j_ h6_ => (hx1_ b_ (by have := hw0_.2.2.1; have := hge1_; omega) j_).trans (hC_ b_ h1_ h2_ h3_ h4_ h5_ j_ h6_)
  have hR_ : ∀ b, b < sz → b ≠ o → ∀ k, T1_ k b = T k b := fun b_ h1_ h2_ k_ => (hx1_ b_ (by have := hw0_.2.2.1; have := hge1_; omega) k_).trans (hR_ b_ h1_ h2_ k_)
  have u3_ : T1_ 0 o = 105 := (hx1_ o (Nat.ne_of_lt (Nat.lt_of_lt_of_le (cw_lt hw0_.1 t_o (fun _ _ _ => ⟨_, rfl⟩)) hge1_)) 0).trans t_o
  have hw0_ := hw
  refine rr_100 E hK hw hnm fl_X4_11 u3_ 11 rfl dX4_init_8 (fun T4_ H locs hx4_ hj4_ hk4_ ho4_ hw => ?_)
  have hT4_ : WT T4_ := hw.1.2.1
  have hO4_ : ∀ x, ow T4_ x → κ 2 2 ≤ x := fun x h => hAc x (hw.2.1 x h)
  have hoT_ : OW T T4_ s.heap.size := OW.tr0 hoT_ ho4_
  have hC_ : ∀ b, b < sz → T 0 b ≠ 10 → T 0 b ≠ 24 → T 0 b ≠ 26 → b ≠ o → ∀ j, j ≠ 197 → T4_ j b = T j b := fun b_ h1_ h2_ h3_ h4_ h5_ j_ h6_ => (hx4_ b_ h5_ j_).trans (hC_ b_ h1_ h2_ h3_ h4_ h5_ j_ h6_)
  have hR_ : ∀ b, b < sz → b ≠ o → ∀ k, T4_ k b = T k b := fun b_ h1_ h2_ k_ => (hx4_ b_ h2_ k_).trans (hR_ b_ h1_ h2_ k_)
  have u5_ : T4_ 0 o = 105 := (hj4_ 0 (by decide)).trans u3_
  have u6_ : T4_ 0 q1_ = 20 := (hx4_ q1_ (ty_ne tq1_ u3_ (by decide)) 0).trans tq1_
  have u7_ : T4_ 1 q1_ = 5 := (hx4_ q1_ (ty_ne tq1_ u3_ (by decide)) 1).trans tl1_
  have u8_ : T4_ 3 q1_ = 300 * o + 100 := (hx4_ q1_ (ty_ne tq1_ u3_ (by decide)) 3).trans tw1_
  refine j_aload_n E 12 rfl dX4_init_11 rfl (lv_at hl 0 rfl) ?_
  refine j_bipush E 14 rfl dX4_init_12 (by decide) ?_
  have hw0_ := hw
  refine n_arr20 E hK hw hA (300 * o + 101) 24 (by decide) (by decide) (Nat.le_of_ble_eq_true rfl) (Nat.le_of_ble_eq_true rfl) 16 rfl dX4_init_14 (fun q9_ T9_ y300_9 H hge9_ hx9_ ho9_ tq9_ tl9_ tw9_ yz9_ yo9_ hw => ?_)
  have fq9_ : s.heap.size ≤ q9_ := Nat.le_trans hw0_.2.2.1 hge9_
  have hw : WK D cy T9_ (upV v_0 300 y300_9) A0 s.heap H locs := cw_eq hw (by first | rfl | (funext j_; simp only [upV, reduceIte]; (repeat' split) <;> first | rfl | omega | (subst_vars; rfl)))
  have yo9_ : ∀ b, b ≠ q9_ → ∀ i, y300_9 (pr b i) = y300_1 (pr b i) := yo9_
  have kd10_ : KdA_ T sz [] (v_0 300) (y300_9) := KdA_tr kd2_ (KdA_new yo9_ (by omega))
  have hT9_ : WT T9_ := hw.1.2.1
  have hO9_ : ∀ x, ow T9_ x → κ 2 2 ≤ x := fun x h => hAc x (hw.2.1 x h)
  have hoT_ : OW T T9_ s.heap.size := OW.tr hw0_.2.2.1 hoT_ ho9_
  have hC_ : ∀ b, b < sz → T 0 b ≠ 10 → T 0 b ≠ 24 → T 0 b ≠ 26 → b ≠ o → ∀ j, j ≠ 197 → T9_ j b = T j b := fun b_ h1_ h2_ h3_ h4_ h5_ j_ h6_ => (hx9_ b_ (by have := hw0_.2.2.1; have := hge9_; omega) j_).trans (hC_ b_ h1_ h2_ h3_ h4_ h5_ j_ h6_)
  have hR_ : ∀ b, b < sz → b ≠ o → ∀ k, T9_ k b = T k b := fun b_ h1_ h2_ k_ => (hx9_ b_ (by have := hw0_.2.2.1; have := hge9_; omega) k_).trans (hR_ b_ h1_ h2_ k_)
  have u11_ : T9_ 0 o = 105 := (hx9_ o (Nat.ne_of_lt (Nat.lt_of_lt_of_le (cw_lt hw0_.1 u5_ (fun _ _ _ => ⟨_, rfl⟩)) hge9_)) 0).trans u5_
  have u12_ : T9_ 0 q1_ = 20 := (hx9_ q1_ (Nat.ne_of_lt (Nat.lt_of_lt_of_le (cw_lt hw0_.1 u6_ (fun _ _ _ => ⟨_, rfl⟩)) hge9_)) 0).trans u6_
  have u13_ : T9_ 1 q1_ = 5 := (hx9_ q1_ (Nat.ne_of_lt (Nat.lt_of_lt_of_le (cw_lt hw0_.1 u6_ (fun _ _ _ => ⟨_, rfl⟩)) hge9_)) 1).trans u7_
  have u14_ : T9_ 3 q1_ = 300 * o + 100 := (hx9_ q1_ (Nat.ne_of_lt (Nat.lt_of_lt_of_le (cw_lt hw0_.1 u6_ (fun _ _ _ => ⟨_, rfl⟩)) hge9_)) 3).trans u8_
  have u15_ : T9_ 100 o = q1_ + 1 := (hx9_ o (Nat.ne_of_lt (Nat.lt_of_lt_of_le (cw_lt hw0_.1 u5_ (fun _ _ _ => ⟨_, rfl⟩)) hge9_)) 100).trans hk4_
  have hw0_ := hw
  refine rr_101 E hK hw hnm fl_X4_17 u11_ 19 rfl dX4_init_16 (fun T16_ H locs hx16_ hj16_ hk16_ ho16_ hw => ?_)
  have hT16_ : WT T16_ := hw.1.2.1
  have hO16_ : ∀ x, ow T16_ x → κ 2 2 ≤ x := fun x h => hAc x (hw.2.1 x h)
  have hoT_ : OW T T16_ s.heap.size := OW.tr0 hoT_ ho16_
  have hC_ : ∀ b, b < sz → T 0 b ≠ 10 → T 0 b ≠ 24 → T 0 b ≠ 26 → b ≠ o → ∀ j, j ≠ 197 → T16_ j b = T j b := fun b_ h1_ h2_ h3_ h4_ h5_ j_ h6_ => (hx16_ b_ h5_ j_).trans (hC_ b_ h1_ h2_ h3_ h4_ h5_ j_ h6_)
  have hR_ : ∀ b, b < sz → b ≠ o → ∀ k, T16_ k b = T k b := fun b_ h1_ h2_ k_ => (hx16_ b_ h2_ k_).trans (hR_ b_ h1_ h2_ k_)
  have u17_ : T16_ 0 o = 105 := (hj16_ 0 (by decide)).trans u11_
  have u18_ : T16_ 0 q1_ = 20 := (hx16_ q1_ (ty_ne u12_ u11_ (by decide)) 0).trans u12_
  have u19_ : T16_ 0 q9_ = 20 := (hx16_ q9_ (ty_ne tq9_ u11_ (by decide)) 0).trans tq9_
  have u20_ : T16_ 1 q1_ = 5 := (hx16_ q1_ (ty_ne u12_ u11_ (by decide)) 1).trans u13_
  have u21_ : T16_ 1 q9_ = 24 := (hx16_ q9_ (ty_ne tq9_ u11_ (by decide)) 1).trans tl9_
  have u22_ : T16_ 3 q1_ = 300 * o + 100 := (hx16_ q1_ (ty_ne u12_ u11_ (by decide)) 3).trans u14_
  have u23_ : T16_ 3 q9_ = 300 * o + 101 := (hx16_ q9_ (ty_ne tq9_ u11_ (by decide)) 3).trans tw9_
  have u24_ : T16_ 100 o = q1_ + 1 := (hj16_ 100 (by decide)).trans u15_
  refine j_aload_n E 20 rfl dX4_init_19 rfl (lv_at hl 0 rfl) ?_
  refine j_bipush E 22 rfl dX4_init_20 (by decide) ?_
  have hw0_ := hw
  refine n_arr20 E hK hw hA (300 * o + 102) 32 (by decide) (by decide) (Nat.le_of_ble_eq_true rfl) (Nat.le_of_ble_eq_true rfl) 24 rfl dX4_init_22 (fun q25_ T25_ y300_25 H hge25_ hx25_ ho25_ tq25_ tl25_ tw25_ yz25_ yo25_ hw => ?_)
  have fq25_ : s.heap.size ≤ q25_ := Nat.le_trans hw0_.2.2.1 hge25_
  have hw : WK D cy T25_ (upV v_0 300 y300_25) A0 s.heap H locs := cw_eq hw (by first | rfl | (funext j_; simp only [upV, reduceIte]; (repeat' split) <;> first | rfl | omega | (subst_vars; rfl)))
  have yo25_ : ∀ b, b ≠ q25_ → ∀ i, y300_25 (pr b i) = y300_9 (pr b i) := yo25_
  have kd26_ : KdA_ T sz [] (v_0 300) (y300_25) := KdA_tr kd10_ (KdA_new yo25_ (by omega))
  have hT25_ : WT T25_ := hw.1.2.1
  have hO25_ : ∀ x, ow T25_ x → κ 2 2 ≤ x := fun x h => hAc x (hw.2.1 x h)
  have hoT_ : OW T T25_ s.heap.size := OW.tr hw0_.2.2.1 hoT_ ho25_
  have hC_ : ∀ b, b < sz → T 0 b ≠ 10 → T 0 b ≠ 24 → T 0 b ≠ 26 → b ≠ o → ∀ j, j ≠ 197 → T25_ j b = T j b := fun b_ h1_ h2_ h3_ h4_ h5_ j_ h6_ => (hx25_ b_ (by have := hw0_.2.2.1; have := hge25_; omega) j_).trans (hC_ b_ h1_ h2_ h3_ h4_ h5_ j_ h6_)
  have hR_ : ∀ b, b < sz → b ≠ o → ∀ k, T25_ k b = T k b := fun b_ h1_ h2_ k_ => (hx25_ b_ (by have := hw0_.2.2.1; have := hge25_; omega) k_).trans (hR_ b_ h1_ h2_ k_)
  have u27_ : T25_ 0 o = 105 := (hx25_ o (Nat.ne_of_lt (Nat.lt_of_lt_of_le (cw_lt hw0_.1 u17_ (fun _ _ _ => ⟨_, rfl⟩)) hge25_)) 0).trans u17_
  have u28_ : T25_ 0 q1_ = 20 := (hx25_ q1_ (Nat.ne_of_lt (Nat.lt_of_lt_of_le (cw_lt hw0_.1 u18_ (fun _ _ _ => ⟨_, rfl⟩)) hge25_)) 0).trans u18_
  have u29_ : T25_ 0 q9_ = 20 := (hx25_ q9_ (Nat.ne_of_lt (Nat.lt_of_lt_of_le (cw_lt hw0_.1 u19_ (fun _ _ _ => ⟨_, rfl⟩)) hge25_)) 0).trans u19_
  have u30_ : T25_ 1 q1_ = 5 := (hx25_ q1_ (Nat.ne_of_lt (Nat.lt_of_lt_of_le (cw_lt hw0_.1 u18_ (fun _ _ _ => ⟨_, rfl⟩)) hge25_)) 1).trans u20_
  have u31_ : T25_ 1 q9_ = 24 := (hx25_ q9_ (Nat.ne_of_lt (Nat.lt_of_lt_of_le (cw_lt hw0_.1 u19_ (fun _ _ _ => ⟨_, rfl⟩)) hge25_)) 1).trans u21_
  have u32_ : T25_ 3 q1_ = 300 * o + 100 := (hx25_ q1_ (Nat.ne_of_lt (Nat.lt_of_lt_of_le (cw_lt hw0_.1 u18_ (fun _ _ _ => ⟨_, rfl⟩)) hge25_)) 3).trans u22_
  have u33_ : T25_ 3 q9_ = 300 * o + 101 := (hx25_ q9_ (Nat.ne_of_lt (Nat.lt_of_lt_of_le (cw_lt hw0_.1 u19_ (fun _ _ _ => ⟨_, rfl⟩)) hge25_)) 3).trans u23_
  have u34_ : T25_ 100 o = q1_ + 1 := (hx25_ o (Nat.ne_of_lt (Nat.lt_of_lt_of_le (cw_lt hw0_.1 u17_ (fun _ _ _ => ⟨_, rfl⟩)) hge25_)) 100).trans u24_
  have u35_ : T25_ 101 o = q9_ + 1 := (hx25_ o (Nat.ne_of_lt (Nat.lt_of_lt_of_le (cw_lt hw0_.1 u17_ (fun _ _ _ => ⟨_, rfl⟩)) hge25_)) 101).trans hk16_
  have hw0_ := hw
  refine rr_102 E hK hw hnm fl_X4_20 u27_ 27 rfl dX4_init_24 (fun T36_ H locs hx36_ hj36_ hk36_ ho36_ hw => ?_)
  have hT36_ : WT T36_ := hw.1.2.1
  have hO36_ : ∀ x, ow T36_ x → κ 2 2 ≤ x := fun x h => hAc x (hw.2.1 x h)
  have hoT_ : OW T T36_ s.heap.size := OW.tr0 hoT_ ho36_
  have hC_ : ∀ b, b < sz → T 0 b ≠ 10 → T 0 b ≠ 24 → T 0 b ≠ 26 → b ≠ o → ∀ j, j ≠ 197 → T36_ j b = T j b := fun b_ h1_ h2_ h3_ h4_ h5_ j_ h6_ => (hx36_ b_ h5_ j_).trans (hC_ b_ h1_ h2_ h3_ h4_ h5_ j_ h6_)
  have hR_ : ∀ b, b < sz → b ≠ o → ∀ k, T36_ k b = T k b := fun b_ h1_ h2_ k_ => (hx36_ b_ h2_ k_).trans (hR_ b_ h1_ h2_ k_)
  have u37_ : T36_ 0 o = 105 := (hj36_ 0 (by decide)).trans u27_
  have u38_ : T36_ 0 q1_ = 20 := (hx36_ q1_ (ty_ne u28_ u27_ (by decide)) 0).trans u28_
  have u39_ : T36_ 0 q9_ = 20 := (hx36_ q9_ (ty_ne u29_ u27_ (by decide)) 0).trans u29_
  have u40_ : T36_ 0 q25_ = 20 := (hx36_ q25_ (ty_ne tq25_ u27_ (by decide)) 0).trans tq25_
  have u41_ : T36_ 1 q1_ = 5 := (hx36_ q1_ (ty_ne u28_ u27_ (by decide)) 1).trans u30_
  have u42_ : T36_ 1 q9_ = 24 := (hx36_ q9_ (ty_ne u29_ u27_ (by decide)) 1).trans u31_
  have u43_ : T36_ 1 q25_ = 32 := (hx36_ q25_ (ty_ne tq25_ u27_ (by decide)) 1).trans tl25_
  have u44_ : T36_ 3 q1_ = 300 * o + 100 := (hx36_ q1_ (ty_ne u28_ u27_ (by decide)) 3).trans u32_
  have u45_ : T36_ 3 q9_ = 300 * o + 101 := (hx36_ q9_ (ty_ne u29_ u27_ (by decide)) 3).trans u33_
  have u46_ : T36_ 3 q25_ = 300 * o + 102 := (hx36_ q25_ (ty_ne tq25_ u27_ (by decide)) 3).trans tw25_
  have u47_ : T36_ 100 o = q1_ + 1 := (hj36_ 100 (by decide)).trans u34_
  have u48_ : T36_ 101 o = q9_ + 1 := (hj36_ 101 (by decide)).trans u35_
  refine j_aload_n E 28 rfl dX4_init_27 rfl (lv_at hl 0 rfl) ?_
  refine j_iconst E 29 rfl dX4_init_28 ?_
  refine rp_103 E hK hw fl_X4_23 u37_ (rr (by decide)) 32 rfl dX4_init_29 (fun H locs hw => ?_)
  have hw : WK D cy T36_ (upV (upV v_0 103 (upB (v_0 103) o 0)) 300 y300_25) A0 s.heap H locs := cw_eq hw (by first | rfl | (funext j_; simp only [upV, reduceIte]; (repeat' split) <;> first | rfl | omega | (subst_vars; rfl)))
  have hw0_ := hw
  obtain ⟨T50_, hx50_, tq50_, xe50_100_, xe50_101_, xe50_102_, ho50_, hw⟩ := pm_5 hw u37_ u47_ u38_ u41_ u44_ u48_ u39_ u42_ u45_ hk36_ u40_ u43_ u46_
  have hT50_ : WT T50_ := hw.1.2.1
  have hO50_ : ∀ x, ow T50_ x → κ 2 2 ≤ x := fun x h => hAc x (hw.2.1 x h)
  have hoT_ : OW T T50_ s.heap.size := OW.tr0 hoT_ ho50_
  have hC_ : ∀ b, b < sz → T 0 b ≠ 10 → T 0 b ≠ 24 → T 0 b ≠ 26 → b ≠ o → ∀ j, j ≠ 197 → T50_ j b = T j b := fun b_ h1_ h2_ h3_ h4_ h5_ j_ h6_ => (hx50_ b_ h5_ j_).trans (hC_ b_ h1_ h2_ h3_ h4_ h5_ j_ h6_)
  have hR_ : ∀ b, b < sz → b ≠ o → ∀ k, T50_ k b = T k b := fun b_ h1_ h2_ k_ => (hx50_ b_ h2_ k_).trans (hR_ b_ h1_ h2_ k_)
  have u51_ : T50_ 1 q1_ = 5 := (hx50_ q1_ (ty_ne u38_ u37_ (by decide)) 1).trans u41_
  have u52_ : T50_ 1 q9_ = 24 := (hx50_ q9_ (ty_ne u39_ u37_ (by decide)) 1).trans u42_
  have u53_ : T50_ 1 q25_ = 32 := (hx50_ q25_ (ty_ne u40_ u37_ (by decide)) 1).trans u43_
  exact hret 32 T50_ (upV (upV v_0 103 (upB (v_0 103) o 0)) 300 y300_25) _ _ ls _ _ hw hoT_ ⟨(upB (v_0 103) o 0), y300_25, rfl, ⟨⟨hR_, tq50_⟩, kd26_⟩⟩ (Nat.le_of_ble_eq_true rfl) (Nat.le_of_ble_eq_true rfl) dX4_init_32
set_option maxHeartbeats 4000000 in
set_option maxRecDepth 100000 in
theorem n_X5_init (l : Launch) (D : va_G) (cy : Nat → ClassId) (κ T : Nat → Nat → Nat) (v_0 : Nat → Nat → Int) (o : Nat) (sz : Nat) (hO : ∀ x, ow T x → κ 2 2 ≤ x) (t_o : T 0 o = 106) : KA l D cy κ T yX5_init cX5_init 1 none 1 3 1200 [.ref o] v_0 sz (AV (fun (T_2 : Nat → Nat → Nat) (v_2 : Nat → Nat → Int) => ∃ (y123_2 : Nat → Int) (y124_2 : Nat → Int) (y300_2 : Nat → Int) , v_2 = upV (upV (upV v_0 123 y123_2) 124 y124_2) 300 y300_2 ∧ (((∀ b, b < sz → b ≠ o → ∀ k, T_2 k b = T k b) ∧ T_2 0 o = 6) ∧ KdA_ T sz [] (v_0 300) y300_2))) := by
  refine KA.ofv (by decide) (Nat.le_of_ble_eq_true rfl) hO ?_
  intro p e s m below meth c ls ar QW A0 H locs E hK hZ hA hAc hsz hszH_ hnm hw hlo_ hl hret
  have hl : lv_has ls 1 [(0, .ref o)] := hl
  have hT : WT T := hw.1.2.1
  have hoT_ : OW T T s.heap.size := OW.rf T _
  have hC_ : ∀ b, b < sz → T 0 b ≠ 10 → T 0 b ≠ 24 → T 0 b ≠ 26 → b ≠ o → ∀ j, j ≠ 197 → T j b = T j b := fun _ _ _ _ _ _ _ _ => rfl
  have hR_ : ∀ b, b < sz → b ≠ o → ∀ k, T k b = T k b := fun b _ _ k => rfl
  refine j_aload_n E 1 rfl dX5_init_0 rfl (lv_at hl 0 rfl) ?_
  refine W.objInit E.1 E.2.1 E.2.2.2.1 (E.2.2.2.2.1 _ mo_X5_3) (E.2.2.2.2.1 _ im_ob) (E.2.2.2.2.1 _ cd_ob) rfl (by rw [E.2.2.1]; exact hl.1) rfl dX5_init_1 (Nat.le_of_ble_eq_true rfl) (Nat.le_of_ble_eq_true rfl) ?_
  show W p l e (rmd 1 3 1200) s m ar below meth c H locs _ _ QW (F0 m 4 ls [])
  refine j_aload_n E 5 rfl dX5_init_4 rfl (lv_at hl 0 rfl) ?_
  refine j_sipush E 8 rfl dX5_init_5 (by decide) ?_
  have hw0_ := hw
  refine n_arr20 E hK hw hA (300 * o + 120) 400 (by decide) (by decide) (Nat.le_of_ble_eq_true rfl) (Nat.le_of_ble_eq_true rfl) 10 rfl dX5_init_8 (fun q1_ T1_ y300_1 H hge1_ hx1_ ho1_ tq1_ tl1_ tw1_ yz1_ yo1_ hw => ?_)
  have fq1_ : s.heap.size ≤ q1_ := Nat.le_trans hw0_.2.2.1 hge1_
  have hw : WK D cy T1_ (upV v_0 300 y300_1) A0 s.heap H locs := cw_eq hw (by first | rfl | (funext j_; simp only [upV, reduceIte]; (repeat' split) <;> first | rfl | omega | (subst_vars; rfl)))
  have yo1_ : ∀ b, b ≠ q1_ → ∀ i, y300_1 (pr b i) = v_0 300 (pr b i) := yo1_
  have kd2_ : KdA_ T sz [] (v_0 300) (y300_1) := KdA_tr KdA_rf (KdA_new yo1_ (by omega))
  have hT1_ : WT T1_ := hw.1.2.1
  have hO1_ : ∀ x, ow T1_ x → κ 2 2 ≤ x := fun x h => hAc x (hw.2.1 x h)
  have hoT_ : OW T T1_ s.heap.size := OW.tr hw0_.2.2.1 hoT_ ho1_
  have hC_ : ∀ b, b < sz → T 0 b ≠ 10 → T 0 b ≠ 24 → T 0 b ≠ 26 → b ≠ o → ∀ j, j ≠ 197 → T1_ j b = T j b := fun b_ h1_ h2_ h3_ h4_ h5_ j_ h6_ => (hx1_ b_ (by have := hw0_.2.2.1; have := hge1_; omega) j_).trans (hC_ b_ h1_ h2_ h3_ h4_ h5_ j_ h6_)
  have hR_ : ∀ b, b < sz → b ≠ o → ∀ k, T1_ k b = T k b := fun b_ h1_ h2_ k_ => (hx1_ b_ (by have := hw0_.2.2.1; have := hge1_; omega) k_).trans (hR_ b_ h1_ h2_ k_)
  have u3_ : T1_ 0 o = 106 := (hx1_ o (Nat.ne_of_lt (Nat.lt_of_lt_of_le (cw_lt hw0_.1 t_o (fun _ _ _ => ⟨_, rfl⟩)) hge1_)) 0).trans t_o
  have hw0_ := hw
  refine rr_120 E hK hw hnm fl_X5_9 u3_ 13 rfl dX5_init_10 (fun T4_ H locs hx4_ hj4_ hk4_ ho4_ hw => ?_)
  have hT4_ : WT T4_ := hw.1.2.1
  have hO4_ : ∀ x, ow T4_ x → κ 2 2 ≤ x := fun x h => hAc x (hw.2.1 x h)
  have hoT_ : OW T T4_ s.heap.size := OW.tr0 hoT_ ho4_
  have hC_ : ∀ b, b < sz → T 0 b ≠ 10 → T 0 b ≠ 24 → T 0 b ≠ 26 → b ≠ o → ∀ j, j ≠ 197 → T4_ j b = T j b := fun b_ h1_ h2_ h3_ h4_ h5_ j_ h6_ => (hx4_ b_ h5_ j_).trans (hC_ b_ h1_ h2_ h3_ h4_ h5_ j_ h6_)
  have hR_ : ∀ b, b < sz → b ≠ o → ∀ k, T4_ k b = T k b := fun b_ h1_ h2_ k_ => (hx4_ b_ h2_ k_).trans (hR_ b_ h1_ h2_ k_)
  have u5_ : T4_ 0 o = 106 := (hj4_ 0 (by decide)).trans u3_
  have u6_ : T4_ 0 q1_ = 20 := (hx4_ q1_ (ty_ne tq1_ u3_ (by decide)) 0).trans tq1_
  have u7_ : T4_ 1 q1_ = 400 := (hx4_ q1_ (ty_ne tq1_ u3_ (by decide)) 1).trans tl1_
  have u8_ : T4_ 3 q1_ = 300 * o + 120 := (hx4_ q1_ (ty_ne tq1_ u3_ (by decide)) 3).trans tw1_
  refine j_aload_n E 14 rfl dX5_init_13 rfl (lv_at hl 0 rfl) ?_
  refine j_sipush E 17 rfl dX5_init_14 (by decide) ?_
  have hw0_ := hw
  refine n_arr20 E hK hw hA (300 * o + 121) 400 (by decide) (by decide) (Nat.le_of_ble_eq_true rfl) (Nat.le_of_ble_eq_true rfl) 19 rfl dX5_init_17 (fun q9_ T9_ y300_9 H hge9_ hx9_ ho9_ tq9_ tl9_ tw9_ yz9_ yo9_ hw => ?_)
  have fq9_ : s.heap.size ≤ q9_ := Nat.le_trans hw0_.2.2.1 hge9_
  have hw : WK D cy T9_ (upV v_0 300 y300_9) A0 s.heap H locs := cw_eq hw (by first | rfl | (funext j_; simp only [upV, reduceIte]; (repeat' split) <;> first | rfl | omega | (subst_vars; rfl)))
  have yo9_ : ∀ b, b ≠ q9_ → ∀ i, y300_9 (pr b i) = y300_1 (pr b i) := yo9_
  have kd10_ : KdA_ T sz [] (v_0 300) (y300_9) := KdA_tr kd2_ (KdA_new yo9_ (by omega))
  have hT9_ : WT T9_ := hw.1.2.1
  have hO9_ : ∀ x, ow T9_ x → κ 2 2 ≤ x := fun x h => hAc x (hw.2.1 x h)
  have hoT_ : OW T T9_ s.heap.size := OW.tr hw0_.2.2.1 hoT_ ho9_
  have hC_ : ∀ b, b < sz → T 0 b ≠ 10 → T 0 b ≠ 24 → T 0 b ≠ 26 → b ≠ o → ∀ j, j ≠ 197 → T9_ j b = T j b := fun b_ h1_ h2_ h3_ h4_ h5_ j_ h6_ => (hx9_ b_ (by have := hw0_.2.2.1; have := hge9_; omega) j_).trans (hC_ b_ h1_ h2_ h3_ h4_ h5_ j_ h6_)
  have hR_ : ∀ b, b < sz → b ≠ o → ∀ k, T9_ k b = T k b := fun b_ h1_ h2_ k_ => (hx9_ b_ (by have := hw0_.2.2.1; have := hge9_; omega) k_).trans (hR_ b_ h1_ h2_ k_)
  have u11_ : T9_ 0 o = 106 := (hx9_ o (Nat.ne_of_lt (Nat.lt_of_lt_of_le (cw_lt hw0_.1 u5_ (fun _ _ _ => ⟨_, rfl⟩)) hge9_)) 0).trans u5_
  have u12_ : T9_ 0 q1_ = 20 := (hx9_ q1_ (Nat.ne_of_lt (Nat.lt_of_lt_of_le (cw_lt hw0_.1 u6_ (fun _ _ _ => ⟨_, rfl⟩)) hge9_)) 0).trans u6_
  have u13_ : T9_ 1 q1_ = 400 := (hx9_ q1_ (Nat.ne_of_lt (Nat.lt_of_lt_of_le (cw_lt hw0_.1 u6_ (fun _ _ _ => ⟨_, rfl⟩)) hge9_)) 1).trans u7_
  have u14_ : T9_ 3 q1_ = 300 * o + 120 := (hx9_ q1_ (Nat.ne_of_lt (Nat.lt_of_lt_of_le (cw_lt hw0_.1 u6_ (fun _ _ _ => ⟨_, rfl⟩)) hge9_)) 3).trans u8_
  have u15_ : T9_ 120 o = q1_ + 1 := (hx9_ o (Nat.ne_of_lt (Nat.lt_of_lt_of_le (cw_lt hw0_.1 u5_ (fun _ _ _ => ⟨_, rfl⟩)) hge9_)) 120).trans hk4_
  have hw0_ := hw
  refine rr_121 E hK hw hnm fl_X5_15 u11_ 22 rfl dX5_init_19 (fun T16_ H locs hx16_ hj16_ hk16_ ho16_ hw => ?_)
  have hT16_ : WT T16_ := hw.1.2.1
  have hO16_ : ∀ x, ow T16_ x → κ 2 2 ≤ x := fun x h => hAc x (hw.2.1 x h)
  have hoT_ : OW T T16_ s.heap.size := OW.tr0 hoT_ ho16_
  have hC_ : ∀ b, b < sz → T 0 b ≠ 10 → T 0 b ≠ 24 → T 0 b ≠ 26 → b ≠ o → ∀ j, j ≠ 197 → T16_ j b = T j b := fun b_ h1_ h2_ h3_ h4_ h5_ j_ h6_ => (hx16_ b_ h5_ j_).trans (hC_ b_ h1_ h2_ h3_ h4_ h5_ j_ h6_)
  have hR_ : ∀ b, b < sz → b ≠ o → ∀ k, T16_ k b = T k b := fun b_ h1_ h2_ k_ => (hx16_ b_ h2_ k_).trans (hR_ b_ h1_ h2_ k_)
  have u17_ : T16_ 0 o = 106 := (hj16_ 0 (by decide)).trans u11_
  have u18_ : T16_ 0 q1_ = 20 := (hx16_ q1_ (ty_ne u12_ u11_ (by decide)) 0).trans u12_
  have u19_ : T16_ 0 q9_ = 20 := (hx16_ q9_ (ty_ne tq9_ u11_ (by decide)) 0).trans tq9_
  have u20_ : T16_ 1 q1_ = 400 := (hx16_ q1_ (ty_ne u12_ u11_ (by decide)) 1).trans u13_
  have u21_ : T16_ 1 q9_ = 400 := (hx16_ q9_ (ty_ne tq9_ u11_ (by decide)) 1).trans tl9_
  have u22_ : T16_ 3 q1_ = 300 * o + 120 := (hx16_ q1_ (ty_ne u12_ u11_ (by decide)) 3).trans u14_
  have u23_ : T16_ 3 q9_ = 300 * o + 121 := (hx16_ q9_ (ty_ne tq9_ u11_ (by decide)) 3).trans tw9_
  have u24_ : T16_ 120 o = q1_ + 1 := (hj16_ 120 (by decide)).trans u15_
  refine j_aload_n E 23 rfl dX5_init_22 rfl (lv_at hl 0 rfl) ?_
  refine j_sipush E 26 rfl dX5_init_23 (by decide) ?_
  have hw0_ := hw
  refine n_arr20 E hK hw hA (300 * o + 122) 400 (by decide) (by decide) (Nat.le_of_ble_eq_true rfl) (Nat.le_of_ble_eq_true rfl) 28 rfl dX5_init_26 (fun q25_ T25_ y300_25 H hge25_ hx25_ ho25_ tq25_ tl25_ tw25_ yz25_ yo25_ hw => ?_)
  have fq25_ : s.heap.size ≤ q25_ := Nat.le_trans hw0_.2.2.1 hge25_
  have hw : WK D cy T25_ (upV v_0 300 y300_25) A0 s.heap H locs := cw_eq hw (by first | rfl | (funext j_; simp only [upV, reduceIte]; (repeat' split) <;> first | rfl | omega | (subst_vars; rfl)))
  have yo25_ : ∀ b, b ≠ q25_ → ∀ i, y300_25 (pr b i) = y300_9 (pr b i) := yo25_
  have kd26_ : KdA_ T sz [] (v_0 300) (y300_25) := KdA_tr kd10_ (KdA_new yo25_ (by omega))
  have hT25_ : WT T25_ := hw.1.2.1
  have hO25_ : ∀ x, ow T25_ x → κ 2 2 ≤ x := fun x h => hAc x (hw.2.1 x h)
  have hoT_ : OW T T25_ s.heap.size := OW.tr hw0_.2.2.1 hoT_ ho25_
  have hC_ : ∀ b, b < sz → T 0 b ≠ 10 → T 0 b ≠ 24 → T 0 b ≠ 26 → b ≠ o → ∀ j, j ≠ 197 → T25_ j b = T j b := fun b_ h1_ h2_ h3_ h4_ h5_ j_ h6_ => (hx25_ b_ (by have := hw0_.2.2.1; have := hge25_; omega) j_).trans (hC_ b_ h1_ h2_ h3_ h4_ h5_ j_ h6_)
  have hR_ : ∀ b, b < sz → b ≠ o → ∀ k, T25_ k b = T k b := fun b_ h1_ h2_ k_ => (hx25_ b_ (by have := hw0_.2.2.1; have := hge25_; omega) k_).trans (hR_ b_ h1_ h2_ k_)
  have u27_ : T25_ 0 o = 106 := (hx25_ o (Nat.ne_of_lt (Nat.lt_of_lt_of_le (cw_lt hw0_.1 u17_ (fun _ _ _ => ⟨_, rfl⟩)) hge25_)) 0).trans u17_
  have u28_ : T25_ 0 q1_ = 20 := (hx25_ q1_ (Nat.ne_of_lt (Nat.lt_of_lt_of_le (cw_lt hw0_.1 u18_ (fun _ _ _ => ⟨_, rfl⟩)) hge25_)) 0).trans u18_
  have u29_ : T25_ 0 q9_ = 20 := (hx25_ q9_ (Nat.ne_of_lt (Nat.lt_of_lt_of_le (cw_lt hw0_.1 u19_ (fun _ _ _ => ⟨_, rfl⟩)) hge25_)) 0).trans u19_
  have u30_ : T25_ 1 q1_ = 400 := (hx25_ q1_ (Nat.ne_of_lt (Nat.lt_of_lt_of_le (cw_lt hw0_.1 u18_ (fun _ _ _ => ⟨_, rfl⟩)) hge25_)) 1).trans u20_
  have u31_ : T25_ 1 q9_ = 400 := (hx25_ q9_ (Nat.ne_of_lt (Nat.lt_of_lt_of_le (cw_lt hw0_.1 u19_ (fun _ _ _ => ⟨_, rfl⟩)) hge25_)) 1).trans u21_
  have u32_ : T25_ 3 q1_ = 300 * o + 120 := (hx25_ q1_ (Nat.ne_of_lt (Nat.lt_of_lt_of_le (cw_lt hw0_.1 u18_ (fun _ _ _ => ⟨_, rfl⟩)) hge25_)) 3).trans u22_
  have u33_ : T25_ 3 q9_ = 300 * o + 121 := (hx25_ q9_ (Nat.ne_of_lt (Nat.lt_of_lt_of_le (cw_lt hw0_.1 u19_ (fun _ _ _ => ⟨_, rfl⟩)) hge25_)) 3).trans u23_
  have u34_ : T25_ 120 o = q1_ + 1 := (hx25_ o (Nat.ne_of_lt (Nat.lt_of_lt_of_le (cw_lt hw0_.1 u17_ (fun _ _ _ => ⟨_, rfl⟩)) hge25_)) 120).trans u24_
  have u35_ : T25_ 121 o = q9_ + 1 := (hx25_ o (Nat.ne_of_lt (Nat.lt_of_lt_of_le (cw_lt hw0_.1 u17_ (fun _ _ _ => ⟨_, rfl⟩)) hge25_)) 121).trans hk16_
  have hw0_ := hw
  refine rr_122 E hK hw hnm fl_X5_18 u27_ 31 rfl dX5_init_28 (fun T36_ H locs hx36_ hj36_ hk36_ ho36_ hw => ?_)
  have hT36_ : WT T36_ := hw.1.2.1
  have hO36_ : ∀ x, ow T36_ x → κ 2 2 ≤ x := fun x h => hAc x (hw.2.1 x h)
  have hoT_ : OW T T36_ s.heap.size := OW.tr0 hoT_ ho36_
  have hC_ : ∀ b, b < sz → T 0 b ≠ 10 → T 0 b ≠ 24 → T 0 b ≠ 26 → b ≠ o → ∀ j, j ≠ 197 → T36_ j b = T j b := fun b_ h1_ h2_ h3_ h4_ h5_ j_ h6_ => (hx36_ b_ h5_ j_).trans (hC_ b_ h1_ h2_ h3_ h4_ h5_ j_ h6_)
  have hR_ : ∀ b, b < sz → b ≠ o → ∀ k, T36_ k b = T k b := fun b_ h1_ h2_ k_ => (hx36_ b_ h2_ k_).trans (hR_ b_ h1_ h2_ k_)
  have u37_ : T36_ 0 o = 106 := (hj36_ 0 (by decide)).trans u27_
  have u38_ : T36_ 0 q1_ = 20 := (hx36_ q1_ (ty_ne u28_ u27_ (by decide)) 0).trans u28_
  have u39_ : T36_ 0 q9_ = 20 := (hx36_ q9_ (ty_ne u29_ u27_ (by decide)) 0).trans u29_
  have u40_ : T36_ 0 q25_ = 20 := (hx36_ q25_ (ty_ne tq25_ u27_ (by decide)) 0).trans tq25_
  have u41_ : T36_ 1 q1_ = 400 := (hx36_ q1_ (ty_ne u28_ u27_ (by decide)) 1).trans u30_
  have u42_ : T36_ 1 q9_ = 400 := (hx36_ q9_ (ty_ne u29_ u27_ (by decide)) 1).trans u31_
  have u43_ : T36_ 1 q25_ = 400 := (hx36_ q25_ (ty_ne tq25_ u27_ (by decide)) 1).trans tl25_
  have u44_ : T36_ 3 q1_ = 300 * o + 120 := (hx36_ q1_ (ty_ne u28_ u27_ (by decide)) 3).trans u32_
  have u45_ : T36_ 3 q9_ = 300 * o + 121 := (hx36_ q9_ (ty_ne u29_ u27_ (by decide)) 3).trans u33_
  have u46_ : T36_ 3 q25_ = 300 * o + 122 := (hx36_ q25_ (ty_ne tq25_ u27_ (by decide)) 3).trans tw25_
  have u47_ : T36_ 120 o = q1_ + 1 := (hj36_ 120 (by decide)).trans u34_
  have u48_ : T36_ 121 o = q9_ + 1 := (hj36_ 121 (by decide)).trans u35_
  refine j_aload_n E 32 rfl dX5_init_31 rfl (lv_at hl 0 rfl) ?_
  refine j_iconst E 33 rfl dX5_init_32 ?_
  refine rp_123 E hK hw fl_X5_21 u37_ (rr (by decide)) 36 rfl dX5_init_33 (fun H locs hw => ?_)
  have hw : WK D cy T36_ (upV (upV v_0 123 (upB (v_0 123) o 0)) 300 y300_25) A0 s.heap H locs := cw_eq hw (by first | rfl | (funext j_; simp only [upV, reduceIte]; (repeat' split) <;> first | rfl | omega | (subst_vars; rfl)))
  refine j_aload_n E 37 rfl dX5_init_36 rfl (lv_at hl 0 rfl) ?_
  refine j_iconst E 38 rfl dX5_init_37 ?_
  refine rp_124 E hK hw fl_X5_25 u37_ (rr (by decide)) 41 rfl dX5_init_38 (fun H locs hw => ?_)
  have hw : WK D cy T36_ (upV (upV (upV v_0 123 (upB (v_0 123) o 0)) 124 (upB (v_0 124) o 0)) 300 y300_25) A0 s.heap H locs := cw_eq hw (by first | rfl | (funext j_; simp only [upV, reduceIte]; (repeat' split) <;> first | rfl | omega | (subst_vars; rfl)))
  have hw0_ := hw
  obtain ⟨T51_, hx51_, tq51_, xe51_120_, xe51_121_, xe51_122_, ho51_, hw⟩ := pm_6 hw u37_ u47_ u38_ u41_ u44_ u48_ u39_ u42_ u45_ hk36_ u40_ u43_ u46_
  have hT51_ : WT T51_ := hw.1.2.1
  have hO51_ : ∀ x, ow T51_ x → κ 2 2 ≤ x := fun x h => hAc x (hw.2.1 x h)
  have hoT_ : OW T T51_ s.heap.size := OW.tr0 hoT_ ho51_
  have hC_ : ∀ b, b < sz → T 0 b ≠ 10 → T 0 b ≠ 24 → T 0 b ≠ 26 → b ≠ o → ∀ j, j ≠ 197 → T51_ j b = T j b := fun b_ h1_ h2_ h3_ h4_ h5_ j_ h6_ => (hx51_ b_ h5_ j_).trans (hC_ b_ h1_ h2_ h3_ h4_ h5_ j_ h6_)
  have hR_ : ∀ b, b < sz → b ≠ o → ∀ k, T51_ k b = T k b := fun b_ h1_ h2_ k_ => (hx51_ b_ h2_ k_).trans (hR_ b_ h1_ h2_ k_)
  have u52_ : T51_ 1 q1_ = 400 := (hx51_ q1_ (ty_ne u38_ u37_ (by decide)) 1).trans u41_
  have u53_ : T51_ 1 q9_ = 400 := (hx51_ q9_ (ty_ne u39_ u37_ (by decide)) 1).trans u42_
  have u54_ : T51_ 1 q25_ = 400 := (hx51_ q25_ (ty_ne u40_ u37_ (by decide)) 1).trans u43_
  exact hret 41 T51_ (upV (upV (upV v_0 123 (upB (v_0 123) o 0)) 124 (upB (v_0 124) o 0)) 300 y300_25) _ _ ls _ _ hw hoT_ ⟨(upB (v_0 123) o 0), (upB (v_0 124) o 0), y300_25, rfl, ⟨⟨hR_, tq51_⟩, kd26_⟩⟩ (Nat.le_of_ble_eq_true rfl) (Nat.le_of_ble_eq_true rfl) dX5_init_41
set_option maxHeartbeats 4000000 in
set_option maxRecDepth 100000 in
theorem n_X6_init (l : Launch) (D : va_G) (cy : Nat → ClassId) (κ T : Nat → Nat → Nat) (v_0 : Nat → Nat → Int) (o : Nat) (v_a : Int) (v_b : Int) (v_c : Int) (v_d : Int) (v_e : Int) (v_f : Int) (sz : Nat) (hO : ∀ x, ow T x → κ 2 2 ≤ x) (t_o : T 0 o = 107) (r_v_a : inR v_a) (r_v_b : inR v_b) (r_v_c : inR v_c) (r_v_d : inR v_d) (r_v_e : inR v_e) (r_v_f : inR v_f) : KA l D cy κ T yX6_init cX6_init 7 none 1 0 0 [.ref o, .int (J v_a), .int (J v_b), .int (J v_c), .int (J v_d), .int (J v_e), .int (J v_f)] v_0 sz (AV (fun (T_2 : Nat → Nat → Nat) (v_2 : Nat → Nat → Int) => ∃ (y140_2 : Nat → Int) (y141_2 : Nat → Int) (y142_2 : Nat → Int) (y143_2 : Nat → Int) (y144_2 : Nat → Int) (y145_2 : Nat → Int) (y146_2 : Nat → Int) , v_2 = upV (upV (upV (upV (upV (upV (upV v_0 140 y140_2) 141 y141_2) 142 y142_2) 143 y143_2) 144 y144_2) 145 y145_2) 146 y146_2 ∧ ((∀ b, b < sz → b ≠ o → ∀ k, T_2 k b = T k b) ∧ T_2 0 o = 7))) := by
  refine KA.ofv (by decide) (Nat.le_of_ble_eq_true rfl) hO ?_
  intro p e s m below meth c ls ar QW A0 H locs E hK hZ hA hAc hsz hszH_ hnm hw hlo_ hl hret
  have hl : lv_has ls 7 [(0, .ref o), (1, .int (J v_a)), (2, .int (J v_b)), (3, .int (J v_c)), (4, .int (J v_d)), (5, .int (J v_e)), (6, .int (J v_f))] := hl
  have hT : WT T := hw.1.2.1
  have hoT_ : OW T T s.heap.size := OW.rf T _
  have hC_ : ∀ b, b < sz → T 0 b ≠ 10 → T 0 b ≠ 24 → T 0 b ≠ 26 → b ≠ o → ∀ j, j ≠ 197 → T j b = T j b := fun _ _ _ _ _ _ _ _ => rfl
  have hR_ : ∀ b, b < sz → b ≠ o → ∀ k, T k b = T k b := fun b _ _ k => rfl
  refine j_aload_n E 1 rfl dX6_init_0 rfl (lv_at hl 0 rfl) ?_
  refine W.objInit E.1 E.2.1 E.2.2.2.1 (E.2.2.2.2.1 _ mo_X6_3) (E.2.2.2.2.1 _ im_ob) (E.2.2.2.2.1 _ cd_ob) rfl (by rw [E.2.2.1]; exact hl.1) rfl dX6_init_1 (Nat.le_of_ble_eq_true rfl) (Nat.le_of_ble_eq_true rfl) ?_
  show W p l e (rmd 1 0 0) s m ar below meth c H locs _ _ QW (F0 m 4 ls [])
  refine j_aload_n E 5 rfl dX6_init_4 rfl (lv_at hl 0 rfl) ?_
  refine j_iconst E 6 rfl dX6_init_5 ?_
  refine rp_146 E hK hw fl_X6_9 t_o (rr (by decide)) (Or.inl rfl) 9 rfl dX6_init_6 (fun H locs hw => ?_)
  have hw : WK D cy T (upV v_0 146 (upB (v_0 146) o 0)) A0 s.heap H locs := cw_eq hw (by first | rfl | (funext j_; simp only [upV, reduceIte]; (repeat' split) <;> first | rfl | omega | (subst_vars; rfl)))
  refine j_aload_n E 10 rfl dX6_init_9 rfl (lv_at hl 0 rfl) ?_
  refine j_iload_n E 11 rfl dX6_init_10 rfl (lv_at hl 1 rfl) ?_
  refine rp_140 E hK hw hnm fl_X6_15 t_o r_v_a 14 rfl dX6_init_11 (fun H locs hw => ?_)
  have hw : WK D cy T (upV (upV v_0 140 (upB (v_0 140) o v_a)) 146 (upB (v_0 146) o 0)) A0 s.heap H locs := cw_eq hw (by first | rfl | (funext j_; simp only [upV, reduceIte]; (repeat' split) <;> first | rfl | omega | (subst_vars; rfl)))
  refine j_aload_n E 15 rfl dX6_init_14 rfl (lv_at hl 0 rfl) ?_
  refine j_iload_n E 16 rfl dX6_init_15 rfl (lv_at hl 2 rfl) ?_
  refine rp_141 E hK hw hnm fl_X6_19 t_o r_v_b 19 rfl dX6_init_16 (fun H locs hw => ?_)
  have hw : WK D cy T (upV (upV (upV v_0 140 (upB (v_0 140) o v_a)) 141 (upB (v_0 141) o v_b)) 146 (upB (v_0 146) o 0)) A0 s.heap H locs := cw_eq hw (by first | rfl | (funext j_; simp only [upV, reduceIte]; (repeat' split) <;> first | rfl | omega | (subst_vars; rfl)))
  refine j_aload_n E 20 rfl dX6_init_19 rfl (lv_at hl 0 rfl) ?_
  refine j_iload_n E 21 rfl dX6_init_20 rfl (lv_at hl 3 rfl) ?_
  refine rp_142 E hK hw hnm fl_X6_22 t_o r_v_c 24 rfl dX6_init_21 (fun H locs hw => ?_)
  have hw : WK D cy T (upV (upV (upV (upV v_0 140 (upB (v_0 140) o v_a)) 141 (upB (v_0 141) o v_b)) 142 (upB (v_0 142) o v_c)) 146 (upB (v_0 146) o 0)) A0 s.heap H locs := cw_eq hw (by first | rfl | (funext j_; simp only [upV, reduceIte]; (repeat' split) <;> first | rfl | omega | (subst_vars; rfl)))
  refine j_aload_n E 25 rfl dX6_init_24 rfl (lv_at hl 0 rfl) ?_
  refine j_iload E 27 rfl dX6_init_25 (lv_at hl 4 rfl) ?_
  refine rp_143 E hK hw hnm fl_X6_25 t_o r_v_d 30 rfl dX6_init_27 (fun H locs hw => ?_)
  have hw : WK D cy T (upV (upV (upV (upV (upV v_0 140 (upB (v_0 140) o v_a)) 141 (upB (v_0 141) o v_b)) 142 (upB (v_0 142) o v_c)) 143 (upB (v_0 143) o v_d)) 146 (upB (v_0 146) o 0)) A0 s.heap H locs := cw_eq hw (by first | rfl | (funext j_; simp only [upV, reduceIte]; (repeat' split) <;> first | rfl | omega | (subst_vars; rfl)))
  refine j_aload_n E 31 rfl dX6_init_30 rfl (lv_at hl 0 rfl) ?_
  refine j_iload E 33 rfl dX6_init_31 (lv_at hl 5 rfl) ?_
  refine rp_144 E hK hw hnm fl_X6_28 t_o r_v_e 36 rfl dX6_init_33 (fun H locs hw => ?_)
  have hw : WK D cy T (upV (upV (upV (upV (upV (upV v_0 140 (upB (v_0 140) o v_a)) 141 (upB (v_0 141) o v_b)) 142 (upB (v_0 142) o v_c)) 143 (upB (v_0 143) o v_d)) 144 (upB (v_0 144) o v_e)) 146 (upB (v_0 146) o 0)) A0 s.heap H locs := cw_eq hw (by first | rfl | exact (funext fun j_ => if a140_ : j_ = 140 then (by subst a140_; rfl) else if a141_ : j_ = 141 then (by subst a141_; rfl) else if a142_ : j_ = 142 then (by subst a142_; rfl) else if a143_ : j_ = 143 then (by subst a143_; rfl) else if a144_ : j_ = 144 then (by subst a144_; rfl) else if a146_ : j_ = 146 then (by subst a146_; rfl) else (by simp only [upV, if_neg a140_, if_neg a141_, if_neg a142_, if_neg a143_, if_neg a144_, if_neg a146_])))
  refine j_aload_n E 37 rfl dX6_init_36 rfl (lv_at hl 0 rfl) ?_
  refine j_iload E 39 rfl dX6_init_37 (lv_at hl 6 rfl) ?_
  refine rp_145 E hK hw hnm fl_X6_31 t_o r_v_f 42 rfl dX6_init_39 (fun H locs hw => ?_)
  have hw : WK D cy T (upV (upV (upV (upV (upV (upV (upV v_0 140 (upB (v_0 140) o v_a)) 141 (upB (v_0 141) o v_b)) 142 (upB (v_0 142) o v_c)) 143 (upB (v_0 143) o v_d)) 144 (upB (v_0 144) o v_e)) 145 (upB (v_0 145) o v_f)) 146 (upB (v_0 146) o 0)) A0 s.heap H locs := cw_eq hw (by first | rfl | exact (funext fun j_ => if a140_ : j_ = 140 then (by subst a140_; rfl) else if a141_ : j_ = 141 then (by subst a141_; rfl) else if a142_ : j_ = 142 then (by subst a142_; rfl) else if a143_ : j_ = 143 then (by subst a143_; rfl) else if a144_ : j_ = 144 then (by subst a144_; rfl) else if a145_ : j_ = 145 then (by subst a145_; rfl) else if a146_ : j_ = 146 then (by subst a146_; rfl) else (by simp only [upV, if_neg a140_, if_neg a141_, if_neg a142_, if_neg a143_, if_neg a144_, if_neg a145_, if_neg a146_])))
  have hw0_ := hw
  obtain ⟨T8_, hx8_, tq8_, ho8_, hw⟩ := pm_7 hw t_o 
  have hT8_ : WT T8_ := hw.1.2.1
  have hO8_ : ∀ x, ow T8_ x → κ 2 2 ≤ x := fun x h => hAc x (hw.2.1 x h)
  have hoT_ : OW T T8_ s.heap.size := OW.tr0 hoT_ ho8_
  have hC_ : ∀ b, b < sz → T 0 b ≠ 10 → T 0 b ≠ 24 → T 0 b ≠ 26 → b ≠ o → ∀ j, j ≠ 197 → T8_ j b = T j b := fun b_ h1_ h2_ h3_ h4_ h5_ j_ h6_ => (hx8_ b_ h5_ j_).trans (hC_ b_ h1_ h2_ h3_ h4_ h5_ j_ h6_)
  have hR_ : ∀ b, b < sz → b ≠ o → ∀ k, T8_ k b = T k b := fun b_ h1_ h2_ k_ => (hx8_ b_ h2_ k_).trans (hR_ b_ h1_ h2_ k_)
  exact hret 42 T8_ (upV (upV (upV (upV (upV (upV (upV v_0 140 (upB (v_0 140) o v_a)) 141 (upB (v_0 141) o v_b)) 142 (upB (v_0 142) o v_c)) 143 (upB (v_0 143) o v_d)) 144 (upB (v_0 144) o v_e)) 145 (upB (v_0 145) o v_f)) 146 (upB (v_0 146) o 0)) _ _ ls _ _ hw hoT_ ⟨(upB (v_0 140) o v_a), (upB (v_0 141) o v_b), (upB (v_0 142) o v_c), (upB (v_0 143) o v_d), (upB (v_0 144) o v_e), (upB (v_0 145) o v_f), (upB (v_0 146) o 0), rfl, ⟨hR_, tq8_⟩⟩ (Nat.le_of_ble_eq_true rfl) (Nat.le_of_ble_eq_true rfl) dX6_init_42
set_option maxHeartbeats 4000000 in
set_option maxRecDepth 100000 in
theorem n_X3_init (l : Launch) (D : va_G) (cy : Nat → ClassId) (κ T : Nat → Nat → Nat) (v_0 : Nat → Nat → Int) (o : Nat) (sz : Nat) (hO : ∀ x, ow T x → κ 2 2 ≤ x) (t_o : T 0 o = 104) : KA l D cy κ T yX3_init cX3_init 1 none 2 5 1605 [.ref o] v_0 sz (AV (fun (T_2 : Nat → Nat → Nat) (v_2 : Nat → Nat → Int) => ∃ (y80_2 : Nat → Int) (y81_2 : Nat → Int) (y83_2 : Nat → Int) (y84_2 : Nat → Int) (y86_2 : Nat → Int) (y123_2 : Nat → Int) (y124_2 : Nat → Int) (y300_2 : Nat → Int) , v_2 = upV (upV (upV (upV (upV (upV (upV (upV v_0 80 y80_2) 81 y81_2) 83 y83_2) 84 y84_2) 86 y86_2) 123 y123_2) 124 y124_2) 300 y300_2 ∧ (((∀ b, b < sz → b ≠ o → ∀ k, T_2 k b = T k b) ∧ T_2 0 o = 4) ∧ KdA_ T sz [] (v_0 300) y300_2))) := by
  refine KA.ofv (by decide) (Nat.le_of_ble_eq_true rfl) hO ?_
  intro p e s m below meth c ls ar QW A0 H locs E hK hZ hA hAc hsz hszH_ hnm hw hlo_ hl hret
  have hl : lv_has ls 1 [(0, .ref o)] := hl
  have hT : WT T := hw.1.2.1
  have hoT_ : OW T T s.heap.size := OW.rf T _
  have hC_ : ∀ b, b < sz → T 0 b ≠ 10 → T 0 b ≠ 24 → T 0 b ≠ 26 → b ≠ o → ∀ j, j ≠ 197 → T j b = T j b := fun _ _ _ _ _ _ _ _ => rfl
  have hR_ : ∀ b, b < sz → b ≠ o → ∀ k, T k b = T k b := fun b _ _ k => rfl
  refine j_aload_n E 1 rfl dX3_init_0 rfl (lv_at hl 0 rfl) ?_
  refine W.objInit E.1 E.2.1 E.2.2.2.1 (E.2.2.2.2.1 _ mo_X3_3) (E.2.2.2.2.1 _ im_ob) (E.2.2.2.2.1 _ cd_ob) rfl (by rw [E.2.2.1]; exact hl.1) rfl dX3_init_1 (Nat.le_of_ble_eq_true rfl) (Nat.le_of_ble_eq_true rfl) ?_
  show W p l e (rmd 2 5 1605) s m ar below meth c H locs _ _ QW (F0 m 4 ls [])
  refine j_aload_n E 5 rfl dX3_init_4 rfl (lv_at hl 0 rfl) ?_
  refine j_iconst E 6 rfl dX3_init_5 ?_
  refine rp_80 E hK hw fl_X3_9 t_o (rr (by decide)) 9 rfl dX3_init_6 (fun H locs hw => ?_)
  have hw : WK D cy T (upV v_0 80 (upB (v_0 80) o 0)) A0 s.heap H locs := cw_eq hw (by first | rfl | (funext j_; simp only [upV, reduceIte]; (repeat' split) <;> first | rfl | omega | (subst_vars; rfl)))
  refine j_aload_n E 10 rfl dX3_init_9 rfl (lv_at hl 0 rfl) ?_
  refine j_iconst E 11 rfl dX3_init_10 ?_
  refine rp_81 E hK hw fl_X3_15 t_o (rr (by decide)) 14 rfl dX3_init_11 (fun H locs hw => ?_)
  have hw : WK D cy T (upV (upV v_0 80 (upB (v_0 80) o 0)) 81 (upB (v_0 81) o ((-1)))) A0 s.heap H locs := cw_eq hw (by first | rfl | (funext j_; simp only [upV, reduceIte]; (repeat' split) <;> first | rfl | omega | (subst_vars; rfl)))
  refine j_aload_n E 15 rfl dX3_init_14 rfl (lv_at hl 0 rfl) ?_
  have hw0_ := hw
  refine n_obj6 E hK hw hA cl_X3_18 (Nat.le_of_ble_eq_true rfl) (Nat.le_of_ble_eq_true rfl) 18 rfl dX3_init_15 (fun q3_ T3_ H hge3_ hx3_ ho3_ tq3_ hw => ?_)
  have fq3_ : s.heap.size ≤ q3_ := Nat.le_trans hw0_.2.2.1 hge3_
  have hw : WK D cy T3_ (upV (upV (upV (upV v_0 80 (upB (v_0 80) o 0)) 81 (upB (v_0 81) o ((-1)))) 123 (upB (v_0 123) q3_ 0)) 124 (upB (v_0 124) q3_ 0)) A0 s.heap H locs := cw_eq hw (by first | rfl | (funext j_; simp only [upV, reduceIte]; (repeat' split) <;> first | rfl | omega | (subst_vars; rfl)))
  have hT3_ : WT T3_ := hw.1.2.1
  have hO3_ : ∀ x, ow T3_ x → κ 2 2 ≤ x := fun x h => hAc x (hw.2.1 x h)
  have hoT_ : OW T T3_ s.heap.size := OW.tr hw0_.2.2.1 hoT_ ho3_
  have hC_ : ∀ b, b < sz → T 0 b ≠ 10 → T 0 b ≠ 24 → T 0 b ≠ 26 → b ≠ o → ∀ j, j ≠ 197 → T3_ j b = T j b := fun b_ h1_ h2_ h3_ h4_ h5_ j_ h6_ => (hx3_ b_ (by have := hw0_.2.2.1; have := hge3_; omega) j_).trans (hC_ b_ h1_ h2_ h3_ h4_ h5_ j_ h6_)
  have hR_ : ∀ b, b < sz → b ≠ o → ∀ k, T3_ k b = T k b := fun b_ h1_ h2_ k_ => (hx3_ b_ (by have := hw0_.2.2.1; have := hge3_; omega) k_).trans (hR_ b_ h1_ h2_ k_)
  have u4_ : T3_ 0 o = 104 := (hx3_ o (Nat.ne_of_lt (Nat.lt_of_lt_of_le (cw_lt hw0_.1 t_o (fun _ _ _ => ⟨_, rfl⟩)) hge3_)) 0).trans t_o
  refine j_dup E 19 rfl dX3_init_18 rfl ?_
  have hw0_ := hw
  refine aN_v E (n_X5_init l D cy κ T3_ (upV (upV (upV (upV v_0 80 (upB (v_0 80) o 0)) 81 (upB (v_0 81) o ((-1)))) 123 (upB (v_0 123) q3_ 0)) 124 (upB (v_0 124) q3_ 0)) q3_ H.size  hO3_ tq3_  ) mi_X5_init hZ.1.mS hK hZ hAc hw hA ⟨(Nat.le_of_ble_eq_true rfl), (Nat.le_of_ble_eq_true rfl)⟩ ⟨(Nat.le_of_ble_eq_true rfl), (Nat.le_of_ble_eq_true rfl)⟩ (As := []) (rest := [.ref q3_, .ref o]) rfl rfl hl.1 (Nat.le_of_ble_eq_true rfl) 22 rfl dX3_init_19 (fun T5_ v_5 H locs hge5_ ho5_ hq5_ hw => ?_)
  obtain ⟨y123_5, y124_5, y300_5, ev5_, hh5_⟩ := hq5_
  rw [ev5_] at hw; clear ev5_
  obtain ⟨hh5_, kf5_⟩ := hh5_
  have kd6_ : KdA_ T sz [] (v_0 300) (y300_5) := KdA_tr KdA_rf (KdA_ka kf5_ (by have := hw0_.2.2.1; omega) (by decide) (C20_ hC_ t_o (by decide)))
  have hw : WK D cy T5_ (upV (upV (upV (upV (upV v_0 80 (upB (v_0 80) o 0)) 81 (upB (v_0 81) o ((-1)))) 123 y123_5) 124 y124_5) 300 y300_5) A0 s.heap H locs := cw_eq hw (by first | rfl | (funext j_; simp only [upV, reduceIte]; (repeat' split) <;> first | rfl | omega | (subst_vars; rfl)))
  obtain ⟨hx5_, tq5_⟩ := hh5_
  have hT5_ : WT T5_ := hw.1.2.1
  have hO5_ : ∀ x, ow T5_ x → κ 2 2 ≤ x := fun x h => hAc x (hw.2.1 x h)
  have hoT_ : OW T T5_ s.heap.size := OW.tr hw0_.2.2.1 hoT_ ho5_
  have hC_ : ∀ b, b < sz → T 0 b ≠ 10 → T 0 b ≠ 24 → T 0 b ≠ 26 → b ≠ o → ∀ j, j ≠ 197 → T5_ j b = T j b := fun b_ h1_ h2_ h3_ h4_ h5_ j_ h6_ => (hx5_ b_ (by have := hw0_.2.2.1; omega) (by have := fq3_; omega) j_).trans (hC_ b_ h1_ h2_ h3_ h4_ h5_ j_ h6_)
  have hR_ : ∀ b, b < sz → b ≠ o → ∀ k, T5_ k b = T k b := fun b_ h1_ h2_ k_ => (hx5_ b_ (by have := hw0_.2.2.1; omega) (by have := fq3_; omega) k_).trans (hR_ b_ h1_ h2_ k_)
  have u7_ : T5_ 0 o = 104 := (hx5_ o (cw_lt hw0_.1 u4_ (fun _ _ _ => ⟨_, rfl⟩)) (ty_ne u4_ tq3_ (by decide)) 0).trans u4_
  have hw0_ := hw
  refine rr_82 E hK hw hnm fl_X3_21 u7_ 25 rfl dX3_init_22 (fun T8_ H locs hx8_ hj8_ hk8_ ho8_ hw => ?_)
  have hT8_ : WT T8_ := hw.1.2.1
  have hO8_ : ∀ x, ow T8_ x → κ 2 2 ≤ x := fun x h => hAc x (hw.2.1 x h)
  have hoT_ : OW T T8_ s.heap.size := OW.tr0 hoT_ ho8_
  have hC_ : ∀ b, b < sz → T 0 b ≠ 10 → T 0 b ≠ 24 → T 0 b ≠ 26 → b ≠ o → ∀ j, j ≠ 197 → T8_ j b = T j b := fun b_ h1_ h2_ h3_ h4_ h5_ j_ h6_ => (hx8_ b_ h5_ j_).trans (hC_ b_ h1_ h2_ h3_ h4_ h5_ j_ h6_)
  have hR_ : ∀ b, b < sz → b ≠ o → ∀ k, T8_ k b = T k b := fun b_ h1_ h2_ k_ => (hx8_ b_ h2_ k_).trans (hR_ b_ h1_ h2_ k_)
  have u9_ : T8_ 0 o = 104 := (hj8_ 0 (by decide)).trans u7_
  have u10_ : T8_ 0 q3_ = 6 := (hx8_ q3_ (ty_ne tq5_ u7_ (by decide)) 0).trans tq5_
  refine j_aload_n E 26 rfl dX3_init_25 rfl (lv_at hl 0 rfl) ?_
  refine j_iconst E 27 rfl dX3_init_26 ?_
  refine rp_83 E hK hw fl_X3_25 u9_ (rr (by decide)) 30 rfl dX3_init_27 (fun H locs hw => ?_)
  have hw : WK D cy T8_ (upV (upV (upV (upV (upV (upV v_0 80 (upB (v_0 80) o 0)) 81 (upB (v_0 81) o ((-1)))) 83 (upB (v_0 83) o 0)) 123 y123_5) 124 y124_5) 300 y300_5) A0 s.heap H locs := cw_eq hw (by first | rfl | exact (funext fun j_ => if a80_ : j_ = 80 then (by subst a80_; rfl) else if a81_ : j_ = 81 then (by subst a81_; rfl) else if a83_ : j_ = 83 then (by subst a83_; rfl) else if a123_ : j_ = 123 then (by subst a123_; rfl) else if a124_ : j_ = 124 then (by subst a124_; rfl) else if a300_ : j_ = 300 then (by subst a300_; rfl) else (by simp only [upV, if_neg a80_, if_neg a81_, if_neg a83_, if_neg a123_, if_neg a124_, if_neg a300_])))
  refine j_aload_n E 31 rfl dX3_init_30 rfl (lv_at hl 0 rfl) ?_
  refine j_iconst E 32 rfl dX3_init_31 ?_
  refine rp_84 E hK hw fl_X3_30 u9_ (rr (by decide)) 35 rfl dX3_init_32 (fun H locs hw => ?_)
  have hw : WK D cy T8_ (upV (upV (upV (upV (upV (upV (upV v_0 80 (upB (v_0 80) o 0)) 81 (upB (v_0 81) o ((-1)))) 83 (upB (v_0 83) o 0)) 84 (upB (v_0 84) o 1)) 123 y123_5) 124 y124_5) 300 y300_5) A0 s.heap H locs := cw_eq hw (by first | rfl | exact (funext fun j_ => if a80_ : j_ = 80 then (by subst a80_; rfl) else if a81_ : j_ = 81 then (by subst a81_; rfl) else if a83_ : j_ = 83 then (by subst a83_; rfl) else if a84_ : j_ = 84 then (by subst a84_; rfl) else if a123_ : j_ = 123 then (by subst a123_; rfl) else if a124_ : j_ = 124 then (by subst a124_; rfl) else if a300_ : j_ = 300 then (by subst a300_; rfl) else (by simp only [upV, if_neg a80_, if_neg a81_, if_neg a83_, if_neg a84_, if_neg a123_, if_neg a124_, if_neg a300_])))
  refine j_aload_n E 36 rfl dX3_init_35 rfl (lv_at hl 0 rfl) ?_
  refine j_sipush E 39 rfl dX3_init_36 (by decide) ?_
  have hw0_ := hw
  refine n_arr20 E hK hw hA (300 * o + 85) 400 (by decide) (by decide) (Nat.le_of_ble_eq_true rfl) (Nat.le_of_ble_eq_true rfl) 41 rfl dX3_init_39 (fun q13_ T13_ y300_13 H hge13_ hx13_ ho13_ tq13_ tl13_ tw13_ yz13_ yo13_ hw => ?_)
  have fq13_ : s.heap.size ≤ q13_ := Nat.le_trans hw0_.2.2.1 hge13_
  have hw : WK D cy T13_ (upV (upV (upV (upV (upV (upV (upV v_0 80 (upB (v_0 80) o 0)) 81 (upB (v_0 81) o ((-1)))) 83 (upB (v_0 83) o 0)) 84 (upB (v_0 84) o 1)) 123 y123_5) 124 y124_5) 300 y300_13) A0 s.heap H locs := cw_eq hw (by first | rfl | exact (funext fun j_ => if a80_ : j_ = 80 then (by subst a80_; rfl) else if a81_ : j_ = 81 then (by subst a81_; rfl) else if a83_ : j_ = 83 then (by subst a83_; rfl) else if a84_ : j_ = 84 then (by subst a84_; rfl) else if a123_ : j_ = 123 then (by subst a123_; rfl) else if a124_ : j_ = 124 then (by subst a124_; rfl) else if a300_ : j_ = 300 then (by subst a300_; rfl) else (by simp only [upV, if_neg a80_, if_neg a81_, if_neg a83_, if_neg a84_, if_neg a123_, if_neg a124_, if_neg a300_])))
  have yo13_ : ∀ b, b ≠ q13_ → ∀ i, y300_13 (pr b i) = y300_5 (pr b i) := yo13_
  have kd14_ : KdA_ T sz [] (v_0 300) (y300_13) := KdA_tr kd6_ (KdA_new yo13_ (by omega))
  have hT13_ : WT T13_ := hw.1.2.1
  have hO13_ : ∀ x, ow T13_ x → κ 2 2 ≤ x := fun x h => hAc x (hw.2.1 x h)
  have hoT_ : OW T T13_ s.heap.size := OW.tr hw0_.2.2.1 hoT_ ho13_
  have hC_ : ∀ b, b < sz → T 0 b ≠ 10 → T 0 b ≠ 24 → T 0 b ≠ 26 → b ≠ o → ∀ j, j ≠ 197 → T13_ j b = T j b := fun b_ h1_ h2_ h3_ h4_ h5_ j_ h6_ => (hx13_ b_ (by have := hw0_.2.2.1; have := hge13_; omega) j_).trans (hC_ b_ h1_ h2_ h3_ h4_ h5_ j_ h6_)
  have hR_ : ∀ b, b < sz → b ≠ o → ∀ k, T13_ k b = T k b := fun b_ h1_ h2_ k_ => (hx13_ b_ (by have := hw0_.2.2.1; have := hge13_; omega) k_).trans (hR_ b_ h1_ h2_ k_)
  have u15_ : T13_ 0 o = 104 := (hx13_ o (Nat.ne_of_lt (Nat.lt_of_lt_of_le (cw_lt hw0_.1 u9_ (fun _ _ _ => ⟨_, rfl⟩)) hge13_)) 0).trans u9_
  have u16_ : T13_ 0 q3_ = 6 := (hx13_ q3_ (Nat.ne_of_lt (Nat.lt_of_lt_of_le (cw_lt hw0_.1 u10_ (fun _ _ _ => ⟨_, rfl⟩)) hge13_)) 0).trans u10_
  have u17_ : T13_ 82 o = q3_ + 1 := (hx13_ o (Nat.ne_of_lt (Nat.lt_of_lt_of_le (cw_lt hw0_.1 u9_ (fun _ _ _ => ⟨_, rfl⟩)) hge13_)) 82).trans hk8_
  have hw0_ := hw
  refine rr_85 E hK hw hnm fl_X3_33 u15_ 44 rfl dX3_init_41 (fun T18_ H locs hx18_ hj18_ hk18_ ho18_ hw => ?_)
  have hT18_ : WT T18_ := hw.1.2.1
  have hO18_ : ∀ x, ow T18_ x → κ 2 2 ≤ x := fun x h => hAc x (hw.2.1 x h)
  have hoT_ : OW T T18_ s.heap.size := OW.tr0 hoT_ ho18_
  have hC_ : ∀ b, b < sz → T 0 b ≠ 10 → T 0 b ≠ 24 → T 0 b ≠ 26 → b ≠ o → ∀ j, j ≠ 197 → T18_ j b = T j b := fun b_ h1_ h2_ h3_ h4_ h5_ j_ h6_ => (hx18_ b_ h5_ j_).trans (hC_ b_ h1_ h2_ h3_ h4_ h5_ j_ h6_)
  have hR_ : ∀ b, b < sz → b ≠ o → ∀ k, T18_ k b = T k b := fun b_ h1_ h2_ k_ => (hx18_ b_ h2_ k_).trans (hR_ b_ h1_ h2_ k_)
  have u19_ : T18_ 0 o = 104 := (hj18_ 0 (by decide)).trans u15_
  have u20_ : T18_ 0 q3_ = 6 := (hx18_ q3_ (ty_ne u16_ u15_ (by decide)) 0).trans u16_
  have u21_ : T18_ 0 q13_ = 20 := (hx18_ q13_ (ty_ne tq13_ u15_ (by decide)) 0).trans tq13_
  have u22_ : T18_ 1 q13_ = 400 := (hx18_ q13_ (ty_ne tq13_ u15_ (by decide)) 1).trans tl13_
  have u23_ : T18_ 3 q13_ = 300 * o + 85 := (hx18_ q13_ (ty_ne tq13_ u15_ (by decide)) 3).trans tw13_
  have u24_ : T18_ 82 o = q3_ + 1 := (hj18_ 82 (by decide)).trans u17_
  refine j_aload_n E 45 rfl dX3_init_44 rfl (lv_at hl 0 rfl) ?_
  refine j_iconst E 46 rfl dX3_init_45 ?_
  refine rp_86 E hK hw fl_X3_37 u19_ (rr (by decide)) 49 rfl dX3_init_46 (fun H locs hw => ?_)
  have hw : WK D cy T18_ (upV (upV (upV (upV (upV (upV (upV (upV v_0 80 (upB (v_0 80) o 0)) 81 (upB (v_0 81) o ((-1)))) 83 (upB (v_0 83) o 0)) 84 (upB (v_0 84) o 1)) 86 (upB (v_0 86) o 0)) 123 y123_5) 124 y124_5) 300 y300_13) A0 s.heap H locs := cw_eq hw (by first | rfl | exact (funext fun j_ => if a80_ : j_ = 80 then (by subst a80_; rfl) else if a81_ : j_ = 81 then (by subst a81_; rfl) else if a83_ : j_ = 83 then (by subst a83_; rfl) else if a84_ : j_ = 84 then (by subst a84_; rfl) else if a86_ : j_ = 86 then (by subst a86_; rfl) else if a123_ : j_ = 123 then (by subst a123_; rfl) else if a124_ : j_ = 124 then (by subst a124_; rfl) else if a300_ : j_ = 300 then (by subst a300_; rfl) else (by simp only [upV, if_neg a80_, if_neg a81_, if_neg a83_, if_neg a84_, if_neg a86_, if_neg a123_, if_neg a124_, if_neg a300_])))
  have hw0_ := hw
  obtain ⟨T26_, hx26_, tq26_, xe26_82_, xe26_85_, ho26_, hw⟩ := pm_4 hw u19_ u24_ u20_ hk18_ u21_ u22_ u23_
  have hT26_ : WT T26_ := hw.1.2.1
  have hO26_ : ∀ x, ow T26_ x → κ 2 2 ≤ x := fun x h => hAc x (hw.2.1 x h)
  have hoT_ : OW T T26_ s.heap.size := OW.tr0 hoT_ ho26_
  have hC_ : ∀ b, b < sz → T 0 b ≠ 10 → T 0 b ≠ 24 → T 0 b ≠ 26 → b ≠ o → ∀ j, j ≠ 197 → T26_ j b = T j b := fun b_ h1_ h2_ h3_ h4_ h5_ j_ h6_ => (hx26_ b_ h5_ j_).trans (hC_ b_ h1_ h2_ h3_ h4_ h5_ j_ h6_)
  have hR_ : ∀ b, b < sz → b ≠ o → ∀ k, T26_ k b = T k b := fun b_ h1_ h2_ k_ => (hx26_ b_ h2_ k_).trans (hR_ b_ h1_ h2_ k_)
  have u27_ : T26_ 1 q13_ = 400 := (hx26_ q13_ (ty_ne u21_ u19_ (by decide)) 1).trans u22_
  exact hret 49 T26_ (upV (upV (upV (upV (upV (upV (upV (upV v_0 80 (upB (v_0 80) o 0)) 81 (upB (v_0 81) o ((-1)))) 83 (upB (v_0 83) o 0)) 84 (upB (v_0 84) o 1)) 86 (upB (v_0 86) o 0)) 123 y123_5) 124 y124_5) 300 y300_13) _ _ ls _ _ hw hoT_ ⟨(upB (v_0 80) o 0), (upB (v_0 81) o ((-1))), (upB (v_0 83) o 0), (upB (v_0 84) o 1), (upB (v_0 86) o 0), y123_5, y124_5, y300_13, rfl, ⟨⟨hR_, tq26_⟩, kd14_⟩⟩ (Nat.le_of_ble_eq_true rfl) (Nat.le_of_ble_eq_true rfl) dX3_init_49
