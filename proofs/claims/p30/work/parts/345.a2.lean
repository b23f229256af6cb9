set_option maxHeartbeats 4000000 in
set_option maxRecDepth 100000 in
theorem n_X7_init (l : Launch) (D : va_G) (cy : Nat → ClassId) (κ T : Nat → Nat → Nat) (v_0 : Nat → Nat → Int) (o : Nat) (v_n : Int) (a_t : Nat) (a_c : Nat) (sz : Nat) (hO : ∀ x, ow T x → κ 2 2 ≤ x) (t_o : T 0 o = 108) (r_v_n : inR v_n) (t_t : T 0 a_t = 20) (t_c : T 0 a_c = 20) (hp0 : 0 ≤ v_n ∧ v_n ≤ 40) (hp1 : T 3 a_t = 300 * o + 161) (hp2 : T 3 a_c = 300 * o + 162) : KA l D cy κ T yX7_init cX7_init 4 none 2 1 40 [.ref o, .int (J v_n), .ref a_t, .ref a_c] v_0 sz (AV (fun (T_2 : Nat → Nat → Nat) (v_2 : Nat → Nat → Int) => ∃ (y160_2 : Nat → Int) (y300_2 : Nat → Int) , v_2 = upV (upV v_0 160 y160_2) 300 y300_2 ∧ (((∀ b, b < sz → b ≠ o → ∀ k, T_2 k b = T k b) ∧ T_2 0 o = 8 ∧ T_2 161 o = a_t ∧ T_2 162 o = a_c ∧ T_2 1 (T_2 163 o) = (v_n).toNat ∧ (∀ j_, 0 ≤ j_ → j_ < v_n → gC_ (y300_2) (T_2 163 o) j_ = -1) ∧ (y160_2) = upB (v_0 160) o v_n) ∧ KdA_ T sz [] (v_0 300) y300_2))) := by
  refine KA.ofv (by decide) (Nat.le_of_ble_eq_true rfl) hO ?_
  intro p e s m below meth c ls ar QW A0 H locs E hK hZ hA hAc hsz hszH_ hnm hw hlo_ hl hret
  have hl : lv_has ls 4 [(0, .ref o), (1, .int (J v_n)), (2, .ref a_t), (3, .ref a_c)] := hl
  have hT : WT T := hw.1.2.1
  have hoT_ : OW T T s.heap.size := OW.rf T _
  have hC_ : ∀ b, b < sz → T 0 b ≠ 10 → T 0 b ≠ 24 → T 0 b ≠ 26 → b ≠ o → ∀ j, j ≠ 197 → T j b = T j b := fun _ _ _ _ _ _ _ _ => rfl
  have hR_ : ∀ b, b < sz → b ≠ o → ∀ k, T k b = T k b := fun b _ _ k => rfl
  refine j_aload_n E 1 rfl dX7_init_0 rfl (lv_at hl 0 rfl) ?_
  refine W.objInit E.1 E.2.1 E.2.2.2.1 (E.2.2.2.2.1 _ mo_X7_3) (E.2.2.2.2.1 _ im_ob) (E.2.2.2.2.1 _ cd_ob) rfl (by rw [E.2.2.1]; exact hl.1) rfl dX7_init_1 (Nat.le_of_ble_eq_true rfl) (Nat.le_of_ble_eq_true rfl) ?_
  show W p l e (rmd 2 1 40) s m ar below meth c H locs _ _ QW (F0 m 4 ls [])
  refine j_aload_n E 5 rfl dX7_init_4 rfl (lv_at hl 0 rfl) ?_
  refine j_iload_n E 6 rfl dX7_init_5 rfl (lv_at hl 1 rfl) ?_
  refine rp_160 E hK hw hnm fl_X7_9 t_o r_v_n 9 rfl dX7_init_6 (fun H locs hw => ?_)
  have hw : WK D cy T (upV v_0 160 (upB (v_0 160) o v_n)) A0 s.heap H locs := cw_eq hw (by first | rfl | (funext j_; simp only [upV, reduceIte]; (repeat' split) <;> first | rfl | omega | (subst_vars; rfl)))
  refine j_aload_n E 10 rfl dX7_init_9 rfl (lv_at hl 0 rfl) ?_
  refine j_aload_n E 11 rfl dX7_init_10 rfl (lv_at hl 2 rfl) ?_
  have hw0_ := hw
  refine rr_161 E hK hw hnm fl_X7_15 t_o 14 rfl dX7_init_11 (fun T2_ H locs hx2_ hj2_ hk2_ ho2_ hw => ?_)
  have hT2_ : WT T2_ := hw.1.2.1
  have hO2_ : ∀ x, ow T2_ x → κ 2 2 ≤ x := fun x h => hAc x (hw.2.1 x h)
  have hoT_ : OW T T2_ s.heap.size := OW.tr0 hoT_ ho2_
  have hC_ : ∀ b, b < sz → T 0 b ≠ 10 → T 0 b ≠ 24 → T 0 b ≠ 26 → b ≠ o → ∀ j, j ≠ 197 → T2_ j b = T j b := fun b_ h1_ h2_ h3_ h4_ h5_ j_ h6_ => (hx2_ b_ h5_ j_).trans (hC_ b_ h1_ h2_ h3_ h4_ h5_ j_ h6_)
  have hR_ : ∀ b, b < sz → b ≠ o → ∀ k, T2_ k b = T k b := fun b_ h1_ h2_ k_ => (hx2_ b_ h2_ k_).trans (hR_ b_ h1_ h2_ k_)
  have u3_ : T2_ 0 o = 108 := (hj2_ 0 (by decide)).trans t_o
  have u4_ : T2_ 0 a_t = 20 := (hx2_ a_t (ty_ne t_t t_o (by decide)) 0).trans t_t
  have u5_ : T2_ 0 a_c = 20 := (hx2_ a_c (ty_ne t_c t_o (by decide)) 0).trans t_c
  have u6_ : T2_ 3 a_t = 300 * o + 161 := (hx2_ a_t (ty_ne t_t t_o (by decide)) 3).trans hp1
  have u7_ : T2_ 3 a_c = 300 * o + 162 := (hx2_ a_c (ty_ne t_c t_o (by decide)) 3).trans hp2
  refine j_aload_n E 15 rfl dX7_init_14 rfl (lv_at hl 0 rfl) ?_
  refine j_aload_n E 16 rfl dX7_init_15 rfl (lv_at hl 3 rfl) ?_
  have hw0_ := hw
  refine rr_162 E hK hw hnm fl_X7_19 u3_ 19 rfl dX7_init_16 (fun T8_ H locs hx8_ hj8_ hk8_ ho8_ hw => ?_)
  have hT8_ : WT T8_ := hw.1.2.1
  have hO8_ : ∀ x, ow T8_ x → κ 2 2 ≤ x := fun x h => hAc x (hw.2.1 x h)
  have hoT_ : OW T T8_ s.heap.size := OW.tr0 hoT_ ho8_
  have hC_ : ∀ b, b < sz → T 0 b ≠ 10 → T 0 b ≠ 24 → T 0 b ≠ 26 → b ≠ o → ∀ j, j ≠ 197 → T8_ j b = T j b := fun b_ h1_ h2_ h3_ h4_ h5_ j_ h6_ => (hx8_ b_ h5_ j_).trans (hC_ b_ h1_ h2_ h3_ h4_ h5_ j_ h6_)
  have hR_ : ∀ b, b < sz → b ≠ o → ∀ k, T8_ k b = T k b := fun b_ h1_ h2_ k_ => (hx8_ b_ h2_ k_).trans (hR_ b_ h1_ h2_ k_)
  have u9_ : T8_ 0 o = 108 := (hj8_ 0 (by decide)).trans u3_
  have u10_ : T8_ 0 a_t = 20 := (hx8_ a_t (ty_ne u4_ u3_ (by decide)) 0).trans u4_
  have u11_ : T8_ 0 a_c = 20 := (hx8_ a_c (ty_ne u5_ u3_ (by decide)) 0).trans u5_
  have u12_ : T8_ 3 a_t = 300 * o + 161 := (hx8_ a_t (ty_ne u4_ u3_ (by decide)) 3).trans u6_
  have u13_ : T8_ 3 a_c = 300 * o + 162 := (hx8_ a_c (ty_ne u5_ u3_ (by decide)) 3).trans u7_
  have u14_ : T8_ 161 o = a_t + 1 := (hj8_ 161 (by decide)).trans hk2_
  refine j_aload_n E 20 rfl dX7_init_19 rfl (lv_at hl 0 rfl) ?_
  refine j_iconst E 21 rfl dX7_init_20 ?_
  refine j_iload_n E 22 rfl dX7_init_21 rfl (lv_at hl 1 rfl) ?_
  refine j_max E hl.1 ml_X7_22 (rr (by decide)) r_v_n ⟨Nat.le_of_ble_eq_true rfl, Nat.le_of_ble_eq_true rfl⟩ ⟨Nat.le_of_ble_eq_true rfl, Nat.le_of_ble_eq_true rfl⟩ 25 rfl dX7_init_22 (fun zz15_ rr15_ hh15_ => ?_)
  have hw0_ := hw
  refine n_arr20 E hK hw hA (300 * o + 163) (zz15_).toNat (by omega) (Int.toNat_of_nonneg (by omega)).symm (Nat.le_of_ble_eq_true rfl) (show 0 + (zz15_).toNat ≤ 40 from by omega) 27 rfl dX7_init_25 (fun q16_ T16_ y300_16 H hge16_ hx16_ ho16_ tq16_ tl16_ tw16_ yz16_ yo16_ hw => ?_)
  refine W.widen (Nat.le_refl _) (show 0 + (zz15_).toNat ≤ 40 from by omega) ?_
  have fq16_ : s.heap.size ≤ q16_ := Nat.le_trans hw0_.2.2.1 hge16_
  have hw : WK D cy T16_ (upV (upV v_0 160 (upB (v_0 160) o v_n)) 300 y300_16) A0 s.heap H locs := cw_eq hw (by first | rfl | (funext j_; simp only [upV, reduceIte]; (repeat' split) <;> first | rfl | omega | (subst_vars; rfl)))
  have yo16_ : ∀ b, b ≠ q16_ → ∀ i, y300_16 (pr b i) = v_0 300 (pr b i) := yo16_
  have kd17_ : KdA_ T sz [] (v_0 300) (y300_16) := KdA_tr KdA_rf (KdA_new yo16_ (by omega))
  have hT16_ : WT T16_ := hw.1.2.1
  have hO16_ : ∀ x, ow T16_ x → κ 2 2 ≤ x := fun x h => hAc x (hw.2.1 x h)
  have hoT_ : OW T T16_ s.heap.size := OW.tr hw0_.2.2.1 hoT_ ho16_
  have hC_ : ∀ b, b < sz → T 0 b ≠ 10 → T 0 b ≠ 24 → T 0 b ≠ 26 → b ≠ o → ∀ j, j ≠ 197 → T16_ j b = T j b := fun b_ h1_ h2_ h3_ h4_ h5_ j_ h6_ => (hx16_ b_ (by have := hw0_.2.2.1; have := hge16_; omega) j_).trans (hC_ b_ h1_ h2_ h3_ h4_ h5_ j_ h6_)
  have hR_ : ∀ b, b < sz → b ≠ o → ∀ k, T16_ k b = T k b := fun b_ h1_ h2_ k_ => (hx16_ b_ (by have := hw0_.2.2.1; have := hge16_; omega) k_).trans (hR_ b_ h1_ h2_ k_)
  have u18_ : T16_ 0 o = 108 := (hx16_ o (Nat.ne_of_lt (Nat.lt_of_lt_of_le (cw_lt hw0_.1 u9_ (fun _ _ _ => ⟨_, rfl⟩)) hge16_)) 0).trans u9_
  have u19_ : T16_ 0 a_t = 20 := (hx16_ a_t (Nat.ne_of_lt (Nat.lt_of_lt_of_le (cw_lt hw0_.1 u10_ (fun _ _ _ => ⟨_, rfl⟩)) hge16_)) 0).trans u10_
  have u20_ : T16_ 0 a_c = 20 := (hx16_ a_c (Nat.ne_of_lt (Nat.lt_of_lt_of_le (cw_lt hw0_.1 u11_ (fun _ _ _ => ⟨_, rfl⟩)) hge16_)) 0).trans u11_
  have u21_ : T16_ 3 a_t = 300 * o + 161 := (hx16_ a_t (Nat.ne_of_lt (Nat.lt_of_lt_of_le (cw_lt hw0_.1 u10_ (fun _ _ _ => ⟨_, rfl⟩)) hge16_)) 3).trans u12_
  have u22_ : T16_ 3 a_c = 300 * o + 162 := (hx16_ a_c (Nat.ne_of_lt (Nat.lt_of_lt_of_le (cw_lt hw0_.1 u11_ (fun _ _ _ => ⟨_, rfl⟩)) hge16_)) 3).trans u13_
  have u23_ : T16_ 161 o = a_t + 1 := (hx16_ o (Nat.ne_of_lt (Nat.lt_of_lt_of_le (cw_lt hw0_.1 u9_ (fun _ _ _ => ⟨_, rfl⟩)) hge16_)) 161).trans u14_
  have u24_ : T16_ 162 o = a_c + 1 := (hx16_ o (Nat.ne_of_lt (Nat.lt_of_lt_of_le (cw_lt hw0_.1 u9_ (fun _ _ _ => ⟨_, rfl⟩)) hge16_)) 162).trans hk8_
  have hw0_ := hw
  refine rr_163 E hK hw hnm fl_X7_28 u18_ 30 rfl dX7_init_27 (fun T25_ H locs hx25_ hj25_ hk25_ ho25_ hw => ?_)
  have hT25_ : WT T25_ := hw.1.2.1
  have hO25_ : ∀ x, ow T25_ x → κ 2 2 ≤ x := fun x h => hAc x (hw.2.1 x h)
  have hoT_ : OW T T25_ s.heap.size := OW.tr0 hoT_ ho25_
  have hC_ : ∀ b, b < sz → T 0 b ≠ 10 → T 0 b ≠ 24 → T 0 b ≠ 26 → b ≠ o → ∀ j, j ≠ 197 → T25_ j b = T j b := fun b_ h1_ h2_ h3_ h4_ h5_ j_ h6_ => (hx25_ b_ h5_ j_).trans (hC_ b_ h1_ h2_ h3_ h4_ h5_ j_ h6_)
  have hR_ : ∀ b, b < sz → b ≠ o → ∀ k, T25_ k b = T k b := fun b_ h1_ h2_ k_ => (hx25_ b_ h2_ k_).trans (hR_ b_ h1_ h2_ k_)
  have u26_ : T25_ 0 o = 108 := (hj25_ 0 (by decide)).trans u18_
  have u27_ : T25_ 0 a_t = 20 := (hx25_ a_t (ty_ne u19_ u18_ (by decide)) 0).trans u19_
  have u28_ : T25_ 0 a_c = 20 := (hx25_ a_c (ty_ne u20_ u18_ (by decide)) 0).trans u20_
  have u29_ : T25_ 0 q16_ = 20 := (hx25_ q16_ (ty_ne tq16_ u18_ (by decide)) 0).trans tq16_
  have u30_ : T25_ 1 q16_ = (zz15_).toNat := (hx25_ q16_ (ty_ne tq16_ u18_ (by decide)) 1).trans tl16_
  have u31_ : T25_ 3 a_t = 300 * o + 161 := (hx25_ a_t (ty_ne u19_ u18_ (by decide)) 3).trans u21_
  have u32_ : T25_ 3 a_c = 300 * o + 162 := (hx25_ a_c (ty_ne u20_ u18_ (by decide)) 3).trans u22_
  have u33_ : T25_ 3 q16_ = 300 * o + 163 := (hx25_ q16_ (ty_ne tq16_ u18_ (by decide)) 3).trans tw16_
  have u34_ : T25_ 161 o = a_t + 1 := (hj25_ 161 (by decide)).trans u23_
  have u35_ : T25_ 162 o = a_c + 1 := (hj25_ 162 (by decide)).trans u24_
  have hw0_ := hw
  obtain ⟨T36_, hx36_, tq36_, xe36_161_, xe36_162_, xe36_163_, ho36_, hw⟩ := pm_8 hw u26_ u34_ u27_ u31_ u35_ u28_ u32_ hk25_ u29_ u33_
  have hT36_ : WT T36_ := hw.1.2.1
  have hO36_ : ∀ x, ow T36_ x → κ 2 2 ≤ x := fun x h => hAc x (hw.2.1 x h)
  have hoT_ : OW T T36_ s.heap.size := OW.tr0 hoT_ ho36_
  have hC_ : ∀ b, b < sz → T 0 b ≠ 10 → T 0 b ≠ 24 → T 0 b ≠ 26 → b ≠ o → ∀ j, j ≠ 197 → T36_ j b = T j b := fun b_ h1_ h2_ h3_ h4_ h5_ j_ h6_ => (hx36_ b_ h5_ j_).trans (hC_ b_ h1_ h2_ h3_ h4_ h5_ j_ h6_)
  have hR_ : ∀ b, b < sz → b ≠ o → ∀ k, T36_ k b = T k b := fun b_ h1_ h2_ k_ => (hx36_ b_ h2_ k_).trans (hR_ b_ h1_ h2_ k_)
  have u37_ : T36_ 0 a_t = 20 := (hx36_ a_t (ty_ne u27_ u26_ (by decide)) 0).trans u27_
  have u38_ : T36_ 0 a_c = 20 := (hx36_ a_c (ty_ne u28_ u26_ (by decide)) 0).trans u28_
  have u39_ : T36_ 1 q16_ = (zz15_).toNat := (hx36_ q16_ (ty_ne u29_ u26_ (by decide)) 1).trans u30_
  refine j_aload_n E 31 rfl dX7_init_30 rfl (lv_at hl 0 rfl) ?_
  refine g_163 E hK hw fl_X7_28 tq36_ 34 rfl dX7_init_31 ?_
  refine j_iconst E 35 rfl dX7_init_34 ?_
  refine kS_v E (c_J7_fill_53178 l D cy T36_ (upV (upV v_0 160 (upB (v_0 160) o v_n)) 300 y300_16) (T36_ 163 o) ((-1))   (wt_163 hT36_ tq36_) (rr (by decide)) ) ms_J7_fill_53178 ml_X7_31 hK hw hA ⟨Nat.le_of_ble_eq_true rfl, Nat.le_of_ble_eq_true rfl⟩ ⟨Nat.le_of_ble_eq_true rfl, Nat.le_of_ble_eq_true rfl⟩ (As := [.ref (T36_ 163 o), .int (J ((-1)))]) (rest := []) rfl rfl hl.1 (Nat.le_of_ble_eq_true rfl) 38 rfl dX7_init_35 (fun v_40 H locs hq40_ hw => ?_)
  obtain ⟨y300_40, ev40_, hh40_⟩ := hq40_
  rw [ev40_] at hw; clear ev40_
  have hw : WK D cy T36_ (upV (upV v_0 160 (upB (v_0 160) o v_n)) 300 y300_40) A0 s.heap H locs := cw_eq hw (by first | rfl | (funext j_; simp only [upV, reduceIte]; (repeat' split) <;> first | rfl | omega | (subst_vars; rfl)))
  obtain ⟨hh40_, kf40_⟩ := hh40_
  have kd41_ : KdA_ T sz [] (v_0 300) (y300_40) := KdA_tr kd17_ (KdA_ro kf40_ (by rw [xe36_163_]; have := fq16_; omega))
  replace hh40_ : ∀ j_, 0 ≤ j_ → j_ < (T36_ 1 (T36_ 163 o) : Int) → gC_ (y300_40) (T36_ 163 o) j_ = (-1 : Int) := hh40_
  have fl_ := hh40_
  clear hh40_
  exact hret 38 T36_ (upV (upV v_0 160 (upB (v_0 160) o v_n)) 300 y300_40) _ _ ls _ _ hw hoT_ ⟨(upB (v_0 160) o v_n), y300_40, rfl, ⟨⟨hR_, tq36_, xe36_161_, xe36_162_, by rw [xe36_163_]; exact u39_.trans (by congr 1; omega), fun j_ h1_ h2_ => fl_ j_ h1_ (by rw [xe36_163_, u39_]; omega), rfl⟩, kd41_⟩⟩ (Nat.le_of_ble_eq_true rfl) (Nat.le_of_ble_eq_true rfl) dX7_init_38
set_option maxHeartbeats 4000000 in
set_option maxRecDepth 100000 in
theorem n_X5_copyOfTokens (l : Launch) (D : va_G) (cy : Nat → ClassId) (κ T : Nat → Nat → Nat) (v_0 : Nat → Nat → Int) (o : Nat) (sz : Nat) (w_ : Nat) (hO : ∀ x, ow T x → κ 2 2 ≤ x) (t_o : T 0 o = 6) (hp0 : 0 ≤ (v_0 123 o) ∧ (v_0 123 o) ≤ 400) (hp1 : ∀ i_ : Int, 0 ≤ i_ → i_ < (v_0 123 o) → gC_ (v_0 300) (T 120 o) i_ ≤ 312) : KA l D cy κ T yX5_copyOfTokens cX5_copyOfTokens 3 (some (.array .int)) 2 1 400 [.ref o] v_0 sz (AN (fun (x_0 : Nat) (T_2 : Nat → Nat → Nat) (v_2 : Nat → Nat → Int) => ∃ (y300_2 : Nat → Int) , v_2 = upV v_0 300 y300_2 ∧ (((∀ b, b < sz → ∀ k, T_2 k b = T k b) ∧ T_2 0 x_0 = 20 ∧ T_2 1 x_0 = ((v_0 123 o)).toNat ∧ T_2 3 x_0 = w_ ∧ sz ≤ x_0 ∧ (∀ i_ : Int, 0 ≤ i_ → i_ < (v_0 123 o) → gC_ (y300_2) x_0 i_ = tc_ (gC_ (v_0 300) (T 120 o) i_) (gC_ (v_0 300) (T 121 o) i_)) ∧ True) ∧ KdA_ T sz [] (v_0 300) y300_2))) := by
  refine KA.ofn (Or.inr ⟨_, rfl⟩) (by decide) (Nat.le_of_ble_eq_true rfl) hO ?_
  intro p e s m below meth c ls ar QW A0 H locs E hK hZ hA hAc hsz hszH_ hnm hw hlo_ hl hret
  have hl : lv_has ls 3 [(0, .ref o)] := hl
  have hT : WT T := hw.1.2.1
  have hoT_ : OW T T s.heap.size := OW.rf T _
  have hC_ : ∀ b, b < sz → T 0 b ≠ 10 → T 0 b ≠ 24 → T 0 b ≠ 26 → b ≠ o → ∀ j, j ≠ 197 → T j b = T j b := fun _ _ _ _ _ _ _ _ => rfl
  have hR_ : ∀ b, b < sz → ∀ k, T k b = T k b := fun b _ k => rfl
  refine j_iconst E 1 rfl dX5_copyOfTokens_0 ?_
  refine j_aload_n E 2 rfl dX5_copyOfTokens_1 rfl (lv_at hl 0 rfl) ?_
  refine g_123 E hK hw fl_X5_21 t_o (v_0 123 o) rfl 5 rfl dX5_copyOfTokens_2 (fun rr1_ => ?_)
  refine j_max E hl.1 ml_X5_34 (rr (by decide)) rr1_ ⟨Nat.le_of_ble_eq_true rfl, Nat.le_of_ble_eq_true rfl⟩ ⟨Nat.le_of_ble_eq_true rfl, Nat.le_of_ble_eq_true rfl⟩ 8 rfl dX5_copyOfTokens_5 (fun zz2_ rr2_ hh2_ => ?_)
  have hw0_ := hw
  refine n_arr20 E hK hw hA w_ (zz2_).toNat (by omega) (Int.toNat_of_nonneg (by omega)).symm (Nat.le_of_ble_eq_true rfl) (show 0 + (zz2_).toNat ≤ 400 from by omega) 10 rfl dX5_copyOfTokens_8 (fun q3_ T3_ y300_3 H hge3_ hx3_ ho3_ tq3_ tl3_ tw3_ yz3_ yo3_ hw => ?_)
  refine W.widen (Nat.le_refl _) (show 0 + (zz2_).toNat ≤ 400 from by omega) ?_
  have fq3_ : s.heap.size ≤ q3_ := Nat.le_trans hw0_.2.2.1 hge3_
  have hw : WK D cy T3_ (upV v_0 300 y300_3) A0 s.heap H locs := cw_eq hw (by first | rfl | (funext j_; simp only [upV, reduceIte]; (repeat' split) <;> first | rfl | omega | (subst_vars; rfl)))
  have yo3_ : ∀ b, b ≠ q3_ → ∀ i, y300_3 (pr b i) = v_0 300 (pr b i) := yo3_
  have kd4_ : KdA_ T sz [] (v_0 300) (y300_3) := KdA_tr KdA_rf (KdA_new yo3_ (by omega))
  have yo_ := yo3_
  have yq_ : q3_ ≠ T 120 o ∧ q3_ ≠ T 121 o := ⟨fun e_ => by have := cw_lt hw0_.1 (wt_120 hT t_o) (fun _ _ _ => ⟨_, rfl⟩); omega, fun e_ => by have := cw_lt hw0_.1 (wt_121 hT t_o) (fun _ _ _ => ⟨_, rfl⟩); omega⟩
  have hT3_ : WT T3_ := hw.1.2.1
  have hO3_ : ∀ x, ow T3_ x → κ 2 2 ≤ x := fun x h => hAc x (hw.2.1 x h)
  have hoT_ : OW T T3_ s.heap.size := OW.tr hw0_.2.2.1 hoT_ ho3_
  have hC_ : ∀ b, b < sz → T 0 b ≠ 10 → T 0 b ≠ 24 → T 0 b ≠ 26 → b ≠ o → ∀ j, j ≠ 197 → T3_ j b = T j b := fun b_ h1_ h2_ h3_ h4_ h5_ j_ h6_ => (hx3_ b_ (by have := hw0_.2.2.1; have := hge3_; omega) j_).trans (hC_ b_ h1_ h2_ h3_ h4_ h5_ j_ h6_)
  have hR_ : ∀ b, b < sz → ∀ k, T3_ k b = T k b := fun b_ h1_ k_ => (hx3_ b_ (by have := hw0_.2.2.1; have := hge3_; omega) k_).trans (hR_ b_ h1_ k_)
  have u5_ : T3_ 0 o = 6 := (hx3_ o (Nat.ne_of_lt (Nat.lt_of_lt_of_le (cw_lt hw0_.1 t_o (fun _ _ _ => ⟨_, rfl⟩)) hge3_)) 0).trans t_o
  have u6_ : T3_ 120 o = T 120 o := (hx3_ o (Nat.ne_of_lt (Nat.lt_of_lt_of_le (cw_lt hw0_.1 t_o (fun _ _ _ => ⟨_, rfl⟩)) hge3_)) 120).trans rfl
  have u7_ : T3_ 121 o = T 121 o := (hx3_ o (Nat.ne_of_lt (Nat.lt_of_lt_of_le (cw_lt hw0_.1 t_o (fun _ _ _ => ⟨_, rfl⟩)) hge3_)) 121).trans rfl
  refine j_astore_n E 11 rfl [(1, .ref q3_), (0, .ref o)] dX5_copyOfTokens_10 rfl hl (by decide) rfl (fun ls hl => ?_)
  refine j_iconst E 12 rfl dX5_copyOfTokens_11 ?_
  refine j_istore_n E 13 rfl [(2, .int (J 0)), (1, .ref q3_), (0, .ref o)] dX5_copyOfTokens_12 rfl hl (by decide) rfl (fun ls hl => ?_)
  have L13_8 : ∀ (k13 : Nat) (l2_13 : Int) (y300_c13 : Nat → Int) (H : Heap) (locs : List Loc) (ls : Array Slot), inR l2_13 → (((0 ≤ l2_13 ∧ l2_13 ≤ (v_0 123 o)) ∧ (∀ i_ : Int, 0 ≤ i_ → i_ < l2_13 → gC_ (y300_c13) q3_ i_ = tc_ (gC_ (v_0 300) (T 120 o) i_) (gC_ (v_0 300) (T 121 o) i_)) ∧ (∀ b_, b_ ≠ q3_ → ∀ i_, (y300_c13) (pr b_ i_) = v_0 300 (pr b_ i_))) ∧ KdA_ T sz [] (v_0 300) y300_c13) → ((T3_ 1 q3_ : Int) - l2_13).toNat < k13 → WK D cy T3_ (upV v_0 300 y300_c13) A0 s.heap H locs → lv_has ls 3 [(0, .ref o), (1, .ref q3_), (2, .int (J l2_13))] → W p l e (rmd 2 1 400) s m ar below meth c H locs 1 400 QW (F0 m 13 ls []) := by
    intro k13
    induction k13 with
    | zero =>
      intro l2_13 y300_c13 H locs ls r_l2_13 iv13 ms13 hw hl
      exact absurd ms13 (Nat.not_lt_zero _)
    | succ k13 ih13 =>
      intro l2_13 y300_c13 H locs ls r_l2_13 iv13 ms13 hw hl
      obtain ⟨iv13, ik13_⟩ := iv13
      refine j_iload_n E 14 rfl dX5_copyOfTokens_13 rfl (lv_at hl 2 rfl) ?_
      refine j_aload_n E 15 rfl dX5_copyOfTokens_14 rfl (lv_at hl 1 rfl) ?_
      refine a_ln20 E hK hw tq3_ 16 rfl dX5_copyOfTokens_15 (fun rr10_ => ?_)
      refine j_icmp_ge E 19 54 rfl r_l2_13 rr10_ dX5_copyOfTokens_16 (by decide) (fun cc11_ => ?_) (fun cc11_ => ?_)
      · refine j_aload_n E 55 rfl dX5_copyOfTokens_54 rfl (lv_at hl 1 rfl) ?_
        exact hret 55 q3_ T3_ (upV v_0 300 y300_c13) _ _ ls _ _ hw hoT_ ⟨y300_c13, rfl, ⟨⟨hR_, tq3_, by rw [tl3_]; congr 1; omega, tw3_, by have := fq3_; omega, fun i_ h1_ h2_ => iv13.2.1 i_ h1_ (by omega), trivial⟩, ik13_⟩⟩ (Nat.le_of_ble_eq_true rfl) (Nat.le_of_ble_eq_true rfl) dX5_copyOfTokens_55
      · refine j_aload_n E 20 rfl dX5_copyOfTokens_19 rfl (lv_at hl 1 rfl) ?_
        refine j_iload_n E 21 rfl dX5_copyOfTokens_20 rfl (lv_at hl 2 rfl) ?_
        have L47_12 : ∀ (s0_47 : Int) (H : Heap) (locs : List Loc) (ls : Array Slot), inR s0_47 → (s0_47 = tc_ (gC_ (v_0 300) (T 120 o) l2_13) (gC_ (v_0 300) (T 121 o) l2_13)) → WK D cy T3_ (upV v_0 300 y300_c13) A0 s.heap H locs → lv_has ls 3 [(0, .ref o), (1, .ref q3_), (2, .int (J l2_13))] → W p l e (rmd 2 1 400) s m ar below meth c H locs 1 400 QW (F0 m 47 ls [.int (J s0_47), .int (J l2_13), .ref q3_]) := by
          intro s0_47 H locs ls r_s0_47 iv47 hw hl
          refine a_st20 E hK hw tq3_ r_s0_47 (by omega) 48 rfl dX5_copyOfTokens_47 (fun H locs hw => ?_)
          have hw : WK D cy T3_ (upV v_0 300 (upB y300_c13 ((pr q3_ (Int.toNat l2_13))) s0_47)) A0 s.heap H locs := cw_eq hw (by first | rfl | (funext j_; simp only [upV, reduceIte]; (repeat' split) <;> first | rfl | omega | (subst_vars; rfl)))
          refine j_iinc E 51 rfl [(2, .int (J (l2_13 + 1))), (0, .ref o), (1, .ref q3_)] dX5_copyOfTokens_48 hl (kk := 2) rfl (by decide) rfl (fun ls hl => ?_)
          refine j_goto E 13 dX5_copyOfTokens_51 (by decide) ?_
          exact ih13 (l2_13 + 1) (upB y300_c13 ((pr q3_ (Int.toNat l2_13))) s0_47) H locs ls (rr (by omega)) (⟨⟨by omega, tk_st iv13.2.1 (by omega) iv47, fun b_ h_ i_ => (upB_ne (fun e_ => h_ (pr_inj e_).1)).trans (iv13.2.2 b_ h_ i_)⟩, (KdA_tr ik13_ (KdA_fr (by have := fq3_; omega)))⟩) (by omega) hw (lv_sub hl [1, 2, 0] rfl)
        refine j_aload_n E 22 rfl dX5_copyOfTokens_21 rfl (lv_at hl 0 rfl) ?_
        refine j_iload_n E 23 rfl dX5_copyOfTokens_22 rfl (lv_at hl 2 rfl) ?_
        refine kV_i E (c_X5_kindAt l D cy T3_ (upV v_0 300 y300_c13) o l2_13  u5_ r_l2_13 (show 0 ≤ ((v_0 123) o) ∧ ((v_0 123) o) ≤ 400 from by omega)) mt_X5_kindAt ml_X5_64 hK hw (cw_rc6 hK hw.1 u5_) hA ⟨Nat.le_of_ble_eq_true rfl, Nat.le_of_ble_eq_true rfl⟩ ⟨Nat.le_of_ble_eq_true rfl, Nat.le_of_ble_eq_true rfl⟩ (As := [.int (J l2_13)]) (rest := [.int (J l2_13), .ref q3_]) rfl rfl hl.1 (Nat.le_of_ble_eq_true rfl) 26 rfl dX5_copyOfTokens_23 (fun zz15_ v_15 H locs rr15_ hq15_ hw => ?_)
        obtain ⟨ev15_, hh15_⟩ := hq15_
        rw [ev15_] at hw; clear ev15_
        replace hh15_ : (0 ≤ l2_13 ∧ l2_13 < ((v_0 123) o) ∧ zz15_ = gC_ (y300_c13) (T3_ 120 o) l2_13) ∨ (¬ (0 ≤ l2_13 ∧ l2_13 < ((v_0 123) o)) ∧ zz15_ = 1) := hh15_
        have ka_ : zz15_ = gC_ (v_0 300) (T 120 o) l2_13 := by rcases hh15_ with q_ | q_; (rw [q_.2.2, u6_]; exact iv13.2.2 _ yq_.1.symm _); (exfalso; omega)
        refine j_iconst E 27 rfl dX5_copyOfTokens_26 ?_
        refine j_icmp_ne E 30 38 rfl rr15_ (rr (by decide)) dX5_copyOfTokens_27 (by decide) (fun cc16_ => ?_) (fun cc16_ => ?_)
        · refine j_sipush E 41 rfl dX5_copyOfTokens_38 (by decide) ?_
          refine j_aload_n E 42 rfl dX5_copyOfTokens_41 rfl (lv_at hl 0 rfl) ?_
          refine j_iload_n E 43 rfl dX5_copyOfTokens_42 rfl (lv_at hl 2 rfl) ?_
          refine kV_i E (c_X5_kindAt l D cy T3_ (upV v_0 300 y300_c13) o l2_13  u5_ r_l2_13 (show 0 ≤ ((v_0 123) o) ∧ ((v_0 123) o) ≤ 400 from by omega)) mt_X5_kindAt ml_X5_64 hK hw (cw_rc6 hK hw.1 u5_) hA ⟨Nat.le_of_ble_eq_true rfl, Nat.le_of_ble_eq_true rfl⟩ ⟨Nat.le_of_ble_eq_true rfl, Nat.le_of_ble_eq_true rfl⟩ (As := [.int (J l2_13)]) (rest := [.int (J 10000), .int (J l2_13), .ref q3_]) rfl rfl hl.1 (Nat.le_of_ble_eq_true rfl) 46 rfl dX5_copyOfTokens_43 (fun zz17_ v_17 H locs rr17_ hq17_ hw => ?_)
          obtain ⟨ev17_, hh17_⟩ := hq17_
          rw [ev17_] at hw; clear ev17_
          replace hh17_ : (0 ≤ l2_13 ∧ l2_13 < ((v_0 123) o) ∧ zz17_ = gC_ (y300_c13) (T3_ 120 o) l2_13) ∨ (¬ (0 ≤ l2_13 ∧ l2_13 < ((v_0 123) o)) ∧ zz17_ = 1) := hh17_
          have ka_ : zz17_ = gC_ (v_0 300) (T 120 o) l2_13 := by rcases hh17_ with q_ | q_; (rw [q_.2.2, u6_]; exact iv13.2.2 _ yq_.1.symm _); (exfalso; omega)
          have kb_ : zz17_ ≤ 312 := by rw [ka_]; exact hp1 l2_13 (by omega) (by omega)
          refine j_iadd E 47 rfl dX5_copyOfTokens_46 ?_
          exact L47_12 (10000 + zz17_)  H locs ls (rr (by omega)) (by first | (rw [← ka_, ← va_]; exact (tc_3 (by omega)).symm) | (rw [← ka_, tc_n (by omega)])) hw (lv_sub hl [0, 1, 2] rfl)
        · refine j_aload_n E 31 rfl dX5_copyOfTokens_30 rfl (lv_at hl 0 rfl) ?_
          refine j_iload_n E 32 rfl dX5_copyOfTokens_31 rfl (lv_at hl 2 rfl) ?_
          refine kV_i E (c_X5_valueAt l D cy T3_ (upV v_0 300 y300_c13) o l2_13  u5_ r_l2_13 (show 0 ≤ ((v_0 123) o) ∧ ((v_0 123) o) ≤ 400 from by omega)) mt_X5_valueAt ml_X5_68 hK hw (cw_rc6 hK hw.1 u5_) hA ⟨Nat.le_of_ble_eq_true rfl, Nat.le_of_ble_eq_true rfl⟩ ⟨Nat.le_of_ble_eq_true rfl, Nat.le_of_ble_eq_true rfl⟩ (As := [.int (J l2_13)]) (rest := [.int (J l2_13), .ref q3_]) rfl rfl hl.1 (Nat.le_of_ble_eq_true rfl) 35 rfl dX5_copyOfTokens_32 (fun zz18_ v_18 H locs rr18_ hq18_ hw => ?_)
          obtain ⟨ev18_, hh18_⟩ := hq18_
          rw [ev18_] at hw; clear ev18_
          replace hh18_ : (0 ≤ l2_13 ∧ l2_13 < ((v_0 123) o) ∧ zz18_ = gC_ (y300_c13) (T3_ 121 o) l2_13) ∨ (¬ (0 ≤ l2_13 ∧ l2_13 < ((v_0 123) o)) ∧ zz18_ = 0) := hh18_
          have va_ : zz18_ = gC_ (v_0 300) (T 121 o) l2_13 := by rcases hh18_ with q_ | q_; (rw [q_.2.2, u7_]; exact iv13.2.2 _ yq_.2.symm _); (exfalso; omega)
          refine j_goto E 47 dX5_copyOfTokens_35 (by decide) ?_
          exact L47_12 zz18_  H locs ls rr18_ (by first | (rw [← ka_, ← va_]; exact (tc_3 (by omega)).symm) | (rw [← ka_, tc_n (by omega)])) hw (lv_sub hl [0, 1, 2] rfl)
  exact L13_8 _ 0 y300_3 H locs ls (rr (by decide)) (⟨⟨by omega, fun i_ h1_ h2_ => absurd h2_ (by omega), yo_⟩, kd4_⟩) (Nat.lt_succ_self _) hw (lv_sub hl [2, 1, 0] rfl)
set_option maxHeartbeats 4000000 in
set_option maxRecDepth 100000 in
theorem n_X3_copyOfTokens (l : Launch) (D : va_G) (cy : Nat → ClassId) (κ T : Nat → Nat → Nat) (v_0 : Nat → Nat → Int) (o : Nat) (sz : Nat) (w_ : Nat) (hO : ∀ x, ow T x → κ 2 2 ≤ x) (t_o : T 0 o = 4) (hp0 : 0 ≤ (v_0 123 (T 82 o)) ∧ (v_0 123 (T 82 o)) ≤ 400) (hp1 : ∀ i_ : Int, 0 ≤ i_ → i_ < (v_0 123 (T 82 o)) → gC_ (v_0 300) (T 120 (T 82 o)) i_ ≤ 312) : KA l D cy κ T yX3_copyOfTokens cX3_copyOfTokens 1 (some (.array .int)) 3 1 400 [.ref o] v_0 sz (AN (fun (x_0 : Nat) (T_2 : Nat → Nat → Nat) (v_2 : Nat → Nat → Int) => ∃ (y300_2 : Nat → Int) , v_2 = upV v_0 300 y300_2 ∧ (((∀ b, b < sz → ∀ k, T_2 k b = T k b) ∧ T_2 0 x_0 = 20 ∧ T_2 1 x_0 = ((v_0 123 (T 82 o))).toNat ∧ T_2 3 x_0 = w_ ∧ sz ≤ x_0 ∧ (∀ i_ : Int, 0 ≤ i_ → i_ < (v_0 123 (T 82 o)) → gC_ (y300_2) x_0 i_ = tc_ (gC_ (v_0 300) (T 120 (T 82 o)) i_) (gC_ (v_0 300) (T 121 (T 82 o)) i_)) ∧ True) ∧ KdA_ T sz [] (v_0 300) y300_2))) := by
  refine KA.ofn (Or.inr ⟨_, rfl⟩) (by decide) (Nat.le_of_ble_eq_true rfl) hO ?_
  intro p e s m below meth c ls ar QW A0 H locs E hK hZ hA hAc hsz hszH_ hnm hw hlo_ hl hret
  have hl : lv_has ls 1 [(0, .ref o)] := hl
  have hT : WT T := hw.1.2.1
  have hoT_ : OW T T s.heap.size := OW.rf T _
  have hC_ : ∀ b, b < sz → T 0 b ≠ 10 → T 0 b ≠ 24 → T 0 b ≠ 26 → b ≠ o → ∀ j, j ≠ 197 → T j b = T j b := fun _ _ _ _ _ _ _ _ => rfl
  have hR_ : ∀ b, b < sz → ∀ k, T k b = T k b := fun b _ k => rfl
  refine j_aload_n E 1 rfl dX3_copyOfTokens_0 rfl (lv_at hl 0 rfl) ?_
  refine g_82 E hK hw fl_X3_21 t_o 4 rfl dX3_copyOfTokens_1 ?_
  have hw0_ := hw
  refine aV_n E (n_X5_copyOfTokens l D cy κ T (v_0) (T 82 o) H.size w_ hO (wt_82 hT t_o)  (show 0 ≤ ((v_0 123) ((T 82 o))) ∧ ((v_0 123) ((T 82 o))) ≤ 400 from by first | omega | (simp only [upB_same]; omega)) (show ∀ i_ : Int, 0 ≤ i_ → i_ < ((v_0 123) ((T 82 o))) → gC_ (v_0 300) (T 120 (T 82 o)) i_ ≤ 312 from hp1)) mt_X5_copyOfTokens ml_X3_69 hK hZ hAc hw (cw_rc6 hK hw.1 (wt_82 hT t_o)) hA ⟨(Nat.le_of_ble_eq_true rfl), (Nat.le_of_ble_eq_true rfl)⟩ ⟨(Nat.le_of_ble_eq_true rfl), (Nat.le_of_ble_eq_true rfl)⟩ (As := []) (rest := []) rfl rfl hl.1 (Nat.le_of_ble_eq_true rfl) 7 rfl dX3_copyOfTokens_4 (fun xx1_ T1_ v_1 H locs hge1_ ho1_ hq1_ hw => ?_)
  obtain ⟨y300_1, ev1_, hh1_⟩ := hq1_
  rw [ev1_] at hw; clear ev1_
  obtain ⟨hh1_, kf1_⟩ := hh1_
  have kd2_ : KdA_ T sz [] (v_0 300) (y300_1) := KdA_tr KdA_rf (KdA_ka kf1_ (by have := hw0_.2.2.1; omega) (by decide) (C20_ hC_ t_o (by decide)))
  have hw : WK D cy T1_ (upV v_0 300 y300_1) A0 s.heap H locs := cw_eq hw (by first | rfl | (funext j_; simp only [upV, reduceIte]; (repeat' split) <;> first | rfl | omega | (subst_vars; rfl)))
  obtain ⟨hx1_, tq1_, tl1_, tw1_, hs1_, yc1_, yo1_⟩ := hh1_
  have tl_ := tl1_
  have yc_ := yc1_
  have yo_ := yo1_
  have hs_ := hs1_
  have kf_ := kf1_
  have hT1_ : WT T1_ := hw.1.2.1
  have hO1_ : ∀ x, ow T1_ x → κ 2 2 ≤ x := fun x h => hAc x (hw.2.1 x h)
  have hoT_ : OW T T1_ s.heap.size := OW.tr hw0_.2.2.1 hoT_ ho1_
  have hC_ : ∀ b, b < sz → T 0 b ≠ 10 → T 0 b ≠ 24 → T 0 b ≠ 26 → b ≠ o → ∀ j, j ≠ 197 → T1_ j b = T j b := fun b_ h1_ h2_ h3_ h4_ h5_ j_ h6_ => (hx1_ b_ (by have := hw0_.2.2.1; omega) j_).trans (hC_ b_ h1_ h2_ h3_ h4_ h5_ j_ h6_)
  have hR_ : ∀ b, b < sz → ∀ k, T1_ k b = T k b := fun b_ h1_ k_ => (hx1_ b_ (by have := hw0_.2.2.1; omega) k_).trans (hR_ b_ h1_ k_)
  have u3_ : T1_ 0 o = 4 := (hx1_ o (cw_lt hw0_.1 t_o (fun _ _ _ => ⟨_, rfl⟩)) 0).trans t_o
  have fx1_ : s.heap.size ≤ xx1_ := Nat.le_trans hw0_.2.2.1 hs1_
  exact hret 7 xx1_ T1_ (upV v_0 300 y300_1) _ _ ls _ _ hw hoT_ ⟨y300_1, rfl, ⟨⟨hR_, tq1_, tl_, tw1_, by have := fx1_; omega, yc_, trivial⟩, kd2_⟩⟩ (Nat.le_of_ble_eq_true rfl) (Nat.le_of_ble_eq_true rfl) dX3_copyOfTokens_7
set_option maxHeartbeats 4000000 in
set_option maxRecDepth 100000 in
theorem n_X3_copyOfCode (l : Launch) (D : va_G) (cy : Nat → ClassId) (κ T : Nat → Nat → Nat) (v_0 : Nat → Nat → Int) (o : Nat) (sz : Nat) (w_ : Nat) (hO : ∀ x, ow T x → κ 2 2 ≤ x) (t_o : T 0 o = 4) (hp0 : 0 ≤ (v_0 86 o) ∧ (v_0 86 o) ≤ 400) : KA l D cy κ T yX3_copyOfCode cX3_copyOfCode 1 (some (.array .int)) 3 1 400 [.ref o] v_0 sz (AN (fun (x_0 : Nat) (T_2 : Nat → Nat → Nat) (v_2 : Nat → Nat → Int) => ∃ (y300_2 : Nat → Int) , v_2 = upV v_0 300 y300_2 ∧ (((∀ b, b < sz → ∀ k, T_2 k b = T k b) ∧ T_2 0 x_0 = 20 ∧ T_2 1 x_0 = ((v_0 86 o)).toNat ∧ T_2 3 x_0 = w_ ∧ sz ≤ x_0 ∧ (∀ i_ : Nat, (i_ : Int) < (v_0 86 o) → (y300_2) (pr x_0 i_) = (v_0 300) (pr (T 85 o) i_)) ∧ True) ∧ KdA_ T sz [] (v_0 300) y300_2))) := by
  refine KA.ofn (Or.inr ⟨_, rfl⟩) (by decide) (Nat.le_of_ble_eq_true rfl) hO ?_
  intro p e s m below meth c ls ar QW A0 H locs E hK hZ hA hAc hsz hszH_ hnm hw hlo_ hl hret
  have hl : lv_has ls 1 [(0, .ref o)] := hl
  have hT : WT T := hw.1.2.1
  have hoT_ : OW T T s.heap.size := OW.rf T _
  have hC_ : ∀ b, b < sz → T 0 b ≠ 10 → T 0 b ≠ 24 → T 0 b ≠ 26 → b ≠ o → ∀ j, j ≠ 197 → T j b = T j b := fun _ _ _ _ _ _ _ _ => rfl
  have hR_ : ∀ b, b < sz → ∀ k, T k b = T k b := fun b _ k => rfl
  refine j_aload_n E 1 rfl dX3_copyOfCode_0 rfl (lv_at hl 0 rfl) ?_
  refine g_85 E hK hw fl_X3_33 t_o 4 rfl dX3_copyOfCode_1 ?_
  have ln1_ := wl_85 hT t_o
  refine j_iconst E 5 rfl dX3_copyOfCode_4 ?_
  refine j_aload_n E 6 rfl dX3_copyOfCode_5 rfl (lv_at hl 0 rfl) ?_
  refine g_86 E hK hw fl_X3_37 t_o (v_0 86 o) rfl 9 rfl dX3_copyOfCode_6 (fun rr2_ => ?_)
  refine j_max E hl.1 ml_X3_73 (rr (by decide)) rr2_ ⟨Nat.le_of_ble_eq_true rfl, Nat.le_of_ble_eq_true rfl⟩ ⟨Nat.le_of_ble_eq_true rfl, Nat.le_of_ble_eq_true rfl⟩ 12 rfl dX3_copyOfCode_9 (fun zz3_ rr3_ hh3_ => ?_)
  have hw0_ := hw
  refine aS_n E (n_J7_copyOf_59c91 l D cy κ T (v_0) (T 85 o) zz3_ H.size w_ hO  (wt_85 hT t_o) rr3_ (show 0 ≤ zz3_ ∧ zz3_ ≤ 400 from by omega)) ms_J7_copyOf_59c91 ml_X3_79 hK hZ hAc hw hA ⟨(Nat.le_of_ble_eq_true rfl), (Nat.le_of_ble_eq_true rfl)⟩ ⟨(Nat.le_of_ble_eq_true rfl), (Nat.le_of_ble_eq_true rfl)⟩ (As := [.ref (T 85 o), .int (J zz3_)]) (rest := []) rfl rfl hl.1 (Nat.le_of_ble_eq_true rfl) 15 rfl dX3_copyOfCode_12 (fun xx4_ T4_ v_4 H locs hge4_ ho4_ hq4_ hw => ?_)
  obtain ⟨y300_4, ev4_, hh4_⟩ := hq4_
  rw [ev4_] at hw; clear ev4_
  have hw : WK D cy T4_ (upV v_0 300 y300_4) A0 s.heap H locs := cw_eq hw (by first | rfl | (funext j_; simp only [upV, reduceIte]; (repeat' split) <;> first | rfl | omega | (subst_vars; rfl)))
  obtain ⟨hx4_, tq4_, tl4_, tw4_, hs4_, yc4_, yo4_⟩ := hh4_
  have tl_ := tl4_
  have yc_ := yc4_
  have yo_ := yo4_
  have hs_ := hs4_
  have kd5_ : KdA_ T sz [] (v_0 300) (y300_4) := KdA_tr KdA_rf (KdA_new yo4_ (by have := hw0_.2.2.1; omega))
  have hT4_ : WT T4_ := hw.1.2.1
  have hO4_ : ∀ x, ow T4_ x → κ 2 2 ≤ x := fun x h => hAc x (hw.2.1 x h)
  have hoT_ : OW T T4_ s.heap.size := OW.tr hw0_.2.2.1 hoT_ ho4_
  have hC_ : ∀ b, b < sz → T 0 b ≠ 10 → T 0 b ≠ 24 → T 0 b ≠ 26 → b ≠ o → ∀ j, j ≠ 197 → T4_ j b = T j b := fun b_ h1_ h2_ h3_ h4_ h5_ j_ h6_ => (hx4_ b_ (by have := hw0_.2.2.1; omega) j_).trans (hC_ b_ h1_ h2_ h3_ h4_ h5_ j_ h6_)
  have hR_ : ∀ b, b < sz → ∀ k, T4_ k b = T k b := fun b_ h1_ k_ => (hx4_ b_ (by have := hw0_.2.2.1; omega) k_).trans (hR_ b_ h1_ k_)
  have u6_ : T4_ 0 o = 4 := (hx4_ o (cw_lt hw0_.1 t_o (fun _ _ _ => ⟨_, rfl⟩)) 0).trans t_o
  have fx4_ : s.heap.size ≤ xx4_ := Nat.le_trans hw0_.2.2.1 hs4_
  exact hret 15 xx4_ T4_ (upV v_0 300 y300_4) _ _ ls _ _ hw hoT_ ⟨y300_4, rfl, ⟨⟨hR_, tq4_, tl_.trans (by congr 1; omega), tw4_, by have := fx4_; omega, fun i_ h_ => yc_ i_ (by omega) (by rw [wl_85 hT t_o]; omega), trivial⟩, kd5_⟩⟩ (Nat.le_of_ble_eq_true rfl) (Nat.le_of_ble_eq_true rfl) dX3_copyOfCode_15
