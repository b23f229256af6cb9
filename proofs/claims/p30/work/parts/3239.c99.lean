set_option maxHeartbeats 4000000 in
set_option maxRecDepth 100000 in
theorem c_X3_read (l : Launch) (D : va_G) (cy : Nat → ClassId) (T : Nat → Nat → Nat) (v_0 : Nat → Nat → Int) (κ : Nat → Nat → Nat) (o : Nat) (a_t : Nat) (v_n : Int) (hO : ∀ x, ow T x → κ 2 2 ≤ x) (t_o : T 0 o = 4) (t_t : T 0 a_t = 23) (r_v_n : inR v_n) (hp0 : 0 ≤ v_n ∧ v_n ≤ (T 1 a_t : Int) ∧ (T 1 a_t : Int) ≤ 400) : KZ l D cy κ T yX3_read cX3_read 3 (some .boolean) 23 [.ref o, .ref a_t, .int (J v_n)] v_0 (KI (fun (z_0 : Int) (v_2 : Nat → Nat → Int) => ∃ (y80_2 : Nat → Int) (y81_2 : Nat → Int) (y83_2 : Nat → Int) (y84_2 : Nat → Int) (y86_2 : Nat → Int) (y123_2 : Nat → Int) (y124_2 : Nat → Int) (y300_2 : Nat → Int) , v_2 = upV (upV (upV (upV (upV (upV (upV (upV v_0 80 y80_2) 81 y81_2) 83 y83_2) 84 y84_2) 86 y86_2) 123 y123_2) 124 y124_2) 300 y300_2 ∧ (((0 ≤ (y86_2 o) ∧ (y86_2 o) ≤ 400) ∧ (0 ≤ (y123_2 (T 82 o)) ∧ (y123_2 (T 82 o)) ≤ 400) ∧ ∃ K_ V_ P_ Q_ : Int → Int, Strm_ (gC_ (v_0 303) a_t) v_n K_ V_ P_ Q_ ∧ ((z_0 = 1 ∧ (y80_2 o) = 0 ∧ (y81_2 o) = -1 ∧ RK_ (y300_2) (T 120 (T 82 o)) (T 121 (T 82 o)) ((y123_2 (T 82 o))) K_ V_ ∧ ∃ (jn_ : Int) (s1_ s2_ s3_ : List Int), 0 ≤ jn_ ∧ Ra_ K_ V_ 9 jn_ [s3_, s2_, s1_] ∧ lL_ (gC_ (y300_2) (T 85 o)) 0 ((y86_2 o)) = s1_ ++ (wh_ s2_ ++ ul_ s3_) ∧ K_ jn_ = 1) ∨ (z_0 = 0 ∧ (1 ≤ (y80_2 o) ∧ (y80_2 o) ≤ 3) ∧ ∃ jn_ : Int, (y81_2 o) = P_ jn_ ∧ Rf_ K_ V_ ((y80_2 o)) jn_))) ∧ Kd_ T [85, 120, 121, 122] (v_0 300) y300_2))) := by
  refine KZ.ofz (by decide) (Nat.le_of_ble_eq_true rfl) hO ?_
  intro p e s m below meth c ls ar QW A0 H locs E hK hZ hA hAc hw hl hret
  have hl : lv_has ls 3 [(0, .ref o), (1, .ref a_t), (2, .int (J v_n))] := hl
  have hT : WT T := hw.1.2.1
  have nk_ : T 120 (T 82 o) ≠ T 85 o := ro_ne (wo_120 hT (wt_82 hT t_o)) (wo_85 hT t_o) (by decide) (by decide) (by omega)
  have nv_ : T 121 (T 82 o) ≠ T 85 o := ro_ne (wo_121 hT (wt_82 hT t_o)) (wo_85 hT t_o) (by decide) (by decide) (by omega)
  have np_ : T 122 (T 82 o) ≠ T 85 o := ro_ne (wo_122 hT (wt_82 hT t_o)) (wo_85 hT t_o) (by decide) (by decide) (by omega)
  refine j_aload_n E 1 rfl dX3_read_0 rfl (lv_at hl 0 rfl) ?_
  refine g_82 E hK hw fl_X3_21 t_o 4 rfl dX3_read_1 ?_
  refine j_aload_n E 5 rfl dX3_read_4 rfl (lv_at hl 1 rfl) ?_
  refine j_iload_n E 6 rfl dX3_read_5 rfl (lv_at hl 2 rfl) ?_
  refine zV_v E (c_X5_scan l D cy T (v_0) κ (T 82 o) a_t v_n  hO (wt_82 hT t_o) t_t r_v_n (show 0 ≤ v_n ∧ v_n ≤ (T 1 a_t : Int) ∧ (T 1 a_t : Int) ≤ 400 from by omega)) mt_X5_scan ml_X3_40 hK hZ hAc hw (cw_rc6 hK hw.1 (wt_82 hT t_o)) hA ⟨Nat.le_of_ble_eq_true rfl, Nat.le_of_ble_eq_true rfl⟩ ⟨Nat.le_of_ble_eq_true rfl, Nat.le_of_ble_eq_true rfl⟩ (As := [.ref a_t, .int (J v_n)]) (rest := []) rfl rfl hl.1 (Nat.le_of_ble_eq_true rfl) 9 rfl dX3_read_6 (fun v_1 H locs hq1_ hw => ?_)
  obtain ⟨y123_1, y124_1, y300_1, ev1_, hh1_⟩ := hq1_
  rw [ev1_] at hw; clear ev1_
  have hw : WK D cy T (upV (upV (upV v_0 123 y123_1) 124 y124_1) 300 y300_1) A0 s.heap H locs := cw_eq hw (by first | rfl | (funext j_; simp only [upV, reduceIte]; (repeat' split) <;> first | rfl | omega | (subst_vars; rfl)))
  obtain ⟨hh1_, kf1_⟩ := hh1_
  replace hh1_ : Ch_ (gC_ (v_0 303) a_t) v_n (y300_1) (T 120 (T 82 o)) (T 121 (T 82 o)) (T 122 (T 82 o)) ((y123_1 ((T 82 o)))) v_n ∧ (y124_1 ((T 82 o))) = v_n := hh1_
  have ch_ := hh1_.1
  have ln_ := hh1_.2
  have cq_ := Ch_cnt ch_
  obtain ⟨Q_, sm_⟩ := Ch_strm ch_ (by omega)
  have rk_ := RK_of sm_ (by omega) (by omega) (Ch_ne ch_)
  obtain ⟨yS_, eS_⟩ : ∃ y_ : Nat → Int, y_ = (y300_1) := ⟨_, rfl⟩
  obtain ⟨K_, eK_⟩ : ∃ y_ : Int → Int, y_ = kf_ (y300_1) (T 120 (T 82 o)) ((y123_1 (T 82 o))) 1 := ⟨_, rfl⟩
  obtain ⟨V_, eV_⟩ : ∃ y_ : Int → Int, y_ = gC_ (y300_1) (T 121 (T 82 o)) := ⟨_, rfl⟩
  rw [← eK_, ← eV_] at rk_
  rw [← eK_, ← eV_] at sm_
  have rkS_ := rk_
  rw [← eS_] at rkS_
  rw [← eS_] at sm_
  refine j_aload_n E 10 rfl dX3_read_9 rfl (lv_at hl 0 rfl) ?_
  refine j_iconst E 11 rfl dX3_read_10 ?_
  refine p_83 E hK hw fl_X3_25 t_o (rr (by decide)) 14 rfl dX3_read_11 (fun H locs hw => ?_)
  have hw : WK D cy T (upV (upV (upV (upV v_0 83 (upB (v_0 83) o 0)) 123 y123_1) 124 y124_1) 300 y300_1) A0 s.heap H locs := cw_eq hw (by first | rfl | (funext j_; simp only [upV, reduceIte]; (repeat' split) <;> first | rfl | omega | (subst_vars; rfl)))
  refine j_aload_n E 15 rfl dX3_read_14 rfl (lv_at hl 0 rfl) ?_
  refine j_aload_n E 16 rfl dX3_read_15 rfl (lv_at hl 0 rfl) ?_
  refine g_82 E hK hw fl_X3_21 t_o 19 rfl dX3_read_16 ?_
  refine j_iconst E 20 rfl dX3_read_19 ?_
  refine kV_i E (c_X5_kindAt l D cy T (upV (upV (upV (upV v_0 83 (upB (v_0 83) o 0)) 123 y123_1) 124 y124_1) 300 y300_1) (T 82 o) 0  (wt_82 hT t_o) (rr (by decide)) (show 0 ≤ (y123_1 ((T 82 o))) ∧ (y123_1 ((T 82 o))) ≤ 400 from by omega)) mt_X5_kindAt ml_X3_43 hK hw (cw_rc6 hK hw.1 (wt_82 hT t_o)) hA ⟨Nat.le_of_ble_eq_true rfl, Nat.le_of_ble_eq_true rfl⟩ ⟨Nat.le_of_ble_eq_true rfl, Nat.le_of_ble_eq_true rfl⟩ (As := [.int (J 0)]) (rest := [.ref o]) rfl rfl hl.1 (Nat.le_of_ble_eq_true rfl) 23 rfl dX3_read_20 (fun zz3_ v_3 H locs rr3_ hq3_ hw => ?_)
  obtain ⟨ev3_, hh3_⟩ := hq3_
  rw [ev3_] at hw; clear ev3_
  replace hh3_ : (0 ≤ (0 : Int) ∧ (0 : Int) < (y123_1 ((T 82 o))) ∧ zz3_ = gC_ (y300_1) (T 120 (T 82 o)) (0 : Int)) ∨ (¬ (0 ≤ (0 : Int) ∧ (0 : Int) < (y123_1 ((T 82 o)))) ∧ zz3_ = 1) := hh3_
  have hk0_ := hh3_
  have kk_ : zz3_ = K_ 0 := by rw [eK_]; show zz3_ = (if (0 : Int) < (y123_1 (T 82 o)) then _ else _); rcases hk0_ with ⟨_, q1_, q2_⟩ | ⟨q1_, q2_⟩; (rw [if_pos q1_]; exact q2_); (rw [if_neg (by omega)]; exact q2_)
  clear hh3_ hk0_
  refine p_84 E hK hw fl_X3_30 t_o rr3_ 26 rfl dX3_read_23 (fun H locs hw => ?_)
  have hw : WK D cy T (upV (upV (upV (upV (upV v_0 83 (upB (v_0 83) o 0)) 84 (upB (v_0 84) o zz3_)) 123 y123_1) 124 y124_1) 300 y300_1) A0 s.heap H locs := cw_eq hw (by first | rfl | (funext j_; simp only [upV, reduceIte]; (repeat' split) <;> first | rfl | omega | (subst_vars; rfl)))
  refine j_aload_n E 27 rfl dX3_read_26 rfl (lv_at hl 0 rfl) ?_
  refine j_iconst E 28 rfl dX3_read_27 ?_
  refine p_80 E hK hw fl_X3_9 t_o (rr (by decide)) 31 rfl dX3_read_28 (fun H locs hw => ?_)
  have hw : WK D cy T (upV (upV (upV (upV (upV (upV v_0 80 (upB (v_0 80) o 0)) 83 (upB (v_0 83) o 0)) 84 (upB (v_0 84) o zz3_)) 123 y123_1) 124 y124_1) 300 y300_1) A0 s.heap H locs := cw_eq hw (by first | rfl | exact (funext fun j_ => if a80_ : j_ = 80 then (by subst a80_; rfl) else if a83_ : j_ = 83 then (by subst a83_; rfl) else if a84_ : j_ = 84 then (by subst a84_; rfl) else if a123_ : j_ = 123 then (by subst a123_; rfl) else if a124_ : j_ = 124 then (by subst a124_; rfl) else if a300_ : j_ = 300 then (by subst a300_; rfl) else (by simp only [upV, if_neg a80_, if_neg a83_, if_neg a84_, if_neg a123_, if_neg a124_, if_neg a300_])))
  refine j_aload_n E 32 rfl dX3_read_31 rfl (lv_at hl 0 rfl) ?_
  refine j_iconst E 33 rfl dX3_read_32 ?_
  refine p_86 E hK hw fl_X3_37 t_o (rr (by decide)) 36 rfl dX3_read_33 (fun H locs hw => ?_)
  have hw : WK D cy T (upV (upV (upV (upV (upV (upV (upV v_0 80 (upB (v_0 80) o 0)) 83 (upB (v_0 83) o 0)) 84 (upB (v_0 84) o zz3_)) 86 (upB (v_0 86) o 0)) 123 y123_1) 124 y124_1) 300 y300_1) A0 s.heap H locs := cw_eq hw (by first | rfl | exact (funext fun j_ => if a80_ : j_ = 80 then (by subst a80_; rfl) else if a83_ : j_ = 83 then (by subst a83_; rfl) else if a84_ : j_ = 84 then (by subst a84_; rfl) else if a86_ : j_ = 86 then (by subst a86_; rfl) else if a123_ : j_ = 123 then (by subst a123_; rfl) else if a124_ : j_ = 124 then (by subst a124_; rfl) else if a300_ : j_ = 300 then (by subst a300_; rfl) else (by simp only [upV, if_neg a80_, if_neg a83_, if_neg a84_, if_neg a86_, if_neg a123_, if_neg a124_, if_neg a300_])))
  refine j_aload_n E 37 rfl dX3_read_36 rfl (lv_at hl 0 rfl) ?_
  refine j_sipush E 40 rfl dX3_read_37 (by decide) ?_
  refine zV_v E (c_X3_take l D cy T (upV (upV (upV (upV (upV (upV (upV v_0 80 (upB (v_0 80) o 0)) 83 (upB (v_0 83) o 0)) 84 (upB (v_0 84) o zz3_)) 86 (upB (v_0 86) o 0)) 123 y123_1) 124 y124_1) 300 y300_1) κ o 301 K_ V_ hO t_o (rr (by decide)) (show RK_ (y300_1) (T 120 (T 82 o)) (T 121 (T 82 o)) ((y123_1 (T 82 o))) K_ V_ from rk_) (show Cs_ K_ (((upB (v_0 83) o 0) o)) (((upB (v_0 84) o zz3_) o)) (((upB (v_0 80) o 0) o)) from by rw [upB_same, upB_same, upB_same]; exact ⟨by omega, Or.inl ⟨rfl, kk_⟩⟩) (show 3 < (301 : Int) from by omega)) mt_X3_take ml_X3_47 hK hZ hAc hw (cw_rc4 hK hw.1 t_o) hA ⟨Nat.le_of_ble_eq_true rfl, Nat.le_of_ble_eq_true rfl⟩ ⟨Nat.le_of_ble_eq_true rfl, Nat.le_of_ble_eq_true rfl⟩ (As := [.int (J 301)]) (rest := []) rfl rfl hl.1 (Nat.le_of_ble_eq_true rfl) 43 rfl dX3_read_40 (fun v_7 H locs hq7_ hw => ?_)
  obtain ⟨y80_7, y83_7, y84_7, ev7_, hh7_⟩ := hq7_
  rw [ev7_] at hw; clear ev7_
  have hw : WK D cy T (upV (upV (upV (upV (upV (upV (upV v_0 80 y80_7) 83 y83_7) 84 y84_7) 86 (upB (v_0 86) o 0)) 123 y123_1) 124 y124_1) 300 y300_1) A0 s.heap H locs := cw_eq hw (by first | rfl | exact (funext fun j_ => if a80_ : j_ = 80 then (by subst a80_; rfl) else if a83_ : j_ = 83 then (by subst a83_; rfl) else if a84_ : j_ = 84 then (by subst a84_; rfl) else if a86_ : j_ = 86 then (by subst a86_; rfl) else if a123_ : j_ = 123 then (by subst a123_; rfl) else if a124_ : j_ = 124 then (by subst a124_; rfl) else if a300_ : j_ = 300 then (by subst a300_; rfl) else (by simp only [upV, if_neg a80_, if_neg a83_, if_neg a84_, if_neg a86_, if_neg a123_, if_neg a124_, if_neg a300_])))
  replace hh7_ : ((((upB (v_0 84) o zz3_) o) = (301 : Int)) ∧ (y83_7 o) = ((upB (v_0 83) o 0) o) + 1 ∧ (y84_7 o) = K_ (((upB (v_0 83) o 0) o) + 1) ∧ (y80_7 o) = ((upB (v_0 80) o 0) o)) ∨ (¬ (((upB (v_0 84) o zz3_) o) = (301 : Int)) ∧ (y83_7 o) = ((upB (v_0 83) o 0) o) ∧ (y84_7 o) = 2 ∧ ((((upB (v_0 80) o 0) o) = 0 ∧ (y80_7 o) = 1) ∨ (¬ ((upB (v_0 80) o 0) o) = 0 ∧ (y80_7 o) = ((upB (v_0 80) o 0) o)))) := hh7_
  have t1_ := hh7_
  clear hh7_
  rw [upB_same, upB_same, upB_same] at t1_
  refine j_aload_n E 44 rfl dX3_read_43 rfl (lv_at hl 0 rfl) ?_
  refine zV_v E (c_X3_readSum l D cy T (upV (upV (upV (upV (upV (upV (upV v_0 80 y80_7) 83 y83_7) 84 y84_7) 86 (upB (v_0 86) o 0)) 123 y123_1) 124 y124_1) 300 y300_1) κ o K_ V_ 0 hO t_o  (show 0 ≤ (0 : Int) ∧ (0 : Int) ≤ ((upB (v_0 86) o 0) o) ∧ ((upB (v_0 86) o 0) o) ≤ 400 from by rw [upB_same]; omega) (show RK_ (y300_1) (T 120 (T 82 o)) (T 121 (T 82 o)) ((y123_1 (T 82 o))) K_ V_ from rk_) (show Cs_ K_ ((y83_7 o)) ((y84_7 o)) ((y80_7 o)) from Ct_c2 kk_ t1_) (show (y80_7 o) = 0 → ((upB (v_0 86) o 0) o) ≤ (y83_7 o) from by rw [upB_same]; omega)) mt_X3_readSum ml_X3_51 hK hZ hAc hw (cw_rc4 hK hw.1 t_o) hA ⟨Nat.le_of_ble_eq_true rfl, Nat.le_of_ble_eq_true rfl⟩ ⟨Nat.le_of_ble_eq_true rfl, Nat.le_of_ble_eq_true rfl⟩ (As := []) (rest := []) rfl rfl hl.1 (Nat.le_of_ble_eq_true rfl) 47 rfl dX3_read_44 (fun v_8 H locs hq8_ hw => ?_)
  obtain ⟨y80_8, y83_8, y84_8, y86_8, y300_8, ev8_, hh8_⟩ := hq8_
  rw [ev8_] at hw; clear ev8_
  have hw : WK D cy T (upV (upV (upV (upV (upV (upV (upV v_0 80 y80_8) 83 y83_8) 84 y84_8) 86 y86_8) 123 y123_1) 124 y124_1) 300 y300_8) A0 s.heap H locs := cw_eq hw (by first | rfl | exact (funext fun j_ => if a80_ : j_ = 80 then (by subst a80_; rfl) else if a83_ : j_ = 83 then (by subst a83_; rfl) else if a84_ : j_ = 84 then (by subst a84_; rfl) else if a86_ : j_ = 86 then (by subst a86_; rfl) else if a123_ : j_ = 123 then (by subst a123_; rfl) else if a124_ : j_ = 124 then (by subst a124_; rfl) else if a300_ : j_ = 300 then (by subst a300_; rfl) else (by simp only [upV, if_neg a80_, if_neg a83_, if_neg a84_, if_neg a86_, if_neg a123_, if_neg a124_, if_neg a300_])))
  obtain ⟨hh8_, kf8_⟩ := hh8_
  replace hh8_ : (((0 : Int) ≤ (y86_8 o) ∧ (y86_8 o) ≤ 400 ∧ ((upB (v_0 86) o 0) o) ≤ (y86_8 o) ∧ 0 ≤ (y83_8 o) ∧ (y83_8 o) ≤ 400) ∧ ((y80_8 o) = 0 → (y80_7 o) = 0 ∧ ((upB (v_0 86) o 0) o) < (y86_8 o) ∧ (y86_8 o) - ((upB (v_0 86) o 0) o) ≤ (y83_8 o) - (y83_7 o))) ∧ Rb_ (y300_1) (y300_8) (T 85 o) (0 : Int) ∧ Cp_ S3_ (N4_ K_) K_ V_ ((y83_7 o)) ((y80_7 o)) ((y83_8 o)) ((y84_8 o)) ((y80_8 o)) (lL_ (gC_ (y300_1) (T 85 o)) (0 : Int) (((upB (v_0 86) o 0) o))) (lL_ (gC_ (y300_8) (T 85 o)) (0 : Int) ((y86_8 o))) := hh8_
  have u1_ := hh8_
  clear hh8_
  have m3_ := cr_sum kk_ t1_ u1_.2.2 (lL_0 (upB_same _ _ _).symm)
  have u1a_ := u1_.1
  rw [upB_same] at u1a_
  have ro0_ : Rb_ yS_ (y300_8) (T 85 o) 0 := by rw [eS_]; exact u1_.2.1
  have rk3_ := RK_rb rk_ u1_.2.1 nk_ nv_
  clear u1_
  have L74_9 : ∀ (y80_c74 : Nat → Int) (y83_c74 : Nat → Int) (y84_c74 : Nat → Int) (y86_c74 : Nat → Int) (y300_c74 : Nat → Int) (H : Heap) (locs : List Loc) (ls : Array Slot), (((0 ≤ (y86_c74 o) ∧ (y86_c74 o) ≤ 400) ∧ Rb_ yS_ (y300_c74) (T 85 o) 0 ∧ (∃ s1_ s2_ : List Int, Cr_ 6 K_ V_ ((y83_c74 o)) ((y84_c74 o)) ((y80_c74 o)) [s2_, s1_] ∧ ((y80_c74 o) = 0 → lL_ (gC_ (y300_c74) (T 85 o)) 0 ((y86_c74 o)) = s1_ ++ wh_ s2_)) ∧ ((y80_c74 o) = 0 → (y86_c74 o) ≤ (y83_c74 o))) ∧ Kd_ T [85, 120, 121, 122] (v_0 300) y300_c74) → WK D cy T (upV (upV (upV (upV (upV (upV (upV v_0 80 y80_c74) 83 y83_c74) 84 y84_c74) 86 y86_c74) 123 y123_1) 124 y124_1) 300 y300_c74) A0 s.heap H locs → lv_has ls 3 [(0, .ref o), (1, .ref a_t), (2, .int (J v_n))] → W p l e (rmd 23 0 0) s m ar below meth c H locs 0 0 QW (F0 m 74 ls []) := by
    intro y80_c74 y83_c74 y84_c74 y86_c74 y300_c74 H locs ls iv74 hw hl
    obtain ⟨iv74, ik74_⟩ := iv74
    obtain ⟨sa_, sb_, m6x_, l6x_⟩ := iv74.2.2.1
    replace l6x_ := im_ l6x_
    have a6x_ := iv74.2.2.2
    have c6x_ := iv74.1
    have L101_11 : ∀ (y80_c101 : Nat → Int) (y83_c101 : Nat → Int) (y84_c101 : Nat → Int) (y86_c101 : Nat → Int) (y300_c101 : Nat → Int) (H : Heap) (locs : List Loc) (ls : Array Slot), (((0 ≤ (y86_c101 o) ∧ (y86_c101 o) ≤ 400) ∧ Rb_ yS_ (y300_c101) (T 85 o) 0 ∧ (∃ s1_ s2_ s3_ : List Int, Cr_ 7 K_ V_ ((y83_c101 o)) ((y84_c101 o)) ((y80_c101 o)) [s3_, s2_, s1_] ∧ ((y80_c101 o) = 0 → (y83_c101 o) < 400 → lL_ (gC_ (y300_c101) (T 85 o)) 0 ((y86_c101 o)) = s1_ ++ (wh_ s2_ ++ ul_ s3_)))) ∧ Kd_ T [85, 120, 121, 122] (v_0 300) y300_c101) → WK D cy T (upV (upV (upV (upV (upV (upV (upV v_0 80 y80_c101) 83 y83_c101) 84 y84_c101) 86 y86_c101) 123 y123_1) 124 y124_1) 300 y300_c101) A0 s.heap H locs → lv_has ls 3 [(0, .ref o), (1, .ref a_t), (2, .int (J v_n))] → W p l e (rmd 23 0 0) s m ar below meth c H locs 0 0 QW (F0 m 101 ls []) := by
      intro y80_c101 y83_c101 y84_c101 y86_c101 y300_c101 H locs ls iv101 hw hl
      obtain ⟨iv101, ik101_⟩ := iv101
      obtain ⟨sd_, se_, sf_, m7x_, l7x_⟩ := iv101.2.2
      replace l7x_ := im_ l7x_
      have c7x_ := iv101.1
      refine j_aload_n E 102 rfl dX3_read_101 rfl (lv_at hl 0 rfl) ?_
      refine j_bipush E 104 rfl dX3_read_102 (by decide) ?_
      refine zV_v E (c_X3_take l D cy T (upV (upV (upV (upV (upV (upV (upV v_0 80 y80_c101) 83 y83_c101) 84 y84_c101) 86 y86_c101) 123 y123_1) 124 y124_1) 300 y300_c101) κ o 59 K_ V_ hO t_o (rr (by decide)) (show RK_ (y300_c101) (T 120 (T 82 o)) (T 121 (T 82 o)) ((y123_1 (T 82 o))) K_ V_ from RK_rb rkS_ iv101.2.1 nk_ nv_) (show Cs_ K_ ((y83_c101 o)) ((y84_c101 o)) ((y80_c101 o)) from Cr_cs m7x_) (show 3 < (59 : Int) from by omega)) mt_X3_take ml_X3_47 hK hZ hAc hw (cw_rc4 hK hw.1 t_o) hA ⟨Nat.le_of_ble_eq_true rfl, Nat.le_of_ble_eq_true rfl⟩ ⟨Nat.le_of_ble_eq_true rfl, Nat.le_of_ble_eq_true rfl⟩ (As := [.int (J 59)]) (rest := []) rfl rfl hl.1 (Nat.le_of_ble_eq_true rfl) 107 rfl dX3_read_104 (fun v_13 H locs hq13_ hw => ?_)
      obtain ⟨y80_13, y83_13, y84_13, ev13_, hh13_⟩ := hq13_
      rw [ev13_] at hw; clear ev13_
      have hw : WK D cy T (upV (upV (upV (upV (upV (upV (upV v_0 80 y80_13) 83 y83_13) 84 y84_13) 86 y86_c101) 123 y123_1) 124 y124_1) 300 y300_c101) A0 s.heap H locs := cw_eq hw (by first | rfl | exact (funext fun j_ => if a80_ : j_ = 80 then (by subst a80_; rfl) else if a83_ : j_ = 83 then (by subst a83_; rfl) else if a84_ : j_ = 84 then (by subst a84_; rfl) else if a86_ : j_ = 86 then (by subst a86_; rfl) else if a123_ : j_ = 123 then (by subst a123_; rfl) else if a124_ : j_ = 124 then (by subst a124_; rfl) else if a300_ : j_ = 300 then (by subst a300_; rfl) else (by simp only [upV, if_neg a80_, if_neg a83_, if_neg a84_, if_neg a86_, if_neg a123_, if_neg a124_, if_neg a300_])))
      replace hh13_ : (((y84_c101 o) = (59 : Int)) ∧ (y83_13 o) = (y83_c101 o) + 1 ∧ (y84_13 o) = K_ ((y83_c101 o) + 1) ∧ (y80_13 o) = (y80_c101 o)) ∨ (¬ ((y84_c101 o) = (59 : Int)) ∧ (y83_13 o) = (y83_c101 o) ∧ (y84_13 o) = 2 ∧ (((y80_c101 o) = 0 ∧ (y80_13 o) = 1) ∨ (¬ (y80_c101 o) = 0 ∧ (y80_13 o) = (y80_c101 o)))) := hh13_
      have t3_ := hh13_
      clear hh13_
      have m8_ := cr_semi m7x_ (fun q_ => (RK_lt rk_ (j := (y83_c101 o)) (cr_k m7x_ q_)).2) t3_
      have a0_ := (Cr_cs m8_).1.1
      have lt8_ : (y84_c101 o) = 59 → (y83_c101 o) < 400 := fun q_ => (RK_lt rk_ (j := (y83_c101 o)) (cr_k m7x_ q_)).2
      have L120_14 : ∀ (y80_c120 : Nat → Int) (y84_c120 : Nat → Int) (H : Heap) (locs : List Loc) (ls : Array Slot), (((y80_c120 o) = 0 ∧ Ra_ K_ V_ 9 ((y83_13 o)) [sf_, se_, sd_] ∧ lL_ (gC_ (y300_c101) (T 85 o)) 0 ((y86_c101 o)) = sd_ ++ (wh_ se_ ++ ul_ sf_) ∧ K_ ((y83_13 o)) = 1) ∨ ((1 ≤ (y80_c120 o) ∧ (y80_c120 o) ≤ 3) ∧ Rf_ K_ V_ ((y80_c120 o)) ((y83_13 o)))) → WK D cy T (upV (upV (upV (upV (upV (upV (upV v_0 80 y80_c120) 83 y83_13) 84 y84_c120) 86 y86_c101) 123 y123_1) 124 y124_1) 300 y300_c101) A0 s.heap H locs → lv_has ls 3 [(0, .ref o), (1, .ref a_t), (2, .int (J v_n))] → W p l e (rmd 23 0 0) s m ar below meth c H locs 0 0 QW (F0 m 120 ls []) := by
        intro y80_c120 y84_c120 H locs ls iv120 hw hl
        refine j_aload_n E 121 rfl dX3_read_120 rfl (lv_at hl 0 rfl) ?_
        have L143_16 : ∀ (s0_143 : Int) (H : Heap) (locs : List Loc) (ls : Array Slot), inR s0_143 → (((y80_c120 o) = 0 ∧ s0_143 = -1) ∨ (¬ (y80_c120 o) = 0 ∧ s0_143 = kf_ yS_ (T 122 (T 82 o)) ((y123_1 (T 82 o))) v_n ((y83_13 o)))) → WK D cy T (upV (upV (upV (upV (upV (upV (upV v_0 80 y80_c120) 83 y83_13) 84 y84_c120) 86 y86_c101) 123 y123_1) 124 y124_1) 300 y300_c101) A0 s.heap H locs → lv_has ls 3 [(0, .ref o), (1, .ref a_t), (2, .int (J v_n))] → W p l e (rmd 23 0 0) s m ar below meth c H locs 0 0 QW (F0 m 143 ls [.int (J s0_143), .ref o]) := by
          intro s0_143 H locs ls r_s0_143 iv143 hw hl
          refine p_81 E hK hw fl_X3_15 t_o r_s0_143 146 rfl dX3_read_143 (fun H locs hw => ?_)
          have hw : WK D cy T (upV (upV (upV (upV (upV (upV (upV (upV v_0 80 y80_c120) 81 (upB (v_0 81) o s0_143)) 83 y83_13) 84 y84_c120) 86 y86_c101) 123 y123_1) 124 y124_1) 300 y300_c101) A0 s.heap H locs := cw_eq hw (by first | rfl | exact (funext fun j_ => if a80_ : j_ = 80 then (by subst a80_; rfl) else if a81_ : j_ = 81 then (by subst a81_; rfl) else if a83_ : j_ = 83 then (by subst a83_; rfl) else if a84_ : j_ = 84 then (by subst a84_; rfl) else if a86_ : j_ = 86 then (by subst a86_; rfl) else if a123_ : j_ = 123 then (by subst a123_; rfl) else if a124_ : j_ = 124 then (by subst a124_; rfl) else if a300_ : j_ = 300 then (by subst a300_; rfl) else (by simp only [upV, if_neg a80_, if_neg a81_, if_neg a83_, if_neg a84_, if_neg a86_, if_neg a123_, if_neg a124_, if_neg a300_])))
          refine j_aload_n E 147 rfl dX3_read_146 rfl (lv_at hl 0 rfl) ?_
          refine g_80 E hK hw fl_X3_9 t_o (y80_c120 o) rfl 150 rfl dX3_read_147 (fun rr19_ => ?_)
          refine j_if_ne E 153 157 rfl rr19_ dX3_read_150 (by decide) (fun cc20_ => ?_) (fun cc20_ => ?_)
          · refine j_iconst E 158 rfl dX3_read_157 ?_
            exact hret 158 0 (upV (upV (upV (upV (upV (upV (upV (upV v_0 80 y80_c120) 81 (upB (v_0 81) o s0_143)) 83 y83_13) 84 y84_c120) 86 y86_c101) 123 y123_1) 124 y124_1) 300 y300_c101) _ _ ls hw (Or.inl rfl) ⟨y80_c120, (upB (v_0 81) o s0_143), y83_13, y84_c120, y86_c101, y123_1, y124_1, y300_c101, rfl, ⟨⟨by omega, by omega, K_, V_, _, Q_, sm_, by first | exact Or.inl ⟨rfl, by omega, by rw [upB_same]; omega, RK_rb rkS_ iv101.2.1 nk_ nv_, iv120.elim (fun q_ => ⟨_, _, _, _, a0_, q_.2.1, q_.2.2.1, q_.2.2.2⟩) (fun q_ => absurd q_.1 (by omega))⟩ | exact Or.inr ⟨rfl, iv120.elim (fun q_ => absurd q_.1 (by omega)) (fun q_ => q_.1), _, by rw [upB_same]; exact iv143.elim (fun q_ => absurd q_.1 (by omega)) (fun q_ => q_.2), iv120.elim (fun q_ => absurd q_.1 (by omega)) (fun q_ => q_.2)⟩⟩, ik101_⟩⟩ dX3_read_158
          · refine j_iconst E 154 rfl dX3_read_153 ?_
            refine j_goto E 158 dX3_read_154 (by decide) ?_
            exact hret 158 1 (upV (upV (upV (upV (upV (upV (upV (upV v_0 80 y80_c120) 81 (upB (v_0 81) o s0_143)) 83 y83_13) 84 y84_c120) 86 y86_c101) 123 y123_1) 124 y124_1) 300 y300_c101) _ _ ls hw (Or.inr rfl) ⟨y80_c120, (upB (v_0 81) o s0_143), y83_13, y84_c120, y86_c101, y123_1, y124_1, y300_c101, rfl, ⟨⟨by omega, by omega, K_, V_, _, Q_, sm_, by first | exact Or.inl ⟨rfl, by omega, by rw [upB_same]; omega, RK_rb rkS_ iv101.2.1 nk_ nv_, iv120.elim (fun q_ => ⟨_, _, _, _, a0_, q_.2.1, q_.2.2.1, q_.2.2.2⟩) (fun q_ => absurd q_.1 (by omega))⟩ | exact Or.inr ⟨rfl, iv120.elim (fun q_ => absurd q_.1 (by omega)) (fun q_ => q_.1), _, by rw [upB_same]; exact iv143.elim (fun q_ => absurd q_.1 (by omega)) (fun q_ => q_.2), iv120.elim (fun q_ => absurd q_.1 (by omega)) (fun q_ => q_.2)⟩⟩, ik101_⟩⟩ dX3_read_158
        refine j_aload_n E 122 rfl dX3_read_121 rfl (lv_at hl 0 rfl) ?_
        refine g_80 E hK hw fl_X3_9 t_o (y80_c120 o) rfl 125 rfl dX3_read_122 (fun rr21_ => ?_)
        refine j_if_ne E 128 132 rfl rr21_ dX3_read_125 (by decide) (fun cc22_ => ?_) (fun cc22_ => ?_)
        · refine j_aload_n E 133 rfl dX3_read_132 rfl (lv_at hl 0 rfl) ?_
          refine g_82 E hK hw fl_X3_21 t_o 136 rfl dX3_read_133 ?_
          refine j_aload_n E 137 rfl dX3_read_136 rfl (lv_at hl 0 rfl) ?_
          refine g_83 E hK hw fl_X3_25 t_o (y83_13 o) rfl 140 rfl dX3_read_137 (fun rr23_ => ?_)
          refine kV_i E (c_X5_placeAt l D cy T (upV (upV (upV (upV (upV (upV (upV v_0 80 y80_c120) 83 y83_13) 84 y84_c120) 86 y86_c101) 123 y123_1) 124 y124_1) 300 y300_c101) (T 82 o) (y83_13 o)  (wt_82 hT t_o) rr23_ (show 0 ≤ (y123_1 ((T 82 o))) ∧ (y123_1 ((T 82 o))) ≤ 400 from by omega)) mt_X5_placeAt ml_X3_66 hK hw (cw_rc6 hK hw.1 (wt_82 hT t_o)) hA ⟨Nat.le_of_ble_eq_true rfl, Nat.le_of_ble_eq_true rfl⟩ ⟨Nat.le_of_ble_eq_true rfl, Nat.le_of_ble_eq_true rfl⟩ (As := [.int (J (y83_13 o))]) (rest := [.ref o]) rfl rfl hl.1 (Nat.le_of_ble_eq_true rfl) 143 rfl dX3_read_140 (fun zz24_ v_24 H locs rr24_ hq24_ hw => ?_)
          obtain ⟨ev24_, hh24_⟩ := hq24_
          rw [ev24_] at hw; clear ev24_
          replace hh24_ : (0 ≤ (y83_13 o) ∧ (y83_13 o) < (y123_1 ((T 82 o))) ∧ zz24_ = gC_ (y300_c101) (T 122 (T 82 o)) (y83_13 o)) ∨ (¬ (0 ≤ (y83_13 o) ∧ (y83_13 o) < (y123_1 ((T 82 o)))) ∧ zz24_ = (y124_1 ((T 82 o)))) := hh24_
          have pl_ := hh24_
          clear hh24_
          exact L143_16 zz24_  H locs ls rr24_ (by first | exact Or.inl ⟨by omega, rfl⟩ | exact Or.inr ⟨by omega, pl_kf pl_ iv101.2.1.1 np_ ln_ a0_⟩) hw (lv_sub hl [0, 1, 2] rfl)
        · refine j_iconst E 129 rfl dX3_read_128 ?_
          refine j_goto E 143 dX3_read_129 (by decide) ?_
          exact L143_16 ((-1))  H locs ls (rr (by decide)) (by first | exact Or.inl ⟨by omega, rfl⟩ | exact Or.inr ⟨by omega, pl_kf pl_ iv101.2.1.1 np_ ln_ a0_⟩) hw (lv_sub hl [0, 1, 2] rfl)
      refine j_aload_n E 108 rfl dX3_read_107 rfl (lv_at hl 0 rfl) ?_
      refine g_84 E hK hw fl_X3_30 t_o (y84_13 o) rfl 111 rfl dX3_read_108 (fun rr25_ => ?_)
      refine j_iconst E 112 rfl dX3_read_111 ?_
      refine j_icmp_eq E 115 120 rfl rr25_ (rr (by decide)) dX3_read_112 (by decide) (fun cc26_ => ?_) (fun cc26_ => ?_)
      · exact L120_14  y80_13 y84_13 H locs ls  (by first | exact (cr_end m8_ (Or.inl ⟨by omega, rfl⟩)).elim (fun q_ => Or.inl ⟨q_.1, q_.2, l7x_ (by omega) (by omega), by have q3_ := Cr_cs m8_; unfold Cs_ at q3_; omega⟩) Or.inr | exact (cr_end m8_ (Or.inr ⟨by omega, rf_.2⟩)).elim (fun q_ => absurd q_.1 (by omega)) Or.inr) hw (lv_sub hl [0, 1, 2] rfl)
      · refine j_aload_n E 116 rfl dX3_read_115 rfl (lv_at hl 0 rfl) ?_
        refine j_iconst E 117 rfl dX3_read_116 ?_
        refine kV_v E (c_X3_refuse l D cy T (upV (upV (upV (upV (upV (upV (upV v_0 80 y80_13) 83 y83_13) 84 y84_13) 86 y86_c101) 123 y123_1) 124 y124_1) 300 y300_c101) o 1  t_o (rr (by decide)) ) mt_X3_refuse ml_X3_63 hK hw (cw_rc4 hK hw.1 t_o) hA ⟨Nat.le_of_ble_eq_true rfl, Nat.le_of_ble_eq_true rfl⟩ ⟨Nat.le_of_ble_eq_true rfl, Nat.le_of_ble_eq_true rfl⟩ (As := [.int (J 1)]) (rest := []) rfl rfl hl.1 (Nat.le_of_ble_eq_true rfl) 120 rfl dX3_read_117 (fun v_27 H locs hq27_ hw => ?_)
        obtain ⟨y80_27, y84_27, ev27_, hh27_⟩ := hq27_
        rw [ev27_] at hw; clear ev27_
        have hw : WK D cy T (upV (upV (upV (upV (upV (upV (upV v_0 80 y80_27) 83 y83_13) 84 y84_27) 86 y86_c101) 123 y123_1) 124 y124_1) 300 y300_c101) A0 s.heap H locs := cw_eq hw (by first | rfl | exact (funext fun j_ => if a80_ : j_ = 80 then (by subst a80_; rfl) else if a83_ : j_ = 83 then (by subst a83_; rfl) else if a84_ : j_ = 84 then (by subst a84_; rfl) else if a86_ : j_ = 86 then (by subst a86_; rfl) else if a123_ : j_ = 123 then (by subst a123_; rfl) else if a124_ : j_ = 124 then (by subst a124_; rfl) else if a300_ : j_ = 300 then (by subst a300_; rfl) else (by simp only [upV, if_neg a80_, if_neg a83_, if_neg a84_, if_neg a86_, if_neg a123_, if_neg a124_, if_neg a300_])))
        replace hh27_ : (y84_27 o) = 2 ∧ (((y80_13 o) = 0 ∧ (y80_27 o) = (1 : Int)) ∨ (¬ (y80_13 o) = 0 ∧ (y80_27 o) = (y80_13 o))) := hh27_
        have rf_ := hh27_
        clear hh27_
        exact L120_14  y80_27 y84_27 H locs ls  (by first | exact (cr_end m8_ (Or.inl ⟨by omega, rfl⟩)).elim (fun q_ => Or.inl ⟨q_.1, q_.2, l7x_ (by omega) (by omega), by have q3_ := Cr_cs m8_; unfold Cs_ at q3_; omega⟩) Or.inr | exact (cr_end m8_ (Or.inr ⟨by omega, rf_.2⟩)).elim (fun q_ => absurd q_.1 (by omega)) Or.inr) hw (lv_sub hl [0, 1, 2] rfl)
    refine j_aload_n E 75 rfl dX3_read_74 rfl (lv_at hl 0 rfl) ?_
    refine g_84 E hK hw fl_X3_30 t_o (y84_c74 o) rfl 78 rfl dX3_read_75 (fun rr28_ => ?_)
    refine j_sipush E 81 rfl dX3_read_78 (by decide) ?_
    refine j_icmp_ne E 84 96 rfl rr28_ (rr (by decide)) dX3_read_81 (by decide) (fun cc29_ => ?_) (fun cc29_ => ?_)
    · refine j_aload_n E 97 rfl dX3_read_96 rfl (lv_at hl 0 rfl) ?_
      refine j_iconst E 98 rfl dX3_read_97 ?_
      refine kV_v E (c_X3_emit l D cy T (upV (upV (upV (upV (upV (upV (upV v_0 80 y80_c74) 83 y83_c74) 84 y84_c74) 86 y86_c74) 123 y123_1) 124 y124_1) 300 y300_c74) o 0 0 t_o (rr (by decide)) (show 0 ≤ (0 : Int) ∧ (0 : Int) ≤ (y86_c74 o) ∧ (y86_c74 o) ≤ 400 from by omega)) mt_X3_emit ml_X3_60 hK hw (cw_rc4 hK hw.1 t_o) hA ⟨Nat.le_of_ble_eq_true rfl, Nat.le_of_ble_eq_true rfl⟩ ⟨Nat.le_of_ble_eq_true rfl, Nat.le_of_ble_eq_true rfl⟩ (As := [.int (J 0)]) (rest := []) rfl rfl hl.1 (Nat.le_of_ble_eq_true rfl) 101 rfl dX3_read_98 (fun v_30 H locs hq30_ hw => ?_)
      obtain ⟨y86_30, y300_30, ev30_, hh30_⟩ := hq30_
      rw [ev30_] at hw; clear ev30_
      have hw : WK D cy T (upV (upV (upV (upV (upV (upV (upV v_0 80 y80_c74) 83 y83_c74) 84 y84_c74) 86 y86_30) 123 y123_1) 124 y124_1) 300 y300_30) A0 s.heap H locs := cw_eq hw (by first | rfl | exact (funext fun j_ => if a80_ : j_ = 80 then (by subst a80_; rfl) else if a83_ : j_ = 83 then (by subst a83_; rfl) else if a84_ : j_ = 84 then (by subst a84_; rfl) else if a86_ : j_ = 86 then (by subst a86_; rfl) else if a123_ : j_ = 123 then (by subst a123_; rfl) else if a124_ : j_ = 124 then (by subst a124_; rfl) else if a300_ : j_ = 300 then (by subst a300_; rfl) else (by simp only [upV, if_neg a80_, if_neg a83_, if_neg a84_, if_neg a86_, if_neg a123_, if_neg a124_, if_neg a300_])))
      obtain ⟨hh30_, kf30_⟩ := hh30_
      replace hh30_ : ((0 : Int) ≤ (y86_30 o) ∧ (y86_30 o) ≤ 400 ∧ (y86_c74 o) ≤ (y86_30 o)) ∧ Rb_ (y300_c74) (y300_30) (T 85 o) (0 : Int) ∧ ((y86_c74 o) < 400 → (y86_30 o) = (y86_c74 o) + 1 ∧ (lL_ (gC_ (y300_30) (T 85 o)) (0 : Int) ((y86_30 o))) = (lL_ (gC_ (y300_c74) (T 85 o)) (0 : Int) ((y86_c74 o))) ++ [(0 : Int)]) := hh30_
      have rg2_ := hh30_.1
      have ro2_ := hh30_.2.1
      have em2_ := im_ (fun (q_ : (y80_c74 o) = 0) (q2_ : (y83_c74 o) < 400) => (hh30_.2.2 (by omega)).2)
      clear hh30_
      exact L101_11  y80_c74 y83_c74 y84_c74 y86_30 y300_30 H locs ls  (⟨by first | exact ⟨by omega, Rb_tr iv74.2.1 w2b_, _, _, _, m7_, fun q_ _ => wl_u (by omega) (by omega) w2_.2.1 (l6x_ (by omega))⟩ | exact ⟨by omega, Rb_tr iv74.2.1 ro2_, _, _, _, cr_nou m6x_ (by omega), fun q_ q2_ => wl_n (em2_ q_ q2_) (l6x_ q_)⟩, (Kd_tr ik74_ (Kd_mono kf30_ (by decide)))⟩) hw (lv_sub hl [0, 1, 2] rfl)
    · refine j_aload_n E 85 rfl dX3_read_84 rfl (lv_at hl 0 rfl) ?_
      have lt_ := RK_lt rk_ (j := (y83_c74 o)) (by have q_ := Cr_cs m6x_; unfold Cs_ at q_; omega)
      refine zV_v E (c_X3_step l D cy T (upV (upV (upV (upV (upV (upV (upV v_0 80 y80_c74) 83 y83_c74) 84 y84_c74) 86 y86_c74) 123 y123_1) 124 y124_1) 300 y300_c74) κ o K_ V_ hO t_o  (show RK_ (y300_c74) (T 120 (T 82 o)) (T 121 (T 82 o)) ((y123_1 (T 82 o))) K_ V_ from RK_rb rkS_ iv74.2.1 nk_ nv_) (show 0 ≤ (y83_c74 o) ∧ (y83_c74 o) < 400 from by have q_ := Cr_cs m6x_; unfold Cs_ at q_; have q2_ := RK_lt rk_ (j := (y83_c74 o)) (by omega); omega)) mt_X3_step ml_X3_54 hK hZ hAc hw (cw_rc4 hK hw.1 t_o) hA ⟨Nat.le_of_ble_eq_true rfl, Nat.le_of_ble_eq_true rfl⟩ ⟨Nat.le_of_ble_eq_true rfl, Nat.le_of_ble_eq_true rfl⟩ (As := []) (rest := []) rfl rfl hl.1 (Nat.le_of_ble_eq_true rfl) 88 rfl dX3_read_85 (fun v_31 H locs hq31_ hw => ?_)
      obtain ⟨y83_31, y84_31, ev31_, hh31_⟩ := hq31_
      rw [ev31_] at hw; clear ev31_
      have hw : WK D cy T (upV (upV (upV (upV (upV (upV (upV v_0 80 y80_c74) 83 y83_31) 84 y84_31) 86 y86_c74) 123 y123_1) 124 y124_1) 300 y300_c74) A0 s.heap H locs := cw_eq hw (by first | rfl | exact (funext fun j_ => if a80_ : j_ = 80 then (by subst a80_; rfl) else if a83_ : j_ = 83 then (by subst a83_; rfl) else if a84_ : j_ = 84 then (by subst a84_; rfl) else if a86_ : j_ = 86 then (by subst a86_; rfl) else if a123_ : j_ = 123 then (by subst a123_; rfl) else if a124_ : j_ = 124 then (by subst a124_; rfl) else if a300_ : j_ = 300 then (by subst a300_; rfl) else (by simp only [upV, if_neg a80_, if_neg a83_, if_neg a84_, if_neg a86_, if_neg a123_, if_neg a124_, if_neg a300_])))
      replace hh31_ : (y83_31 o) = (y83_c74 o) + 1 ∧ (y84_31 o) = K_ ((y83_c74 o) + 1) := hh31_
      have s2_ := hh31_
      clear hh31_
      refine j_aload_n E 89 rfl dX3_read_88 rfl (lv_at hl 0 rfl) ?_
      refine j_iconst E 90 rfl dX3_read_89 ?_
      refine zV_v E (c_X3_readConditions_n0 l D cy T (upV (upV (upV (upV (upV (upV (upV v_0 80 y80_c74) 83 y83_31) 84 y84_31) 86 y86_c74) 123 y123_1) 124 y124_1) 300 y300_c74) κ o K_ V_ ((y86_c74 o)) hO t_o  (show 0 ≤ (((y86_c74 o))) ∧ (((y86_c74 o))) ≤ (y86_c74 o) ∧ (y86_c74 o) ≤ 400 from by omega) (show RK_ (y300_c74) (T 120 (T 82 o)) (T 121 (T 82 o)) ((y123_1 (T 82 o))) K_ V_ from RK_rb rkS_ iv74.2.1 nk_ nv_) (show Cs_ K_ ((y83_31 o)) ((y84_31 o)) ((y80_c74 o)) from by have q_ := Cr_cs m6x_; exact Cs_st q_ (by unfold Cs_ at q_; omega) s2_.1 s2_.2 (by unfold Cs_ at q_; omega)) (show (y80_c74 o) = 0 → (y86_c74 o) ≤ (y83_31 o) from by omega)) mt_X3_readConditions ml_X3_57 hK hZ hAc hw (cw_rc4 hK hw.1 t_o) hA ⟨Nat.le_of_ble_eq_true rfl, Nat.le_of_ble_eq_true rfl⟩ ⟨Nat.le_of_ble_eq_true rfl, Nat.le_of_ble_eq_true rfl⟩ (As := [.int (J 0)]) (rest := []) rfl rfl hl.1 (Nat.le_of_ble_eq_true rfl) 93 rfl dX3_read_90 (fun v_32 H locs hq32_ hw => ?_)
      obtain ⟨y80_32, y83_32, y84_32, y86_32, y300_32, ev32_, hh32_⟩ := hq32_
      rw [ev32_] at hw; clear ev32_
      have hw : WK D cy T (upV (upV (upV (upV (upV (upV (upV v_0 80 y80_32) 83 y83_32) 84 y84_32) 86 y86_32) 123 y123_1) 124 y124_1) 300 y300_32) A0 s.heap H locs := cw_eq hw (by first | rfl | exact (funext fun j_ => if a80_ : j_ = 80 then (by subst a80_; rfl) else if a83_ : j_ = 83 then (by subst a83_; rfl) else if a84_ : j_ = 84 then (by subst a84_; rfl) else if a86_ : j_ = 86 then (by subst a86_; rfl) else if a123_ : j_ = 123 then (by subst a123_; rfl) else if a124_ : j_ = 124 then (by subst a124_; rfl) else if a300_ : j_ = 300 then (by subst a300_; rfl) else (by simp only [upV, if_neg a80_, if_neg a83_, if_neg a84_, if_neg a86_, if_neg a123_, if_neg a124_, if_neg a300_])))
      obtain ⟨hh32_, kf32_⟩ := hh32_
      replace hh32_ : (((((y86_c74 o))) ≤ (y86_32 o) ∧ (y86_32 o) ≤ 400 ∧ (y86_c74 o) ≤ (y86_32 o) ∧ 0 ≤ (y83_32 o) ∧ (y83_32 o) ≤ 400) ∧ ((y80_32 o) = 0 → (y80_c74 o) = 0 ∧ (y86_c74 o) < (y86_32 o) ∧ (y86_32 o) - (y86_c74 o) ≤ (y83_32 o) - (y83_31 o))) ∧ Rb_ (y300_c74) (y300_32) (T 85 o) (((y86_c74 o))) ∧ Ck_ S4_ ((0 : Int) : Int) (NA_ K_) K_ V_ ((y83_31 o)) ((y80_c74 o)) ((y83_32 o)) ((y84_32 o)) ((y80_32 o)) (lL_ (gC_ (y300_c74) (T 85 o)) (((y86_c74 o))) ((y86_c74 o))) (lL_ (gC_ (y300_32) (T 85 o)) (((y86_c74 o))) ((y86_32 o))) := hh32_
      have w2_ := hh32_
      clear hh32_
      rw [s2_.1] at w2_
      have m7_ := cr_unl m6x_ (by omega) w2_.2.2 (lL_0 rfl)
      have w2b_ : Rb_ (y300_c74) (y300_32) (T 85 o) 0 := ⟨w2_.2.1.1, fun i_ h1_ h2_ => absurd h2_ (by omega)⟩
      refine j_goto E 101 dX3_read_93 (by decide) ?_
      exact L101_11  y80_32 y83_32 y84_32 y86_32 y300_32 H locs ls  (⟨by first | exact ⟨by omega, Rb_tr iv74.2.1 w2b_, _, _, _, m7_, fun q_ _ => wl_u (by omega) (by omega) w2_.2.1 (l6x_ (by omega))⟩ | exact ⟨by omega, Rb_tr iv74.2.1 ro2_, _, _, _, cr_nou m6x_ (by omega), fun q_ q2_ => wl_n (em2_ q_ q2_) (l6x_ q_)⟩, (Kd_tr ik74_ (Kd_mono kf32_ (by decide)))⟩) hw (lv_sub hl [0, 1, 2] rfl)
  refine j_aload_n E 48 rfl dX3_read_47 rfl (lv_at hl 0 rfl) ?_
  refine g_84 E hK hw fl_X3_30 t_o (y84_8 o) rfl 51 rfl dX3_read_48 (fun rr33_ => ?_)
  refine j_sipush E 54 rfl dX3_read_51 (by decide) ?_
  refine j_icmp_ne E 57 69 rfl rr33_ (rr (by decide)) dX3_read_54 (by decide) (fun cc34_ => ?_) (fun cc34_ => ?_)
  · refine j_aload_n E 70 rfl dX3_read_69 rfl (lv_at hl 0 rfl) ?_
    refine j_iconst E 71 rfl dX3_read_70 ?_
    refine kV_v E (c_X3_emit l D cy T (upV (upV (upV (upV (upV (upV (upV v_0 80 y80_8) 83 y83_8) 84 y84_8) 86 y86_8) 123 y123_1) 124 y124_1) 300 y300_8) o 1 0 t_o (rr (by decide)) (show 0 ≤ (0 : Int) ∧ (0 : Int) ≤ (y86_8 o) ∧ (y86_8 o) ≤ 400 from by omega)) mt_X3_emit ml_X3_60 hK hw (cw_rc4 hK hw.1 t_o) hA ⟨Nat.le_of_ble_eq_true rfl, Nat.le_of_ble_eq_true rfl⟩ ⟨Nat.le_of_ble_eq_true rfl, Nat.le_of_ble_eq_true rfl⟩ (As := [.int (J 1)]) (rest := []) rfl rfl hl.1 (Nat.le_of_ble_eq_true rfl) 74 rfl dX3_read_71 (fun v_35 H locs hq35_ hw => ?_)
    obtain ⟨y86_35, y300_35, ev35_, hh35_⟩ := hq35_
    rw [ev35_] at hw; clear ev35_
    have hw : WK D cy T (upV (upV (upV (upV (upV (upV (upV v_0 80 y80_8) 83 y83_8) 84 y84_8) 86 y86_35) 123 y123_1) 124 y124_1) 300 y300_35) A0 s.heap H locs := cw_eq hw (by first | rfl | exact (funext fun j_ => if a80_ : j_ = 80 then (by subst a80_; rfl) else if a83_ : j_ = 83 then (by subst a83_; rfl) else if a84_ : j_ = 84 then (by subst a84_; rfl) else if a86_ : j_ = 86 then (by subst a86_; rfl) else if a123_ : j_ = 123 then (by subst a123_; rfl) else if a124_ : j_ = 124 then (by subst a124_; rfl) else if a300_ : j_ = 300 then (by subst a300_; rfl) else (by simp only [upV, if_neg a80_, if_neg a83_, if_neg a84_, if_neg a86_, if_neg a123_, if_neg a124_, if_neg a300_])))
    obtain ⟨hh35_, kf35_⟩ := hh35_
    replace hh35_ : ((0 : Int) ≤ (y86_35 o) ∧ (y86_35 o) ≤ 400 ∧ (y86_8 o) ≤ (y86_35 o)) ∧ Rb_ (y300_8) (y300_35) (T 85 o) (0 : Int) ∧ ((y86_8 o) < 400 → (y86_35 o) = (y86_8 o) + 1 ∧ (lL_ (gC_ (y300_35) (T 85 o)) (0 : Int) ((y86_35 o))) = (lL_ (gC_ (y300_8) (T 85 o)) (0 : Int) ((y86_8 o))) ++ [(1 : Int)]) := hh35_
    have rg1_ := hh35_.1
    have ro1_ := hh35_.2.1
    have ec1_ : (y80_8 o) = 0 → (y86_35 o) = (y86_8 o) + 1 := fun q_ => (hh35_.2.2 (by omega)).1
    have em1_ := im_ (fun q_ : (y80_8 o) = 0 => (hh35_.2.2 (by omega)).2)
    clear hh35_
    exact L74_9  y80_8 y83_8 y84_8 y86_35 y300_35 H locs ls  (⟨by first | exact ⟨by omega, Rb_tr ro0_ w1b_, ⟨_, _, m6_, fun q_ => wl_w (by omega) (by omega) w1_.2.1⟩, by omega⟩ | exact ⟨by omega, Rb_tr ro0_ ro1_, ⟨_, _, cr_now m3_ (by omega), fun q_ => by rw [wh_nil]; exact em1_ q_⟩, by omega⟩, (Kd_tr (Kd_tr (Kd_tr Kd_rf (Kd_mono kf1_ (by decide))) (Kd_mono kf8_ (by decide))) (Kd_mono kf35_ (by decide)))⟩) hw (lv_sub hl [0, 1, 2] rfl)
  · refine j_aload_n E 58 rfl dX3_read_57 rfl (lv_at hl 0 rfl) ?_
    have lt_ := RK_lt rk_ (j := (y83_8 o)) (by have q_ := Cr_cs m3_; unfold Cs_ at q_; omega)
    refine zV_v E (c_X3_step l D cy T (upV (upV (upV (upV (upV (upV (upV v_0 80 y80_8) 83 y83_8) 84 y84_8) 86 y86_8) 123 y123_1) 124 y124_1) 300 y300_8) κ o K_ V_ hO t_o  (show RK_ (y300_8) (T 120 (T 82 o)) (T 121 (T 82 o)) ((y123_1 (T 82 o))) K_ V_ from rk3_) (show 0 ≤ (y83_8 o) ∧ (y83_8 o) < 400 from by have q_ := Cr_cs m3_; unfold Cs_ at q_; have q2_ := RK_lt rk_ (j := (y83_8 o)) (by omega); omega)) mt_X3_step ml_X3_54 hK hZ hAc hw (cw_rc4 hK hw.1 t_o) hA ⟨Nat.le_of_ble_eq_true rfl, Nat.le_of_ble_eq_true rfl⟩ ⟨Nat.le_of_ble_eq_true rfl, Nat.le_of_ble_eq_true rfl⟩ (As := []) (rest := []) rfl rfl hl.1 (Nat.le_of_ble_eq_true rfl) 61 rfl dX3_read_58 (fun v_36 H locs hq36_ hw => ?_)
    obtain ⟨y83_36, y84_36, ev36_, hh36_⟩ := hq36_
    rw [ev36_] at hw; clear ev36_
    have hw : WK D cy T (upV (upV (upV (upV (upV (upV (upV v_0 80 y80_8) 83 y83_36) 84 y84_36) 86 y86_8) 123 y123_1) 124 y124_1) 300 y300_8) A0 s.heap H locs := cw_eq hw (by first | rfl | exact (funext fun j_ => if a80_ : j_ = 80 then (by subst a80_; rfl) else if a83_ : j_ = 83 then (by subst a83_; rfl) else if a84_ : j_ = 84 then (by subst a84_; rfl) else if a86_ : j_ = 86 then (by subst a86_; rfl) else if a123_ : j_ = 123 then (by subst a123_; rfl) else if a124_ : j_ = 124 then (by subst a124_; rfl) else if a300_ : j_ = 300 then (by subst a300_; rfl) else (by simp only [upV, if_neg a80_, if_neg a83_, if_neg a84_, if_neg a86_, if_neg a123_, if_neg a124_, if_neg a300_])))
    replace hh36_ : (y83_36 o) = (y83_8 o) + 1 ∧ (y84_36 o) = K_ ((y83_8 o) + 1) := hh36_
    have s1_ := hh36_
    clear hh36_
    refine j_aload_n E 62 rfl dX3_read_61 rfl (lv_at hl 0 rfl) ?_
    refine j_iconst E 63 rfl dX3_read_62 ?_
    refine zV_v E (c_X3_readConditions_n0 l D cy T (upV (upV (upV (upV (upV (upV (upV v_0 80 y80_8) 83 y83_36) 84 y84_36) 86 y86_8) 123 y123_1) 124 y124_1) 300 y300_8) κ o K_ V_ ((y86_8 o)) hO t_o  (show 0 ≤ (((y86_8 o))) ∧ (((y86_8 o))) ≤ (y86_8 o) ∧ (y86_8 o) ≤ 400 from by omega) (show RK_ (y300_8) (T 120 (T 82 o)) (T 121 (T 82 o)) ((y123_1 (T 82 o))) K_ V_ from rk3_) (show Cs_ K_ ((y83_36 o)) ((y84_36 o)) ((y80_8 o)) from by have q_ := Cr_cs m3_; exact Cs_st q_ (by unfold Cs_ at q_; omega) s1_.1 s1_.2 (by unfold Cs_ at q_; omega)) (show (y80_8 o) = 0 → (y86_8 o) ≤ (y83_36 o) from by omega)) mt_X3_readConditions ml_X3_57 hK hZ hAc hw (cw_rc4 hK hw.1 t_o) hA ⟨Nat.le_of_ble_eq_true rfl, Nat.le_of_ble_eq_true rfl⟩ ⟨Nat.le_of_ble_eq_true rfl, Nat.le_of_ble_eq_true rfl⟩ (As := [.int (J 0)]) (rest := []) rfl rfl hl.1 (Nat.le_of_ble_eq_true rfl) 66 rfl dX3_read_63 (fun v_37 H locs hq37_ hw => ?_)
    obtain ⟨y80_37, y83_37, y84_37, y86_37, y300_37, ev37_, hh37_⟩ := hq37_
    rw [ev37_] at hw; clear ev37_
    have hw : WK D cy T (upV (upV (upV (upV (upV (upV (upV v_0 80 y80_37) 83 y83_37) 84 y84_37) 86 y86_37) 123 y123_1) 124 y124_1) 300 y300_37) A0 s.heap H locs := cw_eq hw (by first | rfl | exact (funext fun j_ => if a80_ : j_ = 80 then (by subst a80_; rfl) else if a83_ : j_ = 83 then (by subst a83_; rfl) else if a84_ : j_ = 84 then (by subst a84_; rfl) else if a86_ : j_ = 86 then (by subst a86_; rfl) else if a123_ : j_ = 123 then (by subst a123_; rfl) else if a124_ : j_ = 124 then (by subst a124_; rfl) else if a300_ : j_ = 300 then (by subst a300_; rfl) else (by simp only [upV, if_neg a80_, if_neg a83_, if_neg a84_, if_neg a86_, if_neg a123_, if_neg a124_, if_neg a300_])))
    obtain ⟨hh37_, kf37_⟩ := hh37_
    replace hh37_ : (((((y86_8 o))) ≤ (y86_37 o) ∧ (y86_37 o) ≤ 400 ∧ (y86_8 o) ≤ (y86_37 o) ∧ 0 ≤ (y83_37 o) ∧ (y83_37 o) ≤ 400) ∧ ((y80_37 o) = 0 → (y80_8 o) = 0 ∧ (y86_8 o) < (y86_37 o) ∧ (y86_37 o) - (y86_8 o) ≤ (y83_37 o) - (y83_36 o))) ∧ Rb_ (y300_8) (y300_37) (T 85 o) (((y86_8 o))) ∧ Ck_ S4_ ((0 : Int) : Int) (NA_ K_) K_ V_ ((y83_36 o)) ((y80_8 o)) ((y83_37 o)) ((y84_37 o)) ((y80_37 o)) (lL_ (gC_ (y300_8) (T 85 o)) (((y86_8 o))) ((y86_8 o))) (lL_ (gC_ (y300_37) (T 85 o)) (((y86_8 o))) ((y86_37 o))) := hh37_
    have w1_ := hh37_
    clear hh37_
    rw [s1_.1] at w1_
    have m6_ := cr_when m3_ (by omega) w1_.2.2 (lL_0 rfl)
    have w1b_ : Rb_ (y300_8) (y300_37) (T 85 o) 0 := ⟨w1_.2.1.1, fun i_ h1_ h2_ => absurd h2_ (by omega)⟩
    refine j_goto E 74 dX3_read_66 (by decide) ?_
    exact L74_9  y80_37 y83_37 y84_37 y86_37 y300_37 H locs ls  (⟨by first | exact ⟨by omega, Rb_tr ro0_ w1b_, ⟨_, _, m6_, fun q_ => wl_w (by omega) (by omega) w1_.2.1⟩, by omega⟩ | exact ⟨by omega, Rb_tr ro0_ ro1_, ⟨_, _, cr_now m3_ (by omega), fun q_ => by rw [wh_nil]; exact em1_ q_⟩, by omega⟩, (Kd_tr (Kd_tr (Kd_tr Kd_rf (Kd_mono kf1_ (by decide))) (Kd_mono kf8_ (by decide))) (Kd_mono kf37_ (by decide)))⟩) hw (lv_sub hl [0, 1, 2] rfl)
