set_option maxHeartbeats 4000000 in
set_option maxRecDepth 100000 in
theorem c_X3_readCondition_n4 (l : Launch) (D : va_G) (cy : Nat → ClassId) (T : Nat → Nat → Nat) (v_0 : Nat → Nat → Int) (κ : Nat → Nat → Nat) (o : Nat) (K_ : Int → Int) (V_ : Int → Int) (hO : ∀ x, ow T x → κ 2 2 ≤ x) (t_o : T 0 o = 4) (hp0 : 0 ≤ (v_0 86 o) ∧ (v_0 86 o) ≤ 400) (hp1 : RK_ (v_0 300) (T 120 (T 82 o)) (T 121 (T 82 o)) ((v_0 123 (T 82 o))) K_ V_) (hp2 : Cs_ K_ ((v_0 83 o)) ((v_0 84 o)) ((v_0 80 o))) : KZ l D cy κ T yX3_readCondition cX3_readCondition 4 none 13 [.ref o, .int (J 4)] v_0 (KV (fun (v_2 : Nat → Nat → Int) => ∃ (y80_2 : Nat → Int) (y83_2 : Nat → Int) (y84_2 : Nat → Int) (y86_2 : Nat → Int) (y300_2 : Nat → Int) , v_2 = upV (upV (upV (upV (upV v_0 80 y80_2) 83 y83_2) 84 y84_2) 86 y86_2) 300 y300_2 ∧ ((0 ≤ (y86_2 o) ∧ (y86_2 o) ≤ 400) ∧ Ro_ (v_0 300) (y300_2) (T 85 o) ∧ Ck_ S3_ (4 : Int) TX_ K_ V_ ((v_0 83 o)) ((v_0 80 o)) ((y83_2 o)) ((y84_2 o)) ((y80_2 o))))) := by
  refine KZ.ofv (by decide) (Nat.le_of_ble_eq_true rfl) hO ?_
  intro p e s m below meth c ls ar QW A0 H locs E hK hZ hA hAc hw hl hret
  have hl : lv_has ls 4 [(0, .ref o), (1, .int (J 4))] := hl
  have hT : WT T := hw.1.2.1
  have cs_ := hp2
  unfold Cs_ at cs_
  have nk_ : T 120 (T 82 o) ≠ T 85 o := ro_ne (wo_120 hT (wt_82 hT t_o)) (wo_85 hT t_o) (by decide) (by decide) (by omega)
  have nv_ : T 121 (T 82 o) ≠ T 85 o := ro_ne (wo_121 hT (wt_82 hT t_o)) (wo_85 hT t_o) (by decide) (by decide) (by omega)
  refine j_aload_n E 1 rfl dX3_readCondition_0 rfl (lv_at hl 0 rfl) ?_
  refine g_84 E hK hw fl_X3_30 t_o (v_0 84 o) rfl 4 rfl dX3_readCondition_1 (fun rr1_ => ?_)
  refine j_bipush E 6 rfl dX3_readCondition_4 (by decide) ?_
  refine j_icmp_eq E 9 19 rfl rr1_ (rr (by decide)) dX3_readCondition_6 (by decide) (fun cc2_ => ?_) (fun cc2_ => ?_)
  · refine j_iconst E 20 rfl dX3_readCondition_19 ?_
    refine j_goto E 24 dX3_readCondition_20 (by decide) ?_
    refine j_istore_n E 25 rfl [(2, .int (J 1)), (0, .ref o), (1, .int (J 4))] dX3_readCondition_24 rfl hl (by decide) rfl (fun ls hl => ?_)
    refine j_iload_n E 26 rfl dX3_readCondition_25 rfl (lv_at hl 0 rfl) ?_
    refine j_if_eq E 29 43 rfl (rr (by decide)) dX3_readCondition_26 (by decide) (fun cc3_ => absurd cc3_ (by decide)) (fun _ => ?_)
    refine j_iload_n E 30 rfl dX3_readCondition_29 rfl (lv_at hl 2 rfl) ?_
    refine j_bipush E 32 rfl dX3_readCondition_30 (by decide) ?_
    refine j_icmp_lt E 35 43 rfl (rr (by decide)) (rr (by decide)) dX3_readCondition_32 (by decide) (fun _ => ?_) (fun cc4_ => absurd cc4_ (by decide))
    refine j_aload_n E 44 rfl dX3_readCondition_43 rfl (lv_at hl 1 rfl) ?_
    refine g_84 E hK hw fl_X3_30 t_o (v_0 84 o) rfl 47 rfl dX3_readCondition_44 (fun _ => ?_)
    refine j_bipush E 49 rfl dX3_readCondition_47 (by decide) ?_
    refine j_icmp_ne E 52 72 rfl rr1_ (rr (by decide)) dX3_readCondition_49 (by decide) (fun cc5_ => ?_) (fun cc5_ => ?_)
    · exfalso; omega
    refine j_aload_n E 53 rfl dX3_readCondition_52 rfl (lv_at hl 1 rfl) ?_
    have lt_ := RK_lt hp1 (j := (v_0 83 o)) (by omega)
    refine zV_v E (c_X3_step l D cy T (v_0) κ o K_ V_ hO t_o  (show RK_ (v_0 300) (T 120 (T 82 o)) (T 121 (T 82 o)) (((v_0 123) (T 82 o))) K_ V_ from hp1) (show 0 ≤ ((v_0 83) o) ∧ ((v_0 83) o) < 400 from by have q_ := RK_lt hp1 (j := (v_0 83 o)) (by omega); omega)) mt_X3_step ml_X3_54 hK hZ hAc hw (cw_rc4 hK hw.1 t_o) hA ⟨Nat.le_of_ble_eq_true rfl, Nat.le_of_ble_eq_true rfl⟩ ⟨Nat.le_of_ble_eq_true rfl, Nat.le_of_ble_eq_true rfl⟩ (As := []) (rest := []) rfl rfl hl.1 (Nat.le_of_ble_eq_true rfl) 56 rfl dX3_readCondition_53 (fun v_6 H locs hq6_ hw => ?_)
    obtain ⟨y83_6, y84_6, ev6_, hh6_⟩ := hq6_
    rw [ev6_] at hw; clear ev6_
    have hw : WK D cy T (upV (upV v_0 83 y83_6) 84 y84_6) A0 s.heap H locs := cw_eq hw (by first | rfl | (funext j_; simp only [upV, reduceIte]; (repeat' split) <;> first | rfl | omega | (subst_vars; rfl)))
    have hh6_ : (y83_6 o) = ((v_0 83) o) + 1 ∧ (y84_6 o) = K_ (((v_0 83) o) + 1) := hh6_
    have s1_ := hh6_
    refine j_aload_n E 57 rfl dX3_readCondition_56 rfl (lv_at hl 1 rfl) ?_
    refine j_iload_n E 58 rfl dX3_readCondition_57 rfl (lv_at hl 2 rfl) ?_
    refine j_iconst E 59 rfl dX3_readCondition_58 ?_
    refine j_iadd E 60 rfl dX3_readCondition_59 ?_
    refine j_lit (z := 5) (by decide) ?_
    refine zV_v E (c_X3_readConditions_n5 l D cy T (upV (upV v_0 83 y83_6) 84 y84_6) κ o K_ V_ hO t_o  (show 0 ≤ ((v_0 86) o) ∧ ((v_0 86) o) ≤ 400 from by omega) (show RK_ (v_0 300) (T 120 (T 82 o)) (T 121 (T 82 o)) (((v_0 123) (T 82 o))) K_ V_ from hp1) (show Cs_ K_ ((y83_6 o)) ((y84_6 o)) (((v_0 80) o)) from Cs_st hp2 (by omega) s1_.1 s1_.2 (by omega))) mt_X3_readConditions ml_X3_57 hK hZ hAc hw (cw_rc4 hK hw.1 t_o) hA ⟨Nat.le_of_ble_eq_true rfl, Nat.le_of_ble_eq_true rfl⟩ ⟨Nat.le_of_ble_eq_true rfl, Nat.le_of_ble_eq_true rfl⟩ (As := [.int (J 5)]) (rest := []) rfl rfl hl.1 (Nat.le_of_ble_eq_true rfl) 63 rfl dX3_readCondition_60 (fun v_7 H locs hq7_ hw => ?_)
    obtain ⟨y80_7, y83_7, y84_7, y86_7, y300_7, ev7_, hh7_⟩ := hq7_
    rw [ev7_] at hw; clear ev7_
    have hw : WK D cy T (upV (upV (upV (upV (upV v_0 80 y80_7) 83 y83_7) 84 y84_7) 86 y86_7) 300 y300_7) A0 s.heap H locs := cw_eq hw (by first | rfl | (funext j_; simp only [upV, reduceIte]; (repeat' split) <;> first | rfl | omega | (subst_vars; rfl)))
    have hh7_ : (0 ≤ (y86_7 o) ∧ (y86_7 o) ≤ 400) ∧ Ro_ (v_0 300) (y300_7) (T 85 o) ∧ Ck_ S4_ (5 : Int) (NA_ K_) K_ V_ ((y83_6 o)) (((v_0 80) o)) ((y83_7 o)) ((y84_7 o)) ((y80_7 o)) := hh7_
    have b_ := hh7_
    rw [s1_.1] at b_
    refine j_aload_n E 64 rfl dX3_readCondition_63 rfl (lv_at hl 1 rfl) ?_
    refine j_bipush E 66 rfl dX3_readCondition_64 (by decide) ?_
    refine zV_v E (c_X3_take l D cy T (upV (upV (upV (upV (upV v_0 80 y80_7) 83 y83_7) 84 y84_7) 86 y86_7) 300 y300_7) κ o 41 K_ V_ hO t_o (rr (by decide)) (show RK_ (y300_7) (T 120 (T 82 o)) (T 121 (T 82 o)) (((v_0 123) (T 82 o))) K_ V_ from RK_ro hp1 b_.2.1 nk_ nv_) (show Cs_ K_ ((y83_7 o)) ((y84_7 o)) ((y80_7 o)) from Ck_cs (Cs_st (a1 := v_0 83 o + 1) (k1 := K_ (v_0 83 o + 1)) hp2 (by omega) rfl rfl (by omega)) b_.2.2) (show 3 < (41 : Int) from by omega)) mt_X3_take ml_X3_47 hK hZ hAc hw (cw_rc4 hK hw.1 t_o) hA ⟨Nat.le_of_ble_eq_true rfl, Nat.le_of_ble_eq_true rfl⟩ ⟨Nat.le_of_ble_eq_true rfl, Nat.le_of_ble_eq_true rfl⟩ (As := [.int (J 41)]) (rest := []) rfl rfl hl.1 (Nat.le_of_ble_eq_true rfl) 69 rfl dX3_readCondition_66 (fun v_8 H locs hq8_ hw => ?_)
    obtain ⟨y80_8, y83_8, y84_8, ev8_, hh8_⟩ := hq8_
    rw [ev8_] at hw; clear ev8_
    have hw : WK D cy T (upV (upV (upV (upV (upV v_0 80 y80_8) 83 y83_8) 84 y84_8) 86 y86_7) 300 y300_7) A0 s.heap H locs := cw_eq hw (by first | rfl | (funext j_; simp only [upV, reduceIte]; (repeat' split) <;> first | rfl | omega | (subst_vars; rfl)))
    have hh8_ : (((y84_7 o) = (41 : Int)) ∧ (y83_8 o) = (y83_7 o) + 1 ∧ (y84_8 o) = K_ ((y83_7 o) + 1) ∧ (y80_8 o) = (y80_7 o)) ∨ (¬ ((y84_7 o) = (41 : Int)) ∧ (y83_8 o) = (y83_7 o) ∧ (y84_8 o) = 2 ∧ (((y80_7 o) = 0 ∧ (y80_8 o) = 1) ∨ (¬ (y80_7 o) = 0 ∧ (y80_8 o) = (y80_7 o)))) := hh8_
    have t_ := hh8_
    refine j_goto E 126 dX3_readCondition_69 (by decide) ?_
    exact hret 126 (upV (upV (upV (upV (upV v_0 80 y80_8) 83 y83_8) 84 y84_8) 86 y86_7) 300 y300_7) _ _ ls hw ⟨y80_8, y83_8, y84_8, y86_7, y300_7, rfl, by first | exact ⟨by omega, Ro_rf, ck_deep rfl hp2 (by omega) rfl r_.1 r_.2⟩ | exact ⟨by omega, b_.2.1, ck_bra (by omega) hp2 (by omega) b_.2.2 t_ (fun q_ => (RK_lt hp1 (ck_k b_.2.2 q_)).2)⟩ | exact ⟨by omega, Ro_tr n_.2.1 ro_, ck_not (by omega) hp2 (by omega) n_.2.2⟩ | exact ⟨by omega, Ro_tr e1_.2.1 (Ro_tr e2_.2.1 ro_), ck_cmp hp2 (by omega) (by omega) e1_.2.2 t_ e2_.2.2⟩⟩ dX3_readCondition_126
  · refine j_aload_n E 10 rfl dX3_readCondition_9 rfl (lv_at hl 0 rfl) ?_
    refine g_84 E hK hw fl_X3_30 t_o (v_0 84 o) rfl 13 rfl dX3_readCondition_10 (fun _ => ?_)
    refine j_sipush E 16 rfl dX3_readCondition_13 (by decide) ?_
    refine j_icmp_ne E 19 23 rfl rr1_ (rr (by decide)) dX3_readCondition_16 (by decide) (fun cc9_ => ?_) (fun cc9_ => ?_)
    · refine j_iconst E 24 rfl dX3_readCondition_23 ?_
      refine j_istore_n E 25 rfl [(2, .int (J 0)), (0, .ref o), (1, .int (J 4))] dX3_readCondition_24 rfl hl (by decide) rfl (fun ls hl => ?_)
      refine j_iload_n E 26 rfl dX3_readCondition_25 rfl (lv_at hl 0 rfl) ?_
      refine j_if_eq E 29 43 rfl (rr (by decide)) dX3_readCondition_26 (by decide) (fun _ => ?_) (fun cc10_ => absurd cc10_ (by decide))
      refine j_aload_n E 44 rfl dX3_readCondition_43 rfl (lv_at hl 1 rfl) ?_
      refine g_84 E hK hw fl_X3_30 t_o (v_0 84 o) rfl 47 rfl dX3_readCondition_44 (fun _ => ?_)
      refine j_bipush E 49 rfl dX3_readCondition_47 (by decide) ?_
      refine j_icmp_ne E 52 72 rfl rr1_ (rr (by decide)) dX3_readCondition_49 (by decide) (fun cc11_ => ?_) (fun cc11_ => ?_)
      rotate_left; · exfalso; omega
      refine j_aload_n E 73 rfl dX3_readCondition_72 rfl (lv_at hl 1 rfl) ?_
      refine g_84 E hK hw fl_X3_30 t_o (v_0 84 o) rfl 76 rfl dX3_readCondition_73 (fun _ => ?_)
      refine j_sipush E 79 rfl dX3_readCondition_76 (by decide) ?_
      refine j_icmp_ne E 82 103 rfl rr1_ (rr (by decide)) dX3_readCondition_79 (by decide) (fun cc12_ => ?_) (fun cc12_ => ?_)
      rotate_left; · exfalso; omega
      refine j_aload_n E 104 rfl dX3_readCondition_103 rfl (lv_at hl 1 rfl) ?_
      refine zV_v E (c_X3_readSum l D cy T (v_0) κ o K_ V_ hO t_o  (show 0 ≤ ((v_0 86) o) ∧ ((v_0 86) o) ≤ 400 from by omega) (show RK_ (v_0 300) (T 120 (T 82 o)) (T 121 (T 82 o)) (((v_0 123) (T 82 o))) K_ V_ from hp1) (show Cs_ K_ (((v_0 83) o)) (((v_0 84) o)) (((v_0 80) o)) from hp2)) mt_X3_readSum ml_X3_51 hK hZ hAc hw (cw_rc4 hK hw.1 t_o) hA ⟨Nat.le_of_ble_eq_true rfl, Nat.le_of_ble_eq_true rfl⟩ ⟨Nat.le_of_ble_eq_true rfl, Nat.le_of_ble_eq_true rfl⟩ (As := []) (rest := []) rfl rfl hl.1 (Nat.le_of_ble_eq_true rfl) 107 rfl dX3_readCondition_104 (fun v_13 H locs hq13_ hw => ?_)
      obtain ⟨y80_13, y83_13, y84_13, y86_13, y300_13, ev13_, hh13_⟩ := hq13_
      rw [ev13_] at hw; clear ev13_
      have hw : WK D cy T (upV (upV (upV (upV (upV v_0 80 y80_13) 83 y83_13) 84 y84_13) 86 y86_13) 300 y300_13) A0 s.heap H locs := cw_eq hw (by first | rfl | (funext j_; simp only [upV, reduceIte]; (repeat' split) <;> first | rfl | omega | (subst_vars; rfl)))
      have hh13_ : (0 ≤ (y86_13 o) ∧ (y86_13 o) ≤ 400) ∧ Ro_ (v_0 300) (y300_13) (T 85 o) ∧ Cp_ S3_ (N4_ K_) K_ V_ (((v_0 83) o)) (((v_0 80) o)) ((y83_13 o)) ((y84_13 o)) ((y80_13 o)) := hh13_
      have e1_ := hh13_
      refine j_aload_n E 108 rfl dX3_readCondition_107 rfl (lv_at hl 1 rfl) ?_
      refine g_84 E hK hw fl_X3_30 t_o (y84_13 o) rfl 111 rfl dX3_readCondition_108 (fun rr14_ => ?_)
      refine j_istore_n E 112 rfl [(3, .int (J (y84_13 o))), (2, .int (J 0)), (0, .ref o), (1, .int (J 4))] dX3_readCondition_111 rfl hl (by decide) rfl (fun ls hl => ?_)
      refine j_aload_n E 113 rfl dX3_readCondition_112 rfl (lv_at hl 2 rfl) ?_
      refine zV_v E (c_X3_takeComparison l D cy T (upV (upV (upV (upV (upV v_0 80 y80_13) 83 y83_13) 84 y84_13) 86 y86_13) 300 y300_13) κ o K_ V_ hO t_o  (show RK_ (y300_13) (T 120 (T 82 o)) (T 121 (T 82 o)) (((v_0 123) (T 82 o))) K_ V_ from RK_ro hp1 e1_.2.1 nk_ nv_) (show Cs_ K_ ((y83_13 o)) ((y84_13 o)) ((y80_13 o)) from Cp_cs hp2 e1_.2.2)) mt_X3_takeComparison ml_X3_88 hK hZ hAc hw (cw_rc4 hK hw.1 t_o) hA ⟨Nat.le_of_ble_eq_true rfl, Nat.le_of_ble_eq_true rfl⟩ ⟨Nat.le_of_ble_eq_true rfl, Nat.le_of_ble_eq_true rfl⟩ (As := []) (rest := []) rfl rfl hl.1 (Nat.le_of_ble_eq_true rfl) 116 rfl dX3_readCondition_113 (fun v_15 H locs hq15_ hw => ?_)
      obtain ⟨y80_15, y83_15, y84_15, ev15_, hh15_⟩ := hq15_
      rw [ev15_] at hw; clear ev15_
      have hw : WK D cy T (upV (upV (upV (upV (upV v_0 80 y80_15) 83 y83_15) 84 y84_15) 86 y86_13) 300 y300_13) A0 s.heap H locs := cw_eq hw (by first | rfl | (funext j_; simp only [upV, reduceIte]; (repeat' split) <;> first | rfl | omega | (subst_vars; rfl)))
      have hh15_ : (((y84_13 o) = 60 ∨ (y84_13 o) = 61 ∨ (y84_13 o) = 62) ∧ (y83_15 o) = (y83_13 o) + 1 ∧ (y84_15 o) = K_ ((y83_13 o) + 1) ∧ (y80_15 o) = (y80_13 o)) ∨ (¬ ((y84_13 o) = 60 ∨ (y84_13 o) = 61 ∨ (y84_13 o) = 62) ∧ (y83_15 o) = (y83_13 o) ∧ (y84_15 o) = 2 ∧ (((y80_13 o) = 0 ∧ (y80_15 o) = 1) ∨ (¬ (y80_13 o) = 0 ∧ (y80_15 o) = (y80_13 o)))) := hh15_
      have t_ := hh15_
      refine j_aload_n E 117 rfl dX3_readCondition_116 rfl (lv_at hl 2 rfl) ?_
      refine zV_v E (c_X3_readSum l D cy T (upV (upV (upV (upV (upV v_0 80 y80_15) 83 y83_15) 84 y84_15) 86 y86_13) 300 y300_13) κ o K_ V_ hO t_o  (show 0 ≤ (y86_13 o) ∧ (y86_13 o) ≤ 400 from by omega) (show RK_ (y300_13) (T 120 (T 82 o)) (T 121 (T 82 o)) (((v_0 123) (T 82 o))) K_ V_ from RK_ro hp1 e1_.2.1 nk_ nv_) (show Cs_ K_ ((y83_15 o)) ((y84_15 o)) ((y80_15 o)) from Ct_cs (Cp_cs hp2 e1_.2.2) t_ (fun q_ => (RK_lt hp1 q_).2))) mt_X3_readSum ml_X3_51 hK hZ hAc hw (cw_rc4 hK hw.1 t_o) hA ⟨Nat.le_of_ble_eq_true rfl, Nat.le_of_ble_eq_true rfl⟩ ⟨Nat.le_of_ble_eq_true rfl, Nat.le_of_ble_eq_true rfl⟩ (As := []) (rest := []) rfl rfl hl.1 (Nat.le_of_ble_eq_true rfl) 120 rfl dX3_readCondition_117 (fun v_16 H locs hq16_ hw => ?_)
      obtain ⟨y80_16, y83_16, y84_16, y86_16, y300_16, ev16_, hh16_⟩ := hq16_
      rw [ev16_] at hw; clear ev16_
      have hw : WK D cy T (upV (upV (upV (upV (upV v_0 80 y80_16) 83 y83_16) 84 y84_16) 86 y86_16) 300 y300_16) A0 s.heap H locs := cw_eq hw (by first | rfl | (funext j_; simp only [upV, reduceIte]; (repeat' split) <;> first | rfl | omega | (subst_vars; rfl)))
      have hh16_ : (0 ≤ (y86_16 o) ∧ (y86_16 o) ≤ 400) ∧ Ro_ (y300_13) (y300_16) (T 85 o) ∧ Cp_ S3_ (N4_ K_) K_ V_ ((y83_15 o)) ((y80_15 o)) ((y83_16 o)) ((y84_16 o)) ((y80_16 o)) := hh16_
      have e2_ := hh16_
      refine j_aload_n E 121 rfl dX3_readCondition_120 rfl (lv_at hl 2 rfl) ?_
      refine j_iload_n E 122 rfl dX3_readCondition_121 rfl (lv_at hl 0 rfl) ?_
      refine j_ineg E 123 rfl dX3_readCondition_122 ?_
      refine j_norm (fun zz17_ rr17_ ee17_ => ?_)
      refine kV_v E (c_X3_emit l D cy T (upV (upV (upV (upV (upV v_0 80 y80_16) 83 y83_16) 84 y84_16) 86 y86_16) 300 y300_16) o zz17_  t_o rr17_ (show 0 ≤ (y86_16 o) ∧ (y86_16 o) ≤ 400 from by omega)) mt_X3_emit ml_X3_60 hK hw (cw_rc4 hK hw.1 t_o) hA ⟨Nat.le_of_ble_eq_true rfl, Nat.le_of_ble_eq_true rfl⟩ ⟨Nat.le_of_ble_eq_true rfl, Nat.le_of_ble_eq_true rfl⟩ (As := [.int (J zz17_)]) (rest := []) rfl rfl hl.1 (Nat.le_of_ble_eq_true rfl) 126 rfl dX3_readCondition_123 (fun v_18 H locs hq18_ hw => ?_)
      obtain ⟨y86_18, y300_18, ev18_, hh18_⟩ := hq18_
      rw [ev18_] at hw; clear ev18_
      have hw : WK D cy T (upV (upV (upV (upV (upV v_0 80 y80_16) 83 y83_16) 84 y84_16) 86 y86_18) 300 y300_18) A0 s.heap H locs := cw_eq hw (by first | rfl | (funext j_; simp only [upV, reduceIte]; (repeat' split) <;> first | rfl | omega | (subst_vars; rfl)))
      have hh18_ : (0 ≤ (y86_18 o) ∧ (y86_18 o) ≤ 400) ∧ Ro_ (y300_16) (y300_18) (T 85 o) := hh18_
      have ro_ := hh18_.2
      exact hret 126 (upV (upV (upV (upV (upV v_0 80 y80_16) 83 y83_16) 84 y84_16) 86 y86_18) 300 y300_18) _ _ ls hw ⟨y80_16, y83_16, y84_16, y86_18, y300_18, rfl, by first | exact ⟨by omega, Ro_rf, ck_deep rfl hp2 (by omega) rfl r_.1 r_.2⟩ | exact ⟨by omega, b_.2.1, ck_bra (by omega) hp2 (by omega) b_.2.2 t_ (fun q_ => (RK_lt hp1 (ck_k b_.2.2 q_)).2)⟩ | exact ⟨by omega, Ro_tr n_.2.1 ro_, ck_not (by omega) hp2 (by omega) n_.2.2⟩ | exact ⟨by omega, Ro_tr e1_.2.1 (Ro_tr e2_.2.1 ro_), ck_cmp hp2 (by omega) (by omega) e1_.2.2 t_ e2_.2.2⟩⟩ dX3_readCondition_126
    · refine j_iconst E 20 rfl dX3_readCondition_19 ?_
      refine j_goto E 24 dX3_readCondition_20 (by decide) ?_
      refine j_istore_n E 25 rfl [(2, .int (J 1)), (0, .ref o), (1, .int (J 4))] dX3_readCondition_24 rfl hl (by decide) rfl (fun ls hl => ?_)
      refine j_iload_n E 26 rfl dX3_readCondition_25 rfl (lv_at hl 0 rfl) ?_
      refine j_if_eq E 29 43 rfl (rr (by decide)) dX3_readCondition_26 (by decide) (fun cc19_ => absurd cc19_ (by decide)) (fun _ => ?_)
      refine j_iload_n E 30 rfl dX3_readCondition_29 rfl (lv_at hl 2 rfl) ?_
      refine j_bipush E 32 rfl dX3_readCondition_30 (by decide) ?_
      refine j_icmp_lt E 35 43 rfl (rr (by decide)) (rr (by decide)) dX3_readCondition_32 (by decide) (fun _ => ?_) (fun cc20_ => absurd cc20_ (by decide))
      refine j_aload_n E 44 rfl dX3_readCondition_43 rfl (lv_at hl 1 rfl) ?_
      refine g_84 E hK hw fl_X3_30 t_o (v_0 84 o) rfl 47 rfl dX3_readCondition_44 (fun _ => ?_)
      refine j_bipush E 49 rfl dX3_readCondition_47 (by decide) ?_
      refine j_icmp_ne E 52 72 rfl rr1_ (rr (by decide)) dX3_readCondition_49 (by decide) (fun cc21_ => ?_) (fun cc21_ => ?_)
      rotate_left; · exfalso; omega
      refine j_aload_n E 73 rfl dX3_readCondition_72 rfl (lv_at hl 1 rfl) ?_
      refine g_84 E hK hw fl_X3_30 t_o (v_0 84 o) rfl 76 rfl dX3_readCondition_73 (fun _ => ?_)
      refine j_sipush E 79 rfl dX3_readCondition_76 (by decide) ?_
      refine j_icmp_ne E 82 103 rfl rr1_ (rr (by decide)) dX3_readCondition_79 (by decide) (fun cc22_ => ?_) (fun cc22_ => ?_)
      · exfalso; omega
      refine j_aload_n E 83 rfl dX3_readCondition_82 rfl (lv_at hl 1 rfl) ?_
      have lt_ := RK_lt hp1 (j := (v_0 83 o)) (by omega)
      refine zV_v E (c_X3_step l D cy T (v_0) κ o K_ V_ hO t_o  (show RK_ (v_0 300) (T 120 (T 82 o)) (T 121 (T 82 o)) (((v_0 123) (T 82 o))) K_ V_ from hp1) (show 0 ≤ ((v_0 83) o) ∧ ((v_0 83) o) < 400 from by have q_ := RK_lt hp1 (j := (v_0 83 o)) (by omega); omega)) mt_X3_step ml_X3_54 hK hZ hAc hw (cw_rc4 hK hw.1 t_o) hA ⟨Nat.le_of_ble_eq_true rfl, Nat.le_of_ble_eq_true rfl⟩ ⟨Nat.le_of_ble_eq_true rfl, Nat.le_of_ble_eq_true rfl⟩ (As := []) (rest := []) rfl rfl hl.1 (Nat.le_of_ble_eq_true rfl) 86 rfl dX3_readCondition_83 (fun v_23 H locs hq23_ hw => ?_)
      obtain ⟨y83_23, y84_23, ev23_, hh23_⟩ := hq23_
      rw [ev23_] at hw; clear ev23_
      have hw : WK D cy T (upV (upV v_0 83 y83_23) 84 y84_23) A0 s.heap H locs := cw_eq hw (by first | rfl | (funext j_; simp only [upV, reduceIte]; (repeat' split) <;> first | rfl | omega | (subst_vars; rfl)))
      have hh23_ : (y83_23 o) = ((v_0 83) o) + 1 ∧ (y84_23 o) = K_ (((v_0 83) o) + 1) := hh23_
      have s2_ := hh23_
      refine j_aload_n E 87 rfl dX3_readCondition_86 rfl (lv_at hl 1 rfl) ?_
      refine j_iload_n E 88 rfl dX3_readCondition_87 rfl (lv_at hl 2 rfl) ?_
      refine j_iconst E 89 rfl dX3_readCondition_88 ?_
      refine j_iadd E 90 rfl dX3_readCondition_89 ?_
      refine j_lit (z := 5) (by decide) ?_
      refine zV_v E (c_X3_readCondition_n5 l D cy T (upV (upV v_0 83 y83_23) 84 y84_23) κ o K_ V_ hO t_o  (show 0 ≤ ((v_0 86) o) ∧ ((v_0 86) o) ≤ 400 from by omega) (show RK_ (v_0 300) (T 120 (T 82 o)) (T 121 (T 82 o)) (((v_0 123) (T 82 o))) K_ V_ from hp1) (show Cs_ K_ ((y83_23 o)) ((y84_23 o)) (((v_0 80) o)) from Cs_st hp2 (by omega) s2_.1 s2_.2 (by omega))) mt_X3_readCondition ml_X3_85 hK hZ hAc hw (cw_rc4 hK hw.1 t_o) hA ⟨Nat.le_of_ble_eq_true rfl, Nat.le_of_ble_eq_true rfl⟩ ⟨Nat.le_of_ble_eq_true rfl, Nat.le_of_ble_eq_true rfl⟩ (As := [.int (J 5)]) (rest := []) rfl rfl hl.1 (Nat.le_of_ble_eq_true rfl) 93 rfl dX3_readCondition_90 (fun v_24 H locs hq24_ hw => ?_)
      obtain ⟨y80_24, y83_24, y84_24, y86_24, y300_24, ev24_, hh24_⟩ := hq24_
      rw [ev24_] at hw; clear ev24_
      have hw : WK D cy T (upV (upV (upV (upV (upV v_0 80 y80_24) 83 y83_24) 84 y84_24) 86 y86_24) 300 y300_24) A0 s.heap H locs := cw_eq hw (by first | rfl | (funext j_; simp only [upV, reduceIte]; (repeat' split) <;> first | rfl | omega | (subst_vars; rfl)))
      have hh24_ : (0 ≤ (y86_24 o) ∧ (y86_24 o) ≤ 400) ∧ Ro_ (v_0 300) (y300_24) (T 85 o) ∧ Ck_ S3_ (5 : Int) TX_ K_ V_ ((y83_23 o)) (((v_0 80) o)) ((y83_24 o)) ((y84_24 o)) ((y80_24 o)) := hh24_
      have n_ := hh24_
      rw [s2_.1] at n_
      refine j_aload_n E 94 rfl dX3_readCondition_93 rfl (lv_at hl 1 rfl) ?_
      refine j_sipush E 97 rfl dX3_readCondition_94 (by decide) ?_
      refine kV_v E (c_X3_emit l D cy T (upV (upV (upV (upV (upV v_0 80 y80_24) 83 y83_24) 84 y84_24) 86 y86_24) 300 y300_24) o ((-306))  t_o (rr (by decide)) (show 0 ≤ (y86_24 o) ∧ (y86_24 o) ≤ 400 from by omega)) mt_X3_emit ml_X3_60 hK hw (cw_rc4 hK hw.1 t_o) hA ⟨Nat.le_of_ble_eq_true rfl, Nat.le_of_ble_eq_true rfl⟩ ⟨Nat.le_of_ble_eq_true rfl, Nat.le_of_ble_eq_true rfl⟩ (As := [.int (J ((-306)))]) (rest := []) rfl rfl hl.1 (Nat.le_of_ble_eq_true rfl) 100 rfl dX3_readCondition_97 (fun v_25 H locs hq25_ hw => ?_)
      obtain ⟨y86_25, y300_25, ev25_, hh25_⟩ := hq25_
      rw [ev25_] at hw; clear ev25_
      have hw : WK D cy T (upV (upV (upV (upV (upV v_0 80 y80_24) 83 y83_24) 84 y84_24) 86 y86_25) 300 y300_25) A0 s.heap H locs := cw_eq hw (by first | rfl | (funext j_; simp only [upV, reduceIte]; (repeat' split) <;> first | rfl | omega | (subst_vars; rfl)))
      have hh25_ : (0 ≤ (y86_25 o) ∧ (y86_25 o) ≤ 400) ∧ Ro_ (y300_24) (y300_25) (T 85 o) := hh25_
      have ro_ := hh25_.2
      refine j_goto E 126 dX3_readCondition_100 (by decide) ?_
      exact hret 126 (upV (upV (upV (upV (upV v_0 80 y80_24) 83 y83_24) 84 y84_24) 86 y86_25) 300 y300_25) _ _ ls hw ⟨y80_24, y83_24, y84_24, y86_25, y300_25, rfl, by first | exact ⟨by omega, Ro_rf, ck_deep rfl hp2 (by omega) rfl r_.1 r_.2⟩ | exact ⟨by omega, b_.2.1, ck_bra (by omega) hp2 (by omega) b_.2.2 t_ (fun q_ => (RK_lt hp1 (ck_k b_.2.2 q_)).2)⟩ | exact ⟨by omega, Ro_tr n_.2.1 ro_, ck_not (by omega) hp2 (by omega) n_.2.2⟩ | exact ⟨by omega, Ro_tr e1_.2.1 (Ro_tr e2_.2.1 ro_), ck_cmp hp2 (by omega) (by omega) e1_.2.2 t_ e2_.2.2⟩⟩ dX3_readCondition_126
set_option maxHeartbeats 4000000 in
set_option maxRecDepth 100000 in
theorem c_X3_readConditions_n4 (l : Launch) (D : va_G) (cy : Nat → ClassId) (T : Nat → Nat → Nat) (v_0 : Nat → Nat → Int) (κ : Nat → Nat → Nat) (o : Nat) (K_ : Int → Int) (V_ : Int → Int) (hO : ∀ x, ow T x → κ 2 2 ≤ x) (t_o : T 0 o = 4) (hp0 : 0 ≤ (v_0 86 o) ∧ (v_0 86 o) ≤ 400) (hp1 : RK_ (v_0 300) (T 120 (T 82 o)) (T 121 (T 82 o)) ((v_0 123 (T 82 o))) K_ V_) (hp2 : Cs_ K_ ((v_0 83 o)) ((v_0 84 o)) ((v_0 80 o))) : KZ l D cy κ T yX3_readConditions cX3_readConditions 5 none 14 [.ref o, .int (J 4)] v_0 (KV (fun (v_2 : Nat → Nat → Int) => ∃ (y80_2 : Nat → Int) (y83_2 : Nat → Int) (y84_2 : Nat → Int) (y86_2 : Nat → Int) (y300_2 : Nat → Int) , v_2 = upV (upV (upV (upV (upV v_0 80 y80_2) 83 y83_2) 84 y84_2) 86 y86_2) 300 y300_2 ∧ ((0 ≤ (y86_2 o) ∧ (y86_2 o) ≤ 400) ∧ Ro_ (v_0 300) (y300_2) (T 85 o) ∧ Ck_ S4_ (4 : Int) (NA_ K_) K_ V_ ((v_0 83 o)) ((v_0 80 o)) ((y83_2 o)) ((y84_2 o)) ((y80_2 o))))) := by
  refine KZ.ofv (by decide) (Nat.le_of_ble_eq_true rfl) hO ?_
  intro p e s m below meth c ls ar QW A0 H locs E hK hZ hA hAc hw hl hret
  have hl : lv_has ls 5 [(0, .ref o), (1, .int (J 4))] := hl
  have hT : WT T := hw.1.2.1
  have nk_ : T 120 (T 82 o) ≠ T 85 o := ro_ne (wo_120 hT (wt_82 hT t_o)) (wo_85 hT t_o) (by decide) (by decide) (by omega)
  have nv_ : T 121 (T 82 o) ≠ T 85 o := ro_ne (wo_121 hT (wt_82 hT t_o)) (wo_85 hT t_o) (by decide) (by decide) (by omega)
  have c0_ := hp2.1
  refine j_aload_n E 1 rfl dX3_readConditions_0 rfl (lv_at hl 0 rfl) ?_
  refine j_iload_n E 2 rfl dX3_readConditions_1 rfl (lv_at hl 1 rfl) ?_
  refine zV_v E (c_X3_readCondition_n4 l D cy T (v_0) κ o K_ V_ hO t_o  (show 0 ≤ ((v_0 86) o) ∧ ((v_0 86) o) ≤ 400 from by omega) (show RK_ (v_0 300) (T 120 (T 82 o)) (T 121 (T 82 o)) (((v_0 123) (T 82 o))) K_ V_ from hp1) (show Cs_ K_ (((v_0 83) o)) (((v_0 84) o)) (((v_0 80) o)) from hp2)) mt_X3_readCondition ml_X3_85 hK hZ hAc hw (cw_rc4 hK hw.1 t_o) hA ⟨Nat.le_of_ble_eq_true rfl, Nat.le_of_ble_eq_true rfl⟩ ⟨Nat.le_of_ble_eq_true rfl, Nat.le_of_ble_eq_true rfl⟩ (As := [.int (J 4)]) (rest := []) rfl rfl hl.1 (Nat.le_of_ble_eq_true rfl) 5 rfl dX3_readConditions_2 (fun v_1 H locs hq1_ hw => ?_)
  obtain ⟨y80_1, y83_1, y84_1, y86_1, y300_1, ev1_, hh1_⟩ := hq1_
  rw [ev1_] at hw; clear ev1_
  have hw : WK D cy T (upV (upV (upV (upV (upV v_0 80 y80_1) 83 y83_1) 84 y84_1) 86 y86_1) 300 y300_1) A0 s.heap H locs := cw_eq hw (by first | rfl | (funext j_; simp only [upV, reduceIte]; (repeat' split) <;> first | rfl | omega | (subst_vars; rfl)))
  have hh1_ : (0 ≤ (y86_1 o) ∧ (y86_1 o) ≤ 400) ∧ Ro_ (v_0 300) (y300_1) (T 85 o) ∧ Ck_ S3_ (4 : Int) TX_ K_ V_ (((v_0 83) o)) (((v_0 80) o)) ((y83_1 o)) ((y84_1 o)) ((y80_1 o)) := hh1_
  have u0_ := hh1_
  refine j_iconst E 6 rfl dX3_readConditions_5 ?_
  refine j_istore_n E 7 rfl [(2, .int (J 0)), (0, .ref o), (1, .int (J 4))] dX3_readConditions_6 rfl hl (by decide) rfl (fun ls hl => ?_)
  refine j_iconst E 8 rfl dX3_readConditions_7 ?_
  refine j_istore_n E 9 rfl [(3, .int (J 0)), (2, .int (J 0)), (0, .ref o), (1, .int (J 4))] dX3_readConditions_8 rfl hl (by decide) rfl (fun ls hl => ?_)
  have L9_2 : ∀ (k9 : Nat) (l2_9 l3_9 : Int) (y80_c9 : Nat → Int) (y83_c9 : Nat → Int) (y84_c9 : Nat → Int) (y86_c9 : Nat → Int) (y300_c9 : Nat → Int) (H : Heap) (locs : List Loc) (ls : Array Slot), inR l2_9 → inR l3_9 → ((0 ≤ (y86_c9 o) ∧ (y86_c9 o) ≤ 400) ∧ (Ro_ (v_0 300) (y300_c9) (T 85 o)) ∧ 0 ≤ l3_9 ∧ Co_ (4 : Int) K_ V_ (v_0 83 o) (v_0 80 o) l2_9 l3_9 ((y83_c9 o)) ((y84_c9 o)) ((y80_c9 o))) → (400 - l3_9).toNat < k9 → WK D cy T (upV (upV (upV (upV (upV v_0 80 y80_c9) 83 y83_c9) 84 y84_c9) 86 y86_c9) 300 y300_c9) A0 s.heap H locs → lv_has ls 5 [(0, .ref o), (1, .int (J 4)), (2, .int (J l2_9)), (3, .int (J l3_9))] → W p l e (rmd 14 0 0) s m ar below meth c H locs 0 0 QW (F0 m 9 ls []) := by
    intro k9
    induction k9 with
    | zero =>
      intro l2_9 l3_9 y80_c9 y83_c9 y84_c9 y86_c9 y300_c9 H locs ls r_l2_9 r_l3_9 iv9 ms9 hw hl
      exact absurd ms9 (Nat.not_lt_zero _)
    | succ k9 ih9 =>
      intro l2_9 l3_9 y80_c9 y83_c9 y84_c9 y86_c9 y300_c9 H locs ls r_l2_9 r_l3_9 iv9 ms9 hw hl
      have cs1_ := Co_cs hp2 iv9.2.2.2
      unfold Cs_ at cs1_
      have L111_4 : ∀ (H : Heap) (locs : List Loc) (ls : Array Slot), (¬ ((y84_c9 o) = 305 ∨ (y84_c9 o) = 304)) → WK D cy T (upV (upV (upV (upV (upV v_0 80 y80_c9) 83 y83_c9) 84 y84_c9) 86 y86_c9) 300 y300_c9) A0 s.heap H locs → lv_has ls 5 [(0, .ref o), (1, .int (J 4)), (2, .int (J l2_9)), (3, .int (J l3_9))] → W p l e (rmd 14 0 0) s m ar below meth c H locs 0 0 QW (F0 m 111 ls []) := by
        intro H locs ls iv111 hw hl
        refine j_iload_n E 112 rfl dX3_readConditions_111 rfl (lv_at hl 2 rfl) ?_
        refine j_if_eq E 115 122 rfl r_l2_9 dX3_readConditions_112 (by decide) (fun cc6_ => ?_) (fun cc6_ => ?_)
        · exact hret 122 (upV (upV (upV (upV (upV v_0 80 y80_c9) 83 y83_c9) 84 y84_c9) 86 y86_c9) 300 y300_c9) _ _ ls hw ⟨y80_c9, y83_c9, y84_c9, y86_c9, y300_c9, rfl, by first | exact ⟨by omega, Ro_tr iv9.2.1 roe_, Co_end iv9.2.2.2 iv111 (by omega)⟩ | exact ⟨by omega, iv9.2.1, Co_end iv9.2.2.2 iv111 (by omega)⟩⟩ dX3_readConditions_122
        · refine j_aload_n E 116 rfl dX3_readConditions_115 rfl (lv_at hl 0 rfl) ?_
          refine j_sipush E 119 rfl dX3_readConditions_116 (by decide) ?_
          refine kV_v E (c_X3_emit l D cy T (upV (upV (upV (upV (upV v_0 80 y80_c9) 83 y83_c9) 84 y84_c9) 86 y86_c9) 300 y300_c9) o ((-304))  t_o (rr (by decide)) (show 0 ≤ (y86_c9 o) ∧ (y86_c9 o) ≤ 400 from by omega)) mt_X3_emit ml_X3_60 hK hw (cw_rc4 hK hw.1 t_o) hA ⟨Nat.le_of_ble_eq_true rfl, Nat.le_of_ble_eq_true rfl⟩ ⟨Nat.le_of_ble_eq_true rfl, Nat.le_of_ble_eq_true rfl⟩ (As := [.int (J ((-304)))]) (rest := []) rfl rfl hl.1 (Nat.le_of_ble_eq_true rfl) 122 rfl dX3_readConditions_119 (fun v_7 H locs hq7_ hw => ?_)
          obtain ⟨y86_7, y300_7, ev7_, hh7_⟩ := hq7_
          rw [ev7_] at hw; clear ev7_
          have hw : WK D cy T (upV (upV (upV (upV (upV v_0 80 y80_c9) 83 y83_c9) 84 y84_c9) 86 y86_7) 300 y300_7) A0 s.heap H locs := cw_eq hw (by first | rfl | (funext j_; simp only [upV, reduceIte]; (repeat' split) <;> first | rfl | omega | (subst_vars; rfl)))
          have hh7_ : (0 ≤ (y86_7 o) ∧ (y86_7 o) ≤ 400) ∧ Ro_ (y300_c9) (y300_7) (T 85 o) := hh7_
          have roe_ := hh7_.2
          exact hret 122 (upV (upV (upV (upV (upV v_0 80 y80_c9) 83 y83_c9) 84 y84_c9) 86 y86_7) 300 y300_7) _ _ ls hw ⟨y80_c9, y83_c9, y84_c9, y86_7, y300_7, rfl, by first | exact ⟨by omega, Ro_tr iv9.2.1 roe_, Co_end iv9.2.2.2 iv111 (by omega)⟩ | exact ⟨by omega, iv9.2.1, Co_end iv9.2.2.2 iv111 (by omega)⟩⟩ dX3_readConditions_122
      refine j_iload_n E 10 rfl dX3_readConditions_9 rfl (lv_at hl 3 rfl) ?_
      refine j_sipush E 13 rfl dX3_readConditions_10 (by decide) ?_
      refine j_icmp_ge E 16 111 rfl r_l3_9 (rr (by decide)) dX3_readConditions_13 (by decide) (fun cc8_ => ?_) (fun cc8_ => ?_)
      · exact L111_4   H locs ls  (by first | omega | exact Co_i iv9.2.2.2 (by omega) (by omega)) hw (lv_sub hl [0, 1, 2, 3] rfl)
      · refine j_aload_n E 17 rfl dX3_readConditions_16 rfl (lv_at hl 0 rfl) ?_
        refine g_84 E hK hw fl_X3_30 t_o (y84_c9 o) rfl 20 rfl dX3_readConditions_17 (fun rr9_ => ?_)
        refine j_sipush E 23 rfl dX3_readConditions_20 (by decide) ?_
        refine j_icmp_eq E 26 36 rfl rr9_ (rr (by decide)) dX3_readConditions_23 (by decide) (fun cc10_ => ?_) (fun cc10_ => ?_)
        · have L51_11 : ∀ (s0_51 : Int) (H : Heap) (locs : List Loc) (ls : Array Slot), inR s0_51 → ((s0_51 = 1 ∧ (y84_c9 o) = 305) ∨ (s0_51 = 0 ∧ (y84_c9 o) = 304)) → WK D cy T (upV (upV (upV (upV (upV v_0 80 y80_c9) 83 y83_c9) 84 y84_c9) 86 y86_c9) 300 y300_c9) A0 s.heap H locs → lv_has ls 5 [(0, .ref o), (1, .int (J 4)), (2, .int (J l2_9)), (3, .int (J l3_9))] → W p l e (rmd 14 0 0) s m ar below meth c H locs 0 0 QW (F0 m 51 ls [.int (J s0_51)]) := by
            intro s0_51 H locs ls r_s0_51 iv51 hw hl
            refine j_istore E 53 rfl [(4, .int (J s0_51)), (0, .ref o), (1, .int (J 4)), (2, .int (J l2_9)), (3, .int (J l3_9))] dX3_readConditions_51 hl (by decide) rfl (fun ls hl => ?_)
            have L69_13 : ∀ (y86_c69 : Nat → Int) (y300_c69 : Nat → Int) (H : Heap) (locs : List Loc) (ls : Array Slot), ((0 ≤ (y86_c69 o) ∧ (y86_c69 o) ≤ 400) ∧ Ro_ (v_0 300) (y300_c69) (T 85 o)) → WK D cy T (upV (upV (upV (upV (upV v_0 80 y80_c9) 83 y83_c9) 84 y84_c9) 86 y86_c69) 300 y300_c69) A0 s.heap H locs → lv_has ls 5 [(0, .ref o), (1, .int (J 4)), (2, .int (J l2_9)), (3, .int (J l3_9)), (4, .int (J s0_51))] → W p l e (rmd 14 0 0) s m ar below meth c H locs 0 0 QW (F0 m 69 ls []) := by
              intro y86_c69 y300_c69 H locs ls iv69 hw hl
              refine j_aload_n E 70 rfl dX3_readConditions_69 rfl (lv_at hl 0 rfl) ?_
              have lt_ := RK_lt hp1 (j := (y83_c9 o)) (by omega)
              refine zV_v E (c_X3_step l D cy T (upV (upV (upV (upV (upV v_0 80 y80_c9) 83 y83_c9) 84 y84_c9) 86 y86_c69) 300 y300_c69) κ o K_ V_ hO t_o  (show RK_ (y300_c69) (T 120 (T 82 o)) (T 121 (T 82 o)) (((v_0 123) (T 82 o))) K_ V_ from RK_ro hp1 iv69.2 nk_ nv_) (show 0 ≤ (y83_c9 o) ∧ (y83_c9 o) < 400 from by have q_ := RK_lt hp1 (j := (y83_c9 o)) (by omega); omega)) mt_X3_step ml_X3_54 hK hZ hAc hw (cw_rc4 hK hw.1 t_o) hA ⟨Nat.le_of_ble_eq_true rfl, Nat.le_of_ble_eq_true rfl⟩ ⟨Nat.le_of_ble_eq_true rfl, Nat.le_of_ble_eq_true rfl⟩ (As := []) (rest := []) rfl rfl hl.1 (Nat.le_of_ble_eq_true rfl) 73 rfl dX3_readConditions_70 (fun v_15 H locs hq15_ hw => ?_)
              obtain ⟨y83_15, y84_15, ev15_, hh15_⟩ := hq15_
              rw [ev15_] at hw; clear ev15_
              have hw : WK D cy T (upV (upV (upV (upV (upV v_0 80 y80_c9) 83 y83_15) 84 y84_15) 86 y86_c69) 300 y300_c69) A0 s.heap H locs := cw_eq hw (by first | rfl | (funext j_; simp only [upV, reduceIte]; (repeat' split) <;> first | rfl | omega | (subst_vars; rfl)))
              have hh15_ : (y83_15 o) = (y83_c9 o) + 1 ∧ (y84_15 o) = K_ ((y83_c9 o) + 1) := hh15_
              have s_ := hh15_
              refine j_aload_n E 74 rfl dX3_readConditions_73 rfl (lv_at hl 0 rfl) ?_
              refine j_iload_n E 75 rfl dX3_readConditions_74 rfl (lv_at hl 1 rfl) ?_
              refine zV_v E (c_X3_readCondition_n4 l D cy T (upV (upV (upV (upV (upV v_0 80 y80_c9) 83 y83_15) 84 y84_15) 86 y86_c69) 300 y300_c69) κ o K_ V_ hO t_o  (show 0 ≤ (y86_c69 o) ∧ (y86_c69 o) ≤ 400 from by omega) (show RK_ (y300_c69) (T 120 (T 82 o)) (T 121 (T 82 o)) (((v_0 123) (T 82 o))) K_ V_ from RK_ro hp1 iv69.2 nk_ nv_) (show Cs_ K_ ((y83_15 o)) ((y84_15 o)) ((y80_c9 o)) from Cs_st (Co_cs hp2 iv9.2.2.2) (by omega) s_.1 s_.2 (by omega))) mt_X3_readCondition ml_X3_85 hK hZ hAc hw (cw_rc4 hK hw.1 t_o) hA ⟨Nat.le_of_ble_eq_true rfl, Nat.le_of_ble_eq_true rfl⟩ ⟨Nat.le_of_ble_eq_true rfl, Nat.le_of_ble_eq_true rfl⟩ (As := [.int (J 4)]) (rest := []) rfl rfl hl.1 (Nat.le_of_ble_eq_true rfl) 78 rfl dX3_readConditions_75 (fun v_16 H locs hq16_ hw => ?_)
              obtain ⟨y80_16, y83_16, y84_16, y86_16, y300_16, ev16_, hh16_⟩ := hq16_
              rw [ev16_] at hw; clear ev16_
              have hw : WK D cy T (upV (upV (upV (upV (upV v_0 80 y80_16) 83 y83_16) 84 y84_16) 86 y86_16) 300 y300_16) A0 s.heap H locs := cw_eq hw (by first | rfl | (funext j_; simp only [upV, reduceIte]; (repeat' split) <;> first | rfl | omega | (subst_vars; rfl)))
              have hh16_ : (0 ≤ (y86_16 o) ∧ (y86_16 o) ≤ 400) ∧ Ro_ (y300_c69) (y300_16) (T 85 o) ∧ Ck_ S3_ (4 : Int) TX_ K_ V_ ((y83_15 o)) ((y80_c9 o)) ((y83_16 o)) ((y84_16 o)) ((y80_16 o)) := hh16_
              have u_ := hh16_
              rw [s_.1] at u_
              refine j_iload E 80 rfl dX3_readConditions_78 (lv_at hl 4 rfl) ?_
              refine j_if_eq E 83 90 rfl r_s0_51 dX3_readConditions_80 (by decide) (fun cc17_ => ?_) (fun cc17_ => ?_)
              · have L104_18 : ∀ (s0_104 : Int) (H : Heap) (locs : List Loc) (ls : Array Slot), inR s0_104 → (((l2_9 ≠ 0 ∨ s0_51 = 0) ∧ s0_104 = 1) ∨ (l2_9 = 0 ∧ s0_51 ≠ 0 ∧ s0_104 = 0)) → WK D cy T (upV (upV (upV (upV (upV v_0 80 y80_16) 83 y83_16) 84 y84_16) 86 y86_16) 300 y300_16) A0 s.heap H locs → lv_has ls 5 [(0, .ref o), (1, .int (J 4)), (2, .int (J l2_9)), (3, .int (J l3_9)), (4, .int (J s0_51))] → W p l e (rmd 14 0 0) s m ar below meth c H locs 0 0 QW (F0 m 104 ls [.int (J s0_104)]) := by
                  intro s0_104 H locs ls r_s0_104 iv104 hw hl
                  refine j_istore_n E 105 rfl [(2, .int (J s0_104)), (0, .ref o), (1, .int (J 4)), (3, .int (J l3_9)), (4, .int (J s0_51))] dX3_readConditions_104 rfl hl (by decide) rfl (fun ls hl => ?_)
                  refine j_iinc E 108 rfl [(3, .int (J (l3_9 + 1))), (2, .int (J s0_104)), (0, .ref o), (1, .int (J 4)), (4, .int (J s0_51))] dX3_readConditions_105 hl (kk := 3) rfl (by decide) rfl (fun ls hl => ?_)
                  refine j_goto E 9 dX3_readConditions_108 (by decide) ?_
                  exact ih9 s0_104 (l3_9 + 1) y80_16 y83_16 y84_16 y86_16 y300_16 H locs ls r_s0_104 (rr (by omega)) (by have wq_ := (Co_run iv9.2.2.2 (by omega)).2.2.2.2.2.1; first | exact ⟨by omega, Ro_tr iv69.2 (Ro_tr u_.2.1 ro9_), by omega, by rw [show s0_104 = l2_9 by omega]; exact Co_and iv9.2.2.2 (by omega) u_.2.2⟩ | exact ⟨by omega, Ro_tr iv69.2 u_.2.1, by omega, by rw [show s0_104 = 1 by omega]; exact Co_or iv9.2.2.2 (by omega) u_.2.2⟩ | (exfalso; omega)) (by omega) hw (lv_sub hl [2, 3, 1, 0] rfl)
                refine j_iload_n E 91 rfl dX3_readConditions_90 rfl (lv_at hl 2 rfl) ?_
                refine j_if_ne E 94 99 rfl r_l2_9 dX3_readConditions_91 (by decide) (fun cc20_ => ?_) (fun cc20_ => ?_)
                · refine j_iconst E 100 rfl dX3_readConditions_99 ?_
                  refine j_goto E 104 dX3_readConditions_100 (by decide) ?_
                  exact L104_18 1  H locs ls (rr (by decide)) (by omega) hw (lv_sub hl [0, 1, 2, 3, 4] rfl)
                · refine j_iload E 96 rfl dX3_readConditions_94 (lv_at hl 4 rfl) ?_
                  refine j_if_ne E 99 103 rfl r_s0_51 dX3_readConditions_96 (by decide) (fun cc21_ => ?_) (fun cc21_ => ?_)
                  · exfalso; omega
                  refine j_iconst E 100 rfl dX3_readConditions_99 ?_
                  refine j_goto E 104 dX3_readConditions_100 (by decide) ?_
                  exact L104_18 1  H locs ls (rr (by decide)) (by omega) hw (lv_sub hl [0, 1, 2, 3, 4] rfl)
              · refine j_aload_n E 84 rfl dX3_readConditions_83 rfl (lv_at hl 0 rfl) ?_
                refine j_sipush E 87 rfl dX3_readConditions_84 (by decide) ?_
                refine kV_v E (c_X3_emit l D cy T (upV (upV (upV (upV (upV v_0 80 y80_16) 83 y83_16) 84 y84_16) 86 y86_16) 300 y300_16) o ((-305))  t_o (rr (by decide)) (show 0 ≤ (y86_16 o) ∧ (y86_16 o) ≤ 400 from by omega)) mt_X3_emit ml_X3_60 hK hw (cw_rc4 hK hw.1 t_o) hA ⟨Nat.le_of_ble_eq_true rfl, Nat.le_of_ble_eq_true rfl⟩ ⟨Nat.le_of_ble_eq_true rfl, Nat.le_of_ble_eq_true rfl⟩ (As := [.int (J ((-305)))]) (rest := []) rfl rfl hl.1 (Nat.le_of_ble_eq_true rfl) 90 rfl dX3_readConditions_87 (fun v_22 H locs hq22_ hw => ?_)
                obtain ⟨y86_22, y300_22, ev22_, hh22_⟩ := hq22_
                rw [ev22_] at hw; clear ev22_
                have hw : WK D cy T (upV (upV (upV (upV (upV v_0 80 y80_16) 83 y83_16) 84 y84_16) 86 y86_22) 300 y300_22) A0 s.heap H locs := cw_eq hw (by first | rfl | (funext j_; simp only [upV, reduceIte]; (repeat' split) <;> first | rfl | omega | (subst_vars; rfl)))
                have hh22_ : (0 ≤ (y86_22 o) ∧ (y86_22 o) ≤ 400) ∧ Ro_ (y300_16) (y300_22) (T 85 o) := hh22_
                have ro9_ := hh22_.2
                have L104_23 : ∀ (s0_104 : Int) (H : Heap) (locs : List Loc) (ls : Array Slot), inR s0_104 → (((l2_9 ≠ 0 ∨ s0_51 = 0) ∧ s0_104 = 1) ∨ (l2_9 = 0 ∧ s0_51 ≠ 0 ∧ s0_104 = 0)) → WK D cy T (upV (upV (upV (upV (upV v_0 80 y80_16) 83 y83_16) 84 y84_16) 86 y86_22) 300 y300_22) A0 s.heap H locs → lv_has ls 5 [(0, .ref o), (1, .int (J 4)), (2, .int (J l2_9)), (3, .int (J l3_9)), (4, .int (J s0_51))] → W p l e (rmd 14 0 0) s m ar below meth c H locs 0 0 QW (F0 m 104 ls [.int (J s0_104)]) := by
                  intro s0_104 H locs ls r_s0_104 iv104 hw hl
                  refine j_istore_n E 105 rfl [(2, .int (J s0_104)), (0, .ref o), (1, .int (J 4)), (3, .int (J l3_9)), (4, .int (J s0_51))] dX3_readConditions_104 rfl hl (by decide) rfl (fun ls hl => ?_)
                  refine j_iinc E 108 rfl [(3, .int (J (l3_9 + 1))), (2, .int (J s0_104)), (0, .ref o), (1, .int (J 4)), (4, .int (J s0_51))] dX3_readConditions_105 hl (kk := 3) rfl (by decide) rfl (fun ls hl => ?_)
                  refine j_goto E 9 dX3_readConditions_108 (by decide) ?_
                  exact ih9 s0_104 (l3_9 + 1) y80_16 y83_16 y84_16 y86_22 y300_22 H locs ls r_s0_104 (rr (by omega)) (by have wq_ := (Co_run iv9.2.2.2 (by omega)).2.2.2.2.2.1; first | exact ⟨by omega, Ro_tr iv69.2 (Ro_tr u_.2.1 ro9_), by omega, by rw [show s0_104 = l2_9 by omega]; exact Co_and iv9.2.2.2 (by omega) u_.2.2⟩ | exact ⟨by omega, Ro_tr iv69.2 u_.2.1, by omega, by rw [show s0_104 = 1 by omega]; exact Co_or iv9.2.2.2 (by omega) u_.2.2⟩ | (exfalso; omega)) (by omega) hw (lv_sub hl [2, 3, 1, 0] rfl)
                refine j_iload_n E 91 rfl dX3_readConditions_90 rfl (lv_at hl 2 rfl) ?_
                refine j_if_ne E 94 99 rfl r_l2_9 dX3_readConditions_91 (by decide) (fun cc25_ => ?_) (fun cc25_ => ?_)
                · refine j_iconst E 100 rfl dX3_readConditions_99 ?_
                  refine j_goto E 104 dX3_readConditions_100 (by decide) ?_
                  exact L104_23 1  H locs ls (rr (by decide)) (by omega) hw (lv_sub hl [0, 1, 2, 3, 4] rfl)
                · refine j_iload E 96 rfl dX3_readConditions_94 (lv_at hl 4 rfl) ?_
                  refine j_if_ne E 99 103 rfl r_s0_51 dX3_readConditions_96 (by decide) (fun cc26_ => ?_) (fun cc26_ => ?_)
                  rotate_left; · exfalso; omega
                  refine j_iconst E 104 rfl dX3_readConditions_103 ?_
                  exact L104_23 0  H locs ls (rr (by decide)) (by omega) hw (lv_sub hl [0, 1, 2, 3, 4] rfl)
            refine j_iload E 55 rfl dX3_readConditions_53 (lv_at hl 0 rfl) ?_
            refine j_if_ne E 58 69 rfl r_s0_51 dX3_readConditions_55 (by decide) (fun cc27_ => ?_) (fun cc27_ => ?_)
            · exact L69_13  y86_c9 y300_c9 H locs ls  (by first | exact ⟨by omega, iv9.2.1⟩ | exact ⟨by omega, Ro_tr iv9.2.1 ro7_⟩) hw (lv_sub hl [1, 2, 3, 4, 0] rfl)
            · refine j_iload_n E 59 rfl dX3_readConditions_58 rfl (lv_at hl 3 rfl) ?_
              refine j_if_eq E 62 69 rfl r_l2_9 dX3_readConditions_59 (by decide) (fun cc28_ => ?_) (fun cc28_ => ?_)
              · exact L69_13  y86_c9 y300_c9 H locs ls  (by first | exact ⟨by omega, iv9.2.1⟩ | exact ⟨by omega, Ro_tr iv9.2.1 ro7_⟩) hw (lv_sub hl [1, 2, 3, 4, 0] rfl)
              · refine j_aload_n E 63 rfl dX3_readConditions_62 rfl (lv_at hl 1 rfl) ?_
                refine j_sipush E 66 rfl dX3_readConditions_63 (by decide) ?_
                refine kV_v E (c_X3_emit l D cy T (upV (upV (upV (upV (upV v_0 80 y80_c9) 83 y83_c9) 84 y84_c9) 86 y86_c9) 300 y300_c9) o ((-304))  t_o (rr (by decide)) (show 0 ≤ (y86_c9 o) ∧ (y86_c9 o) ≤ 400 from by omega)) mt_X3_emit ml_X3_60 hK hw (cw_rc4 hK hw.1 t_o) hA ⟨Nat.le_of_ble_eq_true rfl, Nat.le_of_ble_eq_true rfl⟩ ⟨Nat.le_of_ble_eq_true rfl, Nat.le_of_ble_eq_true rfl⟩ (As := [.int (J ((-304)))]) (rest := []) rfl rfl hl.1 (Nat.le_of_ble_eq_true rfl) 69 rfl dX3_readConditions_66 (fun v_29 H locs hq29_ hw => ?_)
                obtain ⟨y86_29, y300_29, ev29_, hh29_⟩ := hq29_
                rw [ev29_] at hw; clear ev29_
                have hw : WK D cy T (upV (upV (upV (upV (upV v_0 80 y80_c9) 83 y83_c9) 84 y84_c9) 86 y86_29) 300 y300_29) A0 s.heap H locs := cw_eq hw (by first | rfl | (funext j_; simp only [upV, reduceIte]; (repeat' split) <;> first | rfl | omega | (subst_vars; rfl)))
                have hh29_ : (0 ≤ (y86_29 o) ∧ (y86_29 o) ≤ 400) ∧ Ro_ (y300_c9) (y300_29) (T 85 o) := hh29_
                have ro7_ := hh29_.2
                exact L69_13  y86_29 y300_29 H locs ls  (by first | exact ⟨by omega, iv9.2.1⟩ | exact ⟨by omega, Ro_tr iv9.2.1 ro7_⟩) hw (lv_sub hl [1, 2, 3, 4, 0] rfl)
          refine j_aload_n E 37 rfl dX3_readConditions_36 rfl (lv_at hl 0 rfl) ?_
          refine g_84 E hK hw fl_X3_30 t_o (y84_c9 o) rfl 40 rfl dX3_readConditions_37 (fun _ => ?_)
          refine j_sipush E 43 rfl dX3_readConditions_40 (by decide) ?_
          refine j_icmp_ne E 46 50 rfl rr9_ (rr (by decide)) dX3_readConditions_43 (by decide) (fun cc30_ => ?_) (fun cc30_ => ?_)
          · exfalso; omega
          refine j_iconst E 47 rfl dX3_readConditions_46 ?_
          refine j_goto E 51 dX3_readConditions_47 (by decide) ?_
          exact L51_11 1  H locs ls (rr (by decide)) (by omega) hw (lv_sub hl [0, 1, 2, 3] rfl)
        · refine j_aload_n E 27 rfl dX3_readConditions_26 rfl (lv_at hl 0 rfl) ?_
          refine g_84 E hK hw fl_X3_30 t_o (y84_c9 o) rfl 30 rfl dX3_readConditions_27 (fun _ => ?_)
          refine j_sipush E 33 rfl dX3_readConditions_30 (by decide) ?_
          refine j_icmp_ne E 36 111 rfl rr9_ (rr (by decide)) dX3_readConditions_33 (by decide) (fun cc31_ => ?_) (fun cc31_ => ?_)
          · exact L111_4   H locs ls  (by first | omega | exact Co_i iv9.2.2.2 (by omega) (by omega)) hw (lv_sub hl [0, 1, 2, 3] rfl)
          · have L51_32 : ∀ (s0_51 : Int) (H : Heap) (locs : List Loc) (ls : Array Slot), inR s0_51 → ((s0_51 = 1 ∧ (y84_c9 o) = 305) ∨ (s0_51 = 0 ∧ (y84_c9 o) = 304)) → WK D cy T (upV (upV (upV (upV (upV v_0 80 y80_c9) 83 y83_c9) 84 y84_c9) 86 y86_c9) 300 y300_c9) A0 s.heap H locs → lv_has ls 5 [(0, .ref o), (1, .int (J 4)), (2, .int (J l2_9)), (3, .int (J l3_9))] → W p l e (rmd 14 0 0) s m ar below meth c H locs 0 0 QW (F0 m 51 ls [.int (J s0_51)]) := by
              intro s0_51 H locs ls r_s0_51 iv51 hw hl
              refine j_istore E 53 rfl [(4, .int (J s0_51)), (0, .ref o), (1, .int (J 4)), (2, .int (J l2_9)), (3, .int (J l3_9))] dX3_readConditions_51 hl (by decide) rfl (fun ls hl => ?_)
              have L69_34 : ∀ (y86_c69 : Nat → Int) (y300_c69 : Nat → Int) (H : Heap) (locs : List Loc) (ls : Array Slot), ((0 ≤ (y86_c69 o) ∧ (y86_c69 o) ≤ 400) ∧ Ro_ (v_0 300) (y300_c69) (T 85 o)) → WK D cy T (upV (upV (upV (upV (upV v_0 80 y80_c9) 83 y83_c9) 84 y84_c9) 86 y86_c69) 300 y300_c69) A0 s.heap H locs → lv_has ls 5 [(0, .ref o), (1, .int (J 4)), (2, .int (J l2_9)), (3, .int (J l3_9)), (4, .int (J s0_51))] → W p l e (rmd 14 0 0) s m ar below meth c H locs 0 0 QW (F0 m 69 ls []) := by
                intro y86_c69 y300_c69 H locs ls iv69 hw hl
                refine j_aload_n E 70 rfl dX3_readConditions_69 rfl (lv_at hl 0 rfl) ?_
                have lt_ := RK_lt hp1 (j := (y83_c9 o)) (by omega)
                refine zV_v E (c_X3_step l D cy T (upV (upV (upV (upV (upV v_0 80 y80_c9) 83 y83_c9) 84 y84_c9) 86 y86_c69) 300 y300_c69) κ o K_ V_ hO t_o  (show RK_ (y300_c69) (T 120 (T 82 o)) (T 121 (T 82 o)) (((v_0 123) (T 82 o))) K_ V_ from RK_ro hp1 iv69.2 nk_ nv_) (show 0 ≤ (y83_c9 o) ∧ (y83_c9 o) < 400 from by have q_ := RK_lt hp1 (j := (y83_c9 o)) (by omega); omega)) mt_X3_step ml_X3_54 hK hZ hAc hw (cw_rc4 hK hw.1 t_o) hA ⟨Nat.le_of_ble_eq_true rfl, Nat.le_of_ble_eq_true rfl⟩ ⟨Nat.le_of_ble_eq_true rfl, Nat.le_of_ble_eq_true rfl⟩ (As := []) (rest := []) rfl rfl hl.1 (Nat.le_of_ble_eq_true rfl) 73 rfl dX3_readConditions_70 (fun v_36 H locs hq36_ hw => ?_)
                obtain ⟨y83_36, y84_36, ev36_, hh36_⟩ := hq36_
                rw [ev36_] at hw; clear ev36_
                have hw : WK D cy T (upV (upV (upV (upV (upV v_0 80 y80_c9) 83 y83_36) 84 y84_36) 86 y86_c69) 300 y300_c69) A0 s.heap H locs := cw_eq hw (by first | rfl | (funext j_; simp only [upV, reduceIte]; (repeat' split) <;> first | rfl | omega | (subst_vars; rfl)))
                have hh36_ : (y83_36 o) = (y83_c9 o) + 1 ∧ (y84_36 o) = K_ ((y83_c9 o) + 1) := hh36_
                have s_ := hh36_
                refine j_aload_n E 74 rfl dX3_readConditions_73 rfl (lv_at hl 0 rfl) ?_
                refine j_iload_n E 75 rfl dX3_readConditions_74 rfl (lv_at hl 1 rfl) ?_
                refine zV_v E (c_X3_readCondition_n4 l D cy T (upV (upV (upV (upV (upV v_0 80 y80_c9) 83 y83_36) 84 y84_36) 86 y86_c69) 300 y300_c69) κ o K_ V_ hO t_o  (show 0 ≤ (y86_c69 o) ∧ (y86_c69 o) ≤ 400 from by omega) (show RK_ (y300_c69) (T 120 (T 82 o)) (T 121 (T 82 o)) (((v_0 123) (T 82 o))) K_ V_ from RK_ro hp1 iv69.2 nk_ nv_) (show Cs_ K_ ((y83_36 o)) ((y84_36 o)) ((y80_c9 o)) from Cs_st (Co_cs hp2 iv9.2.2.2) (by omega) s_.1 s_.2 (by omega))) mt_X3_readCondition ml_X3_85 hK hZ hAc hw (cw_rc4 hK hw.1 t_o) hA ⟨Nat.le_of_ble_eq_true rfl, Nat.le_of_ble_eq_true rfl⟩ ⟨Nat.le_of_ble_eq_true rfl, Nat.le_of_ble_eq_true rfl⟩ (As := [.int (J 4)]) (rest := []) rfl rfl hl.1 (Nat.le_of_ble_eq_true rfl) 78 rfl dX3_readConditions_75 (fun v_37 H locs hq37_ hw => ?_)
                obtain ⟨y80_37, y83_37, y84_37, y86_37, y300_37, ev37_, hh37_⟩ := hq37_
                rw [ev37_] at hw; clear ev37_
                have hw : WK D cy T (upV (upV (upV (upV (upV v_0 80 y80_37) 83 y83_37) 84 y84_37) 86 y86_37) 300 y300_37) A0 s.heap H locs := cw_eq hw (by first | rfl | (funext j_; simp only [upV, reduceIte]; (repeat' split) <;> first | rfl | omega | (subst_vars; rfl)))
                have hh37_ : (0 ≤ (y86_37 o) ∧ (y86_37 o) ≤ 400) ∧ Ro_ (y300_c69) (y300_37) (T 85 o) ∧ Ck_ S3_ (4 : Int) TX_ K_ V_ ((y83_36 o)) ((y80_c9 o)) ((y83_37 o)) ((y84_37 o)) ((y80_37 o)) := hh37_
                have u_ := hh37_
                rw [s_.1] at u_
                refine j_iload E 80 rfl dX3_readConditions_78 (lv_at hl 4 rfl) ?_
                refine j_if_eq E 83 90 rfl r_s0_51 dX3_readConditions_80 (by decide) (fun cc38_ => ?_) (fun cc38_ => ?_)
                · have L104_39 : ∀ (s0_104 : Int) (H : Heap) (locs : List Loc) (ls : Array Slot), inR s0_104 → (((l2_9 ≠ 0 ∨ s0_51 = 0) ∧ s0_104 = 1) ∨ (l2_9 = 0 ∧ s0_51 ≠ 0 ∧ s0_104 = 0)) → WK D cy T (upV (upV (upV (upV (upV v_0 80 y80_37) 83 y83_37) 84 y84_37) 86 y86_37) 300 y300_37) A0 s.heap H locs → lv_has ls 5 [(0, .ref o), (1, .int (J 4)), (2, .int (J l2_9)), (3, .int (J l3_9)), (4, .int (J s0_51))] → W p l e (rmd 14 0 0) s m ar below meth c H locs 0 0 QW (F0 m 104 ls [.int (J s0_104)]) := by
                    intro s0_104 H locs ls r_s0_104 iv104 hw hl
                    refine j_istore_n E 105 rfl [(2, .int (J s0_104)), (0, .ref o), (1, .int (J 4)), (3, .int (J l3_9)), (4, .int (J s0_51))] dX3_readConditions_104 rfl hl (by decide) rfl (fun ls hl => ?_)
                    refine j_iinc E 108 rfl [(3, .int (J (l3_9 + 1))), (2, .int (J s0_104)), (0, .ref o), (1, .int (J 4)), (4, .int (J s0_51))] dX3_readConditions_105 hl (kk := 3) rfl (by decide) rfl (fun ls hl => ?_)
                    refine j_goto E 9 dX3_readConditions_108 (by decide) ?_
                    exact ih9 s0_104 (l3_9 + 1) y80_37 y83_37 y84_37 y86_37 y300_37 H locs ls r_s0_104 (rr (by omega)) (by have wq_ := (Co_run iv9.2.2.2 (by omega)).2.2.2.2.2.1; first | exact ⟨by omega, Ro_tr iv69.2 (Ro_tr u_.2.1 ro9_), by omega, by rw [show s0_104 = l2_9 by omega]; exact Co_and iv9.2.2.2 (by omega) u_.2.2⟩ | exact ⟨by omega, Ro_tr iv69.2 u_.2.1, by omega, by rw [show s0_104 = 1 by omega]; exact Co_or iv9.2.2.2 (by omega) u_.2.2⟩ | (exfalso; omega)) (by omega) hw (lv_sub hl [2, 3, 1, 0] rfl)
                  refine j_iload_n E 91 rfl dX3_readConditions_90 rfl (lv_at hl 2 rfl) ?_
                  refine j_if_ne E 94 99 rfl r_l2_9 dX3_readConditions_91 (by decide) (fun cc41_ => ?_) (fun cc41_ => ?_)
                  · refine j_iconst E 100 rfl dX3_readConditions_99 ?_
                    refine j_goto E 104 dX3_readConditions_100 (by decide) ?_
                    exact L104_39 1  H locs ls (rr (by decide)) (by omega) hw (lv_sub hl [0, 1, 2, 3, 4] rfl)
                  · refine j_iload E 96 rfl dX3_readConditions_94 (lv_at hl 4 rfl) ?_
                    refine j_if_ne E 99 103 rfl r_s0_51 dX3_readConditions_96 (by decide) (fun cc42_ => ?_) (fun cc42_ => ?_)
                    · exfalso; omega
                    refine j_iconst E 100 rfl dX3_readConditions_99 ?_
                    refine j_goto E 104 dX3_readConditions_100 (by decide) ?_
                    exact L104_39 1  H locs ls (rr (by decide)) (by omega) hw (lv_sub hl [0, 1, 2, 3, 4] rfl)
                · refine j_aload_n E 84 rfl dX3_readConditions_83 rfl (lv_at hl 0 rfl) ?_
                  refine j_sipush E 87 rfl dX3_readConditions_84 (by decide) ?_
                  refine kV_v E (c_X3_emit l D cy T (upV (upV (upV (upV (upV v_0 80 y80_37) 83 y83_37) 84 y84_37) 86 y86_37) 300 y300_37) o ((-305))  t_o (rr (by decide)) (show 0 ≤ (y86_37 o) ∧ (y86_37 o) ≤ 400 from by omega)) mt_X3_emit ml_X3_60 hK hw (cw_rc4 hK hw.1 t_o) hA ⟨Nat.le_of_ble_eq_true rfl, Nat.le_of_ble_eq_true rfl⟩ ⟨Nat.le_of_ble_eq_true rfl, Nat.le_of_ble_eq_true rfl⟩ (As := [.int (J ((-305)))]) (rest := []) rfl rfl hl.1 (Nat.le_of_ble_eq_true rfl) 90 rfl dX3_readConditions_87 (fun v_43 H locs hq43_ hw => ?_)
                  obtain ⟨y86_43, y300_43, ev43_, hh43_⟩ := hq43_
                  rw [ev43_] at hw; clear ev43_
                  have hw : WK D cy T (upV (upV (upV (upV (upV v_0 80 y80_37) 83 y83_37) 84 y84_37) 86 y86_43) 300 y300_43) A0 s.heap H locs := cw_eq hw (by first | rfl | (funext j_; simp only [upV, reduceIte]; (repeat' split) <;> first | rfl | omega | (subst_vars; rfl)))
                  have hh43_ : (0 ≤ (y86_43 o) ∧ (y86_43 o) ≤ 400) ∧ Ro_ (y300_37) (y300_43) (T 85 o) := hh43_
                  have ro9_ := hh43_.2
                  have L104_44 : ∀ (s0_104 : Int) (H : Heap) (locs : List Loc) (ls : Array Slot), inR s0_104 → (((l2_9 ≠ 0 ∨ s0_51 = 0) ∧ s0_104 = 1) ∨ (l2_9 = 0 ∧ s0_51 ≠ 0 ∧ s0_104 = 0)) → WK D cy T (upV (upV (upV (upV (upV v_0 80 y80_37) 83 y83_37) 84 y84_37) 86 y86_43) 300 y300_43) A0 s.heap H locs → lv_has ls 5 [(0, .ref o), (1, .int (J 4)), (2, .int (J l2_9)), (3, .int (J l3_9)), (4, .int (J s0_51))] → W p l e (rmd 14 0 0) s m ar below meth c H locs 0 0 QW (F0 m 104 ls [.int (J s0_104)]) := by
                    intro s0_104 H locs ls r_s0_104 iv104 hw hl
                    refine j_istore_n E 105 rfl [(2, .int (J s0_104)), (0, .ref o), (1, .int (J 4)), (3, .int (J l3_9)), (4, .int (J s0_51))] dX3_readConditions_104 rfl hl (by decide) rfl (fun ls hl => ?_)
                    refine j_iinc E 108 rfl [(3, .int (J (l3_9 + 1))), (2, .int (J s0_104)), (0, .ref o), (1, .int (J 4)), (4, .int (J s0_51))] dX3_readConditions_105 hl (kk := 3) rfl (by decide) rfl (fun ls hl => ?_)
                    refine j_goto E 9 dX3_readConditions_108 (by decide) ?_
                    exact ih9 s0_104 (l3_9 + 1) y80_37 y83_37 y84_37 y86_43 y300_43 H locs ls r_s0_104 (rr (by omega)) (by have wq_ := (Co_run iv9.2.2.2 (by omega)).2.2.2.2.2.1; first | exact ⟨by omega, Ro_tr iv69.2 (Ro_tr u_.2.1 ro9_), by omega, by rw [show s0_104 = l2_9 by omega]; exact Co_and iv9.2.2.2 (by omega) u_.2.2⟩ | exact ⟨by omega, Ro_tr iv69.2 u_.2.1, by omega, by rw [show s0_104 = 1 by omega]; exact Co_or iv9.2.2.2 (by omega) u_.2.2⟩ | (exfalso; omega)) (by omega) hw (lv_sub hl [2, 3, 1, 0] rfl)
                  refine j_iload_n E 91 rfl dX3_readConditions_90 rfl (lv_at hl 2 rfl) ?_
                  refine j_if_ne E 94 99 rfl r_l2_9 dX3_readConditions_91 (by decide) (fun cc46_ => ?_) (fun cc46_ => ?_)
                  · refine j_iconst E 100 rfl dX3_readConditions_99 ?_
                    refine j_goto E 104 dX3_readConditions_100 (by decide) ?_
                    exact L104_44 1  H locs ls (rr (by decide)) (by omega) hw (lv_sub hl [0, 1, 2, 3, 4] rfl)
                  · refine j_iload E 96 rfl dX3_readConditions_94 (lv_at hl 4 rfl) ?_
                    refine j_if_ne E 99 103 rfl r_s0_51 dX3_readConditions_96 (by decide) (fun cc47_ => ?_) (fun cc47_ => ?_)
                    rotate_left; · exfalso; omega
                    refine j_iconst E 104 rfl dX3_readConditions_103 ?_
                    exact L104_44 0  H locs ls (rr (by decide)) (by omega) hw (lv_sub hl [0, 1, 2, 3, 4] rfl)
              refine j_iload E 55 rfl dX3_readConditions_53 (lv_at hl 0 rfl) ?_
              refine j_if_ne E 58 69 rfl r_s0_51 dX3_readConditions_55 (by decide) (fun cc48_ => ?_) (fun cc48_ => ?_)
              · exact L69_34  y86_c9 y300_c9 H locs ls  (by first | exact ⟨by omega, iv9.2.1⟩ | exact ⟨by omega, Ro_tr iv9.2.1 ro7_⟩) hw (lv_sub hl [1, 2, 3, 4, 0] rfl)
              · refine j_iload_n E 59 rfl dX3_readConditions_58 rfl (lv_at hl 3 rfl) ?_
                refine j_if_eq E 62 69 rfl r_l2_9 dX3_readConditions_59 (by decide) (fun cc49_ => ?_) (fun cc49_ => ?_)
                · exact L69_34  y86_c9 y300_c9 H locs ls  (by first | exact ⟨by omega, iv9.2.1⟩ | exact ⟨by omega, Ro_tr iv9.2.1 ro7_⟩) hw (lv_sub hl [1, 2, 3, 4, 0] rfl)
                · refine j_aload_n E 63 rfl dX3_readConditions_62 rfl (lv_at hl 1 rfl) ?_
                  refine j_sipush E 66 rfl dX3_readConditions_63 (by decide) ?_
                  refine kV_v E (c_X3_emit l D cy T (upV (upV (upV (upV (upV v_0 80 y80_c9) 83 y83_c9) 84 y84_c9) 86 y86_c9) 300 y300_c9) o ((-304))  t_o (rr (by decide)) (show 0 ≤ (y86_c9 o) ∧ (y86_c9 o) ≤ 400 from by omega)) mt_X3_emit ml_X3_60 hK hw (cw_rc4 hK hw.1 t_o) hA ⟨Nat.le_of_ble_eq_true rfl, Nat.le_of_ble_eq_true rfl⟩ ⟨Nat.le_of_ble_eq_true rfl, Nat.le_of_ble_eq_true rfl⟩ (As := [.int (J ((-304)))]) (rest := []) rfl rfl hl.1 (Nat.le_of_ble_eq_true rfl) 69 rfl dX3_readConditions_66 (fun v_50 H locs hq50_ hw => ?_)
                  obtain ⟨y86_50, y300_50, ev50_, hh50_⟩ := hq50_
                  rw [ev50_] at hw; clear ev50_
                  have hw : WK D cy T (upV (upV (upV (upV (upV v_0 80 y80_c9) 83 y83_c9) 84 y84_c9) 86 y86_50) 300 y300_50) A0 s.heap H locs := cw_eq hw (by first | rfl | (funext j_; simp only [upV, reduceIte]; (repeat' split) <;> first | rfl | omega | (subst_vars; rfl)))
                  have hh50_ : (0 ≤ (y86_50 o) ∧ (y86_50 o) ≤ 400) ∧ Ro_ (y300_c9) (y300_50) (T 85 o) := hh50_
                  have ro7_ := hh50_.2
                  exact L69_34  y86_50 y300_50 H locs ls  (by first | exact ⟨by omega, iv9.2.1⟩ | exact ⟨by omega, Ro_tr iv9.2.1 ro7_⟩) hw (lv_sub hl [1, 2, 3, 4, 0] rfl)
            refine j_aload_n E 37 rfl dX3_readConditions_36 rfl (lv_at hl 0 rfl) ?_
            refine g_84 E hK hw fl_X3_30 t_o (y84_c9 o) rfl 40 rfl dX3_readConditions_37 (fun _ => ?_)
            refine j_sipush E 43 rfl dX3_readConditions_40 (by decide) ?_
            refine j_icmp_ne E 46 50 rfl rr9_ (rr (by decide)) dX3_readConditions_43 (by decide) (fun cc51_ => ?_) (fun cc51_ => ?_)
            rotate_left; · exfalso; omega
            refine j_iconst E 51 rfl dX3_readConditions_50 ?_
            exact L51_32 0  H locs ls (rr (by decide)) (by omega) hw (lv_sub hl [0, 1, 2, 3] rfl)
  exact L9_2 _ 0 0 y80_1 y83_1 y84_1 y86_1 y300_1 H locs ls (rr (by decide)) (rr (by decide)) (⟨by omega, u0_.2.1, by omega, Co_0 hp2.1.1 u0_.2.2⟩) (Nat.lt_succ_self _) hw (lv_sub hl [2, 3, 1, 0] rfl)
