theorem frl_ {D d nL : Nat} (h : d + 1 ≤ D) (hn : nL ≤ 31) : d + 1 ≤ (rmd D 0 0).frames ∧ 8 + (nL + 11) + 50 * d ≤ (rmd D 0 0).locals := ⟨h, by show _ ≤ 50 * D; omega⟩
def RC_ (qq_ : Int) (dd_ : Nat) : Prop := ∀ (l : Launch) (D : va_G) (cy : Nat → ClassId) (T : Nat → Nat → Nat) (v_0 : Nat → Nat → Int) (κ : Nat → Nat → Nat) (o : Nat) (v_q : Int) (K_ : Int → Int) (V_ : Int → Int) (b_ : Int) (hO : ∀ x, ow T x → κ 2 2 ≤ x) (t_o : T 0 o = 4) (r_v_q : inR v_q) (hp0 : 0 ≤ b_ ∧ b_ ≤ (v_0 86 o) ∧ (v_0 86 o) ≤ 400) (hp1 : RK_ (v_0 300) (T 120 (T 82 o)) (T 121 (T 82 o)) ((v_0 123 (T 82 o))) K_ V_) (hp2 : Cs_ K_ ((v_0 83 o)) ((v_0 84 o)) ((v_0 80 o))) (hp3 : (v_0 80 o) = 0 → (v_0 86 o) ≤ (v_0 83 o)) (hp4 : v_q = qq_), KZ l D cy κ T yX3_readCondition cX3_readCondition 4 none dd_ [.ref o, .int (J v_q)] v_0 (KV (fun (v_2 : Nat → Nat → Int) => ∃ (y80_2 : Nat → Int) (y83_2 : Nat → Int) (y84_2 : Nat → Int) (y86_2 : Nat → Int) (y300_2 : Nat → Int) , v_2 = upV (upV (upV (upV (upV v_0 80 y80_2) 83 y83_2) 84 y84_2) 86 y86_2) 300 y300_2 ∧ ((((b_ ≤ (y86_2 o) ∧ (y86_2 o) ≤ 400 ∧ (v_0 86 o) ≤ (y86_2 o) ∧ 0 ≤ (y83_2 o) ∧ (y83_2 o) ≤ 400) ∧ ((y80_2 o) = 0 → (v_0 80 o) = 0 ∧ (v_0 86 o) < (y86_2 o) ∧ (y86_2 o) - (v_0 86 o) ≤ (y83_2 o) - (v_0 83 o))) ∧ Rb_ (v_0 300) (y300_2) (T 85 o) b_ ∧ Ck_ S3_ (v_q : Int) TX_ K_ V_ ((v_0 83 o)) ((v_0 80 o)) ((y83_2 o)) ((y84_2 o)) ((y80_2 o)) (lL_ (gC_ (v_0 300) (T 85 o)) b_ ((v_0 86 o))) (lL_ (gC_ (y300_2) (T 85 o)) b_ ((y86_2 o)))) ∧ Kd_ T [85] (v_0 300) y300_2)))
def RS_ (qq_ : Int) (dd_ : Nat) : Prop := ∀ (l : Launch) (D : va_G) (cy : Nat → ClassId) (T : Nat → Nat → Nat) (v_0 : Nat → Nat → Int) (κ : Nat → Nat → Nat) (o : Nat) (v_q : Int) (K_ : Int → Int) (V_ : Int → Int) (b_ : Int) (hO : ∀ x, ow T x → κ 2 2 ≤ x) (t_o : T 0 o = 4) (r_v_q : inR v_q) (hp0 : 0 ≤ b_ ∧ b_ ≤ (v_0 86 o) ∧ (v_0 86 o) ≤ 400) (hp1 : RK_ (v_0 300) (T 120 (T 82 o)) (T 121 (T 82 o)) ((v_0 123 (T 82 o))) K_ V_) (hp2 : Cs_ K_ ((v_0 83 o)) ((v_0 84 o)) ((v_0 80 o))) (hp3 : (v_0 80 o) = 0 → (v_0 86 o) ≤ (v_0 83 o)) (hp4 : v_q = qq_), KZ l D cy κ T yX3_readConditions cX3_readConditions 5 none dd_ [.ref o, .int (J v_q)] v_0 (KV (fun (v_2 : Nat → Nat → Int) => ∃ (y80_2 : Nat → Int) (y83_2 : Nat → Int) (y84_2 : Nat → Int) (y86_2 : Nat → Int) (y300_2 : Nat → Int) , v_2 = upV (upV (upV (upV (upV v_0 80 y80_2) 83 y83_2) 84 y84_2) 86 y86_2) 300 y300_2 ∧ ((((b_ ≤ (y86_2 o) ∧ (y86_2 o) ≤ 400 ∧ (v_0 86 o) ≤ (y86_2 o) ∧ 0 ≤ (y83_2 o) ∧ (y83_2 o) ≤ 400) ∧ ((y80_2 o) = 0 → (v_0 80 o) = 0 ∧ (v_0 86 o) < (y86_2 o) ∧ (y86_2 o) - (v_0 86 o) ≤ (y83_2 o) - (v_0 83 o))) ∧ Rb_ (v_0 300) (y300_2) (T 85 o) b_ ∧ Ck_ S4_ (v_q : Int) (NA_ K_) K_ V_ ((v_0 83 o)) ((v_0 80 o)) ((y83_2 o)) ((y84_2 o)) ((y80_2 o)) (lL_ (gC_ (v_0 300) (T 85 o)) b_ ((v_0 86 o))) (lL_ (gC_ (y300_2) (T 85 o)) b_ ((y86_2 o)))) ∧ Kd_ T [85] (v_0 300) y300_2)))
set_option maxHeartbeats 4000000 in
set_option maxRecDepth 100000 in
theorem g8_X3_readCondition (l : Launch) (D : va_G) (cy : Nat → ClassId) (T : Nat → Nat → Nat) (v_0 : Nat → Nat → Int) (κ : Nat → Nat → Nat) (o : Nat) (v_q : Int) (K_ : Int → Int) (V_ : Int → Int) (b_ : Int) (hO : ∀ x, ow T x → κ 2 2 ≤ x) (t_o : T 0 o = 4) (r_v_q : inR v_q) (hp0 : 0 ≤ b_ ∧ b_ ≤ (v_0 86 o) ∧ (v_0 86 o) ≤ 400) (hp1 : RK_ (v_0 300) (T 120 (T 82 o)) (T 121 (T 82 o)) ((v_0 123 (T 82 o))) K_ V_) (hp2 : Cs_ K_ ((v_0 83 o)) ((v_0 84 o)) ((v_0 80 o))) (hp3 : (v_0 80 o) = 0 → (v_0 86 o) ≤ (v_0 83 o)) (hp4 : v_q = 8) : KZ l D cy κ T yX3_readCondition cX3_readCondition 4 none 5 [.ref o, .int (J v_q)] v_0 (KV (fun (v_2 : Nat → Nat → Int) => ∃ (y80_2 : Nat → Int) (y83_2 : Nat → Int) (y84_2 : Nat → Int) (y86_2 : Nat → Int) (y300_2 : Nat → Int) , v_2 = upV (upV (upV (upV (upV v_0 80 y80_2) 83 y83_2) 84 y84_2) 86 y86_2) 300 y300_2 ∧ ((((b_ ≤ (y86_2 o) ∧ (y86_2 o) ≤ 400 ∧ (v_0 86 o) ≤ (y86_2 o) ∧ 0 ≤ (y83_2 o) ∧ (y83_2 o) ≤ 400) ∧ ((y80_2 o) = 0 → (v_0 80 o) = 0 ∧ (v_0 86 o) < (y86_2 o) ∧ (y86_2 o) - (v_0 86 o) ≤ (y83_2 o) - (v_0 83 o))) ∧ Rb_ (v_0 300) (y300_2) (T 85 o) b_ ∧ Ck_ S3_ (v_q : Int) TX_ K_ V_ ((v_0 83 o)) ((v_0 80 o)) ((y83_2 o)) ((y84_2 o)) ((y80_2 o)) (lL_ (gC_ (v_0 300) (T 85 o)) b_ ((v_0 86 o))) (lL_ (gC_ (y300_2) (T 85 o)) b_ ((y86_2 o)))) ∧ Kd_ T [85] (v_0 300) y300_2))) := by
  refine KZ.ofv (by decide) (Nat.le_of_ble_eq_true rfl) hO ?_
  intro p e s m below meth c ls ar QW A0 H locs E hK hZ hA hAc hw hl hret
  have hl : lv_has ls 4 [(0, .ref o), (1, .int (J v_q))] := hl
  have hT : WT T := hw.1.2.1
  have cs_ := hp2
  unfold Cs_ at cs_
  have nk_ : T 120 (T 82 o) ≠ T 85 o := ro_ne (wo_120 hT (wt_82 hT t_o)) (wo_85 hT t_o) (by decide) (by decide) (by omega)
  have nv_ : T 121 (T 82 o) ≠ T 85 o := ro_ne (wo_121 hT (wt_82 hT t_o)) (wo_85 hT t_o) (by decide) (by decide) (by omega)
  have lt0_ : ¬ K_ (v_0 83 o) = 1 → v_0 83 o < 400 := fun q_ => (RK_lt hp1 q_).2
  refine j_aload_n E 1 rfl dX3_readCondition_0 rfl (lv_at hl 0 rfl) ?_
  refine g_84 E hK hw fl_X3_30 t_o (v_0 84 o) rfl 4 rfl dX3_readCondition_1 (fun rr1_ => ?_)
  refine j_bipush E 6 rfl dX3_readCondition_4 (by decide) ?_
  refine j_icmp_eq E 9 19 rfl rr1_ (rr (by decide)) dX3_readCondition_6 (by decide) (fun cc2_ => ?_) (fun cc2_ => ?_)
  · refine j_iconst E 20 rfl dX3_readCondition_19 ?_
    refine j_goto E 24 dX3_readCondition_20 (by decide) ?_
    refine j_istore_n E 25 rfl [(2, .int (J 1)), (0, .ref o), (1, .int (J v_q))] dX3_readCondition_24 rfl hl (by decide) rfl (fun ls hl => ?_)
    refine j_iload_n E 26 rfl dX3_readCondition_25 rfl (lv_at hl 0 rfl) ?_
    refine j_if_eq E 29 43 rfl (rr (by decide)) dX3_readCondition_26 (by decide) (fun cc3_ => absurd cc3_ (by decide)) (fun _ => ?_)
    refine j_iload_n E 30 rfl dX3_readCondition_29 rfl (lv_at hl 2 rfl) ?_
    refine j_bipush E 32 rfl dX3_readCondition_30 (by decide) ?_
    refine j_icmp_lt E 35 43 rfl r_v_q (rr (by decide)) dX3_readCondition_32 (by decide) (fun cc4_ => ?_) (fun cc4_ => ?_)
    · exfalso; omega
    refine j_aload_n E 36 rfl dX3_readCondition_35 rfl (lv_at hl 1 rfl) ?_
    refine j_iconst E 37 rfl dX3_readCondition_36 ?_
    refine kV_v E (c_X3_refuse l D cy T (v_0) o 3  t_o (rr (by decide)) ) mt_X3_refuse ml_X3_63 hK hw (cw_rc4 hK hw.1 t_o) hA ⟨Nat.le_of_ble_eq_true rfl, Nat.le_of_ble_eq_true rfl⟩ ⟨Nat.le_of_ble_eq_true rfl, Nat.le_of_ble_eq_true rfl⟩ (As := [.int (J 3)]) (rest := []) rfl rfl hl.1 (Nat.le_of_ble_eq_true rfl) 40 rfl dX3_readCondition_37 (fun v_5 H locs hq5_ hw => ?_)
    obtain ⟨y80_5, y84_5, ev5_, hh5_⟩ := hq5_
    rw [ev5_] at hw; clear ev5_
    have hw : WK D cy T (upV (upV v_0 80 y80_5) 84 y84_5) A0 s.heap H locs := cw_eq hw (by first | rfl | (funext j_; simp only [upV, reduceIte]; (repeat' split) <;> first | rfl | omega | (subst_vars; rfl)))
    replace hh5_ : (y84_5 o) = 2 ∧ ((((v_0 80) o) = 0 ∧ (y80_5 o) = (3 : Int)) ∨ (¬ ((v_0 80) o) = 0 ∧ (y80_5 o) = ((v_0 80) o))) := hh5_
    have r_ := hh5_
    clear hh5_
    refine j_goto E 126 dX3_readCondition_40 (by decide) ?_
    exact hret 126 (upV (upV (upV (upV (upV v_0 80 y80_5) 83 (v_0 83)) 84 y84_5) 86 (v_0 86)) 300 (v_0 300)) _ _ ls (cw_eq hw (by first | rfl | (funext j_; simp only [upV, reduceIte]; (repeat' split) <;> first | rfl | omega | (subst_vars; rfl)))) ⟨y80_5, (v_0 83), y84_5, (v_0 86), (v_0 300), rfl, ⟨by first | exact ⟨by omega, Rb_rf, ck_deep (by omega) hp2 (by omega) rfl r_.1 r_.2⟩ | exact ⟨by omega, b1_.2.1, ck_bra (by omega) hp2 (by omega) b1_.2.2 t_ lt2_⟩ | exact ⟨by omega, Rb_tr n_.2.1 ron_, ck_not (by omega) hp2 (by omega) n_.2.2 emn_⟩ | exact ⟨by omega, Rb_tr e1_.2.1 (Rb_tr e2_.2.1 roq_), ck_cmp hp2 (by omega) (by omega) e1_.2.2 t_ e2_.2.2 emq_⟩, Kd_rf⟩⟩ dX3_readCondition_126
  · refine j_aload_n E 10 rfl dX3_readCondition_9 rfl (lv_at hl 0 rfl) ?_
    refine g_84 E hK hw fl_X3_30 t_o (v_0 84 o) rfl 13 rfl dX3_readCondition_10 (fun _ => ?_)
    refine j_sipush E 16 rfl dX3_readCondition_13 (by decide) ?_
    refine j_icmp_ne E 19 23 rfl rr1_ (rr (by decide)) dX3_readCondition_16 (by decide) (fun cc6_ => ?_) (fun cc6_ => ?_)
    · refine j_iconst E 24 rfl dX3_readCondition_23 ?_
      refine j_istore_n E 25 rfl [(2, .int (J 0)), (0, .ref o), (1, .int (J v_q))] dX3_readCondition_24 rfl hl (by decide) rfl (fun ls hl => ?_)
      refine j_iload_n E 26 rfl dX3_readCondition_25 rfl (lv_at hl 0 rfl) ?_
      refine j_if_eq E 29 43 rfl (rr (by decide)) dX3_readCondition_26 (by decide) (fun _ => ?_) (fun cc7_ => absurd cc7_ (by decide))
      refine j_aload_n E 44 rfl dX3_readCondition_43 rfl (lv_at hl 1 rfl) ?_
      refine g_84 E hK hw fl_X3_30 t_o (v_0 84 o) rfl 47 rfl dX3_readCondition_44 (fun _ => ?_)
      refine j_bipush E 49 rfl dX3_readCondition_47 (by decide) ?_
      refine j_icmp_ne E 52 72 rfl rr1_ (rr (by decide)) dX3_readCondition_49 (by decide) (fun cc8_ => ?_) (fun cc8_ => ?_)
      rotate_left; · exfalso; omega
      refine j_aload_n E 73 rfl dX3_readCondition_72 rfl (lv_at hl 1 rfl) ?_
      refine g_84 E hK hw fl_X3_30 t_o (v_0 84 o) rfl 76 rfl dX3_readCondition_73 (fun _ => ?_)
      refine j_sipush E 79 rfl dX3_readCondition_76 (by decide) ?_
      refine j_icmp_ne E 82 103 rfl rr1_ (rr (by decide)) dX3_readCondition_79 (by decide) (fun cc9_ => ?_) (fun cc9_ => ?_)
      rotate_left; · exfalso; omega
      refine j_aload_n E 104 rfl dX3_readCondition_103 rfl (lv_at hl 1 rfl) ?_
      refine zV_v E (c_X3_readSum l D cy T (v_0) κ o K_ V_ b_ hO t_o  (show 0 ≤ b_ ∧ b_ ≤ ((v_0 86) o) ∧ ((v_0 86) o) ≤ 400 from by omega) (show RK_ (v_0 300) (T 120 (T 82 o)) (T 121 (T 82 o)) (((v_0 123) (T 82 o))) K_ V_ from hp1) (show Cs_ K_ (((v_0 83) o)) (((v_0 84) o)) (((v_0 80) o)) from hp2) (show ((v_0 80) o) = 0 → ((v_0 86) o) ≤ ((v_0 83) o) from by omega)) mt_X3_readSum ml_X3_51 hK hZ hAc hw (cw_rc4 hK hw.1 t_o) hA ⟨Nat.le_of_ble_eq_true rfl, Nat.le_of_ble_eq_true rfl⟩ ⟨Nat.le_of_ble_eq_true rfl, Nat.le_of_ble_eq_true rfl⟩ (As := []) (rest := []) rfl rfl hl.1 (Nat.le_of_ble_eq_true rfl) 107 rfl dX3_readCondition_104 (fun v_10 H locs hq10_ hw => ?_)
      obtain ⟨y80_10, y83_10, y84_10, y86_10, y300_10, ev10_, hh10_⟩ := hq10_
      rw [ev10_] at hw; clear ev10_
      have hw : WK D cy T (upV (upV (upV (upV (upV v_0 80 y80_10) 83 y83_10) 84 y84_10) 86 y86_10) 300 y300_10) A0 s.heap H locs := cw_eq hw (by first | rfl | (funext j_; simp only [upV, reduceIte]; (repeat' split) <;> first | rfl | omega | (subst_vars; rfl)))
      obtain ⟨hh10_, kf10_⟩ := hh10_
      replace hh10_ : ((b_ ≤ (y86_10 o) ∧ (y86_10 o) ≤ 400 ∧ ((v_0 86) o) ≤ (y86_10 o) ∧ 0 ≤ (y83_10 o) ∧ (y83_10 o) ≤ 400) ∧ ((y80_10 o) = 0 → ((v_0 80) o) = 0 ∧ ((v_0 86) o) < (y86_10 o) ∧ (y86_10 o) - ((v_0 86) o) ≤ (y83_10 o) - ((v_0 83) o))) ∧ Rb_ (v_0 300) (y300_10) (T 85 o) b_ ∧ Cp_ S3_ (N4_ K_) K_ V_ (((v_0 83) o)) (((v_0 80) o)) ((y83_10 o)) ((y84_10 o)) ((y80_10 o)) (lL_ (gC_ (v_0 300) (T 85 o)) b_ (((v_0 86) o))) (lL_ (gC_ (y300_10) (T 85 o)) b_ ((y86_10 o))) := hh10_
      have e1_ := hh10_
      clear hh10_ cs_ lt0_
      refine j_aload_n E 108 rfl dX3_readCondition_107 rfl (lv_at hl 1 rfl) ?_
      refine g_84 E hK hw fl_X3_30 t_o (y84_10 o) rfl 111 rfl dX3_readCondition_108 (fun rr11_ => ?_)
      refine j_istore_n E 112 rfl [(3, .int (J (y84_10 o))), (2, .int (J 0)), (0, .ref o), (1, .int (J v_q))] dX3_readCondition_111 rfl hl (by decide) rfl (fun ls hl => ?_)
      refine j_aload_n E 113 rfl dX3_readCondition_112 rfl (lv_at hl 2 rfl) ?_
      refine zV_v E (c_X3_takeComparison l D cy T (upV (upV (upV (upV (upV v_0 80 y80_10) 83 y83_10) 84 y84_10) 86 y86_10) 300 y300_10) κ o K_ V_ hO t_o  (show RK_ (y300_10) (T 120 (T 82 o)) (T 121 (T 82 o)) (((v_0 123) (T 82 o))) K_ V_ from RK_rb hp1 e1_.2.1 nk_ nv_) (show Cs_ K_ ((y83_10 o)) ((y84_10 o)) ((y80_10 o)) from Cp_cs hp2 e1_.2.2)) mt_X3_takeComparison ml_X3_88 hK hZ hAc hw (cw_rc4 hK hw.1 t_o) hA ⟨Nat.le_of_ble_eq_true rfl, Nat.le_of_ble_eq_true rfl⟩ ⟨Nat.le_of_ble_eq_true rfl, Nat.le_of_ble_eq_true rfl⟩ (As := []) (rest := []) rfl rfl hl.1 (Nat.le_of_ble_eq_true rfl) 116 rfl dX3_readCondition_113 (fun v_12 H locs hq12_ hw => ?_)
      obtain ⟨y80_12, y83_12, y84_12, ev12_, hh12_⟩ := hq12_
      rw [ev12_] at hw; clear ev12_
      have hw : WK D cy T (upV (upV (upV (upV (upV v_0 80 y80_12) 83 y83_12) 84 y84_12) 86 y86_10) 300 y300_10) A0 s.heap H locs := cw_eq hw (by first | rfl | (funext j_; simp only [upV, reduceIte]; (repeat' split) <;> first | rfl | omega | (subst_vars; rfl)))
      replace hh12_ : (((y84_10 o) = 60 ∨ (y84_10 o) = 61 ∨ (y84_10 o) = 62) ∧ (y83_12 o) = (y83_10 o) + 1 ∧ (y84_12 o) = K_ ((y83_10 o) + 1) ∧ (y80_12 o) = (y80_10 o)) ∨ (¬ ((y84_10 o) = 60 ∨ (y84_10 o) = 61 ∨ (y84_10 o) = 62) ∧ (y83_12 o) = (y83_10 o) ∧ (y84_12 o) = 2 ∧ (((y80_10 o) = 0 ∧ (y80_12 o) = 1) ∨ (¬ (y80_10 o) = 0 ∧ (y80_12 o) = (y80_10 o)))) := hh12_
      have t_ := hh12_
      clear hh12_
      have lt3_ : ((y84_10 o) = 60 ∨ (y84_10 o) = 61 ∨ (y84_10 o) = 62) → (y83_10 o) < 400 := fun q_ => (RK_lt hp1 (cp_k e1_.2.2 q_)).2
      refine j_aload_n E 117 rfl dX3_readCondition_116 rfl (lv_at hl 2 rfl) ?_
      refine zV_v E (c_X3_readSum l D cy T (upV (upV (upV (upV (upV v_0 80 y80_12) 83 y83_12) 84 y84_12) 86 y86_10) 300 y300_10) κ o K_ V_ b_ hO t_o  (show 0 ≤ b_ ∧ b_ ≤ (y86_10 o) ∧ (y86_10 o) ≤ 400 from by omega) (show RK_ (y300_10) (T 120 (T 82 o)) (T 121 (T 82 o)) (((v_0 123) (T 82 o))) K_ V_ from RK_rb hp1 e1_.2.1 nk_ nv_) (show Cs_ K_ ((y83_12 o)) ((y84_12 o)) ((y80_12 o)) from Ct_cs (Cp_cs hp2 e1_.2.2) t_ (fun q_ => (RK_lt hp1 q_).2)) (show (y80_12 o) = 0 → (y86_10 o) ≤ (y83_12 o) from by omega)) mt_X3_readSum ml_X3_51 hK hZ hAc hw (cw_rc4 hK hw.1 t_o) hA ⟨Nat.le_of_ble_eq_true rfl, Nat.le_of_ble_eq_true rfl⟩ ⟨Nat.le_of_ble_eq_true rfl, Nat.le_of_ble_eq_true rfl⟩ (As := []) (rest := []) rfl rfl hl.1 (Nat.le_of_ble_eq_true rfl) 120 rfl dX3_readCondition_117 (fun v_13 H locs hq13_ hw => ?_)
      obtain ⟨y80_13, y83_13, y84_13, y86_13, y300_13, ev13_, hh13_⟩ := hq13_
      rw [ev13_] at hw; clear ev13_
      have hw : WK D cy T (upV (upV (upV (upV (upV v_0 80 y80_13) 83 y83_13) 84 y84_13) 86 y86_13) 300 y300_13) A0 s.heap H locs := cw_eq hw (by first | rfl | (funext j_; simp only [upV, reduceIte]; (repeat' split) <;> first | rfl | omega | (subst_vars; rfl)))
      obtain ⟨hh13_, kf13_⟩ := hh13_
      replace hh13_ : ((b_ ≤ (y86_13 o) ∧ (y86_13 o) ≤ 400 ∧ (y86_10 o) ≤ (y86_13 o) ∧ 0 ≤ (y83_13 o) ∧ (y83_13 o) ≤ 400) ∧ ((y80_13 o) = 0 → (y80_12 o) = 0 ∧ (y86_10 o) < (y86_13 o) ∧ (y86_13 o) - (y86_10 o) ≤ (y83_13 o) - (y83_12 o))) ∧ Rb_ (y300_10) (y300_13) (T 85 o) b_ ∧ Cp_ S3_ (N4_ K_) K_ V_ ((y83_12 o)) ((y80_12 o)) ((y83_13 o)) ((y84_13 o)) ((y80_13 o)) (lL_ (gC_ (y300_10) (T 85 o)) b_ ((y86_10 o))) (lL_ (gC_ (y300_13) (T 85 o)) b_ ((y86_13 o))) := hh13_
      have e2_ := hh13_
      clear hh13_
      refine j_aload_n E 121 rfl dX3_readCondition_120 rfl (lv_at hl 2 rfl) ?_
      refine j_iload_n E 122 rfl dX3_readCondition_121 rfl (lv_at hl 0 rfl) ?_
      refine j_ineg E 123 rfl dX3_readCondition_122 ?_
      refine j_norm (fun zz14_ rr14_ ee14_ => ?_)
      have en_ := ee14_
      have rn_ := rr14_
      refine kV_v E (c_X3_emit l D cy T (upV (upV (upV (upV (upV v_0 80 y80_13) 83 y83_13) 84 y84_13) 86 y86_13) 300 y300_13) o zz14_ b_ t_o rr14_ (show 0 ≤ b_ ∧ b_ ≤ (y86_13 o) ∧ (y86_13 o) ≤ 400 from by omega)) mt_X3_emit ml_X3_60 hK hw (cw_rc4 hK hw.1 t_o) hA ⟨Nat.le_of_ble_eq_true rfl, Nat.le_of_ble_eq_true rfl⟩ ⟨Nat.le_of_ble_eq_true rfl, Nat.le_of_ble_eq_true rfl⟩ (As := [.int (J zz14_)]) (rest := []) rfl rfl hl.1 (Nat.le_of_ble_eq_true rfl) 126 rfl dX3_readCondition_123 (fun v_15 H locs hq15_ hw => ?_)
      obtain ⟨y86_15, y300_15, ev15_, hh15_⟩ := hq15_
      rw [ev15_] at hw; clear ev15_
      have hw : WK D cy T (upV (upV (upV (upV (upV v_0 80 y80_13) 83 y83_13) 84 y84_13) 86 y86_15) 300 y300_15) A0 s.heap H locs := cw_eq hw (by first | rfl | (funext j_; simp only [upV, reduceIte]; (repeat' split) <;> first | rfl | omega | (subst_vars; rfl)))
      obtain ⟨hh15_, kf15_⟩ := hh15_
      replace hh15_ : (b_ ≤ (y86_15 o) ∧ (y86_15 o) ≤ 400 ∧ (y86_13 o) ≤ (y86_15 o)) ∧ Rb_ (y300_13) (y300_15) (T 85 o) b_ ∧ ((y86_13 o) < 400 → (y86_15 o) = (y86_13 o) + 1 ∧ (lL_ (gC_ (y300_15) (T 85 o)) b_ ((y86_15 o))) = (lL_ (gC_ (y300_13) (T 85 o)) b_ ((y86_13 o))) ++ [zz14_]) := hh15_
      have roq_ := hh15_.2.1
      have ecq_ : (y80_13 o) = 0 → (y86_15 o) = (y86_13 o) + 1 := fun q_ => (hh15_.2.2 (by omega)).1
      have emq_ : Im_ ((y80_13 o) = 0) ((lL_ (gC_ (y300_15) (T 85 o)) b_ ((y86_15 o))) = (lL_ (gC_ (y300_13) (T 85 o)) b_ ((y86_13 o))) ++ [-((y84_10 o))]) := fun q_ => by have q1_ := (J_inj rn_ (rr (by omega))).mp en_; rw [(hh15_.2.2 (by omega)).2, q1_]
      have rgq_ := hh15_.1
      clear hh15_
      exact hret 126 (upV (upV (upV (upV (upV v_0 80 y80_13) 83 y83_13) 84 y84_13) 86 y86_15) 300 y300_15) _ _ ls hw ⟨y80_13, y83_13, y84_13, y86_15, y300_15, rfl, ⟨by first | exact ⟨by omega, Rb_rf, ck_deep (by omega) hp2 (by omega) rfl r_.1 r_.2⟩ | exact ⟨by omega, b1_.2.1, ck_bra (by omega) hp2 (by omega) b1_.2.2 t_ lt2_⟩ | exact ⟨by omega, Rb_tr n_.2.1 ron_, ck_not (by omega) hp2 (by omega) n_.2.2 emn_⟩ | exact ⟨by omega, Rb_tr e1_.2.1 (Rb_tr e2_.2.1 roq_), ck_cmp hp2 (by omega) (by omega) e1_.2.2 t_ e2_.2.2 emq_⟩, (Kd_tr (Kd_tr (Kd_tr Kd_rf (Kd_mono kf10_ (by decide))) (Kd_mono kf13_ (by decide))) (Kd_mono kf15_ (by decide)))⟩⟩ dX3_readCondition_126
    · refine j_iconst E 20 rfl dX3_readCondition_19 ?_
      refine j_goto E 24 dX3_readCondition_20 (by decide) ?_
      refine j_istore_n E 25 rfl [(2, .int (J 1)), (0, .ref o), (1, .int (J v_q))] dX3_readCondition_24 rfl hl (by decide) rfl (fun ls hl => ?_)
      refine j_iload_n E 26 rfl dX3_readCondition_25 rfl (lv_at hl 0 rfl) ?_
      refine j_if_eq E 29 43 rfl (rr (by decide)) dX3_readCondition_26 (by decide) (fun cc16_ => absurd cc16_ (by decide)) (fun _ => ?_)
      refine j_iload_n E 30 rfl dX3_readCondition_29 rfl (lv_at hl 2 rfl) ?_
      refine j_bipush E 32 rfl dX3_readCondition_30 (by decide) ?_
      refine j_icmp_lt E 35 43 rfl r_v_q (rr (by decide)) dX3_readCondition_32 (by decide) (fun cc17_ => ?_) (fun cc17_ => ?_)
      · exfalso; omega
      refine j_aload_n E 36 rfl dX3_readCondition_35 rfl (lv_at hl 1 rfl) ?_
      refine j_iconst E 37 rfl dX3_readCondition_36 ?_
      refine kV_v E (c_X3_refuse l D cy T (v_0) o 3  t_o (rr (by decide)) ) mt_X3_refuse ml_X3_63 hK hw (cw_rc4 hK hw.1 t_o) hA ⟨Nat.le_of_ble_eq_true rfl, Nat.le_of_ble_eq_true rfl⟩ ⟨Nat.le_of_ble_eq_true rfl, Nat.le_of_ble_eq_true rfl⟩ (As := [.int (J 3)]) (rest := []) rfl rfl hl.1 (Nat.le_of_ble_eq_true rfl) 40 rfl dX3_readCondition_37 (fun v_18 H locs hq18_ hw => ?_)
      obtain ⟨y80_18, y84_18, ev18_, hh18_⟩ := hq18_
      rw [ev18_] at hw; clear ev18_
      have hw : WK D cy T (upV (upV v_0 80 y80_18) 84 y84_18) A0 s.heap H locs := cw_eq hw (by first | rfl | (funext j_; simp only [upV, reduceIte]; (repeat' split) <;> first | rfl | omega | (subst_vars; rfl)))
      replace hh18_ : (y84_18 o) = 2 ∧ ((((v_0 80) o) = 0 ∧ (y80_18 o) = (3 : Int)) ∨ (¬ ((v_0 80) o) = 0 ∧ (y80_18 o) = ((v_0 80) o))) := hh18_
      have r_ := hh18_
      clear hh18_
      refine j_goto E 126 dX3_readCondition_40 (by decide) ?_
      exact hret 126 (upV (upV (upV (upV (upV v_0 80 y80_18) 83 (v_0 83)) 84 y84_18) 86 (v_0 86)) 300 (v_0 300)) _ _ ls (cw_eq hw (by first | rfl | (funext j_; simp only [upV, reduceIte]; (repeat' split) <;> first | rfl | omega | (subst_vars; rfl)))) ⟨y80_18, (v_0 83), y84_18, (v_0 86), (v_0 300), rfl, ⟨by first | exact ⟨by omega, Rb_rf, ck_deep (by omega) hp2 (by omega) rfl r_.1 r_.2⟩ | exact ⟨by omega, b1_.2.1, ck_bra (by omega) hp2 (by omega) b1_.2.2 t_ lt2_⟩ | exact ⟨by omega, Rb_tr n_.2.1 ron_, ck_not (by omega) hp2 (by omega) n_.2.2 emn_⟩ | exact ⟨by omega, Rb_tr e1_.2.1 (Rb_tr e2_.2.1 roq_), ck_cmp hp2 (by omega) (by omega) e1_.2.2 t_ e2_.2.2 emq_⟩, Kd_rf⟩⟩ dX3_readCondition_126
set_option maxHeartbeats 4000000 in
set_option maxRecDepth 100000 in
theorem gn_X3_readCondition (qq_ : Int) (hq_ : 0 ≤ qq_ ∧ qq_ < 8) (dd_ : Nat) (hd_ : 5 ≤ dd_) (IHs_ : RS_ (qq_ + 1) (dd_ + 1)) (IHc_ : RC_ (qq_ + 1) dd_) (l : Launch) (D : va_G) (cy : Nat → ClassId) (T : Nat → Nat → Nat) (v_0 : Nat → Nat → Int) (κ : Nat → Nat → Nat) (o : Nat) (v_q : Int) (K_ : Int → Int) (V_ : Int → Int) (b_ : Int) (hO : ∀ x, ow T x → κ 2 2 ≤ x) (t_o : T 0 o = 4) (r_v_q : inR v_q) (hp0 : 0 ≤ b_ ∧ b_ ≤ (v_0 86 o) ∧ (v_0 86 o) ≤ 400) (hp1 : RK_ (v_0 300) (T 120 (T 82 o)) (T 121 (T 82 o)) ((v_0 123 (T 82 o))) K_ V_) (hp2 : Cs_ K_ ((v_0 83 o)) ((v_0 84 o)) ((v_0 80 o))) (hp3 : (v_0 80 o) = 0 → (v_0 86 o) ≤ (v_0 83 o)) (hp4 : v_q = qq_) : KZ l D cy κ T yX3_readCondition cX3_readCondition 4 none (dd_ + 2) [.ref o, .int (J v_q)] v_0 (KV (fun (v_2 : Nat → Nat → Int) => ∃ (y80_2 : Nat → Int) (y83_2 : Nat → Int) (y84_2 : Nat → Int) (y86_2 : Nat → Int) (y300_2 : Nat → Int) , v_2 = upV (upV (upV (upV (upV v_0 80 y80_2) 83 y83_2) 84 y84_2) 86 y86_2) 300 y300_2 ∧ ((((b_ ≤ (y86_2 o) ∧ (y86_2 o) ≤ 400 ∧ (v_0 86 o) ≤ (y86_2 o) ∧ 0 ≤ (y83_2 o) ∧ (y83_2 o) ≤ 400) ∧ ((y80_2 o) = 0 → (v_0 80 o) = 0 ∧ (v_0 86 o) < (y86_2 o) ∧ (y86_2 o) - (v_0 86 o) ≤ (y83_2 o) - (v_0 83 o))) ∧ Rb_ (v_0 300) (y300_2) (T 85 o) b_ ∧ Ck_ S3_ (v_q : Int) TX_ K_ V_ ((v_0 83 o)) ((v_0 80 o)) ((y83_2 o)) ((y84_2 o)) ((y80_2 o)) (lL_ (gC_ (v_0 300) (T 85 o)) b_ ((v_0 86 o))) (lL_ (gC_ (y300_2) (T 85 o)) b_ ((y86_2 o)))) ∧ Kd_ T [85] (v_0 300) y300_2))) := by
  refine KZ.ofv (by decide) (Nat.le_of_ble_eq_true rfl) hO ?_
  intro p e s m below meth c ls ar QW A0 H locs E hK hZ hA hAc hw hl hret
  have hl : lv_has ls 4 [(0, .ref o), (1, .int (J v_q))] := hl
  have hT : WT T := hw.1.2.1
  have cs_ := hp2
  unfold Cs_ at cs_
  have nk_ : T 120 (T 82 o) ≠ T 85 o := ro_ne (wo_120 hT (wt_82 hT t_o)) (wo_85 hT t_o) (by decide) (by decide) (by omega)
  have nv_ : T 121 (T 82 o) ≠ T 85 o := ro_ne (wo_121 hT (wt_82 hT t_o)) (wo_85 hT t_o) (by decide) (by decide) (by omega)
  have lt0_ : ¬ K_ (v_0 83 o) = 1 → v_0 83 o < 400 := fun q_ => (RK_lt hp1 q_).2
  refine j_aload_n E 1 rfl dX3_readCondition_0 rfl (lv_at hl 0 rfl) ?_
  refine g_84 E hK hw fl_X3_30 t_o (v_0 84 o) rfl 4 rfl dX3_readCondition_1 (fun rr1_ => ?_)
  refine j_bipush E 6 rfl dX3_readCondition_4 (by decide) ?_
  refine j_icmp_eq E 9 19 rfl rr1_ (rr (by decide)) dX3_readCondition_6 (by decide) (fun cc2_ => ?_) (fun cc2_ => ?_)
  · refine j_iconst E 20 rfl dX3_readCondition_19 ?_
    refine j_goto E 24 dX3_readCondition_20 (by decide) ?_
    refine j_istore_n E 25 rfl [(2, .int (J 1)), (0, .ref o), (1, .int (J v_q))] dX3_readCondition_24 rfl hl (by decide) rfl (fun ls hl => ?_)
    refine j_iload_n E 26 rfl dX3_readCondition_25 rfl (lv_at hl 0 rfl) ?_
    refine j_if_eq E 29 43 rfl (rr (by decide)) dX3_readCondition_26 (by decide) (fun cc3_ => absurd cc3_ (by decide)) (fun _ => ?_)
    refine j_iload_n E 30 rfl dX3_readCondition_29 rfl (lv_at hl 2 rfl) ?_
    refine j_bipush E 32 rfl dX3_readCondition_30 (by decide) ?_
    refine j_icmp_lt E 35 43 rfl r_v_q (rr (by decide)) dX3_readCondition_32 (by decide) (fun cc4_ => ?_) (fun cc4_ => ?_)
    rotate_left; · exfalso; omega
    refine j_aload_n E 44 rfl dX3_readCondition_43 rfl (lv_at hl 1 rfl) ?_
    refine g_84 E hK hw fl_X3_30 t_o (v_0 84 o) rfl 47 rfl dX3_readCondition_44 (fun _ => ?_)
    refine j_bipush E 49 rfl dX3_readCondition_47 (by decide) ?_
    refine j_icmp_ne E 52 72 rfl rr1_ (rr (by decide)) dX3_readCondition_49 (by decide) (fun cc5_ => ?_) (fun cc5_ => ?_)
    · exfalso; omega
    refine j_aload_n E 53 rfl dX3_readCondition_52 rfl (lv_at hl 1 rfl) ?_
    obtain ⟨f0_, fa_, fk_⟩ := Cs_nf hp2 (by omega)
    have h3_ := hp3 f0_
    clear cs_ hp3 lt0_
    have lt_ := RK_lt hp1 (j := (v_0 83 o)) (by omega)
    refine zV_v E (c_X3_step l D cy T (v_0) κ o K_ V_ hO t_o  (show RK_ (v_0 300) (T 120 (T 82 o)) (T 121 (T 82 o)) (((v_0 123) (T 82 o))) K_ V_ from hp1) (show 0 ≤ ((v_0 83) o) ∧ ((v_0 83) o) < 400 from by omega)) mt_X3_step ml_X3_54 hK hZ hAc hw (cw_rc4 hK hw.1 t_o) hA (frl_ (by first | exact Nat.le_refl _ | exact Nat.le_succ _ | exact Nat.le_trans (by decide) (Nat.add_le_add_right hd_ _)) (by decide)) ⟨Nat.le_of_ble_eq_true rfl, Nat.le_of_ble_eq_true rfl⟩ (As := []) (rest := []) rfl rfl hl.1 (Nat.le_of_ble_eq_true rfl) 56 rfl dX3_readCondition_53 (fun v_6 H locs hq6_ hw => ?_)
    obtain ⟨y83_6, y84_6, ev6_, hh6_⟩ := hq6_
    rw [ev6_] at hw; clear ev6_
    have hw : WK D cy T (upV (upV v_0 83 y83_6) 84 y84_6) A0 s.heap H locs := cw_eq hw (by first | rfl | (funext j_; simp only [upV, reduceIte]; (repeat' split) <;> first | rfl | omega | (subst_vars; rfl)))
    replace hh6_ : (y83_6 o) = ((v_0 83) o) + 1 ∧ (y84_6 o) = K_ (((v_0 83) o) + 1) := hh6_
    have s1_ := hh6_
    clear hh6_
    refine j_aload_n E 57 rfl dX3_readCondition_56 rfl (lv_at hl 1 rfl) ?_
    refine j_iload_n E 58 rfl dX3_readCondition_57 rfl (lv_at hl 2 rfl) ?_
    refine j_iconst E 59 rfl dX3_readCondition_58 ?_
    refine j_iadd E 60 rfl dX3_readCondition_59 ?_
    refine zV_v E (IHs_ l D cy T (upV (upV v_0 83 y83_6) 84 y84_6) κ o (v_q + 1) K_ V_ b_ hO t_o (rr (by omega)) (show 0 ≤ b_ ∧ b_ ≤ ((v_0 86) o) ∧ ((v_0 86) o) ≤ 400 from by omega) (show RK_ (v_0 300) (T 120 (T 82 o)) (T 121 (T 82 o)) (((v_0 123) (T 82 o))) K_ V_ from hp1) (show Cs_ K_ ((y83_6 o)) ((y84_6 o)) (((v_0 80) o)) from Cs_st hp2 (by omega) s1_.1 s1_.2 (by omega)) (show ((v_0 80) o) = 0 → ((v_0 86) o) ≤ (y83_6 o) from by omega) (show (v_q + 1) = qq_ + 1 from by omega)) mt_X3_readConditions ml_X3_57 hK hZ hAc hw (cw_rc4 hK hw.1 t_o) hA (frl_ (by first | exact Nat.le_refl _ | exact Nat.le_succ _ | exact Nat.le_trans (by decide) (Nat.add_le_add_right hd_ _)) (by decide)) ⟨Nat.le_of_ble_eq_true rfl, Nat.le_of_ble_eq_true rfl⟩ (As := [.int (J (v_q + 1))]) (rest := []) rfl rfl hl.1 (Nat.le_of_ble_eq_true rfl) 63 rfl dX3_readCondition_60 (fun v_7 H locs hq7_ hw => ?_)
    obtain ⟨y80_7, y83_7, y84_7, y86_7, y300_7, ev7_, hh7_⟩ := hq7_
    rw [ev7_] at hw; clear ev7_
    have hw : WK D cy T (upV (upV (upV (upV (upV v_0 80 y80_7) 83 y83_7) 84 y84_7) 86 y86_7) 300 y300_7) A0 s.heap H locs := cw_eq hw (by first | rfl | (funext j_; simp only [upV, reduceIte]; (repeat' split) <;> first | rfl | omega | (subst_vars; rfl)))
    obtain ⟨hh7_, kf7_⟩ := hh7_
    replace hh7_ : ((b_ ≤ (y86_7 o) ∧ (y86_7 o) ≤ 400 ∧ ((v_0 86) o) ≤ (y86_7 o) ∧ 0 ≤ (y83_7 o) ∧ (y83_7 o) ≤ 400) ∧ ((y80_7 o) = 0 → ((v_0 80) o) = 0 ∧ ((v_0 86) o) < (y86_7 o) ∧ (y86_7 o) - ((v_0 86) o) ≤ (y83_7 o) - (y83_6 o))) ∧ Rb_ (v_0 300) (y300_7) (T 85 o) b_ ∧ Ck_ S4_ ((v_q + 1) : Int) (NA_ K_) K_ V_ ((y83_6 o)) (((v_0 80) o)) ((y83_7 o)) ((y84_7 o)) ((y80_7 o)) (lL_ (gC_ (v_0 300) (T 85 o)) b_ (((v_0 86) o))) (lL_ (gC_ (y300_7) (T 85 o)) b_ ((y86_7 o))) := hh7_
    have b1_ := hh7_
    clear hh7_
    rw [s1_.1] at b1_
    refine j_aload_n E 64 rfl dX3_readCondition_63 rfl (lv_at hl 1 rfl) ?_
    refine j_bipush E 66 rfl dX3_readCondition_64 (by decide) ?_
    refine zV_v E (c_X3_take l D cy T (upV (upV (upV (upV (upV v_0 80 y80_7) 83 y83_7) 84 y84_7) 86 y86_7) 300 y300_7) κ o 41 K_ V_ hO t_o (rr (by decide)) (show RK_ (y300_7) (T 120 (T 82 o)) (T 121 (T 82 o)) (((v_0 123) (T 82 o))) K_ V_ from RK_rb hp1 b1_.2.1 nk_ nv_) (show Cs_ K_ ((y83_7 o)) ((y84_7 o)) ((y80_7 o)) from Ck_cs (Cs_st (a1 := v_0 83 o + 1) (k1 := K_ (v_0 83 o + 1)) hp2 (by omega) rfl rfl (by omega)) b1_.2.2) (show 3 < (41 : Int) from by omega)) mt_X3_take ml_X3_47 hK hZ hAc hw (cw_rc4 hK hw.1 t_o) hA (frl_ (by first | exact Nat.le_refl _ | exact Nat.le_succ _ | exact Nat.le_trans (by decide) (Nat.add_le_add_right hd_ _)) (by decide)) ⟨Nat.le_of_ble_eq_true rfl, Nat.le_of_ble_eq_true rfl⟩ (As := [.int (J 41)]) (rest := []) rfl rfl hl.1 (Nat.le_of_ble_eq_true rfl) 69 rfl dX3_readCondition_66 (fun v_8 H locs hq8_ hw => ?_)
    obtain ⟨y80_8, y83_8, y84_8, ev8_, hh8_⟩ := hq8_
    rw [ev8_] at hw; clear ev8_
    have hw : WK D cy T (upV (upV (upV (upV (upV v_0 80 y80_8) 83 y83_8) 84 y84_8) 86 y86_7) 300 y300_7) A0 s.heap H locs := cw_eq hw (by first | rfl | (funext j_; simp only [upV, reduceIte]; (repeat' split) <;> first | rfl | omega | (subst_vars; rfl)))
    replace hh8_ : (((y84_7 o) = (41 : Int)) ∧ (y83_8 o) = (y83_7 o) + 1 ∧ (y84_8 o) = K_ ((y83_7 o) + 1) ∧ (y80_8 o) = (y80_7 o)) ∨ (¬ ((y84_7 o) = (41 : Int)) ∧ (y83_8 o) = (y83_7 o) ∧ (y84_8 o) = 2 ∧ (((y80_7 o) = 0 ∧ (y80_8 o) = 1) ∨ (¬ (y80_7 o) = 0 ∧ (y80_8 o) = (y80_7 o)))) := hh8_
    have t_ := hh8_
    clear hh8_
    have lt2_ : (y84_7 o) = 41 → (y83_7 o) < 400 := fun q_ => (RK_lt hp1 (ck_k b1_.2.2 q_)).2
    refine j_goto E 126 dX3_readCondition_69 (by decide) ?_
    exact hret 126 (upV (upV (upV (upV (upV v_0 80 y80_8) 83 y83_8) 84 y84_8) 86 y86_7) 300 y300_7) _ _ ls hw ⟨y80_8, y83_8, y84_8, y86_7, y300_7, rfl, ⟨by first | exact ⟨by omega, Rb_rf, ck_deep (by omega) hp2 (by omega) rfl r_.1 r_.2⟩ | exact ⟨by omega, b1_.2.1, ck_bra (by omega) hp2 (by omega) b1_.2.2 t_ lt2_⟩ | exact ⟨by omega, Rb_tr n_.2.1 ron_, ck_not (by omega) hp2 (by omega) n_.2.2 emn_⟩ | exact ⟨by omega, Rb_tr e1_.2.1 (Rb_tr e2_.2.1 roq_), ck_cmp hp2 (by omega) (by omega) e1_.2.2 t_ e2_.2.2 emq_⟩, (Kd_tr Kd_rf (Kd_mono kf7_ (by decide)))⟩⟩ dX3_readCondition_126
  · refine j_aload_n E 10 rfl dX3_readCondition_9 rfl (lv_at hl 0 rfl) ?_
    refine g_84 E hK hw fl_X3_30 t_o (v_0 84 o) rfl 13 rfl dX3_readCondition_10 (fun _ => ?_)
    refine j_sipush E 16 rfl dX3_readCondition_13 (by decide) ?_
    refine j_icmp_ne E 19 23 rfl rr1_ (rr (by decide)) dX3_readCondition_16 (by decide) (fun cc9_ => ?_) (fun cc9_ => ?_)
    · refine j_iconst E 24 rfl dX3_readCondition_23 ?_
      refine j_istore_n E 25 rfl [(2, .int (J 0)), (0, .ref o), (1, .int (J v_q))] dX3_readCondition_24 rfl hl (by decide) rfl (fun ls hl => ?_)
      refine j_iload_n E 26 rfl dX3_readCondition_25 rfl (lv_at hl 0 rfl) ?_
      refine j_if_eq E 29 43 rfl (rr (by decide)) dX3_readCondition_26 (by decide) (fun _ => ?_) (fun cc10_ => absurd cc10_ (by decide))
      refine j_aload_n E 44 rfl dX3_readCondition_43 rfl (lv_at hl 1 rfl) ?_
      refine g_84 E hK hw fl_X3_30 t_o (v_0 84 o) rfl 47 rfl dX3_readCondition_44 (fun _ => ?_)
      refine j_bipush E 49 rfl dX3_readCondition_47 (by decide) ?_
      refine j_icmp_ne E 52 72 rfl rr1_ (rr (by decide)) dX3_readCondition_49 (by decide) (fun cc11_ => ?_) (fun cc11_ => ?_)
      rotate_left; · exfalso; omega
      refine j_aload_n E 73 rfl dX3_readCondition_72 rfl (lv_at hl 1 rfl) ?_
      refine g_84 E hK hw fl_X3_30 t_o (v_0 84 o) rfl 76 rfl dX3_readCondition_73 (fun _ => ?_)
      refine j_sipush E 79 rfl dX3_readCondition_76 (by decide) ?_
      refine j_icmp_ne E 82 103 rfl rr1_ (rr (by decide)) dX3_readCondition_79 (by decide) (fun cc12_ => ?_) (fun cc12_ => ?_)
      rotate_left; · exfalso; omega
      refine j_aload_n E 104 rfl dX3_readCondition_103 rfl (lv_at hl 1 rfl) ?_
      refine zV_v E (c_X3_readSum l D cy T (v_0) κ o K_ V_ b_ hO t_o  (show 0 ≤ b_ ∧ b_ ≤ ((v_0 86) o) ∧ ((v_0 86) o) ≤ 400 from by omega) (show RK_ (v_0 300) (T 120 (T 82 o)) (T 121 (T 82 o)) (((v_0 123) (T 82 o))) K_ V_ from hp1) (show Cs_ K_ (((v_0 83) o)) (((v_0 84) o)) (((v_0 80) o)) from hp2) (show ((v_0 80) o) = 0 → ((v_0 86) o) ≤ ((v_0 83) o) from by omega)) mt_X3_readSum ml_X3_51 hK hZ hAc hw (cw_rc4 hK hw.1 t_o) hA (frl_ (by first | exact Nat.le_refl _ | exact Nat.le_succ _ | exact Nat.le_trans (by decide) (Nat.add_le_add_right hd_ _)) (by decide)) ⟨Nat.le_of_ble_eq_true rfl, Nat.le_of_ble_eq_true rfl⟩ (As := []) (rest := []) rfl rfl hl.1 (Nat.le_of_ble_eq_true rfl) 107 rfl dX3_readCondition_104 (fun v_13 H locs hq13_ hw => ?_)
      obtain ⟨y80_13, y83_13, y84_13, y86_13, y300_13, ev13_, hh13_⟩ := hq13_
      rw [ev13_] at hw; clear ev13_
      have hw : WK D cy T (upV (upV (upV (upV (upV v_0 80 y80_13) 83 y83_13) 84 y84_13) 86 y86_13) 300 y300_13) A0 s.heap H locs := cw_eq hw (by first | rfl | (funext j_; simp only [upV, reduceIte]; (repeat' split) <;> first | rfl | omega | (subst_vars; rfl)))
      obtain ⟨hh13_, kf13_⟩ := hh13_
      replace hh13_ : ((b_ ≤ (y86_13 o) ∧ (y86_13 o) ≤ 400 ∧ ((v_0 86) o) ≤ (y86_13 o) ∧ 0 ≤ (y83_13 o) ∧ (y83_13 o) ≤ 400) ∧ ((y80_13 o) = 0 → ((v_0 80) o) = 0 ∧ ((v_0 86) o) < (y86_13 o) ∧ (y86_13 o) - ((v_0 86) o) ≤ (y83_13 o) - ((v_0 83) o))) ∧ Rb_ (v_0 300) (y300_13) (T 85 o) b_ ∧ Cp_ S3_ (N4_ K_) K_ V_ (((v_0 83) o)) (((v_0 80) o)) ((y83_13 o)) ((y84_13 o)) ((y80_13 o)) (lL_ (gC_ (v_0 300) (T 85 o)) b_ (((v_0 86) o))) (lL_ (gC_ (y300_13) (T 85 o)) b_ ((y86_13 o))) := hh13_
      have e1_ := hh13_
      clear hh13_ cs_ lt0_
      refine j_aload_n E 108 rfl dX3_readCondition_107 rfl (lv_at hl 1 rfl) ?_
      refine g_84 E hK hw fl_X3_30 t_o (y84_13 o) rfl 111 rfl dX3_readCondition_108 (fun rr14_ => ?_)
      refine j_istore_n E 112 rfl [(3, .int (J (y84_13 o))), (2, .int (J 0)), (0, .ref o), (1, .int (J v_q))] dX3_readCondition_111 rfl hl (by decide) rfl (fun ls hl => ?_)
      refine j_aload_n E 113 rfl dX3_readCondition_112 rfl (lv_at hl 2 rfl) ?_
      refine zV_v E (c_X3_takeComparison l D cy T (upV (upV (upV (upV (upV v_0 80 y80_13) 83 y83_13) 84 y84_13) 86 y86_13) 300 y300_13) κ o K_ V_ hO t_o  (show RK_ (y300_13) (T 120 (T 82 o)) (T 121 (T 82 o)) (((v_0 123) (T 82 o))) K_ V_ from RK_rb hp1 e1_.2.1 nk_ nv_) (show Cs_ K_ ((y83_13 o)) ((y84_13 o)) ((y80_13 o)) from Cp_cs hp2 e1_.2.2)) mt_X3_takeComparison ml_X3_88 hK hZ hAc hw (cw_rc4 hK hw.1 t_o) hA (frl_ (by first | exact Nat.le_refl _ | exact Nat.le_succ _ | exact Nat.le_trans (by decide) (Nat.add_le_add_right hd_ _)) (by decide)) ⟨Nat.le_of_ble_eq_true rfl, Nat.le_of_ble_eq_true rfl⟩ (As := []) (rest := []) rfl rfl hl.1 (Nat.le_of_ble_eq_true rfl) 116 rfl dX3_readCondition_113 (fun v_15 H locs hq15_ hw => ?_)
      obtain ⟨y80_15, y83_15, y84_15, ev15_, hh15_⟩ := hq15_
      rw [ev15_] at hw; clear ev15_
      have hw : WK D cy T (upV (upV (upV (upV (upV v_0 80 y80_15) 83 y83_15) 84 y84_15) 86 y86_13) 300 y300_13) A0 s.heap H locs := cw_eq hw (by first | rfl | (funext j_; simp only [upV, reduceIte]; (repeat' split) <;> first | rfl | omega | (subst_vars; rfl)))
      replace hh15_ : (((y84_13 o) = 60 ∨ (y84_13 o) = 61 ∨ (y84_13 o) = 62) ∧ (y83_15 o) = (y83_13 o) + 1 ∧ (y84_15 o) = K_ ((y83_13 o) + 1) ∧ (y80_15 o) = (y80_13 o)) ∨ (¬ ((y84_13 o) = 60 ∨ (y84_13 o) = 61 ∨ (y84_13 o) = 62) ∧ (y83_15 o) = (y83_13 o) ∧ (y84_15 o) = 2 ∧ (((y80_13 o) = 0 ∧ (y80_15 o) = 1) ∨ (¬ (y80_13 o) = 0 ∧ (y80_15 o) = (y80_13 o)))) := hh15_
      have t_ := hh15_
      clear hh15_
      have lt3_ : ((y84_13 o) = 60 ∨ (y84_13 o) = 61 ∨ (y84_13 o) = 62) → (y83_13 o) < 400 := fun q_ => (RK_lt hp1 (cp_k e1_.2.2 q_)).2
      refine j_aload_n E 117 rfl dX3_readCondition_116 rfl (lv_at hl 2 rfl) ?_
      refine zV_v E (c_X3_readSum l D cy T (upV (upV (upV (upV (upV v_0 80 y80_15) 83 y83_15) 84 y84_15) 86 y86_13) 300 y300_13) κ o K_ V_ b_ hO t_o  (show 0 ≤ b_ ∧ b_ ≤ (y86_13 o) ∧ (y86_13 o) ≤ 400 from by omega) (show RK_ (y300_13) (T 120 (T 82 o)) (T 121 (T 82 o)) (((v_0 123) (T 82 o))) K_ V_ from RK_rb hp1 e1_.2.1 nk_ nv_) (show Cs_ K_ ((y83_15 o)) ((y84_15 o)) ((y80_15 o)) from Ct_cs (Cp_cs hp2 e1_.2.2) t_ (fun q_ => (RK_lt hp1 q_).2)) (show (y80_15 o) = 0 → (y86_13 o) ≤ (y83_15 o) from by omega)) mt_X3_readSum ml_X3_51 hK hZ hAc hw (cw_rc4 hK hw.1 t_o) hA (frl_ (by first | exact Nat.le_refl _ | exact Nat.le_succ _ | exact Nat.le_trans (by decide) (Nat.add_le_add_right hd_ _)) (by decide)) ⟨Nat.le_of_ble_eq_true rfl, Nat.le_of_ble_eq_true rfl⟩ (As := []) (rest := []) rfl rfl hl.1 (Nat.le_of_ble_eq_true rfl) 120 rfl dX3_readCondition_117 (fun v_16 H locs hq16_ hw => ?_)
      obtain ⟨y80_16, y83_16, y84_16, y86_16, y300_16, ev16_, hh16_⟩ := hq16_
      rw [ev16_] at hw; clear ev16_
      have hw : WK D cy T (upV (upV (upV (upV (upV v_0 80 y80_16) 83 y83_16) 84 y84_16) 86 y86_16) 300 y300_16) A0 s.heap H locs := cw_eq hw (by first | rfl | (funext j_; simp only [upV, reduceIte]; (repeat' split) <;> first | rfl | omega | (subst_vars; rfl)))
      obtain ⟨hh16_, kf16_⟩ := hh16_
      replace hh16_ : ((b_ ≤ (y86_16 o) ∧ (y86_16 o) ≤ 400 ∧ (y86_13 o) ≤ (y86_16 o) ∧ 0 ≤ (y83_16 o) ∧ (y83_16 o) ≤ 400) ∧ ((y80_16 o) = 0 → (y80_15 o) = 0 ∧ (y86_13 o) < (y86_16 o) ∧ (y86_16 o) - (y86_13 o) ≤ (y83_16 o) - (y83_15 o))) ∧ Rb_ (y300_13) (y300_16) (T 85 o) b_ ∧ Cp_ S3_ (N4_ K_) K_ V_ ((y83_15 o)) ((y80_15 o)) ((y83_16 o)) ((y84_16 o)) ((y80_16 o)) (lL_ (gC_ (y300_13) (T 85 o)) b_ ((y86_13 o))) (lL_ (gC_ (y300_16) (T 85 o)) b_ ((y86_16 o))) := hh16_
      have e2_ := hh16_
      clear hh16_
      refine j_aload_n E 121 rfl dX3_readCondition_120 rfl (lv_at hl 2 rfl) ?_
      refine j_iload_n E 122 rfl dX3_readCondition_121 rfl (lv_at hl 0 rfl) ?_
      refine j_ineg E 123 rfl dX3_readCondition_122 ?_
      refine j_norm (fun zz17_ rr17_ ee17_ => ?_)
      have en_ := ee17_
      have rn_ := rr17_
      refine kV_v E (c_X3_emit l D cy T (upV (upV (upV (upV (upV v_0 80 y80_16) 83 y83_16) 84 y84_16) 86 y86_16) 300 y300_16) o zz17_ b_ t_o rr17_ (show 0 ≤ b_ ∧ b_ ≤ (y86_16 o) ∧ (y86_16 o) ≤ 400 from by omega)) mt_X3_emit ml_X3_60 hK hw (cw_rc4 hK hw.1 t_o) hA (frl_ (by first | exact Nat.le_refl _ | exact Nat.le_succ _ | exact Nat.le_trans (by decide) (Nat.add_le_add_right hd_ _)) (by decide)) ⟨Nat.le_of_ble_eq_true rfl, Nat.le_of_ble_eq_true rfl⟩ (As := [.int (J zz17_)]) (rest := []) rfl rfl hl.1 (Nat.le_of_ble_eq_true rfl) 126 rfl dX3_readCondition_123 (fun v_18 H locs hq18_ hw => ?_)
      obtain ⟨y86_18, y300_18, ev18_, hh18_⟩ := hq18_
      rw [ev18_] at hw; clear ev18_
      have hw : WK D cy T (upV (upV (upV (upV (upV v_0 80 y80_16) 83 y83_16) 84 y84_16) 86 y86_18) 300 y300_18) A0 s.heap H locs := cw_eq hw (by first | rfl | (funext j_; simp only [upV, reduceIte]; (repeat' split) <;> first | rfl | omega | (subst_vars; rfl)))
      obtain ⟨hh18_, kf18_⟩ := hh18_
      replace hh18_ : (b_ ≤ (y86_18 o) ∧ (y86_18 o) ≤ 400 ∧ (y86_16 o) ≤ (y86_18 o)) ∧ Rb_ (y300_16) (y300_18) (T 85 o) b_ ∧ ((y86_16 o) < 400 → (y86_18 o) = (y86_16 o) + 1 ∧ (lL_ (gC_ (y300_18) (T 85 o)) b_ ((y86_18 o))) = (lL_ (gC_ (y300_16) (T 85 o)) b_ ((y86_16 o))) ++ [zz17_]) := hh18_
      have roq_ := hh18_.2.1
      have ecq_ : (y80_16 o) = 0 → (y86_18 o) = (y86_16 o) + 1 := fun q_ => (hh18_.2.2 (by omega)).1
      have emq_ : Im_ ((y80_16 o) = 0) ((lL_ (gC_ (y300_18) (T 85 o)) b_ ((y86_18 o))) = (lL_ (gC_ (y300_16) (T 85 o)) b_ ((y86_16 o))) ++ [-((y84_13 o))]) := fun q_ => by have q1_ := (J_inj rn_ (rr (by omega))).mp en_; rw [(hh18_.2.2 (by omega)).2, q1_]
      have rgq_ := hh18_.1
      clear hh18_
      exact hret 126 (upV (upV (upV (upV (upV v_0 80 y80_16) 83 y83_16) 84 y84_16) 86 y86_18) 300 y300_18) _ _ ls hw ⟨y80_16, y83_16, y84_16, y86_18, y300_18, rfl, ⟨by first | exact ⟨by omega, Rb_rf, ck_deep (by omega) hp2 (by omega) rfl r_.1 r_.2⟩ | exact ⟨by omega, b1_.2.1, ck_bra (by omega) hp2 (by omega) b1_.2.2 t_ lt2_⟩ | exact ⟨by omega, Rb_tr n_.2.1 ron_, ck_not (by omega) hp2 (by omega) n_.2.2 emn_⟩ | exact ⟨by omega, Rb_tr e1_.2.1 (Rb_tr e2_.2.1 roq_), ck_cmp hp2 (by omega) (by omega) e1_.2.2 t_ e2_.2.2 emq_⟩, (Kd_tr (Kd_tr (Kd_tr Kd_rf (Kd_mono kf13_ (by decide))) (Kd_mono kf16_ (by decide))) (Kd_mono kf18_ (by decide)))⟩⟩ dX3_readCondition_126
    · refine j_iconst E 20 rfl dX3_readCondition_19 ?_
      refine j_goto E 24 dX3_readCondition_20 (by decide) ?_
      refine j_istore_n E 25 rfl [(2, .int (J 1)), (0, .ref o), (1, .int (J v_q))] dX3_readCondition_24 rfl hl (by decide) rfl (fun ls hl => ?_)
      refine j_iload_n E 26 rfl dX3_readCondition_25 rfl (lv_at hl 0 rfl) ?_
      refine j_if_eq E 29 43 rfl (rr (by decide)) dX3_readCondition_26 (by decide) (fun cc19_ => absurd cc19_ (by decide)) (fun _ => ?_)
      refine j_iload_n E 30 rfl dX3_readCondition_29 rfl (lv_at hl 2 rfl) ?_
      refine j_bipush E 32 rfl dX3_readCondition_30 (by decide) ?_
      refine j_icmp_lt E 35 43 rfl r_v_q (rr (by decide)) dX3_readCondition_32 (by decide) (fun cc20_ => ?_) (fun cc20_ => ?_)
      rotate_left; · exfalso; omega
      refine j_aload_n E 44 rfl dX3_readCondition_43 rfl (lv_at hl 1 rfl) ?_
      refine g_84 E hK hw fl_X3_30 t_o (v_0 84 o) rfl 47 rfl dX3_readCondition_44 (fun _ => ?_)
      refine j_bipush E 49 rfl dX3_readCondition_47 (by decide) ?_
      refine j_icmp_ne E 52 72 rfl rr1_ (rr (by decide)) dX3_readCondition_49 (by decide) (fun cc21_ => ?_) (fun cc21_ => ?_)
      rotate_left; · exfalso; omega
      refine j_aload_n E 73 rfl dX3_readCondition_72 rfl (lv_at hl 1 rfl) ?_
      refine g_84 E hK hw fl_X3_30 t_o (v_0 84 o) rfl 76 rfl dX3_readCondition_73 (fun _ => ?_)
      refine j_sipush E 79 rfl dX3_readCondition_76 (by decide) ?_
      refine j_icmp_ne E 82 103 rfl rr1_ (rr (by decide)) dX3_readCondition_79 (by decide) (fun cc22_ => ?_) (fun cc22_ => ?_)
      · exfalso; omega
      refine j_aload_n E 83 rfl dX3_readCondition_82 rfl (lv_at hl 1 rfl) ?_
      obtain ⟨f0_, fa_, fk_⟩ := Cs_nf hp2 (by omega)
      have h3_ := hp3 f0_
      clear cs_ hp3 lt0_
      have lt_ := RK_lt hp1 (j := (v_0 83 o)) (by omega)
      refine zV_v E (c_X3_step l D cy T (v_0) κ o K_ V_ hO t_o  (show RK_ (v_0 300) (T 120 (T 82 o)) (T 121 (T 82 o)) (((v_0 123) (T 82 o))) K_ V_ from hp1) (show 0 ≤ ((v_0 83) o) ∧ ((v_0 83) o) < 400 from by omega)) mt_X3_step ml_X3_54 hK hZ hAc hw (cw_rc4 hK hw.1 t_o) hA (frl_ (by first | exact Nat.le_refl _ | exact Nat.le_succ _ | exact Nat.le_trans (by decide) (Nat.add_le_add_right hd_ _)) (by decide)) ⟨Nat.le_of_ble_eq_true rfl, Nat.le_of_ble_eq_true rfl⟩ (As := []) (rest := []) rfl rfl hl.1 (Nat.le_of_ble_eq_true rfl) 86 rfl dX3_readCondition_83 (fun v_23 H locs hq23_ hw => ?_)
      obtain ⟨y83_23, y84_23, ev23_, hh23_⟩ := hq23_
      rw [ev23_] at hw; clear ev23_
      have hw : WK D cy T (upV (upV v_0 83 y83_23) 84 y84_23) A0 s.heap H locs := cw_eq hw (by first | rfl | (funext j_; simp only [upV, reduceIte]; (repeat' split) <;> first | rfl | omega | (subst_vars; rfl)))
      replace hh23_ : (y83_23 o) = ((v_0 83) o) + 1 ∧ (y84_23 o) = K_ (((v_0 83) o) + 1) := hh23_
      have s2_ := hh23_
      clear hh23_
      refine j_aload_n E 87 rfl dX3_readCondition_86 rfl (lv_at hl 1 rfl) ?_
      refine j_iload_n E 88 rfl dX3_readCondition_87 rfl (lv_at hl 2 rfl) ?_
      refine j_iconst E 89 rfl dX3_readCondition_88 ?_
      refine j_iadd E 90 rfl dX3_readCondition_89 ?_
      refine zV_v E (IHc_ l D cy T (upV (upV v_0 83 y83_23) 84 y84_23) κ o (v_q + 1) K_ V_ b_ hO t_o (rr (by omega)) (show 0 ≤ b_ ∧ b_ ≤ ((v_0 86) o) ∧ ((v_0 86) o) ≤ 400 from by omega) (show RK_ (v_0 300) (T 120 (T 82 o)) (T 121 (T 82 o)) (((v_0 123) (T 82 o))) K_ V_ from hp1) (show Cs_ K_ ((y83_23 o)) ((y84_23 o)) (((v_0 80) o)) from Cs_st hp2 (by omega) s2_.1 s2_.2 (by omega)) (show ((v_0 80) o) = 0 → ((v_0 86) o) ≤ (y83_23 o) from by omega) (show (v_q + 1) = qq_ + 1 from by omega)) mt_X3_readCondition ml_X3_85 hK hZ hAc hw (cw_rc4 hK hw.1 t_o) hA (frl_ (by first | exact Nat.le_refl _ | exact Nat.le_succ _ | exact Nat.le_trans (by decide) (Nat.add_le_add_right hd_ _)) (by decide)) ⟨Nat.le_of_ble_eq_true rfl, Nat.le_of_ble_eq_true rfl⟩ (As := [.int (J (v_q + 1))]) (rest := []) rfl rfl hl.1 (Nat.le_of_ble_eq_true rfl) 93 rfl dX3_readCondition_90 (fun v_24 H locs hq24_ hw => ?_)
      obtain ⟨y80_24, y83_24, y84_24, y86_24, y300_24, ev24_, hh24_⟩ := hq24_
      rw [ev24_] at hw; clear ev24_
      have hw : WK D cy T (upV (upV (upV (upV (upV v_0 80 y80_24) 83 y83_24) 84 y84_24) 86 y86_24) 300 y300_24) A0 s.heap H locs := cw_eq hw (by first | rfl | (funext j_; simp only [upV, reduceIte]; (repeat' split) <;> first | rfl | omega | (subst_vars; rfl)))
      obtain ⟨hh24_, kf24_⟩ := hh24_
      replace hh24_ : ((b_ ≤ (y86_24 o) ∧ (y86_24 o) ≤ 400 ∧ ((v_0 86) o) ≤ (y86_24 o) ∧ 0 ≤ (y83_24 o) ∧ (y83_24 o) ≤ 400) ∧ ((y80_24 o) = 0 → ((v_0 80) o) = 0 ∧ ((v_0 86) o) < (y86_24 o) ∧ (y86_24 o) - ((v_0 86) o) ≤ (y83_24 o) - (y83_23 o))) ∧ Rb_ (v_0 300) (y300_24) (T 85 o) b_ ∧ Ck_ S3_ ((v_q + 1) : Int) TX_ K_ V_ ((y83_23 o)) (((v_0 80) o)) ((y83_24 o)) ((y84_24 o)) ((y80_24 o)) (lL_ (gC_ (v_0 300) (T 85 o)) b_ (((v_0 86) o))) (lL_ (gC_ (y300_24) (T 85 o)) b_ ((y86_24 o))) := hh24_
      have n_ := hh24_
      clear hh24_
      rw [s2_.1] at n_
      refine j_aload_n E 94 rfl dX3_readCondition_93 rfl (lv_at hl 1 rfl) ?_
      refine j_sipush E 97 rfl dX3_readCondition_94 (by decide) ?_
      refine kV_v E (c_X3_emit l D cy T (upV (upV (upV (upV (upV v_0 80 y80_24) 83 y83_24) 84 y84_24) 86 y86_24) 300 y300_24) o ((-306)) b_ t_o (rr (by decide)) (show 0 ≤ b_ ∧ b_ ≤ (y86_24 o) ∧ (y86_24 o) ≤ 400 from by omega)) mt_X3_emit ml_X3_60 hK hw (cw_rc4 hK hw.1 t_o) hA (frl_ (by first | exact Nat.le_refl _ | exact Nat.le_succ _ | exact Nat.le_trans (by decide) (Nat.add_le_add_right hd_ _)) (by decide)) ⟨Nat.le_of_ble_eq_true rfl, Nat.le_of_ble_eq_true rfl⟩ (As := [.int (J ((-306)))]) (rest := []) rfl rfl hl.1 (Nat.le_of_ble_eq_true rfl) 100 rfl dX3_readCondition_97 (fun v_25 H locs hq25_ hw => ?_)
      obtain ⟨y86_25, y300_25, ev25_, hh25_⟩ := hq25_
      rw [ev25_] at hw; clear ev25_
      have hw : WK D cy T (upV (upV (upV (upV (upV v_0 80 y80_24) 83 y83_24) 84 y84_24) 86 y86_25) 300 y300_25) A0 s.heap H locs := cw_eq hw (by first | rfl | (funext j_; simp only [upV, reduceIte]; (repeat' split) <;> first | rfl | omega | (subst_vars; rfl)))
      obtain ⟨hh25_, kf25_⟩ := hh25_
      replace hh25_ : (b_ ≤ (y86_25 o) ∧ (y86_25 o) ≤ 400 ∧ (y86_24 o) ≤ (y86_25 o)) ∧ Rb_ (y300_24) (y300_25) (T 85 o) b_ ∧ ((y86_24 o) < 400 → (y86_25 o) = (y86_24 o) + 1 ∧ (lL_ (gC_ (y300_25) (T 85 o)) b_ ((y86_25 o))) = (lL_ (gC_ (y300_24) (T 85 o)) b_ ((y86_24 o))) ++ [(-306 : Int)]) := hh25_
      have rgn_ := hh25_.1
      have ron_ := hh25_.2.1
      have ecn_ : (y80_24 o) = 0 → (y86_25 o) = (y86_24 o) + 1 := fun q_ => (hh25_.2.2 (by omega)).1
      have emn_ := im_ (fun q_ : (y80_24 o) = 0 => (hh25_.2.2 (by omega)).2)
      clear hh25_
      refine j_goto E 126 dX3_readCondition_100 (by decide) ?_
      exact hret 126 (upV (upV (upV (upV (upV v_0 80 y80_24) 83 y83_24) 84 y84_24) 86 y86_25) 300 y300_25) _ _ ls hw ⟨y80_24, y83_24, y84_24, y86_25, y300_25, rfl, ⟨by first | exact ⟨by omega, Rb_rf, ck_deep (by omega) hp2 (by omega) rfl r_.1 r_.2⟩ | exact ⟨by omega, b1_.2.1, ck_bra (by omega) hp2 (by omega) b1_.2.2 t_ lt2_⟩ | exact ⟨by omega, Rb_tr n_.2.1 ron_, ck_not (by omega) hp2 (by omega) n_.2.2 emn_⟩ | exact ⟨by omega, Rb_tr e1_.2.1 (Rb_tr e2_.2.1 roq_), ck_cmp hp2 (by omega) (by omega) e1_.2.2 t_ e2_.2.2 emq_⟩, (Kd_tr (Kd_tr Kd_rf (Kd_mono kf24_ (by decide))) (Kd_mono kf25_ (by decide)))⟩⟩ dX3_readCondition_126
set_option maxHeartbeats 4000000 in
set_option maxRecDepth 100000 in
theorem gn_X3_readConditions (qq_ : Int) (hq_ : 0 ≤ qq_ ∧ qq_ ≤ 8) (dd_ : Nat) (hd_ : 5 ≤ dd_) (IHc_ : RC_ qq_ dd_) (l : Launch) (D : va_G) (cy : Nat → ClassId) (T : Nat → Nat → Nat) (v_0 : Nat → Nat → Int) (κ : Nat → Nat → Nat) (o : Nat) (v_q : Int) (K_ : Int → Int) (V_ : Int → Int) (b_ : Int) (hO : ∀ x, ow T x → κ 2 2 ≤ x) (t_o : T 0 o = 4) (r_v_q : inR v_q) (hp0 : 0 ≤ b_ ∧ b_ ≤ (v_0 86 o) ∧ (v_0 86 o) ≤ 400) (hp1 : RK_ (v_0 300) (T 120 (T 82 o)) (T 121 (T 82 o)) ((v_0 123 (T 82 o))) K_ V_) (hp2 : Cs_ K_ ((v_0 83 o)) ((v_0 84 o)) ((v_0 80 o))) (hp3 : (v_0 80 o) = 0 → (v_0 86 o) ≤ (v_0 83 o)) (hp4 : v_q = qq_) : KZ l D cy κ T yX3_readConditions cX3_readConditions 5 none (dd_ + 1) [.ref o, .int (J v_q)] v_0 (KV (fun (v_2 : Nat → Nat → Int) => ∃ (y80_2 : Nat → Int) (y83_2 : Nat → Int) (y84_2 : Nat → Int) (y86_2 : Nat → Int) (y300_2 : Nat → Int) , v_2 = upV (upV (upV (upV (upV v_0 80 y80_2) 83 y83_2) 84 y84_2) 86 y86_2) 300 y300_2 ∧ ((((b_ ≤ (y86_2 o) ∧ (y86_2 o) ≤ 400 ∧ (v_0 86 o) ≤ (y86_2 o) ∧ 0 ≤ (y83_2 o) ∧ (y83_2 o) ≤ 400) ∧ ((y80_2 o) = 0 → (v_0 80 o) = 0 ∧ (v_0 86 o) < (y86_2 o) ∧ (y86_2 o) - (v_0 86 o) ≤ (y83_2 o) - (v_0 83 o))) ∧ Rb_ (v_0 300) (y300_2) (T 85 o) b_ ∧ Ck_ S4_ (v_q : Int) (NA_ K_) K_ V_ ((v_0 83 o)) ((v_0 80 o)) ((y83_2 o)) ((y84_2 o)) ((y80_2 o)) (lL_ (gC_ (v_0 300) (T 85 o)) b_ ((v_0 86 o))) (lL_ (gC_ (y300_2) (T 85 o)) b_ ((y86_2 o)))) ∧ Kd_ T [85] (v_0 300) y300_2))) := by
  refine KZ.ofv (by decide) (Nat.le_of_ble_eq_true rfl) hO ?_
  intro p e s m below meth c ls ar QW A0 H locs E hK hZ hA hAc hw hl hret
  have hl : lv_has ls 5 [(0, .ref o), (1, .int (J v_q))] := hl
  have hT : WT T := hw.1.2.1
  have nk_ : T 120 (T 82 o) ≠ T 85 o := ro_ne (wo_120 hT (wt_82 hT t_o)) (wo_85 hT t_o) (by decide) (by decide) (by omega)
  have nv_ : T 121 (T 82 o) ≠ T 85 o := ro_ne (wo_121 hT (wt_82 hT t_o)) (wo_85 hT t_o) (by decide) (by decide) (by omega)
  have c0_ := hp2.1
  refine j_aload_n E 1 rfl dX3_readConditions_0 rfl (lv_at hl 0 rfl) ?_
  refine j_iload_n E 2 rfl dX3_readConditions_1 rfl (lv_at hl 1 rfl) ?_
  refine zV_v E (IHc_ l D cy T (v_0) κ o v_q K_ V_ b_ hO t_o r_v_q (show 0 ≤ b_ ∧ b_ ≤ ((v_0 86) o) ∧ ((v_0 86) o) ≤ 400 from by omega) (show RK_ (v_0 300) (T 120 (T 82 o)) (T 121 (T 82 o)) (((v_0 123) (T 82 o))) K_ V_ from hp1) (show Cs_ K_ (((v_0 83) o)) (((v_0 84) o)) (((v_0 80) o)) from hp2) (show ((v_0 80) o) = 0 → ((v_0 86) o) ≤ ((v_0 83) o) from by omega) (show v_q = qq_ from by omega)) mt_X3_readCondition ml_X3_85 hK hZ hAc hw (cw_rc4 hK hw.1 t_o) hA (frl_ (by first | exact Nat.le_refl _ | exact Nat.le_succ _ | exact Nat.le_trans (by decide) (Nat.add_le_add_right hd_ _)) (by decide)) ⟨Nat.le_of_ble_eq_true rfl, Nat.le_of_ble_eq_true rfl⟩ (As := [.int (J v_q)]) (rest := []) rfl rfl hl.1 (Nat.le_of_ble_eq_true rfl) 5 rfl dX3_readConditions_2 (fun v_1 H locs hq1_ hw => ?_)
  obtain ⟨y80_1, y83_1, y84_1, y86_1, y300_1, ev1_, hh1_⟩ := hq1_
  rw [ev1_] at hw; clear ev1_
  have hw : WK D cy T (upV (upV (upV (upV (upV v_0 80 y80_1) 83 y83_1) 84 y84_1) 86 y86_1) 300 y300_1) A0 s.heap H locs := cw_eq hw (by first | rfl | (funext j_; simp only [upV, reduceIte]; (repeat' split) <;> first | rfl | omega | (subst_vars; rfl)))
  obtain ⟨hh1_, kf1_⟩ := hh1_
  replace hh1_ : ((b_ ≤ (y86_1 o) ∧ (y86_1 o) ≤ 400 ∧ ((v_0 86) o) ≤ (y86_1 o) ∧ 0 ≤ (y83_1 o) ∧ (y83_1 o) ≤ 400) ∧ ((y80_1 o) = 0 → ((v_0 80) o) = 0 ∧ ((v_0 86) o) < (y86_1 o) ∧ (y86_1 o) - ((v_0 86) o) ≤ (y83_1 o) - ((v_0 83) o))) ∧ Rb_ (v_0 300) (y300_1) (T 85 o) b_ ∧ Ck_ S3_ (v_q : Int) TX_ K_ V_ (((v_0 83) o)) (((v_0 80) o)) ((y83_1 o)) ((y84_1 o)) ((y80_1 o)) (lL_ (gC_ (v_0 300) (T 85 o)) b_ (((v_0 86) o))) (lL_ (gC_ (y300_1) (T 85 o)) b_ ((y86_1 o))) := hh1_
  have u0_ := hh1_
  clear hh1_
  refine j_iconst E 6 rfl dX3_readConditions_5 ?_
  refine j_istore_n E 7 rfl [(2, .int (J 0)), (0, .ref o), (1, .int (J v_q))] dX3_readConditions_6 rfl hl (by decide) rfl (fun ls hl => ?_)
  refine j_iconst E 8 rfl dX3_readConditions_7 ?_
  refine j_istore_n E 9 rfl [(3, .int (J 0)), (2, .int (J 0)), (0, .ref o), (1, .int (J v_q))] dX3_readConditions_8 rfl hl (by decide) rfl (fun ls hl => ?_)
  have L9_2 : ∀ (k9 : Nat) (l2_9 l3_9 : Int) (y80_c9 : Nat → Int) (y83_c9 : Nat → Int) (y84_c9 : Nat → Int) (y86_c9 : Nat → Int) (y300_c9 : Nat → Int) (H : Heap) (locs : List Loc) (ls : Array Slot), inR l2_9 → inR l3_9 → (((0 ≤ b_ ∧ b_ ≤ (y86_c9 o) ∧ (y86_c9 o) ≤ 400 ∧ v_0 86 o ≤ (y86_c9 o) ∧ 0 ≤ l2_9 ∧ l2_9 ≤ 1) ∧ (Rb_ (v_0 300) (y300_c9) (T 85 o) b_) ∧ 0 ≤ l3_9 ∧ Co_ (v_q : Int) K_ V_ (v_0 83 o) (v_0 80 o) l2_9 l3_9 ((y83_c9 o)) ((y84_c9 o)) ((y80_c9 o)) (lL_ (gC_ (v_0 300) (T 85 o)) b_ (v_0 86 o)) (lL_ (gC_ (y300_c9) (T 85 o)) b_ ((y86_c9 o))) ∧ ((y80_c9 o) = 0 → v_0 80 o = 0 ∧ v_0 86 o < (y86_c9 o) ∧ (y86_c9 o) + l2_9 - v_0 86 o ≤ (y83_c9 o) - v_0 83 o)) ∧ Kd_ T [85] (v_0 300) y300_c9) → (400 - l3_9).toNat < k9 → WK D cy T (upV (upV (upV (upV (upV v_0 80 y80_c9) 83 y83_c9) 84 y84_c9) 86 y86_c9) 300 y300_c9) A0 s.heap H locs → lv_has ls 5 [(0, .ref o), (1, .int (J v_q)), (2, .int (J l2_9)), (3, .int (J l3_9))] → W p l e (rmd (dd_ + 1) 0 0) s m ar below meth c H locs 0 0 QW (F0 m 9 ls []) := by
    intro k9
    induction k9 with
    | zero =>
      intro l2_9 l3_9 y80_c9 y83_c9 y84_c9 y86_c9 y300_c9 H locs ls r_l2_9 r_l3_9 iv9 ms9 hw hl
      exact absurd ms9 (Nat.not_lt_zero _)
    | succ k9 ih9 =>
      intro l2_9 l3_9 y80_c9 y83_c9 y84_c9 y86_c9 y300_c9 H locs ls r_l2_9 r_l3_9 iv9 ms9 hw hl
      obtain ⟨iv9, ik9_⟩ := iv9
      have cs1_ := Co_cs hp2 iv9.2.2.2.1
      unfold Cs_ at cs1_
      clear u0_
      have L111_4 : ∀ (H : Heap) (locs : List Loc) (ls : Array Slot), (¬ ((y84_c9 o) = 305 ∨ (y84_c9 o) = 304)) → WK D cy T (upV (upV (upV (upV (upV v_0 80 y80_c9) 83 y83_c9) 84 y84_c9) 86 y86_c9) 300 y300_c9) A0 s.heap H locs → lv_has ls 5 [(0, .ref o), (1, .int (J v_q)), (2, .int (J l2_9)), (3, .int (J l3_9))] → W p l e (rmd (dd_ + 1) 0 0) s m ar below meth c H locs 0 0 QW (F0 m 111 ls []) := by
        intro H locs ls iv111 hw hl
        refine j_iload_n E 112 rfl dX3_readConditions_111 rfl (lv_at hl 2 rfl) ?_
        refine j_if_eq E 115 122 rfl r_l2_9 dX3_readConditions_112 (by decide) (fun cc6_ => ?_) (fun cc6_ => ?_)
        · exact hret 122 (upV (upV (upV (upV (upV v_0 80 y80_c9) 83 y83_c9) 84 y84_c9) 86 y86_c9) 300 y300_c9) _ _ ls hw ⟨y80_c9, y83_c9, y84_c9, y86_c9, y300_c9, rfl, ⟨by first | exact ⟨by omega, Rb_tr iv9.2.1 roe_, Co_end iv9.2.2.2.1 iv111 (by omega) (fun q_ => Or.inr ⟨by omega, eme_ q_⟩)⟩ | exact ⟨by omega, iv9.2.1, Co_end iv9.2.2.2.1 iv111 (by omega) (fun q_ => Or.inl ⟨by omega, rfl⟩)⟩, ik9_⟩⟩ dX3_readConditions_122
        · refine j_aload_n E 116 rfl dX3_readConditions_115 rfl (lv_at hl 0 rfl) ?_
          refine j_sipush E 119 rfl dX3_readConditions_116 (by decide) ?_
          refine kV_v E (c_X3_emit l D cy T (upV (upV (upV (upV (upV v_0 80 y80_c9) 83 y83_c9) 84 y84_c9) 86 y86_c9) 300 y300_c9) o ((-304)) b_ t_o (rr (by decide)) (show 0 ≤ b_ ∧ b_ ≤ (y86_c9 o) ∧ (y86_c9 o) ≤ 400 from by omega)) mt_X3_emit ml_X3_60 hK hw (cw_rc4 hK hw.1 t_o) hA (frl_ (by first | exact Nat.le_refl _ | exact Nat.le_succ _ | exact Nat.le_trans (by decide) (Nat.add_le_add_right hd_ _)) (by decide)) ⟨Nat.le_of_ble_eq_true rfl, Nat.le_of_ble_eq_true rfl⟩ (As := [.int (J ((-304)))]) (rest := []) rfl rfl hl.1 (Nat.le_of_ble_eq_true rfl) 122 rfl dX3_readConditions_119 (fun v_7 H locs hq7_ hw => ?_)
          obtain ⟨y86_7, y300_7, ev7_, hh7_⟩ := hq7_
          rw [ev7_] at hw; clear ev7_
          have hw : WK D cy T (upV (upV (upV (upV (upV v_0 80 y80_c9) 83 y83_c9) 84 y84_c9) 86 y86_7) 300 y300_7) A0 s.heap H locs := cw_eq hw (by first | rfl | (funext j_; simp only [upV, reduceIte]; (repeat' split) <;> first | rfl | omega | (subst_vars; rfl)))
          obtain ⟨hh7_, kf7_⟩ := hh7_
          replace hh7_ : (b_ ≤ (y86_7 o) ∧ (y86_7 o) ≤ 400 ∧ (y86_c9 o) ≤ (y86_7 o)) ∧ Rb_ (y300_c9) (y300_7) (T 85 o) b_ ∧ ((y86_c9 o) < 400 → (y86_7 o) = (y86_c9 o) + 1 ∧ (lL_ (gC_ (y300_7) (T 85 o)) b_ ((y86_7 o))) = (lL_ (gC_ (y300_c9) (T 85 o)) b_ ((y86_c9 o))) ++ [(-304 : Int)]) := hh7_
          have rge_ := hh7_.1
          have roe_ := hh7_.2.1
          have ece_ : (y80_c9 o) = 0 → (y86_7 o) = (y86_c9 o) + 1 := fun q_ => (hh7_.2.2 (by omega)).1
          have eme_ := im_ (fun q_ : (y80_c9 o) = 0 => (hh7_.2.2 (by omega)).2)
          clear hh7_
          exact hret 122 (upV (upV (upV (upV (upV v_0 80 y80_c9) 83 y83_c9) 84 y84_c9) 86 y86_7) 300 y300_7) _ _ ls hw ⟨y80_c9, y83_c9, y84_c9, y86_7, y300_7, rfl, ⟨by first | exact ⟨by omega, Rb_tr iv9.2.1 roe_, Co_end iv9.2.2.2.1 iv111 (by omega) (fun q_ => Or.inr ⟨by omega, eme_ q_⟩)⟩ | exact ⟨by omega, iv9.2.1, Co_end iv9.2.2.2.1 iv111 (by omega) (fun q_ => Or.inl ⟨by omega, rfl⟩)⟩, (Kd_tr ik9_ (Kd_mono kf7_ (by decide)))⟩⟩ dX3_readConditions_122
      refine j_iload_n E 10 rfl dX3_readConditions_9 rfl (lv_at hl 3 rfl) ?_
      refine j_sipush E 13 rfl dX3_readConditions_10 (by decide) ?_
      refine j_icmp_ge E 16 111 rfl r_l3_9 (rr (by decide)) dX3_readConditions_13 (by decide) (fun cc8_ => ?_) (fun cc8_ => ?_)
      · exact L111_4   H locs ls  (by first | omega | exact Co_i iv9.2.2.2.1 (by omega) (by omega)) hw (lv_sub hl [0, 1, 2, 3] rfl)
      · refine j_aload_n E 17 rfl dX3_readConditions_16 rfl (lv_at hl 0 rfl) ?_
        refine g_84 E hK hw fl_X3_30 t_o (y84_c9 o) rfl 20 rfl dX3_readConditions_17 (fun rr9_ => ?_)
        refine j_sipush E 23 rfl dX3_readConditions_20 (by decide) ?_
        refine j_icmp_eq E 26 36 rfl rr9_ (rr (by decide)) dX3_readConditions_23 (by decide) (fun cc10_ => ?_) (fun cc10_ => ?_)
        · have L51_11 : ∀ (s0_51 : Int) (H : Heap) (locs : List Loc) (ls : Array Slot), inR s0_51 → ((s0_51 = 1 ∧ (y84_c9 o) = 305) ∨ (s0_51 = 0 ∧ (y84_c9 o) = 304)) → WK D cy T (upV (upV (upV (upV (upV v_0 80 y80_c9) 83 y83_c9) 84 y84_c9) 86 y86_c9) 300 y300_c9) A0 s.heap H locs → lv_has ls 5 [(0, .ref o), (1, .int (J v_q)), (2, .int (J l2_9)), (3, .int (J l3_9))] → W p l e (rmd (dd_ + 1) 0 0) s m ar below meth c H locs 0 0 QW (F0 m 51 ls [.int (J s0_51)]) := by
            intro s0_51 H locs ls r_s0_51 iv51 hw hl
            obtain ⟨rf0_, rf1_, ra_, ra4_, rk_, -, -⟩ := Co_run iv9.2.2.2.1 (by omega)
            have n8_ := iv9.2.2.2.2 rf1_
            have h3_ := hp3 rf0_
            have r8_ := iv9.1
            have z8_ := iv9.2.1
            have i8_ := iv9.2.2.1
            have l8_ := iv9.2.2.2.1
            clear iv9 cs1_ hp3
            refine j_istore E 53 rfl [(4, .int (J s0_51)), (0, .ref o), (1, .int (J v_q)), (2, .int (J l2_9)), (3, .int (J l3_9))] dX3_readConditions_51 hl (by decide) rfl (fun ls hl => ?_)
            have L69_13 : ∀ (y86_c69 : Nat → Int) (y300_c69 : Nat → Int) (H : Heap) (locs : List Loc) (ls : Array Slot), (((0 ≤ b_ ∧ b_ ≤ (y86_c69 o) ∧ (y86_c69 o) ≤ 400 ∧ v_0 86 o ≤ (y86_c69 o)) ∧ (Rb_ (v_0 300) (y300_c69) (T 85 o) b_) ∧ Im_ (s0_51 = 1) ((lL_ (gC_ (y300_c69) (T 85 o)) b_ ((y86_c69 o))) = (lL_ (gC_ (y300_c9) (T 85 o)) b_ ((y86_c9 o)))) ∧ Im_ (¬ (s0_51 = 1)) ((l2_9 = 0 ∧ (lL_ (gC_ (y300_c69) (T 85 o)) b_ ((y86_c69 o))) = (lL_ (gC_ (y300_c9) (T 85 o)) b_ ((y86_c9 o)))) ∨ (¬ l2_9 = 0 ∧ (lL_ (gC_ (y300_c69) (T 85 o)) b_ ((y86_c69 o))) = (lL_ (gC_ (y300_c9) (T 85 o)) b_ ((y86_c9 o))) ++ [-(304)])) ∧ (y86_c69 o) - v_0 86 o ≤ (y83_c9 o) - v_0 83 o ∧ ((s0_51 = 1) → ¬ l2_9 = 0 → (y86_c69 o) + 1 - v_0 86 o ≤ (y83_c9 o) - v_0 83 o)) ∧ Kd_ T [85] (v_0 300) y300_c69) → WK D cy T (upV (upV (upV (upV (upV v_0 80 y80_c9) 83 y83_c9) 84 y84_c9) 86 y86_c69) 300 y300_c69) A0 s.heap H locs → lv_has ls 5 [(0, .ref o), (1, .int (J v_q)), (2, .int (J l2_9)), (3, .int (J l3_9)), (4, .int (J s0_51))] → W p l e (rmd (dd_ + 1) 0 0) s m ar below meth c H locs 0 0 QW (F0 m 69 ls []) := by
              intro y86_c69 y300_c69 H locs ls iv69 hw hl
              obtain ⟨iv69, ik69_⟩ := iv69
              obtain ⟨g6_, z6_, la_, lb_, m6_⟩ := iv69
              refine j_aload_n E 70 rfl dX3_readConditions_69 rfl (lv_at hl 0 rfl) ?_
              have lt_ := RK_lt hp1 (j := (y83_c9 o)) (by omega)
              refine zV_v E (c_X3_step l D cy T (upV (upV (upV (upV (upV v_0 80 y80_c9) 83 y83_c9) 84 y84_c9) 86 y86_c69) 300 y300_c69) κ o K_ V_ hO t_o  (show RK_ (y300_c69) (T 120 (T 82 o)) (T 121 (T 82 o)) (((v_0 123) (T 82 o))) K_ V_ from RK_rb hp1 z6_ nk_ nv_) (show 0 ≤ (y83_c9 o) ∧ (y83_c9 o) < 400 from by omega)) mt_X3_step ml_X3_54 hK hZ hAc hw (cw_rc4 hK hw.1 t_o) hA (frl_ (by first | exact Nat.le_refl _ | exact Nat.le_succ _ | exact Nat.le_trans (by decide) (Nat.add_le_add_right hd_ _)) (by decide)) ⟨Nat.le_of_ble_eq_true rfl, Nat.le_of_ble_eq_true rfl⟩ (As := []) (rest := []) rfl rfl hl.1 (Nat.le_of_ble_eq_true rfl) 73 rfl dX3_readConditions_70 (fun v_15 H locs hq15_ hw => ?_)
              obtain ⟨y83_15, y84_15, ev15_, hh15_⟩ := hq15_
              rw [ev15_] at hw; clear ev15_
              have hw : WK D cy T (upV (upV (upV (upV (upV v_0 80 y80_c9) 83 y83_15) 84 y84_15) 86 y86_c69) 300 y300_c69) A0 s.heap H locs := cw_eq hw (by first | rfl | (funext j_; simp only [upV, reduceIte]; (repeat' split) <;> first | rfl | omega | (subst_vars; rfl)))
              replace hh15_ : (y83_15 o) = (y83_c9 o) + 1 ∧ (y84_15 o) = K_ ((y83_c9 o) + 1) := hh15_
              have s_ := hh15_
              clear hh15_
              refine j_aload_n E 74 rfl dX3_readConditions_73 rfl (lv_at hl 0 rfl) ?_
              refine j_iload_n E 75 rfl dX3_readConditions_74 rfl (lv_at hl 1 rfl) ?_
              refine zV_v E (IHc_ l D cy T (upV (upV (upV (upV (upV v_0 80 y80_c9) 83 y83_15) 84 y84_15) 86 y86_c69) 300 y300_c69) κ o v_q K_ V_ b_ hO t_o r_v_q (show 0 ≤ b_ ∧ b_ ≤ (y86_c69 o) ∧ (y86_c69 o) ≤ 400 from by omega) (show RK_ (y300_c69) (T 120 (T 82 o)) (T 121 (T 82 o)) (((v_0 123) (T 82 o))) K_ V_ from RK_rb hp1 z6_ nk_ nv_) (show Cs_ K_ ((y83_15 o)) ((y84_15 o)) ((y80_c9 o)) from Cs_st (Co_cs hp2 l8_) rf1_ s_.1 s_.2 (by omega)) (show (y80_c9 o) = 0 → (y86_c69 o) ≤ (y83_15 o) from by omega) (show v_q = qq_ from by omega)) mt_X3_readCondition ml_X3_85 hK hZ hAc hw (cw_rc4 hK hw.1 t_o) hA (frl_ (by first | exact Nat.le_refl _ | exact Nat.le_succ _ | exact Nat.le_trans (by decide) (Nat.add_le_add_right hd_ _)) (by decide)) ⟨Nat.le_of_ble_eq_true rfl, Nat.le_of_ble_eq_true rfl⟩ (As := [.int (J v_q)]) (rest := []) rfl rfl hl.1 (Nat.le_of_ble_eq_true rfl) 78 rfl dX3_readConditions_75 (fun v_16 H locs hq16_ hw => ?_)
              obtain ⟨y80_16, y83_16, y84_16, y86_16, y300_16, ev16_, hh16_⟩ := hq16_
              rw [ev16_] at hw; clear ev16_
              have hw : WK D cy T (upV (upV (upV (upV (upV v_0 80 y80_16) 83 y83_16) 84 y84_16) 86 y86_16) 300 y300_16) A0 s.heap H locs := cw_eq hw (by first | rfl | (funext j_; simp only [upV, reduceIte]; (repeat' split) <;> first | rfl | omega | (subst_vars; rfl)))
              obtain ⟨hh16_, kf16_⟩ := hh16_
              replace hh16_ : ((b_ ≤ (y86_16 o) ∧ (y86_16 o) ≤ 400 ∧ (y86_c69 o) ≤ (y86_16 o) ∧ 0 ≤ (y83_16 o) ∧ (y83_16 o) ≤ 400) ∧ ((y80_16 o) = 0 → (y80_c9 o) = 0 ∧ (y86_c69 o) < (y86_16 o) ∧ (y86_16 o) - (y86_c69 o) ≤ (y83_16 o) - (y83_15 o))) ∧ Rb_ (y300_c69) (y300_16) (T 85 o) b_ ∧ Ck_ S3_ (v_q : Int) TX_ K_ V_ ((y83_15 o)) ((y80_c9 o)) ((y83_16 o)) ((y84_16 o)) ((y80_16 o)) (lL_ (gC_ (y300_c69) (T 85 o)) b_ ((y86_c69 o))) (lL_ (gC_ (y300_16) (T 85 o)) b_ ((y86_16 o))) := hh16_
              have u_ := hh16_
              clear hh16_
              rw [s_.1] at u_
              refine j_iload E 80 rfl dX3_readConditions_78 (lv_at hl 4 rfl) ?_
              refine j_if_eq E 83 90 rfl r_s0_51 dX3_readConditions_80 (by decide) (fun cc17_ => ?_) (fun cc17_ => ?_)
              · have L104_18 : ∀ (s0_104 : Int) (H : Heap) (locs : List Loc) (ls : Array Slot), inR s0_104 → (((l2_9 ≠ 0 ∨ s0_51 = 0) ∧ s0_104 = 1) ∨ (l2_9 = 0 ∧ s0_51 ≠ 0 ∧ s0_104 = 0)) → WK D cy T (upV (upV (upV (upV (upV v_0 80 y80_16) 83 y83_16) 84 y84_16) 86 y86_16) 300 y300_16) A0 s.heap H locs → lv_has ls 5 [(0, .ref o), (1, .int (J v_q)), (2, .int (J l2_9)), (3, .int (J l3_9)), (4, .int (J s0_51))] → W p l e (rmd (dd_ + 1) 0 0) s m ar below meth c H locs 0 0 QW (F0 m 104 ls [.int (J s0_104)]) := by
                  intro s0_104 H locs ls r_s0_104 iv104 hw hl
                  refine j_istore_n E 105 rfl [(2, .int (J s0_104)), (0, .ref o), (1, .int (J v_q)), (3, .int (J l3_9)), (4, .int (J s0_51))] dX3_readConditions_104 rfl hl (by decide) rfl (fun ls hl => ?_)
                  refine j_iinc E 108 rfl [(3, .int (J (l3_9 + 1))), (2, .int (J s0_104)), (0, .ref o), (1, .int (J v_q)), (4, .int (J s0_51))] dX3_readConditions_105 hl (kk := 3) rfl (by decide) rfl (fun ls hl => ?_)
                  refine j_goto E 9 dX3_readConditions_108 (by decide) ?_
                  exact ih9 s0_104 (l3_9 + 1) y80_16 y83_16 y84_16 y86_16 y300_16 H locs ls r_s0_104 (rr (by omega)) (⟨by first | exact ⟨by omega, Rb_tr z6_ (Rb_tr u_.2.1 ro9_), by omega, by rw [show s0_104 = l2_9 by omega]; exact Co_and l8_ (by omega) (la_ (by omega)) u_.2.2 em9_, by omega⟩ | exact ⟨by omega, Rb_tr z6_ u_.2.1, by omega, by rw [show s0_104 = 1 by omega]; exact Co_or l8_ (by omega) (fun _ => lb_ (by omega)) u_.2.2, by omega⟩ | (exfalso; omega), (Kd_tr ik69_ (Kd_mono kf16_ (by decide)))⟩) (by omega) hw (lv_sub hl [2, 3, 1, 0] rfl)
                refine j_iload_n E 91 rfl dX3_readConditions_90 rfl (lv_at hl 2 rfl) ?_
                refine j_if_ne E 94 99 rfl r_l2_9 dX3_readConditions_91 (by decide) (fun cc20_ => ?_) (fun cc20_ => ?_)
                · refine j_iconst E 100 rfl dX3_readConditions_99 ?_
                  refine j_goto E 104 dX3_readConditions_100 (by decide) ?_
                  exact L104_18 1  H locs ls (rr (by decide)) (by omega) hw (lv_sub hl [0, 1, 2, 3, 4] rfl)
                · refine j_iload E 96 rfl dX3_readConditions_94 (lv_at hl 4 rfl) ?_
                  refine j_if_ne E 99 103 rfl r_s0_51 dX3_readConditions_96 (by decide) (fun cc21_ => ?_) (fun cc21_ => ?_)
                  · exfalso; omega
                  refine j_iconst E 100 rfl dX3_readConditions_99 ?_
                  refine j_goto E 104 dX3_readConditions_100 (by decide) ?_
                  exact L104_18 1  H locs ls (rr (by decide)) (by omega) hw (lv_sub hl [0, 1, 2, 3, 4] rfl)
              · refine j_aload_n E 84 rfl dX3_readConditions_83 rfl (lv_at hl 0 rfl) ?_
                refine j_sipush E 87 rfl dX3_readConditions_84 (by decide) ?_
                refine kV_v E (c_X3_emit l D cy T (upV (upV (upV (upV (upV v_0 80 y80_16) 83 y83_16) 84 y84_16) 86 y86_16) 300 y300_16) o ((-305)) b_ t_o (rr (by decide)) (show 0 ≤ b_ ∧ b_ ≤ (y86_16 o) ∧ (y86_16 o) ≤ 400 from by omega)) mt_X3_emit ml_X3_60 hK hw (cw_rc4 hK hw.1 t_o) hA (frl_ (by first | exact Nat.le_refl _ | exact Nat.le_succ _ | exact Nat.le_trans (by decide) (Nat.add_le_add_right hd_ _)) (by decide)) ⟨Nat.le_of_ble_eq_true rfl, Nat.le_of_ble_eq_true rfl⟩ (As := [.int (J ((-305)))]) (rest := []) rfl rfl hl.1 (Nat.le_of_ble_eq_true rfl) 90 rfl dX3_readConditions_87 (fun v_22 H locs hq22_ hw => ?_)
                obtain ⟨y86_22, y300_22, ev22_, hh22_⟩ := hq22_
                rw [ev22_] at hw; clear ev22_
                have hw : WK D cy T (upV (upV (upV (upV (upV v_0 80 y80_16) 83 y83_16) 84 y84_16) 86 y86_22) 300 y300_22) A0 s.heap H locs := cw_eq hw (by first | rfl | (funext j_; simp only [upV, reduceIte]; (repeat' split) <;> first | rfl | omega | (subst_vars; rfl)))
                obtain ⟨hh22_, kf22_⟩ := hh22_
                replace hh22_ : (b_ ≤ (y86_22 o) ∧ (y86_22 o) ≤ 400 ∧ (y86_16 o) ≤ (y86_22 o)) ∧ Rb_ (y300_16) (y300_22) (T 85 o) b_ ∧ ((y86_16 o) < 400 → (y86_22 o) = (y86_16 o) + 1 ∧ (lL_ (gC_ (y300_22) (T 85 o)) b_ ((y86_22 o))) = (lL_ (gC_ (y300_16) (T 85 o)) b_ ((y86_16 o))) ++ [(-305 : Int)]) := hh22_
                have rg9_ := hh22_.1
                have ro9_ := hh22_.2.1
                have ec9_ : (y80_16 o) = 0 → (y86_22 o) = (y86_16 o) + 1 := fun q_ => (hh22_.2.2 (by omega)).1
                have em9_ := im_ (fun q_ : (y80_16 o) = 0 => (hh22_.2.2 (by omega)).2)
                clear hh22_
                have L104_23 : ∀ (s0_104 : Int) (H : Heap) (locs : List Loc) (ls : Array Slot), inR s0_104 → (((l2_9 ≠ 0 ∨ s0_51 = 0) ∧ s0_104 = 1) ∨ (l2_9 = 0 ∧ s0_51 ≠ 0 ∧ s0_104 = 0)) → WK D cy T (upV (upV (upV (upV (upV v_0 80 y80_16) 83 y83_16) 84 y84_16) 86 y86_22) 300 y300_22) A0 s.heap H locs → lv_has ls 5 [(0, .ref o), (1, .int (J v_q)), (2, .int (J l2_9)), (3, .int (J l3_9)), (4, .int (J s0_51))] → W p l e (rmd (dd_ + 1) 0 0) s m ar below meth c H locs 0 0 QW (F0 m 104 ls [.int (J s0_104)]) := by
                  intro s0_104 H locs ls r_s0_104 iv104 hw hl
                  refine j_istore_n E 105 rfl [(2, .int (J s0_104)), (0, .ref o), (1, .int (J v_q)), (3, .int (J l3_9)), (4, .int (J s0_51))] dX3_readConditions_104 rfl hl (by decide) rfl (fun ls hl => ?_)
                  refine j_iinc E 108 rfl [(3, .int (J (l3_9 + 1))), (2, .int (J s0_104)), (0, .ref o), (1, .int (J v_q)), (4, .int (J s0_51))] dX3_readConditions_105 hl (kk := 3) rfl (by decide) rfl (fun ls hl => ?_)
                  refine j_goto E 9 dX3_readConditions_108 (by decide) ?_
                  exact ih9 s0_104 (l3_9 + 1) y80_16 y83_16 y84_16 y86_22 y300_22 H locs ls r_s0_104 (rr (by omega)) (⟨by first | exact ⟨by omega, Rb_tr z6_ (Rb_tr u_.2.1 ro9_), by omega, by rw [show s0_104 = l2_9 by omega]; exact Co_and l8_ (by omega) (la_ (by omega)) u_.2.2 em9_, by omega⟩ | exact ⟨by omega, Rb_tr z6_ u_.2.1, by omega, by rw [show s0_104 = 1 by omega]; exact Co_or l8_ (by omega) (fun _ => lb_ (by omega)) u_.2.2, by omega⟩ | (exfalso; omega), (Kd_tr (Kd_tr ik69_ (Kd_mono kf16_ (by decide))) (Kd_mono kf22_ (by decide)))⟩) (by omega) hw (lv_sub hl [2, 3, 1, 0] rfl)
                refine j_iload_n E 91 rfl dX3_readConditions_90 rfl (lv_at hl 2 rfl) ?_
                refine j_if_ne E 94 99 rfl r_l2_9 dX3_readConditions_91 (by decide) (fun cc25_ => ?_) (fun cc25_ => ?_)
                · refine j_iconst E 100 rfl dX3_readConditions_99 ?_
                  refine j_goto E 104 dX3_readConditions_100 (by decide) ?_
                  exact L104_23 1  H locs ls (rr (by decide)) (by omega) hw (lv_sub hl [0, 1, 2, 3, 4] rfl)
                · refine j_iload E 96 rfl dX3_readConditions_94 (lv_at hl 4 rfl) ?_
                  refine j_if_ne E 99 103 rfl r_s0_51 dX3_readConditions_96 (by decide) (fun cc26_ => ?_) (fun cc26_ => ?_)
                  rotate_left; · exfalso; omega
                  refine j_iconst E 104 rfl dX3_readConditions_103 ?_
                  exact L104_23 0  H locs ls (rr (by decide)) (by omega) hw (lv_sub hl [0, 1, 2, 3, 4] rfl)
            refine j_iload E 55 rfl dX3_readConditions_53 (lv_at hl 0 rfl) ?_
            refine j_if_ne E 58 69 rfl r_s0_51 dX3_readConditions_55 (by decide) (fun cc27_ => ?_) (fun cc27_ => ?_)
            · exact L69_13  y86_c9 y300_c9 H locs ls  (⟨by first | exact ⟨by omega, z8_, fun _ => rfl, fun q_ => Or.inl ⟨by omega, rfl⟩, by omega, by omega⟩ | exact ⟨by omega, Rb_tr z8_ ro7_, fun q_ => absurd q_ (by omega), fun q_ => Or.inr ⟨by omega, em7_ rf1_⟩, by omega, by omega⟩, ik9_⟩) hw (lv_sub hl [1, 2, 3, 4, 0] rfl)
            · refine j_iload_n E 59 rfl dX3_readConditions_58 rfl (lv_at hl 3 rfl) ?_
              refine j_if_eq E 62 69 rfl r_l2_9 dX3_readConditions_59 (by decide) (fun cc28_ => ?_) (fun cc28_ => ?_)
              · exact L69_13  y86_c9 y300_c9 H locs ls  (⟨by first | exact ⟨by omega, z8_, fun _ => rfl, fun q_ => Or.inl ⟨by omega, rfl⟩, by omega, by omega⟩ | exact ⟨by omega, Rb_tr z8_ ro7_, fun q_ => absurd q_ (by omega), fun q_ => Or.inr ⟨by omega, em7_ rf1_⟩, by omega, by omega⟩, ik9_⟩) hw (lv_sub hl [1, 2, 3, 4, 0] rfl)
              · refine j_aload_n E 63 rfl dX3_readConditions_62 rfl (lv_at hl 1 rfl) ?_
                refine j_sipush E 66 rfl dX3_readConditions_63 (by decide) ?_
                refine kV_v E (c_X3_emit l D cy T (upV (upV (upV (upV (upV v_0 80 y80_c9) 83 y83_c9) 84 y84_c9) 86 y86_c9) 300 y300_c9) o ((-304)) b_ t_o (rr (by decide)) (show 0 ≤ b_ ∧ b_ ≤ (y86_c9 o) ∧ (y86_c9 o) ≤ 400 from by omega)) mt_X3_emit ml_X3_60 hK hw (cw_rc4 hK hw.1 t_o) hA (frl_ (by first | exact Nat.le_refl _ | exact Nat.le_succ _ | exact Nat.le_trans (by decide) (Nat.add_le_add_right hd_ _)) (by decide)) ⟨Nat.le_of_ble_eq_true rfl, Nat.le_of_ble_eq_true rfl⟩ (As := [.int (J ((-304)))]) (rest := []) rfl rfl hl.1 (Nat.le_of_ble_eq_true rfl) 69 rfl dX3_readConditions_66 (fun v_29 H locs hq29_ hw => ?_)
                obtain ⟨y86_29, y300_29, ev29_, hh29_⟩ := hq29_
                rw [ev29_] at hw; clear ev29_
                have hw : WK D cy T (upV (upV (upV (upV (upV v_0 80 y80_c9) 83 y83_c9) 84 y84_c9) 86 y86_29) 300 y300_29) A0 s.heap H locs := cw_eq hw (by first | rfl | (funext j_; simp only [upV, reduceIte]; (repeat' split) <;> first | rfl | omega | (subst_vars; rfl)))
                obtain ⟨hh29_, kf29_⟩ := hh29_
                replace hh29_ : (b_ ≤ (y86_29 o) ∧ (y86_29 o) ≤ 400 ∧ (y86_c9 o) ≤ (y86_29 o)) ∧ Rb_ (y300_c9) (y300_29) (T 85 o) b_ ∧ ((y86_c9 o) < 400 → (y86_29 o) = (y86_c9 o) + 1 ∧ (lL_ (gC_ (y300_29) (T 85 o)) b_ ((y86_29 o))) = (lL_ (gC_ (y300_c9) (T 85 o)) b_ ((y86_c9 o))) ++ [(-304 : Int)]) := hh29_
                have rg7_ := hh29_.1
                have ro7_ := hh29_.2.1
                have ec7_ : (y80_c9 o) = 0 → (y86_29 o) = (y86_c9 o) + 1 := fun q_ => (hh29_.2.2 (by omega)).1
                have em7_ := im_ (fun q_ : (y80_c9 o) = 0 => (hh29_.2.2 (by omega)).2)
                clear hh29_
                exact L69_13  y86_29 y300_29 H locs ls  (⟨by first | exact ⟨by omega, z8_, fun _ => rfl, fun q_ => Or.inl ⟨by omega, rfl⟩, by omega, by omega⟩ | exact ⟨by omega, Rb_tr z8_ ro7_, fun q_ => absurd q_ (by omega), fun q_ => Or.inr ⟨by omega, em7_ rf1_⟩, by omega, by omega⟩, (Kd_tr ik9_ (Kd_mono kf29_ (by decide)))⟩) hw (lv_sub hl [1, 2, 3, 4, 0] rfl)
          refine j_aload_n E 37 rfl dX3_readConditions_36 rfl (lv_at hl 0 rfl) ?_
          refine g_84 E hK hw fl_X3_30 t_o (y84_c9 o) rfl 40 rfl dX3_readConditions_37 (fun _ => ?_)
          refine j_sipush E 43 rfl dX3_readConditions_40 (by decide) ?_
          refine j_icmp_ne E 46 50 rfl rr9_ (rr (by decide)) dX3_readConditions_43 (by decide) (fun cc30_ => ?_) (fun cc30_ => ?_)
          · exfalso; omega
          refine j_iconst E 47 rfl dX3_readConditions_46 ?_
          refine j_goto E 51 dX3_readConditions_47 (by decide) ?_
          exact L51_11 1  H locs ls (rr (by decide)) (by omega) hw (lv_sub hl [0, 1, 2, 3] rfl)
        · refine j_aload_n E 27 rfl dX3_readConditions_26 rfl (lv_at hl 0 rfl) ?_
          refine g_84 E hK hw fl_X3_30 t_o (y84_c9 o) rfl 30 rfl dX3_readConditions_27 (fun _ => ?_)
          refine j_sipush E 33 rfl dX3_readConditions_30 (by decide) ?_
          refine j_icmp_ne E 36 111 rfl rr9_ (rr (by decide)) dX3_readConditions_33 (by decide) (fun cc31_ => ?_) (fun cc31_ => ?_)
          · exact L111_4   H locs ls  (by first | omega | exact Co_i iv9.2.2.2.1 (by omega) (by omega)) hw (lv_sub hl [0, 1, 2, 3] rfl)
          · have L51_32 : ∀ (s0_51 : Int) (H : Heap) (locs : List Loc) (ls : Array Slot), inR s0_51 → ((s0_51 = 1 ∧ (y84_c9 o) = 305) ∨ (s0_51 = 0 ∧ (y84_c9 o) = 304)) → WK D cy T (upV (upV (upV (upV (upV v_0 80 y80_c9) 83 y83_c9) 84 y84_c9) 86 y86_c9) 300 y300_c9) A0 s.heap H locs → lv_has ls 5 [(0, .ref o), (1, .int (J v_q)), (2, .int (J l2_9)), (3, .int (J l3_9))] → W p l e (rmd (dd_ + 1) 0 0) s m ar below meth c H locs 0 0 QW (F0 m 51 ls [.int (J s0_51)]) := by
              intro s0_51 H locs ls r_s0_51 iv51 hw hl
              obtain ⟨rf0_, rf1_, ra_, ra4_, rk_, -, -⟩ := Co_run iv9.2.2.2.1 (by omega)
              have n8_ := iv9.2.2.2.2 rf1_
              have h3_ := hp3 rf0_
              have r8_ := iv9.1
              have z8_ := iv9.2.1
              have i8_ := iv9.2.2.1
              have l8_ := iv9.2.2.2.1
              clear iv9 cs1_ hp3
              refine j_istore E 53 rfl [(4, .int (J s0_51)), (0, .ref o), (1, .int (J v_q)), (2, .int (J l2_9)), (3, .int (J l3_9))] dX3_readConditions_51 hl (by decide) rfl (fun ls hl => ?_)
              have L69_34 : ∀ (y86_c69 : Nat → Int) (y300_c69 : Nat → Int) (H : Heap) (locs : List Loc) (ls : Array Slot), (((0 ≤ b_ ∧ b_ ≤ (y86_c69 o) ∧ (y86_c69 o) ≤ 400 ∧ v_0 86 o ≤ (y86_c69 o)) ∧ (Rb_ (v_0 300) (y300_c69) (T 85 o) b_) ∧ Im_ (s0_51 = 1) ((lL_ (gC_ (y300_c69) (T 85 o)) b_ ((y86_c69 o))) = (lL_ (gC_ (y300_c9) (T 85 o)) b_ ((y86_c9 o)))) ∧ Im_ (¬ (s0_51 = 1)) ((l2_9 = 0 ∧ (lL_ (gC_ (y300_c69) (T 85 o)) b_ ((y86_c69 o))) = (lL_ (gC_ (y300_c9) (T 85 o)) b_ ((y86_c9 o)))) ∨ (¬ l2_9 = 0 ∧ (lL_ (gC_ (y300_c69) (T 85 o)) b_ ((y86_c69 o))) = (lL_ (gC_ (y300_c9) (T 85 o)) b_ ((y86_c9 o))) ++ [-(304)])) ∧ (y86_c69 o) - v_0 86 o ≤ (y83_c9 o) - v_0 83 o ∧ ((s0_51 = 1) → ¬ l2_9 = 0 → (y86_c69 o) + 1 - v_0 86 o ≤ (y83_c9 o) - v_0 83 o)) ∧ Kd_ T [85] (v_0 300) y300_c69) → WK D cy T (upV (upV (upV (upV (upV v_0 80 y80_c9) 83 y83_c9) 84 y84_c9) 86 y86_c69) 300 y300_c69) A0 s.heap H locs → lv_has ls 5 [(0, .ref o), (1, .int (J v_q)), (2, .int (J l2_9)), (3, .int (J l3_9)), (4, .int (J s0_51))] → W p l e (rmd (dd_ + 1) 0 0) s m ar below meth c H locs 0 0 QW (F0 m 69 ls []) := by
                intro y86_c69 y300_c69 H locs ls iv69 hw hl
                obtain ⟨iv69, ik69_⟩ := iv69
                obtain ⟨g6_, z6_, la_, lb_, m6_⟩ := iv69
                refine j_aload_n E 70 rfl dX3_readConditions_69 rfl (lv_at hl 0 rfl) ?_
                have lt_ := RK_lt hp1 (j := (y83_c9 o)) (by omega)
                refine zV_v E (c_X3_step l D cy T (upV (upV (upV (upV (upV v_0 80 y80_c9) 83 y83_c9) 84 y84_c9) 86 y86_c69) 300 y300_c69) κ o K_ V_ hO t_o  (show RK_ (y300_c69) (T 120 (T 82 o)) (T 121 (T 82 o)) (((v_0 123) (T 82 o))) K_ V_ from RK_rb hp1 z6_ nk_ nv_) (show 0 ≤ (y83_c9 o) ∧ (y83_c9 o) < 400 from by omega)) mt_X3_step ml_X3_54 hK hZ hAc hw (cw_rc4 hK hw.1 t_o) hA (frl_ (by first | exact Nat.le_refl _ | exact Nat.le_succ _ | exact Nat.le_trans (by decide) (Nat.add_le_add_right hd_ _)) (by decide)) ⟨Nat.le_of_ble_eq_true rfl, Nat.le_of_ble_eq_true rfl⟩ (As := []) (rest := []) rfl rfl hl.1 (Nat.le_of_ble_eq_true rfl) 73 rfl dX3_readConditions_70 (fun v_36 H locs hq36_ hw => ?_)
                obtain ⟨y83_36, y84_36, ev36_, hh36_⟩ := hq36_
                rw [ev36_] at hw; clear ev36_
                have hw : WK D cy T (upV (upV (upV (upV (upV v_0 80 y80_c9) 83 y83_36) 84 y84_36) 86 y86_c69) 300 y300_c69) A0 s.heap H locs := cw_eq hw (by first | rfl | (funext j_; simp only [upV, reduceIte]; (repeat' split) <;> first | rfl | omega | (subst_vars; rfl)))
                replace hh36_ : (y83_36 o) = (y83_c9 o) + 1 ∧ (y84_36 o) = K_ ((y83_c9 o) + 1) := hh36_
                have s_ := hh36_
                clear hh36_
                refine j_aload_n E 74 rfl dX3_readConditions_73 rfl (lv_at hl 0 rfl) ?_
                refine j_iload_n E 75 rfl dX3_readConditions_74 rfl (lv_at hl 1 rfl) ?_
                refine zV_v E (IHc_ l D cy T (upV (upV (upV (upV (upV v_0 80 y80_c9) 83 y83_36) 84 y84_36) 86 y86_c69) 300 y300_c69) κ o v_q K_ V_ b_ hO t_o r_v_q (show 0 ≤ b_ ∧ b_ ≤ (y86_c69 o) ∧ (y86_c69 o) ≤ 400 from by omega) (show RK_ (y300_c69) (T 120 (T 82 o)) (T 121 (T 82 o)) (((v_0 123) (T 82 o))) K_ V_ from RK_rb hp1 z6_ nk_ nv_) (show Cs_ K_ ((y83_36 o)) ((y84_36 o)) ((y80_c9 o)) from Cs_st (Co_cs hp2 l8_) rf1_ s_.1 s_.2 (by omega)) (show (y80_c9 o) = 0 → (y86_c69 o) ≤ (y83_36 o) from by omega) (show v_q = qq_ from by omega)) mt_X3_readCondition ml_X3_85 hK hZ hAc hw (cw_rc4 hK hw.1 t_o) hA (frl_ (by first | exact Nat.le_refl _ | exact Nat.le_succ _ | exact Nat.le_trans (by decide) (Nat.add_le_add_right hd_ _)) (by decide)) ⟨Nat.le_of_ble_eq_true rfl, Nat.le_of_ble_eq_true rfl⟩ (As := [.int (J v_q)]) (rest := []) rfl rfl hl.1 (Nat.le_of_ble_eq_true rfl) 78 rfl dX3_readConditions_75 (fun v_37 H locs hq37_ hw => ?_)
                obtain ⟨y80_37, y83_37, y84_37, y86_37, y300_37, ev37_, hh37_⟩ := hq37_
                rw [ev37_] at hw; clear ev37_
                have hw : WK D cy T (upV (upV (upV (upV (upV v_0 80 y80_37) 83 y83_37) 84 y84_37) 86 y86_37) 300 y300_37) A0 s.heap H locs := cw_eq hw (by first | rfl | (funext j_; simp only [upV, reduceIte]; (repeat' split) <;> first | rfl | omega | (subst_vars; rfl)))
                obtain ⟨hh37_, kf37_⟩ := hh37_
                replace hh37_ : ((b_ ≤ (y86_37 o) ∧ (y86_37 o) ≤ 400 ∧ (y86_c69 o) ≤ (y86_37 o) ∧ 0 ≤ (y83_37 o) ∧ (y83_37 o) ≤ 400) ∧ ((y80_37 o) = 0 → (y80_c9 o) = 0 ∧ (y86_c69 o) < (y86_37 o) ∧ (y86_37 o) - (y86_c69 o) ≤ (y83_37 o) - (y83_36 o))) ∧ Rb_ (y300_c69) (y300_37) (T 85 o) b_ ∧ Ck_ S3_ (v_q : Int) TX_ K_ V_ ((y83_36 o)) ((y80_c9 o)) ((y83_37 o)) ((y84_37 o)) ((y80_37 o)) (lL_ (gC_ (y300_c69) (T 85 o)) b_ ((y86_c69 o))) (lL_ (gC_ (y300_37) (T 85 o)) b_ ((y86_37 o))) := hh37_
                have u_ := hh37_
                clear hh37_
                rw [s_.1] at u_
                refine j_iload E 80 rfl dX3_readConditions_78 (lv_at hl 4 rfl) ?_
                refine j_if_eq E 83 90 rfl r_s0_51 dX3_readConditions_80 (by decide) (fun cc38_ => ?_) (fun cc38_ => ?_)
                · have L104_39 : ∀ (s0_104 : Int) (H : Heap) (locs : List Loc) (ls : Array Slot), inR s0_104 → (((l2_9 ≠ 0 ∨ s0_51 = 0) ∧ s0_104 = 1) ∨ (l2_9 = 0 ∧ s0_51 ≠ 0 ∧ s0_104 = 0)) → WK D cy T (upV (upV (upV (upV (upV v_0 80 y80_37) 83 y83_37) 84 y84_37) 86 y86_37) 300 y300_37) A0 s.heap H locs → lv_has ls 5 [(0, .ref o), (1, .int (J v_q)), (2, .int (J l2_9)), (3, .int (J l3_9)), (4, .int (J s0_51))] → W p l e (rmd (dd_ + 1) 0 0) s m ar below meth c H locs 0 0 QW (F0 m 104 ls [.int (J s0_104)]) := by
                    intro s0_104 H locs ls r_s0_104 iv104 hw hl
                    refine j_istore_n E 105 rfl [(2, .int (J s0_104)), (0, .ref o), (1, .int (J v_q)), (3, .int (J l3_9)), (4, .int (J s0_51))] dX3_readConditions_104 rfl hl (by decide) rfl (fun ls hl => ?_)
                    refine j_iinc E 108 rfl [(3, .int (J (l3_9 + 1))), (2, .int (J s0_104)), (0, .ref o), (1, .int (J v_q)), (4, .int (J s0_51))] dX3_readConditions_105 hl (kk := 3) rfl (by decide) rfl (fun ls hl => ?_)
                    refine j_goto E 9 dX3_readConditions_108 (by decide) ?_
                    exact ih9 s0_104 (l3_9 + 1) y80_37 y83_37 y84_37 y86_37 y300_37 H locs ls r_s0_104 (rr (by omega)) (⟨by first | exact ⟨by omega, Rb_tr z6_ (Rb_tr u_.2.1 ro9_), by omega, by rw [show s0_104 = l2_9 by omega]; exact Co_and l8_ (by omega) (la_ (by omega)) u_.2.2 em9_, by omega⟩ | exact ⟨by omega, Rb_tr z6_ u_.2.1, by omega, by rw [show s0_104 = 1 by omega]; exact Co_or l8_ (by omega) (fun _ => lb_ (by omega)) u_.2.2, by omega⟩ | (exfalso; omega), (Kd_tr ik69_ (Kd_mono kf37_ (by decide)))⟩) (by omega) hw (lv_sub hl [2, 3, 1, 0] rfl)
                  refine j_iload_n E 91 rfl dX3_readConditions_90 rfl (lv_at hl 2 rfl) ?_
                  refine j_if_ne E 94 99 rfl r_l2_9 dX3_readConditions_91 (by decide) (fun cc41_ => ?_) (fun cc41_ => ?_)
                  · refine j_iconst E 100 rfl dX3_readConditions_99 ?_
                    refine j_goto E 104 dX3_readConditions_100 (by decide) ?_
                    exact L104_39 1  H locs ls (rr (by decide)) (by omega) hw (lv_sub hl [0, 1, 2, 3, 4] rfl)
                  · refine j_iload E 96 rfl dX3_readConditions_94 (lv_at hl 4 rfl) ?_
                    refine j_if_ne E 99 103 rfl r_s0_51 dX3_readConditions_96 (by decide) (fun cc42_ => ?_) (fun cc42_ => ?_)
                    · exfalso; omega
                    refine j_iconst E 100 rfl dX3_readConditions_99 ?_
                    refine j_goto E 104 dX3_readConditions_100 (by decide) ?_
                    exact L104_39 1  H locs ls (rr (by decide)) (by omega) hw (lv_sub hl [0, 1, 2, 3, 4] rfl)
                · refine j_aload_n E 84 rfl dX3_readConditions_83 rfl (lv_at hl 0 rfl) ?_
                  refine j_sipush E 87 rfl dX3_readConditions_84 (by decide) ?_
                  refine kV_v E (c_X3_emit l D cy T (upV (upV (upV (upV (upV v_0 80 y80_37) 83 y83_37) 84 y84_37) 86 y86_37) 300 y300_37) o ((-305)) b_ t_o (rr (by decide)) (show 0 ≤ b_ ∧ b_ ≤ (y86_37 o) ∧ (y86_37 o) ≤ 400 from by omega)) mt_X3_emit ml_X3_60 hK hw (cw_rc4 hK hw.1 t_o) hA (frl_ (by first | exact Nat.le_refl _ | exact Nat.le_succ _ | exact Nat.le_trans (by decide) (Nat.add_le_add_right hd_ _)) (by decide)) ⟨Nat.le_of_ble_eq_true rfl, Nat.le_of_ble_eq_true rfl⟩ (As := [.int (J ((-305)))]) (rest := []) rfl rfl hl.1 (Nat.le_of_ble_eq_true rfl) 90 rfl dX3_readConditions_87 (fun v_43 H locs hq43_ hw => ?_)
                  obtain ⟨y86_43, y300_43, ev43_, hh43_⟩ := hq43_
                  rw [ev43_] at hw; clear ev43_
                  have hw : WK D cy T (upV (upV (upV (upV (upV v_0 80 y80_37) 83 y83_37) 84 y84_37) 86 y86_43) 300 y300_43) A0 s.heap H locs := cw_eq hw (by first | rfl | (funext j_; simp only [upV, reduceIte]; (repeat' split) <;> first | rfl | omega | (subst_vars; rfl)))
                  obtain ⟨hh43_, kf43_⟩ := hh43_
                  replace hh43_ : (b_ ≤ (y86_43 o) ∧ (y86_43 o) ≤ 400 ∧ (y86_37 o) ≤ (y86_43 o)) ∧ Rb_ (y300_37) (y300_43) (T 85 o) b_ ∧ ((y86_37 o) < 400 → (y86_43 o) = (y86_37 o) + 1 ∧ (lL_ (gC_ (y300_43) (T 85 o)) b_ ((y86_43 o))) = (lL_ (gC_ (y300_37) (T 85 o)) b_ ((y86_37 o))) ++ [(-305 : Int)]) := hh43_
                  have rg9_ := hh43_.1
                  have ro9_ := hh43_.2.1
                  have ec9_ : (y80_37 o) = 0 → (y86_43 o) = (y86_37 o) + 1 := fun q_ => (hh43_.2.2 (by omega)).1
                  have em9_ := im_ (fun q_ : (y80_37 o) = 0 => (hh43_.2.2 (by omega)).2)
                  clear hh43_
                  have L104_44 : ∀ (s0_104 : Int) (H : Heap) (locs : List Loc) (ls : Array Slot), inR s0_104 → (((l2_9 ≠ 0 ∨ s0_51 = 0) ∧ s0_104 = 1) ∨ (l2_9 = 0 ∧ s0_51 ≠ 0 ∧ s0_104 = 0)) → WK D cy T (upV (upV (upV (upV (upV v_0 80 y80_37) 83 y83_37) 84 y84_37) 86 y86_43) 300 y300_43) A0 s.heap H locs → lv_has ls 5 [(0, .ref o), (1, .int (J v_q)), (2, .int (J l2_9)), (3, .int (J l3_9)), (4, .int (J s0_51))] → W p l e (rmd (dd_ + 1) 0 0) s m ar below meth c H locs 0 0 QW (F0 m 104 ls [.int (J s0_104)]) := by
                    intro s0_104 H locs ls r_s0_104 iv104 hw hl
                    refine j_istore_n E 105 rfl [(2, .int (J s0_104)), (0, .ref o), (1, .int (J v_q)), (3, .int (J l3_9)), (4, .int (J s0_51))] dX3_readConditions_104 rfl hl (by decide) rfl (fun ls hl => ?_)
                    refine j_iinc E 108 rfl [(3, .int (J (l3_9 + 1))), (2, .int (J s0_104)), (0, .ref o), (1, .int (J v_q)), (4, .int (J s0_51))] dX3_readConditions_105 hl (kk := 3) rfl (by decide) rfl (fun ls hl => ?_)
                    refine j_goto E 9 dX3_readConditions_108 (by decide) ?_
                    exact ih9 s0_104 (l3_9 + 1) y80_37 y83_37 y84_37 y86_43 y300_43 H locs ls r_s0_104 (rr (by omega)) (⟨by first | exact ⟨by omega, Rb_tr z6_ (Rb_tr u_.2.1 ro9_), by omega, by rw [show s0_104 = l2_9 by omega]; exact Co_and l8_ (by omega) (la_ (by omega)) u_.2.2 em9_, by omega⟩ | exact ⟨by omega, Rb_tr z6_ u_.2.1, by omega, by rw [show s0_104 = 1 by omega]; exact Co_or l8_ (by omega) (fun _ => lb_ (by omega)) u_.2.2, by omega⟩ | (exfalso; omega), (Kd_tr (Kd_tr ik69_ (Kd_mono kf37_ (by decide))) (Kd_mono kf43_ (by decide)))⟩) (by omega) hw (lv_sub hl [2, 3, 1, 0] rfl)
                  refine j_iload_n E 91 rfl dX3_readConditions_90 rfl (lv_at hl 2 rfl) ?_
                  refine j_if_ne E 94 99 rfl r_l2_9 dX3_readConditions_91 (by decide) (fun cc46_ => ?_) (fun cc46_ => ?_)
                  · refine j_iconst E 100 rfl dX3_readConditions_99 ?_
                    refine j_goto E 104 dX3_readConditions_100 (by decide) ?_
                    exact L104_44 1  H locs ls (rr (by decide)) (by omega) hw (lv_sub hl [0, 1, 2, 3, 4] rfl)
                  · refine j_iload E 96 rfl dX3_readConditions_94 (lv_at hl 4 rfl) ?_
                    refine j_if_ne E 99 103 rfl r_s0_51 dX3_readConditions_96 (by decide) (fun cc47_ => ?_) (fun cc47_ => ?_)
                    rotate_left; · exfalso; omega
                    refine j_iconst E 104 rfl dX3_readConditions_103 ?_
                    exact L104_44 0  H locs ls (rr (by decide)) (by omega) hw (lv_sub hl [0, 1, 2, 3, 4] rfl)
              refine j_iload E 55 rfl dX3_readConditions_53 (lv_at hl 0 rfl) ?_
              refine j_if_ne E 58 69 rfl r_s0_51 dX3_readConditions_55 (by decide) (fun cc48_ => ?_) (fun cc48_ => ?_)
              · exact L69_34  y86_c9 y300_c9 H locs ls  (⟨by first | exact ⟨by omega, z8_, fun _ => rfl, fun q_ => Or.inl ⟨by omega, rfl⟩, by omega, by omega⟩ | exact ⟨by omega, Rb_tr z8_ ro7_, fun q_ => absurd q_ (by omega), fun q_ => Or.inr ⟨by omega, em7_ rf1_⟩, by omega, by omega⟩, ik9_⟩) hw (lv_sub hl [1, 2, 3, 4, 0] rfl)
              · refine j_iload_n E 59 rfl dX3_readConditions_58 rfl (lv_at hl 3 rfl) ?_
                refine j_if_eq E 62 69 rfl r_l2_9 dX3_readConditions_59 (by decide) (fun cc49_ => ?_) (fun cc49_ => ?_)
                · exact L69_34  y86_c9 y300_c9 H locs ls  (⟨by first | exact ⟨by omega, z8_, fun _ => rfl, fun q_ => Or.inl ⟨by omega, rfl⟩, by omega, by omega⟩ | exact ⟨by omega, Rb_tr z8_ ro7_, fun q_ => absurd q_ (by omega), fun q_ => Or.inr ⟨by omega, em7_ rf1_⟩, by omega, by omega⟩, ik9_⟩) hw (lv_sub hl [1, 2, 3, 4, 0] rfl)
                · refine j_aload_n E 63 rfl dX3_readConditions_62 rfl (lv_at hl 1 rfl) ?_
                  refine j_sipush E 66 rfl dX3_readConditions_63 (by decide) ?_
                  refine kV_v E (c_X3_emit l D cy T (upV (upV (upV (upV (upV v_0 80 y80_c9) 83 y83_c9) 84 y84_c9) 86 y86_c9) 300 y300_c9) o ((-304)) b_ t_o (rr (by decide)) (show 0 ≤ b_ ∧ b_ ≤ (y86_c9 o) ∧ (y86_c9 o) ≤ 400 from by omega)) mt_X3_emit ml_X3_60 hK hw (cw_rc4 hK hw.1 t_o) hA (frl_ (by first | exact Nat.le_refl _ | exact Nat.le_succ _ | exact Nat.le_trans (by decide) (Nat.add_le_add_right hd_ _)) (by decide)) ⟨Nat.le_of_ble_eq_true rfl, Nat.le_of_ble_eq_true rfl⟩ (As := [.int (J ((-304)))]) (rest := []) rfl rfl hl.1 (Nat.le_of_ble_eq_true rfl) 69 rfl dX3_readConditions_66 (fun v_50 H locs hq50_ hw => ?_)
                  obtain ⟨y86_50, y300_50, ev50_, hh50_⟩ := hq50_
                  rw [ev50_] at hw; clear ev50_
                  have hw : WK D cy T (upV (upV (upV (upV (upV v_0 80 y80_c9) 83 y83_c9) 84 y84_c9) 86 y86_50) 300 y300_50) A0 s.heap H locs := cw_eq hw (by first | rfl | (funext j_; simp only [upV, reduceIte]; (repeat' split) <;> first | rfl | omega | (subst_vars; rfl)))
                  obtain ⟨hh50_, kf50_⟩ := hh50_
                  replace hh50_ : (b_ ≤ (y86_50 o) ∧ (y86_50 o) ≤ 400 ∧ (y86_c9 o) ≤ (y86_50 o)) ∧ Rb_ (y300_c9) (y300_50) (T 85 o) b_ ∧ ((y86_c9 o) < 400 → (y86_50 o) = (y86_c9 o) + 1 ∧ (lL_ (gC_ (y300_50) (T 85 o)) b_ ((y86_50 o))) = (lL_ (gC_ (y300_c9) (T 85 o)) b_ ((y86_c9 o))) ++ [(-304 : Int)]) := hh50_
                  have rg7_ := hh50_.1
                  have ro7_ := hh50_.2.1
                  have ec7_ : (y80_c9 o) = 0 → (y86_50 o) = (y86_c9 o) + 1 := fun q_ => (hh50_.2.2 (by omega)).1
                  have em7_ := im_ (fun q_ : (y80_c9 o) = 0 => (hh50_.2.2 (by omega)).2)
                  clear hh50_
                  exact L69_34  y86_50 y300_50 H locs ls  (⟨by first | exact ⟨by omega, z8_, fun _ => rfl, fun q_ => Or.inl ⟨by omega, rfl⟩, by omega, by omega⟩ | exact ⟨by omega, Rb_tr z8_ ro7_, fun q_ => absurd q_ (by omega), fun q_ => Or.inr ⟨by omega, em7_ rf1_⟩, by omega, by omega⟩, (Kd_tr ik9_ (Kd_mono kf50_ (by decide)))⟩) hw (lv_sub hl [1, 2, 3, 4, 0] rfl)
            refine j_aload_n E 37 rfl dX3_readConditions_36 rfl (lv_at hl 0 rfl) ?_
            refine g_84 E hK hw fl_X3_30 t_o (y84_c9 o) rfl 40 rfl dX3_readConditions_37 (fun _ => ?_)
            refine j_sipush E 43 rfl dX3_readConditions_40 (by decide) ?_
            refine j_icmp_ne E 46 50 rfl rr9_ (rr (by decide)) dX3_readConditions_43 (by decide) (fun cc51_ => ?_) (fun cc51_ => ?_)
            rotate_left; · exfalso; omega
            refine j_iconst E 51 rfl dX3_readConditions_50 ?_
            exact L51_32 0  H locs ls (rr (by decide)) (by omega) hw (lv_sub hl [0, 1, 2, 3] rfl)
  exact L9_2 _ 0 0 y80_1 y83_1 y84_1 y86_1 y300_1 H locs ls (rr (by decide)) (rr (by decide)) (⟨⟨by omega, u0_.2.1, by omega, Co_0 hp2.1.1 u0_.2.2, by omega⟩, (Kd_tr Kd_rf (Kd_mono kf1_ (by decide)))⟩) (Nat.lt_succ_self _) hw (lv_sub hl [2, 3, 1, 0] rfl)
theorem rc_8 : RC_ 8 5 := g8_X3_readCondition
theorem rs_8 : RS_ 8 6 := gn_X3_readConditions 8 (by decide) 5 (by decide) rc_8
theorem rc_7 : RC_ 7 7 := gn_X3_readCondition 7 (by decide) 5 (by decide) rs_8 rc_8
theorem rs_7 : RS_ 7 8 := gn_X3_readConditions 7 (by decide) 7 (by decide) rc_7
theorem rc_6 : RC_ 6 9 := gn_X3_readCondition 6 (by decide) 7 (by decide) rs_7 rc_7
theorem rs_6 : RS_ 6 10 := gn_X3_readConditions 6 (by decide) 9 (by decide) rc_6
theorem rc_5 : RC_ 5 11 := gn_X3_readCondition 5 (by decide) 9 (by decide) rs_6 rc_6
theorem rs_5 : RS_ 5 12 := gn_X3_readConditions 5 (by decide) 11 (by decide) rc_5
theorem rc_4 : RC_ 4 13 := gn_X3_readCondition 4 (by decide) 11 (by decide) rs_5 rc_5
theorem rs_4 : RS_ 4 14 := gn_X3_readConditions 4 (by decide) 13 (by decide) rc_4
theorem rc_3 : RC_ 3 15 := gn_X3_readCondition 3 (by decide) 13 (by decide) rs_4 rc_4
theorem rs_3 : RS_ 3 16 := gn_X3_readConditions 3 (by decide) 15 (by decide) rc_3
theorem rc_2 : RC_ 2 17 := gn_X3_readCondition 2 (by decide) 15 (by decide) rs_3 rc_3
theorem rs_2 : RS_ 2 18 := gn_X3_readConditions 2 (by decide) 17 (by decide) rc_2
theorem rc_1 : RC_ 1 19 := gn_X3_readCondition 1 (by decide) 17 (by decide) rs_2 rc_2
theorem rs_1 : RS_ 1 20 := gn_X3_readConditions 1 (by decide) 19 (by decide) rc_1
theorem rc_0 : RC_ 0 21 := gn_X3_readCondition 0 (by decide) 19 (by decide) rs_1 rc_1
theorem rs_0 : RS_ 0 22 := gn_X3_readConditions 0 (by decide) 21 (by decide) rc_0
theorem c_X3_readConditions_n0 (l : Launch) (D : va_G) (cy : Nat → ClassId) (T : Nat → Nat → Nat) (v_0 : Nat → Nat → Int) (κ : Nat → Nat → Nat) (o : Nat) (K_ : Int → Int) (V_ : Int → Int) (b_ : Int) (hO : ∀ x, ow T x → κ 2 2 ≤ x) (t_o : T 0 o = 4) (hp0 : 0 ≤ b_ ∧ b_ ≤ (v_0 86 o) ∧ (v_0 86 o) ≤ 400) (hp1 : RK_ (v_0 300) (T 120 (T 82 o)) (T 121 (T 82 o)) ((v_0 123 (T 82 o))) K_ V_) (hp2 : Cs_ K_ ((v_0 83 o)) ((v_0 84 o)) ((v_0 80 o))) (hp3 : (v_0 80 o) = 0 → (v_0 86 o) ≤ (v_0 83 o)) : KZ l D cy κ T yX3_readConditions cX3_readConditions 5 none 22 [.ref o, .int (J 0)] v_0 (KV (fun (v_2 : Nat → Nat → Int) => ∃ (y80_2 : Nat → Int) (y83_2 : Nat → Int) (y84_2 : Nat → Int) (y86_2 : Nat → Int) (y300_2 : Nat → Int) , v_2 = upV (upV (upV (upV (upV v_0 80 y80_2) 83 y83_2) 84 y84_2) 86 y86_2) 300 y300_2 ∧ ((((b_ ≤ (y86_2 o) ∧ (y86_2 o) ≤ 400 ∧ (v_0 86 o) ≤ (y86_2 o) ∧ 0 ≤ (y83_2 o) ∧ (y83_2 o) ≤ 400) ∧ ((y80_2 o) = 0 → (v_0 80 o) = 0 ∧ (v_0 86 o) < (y86_2 o) ∧ (y86_2 o) - (v_0 86 o) ≤ (y83_2 o) - (v_0 83 o))) ∧ Rb_ (v_0 300) (y300_2) (T 85 o) b_ ∧ Ck_ S4_ ((0 : Int) : Int) (NA_ K_) K_ V_ ((v_0 83 o)) ((v_0 80 o)) ((y83_2 o)) ((y84_2 o)) ((y80_2 o)) (lL_ (gC_ (v_0 300) (T 85 o)) b_ ((v_0 86 o))) (lL_ (gC_ (y300_2) (T 85 o)) b_ ((y86_2 o)))) ∧ Kd_ T [85] (v_0 300) y300_2))) := rs_0 l D cy T v_0 κ o 0 K_ V_ b_ hO t_o (rr (by decide)) hp0 hp1 hp2 hp3 rfl
