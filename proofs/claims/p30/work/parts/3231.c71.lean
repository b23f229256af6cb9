set_option maxHeartbeats 4000000 in
set_option maxRecDepth 100000 in
theorem c_X3_step (l : Launch) (D : va_G) (cy : Nat → ClassId) (T : Nat → Nat → Nat) (v_0 : Nat → Nat → Int) (κ : Nat → Nat → Nat) (o : Nat) (K_ : Int → Int) (V_ : Int → Int) (hO : ∀ x, ow T x → κ 2 2 ≤ x) (t_o : T 0 o = 4) (hp0 : RK_ (v_0 300) (T 120 (T 82 o)) (T 121 (T 82 o)) ((v_0 123 (T 82 o))) K_ V_) (hp1 : 0 ≤ (v_0 83 o) ∧ (v_0 83 o) < 400) : KZ l D cy κ T yX3_step cX3_step 1 none 1 [.ref o] v_0 (KV (fun (v_2 : Nat → Nat → Int) => ∃ (y83_2 : Nat → Int) (y84_2 : Nat → Int) , v_2 = upV (upV v_0 83 y83_2) 84 y84_2 ∧ ((y83_2 o) = (v_0 83 o) + 1 ∧ (y84_2 o) = K_ ((v_0 83 o) + 1)))) := by
  refine KZ.ofv (by decide) (Nat.le_of_ble_eq_true rfl) hO ?_
  intro p e s m below meth c ls ar QW A0 H locs E hK hZ hA hAc hw hl hret
  have hl : lv_has ls 1 [(0, .ref o)] := hl
  have hT : WT T := hw.1.2.1
  have c4_ := hp0.2.2.2.1
  refine j_aload_n E 1 rfl dX3_step_0 rfl (lv_at hl 0 rfl) ?_
  refine j_dup E 2 rfl dX3_step_1 rfl ?_
  refine g_83 E hK hw fl_X3_25 t_o (v_0 83 o) rfl 5 rfl dX3_step_2 (fun rr1_ => ?_)
  refine j_iconst E 6 rfl dX3_step_5 ?_
  refine j_iadd E 7 rfl dX3_step_6 ?_
  refine p_83 E hK hw fl_X3_25 t_o (rr (by omega)) 10 rfl dX3_step_7 (fun H locs hw => ?_)
  have hw : WK D cy T (upV v_0 83 (upB (v_0 83) o ((v_0 83 o) + 1))) A0 s.heap H locs := cw_eq hw (by first | rfl | (funext j_; simp only [upV, reduceIte]; (repeat' split) <;> first | rfl | omega | (subst_vars; rfl)))
  refine j_aload_n E 11 rfl dX3_step_10 rfl (lv_at hl 0 rfl) ?_
  refine j_aload_n E 12 rfl dX3_step_11 rfl (lv_at hl 0 rfl) ?_
  refine g_83 E hK hw fl_X3_25 t_o ((v_0 83 o) + 1) (upB_same _ _ _) 15 rfl dX3_step_12 (fun rr3_ => ?_)
  refine j_if_lt E 18 62 rfl rr3_ dX3_step_15 (by decide) (fun cc4_ => ?_) (fun cc4_ => ?_)
  · exfalso; omega
  refine j_aload_n E 19 rfl dX3_step_18 rfl (lv_at hl 0 rfl) ?_
  refine g_83 E hK hw fl_X3_25 t_o ((v_0 83 o) + 1) (upB_same _ _ _) 22 rfl dX3_step_19 (fun _ => ?_)
  refine j_aload_n E 23 rfl dX3_step_22 rfl (lv_at hl 0 rfl) ?_
  refine g_82 E hK hw fl_X3_21 t_o 26 rfl dX3_step_23 ?_
  refine gn_123 E hZ rfl hK hw (wt_82 hT t_o) (v_0 123 (T 82 o)) rfl 29 rfl dX3_step_26 (fun rr5_ => ?_)
  refine j_icmp_ge E 32 62 rfl rr3_ rr5_ dX3_step_29 (by decide) (fun cc6_ => ?_) (fun cc6_ => ?_)
  · refine j_iconst E 63 rfl dX3_step_62 ?_
    refine p_84 E hK hw fl_X3_30 t_o (rr (by decide)) 66 rfl dX3_step_63 (fun H locs hw => ?_)
    have hw : WK D cy T (upV (upV v_0 83 (upB (v_0 83) o ((v_0 83 o) + 1))) 84 (upB (v_0 84) o 1)) A0 s.heap H locs := cw_eq hw (by first | rfl | (funext j_; simp only [upV, reduceIte]; (repeat' split) <;> first | rfl | omega | (subst_vars; rfl)))
    exact hret 66 (upV (upV v_0 83 (upB (v_0 83) o ((v_0 83 o) + 1))) 84 (upB (v_0 84) o 1)) _ _ ls hw ⟨(upB (v_0 83) o ((v_0 83 o) + 1)), (upB (v_0 84) o 1), rfl, ⟨upB_same _ _ _, by rw [upB_same]; first | exact he_.trans (hp0.1 _ (by omega) (by omega)).1 | exact (hp0.2.1 _ (by omega)).symm⟩⟩ dX3_step_66
  · refine j_aload_n E 33 rfl dX3_step_32 rfl (lv_at hl 0 rfl) ?_
    refine g_83 E hK hw fl_X3_25 t_o ((v_0 83 o) + 1) (upB_same _ _ _) 36 rfl dX3_step_33 (fun _ => ?_)
    refine j_aload_n E 37 rfl dX3_step_36 rfl (lv_at hl 0 rfl) ?_
    refine g_82 E hK hw fl_X3_21 t_o 40 rfl dX3_step_37 ?_
    refine gn_120 E hZ rfl hK hw (wt_82 hT t_o) 43 rfl dX3_step_40 ?_
    have ln8_ := wl_120 hT (wt_82 hT t_o)
    refine a_ln20 E hK hw (wt_120 hT (wt_82 hT t_o)) 44 rfl dX3_step_43 (fun rr9_ => ?_)
    refine j_icmp_ge E 47 62 rfl rr3_ rr9_ dX3_step_44 (by decide) (fun cc10_ => ?_) (fun cc10_ => ?_)
    · exfalso; omega
    refine j_aload_n E 48 rfl dX3_step_47 rfl (lv_at hl 0 rfl) ?_
    refine g_82 E hK hw fl_X3_21 t_o 51 rfl dX3_step_48 ?_
    refine gn_120 E hZ rfl hK hw (wt_82 hT t_o) 54 rfl dX3_step_51 ?_
    refine j_aload_n E 55 rfl dX3_step_54 rfl (lv_at hl 0 rfl) ?_
    refine g_83 E hK hw fl_X3_25 t_o ((v_0 83 o) + 1) (upB_same _ _ _) 58 rfl dX3_step_55 (fun _ => ?_)
    refine a_ld20 E hK hw (wt_120 hT (wt_82 hT t_o)) (by omega) 59 rfl dX3_step_58 (fun zz11_ he11_ rr11_ => ?_)
    have he11_ : zz11_ = v_0 300 (pr (T 120 (T 82 o)) (Int.toNat ((v_0 83 o) + 1))) := he11_
    have he_ : zz11_ = gC_ (v_0 300) (T 120 (T 82 o)) (((v_0 83 o) + 1)) := he11_
    refine j_goto E 63 dX3_step_59 (by decide) ?_
    refine p_84 E hK hw fl_X3_30 t_o rr11_ 66 rfl dX3_step_63 (fun H locs hw => ?_)
    have hw : WK D cy T (upV (upV v_0 83 (upB (v_0 83) o ((v_0 83 o) + 1))) 84 (upB (v_0 84) o zz11_)) A0 s.heap H locs := cw_eq hw (by first | rfl | (funext j_; simp only [upV, reduceIte]; (repeat' split) <;> first | rfl | omega | (subst_vars; rfl)))
    exact hret 66 (upV (upV v_0 83 (upB (v_0 83) o ((v_0 83 o) + 1))) 84 (upB (v_0 84) o zz11_)) _ _ ls hw ⟨(upB (v_0 83) o ((v_0 83 o) + 1)), (upB (v_0 84) o zz11_), rfl, ⟨upB_same _ _ _, by rw [upB_same]; first | exact he_.trans (hp0.1 _ (by omega) (by omega)).1 | exact (hp0.2.1 _ (by omega)).symm⟩⟩ dX3_step_66
set_option maxHeartbeats 4000000 in
set_option maxRecDepth 100000 in
theorem c_X3_refuse (l : Launch) (D : va_G) (cy : Nat → ClassId) (T : Nat → Nat → Nat) (v_0 : Nat → Nat → Int) (o : Nat) (v_f : Int) (t_o : T 0 o = 4) (r_v_f : inR v_f) : KC l D cy T yX3_refuse cX3_refuse 2 none 1 [.ref o, .int (J v_f)] v_0 (KV (fun (v_2 : Nat → Nat → Int) => ∃ (y80_2 : Nat → Int) (y84_2 : Nat → Int) , v_2 = upV (upV v_0 80 y80_2) 84 y84_2 ∧ ((y84_2 o) = 2 ∧ (((v_0 80 o) = 0 ∧ (y80_2 o) = v_f) ∨ (¬ (v_0 80 o) = 0 ∧ (y80_2 o) = (v_0 80 o)))))) := by
  refine KC.ofv (by decide) (Nat.le_of_ble_eq_true rfl) ?_
  intro p e s m below meth c ls ar QW A0 H0 H locs E hK hA hw hl hret
  have hl : lv_has ls 2 [(0, .ref o), (1, .int (J v_f))] := hl
  have hT : WT T := hw.1.2.1
  refine j_aload_n E 1 rfl dX3_refuse_0 rfl (lv_at hl 0 rfl) ?_
  have L16_1 : ∀ (s0_16 : Int) (H : Heap) (locs : List Loc) (ls : Array Slot), inR s0_16 → (((v_0 80 o) = 0 ∧ s0_16 = v_f) ∨ (¬ (v_0 80 o) = 0 ∧ s0_16 = (v_0 80 o))) → WK D cy T (v_0) A0 H0 H locs → lv_has ls 2 [(0, .ref o), (1, .int (J v_f))] → W p l e (rmd 1 0 0) s m ar below meth c H locs 0 0 QW (F0 m 16 ls [.int (J s0_16), .ref o]) := by
    intro s0_16 H locs ls r_s0_16 iv16 hw hl
    refine p_80 E hK hw fl_X3_9 t_o r_s0_16 19 rfl dX3_refuse_16 (fun H locs hw => ?_)
    have hw : WK D cy T (upV v_0 80 (upB (v_0 80) o s0_16)) A0 H0 H locs := cw_eq hw (by first | rfl | (funext j_; simp only [upV, reduceIte]; (repeat' split) <;> first | rfl | omega | (subst_vars; rfl)))
    refine j_aload_n E 20 rfl dX3_refuse_19 rfl (lv_at hl 0 rfl) ?_
    refine j_iconst E 21 rfl dX3_refuse_20 ?_
    refine p_84 E hK hw fl_X3_30 t_o (rr (by decide)) 24 rfl dX3_refuse_21 (fun H locs hw => ?_)
    have hw : WK D cy T (upV (upV v_0 80 (upB (v_0 80) o s0_16)) 84 (upB (v_0 84) o 2)) A0 H0 H locs := cw_eq hw (by first | rfl | (funext j_; simp only [upV, reduceIte]; (repeat' split) <;> first | rfl | omega | (subst_vars; rfl)))
    exact hret 24 (upV (upV v_0 80 (upB (v_0 80) o s0_16)) 84 (upB (v_0 84) o 2)) _ _ ls hw ⟨(upB (v_0 80) o s0_16), (upB (v_0 84) o 2), rfl, ⟨upB_same _ _ _, by rw [upB_same]; exact iv16⟩⟩ dX3_refuse_24
  refine j_aload_n E 2 rfl dX3_refuse_1 rfl (lv_at hl 0 rfl) ?_
  refine g_80 E hK hw fl_X3_9 t_o (v_0 80 o) rfl 5 rfl dX3_refuse_2 (fun rr5_ => ?_)
  refine j_if_ne E 8 12 rfl rr5_ dX3_refuse_5 (by decide) (fun cc6_ => ?_) (fun cc6_ => ?_)
  · refine j_aload_n E 13 rfl dX3_refuse_12 rfl (lv_at hl 0 rfl) ?_
    refine g_80 E hK hw fl_X3_9 t_o (v_0 80 o) rfl 16 rfl dX3_refuse_13 (fun _ => ?_)
    exact L16_1 (v_0 80 o)  H locs ls rr5_ (by omega) hw (lv_sub hl [0, 1] rfl)
  · refine j_iload_n E 9 rfl dX3_refuse_8 rfl (lv_at hl 1 rfl) ?_
    refine j_goto E 16 dX3_refuse_9 (by decide) ?_
    exact L16_1 v_f  H locs ls r_v_f (by omega) hw (lv_sub hl [0, 1] rfl)
set_option maxHeartbeats 4000000 in
set_option maxRecDepth 100000 in
theorem c_X3_emit (l : Launch) (D : va_G) (cy : Nat → ClassId) (T : Nat → Nat → Nat) (v_0 : Nat → Nat → Int) (o : Nat) (v_s : Int) (b_ : Int) (t_o : T 0 o = 4) (r_v_s : inR v_s) (hp0 : 0 ≤ b_ ∧ b_ ≤ (v_0 86 o) ∧ (v_0 86 o) ≤ 400) : KC l D cy T yX3_emit cX3_emit 2 none 1 [.ref o, .int (J v_s)] v_0 (KV (fun (v_2 : Nat → Nat → Int) => ∃ (y86_2 : Nat → Int) (y300_2 : Nat → Int) , v_2 = upV (upV v_0 86 y86_2) 300 y300_2 ∧ (((b_ ≤ (y86_2 o) ∧ (y86_2 o) ≤ 400 ∧ (v_0 86 o) ≤ (y86_2 o)) ∧ Rb_ (v_0 300) (y300_2) (T 85 o) b_ ∧ ((v_0 86 o) < 400 → (y86_2 o) = (v_0 86 o) + 1 ∧ (lL_ (gC_ (y300_2) (T 85 o)) b_ ((y86_2 o))) = (lL_ (gC_ (v_0 300) (T 85 o)) b_ ((v_0 86 o))) ++ [v_s])) ∧ Kd_ T [85] (v_0 300) y300_2))) := by
  refine KC.ofv (by decide) (Nat.le_of_ble_eq_true rfl) ?_
  intro p e s m below meth c ls ar QW A0 H0 H locs E hK hA hw hl hret
  have hl : lv_has ls 2 [(0, .ref o), (1, .int (J v_s))] := hl
  have hT : WT T := hw.1.2.1
  refine j_aload_n E 1 rfl dX3_emit_0 rfl (lv_at hl 0 rfl) ?_
  refine g_86 E hK hw fl_X3_37 t_o (v_0 86 o) rfl 4 rfl dX3_emit_1 (fun rr1_ => ?_)
  refine j_if_lt E 7 39 rfl rr1_ dX3_emit_4 (by decide) (fun cc2_ => ?_) (fun cc2_ => ?_)
  · exact hret 39 (upV (upV v_0 86 (v_0 86)) 300 (v_0 300)) _ _ ls (cw_eq hw (by first | rfl | (funext j_; simp only [upV, reduceIte]; (repeat' split) <;> first | rfl | omega | (subst_vars; rfl)))) ⟨(v_0 86), (v_0 300), rfl, ⟨by first | exact ⟨by omega, Rb_rf, fun q_ => absurd q_ (by omega)⟩ | exact ⟨by simp only [upB_same]; omega, Rb_up (by omega) (by omega), fun _ => ⟨upB_same _ _ _, by rw [upB_same]; exact lL_em (by omega) (by omega)⟩⟩, Kd_rf⟩⟩ dX3_emit_39
  · refine j_aload_n E 8 rfl dX3_emit_7 rfl (lv_at hl 0 rfl) ?_
    refine g_86 E hK hw fl_X3_37 t_o (v_0 86 o) rfl 11 rfl dX3_emit_8 (fun _ => ?_)
    refine j_aload_n E 12 rfl dX3_emit_11 rfl (lv_at hl 0 rfl) ?_
    refine g_85 E hK hw fl_X3_33 t_o 15 rfl dX3_emit_12 ?_
    have ln3_ := wl_85 hT t_o
    refine a_ln20 E hK hw (wt_85 hT t_o) 16 rfl dX3_emit_15 (fun rr4_ => ?_)
    refine j_icmp_ge E 19 39 rfl rr1_ rr4_ dX3_emit_16 (by decide) (fun cc5_ => ?_) (fun cc5_ => ?_)
    · exact hret 39 (upV (upV v_0 86 (v_0 86)) 300 (v_0 300)) _ _ ls (cw_eq hw (by first | rfl | (funext j_; simp only [upV, reduceIte]; (repeat' split) <;> first | rfl | omega | (subst_vars; rfl)))) ⟨(v_0 86), (v_0 300), rfl, ⟨by first | exact ⟨by omega, Rb_rf, fun q_ => absurd q_ (by omega)⟩ | exact ⟨by simp only [upB_same]; omega, Rb_up (by omega) (by omega), fun _ => ⟨upB_same _ _ _, by rw [upB_same]; exact lL_em (by omega) (by omega)⟩⟩, Kd_rf⟩⟩ dX3_emit_39
    · refine j_aload_n E 20 rfl dX3_emit_19 rfl (lv_at hl 0 rfl) ?_
      refine g_85 E hK hw fl_X3_33 t_o 23 rfl dX3_emit_20 ?_
      refine j_aload_n E 24 rfl dX3_emit_23 rfl (lv_at hl 0 rfl) ?_
      refine g_86 E hK hw fl_X3_37 t_o (v_0 86 o) rfl 27 rfl dX3_emit_24 (fun _ => ?_)
      refine j_iload_n E 28 rfl dX3_emit_27 rfl (lv_at hl 1 rfl) ?_
      refine a_st20 E hK hw (wt_85 hT t_o) r_v_s (by omega) 29 rfl dX3_emit_28 (fun H locs hw => ?_)
      have hw : WK D cy T (upV v_0 300 (upB (v_0 300) ((pr (T 85 o) (Int.toNat (v_0 86 o)))) v_s)) A0 H0 H locs := cw_eq hw (by first | rfl | (funext j_; simp only [upV, reduceIte]; (repeat' split) <;> first | rfl | omega | (subst_vars; rfl)))
      refine j_aload_n E 30 rfl dX3_emit_29 rfl (lv_at hl 0 rfl) ?_
      refine j_dup E 31 rfl dX3_emit_30 rfl ?_
      refine g_86 E hK hw fl_X3_37 t_o (v_0 86 o) rfl 34 rfl dX3_emit_31 (fun _ => ?_)
      refine j_iconst E 35 rfl dX3_emit_34 ?_
      refine j_iadd E 36 rfl dX3_emit_35 ?_
      refine p_86 E hK hw fl_X3_37 t_o (rr (by omega)) 39 rfl dX3_emit_36 (fun H locs hw => ?_)
      have hw : WK D cy T (upV (upV v_0 86 (upB (v_0 86) o ((v_0 86 o) + 1))) 300 (upB (v_0 300) ((pr (T 85 o) (Int.toNat (v_0 86 o)))) v_s)) A0 H0 H locs := cw_eq hw (by first | rfl | (funext j_; simp only [upV, reduceIte]; (repeat' split) <;> first | rfl | omega | (subst_vars; rfl)))
      exact hret 39 (upV (upV v_0 86 (upB (v_0 86) o ((v_0 86 o) + 1))) 300 (upB (v_0 300) ((pr (T 85 o) (Int.toNat (v_0 86 o)))) v_s)) _ _ ls hw ⟨(upB (v_0 86) o ((v_0 86 o) + 1)), (upB (v_0 300) ((pr (T 85 o) (Int.toNat (v_0 86 o)))) v_s), rfl, ⟨by first | exact ⟨by omega, Rb_rf, fun q_ => absurd q_ (by omega)⟩ | exact ⟨by simp only [upB_same]; omega, Rb_up (by omega) (by omega), fun _ => ⟨upB_same _ _ _, by rw [upB_same]; exact lL_em (by omega) (by omega)⟩⟩, (Kd_tr Kd_rf (Kd_up (wok (wo_85 hT t_o) (by decide)) (by decide)))⟩⟩ dX3_emit_39
set_option maxHeartbeats 4000000 in
set_option maxRecDepth 100000 in
theorem c_X3_take (l : Launch) (D : va_G) (cy : Nat → ClassId) (T : Nat → Nat → Nat) (v_0 : Nat → Nat → Int) (κ : Nat → Nat → Nat) (o : Nat) (v_d : Int) (K_ : Int → Int) (V_ : Int → Int) (hO : ∀ x, ow T x → κ 2 2 ≤ x) (t_o : T 0 o = 4) (r_v_d : inR v_d) (hp0 : RK_ (v_0 300) (T 120 (T 82 o)) (T 121 (T 82 o)) ((v_0 123 (T 82 o))) K_ V_) (hp1 : Cs_ K_ ((v_0 83 o)) ((v_0 84 o)) ((v_0 80 o))) (hp2 : 3 < v_d) : KZ l D cy κ T yX3_take cX3_take 2 none 2 [.ref o, .int (J v_d)] v_0 (KV (fun (v_2 : Nat → Nat → Int) => ∃ (y80_2 : Nat → Int) (y83_2 : Nat → Int) (y84_2 : Nat → Int) , v_2 = upV (upV (upV v_0 80 y80_2) 83 y83_2) 84 y84_2 ∧ ((((v_0 84 o) = v_d) ∧ (y83_2 o) = (v_0 83 o) + 1 ∧ (y84_2 o) = K_ ((v_0 83 o) + 1) ∧ (y80_2 o) = (v_0 80 o)) ∨ (¬ ((v_0 84 o) = v_d) ∧ (y83_2 o) = (v_0 83 o) ∧ (y84_2 o) = 2 ∧ (((v_0 80 o) = 0 ∧ (y80_2 o) = 1) ∨ (¬ (v_0 80 o) = 0 ∧ (y80_2 o) = (v_0 80 o))))))) := by
  refine KZ.ofv (by decide) (Nat.le_of_ble_eq_true rfl) hO ?_
  intro p e s m below meth c ls ar QW A0 H locs E hK hZ hA hAc hw hl hret
  have hl : lv_has ls 2 [(0, .ref o), (1, .int (J v_d))] := hl
  have hT : WT T := hw.1.2.1
  have cs_ := hp1
  unfold Cs_ at cs_
  refine j_aload_n E 1 rfl dX3_take_0 rfl (lv_at hl 0 rfl) ?_
  refine g_84 E hK hw fl_X3_30 t_o (v_0 84 o) rfl 4 rfl dX3_take_1 (fun rr1_ => ?_)
  refine j_iload_n E 5 rfl dX3_take_4 rfl (lv_at hl 1 rfl) ?_
  refine j_icmp_ne E 8 15 rfl rr1_ r_v_d dX3_take_5 (by decide) (fun cc2_ => ?_) (fun cc2_ => ?_)
  · refine j_aload_n E 16 rfl dX3_take_15 rfl (lv_at hl 0 rfl) ?_
    refine j_iconst E 17 rfl dX3_take_16 ?_
    refine kV_v E (c_X3_refuse l D cy T (v_0) o 1  t_o (rr (by decide)) ) mt_X3_refuse ml_X3_63 hK hw (cw_rc4 hK hw.1 t_o) hA ⟨Nat.le_of_ble_eq_true rfl, Nat.le_of_ble_eq_true rfl⟩ ⟨Nat.le_of_ble_eq_true rfl, Nat.le_of_ble_eq_true rfl⟩ (As := [.int (J 1)]) (rest := []) rfl rfl hl.1 (Nat.le_of_ble_eq_true rfl) 20 rfl dX3_take_17 (fun v_3 H locs hq3_ hw => ?_)
    obtain ⟨y80_3, y84_3, ev3_, hh3_⟩ := hq3_
    rw [ev3_] at hw; clear ev3_
    have hw : WK D cy T (upV (upV v_0 80 y80_3) 84 y84_3) A0 s.heap H locs := cw_eq hw (by first | rfl | (funext j_; simp only [upV, reduceIte]; (repeat' split) <;> first | rfl | omega | (subst_vars; rfl)))
    replace hh3_ : (y84_3 o) = 2 ∧ ((((v_0 80) o) = 0 ∧ (y80_3 o) = (1 : Int)) ∨ (¬ ((v_0 80) o) = 0 ∧ (y80_3 o) = ((v_0 80) o))) := hh3_
    exact hret 20 (upV (upV (upV v_0 80 y80_3) 83 (v_0 83)) 84 y84_3) _ _ ls (cw_eq hw (by first | rfl | (funext j_; simp only [upV, reduceIte]; (repeat' split) <;> first | rfl | omega | (subst_vars; rfl)))) ⟨y80_3, (v_0 83), y84_3, rfl, by first | omega | (simp only [upB_same]; omega)⟩ dX3_take_20
  · refine j_aload_n E 9 rfl dX3_take_8 rfl (lv_at hl 0 rfl) ?_
    refine zV_v E (c_X3_step l D cy T (v_0) κ o K_ V_ hO t_o  (show RK_ (v_0 300) (T 120 (T 82 o)) (T 121 (T 82 o)) (((v_0 123) (T 82 o))) K_ V_ from hp0) (show 0 ≤ ((v_0 83) o) ∧ ((v_0 83) o) < 400 from by have q_ := RK_lt hp0 (j := (v_0 83 o)) (by omega); omega)) mt_X3_step ml_X3_54 hK hZ hAc hw (cw_rc4 hK hw.1 t_o) hA ⟨Nat.le_of_ble_eq_true rfl, Nat.le_of_ble_eq_true rfl⟩ ⟨Nat.le_of_ble_eq_true rfl, Nat.le_of_ble_eq_true rfl⟩ (As := []) (rest := []) rfl rfl hl.1 (Nat.le_of_ble_eq_true rfl) 12 rfl dX3_take_9 (fun v_4 H locs hq4_ hw => ?_)
    obtain ⟨y83_4, y84_4, ev4_, hh4_⟩ := hq4_
    rw [ev4_] at hw; clear ev4_
    have hw : WK D cy T (upV (upV v_0 83 y83_4) 84 y84_4) A0 s.heap H locs := cw_eq hw (by first | rfl | (funext j_; simp only [upV, reduceIte]; (repeat' split) <;> first | rfl | omega | (subst_vars; rfl)))
    replace hh4_ : (y83_4 o) = ((v_0 83) o) + 1 ∧ (y84_4 o) = K_ (((v_0 83) o) + 1) := hh4_
    refine j_goto E 20 dX3_take_12 (by decide) ?_
    exact hret 20 (upV (upV (upV v_0 80 (v_0 80)) 83 y83_4) 84 y84_4) _ _ ls (cw_eq hw (by first | rfl | (funext j_; simp only [upV, reduceIte]; (repeat' split) <;> first | rfl | omega | (subst_vars; rfl)))) ⟨(v_0 80), y83_4, y84_4, rfl, by first | omega | (simp only [upB_same]; omega)⟩ dX3_take_20
set_option maxHeartbeats 4000000 in
set_option maxRecDepth 100000 in
theorem c_X3_takeComparison (l : Launch) (D : va_G) (cy : Nat → ClassId) (T : Nat → Nat → Nat) (v_0 : Nat → Nat → Int) (κ : Nat → Nat → Nat) (o : Nat) (K_ : Int → Int) (V_ : Int → Int) (hO : ∀ x, ow T x → κ 2 2 ≤ x) (t_o : T 0 o = 4) (hp0 : RK_ (v_0 300) (T 120 (T 82 o)) (T 121 (T 82 o)) ((v_0 123 (T 82 o))) K_ V_) (hp1 : Cs_ K_ ((v_0 83 o)) ((v_0 84 o)) ((v_0 80 o))) : KZ l D cy κ T yX3_takeComparison cX3_takeComparison 1 none 2 [.ref o] v_0 (KV (fun (v_2 : Nat → Nat → Int) => ∃ (y80_2 : Nat → Int) (y83_2 : Nat → Int) (y84_2 : Nat → Int) , v_2 = upV (upV (upV v_0 80 y80_2) 83 y83_2) 84 y84_2 ∧ ((((v_0 84 o) = 60 ∨ (v_0 84 o) = 61 ∨ (v_0 84 o) = 62) ∧ (y83_2 o) = (v_0 83 o) + 1 ∧ (y84_2 o) = K_ ((v_0 83 o) + 1) ∧ (y80_2 o) = (v_0 80 o)) ∨ (¬ ((v_0 84 o) = 60 ∨ (v_0 84 o) = 61 ∨ (v_0 84 o) = 62) ∧ (y83_2 o) = (v_0 83 o) ∧ (y84_2 o) = 2 ∧ (((v_0 80 o) = 0 ∧ (y80_2 o) = 1) ∨ (¬ (v_0 80 o) = 0 ∧ (y80_2 o) = (v_0 80 o))))))) := by
  refine KZ.ofv (by decide) (Nat.le_of_ble_eq_true rfl) hO ?_
  intro p e s m below meth c ls ar QW A0 H locs E hK hZ hA hAc hw hl hret
  have hl : lv_has ls 1 [(0, .ref o)] := hl
  have hT : WT T := hw.1.2.1
  have cs_ := hp1
  unfold Cs_ at cs_
  refine j_aload_n E 1 rfl dX3_takeComparison_0 rfl (lv_at hl 0 rfl) ?_
  refine g_84 E hK hw fl_X3_30 t_o (v_0 84 o) rfl 4 rfl dX3_takeComparison_1 (fun rr1_ => ?_)
  refine j_bipush E 6 rfl dX3_takeComparison_4 (by decide) ?_
  refine j_icmp_eq E 9 27 rfl rr1_ (rr (by decide)) dX3_takeComparison_6 (by decide) (fun cc2_ => ?_) (fun cc2_ => ?_)
  · refine j_aload_n E 28 rfl dX3_takeComparison_27 rfl (lv_at hl 0 rfl) ?_
    refine zV_v E (c_X3_step l D cy T (v_0) κ o K_ V_ hO t_o  (show RK_ (v_0 300) (T 120 (T 82 o)) (T 121 (T 82 o)) (((v_0 123) (T 82 o))) K_ V_ from hp0) (show 0 ≤ ((v_0 83) o) ∧ ((v_0 83) o) < 400 from by have q_ := RK_lt hp0 (j := (v_0 83 o)) (by omega); omega)) mt_X3_step ml_X3_54 hK hZ hAc hw (cw_rc4 hK hw.1 t_o) hA ⟨Nat.le_of_ble_eq_true rfl, Nat.le_of_ble_eq_true rfl⟩ ⟨Nat.le_of_ble_eq_true rfl, Nat.le_of_ble_eq_true rfl⟩ (As := []) (rest := []) rfl rfl hl.1 (Nat.le_of_ble_eq_true rfl) 31 rfl dX3_takeComparison_28 (fun v_3 H locs hq3_ hw => ?_)
    obtain ⟨y83_3, y84_3, ev3_, hh3_⟩ := hq3_
    rw [ev3_] at hw; clear ev3_
    have hw : WK D cy T (upV (upV v_0 83 y83_3) 84 y84_3) A0 s.heap H locs := cw_eq hw (by first | rfl | (funext j_; simp only [upV, reduceIte]; (repeat' split) <;> first | rfl | omega | (subst_vars; rfl)))
    replace hh3_ : (y83_3 o) = ((v_0 83) o) + 1 ∧ (y84_3 o) = K_ (((v_0 83) o) + 1) := hh3_
    refine j_goto E 39 dX3_takeComparison_31 (by decide) ?_
    exact hret 39 (upV (upV (upV v_0 80 (v_0 80)) 83 y83_3) 84 y84_3) _ _ ls (cw_eq hw (by first | rfl | (funext j_; simp only [upV, reduceIte]; (repeat' split) <;> first | rfl | omega | (subst_vars; rfl)))) ⟨(v_0 80), y83_3, y84_3, rfl, by first | omega | (simp only [upB_same]; omega)⟩ dX3_takeComparison_39
  · refine j_aload_n E 10 rfl dX3_takeComparison_9 rfl (lv_at hl 0 rfl) ?_
    refine g_84 E hK hw fl_X3_30 t_o (v_0 84 o) rfl 13 rfl dX3_takeComparison_10 (fun _ => ?_)
    refine j_bipush E 15 rfl dX3_takeComparison_13 (by decide) ?_
    refine j_icmp_eq E 18 27 rfl rr1_ (rr (by decide)) dX3_takeComparison_15 (by decide) (fun cc4_ => ?_) (fun cc4_ => ?_)
    · refine j_aload_n E 28 rfl dX3_takeComparison_27 rfl (lv_at hl 0 rfl) ?_
      refine zV_v E (c_X3_step l D cy T (v_0) κ o K_ V_ hO t_o  (show RK_ (v_0 300) (T 120 (T 82 o)) (T 121 (T 82 o)) (((v_0 123) (T 82 o))) K_ V_ from hp0) (show 0 ≤ ((v_0 83) o) ∧ ((v_0 83) o) < 400 from by have q_ := RK_lt hp0 (j := (v_0 83 o)) (by omega); omega)) mt_X3_step ml_X3_54 hK hZ hAc hw (cw_rc4 hK hw.1 t_o) hA ⟨Nat.le_of_ble_eq_true rfl, Nat.le_of_ble_eq_true rfl⟩ ⟨Nat.le_of_ble_eq_true rfl, Nat.le_of_ble_eq_true rfl⟩ (As := []) (rest := []) rfl rfl hl.1 (Nat.le_of_ble_eq_true rfl) 31 rfl dX3_takeComparison_28 (fun v_5 H locs hq5_ hw => ?_)
      obtain ⟨y83_5, y84_5, ev5_, hh5_⟩ := hq5_
      rw [ev5_] at hw; clear ev5_
      have hw : WK D cy T (upV (upV v_0 83 y83_5) 84 y84_5) A0 s.heap H locs := cw_eq hw (by first | rfl | (funext j_; simp only [upV, reduceIte]; (repeat' split) <;> first | rfl | omega | (subst_vars; rfl)))
      replace hh5_ : (y83_5 o) = ((v_0 83) o) + 1 ∧ (y84_5 o) = K_ (((v_0 83) o) + 1) := hh5_
      refine j_goto E 39 dX3_takeComparison_31 (by decide) ?_
      exact hret 39 (upV (upV (upV v_0 80 (v_0 80)) 83 y83_5) 84 y84_5) _ _ ls (cw_eq hw (by first | rfl | (funext j_; simp only [upV, reduceIte]; (repeat' split) <;> first | rfl | omega | (subst_vars; rfl)))) ⟨(v_0 80), y83_5, y84_5, rfl, by first | omega | (simp only [upB_same]; omega)⟩ dX3_takeComparison_39
    · refine j_aload_n E 19 rfl dX3_takeComparison_18 rfl (lv_at hl 0 rfl) ?_
      refine g_84 E hK hw fl_X3_30 t_o (v_0 84 o) rfl 22 rfl dX3_takeComparison_19 (fun _ => ?_)
      refine j_bipush E 24 rfl dX3_takeComparison_22 (by decide) ?_
      refine j_icmp_ne E 27 34 rfl rr1_ (rr (by decide)) dX3_takeComparison_24 (by decide) (fun cc6_ => ?_) (fun cc6_ => ?_)
      · refine j_aload_n E 35 rfl dX3_takeComparison_34 rfl (lv_at hl 0 rfl) ?_
        refine j_iconst E 36 rfl dX3_takeComparison_35 ?_
        refine kV_v E (c_X3_refuse l D cy T (v_0) o 1  t_o (rr (by decide)) ) mt_X3_refuse ml_X3_63 hK hw (cw_rc4 hK hw.1 t_o) hA ⟨Nat.le_of_ble_eq_true rfl, Nat.le_of_ble_eq_true rfl⟩ ⟨Nat.le_of_ble_eq_true rfl, Nat.le_of_ble_eq_true rfl⟩ (As := [.int (J 1)]) (rest := []) rfl rfl hl.1 (Nat.le_of_ble_eq_true rfl) 39 rfl dX3_takeComparison_36 (fun v_7 H locs hq7_ hw => ?_)
        obtain ⟨y80_7, y84_7, ev7_, hh7_⟩ := hq7_
        rw [ev7_] at hw; clear ev7_
        have hw : WK D cy T (upV (upV v_0 80 y80_7) 84 y84_7) A0 s.heap H locs := cw_eq hw (by first | rfl | (funext j_; simp only [upV, reduceIte]; (repeat' split) <;> first | rfl | omega | (subst_vars; rfl)))
        replace hh7_ : (y84_7 o) = 2 ∧ ((((v_0 80) o) = 0 ∧ (y80_7 o) = (1 : Int)) ∨ (¬ ((v_0 80) o) = 0 ∧ (y80_7 o) = ((v_0 80) o))) := hh7_
        exact hret 39 (upV (upV (upV v_0 80 y80_7) 83 (v_0 83)) 84 y84_7) _ _ ls (cw_eq hw (by first | rfl | (funext j_; simp only [upV, reduceIte]; (repeat' split) <;> first | rfl | omega | (subst_vars; rfl)))) ⟨y80_7, (v_0 83), y84_7, rfl, by first | omega | (simp only [upB_same]; omega)⟩ dX3_takeComparison_39
      · refine j_aload_n E 28 rfl dX3_takeComparison_27 rfl (lv_at hl 0 rfl) ?_
        refine zV_v E (c_X3_step l D cy T (v_0) κ o K_ V_ hO t_o  (show RK_ (v_0 300) (T 120 (T 82 o)) (T 121 (T 82 o)) (((v_0 123) (T 82 o))) K_ V_ from hp0) (show 0 ≤ ((v_0 83) o) ∧ ((v_0 83) o) < 400 from by have q_ := RK_lt hp0 (j := (v_0 83 o)) (by omega); omega)) mt_X3_step ml_X3_54 hK hZ hAc hw (cw_rc4 hK hw.1 t_o) hA ⟨Nat.le_of_ble_eq_true rfl, Nat.le_of_ble_eq_true rfl⟩ ⟨Nat.le_of_ble_eq_true rfl, Nat.le_of_ble_eq_true rfl⟩ (As := []) (rest := []) rfl rfl hl.1 (Nat.le_of_ble_eq_true rfl) 31 rfl dX3_takeComparison_28 (fun v_8 H locs hq8_ hw => ?_)
        obtain ⟨y83_8, y84_8, ev8_, hh8_⟩ := hq8_
        rw [ev8_] at hw; clear ev8_
        have hw : WK D cy T (upV (upV v_0 83 y83_8) 84 y84_8) A0 s.heap H locs := cw_eq hw (by first | rfl | (funext j_; simp only [upV, reduceIte]; (repeat' split) <;> first | rfl | omega | (subst_vars; rfl)))
        replace hh8_ : (y83_8 o) = ((v_0 83) o) + 1 ∧ (y84_8 o) = K_ (((v_0 83) o) + 1) := hh8_
        refine j_goto E 39 dX3_takeComparison_31 (by decide) ?_
        exact hret 39 (upV (upV (upV v_0 80 (v_0 80)) 83 y83_8) 84 y84_8) _ _ ls (cw_eq hw (by first | rfl | (funext j_; simp only [upV, reduceIte]; (repeat' split) <;> first | rfl | omega | (subst_vars; rfl)))) ⟨(v_0 80), y83_8, y84_8, rfl, by first | omega | (simp only [upB_same]; omega)⟩ dX3_takeComparison_39
set_option maxHeartbeats 4000000 in
set_option maxRecDepth 100000 in
theorem c_X3_takeNumber (l : Launch) (D : va_G) (cy : Nat → ClassId) (T : Nat → Nat → Nat) (v_0 : Nat → Nat → Int) (κ : Nat → Nat → Nat) (o : Nat) (v_a : Int) (v_b : Int) (v_c : Int) (K_ : Int → Int) (V_ : Int → Int) (b_ : Int) (hO : ∀ x, ow T x → κ 2 2 ≤ x) (t_o : T 0 o = 4) (r_v_a : inR v_a) (r_v_b : inR v_b) (r_v_c : inR v_c) (hp0 : 0 ≤ b_ ∧ b_ ≤ (v_0 86 o) ∧ (v_0 86 o) ≤ 400) (hp1 : RK_ (v_0 300) (T 120 (T 82 o)) (T 121 (T 82 o)) ((v_0 123 (T 82 o))) K_ V_) (hp2 : Cs_ K_ ((v_0 83 o)) ((v_0 84 o)) ((v_0 80 o))) (hp3 : 0 ≤ v_a ∧ v_b ≤ 9999 ∧ 0 ≤ v_c ∧ v_c ≤ 10000) (hp4 : (v_0 80 o) = 0 → (v_0 86 o) ≤ (v_0 83 o)) : KZ l D cy κ T yX3_takeNumber cX3_takeNumber 5 none 2 [.ref o, .int (J v_a), .int (J v_b), .int (J v_c)] v_0 (KV (fun (v_2 : Nat → Nat → Int) => ∃ (y80_2 : Nat → Int) (y83_2 : Nat → Int) (y84_2 : Nat → Int) (y86_2 : Nat → Int) (y300_2 : Nat → Int) , v_2 = upV (upV (upV (upV (upV v_0 80 y80_2) 83 y83_2) 84 y84_2) 86 y86_2) 300 y300_2 ∧ ((((b_ ≤ (y86_2 o) ∧ (y86_2 o) ≤ 400 ∧ (v_0 86 o) ≤ (y86_2 o) ∧ 0 ≤ (y83_2 o) ∧ (y83_2 o) ≤ 400) ∧ ((y80_2 o) = 0 → (v_0 80 o) = 0 ∧ (v_0 86 o) < (y86_2 o) ∧ (y86_2 o) - (v_0 86 o) ≤ (y83_2 o) - (v_0 83 o))) ∧ Rb_ (v_0 300) (y300_2) (T 85 o) b_ ∧ Tn_ K_ V_ v_a v_b v_c ((v_0 83 o)) ((v_0 84 o)) ((v_0 80 o)) ((y83_2 o)) ((y84_2 o)) ((y80_2 o)) (lL_ (gC_ (v_0 300) (T 85 o)) b_ ((v_0 86 o))) (lL_ (gC_ (y300_2) (T 85 o)) b_ ((y86_2 o)))) ∧ Kd_ T [85] (v_0 300) y300_2))) := by
  refine KZ.ofv (by decide) (Nat.le_of_ble_eq_true rfl) hO ?_
  intro p e s m below meth c ls ar QW A0 H locs E hK hZ hA hAc hw hl hret
  have hl : lv_has ls 5 [(0, .ref o), (1, .int (J v_a)), (2, .int (J v_b)), (3, .int (J v_c))] := hl
  have hT : WT T := hw.1.2.1
  have cs_ := hp2
  unfold Cs_ at cs_
  have nk_ : T 120 (T 82 o) ≠ T 85 o := ro_ne (wo_120 hT (wt_82 hT t_o)) (wo_85 hT t_o) (by decide) (by decide) (by omega)
  have nv_ : T 121 (T 82 o) ≠ T 85 o := ro_ne (wo_121 hT (wt_82 hT t_o)) (wo_85 hT t_o) (by decide) (by decide) (by omega)
  have lt0_ : ¬ K_ (v_0 83 o) = 1 → v_0 83 o < 400 := fun q_ => (RK_lt hp1 q_).2
  have c4_ := hp1.2.2
  refine j_aload_n E 1 rfl dX3_takeNumber_0 rfl (lv_at hl 0 rfl) ?_
  refine g_82 E hK hw fl_X3_21 t_o 4 rfl dX3_takeNumber_1 ?_
  refine j_aload_n E 5 rfl dX3_takeNumber_4 rfl (lv_at hl 0 rfl) ?_
  refine g_83 E hK hw fl_X3_25 t_o (v_0 83 o) rfl 8 rfl dX3_takeNumber_5 (fun rr1_ => ?_)
  refine kV_i E (c_X5_valueAt l D cy T (v_0) (T 82 o) (v_0 83 o)  (wt_82 hT t_o) rr1_ (show 0 ≤ ((v_0 123) ((T 82 o))) ∧ ((v_0 123) ((T 82 o))) ≤ 400 from by omega)) mt_X5_valueAt ml_X3_105 hK hw (cw_rc6 hK hw.1 (wt_82 hT t_o)) hA ⟨Nat.le_of_ble_eq_true rfl, Nat.le_of_ble_eq_true rfl⟩ ⟨Nat.le_of_ble_eq_true rfl, Nat.le_of_ble_eq_true rfl⟩ (As := [.int (J (v_0 83 o))]) (rest := []) rfl rfl hl.1 (Nat.le_of_ble_eq_true rfl) 11 rfl dX3_takeNumber_8 (fun zz2_ v_2 H locs rr2_ hq2_ hw => ?_)
  obtain ⟨ev2_, hh2_⟩ := hq2_
  rw [ev2_] at hw; clear ev2_
  replace hh2_ : (0 ≤ (v_0 83 o) ∧ (v_0 83 o) < ((v_0 123) ((T 82 o))) ∧ zz2_ = gC_ (v_0 300) (T 121 (T 82 o)) (v_0 83 o)) ∨ (¬ (0 ≤ (v_0 83 o) ∧ (v_0 83 o) < ((v_0 123) ((T 82 o)))) ∧ zz2_ = 0) := hh2_
  have hv_ : K_ (v_0 83 o) = 3 → zz2_ = V_ (v_0 83 o) := fun q_ => by have q1_ := RK_lt hp1 (j := v_0 83 o) (by omega); have q2_ := (hp1.1 (v_0 83 o) (by omega) q1_.1).2; omega
  refine j_istore E 13 rfl [(4, .int (J zz2_)), (0, .ref o), (1, .int (J v_a)), (2, .int (J v_b)), (3, .int (J v_c))] dX3_takeNumber_11 hl (by decide) rfl (fun ls hl => ?_)
  refine j_aload_n E 14 rfl dX3_takeNumber_13 rfl (lv_at hl 1 rfl) ?_
  refine g_84 E hK hw fl_X3_30 t_o (v_0 84 o) rfl 17 rfl dX3_takeNumber_14 (fun rr3_ => ?_)
  refine j_iconst E 18 rfl dX3_takeNumber_17 ?_
  refine j_icmp_eq E 21 29 rfl rr3_ (rr (by decide)) dX3_takeNumber_18 (by decide) (fun cc4_ => ?_) (fun cc4_ => ?_)
  · refine j_iload E 31 rfl dX3_takeNumber_29 (lv_at hl 0 rfl) ?_
    refine j_iload_n E 32 rfl dX3_takeNumber_31 rfl (lv_at hl 2 rfl) ?_
    refine j_icmp_lt E 35 41 rfl rr2_ r_v_a dX3_takeNumber_32 (by decide) (fun cc5_ => ?_) (fun cc5_ => ?_)
    · refine j_aload_n E 42 rfl dX3_takeNumber_41 rfl (lv_at hl 1 rfl) ?_
      refine j_iconst E 43 rfl dX3_takeNumber_42 ?_
      refine kV_v E (c_X3_refuse l D cy T (v_0) o 2  t_o (rr (by decide)) ) mt_X3_refuse ml_X3_63 hK hw (cw_rc4 hK hw.1 t_o) hA ⟨Nat.le_of_ble_eq_true rfl, Nat.le_of_ble_eq_true rfl⟩ ⟨Nat.le_of_ble_eq_true rfl, Nat.le_of_ble_eq_true rfl⟩ (As := [.int (J 2)]) (rest := []) rfl rfl hl.1 (Nat.le_of_ble_eq_true rfl) 46 rfl dX3_takeNumber_43 (fun v_6 H locs hq6_ hw => ?_)
      obtain ⟨y80_6, y84_6, ev6_, hh6_⟩ := hq6_
      rw [ev6_] at hw; clear ev6_
      have hw : WK D cy T (upV (upV v_0 80 y80_6) 84 y84_6) A0 s.heap H locs := cw_eq hw (by first | rfl | (funext j_; simp only [upV, reduceIte]; (repeat' split) <;> first | rfl | omega | (subst_vars; rfl)))
      replace hh6_ : (y84_6 o) = 2 ∧ ((((v_0 80) o) = 0 ∧ (y80_6 o) = (2 : Int)) ∨ (¬ ((v_0 80) o) = 0 ∧ (y80_6 o) = ((v_0 80) o))) := hh6_
      refine j_goto E 61 dX3_takeNumber_46 (by decide) ?_
      exact hret 61 (upV (upV (upV (upV (upV v_0 80 y80_6) 83 (v_0 83)) 84 y84_6) 86 (v_0 86)) 300 (v_0 300)) _ _ ls (cw_eq hw (by first | rfl | (funext j_; simp only [upV, reduceIte]; (repeat' split) <;> first | rfl | omega | (subst_vars; rfl)))) ⟨y80_6, (v_0 83), y84_6, (v_0 86), (v_0 300), rfl, ⟨by first | exact ⟨by omega, Rb_rf, Or.inl ⟨by omega, by omega, by omega, by omega⟩⟩ | exact ⟨by omega, Rb_rf, Or.inr (Or.inl ⟨by omega, by omega, by omega, by omega, by omega⟩)⟩ | exact ⟨by omega, ro_, Or.inr (Or.inr ⟨by omega, by omega, by omega, by omega, by omega, by omega, by rw [em_ (by omega), hv_ (by omega)]⟩)⟩, Kd_rf⟩⟩ dX3_takeNumber_61
    · refine j_iload E 37 rfl dX3_takeNumber_35 (lv_at hl 0 rfl) ?_
      refine j_iload_n E 38 rfl dX3_takeNumber_37 rfl (lv_at hl 3 rfl) ?_
      refine j_icmp_le E 41 49 rfl rr2_ r_v_b dX3_takeNumber_38 (by decide) (fun cc7_ => ?_) (fun cc7_ => ?_)
      · refine j_aload_n E 50 rfl dX3_takeNumber_49 rfl (lv_at hl 1 rfl) ?_
        refine j_iload E 52 rfl dX3_takeNumber_50 (lv_at hl 0 rfl) ?_
        refine j_iload_n E 53 rfl dX3_takeNumber_52 rfl (lv_at hl 4 rfl) ?_
        refine j_iadd E 54 rfl dX3_takeNumber_53 ?_
        refine kV_v E (c_X3_emit l D cy T (v_0) o (zz2_ + v_c) b_ t_o (rr (by omega)) (show 0 ≤ b_ ∧ b_ ≤ ((v_0 86) o) ∧ ((v_0 86) o) ≤ 400 from by omega)) mt_X3_emit ml_X3_60 hK hw (cw_rc4 hK hw.1 t_o) hA ⟨Nat.le_of_ble_eq_true rfl, Nat.le_of_ble_eq_true rfl⟩ ⟨Nat.le_of_ble_eq_true rfl, Nat.le_of_ble_eq_true rfl⟩ (As := [.int (J (zz2_ + v_c))]) (rest := []) rfl rfl hl.1 (Nat.le_of_ble_eq_true rfl) 57 rfl dX3_takeNumber_54 (fun v_8 H locs hq8_ hw => ?_)
        obtain ⟨y86_8, y300_8, ev8_, hh8_⟩ := hq8_
        rw [ev8_] at hw; clear ev8_
        have hw : WK D cy T (upV (upV v_0 86 y86_8) 300 y300_8) A0 s.heap H locs := cw_eq hw (by first | rfl | (funext j_; simp only [upV, reduceIte]; (repeat' split) <;> first | rfl | omega | (subst_vars; rfl)))
        obtain ⟨hh8_, kf8_⟩ := hh8_
        replace hh8_ : (b_ ≤ (y86_8 o) ∧ (y86_8 o) ≤ 400 ∧ ((v_0 86) o) ≤ (y86_8 o)) ∧ Rb_ (v_0 300) (y300_8) (T 85 o) b_ ∧ (((v_0 86) o) < 400 → (y86_8 o) = ((v_0 86) o) + 1 ∧ (lL_ (gC_ (y300_8) (T 85 o)) b_ ((y86_8 o))) = (lL_ (gC_ (v_0 300) (T 85 o)) b_ (((v_0 86) o))) ++ [(zz2_ + v_c)]) := hh8_
        have rg_ := hh8_.1
        have ro_ := hh8_.2.1
        have ec_ : (v_0 80 o) = 0 → (y86_8 o) = (v_0 86 o) + 1 := fun q_ => (hh8_.2.2 (by omega)).1
        have em_ := im_ (fun q_ : (v_0 80 o) = 0 => (hh8_.2.2 (by omega)).2)
        clear hh8_
        refine j_aload_n E 58 rfl dX3_takeNumber_57 rfl (lv_at hl 1 rfl) ?_
        refine zV_v E (c_X3_step l D cy T (upV (upV v_0 86 y86_8) 300 y300_8) κ o K_ V_ hO t_o  (show RK_ (y300_8) (T 120 (T 82 o)) (T 121 (T 82 o)) (((v_0 123) (T 82 o))) K_ V_ from RK_rb hp1 ro_ nk_ nv_) (show 0 ≤ ((v_0 83) o) ∧ ((v_0 83) o) < 400 from by have q_ := RK_lt hp1 (j := (v_0 83 o)) (by omega); omega)) mt_X3_step ml_X3_54 hK hZ hAc hw (cw_rc4 hK hw.1 t_o) hA ⟨Nat.le_of_ble_eq_true rfl, Nat.le_of_ble_eq_true rfl⟩ ⟨Nat.le_of_ble_eq_true rfl, Nat.le_of_ble_eq_true rfl⟩ (As := []) (rest := []) rfl rfl hl.1 (Nat.le_of_ble_eq_true rfl) 61 rfl dX3_takeNumber_58 (fun v_9 H locs hq9_ hw => ?_)
        obtain ⟨y83_9, y84_9, ev9_, hh9_⟩ := hq9_
        rw [ev9_] at hw; clear ev9_
        have hw : WK D cy T (upV (upV (upV (upV v_0 83 y83_9) 84 y84_9) 86 y86_8) 300 y300_8) A0 s.heap H locs := cw_eq hw (by first | rfl | (funext j_; simp only [upV, reduceIte]; (repeat' split) <;> first | rfl | omega | (subst_vars; rfl)))
        replace hh9_ : (y83_9 o) = ((v_0 83) o) + 1 ∧ (y84_9 o) = K_ (((v_0 83) o) + 1) := hh9_
        exact hret 61 (upV (upV (upV (upV (upV v_0 80 (v_0 80)) 83 y83_9) 84 y84_9) 86 y86_8) 300 y300_8) _ _ ls (cw_eq hw (by first | rfl | (funext j_; simp only [upV, reduceIte]; (repeat' split) <;> first | rfl | omega | (subst_vars; rfl)))) ⟨(v_0 80), y83_9, y84_9, y86_8, y300_8, rfl, ⟨by first | exact ⟨by omega, Rb_rf, Or.inl ⟨by omega, by omega, by omega, by omega⟩⟩ | exact ⟨by omega, Rb_rf, Or.inr (Or.inl ⟨by omega, by omega, by omega, by omega, by omega⟩)⟩ | exact ⟨by omega, ro_, Or.inr (Or.inr ⟨by omega, by omega, by omega, by omega, by omega, by omega, by rw [em_ (by omega), hv_ (by omega)]⟩)⟩, (Kd_tr Kd_rf (Kd_mono kf8_ (by decide)))⟩⟩ dX3_takeNumber_61
      · refine j_aload_n E 42 rfl dX3_takeNumber_41 rfl (lv_at hl 1 rfl) ?_
        refine j_iconst E 43 rfl dX3_takeNumber_42 ?_
        refine kV_v E (c_X3_refuse l D cy T (v_0) o 2  t_o (rr (by decide)) ) mt_X3_refuse ml_X3_63 hK hw (cw_rc4 hK hw.1 t_o) hA ⟨Nat.le_of_ble_eq_true rfl, Nat.le_of_ble_eq_true rfl⟩ ⟨Nat.le_of_ble_eq_true rfl, Nat.le_of_ble_eq_true rfl⟩ (As := [.int (J 2)]) (rest := []) rfl rfl hl.1 (Nat.le_of_ble_eq_true rfl) 46 rfl dX3_takeNumber_43 (fun v_10 H locs hq10_ hw => ?_)
        obtain ⟨y80_10, y84_10, ev10_, hh10_⟩ := hq10_
        rw [ev10_] at hw; clear ev10_
        have hw : WK D cy T (upV (upV v_0 80 y80_10) 84 y84_10) A0 s.heap H locs := cw_eq hw (by first | rfl | (funext j_; simp only [upV, reduceIte]; (repeat' split) <;> first | rfl | omega | (subst_vars; rfl)))
        replace hh10_ : (y84_10 o) = 2 ∧ ((((v_0 80) o) = 0 ∧ (y80_10 o) = (2 : Int)) ∨ (¬ ((v_0 80) o) = 0 ∧ (y80_10 o) = ((v_0 80) o))) := hh10_
        refine j_goto E 61 dX3_takeNumber_46 (by decide) ?_
        exact hret 61 (upV (upV (upV (upV (upV v_0 80 y80_10) 83 (v_0 83)) 84 y84_10) 86 (v_0 86)) 300 (v_0 300)) _ _ ls (cw_eq hw (by first | rfl | (funext j_; simp only [upV, reduceIte]; (repeat' split) <;> first | rfl | omega | (subst_vars; rfl)))) ⟨y80_10, (v_0 83), y84_10, (v_0 86), (v_0 300), rfl, ⟨by first | exact ⟨by omega, Rb_rf, Or.inl ⟨by omega, by omega, by omega, by omega⟩⟩ | exact ⟨by omega, Rb_rf, Or.inr (Or.inl ⟨by omega, by omega, by omega, by omega, by omega⟩)⟩ | exact ⟨by omega, ro_, Or.inr (Or.inr ⟨by omega, by omega, by omega, by omega, by omega, by omega, by rw [em_ (by omega), hv_ (by omega)]⟩)⟩, Kd_rf⟩⟩ dX3_takeNumber_61
  · refine j_aload_n E 22 rfl dX3_takeNumber_21 rfl (lv_at hl 1 rfl) ?_
    refine j_iconst E 23 rfl dX3_takeNumber_22 ?_
    refine kV_v E (c_X3_refuse l D cy T (v_0) o 1  t_o (rr (by decide)) ) mt_X3_refuse ml_X3_63 hK hw (cw_rc4 hK hw.1 t_o) hA ⟨Nat.le_of_ble_eq_true rfl, Nat.le_of_ble_eq_true rfl⟩ ⟨Nat.le_of_ble_eq_true rfl, Nat.le_of_ble_eq_true rfl⟩ (As := [.int (J 1)]) (rest := []) rfl rfl hl.1 (Nat.le_of_ble_eq_true rfl) 26 rfl dX3_takeNumber_23 (fun v_11 H locs hq11_ hw => ?_)
    obtain ⟨y80_11, y84_11, ev11_, hh11_⟩ := hq11_
    rw [ev11_] at hw; clear ev11_
    have hw : WK D cy T (upV (upV v_0 80 y80_11) 84 y84_11) A0 s.heap H locs := cw_eq hw (by first | rfl | (funext j_; simp only [upV, reduceIte]; (repeat' split) <;> first | rfl | omega | (subst_vars; rfl)))
    replace hh11_ : (y84_11 o) = 2 ∧ ((((v_0 80) o) = 0 ∧ (y80_11 o) = (1 : Int)) ∨ (¬ ((v_0 80) o) = 0 ∧ (y80_11 o) = ((v_0 80) o))) := hh11_
    refine j_goto E 61 dX3_takeNumber_26 (by decide) ?_
    exact hret 61 (upV (upV (upV (upV (upV v_0 80 y80_11) 83 (v_0 83)) 84 y84_11) 86 (v_0 86)) 300 (v_0 300)) _ _ ls (cw_eq hw (by first | rfl | (funext j_; simp only [upV, reduceIte]; (repeat' split) <;> first | rfl | omega | (subst_vars; rfl)))) ⟨y80_11, (v_0 83), y84_11, (v_0 86), (v_0 300), rfl, ⟨by first | exact ⟨by omega, Rb_rf, Or.inl ⟨by omega, by omega, by omega, by omega⟩⟩ | exact ⟨by omega, Rb_rf, Or.inr (Or.inl ⟨by omega, by omega, by omega, by omega, by omega⟩)⟩ | exact ⟨by omega, ro_, Or.inr (Or.inr ⟨by omega, by omega, by omega, by omega, by omega, by omega, by rw [em_ (by omega), hv_ (by omega)]⟩)⟩, Kd_rf⟩⟩ dX3_takeNumber_61
set_option maxHeartbeats 4000000 in
set_option maxRecDepth 100000 in
theorem c_X3_readUnit (l : Launch) (D : va_G) (cy : Nat → ClassId) (T : Nat → Nat → Nat) (v_0 : Nat → Nat → Int) (κ : Nat → Nat → Nat) (o : Nat) (K_ : Int → Int) (V_ : Int → Int) (b_ : Int) (hO : ∀ x, ow T x → κ 2 2 ≤ x) (t_o : T 0 o = 4) (hp0 : 0 ≤ b_ ∧ b_ ≤ (v_0 86 o) ∧ (v_0 86 o) ≤ 400) (hp1 : RK_ (v_0 300) (T 120 (T 82 o)) (T 121 (T 82 o)) ((v_0 123 (T 82 o))) K_ V_) (hp2 : Cs_ K_ ((v_0 83 o)) ((v_0 84 o)) ((v_0 80 o))) (hp3 : (v_0 80 o) = 0 → (v_0 86 o) ≤ (v_0 83 o)) : KZ l D cy κ T yX3_readUnit cX3_readUnit 1 none 3 [.ref o] v_0 (KV (fun (v_2 : Nat → Nat → Int) => ∃ (y80_2 : Nat → Int) (y83_2 : Nat → Int) (y84_2 : Nat → Int) (y86_2 : Nat → Int) (y300_2 : Nat → Int) , v_2 = upV (upV (upV (upV (upV v_0 80 y80_2) 83 y83_2) 84 y84_2) 86 y86_2) 300 y300_2 ∧ ((((b_ ≤ (y86_2 o) ∧ (y86_2 o) ≤ 400 ∧ (v_0 86 o) ≤ (y86_2 o) ∧ 0 ≤ (y83_2 o) ∧ (y83_2 o) ≤ 400) ∧ ((y80_2 o) = 0 → (v_0 80 o) = 0 ∧ (v_0 86 o) < (y86_2 o) ∧ (y86_2 o) - (v_0 86 o) ≤ (y83_2 o) - (v_0 83 o))) ∧ Rb_ (v_0 300) (y300_2) (T 85 o) b_ ∧ Cp_ T1_ TX_ K_ V_ ((v_0 83 o)) ((v_0 80 o)) ((y83_2 o)) ((y84_2 o)) ((y80_2 o)) (lL_ (gC_ (v_0 300) (T 85 o)) b_ ((v_0 86 o))) (lL_ (gC_ (y300_2) (T 85 o)) b_ ((y86_2 o)))) ∧ Kd_ T [85] (v_0 300) y300_2))) := by
  refine KZ.ofv (by decide) (Nat.le_of_ble_eq_true rfl) hO ?_
  intro p e s m below meth c ls ar QW A0 H locs E hK hZ hA hAc hw hl hret
  have hl : lv_has ls 1 [(0, .ref o)] := hl
  have hT : WT T := hw.1.2.1
  have cs_ := hp2
  unfold Cs_ at cs_
  have nk_ : T 120 (T 82 o) ≠ T 85 o := ro_ne (wo_120 hT (wt_82 hT t_o)) (wo_85 hT t_o) (by decide) (by decide) (by omega)
  have nv_ : T 121 (T 82 o) ≠ T 85 o := ro_ne (wo_121 hT (wt_82 hT t_o)) (wo_85 hT t_o) (by decide) (by decide) (by omega)
  have lt0_ : ¬ K_ (v_0 83 o) = 1 → v_0 83 o < 400 := fun q_ => (RK_lt hp1 q_).2
  refine j_aload_n E 1 rfl dX3_readUnit_0 rfl (lv_at hl 0 rfl) ?_
  refine g_84 E hK hw fl_X3_30 t_o (v_0 84 o) rfl 4 rfl dX3_readUnit_1 (fun rr1_ => ?_)
  refine j_sipush E 7 rfl dX3_readUnit_4 (by decide) ?_
  refine j_icmp_ne E 10 27 rfl rr1_ (rr (by decide)) dX3_readUnit_7 (by decide) (fun cc2_ => ?_) (fun cc2_ => ?_)
  · refine j_aload_n E 28 rfl dX3_readUnit_27 rfl (lv_at hl 0 rfl) ?_
    refine g_84 E hK hw fl_X3_30 t_o (v_0 84 o) rfl 31 rfl dX3_readUnit_28 (fun _ => ?_)
    refine kS_i E (c_X8_isFact l D cy T (v_0) (v_0 84 o)   rr1_ ) ms_X8_isFact ml_X3_102 hK hw hA ⟨Nat.le_of_ble_eq_true rfl, Nat.le_of_ble_eq_true rfl⟩ ⟨Nat.le_of_ble_eq_true rfl, Nat.le_of_ble_eq_true rfl⟩ (As := [.int (J (v_0 84 o))]) (rest := []) rfl rfl hl.1 (Nat.le_of_ble_eq_true rfl) 34 rfl dX3_readUnit_31 (fun zz3_ v_3 H locs rr3_ hq3_ hw => ?_)
    obtain ⟨ev3_, hh3_⟩ := hq3_
    rw [ev3_] at hw; clear ev3_
    replace hh3_ : (zz3_ = 1 ∧ (307 ≤ (v_0 84 o) ∧ (v_0 84 o) ≤ 311)) ∨ (zz3_ = 0 ∧ ¬ (307 ≤ (v_0 84 o) ∧ (v_0 84 o) ≤ 311)) := hh3_
    rcases hh3_ with ⟨ee3_, hh3_⟩ | ⟨ee3_, hh3_⟩
    · subst ee3_
      refine j_if_eq E 37 53 rfl (rr (by decide)) dX3_readUnit_34 (by decide) (fun cc4_ => absurd cc4_ (by decide)) (fun _ => ?_)
      refine j_aload_n E 38 rfl dX3_readUnit_37 rfl (lv_at hl 0 rfl) ?_
      refine j_aload_n E 39 rfl dX3_readUnit_38 rfl (lv_at hl 0 rfl) ?_
      refine g_84 E hK hw fl_X3_30 t_o (v_0 84 o) rfl 42 rfl dX3_readUnit_39 (fun _ => ?_)
      refine j_ineg E 43 rfl dX3_readUnit_42 ?_
      refine kV_v E (c_X3_emit l D cy T (v_0) o (-(v_0 84 o)) b_ t_o (rr (by omega)) (show 0 ≤ b_ ∧ b_ ≤ ((v_0 86) o) ∧ ((v_0 86) o) ≤ 400 from by omega)) mt_X3_emit ml_X3_60 hK hw (cw_rc4 hK hw.1 t_o) hA ⟨Nat.le_of_ble_eq_true rfl, Nat.le_of_ble_eq_true rfl⟩ ⟨Nat.le_of_ble_eq_true rfl, Nat.le_of_ble_eq_true rfl⟩ (As := [.int (J (-(v_0 84 o)))]) (rest := []) rfl rfl hl.1 (Nat.le_of_ble_eq_true rfl) 46 rfl dX3_readUnit_43 (fun v_5 H locs hq5_ hw => ?_)
      obtain ⟨y86_5, y300_5, ev5_, hh5_⟩ := hq5_
      rw [ev5_] at hw; clear ev5_
      have hw : WK D cy T (upV (upV v_0 86 y86_5) 300 y300_5) A0 s.heap H locs := cw_eq hw (by first | rfl | (funext j_; simp only [upV, reduceIte]; (repeat' split) <;> first | rfl | omega | (subst_vars; rfl)))
      obtain ⟨hh5_, kf5_⟩ := hh5_
      replace hh5_ : (b_ ≤ (y86_5 o) ∧ (y86_5 o) ≤ 400 ∧ ((v_0 86) o) ≤ (y86_5 o)) ∧ Rb_ (v_0 300) (y300_5) (T 85 o) b_ ∧ (((v_0 86) o) < 400 → (y86_5 o) = ((v_0 86) o) + 1 ∧ (lL_ (gC_ (y300_5) (T 85 o)) b_ ((y86_5 o))) = (lL_ (gC_ (v_0 300) (T 85 o)) b_ (((v_0 86) o))) ++ [(-(v_0 84 o))]) := hh5_
      have rg1_ := hh5_.1
      have ro1_ := hh5_.2.1
      have ec1_ : (v_0 80 o) = 0 → (y86_5 o) = (v_0 86 o) + 1 := fun q_ => (hh5_.2.2 (by omega)).1
      have em1_ := im_ (fun q_ : (v_0 80 o) = 0 => (hh5_.2.2 (by omega)).2)
      clear hh5_
      refine j_aload_n E 47 rfl dX3_readUnit_46 rfl (lv_at hl 0 rfl) ?_
      refine zV_v E (c_X3_step l D cy T (upV (upV v_0 86 y86_5) 300 y300_5) κ o K_ V_ hO t_o  (show RK_ (y300_5) (T 120 (T 82 o)) (T 121 (T 82 o)) (((v_0 123) (T 82 o))) K_ V_ from RK_rb hp1 ro1_ nk_ nv_) (show 0 ≤ ((v_0 83) o) ∧ ((v_0 83) o) < 400 from by have q_ := RK_lt hp1 (j := (v_0 83 o)) (by omega); omega)) mt_X3_step ml_X3_54 hK hZ hAc hw (cw_rc4 hK hw.1 t_o) hA ⟨Nat.le_of_ble_eq_true rfl, Nat.le_of_ble_eq_true rfl⟩ ⟨Nat.le_of_ble_eq_true rfl, Nat.le_of_ble_eq_true rfl⟩ (As := []) (rest := []) rfl rfl hl.1 (Nat.le_of_ble_eq_true rfl) 50 rfl dX3_readUnit_47 (fun v_6 H locs hq6_ hw => ?_)
      obtain ⟨y83_6, y84_6, ev6_, hh6_⟩ := hq6_
      rw [ev6_] at hw; clear ev6_
      have hw : WK D cy T (upV (upV (upV (upV v_0 83 y83_6) 84 y84_6) 86 y86_5) 300 y300_5) A0 s.heap H locs := cw_eq hw (by first | rfl | (funext j_; simp only [upV, reduceIte]; (repeat' split) <;> first | rfl | omega | (subst_vars; rfl)))
      replace hh6_ : (y83_6 o) = ((v_0 83) o) + 1 ∧ (y84_6 o) = K_ (((v_0 83) o) + 1) := hh6_
      have s2_ := hh6_
      clear hh6_
      have lt_ := RK_lt hp1 (j := v_0 83 o) (by omega)
      refine j_goto E 62 dX3_readUnit_50 (by decide) ?_
      exact hret 62 (upV (upV (upV (upV (upV v_0 80 (v_0 80)) 83 y83_6) 84 y84_6) 86 y86_5) 300 y300_5) _ _ ls (cw_eq hw (by first | rfl | (funext j_; simp only [upV, reduceIte]; (repeat' split) <;> first | rfl | omega | (subst_vars; rfl)))) ⟨(v_0 80), y83_6, y84_6, y86_5, y300_5, rfl, ⟨by first | exact ⟨by omega, n1_.2.1, cu_line hp2 (by omega) s1_.1 s1_.2 (by omega) n1_.2.2 (fun q_ => ⟨hp1.2.2.2.2 _ (by omega) q_, (RK_lt hp1 (by omega)).2⟩)⟩ | exact ⟨by omega, ro1_, cu_fact hp2 (by omega) s2_.1 s2_.2 (by omega) em1_⟩ | exact ⟨n2_.1, n2_.2.1, cu_num hp2 (by omega) (by omega) n2_.2.2 (fun q_ => ⟨hp1.2.2.2.2 _ (by omega) q_, (RK_lt hp1 (by omega)).2⟩)⟩, (Kd_tr Kd_rf (Kd_mono kf5_ (by decide)))⟩⟩ dX3_readUnit_62
    · subst ee3_
      refine j_if_eq E 37 53 rfl (rr (by decide)) dX3_readUnit_34 (by decide) (fun _ => ?_) (fun cc7_ => absurd cc7_ (by decide))
      refine j_aload_n E 54 rfl dX3_readUnit_53 rfl (lv_at hl 0 rfl) ?_
      refine j_iconst E 55 rfl dX3_readUnit_54 ?_
      refine j_sipush E 58 rfl dX3_readUnit_55 (by decide) ?_
      refine j_iconst E 59 rfl dX3_readUnit_58 ?_
      refine zV_v E (c_X3_takeNumber l D cy T (v_0) κ o 0 9999 0 K_ V_ b_ hO t_o (rr (by decide)) (rr (by decide)) (rr (by decide)) (show 0 ≤ b_ ∧ b_ ≤ ((v_0 86) o) ∧ ((v_0 86) o) ≤ 400 from by omega) (show RK_ (v_0 300) (T 120 (T 82 o)) (T 121 (T 82 o)) (((v_0 123) (T 82 o))) K_ V_ from hp1) (show Cs_ K_ (((v_0 83) o)) (((v_0 84) o)) (((v_0 80) o)) from hp2) (show 0 ≤ (0 : Int) ∧ (9999 : Int) ≤ 9999 ∧ 0 ≤ (0 : Int) ∧ (0 : Int) ≤ 10000 from by omega) (show ((v_0 80) o) = 0 → ((v_0 86) o) ≤ ((v_0 83) o) from by omega)) mt_X3_takeNumber ml_X3_98 hK hZ hAc hw (cw_rc4 hK hw.1 t_o) hA ⟨Nat.le_of_ble_eq_true rfl, Nat.le_of_ble_eq_true rfl⟩ ⟨Nat.le_of_ble_eq_true rfl, Nat.le_of_ble_eq_true rfl⟩ (As := [.int (J 0), .int (J 9999), .int (J 0)]) (rest := []) rfl rfl hl.1 (Nat.le_of_ble_eq_true rfl) 62 rfl dX3_readUnit_59 (fun v_8 H locs hq8_ hw => ?_)
      obtain ⟨y80_8, y83_8, y84_8, y86_8, y300_8, ev8_, hh8_⟩ := hq8_
      rw [ev8_] at hw; clear ev8_
      have hw : WK D cy T (upV (upV (upV (upV (upV v_0 80 y80_8) 83 y83_8) 84 y84_8) 86 y86_8) 300 y300_8) A0 s.heap H locs := cw_eq hw (by first | rfl | (funext j_; simp only [upV, reduceIte]; (repeat' split) <;> first | rfl | omega | (subst_vars; rfl)))
      obtain ⟨hh8_, kf8_⟩ := hh8_
      replace hh8_ : ((b_ ≤ (y86_8 o) ∧ (y86_8 o) ≤ 400 ∧ ((v_0 86) o) ≤ (y86_8 o) ∧ 0 ≤ (y83_8 o) ∧ (y83_8 o) ≤ 400) ∧ ((y80_8 o) = 0 → ((v_0 80) o) = 0 ∧ ((v_0 86) o) < (y86_8 o) ∧ (y86_8 o) - ((v_0 86) o) ≤ (y83_8 o) - ((v_0 83) o))) ∧ Rb_ (v_0 300) (y300_8) (T 85 o) b_ ∧ Tn_ K_ V_ (0 : Int) (9999 : Int) (0 : Int) (((v_0 83) o)) (((v_0 84) o)) (((v_0 80) o)) ((y83_8 o)) ((y84_8 o)) ((y80_8 o)) (lL_ (gC_ (v_0 300) (T 85 o)) b_ (((v_0 86) o))) (lL_ (gC_ (y300_8) (T 85 o)) b_ ((y86_8 o))) := hh8_
      have n2_ := hh8_
      clear hh8_
      exact hret 62 (upV (upV (upV (upV (upV v_0 80 y80_8) 83 y83_8) 84 y84_8) 86 y86_8) 300 y300_8) _ _ ls hw ⟨y80_8, y83_8, y84_8, y86_8, y300_8, rfl, ⟨by first | exact ⟨by omega, n1_.2.1, cu_line hp2 (by omega) s1_.1 s1_.2 (by omega) n1_.2.2 (fun q_ => ⟨hp1.2.2.2.2 _ (by omega) q_, (RK_lt hp1 (by omega)).2⟩)⟩ | exact ⟨by omega, ro1_, cu_fact hp2 (by omega) s2_.1 s2_.2 (by omega) em1_⟩ | exact ⟨n2_.1, n2_.2.1, cu_num hp2 (by omega) (by omega) n2_.2.2 (fun q_ => ⟨hp1.2.2.2.2 _ (by omega) q_, (RK_lt hp1 (by omega)).2⟩)⟩, (Kd_tr Kd_rf (Kd_mono kf8_ (by decide)))⟩⟩ dX3_readUnit_62
  · refine j_aload_n E 11 rfl dX3_readUnit_10 rfl (lv_at hl 0 rfl) ?_
    refine zV_v E (c_X3_step l D cy T (v_0) κ o K_ V_ hO t_o  (show RK_ (v_0 300) (T 120 (T 82 o)) (T 121 (T 82 o)) (((v_0 123) (T 82 o))) K_ V_ from hp1) (show 0 ≤ ((v_0 83) o) ∧ ((v_0 83) o) < 400 from by have q_ := RK_lt hp1 (j := (v_0 83 o)) (by omega); omega)) mt_X3_step ml_X3_54 hK hZ hAc hw (cw_rc4 hK hw.1 t_o) hA ⟨Nat.le_of_ble_eq_true rfl, Nat.le_of_ble_eq_true rfl⟩ ⟨Nat.le_of_ble_eq_true rfl, Nat.le_of_ble_eq_true rfl⟩ (As := []) (rest := []) rfl rfl hl.1 (Nat.le_of_ble_eq_true rfl) 14 rfl dX3_readUnit_11 (fun v_9 H locs hq9_ hw => ?_)
    obtain ⟨y83_9, y84_9, ev9_, hh9_⟩ := hq9_
    rw [ev9_] at hw; clear ev9_
    have hw : WK D cy T (upV (upV v_0 83 y83_9) 84 y84_9) A0 s.heap H locs := cw_eq hw (by first | rfl | (funext j_; simp only [upV, reduceIte]; (repeat' split) <;> first | rfl | omega | (subst_vars; rfl)))
    replace hh9_ : (y83_9 o) = ((v_0 83) o) + 1 ∧ (y84_9 o) = K_ (((v_0 83) o) + 1) := hh9_
    have s1_ := hh9_
    clear hh9_
    have lt_ := RK_lt hp1 (j := v_0 83 o) (by omega)
    refine j_aload_n E 15 rfl dX3_readUnit_14 rfl (lv_at hl 0 rfl) ?_
    refine j_iconst E 16 rfl dX3_readUnit_15 ?_
    refine j_bipush E 18 rfl dX3_readUnit_16 (by decide) ?_
    refine j_sipush E 21 rfl dX3_readUnit_18 (by decide) ?_
    refine zV_v E (c_X3_takeNumber l D cy T (upV (upV v_0 83 y83_9) 84 y84_9) κ o 0 23 10000 K_ V_ b_ hO t_o (rr (by decide)) (rr (by decide)) (rr (by decide)) (show 0 ≤ b_ ∧ b_ ≤ ((v_0 86) o) ∧ ((v_0 86) o) ≤ 400 from by omega) (show RK_ (v_0 300) (T 120 (T 82 o)) (T 121 (T 82 o)) (((v_0 123) (T 82 o))) K_ V_ from hp1) (show Cs_ K_ ((y83_9 o)) ((y84_9 o)) (((v_0 80) o)) from Cs_st hp2 (by omega) s1_.1 s1_.2 (by omega)) (show 0 ≤ (0 : Int) ∧ (23 : Int) ≤ 9999 ∧ 0 ≤ (10000 : Int) ∧ (10000 : Int) ≤ 10000 from by omega) (show ((v_0 80) o) = 0 → ((v_0 86) o) ≤ (y83_9 o) from by omega)) mt_X3_takeNumber ml_X3_98 hK hZ hAc hw (cw_rc4 hK hw.1 t_o) hA ⟨Nat.le_of_ble_eq_true rfl, Nat.le_of_ble_eq_true rfl⟩ ⟨Nat.le_of_ble_eq_true rfl, Nat.le_of_ble_eq_true rfl⟩ (As := [.int (J 0), .int (J 23), .int (J 10000)]) (rest := []) rfl rfl hl.1 (Nat.le_of_ble_eq_true rfl) 24 rfl dX3_readUnit_21 (fun v_10 H locs hq10_ hw => ?_)
    obtain ⟨y80_10, y83_10, y84_10, y86_10, y300_10, ev10_, hh10_⟩ := hq10_
    rw [ev10_] at hw; clear ev10_
    have hw : WK D cy T (upV (upV (upV (upV (upV v_0 80 y80_10) 83 y83_10) 84 y84_10) 86 y86_10) 300 y300_10) A0 s.heap H locs := cw_eq hw (by first | rfl | (funext j_; simp only [upV, reduceIte]; (repeat' split) <;> first | rfl | omega | (subst_vars; rfl)))
    obtain ⟨hh10_, kf10_⟩ := hh10_
    replace hh10_ : ((b_ ≤ (y86_10 o) ∧ (y86_10 o) ≤ 400 ∧ ((v_0 86) o) ≤ (y86_10 o) ∧ 0 ≤ (y83_10 o) ∧ (y83_10 o) ≤ 400) ∧ ((y80_10 o) = 0 → ((v_0 80) o) = 0 ∧ ((v_0 86) o) < (y86_10 o) ∧ (y86_10 o) - ((v_0 86) o) ≤ (y83_10 o) - (y83_9 o))) ∧ Rb_ (v_0 300) (y300_10) (T 85 o) b_ ∧ Tn_ K_ V_ (0 : Int) (23 : Int) (10000 : Int) ((y83_9 o)) ((y84_9 o)) (((v_0 80) o)) ((y83_10 o)) ((y84_10 o)) ((y80_10 o)) (lL_ (gC_ (v_0 300) (T 85 o)) b_ (((v_0 86) o))) (lL_ (gC_ (y300_10) (T 85 o)) b_ ((y86_10 o))) := hh10_
    have n1_ := hh10_
    clear hh10_
    refine j_goto E 62 dX3_readUnit_24 (by decide) ?_
    exact hret 62 (upV (upV (upV (upV (upV v_0 80 y80_10) 83 y83_10) 84 y84_10) 86 y86_10) 300 y300_10) _ _ ls hw ⟨y80_10, y83_10, y84_10, y86_10, y300_10, rfl, ⟨by first | exact ⟨by omega, n1_.2.1, cu_line hp2 (by omega) s1_.1 s1_.2 (by omega) n1_.2.2 (fun q_ => ⟨hp1.2.2.2.2 _ (by omega) q_, (RK_lt hp1 (by omega)).2⟩)⟩ | exact ⟨by omega, ro1_, cu_fact hp2 (by omega) s2_.1 s2_.2 (by omega) em1_⟩ | exact ⟨n2_.1, n2_.2.1, cu_num hp2 (by omega) (by omega) n2_.2.2 (fun q_ => ⟨hp1.2.2.2.2 _ (by omega) q_, (RK_lt hp1 (by omega)).2⟩)⟩, (Kd_tr Kd_rf (Kd_mono kf10_ (by decide)))⟩⟩ dX3_readUnit_62
set_option maxHeartbeats 4000000 in
set_option maxRecDepth 100000 in
theorem c_X3_readSum (l : Launch) (D : va_G) (cy : Nat → ClassId) (T : Nat → Nat → Nat) (v_0 : Nat → Nat → Int) (κ : Nat → Nat → Nat) (o : Nat) (K_ : Int → Int) (V_ : Int → Int) (b_ : Int) (hO : ∀ x, ow T x → κ 2 2 ≤ x) (t_o : T 0 o = 4) (hp0 : 0 ≤ b_ ∧ b_ ≤ (v_0 86 o) ∧ (v_0 86 o) ≤ 400) (hp1 : RK_ (v_0 300) (T 120 (T 82 o)) (T 121 (T 82 o)) ((v_0 123 (T 82 o))) K_ V_) (hp2 : Cs_ K_ ((v_0 83 o)) ((v_0 84 o)) ((v_0 80 o))) (hp3 : (v_0 80 o) = 0 → (v_0 86 o) ≤ (v_0 83 o)) : KZ l D cy κ T yX3_readSum cX3_readSum 5 none 4 [.ref o] v_0 (KV (fun (v_2 : Nat → Nat → Int) => ∃ (y80_2 : Nat → Int) (y83_2 : Nat → Int) (y84_2 : Nat → Int) (y86_2 : Nat → Int) (y300_2 : Nat → Int) , v_2 = upV (upV (upV (upV (upV v_0 80 y80_2) 83 y83_2) 84 y84_2) 86 y86_2) 300 y300_2 ∧ ((((b_ ≤ (y86_2 o) ∧ (y86_2 o) ≤ 400 ∧ (v_0 86 o) ≤ (y86_2 o) ∧ 0 ≤ (y83_2 o) ∧ (y83_2 o) ≤ 400) ∧ ((y80_2 o) = 0 → (v_0 80 o) = 0 ∧ (v_0 86 o) < (y86_2 o) ∧ (y86_2 o) - (v_0 86 o) ≤ (y83_2 o) - (v_0 83 o))) ∧ Rb_ (v_0 300) (y300_2) (T 85 o) b_ ∧ Cp_ S3_ (N4_ K_) K_ V_ ((v_0 83 o)) ((v_0 80 o)) ((y83_2 o)) ((y84_2 o)) ((y80_2 o)) (lL_ (gC_ (v_0 300) (T 85 o)) b_ ((v_0 86 o))) (lL_ (gC_ (y300_2) (T 85 o)) b_ ((y86_2 o)))) ∧ Kd_ T [85] (v_0 300) y300_2))) := by
  refine KZ.ofv (by decide) (Nat.le_of_ble_eq_true rfl) hO ?_
  intro p e s m below meth c ls ar QW A0 H locs E hK hZ hA hAc hw hl hret
  have hl : lv_has ls 5 [(0, .ref o)] := hl
  have hT : WT T := hw.1.2.1
  have nk_ : T 120 (T 82 o) ≠ T 85 o := ro_ne (wo_120 hT (wt_82 hT t_o)) (wo_85 hT t_o) (by decide) (by decide) (by omega)
  have nv_ : T 121 (T 82 o) ≠ T 85 o := ro_ne (wo_121 hT (wt_82 hT t_o)) (wo_85 hT t_o) (by decide) (by decide) (by omega)
  have c0_ := hp2.1
  refine j_iconst E 1 rfl dX3_readSum_0 ?_
  refine j_istore_n E 2 rfl [(1, .int (J 0)), (0, .ref o)] dX3_readSum_1 rfl hl (by decide) rfl (fun ls hl => ?_)
  refine j_aload_n E 3 rfl dX3_readSum_2 rfl (lv_at hl 1 rfl) ?_
  refine zV_v E (c_X3_readUnit l D cy T (v_0) κ o K_ V_ b_ hO t_o  (show 0 ≤ b_ ∧ b_ ≤ ((v_0 86) o) ∧ ((v_0 86) o) ≤ 400 from by omega) (show RK_ (v_0 300) (T 120 (T 82 o)) (T 121 (T 82 o)) (((v_0 123) (T 82 o))) K_ V_ from hp1) (show Cs_ K_ (((v_0 83) o)) (((v_0 84) o)) (((v_0 80) o)) from hp2) (show ((v_0 80) o) = 0 → ((v_0 86) o) ≤ ((v_0 83) o) from by omega)) mt_X3_readUnit ml_X3_91 hK hZ hAc hw (cw_rc4 hK hw.1 t_o) hA ⟨Nat.le_of_ble_eq_true rfl, Nat.le_of_ble_eq_true rfl⟩ ⟨Nat.le_of_ble_eq_true rfl, Nat.le_of_ble_eq_true rfl⟩ (As := []) (rest := []) rfl rfl hl.1 (Nat.le_of_ble_eq_true rfl) 6 rfl dX3_readSum_3 (fun v_1 H locs hq1_ hw => ?_)
  obtain ⟨y80_1, y83_1, y84_1, y86_1, y300_1, ev1_, hh1_⟩ := hq1_
  rw [ev1_] at hw; clear ev1_
  have hw : WK D cy T (upV (upV (upV (upV (upV v_0 80 y80_1) 83 y83_1) 84 y84_1) 86 y86_1) 300 y300_1) A0 s.heap H locs := cw_eq hw (by first | rfl | (funext j_; simp only [upV, reduceIte]; (repeat' split) <;> first | rfl | omega | (subst_vars; rfl)))
  obtain ⟨hh1_, kf1_⟩ := hh1_
  replace hh1_ : ((b_ ≤ (y86_1 o) ∧ (y86_1 o) ≤ 400 ∧ ((v_0 86) o) ≤ (y86_1 o) ∧ 0 ≤ (y83_1 o) ∧ (y83_1 o) ≤ 400) ∧ ((y80_1 o) = 0 → ((v_0 80) o) = 0 ∧ ((v_0 86) o) < (y86_1 o) ∧ (y86_1 o) - ((v_0 86) o) ≤ (y83_1 o) - ((v_0 83) o))) ∧ Rb_ (v_0 300) (y300_1) (T 85 o) b_ ∧ Cp_ T1_ TX_ K_ V_ (((v_0 83) o)) (((v_0 80) o)) ((y83_1 o)) ((y84_1 o)) ((y80_1 o)) (lL_ (gC_ (v_0 300) (T 85 o)) b_ (((v_0 86) o))) (lL_ (gC_ (y300_1) (T 85 o)) b_ ((y86_1 o))) := hh1_
  have u0_ := hh1_
  clear hh1_
  refine j_iconst E 7 rfl dX3_readSum_6 ?_
  refine j_istore_n E 8 rfl [(2, .int (J 0)), (1, .int (J 0)), (0, .ref o)] dX3_readSum_7 rfl hl (by decide) rfl (fun ls hl => ?_)
  have L8_2 : ∀ (k8 : Nat) (l1_8 l2_8 : Int) (y80_c8 : Nat → Int) (y83_c8 : Nat → Int) (y84_c8 : Nat → Int) (y86_c8 : Nat → Int) (y300_c8 : Nat → Int) (H : Heap) (locs : List Loc) (ls : Array Slot), inR l1_8 → inR l2_8 → (((0 ≤ b_ ∧ b_ ≤ (y86_c8 o) ∧ (y86_c8 o) ≤ 400 ∧ v_0 86 o ≤ (y86_c8 o) ∧ 0 ≤ l1_8 ∧ l1_8 ≤ 45) ∧ (Rb_ (v_0 300) (y300_c8) (T 85 o) b_) ∧ 0 ≤ l2_8 ∧ Cl_ K_ V_ (v_0 83 o) (v_0 80 o) l1_8 l2_8 ((y83_c8 o)) ((y84_c8 o)) ((y80_c8 o)) (lL_ (gC_ (v_0 300) (T 85 o)) b_ (v_0 86 o)) (lL_ (gC_ (y300_c8) (T 85 o)) b_ ((y86_c8 o))) ∧ ((y80_c8 o) = 0 → v_0 80 o = 0 ∧ v_0 86 o < (y86_c8 o) ∧ (y86_c8 o) - v_0 86 o ≤ (y83_c8 o) - v_0 83 o ∧ (¬ l1_8 = 0 → (y86_c8 o) + 1 - v_0 86 o ≤ (y83_c8 o) - v_0 83 o))) ∧ Kd_ T [85] (v_0 300) y300_c8) → (400 - l2_8).toNat < k8 → WK D cy T (upV (upV (upV (upV (upV v_0 80 y80_c8) 83 y83_c8) 84 y84_c8) 86 y86_c8) 300 y300_c8) A0 s.heap H locs → lv_has ls 5 [(0, .ref o), (1, .int (J l1_8)), (2, .int (J l2_8))] → W p l e (rmd 4 0 0) s m ar below meth c H locs 0 0 QW (F0 m 8 ls []) := by
    intro k8
    induction k8 with
    | zero =>
      intro l1_8 l2_8 y80_c8 y83_c8 y84_c8 y86_c8 y300_c8 H locs ls r_l1_8 r_l2_8 iv8 ms8 hw hl
      exact absurd ms8 (Nat.not_lt_zero _)
    | succ k8 ih8 =>
      intro l1_8 l2_8 y80_c8 y83_c8 y84_c8 y86_c8 y300_c8 H locs ls r_l1_8 r_l2_8 iv8 ms8 hw hl
      obtain ⟨iv8, ik8_⟩ := iv8
      have cs1_ := Cl_cs hp2 iv8.2.2.2.1
      unfold Cs_ at cs1_
      clear u0_
      have L112_4 : ∀ (H : Heap) (locs : List Loc) (ls : Array Slot), (¬ ((y84_c8 o) = 43 ∨ (y84_c8 o) = 45 ∨ (y84_c8 o) = 42 ∨ (y84_c8 o) = 47)) → WK D cy T (upV (upV (upV (upV (upV v_0 80 y80_c8) 83 y83_c8) 84 y84_c8) 86 y86_c8) 300 y300_c8) A0 s.heap H locs → lv_has ls 5 [(0, .ref o), (1, .int (J l1_8)), (2, .int (J l2_8))] → W p l e (rmd 4 0 0) s m ar below meth c H locs 0 0 QW (F0 m 112 ls []) := by
        intro H locs ls iv112 hw hl
        refine j_iload_n E 113 rfl dX3_readSum_112 rfl (lv_at hl 1 rfl) ?_
        refine j_if_eq E 116 122 rfl r_l1_8 dX3_readSum_113 (by decide) (fun cc6_ => ?_) (fun cc6_ => ?_)
        · exact hret 122 (upV (upV (upV (upV (upV v_0 80 y80_c8) 83 y83_c8) 84 y84_c8) 86 y86_c8) 300 y300_c8) _ _ ls hw ⟨y80_c8, y83_c8, y84_c8, y86_c8, y300_c8, rfl, ⟨by first | exact ⟨by omega, Rb_tr iv8.2.1 roe_, Cl_end iv8.2.2.2.1 iv112 (by omega) (fun q_ => Or.inr ⟨by omega, eme_ q_⟩)⟩ | exact ⟨by omega, iv8.2.1, Cl_end iv8.2.2.2.1 iv112 (by omega) (fun q_ => Or.inl ⟨by omega, rfl⟩)⟩, ik8_⟩⟩ dX3_readSum_122
        · refine j_aload_n E 117 rfl dX3_readSum_116 rfl (lv_at hl 0 rfl) ?_
          refine j_iload_n E 118 rfl dX3_readSum_117 rfl (lv_at hl 1 rfl) ?_
          refine j_ineg E 119 rfl dX3_readSum_118 ?_
          refine kV_v E (c_X3_emit l D cy T (upV (upV (upV (upV (upV v_0 80 y80_c8) 83 y83_c8) 84 y84_c8) 86 y86_c8) 300 y300_c8) o (-l1_8) b_ t_o (rr (by omega)) (show 0 ≤ b_ ∧ b_ ≤ (y86_c8 o) ∧ (y86_c8 o) ≤ 400 from by omega)) mt_X3_emit ml_X3_60 hK hw (cw_rc4 hK hw.1 t_o) hA ⟨Nat.le_of_ble_eq_true rfl, Nat.le_of_ble_eq_true rfl⟩ ⟨Nat.le_of_ble_eq_true rfl, Nat.le_of_ble_eq_true rfl⟩ (As := [.int (J (-l1_8))]) (rest := []) rfl rfl hl.1 (Nat.le_of_ble_eq_true rfl) 122 rfl dX3_readSum_119 (fun v_7 H locs hq7_ hw => ?_)
          obtain ⟨y86_7, y300_7, ev7_, hh7_⟩ := hq7_
          rw [ev7_] at hw; clear ev7_
          have hw : WK D cy T (upV (upV (upV (upV (upV v_0 80 y80_c8) 83 y83_c8) 84 y84_c8) 86 y86_7) 300 y300_7) A0 s.heap H locs := cw_eq hw (by first | rfl | (funext j_; simp only [upV, reduceIte]; (repeat' split) <;> first | rfl | omega | (subst_vars; rfl)))
          obtain ⟨hh7_, kf7_⟩ := hh7_
          replace hh7_ : (b_ ≤ (y86_7 o) ∧ (y86_7 o) ≤ 400 ∧ (y86_c8 o) ≤ (y86_7 o)) ∧ Rb_ (y300_c8) (y300_7) (T 85 o) b_ ∧ ((y86_c8 o) < 400 → (y86_7 o) = (y86_c8 o) + 1 ∧ (lL_ (gC_ (y300_7) (T 85 o)) b_ ((y86_7 o))) = (lL_ (gC_ (y300_c8) (T 85 o)) b_ ((y86_c8 o))) ++ [(-l1_8)]) := hh7_
          have rge_ := hh7_.1
          have roe_ := hh7_.2.1
          have ece_ : (y80_c8 o) = 0 → (y86_7 o) = (y86_c8 o) + 1 := fun q_ => (hh7_.2.2 (by omega)).1
          have eme_ := im_ (fun q_ : (y80_c8 o) = 0 => (hh7_.2.2 (by omega)).2)
          clear hh7_
          exact hret 122 (upV (upV (upV (upV (upV v_0 80 y80_c8) 83 y83_c8) 84 y84_c8) 86 y86_7) 300 y300_7) _ _ ls hw ⟨y80_c8, y83_c8, y84_c8, y86_7, y300_7, rfl, ⟨by first | exact ⟨by omega, Rb_tr iv8.2.1 roe_, Cl_end iv8.2.2.2.1 iv112 (by omega) (fun q_ => Or.inr ⟨by omega, eme_ q_⟩)⟩ | exact ⟨by omega, iv8.2.1, Cl_end iv8.2.2.2.1 iv112 (by omega) (fun q_ => Or.inl ⟨by omega, rfl⟩)⟩, (Kd_tr ik8_ (Kd_mono kf7_ (by decide)))⟩⟩ dX3_readSum_122
      refine j_iload_n E 9 rfl dX3_readSum_8 rfl (lv_at hl 2 rfl) ?_
      refine j_sipush E 12 rfl dX3_readSum_9 (by decide) ?_
      refine j_icmp_ge E 15 112 rfl r_l2_8 (rr (by decide)) dX3_readSum_12 (by decide) (fun cc8_ => ?_) (fun cc8_ => ?_)
      · exact L112_4   H locs ls  (by first | omega | exact Cl_i iv8.2.2.2.1 (by omega) (by omega)) hw (lv_sub hl [0, 1, 2] rfl)
      · refine j_aload_n E 16 rfl dX3_readSum_15 rfl (lv_at hl 0 rfl) ?_
        refine g_84 E hK hw fl_X3_30 t_o (y84_c8 o) rfl 19 rfl dX3_readSum_16 (fun rr9_ => ?_)
        refine kS_i E (c_X8_isReckoning l D cy T (upV (upV (upV (upV (upV v_0 80 y80_c8) 83 y83_c8) 84 y84_c8) 86 y86_c8) 300 y300_c8) (y84_c8 o)   rr9_ ) ms_X8_isReckoning ml_X3_94 hK hw hA ⟨Nat.le_of_ble_eq_true rfl, Nat.le_of_ble_eq_true rfl⟩ ⟨Nat.le_of_ble_eq_true rfl, Nat.le_of_ble_eq_true rfl⟩ (As := [.int (J (y84_c8 o))]) (rest := []) rfl rfl hl.1 (Nat.le_of_ble_eq_true rfl) 22 rfl dX3_readSum_19 (fun zz10_ v_10 H locs rr10_ hq10_ hw => ?_)
        obtain ⟨ev10_, hh10_⟩ := hq10_
        rw [ev10_] at hw; clear ev10_
        replace hh10_ : (zz10_ = 1 ∧ ((y84_c8 o) = 43 ∨ (y84_c8 o) = 45 ∨ (y84_c8 o) = 42 ∨ (y84_c8 o) = 47)) ∨ (zz10_ = 0 ∧ ¬ ((y84_c8 o) = 43 ∨ (y84_c8 o) = 45 ∨ (y84_c8 o) = 42 ∨ (y84_c8 o) = 47)) := hh10_
        rcases hh10_ with ⟨ee10_, hh10_⟩ | ⟨ee10_, hh10_⟩
        · subst ee10_
          have ks_ := hh10_
          clear hh10_
          obtain ⟨rf0_, rf1_, ra_, ra4_, rk_, -, -⟩ := Cl_run iv8.2.2.2.1 (by omega)
          have n8_ := iv8.2.2.2.2 rf1_
          have h3_ := hp3 rf0_
          have r8_ := iv8.1
          have z8_ := iv8.2.1
          have i8_ := iv8.2.2.1
          have l8_ := iv8.2.2.2.1
          clear iv8 cs1_ hp3
          refine j_if_eq E 25 112 rfl (rr (by decide)) dX3_readSum_22 (by decide) (fun cc11_ => absurd cc11_ (by decide)) (fun _ => ?_)
          refine j_aload_n E 26 rfl dX3_readSum_25 rfl (lv_at hl 0 rfl) ?_
          refine g_84 E hK hw fl_X3_30 t_o (y84_c8 o) rfl 29 rfl dX3_readSum_26 (fun _ => ?_)
          refine j_istore_n E 30 rfl [(3, .int (J (y84_c8 o))), (0, .ref o), (1, .int (J l1_8)), (2, .int (J l2_8))] dX3_readSum_29 rfl hl (by decide) rfl (fun ls hl => ?_)
          have L47_12 : ∀ (s0_47 : Int) (H : Heap) (locs : List Loc) (ls : Array Slot), inR s0_47 → ((s0_47 = 1 ∧ ((y84_c8 o) = 42 ∨ (y84_c8 o) = 47)) ∨ (s0_47 = 0 ∧ ¬ ((y84_c8 o) = 42 ∨ (y84_c8 o) = 47))) → WK D cy T (upV (upV (upV (upV (upV v_0 80 y80_c8) 83 y83_c8) 84 y84_c8) 86 y86_c8) 300 y300_c8) A0 s.heap H locs → lv_has ls 5 [(0, .ref o), (1, .int (J l1_8)), (2, .int (J l2_8)), (3, .int (J (y84_c8 o)))] → W p l e (rmd 4 0 0) s m ar below meth c H locs 0 0 QW (F0 m 47 ls [.int (J s0_47)]) := by
            intro s0_47 H locs ls r_s0_47 iv47 hw hl
            refine j_istore E 49 rfl [(4, .int (J s0_47)), (0, .ref o), (1, .int (J l1_8)), (2, .int (J l2_8)), (3, .int (J (y84_c8 o)))] dX3_readSum_47 hl (by decide) rfl (fun ls hl => ?_)
            have L64_14 : ∀ (y86_c64 : Nat → Int) (y300_c64 : Nat → Int) (H : Heap) (locs : List Loc) (ls : Array Slot), (((0 ≤ b_ ∧ b_ ≤ (y86_c64 o) ∧ (y86_c64 o) ≤ 400 ∧ v_0 86 o ≤ (y86_c64 o)) ∧ (Rb_ (v_0 300) (y300_c64) (T 85 o) b_) ∧ Im_ (s0_47 = 1) ((lL_ (gC_ (y300_c64) (T 85 o)) b_ ((y86_c64 o))) = (lL_ (gC_ (y300_c8) (T 85 o)) b_ ((y86_c8 o)))) ∧ Im_ (¬ (s0_47 = 1)) ((l1_8 = 0 ∧ (lL_ (gC_ (y300_c64) (T 85 o)) b_ ((y86_c64 o))) = (lL_ (gC_ (y300_c8) (T 85 o)) b_ ((y86_c8 o)))) ∨ (¬ l1_8 = 0 ∧ (lL_ (gC_ (y300_c64) (T 85 o)) b_ ((y86_c64 o))) = (lL_ (gC_ (y300_c8) (T 85 o)) b_ ((y86_c8 o))) ++ [-(l1_8)])) ∧ (y86_c64 o) - v_0 86 o ≤ (y83_c8 o) - v_0 83 o ∧ ((s0_47 = 1) → ¬ l1_8 = 0 → (y86_c64 o) + 1 - v_0 86 o ≤ (y83_c8 o) - v_0 83 o)) ∧ Kd_ T [85] (v_0 300) y300_c64) → WK D cy T (upV (upV (upV (upV (upV v_0 80 y80_c8) 83 y83_c8) 84 y84_c8) 86 y86_c64) 300 y300_c64) A0 s.heap H locs → lv_has ls 5 [(0, .ref o), (1, .int (J l1_8)), (2, .int (J l2_8)), (3, .int (J (y84_c8 o))), (4, .int (J s0_47))] → W p l e (rmd 4 0 0) s m ar below meth c H locs 0 0 QW (F0 m 64 ls []) := by
              intro y86_c64 y300_c64 H locs ls iv64 hw hl
              obtain ⟨iv64, ik64_⟩ := iv64
              obtain ⟨g6_, z6_, la_, lb_, m6_⟩ := iv64
              refine j_aload_n E 65 rfl dX3_readSum_64 rfl (lv_at hl 0 rfl) ?_
              have lt_ := RK_lt hp1 (j := (y83_c8 o)) (by omega)
              refine zV_v E (c_X3_step l D cy T (upV (upV (upV (upV (upV v_0 80 y80_c8) 83 y83_c8) 84 y84_c8) 86 y86_c64) 300 y300_c64) κ o K_ V_ hO t_o  (show RK_ (y300_c64) (T 120 (T 82 o)) (T 121 (T 82 o)) (((v_0 123) (T 82 o))) K_ V_ from RK_rb hp1 z6_ nk_ nv_) (show 0 ≤ (y83_c8 o) ∧ (y83_c8 o) < 400 from by omega)) mt_X3_step ml_X3_54 hK hZ hAc hw (cw_rc4 hK hw.1 t_o) hA ⟨Nat.le_of_ble_eq_true rfl, Nat.le_of_ble_eq_true rfl⟩ ⟨Nat.le_of_ble_eq_true rfl, Nat.le_of_ble_eq_true rfl⟩ (As := []) (rest := []) rfl rfl hl.1 (Nat.le_of_ble_eq_true rfl) 68 rfl dX3_readSum_65 (fun v_16 H locs hq16_ hw => ?_)
              obtain ⟨y83_16, y84_16, ev16_, hh16_⟩ := hq16_
              rw [ev16_] at hw; clear ev16_
              have hw : WK D cy T (upV (upV (upV (upV (upV v_0 80 y80_c8) 83 y83_16) 84 y84_16) 86 y86_c64) 300 y300_c64) A0 s.heap H locs := cw_eq hw (by first | rfl | (funext j_; simp only [upV, reduceIte]; (repeat' split) <;> first | rfl | omega | (subst_vars; rfl)))
              replace hh16_ : (y83_16 o) = (y83_c8 o) + 1 ∧ (y84_16 o) = K_ ((y83_c8 o) + 1) := hh16_
              have s_ := hh16_
              clear hh16_
              refine j_iload_n E 69 rfl dX3_readSum_68 rfl (lv_at hl 3 rfl) ?_
              refine j_bipush E 71 rfl dX3_readSum_69 (by decide) ?_
              refine j_icmp_ne E 74 86 rfl rr9_ (rr (by decide)) dX3_readSum_71 (by decide) (fun cc17_ => ?_) (fun cc17_ => ?_)
              · refine j_aload_n E 87 rfl dX3_readSum_86 rfl (lv_at hl 0 rfl) ?_
                refine zV_v E (c_X3_readUnit l D cy T (upV (upV (upV (upV (upV v_0 80 y80_c8) 83 y83_16) 84 y84_16) 86 y86_c64) 300 y300_c64) κ o K_ V_ b_ hO t_o  (show 0 ≤ b_ ∧ b_ ≤ (y86_c64 o) ∧ (y86_c64 o) ≤ 400 from by omega) (show RK_ (y300_c64) (T 120 (T 82 o)) (T 121 (T 82 o)) (((v_0 123) (T 82 o))) K_ V_ from RK_rb hp1 z6_ nk_ nv_) (show Cs_ K_ ((y83_16 o)) ((y84_16 o)) ((y80_c8 o)) from Cs_st (Cl_cs hp2 l8_) rf1_ s_.1 s_.2 (by omega)) (show (y80_c8 o) = 0 → (y86_c64 o) ≤ (y83_16 o) from by omega)) mt_X3_readUnit ml_X3_91 hK hZ hAc hw (cw_rc4 hK hw.1 t_o) hA ⟨Nat.le_of_ble_eq_true rfl, Nat.le_of_ble_eq_true rfl⟩ ⟨Nat.le_of_ble_eq_true rfl, Nat.le_of_ble_eq_true rfl⟩ (As := []) (rest := []) rfl rfl hl.1 (Nat.le_of_ble_eq_true rfl) 90 rfl dX3_readSum_87 (fun v_18 H locs hq18_ hw => ?_)
                obtain ⟨y80_18, y83_18, y84_18, y86_18, y300_18, ev18_, hh18_⟩ := hq18_
                rw [ev18_] at hw; clear ev18_
                have hw : WK D cy T (upV (upV (upV (upV (upV v_0 80 y80_18) 83 y83_18) 84 y84_18) 86 y86_18) 300 y300_18) A0 s.heap H locs := cw_eq hw (by first | rfl | (funext j_; simp only [upV, reduceIte]; (repeat' split) <;> first | rfl | omega | (subst_vars; rfl)))
                obtain ⟨hh18_, kf18_⟩ := hh18_
                replace hh18_ : ((b_ ≤ (y86_18 o) ∧ (y86_18 o) ≤ 400 ∧ (y86_c64 o) ≤ (y86_18 o) ∧ 0 ≤ (y83_18 o) ∧ (y83_18 o) ≤ 400) ∧ ((y80_18 o) = 0 → (y80_c8 o) = 0 ∧ (y86_c64 o) < (y86_18 o) ∧ (y86_18 o) - (y86_c64 o) ≤ (y83_18 o) - (y83_16 o))) ∧ Rb_ (y300_c64) (y300_18) (T 85 o) b_ ∧ Cp_ T1_ TX_ K_ V_ ((y83_16 o)) ((y80_c8 o)) ((y83_18 o)) ((y84_18 o)) ((y80_18 o)) (lL_ (gC_ (y300_c64) (T 85 o)) b_ ((y86_c64 o))) (lL_ (gC_ (y300_18) (T 85 o)) b_ ((y86_18 o))) := hh18_
                have u_ := hh18_
                clear hh18_
                rw [s_.1] at u_
                refine j_iload E 92 rfl dX3_readSum_90 (lv_at hl 4 rfl) ?_
                refine j_if_eq E 95 104 rfl r_s0_47 dX3_readSum_92 (by decide) (fun cc19_ => ?_) (fun cc19_ => ?_)
                · refine j_iload_n E 105 rfl dX3_readSum_104 rfl (lv_at hl 3 rfl) ?_
                  refine j_istore_n E 106 rfl [(1, .int (J (y84_c8 o))), (0, .ref o), (2, .int (J l2_8)), (3, .int (J (y84_c8 o))), (4, .int (J s0_47))] dX3_readSum_105 rfl hl (by decide) rfl (fun ls hl => ?_)
                  refine j_iinc E 109 rfl [(2, .int (J (l2_8 + 1))), (1, .int (J (y84_c8 o))), (0, .ref o), (3, .int (J (y84_c8 o))), (4, .int (J s0_47))] dX3_readSum_106 hl (kk := 2) rfl (by decide) rfl (fun ls hl => ?_)
                  refine j_goto E 8 dX3_readSum_109 (by decide) ?_
                  exact ih8 (y84_c8 o) (l2_8 + 1) y80_18 y83_18 y84_18 y86_18 y300_18 H locs ls rr9_ (rr (by omega)) (⟨by first | exact ⟨by omega, Rb_tr z6_ (Rb_tr u_.2.1 ro9_), by omega, Cl_mul l8_ (by omega) (la_ (by omega)) u_.2.2 em9_, by omega⟩ | exact ⟨by omega, Rb_tr z6_ (Rb_tr t_.2.1 ro9_), by omega, Cl_div l8_ (by omega) s_.2 (by omega) (la_ (by omega)) t_.2.2 (fun q_ => ⟨hp1.2.2.2.2 _ (by omega) q_, (RK_lt hp1 (by omega)).2⟩) em9_, by omega⟩ | exact ⟨by omega, Rb_tr z6_ u_.2.1, by omega, Cl_add l8_ (by omega) (fun _ => lb_ (by omega)) u_.2.2, by omega⟩ | (exfalso; omega), (Kd_tr ik64_ (Kd_mono kf18_ (by decide)))⟩) (by omega) hw (lv_sub hl [2, 1, 0] rfl)
                · refine j_aload_n E 96 rfl dX3_readSum_95 rfl (lv_at hl 0 rfl) ?_
                  refine j_iload_n E 97 rfl dX3_readSum_96 rfl (lv_at hl 3 rfl) ?_
                  refine j_ineg E 98 rfl dX3_readSum_97 ?_
                  refine kV_v E (c_X3_emit l D cy T (upV (upV (upV (upV (upV v_0 80 y80_18) 83 y83_18) 84 y84_18) 86 y86_18) 300 y300_18) o (-(y84_c8 o)) b_ t_o (rr (by omega)) (show 0 ≤ b_ ∧ b_ ≤ (y86_18 o) ∧ (y86_18 o) ≤ 400 from by omega)) mt_X3_emit ml_X3_60 hK hw (cw_rc4 hK hw.1 t_o) hA ⟨Nat.le_of_ble_eq_true rfl, Nat.le_of_ble_eq_true rfl⟩ ⟨Nat.le_of_ble_eq_true rfl, Nat.le_of_ble_eq_true rfl⟩ (As := [.int (J (-(y84_c8 o)))]) (rest := []) rfl rfl hl.1 (Nat.le_of_ble_eq_true rfl) 101 rfl dX3_readSum_98 (fun v_20 H locs hq20_ hw => ?_)
                  obtain ⟨y86_20, y300_20, ev20_, hh20_⟩ := hq20_
                  rw [ev20_] at hw; clear ev20_
                  have hw : WK D cy T (upV (upV (upV (upV (upV v_0 80 y80_18) 83 y83_18) 84 y84_18) 86 y86_20) 300 y300_20) A0 s.heap H locs := cw_eq hw (by first | rfl | (funext j_; simp only [upV, reduceIte]; (repeat' split) <;> first | rfl | omega | (subst_vars; rfl)))
                  obtain ⟨hh20_, kf20_⟩ := hh20_
                  replace hh20_ : (b_ ≤ (y86_20 o) ∧ (y86_20 o) ≤ 400 ∧ (y86_18 o) ≤ (y86_20 o)) ∧ Rb_ (y300_18) (y300_20) (T 85 o) b_ ∧ ((y86_18 o) < 400 → (y86_20 o) = (y86_18 o) + 1 ∧ (lL_ (gC_ (y300_20) (T 85 o)) b_ ((y86_20 o))) = (lL_ (gC_ (y300_18) (T 85 o)) b_ ((y86_18 o))) ++ [(-(y84_c8 o))]) := hh20_
                  have rg9_ := hh20_.1
                  have ro9_ := hh20_.2.1
                  have ec9_ : (y80_18 o) = 0 → (y86_20 o) = (y86_18 o) + 1 := fun q_ => (hh20_.2.2 (by omega)).1
                  have em9_ := im_ (fun q_ : (y80_18 o) = 0 => (hh20_.2.2 (by omega)).2)
                  clear hh20_
                  refine j_goto E 106 dX3_readSum_101 (by decide) ?_
                  refine j_iinc E 109 rfl [(2, .int (J (l2_8 + 1))), (0, .ref o), (1, .int (J l1_8)), (3, .int (J (y84_c8 o))), (4, .int (J s0_47))] dX3_readSum_106 hl (kk := 2) rfl (by decide) rfl (fun ls hl => ?_)
                  refine j_goto E 8 dX3_readSum_109 (by decide) ?_
                  exact ih8 l1_8 (l2_8 + 1) y80_18 y83_18 y84_18 y86_20 y300_20 H locs ls r_l1_8 (rr (by omega)) (⟨by first | exact ⟨by omega, Rb_tr z6_ (Rb_tr u_.2.1 ro9_), by omega, Cl_mul l8_ (by omega) (la_ (by omega)) u_.2.2 em9_, by omega⟩ | exact ⟨by omega, Rb_tr z6_ (Rb_tr t_.2.1 ro9_), by omega, Cl_div l8_ (by omega) s_.2 (by omega) (la_ (by omega)) t_.2.2 (fun q_ => ⟨hp1.2.2.2.2 _ (by omega) q_, (RK_lt hp1 (by omega)).2⟩) em9_, by omega⟩ | exact ⟨by omega, Rb_tr z6_ u_.2.1, by omega, Cl_add l8_ (by omega) (fun _ => lb_ (by omega)) u_.2.2, by omega⟩ | (exfalso; omega), (Kd_tr (Kd_tr ik64_ (Kd_mono kf18_ (by decide))) (Kd_mono kf20_ (by decide)))⟩) (by omega) hw (lv_sub hl [1, 2, 0] rfl)
              · refine j_aload_n E 75 rfl dX3_readSum_74 rfl (lv_at hl 0 rfl) ?_
                refine j_iconst E 76 rfl dX3_readSum_75 ?_
                refine j_sipush E 79 rfl dX3_readSum_76 (by decide) ?_
                refine j_iconst E 80 rfl dX3_readSum_79 ?_
                refine zV_v E (c_X3_takeNumber l D cy T (upV (upV (upV (upV (upV v_0 80 y80_c8) 83 y83_16) 84 y84_16) 86 y86_c64) 300 y300_c64) κ o 1 9999 0 K_ V_ b_ hO t_o (rr (by decide)) (rr (by decide)) (rr (by decide)) (show 0 ≤ b_ ∧ b_ ≤ (y86_c64 o) ∧ (y86_c64 o) ≤ 400 from by omega) (show RK_ (y300_c64) (T 120 (T 82 o)) (T 121 (T 82 o)) (((v_0 123) (T 82 o))) K_ V_ from RK_rb hp1 z6_ nk_ nv_) (show Cs_ K_ ((y83_16 o)) ((y84_16 o)) ((y80_c8 o)) from Cs_st (Cl_cs hp2 l8_) rf1_ s_.1 s_.2 (by omega)) (show 0 ≤ (1 : Int) ∧ (9999 : Int) ≤ 9999 ∧ 0 ≤ (0 : Int) ∧ (0 : Int) ≤ 10000 from by omega) (show (y80_c8 o) = 0 → (y86_c64 o) ≤ (y83_16 o) from by omega)) mt_X3_takeNumber ml_X3_98 hK hZ hAc hw (cw_rc4 hK hw.1 t_o) hA ⟨Nat.le_of_ble_eq_true rfl, Nat.le_of_ble_eq_true rfl⟩ ⟨Nat.le_of_ble_eq_true rfl, Nat.le_of_ble_eq_true rfl⟩ (As := [.int (J 1), .int (J 9999), .int (J 0)]) (rest := []) rfl rfl hl.1 (Nat.le_of_ble_eq_true rfl) 83 rfl dX3_readSum_80 (fun v_21 H locs hq21_ hw => ?_)
                obtain ⟨y80_21, y83_21, y84_21, y86_21, y300_21, ev21_, hh21_⟩ := hq21_
                rw [ev21_] at hw; clear ev21_
                have hw : WK D cy T (upV (upV (upV (upV (upV v_0 80 y80_21) 83 y83_21) 84 y84_21) 86 y86_21) 300 y300_21) A0 s.heap H locs := cw_eq hw (by first | rfl | (funext j_; simp only [upV, reduceIte]; (repeat' split) <;> first | rfl | omega | (subst_vars; rfl)))
                obtain ⟨hh21_, kf21_⟩ := hh21_
                replace hh21_ : ((b_ ≤ (y86_21 o) ∧ (y86_21 o) ≤ 400 ∧ (y86_c64 o) ≤ (y86_21 o) ∧ 0 ≤ (y83_21 o) ∧ (y83_21 o) ≤ 400) ∧ ((y80_21 o) = 0 → (y80_c8 o) = 0 ∧ (y86_c64 o) < (y86_21 o) ∧ (y86_21 o) - (y86_c64 o) ≤ (y83_21 o) - (y83_16 o))) ∧ Rb_ (y300_c64) (y300_21) (T 85 o) b_ ∧ Tn_ K_ V_ (1 : Int) (9999 : Int) (0 : Int) ((y83_16 o)) ((y84_16 o)) ((y80_c8 o)) ((y83_21 o)) ((y84_21 o)) ((y80_21 o)) (lL_ (gC_ (y300_c64) (T 85 o)) b_ ((y86_c64 o))) (lL_ (gC_ (y300_21) (T 85 o)) b_ ((y86_21 o))) := hh21_
                have t_ := hh21_
                clear hh21_
                rw [s_.1] at t_
                refine j_goto E 90 dX3_readSum_83 (by decide) ?_
                refine j_iload E 92 rfl dX3_readSum_90 (lv_at hl 4 rfl) ?_
                refine j_if_eq E 95 104 rfl r_s0_47 dX3_readSum_92 (by decide) (fun cc22_ => ?_) (fun cc22_ => ?_)
                · refine j_iload_n E 105 rfl dX3_readSum_104 rfl (lv_at hl 3 rfl) ?_
                  refine j_istore_n E 106 rfl [(1, .int (J (y84_c8 o))), (0, .ref o), (2, .int (J l2_8)), (3, .int (J (y84_c8 o))), (4, .int (J s0_47))] dX3_readSum_105 rfl hl (by decide) rfl (fun ls hl => ?_)
                  refine j_iinc E 109 rfl [(2, .int (J (l2_8 + 1))), (1, .int (J (y84_c8 o))), (0, .ref o), (3, .int (J (y84_c8 o))), (4, .int (J s0_47))] dX3_readSum_106 hl (kk := 2) rfl (by decide) rfl (fun ls hl => ?_)
                  refine j_goto E 8 dX3_readSum_109 (by decide) ?_
                  exact ih8 (y84_c8 o) (l2_8 + 1) y80_21 y83_21 y84_21 y86_21 y300_21 H locs ls rr9_ (rr (by omega)) (⟨by first | exact ⟨by omega, Rb_tr z6_ (Rb_tr u_.2.1 ro9_), by omega, Cl_mul l8_ (by omega) (la_ (by omega)) u_.2.2 em9_, by omega⟩ | exact ⟨by omega, Rb_tr z6_ (Rb_tr t_.2.1 ro9_), by omega, Cl_div l8_ (by omega) s_.2 (by omega) (la_ (by omega)) t_.2.2 (fun q_ => ⟨hp1.2.2.2.2 _ (by omega) q_, (RK_lt hp1 (by omega)).2⟩) em9_, by omega⟩ | exact ⟨by omega, Rb_tr z6_ u_.2.1, by omega, Cl_add l8_ (by omega) (fun _ => lb_ (by omega)) u_.2.2, by omega⟩ | (exfalso; omega), (Kd_tr ik64_ (Kd_mono kf21_ (by decide)))⟩) (by omega) hw (lv_sub hl [2, 1, 0] rfl)
                · refine j_aload_n E 96 rfl dX3_readSum_95 rfl (lv_at hl 0 rfl) ?_
                  refine j_iload_n E 97 rfl dX3_readSum_96 rfl (lv_at hl 3 rfl) ?_
                  refine j_ineg E 98 rfl dX3_readSum_97 ?_
                  refine kV_v E (c_X3_emit l D cy T (upV (upV (upV (upV (upV v_0 80 y80_21) 83 y83_21) 84 y84_21) 86 y86_21) 300 y300_21) o (-(y84_c8 o)) b_ t_o (rr (by omega)) (show 0 ≤ b_ ∧ b_ ≤ (y86_21 o) ∧ (y86_21 o) ≤ 400 from by omega)) mt_X3_emit ml_X3_60 hK hw (cw_rc4 hK hw.1 t_o) hA ⟨Nat.le_of_ble_eq_true rfl, Nat.le_of_ble_eq_true rfl⟩ ⟨Nat.le_of_ble_eq_true rfl, Nat.le_of_ble_eq_true rfl⟩ (As := [.int (J (-(y84_c8 o)))]) (rest := []) rfl rfl hl.1 (Nat.le_of_ble_eq_true rfl) 101 rfl dX3_readSum_98 (fun v_23 H locs hq23_ hw => ?_)
                  obtain ⟨y86_23, y300_23, ev23_, hh23_⟩ := hq23_
                  rw [ev23_] at hw; clear ev23_
                  have hw : WK D cy T (upV (upV (upV (upV (upV v_0 80 y80_21) 83 y83_21) 84 y84_21) 86 y86_23) 300 y300_23) A0 s.heap H locs := cw_eq hw (by first | rfl | (funext j_; simp only [upV, reduceIte]; (repeat' split) <;> first | rfl | omega | (subst_vars; rfl)))
                  obtain ⟨hh23_, kf23_⟩ := hh23_
                  replace hh23_ : (b_ ≤ (y86_23 o) ∧ (y86_23 o) ≤ 400 ∧ (y86_21 o) ≤ (y86_23 o)) ∧ Rb_ (y300_21) (y300_23) (T 85 o) b_ ∧ ((y86_21 o) < 400 → (y86_23 o) = (y86_21 o) + 1 ∧ (lL_ (gC_ (y300_23) (T 85 o)) b_ ((y86_23 o))) = (lL_ (gC_ (y300_21) (T 85 o)) b_ ((y86_21 o))) ++ [(-(y84_c8 o))]) := hh23_
                  have rg9_ := hh23_.1
                  have ro9_ := hh23_.2.1
                  have ec9_ : (y80_21 o) = 0 → (y86_23 o) = (y86_21 o) + 1 := fun q_ => (hh23_.2.2 (by omega)).1
                  have em9_ := im_ (fun q_ : (y80_21 o) = 0 => (hh23_.2.2 (by omega)).2)
                  clear hh23_
                  refine j_goto E 106 dX3_readSum_101 (by decide) ?_
                  refine j_iinc E 109 rfl [(2, .int (J (l2_8 + 1))), (0, .ref o), (1, .int (J l1_8)), (3, .int (J (y84_c8 o))), (4, .int (J s0_47))] dX3_readSum_106 hl (kk := 2) rfl (by decide) rfl (fun ls hl => ?_)
                  refine j_goto E 8 dX3_readSum_109 (by decide) ?_
                  exact ih8 l1_8 (l2_8 + 1) y80_21 y83_21 y84_21 y86_23 y300_23 H locs ls r_l1_8 (rr (by omega)) (⟨by first | exact ⟨by omega, Rb_tr z6_ (Rb_tr u_.2.1 ro9_), by omega, Cl_mul l8_ (by omega) (la_ (by omega)) u_.2.2 em9_, by omega⟩ | exact ⟨by omega, Rb_tr z6_ (Rb_tr t_.2.1 ro9_), by omega, Cl_div l8_ (by omega) s_.2 (by omega) (la_ (by omega)) t_.2.2 (fun q_ => ⟨hp1.2.2.2.2 _ (by omega) q_, (RK_lt hp1 (by omega)).2⟩) em9_, by omega⟩ | exact ⟨by omega, Rb_tr z6_ u_.2.1, by omega, Cl_add l8_ (by omega) (fun _ => lb_ (by omega)) u_.2.2, by omega⟩ | (exfalso; omega), (Kd_tr (Kd_tr ik64_ (Kd_mono kf21_ (by decide))) (Kd_mono kf23_ (by decide)))⟩) (by omega) hw (lv_sub hl [1, 2, 0] rfl)
            refine j_iload E 51 rfl dX3_readSum_49 (lv_at hl 0 rfl) ?_
            refine j_if_ne E 54 64 rfl r_s0_47 dX3_readSum_51 (by decide) (fun cc24_ => ?_) (fun cc24_ => ?_)
            · exact L64_14  y86_c8 y300_c8 H locs ls  (⟨by first | exact ⟨by omega, z8_, fun _ => rfl, fun q_ => Or.inl ⟨by omega, rfl⟩, by omega, by omega⟩ | exact ⟨by omega, Rb_tr z8_ ro7_, fun q_ => absurd q_ (by omega), fun q_ => Or.inr ⟨by omega, em7_ rf1_⟩, by omega, by omega⟩, ik8_⟩) hw (lv_sub hl [1, 2, 3, 4, 0] rfl)
            · refine j_iload_n E 55 rfl dX3_readSum_54 rfl (lv_at hl 2 rfl) ?_
              refine j_if_eq E 58 64 rfl r_l1_8 dX3_readSum_55 (by decide) (fun cc25_ => ?_) (fun cc25_ => ?_)
              · exact L64_14  y86_c8 y300_c8 H locs ls  (⟨by first | exact ⟨by omega, z8_, fun _ => rfl, fun q_ => Or.inl ⟨by omega, rfl⟩, by omega, by omega⟩ | exact ⟨by omega, Rb_tr z8_ ro7_, fun q_ => absurd q_ (by omega), fun q_ => Or.inr ⟨by omega, em7_ rf1_⟩, by omega, by omega⟩, ik8_⟩) hw (lv_sub hl [1, 2, 3, 4, 0] rfl)
              · refine j_aload_n E 59 rfl dX3_readSum_58 rfl (lv_at hl 1 rfl) ?_
                refine j_iload_n E 60 rfl dX3_readSum_59 rfl (lv_at hl 2 rfl) ?_
                refine j_ineg E 61 rfl dX3_readSum_60 ?_
                refine kV_v E (c_X3_emit l D cy T (upV (upV (upV (upV (upV v_0 80 y80_c8) 83 y83_c8) 84 y84_c8) 86 y86_c8) 300 y300_c8) o (-l1_8) b_ t_o (rr (by omega)) (show 0 ≤ b_ ∧ b_ ≤ (y86_c8 o) ∧ (y86_c8 o) ≤ 400 from by omega)) mt_X3_emit ml_X3_60 hK hw (cw_rc4 hK hw.1 t_o) hA ⟨Nat.le_of_ble_eq_true rfl, Nat.le_of_ble_eq_true rfl⟩ ⟨Nat.le_of_ble_eq_true rfl, Nat.le_of_ble_eq_true rfl⟩ (As := [.int (J (-l1_8))]) (rest := []) rfl rfl hl.1 (Nat.le_of_ble_eq_true rfl) 64 rfl dX3_readSum_61 (fun v_26 H locs hq26_ hw => ?_)
                obtain ⟨y86_26, y300_26, ev26_, hh26_⟩ := hq26_
                rw [ev26_] at hw; clear ev26_
                have hw : WK D cy T (upV (upV (upV (upV (upV v_0 80 y80_c8) 83 y83_c8) 84 y84_c8) 86 y86_26) 300 y300_26) A0 s.heap H locs := cw_eq hw (by first | rfl | (funext j_; simp only [upV, reduceIte]; (repeat' split) <;> first | rfl | omega | (subst_vars; rfl)))
                obtain ⟨hh26_, kf26_⟩ := hh26_
                replace hh26_ : (b_ ≤ (y86_26 o) ∧ (y86_26 o) ≤ 400 ∧ (y86_c8 o) ≤ (y86_26 o)) ∧ Rb_ (y300_c8) (y300_26) (T 85 o) b_ ∧ ((y86_c8 o) < 400 → (y86_26 o) = (y86_c8 o) + 1 ∧ (lL_ (gC_ (y300_26) (T 85 o)) b_ ((y86_26 o))) = (lL_ (gC_ (y300_c8) (T 85 o)) b_ ((y86_c8 o))) ++ [(-l1_8)]) := hh26_
                have rg7_ := hh26_.1
                have ro7_ := hh26_.2.1
                have ec7_ : (y80_c8 o) = 0 → (y86_26 o) = (y86_c8 o) + 1 := fun q_ => (hh26_.2.2 (by omega)).1
                have em7_ := im_ (fun q_ : (y80_c8 o) = 0 => (hh26_.2.2 (by omega)).2)
                clear hh26_
                exact L64_14  y86_26 y300_26 H locs ls  (⟨by first | exact ⟨by omega, z8_, fun _ => rfl, fun q_ => Or.inl ⟨by omega, rfl⟩, by omega, by omega⟩ | exact ⟨by omega, Rb_tr z8_ ro7_, fun q_ => absurd q_ (by omega), fun q_ => Or.inr ⟨by omega, em7_ rf1_⟩, by omega, by omega⟩, (Kd_tr ik8_ (Kd_mono kf26_ (by decide)))⟩) hw (lv_sub hl [1, 2, 3, 4, 0] rfl)
          refine j_iload_n E 31 rfl dX3_readSum_30 rfl (lv_at hl 0 rfl) ?_
          refine j_bipush E 33 rfl dX3_readSum_31 (by decide) ?_
          refine j_icmp_eq E 36 42 rfl rr9_ (rr (by decide)) dX3_readSum_33 (by decide) (fun cc27_ => ?_) (fun cc27_ => ?_)
          · refine j_iconst E 43 rfl dX3_readSum_42 ?_
            refine j_goto E 47 dX3_readSum_43 (by decide) ?_
            exact L47_12 1  H locs ls (rr (by decide)) (by omega) hw (lv_sub hl [1, 2, 3, 0] rfl)
          · refine j_iload_n E 37 rfl dX3_readSum_36 rfl (lv_at hl 0 rfl) ?_
            refine j_bipush E 39 rfl dX3_readSum_37 (by decide) ?_
            refine j_icmp_ne E 42 46 rfl rr9_ (rr (by decide)) dX3_readSum_39 (by decide) (fun cc28_ => ?_) (fun cc28_ => ?_)
            · refine j_iconst E 47 rfl dX3_readSum_46 ?_
              exact L47_12 0  H locs ls (rr (by decide)) (by omega) hw (lv_sub hl [1, 2, 3, 0] rfl)
            · refine j_iconst E 43 rfl dX3_readSum_42 ?_
              refine j_goto E 47 dX3_readSum_43 (by decide) ?_
              exact L47_12 1  H locs ls (rr (by decide)) (by omega) hw (lv_sub hl [1, 2, 3, 0] rfl)
        · subst ee10_
          refine j_if_eq E 25 112 rfl (rr (by decide)) dX3_readSum_22 (by decide) (fun _ => ?_) (fun cc29_ => absurd cc29_ (by decide))
          exact L112_4   H locs ls  (by first | omega | exact Cl_i iv8.2.2.2.1 (by omega) (by omega)) hw (lv_sub hl [0, 1, 2] rfl)
  exact L8_2 _ 0 0 y80_1 y83_1 y84_1 y86_1 y300_1 H locs ls (rr (by decide)) (rr (by decide)) (⟨⟨by omega, u0_.2.1, by omega, Cl_0 hp2.1.1 u0_.2.2, by omega⟩, (Kd_tr Kd_rf (Kd_mono kf1_ (by decide)))⟩) (Nat.lt_succ_self _) hw (lv_sub hl [2, 1, 0] rfl)
