theorem J_and3 {z w : Int} (hz : inR z) (e : J z = J w &&& J 3) : 0 ≤ z ∧ z ≤ 3 := by
  have h1 : (J z).toBitVec.toNat ≤ 3 := by
    rw [e, Int32.toBitVec_and, BitVec.toNat_and]
    exact Nat.le_trans Nat.and_le_right (by decide +kernel)
  have h2 : (J z).toInt = z := J_toInt hz
  have h3 : (J z).toInt = (J z).toBitVec.toInt := rfl
  rw [h3, BitVec.toInt_eq_toNat_of_lt (by omega)] at h2
  omega
theorem J_nat {a : Int} (h : 0 ≤ a ∧ a < 2147483648) : (J a).toBitVec.toNat = a.toNat := by
  have h2 : (J a).toInt = a := J_toInt ⟨by omega, h.2⟩
  have h3 : (J a).toInt = (J a).toBitVec.toInt := rfl
  have h4 := BitVec.toInt_eq_toNat_cond (J a).toBitVec
  have h5 := (J a).toBitVec.isLt
  rw [h3, h4] at h2
  split at h2 <;> omega
theorem J_or255 {z a b : Int} (hz : inR z) (ha : 0 ≤ a ∧ a ≤ 255) (hb : 0 ≤ b ∧ b ≤ 255) (e : J z = J a ||| J b) : 0 ≤ z ∧ z ≤ 255 := by
  have h1 : (J z).toBitVec.toNat < 2 ^ 8 := by
    rw [e, Int32.toBitVec_or, BitVec.toNat_or, J_nat ⟨ha.1, by omega⟩, J_nat ⟨hb.1, by omega⟩]
    exact Nat.or_lt_two_pow (by omega) (by omega)
  have h2 : (J z).toInt = z := J_toInt hz
  have h3 : (J z).toInt = (J z).toBitVec.toInt := rfl
  rw [h3, BitVec.toInt_eq_toNat_of_lt (by omega)] at h2
  omega
theorem J_sh255 {z a s : Int} (hz : inR z) (ha : 0 ≤ a ∧ a ≤ 3) (hs : s = 0 ∨ s = 2 ∨ s = 4 ∨ s = 6) (e : J z = J a <<< (J s &&& 31)) : 0 ≤ z ∧ z ≤ 255 := by
  have ha : a = 0 ∨ a = 1 ∨ a = 2 ∨ a = 3 := by omega
  have key : ∃ k : Nat, k < 256 ∧ J a <<< (J s &&& 31) = J (k : Int) := by
    rcases ha with rfl | rfl | rfl | rfl <;> rcases hs with rfl | rfl | rfl | rfl
    · exact ⟨0, by decide, by decide +kernel⟩
    · exact ⟨0, by decide, by decide +kernel⟩
    · exact ⟨0, by decide, by decide +kernel⟩
    · exact ⟨0, by decide, by decide +kernel⟩
    · exact ⟨1, by decide, by decide +kernel⟩
    · exact ⟨4, by decide, by decide +kernel⟩
    · exact ⟨16, by decide, by decide +kernel⟩
    · exact ⟨64, by decide, by decide +kernel⟩
    · exact ⟨2, by decide, by decide +kernel⟩
    · exact ⟨8, by decide, by decide +kernel⟩
    · exact ⟨32, by decide, by decide +kernel⟩
    · exact ⟨128, by decide, by decide +kernel⟩
    · exact ⟨3, by decide, by decide +kernel⟩
    · exact ⟨12, by decide, by decide +kernel⟩
    · exact ⟨48, by decide, by decide +kernel⟩
    · exact ⟨192, by decide, by decide +kernel⟩
  obtain ⟨k, hk, ek⟩ := key
  rw [ek] at e
  have := (J_inj hz ⟨by omega, by omega⟩).mp e
  omega
set_option maxHeartbeats 4000000 in
set_option maxRecDepth 100000 in
theorem c_X2_begin (l : Launch) (D : va_G) (cy : Nat → ClassId) (T : Nat → Nat → Nat) (v_0 : Nat → Nat → Int) (o : Nat) (v_n : Int) (t_o : T 0 o = 3) (r_v_n : inR v_n) : KC l D cy T yX2_begin cX2_begin 2 none 2 [.ref o, .int (J v_n)] v_0 (KV (fun (v_2 : Nat → Nat → Int) => ∃ (y64_2 : Nat → Int) (y65_2 : Nat → Int) (y66_2 : Nat → Int) (y300_2 : Nat → Int) , v_2 = upV (upV (upV (upV v_0 64 y64_2) 65 y65_2) 66 y66_2) 300 y300_2 ∧ (((y65_2 o) = 0 ∧ (y66_2 o) = 0 ∧ 0 ≤ (y64_2 o) ∧ (y64_2 o) ≤ 24) ∧ Kd_ T [61, 63] (v_0 300) y300_2))) := by
  refine KC.ofv (by decide) (Nat.le_of_ble_eq_true rfl) ?_
  intro p e s m below meth c ls ar QW A0 H0 H locs E hK hA hw hl hret
  have hl : lv_has ls 2 [(0, .ref o), (1, .int (J v_n))] := hl
  have hT : WT T := hw.1.2.1
  refine j_aload_n E 1 rfl dX2_begin_0 rfl (lv_at hl 0 rfl) ?_
  refine j_iconst E 2 rfl dX2_begin_1 ?_
  refine j_iload_n E 3 rfl dX2_begin_2 rfl (lv_at hl 1 rfl) ?_
  refine j_bipush E 5 rfl dX2_begin_3 (by decide) ?_
  refine j_min E hl.1 ml_X2_34 r_v_n (rr (by decide)) ⟨Nat.le_of_ble_eq_true rfl, Nat.le_of_ble_eq_true rfl⟩ ⟨Nat.le_of_ble_eq_true rfl, Nat.le_of_ble_eq_true rfl⟩ 8 rfl dX2_begin_5 (fun zz1_ rr1_ hh1_ => ?_)
  refine j_max E hl.1 ml_X2_40 (rr (by decide)) rr1_ ⟨Nat.le_of_ble_eq_true rfl, Nat.le_of_ble_eq_true rfl⟩ ⟨Nat.le_of_ble_eq_true rfl, Nat.le_of_ble_eq_true rfl⟩ 11 rfl dX2_begin_8 (fun zz2_ rr2_ hh2_ => ?_)
  refine p_64 E hK hw fl_X2_24 t_o rr2_ 14 rfl dX2_begin_11 (fun H locs hw => ?_)
  have hw : WK D cy T (upV v_0 64 (upB (v_0 64) o zz2_)) A0 H0 H locs := cw_eq hw (by first | rfl | (funext j_; simp only [upV, reduceIte]; (repeat' split) <;> first | rfl | omega | (subst_vars; rfl)))
  refine j_aload_n E 15 rfl dX2_begin_14 rfl (lv_at hl 0 rfl) ?_
  refine j_iconst E 16 rfl dX2_begin_15 ?_
  refine p_65 E hK hw fl_X2_28 t_o (rr (by decide)) 19 rfl dX2_begin_16 (fun H locs hw => ?_)
  have hw : WK D cy T (upV (upV v_0 64 (upB (v_0 64) o zz2_)) 65 (upB (v_0 65) o 0)) A0 H0 H locs := cw_eq hw (by first | rfl | (funext j_; simp only [upV, reduceIte]; (repeat' split) <;> first | rfl | omega | (subst_vars; rfl)))
  refine j_aload_n E 20 rfl dX2_begin_19 rfl (lv_at hl 0 rfl) ?_
  refine j_iconst E 21 rfl dX2_begin_20 ?_
  refine p_66 E hK hw fl_X2_31 t_o (rr (by decide)) 24 rfl dX2_begin_21 (fun H locs hw => ?_)
  have hw : WK D cy T (upV (upV (upV v_0 64 (upB (v_0 64) o zz2_)) 65 (upB (v_0 65) o 0)) 66 (upB (v_0 66) o 0)) A0 H0 H locs := cw_eq hw (by first | rfl | (funext j_; simp only [upV, reduceIte]; (repeat' split) <;> first | rfl | omega | (subst_vars; rfl)))
  refine j_aload_n E 25 rfl dX2_begin_24 rfl (lv_at hl 0 rfl) ?_
  refine g_61 E hK hw fl_X2_15 t_o 28 rfl dX2_begin_25 ?_
  have ln6_ := wl_61 hT t_o
  refine j_iconst E 29 rfl dX2_begin_28 ?_
  refine kS_v E (c_J7_fill_53178 l D cy T (upV (upV (upV v_0 64 (upB (v_0 64) o zz2_)) 65 (upB (v_0 65) o 0)) 66 (upB (v_0 66) o 0)) (T 61 o) 0   (wt_61 hT t_o) (rr (by decide)) ) ms_J7_fill_53178 ml_X2_43 hK hw hA ⟨Nat.le_of_ble_eq_true rfl, Nat.le_of_ble_eq_true rfl⟩ ⟨Nat.le_of_ble_eq_true rfl, Nat.le_of_ble_eq_true rfl⟩ (As := [.ref (T 61 o), .int (J 0)]) (rest := []) rfl rfl hl.1 (Nat.le_of_ble_eq_true rfl) 32 rfl dX2_begin_29 (fun v_7 H locs hq7_ hw => ?_)
  obtain ⟨y300_7, ev7_, hh7_⟩ := hq7_
  rw [ev7_] at hw; clear ev7_
  have hw : WK D cy T (upV (upV (upV (upV v_0 64 (upB (v_0 64) o zz2_)) 65 (upB (v_0 65) o 0)) 66 (upB (v_0 66) o 0)) 300 y300_7) A0 H0 H locs := cw_eq hw (by first | rfl | (funext j_; simp only [upV, reduceIte]; (repeat' split) <;> first | rfl | omega | (subst_vars; rfl)))
  obtain ⟨hh7_, kf7_⟩ := hh7_
  replace hh7_ : ∀ j_, 0 ≤ j_ → j_ < (T 1 (T 61 o) : Int) → gC_ (y300_7) (T 61 o) j_ = (0 : Int) := hh7_
  refine j_aload_n E 33 rfl dX2_begin_32 rfl (lv_at hl 0 rfl) ?_
  refine g_63 E hK hw fl_X2_21 t_o 36 rfl dX2_begin_33 ?_
  have ln8_ := wl_63 hT t_o
  refine j_iconst E 37 rfl dX2_begin_36 ?_
  refine kS_v E (c_J7_fill_53178 l D cy T (upV (upV (upV (upV v_0 64 (upB (v_0 64) o zz2_)) 65 (upB (v_0 65) o 0)) 66 (upB (v_0 66) o 0)) 300 y300_7) (T 63 o) ((-1))   (wt_63 hT t_o) (rr (by decide)) ) ms_J7_fill_53178 ml_X2_43 hK hw hA ⟨Nat.le_of_ble_eq_true rfl, Nat.le_of_ble_eq_true rfl⟩ ⟨Nat.le_of_ble_eq_true rfl, Nat.le_of_ble_eq_true rfl⟩ (As := [.ref (T 63 o), .int (J ((-1)))]) (rest := []) rfl rfl hl.1 (Nat.le_of_ble_eq_true rfl) 40 rfl dX2_begin_37 (fun v_9 H locs hq9_ hw => ?_)
  obtain ⟨y300_9, ev9_, hh9_⟩ := hq9_
  rw [ev9_] at hw; clear ev9_
  have hw : WK D cy T (upV (upV (upV (upV v_0 64 (upB (v_0 64) o zz2_)) 65 (upB (v_0 65) o 0)) 66 (upB (v_0 66) o 0)) 300 y300_9) A0 H0 H locs := cw_eq hw (by first | rfl | (funext j_; simp only [upV, reduceIte]; (repeat' split) <;> first | rfl | omega | (subst_vars; rfl)))
  obtain ⟨hh9_, kf9_⟩ := hh9_
  replace hh9_ : ∀ j_, 0 ≤ j_ → j_ < (T 1 (T 63 o) : Int) → gC_ (y300_9) (T 63 o) j_ = (-1 : Int) := hh9_
  exact hret 40 (upV (upV (upV (upV v_0 64 (upB (v_0 64) o zz2_)) 65 (upB (v_0 65) o 0)) 66 (upB (v_0 66) o 0)) 300 y300_9) _ _ ls hw ⟨(upB (v_0 64) o zz2_), (upB (v_0 65) o 0), (upB (v_0 66) o 0), y300_9, rfl, ⟨⟨upB_same _ _ _, upB_same _ _ _, by rw [upB_same]; omega, by rw [upB_same]; omega⟩, (Kd_tr (Kd_tr Kd_rf (Kd_ro kf7_ (wok (wo_61 hT t_o) (by decide)) (by decide))) (Kd_ro kf9_ (wok (wo_63 hT t_o) (by decide)) (by decide)))⟩⟩ dX2_begin_40
set_option maxHeartbeats 4000000 in
set_option maxRecDepth 100000 in
theorem c_X2_addLine (l : Launch) (D : va_G) (cy : Nat → ClassId) (T : Nat → Nat → Nat) (v_0 : Nat → Nat → Int) (o : Nat) (v_l : Int) (v_w : Int) (t_o : T 0 o = 3) (r_v_l : inR v_l) (r_v_w : inR v_w) (hp0 : 0 ≤ (v_0 66 o) ∧ (v_0 66 o) ≤ 255 ∧ 0 ≤ (v_0 65 o) ∧ (v_0 65 o) ≤ 4) : KC l D cy T yX2_addLine cX2_addLine 3 none 1 [.ref o, .int (J v_l), .int (J v_w)] v_0 (KV (fun (v_2 : Nat → Nat → Int) => ∃ (y65_2 : Nat → Int) (y66_2 : Nat → Int) (y300_2 : Nat → Int) , v_2 = upV (upV (upV v_0 65 y65_2) 66 y66_2) 300 y300_2 ∧ ((0 ≤ (y66_2 o) ∧ (y66_2 o) ≤ 255 ∧ 0 ≤ (y65_2 o) ∧ (y65_2 o) ≤ 4) ∧ Kd_ T [62] (v_0 300) y300_2))) := by
  refine KC.ofv (by decide) (Nat.le_of_ble_eq_true rfl) ?_
  intro p e s m below meth c ls ar QW A0 H0 H locs E hK hA hw hl hret
  have hl : lv_has ls 3 [(0, .ref o), (1, .int (J v_l)), (2, .int (J v_w))] := hl
  have hT : WT T := hw.1.2.1
  refine j_aload_n E 1 rfl dX2_addLine_0 rfl (lv_at hl 0 rfl) ?_
  refine g_65 E hK hw fl_X2_28 t_o (v_0 65 o) rfl 4 rfl dX2_addLine_1 (fun rr1_ => ?_)
  refine j_if_lt E 7 58 rfl rr1_ dX2_addLine_4 (by decide) (fun cc2_ => ?_) (fun cc2_ => ?_)
  · exact hret 58 (upV (upV (upV v_0 65 (v_0 65)) 66 (v_0 66)) 300 (v_0 300)) _ _ ls (cw_eq hw (by first | rfl | (funext j_; simp only [upV, reduceIte]; (repeat' split) <;> first | rfl | omega | (subst_vars; rfl)))) ⟨(v_0 65), (v_0 66), (v_0 300), rfl, ⟨by first | omega | (simp only [upB_same]; omega), Kd_rf⟩⟩ dX2_addLine_58
  · refine j_aload_n E 8 rfl dX2_addLine_7 rfl (lv_at hl 0 rfl) ?_
    refine g_65 E hK hw fl_X2_28 t_o (v_0 65 o) rfl 11 rfl dX2_addLine_8 (fun _ => ?_)
    refine j_aload_n E 12 rfl dX2_addLine_11 rfl (lv_at hl 0 rfl) ?_
    refine g_62 E hK hw fl_X2_18 t_o 15 rfl dX2_addLine_12 ?_
    have ln3_ := wl_62 hT t_o
    refine a_ln20 E hK hw (wt_62 hT t_o) 16 rfl dX2_addLine_15 (fun rr4_ => ?_)
    refine j_icmp_ge E 19 58 rfl rr1_ rr4_ dX2_addLine_16 (by decide) (fun cc5_ => ?_) (fun cc5_ => ?_)
    · exact hret 58 (upV (upV (upV v_0 65 (v_0 65)) 66 (v_0 66)) 300 (v_0 300)) _ _ ls (cw_eq hw (by first | rfl | (funext j_; simp only [upV, reduceIte]; (repeat' split) <;> first | rfl | omega | (subst_vars; rfl)))) ⟨(v_0 65), (v_0 66), (v_0 300), rfl, ⟨by first | omega | (simp only [upB_same]; omega), Kd_rf⟩⟩ dX2_addLine_58
    · refine j_aload_n E 20 rfl dX2_addLine_19 rfl (lv_at hl 0 rfl) ?_
      refine g_62 E hK hw fl_X2_18 t_o 23 rfl dX2_addLine_20 ?_
      refine j_aload_n E 24 rfl dX2_addLine_23 rfl (lv_at hl 0 rfl) ?_
      refine g_65 E hK hw fl_X2_28 t_o (v_0 65 o) rfl 27 rfl dX2_addLine_24 (fun _ => ?_)
      refine j_iload_n E 28 rfl dX2_addLine_27 rfl (lv_at hl 1 rfl) ?_
      refine a_st20 E hK hw (wt_62 hT t_o) r_v_l (by omega) 29 rfl dX2_addLine_28 (fun H locs hw => ?_)
      have hw : WK D cy T (upV v_0 300 (upB (v_0 300) ((pr (T 62 o) (Int.toNat (v_0 65 o)))) v_l)) A0 H0 H locs := cw_eq hw (by first | rfl | (funext j_; simp only [upV, reduceIte]; (repeat' split) <;> first | rfl | omega | (subst_vars; rfl)))
      refine j_aload_n E 30 rfl dX2_addLine_29 rfl (lv_at hl 0 rfl) ?_
      refine j_dup E 31 rfl dX2_addLine_30 rfl ?_
      refine g_66 E hK hw fl_X2_31 t_o (v_0 66 o) rfl 34 rfl dX2_addLine_31 (fun rr7_ => ?_)
      refine j_iload_n E 35 rfl dX2_addLine_34 rfl (lv_at hl 2 rfl) ?_
      refine j_iconst E 36 rfl dX2_addLine_35 ?_
      refine j_iand E 37 rfl dX2_addLine_36 (fun zz8_ rr8_ ee8_ => ?_)
      have a3_ := J_and3 rr8_ ee8_
      refine j_iconst E 38 rfl dX2_addLine_37 ?_
      refine j_aload_n E 39 rfl dX2_addLine_38 rfl (lv_at hl 0 rfl) ?_
      refine g_65 E hK hw fl_X2_28 t_o (v_0 65 o) rfl 42 rfl dX2_addLine_39 (fun _ => ?_)
      refine j_imul E 43 rfl dX2_addLine_42 ?_
      refine j_ishl E 44 rfl dX2_addLine_43 (fun zz9_ rr9_ ee9_ => ?_)
      have s3_ := J_sh255 rr9_ a3_ (by omega) ee9_
      refine j_ior E 45 rfl dX2_addLine_44 (fun zz10_ rr10_ ee10_ => ?_)
      have w3_ := J_or255 rr10_ (by omega) s3_ ee10_
      refine p_66 E hK hw fl_X2_31 t_o rr10_ 48 rfl dX2_addLine_45 (fun H locs hw => ?_)
      have hw : WK D cy T (upV (upV v_0 66 (upB (v_0 66) o zz10_)) 300 (upB (v_0 300) ((pr (T 62 o) (Int.toNat (v_0 65 o)))) v_l)) A0 H0 H locs := cw_eq hw (by first | rfl | (funext j_; simp only [upV, reduceIte]; (repeat' split) <;> first | rfl | omega | (subst_vars; rfl)))
      refine j_aload_n E 49 rfl dX2_addLine_48 rfl (lv_at hl 0 rfl) ?_
      refine j_dup E 50 rfl dX2_addLine_49 rfl ?_
      refine g_65 E hK hw fl_X2_28 t_o (v_0 65 o) rfl 53 rfl dX2_addLine_50 (fun _ => ?_)
      refine j_iconst E 54 rfl dX2_addLine_53 ?_
      refine j_iadd E 55 rfl dX2_addLine_54 ?_
      refine p_65 E hK hw fl_X2_28 t_o (rr (by omega)) 58 rfl dX2_addLine_55 (fun H locs hw => ?_)
      have hw : WK D cy T (upV (upV (upV v_0 65 (upB (v_0 65) o ((v_0 65 o) + 1))) 66 (upB (v_0 66) o zz10_)) 300 (upB (v_0 300) ((pr (T 62 o) (Int.toNat (v_0 65 o)))) v_l)) A0 H0 H locs := cw_eq hw (by first | rfl | (funext j_; simp only [upV, reduceIte]; (repeat' split) <;> first | rfl | omega | (subst_vars; rfl)))
      exact hret 58 (upV (upV (upV v_0 65 (upB (v_0 65) o ((v_0 65 o) + 1))) 66 (upB (v_0 66) o zz10_)) 300 (upB (v_0 300) ((pr (T 62 o) (Int.toNat (v_0 65 o)))) v_l)) _ _ ls hw ⟨(upB (v_0 65) o ((v_0 65 o) + 1)), (upB (v_0 66) o zz10_), (upB (v_0 300) ((pr (T 62 o) (Int.toNat (v_0 65 o)))) v_l), rfl, ⟨by first | omega | (simp only [upB_same]; omega), (Kd_tr Kd_rf (Kd_up (wok (wo_62 hT t_o) (by decide)) (by decide)))⟩⟩ dX2_addLine_58
set_option maxHeartbeats 4000000 in
set_option maxRecDepth 100000 in
theorem c_X2_putPrice (l : Launch) (D : va_G) (cy : Nat → ClassId) (T : Nat → Nat → Nat) (v_0 : Nat → Nat → Int) (o : Nat) (v_p : Int) (v_x : Int) (t_o : T 0 o = 3) (r_v_p : inR v_p) (r_v_x : inR v_x) : KC l D cy T yX2_putPrice cX2_putPrice 4 none 1 [.ref o, .int (J v_p), .int (J v_x)] v_0 (KV (fun (v_2 : Nat → Nat → Int) => ∃ (y300_2 : Nat → Int) , v_2 = upV v_0 300 y300_2 ∧ ((True) ∧ Kd_ T [61] (v_0 300) y300_2))) := by
  refine KC.ofv (by decide) (Nat.le_of_ble_eq_true rfl) ?_
  intro p e s m below meth c ls ar QW A0 H0 H locs E hK hA hw hl hret
  have hl : lv_has ls 4 [(0, .ref o), (1, .int (J v_p)), (2, .int (J v_x))] := hl
  have hT : WT T := hw.1.2.1
  refine j_iload_n E 1 rfl dX2_putPrice_0 rfl (lv_at hl 1 rfl) ?_
  refine j_iconst E 2 rfl dX2_putPrice_1 ?_
  refine j_imul E 3 rfl dX2_putPrice_2 ?_
  refine j_norm (fun zz1_ rr1_ ee1_ => ?_)
  refine j_aload_n E 4 rfl dX2_putPrice_3 rfl (lv_at hl 0 rfl) ?_
  refine g_65 E hK hw fl_X2_28 t_o (v_0 65 o) rfl 7 rfl dX2_putPrice_4 (fun rr2_ => ?_)
  refine j_iadd E 8 rfl dX2_putPrice_7 ?_
  refine j_norm (fun zz3_ rr3_ ee3_ => ?_)
  refine j_iconst E 9 rfl dX2_putPrice_8 ?_
  refine j_isub E 10 rfl dX2_putPrice_9 ?_
  refine j_norm (fun zz4_ rr4_ ee4_ => ?_)
  refine j_istore_n E 11 rfl [(3, .int (J zz4_)), (0, .ref o), (1, .int (J v_p)), (2, .int (J v_x))] dX2_putPrice_10 rfl hl (by decide) rfl (fun ls hl => ?_)
  refine j_iload_n E 12 rfl dX2_putPrice_11 rfl (lv_at hl 0 rfl) ?_
  refine j_if_lt E 15 31 rfl rr4_ dX2_putPrice_12 (by decide) (fun cc5_ => ?_) (fun cc5_ => ?_)
  · exact hret 31 (upV v_0 300 (v_0 300)) _ _ ls (cw_eq hw (by first | rfl | (funext j_; simp only [upV, reduceIte]; (repeat' split) <;> first | rfl | omega | (subst_vars; rfl)))) ⟨(v_0 300), rfl, ⟨trivial, Kd_rf⟩⟩ dX2_putPrice_31
  · refine j_iload_n E 16 rfl dX2_putPrice_15 rfl (lv_at hl 0 rfl) ?_
    refine j_aload_n E 17 rfl dX2_putPrice_16 rfl (lv_at hl 1 rfl) ?_
    refine g_61 E hK hw fl_X2_15 t_o 20 rfl dX2_putPrice_17 ?_
    have ln6_ := wl_61 hT t_o
    refine a_ln20 E hK hw (wt_61 hT t_o) 21 rfl dX2_putPrice_20 (fun rr7_ => ?_)
    refine j_icmp_ge E 24 31 rfl rr4_ rr7_ dX2_putPrice_21 (by decide) (fun cc8_ => ?_) (fun cc8_ => ?_)
    · exact hret 31 (upV v_0 300 (v_0 300)) _ _ ls (cw_eq hw (by first | rfl | (funext j_; simp only [upV, reduceIte]; (repeat' split) <;> first | rfl | omega | (subst_vars; rfl)))) ⟨(v_0 300), rfl, ⟨trivial, Kd_rf⟩⟩ dX2_putPrice_31
    · refine j_aload_n E 25 rfl dX2_putPrice_24 rfl (lv_at hl 1 rfl) ?_
      refine g_61 E hK hw fl_X2_15 t_o 28 rfl dX2_putPrice_25 ?_
      refine j_iload_n E 29 rfl dX2_putPrice_28 rfl (lv_at hl 0 rfl) ?_
      refine j_iload_n E 30 rfl dX2_putPrice_29 rfl (lv_at hl 3 rfl) ?_
      refine a_st20 E hK hw (wt_61 hT t_o) r_v_x (by omega) 31 rfl dX2_putPrice_30 (fun H locs hw => ?_)
      have hw : WK D cy T (upV v_0 300 (upB (v_0 300) ((pr (T 61 o) (Int.toNat zz4_))) v_x)) A0 H0 H locs := cw_eq hw (by first | rfl | (funext j_; simp only [upV, reduceIte]; (repeat' split) <;> first | rfl | omega | (subst_vars; rfl)))
      exact hret 31 (upV v_0 300 (upB (v_0 300) ((pr (T 61 o) (Int.toNat zz4_))) v_x)) _ _ ls hw ⟨(upB (v_0 300) ((pr (T 61 o) (Int.toNat zz4_))) v_x), rfl, ⟨trivial, (Kd_tr Kd_rf (Kd_up (wok (wo_61 hT t_o) (by decide)) (by decide)))⟩⟩ dX2_putPrice_31
set_option maxHeartbeats 4000000 in
set_option maxRecDepth 100000 in
theorem c_X2_costFrom (l : Launch) (D : va_G) (cy : Nat → ClassId) (T : Nat → Nat → Nat) (v_0 : Nat → Nat → Int) (o : Nat) (v_p : Int) (v_s : Int) (t_o : T 0 o = 3) (r_v_p : inR v_p) (r_v_s : inR v_s) : KC l D cy T yX2_costFrom cX2_costFrom 4 (some .int) 1 [.ref o, .int (J v_p), .int (J v_s)] v_0 (KI (fun (z_0 : Int) (v_2 : Nat → Nat → Int) => v_2 = v_0 ∧ (True))) := by
  refine KC.ofi (by decide) (Nat.le_of_ble_eq_true rfl) ?_
  intro p e s m below meth c ls ar QW A0 H0 H locs E hK hA hw hl hret
  have hl : lv_has ls 4 [(0, .ref o), (1, .int (J v_p)), (2, .int (J v_s))] := hl
  have hT : WT T := hw.1.2.1
  refine j_iload_n E 1 rfl dX2_costFrom_0 rfl (lv_at hl 1 rfl) ?_
  refine j_sipush E 4 rfl dX2_costFrom_1 (by decide) ?_
  refine j_imul E 5 rfl dX2_costFrom_4 ?_
  refine j_norm (fun zz1_ rr1_ ee1_ => ?_)
  refine j_iload_n E 6 rfl dX2_costFrom_5 rfl (lv_at hl 2 rfl) ?_
  refine j_iadd E 7 rfl dX2_costFrom_6 ?_
  refine j_norm (fun zz2_ rr2_ ee2_ => ?_)
  refine j_istore_n E 8 rfl [(3, .int (J zz2_)), (0, .ref o), (1, .int (J v_p)), (2, .int (J v_s))] dX2_costFrom_7 rfl hl (by decide) rfl (fun ls hl => ?_)
  refine j_iload_n E 9 rfl dX2_costFrom_8 rfl (lv_at hl 0 rfl) ?_
  refine j_if_lt E 12 30 rfl rr2_ dX2_costFrom_9 (by decide) (fun cc3_ => ?_) (fun cc3_ => ?_)
  · refine j_sipush E 33 rfl dX2_costFrom_30 (by decide) ?_
    exact hret 33 1000 (v_0) _ _ ls hw (rr (by decide)) ⟨rfl, trivial⟩ dX2_costFrom_33
  · refine j_iload_n E 13 rfl dX2_costFrom_12 rfl (lv_at hl 0 rfl) ?_
    refine j_aload_n E 14 rfl dX2_costFrom_13 rfl (lv_at hl 1 rfl) ?_
    refine g_60 E hK hw fl_X2_11 t_o 17 rfl dX2_costFrom_14 ?_
    have ln4_ := wl_60 hT t_o
    refine a_ln20 E hK hw (wt_60 hT t_o) 18 rfl dX2_costFrom_17 (fun rr5_ => ?_)
    refine j_icmp_ge E 21 30 rfl rr2_ rr5_ dX2_costFrom_18 (by decide) (fun cc6_ => ?_) (fun cc6_ => ?_)
    · refine j_sipush E 33 rfl dX2_costFrom_30 (by decide) ?_
      exact hret 33 1000 (v_0) _ _ ls hw (rr (by decide)) ⟨rfl, trivial⟩ dX2_costFrom_33
    · refine j_aload_n E 22 rfl dX2_costFrom_21 rfl (lv_at hl 1 rfl) ?_
      refine g_60 E hK hw fl_X2_11 t_o 25 rfl dX2_costFrom_22 ?_
      refine j_iload_n E 26 rfl dX2_costFrom_25 rfl (lv_at hl 0 rfl) ?_
      refine a_ld20 E hK hw (wt_60 hT t_o) (by omega) 27 rfl dX2_costFrom_26 (fun zz7_ he7_ rr7_ => ?_)
      refine j_goto E 33 dX2_costFrom_27 (by decide) ?_
      exact hret 33 zz7_ (v_0) _ _ ls hw rr7_ ⟨rfl, trivial⟩ dX2_costFrom_33
set_option maxHeartbeats 4000000 in
set_option maxRecDepth 100000 in
theorem c_X2_putCost (l : Launch) (D : va_G) (cy : Nat → ClassId) (T : Nat → Nat → Nat) (v_0 : Nat → Nat → Int) (o : Nat) (v_p : Int) (v_s : Int) (v_c : Int) (t_o : T 0 o = 3) (r_v_p : inR v_p) (r_v_s : inR v_s) (r_v_c : inR v_c) : KC l D cy T yX2_putCost cX2_putCost 5 none 1 [.ref o, .int (J v_p), .int (J v_s), .int (J v_c)] v_0 (KV (fun (v_2 : Nat → Nat → Int) => ∃ (y300_2 : Nat → Int) , v_2 = upV v_0 300 y300_2 ∧ ((True) ∧ Kd_ T [60] (v_0 300) y300_2))) := by
  refine KC.ofv (by decide) (Nat.le_of_ble_eq_true rfl) ?_
  intro p e s m below meth c ls ar QW A0 H0 H locs E hK hA hw hl hret
  have hl : lv_has ls 5 [(0, .ref o), (1, .int (J v_p)), (2, .int (J v_s)), (3, .int (J v_c))] := hl
  have hT : WT T := hw.1.2.1
  refine j_iload_n E 1 rfl dX2_putCost_0 rfl (lv_at hl 1 rfl) ?_
  refine j_sipush E 4 rfl dX2_putCost_1 (by decide) ?_
  refine j_imul E 5 rfl dX2_putCost_4 ?_
  refine j_norm (fun zz1_ rr1_ ee1_ => ?_)
  refine j_iload_n E 6 rfl dX2_putCost_5 rfl (lv_at hl 2 rfl) ?_
  refine j_iadd E 7 rfl dX2_putCost_6 ?_
  refine j_norm (fun zz2_ rr2_ ee2_ => ?_)
  refine j_istore E 9 rfl [(4, .int (J zz2_)), (0, .ref o), (1, .int (J v_p)), (2, .int (J v_s)), (3, .int (J v_c))] dX2_putCost_7 hl (by decide) rfl (fun ls hl => ?_)
  refine j_iload E 11 rfl dX2_putCost_9 (lv_at hl 0 rfl) ?_
  refine j_if_lt E 14 32 rfl rr2_ dX2_putCost_11 (by decide) (fun cc3_ => ?_) (fun cc3_ => ?_)
  · exact hret 32 (upV v_0 300 (v_0 300)) _ _ ls (cw_eq hw (by first | rfl | (funext j_; simp only [upV, reduceIte]; (repeat' split) <;> first | rfl | omega | (subst_vars; rfl)))) ⟨(v_0 300), rfl, ⟨trivial, Kd_rf⟩⟩ dX2_putCost_32
  · refine j_iload E 16 rfl dX2_putCost_14 (lv_at hl 0 rfl) ?_
    refine j_aload_n E 17 rfl dX2_putCost_16 rfl (lv_at hl 1 rfl) ?_
    refine g_60 E hK hw fl_X2_11 t_o 20 rfl dX2_putCost_17 ?_
    have ln4_ := wl_60 hT t_o
    refine a_ln20 E hK hw (wt_60 hT t_o) 21 rfl dX2_putCost_20 (fun rr5_ => ?_)
    refine j_icmp_ge E 24 32 rfl rr2_ rr5_ dX2_putCost_21 (by decide) (fun cc6_ => ?_) (fun cc6_ => ?_)
    · exact hret 32 (upV v_0 300 (v_0 300)) _ _ ls (cw_eq hw (by first | rfl | (funext j_; simp only [upV, reduceIte]; (repeat' split) <;> first | rfl | omega | (subst_vars; rfl)))) ⟨(v_0 300), rfl, ⟨trivial, Kd_rf⟩⟩ dX2_putCost_32
    · refine j_aload_n E 25 rfl dX2_putCost_24 rfl (lv_at hl 1 rfl) ?_
      refine g_60 E hK hw fl_X2_11 t_o 28 rfl dX2_putCost_25 ?_
      refine j_iload E 30 rfl dX2_putCost_28 (lv_at hl 0 rfl) ?_
      refine j_iload_n E 31 rfl dX2_putCost_30 rfl (lv_at hl 4 rfl) ?_
      refine a_st20 E hK hw (wt_60 hT t_o) r_v_c (by omega) 32 rfl dX2_putCost_31 (fun H locs hw => ?_)
      have hw : WK D cy T (upV v_0 300 (upB (v_0 300) ((pr (T 60 o) (Int.toNat zz2_))) v_c)) A0 H0 H locs := cw_eq hw (by first | rfl | (funext j_; simp only [upV, reduceIte]; (repeat' split) <;> first | rfl | omega | (subst_vars; rfl)))
      exact hret 32 (upV v_0 300 (upB (v_0 300) ((pr (T 60 o) (Int.toNat zz2_))) v_c)) _ _ ls hw ⟨(upB (v_0 300) ((pr (T 60 o) (Int.toNat zz2_))) v_c), rfl, ⟨trivial, (Kd_tr Kd_rf (Kd_up (wok (wo_60 hT t_o) (by decide)) (by decide)))⟩⟩ dX2_putCost_32
set_option maxHeartbeats 4000000 in
set_option maxRecDepth 100000 in
theorem c_X2_costWith (l : Launch) (D : va_G) (cy : Nat → ClassId) (T : Nat → Nat → Nat) (v_0 : Nat → Nat → Int) (o : Nat) (v_p : Int) (v_j : Int) (v_s : Int) (t_o : T 0 o = 3) (r_v_p : inR v_p) (r_v_j : inR v_j) (r_v_s : inR v_s) : KC l D cy T yX2_costWith cX2_costWith 6 (some .int) 2 [.ref o, .int (J v_p), .int (J v_j), .int (J v_s)] v_0 (KI (fun (z_0 : Int) (v_2 : Nat → Nat → Int) => v_2 = v_0 ∧ (True))) := by
  refine KC.ofi (by decide) (Nat.le_of_ble_eq_true rfl) ?_
  intro p e s m below meth c ls ar QW A0 H0 H locs E hK hA hw hl hret
  have hl : lv_has ls 6 [(0, .ref o), (1, .int (J v_p)), (2, .int (J v_j)), (3, .int (J v_s))] := hl
  have hT : WT T := hw.1.2.1
  refine j_iload_n E 1 rfl dX2_costWith_0 rfl (lv_at hl 1 rfl) ?_
  refine j_iconst E 2 rfl dX2_costWith_1 ?_
  refine j_imul E 3 rfl dX2_costWith_2 ?_
  refine j_norm (fun zz1_ rr1_ ee1_ => ?_)
  refine j_iload_n E 4 rfl dX2_costWith_3 rfl (lv_at hl 2 rfl) ?_
  refine j_iadd E 5 rfl dX2_costWith_4 ?_
  refine j_norm (fun zz2_ rr2_ ee2_ => ?_)
  refine j_istore E 7 rfl [(4, .int (J zz2_)), (0, .ref o), (1, .int (J v_p)), (2, .int (J v_j)), (3, .int (J v_s))] dX2_costWith_5 hl (by decide) rfl (fun ls hl => ?_)
  have L33_3 : ∀ (s0_33 : Int) (H : Heap) (locs : List Loc) (ls : Array Slot), inR s0_33 → (True) → WK D cy T (v_0) A0 H0 H locs → lv_has ls 6 [(0, .ref o), (1, .int (J v_p)), (2, .int (J v_j)), (3, .int (J v_s)), (4, .int (J zz2_))] → W p l e (rmd 2 0 0) s m ar below meth c H locs 0 0 QW (F0 m 33 ls [.int (J s0_33)]) := by
    intro s0_33 H locs ls r_s0_33 iv33 hw hl
    refine j_istore E 35 rfl [(5, .int (J s0_33)), (0, .ref o), (1, .int (J v_p)), (2, .int (J v_j)), (3, .int (J v_s)), (4, .int (J zz2_))] dX2_costWith_33 hl (by decide) rfl (fun ls hl => ?_)
    refine j_iload E 37 rfl dX2_costWith_35 (lv_at hl 0 rfl) ?_
    refine j_if_eq E 40 50 rfl r_s0_33 dX2_costWith_37 (by decide) (fun cc5_ => ?_) (fun cc5_ => ?_)
    · refine j_sipush E 53 rfl dX2_costWith_50 (by decide) ?_
      exact hret 53 1000 (v_0) _ _ ls hw (rr (by decide)) ⟨rfl, trivial⟩ dX2_costWith_53
    · refine j_iload_n E 41 rfl dX2_costWith_40 rfl (lv_at hl 4 rfl) ?_
      refine j_iconst E 42 rfl dX2_costWith_41 ?_
      refine j_iload_n E 43 rfl dX2_costWith_42 rfl (lv_at hl 3 rfl) ?_
      refine j_imul E 44 rfl dX2_costWith_43 ?_
      refine j_norm (fun zz6_ rr6_ ee6_ => ?_)
      refine j_iushr E 45 rfl dX2_costWith_44 (fun zz7_ rr7_ ee7_ => ?_)
      refine j_iconst E 46 rfl dX2_costWith_45 ?_
      refine j_iand E 47 rfl dX2_costWith_46 (fun zz8_ rr8_ ee8_ => ?_)
      refine j_if_ne E 50 54 rfl rr8_ dX2_costWith_47 (by decide) (fun cc9_ => ?_) (fun cc9_ => ?_)
      · refine j_sipush E 57 rfl dX2_costWith_54 (by decide) ?_
        refine j_iload E 59 rfl dX2_costWith_57 (lv_at hl 0 rfl) ?_
        refine j_aload_n E 60 rfl dX2_costWith_59 rfl (lv_at hl 1 rfl) ?_
        refine j_iload_n E 61 rfl dX2_costWith_60 rfl (lv_at hl 2 rfl) ?_
        refine j_iconst E 62 rfl dX2_costWith_61 ?_
        refine j_iadd E 63 rfl dX2_costWith_62 ?_
        refine j_norm (fun zz10_ rr10_ ee10_ => ?_)
        refine j_iload_n E 64 rfl dX2_costWith_63 rfl (lv_at hl 4 rfl) ?_
        refine j_iconst E 65 rfl dX2_costWith_64 ?_
        refine j_iconst E 66 rfl dX2_costWith_65 ?_
        refine j_iload_n E 67 rfl dX2_costWith_66 rfl (lv_at hl 3 rfl) ?_
        refine j_imul E 68 rfl dX2_costWith_67 ?_
        refine j_norm (fun zz11_ rr11_ ee11_ => ?_)
        refine j_ishl E 69 rfl dX2_costWith_68 (fun zz12_ rr12_ ee12_ => ?_)
        refine j_isub E 70 rfl dX2_costWith_69 ?_
        refine j_norm (fun zz13_ rr13_ ee13_ => ?_)
        refine kV_i E (c_X2_costFrom l D cy T (v_0) o zz10_ zz13_  t_o rr10_ rr13_ ) mt_X2_costFrom ml_X2_63 hK hw (cw_rc3 hK hw.1 t_o) hA ⟨Nat.le_of_ble_eq_true rfl, Nat.le_of_ble_eq_true rfl⟩ ⟨Nat.le_of_ble_eq_true rfl, Nat.le_of_ble_eq_true rfl⟩ (As := [.int (J zz10_), .int (J zz13_)]) (rest := [.int (J s0_33), .int (J 1000)]) rfl rfl hl.1 (Nat.le_of_ble_eq_true rfl) 73 rfl dX2_costWith_70 (fun zz14_ v_14 H locs rr14_ hq14_ hw => ?_)
        obtain ⟨ev14_, hh14_⟩ := hq14_
        rw [ev14_] at hw; clear ev14_
        refine j_iadd E 74 rfl dX2_costWith_73 ?_
        refine j_norm (fun zz15_ rr15_ ee15_ => ?_)
        refine j_min E hl.1 ml_X2_34 (rr (by decide)) rr15_ ⟨Nat.le_of_ble_eq_true rfl, Nat.le_of_ble_eq_true rfl⟩ ⟨Nat.le_of_ble_eq_true rfl, Nat.le_of_ble_eq_true rfl⟩ 77 rfl dX2_costWith_74 (fun zz16_ rr16_ hh16_ => ?_)
        exact hret 77 zz16_ (v_0) _ _ ls hw rr16_ ⟨rfl, trivial⟩ dX2_costWith_77
      · refine j_sipush E 53 rfl dX2_costWith_50 (by decide) ?_
        exact hret 53 1000 (v_0) _ _ ls hw (rr (by decide)) ⟨rfl, trivial⟩ dX2_costWith_53
  refine j_iload E 9 rfl dX2_costWith_7 (lv_at hl 0 rfl) ?_
  refine j_if_lt E 12 32 rfl rr2_ dX2_costWith_9 (by decide) (fun cc17_ => ?_) (fun cc17_ => ?_)
  · refine j_iconst E 33 rfl dX2_costWith_32 ?_
    exact L33_3 0  H locs ls (rr (by decide)) (trivial) hw (lv_sub hl [1, 2, 3, 4, 0] rfl)
  · refine j_iload E 14 rfl dX2_costWith_12 (lv_at hl 0 rfl) ?_
    refine j_aload_n E 15 rfl dX2_costWith_14 rfl (lv_at hl 1 rfl) ?_
    refine g_61 E hK hw fl_X2_15 t_o 18 rfl dX2_costWith_15 ?_
    have ln18_ := wl_61 hT t_o
    refine a_ln20 E hK hw (wt_61 hT t_o) 19 rfl dX2_costWith_18 (fun rr19_ => ?_)
    refine j_icmp_ge E 22 32 rfl rr2_ rr19_ dX2_costWith_19 (by decide) (fun cc20_ => ?_) (fun cc20_ => ?_)
    · refine j_iconst E 33 rfl dX2_costWith_32 ?_
      exact L33_3 0  H locs ls (rr (by decide)) (trivial) hw (lv_sub hl [1, 2, 3, 4, 0] rfl)
    · refine j_aload_n E 23 rfl dX2_costWith_22 rfl (lv_at hl 1 rfl) ?_
      refine g_61 E hK hw fl_X2_15 t_o 26 rfl dX2_costWith_23 ?_
      refine j_iload E 28 rfl dX2_costWith_26 (lv_at hl 0 rfl) ?_
      refine a_ld20 E hK hw (wt_61 hT t_o) (by omega) 29 rfl dX2_costWith_28 (fun zz21_ he21_ rr21_ => ?_)
      refine j_goto E 33 dX2_costWith_29 (by decide) ?_
      exact L33_3 zz21_  H locs ls rr21_ (trivial) hw (lv_sub hl [1, 2, 3, 4, 0] rfl)
set_option maxHeartbeats 4000000 in
set_option maxRecDepth 100000 in
theorem c_X2_leastCost (l : Launch) (D : va_G) (cy : Nat → ClassId) (T : Nat → Nat → Nat) (v_0 : Nat → Nat → Int) (o : Nat) (v_p : Int) (v_s : Int) (t_o : T 0 o = 3) (r_v_p : inR v_p) (r_v_s : inR v_s) : KC l D cy T yX2_leastCost cX2_leastCost 5 (some .int) 3 [.ref o, .int (J v_p), .int (J v_s)] v_0 (KI (fun (z_0 : Int) (v_2 : Nat → Nat → Int) => v_2 = v_0 ∧ (True))) := by
  refine KC.ofi (by decide) (Nat.le_of_ble_eq_true rfl) ?_
  intro p e s m below meth c ls ar QW A0 H0 H locs E hK hA hw hl hret
  have hl : lv_has ls 5 [(0, .ref o), (1, .int (J v_p)), (2, .int (J v_s))] := hl
  have hT : WT T := hw.1.2.1
  refine j_aload_n E 1 rfl dX2_leastCost_0 rfl (lv_at hl 0 rfl) ?_
  refine j_iload_n E 2 rfl dX2_leastCost_1 rfl (lv_at hl 1 rfl) ?_
  refine j_iconst E 3 rfl dX2_leastCost_2 ?_
  refine j_iadd E 4 rfl dX2_leastCost_3 ?_
  refine j_norm (fun zz1_ rr1_ ee1_ => ?_)
  refine j_iload_n E 5 rfl dX2_leastCost_4 rfl (lv_at hl 2 rfl) ?_
  refine kV_i E (c_X2_costFrom l D cy T (v_0) o zz1_ v_s  t_o rr1_ r_v_s ) mt_X2_costFrom ml_X2_63 hK hw (cw_rc3 hK hw.1 t_o) hA ⟨Nat.le_of_ble_eq_true rfl, Nat.le_of_ble_eq_true rfl⟩ ⟨Nat.le_of_ble_eq_true rfl, Nat.le_of_ble_eq_true rfl⟩ (As := [.int (J zz1_), .int (J v_s)]) (rest := []) rfl rfl hl.1 (Nat.le_of_ble_eq_true rfl) 8 rfl dX2_leastCost_5 (fun zz2_ v_2 H locs rr2_ hq2_ hw => ?_)
  obtain ⟨ev2_, hh2_⟩ := hq2_
  rw [ev2_] at hw; clear ev2_
  refine j_istore_n E 9 rfl [(3, .int (J zz2_)), (0, .ref o), (1, .int (J v_p)), (2, .int (J v_s))] dX2_leastCost_8 rfl hl (by decide) rfl (fun ls hl => ?_)
  refine j_iconst E 10 rfl dX2_leastCost_9 ?_
  refine j_istore E 12 rfl [(4, .int (J 0)), (3, .int (J zz2_)), (0, .ref o), (1, .int (J v_p)), (2, .int (J v_s))] dX2_leastCost_10 hl (by decide) rfl (fun ls hl => ?_)
  have L12_3 : ∀ (k12 : Nat) (l3_12 l4_12 : Int) (H : Heap) (locs : List Loc) (ls : Array Slot), inR l3_12 → inR l4_12 → (0 ≤ l4_12) → ((v_0 65 o) - l4_12).toNat < k12 → WK D cy T (v_0) A0 H0 H locs → lv_has ls 5 [(0, .ref o), (1, .int (J v_p)), (2, .int (J v_s)), (3, .int (J l3_12)), (4, .int (J l4_12))] → W p l e (rmd 3 0 0) s m ar below meth c H locs 0 0 QW (F0 m 12 ls []) := by
    intro k12
    induction k12 with
    | zero =>
      intro l3_12 l4_12 H locs ls r_l3_12 r_l4_12 iv12 ms12 hw hl
      exact absurd ms12 (Nat.not_lt_zero _)
    | succ k12 ih12 =>
      intro l3_12 l4_12 H locs ls r_l3_12 r_l4_12 iv12 ms12 hw hl
      refine j_iload E 14 rfl dX2_leastCost_12 (lv_at hl 4 rfl) ?_
      refine j_aload_n E 15 rfl dX2_leastCost_14 rfl (lv_at hl 0 rfl) ?_
      refine g_65 E hK hw fl_X2_28 t_o (v_0 65 o) rfl 18 rfl dX2_leastCost_15 (fun rr5_ => ?_)
      refine j_icmp_ge E 21 40 rfl r_l4_12 rr5_ dX2_leastCost_18 (by decide) (fun cc6_ => ?_) (fun cc6_ => ?_)
      · refine j_iload_n E 41 rfl dX2_leastCost_40 rfl (lv_at hl 3 rfl) ?_
        exact hret 41 l3_12 (v_0) _ _ ls hw r_l3_12 ⟨rfl, trivial⟩ dX2_leastCost_41
      · refine j_iload_n E 22 rfl dX2_leastCost_21 rfl (lv_at hl 3 rfl) ?_
        refine j_aload_n E 23 rfl dX2_leastCost_22 rfl (lv_at hl 0 rfl) ?_
        refine j_iload_n E 24 rfl dX2_leastCost_23 rfl (lv_at hl 1 rfl) ?_
        refine j_iload E 26 rfl dX2_leastCost_24 (lv_at hl 4 rfl) ?_
        refine j_iload_n E 27 rfl dX2_leastCost_26 rfl (lv_at hl 2 rfl) ?_
        refine kV_i E (c_X2_costWith l D cy T (v_0) o v_p l4_12 v_s  t_o r_v_p r_l4_12 r_v_s ) mt_X2_costWith ml_X2_66 hK hw (cw_rc3 hK hw.1 t_o) hA ⟨Nat.le_of_ble_eq_true rfl, Nat.le_of_ble_eq_true rfl⟩ ⟨Nat.le_of_ble_eq_true rfl, Nat.le_of_ble_eq_true rfl⟩ (As := [.int (J v_p), .int (J l4_12), .int (J v_s)]) (rest := [.int (J l3_12)]) rfl rfl hl.1 (Nat.le_of_ble_eq_true rfl) 30 rfl dX2_leastCost_27 (fun zz7_ v_7 H locs rr7_ hq7_ hw => ?_)
        obtain ⟨ev7_, hh7_⟩ := hq7_
        rw [ev7_] at hw; clear ev7_
        refine j_min E hl.1 ml_X2_34 r_l3_12 rr7_ ⟨Nat.le_of_ble_eq_true rfl, Nat.le_of_ble_eq_true rfl⟩ ⟨Nat.le_of_ble_eq_true rfl, Nat.le_of_ble_eq_true rfl⟩ 33 rfl dX2_leastCost_30 (fun zz8_ rr8_ hh8_ => ?_)
        refine j_istore_n E 34 rfl [(3, .int (J zz8_)), (0, .ref o), (1, .int (J v_p)), (2, .int (J v_s)), (4, .int (J l4_12))] dX2_leastCost_33 rfl hl (by decide) rfl (fun ls hl => ?_)
        refine j_iinc E 37 rfl [(4, .int (J (l4_12 + 1))), (3, .int (J zz8_)), (0, .ref o), (1, .int (J v_p)), (2, .int (J v_s))] dX2_leastCost_34 hl (kk := 4) rfl (by decide) rfl (fun ls hl => ?_)
        refine j_goto E 12 dX2_leastCost_37 (by decide) ?_
        exact ih12 zz8_ (l4_12 + 1)  H locs ls rr8_ (rr (by omega)) (by omega) (by omega) hw (lv_sub hl [2, 3, 4, 1, 0] rfl)
  exact L12_3 _ zz2_ 0  H locs ls rr2_ (rr (by decide)) (by omega) (Nat.lt_succ_self _) hw (lv_sub hl [2, 3, 4, 1, 0] rfl)
set_option maxHeartbeats 4000000 in
set_option maxRecDepth 100000 in
theorem c_X2_isFound (l : Launch) (D : va_G) (cy : Nat → ClassId) (T : Nat → Nat → Nat) (v_0 : Nat → Nat → Int) (o : Nat) (t_o : T 0 o = 3) : KC l D cy T yX2_isFound cX2_isFound 1 (some .boolean) 2 [.ref o] v_0 (KI (fun (z_0 : Int) (v_2 : Nat → Nat → Int) => v_2 = v_0 ∧ (True))) := by
  refine KC.ofz (by decide) (Nat.le_of_ble_eq_true rfl) ?_
  intro p e s m below meth c ls ar QW A0 H0 H locs E hK hA hw hl hret
  have hl : lv_has ls 1 [(0, .ref o)] := hl
  have hT : WT T := hw.1.2.1
  refine j_aload_n E 1 rfl dX2_isFound_0 rfl (lv_at hl 0 rfl) ?_
  refine j_iconst E 2 rfl dX2_isFound_1 ?_
  refine j_aload_n E 3 rfl dX2_isFound_2 rfl (lv_at hl 0 rfl) ?_
  refine g_66 E hK hw fl_X2_31 t_o (v_0 66 o) rfl 6 rfl dX2_isFound_3 (fun rr1_ => ?_)
  refine kV_i E (c_X2_costFrom l D cy T (v_0) o 0 (v_0 66 o)  t_o (rr (by decide)) rr1_ ) mt_X2_costFrom ml_X2_63 hK hw (cw_rc3 hK hw.1 t_o) hA ⟨Nat.le_of_ble_eq_true rfl, Nat.le_of_ble_eq_true rfl⟩ ⟨Nat.le_of_ble_eq_true rfl, Nat.le_of_ble_eq_true rfl⟩ (As := [.int (J 0), .int (J (v_0 66 o))]) (rest := []) rfl rfl hl.1 (Nat.le_of_ble_eq_true rfl) 9 rfl dX2_isFound_6 (fun zz2_ v_2 H locs rr2_ hq2_ hw => ?_)
  obtain ⟨ev2_, hh2_⟩ := hq2_
  rw [ev2_] at hw; clear ev2_
  refine j_sipush E 12 rfl dX2_isFound_9 (by decide) ?_
  refine j_icmp_ge E 15 19 rfl rr2_ (rr (by decide)) dX2_isFound_12 (by decide) (fun cc3_ => ?_) (fun cc3_ => ?_)
  · refine j_iconst E 20 rfl dX2_isFound_19 ?_
    exact hret 20 0 (v_0) _ _ ls hw (Or.inl rfl) ⟨rfl, trivial⟩ dX2_isFound_20
  · refine j_iconst E 16 rfl dX2_isFound_15 ?_
    refine j_goto E 20 dX2_isFound_16 (by decide) ?_
    exact hret 20 1 (v_0) _ _ ls hw (Or.inr rfl) ⟨rfl, trivial⟩ dX2_isFound_20
set_option maxHeartbeats 4000000 in
set_option maxRecDepth 100000 in
theorem c_X2_cost (l : Launch) (D : va_G) (cy : Nat → ClassId) (T : Nat → Nat → Nat) (v_0 : Nat → Nat → Int) (o : Nat) (t_o : T 0 o = 3) : KC l D cy T yX2_cost cX2_cost 1 (some .int) 3 [.ref o] v_0 (KI (fun (z_0 : Int) (v_2 : Nat → Nat → Int) => v_2 = v_0 ∧ (True))) := by
  refine KC.ofi (by decide) (Nat.le_of_ble_eq_true rfl) ?_
  intro p e s m below meth c ls ar QW A0 H0 H locs E hK hA hw hl hret
  have hl : lv_has ls 1 [(0, .ref o)] := hl
  have hT : WT T := hw.1.2.1
  refine j_aload_n E 1 rfl dX2_cost_0 rfl (lv_at hl 0 rfl) ?_
  refine kV_i E (c_X2_isFound l D cy T (v_0) o  t_o  ) mt_X2_isFound ml_X2_56 hK hw (cw_rc3 hK hw.1 t_o) hA ⟨Nat.le_of_ble_eq_true rfl, Nat.le_of_ble_eq_true rfl⟩ ⟨Nat.le_of_ble_eq_true rfl, Nat.le_of_ble_eq_true rfl⟩ (As := []) (rest := []) rfl rfl hl.1 (Nat.le_of_ble_eq_true rfl) 4 rfl dX2_cost_1 (fun zz1_ v_1 H locs rr1_ hq1_ hw => ?_)
  obtain ⟨ev1_, hh1_⟩ := hq1_
  rw [ev1_] at hw; clear ev1_
  refine j_if_eq E 7 19 rfl rr1_ dX2_cost_4 (by decide) (fun cc2_ => ?_) (fun cc2_ => ?_)
  · refine j_iconst E 20 rfl dX2_cost_19 ?_
    exact hret 20 ((-1)) (v_0) _ _ ls hw (rr (by decide)) ⟨rfl, trivial⟩ dX2_cost_20
  · refine j_aload_n E 8 rfl dX2_cost_7 rfl (lv_at hl 0 rfl) ?_
    refine j_iconst E 9 rfl dX2_cost_8 ?_
    refine j_aload_n E 10 rfl dX2_cost_9 rfl (lv_at hl 0 rfl) ?_
    refine g_66 E hK hw fl_X2_31 t_o (v_0 66 o) rfl 13 rfl dX2_cost_10 (fun rr3_ => ?_)
    refine kV_i E (c_X2_costFrom l D cy T (v_0) o 0 (v_0 66 o)  t_o (rr (by decide)) rr3_ ) mt_X2_costFrom ml_X2_63 hK hw (cw_rc3 hK hw.1 t_o) hA ⟨Nat.le_of_ble_eq_true rfl, Nat.le_of_ble_eq_true rfl⟩ ⟨Nat.le_of_ble_eq_true rfl, Nat.le_of_ble_eq_true rfl⟩ (As := [.int (J 0), .int (J (v_0 66 o))]) (rest := []) rfl rfl hl.1 (Nat.le_of_ble_eq_true rfl) 16 rfl dX2_cost_13 (fun zz4_ v_4 H locs rr4_ hq4_ hw => ?_)
    obtain ⟨ev4_, hh4_⟩ := hq4_
    rw [ev4_] at hw; clear ev4_
    refine j_goto E 20 dX2_cost_16 (by decide) ?_
    exact hret 20 zz4_ (v_0) _ _ ls hw rr4_ ⟨rfl, trivial⟩ dX2_cost_20
set_option maxHeartbeats 4000000 in
set_option maxRecDepth 100000 in
theorem c_X2_lessonOf (l : Launch) (D : va_G) (cy : Nat → ClassId) (T : Nat → Nat → Nat) (v_0 : Nat → Nat → Int) (o : Nat) (v_p : Int) (t_o : T 0 o = 3) (r_v_p : inR v_p) : KC l D cy T yX2_lessonOf cX2_lessonOf 2 (some .int) 1 [.ref o, .int (J v_p)] v_0 (KI (fun (z_0 : Int) (v_2 : Nat → Nat → Int) => v_2 = v_0 ∧ (True))) := by
  refine KC.ofi (by decide) (Nat.le_of_ble_eq_true rfl) ?_
  intro p e s m below meth c ls ar QW A0 H0 H locs E hK hA hw hl hret
  have hl : lv_has ls 2 [(0, .ref o), (1, .int (J v_p))] := hl
  have hT : WT T := hw.1.2.1
  refine j_iload_n E 1 rfl dX2_lessonOf_0 rfl (lv_at hl 1 rfl) ?_
  refine j_if_lt E 4 22 rfl r_v_p dX2_lessonOf_1 (by decide) (fun cc1_ => ?_) (fun cc1_ => ?_)
  · refine j_iconst E 23 rfl dX2_lessonOf_22 ?_
    exact hret 23 ((-1)) (v_0) _ _ ls hw (rr (by decide)) ⟨rfl, trivial⟩ dX2_lessonOf_23
  · refine j_iload_n E 5 rfl dX2_lessonOf_4 rfl (lv_at hl 1 rfl) ?_
    refine j_aload_n E 6 rfl dX2_lessonOf_5 rfl (lv_at hl 0 rfl) ?_
    refine g_63 E hK hw fl_X2_21 t_o 9 rfl dX2_lessonOf_6 ?_
    have ln2_ := wl_63 hT t_o
    refine a_ln20 E hK hw (wt_63 hT t_o) 10 rfl dX2_lessonOf_9 (fun rr3_ => ?_)
    refine j_icmp_ge E 13 22 rfl r_v_p rr3_ dX2_lessonOf_10 (by decide) (fun cc4_ => ?_) (fun cc4_ => ?_)
    · refine j_iconst E 23 rfl dX2_lessonOf_22 ?_
      exact hret 23 ((-1)) (v_0) _ _ ls hw (rr (by decide)) ⟨rfl, trivial⟩ dX2_lessonOf_23
    · refine j_aload_n E 14 rfl dX2_lessonOf_13 rfl (lv_at hl 0 rfl) ?_
      refine g_63 E hK hw fl_X2_21 t_o 17 rfl dX2_lessonOf_14 ?_
      refine j_iload_n E 18 rfl dX2_lessonOf_17 rfl (lv_at hl 1 rfl) ?_
      refine a_ld20 E hK hw (wt_63 hT t_o) (by omega) 19 rfl dX2_lessonOf_18 (fun zz5_ he5_ rr5_ => ?_)
      refine j_goto E 23 dX2_lessonOf_19 (by decide) ?_
      exact hret 23 zz5_ (v_0) _ _ ls hw rr5_ ⟨rfl, trivial⟩ dX2_lessonOf_23
set_option maxHeartbeats 4000000 in
set_option maxRecDepth 100000 in
theorem c_X2_teachings (l : Launch) (D : va_G) (cy : Nat → ClassId) (T : Nat → Nat → Nat) (v_0 : Nat → Nat → Int) (o : Nat) (t_o : T 0 o = 3) : KC l D cy T yX2_teachings cX2_teachings 3 (some .int) 3 [.ref o] v_0 (KI (fun (z_0 : Int) (v_2 : Nat → Nat → Int) => v_2 = v_0 ∧ (True))) := by
  refine KC.ofi (by decide) (Nat.le_of_ble_eq_true rfl) ?_
  intro p e s m below meth c ls ar QW A0 H0 H locs E hK hA hw hl hret
  have hl : lv_has ls 3 [(0, .ref o)] := hl
  have hT : WT T := hw.1.2.1
  refine j_iconst E 1 rfl dX2_teachings_0 ?_
  refine j_istore_n E 2 rfl [(1, .int (J 0)), (0, .ref o)] dX2_teachings_1 rfl hl (by decide) rfl (fun ls hl => ?_)
  refine j_iconst E 3 rfl dX2_teachings_2 ?_
  refine j_istore_n E 4 rfl [(2, .int (J 0)), (1, .int (J 0)), (0, .ref o)] dX2_teachings_3 rfl hl (by decide) rfl (fun ls hl => ?_)
  have L4_1 : ∀ (k4 : Nat) (l1_4 l2_4 : Int) (H : Heap) (locs : List Loc) (ls : Array Slot), inR l1_4 → inR l2_4 → (0 ≤ l2_4) → ((T 1 (T 63 o) : Int) - l2_4).toNat < k4 → WK D cy T (v_0) A0 H0 H locs → lv_has ls 3 [(0, .ref o), (1, .int (J l1_4)), (2, .int (J l2_4))] → W p l e (rmd 3 0 0) s m ar below meth c H locs 0 0 QW (F0 m 4 ls []) := by
    intro k4
    induction k4 with
    | zero =>
      intro l1_4 l2_4 H locs ls r_l1_4 r_l2_4 iv4 ms4 hw hl
      exact absurd ms4 (Nat.not_lt_zero _)
    | succ k4 ih4 =>
      intro l1_4 l2_4 H locs ls r_l1_4 r_l2_4 iv4 ms4 hw hl
      refine j_iload_n E 5 rfl dX2_teachings_4 rfl (lv_at hl 2 rfl) ?_
      refine j_aload_n E 6 rfl dX2_teachings_5 rfl (lv_at hl 0 rfl) ?_
      refine g_63 E hK hw fl_X2_21 t_o 9 rfl dX2_teachings_6 ?_
      have ln3_ := wl_63 hT t_o
      refine a_ln20 E hK hw (wt_63 hT t_o) 10 rfl dX2_teachings_9 (fun rr4_ => ?_)
      refine j_icmp_ge E 13 37 rfl r_l2_4 rr4_ dX2_teachings_10 (by decide) (fun cc5_ => ?_) (fun cc5_ => ?_)
      · refine j_aload_n E 38 rfl dX2_teachings_37 rfl (lv_at hl 0 rfl) ?_
        refine kV_i E (c_X2_isFound l D cy T (v_0) o  t_o  ) mt_X2_isFound ml_X2_56 hK hw (cw_rc3 hK hw.1 t_o) hA ⟨Nat.le_of_ble_eq_true rfl, Nat.le_of_ble_eq_true rfl⟩ ⟨Nat.le_of_ble_eq_true rfl, Nat.le_of_ble_eq_true rfl⟩ (As := []) (rest := []) rfl rfl hl.1 (Nat.le_of_ble_eq_true rfl) 41 rfl dX2_teachings_38 (fun zz6_ v_6 H locs rr6_ hq6_ hw => ?_)
        obtain ⟨ev6_, hh6_⟩ := hq6_
        rw [ev6_] at hw; clear ev6_
        refine j_if_eq E 44 48 rfl rr6_ dX2_teachings_41 (by decide) (fun cc7_ => ?_) (fun cc7_ => ?_)
        · refine j_iconst E 49 rfl dX2_teachings_48 ?_
          exact hret 49 ((-1)) (v_0) _ _ ls hw (rr (by decide)) ⟨rfl, trivial⟩ dX2_teachings_49
        · refine j_iload_n E 45 rfl dX2_teachings_44 rfl (lv_at hl 1 rfl) ?_
          refine j_goto E 49 dX2_teachings_45 (by decide) ?_
          exact hret 49 l1_4 (v_0) _ _ ls hw r_l1_4 ⟨rfl, trivial⟩ dX2_teachings_49
      · refine j_iload_n E 14 rfl dX2_teachings_13 rfl (lv_at hl 1 rfl) ?_
        refine j_aload_n E 15 rfl dX2_teachings_14 rfl (lv_at hl 0 rfl) ?_
        refine g_63 E hK hw fl_X2_21 t_o 18 rfl dX2_teachings_15 ?_
        refine j_iload_n E 19 rfl dX2_teachings_18 rfl (lv_at hl 2 rfl) ?_
        refine a_ld20 E hK hw (wt_63 hT t_o) (by omega) 20 rfl dX2_teachings_19 (fun zz8_ he8_ rr8_ => ?_)
        refine j_iconst E 21 rfl dX2_teachings_20 ?_
        refine j_icmp_eq E 24 28 rfl rr8_ (rr (by decide)) dX2_teachings_21 (by decide) (fun cc9_ => ?_) (fun cc9_ => ?_)
        · refine j_iconst E 29 rfl dX2_teachings_28 ?_
          refine j_iadd E 30 rfl dX2_teachings_29 ?_
          refine j_norm (fun zz10_ rr10_ ee10_ => ?_)
          refine j_istore_n E 31 rfl [(1, .int (J zz10_)), (0, .ref o), (2, .int (J l2_4))] dX2_teachings_30 rfl hl (by decide) rfl (fun ls hl => ?_)
          refine j_iinc E 34 rfl [(2, .int (J (l2_4 + 1))), (1, .int (J zz10_)), (0, .ref o)] dX2_teachings_31 hl (kk := 2) rfl (by decide) rfl (fun ls hl => ?_)
          refine j_goto E 4 dX2_teachings_34 (by decide) ?_
          exact ih4 zz10_ (l2_4 + 1)  H locs ls rr10_ (rr (by omega)) (by omega) (by omega) hw (lv_sub hl [2, 1, 0] rfl)
        · refine j_iconst E 25 rfl dX2_teachings_24 ?_
          refine j_goto E 29 dX2_teachings_25 (by decide) ?_
          refine j_iadd E 30 rfl dX2_teachings_29 ?_
          refine j_norm (fun zz11_ rr11_ ee11_ => ?_)
          refine j_istore_n E 31 rfl [(1, .int (J zz11_)), (0, .ref o), (2, .int (J l2_4))] dX2_teachings_30 rfl hl (by decide) rfl (fun ls hl => ?_)
          refine j_iinc E 34 rfl [(2, .int (J (l2_4 + 1))), (1, .int (J zz11_)), (0, .ref o)] dX2_teachings_31 hl (kk := 2) rfl (by decide) rfl (fun ls hl => ?_)
          refine j_goto E 4 dX2_teachings_34 (by decide) ?_
          exact ih4 zz11_ (l2_4 + 1)  H locs ls rr11_ (rr (by omega)) (by omega) (by omega) hw (lv_sub hl [2, 1, 0] rfl)
  exact L4_1 _ 0 0  H locs ls (rr (by decide)) (rr (by decide)) (by omega) (Nat.lt_succ_self _) hw (lv_sub hl [2, 1, 0] rfl)
set_option maxHeartbeats 4000000 in
set_option maxRecDepth 100000 in
theorem c_X2_giveLessons (l : Launch) (D : va_G) (cy : Nat → ClassId) (T : Nat → Nat → Nat) (v_0 : Nat → Nat → Int) (o : Nat) (t_o : T 0 o = 3) (hp0 : 0 ≤ (v_0 65 o)) : KC l D cy T yX2_giveLessons cX2_giveLessons 5 none 3 [.ref o] v_0 (KV (fun (v_2 : Nat → Nat → Int) => ∃ (y300_2 : Nat → Int) , v_2 = upV v_0 300 y300_2 ∧ ((True) ∧ Kd_ T [63] (v_0 300) y300_2))) := by
  refine KC.ofv (by decide) (Nat.le_of_ble_eq_true rfl) ?_
  intro p e s m below meth c ls ar QW A0 H0 H locs E hK hA hw hl hret
  have hl : lv_has ls 5 [(0, .ref o)] := hl
  have hT : WT T := hw.1.2.1
  refine j_aload_n E 1 rfl dX2_giveLessons_0 rfl (lv_at hl 0 rfl) ?_
  refine g_66 E hK hw fl_X2_31 t_o (v_0 66 o) rfl 4 rfl dX2_giveLessons_1 (fun rr1_ => ?_)
  refine j_istore_n E 5 rfl [(1, .int (J (v_0 66 o))), (0, .ref o)] dX2_giveLessons_4 rfl hl (by decide) rfl (fun ls hl => ?_)
  refine j_iconst E 6 rfl dX2_giveLessons_5 ?_
  refine j_istore_n E 7 rfl [(2, .int (J 0)), (1, .int (J (v_0 66 o))), (0, .ref o)] dX2_giveLessons_6 rfl hl (by decide) rfl (fun ls hl => ?_)
  have L7_2 : ∀ (k7 : Nat) (l1_7 l2_7 : Int) (y300_c7 : Nat → Int) (H : Heap) (locs : List Loc) (ls : Array Slot), inR l1_7 → inR l2_7 → ((0 ≤ l2_7) ∧ Kd_ T [63] (v_0 300) y300_c7) → ((T 1 (T 63 o) : Int) - l2_7).toNat < k7 → WK D cy T (upV v_0 300 y300_c7) A0 H0 H locs → lv_has ls 5 [(0, .ref o), (1, .int (J l1_7)), (2, .int (J l2_7))] → W p l e (rmd 3 0 0) s m ar below meth c H locs 0 0 QW (F0 m 7 ls []) := by
    intro k7
    induction k7 with
    | zero =>
      intro l1_7 l2_7 y300_c7 H locs ls r_l1_7 r_l2_7 iv7 ms7 hw hl
      exact absurd ms7 (Nat.not_lt_zero _)
    | succ k7 ih7 =>
      intro l1_7 l2_7 y300_c7 H locs ls r_l1_7 r_l2_7 iv7 ms7 hw hl
      obtain ⟨iv7, ik7_⟩ := iv7
      refine j_iload_n E 8 rfl dX2_giveLessons_7 rfl (lv_at hl 2 rfl) ?_
      refine j_aload_n E 9 rfl dX2_giveLessons_8 rfl (lv_at hl 0 rfl) ?_
      refine g_64 E hK hw fl_X2_24 t_o (v_0 64 o) rfl 12 rfl dX2_giveLessons_9 (fun rr4_ => ?_)
      refine j_icmp_ge E 15 116 rfl r_l2_7 rr4_ dX2_giveLessons_12 (by decide) (fun cc5_ => ?_) (fun cc5_ => ?_)
      · exact hret 116 (upV v_0 300 y300_c7) _ _ ls hw ⟨y300_c7, rfl, ⟨trivial, ik7_⟩⟩ dX2_giveLessons_116
      · refine j_iload_n E 16 rfl dX2_giveLessons_15 rfl (lv_at hl 2 rfl) ?_
        refine j_aload_n E 17 rfl dX2_giveLessons_16 rfl (lv_at hl 0 rfl) ?_
        refine g_63 E hK hw fl_X2_21 t_o 20 rfl dX2_giveLessons_17 ?_
        have ln6_ := wl_63 hT t_o
        refine a_ln20 E hK hw (wt_63 hT t_o) 21 rfl dX2_giveLessons_20 (fun rr7_ => ?_)
        refine j_icmp_ge E 24 116 rfl r_l2_7 rr7_ dX2_giveLessons_21 (by decide) (fun cc8_ => ?_) (fun cc8_ => ?_)
        · exact hret 116 (upV v_0 300 y300_c7) _ _ ls hw ⟨y300_c7, rfl, ⟨trivial, ik7_⟩⟩ dX2_giveLessons_116
        · refine j_iconst E 25 rfl dX2_giveLessons_24 ?_
          refine j_istore_n E 26 rfl [(3, .int (J ((-1)))), (0, .ref o), (1, .int (J l1_7)), (2, .int (J l2_7))] dX2_giveLessons_25 rfl hl (by decide) rfl (fun ls hl => ?_)
          refine j_aload_n E 27 rfl dX2_giveLessons_26 rfl (lv_at hl 1 rfl) ?_
          refine g_65 E hK hw fl_X2_28 t_o (v_0 65 o) rfl 30 rfl dX2_giveLessons_27 (fun rr9_ => ?_)
          refine j_iconst E 31 rfl dX2_giveLessons_30 ?_
          refine j_isub E 32 rfl dX2_giveLessons_31 ?_
          refine j_istore E 34 rfl [(4, .int (J ((v_0 65 o) - 1))), (3, .int (J ((-1)))), (0, .ref o), (1, .int (J l1_7)), (2, .int (J l2_7))] dX2_giveLessons_32 hl (by decide) rfl (fun ls hl => ?_)
          have L34_10 : ∀ (k34 : Nat) (l3_34 l4_34 : Int) (H : Heap) (locs : List Loc) (ls : Array Slot), inR l3_34 → inR l4_34 → (-1 ≤ l4_34) → (l4_34 + 1).toNat < k34 → WK D cy T (upV v_0 300 y300_c7) A0 H0 H locs → lv_has ls 5 [(0, .ref o), (1, .int (J l1_7)), (2, .int (J l2_7)), (3, .int (J l3_34)), (4, .int (J l4_34))] → W p l e (rmd 3 0 0) s m ar below meth c H locs 0 0 QW (F0 m 34 ls []) := by
            intro k34
            induction k34 with
            | zero =>
              intro l3_34 l4_34 H locs ls r_l3_34 r_l4_34 iv34 ms34 hw hl
              exact absurd ms34 (Nat.not_lt_zero _)
            | succ k34 ih34 =>
              intro l3_34 l4_34 H locs ls r_l3_34 r_l4_34 iv34 ms34 hw hl
              refine j_iload E 36 rfl dX2_giveLessons_34 (lv_at hl 4 rfl) ?_
              refine j_if_lt E 39 77 rfl r_l4_34 dX2_giveLessons_36 (by decide) (fun cc12_ => ?_) (fun cc12_ => ?_)
              · refine j_iload_n E 78 rfl dX2_giveLessons_77 rfl (lv_at hl 3 rfl) ?_
                refine j_if_lt E 81 110 rfl r_l3_34 dX2_giveLessons_78 (by decide) (fun cc13_ => ?_) (fun cc13_ => ?_)
                · refine j_iinc E 113 rfl [(2, .int (J (l2_7 + 1))), (0, .ref o), (1, .int (J l1_7)), (3, .int (J l3_34)), (4, .int (J l4_34))] dX2_giveLessons_110 hl (kk := 2) rfl (by decide) rfl (fun ls hl => ?_)
                  refine j_goto E 7 dX2_giveLessons_113 (by decide) ?_
                  exact ih7 l1_7 (l2_7 + 1) y300_c7 H locs ls r_l1_7 (rr (by omega)) (⟨by first | omega | (simp only [upB_same]; omega), ik7_⟩) (by omega) hw (lv_sub hl [1, 2, 0] rfl)
                · refine j_iload_n E 82 rfl dX2_giveLessons_81 rfl (lv_at hl 3 rfl) ?_
                  refine j_aload_n E 83 rfl dX2_giveLessons_82 rfl (lv_at hl 0 rfl) ?_
                  refine g_62 E hK hw fl_X2_18 t_o 86 rfl dX2_giveLessons_83 ?_
                  have ln14_ := wl_62 hT t_o
                  refine a_ln20 E hK hw (wt_62 hT t_o) 87 rfl dX2_giveLessons_86 (fun rr15_ => ?_)
                  refine j_icmp_ge E 90 110 rfl r_l3_34 rr15_ dX2_giveLessons_87 (by decide) (fun cc16_ => ?_) (fun cc16_ => ?_)
                  · refine j_iinc E 113 rfl [(2, .int (J (l2_7 + 1))), (0, .ref o), (1, .int (J l1_7)), (3, .int (J l3_34)), (4, .int (J l4_34))] dX2_giveLessons_110 hl (kk := 2) rfl (by decide) rfl (fun ls hl => ?_)
                    refine j_goto E 7 dX2_giveLessons_113 (by decide) ?_
                    exact ih7 l1_7 (l2_7 + 1) y300_c7 H locs ls r_l1_7 (rr (by omega)) (⟨by first | omega | (simp only [upB_same]; omega), ik7_⟩) (by omega) hw (lv_sub hl [1, 2, 0] rfl)
                  · refine j_aload_n E 91 rfl dX2_giveLessons_90 rfl (lv_at hl 0 rfl) ?_
                    refine g_63 E hK hw fl_X2_21 t_o 94 rfl dX2_giveLessons_91 ?_
                    refine j_iload_n E 95 rfl dX2_giveLessons_94 rfl (lv_at hl 2 rfl) ?_
                    refine j_aload_n E 96 rfl dX2_giveLessons_95 rfl (lv_at hl 0 rfl) ?_
                    refine g_62 E hK hw fl_X2_18 t_o 99 rfl dX2_giveLessons_96 ?_
                    refine j_iload_n E 100 rfl dX2_giveLessons_99 rfl (lv_at hl 3 rfl) ?_
                    refine a_ld20 E hK hw (wt_62 hT t_o) (by omega) 101 rfl dX2_giveLessons_100 (fun zz17_ he17_ rr17_ => ?_)
                    refine a_st20 E hK hw (wt_63 hT t_o) rr17_ (by omega) 102 rfl dX2_giveLessons_101 (fun H locs hw => ?_)
                    have hw : WK D cy T (upV v_0 300 (upB y300_c7 ((pr (T 63 o) (Int.toNat l2_7))) zz17_)) A0 H0 H locs := cw_eq hw (by first | rfl | (funext j_; simp only [upV, reduceIte]; (repeat' split) <;> first | rfl | omega | (subst_vars; rfl)))
                    refine j_iload_n E 103 rfl dX2_giveLessons_102 rfl (lv_at hl 1 rfl) ?_
                    refine j_iconst E 104 rfl dX2_giveLessons_103 ?_
                    refine j_iconst E 105 rfl dX2_giveLessons_104 ?_
                    refine j_iload_n E 106 rfl dX2_giveLessons_105 rfl (lv_at hl 3 rfl) ?_
                    refine j_imul E 107 rfl dX2_giveLessons_106 ?_
                    refine j_norm (fun zz19_ rr19_ ee19_ => ?_)
                    refine j_ishl E 108 rfl dX2_giveLessons_107 (fun zz20_ rr20_ ee20_ => ?_)
                    refine j_isub E 109 rfl dX2_giveLessons_108 ?_
                    refine j_norm (fun zz21_ rr21_ ee21_ => ?_)
                    refine j_istore_n E 110 rfl [(1, .int (J zz21_)), (0, .ref o), (2, .int (J l2_7)), (3, .int (J l3_34)), (4, .int (J l4_34))] dX2_giveLessons_109 rfl hl (by decide) rfl (fun ls hl => ?_)
                    refine j_iinc E 113 rfl [(2, .int (J (l2_7 + 1))), (1, .int (J zz21_)), (0, .ref o), (3, .int (J l3_34)), (4, .int (J l4_34))] dX2_giveLessons_110 hl (kk := 2) rfl (by decide) rfl (fun ls hl => ?_)
                    refine j_goto E 7 dX2_giveLessons_113 (by decide) ?_
                    exact ih7 zz21_ (l2_7 + 1) (upB y300_c7 ((pr (T 63 o) (Int.toNat l2_7))) zz17_) H locs ls rr21_ (rr (by omega)) (⟨by first | omega | (simp only [upB_same]; omega), (Kd_tr ik7_ (Kd_up (wok (wo_63 hT t_o) (by decide)) (by decide)))⟩) (by omega) hw (lv_sub hl [2, 1, 0] rfl)
              · refine j_aload_n E 40 rfl dX2_giveLessons_39 rfl (lv_at hl 0 rfl) ?_
                refine j_iload_n E 41 rfl dX2_giveLessons_40 rfl (lv_at hl 2 rfl) ?_
                refine j_iload_n E 42 rfl dX2_giveLessons_41 rfl (lv_at hl 1 rfl) ?_
                refine kV_i E (c_X2_costFrom l D cy T (upV v_0 300 y300_c7) o l2_7 l1_7  t_o r_l2_7 r_l1_7 ) mt_X2_costFrom ml_X2_63 hK hw (cw_rc3 hK hw.1 t_o) hA ⟨Nat.le_of_ble_eq_true rfl, Nat.le_of_ble_eq_true rfl⟩ ⟨Nat.le_of_ble_eq_true rfl, Nat.le_of_ble_eq_true rfl⟩ (As := [.int (J l2_7), .int (J l1_7)]) (rest := []) rfl rfl hl.1 (Nat.le_of_ble_eq_true rfl) 45 rfl dX2_giveLessons_42 (fun zz22_ v_22 H locs rr22_ hq22_ hw => ?_)
                obtain ⟨ev22_, hh22_⟩ := hq22_
                rw [ev22_] at hw; clear ev22_
                refine j_sipush E 48 rfl dX2_giveLessons_45 (by decide) ?_
                refine j_icmp_ge E 51 71 rfl rr22_ (rr (by decide)) dX2_giveLessons_48 (by decide) (fun cc23_ => ?_) (fun cc23_ => ?_)
                · refine j_iinc E 74 rfl [(4, .int (J (l4_34 + (-1)))), (0, .ref o), (1, .int (J l1_7)), (2, .int (J l2_7)), (3, .int (J l3_34))] dX2_giveLessons_71 hl (kk := 4) rfl (by decide) rfl (fun ls hl => ?_)
                  refine j_goto E 34 dX2_giveLessons_74 (by decide) ?_
                  exact ih34 l3_34 (l4_34 + (-1))  H locs ls r_l3_34 (rr (by omega)) (by omega) (by omega) hw (lv_sub hl [1, 2, 3, 4, 0] rfl)
                · refine j_aload_n E 52 rfl dX2_giveLessons_51 rfl (lv_at hl 0 rfl) ?_
                  refine j_iload_n E 53 rfl dX2_giveLessons_52 rfl (lv_at hl 2 rfl) ?_
                  refine j_iload E 55 rfl dX2_giveLessons_53 (lv_at hl 4 rfl) ?_
                  refine j_iload_n E 56 rfl dX2_giveLessons_55 rfl (lv_at hl 1 rfl) ?_
                  refine kV_i E (c_X2_costWith l D cy T (upV v_0 300 y300_c7) o l2_7 l4_34 l1_7  t_o r_l2_7 r_l4_34 r_l1_7 ) mt_X2_costWith ml_X2_66 hK hw (cw_rc3 hK hw.1 t_o) hA ⟨Nat.le_of_ble_eq_true rfl, Nat.le_of_ble_eq_true rfl⟩ ⟨Nat.le_of_ble_eq_true rfl, Nat.le_of_ble_eq_true rfl⟩ (As := [.int (J l2_7), .int (J l4_34), .int (J l1_7)]) (rest := []) rfl rfl hl.1 (Nat.le_of_ble_eq_true rfl) 59 rfl dX2_giveLessons_56 (fun zz24_ v_24 H locs rr24_ hq24_ hw => ?_)
                  obtain ⟨ev24_, hh24_⟩ := hq24_
                  rw [ev24_] at hw; clear ev24_
                  refine j_aload_n E 60 rfl dX2_giveLessons_59 rfl (lv_at hl 0 rfl) ?_
                  refine j_iload_n E 61 rfl dX2_giveLessons_60 rfl (lv_at hl 2 rfl) ?_
                  refine j_iload_n E 62 rfl dX2_giveLessons_61 rfl (lv_at hl 1 rfl) ?_
                  refine kV_i E (c_X2_costFrom l D cy T (upV v_0 300 y300_c7) o l2_7 l1_7  t_o r_l2_7 r_l1_7 ) mt_X2_costFrom ml_X2_63 hK hw (cw_rc3 hK hw.1 t_o) hA ⟨Nat.le_of_ble_eq_true rfl, Nat.le_of_ble_eq_true rfl⟩ ⟨Nat.le_of_ble_eq_true rfl, Nat.le_of_ble_eq_true rfl⟩ (As := [.int (J l2_7), .int (J l1_7)]) (rest := [.int (J zz24_)]) rfl rfl hl.1 (Nat.le_of_ble_eq_true rfl) 65 rfl dX2_giveLessons_62 (fun zz25_ v_25 H locs rr25_ hq25_ hw => ?_)
                  obtain ⟨ev25_, hh25_⟩ := hq25_
                  rw [ev25_] at hw; clear ev25_
                  refine j_icmp_ne E 68 71 rfl rr24_ rr25_ dX2_giveLessons_65 (by decide) (fun cc26_ => ?_) (fun cc26_ => ?_)
                  · refine j_iinc E 74 rfl [(4, .int (J (l4_34 + (-1)))), (0, .ref o), (1, .int (J l1_7)), (2, .int (J l2_7)), (3, .int (J l3_34))] dX2_giveLessons_71 hl (kk := 4) rfl (by decide) rfl (fun ls hl => ?_)
                    refine j_goto E 34 dX2_giveLessons_74 (by decide) ?_
                    exact ih34 l3_34 (l4_34 + (-1))  H locs ls r_l3_34 (rr (by omega)) (by omega) (by omega) hw (lv_sub hl [1, 2, 3, 4, 0] rfl)
                  · refine j_iload E 70 rfl dX2_giveLessons_68 (lv_at hl 4 rfl) ?_
                    refine j_istore_n E 71 rfl [(3, .int (J l4_34)), (0, .ref o), (1, .int (J l1_7)), (2, .int (J l2_7)), (4, .int (J l4_34))] dX2_giveLessons_70 rfl hl (by decide) rfl (fun ls hl => ?_)
                    refine j_iinc E 74 rfl [(4, .int (J (l4_34 + (-1)))), (3, .int (J l4_34)), (0, .ref o), (1, .int (J l1_7)), (2, .int (J l2_7))] dX2_giveLessons_71 hl (kk := 4) rfl (by decide) rfl (fun ls hl => ?_)
                    refine j_goto E 34 dX2_giveLessons_74 (by decide) ?_
                    exact ih34 l4_34 (l4_34 + (-1))  H locs ls r_l4_34 (rr (by omega)) (by omega) (by omega) hw (lv_sub hl [2, 3, 4, 1, 0] rfl)
          exact L34_10 _ ((-1)) ((v_0 65 o) - 1)  H locs ls (rr (by decide)) (rr (by omega)) (by omega) (Nat.lt_succ_self _) hw (lv_sub hl [2, 3, 4, 1, 0] rfl)
  exact L7_2 _ (v_0 66 o) 0 (v_0 300) H locs ls rr1_ (rr (by decide)) (⟨by first | omega | (simp only [upB_same]; omega), Kd_rf⟩) (Nat.lt_succ_self _) (cw_eq hw (by first | rfl | (funext j_; simp only [upV, reduceIte]; (repeat' split) <;> first | rfl | omega | (subst_vars; rfl)))) (lv_sub hl [2, 1, 0] rfl)
set_option maxHeartbeats 4000000 in
set_option maxRecDepth 100000 in
theorem c_X2_solve (l : Launch) (D : va_G) (cy : Nat → ClassId) (T : Nat → Nat → Nat) (v_0 : Nat → Nat → Int) (o : Nat) (t_o : T 0 o = 3) (hp0 : 0 ≤ (v_0 66 o) ∧ (v_0 66 o) ≤ 255 ∧ 0 ≤ (v_0 65 o) ∧ (v_0 65 o) ≤ 4 ∧ 0 ≤ (v_0 64 o) ∧ (v_0 64 o) ≤ 24) : KC l D cy T yX2_solve cX2_solve 3 none 4 [.ref o] v_0 (KV (fun (v_2 : Nat → Nat → Int) => ∃ (y300_2 : Nat → Int) , v_2 = upV v_0 300 y300_2 ∧ ((True) ∧ Kd_ T [60, 63] (v_0 300) y300_2))) := by
  refine KC.ofv (by decide) (Nat.le_of_ble_eq_true rfl) ?_
  intro p e s m below meth c ls ar QW A0 H0 H locs E hK hA hw hl hret
  have hl : lv_has ls 3 [(0, .ref o)] := hl
  have hT : WT T := hw.1.2.1
  refine j_iconst E 1 rfl dX2_solve_0 ?_
  refine j_istore_n E 2 rfl [(1, .int (J 0)), (0, .ref o)] dX2_solve_1 rfl hl (by decide) rfl (fun ls hl => ?_)
  have L2_1 : ∀ (k2 : Nat) (l1_2 : Int) (y300_c2 : Nat → Int) (H : Heap) (locs : List Loc) (ls : Array Slot), inR l1_2 → ((0 ≤ l1_2) ∧ Kd_ T [60, 63] (v_0 300) y300_c2) → ((v_0 66 o) - l1_2 + 1).toNat < k2 → WK D cy T (upV v_0 300 y300_c2) A0 H0 H locs → lv_has ls 3 [(0, .ref o), (1, .int (J l1_2))] → W p l e (rmd 4 0 0) s m ar below meth c H locs 0 0 QW (F0 m 2 ls []) := by
    intro k2
    induction k2 with
    | zero =>
      intro l1_2 y300_c2 H locs ls r_l1_2 iv2 ms2 hw hl
      exact absurd ms2 (Nat.not_lt_zero _)
    | succ k2 ih2 =>
      intro l1_2 y300_c2 H locs ls r_l1_2 iv2 ms2 hw hl
      obtain ⟨iv2, ik2_⟩ := iv2
      refine j_iload_n E 3 rfl dX2_solve_2 rfl (lv_at hl 1 rfl) ?_
      refine j_aload_n E 4 rfl dX2_solve_3 rfl (lv_at hl 0 rfl) ?_
      refine g_66 E hK hw fl_X2_31 t_o (v_0 66 o) rfl 7 rfl dX2_solve_4 (fun rr3_ => ?_)
      refine j_icmp_gt E 10 36 rfl r_l1_2 rr3_ dX2_solve_7 (by decide) (fun cc4_ => ?_) (fun cc4_ => ?_)
      · refine j_aload_n E 37 rfl dX2_solve_36 rfl (lv_at hl 0 rfl) ?_
        refine g_64 E hK hw fl_X2_24 t_o (v_0 64 o) rfl 40 rfl dX2_solve_37 (fun rr5_ => ?_)
        refine j_iconst E 41 rfl dX2_solve_40 ?_
        refine j_isub E 42 rfl dX2_solve_41 ?_
        refine j_istore_n E 43 rfl [(1, .int (J ((v_0 64 o) - 1))), (0, .ref o)] dX2_solve_42 rfl hl (by decide) rfl (fun ls hl => ?_)
        have L43_6 : ∀ (k43 : Nat) (l1_43 : Int) (y300_c43 : Nat → Int) (H : Heap) (locs : List Loc) (ls : Array Slot), inR l1_43 → ((-1 ≤ l1_43) ∧ Kd_ T [60, 63] (v_0 300) y300_c43) → (l1_43 + 1).toNat < k43 → WK D cy T (upV v_0 300 y300_c43) A0 H0 H locs → lv_has ls 3 [(0, .ref o), (1, .int (J l1_43))] → W p l e (rmd 4 0 0) s m ar below meth c H locs 0 0 QW (F0 m 43 ls []) := by
          intro k43
          induction k43 with
          | zero =>
            intro l1_43 y300_c43 H locs ls r_l1_43 iv43 ms43 hw hl
            exact absurd ms43 (Nat.not_lt_zero _)
          | succ k43 ih43 =>
            intro l1_43 y300_c43 H locs ls r_l1_43 iv43 ms43 hw hl
            obtain ⟨iv43, ik43_⟩ := iv43
            refine j_iload_n E 44 rfl dX2_solve_43 rfl (lv_at hl 1 rfl) ?_
            refine j_if_lt E 47 81 rfl r_l1_43 dX2_solve_44 (by decide) (fun cc8_ => ?_) (fun cc8_ => ?_)
            · refine j_aload_n E 82 rfl dX2_solve_81 rfl (lv_at hl 0 rfl) ?_
              refine kV_i E (c_X2_isFound l D cy T (upV v_0 300 y300_c43) o  t_o  ) mt_X2_isFound ml_X2_56 hK hw (cw_rc3 hK hw.1 t_o) hA ⟨Nat.le_of_ble_eq_true rfl, Nat.le_of_ble_eq_true rfl⟩ ⟨Nat.le_of_ble_eq_true rfl, Nat.le_of_ble_eq_true rfl⟩ (As := []) (rest := []) rfl rfl hl.1 (Nat.le_of_ble_eq_true rfl) 85 rfl dX2_solve_82 (fun zz9_ v_9 H locs rr9_ hq9_ hw => ?_)
              obtain ⟨ev9_, hh9_⟩ := hq9_
              rw [ev9_] at hw; clear ev9_
              refine j_if_eq E 88 92 rfl rr9_ dX2_solve_85 (by decide) (fun cc10_ => ?_) (fun cc10_ => ?_)
              · exact hret 92 (upV v_0 300 y300_c43) _ _ ls hw ⟨y300_c43, rfl, ⟨trivial, ik43_⟩⟩ dX2_solve_92
              · refine j_aload_n E 89 rfl dX2_solve_88 rfl (lv_at hl 0 rfl) ?_
                refine kV_v E (c_X2_giveLessons l D cy T (upV v_0 300 y300_c43) o  t_o  (show 0 ≤ ((v_0 65) o) from by omega)) mt_X2_giveLessons ml_X2_60 hK hw (cw_rc3 hK hw.1 t_o) hA ⟨Nat.le_of_ble_eq_true rfl, Nat.le_of_ble_eq_true rfl⟩ ⟨Nat.le_of_ble_eq_true rfl, Nat.le_of_ble_eq_true rfl⟩ (As := []) (rest := []) rfl rfl hl.1 (Nat.le_of_ble_eq_true rfl) 92 rfl dX2_solve_89 (fun v_11 H locs hq11_ hw => ?_)
                obtain ⟨y300_11, ev11_, hh11_⟩ := hq11_
                rw [ev11_] at hw; clear ev11_
                have hw : WK D cy T (upV v_0 300 y300_11) A0 H0 H locs := cw_eq hw (by first | rfl | (funext j_; simp only [upV, reduceIte]; (repeat' split) <;> first | rfl | omega | (subst_vars; rfl)))
                obtain ⟨hh11_, kf11_⟩ := hh11_
                exact hret 92 (upV v_0 300 y300_11) _ _ ls hw ⟨y300_11, rfl, ⟨trivial, (Kd_tr ik43_ (Kd_mono kf11_ (by decide)))⟩⟩ dX2_solve_92
            · refine j_iconst E 48 rfl dX2_solve_47 ?_
              refine j_istore_n E 49 rfl [(2, .int (J 0)), (0, .ref o), (1, .int (J l1_43))] dX2_solve_48 rfl hl (by decide) rfl (fun ls hl => ?_)
              have L49_12 : ∀ (k49 : Nat) (l2_49 : Int) (y300_c49 : Nat → Int) (H : Heap) (locs : List Loc) (ls : Array Slot), inR l2_49 → ((0 ≤ l2_49) ∧ Kd_ T [60, 63] (v_0 300) y300_c49) → ((v_0 66 o) - l2_49 + 1).toNat < k49 → WK D cy T (upV v_0 300 y300_c49) A0 H0 H locs → lv_has ls 3 [(0, .ref o), (1, .int (J l1_43)), (2, .int (J l2_49))] → W p l e (rmd 4 0 0) s m ar below meth c H locs 0 0 QW (F0 m 49 ls []) := by
                intro k49
                induction k49 with
                | zero =>
                  intro l2_49 y300_c49 H locs ls r_l2_49 iv49 ms49 hw hl
                  exact absurd ms49 (Nat.not_lt_zero _)
                | succ k49 ih49 =>
                  intro l2_49 y300_c49 H locs ls r_l2_49 iv49 ms49 hw hl
                  obtain ⟨iv49, ik49_⟩ := iv49
                  refine j_iload_n E 50 rfl dX2_solve_49 rfl (lv_at hl 2 rfl) ?_
                  refine j_aload_n E 51 rfl dX2_solve_50 rfl (lv_at hl 0 rfl) ?_
                  refine g_66 E hK hw fl_X2_31 t_o (v_0 66 o) rfl 54 rfl dX2_solve_51 (fun _ => ?_)
                  refine j_icmp_gt E 57 75 rfl r_l2_49 rr3_ dX2_solve_54 (by decide) (fun cc14_ => ?_) (fun cc14_ => ?_)
                  · refine j_iinc E 78 rfl [(1, .int (J (l1_43 + (-1)))), (0, .ref o), (2, .int (J l2_49))] dX2_solve_75 hl (kk := 1) rfl (by decide) rfl (fun ls hl => ?_)
                    refine j_goto E 43 dX2_solve_78 (by decide) ?_
                    exact ih43 (l1_43 + (-1)) y300_c49 H locs ls (rr (by omega)) (⟨by first | omega | (simp only [upB_same]; omega), ik49_⟩) (by omega) hw (lv_sub hl [1, 0] rfl)
                  · refine j_aload_n E 58 rfl dX2_solve_57 rfl (lv_at hl 0 rfl) ?_
                    refine j_iload_n E 59 rfl dX2_solve_58 rfl (lv_at hl 1 rfl) ?_
                    refine j_iload_n E 60 rfl dX2_solve_59 rfl (lv_at hl 2 rfl) ?_
                    refine j_aload_n E 61 rfl dX2_solve_60 rfl (lv_at hl 0 rfl) ?_
                    refine j_iload_n E 62 rfl dX2_solve_61 rfl (lv_at hl 1 rfl) ?_
                    refine j_iload_n E 63 rfl dX2_solve_62 rfl (lv_at hl 2 rfl) ?_
                    refine kV_i E (c_X2_leastCost l D cy T (upV v_0 300 y300_c49) o l1_43 l2_49  t_o r_l1_43 r_l2_49 ) mt_X2_leastCost ml_X2_53 hK hw (cw_rc3 hK hw.1 t_o) hA ⟨Nat.le_of_ble_eq_true rfl, Nat.le_of_ble_eq_true rfl⟩ ⟨Nat.le_of_ble_eq_true rfl, Nat.le_of_ble_eq_true rfl⟩ (As := [.int (J l1_43), .int (J l2_49)]) (rest := [.int (J l2_49), .int (J l1_43), .ref o]) rfl rfl hl.1 (Nat.le_of_ble_eq_true rfl) 66 rfl dX2_solve_63 (fun zz15_ v_15 H locs rr15_ hq15_ hw => ?_)
                    obtain ⟨ev15_, hh15_⟩ := hq15_
                    rw [ev15_] at hw; clear ev15_
                    refine kV_v E (c_X2_putCost l D cy T (upV v_0 300 y300_c49) o l1_43 l2_49 zz15_  t_o r_l1_43 r_l2_49 rr15_ ) mt_X2_putCost ml_X2_49 hK hw (cw_rc3 hK hw.1 t_o) hA ⟨Nat.le_of_ble_eq_true rfl, Nat.le_of_ble_eq_true rfl⟩ ⟨Nat.le_of_ble_eq_true rfl, Nat.le_of_ble_eq_true rfl⟩ (As := [.int (J l1_43), .int (J l2_49), .int (J zz15_)]) (rest := []) rfl rfl hl.1 (Nat.le_of_ble_eq_true rfl) 69 rfl dX2_solve_66 (fun v_16 H locs hq16_ hw => ?_)
                    obtain ⟨y300_16, ev16_, hh16_⟩ := hq16_
                    rw [ev16_] at hw; clear ev16_
                    have hw : WK D cy T (upV v_0 300 y300_16) A0 H0 H locs := cw_eq hw (by first | rfl | (funext j_; simp only [upV, reduceIte]; (repeat' split) <;> first | rfl | omega | (subst_vars; rfl)))
                    obtain ⟨hh16_, kf16_⟩ := hh16_
                    refine j_iinc E 72 rfl [(2, .int (J (l2_49 + 1))), (0, .ref o), (1, .int (J l1_43))] dX2_solve_69 hl (kk := 2) rfl (by decide) rfl (fun ls hl => ?_)
                    refine j_goto E 49 dX2_solve_72 (by decide) ?_
                    exact ih49 (l2_49 + 1) y300_16 H locs ls (rr (by omega)) (⟨by first | omega | (simp only [upB_same]; omega), (Kd_tr ik49_ (Kd_mono kf16_ (by decide)))⟩) (by omega) hw (lv_sub hl [1, 2, 0] rfl)
              exact L49_12 _ 0 y300_c43 H locs ls (rr (by decide)) (⟨by first | omega | (simp only [upB_same]; omega), ik43_⟩) (Nat.lt_succ_self _) hw (lv_sub hl [1, 2, 0] rfl)
        exact L43_6 _ ((v_0 64 o) - 1) y300_c2 H locs ls (rr (by omega)) (⟨by first | omega | (simp only [upB_same]; omega), ik2_⟩) (Nat.lt_succ_self _) hw (lv_sub hl [1, 0] rfl)
      · refine j_aload_n E 11 rfl dX2_solve_10 rfl (lv_at hl 0 rfl) ?_
        refine j_aload_n E 12 rfl dX2_solve_11 rfl (lv_at hl 0 rfl) ?_
        refine g_64 E hK hw fl_X2_24 t_o (v_0 64 o) rfl 15 rfl dX2_solve_12 (fun rr17_ => ?_)
        refine j_iload_n E 16 rfl dX2_solve_15 rfl (lv_at hl 1 rfl) ?_
        refine j_iload_n E 17 rfl dX2_solve_16 rfl (lv_at hl 1 rfl) ?_
        refine j_if_ne E 20 24 rfl r_l1_2 dX2_solve_17 (by decide) (fun cc18_ => ?_) (fun cc18_ => ?_)
        · refine j_sipush E 27 rfl dX2_solve_24 (by decide) ?_
          refine kV_v E (c_X2_putCost l D cy T (upV v_0 300 y300_c2) o (v_0 64 o) l1_2 1000  t_o rr17_ r_l1_2 (rr (by decide)) ) mt_X2_putCost ml_X2_49 hK hw (cw_rc3 hK hw.1 t_o) hA ⟨Nat.le_of_ble_eq_true rfl, Nat.le_of_ble_eq_true rfl⟩ ⟨Nat.le_of_ble_eq_true rfl, Nat.le_of_ble_eq_true rfl⟩ (As := [.int (J (v_0 64 o)), .int (J l1_2), .int (J 1000)]) (rest := []) rfl rfl hl.1 (Nat.le_of_ble_eq_true rfl) 30 rfl dX2_solve_27 (fun v_19 H locs hq19_ hw => ?_)
          obtain ⟨y300_19, ev19_, hh19_⟩ := hq19_
          rw [ev19_] at hw; clear ev19_
          have hw : WK D cy T (upV v_0 300 y300_19) A0 H0 H locs := cw_eq hw (by first | rfl | (funext j_; simp only [upV, reduceIte]; (repeat' split) <;> first | rfl | omega | (subst_vars; rfl)))
          obtain ⟨hh19_, kf19_⟩ := hh19_
          refine j_iinc E 33 rfl [(1, .int (J (l1_2 + 1))), (0, .ref o)] dX2_solve_30 hl (kk := 1) rfl (by decide) rfl (fun ls hl => ?_)
          refine j_goto E 2 dX2_solve_33 (by decide) ?_
          exact ih2 (l1_2 + 1) y300_19 H locs ls (rr (by omega)) (⟨by first | omega | (simp only [upB_same]; omega), (Kd_tr ik2_ (Kd_mono kf19_ (by decide)))⟩) (by omega) hw (lv_sub hl [1, 0] rfl)
        · refine j_iconst E 21 rfl dX2_solve_20 ?_
          refine j_goto E 27 dX2_solve_21 (by decide) ?_
          refine kV_v E (c_X2_putCost l D cy T (upV v_0 300 y300_c2) o (v_0 64 o) l1_2 0  t_o rr17_ r_l1_2 (rr (by decide)) ) mt_X2_putCost ml_X2_49 hK hw (cw_rc3 hK hw.1 t_o) hA ⟨Nat.le_of_ble_eq_true rfl, Nat.le_of_ble_eq_true rfl⟩ ⟨Nat.le_of_ble_eq_true rfl, Nat.le_of_ble_eq_true rfl⟩ (As := [.int (J (v_0 64 o)), .int (J l1_2), .int (J 0)]) (rest := []) rfl rfl hl.1 (Nat.le_of_ble_eq_true rfl) 30 rfl dX2_solve_27 (fun v_20 H locs hq20_ hw => ?_)
          obtain ⟨y300_20, ev20_, hh20_⟩ := hq20_
          rw [ev20_] at hw; clear ev20_
          have hw : WK D cy T (upV v_0 300 y300_20) A0 H0 H locs := cw_eq hw (by first | rfl | (funext j_; simp only [upV, reduceIte]; (repeat' split) <;> first | rfl | omega | (subst_vars; rfl)))
          obtain ⟨hh20_, kf20_⟩ := hh20_
          refine j_iinc E 33 rfl [(1, .int (J (l1_2 + 1))), (0, .ref o)] dX2_solve_30 hl (kk := 1) rfl (by decide) rfl (fun ls hl => ?_)
          refine j_goto E 2 dX2_solve_33 (by decide) ?_
          exact ih2 (l1_2 + 1) y300_20 H locs ls (rr (by omega)) (⟨by first | omega | (simp only [upB_same]; omega), (Kd_tr ik2_ (Kd_mono kf20_ (by decide)))⟩) (by omega) hw (lv_sub hl [1, 0] rfl)
  exact L2_1 _ 0 (v_0 300) H locs ls (rr (by decide)) (⟨by first | omega | (simp only [upB_same]; omega), Kd_rf⟩) (Nat.lt_succ_self _) (cw_eq hw (by first | rfl | (funext j_; simp only [upV, reduceIte]; (repeat' split) <;> first | rfl | omega | (subst_vars; rfl)))) (lv_sub hl [1, 0] rfl)
