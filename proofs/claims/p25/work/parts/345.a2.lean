set_option maxHeartbeats 4000000 in
set_option maxRecDepth 100000 in
theorem n_X7_init (l : Launch) (D : va_G) (cy : Nat → ClassId) (κ T : Nat → Nat → Nat) (v_0 : Nat → Nat → Int) (o : Nat) (v_n : Int) (a_t : Nat) (a_c : Nat) (sz : Nat) (hO : ∀ x, ow T x → κ 2 2 ≤ x) (t_o : T 0 o = 108) (r_v_n : inR v_n) (t_t : T 0 a_t = 20) (t_c : T 0 a_c = 20) (hp0 : v_n ≤ 40) : KA l D cy κ T yX7_init cX7_init 4 none 2 1 40 [.ref o, .int (J v_n), .ref a_t, .ref a_c] v_0 sz (AV (fun (T_2 : Nat → Nat → Nat) (v_2 : Nat → Nat → Int) => ∃ (y160_2 : Nat → Int) , v_2 = upV v_0 160 y160_2 ∧ ((∀ b, b < sz → b ≠ o → ∀ k, T_2 k b = T k b) ∧ T_2 0 o = 8))) := by
  refine KA.ofv (by decide) (Nat.le_of_ble_eq_true rfl) hO ?_
  intro p e s m below meth c ls ar QW A0 H locs E hK hZ hA hAc hsz hnm hw hlo_ hl hret
  have hl : lv_has ls 4 [(0, .ref o), (1, .int (J v_n)), (2, .ref a_t), (3, .ref a_c)] := hl
  have hT : WT T := hw.1.2.1
  have hoT_ : OW T T s.heap.size := OW.rf T _
  have hR_ : ∀ b, b < sz → b ≠ o → ∀ k, T k b = T k b := fun b _ _ k => rfl
  refine j_aload_n E 1 rfl dX7_init_0 rfl (lv_at hl 0 rfl) ?_
  refine W.objInit E.1 E.2.1 E.2.2.2.1 (E.2.2.2.2.1 _ mo_X7_3) (E.2.2.2.2.1 _ im_ob) (E.2.2.2.2.1 _ cd_ob) rfl (by rw [E.2.2.1]; exact hl.1) rfl dX7_init_1 (Nat.le_of_ble_eq_true rfl) (Nat.le_of_ble_eq_true rfl) ?_
  show W p l e (rmd 2 1 40) s m ar below meth c H locs _ _ QW (F0 m 4 ls [])
  refine j_aload_n E 5 rfl dX7_init_4 rfl (lv_at hl 0 rfl) ?_
  refine j_iload_n E 6 rfl dX7_init_5 rfl (lv_at hl 1 rfl) ?_
  refine rp_160 E hK hw hnm fl_X7_9 t_o r_v_n 9 rfl dX7_init_6 (fun H locs hw => ?_)
  have hw : WK D cy T (upV v_0 160 (upB (v_0 160) o v_n)) A0 s.heap H locs := cw_eq hw (by first | rfl | (funext j_; simp only [upV, reduceIte]; (repeat' split) <;> first | rfl | omega | (subst_vars; rfl)))
  refine j_aload_n E 10 rfl dX7_init_9 rfl (lv_at hl 0 rfl) ?_
  refine j_aload_n E 11 rfl dX7_init_10 rfl (lv_at hl 2 rfl) ?_
  have hw0_ := hw
  refine rr_161 E hK hw hnm fl_X7_15 t_o 14 rfl dX7_init_11 (fun T2_ H locs hx2_ hj2_ hk2_ ho2_ hw => ?_)
  have hT2_ : WT T2_ := hw.1.2.1
  have hO2_ : ∀ x, ow T2_ x → κ 2 2 ≤ x := fun x h => hAc x (hw.2.1 x h)
  have hoT_ : OW T T2_ s.heap.size := OW.tr0 hoT_ ho2_
  have hR_ : ∀ b, b < sz → b ≠ o → ∀ k, T2_ k b = T k b := fun b_ h1_ h2_ k_ => (hx2_ b_ h2_ k_).trans (hR_ b_ h1_ h2_ k_)
  have u3_ : T2_ 0 o = 108 := (hj2_ 0 (by decide)).trans t_o
  have u4_ : T2_ 0 a_t = 20 := (hx2_ a_t (ty_ne t_t t_o (by decide)) 0).trans t_t
  have u5_ : T2_ 0 a_c = 20 := (hx2_ a_c (ty_ne t_c t_o (by decide)) 0).trans t_c
  refine j_aload_n E 15 rfl dX7_init_14 rfl (lv_at hl 0 rfl) ?_
  refine j_aload_n E 16 rfl dX7_init_15 rfl (lv_at hl 3 rfl) ?_
  have hw0_ := hw
  refine rr_162 E hK hw hnm fl_X7_19 u3_ 19 rfl dX7_init_16 (fun T6_ H locs hx6_ hj6_ hk6_ ho6_ hw => ?_)
  have hT6_ : WT T6_ := hw.1.2.1
  have hO6_ : ∀ x, ow T6_ x → κ 2 2 ≤ x := fun x h => hAc x (hw.2.1 x h)
  have hoT_ : OW T T6_ s.heap.size := OW.tr0 hoT_ ho6_
  have hR_ : ∀ b, b < sz → b ≠ o → ∀ k, T6_ k b = T k b := fun b_ h1_ h2_ k_ => (hx6_ b_ h2_ k_).trans (hR_ b_ h1_ h2_ k_)
  have u7_ : T6_ 0 o = 108 := (hj6_ 0 (by decide)).trans u3_
  have u8_ : T6_ 0 a_t = 20 := (hx6_ a_t (ty_ne u4_ u3_ (by decide)) 0).trans u4_
  have u9_ : T6_ 0 a_c = 20 := (hx6_ a_c (ty_ne u5_ u3_ (by decide)) 0).trans u5_
  have u10_ : T6_ 161 o = a_t + 1 := (hj6_ 161 (by decide)).trans hk2_
  refine j_aload_n E 20 rfl dX7_init_19 rfl (lv_at hl 0 rfl) ?_
  refine j_iconst E 21 rfl dX7_init_20 ?_
  refine j_iload_n E 22 rfl dX7_init_21 rfl (lv_at hl 1 rfl) ?_
  refine j_max E hl.1 ml_X7_22 (rr (by decide)) r_v_n ⟨Nat.le_of_ble_eq_true rfl, Nat.le_of_ble_eq_true rfl⟩ ⟨Nat.le_of_ble_eq_true rfl, Nat.le_of_ble_eq_true rfl⟩ 25 rfl dX7_init_22 (fun zz11_ rr11_ hh11_ => ?_)
  have hw0_ := hw
  refine n_arr20 E hK hw hA (zz11_).toNat (by omega) (Int.toNat_of_nonneg (by omega)).symm (Nat.le_of_ble_eq_true rfl) (show 0 + (zz11_).toNat ≤ 40 from by omega) 27 rfl dX7_init_25 (fun q12_ T12_ H hge12_ hx12_ ho12_ tq12_ tl12_ hw => ?_)
  refine W.widen (Nat.le_refl _) (show 0 + (zz11_).toNat ≤ 40 from by omega) ?_
  have fq12_ : s.heap.size ≤ q12_ := Nat.le_trans hw0_.2.2.1 hge12_
  have hT12_ : WT T12_ := hw.1.2.1
  have hO12_ : ∀ x, ow T12_ x → κ 2 2 ≤ x := fun x h => hAc x (hw.2.1 x h)
  have hoT_ : OW T T12_ s.heap.size := OW.tr hw0_.2.2.1 hoT_ ho12_
  have hR_ : ∀ b, b < sz → b ≠ o → ∀ k, T12_ k b = T k b := fun b_ h1_ h2_ k_ => (hx12_ b_ (by have := hw0_.2.2.1; have := hge12_; omega) k_).trans (hR_ b_ h1_ h2_ k_)
  have u13_ : T12_ 0 o = 108 := (hx12_ o (Nat.ne_of_lt (Nat.lt_of_lt_of_le (cw_lt hw0_.1 u7_ (fun _ _ _ => ⟨_, rfl⟩)) hge12_)) 0).trans u7_
  have u14_ : T12_ 0 a_t = 20 := (hx12_ a_t (Nat.ne_of_lt (Nat.lt_of_lt_of_le (cw_lt hw0_.1 u8_ (fun _ _ _ => ⟨_, rfl⟩)) hge12_)) 0).trans u8_
  have u15_ : T12_ 0 a_c = 20 := (hx12_ a_c (Nat.ne_of_lt (Nat.lt_of_lt_of_le (cw_lt hw0_.1 u9_ (fun _ _ _ => ⟨_, rfl⟩)) hge12_)) 0).trans u9_
  have u16_ : T12_ 161 o = a_t + 1 := (hx12_ o (Nat.ne_of_lt (Nat.lt_of_lt_of_le (cw_lt hw0_.1 u7_ (fun _ _ _ => ⟨_, rfl⟩)) hge12_)) 161).trans u10_
  have u17_ : T12_ 162 o = a_c + 1 := (hx12_ o (Nat.ne_of_lt (Nat.lt_of_lt_of_le (cw_lt hw0_.1 u7_ (fun _ _ _ => ⟨_, rfl⟩)) hge12_)) 162).trans hk6_
  have hw0_ := hw
  refine rr_163 E hK hw hnm fl_X7_28 u13_ 30 rfl dX7_init_27 (fun T18_ H locs hx18_ hj18_ hk18_ ho18_ hw => ?_)
  have hT18_ : WT T18_ := hw.1.2.1
  have hO18_ : ∀ x, ow T18_ x → κ 2 2 ≤ x := fun x h => hAc x (hw.2.1 x h)
  have hoT_ : OW T T18_ s.heap.size := OW.tr0 hoT_ ho18_
  have hR_ : ∀ b, b < sz → b ≠ o → ∀ k, T18_ k b = T k b := fun b_ h1_ h2_ k_ => (hx18_ b_ h2_ k_).trans (hR_ b_ h1_ h2_ k_)
  have u19_ : T18_ 0 o = 108 := (hj18_ 0 (by decide)).trans u13_
  have u20_ : T18_ 0 a_t = 20 := (hx18_ a_t (ty_ne u14_ u13_ (by decide)) 0).trans u14_
  have u21_ : T18_ 0 a_c = 20 := (hx18_ a_c (ty_ne u15_ u13_ (by decide)) 0).trans u15_
  have u22_ : T18_ 0 q12_ = 20 := (hx18_ q12_ (ty_ne tq12_ u13_ (by decide)) 0).trans tq12_
  have u23_ : T18_ 1 q12_ = (zz11_).toNat := (hx18_ q12_ (ty_ne tq12_ u13_ (by decide)) 1).trans tl12_
  have u24_ : T18_ 161 o = a_t + 1 := (hj18_ 161 (by decide)).trans u16_
  have u25_ : T18_ 162 o = a_c + 1 := (hj18_ 162 (by decide)).trans u17_
  have hw0_ := hw
  obtain ⟨T26_, hx26_, tq26_, xe26_161_, xe26_162_, xe26_163_, ho26_, hw⟩ := pm_8 hw u19_ u24_ u20_ u25_ u21_ hk18_ u22_
  have hT26_ : WT T26_ := hw.1.2.1
  have hO26_ : ∀ x, ow T26_ x → κ 2 2 ≤ x := fun x h => hAc x (hw.2.1 x h)
  have hoT_ : OW T T26_ s.heap.size := OW.tr0 hoT_ ho26_
  have hR_ : ∀ b, b < sz → b ≠ o → ∀ k, T26_ k b = T k b := fun b_ h1_ h2_ k_ => (hx26_ b_ h2_ k_).trans (hR_ b_ h1_ h2_ k_)
  have u27_ : T26_ 0 a_t = 20 := (hx26_ a_t (ty_ne u20_ u19_ (by decide)) 0).trans u20_
  have u28_ : T26_ 0 a_c = 20 := (hx26_ a_c (ty_ne u21_ u19_ (by decide)) 0).trans u21_
  refine j_aload_n E 31 rfl dX7_init_30 rfl (lv_at hl 0 rfl) ?_
  refine g_163 E hK hw fl_X7_28 tq26_ 34 rfl dX7_init_31 ?_
  refine j_iconst E 35 rfl dX7_init_34 ?_
  refine kS_v E (c_J7_fill_53178 l D cy T26_ (upV v_0 160 (upB (v_0 160) o v_n)) (T26_ 163 o) ((-1))   (wt_163 hT26_ tq26_) (rr (by decide)) ) ms_J7_fill_53178 ml_X7_31 hK hw hA ⟨Nat.le_of_ble_eq_true rfl, Nat.le_of_ble_eq_true rfl⟩ ⟨Nat.le_of_ble_eq_true rfl, Nat.le_of_ble_eq_true rfl⟩ (As := [.ref (T26_ 163 o), .int (J ((-1)))]) (rest := []) rfl rfl hl.1 (Nat.le_of_ble_eq_true rfl) 38 rfl dX7_init_35 (fun v_29 H locs hq29_ hw => ?_)
  obtain ⟨ev29_, hh29_⟩ := hq29_
  rw [ev29_] at hw; clear ev29_
  exact hret 38 T26_ (upV v_0 160 (upB (v_0 160) o v_n)) _ _ ls _ _ hw hoT_ ⟨(upB (v_0 160) o v_n), rfl, ⟨hR_, tq26_⟩⟩ (Nat.le_of_ble_eq_true rfl) (Nat.le_of_ble_eq_true rfl) dX7_init_38
set_option maxHeartbeats 4000000 in
set_option maxRecDepth 100000 in
theorem n_X5_copyOfTokens (l : Launch) (D : va_G) (cy : Nat → ClassId) (κ T : Nat → Nat → Nat) (v_0 : Nat → Nat → Int) (o : Nat) (sz : Nat) (hO : ∀ x, ow T x → κ 2 2 ≤ x) (t_o : T 0 o = 6) (hp0 : (v_0 123 o) ≤ 400) : KA l D cy κ T yX5_copyOfTokens cX5_copyOfTokens 3 (some (.array .int)) 2 1 400 [.ref o] v_0 sz (AN (fun (x_0 : Nat) (T_2 : Nat → Nat → Nat) (v_2 : Nat → Nat → Int) => v_2 = v_0 ∧ ((∀ b, b < sz → ∀ k, T_2 k b = T k b) ∧ T_2 0 x_0 = 20))) := by
  refine KA.ofn (Or.inr ⟨_, rfl⟩) (by decide) (Nat.le_of_ble_eq_true rfl) hO ?_
  intro p e s m below meth c ls ar QW A0 H locs E hK hZ hA hAc hsz hnm hw hlo_ hl hret
  have hl : lv_has ls 3 [(0, .ref o)] := hl
  have hT : WT T := hw.1.2.1
  have hoT_ : OW T T s.heap.size := OW.rf T _
  have hR_ : ∀ b, b < sz → ∀ k, T k b = T k b := fun b _ k => rfl
  refine j_iconst E 1 rfl dX5_copyOfTokens_0 ?_
  refine j_aload_n E 2 rfl dX5_copyOfTokens_1 rfl (lv_at hl 0 rfl) ?_
  refine g_123 E hK hw fl_X5_21 t_o (v_0 123 o) rfl 5 rfl dX5_copyOfTokens_2 (fun rr1_ => ?_)
  refine j_max E hl.1 ml_X5_34 (rr (by decide)) rr1_ ⟨Nat.le_of_ble_eq_true rfl, Nat.le_of_ble_eq_true rfl⟩ ⟨Nat.le_of_ble_eq_true rfl, Nat.le_of_ble_eq_true rfl⟩ 8 rfl dX5_copyOfTokens_5 (fun zz2_ rr2_ hh2_ => ?_)
  have hw0_ := hw
  refine n_arr20 E hK hw hA (zz2_).toNat (by omega) (Int.toNat_of_nonneg (by omega)).symm (Nat.le_of_ble_eq_true rfl) (show 0 + (zz2_).toNat ≤ 400 from by omega) 10 rfl dX5_copyOfTokens_8 (fun q3_ T3_ H hge3_ hx3_ ho3_ tq3_ tl3_ hw => ?_)
  refine W.widen (Nat.le_refl _) (show 0 + (zz2_).toNat ≤ 400 from by omega) ?_
  have fq3_ : s.heap.size ≤ q3_ := Nat.le_trans hw0_.2.2.1 hge3_
  have hT3_ : WT T3_ := hw.1.2.1
  have hO3_ : ∀ x, ow T3_ x → κ 2 2 ≤ x := fun x h => hAc x (hw.2.1 x h)
  have hoT_ : OW T T3_ s.heap.size := OW.tr hw0_.2.2.1 hoT_ ho3_
  have hR_ : ∀ b, b < sz → ∀ k, T3_ k b = T k b := fun b_ h1_ k_ => (hx3_ b_ (by have := hw0_.2.2.1; have := hge3_; omega) k_).trans (hR_ b_ h1_ k_)
  have u4_ : T3_ 0 o = 6 := (hx3_ o (Nat.ne_of_lt (Nat.lt_of_lt_of_le (cw_lt hw0_.1 t_o (fun _ _ _ => ⟨_, rfl⟩)) hge3_)) 0).trans t_o
  refine j_astore_n E 11 rfl [(1, .ref q3_), (0, .ref o)] dX5_copyOfTokens_10 rfl hl (by decide) rfl (fun ls hl => ?_)
  refine j_iconst E 12 rfl dX5_copyOfTokens_11 ?_
  refine j_istore_n E 13 rfl [(2, .int (J 0)), (1, .ref q3_), (0, .ref o)] dX5_copyOfTokens_12 rfl hl (by decide) rfl (fun ls hl => ?_)
  have L13_5 : ∀ (k13 : Nat) (l2_13 : Int) (H : Heap) (locs : List Loc) (ls : Array Slot), inR l2_13 → (0 ≤ l2_13) → ((T3_ 1 q3_ : Int) - l2_13).toNat < k13 → WK D cy T3_ (v_0) A0 s.heap H locs → lv_has ls 3 [(0, .ref o), (1, .ref q3_), (2, .int (J l2_13))] → W p l e (rmd 2 1 400) s m ar below meth c H locs 1 400 QW (F0 m 13 ls []) := by
    intro k13
    induction k13 with
    | zero =>
      intro l2_13 H locs ls r_l2_13 iv13 ms13 hw hl
      exact absurd ms13 (Nat.not_lt_zero _)
    | succ k13 ih13 =>
      intro l2_13 H locs ls r_l2_13 iv13 ms13 hw hl
      refine j_iload_n E 14 rfl dX5_copyOfTokens_13 rfl (lv_at hl 2 rfl) ?_
      refine j_aload_n E 15 rfl dX5_copyOfTokens_14 rfl (lv_at hl 1 rfl) ?_
      refine a_ln20 E hK hw tq3_ 16 rfl dX5_copyOfTokens_15 (fun rr7_ => ?_)
      refine j_icmp_ge E 19 54 rfl r_l2_13 rr7_ dX5_copyOfTokens_16 (by decide) (fun cc8_ => ?_) (fun cc8_ => ?_)
      · refine j_aload_n E 55 rfl dX5_copyOfTokens_54 rfl (lv_at hl 1 rfl) ?_
        exact hret 55 q3_ T3_ (v_0) _ _ ls _ _ hw hoT_ ⟨rfl, ⟨hR_, tq3_⟩⟩ (Nat.le_of_ble_eq_true rfl) (Nat.le_of_ble_eq_true rfl) dX5_copyOfTokens_55
      · refine j_aload_n E 20 rfl dX5_copyOfTokens_19 rfl (lv_at hl 1 rfl) ?_
        refine j_iload_n E 21 rfl dX5_copyOfTokens_20 rfl (lv_at hl 2 rfl) ?_
        have L47_9 : ∀ (s0_47 : Int) (H : Heap) (locs : List Loc) (ls : Array Slot), inR s0_47 → (True) → WK D cy T3_ (v_0) A0 s.heap H locs → lv_has ls 3 [(0, .ref o), (1, .ref q3_), (2, .int (J l2_13))] → W p l e (rmd 2 1 400) s m ar below meth c H locs 1 400 QW (F0 m 47 ls [.int (J s0_47), .int (J l2_13), .ref q3_]) := by
          intro s0_47 H locs ls r_s0_47 iv47 hw hl
          refine a_st20 E hK hw tq3_ (by omega) 48 rfl dX5_copyOfTokens_47 (fun H locs hw => ?_)
          refine j_iinc E 51 rfl [(2, .int (J (l2_13 + 1))), (0, .ref o), (1, .ref q3_)] dX5_copyOfTokens_48 hl (kk := 2) rfl (by decide) rfl (fun ls hl => ?_)
          refine j_goto E 13 dX5_copyOfTokens_51 (by decide) ?_
          exact ih13 (l2_13 + 1)  H locs ls (rr (by omega)) (by omega) (by omega) hw (lv_sub hl [1, 2, 0] rfl)
        refine j_aload_n E 22 rfl dX5_copyOfTokens_21 rfl (lv_at hl 0 rfl) ?_
        refine j_iload_n E 23 rfl dX5_copyOfTokens_22 rfl (lv_at hl 2 rfl) ?_
        refine kV_i E (c_X5_kindAt l D cy T3_ (v_0) o l2_13  u4_ r_l2_13 ) mt_X5_kindAt ml_X5_64 hK hw (cw_rc6 hK hw.1 u4_) hA ⟨Nat.le_of_ble_eq_true rfl, Nat.le_of_ble_eq_true rfl⟩ ⟨Nat.le_of_ble_eq_true rfl, Nat.le_of_ble_eq_true rfl⟩ (As := [.int (J l2_13)]) (rest := [.int (J l2_13), .ref q3_]) rfl rfl hl.1 (Nat.le_of_ble_eq_true rfl) 26 rfl dX5_copyOfTokens_23 (fun zz11_ v_11 H locs rr11_ hq11_ hw => ?_)
        obtain ⟨ev11_, hh11_⟩ := hq11_
        rw [ev11_] at hw; clear ev11_
        refine j_iconst E 27 rfl dX5_copyOfTokens_26 ?_
        refine j_icmp_ne E 30 38 rfl rr11_ (rr (by decide)) dX5_copyOfTokens_27 (by decide) (fun cc12_ => ?_) (fun cc12_ => ?_)
        · refine j_sipush E 41 rfl dX5_copyOfTokens_38 (by decide) ?_
          refine j_aload_n E 42 rfl dX5_copyOfTokens_41 rfl (lv_at hl 0 rfl) ?_
          refine j_iload_n E 43 rfl dX5_copyOfTokens_42 rfl (lv_at hl 2 rfl) ?_
          refine kV_i E (c_X5_kindAt l D cy T3_ (v_0) o l2_13  u4_ r_l2_13 ) mt_X5_kindAt ml_X5_64 hK hw (cw_rc6 hK hw.1 u4_) hA ⟨Nat.le_of_ble_eq_true rfl, Nat.le_of_ble_eq_true rfl⟩ ⟨Nat.le_of_ble_eq_true rfl, Nat.le_of_ble_eq_true rfl⟩ (As := [.int (J l2_13)]) (rest := [.int (J 10000), .int (J l2_13), .ref q3_]) rfl rfl hl.1 (Nat.le_of_ble_eq_true rfl) 46 rfl dX5_copyOfTokens_43 (fun zz13_ v_13 H locs rr13_ hq13_ hw => ?_)
          obtain ⟨ev13_, hh13_⟩ := hq13_
          rw [ev13_] at hw; clear ev13_
          refine j_iadd E 47 rfl dX5_copyOfTokens_46 ?_
          refine j_norm (fun zz14_ rr14_ ee14_ => ?_)
          exact L47_9 zz14_  H locs ls rr14_ (trivial) hw (lv_sub hl [0, 1, 2] rfl)
        · refine j_aload_n E 31 rfl dX5_copyOfTokens_30 rfl (lv_at hl 0 rfl) ?_
          refine j_iload_n E 32 rfl dX5_copyOfTokens_31 rfl (lv_at hl 2 rfl) ?_
          refine kV_i E (c_X5_valueAt l D cy T3_ (v_0) o l2_13  u4_ r_l2_13 ) mt_X5_valueAt ml_X5_68 hK hw (cw_rc6 hK hw.1 u4_) hA ⟨Nat.le_of_ble_eq_true rfl, Nat.le_of_ble_eq_true rfl⟩ ⟨Nat.le_of_ble_eq_true rfl, Nat.le_of_ble_eq_true rfl⟩ (As := [.int (J l2_13)]) (rest := [.int (J l2_13), .ref q3_]) rfl rfl hl.1 (Nat.le_of_ble_eq_true rfl) 35 rfl dX5_copyOfTokens_32 (fun zz15_ v_15 H locs rr15_ hq15_ hw => ?_)
          obtain ⟨ev15_, hh15_⟩ := hq15_
          rw [ev15_] at hw; clear ev15_
          refine j_goto E 47 dX5_copyOfTokens_35 (by decide) ?_
          exact L47_9 zz15_  H locs ls rr15_ (trivial) hw (lv_sub hl [0, 1, 2] rfl)
  exact L13_5 _ 0  H locs ls (rr (by decide)) (by omega) (Nat.lt_succ_self _) hw (lv_sub hl [2, 1, 0] rfl)
set_option maxHeartbeats 4000000 in
set_option maxRecDepth 100000 in
theorem n_X3_copyOfTokens (l : Launch) (D : va_G) (cy : Nat → ClassId) (κ T : Nat → Nat → Nat) (v_0 : Nat → Nat → Int) (o : Nat) (sz : Nat) (hO : ∀ x, ow T x → κ 2 2 ≤ x) (t_o : T 0 o = 4) (hp0 : (v_0 123 (T 82 o)) ≤ 400) : KA l D cy κ T yX3_copyOfTokens cX3_copyOfTokens 1 (some (.array .int)) 3 1 400 [.ref o] v_0 sz (AN (fun (x_0 : Nat) (T_2 : Nat → Nat → Nat) (v_2 : Nat → Nat → Int) => v_2 = v_0 ∧ ((∀ b, b < sz → ∀ k, T_2 k b = T k b) ∧ T_2 0 x_0 = 20))) := by
  refine KA.ofn (Or.inr ⟨_, rfl⟩) (by decide) (Nat.le_of_ble_eq_true rfl) hO ?_
  intro p e s m below meth c ls ar QW A0 H locs E hK hZ hA hAc hsz hnm hw hlo_ hl hret
  have hl : lv_has ls 1 [(0, .ref o)] := hl
  have hT : WT T := hw.1.2.1
  have hoT_ : OW T T s.heap.size := OW.rf T _
  have hR_ : ∀ b, b < sz → ∀ k, T k b = T k b := fun b _ k => rfl
  refine j_aload_n E 1 rfl dX3_copyOfTokens_0 rfl (lv_at hl 0 rfl) ?_
  refine g_82 E hK hw fl_X3_21 t_o 4 rfl dX3_copyOfTokens_1 ?_
  have hw0_ := hw
  refine aV_n E (n_X5_copyOfTokens l D cy κ T (v_0) (T 82 o) H.size  hO (wt_82 hT t_o)  (show ((v_0 123) ((T 82 o))) ≤ 400 from by first | omega | (simp only [upB_same]; omega))) mt_X5_copyOfTokens ml_X3_69 hK hZ hAc hw (cw_rc6 hK hw.1 (wt_82 hT t_o)) hA ⟨(Nat.le_of_ble_eq_true rfl), (Nat.le_of_ble_eq_true rfl)⟩ ⟨(Nat.le_of_ble_eq_true rfl), (Nat.le_of_ble_eq_true rfl)⟩ (As := []) (rest := []) rfl rfl hl.1 (Nat.le_of_ble_eq_true rfl) 7 rfl dX3_copyOfTokens_4 (fun xx1_ T1_ v_1 H locs hge1_ ho1_ hq1_ hw => ?_)
  obtain ⟨ev1_, hh1_⟩ := hq1_
  rw [ev1_] at hw; clear ev1_
  obtain ⟨hx1_, tq1_⟩ := hh1_
  have hT1_ : WT T1_ := hw.1.2.1
  have hO1_ : ∀ x, ow T1_ x → κ 2 2 ≤ x := fun x h => hAc x (hw.2.1 x h)
  have hoT_ : OW T T1_ s.heap.size := OW.tr hw0_.2.2.1 hoT_ ho1_
  have hR_ : ∀ b, b < sz → ∀ k, T1_ k b = T k b := fun b_ h1_ k_ => (hx1_ b_ (by have := hw0_.2.2.1; omega) k_).trans (hR_ b_ h1_ k_)
  have u2_ : T1_ 0 o = 4 := (hx1_ o (cw_lt hw0_.1 t_o (fun _ _ _ => ⟨_, rfl⟩)) 0).trans t_o
  exact hret 7 xx1_ T1_ (v_0) _ _ ls _ _ hw hoT_ ⟨rfl, ⟨hR_, tq1_⟩⟩ (Nat.le_of_ble_eq_true rfl) (Nat.le_of_ble_eq_true rfl) dX3_copyOfTokens_7
set_option maxHeartbeats 4000000 in
set_option maxRecDepth 100000 in
theorem n_X3_copyOfCode (l : Launch) (D : va_G) (cy : Nat → ClassId) (κ T : Nat → Nat → Nat) (v_0 : Nat → Nat → Int) (o : Nat) (sz : Nat) (hO : ∀ x, ow T x → κ 2 2 ≤ x) (t_o : T 0 o = 4) (hp0 : (v_0 86 o) ≤ 400) : KA l D cy κ T yX3_copyOfCode cX3_copyOfCode 1 (some (.array .int)) 3 1 400 [.ref o] v_0 sz (AN (fun (x_0 : Nat) (T_2 : Nat → Nat → Nat) (v_2 : Nat → Nat → Int) => v_2 = v_0 ∧ ((∀ b, b < sz → ∀ k, T_2 k b = T k b) ∧ T_2 0 x_0 = 20))) := by
  refine KA.ofn (Or.inr ⟨_, rfl⟩) (by decide) (Nat.le_of_ble_eq_true rfl) hO ?_
  intro p e s m below meth c ls ar QW A0 H locs E hK hZ hA hAc hsz hnm hw hlo_ hl hret
  have hl : lv_has ls 1 [(0, .ref o)] := hl
  have hT : WT T := hw.1.2.1
  have hoT_ : OW T T s.heap.size := OW.rf T _
  have hR_ : ∀ b, b < sz → ∀ k, T k b = T k b := fun b _ k => rfl
  refine j_aload_n E 1 rfl dX3_copyOfCode_0 rfl (lv_at hl 0 rfl) ?_
  refine g_85 E hK hw fl_X3_33 t_o 4 rfl dX3_copyOfCode_1 ?_
  have ln1_ := wl_85 hT t_o
  refine j_iconst E 5 rfl dX3_copyOfCode_4 ?_
  refine j_aload_n E 6 rfl dX3_copyOfCode_5 rfl (lv_at hl 0 rfl) ?_
  refine g_86 E hK hw fl_X3_37 t_o (v_0 86 o) rfl 9 rfl dX3_copyOfCode_6 (fun rr2_ => ?_)
  refine j_max E hl.1 ml_X3_73 (rr (by decide)) rr2_ ⟨Nat.le_of_ble_eq_true rfl, Nat.le_of_ble_eq_true rfl⟩ ⟨Nat.le_of_ble_eq_true rfl, Nat.le_of_ble_eq_true rfl⟩ 12 rfl dX3_copyOfCode_9 (fun zz3_ rr3_ hh3_ => ?_)
  have hw0_ := hw
  refine aS_n E (n_J7_copyOf_59c91 l D cy κ T (v_0) (T 85 o) zz3_ H.size  hO  (wt_85 hT t_o) rr3_ (show 0 ≤ zz3_ ∧ zz3_ ≤ 400 from by omega)) ms_J7_copyOf_59c91 ml_X3_79 hK hZ hAc hw hA ⟨(Nat.le_of_ble_eq_true rfl), (Nat.le_of_ble_eq_true rfl)⟩ ⟨(Nat.le_of_ble_eq_true rfl), (Nat.le_of_ble_eq_true rfl)⟩ (As := [.ref (T 85 o), .int (J zz3_)]) (rest := []) rfl rfl hl.1 (Nat.le_of_ble_eq_true rfl) 15 rfl dX3_copyOfCode_12 (fun xx4_ T4_ v_4 H locs hge4_ ho4_ hq4_ hw => ?_)
  obtain ⟨ev4_, hh4_⟩ := hq4_
  rw [ev4_] at hw; clear ev4_
  obtain ⟨hx4_, tq4_⟩ := hh4_
  have hT4_ : WT T4_ := hw.1.2.1
  have hO4_ : ∀ x, ow T4_ x → κ 2 2 ≤ x := fun x h => hAc x (hw.2.1 x h)
  have hoT_ : OW T T4_ s.heap.size := OW.tr hw0_.2.2.1 hoT_ ho4_
  have hR_ : ∀ b, b < sz → ∀ k, T4_ k b = T k b := fun b_ h1_ k_ => (hx4_ b_ (by have := hw0_.2.2.1; omega) k_).trans (hR_ b_ h1_ k_)
  have u5_ : T4_ 0 o = 4 := (hx4_ o (cw_lt hw0_.1 t_o (fun _ _ _ => ⟨_, rfl⟩)) 0).trans t_o
  exact hret 15 xx4_ T4_ (v_0) _ _ ls _ _ hw hoT_ ⟨rfl, ⟨hR_, tq4_⟩⟩ (Nat.le_of_ble_eq_true rfl) (Nat.le_of_ble_eq_true rfl) dX3_copyOfCode_15
