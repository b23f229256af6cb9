set_option maxHeartbeats 4000000 in
set_option maxRecDepth 100000 in
theorem n_X7_init (l : Launch) (D : va_G) (cy : Nat → ClassId) (κ T : Nat → Nat → Nat) (v_0 : Nat → Nat → Int) (o : Nat) (v_n : Int) (a_t : Nat) (a_c : Nat) (sz : Nat) (hO : ∀ x, ow T x → κ 2 2 ≤ x) (t_o : T 0 o = 108) (r_v_n : inR v_n) (t_t : T 0 a_t = 20) (t_c : T 0 a_c = 20) (hp0 : v_n ≤ 40) (hp1 : T 3 a_t = 300 * o + 161) (hp2 : T 3 a_c = 300 * o + 162) : KA l D cy κ T yX7_init cX7_init 4 none 2 1 40 [.ref o, .int (J v_n), .ref a_t, .ref a_c] v_0 sz (AV (fun (T_2 : Nat → Nat → Nat) (v_2 : Nat → Nat → Int) => ∃ (y160_2 : Nat → Int) (y300_2 : Nat → Int) , v_2 = upV (upV v_0 160 y160_2) 300 y300_2 ∧ ((∀ b, b < sz → b ≠ o → ∀ k, T_2 k b = T k b) ∧ T_2 0 o = 8))) := by
  refine KA.ofv (by decide) (Nat.le_of_ble_eq_true rfl) hO ?_
  intro p e s m below meth c ls ar QW A0 H locs E hK hZ hA hAc hsz hnm hw hlo_ hl hret
  have hl : lv_has ls 4 [(0, .ref o), (1, .int (J v_n)), (2, .ref a_t), (3, .ref a_c)] := hl
  have hT : WT T := hw.1.2.1
  have hoT_ : OW T T s.heap.size := OW.rf T _
  have hR_ : ∀ b, b < sz → b ≠ o → ∀ k, T k b = T k b := fun b _ _ k => rfl
  refine j_aload_n E 1 rfl dX7_init_0 rfl (lv_at hl 0 rfl) ?_
  refine W.objInit E.1 E.2.1 E.2.2.2.1 (E.2.2.2.2.1 _ mo_X7_3) (E.2.2.2.2.1 _ im_ob) (E.2.2.2.2.1 _ cd_ob) rfl (by rw [E.2.2.1]; exact hl.1) rfl dX7_init_1 (Nat.le_of_ble_eq_true rfl) (Nat.le_of_ble_eq_true rfl) ?_
  show W p l e (rmd 2 1 40) s m ar below meth c H locs _ _ QW (F0 m 4 ls [])
  refine j_aload_n E 5 rfl dX7_init_4 rfl (lv_at hl 0 rfl) ?_
  refine j_iload_n E 6 rfl dX7_init_5 rfl (lv_at hl 1 rfl) ?_
  refine rp_160 E hK hw hnm fl_X7_9 t_o r_v_n 9 rfl dX7_init_6 (fun H locs hw => ?_)
  have hw : WK D cy T (upV v_0 160 (upB (v_0 160) o v_n)) A0 s.heap H locs := cw_eq hw (by first | rfl | (funext j_; simp only [upV, reduceIte]; (repeat' split) <;> first | rfl | omega | (subst_vars; rfl)))
  refine j_aload_n E 10 rfl dX7_init_9 rfl (lv_at hl 0 rfl) ?_
  refine j_aload_n E 11 rfl dX7_init_10 rfl (lv_at hl 2 rfl) ?_
  have hw0_ := hw
  refine rr_161 E hK hw hnm fl_X7_15 t_o 14 rfl dX7_init_11 (fun T2_ H locs hx2_ hj2_ hk2_ ho2_ hw => ?_)
  have hT2_ : WT T2_ := hw.1.2.1
  have hO2_ : ∀ x, ow T2_ x → κ 2 2 ≤ x := fun x h => hAc x (hw.2.1 x h)
  have hoT_ : OW T T2_ s.heap.size := OW.tr0 hoT_ ho2_
  have hR_ : ∀ b, b < sz → b ≠ o → ∀ k, T2_ k b = T k b := fun b_ h1_ h2_ k_ => (hx2_ b_ h2_ k_).trans (hR_ b_ h1_ h2_ k_)
  have u3_ : T2_ 0 o = 108 := (hj2_ 0 (by decide)).trans t_o
  have u4_ : T2_ 0 a_t = 20 := (hx2_ a_t (ty_ne t_t t_o (by decide)) 0).trans t_t
  have u5_ : T2_ 0 a_c = 20 := (hx2_ a_c (ty_ne t_c t_o (by decide)) 0).trans t_c
  have u6_ : T2_ 3 a_t = 300 * o + 161 := (hx2_ a_t (ty_ne t_t t_o (by decide)) 3).trans hp1
  have u7_ : T2_ 3 a_c = 300 * o + 162 := (hx2_ a_c (ty_ne t_c t_o (by decide)) 3).trans hp2
  refine j_aload_n E 15 rfl dX7_init_14 rfl (lv_at hl 0 rfl) ?_
  refine j_aload_n E 16 rfl dX7_init_15 rfl (lv_at hl 3 rfl) ?_
  have hw0_ := hw
  refine rr_162 E hK hw hnm fl_X7_19 u3_ 19 rfl dX7_init_16 (fun T8_ H locs hx8_ hj8_ hk8_ ho8_ hw => ?_)
  have hT8_ : WT T8_ := hw.1.2.1
  have hO8_ : ∀ x, ow T8_ x → κ 2 2 ≤ x := fun x h => hAc x (hw.2.1 x h)
  have hoT_ : OW T T8_ s.heap.size := OW.tr0 hoT_ ho8_
  have hR_ : ∀ b, b < sz → b ≠ o → ∀ k, T8_ k b = T k b := fun b_ h1_ h2_ k_ => (hx8_ b_ h2_ k_).trans (hR_ b_ h1_ h2_ k_)
  have u9_ : T8_ 0 o = 108 := (hj8_ 0 (by decide)).trans u3_
  have u10_ : T8_ 0 a_t = 20 := (hx8_ a_t (ty_ne u4_ u3_ (by decide)) 0).trans u4_
  have u11_ : T8_ 0 a_c = 20 := (hx8_ a_c (ty_ne u5_ u3_ (by decide)) 0).trans u5_
  have u12_ : T8_ 3 a_t = 300 * o + 161 := (hx8_ a_t (ty_ne u4_ u3_ (by decide)) 3).trans u6_
  have u13_ : T8_ 3 a_c = 300 * o + 162 := (hx8_ a_c (ty_ne u5_ u3_ (by decide)) 3).trans u7_
  have u14_ : T8_ 161 o = a_t + 1 := (hj8_ 161 (by decide)).trans hk2_
  refine j_aload_n E 20 rfl dX7_init_19 rfl (lv_at hl 0 rfl) ?_
  refine j_iconst E 21 rfl dX7_init_20 ?_
  refine j_iload_n E 22 rfl dX7_init_21 rfl (lv_at hl 1 rfl) ?_
  refine j_max E hl.1 ml_X7_22 (rr (by decide)) r_v_n ⟨Nat.le_of_ble_eq_true rfl, Nat.le_of_ble_eq_true rfl⟩ ⟨Nat.le_of_ble_eq_true rfl, Nat.le_of_ble_eq_true rfl⟩ 25 rfl dX7_init_22 (fun zz15_ rr15_ hh15_ => ?_)
  have hw0_ := hw
  refine n_arr20 E hK hw hA (300 * o + 163) (zz15_).toNat (by omega) (Int.toNat_of_nonneg (by omega)).symm (Nat.le_of_ble_eq_true rfl) (show 0 + (zz15_).toNat ≤ 40 from by omega) 27 rfl dX7_init_25 (fun q16_ T16_ y300_16 H hge16_ hx16_ ho16_ tq16_ tl16_ tw16_ yz16_ yo16_ hw => ?_)
  refine W.widen (Nat.le_refl _) (show 0 + (zz15_).toNat ≤ 40 from by omega) ?_
  have fq16_ : s.heap.size ≤ q16_ := Nat.le_trans hw0_.2.2.1 hge16_
  have hw : WK D cy T16_ (upV (upV v_0 160 (upB (v_0 160) o v_n)) 300 y300_16) A0 s.heap H locs := cw_eq hw (by first | rfl | (funext j_; simp only [upV, reduceIte]; (repeat' split) <;> first | rfl | omega | (subst_vars; rfl)))
  have yo16_ : ∀ b, b ≠ q16_ → ∀ i, y300_16 (pr b i) = v_0 300 (pr b i) := yo16_
  have hT16_ : WT T16_ := hw.1.2.1
  have hO16_ : ∀ x, ow T16_ x → κ 2 2 ≤ x := fun x h => hAc x (hw.2.1 x h)
  have hoT_ : OW T T16_ s.heap.size := OW.tr hw0_.2.2.1 hoT_ ho16_
  have hR_ : ∀ b, b < sz → b ≠ o → ∀ k, T16_ k b = T k b := fun b_ h1_ h2_ k_ => (hx16_ b_ (by have := hw0_.2.2.1; have := hge16_; omega) k_).trans (hR_ b_ h1_ h2_ k_)
  have u17_ : T16_ 0 o = 108 := (hx16_ o (Nat.ne_of_lt (Nat.lt_of_lt_of_le (cw_lt hw0_.1 u9_ (fun _ _ _ => ⟨_, rfl⟩)) hge16_)) 0).trans u9_
  have u18_ : T16_ 0 a_t = 20 := (hx16_ a_t (Nat.ne_of_lt (Nat.lt_of_lt_of_le (cw_lt hw0_.1 u10_ (fun _ _ _ => ⟨_, rfl⟩)) hge16_)) 0).trans u10_
  have u19_ : T16_ 0 a_c = 20 := (hx16_ a_c (Nat.ne_of_lt (Nat.lt_of_lt_of_le (cw_lt hw0_.1 u11_ (fun _ _ _ => ⟨_, rfl⟩)) hge16_)) 0).trans u11_
  have u20_ : T16_ 3 a_t = 300 * o + 161 := (hx16_ a_t (Nat.ne_of_lt (Nat.lt_of_lt_of_le (cw_lt hw0_.1 u10_ (fun _ _ _ => ⟨_, rfl⟩)) hge16_)) 3).trans u12_
  have u21_ : T16_ 3 a_c = 300 * o + 162 := (hx16_ a_c (Nat.ne_of_lt (Nat.lt_of_lt_of_le (cw_lt hw0_.1 u11_ (fun _ _ _ => ⟨_, rfl⟩)) hge16_)) 3).trans u13_
  have u22_ : T16_ 161 o = a_t + 1 := (hx16_ o (Nat.ne_of_lt (Nat.lt_of_lt_of_le (cw_lt hw0_.1 u9_ (fun _ _ _ => ⟨_, rfl⟩)) hge16_)) 161).trans u14_
  have u23_ : T16_ 162 o = a_c + 1 := (hx16_ o (Nat.ne_of_lt (Nat.lt_of_lt_of_le (cw_lt hw0_.1 u9_ (fun _ _ _ => ⟨_, rfl⟩)) hge16_)) 162).trans hk8_
  have hw0_ := hw
  refine rr_163 E hK hw hnm fl_X7_28 u17_ 30 rfl dX7_init_27 (fun T24_ H locs hx24_ hj24_ hk24_ ho24_ hw => ?_)
  have hT24_ : WT T24_ := hw.1.2.1
  have hO24_ : ∀ x, ow T24_ x → κ 2 2 ≤ x := fun x h => hAc x (hw.2.1 x h)
  have hoT_ : OW T T24_ s.heap.size := OW.tr0 hoT_ ho24_
  have hR_ : ∀ b, b < sz → b ≠ o → ∀ k, T24_ k b = T k b := fun b_ h1_ h2_ k_ => (hx24_ b_ h2_ k_).trans (hR_ b_ h1_ h2_ k_)
  have u25_ : T24_ 0 o = 108 := (hj24_ 0 (by decide)).trans u17_
  have u26_ : T24_ 0 a_t = 20 := (hx24_ a_t (ty_ne u18_ u17_ (by decide)) 0).trans u18_
  have u27_ : T24_ 0 a_c = 20 := (hx24_ a_c (ty_ne u19_ u17_ (by decide)) 0).trans u19_
  have u28_ : T24_ 0 q16_ = 20 := (hx24_ q16_ (ty_ne tq16_ u17_ (by decide)) 0).trans tq16_
  have u29_ : T24_ 1 q16_ = (zz15_).toNat := (hx24_ q16_ (ty_ne tq16_ u17_ (by decide)) 1).trans tl16_
  have u30_ : T24_ 3 a_t = 300 * o + 161 := (hx24_ a_t (ty_ne u18_ u17_ (by decide)) 3).trans u20_
  have u31_ : T24_ 3 a_c = 300 * o + 162 := (hx24_ a_c (ty_ne u19_ u17_ (by decide)) 3).trans u21_
  have u32_ : T24_ 3 q16_ = 300 * o + 163 := (hx24_ q16_ (ty_ne tq16_ u17_ (by decide)) 3).trans tw16_
  have u33_ : T24_ 161 o = a_t + 1 := (hj24_ 161 (by decide)).trans u22_
  have u34_ : T24_ 162 o = a_c + 1 := (hj24_ 162 (by decide)).trans u23_
  have hw0_ := hw
  obtain ⟨T35_, hx35_, tq35_, xe35_161_, xe35_162_, xe35_163_, ho35_, hw⟩ := pm_8 hw u25_ u33_ u26_ u30_ u34_ u27_ u31_ hk24_ u28_ u32_
  have hT35_ : WT T35_ := hw.1.2.1
  have hO35_ : ∀ x, ow T35_ x → κ 2 2 ≤ x := fun x h => hAc x (hw.2.1 x h)
  have hoT_ : OW T T35_ s.heap.size := OW.tr0 hoT_ ho35_
  have hR_ : ∀ b, b < sz → b ≠ o → ∀ k, T35_ k b = T k b := fun b_ h1_ h2_ k_ => (hx35_ b_ h2_ k_).trans (hR_ b_ h1_ h2_ k_)
  have u36_ : T35_ 0 a_t = 20 := (hx35_ a_t (ty_ne u26_ u25_ (by decide)) 0).trans u26_
  have u37_ : T35_ 0 a_c = 20 := (hx35_ a_c (ty_ne u27_ u25_ (by decide)) 0).trans u27_
  refine j_aload_n E 31 rfl dX7_init_30 rfl (lv_at hl 0 rfl) ?_
  refine g_163 E hK hw fl_X7_28 tq35_ 34 rfl dX7_init_31 ?_
  refine j_iconst E 35 rfl dX7_init_34 ?_
  refine kS_v E (c_J7_fill_53178 l D cy T35_ (upV (upV v_0 160 (upB (v_0 160) o v_n)) 300 y300_16) (T35_ 163 o) ((-1))   (wt_163 hT35_ tq35_) (rr (by decide)) ) ms_J7_fill_53178 ml_X7_31 hK hw hA ⟨Nat.le_of_ble_eq_true rfl, Nat.le_of_ble_eq_true rfl⟩ ⟨Nat.le_of_ble_eq_true rfl, Nat.le_of_ble_eq_true rfl⟩ (As := [.ref (T35_ 163 o), .int (J ((-1)))]) (rest := []) rfl rfl hl.1 (Nat.le_of_ble_eq_true rfl) 38 rfl dX7_init_35 (fun v_38 H locs hq38_ hw => ?_)
  obtain ⟨y300_38, ev38_, hh38_⟩ := hq38_
  rw [ev38_] at hw; clear ev38_
  have hw : WK D cy T35_ (upV (upV v_0 160 (upB (v_0 160) o v_n)) 300 y300_38) A0 s.heap H locs := cw_eq hw (by first | rfl | (funext j_; simp only [upV, reduceIte]; (repeat' split) <;> first | rfl | omega | (subst_vars; rfl)))
  exact hret 38 T35_ (upV (upV v_0 160 (upB (v_0 160) o v_n)) 300 y300_38) _ _ ls _ _ hw hoT_ ⟨(upB (v_0 160) o v_n), y300_38, rfl, ⟨hR_, tq35_⟩⟩ (Nat.le_of_ble_eq_true rfl) (Nat.le_of_ble_eq_true rfl) dX7_init_38
set_option maxHeartbeats 4000000 in
set_option maxRecDepth 100000 in
theorem n_X5_copyOfTokens (l : Launch) (D : va_G) (cy : Nat → ClassId) (κ T : Nat → Nat → Nat) (v_0 : Nat → Nat → Int) (o : Nat) (sz : Nat) (w_ : Nat) (hO : ∀ x, ow T x → κ 2 2 ≤ x) (t_o : T 0 o = 6) (hp0 : (v_0 123 o) ≤ 400) : KA l D cy κ T yX5_copyOfTokens cX5_copyOfTokens 3 (some (.array .int)) 2 1 400 [.ref o] v_0 sz (AN (fun (x_0 : Nat) (T_2 : Nat → Nat → Nat) (v_2 : Nat → Nat → Int) => ∃ (y300_2 : Nat → Int) , v_2 = upV v_0 300 y300_2 ∧ ((∀ b, b < sz → ∀ k, T_2 k b = T k b) ∧ T_2 0 x_0 = 20 ∧ True ∧ T_2 3 x_0 = w_ ∧ sz ≤ x_0 ∧ True ∧ True))) := by
  refine KA.ofn (Or.inr ⟨_, rfl⟩) (by decide) (Nat.le_of_ble_eq_true rfl) hO ?_
  intro p e s m below meth c ls ar QW A0 H locs E hK hZ hA hAc hsz hnm hw hlo_ hl hret
  have hl : lv_has ls 3 [(0, .ref o)] := hl
  have hT : WT T := hw.1.2.1
  have hoT_ : OW T T s.heap.size := OW.rf T _
  have hR_ : ∀ b, b < sz → ∀ k, T k b = T k b := fun b _ k => rfl
  refine j_iconst E 1 rfl dX5_copyOfTokens_0 ?_
  refine j_aload_n E 2 rfl dX5_copyOfTokens_1 rfl (lv_at hl 0 rfl) ?_
  refine g_123 E hK hw fl_X5_21 t_o (v_0 123 o) rfl 5 rfl dX5_copyOfTokens_2 (fun rr1_ => ?_)
  refine j_max E hl.1 ml_X5_34 (rr (by decide)) rr1_ ⟨Nat.le_of_ble_eq_true rfl, Nat.le_of_ble_eq_true rfl⟩ ⟨Nat.le_of_ble_eq_true rfl, Nat.le_of_ble_eq_true rfl⟩ 8 rfl dX5_copyOfTokens_5 (fun zz2_ rr2_ hh2_ => ?_)
  have hw0_ := hw
  refine n_arr20 E hK hw hA w_ (zz2_).toNat (by omega) (Int.toNat_of_nonneg (by omega)).symm (Nat.le_of_ble_eq_true rfl) (show 0 + (zz2_).toNat ≤ 400 from by omega) 10 rfl dX5_copyOfTokens_8 (fun q3_ T3_ y300_3 H hge3_ hx3_ ho3_ tq3_ tl3_ tw3_ yz3_ yo3_ hw => ?_)
  refine W.widen (Nat.le_refl _) (show 0 + (zz2_).toNat ≤ 400 from by omega) ?_
  have fq3_ : s.heap.size ≤ q3_ := Nat.le_trans hw0_.2.2.1 hge3_
  have hw : WK D cy T3_ (upV v_0 300 y300_3) A0 s.heap H locs := cw_eq hw (by first | rfl | (funext j_; simp only [upV, reduceIte]; (repeat' split) <;> first | rfl | omega | (subst_vars; rfl)))
  have yo3_ : ∀ b, b ≠ q3_ → ∀ i, y300_3 (pr b i) = v_0 300 (pr b i) := yo3_
  have hT3_ : WT T3_ := hw.1.2.1
  have hO3_ : ∀ x, ow T3_ x → κ 2 2 ≤ x := fun x h => hAc x (hw.2.1 x h)
  have hoT_ : OW T T3_ s.heap.size := OW.tr hw0_.2.2.1 hoT_ ho3_
  have hR_ : ∀ b, b < sz → ∀ k, T3_ k b = T k b := fun b_ h1_ k_ => (hx3_ b_ (by have := hw0_.2.2.1; have := hge3_; omega) k_).trans (hR_ b_ h1_ k_)
  have u4_ : T3_ 0 o = 6 := (hx3_ o (Nat.ne_of_lt (Nat.lt_of_lt_of_le (cw_lt hw0_.1 t_o (fun _ _ _ => ⟨_, rfl⟩)) hge3_)) 0).trans t_o
  refine j_astore_n E 11 rfl [(1, .ref q3_), (0, .ref o)] dX5_copyOfTokens_10 rfl hl (by decide) rfl (fun ls hl => ?_)
  refine j_iconst E 12 rfl dX5_copyOfTokens_11 ?_
  refine j_istore_n E 13 rfl [(2, .int (J 0)), (1, .ref q3_), (0, .ref o)] dX5_copyOfTokens_12 rfl hl (by decide) rfl (fun ls hl => ?_)
  have L13_5 : ∀ (k13 : Nat) (l2_13 : Int) (y300_c13 : Nat → Int) (H : Heap) (locs : List Loc) (ls : Array Slot), inR l2_13 → (0 ≤ l2_13) → ((T3_ 1 q3_ : Int) - l2_13).toNat < k13 → WK D cy T3_ (upV v_0 300 y300_c13) A0 s.heap H locs → lv_has ls 3 [(0, .ref o), (1, .ref q3_), (2, .int (J l2_13))] → W p l e (rmd 2 1 400) s m ar below meth c H locs 1 400 QW (F0 m 13 ls []) := by
    intro k13
    induction k13 with
    | zero =>
      intro l2_13 y300_c13 H locs ls r_l2_13 iv13 ms13 hw hl
      exact absurd ms13 (Nat.not_lt_zero _)
    | succ k13 ih13 =>
      intro l2_13 y300_c13 H locs ls r_l2_13 iv13 ms13 hw hl
      refine j_iload_n E 14 rfl dX5_copyOfTokens_13 rfl (lv_at hl 2 rfl) ?_
      refine j_aload_n E 15 rfl dX5_copyOfTokens_14 rfl (lv_at hl 1 rfl) ?_
      refine a_ln20 E hK hw tq3_ 16 rfl dX5_copyOfTokens_15 (fun rr7_ => ?_)
      refine j_icmp_ge E 19 54 rfl r_l2_13 rr7_ dX5_copyOfTokens_16 (by decide) (fun cc8_ => ?_) (fun cc8_ => ?_)
      · refine j_aload_n E 55 rfl dX5_copyOfTokens_54 rfl (lv_at hl 1 rfl) ?_
        exact hret 55 q3_ T3_ (upV v_0 300 y300_c13) _ _ ls _ _ hw hoT_ ⟨y300_c13, rfl, ⟨hR_, tq3_, trivial, tw3_, by have := fq3_; omega, trivial, trivial⟩⟩ (Nat.le_of_ble_eq_true rfl) (Nat.le_of_ble_eq_true rfl) dX5_copyOfTokens_55
      · refine j_aload_n E 20 rfl dX5_copyOfTokens_19 rfl (lv_at hl 1 rfl) ?_
        refine j_iload_n E 21 rfl dX5_copyOfTokens_20 rfl (lv_at hl 2 rfl) ?_
        have L47_9 : ∀ (s0_47 : Int) (H : Heap) (locs : List Loc) (ls : Array Slot), inR s0_47 → (True) → WK D cy T3_ (upV v_0 300 y300_c13) A0 s.heap H locs → lv_has ls 3 [(0, .ref o), (1, .ref q3_), (2, .int (J l2_13))] → W p l e (rmd 2 1 400) s m ar below meth c H locs 1 400 QW (F0 m 47 ls [.int (J s0_47), .int (J l2_13), .ref q3_]) := by
          intro s0_47 H locs ls r_s0_47 iv47 hw hl
          refine a_st20 E hK hw tq3_ r_s0_47 (by omega) 48 rfl dX5_copyOfTokens_47 (fun H locs hw => ?_)
          have hw : WK D cy T3_ (upV v_0 300 (upB y300_c13 ((pr q3_ (Int.toNat l2_13))) s0_47)) A0 s.heap H locs := cw_eq hw (by first | rfl | (funext j_; simp only [upV, reduceIte]; (repeat' split) <;> first | rfl | omega | (subst_vars; rfl)))
          refine j_iinc E 51 rfl [(2, .int (J (l2_13 + 1))), (0, .ref o), (1, .ref q3_)] dX5_copyOfTokens_48 hl (kk := 2) rfl (by decide) rfl (fun ls hl => ?_)
          refine j_goto E 13 dX5_copyOfTokens_51 (by decide) ?_
          exact ih13 (l2_13 + 1) (upB y300_c13 ((pr q3_ (Int.toNat l2_13))) s0_47) H locs ls (rr (by omega)) (by first | omega | (simp only [upB_same]; omega)) (by omega) hw (lv_sub hl [1, 2, 0] rfl)
        refine j_aload_n E 22 rfl dX5_copyOfTokens_21 rfl (lv_at hl 0 rfl) ?_
        refine j_iload_n E 23 rfl dX5_copyOfTokens_22 rfl (lv_at hl 2 rfl) ?_
        refine kV_i E (c_X5_kindAt l D cy T3_ (upV v_0 300 y300_c13) o l2_13  u4_ r_l2_13 (show 0 ≤ ((v_0 123) o) ∧ ((v_0 123) o) ≤ 400 from by omega)) mt_X5_kindAt ml_X5_64 hK hw (cw_rc6 hK hw.1 u4_) hA ⟨Nat.le_of_ble_eq_true rfl, Nat.le_of_ble_eq_true rfl⟩ ⟨Nat.le_of_ble_eq_true rfl, Nat.le_of_ble_eq_true rfl⟩ (As := [.int (J l2_13)]) (rest := [.int (J l2_13), .ref q3_]) rfl rfl hl.1 (Nat.le_of_ble_eq_true rfl) 26 rfl dX5_copyOfTokens_23 (fun zz12_ v_12 H locs rr12_ hq12_ hw => ?_)
        obtain ⟨ev12_, hh12_⟩ := hq12_
        rw [ev12_] at hw; clear ev12_
        have hh12_ : (0 ≤ l2_13 ∧ l2_13 < ((v_0 123) o) ∧ zz12_ = gC_ (y300_c13) (T3_ 120 o) l2_13) ∨ (¬ (0 ≤ l2_13 ∧ l2_13 < ((v_0 123) o)) ∧ zz12_ = 1) := hh12_
        refine j_iconst E 27 rfl dX5_copyOfTokens_26 ?_
        refine j_icmp_ne E 30 38 rfl rr12_ (rr (by decide)) dX5_copyOfTokens_27 (by decide) (fun cc13_ => ?_) (fun cc13_ => ?_)
        · refine j_sipush E 41 rfl dX5_copyOfTokens_38 (by decide) ?_
          refine j_aload_n E 42 rfl dX5_copyOfTokens_41 rfl (lv_at hl 0 rfl) ?_
          refine j_iload_n E 43 rfl dX5_copyOfTokens_42 rfl (lv_at hl 2 rfl) ?_
          refine kV_i E (c_X5_kindAt l D cy T3_ (upV v_0 300 y300_c13) o l2_13  u4_ r_l2_13 (show 0 ≤ ((v_0 123) o) ∧ ((v_0 123) o) ≤ 400 from by omega)) mt_X5_kindAt ml_X5_64 hK hw (cw_rc6 hK hw.1 u4_) hA ⟨Nat.le_of_ble_eq_true rfl, Nat.le_of_ble_eq_true rfl⟩ ⟨Nat.le_of_ble_eq_true rfl, Nat.le_of_ble_eq_true rfl⟩ (As := [.int (J l2_13)]) (rest := [.int (J 10000), .int (J l2_13), .ref q3_]) rfl rfl hl.1 (Nat.le_of_ble_eq_true rfl) 46 rfl dX5_copyOfTokens_43 (fun zz14_ v_14 H locs rr14_ hq14_ hw => ?_)
          obtain ⟨ev14_, hh14_⟩ := hq14_
          rw [ev14_] at hw; clear ev14_
          have hh14_ : (0 ≤ l2_13 ∧ l2_13 < ((v_0 123) o) ∧ zz14_ = gC_ (y300_c13) (T3_ 120 o) l2_13) ∨ (¬ (0 ≤ l2_13 ∧ l2_13 < ((v_0 123) o)) ∧ zz14_ = 1) := hh14_
          refine j_iadd E 47 rfl dX5_copyOfTokens_46 ?_
          refine j_norm (fun zz15_ rr15_ ee15_ => ?_)
          exact L47_9 zz15_  H locs ls rr15_ (trivial) hw (lv_sub hl [0, 1, 2] rfl)
        · refine j_aload_n E 31 rfl dX5_copyOfTokens_30 rfl (lv_at hl 0 rfl) ?_
          refine j_iload_n E 32 rfl dX5_copyOfTokens_31 rfl (lv_at hl 2 rfl) ?_
          refine kV_i E (c_X5_valueAt l D cy T3_ (upV v_0 300 y300_c13) o l2_13  u4_ r_l2_13 (show 0 ≤ ((v_0 123) o) ∧ ((v_0 123) o) ≤ 400 from by omega)) mt_X5_valueAt ml_X5_68 hK hw (cw_rc6 hK hw.1 u4_) hA ⟨Nat.le_of_ble_eq_true rfl, Nat.le_of_ble_eq_true rfl⟩ ⟨Nat.le_of_ble_eq_true rfl, Nat.le_of_ble_eq_true rfl⟩ (As := [.int (J l2_13)]) (rest := [.int (J l2_13), .ref q3_]) rfl rfl hl.1 (Nat.le_of_ble_eq_true rfl) 35 rfl dX5_copyOfTokens_32 (fun zz16_ v_16 H locs rr16_ hq16_ hw => ?_)
          obtain ⟨ev16_, hh16_⟩ := hq16_
          rw [ev16_] at hw; clear ev16_
          have hh16_ : (0 ≤ l2_13 ∧ l2_13 < ((v_0 123) o) ∧ zz16_ = gC_ (y300_c13) (T3_ 121 o) l2_13) ∨ (¬ (0 ≤ l2_13 ∧ l2_13 < ((v_0 123) o)) ∧ zz16_ = 0) := hh16_
          refine j_goto E 47 dX5_copyOfTokens_35 (by decide) ?_
          exact L47_9 zz16_  H locs ls rr16_ (trivial) hw (lv_sub hl [0, 1, 2] rfl)
  exact L13_5 _ 0 y300_3 H locs ls (rr (by decide)) (by first | omega | (simp only [upB_same]; omega)) (Nat.lt_succ_self _) hw (lv_sub hl [2, 1, 0] rfl)
set_option maxHeartbeats 4000000 in
set_option maxRecDepth 100000 in
theorem n_X3_copyOfTokens (l : Launch) (D : va_G) (cy : Nat → ClassId) (κ T : Nat → Nat → Nat) (v_0 : Nat → Nat → Int) (o : Nat) (sz : Nat) (w_ : Nat) (hO : ∀ x, ow T x → κ 2 2 ≤ x) (t_o : T 0 o = 4) (hp0 : (v_0 123 (T 82 o)) ≤ 400) : KA l D cy κ T yX3_copyOfTokens cX3_copyOfTokens 1 (some (.array .int)) 3 1 400 [.ref o] v_0 sz (AN (fun (x_0 : Nat) (T_2 : Nat → Nat → Nat) (v_2 : Nat → Nat → Int) => ∃ (y300_2 : Nat → Int) , v_2 = upV v_0 300 y300_2 ∧ ((∀ b, b < sz → ∀ k, T_2 k b = T k b) ∧ T_2 0 x_0 = 20 ∧ True ∧ T_2 3 x_0 = w_ ∧ sz ≤ x_0 ∧ True ∧ True))) := by
  refine KA.ofn (Or.inr ⟨_, rfl⟩) (by decide) (Nat.le_of_ble_eq_true rfl) hO ?_
  intro p e s m below meth c ls ar QW A0 H locs E hK hZ hA hAc hsz hnm hw hlo_ hl hret
  have hl : lv_has ls 1 [(0, .ref o)] := hl
  have hT : WT T := hw.1.2.1
  have hoT_ : OW T T s.heap.size := OW.rf T _
  have hR_ : ∀ b, b < sz → ∀ k, T k b = T k b := fun b _ k => rfl
  refine j_aload_n E 1 rfl dX3_copyOfTokens_0 rfl (lv_at hl 0 rfl) ?_
  refine g_82 E hK hw fl_X3_21 t_o 4 rfl dX3_copyOfTokens_1 ?_
  have hw0_ := hw
  refine aV_n E (n_X5_copyOfTokens l D cy κ T (v_0) (T 82 o) H.size w_ hO (wt_82 hT t_o)  (show ((v_0 123) ((T 82 o))) ≤ 400 from by first | omega | (simp only [upB_same]; omega))) mt_X5_copyOfTokens ml_X3_69 hK hZ hAc hw (cw_rc6 hK hw.1 (wt_82 hT t_o)) hA ⟨(Nat.le_of_ble_eq_true rfl), (Nat.le_of_ble_eq_true rfl)⟩ ⟨(Nat.le_of_ble_eq_true rfl), (Nat.le_of_ble_eq_true rfl)⟩ (As := []) (rest := []) rfl rfl hl.1 (Nat.le_of_ble_eq_true rfl) 7 rfl dX3_copyOfTokens_4 (fun xx1_ T1_ v_1 H locs hge1_ ho1_ hq1_ hw => ?_)
  obtain ⟨y300_1, ev1_, hh1_⟩ := hq1_
  rw [ev1_] at hw; clear ev1_
  have hw : WK D cy T1_ (upV v_0 300 y300_1) A0 s.heap H locs := cw_eq hw (by first | rfl | (funext j_; simp only [upV, reduceIte]; (repeat' split) <;> first | rfl | omega | (subst_vars; rfl)))
  obtain ⟨hx1_, tq1_, tl1_, tw1_, hs1_, yc1_, yo1_⟩ := hh1_
  have hT1_ : WT T1_ := hw.1.2.1
  have hO1_ : ∀ x, ow T1_ x → κ 2 2 ≤ x := fun x h => hAc x (hw.2.1 x h)
  have hoT_ : OW T T1_ s.heap.size := OW.tr hw0_.2.2.1 hoT_ ho1_
  have hR_ : ∀ b, b < sz → ∀ k, T1_ k b = T k b := fun b_ h1_ k_ => (hx1_ b_ (by have := hw0_.2.2.1; omega) k_).trans (hR_ b_ h1_ k_)
  have u2_ : T1_ 0 o = 4 := (hx1_ o (cw_lt hw0_.1 t_o (fun _ _ _ => ⟨_, rfl⟩)) 0).trans t_o
  have fx1_ : s.heap.size ≤ xx1_ := Nat.le_trans hw0_.2.2.1 hs1_
  exact hret 7 xx1_ T1_ (upV v_0 300 y300_1) _ _ ls _ _ hw hoT_ ⟨y300_1, rfl, ⟨hR_, tq1_, trivial, tw1_, by have := fx1_; omega, trivial, trivial⟩⟩ (Nat.le_of_ble_eq_true rfl) (Nat.le_of_ble_eq_true rfl) dX3_copyOfTokens_7
set_option maxHeartbeats 4000000 in
set_option maxRecDepth 100000 in
theorem n_X3_copyOfCode (l : Launch) (D : va_G) (cy : Nat → ClassId) (κ T : Nat → Nat → Nat) (v_0 : Nat → Nat → Int) (o : Nat) (sz : Nat) (w_ : Nat) (hO : ∀ x, ow T x → κ 2 2 ≤ x) (t_o : T 0 o = 4) (hp0 : (v_0 86 o) ≤ 400) : KA l D cy κ T yX3_copyOfCode cX3_copyOfCode 1 (some (.array .int)) 3 1 400 [.ref o] v_0 sz (AN (fun (x_0 : Nat) (T_2 : Nat → Nat → Nat) (v_2 : Nat → Nat → Int) => ∃ (y300_2 : Nat → Int) , v_2 = upV v_0 300 y300_2 ∧ ((∀ b, b < sz → ∀ k, T_2 k b = T k b) ∧ T_2 0 x_0 = 20 ∧ True ∧ T_2 3 x_0 = w_ ∧ sz ≤ x_0 ∧ True ∧ True))) := by
  refine KA.ofn (Or.inr ⟨_, rfl⟩) (by decide) (Nat.le_of_ble_eq_true rfl) hO ?_
  intro p e s m below meth c ls ar QW A0 H locs E hK hZ hA hAc hsz hnm hw hlo_ hl hret
  have hl : lv_has ls 1 [(0, .ref o)] := hl
  have hT : WT T := hw.1.2.1
  have hoT_ : OW T T s.heap.size := OW.rf T _
  have hR_ : ∀ b, b < sz → ∀ k, T k b = T k b := fun b _ k => rfl
  refine j_aload_n E 1 rfl dX3_copyOfCode_0 rfl (lv_at hl 0 rfl) ?_
  refine g_85 E hK hw fl_X3_33 t_o 4 rfl dX3_copyOfCode_1 ?_
  have ln1_ := wl_85 hT t_o
  refine j_iconst E 5 rfl dX3_copyOfCode_4 ?_
  refine j_aload_n E 6 rfl dX3_copyOfCode_5 rfl (lv_at hl 0 rfl) ?_
  refine g_86 E hK hw fl_X3_37 t_o (v_0 86 o) rfl 9 rfl dX3_copyOfCode_6 (fun rr2_ => ?_)
  refine j_max E hl.1 ml_X3_73 (rr (by decide)) rr2_ ⟨Nat.le_of_ble_eq_true rfl, Nat.le_of_ble_eq_true rfl⟩ ⟨Nat.le_of_ble_eq_true rfl, Nat.le_of_ble_eq_true rfl⟩ 12 rfl dX3_copyOfCode_9 (fun zz3_ rr3_ hh3_ => ?_)
  have hw0_ := hw
  refine aS_n E (n_J7_copyOf_59c91 l D cy κ T (v_0) (T 85 o) zz3_ H.size w_ hO  (wt_85 hT t_o) rr3_ (show 0 ≤ zz3_ ∧ zz3_ ≤ 400 from by omega)) ms_J7_copyOf_59c91 ml_X3_79 hK hZ hAc hw hA ⟨(Nat.le_of_ble_eq_true rfl), (Nat.le_of_ble_eq_true rfl)⟩ ⟨(Nat.le_of_ble_eq_true rfl), (Nat.le_of_ble_eq_true rfl)⟩ (As := [.ref (T 85 o), .int (J zz3_)]) (rest := []) rfl rfl hl.1 (Nat.le_of_ble_eq_true rfl) 15 rfl dX3_copyOfCode_12 (fun xx4_ T4_ v_4 H locs hge4_ ho4_ hq4_ hw => ?_)
  obtain ⟨y300_4, ev4_, hh4_⟩ := hq4_
  rw [ev4_] at hw; clear ev4_
  have hw : WK D cy T4_ (upV v_0 300 y300_4) A0 s.heap H locs := cw_eq hw (by first | rfl | (funext j_; simp only [upV, reduceIte]; (repeat' split) <;> first | rfl | omega | (subst_vars; rfl)))
  obtain ⟨hx4_, tq4_, tl4_, tw4_, hs4_, yc4_, yo4_⟩ := hh4_
  have hT4_ : WT T4_ := hw.1.2.1
  have hO4_ : ∀ x, ow T4_ x → κ 2 2 ≤ x := fun x h => hAc x (hw.2.1 x h)
  have hoT_ : OW T T4_ s.heap.size := OW.tr hw0_.2.2.1 hoT_ ho4_
  have hR_ : ∀ b, b < sz → ∀ k, T4_ k b = T k b := fun b_ h1_ k_ => (hx4_ b_ (by have := hw0_.2.2.1; omega) k_).trans (hR_ b_ h1_ k_)
  have u5_ : T4_ 0 o = 4 := (hx4_ o (cw_lt hw0_.1 t_o (fun _ _ _ => ⟨_, rfl⟩)) 0).trans t_o
  have fx4_ : s.heap.size ≤ xx4_ := Nat.le_trans hw0_.2.2.1 hs4_
  exact hret 15 xx4_ T4_ (upV v_0 300 y300_4) _ _ ls _ _ hw hoT_ ⟨y300_4, rfl, ⟨hR_, tq4_, trivial, tw4_, by have := fx4_; omega, trivial, trivial⟩⟩ (Nat.le_of_ble_eq_true rfl) (Nat.le_of_ble_eq_true rfl) dX3_copyOfCode_15
