set_option maxHeartbeats 4000000 in
set_option maxRecDepth 100000 in
theorem c_J8_newLength_cabcc (l : Launch) (D : va_G) (cy : Nat → ClassId) (T : Nat → Nat → Nat) (v_0 : Nat → Nat → Int) (v_a : Int) (v_b : Int) (v_c : Int) (r_v_a : inR v_a) (r_v_b : inR v_b) (r_v_c : inR v_c) (hp0 : 0 ≤ v_a ∧ v_a ≤ 1000 ∧ 1 ≤ v_b ∧ v_b ≤ 1000 ∧ 0 ≤ v_c ∧ v_c ≤ 1000) : KC l D cy T yJ8_newLength_cabcc cJ8_newLength_cabcc 4 (some .int) 2 [.int (J v_a), .int (J v_b), .int (J v_c)] v_0 (KI (fun (z_0 : Int) (v_2 : Nat → Nat → Int) => v_2 = v_0 ∧ (v_a + v_b ≤ z_0 ∧ v_a + v_c ≤ z_0 ∧ (z_0 = v_a + v_b ∨ z_0 = v_a + v_c)))) := by
  refine KC.ofi (by decide) (Nat.le_of_ble_eq_true rfl) ?_
  intro p e s m below meth c ls ar QW A0 H0 H locs E hK hA hw hl hret
  have hl : lv_has ls 4 [(0, .int (J v_a)), (1, .int (J v_b)), (2, .int (J v_c))] := hl
  have hT : WT T := hw.1.2.1
  refine j_iload_n E 1 rfl dJ8_newLength_cabcc_0 rfl (lv_at hl 0 rfl) ?_
  refine j_iload_n E 2 rfl dJ8_newLength_cabcc_1 rfl (lv_at hl 1 rfl) ?_
  refine j_iload_n E 3 rfl dJ8_newLength_cabcc_2 rfl (lv_at hl 2 rfl) ?_
  refine j_max E hl.1 ml_J8_194 r_v_b r_v_c ⟨Nat.le_of_ble_eq_true rfl, Nat.le_of_ble_eq_true rfl⟩ ⟨Nat.le_of_ble_eq_true rfl, Nat.le_of_ble_eq_true rfl⟩ 6 rfl dJ8_newLength_cabcc_3 (fun zz1_ rr1_ hh1_ => ?_)
  refine j_iadd E 7 rfl dJ8_newLength_cabcc_6 ?_
  refine j_istore_n E 8 rfl [(3, .int (J (v_a + zz1_))), (0, .int (J v_a)), (1, .int (J v_b)), (2, .int (J v_c))] dJ8_newLength_cabcc_7 rfl hl (by decide) rfl (fun ls hl => ?_)
  refine j_iconst E 9 rfl dJ8_newLength_cabcc_8 ?_
  refine j_iload_n E 10 rfl dJ8_newLength_cabcc_9 rfl (lv_at hl 0 rfl) ?_
  refine j_icmp_ge E 13 21 rfl (rr (by decide)) (rr (by omega)) dJ8_newLength_cabcc_10 (by decide) (fun cc2_ => ?_) (fun cc2_ => ?_)
  · exfalso; omega
  refine j_iload_n E 14 rfl dJ8_newLength_cabcc_13 rfl (lv_at hl 0 rfl) ?_
  refine j_ldc (z := 2147483639) E 16 rfl (gT_c2 (List.mem_of_getElem? (i := 23) (by decide +kernel)) (by decide +kernel)) dJ8_newLength_cabcc_14 ?_
  refine j_icmp_gt E 19 21 rfl (rr (by omega)) (rr (by decide)) dJ8_newLength_cabcc_16 (by decide) (fun cc3_ => ?_) (fun cc3_ => ?_)
  · exfalso; omega
  refine j_iload_n E 20 rfl dJ8_newLength_cabcc_19 rfl (lv_at hl 0 rfl) ?_
  exact hret 20 (v_a + zz1_) (v_0) _ _ ls hw (rr (by omega)) ⟨rfl, by omega⟩ dJ8_newLength_cabcc_20
set_option maxHeartbeats 4000000 in
set_option maxRecDepth 100000 in
theorem n_J7_copyOf_6403c (l : Launch) (D : va_G) (cy : Nat → ClassId) (κ T : Nat → Nat → Nat) (v_0 : Nat → Nat → Int) (a_a : Nat) (v_n : Int) (sz et : Nat) (hO : ∀ x, ow T x → κ 2 2 ≤ x) (t_a : T 0 a_a = 24) (r_v_n : inR v_n) (he : et = 1 ∨ et = 2 ∨ et = 7 ∨ et = 8) (hp0 : (T 1 a_a : Int) ≤ v_n ∧ v_n ≤ 400) (hel : ∀ i : Nat, i < T 1 a_a → ∃ y, dcd (T (1000 + i) a_a) = some y ∧ T 0 y = et) : KA l D cy κ T yJ7_copyOf_6403c cJ7_copyOf_6403c 4 (some (.array (.object "java/lang/Object"))) 2 1 400 [.ref a_a, .int (J v_n), .ref (κ 2 1)] v_0 sz (AN (fun (x_0 : Nat) (T_2 : Nat → Nat → Nat) (v_2 : Nat → Nat → Int) => v_2 = v_0 ∧ sz ≤ x_0 ∧ (∀ b, b < sz → ∀ k, T_2 k b = T k b) ∧ T_2 0 x_0 = 124 ∧ (T_2 1 x_0 : Int) = v_n ∧ ∀ i : Nat, i < T 1 a_a → T_2 (1000 + i) x_0 = T (1000 + i) a_a)) := by
  refine KA.ofn (Or.inr ⟨_, rfl⟩) (by decide) (Nat.le_of_ble_eq_true rfl) hO ?_
  intro p e s m below meth c ls ar QW A0 H9 locs E hK hZ hA hAc hsz hszH_ hnm hw hlo_ hl hret
  have hl : lv_has ls 4 [(0, .ref a_a), (1, .int (J v_n)), (2, .ref (κ 2 1))] := hl
  have hT : WT T := hw.1.2.1
  refine j_aload_n E 1 rfl dJ7_copyOf_6403c_0 rfl (lv_at hl 2 rfl) ?_
  refine x_ldcc E hZ.1 lk_oa 3 rfl dJ7_copyOf_6403c_1 ?_
  refine x_acne (tgt := 13) E 6 rfl dJ7_copyOf_6403c_3 (by decide) ?_
  refine j_iload_n E 7 rfl dJ7_copyOf_6403c_6 rfl (lv_at hl 1 rfl) ?_
  have hw0_ := hw
  refine n_arrq E hK hw hA hZ.1.ao lk_o2 v_n.toNat (by omega) (Int.toNat_of_nonneg (by omega)).symm (Nat.le_of_ble_eq_true rfl) (show 0 + v_n.toNat ≤ 400 by omega) 10 rfl dJ7_copyOf_6403c_7 (fun q_ T1_ H hge_ hx_ ho_ tq_ tl_ hw => ?_)
  refine W.widen (Nat.le_refl _) (show 0 + v_n.toNat ≤ 400 by omega) ?_
  have nea_ : a_a ≠ q_ := Nat.ne_of_lt (Nat.lt_of_lt_of_le (cw_lt hw0_.1 t_a (fun _ _ _ => ⟨_, rfl⟩)) hge_)
  have hs9_ : s.heap.size ≤ H9.size := hw0_.2.2.1
  have t1_ : T1_ 0 a_a = 24 := (hx_ a_a nea_ 0).trans t_a
  have l1_ : T1_ 1 a_a = T 1 a_a := hx_ a_a nea_ 1
  refine j_goto E 24 dJ7_copyOf_6403c_10 (by decide) ?_
  refine j_astore_n E 25 rfl [(3, .ref q_), (0, .ref a_a), (1, .int (J v_n)), (2, .ref (κ 2 1))] dJ7_copyOf_6403c_24 rfl hl (by decide) rfl (fun ls hl => ?_)
  refine j_aload_n E 26 rfl dJ7_copyOf_6403c_25 rfl (lv_at hl 1 rfl) ?_
  refine j_iconst E 27 rfl dJ7_copyOf_6403c_26 ?_
  refine j_aload_n E 28 rfl dJ7_copyOf_6403c_27 rfl (lv_at hl 0 rfl) ?_
  refine j_iconst E 29 rfl dJ7_copyOf_6403c_28 ?_
  refine j_aload_n E 30 rfl dJ7_copyOf_6403c_29 rfl (lv_at hl 1 rfl) ?_
  refine a_ln24 E hK hw t1_ 31 rfl dJ7_copyOf_6403c_30 (fun rl_ => ?_)
  refine j_iload_n E 32 rfl dJ7_copyOf_6403c_31 rfl (lv_at hl 2 rfl) ?_
  refine j_min E hl.1 ml_J7_304 rl_ r_v_n ⟨(Nat.le_of_ble_eq_true rfl), (Nat.le_of_ble_eq_true rfl)⟩ ⟨(Nat.le_of_ble_eq_true rfl), (Nat.le_of_ble_eq_true rfl)⟩ 35 rfl dJ7_copyOf_6403c_32 (fun z_ rz_ hz_ => ?_)
  have ez_ : z_ = (T 1 a_a : Int) := by rw [l1_] at hz_; omega
  refine x_copyq E hK hw hZ.1 hlo_ lk_ac hl.1 t1_ tq_ he (n := z_) (fun i hi => by
    obtain ⟨y, hy, ty⟩ := hel i (by omega)
    have ney_ : y ≠ q_ := Nat.ne_of_lt (Nat.lt_of_lt_of_le (cw_lte hw0_.1 ty he) hge_)
    exact ⟨y, by rw [hx_ a_a nea_]; exact hy, by rw [hx_ y ney_]; exact ty⟩) ⟨by omega, by omega, by omega⟩ ⟨(Nat.le_of_ble_eq_true rfl), (Nat.le_of_ble_eq_true rfl)⟩ 38 rfl dJ7_copyOf_6403c_35 (fun T2_ H locs hb_ hk_ hi_ ho2_ hw => ?_)
  refine j_aload_n E 39 rfl dJ7_copyOf_6403c_38 rfl (lv_at hl 0 rfl) ?_
  exact hret 39 q_ T2_ v_0 _ _ ls _ _ hw (OW.tr0 (OW.tr hs9_ (OW.rf T _) ho_) ho2_) ⟨rfl, by omega, fun b hb k => (hb_ b (by omega) k).trans (hx_ b (by omega) k), (hk_ 0 (by decide)).trans tq_, by rw [hk_ 1 (by decide), tl_]; omega, fun i hi => (hi_ i (by omega)).trans (hx_ a_a nea_ _)⟩ (Nat.le_of_ble_eq_true rfl) (Nat.le_of_ble_eq_true rfl) dJ7_copyOf_6403c_39
set_option maxHeartbeats 4000000 in
set_option maxRecDepth 100000 in
theorem n_J7_copyOf_1904c (l : Launch) (D : va_G) (cy : Nat → ClassId) (κ T : Nat → Nat → Nat) (v_0 : Nat → Nat → Int) (a_a : Nat) (v_n : Int) (sz et : Nat) (hO : ∀ x, ow T x → κ 2 2 ≤ x) (t_a : T 0 a_a = 24) (r_v_n : inR v_n) (he : et = 1 ∨ et = 2 ∨ et = 7 ∨ et = 8) (hp0 : (T 1 a_a : Int) ≤ v_n ∧ v_n ≤ 400) (hel : ∀ i : Nat, i < T 1 a_a → ∃ y, dcd (T (1000 + i) a_a) = some y ∧ T 0 y = et) : KA l D cy κ T yJ7_copyOf_1904c cJ7_copyOf_1904c 2 (some (.array (.object "java/lang/Object"))) 3 1 400 [.ref a_a, .int (J v_n)] v_0 sz (AN (fun (x_0 : Nat) (T_2 : Nat → Nat → Nat) (v_2 : Nat → Nat → Int) => v_2 = v_0 ∧ sz ≤ x_0 ∧ (∀ b, b < sz → ∀ k, T_2 k b = T k b) ∧ T_2 0 x_0 = 124 ∧ (T_2 1 x_0 : Int) = v_n ∧ ∀ i : Nat, i < T 1 a_a → T_2 (1000 + i) x_0 = T (1000 + i) a_a)) := by
  refine KA.ofn (Or.inr ⟨_, rfl⟩) (by decide) (Nat.le_of_ble_eq_true rfl) hO ?_
  intro p e s m below meth c ls ar QW A0 H9 locs E hK hZ hA hAc hsz hszH_ hnm hw hlo_ hl hret
  have hl : lv_has ls 2 [(0, .ref a_a), (1, .int (J v_n))] := hl
  have hT : WT T := hw.1.2.1
  have hs9_ : s.heap.size ≤ H9.size := hw.2.2.1
  refine j_aload_n E 1 rfl dJ7_copyOf_1904c_0 rfl (lv_at hl 0 rfl) ?_
  refine j_iload_n E 2 rfl dJ7_copyOf_1904c_1 rfl (lv_at hl 1 rfl) ?_
  refine j_aload_n E 3 rfl dJ7_copyOf_1904c_2 rfl (lv_at hl 0 rfl) ?_
  refine x_gcls E hK hw hZ.1 lk_gc hl.1 t_a ⟨(Nat.le_of_ble_eq_true rfl), (Nat.le_of_ble_eq_true rfl)⟩ 6 rfl dJ7_copyOf_1904c_3 ?_
  refine aS_n E (n_J7_copyOf_6403c l D cy κ T v_0 a_a v_n H9.size et hO t_a r_v_n he hp0 hel) ms_J7_copyOf_6403c ml_J7_300 hK hZ hAc hw hA ⟨(Nat.le_of_ble_eq_true rfl), (Nat.le_of_ble_eq_true rfl)⟩ ⟨(Nat.le_of_ble_eq_true rfl), (Nat.le_of_ble_eq_true rfl)⟩ (As := [.ref a_a, .int (J v_n), .ref (κ 2 1)]) (rest := []) rfl rfl hl.1 (Nat.le_of_ble_eq_true rfl) 9 rfl dJ7_copyOf_1904c_6 (fun x_ T1_ v1_ H locs hge_ ho_ hq_ hw => ?_)
  obtain ⟨ev_, hx0_, hx_, tq_, tl_, hi_⟩ := hq_
  rw [ev_] at hw; clear ev_
  exact hret 9 x_ T1_ _ _ _ ls _ _ hw (OW.tr hs9_ (OW.rf T _) ho_) ⟨rfl, by omega, fun b hb k => hx_ b (by omega) k, tq_, tl_, hi_⟩ (Nat.le_of_ble_eq_true rfl) (Nat.le_of_ble_eq_true rfl) dJ7_copyOf_1904c_9
set_option maxHeartbeats 4000000 in
set_option maxRecDepth 100000 in
theorem n_Jx4a65c_grow_92f84 (l : Launch) (D : va_G) (cy : Nat → ClassId) (κ T : Nat → Nat → Nat) (v_0 : Nat → Nat → Int) (o : Nat) (v_m : Int) (sz : Nat) (hO : ∀ x, ow T x → κ 2 2 ≤ x) (t_o : T 0 o = 10) (r_v_m : inR v_m) (h26 : ∀ x, T 0 x = 26 → x = κ 2 0) (hp0 : v_m = v_0 202 o + 1 ∧ v_0 202 o = (T 1 (T 201 o) : Int) ∧ v_0 202 o ≤ 200) : KA l D cy κ T yJx4a65c_grow_92f84 cJx4a65c_grow_92f84 4 (some (.array (.object "java/lang/Object"))) 4 1 400 [.ref o, .int (J v_m)] v_0 sz (AN (fun (x_0 : Nat) (T_2 : Nat → Nat → Nat) (v_2 : Nat → Nat → Int) => v_2 = v_0 ∧ (∀ b, b < sz → b ≠ o → ∀ k, T_2 k b = T k b) ∧ (∀ k, k ≠ 201 → T_2 k o = T k o) ∧ T_2 201 o = x_0 ∧ T_2 0 x_0 = 24 ∧ v_0 202 o < (T_2 1 x_0 : Int))) := by
  refine KA.ofn (Or.inr ⟨_, rfl⟩) (by decide) (Nat.le_of_ble_eq_true rfl) hO ?_
  intro p e s m below meth c ls ar QW A0 H9 locs E hK hZ hA hAc hsz hszH_ hnm hw hlo_ hl hret
  have hl : lv_has ls 4 [(0, .ref o), (1, .int (J v_m))] := hl
  have hT : WT T := hw.1.2.1
  have hs9_ : s.heap.size ≤ H9.size := hw.2.2.1
  have hs_ := hw.1.2.2.1 o t_o
  have et_ := (wt10 hT t_o).2.2
  have eq_ := (wt10 hT t_o).1
  have lto_ : o < H9.size := cw_lt hw.1 t_o (fun _ _ _ => ⟨_, rfl⟩)
  obtain ⟨h1_, h2_, h3_⟩ := hp0
  have h0_ := hs_.1
  refine j_aload_n E 1 rfl dJx4a65c_grow_92f84_0 rfl (lv_at hl 0 rfl) ?_
  refine g_201 E hK hw fl_Jx4a65c_9 t_o 4 rfl dJx4a65c_grow_92f84_1 ?_
  refine a_lnq E hK hw eq_ 5 rfl dJx4a65c_grow_92f84_4 (fun rl_ => ?_)
  refine j_istore_n E 6 rfl [(2, .int (J (T 1 (T 201 o) : Int))), (0, .ref o), (1, .int (J v_m))] dJx4a65c_grow_92f84_5 rfl hl (by decide) rfl (fun ls hl => ?_)
  have L20 : T 0 (T 201 o) = 24 → W p l e (rmd 4 1 400) s m ar below meth c H9 locs 0 0 QW (F0 m 20 ls []) := by
    intro t24_
    refine j_iload_n E 21 rfl dJx4a65c_grow_92f84_20 rfl (lv_at hl 0 rfl) ?_
    refine j_iload_n E 22 rfl dJx4a65c_grow_92f84_21 rfl (lv_at hl 2 rfl) ?_
    refine j_iload_n E 23 rfl dJx4a65c_grow_92f84_22 rfl (lv_at hl 0 rfl) ?_
    refine j_isub E 24 rfl dJx4a65c_grow_92f84_23 ?_
    refine j_iload_n E 25 rfl dJx4a65c_grow_92f84_24 rfl (lv_at hl 0 rfl) ?_
    refine j_iconst E 26 rfl dJx4a65c_grow_92f84_25 ?_
    refine j_ishr E 27 rfl dJx4a65c_grow_92f84_26 (fun zs_ rs_ es_ => ?_)
    have hs2_ := sh_half rs_ (by omega) es_
    refine kS_i E (c_J8_newLength_cabcc l D cy T v_0 (T 1 (T 201 o) : Int) (v_m - (T 1 (T 201 o) : Int)) zs_ rl_ (rr (by omega)) rs_ (by omega)) ms_J8_newLength_cabcc ml_Jx4a65c_73 hK hw hA ⟨(Nat.le_of_ble_eq_true rfl), (Nat.le_of_ble_eq_true rfl)⟩ ⟨(Nat.le_of_ble_eq_true rfl), (Nat.le_of_ble_eq_true rfl)⟩ (As := [.int (J (T 1 (T 201 o) : Int)), .int (J (v_m - (T 1 (T 201 o) : Int))), .int (J zs_)]) (rest := []) rfl rfl hl.1 (Nat.le_of_ble_eq_true rfl) 30 rfl dJx4a65c_grow_92f84_27 (fun zn_ v1_ H locs rn_ hq_ hw => ?_)
    obtain ⟨ev_, hh_⟩ := hq_
    rw [ev_] at hw; clear ev_
    have hsH_ : s.heap.size ≤ H.size := hw.2.2.1
    have ltH_ : o < H.size := cw_lt hw.1 t_o (fun _ _ _ => ⟨_, rfl⟩)
    refine j_istore_n E 31 rfl [(3, .int (J zn_)), (2, .int (J (T 1 (T 201 o) : Int))), (0, .ref o), (1, .int (J v_m))] dJx4a65c_grow_92f84_30 rfl hl (by decide) rfl (fun ls hl => ?_)
    refine j_aload_n E 32 rfl dJx4a65c_grow_92f84_31 rfl (lv_at hl 2 rfl) ?_
    refine j_aload_n E 33 rfl dJx4a65c_grow_92f84_32 rfl (lv_at hl 2 rfl) ?_
    refine g_201 E hK hw fl_Jx4a65c_9 t_o 36 rfl dJx4a65c_grow_92f84_33 ?_
    refine j_iload_n E 37 rfl dJx4a65c_grow_92f84_36 rfl (lv_at hl 0 rfl) ?_
    have hwa_ := hw
    refine aS_n E (n_J7_copyOf_1904c l D cy κ T _ (T 201 o) zn_ H.size (T 2 o) hO t24_ rn_ et_ (by omega) (fun i hi => hs_.2.2 i (by omega))) ms_J7_copyOf_1904c ml_Jx4a65c_66 hK hZ hAc hw hA ⟨(Nat.le_of_ble_eq_true rfl), (Nat.le_of_ble_eq_true rfl)⟩ ⟨(Nat.le_of_ble_eq_true rfl), (Nat.le_of_ble_eq_true rfl)⟩ (As := [.ref (T 201 o), .int (J zn_)]) (rest := [.ref o]) rfl rfl hl.1 (Nat.le_of_ble_eq_true rfl) 40 rfl dJx4a65c_grow_92f84_37 (fun x_ T1_ v2_ H1 locs hge_ ho_ hq_ hw => ?_)
    obtain ⟨ev_, hx0_, hx_, tq_, tl_, hi_⟩ := hq_
    rw [ev_] at hw; clear ev_
    have tL_ : T1_ 0 o = 10 := (hx_ o ltH_ 0).trans t_o
    refine j_dup_x1 E 41 rfl dJx4a65c_grow_92f84_40 rfl rfl ?_
    refine e_put E hK hw fl_Jx4a65c_9 tL_ tq_ (by omega) (fun i hi => by
      obtain ⟨y, hy, ty⟩ := hs_.2.2 i hi
      exact ⟨y, by rw [hi_ i (by omega)]; exact hy, by rw [hx_ y (Nat.lt_of_lt_of_le (cw_lte hwa_.1 ty et_) (Nat.le_refl _)), hx_ o ltH_]; exact ty⟩) 44 rfl dJx4a65c_grow_92f84_41 (fun T2_ H locs hb_ hL_ h201_ tx_ hxk_ ho2_ hw => ?_)
    exact hret 44 x_ T2_ _ _ _ ls _ _ hw (OW.tr0 (OW.tr hsH_ (OW.rf T _) ho_) ho2_) ⟨rfl, fun b hb hbo k => (hb_ b hbo (by omega) k).trans (hx_ b (by omega) k), fun k hk => (hL_ k hk).trans (hx_ o ltH_ k), h201_, tx_, by rw [hxk_ 1 (by decide) (by decide)]; omega⟩ (Nat.le_of_ble_eq_true rfl) (Nat.le_of_ble_eq_true rfl) dJx4a65c_grow_92f84_44
  refine j_iload_n E 7 rfl dJx4a65c_grow_92f84_6 rfl (lv_at hl 0 rfl) ?_
  refine j_if_gt E 10 20 rfl rl_ dJx4a65c_grow_92f84_7 (by decide) (fun c_ => L20 (eq_.elim (fun h => h) (fun h => by have := wt26 hT h; omega))) (fun c_ => ?_)
  refine j_aload_n E 11 rfl dJx4a65c_grow_92f84_10 rfl (lv_at hl 1 rfl) ?_
  refine g_201 E hK hw fl_Jx4a65c_9 t_o 14 rfl dJx4a65c_grow_92f84_11 ?_
  refine z_gets E hAc hw hZ.2.2.1 fs_Jx4a65c_39 17 rfl dJx4a65c_grow_92f84_14 ?_
  refine x_aceq E 20 rfl 45 dJx4a65c_grow_92f84_17 (by decide) (fun e_ => ?_) (fun e_ => L20 (eq_.elim (fun h => h) (fun h => absurd (h26 _ h) e_)))
  refine j_aload_n E 46 rfl dJx4a65c_grow_92f84_45 rfl (lv_at hl 1 rfl) ?_
  refine j_bipush E 48 rfl dJx4a65c_grow_92f84_46 (by decide) ?_
  refine j_iload_n E 49 rfl dJx4a65c_grow_92f84_48 rfl (lv_at hl 2 rfl) ?_
  refine j_max E hl.1 ml_Jx4a65c_79 (rr (by decide)) r_v_m ⟨(Nat.le_of_ble_eq_true rfl), (Nat.le_of_ble_eq_true rfl)⟩ ⟨(Nat.le_of_ble_eq_true rfl), (Nat.le_of_ble_eq_true rfl)⟩ 52 rfl dJx4a65c_grow_92f84_49 (fun z_ rz_ hz_ => ?_)
  refine n_arrq E hK hw hA hZ.1.ao lk_o7 z_.toNat (by omega) (Int.toNat_of_nonneg (by omega)).symm (Nat.le_of_ble_eq_true rfl) (show 0 + z_.toNat ≤ 400 by omega) 55 rfl dJx4a65c_grow_92f84_52 (fun q_ T1_ H hge_ hx_ ho_ tq_ tl_ hw => ?_)
  refine W.widen (Nat.le_refl _) (show 0 + z_.toNat ≤ 400 by omega) ?_
  have tL_ : T1_ 0 o = 10 := (hx_ o (by omega) 0).trans t_o
  refine j_dup_x1 E 56 rfl dJx4a65c_grow_92f84_55 rfl rfl ?_
  refine e_put E hK hw fl_Jx4a65c_9 tL_ tq_ (by omega) (fun i hi => absurd hi (by omega)) 59 rfl dJx4a65c_grow_92f84_56 (fun T2_ H locs hb_ hL_ h201_ tx_ hxk_ ho2_ hw => ?_)
  exact hret 59 q_ T2_ _ _ _ ls _ _ hw (OW.tr0 (OW.tr hs9_ (OW.rf T _) ho_) ho2_) ⟨rfl, fun b hb hbo k => (hb_ b hbo (by omega) k).trans (hx_ b (by omega) k), fun k hk => (hL_ k hk).trans (hx_ o (by omega) k), h201_, tx_, by rw [hxk_ 1 (by decide) (by decide)]; omega⟩ (Nat.le_of_ble_eq_true rfl) (Nat.le_of_ble_eq_true rfl) dJx4a65c_grow_92f84_59
set_option maxHeartbeats 4000000 in
set_option maxRecDepth 100000 in
theorem n_Jx4a65c_grow_d5877 (l : Launch) (D : va_G) (cy : Nat → ClassId) (κ T : Nat → Nat → Nat) (v_0 : Nat → Nat → Int) (o : Nat) (sz : Nat) (hO : ∀ x, ow T x → κ 2 2 ≤ x) (t_o : T 0 o = 10) (h26 : ∀ x, T 0 x = 26 → x = κ 2 0) (hp0 : v_0 202 o = (T 1 (T 201 o) : Int) ∧ v_0 202 o ≤ 200) : KA l D cy κ T yJx4a65c_grow_d5877 cJx4a65c_grow_d5877 1 (some (.array (.object "java/lang/Object"))) 5 1 400 [.ref o] v_0 sz (AN (fun (x_0 : Nat) (T_2 : Nat → Nat → Nat) (v_2 : Nat → Nat → Int) => v_2 = v_0 ∧ (∀ b, b < sz → b ≠ o → ∀ k, T_2 k b = T k b) ∧ (∀ k, k ≠ 201 → T_2 k o = T k o) ∧ T_2 201 o = x_0 ∧ T_2 0 x_0 = 24 ∧ v_0 202 o < (T_2 1 x_0 : Int))) := by
  refine KA.ofn (Or.inr ⟨_, rfl⟩) (by decide) (Nat.le_of_ble_eq_true rfl) hO ?_
  intro p e s m below meth c ls ar QW A0 H9 locs E hK hZ hA hAc hsz hszH_ hnm hw hlo_ hl hret
  have hl : lv_has ls 1 [(0, .ref o)] := hl
  have hs9_ : s.heap.size ≤ H9.size := hw.2.2.1
  have hs_ := (hw.1.2.2.1 o t_o).1
  refine j_aload_n E 1 rfl dJx4a65c_grow_d5877_0 rfl (lv_at hl 0 rfl) ?_
  refine j_aload_n E 2 rfl dJx4a65c_grow_d5877_1 rfl (lv_at hl 0 rfl) ?_
  refine g_202 E hK hw fl_Jx4a65c_48 t_o (v_0 202 o) rfl 5 rfl dJx4a65c_grow_d5877_2 (fun rs_ => ?_)
  refine j_iconst E 6 rfl dJx4a65c_grow_d5877_5 ?_
  refine j_iadd E 7 rfl dJx4a65c_grow_d5877_6 ?_
  refine aV_n E (n_Jx4a65c_grow_92f84 l D cy κ T v_0 o (v_0 202 o + 1) H9.size hO t_o (rr (by omega)) h26 ⟨rfl, hp0.1, hp0.2⟩) mt_Jx4a65c_grow_92f84 ml_Jx4a65c_69 hK hZ hAc hw (cw_rc10 hK hw.1 t_o) hA ⟨(Nat.le_of_ble_eq_true rfl), (Nat.le_of_ble_eq_true rfl)⟩ ⟨(Nat.le_of_ble_eq_true rfl), (Nat.le_of_ble_eq_true rfl)⟩ (As := [.int (J (v_0 202 o + 1))]) (rest := []) rfl rfl hl.1 (Nat.le_of_ble_eq_true rfl) 10 rfl dJx4a65c_grow_d5877_7 (fun x_ T1_ v1_ H locs hge_ ho_ hq_ hw => ?_)
  obtain ⟨ev_, hx_, hr_⟩ := hq_
  rw [ev_] at hw; clear ev_
  exact hret 10 x_ T1_ _ _ _ ls _ _ hw (OW.tr hs9_ (OW.rf T _) ho_) ⟨rfl, fun b hb k => hx_ b (by omega) k, hr_⟩ (Nat.le_of_ble_eq_true rfl) (Nat.le_of_ble_eq_true rfl) dJx4a65c_grow_d5877_10
set_option maxHeartbeats 4000000 in
set_option maxRecDepth 100000 in
theorem n_Jx4a65c_add_72be8 (l : Launch) (D : va_G) (cy : Nat → ClassId) (κ T : Nat → Nat → Nat) (v_0 : Nat → Nat → Int) (o a_e : Nat) (sz : Nat) (hO : ∀ x, ow T x → κ 2 2 ≤ x) (t_o : T 0 o = 10) (te : T 0 a_e = T 2 o) (h26 : ∀ x, T 0 x = 26 → x = κ 2 0) (hp0 : v_0 202 o ≤ 200) : KA l D cy κ T yJx4a65c_add_72be8 cJx4a65c_add_72be8 4 none 6 1 400 [.ref o, .ref a_e, .ref (T 201 o), .int (J (v_0 202 o))] v_0 sz (AV (fun (T_2 : Nat → Nat → Nat) (v_2 : Nat → Nat → Int) => v_2 = upV v_0 202 (upB (v_0 202) o (v_0 202 o + 1)) ∧ (∀ b, b < sz → b ≠ o → T 0 b ≠ 24 → ∀ k, T_2 k b = T k b) ∧ (∀ b, b < sz → T_2 0 b = T 0 b) ∧ T_2 2 o = T 2 o)) := by
  refine KA.ofv (by decide) (Nat.le_of_ble_eq_true rfl) hO ?_
  intro p e s m below meth c ls ar QW A0 H9 locs E hK hZ hA hAc hsz hszH_ hnm hw hlo_ hl hret
  have hl : lv_has ls 4 [(0, .ref o), (1, .ref a_e), (2, .ref (T 201 o)), (3, .int (J (v_0 202 o)))] := hl
  have hT : WT T := hw.1.2.1
  have hs9_ : s.heap.size ≤ H9.size := hw.2.2.1
  have hs_ := hw.1.2.2.1 o t_o
  have h0_ := hs_.1
  have hle_ := hs_.2.1
  have et_ := (wt10 hT t_o).2.2
  have eq_ := (wt10 hT t_o).1
  have lto_ : o < H9.size := cw_lt hw.1 t_o (fun _ _ _ => ⟨_, rfl⟩)
  have lte_ : a_e < H9.size := cw_lte hw.1 te et_
  have neo_ : a_e ≠ o := fun e => by rw [e, t_o] at te; omega
  have hwa_ := hw
  have L11 : ∀ (T1_ : Nat → Nat → Nat) (x_ : Nat) (H : Heap) (locs : List Loc) (ls : Array Slot) (cells slots : Nat), cells ≤ 1 → slots ≤ 400 → WK D cy T1_ v_0 A0 s.heap H locs → OW T T1_ s.heap.size → (∀ b, b < H9.size → b ≠ o → ∀ k, T1_ k b = T k b) → T1_ 0 o = 10 → T1_ 2 o = T 2 o → T1_ 201 o = x_ → T1_ 0 x_ = 24 → v_0 202 o < (T1_ 1 x_ : Int) → (x_ < H9.size → T 0 x_ = 24) → lv_has ls 4 [(2, .ref x_), (0, .ref o), (1, .ref a_e), (3, .int (J (v_0 202 o)))] → W p l e (rmd 6 1 400) s m ar below meth c H locs cells slots QW (F0 m 11 ls []) := by
    intro T1_ x_ H locs ls cells slots hc_ hl_ hw ho_ hx_ tL_ tE_ h201_ tx_ hlt_ hxo_ hl
    have hs1_ := hw.1.2.2.1 o tL_
    refine j_aload_n E 12 rfl dJx4a65c_add_72be8_11 rfl (lv_at hl 0 rfl) ?_
    refine j_iload_n E 13 rfl dJx4a65c_add_72be8_12 rfl (lv_at hl 3 rfl) ?_
    refine j_aload_n E 14 rfl dJx4a65c_add_72be8_13 rfl (lv_at hl 2 rfl) ?_
    refine s_row E hK hw hZ.1 (i := (v_0 202 o).toNat) tx_ tL_ h201_ (by omega) (by omega) (by omega) ((hx_ a_e lte_ neo_ 0).trans te) et_ 15 rfl dJx4a65c_add_72be8_14 (fun T2_ H locs hk0_ hkb_ hkn_ ho2_ hw => ?_)
    have t2L_ : T2_ 0 o = 10 := (hk0_ 0 o (by decide)).trans tL_
    have e201_ : T2_ 201 o = x_ := (hk0_ 201 o (by decide)).trans h201_
    refine j_aload_n E 16 rfl dJx4a65c_add_72be8_15 rfl (lv_at hl 1 rfl) ?_
    refine j_iload_n E 17 rfl dJx4a65c_add_72be8_16 rfl (lv_at hl 3 rfl) ?_
    refine j_iconst E 18 rfl dJx4a65c_add_72be8_17 ?_
    refine j_iadd E 19 rfl dJx4a65c_add_72be8_18 ?_
    refine p_202 E hK hw fl_Jx4a65c_48 t2L_ (rr (by omega)) (by omega) (by rw [e201_, hk0_ 1 x_ (by decide)]; omega) (fun i hi => ?_) 22 rfl dJx4a65c_add_72be8_19 (fun H locs hw => ?_)
    · rw [e201_, hkn_ i]
      by_cases ei_ : i = (v_0 202 o).toNat
      · rw [if_pos ei_]
        exact ⟨a_e, dcd_s a_e, by rw [hk0_ 0 a_e (by decide), hk0_ 2 o (by decide), hx_ a_e lte_ neo_, tE_]; exact te⟩
      · rw [if_neg ei_]
        obtain ⟨y, hy, ty⟩ := hs1_.2.2 i (by omega)
        rw [h201_] at hy
        exact ⟨y, hy, by rw [hk0_ 0 y (by decide), hk0_ 2 o (by decide)]; exact ty⟩
    · exact hret 22 T2_ _ _ _ ls _ _ hw (OW.tr0 ho_ ho2_) ⟨rfl, fun b hb hbo h24_ k => (hkb_ k b (fun e => h24_ (by rw [e]; exact hxo_ (by omega)))).trans (hx_ b (by omega) hbo k), fun b hb => (hk0_ 0 b (by decide)).trans (by
        by_cases eb_ : b = o
        · rw [eb_, tL_, t_o]
        · exact hx_ b (by omega) eb_ 0), (hk0_ 2 o (by decide)).trans tE_⟩ hc_ hl_ dJx4a65c_add_72be8_22
  refine j_iload_n E 1 rfl dJx4a65c_add_72be8_0 rfl (lv_at hl 3 rfl) ?_
  refine j_aload_n E 2 rfl dJx4a65c_add_72be8_1 rfl (lv_at hl 2 rfl) ?_
  refine a_lnq E hK hw eq_ 3 rfl dJx4a65c_add_72be8_2 (fun rl_ => ?_)
  refine j_icmp_ne E 6 11 rfl (hw.1.2.2.2 202 o) rl_ dJx4a65c_add_72be8_3 (by decide) (fun c_ => ?_) (fun c_ => ?_)
  · have t24_ : T 0 (T 201 o) = 24 := eq_.elim (fun h => h) (fun h => by have := wt26 hT h; omega)
    exact L11 T (T 201 o) H9 locs ls 0 0 (Nat.le_of_ble_eq_true rfl) (Nat.le_of_ble_eq_true rfl) hw (OW.rf T _) (fun b _ _ k => rfl) t_o rfl rfl t24_ (by omega) (fun _ => t24_) (lv_sub hl [2, 0, 1, 3] rfl)
  · refine j_aload_n E 7 rfl dJx4a65c_add_72be8_6 rfl (lv_at hl 0 rfl) ?_
    refine aV_n E (n_Jx4a65c_grow_d5877 l D cy κ T v_0 o H9.size hO t_o h26 ⟨c_, hp0⟩) mt_Jx4a65c_grow_d5877 ml_Jx4a65c_129 hK hZ hAc hw (cw_rc10 hK hw.1 t_o) hA ⟨(Nat.le_of_ble_eq_true rfl), (Nat.le_of_ble_eq_true rfl)⟩ ⟨(Nat.le_of_ble_eq_true rfl), (Nat.le_of_ble_eq_true rfl)⟩ (As := []) (rest := []) rfl rfl hl.1 (Nat.le_of_ble_eq_true rfl) 10 rfl dJx4a65c_add_72be8_7 (fun x_ T1_ v1_ H locs hge_ ho_ hq_ hw => ?_)
    obtain ⟨ev_, hx_, hL_, h201_, tx_, hlt_⟩ := hq_
    rw [ev_] at hw; clear ev_
    refine j_astore_n E 11 rfl [(2, .ref x_), (0, .ref o), (1, .ref a_e), (3, .int (J (v_0 202 o)))] dJx4a65c_add_72be8_10 rfl hl (by decide) rfl (fun ls hl => ?_)
    have nx_ : x_ ≠ o := fun e => by rw [e, hL_ 0 (by decide), t_o] at tx_; cases tx_
    exact L11 T1_ x_ H locs ls _ _ (Nat.le_of_ble_eq_true rfl) (Nat.le_of_ble_eq_true rfl) hw (OW.tr hs9_ (OW.rf T _) ho_) hx_ ((hL_ 0 (by decide)).trans t_o) (hL_ 2 (by decide)) h201_ tx_ hlt_ (fun hx9_ => (hx_ x_ hx9_ nx_ 0).symm.trans tx_) hl
set_option maxHeartbeats 4000000 in
set_option maxRecDepth 100000 in
theorem n_Jx4a65c_add_9ea2d (l : Launch) (D : va_G) (cy : Nat → ClassId) (κ T : Nat → Nat → Nat) (v_0 : Nat → Nat → Int) (o a_e : Nat) (sz : Nat) (hO : ∀ x, ow T x → κ 2 2 ≤ x) (t_o : T 0 o = 10) (te : T 0 a_e = T 2 o) (h26 : ∀ x, T 0 x = 26 → x = κ 2 0) (hp0 : v_0 202 o ≤ 200) : KA l D cy κ T yJx4a65c_add_9ea2d cJx4a65c_add_9ea2d 2 (some .boolean) 7 1 400 [.ref o, .ref a_e] v_0 sz (AI (fun (z_0 : Int) (T_2 : Nat → Nat → Nat) (v_2 : Nat → Nat → Int) => ∃ (y200_2 y202_2 : Nat → Int), v_2 = upV (upV v_0 200 y200_2) 202 y202_2 ∧ (y202_2 = upB (v_0 202) o (v_0 202 o + 1) ∧ (∀ b, b < sz → b ≠ o → T 0 b ≠ 24 → ∀ k, T_2 k b = T k b) ∧ (∀ b, b < sz → T_2 0 b = T 0 b) ∧ T_2 2 o = T 2 o))) := by
  refine KA.ofz (by decide) (Nat.le_of_ble_eq_true rfl) hO ?_
  intro p e s m below meth c ls ar QW A0 H9 locs E hK hZ hA hAc hsz hszH_ hnm hw hlo_ hl hret
  have hl : lv_has ls 2 [(0, .ref o), (1, .ref a_e)] := hl
  have hs9_ : s.heap.size ≤ H9.size := hw.2.2.1
  refine j_aload_n E 1 rfl dJx4a65c_add_9ea2d_0 rfl (lv_at hl 0 rfl) ?_
  refine j_dup E 2 rfl dJx4a65c_add_9ea2d_1 rfl ?_
  refine g_200 E hK hw fl_Jx4a65c_63 t_o (v_0 200 o) rfl 5 rfl dJx4a65c_add_9ea2d_2 (fun rm_ => ?_)
  refine j_iconst E 6 rfl dJx4a65c_add_9ea2d_5 ?_
  refine j_iadd E 7 rfl dJx4a65c_add_9ea2d_6 ?_
  refine j_norm (fun zz_ rr_ ee_ => ?_)
  refine p_200 E hK hw fl_Jx4a65c_63 t_o rr_ 10 rfl dJx4a65c_add_9ea2d_7 (fun H locs hw => ?_)
  have hsH_ : s.heap.size ≤ H.size := hw.2.2.1
  refine j_aload_n E 11 rfl dJx4a65c_add_9ea2d_10 rfl (lv_at hl 0 rfl) ?_
  refine j_aload_n E 12 rfl dJx4a65c_add_9ea2d_11 rfl (lv_at hl 1 rfl) ?_
  refine j_aload_n E 13 rfl dJx4a65c_add_9ea2d_12 rfl (lv_at hl 0 rfl) ?_
  refine g_201 E hK hw fl_Jx4a65c_9 t_o 16 rfl dJx4a65c_add_9ea2d_13 ?_
  refine j_aload_n E 17 rfl dJx4a65c_add_9ea2d_16 rfl (lv_at hl 0 rfl) ?_
  refine g_202 E hK hw fl_Jx4a65c_48 t_o (v_0 202 o) rfl 20 rfl dJx4a65c_add_9ea2d_17 (fun rs_ => ?_)
  refine aV_v E (n_Jx4a65c_add_72be8 l D cy κ T (upV v_0 200 (upB (v_0 200) o zz_)) o a_e H.size hO t_o te h26 (show v_0 202 o ≤ 200 from hp0)) mt_Jx4a65c_add_72be8 ml_Jx4a65c_131 hK hZ hAc hw (cw_rc10 hK hw.1 t_o) hA ⟨(Nat.le_of_ble_eq_true rfl), (Nat.le_of_ble_eq_true rfl)⟩ ⟨(Nat.le_of_ble_eq_true rfl), (Nat.le_of_ble_eq_true rfl)⟩ (As := [.ref a_e, .ref (T 201 o), .int (J (v_0 202 o))]) (rest := []) rfl rfl hl.1 (Nat.le_of_ble_eq_true rfl) 23 rfl dJx4a65c_add_9ea2d_20 (fun T1_ v1_ H1 locs hge_ ho_ hq_ hw => ?_)
  obtain ⟨ev_, hx_, hk_, he_⟩ := hq_
  rw [ev_] at hw; clear ev_
  refine j_iconst E 24 rfl dJx4a65c_add_9ea2d_23 ?_
  exact hret 24 1 T1_ _ _ _ ls _ _ hw (OW.tr hsH_ (OW.rf T _) ho_) (Or.inr rfl) ⟨_, _, rfl, rfl, fun b hb => hx_ b (by omega), fun b hb => hk_ b (by omega), he_⟩ (Nat.le_of_ble_eq_true rfl) (Nat.le_of_ble_eq_true rfl) dJx4a65c_add_9ea2d_24
set_option maxHeartbeats 4000000 in
set_option maxRecDepth 100000 in
theorem n_Jxa1e45_init_da8c8 (l : Launch) (D : va_G) (cy : Nat → ClassId) (κ T : Nat → Nat → Nat) (v_0 : Nat → Nat → Int) (o : Nat) (sz : Nat) (hO : ∀ x, ow T x → κ 2 2 ≤ x) (t_o : T 0 o = 110) : KA l D cy κ T yJxa1e45_init_da8c8 cJxa1e45_init_da8c8 1 none 1 0 0 [.ref o] v_0 sz (AV (fun (T_2 : Nat → Nat → Nat) (v_2 : Nat → Nat → Int) => v_2 = v_0 ∧ T_2 = T)) := by
  refine KA.ofv (by decide) (Nat.le_of_ble_eq_true rfl) hO ?_
  intro p e s m below meth c ls ar QW A0 H9 locs E hK hZ hA hAc hsz hszH_ hnm hw hlo_ hl hret
  have hl : lv_has ls 1 [(0, .ref o)] := hl
  refine j_aload_n E 1 rfl dJxa1e45_init_da8c8_0 rfl (lv_at hl 0 rfl) ?_
  refine W.objInit E.1 E.2.1 E.2.2.2.1 (E.2.2.2.2.1 _ mo_Jxa1e45_1) (E.2.2.2.2.1 _ im_ob) (E.2.2.2.2.1 _ cd_ob) rfl (by rw [E.2.2.1]; exact hl.1) rfl dJxa1e45_init_da8c8_1 (Nat.le_of_ble_eq_true rfl) (Nat.le_of_ble_eq_true rfl) ?_
  show W p l e (rmd 1 0 0) s m ar below meth c H9 locs _ _ QW (F0 m 4 ls [])
  exact hret 4 T _ _ _ ls _ _ hw (OW.rf T _) ⟨rfl, rfl⟩ (Nat.le_of_ble_eq_true rfl) (Nat.le_of_ble_eq_true rfl) dJxa1e45_init_da8c8_4
set_option maxHeartbeats 4000000 in
set_option maxRecDepth 100000 in
theorem n_Jxc12de_init_da8c8 (l : Launch) (D : va_G) (cy : Nat → ClassId) (κ T : Nat → Nat → Nat) (v_0 : Nat → Nat → Int) (o : Nat) (sz : Nat) (hO : ∀ x, ow T x → κ 2 2 ≤ x) (t_o : T 0 o = 110) : KA l D cy κ T yJxc12de_init_da8c8 cJxc12de_init_da8c8 1 none 2 0 0 [.ref o] v_0 sz (AV (fun (T_2 : Nat → Nat → Nat) (v_2 : Nat → Nat → Int) => v_2 = upV v_0 200 (upB (v_0 200) o 0) ∧ T_2 = T)) := by
  refine KA.ofv (by decide) (Nat.le_of_ble_eq_true rfl) hO ?_
  intro p e s m below meth c ls ar QW A0 H9 locs E hK hZ hA hAc hsz hszH_ hnm hw hlo_ hl hret
  have hl : lv_has ls 1 [(0, .ref o)] := hl
  refine j_aload_n E 1 rfl dJxc12de_init_da8c8_0 rfl (lv_at hl 0 rfl) ?_
  refine aI_v E (n_Jxa1e45_init_da8c8 l D cy κ T v_0 o H9.size hO t_o) mi_Jxa1e45_init_da8c8 ml_Jxc12de_1 hK hZ hAc hw hA ⟨(Nat.le_of_ble_eq_true rfl), (Nat.le_of_ble_eq_true rfl)⟩ ⟨(Nat.le_of_ble_eq_true rfl), (Nat.le_of_ble_eq_true rfl)⟩ (As := []) (rest := []) rfl rfl hl.1 (Nat.le_of_ble_eq_true rfl) 4 rfl dJxc12de_init_da8c8_1 (fun T1_ v1_ H locs hge_ ho_ hq_ hw => ?_)
  obtain ⟨e1_, e2_⟩ := hq_
  rw [e1_, e2_] at hw
  refine j_aload_n E 5 rfl dJxc12de_init_da8c8_4 rfl (lv_at hl 0 rfl) ?_
  refine j_iconst E 6 rfl dJxc12de_init_da8c8_5 ?_
  refine rq_200 E hK hw t_o inR0 9 rfl dJxc12de_init_da8c8_6 (fun H locs hw => ?_)
  exact hret 9 _ _ _ _ ls _ _ hw (OW.rf _ _) ⟨rfl, rfl⟩ (Nat.le_of_ble_eq_true rfl) (Nat.le_of_ble_eq_true rfl) dJxc12de_init_da8c8_9
set_option maxHeartbeats 4000000 in
set_option maxRecDepth 100000 in
theorem n_Jx4a65c_init_da8c8 (l : Launch) (D : va_G) (cy : Nat → ClassId) (κ T : Nat → Nat → Nat) (v_0 : Nat → Nat → Int) (o : Nat) (sz : Nat) (et : Nat) (hO : ∀ x, ow T x → κ 2 2 ≤ x) (t_o : T 0 o = 110) (he : et = 1 ∨ et = 2 ∨ et = 7 ∨ et = 8) (h26k : T 0 (κ 2 0) = 26) (hz : v_0 202 o = 0) : KA l D cy κ T yJx4a65c_init_da8c8 cJx4a65c_init_da8c8 1 none 3 0 0 [.ref o] v_0 sz (AV (fun (T_2 : Nat → Nat → Nat) (v_2 : Nat → Nat → Int) => ∃ (y200_2 : Nat → Int), v_2 = upV v_0 200 y200_2 ∧ ((∀ b, b < sz → b ≠ o → ∀ k, T_2 k b = T k b) ∧ T_2 0 o = 10 ∧ T_2 2 o = et))) := by
  refine KA.ofv (by decide) (Nat.le_of_ble_eq_true rfl) hO ?_
  intro p e s m below meth c ls ar QW A0 H9 locs E hK hZ hA hAc hsz hszH_ hnm hw hlo_ hl hret
  have hl : lv_has ls 1 [(0, .ref o)] := hl
  refine j_aload_n E 1 rfl dJx4a65c_init_da8c8_0 rfl (lv_at hl 0 rfl) ?_
  refine aI_v E (n_Jxc12de_init_da8c8 l D cy κ T v_0 o H9.size hO t_o) mi_Jxc12de_init_da8c8 ml_Jx4a65c_1 hK hZ hAc hw hA ⟨(Nat.le_of_ble_eq_true rfl), (Nat.le_of_ble_eq_true rfl)⟩ ⟨(Nat.le_of_ble_eq_true rfl), (Nat.le_of_ble_eq_true rfl)⟩ (As := []) (rest := []) rfl rfl hl.1 (Nat.le_of_ble_eq_true rfl) 4 rfl dJx4a65c_init_da8c8_1 (fun T1_ v1_ H locs hge_ ho_ hq_ hw => ?_)
  obtain ⟨e1_, e2_⟩ := hq_
  rw [e1_, e2_] at hw
  refine j_aload_n E 5 rfl dJx4a65c_init_da8c8_4 rfl (lv_at hl 0 rfl) ?_
  refine z_gets E hAc hw hZ.2.2.1 fs_Jx4a65c_39 8 rfl dJx4a65c_init_da8c8_5 ?_
  refine rr_201 E hK hw fl_Jx4a65c_9 t_o 11 rfl dJx4a65c_init_da8c8_8 (fun T2_ H locs hx_ hj_ hk_ ho2_ hw => ?_)
  have nk_ : κ 2 0 ≠ o := ty_ne h26k t_o (by decide)
  obtain ⟨T3_, hx3_, tq_, te201_, te2_, ho3_, hw⟩ := pm_10 hw ((hj_ 0 (by decide)).trans t_o) hk_ ((hx_ _ nk_ 0).trans h26k) et he (show v_0 202 o = 0 from hz)
  exact hret 11 T3_ _ _ _ ls _ _ hw (OW.tr0 (OW.tr0 (OW.rf _ _) ho2_) ho3_) ⟨_, rfl, fun b hb hbo k => (hx3_ b hbo k).trans (hx_ b hbo k), tq_, te2_⟩ (Nat.le_of_ble_eq_true rfl) (Nat.le_of_ble_eq_true rfl) dJx4a65c_init_da8c8_11
set_option maxHeartbeats 4000000 in
set_option maxRecDepth 100000 in
theorem n_J7_copyOf_59c91 (l : Launch) (D : va_G) (cy : Nat → ClassId) (κ T : Nat → Nat → Nat) (v_0 : Nat → Nat → Int) (a_a : Nat) (v_n : Int) (sz w_ : Nat) (hO : ∀ x, ow T x → κ 2 2 ≤ x) (t_a : T 0 a_a = 20) (r_v_n : inR v_n) (hp0 : 0 ≤ v_n ∧ v_n ≤ 400) : KA l D cy κ T yJ7_copyOf_59c91 cJ7_copyOf_59c91 3 (some (.array .int)) 2 1 400 [.ref a_a, .int (J v_n)] v_0 sz (AN (fun (x_0 : Nat) (T_2 : Nat → Nat → Nat) (v_2 : Nat → Nat → Int) => ∃ y300_2 : Nat → Int, v_2 = upV v_0 300 y300_2 ∧ ((∀ b, b < sz → ∀ k, T_2 k b = T k b) ∧ T_2 0 x_0 = 20 ∧ T_2 1 x_0 = v_n.toNat ∧ T_2 3 x_0 = w_ ∧ sz ≤ x_0 ∧ (∀ i : Nat, (i : Int) < v_n → (i : Int) < (T 1 a_a : Int) → y300_2 (pr x_0 i) = v_0 300 (pr a_a i)) ∧ (∀ b, b ≠ x_0 → ∀ i, y300_2 (pr b i) = v_0 300 (pr b i))))) := by
  refine KA.ofn (Or.inr ⟨_, rfl⟩) (by decide) (Nat.le_of_ble_eq_true rfl) hO ?_
  intro p e s m below meth c ls ar QW A0 H9 locs E hK hZ hA hAc hsz hszH_ hnm hw hlo_ hl hret
  have hl : lv_has ls 3 [(0, .ref a_a), (1, .int (J v_n))] := hl
  have hT : WT T := hw.1.2.1
  have hs9_ : s.heap.size ≤ H9.size := hw.2.2.1
  have lta_ : a_a < H9.size := cw_lt hw.1 t_a (fun _ _ _ => ⟨_, rfl⟩)
  refine j_iload_n E 1 rfl dJ7_copyOf_59c91_0 rfl (lv_at hl 1 rfl) ?_
  refine j_aload_n E 2 rfl dJ7_copyOf_59c91_1 rfl (lv_at hl 0 rfl) ?_
  refine a_ln20 E hK hw t_a 3 rfl dJ7_copyOf_59c91_2 (fun rl_ => ?_)
  refine j_icmp_ne E 6 14 rfl r_v_n rl_ dJ7_copyOf_59c91_3 (by decide) (fun c_ => ?_) (fun c_ => ?_)
  · refine j_iload_n E 15 rfl dJ7_copyOf_59c91_14 rfl (lv_at hl 1 rfl) ?_
    have hw0_ := hw
    refine n_arr20 E hK hw hA w_ v_n.toNat (by omega) (Int.toNat_of_nonneg (by omega)).symm (Nat.le_of_ble_eq_true rfl) (show 0 + v_n.toNat ≤ 400 by omega) 17 rfl dJ7_copyOf_59c91_15 (fun q_ T1_ y1_ H hge_ hx_ ho_ tq_ tl_ tw_ yz_ yo_ hw => ?_)
    refine W.widen (Nat.le_refl _) (show 0 + v_n.toNat ≤ 400 by omega) ?_
    have nea_ : a_a ≠ q_ := by omega
    have t1_ : T1_ 0 a_a = 20 := (hx_ a_a nea_ 0).trans t_a
    have l1_ : T1_ 1 a_a = T 1 a_a := hx_ a_a nea_ 1
    refine j_astore_n E 18 rfl [(2, .ref q_), (0, .ref a_a), (1, .int (J v_n))] dJ7_copyOf_59c91_17 rfl hl (by decide) rfl (fun ls hl => ?_)
    refine j_aload_n E 19 rfl dJ7_copyOf_59c91_18 rfl (lv_at hl 1 rfl) ?_
    refine j_iconst E 20 rfl dJ7_copyOf_59c91_19 ?_
    refine j_aload_n E 21 rfl dJ7_copyOf_59c91_20 rfl (lv_at hl 0 rfl) ?_
    refine j_iconst E 22 rfl dJ7_copyOf_59c91_21 ?_
    refine j_aload_n E 23 rfl dJ7_copyOf_59c91_22 rfl (lv_at hl 1 rfl) ?_
    refine a_ln20 E hK hw t1_ 24 rfl dJ7_copyOf_59c91_23 (fun rl2_ => ?_)
    refine j_iload_n E 25 rfl dJ7_copyOf_59c91_24 rfl (lv_at hl 2 rfl) ?_
    refine j_min E hl.1 ml_J7_304 rl2_ r_v_n ⟨(Nat.le_of_ble_eq_true rfl), (Nat.le_of_ble_eq_true rfl)⟩ ⟨(Nat.le_of_ble_eq_true rfl), (Nat.le_of_ble_eq_true rfl)⟩ 28 rfl dJ7_copyOf_59c91_25 (fun z_ rz_ hz_ => ?_)
    refine x_copyi E hK hw hlo_ lk_ac hl.1 t1_ tq_ nea_ (n := z_) ⟨by omega, by omega, by rw [tl_]; omega⟩ ⟨(Nat.le_of_ble_eq_true rfl), (Nat.le_of_ble_eq_true rfl)⟩ 31 rfl dJ7_copyOf_59c91_28 (fun y2_ H locs yc_ yd_ ye_ hw => ?_)
    have hw := cw_eq hw (upV_upV _ _ _ _)
    have ee_ : upV v_0 300 y1_ 300 = y1_ := if_pos rfl
    rw [ee_] at yc_ yd_ ye_
    refine j_aload_n E 32 rfl dJ7_copyOf_59c91_31 rfl (lv_at hl 0 rfl) ?_
    exact hret 32 q_ T1_ _ _ _ ls _ _ hw (OW.tr hs9_ (OW.rf T _) ho_) ⟨y2_, rfl, fun b hb k => hx_ b (by omega) k, tq_, tl_, tw_, by omega, fun i h1 h2 => (yc_ i (by omega)).trans (yo_ a_a nea_ i), fun b hb i => (ye_ b hb i).trans (yo_ b hb i)⟩ (Nat.le_of_ble_eq_true rfl) (Nat.le_of_ble_eq_true rfl) dJ7_copyOf_59c91_32
  · refine j_aload_n E 7 rfl dJ7_copyOf_59c91_6 rfl (lv_at hl 0 rfl) ?_
    refine x_clone E hK hw hZ.1 w_ hlo_ hA lk_cn hl.1 t_a ⟨(Nat.le_of_ble_eq_true rfl), (Nat.le_of_ble_eq_true rfl)⟩ (Nat.le_of_ble_eq_true rfl) (show 0 + T 1 a_a ≤ 400 by omega) 10 rfl dJ7_copyOf_59c91_7 (fun q_ T1_ y1_ H hge_ hx_ ho_ tq_ tl_ tw_ yc_ yo_ hr_ hw => ?_)
    refine W.widen (Nat.le_refl _) (show 0 + T 1 a_a ≤ 400 by omega) ?_
    refine x_casti E lk_ia hr_ 13 rfl dJ7_copyOf_59c91_10 ?_
    exact hret 13 q_ T1_ _ _ _ ls _ _ hw (OW.tr hs9_ (OW.rf T _) ho_) ⟨y1_, rfl, fun b hb k => hx_ b (by omega) k, tq_, by rw [tl_]; omega, tw_, by omega, fun i _ _ => yc_ i, yo_⟩ (Nat.le_of_ble_eq_true rfl) (Nat.le_of_ble_eq_true rfl) dJ7_copyOf_59c91_13
