theorem own_ne {T : Nat → Nat → Nat} (h : WT T) {a b : Nat} (ha : T 0 a = 10) (hb : T 0 b = 10) (hab : a ≠ b) : T 0 (T 201 a) = 24 → T 201 a ≠ T 201 b := fun h24 e => by
  have q1 := (wt10 h ha).2.1 h24
  have q2 := (wt10 h hb).2.1 (by rw [← e]; exact h24)
  rw [e] at q1
  exact hab (q1.symm.trans q2)
set_option maxHeartbeats 4000000 in
set_option maxRecDepth 100000 in
theorem n_Jx4a65c_grow_92f84_n2 (l : Launch) (D : va_G) (cy : Nat → ClassId) (κ T : Nat → Nat → Nat) (v_0 : Nat → Nat → Int) (o : Nat) (v_m : Int) (sz : Nat) (hO : ∀ x, ow T x → κ 2 2 ≤ x) (t_o : T 0 o = 10) (r_v_m : inR v_m) (h26 : ∀ x, T 0 x = 26 → x = κ 2 0) (hp0 : v_m = v_0 202 o + 1 ∧ v_0 202 o = (T 1 (T 201 o) : Int) ∧ v_0 202 o ≤ 200) : KA l D cy κ T yJx4a65c_grow_92f84 cJx4a65c_grow_92f84 4 (some (.array (.object "java/lang/Object"))) 4 1 400 [.ref o, .int (J v_m)] v_0 sz (AN (fun (x_0 : Nat) (T_2 : Nat → Nat → Nat) (v_2 : Nat → Nat → Int) => v_2 = v_0 ∧ sz ≤ x_0 ∧ (∀ b, b < sz → b ≠ o → ∀ k, T_2 k b = T k b) ∧ (∀ k, k ≠ 201 → T_2 k o = T k o) ∧ T_2 201 o = x_0 ∧ T_2 0 x_0 = 24 ∧ v_0 202 o < (T_2 1 x_0 : Int) ∧ ∀ i : Nat, (i : Int) < v_0 202 o → T_2 (1000 + i) x_0 = T (1000 + i) (T 201 o))) := by
  refine KA.ofn (Or.inr ⟨_, rfl⟩) (by decide) (Nat.le_of_ble_eq_true rfl) hO ?_
  intro p e s m below meth c ls ar QW A0 H9 locs E hK hZ hA hAc hsz hszH_ hnm hw hlo_ hl hret
  have hl : lv_has ls 4 [(0, .ref o), (1, .int (J v_m))] := hl
  have hT : WT T := hw.1.2.1
  have hs9_ : s.heap.size ≤ H9.size := hw.2.2.1
  have hs_ := hw.1.2.2.1 o t_o
  have et_ := (wt10 hT t_o).2.2
  have eq_ := (wt10 hT t_o).1
  have lto_ : o < H9.size := cw_lt hw.1 t_o (fun _ _ _ => ⟨_, rfl⟩)
  obtain ⟨h1_, h2_, h3_⟩ := hp0
  have h0_ := hs_.1
  refine j_aload_n E 1 rfl dJx4a65c_grow_92f84_0 rfl (lv_at hl 0 rfl) ?_
  refine g_201 E hK hw fl_Jx4a65c_9 t_o 4 rfl dJx4a65c_grow_92f84_1 ?_
  refine a_lnq E hK hw eq_ 5 rfl dJx4a65c_grow_92f84_4 (fun rl_ => ?_)
  refine j_istore_n E 6 rfl [(2, .int (J (T 1 (T 201 o) : Int))), (0, .ref o), (1, .int (J v_m))] dJx4a65c_grow_92f84_5 rfl hl (by decide) rfl (fun ls hl => ?_)
  have L20 : T 0 (T 201 o) = 24 → W p l e (rmd 4 1 400) s m ar below meth c H9 locs 0 0 QW (F0 m 20 ls []) := by
    intro t24_
    refine j_iload_n E 21 rfl dJx4a65c_grow_92f84_20 rfl (lv_at hl 0 rfl) ?_
    refine j_iload_n E 22 rfl dJx4a65c_grow_92f84_21 rfl (lv_at hl 2 rfl) ?_
    refine j_iload_n E 23 rfl dJx4a65c_grow_92f84_22 rfl (lv_at hl 0 rfl) ?_
    refine j_isub E 24 rfl dJx4a65c_grow_92f84_23 ?_
    refine j_iload_n E 25 rfl dJx4a65c_grow_92f84_24 rfl (lv_at hl 0 rfl) ?_
    refine j_iconst E 26 rfl dJx4a65c_grow_92f84_25 ?_
    refine j_ishr E 27 rfl dJx4a65c_grow_92f84_26 (fun zs_ rs_ es_ => ?_)
    have hs2_ := sh_half rs_ (by omega) es_
    refine kS_i E (c_J8_newLength_cabcc l D cy T v_0 (T 1 (T 201 o) : Int) (v_m - (T 1 (T 201 o) : Int)) zs_ rl_ (rr (by omega)) rs_ (by omega)) ms_J8_newLength_cabcc ml_Jx4a65c_73 hK hw hA ⟨(Nat.le_of_ble_eq_true rfl), (Nat.le_of_ble_eq_true rfl)⟩ ⟨(Nat.le_of_ble_eq_true rfl), (Nat.le_of_ble_eq_true rfl)⟩ (As := [.int (J (T 1 (T 201 o) : Int)), .int (J (v_m - (T 1 (T 201 o) : Int))), .int (J zs_)]) (rest := []) rfl rfl hl.1 (Nat.le_of_ble_eq_true rfl) 30 rfl dJx4a65c_grow_92f84_27 (fun zn_ v1_ H locs rn_ hq_ hw => ?_)
    obtain ⟨ev_, hh_⟩ := hq_
    rw [ev_] at hw; clear ev_
    have hsH_ : s.heap.size ≤ H.size := hw.2.2.1
    have ltH_ : o < H.size := cw_lt hw.1 t_o (fun _ _ _ => ⟨_, rfl⟩)
    refine j_istore_n E 31 rfl [(3, .int (J zn_)), (2, .int (J (T 1 (T 201 o) : Int))), (0, .ref o), (1, .int (J v_m))] dJx4a65c_grow_92f84_30 rfl hl (by decide) rfl (fun ls hl => ?_)
    refine j_aload_n E 32 rfl dJx4a65c_grow_92f84_31 rfl (lv_at hl 2 rfl) ?_
    refine j_aload_n E 33 rfl dJx4a65c_grow_92f84_32 rfl (lv_at hl 2 rfl) ?_
    refine g_201 E hK hw fl_Jx4a65c_9 t_o 36 rfl dJx4a65c_grow_92f84_33 ?_
    refine j_iload_n E 37 rfl dJx4a65c_grow_92f84_36 rfl (lv_at hl 0 rfl) ?_
    have hwa_ := hw
    refine aS_n E (n_J7_copyOf_1904c l D cy κ T _ (T 201 o) zn_ H.size (T 2 o) hO t24_ rn_ et_ (by omega) (fun i hi => hs_.2.2 i (by omega))) ms_J7_copyOf_1904c ml_Jx4a65c_66 hK hZ hAc hw hA ⟨(Nat.le_of_ble_eq_true rfl), (Nat.le_of_ble_eq_true rfl)⟩ ⟨(Nat.le_of_ble_eq_true rfl), (Nat.le_of_ble_eq_true rfl)⟩ (As := [.ref (T 201 o), .int (J zn_)]) (rest := [.ref o]) rfl rfl hl.1 (Nat.le_of_ble_eq_true rfl) 40 rfl dJx4a65c_grow_92f84_37 (fun x_ T1_ v2_ H1 locs hge_ ho_ hq_ hw => ?_)
    obtain ⟨ev_, hx0_, hx_, tq_, tl_, hi_⟩ := hq_
    rw [ev_] at hw; clear ev_
    have tL_ : T1_ 0 o = 10 := (hx_ o ltH_ 0).trans t_o
    refine j_dup_x1 E 41 rfl dJx4a65c_grow_92f84_40 rfl rfl ?_
    refine e_put E hK hw fl_Jx4a65c_9 tL_ tq_ (by omega) (fun i hi => by
      obtain ⟨y, hy, ty⟩ := hs_.2.2 i hi
      exact ⟨y, by rw [hi_ i (by omega)]; exact hy, by rw [hx_ y (Nat.lt_of_lt_of_le (cw_lte hwa_.1 ty et_) (Nat.le_refl _)), hx_ o ltH_]; exact ty⟩) 44 rfl dJx4a65c_grow_92f84_41 (fun T2_ H locs hb_ hL_ h201_ tx_ hxk_ ho2_ hw => ?_)
    exact hret 44 x_ T2_ _ _ _ ls _ _ hw (OW.tr0 (OW.tr hsH_ (OW.rf T _) ho_) ho2_) ⟨rfl, by omega, fun b hb hbo k => (hb_ b hbo (by omega) k).trans (hx_ b (by omega) k), fun k hk => (hL_ k hk).trans (hx_ o ltH_ k), h201_, tx_, by rw [hxk_ 1 (by decide) (by decide)]; omega, fun i hi => (hxk_ (1000 + i) (by omega) (by omega)).trans (hi_ i (by omega))⟩ (Nat.le_of_ble_eq_true rfl) (Nat.le_of_ble_eq_true rfl) dJx4a65c_grow_92f84_44
  refine j_iload_n E 7 rfl dJx4a65c_grow_92f84_6 rfl (lv_at hl 0 rfl) ?_
  refine j_if_gt E 10 20 rfl rl_ dJx4a65c_grow_92f84_7 (by decide) (fun c_ => L20 (eq_.elim (fun h => h) (fun h => by have := wt26 hT h; omega))) (fun c_ => ?_)
  refine j_aload_n E 11 rfl dJx4a65c_grow_92f84_10 rfl (lv_at hl 1 rfl) ?_
  refine g_201 E hK hw fl_Jx4a65c_9 t_o 14 rfl dJx4a65c_grow_92f84_11 ?_
  refine z_gets E hAc hw hZ.2.2.1 fs_Jx4a65c_39 17 rfl dJx4a65c_grow_92f84_14 ?_
  refine x_aceq E 20 rfl 45 dJx4a65c_grow_92f84_17 (by decide) (fun e_ => ?_) (fun e_ => L20 (eq_.elim (fun h => h) (fun h => absurd (h26 _ h) e_)))
  refine j_aload_n E 46 rfl dJx4a65c_grow_92f84_45 rfl (lv_at hl 1 rfl) ?_
  refine j_bipush E 48 rfl dJx4a65c_grow_92f84_46 (by decide) ?_
  refine j_iload_n E 49 rfl dJx4a65c_grow_92f84_48 rfl (lv_at hl 2 rfl) ?_
  refine j_max E hl.1 ml_Jx4a65c_79 (rr (by decide)) r_v_m ⟨(Nat.le_of_ble_eq_true rfl), (Nat.le_of_ble_eq_true rfl)⟩ ⟨(Nat.le_of_ble_eq_true rfl), (Nat.le_of_ble_eq_true rfl)⟩ 52 rfl dJx4a65c_grow_92f84_49 (fun z_ rz_ hz_ => ?_)
  refine n_arrq E hK hw hA hZ.1.ao lk_o7 z_.toNat (by omega) (Int.toNat_of_nonneg (by omega)).symm (Nat.le_of_ble_eq_true rfl) (show 0 + z_.toNat ≤ 400 by omega) 55 rfl dJx4a65c_grow_92f84_52 (fun q_ T1_ H hge_ hx_ ho_ tq_ tl_ hw => ?_)
  refine W.widen (Nat.le_refl _) (show 0 + z_.toNat ≤ 400 by omega) ?_
  have tL_ : T1_ 0 o = 10 := (hx_ o (by omega) 0).trans t_o
  refine j_dup_x1 E 56 rfl dJx4a65c_grow_92f84_55 rfl rfl ?_
  refine e_put E hK hw fl_Jx4a65c_9 tL_ tq_ (by omega) (fun i hi => absurd hi (by omega)) 59 rfl dJx4a65c_grow_92f84_56 (fun T2_ H locs hb_ hL_ h201_ tx_ hxk_ ho2_ hw => ?_)
  exact hret 59 q_ T2_ _ _ _ ls _ _ hw (OW.tr0 (OW.tr hs9_ (OW.rf T _) ho_) ho2_) ⟨rfl, by omega, fun b hb hbo k => (hb_ b hbo (by omega) k).trans (hx_ b (by omega) k), fun k hk => (hL_ k hk).trans (hx_ o (by omega) k), h201_, tx_, by rw [hxk_ 1 (by decide) (by decide)]; omega, fun i hi => absurd hi (by omega)⟩ (Nat.le_of_ble_eq_true rfl) (Nat.le_of_ble_eq_true rfl) dJx4a65c_grow_92f84_59
set_option maxHeartbeats 4000000 in
set_option maxRecDepth 100000 in
theorem n_Jx4a65c_grow_d5877_n2 (l : Launch) (D : va_G) (cy : Nat → ClassId) (κ T : Nat → Nat → Nat) (v_0 : Nat → Nat → Int) (o : Nat) (sz : Nat) (hO : ∀ x, ow T x → κ 2 2 ≤ x) (t_o : T 0 o = 10) (h26 : ∀ x, T 0 x = 26 → x = κ 2 0) (hp0 : v_0 202 o = (T 1 (T 201 o) : Int) ∧ v_0 202 o ≤ 200) : KA l D cy κ T yJx4a65c_grow_d5877 cJx4a65c_grow_d5877 1 (some (.array (.object "java/lang/Object"))) 5 1 400 [.ref o] v_0 sz (AN (fun (x_0 : Nat) (T_2 : Nat → Nat → Nat) (v_2 : Nat → Nat → Int) => v_2 = v_0 ∧ sz ≤ x_0 ∧ (∀ b, b < sz → b ≠ o → ∀ k, T_2 k b = T k b) ∧ (∀ k, k ≠ 201 → T_2 k o = T k o) ∧ T_2 201 o = x_0 ∧ T_2 0 x_0 = 24 ∧ v_0 202 o < (T_2 1 x_0 : Int) ∧ ∀ i : Nat, (i : Int) < v_0 202 o → T_2 (1000 + i) x_0 = T (1000 + i) (T 201 o))) := by
  refine KA.ofn (Or.inr ⟨_, rfl⟩) (by decide) (Nat.le_of_ble_eq_true rfl) hO ?_
  intro p e s m below meth c ls ar QW A0 H9 locs E hK hZ hA hAc hsz hszH_ hnm hw hlo_ hl hret
  have hl : lv_has ls 1 [(0, .ref o)] := hl
  have hs9_ : s.heap.size ≤ H9.size := hw.2.2.1
  have hs_ := (hw.1.2.2.1 o t_o).1
  refine j_aload_n E 1 rfl dJx4a65c_grow_d5877_0 rfl (lv_at hl 0 rfl) ?_
  refine j_aload_n E 2 rfl dJx4a65c_grow_d5877_1 rfl (lv_at hl 0 rfl) ?_
  refine g_202 E hK hw fl_Jx4a65c_48 t_o (v_0 202 o) rfl 5 rfl dJx4a65c_grow_d5877_2 (fun rs_ => ?_)
  refine j_iconst E 6 rfl dJx4a65c_grow_d5877_5 ?_
  refine j_iadd E 7 rfl dJx4a65c_grow_d5877_6 ?_
  refine aV_n E (n_Jx4a65c_grow_92f84_n2 l D cy κ T v_0 o (v_0 202 o + 1) H9.size hO t_o (rr (by omega)) h26 ⟨rfl, hp0.1, hp0.2⟩) mt_Jx4a65c_grow_92f84 ml_Jx4a65c_69 hK hZ hAc hw (cw_rc10 hK hw.1 t_o) hA ⟨(Nat.le_of_ble_eq_true rfl), (Nat.le_of_ble_eq_true rfl)⟩ ⟨(Nat.le_of_ble_eq_true rfl), (Nat.le_of_ble_eq_true rfl)⟩ (As := [.int (J (v_0 202 o + 1))]) (rest := []) rfl rfl hl.1 (Nat.le_of_ble_eq_true rfl) 10 rfl dJx4a65c_grow_d5877_7 (fun x_ T1_ v1_ H locs hge_ ho_ hq_ hw => ?_)
  obtain ⟨ev_, hx0_, hx_, hr_⟩ := hq_
  rw [ev_] at hw; clear ev_
  exact hret 10 x_ T1_ _ _ _ ls _ _ hw (OW.tr hs9_ (OW.rf T _) ho_) ⟨rfl, by omega, fun b hb k => hx_ b (by omega) k, hr_⟩ (Nat.le_of_ble_eq_true rfl) (Nat.le_of_ble_eq_true rfl) dJx4a65c_grow_d5877_10
set_option maxHeartbeats 4000000 in
set_option maxRecDepth 100000 in
theorem n_Jx4a65c_add_72be8_n2 (l : Launch) (D : va_G) (cy : Nat → ClassId) (κ T : Nat → Nat → Nat) (v_0 : Nat → Nat → Int) (o a_e : Nat) (sz : Nat) (hO : ∀ x, ow T x → κ 2 2 ≤ x) (t_o : T 0 o = 10) (te : T 0 a_e = T 2 o) (h26 : ∀ x, T 0 x = 26 → x = κ 2 0) (hp0 : v_0 202 o ≤ 200) : KA l D cy κ T yJx4a65c_add_72be8 cJx4a65c_add_72be8 4 none 6 1 400 [.ref o, .ref a_e, .ref (T 201 o), .int (J (v_0 202 o))] v_0 sz (AV (fun (T_2 : Nat → Nat → Nat) (v_2 : Nat → Nat → Int) => v_2 = upV v_0 202 (upB (v_0 202) o (v_0 202 o + 1)) ∧ (∀ b, b < sz → b ≠ o → (T 0 b = 24 → b ≠ T 201 o) → ∀ k, T_2 k b = T k b) ∧ (∀ b, b < sz → T_2 0 b = T 0 b) ∧ T_2 2 o = T 2 o ∧ (∀ i : Nat, (i : Int) < v_0 202 o → T_2 (1000 + i) (T_2 201 o) = T (1000 + i) (T 201 o)) ∧ T_2 (1000 + (v_0 202 o).toNat) (T_2 201 o) = a_e + 1)) := by
  refine KA.ofv (by decide) (Nat.le_of_ble_eq_true rfl) hO ?_
  intro p e s m below meth c ls ar QW A0 H9 locs E hK hZ hA hAc hsz hszH_ hnm hw hlo_ hl hret
  have hl : lv_has ls 4 [(0, .ref o), (1, .ref a_e), (2, .ref (T 201 o)), (3, .int (J (v_0 202 o)))] := hl
  have hT : WT T := hw.1.2.1
  have hs9_ : s.heap.size ≤ H9.size := hw.2.2.1
  have hs_ := hw.1.2.2.1 o t_o
  have h0_ := hs_.1
  have hle_ := hs_.2.1
  have et_ := (wt10 hT t_o).2.2
  have eq_ := (wt10 hT t_o).1
  have lto_ : o < H9.size := cw_lt hw.1 t_o (fun _ _ _ => ⟨_, rfl⟩)
  have lte_ : a_e < H9.size := cw_lte hw.1 te et_
  have neo_ : a_e ≠ o := fun e => by rw [e, t_o] at te; omega
  have hwa_ := hw
  have L11 : ∀ (T1_ : Nat → Nat → Nat) (x_ : Nat) (H : Heap) (locs : List Loc) (ls : Array Slot) (cells slots : Nat), cells ≤ 1 → slots ≤ 400 → WK D cy T1_ v_0 A0 s.heap H locs → OW T T1_ s.heap.size → (∀ b, b < H9.size → b ≠ o → ∀ k, T1_ k b = T k b) → T1_ 0 o = 10 → T1_ 2 o = T 2 o → T1_ 201 o = x_ → T1_ 0 x_ = 24 → v_0 202 o < (T1_ 1 x_ : Int) → (x_ < H9.size → T 0 x_ = 24 ∧ x_ = T 201 o) → (∀ i : Nat, (i : Int) < v_0 202 o → T1_ (1000 + i) x_ = T (1000 + i) (T 201 o)) → lv_has ls 4 [(2, .ref x_), (0, .ref o), (1, .ref a_e), (3, .int (J (v_0 202 o)))] → W p l e (rmd 6 1 400) s m ar below meth c H locs cells slots QW (F0 m 11 ls []) := by
    intro T1_ x_ H locs ls cells slots hc_ hl_ hw ho_ hx_ tL_ tE_ h201_ tx_ hlt_ hxo_ hel_ hl
    have hs1_ := hw.1.2.2.1 o tL_
    refine j_aload_n E 12 rfl dJx4a65c_add_72be8_11 rfl (lv_at hl 0 rfl) ?_
    refine j_iload_n E 13 rfl dJx4a65c_add_72be8_12 rfl (lv_at hl 3 rfl) ?_
    refine j_aload_n E 14 rfl dJx4a65c_add_72be8_13 rfl (lv_at hl 2 rfl) ?_
    refine s_row E hK hw hZ.1 (i := (v_0 202 o).toNat) tx_ tL_ h201_ (by omega) (by omega) (by omega) ((hx_ a_e lte_ neo_ 0).trans te) et_ 15 rfl dJx4a65c_add_72be8_14 (fun T2_ H locs hk0_ hkb_ hkn_ ho2_ hw => ?_)
    have t2L_ : T2_ 0 o = 10 := (hk0_ 0 o (by decide)).trans tL_
    have e201_ : T2_ 201 o = x_ := (hk0_ 201 o (by decide)).trans h201_
    refine j_aload_n E 16 rfl dJx4a65c_add_72be8_15 rfl (lv_at hl 1 rfl) ?_
    refine j_iload_n E 17 rfl dJx4a65c_add_72be8_16 rfl (lv_at hl 3 rfl) ?_
    refine j_iconst E 18 rfl dJx4a65c_add_72be8_17 ?_
    refine j_iadd E 19 rfl dJx4a65c_add_72be8_18 ?_
    refine p_202 E hK hw fl_Jx4a65c_48 t2L_ (rr (by omega)) (by omega) (by rw [e201_, hk0_ 1 x_ (by decide)]; omega) (fun i hi => ?_) 22 rfl dJx4a65c_add_72be8_19 (fun H locs hw => ?_)
    · rw [e201_, hkn_ i]
      by_cases ei_ : i = (v_0 202 o).toNat
      · rw [if_pos ei_]
        exact ⟨a_e, dcd_s a_e, by rw [hk0_ 0 a_e (by decide), hk0_ 2 o (by decide), hx_ a_e lte_ neo_, tE_]; exact te⟩
      · rw [if_neg ei_]
        obtain ⟨y, hy, ty⟩ := hs1_.2.2 i (by omega)
        rw [h201_] at hy
        exact ⟨y, hy, by rw [hk0_ 0 y (by decide), hk0_ 2 o (by decide)]; exact ty⟩
    · exact hret 22 T2_ _ _ _ ls _ _ hw (OW.tr0 ho_ ho2_) ⟨rfl, fun b hb hbo h24_ k => (hkb_ k b (fun e => by
        have q_ := hxo_ (by omega)
        exact h24_ (by rw [e]; exact q_.1) (e.trans q_.2))).trans (hx_ b (by omega) hbo k), fun b hb => (hk0_ 0 b (by decide)).trans (by
        by_cases eb_ : b = o
        · rw [eb_, tL_, t_o]
        · exact hx_ b (by omega) eb_ 0), (hk0_ 2 o (by decide)).trans tE_, fun i hi => by
          rw [e201_, hkn_ i, if_neg (by omega)]
          exact hel_ i hi, by rw [e201_, hkn_, if_pos rfl]⟩ hc_ hl_ dJx4a65c_add_72be8_22
  refine j_iload_n E 1 rfl dJx4a65c_add_72be8_0 rfl (lv_at hl 3 rfl) ?_
  refine j_aload_n E 2 rfl dJx4a65c_add_72be8_1 rfl (lv_at hl 2 rfl) ?_
  refine a_lnq E hK hw eq_ 3 rfl dJx4a65c_add_72be8_2 (fun rl_ => ?_)
  refine j_icmp_ne E 6 11 rfl (hw.1.2.2.2 202 o) rl_ dJx4a65c_add_72be8_3 (by decide) (fun c_ => ?_) (fun c_ => ?_)
  · have t24_ : T 0 (T 201 o) = 24 := eq_.elim (fun h => h) (fun h => by have := wt26 hT h; omega)
    exact L11 T (T 201 o) H9 locs ls 0 0 (Nat.le_of_ble_eq_true rfl) (Nat.le_of_ble_eq_true rfl) hw (OW.rf T _) (fun b _ _ k => rfl) t_o rfl rfl t24_ (by omega) (fun _ => ⟨t24_, rfl⟩) (fun i _ => rfl) (lv_sub hl [2, 0, 1, 3] rfl)
  · refine j_aload_n E 7 rfl dJx4a65c_add_72be8_6 rfl (lv_at hl 0 rfl) ?_
    refine aV_n E (n_Jx4a65c_grow_d5877_n2 l D cy κ T v_0 o H9.size hO t_o h26 ⟨c_, hp0⟩) mt_Jx4a65c_grow_d5877 ml_Jx4a65c_129 hK hZ hAc hw (cw_rc10 hK hw.1 t_o) hA ⟨(Nat.le_of_ble_eq_true rfl), (Nat.le_of_ble_eq_true rfl)⟩ ⟨(Nat.le_of_ble_eq_true rfl), (Nat.le_of_ble_eq_true rfl)⟩ (As := []) (rest := []) rfl rfl hl.1 (Nat.le_of_ble_eq_true rfl) 10 rfl dJx4a65c_add_72be8_7 (fun x_ T1_ v1_ H locs hge_ ho_ hq_ hw => ?_)
    obtain ⟨ev_, hx0_, hx_, hL_, h201_, tx_, hlt_, hel_⟩ := hq_
    rw [ev_] at hw; clear ev_
    refine j_astore_n E 11 rfl [(2, .ref x_), (0, .ref o), (1, .ref a_e), (3, .int (J (v_0 202 o)))] dJx4a65c_add_72be8_10 rfl hl (by decide) rfl (fun ls hl => ?_)
    exact L11 T1_ x_ H locs ls _ _ (Nat.le_of_ble_eq_true rfl) (Nat.le_of_ble_eq_true rfl) hw (OW.tr hs9_ (OW.rf T _) ho_) hx_ ((hL_ 0 (by decide)).trans t_o) (hL_ 2 (by decide)) h201_ tx_ hlt_ (fun h_ => absurd h_ (Nat.not_lt.mpr hx0_)) hel_ hl
set_option maxHeartbeats 4000000 in
set_option maxRecDepth 100000 in
theorem n_Jx4a65c_add_9ea2d_n2 (l : Launch) (D : va_G) (cy : Nat → ClassId) (κ T : Nat → Nat → Nat) (v_0 : Nat → Nat → Int) (o a_e : Nat) (sz : Nat) (hO : ∀ x, ow T x → κ 2 2 ≤ x) (t_o : T 0 o = 10) (te : T 0 a_e = T 2 o) (h26 : ∀ x, T 0 x = 26 → x = κ 2 0) (hp0 : v_0 202 o ≤ 200) : KA l D cy κ T yJx4a65c_add_9ea2d cJx4a65c_add_9ea2d 2 (some .boolean) 7 1 400 [.ref o, .ref a_e] v_0 sz (AI (fun (z_0 : Int) (T_2 : Nat → Nat → Nat) (v_2 : Nat → Nat → Int) => ∃ (y200_2 y202_2 : Nat → Int), v_2 = upV (upV v_0 200 y200_2) 202 y202_2 ∧ (y202_2 = upB (v_0 202) o (v_0 202 o + 1) ∧ (∀ b, b < sz → b ≠ o → (T 0 b = 24 → b ≠ T 201 o) → ∀ k, T_2 k b = T k b) ∧ (∀ b, b < sz → T_2 0 b = T 0 b) ∧ T_2 2 o = T 2 o ∧ (∀ i : Nat, (i : Int) < v_0 202 o → T_2 (1000 + i) (T_2 201 o) = T (1000 + i) (T 201 o)) ∧ T_2 (1000 + (v_0 202 o).toNat) (T_2 201 o) = a_e + 1))) := by
  refine KA.ofz (by decide) (Nat.le_of_ble_eq_true rfl) hO ?_
  intro p e s m below meth c ls ar QW A0 H9 locs E hK hZ hA hAc hsz hszH_ hnm hw hlo_ hl hret
  have hl : lv_has ls 2 [(0, .ref o), (1, .ref a_e)] := hl
  have hs9_ : s.heap.size ≤ H9.size := hw.2.2.1
  refine j_aload_n E 1 rfl dJx4a65c_add_9ea2d_0 rfl (lv_at hl 0 rfl) ?_
  refine j_dup E 2 rfl dJx4a65c_add_9ea2d_1 rfl ?_
  refine g_200 E hK hw fl_Jx4a65c_63 t_o (v_0 200 o) rfl 5 rfl dJx4a65c_add_9ea2d_2 (fun rm_ => ?_)
  refine j_iconst E 6 rfl dJx4a65c_add_9ea2d_5 ?_
  refine j_iadd E 7 rfl dJx4a65c_add_9ea2d_6 ?_
  refine j_norm (fun zz_ rr_ ee_ => ?_)
  refine p_200 E hK hw fl_Jx4a65c_63 t_o rr_ 10 rfl dJx4a65c_add_9ea2d_7 (fun H locs hw => ?_)
  have hsH_ : s.heap.size ≤ H.size := hw.2.2.1
  refine j_aload_n E 11 rfl dJx4a65c_add_9ea2d_10 rfl (lv_at hl 0 rfl) ?_
  refine j_aload_n E 12 rfl dJx4a65c_add_9ea2d_11 rfl (lv_at hl 1 rfl) ?_
  refine j_aload_n E 13 rfl dJx4a65c_add_9ea2d_12 rfl (lv_at hl 0 rfl) ?_
  refine g_201 E hK hw fl_Jx4a65c_9 t_o 16 rfl dJx4a65c_add_9ea2d_13 ?_
  refine j_aload_n E 17 rfl dJx4a65c_add_9ea2d_16 rfl (lv_at hl 0 rfl) ?_
  refine g_202 E hK hw fl_Jx4a65c_48 t_o (v_0 202 o) rfl 20 rfl dJx4a65c_add_9ea2d_17 (fun rs_ => ?_)
  refine aV_v E (n_Jx4a65c_add_72be8_n2 l D cy κ T (upV v_0 200 (upB (v_0 200) o zz_)) o a_e H.size hO t_o te h26 (show v_0 202 o ≤ 200 from hp0)) mt_Jx4a65c_add_72be8 ml_Jx4a65c_131 hK hZ hAc hw (cw_rc10 hK hw.1 t_o) hA ⟨(Nat.le_of_ble_eq_true rfl), (Nat.le_of_ble_eq_true rfl)⟩ ⟨(Nat.le_of_ble_eq_true rfl), (Nat.le_of_ble_eq_true rfl)⟩ (As := [.ref a_e, .ref (T 201 o), .int (J (v_0 202 o))]) (rest := []) rfl rfl hl.1 (Nat.le_of_ble_eq_true rfl) 23 rfl dJx4a65c_add_9ea2d_20 (fun T1_ v1_ H1 locs hge_ ho_ hq_ hw => ?_)
  obtain ⟨ev_, hx_, hk_, he_, hi_, hn_⟩ := hq_
  rw [ev_] at hw; clear ev_
  refine j_iconst E 24 rfl dJx4a65c_add_9ea2d_23 ?_
  exact hret 24 1 T1_ _ _ _ ls _ _ hw (OW.tr hsH_ (OW.rf T _) ho_) (Or.inr rfl) ⟨_, _, rfl, rfl, fun b hb => hx_ b (by omega), fun b hb => hk_ b (by omega), he_, hi_, hn_⟩ (Nat.le_of_ble_eq_true rfl) (Nat.le_of_ble_eq_true rfl) dJx4a65c_add_9ea2d_24
