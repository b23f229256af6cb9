theorem aw_step {g : Nat → Int} {A : Nat → Nat} {p : Int} {y : Nat} (h : ∀ i : Nat, (i : Int) < p → ∀ z : Nat, A i = z + 1 → g z = 0) (hy : A p.toNat = y + 1) (hp : 0 ≤ p) : ∀ i : Nat, (i : Int) < p + 1 → ∀ z : Nat, A i = z + 1 → upB g y 0 z = 0 := by
  intro i hi z hz
  by_cases e : z = y
  · subst e; exact upB_same _ _ _
  · rw [upB_ne e]
    by_cases e2 : (i : Int) = p
    · exfalso
      have e3 : p.toNat = i := by omega
      rw [e3] at hy
      omega
    · exact h i (by omega) z hz
theorem cb_nar : ∀ k : Fin 256, vp_nar .char (((J (k.val : Int)).toUInt32 % 65536).toInt32) = J (k.val : Int) := by decide +kernel
theorem cb_us {x : Int32} {s : Int} (hs : s = 0 ∨ s = 8 ∨ s = 16 ∨ s = 24) : (x.toUInt32 >>> ((J s).toUInt32 &&& Int32.toUInt32 31)).toInt32 &&& J 255 = x >>> (J s &&& 31) &&& J 255 := by
  have key : ∀ k : Nat, k ≤ 24 → (x.toBitVec >>> k) &&& (J 255).toBitVec = (x.toBitVec.sshiftRight k) &&& (J 255).toBitVec := by
    intro k hk
    have h255 : (J 255).toBitVec = 255#32 := by decide +kernel
    rw [h255]
    apply BitVec.eq_of_getLsbD_eq
    intro i hi
    rw [BitVec.getLsbD_and, BitVec.getLsbD_and, BitVec.getLsbD_ushiftRight, BitVec.getLsbD_sshiftRight]
    by_cases h8 : i < 8
    · simp [show k + i < 32 by omega, show i < 32 by omega, show ¬ 32 ≤ i by omega]
    · have q := (by decide +kernel : ∀ i : Fin 32, 8 ≤ i.val → (255#32).getLsbD i.val = false) ⟨i, hi⟩ (by show 8 ≤ i; omega)
      rw [show (255#32).getLsbD i = false from q, Bool.and_false, Bool.and_false]
  apply Int32.toBitVec.inj
  rcases hs with rfl | rfl | rfl | rfl
  · rw [show ((J 0).toUInt32 &&& Int32.toUInt32 31) = 0 by decide +kernel, show (J 0 &&& 31 : Int32) = 0 by decide +kernel]
    exact key 0 (by decide)
  · rw [show ((J 8).toUInt32 &&& Int32.toUInt32 31) = 8 by decide +kernel, show (J 8 &&& 31 : Int32) = 8 by decide +kernel]
    exact key 8 (by decide)
  · rw [show ((J 16).toUInt32 &&& Int32.toUInt32 31) = 16 by decide +kernel, show (J 16 &&& 31 : Int32) = 16 by decide +kernel]
    exact key 16 (by decide)
  · rw [show ((J 24).toUInt32 &&& Int32.toUInt32 31) = 24 by decide +kernel, show (J 24 &&& 31 : Int32) = 24 by decide +kernel]
    exact key 24 (by decide)
theorem cb_of {n s z1 z2 z3 z4 : Int} (hs : s = 0 ∨ s = 8 ∨ s = 16 ∨ s = 24) (e1 : J z1 = ((J n).toUInt32 >>> ((J s).toUInt32 &&& Int32.toUInt32 31)).toInt32) (e2 : J z2 = J z1 &&& J 255) (e3 : J z3 = ((J z2).toUInt32 % 65536).toInt32) (e4 : J z4 = vp_nar .char (J z3)) (r : inR z4) : z4 = by_ n s := by
  have h1 : (J z2).toBitVec.toNat ≤ 255 := by
    rw [e2, Int32.toBitVec_and, BitVec.toNat_and]
    exact Nat.le_trans Nat.and_le_right (by decide +kernel)
  have h2 : J z2 = J (((J z2).toBitVec.toNat : Nat) : Int) := by
    apply Int32.toBitVec.inj
    apply BitVec.eq_of_toNat_eq
    have q := J_nat (a := (((J z2).toBitVec.toNat : Nat) : Int)) ⟨by omega, by omega⟩
    rw [q]
    omega
  have h3 := cb_nar ⟨(J z2).toBitVec.toNat, by omega⟩
  simp only at h3
  rw [← h2, ← e3, ← e4] at h3
  have h4 := J_toInt r
  rw [h3, e2, e1, cb_us hs] at h4
  exact h4.symm
theorem cb_st {y : Nat → Int} {a : Nat} {v t0 t z : Int} (h : ∀ j, t0 ≤ j → j < t → gC_ y a j = by_ v (24 - 8 * (j - t0))) (h0 : 0 ≤ t0 ∧ t0 ≤ t) (hz : z = by_ v (24 - 8 * (t - t0))) : ∀ j, t0 ≤ j → j < t + 1 → gC_ (upB y (pr a t.toNat) z) a j = by_ v (24 - 8 * (j - t0)) := fun j h1 h2 => by
  by_cases e : j = t
  · rw [e, gC_us]; exact hz
  · rw [gC_ui (by omega) (by omega) e]; exact h j h1 (by omega)
theorem cb_ot {y y0 : Nat → Int} {a : Nat} {t0 t z : Int} (h : ∀ j, 0 ≤ j → j < t0 → gC_ y a j = gC_ y0 a j) (h0 : 0 ≤ t0 ∧ t0 ≤ t) : ∀ j, 0 ≤ j → j < t0 → gC_ (upB y (pr a t.toNat) z) a j = gC_ y0 a j := fun j h1 h2 => by
  rw [gC_ui (by omega) h1 (by omega)]
  exact h j h1 h2
set_option maxHeartbeats 4000000 in
set_option maxRecDepth 100000 in
theorem c_X9_isWording (l : Launch) (D : va_G) (cy : Nat → ClassId) (T : Nat → Nat → Nat) (v_0 : Nat → Nat → Int) (o : Nat) (v_w : Int) (t_o : T 0 o = 9) (r_v_w : inR v_w) : KC l D cy T yX9_isWording cX9_isWording 2 (some .boolean) 2 [.ref o, .int (J v_w)] v_0 (KI (fun (z_0 : Int) (v_2 : Nat → Nat → Int) => v_2 = v_0 ∧ ((z_0 = 1 ∧ 0 ≤ v_w ∧ v_w < (v_0 202 (T 182 o))) ∨ (z_0 = 0 ∧ (v_w < 0 ∨ (v_0 202 (T 182 o)) ≤ v_w))))) := by
  refine KC.ofz (by decide) (Nat.le_of_ble_eq_true rfl) ?_
  intro p e s m below meth c ls ar QW A0 H0 H locs E hK hA hw hl hret
  have hl : lv_has ls 2 [(0, .ref o), (1, .int (J v_w))] := hl
  have hT : WT T := hw.1.2.1
  refine j_iload_n E 1 rfl dX9_isWording_0 rfl (lv_at hl 1 rfl) ?_
  refine j_if_lt E 4 19 rfl r_v_w dX9_isWording_1 (by decide) (fun cc1_ => ?_) (fun cc1_ => ?_)
  · refine j_iconst E 20 rfl dX9_isWording_19 ?_
    exact hret 20 0 (v_0) _ _ ls hw (Or.inl rfl) ⟨rfl, by omega⟩ dX9_isWording_20
  · refine j_iload_n E 5 rfl dX9_isWording_4 rfl (lv_at hl 1 rfl) ?_
    refine j_aload_n E 6 rfl dX9_isWording_5 rfl (lv_at hl 0 rfl) ?_
    refine g_182 E hK hw fl_X9_19 t_o 9 rfl dX9_isWording_6 ?_
    refine kV_i E (c_Jx4a65c_size_8abf5 l D cy T (v_0) (T 182 o)  (wt_182 hT t_o)  ) mt_Jx4a65c_size_8abf5 ml_X9_80 hK hw (cw_rc10 hK hw.1 (wt_182 hT t_o)) hA ⟨Nat.le_of_ble_eq_true rfl, Nat.le_of_ble_eq_true rfl⟩ ⟨Nat.le_of_ble_eq_true rfl, Nat.le_of_ble_eq_true rfl⟩ (As := []) (rest := [.int (J v_w)]) rfl rfl hl.1 (Nat.le_of_ble_eq_true rfl) 12 rfl dX9_isWording_9 (fun zz2_ v_2 H locs rr2_ hq2_ hw => ?_)
    obtain ⟨ev2_, hh2_⟩ := hq2_
    rw [ev2_] at hw; clear ev2_
    replace hh2_ : zz2_ = ((v_0 202) ((T 182 o))) ∧ 0 ≤ zz2_ := hh2_
    refine j_icmp_ge E 15 19 rfl r_v_w rr2_ dX9_isWording_12 (by decide) (fun cc3_ => ?_) (fun cc3_ => ?_)
    · refine j_iconst E 20 rfl dX9_isWording_19 ?_
      exact hret 20 0 (v_0) _ _ ls hw (Or.inl rfl) ⟨rfl, by omega⟩ dX9_isWording_20
    · refine j_iconst E 16 rfl dX9_isWording_15 ?_
      refine j_goto E 20 dX9_isWording_16 (by decide) ?_
      exact hret 20 1 (v_0) _ _ ls hw (Or.inr rfl) ⟨rfl, by omega⟩ dX9_isWording_20
set_option maxHeartbeats 4000000 in
set_option maxRecDepth 100000 in
theorem c_X9_isLine (l : Launch) (D : va_G) (cy : Nat → ClassId) (T : Nat → Nat → Nat) (v_0 : Nat → Nat → Int) (o : Nat) (v_l : Int) (t_o : T 0 o = 9) (r_v_l : inR v_l) : KC l D cy T yX9_isLine cX9_isLine 2 (some .boolean) 2 [.ref o, .int (J v_l)] v_0 (KI (fun (z_0 : Int) (v_2 : Nat → Nat → Int) => v_2 = v_0 ∧ ((z_0 = 1 ∧ 0 ≤ v_l ∧ v_l < (v_0 202 (T 181 o))) ∨ (z_0 = 0 ∧ (v_l < 0 ∨ (v_0 202 (T 181 o)) ≤ v_l))))) := by
  refine KC.ofz (by decide) (Nat.le_of_ble_eq_true rfl) ?_
  intro p e s m below meth c ls ar QW A0 H0 H locs E hK hA hw hl hret
  have hl : lv_has ls 2 [(0, .ref o), (1, .int (J v_l))] := hl
  have hT : WT T := hw.1.2.1
  refine j_iload_n E 1 rfl dX9_isLine_0 rfl (lv_at hl 1 rfl) ?_
  refine j_if_lt E 4 19 rfl r_v_l dX9_isLine_1 (by decide) (fun cc1_ => ?_) (fun cc1_ => ?_)
  · refine j_iconst E 20 rfl dX9_isLine_19 ?_
    exact hret 20 0 (v_0) _ _ ls hw (Or.inl rfl) ⟨rfl, by omega⟩ dX9_isLine_20
  · refine j_iload_n E 5 rfl dX9_isLine_4 rfl (lv_at hl 1 rfl) ?_
    refine j_aload_n E 6 rfl dX9_isLine_5 rfl (lv_at hl 0 rfl) ?_
    refine g_181 E hK hw fl_X9_16 t_o 9 rfl dX9_isLine_6 ?_
    refine kV_i E (c_Jx4a65c_size_8abf5 l D cy T (v_0) (T 181 o)  (wt_181 hT t_o)  ) mt_Jx4a65c_size_8abf5 ml_X9_80 hK hw (cw_rc10 hK hw.1 (wt_181 hT t_o)) hA ⟨Nat.le_of_ble_eq_true rfl, Nat.le_of_ble_eq_true rfl⟩ ⟨Nat.le_of_ble_eq_true rfl, Nat.le_of_ble_eq_true rfl⟩ (As := []) (rest := [.int (J v_l)]) rfl rfl hl.1 (Nat.le_of_ble_eq_true rfl) 12 rfl dX9_isLine_9 (fun zz2_ v_2 H locs rr2_ hq2_ hw => ?_)
    obtain ⟨ev2_, hh2_⟩ := hq2_
    rw [ev2_] at hw; clear ev2_
    replace hh2_ : zz2_ = ((v_0 202) ((T 181 o))) ∧ 0 ≤ zz2_ := hh2_
    refine j_icmp_ge E 15 19 rfl r_v_l rr2_ dX9_isLine_12 (by decide) (fun cc3_ => ?_) (fun cc3_ => ?_)
    · refine j_iconst E 20 rfl dX9_isLine_19 ?_
      exact hret 20 0 (v_0) _ _ ls hw (Or.inl rfl) ⟨rfl, by omega⟩ dX9_isLine_20
    · refine j_iconst E 16 rfl dX9_isLine_15 ?_
      refine j_goto E 20 dX9_isLine_16 (by decide) ?_
      exact hret 20 1 (v_0) _ _ ls hw (Or.inr rfl) ⟨rfl, by omega⟩ dX9_isLine_20
set_option maxHeartbeats 4000000 in
set_option maxRecDepth 100000 in
theorem c_X9_personAt (l : Launch) (D : va_G) (cy : Nat → ClassId) (T : Nat → Nat → Nat) (v_0 : Nat → Nat → Int) (o : Nat) (v_p : Int) (t_o : T 0 o = 9) (r_v_p : inR v_p) : KC l D cy T yX9_personAt cX9_personAt 2 (some (.object "LawRock$Person")) 4 [.ref o, .int (J v_p)] v_0 (KR (fun (o_0 : Option Nat) (v_2 : Nat → Nat → Int) => v_2 = v_0 ∧ ((∀ x, o_0 = some x → T 0 x = 2) ∧ ((o_0 = none → (v_p < 0 ∨ (v_0 202 (T 180 o)) ≤ v_p)) ∧ (∀ y_, o_0 = some y_ → 0 ≤ v_p ∧ v_p < (v_0 202 (T 180 o)) ∧ T (1000 + (v_p).toNat) (T 201 (T 180 o)) = y_ + 1))))) := by
  refine KC.ofr (Or.inl ⟨_, rfl⟩) (by decide) (Nat.le_of_ble_eq_true rfl) ?_
  intro p e s m below meth c ls ar QW A0 H0 H locs E hK hA hw hl hret
  have hl : lv_has ls 2 [(0, .ref o), (1, .int (J v_p))] := hl
  have hT : WT T := hw.1.2.1
  refine j_iload_n E 1 rfl dX9_personAt_0 rfl (lv_at hl 1 rfl) ?_
  refine j_if_lt E 4 29 rfl r_v_p dX9_personAt_1 (by decide) (fun cc1_ => ?_) (fun cc1_ => ?_)
  · refine j_null E 30 rfl dX9_personAt_29 ?_
    exact hret 30 none (v_0) _ _ ls hw ⟨rfl, (fun x h => by cases h), ⟨fun _ => (by omega), fun y_ h_ => (by cases h_)⟩⟩ dX9_personAt_30
  · refine j_iload_n E 5 rfl dX9_personAt_4 rfl (lv_at hl 1 rfl) ?_
    refine j_aload_n E 6 rfl dX9_personAt_5 rfl (lv_at hl 0 rfl) ?_
    refine g_180 E hK hw fl_X9_12 t_o 9 rfl dX9_personAt_6 ?_
    refine kV_i E (c_Jx4a65c_size_8abf5 l D cy T (v_0) (T 180 o)  (wt_180 hT t_o)  ) mt_Jx4a65c_size_8abf5 ml_X9_80 hK hw (cw_rc10 hK hw.1 (wt_180 hT t_o)) hA ⟨Nat.le_of_ble_eq_true rfl, Nat.le_of_ble_eq_true rfl⟩ ⟨Nat.le_of_ble_eq_true rfl, Nat.le_of_ble_eq_true rfl⟩ (As := []) (rest := [.int (J v_p)]) rfl rfl hl.1 (Nat.le_of_ble_eq_true rfl) 12 rfl dX9_personAt_9 (fun zz2_ v_2 H locs rr2_ hq2_ hw => ?_)
    obtain ⟨ev2_, hh2_⟩ := hq2_
    rw [ev2_] at hw; clear ev2_
    replace hh2_ : zz2_ = ((v_0 202) ((T 180 o))) ∧ 0 ≤ zz2_ := hh2_
    refine j_icmp_ge E 15 29 rfl r_v_p rr2_ dX9_personAt_12 (by decide) (fun cc3_ => ?_) (fun cc3_ => ?_)
    · refine j_null E 30 rfl dX9_personAt_29 ?_
      exact hret 30 none (v_0) _ _ ls hw ⟨rfl, (fun x h => by cases h), ⟨fun _ => (by omega), fun y_ h_ => (by cases h_)⟩⟩ dX9_personAt_30
    · refine j_aload_n E 16 rfl dX9_personAt_15 rfl (lv_at hl 0 rfl) ?_
      refine g_180 E hK hw fl_X9_12 t_o 19 rfl dX9_personAt_16 ?_
      refine j_iload_n E 20 rfl dX9_personAt_19 rfl (lv_at hl 1 rfl) ?_
      refine kV_n E (c_Jx4a65c_get_915e3 l D cy T (v_0) (T 180 o) v_p  (wt_180 hT t_o) r_v_p (show 0 ≤ v_p ∧ v_p < ((v_0 202) ((T 180 o))) from by omega)) mt_Jx4a65c_get_915e3 ml_X9_123 hK hw (cw_rc10 hK hw.1 (wt_180 hT t_o)) hA ⟨Nat.le_of_ble_eq_true rfl, Nat.le_of_ble_eq_true rfl⟩ ⟨Nat.le_of_ble_eq_true rfl, Nat.le_of_ble_eq_true rfl⟩ (As := [.int (J v_p)]) (rest := []) rfl rfl hl.1 (Nat.le_of_ble_eq_true rfl) 23 rfl dX9_personAt_20 (fun xx4_ v_4 H locs hq4_ hw => ?_)
      obtain ⟨ev4_, hh4_⟩ := hq4_
      rw [ev4_] at hw; clear ev4_
      replace hh4_ : dcd (T (1000 + (v_p).toNat) (T 201 (T 180 o))) = some xx4_ ∧ T 0 xx4_ = T 2 (T 180 o) := hh4_
      have te4_ : T 0 xx4_ = 2 := hh4_.2.trans (we_180 hT t_o)
      have tg_ := te4_
      have hg_ := hh4_.1
      refine k_cast2 E hK hw cl_X9_84 te4_ 26 rfl dX9_personAt_23 ?_
      refine j_goto E 30 dX9_personAt_26 (by decide) ?_
      exact hret 30 (some xx4_) (v_0) _ _ ls hw ⟨rfl, (fun x h => by cases h; exact te4_), ⟨fun h_ => (by cases h_), fun y_ h_ => by cases h_; exact ⟨by omega, by omega, dcd_e hg_⟩⟩⟩ dX9_personAt_30
set_option maxHeartbeats 4000000 in
set_option maxRecDepth 100000 in
theorem c_X9_suitAt (l : Launch) (D : va_G) (cy : Nat → ClassId) (T : Nat → Nat → Nat) (v_0 : Nat → Nat → Int) (o : Nat) (v_i : Int) (t_o : T 0 o = 9) (r_v_i : inR v_i) : KC l D cy T yX9_suitAt cX9_suitAt 2 (some (.object "LawRock$Suit")) 4 [.ref o, .int (J v_i)] v_0 (KR (fun (o_0 : Option Nat) (v_2 : Nat → Nat → Int) => v_2 = v_0 ∧ ((∀ x, o_0 = some x → T 0 x = 7) ∧ ((o_0 = none → (v_i < 0 ∨ (v_0 202 (T 183 o)) ≤ v_i)) ∧ (∀ y_, o_0 = some y_ → 0 ≤ v_i ∧ v_i < (v_0 202 (T 183 o)) ∧ T (1000 + (v_i).toNat) (T 201 (T 183 o)) = y_ + 1))))) := by
  refine KC.ofr (Or.inl ⟨_, rfl⟩) (by decide) (Nat.le_of_ble_eq_true rfl) ?_
  intro p e s m below meth c ls ar QW A0 H0 H locs E hK hA hw hl hret
  have hl : lv_has ls 2 [(0, .ref o), (1, .int (J v_i))] := hl
  have hT : WT T := hw.1.2.1
  refine j_iload_n E 1 rfl dX9_suitAt_0 rfl (lv_at hl 1 rfl) ?_
  refine j_if_lt E 4 29 rfl r_v_i dX9_suitAt_1 (by decide) (fun cc1_ => ?_) (fun cc1_ => ?_)
  · refine j_null E 30 rfl dX9_suitAt_29 ?_
    exact hret 30 none (v_0) _ _ ls hw ⟨rfl, (fun x h => by cases h), ⟨fun _ => (by omega), fun y_ h_ => (by cases h_)⟩⟩ dX9_suitAt_30
  · refine j_iload_n E 5 rfl dX9_suitAt_4 rfl (lv_at hl 1 rfl) ?_
    refine j_aload_n E 6 rfl dX9_suitAt_5 rfl (lv_at hl 0 rfl) ?_
    refine g_183 E hK hw fl_X9_22 t_o 9 rfl dX9_suitAt_6 ?_
    refine kV_i E (c_Jx4a65c_size_8abf5 l D cy T (v_0) (T 183 o)  (wt_183 hT t_o)  ) mt_Jx4a65c_size_8abf5 ml_X9_80 hK hw (cw_rc10 hK hw.1 (wt_183 hT t_o)) hA ⟨Nat.le_of_ble_eq_true rfl, Nat.le_of_ble_eq_true rfl⟩ ⟨Nat.le_of_ble_eq_true rfl, Nat.le_of_ble_eq_true rfl⟩ (As := []) (rest := [.int (J v_i)]) rfl rfl hl.1 (Nat.le_of_ble_eq_true rfl) 12 rfl dX9_suitAt_9 (fun zz2_ v_2 H locs rr2_ hq2_ hw => ?_)
    obtain ⟨ev2_, hh2_⟩ := hq2_
    rw [ev2_] at hw; clear ev2_
    replace hh2_ : zz2_ = ((v_0 202) ((T 183 o))) ∧ 0 ≤ zz2_ := hh2_
    refine j_icmp_ge E 15 29 rfl r_v_i rr2_ dX9_suitAt_12 (by decide) (fun cc3_ => ?_) (fun cc3_ => ?_)
    · refine j_null E 30 rfl dX9_suitAt_29 ?_
      exact hret 30 none (v_0) _ _ ls hw ⟨rfl, (fun x h => by cases h), ⟨fun _ => (by omega), fun y_ h_ => (by cases h_)⟩⟩ dX9_suitAt_30
    · refine j_aload_n E 16 rfl dX9_suitAt_15 rfl (lv_at hl 0 rfl) ?_
      refine g_183 E hK hw fl_X9_22 t_o 19 rfl dX9_suitAt_16 ?_
      refine j_iload_n E 20 rfl dX9_suitAt_19 rfl (lv_at hl 1 rfl) ?_
      refine kV_n E (c_Jx4a65c_get_915e3 l D cy T (v_0) (T 183 o) v_i  (wt_183 hT t_o) r_v_i (show 0 ≤ v_i ∧ v_i < ((v_0 202) ((T 183 o))) from by omega)) mt_Jx4a65c_get_915e3 ml_X9_123 hK hw (cw_rc10 hK hw.1 (wt_183 hT t_o)) hA ⟨Nat.le_of_ble_eq_true rfl, Nat.le_of_ble_eq_true rfl⟩ ⟨Nat.le_of_ble_eq_true rfl, Nat.le_of_ble_eq_true rfl⟩ (As := [.int (J v_i)]) (rest := []) rfl rfl hl.1 (Nat.le_of_ble_eq_true rfl) 23 rfl dX9_suitAt_20 (fun xx4_ v_4 H locs hq4_ hw => ?_)
      obtain ⟨ev4_, hh4_⟩ := hq4_
      rw [ev4_] at hw; clear ev4_
      replace hh4_ : dcd (T (1000 + (v_i).toNat) (T 201 (T 183 o))) = some xx4_ ∧ T 0 xx4_ = T 2 (T 183 o) := hh4_
      have te4_ : T 0 xx4_ = 7 := hh4_.2.trans (we_183 hT t_o)
      have tg_ := te4_
      have hg_ := hh4_.1
      refine k_cast7 E hK hw cl_X9_131 te4_ 26 rfl dX9_suitAt_23 ?_
      refine j_goto E 30 dX9_suitAt_26 (by decide) ?_
      exact hret 30 (some xx4_) (v_0) _ _ ls hw ⟨rfl, (fun x h => by cases h; exact te4_), ⟨fun h_ => (by cases h_), fun y_ h_ => by cases h_; exact ⟨by omega, by omega, dcd_e hg_⟩⟩⟩ dX9_suitAt_30
set_option maxHeartbeats 4000000 in
set_option maxRecDepth 100000 in
theorem c_X9_lineAt (l : Launch) (D : va_G) (cy : Nat → ClassId) (T : Nat → Nat → Nat) (v_0 : Nat → Nat → Int) (o : Nat) (v_l : Int) (t_o : T 0 o = 9) (r_v_l : inR v_l) : KC l D cy T yX9_lineAt cX9_lineAt 2 (some (.object "LawRock$Line")) 4 [.ref o, .int (J v_l)] v_0 (KR (fun (o_0 : Option Nat) (v_2 : Nat → Nat → Int) => v_2 = v_0 ∧ ((∀ x, o_0 = some x → T 0 x = 1) ∧ ((o_0 = none → (v_l < 0 ∨ (v_0 202 (T 181 o)) ≤ v_l)) ∧ (∀ y_, o_0 = some y_ → 0 ≤ v_l ∧ v_l < (v_0 202 (T 181 o)) ∧ T (1000 + (v_l).toNat) (T 201 (T 181 o)) = y_ + 1))))) := by
  refine KC.ofr (Or.inl ⟨_, rfl⟩) (by decide) (Nat.le_of_ble_eq_true rfl) ?_
  intro p e s m below meth c ls ar QW A0 H0 H locs E hK hA hw hl hret
  have hl : lv_has ls 2 [(0, .ref o), (1, .int (J v_l))] := hl
  have hT : WT T := hw.1.2.1
  refine j_aload_n E 1 rfl dX9_lineAt_0 rfl (lv_at hl 0 rfl) ?_
  refine j_iload_n E 2 rfl dX9_lineAt_1 rfl (lv_at hl 1 rfl) ?_
  refine kV_i E (c_X9_isLine l D cy T (v_0) o v_l  t_o r_v_l ) mt_X9_isLine ml_X9_172 hK hw (cw_rc9 hK hw.1 t_o) hA ⟨Nat.le_of_ble_eq_true rfl, Nat.le_of_ble_eq_true rfl⟩ ⟨Nat.le_of_ble_eq_true rfl, Nat.le_of_ble_eq_true rfl⟩ (As := [.int (J v_l)]) (rest := []) rfl rfl hl.1 (Nat.le_of_ble_eq_true rfl) 5 rfl dX9_lineAt_2 (fun zz1_ v_1 H locs rr1_ hq1_ hw => ?_)
  obtain ⟨ev1_, hh1_⟩ := hq1_
  rw [ev1_] at hw; clear ev1_
  replace hh1_ : (zz1_ = 1 ∧ 0 ≤ v_l ∧ v_l < ((v_0 202) (T 181 o))) ∨ (zz1_ = 0 ∧ (v_l < 0 ∨ ((v_0 202) (T 181 o)) ≤ v_l)) := hh1_
  refine j_if_eq E 8 22 rfl rr1_ dX9_lineAt_5 (by decide) (fun cc2_ => ?_) (fun cc2_ => ?_)
  · refine j_null E 23 rfl dX9_lineAt_22 ?_
    exact hret 23 none (v_0) _ _ ls hw ⟨rfl, (fun x h => by cases h), ⟨fun _ => (by omega), fun y_ h_ => (by cases h_)⟩⟩ dX9_lineAt_23
  · refine j_aload_n E 9 rfl dX9_lineAt_8 rfl (lv_at hl 0 rfl) ?_
    refine g_181 E hK hw fl_X9_16 t_o 12 rfl dX9_lineAt_9 ?_
    refine j_iload_n E 13 rfl dX9_lineAt_12 rfl (lv_at hl 1 rfl) ?_
    refine kV_n E (c_Jx4a65c_get_915e3 l D cy T (v_0) (T 181 o) v_l  (wt_181 hT t_o) r_v_l (show 0 ≤ v_l ∧ v_l < ((v_0 202) ((T 181 o))) from by omega)) mt_Jx4a65c_get_915e3 ml_X9_123 hK hw (cw_rc10 hK hw.1 (wt_181 hT t_o)) hA ⟨Nat.le_of_ble_eq_true rfl, Nat.le_of_ble_eq_true rfl⟩ ⟨Nat.le_of_ble_eq_true rfl, Nat.le_of_ble_eq_true rfl⟩ (As := [.int (J v_l)]) (rest := []) rfl rfl hl.1 (Nat.le_of_ble_eq_true rfl) 16 rfl dX9_lineAt_13 (fun xx3_ v_3 H locs hq3_ hw => ?_)
    obtain ⟨ev3_, hh3_⟩ := hq3_
    rw [ev3_] at hw; clear ev3_
    replace hh3_ : dcd (T (1000 + (v_l).toNat) (T 201 (T 181 o))) = some xx3_ ∧ T 0 xx3_ = T 2 (T 181 o) := hh3_
    have te3_ : T 0 xx3_ = 1 := hh3_.2.trans (we_181 hT t_o)
    have tg_ := te3_
    have hg_ := hh3_.1
    refine k_cast1 E hK hw cl_X9_167 te3_ 19 rfl dX9_lineAt_16 ?_
    refine j_goto E 23 dX9_lineAt_19 (by decide) ?_
    exact hret 23 (some xx3_) (v_0) _ _ ls hw ⟨rfl, (fun x h => by cases h; exact te3_), ⟨fun h_ => (by cases h_), fun y_ h_ => by cases h_; exact ⟨by omega, by omega, dcd_e hg_⟩⟩⟩ dX9_lineAt_23
set_option maxHeartbeats 4000000 in
set_option maxRecDepth 100000 in
theorem c_X9_wordingAt (l : Launch) (D : va_G) (cy : Nat → ClassId) (T : Nat → Nat → Nat) (v_0 : Nat → Nat → Int) (o : Nat) (v_w : Int) (t_o : T 0 o = 9) (r_v_w : inR v_w) : KC l D cy T yX9_wordingAt cX9_wordingAt 2 (some (.object "LawRock$Wording")) 4 [.ref o, .int (J v_w)] v_0 (KR (fun (o_0 : Option Nat) (v_2 : Nat → Nat → Int) => v_2 = v_0 ∧ ((∀ x, o_0 = some x → T 0 x = 8) ∧ ((o_0 = none → (v_w < 0 ∨ (v_0 202 (T 182 o)) ≤ v_w)) ∧ (∀ y_, o_0 = some y_ → 0 ≤ v_w ∧ v_w < (v_0 202 (T 182 o)) ∧ T (1000 + (v_w).toNat) (T 201 (T 182 o)) = y_ + 1))))) := by
  refine KC.ofr (Or.inl ⟨_, rfl⟩) (by decide) (Nat.le_of_ble_eq_true rfl) ?_
  intro p e s m below meth c ls ar QW A0 H0 H locs E hK hA hw hl hret
  have hl : lv_has ls 2 [(0, .ref o), (1, .int (J v_w))] := hl
  have hT : WT T := hw.1.2.1
  refine j_aload_n E 1 rfl dX9_wordingAt_0 rfl (lv_at hl 0 rfl) ?_
  refine j_iload_n E 2 rfl dX9_wordingAt_1 rfl (lv_at hl 1 rfl) ?_
  refine kV_i E (c_X9_isWording l D cy T (v_0) o v_w  t_o r_v_w ) mt_X9_isWording ml_X9_164 hK hw (cw_rc9 hK hw.1 t_o) hA ⟨Nat.le_of_ble_eq_true rfl, Nat.le_of_ble_eq_true rfl⟩ ⟨Nat.le_of_ble_eq_true rfl, Nat.le_of_ble_eq_true rfl⟩ (As := [.int (J v_w)]) (rest := []) rfl rfl hl.1 (Nat.le_of_ble_eq_true rfl) 5 rfl dX9_wordingAt_2 (fun zz1_ v_1 H locs rr1_ hq1_ hw => ?_)
  obtain ⟨ev1_, hh1_⟩ := hq1_
  rw [ev1_] at hw; clear ev1_
  replace hh1_ : (zz1_ = 1 ∧ 0 ≤ v_w ∧ v_w < ((v_0 202) (T 182 o))) ∨ (zz1_ = 0 ∧ (v_w < 0 ∨ ((v_0 202) (T 182 o)) ≤ v_w)) := hh1_
  refine j_if_eq E 8 22 rfl rr1_ dX9_wordingAt_5 (by decide) (fun cc2_ => ?_) (fun cc2_ => ?_)
  · refine j_null E 23 rfl dX9_wordingAt_22 ?_
    exact hret 23 none (v_0) _ _ ls hw ⟨rfl, (fun x h => by cases h), ⟨fun _ => (by omega), fun y_ h_ => (by cases h_)⟩⟩ dX9_wordingAt_23
  · refine j_aload_n E 9 rfl dX9_wordingAt_8 rfl (lv_at hl 0 rfl) ?_
    refine g_182 E hK hw fl_X9_19 t_o 12 rfl dX9_wordingAt_9 ?_
    refine j_iload_n E 13 rfl dX9_wordingAt_12 rfl (lv_at hl 1 rfl) ?_
    refine kV_n E (c_Jx4a65c_get_915e3 l D cy T (v_0) (T 182 o) v_w  (wt_182 hT t_o) r_v_w (show 0 ≤ v_w ∧ v_w < ((v_0 202) ((T 182 o))) from by omega)) mt_Jx4a65c_get_915e3 ml_X9_123 hK hw (cw_rc10 hK hw.1 (wt_182 hT t_o)) hA ⟨Nat.le_of_ble_eq_true rfl, Nat.le_of_ble_eq_true rfl⟩ ⟨Nat.le_of_ble_eq_true rfl, Nat.le_of_ble_eq_true rfl⟩ (As := [.int (J v_w)]) (rest := []) rfl rfl hl.1 (Nat.le_of_ble_eq_true rfl) 16 rfl dX9_wordingAt_13 (fun xx3_ v_3 H locs hq3_ hw => ?_)
    obtain ⟨ev3_, hh3_⟩ := hq3_
    rw [ev3_] at hw; clear ev3_
    replace hh3_ : dcd (T (1000 + (v_w).toNat) (T 201 (T 182 o))) = some xx3_ ∧ T 0 xx3_ = T 2 (T 182 o) := hh3_
    have te3_ : T 0 xx3_ = 8 := hh3_.2.trans (we_182 hT t_o)
    have tg_ := te3_
    have hg_ := hh3_.1
    refine k_cast8 E hK hw cl_X9_152 te3_ 19 rfl dX9_wordingAt_16 ?_
    refine j_goto E 23 dX9_wordingAt_19 (by decide) ?_
    exact hret 23 (some xx3_) (v_0) _ _ ls hw ⟨rfl, (fun x h => by cases h; exact te3_), ⟨fun h_ => (by cases h_), fun y_ h_ => by cases h_; exact ⟨by omega, by omega, dcd_e hg_⟩⟩⟩ dX9_wordingAt_23
set_option maxHeartbeats 4000000 in
set_option maxRecDepth 100000 in
theorem c_X9_isPast (l : Launch) (D : va_G) (cy : Nat → ClassId) (T : Nat → Nat → Nat) (v_0 : Nat → Nat → Int) (o : Nat) (v_k : Int) (t_o : T 0 o = 9) (r_v_k : inR v_k) : KC l D cy T yX9_isPast cX9_isPast 2 (some .boolean) 1 [.ref o, .int (J v_k)] v_0 (KI (fun (z_0 : Int) (v_2 : Nat → Nat → Int) => v_2 = v_0 ∧ ((z_0 = 1 ∧ 0 ≤ v_k ∧ v_k < (v_0 187 o)) ∨ (z_0 = 0 ∧ ¬ (0 ≤ v_k ∧ v_k < (v_0 187 o)))))) := by
  refine KC.ofz (by decide) (Nat.le_of_ble_eq_true rfl) ?_
  intro p e s m below meth c ls ar QW A0 H0 H locs E hK hA hw hl hret
  have hl : lv_has ls 2 [(0, .ref o), (1, .int (J v_k))] := hl
  have hT : WT T := hw.1.2.1
  refine j_iload_n E 1 rfl dX9_isPast_0 rfl (lv_at hl 1 rfl) ?_
  refine j_if_lt E 4 16 rfl r_v_k dX9_isPast_1 (by decide) (fun cc1_ => ?_) (fun cc1_ => ?_)
  · refine j_iconst E 17 rfl dX9_isPast_16 ?_
    exact hret 17 0 (v_0) _ _ ls hw (Or.inl rfl) ⟨rfl, by omega⟩ dX9_isPast_17
  · refine j_iload_n E 5 rfl dX9_isPast_4 rfl (lv_at hl 1 rfl) ?_
    refine j_aload_n E 6 rfl dX9_isPast_5 rfl (lv_at hl 0 rfl) ?_
    refine g_187 E hK hw fl_X9_37 t_o (v_0 187 o) rfl 9 rfl dX9_isPast_6 (fun rr2_ => ?_)
    refine j_icmp_ge E 12 16 rfl r_v_k rr2_ dX9_isPast_9 (by decide) (fun cc3_ => ?_) (fun cc3_ => ?_)
    · refine j_iconst E 17 rfl dX9_isPast_16 ?_
      exact hret 17 0 (v_0) _ _ ls hw (Or.inl rfl) ⟨rfl, by omega⟩ dX9_isPast_17
    · refine j_iconst E 13 rfl dX9_isPast_12 ?_
      refine j_goto E 17 dX9_isPast_13 (by decide) ?_
      exact hret 17 1 (v_0) _ _ ls hw (Or.inr rfl) ⟨rfl, by omega⟩ dX9_isPast_17
set_option maxHeartbeats 4000000 in
set_option maxRecDepth 100000 in
theorem c_X9_livingAt (l : Launch) (D : va_G) (cy : Nat → ClassId) (T : Nat → Nat → Nat) (v_0 : Nat → Nat → Int) (o : Nat) (v_p : Int) (t_o : T 0 o = 9) (r_v_p : inR v_p) : KC l D cy T yX9_livingAt cX9_livingAt 3 (some (.object "LawRock$Person")) 5 [.ref o, .int (J v_p)] v_0 (KR (fun (o_0 : Option Nat) (v_2 : Nat → Nat → Int) => v_2 = v_0 ∧ ((∀ x, o_0 = some x → T 0 x = 2) ∧ ((o_0 = none → ((v_p < 0 ∨ (v_0 202 (T 180 o)) ≤ v_p) ∨ ∃ y_, T (1000 + (v_p).toNat) (T 201 (T 180 o)) = y_ + 1 ∧ ¬ (v_0 43 y_) = -1)) ∧ (∀ y_, o_0 = some y_ → 0 ≤ v_p ∧ v_p < (v_0 202 (T 180 o)) ∧ T (1000 + (v_p).toNat) (T 201 (T 180 o)) = y_ + 1 ∧ (v_0 43 y_) = -1))))) := by
  refine KC.ofr (Or.inl ⟨_, rfl⟩) (by decide) (Nat.le_of_ble_eq_true rfl) ?_
  intro p e s m below meth c ls ar QW A0 H0 H locs E hK hA hw hl hret
  have hl : lv_has ls 3 [(0, .ref o), (1, .int (J v_p))] := hl
  have hT : WT T := hw.1.2.1
  refine j_aload_n E 1 rfl dX9_livingAt_0 rfl (lv_at hl 0 rfl) ?_
  refine j_iload_n E 2 rfl dX9_livingAt_1 rfl (lv_at hl 1 rfl) ?_
  refine kV_r E (c_X9_personAt l D cy T (v_0) o v_p  t_o r_v_p ) mt_X9_personAt ml_X9_104 hK hw (cw_rc9 hK hw.1 t_o) hA ⟨Nat.le_of_ble_eq_true rfl, Nat.le_of_ble_eq_true rfl⟩ ⟨Nat.le_of_ble_eq_true rfl, Nat.le_of_ble_eq_true rfl⟩ (As := [.int (J v_p)]) (rest := []) rfl rfl hl.1 (Nat.le_of_ble_eq_true rfl) 5 rfl dX9_livingAt_2 (fun oo1_ v_1 H locs hq1_ hw => ?_)
  obtain ⟨ev1_, hh1_⟩ := hq1_
  rw [ev1_] at hw; clear ev1_
  obtain ⟨tt1_, hh1_⟩ := hh1_
  replace hh1_ : (oo1_ = none → (v_p < 0 ∨ ((v_0 202) (T 180 o)) ≤ v_p)) ∧ (∀ y_, oo1_ = some y_ → 0 ≤ v_p ∧ v_p < ((v_0 202) (T 180 o)) ∧ T (1000 + (v_p).toNat) (T 201 (T 180 o)) = y_ + 1) := hh1_
  cases oo1_ with
  | none =>
    first | have hn_ := hh1_.1 rfl | have hs_ := hh1_.2 _ rfl
    refine j_astore_nN E 6 rfl [(2, .null), (0, .ref o), (1, .int (J v_p))] dX9_livingAt_5 rfl hl (by decide) rfl (fun ls hl => ?_)
    refine j_aload_nN E 7 rfl dX9_livingAt_6 rfl (lv_at hl 0 rfl) ?_
    refine j_ifnullN E 21 dX9_livingAt_7 (by decide) ?_
    refine j_null E 22 rfl dX9_livingAt_21 ?_
    exact hret 22 none (v_0) _ _ ls hw ⟨rfl, (fun x h => by cases h), ⟨fun _ => (by first | exact Or.inl hn_ | exact Or.inr ⟨_, hs_.2.2, by omega⟩), fun y_ h_ => (by cases h_)⟩⟩ dX9_livingAt_22
  | some xx1_ =>
    have te1_ := tt1_ xx1_ rfl
    have tr_ := te1_
    first | have hn_ := hh1_.1 rfl | have hs_ := hh1_.2 _ rfl
    refine j_astore_n E 6 rfl [(2, .ref xx1_), (0, .ref o), (1, .int (J v_p))] dX9_livingAt_5 rfl hl (by decide) rfl (fun ls hl => ?_)
    refine j_aload_n E 7 rfl dX9_livingAt_6 rfl (lv_at hl 0 rfl) ?_
    refine j_ifnullR E 10 rfl dX9_livingAt_7 ?_
    refine j_aload_n E 11 rfl dX9_livingAt_10 rfl (lv_at hl 0 rfl) ?_
    refine kV_i E (c_X1_lives l D cy T (v_0) xx1_  te1_  ) mt_X1_lives ml_X9_127 hK hw (cw_rc2 hK hw.1 te1_) hA ⟨Nat.le_of_ble_eq_true rfl, Nat.le_of_ble_eq_true rfl⟩ ⟨Nat.le_of_ble_eq_true rfl, Nat.le_of_ble_eq_true rfl⟩ (As := []) (rest := []) rfl rfl hl.1 (Nat.le_of_ble_eq_true rfl) 14 rfl dX9_livingAt_11 (fun zz2_ v_2 H locs rr2_ hq2_ hw => ?_)
    obtain ⟨ev2_, hh2_⟩ := hq2_
    rw [ev2_] at hw; clear ev2_
    replace hh2_ : (zz2_ = 1 ∧ ((v_0 43) xx1_) = -1) ∨ (zz2_ = 0 ∧ ¬ ((v_0 43) xx1_) = -1) := hh2_
    refine j_if_eq E 17 21 rfl rr2_ dX9_livingAt_14 (by decide) (fun cc3_ => ?_) (fun cc3_ => ?_)
    · refine j_null E 22 rfl dX9_livingAt_21 ?_
      exact hret 22 none (v_0) _ _ ls hw ⟨rfl, (fun x h => by cases h), ⟨fun _ => (by first | exact Or.inl hn_ | exact Or.inr ⟨_, hs_.2.2, by omega⟩), fun y_ h_ => (by cases h_)⟩⟩ dX9_livingAt_22
    · refine j_aload_n E 18 rfl dX9_livingAt_17 rfl (lv_at hl 0 rfl) ?_
      refine j_goto E 22 dX9_livingAt_18 (by decide) ?_
      exact hret 22 (some xx1_) (v_0) _ _ ls hw ⟨rfl, (fun x h => by cases h; exact te1_), ⟨fun h_ => (by cases h_), fun y_ h_ => by cases h_; exact ⟨hs_.1, hs_.2.1, hs_.2.2, by omega⟩⟩⟩ dX9_livingAt_22
set_option maxHeartbeats 4000000 in
set_option maxRecDepth 100000 in
theorem c_X9_dies (l : Launch) (D : va_G) (cy : Nat → ClassId) (T : Nat → Nat → Nat) (v_0 : Nat → Nat → Int) (o : Nat) (v_p : Int) (t_o : T 0 o = 9) (r_v_p : inR v_p) : KC l D cy T yX9_dies cX9_dies 3 (some .boolean) 6 [.ref o, .int (J v_p)] v_0 (KI (fun (z_0 : Int) (v_2 : Nat → Nat → Int) => ∃ (y43_2 : Nat → Int) , v_2 = upV v_0 43 y43_2 ∧ ((z_0 = 0 ∧ (y43_2) = (v_0 43) ∧ ((v_p < 0 ∨ (v_0 202 (T 180 o)) ≤ v_p) ∨ ∃ y_, T (1000 + (v_p).toNat) (T 201 (T 180 o)) = y_ + 1 ∧ ¬ (v_0 43 y_) = -1)) ∨ (z_0 = 1 ∧ ∃ y_, (0 ≤ v_p ∧ v_p < (v_0 202 (T 180 o)) ∧ T (1000 + (v_p).toNat) (T 201 (T 180 o)) = y_ + 1 ∧ (v_0 43 y_) = -1) ∧ (y43_2) = upB (v_0 43) y_ ((v_0 187 o)))))) := by
  refine KC.ofz (by decide) (Nat.le_of_ble_eq_true rfl) ?_
  intro p e s m below meth c ls ar QW A0 H0 H locs E hK hA hw hl hret
  have hl : lv_has ls 3 [(0, .ref o), (1, .int (J v_p))] := hl
  have hT : WT T := hw.1.2.1
  refine j_aload_n E 1 rfl dX9_dies_0 rfl (lv_at hl 0 rfl) ?_
  refine j_iload_n E 2 rfl dX9_dies_1 rfl (lv_at hl 1 rfl) ?_
  refine kV_r E (c_X9_livingAt l D cy T (v_0) o v_p  t_o r_v_p ) mt_X9_livingAt ml_X9_93 hK hw (cw_rc9 hK hw.1 t_o) hA ⟨Nat.le_of_ble_eq_true rfl, Nat.le_of_ble_eq_true rfl⟩ ⟨Nat.le_of_ble_eq_true rfl, Nat.le_of_ble_eq_true rfl⟩ (As := [.int (J v_p)]) (rest := []) rfl rfl hl.1 (Nat.le_of_ble_eq_true rfl) 5 rfl dX9_dies_2 (fun oo1_ v_1 H locs hq1_ hw => ?_)
  obtain ⟨ev1_, hh1_⟩ := hq1_
  rw [ev1_] at hw; clear ev1_
  obtain ⟨tt1_, hh1_⟩ := hh1_
  replace hh1_ : (oo1_ = none → ((v_p < 0 ∨ ((v_0 202) (T 180 o)) ≤ v_p) ∨ ∃ y_, T (1000 + (v_p).toNat) (T 201 (T 180 o)) = y_ + 1 ∧ ¬ ((v_0 43) y_) = -1)) ∧ (∀ y_, oo1_ = some y_ → 0 ≤ v_p ∧ v_p < ((v_0 202) (T 180 o)) ∧ T (1000 + (v_p).toNat) (T 201 (T 180 o)) = y_ + 1 ∧ ((v_0 43) y_) = -1) := hh1_
  cases oo1_ with
  | none =>
    first | have hn_ := hh1_.1 rfl | have hs_ := hh1_.2 _ rfl
    refine j_astore_nN E 6 rfl [(2, .null), (0, .ref o), (1, .int (J v_p))] dX9_dies_5 rfl hl (by decide) rfl (fun ls hl => ?_)
    refine j_aload_nN E 7 rfl dX9_dies_6 rfl (lv_at hl 0 rfl) ?_
    refine j_ifnonnullN E 10 rfl dX9_dies_7 ?_
    refine j_iconst E 11 rfl dX9_dies_10 ?_
    exact hret 11 0 (upV v_0 43 (v_0 43)) _ _ ls (cw_eq hw (by first | rfl | (funext j_; simp only [upV, reduceIte]; (repeat' split) <;> first | rfl | omega | (subst_vars; rfl)))) (Or.inl rfl) ⟨(v_0 43), rfl, Or.inl ⟨rfl, rfl, hn_⟩⟩ dX9_dies_11
  | some xx1_ =>
    have te1_ := tt1_ xx1_ rfl
    have tr_ := te1_
    first | have hn_ := hh1_.1 rfl | have hs_ := hh1_.2 _ rfl
    refine j_astore_n E 6 rfl [(2, .ref xx1_), (0, .ref o), (1, .int (J v_p))] dX9_dies_5 rfl hl (by decide) rfl (fun ls hl => ?_)
    refine j_aload_n E 7 rfl dX9_dies_6 rfl (lv_at hl 0 rfl) ?_
    refine j_ifnonnullR E 12 dX9_dies_7 (by decide) ?_
    refine j_aload_n E 13 rfl dX9_dies_12 rfl (lv_at hl 0 rfl) ?_
    refine j_aload_n E 14 rfl dX9_dies_13 rfl (lv_at hl 1 rfl) ?_
    refine g_187 E hK hw fl_X9_37 t_o (v_0 187 o) rfl 17 rfl dX9_dies_14 (fun rr2_ => ?_)
    refine p_43 E hK hw fl_X9_97 te1_ rr2_ 20 rfl dX9_dies_17 (fun H locs hw => ?_)
    have hw : WK D cy T (upV v_0 43 (upB (v_0 43) xx1_ (v_0 187 o))) A0 H0 H locs := cw_eq hw (by first | rfl | (funext j_; simp only [upV, reduceIte]; (repeat' split) <;> first | rfl | omega | (subst_vars; rfl)))
    refine j_iconst E 21 rfl dX9_dies_20 ?_
    exact hret 21 1 (upV v_0 43 (upB (v_0 43) xx1_ (v_0 187 o))) _ _ ls hw (Or.inr rfl) ⟨(upB (v_0 43) xx1_ (v_0 187 o)), rfl, Or.inr ⟨rfl, _, hs_, rfl⟩⟩ dX9_dies_21
set_option maxHeartbeats 4000000 in
set_option maxRecDepth 100000 in
theorem c_X9_away (l : Launch) (D : va_G) (cy : Nat → ClassId) (T : Nat → Nat → Nat) (v_0 : Nat → Nat → Int) (o : Nat) (v_p : Int) (t_o : T 0 o = 9) (r_v_p : inR v_p) : KC l D cy T yX9_away cX9_away 3 (some .boolean) 6 [.ref o, .int (J v_p)] v_0 (KI (fun (z_0 : Int) (v_2 : Nat → Nat → Int) => ∃ (y44_2 : Nat → Int) , v_2 = upV v_0 44 y44_2 ∧ ((z_0 = 0 ∧ (y44_2) = (v_0 44) ∧ (((v_p < 0 ∨ (v_0 202 (T 180 o)) ≤ v_p) ∨ ∃ y_, T (1000 + (v_p).toNat) (T 201 (T 180 o)) = y_ + 1 ∧ ¬ (v_0 43 y_) = -1) ∨ ∃ y_, T (1000 + (v_p).toNat) (T 201 (T 180 o)) = y_ + 1 ∧ ¬ (v_0 44 y_) = 0)) ∨ (z_0 = 1 ∧ ∃ y_, (0 ≤ v_p ∧ v_p < (v_0 202 (T 180 o)) ∧ T (1000 + (v_p).toNat) (T 201 (T 180 o)) = y_ + 1 ∧ (v_0 43 y_) = -1) ∧ (v_0 44 y_) = 0 ∧ (y44_2) = upB (v_0 44) y_ 1)))) := by
  refine KC.ofz (by decide) (Nat.le_of_ble_eq_true rfl) ?_
  intro p e s m below meth c ls ar QW A0 H0 H locs E hK hA hw hl hret
  have hl : lv_has ls 3 [(0, .ref o), (1, .int (J v_p))] := hl
  have hT : WT T := hw.1.2.1
  refine j_aload_n E 1 rfl dX9_away_0 rfl (lv_at hl 0 rfl) ?_
  refine j_iload_n E 2 rfl dX9_away_1 rfl (lv_at hl 1 rfl) ?_
  refine kV_r E (c_X9_livingAt l D cy T (v_0) o v_p  t_o r_v_p ) mt_X9_livingAt ml_X9_93 hK hw (cw_rc9 hK hw.1 t_o) hA ⟨Nat.le_of_ble_eq_true rfl, Nat.le_of_ble_eq_true rfl⟩ ⟨Nat.le_of_ble_eq_true rfl, Nat.le_of_ble_eq_true rfl⟩ (As := [.int (J v_p)]) (rest := []) rfl rfl hl.1 (Nat.le_of_ble_eq_true rfl) 5 rfl dX9_away_2 (fun oo1_ v_1 H locs hq1_ hw => ?_)
  obtain ⟨ev1_, hh1_⟩ := hq1_
  rw [ev1_] at hw; clear ev1_
  obtain ⟨tt1_, hh1_⟩ := hh1_
  replace hh1_ : (oo1_ = none → ((v_p < 0 ∨ ((v_0 202) (T 180 o)) ≤ v_p) ∨ ∃ y_, T (1000 + (v_p).toNat) (T 201 (T 180 o)) = y_ + 1 ∧ ¬ ((v_0 43) y_) = -1)) ∧ (∀ y_, oo1_ = some y_ → 0 ≤ v_p ∧ v_p < ((v_0 202) (T 180 o)) ∧ T (1000 + (v_p).toNat) (T 201 (T 180 o)) = y_ + 1 ∧ ((v_0 43) y_) = -1) := hh1_
  cases oo1_ with
  | none =>
    first | have hn_ := hh1_.1 rfl | have hs_ := hh1_.2 _ rfl
    refine j_astore_nN E 6 rfl [(2, .null), (0, .ref o), (1, .int (J v_p))] dX9_away_5 rfl hl (by decide) rfl (fun ls hl => ?_)
    refine j_aload_nN E 7 rfl dX9_away_6 rfl (lv_at hl 0 rfl) ?_
    refine j_ifnullN E 17 dX9_away_7 (by decide) ?_
    refine j_iconst E 18 rfl dX9_away_17 ?_
    exact hret 18 0 (upV v_0 44 (v_0 44)) _ _ ls (cw_eq hw (by first | rfl | (funext j_; simp only [upV, reduceIte]; (repeat' split) <;> first | rfl | omega | (subst_vars; rfl)))) (Or.inl rfl) ⟨(v_0 44), rfl, Or.inl ⟨rfl, rfl, by first | exact Or.inl hn_ | exact Or.inr ⟨_, hs_.2.2.1, by omega⟩⟩⟩ dX9_away_18
  | some xx1_ =>
    have te1_ := tt1_ xx1_ rfl
    have tr_ := te1_
    first | have hn_ := hh1_.1 rfl | have hs_ := hh1_.2 _ rfl
    refine j_astore_n E 6 rfl [(2, .ref xx1_), (0, .ref o), (1, .int (J v_p))] dX9_away_5 rfl hl (by decide) rfl (fun ls hl => ?_)
    refine j_aload_n E 7 rfl dX9_away_6 rfl (lv_at hl 0 rfl) ?_
    refine j_ifnullR E 10 rfl dX9_away_7 ?_
    refine j_aload_n E 11 rfl dX9_away_10 rfl (lv_at hl 0 rfl) ?_
    refine g_44 E hK hw fl_X9_100 te1_ (v_0 44 xx1_) rfl 14 rfl dX9_away_11 (fun rr2_ => ?_)
    refine j_if_eq E 17 19 rfl rr2_ dX9_away_14 (by decide) (fun cc3_ => ?_) (fun cc3_ => ?_)
    · refine j_aload_n E 20 rfl dX9_away_19 rfl (lv_at hl 0 rfl) ?_
      refine j_iconst E 21 rfl dX9_away_20 ?_
      refine p_44 E hK hw fl_X9_100 te1_ (rr (by decide)) (Or.inr rfl) 24 rfl dX9_away_21 (fun H locs hw => ?_)
      have hw : WK D cy T (upV v_0 44 (upB (v_0 44) xx1_ 1)) A0 H0 H locs := cw_eq hw (by first | rfl | (funext j_; simp only [upV, reduceIte]; (repeat' split) <;> first | rfl | omega | (subst_vars; rfl)))
      refine j_iconst E 25 rfl dX9_away_24 ?_
      exact hret 25 1 (upV v_0 44 (upB (v_0 44) xx1_ 1)) _ _ ls hw (Or.inr rfl) ⟨(upB (v_0 44) xx1_ 1), rfl, Or.inr ⟨rfl, _, hs_, by omega, rfl⟩⟩ dX9_away_25
    · refine j_iconst E 18 rfl dX9_away_17 ?_
      exact hret 18 0 (upV v_0 44 (v_0 44)) _ _ ls (cw_eq hw (by first | rfl | (funext j_; simp only [upV, reduceIte]; (repeat' split) <;> first | rfl | omega | (subst_vars; rfl)))) (Or.inl rfl) ⟨(v_0 44), rfl, Or.inl ⟨rfl, rfl, by first | exact Or.inl hn_ | exact Or.inr ⟨_, hs_.2.2.1, by omega⟩⟩⟩ dX9_away_18
set_option maxHeartbeats 4000000 in
set_option maxRecDepth 100000 in
theorem c_X9_speaker (l : Launch) (D : va_G) (cy : Nat → ClassId) (T : Nat → Nat → Nat) (v_0 : Nat → Nat → Int) (o : Nat) (v_p : Int) (t_o : T 0 o = 9) (r_v_p : inR v_p) : KC l D cy T yX9_speaker cX9_speaker 2 (some .boolean) 6 [.ref o, .int (J v_p)] v_0 (KI (fun (z_0 : Int) (v_2 : Nat → Nat → Int) => ∃ (y188_2 : Nat → Int) , v_2 = upV v_0 188 y188_2 ∧ ((z_0 = 0 ∧ ¬ v_p = -1 ∧ ((v_p < 0 ∨ (v_0 202 (T 180 o)) ≤ v_p) ∨ ∃ y_, T (1000 + (v_p).toNat) (T 201 (T 180 o)) = y_ + 1 ∧ ¬ (v_0 43 y_) = -1)) ∨ (z_0 = 1 ∧ (v_p = -1 ∨ ∃ y_, 0 ≤ v_p ∧ v_p < (v_0 202 (T 180 o)) ∧ T (1000 + (v_p).toNat) (T 201 (T 180 o)) = y_ + 1 ∧ (v_0 43 y_) = -1))))) := by
  refine KC.ofz (by decide) (Nat.le_of_ble_eq_true rfl) ?_
  intro p e s m below meth c ls ar QW A0 H0 H locs E hK hA hw hl hret
  have hl : lv_has ls 2 [(0, .ref o), (1, .int (J v_p))] := hl
  have hT : WT T := hw.1.2.1
  refine j_iload_n E 1 rfl dX9_speaker_0 rfl (lv_at hl 1 rfl) ?_
  refine j_iconst E 2 rfl dX9_speaker_1 ?_
  refine j_icmp_eq E 5 15 rfl r_v_p (rr (by decide)) dX9_speaker_2 (by decide) (fun cc1_ => ?_) (fun cc1_ => ?_)
  · refine j_aload_n E 16 rfl dX9_speaker_15 rfl (lv_at hl 0 rfl) ?_
    refine j_iload_n E 17 rfl dX9_speaker_16 rfl (lv_at hl 1 rfl) ?_
    refine p_188 E hK hw fl_X9_40 t_o r_v_p 20 rfl dX9_speaker_17 (fun H locs hw => ?_)
    have hw : WK D cy T (upV v_0 188 (upB (v_0 188) o v_p)) A0 H0 H locs := cw_eq hw (by first | rfl | (funext j_; simp only [upV, reduceIte]; (repeat' split) <;> first | rfl | omega | (subst_vars; rfl)))
    refine j_iconst E 21 rfl dX9_speaker_20 ?_
    exact hret 21 1 (upV v_0 188 (upB (v_0 188) o v_p)) _ _ ls hw (Or.inr rfl) ⟨(upB (v_0 188) o v_p), rfl, Or.inr ⟨rfl, by first | exact Or.inl (by omega) | exact Or.inr ⟨_, hs_⟩⟩⟩ dX9_speaker_21
  · refine j_aload_n E 6 rfl dX9_speaker_5 rfl (lv_at hl 0 rfl) ?_
    refine j_iload_n E 7 rfl dX9_speaker_6 rfl (lv_at hl 1 rfl) ?_
    refine kV_r E (c_X9_livingAt l D cy T (v_0) o v_p  t_o r_v_p ) mt_X9_livingAt ml_X9_93 hK hw (cw_rc9 hK hw.1 t_o) hA ⟨Nat.le_of_ble_eq_true rfl, Nat.le_of_ble_eq_true rfl⟩ ⟨Nat.le_of_ble_eq_true rfl, Nat.le_of_ble_eq_true rfl⟩ (As := [.int (J v_p)]) (rest := []) rfl rfl hl.1 (Nat.le_of_ble_eq_true rfl) 10 rfl dX9_speaker_7 (fun oo3_ v_3 H locs hq3_ hw => ?_)
    obtain ⟨ev3_, hh3_⟩ := hq3_
    rw [ev3_] at hw; clear ev3_
    obtain ⟨tt3_, hh3_⟩ := hh3_
    replace hh3_ : (oo3_ = none → ((v_p < 0 ∨ ((v_0 202) (T 180 o)) ≤ v_p) ∨ ∃ y_, T (1000 + (v_p).toNat) (T 201 (T 180 o)) = y_ + 1 ∧ ¬ ((v_0 43) y_) = -1)) ∧ (∀ y_, oo3_ = some y_ → 0 ≤ v_p ∧ v_p < ((v_0 202) (T 180 o)) ∧ T (1000 + (v_p).toNat) (T 201 (T 180 o)) = y_ + 1 ∧ ((v_0 43) y_) = -1) := hh3_
    cases oo3_ with
    | none =>
      first | have hn_ := hh3_.1 rfl | have hs_ := hh3_.2 _ rfl
      refine j_ifnonnullN E 13 rfl dX9_speaker_10 ?_
      refine j_iconst E 14 rfl dX9_speaker_13 ?_
      exact hret 14 0 (upV v_0 188 (v_0 188)) _ _ ls (cw_eq hw (by first | rfl | (funext j_; simp only [upV, reduceIte]; (repeat' split) <;> first | rfl | omega | (subst_vars; rfl)))) (Or.inl rfl) ⟨(v_0 188), rfl, Or.inl ⟨rfl, by omega, hn_⟩⟩ dX9_speaker_14
    | some xx3_ =>
      have te3_ := tt3_ xx3_ rfl
      have tr_ := te3_
      first | have hn_ := hh3_.1 rfl | have hs_ := hh3_.2 _ rfl
      refine j_ifnonnullR E 15 dX9_speaker_10 (by decide) ?_
      refine j_aload_n E 16 rfl dX9_speaker_15 rfl (lv_at hl 0 rfl) ?_
      refine j_iload_n E 17 rfl dX9_speaker_16 rfl (lv_at hl 1 rfl) ?_
      refine p_188 E hK hw fl_X9_40 t_o r_v_p 20 rfl dX9_speaker_17 (fun H locs hw => ?_)
      have hw : WK D cy T (upV v_0 188 (upB (v_0 188) o v_p)) A0 H0 H locs := cw_eq hw (by first | rfl | (funext j_; simp only [upV, reduceIte]; (repeat' split) <;> first | rfl | omega | (subst_vars; rfl)))
      refine j_iconst E 21 rfl dX9_speaker_20 ?_
      exact hret 21 1 (upV v_0 188 (upB (v_0 188) o v_p)) _ _ ls hw (Or.inr rfl) ⟨(upB (v_0 188) o v_p), rfl, Or.inr ⟨rfl, by first | exact Or.inl (by omega) | exact Or.inr ⟨_, hs_⟩⟩⟩ dX9_speaker_21
set_option maxHeartbeats 4000000 in
set_option maxRecDepth 100000 in
theorem c_X9_holds (l : Launch) (D : va_G) (cy : Nat → ClassId) (T : Nat → Nat → Nat) (v_0 : Nat → Nat → Int) (o : Nat) (v_f : Int) (v_x : Int) (t_o : T 0 o = 9) (r_v_f : inR v_f) (r_v_x : inR v_x) : KC l D cy T yX9_holds cX9_holds 3 (some .boolean) 1 [.ref o, .int (J v_f), .int (J v_x)] v_0 (KI (fun (z_0 : Int) (v_2 : Nat → Nat → Int) => ∃ (y301_2 : Nat → Int) , v_2 = upV v_0 301 y301_2 ∧ ((z_0 = 1 ∧ 0 ≤ v_f ∧ v_f < 8) ∨ (z_0 = 0 ∧ (v_f < 0 ∨ 8 ≤ v_f))))) := by
  refine KC.ofz (by decide) (Nat.le_of_ble_eq_true rfl) ?_
  intro p e s m below meth c ls ar QW A0 H0 H locs E hK hA hw hl hret
  have hl : lv_has ls 3 [(0, .ref o), (1, .int (J v_f)), (2, .int (J v_x))] := hl
  have hT : WT T := hw.1.2.1
  refine j_iload_n E 1 rfl dX9_holds_0 rfl (lv_at hl 1 rfl) ?_
  refine j_if_lt E 4 13 rfl r_v_f dX9_holds_1 (by decide) (fun cc1_ => ?_) (fun cc1_ => ?_)
  · refine j_iconst E 14 rfl dX9_holds_13 ?_
    exact hret 14 0 (upV v_0 301 (v_0 301)) _ _ ls (cw_eq hw (by first | rfl | (funext j_; simp only [upV, reduceIte]; (repeat' split) <;> first | rfl | omega | (subst_vars; rfl)))) (Or.inl rfl) ⟨(v_0 301), rfl, by first | omega | (simp only [upB_same]; omega)⟩ dX9_holds_14
  · refine j_iload_n E 5 rfl dX9_holds_4 rfl (lv_at hl 1 rfl) ?_
    refine j_aload_n E 6 rfl dX9_holds_5 rfl (lv_at hl 0 rfl) ?_
    refine g_184 E hK hw fl_X9_25 t_o 9 rfl dX9_holds_6 ?_
    have ln2_ := wl_184 hT t_o
    refine a_ln21 E hK hw (wt_184 hT t_o) 10 rfl dX9_holds_9 (fun rr3_ => ?_)
    refine j_icmp_lt E 13 15 rfl r_v_f rr3_ dX9_holds_10 (by decide) (fun cc4_ => ?_) (fun cc4_ => ?_)
    · refine j_aload_n E 16 rfl dX9_holds_15 rfl (lv_at hl 0 rfl) ?_
      refine g_184 E hK hw fl_X9_25 t_o 19 rfl dX9_holds_16 ?_
      refine j_iload_n E 20 rfl dX9_holds_19 rfl (lv_at hl 1 rfl) ?_
      refine j_iload_n E 21 rfl dX9_holds_20 rfl (lv_at hl 2 rfl) ?_
      obtain ⟨zz5_, rr5_, en5_⟩ := J_ex (vp_nar .boolean (J v_x))
      refine a_st21 E hK hw (wt_184 hT t_o) en5_ rr5_ (by omega) 22 rfl dX9_holds_21 (fun H locs hw => ?_)
      have hw : WK D cy T (upV v_0 301 (upB (v_0 301) ((pr (T 184 o) (Int.toNat v_f))) zz5_)) A0 H0 H locs := cw_eq hw (by first | rfl | (funext j_; simp only [upV, reduceIte]; (repeat' split) <;> first | rfl | omega | (subst_vars; rfl)))
      refine j_iconst E 23 rfl dX9_holds_22 ?_
      exact hret 23 1 (upV v_0 301 (upB (v_0 301) ((pr (T 184 o) (Int.toNat v_f))) zz5_)) _ _ ls hw (Or.inr rfl) ⟨(upB (v_0 301) ((pr (T 184 o) (Int.toNat v_f))) zz5_), rfl, by first | omega | (simp only [upB_same]; omega)⟩ dX9_holds_23
    · refine j_iconst E 14 rfl dX9_holds_13 ?_
      exact hret 14 0 (upV v_0 301 (v_0 301)) _ _ ls (cw_eq hw (by first | rfl | (funext j_; simp only [upV, reduceIte]; (repeat' split) <;> first | rfl | omega | (subst_vars; rfl)))) (Or.inl rfl) ⟨(v_0 301), rfl, by first | omega | (simp only [upB_same]; omega)⟩ dX9_holds_14
set_option maxHeartbeats 4000000 in
set_option maxRecDepth 100000 in
theorem c_X9_way (l : Launch) (D : va_G) (cy : Nat → ClassId) (T : Nat → Nat → Nat) (v_0 : Nat → Nat → Int) (o : Nat) (v_v : Int) (t_o : T 0 o = 9) (r_v_v : inR v_v) : KC l D cy T yX9_way cX9_way 2 (some .boolean) 1 [.ref o, .int (J v_v)] v_0 (KI (fun (z_0 : Int) (v_2 : Nat → Nat → Int) => ∃ (y189_2 : Nat → Int) , v_2 = upV v_0 189 y189_2 ∧ ((z_0 = 1 ∧ 0 ≤ v_v ∧ v_v ≤ 2) ∨ (z_0 = 0 ∧ (v_v < 0 ∨ 2 < v_v))))) := by
  refine KC.ofz (by decide) (Nat.le_of_ble_eq_true rfl) ?_
  intro p e s m below meth c ls ar QW A0 H0 H locs E hK hA hw hl hret
  have hl : lv_has ls 2 [(0, .ref o), (1, .int (J v_v))] := hl
  have hT : WT T := hw.1.2.1
  refine j_iload_n E 1 rfl dX9_way_0 rfl (lv_at hl 1 rfl) ?_
  refine j_if_lt E 4 9 rfl r_v_v dX9_way_1 (by decide) (fun cc1_ => ?_) (fun cc1_ => ?_)
  · refine j_iconst E 10 rfl dX9_way_9 ?_
    exact hret 10 0 (upV v_0 189 (v_0 189)) _ _ ls (cw_eq hw (by first | rfl | (funext j_; simp only [upV, reduceIte]; (repeat' split) <;> first | rfl | omega | (subst_vars; rfl)))) (Or.inl rfl) ⟨(v_0 189), rfl, by first | omega | (simp only [upB_same]; omega)⟩ dX9_way_10
  · refine j_iload_n E 5 rfl dX9_way_4 rfl (lv_at hl 1 rfl) ?_
    refine j_iconst E 6 rfl dX9_way_5 ?_
    refine j_icmp_le E 9 11 rfl r_v_v (rr (by decide)) dX9_way_6 (by decide) (fun cc2_ => ?_) (fun cc2_ => ?_)
    · refine j_aload_n E 12 rfl dX9_way_11 rfl (lv_at hl 0 rfl) ?_
      refine j_iload_n E 13 rfl dX9_way_12 rfl (lv_at hl 1 rfl) ?_
      refine p_189 E hK hw fl_X9_43 t_o r_v_v 16 rfl dX9_way_13 (fun H locs hw => ?_)
      have hw : WK D cy T (upV v_0 189 (upB (v_0 189) o v_v)) A0 H0 H locs := cw_eq hw (by first | rfl | (funext j_; simp only [upV, reduceIte]; (repeat' split) <;> first | rfl | omega | (subst_vars; rfl)))
      refine j_iconst E 17 rfl dX9_way_16 ?_
      exact hret 17 1 (upV v_0 189 (upB (v_0 189) o v_v)) _ _ ls hw (Or.inr rfl) ⟨(upB (v_0 189) o v_v), rfl, by first | omega | (simp only [upB_same]; omega)⟩ dX9_way_17
    · refine j_iconst E 10 rfl dX9_way_9 ?_
      exact hret 10 0 (upV v_0 189 (v_0 189)) _ _ ls (cw_eq hw (by first | rfl | (funext j_; simp only [upV, reduceIte]; (repeat' split) <;> first | rfl | omega | (subst_vars; rfl)))) (Or.inl rfl) ⟨(v_0 189), rfl, by first | omega | (simp only [upB_same]; omega)⟩ dX9_way_10
set_option maxHeartbeats 4000000 in
set_option maxRecDepth 100000 in
theorem c_X9_isOutlaw (l : Launch) (D : va_G) (cy : Nat → ClassId) (T : Nat → Nat → Nat) (v_0 : Nat → Nat → Int) (o : Nat) (v_p : Int) (t_o : T 0 o = 9) (r_v_p : inR v_p) : KC l D cy T yX9_isOutlaw cX9_isOutlaw 4 (some .boolean) 6 [.ref o, .int (J v_p)] v_0 (KI (fun (z_0 : Int) (v_2 : Nat → Nat → Int) => v_2 = v_0 ∧ (True))) := by
  refine KC.ofz (by decide) (Nat.le_of_ble_eq_true rfl) ?_
  intro p e s m below meth c ls ar QW A0 H0 H locs E hK hA hw hl hret
  have hl : lv_has ls 4 [(0, .ref o), (1, .int (J v_p))] := hl
  have hT : WT T := hw.1.2.1
  refine j_aload_n E 1 rfl dX9_isOutlaw_0 rfl (lv_at hl 0 rfl) ?_
  refine j_iload_n E 2 rfl dX9_isOutlaw_1 rfl (lv_at hl 1 rfl) ?_
  refine kV_r E (c_X9_livingAt l D cy T (v_0) o v_p  t_o r_v_p ) mt_X9_livingAt ml_X9_93 hK hw (cw_rc9 hK hw.1 t_o) hA ⟨Nat.le_of_ble_eq_true rfl, Nat.le_of_ble_eq_true rfl⟩ ⟨Nat.le_of_ble_eq_true rfl, Nat.le_of_ble_eq_true rfl⟩ (As := [.int (J v_p)]) (rest := []) rfl rfl hl.1 (Nat.le_of_ble_eq_true rfl) 5 rfl dX9_isOutlaw_2 (fun oo1_ v_1 H locs hq1_ hw => ?_)
  obtain ⟨ev1_, hh1_⟩ := hq1_
  rw [ev1_] at hw; clear ev1_
  obtain ⟨tt1_, hh1_⟩ := hh1_
  replace hh1_ : (oo1_ = none → ((v_p < 0 ∨ ((v_0 202) (T 180 o)) ≤ v_p) ∨ ∃ y_, T (1000 + (v_p).toNat) (T 201 (T 180 o)) = y_ + 1 ∧ ¬ ((v_0 43) y_) = -1)) ∧ (∀ y_, oo1_ = some y_ → 0 ≤ v_p ∧ v_p < ((v_0 202) (T 180 o)) ∧ T (1000 + (v_p).toNat) (T 201 (T 180 o)) = y_ + 1 ∧ ((v_0 43) y_) = -1) := hh1_
  cases oo1_ with
  | none =>
    refine j_ifnonnullN E 8 rfl dX9_isOutlaw_5 ?_
    refine j_iconst E 9 rfl dX9_isOutlaw_8 ?_
    exact hret 9 0 (v_0) _ _ ls hw (Or.inl rfl) ⟨rfl, trivial⟩ dX9_isOutlaw_9
  | some xx1_ =>
    have te1_ := tt1_ xx1_ rfl
    have tr_ := te1_
    refine j_ifnonnullR E 10 dX9_isOutlaw_5 (by decide) ?_
    refine j_iconst E 11 rfl dX9_isOutlaw_10 ?_
    refine j_istore_n E 12 rfl [(2, .int (J 0)), (0, .ref o), (1, .int (J v_p))] dX9_isOutlaw_11 rfl hl (by decide) rfl (fun ls hl => ?_)
    have L12_2 : ∀ (k12 : Nat) (l2_12 : Int) (H : Heap) (locs : List Loc) (ls : Array Slot), inR l2_12 → (0 ≤ l2_12) → ((v_0 202 (T 183 o)) - l2_12).toNat < k12 → WK D cy T (v_0) A0 H0 H locs → lv_has ls 4 [(0, .ref o), (1, .int (J v_p)), (2, .int (J l2_12))] → W p l e (rmd 6 0 0) s m ar below meth c H locs 0 0 QW (F0 m 12 ls []) := by
      intro k12
      induction k12 with
      | zero =>
        intro l2_12 H locs ls r_l2_12 iv12 ms12 hw hl
        exact absurd ms12 (Nat.not_lt_zero _)
      | succ k12 ih12 =>
        intro l2_12 H locs ls r_l2_12 iv12 ms12 hw hl
        refine j_iload_n E 13 rfl dX9_isOutlaw_12 rfl (lv_at hl 2 rfl) ?_
        refine j_aload_n E 14 rfl dX9_isOutlaw_13 rfl (lv_at hl 0 rfl) ?_
        refine g_183 E hK hw fl_X9_22 t_o 17 rfl dX9_isOutlaw_14 ?_
        refine kV_i E (c_Jx4a65c_size_8abf5 l D cy T (v_0) (T 183 o)  (wt_183 hT t_o)  ) mt_Jx4a65c_size_8abf5 ml_X9_80 hK hw (cw_rc10 hK hw.1 (wt_183 hT t_o)) hA ⟨Nat.le_of_ble_eq_true rfl, Nat.le_of_ble_eq_true rfl⟩ ⟨Nat.le_of_ble_eq_true rfl, Nat.le_of_ble_eq_true rfl⟩ (As := []) (rest := [.int (J l2_12)]) rfl rfl hl.1 (Nat.le_of_ble_eq_true rfl) 20 rfl dX9_isOutlaw_17 (fun zz4_ v_4 H locs rr4_ hq4_ hw => ?_)
        obtain ⟨ev4_, hh4_⟩ := hq4_
        rw [ev4_] at hw; clear ev4_
        replace hh4_ : zz4_ = ((v_0 202) ((T 183 o))) ∧ 0 ≤ zz4_ := hh4_
        refine j_icmp_ge E 23 71 rfl r_l2_12 rr4_ dX9_isOutlaw_20 (by decide) (fun cc5_ => ?_) (fun cc5_ => ?_)
        · refine j_iconst E 72 rfl dX9_isOutlaw_71 ?_
          exact hret 72 0 (v_0) _ _ ls hw (Or.inl rfl) ⟨rfl, trivial⟩ dX9_isOutlaw_72
        · refine j_aload_n E 24 rfl dX9_isOutlaw_23 rfl (lv_at hl 0 rfl) ?_
          refine g_183 E hK hw fl_X9_22 t_o 27 rfl dX9_isOutlaw_24 ?_
          refine j_iload_n E 28 rfl dX9_isOutlaw_27 rfl (lv_at hl 2 rfl) ?_
          refine kV_n E (c_Jx4a65c_get_915e3 l D cy T (v_0) (T 183 o) l2_12  (wt_183 hT t_o) r_l2_12 (show 0 ≤ l2_12 ∧ l2_12 < ((v_0 202) ((T 183 o))) from by omega)) mt_Jx4a65c_get_915e3 ml_X9_123 hK hw (cw_rc10 hK hw.1 (wt_183 hT t_o)) hA ⟨Nat.le_of_ble_eq_true rfl, Nat.le_of_ble_eq_true rfl⟩ ⟨Nat.le_of_ble_eq_true rfl, Nat.le_of_ble_eq_true rfl⟩ (As := [.int (J l2_12)]) (rest := []) rfl rfl hl.1 (Nat.le_of_ble_eq_true rfl) 31 rfl dX9_isOutlaw_28 (fun xx6_ v_6 H locs hq6_ hw => ?_)
          obtain ⟨ev6_, hh6_⟩ := hq6_
          rw [ev6_] at hw; clear ev6_
          replace hh6_ : dcd (T (1000 + (l2_12).toNat) (T 201 (T 183 o))) = some xx6_ ∧ T 0 xx6_ = T 2 (T 183 o) := hh6_
          have te6_ : T 0 xx6_ = 7 := hh6_.2.trans (we_183 hT t_o)
          have tg_ := te6_
          refine k_cast7 E hK hw cl_X9_131 te6_ 34 rfl dX9_isOutlaw_31 ?_
          refine j_astore_n E 35 rfl [(3, .ref xx6_), (0, .ref o), (1, .int (J v_p)), (2, .int (J l2_12))] dX9_isOutlaw_34 rfl hl (by decide) rfl (fun ls hl => ?_)
          refine j_aload_n E 36 rfl dX9_isOutlaw_35 rfl (lv_at hl 0 rfl) ?_
          refine g_141 E hK hw fl_X9_133 te6_ (v_0 141 xx6_) rfl 39 rfl dX9_isOutlaw_36 (fun rr7_ => ?_)
          refine j_iload_n E 40 rfl dX9_isOutlaw_39 rfl (lv_at hl 2 rfl) ?_
          refine j_icmp_ne E 43 65 rfl rr7_ r_v_p dX9_isOutlaw_40 (by decide) (fun cc8_ => ?_) (fun cc8_ => ?_)
          · refine j_iinc E 68 rfl [(2, .int (J (l2_12 + 1))), (3, .ref xx6_), (0, .ref o), (1, .int (J v_p))] dX9_isOutlaw_65 hl (kk := 3) rfl (by decide) rfl (fun ls hl => ?_)
            refine j_goto E 12 dX9_isOutlaw_68 (by decide) ?_
            exact ih12 (l2_12 + 1)  H locs ls (rr (by omega)) (by omega) (by omega) hw (lv_sub hl [2, 3, 0] rfl)
          · refine j_aload_n E 44 rfl dX9_isOutlaw_43 rfl (lv_at hl 0 rfl) ?_
            refine kV_i E (c_X6_isOpen l D cy T (v_0) xx6_  te6_  ) mt_X6_isOpen ml_X9_136 hK hw (cw_rc7 hK hw.1 te6_) hA ⟨Nat.le_of_ble_eq_true rfl, Nat.le_of_ble_eq_true rfl⟩ ⟨Nat.le_of_ble_eq_true rfl, Nat.le_of_ble_eq_true rfl⟩ (As := []) (rest := []) rfl rfl hl.1 (Nat.le_of_ble_eq_true rfl) 47 rfl dX9_isOutlaw_44 (fun zz9_ v_9 H locs rr9_ hq9_ hw => ?_)
            obtain ⟨ev9_, hh9_⟩ := hq9_
            rw [ev9_] at hw; clear ev9_
            refine j_if_eq E 50 65 rfl rr9_ dX9_isOutlaw_47 (by decide) (fun cc10_ => ?_) (fun cc10_ => ?_)
            · refine j_iinc E 68 rfl [(2, .int (J (l2_12 + 1))), (3, .ref xx6_), (0, .ref o), (1, .int (J v_p))] dX9_isOutlaw_65 hl (kk := 3) rfl (by decide) rfl (fun ls hl => ?_)
              refine j_goto E 12 dX9_isOutlaw_68 (by decide) ?_
              exact ih12 (l2_12 + 1)  H locs ls (rr (by omega)) (by omega) (by omega) hw (lv_sub hl [2, 3, 0] rfl)
            · refine j_aload_n E 51 rfl dX9_isOutlaw_50 rfl (lv_at hl 1 rfl) ?_
              refine g_187 E hK hw fl_X9_37 t_o (v_0 187 o) rfl 54 rfl dX9_isOutlaw_51 (fun rr11_ => ?_)
              refine j_aload_n E 55 rfl dX9_isOutlaw_54 rfl (lv_at hl 0 rfl) ?_
              refine g_144 E hK hw fl_X9_139 te6_ (v_0 144 xx6_) rfl 58 rfl dX9_isOutlaw_55 (fun rr12_ => ?_)
              refine j_isub E 59 rfl dX9_isOutlaw_58 ?_
              refine j_norm (fun zz13_ rr13_ ee13_ => ?_)
              refine j_iconst E 60 rfl dX9_isOutlaw_59 ?_
              refine j_icmp_lt E 63 65 rfl rr13_ (rr (by decide)) dX9_isOutlaw_60 (by decide) (fun cc14_ => ?_) (fun cc14_ => ?_)
              · refine j_iinc E 68 rfl [(2, .int (J (l2_12 + 1))), (3, .ref xx6_), (0, .ref o), (1, .int (J v_p))] dX9_isOutlaw_65 hl (kk := 3) rfl (by decide) rfl (fun ls hl => ?_)
                refine j_goto E 12 dX9_isOutlaw_68 (by decide) ?_
                exact ih12 (l2_12 + 1)  H locs ls (rr (by omega)) (by omega) (by omega) hw (lv_sub hl [2, 3, 0] rfl)
              · refine j_iconst E 64 rfl dX9_isOutlaw_63 ?_
                exact hret 64 1 (v_0) _ _ ls hw (Or.inr rfl) ⟨rfl, trivial⟩ dX9_isOutlaw_64
    exact L12_2 _ 0  H locs ls (rr (by decide)) (by omega) (Nat.lt_succ_self _) hw (lv_sub hl [1, 2, 0] rfl)
set_option maxHeartbeats 4000000 in
set_option maxRecDepth 100000 in
theorem c_X9_countLiving (l : Launch) (D : va_G) (cy : Nat → ClassId) (T : Nat → Nat → Nat) (v_0 : Nat → Nat → Int) (o : Nat) (t_o : T 0 o = 9) : KC l D cy T yX9_countLiving cX9_countLiving 3 (some .int) 4 [.ref o] v_0 (KI (fun (z_0 : Int) (v_2 : Nat → Nat → Int) => v_2 = v_0 ∧ (True))) := by
  refine KC.ofi (by decide) (Nat.le_of_ble_eq_true rfl) ?_
  intro p e s m below meth c ls ar QW A0 H0 H locs E hK hA hw hl hret
  have hl : lv_has ls 3 [(0, .ref o)] := hl
  have hT : WT T := hw.1.2.1
  refine j_iconst E 1 rfl dX9_countLiving_0 ?_
  refine j_istore_n E 2 rfl [(1, .int (J 0)), (0, .ref o)] dX9_countLiving_1 rfl hl (by decide) rfl (fun ls hl => ?_)
  refine j_iconst E 3 rfl dX9_countLiving_2 ?_
  refine j_istore_n E 4 rfl [(2, .int (J 0)), (1, .int (J 0)), (0, .ref o)] dX9_countLiving_3 rfl hl (by decide) rfl (fun ls hl => ?_)
  have L4_1 : ∀ (k4 : Nat) (l1_4 l2_4 : Int) (H : Heap) (locs : List Loc) (ls : Array Slot), inR l1_4 → inR l2_4 → (0 ≤ l2_4) → ((v_0 202 (T 180 o)) - l2_4).toNat < k4 → WK D cy T (v_0) A0 H0 H locs → lv_has ls 3 [(0, .ref o), (1, .int (J l1_4)), (2, .int (J l2_4))] → W p l e (rmd 4 0 0) s m ar below meth c H locs 0 0 QW (F0 m 4 ls []) := by
    intro k4
    induction k4 with
    | zero =>
      intro l1_4 l2_4 H locs ls r_l1_4 r_l2_4 iv4 ms4 hw hl
      exact absurd ms4 (Nat.not_lt_zero _)
    | succ k4 ih4 =>
      intro l1_4 l2_4 H locs ls r_l1_4 r_l2_4 iv4 ms4 hw hl
      refine j_iload_n E 5 rfl dX9_countLiving_4 rfl (lv_at hl 2 rfl) ?_
      refine j_aload_n E 6 rfl dX9_countLiving_5 rfl (lv_at hl 0 rfl) ?_
      refine g_180 E hK hw fl_X9_12 t_o 9 rfl dX9_countLiving_6 ?_
      refine kV_i E (c_Jx4a65c_size_8abf5 l D cy T (v_0) (T 180 o)  (wt_180 hT t_o)  ) mt_Jx4a65c_size_8abf5 ml_X9_80 hK hw (cw_rc10 hK hw.1 (wt_180 hT t_o)) hA ⟨Nat.le_of_ble_eq_true rfl, Nat.le_of_ble_eq_true rfl⟩ ⟨Nat.le_of_ble_eq_true rfl, Nat.le_of_ble_eq_true rfl⟩ (As := []) (rest := [.int (J l2_4)]) rfl rfl hl.1 (Nat.le_of_ble_eq_true rfl) 12 rfl dX9_countLiving_9 (fun zz3_ v_3 H locs rr3_ hq3_ hw => ?_)
      obtain ⟨ev3_, hh3_⟩ := hq3_
      rw [ev3_] at hw; clear ev3_
      replace hh3_ : zz3_ = ((v_0 202) ((T 180 o))) ∧ 0 ≤ zz3_ := hh3_
      refine j_icmp_ge E 15 46 rfl r_l2_4 rr3_ dX9_countLiving_12 (by decide) (fun cc4_ => ?_) (fun cc4_ => ?_)
      · refine j_iload_n E 47 rfl dX9_countLiving_46 rfl (lv_at hl 1 rfl) ?_
        exact hret 47 l1_4 (v_0) _ _ ls hw r_l1_4 ⟨rfl, trivial⟩ dX9_countLiving_47
      · refine j_iload_n E 16 rfl dX9_countLiving_15 rfl (lv_at hl 1 rfl) ?_
        refine j_aload_n E 17 rfl dX9_countLiving_16 rfl (lv_at hl 0 rfl) ?_
        refine g_180 E hK hw fl_X9_12 t_o 20 rfl dX9_countLiving_17 ?_
        refine j_iload_n E 21 rfl dX9_countLiving_20 rfl (lv_at hl 2 rfl) ?_
        refine kV_n E (c_Jx4a65c_get_915e3 l D cy T (v_0) (T 180 o) l2_4  (wt_180 hT t_o) r_l2_4 (show 0 ≤ l2_4 ∧ l2_4 < ((v_0 202) ((T 180 o))) from by omega)) mt_Jx4a65c_get_915e3 ml_X9_123 hK hw (cw_rc10 hK hw.1 (wt_180 hT t_o)) hA ⟨Nat.le_of_ble_eq_true rfl, Nat.le_of_ble_eq_true rfl⟩ ⟨Nat.le_of_ble_eq_true rfl, Nat.le_of_ble_eq_true rfl⟩ (As := [.int (J l2_4)]) (rest := [.int (J l1_4)]) rfl rfl hl.1 (Nat.le_of_ble_eq_true rfl) 24 rfl dX9_countLiving_21 (fun xx5_ v_5 H locs hq5_ hw => ?_)
        obtain ⟨ev5_, hh5_⟩ := hq5_
        rw [ev5_] at hw; clear ev5_
        replace hh5_ : dcd (T (1000 + (l2_4).toNat) (T 201 (T 180 o))) = some xx5_ ∧ T 0 xx5_ = T 2 (T 180 o) := hh5_
        have te5_ : T 0 xx5_ = 2 := hh5_.2.trans (we_180 hT t_o)
        have tg_ := te5_
        refine k_cast2 E hK hw cl_X9_84 te5_ 27 rfl dX9_countLiving_24 ?_
        refine kV_i E (c_X1_lives l D cy T (v_0) xx5_  te5_  ) mt_X1_lives ml_X9_127 hK hw (cw_rc2 hK hw.1 te5_) hA ⟨Nat.le_of_ble_eq_true rfl, Nat.le_of_ble_eq_true rfl⟩ ⟨Nat.le_of_ble_eq_true rfl, Nat.le_of_ble_eq_true rfl⟩ (As := []) (rest := [.int (J l1_4)]) rfl rfl hl.1 (Nat.le_of_ble_eq_true rfl) 30 rfl dX9_countLiving_27 (fun zz6_ v_6 H locs rr6_ hq6_ hw => ?_)
        obtain ⟨ev6_, hh6_⟩ := hq6_
        rw [ev6_] at hw; clear ev6_
        replace hh6_ : (zz6_ = 1 ∧ ((v_0 43) xx5_) = -1) ∨ (zz6_ = 0 ∧ ¬ ((v_0 43) xx5_) = -1) := hh6_
        refine j_if_eq E 33 37 rfl rr6_ dX9_countLiving_30 (by decide) (fun cc7_ => ?_) (fun cc7_ => ?_)
        · refine j_iconst E 38 rfl dX9_countLiving_37 ?_
          refine j_iadd E 39 rfl dX9_countLiving_38 ?_
          refine j_norm (fun zz8_ rr8_ ee8_ => ?_)
          refine j_istore_n E 40 rfl [(1, .int (J zz8_)), (0, .ref o), (2, .int (J l2_4))] dX9_countLiving_39 rfl hl (by decide) rfl (fun ls hl => ?_)
          refine j_iinc E 43 rfl [(2, .int (J (l2_4 + 1))), (1, .int (J zz8_)), (0, .ref o)] dX9_countLiving_40 hl (kk := 2) rfl (by decide) rfl (fun ls hl => ?_)
          refine j_goto E 4 dX9_countLiving_43 (by decide) ?_
          exact ih4 zz8_ (l2_4 + 1)  H locs ls rr8_ (rr (by omega)) (by omega) (by omega) hw (lv_sub hl [2, 1, 0] rfl)
        · refine j_iconst E 34 rfl dX9_countLiving_33 ?_
          refine j_goto E 38 dX9_countLiving_34 (by decide) ?_
          refine j_iadd E 39 rfl dX9_countLiving_38 ?_
          refine j_norm (fun zz9_ rr9_ ee9_ => ?_)
          refine j_istore_n E 40 rfl [(1, .int (J zz9_)), (0, .ref o), (2, .int (J l2_4))] dX9_countLiving_39 rfl hl (by decide) rfl (fun ls hl => ?_)
          refine j_iinc E 43 rfl [(2, .int (J (l2_4 + 1))), (1, .int (J zz9_)), (0, .ref o)] dX9_countLiving_40 hl (kk := 2) rfl (by decide) rfl (fun ls hl => ?_)
          refine j_goto E 4 dX9_countLiving_43 (by decide) ?_
          exact ih4 zz9_ (l2_4 + 1)  H locs ls rr9_ (rr (by omega)) (by omega) (by omega) hw (lv_sub hl [2, 1, 0] rfl)
  exact L4_1 _ 0 0  H locs ls (rr (by decide)) (rr (by decide)) (by omega) (Nat.lt_succ_self _) hw (lv_sub hl [2, 1, 0] rfl)
set_option maxHeartbeats 4000000 in
set_option maxRecDepth 100000 in
theorem c_X9_countOutlaws (l : Launch) (D : va_G) (cy : Nat → ClassId) (T : Nat → Nat → Nat) (v_0 : Nat → Nat → Int) (o : Nat) (t_o : T 0 o = 9) : KC l D cy T yX9_countOutlaws cX9_countOutlaws 3 (some .int) 7 [.ref o] v_0 (KI (fun (z_0 : Int) (v_2 : Nat → Nat → Int) => v_2 = v_0 ∧ (True))) := by
  refine KC.ofi (by decide) (Nat.le_of_ble_eq_true rfl) ?_
  intro p e s m below meth c ls ar QW A0 H0 H locs E hK hA hw hl hret
  have hl : lv_has ls 3 [(0, .ref o)] := hl
  have hT : WT T := hw.1.2.1
  refine j_iconst E 1 rfl dX9_countOutlaws_0 ?_
  refine j_istore_n E 2 rfl [(1, .int (J 0)), (0, .ref o)] dX9_countOutlaws_1 rfl hl (by decide) rfl (fun ls hl => ?_)
  refine j_iconst E 3 rfl dX9_countOutlaws_2 ?_
  refine j_istore_n E 4 rfl [(2, .int (J 0)), (1, .int (J 0)), (0, .ref o)] dX9_countOutlaws_3 rfl hl (by decide) rfl (fun ls hl => ?_)
  have L4_1 : ∀ (k4 : Nat) (l1_4 l2_4 : Int) (H : Heap) (locs : List Loc) (ls : Array Slot), inR l1_4 → inR l2_4 → (0 ≤ l2_4) → ((v_0 202 (T 180 o)) - l2_4).toNat < k4 → WK D cy T (v_0) A0 H0 H locs → lv_has ls 3 [(0, .ref o), (1, .int (J l1_4)), (2, .int (J l2_4))] → W p l e (rmd 7 0 0) s m ar below meth c H locs 0 0 QW (F0 m 4 ls []) := by
    intro k4
    induction k4 with
    | zero =>
      intro l1_4 l2_4 H locs ls r_l1_4 r_l2_4 iv4 ms4 hw hl
      exact absurd ms4 (Nat.not_lt_zero _)
    | succ k4 ih4 =>
      intro l1_4 l2_4 H locs ls r_l1_4 r_l2_4 iv4 ms4 hw hl
      refine j_iload_n E 5 rfl dX9_countOutlaws_4 rfl (lv_at hl 2 rfl) ?_
      refine j_aload_n E 6 rfl dX9_countOutlaws_5 rfl (lv_at hl 0 rfl) ?_
      refine g_180 E hK hw fl_X9_12 t_o 9 rfl dX9_countOutlaws_6 ?_
      refine kV_i E (c_Jx4a65c_size_8abf5 l D cy T (v_0) (T 180 o)  (wt_180 hT t_o)  ) mt_Jx4a65c_size_8abf5 ml_X9_80 hK hw (cw_rc10 hK hw.1 (wt_180 hT t_o)) hA ⟨Nat.le_of_ble_eq_true rfl, Nat.le_of_ble_eq_true rfl⟩ ⟨Nat.le_of_ble_eq_true rfl, Nat.le_of_ble_eq_true rfl⟩ (As := []) (rest := [.int (J l2_4)]) rfl rfl hl.1 (Nat.le_of_ble_eq_true rfl) 12 rfl dX9_countOutlaws_9 (fun zz3_ v_3 H locs rr3_ hq3_ hw => ?_)
      obtain ⟨ev3_, hh3_⟩ := hq3_
      rw [ev3_] at hw; clear ev3_
      replace hh3_ : zz3_ = ((v_0 202) ((T 180 o))) ∧ 0 ≤ zz3_ := hh3_
      refine j_icmp_ge E 15 37 rfl r_l2_4 rr3_ dX9_countOutlaws_12 (by decide) (fun cc4_ => ?_) (fun cc4_ => ?_)
      · refine j_iload_n E 38 rfl dX9_countOutlaws_37 rfl (lv_at hl 1 rfl) ?_
        exact hret 38 l1_4 (v_0) _ _ ls hw r_l1_4 ⟨rfl, trivial⟩ dX9_countOutlaws_38
      · refine j_iload_n E 16 rfl dX9_countOutlaws_15 rfl (lv_at hl 1 rfl) ?_
        refine j_aload_n E 17 rfl dX9_countOutlaws_16 rfl (lv_at hl 0 rfl) ?_
        refine j_iload_n E 18 rfl dX9_countOutlaws_17 rfl (lv_at hl 2 rfl) ?_
        refine kV_i E (c_X9_isOutlaw l D cy T (v_0) o l2_4  t_o r_l2_4 ) mt_X9_isOutlaw ml_X9_116 hK hw (cw_rc9 hK hw.1 t_o) hA ⟨Nat.le_of_ble_eq_true rfl, Nat.le_of_ble_eq_true rfl⟩ ⟨Nat.le_of_ble_eq_true rfl, Nat.le_of_ble_eq_true rfl⟩ (As := [.int (J l2_4)]) (rest := [.int (J l1_4)]) rfl rfl hl.1 (Nat.le_of_ble_eq_true rfl) 21 rfl dX9_countOutlaws_18 (fun zz5_ v_5 H locs rr5_ hq5_ hw => ?_)
        obtain ⟨ev5_, hh5_⟩ := hq5_
        rw [ev5_] at hw; clear ev5_
        refine j_if_eq E 24 28 rfl rr5_ dX9_countOutlaws_21 (by decide) (fun cc6_ => ?_) (fun cc6_ => ?_)
        · refine j_iconst E 29 rfl dX9_countOutlaws_28 ?_
          refine j_iadd E 30 rfl dX9_countOutlaws_29 ?_
          refine j_norm (fun zz7_ rr7_ ee7_ => ?_)
          refine j_istore_n E 31 rfl [(1, .int (J zz7_)), (0, .ref o), (2, .int (J l2_4))] dX9_countOutlaws_30 rfl hl (by decide) rfl (fun ls hl => ?_)
          refine j_iinc E 34 rfl [(2, .int (J (l2_4 + 1))), (1, .int (J zz7_)), (0, .ref o)] dX9_countOutlaws_31 hl (kk := 2) rfl (by decide) rfl (fun ls hl => ?_)
          refine j_goto E 4 dX9_countOutlaws_34 (by decide) ?_
          exact ih4 zz7_ (l2_4 + 1)  H locs ls rr7_ (rr (by omega)) (by omega) (by omega) hw (lv_sub hl [2, 1, 0] rfl)
        · refine j_iconst E 25 rfl dX9_countOutlaws_24 ?_
          refine j_goto E 29 dX9_countOutlaws_25 (by decide) ?_
          refine j_iadd E 30 rfl dX9_countOutlaws_29 ?_
          refine j_norm (fun zz8_ rr8_ ee8_ => ?_)
          refine j_istore_n E 31 rfl [(1, .int (J zz8_)), (0, .ref o), (2, .int (J l2_4))] dX9_countOutlaws_30 rfl hl (by decide) rfl (fun ls hl => ?_)
          refine j_iinc E 34 rfl [(2, .int (J (l2_4 + 1))), (1, .int (J zz8_)), (0, .ref o)] dX9_countOutlaws_31 hl (kk := 2) rfl (by decide) rfl (fun ls hl => ?_)
          refine j_goto E 4 dX9_countOutlaws_34 (by decide) ?_
          exact ih4 zz8_ (l2_4 + 1)  H locs ls rr8_ (rr (by omega)) (by omega) (by omega) hw (lv_sub hl [2, 1, 0] rfl)
  exact L4_1 _ 0 0  H locs ls (rr (by decide)) (rr (by decide)) (by omega) (Nat.lt_succ_self _) hw (lv_sub hl [2, 1, 0] rfl)
set_option maxHeartbeats 4000000 in
set_option maxRecDepth 100000 in
theorem c_X9_isHolding (l : Launch) (D : va_G) (cy : Nat → ClassId) (T : Nat → Nat → Nat) (v_0 : Nat → Nat → Int) (o : Nat) (a_q : Nat) (t_o : T 0 o = 9) (t_q : T 0 a_q = 2) : KC l D cy T yX9_isHolding cX9_isHolding 2 (some .boolean) 1 [.ref o, .ref a_q] v_0 (KI (fun (z_0 : Int) (v_2 : Nat → Nat → Int) => v_2 = v_0 ∧ (True))) := by
  refine KC.ofz (by decide) (Nat.le_of_ble_eq_true rfl) ?_
  intro p e s m below meth c ls ar QW A0 H0 H locs E hK hA hw hl hret
  have hl : lv_has ls 2 [(0, .ref o), (1, .ref a_q)] := hl
  have hT : WT T := hw.1.2.1
  refine j_aload_n E 1 rfl dX9_isHolding_0 rfl (lv_at hl 1 rfl) ?_
  refine g_41 E hK hw fl_X9_110 t_q (v_0 41 a_q) rfl 4 rfl dX9_isHolding_1 (fun rr1_ => ?_)
  refine j_if_lt E 7 35 rfl rr1_ dX9_isHolding_4 (by decide) (fun cc2_ => ?_) (fun cc2_ => ?_)
  · refine j_iconst E 36 rfl dX9_isHolding_35 ?_
    exact hret 36 0 (v_0) _ _ ls hw (Or.inl rfl) ⟨rfl, trivial⟩ dX9_isHolding_36
  · refine j_aload_n E 8 rfl dX9_isHolding_7 rfl (lv_at hl 1 rfl) ?_
    refine g_41 E hK hw fl_X9_110 t_q (v_0 41 a_q) rfl 11 rfl dX9_isHolding_8 (fun _ => ?_)
    refine j_aload_n E 12 rfl dX9_isHolding_11 rfl (lv_at hl 0 rfl) ?_
    refine g_184 E hK hw fl_X9_25 t_o 15 rfl dX9_isHolding_12 ?_
    have ln3_ := wl_184 hT t_o
    refine a_ln21 E hK hw (wt_184 hT t_o) 16 rfl dX9_isHolding_15 (fun rr4_ => ?_)
    refine j_icmp_ge E 19 35 rfl rr1_ rr4_ dX9_isHolding_16 (by decide) (fun cc5_ => ?_) (fun cc5_ => ?_)
    · refine j_iconst E 36 rfl dX9_isHolding_35 ?_
      exact hret 36 0 (v_0) _ _ ls hw (Or.inl rfl) ⟨rfl, trivial⟩ dX9_isHolding_36
    · refine j_aload_n E 20 rfl dX9_isHolding_19 rfl (lv_at hl 0 rfl) ?_
      refine g_184 E hK hw fl_X9_25 t_o 23 rfl dX9_isHolding_20 ?_
      refine j_aload_n E 24 rfl dX9_isHolding_23 rfl (lv_at hl 1 rfl) ?_
      refine g_41 E hK hw fl_X9_110 t_q (v_0 41 a_q) rfl 27 rfl dX9_isHolding_24 (fun _ => ?_)
      refine a_ld21 E hK hw (wt_184 hT t_o) (by omega) 28 rfl dX9_isHolding_27 (fun zz6_ he6_ rr6_ => ?_)
      refine j_if_eq E 31 35 rfl rr6_ dX9_isHolding_28 (by decide) (fun cc7_ => ?_) (fun cc7_ => ?_)
      · refine j_iconst E 36 rfl dX9_isHolding_35 ?_
        exact hret 36 0 (v_0) _ _ ls hw (Or.inl rfl) ⟨rfl, trivial⟩ dX9_isHolding_36
      · refine j_iconst E 32 rfl dX9_isHolding_31 ?_
        refine j_goto E 36 dX9_isHolding_32 (by decide) ?_
        exact hret 36 1 (v_0) _ _ ls hw (Or.inr rfl) ⟨rfl, trivial⟩ dX9_isHolding_36
set_option maxHeartbeats 4000000 in
set_option maxRecDepth 100000 in
theorem c_X9_of (l : Launch) (D : va_G) (cy : Nat → ClassId) (T : Nat → Nat → Nat) (v_0 : Nat → Nat → Int) (o : Nat) (v_p : Int) (v_w : Int) (t_o : T 0 o = 9) (r_v_p : inR v_p) (r_v_w : inR v_w) : KC l D cy T yX9_of cX9_of 4 (some .int) 7 [.ref o, .int (J v_p), .int (J v_w)] v_0 (KI (fun (z_0 : Int) (v_2 : Nat → Nat → Int) => v_2 = v_0 ∧ (True))) := by
  refine KC.ofi (by decide) (Nat.le_of_ble_eq_true rfl) ?_
  intro p e s m below meth c ls ar QW A0 H0 H locs E hK hA hw hl hret
  have hl : lv_has ls 4 [(0, .ref o), (1, .int (J v_p)), (2, .int (J v_w))] := hl
  have hT : WT T := hw.1.2.1
  refine j_aload_n E 1 rfl dX9_of_0 rfl (lv_at hl 0 rfl) ?_
  refine j_iload_n E 2 rfl dX9_of_1 rfl (lv_at hl 1 rfl) ?_
  refine kV_r E (c_X9_personAt l D cy T (v_0) o v_p  t_o r_v_p ) mt_X9_personAt ml_X9_104 hK hw (cw_rc9 hK hw.1 t_o) hA ⟨Nat.le_of_ble_eq_true rfl, Nat.le_of_ble_eq_true rfl⟩ ⟨Nat.le_of_ble_eq_true rfl, Nat.le_of_ble_eq_true rfl⟩ (As := [.int (J v_p)]) (rest := []) rfl rfl hl.1 (Nat.le_of_ble_eq_true rfl) 5 rfl dX9_of_2 (fun oo1_ v_1 H locs hq1_ hw => ?_)
  obtain ⟨ev1_, hh1_⟩ := hq1_
  rw [ev1_] at hw; clear ev1_
  obtain ⟨tt1_, hh1_⟩ := hh1_
  replace hh1_ : (oo1_ = none → (v_p < 0 ∨ ((v_0 202) (T 180 o)) ≤ v_p)) ∧ (∀ y_, oo1_ = some y_ → 0 ≤ v_p ∧ v_p < ((v_0 202) (T 180 o)) ∧ T (1000 + (v_p).toNat) (T 201 (T 180 o)) = y_ + 1) := hh1_
  cases oo1_ with
  | none =>
    refine j_astore_nN E 6 rfl [(3, .null), (0, .ref o), (1, .int (J v_p)), (2, .int (J v_w))] dX9_of_5 rfl hl (by decide) rfl (fun ls hl => ?_)
    refine j_aload_nN E 7 rfl dX9_of_6 rfl (lv_at hl 0 rfl) ?_
    refine j_ifnonnullN E 10 rfl dX9_of_7 ?_
    refine j_bipush E 12 rfl dX9_of_10 (by decide) ?_
    exact hret 12 ((-100)) (v_0) _ _ ls hw (rr (by decide)) ⟨rfl, trivial⟩ dX9_of_12
  | some xx1_ =>
    have te1_ := tt1_ xx1_ rfl
    have tr_ := te1_
    refine j_astore_n E 6 rfl [(3, .ref xx1_), (0, .ref o), (1, .int (J v_p)), (2, .int (J v_w))] dX9_of_5 rfl hl (by decide) rfl (fun ls hl => ?_)
    refine j_aload_n E 7 rfl dX9_of_6 rfl (lv_at hl 0 rfl) ?_
    refine j_ifnonnullR E 13 dX9_of_7 (by decide) ?_
    refine j_iload_n E 14 rfl dX9_of_13 rfl (lv_at hl 3 rfl) ?_
    by_cases tb2_0 : v_w = 0
    · refine j_tabIn E 56 r_v_w 0 dX9_of_14 (by omega) rfl (by decide) ?_
      refine j_aload_n E 57 rfl dX9_of_56 rfl (lv_at hl 0 rfl) ?_
      refine g_40 E hK hw fl_X9_107 te1_ (v_0 40 xx1_) rfl 60 rfl dX9_of_57 (fun rr3_ => ?_)
      exact hret 60 (v_0 40 xx1_) (v_0) _ _ ls hw rr3_ ⟨rfl, trivial⟩ dX9_of_60
    by_cases tb2_1 : v_w = 1
    · refine j_tabIn E 61 r_v_w 1 dX9_of_14 (by omega) rfl (by decide) ?_
      refine j_aload_n E 62 rfl dX9_of_61 rfl (lv_at hl 0 rfl) ?_
      refine g_41 E hK hw fl_X9_110 te1_ (v_0 41 xx1_) rfl 65 rfl dX9_of_62 (fun rr4_ => ?_)
      exact hret 65 (v_0 41 xx1_) (v_0) _ _ ls hw rr4_ ⟨rfl, trivial⟩ dX9_of_65
    by_cases tb2_2 : v_w = 2
    · refine j_tabIn E 66 r_v_w 2 dX9_of_14 (by omega) rfl (by decide) ?_
      refine j_aload_n E 67 rfl dX9_of_66 rfl (lv_at hl 0 rfl) ?_
      refine g_42 E hK hw fl_X9_113 te1_ (v_0 42 xx1_) rfl 70 rfl dX9_of_67 (fun rr5_ => ?_)
      exact hret 70 (v_0 42 xx1_) (v_0) _ _ ls hw rr5_ ⟨rfl, trivial⟩ dX9_of_70
    by_cases tb2_3 : v_w = 3
    · refine j_tabIn E 71 r_v_w 3 dX9_of_14 (by omega) rfl (by decide) ?_
      refine j_aload_n E 72 rfl dX9_of_71 rfl (lv_at hl 0 rfl) ?_
      refine g_43 E hK hw fl_X9_97 te1_ (v_0 43 xx1_) rfl 75 rfl dX9_of_72 (fun rr6_ => ?_)
      exact hret 75 (v_0 43 xx1_) (v_0) _ _ ls hw rr6_ ⟨rfl, trivial⟩ dX9_of_75
    by_cases tb2_4 : v_w = 4
    · refine j_tabIn E 76 r_v_w 4 dX9_of_14 (by omega) rfl (by decide) ?_
      refine j_aload_n E 77 rfl dX9_of_76 rfl (lv_at hl 1 rfl) ?_
      refine j_iload_n E 78 rfl dX9_of_77 rfl (lv_at hl 2 rfl) ?_
      refine kV_i E (c_X9_isOutlaw l D cy T (v_0) o v_p  t_o r_v_p ) mt_X9_isOutlaw ml_X9_116 hK hw (cw_rc9 hK hw.1 t_o) hA ⟨Nat.le_of_ble_eq_true rfl, Nat.le_of_ble_eq_true rfl⟩ ⟨Nat.le_of_ble_eq_true rfl, Nat.le_of_ble_eq_true rfl⟩ (As := [.int (J v_p)]) (rest := []) rfl rfl hl.1 (Nat.le_of_ble_eq_true rfl) 81 rfl dX9_of_78 (fun zz7_ v_7 H locs rr7_ hq7_ hw => ?_)
      obtain ⟨ev7_, hh7_⟩ := hq7_
      rw [ev7_] at hw; clear ev7_
      refine j_if_eq E 84 88 rfl rr7_ dX9_of_81 (by decide) (fun cc8_ => ?_) (fun cc8_ => ?_)
      · refine j_iconst E 89 rfl dX9_of_88 ?_
        exact hret 89 0 (v_0) _ _ ls hw (rr (by decide)) ⟨rfl, trivial⟩ dX9_of_89
      · refine j_iconst E 85 rfl dX9_of_84 ?_
        refine j_goto E 89 dX9_of_85 (by decide) ?_
        exact hret 89 1 (v_0) _ _ ls hw (rr (by decide)) ⟨rfl, trivial⟩ dX9_of_89
    by_cases tb2_5 : v_w = 5
    · refine j_tabIn E 90 r_v_w 5 dX9_of_14 (by omega) rfl (by decide) ?_
      refine j_aload_n E 91 rfl dX9_of_90 rfl (lv_at hl 0 rfl) ?_
      refine kV_i E (c_X1_countLines l D cy T (v_0) xx1_  te1_  ) mt_X1_countLines ml_X9_120 hK hw (cw_rc2 hK hw.1 te1_) hA ⟨Nat.le_of_ble_eq_true rfl, Nat.le_of_ble_eq_true rfl⟩ ⟨Nat.le_of_ble_eq_true rfl, Nat.le_of_ble_eq_true rfl⟩ (As := []) (rest := []) rfl rfl hl.1 (Nat.le_of_ble_eq_true rfl) 94 rfl dX9_of_91 (fun zz9_ v_9 H locs rr9_ hq9_ hw => ?_)
      obtain ⟨ev9_, hh9_⟩ := hq9_
      rw [ev9_] at hw; clear ev9_
      exact hret 94 zz9_ (v_0) _ _ ls hw rr9_ ⟨rfl, trivial⟩ dX9_of_94
    by_cases tb2_6 : v_w = 6
    · refine j_tabIn E 95 r_v_w 6 dX9_of_14 (by omega) rfl (by decide) ?_
      refine j_aload_n E 96 rfl dX9_of_95 rfl (lv_at hl 0 rfl) ?_
      refine g_44 E hK hw fl_X9_100 te1_ (v_0 44 xx1_) rfl 99 rfl dX9_of_96 (fun rr10_ => ?_)
      refine j_if_eq E 102 106 rfl rr10_ dX9_of_99 (by decide) (fun cc11_ => ?_) (fun cc11_ => ?_)
      · refine j_iconst E 107 rfl dX9_of_106 ?_
        exact hret 107 0 (v_0) _ _ ls hw (rr (by decide)) ⟨rfl, trivial⟩ dX9_of_107
      · refine j_iconst E 103 rfl dX9_of_102 ?_
        refine j_goto E 107 dX9_of_103 (by decide) ?_
        exact hret 107 1 (v_0) _ _ ls hw (rr (by decide)) ⟨rfl, trivial⟩ dX9_of_107
    refine j_tabOut E 108 r_v_w dX9_of_14 (by omega) (by decide) ?_
    refine j_bipush E 110 rfl dX9_of_108 (by decide) ?_
    exact hret 110 ((-100)) (v_0) _ _ ls hw (rr (by decide)) ⟨rfl, trivial⟩ dX9_of_110
set_option maxHeartbeats 4000000 in
set_option maxRecDepth 100000 in
theorem c_X9_putBytes (l : Launch) (D : va_G) (cy : Nat → ClassId) (T : Nat → Nat → Nat) (v_0 : Nat → Nat → Int) (o : Nat) (v_n : Int) (t_o : T 0 o = 9) (r_v_n : inR v_n) (hp0 : 0 ≤ (v_0 186 o) ∧ (v_0 186 o) ≤ 396) : KC l D cy T yX9_putBytes cX9_putBytes 3 none 1 [.ref o, .int (J v_n)] v_0 (KV (fun (v_2 : Nat → Nat → Int) => ∃ (y186_2 : Nat → Int) (y303_2 : Nat → Int) , v_2 = upV (upV v_0 186 y186_2) 303 y303_2 ∧ ((y186_2 o) = (v_0 186 o) + 4 ∧ (∀ j_, (v_0 186 o) ≤ j_ → j_ < (v_0 186 o) + 4 → gC_ (y303_2) (T 185 o) j_ = by_ v_n (24 - 8 * (j_ - (v_0 186 o)))) ∧ (∀ j_, 0 ≤ j_ → j_ < (v_0 186 o) → gC_ (y303_2) (T 185 o) j_ = gC_ (v_0 303) (T 185 o) j_)))) := by
  refine KC.ofv (by decide) (Nat.le_of_ble_eq_true rfl) ?_
  intro p e s m below meth c ls ar QW A0 H0 H locs E hK hA hw hl hret
  have hl : lv_has ls 3 [(0, .ref o), (1, .int (J v_n))] := hl
  have hT : WT T := hw.1.2.1
  refine j_bipush E 2 rfl dX9_putBytes_0 (by decide) ?_
  refine j_istore_n E 3 rfl [(2, .int (J 24)), (0, .ref o), (1, .int (J v_n))] dX9_putBytes_2 rfl hl (by decide) rfl (fun ls hl => ?_)
  have L3_1 : ∀ (k3 : Nat) (l2_3 : Int) (y186_c3 : Nat → Int) (y303_c3 : Nat → Int) (H : Heap) (locs : List Loc) (ls : Array Slot), inR l2_3 → ((-8 ≤ l2_3 ∧ l2_3 ≤ 24 ∧ 8 * ((y186_c3 o) - (v_0 186 o)) = 24 - l2_3) ∧ (∀ j_, (v_0 186 o) ≤ j_ → j_ < (y186_c3 o) → gC_ (y303_c3) (T 185 o) j_ = by_ v_n (24 - 8 * (j_ - (v_0 186 o)))) ∧ (∀ j_, 0 ≤ j_ → j_ < (v_0 186 o) → gC_ (y303_c3) (T 185 o) j_ = gC_ (v_0 303) (T 185 o) j_)) → (l2_3 + 9).toNat < k3 → WK D cy T (upV (upV v_0 186 y186_c3) 303 y303_c3) A0 H0 H locs → lv_has ls 3 [(0, .ref o), (1, .int (J v_n)), (2, .int (J l2_3))] → W p l e (rmd 1 0 0) s m ar below meth c H locs 0 0 QW (F0 m 3 ls []) := by
    intro k3
    induction k3 with
    | zero =>
      intro l2_3 y186_c3 y303_c3 H locs ls r_l2_3 iv3 ms3 hw hl
      exact absurd ms3 (Nat.not_lt_zero _)
    | succ k3 ih3 =>
      intro l2_3 y186_c3 y303_c3 H locs ls r_l2_3 iv3 ms3 hw hl
      refine j_iload_n E 4 rfl dX9_putBytes_3 rfl (lv_at hl 2 rfl) ?_
      refine j_if_lt E 7 59 rfl r_l2_3 dX9_putBytes_4 (by decide) (fun cc3_ => ?_) (fun cc3_ => ?_)
      · exact hret 59 (upV (upV v_0 186 y186_c3) 303 y303_c3) _ _ ls hw ⟨y186_c3, y303_c3, rfl, ⟨by omega, fun j_ h1_ h2_ => iv3.2.1 j_ h1_ (by omega), iv3.2.2⟩⟩ dX9_putBytes_59
      · refine j_aload_n E 8 rfl dX9_putBytes_7 rfl (lv_at hl 0 rfl) ?_
        refine g_186 E hK hw fl_X9_33 t_o (y186_c3 o) rfl 11 rfl dX9_putBytes_8 (fun rr4_ => ?_)
        refine j_if_lt E 14 53 rfl rr4_ dX9_putBytes_11 (by decide) (fun cc5_ => ?_) (fun cc5_ => ?_)
        · exfalso; omega
        refine j_aload_n E 15 rfl dX9_putBytes_14 rfl (lv_at hl 0 rfl) ?_
        refine g_186 E hK hw fl_X9_33 t_o (y186_c3 o) rfl 18 rfl dX9_putBytes_15 (fun _ => ?_)
        refine j_aload_n E 19 rfl dX9_putBytes_18 rfl (lv_at hl 0 rfl) ?_
        refine g_185 E hK hw fl_X9_29 t_o 22 rfl dX9_putBytes_19 ?_
        have ln6_ := wl_185 hT t_o
        refine a_ln23 E hK hw (wt_185 hT t_o) 23 rfl dX9_putBytes_22 (fun rr7_ => ?_)
        refine j_icmp_ge E 26 53 rfl rr4_ rr7_ dX9_putBytes_23 (by decide) (fun cc8_ => ?_) (fun cc8_ => ?_)
        · exfalso; omega
        refine j_aload_n E 27 rfl dX9_putBytes_26 rfl (lv_at hl 0 rfl) ?_
        refine g_185 E hK hw fl_X9_29 t_o 30 rfl dX9_putBytes_27 ?_
        refine j_aload_n E 31 rfl dX9_putBytes_30 rfl (lv_at hl 0 rfl) ?_
        refine g_186 E hK hw fl_X9_33 t_o (y186_c3 o) rfl 34 rfl dX9_putBytes_31 (fun _ => ?_)
        refine j_iload_n E 35 rfl dX9_putBytes_34 rfl (lv_at hl 1 rfl) ?_
        refine j_iload_n E 36 rfl dX9_putBytes_35 rfl (lv_at hl 2 rfl) ?_
        refine j_iushr E 37 rfl dX9_putBytes_36 (fun zz9_ rr9_ ee9_ => ?_)
        have e1_ := ee9_
        refine j_sipush E 40 rfl dX9_putBytes_37 (by decide) ?_
        refine j_iand E 41 rfl dX9_putBytes_40 (fun zz10_ rr10_ ee10_ => ?_)
        have e2_ := ee10_
        refine j_i2c E 42 rfl dX9_putBytes_41 (fun zz11_ rr11_ ee11_ => ?_)
        have e3_ := ee11_
        obtain ⟨zz12_, rr12_, en12_⟩ := J_ex (vp_nar .char (J zz11_))
        have hb_ := cb_of (by omega) e1_ e2_ e3_ en12_ rr12_
        refine a_st23 E hK hw (wt_185 hT t_o) en12_ rr12_ (by omega) 43 rfl dX9_putBytes_42 (fun H locs hw => ?_)
        have hw : WK D cy T (upV (upV v_0 186 y186_c3) 303 (upB y303_c3 ((pr (T 185 o) (Int.toNat (y186_c3 o)))) zz12_)) A0 H0 H locs := cw_eq hw (by first | rfl | (funext j_; simp only [upV, reduceIte]; (repeat' split) <;> first | rfl | omega | (subst_vars; rfl)))
        refine j_aload_n E 44 rfl dX9_putBytes_43 rfl (lv_at hl 0 rfl) ?_
        refine j_dup E 45 rfl dX9_putBytes_44 rfl ?_
        refine g_186 E hK hw fl_X9_33 t_o (y186_c3 o) rfl 48 rfl dX9_putBytes_45 (fun _ => ?_)
        refine j_iconst E 49 rfl dX9_putBytes_48 ?_
        refine j_iadd E 50 rfl dX9_putBytes_49 ?_
        refine p_186 E hK hw fl_X9_33 t_o (rr (by omega)) 53 rfl dX9_putBytes_50 (fun H locs hw => ?_)
        have hw : WK D cy T (upV (upV v_0 186 (upB y186_c3 o ((y186_c3 o) + 1))) 303 (upB y303_c3 ((pr (T 185 o) (Int.toNat (y186_c3 o)))) zz12_)) A0 H0 H locs := cw_eq hw (by first | rfl | (funext j_; simp only [upV, reduceIte]; (repeat' split) <;> first | rfl | omega | (subst_vars; rfl)))
        refine j_iinc E 56 rfl [(2, .int (J (l2_3 + (-8)))), (0, .ref o), (1, .int (J v_n))] dX9_putBytes_53 hl (kk := 2) rfl (by decide) rfl (fun ls hl => ?_)
        refine j_goto E 3 dX9_putBytes_56 (by decide) ?_
        exact ih3 (l2_3 + (-8)) (upB y186_c3 o ((y186_c3 o) + 1)) (upB y303_c3 ((pr (T 185 o) (Int.toNat (y186_c3 o)))) zz12_) H locs ls (rr (by omega)) (⟨by simp only [upB_same]; omega, by rw [upB_same]; exact cb_st iv3.2.1 (by omega) (by rw [hb_]; congr 1; omega), cb_ot iv3.2.2 (by omega)⟩) (by omega) hw (lv_sub hl [1, 2, 0] rfl)
  exact L3_1 _ 24 (v_0 186) (v_0 303) H locs ls (rr (by decide)) (⟨by omega, fun j_ h1_ h2_ => absurd h2_ (by omega), fun _ _ _ => rfl⟩) (Nat.lt_succ_self _) (cw_eq hw (by first | rfl | (funext j_; simp only [upV, reduceIte]; (repeat' split) <;> first | rfl | omega | (subst_vars; rfl)))) (lv_sub hl [1, 2, 0] rfl)
set_option maxHeartbeats 4000000 in
set_option maxRecDepth 100000 in
theorem c_X9_feed (l : Launch) (D : va_G) (cy : Nat → ClassId) (T : Nat → Nat → Nat) (v_0 : Nat → Nat → Int) (o : Nat) (v_a : Int) (v_b : Int) (v_c : Int) (v_d : Int) (v_e : Int) (t_o : T 0 o = 9) (r_v_a : inR v_a) (r_v_b : inR v_b) (r_v_c : inR v_c) (r_v_d : inR v_d) (r_v_e : inR v_e) (hp0 : 0 ≤ (v_0 186 o) ∧ (v_0 186 o) ≤ 400) : KC l D cy T yX9_feed cX9_feed 6 (some .int) 2 [.ref o, .int (J v_a), .int (J v_b), .int (J v_c), .int (J v_d), .int (J v_e)] v_0 (KI (fun (z_0 : Int) (v_2 : Nat → Nat → Int) => ∃ (y186_2 : Nat → Int) (y303_2 : Nat → Int) , v_2 = upV (upV v_0 186 y186_2) 303 y303_2 ∧ ((z_0 = -1 ∧ 380 < (v_0 186 o) ∧ (y186_2 o) = (v_0 186 o) ∧ (y303_2) = (v_0 303)) ∨ (z_0 = (y186_2 o) ∧ (v_0 186 o) ≤ 380 ∧ (y186_2 o) = (v_0 186 o) + 20 ∧ (∀ j_, (v_0 186 o) + 0 ≤ j_ → j_ < (v_0 186 o) + 4 → gC_ (y303_2) (T 185 o) j_ = by_ v_a (24 - 8 * (j_ - (v_0 186 o)))) ∧ (∀ j_, (v_0 186 o) + 4 ≤ j_ → j_ < (v_0 186 o) + 8 → gC_ (y303_2) (T 185 o) j_ = by_ v_b (24 - 8 * (j_ - (v_0 186 o) - 4))) ∧ (∀ j_, (v_0 186 o) + 8 ≤ j_ → j_ < (v_0 186 o) + 12 → gC_ (y303_2) (T 185 o) j_ = by_ v_c (24 - 8 * (j_ - (v_0 186 o) - 8))) ∧ (∀ j_, (v_0 186 o) + 12 ≤ j_ → j_ < (v_0 186 o) + 16 → gC_ (y303_2) (T 185 o) j_ = by_ v_d (24 - 8 * (j_ - (v_0 186 o) - 12))) ∧ (∀ j_, (v_0 186 o) + 16 ≤ j_ → j_ < (v_0 186 o) + 20 → gC_ (y303_2) (T 185 o) j_ = by_ v_e (24 - 8 * (j_ - (v_0 186 o) - 16))) ∧ (∀ j_, 0 ≤ j_ → j_ < (v_0 186 o) → gC_ (y303_2) (T 185 o) j_ = gC_ (v_0 303) (T 185 o) j_))))) := by
  refine KC.ofi (by decide) (Nat.le_of_ble_eq_true rfl) ?_
  intro p e s m below meth c ls ar QW A0 H0 H locs E hK hA hw hl hret
  have hl : lv_has ls 6 [(0, .ref o), (1, .int (J v_a)), (2, .int (J v_b)), (3, .int (J v_c)), (4, .int (J v_d)), (5, .int (J v_e))] := hl
  have hT : WT T := hw.1.2.1
  refine j_aload_n E 1 rfl dX9_feed_0 rfl (lv_at hl 0 rfl) ?_
  refine g_186 E hK hw fl_X9_33 t_o (v_0 186 o) rfl 4 rfl dX9_feed_1 (fun rr1_ => ?_)
  refine j_sipush E 7 rfl dX9_feed_4 (by decide) ?_
  refine j_icmp_le E 10 12 rfl rr1_ (rr (by decide)) dX9_feed_7 (by decide) (fun cc2_ => ?_) (fun cc2_ => ?_)
  · refine j_aload_n E 13 rfl dX9_feed_12 rfl (lv_at hl 0 rfl) ?_
    refine j_iload_n E 14 rfl dX9_feed_13 rfl (lv_at hl 1 rfl) ?_
    refine kV_v E (c_X9_putBytes l D cy T (v_0) o v_a  t_o r_v_a (show 0 ≤ ((v_0 186) o) ∧ ((v_0 186) o) ≤ 396 from by omega)) mt_X9_putBytes ml_X9_142 hK hw (cw_rc9 hK hw.1 t_o) hA ⟨Nat.le_of_ble_eq_true rfl, Nat.le_of_ble_eq_true rfl⟩ ⟨Nat.le_of_ble_eq_true rfl, Nat.le_of_ble_eq_true rfl⟩ (As := [.int (J v_a)]) (rest := []) rfl rfl hl.1 (Nat.le_of_ble_eq_true rfl) 17 rfl dX9_feed_14 (fun v_3 H locs hq3_ hw => ?_)
    obtain ⟨y186_3, y303_3, ev3_, hh3_⟩ := hq3_
    rw [ev3_] at hw; clear ev3_
    have hw : WK D cy T (upV (upV v_0 186 y186_3) 303 y303_3) A0 H0 H locs := cw_eq hw (by first | rfl | (funext j_; simp only [upV, reduceIte]; (repeat' split) <;> first | rfl | omega | (subst_vars; rfl)))
    replace hh3_ : (y186_3 o) = ((v_0 186) o) + 4 ∧ (∀ j_, ((v_0 186) o) ≤ j_ → j_ < ((v_0 186) o) + 4 → gC_ (y303_3) (T 185 o) j_ = by_ v_a (24 - 8 * (j_ - ((v_0 186) o)))) ∧ (∀ j_, 0 ≤ j_ → j_ < ((v_0 186) o) → gC_ (y303_3) (T 185 o) j_ = gC_ (v_0 303) (T 185 o) j_) := hh3_
    have p1_ := hh3_
    clear hh3_
    refine j_aload_n E 18 rfl dX9_feed_17 rfl (lv_at hl 0 rfl) ?_
    refine j_iload_n E 19 rfl dX9_feed_18 rfl (lv_at hl 2 rfl) ?_
    refine kV_v E (c_X9_putBytes l D cy T (upV (upV v_0 186 y186_3) 303 y303_3) o v_b  t_o r_v_b (show 0 ≤ (y186_3 o) ∧ (y186_3 o) ≤ 396 from by omega)) mt_X9_putBytes ml_X9_142 hK hw (cw_rc9 hK hw.1 t_o) hA ⟨Nat.le_of_ble_eq_true rfl, Nat.le_of_ble_eq_true rfl⟩ ⟨Nat.le_of_ble_eq_true rfl, Nat.le_of_ble_eq_true rfl⟩ (As := [.int (J v_b)]) (rest := []) rfl rfl hl.1 (Nat.le_of_ble_eq_true rfl) 22 rfl dX9_feed_19 (fun v_4 H locs hq4_ hw => ?_)
    obtain ⟨y186_4, y303_4, ev4_, hh4_⟩ := hq4_
    rw [ev4_] at hw; clear ev4_
    have hw : WK D cy T (upV (upV v_0 186 y186_4) 303 y303_4) A0 H0 H locs := cw_eq hw (by first | rfl | (funext j_; simp only [upV, reduceIte]; (repeat' split) <;> first | rfl | omega | (subst_vars; rfl)))
    replace hh4_ : (y186_4 o) = (y186_3 o) + 4 ∧ (∀ j_, (y186_3 o) ≤ j_ → j_ < (y186_3 o) + 4 → gC_ (y303_4) (T 185 o) j_ = by_ v_b (24 - 8 * (j_ - (y186_3 o)))) ∧ (∀ j_, 0 ≤ j_ → j_ < (y186_3 o) → gC_ (y303_4) (T 185 o) j_ = gC_ (y303_3) (T 185 o) j_) := hh4_
    have p2_ := hh4_
    clear hh4_
    refine j_aload_n E 23 rfl dX9_feed_22 rfl (lv_at hl 0 rfl) ?_
    refine j_iload_n E 24 rfl dX9_feed_23 rfl (lv_at hl 3 rfl) ?_
    refine kV_v E (c_X9_putBytes l D cy T (upV (upV v_0 186 y186_4) 303 y303_4) o v_c  t_o r_v_c (show 0 ≤ (y186_4 o) ∧ (y186_4 o) ≤ 396 from by omega)) mt_X9_putBytes ml_X9_142 hK hw (cw_rc9 hK hw.1 t_o) hA ⟨Nat.le_of_ble_eq_true rfl, Nat.le_of_ble_eq_true rfl⟩ ⟨Nat.le_of_ble_eq_true rfl, Nat.le_of_ble_eq_true rfl⟩ (As := [.int (J v_c)]) (rest := []) rfl rfl hl.1 (Nat.le_of_ble_eq_true rfl) 27 rfl dX9_feed_24 (fun v_5 H locs hq5_ hw => ?_)
    obtain ⟨y186_5, y303_5, ev5_, hh5_⟩ := hq5_
    rw [ev5_] at hw; clear ev5_
    have hw : WK D cy T (upV (upV v_0 186 y186_5) 303 y303_5) A0 H0 H locs := cw_eq hw (by first | rfl | (funext j_; simp only [upV, reduceIte]; (repeat' split) <;> first | rfl | omega | (subst_vars; rfl)))
    replace hh5_ : (y186_5 o) = (y186_4 o) + 4 ∧ (∀ j_, (y186_4 o) ≤ j_ → j_ < (y186_4 o) + 4 → gC_ (y303_5) (T 185 o) j_ = by_ v_c (24 - 8 * (j_ - (y186_4 o)))) ∧ (∀ j_, 0 ≤ j_ → j_ < (y186_4 o) → gC_ (y303_5) (T 185 o) j_ = gC_ (y303_4) (T 185 o) j_) := hh5_
    have p3_ := hh5_
    clear hh5_
    refine j_aload_n E 28 rfl dX9_feed_27 rfl (lv_at hl 0 rfl) ?_
    refine j_iload E 30 rfl dX9_feed_28 (lv_at hl 4 rfl) ?_
    refine kV_v E (c_X9_putBytes l D cy T (upV (upV v_0 186 y186_5) 303 y303_5) o v_d  t_o r_v_d (show 0 ≤ (y186_5 o) ∧ (y186_5 o) ≤ 396 from by omega)) mt_X9_putBytes ml_X9_142 hK hw (cw_rc9 hK hw.1 t_o) hA ⟨Nat.le_of_ble_eq_true rfl, Nat.le_of_ble_eq_true rfl⟩ ⟨Nat.le_of_ble_eq_true rfl, Nat.le_of_ble_eq_true rfl⟩ (As := [.int (J v_d)]) (rest := []) rfl rfl hl.1 (Nat.le_of_ble_eq_true rfl) 33 rfl dX9_feed_30 (fun v_6 H locs hq6_ hw => ?_)
    obtain ⟨y186_6, y303_6, ev6_, hh6_⟩ := hq6_
    rw [ev6_] at hw; clear ev6_
    have hw : WK D cy T (upV (upV v_0 186 y186_6) 303 y303_6) A0 H0 H locs := cw_eq hw (by first | rfl | (funext j_; simp only [upV, reduceIte]; (repeat' split) <;> first | rfl | omega | (subst_vars; rfl)))
    replace hh6_ : (y186_6 o) = (y186_5 o) + 4 ∧ (∀ j_, (y186_5 o) ≤ j_ → j_ < (y186_5 o) + 4 → gC_ (y303_6) (T 185 o) j_ = by_ v_d (24 - 8 * (j_ - (y186_5 o)))) ∧ (∀ j_, 0 ≤ j_ → j_ < (y186_5 o) → gC_ (y303_6) (T 185 o) j_ = gC_ (y303_5) (T 185 o) j_) := hh6_
    have p4_ := hh6_
    clear hh6_
    refine j_aload_n E 34 rfl dX9_feed_33 rfl (lv_at hl 0 rfl) ?_
    refine j_iload E 36 rfl dX9_feed_34 (lv_at hl 5 rfl) ?_
    refine kV_v E (c_X9_putBytes l D cy T (upV (upV v_0 186 y186_6) 303 y303_6) o v_e  t_o r_v_e (show 0 ≤ (y186_6 o) ∧ (y186_6 o) ≤ 396 from by omega)) mt_X9_putBytes ml_X9_142 hK hw (cw_rc9 hK hw.1 t_o) hA ⟨Nat.le_of_ble_eq_true rfl, Nat.le_of_ble_eq_true rfl⟩ ⟨Nat.le_of_ble_eq_true rfl, Nat.le_of_ble_eq_true rfl⟩ (As := [.int (J v_e)]) (rest := []) rfl rfl hl.1 (Nat.le_of_ble_eq_true rfl) 39 rfl dX9_feed_36 (fun v_7 H locs hq7_ hw => ?_)
    obtain ⟨y186_7, y303_7, ev7_, hh7_⟩ := hq7_
    rw [ev7_] at hw; clear ev7_
    have hw : WK D cy T (upV (upV v_0 186 y186_7) 303 y303_7) A0 H0 H locs := cw_eq hw (by first | rfl | (funext j_; simp only [upV, reduceIte]; (repeat' split) <;> first | rfl | omega | (subst_vars; rfl)))
    replace hh7_ : (y186_7 o) = (y186_6 o) + 4 ∧ (∀ j_, (y186_6 o) ≤ j_ → j_ < (y186_6 o) + 4 → gC_ (y303_7) (T 185 o) j_ = by_ v_e (24 - 8 * (j_ - (y186_6 o)))) ∧ (∀ j_, 0 ≤ j_ → j_ < (y186_6 o) → gC_ (y303_7) (T 185 o) j_ = gC_ (y303_6) (T 185 o) j_) := hh7_
    have p5_ := hh7_
    clear hh7_
    refine j_aload_n E 40 rfl dX9_feed_39 rfl (lv_at hl 0 rfl) ?_
    refine g_186 E hK hw fl_X9_33 t_o (y186_7 o) rfl 43 rfl dX9_feed_40 (fun rr8_ => ?_)
    exact hret 43 (y186_7 o) (upV (upV v_0 186 y186_7) 303 y303_7) _ _ ls hw rr8_ ⟨y186_7, y303_7, rfl, Or.inr ⟨rfl, by omega, by omega, fun j_ h1_ h2_ => (p5_.2.2 j_ (by omega) (by omega)).trans ((p4_.2.2 j_ (by omega) (by omega)).trans ((p3_.2.2 j_ (by omega) (by omega)).trans ((p2_.2.2 j_ (by omega) (by omega)).trans ((p1_.2.1 j_ (by omega) (by omega)).trans (by congr 1 <;> omega))))), fun j_ h1_ h2_ => (p5_.2.2 j_ (by omega) (by omega)).trans ((p4_.2.2 j_ (by omega) (by omega)).trans ((p3_.2.2 j_ (by omega) (by omega)).trans ((p2_.2.1 j_ (by omega) (by omega)).trans (by congr 1 <;> omega)))), fun j_ h1_ h2_ => (p5_.2.2 j_ (by omega) (by omega)).trans ((p4_.2.2 j_ (by omega) (by omega)).trans ((p3_.2.1 j_ (by omega) (by omega)).trans (by congr 1 <;> omega))), fun j_ h1_ h2_ => (p5_.2.2 j_ (by omega) (by omega)).trans ((p4_.2.1 j_ (by omega) (by omega)).trans (by congr 1 <;> omega)), fun j_ h1_ h2_ => (p5_.2.1 j_ (by omega) (by omega)).trans (by congr 1 <;> omega), fun j_ h0_ h1_ => (p5_.2.2 j_ (by omega) (by omega)).trans ((p4_.2.2 j_ (by omega) (by omega)).trans ((p3_.2.2 j_ (by omega) (by omega)).trans ((p2_.2.2 j_ (by omega) (by omega)).trans ((p1_.2.2 j_ (by omega) (by omega)).trans (rfl)))))⟩⟩ dX9_feed_43
  · refine j_iconst E 11 rfl dX9_feed_10 ?_
    exact hret 11 ((-1)) (upV (upV v_0 186 (v_0 186)) 303 (v_0 303)) _ _ ls (cw_eq hw (by first | rfl | (funext j_; simp only [upV, reduceIte]; (repeat' split) <;> first | rfl | omega | (subst_vars; rfl)))) (rr (by decide)) ⟨(v_0 186), (v_0 303), rfl, Or.inl ⟨rfl, by omega, rfl, rfl⟩⟩ dX9_feed_11
set_option maxHeartbeats 4000000 in
set_option maxRecDepth 100000 in
theorem c_X9_end (l : Launch) (D : va_G) (cy : Nat → ClassId) (T : Nat → Nat → Nat) (v_0 : Nat → Nat → Int) (o : Nat) (v_n : Int) (t_o : T 0 o = 9) (r_v_n : inR v_n) : KC l D cy T yX9_end cX9_end 2 (some .boolean) 1 [.ref o, .int (J v_n)] v_0 (KI (fun (z_0 : Int) (v_2 : Nat → Nat → Int) => ∃ (y186_2 : Nat → Int) , v_2 = upV v_0 186 y186_2 ∧ ((z_0 = 1 ∧ 0 ≤ v_n ∧ v_n ≤ (v_0 186 o) ∧ (y186_2 o) = v_n) ∨ (z_0 = 0 ∧ (v_n < 0 ∨ (v_0 186 o) < v_n) ∧ (y186_2 o) = (v_0 186 o))))) := by
  refine KC.ofz (by decide) (Nat.le_of_ble_eq_true rfl) ?_
  intro p e s m below meth c ls ar QW A0 H0 H locs E hK hA hw hl hret
  have hl : lv_has ls 2 [(0, .ref o), (1, .int (J v_n))] := hl
  have hT : WT T := hw.1.2.1
  refine j_iload_n E 1 rfl dX9_end_0 rfl (lv_at hl 1 rfl) ?_
  refine j_if_lt E 4 12 rfl r_v_n dX9_end_1 (by decide) (fun cc1_ => ?_) (fun cc1_ => ?_)
  · refine j_iconst E 13 rfl dX9_end_12 ?_
    exact hret 13 0 (upV v_0 186 (v_0 186)) _ _ ls (cw_eq hw (by first | rfl | (funext j_; simp only [upV, reduceIte]; (repeat' split) <;> first | rfl | omega | (subst_vars; rfl)))) (Or.inl rfl) ⟨(v_0 186), rfl, by omega⟩ dX9_end_13
  · refine j_iload_n E 5 rfl dX9_end_4 rfl (lv_at hl 1 rfl) ?_
    refine j_aload_n E 6 rfl dX9_end_5 rfl (lv_at hl 0 rfl) ?_
    refine g_186 E hK hw fl_X9_33 t_o (v_0 186 o) rfl 9 rfl dX9_end_6 (fun rr2_ => ?_)
    refine j_icmp_le E 12 14 rfl r_v_n rr2_ dX9_end_9 (by decide) (fun cc3_ => ?_) (fun cc3_ => ?_)
    · refine j_aload_n E 15 rfl dX9_end_14 rfl (lv_at hl 0 rfl) ?_
      refine j_iload_n E 16 rfl dX9_end_15 rfl (lv_at hl 1 rfl) ?_
      refine p_186 E hK hw fl_X9_33 t_o r_v_n 19 rfl dX9_end_16 (fun H locs hw => ?_)
      have hw : WK D cy T (upV v_0 186 (upB (v_0 186) o v_n)) A0 H0 H locs := cw_eq hw (by first | rfl | (funext j_; simp only [upV, reduceIte]; (repeat' split) <;> first | rfl | omega | (subst_vars; rfl)))
      refine j_iconst E 20 rfl dX9_end_19 ?_
      exact hret 20 1 (upV v_0 186 (upB (v_0 186) o v_n)) _ _ ls hw (Or.inr rfl) ⟨(upB (v_0 186) o v_n), rfl, Or.inl ⟨rfl, by omega, by omega, upB_same _ _ _⟩⟩ dX9_end_20
    · refine j_iconst E 13 rfl dX9_end_12 ?_
      exact hret 13 0 (upV v_0 186 (v_0 186)) _ _ ls (cw_eq hw (by first | rfl | (funext j_; simp only [upV, reduceIte]; (repeat' split) <;> first | rfl | omega | (subst_vars; rfl)))) (Or.inl rfl) ⟨(v_0 186), rfl, by omega⟩ dX9_end_13
set_option maxHeartbeats 4000000 in
set_option maxRecDepth 100000 in
theorem c_X9_fault (l : Launch) (D : va_G) (cy : Nat → ClassId) (T : Nat → Nat → Nat) (v_0 : Nat → Nat → Int) (o : Nat) (v_w : Int) (t_o : T 0 o = 9) (r_v_w : inR v_w) : KC l D cy T yX9_fault cX9_fault 2 (some .int) 1 [.ref o, .int (J v_w)] v_0 (KI (fun (z_0 : Int) (v_2 : Nat → Nat → Int) => v_2 = v_0 ∧ ((v_w = 0 ∧ z_0 = (v_0 190 o)) ∨ (v_w = 1 ∧ z_0 = (v_0 191 o)) ∨ (¬ v_w = 0 ∧ ¬ v_w = 1 ∧ z_0 = -1)))) := by
  refine KC.ofi (by decide) (Nat.le_of_ble_eq_true rfl) ?_
  intro p e s m below meth c ls ar QW A0 H0 H locs E hK hA hw hl hret
  have hl : lv_has ls 2 [(0, .ref o), (1, .int (J v_w))] := hl
  have hT : WT T := hw.1.2.1
  refine j_iload_n E 1 rfl dX9_fault_0 rfl (lv_at hl 1 rfl) ?_
  refine j_if_ne E 4 9 rfl r_v_w dX9_fault_1 (by decide) (fun cc1_ => ?_) (fun cc1_ => ?_)
  · refine j_iload_n E 10 rfl dX9_fault_9 rfl (lv_at hl 1 rfl) ?_
    refine j_iconst E 11 rfl dX9_fault_10 ?_
    refine j_icmp_ne E 14 21 rfl r_v_w (rr (by decide)) dX9_fault_11 (by decide) (fun cc2_ => ?_) (fun cc2_ => ?_)
    · refine j_iconst E 22 rfl dX9_fault_21 ?_
      exact hret 22 ((-1)) (v_0) _ _ ls hw (rr (by decide)) ⟨rfl, by omega⟩ dX9_fault_22
    · refine j_aload_n E 15 rfl dX9_fault_14 rfl (lv_at hl 0 rfl) ?_
      refine g_191 E hK hw fl_X9_49 t_o (v_0 191 o) rfl 18 rfl dX9_fault_15 (fun rr3_ => ?_)
      refine j_goto E 22 dX9_fault_18 (by decide) ?_
      exact hret 22 (v_0 191 o) (v_0) _ _ ls hw rr3_ ⟨rfl, by omega⟩ dX9_fault_22
  · refine j_aload_n E 5 rfl dX9_fault_4 rfl (lv_at hl 0 rfl) ?_
    refine g_190 E hK hw fl_X9_46 t_o (v_0 190 o) rfl 8 rfl dX9_fault_5 (fun rr4_ => ?_)
    exact hret 8 (v_0 190 o) (v_0) _ _ ls hw rr4_ ⟨rfl, by omega⟩ dX9_fault_8
set_option maxHeartbeats 4000000 in
set_option maxRecDepth 100000 in
theorem c_X9_know (l : Launch) (D : va_G) (cy : Nat → ClassId) (T : Nat → Nat → Nat) (v_0 : Nat → Nat → Int) (o : Nat) (v_p : Int) (v_l : Int) (v_w : Int) (v_s : Int) (t_o : T 0 o = 9) (r_v_p : inR v_p) (r_v_l : inR v_l) (r_v_w : inR v_w) (r_v_s : inR v_s) : KC l D cy T yX9_know cX9_know 6 (some .boolean) 6 [.ref o, .int (J v_p), .int (J v_l), .int (J v_w), .int (J v_s)] v_0 (KI (fun (z_0 : Int) (v_2 : Nat → Nat → Int) => ∃ (y300_2 : Nat → Int) , v_2 = upV v_0 300 y300_2 ∧ (((z_0 = 0 ∧ (((v_p < 0 ∨ (v_0 202 (T 180 o)) ≤ v_p) ∨ ∃ y_, T (1000 + (v_p).toNat) (T 201 (T 180 o)) = y_ + 1 ∧ ¬ (v_0 43 y_) = -1) ∨ ¬ (0 ≤ v_l ∧ v_l < (v_0 202 (T 181 o)) ∧ 0 ≤ v_w ∧ v_w < (v_0 202 (T 182 o)) ∧ 1 ≤ v_s ∧ v_s ≤ 9))) ∨ (z_0 = 1 ∧ (∃ y_, 0 ≤ v_p ∧ v_p < (v_0 202 (T 180 o)) ∧ T (1000 + (v_p).toNat) (T 201 (T 180 o)) = y_ + 1 ∧ (v_0 43 y_) = -1) ∧ 0 ≤ v_l ∧ v_l < (v_0 202 (T 181 o)) ∧ 0 ≤ v_w ∧ v_w < (v_0 202 (T 182 o)) ∧ 1 ≤ v_s ∧ v_s ≤ 9)) ∧ Kd_ T [46, 47, 48] (v_0 300) y300_2))) := by
  refine KC.ofz (by decide) (Nat.le_of_ble_eq_true rfl) ?_
  intro p e s m below meth c ls ar QW A0 H0 H locs E hK hA hw hl hret
  have hl : lv_has ls 6 [(0, .ref o), (1, .int (J v_p)), (2, .int (J v_l)), (3, .int (J v_w)), (4, .int (J v_s))] := hl
  have hT : WT T := hw.1.2.1
  refine j_aload_n E 1 rfl dX9_know_0 rfl (lv_at hl 0 rfl) ?_
  refine j_iload_n E 2 rfl dX9_know_1 rfl (lv_at hl 1 rfl) ?_
  refine kV_r E (c_X9_livingAt l D cy T (v_0) o v_p  t_o r_v_p ) mt_X9_livingAt ml_X9_93 hK hw (cw_rc9 hK hw.1 t_o) hA ⟨Nat.le_of_ble_eq_true rfl, Nat.le_of_ble_eq_true rfl⟩ ⟨Nat.le_of_ble_eq_true rfl, Nat.le_of_ble_eq_true rfl⟩ (As := [.int (J v_p)]) (rest := []) rfl rfl hl.1 (Nat.le_of_ble_eq_true rfl) 5 rfl dX9_know_2 (fun oo1_ v_1 H locs hq1_ hw => ?_)
  obtain ⟨ev1_, hh1_⟩ := hq1_
  rw [ev1_] at hw; clear ev1_
  obtain ⟨tt1_, hh1_⟩ := hh1_
  replace hh1_ : (oo1_ = none → ((v_p < 0 ∨ ((v_0 202) (T 180 o)) ≤ v_p) ∨ ∃ y_, T (1000 + (v_p).toNat) (T 201 (T 180 o)) = y_ + 1 ∧ ¬ ((v_0 43) y_) = -1)) ∧ (∀ y_, oo1_ = some y_ → 0 ≤ v_p ∧ v_p < ((v_0 202) (T 180 o)) ∧ T (1000 + (v_p).toNat) (T 201 (T 180 o)) = y_ + 1 ∧ ((v_0 43) y_) = -1) := hh1_
  cases oo1_ with
  | none =>
    first | have hn_ := hh1_.1 rfl | have hs_ := hh1_.2 _ rfl
    refine j_astoreN E 7 rfl [(5, .null), (0, .ref o), (1, .int (J v_p)), (2, .int (J v_l)), (3, .int (J v_w)), (4, .int (J v_s))] dX9_know_5 hl (by decide) rfl (fun ls hl => ?_)
    refine j_aloadN E 9 rfl dX9_know_7 (lv_at hl 0 rfl) ?_
    refine j_ifnullN E 41 dX9_know_9 (by decide) ?_
    refine j_iconst E 42 rfl dX9_know_41 ?_
    exact hret 42 0 (upV v_0 300 (v_0 300)) _ _ ls (cw_eq hw (by first | rfl | (funext j_; simp only [upV, reduceIte]; (repeat' split) <;> first | rfl | omega | (subst_vars; rfl)))) (Or.inl rfl) ⟨(v_0 300), rfl, ⟨Or.inl ⟨rfl, by first | exact Or.inl hn_ | exact Or.inr (by omega)⟩, Kd_rf⟩⟩ dX9_know_42
  | some xx1_ =>
    have te1_ := tt1_ xx1_ rfl
    have tr_ := te1_
    first | have hn_ := hh1_.1 rfl | have hs_ := hh1_.2 _ rfl
    refine j_astore E 7 rfl [(5, .ref xx1_), (0, .ref o), (1, .int (J v_p)), (2, .int (J v_l)), (3, .int (J v_w)), (4, .int (J v_s))] dX9_know_5 hl (by decide) rfl (fun ls hl => ?_)
    refine j_aload E 9 rfl dX9_know_7 (lv_at hl 0 rfl) ?_
    refine j_ifnullR E 12 rfl dX9_know_9 ?_
    refine j_aload_n E 13 rfl dX9_know_12 rfl (lv_at hl 1 rfl) ?_
    refine j_iload_n E 14 rfl dX9_know_13 rfl (lv_at hl 3 rfl) ?_
    refine kV_i E (c_X9_isLine l D cy T (v_0) o v_l  t_o r_v_l ) mt_X9_isLine ml_X9_172 hK hw (cw_rc9 hK hw.1 t_o) hA ⟨Nat.le_of_ble_eq_true rfl, Nat.le_of_ble_eq_true rfl⟩ ⟨Nat.le_of_ble_eq_true rfl, Nat.le_of_ble_eq_true rfl⟩ (As := [.int (J v_l)]) (rest := []) rfl rfl hl.1 (Nat.le_of_ble_eq_true rfl) 17 rfl dX9_know_14 (fun zz2_ v_2 H locs rr2_ hq2_ hw => ?_)
    obtain ⟨ev2_, hh2_⟩ := hq2_
    rw [ev2_] at hw; clear ev2_
    replace hh2_ : (zz2_ = 1 ∧ 0 ≤ v_l ∧ v_l < ((v_0 202) (T 181 o))) ∨ (zz2_ = 0 ∧ (v_l < 0 ∨ ((v_0 202) (T 181 o)) ≤ v_l)) := hh2_
    refine j_if_eq E 20 41 rfl rr2_ dX9_know_17 (by decide) (fun cc3_ => ?_) (fun cc3_ => ?_)
    · refine j_iconst E 42 rfl dX9_know_41 ?_
      exact hret 42 0 (upV v_0 300 (v_0 300)) _ _ ls (cw_eq hw (by first | rfl | (funext j_; simp only [upV, reduceIte]; (repeat' split) <;> first | rfl | omega | (subst_vars; rfl)))) (Or.inl rfl) ⟨(v_0 300), rfl, ⟨Or.inl ⟨rfl, by first | exact Or.inl hn_ | exact Or.inr (by omega)⟩, Kd_rf⟩⟩ dX9_know_42
    · refine j_aload_n E 21 rfl dX9_know_20 rfl (lv_at hl 1 rfl) ?_
      refine j_iload_n E 22 rfl dX9_know_21 rfl (lv_at hl 4 rfl) ?_
      refine kV_i E (c_X9_isWording l D cy T (v_0) o v_w  t_o r_v_w ) mt_X9_isWording ml_X9_164 hK hw (cw_rc9 hK hw.1 t_o) hA ⟨Nat.le_of_ble_eq_true rfl, Nat.le_of_ble_eq_true rfl⟩ ⟨Nat.le_of_ble_eq_true rfl, Nat.le_of_ble_eq_true rfl⟩ (As := [.int (J v_w)]) (rest := []) rfl rfl hl.1 (Nat.le_of_ble_eq_true rfl) 25 rfl dX9_know_22 (fun zz4_ v_4 H locs rr4_ hq4_ hw => ?_)
      obtain ⟨ev4_, hh4_⟩ := hq4_
      rw [ev4_] at hw; clear ev4_
      replace hh4_ : (zz4_ = 1 ∧ 0 ≤ v_w ∧ v_w < ((v_0 202) (T 182 o))) ∨ (zz4_ = 0 ∧ (v_w < 0 ∨ ((v_0 202) (T 182 o)) ≤ v_w)) := hh4_
      refine j_if_eq E 28 41 rfl rr4_ dX9_know_25 (by decide) (fun cc5_ => ?_) (fun cc5_ => ?_)
      · refine j_iconst E 42 rfl dX9_know_41 ?_
        exact hret 42 0 (upV v_0 300 (v_0 300)) _ _ ls (cw_eq hw (by first | rfl | (funext j_; simp only [upV, reduceIte]; (repeat' split) <;> first | rfl | omega | (subst_vars; rfl)))) (Or.inl rfl) ⟨(v_0 300), rfl, ⟨Or.inl ⟨rfl, by first | exact Or.inl hn_ | exact Or.inr (by omega)⟩, Kd_rf⟩⟩ dX9_know_42
      · refine j_iload E 30 rfl dX9_know_28 (lv_at hl 5 rfl) ?_
        refine j_iconst E 31 rfl dX9_know_30 ?_
        refine j_icmp_lt E 34 41 rfl r_v_s (rr (by decide)) dX9_know_31 (by decide) (fun cc6_ => ?_) (fun cc6_ => ?_)
        · refine j_iconst E 42 rfl dX9_know_41 ?_
          exact hret 42 0 (upV v_0 300 (v_0 300)) _ _ ls (cw_eq hw (by first | rfl | (funext j_; simp only [upV, reduceIte]; (repeat' split) <;> first | rfl | omega | (subst_vars; rfl)))) (Or.inl rfl) ⟨(v_0 300), rfl, ⟨Or.inl ⟨rfl, by first | exact Or.inl hn_ | exact Or.inr (by omega)⟩, Kd_rf⟩⟩ dX9_know_42
        · refine j_iload E 36 rfl dX9_know_34 (lv_at hl 5 rfl) ?_
          refine j_bipush E 38 rfl dX9_know_36 (by decide) ?_
          refine j_icmp_le E 41 43 rfl r_v_s (rr (by decide)) dX9_know_38 (by decide) (fun cc7_ => ?_) (fun cc7_ => ?_)
          · refine j_aload E 45 rfl dX9_know_43 (lv_at hl 0 rfl) ?_
            refine j_iload_n E 46 rfl dX9_know_45 rfl (lv_at hl 3 rfl) ?_
            refine j_iload_n E 47 rfl dX9_know_46 rfl (lv_at hl 4 rfl) ?_
            refine j_iload E 49 rfl dX9_know_47 (lv_at hl 5 rfl) ?_
            refine j_iconst E 50 rfl dX9_know_49 ?_
            refine kV_v E (c_X1_learn l D cy T (v_0) xx1_ v_l v_w v_s ((-1))  te1_ r_v_l r_v_w r_v_s (rr (by decide)) ) mt_X1_learn ml_X9_175 hK hw (cw_rc2 hK hw.1 te1_) hA ⟨Nat.le_of_ble_eq_true rfl, Nat.le_of_ble_eq_true rfl⟩ ⟨Nat.le_of_ble_eq_true rfl, Nat.le_of_ble_eq_true rfl⟩ (As := [.int (J v_l), .int (J v_w), .int (J v_s), .int (J ((-1)))]) (rest := []) rfl rfl hl.1 (Nat.le_of_ble_eq_true rfl) 53 rfl dX9_know_50 (fun v_8 H locs hq8_ hw => ?_)
            obtain ⟨y300_8, ev8_, hh8_⟩ := hq8_
            rw [ev8_] at hw; clear ev8_
            have hw : WK D cy T (upV v_0 300 y300_8) A0 H0 H locs := cw_eq hw (by first | rfl | (funext j_; simp only [upV, reduceIte]; (repeat' split) <;> first | rfl | omega | (subst_vars; rfl)))
            obtain ⟨hh8_, kf8_⟩ := hh8_
            refine j_iconst E 54 rfl dX9_know_53 ?_
            exact hret 54 1 (upV v_0 300 y300_8) _ _ ls hw (Or.inr rfl) ⟨y300_8, rfl, ⟨Or.inr ⟨rfl, ⟨_, hs_⟩, by omega⟩, (Kd_tr Kd_rf (Kd_mono kf8_ (by decide)))⟩⟩ dX9_know_54
          · refine j_iconst E 42 rfl dX9_know_41 ?_
            exact hret 42 0 (upV v_0 300 (v_0 300)) _ _ ls (cw_eq hw (by first | rfl | (funext j_; simp only [upV, reduceIte]; (repeat' split) <;> first | rfl | omega | (subst_vars; rfl)))) (Or.inl rfl) ⟨(v_0 300), rfl, ⟨Or.inl ⟨rfl, by first | exact Or.inl hn_ | exact Or.inr (by omega)⟩, Kd_rf⟩⟩ dX9_know_42
set_option maxHeartbeats 4000000 in
set_option maxRecDepth 100000 in
theorem c_X9_teach (l : Launch) (D : va_G) (cy : Nat → ClassId) (T : Nat → Nat → Nat) (v_0 : Nat → Nat → Int) (o : Nat) (v_p : Int) (v_q : Int) (v_l : Int) (t_o : T 0 o = 9) (r_v_p : inR v_p) (r_v_q : inR v_q) (r_v_l : inR v_l) : KC l D cy T yX9_teach cX9_teach 6 (some .boolean) 6 [.ref o, .int (J v_p), .int (J v_q), .int (J v_l)] v_0 (KI (fun (z_0 : Int) (v_2 : Nat → Nat → Int) => ∃ (y45_2 : Nat → Int) (y300_2 : Nat → Int) , v_2 = upV (upV v_0 45 y45_2) 300 y300_2 ∧ ((True) ∧ Kd_ T [46, 47, 48] (v_0 300) y300_2))) := by
  refine KC.ofz (by decide) (Nat.le_of_ble_eq_true rfl) ?_
  intro p e s m below meth c ls ar QW A0 H0 H locs E hK hA hw hl hret
  have hl : lv_has ls 6 [(0, .ref o), (1, .int (J v_p)), (2, .int (J v_q)), (3, .int (J v_l))] := hl
  have hT : WT T := hw.1.2.1
  refine j_aload_n E 1 rfl dX9_teach_0 rfl (lv_at hl 0 rfl) ?_
  refine j_iload_n E 2 rfl dX9_teach_1 rfl (lv_at hl 1 rfl) ?_
  refine kV_r E (c_X9_livingAt l D cy T (v_0) o v_p  t_o r_v_p ) mt_X9_livingAt ml_X9_93 hK hw (cw_rc9 hK hw.1 t_o) hA ⟨Nat.le_of_ble_eq_true rfl, Nat.le_of_ble_eq_true rfl⟩ ⟨Nat.le_of_ble_eq_true rfl, Nat.le_of_ble_eq_true rfl⟩ (As := [.int (J v_p)]) (rest := []) rfl rfl hl.1 (Nat.le_of_ble_eq_true rfl) 5 rfl dX9_teach_2 (fun oo1_ v_1 H locs hq1_ hw => ?_)
  obtain ⟨ev1_, hh1_⟩ := hq1_
  rw [ev1_] at hw; clear ev1_
  obtain ⟨tt1_, hh1_⟩ := hh1_
  replace hh1_ : (oo1_ = none → ((v_p < 0 ∨ ((v_0 202) (T 180 o)) ≤ v_p) ∨ ∃ y_, T (1000 + (v_p).toNat) (T 201 (T 180 o)) = y_ + 1 ∧ ¬ ((v_0 43) y_) = -1)) ∧ (∀ y_, oo1_ = some y_ → 0 ≤ v_p ∧ v_p < ((v_0 202) (T 180 o)) ∧ T (1000 + (v_p).toNat) (T 201 (T 180 o)) = y_ + 1 ∧ ((v_0 43) y_) = -1) := hh1_
  cases oo1_ with
  | none =>
    refine j_astoreN E 7 rfl [(4, .null), (0, .ref o), (1, .int (J v_p)), (2, .int (J v_q)), (3, .int (J v_l))] dX9_teach_5 hl (by decide) rfl (fun ls hl => ?_)
    refine j_aload_n E 8 rfl dX9_teach_7 rfl (lv_at hl 1 rfl) ?_
    refine j_iload_n E 9 rfl dX9_teach_8 rfl (lv_at hl 3 rfl) ?_
    refine kV_r E (c_X9_livingAt l D cy T (v_0) o v_q  t_o r_v_q ) mt_X9_livingAt ml_X9_93 hK hw (cw_rc9 hK hw.1 t_o) hA ⟨Nat.le_of_ble_eq_true rfl, Nat.le_of_ble_eq_true rfl⟩ ⟨Nat.le_of_ble_eq_true rfl, Nat.le_of_ble_eq_true rfl⟩ (As := [.int (J v_q)]) (rest := []) rfl rfl hl.1 (Nat.le_of_ble_eq_true rfl) 12 rfl dX9_teach_9 (fun oo2_ v_2 H locs hq2_ hw => ?_)
    obtain ⟨ev2_, hh2_⟩ := hq2_
    rw [ev2_] at hw; clear ev2_
    obtain ⟨tt2_, hh2_⟩ := hh2_
    replace hh2_ : (oo2_ = none → ((v_q < 0 ∨ ((v_0 202) (T 180 o)) ≤ v_q) ∨ ∃ y_, T (1000 + (v_q).toNat) (T 201 (T 180 o)) = y_ + 1 ∧ ¬ ((v_0 43) y_) = -1)) ∧ (∀ y_, oo2_ = some y_ → 0 ≤ v_q ∧ v_q < ((v_0 202) (T 180 o)) ∧ T (1000 + (v_q).toNat) (T 201 (T 180 o)) = y_ + 1 ∧ ((v_0 43) y_) = -1) := hh2_
    cases oo2_ with
    | none =>
      refine j_astoreN E 14 rfl [(5, .null), (4, .null), (0, .ref o), (1, .int (J v_p)), (2, .int (J v_q)), (3, .int (J v_l))] dX9_teach_12 hl (by decide) rfl (fun ls hl => ?_)
      refine j_aloadN E 16 rfl dX9_teach_14 (lv_at hl 1 rfl) ?_
      refine j_ifnullN E 32 dX9_teach_16 (by decide) ?_
      refine j_iconst E 33 rfl dX9_teach_32 ?_
      exact hret 33 0 (upV (upV v_0 45 (v_0 45)) 300 (v_0 300)) _ _ ls (cw_eq hw (by first | rfl | (funext j_; simp only [upV, reduceIte]; (repeat' split) <;> first | rfl | omega | (subst_vars; rfl)))) (Or.inl rfl) ⟨(v_0 45), (v_0 300), rfl, ⟨trivial, Kd_rf⟩⟩ dX9_teach_33
    | some xx2_ =>
      have te2_ := tt2_ xx2_ rfl
      have tr_ := te2_
      refine j_astore E 14 rfl [(5, .ref xx2_), (4, .null), (0, .ref o), (1, .int (J v_p)), (2, .int (J v_q)), (3, .int (J v_l))] dX9_teach_12 hl (by decide) rfl (fun ls hl => ?_)
      refine j_aloadN E 16 rfl dX9_teach_14 (lv_at hl 1 rfl) ?_
      refine j_ifnullN E 32 dX9_teach_16 (by decide) ?_
      refine j_iconst E 33 rfl dX9_teach_32 ?_
      exact hret 33 0 (upV (upV v_0 45 (v_0 45)) 300 (v_0 300)) _ _ ls (cw_eq hw (by first | rfl | (funext j_; simp only [upV, reduceIte]; (repeat' split) <;> first | rfl | omega | (subst_vars; rfl)))) (Or.inl rfl) ⟨(v_0 45), (v_0 300), rfl, ⟨trivial, Kd_rf⟩⟩ dX9_teach_33
  | some xx1_ =>
    have te1_ := tt1_ xx1_ rfl
    have tr_ := te1_
    refine j_astore E 7 rfl [(4, .ref xx1_), (0, .ref o), (1, .int (J v_p)), (2, .int (J v_q)), (3, .int (J v_l))] dX9_teach_5 hl (by decide) rfl (fun ls hl => ?_)
    refine j_aload_n E 8 rfl dX9_teach_7 rfl (lv_at hl 1 rfl) ?_
    refine j_iload_n E 9 rfl dX9_teach_8 rfl (lv_at hl 3 rfl) ?_
    refine kV_r E (c_X9_livingAt l D cy T (v_0) o v_q  t_o r_v_q ) mt_X9_livingAt ml_X9_93 hK hw (cw_rc9 hK hw.1 t_o) hA ⟨Nat.le_of_ble_eq_true rfl, Nat.le_of_ble_eq_true rfl⟩ ⟨Nat.le_of_ble_eq_true rfl, Nat.le_of_ble_eq_true rfl⟩ (As := [.int (J v_q)]) (rest := []) rfl rfl hl.1 (Nat.le_of_ble_eq_true rfl) 12 rfl dX9_teach_9 (fun oo3_ v_3 H locs hq3_ hw => ?_)
    obtain ⟨ev3_, hh3_⟩ := hq3_
    rw [ev3_] at hw; clear ev3_
    obtain ⟨tt3_, hh3_⟩ := hh3_
    replace hh3_ : (oo3_ = none → ((v_q < 0 ∨ ((v_0 202) (T 180 o)) ≤ v_q) ∨ ∃ y_, T (1000 + (v_q).toNat) (T 201 (T 180 o)) = y_ + 1 ∧ ¬ ((v_0 43) y_) = -1)) ∧ (∀ y_, oo3_ = some y_ → 0 ≤ v_q ∧ v_q < ((v_0 202) (T 180 o)) ∧ T (1000 + (v_q).toNat) (T 201 (T 180 o)) = y_ + 1 ∧ ((v_0 43) y_) = -1) := hh3_
    cases oo3_ with
    | none =>
      refine j_astoreN E 14 rfl [(5, .null), (4, .ref xx1_), (0, .ref o), (1, .int (J v_p)), (2, .int (J v_q)), (3, .int (J v_l))] dX9_teach_12 hl (by decide) rfl (fun ls hl => ?_)
      refine j_aload E 16 rfl dX9_teach_14 (lv_at hl 1 rfl) ?_
      refine j_ifnullR E 19 rfl dX9_teach_16 ?_
      refine j_aloadN E 21 rfl dX9_teach_19 (lv_at hl 0 rfl) ?_
      refine j_ifnullN E 32 dX9_teach_21 (by decide) ?_
      refine j_iconst E 33 rfl dX9_teach_32 ?_
      exact hret 33 0 (upV (upV v_0 45 (v_0 45)) 300 (v_0 300)) _ _ ls (cw_eq hw (by first | rfl | (funext j_; simp only [upV, reduceIte]; (repeat' split) <;> first | rfl | omega | (subst_vars; rfl)))) (Or.inl rfl) ⟨(v_0 45), (v_0 300), rfl, ⟨trivial, Kd_rf⟩⟩ dX9_teach_33
    | some xx3_ =>
      have te3_ := tt3_ xx3_ rfl
      have tr_ := te3_
      refine j_astore E 14 rfl [(5, .ref xx3_), (4, .ref xx1_), (0, .ref o), (1, .int (J v_p)), (2, .int (J v_q)), (3, .int (J v_l))] dX9_teach_12 hl (by decide) rfl (fun ls hl => ?_)
      refine j_aload E 16 rfl dX9_teach_14 (lv_at hl 1 rfl) ?_
      refine j_ifnullR E 19 rfl dX9_teach_16 ?_
      refine j_aload E 21 rfl dX9_teach_19 (lv_at hl 0 rfl) ?_
      refine j_ifnullR E 24 rfl dX9_teach_21 ?_
      refine j_aload_n E 25 rfl dX9_teach_24 rfl (lv_at hl 2 rfl) ?_
      refine j_iload_n E 26 rfl dX9_teach_25 rfl (lv_at hl 5 rfl) ?_
      refine kV_i E (c_X9_isLine l D cy T (v_0) o v_l  t_o r_v_l ) mt_X9_isLine ml_X9_172 hK hw (cw_rc9 hK hw.1 t_o) hA ⟨Nat.le_of_ble_eq_true rfl, Nat.le_of_ble_eq_true rfl⟩ ⟨Nat.le_of_ble_eq_true rfl, Nat.le_of_ble_eq_true rfl⟩ (As := [.int (J v_l)]) (rest := []) rfl rfl hl.1 (Nat.le_of_ble_eq_true rfl) 29 rfl dX9_teach_26 (fun zz4_ v_4 H locs rr4_ hq4_ hw => ?_)
      obtain ⟨ev4_, hh4_⟩ := hq4_
      rw [ev4_] at hw; clear ev4_
      replace hh4_ : (zz4_ = 1 ∧ 0 ≤ v_l ∧ v_l < ((v_0 202) (T 181 o))) ∨ (zz4_ = 0 ∧ (v_l < 0 ∨ ((v_0 202) (T 181 o)) ≤ v_l)) := hh4_
      refine j_if_ne E 32 34 rfl rr4_ dX9_teach_29 (by decide) (fun cc5_ => ?_) (fun cc5_ => ?_)
      · refine j_aload E 36 rfl dX9_teach_34 (lv_at hl 1 rfl) ?_
        refine j_iload_n E 37 rfl dX9_teach_36 rfl (lv_at hl 5 rfl) ?_
        refine kV_i E (c_X1_knows l D cy T (v_0) xx1_ v_l  te1_ r_v_l ) mt_X1_knows ml_X9_179 hK hw (cw_rc2 hK hw.1 te1_) hA ⟨Nat.le_of_ble_eq_true rfl, Nat.le_of_ble_eq_true rfl⟩ ⟨Nat.le_of_ble_eq_true rfl, Nat.le_of_ble_eq_true rfl⟩ (As := [.int (J v_l)]) (rest := []) rfl rfl hl.1 (Nat.le_of_ble_eq_true rfl) 40 rfl dX9_teach_37 (fun zz6_ v_6 H locs rr6_ hq6_ hw => ?_)
        obtain ⟨ev6_, hh6_⟩ := hq6_
        rw [ev6_] at hw; clear ev6_
        refine j_if_eq E 43 64 rfl rr6_ dX9_teach_40 (by decide) (fun cc7_ => ?_) (fun cc7_ => ?_)
        · refine j_iconst E 65 rfl dX9_teach_64 ?_
          exact hret 65 0 (upV (upV v_0 45 (v_0 45)) 300 (v_0 300)) _ _ ls (cw_eq hw (by first | rfl | (funext j_; simp only [upV, reduceIte]; (repeat' split) <;> first | rfl | omega | (subst_vars; rfl)))) (Or.inl rfl) ⟨(v_0 45), (v_0 300), rfl, ⟨trivial, Kd_rf⟩⟩ dX9_teach_65
        · refine j_aload E 45 rfl dX9_teach_43 (lv_at hl 0 rfl) ?_
          refine j_iload_n E 46 rfl dX9_teach_45 rfl (lv_at hl 5 rfl) ?_
          refine kV_i E (c_X1_knows l D cy T (v_0) xx3_ v_l  te3_ r_v_l ) mt_X1_knows ml_X9_179 hK hw (cw_rc2 hK hw.1 te3_) hA ⟨Nat.le_of_ble_eq_true rfl, Nat.le_of_ble_eq_true rfl⟩ ⟨Nat.le_of_ble_eq_true rfl, Nat.le_of_ble_eq_true rfl⟩ (As := [.int (J v_l)]) (rest := []) rfl rfl hl.1 (Nat.le_of_ble_eq_true rfl) 49 rfl dX9_teach_46 (fun zz8_ v_8 H locs rr8_ hq8_ hw => ?_)
          obtain ⟨ev8_, hh8_⟩ := hq8_
          rw [ev8_] at hw; clear ev8_
          refine j_if_ne E 52 64 rfl rr8_ dX9_teach_49 (by decide) (fun cc9_ => ?_) (fun cc9_ => ?_)
          · refine j_iconst E 65 rfl dX9_teach_64 ?_
            exact hret 65 0 (upV (upV v_0 45 (v_0 45)) 300 (v_0 300)) _ _ ls (cw_eq hw (by first | rfl | (funext j_; simp only [upV, reduceIte]; (repeat' split) <;> first | rfl | omega | (subst_vars; rfl)))) (Or.inl rfl) ⟨(v_0 45), (v_0 300), rfl, ⟨trivial, Kd_rf⟩⟩ dX9_teach_65
          · refine j_aload E 54 rfl dX9_teach_52 (lv_at hl 0 rfl) ?_
            refine g_45 E hK hw fl_X9_182 te3_ (v_0 45 xx3_) rfl 57 rfl dX9_teach_54 (fun rr10_ => ?_)
            refine j_aload_n E 58 rfl dX9_teach_57 rfl (lv_at hl 2 rfl) ?_
            refine g_187 E hK hw fl_X9_37 t_o (v_0 187 o) rfl 61 rfl dX9_teach_58 (fun rr11_ => ?_)
            refine j_icmp_ne E 64 66 rfl rr10_ rr11_ dX9_teach_61 (by decide) (fun cc12_ => ?_) (fun cc12_ => ?_)
            · refine j_aload E 68 rfl dX9_teach_66 (lv_at hl 0 rfl) ?_
              refine j_iload_n E 69 rfl dX9_teach_68 rfl (lv_at hl 5 rfl) ?_
              refine j_aload E 71 rfl dX9_teach_69 (lv_at hl 1 rfl) ?_
              refine j_iload_n E 72 rfl dX9_teach_71 rfl (lv_at hl 5 rfl) ?_
              refine kV_i E (c_X1_wordingOf l D cy T (v_0) xx1_ v_l  te1_ r_v_l ) mt_X1_wordingOf ml_X9_185 hK hw (cw_rc2 hK hw.1 te1_) hA ⟨Nat.le_of_ble_eq_true rfl, Nat.le_of_ble_eq_true rfl⟩ ⟨Nat.le_of_ble_eq_true rfl, Nat.le_of_ble_eq_true rfl⟩ (As := [.int (J v_l)]) (rest := [.int (J v_l), .ref xx3_]) rfl rfl hl.1 (Nat.le_of_ble_eq_true rfl) 75 rfl dX9_teach_72 (fun zz13_ v_13 H locs rr13_ hq13_ hw => ?_)
              obtain ⟨ev13_, hh13_⟩ := hq13_
              rw [ev13_] at hw; clear ev13_
              refine j_iconst E 76 rfl dX9_teach_75 ?_
              refine j_iload_n E 77 rfl dX9_teach_76 rfl (lv_at hl 3 rfl) ?_
              refine kV_v E (c_X1_learn l D cy T (v_0) xx3_ v_l zz13_ 4 v_p  te3_ r_v_l rr13_ (rr (by decide)) r_v_p ) mt_X1_learn ml_X9_175 hK hw (cw_rc2 hK hw.1 te3_) hA ⟨Nat.le_of_ble_eq_true rfl, Nat.le_of_ble_eq_true rfl⟩ ⟨Nat.le_of_ble_eq_true rfl, Nat.le_of_ble_eq_true rfl⟩ (As := [.int (J v_l), .int (J zz13_), .int (J 4), .int (J v_p)]) (rest := []) rfl rfl hl.1 (Nat.le_of_ble_eq_true rfl) 80 rfl dX9_teach_77 (fun v_14 H locs hq14_ hw => ?_)
              obtain ⟨y300_14, ev14_, hh14_⟩ := hq14_
              rw [ev14_] at hw; clear ev14_
              have hw : WK D cy T (upV v_0 300 y300_14) A0 H0 H locs := cw_eq hw (by first | rfl | (funext j_; simp only [upV, reduceIte]; (repeat' split) <;> first | rfl | omega | (subst_vars; rfl)))
              obtain ⟨hh14_, kf14_⟩ := hh14_
              refine j_aload E 82 rfl dX9_teach_80 (lv_at hl 0 rfl) ?_
              refine j_aload_n E 83 rfl dX9_teach_82 rfl (lv_at hl 2 rfl) ?_
              refine g_187 E hK hw fl_X9_37 t_o (v_0 187 o) rfl 86 rfl dX9_teach_83 (fun _ => ?_)
              refine p_45 E hK hw fl_X9_182 te3_ rr11_ 89 rfl dX9_teach_86 (fun H locs hw => ?_)
              have hw : WK D cy T (upV (upV v_0 45 (upB (v_0 45) xx3_ (v_0 187 o))) 300 y300_14) A0 H0 H locs := cw_eq hw (by first | rfl | (funext j_; simp only [upV, reduceIte]; (repeat' split) <;> first | rfl | omega | (subst_vars; rfl)))
              refine j_iconst E 90 rfl dX9_teach_89 ?_
              exact hret 90 1 (upV (upV v_0 45 (upB (v_0 45) xx3_ (v_0 187 o))) 300 y300_14) _ _ ls hw (Or.inr rfl) ⟨(upB (v_0 45) xx3_ (v_0 187 o)), y300_14, rfl, ⟨trivial, (Kd_tr Kd_rf (Kd_mono kf14_ (by decide)))⟩⟩ dX9_teach_90
            · refine j_iconst E 65 rfl dX9_teach_64 ?_
              exact hret 65 0 (upV (upV v_0 45 (v_0 45)) 300 (v_0 300)) _ _ ls (cw_eq hw (by first | rfl | (funext j_; simp only [upV, reduceIte]; (repeat' split) <;> first | rfl | omega | (subst_vars; rfl)))) (Or.inl rfl) ⟨(v_0 45), (v_0 300), rfl, ⟨trivial, Kd_rf⟩⟩ dX9_teach_65
      · refine j_iconst E 33 rfl dX9_teach_32 ?_
        exact hret 33 0 (upV (upV v_0 45 (v_0 45)) 300 (v_0 300)) _ _ ls (cw_eq hw (by first | rfl | (funext j_; simp only [upV, reduceIte]; (repeat' split) <;> first | rfl | omega | (subst_vars; rfl)))) (Or.inl rfl) ⟨(v_0 45), (v_0 300), rfl, ⟨trivial, Kd_rf⟩⟩ dX9_teach_33
set_option maxHeartbeats 4000000 in
set_option maxRecDepth 100000 in
theorem c_X9_has (l : Launch) (D : va_G) (cy : Nat → ClassId) (T : Nat → Nat → Nat) (v_0 : Nat → Nat → Int) (o : Nat) (v_p : Int) (v_l : Int) (v_w : Int) (t_o : T 0 o = 9) (r_v_p : inR v_p) (r_v_l : inR v_l) (r_v_w : inR v_w) : KC l D cy T yX9_has cX9_has 5 (some .int) 5 [.ref o, .int (J v_p), .int (J v_l), .int (J v_w)] v_0 (KI (fun (z_0 : Int) (v_2 : Nat → Nat → Int) => v_2 = v_0 ∧ (True))) := by
  refine KC.ofi (by decide) (Nat.le_of_ble_eq_true rfl) ?_
  intro p e s m below meth c ls ar QW A0 H0 H locs E hK hA hw hl hret
  have hl : lv_has ls 5 [(0, .ref o), (1, .int (J v_p)), (2, .int (J v_l)), (3, .int (J v_w))] := hl
  have hT : WT T := hw.1.2.1
  refine j_aload_n E 1 rfl dX9_has_0 rfl (lv_at hl 0 rfl) ?_
  refine j_iload_n E 2 rfl dX9_has_1 rfl (lv_at hl 1 rfl) ?_
  refine kV_r E (c_X9_personAt l D cy T (v_0) o v_p  t_o r_v_p ) mt_X9_personAt ml_X9_104 hK hw (cw_rc9 hK hw.1 t_o) hA ⟨Nat.le_of_ble_eq_true rfl, Nat.le_of_ble_eq_true rfl⟩ ⟨Nat.le_of_ble_eq_true rfl, Nat.le_of_ble_eq_true rfl⟩ (As := [.int (J v_p)]) (rest := []) rfl rfl hl.1 (Nat.le_of_ble_eq_true rfl) 5 rfl dX9_has_2 (fun oo1_ v_1 H locs hq1_ hw => ?_)
  obtain ⟨ev1_, hh1_⟩ := hq1_
  rw [ev1_] at hw; clear ev1_
  obtain ⟨tt1_, hh1_⟩ := hh1_
  replace hh1_ : (oo1_ = none → (v_p < 0 ∨ ((v_0 202) (T 180 o)) ≤ v_p)) ∧ (∀ y_, oo1_ = some y_ → 0 ≤ v_p ∧ v_p < ((v_0 202) (T 180 o)) ∧ T (1000 + (v_p).toNat) (T 201 (T 180 o)) = y_ + 1) := hh1_
  cases oo1_ with
  | none =>
    refine j_astoreN E 7 rfl [(4, .null), (0, .ref o), (1, .int (J v_p)), (2, .int (J v_l)), (3, .int (J v_w))] dX9_has_5 hl (by decide) rfl (fun ls hl => ?_)
    refine j_aloadN E 9 rfl dX9_has_7 (lv_at hl 0 rfl) ?_
    refine j_ifnullN E 20 dX9_has_9 (by decide) ?_
    refine j_iconst E 21 rfl dX9_has_20 ?_
    exact hret 21 ((-1)) (v_0) _ _ ls hw (rr (by decide)) ⟨rfl, trivial⟩ dX9_has_21
  | some xx1_ =>
    have te1_ := tt1_ xx1_ rfl
    have tr_ := te1_
    refine j_astore E 7 rfl [(4, .ref xx1_), (0, .ref o), (1, .int (J v_p)), (2, .int (J v_l)), (3, .int (J v_w))] dX9_has_5 hl (by decide) rfl (fun ls hl => ?_)
    refine j_aload E 9 rfl dX9_has_7 (lv_at hl 0 rfl) ?_
    refine j_ifnullR E 12 rfl dX9_has_9 ?_
    refine j_aload_n E 13 rfl dX9_has_12 rfl (lv_at hl 1 rfl) ?_
    refine j_iload_n E 14 rfl dX9_has_13 rfl (lv_at hl 3 rfl) ?_
    refine kV_i E (c_X9_isLine l D cy T (v_0) o v_l  t_o r_v_l ) mt_X9_isLine ml_X9_172 hK hw (cw_rc9 hK hw.1 t_o) hA ⟨Nat.le_of_ble_eq_true rfl, Nat.le_of_ble_eq_true rfl⟩ ⟨Nat.le_of_ble_eq_true rfl, Nat.le_of_ble_eq_true rfl⟩ (As := [.int (J v_l)]) (rest := []) rfl rfl hl.1 (Nat.le_of_ble_eq_true rfl) 17 rfl dX9_has_14 (fun zz2_ v_2 H locs rr2_ hq2_ hw => ?_)
    obtain ⟨ev2_, hh2_⟩ := hq2_
    rw [ev2_] at hw; clear ev2_
    replace hh2_ : (zz2_ = 1 ∧ 0 ≤ v_l ∧ v_l < ((v_0 202) (T 181 o))) ∨ (zz2_ = 0 ∧ (v_l < 0 ∨ ((v_0 202) (T 181 o)) ≤ v_l)) := hh2_
    refine j_if_ne E 20 22 rfl rr2_ dX9_has_17 (by decide) (fun cc3_ => ?_) (fun cc3_ => ?_)
    · refine j_iload_n E 23 rfl dX9_has_22 rfl (lv_at hl 4 rfl) ?_
      by_cases tb4_0 : v_w = 0
      · refine j_tabIn E 48 r_v_w 0 dX9_has_23 (by omega) rfl (by decide) ?_
        refine j_aload E 50 rfl dX9_has_48 (lv_at hl 0 rfl) ?_
        refine j_iload_n E 51 rfl dX9_has_50 rfl (lv_at hl 3 rfl) ?_
        refine kV_i E (c_X1_wordingOf l D cy T (v_0) xx1_ v_l  te1_ r_v_l ) mt_X1_wordingOf ml_X9_185 hK hw (cw_rc2 hK hw.1 te1_) hA ⟨Nat.le_of_ble_eq_true rfl, Nat.le_of_ble_eq_true rfl⟩ ⟨Nat.le_of_ble_eq_true rfl, Nat.le_of_ble_eq_true rfl⟩ (As := [.int (J v_l)]) (rest := []) rfl rfl hl.1 (Nat.le_of_ble_eq_true rfl) 54 rfl dX9_has_51 (fun zz5_ v_5 H locs rr5_ hq5_ hw => ?_)
        obtain ⟨ev5_, hh5_⟩ := hq5_
        rw [ev5_] at hw; clear ev5_
        exact hret 54 zz5_ (v_0) _ _ ls hw rr5_ ⟨rfl, trivial⟩ dX9_has_54
      by_cases tb4_1 : v_w = 1
      · refine j_tabIn E 55 r_v_w 1 dX9_has_23 (by omega) rfl (by decide) ?_
        refine j_aload E 57 rfl dX9_has_55 (lv_at hl 0 rfl) ?_
        refine j_iload_n E 58 rfl dX9_has_57 rfl (lv_at hl 3 rfl) ?_
        refine kV_i E (c_X1_strengthOf l D cy T (v_0) xx1_ v_l  te1_ r_v_l ) mt_X1_strengthOf ml_X9_189 hK hw (cw_rc2 hK hw.1 te1_) hA ⟨Nat.le_of_ble_eq_true rfl, Nat.le_of_ble_eq_true rfl⟩ ⟨Nat.le_of_ble_eq_true rfl, Nat.le_of_ble_eq_true rfl⟩ (As := [.int (J v_l)]) (rest := []) rfl rfl hl.1 (Nat.le_of_ble_eq_true rfl) 61 rfl dX9_has_58 (fun zz6_ v_6 H locs rr6_ hq6_ hw => ?_)
        obtain ⟨ev6_, hh6_⟩ := hq6_
        rw [ev6_] at hw; clear ev6_
        exact hret 61 zz6_ (v_0) _ _ ls hw rr6_ ⟨rfl, trivial⟩ dX9_has_61
      by_cases tb4_2 : v_w = 2
      · refine j_tabIn E 62 r_v_w 2 dX9_has_23 (by omega) rfl (by decide) ?_
        refine j_aload E 64 rfl dX9_has_62 (lv_at hl 0 rfl) ?_
        refine j_iload_n E 65 rfl dX9_has_64 rfl (lv_at hl 3 rfl) ?_
        refine kV_i E (c_X1_sourceOf l D cy T (v_0) xx1_ v_l  te1_ r_v_l ) mt_X1_sourceOf ml_X9_192 hK hw (cw_rc2 hK hw.1 te1_) hA ⟨Nat.le_of_ble_eq_true rfl, Nat.le_of_ble_eq_true rfl⟩ ⟨Nat.le_of_ble_eq_true rfl, Nat.le_of_ble_eq_true rfl⟩ (As := [.int (J v_l)]) (rest := []) rfl rfl hl.1 (Nat.le_of_ble_eq_true rfl) 68 rfl dX9_has_65 (fun zz7_ v_7 H locs rr7_ hq7_ hw => ?_)
        obtain ⟨ev7_, hh7_⟩ := hq7_
        rw [ev7_] at hw; clear ev7_
        exact hret 68 zz7_ (v_0) _ _ ls hw rr7_ ⟨rfl, trivial⟩ dX9_has_68
      refine j_tabOut E 69 r_v_w dX9_has_23 (by omega) (by decide) ?_
      refine j_iconst E 70 rfl dX9_has_69 ?_
      exact hret 70 ((-1)) (v_0) _ _ ls hw (rr (by decide)) ⟨rfl, trivial⟩ dX9_has_70
    · refine j_iconst E 21 rfl dX9_has_20 ?_
      exact hret 21 ((-1)) (v_0) _ _ ls hw (rr (by decide)) ⟨rfl, trivial⟩ dX9_has_21
set_option maxHeartbeats 4000000 in
set_option maxRecDepth 100000 in
theorem c_X9_areLines (l : Launch) (D : va_G) (cy : Nat → ClassId) (T : Nat → Nat → Nat) (v_0 : Nat → Nat → Int) (o : Nat) (v_s : Int) (t_o : T 0 o = 9) (r_v_s : inR v_s) : KC l D cy T yX9_areLines cX9_areLines 2 (some .boolean) 2 [.ref o, .int (J v_s)] v_0 (KI (fun (z_0 : Int) (v_2 : Nat → Nat → Int) => v_2 = v_0 ∧ (True))) := by
  refine KC.ofz (by decide) (Nat.le_of_ble_eq_true rfl) ?_
  intro p e s m below meth c ls ar QW A0 H0 H locs E hK hA hw hl hret
  have hl : lv_has ls 2 [(0, .ref o), (1, .int (J v_s))] := hl
  have hT : WT T := hw.1.2.1
  refine j_iload_n E 1 rfl dX9_areLines_0 rfl (lv_at hl 1 rfl) ?_
  refine j_aload_n E 2 rfl dX9_areLines_1 rfl (lv_at hl 0 rfl) ?_
  refine g_181 E hK hw fl_X9_16 t_o 5 rfl dX9_areLines_2 ?_
  refine kV_i E (c_Jx4a65c_size_8abf5 l D cy T (v_0) (T 181 o)  (wt_181 hT t_o)  ) mt_Jx4a65c_size_8abf5 ml_X9_80 hK hw (cw_rc10 hK hw.1 (wt_181 hT t_o)) hA ⟨Nat.le_of_ble_eq_true rfl, Nat.le_of_ble_eq_true rfl⟩ ⟨Nat.le_of_ble_eq_true rfl, Nat.le_of_ble_eq_true rfl⟩ (As := []) (rest := [.int (J v_s)]) rfl rfl hl.1 (Nat.le_of_ble_eq_true rfl) 8 rfl dX9_areLines_5 (fun zz1_ v_1 H locs rr1_ hq1_ hw => ?_)
  obtain ⟨ev1_, hh1_⟩ := hq1_
  rw [ev1_] at hw; clear ev1_
  replace hh1_ : zz1_ = ((v_0 202) ((T 181 o))) ∧ 0 ≤ zz1_ := hh1_
  refine j_iushr E 9 rfl dX9_areLines_8 (fun zz2_ rr2_ ee2_ => ?_)
  refine j_if_ne E 12 16 rfl rr2_ dX9_areLines_9 (by decide) (fun cc3_ => ?_) (fun cc3_ => ?_)
  · refine j_iconst E 17 rfl dX9_areLines_16 ?_
    exact hret 17 0 (v_0) _ _ ls hw (Or.inl rfl) ⟨rfl, trivial⟩ dX9_areLines_17
  · refine j_iconst E 13 rfl dX9_areLines_12 ?_
    refine j_goto E 17 dX9_areLines_13 (by decide) ?_
    exact hret 17 1 (v_0) _ _ ls hw (Or.inr rfl) ⟨rfl, trivial⟩ dX9_areLines_17
set_option maxHeartbeats 4000000 in
set_option maxRecDepth 100000 in
theorem c_X9_countHolders (l : Launch) (D : va_G) (cy : Nat → ClassId) (T : Nat → Nat → Nat) (v_0 : Nat → Nat → Int) (o : Nat) (v_l : Int) (t_o : T 0 o = 9) (r_v_l : inR v_l) : KC l D cy T yX9_countHolders cX9_countHolders 5 (some .int) 4 [.ref o, .int (J v_l)] v_0 (KI (fun (z_0 : Int) (v_2 : Nat → Nat → Int) => v_2 = v_0 ∧ (True))) := by
  refine KC.ofi (by decide) (Nat.le_of_ble_eq_true rfl) ?_
  intro p e s m below meth c ls ar QW A0 H0 H locs E hK hA hw hl hret
  have hl : lv_has ls 5 [(0, .ref o), (1, .int (J v_l))] := hl
  have hT : WT T := hw.1.2.1
  refine j_iconst E 1 rfl dX9_countHolders_0 ?_
  refine j_istore_n E 2 rfl [(2, .int (J 0)), (0, .ref o), (1, .int (J v_l))] dX9_countHolders_1 rfl hl (by decide) rfl (fun ls hl => ?_)
  refine j_iconst E 3 rfl dX9_countHolders_2 ?_
  refine j_istore_n E 4 rfl [(3, .int (J 0)), (2, .int (J 0)), (0, .ref o), (1, .int (J v_l))] dX9_countHolders_3 rfl hl (by decide) rfl (fun ls hl => ?_)
  have L4_1 : ∀ (k4 : Nat) (l2_4 l3_4 : Int) (H : Heap) (locs : List Loc) (ls : Array Slot), inR l2_4 → inR l3_4 → (0 ≤ l3_4) → ((v_0 202 (T 180 o)) - l3_4).toNat < k4 → WK D cy T (v_0) A0 H0 H locs → lv_has ls 5 [(0, .ref o), (1, .int (J v_l)), (2, .int (J l2_4)), (3, .int (J l3_4))] → W p l e (rmd 4 0 0) s m ar below meth c H locs 0 0 QW (F0 m 4 ls []) := by
    intro k4
    induction k4 with
    | zero =>
      intro l2_4 l3_4 H locs ls r_l2_4 r_l3_4 iv4 ms4 hw hl
      exact absurd ms4 (Nat.not_lt_zero _)
    | succ k4 ih4 =>
      intro l2_4 l3_4 H locs ls r_l2_4 r_l3_4 iv4 ms4 hw hl
      refine j_iload_n E 5 rfl dX9_countHolders_4 rfl (lv_at hl 3 rfl) ?_
      refine j_aload_n E 6 rfl dX9_countHolders_5 rfl (lv_at hl 0 rfl) ?_
      refine g_180 E hK hw fl_X9_12 t_o 9 rfl dX9_countHolders_6 ?_
      refine kV_i E (c_Jx4a65c_size_8abf5 l D cy T (v_0) (T 180 o)  (wt_180 hT t_o)  ) mt_Jx4a65c_size_8abf5 ml_X9_80 hK hw (cw_rc10 hK hw.1 (wt_180 hT t_o)) hA ⟨Nat.le_of_ble_eq_true rfl, Nat.le_of_ble_eq_true rfl⟩ ⟨Nat.le_of_ble_eq_true rfl, Nat.le_of_ble_eq_true rfl⟩ (As := []) (rest := [.int (J l3_4)]) rfl rfl hl.1 (Nat.le_of_ble_eq_true rfl) 12 rfl dX9_countHolders_9 (fun zz3_ v_3 H locs rr3_ hq3_ hw => ?_)
      obtain ⟨ev3_, hh3_⟩ := hq3_
      rw [ev3_] at hw; clear ev3_
      replace hh3_ : zz3_ = ((v_0 202) ((T 180 o))) ∧ 0 ≤ zz3_ := hh3_
      refine j_icmp_ge E 15 59 rfl r_l3_4 rr3_ dX9_countHolders_12 (by decide) (fun cc4_ => ?_) (fun cc4_ => ?_)
      · refine j_iload_n E 60 rfl dX9_countHolders_59 rfl (lv_at hl 2 rfl) ?_
        exact hret 60 l2_4 (v_0) _ _ ls hw r_l2_4 ⟨rfl, trivial⟩ dX9_countHolders_60
      · refine j_aload_n E 16 rfl dX9_countHolders_15 rfl (lv_at hl 0 rfl) ?_
        refine g_180 E hK hw fl_X9_12 t_o 19 rfl dX9_countHolders_16 ?_
        refine j_iload_n E 20 rfl dX9_countHolders_19 rfl (lv_at hl 3 rfl) ?_
        refine kV_n E (c_Jx4a65c_get_915e3 l D cy T (v_0) (T 180 o) l3_4  (wt_180 hT t_o) r_l3_4 (show 0 ≤ l3_4 ∧ l3_4 < ((v_0 202) ((T 180 o))) from by omega)) mt_Jx4a65c_get_915e3 ml_X9_123 hK hw (cw_rc10 hK hw.1 (wt_180 hT t_o)) hA ⟨Nat.le_of_ble_eq_true rfl, Nat.le_of_ble_eq_true rfl⟩ ⟨Nat.le_of_ble_eq_true rfl, Nat.le_of_ble_eq_true rfl⟩ (As := [.int (J l3_4)]) (rest := []) rfl rfl hl.1 (Nat.le_of_ble_eq_true rfl) 23 rfl dX9_countHolders_20 (fun xx5_ v_5 H locs hq5_ hw => ?_)
        obtain ⟨ev5_, hh5_⟩ := hq5_
        rw [ev5_] at hw; clear ev5_
        replace hh5_ : dcd (T (1000 + (l3_4).toNat) (T 201 (T 180 o))) = some xx5_ ∧ T 0 xx5_ = T 2 (T 180 o) := hh5_
        have te5_ : T 0 xx5_ = 2 := hh5_.2.trans (we_180 hT t_o)
        have tg_ := te5_
        refine k_cast2 E hK hw cl_X9_84 te5_ 26 rfl dX9_countHolders_23 ?_
        refine j_astore E 28 rfl [(4, .ref xx5_), (0, .ref o), (1, .int (J v_l)), (2, .int (J l2_4)), (3, .int (J l3_4))] dX9_countHolders_26 hl (by decide) rfl (fun ls hl => ?_)
        refine j_iload_n E 29 rfl dX9_countHolders_28 rfl (lv_at hl 3 rfl) ?_
        refine j_aload E 31 rfl dX9_countHolders_29 (lv_at hl 0 rfl) ?_
        refine kV_i E (c_X1_lives l D cy T (v_0) xx5_  te5_  ) mt_X1_lives ml_X9_127 hK hw (cw_rc2 hK hw.1 te5_) hA ⟨Nat.le_of_ble_eq_true rfl, Nat.le_of_ble_eq_true rfl⟩ ⟨Nat.le_of_ble_eq_true rfl, Nat.le_of_ble_eq_true rfl⟩ (As := []) (rest := [.int (J l2_4)]) rfl rfl hl.1 (Nat.le_of_ble_eq_true rfl) 34 rfl dX9_countHolders_31 (fun zz6_ v_6 H locs rr6_ hq6_ hw => ?_)
        obtain ⟨ev6_, hh6_⟩ := hq6_
        rw [ev6_] at hw; clear ev6_
        replace hh6_ : (zz6_ = 1 ∧ ((v_0 43) xx5_) = -1) ∨ (zz6_ = 0 ∧ ¬ ((v_0 43) xx5_) = -1) := hh6_
        refine j_if_eq E 37 50 rfl rr6_ dX9_countHolders_34 (by decide) (fun cc7_ => ?_) (fun cc7_ => ?_)
        · refine j_iconst E 51 rfl dX9_countHolders_50 ?_
          refine j_iadd E 52 rfl dX9_countHolders_51 ?_
          refine j_norm (fun zz8_ rr8_ ee8_ => ?_)
          refine j_istore_n E 53 rfl [(2, .int (J zz8_)), (4, .ref xx5_), (0, .ref o), (1, .int (J v_l)), (3, .int (J l3_4))] dX9_countHolders_52 rfl hl (by decide) rfl (fun ls hl => ?_)
          refine j_iinc E 56 rfl [(3, .int (J (l3_4 + 1))), (2, .int (J zz8_)), (4, .ref xx5_), (0, .ref o), (1, .int (J v_l))] dX9_countHolders_53 hl (kk := 4) rfl (by decide) rfl (fun ls hl => ?_)
          refine j_goto E 4 dX9_countHolders_56 (by decide) ?_
          exact ih4 zz8_ (l3_4 + 1)  H locs ls rr8_ (rr (by omega)) (by omega) (by omega) hw (lv_sub hl [3, 4, 1, 0] rfl)
        · refine j_aload E 39 rfl dX9_countHolders_37 (lv_at hl 0 rfl) ?_
          refine j_iload_n E 40 rfl dX9_countHolders_39 rfl (lv_at hl 2 rfl) ?_
          refine kV_i E (c_X1_knows l D cy T (v_0) xx5_ v_l  te5_ r_v_l ) mt_X1_knows ml_X9_179 hK hw (cw_rc2 hK hw.1 te5_) hA ⟨Nat.le_of_ble_eq_true rfl, Nat.le_of_ble_eq_true rfl⟩ ⟨Nat.le_of_ble_eq_true rfl, Nat.le_of_ble_eq_true rfl⟩ (As := [.int (J v_l)]) (rest := [.int (J l2_4)]) rfl rfl hl.1 (Nat.le_of_ble_eq_true rfl) 43 rfl dX9_countHolders_40 (fun zz9_ v_9 H locs rr9_ hq9_ hw => ?_)
          obtain ⟨ev9_, hh9_⟩ := hq9_
          rw [ev9_] at hw; clear ev9_
          refine j_if_eq E 46 50 rfl rr9_ dX9_countHolders_43 (by decide) (fun cc10_ => ?_) (fun cc10_ => ?_)
          · refine j_iconst E 51 rfl dX9_countHolders_50 ?_
            refine j_iadd E 52 rfl dX9_countHolders_51 ?_
            refine j_norm (fun zz11_ rr11_ ee11_ => ?_)
            refine j_istore_n E 53 rfl [(2, .int (J zz11_)), (4, .ref xx5_), (0, .ref o), (1, .int (J v_l)), (3, .int (J l3_4))] dX9_countHolders_52 rfl hl (by decide) rfl (fun ls hl => ?_)
            refine j_iinc E 56 rfl [(3, .int (J (l3_4 + 1))), (2, .int (J zz11_)), (4, .ref xx5_), (0, .ref o), (1, .int (J v_l))] dX9_countHolders_53 hl (kk := 4) rfl (by decide) rfl (fun ls hl => ?_)
            refine j_goto E 4 dX9_countHolders_56 (by decide) ?_
            exact ih4 zz11_ (l3_4 + 1)  H locs ls rr11_ (rr (by omega)) (by omega) (by omega) hw (lv_sub hl [3, 4, 1, 0] rfl)
          · refine j_iconst E 47 rfl dX9_countHolders_46 ?_
            refine j_goto E 51 dX9_countHolders_47 (by decide) ?_
            refine j_iadd E 52 rfl dX9_countHolders_51 ?_
            refine j_norm (fun zz12_ rr12_ ee12_ => ?_)
            refine j_istore_n E 53 rfl [(2, .int (J zz12_)), (4, .ref xx5_), (0, .ref o), (1, .int (J v_l)), (3, .int (J l3_4))] dX9_countHolders_52 rfl hl (by decide) rfl (fun ls hl => ?_)
            refine j_iinc E 56 rfl [(3, .int (J (l3_4 + 1))), (2, .int (J zz12_)), (4, .ref xx5_), (0, .ref o), (1, .int (J v_l))] dX9_countHolders_53 hl (kk := 4) rfl (by decide) rfl (fun ls hl => ?_)
            refine j_goto E 4 dX9_countHolders_56 (by decide) ?_
            exact ih4 zz12_ (l3_4 + 1)  H locs ls rr12_ (rr (by omega)) (by omega) (by omega) hw (lv_sub hl [3, 4, 1, 0] rfl)
  exact L4_1 _ 0 0  H locs ls (rr (by decide)) (rr (by decide)) (by omega) (Nat.lt_succ_self _) hw (lv_sub hl [2, 3, 1, 0] rfl)
set_option maxHeartbeats 4000000 in
set_option maxRecDepth 100000 in
theorem c_X9_countWordings (l : Launch) (D : va_G) (cy : Nat → ClassId) (T : Nat → Nat → Nat) (v_0 : Nat → Nat → Int) (o : Nat) (v_l : Int) (t_o : T 0 o = 9) (r_v_l : inR v_l) : KC l D cy T yX9_countWordings cX9_countWordings 5 (some .int) 4 [.ref o, .int (J v_l)] v_0 (KI (fun (z_0 : Int) (v_2 : Nat → Nat → Int) => v_2 = v_0 ∧ (True))) := by
  refine KC.ofi (by decide) (Nat.le_of_ble_eq_true rfl) ?_
  intro p e s m below meth c ls ar QW A0 H0 H locs E hK hA hw hl hret
  have hl : lv_has ls 5 [(0, .ref o), (1, .int (J v_l))] := hl
  have hT : WT T := hw.1.2.1
  refine j_iconst E 1 rfl dX9_countWordings_0 ?_
  refine j_istore_n E 2 rfl [(2, .int (J 0)), (0, .ref o), (1, .int (J v_l))] dX9_countWordings_1 rfl hl (by decide) rfl (fun ls hl => ?_)
  refine j_iconst E 3 rfl dX9_countWordings_2 ?_
  refine j_istore_n E 4 rfl [(3, .int (J 0)), (2, .int (J 0)), (0, .ref o), (1, .int (J v_l))] dX9_countWordings_3 rfl hl (by decide) rfl (fun ls hl => ?_)
  have L4_1 : ∀ (k4 : Nat) (l2_4 l3_4 : Int) (H : Heap) (locs : List Loc) (ls : Array Slot), inR l2_4 → inR l3_4 → (0 ≤ l3_4) → ((v_0 202 (T 180 o)) - l3_4).toNat < k4 → WK D cy T (v_0) A0 H0 H locs → lv_has ls 5 [(0, .ref o), (1, .int (J v_l)), (2, .int (J l2_4)), (3, .int (J l3_4))] → W p l e (rmd 4 0 0) s m ar below meth c H locs 0 0 QW (F0 m 4 ls []) := by
    intro k4
    induction k4 with
    | zero =>
      intro l2_4 l3_4 H locs ls r_l2_4 r_l3_4 iv4 ms4 hw hl
      exact absurd ms4 (Nat.not_lt_zero _)
    | succ k4 ih4 =>
      intro l2_4 l3_4 H locs ls r_l2_4 r_l3_4 iv4 ms4 hw hl
      refine j_iload_n E 5 rfl dX9_countWordings_4 rfl (lv_at hl 3 rfl) ?_
      refine j_aload_n E 6 rfl dX9_countWordings_5 rfl (lv_at hl 0 rfl) ?_
      refine g_180 E hK hw fl_X9_12 t_o 9 rfl dX9_countWordings_6 ?_
      refine kV_i E (c_Jx4a65c_size_8abf5 l D cy T (v_0) (T 180 o)  (wt_180 hT t_o)  ) mt_Jx4a65c_size_8abf5 ml_X9_80 hK hw (cw_rc10 hK hw.1 (wt_180 hT t_o)) hA ⟨Nat.le_of_ble_eq_true rfl, Nat.le_of_ble_eq_true rfl⟩ ⟨Nat.le_of_ble_eq_true rfl, Nat.le_of_ble_eq_true rfl⟩ (As := []) (rest := [.int (J l3_4)]) rfl rfl hl.1 (Nat.le_of_ble_eq_true rfl) 12 rfl dX9_countWordings_9 (fun zz3_ v_3 H locs rr3_ hq3_ hw => ?_)
      obtain ⟨ev3_, hh3_⟩ := hq3_
      rw [ev3_] at hw; clear ev3_
      replace hh3_ : zz3_ = ((v_0 202) ((T 180 o))) ∧ 0 ≤ zz3_ := hh3_
      refine j_icmp_ge E 15 62 rfl r_l3_4 rr3_ dX9_countWordings_12 (by decide) (fun cc4_ => ?_) (fun cc4_ => ?_)
      · refine j_iload_n E 63 rfl dX9_countWordings_62 rfl (lv_at hl 2 rfl) ?_
        refine kS_i E (c_J6_bitCount_0f7a4 l D cy T (v_0) l2_4   r_l2_4 ) ms_J6_bitCount_0f7a4 ml_X9_218 hK hw hA ⟨Nat.le_of_ble_eq_true rfl, Nat.le_of_ble_eq_true rfl⟩ ⟨Nat.le_of_ble_eq_true rfl, Nat.le_of_ble_eq_true rfl⟩ (As := [.int (J l2_4)]) (rest := []) rfl rfl hl.1 (Nat.le_of_ble_eq_true rfl) 66 rfl dX9_countWordings_63 (fun zz5_ v_5 H locs rr5_ hq5_ hw => ?_)
        obtain ⟨ev5_, hh5_⟩ := hq5_
        rw [ev5_] at hw; clear ev5_
        exact hret 66 zz5_ (v_0) _ _ ls hw rr5_ ⟨rfl, trivial⟩ dX9_countWordings_66
      · refine j_aload_n E 16 rfl dX9_countWordings_15 rfl (lv_at hl 0 rfl) ?_
        refine g_180 E hK hw fl_X9_12 t_o 19 rfl dX9_countWordings_16 ?_
        refine j_iload_n E 20 rfl dX9_countWordings_19 rfl (lv_at hl 3 rfl) ?_
        refine kV_n E (c_Jx4a65c_get_915e3 l D cy T (v_0) (T 180 o) l3_4  (wt_180 hT t_o) r_l3_4 (show 0 ≤ l3_4 ∧ l3_4 < ((v_0 202) ((T 180 o))) from by omega)) mt_Jx4a65c_get_915e3 ml_X9_123 hK hw (cw_rc10 hK hw.1 (wt_180 hT t_o)) hA ⟨Nat.le_of_ble_eq_true rfl, Nat.le_of_ble_eq_true rfl⟩ ⟨Nat.le_of_ble_eq_true rfl, Nat.le_of_ble_eq_true rfl⟩ (As := [.int (J l3_4)]) (rest := []) rfl rfl hl.1 (Nat.le_of_ble_eq_true rfl) 23 rfl dX9_countWordings_20 (fun xx6_ v_6 H locs hq6_ hw => ?_)
        obtain ⟨ev6_, hh6_⟩ := hq6_
        rw [ev6_] at hw; clear ev6_
        replace hh6_ : dcd (T (1000 + (l3_4).toNat) (T 201 (T 180 o))) = some xx6_ ∧ T 0 xx6_ = T 2 (T 180 o) := hh6_
        have te6_ : T 0 xx6_ = 2 := hh6_.2.trans (we_180 hT t_o)
        have tg_ := te6_
        refine k_cast2 E hK hw cl_X9_84 te6_ 26 rfl dX9_countWordings_23 ?_
        refine j_astore E 28 rfl [(4, .ref xx6_), (0, .ref o), (1, .int (J v_l)), (2, .int (J l2_4)), (3, .int (J l3_4))] dX9_countWordings_26 hl (by decide) rfl (fun ls hl => ?_)
        refine j_aload E 30 rfl dX9_countWordings_28 (lv_at hl 0 rfl) ?_
        refine kV_i E (c_X1_lives l D cy T (v_0) xx6_  te6_  ) mt_X1_lives ml_X9_127 hK hw (cw_rc2 hK hw.1 te6_) hA ⟨Nat.le_of_ble_eq_true rfl, Nat.le_of_ble_eq_true rfl⟩ ⟨Nat.le_of_ble_eq_true rfl, Nat.le_of_ble_eq_true rfl⟩ (As := []) (rest := []) rfl rfl hl.1 (Nat.le_of_ble_eq_true rfl) 33 rfl dX9_countWordings_30 (fun zz7_ v_7 H locs rr7_ hq7_ hw => ?_)
        obtain ⟨ev7_, hh7_⟩ := hq7_
        rw [ev7_] at hw; clear ev7_
        replace hh7_ : (zz7_ = 1 ∧ ((v_0 43) xx6_) = -1) ∨ (zz7_ = 0 ∧ ¬ ((v_0 43) xx6_) = -1) := hh7_
        refine j_if_eq E 36 56 rfl rr7_ dX9_countWordings_33 (by decide) (fun cc8_ => ?_) (fun cc8_ => ?_)
        · refine j_iinc E 59 rfl [(3, .int (J (l3_4 + 1))), (4, .ref xx6_), (0, .ref o), (1, .int (J v_l)), (2, .int (J l2_4))] dX9_countWordings_56 hl (kk := 4) rfl (by decide) rfl (fun ls hl => ?_)
          refine j_goto E 4 dX9_countWordings_59 (by decide) ?_
          exact ih4 l2_4 (l3_4 + 1)  H locs ls r_l2_4 (rr (by omega)) (by omega) (by omega) hw (lv_sub hl [2, 3, 4, 0] rfl)
        · refine j_aload E 38 rfl dX9_countWordings_36 (lv_at hl 0 rfl) ?_
          refine j_iload_n E 39 rfl dX9_countWordings_38 rfl (lv_at hl 2 rfl) ?_
          refine kV_i E (c_X1_knows l D cy T (v_0) xx6_ v_l  te6_ r_v_l ) mt_X1_knows ml_X9_179 hK hw (cw_rc2 hK hw.1 te6_) hA ⟨Nat.le_of_ble_eq_true rfl, Nat.le_of_ble_eq_true rfl⟩ ⟨Nat.le_of_ble_eq_true rfl, Nat.le_of_ble_eq_true rfl⟩ (As := [.int (J v_l)]) (rest := []) rfl rfl hl.1 (Nat.le_of_ble_eq_true rfl) 42 rfl dX9_countWordings_39 (fun zz9_ v_9 H locs rr9_ hq9_ hw => ?_)
          obtain ⟨ev9_, hh9_⟩ := hq9_
          rw [ev9_] at hw; clear ev9_
          refine j_if_eq E 45 56 rfl rr9_ dX9_countWordings_42 (by decide) (fun cc10_ => ?_) (fun cc10_ => ?_)
          · refine j_iinc E 59 rfl [(3, .int (J (l3_4 + 1))), (4, .ref xx6_), (0, .ref o), (1, .int (J v_l)), (2, .int (J l2_4))] dX9_countWordings_56 hl (kk := 4) rfl (by decide) rfl (fun ls hl => ?_)
            refine j_goto E 4 dX9_countWordings_59 (by decide) ?_
            exact ih4 l2_4 (l3_4 + 1)  H locs ls r_l2_4 (rr (by omega)) (by omega) (by omega) hw (lv_sub hl [2, 3, 4, 0] rfl)
          · refine j_iload_n E 46 rfl dX9_countWordings_45 rfl (lv_at hl 3 rfl) ?_
            refine j_iconst E 47 rfl dX9_countWordings_46 ?_
            refine j_aload E 49 rfl dX9_countWordings_47 (lv_at hl 0 rfl) ?_
            refine j_iload_n E 50 rfl dX9_countWordings_49 rfl (lv_at hl 2 rfl) ?_
            refine kV_i E (c_X1_wordingOf l D cy T (v_0) xx6_ v_l  te6_ r_v_l ) mt_X1_wordingOf ml_X9_185 hK hw (cw_rc2 hK hw.1 te6_) hA ⟨Nat.le_of_ble_eq_true rfl, Nat.le_of_ble_eq_true rfl⟩ ⟨Nat.le_of_ble_eq_true rfl, Nat.le_of_ble_eq_true rfl⟩ (As := [.int (J v_l)]) (rest := [.int (J 1), .int (J l2_4)]) rfl rfl hl.1 (Nat.le_of_ble_eq_true rfl) 53 rfl dX9_countWordings_50 (fun zz11_ v_11 H locs rr11_ hq11_ hw => ?_)
            obtain ⟨ev11_, hh11_⟩ := hq11_
            rw [ev11_] at hw; clear ev11_
            refine j_ishl E 54 rfl dX9_countWordings_53 (fun zz12_ rr12_ ee12_ => ?_)
            refine j_ior E 55 rfl dX9_countWordings_54 (fun zz13_ rr13_ ee13_ => ?_)
            refine j_istore_n E 56 rfl [(2, .int (J zz13_)), (4, .ref xx6_), (0, .ref o), (1, .int (J v_l)), (3, .int (J l3_4))] dX9_countWordings_55 rfl hl (by decide) rfl (fun ls hl => ?_)
            refine j_iinc E 59 rfl [(3, .int (J (l3_4 + 1))), (2, .int (J zz13_)), (4, .ref xx6_), (0, .ref o), (1, .int (J v_l))] dX9_countWordings_56 hl (kk := 4) rfl (by decide) rfl (fun ls hl => ?_)
            refine j_goto E 4 dX9_countWordings_59 (by decide) ?_
            exact ih4 zz13_ (l3_4 + 1)  H locs ls rr13_ (rr (by omega)) (by omega) (by omega) hw (lv_sub hl [3, 4, 1, 0] rfl)
  exact L4_1 _ 0 0  H locs ls (rr (by decide)) (rr (by decide)) (by omega) (Nat.lt_succ_self _) hw (lv_sub hl [2, 3, 1, 0] rfl)
set_option maxHeartbeats 4000000 in
set_option maxRecDepth 100000 in
theorem c_X9_countDead (l : Launch) (D : va_G) (cy : Nat → ClassId) (T : Nat → Nat → Nat) (v_0 : Nat → Nat → Int) (o : Nat) (t_o : T 0 o = 9) : KC l D cy T yX9_countDead cX9_countDead 3 (some .int) 4 [.ref o] v_0 (KI (fun (z_0 : Int) (v_2 : Nat → Nat → Int) => v_2 = v_0 ∧ (True))) := by
  refine KC.ofi (by decide) (Nat.le_of_ble_eq_true rfl) ?_
  intro p e s m below meth c ls ar QW A0 H0 H locs E hK hA hw hl hret
  have hl : lv_has ls 3 [(0, .ref o)] := hl
  have hT : WT T := hw.1.2.1
  refine j_iconst E 1 rfl dX9_countDead_0 ?_
  refine j_istore_n E 2 rfl [(1, .int (J 0)), (0, .ref o)] dX9_countDead_1 rfl hl (by decide) rfl (fun ls hl => ?_)
  refine j_iconst E 3 rfl dX9_countDead_2 ?_
  refine j_istore_n E 4 rfl [(2, .int (J 0)), (1, .int (J 0)), (0, .ref o)] dX9_countDead_3 rfl hl (by decide) rfl (fun ls hl => ?_)
  have L4_1 : ∀ (k4 : Nat) (l1_4 l2_4 : Int) (H : Heap) (locs : List Loc) (ls : Array Slot), inR l1_4 → inR l2_4 → (0 ≤ l2_4) → ((v_0 202 (T 181 o)) - l2_4).toNat < k4 → WK D cy T (v_0) A0 H0 H locs → lv_has ls 3 [(0, .ref o), (1, .int (J l1_4)), (2, .int (J l2_4))] → W p l e (rmd 4 0 0) s m ar below meth c H locs 0 0 QW (F0 m 4 ls []) := by
    intro k4
    induction k4 with
    | zero =>
      intro l1_4 l2_4 H locs ls r_l1_4 r_l2_4 iv4 ms4 hw hl
      exact absurd ms4 (Nat.not_lt_zero _)
    | succ k4 ih4 =>
      intro l1_4 l2_4 H locs ls r_l1_4 r_l2_4 iv4 ms4 hw hl
      refine j_iload_n E 5 rfl dX9_countDead_4 rfl (lv_at hl 2 rfl) ?_
      refine j_aload_n E 6 rfl dX9_countDead_5 rfl (lv_at hl 0 rfl) ?_
      refine g_181 E hK hw fl_X9_16 t_o 9 rfl dX9_countDead_6 ?_
      refine kV_i E (c_Jx4a65c_size_8abf5 l D cy T (v_0) (T 181 o)  (wt_181 hT t_o)  ) mt_Jx4a65c_size_8abf5 ml_X9_80 hK hw (cw_rc10 hK hw.1 (wt_181 hT t_o)) hA ⟨Nat.le_of_ble_eq_true rfl, Nat.le_of_ble_eq_true rfl⟩ ⟨Nat.le_of_ble_eq_true rfl, Nat.le_of_ble_eq_true rfl⟩ (As := []) (rest := [.int (J l2_4)]) rfl rfl hl.1 (Nat.le_of_ble_eq_true rfl) 12 rfl dX9_countDead_9 (fun zz3_ v_3 H locs rr3_ hq3_ hw => ?_)
      obtain ⟨ev3_, hh3_⟩ := hq3_
      rw [ev3_] at hw; clear ev3_
      replace hh3_ : zz3_ = ((v_0 202) ((T 181 o))) ∧ 0 ≤ zz3_ := hh3_
      refine j_icmp_ge E 15 46 rfl r_l2_4 rr3_ dX9_countDead_12 (by decide) (fun cc4_ => ?_) (fun cc4_ => ?_)
      · refine j_iload_n E 47 rfl dX9_countDead_46 rfl (lv_at hl 1 rfl) ?_
        exact hret 47 l1_4 (v_0) _ _ ls hw r_l1_4 ⟨rfl, trivial⟩ dX9_countDead_47
      · refine j_iload_n E 16 rfl dX9_countDead_15 rfl (lv_at hl 1 rfl) ?_
        refine j_aload_n E 17 rfl dX9_countDead_16 rfl (lv_at hl 0 rfl) ?_
        refine g_181 E hK hw fl_X9_16 t_o 20 rfl dX9_countDead_17 ?_
        refine j_iload_n E 21 rfl dX9_countDead_20 rfl (lv_at hl 2 rfl) ?_
        refine kV_n E (c_Jx4a65c_get_915e3 l D cy T (v_0) (T 181 o) l2_4  (wt_181 hT t_o) r_l2_4 (show 0 ≤ l2_4 ∧ l2_4 < ((v_0 202) ((T 181 o))) from by omega)) mt_Jx4a65c_get_915e3 ml_X9_123 hK hw (cw_rc10 hK hw.1 (wt_181 hT t_o)) hA ⟨Nat.le_of_ble_eq_true rfl, Nat.le_of_ble_eq_true rfl⟩ ⟨Nat.le_of_ble_eq_true rfl, Nat.le_of_ble_eq_true rfl⟩ (As := [.int (J l2_4)]) (rest := [.int (J l1_4)]) rfl rfl hl.1 (Nat.le_of_ble_eq_true rfl) 24 rfl dX9_countDead_21 (fun xx5_ v_5 H locs hq5_ hw => ?_)
        obtain ⟨ev5_, hh5_⟩ := hq5_
        rw [ev5_] at hw; clear ev5_
        replace hh5_ : dcd (T (1000 + (l2_4).toNat) (T 201 (T 181 o))) = some xx5_ ∧ T 0 xx5_ = T 2 (T 181 o) := hh5_
        have te5_ : T 0 xx5_ = 1 := hh5_.2.trans (we_181 hT t_o)
        have tg_ := te5_
        refine k_cast1 E hK hw cl_X9_167 te5_ 27 rfl dX9_countDead_24 ?_
        refine kV_i E (c_X0_isDead l D cy T (v_0) xx5_  te5_  ) mt_X0_isDead ml_X9_223 hK hw (cw_rc1 hK hw.1 te5_) hA ⟨Nat.le_of_ble_eq_true rfl, Nat.le_of_ble_eq_true rfl⟩ ⟨Nat.le_of_ble_eq_true rfl, Nat.le_of_ble_eq_true rfl⟩ (As := []) (rest := [.int (J l1_4)]) rfl rfl hl.1 (Nat.le_of_ble_eq_true rfl) 30 rfl dX9_countDead_27 (fun zz6_ v_6 H locs rr6_ hq6_ hw => ?_)
        obtain ⟨ev6_, hh6_⟩ := hq6_
        rw [ev6_] at hw; clear ev6_
        replace hh6_ : (zz6_ = 1 ∧ ¬ ((v_0 23) xx5_) = -1) ∨ (zz6_ = 0 ∧ ((v_0 23) xx5_) = -1) := hh6_
        refine j_if_eq E 33 37 rfl rr6_ dX9_countDead_30 (by decide) (fun cc7_ => ?_) (fun cc7_ => ?_)
        · refine j_iconst E 38 rfl dX9_countDead_37 ?_
          refine j_iadd E 39 rfl dX9_countDead_38 ?_
          refine j_norm (fun zz8_ rr8_ ee8_ => ?_)
          refine j_istore_n E 40 rfl [(1, .int (J zz8_)), (0, .ref o), (2, .int (J l2_4))] dX9_countDead_39 rfl hl (by decide) rfl (fun ls hl => ?_)
          refine j_iinc E 43 rfl [(2, .int (J (l2_4 + 1))), (1, .int (J zz8_)), (0, .ref o)] dX9_countDead_40 hl (kk := 2) rfl (by decide) rfl (fun ls hl => ?_)
          refine j_goto E 4 dX9_countDead_43 (by decide) ?_
          exact ih4 zz8_ (l2_4 + 1)  H locs ls rr8_ (rr (by omega)) (by omega) (by omega) hw (lv_sub hl [2, 1, 0] rfl)
        · refine j_iconst E 34 rfl dX9_countDead_33 ?_
          refine j_goto E 38 dX9_countDead_34 (by decide) ?_
          refine j_iadd E 39 rfl dX9_countDead_38 ?_
          refine j_norm (fun zz9_ rr9_ ee9_ => ?_)
          refine j_istore_n E 40 rfl [(1, .int (J zz9_)), (0, .ref o), (2, .int (J l2_4))] dX9_countDead_39 rfl hl (by decide) rfl (fun ls hl => ?_)
          refine j_iinc E 43 rfl [(2, .int (J (l2_4 + 1))), (1, .int (J zz9_)), (0, .ref o)] dX9_countDead_40 hl (kk := 2) rfl (by decide) rfl (fun ls hl => ?_)
          refine j_goto E 4 dX9_countDead_43 (by decide) ?_
          exact ih4 zz9_ (l2_4 + 1)  H locs ls rr9_ (rr (by omega)) (by omega) (by omega) hw (lv_sub hl [2, 1, 0] rfl)
  exact L4_1 _ 0 0  H locs ls (rr (by decide)) (rr (by decide)) (by omega) (Nat.lt_succ_self _) hw (lv_sub hl [2, 1, 0] rfl)
set_option maxHeartbeats 4000000 in
set_option maxRecDepth 100000 in
theorem c_X9_lineOf (l : Launch) (D : va_G) (cy : Nat → ClassId) (T : Nat → Nat → Nat) (v_0 : Nat → Nat → Int) (o : Nat) (v_l : Int) (v_w : Int) (t_o : T 0 o = 9) (r_v_l : inR v_l) (r_v_w : inR v_w) : KC l D cy T yX9_lineOf cX9_lineOf 4 (some .int) 5 [.ref o, .int (J v_l), .int (J v_w)] v_0 (KI (fun (z_0 : Int) (v_2 : Nat → Nat → Int) => v_2 = v_0 ∧ (True))) := by
  refine KC.ofi (by decide) (Nat.le_of_ble_eq_true rfl) ?_
  intro p e s m below meth c ls ar QW A0 H0 H locs E hK hA hw hl hret
  have hl : lv_has ls 4 [(0, .ref o), (1, .int (J v_l)), (2, .int (J v_w))] := hl
  have hT : WT T := hw.1.2.1
  refine j_aload_n E 1 rfl dX9_lineOf_0 rfl (lv_at hl 0 rfl) ?_
  refine j_iload_n E 2 rfl dX9_lineOf_1 rfl (lv_at hl 1 rfl) ?_
  refine kV_r E (c_X9_lineAt l D cy T (v_0) o v_l  t_o r_v_l ) mt_X9_lineAt ml_X9_195 hK hw (cw_rc9 hK hw.1 t_o) hA ⟨Nat.le_of_ble_eq_true rfl, Nat.le_of_ble_eq_true rfl⟩ ⟨Nat.le_of_ble_eq_true rfl, Nat.le_of_ble_eq_true rfl⟩ (As := [.int (J v_l)]) (rest := []) rfl rfl hl.1 (Nat.le_of_ble_eq_true rfl) 5 rfl dX9_lineOf_2 (fun oo1_ v_1 H locs hq1_ hw => ?_)
  obtain ⟨ev1_, hh1_⟩ := hq1_
  rw [ev1_] at hw; clear ev1_
  obtain ⟨tt1_, hh1_⟩ := hh1_
  replace hh1_ : (oo1_ = none → (v_l < 0 ∨ ((v_0 202) (T 181 o)) ≤ v_l)) ∧ (∀ y_, oo1_ = some y_ → 0 ≤ v_l ∧ v_l < ((v_0 202) (T 181 o)) ∧ T (1000 + (v_l).toNat) (T 201 (T 181 o)) = y_ + 1) := hh1_
  cases oo1_ with
  | none =>
    refine j_astore_nN E 6 rfl [(3, .null), (0, .ref o), (1, .int (J v_l)), (2, .int (J v_w))] dX9_lineOf_5 rfl hl (by decide) rfl (fun ls hl => ?_)
    refine j_aload_nN E 7 rfl dX9_lineOf_6 rfl (lv_at hl 0 rfl) ?_
    refine j_ifnonnullN E 10 rfl dX9_lineOf_7 ?_
    refine j_iconst E 11 rfl dX9_lineOf_10 ?_
    exact hret 11 ((-1)) (v_0) _ _ ls hw (rr (by decide)) ⟨rfl, trivial⟩ dX9_lineOf_11
  | some xx1_ =>
    have te1_ := tt1_ xx1_ rfl
    have tr_ := te1_
    refine j_astore_n E 6 rfl [(3, .ref xx1_), (0, .ref o), (1, .int (J v_l)), (2, .int (J v_w))] dX9_lineOf_5 rfl hl (by decide) rfl (fun ls hl => ?_)
    refine j_aload_n E 7 rfl dX9_lineOf_6 rfl (lv_at hl 0 rfl) ?_
    refine j_ifnonnullR E 12 dX9_lineOf_7 (by decide) ?_
    refine j_iload_n E 13 rfl dX9_lineOf_12 rfl (lv_at hl 3 rfl) ?_
    by_cases tb2_0 : v_w = 0
    · refine j_tabIn E 56 r_v_w 0 dX9_lineOf_13 (by omega) rfl (by decide) ?_
      refine j_aload_n E 57 rfl dX9_lineOf_56 rfl (lv_at hl 0 rfl) ?_
      refine g_20 E hK hw fl_X9_199 te1_ (v_0 20 xx1_) rfl 60 rfl dX9_lineOf_57 (fun rr3_ => ?_)
      exact hret 60 (v_0 20 xx1_) (v_0) _ _ ls hw rr3_ ⟨rfl, trivial⟩ dX9_lineOf_60
    by_cases tb2_1 : v_w = 1
    · refine j_tabIn E 61 r_v_w 1 dX9_lineOf_13 (by omega) rfl (by decide) ?_
      refine j_aload_n E 62 rfl dX9_lineOf_61 rfl (lv_at hl 0 rfl) ?_
      refine g_21 E hK hw fl_X9_202 te1_ (v_0 21 xx1_) rfl 65 rfl dX9_lineOf_62 (fun rr4_ => ?_)
      refine j_if_eq E 68 72 rfl rr4_ dX9_lineOf_65 (by decide) (fun cc5_ => ?_) (fun cc5_ => ?_)
      · refine j_iconst E 73 rfl dX9_lineOf_72 ?_
        exact hret 73 0 (v_0) _ _ ls hw (rr (by decide)) ⟨rfl, trivial⟩ dX9_lineOf_73
      · refine j_iconst E 69 rfl dX9_lineOf_68 ?_
        refine j_goto E 73 dX9_lineOf_69 (by decide) ?_
        exact hret 73 1 (v_0) _ _ ls hw (rr (by decide)) ⟨rfl, trivial⟩ dX9_lineOf_73
    by_cases tb2_2 : v_w = 2
    · refine j_tabIn E 74 r_v_w 2 dX9_lineOf_13 (by omega) rfl (by decide) ?_
      refine j_aload_n E 75 rfl dX9_lineOf_74 rfl (lv_at hl 0 rfl) ?_
      refine g_22 E hK hw fl_X9_205 te1_ (v_0 22 xx1_) rfl 78 rfl dX9_lineOf_75 (fun rr6_ => ?_)
      exact hret 78 (v_0 22 xx1_) (v_0) _ _ ls hw rr6_ ⟨rfl, trivial⟩ dX9_lineOf_78
    by_cases tb2_3 : v_w = 3
    · refine j_tabIn E 79 r_v_w 3 dX9_lineOf_13 (by omega) rfl (by decide) ?_
      refine j_aload_n E 80 rfl dX9_lineOf_79 rfl (lv_at hl 0 rfl) ?_
      refine g_23 E hK hw fl_X9_208 te1_ (v_0 23 xx1_) rfl 83 rfl dX9_lineOf_80 (fun rr7_ => ?_)
      exact hret 83 (v_0 23 xx1_) (v_0) _ _ ls hw rr7_ ⟨rfl, trivial⟩ dX9_lineOf_83
    by_cases tb2_4 : v_w = 4
    · refine j_tabIn E 84 r_v_w 4 dX9_lineOf_13 (by omega) rfl (by decide) ?_
      refine j_aload_n E 85 rfl dX9_lineOf_84 rfl (lv_at hl 1 rfl) ?_
      refine j_iload_n E 86 rfl dX9_lineOf_85 rfl (lv_at hl 2 rfl) ?_
      refine kV_i E (c_X9_countHolders l D cy T (v_0) o v_l  t_o r_v_l ) mt_X9_countHolders ml_X9_209 hK hw (cw_rc9 hK hw.1 t_o) hA ⟨Nat.le_of_ble_eq_true rfl, Nat.le_of_ble_eq_true rfl⟩ ⟨Nat.le_of_ble_eq_true rfl, Nat.le_of_ble_eq_true rfl⟩ (As := [.int (J v_l)]) (rest := []) rfl rfl hl.1 (Nat.le_of_ble_eq_true rfl) 89 rfl dX9_lineOf_86 (fun zz8_ v_8 H locs rr8_ hq8_ hw => ?_)
      obtain ⟨ev8_, hh8_⟩ := hq8_
      rw [ev8_] at hw; clear ev8_
      exact hret 89 zz8_ (v_0) _ _ ls hw rr8_ ⟨rfl, trivial⟩ dX9_lineOf_89
    by_cases tb2_5 : v_w = 5
    · refine j_tabIn E 90 r_v_w 5 dX9_lineOf_13 (by omega) rfl (by decide) ?_
      refine j_aload_n E 91 rfl dX9_lineOf_90 rfl (lv_at hl 1 rfl) ?_
      refine j_iload_n E 92 rfl dX9_lineOf_91 rfl (lv_at hl 2 rfl) ?_
      refine kV_i E (c_X9_countWordings l D cy T (v_0) o v_l  t_o r_v_l ) mt_X9_countWordings ml_X9_212 hK hw (cw_rc9 hK hw.1 t_o) hA ⟨Nat.le_of_ble_eq_true rfl, Nat.le_of_ble_eq_true rfl⟩ ⟨Nat.le_of_ble_eq_true rfl, Nat.le_of_ble_eq_true rfl⟩ (As := [.int (J v_l)]) (rest := []) rfl rfl hl.1 (Nat.le_of_ble_eq_true rfl) 95 rfl dX9_lineOf_92 (fun zz9_ v_9 H locs rr9_ hq9_ hw => ?_)
      obtain ⟨ev9_, hh9_⟩ := hq9_
      rw [ev9_] at hw; clear ev9_
      exact hret 95 zz9_ (v_0) _ _ ls hw rr9_ ⟨rfl, trivial⟩ dX9_lineOf_95
    by_cases tb2_6 : v_w = 6
    · refine j_tabIn E 96 r_v_w 6 dX9_lineOf_13 (by omega) rfl (by decide) ?_
      refine j_aload_n E 97 rfl dX9_lineOf_96 rfl (lv_at hl 0 rfl) ?_
      refine g_24 E hK hw fl_X9_215 te1_ (v_0 24 xx1_) rfl 100 rfl dX9_lineOf_97 (fun rr10_ => ?_)
      exact hret 100 (v_0 24 xx1_) (v_0) _ _ ls hw rr10_ ⟨rfl, trivial⟩ dX9_lineOf_100
    refine j_tabOut E 101 r_v_w dX9_lineOf_13 (by omega) (by decide) ?_
    refine j_iconst E 102 rfl dX9_lineOf_101 ?_
    exact hret 102 ((-1)) (v_0) _ _ ls hw (rr (by decide)) ⟨rfl, trivial⟩ dX9_lineOf_102
