theorem aw_step {g : Nat → Int} {A : Nat → Nat} {p : Int} {y : Nat} (h : ∀ i : Nat, (i : Int) < p → ∀ z : Nat, A i = z + 1 → g z = 0) (hy : A p.toNat = y + 1) (hp : 0 ≤ p) : ∀ i : Nat, (i : Int) < p + 1 → ∀ z : Nat, A i = z + 1 → upB g y 0 z = 0 := by
  intro i hi z hz
  by_cases e : z = y
  · subst e; exact upB_same _ _ _
  · rw [upB_ne e]
    by_cases e2 : (i : Int) = p
    · exfalso
      have e3 : p.toNat = i := by omega
      rw [e3] at hy
      omega
    · exact h i (by omega) z hz
set_option maxHeartbeats 4000000 in
set_option maxRecDepth 100000 in
theorem c_Jx4a65c_elementData_915e3_n2 (l : Launch) (D : va_G) (cy : Nat → ClassId) (T : Nat → Nat → Nat) (v_0 : Nat → Nat → Int) (o : Nat) (v_i : Int) (t_o : T 0 o = 10) (r_v_i : inR v_i) (hp0 : 0 ≤ v_i ∧ v_i < (v_0 202 o)) : KC l D cy T yJx4a65c_elementData_915e3 cJx4a65c_elementData_915e3 2 (some (.object "java/lang/Object")) 1 [.ref o, .int (J v_i)] v_0 (KN (fun (x_0 : Nat) (v_2 : Nat → Nat → Int) => v_2 = v_0 ∧ (dcd (T (1000 + (v_i).toNat) (T 201 o)) = some x_0 ∧ T 0 x_0 = T 2 o))) := by
  refine KC.ofn (Or.inl ⟨_, rfl⟩) (by decide) (Nat.le_of_ble_eq_true rfl) ?_
  intro p e s m below meth c ls ar QW A0 H0 H locs E hK hA hw hl hret
  have hl : lv_has ls 2 [(0, .ref o), (1, .int (J v_i))] := hl
  have hT : WT T := hw.1.2.1
  have hs_ := hw.1.2.2.1 o t_o
  have h2_ := hs_.2.1
  obtain ⟨x_, hx_, tx_⟩ := hs_.2.2 v_i.toNat (by omega)
  refine j_aload_n E 1 rfl dJx4a65c_elementData_915e3_0 rfl (lv_at hl 0 rfl) ?_
  refine g_201 E hK hw fl_Jx4a65c_9 t_o 4 rfl dJx4a65c_elementData_915e3_1 ?_
  refine j_iload_n E 5 rfl dJx4a65c_elementData_915e3_4 rfl (lv_at hl 1 rfl) ?_
  refine a_ldq E hK hw (wt10 hT t_o).1 (by omega) hx_ 6 rfl dJx4a65c_elementData_915e3_5 ?_
  exact hret 6 x_ (v_0) _ _ ls hw ⟨rfl, ⟨hx_, tx_⟩⟩ dJx4a65c_elementData_915e3_6
set_option maxHeartbeats 4000000 in
set_option maxRecDepth 100000 in
theorem c_Jx4a65c_get_915e3_n2 (l : Launch) (D : va_G) (cy : Nat → ClassId) (T : Nat → Nat → Nat) (v_0 : Nat → Nat → Int) (o : Nat) (v_i : Int) (t_o : T 0 o = 10) (r_v_i : inR v_i) (hp0 : 0 ≤ v_i ∧ v_i < (v_0 202 o)) : KC l D cy T yJx4a65c_get_915e3 cJx4a65c_get_915e3 2 (some (.object "java/lang/Object")) 3 [.ref o, .int (J v_i)] v_0 (KN (fun (x_0 : Nat) (v_2 : Nat → Nat → Int) => v_2 = v_0 ∧ (dcd (T (1000 + (v_i).toNat) (T 201 o)) = some x_0 ∧ T 0 x_0 = T 2 o))) := by
  refine KC.ofn (Or.inl ⟨_, rfl⟩) (by decide) (Nat.le_of_ble_eq_true rfl) ?_
  intro p e s m below meth c ls ar QW A0 H0 H locs E hK hA hw hl hret
  have hl : lv_has ls 2 [(0, .ref o), (1, .int (J v_i))] := hl
  have hT : WT T := hw.1.2.1
  refine j_iload_n E 1 rfl dJx4a65c_get_915e3_0 rfl (lv_at hl 1 rfl) ?_
  refine j_aload_n E 2 rfl dJx4a65c_get_915e3_1 rfl (lv_at hl 0 rfl) ?_
  refine g_202 E hK hw fl_Jx4a65c_48 t_o (v_0 202 o) rfl 5 rfl dJx4a65c_get_915e3_2 (fun rr1_ => ?_)
  refine kS_i E (c_J15_checkIndex_7cf53 l D cy T (v_0) v_i (v_0 202 o)   r_v_i rr1_ (show 0 ≤ v_i ∧ v_i < (v_0 202 o) from by omega)) ms_J15_checkIndex_7cf53 ml_Jx4a65c_118 hK hw hA ⟨Nat.le_of_ble_eq_true rfl, Nat.le_of_ble_eq_true rfl⟩ ⟨Nat.le_of_ble_eq_true rfl, Nat.le_of_ble_eq_true rfl⟩ (As := [.int (J v_i), .int (J (v_0 202 o))]) (rest := []) rfl rfl hl.1 (Nat.le_of_ble_eq_true rfl) 8 rfl dJx4a65c_get_915e3_5 (fun zz2_ v_2 H locs rr2_ hq2_ hw => ?_)
  obtain ⟨ev2_, hh2_⟩ := hq2_
  rw [ev2_] at hw; clear ev2_
  have hh2_ : zz2_ = v_i := hh2_
  refine j_pop E 9 rfl dJx4a65c_get_915e3_8 rfl ?_
  refine j_aload_n E 10 rfl dJx4a65c_get_915e3_9 rfl (lv_at hl 0 rfl) ?_
  refine j_iload_n E 11 rfl dJx4a65c_get_915e3_10 rfl (lv_at hl 1 rfl) ?_
  refine kV_n E (c_Jx4a65c_elementData_915e3_n2 l D cy T (v_0) o v_i  t_o r_v_i (show 0 ≤ v_i ∧ v_i < ((v_0 202) o) from by omega)) mt_Jx4a65c_elementData_915e3 ml_Jx4a65c_123 hK hw (cw_rc10 hK hw.1 t_o) hA ⟨Nat.le_of_ble_eq_true rfl, Nat.le_of_ble_eq_true rfl⟩ ⟨Nat.le_of_ble_eq_true rfl, Nat.le_of_ble_eq_true rfl⟩ (As := [.int (J v_i)]) (rest := []) rfl rfl hl.1 (Nat.le_of_ble_eq_true rfl) 14 rfl dJx4a65c_get_915e3_11 (fun xx3_ v_3 H locs hq3_ hw => ?_)
  obtain ⟨ev3_, hh3_⟩ := hq3_
  rw [ev3_] at hw; clear ev3_
  have hh3_ : dcd (T (1000 + (v_i).toNat) (T 201 o)) = some xx3_ ∧ T 0 xx3_ = T 2 o := hh3_
  exact hret 14 xx3_ (v_0) _ _ ls hw ⟨rfl, hh3_⟩ dJx4a65c_get_915e3_14
set_option maxHeartbeats 4000000 in
set_option maxRecDepth 100000 in
theorem c_X1_lives_n2 (l : Launch) (D : va_G) (cy : Nat → ClassId) (T : Nat → Nat → Nat) (v_0 : Nat → Nat → Int) (o : Nat) (t_o : T 0 o = 2) : KC l D cy T yX1_lives cX1_lives 1 (some .boolean) 1 [.ref o] v_0 (KI (fun (z_0 : Int) (v_2 : Nat → Nat → Int) => v_2 = v_0 ∧ ((z_0 = 1 ∧ (v_0 43 o) = -1) ∨ (z_0 = 0 ∧ ¬ (v_0 43 o) = -1)))) := by
  refine KC.ofz (by decide) (Nat.le_of_ble_eq_true rfl) ?_
  intro p e s m below meth c ls ar QW A0 H0 H locs E hK hA hw hl hret
  have hl : lv_has ls 1 [(0, .ref o)] := hl
  have hT : WT T := hw.1.2.1
  refine j_aload_n E 1 rfl dX1_lives_0 rfl (lv_at hl 0 rfl) ?_
  refine g_43 E hK hw fl_X1_9 t_o (v_0 43 o) rfl 4 rfl dX1_lives_1 (fun rr1_ => ?_)
  refine j_iconst E 5 rfl dX1_lives_4 ?_
  refine j_icmp_ne E 8 12 rfl rr1_ (rr (by decide)) dX1_lives_5 (by decide) (fun cc2_ => ?_) (fun cc2_ => ?_)
  · refine j_iconst E 13 rfl dX1_lives_12 ?_
    exact hret 13 0 (v_0) _ _ ls hw (Or.inl rfl) ⟨rfl, by omega⟩ dX1_lives_13
  · refine j_iconst E 9 rfl dX1_lives_8 ?_
    refine j_goto E 13 dX1_lives_9 (by decide) ?_
    exact hret 13 1 (v_0) _ _ ls hw (Or.inr rfl) ⟨rfl, by omega⟩ dX1_lives_13
set_option maxHeartbeats 4000000 in
set_option maxRecDepth 100000 in
theorem c_X9_personAt_n2 (l : Launch) (D : va_G) (cy : Nat → ClassId) (T : Nat → Nat → Nat) (v_0 : Nat → Nat → Int) (o : Nat) (v_p : Int) (t_o : T 0 o = 9) (r_v_p : inR v_p) : KC l D cy T yX9_personAt cX9_personAt 2 (some (.object "LawRock$Person")) 4 [.ref o, .int (J v_p)] v_0 (KR (fun (o_0 : Option Nat) (v_2 : Nat → Nat → Int) => v_2 = v_0 ∧ ((∀ x, o_0 = some x → T 0 x = 2) ∧ ((o_0 = none → (v_p < 0 ∨ (v_0 202 (T 180 o)) ≤ v_p)) ∧ (∀ y_, o_0 = some y_ → 0 ≤ v_p ∧ v_p < (v_0 202 (T 180 o)) ∧ T (1000 + (v_p).toNat) (T 201 (T 180 o)) = y_ + 1))))) := by
  refine KC.ofr (Or.inl ⟨_, rfl⟩) (by decide) (Nat.le_of_ble_eq_true rfl) ?_
  intro p e s m below meth c ls ar QW A0 H0 H locs E hK hA hw hl hret
  have hl : lv_has ls 2 [(0, .ref o), (1, .int (J v_p))] := hl
  have hT : WT T := hw.1.2.1
  refine j_iload_n E 1 rfl dX9_personAt_0 rfl (lv_at hl 1 rfl) ?_
  refine j_if_lt E 4 29 rfl r_v_p dX9_personAt_1 (by decide) (fun cc1_ => ?_) (fun cc1_ => ?_)
  · refine j_null E 30 rfl dX9_personAt_29 ?_
    exact hret 30 none (v_0) _ _ ls hw ⟨rfl, (fun x h => by cases h), ⟨fun _ => (by omega), fun y_ h_ => (by cases h_)⟩⟩ dX9_personAt_30
  · refine j_iload_n E 5 rfl dX9_personAt_4 rfl (lv_at hl 1 rfl) ?_
    refine j_aload_n E 6 rfl dX9_personAt_5 rfl (lv_at hl 0 rfl) ?_
    refine g_180 E hK hw fl_X9_12 t_o 9 rfl dX9_personAt_6 ?_
    refine kV_i E (c_Jx4a65c_size_8abf5 l D cy T (v_0) (T 180 o)  (wt_180 hT t_o)  ) mt_Jx4a65c_size_8abf5 ml_X9_80 hK hw (cw_rc10 hK hw.1 (wt_180 hT t_o)) hA ⟨Nat.le_of_ble_eq_true rfl, Nat.le_of_ble_eq_true rfl⟩ ⟨Nat.le_of_ble_eq_true rfl, Nat.le_of_ble_eq_true rfl⟩ (As := []) (rest := [.int (J v_p)]) rfl rfl hl.1 (Nat.le_of_ble_eq_true rfl) 12 rfl dX9_personAt_9 (fun zz2_ v_2 H locs rr2_ hq2_ hw => ?_)
    obtain ⟨ev2_, hh2_⟩ := hq2_
    rw [ev2_] at hw; clear ev2_
    have hh2_ : zz2_ = ((v_0 202) ((T 180 o))) ∧ 0 ≤ zz2_ := hh2_
    refine j_icmp_ge E 15 29 rfl r_v_p rr2_ dX9_personAt_12 (by decide) (fun cc3_ => ?_) (fun cc3_ => ?_)
    · refine j_null E 30 rfl dX9_personAt_29 ?_
      exact hret 30 none (v_0) _ _ ls hw ⟨rfl, (fun x h => by cases h), ⟨fun _ => (by omega), fun y_ h_ => (by cases h_)⟩⟩ dX9_personAt_30
    · refine j_aload_n E 16 rfl dX9_personAt_15 rfl (lv_at hl 0 rfl) ?_
      refine g_180 E hK hw fl_X9_12 t_o 19 rfl dX9_personAt_16 ?_
      refine j_iload_n E 20 rfl dX9_personAt_19 rfl (lv_at hl 1 rfl) ?_
      refine kV_n E (c_Jx4a65c_get_915e3_n2 l D cy T (v_0) (T 180 o) v_p  (wt_180 hT t_o) r_v_p (show 0 ≤ v_p ∧ v_p < ((v_0 202) ((T 180 o))) from by omega)) mt_Jx4a65c_get_915e3 ml_X9_123 hK hw (cw_rc10 hK hw.1 (wt_180 hT t_o)) hA ⟨Nat.le_of_ble_eq_true rfl, Nat.le_of_ble_eq_true rfl⟩ ⟨Nat.le_of_ble_eq_true rfl, Nat.le_of_ble_eq_true rfl⟩ (As := [.int (J v_p)]) (rest := []) rfl rfl hl.1 (Nat.le_of_ble_eq_true rfl) 23 rfl dX9_personAt_20 (fun xx4_ v_4 H locs hq4_ hw => ?_)
      obtain ⟨ev4_, hh4_⟩ := hq4_
      rw [ev4_] at hw; clear ev4_
      have hh4_ : dcd (T (1000 + (v_p).toNat) (T 201 (T 180 o))) = some xx4_ ∧ T 0 xx4_ = T 2 (T 180 o) := hh4_
      have te4_ : T 0 xx4_ = 2 := hh4_.2.trans (we_180 hT t_o)
      have hg_ := hh4_.1
      refine k_cast2 E hK hw cl_X9_84 te4_ 26 rfl dX9_personAt_23 ?_
      refine j_goto E 30 dX9_personAt_26 (by decide) ?_
      exact hret 30 (some xx4_) (v_0) _ _ ls hw ⟨rfl, (fun x h => by cases h; exact te4_), ⟨fun h_ => (by cases h_), fun y_ h_ => by cases h_; exact ⟨by omega, by omega, dcd_e hg_⟩⟩⟩ dX9_personAt_30
set_option maxHeartbeats 4000000 in
set_option maxRecDepth 100000 in
theorem c_X9_suitAt_n2 (l : Launch) (D : va_G) (cy : Nat → ClassId) (T : Nat → Nat → Nat) (v_0 : Nat → Nat → Int) (o : Nat) (v_i : Int) (t_o : T 0 o = 9) (r_v_i : inR v_i) : KC l D cy T yX9_suitAt cX9_suitAt 2 (some (.object "LawRock$Suit")) 4 [.ref o, .int (J v_i)] v_0 (KR (fun (o_0 : Option Nat) (v_2 : Nat → Nat → Int) => v_2 = v_0 ∧ ((∀ x, o_0 = some x → T 0 x = 7) ∧ ((o_0 = none → (v_i < 0 ∨ (v_0 202 (T 183 o)) ≤ v_i)) ∧ (∀ y_, o_0 = some y_ → 0 ≤ v_i ∧ v_i < (v_0 202 (T 183 o)) ∧ T (1000 + (v_i).toNat) (T 201 (T 183 o)) = y_ + 1))))) := by
  refine KC.ofr (Or.inl ⟨_, rfl⟩) (by decide) (Nat.le_of_ble_eq_true rfl) ?_
  intro p e s m below meth c ls ar QW A0 H0 H locs E hK hA hw hl hret
  have hl : lv_has ls 2 [(0, .ref o), (1, .int (J v_i))] := hl
  have hT : WT T := hw.1.2.1
  refine j_iload_n E 1 rfl dX9_suitAt_0 rfl (lv_at hl 1 rfl) ?_
  refine j_if_lt E 4 29 rfl r_v_i dX9_suitAt_1 (by decide) (fun cc1_ => ?_) (fun cc1_ => ?_)
  · refine j_null E 30 rfl dX9_suitAt_29 ?_
    exact hret 30 none (v_0) _ _ ls hw ⟨rfl, (fun x h => by cases h), ⟨fun _ => (by omega), fun y_ h_ => (by cases h_)⟩⟩ dX9_suitAt_30
  · refine j_iload_n E 5 rfl dX9_suitAt_4 rfl (lv_at hl 1 rfl) ?_
    refine j_aload_n E 6 rfl dX9_suitAt_5 rfl (lv_at hl 0 rfl) ?_
    refine g_183 E hK hw fl_X9_22 t_o 9 rfl dX9_suitAt_6 ?_
    refine kV_i E (c_Jx4a65c_size_8abf5 l D cy T (v_0) (T 183 o)  (wt_183 hT t_o)  ) mt_Jx4a65c_size_8abf5 ml_X9_80 hK hw (cw_rc10 hK hw.1 (wt_183 hT t_o)) hA ⟨Nat.le_of_ble_eq_true rfl, Nat.le_of_ble_eq_true rfl⟩ ⟨Nat.le_of_ble_eq_true rfl, Nat.le_of_ble_eq_true rfl⟩ (As := []) (rest := [.int (J v_i)]) rfl rfl hl.1 (Nat.le_of_ble_eq_true rfl) 12 rfl dX9_suitAt_9 (fun zz2_ v_2 H locs rr2_ hq2_ hw => ?_)
    obtain ⟨ev2_, hh2_⟩ := hq2_
    rw [ev2_] at hw; clear ev2_
    have hh2_ : zz2_ = ((v_0 202) ((T 183 o))) ∧ 0 ≤ zz2_ := hh2_
    refine j_icmp_ge E 15 29 rfl r_v_i rr2_ dX9_suitAt_12 (by decide) (fun cc3_ => ?_) (fun cc3_ => ?_)
    · refine j_null E 30 rfl dX9_suitAt_29 ?_
      exact hret 30 none (v_0) _ _ ls hw ⟨rfl, (fun x h => by cases h), ⟨fun _ => (by omega), fun y_ h_ => (by cases h_)⟩⟩ dX9_suitAt_30
    · refine j_aload_n E 16 rfl dX9_suitAt_15 rfl (lv_at hl 0 rfl) ?_
      refine g_183 E hK hw fl_X9_22 t_o 19 rfl dX9_suitAt_16 ?_
      refine j_iload_n E 20 rfl dX9_suitAt_19 rfl (lv_at hl 1 rfl) ?_
      refine kV_n E (c_Jx4a65c_get_915e3_n2 l D cy T (v_0) (T 183 o) v_i  (wt_183 hT t_o) r_v_i (show 0 ≤ v_i ∧ v_i < ((v_0 202) ((T 183 o))) from by omega)) mt_Jx4a65c_get_915e3 ml_X9_123 hK hw (cw_rc10 hK hw.1 (wt_183 hT t_o)) hA ⟨Nat.le_of_ble_eq_true rfl, Nat.le_of_ble_eq_true rfl⟩ ⟨Nat.le_of_ble_eq_true rfl, Nat.le_of_ble_eq_true rfl⟩ (As := [.int (J v_i)]) (rest := []) rfl rfl hl.1 (Nat.le_of_ble_eq_true rfl) 23 rfl dX9_suitAt_20 (fun xx4_ v_4 H locs hq4_ hw => ?_)
      obtain ⟨ev4_, hh4_⟩ := hq4_
      rw [ev4_] at hw; clear ev4_
      have hh4_ : dcd (T (1000 + (v_i).toNat) (T 201 (T 183 o))) = some xx4_ ∧ T 0 xx4_ = T 2 (T 183 o) := hh4_
      have te4_ : T 0 xx4_ = 7 := hh4_.2.trans (we_183 hT t_o)
      have hg_ := hh4_.1
      refine k_cast7 E hK hw cl_X9_131 te4_ 26 rfl dX9_suitAt_23 ?_
      refine j_goto E 30 dX9_suitAt_26 (by decide) ?_
      exact hret 30 (some xx4_) (v_0) _ _ ls hw ⟨rfl, (fun x h => by cases h; exact te4_), ⟨fun h_ => (by cases h_), fun y_ h_ => by cases h_; exact ⟨by omega, by omega, dcd_e hg_⟩⟩⟩ dX9_suitAt_30
set_option maxHeartbeats 4000000 in
set_option maxRecDepth 100000 in
theorem c_X9_livingAt_n2 (l : Launch) (D : va_G) (cy : Nat → ClassId) (T : Nat → Nat → Nat) (v_0 : Nat → Nat → Int) (o : Nat) (v_p : Int) (t_o : T 0 o = 9) (r_v_p : inR v_p) : KC l D cy T yX9_livingAt cX9_livingAt 3 (some (.object "LawRock$Person")) 5 [.ref o, .int (J v_p)] v_0 (KR (fun (o_0 : Option Nat) (v_2 : Nat → Nat → Int) => v_2 = v_0 ∧ ((∀ x, o_0 = some x → T 0 x = 2) ∧ ((o_0 = none → ((v_p < 0 ∨ (v_0 202 (T 180 o)) ≤ v_p) ∨ ∃ y_, T (1000 + (v_p).toNat) (T 201 (T 180 o)) = y_ + 1 ∧ ¬ (v_0 43 y_) = -1)) ∧ (∀ y_, o_0 = some y_ → 0 ≤ v_p ∧ v_p < (v_0 202 (T 180 o)) ∧ T (1000 + (v_p).toNat) (T 201 (T 180 o)) = y_ + 1 ∧ (v_0 43 y_) = -1))))) := by
  refine KC.ofr (Or.inl ⟨_, rfl⟩) (by decide) (Nat.le_of_ble_eq_true rfl) ?_
  intro p e s m below meth c ls ar QW A0 H0 H locs E hK hA hw hl hret
  have hl : lv_has ls 3 [(0, .ref o), (1, .int (J v_p))] := hl
  have hT : WT T := hw.1.2.1
  refine j_aload_n E 1 rfl dX9_livingAt_0 rfl (lv_at hl 0 rfl) ?_
  refine j_iload_n E 2 rfl dX9_livingAt_1 rfl (lv_at hl 1 rfl) ?_
  refine kV_r E (c_X9_personAt_n2 l D cy T (v_0) o v_p  t_o r_v_p ) mt_X9_personAt ml_X9_104 hK hw (cw_rc9 hK hw.1 t_o) hA ⟨Nat.le_of_ble_eq_true rfl, Nat.le_of_ble_eq_true rfl⟩ ⟨Nat.le_of_ble_eq_true rfl, Nat.le_of_ble_eq_true rfl⟩ (As := [.int (J v_p)]) (rest := []) rfl rfl hl.1 (Nat.le_of_ble_eq_true rfl) 5 rfl dX9_livingAt_2 (fun oo1_ v_1 H locs hq1_ hw => ?_)
  obtain ⟨ev1_, hh1_⟩ := hq1_
  rw [ev1_] at hw; clear ev1_
  obtain ⟨tt1_, hh1_⟩ := hh1_
  have hh1_ : (oo1_ = none → (v_p < 0 ∨ ((v_0 202) (T 180 o)) ≤ v_p)) ∧ (∀ y_, oo1_ = some y_ → 0 ≤ v_p ∧ v_p < ((v_0 202) (T 180 o)) ∧ T (1000 + (v_p).toNat) (T 201 (T 180 o)) = y_ + 1) := hh1_
  cases oo1_ with
  | none =>
    first | have hn_ := hh1_.1 rfl | have hs_ := hh1_.2 _ rfl
    refine j_astore_nN E 6 rfl [(2, .null), (0, .ref o), (1, .int (J v_p))] dX9_livingAt_5 rfl hl (by decide) rfl (fun ls hl => ?_)
    refine j_aload_nN E 7 rfl dX9_livingAt_6 rfl (lv_at hl 0 rfl) ?_
    refine j_ifnullN E 21 dX9_livingAt_7 (by decide) ?_
    refine j_null E 22 rfl dX9_livingAt_21 ?_
    exact hret 22 none (v_0) _ _ ls hw ⟨rfl, (fun x h => by cases h), ⟨fun _ => (by first | exact Or.inl hn_ | exact Or.inr ⟨_, hs_.2.2, by omega⟩), fun y_ h_ => (by cases h_)⟩⟩ dX9_livingAt_22
  | some xx1_ =>
    have te1_ := tt1_ xx1_ rfl
    first | have hn_ := hh1_.1 rfl | have hs_ := hh1_.2 _ rfl
    refine j_astore_n E 6 rfl [(2, .ref xx1_), (0, .ref o), (1, .int (J v_p))] dX9_livingAt_5 rfl hl (by decide) rfl (fun ls hl => ?_)
    refine j_aload_n E 7 rfl dX9_livingAt_6 rfl (lv_at hl 0 rfl) ?_
    refine j_ifnullR E 10 rfl dX9_livingAt_7 ?_
    refine j_aload_n E 11 rfl dX9_livingAt_10 rfl (lv_at hl 0 rfl) ?_
    refine kV_i E (c_X1_lives_n2 l D cy T (v_0) xx1_  te1_  ) mt_X1_lives ml_X9_127 hK hw (cw_rc2 hK hw.1 te1_) hA ⟨Nat.le_of_ble_eq_true rfl, Nat.le_of_ble_eq_true rfl⟩ ⟨Nat.le_of_ble_eq_true rfl, Nat.le_of_ble_eq_true rfl⟩ (As := []) (rest := []) rfl rfl hl.1 (Nat.le_of_ble_eq_true rfl) 14 rfl dX9_livingAt_11 (fun zz2_ v_2 H locs rr2_ hq2_ hw => ?_)
    obtain ⟨ev2_, hh2_⟩ := hq2_
    rw [ev2_] at hw; clear ev2_
    have hh2_ : (zz2_ = 1 ∧ ((v_0 43) xx1_) = -1) ∨ (zz2_ = 0 ∧ ¬ ((v_0 43) xx1_) = -1) := hh2_
    refine j_if_eq E 17 21 rfl rr2_ dX9_livingAt_14 (by decide) (fun cc3_ => ?_) (fun cc3_ => ?_)
    · refine j_null E 22 rfl dX9_livingAt_21 ?_
      exact hret 22 none (v_0) _ _ ls hw ⟨rfl, (fun x h => by cases h), ⟨fun _ => (by first | exact Or.inl hn_ | exact Or.inr ⟨_, hs_.2.2, by omega⟩), fun y_ h_ => (by cases h_)⟩⟩ dX9_livingAt_22
    · refine j_aload_n E 18 rfl dX9_livingAt_17 rfl (lv_at hl 0 rfl) ?_
      refine j_goto E 22 dX9_livingAt_18 (by decide) ?_
      exact hret 22 (some xx1_) (v_0) _ _ ls hw ⟨rfl, (fun x h => by cases h; exact te1_), ⟨fun h_ => (by cases h_), fun y_ h_ => by cases h_; exact ⟨hs_.1, hs_.2.1, hs_.2.2, by omega⟩⟩⟩ dX9_livingAt_22
set_option maxHeartbeats 4000000 in
set_option maxRecDepth 100000 in
theorem c_X9_dies_n2 (l : Launch) (D : va_G) (cy : Nat → ClassId) (T : Nat → Nat → Nat) (v_0 : Nat → Nat → Int) (o : Nat) (v_p : Int) (t_o : T 0 o = 9) (r_v_p : inR v_p) : KC l D cy T yX9_dies cX9_dies 3 (some .boolean) 6 [.ref o, .int (J v_p)] v_0 (KI (fun (z_0 : Int) (v_2 : Nat → Nat → Int) => ∃ (y43_2 : Nat → Int) , v_2 = upV v_0 43 y43_2 ∧ ((z_0 = 0 ∧ (y43_2) = (v_0 43) ∧ ((v_p < 0 ∨ (v_0 202 (T 180 o)) ≤ v_p) ∨ ∃ y_, T (1000 + (v_p).toNat) (T 201 (T 180 o)) = y_ + 1 ∧ ¬ (v_0 43 y_) = -1)) ∨ (z_0 = 1 ∧ ∃ y_, (0 ≤ v_p ∧ v_p < (v_0 202 (T 180 o)) ∧ T (1000 + (v_p).toNat) (T 201 (T 180 o)) = y_ + 1 ∧ (v_0 43 y_) = -1) ∧ (y43_2) = upB (v_0 43) y_ ((v_0 187 o)))))) := by
  refine KC.ofz (by decide) (Nat.le_of_ble_eq_true rfl) ?_
  intro p e s m below meth c ls ar QW A0 H0 H locs E hK hA hw hl hret
  have hl : lv_has ls 3 [(0, .ref o), (1, .int (J v_p))] := hl
  have hT : WT T := hw.1.2.1
  refine j_aload_n E 1 rfl dX9_dies_0 rfl (lv_at hl 0 rfl) ?_
  refine j_iload_n E 2 rfl dX9_dies_1 rfl (lv_at hl 1 rfl) ?_
  refine kV_r E (c_X9_livingAt_n2 l D cy T (v_0) o v_p  t_o r_v_p ) mt_X9_livingAt ml_X9_93 hK hw (cw_rc9 hK hw.1 t_o) hA ⟨Nat.le_of_ble_eq_true rfl, Nat.le_of_ble_eq_true rfl⟩ ⟨Nat.le_of_ble_eq_true rfl, Nat.le_of_ble_eq_true rfl⟩ (As := [.int (J v_p)]) (rest := []) rfl rfl hl.1 (Nat.le_of_ble_eq_true rfl) 5 rfl dX9_dies_2 (fun oo1_ v_1 H locs hq1_ hw => ?_)
  obtain ⟨ev1_, hh1_⟩ := hq1_
  rw [ev1_] at hw; clear ev1_
  obtain ⟨tt1_, hh1_⟩ := hh1_
  have hh1_ : (oo1_ = none → ((v_p < 0 ∨ ((v_0 202) (T 180 o)) ≤ v_p) ∨ ∃ y_, T (1000 + (v_p).toNat) (T 201 (T 180 o)) = y_ + 1 ∧ ¬ ((v_0 43) y_) = -1)) ∧ (∀ y_, oo1_ = some y_ → 0 ≤ v_p ∧ v_p < ((v_0 202) (T 180 o)) ∧ T (1000 + (v_p).toNat) (T 201 (T 180 o)) = y_ + 1 ∧ ((v_0 43) y_) = -1) := hh1_
  cases oo1_ with
  | none =>
    first | have hn_ := hh1_.1 rfl | have hs_ := hh1_.2 _ rfl
    refine j_astore_nN E 6 rfl [(2, .null), (0, .ref o), (1, .int (J v_p))] dX9_dies_5 rfl hl (by decide) rfl (fun ls hl => ?_)
    refine j_aload_nN E 7 rfl dX9_dies_6 rfl (lv_at hl 0 rfl) ?_
    refine j_ifnonnullN E 10 rfl dX9_dies_7 ?_
    refine j_iconst E 11 rfl dX9_dies_10 ?_
    exact hret 11 0 (upV v_0 43 (v_0 43)) _ _ ls (cw_eq hw (by first | rfl | (funext j_; simp only [upV, reduceIte]; (repeat' split) <;> first | rfl | omega | (subst_vars; rfl)))) (Or.inl rfl) ⟨(v_0 43), rfl, Or.inl ⟨rfl, rfl, hn_⟩⟩ dX9_dies_11
  | some xx1_ =>
    have te1_ := tt1_ xx1_ rfl
    first | have hn_ := hh1_.1 rfl | have hs_ := hh1_.2 _ rfl
    refine j_astore_n E 6 rfl [(2, .ref xx1_), (0, .ref o), (1, .int (J v_p))] dX9_dies_5 rfl hl (by decide) rfl (fun ls hl => ?_)
    refine j_aload_n E 7 rfl dX9_dies_6 rfl (lv_at hl 0 rfl) ?_
    refine j_ifnonnullR E 12 dX9_dies_7 (by decide) ?_
    refine j_aload_n E 13 rfl dX9_dies_12 rfl (lv_at hl 0 rfl) ?_
    refine j_aload_n E 14 rfl dX9_dies_13 rfl (lv_at hl 1 rfl) ?_
    refine g_187 E hK hw fl_X9_37 t_o (v_0 187 o) rfl 17 rfl dX9_dies_14 (fun rr2_ => ?_)
    refine p_43 E hK hw fl_X9_97 te1_ rr2_ 20 rfl dX9_dies_17 (fun H locs hw => ?_)
    have hw : WK D cy T (upV v_0 43 (upB (v_0 43) xx1_ (v_0 187 o))) A0 H0 H locs := cw_eq hw (by first | rfl | (funext j_; simp only [upV, reduceIte]; (repeat' split) <;> first | rfl | omega | (subst_vars; rfl)))
    refine j_iconst E 21 rfl dX9_dies_20 ?_
    exact hret 21 1 (upV v_0 43 (upB (v_0 43) xx1_ (v_0 187 o))) _ _ ls hw (Or.inr rfl) ⟨(upB (v_0 43) xx1_ (v_0 187 o)), rfl, Or.inr ⟨rfl, _, hs_, rfl⟩⟩ dX9_dies_21
set_option maxHeartbeats 4000000 in
set_option maxRecDepth 100000 in
theorem c_X9_away_n2 (l : Launch) (D : va_G) (cy : Nat → ClassId) (T : Nat → Nat → Nat) (v_0 : Nat → Nat → Int) (o : Nat) (v_p : Int) (t_o : T 0 o = 9) (r_v_p : inR v_p) : KC l D cy T yX9_away cX9_away 3 (some .boolean) 6 [.ref o, .int (J v_p)] v_0 (KI (fun (z_0 : Int) (v_2 : Nat → Nat → Int) => ∃ (y44_2 : Nat → Int) , v_2 = upV v_0 44 y44_2 ∧ ((z_0 = 0 ∧ (y44_2) = (v_0 44) ∧ (((v_p < 0 ∨ (v_0 202 (T 180 o)) ≤ v_p) ∨ ∃ y_, T (1000 + (v_p).toNat) (T 201 (T 180 o)) = y_ + 1 ∧ ¬ (v_0 43 y_) = -1) ∨ ∃ y_, T (1000 + (v_p).toNat) (T 201 (T 180 o)) = y_ + 1 ∧ ¬ (v_0 44 y_) = 0)) ∨ (z_0 = 1 ∧ ∃ y_, (0 ≤ v_p ∧ v_p < (v_0 202 (T 180 o)) ∧ T (1000 + (v_p).toNat) (T 201 (T 180 o)) = y_ + 1 ∧ (v_0 43 y_) = -1) ∧ (v_0 44 y_) = 0 ∧ (y44_2) = upB (v_0 44) y_ 1)))) := by
  refine KC.ofz (by decide) (Nat.le_of_ble_eq_true rfl) ?_
  intro p e s m below meth c ls ar QW A0 H0 H locs E hK hA hw hl hret
  have hl : lv_has ls 3 [(0, .ref o), (1, .int (J v_p))] := hl
  have hT : WT T := hw.1.2.1
  refine j_aload_n E 1 rfl dX9_away_0 rfl (lv_at hl 0 rfl) ?_
  refine j_iload_n E 2 rfl dX9_away_1 rfl (lv_at hl 1 rfl) ?_
  refine kV_r E (c_X9_livingAt_n2 l D cy T (v_0) o v_p  t_o r_v_p ) mt_X9_livingAt ml_X9_93 hK hw (cw_rc9 hK hw.1 t_o) hA ⟨Nat.le_of_ble_eq_true rfl, Nat.le_of_ble_eq_true rfl⟩ ⟨Nat.le_of_ble_eq_true rfl, Nat.le_of_ble_eq_true rfl⟩ (As := [.int (J v_p)]) (rest := []) rfl rfl hl.1 (Nat.le_of_ble_eq_true rfl) 5 rfl dX9_away_2 (fun oo1_ v_1 H locs hq1_ hw => ?_)
  obtain ⟨ev1_, hh1_⟩ := hq1_
  rw [ev1_] at hw; clear ev1_
  obtain ⟨tt1_, hh1_⟩ := hh1_
  have hh1_ : (oo1_ = none → ((v_p < 0 ∨ ((v_0 202) (T 180 o)) ≤ v_p) ∨ ∃ y_, T (1000 + (v_p).toNat) (T 201 (T 180 o)) = y_ + 1 ∧ ¬ ((v_0 43) y_) = -1)) ∧ (∀ y_, oo1_ = some y_ → 0 ≤ v_p ∧ v_p < ((v_0 202) (T 180 o)) ∧ T (1000 + (v_p).toNat) (T 201 (T 180 o)) = y_ + 1 ∧ ((v_0 43) y_) = -1) := hh1_
  cases oo1_ with
  | none =>
    first | have hn_ := hh1_.1 rfl | have hs_ := hh1_.2 _ rfl
    refine j_astore_nN E 6 rfl [(2, .null), (0, .ref o), (1, .int (J v_p))] dX9_away_5 rfl hl (by decide) rfl (fun ls hl => ?_)
    refine j_aload_nN E 7 rfl dX9_away_6 rfl (lv_at hl 0 rfl) ?_
    refine j_ifnullN E 17 dX9_away_7 (by decide) ?_
    refine j_iconst E 18 rfl dX9_away_17 ?_
    exact hret 18 0 (upV v_0 44 (v_0 44)) _ _ ls (cw_eq hw (by first | rfl | (funext j_; simp only [upV, reduceIte]; (repeat' split) <;> first | rfl | omega | (subst_vars; rfl)))) (Or.inl rfl) ⟨(v_0 44), rfl, Or.inl ⟨rfl, rfl, by first | exact Or.inl hn_ | exact Or.inr ⟨_, hs_.2.2.1, by omega⟩⟩⟩ dX9_away_18
  | some xx1_ =>
    have te1_ := tt1_ xx1_ rfl
    first | have hn_ := hh1_.1 rfl | have hs_ := hh1_.2 _ rfl
    refine j_astore_n E 6 rfl [(2, .ref xx1_), (0, .ref o), (1, .int (J v_p))] dX9_away_5 rfl hl (by decide) rfl (fun ls hl => ?_)
    refine j_aload_n E 7 rfl dX9_away_6 rfl (lv_at hl 0 rfl) ?_
    refine j_ifnullR E 10 rfl dX9_away_7 ?_
    refine j_aload_n E 11 rfl dX9_away_10 rfl (lv_at hl 0 rfl) ?_
    refine g_44 E hK hw fl_X9_100 te1_ (v_0 44 xx1_) rfl 14 rfl dX9_away_11 (fun rr2_ => ?_)
    refine j_if_eq E 17 19 rfl rr2_ dX9_away_14 (by decide) (fun cc3_ => ?_) (fun cc3_ => ?_)
    · refine j_aload_n E 20 rfl dX9_away_19 rfl (lv_at hl 0 rfl) ?_
      refine j_iconst E 21 rfl dX9_away_20 ?_
      refine p_44 E hK hw fl_X9_100 te1_ (rr (by decide)) (Or.inr rfl) 24 rfl dX9_away_21 (fun H locs hw => ?_)
      have hw : WK D cy T (upV v_0 44 (upB (v_0 44) xx1_ 1)) A0 H0 H locs := cw_eq hw (by first | rfl | (funext j_; simp only [upV, reduceIte]; (repeat' split) <;> first | rfl | omega | (subst_vars; rfl)))
      refine j_iconst E 25 rfl dX9_away_24 ?_
      exact hret 25 1 (upV v_0 44 (upB (v_0 44) xx1_ 1)) _ _ ls hw (Or.inr rfl) ⟨(upB (v_0 44) xx1_ 1), rfl, Or.inr ⟨rfl, _, hs_, by omega, rfl⟩⟩ dX9_away_25
    · refine j_iconst E 18 rfl dX9_away_17 ?_
      exact hret 18 0 (upV v_0 44 (v_0 44)) _ _ ls (cw_eq hw (by first | rfl | (funext j_; simp only [upV, reduceIte]; (repeat' split) <;> first | rfl | omega | (subst_vars; rfl)))) (Or.inl rfl) ⟨(v_0 44), rfl, Or.inl ⟨rfl, rfl, by first | exact Or.inl hn_ | exact Or.inr ⟨_, hs_.2.2.1, by omega⟩⟩⟩ dX9_away_18
set_option maxHeartbeats 4000000 in
set_option maxRecDepth 100000 in
theorem c_X9_speaker_n2 (l : Launch) (D : va_G) (cy : Nat → ClassId) (T : Nat → Nat → Nat) (v_0 : Nat → Nat → Int) (o : Nat) (v_p : Int) (t_o : T 0 o = 9) (r_v_p : inR v_p) : KC l D cy T yX9_speaker cX9_speaker 2 (some .boolean) 6 [.ref o, .int (J v_p)] v_0 (KI (fun (z_0 : Int) (v_2 : Nat → Nat → Int) => ∃ (y188_2 : Nat → Int) , v_2 = upV v_0 188 y188_2 ∧ ((z_0 = 0 ∧ ¬ v_p = -1 ∧ ((v_p < 0 ∨ (v_0 202 (T 180 o)) ≤ v_p) ∨ ∃ y_, T (1000 + (v_p).toNat) (T 201 (T 180 o)) = y_ + 1 ∧ ¬ (v_0 43 y_) = -1)) ∨ (z_0 = 1 ∧ (v_p = -1 ∨ ∃ y_, 0 ≤ v_p ∧ v_p < (v_0 202 (T 180 o)) ∧ T (1000 + (v_p).toNat) (T 201 (T 180 o)) = y_ + 1 ∧ (v_0 43 y_) = -1))))) := by
  refine KC.ofz (by decide) (Nat.le_of_ble_eq_true rfl) ?_
  intro p e s m below meth c ls ar QW A0 H0 H locs E hK hA hw hl hret
  have hl : lv_has ls 2 [(0, .ref o), (1, .int (J v_p))] := hl
  have hT : WT T := hw.1.2.1
  refine j_iload_n E 1 rfl dX9_speaker_0 rfl (lv_at hl 1 rfl) ?_
  refine j_iconst E 2 rfl dX9_speaker_1 ?_
  refine j_icmp_eq E 5 15 rfl r_v_p (rr (by decide)) dX9_speaker_2 (by decide) (fun cc1_ => ?_) (fun cc1_ => ?_)
  · refine j_aload_n E 16 rfl dX9_speaker_15 rfl (lv_at hl 0 rfl) ?_
    refine j_iload_n E 17 rfl dX9_speaker_16 rfl (lv_at hl 1 rfl) ?_
    refine p_188 E hK hw fl_X9_40 t_o r_v_p 20 rfl dX9_speaker_17 (fun H locs hw => ?_)
    have hw : WK D cy T (upV v_0 188 (upB (v_0 188) o v_p)) A0 H0 H locs := cw_eq hw (by first | rfl | (funext j_; simp only [upV, reduceIte]; (repeat' split) <;> first | rfl | omega | (subst_vars; rfl)))
    refine j_iconst E 21 rfl dX9_speaker_20 ?_
    exact hret 21 1 (upV v_0 188 (upB (v_0 188) o v_p)) _ _ ls hw (Or.inr rfl) ⟨(upB (v_0 188) o v_p), rfl, Or.inr ⟨rfl, by first | exact Or.inl (by omega) | exact Or.inr ⟨_, hs_⟩⟩⟩ dX9_speaker_21
  · refine j_aload_n E 6 rfl dX9_speaker_5 rfl (lv_at hl 0 rfl) ?_
    refine j_iload_n E 7 rfl dX9_speaker_6 rfl (lv_at hl 1 rfl) ?_
    refine kV_r E (c_X9_livingAt_n2 l D cy T (v_0) o v_p  t_o r_v_p ) mt_X9_livingAt ml_X9_93 hK hw (cw_rc9 hK hw.1 t_o) hA ⟨Nat.le_of_ble_eq_true rfl, Nat.le_of_ble_eq_true rfl⟩ ⟨Nat.le_of_ble_eq_true rfl, Nat.le_of_ble_eq_true rfl⟩ (As := [.int (J v_p)]) (rest := []) rfl rfl hl.1 (Nat.le_of_ble_eq_true rfl) 10 rfl dX9_speaker_7 (fun oo3_ v_3 H locs hq3_ hw => ?_)
    obtain ⟨ev3_, hh3_⟩ := hq3_
    rw [ev3_] at hw; clear ev3_
    obtain ⟨tt3_, hh3_⟩ := hh3_
    have hh3_ : (oo3_ = none → ((v_p < 0 ∨ ((v_0 202) (T 180 o)) ≤ v_p) ∨ ∃ y_, T (1000 + (v_p).toNat) (T 201 (T 180 o)) = y_ + 1 ∧ ¬ ((v_0 43) y_) = -1)) ∧ (∀ y_, oo3_ = some y_ → 0 ≤ v_p ∧ v_p < ((v_0 202) (T 180 o)) ∧ T (1000 + (v_p).toNat) (T 201 (T 180 o)) = y_ + 1 ∧ ((v_0 43) y_) = -1) := hh3_
    cases oo3_ with
    | none =>
      first | have hn_ := hh3_.1 rfl | have hs_ := hh3_.2 _ rfl
      refine j_ifnonnullN E 13 rfl dX9_speaker_10 ?_
      refine j_iconst E 14 rfl dX9_speaker_13 ?_
      exact hret 14 0 (upV v_0 188 (v_0 188)) _ _ ls (cw_eq hw (by first | rfl | (funext j_; simp only [upV, reduceIte]; (repeat' split) <;> first | rfl | omega | (subst_vars; rfl)))) (Or.inl rfl) ⟨(v_0 188), rfl, Or.inl ⟨rfl, by omega, hn_⟩⟩ dX9_speaker_14
    | some xx3_ =>
      have te3_ := tt3_ xx3_ rfl
      first | have hn_ := hh3_.1 rfl | have hs_ := hh3_.2 _ rfl
      refine j_ifnonnullR E 15 dX9_speaker_10 (by decide) ?_
      refine j_aload_n E 16 rfl dX9_speaker_15 rfl (lv_at hl 0 rfl) ?_
      refine j_iload_n E 17 rfl dX9_speaker_16 rfl (lv_at hl 1 rfl) ?_
      refine p_188 E hK hw fl_X9_40 t_o r_v_p 20 rfl dX9_speaker_17 (fun H locs hw => ?_)
      have hw : WK D cy T (upV v_0 188 (upB (v_0 188) o v_p)) A0 H0 H locs := cw_eq hw (by first | rfl | (funext j_; simp only [upV, reduceIte]; (repeat' split) <;> first | rfl | omega | (subst_vars; rfl)))
      refine j_iconst E 21 rfl dX9_speaker_20 ?_
      exact hret 21 1 (upV v_0 188 (upB (v_0 188) o v_p)) _ _ ls hw (Or.inr rfl) ⟨(upB (v_0 188) o v_p), rfl, Or.inr ⟨rfl, by first | exact Or.inl (by omega) | exact Or.inr ⟨_, hs_⟩⟩⟩ dX9_speaker_21
set_option maxHeartbeats 4000000 in
set_option maxRecDepth 100000 in
theorem c_X9_pay_n2 (l : Launch) (D : va_G) (cy : Nat → ClassId) (T : Nat → Nat → Nat) (v_0 : Nat → Nat → Int) (o : Nat) (v_i : Int) (t_o : T 0 o = 9) (r_v_i : inR v_i) : KC l D cy T yX9_pay cX9_pay 3 (some .boolean) 5 [.ref o, .int (J v_i)] v_0 (KI (fun (z_0 : Int) (v_2 : Nat → Nat → Int) => ∃ (y146_2 : Nat → Int) , v_2 = upV v_0 146 y146_2 ∧ ((z_0 = 0 ∧ (y146_2) = (v_0 146) ∧ ((v_i < 0 ∨ (v_0 202 (T 183 o)) ≤ v_i) ∨ ∃ y_, T (1000 + (v_i).toNat) (T 201 (T 183 o)) = y_ + 1 ∧ ¬ (v_0 146 y_) = 0)) ∨ (z_0 = 1 ∧ ∃ y_, (0 ≤ v_i ∧ v_i < (v_0 202 (T 183 o)) ∧ T (1000 + (v_i).toNat) (T 201 (T 183 o)) = y_ + 1) ∧ (v_0 146 y_) = 0 ∧ (y146_2) = upB (v_0 146) y_ 1)))) := by
  refine KC.ofz (by decide) (Nat.le_of_ble_eq_true rfl) ?_
  intro p e s m below meth c ls ar QW A0 H0 H locs E hK hA hw hl hret
  have hl : lv_has ls 3 [(0, .ref o), (1, .int (J v_i))] := hl
  have hT : WT T := hw.1.2.1
  refine j_aload_n E 1 rfl dX9_pay_0 rfl (lv_at hl 0 rfl) ?_
  refine j_iload_n E 2 rfl dX9_pay_1 rfl (lv_at hl 1 rfl) ?_
  refine kV_r E (c_X9_suitAt_n2 l D cy T (v_0) o v_i  t_o r_v_i ) mt_X9_suitAt ml_X9_319 hK hw (cw_rc9 hK hw.1 t_o) hA ⟨Nat.le_of_ble_eq_true rfl, Nat.le_of_ble_eq_true rfl⟩ ⟨Nat.le_of_ble_eq_true rfl, Nat.le_of_ble_eq_true rfl⟩ (As := [.int (J v_i)]) (rest := []) rfl rfl hl.1 (Nat.le_of_ble_eq_true rfl) 5 rfl dX9_pay_2 (fun oo1_ v_1 H locs hq1_ hw => ?_)
  obtain ⟨ev1_, hh1_⟩ := hq1_
  rw [ev1_] at hw; clear ev1_
  obtain ⟨tt1_, hh1_⟩ := hh1_
  have hh1_ : (oo1_ = none → (v_i < 0 ∨ ((v_0 202) (T 183 o)) ≤ v_i)) ∧ (∀ y_, oo1_ = some y_ → 0 ≤ v_i ∧ v_i < ((v_0 202) (T 183 o)) ∧ T (1000 + (v_i).toNat) (T 201 (T 183 o)) = y_ + 1) := hh1_
  cases oo1_ with
  | none =>
    first | have hn_ := hh1_.1 rfl | have hs_ := hh1_.2 _ rfl
    refine j_astore_nN E 6 rfl [(2, .null), (0, .ref o), (1, .int (J v_i))] dX9_pay_5 rfl hl (by decide) rfl (fun ls hl => ?_)
    refine j_aload_nN E 7 rfl dX9_pay_6 rfl (lv_at hl 0 rfl) ?_
    refine j_ifnullN E 17 dX9_pay_7 (by decide) ?_
    refine j_iconst E 18 rfl dX9_pay_17 ?_
    exact hret 18 0 (upV v_0 146 (v_0 146)) _ _ ls (cw_eq hw (by first | rfl | (funext j_; simp only [upV, reduceIte]; (repeat' split) <;> first | rfl | omega | (subst_vars; rfl)))) (Or.inl rfl) ⟨(v_0 146), rfl, Or.inl ⟨rfl, rfl, by first | exact Or.inl hn_ | exact Or.inr ⟨_, hs_.2.2, by omega⟩⟩⟩ dX9_pay_18
  | some xx1_ =>
    have te1_ := tt1_ xx1_ rfl
    first | have hn_ := hh1_.1 rfl | have hs_ := hh1_.2 _ rfl
    refine j_astore_n E 6 rfl [(2, .ref xx1_), (0, .ref o), (1, .int (J v_i))] dX9_pay_5 rfl hl (by decide) rfl (fun ls hl => ?_)
    refine j_aload_n E 7 rfl dX9_pay_6 rfl (lv_at hl 0 rfl) ?_
    refine j_ifnullR E 10 rfl dX9_pay_7 ?_
    refine j_aload_n E 11 rfl dX9_pay_10 rfl (lv_at hl 0 rfl) ?_
    refine g_146 E hK hw fl_X9_332 te1_ (v_0 146 xx1_) rfl 14 rfl dX9_pay_11 (fun rr2_ => ?_)
    refine j_if_eq E 17 19 rfl rr2_ dX9_pay_14 (by decide) (fun cc3_ => ?_) (fun cc3_ => ?_)
    · refine j_aload_n E 20 rfl dX9_pay_19 rfl (lv_at hl 0 rfl) ?_
      refine j_iconst E 21 rfl dX9_pay_20 ?_
      refine p_146 E hK hw fl_X9_332 te1_ (rr (by decide)) (Or.inr rfl) 24 rfl dX9_pay_21 (fun H locs hw => ?_)
      have hw : WK D cy T (upV v_0 146 (upB (v_0 146) xx1_ 1)) A0 H0 H locs := cw_eq hw (by first | rfl | (funext j_; simp only [upV, reduceIte]; (repeat' split) <;> first | rfl | omega | (subst_vars; rfl)))
      refine j_iconst E 25 rfl dX9_pay_24 ?_
      exact hret 25 1 (upV v_0 146 (upB (v_0 146) xx1_ 1)) _ _ ls hw (Or.inr rfl) ⟨(upB (v_0 146) xx1_ 1), rfl, Or.inr ⟨rfl, _, hs_, by omega, rfl⟩⟩ dX9_pay_25
    · refine j_iconst E 18 rfl dX9_pay_17 ?_
      exact hret 18 0 (upV v_0 146 (v_0 146)) _ _ ls (cw_eq hw (by first | rfl | (funext j_; simp only [upV, reduceIte]; (repeat' split) <;> first | rfl | omega | (subst_vars; rfl)))) (Or.inl rfl) ⟨(v_0 146), rfl, Or.inl ⟨rfl, rfl, by first | exact Or.inl hn_ | exact Or.inr ⟨_, hs_.2.2, by omega⟩⟩⟩ dX9_pay_18
set_option maxHeartbeats 4000000 in
set_option maxRecDepth 100000 in
theorem c_X9_isLine_n2 (l : Launch) (D : va_G) (cy : Nat → ClassId) (T : Nat → Nat → Nat) (v_0 : Nat → Nat → Int) (o : Nat) (v_l : Int) (t_o : T 0 o = 9) (r_v_l : inR v_l) : KC l D cy T yX9_isLine cX9_isLine 2 (some .boolean) 2 [.ref o, .int (J v_l)] v_0 (KI (fun (z_0 : Int) (v_2 : Nat → Nat → Int) => v_2 = v_0 ∧ ((z_0 = 1 ∧ 0 ≤ v_l ∧ v_l < (v_0 202 (T 181 o))) ∨ (z_0 = 0 ∧ (v_l < 0 ∨ (v_0 202 (T 181 o)) ≤ v_l))))) := by
  refine KC.ofz (by decide) (Nat.le_of_ble_eq_true rfl) ?_
  intro p e s m below meth c ls ar QW A0 H0 H locs E hK hA hw hl hret
  have hl : lv_has ls 2 [(0, .ref o), (1, .int (J v_l))] := hl
  have hT : WT T := hw.1.2.1
  refine j_iload_n E 1 rfl dX9_isLine_0 rfl (lv_at hl 1 rfl) ?_
  refine j_if_lt E 4 19 rfl r_v_l dX9_isLine_1 (by decide) (fun cc1_ => ?_) (fun cc1_ => ?_)
  · refine j_iconst E 20 rfl dX9_isLine_19 ?_
    exact hret 20 0 (v_0) _ _ ls hw (Or.inl rfl) ⟨rfl, by omega⟩ dX9_isLine_20
  · refine j_iload_n E 5 rfl dX9_isLine_4 rfl (lv_at hl 1 rfl) ?_
    refine j_aload_n E 6 rfl dX9_isLine_5 rfl (lv_at hl 0 rfl) ?_
    refine g_181 E hK hw fl_X9_16 t_o 9 rfl dX9_isLine_6 ?_
    refine kV_i E (c_Jx4a65c_size_8abf5 l D cy T (v_0) (T 181 o)  (wt_181 hT t_o)  ) mt_Jx4a65c_size_8abf5 ml_X9_80 hK hw (cw_rc10 hK hw.1 (wt_181 hT t_o)) hA ⟨Nat.le_of_ble_eq_true rfl, Nat.le_of_ble_eq_true rfl⟩ ⟨Nat.le_of_ble_eq_true rfl, Nat.le_of_ble_eq_true rfl⟩ (As := []) (rest := [.int (J v_l)]) rfl rfl hl.1 (Nat.le_of_ble_eq_true rfl) 12 rfl dX9_isLine_9 (fun zz2_ v_2 H locs rr2_ hq2_ hw => ?_)
    obtain ⟨ev2_, hh2_⟩ := hq2_
    rw [ev2_] at hw; clear ev2_
    have hh2_ : zz2_ = ((v_0 202) ((T 181 o))) ∧ 0 ≤ zz2_ := hh2_
    refine j_icmp_ge E 15 19 rfl r_v_l rr2_ dX9_isLine_12 (by decide) (fun cc3_ => ?_) (fun cc3_ => ?_)
    · refine j_iconst E 20 rfl dX9_isLine_19 ?_
      exact hret 20 0 (v_0) _ _ ls hw (Or.inl rfl) ⟨rfl, by omega⟩ dX9_isLine_20
    · refine j_iconst E 16 rfl dX9_isLine_15 ?_
      refine j_goto E 20 dX9_isLine_16 (by decide) ?_
      exact hret 20 1 (v_0) _ _ ls hw (Or.inr rfl) ⟨rfl, by omega⟩ dX9_isLine_20
set_option maxHeartbeats 4000000 in
set_option maxRecDepth 100000 in
theorem c_X4_takeFacts_n2 (l : Launch) (D : va_G) (cy : Nat → ClassId) (T : Nat → Nat → Nat) (v_0 : Nat → Nat → Int) (o : Nat) (v_a : Int) (v_b : Int) (v_c : Int) (v_d : Int) (v_e : Int) (t_o : T 0 o = 5) (r_v_a : inR v_a) (r_v_b : inR v_b) (r_v_c : inR v_c) (r_v_d : inR v_d) (r_v_e : inR v_e) : KC l D cy T yX4_takeFacts cX4_takeFacts 6 (some .boolean) 2 [.ref o, .int (J v_a), .int (J v_b), .int (J v_c), .int (J v_d), .int (J v_e)] v_0 (KI (fun (z_0 : Int) (v_2 : Nat → Nat → Int) => v_2 = v_0 ∧ ((z_0 = 1 ∧ 0 ≤ v_a ∧ v_a ≤ 99 ∧ 0 ≤ v_b ∧ v_b ≤ 9 ∧ 0 ≤ v_c ∧ v_c ≤ 299 ∧ 0 ≤ v_d ∧ v_d ≤ 1 ∧ -99 ≤ v_e ∧ v_e ≤ 299) ∨ (z_0 = 0 ∧ ¬ (0 ≤ v_a ∧ v_a ≤ 99 ∧ 0 ≤ v_b ∧ v_b ≤ 9 ∧ 0 ≤ v_c ∧ v_c ≤ 299 ∧ 0 ≤ v_d ∧ v_d ≤ 1 ∧ -99 ≤ v_e ∧ v_e ≤ 299))))) := by
  refine KC.ofz (by decide) (Nat.le_of_ble_eq_true rfl) ?_
  intro p e s m below meth c ls ar QW A0 H0 H locs E hK hA hw hl hret
  have hl : lv_has ls 6 [(0, .ref o), (1, .int (J v_a)), (2, .int (J v_b)), (3, .int (J v_c)), (4, .int (J v_d)), (5, .int (J v_e))] := hl
  have hT : WT T := hw.1.2.1
  refine j_iload_n E 1 rfl dX4_takeFacts_0 rfl (lv_at hl 1 rfl) ?_
  refine j_if_lt E 4 31 rfl r_v_a dX4_takeFacts_1 (by decide) (fun cc1_ => ?_) (fun cc1_ => ?_)
  · refine j_iconst E 32 rfl dX4_takeFacts_31 ?_
    exact hret 32 0 (v_0) _ _ ls hw (Or.inl rfl) ⟨rfl, by omega⟩ dX4_takeFacts_32
  · refine j_iload_n E 5 rfl dX4_takeFacts_4 rfl (lv_at hl 1 rfl) ?_
    refine j_bipush E 7 rfl dX4_takeFacts_5 (by decide) ?_
    refine j_icmp_gt E 10 31 rfl r_v_a (rr (by decide)) dX4_takeFacts_7 (by decide) (fun cc2_ => ?_) (fun cc2_ => ?_)
    · refine j_iconst E 32 rfl dX4_takeFacts_31 ?_
      exact hret 32 0 (v_0) _ _ ls hw (Or.inl rfl) ⟨rfl, by omega⟩ dX4_takeFacts_32
    · refine j_iload_n E 11 rfl dX4_takeFacts_10 rfl (lv_at hl 2 rfl) ?_
      refine j_if_lt E 14 31 rfl r_v_b dX4_takeFacts_11 (by decide) (fun cc3_ => ?_) (fun cc3_ => ?_)
      · refine j_iconst E 32 rfl dX4_takeFacts_31 ?_
        exact hret 32 0 (v_0) _ _ ls hw (Or.inl rfl) ⟨rfl, by omega⟩ dX4_takeFacts_32
      · refine j_iload_n E 15 rfl dX4_takeFacts_14 rfl (lv_at hl 2 rfl) ?_
        refine j_bipush E 17 rfl dX4_takeFacts_15 (by decide) ?_
        refine j_icmp_gt E 20 31 rfl r_v_b (rr (by decide)) dX4_takeFacts_17 (by decide) (fun cc4_ => ?_) (fun cc4_ => ?_)
        · refine j_iconst E 32 rfl dX4_takeFacts_31 ?_
          exact hret 32 0 (v_0) _ _ ls hw (Or.inl rfl) ⟨rfl, by omega⟩ dX4_takeFacts_32
        · refine j_iload_n E 21 rfl dX4_takeFacts_20 rfl (lv_at hl 3 rfl) ?_
          refine j_if_lt E 24 31 rfl r_v_c dX4_takeFacts_21 (by decide) (fun cc5_ => ?_) (fun cc5_ => ?_)
          · refine j_iconst E 32 rfl dX4_takeFacts_31 ?_
            exact hret 32 0 (v_0) _ _ ls hw (Or.inl rfl) ⟨rfl, by omega⟩ dX4_takeFacts_32
          · refine j_iload_n E 25 rfl dX4_takeFacts_24 rfl (lv_at hl 3 rfl) ?_
            refine j_sipush E 28 rfl dX4_takeFacts_25 (by decide) ?_
            refine j_icmp_le E 31 33 rfl r_v_c (rr (by decide)) dX4_takeFacts_28 (by decide) (fun cc6_ => ?_) (fun cc6_ => ?_)
            · refine j_iload E 35 rfl dX4_takeFacts_33 (lv_at hl 4 rfl) ?_
              refine j_if_lt E 38 59 rfl r_v_d dX4_takeFacts_35 (by decide) (fun cc7_ => ?_) (fun cc7_ => ?_)
              · refine j_iconst E 60 rfl dX4_takeFacts_59 ?_
                exact hret 60 0 (v_0) _ _ ls hw (Or.inl rfl) ⟨rfl, by omega⟩ dX4_takeFacts_60
              · refine j_iload E 40 rfl dX4_takeFacts_38 (lv_at hl 4 rfl) ?_
                refine j_iconst E 41 rfl dX4_takeFacts_40 ?_
                refine j_icmp_gt E 44 59 rfl r_v_d (rr (by decide)) dX4_takeFacts_41 (by decide) (fun cc8_ => ?_) (fun cc8_ => ?_)
                · refine j_iconst E 60 rfl dX4_takeFacts_59 ?_
                  exact hret 60 0 (v_0) _ _ ls hw (Or.inl rfl) ⟨rfl, by omega⟩ dX4_takeFacts_60
                · refine j_iload E 46 rfl dX4_takeFacts_44 (lv_at hl 5 rfl) ?_
                  refine j_bipush E 48 rfl dX4_takeFacts_46 (by decide) ?_
                  refine j_icmp_lt E 51 59 rfl r_v_e (rr (by decide)) dX4_takeFacts_48 (by decide) (fun cc9_ => ?_) (fun cc9_ => ?_)
                  · refine j_iconst E 60 rfl dX4_takeFacts_59 ?_
                    exact hret 60 0 (v_0) _ _ ls hw (Or.inl rfl) ⟨rfl, by omega⟩ dX4_takeFacts_60
                  · refine j_iload E 53 rfl dX4_takeFacts_51 (lv_at hl 5 rfl) ?_
                    refine j_sipush E 56 rfl dX4_takeFacts_53 (by decide) ?_
                    refine j_icmp_le E 59 61 rfl r_v_e (rr (by decide)) dX4_takeFacts_56 (by decide) (fun cc10_ => ?_) (fun cc10_ => ?_)
                    · refine j_aload_n E 62 rfl dX4_takeFacts_61 rfl (lv_at hl 0 rfl) ?_
                      refine j_sipush E 65 rfl dX4_takeFacts_62 (by decide) ?_
                      refine j_iload_n E 66 rfl dX4_takeFacts_65 rfl (lv_at hl 1 rfl) ?_
                      refine kV_v E (c_X4_putFact l D cy T (v_0) o 307 v_a  t_o (rr (by decide)) r_v_a ) mt_X4_putFact ml_X4_27 hK hw (cw_rc5 hK hw.1 t_o) hA ⟨Nat.le_of_ble_eq_true rfl, Nat.le_of_ble_eq_true rfl⟩ ⟨Nat.le_of_ble_eq_true rfl, Nat.le_of_ble_eq_true rfl⟩ (As := [.int (J 307), .int (J v_a)]) (rest := []) rfl rfl hl.1 (Nat.le_of_ble_eq_true rfl) 69 rfl dX4_takeFacts_66 (fun v_11 H locs hq11_ hw => ?_)
                      obtain ⟨ev11_, hh11_⟩ := hq11_
                      rw [ev11_] at hw; clear ev11_
                      refine j_aload_n E 70 rfl dX4_takeFacts_69 rfl (lv_at hl 0 rfl) ?_
                      refine j_sipush E 73 rfl dX4_takeFacts_70 (by decide) ?_
                      refine j_iload_n E 74 rfl dX4_takeFacts_73 rfl (lv_at hl 2 rfl) ?_
                      refine kV_v E (c_X4_putFact l D cy T (v_0) o 308 v_b  t_o (rr (by decide)) r_v_b ) mt_X4_putFact ml_X4_27 hK hw (cw_rc5 hK hw.1 t_o) hA ⟨Nat.le_of_ble_eq_true rfl, Nat.le_of_ble_eq_true rfl⟩ ⟨Nat.le_of_ble_eq_true rfl, Nat.le_of_ble_eq_true rfl⟩ (As := [.int (J 308), .int (J v_b)]) (rest := []) rfl rfl hl.1 (Nat.le_of_ble_eq_true rfl) 77 rfl dX4_takeFacts_74 (fun v_12 H locs hq12_ hw => ?_)
                      obtain ⟨ev12_, hh12_⟩ := hq12_
                      rw [ev12_] at hw; clear ev12_
                      refine j_aload_n E 78 rfl dX4_takeFacts_77 rfl (lv_at hl 0 rfl) ?_
                      refine j_sipush E 81 rfl dX4_takeFacts_78 (by decide) ?_
                      refine j_iload_n E 82 rfl dX4_takeFacts_81 rfl (lv_at hl 3 rfl) ?_
                      refine kV_v E (c_X4_putFact l D cy T (v_0) o 309 v_c  t_o (rr (by decide)) r_v_c ) mt_X4_putFact ml_X4_27 hK hw (cw_rc5 hK hw.1 t_o) hA ⟨Nat.le_of_ble_eq_true rfl, Nat.le_of_ble_eq_true rfl⟩ ⟨Nat.le_of_ble_eq_true rfl, Nat.le_of_ble_eq_true rfl⟩ (As := [.int (J 309), .int (J v_c)]) (rest := []) rfl rfl hl.1 (Nat.le_of_ble_eq_true rfl) 85 rfl dX4_takeFacts_82 (fun v_13 H locs hq13_ hw => ?_)
                      obtain ⟨ev13_, hh13_⟩ := hq13_
                      rw [ev13_] at hw; clear ev13_
                      refine j_aload_n E 86 rfl dX4_takeFacts_85 rfl (lv_at hl 0 rfl) ?_
                      refine j_sipush E 89 rfl dX4_takeFacts_86 (by decide) ?_
                      refine j_iload E 91 rfl dX4_takeFacts_89 (lv_at hl 4 rfl) ?_
                      refine kV_v E (c_X4_putFact l D cy T (v_0) o 310 v_d  t_o (rr (by decide)) r_v_d ) mt_X4_putFact ml_X4_27 hK hw (cw_rc5 hK hw.1 t_o) hA ⟨Nat.le_of_ble_eq_true rfl, Nat.le_of_ble_eq_true rfl⟩ ⟨Nat.le_of_ble_eq_true rfl, Nat.le_of_ble_eq_true rfl⟩ (As := [.int (J 310), .int (J v_d)]) (rest := []) rfl rfl hl.1 (Nat.le_of_ble_eq_true rfl) 94 rfl dX4_takeFacts_91 (fun v_14 H locs hq14_ hw => ?_)
                      obtain ⟨ev14_, hh14_⟩ := hq14_
                      rw [ev14_] at hw; clear ev14_
                      refine j_aload_n E 95 rfl dX4_takeFacts_94 rfl (lv_at hl 0 rfl) ?_
                      refine j_sipush E 98 rfl dX4_takeFacts_95 (by decide) ?_
                      refine j_iload E 100 rfl dX4_takeFacts_98 (lv_at hl 5 rfl) ?_
                      refine kV_v E (c_X4_putFact l D cy T (v_0) o 311 v_e  t_o (rr (by decide)) r_v_e ) mt_X4_putFact ml_X4_27 hK hw (cw_rc5 hK hw.1 t_o) hA ⟨Nat.le_of_ble_eq_true rfl, Nat.le_of_ble_eq_true rfl⟩ ⟨Nat.le_of_ble_eq_true rfl, Nat.le_of_ble_eq_true rfl⟩ (As := [.int (J 311), .int (J v_e)]) (rest := []) rfl rfl hl.1 (Nat.le_of_ble_eq_true rfl) 103 rfl dX4_takeFacts_100 (fun v_15 H locs hq15_ hw => ?_)
                      obtain ⟨ev15_, hh15_⟩ := hq15_
                      rw [ev15_] at hw; clear ev15_
                      refine j_iconst E 104 rfl dX4_takeFacts_103 ?_
                      exact hret 104 1 (v_0) _ _ ls hw (Or.inr rfl) ⟨rfl, by omega⟩ dX4_takeFacts_104
                    · refine j_iconst E 60 rfl dX4_takeFacts_59 ?_
                      exact hret 60 0 (v_0) _ _ ls hw (Or.inl rfl) ⟨rfl, by omega⟩ dX4_takeFacts_60
            · refine j_iconst E 32 rfl dX4_takeFacts_31 ?_
              exact hret 32 0 (v_0) _ _ ls hw (Or.inl rfl) ⟨rfl, by omega⟩ dX4_takeFacts_32
set_option maxHeartbeats 4000000 in
set_option maxRecDepth 100000 in
theorem c_X9_passSummer_n3 (l : Launch) (D : va_G) (cy : Nat → ClassId) (T : Nat → Nat → Nat) (v_0 : Nat → Nat → Int) (o : Nat) (t_o : T 0 o = 9) (hp0 : 0 ≤ (v_0 187 o) ∧ (v_0 187 o) ≤ 198) : KC l D cy T yX9_passSummer cX9_passSummer 5 none 8 [.ref o] v_0 (KV (fun (v_2 : Nat → Nat → Int) => ∃ (y22_2 : Nat → Int) (y23_2 : Nat → Int) (y24_2 : Nat → Int) (y44_2 : Nat → Int) (y187_2 : Nat → Int) , v_2 = upV (upV (upV (upV (upV v_0 22 y22_2) 23 y23_2) 24 y24_2) 44 y44_2) 187 y187_2 ∧ ((y187_2 o) = (v_0 187 o) + 1 ∧ ∀ i_ : Nat, (i_ : Int) < (v_0 202 (T 180 o)) → ∀ y_ : Nat, T (1000 + i_) (T 201 (T 180 o)) = y_ + 1 → (y44_2 y_) = 0))) := by
  refine KC.ofv (by decide) (Nat.le_of_ble_eq_true rfl) ?_
  intro p e s m below meth c ls ar QW A0 H0 H locs E hK hA hw hl hret
  have hl : lv_has ls 5 [(0, .ref o)] := hl
  have hT : WT T := hw.1.2.1
  refine j_aload_n E 1 rfl dX9_passSummer_0 rfl (lv_at hl 0 rfl) ?_
  refine kV_i E (c_X9_presentOnes l D cy T (v_0) o  t_o  ) mt_X9_presentOnes ml_X9_229 hK hw (cw_rc9 hK hw.1 t_o) hA ⟨Nat.le_of_ble_eq_true rfl, Nat.le_of_ble_eq_true rfl⟩ ⟨Nat.le_of_ble_eq_true rfl, Nat.le_of_ble_eq_true rfl⟩ (As := []) (rest := []) rfl rfl hl.1 (Nat.le_of_ble_eq_true rfl) 4 rfl dX9_passSummer_1 (fun zz1_ v_1 H locs rr1_ hq1_ hw => ?_)
  obtain ⟨ev1_, hh1_⟩ := hq1_
  rw [ev1_] at hw; clear ev1_
  refine j_istore_n E 5 rfl [(1, .int (J zz1_)), (0, .ref o)] dX9_passSummer_4 rfl hl (by decide) rfl (fun ls hl => ?_)
  refine j_iconst E 6 rfl dX9_passSummer_5 ?_
  refine j_istore_n E 7 rfl [(2, .int (J 0)), (1, .int (J zz1_)), (0, .ref o)] dX9_passSummer_6 rfl hl (by decide) rfl (fun ls hl => ?_)
  refine j_iconst E 8 rfl dX9_passSummer_7 ?_
  refine j_istore_n E 9 rfl [(3, .int (J 0)), (2, .int (J 0)), (1, .int (J zz1_)), (0, .ref o)] dX9_passSummer_8 rfl hl (by decide) rfl (fun ls hl => ?_)
  have L9_2 : ∀ (k9 : Nat) (l2_9 l3_9 : Int) (y22_c9 : Nat → Int) (y23_c9 : Nat → Int) (y24_c9 : Nat → Int) (H : Heap) (locs : List Loc) (ls : Array Slot), inR l2_9 → inR l3_9 → (0 ≤ l3_9) → ((v_0 202 (T 181 o)) - l3_9).toNat < k9 → WK D cy T (upV (upV (upV v_0 22 y22_c9) 23 y23_c9) 24 y24_c9) A0 H0 H locs → lv_has ls 5 [(0, .ref o), (1, .int (J zz1_)), (2, .int (J l2_9)), (3, .int (J l3_9))] → W p l e (rmd 8 0 0) s m ar below meth c H locs 0 0 QW (F0 m 9 ls []) := by
    intro k9
    induction k9 with
    | zero =>
      intro l2_9 l3_9 y22_c9 y23_c9 y24_c9 H locs ls r_l2_9 r_l3_9 iv9 ms9 hw hl
      exact absurd ms9 (Nat.not_lt_zero _)
    | succ k9 ih9 =>
      intro l2_9 l3_9 y22_c9 y23_c9 y24_c9 H locs ls r_l2_9 r_l3_9 iv9 ms9 hw hl
      refine j_iload_n E 10 rfl dX9_passSummer_9 rfl (lv_at hl 3 rfl) ?_
      refine j_aload_n E 11 rfl dX9_passSummer_10 rfl (lv_at hl 0 rfl) ?_
      refine g_181 E hK hw fl_X9_16 t_o 14 rfl dX9_passSummer_11 ?_
      refine kV_i E (c_Jx4a65c_size_8abf5 l D cy T (upV (upV (upV v_0 22 y22_c9) 23 y23_c9) 24 y24_c9) (T 181 o)  (wt_181 hT t_o)  ) mt_Jx4a65c_size_8abf5 ml_X9_80 hK hw (cw_rc10 hK hw.1 (wt_181 hT t_o)) hA ⟨Nat.le_of_ble_eq_true rfl, Nat.le_of_ble_eq_true rfl⟩ ⟨Nat.le_of_ble_eq_true rfl, Nat.le_of_ble_eq_true rfl⟩ (As := []) (rest := [.int (J l3_9)]) rfl rfl hl.1 (Nat.le_of_ble_eq_true rfl) 17 rfl dX9_passSummer_14 (fun zz4_ v_4 H locs rr4_ hq4_ hw => ?_)
      obtain ⟨ev4_, hh4_⟩ := hq4_
      rw [ev4_] at hw; clear ev4_
      have hh4_ : zz4_ = ((v_0 202) ((T 181 o))) ∧ 0 ≤ zz4_ := hh4_
      refine j_icmp_ge E 20 78 rfl r_l3_9 rr4_ dX9_passSummer_17 (by decide) (fun cc5_ => ?_) (fun cc5_ => ?_)
      · refine j_iconst E 79 rfl dX9_passSummer_78 ?_
        refine j_istore_n E 80 rfl [(3, .int (J 0)), (0, .ref o), (1, .int (J zz1_)), (2, .int (J l2_9))] dX9_passSummer_79 rfl hl (by decide) rfl (fun ls hl => ?_)
        have L80_6 : ∀ (k80 : Nat) (l3_80 : Int) (H : Heap) (locs : List Loc) (ls : Array Slot), inR l3_80 → (0 ≤ l3_80) → ((v_0 202 (T 181 o)) - l3_80).toNat < k80 → WK D cy T (upV (upV (upV v_0 22 y22_c9) 23 y23_c9) 24 y24_c9) A0 H0 H locs → lv_has ls 5 [(0, .ref o), (1, .int (J zz1_)), (2, .int (J l2_9)), (3, .int (J l3_80))] → W p l e (rmd 8 0 0) s m ar below meth c H locs 0 0 QW (F0 m 80 ls []) := by
          intro k80
          induction k80 with
          | zero =>
            intro l3_80 H locs ls r_l3_80 iv80 ms80 hw hl
            exact absurd ms80 (Nat.not_lt_zero _)
          | succ k80 ih80 =>
            intro l3_80 H locs ls r_l3_80 iv80 ms80 hw hl
            refine j_iload_n E 81 rfl dX9_passSummer_80 rfl (lv_at hl 3 rfl) ?_
            refine j_aload_n E 82 rfl dX9_passSummer_81 rfl (lv_at hl 0 rfl) ?_
            refine g_181 E hK hw fl_X9_16 t_o 85 rfl dX9_passSummer_82 ?_
            refine kV_i E (c_Jx4a65c_size_8abf5 l D cy T (upV (upV (upV v_0 22 y22_c9) 23 y23_c9) 24 y24_c9) (T 181 o)  (wt_181 hT t_o)  ) mt_Jx4a65c_size_8abf5 ml_X9_80 hK hw (cw_rc10 hK hw.1 (wt_181 hT t_o)) hA ⟨Nat.le_of_ble_eq_true rfl, Nat.le_of_ble_eq_true rfl⟩ ⟨Nat.le_of_ble_eq_true rfl, Nat.le_of_ble_eq_true rfl⟩ (As := []) (rest := [.int (J l3_80)]) rfl rfl hl.1 (Nat.le_of_ble_eq_true rfl) 88 rfl dX9_passSummer_85 (fun zz8_ v_8 H locs rr8_ hq8_ hw => ?_)
            obtain ⟨ev8_, hh8_⟩ := hq8_
            rw [ev8_] at hw; clear ev8_
            have hh8_ : zz8_ = ((v_0 202) ((T 181 o))) ∧ 0 ≤ zz8_ := hh8_
            refine j_icmp_ge E 91 149 rfl r_l3_80 rr8_ dX9_passSummer_88 (by decide) (fun cc9_ => ?_) (fun cc9_ => ?_)
            · refine j_iconst E 150 rfl dX9_passSummer_149 ?_
              refine j_istore_n E 151 rfl [(3, .int (J 0)), (0, .ref o), (1, .int (J zz1_)), (2, .int (J l2_9))] dX9_passSummer_150 rfl hl (by decide) rfl (fun ls hl => ?_)
              have L151_10 : ∀ (k151 : Nat) (l3_151 : Int) (y44_c151 : Nat → Int) (H : Heap) (locs : List Loc) (ls : Array Slot), inR l3_151 → (0 ≤ l3_151 ∧ ∀ i_ : Nat, (i_ : Int) < l3_151 → ∀ y_ : Nat, T (1000 + i_) (T 201 (T 180 o)) = y_ + 1 → (y44_c151 y_) = 0) → ((v_0 202 (T 180 o)) - l3_151).toNat < k151 → WK D cy T (upV (upV (upV (upV v_0 22 y22_c9) 23 y23_c9) 24 y24_c9) 44 y44_c151) A0 H0 H locs → lv_has ls 5 [(0, .ref o), (1, .int (J zz1_)), (2, .int (J l2_9)), (3, .int (J l3_151))] → W p l e (rmd 8 0 0) s m ar below meth c H locs 0 0 QW (F0 m 151 ls []) := by
                intro k151
                induction k151 with
                | zero =>
                  intro l3_151 y44_c151 H locs ls r_l3_151 iv151 ms151 hw hl
                  exact absurd ms151 (Nat.not_lt_zero _)
                | succ k151 ih151 =>
                  intro l3_151 y44_c151 H locs ls r_l3_151 iv151 ms151 hw hl
                  refine j_iload_n E 152 rfl dX9_passSummer_151 rfl (lv_at hl 3 rfl) ?_
                  refine j_aload_n E 153 rfl dX9_passSummer_152 rfl (lv_at hl 0 rfl) ?_
                  refine g_180 E hK hw fl_X9_12 t_o 156 rfl dX9_passSummer_153 ?_
                  refine kV_i E (c_Jx4a65c_size_8abf5 l D cy T (upV (upV (upV (upV v_0 22 y22_c9) 23 y23_c9) 24 y24_c9) 44 y44_c151) (T 180 o)  (wt_180 hT t_o)  ) mt_Jx4a65c_size_8abf5 ml_X9_80 hK hw (cw_rc10 hK hw.1 (wt_180 hT t_o)) hA ⟨Nat.le_of_ble_eq_true rfl, Nat.le_of_ble_eq_true rfl⟩ ⟨Nat.le_of_ble_eq_true rfl, Nat.le_of_ble_eq_true rfl⟩ (As := []) (rest := [.int (J l3_151)]) rfl rfl hl.1 (Nat.le_of_ble_eq_true rfl) 159 rfl dX9_passSummer_156 (fun zz12_ v_12 H locs rr12_ hq12_ hw => ?_)
                  obtain ⟨ev12_, hh12_⟩ := hq12_
                  rw [ev12_] at hw; clear ev12_
                  have hh12_ : zz12_ = ((v_0 202) ((T 180 o))) ∧ 0 ≤ zz12_ := hh12_
                  refine j_icmp_ge E 162 183 rfl r_l3_151 rr12_ dX9_passSummer_159 (by decide) (fun cc13_ => ?_) (fun cc13_ => ?_)
                  · refine j_aload_n E 184 rfl dX9_passSummer_183 rfl (lv_at hl 0 rfl) ?_
                    refine j_dup E 185 rfl dX9_passSummer_184 rfl ?_
                    refine g_187 E hK hw fl_X9_37 t_o (v_0 187 o) rfl 188 rfl dX9_passSummer_185 (fun rr14_ => ?_)
                    refine j_iconst E 189 rfl dX9_passSummer_188 ?_
                    refine j_iadd E 190 rfl dX9_passSummer_189 ?_
                    refine p_187 E hK hw fl_X9_37 t_o (rr (by omega)) 193 rfl dX9_passSummer_190 (fun H locs hw => ?_)
                    have hw : WK D cy T (upV (upV (upV (upV (upV v_0 22 y22_c9) 23 y23_c9) 24 y24_c9) 44 y44_c151) 187 (upB (v_0 187) o ((v_0 187 o) + 1))) A0 H0 H locs := cw_eq hw (by first | rfl | (funext j_; simp only [upV, reduceIte]; (repeat' split) <;> first | rfl | omega | (subst_vars; rfl)))
                    exact hret 193 (upV (upV (upV (upV (upV v_0 22 y22_c9) 23 y23_c9) 24 y24_c9) 44 y44_c151) 187 (upB (v_0 187) o ((v_0 187 o) + 1))) _ _ ls hw ⟨y22_c9, y23_c9, y24_c9, y44_c151, (upB (v_0 187) o ((v_0 187 o) + 1)), rfl, ⟨upB_same _ _ _, fun i_ h_ => iv151.2 i_ (by omega)⟩⟩ dX9_passSummer_193
                  · refine j_aload_n E 163 rfl dX9_passSummer_162 rfl (lv_at hl 0 rfl) ?_
                    refine g_180 E hK hw fl_X9_12 t_o 166 rfl dX9_passSummer_163 ?_
                    refine j_iload_n E 167 rfl dX9_passSummer_166 rfl (lv_at hl 3 rfl) ?_
                    refine kV_n E (c_Jx4a65c_get_915e3_n2 l D cy T (upV (upV (upV (upV v_0 22 y22_c9) 23 y23_c9) 24 y24_c9) 44 y44_c151) (T 180 o) l3_151  (wt_180 hT t_o) r_l3_151 (show 0 ≤ l3_151 ∧ l3_151 < ((v_0 202) ((T 180 o))) from by omega)) mt_Jx4a65c_get_915e3 ml_X9_123 hK hw (cw_rc10 hK hw.1 (wt_180 hT t_o)) hA ⟨Nat.le_of_ble_eq_true rfl, Nat.le_of_ble_eq_true rfl⟩ ⟨Nat.le_of_ble_eq_true rfl, Nat.le_of_ble_eq_true rfl⟩ (As := [.int (J l3_151)]) (rest := []) rfl rfl hl.1 (Nat.le_of_ble_eq_true rfl) 170 rfl dX9_passSummer_167 (fun xx16_ v_16 H locs hq16_ hw => ?_)
                    obtain ⟨ev16_, hh16_⟩ := hq16_
                    rw [ev16_] at hw; clear ev16_
                    have hh16_ : dcd (T (1000 + (l3_151).toNat) (T 201 (T 180 o))) = some xx16_ ∧ T 0 xx16_ = T 2 (T 180 o) := hh16_
                    have te16_ : T 0 xx16_ = 2 := hh16_.2.trans (we_180 hT t_o)
                    have hg_ := hh16_.1
                    refine k_cast2 E hK hw cl_X9_84 te16_ 173 rfl dX9_passSummer_170 ?_
                    refine j_iconst E 174 rfl dX9_passSummer_173 ?_
                    refine p_44 E hK hw fl_X9_100 te16_ (rr (by decide)) (Or.inl rfl) 177 rfl dX9_passSummer_174 (fun H locs hw => ?_)
                    have hw : WK D cy T (upV (upV (upV (upV v_0 22 y22_c9) 23 y23_c9) 24 y24_c9) 44 (upB y44_c151 xx16_ 0)) A0 H0 H locs := cw_eq hw (by first | rfl | (funext j_; simp only [upV, reduceIte]; (repeat' split) <;> first | rfl | omega | (subst_vars; rfl)))
                    refine j_iinc E 180 rfl [(3, .int (J (l3_151 + 1))), (0, .ref o), (1, .int (J zz1_)), (2, .int (J l2_9))] dX9_passSummer_177 hl (kk := 3) rfl (by decide) rfl (fun ls hl => ?_)
                    refine j_goto E 151 dX9_passSummer_180 (by decide) ?_
                    exact ih151 (l3_151 + 1) (upB y44_c151 xx16_ 0) H locs ls (rr (by omega)) (⟨by omega, aw_step iv151.2 (dcd_e hg_) (by omega)⟩) (by omega) hw (lv_sub hl [1, 2, 3, 0] rfl)
              exact L151_10 _ 0 (v_0 44) H locs ls (rr (by decide)) (⟨by omega, fun i_ h_ => absurd h_ (by omega)⟩) (Nat.lt_succ_self _) (cw_eq hw (by first | rfl | (funext j_; simp only [upV, reduceIte]; (repeat' split) <;> first | rfl | omega | (subst_vars; rfl)))) (lv_sub hl [1, 2, 3, 0] rfl)
            · refine j_aload_n E 92 rfl dX9_passSummer_91 rfl (lv_at hl 0 rfl) ?_
              refine g_181 E hK hw fl_X9_16 t_o 95 rfl dX9_passSummer_92 ?_
              refine j_iload_n E 96 rfl dX9_passSummer_95 rfl (lv_at hl 3 rfl) ?_
              refine kV_n E (c_Jx4a65c_get_915e3 l D cy T (upV (upV (upV v_0 22 y22_c9) 23 y23_c9) 24 y24_c9) (T 181 o) l3_80  (wt_181 hT t_o) r_l3_80 (show 0 ≤ l3_80 ∧ l3_80 < ((v_0 202) ((T 181 o))) from by omega)) mt_Jx4a65c_get_915e3 ml_X9_123 hK hw (cw_rc10 hK hw.1 (wt_181 hT t_o)) hA ⟨Nat.le_of_ble_eq_true rfl, Nat.le_of_ble_eq_true rfl⟩ ⟨Nat.le_of_ble_eq_true rfl, Nat.le_of_ble_eq_true rfl⟩ (As := [.int (J l3_80)]) (rest := []) rfl rfl hl.1 (Nat.le_of_ble_eq_true rfl) 99 rfl dX9_passSummer_96 (fun xx18_ v_18 H locs hq18_ hw => ?_)
              obtain ⟨ev18_, hh18_⟩ := hq18_
              rw [ev18_] at hw; clear ev18_
              have hh18_ : T 0 xx18_ = T 2 (T 181 o) := hh18_
              have te18_ : T 0 xx18_ = 1 := hh18_.trans (we_181 hT t_o)
              refine k_cast1 E hK hw cl_X9_167 te18_ 102 rfl dX9_passSummer_99 ?_
              refine g_21 E hK hw fl_X9_202 te18_ (v_0 21 xx18_) rfl 105 rfl dX9_passSummer_102 (fun rr19_ => ?_)
              refine j_if_eq E 108 122 rfl rr19_ dX9_passSummer_105 (by decide) (fun cc20_ => ?_) (fun cc20_ => ?_)
              · refine j_iconst E 123 rfl dX9_passSummer_122 ?_
                refine j_istore E 125 rfl [(4, .int (J 0)), (0, .ref o), (1, .int (J zz1_)), (2, .int (J l2_9)), (3, .int (J l3_80))] dX9_passSummer_123 hl (by decide) rfl (fun ls hl => ?_)
                refine j_iload_n E 126 rfl dX9_passSummer_125 rfl (lv_at hl 3 rfl) ?_
                refine j_iload_n E 127 rfl dX9_passSummer_126 rfl (lv_at hl 4 rfl) ?_
                refine j_iushr E 128 rfl dX9_passSummer_127 (fun zz21_ rr21_ ee21_ => ?_)
                refine j_iconst E 129 rfl dX9_passSummer_128 ?_
                refine j_iand E 130 rfl dX9_passSummer_129 (fun zz22_ rr22_ ee22_ => ?_)
                refine j_if_ne E 133 143 rfl rr22_ dX9_passSummer_130 (by decide) (fun cc23_ => ?_) (fun cc23_ => ?_)
                · refine j_iinc E 146 rfl [(3, .int (J (l3_80 + 1))), (4, .int (J 0)), (0, .ref o), (1, .int (J zz1_)), (2, .int (J l2_9))] dX9_passSummer_143 hl (kk := 4) rfl (by decide) rfl (fun ls hl => ?_)
                  refine j_goto E 80 dX9_passSummer_146 (by decide) ?_
                  exact ih80 (l3_80 + 1)  H locs ls (rr (by omega)) (by omega) (by omega) hw (lv_sub hl [2, 3, 4, 0] rfl)
                · refine j_iload E 135 rfl dX9_passSummer_133 (lv_at hl 0 rfl) ?_
                  refine j_if_ne E 138 143 rfl (rr (by decide)) dX9_passSummer_135 (by decide) (fun cc24_ => absurd cc24_ (by decide)) (fun _ => ?_)
                  refine j_aload_n E 139 rfl dX9_passSummer_138 rfl (lv_at hl 1 rfl) ?_
                  refine j_iload_n E 140 rfl dX9_passSummer_139 rfl (lv_at hl 4 rfl) ?_
                  refine kV_v E (c_X9_fade l D cy T (upV (upV (upV v_0 22 y22_c9) 23 y23_c9) 24 y24_c9) o l3_80  t_o r_l3_80 ) mt_X9_fade ml_X9_236 hK hw (cw_rc9 hK hw.1 t_o) hA ⟨Nat.le_of_ble_eq_true rfl, Nat.le_of_ble_eq_true rfl⟩ ⟨Nat.le_of_ble_eq_true rfl, Nat.le_of_ble_eq_true rfl⟩ (As := [.int (J l3_80)]) (rest := []) rfl rfl hl.1 (Nat.le_of_ble_eq_true rfl) 143 rfl dX9_passSummer_140 (fun v_25 H locs hq25_ hw => ?_)
                  obtain ⟨ev25_, hh25_⟩ := hq25_
                  rw [ev25_] at hw; clear ev25_
                  refine j_iinc E 146 rfl [(3, .int (J (l3_80 + 1))), (4, .int (J 0)), (0, .ref o), (1, .int (J zz1_)), (2, .int (J l2_9))] dX9_passSummer_143 hl (kk := 4) rfl (by decide) rfl (fun ls hl => ?_)
                  refine j_goto E 80 dX9_passSummer_146 (by decide) ?_
                  exact ih80 (l3_80 + 1)  H locs ls (rr (by omega)) (by omega) (by omega) hw (lv_sub hl [2, 3, 4, 0] rfl)
              · refine j_aload_n E 109 rfl dX9_passSummer_108 rfl (lv_at hl 0 rfl) ?_
                refine g_187 E hK hw fl_X9_37 t_o (v_0 187 o) rfl 112 rfl dX9_passSummer_109 (fun rr26_ => ?_)
                refine j_iconst E 113 rfl dX9_passSummer_112 ?_
                refine j_irem E 114 rfl dX9_passSummer_113 (by decide +kernel) (fun zz27_ rr27_ ee27_ => ?_)
                refine j_iconst E 115 rfl dX9_passSummer_114 ?_
                refine j_icmp_eq E 118 122 rfl rr27_ (rr (by decide)) dX9_passSummer_115 (by decide) (fun cc28_ => ?_) (fun cc28_ => ?_)
                · refine j_iconst E 123 rfl dX9_passSummer_122 ?_
                  refine j_istore E 125 rfl [(4, .int (J 0)), (0, .ref o), (1, .int (J zz1_)), (2, .int (J l2_9)), (3, .int (J l3_80))] dX9_passSummer_123 hl (by decide) rfl (fun ls hl => ?_)
                  refine j_iload_n E 126 rfl dX9_passSummer_125 rfl (lv_at hl 3 rfl) ?_
                  refine j_iload_n E 127 rfl dX9_passSummer_126 rfl (lv_at hl 4 rfl) ?_
                  refine j_iushr E 128 rfl dX9_passSummer_127 (fun zz29_ rr29_ ee29_ => ?_)
                  refine j_iconst E 129 rfl dX9_passSummer_128 ?_
                  refine j_iand E 130 rfl dX9_passSummer_129 (fun zz30_ rr30_ ee30_ => ?_)
                  refine j_if_ne E 133 143 rfl rr30_ dX9_passSummer_130 (by decide) (fun cc31_ => ?_) (fun cc31_ => ?_)
                  · refine j_iinc E 146 rfl [(3, .int (J (l3_80 + 1))), (4, .int (J 0)), (0, .ref o), (1, .int (J zz1_)), (2, .int (J l2_9))] dX9_passSummer_143 hl (kk := 4) rfl (by decide) rfl (fun ls hl => ?_)
                    refine j_goto E 80 dX9_passSummer_146 (by decide) ?_
                    exact ih80 (l3_80 + 1)  H locs ls (rr (by omega)) (by omega) (by omega) hw (lv_sub hl [2, 3, 4, 0] rfl)
                  · refine j_iload E 135 rfl dX9_passSummer_133 (lv_at hl 0 rfl) ?_
                    refine j_if_ne E 138 143 rfl (rr (by decide)) dX9_passSummer_135 (by decide) (fun cc32_ => absurd cc32_ (by decide)) (fun _ => ?_)
                    refine j_aload_n E 139 rfl dX9_passSummer_138 rfl (lv_at hl 1 rfl) ?_
                    refine j_iload_n E 140 rfl dX9_passSummer_139 rfl (lv_at hl 4 rfl) ?_
                    refine kV_v E (c_X9_fade l D cy T (upV (upV (upV v_0 22 y22_c9) 23 y23_c9) 24 y24_c9) o l3_80  t_o r_l3_80 ) mt_X9_fade ml_X9_236 hK hw (cw_rc9 hK hw.1 t_o) hA ⟨Nat.le_of_ble_eq_true rfl, Nat.le_of_ble_eq_true rfl⟩ ⟨Nat.le_of_ble_eq_true rfl, Nat.le_of_ble_eq_true rfl⟩ (As := [.int (J l3_80)]) (rest := []) rfl rfl hl.1 (Nat.le_of_ble_eq_true rfl) 143 rfl dX9_passSummer_140 (fun v_33 H locs hq33_ hw => ?_)
                    obtain ⟨ev33_, hh33_⟩ := hq33_
                    rw [ev33_] at hw; clear ev33_
                    refine j_iinc E 146 rfl [(3, .int (J (l3_80 + 1))), (4, .int (J 0)), (0, .ref o), (1, .int (J zz1_)), (2, .int (J l2_9))] dX9_passSummer_143 hl (kk := 4) rfl (by decide) rfl (fun ls hl => ?_)
                    refine j_goto E 80 dX9_passSummer_146 (by decide) ?_
                    exact ih80 (l3_80 + 1)  H locs ls (rr (by omega)) (by omega) (by omega) hw (lv_sub hl [2, 3, 4, 0] rfl)
                · refine j_iconst E 119 rfl dX9_passSummer_118 ?_
                  refine j_goto E 123 dX9_passSummer_119 (by decide) ?_
                  refine j_istore E 125 rfl [(4, .int (J 1)), (0, .ref o), (1, .int (J zz1_)), (2, .int (J l2_9)), (3, .int (J l3_80))] dX9_passSummer_123 hl (by decide) rfl (fun ls hl => ?_)
                  refine j_iload_n E 126 rfl dX9_passSummer_125 rfl (lv_at hl 3 rfl) ?_
                  refine j_iload_n E 127 rfl dX9_passSummer_126 rfl (lv_at hl 4 rfl) ?_
                  refine j_iushr E 128 rfl dX9_passSummer_127 (fun zz34_ rr34_ ee34_ => ?_)
                  refine j_iconst E 129 rfl dX9_passSummer_128 ?_
                  refine j_iand E 130 rfl dX9_passSummer_129 (fun zz35_ rr35_ ee35_ => ?_)
                  refine j_if_ne E 133 143 rfl rr35_ dX9_passSummer_130 (by decide) (fun cc36_ => ?_) (fun cc36_ => ?_)
                  · refine j_iinc E 146 rfl [(3, .int (J (l3_80 + 1))), (4, .int (J 1)), (0, .ref o), (1, .int (J zz1_)), (2, .int (J l2_9))] dX9_passSummer_143 hl (kk := 4) rfl (by decide) rfl (fun ls hl => ?_)
                    refine j_goto E 80 dX9_passSummer_146 (by decide) ?_
                    exact ih80 (l3_80 + 1)  H locs ls (rr (by omega)) (by omega) (by omega) hw (lv_sub hl [2, 3, 4, 0] rfl)
                  · refine j_iload E 135 rfl dX9_passSummer_133 (lv_at hl 0 rfl) ?_
                    refine j_if_ne E 138 143 rfl (rr (by decide)) dX9_passSummer_135 (by decide) (fun _ => ?_) (fun cc37_ => absurd cc37_ (by decide))
                    refine j_iinc E 146 rfl [(3, .int (J (l3_80 + 1))), (4, .int (J 1)), (0, .ref o), (1, .int (J zz1_)), (2, .int (J l2_9))] dX9_passSummer_143 hl (kk := 4) rfl (by decide) rfl (fun ls hl => ?_)
                    refine j_goto E 80 dX9_passSummer_146 (by decide) ?_
                    exact ih80 (l3_80 + 1)  H locs ls (rr (by omega)) (by omega) (by omega) hw (lv_sub hl [2, 3, 4, 0] rfl)
        exact L80_6 _ 0  H locs ls (rr (by decide)) (by omega) (Nat.lt_succ_self _) hw (lv_sub hl [1, 2, 3, 0] rfl)
      · refine j_aload_n E 21 rfl dX9_passSummer_20 rfl (lv_at hl 0 rfl) ?_
        refine g_181 E hK hw fl_X9_16 t_o 24 rfl dX9_passSummer_21 ?_
        refine j_iload_n E 25 rfl dX9_passSummer_24 rfl (lv_at hl 3 rfl) ?_
        refine kV_n E (c_Jx4a65c_get_915e3 l D cy T (upV (upV (upV v_0 22 y22_c9) 23 y23_c9) 24 y24_c9) (T 181 o) l3_9  (wt_181 hT t_o) r_l3_9 (show 0 ≤ l3_9 ∧ l3_9 < ((v_0 202) ((T 181 o))) from by omega)) mt_Jx4a65c_get_915e3 ml_X9_123 hK hw (cw_rc10 hK hw.1 (wt_181 hT t_o)) hA ⟨Nat.le_of_ble_eq_true rfl, Nat.le_of_ble_eq_true rfl⟩ ⟨Nat.le_of_ble_eq_true rfl, Nat.le_of_ble_eq_true rfl⟩ (As := [.int (J l3_9)]) (rest := []) rfl rfl hl.1 (Nat.le_of_ble_eq_true rfl) 28 rfl dX9_passSummer_25 (fun xx38_ v_38 H locs hq38_ hw => ?_)
        obtain ⟨ev38_, hh38_⟩ := hq38_
        rw [ev38_] at hw; clear ev38_
        have hh38_ : T 0 xx38_ = T 2 (T 181 o) := hh38_
        have te38_ : T 0 xx38_ = 1 := hh38_.trans (we_181 hT t_o)
        refine k_cast1 E hK hw cl_X9_167 te38_ 31 rfl dX9_passSummer_28 ?_
        refine j_astore E 33 rfl [(4, .ref xx38_), (0, .ref o), (1, .int (J zz1_)), (2, .int (J l2_9)), (3, .int (J l3_9))] dX9_passSummer_31 hl (by decide) rfl (fun ls hl => ?_)
        refine j_aload E 35 rfl dX9_passSummer_33 (lv_at hl 0 rfl) ?_
        refine g_20 E hK hw fl_X9_199 te38_ (v_0 20 xx38_) rfl 38 rfl dX9_passSummer_35 (fun rr39_ => ?_)
        refine j_aload_n E 39 rfl dX9_passSummer_38 rfl (lv_at hl 1 rfl) ?_
        refine g_187 E hK hw fl_X9_37 t_o (v_0 187 o) rfl 42 rfl dX9_passSummer_39 (fun rr40_ => ?_)
        refine j_iconst E 43 rfl dX9_passSummer_42 ?_
        refine j_irem E 44 rfl dX9_passSummer_43 (by decide +kernel) (fun zz41_ rr41_ ee41_ => ?_)
        refine j_icmp_ne E 47 72 rfl rr39_ rr41_ dX9_passSummer_44 (by decide) (fun cc42_ => ?_) (fun cc42_ => ?_)
        · refine j_iinc E 75 rfl [(3, .int (J (l3_9 + 1))), (4, .ref xx38_), (0, .ref o), (1, .int (J zz1_)), (2, .int (J l2_9))] dX9_passSummer_72 hl (kk := 4) rfl (by decide) rfl (fun ls hl => ?_)
          refine j_goto E 9 dX9_passSummer_75 (by decide) ?_
          exact ih9 l2_9 (l3_9 + 1) y22_c9 y23_c9 y24_c9 H locs ls r_l2_9 (rr (by omega)) (by first | omega | (simp only [upB_same]; omega)) (by omega) hw (lv_sub hl [2, 3, 4, 0] rfl)
        · refine j_aload E 49 rfl dX9_passSummer_47 (lv_at hl 0 rfl) ?_
          refine kV_i E (c_X0_isDead l D cy T (upV (upV (upV v_0 22 y22_c9) 23 y23_c9) 24 y24_c9) xx38_  te38_  ) mt_X0_isDead ml_X9_223 hK hw (cw_rc1 hK hw.1 te38_) hA ⟨Nat.le_of_ble_eq_true rfl, Nat.le_of_ble_eq_true rfl⟩ ⟨Nat.le_of_ble_eq_true rfl, Nat.le_of_ble_eq_true rfl⟩ (As := []) (rest := []) rfl rfl hl.1 (Nat.le_of_ble_eq_true rfl) 52 rfl dX9_passSummer_49 (fun zz43_ v_43 H locs rr43_ hq43_ hw => ?_)
          obtain ⟨ev43_, hh43_⟩ := hq43_
          rw [ev43_] at hw; clear ev43_
          refine j_if_ne E 55 72 rfl rr43_ dX9_passSummer_52 (by decide) (fun cc44_ => ?_) (fun cc44_ => ?_)
          · refine j_iinc E 75 rfl [(3, .int (J (l3_9 + 1))), (4, .ref xx38_), (0, .ref o), (1, .int (J zz1_)), (2, .int (J l2_9))] dX9_passSummer_72 hl (kk := 4) rfl (by decide) rfl (fun ls hl => ?_)
            refine j_goto E 9 dX9_passSummer_75 (by decide) ?_
            exact ih9 l2_9 (l3_9 + 1) y22_c9 y23_c9 y24_c9 H locs ls r_l2_9 (rr (by omega)) (by first | omega | (simp only [upB_same]; omega)) (by omega) hw (lv_sub hl [2, 3, 4, 0] rfl)
          · refine j_aload_n E 56 rfl dX9_passSummer_55 rfl (lv_at hl 1 rfl) ?_
            refine j_iload_n E 57 rfl dX9_passSummer_56 rfl (lv_at hl 4 rfl) ?_
            refine j_aload E 59 rfl dX9_passSummer_57 (lv_at hl 0 rfl) ?_
            refine j_iload_n E 60 rfl dX9_passSummer_59 rfl (lv_at hl 2 rfl) ?_
            refine kV_i E (c_X9_callLine l D cy T (upV (upV (upV v_0 22 y22_c9) 23 y23_c9) 24 y24_c9) o l3_9 xx38_ zz1_  t_o r_l3_9 te38_ rr1_ ) mt_X9_callLine ml_X9_232 hK hw (cw_rc9 hK hw.1 t_o) hA ⟨Nat.le_of_ble_eq_true rfl, Nat.le_of_ble_eq_true rfl⟩ ⟨Nat.le_of_ble_eq_true rfl, Nat.le_of_ble_eq_true rfl⟩ (As := [.int (J l3_9), .ref xx38_, .int (J zz1_)]) (rest := []) rfl rfl hl.1 (Nat.le_of_ble_eq_true rfl) 63 rfl dX9_passSummer_60 (fun zz45_ v_45 H locs rr45_ hq45_ hw => ?_)
            obtain ⟨y22_45, y23_45, y24_45, ev45_, hh45_⟩ := hq45_
            rw [ev45_] at hw; clear ev45_
            have hw : WK D cy T (upV (upV (upV v_0 22 y22_45) 23 y23_45) 24 y24_45) A0 H0 H locs := cw_eq hw (by first | rfl | (funext j_; simp only [upV, reduceIte]; (repeat' split) <;> first | rfl | omega | (subst_vars; rfl)))
            refine j_if_eq E 66 72 rfl rr45_ dX9_passSummer_63 (by decide) (fun cc46_ => ?_) (fun cc46_ => ?_)
            · refine j_iinc E 75 rfl [(3, .int (J (l3_9 + 1))), (4, .ref xx38_), (0, .ref o), (1, .int (J zz1_)), (2, .int (J l2_9))] dX9_passSummer_72 hl (kk := 4) rfl (by decide) rfl (fun ls hl => ?_)
              refine j_goto E 9 dX9_passSummer_75 (by decide) ?_
              exact ih9 l2_9 (l3_9 + 1) y22_45 y23_45 y24_45 H locs ls r_l2_9 (rr (by omega)) (by first | omega | (simp only [upB_same]; omega)) (by omega) hw (lv_sub hl [2, 3, 4, 0] rfl)
            · refine j_iload_n E 67 rfl dX9_passSummer_66 rfl (lv_at hl 3 rfl) ?_
              refine j_iconst E 68 rfl dX9_passSummer_67 ?_
              refine j_iload_n E 69 rfl dX9_passSummer_68 rfl (lv_at hl 4 rfl) ?_
              refine j_ishl E 70 rfl dX9_passSummer_69 (fun zz47_ rr47_ ee47_ => ?_)
              refine j_ior E 71 rfl dX9_passSummer_70 (fun zz48_ rr48_ ee48_ => ?_)
              refine j_istore_n E 72 rfl [(2, .int (J zz48_)), (4, .ref xx38_), (0, .ref o), (1, .int (J zz1_)), (3, .int (J l3_9))] dX9_passSummer_71 rfl hl (by decide) rfl (fun ls hl => ?_)
              refine j_iinc E 75 rfl [(3, .int (J (l3_9 + 1))), (2, .int (J zz48_)), (4, .ref xx38_), (0, .ref o), (1, .int (J zz1_))] dX9_passSummer_72 hl (kk := 4) rfl (by decide) rfl (fun ls hl => ?_)
              refine j_goto E 9 dX9_passSummer_75 (by decide) ?_
              exact ih9 zz48_ (l3_9 + 1) y22_45 y23_45 y24_45 H locs ls rr48_ (rr (by omega)) (by first | omega | (simp only [upB_same]; omega)) (by omega) hw (lv_sub hl [3, 4, 1, 0] rfl)
  exact L9_2 _ 0 0 (v_0 22) (v_0 23) (v_0 24) H locs ls (rr (by decide)) (rr (by decide)) (by first | omega | (simp only [upB_same]; omega)) (Nat.lt_succ_self _) (cw_eq hw (by first | rfl | (funext j_; simp only [upV, reduceIte]; (repeat' split) <;> first | rfl | omega | (subst_vars; rfl)))) (lv_sub hl [3, 2, 1, 0] rfl)
set_option maxHeartbeats 4000000 in
set_option maxRecDepth 100000 in
theorem c_X9_summers_n3 (l : Launch) (D : va_G) (cy : Nat → ClassId) (T : Nat → Nat → Nat) (v_0 : Nat → Nat → Int) (o : Nat) (v_n : Int) (t_o : T 0 o = 9) (r_v_n : inR v_n) (hp0 : 0 ≤ (v_0 187 o) ∧ (v_0 187 o) ≤ 199) : KC l D cy T yX9_summers cX9_summers 3 (some .int) 9 [.ref o, .int (J v_n)] v_0 (KI (fun (z_0 : Int) (v_2 : Nat → Nat → Int) => ∃ (y22_2 : Nat → Int) (y23_2 : Nat → Int) (y24_2 : Nat → Int) (y44_2 : Nat → Int) (y187_2 : Nat → Int) , v_2 = upV (upV (upV (upV (upV v_0 22 y22_2) 23 y23_2) 24 y24_2) 44 y44_2) 187 y187_2 ∧ ((z_0 = -1 ∧ (v_n < 1 ∨ 20 < v_n ∨ 199 < (v_0 187 o) + v_n) ∧ (y187_2 o) = (v_0 187 o) ∧ (y44_2) = (v_0 44)) ∨ (z_0 = (y187_2 o) ∧ 1 ≤ v_n ∧ v_n ≤ 20 ∧ (v_0 187 o) + v_n ≤ 199 ∧ (y187_2 o) = (v_0 187 o) + v_n ∧ ∀ i_ : Nat, (i_ : Int) < (v_0 202 (T 180 o)) → ∀ y_ : Nat, T (1000 + i_) (T 201 (T 180 o)) = y_ + 1 → (y44_2 y_) = 0)))) := by
  refine KC.ofi (by decide) (Nat.le_of_ble_eq_true rfl) ?_
  intro p e s m below meth c ls ar QW A0 H0 H locs E hK hA hw hl hret
  have hl : lv_has ls 3 [(0, .ref o), (1, .int (J v_n))] := hl
  have hT : WT T := hw.1.2.1
  refine j_iload_n E 1 rfl dX9_summers_0 rfl (lv_at hl 1 rfl) ?_
  refine j_iconst E 2 rfl dX9_summers_1 ?_
  refine j_icmp_lt E 5 23 rfl r_v_n (rr (by decide)) dX9_summers_2 (by decide) (fun cc1_ => ?_) (fun cc1_ => ?_)
  · refine j_iconst E 24 rfl dX9_summers_23 ?_
    exact hret 24 ((-1)) (upV (upV (upV (upV (upV v_0 22 (v_0 22)) 23 (v_0 23)) 24 (v_0 24)) 44 (v_0 44)) 187 (v_0 187)) _ _ ls (cw_eq hw (by first | rfl | (funext j_; simp only [upV, reduceIte]; (repeat' split) <;> first | rfl | omega | (subst_vars; rfl)))) (rr (by decide)) ⟨(v_0 22), (v_0 23), (v_0 24), (v_0 44), (v_0 187), rfl, Or.inl ⟨rfl, by omega, rfl, rfl⟩⟩ dX9_summers_24
  · refine j_iload_n E 6 rfl dX9_summers_5 rfl (lv_at hl 1 rfl) ?_
    refine j_bipush E 8 rfl dX9_summers_6 (by decide) ?_
    refine j_icmp_gt E 11 23 rfl r_v_n (rr (by decide)) dX9_summers_8 (by decide) (fun cc2_ => ?_) (fun cc2_ => ?_)
    · refine j_iconst E 24 rfl dX9_summers_23 ?_
      exact hret 24 ((-1)) (upV (upV (upV (upV (upV v_0 22 (v_0 22)) 23 (v_0 23)) 24 (v_0 24)) 44 (v_0 44)) 187 (v_0 187)) _ _ ls (cw_eq hw (by first | rfl | (funext j_; simp only [upV, reduceIte]; (repeat' split) <;> first | rfl | omega | (subst_vars; rfl)))) (rr (by decide)) ⟨(v_0 22), (v_0 23), (v_0 24), (v_0 44), (v_0 187), rfl, Or.inl ⟨rfl, by omega, rfl, rfl⟩⟩ dX9_summers_24
    · refine j_aload_n E 12 rfl dX9_summers_11 rfl (lv_at hl 0 rfl) ?_
      refine g_187 E hK hw fl_X9_37 t_o (v_0 187 o) rfl 15 rfl dX9_summers_12 (fun rr3_ => ?_)
      refine j_iload_n E 16 rfl dX9_summers_15 rfl (lv_at hl 1 rfl) ?_
      refine j_iadd E 17 rfl dX9_summers_16 ?_
      refine j_sipush E 20 rfl dX9_summers_17 (by decide) ?_
      refine j_icmp_le E 23 25 rfl (rr (by omega)) (rr (by decide)) dX9_summers_20 (by decide) (fun cc4_ => ?_) (fun cc4_ => ?_)
      · refine j_iconst E 26 rfl dX9_summers_25 ?_
        refine j_istore_n E 27 rfl [(2, .int (J 0)), (0, .ref o), (1, .int (J v_n))] dX9_summers_26 rfl hl (by decide) rfl (fun ls hl => ?_)
        have L27_5 : ∀ (k27 : Nat) (l2_27 : Int) (y22_c27 : Nat → Int) (y23_c27 : Nat → Int) (y24_c27 : Nat → Int) (y44_c27 : Nat → Int) (y187_c27 : Nat → Int) (H : Heap) (locs : List Loc) (ls : Array Slot), inR l2_27 → ((0 ≤ l2_27 ∧ l2_27 ≤ v_n ∧ (y187_c27 o) = (v_0 187 o) + l2_27) ∧ (0 < l2_27 → ∀ i_ : Nat, (i_ : Int) < (v_0 202 (T 180 o)) → ∀ y_ : Nat, T (1000 + i_) (T 201 (T 180 o)) = y_ + 1 → (y44_c27 y_) = 0)) → (v_n - l2_27).toNat < k27 → WK D cy T (upV (upV (upV (upV (upV v_0 22 y22_c27) 23 y23_c27) 24 y24_c27) 44 y44_c27) 187 y187_c27) A0 H0 H locs → lv_has ls 3 [(0, .ref o), (1, .int (J v_n)), (2, .int (J l2_27))] → W p l e (rmd 9 0 0) s m ar below meth c H locs 0 0 QW (F0 m 27 ls []) := by
          intro k27
          induction k27 with
          | zero =>
            intro l2_27 y22_c27 y23_c27 y24_c27 y44_c27 y187_c27 H locs ls r_l2_27 iv27 ms27 hw hl
            exact absurd ms27 (Nat.not_lt_zero _)
          | succ k27 ih27 =>
            intro l2_27 y22_c27 y23_c27 y24_c27 y44_c27 y187_c27 H locs ls r_l2_27 iv27 ms27 hw hl
            refine j_iload_n E 28 rfl dX9_summers_27 rfl (lv_at hl 2 rfl) ?_
            refine j_iload_n E 29 rfl dX9_summers_28 rfl (lv_at hl 1 rfl) ?_
            refine j_icmp_ge E 32 42 rfl r_l2_27 r_v_n dX9_summers_29 (by decide) (fun cc7_ => ?_) (fun cc7_ => ?_)
            · refine j_aload_n E 43 rfl dX9_summers_42 rfl (lv_at hl 0 rfl) ?_
              refine g_187 E hK hw fl_X9_37 t_o (y187_c27 o) rfl 46 rfl dX9_summers_43 (fun rr8_ => ?_)
              exact hret 46 (y187_c27 o) (upV (upV (upV (upV (upV v_0 22 y22_c27) 23 y23_c27) 24 y24_c27) 44 y44_c27) 187 y187_c27) _ _ ls hw rr8_ ⟨y22_c27, y23_c27, y24_c27, y44_c27, y187_c27, rfl, Or.inr ⟨rfl, by omega, by omega, by omega, by omega, iv27.2 (by omega)⟩⟩ dX9_summers_46
            · refine j_aload_n E 33 rfl dX9_summers_32 rfl (lv_at hl 0 rfl) ?_
              refine kV_v E (c_X9_passSummer_n3 l D cy T (upV (upV (upV (upV (upV v_0 22 y22_c27) 23 y23_c27) 24 y24_c27) 44 y44_c27) 187 y187_c27) o  t_o  (show 0 ≤ (y187_c27 o) ∧ (y187_c27 o) ≤ 198 from by omega)) mt_X9_passSummer ml_X9_226 hK hw (cw_rc9 hK hw.1 t_o) hA ⟨Nat.le_of_ble_eq_true rfl, Nat.le_of_ble_eq_true rfl⟩ ⟨Nat.le_of_ble_eq_true rfl, Nat.le_of_ble_eq_true rfl⟩ (As := []) (rest := []) rfl rfl hl.1 (Nat.le_of_ble_eq_true rfl) 36 rfl dX9_summers_33 (fun v_9 H locs hq9_ hw => ?_)
              obtain ⟨y22_9, y23_9, y24_9, y44_9, y187_9, ev9_, hh9_⟩ := hq9_
              rw [ev9_] at hw; clear ev9_
              have hw : WK D cy T (upV (upV (upV (upV (upV v_0 22 y22_9) 23 y23_9) 24 y24_9) 44 y44_9) 187 y187_9) A0 H0 H locs := cw_eq hw (by first | rfl | (funext j_; simp only [upV, reduceIte]; (repeat' split) <;> first | rfl | omega | (subst_vars; rfl)))
              have hh9_ : (y187_9 o) = (y187_c27 o) + 1 ∧ ∀ i_ : Nat, (i_ : Int) < ((v_0 202) (T 180 o)) → ∀ y_ : Nat, T (1000 + i_) (T 201 (T 180 o)) = y_ + 1 → (y44_9 y_) = 0 := hh9_
              have ha_ := hh9_.2
              refine j_iinc E 39 rfl [(2, .int (J (l2_27 + 1))), (0, .ref o), (1, .int (J v_n))] dX9_summers_36 hl (kk := 2) rfl (by decide) rfl (fun ls hl => ?_)
              refine j_goto E 27 dX9_summers_39 (by decide) ?_
              exact ih27 (l2_27 + 1) y22_9 y23_9 y24_9 y44_9 y187_9 H locs ls (rr (by omega)) (⟨by omega, fun _ => ha_⟩) (by omega) hw (lv_sub hl [1, 2, 0] rfl)
        exact L27_5 _ 0 (v_0 22) (v_0 23) (v_0 24) (v_0 44) (v_0 187) H locs ls (rr (by decide)) (⟨by omega, fun h_ => absurd h_ (by omega)⟩) (Nat.lt_succ_self _) (cw_eq hw (by first | rfl | (funext j_; simp only [upV, reduceIte]; (repeat' split) <;> first | rfl | omega | (subst_vars; rfl)))) (lv_sub hl [1, 2, 0] rfl)
      · refine j_iconst E 24 rfl dX9_summers_23 ?_
        exact hret 24 ((-1)) (upV (upV (upV (upV (upV v_0 22 (v_0 22)) 23 (v_0 23)) 24 (v_0 24)) 44 (v_0 44)) 187 (v_0 187)) _ _ ls (cw_eq hw (by first | rfl | (funext j_; simp only [upV, reduceIte]; (repeat' split) <;> first | rfl | omega | (subst_vars; rfl)))) (rr (by decide)) ⟨(v_0 22), (v_0 23), (v_0 24), (v_0 44), (v_0 187), rfl, Or.inl ⟨rfl, by omega, rfl, rfl⟩⟩ dX9_summers_24
