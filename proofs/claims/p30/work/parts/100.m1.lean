

set_option maxHeartbeats 4000000 in
set_option maxRecDepth 100000 in
theorem c_X10_isIn (l : Launch) (D : va_G) (cy : Nat → ClassId) (q : Nat → Nat) (n_0 : Nat → Int) (f_0 : Nat → Int → Int) (v_v v_lo v_hi : Int) (r_v_v : inR v_v) (r_v_lo : inR v_lo) (r_v_hi : inR v_hi) : MC l D cy q yX10_isIn cX10_isIn 4 (some .boolean) 0 [.int (J v_v), .int (J v_lo), .int (J v_hi)] n_0 f_0 (PI (fun (z_0 : Int) (n_2 : Nat → Int) (f_2 : Nat → Int → Int) => (n_2 = n_0 ∧ f_2 = f_0) ∧ ((z_0 = 1 ∧ v_lo ≤ v_v ∧ v_v ≤ v_hi) ∨ (z_0 = 0 ∧ (v_v < v_lo ∨ v_hi < v_v))))) := by
  refine MC.ofz rfl (Nat.le_of_ble_eq_true rfl) ?_
  intro p e s m below meth c ls ar QW A0 H0 H locs E hK hA hw hl hret
  have hl : lv_has ls 4 [(0, .ref (q 0)), (1, .int (J v_v)), (2, .int (J v_lo)), (3, .int (J v_hi))] := hl
  refine j_iload_n E 1 rfl dX10_isIn_0 rfl (lv_at hl 1 rfl) ?_
  refine j_iload_n E 2 rfl dX10_isIn_1 rfl (lv_at hl 2 rfl) ?_
  refine j_icmp_lt E 5 14 rfl r_v_v r_v_lo dX10_isIn_2 (by decide) (fun cc1_ => ?_) (fun cc1_ => ?_)
  · refine j_iconst E 15 rfl dX10_isIn_14 ?_
    exact hret 15 0 (n_0) (f_0) _ _ ls hw (Or.inl rfl) ⟨⟨rfl, rfl⟩, by omega⟩ dX10_isIn_15
  · refine j_iload_n E 6 rfl dX10_isIn_5 rfl (lv_at hl 1 rfl) ?_
    refine j_iload_n E 7 rfl dX10_isIn_6 rfl (lv_at hl 3 rfl) ?_
    refine j_icmp_gt E 10 14 rfl r_v_v r_v_hi dX10_isIn_7 (by decide) (fun cc2_ => ?_) (fun cc2_ => ?_)
    · refine j_iconst E 15 rfl dX10_isIn_14 ?_
      exact hret 15 0 (n_0) (f_0) _ _ ls hw (Or.inl rfl) ⟨⟨rfl, rfl⟩, by omega⟩ dX10_isIn_15
    · refine j_iconst E 11 rfl dX10_isIn_10 ?_
      refine j_goto E 15 dX10_isIn_11 (by decide) ?_
      exact hret 15 1 (n_0) (f_0) _ _ ls hw (Or.inr rfl) ⟨⟨rfl, rfl⟩, by omega⟩ dX10_isIn_15
set_option maxHeartbeats 4000000 in
set_option maxRecDepth 100000 in
theorem c_X10_isPerson (l : Launch) (D : va_G) (cy : Nat → ClassId) (q : Nat → Nat) (n_0 : Nat → Int) (f_0 : Nat → Int → Int) (v_p : Int) (r_v_p : inR v_p) : MC l D cy q yX10_isPerson cX10_isPerson 2 (some .boolean) 0 [.int (J v_p)] n_0 f_0 (PI (fun (z_0 : Int) (n_2 : Nat → Int) (f_2 : Nat → Int → Int) => (n_2 = n_0 ∧ f_2 = f_0) ∧ ((z_0 = 1 ∧ 0 ≤ v_p ∧ v_p < (n_0 2)) ∨ (z_0 = 0 ∧ (v_p < 0 ∨ (n_0 2) ≤ v_p))))) := by
  refine MC.ofz rfl (Nat.le_of_ble_eq_true rfl) ?_
  intro p e s m below meth c ls ar QW A0 H0 H locs E hK hA hw hl hret
  have hl : lv_has ls 2 [(0, .ref (q 0)), (1, .int (J v_p))] := hl
  refine j_iload_n E 1 rfl dX10_isPerson_0 rfl (lv_at hl 1 rfl) ?_
  refine j_if_lt E 4 16 rfl r_v_p dX10_isPerson_1 (by decide) (fun cc1_ => ?_) (fun cc1_ => ?_)
  · refine j_iconst E 17 rfl dX10_isPerson_16 ?_
    exact hret 17 0 (n_0) (f_0) _ _ ls hw (Or.inl rfl) ⟨⟨rfl, rfl⟩, by omega⟩ dX10_isPerson_17
  · refine j_iload_n E 5 rfl dX10_isPerson_4 rfl (lv_at hl 1 rfl) ?_
    refine j_aload_n E 6 rfl dX10_isPerson_5 rfl (lv_at hl 0 rfl) ?_
    refine m_get_2 E hK hw (n_0 2) rfl 9 rfl dX10_isPerson_6 (fun rr2_ => ?_)
    refine j_icmp_ge E 12 16 rfl r_v_p rr2_ dX10_isPerson_9 (by decide) (fun cc3_ => ?_) (fun cc3_ => ?_)
    · refine j_iconst E 17 rfl dX10_isPerson_16 ?_
      exact hret 17 0 (n_0) (f_0) _ _ ls hw (Or.inl rfl) ⟨⟨rfl, rfl⟩, by omega⟩ dX10_isPerson_17
    · refine j_iconst E 13 rfl dX10_isPerson_12 ?_
      refine j_goto E 17 dX10_isPerson_13 (by decide) ?_
      exact hret 17 1 (n_0) (f_0) _ _ ls hw (Or.inr rfl) ⟨⟨rfl, rfl⟩, by omega⟩ dX10_isPerson_17
set_option maxHeartbeats 4000000 in
set_option maxRecDepth 100000 in
theorem c_X10_isLiving (l : Launch) (D : va_G) (cy : Nat → ClassId) (q : Nat → Nat) (n_0 : Nat → Int) (f_0 : Nat → Int → Int) (v_p : Int) (r_v_p : inR v_p) (hp0 : (n_0 2) ≤ 24) : MC l D cy q yX10_isLiving cX10_isLiving 2 (some .boolean) 1 [.int (J v_p)] n_0 f_0 (PI (fun (z_0 : Int) (n_2 : Nat → Int) (f_2 : Nat → Int → Int) => (n_2 = n_0 ∧ f_2 = f_0) ∧ ((z_0 = 1 ∧ 0 ≤ v_p ∧ v_p < (n_0 2) ∧ (f_0 6 v_p) = -1) ∨ (z_0 = 0 ∧ ¬ (0 ≤ v_p ∧ v_p < (n_0 2) ∧ (f_0 6 v_p) = -1))))) := by
  refine MC.ofz rfl (Nat.le_of_ble_eq_true rfl) ?_
  intro p e s m below meth c ls ar QW A0 H0 H locs E hK hA hw hl hret
  have hl : lv_has ls 2 [(0, .ref (q 0)), (1, .int (J v_p))] := hl
  refine j_aload_n E 1 rfl dX10_isLiving_0 rfl (lv_at hl 0 rfl) ?_
  refine j_iload_n E 2 rfl dX10_isLiving_1 rfl (lv_at hl 1 rfl) ?_
  refine m_callp (po := fun z_0 => (z_0 = 1 ∧ 0 ≤ v_p ∧ v_p < (n_0 2)) ∨ (z_0 = 0 ∧ (v_p < 0 ∨ (n_0 2) ≤ v_p))) E (c_X10_isPerson l D cy q (n_0) (f_0) v_p  r_v_p ) rfl mt_X10_isPerson ml_X10_165 hK hw hA ⟨Nat.le_of_ble_eq_true rfl, Nat.le_of_ble_eq_true rfl⟩ (As := [.int (J v_p)]) (rest := []) rfl rfl hl.1 (Nat.le_of_ble_eq_true rfl) 5 rfl dX10_isLiving_2 (fun zz1_ H locs rr1_ hq1_ hw => ?_)
  have hh1_ : (zz1_ = 1 ∧ 0 ≤ v_p ∧ v_p < (n_0 2)) ∨ (zz1_ = 0 ∧ (v_p < 0 ∨ (n_0 2) ≤ v_p)) := hq1_
  clear hq1_
  rcases hh1_ with ⟨ee1_, hh1_⟩ | ⟨ee1_, hh1_⟩
  · subst ee1_
    refine j_if_eq E 8 22 rfl (rr (by decide)) dX10_isLiving_5 (by decide) (fun cc2_ => absurd cc2_ (by decide)) (fun _ => ?_)
    refine j_aload_n E 9 rfl dX10_isLiving_8 rfl (lv_at hl 0 rfl) ?_
    refine m_ag_6 E hK hw 12 rfl dX10_isLiving_9 ?_
    refine j_iload_n E 13 rfl dX10_isLiving_12 rfl (lv_at hl 1 rfl) ?_
    refine m_ld_6 E hK hw (f_0 6 v_p) rfl (by omega) 14 rfl dX10_isLiving_13 (fun rr3_ => ?_)
    refine j_iconst E 15 rfl dX10_isLiving_14 ?_
    refine j_icmp_ne E 18 22 rfl rr3_ (rr (by decide)) dX10_isLiving_15 (by decide) (fun cc4_ => ?_) (fun cc4_ => ?_)
    · refine j_iconst E 23 rfl dX10_isLiving_22 ?_
      exact hret 23 0 (n_0) (f_0) _ _ ls hw (Or.inl rfl) ⟨⟨rfl, rfl⟩, by omega⟩ dX10_isLiving_23
    · refine j_iconst E 19 rfl dX10_isLiving_18 ?_
      refine j_goto E 23 dX10_isLiving_19 (by decide) ?_
      exact hret 23 1 (n_0) (f_0) _ _ ls hw (Or.inr rfl) ⟨⟨rfl, rfl⟩, by omega⟩ dX10_isLiving_23
  · subst ee1_
    refine j_if_eq E 8 22 rfl (rr (by decide)) dX10_isLiving_5 (by decide) (fun _ => ?_) (fun cc5_ => absurd cc5_ (by decide))
    refine j_iconst E 23 rfl dX10_isLiving_22 ?_
    exact hret 23 0 (n_0) (f_0) _ _ ls hw (Or.inl rfl) ⟨⟨rfl, rfl⟩, by omega⟩ dX10_isLiving_23
set_option maxHeartbeats 4000000 in
set_option maxRecDepth 100000 in
theorem c_X10_isFact (l : Launch) (D : va_G) (cy : Nat → ClassId) (q : Nat → Nat) (n_0 : Nat → Int) (f_0 : Nat → Int → Int) (v_v v_most : Int) (r_v_v : inR v_v) (r_v_most : inR v_most) : MC l D cy q yX10_isFact cX10_isFact 3 (some .boolean) 1 [.int (J v_v), .int (J v_most)] n_0 f_0 (PI (fun (z_0 : Int) (n_2 : Nat → Int) (f_2 : Nat → Int → Int) => (n_2 = n_0 ∧ f_2 = f_0) ∧ ((z_0 = 1 ∧ 0 ≤ v_v ∧ v_v ≤ v_most) ∨ (z_0 = 0 ∧ (v_v < 0 ∨ v_most < v_v))))) := by
  refine MC.ofz rfl (Nat.le_of_ble_eq_true rfl) ?_
  intro p e s m below meth c ls ar QW A0 H0 H locs E hK hA hw hl hret
  have hl : lv_has ls 3 [(0, .ref (q 0)), (1, .int (J v_v)), (2, .int (J v_most))] := hl
  refine j_aload_n E 1 rfl dX10_isFact_0 rfl (lv_at hl 0 rfl) ?_
  refine j_iload_n E 2 rfl dX10_isFact_1 rfl (lv_at hl 1 rfl) ?_
  refine j_iconst E 3 rfl dX10_isFact_2 ?_
  refine j_iload_n E 4 rfl dX10_isFact_3 rfl (lv_at hl 2 rfl) ?_
  refine m_callp (po := fun z_0 => (z_0 = 1 ∧ (0 : Int) ≤ v_v ∧ v_v ≤ v_most) ∨ (z_0 = 0 ∧ (v_v < (0 : Int) ∨ v_most < v_v))) E (c_X10_isIn l D cy q (n_0) (f_0) v_v 0 v_most  r_v_v (rr (by decide)) r_v_most ) rfl mt_X10_isIn ml_X10_169 hK hw hA ⟨Nat.le_of_ble_eq_true rfl, Nat.le_of_ble_eq_true rfl⟩ (As := [.int (J v_v), .int (J 0), .int (J v_most)]) (rest := []) rfl rfl hl.1 (Nat.le_of_ble_eq_true rfl) 7 rfl dX10_isFact_4 (fun zz1_ H locs rr1_ hq1_ hw => ?_)
  have hh1_ : (zz1_ = 1 ∧ (0 : Int) ≤ v_v ∧ v_v ≤ v_most) ∨ (zz1_ = 0 ∧ (v_v < (0 : Int) ∨ v_most < v_v)) := hq1_
  clear hq1_
  exact hret 7 zz1_ (n_0) (f_0) _ _ ls hw (by omega) ⟨⟨rfl, rfl⟩, by omega⟩ dX10_isFact_7
set_option maxHeartbeats 4000000 in
set_option maxRecDepth 100000 in
theorem c_X10_isLine (l : Launch) (D : va_G) (cy : Nat → ClassId) (q : Nat → Nat) (n_0 : Nat → Int) (f_0 : Nat → Int → Int) (v_x : Int) (r_v_x : inR v_x) : MC l D cy q yX10_isLine cX10_isLine 2 (some .boolean) 0 [.int (J v_x)] n_0 f_0 (PI (fun (z_0 : Int) (n_2 : Nat → Int) (f_2 : Nat → Int → Int) => (n_2 = n_0 ∧ f_2 = f_0) ∧ ((z_0 = 1 ∧ 0 ≤ v_x ∧ v_x < (n_0 12)) ∨ (z_0 = 0 ∧ (v_x < 0 ∨ (n_0 12) ≤ v_x))))) := by
  refine MC.ofz rfl (Nat.le_of_ble_eq_true rfl) ?_
  intro p e s m below meth c ls ar QW A0 H0 H locs E hK hA hw hl hret
  have hl : lv_has ls 2 [(0, .ref (q 0)), (1, .int (J v_x))] := hl
  refine j_iload_n E 1 rfl dX10_isLine_0 rfl (lv_at hl 1 rfl) ?_
  refine j_if_lt E 4 16 rfl r_v_x dX10_isLine_1 (by decide) (fun cc1_ => ?_) (fun cc1_ => ?_)
  · refine j_iconst E 17 rfl dX10_isLine_16 ?_
    exact hret 17 0 (n_0) (f_0) _ _ ls hw (Or.inl rfl) ⟨⟨rfl, rfl⟩, by omega⟩ dX10_isLine_17
  · refine j_iload_n E 5 rfl dX10_isLine_4 rfl (lv_at hl 1 rfl) ?_
    refine j_aload_n E 6 rfl dX10_isLine_5 rfl (lv_at hl 0 rfl) ?_
    refine m_get_12 E hK hw (n_0 12) rfl 9 rfl dX10_isLine_6 (fun rr2_ => ?_)
    refine j_icmp_ge E 12 16 rfl r_v_x rr2_ dX10_isLine_9 (by decide) (fun cc3_ => ?_) (fun cc3_ => ?_)
    · refine j_iconst E 17 rfl dX10_isLine_16 ?_
      exact hret 17 0 (n_0) (f_0) _ _ ls hw (Or.inl rfl) ⟨⟨rfl, rfl⟩, by omega⟩ dX10_isLine_17
    · refine j_iconst E 13 rfl dX10_isLine_12 ?_
      refine j_goto E 17 dX10_isLine_13 (by decide) ?_
      exact hret 17 1 (n_0) (f_0) _ _ ls hw (Or.inr rfl) ⟨⟨rfl, rfl⟩, by omega⟩ dX10_isLine_17
set_option maxHeartbeats 4000000 in
set_option maxRecDepth 100000 in
theorem c_X10_isWording (l : Launch) (D : va_G) (cy : Nat → ClassId) (q : Nat → Nat) (n_0 : Nat → Int) (f_0 : Nat → Int → Int) (v_w : Int) (r_v_w : inR v_w) : MC l D cy q yX10_isWording cX10_isWording 2 (some .boolean) 0 [.int (J v_w)] n_0 f_0 (PI (fun (z_0 : Int) (n_2 : Nat → Int) (f_2 : Nat → Int → Int) => (n_2 = n_0 ∧ f_2 = f_0) ∧ ((z_0 = 1 ∧ 0 ≤ v_w ∧ v_w < (n_0 29)) ∨ (z_0 = 0 ∧ (v_w < 0 ∨ (n_0 29) ≤ v_w))))) := by
  refine MC.ofz rfl (Nat.le_of_ble_eq_true rfl) ?_
  intro p e s m below meth c ls ar QW A0 H0 H locs E hK hA hw hl hret
  have hl : lv_has ls 2 [(0, .ref (q 0)), (1, .int (J v_w))] := hl
  refine j_iload_n E 1 rfl dX10_isWording_0 rfl (lv_at hl 1 rfl) ?_
  refine j_if_lt E 4 16 rfl r_v_w dX10_isWording_1 (by decide) (fun cc1_ => ?_) (fun cc1_ => ?_)
  · refine j_iconst E 17 rfl dX10_isWording_16 ?_
    exact hret 17 0 (n_0) (f_0) _ _ ls hw (Or.inl rfl) ⟨⟨rfl, rfl⟩, by omega⟩ dX10_isWording_17
  · refine j_iload_n E 5 rfl dX10_isWording_4 rfl (lv_at hl 1 rfl) ?_
    refine j_aload_n E 6 rfl dX10_isWording_5 rfl (lv_at hl 0 rfl) ?_
    refine m_get_29 E hK hw (n_0 29) rfl 9 rfl dX10_isWording_6 (fun rr2_ => ?_)
    refine j_icmp_ge E 12 16 rfl r_v_w rr2_ dX10_isWording_9 (by decide) (fun cc3_ => ?_) (fun cc3_ => ?_)
    · refine j_iconst E 17 rfl dX10_isWording_16 ?_
      exact hret 17 0 (n_0) (f_0) _ _ ls hw (Or.inl rfl) ⟨⟨rfl, rfl⟩, by omega⟩ dX10_isWording_17
    · refine j_iconst E 13 rfl dX10_isWording_12 ?_
      refine j_goto E 17 dX10_isWording_13 (by decide) ?_
      exact hret 17 1 (n_0) (f_0) _ _ ls hw (Or.inr rfl) ⟨⟨rfl, rfl⟩, by omega⟩ dX10_isWording_17
set_option maxHeartbeats 4000000 in
set_option maxRecDepth 100000 in
theorem c_X10_hasLine (l : Launch) (D : va_G) (cy : Nat → ClassId) (q : Nat → Nat) (n_0 : Nat → Int) (f_0 : Nat → Int → Int) (v_p v_x : Int) (r_v_p : inR v_p) (r_v_x : inR v_x) (hp0 : 0 ≤ v_p ∧ v_p < 24) (hp1 : 0 ≤ v_x ∧ v_x < 24) : MC l D cy q yX10_hasLine cX10_hasLine 3 (some .boolean) 0 [.int (J v_p), .int (J v_x)] n_0 f_0 (PI (fun (z_0 : Int) (n_2 : Nat → Int) (f_2 : Nat → Int → Int) => (n_2 = n_0 ∧ f_2 = f_0) ∧ ((z_0 = 1 ∧ 0 < (f_0 19 (24 * v_p + v_x))) ∨ (z_0 = 0 ∧ ¬ (0 < (f_0 19 (24 * v_p + v_x))))))) := by
  refine MC.ofz rfl (Nat.le_of_ble_eq_true rfl) ?_
  intro p e s m below meth c ls ar QW A0 H0 H locs E hK hA hw hl hret
  have hl : lv_has ls 3 [(0, .ref (q 0)), (1, .int (J v_p)), (2, .int (J v_x))] := hl
  refine j_aload_n E 1 rfl dX10_hasLine_0 rfl (lv_at hl 0 rfl) ?_
  refine m_ag_19 E hK hw 4 rfl dX10_hasLine_1 ?_
  refine j_bipush E 6 rfl dX10_hasLine_4 (by decide) ?_
  refine j_iload_n E 7 rfl dX10_hasLine_6 rfl (lv_at hl 1 rfl) ?_
  refine j_imul E 8 rfl dX10_hasLine_7 ?_
  refine j_iload_n E 9 rfl dX10_hasLine_8 rfl (lv_at hl 2 rfl) ?_
  refine j_iadd E 10 rfl dX10_hasLine_9 ?_
  refine m_ld_19 E hK hw (f_0 19 ((24 * v_p) + v_x)) rfl (by omega) 11 rfl dX10_hasLine_10 (fun rr1_ => ?_)
  refine j_if_le E 14 18 rfl rr1_ dX10_hasLine_11 (by decide) (fun cc2_ => ?_) (fun cc2_ => ?_)
  · refine j_iconst E 19 rfl dX10_hasLine_18 ?_
    exact hret 19 0 (n_0) (f_0) _ _ ls hw (Or.inl rfl) ⟨⟨rfl, rfl⟩, by omega⟩ dX10_hasLine_19
  · refine j_iconst E 15 rfl dX10_hasLine_14 ?_
    refine j_goto E 19 dX10_hasLine_15 (by decide) ?_
    exact hret 19 1 (n_0) (f_0) _ _ ls hw (Or.inr rfl) ⟨⟨rfl, rfl⟩, by omega⟩ dX10_hasLine_19
set_option maxHeartbeats 4000000 in
set_option maxRecDepth 100000 in
theorem c_X10_isHeard (l : Launch) (D : va_G) (cy : Nat → ClassId) (q : Nat → Nat) (n_0 : Nat → Int) (f_0 : Nat → Int → Int) (v_p v_x : Int) (r_v_p : inR v_p) (r_v_x : inR v_x) (hp0 : 0 ≤ v_p ∧ v_p < 24) (hp1 : 0 ≤ v_x ∧ v_x < 24) : MC l D cy q yX10_isHeard cX10_isHeard 3 (some .boolean) 1 [.int (J v_p), .int (J v_x)] n_0 f_0 (PI (fun (z_0 : Int) (n_2 : Nat → Int) (f_2 : Nat → Int → Int) => (n_2 = n_0 ∧ f_2 = f_0) ∧ ((z_0 = 1 ∧ (f_0 56 v_p) ≠ 0 ∧ 0 < (f_0 19 (24 * v_p + v_x))) ∨ (z_0 = 0 ∧ ¬ ((f_0 56 v_p) ≠ 0 ∧ 0 < (f_0 19 (24 * v_p + v_x))))))) := by
  refine MC.ofz rfl (Nat.le_of_ble_eq_true rfl) ?_
  intro p e s m below meth c ls ar QW A0 H0 H locs E hK hA hw hl hret
  have hl : lv_has ls 3 [(0, .ref (q 0)), (1, .int (J v_p)), (2, .int (J v_x))] := hl
  refine j_aload_n E 1 rfl dX10_isHeard_0 rfl (lv_at hl 0 rfl) ?_
  refine m_ag_56 E hK hw 4 rfl dX10_isHeard_1 ?_
  refine j_iload_n E 5 rfl dX10_isHeard_4 rfl (lv_at hl 1 rfl) ?_
  refine m_ld_56 E hK hw (f_0 56 v_p) rfl (by omega) 6 rfl dX10_isHeard_5 (fun rr1_ => ?_)
  refine j_if_eq E 9 22 rfl rr1_ dX10_isHeard_6 (by decide) (fun cc2_ => ?_) (fun cc2_ => ?_)
  · refine j_iconst E 23 rfl dX10_isHeard_22 ?_
    exact hret 23 0 (n_0) (f_0) _ _ ls hw (Or.inl rfl) ⟨⟨rfl, rfl⟩, by omega⟩ dX10_isHeard_23
  · refine j_aload_n E 10 rfl dX10_isHeard_9 rfl (lv_at hl 0 rfl) ?_
    refine j_iload_n E 11 rfl dX10_isHeard_10 rfl (lv_at hl 1 rfl) ?_
    refine j_iload_n E 12 rfl dX10_isHeard_11 rfl (lv_at hl 2 rfl) ?_
    refine m_callp (po := fun z_0 => (z_0 = 1 ∧ 0 < (f_0 19 (24 * v_p + v_x))) ∨ (z_0 = 0 ∧ ¬ (0 < (f_0 19 (24 * v_p + v_x))))) E (c_X10_hasLine l D cy q (n_0) (f_0) v_p v_x  r_v_p r_v_x (show 0 ≤ v_p ∧ v_p < 24 from by omega) (show 0 ≤ v_x ∧ v_x < 24 from by omega)) rfl mt_X10_hasLine ml_X10_198 hK hw hA ⟨Nat.le_of_ble_eq_true rfl, Nat.le_of_ble_eq_true rfl⟩ (As := [.int (J v_p), .int (J v_x)]) (rest := []) rfl rfl hl.1 (Nat.le_of_ble_eq_true rfl) 15 rfl dX10_isHeard_12 (fun zz3_ H locs rr3_ hq3_ hw => ?_)
    have hh3_ : (zz3_ = 1 ∧ 0 < (f_0 19 (24 * v_p + v_x))) ∨ (zz3_ = 0 ∧ ¬ (0 < (f_0 19 (24 * v_p + v_x)))) := hq3_
    clear hq3_
    rcases hh3_ with ⟨ee3_, hh3_⟩ | ⟨ee3_, hh3_⟩
    · subst ee3_
      refine j_if_eq E 18 22 rfl (rr (by decide)) dX10_isHeard_15 (by decide) (fun cc4_ => absurd cc4_ (by decide)) (fun _ => ?_)
      refine j_iconst E 19 rfl dX10_isHeard_18 ?_
      refine j_goto E 23 dX10_isHeard_19 (by decide) ?_
      exact hret 23 1 (n_0) (f_0) _ _ ls hw (Or.inr rfl) ⟨⟨rfl, rfl⟩, by omega⟩ dX10_isHeard_23
    · subst ee3_
      refine j_if_eq E 18 22 rfl (rr (by decide)) dX10_isHeard_15 (by decide) (fun _ => ?_) (fun cc5_ => absurd cc5_ (by decide))
      refine j_iconst E 23 rfl dX10_isHeard_22 ?_
      exact hret 23 0 (n_0) (f_0) _ _ ls hw (Or.inl rfl) ⟨⟨rfl, rfl⟩, by omega⟩ dX10_isHeard_23
set_option maxHeartbeats 4000000 in
set_option maxRecDepth 100000 in
theorem c_X10_isKin (l : Launch) (D : va_G) (cy : Nat → ClassId) (q : Nat → Nat) (n_0 : Nat → Int) (f_0 : Nat → Int → Int) (v_p v_r : Int) (r_v_p : inR v_p) (r_v_r : inR v_r) (hp0 : 0 ≤ v_p ∧ v_p < 24) (hp1 : 0 ≤ v_r ∧ v_r < 24) : MC l D cy q yX10_isKin cX10_isKin 3 (some .boolean) 0 [.int (J v_p), .int (J v_r)] n_0 f_0 (PI (fun (z_0 : Int) (n_2 : Nat → Int) (f_2 : Nat → Int → Int) => (n_2 = n_0 ∧ f_2 = f_0) ∧ ((z_0 = 1 ∧ (f_0 4 v_p) = (f_0 4 v_r)) ∨ (z_0 = 0 ∧ ¬ (f_0 4 v_p) = (f_0 4 v_r))))) := by
  refine MC.ofz rfl (Nat.le_of_ble_eq_true rfl) ?_
  intro p e s m below meth c ls ar QW A0 H0 H locs E hK hA hw hl hret
  have hl : lv_has ls 3 [(0, .ref (q 0)), (1, .int (J v_p)), (2, .int (J v_r))] := hl
  refine j_aload_n E 1 rfl dX10_isKin_0 rfl (lv_at hl 0 rfl) ?_
  refine m_ag_4 E hK hw 4 rfl dX10_isKin_1 ?_
  refine j_iload_n E 5 rfl dX10_isKin_4 rfl (lv_at hl 1 rfl) ?_
  refine m_ld_4 E hK hw (f_0 4 v_p) rfl (by omega) 6 rfl dX10_isKin_5 (fun rr1_ => ?_)
  refine j_aload_n E 7 rfl dX10_isKin_6 rfl (lv_at hl 0 rfl) ?_
  refine m_ag_4 E hK hw 10 rfl dX10_isKin_7 ?_
  refine j_iload_n E 11 rfl dX10_isKin_10 rfl (lv_at hl 2 rfl) ?_
  refine m_ld_4 E hK hw (f_0 4 v_r) rfl (by omega) 12 rfl dX10_isKin_11 (fun rr2_ => ?_)
  refine j_icmp_ne E 15 19 rfl rr1_ rr2_ dX10_isKin_12 (by decide) (fun cc3_ => ?_) (fun cc3_ => ?_)
  · refine j_iconst E 20 rfl dX10_isKin_19 ?_
    exact hret 20 0 (n_0) (f_0) _ _ ls hw (Or.inl rfl) ⟨⟨rfl, rfl⟩, by omega⟩ dX10_isKin_20
  · refine j_iconst E 16 rfl dX10_isKin_15 ?_
    refine j_goto E 20 dX10_isKin_16 (by decide) ?_
    exact hret 20 1 (n_0) (f_0) _ _ ls hw (Or.inr rfl) ⟨⟨rfl, rfl⟩, by omega⟩ dX10_isKin_20
set_option maxHeartbeats 4000000 in
set_option maxRecDepth 100000 in
theorem c_X10_raw (l : Launch) (D : va_G) (cy : Nat → ClassId) (q : Nat → Nat) (n_0 : Nat → Int) (f_0 : Nat → Int → Int) (v_k : Int) (r_v_k : inR v_k) (hp0 : 0 ≤ v_k) (hp1 : (n_0 23) ≤ 400) : MC l D cy q yX10_raw cX10_raw 2 (some .int) 0 [.int (J v_k)] n_0 f_0 (PI (fun (z_0 : Int) (n_2 : Nat → Int) (f_2 : Nat → Int → Int) => (n_2 = n_0 ∧ f_2 = f_0) ∧ ((v_k < (n_0 23) ∧ z_0 = (f_0 22 v_k)) ∨ ((n_0 23) ≤ v_k ∧ z_0 = -1)))) := by
  refine MC.ofi rfl (Nat.le_of_ble_eq_true rfl) ?_
  intro p e s m below meth c ls ar QW A0 H0 H locs E hK hA hw hl hret
  have hl : lv_has ls 2 [(0, .ref (q 0)), (1, .int (J v_k))] := hl
  refine j_iload_n E 1 rfl dX10_raw_0 rfl (lv_at hl 1 rfl) ?_
  refine j_aload_n E 2 rfl dX10_raw_1 rfl (lv_at hl 0 rfl) ?_
  refine m_get_23 E hK hw (n_0 23) rfl 5 rfl dX10_raw_2 (fun rr1_ => ?_)
  refine j_icmp_ge E 8 17 rfl r_v_k rr1_ dX10_raw_5 (by decide) (fun cc2_ => ?_) (fun cc2_ => ?_)
  · refine j_iconst E 18 rfl dX10_raw_17 ?_
    exact hret 18 ((-1)) (n_0) (f_0) _ _ ls hw (rr (by decide)) ⟨⟨rfl, rfl⟩, by omega⟩ dX10_raw_18
  · refine j_aload_n E 9 rfl dX10_raw_8 rfl (lv_at hl 0 rfl) ?_
    refine m_ag_22 E hK hw 12 rfl dX10_raw_9 ?_
    refine j_iload_n E 13 rfl dX10_raw_12 rfl (lv_at hl 1 rfl) ?_
    refine m_ld_22 E hK hw (f_0 22 v_k) rfl (by omega) 14 rfl dX10_raw_13 (fun rr3_ => ?_)
    refine j_goto E 18 dX10_raw_14 (by decide) ?_
    exact hret 18 (f_0 22 v_k) (n_0) (f_0) _ _ ls hw rr3_ ⟨⟨rfl, rfl⟩, by omega⟩ dX10_raw_18
set_option maxHeartbeats 4000000 in
set_option maxRecDepth 100000 in
theorem c_X10_isLetter (l : Launch) (D : va_G) (cy : Nat → ClassId) (q : Nat → Nat) (n_0 : Nat → Int) (f_0 : Nat → Int → Int) (v_x : Int) (r_v_x : inR v_x) : MC l D cy q yX10_isLetter cX10_isLetter 2 (some .boolean) 1 [.int (J v_x)] n_0 f_0 (PI (fun (z_0 : Int) (n_2 : Nat → Int) (f_2 : Nat → Int → Int) => (n_2 = n_0 ∧ f_2 = f_0) ∧ ((z_0 = 1 ∧ ((97 ≤ v_x ∧ v_x ≤ 122) ∨ (65 ≤ v_x ∧ v_x ≤ 90))) ∨ (z_0 = 0 ∧ ¬ ((97 ≤ v_x ∧ v_x ≤ 122) ∨ (65 ≤ v_x ∧ v_x ≤ 90)))))) := by
  refine MC.ofz rfl (Nat.le_of_ble_eq_true rfl) ?_
  intro p e s m below meth c ls ar QW A0 H0 H locs E hK hA hw hl hret
  have hl : lv_has ls 2 [(0, .ref (q 0)), (1, .int (J v_x))] := hl
  refine j_aload_n E 1 rfl dX10_isLetter_0 rfl (lv_at hl 0 rfl) ?_
  refine j_iload_n E 2 rfl dX10_isLetter_1 rfl (lv_at hl 1 rfl) ?_
  refine j_bipush E 4 rfl dX10_isLetter_2 (by decide) ?_
  refine j_bipush E 6 rfl dX10_isLetter_4 (by decide) ?_
  refine m_callp (po := fun z_0 => (z_0 = 1 ∧ (97 : Int) ≤ v_x ∧ v_x ≤ (122 : Int)) ∨ (z_0 = 0 ∧ (v_x < (97 : Int) ∨ (122 : Int) < v_x))) E (c_X10_isIn l D cy q (n_0) (f_0) v_x 97 122  r_v_x (rr (by decide)) (rr (by decide)) ) rfl mt_X10_isIn ml_X10_169 hK hw hA ⟨Nat.le_of_ble_eq_true rfl, Nat.le_of_ble_eq_true rfl⟩ (As := [.int (J v_x), .int (J 97), .int (J 122)]) (rest := []) rfl rfl hl.1 (Nat.le_of_ble_eq_true rfl) 9 rfl dX10_isLetter_6 (fun zz1_ H locs rr1_ hq1_ hw => ?_)
  have hh1_ : (zz1_ = 1 ∧ (97 : Int) ≤ v_x ∧ v_x ≤ (122 : Int)) ∨ (zz1_ = 0 ∧ (v_x < (97 : Int) ∨ (122 : Int) < v_x)) := hq1_
  clear hq1_
  rcases hh1_ with ⟨ee1_, hh1_⟩ | ⟨ee1_, hh1_⟩
  · subst ee1_
    refine j_if_ne E 12 24 rfl (rr (by decide)) dX10_isLetter_9 (by decide) (fun _ => ?_) (fun cc2_ => absurd cc2_ (by decide))
    refine j_iconst E 25 rfl dX10_isLetter_24 ?_
    refine j_goto E 29 dX10_isLetter_25 (by decide) ?_
    exact hret 29 1 (n_0) (f_0) _ _ ls hw (Or.inr rfl) ⟨⟨rfl, rfl⟩, by omega⟩ dX10_isLetter_29
  · subst ee1_
    refine j_if_ne E 12 24 rfl (rr (by decide)) dX10_isLetter_9 (by decide) (fun cc3_ => absurd cc3_ (by decide)) (fun _ => ?_)
    refine j_aload_n E 13 rfl dX10_isLetter_12 rfl (lv_at hl 0 rfl) ?_
    refine j_iload_n E 14 rfl dX10_isLetter_13 rfl (lv_at hl 1 rfl) ?_
    refine j_bipush E 16 rfl dX10_isLetter_14 (by decide) ?_
    refine j_bipush E 18 rfl dX10_isLetter_16 (by decide) ?_
    refine m_callp (po := fun z_0 => (z_0 = 1 ∧ (65 : Int) ≤ v_x ∧ v_x ≤ (90 : Int)) ∨ (z_0 = 0 ∧ (v_x < (65 : Int) ∨ (90 : Int) < v_x))) E (c_X10_isIn l D cy q (n_0) (f_0) v_x 65 90  r_v_x (rr (by decide)) (rr (by decide)) ) rfl mt_X10_isIn ml_X10_169 hK hw hA ⟨Nat.le_of_ble_eq_true rfl, Nat.le_of_ble_eq_true rfl⟩ (As := [.int (J v_x), .int (J 65), .int (J 90)]) (rest := []) rfl rfl hl.1 (Nat.le_of_ble_eq_true rfl) 21 rfl dX10_isLetter_18 (fun zz4_ H locs rr4_ hq4_ hw => ?_)
    have hh4_ : (zz4_ = 1 ∧ (65 : Int) ≤ v_x ∧ v_x ≤ (90 : Int)) ∨ (zz4_ = 0 ∧ (v_x < (65 : Int) ∨ (90 : Int) < v_x)) := hq4_
    clear hq4_
    rcases hh4_ with ⟨ee4_, hh4_⟩ | ⟨ee4_, hh4_⟩
    · subst ee4_
      refine j_if_eq E 24 28 rfl (rr (by decide)) dX10_isLetter_21 (by decide) (fun cc5_ => absurd cc5_ (by decide)) (fun _ => ?_)
      refine j_iconst E 25 rfl dX10_isLetter_24 ?_
      refine j_goto E 29 dX10_isLetter_25 (by decide) ?_
      exact hret 29 1 (n_0) (f_0) _ _ ls hw (Or.inr rfl) ⟨⟨rfl, rfl⟩, by omega⟩ dX10_isLetter_29
    · subst ee4_
      refine j_if_eq E 24 28 rfl (rr (by decide)) dX10_isLetter_21 (by decide) (fun _ => ?_) (fun cc6_ => absurd cc6_ (by decide))
      refine j_iconst E 29 rfl dX10_isLetter_28 ?_
      exact hret 29 0 (n_0) (f_0) _ _ ls hw (Or.inl rfl) ⟨⟨rfl, rfl⟩, by omega⟩ dX10_isLetter_29
set_option maxHeartbeats 4000000 in
set_option maxRecDepth 100000 in
theorem c_X10_isDigit (l : Launch) (D : va_G) (cy : Nat → ClassId) (q : Nat → Nat) (n_0 : Nat → Int) (f_0 : Nat → Int → Int) (v_x : Int) (r_v_x : inR v_x) : MC l D cy q yX10_isDigit cX10_isDigit 2 (some .boolean) 1 [.int (J v_x)] n_0 f_0 (PI (fun (z_0 : Int) (n_2 : Nat → Int) (f_2 : Nat → Int → Int) => (n_2 = n_0 ∧ f_2 = f_0) ∧ ((z_0 = 1 ∧ 48 ≤ v_x ∧ v_x ≤ 57) ∨ (z_0 = 0 ∧ (v_x < 48 ∨ 57 < v_x))))) := by
  refine MC.ofz rfl (Nat.le_of_ble_eq_true rfl) ?_
  intro p e s m below meth c ls ar QW A0 H0 H locs E hK hA hw hl hret
  have hl : lv_has ls 2 [(0, .ref (q 0)), (1, .int (J v_x))] := hl
  refine j_aload_n E 1 rfl dX10_isDigit_0 rfl (lv_at hl 0 rfl) ?_
  refine j_iload_n E 2 rfl dX10_isDigit_1 rfl (lv_at hl 1 rfl) ?_
  refine j_bipush E 4 rfl dX10_isDigit_2 (by decide) ?_
  refine j_bipush E 6 rfl dX10_isDigit_4 (by decide) ?_
  refine m_callp (po := fun z_0 => (z_0 = 1 ∧ (48 : Int) ≤ v_x ∧ v_x ≤ (57 : Int)) ∨ (z_0 = 0 ∧ (v_x < (48 : Int) ∨ (57 : Int) < v_x))) E (c_X10_isIn l D cy q (n_0) (f_0) v_x 48 57  r_v_x (rr (by decide)) (rr (by decide)) ) rfl mt_X10_isIn ml_X10_169 hK hw hA ⟨Nat.le_of_ble_eq_true rfl, Nat.le_of_ble_eq_true rfl⟩ (As := [.int (J v_x), .int (J 48), .int (J 57)]) (rest := []) rfl rfl hl.1 (Nat.le_of_ble_eq_true rfl) 9 rfl dX10_isDigit_6 (fun zz1_ H locs rr1_ hq1_ hw => ?_)
  have hh1_ : (zz1_ = 1 ∧ (48 : Int) ≤ v_x ∧ v_x ≤ (57 : Int)) ∨ (zz1_ = 0 ∧ (v_x < (48 : Int) ∨ (57 : Int) < v_x)) := hq1_
  clear hq1_
  exact hret 9 zz1_ (n_0) (f_0) _ _ ls hw (by omega) ⟨⟨rfl, rfl⟩, by omega⟩ dX10_isDigit_9
set_option maxHeartbeats 4000000 in
set_option maxRecDepth 100000 in
theorem c_X10_isMarkSign (l : Launch) (D : va_G) (cy : Nat → ClassId) (q : Nat → Nat) (n_0 : Nat → Int) (f_0 : Nat → Int → Int) (v_x : Int) (r_v_x : inR v_x) : MC l D cy q yX10_isMarkSign cX10_isMarkSign 2 (some .boolean) 0 [.int (J v_x)] n_0 f_0 (PI (fun (z_0 : Int) (n_2 : Nat → Int) (f_2 : Nat → Int → Int) => (n_2 = n_0 ∧ f_2 = f_0) ∧ ((z_0 = 1 ∧ (v_x = 59 ∨ v_x = 43 ∨ v_x = 45 ∨ v_x = 42 ∨ v_x = 47 ∨ v_x = 40 ∨ v_x = 41 ∨ v_x = 60 ∨ v_x = 61 ∨ v_x = 62)) ∨ (z_0 = 0 ∧ ¬ (v_x = 59 ∨ v_x = 43 ∨ v_x = 45 ∨ v_x = 42 ∨ v_x = 47 ∨ v_x = 40 ∨ v_x = 41 ∨ v_x = 60 ∨ v_x = 61 ∨ v_x = 62))))) := by
  refine MC.ofz rfl (Nat.le_of_ble_eq_true rfl) ?_
  intro p e s m below meth c ls ar QW A0 H0 H locs E hK hA hw hl hret
  have hl : lv_has ls 2 [(0, .ref (q 0)), (1, .int (J v_x))] := hl
  refine j_iload_n E 1 rfl dX10_isMarkSign_0 rfl (lv_at hl 1 rfl) ?_
  refine j_bipush E 3 rfl dX10_isMarkSign_1 (by decide) ?_
  refine j_icmp_eq E 6 60 rfl r_v_x (rr (by decide)) dX10_isMarkSign_3 (by decide) (fun cc1_ => ?_) (fun cc1_ => ?_)
  · refine j_iconst E 61 rfl dX10_isMarkSign_60 ?_
    refine j_goto E 65 dX10_isMarkSign_61 (by decide) ?_
    exact hret 65 1 (n_0) (f_0) _ _ ls hw (Or.inr rfl) ⟨⟨rfl, rfl⟩, by omega⟩ dX10_isMarkSign_65
  · refine j_iload_n E 7 rfl dX10_isMarkSign_6 rfl (lv_at hl 1 rfl) ?_
    refine j_bipush E 9 rfl dX10_isMarkSign_7 (by decide) ?_
    refine j_icmp_eq E 12 60 rfl r_v_x (rr (by decide)) dX10_isMarkSign_9 (by decide) (fun cc2_ => ?_) (fun cc2_ => ?_)
    · refine j_iconst E 61 rfl dX10_isMarkSign_60 ?_
      refine j_goto E 65 dX10_isMarkSign_61 (by decide) ?_
      exact hret 65 1 (n_0) (f_0) _ _ ls hw (Or.inr rfl) ⟨⟨rfl, rfl⟩, by omega⟩ dX10_isMarkSign_65
    · refine j_iload_n E 13 rfl dX10_isMarkSign_12 rfl (lv_at hl 1 rfl) ?_
      refine j_bipush E 15 rfl dX10_isMarkSign_13 (by decide) ?_
      refine j_icmp_eq E 18 60 rfl r_v_x (rr (by decide)) dX10_isMarkSign_15 (by decide) (fun cc3_ => ?_) (fun cc3_ => ?_)
      · refine j_iconst E 61 rfl dX10_isMarkSign_60 ?_
        refine j_goto E 65 dX10_isMarkSign_61 (by decide) ?_
        exact hret 65 1 (n_0) (f_0) _ _ ls hw (Or.inr rfl) ⟨⟨rfl, rfl⟩, by omega⟩ dX10_isMarkSign_65
      · refine j_iload_n E 19 rfl dX10_isMarkSign_18 rfl (lv_at hl 1 rfl) ?_
        refine j_bipush E 21 rfl dX10_isMarkSign_19 (by decide) ?_
        refine j_icmp_eq E 24 60 rfl r_v_x (rr (by decide)) dX10_isMarkSign_21 (by decide) (fun cc4_ => ?_) (fun cc4_ => ?_)
        · refine j_iconst E 61 rfl dX10_isMarkSign_60 ?_
          refine j_goto E 65 dX10_isMarkSign_61 (by decide) ?_
          exact hret 65 1 (n_0) (f_0) _ _ ls hw (Or.inr rfl) ⟨⟨rfl, rfl⟩, by omega⟩ dX10_isMarkSign_65
        · refine j_iload_n E 25 rfl dX10_isMarkSign_24 rfl (lv_at hl 1 rfl) ?_
          refine j_bipush E 27 rfl dX10_isMarkSign_25 (by decide) ?_
          refine j_icmp_eq E 30 60 rfl r_v_x (rr (by decide)) dX10_isMarkSign_27 (by decide) (fun cc5_ => ?_) (fun cc5_ => ?_)
          · refine j_iconst E 61 rfl dX10_isMarkSign_60 ?_
            refine j_goto E 65 dX10_isMarkSign_61 (by decide) ?_
            exact hret 65 1 (n_0) (f_0) _ _ ls hw (Or.inr rfl) ⟨⟨rfl, rfl⟩, by omega⟩ dX10_isMarkSign_65
          · refine j_iload_n E 31 rfl dX10_isMarkSign_30 rfl (lv_at hl 1 rfl) ?_
            refine j_bipush E 33 rfl dX10_isMarkSign_31 (by decide) ?_
            refine j_icmp_eq E 36 60 rfl r_v_x (rr (by decide)) dX10_isMarkSign_33 (by decide) (fun cc6_ => ?_) (fun cc6_ => ?_)
            · refine j_iconst E 61 rfl dX10_isMarkSign_60 ?_
              refine j_goto E 65 dX10_isMarkSign_61 (by decide) ?_
              exact hret 65 1 (n_0) (f_0) _ _ ls hw (Or.inr rfl) ⟨⟨rfl, rfl⟩, by omega⟩ dX10_isMarkSign_65
            · refine j_iload_n E 37 rfl dX10_isMarkSign_36 rfl (lv_at hl 1 rfl) ?_
              refine j_bipush E 39 rfl dX10_isMarkSign_37 (by decide) ?_
              refine j_icmp_eq E 42 60 rfl r_v_x (rr (by decide)) dX10_isMarkSign_39 (by decide) (fun cc7_ => ?_) (fun cc7_ => ?_)
              · refine j_iconst E 61 rfl dX10_isMarkSign_60 ?_
                refine j_goto E 65 dX10_isMarkSign_61 (by decide) ?_
                exact hret 65 1 (n_0) (f_0) _ _ ls hw (Or.inr rfl) ⟨⟨rfl, rfl⟩, by omega⟩ dX10_isMarkSign_65
              · refine j_iload_n E 43 rfl dX10_isMarkSign_42 rfl (lv_at hl 1 rfl) ?_
                refine j_bipush E 45 rfl dX10_isMarkSign_43 (by decide) ?_
                refine j_icmp_eq E 48 60 rfl r_v_x (rr (by decide)) dX10_isMarkSign_45 (by decide) (fun cc8_ => ?_) (fun cc8_ => ?_)
                · refine j_iconst E 61 rfl dX10_isMarkSign_60 ?_
                  refine j_goto E 65 dX10_isMarkSign_61 (by decide) ?_
                  exact hret 65 1 (n_0) (f_0) _ _ ls hw (Or.inr rfl) ⟨⟨rfl, rfl⟩, by omega⟩ dX10_isMarkSign_65
                · refine j_iload_n E 49 rfl dX10_isMarkSign_48 rfl (lv_at hl 1 rfl) ?_
                  refine j_bipush E 51 rfl dX10_isMarkSign_49 (by decide) ?_
                  refine j_icmp_eq E 54 60 rfl r_v_x (rr (by decide)) dX10_isMarkSign_51 (by decide) (fun cc9_ => ?_) (fun cc9_ => ?_)
                  · refine j_iconst E 61 rfl dX10_isMarkSign_60 ?_
                    refine j_goto E 65 dX10_isMarkSign_61 (by decide) ?_
                    exact hret 65 1 (n_0) (f_0) _ _ ls hw (Or.inr rfl) ⟨⟨rfl, rfl⟩, by omega⟩ dX10_isMarkSign_65
                  · refine j_iload_n E 55 rfl dX10_isMarkSign_54 rfl (lv_at hl 1 rfl) ?_
                    refine j_bipush E 57 rfl dX10_isMarkSign_55 (by decide) ?_
                    refine j_icmp_ne E 60 64 rfl r_v_x (rr (by decide)) dX10_isMarkSign_57 (by decide) (fun cc10_ => ?_) (fun cc10_ => ?_)
                    · refine j_iconst E 65 rfl dX10_isMarkSign_64 ?_
                      exact hret 65 0 (n_0) (f_0) _ _ ls hw (Or.inl rfl) ⟨⟨rfl, rfl⟩, by omega⟩ dX10_isMarkSign_65
                    · refine j_iconst E 61 rfl dX10_isMarkSign_60 ?_
                      refine j_goto E 65 dX10_isMarkSign_61 (by decide) ?_
                      exact hret 65 1 (n_0) (f_0) _ _ ls hw (Or.inr rfl) ⟨⟨rfl, rfl⟩, by omega⟩ dX10_isMarkSign_65
set_option maxHeartbeats 4000000 in
set_option maxRecDepth 100000 in
theorem c_X10_isWord (l : Launch) (D : va_G) (cy : Nat → ClassId) (q : Nat → Nat) (n_0 : Nat → Int) (f_0 : Nat → Int → Int) (v_w : Int) (r_v_w : inR v_w) : MC l D cy q yX10_isWord cX10_isWord 2 (some .boolean) 0 [.int (J v_w)] n_0 f_0 (PI (fun (z_0 : Int) (n_2 : Nat → Int) (f_2 : Nat → Int → Int) => (n_2 = n_0 ∧ f_2 = f_0) ∧ ((z_0 = 1 ∧ (n_0 26) = 2 ∧ (n_0 27) = v_w) ∨ (z_0 = 0 ∧ ¬ ((n_0 26) = 2 ∧ (n_0 27) = v_w))))) := by
  refine MC.ofz rfl (Nat.le_of_ble_eq_true rfl) ?_
  intro p e s m below meth c ls ar QW A0 H0 H locs E hK hA hw hl hret
  have hl : lv_has ls 2 [(0, .ref (q 0)), (1, .int (J v_w))] := hl
  refine j_aload_n E 1 rfl dX10_isWord_0 rfl (lv_at hl 0 rfl) ?_
  refine m_get_26 E hK hw (n_0 26) rfl 4 rfl dX10_isWord_1 (fun rr1_ => ?_)
  refine j_iconst E 5 rfl dX10_isWord_4 ?_
  refine j_icmp_ne E 8 20 rfl rr1_ (rr (by decide)) dX10_isWord_5 (by decide) (fun cc2_ => ?_) (fun cc2_ => ?_)
  · refine j_iconst E 21 rfl dX10_isWord_20 ?_
    exact hret 21 0 (n_0) (f_0) _ _ ls hw (Or.inl rfl) ⟨⟨rfl, rfl⟩, by omega⟩ dX10_isWord_21
  · refine j_aload_n E 9 rfl dX10_isWord_8 rfl (lv_at hl 0 rfl) ?_
    refine m_get_27 E hK hw (n_0 27) rfl 12 rfl dX10_isWord_9 (fun rr3_ => ?_)
    refine j_iload_n E 13 rfl dX10_isWord_12 rfl (lv_at hl 1 rfl) ?_
    refine j_icmp_ne E 16 20 rfl rr3_ r_v_w dX10_isWord_13 (by decide) (fun cc4_ => ?_) (fun cc4_ => ?_)
    · refine j_iconst E 21 rfl dX10_isWord_20 ?_
      exact hret 21 0 (n_0) (f_0) _ _ ls hw (Or.inl rfl) ⟨⟨rfl, rfl⟩, by omega⟩ dX10_isWord_21
    · refine j_iconst E 17 rfl dX10_isWord_16 ?_
      refine j_goto E 21 dX10_isWord_17 (by decide) ?_
      exact hret 21 1 (n_0) (f_0) _ _ ls hw (Or.inr rfl) ⟨⟨rfl, rfl⟩, by omega⟩ dX10_isWord_21
set_option maxHeartbeats 4000000 in
set_option maxRecDepth 100000 in
theorem c_X10_isSign (l : Launch) (D : va_G) (cy : Nat → ClassId) (q : Nat → Nat) (n_0 : Nat → Int) (f_0 : Nat → Int → Int) (v_x : Int) (r_v_x : inR v_x) : MC l D cy q yX10_isSign cX10_isSign 2 (some .boolean) 0 [.int (J v_x)] n_0 f_0 (PI (fun (z_0 : Int) (n_2 : Nat → Int) (f_2 : Nat → Int → Int) => (n_2 = n_0 ∧ f_2 = f_0) ∧ ((z_0 = 1 ∧ (n_0 26) = 4 ∧ (n_0 27) = v_x) ∨ (z_0 = 0 ∧ ¬ ((n_0 26) = 4 ∧ (n_0 27) = v_x))))) := by
  refine MC.ofz rfl (Nat.le_of_ble_eq_true rfl) ?_
  intro p e s m below meth c ls ar QW A0 H0 H locs E hK hA hw hl hret
  have hl : lv_has ls 2 [(0, .ref (q 0)), (1, .int (J v_x))] := hl
  refine j_aload_n E 1 rfl dX10_isSign_0 rfl (lv_at hl 0 rfl) ?_
  refine m_get_26 E hK hw (n_0 26) rfl 4 rfl dX10_isSign_1 (fun rr1_ => ?_)
  refine j_iconst E 5 rfl dX10_isSign_4 ?_
  refine j_icmp_ne E 8 20 rfl rr1_ (rr (by decide)) dX10_isSign_5 (by decide) (fun cc2_ => ?_) (fun cc2_ => ?_)
  · refine j_iconst E 21 rfl dX10_isSign_20 ?_
    exact hret 21 0 (n_0) (f_0) _ _ ls hw (Or.inl rfl) ⟨⟨rfl, rfl⟩, by omega⟩ dX10_isSign_21
  · refine j_aload_n E 9 rfl dX10_isSign_8 rfl (lv_at hl 0 rfl) ?_
    refine m_get_27 E hK hw (n_0 27) rfl 12 rfl dX10_isSign_9 (fun rr3_ => ?_)
    refine j_iload_n E 13 rfl dX10_isSign_12 rfl (lv_at hl 1 rfl) ?_
    refine j_icmp_ne E 16 20 rfl rr3_ r_v_x dX10_isSign_13 (by decide) (fun cc4_ => ?_) (fun cc4_ => ?_)
    · refine j_iconst E 21 rfl dX10_isSign_20 ?_
      exact hret 21 0 (n_0) (f_0) _ _ ls hw (Or.inl rfl) ⟨⟨rfl, rfl⟩, by omega⟩ dX10_isSign_21
    · refine j_iconst E 17 rfl dX10_isSign_16 ?_
      refine j_goto E 21 dX10_isSign_17 (by decide) ?_
      exact hret 21 1 (n_0) (f_0) _ _ ls hw (Or.inr rfl) ⟨⟨rfl, rfl⟩, by omega⟩ dX10_isSign_21
set_option maxHeartbeats 4000000 in
set_option maxRecDepth 100000 in
theorem c_X10_least (l : Launch) (D : va_G) (cy : Nat → ClassId) (q : Nat → Nat) (n_0 : Nat → Int) (f_0 : Nat → Int → Int) (v_a v_b : Int) (r_v_a : inR v_a) (r_v_b : inR v_b) : MC l D cy q yX10_least cX10_least 3 (some .int) 0 [.int (J v_a), .int (J v_b)] n_0 f_0 (PI (fun (z_0 : Int) (n_2 : Nat → Int) (f_2 : Nat → Int → Int) => (n_2 = n_0 ∧ f_2 = f_0) ∧ ((z_0 = v_a ∧ v_a ≤ v_b) ∨ (z_0 = v_b ∧ v_b ≤ v_a)))) := by
  refine MC.ofi rfl (Nat.le_of_ble_eq_true rfl) ?_
  intro p e s m below meth c ls ar QW A0 H0 H locs E hK hA hw hl hret
  have hl : lv_has ls 3 [(0, .ref (q 0)), (1, .int (J v_a)), (2, .int (J v_b))] := hl
  refine j_iload_n E 1 rfl dX10_least_0 rfl (lv_at hl 1 rfl) ?_
  refine j_iload_n E 2 rfl dX10_least_1 rfl (lv_at hl 2 rfl) ?_
  refine j_icmp_ge E 5 9 rfl r_v_a r_v_b dX10_least_2 (by decide) (fun cc1_ => ?_) (fun cc1_ => ?_)
  · refine j_iload_n E 10 rfl dX10_least_9 rfl (lv_at hl 2 rfl) ?_
    exact hret 10 v_b (n_0) (f_0) _ _ ls hw r_v_b ⟨⟨rfl, rfl⟩, by omega⟩ dX10_least_10
  · refine j_iload_n E 6 rfl dX10_least_5 rfl (lv_at hl 1 rfl) ?_
    refine j_goto E 10 dX10_least_6 (by decide) ?_
    exact hret 10 v_a (n_0) (f_0) _ _ ls hw r_v_a ⟨⟨rfl, rfl⟩, by omega⟩ dX10_least_10
set_option maxHeartbeats 4000000 in
set_option maxRecDepth 100000 in
theorem c_X10_livingWith (l : Launch) (D : va_G) (cy : Nat → ClassId) (q : Nat → Nat) (n_0 : Nat → Int) (f_0 : Nat → Int → Int) (v_x : Int) (r_v_x : inR v_x) (hp0 : (n_0 2) ≤ 24) (hp1 : 0 ≤ v_x ∧ v_x < 24) : MC l D cy q yX10_livingWith cX10_livingWith 4 (some .int) 2 [.int (J v_x)] n_0 f_0 (PI (fun (z_0 : Int) (n_2 : Nat → Int) (f_2 : Nat → Int → Int) => (n_2 = n_0 ∧ f_2 = f_0) ∧ ((0 ≤ z_0 ∧ z_0 ≤ 24) ∧ z_0 = nq_ (fun p_ => (f_0 6 p_) = -1 ∧ 0 < (f_0 19 (24 * p_ + v_x))) ((n_0 2)).toNat))) := by
  refine MC.ofi rfl (Nat.le_of_ble_eq_true rfl) ?_
  intro p e s m below meth c ls ar QW A0 H0 H locs E hK hA hw hl hret
  have hl : lv_has ls 4 [(0, .ref (q 0)), (1, .int (J v_x))] := hl
  refine j_iconst E 1 rfl dX10_livingWith_0 ?_
  refine j_istore_n E 2 rfl [(2, .int (J 0)), (0, .ref (q 0)), (1, .int (J v_x))] dX10_livingWith_1 rfl hl (by decide) rfl (fun ls hl => ?_)
  refine j_iconst E 3 rfl dX10_livingWith_2 ?_
  refine j_istore_n E 4 rfl [(3, .int (J 0)), (2, .int (J 0)), (0, .ref (q 0)), (1, .int (J v_x))] dX10_livingWith_3 rfl hl (by decide) rfl (fun ls hl => ?_)
  have L4_1 : ∀ (k4 : Nat) (ga gi : Int) (H : Heap) (locs : List Loc) (ls : Array Slot), inR ga → inR gi → (0 ≤ gi ∧ gi ≤ 24 ∧ (0 ≤ ga ∧ ga ≤ gi) ∧ (gi ≤ (n_0 2) ∨ gi = 0) ∧ ga = nq_ (fun p_ => (f_0 6 p_) = -1 ∧ 0 < (f_0 19 (24 * p_ + v_x))) (gi).toNat) → (24 - gi) < (k4 : Int) → WM D cy q (n_0) (f_0) A0 H0 H locs → lv_has ls 4 [(0, .ref (q 0)), (1, .int (J v_x)), (2, .int (J ga)), (3, .int (J gi))] → W p l e (rmd 2 0 0) s m ar below meth c H locs 0 0 QW (F0 m 4 ls []) := by
    intro k4
    induction k4 with
    | zero =>
      intro ga gi H locs ls r_ga r_gi iv4 ms4 hw hl
      exfalso; omega
    | succ k4 ih4 =>
      intro ga gi H locs ls r_ga r_gi iv4 ms4 hw hl
      refine j_iload_n E 5 rfl dX10_livingWith_4 rfl (lv_at hl 3 rfl) ?_
      refine j_aload_n E 6 rfl dX10_livingWith_5 rfl (lv_at hl 0 rfl) ?_
      refine m_get_2 E hK hw (n_0 2) rfl 9 rfl dX10_livingWith_6 (fun rr3_ => ?_)
      refine j_icmp_ge E 12 39 rfl r_gi rr3_ dX10_livingWith_9 (by decide) (fun cc4_ => ?_) (fun cc4_ => ?_)
      · refine j_iload_n E 40 rfl dX10_livingWith_39 rfl (lv_at hl 2 rfl) ?_
        exact hret 40 ga (n_0) (f_0) _ _ ls hw r_ga ⟨⟨rfl, rfl⟩, ⟨by omega, by rw [show ((n_0 2)).toNat = (gi).toNat by omega]; exact iv4.2.2.2.2⟩⟩ dX10_livingWith_40
      · refine j_aload_n E 13 rfl dX10_livingWith_12 rfl (lv_at hl 0 rfl) ?_
        refine j_iload_n E 14 rfl dX10_livingWith_13 rfl (lv_at hl 3 rfl) ?_
        refine m_callp (po := fun z_0 => (z_0 = 1 ∧ 0 ≤ gi ∧ gi < (n_0 2) ∧ (f_0 6 gi) = -1) ∨ (z_0 = 0 ∧ ¬ (0 ≤ gi ∧ gi < (n_0 2) ∧ (f_0 6 gi) = -1))) E (c_X10_isLiving l D cy q (n_0) (f_0) gi  r_gi (show (n_0 2) ≤ 24 from by omega)) rfl mt_X10_isLiving ml_X10_176 hK hw hA ⟨Nat.le_of_ble_eq_true rfl, Nat.le_of_ble_eq_true rfl⟩ (As := [.int (J gi)]) (rest := []) rfl rfl hl.1 (Nat.le_of_ble_eq_true rfl) 17 rfl dX10_livingWith_14 (fun zz5_ H locs rr5_ hq5_ hw => ?_)
        have hh5_ : (zz5_ = 1 ∧ 0 ≤ gi ∧ gi < (n_0 2) ∧ (f_0 6 gi) = -1) ∨ (zz5_ = 0 ∧ ¬ (0 ≤ gi ∧ gi < (n_0 2) ∧ (f_0 6 gi) = -1)) := hq5_
        clear hq5_
        rcases hh5_ with ⟨ee5_, hh5_⟩ | ⟨ee5_, hh5_⟩
        · subst ee5_
          have hl_ := hh5_
          clear hh5_
          refine j_if_eq E 20 33 rfl (rr (by decide)) dX10_livingWith_17 (by decide) (fun cc6_ => absurd cc6_ (by decide)) (fun _ => ?_)
          refine j_aload_n E 21 rfl dX10_livingWith_20 rfl (lv_at hl 0 rfl) ?_
          refine j_iload_n E 22 rfl dX10_livingWith_21 rfl (lv_at hl 3 rfl) ?_
          refine j_iload_n E 23 rfl dX10_livingWith_22 rfl (lv_at hl 1 rfl) ?_
          refine m_callp (po := fun z_0 => (z_0 = 1 ∧ 0 < (f_0 19 (24 * gi + v_x))) ∨ (z_0 = 0 ∧ ¬ (0 < (f_0 19 (24 * gi + v_x))))) E (c_X10_hasLine l D cy q (n_0) (f_0) gi v_x  r_gi r_v_x (show 0 ≤ gi ∧ gi < 24 from by omega) (show 0 ≤ v_x ∧ v_x < 24 from by omega)) rfl mt_X10_hasLine ml_X10_198 hK hw hA ⟨Nat.le_of_ble_eq_true rfl, Nat.le_of_ble_eq_true rfl⟩ (As := [.int (J gi), .int (J v_x)]) (rest := []) rfl rfl hl.1 (Nat.le_of_ble_eq_true rfl) 26 rfl dX10_livingWith_23 (fun zz7_ H locs rr7_ hq7_ hw => ?_)
          have hh7_ : (zz7_ = 1 ∧ 0 < (f_0 19 (24 * gi + v_x))) ∨ (zz7_ = 0 ∧ ¬ (0 < (f_0 19 (24 * gi + v_x)))) := hq7_
          clear hq7_
          rcases hh7_ with ⟨ee7_, hh7_⟩ | ⟨ee7_, hh7_⟩
          · subst ee7_
            have hh_ := hh7_
            clear hh7_
            refine j_if_eq E 29 33 rfl (rr (by decide)) dX10_livingWith_26 (by decide) (fun cc8_ => absurd cc8_ (by decide)) (fun _ => ?_)
            refine j_iload_n E 30 rfl dX10_livingWith_29 rfl (lv_at hl 2 rfl) ?_
            refine j_iconst E 31 rfl dX10_livingWith_30 ?_
            refine j_iadd E 32 rfl dX10_livingWith_31 ?_
            refine j_istore_n E 33 rfl [(2, .int (J (ga + 1))), (0, .ref (q 0)), (1, .int (J v_x)), (3, .int (J gi))] dX10_livingWith_32 rfl hl (by decide) rfl (fun ls hl => ?_)
            refine j_iinc E 36 rfl [(3, .int (J (gi + 1))), (2, .int (J (ga + 1))), (0, .ref (q 0)), (1, .int (J v_x))] dX10_livingWith_33 hl (kk := 3) rfl (by decide) rfl (fun ls hl => ?_)
            refine j_goto E 4 dX10_livingWith_36 (by decide) ?_
            exact ih4 (ga + 1) (gi + 1) H locs ls (rr (by omega)) (rr (by omega)) (⟨by omega, by omega, by omega, by omega, by first | exact nq_y iv4.2.2.2.2 (by omega) ⟨hl_.2.2, hh_⟩ | exact nq_n iv4.2.2.2.2 (by omega) (fun q_ => hn_ ⟨by omega, by omega, q_.1⟩) | exact nq_n iv4.2.2.2.2 (by omega) (fun q_ => hk_ q_.2)⟩) (by omega) hw (lv_sub hl [2, 3, 1, 0] rfl)
          · subst ee7_
            have hk_ := hh7_
            clear hh7_
            refine j_if_eq E 29 33 rfl (rr (by decide)) dX10_livingWith_26 (by decide) (fun _ => ?_) (fun cc9_ => absurd cc9_ (by decide))
            refine j_iinc E 36 rfl [(3, .int (J (gi + 1))), (0, .ref (q 0)), (1, .int (J v_x)), (2, .int (J ga))] dX10_livingWith_33 hl (kk := 3) rfl (by decide) rfl (fun ls hl => ?_)
            refine j_goto E 4 dX10_livingWith_36 (by decide) ?_
            exact ih4 ga (gi + 1) H locs ls r_ga (rr (by omega)) (⟨by omega, by omega, by omega, by omega, by first | exact nq_y iv4.2.2.2.2 (by omega) ⟨hl_.2.2, hh_⟩ | exact nq_n iv4.2.2.2.2 (by omega) (fun q_ => hn_ ⟨by omega, by omega, q_.1⟩) | exact nq_n iv4.2.2.2.2 (by omega) (fun q_ => hk_ q_.2)⟩) (by omega) hw (lv_sub hl [1, 2, 3, 0] rfl)
        · subst ee5_
          have hn_ := hh5_
          clear hh5_
          refine j_if_eq E 20 33 rfl (rr (by decide)) dX10_livingWith_17 (by decide) (fun _ => ?_) (fun cc10_ => absurd cc10_ (by decide))
          refine j_iinc E 36 rfl [(3, .int (J (gi + 1))), (0, .ref (q 0)), (1, .int (J v_x)), (2, .int (J ga))] dX10_livingWith_33 hl (kk := 3) rfl (by decide) rfl (fun ls hl => ?_)
          refine j_goto E 4 dX10_livingWith_36 (by decide) ?_
          exact ih4 ga (gi + 1) H locs ls r_ga (rr (by omega)) (⟨by omega, by omega, by omega, by omega, by first | exact nq_y iv4.2.2.2.2 (by omega) ⟨hl_.2.2, hh_⟩ | exact nq_n iv4.2.2.2.2 (by omega) (fun q_ => hn_ ⟨by omega, by omega, q_.1⟩) | exact nq_n iv4.2.2.2.2 (by omega) (fun q_ => hk_ q_.2)⟩) (by omega) hw (lv_sub hl [1, 2, 3, 0] rfl)
  exact L4_1 _ 0 0 H locs ls (rr (by decide)) (rr (by decide)) (⟨by omega, by omega, by omega, by omega, nq_0⟩) (mk_lt _) hw (lv_sub hl [2, 3, 1, 0] rfl)
set_option maxHeartbeats 4000000 in
set_option maxRecDepth 100000 in
theorem c_X10_lawOf (l : Launch) (D : va_G) (cy : Nat → ClassId) (q : Nat → Nat) (n_0 : Nat → Int) (f_0 : Nat → Int → Int) (v_x v_k : Int) (r_v_x : inR v_x) (r_v_k : inR v_k) (hp0 : 0 ≤ v_x ∧ v_x < 24) (hp1 : v_k < 200) : MC l D cy q yX10_lawOf cX10_lawOf 4 (some .int) 0 [.int (J v_x), .int (J v_k)] n_0 f_0 (PI (fun (z_0 : Int) (n_2 : Nat → Int) (f_2 : Nat → Int → Int) => (n_2 = n_0 ∧ f_2 = f_0) ∧ (Lw_ ((f_0 16 v_x)) (fun t_ => (f_0 18 (200 * v_x + t_))) v_k z_0))) := by
  refine MC.ofi rfl (Nat.le_of_ble_eq_true rfl) ?_
  intro p e s m below meth c ls ar QW A0 H0 H locs E hK hA hw hl hret
  have hl : lv_has ls 4 [(0, .ref (q 0)), (1, .int (J v_x)), (2, .int (J v_k))] := hl
  refine j_aload_n E 1 rfl dX10_lawOf_0 rfl (lv_at hl 0 rfl) ?_
  refine m_ag_16 E hK hw 4 rfl dX10_lawOf_1 ?_
  refine j_iload_n E 5 rfl dX10_lawOf_4 rfl (lv_at hl 1 rfl) ?_
  refine m_ld_16 E hK hw (f_0 16 v_x) rfl (by omega) 6 rfl dX10_lawOf_5 (fun rr1_ => ?_)
  refine j_iconst E 7 rfl dX10_lawOf_6 ?_
  refine j_icmp_eq E 10 22 rfl rr1_ (rr (by decide)) dX10_lawOf_7 (by decide) (fun cc2_ => ?_) (fun cc2_ => ?_)
  · refine j_iload_n E 23 rfl dX10_lawOf_22 rfl (lv_at hl 2 rfl) ?_
    refine j_istore_n E 24 rfl [(3, .int (J v_k)), (0, .ref (q 0)), (1, .int (J v_x)), (2, .int (J v_k))] dX10_lawOf_23 rfl hl (by decide) rfl (fun ls hl => ?_)
    have L24_3 : ∀ (k24 : Nat) (gt : Int) (H : Heap) (locs : List Loc) (ls : Array Slot), inR gt → ((gt ≤ v_k ∧ (-1 ≤ gt ∨ gt = v_k)) ∧ ¬ (¬ (f_0 16 v_x) = -1 ∧ (f_0 16 v_x) ≤ v_k) ∧ ∀ t_, gt < t_ → t_ ≤ v_k → (f_0 18 (200 * v_x + t_)) < 0) → (if gt < 0 then 0 else gt + 1) < (k24 : Int) → WM D cy q (n_0) (f_0) A0 H0 H locs → lv_has ls 4 [(0, .ref (q 0)), (1, .int (J v_x)), (2, .int (J v_k)), (3, .int (J gt))] → W p l e (rmd 0 0 0) s m ar below meth c H locs 0 0 QW (F0 m 24 ls []) := by
      intro k24
      induction k24 with
      | zero =>
        intro gt H locs ls r_gt iv24 ms24 hw hl
        exfalso; split at ms24 <;> omega
      | succ k24 ih24 =>
        intro gt H locs ls r_gt iv24 ms24 hw hl
        refine j_iload_n E 25 rfl dX10_lawOf_24 rfl (lv_at hl 3 rfl) ?_
        refine j_if_lt E 28 62 rfl r_gt dX10_lawOf_25 (by decide) (fun cc5_ => ?_) (fun cc5_ => ?_)
        · refine j_iconst E 63 rfl dX10_lawOf_62 ?_
          exact hret 63 ((-1)) (n_0) (f_0) _ _ ls hw (rr (by decide)) ⟨⟨rfl, rfl⟩, show Lw_ _ _ _ _ from Or.inr ⟨iv24.2.1, Or.inl ⟨rfl, fun t_ h1_ h2_ => iv24.2.2 t_ (by omega) h2_⟩⟩⟩ dX10_lawOf_63
        · refine j_aload_n E 29 rfl dX10_lawOf_28 rfl (lv_at hl 0 rfl) ?_
          refine m_ag_18 E hK hw 32 rfl dX10_lawOf_29 ?_
          refine j_sipush E 35 rfl dX10_lawOf_32 (by decide) ?_
          refine j_iload_n E 36 rfl dX10_lawOf_35 rfl (lv_at hl 1 rfl) ?_
          refine j_imul E 37 rfl dX10_lawOf_36 ?_
          refine j_iload_n E 38 rfl dX10_lawOf_37 rfl (lv_at hl 3 rfl) ?_
          refine j_iadd E 39 rfl dX10_lawOf_38 ?_
          refine m_ld_18 E hK hw (f_0 18 ((200 * v_x) + gt)) rfl (by omega) 40 rfl dX10_lawOf_39 (fun rr6_ => ?_)
          refine j_if_lt E 43 56 rfl rr6_ dX10_lawOf_40 (by decide) (fun cc7_ => ?_) (fun cc7_ => ?_)
          · refine j_iinc E 59 rfl [(3, .int (J (gt + (-1)))), (0, .ref (q 0)), (1, .int (J v_x)), (2, .int (J v_k))] dX10_lawOf_56 hl (kk := 3) rfl (by decide) rfl (fun ls hl => ?_)
            refine j_goto E 24 dX10_lawOf_59 (by decide) ?_
            exact ih24 (gt + (-1)) H locs ls (rr (by omega)) (⟨by omega, iv24.2.1, fun t_ h1_ h2_ => by by_cases q_ : t_ = gt; (rw [q_]; omega); exact iv24.2.2 t_ (by omega) h2_⟩) (by split at ms24 <;> split <;> omega) hw (lv_sub hl [1, 2, 3, 0] rfl)
          · refine j_aload_n E 44 rfl dX10_lawOf_43 rfl (lv_at hl 0 rfl) ?_
            refine m_ag_18 E hK hw 47 rfl dX10_lawOf_44 ?_
            refine j_sipush E 50 rfl dX10_lawOf_47 (by decide) ?_
            refine j_iload_n E 51 rfl dX10_lawOf_50 rfl (lv_at hl 1 rfl) ?_
            refine j_imul E 52 rfl dX10_lawOf_51 ?_
            refine j_iload_n E 53 rfl dX10_lawOf_52 rfl (lv_at hl 3 rfl) ?_
            refine j_iadd E 54 rfl dX10_lawOf_53 ?_
            refine m_ld_18 E hK hw (f_0 18 ((200 * v_x) + gt)) rfl (by omega) 55 rfl dX10_lawOf_54 (fun _ => ?_)
            exact hret 55 (f_0 18 ((200 * v_x) + gt)) (n_0) (f_0) _ _ ls hw rr6_ ⟨⟨rfl, rfl⟩, show Lw_ _ _ _ _ from Or.inr ⟨iv24.2.1, Or.inr ⟨by omega, gt, by omega, by omega, rfl, iv24.2.2⟩⟩⟩ dX10_lawOf_55
    exact L24_3 _ v_k H locs ls r_v_k (⟨by omega, by omega, fun t_ h1_ h2_ => absurd h2_ (by omega)⟩) (mk_lt _) hw (lv_sub hl [1, 2, 3, 0] rfl)
  · refine j_aload_n E 11 rfl dX10_lawOf_10 rfl (lv_at hl 0 rfl) ?_
    refine m_ag_16 E hK hw 14 rfl dX10_lawOf_11 ?_
    refine j_iload_n E 15 rfl dX10_lawOf_14 rfl (lv_at hl 1 rfl) ?_
    refine m_ld_16 E hK hw (f_0 16 v_x) rfl (by omega) 16 rfl dX10_lawOf_15 (fun _ => ?_)
    refine j_iload_n E 17 rfl dX10_lawOf_16 rfl (lv_at hl 2 rfl) ?_
    refine j_icmp_gt E 20 22 rfl rr1_ r_v_k dX10_lawOf_17 (by decide) (fun cc8_ => ?_) (fun cc8_ => ?_)
    · refine j_iload_n E 23 rfl dX10_lawOf_22 rfl (lv_at hl 2 rfl) ?_
      refine j_istore_n E 24 rfl [(3, .int (J v_k)), (0, .ref (q 0)), (1, .int (J v_x)), (2, .int (J v_k))] dX10_lawOf_23 rfl hl (by decide) rfl (fun ls hl => ?_)
      have L24_9 : ∀ (k24 : Nat) (gt : Int) (H : Heap) (locs : List Loc) (ls : Array Slot), inR gt → ((gt ≤ v_k ∧ (-1 ≤ gt ∨ gt = v_k)) ∧ ¬ (¬ (f_0 16 v_x) = -1 ∧ (f_0 16 v_x) ≤ v_k) ∧ ∀ t_, gt < t_ → t_ ≤ v_k → (f_0 18 (200 * v_x + t_)) < 0) → (if gt < 0 then 0 else gt + 1) < (k24 : Int) → WM D cy q (n_0) (f_0) A0 H0 H locs → lv_has ls 4 [(0, .ref (q 0)), (1, .int (J v_x)), (2, .int (J v_k)), (3, .int (J gt))] → W p l e (rmd 0 0 0) s m ar below meth c H locs 0 0 QW (F0 m 24 ls []) := by
        intro k24
        induction k24 with
        | zero =>
          intro gt H locs ls r_gt iv24 ms24 hw hl
          exfalso; split at ms24 <;> omega
        | succ k24 ih24 =>
          intro gt H locs ls r_gt iv24 ms24 hw hl
          refine j_iload_n E 25 rfl dX10_lawOf_24 rfl (lv_at hl 3 rfl) ?_
          refine j_if_lt E 28 62 rfl r_gt dX10_lawOf_25 (by decide) (fun cc11_ => ?_) (fun cc11_ => ?_)
          · refine j_iconst E 63 rfl dX10_lawOf_62 ?_
            exact hret 63 ((-1)) (n_0) (f_0) _ _ ls hw (rr (by decide)) ⟨⟨rfl, rfl⟩, show Lw_ _ _ _ _ from Or.inr ⟨iv24.2.1, Or.inl ⟨rfl, fun t_ h1_ h2_ => iv24.2.2 t_ (by omega) h2_⟩⟩⟩ dX10_lawOf_63
          · refine j_aload_n E 29 rfl dX10_lawOf_28 rfl (lv_at hl 0 rfl) ?_
            refine m_ag_18 E hK hw 32 rfl dX10_lawOf_29 ?_
            refine j_sipush E 35 rfl dX10_lawOf_32 (by decide) ?_
            refine j_iload_n E 36 rfl dX10_lawOf_35 rfl (lv_at hl 1 rfl) ?_
            refine j_imul E 37 rfl dX10_lawOf_36 ?_
            refine j_iload_n E 38 rfl dX10_lawOf_37 rfl (lv_at hl 3 rfl) ?_
            refine j_iadd E 39 rfl dX10_lawOf_38 ?_
            refine m_ld_18 E hK hw (f_0 18 ((200 * v_x) + gt)) rfl (by omega) 40 rfl dX10_lawOf_39 (fun rr12_ => ?_)
            refine j_if_lt E 43 56 rfl rr12_ dX10_lawOf_40 (by decide) (fun cc13_ => ?_) (fun cc13_ => ?_)
            · refine j_iinc E 59 rfl [(3, .int (J (gt + (-1)))), (0, .ref (q 0)), (1, .int (J v_x)), (2, .int (J v_k))] dX10_lawOf_56 hl (kk := 3) rfl (by decide) rfl (fun ls hl => ?_)
              refine j_goto E 24 dX10_lawOf_59 (by decide) ?_
              exact ih24 (gt + (-1)) H locs ls (rr (by omega)) (⟨by omega, iv24.2.1, fun t_ h1_ h2_ => by by_cases q_ : t_ = gt; (rw [q_]; omega); exact iv24.2.2 t_ (by omega) h2_⟩) (by split at ms24 <;> split <;> omega) hw (lv_sub hl [1, 2, 3, 0] rfl)
            · refine j_aload_n E 44 rfl dX10_lawOf_43 rfl (lv_at hl 0 rfl) ?_
              refine m_ag_18 E hK hw 47 rfl dX10_lawOf_44 ?_
              refine j_sipush E 50 rfl dX10_lawOf_47 (by decide) ?_
              refine j_iload_n E 51 rfl dX10_lawOf_50 rfl (lv_at hl 1 rfl) ?_
              refine j_imul E 52 rfl dX10_lawOf_51 ?_
              refine j_iload_n E 53 rfl dX10_lawOf_52 rfl (lv_at hl 3 rfl) ?_
              refine j_iadd E 54 rfl dX10_lawOf_53 ?_
              refine m_ld_18 E hK hw (f_0 18 ((200 * v_x) + gt)) rfl (by omega) 55 rfl dX10_lawOf_54 (fun _ => ?_)
              exact hret 55 (f_0 18 ((200 * v_x) + gt)) (n_0) (f_0) _ _ ls hw rr12_ ⟨⟨rfl, rfl⟩, show Lw_ _ _ _ _ from Or.inr ⟨iv24.2.1, Or.inr ⟨by omega, gt, by omega, by omega, rfl, iv24.2.2⟩⟩⟩ dX10_lawOf_55
      exact L24_9 _ v_k H locs ls r_v_k (⟨by omega, by omega, fun t_ h1_ h2_ => absurd h2_ (by omega)⟩) (mk_lt _) hw (lv_sub hl [1, 2, 3, 0] rfl)
    · refine j_iconst E 21 rfl dX10_lawOf_20 ?_
      exact hret 21 ((-1)) (n_0) (f_0) _ _ ls hw (rr (by decide)) ⟨⟨rfl, rfl⟩, show Lw_ _ _ _ _ from Or.inl ⟨by omega, by omega, rfl⟩⟩ dX10_lawOf_21
