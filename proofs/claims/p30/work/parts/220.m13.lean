
theorem ct_nx1 {set x : Int} (h0 : 0 ≤ x) (hb : bt_ set x.toNat = true) : (ct_ (bt_ set) (x + 1).toNat : Int) = ct_ (bt_ set) x.toNat + 1 := by
  have e : (x + 1).toNat = x.toNat + 1 := by omega
  rw [e, ct_, hb]; simp
theorem ct_nx0 {set x : Int} (h0 : 0 ≤ x) (hb : bt_ set x.toNat = false) : (ct_ (bt_ set) (x + 1).toNat : Int) = ct_ (bt_ set) x.toNat := by
  have e : (x + 1).toNat = x.toNat + 1 := by omega
  rw [e, ct_, hb]; simp
theorem ct_cap (set x : Int) (h : x ≤ 32) : (ct_ (bt_ set) x.toNat : Int) ≤ cn_ set := by
  rw [cn_ct]
  have := ct_mono (bt_ set) (show x.toNat ≤ 32 by omega)
  omega
theorem pl_step {g : Int → Int} {k x : Int} (h : ∀ i, 0 ≤ i → i < k → 0 ≤ g i ∧ g i < 24) (hx : 0 ≤ x ∧ x < 24) : ∀ i, 0 ≤ i → i < k + 1 → 0 ≤ upA g k x i ∧ upA g k x i < 24 := fun i h1 h2 => by
  unfold upA
  split
  · exact hx
  · exact h i h1 (by omega)
theorem Lr_stp {LC : Int → Int} {lo hi hj z : Int} (h : Lr_ LC lo hi) (hz : 0 ≤ z ∧ z ≤ 1000000) (e : hj = hi + 1) : Lr_ (upA LC hi z) lo hj := fun i h1 h2 => by
  unfold upA
  split
  · exact hz
  · exact h i h1 (by omega)
theorem Lr_out {LC : Int → Int} {lo hi i z : Int} (h : Lr_ LC lo hi) (hi2 : i < lo) : Lr_ (upA LC i z) lo hi := fun k h1 h2 => by
  rw [upA_ne (by omega)]; exact h k h1 h2
theorem Lr_eq {LC : Int → Int} {lo hi lo2 hi2 : Int} (h : Lr_ LC lo hi) (e1 : lo2 = lo) (e2 : hi2 = hi) : Lr_ LC lo2 hi2 := by rw [e1, e2]; exact h
theorem Lr_join {LC : Int → Int} {a b b2 c a2 : Int} (h : Lr_ LC a b) (h2 : Lr_ LC b2 c) (e : b = b2) (e2 : a2 = a) : Lr_ LC a2 c := fun i h3 h4 => by
  by_cases q : i < b
  · exact h i (by omega) q
  · exact h2 i (by omega) h4
theorem DPc_new {ps : Int} {di st qu pl LC : Int → Int} {k p v z : Int} (hv : 0 ≤ v ∧ v < 256) (hk : k ≤ 4) (h : z = 1000000 ∨ z = LC (256 * (p + 1) + v) ∨ ∃ j, 0 ≤ j ∧ j < k ∧ CBr_ ps di st qu pl LC p v j z) : DPc_ ps di st qu pl (upA LC (256 * p + v) z) k p v := by
  unfold DPc_
  rw [upA_same, upA_ne (show 256 * (p + 1) + v ≠ 256 * p + v by omega)]
  rcases h with h | h | ⟨j, h1, h2, h3⟩
  · exact Or.inl h
  · exact Or.inr (Or.inl h)
  · exact Or.inr (Or.inr ⟨j, h1, h2, CBr_up h3 hv (by omega) (by omega)⟩)
theorem lc_min {C : Int → Int → Prop} {z a b L g : Int} (h : (z = a ∧ a ≤ b) ∨ (z = b ∧ b ≤ a)) (ha : a = L ∨ ∃ j, 0 ≤ j ∧ j < g ∧ C j a) (hb : C g b) (hg : 0 ≤ g) : z = L ∨ ∃ j, 0 ≤ j ∧ j < g + 1 ∧ C j z := by
  rcases h with h | h
  · rw [h.1]
    rcases ha with r | ⟨j, r1, r2, r3⟩
    · exact Or.inl r
    · exact Or.inr ⟨j, r1, by omega, r3⟩
  · rw [h.1]; exact Or.inr ⟨g, hg, by omega, hb⟩
theorem dp_all {P : Int → Int → Prop} {g : Int} (h : ∀ v, 0 ≤ v → v < 256 → P g v) {ps : Int} (h2 : ∀ p, g < p → p < ps → ∀ v, 0 ≤ v → v < 256 → P p v) {g2 : Int} (e : g2 + 1 = g) : ∀ p, g2 < p → p < ps → ∀ v, 0 ≤ v → v < 256 → P p v := fun p h3 h4 => by
  by_cases q : p = g
  · rw [q]; exact h
  · exact h2 p (by omega) h4

set_option maxHeartbeats 40000000 in
set_option maxRecDepth 100000 in
theorem c_X10_plan (l : Launch) (D : va_G) (cy : Nat → ClassId) (q : Nat → Nat) (n_0 : Nat → Int) (f_0 : Nat → Int → Int) (v_set v_m v_what : Int) (r_v_set : inR v_set) (r_v_m : inR v_m) (r_v_what : inR v_what) (hp0 : MI (n_0) (f_0)) : MC l D cy q yX10_plan cX10_plan 9 (some .int) 5 [.int (J v_set), .int (J v_m), .int (J v_what)] n_0 f_0 (PI (fun (z_0 : Int) (n_2 : Nat → Int) (f_2 : Nat → Int → Int) => ∃ (x0_2 : Int) (x65_2 : Int) (y64_2 : Int → Int) (y66_2 : Int → Int) , n_2 = upN (upN n_0 0 x0_2) 65 x65_2 ∧ f_2 = upF (upF f_0 64 y64_2) 66 y66_2 ∧ (MI (upN (upN n_0 0 x0_2) 65 x65_2) (upF (upF f_0 64 y64_2) 66 y66_2) ∧ (True)))) := by
  refine MC.ofi rfl (Nat.le_of_ble_eq_true rfl) ?_
  intro p e s m below meth c ls ar QW A0 H0 H locs E hK hA hw hl hret
  have hl : lv_has ls 9 [(0, .ref (q 0)), (1, .int (J v_set)), (2, .int (J v_m)), (3, .int (J v_what))] := hl
  have hp0_ := hp0
  obtain ⟨i_now, i_persons, i_lines, i_wordings, i_taped, i_suits, i_spk, i_fam, i_str, i_said, i_book, i_wds, i_tok, i_cod, i_far, i_tap, i_qua, i_sil, i_stz, i_way⟩ := hp0_
  refine j_aload_n E 1 rfl dX10_plan_0 rfl (lv_at hl 0 rfl) ?_
  refine j_iconst E 2 rfl dX10_plan_1 ?_
  refine m_put_0 E hK hw (rr (by decide)) 5 rfl dX10_plan_2 (fun H locs hw => ?_)
  have hw : WM D cy q (upN n_0 0 0) (f_0) A0 H0 H locs := hw
  refine j_aload_n E 6 rfl dX10_plan_5 rfl (lv_at hl 0 rfl) ?_
  refine j_iload_n E 7 rfl dX10_plan_6 rfl (lv_at hl 1 rfl) ?_
  refine m_callp (po := fun z_0 => (z_0 = 1 ∧ (0 < v_set ∧ Bz_ v_set (n_0 12))) ∨ (z_0 = 0 ∧ ¬ (0 < v_set ∧ Bz_ v_set (n_0 12)))) E (c_X10_areLines l D cy q (upN n_0 0 0) (f_0) v_set  r_v_set (show 0 ≤ (n_0 12) ∧ (n_0 12) ≤ 24 from by omega)) rfl mt_X10_areLines ml_X10_380 hK hw hA ⟨Nat.le_of_ble_eq_true rfl, Nat.le_of_ble_eq_true rfl⟩ (As := [.int (J v_set)]) (rest := []) rfl rfl hl.1 (Nat.le_of_ble_eq_true rfl) 10 rfl dX10_plan_7 (fun zz2_ H locs rr2_ hq2_ hw => ?_)
  have hh2_ : (zz2_ = 1 ∧ (0 < v_set ∧ Bz_ v_set (n_0 12))) ∨ (zz2_ = 0 ∧ ¬ (0 < v_set ∧ Bz_ v_set (n_0 12))) := hq2_
  clear hq2_
  rcases hh2_ with ⟨ee2_, hh2_⟩ | ⟨ee2_, hh2_⟩
  · subst ee2_
    refine j_if_eq E 13 59 rfl (rr (by decide)) dX10_plan_10 (by decide) (fun cc3_ => absurd cc3_ (by decide)) (fun _ => ?_)
    refine j_aload_n E 14 rfl dX10_plan_13 rfl (lv_at hl 0 rfl) ?_
    refine j_iload_n E 15 rfl dX10_plan_14 rfl (lv_at hl 1 rfl) ?_
    refine m_callp (po := fun z_0 => z_0 = cn_ v_set ∧ 0 ≤ z_0 ∧ z_0 ≤ 32) E (c_X10_ones l D cy q (upN n_0 0 0) (f_0) v_set  r_v_set ) rfl mt_X10_ones ml_X10_376 hK hw hA ⟨Nat.le_of_ble_eq_true rfl, Nat.le_of_ble_eq_true rfl⟩ (As := [.int (J v_set)]) (rest := []) rfl rfl hl.1 (Nat.le_of_ble_eq_true rfl) 18 rfl dX10_plan_15 (fun zz4_ H locs rr4_ hq4_ hw => ?_)
    have hh4_ : zz4_ = cn_ v_set ∧ 0 ≤ zz4_ ∧ zz4_ ≤ 32 := hq4_
    clear hq4_
    refine j_iconst E 19 rfl dX10_plan_18 ?_
    refine j_icmp_gt E 22 59 rfl rr4_ (rr (by decide)) dX10_plan_19 (by decide) (fun cc5_ => ?_) (fun cc5_ => ?_)
    · refine j_iconst E 60 rfl dX10_plan_59 ?_
      exact hret 60 ((-1)) (upN (upN n_0 0 0) 65 (n_0 65)) (upF (upF f_0 64 (f_0 64)) 66 (f_0 66)) _ _ ls hw (rr (by decide)) ⟨0, (n_0 65), (f_0 64), (f_0 66), rfl, rfl, ⟨⟨i_now, i_persons, i_lines, i_wordings, i_taped, i_suits, i_spk, i_fam, i_str, i_said, i_book, i_wds, i_tok, i_cod, i_far, i_tap, i_qua, i_sil, i_stz, i_way⟩, trivial⟩⟩ dX10_plan_60
    · refine j_aload_n E 23 rfl dX10_plan_22 rfl (lv_at hl 0 rfl) ?_
      refine j_iload_n E 24 rfl dX10_plan_23 rfl (lv_at hl 2 rfl) ?_
      refine j_iconst E 25 rfl dX10_plan_24 ?_
      refine j_iconst E 26 rfl dX10_plan_25 ?_
      refine m_callp (po := fun z_0 => (z_0 = 1 ∧ (1 : Int) ≤ v_m ∧ v_m ≤ (3 : Int)) ∨ (z_0 = 0 ∧ (v_m < (1 : Int) ∨ (3 : Int) < v_m))) E (c_X10_isIn l D cy q (upN n_0 0 0) (f_0) v_m 1 3  r_v_m (rr (by decide)) (rr (by decide)) ) rfl mt_X10_isIn ml_X10_169 hK hw hA ⟨Nat.le_of_ble_eq_true rfl, Nat.le_of_ble_eq_true rfl⟩ (As := [.int (J v_m), .int (J 1), .int (J 3)]) (rest := []) rfl rfl hl.1 (Nat.le_of_ble_eq_true rfl) 29 rfl dX10_plan_26 (fun zz6_ H locs rr6_ hq6_ hw => ?_)
      have hh6_ : (zz6_ = 1 ∧ (1 : Int) ≤ v_m ∧ v_m ≤ (3 : Int)) ∨ (zz6_ = 0 ∧ (v_m < (1 : Int) ∨ (3 : Int) < v_m)) := hq6_
      clear hq6_
      rcases hh6_ with ⟨ee6_, hh6_⟩ | ⟨ee6_, hh6_⟩
      · subst ee6_
        refine j_if_eq E 32 59 rfl (rr (by decide)) dX10_plan_29 (by decide) (fun cc7_ => absurd cc7_ (by decide)) (fun _ => ?_)
        have L61_8 : ∀ (H : Heap) (locs : List Loc) (ls : Array Slot), ((0 ≤ v_what ∧ v_what ≤ 1) ∨ (10 ≤ v_what ∧ v_what ≤ 9 + (n_0 2))) → WM D cy q (upN n_0 0 0) (f_0) A0 H0 H locs → lv_has ls 9 [(0, .ref (q 0)), (1, .int (J v_set)), (2, .int (J v_m)), (3, .int (J v_what))] → W p l e (rmd 5 0 0) s m ar below meth c H locs 0 0 QW (F0 m 61 ls []) := by
          intro H locs ls iv61 hw hl
          refine j_aload_n E 62 rfl dX10_plan_61 rfl (lv_at hl 0 rfl) ?_
          refine j_iconst E 63 rfl dX10_plan_62 ?_
          refine m_put_65 E hK hw (rr (by decide)) 66 rfl dX10_plan_63 (fun H locs hw => ?_)
          have hw : WM D cy q (upN (upN n_0 0 0) 65 0) (f_0) A0 H0 H locs := hw
          refine j_iconst E 67 rfl dX10_plan_66 ?_
          refine j_istore E 69 rfl [(4, .int (J 0)), (0, .ref (q 0)), (1, .int (J v_set)), (2, .int (J v_m)), (3, .int (J v_what))] dX10_plan_67 hl (by decide) rfl (fun ls hl => ?_)
          have L69_11 : ∀ (k69 : Nat) (gx : Int) (x65_c69 : Int) (y64_c69 : Int → Int) (H : Heap) (locs : List Loc) (ls : Array Slot), inR gx → ((0 ≤ gx ∧ gx ≤ 24) ∧ (x65_c69) = (ct_ (bt_ v_set) gx.toNat : Int) ∧ ∀ i, 0 ≤ i → i < (x65_c69) → 0 ≤ (y64_c69 i) ∧ (y64_c69 i) < 24) → (24 - gx) < (k69 : Int) → WM D cy q (upN (upN n_0 0 0) 65 x65_c69) (upF f_0 64 y64_c69) A0 H0 H locs → lv_has ls 9 [(0, .ref (q 0)), (1, .int (J v_set)), (2, .int (J v_m)), (3, .int (J v_what)), (4, .int (J gx))] → W p l e (rmd 5 0 0) s m ar below meth c H locs 0 0 QW (F0 m 69 ls []) := by
            intro k69
            induction k69 with
            | zero =>
              intro gx x65_c69 y64_c69 H locs ls r_gx iv69 ms69 hw hl
              exfalso; omega
            | succ k69 ih69 =>
              intro gx x65_c69 y64_c69 H locs ls r_gx iv69 ms69 hw hl
              have rx65_c69 : inR x65_c69 := mRn_65 hw.1.2.2.1
              refine j_iload E 71 rfl dX10_plan_69 (lv_at hl 4 rfl) ?_
              refine j_aload_n E 72 rfl dX10_plan_71 rfl (lv_at hl 0 rfl) ?_
              refine m_get_12 E hK hw (n_0 12) rfl 75 rfl dX10_plan_72 (fun rr13_ => ?_)
              refine j_icmp_ge E 78 117 rfl r_gx rr13_ dX10_plan_75 (by decide) (fun cc14_ => ?_) (fun cc14_ => ?_)
              · have hd_ := ct_cap v_set gx (by omega)
                refine j_aload_n E 118 rfl dX10_plan_117 rfl (lv_at hl 0 rfl) ?_
                refine j_iload_n E 119 rfl dX10_plan_118 rfl (lv_at hl 2 rfl) ?_
                refine m_callp (po := fun z_0 => z_0 = -1 ∨ (0 ≤ z_0 ∧ z_0 < 256)) E (c_X10_lacksNow l D cy q (upN (upN n_0 0 0) 65 x65_c69) (upF f_0 64 y64_c69) v_m  r_v_m (show (n_0 2) ≤ 24 from by omega) (show 1 ≤ v_m ∧ v_m ≤ 3 from by omega) (show (0 ≤ (x65_c69) ∧ (x65_c69) ≤ 4 ∧ ∀ i, 0 ≤ i → i < (x65_c69) → 0 ≤ (y64_c69 i) ∧ (y64_c69 i) < 24) from ⟨by omega, by omega, iv69.2.2⟩)) rfl mt_X10_lacksNow ml_X10_389 hK hw hA ⟨Nat.le_of_ble_eq_true rfl, Nat.le_of_ble_eq_true rfl⟩ (As := [.int (J v_m)]) (rest := []) rfl rfl hl.1 (Nat.le_of_ble_eq_true rfl) 122 rfl dX10_plan_119 (fun zz15_ H locs rr15_ hq15_ hw => ?_)
                have hh15_ : zz15_ = -1 ∨ (0 ≤ zz15_ ∧ zz15_ < 256) := hq15_
                clear hq15_
                have hz_ := hh15_
                clear hh15_
                refine j_istore E 124 rfl [(4, .int (J zz15_)), (0, .ref (q 0)), (1, .int (J v_set)), (2, .int (J v_m)), (3, .int (J v_what))] dX10_plan_122 hl (by decide) rfl (fun ls hl => ?_)
                refine j_iload E 126 rfl dX10_plan_124 (lv_at hl 0 rfl) ?_
                refine j_iconst E 127 rfl dX10_plan_126 ?_
                refine j_icmp_ne E 130 132 rfl rr15_ (rr (by decide)) dX10_plan_127 (by decide) (fun cc16_ => ?_) (fun cc16_ => ?_)
                · refine j_iconst E 133 rfl dX10_plan_132 ?_
                  refine j_istore E 135 rfl [(5, .int (J 0)), (4, .int (J zz15_)), (0, .ref (q 0)), (1, .int (J v_set)), (2, .int (J v_m)), (3, .int (J v_what))] dX10_plan_133 hl (by decide) rfl (fun ls hl => ?_)
                  have L135_17 : ∀ (k135 : Nat) (gv : Int) (y66_c135 : Int → Int) (H : Heap) (locs : List Loc) (ls : Array Slot), inR gv → ((0 ≤ gv ∧ gv ≤ 256) ∧ Lr_ (y66_c135) (256 * (n_0 2)) (256 * (n_0 2) + gv)) → (256 - gv) < (k135 : Int) → WM D cy q (upN (upN n_0 0 0) 65 x65_c69) (upF (upF f_0 64 y64_c69) 66 y66_c135) A0 H0 H locs → lv_has ls 9 [(0, .ref (q 0)), (1, .int (J v_set)), (2, .int (J v_m)), (3, .int (J v_what)), (4, .int (J zz15_)), (5, .int (J gv))] → W p l e (rmd 5 0 0) s m ar below meth c H locs 0 0 QW (F0 m 135 ls []) := by
                    intro k135
                    induction k135 with
                    | zero =>
                      intro gv y66_c135 H locs ls r_gv iv135 ms135 hw hl
                      exfalso; omega
                    | succ k135 ih135 =>
                      intro gv y66_c135 H locs ls r_gv iv135 ms135 hw hl
                      refine j_iload E 137 rfl dX10_plan_135 (lv_at hl 5 rfl) ?_
                      refine j_sipush E 140 rfl dX10_plan_137 (by decide) ?_
                      refine j_icmp_ge E 143 177 rfl r_gv (rr (by decide)) dX10_plan_140 (by decide) (fun cc19_ => ?_) (fun cc19_ => ?_)
                      · refine j_aload_n E 178 rfl dX10_plan_177 rfl (lv_at hl 0 rfl) ?_
                        refine m_get_2 E hK hw (n_0 2) rfl 181 rfl dX10_plan_178 (fun rr20_ => ?_)
                        refine j_iconst E 182 rfl dX10_plan_181 ?_
                        refine j_isub E 183 rfl dX10_plan_182 ?_
                        refine j_istore E 185 rfl [(5, .int (J ((n_0 2) - 1))), (0, .ref (q 0)), (1, .int (J v_set)), (2, .int (J v_m)), (3, .int (J v_what)), (4, .int (J zz15_))] dX10_plan_183 hl (by decide) rfl (fun ls hl => ?_)
                        have L185_21 : ∀ (k185 : Nat) (gp : Int) (y66_c185 : Int → Int) (H : Heap) (locs : List Loc) (ls : Array Slot), inR gp → ((-1 ≤ gp ∧ gp ≤ (n_0 2) - 1) ∧ Lr_ (y66_c185) (256 * (gp + 1)) (256 * ((n_0 2) + 1)) ∧ ∀ p_, gp < p_ → p_ < (n_0 2) → ∀ v_, 0 ≤ v_ → v_ < 256 → DPc_ (n_0 2) (f_0 6) (f_0 19) (f_0 3) (y64_c69) (y66_c185) (x65_c69) p_ v_) → (gp + 1) < (k185 : Int) → WM D cy q (upN (upN n_0 0 0) 65 x65_c69) (upF (upF f_0 64 y64_c69) 66 y66_c185) A0 H0 H locs → lv_has ls 9 [(0, .ref (q 0)), (1, .int (J v_set)), (2, .int (J v_m)), (3, .int (J v_what)), (4, .int (J zz15_)), (5, .int (J gp))] → W p l e (rmd 5 0 0) s m ar below meth c H locs 0 0 QW (F0 m 185 ls []) := by
                          intro k185
                          induction k185 with
                          | zero =>
                            intro gp y66_c185 H locs ls r_gp iv185 ms185 hw hl
                            exfalso; omega
                          | succ k185 ih185 =>
                            intro gp y66_c185 H locs ls r_gp iv185 ms185 hw hl
                            refine j_iload E 187 rfl dX10_plan_185 (lv_at hl 5 rfl) ?_
                            refine j_if_lt E 190 290 rfl r_gp dX10_plan_187 (by decide) (fun cc23_ => ?_) (fun cc23_ => ?_)
                            · have hL_ : Lr_ (y66_c185) 0 (256 * ((n_0 2) + 1)) := Lr_eq iv185.2.1 (by omega) rfl
                              refine j_aload_n E 291 rfl dX10_plan_290 rfl (lv_at hl 0 rfl) ?_
                              refine m_ag_66 E hK hw 294 rfl dX10_plan_291 ?_
                              refine j_iload E 296 rfl dX10_plan_294 (lv_at hl 4 rfl) ?_
                              refine m_ld_66 E hK hw (y66_c185 zz15_) rfl (by omega) 297 rfl dX10_plan_296 (fun rr24_ => ?_)
                              have hC_ := hL_ zz15_ (by omega) (by omega)
                              refine j_istore E 299 rfl [(5, .int (J (y66_c185 zz15_))), (0, .ref (q 0)), (1, .int (J v_set)), (2, .int (J v_m)), (3, .int (J v_what)), (4, .int (J zz15_))] dX10_plan_297 hl (by decide) rfl (fun ls hl => ?_)
                              refine j_iload E 301 rfl dX10_plan_299 (lv_at hl 0 rfl) ?_
                              refine j_ldcw (z := 1000000) E 304 rfl (gT_c7 (List.mem_of_getElem? (i := 162) (by decide +kernel)) (by decide +kernel)) dX10_plan_301 ?_
                              refine j_icmp_lt E 307 309 rfl rr24_ (rr (by decide)) dX10_plan_304 (by decide) (fun cc25_ => ?_) (fun cc25_ => ?_)
                              · refine j_iconst E 310 rfl dX10_plan_309 ?_
                                refine j_istore E 312 rfl [(6, .int (J 0)), (5, .int (J (y66_c185 zz15_))), (0, .ref (q 0)), (1, .int (J v_set)), (2, .int (J v_m)), (3, .int (J v_what)), (4, .int (J zz15_))] dX10_plan_310 hl (by decide) rfl (fun ls hl => ?_)
                                refine j_iconst E 313 rfl dX10_plan_312 ?_
                                refine j_istore E 315 rfl [(7, .int (J 0)), (6, .int (J 0)), (5, .int (J (y66_c185 zz15_))), (0, .ref (q 0)), (1, .int (J v_set)), (2, .int (J v_m)), (3, .int (J v_what)), (4, .int (J zz15_))] dX10_plan_313 hl (by decide) rfl (fun ls hl => ?_)
                                have L315_26 : ∀ (k315 : Nat) (gt gk : Int) (H : Heap) (locs : List Loc) (ls : Array Slot), inR gt → inR gk → (0 ≤ gk ∧ gk ≤ 4) → (4 - gk) < (k315 : Int) → WM D cy q (upN (upN n_0 0 0) 65 x65_c69) (upF (upF f_0 64 y64_c69) 66 y66_c185) A0 H0 H locs → lv_has ls 9 [(0, .ref (q 0)), (1, .int (J v_set)), (2, .int (J v_m)), (3, .int (J v_what)), (4, .int (J zz15_)), (5, .int (J (y66_c185 zz15_))), (6, .int (J gt)), (7, .int (J gk))] → W p l e (rmd 5 0 0) s m ar below meth c H locs 0 0 QW (F0 m 315 ls []) := by
                                  intro k315
                                  induction k315 with
                                  | zero =>
                                    intro gt gk H locs ls r_gt r_gk iv315 ms315 hw hl
                                    exfalso; omega
                                  | succ k315 ih315 =>
                                    intro gt gk H locs ls r_gt r_gk iv315 ms315 hw hl
                                    refine j_iload E 317 rfl dX10_plan_315 (lv_at hl 7 rfl) ?_
                                    refine j_aload_n E 318 rfl dX10_plan_317 rfl (lv_at hl 0 rfl) ?_
                                    refine m_get_65 E hK hw x65_c69 rfl 321 rfl dX10_plan_318 (fun _ => ?_)
                                    refine j_icmp_ge E 324 344 rfl r_gk rx65_c69 dX10_plan_321 (by decide) (fun cc28_ => ?_) (fun cc28_ => ?_)
                                    · refine j_iload_n E 345 rfl dX10_plan_344 rfl (lv_at hl 3 rfl) ?_
                                      refine j_iconst E 346 rfl dX10_plan_345 ?_
                                      refine j_icmp_ge E 349 361 rfl r_v_what (rr (by decide)) dX10_plan_346 (by decide) (fun cc29_ => ?_) (fun cc29_ => ?_)
                                      · refine j_aload_n E 362 rfl dX10_plan_361 rfl (lv_at hl 0 rfl) ?_
                                        refine j_iload_n E 363 rfl dX10_plan_362 rfl (lv_at hl 3 rfl) ?_
                                        refine j_bipush E 365 rfl dX10_plan_363 (by decide) ?_
                                        refine j_isub E 366 rfl dX10_plan_365 ?_
                                        refine j_iload E 368 rfl dX10_plan_366 (lv_at hl 4 rfl) ?_
                                        refine m_callp (po := fun z_0 => True) E (c_X10_taughtBy l D cy q (upN (upN n_0 0 0) 65 x65_c69) (upF (upF f_0 64 y64_c69) 66 y66_c185) (v_what - 10) zz15_  (rr (by omega)) rr15_ (show (n_0 2) ≤ 24 from by omega) (show 0 ≤ (v_what - 10) ∧ (v_what - 10) < (n_0 2) from by omega) (show 0 ≤ zz15_ ∧ zz15_ < 256 from by omega) (show (0 ≤ (x65_c69) ∧ (x65_c69) ≤ 4 ∧ ∀ i, 0 ≤ i → i < (x65_c69) → 0 ≤ (y64_c69 i) ∧ (y64_c69 i) < 24) from ⟨by omega, by omega, iv69.2.2⟩) (show Lr_ (y66_c185) 0 (256 * ((n_0 2) + 1)) from hL_) (show (∀ p_, 0 ≤ p_ → p_ < (n_0 2) → ∀ v_, 0 ≤ v_ → v_ < 256 → DPc_ (n_0 2) (f_0 6) (f_0 19) (f_0 3) (y64_c69) (y66_c185) (x65_c69) p_ v_) from fun p_ h1 h2 => iv185.2.2 p_ (by omega) h2) (show (y66_c185 zz15_) < 1000000 from by omega)) rfl mt_X10_taughtBy ml_X10_395 hK hw hA ⟨Nat.le_of_ble_eq_true rfl, Nat.le_of_ble_eq_true rfl⟩ (As := [.int (J (v_what - 10)), .int (J zz15_)]) (rest := []) rfl rfl hl.1 (Nat.le_of_ble_eq_true rfl) 371 rfl dX10_plan_368 (fun zz30_ H locs rr30_ hq30_ hw => ?_)
                                        have hh30_ : True := hq30_
                                        clear hq30_
                                        exact hret 371 zz30_ (upN (upN n_0 0 0) 65 x65_c69) (upF (upF f_0 64 y64_c69) 66 y66_c185) _ _ ls hw rr30_ ⟨0, x65_c69, y64_c69, y66_c185, rfl, rfl, ⟨⟨i_now, i_persons, i_lines, i_wordings, i_taped, i_suits, i_spk, i_fam, i_str, i_said, i_book, i_wds, i_tok, i_cod, i_far, i_tap, i_qua, i_sil, i_stz, i_way⟩, trivial⟩⟩ dX10_plan_371
                                      · refine j_iload_n E 350 rfl dX10_plan_349 rfl (lv_at hl 3 rfl) ?_
                                        refine j_if_ne E 353 358 rfl r_v_what dX10_plan_350 (by decide) (fun cc31_ => ?_) (fun cc31_ => ?_)
                                        · refine j_iload E 360 rfl dX10_plan_358 (lv_at hl 6 rfl) ?_
                                          exact hret 360 gt (upN (upN n_0 0 0) 65 x65_c69) (upF (upF f_0 64 y64_c69) 66 y66_c185) _ _ ls hw r_gt ⟨0, x65_c69, y64_c69, y66_c185, rfl, rfl, ⟨⟨i_now, i_persons, i_lines, i_wordings, i_taped, i_suits, i_spk, i_fam, i_str, i_said, i_book, i_wds, i_tok, i_cod, i_far, i_tap, i_qua, i_sil, i_stz, i_way⟩, trivial⟩⟩ dX10_plan_360
                                        · refine j_iload E 355 rfl dX10_plan_353 (lv_at hl 5 rfl) ?_
                                          refine j_goto E 360 dX10_plan_355 (by decide) ?_
                                          exact hret 360 (y66_c185 zz15_) (upN (upN n_0 0 0) 65 x65_c69) (upF (upF f_0 64 y64_c69) 66 y66_c185) _ _ ls hw rr24_ ⟨0, x65_c69, y64_c69, y66_c185, rfl, rfl, ⟨⟨i_now, i_persons, i_lines, i_wordings, i_taped, i_suits, i_spk, i_fam, i_str, i_said, i_book, i_wds, i_tok, i_cod, i_far, i_tap, i_qua, i_sil, i_stz, i_way⟩, trivial⟩⟩ dX10_plan_360
                                    · refine j_iload E 326 rfl dX10_plan_324 (lv_at hl 6 rfl) ?_
                                      refine j_iload E 328 rfl dX10_plan_326 (lv_at hl 4 rfl) ?_
                                      refine j_iconst E 329 rfl dX10_plan_328 ?_
                                      refine j_iload E 331 rfl dX10_plan_329 (lv_at hl 7 rfl) ?_
                                      refine j_imul E 332 rfl dX10_plan_331 ?_
                                      refine j_ishr E 333 rfl dX10_plan_332 (fun zz32_ rr32_ ee32_ => ?_)
                                      refine j_iconst E 334 rfl dX10_plan_333 ?_
                                      refine j_iand E 335 rfl dX10_plan_334 (fun zz33_ rr33_ ee33_ => ?_)
                                      refine j_iadd E 336 rfl dX10_plan_335 ?_
                                      refine j_norm (fun zz34_ rr34_ ee34_ => ?_)
                                      refine j_istore E 338 rfl [(6, .int (J zz34_)), (0, .ref (q 0)), (1, .int (J v_set)), (2, .int (J v_m)), (3, .int (J v_what)), (4, .int (J zz15_)), (5, .int (J (y66_c185 zz15_))), (7, .int (J gk))] dX10_plan_336 hl (by decide) rfl (fun ls hl => ?_)
                                      refine j_iinc E 341 rfl [(7, .int (J (gk + 1))), (6, .int (J zz34_)), (0, .ref (q 0)), (1, .int (J v_set)), (2, .int (J v_m)), (3, .int (J v_what)), (4, .int (J zz15_)), (5, .int (J (y66_c185 zz15_)))] dX10_plan_338 hl (kk := 7) rfl (by decide) rfl (fun ls hl => ?_)
                                      refine j_goto E 315 dX10_plan_341 (by decide) ?_
                                      exact ih315 zz34_ (gk + 1) H locs ls rr34_ (rr (by omega)) (by omega) (by omega) hw (lv_sub hl [2, 3, 4, 5, 6, 7, 1, 0] rfl)
                                exact L315_26 _ 0 0 H locs ls (rr (by decide)) (rr (by decide)) (by omega) (mk_lt _) hw (lv_sub hl [3, 4, 5, 6, 7, 2, 1, 0] rfl)
                              · refine j_iconst E 308 rfl dX10_plan_307 ?_
                                exact hret 308 ((-1)) (upN (upN n_0 0 0) 65 x65_c69) (upF (upF f_0 64 y64_c69) 66 y66_c185) _ _ ls hw (rr (by decide)) ⟨0, x65_c69, y64_c69, y66_c185, rfl, rfl, ⟨⟨i_now, i_persons, i_lines, i_wordings, i_taped, i_suits, i_spk, i_fam, i_str, i_said, i_book, i_wds, i_tok, i_cod, i_far, i_tap, i_qua, i_sil, i_stz, i_way⟩, trivial⟩⟩ dX10_plan_308
                            · refine j_iconst E 191 rfl dX10_plan_190 ?_
                              refine j_istore E 193 rfl [(6, .int (J 0)), (0, .ref (q 0)), (1, .int (J v_set)), (2, .int (J v_m)), (3, .int (J v_what)), (4, .int (J zz15_)), (5, .int (J gp))] dX10_plan_191 hl (by decide) rfl (fun ls hl => ?_)
                              have L193_35 : ∀ (k193 : Nat) (gw : Int) (y66_c193 : Int → Int) (H : Heap) (locs : List Loc) (ls : Array Slot), inR gw → ((0 ≤ gw ∧ gw ≤ 256) ∧ Lr_ (y66_c193) (256 * (gp + 1)) (256 * ((n_0 2) + 1)) ∧ Lr_ (y66_c193) (256 * gp) (256 * gp + gw) ∧ (∀ p_, gp < p_ → p_ < (n_0 2) → ∀ v_, 0 ≤ v_ → v_ < 256 → DPc_ (n_0 2) (f_0 6) (f_0 19) (f_0 3) (y64_c69) (y66_c193) (x65_c69) p_ v_) ∧ (∀ v_, 0 ≤ v_ → v_ < gw → DPc_ (n_0 2) (f_0 6) (f_0 19) (f_0 3) (y64_c69) (y66_c193) (x65_c69) gp v_)) → (256 - gw) < (k193 : Int) → WM D cy q (upN (upN n_0 0 0) 65 x65_c69) (upF (upF f_0 64 y64_c69) 66 y66_c193) A0 H0 H locs → lv_has ls 9 [(0, .ref (q 0)), (1, .int (J v_set)), (2, .int (J v_m)), (3, .int (J v_what)), (4, .int (J zz15_)), (5, .int (J gp)), (6, .int (J gw))] → W p l e (rmd 5 0 0) s m ar below meth c H locs 0 0 QW (F0 m 193 ls []) := by
                                intro k193
                                induction k193 with
                                | zero =>
                                  intro gw y66_c193 H locs ls r_gw iv193 ms193 hw hl
                                  exfalso; omega
                                | succ k193 ih193 =>
                                  intro gw y66_c193 H locs ls r_gw iv193 ms193 hw hl
                                  refine j_iload E 195 rfl dX10_plan_193 (lv_at hl 6 rfl) ?_
                                  refine j_sipush E 198 rfl dX10_plan_195 (by decide) ?_
                                  refine j_icmp_ge E 201 284 rfl r_gw (rr (by decide)) dX10_plan_198 (by decide) (fun cc37_ => ?_) (fun cc37_ => ?_)
                                  · refine j_iinc E 287 rfl [(5, .int (J (gp + (-1)))), (0, .ref (q 0)), (1, .int (J v_set)), (2, .int (J v_m)), (3, .int (J v_what)), (4, .int (J zz15_)), (6, .int (J gw))] dX10_plan_284 hl (kk := 5) rfl (by decide) rfl (fun ls hl => ?_)
                                    refine j_goto E 185 dX10_plan_287 (by decide) ?_
                                    exact ih185 (gp + (-1)) y66_c193 H locs ls (rr (by omega)) (⟨by omega, Lr_join iv193.2.2.1 iv193.2.1 (by omega) (by omega), dp_all (P := fun p_ v_ => DPc_ (n_0 2) (f_0 6) (f_0 19) (f_0 3) (y64_c69) (y66_c193) (x65_c69) p_ v_) (fun v_ h1 h2 => iv193.2.2.2.2 v_ h1 (by omega)) iv193.2.2.2.1 (by omega)⟩) (by omega) hw (lv_sub hl [1, 2, 3, 4, 5, 0] rfl)
                                  · refine j_aload_n E 202 rfl dX10_plan_201 rfl (lv_at hl 0 rfl) ?_
                                    refine j_iload E 204 rfl dX10_plan_202 (lv_at hl 5 rfl) ?_
                                    refine j_iload E 206 rfl dX10_plan_204 (lv_at hl 6 rfl) ?_
                                    refine j_iconst E 207 rfl dX10_plan_206 ?_
                                    refine m_callp (po := fun z_0 => (0 ≤ z_0 ∧ z_0 ≤ 1000003) ∧ (((-1 : Int) = -1 ∧ z_0 = (y66_c193 (256 * (gp + 1) + gw))) ∨ (¬ (-1 : Int) = -1 ∧ CBr_ (n_0 2) (f_0 6) (f_0 19) (f_0 3) (y64_c69) (y66_c193) gp gw (-1 : Int) z_0))) E (c_X10_costBy l D cy q (upN (upN n_0 0 0) 65 x65_c69) (upF (upF f_0 64 y64_c69) 66 y66_c193) gp gw ((-1))  r_gp r_gw (rr (by decide)) (show (n_0 2) ≤ 24 from by omega) (show 0 ≤ gp ∧ gp < 24 from by omega) (show 0 ≤ gw ∧ gw < 256 from by omega) (show -1 ≤ (-1 : Int) ∧ (-1 : Int) < (x65_c69) from by omega) (show (0 ≤ (x65_c69) ∧ (x65_c69) ≤ 4 ∧ ∀ i, 0 ≤ i → i < (x65_c69) → 0 ≤ (y64_c69 i) ∧ (y64_c69 i) < 24) from ⟨by omega, by omega, iv69.2.2⟩) (show Lr_ (y66_c193) (256 * (gp + 1)) (256 * (gp + 1) + 256) from fun i_ h1 h2 => iv193.2.1 i_ (by omega) (by omega))) rfl mt_X10_costBy ml_X10_392 hK hw hA ⟨Nat.le_of_ble_eq_true rfl, Nat.le_of_ble_eq_true rfl⟩ (As := [.int (J gp), .int (J gw), .int (J ((-1)))]) (rest := []) rfl rfl hl.1 (Nat.le_of_ble_eq_true rfl) 210 rfl dX10_plan_207 (fun zz38_ H locs rr38_ hq38_ hw => ?_)
                                    have hh38_ : (0 ≤ zz38_ ∧ zz38_ ≤ 1000003) ∧ (((-1 : Int) = -1 ∧ zz38_ = (y66_c193 (256 * (gp + 1) + gw))) ∨ (¬ (-1 : Int) = -1 ∧ CBr_ (n_0 2) (f_0 6) (f_0 19) (f_0 3) (y64_c69) (y66_c193) gp gw (-1 : Int) zz38_)) := hq38_
                                    clear hq38_
                                    have hn_ : zz38_ = (y66_c193 (256 * (gp + 1) + gw)) := hh38_.2.elim (fun h => h.2) (fun h => absurd rfl h.1)
                                    refine j_istore E 212 rfl [(7, .int (J zz38_)), (0, .ref (q 0)), (1, .int (J v_set)), (2, .int (J v_m)), (3, .int (J v_what)), (4, .int (J zz15_)), (5, .int (J gp)), (6, .int (J gw))] dX10_plan_210 hl (by decide) rfl (fun ls hl => ?_)
                                    refine j_iconst E 213 rfl dX10_plan_212 ?_
                                    refine j_istore E 215 rfl [(8, .int (J 0)), (7, .int (J zz38_)), (0, .ref (q 0)), (1, .int (J v_set)), (2, .int (J v_m)), (3, .int (J v_what)), (4, .int (J zz15_)), (5, .int (J gp)), (6, .int (J gw))] dX10_plan_213 hl (by decide) rfl (fun ls hl => ?_)
                                    have L215_39 : ∀ (k215 : Nat) (gb gj : Int) (H : Heap) (locs : List Loc) (ls : Array Slot), inR gb → inR gj → ((0 ≤ gj ∧ gj ≤ (x65_c69)) ∧ (0 ≤ gb ∧ gb ≤ 1000003) ∧ (gb = (y66_c193 (256 * (gp + 1) + gw)) ∨ ∃ j_, 0 ≤ j_ ∧ j_ < gj ∧ CBr_ (n_0 2) (f_0 6) (f_0 19) (f_0 3) (y64_c69) (y66_c193) gp gw j_ gb)) → ((x65_c69) - gj) < (k215 : Int) → WM D cy q (upN (upN n_0 0 0) 65 x65_c69) (upF (upF f_0 64 y64_c69) 66 y66_c193) A0 H0 H locs → lv_has ls 9 [(0, .ref (q 0)), (1, .int (J v_set)), (2, .int (J v_m)), (3, .int (J v_what)), (4, .int (J zz15_)), (5, .int (J gp)), (6, .int (J gw)), (7, .int (J gb)), (8, .int (J gj))] → W p l e (rmd 5 0 0) s m ar below meth c H locs 0 0 QW (F0 m 215 ls []) := by
                                      intro k215
                                      induction k215 with
                                      | zero =>
                                        intro gb gj H locs ls r_gb r_gj iv215 ms215 hw hl
                                        exfalso; omega
                                      | succ k215 ih215 =>
                                        intro gb gj H locs ls r_gb r_gj iv215 ms215 hw hl
                                        refine j_iload E 217 rfl dX10_plan_215 (lv_at hl 8 rfl) ?_
                                        refine j_aload_n E 218 rfl dX10_plan_217 rfl (lv_at hl 0 rfl) ?_
                                        refine m_get_65 E hK hw x65_c69 rfl 221 rfl dX10_plan_218 (fun _ => ?_)
                                        refine j_icmp_ge E 224 248 rfl r_gj rx65_c69 dX10_plan_221 (by decide) (fun cc41_ => ?_) (fun cc41_ => ?_)
                                        · refine j_aload_n E 249 rfl dX10_plan_248 rfl (lv_at hl 0 rfl) ?_
                                          refine m_ag_66 E hK hw 252 rfl dX10_plan_249 ?_
                                          refine j_sipush E 255 rfl dX10_plan_252 (by decide) ?_
                                          refine j_iload E 257 rfl dX10_plan_255 (lv_at hl 5 rfl) ?_
                                          refine j_imul E 258 rfl dX10_plan_257 ?_
                                          refine j_iload E 260 rfl dX10_plan_258 (lv_at hl 6 rfl) ?_
                                          refine j_iadd E 261 rfl dX10_plan_260 ?_
                                          refine j_iload E 263 rfl dX10_plan_261 (lv_at hl 7 rfl) ?_
                                          refine j_ldcw (z := 1000000) E 266 rfl (gT_c7 (List.mem_of_getElem? (i := 162) (by decide +kernel)) (by decide +kernel)) dX10_plan_263 ?_
                                          refine j_icmp_le E 269 275 rfl r_gb (rr (by decide)) dX10_plan_266 (by decide) (fun cc42_ => ?_) (fun cc42_ => ?_)
                                          · refine j_iload E 277 rfl dX10_plan_275 (lv_at hl 7 rfl) ?_
                                            refine m_st_66 E hK hw (by omega) r_gb 278 rfl dX10_plan_277 (fun H locs hw => ?_)
                                            have hw : WM D cy q (upN (upN n_0 0 0) 65 x65_c69) (upF (upF f_0 64 y64_c69) 66 (upA (y66_c193) ((256 * gp) + gw) gb)) A0 H0 H locs := hw
                                            refine j_iinc E 281 rfl [(6, .int (J (gw + 1))), (0, .ref (q 0)), (1, .int (J v_set)), (2, .int (J v_m)), (3, .int (J v_what)), (4, .int (J zz15_)), (5, .int (J gp)), (7, .int (J gb)), (8, .int (J gj))] dX10_plan_278 hl (kk := 6) rfl (by decide) rfl (fun ls hl => ?_)
                                            refine j_goto E 193 dX10_plan_281 (by decide) ?_
                                            exact ih193 (gw + 1) (upA (y66_c193) ((256 * gp) + gw) gb) H locs ls (rr (by omega)) (⟨by omega, Lr_out iv193.2.1 (by omega), Lr_stp iv193.2.2.1 (by omega) (by omega), fun p_ h1 h2 v_ h3 h4 => DPc_up (iv193.2.2.2.1 p_ h1 h2 v_ h3 h4) ⟨h3, h4⟩ (by omega) (by omega) (by omega), tc_step (P := fun v_ => DPc_ (n_0 2) (f_0 6) (f_0 19) (f_0 3) (y64_c69) (upA (y66_c193) ((256 * gp) + gw) gb) (x65_c69) gp v_) (fun v_ h1 h2 => DPc_up (iv193.2.2.2.2 v_ h1 h2) ⟨h1, by omega⟩ (by omega) (by omega) (by omega)) (DPc_new ⟨by omega, by omega⟩ (by omega) (by first | exact Or.inl rfl | exact Or.inr (iv215.2.2.elim Or.inl (fun q_ => Or.inr (by obtain ⟨j_, r1_, r2_, r3_⟩ := q_; exact ⟨j_, r1_, by omega, r3_⟩)))))⟩) (by omega) hw (lv_sub hl [1, 2, 3, 4, 5, 6, 0] rfl)
                                          · refine j_ldcw (z := 1000000) E 272 rfl (gT_c7 (List.mem_of_getElem? (i := 162) (by decide +kernel)) (by decide +kernel)) dX10_plan_269 ?_
                                            refine j_goto E 277 dX10_plan_272 (by decide) ?_
                                            refine m_st_66 E hK hw (by omega) (rr (by decide)) 278 rfl dX10_plan_277 (fun H locs hw => ?_)
                                            have hw : WM D cy q (upN (upN n_0 0 0) 65 x65_c69) (upF (upF f_0 64 y64_c69) 66 (upA (y66_c193) ((256 * gp) + gw) 1000000)) A0 H0 H locs := hw
                                            refine j_iinc E 281 rfl [(6, .int (J (gw + 1))), (0, .ref (q 0)), (1, .int (J v_set)), (2, .int (J v_m)), (3, .int (J v_what)), (4, .int (J zz15_)), (5, .int (J gp)), (7, .int (J gb)), (8, .int (J gj))] dX10_plan_278 hl (kk := 6) rfl (by decide) rfl (fun ls hl => ?_)
                                            refine j_goto E 193 dX10_plan_281 (by decide) ?_
                                            exact ih193 (gw + 1) (upA (y66_c193) ((256 * gp) + gw) 1000000) H locs ls (rr (by omega)) (⟨by omega, Lr_out iv193.2.1 (by omega), Lr_stp iv193.2.2.1 (by omega) (by omega), fun p_ h1 h2 v_ h3 h4 => DPc_up (iv193.2.2.2.1 p_ h1 h2 v_ h3 h4) ⟨h3, h4⟩ (by omega) (by omega) (by omega), tc_step (P := fun v_ => DPc_ (n_0 2) (f_0 6) (f_0 19) (f_0 3) (y64_c69) (upA (y66_c193) ((256 * gp) + gw) 1000000) (x65_c69) gp v_) (fun v_ h1 h2 => DPc_up (iv193.2.2.2.2 v_ h1 h2) ⟨h1, by omega⟩ (by omega) (by omega) (by omega)) (DPc_new ⟨by omega, by omega⟩ (by omega) (by first | exact Or.inl rfl | exact Or.inr (iv215.2.2.elim Or.inl (fun q_ => Or.inr (by obtain ⟨j_, r1_, r2_, r3_⟩ := q_; exact ⟨j_, r1_, by omega, r3_⟩)))))⟩) (by omega) hw (lv_sub hl [1, 2, 3, 4, 5, 6, 0] rfl)
                                        · refine j_aload_n E 225 rfl dX10_plan_224 rfl (lv_at hl 0 rfl) ?_
                                          refine j_iload E 227 rfl dX10_plan_225 (lv_at hl 7 rfl) ?_
                                          refine j_aload_n E 228 rfl dX10_plan_227 rfl (lv_at hl 0 rfl) ?_
                                          refine j_iload E 230 rfl dX10_plan_228 (lv_at hl 5 rfl) ?_
                                          refine j_iload E 232 rfl dX10_plan_230 (lv_at hl 6 rfl) ?_
                                          refine j_iload E 234 rfl dX10_plan_232 (lv_at hl 8 rfl) ?_
                                          refine m_callp (po := fun z_0 => (0 ≤ z_0 ∧ z_0 ≤ 1000003) ∧ ((gj = -1 ∧ z_0 = (y66_c193 (256 * (gp + 1) + gw))) ∨ (¬ gj = -1 ∧ CBr_ (n_0 2) (f_0 6) (f_0 19) (f_0 3) (y64_c69) (y66_c193) gp gw gj z_0))) E (c_X10_costBy l D cy q (upN (upN n_0 0 0) 65 x65_c69) (upF (upF f_0 64 y64_c69) 66 y66_c193) gp gw gj  r_gp r_gw r_gj (show (n_0 2) ≤ 24 from by omega) (show 0 ≤ gp ∧ gp < 24 from by omega) (show 0 ≤ gw ∧ gw < 256 from by omega) (show -1 ≤ gj ∧ gj < (x65_c69) from by omega) (show (0 ≤ (x65_c69) ∧ (x65_c69) ≤ 4 ∧ ∀ i, 0 ≤ i → i < (x65_c69) → 0 ≤ (y64_c69 i) ∧ (y64_c69 i) < 24) from ⟨by omega, by omega, iv69.2.2⟩) (show Lr_ (y66_c193) (256 * (gp + 1)) (256 * (gp + 1) + 256) from fun i_ h1 h2 => iv193.2.1 i_ (by omega) (by omega))) rfl mt_X10_costBy ml_X10_392 hK hw hA ⟨Nat.le_of_ble_eq_true rfl, Nat.le_of_ble_eq_true rfl⟩ (As := [.int (J gp), .int (J gw), .int (J gj)]) (rest := [.int (J gb), .ref (q 0)]) rfl rfl hl.1 (Nat.le_of_ble_eq_true rfl) 237 rfl dX10_plan_234 (fun zz45_ H locs rr45_ hq45_ hw => ?_)
                                          have hh45_ : (0 ≤ zz45_ ∧ zz45_ ≤ 1000003) ∧ ((gj = -1 ∧ zz45_ = (y66_c193 (256 * (gp + 1) + gw))) ∨ (¬ gj = -1 ∧ CBr_ (n_0 2) (f_0 6) (f_0 19) (f_0 3) (y64_c69) (y66_c193) gp gw gj zz45_)) := hq45_
                                          clear hq45_
                                          have hcb_ : CBr_ (n_0 2) (f_0 6) (f_0 19) (f_0 3) (y64_c69) (y66_c193) gp gw gj zz45_ := hh45_.2.elim (fun h => absurd h.1 (by omega)) (fun h => h.2)
                                          refine m_callp (po := fun z_0 => (z_0 = gb ∧ gb ≤ zz45_) ∨ (z_0 = zz45_ ∧ zz45_ ≤ gb)) E (c_X10_least l D cy q (upN (upN n_0 0 0) 65 x65_c69) (upF (upF f_0 64 y64_c69) 66 y66_c193) gb zz45_  r_gb rr45_ ) rfl mt_X10_least ml_X10_367 hK hw hA ⟨Nat.le_of_ble_eq_true rfl, Nat.le_of_ble_eq_true rfl⟩ (As := [.int (J gb), .int (J zz45_)]) (rest := []) rfl rfl hl.1 (Nat.le_of_ble_eq_true rfl) 240 rfl dX10_plan_237 (fun zz46_ H locs rr46_ hq46_ hw => ?_)
                                          have hh46_ : (zz46_ = gb ∧ gb ≤ zz45_) ∨ (zz46_ = zz45_ ∧ zz45_ ≤ gb) := hq46_
                                          clear hq46_
                                          have hle_ := hh46_
                                          clear hh46_
                                          refine j_istore E 242 rfl [(7, .int (J zz46_)), (0, .ref (q 0)), (1, .int (J v_set)), (2, .int (J v_m)), (3, .int (J v_what)), (4, .int (J zz15_)), (5, .int (J gp)), (6, .int (J gw)), (8, .int (J gj))] dX10_plan_240 hl (by decide) rfl (fun ls hl => ?_)
                                          refine j_iinc E 245 rfl [(8, .int (J (gj + 1))), (7, .int (J zz46_)), (0, .ref (q 0)), (1, .int (J v_set)), (2, .int (J v_m)), (3, .int (J v_what)), (4, .int (J zz15_)), (5, .int (J gp)), (6, .int (J gw))] dX10_plan_242 hl (kk := 8) rfl (by decide) rfl (fun ls hl => ?_)
                                          refine j_goto E 215 dX10_plan_245 (by decide) ?_
                                          exact ih215 zz46_ (gj + 1) H locs ls rr46_ (rr (by omega)) (⟨by omega, by omega, lc_min (C := fun j_ z_ => CBr_ (n_0 2) (f_0 6) (f_0 19) (f_0 3) (y64_c69) (y66_c193) gp gw j_ z_) hle_ iv215.2.2 hcb_ (by omega)⟩) (by omega) hw (lv_sub hl [2, 3, 4, 5, 6, 7, 8, 1, 0] rfl)
                                    exact L215_39 _ zz38_ 0 H locs ls rr38_ (rr (by decide)) (⟨by omega, by omega, Or.inl hn_⟩) (mk_lt _) hw (lv_sub hl [2, 3, 4, 5, 6, 7, 8, 1, 0] rfl)
                              exact L193_35 _ 0 y66_c185 H locs ls (rr (by decide)) (⟨by omega, iv185.2.1, fun i h1 h2 => absurd h2 (by omega), iv185.2.2, fun v_ h1 h2 => absurd h2 (by omega)⟩) (mk_lt _) hw (lv_sub hl [1, 2, 3, 4, 5, 6, 0] rfl)
                        exact L185_21 _ ((n_0 2) - 1) y66_c135 H locs ls (rr (by omega)) (⟨by omega, Lr_eq iv135.2 (by omega) (by omega), fun p_ h1 h2 => absurd h2 (by omega)⟩) (mk_lt _) hw (lv_sub hl [1, 2, 3, 4, 5, 0] rfl)
                      · refine j_aload_n E 144 rfl dX10_plan_143 rfl (lv_at hl 0 rfl) ?_
                        refine m_ag_66 E hK hw 147 rfl dX10_plan_144 ?_
                        refine j_sipush E 150 rfl dX10_plan_147 (by decide) ?_
                        refine j_aload_n E 151 rfl dX10_plan_150 rfl (lv_at hl 0 rfl) ?_
                        refine m_get_2 E hK hw (n_0 2) rfl 154 rfl dX10_plan_151 (fun rr47_ => ?_)
                        refine j_imul E 155 rfl dX10_plan_154 ?_
                        refine j_iload E 157 rfl dX10_plan_155 (lv_at hl 5 rfl) ?_
                        refine j_iadd E 158 rfl dX10_plan_157 ?_
                        refine j_iload E 160 rfl dX10_plan_158 (lv_at hl 5 rfl) ?_
                        refine j_if_ne E 163 167 rfl r_gv dX10_plan_160 (by decide) (fun cc48_ => ?_) (fun cc48_ => ?_)
                        · refine j_ldcw (z := 1000000) E 170 rfl (gT_c7 (List.mem_of_getElem? (i := 162) (by decide +kernel)) (by decide +kernel)) dX10_plan_167 ?_
                          refine m_st_66 E hK hw (by omega) (rr (by decide)) 171 rfl dX10_plan_170 (fun H locs hw => ?_)
                          have hw : WM D cy q (upN (upN n_0 0 0) 65 x65_c69) (upF (upF f_0 64 y64_c69) 66 (upA (y66_c135) ((256 * (n_0 2)) + gv) 1000000)) A0 H0 H locs := hw
                          refine j_iinc E 174 rfl [(5, .int (J (gv + 1))), (0, .ref (q 0)), (1, .int (J v_set)), (2, .int (J v_m)), (3, .int (J v_what)), (4, .int (J zz15_))] dX10_plan_171 hl (kk := 5) rfl (by decide) rfl (fun ls hl => ?_)
                          refine j_goto E 135 dX10_plan_174 (by decide) ?_
                          exact ih135 (gv + 1) (upA (y66_c135) ((256 * (n_0 2)) + gv) 1000000) H locs ls (rr (by omega)) (⟨by omega, Lr_stp iv135.2 (by omega) (by omega)⟩) (by omega) hw (lv_sub hl [1, 2, 3, 4, 5, 0] rfl)
                        · refine j_iconst E 164 rfl dX10_plan_163 ?_
                          refine j_goto E 170 dX10_plan_164 (by decide) ?_
                          refine m_st_66 E hK hw (by omega) (rr (by decide)) 171 rfl dX10_plan_170 (fun H locs hw => ?_)
                          have hw : WM D cy q (upN (upN n_0 0 0) 65 x65_c69) (upF (upF f_0 64 y64_c69) 66 (upA (y66_c135) ((256 * (n_0 2)) + gv) 0)) A0 H0 H locs := hw
                          refine j_iinc E 174 rfl [(5, .int (J (gv + 1))), (0, .ref (q 0)), (1, .int (J v_set)), (2, .int (J v_m)), (3, .int (J v_what)), (4, .int (J zz15_))] dX10_plan_171 hl (kk := 5) rfl (by decide) rfl (fun ls hl => ?_)
                          refine j_goto E 135 dX10_plan_174 (by decide) ?_
                          exact ih135 (gv + 1) (upA (y66_c135) ((256 * (n_0 2)) + gv) 0) H locs ls (rr (by omega)) (⟨by omega, Lr_stp iv135.2 (by omega) (by omega)⟩) (by omega) hw (lv_sub hl [1, 2, 3, 4, 5, 0] rfl)
                  exact L135_17 _ 0 (f_0 66) H locs ls (rr (by decide)) (⟨by omega, fun i h1 h2 => absurd h2 (by omega)⟩) (mk_lt _) hw (lv_sub hl [2, 3, 4, 5, 1, 0] rfl)
                · refine j_iconst E 131 rfl dX10_plan_130 ?_
                  exact hret 131 ((-1)) (upN (upN n_0 0 0) 65 x65_c69) (upF (upF f_0 64 y64_c69) 66 (f_0 66)) _ _ ls hw (rr (by decide)) ⟨0, x65_c69, y64_c69, (f_0 66), rfl, rfl, ⟨⟨i_now, i_persons, i_lines, i_wordings, i_taped, i_suits, i_spk, i_fam, i_str, i_said, i_book, i_wds, i_tok, i_cod, i_far, i_tap, i_qua, i_sil, i_stz, i_way⟩, trivial⟩⟩ dX10_plan_131
              · refine j_iload_n E 79 rfl dX10_plan_78 rfl (lv_at hl 1 rfl) ?_
                refine j_iload E 81 rfl dX10_plan_79 (lv_at hl 4 rfl) ?_
                refine j_ishr E 82 rfl dX10_plan_81 (fun zz51_ rr51_ ee51_ => ?_)
                have es_ := ee51_
                refine j_iconst E 83 rfl dX10_plan_82 ?_
                refine j_iand E 84 rfl dX10_plan_83 (fun zz52_ rr52_ ee52_ => ?_)
                have hs_ := sh_bit es_ ee52_ (by omega) rr52_
                refine j_if_ne E 87 90 rfl rr52_ dX10_plan_84 (by decide) (fun cc53_ => ?_) (fun cc53_ => ?_)
                · have hb_ : bt_ v_set gx.toNat = true := hs_.elim (fun h => absurd h.1 (by omega)) (fun h => h.2)
                  have hc_ := ct_nx1 (set := v_set) (x := gx) (by omega) hb_
                  have hd_ := ct_cap v_set (gx + 1) (by omega)
                  refine j_aload_n E 91 rfl dX10_plan_90 rfl (lv_at hl 0 rfl) ?_
                  refine m_ag_64 E hK hw 94 rfl dX10_plan_91 ?_
                  refine j_aload_n E 95 rfl dX10_plan_94 rfl (lv_at hl 0 rfl) ?_
                  refine m_get_65 E hK hw x65_c69 rfl 98 rfl dX10_plan_95 (fun _ => ?_)
                  refine j_iload E 100 rfl dX10_plan_98 (lv_at hl 4 rfl) ?_
                  refine m_st_64 E hK hw (by omega) r_gx 101 rfl dX10_plan_100 (fun H locs hw => ?_)
                  have hw : WM D cy q (upN (upN n_0 0 0) 65 x65_c69) (upF f_0 64 (upA (y64_c69) x65_c69 gx)) A0 H0 H locs := hw
                  refine j_aload_n E 102 rfl dX10_plan_101 rfl (lv_at hl 0 rfl) ?_
                  refine j_aload_n E 103 rfl dX10_plan_102 rfl (lv_at hl 0 rfl) ?_
                  refine m_get_65 E hK hw x65_c69 rfl 106 rfl dX10_plan_103 (fun _ => ?_)
                  refine j_iconst E 107 rfl dX10_plan_106 ?_
                  refine j_iadd E 108 rfl dX10_plan_107 ?_
                  refine m_put_65 E hK hw (rr (by omega)) 111 rfl dX10_plan_108 (fun H locs hw => ?_)
                  have hw : WM D cy q (upN (upN n_0 0 0) 65 (x65_c69 + 1)) (upF f_0 64 (upA (y64_c69) x65_c69 gx)) A0 H0 H locs := hw
                  refine j_iinc E 114 rfl [(4, .int (J (gx + 1))), (0, .ref (q 0)), (1, .int (J v_set)), (2, .int (J v_m)), (3, .int (J v_what))] dX10_plan_111 hl (kk := 4) rfl (by decide) rfl (fun ls hl => ?_)
                  refine j_goto E 69 dX10_plan_114 (by decide) ?_
                  exact ih69 (gx + 1) (x65_c69 + 1) (upA (y64_c69) x65_c69 gx) H locs ls (rr (by omega)) (by first | exact ⟨by omega, by omega, pl_step iv69.2.2 (by omega)⟩ | exact ⟨by omega, by omega, iv69.2.2⟩) (by omega) hw (lv_sub hl [1, 2, 3, 4, 0] rfl)
                · have hb_ : bt_ v_set gx.toNat = false := hs_.elim (fun h => h.2) (fun h => absurd h.1 (by omega))
                  have hc_ := ct_nx0 (set := v_set) (x := gx) (by omega) hb_
                  refine j_goto E 111 dX10_plan_87 (by decide) ?_
                  refine j_iinc E 114 rfl [(4, .int (J (gx + 1))), (0, .ref (q 0)), (1, .int (J v_set)), (2, .int (J v_m)), (3, .int (J v_what))] dX10_plan_111 hl (kk := 4) rfl (by decide) rfl (fun ls hl => ?_)
                  refine j_goto E 69 dX10_plan_114 (by decide) ?_
                  exact ih69 (gx + 1) x65_c69 y64_c69 H locs ls (rr (by omega)) (by first | exact ⟨by omega, by omega, pl_step iv69.2.2 (by omega)⟩ | exact ⟨by omega, by omega, iv69.2.2⟩) (by omega) hw (lv_sub hl [1, 2, 3, 4, 0] rfl)
          exact L69_11 _ 0 0 (f_0 64) H locs ls (rr (by decide)) (⟨by omega, by rfl, fun i h1 h2 => absurd h2 (by omega)⟩) (mk_lt _) hw (lv_sub hl [1, 2, 3, 4, 0] rfl)
        refine j_aload_n E 33 rfl dX10_plan_32 rfl (lv_at hl 0 rfl) ?_
        refine j_iload_n E 34 rfl dX10_plan_33 rfl (lv_at hl 3 rfl) ?_
        refine j_iconst E 35 rfl dX10_plan_34 ?_
        refine j_iconst E 36 rfl dX10_plan_35 ?_
        refine m_callp (po := fun z_0 => (z_0 = 1 ∧ (0 : Int) ≤ v_what ∧ v_what ≤ (1 : Int)) ∨ (z_0 = 0 ∧ (v_what < (0 : Int) ∨ (1 : Int) < v_what))) E (c_X10_isIn l D cy q (upN n_0 0 0) (f_0) v_what 0 1  r_v_what (rr (by decide)) (rr (by decide)) ) rfl mt_X10_isIn ml_X10_169 hK hw hA ⟨Nat.le_of_ble_eq_true rfl, Nat.le_of_ble_eq_true rfl⟩ (As := [.int (J v_what), .int (J 0), .int (J 1)]) (rest := []) rfl rfl hl.1 (Nat.le_of_ble_eq_true rfl) 39 rfl dX10_plan_36 (fun zz56_ H locs rr56_ hq56_ hw => ?_)
        have hh56_ : (zz56_ = 1 ∧ (0 : Int) ≤ v_what ∧ v_what ≤ (1 : Int)) ∨ (zz56_ = 0 ∧ (v_what < (0 : Int) ∨ (1 : Int) < v_what)) := hq56_
        clear hq56_
        rcases hh56_ with ⟨ee56_, hh56_⟩ | ⟨ee56_, hh56_⟩
        · subst ee56_
          refine j_if_ne E 42 61 rfl (rr (by decide)) dX10_plan_39 (by decide) (fun _ => ?_) (fun cc57_ => absurd cc57_ (by decide))
          exact L61_8  H locs ls  (by omega) hw (lv_sub hl [0, 1, 2, 3] rfl)
        · subst ee56_
          refine j_if_ne E 42 61 rfl (rr (by decide)) dX10_plan_39 (by decide) (fun cc58_ => absurd cc58_ (by decide)) (fun _ => ?_)
          refine j_aload_n E 43 rfl dX10_plan_42 rfl (lv_at hl 0 rfl) ?_
          refine j_iload_n E 44 rfl dX10_plan_43 rfl (lv_at hl 3 rfl) ?_
          refine j_bipush E 46 rfl dX10_plan_44 (by decide) ?_
          refine j_bipush E 48 rfl dX10_plan_46 (by decide) ?_
          refine j_aload_n E 49 rfl dX10_plan_48 rfl (lv_at hl 0 rfl) ?_
          refine m_get_2 E hK hw (n_0 2) rfl 52 rfl dX10_plan_49 (fun rr59_ => ?_)
          refine j_iadd E 53 rfl dX10_plan_52 ?_
          refine m_callp (po := fun z_0 => (z_0 = 1 ∧ (10 : Int) ≤ v_what ∧ v_what ≤ (9 + (n_0 2))) ∨ (z_0 = 0 ∧ (v_what < (10 : Int) ∨ (9 + (n_0 2)) < v_what))) E (c_X10_isIn l D cy q (upN n_0 0 0) (f_0) v_what 10 (9 + (n_0 2))  r_v_what (rr (by decide)) (rr (by omega)) ) rfl mt_X10_isIn ml_X10_169 hK hw hA ⟨Nat.le_of_ble_eq_true rfl, Nat.le_of_ble_eq_true rfl⟩ (As := [.int (J v_what), .int (J 10), .int (J (9 + (n_0 2)))]) (rest := []) rfl rfl hl.1 (Nat.le_of_ble_eq_true rfl) 56 rfl dX10_plan_53 (fun zz60_ H locs rr60_ hq60_ hw => ?_)
          have hh60_ : (zz60_ = 1 ∧ (10 : Int) ≤ v_what ∧ v_what ≤ (9 + (n_0 2))) ∨ (zz60_ = 0 ∧ (v_what < (10 : Int) ∨ (9 + (n_0 2)) < v_what)) := hq60_
          clear hq60_
          rcases hh60_ with ⟨ee60_, hh60_⟩ | ⟨ee60_, hh60_⟩
          · subst ee60_
            refine j_if_ne E 59 61 rfl (rr (by decide)) dX10_plan_56 (by decide) (fun _ => ?_) (fun cc61_ => absurd cc61_ (by decide))
            exact L61_8  H locs ls  (by omega) hw (lv_sub hl [0, 1, 2, 3] rfl)
          · subst ee60_
            refine j_if_ne E 59 61 rfl (rr (by decide)) dX10_plan_56 (by decide) (fun cc62_ => absurd cc62_ (by decide)) (fun _ => ?_)
            refine j_iconst E 60 rfl dX10_plan_59 ?_
            exact hret 60 ((-1)) (upN (upN n_0 0 0) 65 (n_0 65)) (upF (upF f_0 64 (f_0 64)) 66 (f_0 66)) _ _ ls hw (rr (by decide)) ⟨0, (n_0 65), (f_0 64), (f_0 66), rfl, rfl, ⟨⟨i_now, i_persons, i_lines, i_wordings, i_taped, i_suits, i_spk, i_fam, i_str, i_said, i_book, i_wds, i_tok, i_cod, i_far, i_tap, i_qua, i_sil, i_stz, i_way⟩, trivial⟩⟩ dX10_plan_60
      · subst ee6_
        refine j_if_eq E 32 59 rfl (rr (by decide)) dX10_plan_29 (by decide) (fun _ => ?_) (fun cc63_ => absurd cc63_ (by decide))
        refine j_iconst E 60 rfl dX10_plan_59 ?_
        exact hret 60 ((-1)) (upN (upN n_0 0 0) 65 (n_0 65)) (upF (upF f_0 64 (f_0 64)) 66 (f_0 66)) _ _ ls hw (rr (by decide)) ⟨0, (n_0 65), (f_0 64), (f_0 66), rfl, rfl, ⟨⟨i_now, i_persons, i_lines, i_wordings, i_taped, i_suits, i_spk, i_fam, i_str, i_said, i_book, i_wds, i_tok, i_cod, i_far, i_tap, i_qua, i_sil, i_stz, i_way⟩, trivial⟩⟩ dX10_plan_60
  · subst ee2_
    refine j_if_eq E 13 59 rfl (rr (by decide)) dX10_plan_10 (by decide) (fun _ => ?_) (fun cc64_ => absurd cc64_ (by decide))
    refine j_iconst E 60 rfl dX10_plan_59 ?_
    exact hret 60 ((-1)) (upN (upN n_0 0 0) 65 (n_0 65)) (upF (upF f_0 64 (f_0 64)) 66 (f_0 66)) _ _ ls hw (rr (by decide)) ⟨0, (n_0 65), (f_0 64), (f_0 66), rfl, rfl, ⟨⟨i_now, i_persons, i_lines, i_wordings, i_taped, i_suits, i_spk, i_fam, i_str, i_said, i_book, i_wds, i_tok, i_cod, i_far, i_tap, i_qua, i_sil, i_stz, i_way⟩, trivial⟩⟩ dX10_plan_60
