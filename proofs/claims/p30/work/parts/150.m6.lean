
def Kf_ (t f t2 f2 : Int → Int) (w : Int) : Prop := (∀ i, i ≠ w → t2 i = t i) ∧ (∀ i, i < 400 * w → f2 i = f i)
theorem Kf_rf {t f : Int → Int} {w : Int} : Kf_ t f t f w := ⟨fun _ _ => rfl, fun _ _ => rfl⟩
theorem Kf_up {t f : Int → Int} {w x y z : Int} (h : 0 ≤ x) : Kf_ t f (upA t w y) (upA f (400 * w + x) z) w := ⟨fun _ h1 => upA_ne h1, fun _ h1 => upA_ne (by omega)⟩
theorem tk_tr {t f t2 f2 t3 f3 : Int → Int} {w : Int} (h : Kf_ t f t2 f2 w) (h2 : Kf_ t2 f2 t3 f3 w) : Kf_ t f t3 f3 w := ⟨fun i hi => (h2.1 i hi).trans (h.1 i hi), fun i hi => (h2.2 i hi).trans (h.2 i hi)⟩
def Wa_ (g : Int → Int) (a b z : Int) : Prop := (∃ w : Nat, w < 12 ∧ Kw_ g a b w ∧ z = (w : Int)) ∨ (z = -1 ∧ ∀ w : Nat, w < 12 → ¬ Kw_ g a b w)
def kwS_ (w : Nat) : Nat := [0, 6, 11, 18, 21, 25, 29, 34, 44, 50, 54, 58, 63].getD w 63
theorem kwS_f : ∀ w : Fin 13, kwS_ w.val ≤ 63 ∧ (kwS_ w.val < 63 → w.val < 12) ∧ (w.val < 12 → kwS_ w.val < 63) := by decide +kernel
theorem kwS_rg (w : Nat) (h : w ≤ 12) : kwS_ w ≤ 63 ∧ (kwS_ w < 63 → w < 12) ∧ (w < 12 → kwS_ w < 63) := kwS_f ⟨w, by omega⟩
theorem kwS_g : ∀ w : Fin 12, kwS_ (w.val + 1) = kwS_ w.val + 1 + kwL_ w.val := by decide +kernel
theorem kwS_nx (w : Nat) (h : w < 12) : kwS_ (w + 1) = kwS_ w + 1 + kwL_ w := kwS_g ⟨w, h⟩
theorem kwS_c : ∀ w : Fin 12, ∀ i : Fin 10, (i.val < kwL_ w.val → wdT_.getD (kwS_ w.val + 1 + i.val) 0 = kwC_ w.val i.val ∧ kwC_ w.val i.val ≠ 32) ∧ (i.val = kwL_ w.val → wdT_.getD (kwS_ w.val + 1 + i.val) 0 = 32) := by decide +kernel
theorem kw_at {g : Int → Int} (hW : Wds_ g) {w : Nat} (hw : w < 12) {k i : Int} (hk : k = (kwS_ w : Int)) (h0 : 0 ≤ i) (h1 : i ≤ (kwL_ w : Int)) : (i < (kwL_ w : Int) ∧ g (k + 1 + i) = kwC_ w i.toNat ∧ ¬ kwC_ w i.toNat = 32) ∨ (i = (kwL_ w : Int) ∧ g (k + 1 + i) = 32) := by
  have hl : 2 ≤ kwL_ w ∧ kwL_ w ≤ 9 := kw_len ⟨w, hw⟩
  have hs := kwS_rg w (by omega)
  have hx := kwS_nx w hw
  have hs1 := kwS_rg (w + 1) (by omega)
  have hg := hW (k + 1 + i) (by omega) (by omega)
  have e : (k + 1 + i).toNat = kwS_ w + 1 + i.toNat := by omega
  rw [e] at hg
  have hc := kwS_c ⟨w, hw⟩ ⟨i.toNat, by omega⟩
  rcases Int.lt_or_le i (kwL_ w : Int) with q | q
  · have h2 := hc.1 (show i.toNat < kwL_ w by omega)
    exact Or.inl ⟨q, hg.trans h2.1, h2.2⟩
  · have h2 := hc.2 (show i.toNat = kwL_ w by omega)
    exact Or.inr ⟨by omega, hg.trans h2⟩
theorem kw_get {t : Int → Int} {a b : Int} {w : Nat} (h : Kw_ t a b w) {i : Int} (h0 : 0 ≤ i) : i < (kwL_ w : Int) → t (a + i) = kwC_ w i.toNat := fun hi => by
  have q := h.2 i.toNat (by omega)
  rw [Int.toNat_of_nonneg h0] at q
  exact q
theorem kw_st {t : Int → Int} {a g : Int} {w : Nat} (h : ∀ i : Nat, (i : Int) < g → t (a + (i : Int)) = kwC_ w i) (h0 : 0 ≤ g) (hg : t (a + g) = kwC_ w g.toNat) : ∀ i : Nat, (i : Int) < g + 1 → t (a + (i : Int)) = kwC_ w i := fun i hi => by
  by_cases e : (i : Int) = g
  · rw [e, show i = g.toNat by omega]; exact hg
  · exact h i (by omega)
theorem kw_nx {P : Nat → Prop} {w : Nat} (h : ∀ x, x < w → ¬ P x) (hw : ¬ P w) : ∀ x, x < w + 1 → ¬ P x := fun x hx => by
  by_cases e : x = w
  · rw [e]; exact hw
  · exact h x (by omega)
theorem lt_step {g : Int → Int} {a b : Int} (h : ∀ j, a ≤ j → j < b → (97 ≤ g j ∧ g j ≤ 122) ∨ (65 ≤ g j ∧ g j ≤ 90)) (hb : (97 ≤ g b ∧ g b ≤ 122) ∨ (65 ≤ g b ∧ g b ≤ 90)) : ∀ j, a ≤ j → j < b + 1 → (97 ≤ g j ∧ g j ≤ 122) ∨ (65 ≤ g j ∧ g j ≤ 90) := fun j h1 h2 => by
  by_cases e : j = b
  · rw [e]; exact hb
  · exact h j h1 (by omega)

set_option maxHeartbeats 4000000 in
set_option maxRecDepth 100000 in
theorem c_X10_wordAt (l : Launch) (D : va_G) (cy : Nat → ClassId) (q : Nat → Nat) (n_0 : Nat → Int) (f_0 : Nat → Int → Int) (v_a v_b : Int) (r_v_a : inR v_a) (r_v_b : inR v_b) (hp0 : 0 ≤ v_a ∧ v_a ≤ v_b ∧ v_b ≤ 400) (hp1 : Wds_ (f_0 28)) (hp2 : ∀ j, v_a ≤ j → j < v_b → ¬ (f_0 22 j) = 32) : MC l D cy q yX10_wordAt cX10_wordAt 6 (some .int) 0 [.int (J v_a), .int (J v_b)] n_0 f_0 (PI (fun (z_0 : Int) (n_2 : Nat → Int) (f_2 : Nat → Int → Int) => (n_2 = n_0 ∧ f_2 = f_0) ∧ (Wa_ (f_0 22) v_a v_b z_0))) := by
  refine MC.ofi rfl (Nat.le_of_ble_eq_true rfl) ?_
  intro p e s m below meth c ls ar QW A0 H0 H locs E hK hA hw hl hret
  have hl : lv_has ls 6 [(0, .ref (q 0)), (1, .int (J v_a)), (2, .int (J v_b))] := hl
  refine j_iconst E 1 rfl dX10_wordAt_0 ?_
  refine j_istore_n E 2 rfl [(3, .int (J ((-1)))), (0, .ref (q 0)), (1, .int (J v_a)), (2, .int (J v_b))] dX10_wordAt_1 rfl hl (by decide) rfl (fun ls hl => ?_)
  refine j_iconst E 3 rfl dX10_wordAt_2 ?_
  refine j_istore E 5 rfl [(4, .int (J 0)), (3, .int (J ((-1)))), (0, .ref (q 0)), (1, .int (J v_a)), (2, .int (J v_b))] dX10_wordAt_3 hl (by decide) rfl (fun ls hl => ?_)
  have L5_1 : ∀ (k5 : Nat) (gn gk : Int) (H : Heap) (locs : List Loc) (ls : Array Slot), inR gn → inR gk → (∃ w_ : Nat, w_ ≤ 12 ∧ gk = (kwS_ w_ : Int) ∧ gn = (w_ : Int) - 1 ∧ ∀ x_ : Nat, x_ < w_ → ¬ Kw_ (f_0 22) v_a v_b x_) → (63 - gk) < (k5 : Int) → WM D cy q (n_0) (f_0) A0 H0 H locs → lv_has ls 6 [(0, .ref (q 0)), (1, .int (J v_a)), (2, .int (J v_b)), (3, .int (J gn)), (4, .int (J gk))] → W p l e (rmd 0 0 0) s m ar below meth c H locs 0 0 QW (F0 m 5 ls []) := by
    intro k5
    induction k5 with
    | zero =>
      intro gn gk H locs ls r_gn r_gk iv5 ms5 hw hl
      obtain ⟨w_, w0_, w1_, w2_, w3_⟩ := iv5; have s0_ := kwS_rg w_ w0_; exfalso; omega
    | succ k5 ih5 =>
      intro gn gk H locs ls r_gn r_gk iv5 ms5 hw hl
      obtain ⟨w_, w0_, w1_, w2_, w3_⟩ := iv5
      have s0_ := kwS_rg w_ w0_
      refine j_iload E 7 rfl dX10_wordAt_5 (lv_at hl 4 rfl) ?_
      refine j_bipush E 9 rfl dX10_wordAt_7 (by decide) ?_
      refine j_icmp_ge E 12 117 rfl r_gk (rr (by decide)) dX10_wordAt_9 (by decide) (fun cc3_ => ?_) (fun cc3_ => ?_)
      · refine j_iconst E 118 rfl dX10_wordAt_117 ?_
        exact hret 118 ((-1)) (n_0) (f_0) _ _ ls hw (rr (by decide)) ⟨⟨rfl, rfl⟩, show Wa_ _ _ _ _ from Or.inr ⟨rfl, fun x_ h_ => w3_ x_ (by omega)⟩⟩ dX10_wordAt_118
      · have w4_ : w_ < 12 := s0_.2.1 (by omega)
        have wl_ : 2 ≤ kwL_ w_ ∧ kwL_ w_ ≤ 9 := kw_len ⟨w_, w4_⟩
        have wx_ := kwS_nx w_ w4_
        have s1_ := kwS_rg (w_ + 1) (by omega)
        refine j_iconst E 13 rfl dX10_wordAt_12 ?_
        refine j_istore E 15 rfl [(5, .int (J 0)), (0, .ref (q 0)), (1, .int (J v_a)), (2, .int (J v_b)), (3, .int (J gn)), (4, .int (J gk))] dX10_wordAt_13 hl (by decide) rfl (fun ls hl => ?_)
        refine j_iload_n E 16 rfl dX10_wordAt_15 rfl (lv_at hl 4 rfl) ?_
        refine j_iconst E 17 rfl dX10_wordAt_16 ?_
        refine j_iadd E 18 rfl dX10_wordAt_17 ?_
        refine j_istore_n E 19 rfl [(3, .int (J (gn + 1))), (5, .int (J 0)), (0, .ref (q 0)), (1, .int (J v_a)), (2, .int (J v_b)), (4, .int (J gk))] dX10_wordAt_18 rfl hl (by decide) rfl (fun ls hl => ?_)
        have L19_4 : ∀ (k19 : Nat) (gi : Int) (H : Heap) (locs : List Loc) (ls : Array Slot), inR gi → (0 ≤ gi ∧ v_a + gi ≤ v_b ∧ gi ≤ (kwL_ w_ : Int) ∧ ∀ i_ : Nat, (i_ : Int) < gi → (f_0 22 (v_a + (i_ : Int))) = kwC_ w_ i_) → (10 - gi) < (k19 : Int) → WM D cy q (n_0) (f_0) A0 H0 H locs → lv_has ls 6 [(0, .ref (q 0)), (1, .int (J v_a)), (2, .int (J v_b)), (3, .int (J (gn + 1))), (4, .int (J gk)), (5, .int (J gi))] → W p l e (rmd 0 0 0) s m ar below meth c H locs 0 0 QW (F0 m 19 ls []) := by
          intro k19
          induction k19 with
          | zero =>
            intro gi H locs ls r_gi iv19 ms19 hw hl
            exfalso; omega
          | succ k19 ih19 =>
            intro gi H locs ls r_gi iv19 ms19 hw hl
            refine j_iload_n E 20 rfl dX10_wordAt_19 rfl (lv_at hl 1 rfl) ?_
            refine j_iload E 22 rfl dX10_wordAt_20 (lv_at hl 5 rfl) ?_
            refine j_iadd E 23 rfl dX10_wordAt_22 ?_
            refine j_iload_n E 24 rfl dX10_wordAt_23 rfl (lv_at hl 2 rfl) ?_
            refine j_icmp_ge E 27 60 rfl (rr (by omega)) r_v_b dX10_wordAt_24 (by decide) (fun cc6_ => ?_) (fun cc6_ => ?_)
            · refine j_iload_n E 61 rfl dX10_wordAt_60 rfl (lv_at hl 1 rfl) ?_
              refine j_iload E 63 rfl dX10_wordAt_61 (lv_at hl 5 rfl) ?_
              refine j_iadd E 64 rfl dX10_wordAt_63 ?_
              refine j_iload_n E 65 rfl dX10_wordAt_64 rfl (lv_at hl 2 rfl) ?_
              refine j_icmp_ne E 68 87 rfl (rr (by omega)) r_v_b dX10_wordAt_65 (by decide) (fun cc7_ => ?_) (fun cc7_ => ?_)
              · have hno_ : ¬ Kw_ (f_0 22) v_a v_b w_ := fun q_ => by
                  have q1_ := q_.1
                  have q2_ := kw_get q_ (i := gi) (by omega)
                  have h7_ := kw_at hp1 w4_ w1_ (i := gi) (by omega) (by omega)
                  omega
                refine j_iload E 89 rfl dX10_wordAt_87 (lv_at hl 4 rfl) ?_
                refine j_iconst E 90 rfl dX10_wordAt_89 ?_
                refine j_iadd E 91 rfl dX10_wordAt_90 ?_
                refine j_istore E 93 rfl [(4, .int (J (gk + 1))), (0, .ref (q 0)), (1, .int (J v_a)), (2, .int (J v_b)), (3, .int (J (gn + 1))), (5, .int (J gi))] dX10_wordAt_91 hl (by decide) rfl (fun ls hl => ?_)
                have L93_8 : ∀ (k93 : Nat) (gm : Int) (H : Heap) (locs : List Loc) (ls : Array Slot), inR gm → (gk + 1 ≤ gm ∧ gm ≤ gk + 1 + (kwL_ w_ : Int)) → (64 - gm) < (k93 : Int) → WM D cy q (n_0) (f_0) A0 H0 H locs → lv_has ls 6 [(0, .ref (q 0)), (1, .int (J v_a)), (2, .int (J v_b)), (3, .int (J (gn + 1))), (4, .int (J gm))] → W p l e (rmd 0 0 0) s m ar below meth c H locs 0 0 QW (F0 m 93 ls []) := by
                  intro k93
                  induction k93 with
                  | zero =>
                    intro gm H locs ls r_gm iv93 ms93 hw hl
                    exfalso; omega
                  | succ k93 ih93 =>
                    intro gm H locs ls r_gm iv93 ms93 hw hl
                    refine j_aload_n E 94 rfl dX10_wordAt_93 rfl (lv_at hl 0 rfl) ?_
                    refine m_ag_28 E hK hw 97 rfl dX10_wordAt_94 ?_
                    refine j_iload E 99 rfl dX10_wordAt_97 (lv_at hl 4 rfl) ?_
                    refine m_ld_28 E hK hw (f_0 28 gm) rfl (by omega) 100 rfl dX10_wordAt_99 (fun rr10_ => ?_)
                    have h8_ := kw_at hp1 w4_ w1_ (i := gm - gk - 1) (by omega) (by omega)
                    rw [show gk + 1 + (gm - gk - 1) = gm by omega] at h8_
                    refine j_bipush E 102 rfl dX10_wordAt_100 (by decide) ?_
                    refine j_icmp_eq E 105 114 rfl rr10_ (rr (by decide)) dX10_wordAt_102 (by decide) (fun cc11_ => ?_) (fun cc11_ => ?_)
                    · refine j_goto E 5 dX10_wordAt_114 (by decide) ?_
                      exact ih5 (gn + 1) gm H locs ls (rr (by omega)) r_gm (⟨w_ + 1, by omega, by omega, by omega, kw_nx w3_ hno_⟩) (by omega) hw (lv_sub hl [0, 1, 2, 3, 4] rfl)
                    · refine j_iload E 107 rfl dX10_wordAt_105 (lv_at hl 4 rfl) ?_
                      refine j_iconst E 108 rfl dX10_wordAt_107 ?_
                      refine j_iadd E 109 rfl dX10_wordAt_108 ?_
                      refine j_istore E 111 rfl [(4, .int (J (gm + 1))), (0, .ref (q 0)), (1, .int (J v_a)), (2, .int (J v_b)), (3, .int (J (gn + 1)))] dX10_wordAt_109 hl (by decide) rfl (fun ls hl => ?_)
                      refine j_goto E 93 dX10_wordAt_111 (by decide) ?_
                      exact ih93 (gm + 1) H locs ls (rr (by omega)) (by omega) (by omega) hw (lv_sub hl [1, 2, 3, 4, 0] rfl)
                exact L93_8 _ (gk + 1) H locs ls (rr (by omega)) (by omega) (mk_lt _) hw (lv_sub hl [1, 2, 3, 4, 0] rfl)
              · refine j_aload_n E 69 rfl dX10_wordAt_68 rfl (lv_at hl 0 rfl) ?_
                refine m_ag_28 E hK hw 72 rfl dX10_wordAt_69 ?_
                refine j_iload E 74 rfl dX10_wordAt_72 (lv_at hl 4 rfl) ?_
                refine j_iconst E 75 rfl dX10_wordAt_74 ?_
                refine j_iadd E 76 rfl dX10_wordAt_75 ?_
                refine j_iload E 78 rfl dX10_wordAt_76 (lv_at hl 5 rfl) ?_
                refine j_iadd E 79 rfl dX10_wordAt_78 ?_
                refine m_ld_28 E hK hw (f_0 28 ((gk + 1) + gi)) rfl (by omega) 80 rfl dX10_wordAt_79 (fun rr12_ => ?_)
                have h6_ := kw_at hp1 w4_ w1_ (i := gi) (by omega) (by omega)
                refine j_bipush E 82 rfl dX10_wordAt_80 (by decide) ?_
                refine j_icmp_ne E 85 87 rfl rr12_ (rr (by decide)) dX10_wordAt_82 (by decide) (fun cc13_ => ?_) (fun cc13_ => ?_)
                · have hno_ : ¬ Kw_ (f_0 22) v_a v_b w_ := fun q_ => by
                    have q1_ := q_.1
                    have q2_ := kw_get q_ (i := gi) (by omega)
                    have h7_ := kw_at hp1 w4_ w1_ (i := gi) (by omega) (by omega)
                    omega
                  refine j_iload E 89 rfl dX10_wordAt_87 (lv_at hl 4 rfl) ?_
                  refine j_iconst E 90 rfl dX10_wordAt_89 ?_
                  refine j_iadd E 91 rfl dX10_wordAt_90 ?_
                  refine j_istore E 93 rfl [(4, .int (J (gk + 1))), (0, .ref (q 0)), (1, .int (J v_a)), (2, .int (J v_b)), (3, .int (J (gn + 1))), (5, .int (J gi))] dX10_wordAt_91 hl (by decide) rfl (fun ls hl => ?_)
                  have L93_14 : ∀ (k93 : Nat) (gm : Int) (H : Heap) (locs : List Loc) (ls : Array Slot), inR gm → (gk + 1 ≤ gm ∧ gm ≤ gk + 1 + (kwL_ w_ : Int)) → (64 - gm) < (k93 : Int) → WM D cy q (n_0) (f_0) A0 H0 H locs → lv_has ls 6 [(0, .ref (q 0)), (1, .int (J v_a)), (2, .int (J v_b)), (3, .int (J (gn + 1))), (4, .int (J gm))] → W p l e (rmd 0 0 0) s m ar below meth c H locs 0 0 QW (F0 m 93 ls []) := by
                    intro k93
                    induction k93 with
                    | zero =>
                      intro gm H locs ls r_gm iv93 ms93 hw hl
                      exfalso; omega
                    | succ k93 ih93 =>
                      intro gm H locs ls r_gm iv93 ms93 hw hl
                      refine j_aload_n E 94 rfl dX10_wordAt_93 rfl (lv_at hl 0 rfl) ?_
                      refine m_ag_28 E hK hw 97 rfl dX10_wordAt_94 ?_
                      refine j_iload E 99 rfl dX10_wordAt_97 (lv_at hl 4 rfl) ?_
                      refine m_ld_28 E hK hw (f_0 28 gm) rfl (by omega) 100 rfl dX10_wordAt_99 (fun rr16_ => ?_)
                      have h8_ := kw_at hp1 w4_ w1_ (i := gm - gk - 1) (by omega) (by omega)
                      rw [show gk + 1 + (gm - gk - 1) = gm by omega] at h8_
                      refine j_bipush E 102 rfl dX10_wordAt_100 (by decide) ?_
                      refine j_icmp_eq E 105 114 rfl rr16_ (rr (by decide)) dX10_wordAt_102 (by decide) (fun cc17_ => ?_) (fun cc17_ => ?_)
                      · refine j_goto E 5 dX10_wordAt_114 (by decide) ?_
                        exact ih5 (gn + 1) gm H locs ls (rr (by omega)) r_gm (⟨w_ + 1, by omega, by omega, by omega, kw_nx w3_ hno_⟩) (by omega) hw (lv_sub hl [0, 1, 2, 3, 4] rfl)
                      · refine j_iload E 107 rfl dX10_wordAt_105 (lv_at hl 4 rfl) ?_
                        refine j_iconst E 108 rfl dX10_wordAt_107 ?_
                        refine j_iadd E 109 rfl dX10_wordAt_108 ?_
                        refine j_istore E 111 rfl [(4, .int (J (gm + 1))), (0, .ref (q 0)), (1, .int (J v_a)), (2, .int (J v_b)), (3, .int (J (gn + 1)))] dX10_wordAt_109 hl (by decide) rfl (fun ls hl => ?_)
                        refine j_goto E 93 dX10_wordAt_111 (by decide) ?_
                        exact ih93 (gm + 1) H locs ls (rr (by omega)) (by omega) (by omega) hw (lv_sub hl [1, 2, 3, 4, 0] rfl)
                  exact L93_14 _ (gk + 1) H locs ls (rr (by omega)) (by omega) (mk_lt _) hw (lv_sub hl [1, 2, 3, 4, 0] rfl)
                · refine j_iload_n E 86 rfl dX10_wordAt_85 rfl (lv_at hl 3 rfl) ?_
                  exact hret 86 (gn + 1) (n_0) (f_0) _ _ ls hw (rr (by omega)) ⟨⟨rfl, rfl⟩, show Wa_ _ _ _ _ from Or.inl ⟨w_, w4_, ⟨by omega, fun i_ h_ => iv19.2.2.2 i_ (by omega)⟩, by omega⟩⟩ dX10_wordAt_86
            · refine j_aload_n E 28 rfl dX10_wordAt_27 rfl (lv_at hl 0 rfl) ?_
              refine m_ag_28 E hK hw 31 rfl dX10_wordAt_28 ?_
              refine j_iload E 33 rfl dX10_wordAt_31 (lv_at hl 4 rfl) ?_
              refine j_iconst E 34 rfl dX10_wordAt_33 ?_
              refine j_iadd E 35 rfl dX10_wordAt_34 ?_
              refine j_iload E 37 rfl dX10_wordAt_35 (lv_at hl 5 rfl) ?_
              refine j_iadd E 38 rfl dX10_wordAt_37 ?_
              refine m_ld_28 E hK hw (f_0 28 ((gk + 1) + gi)) rfl (by omega) 39 rfl dX10_wordAt_38 (fun rr18_ => ?_)
              have h6_ := kw_at hp1 w4_ w1_ (i := gi) (by omega) (by omega)
              refine j_aload_n E 40 rfl dX10_wordAt_39 rfl (lv_at hl 0 rfl) ?_
              refine m_ag_22 E hK hw 43 rfl dX10_wordAt_40 ?_
              refine j_iload_n E 44 rfl dX10_wordAt_43 rfl (lv_at hl 1 rfl) ?_
              refine j_iload E 46 rfl dX10_wordAt_44 (lv_at hl 5 rfl) ?_
              refine j_iadd E 47 rfl dX10_wordAt_46 ?_
              refine m_ld_22 E hK hw (f_0 22 (v_a + gi)) rfl (by omega) 48 rfl dX10_wordAt_47 (fun rr19_ => ?_)
              have ht_ := hp2 (v_a + gi) (by omega) (by omega)
              refine j_icmp_ne E 51 60 rfl rr18_ rr19_ dX10_wordAt_48 (by decide) (fun cc20_ => ?_) (fun cc20_ => ?_)
              · refine j_iload_n E 61 rfl dX10_wordAt_60 rfl (lv_at hl 1 rfl) ?_
                refine j_iload E 63 rfl dX10_wordAt_61 (lv_at hl 5 rfl) ?_
                refine j_iadd E 64 rfl dX10_wordAt_63 ?_
                refine j_iload_n E 65 rfl dX10_wordAt_64 rfl (lv_at hl 2 rfl) ?_
                refine j_icmp_ne E 68 87 rfl (rr (by omega)) r_v_b dX10_wordAt_65 (by decide) (fun cc21_ => ?_) (fun cc21_ => ?_)
                · have hno_ : ¬ Kw_ (f_0 22) v_a v_b w_ := fun q_ => by
                    have q1_ := q_.1
                    have q2_ := kw_get q_ (i := gi) (by omega)
                    have h7_ := kw_at hp1 w4_ w1_ (i := gi) (by omega) (by omega)
                    omega
                  refine j_iload E 89 rfl dX10_wordAt_87 (lv_at hl 4 rfl) ?_
                  refine j_iconst E 90 rfl dX10_wordAt_89 ?_
                  refine j_iadd E 91 rfl dX10_wordAt_90 ?_
                  refine j_istore E 93 rfl [(4, .int (J (gk + 1))), (0, .ref (q 0)), (1, .int (J v_a)), (2, .int (J v_b)), (3, .int (J (gn + 1))), (5, .int (J gi))] dX10_wordAt_91 hl (by decide) rfl (fun ls hl => ?_)
                  have L93_22 : ∀ (k93 : Nat) (gm : Int) (H : Heap) (locs : List Loc) (ls : Array Slot), inR gm → (gk + 1 ≤ gm ∧ gm ≤ gk + 1 + (kwL_ w_ : Int)) → (64 - gm) < (k93 : Int) → WM D cy q (n_0) (f_0) A0 H0 H locs → lv_has ls 6 [(0, .ref (q 0)), (1, .int (J v_a)), (2, .int (J v_b)), (3, .int (J (gn + 1))), (4, .int (J gm))] → W p l e (rmd 0 0 0) s m ar below meth c H locs 0 0 QW (F0 m 93 ls []) := by
                    intro k93
                    induction k93 with
                    | zero =>
                      intro gm H locs ls r_gm iv93 ms93 hw hl
                      exfalso; omega
                    | succ k93 ih93 =>
                      intro gm H locs ls r_gm iv93 ms93 hw hl
                      refine j_aload_n E 94 rfl dX10_wordAt_93 rfl (lv_at hl 0 rfl) ?_
                      refine m_ag_28 E hK hw 97 rfl dX10_wordAt_94 ?_
                      refine j_iload E 99 rfl dX10_wordAt_97 (lv_at hl 4 rfl) ?_
                      refine m_ld_28 E hK hw (f_0 28 gm) rfl (by omega) 100 rfl dX10_wordAt_99 (fun rr24_ => ?_)
                      have h8_ := kw_at hp1 w4_ w1_ (i := gm - gk - 1) (by omega) (by omega)
                      rw [show gk + 1 + (gm - gk - 1) = gm by omega] at h8_
                      refine j_bipush E 102 rfl dX10_wordAt_100 (by decide) ?_
                      refine j_icmp_eq E 105 114 rfl rr24_ (rr (by decide)) dX10_wordAt_102 (by decide) (fun cc25_ => ?_) (fun cc25_ => ?_)
                      · refine j_goto E 5 dX10_wordAt_114 (by decide) ?_
                        exact ih5 (gn + 1) gm H locs ls (rr (by omega)) r_gm (⟨w_ + 1, by omega, by omega, by omega, kw_nx w3_ hno_⟩) (by omega) hw (lv_sub hl [0, 1, 2, 3, 4] rfl)
                      · refine j_iload E 107 rfl dX10_wordAt_105 (lv_at hl 4 rfl) ?_
                        refine j_iconst E 108 rfl dX10_wordAt_107 ?_
                        refine j_iadd E 109 rfl dX10_wordAt_108 ?_
                        refine j_istore E 111 rfl [(4, .int (J (gm + 1))), (0, .ref (q 0)), (1, .int (J v_a)), (2, .int (J v_b)), (3, .int (J (gn + 1)))] dX10_wordAt_109 hl (by decide) rfl (fun ls hl => ?_)
                        refine j_goto E 93 dX10_wordAt_111 (by decide) ?_
                        exact ih93 (gm + 1) H locs ls (rr (by omega)) (by omega) (by omega) hw (lv_sub hl [1, 2, 3, 4, 0] rfl)
                  exact L93_22 _ (gk + 1) H locs ls (rr (by omega)) (by omega) (mk_lt _) hw (lv_sub hl [1, 2, 3, 4, 0] rfl)
                · refine j_aload_n E 69 rfl dX10_wordAt_68 rfl (lv_at hl 0 rfl) ?_
                  refine m_ag_28 E hK hw 72 rfl dX10_wordAt_69 ?_
                  refine j_iload E 74 rfl dX10_wordAt_72 (lv_at hl 4 rfl) ?_
                  refine j_iconst E 75 rfl dX10_wordAt_74 ?_
                  refine j_iadd E 76 rfl dX10_wordAt_75 ?_
                  refine j_iload E 78 rfl dX10_wordAt_76 (lv_at hl 5 rfl) ?_
                  refine j_iadd E 79 rfl dX10_wordAt_78 ?_
                  refine m_ld_28 E hK hw (f_0 28 ((gk + 1) + gi)) rfl (by omega) 80 rfl dX10_wordAt_79 (fun _ => ?_)
                  have h6_ := kw_at hp1 w4_ w1_ (i := gi) (by omega) (by omega)
                  refine j_bipush E 82 rfl dX10_wordAt_80 (by decide) ?_
                  refine j_icmp_ne E 85 87 rfl rr18_ (rr (by decide)) dX10_wordAt_82 (by decide) (fun cc26_ => ?_) (fun cc26_ => ?_)
                  · have hno_ : ¬ Kw_ (f_0 22) v_a v_b w_ := fun q_ => by
                      have q1_ := q_.1
                      have q2_ := kw_get q_ (i := gi) (by omega)
                      have h7_ := kw_at hp1 w4_ w1_ (i := gi) (by omega) (by omega)
                      omega
                    refine j_iload E 89 rfl dX10_wordAt_87 (lv_at hl 4 rfl) ?_
                    refine j_iconst E 90 rfl dX10_wordAt_89 ?_
                    refine j_iadd E 91 rfl dX10_wordAt_90 ?_
                    refine j_istore E 93 rfl [(4, .int (J (gk + 1))), (0, .ref (q 0)), (1, .int (J v_a)), (2, .int (J v_b)), (3, .int (J (gn + 1))), (5, .int (J gi))] dX10_wordAt_91 hl (by decide) rfl (fun ls hl => ?_)
                    have L93_27 : ∀ (k93 : Nat) (gm : Int) (H : Heap) (locs : List Loc) (ls : Array Slot), inR gm → (gk + 1 ≤ gm ∧ gm ≤ gk + 1 + (kwL_ w_ : Int)) → (64 - gm) < (k93 : Int) → WM D cy q (n_0) (f_0) A0 H0 H locs → lv_has ls 6 [(0, .ref (q 0)), (1, .int (J v_a)), (2, .int (J v_b)), (3, .int (J (gn + 1))), (4, .int (J gm))] → W p l e (rmd 0 0 0) s m ar below meth c H locs 0 0 QW (F0 m 93 ls []) := by
                      intro k93
                      induction k93 with
                      | zero =>
                        intro gm H locs ls r_gm iv93 ms93 hw hl
                        exfalso; omega
                      | succ k93 ih93 =>
                        intro gm H locs ls r_gm iv93 ms93 hw hl
                        refine j_aload_n E 94 rfl dX10_wordAt_93 rfl (lv_at hl 0 rfl) ?_
                        refine m_ag_28 E hK hw 97 rfl dX10_wordAt_94 ?_
                        refine j_iload E 99 rfl dX10_wordAt_97 (lv_at hl 4 rfl) ?_
                        refine m_ld_28 E hK hw (f_0 28 gm) rfl (by omega) 100 rfl dX10_wordAt_99 (fun rr29_ => ?_)
                        have h8_ := kw_at hp1 w4_ w1_ (i := gm - gk - 1) (by omega) (by omega)
                        rw [show gk + 1 + (gm - gk - 1) = gm by omega] at h8_
                        refine j_bipush E 102 rfl dX10_wordAt_100 (by decide) ?_
                        refine j_icmp_eq E 105 114 rfl rr29_ (rr (by decide)) dX10_wordAt_102 (by decide) (fun cc30_ => ?_) (fun cc30_ => ?_)
                        · refine j_goto E 5 dX10_wordAt_114 (by decide) ?_
                          exact ih5 (gn + 1) gm H locs ls (rr (by omega)) r_gm (⟨w_ + 1, by omega, by omega, by omega, kw_nx w3_ hno_⟩) (by omega) hw (lv_sub hl [0, 1, 2, 3, 4] rfl)
                        · refine j_iload E 107 rfl dX10_wordAt_105 (lv_at hl 4 rfl) ?_
                          refine j_iconst E 108 rfl dX10_wordAt_107 ?_
                          refine j_iadd E 109 rfl dX10_wordAt_108 ?_
                          refine j_istore E 111 rfl [(4, .int (J (gm + 1))), (0, .ref (q 0)), (1, .int (J v_a)), (2, .int (J v_b)), (3, .int (J (gn + 1)))] dX10_wordAt_109 hl (by decide) rfl (fun ls hl => ?_)
                          refine j_goto E 93 dX10_wordAt_111 (by decide) ?_
                          exact ih93 (gm + 1) H locs ls (rr (by omega)) (by omega) (by omega) hw (lv_sub hl [1, 2, 3, 4, 0] rfl)
                    exact L93_27 _ (gk + 1) H locs ls (rr (by omega)) (by omega) (mk_lt _) hw (lv_sub hl [1, 2, 3, 4, 0] rfl)
                  · refine j_iload_n E 86 rfl dX10_wordAt_85 rfl (lv_at hl 3 rfl) ?_
                    exact hret 86 (gn + 1) (n_0) (f_0) _ _ ls hw (rr (by omega)) ⟨⟨rfl, rfl⟩, show Wa_ _ _ _ _ from Or.inl ⟨w_, w4_, ⟨by omega, fun i_ h_ => iv19.2.2.2 i_ (by omega)⟩, by omega⟩⟩ dX10_wordAt_86
              · refine j_iload E 53 rfl dX10_wordAt_51 (lv_at hl 5 rfl) ?_
                refine j_iconst E 54 rfl dX10_wordAt_53 ?_
                refine j_iadd E 55 rfl dX10_wordAt_54 ?_
                refine j_istore E 57 rfl [(5, .int (J (gi + 1))), (0, .ref (q 0)), (1, .int (J v_a)), (2, .int (J v_b)), (3, .int (J (gn + 1))), (4, .int (J gk))] dX10_wordAt_55 hl (by decide) rfl (fun ls hl => ?_)
                refine j_goto E 19 dX10_wordAt_57 (by decide) ?_
                exact ih19 (gi + 1) H locs ls (rr (by omega)) (⟨by omega, by omega, by omega, kw_st iv19.2.2.2 (by omega) (by omega)⟩) (by omega) hw (lv_sub hl [1, 2, 3, 4, 5, 0] rfl)
        exact L19_4 _ 0 H locs ls (rr (by decide)) (⟨by omega, by omega, by omega, fun i_ h_ => absurd h_ (by omega)⟩) (mk_lt _) hw (lv_sub hl [2, 3, 4, 0, 5, 1] rfl)
  exact L5_1 _ ((-1)) 0 H locs ls (rr (by decide)) (rr (by decide)) (⟨0, by omega, rfl, by omega, fun x_ h_ => absurd h_ (by omega)⟩) (mk_lt _) hw (lv_sub hl [2, 3, 4, 1, 0] rfl)
set_option maxHeartbeats 4000000 in
set_option maxRecDepth 100000 in
theorem c_X10_next (l : Launch) (D : va_G) (cy : Nat → ClassId) (q : Nat → Nat) (n_0 : Nat → Int) (f_0 : Nat → Int → Int) (hp0 : 0 ≤ (n_0 29) ∧ (n_0 29) < 32) (hp1 : 0 ≤ (n_0 23) ∧ (n_0 23) ≤ 400) (hp2 : Wds_ (f_0 28)) (hp3 : 0 ≤ (n_0 24) ∧ (n_0 24) ≤ (n_0 23)) (hp4 : 0 ≤ (f_0 31 ((n_0 29))) ∧ (f_0 31 ((n_0 29))) ≤ (n_0 24)) (hp5 : Tap_ (f_0 22)) : MC l D cy q yX10_next cX10_next 2 none 2 [] n_0 f_0 (PV (fun (n_2 : Nat → Int) (f_2 : Nat → Int → Int) => ∃ (x24_2 : Int) (x25_2 : Int) (x26_2 : Int) (x27_2 : Int) (y30_2 : Int → Int) (y31_2 : Int → Int) , n_2 = upN (upN (upN (upN n_0 24 x24_2) 25 x25_2) 26 x26_2) 27 x27_2 ∧ f_2 = upF (upF f_0 30 y30_2) 31 y31_2 ∧ ((0 ≤ (x25_2) ∧ (x25_2) ≤ (x24_2) ∧ (x24_2) ≤ (n_0 23)) ∧ (0 ≤ (y31_2 ((n_0 29))) ∧ (y31_2 ((n_0 29))) ≤ (x24_2)) ∧ (0 ≤ (x26_2) ∧ (x26_2) ≤ 4) ∧ (¬ (x26_2) = 0 → (x25_2) < (x24_2)) ∧ ((x26_2) = 3 → 0 ≤ (x27_2) ∧ (x27_2) ≤ 9999) ∧ (n_0 24) ≤ (x25_2) ∧ Kf_ (f_0 31) (f_0 30) (y31_2) (y30_2) (n_0 29) ∧ (((x26_2) ≤ 1 ∧ (y30_2) = (f_0 30) ∧ (y31_2) = (f_0 31)) ∨ (2 ≤ (x26_2) ∧ (y30_2) = upA (f_0 30) (400 * (n_0 29) + (f_0 31 ((n_0 29)))) (te_ (kd_ (x26_2) (x27_2)) (x27_2)) ∧ (y31_2) = upA (f_0 31) (n_0 29) ((f_0 31 ((n_0 29))) + 1))) ∧ Lx_ (f_0 22) (n_0 23) (n_0 24) (kd_ (x26_2) (x27_2)) (x27_2) (x25_2) (x24_2) ∧ Tv_ (x26_2) (x27_2)))) := by
  refine MC.ofv rfl (Nat.le_of_ble_eq_true rfl) ?_
  intro p e s m below meth c ls ar QW A0 H0 H locs E hK hA hw hl hret
  have hl : lv_has ls 2 [(0, .ref (q 0))] := hl
  have L0_1 : ∀ (k0 : Nat) (x24_c0 : Int) (H : Heap) (locs : List Loc) (ls : Array Slot), (n_0 24 ≤ (x24_c0) ∧ (x24_c0) ≤ (n_0 23) ∧ Bk_ (f_0 22) (n_0 24) (x24_c0)) → ((n_0 23) - (x24_c0)) < (k0 : Int) → WM D cy q (upN n_0 24 x24_c0) (f_0) A0 H0 H locs → lv_has ls 2 [(0, .ref (q 0))] → W p l e (rmd 2 0 0) s m ar below meth c H locs 0 0 QW (F0 m 0 ls []) := by
    intro k0
    induction k0 with
    | zero =>
      intro x24_c0 H locs ls iv0 ms0 hw hl
      exfalso; omega
    | succ k0 ih0 =>
      intro x24_c0 H locs ls iv0 ms0 hw hl
      have rx24_c0 : inR x24_c0 := mRn_24 hw.1.2.2.1
      refine j_aload_n E 1 rfl dX10_next_0 rfl (lv_at hl 0 rfl) ?_
      refine j_aload_n E 2 rfl dX10_next_1 rfl (lv_at hl 0 rfl) ?_
      refine m_get_24 E hK hw x24_c0 rfl 5 rfl dX10_next_2 (fun _ => ?_)
      refine m_callp (po := fun z_0 => (x24_c0 < (n_0 23) ∧ z_0 = (f_0 22 x24_c0)) ∨ ((n_0 23) ≤ x24_c0 ∧ z_0 = -1)) E (c_X10_raw l D cy q (upN n_0 24 x24_c0) (f_0) x24_c0  rx24_c0 (show 0 ≤ x24_c0 from by omega) (show (n_0 23) ≤ 400 from by omega)) rfl mt_X10_raw ml_X10_226 hK hw hA ⟨Nat.le_of_ble_eq_true rfl, Nat.le_of_ble_eq_true rfl⟩ (As := [.int (J x24_c0)]) (rest := []) rfl rfl hl.1 (Nat.le_of_ble_eq_true rfl) 8 rfl dX10_next_5 (fun zz3_ H locs rr3_ hq3_ hw => ?_)
      have hh3_ : (x24_c0 < (n_0 23) ∧ zz3_ = (f_0 22 x24_c0)) ∨ ((n_0 23) ≤ x24_c0 ∧ zz3_ = -1) := hq3_
      clear hq3_
      refine j_bipush E 10 rfl dX10_next_8 (by decide) ?_
      refine j_icmp_eq E 13 26 rfl rr3_ (rr (by decide)) dX10_next_10 (by decide) (fun cc4_ => ?_) (fun cc4_ => ?_)
      · refine j_aload_n E 27 rfl dX10_next_26 rfl (lv_at hl 0 rfl) ?_
        refine j_aload_n E 28 rfl dX10_next_27 rfl (lv_at hl 0 rfl) ?_
        refine m_get_24 E hK hw x24_c0 rfl 31 rfl dX10_next_28 (fun _ => ?_)
        refine j_iconst E 32 rfl dX10_next_31 ?_
        refine j_iadd E 33 rfl dX10_next_32 ?_
        refine m_put_24 E hK hw (rr (by omega)) 36 rfl dX10_next_33 (fun H locs hw => ?_)
        have hw : WM D cy q (upN n_0 24 (x24_c0 + 1)) (f_0) A0 H0 H locs := hw
        refine j_goto E 0 dX10_next_36 (by decide) ?_
        exact ih0  (x24_c0 + 1) H locs ls  (⟨by omega, by omega, bk_st iv0.2.2 (by unfold isBl_; omega)⟩) (by omega) hw (lv_sub hl [0] rfl)
      · refine j_aload_n E 14 rfl dX10_next_13 rfl (lv_at hl 0 rfl) ?_
        refine j_aload_n E 15 rfl dX10_next_14 rfl (lv_at hl 0 rfl) ?_
        refine m_get_24 E hK hw x24_c0 rfl 18 rfl dX10_next_15 (fun _ => ?_)
        refine m_callp (po := fun z_0 => (x24_c0 < (n_0 23) ∧ z_0 = (f_0 22 x24_c0)) ∨ ((n_0 23) ≤ x24_c0 ∧ z_0 = -1)) E (c_X10_raw l D cy q (upN n_0 24 x24_c0) (f_0) x24_c0  rx24_c0 (show 0 ≤ x24_c0 from by omega) (show (n_0 23) ≤ 400 from by omega)) rfl mt_X10_raw ml_X10_226 hK hw hA ⟨Nat.le_of_ble_eq_true rfl, Nat.le_of_ble_eq_true rfl⟩ (As := [.int (J x24_c0)]) (rest := []) rfl rfl hl.1 (Nat.le_of_ble_eq_true rfl) 21 rfl dX10_next_18 (fun zz6_ H locs rr6_ hq6_ hw => ?_)
        have hh6_ : (x24_c0 < (n_0 23) ∧ zz6_ = (f_0 22 x24_c0)) ∨ ((n_0 23) ≤ x24_c0 ∧ zz6_ = -1) := hq6_
        clear hq6_
        refine j_bipush E 23 rfl dX10_next_21 (by decide) ?_
        refine j_icmp_ne E 26 39 rfl rr6_ (rr (by decide)) dX10_next_23 (by decide) (fun cc7_ => ?_) (fun cc7_ => ?_)
        · refine j_aload_n E 40 rfl dX10_next_39 rfl (lv_at hl 0 rfl) ?_
          refine j_aload_n E 41 rfl dX10_next_40 rfl (lv_at hl 0 rfl) ?_
          refine m_get_24 E hK hw x24_c0 rfl 44 rfl dX10_next_41 (fun _ => ?_)
          refine m_put_25 E hK hw rx24_c0 47 rfl dX10_next_44 (fun H locs hw => ?_)
          have hw : WM D cy q (upN (upN n_0 24 x24_c0) 25 x24_c0) (f_0) A0 H0 H locs := hw
          refine j_aload_n E 48 rfl dX10_next_47 rfl (lv_at hl 0 rfl) ?_
          refine j_iconst E 49 rfl dX10_next_48 ?_
          refine m_put_26 E hK hw (rr (by decide)) 52 rfl dX10_next_49 (fun H locs hw => ?_)
          have hw : WM D cy q (upN (upN (upN n_0 24 x24_c0) 25 x24_c0) 26 1) (f_0) A0 H0 H locs := hw
          refine j_aload_n E 53 rfl dX10_next_52 rfl (lv_at hl 0 rfl) ?_
          refine j_aload_n E 54 rfl dX10_next_53 rfl (lv_at hl 0 rfl) ?_
          refine m_get_24 E hK hw x24_c0 rfl 57 rfl dX10_next_54 (fun _ => ?_)
          refine m_callp (po := fun z_0 => (x24_c0 < (n_0 23) ∧ z_0 = (f_0 22 x24_c0)) ∨ ((n_0 23) ≤ x24_c0 ∧ z_0 = -1)) E (c_X10_raw l D cy q (upN (upN (upN n_0 24 x24_c0) 25 x24_c0) 26 1) (f_0) x24_c0  rx24_c0 (show 0 ≤ x24_c0 from by omega) (show (n_0 23) ≤ 400 from by omega)) rfl mt_X10_raw ml_X10_226 hK hw hA ⟨Nat.le_of_ble_eq_true rfl, Nat.le_of_ble_eq_true rfl⟩ (As := [.int (J x24_c0)]) (rest := []) rfl rfl hl.1 (Nat.le_of_ble_eq_true rfl) 60 rfl dX10_next_57 (fun zz10_ H locs rr10_ hq10_ hw => ?_)
          have hh10_ : (x24_c0 < (n_0 23) ∧ zz10_ = (f_0 22 x24_c0)) ∨ ((n_0 23) ≤ x24_c0 ∧ zz10_ = -1) := hq10_
          clear hq10_
          have ta_ := hp5 ((x24_c0))
          refine j_istore_n E 61 rfl [(1, .int (J zz10_)), (0, .ref (q 0))] dX10_next_60 rfl hl (by decide) rfl (fun ls hl => ?_)
          refine j_iload_n E 62 rfl dX10_next_61 rfl (lv_at hl 0 rfl) ?_
          refine j_iconst E 63 rfl dX10_next_62 ?_
          refine j_icmp_ne E 66 72 rfl rr10_ (rr (by decide)) dX10_next_63 (by decide) (fun cc11_ => ?_) (fun cc11_ => ?_)
          · have L273_12 : ∀ (x24_c273 : Int) (x26_c273 : Int) (x27_c273 : Int) (H : Heap) (locs : List Loc) (ls : Array Slot), (((x24_c0) < (x24_c273) ∧ (x24_c273) ≤ (n_0 23) ∧ 1 ≤ (x26_c273) ∧ (x26_c273) ≤ 4 ∧ ((x26_c273) = 3 → 0 ≤ (x27_c273) ∧ (x27_c273) ≤ 9999)) ∧ Lt_ (f_0 22) (n_0 23) (x24_c0) (kd_ (x26_c273) (x27_c273)) (x27_c273) (x24_c273) ∧ Tv_ (x26_c273) (x27_c273) ∧ ¬ isBl_ ((f_0 22 ((x24_c0))))) → WM D cy q (upN (upN (upN (upN n_0 24 x24_c273) 25 x24_c0) 26 x26_c273) 27 x27_c273) (f_0) A0 H0 H locs → lv_has ls 2 [(0, .ref (q 0))] → W p l e (rmd 2 0 0) s m ar below meth c H locs 0 0 QW (F0 m 273 ls []) := by
              intro x24_c273 x26_c273 x27_c273 H locs ls iv273 hw hl
              have rx24_c273 : inR x24_c273 := mRn_24 hw.1.2.2.1
              have rx26_c273 : inR x26_c273 := mRn_26 hw.1.2.2.1
              have rx27_c273 : inR x27_c273 := mRn_27 hw.1.2.2.1
              have tv_ := iv273.2.2.1
              unfold Tv_ at tv_
              refine j_aload_n E 274 rfl dX10_next_273 rfl (lv_at hl 0 rfl) ?_
              refine m_get_26 E hK hw x26_c273 rfl 277 rfl dX10_next_274 (fun _ => ?_)
              refine j_iconst E 278 rfl dX10_next_277 ?_
              refine j_icmp_ne E 281 282 rfl rx26_c273 (rr (by decide)) dX10_next_278 (by decide) (fun cc14_ => ?_) (fun cc14_ => ?_)
              · refine j_aload_n E 283 rfl dX10_next_282 rfl (lv_at hl 0 rfl) ?_
                refine m_ag_30 E hK hw 286 rfl dX10_next_283 ?_
                refine j_sipush E 289 rfl dX10_next_286 (by decide) ?_
                refine j_aload_n E 290 rfl dX10_next_289 rfl (lv_at hl 0 rfl) ?_
                refine m_get_29 E hK hw (n_0 29) rfl 293 rfl dX10_next_290 (fun rr15_ => ?_)
                refine j_imul E 294 rfl dX10_next_293 ?_
                refine j_aload_n E 295 rfl dX10_next_294 rfl (lv_at hl 0 rfl) ?_
                refine m_ag_31 E hK hw 298 rfl dX10_next_295 ?_
                refine j_aload_n E 299 rfl dX10_next_298 rfl (lv_at hl 0 rfl) ?_
                refine m_get_29 E hK hw (n_0 29) rfl 302 rfl dX10_next_299 (fun _ => ?_)
                refine m_ld_31 E hK hw (f_0 31 (n_0 29)) rfl (by omega) 303 rfl dX10_next_302 (fun rr16_ => ?_)
                have hk_ := hp4
                refine j_iadd E 304 rfl dX10_next_303 ?_
                refine j_aload_n E 305 rfl dX10_next_304 rfl (lv_at hl 0 rfl) ?_
                refine m_get_26 E hK hw x26_c273 rfl 308 rfl dX10_next_305 (fun _ => ?_)
                refine j_iconst E 309 rfl dX10_next_308 ?_
                refine j_icmp_ne E 312 323 rfl rx26_c273 (rr (by decide)) dX10_next_309 (by decide) (fun cc17_ => ?_) (fun cc17_ => ?_)
                · refine j_aload_n E 324 rfl dX10_next_323 rfl (lv_at hl 0 rfl) ?_
                  refine m_get_26 E hK hw x26_c273 rfl 327 rfl dX10_next_324 (fun _ => ?_)
                  refine j_iconst E 328 rfl dX10_next_327 ?_
                  refine j_icmp_ne E 331 341 rfl rx26_c273 (rr (by decide)) dX10_next_328 (by decide) (fun cc18_ => ?_) (fun cc18_ => ?_)
                  · refine j_aload_n E 342 rfl dX10_next_341 rfl (lv_at hl 0 rfl) ?_
                    refine m_get_27 E hK hw x27_c273 rfl 345 rfl dX10_next_342 (fun _ => ?_)
                    refine m_st_30 E hK hw (by omega) rx27_c273 346 rfl dX10_next_345 (fun H locs hw => ?_)
                    have hw : WM D cy q (upN (upN (upN (upN n_0 24 x24_c273) 25 x24_c0) 26 x26_c273) 27 x27_c273) (upF f_0 30 (upA (f_0 30) ((400 * (n_0 29)) + (f_0 31 (n_0 29))) x27_c273)) A0 H0 H locs := hw
                    refine j_aload_n E 347 rfl dX10_next_346 rfl (lv_at hl 0 rfl) ?_
                    refine m_ag_31 E hK hw 350 rfl dX10_next_347 ?_
                    refine j_aload_n E 351 rfl dX10_next_350 rfl (lv_at hl 0 rfl) ?_
                    refine m_get_29 E hK hw (n_0 29) rfl 354 rfl dX10_next_351 (fun _ => ?_)
                    refine j_aload_n E 355 rfl dX10_next_354 rfl (lv_at hl 0 rfl) ?_
                    refine m_ag_31 E hK hw 358 rfl dX10_next_355 ?_
                    refine j_aload_n E 359 rfl dX10_next_358 rfl (lv_at hl 0 rfl) ?_
                    refine m_get_29 E hK hw (n_0 29) rfl 362 rfl dX10_next_359 (fun _ => ?_)
                    refine m_ld_31 E hK hw (f_0 31 (n_0 29)) rfl (by omega) 363 rfl dX10_next_362 (fun _ => ?_)
                    refine j_iconst E 364 rfl dX10_next_363 ?_
                    refine j_iadd E 365 rfl dX10_next_364 ?_
                    refine m_st_31 E hK hw (by omega) (rr (by omega)) 366 rfl dX10_next_365 (fun H locs hw => ?_)
                    have hw : WM D cy q (upN (upN (upN (upN n_0 24 x24_c273) 25 x24_c0) 26 x26_c273) 27 x27_c273) (upF (upF f_0 30 (upA (f_0 30) ((400 * (n_0 29)) + (f_0 31 (n_0 29))) x27_c273)) 31 (upA (f_0 31) (n_0 29) ((f_0 31 (n_0 29)) + 1))) A0 H0 H locs := hw
                    exact hret 366 (upN (upN (upN (upN n_0 24 x24_c273) 25 x24_c0) 26 x26_c273) 27 x27_c273) (upF (upF f_0 30 (upA (f_0 30) ((400 * (n_0 29)) + (f_0 31 (n_0 29))) x27_c273)) 31 (upA (f_0 31) (n_0 29) ((f_0 31 (n_0 29)) + 1))) _ _ ls hw ⟨x24_c273, x24_c0, x26_c273, x27_c273, (upA (f_0 30) ((400 * (n_0 29)) + (f_0 31 (n_0 29))) x27_c273), (upA (f_0 31) (n_0 29) ((f_0 31 (n_0 29)) + 1)), rfl, rfl, ⟨by omega, by rw [upA_same]; omega, by omega, by omega, by omega, by omega, Kf_up (by omega), Or.inr ⟨by omega, by first | rw [te_3 (by omega)] | rw [te_4 (by omega) (by unfold isSg_; omega)] | rw [te_2 (by omega) (by omega)], rfl⟩, ⟨by omega, iv0.2.2, Or.inr ⟨iv273.2.2.2, iv273.2.1⟩⟩, iv273.2.2.1⟩⟩ dX10_next_366
                  · refine j_bipush E 333 rfl dX10_next_331 (by decide) ?_
                    refine j_aload_n E 334 rfl dX10_next_333 rfl (lv_at hl 0 rfl) ?_
                    refine m_get_27 E hK hw x27_c273 rfl 337 rfl dX10_next_334 (fun _ => ?_)
                    refine j_iadd E 338 rfl dX10_next_337 ?_
                    refine j_goto E 345 dX10_next_338 (by decide) ?_
                    refine m_st_30 E hK hw (by omega) (rr (by omega)) 346 rfl dX10_next_345 (fun H locs hw => ?_)
                    have hw : WM D cy q (upN (upN (upN (upN n_0 24 x24_c273) 25 x24_c0) 26 x26_c273) 27 x27_c273) (upF f_0 30 (upA (f_0 30) ((400 * (n_0 29)) + (f_0 31 (n_0 29))) (100 + x27_c273))) A0 H0 H locs := hw
                    refine j_aload_n E 347 rfl dX10_next_346 rfl (lv_at hl 0 rfl) ?_
                    refine m_ag_31 E hK hw 350 rfl dX10_next_347 ?_
                    refine j_aload_n E 351 rfl dX10_next_350 rfl (lv_at hl 0 rfl) ?_
                    refine m_get_29 E hK hw (n_0 29) rfl 354 rfl dX10_next_351 (fun _ => ?_)
                    refine j_aload_n E 355 rfl dX10_next_354 rfl (lv_at hl 0 rfl) ?_
                    refine m_ag_31 E hK hw 358 rfl dX10_next_355 ?_
                    refine j_aload_n E 359 rfl dX10_next_358 rfl (lv_at hl 0 rfl) ?_
                    refine m_get_29 E hK hw (n_0 29) rfl 362 rfl dX10_next_359 (fun _ => ?_)
                    refine m_ld_31 E hK hw (f_0 31 (n_0 29)) rfl (by omega) 363 rfl dX10_next_362 (fun _ => ?_)
                    refine j_iconst E 364 rfl dX10_next_363 ?_
                    refine j_iadd E 365 rfl dX10_next_364 ?_
                    refine m_st_31 E hK hw (by omega) (rr (by omega)) 366 rfl dX10_next_365 (fun H locs hw => ?_)
                    have hw : WM D cy q (upN (upN (upN (upN n_0 24 x24_c273) 25 x24_c0) 26 x26_c273) 27 x27_c273) (upF (upF f_0 30 (upA (f_0 30) ((400 * (n_0 29)) + (f_0 31 (n_0 29))) (100 + x27_c273))) 31 (upA (f_0 31) (n_0 29) ((f_0 31 (n_0 29)) + 1))) A0 H0 H locs := hw
                    exact hret 366 (upN (upN (upN (upN n_0 24 x24_c273) 25 x24_c0) 26 x26_c273) 27 x27_c273) (upF (upF f_0 30 (upA (f_0 30) ((400 * (n_0 29)) + (f_0 31 (n_0 29))) (100 + x27_c273))) 31 (upA (f_0 31) (n_0 29) ((f_0 31 (n_0 29)) + 1))) _ _ ls hw ⟨x24_c273, x24_c0, x26_c273, x27_c273, (upA (f_0 30) ((400 * (n_0 29)) + (f_0 31 (n_0 29))) (100 + x27_c273)), (upA (f_0 31) (n_0 29) ((f_0 31 (n_0 29)) + 1)), rfl, rfl, ⟨by omega, by rw [upA_same]; omega, by omega, by omega, by omega, by omega, Kf_up (by omega), Or.inr ⟨by omega, by first | rw [te_3 (by omega)] | rw [te_4 (by omega) (by unfold isSg_; omega)] | rw [te_2 (by omega) (by omega)], rfl⟩, ⟨by omega, iv0.2.2, Or.inr ⟨iv273.2.2.2, iv273.2.1⟩⟩, iv273.2.2.1⟩⟩ dX10_next_366
                · refine j_sipush E 315 rfl dX10_next_312 (by decide) ?_
                  refine j_aload_n E 316 rfl dX10_next_315 rfl (lv_at hl 0 rfl) ?_
                  refine m_get_27 E hK hw x27_c273 rfl 319 rfl dX10_next_316 (fun _ => ?_)
                  refine j_iadd E 320 rfl dX10_next_319 ?_
                  refine j_goto E 345 dX10_next_320 (by decide) ?_
                  refine m_st_30 E hK hw (by omega) (rr (by omega)) 346 rfl dX10_next_345 (fun H locs hw => ?_)
                  have hw : WM D cy q (upN (upN (upN (upN n_0 24 x24_c273) 25 x24_c0) 26 x26_c273) 27 x27_c273) (upF f_0 30 (upA (f_0 30) ((400 * (n_0 29)) + (f_0 31 (n_0 29))) (1000 + x27_c273))) A0 H0 H locs := hw
                  refine j_aload_n E 347 rfl dX10_next_346 rfl (lv_at hl 0 rfl) ?_
                  refine m_ag_31 E hK hw 350 rfl dX10_next_347 ?_
                  refine j_aload_n E 351 rfl dX10_next_350 rfl (lv_at hl 0 rfl) ?_
                  refine m_get_29 E hK hw (n_0 29) rfl 354 rfl dX10_next_351 (fun _ => ?_)
                  refine j_aload_n E 355 rfl dX10_next_354 rfl (lv_at hl 0 rfl) ?_
                  refine m_ag_31 E hK hw 358 rfl dX10_next_355 ?_
                  refine j_aload_n E 359 rfl dX10_next_358 rfl (lv_at hl 0 rfl) ?_
                  refine m_get_29 E hK hw (n_0 29) rfl 362 rfl dX10_next_359 (fun _ => ?_)
                  refine m_ld_31 E hK hw (f_0 31 (n_0 29)) rfl (by omega) 363 rfl dX10_next_362 (fun _ => ?_)
                  refine j_iconst E 364 rfl dX10_next_363 ?_
                  refine j_iadd E 365 rfl dX10_next_364 ?_
                  refine m_st_31 E hK hw (by omega) (rr (by omega)) 366 rfl dX10_next_365 (fun H locs hw => ?_)
                  have hw : WM D cy q (upN (upN (upN (upN n_0 24 x24_c273) 25 x24_c0) 26 x26_c273) 27 x27_c273) (upF (upF f_0 30 (upA (f_0 30) ((400 * (n_0 29)) + (f_0 31 (n_0 29))) (1000 + x27_c273))) 31 (upA (f_0 31) (n_0 29) ((f_0 31 (n_0 29)) + 1))) A0 H0 H locs := hw
                  exact hret 366 (upN (upN (upN (upN n_0 24 x24_c273) 25 x24_c0) 26 x26_c273) 27 x27_c273) (upF (upF f_0 30 (upA (f_0 30) ((400 * (n_0 29)) + (f_0 31 (n_0 29))) (1000 + x27_c273))) 31 (upA (f_0 31) (n_0 29) ((f_0 31 (n_0 29)) + 1))) _ _ ls hw ⟨x24_c273, x24_c0, x26_c273, x27_c273, (upA (f_0 30) ((400 * (n_0 29)) + (f_0 31 (n_0 29))) (1000 + x27_c273)), (upA (f_0 31) (n_0 29) ((f_0 31 (n_0 29)) + 1)), rfl, rfl, ⟨by omega, by rw [upA_same]; omega, by omega, by omega, by omega, by omega, Kf_up (by omega), Or.inr ⟨by omega, by first | rw [te_3 (by omega)] | rw [te_4 (by omega) (by unfold isSg_; omega)] | rw [te_2 (by omega) (by omega)], rfl⟩, ⟨by omega, iv0.2.2, Or.inr ⟨iv273.2.2.2, iv273.2.1⟩⟩, iv273.2.2.1⟩⟩ dX10_next_366
              · exact hret 281 (upN (upN (upN (upN n_0 24 x24_c273) 25 x24_c0) 26 x26_c273) 27 x27_c273) (upF (upF f_0 30 (f_0 30)) 31 (f_0 31)) _ _ ls hw ⟨x24_c273, x24_c0, x26_c273, x27_c273, (f_0 30), (f_0 31), rfl, rfl, ⟨by omega, by omega, by omega, by omega, by omega, by omega, Kf_rf, Or.inl ⟨by omega, rfl, rfl⟩, ⟨by omega, iv0.2.2, Or.inr ⟨iv273.2.2.2, iv273.2.1⟩⟩, iv273.2.2.1⟩⟩ dX10_next_281
            have nb_ : ¬ isBl_ ((f_0 22 ((x24_c0)))) := by unfold isBl_; omega
            refine j_aload_n E 73 rfl dX10_next_72 rfl (lv_at hl 1 rfl) ?_
            refine j_aload_n E 74 rfl dX10_next_73 rfl (lv_at hl 1 rfl) ?_
            refine m_get_24 E hK hw x24_c0 rfl 77 rfl dX10_next_74 (fun _ => ?_)
            refine j_iconst E 78 rfl dX10_next_77 ?_
            refine j_iadd E 79 rfl dX10_next_78 ?_
            refine m_put_24 E hK hw (rr (by omega)) 82 rfl dX10_next_79 (fun H locs hw => ?_)
            have hw : WM D cy q (upN (upN (upN n_0 24 (x24_c0 + 1)) 25 x24_c0) 26 1) (f_0) A0 H0 H locs := hw
            refine j_aload_n E 83 rfl dX10_next_82 rfl (lv_at hl 1 rfl) ?_
            refine j_iload_n E 84 rfl dX10_next_83 rfl (lv_at hl 0 rfl) ?_
            refine m_put_27 E hK hw rr10_ 87 rfl dX10_next_84 (fun H locs hw => ?_)
            have hw : WM D cy q (upN (upN (upN (upN n_0 24 (x24_c0 + 1)) 25 x24_c0) 26 1) 27 zz10_) (f_0) A0 H0 H locs := hw
            refine j_aload_n E 88 rfl dX10_next_87 rfl (lv_at hl 1 rfl) ?_
            refine j_iload_n E 89 rfl dX10_next_88 rfl (lv_at hl 0 rfl) ?_
            refine m_callp (po := fun z_0 => (z_0 = 1 ∧ ((97 ≤ zz10_ ∧ zz10_ ≤ 122) ∨ (65 ≤ zz10_ ∧ zz10_ ≤ 90))) ∨ (z_0 = 0 ∧ ¬ ((97 ≤ zz10_ ∧ zz10_ ≤ 122) ∨ (65 ≤ zz10_ ∧ zz10_ ≤ 90)))) E (c_X10_isLetter l D cy q (upN (upN (upN (upN n_0 24 (x24_c0 + 1)) 25 x24_c0) 26 1) 27 zz10_) (f_0) zz10_  rr10_ ) rfl mt_X10_isLetter ml_X10_238 hK hw hA ⟨Nat.le_of_ble_eq_true rfl, Nat.le_of_ble_eq_true rfl⟩ (As := [.int (J zz10_)]) (rest := []) rfl rfl hl.1 (Nat.le_of_ble_eq_true rfl) 92 rfl dX10_next_89 (fun zz27_ H locs rr27_ hq27_ hw => ?_)
            have hh27_ : (zz27_ = 1 ∧ ((97 ≤ zz10_ ∧ zz10_ ≤ 122) ∨ (65 ≤ zz10_ ∧ zz10_ ≤ 90))) ∨ (zz27_ = 0 ∧ ¬ ((97 ≤ zz10_ ∧ zz10_ ≤ 122) ∨ (65 ≤ zz10_ ∧ zz10_ ≤ 90))) := hq27_
            clear hq27_
            rcases hh27_ with ⟨ee27_, hh27_⟩ | ⟨ee27_, hh27_⟩
            · subst ee27_
              refine j_if_eq E 95 155 rfl (rr (by decide)) dX10_next_92 (by decide) (fun cc28_ => absurd cc28_ (by decide)) (fun _ => ?_)
              have L95_29 : ∀ (k95 : Nat) (x24_c95 : Int) (H : Heap) (locs : List Loc) (ls : Array Slot), ((x24_c0) < (x24_c95) ∧ (x24_c95) ≤ (n_0 23) ∧ ∀ j, (x24_c0) ≤ j → j < (x24_c95) → isLet_ ((f_0 22 j))) → ((n_0 23) - (x24_c95)) < (k95 : Int) → WM D cy q (upN (upN (upN (upN n_0 24 x24_c95) 25 x24_c0) 26 1) 27 zz10_) (f_0) A0 H0 H locs → lv_has ls 2 [(0, .ref (q 0))] → W p l e (rmd 2 0 0) s m ar below meth c H locs 0 0 QW (F0 m 95 ls []) := by
                intro k95
                induction k95 with
                | zero =>
                  intro x24_c95 H locs ls iv95 ms95 hw hl
                  exfalso; omega
                | succ k95 ih95 =>
                  intro x24_c95 H locs ls iv95 ms95 hw hl
                  have rx24_c95 : inR x24_c95 := mRn_24 hw.1.2.2.1
                  refine j_aload_n E 96 rfl dX10_next_95 rfl (lv_at hl 0 rfl) ?_
                  refine j_aload_n E 97 rfl dX10_next_96 rfl (lv_at hl 0 rfl) ?_
                  refine j_aload_n E 98 rfl dX10_next_97 rfl (lv_at hl 0 rfl) ?_
                  refine m_get_24 E hK hw x24_c95 rfl 101 rfl dX10_next_98 (fun _ => ?_)
                  refine m_callp (po := fun z_0 => (x24_c95 < (n_0 23) ∧ z_0 = (f_0 22 x24_c95)) ∨ ((n_0 23) ≤ x24_c95 ∧ z_0 = -1)) E (c_X10_raw l D cy q (upN (upN (upN (upN n_0 24 x24_c95) 25 x24_c0) 26 1) 27 zz10_) (f_0) x24_c95  rx24_c95 (show 0 ≤ x24_c95 from by omega) (show (n_0 23) ≤ 400 from by omega)) rfl mt_X10_raw ml_X10_226 hK hw hA ⟨Nat.le_of_ble_eq_true rfl, Nat.le_of_ble_eq_true rfl⟩ (As := [.int (J x24_c95)]) (rest := [.ref (q 0)]) rfl rfl hl.1 (Nat.le_of_ble_eq_true rfl) 104 rfl dX10_next_101 (fun zz31_ H locs rr31_ hq31_ hw => ?_)
                  have hh31_ : (x24_c95 < (n_0 23) ∧ zz31_ = (f_0 22 x24_c95)) ∨ ((n_0 23) ≤ x24_c95 ∧ zz31_ = -1) := hq31_
                  clear hq31_
                  refine m_callp (po := fun z_0 => (z_0 = 1 ∧ ((97 ≤ zz31_ ∧ zz31_ ≤ 122) ∨ (65 ≤ zz31_ ∧ zz31_ ≤ 90))) ∨ (z_0 = 0 ∧ ¬ ((97 ≤ zz31_ ∧ zz31_ ≤ 122) ∨ (65 ≤ zz31_ ∧ zz31_ ≤ 90)))) E (c_X10_isLetter l D cy q (upN (upN (upN (upN n_0 24 x24_c95) 25 x24_c0) 26 1) 27 zz10_) (f_0) zz31_  rr31_ ) rfl mt_X10_isLetter ml_X10_238 hK hw hA ⟨Nat.le_of_ble_eq_true rfl, Nat.le_of_ble_eq_true rfl⟩ (As := [.int (J zz31_)]) (rest := []) rfl rfl hl.1 (Nat.le_of_ble_eq_true rfl) 107 rfl dX10_next_104 (fun zz32_ H locs rr32_ hq32_ hw => ?_)
                  have hh32_ : (zz32_ = 1 ∧ ((97 ≤ zz31_ ∧ zz31_ ≤ 122) ∨ (65 ≤ zz31_ ∧ zz31_ ≤ 90))) ∨ (zz32_ = 0 ∧ ¬ ((97 ≤ zz31_ ∧ zz31_ ≤ 122) ∨ (65 ≤ zz31_ ∧ zz31_ ≤ 90))) := hq32_
                  clear hq32_
                  rcases hh32_ with ⟨ee32_, hh32_⟩ | ⟨ee32_, hh32_⟩
                  · subst ee32_
                    refine j_if_eq E 110 123 rfl (rr (by decide)) dX10_next_107 (by decide) (fun cc33_ => absurd cc33_ (by decide)) (fun _ => ?_)
                    refine j_aload_n E 111 rfl dX10_next_110 rfl (lv_at hl 0 rfl) ?_
                    refine j_aload_n E 112 rfl dX10_next_111 rfl (lv_at hl 0 rfl) ?_
                    refine m_get_24 E hK hw x24_c95 rfl 115 rfl dX10_next_112 (fun _ => ?_)
                    refine j_iconst E 116 rfl dX10_next_115 ?_
                    refine j_iadd E 117 rfl dX10_next_116 ?_
                    refine m_put_24 E hK hw (rr (by omega)) 120 rfl dX10_next_117 (fun H locs hw => ?_)
                    have hw : WM D cy q (upN (upN (upN (upN n_0 24 (x24_c95 + 1)) 25 x24_c0) 26 1) 27 zz10_) (f_0) A0 H0 H locs := hw
                    refine j_goto E 95 dX10_next_120 (by decide) ?_
                    exact ih95  (x24_c95 + 1) H locs ls  (⟨by omega, by omega, qr_st iv95.2.2 (by unfold isLet_; omega)⟩) (by omega) hw (lv_sub hl [0] rfl)
                  · subst ee32_
                    refine j_if_eq E 110 123 rfl (rr (by decide)) dX10_next_107 (by decide) (fun _ => ?_) (fun cc35_ => absurd cc35_ (by decide))
                    refine j_aload_n E 124 rfl dX10_next_123 rfl (lv_at hl 0 rfl) ?_
                    refine j_aload_n E 125 rfl dX10_next_124 rfl (lv_at hl 0 rfl) ?_
                    refine j_aload_n E 126 rfl dX10_next_125 rfl (lv_at hl 0 rfl) ?_
                    refine m_get_25 E hK hw x24_c0 rfl 129 rfl dX10_next_126 (fun _ => ?_)
                    refine j_aload_n E 130 rfl dX10_next_129 rfl (lv_at hl 0 rfl) ?_
                    refine m_get_24 E hK hw x24_c95 rfl 133 rfl dX10_next_130 (fun _ => ?_)
                    refine m_callp (po := fun z_0 => Wa_ (f_0 22) x24_c0 x24_c95 z_0) E (c_X10_wordAt l D cy q (upN (upN (upN (upN n_0 24 x24_c95) 25 x24_c0) 26 1) 27 zz10_) (f_0) x24_c0 x24_c95  rx24_c0 rx24_c95 (show 0 ≤ x24_c0 ∧ x24_c0 ≤ x24_c95 ∧ x24_c95 ≤ 400 from by omega) (show Wds_ (f_0 28) from hp2) (show ∀ j, x24_c0 ≤ j → j < x24_c95 → ¬ (f_0 22 j) = 32 from fun j h1_ h2_ => by have q_ := iv95.2.2 j h1_ h2_; unfold isLet_ at q_; omega)) rfl mt_X10_wordAt ml_X10_241 hK hw hA ⟨Nat.le_of_ble_eq_true rfl, Nat.le_of_ble_eq_true rfl⟩ (As := [.int (J x24_c0), .int (J x24_c95)]) (rest := [.ref (q 0)]) rfl rfl hl.1 (Nat.le_of_ble_eq_true rfl) 136 rfl dX10_next_133 (fun zz36_ H locs rr36_ hq36_ hw => ?_)
                    have hh36_ : Wa_ (f_0 22) x24_c0 x24_c95 zz36_ := hq36_
                    clear hq36_
                    have hwa_ := hh36_
                    clear hh36_
                    refine m_put_27 E hK hw rr36_ 139 rfl dX10_next_136 (fun H locs hw => ?_)
                    have hw : WM D cy q (upN (upN (upN (upN n_0 24 x24_c95) 25 x24_c0) 26 1) 27 zz36_) (f_0) A0 H0 H locs := hw
                    refine j_aload_n E 140 rfl dX10_next_139 rfl (lv_at hl 0 rfl) ?_
                    refine m_get_27 E hK hw zz36_ rfl 143 rfl dX10_next_140 (fun _ => ?_)
                    refine j_iconst E 144 rfl dX10_next_143 ?_
                    refine j_icmp_eq E 147 273 rfl rr36_ (rr (by decide)) dX10_next_144 (by decide) (fun cc38_ => ?_) (fun cc38_ => ?_)
                    · exact L273_12  x24_c95 1 zz36_ H locs ls  (by
                          rcases hwa_ with ⟨w_, w1_, w2_, w3_⟩ | ⟨w1_, w2_⟩
                          · exact absurd w3_ (by omega)
                          · exact ⟨by omega, by rw [kd_1]; exact Lt_w0 (by omega) (by omega) (by omega) iv95.2.2 (fun q_ => by unfold isLet_; omega) w2_, Or.inr (Or.inl rfl), nb_⟩) hw (lv_sub hl [0] rfl)
                    · refine j_aload_n E 148 rfl dX10_next_147 rfl (lv_at hl 0 rfl) ?_
                      refine j_iconst E 149 rfl dX10_next_148 ?_
                      refine m_put_26 E hK hw (rr (by decide)) 152 rfl dX10_next_149 (fun H locs hw => ?_)
                      have hw : WM D cy q (upN (upN (upN (upN n_0 24 x24_c95) 25 x24_c0) 26 2) 27 zz36_) (f_0) A0 H0 H locs := hw
                      refine j_goto E 273 dX10_next_152 (by decide) ?_
                      exact L273_12  x24_c95 2 zz36_ H locs ls  (by
                          rcases hwa_ with ⟨w_, w1_, w2_, w3_⟩ | ⟨w1_, w2_⟩
                          · refine ⟨by omega, ?_, Or.inr (Or.inr (Or.inl ⟨rfl, by omega, by omega⟩)), nb_⟩
                            rw [kd_2, w3_]
                            exact Lt_w1 (by omega) (by omega) (by omega) iv95.2.2 (fun q_ => by unfold isLet_; omega) w1_ w2_
                          · exact absurd w1_ (by omega)) hw (lv_sub hl [0] rfl)
              exact L95_29 _  (x24_c0 + 1) H locs ls  (⟨by omega, by omega, fun j h1_ h2_ => by rw [show j = x24_c0 by omega]; unfold isLet_; omega⟩) (mk_lt _) hw (lv_sub hl [1] rfl)
            · subst ee27_
              refine j_if_eq E 95 155 rfl (rr (by decide)) dX10_next_92 (by decide) (fun _ => ?_) (fun cc40_ => absurd cc40_ (by decide))
              refine j_aload_n E 156 rfl dX10_next_155 rfl (lv_at hl 1 rfl) ?_
              refine j_iload_n E 157 rfl dX10_next_156 rfl (lv_at hl 0 rfl) ?_
              refine m_callp (po := fun z_0 => (z_0 = 1 ∧ 48 ≤ zz10_ ∧ zz10_ ≤ 57) ∨ (z_0 = 0 ∧ (zz10_ < 48 ∨ 57 < zz10_))) E (c_X10_isDigit l D cy q (upN (upN (upN (upN n_0 24 (x24_c0 + 1)) 25 x24_c0) 26 1) 27 zz10_) (f_0) zz10_  rr10_ ) rfl mt_X10_isDigit ml_X10_244 hK hw hA ⟨Nat.le_of_ble_eq_true rfl, Nat.le_of_ble_eq_true rfl⟩ (As := [.int (J zz10_)]) (rest := []) rfl rfl hl.1 (Nat.le_of_ble_eq_true rfl) 160 rfl dX10_next_157 (fun zz41_ H locs rr41_ hq41_ hw => ?_)
              have hh41_ : (zz41_ = 1 ∧ 48 ≤ zz10_ ∧ zz10_ ≤ 57) ∨ (zz41_ = 0 ∧ (zz10_ < 48 ∨ 57 < zz10_)) := hq41_
              clear hq41_
              rcases hh41_ with ⟨ee41_, hh41_⟩ | ⟨ee41_, hh41_⟩
              · subst ee41_
                refine j_if_eq E 163 260 rfl (rr (by decide)) dX10_next_160 (by decide) (fun cc42_ => absurd cc42_ (by decide)) (fun _ => ?_)
                refine j_aload_n E 164 rfl dX10_next_163 rfl (lv_at hl 1 rfl) ?_
                refine j_iload_n E 165 rfl dX10_next_164 rfl (lv_at hl 0 rfl) ?_
                refine j_bipush E 167 rfl dX10_next_165 (by decide) ?_
                refine j_isub E 168 rfl dX10_next_167 ?_
                refine m_put_27 E hK hw (rr (by omega)) 171 rfl dX10_next_168 (fun H locs hw => ?_)
                have hw : WM D cy q (upN (upN (upN (upN n_0 24 (x24_c0 + 1)) 25 x24_c0) 26 1) 27 (zz10_ - 48)) (f_0) A0 H0 H locs := hw
                have L171_44 : ∀ (k171 : Nat) (x24_c171 : Int) (x27_c171 : Int) (H : Heap) (locs : List Loc) (ls : Array Slot), ((x24_c0) < (x24_c171) ∧ (x24_c171) ≤ (n_0 23) ∧ 0 ≤ (x27_c171) ∧ (x27_c171) ≤ 99999 ∧ ((x24_c171) = (x24_c0) + 1 → (x27_c171) ≤ 9) ∧ ((x24_c171) = (x24_c0) + 2 → (x27_c171) ≤ 99) ∧ ((x24_c171) = (x24_c0) + 3 → (x27_c171) ≤ 999) ∧ ((x24_c171) = (x24_c0) + 4 → (x27_c171) ≤ 9999) ∧ (∀ j, (x24_c0) ≤ j → j < (x24_c171) → isDig_ ((f_0 22 j))) ∧ ((x24_c171) - (x24_c0) ≤ 4 → (x27_c171) = dv_ (f_0 22) (x24_c0) ((x24_c171) - (x24_c0)).toNat)) → ((n_0 23) - (x24_c171)) < (k171 : Int) → WM D cy q (upN (upN (upN (upN n_0 24 x24_c171) 25 x24_c0) 26 1) 27 x27_c171) (f_0) A0 H0 H locs → lv_has ls 2 [(0, .ref (q 0))] → W p l e (rmd 2 0 0) s m ar below meth c H locs 0 0 QW (F0 m 171 ls []) := by
                  intro k171
                  induction k171 with
                  | zero =>
                    intro x24_c171 x27_c171 H locs ls iv171 ms171 hw hl
                    exfalso; omega
                  | succ k171 ih171 =>
                    intro x24_c171 x27_c171 H locs ls iv171 ms171 hw hl
                    obtain ⟨v1_, v2_, v3_, v4_, v5_, v6_, v7_, v8_, v9_, va_⟩ := iv171
                    have rx24_c171 : inR x24_c171 := mRn_24 hw.1.2.2.1
                    have rx27_c171 : inR x27_c171 := mRn_27 hw.1.2.2.1
                    refine j_aload_n E 172 rfl dX10_next_171 rfl (lv_at hl 0 rfl) ?_
                    refine j_aload_n E 173 rfl dX10_next_172 rfl (lv_at hl 0 rfl) ?_
                    refine j_aload_n E 174 rfl dX10_next_173 rfl (lv_at hl 0 rfl) ?_
                    refine m_get_24 E hK hw x24_c171 rfl 177 rfl dX10_next_174 (fun _ => ?_)
                    refine m_callp (po := fun z_0 => (x24_c171 < (n_0 23) ∧ z_0 = (f_0 22 x24_c171)) ∨ ((n_0 23) ≤ x24_c171 ∧ z_0 = -1)) E (c_X10_raw l D cy q (upN (upN (upN (upN n_0 24 x24_c171) 25 x24_c0) 26 1) 27 x27_c171) (f_0) x24_c171  rx24_c171 (show 0 ≤ x24_c171 from by omega) (show (n_0 23) ≤ 400 from by omega)) rfl mt_X10_raw ml_X10_226 hK hw hA ⟨Nat.le_of_ble_eq_true rfl, Nat.le_of_ble_eq_true rfl⟩ (As := [.int (J x24_c171)]) (rest := [.ref (q 0)]) rfl rfl hl.1 (Nat.le_of_ble_eq_true rfl) 180 rfl dX10_next_177 (fun zz46_ H locs rr46_ hq46_ hw => ?_)
                    have hh46_ : (x24_c171 < (n_0 23) ∧ zz46_ = (f_0 22 x24_c171)) ∨ ((n_0 23) ≤ x24_c171 ∧ zz46_ = -1) := hq46_
                    clear hq46_
                    refine m_callp (po := fun z_0 => (z_0 = 1 ∧ 48 ≤ zz46_ ∧ zz46_ ≤ 57) ∨ (z_0 = 0 ∧ (zz46_ < 48 ∨ 57 < zz46_))) E (c_X10_isDigit l D cy q (upN (upN (upN (upN n_0 24 x24_c171) 25 x24_c0) 26 1) 27 x27_c171) (f_0) zz46_  rr46_ ) rfl mt_X10_isDigit ml_X10_244 hK hw hA ⟨Nat.le_of_ble_eq_true rfl, Nat.le_of_ble_eq_true rfl⟩ (As := [.int (J zz46_)]) (rest := []) rfl rfl hl.1 (Nat.le_of_ble_eq_true rfl) 183 rfl dX10_next_180 (fun zz47_ H locs rr47_ hq47_ hw => ?_)
                    have hh47_ : (zz47_ = 1 ∧ 48 ≤ zz46_ ∧ zz46_ ≤ 57) ∨ (zz47_ = 0 ∧ (zz46_ < 48 ∨ 57 < zz46_)) := hq47_
                    clear hq47_
                    rcases hh47_ with ⟨ee47_, hh47_⟩ | ⟨ee47_, hh47_⟩
                    · subst ee47_
                      refine j_if_eq E 186 239 rfl (rr (by decide)) dX10_next_183 (by decide) (fun cc48_ => absurd cc48_ (by decide)) (fun _ => ?_)
                      refine j_aload_n E 187 rfl dX10_next_186 rfl (lv_at hl 0 rfl) ?_
                      refine j_aload_n E 188 rfl dX10_next_187 rfl (lv_at hl 0 rfl) ?_
                      refine m_get_27 E hK hw x27_c171 rfl 191 rfl dX10_next_188 (fun _ => ?_)
                      refine j_sipush E 194 rfl dX10_next_191 (by decide) ?_
                      refine j_icmp_ge E 197 219 rfl rx27_c171 (rr (by decide)) dX10_next_194 (by decide) (fun cc49_ => ?_) (fun cc49_ => ?_)
                      · refine j_aload_n E 220 rfl dX10_next_219 rfl (lv_at hl 0 rfl) ?_
                        refine m_get_27 E hK hw x27_c171 rfl 223 rfl dX10_next_220 (fun _ => ?_)
                        refine m_put_27 E hK hw rx27_c171 226 rfl dX10_next_223 (fun H locs hw => ?_)
                        have hw : WM D cy q (upN (upN (upN (upN n_0 24 x24_c171) 25 x24_c0) 26 1) 27 x27_c171) (f_0) A0 H0 H locs := hw
                        refine j_aload_n E 227 rfl dX10_next_226 rfl (lv_at hl 0 rfl) ?_
                        refine j_aload_n E 228 rfl dX10_next_227 rfl (lv_at hl 0 rfl) ?_
                        refine m_get_24 E hK hw x24_c171 rfl 231 rfl dX10_next_228 (fun _ => ?_)
                        refine j_iconst E 232 rfl dX10_next_231 ?_
                        refine j_iadd E 233 rfl dX10_next_232 ?_
                        refine m_put_24 E hK hw (rr (by omega)) 236 rfl dX10_next_233 (fun H locs hw => ?_)
                        have hw : WM D cy q (upN (upN (upN (upN n_0 24 (x24_c171 + 1)) 25 x24_c0) 26 1) 27 x27_c171) (f_0) A0 H0 H locs := hw
                        refine j_goto E 171 dX10_next_236 (by decide) ?_
                        exact ih171  (x24_c171 + 1) x27_c171 H locs ls  (⟨by omega, by omega, by omega, by omega, by omega, by omega, by omega, by omega, qr_st v9_ (by unfold isDig_; omega), fun h_ => by have va2_ := va_ (by omega); rw [dv_nx (by omega)]; omega⟩) (by omega) hw (lv_sub hl [0] rfl)
                      · refine j_bipush E 199 rfl dX10_next_197 (by decide) ?_
                        refine j_aload_n E 200 rfl dX10_next_199 rfl (lv_at hl 0 rfl) ?_
                        refine m_get_27 E hK hw x27_c171 rfl 203 rfl dX10_next_200 (fun _ => ?_)
                        refine j_imul E 204 rfl dX10_next_203 ?_
                        refine j_aload_n E 205 rfl dX10_next_204 rfl (lv_at hl 0 rfl) ?_
                        refine j_aload_n E 206 rfl dX10_next_205 rfl (lv_at hl 0 rfl) ?_
                        refine m_get_24 E hK hw x24_c171 rfl 209 rfl dX10_next_206 (fun _ => ?_)
                        refine m_callp (po := fun z_0 => (x24_c171 < (n_0 23) ∧ z_0 = (f_0 22 x24_c171)) ∨ ((n_0 23) ≤ x24_c171 ∧ z_0 = -1)) E (c_X10_raw l D cy q (upN (upN (upN (upN n_0 24 x24_c171) 25 x24_c0) 26 1) 27 x27_c171) (f_0) x24_c171  rx24_c171 (show 0 ≤ x24_c171 from by omega) (show (n_0 23) ≤ 400 from by omega)) rfl mt_X10_raw ml_X10_226 hK hw hA ⟨Nat.le_of_ble_eq_true rfl, Nat.le_of_ble_eq_true rfl⟩ (As := [.int (J x24_c171)]) (rest := [.int (J (10 * x27_c171)), .ref (q 0)]) rfl rfl hl.1 (Nat.le_of_ble_eq_true rfl) 212 rfl dX10_next_209 (fun zz52_ H locs rr52_ hq52_ hw => ?_)
                        have hh52_ : (x24_c171 < (n_0 23) ∧ zz52_ = (f_0 22 x24_c171)) ∨ ((n_0 23) ≤ x24_c171 ∧ zz52_ = -1) := hq52_
                        clear hq52_
                        refine j_iadd E 213 rfl dX10_next_212 ?_
                        refine j_bipush E 215 rfl dX10_next_213 (by decide) ?_
                        refine j_isub E 216 rfl dX10_next_215 ?_
                        refine j_goto E 223 dX10_next_216 (by decide) ?_
                        refine m_put_27 E hK hw (rr (by omega)) 226 rfl dX10_next_223 (fun H locs hw => ?_)
                        have hw : WM D cy q (upN (upN (upN (upN n_0 24 x24_c171) 25 x24_c0) 26 1) 27 (((10 * x27_c171) + zz52_) - 48)) (f_0) A0 H0 H locs := hw
                        refine j_aload_n E 227 rfl dX10_next_226 rfl (lv_at hl 0 rfl) ?_
                        refine j_aload_n E 228 rfl dX10_next_227 rfl (lv_at hl 0 rfl) ?_
                        refine m_get_24 E hK hw x24_c171 rfl 231 rfl dX10_next_228 (fun _ => ?_)
                        refine j_iconst E 232 rfl dX10_next_231 ?_
                        refine j_iadd E 233 rfl dX10_next_232 ?_
                        refine m_put_24 E hK hw (rr (by omega)) 236 rfl dX10_next_233 (fun H locs hw => ?_)
                        have hw : WM D cy q (upN (upN (upN (upN n_0 24 (x24_c171 + 1)) 25 x24_c0) 26 1) 27 (((10 * x27_c171) + zz52_) - 48)) (f_0) A0 H0 H locs := hw
                        refine j_goto E 171 dX10_next_236 (by decide) ?_
                        exact ih171  (x24_c171 + 1) (((10 * x27_c171) + zz52_) - 48) H locs ls  (⟨by omega, by omega, by omega, by omega, by omega, by omega, by omega, by omega, qr_st v9_ (by unfold isDig_; omega), fun h_ => by have va2_ := va_ (by omega); rw [dv_nx (by omega)]; omega⟩) (by omega) hw (lv_sub hl [0] rfl)
                    · subst ee47_
                      refine j_if_eq E 186 239 rfl (rr (by decide)) dX10_next_183 (by decide) (fun _ => ?_) (fun cc55_ => absurd cc55_ (by decide))
                      refine j_aload_n E 240 rfl dX10_next_239 rfl (lv_at hl 0 rfl) ?_
                      refine m_get_24 E hK hw x24_c171 rfl 243 rfl dX10_next_240 (fun _ => ?_)
                      refine j_aload_n E 244 rfl dX10_next_243 rfl (lv_at hl 0 rfl) ?_
                      refine m_get_25 E hK hw x24_c0 rfl 247 rfl dX10_next_244 (fun _ => ?_)
                      refine j_isub E 248 rfl dX10_next_247 ?_
                      refine j_iconst E 249 rfl dX10_next_248 ?_
                      refine j_icmp_ge E 252 273 rfl (rr (by omega)) (rr (by decide)) dX10_next_249 (by decide) (fun cc56_ => ?_) (fun cc56_ => ?_)
                      · exact L273_12  x24_c171 1 x27_c171 H locs ls  (⟨by omega, by rw [kd_1]; exact Lt_d0 (by omega) (by omega) (by omega) v9_ (fun q_ => by unfold isDig_; omega) (by omega), Or.inr (Or.inl rfl), nb_⟩) hw (lv_sub hl [0] rfl)
                      · refine j_aload_n E 253 rfl dX10_next_252 rfl (lv_at hl 0 rfl) ?_
                        refine j_iconst E 254 rfl dX10_next_253 ?_
                        refine m_put_26 E hK hw (rr (by decide)) 257 rfl dX10_next_254 (fun H locs hw => ?_)
                        have hw : WM D cy q (upN (upN (upN (upN n_0 24 x24_c171) 25 x24_c0) 26 3) 27 x27_c171) (f_0) A0 H0 H locs := hw
                        refine j_goto E 273 dX10_next_257 (by decide) ?_
                        exact L273_12  x24_c171 3 x27_c171 H locs ls  (⟨by omega, by rw [kd_3]; exact Lt_d1 (by omega) (by omega) (by omega) v9_ (fun q_ => by unfold isDig_; omega) (by omega) (va_ (by omega)), Or.inr (Or.inr (Or.inr (Or.inl ⟨rfl, by omega, by omega⟩))), nb_⟩) hw (lv_sub hl [0] rfl)
                exact L171_44 _  (x24_c0 + 1) (zz10_ - 48) H locs ls  (⟨by omega, by omega, by omega, by omega, by omega, by omega, by omega, by omega, fun j h1_ h2_ => by rw [show j = x24_c0 by omega]; unfold isDig_; omega, fun _ => by rw [dv_1]; omega⟩) (mk_lt _) hw (lv_sub hl [1] rfl)
              · subst ee41_
                refine j_if_eq E 163 260 rfl (rr (by decide)) dX10_next_160 (by decide) (fun _ => ?_) (fun cc58_ => absurd cc58_ (by decide))
                refine j_aload_n E 261 rfl dX10_next_260 rfl (lv_at hl 1 rfl) ?_
                refine j_iload_n E 262 rfl dX10_next_261 rfl (lv_at hl 0 rfl) ?_
                refine m_callp (po := fun z_0 => (z_0 = 1 ∧ (zz10_ = 59 ∨ zz10_ = 43 ∨ zz10_ = 45 ∨ zz10_ = 42 ∨ zz10_ = 47 ∨ zz10_ = 40 ∨ zz10_ = 41 ∨ zz10_ = 60 ∨ zz10_ = 61 ∨ zz10_ = 62)) ∨ (z_0 = 0 ∧ ¬ (zz10_ = 59 ∨ zz10_ = 43 ∨ zz10_ = 45 ∨ zz10_ = 42 ∨ zz10_ = 47 ∨ zz10_ = 40 ∨ zz10_ = 41 ∨ zz10_ = 60 ∨ zz10_ = 61 ∨ zz10_ = 62))) E (c_X10_isMarkSign l D cy q (upN (upN (upN (upN n_0 24 (x24_c0 + 1)) 25 x24_c0) 26 1) 27 zz10_) (f_0) zz10_  rr10_ ) rfl mt_X10_isMarkSign ml_X10_247 hK hw hA ⟨Nat.le_of_ble_eq_true rfl, Nat.le_of_ble_eq_true rfl⟩ (As := [.int (J zz10_)]) (rest := []) rfl rfl hl.1 (Nat.le_of_ble_eq_true rfl) 265 rfl dX10_next_262 (fun zz59_ H locs rr59_ hq59_ hw => ?_)
                have hh59_ : (zz59_ = 1 ∧ (zz10_ = 59 ∨ zz10_ = 43 ∨ zz10_ = 45 ∨ zz10_ = 42 ∨ zz10_ = 47 ∨ zz10_ = 40 ∨ zz10_ = 41 ∨ zz10_ = 60 ∨ zz10_ = 61 ∨ zz10_ = 62)) ∨ (zz59_ = 0 ∧ ¬ (zz10_ = 59 ∨ zz10_ = 43 ∨ zz10_ = 45 ∨ zz10_ = 42 ∨ zz10_ = 47 ∨ zz10_ = 40 ∨ zz10_ = 41 ∨ zz10_ = 60 ∨ zz10_ = 61 ∨ zz10_ = 62)) := hq59_
                clear hq59_
                rcases hh59_ with ⟨ee59_, hh59_⟩ | ⟨ee59_, hh59_⟩
                · subst ee59_
                  refine j_if_eq E 268 273 rfl (rr (by decide)) dX10_next_265 (by decide) (fun cc60_ => absurd cc60_ (by decide)) (fun _ => ?_)
                  refine j_aload_n E 269 rfl dX10_next_268 rfl (lv_at hl 1 rfl) ?_
                  refine j_iconst E 270 rfl dX10_next_269 ?_
                  refine m_put_26 E hK hw (rr (by decide)) 273 rfl dX10_next_270 (fun H locs hw => ?_)
                  have hw : WM D cy q (upN (upN (upN (upN n_0 24 (x24_c0 + 1)) 25 x24_c0) 26 4) 27 zz10_) (f_0) A0 H0 H locs := hw
                  exact L273_12  (x24_c0 + 1) 4 zz10_ H locs ls  (⟨by omega, by rw [kd_4]; exact Lt_s1 (by omega) (by unfold isLet_; omega) (by unfold isDig_; omega) (by unfold isSg_; omega) (by omega), Or.inr (Or.inr (Or.inr (Or.inr ⟨rfl, by omega⟩))), nb_⟩) hw (lv_sub hl [1] rfl)
                · subst ee59_
                  refine j_if_eq E 268 273 rfl (rr (by decide)) dX10_next_265 (by decide) (fun _ => ?_) (fun cc62_ => absurd cc62_ (by decide))
                  exact L273_12  (x24_c0 + 1) 1 zz10_ H locs ls  (⟨by omega, by rw [kd_1]; exact Lt_s0 (by omega) (by unfold isLet_; omega) (by unfold isDig_; omega) (by unfold isSg_; omega), Or.inr (Or.inl rfl), nb_⟩) hw (lv_sub hl [1] rfl)
          · refine j_aload_n E 67 rfl dX10_next_66 rfl (lv_at hl 1 rfl) ?_
            refine j_iconst E 68 rfl dX10_next_67 ?_
            refine m_put_26 E hK hw (rr (by decide)) 71 rfl dX10_next_68 (fun H locs hw => ?_)
            have hw : WM D cy q (upN (upN (upN n_0 24 x24_c0) 25 x24_c0) 26 0) (f_0) A0 H0 H locs := hw
            exact hret 71 (upN (upN (upN (upN n_0 24 x24_c0) 25 x24_c0) 26 0) 27 (n_0 27)) (upF (upF f_0 30 (f_0 30)) 31 (f_0 31)) _ _ ls hw ⟨x24_c0, x24_c0, 0, (n_0 27), (f_0 30), (f_0 31), rfl, rfl, ⟨by omega, by omega, by omega, by omega, by omega, by omega, Kf_rf, Or.inl ⟨by omega, rfl, rfl⟩, ⟨by omega, iv0.2.2, Or.inl ⟨by omega, rfl, by omega⟩⟩, Or.inl rfl⟩⟩ dX10_next_71
        · refine j_aload_n E 27 rfl dX10_next_26 rfl (lv_at hl 0 rfl) ?_
          refine j_aload_n E 28 rfl dX10_next_27 rfl (lv_at hl 0 rfl) ?_
          refine m_get_24 E hK hw x24_c0 rfl 31 rfl dX10_next_28 (fun _ => ?_)
          refine j_iconst E 32 rfl dX10_next_31 ?_
          refine j_iadd E 33 rfl dX10_next_32 ?_
          refine m_put_24 E hK hw (rr (by omega)) 36 rfl dX10_next_33 (fun H locs hw => ?_)
          have hw : WM D cy q (upN n_0 24 (x24_c0 + 1)) (f_0) A0 H0 H locs := hw
          refine j_goto E 0 dX10_next_36 (by decide) ?_
          exact ih0  (x24_c0 + 1) H locs ls  (⟨by omega, by omega, bk_st iv0.2.2 (by unfold isBl_; omega)⟩) (by omega) hw (lv_sub hl [0] rfl)
  exact L0_1 _  (n_0 24) H locs ls  (⟨by omega, by omega, bk_0⟩) (mk_lt _) hw (lv_sub hl [0] rfl)
set_option maxHeartbeats 4000000 in
set_option maxRecDepth 100000 in
theorem c_X10_fails (l : Launch) (D : va_G) (cy : Nat → ClassId) (q : Nat → Nat) (n_0 : Nat → Int) (f_0 : Nat → Int → Int) (v_k : Int) (r_v_k : inR v_k) : MC l D cy q yX10_fails cX10_fails 2 (some .int) 0 [.int (J v_k)] n_0 f_0 (PI (fun (z_0 : Int) (n_2 : Nat → Int) (f_2 : Nat → Int → Int) => ∃ (x41_2 : Int) (x42_2 : Int) , n_2 = upN (upN n_0 41 x41_2) 42 x42_2 ∧ f_2 = f_0 ∧ (z_0 = -1 ∧ (x41_2) = v_k ∧ (x42_2) = (n_0 25)))) := by
  refine MC.ofi rfl (Nat.le_of_ble_eq_true rfl) ?_
  intro p e s m below meth c ls ar QW A0 H0 H locs E hK hA hw hl hret
  have hl : lv_has ls 2 [(0, .ref (q 0)), (1, .int (J v_k))] := hl
  refine j_aload_n E 1 rfl dX10_fails_0 rfl (lv_at hl 0 rfl) ?_
  refine j_iload_n E 2 rfl dX10_fails_1 rfl (lv_at hl 1 rfl) ?_
  refine m_put_41 E hK hw r_v_k 5 rfl dX10_fails_2 (fun H locs hw => ?_)
  have hw : WM D cy q (upN n_0 41 v_k) (f_0) A0 H0 H locs := hw
  refine j_aload_n E 6 rfl dX10_fails_5 rfl (lv_at hl 0 rfl) ?_
  refine j_aload_n E 7 rfl dX10_fails_6 rfl (lv_at hl 0 rfl) ?_
  refine m_get_25 E hK hw (n_0 25) rfl 10 rfl dX10_fails_7 (fun rr2_ => ?_)
  refine m_put_42 E hK hw rr2_ 13 rfl dX10_fails_10 (fun H locs hw => ?_)
  have hw : WM D cy q (upN (upN n_0 41 v_k) 42 (n_0 25)) (f_0) A0 H0 H locs := hw
  refine j_iconst E 14 rfl dX10_fails_13 ?_
  exact hret 14 ((-1)) (upN (upN n_0 41 v_k) 42 (n_0 25)) (f_0) _ _ ls hw (rr (by decide)) ⟨v_k, (n_0 25), rfl, rfl, ⟨rfl, rfl, rfl⟩⟩ dX10_fails_14
set_option maxHeartbeats 4000000 in
set_option maxRecDepth 100000 in
theorem c_X10_emits (l : Launch) (D : va_G) (cy : Nat → ClassId) (q : Nat → Nat) (n_0 : Nat → Int) (f_0 : Nat → Int → Int) (v_what v_v : Int) (r_v_what : inR v_what) (r_v_v : inR v_v) (hp0 : 0 ≤ (n_0 29) ∧ (n_0 29) < 32) (hp1 : 0 ≤ (n_0 37) ∧ (n_0 37) ≤ 399) : MC l D cy q yX10_emits cX10_emits 3 none 0 [.int (J v_what), .int (J v_v)] n_0 f_0 (PV (fun (n_2 : Nat → Int) (f_2 : Nat → Int → Int) => ∃ (x37_2 : Int) (y32_2 : Int → Int) (y33_2 : Int → Int) , n_2 = upN n_0 37 x37_2 ∧ f_2 = upF (upF f_0 32 y32_2) 33 y33_2 ∧ ((y32_2) = upA (f_0 32) (400 * (n_0 29) + (n_0 37)) v_what ∧ (y33_2) = upA (f_0 33) (400 * (n_0 29) + (n_0 37)) v_v ∧ (x37_2) = (n_0 37) + 1))) := by
  refine MC.ofv rfl (Nat.le_of_ble_eq_true rfl) ?_
  intro p e s m below meth c ls ar QW A0 H0 H locs E hK hA hw hl hret
  have hl : lv_has ls 3 [(0, .ref (q 0)), (1, .int (J v_what)), (2, .int (J v_v))] := hl
  refine j_aload_n E 1 rfl dX10_emits_0 rfl (lv_at hl 0 rfl) ?_
  refine m_ag_32 E hK hw 4 rfl dX10_emits_1 ?_
  refine j_sipush E 7 rfl dX10_emits_4 (by decide) ?_
  refine j_aload_n E 8 rfl dX10_emits_7 rfl (lv_at hl 0 rfl) ?_
  refine m_get_29 E hK hw (n_0 29) rfl 11 rfl dX10_emits_8 (fun rr1_ => ?_)
  refine j_imul E 12 rfl dX10_emits_11 ?_
  refine j_aload_n E 13 rfl dX10_emits_12 rfl (lv_at hl 0 rfl) ?_
  refine m_get_37 E hK hw (n_0 37) rfl 16 rfl dX10_emits_13 (fun rr2_ => ?_)
  refine j_iadd E 17 rfl dX10_emits_16 ?_
  refine j_iload_n E 18 rfl dX10_emits_17 rfl (lv_at hl 1 rfl) ?_
  refine m_st_32 E hK hw (by omega) r_v_what 19 rfl dX10_emits_18 (fun H locs hw => ?_)
  have hw : WM D cy q (n_0) (upF f_0 32 (upA (f_0 32) ((400 * (n_0 29)) + (n_0 37)) v_what)) A0 H0 H locs := hw
  refine j_aload_n E 20 rfl dX10_emits_19 rfl (lv_at hl 0 rfl) ?_
  refine m_ag_33 E hK hw 23 rfl dX10_emits_20 ?_
  refine j_sipush E 26 rfl dX10_emits_23 (by decide) ?_
  refine j_aload_n E 27 rfl dX10_emits_26 rfl (lv_at hl 0 rfl) ?_
  refine m_get_29 E hK hw (n_0 29) rfl 30 rfl dX10_emits_27 (fun _ => ?_)
  refine j_imul E 31 rfl dX10_emits_30 ?_
  refine j_aload_n E 32 rfl dX10_emits_31 rfl (lv_at hl 0 rfl) ?_
  refine m_get_37 E hK hw (n_0 37) rfl 35 rfl dX10_emits_32 (fun _ => ?_)
  refine j_iadd E 36 rfl dX10_emits_35 ?_
  refine j_iload_n E 37 rfl dX10_emits_36 rfl (lv_at hl 2 rfl) ?_
  refine m_st_33 E hK hw (by omega) r_v_v 38 rfl dX10_emits_37 (fun H locs hw => ?_)
  have hw : WM D cy q (n_0) (upF (upF f_0 32 (upA (f_0 32) ((400 * (n_0 29)) + (n_0 37)) v_what)) 33 (upA (f_0 33) ((400 * (n_0 29)) + (n_0 37)) v_v)) A0 H0 H locs := hw
  refine j_aload_n E 39 rfl dX10_emits_38 rfl (lv_at hl 0 rfl) ?_
  refine j_aload_n E 40 rfl dX10_emits_39 rfl (lv_at hl 0 rfl) ?_
  refine m_get_37 E hK hw (n_0 37) rfl 43 rfl dX10_emits_40 (fun _ => ?_)
  refine j_iconst E 44 rfl dX10_emits_43 ?_
  refine j_iadd E 45 rfl dX10_emits_44 ?_
  refine m_put_37 E hK hw (rr (by omega)) 48 rfl dX10_emits_45 (fun H locs hw => ?_)
  have hw : WM D cy q (upN n_0 37 ((n_0 37) + 1)) (upF (upF f_0 32 (upA (f_0 32) ((400 * (n_0 29)) + (n_0 37)) v_what)) 33 (upA (f_0 33) ((400 * (n_0 29)) + (n_0 37)) v_v)) A0 H0 H locs := hw
  exact hret 48 (upN n_0 37 ((n_0 37) + 1)) (upF (upF f_0 32 (upA (f_0 32) ((400 * (n_0 29)) + (n_0 37)) v_what)) 33 (upA (f_0 33) ((400 * (n_0 29)) + (n_0 37)) v_v)) _ _ ls hw ⟨((n_0 37) + 1), (upA (f_0 32) ((400 * (n_0 29)) + (n_0 37)) v_what), (upA (f_0 33) ((400 * (n_0 29)) + (n_0 37)) v_v), rfl, rfl, ⟨rfl, rfl, rfl⟩⟩ dX10_emits_48
