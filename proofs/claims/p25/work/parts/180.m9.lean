
theorem Pk_cls {pe : Int → Int} {np op bk e : Int} (h : Pk_ pe np op bk e) : np = 0 ∨ pe (np - 1) = 10 ∨ pe (np - 1) = 11 ∨ pe (np - 1) = 12 ∨ pe (np - 1) = 13 := by
  by_cases e0 : np = 0
  · exact Or.inl e0
  · have hb := Pk_nn h
    rcases Pk_pop h (by omega) with q | q | q | q
    · exact Or.inr (Or.inl q.1)
    · exact Or.inr (Or.inr (Or.inr (Or.inr q.1)))
    · exact Or.inr (Or.inr (Or.inr (Or.inl q.1)))
    · exact Or.inr (Or.inr (Or.inl q.1))
theorem st_top {pe : Int → Int} {np np2 : Int} (hk : np2 = 0 ∨ pe (np2 - 1) = 10 ∨ pe (np2 - 1) = 11 ∨ pe (np2 - 1) = 12 ∨ pe (np2 - 1) = 13) (h10 : np = 0 ∨ ¬ pe (np - 1) = 10) (tr : np2 = np ∨ np2 = 0 ∨ (11 : Int) = 10 ∨ pe (np2 - 1) = 13 ∨ ((11 : Int) = 11 ∧ pe (np2 - 1) = 12)) (hn : np2 = 0 ∨ ¬ pe (np2 - 1) = 11) : np2 = 0 ∨ pe (np2 - 1) = 13 ∨ pe (np2 - 1) = 12 := by
  rcases tr with q | q | q | q | q
  · subst q; omega
  · exact Or.inl q
  · omega
  · exact Or.inr (Or.inl q)
  · exact Or.inr (Or.inr q.2)
theorem st_top2 {pe : Int → Int} {np np2 : Int} (h1 : np = 0 ∨ pe (np - 1) = 13 ∨ pe (np - 1) = 12) (tr : np2 = np ∨ np2 = 0 ∨ (12 : Int) = 10 ∨ pe (np2 - 1) = 13 ∨ ((12 : Int) = 11 ∧ pe (np2 - 1) = 12)) (hn : np2 = 0 ∨ ¬ pe (np2 - 1) = 12) : np2 = 0 ∨ pe (np2 - 1) = 13 := by
  rcases tr with q | q | q | q | q
  · subst q; omega
  · exact Or.inl q
  · omega
  · exact Or.inr q
  · omega
theorem Pk_no13 {pe : Int → Int} {np op bk e : Int} (h : Pk_ pe np op bk e) (hb : bk = 0) (ht : np = 0 ∨ pe (np - 1) = 13) : np = 0 := by
  by_cases e0 : np = 0
  · exact e0
  · have hq := Pk_nn h
    rcases Pk_pop h (by omega) with q | q | q | q <;> (exfalso; omega)
theorem Pk_pop13 {pe : Int → Int} {np op bk e : Int} (h : Pk_ pe np op bk e) (hb : ¬ bk = 0) (ht : np = 0 ∨ pe (np - 1) = 13) : 0 < np ∧ Pk_ pe (np - 1) (op - 1) (bk - 1) e := by
  by_cases e0 : np = 0
  · subst e0; exact absurd (Pk_z h).2.2 hb
  · have hq := Pk_nn h
    refine ⟨by omega, ?_⟩
    rcases Pk_pop h (by omega) with q | q | q | q
    · exfalso; omega
    · exact q.2.1
    · exfalso; omega
    · exfalso; omega
theorem Pk_gc {pe : Int → Int} {np op bk e : Int} (h : Pk_ pe np op bk e) : bk ≤ op := by
  obtain ⟨h0, c, b, g, hz, hn, hs⟩ := h
  have key : ∀ k : Nat, (k : Int) ≤ np → g k ≤ c k := by
    intro k
    induction k with
    | zero => intro _; have e : ((0 : Nat) : Int) = 0 := rfl; rw [e]; omega
    | succ k ih =>
      intro hk
      have hq := hs k (by omega) (by omega)
      unfold Pq_ at hq
      have hi := ih (by omega)
      have e : ((k + 1 : Nat) : Int) = (k : Int) + 1 := by omega
      rw [e]
      omega
  have hk := key np.toNat (by omega)
  rw [Int.toNat_of_nonneg h0] at hk
  omega
theorem Pk_eq {pe : Int → Int} {np op bk e e2 : Int} (h : Pk_ pe np op bk e) (q : e2 = e) : Pk_ pe np op bk e2 := by rw [q]; exact h

set_option maxHeartbeats 60000000 in
set_option maxRecDepth 100000 in
theorem c_X10_readAny (l : Launch) (D : va_G) (cy : Nat → ClassId) (q : Nat → Nat) (n_0 : Nat → Int) (f_0 : Nat → Int → Int) (hp0 : 0 ≤ (n_0 29) ∧ (n_0 29) < 32) (hp1 : 0 ≤ (n_0 23) ∧ (n_0 23) ≤ 400) (hp2 : Wds_ (f_0 28)) (hp3 : (0 ≤ (n_0 25) ∧ (n_0 25) ≤ (n_0 24) ∧ (n_0 24) ≤ (n_0 23)) ∧ (0 ≤ (f_0 31 ((n_0 29))) ∧ (f_0 31 ((n_0 29))) ≤ (n_0 24)) ∧ (0 ≤ (n_0 26) ∧ (n_0 26) ≤ 4) ∧ (¬ (n_0 26) = 0 → (n_0 25) < (n_0 24)) ∧ ((n_0 26) = 3 → 0 ≤ (n_0 27) ∧ (n_0 27) ≤ 9999) ∧ (0 ≤ (n_0 37) ∧ (n_0 37) ≤ (n_0 25))) (hp4 : (n_0 38) = 0) : MC l D cy q yX10_readAny cX10_readAny 4 (some .int) 7 [] n_0 f_0 (PI (fun (z_0 : Int) (n_2 : Nat → Int) (f_2 : Nat → Int → Int) => ∃ (x24_2 : Int) (x25_2 : Int) (x26_2 : Int) (x27_2 : Int) (x37_2 : Int) (x38_2 : Int) (x40_2 : Int) (x41_2 : Int) (x42_2 : Int) (y30_2 : Int → Int) (y31_2 : Int → Int) (y32_2 : Int → Int) (y33_2 : Int → Int) (y39_2 : Int → Int) , n_2 = upN (upN (upN (upN (upN (upN (upN (upN (upN n_0 24 x24_2) 25 x25_2) 26 x26_2) 27 x27_2) 37 x37_2) 38 x38_2) 40 x40_2) 41 x41_2) 42 x42_2 ∧ f_2 = upF (upF (upF (upF (upF f_0 30 y30_2) 31 y31_2) 32 y32_2) 33 y33_2) 39 y39_2 ∧ ((z_0 = -1 ∧ Fr_ (f_0 32) (f_0 33) (y32_2) (y33_2) (400 * (n_0 29) + (n_0 37)) ∧ (∀ i, i ≠ (n_0 29) → (y31_2 i) = (f_0 31 i)) ∧ (0 ≤ (y31_2 ((n_0 29))) ∧ (y31_2 ((n_0 29))) ≤ 400)) ∨ (z_0 = 0 ∧ Fr_ (f_0 32) (f_0 33) (y32_2) (y33_2) (400 * (n_0 29) + (n_0 37)) ∧ (∀ i, i ≠ (n_0 29) → (y31_2 i) = (f_0 31 i)) ∧ (0 ≤ (y31_2 ((n_0 29))) ∧ (y31_2 ((n_0 29))) ≤ 400) ∧ ((0 ≤ (x25_2) ∧ (x25_2) ≤ (x24_2) ∧ (x24_2) ≤ (n_0 23)) ∧ (0 ≤ (y31_2 ((n_0 29))) ∧ (y31_2 ((n_0 29))) ≤ (x24_2)) ∧ (0 ≤ (x26_2) ∧ (x26_2) ≤ 4) ∧ (¬ (x26_2) = 0 → (x25_2) < (x24_2)) ∧ ((x26_2) = 3 → 0 ≤ (x27_2) ∧ (x27_2) ≤ 9999) ∧ (0 ≤ (x37_2) ∧ (x37_2) ≤ (x25_2))) ∧ ((n_0 25) ≤ (x25_2) ∧ (n_0 37) ≤ (x37_2)) ∧ (x38_2) = 0 ∧ ∃ e_, Pz_ (y32_2) (y33_2) (400 * (n_0 29) + (n_0 37)) (400 * (n_0 29) + (x37_2)) e_)))) := by
  refine MC.ofi rfl (Nat.le_of_ble_eq_true rfl) ?_
  intro p e s m below meth c ls ar QW A0 H0 H locs E hK hA hw hl hret
  have hl : lv_has ls 4 [(0, .ref (q 0))] := hl
  refine j_iconst E 1 rfl dX10_readAny_0 ?_
  refine j_istore_n E 2 rfl [(1, .int (J 0)), (0, .ref (q 0))] dX10_readAny_1 rfl hl (by decide) rfl (fun ls hl => ?_)
  refine j_aload_n E 3 rfl dX10_readAny_2 rfl (lv_at hl 1 rfl) ?_
  refine j_iconst E 4 rfl dX10_readAny_3 ?_
  refine m_put_40 E hK hw (rr (by decide)) 7 rfl dX10_readAny_4 (fun H locs hw => ?_)
  have hw : WM D cy q (upN n_0 40 0) (f_0) A0 H0 H locs := hw
  refine j_iconst E 8 rfl dX10_readAny_7 ?_
  refine j_istore_n E 9 rfl [(2, .int (J 1)), (1, .int (J 0)), (0, .ref (q 0))] dX10_readAny_8 rfl hl (by decide) rfl (fun ls hl => ?_)
  have L9_2 : ∀ (k9 : Nat) (gb gd : Int) (x24_c9 : Int) (x25_c9 : Int) (x26_c9 : Int) (x27_c9 : Int) (x37_c9 : Int) (x38_c9 : Int) (x40_c9 : Int) (x41_c9 : Int) (x42_c9 : Int) (y30_c9 : Int → Int) (y31_c9 : Int → Int) (y32_c9 : Int → Int) (y33_c9 : Int → Int) (y39_c9 : Int → Int) (H : Heap) (locs : List Loc) (ls : Array Slot), inR gb → inR gd → (((0 ≤ (x25_c9) ∧ (x25_c9) ≤ (x24_c9) ∧ (x24_c9) ≤ (n_0 23)) ∧ (0 ≤ (y31_c9 ((n_0 29))) ∧ (y31_c9 ((n_0 29))) ≤ (x24_c9)) ∧ (0 ≤ (x26_c9) ∧ (x26_c9) ≤ 4) ∧ (¬ (x26_c9) = 0 → (x25_c9) < (x24_c9)) ∧ ((x26_c9) = 3 → 0 ≤ (x27_c9) ∧ (x27_c9) ≤ 9999)) ∧ (n_0 37 ≤ (x37_c9) ∧ (x37_c9) + (x40_c9) ≤ (x25_c9) ∧ n_0 25 ≤ (x25_c9) ∧ (x38_c9) ≤ 8 ∧ (gd = 0 ∨ gd = 1)) ∧ Fr_ (f_0 32) (f_0 33) (y32_c9) (y33_c9) (400 * n_0 29 + n_0 37) ∧ (∀ i, i ≠ n_0 29 → (y31_c9 i) = f_0 31 i) ∧ (gd = 0 → (x40_c9) = 0 ∨ ¬ (y39_c9 ((x40_c9) - 1)) = 10) ∧ ∃ e_, Pz_ (y32_c9) (y33_c9) (400 * n_0 29 + n_0 37) (400 * n_0 29 + (x37_c9)) e_ ∧ Pk_ (y39_c9) (x40_c9) (x38_c9) gb (e_ - 1 + gd)) → ((n_0 23) + 1 - (x25_c9)) < (k9 : Int) → WM D cy q (upN (upN (upN (upN (upN (upN (upN (upN (upN n_0 24 x24_c9) 25 x25_c9) 26 x26_c9) 27 x27_c9) 37 x37_c9) 38 x38_c9) 40 x40_c9) 41 x41_c9) 42 x42_c9) (upF (upF (upF (upF (upF f_0 30 y30_c9) 31 y31_c9) 32 y32_c9) 33 y33_c9) 39 y39_c9) A0 H0 H locs → lv_has ls 4 [(0, .ref (q 0)), (1, .int (J gb)), (2, .int (J gd))] → W p l e (rmd 7 0 0) s m ar below meth c H locs 0 0 QW (F0 m 9 ls []) := by
    intro k9
    induction k9 with
    | zero =>
      intro gb gd x24_c9 x25_c9 x26_c9 x27_c9 x37_c9 x38_c9 x40_c9 x41_c9 x42_c9 y30_c9 y31_c9 y32_c9 y33_c9 y39_c9 H locs ls r_gb r_gd iv9 ms9 hw hl
      obtain ⟨is_, ib_, if_, ik_, it_, ez_, iz_, ip_⟩ := iv9; have in_ := Pk_nn ip_; exfalso; omega
    | succ k9 ih9 =>
      intro gb gd x24_c9 x25_c9 x26_c9 x27_c9 x37_c9 x38_c9 x40_c9 x41_c9 x42_c9 y30_c9 y31_c9 y32_c9 y33_c9 y39_c9 H locs ls r_gb r_gd iv9 ms9 hw hl
      obtain ⟨is_, ib_, if_, ik_, it_, ez_, iz_, ip_⟩ := iv9
      have in_ := Pk_nn ip_
      have ig_ := Pk_gc ip_
      have hb_ := iz_.2
      have rx24_c9 : inR x24_c9 := mRn_24 hw.1.2.2.1
      have rx25_c9 : inR x25_c9 := mRn_25 hw.1.2.2.1
      have rx26_c9 : inR x26_c9 := mRn_26 hw.1.2.2.1
      have rx27_c9 : inR x27_c9 := mRn_27 hw.1.2.2.1
      have rx37_c9 : inR x37_c9 := mRn_37 hw.1.2.2.1
      have rx38_c9 : inR x38_c9 := mRn_38 hw.1.2.2.1
      have rx40_c9 : inR x40_c9 := mRn_40 hw.1.2.2.1
      have rx41_c9 : inR x41_c9 := mRn_41 hw.1.2.2.1
      have rx42_c9 : inR x42_c9 := mRn_42 hw.1.2.2.1
      refine j_iload_n E 10 rfl dX10_readAny_9 rfl (lv_at hl 2 rfl) ?_
      refine j_if_eq E 13 108 rfl r_gd dX10_readAny_10 (by decide) (fun cc4_ => ?_) (fun cc4_ => ?_)
      · refine j_aload_n E 109 rfl dX10_readAny_108 rfl (lv_at hl 0 rfl) ?_
        refine j_iconst E 110 rfl dX10_readAny_109 ?_
        refine m_callp (po := fun z_0 => (z_0 = 1 ∧ (x26_c9) = 2 ∧ (x27_c9) = (4 : Int)) ∨ (z_0 = 0 ∧ ¬ ((x26_c9) = 2 ∧ (x27_c9) = (4 : Int)))) E (c_X10_isWord l D cy q (upN (upN (upN (upN (upN (upN (upN (upN (upN n_0 24 x24_c9) 25 x25_c9) 26 x26_c9) 27 x27_c9) 37 x37_c9) 38 x38_c9) 40 x40_c9) 41 x41_c9) 42 x42_c9) (upF (upF (upF (upF (upF f_0 30 y30_c9) 31 y31_c9) 32 y32_c9) 33 y33_c9) 39 y39_c9) 4  (rr (by decide)) ) rfl mt_X10_isWord ml_X10_259 hK hw hA ⟨Nat.le_of_ble_eq_true rfl, Nat.le_of_ble_eq_true rfl⟩ (As := [.int (J 4)]) (rest := []) rfl rfl hl.1 (Nat.le_of_ble_eq_true rfl) 113 rfl dX10_readAny_110 (fun zz5_ H locs rr5_ hq5_ hw => ?_)
        have hh5_ : (zz5_ = 1 ∧ (x26_c9) = 2 ∧ (x27_c9) = (4 : Int)) ∨ (zz5_ = 0 ∧ ¬ ((x26_c9) = 2 ∧ (x27_c9) = (4 : Int))) := hq5_
        clear hq5_
        rcases hh5_ with ⟨ee5_, hh5_⟩ | ⟨ee5_, hh5_⟩
        · subst ee5_
          refine j_if_eq E 116 137 rfl (rr (by decide)) dX10_readAny_113 (by decide) (fun cc6_ => absurd cc6_ (by decide)) (fun _ => ?_)
          refine j_aload_n E 117 rfl dX10_readAny_116 rfl (lv_at hl 0 rfl) ?_
          refine j_bipush E 119 rfl dX10_readAny_117 (by decide) ?_
          refine m_callv E (c_X10_settles l D cy q (upN (upN (upN (upN (upN (upN (upN (upN (upN n_0 24 x24_c9) 25 x25_c9) 26 x26_c9) 27 x27_c9) 37 x37_c9) 38 x38_c9) 40 x40_c9) 41 x41_c9) 42 x42_c9) (upF (upF (upF (upF (upF f_0 30 y30_c9) 31 y31_c9) 32 y32_c9) 33 y33_c9) 39 y39_c9) 11 (n_0 37) ez_ gb (rr (by decide)) (show 0 ≤ (n_0 29) ∧ (n_0 29) < 32 from by omega) (show ((11 : Int) : Int) = 10 ∨ ((11 : Int) : Int) = 11 ∨ ((11 : Int) : Int) = 12 from by omega) (show 0 ≤ (n_0 37) ∧ (n_0 37) ≤ (x37_c9) ∧ (x37_c9) + (x40_c9) ≤ 400 ∧ (x38_c9) ≤ 8 from by omega) (show Pz_ (y32_c9) (y33_c9) (400 * (n_0 29) + (n_0 37)) (400 * (n_0 29) + (x37_c9)) ez_ from iz_) (show Pk_ (y39_c9) (x40_c9) (x38_c9) gb (ez_ - 1) from Pk_eq ip_ (by omega))) rfl mt_X10_settles ml_X10_297 hK hw hA ⟨Nat.le_of_ble_eq_true rfl, Nat.le_of_ble_eq_true rfl⟩ (As := [.int (J 11)]) (rest := []) rfl rfl hl.1 (Nat.le_of_ble_eq_true rfl) 122 rfl dX10_readAny_119 (fun n_7 f_7 H locs hq7_ hw => ?_)
          obtain ⟨x40_7, x37_7, x38_7, y32_7, y33_7, en7_, ef7_, hq7_⟩ := hq7_
          rw [en7_, ef7_] at hw; clear en7_ ef7_
          have hw : WM D cy q (upN (upN (upN (upN (upN (upN (upN (upN (upN n_0 24 x24_c9) 25 x25_c9) 26 x26_c9) 27 x27_c9) 37 x37_7) 38 x38_7) 40 x40_7) 41 x41_c9) 42 x42_c9) (upF (upF (upF (upF (upF f_0 30 y30_c9) 31 y31_c9) 32 y32_7) 33 y33_7) 39 y39_c9) A0 H0 H locs := hw
          have rx40_7 : inR x40_7 := mRn_40 hw.1.2.2.1
          have rx37_7 : inR x37_7 := mRn_37 hw.1.2.2.1
          have rx38_7 : inR x38_7 := mRn_38 hw.1.2.2.1
          have hh7_ : Fr_ (y32_c9) (y33_c9) (y32_7) (y33_7) (400 * (n_0 29) + (x37_c9)) ∧ ((x37_7) + (x40_7) = (x37_c9) + (x40_c9) ∧ 0 ≤ (x40_7) ∧ (x40_7) ≤ (x40_c9) ∧ (x38_7) ≤ (x38_c9) ∧ (x37_c9) ≤ (x37_7)) ∧ ((x40_7) = (x40_c9) ∨ (x40_7) = 0 ∨ ((11 : Int) : Int) = 10 ∨ (y39_c9 ((x40_7) - 1)) = 13 ∨ (((11 : Int) : Int) = 11 ∧ (y39_c9 ((x40_7) - 1)) = 12)) ∧ ((x40_7) = 0 ∨ ¬ (y39_c9 ((x40_7) - 1)) = (11 : Int)) ∧ (∃ e_, Pz_ (y32_7) (y33_7) (400 * (n_0 29) + (n_0 37)) (400 * (n_0 29) + (x37_7)) e_ ∧ Pk_ (y39_c9) (x40_7) (x38_7) gb (e_ - 1)) := hq7_
          clear hq7_
          obtain ⟨fr3_, ar3_, tp3_, nt3_, e3_, z3_, p3_⟩ := hh7_
          have nn3_ := Pk_nn p3_
          have bb3_ := z3_.2
          have c3_ := st_top (Pk_cls p3_) (it_ (by omega)) tp3_ nt3_
          clear tp3_ nt3_
          refine j_aload_n E 123 rfl dX10_readAny_122 rfl (lv_at hl 0 rfl) ?_
          refine j_bipush E 125 rfl dX10_readAny_123 (by decide) ?_
          refine m_callv E (c_X10_waits l D cy q (upN (upN (upN (upN (upN (upN (upN (upN (upN n_0 24 x24_c9) 25 x25_c9) 26 x26_c9) 27 x27_c9) 37 x37_7) 38 x38_7) 40 x40_7) 41 x41_c9) 42 x42_c9) (upF (upF (upF (upF (upF f_0 30 y30_c9) 31 y31_c9) 32 y32_7) 33 y33_7) 39 y39_c9) 11  (rr (by decide)) (show 0 ≤ (x40_7) ∧ (x40_7) < 40 from by omega)) rfl mt_X10_waits ml_X10_291 hK hw hA ⟨Nat.le_of_ble_eq_true rfl, Nat.le_of_ble_eq_true rfl⟩ (As := [.int (J 11)]) (rest := []) rfl rfl hl.1 (Nat.le_of_ble_eq_true rfl) 128 rfl dX10_readAny_125 (fun n_8 f_8 H locs hq8_ hw => ?_)
          obtain ⟨x40_8, y39_8, en8_, ef8_, hq8_⟩ := hq8_
          rw [en8_, ef8_] at hw; clear en8_ ef8_
          have hw : WM D cy q (upN (upN (upN (upN (upN (upN (upN (upN (upN n_0 24 x24_c9) 25 x25_c9) 26 x26_c9) 27 x27_c9) 37 x37_7) 38 x38_7) 40 x40_8) 41 x41_c9) 42 x42_c9) (upF (upF (upF (upF (upF f_0 30 y30_c9) 31 y31_c9) 32 y32_7) 33 y33_7) 39 y39_8) A0 H0 H locs := hw
          have rx40_8 : inR x40_8 := mRn_40 hw.1.2.2.1
          have hh8_ : (y39_8) = upA (y39_c9) (x40_7) (11 : Int) ∧ (x40_8) = (x40_7) + 1 := hq8_
          clear hq8_
          have hw_ := hh8_
          refine j_aload_n E 129 rfl dX10_readAny_128 rfl (lv_at hl 0 rfl) ?_
          refine m_callv E (c_X10_next l D cy q (upN (upN (upN (upN (upN (upN (upN (upN (upN n_0 24 x24_c9) 25 x25_c9) 26 x26_c9) 27 x27_c9) 37 x37_7) 38 x38_7) 40 x40_8) 41 x41_c9) 42 x42_c9) (upF (upF (upF (upF (upF f_0 30 y30_c9) 31 y31_c9) 32 y32_7) 33 y33_7) 39 y39_8)    (show 0 ≤ (n_0 29) ∧ (n_0 29) < 32 from by omega) (show 0 ≤ (n_0 23) ∧ (n_0 23) ≤ 400 from by omega) (show Wds_ (f_0 28) from hp2) (show 0 ≤ (x24_c9) ∧ (x24_c9) ≤ (n_0 23) from by omega) (show 0 ≤ (y31_c9 ((n_0 29))) ∧ (y31_c9 ((n_0 29))) ≤ (x24_c9) from by omega)) rfl mt_X10_next ml_X10_269 hK hw hA ⟨Nat.le_of_ble_eq_true rfl, Nat.le_of_ble_eq_true rfl⟩ (As := []) (rest := []) rfl rfl hl.1 (Nat.le_of_ble_eq_true rfl) 132 rfl dX10_readAny_129 (fun n_9 f_9 H locs hq9_ hw => ?_)
          obtain ⟨x24_9, x25_9, x26_9, x27_9, y30_9, y31_9, en9_, ef9_, hq9_⟩ := hq9_
          rw [en9_, ef9_] at hw; clear en9_ ef9_
          have hw : WM D cy q (upN (upN (upN (upN (upN (upN (upN (upN (upN n_0 24 x24_9) 25 x25_9) 26 x26_9) 27 x27_9) 37 x37_7) 38 x38_7) 40 x40_8) 41 x41_c9) 42 x42_c9) (upF (upF (upF (upF (upF f_0 30 y30_9) 31 y31_9) 32 y32_7) 33 y33_7) 39 y39_8) A0 H0 H locs := hw
          have rx24_9 : inR x24_9 := mRn_24 hw.1.2.2.1
          have rx25_9 : inR x25_9 := mRn_25 hw.1.2.2.1
          have rx26_9 : inR x26_9 := mRn_26 hw.1.2.2.1
          have rx27_9 : inR x27_9 := mRn_27 hw.1.2.2.1
          have hh9_ : (0 ≤ (x25_9) ∧ (x25_9) ≤ (x24_9) ∧ (x24_9) ≤ (n_0 23)) ∧ (0 ≤ (y31_9 ((n_0 29))) ∧ (y31_9 ((n_0 29))) ≤ (x24_9)) ∧ (0 ≤ (x26_9) ∧ (x26_9) ≤ 4) ∧ (¬ (x26_9) = 0 → (x25_9) < (x24_9)) ∧ ((x26_9) = 3 → 0 ≤ (x27_9) ∧ (x27_9) ≤ 9999) ∧ (x24_c9) ≤ (x25_9) ∧ (∀ i, i ≠ (n_0 29) → (y31_9 i) = (y31_c9 i)) := hq9_
          clear hq9_
          have hk_ := hh9_.2.2.2.2.2.2
          refine j_iconst E 133 rfl dX10_readAny_132 ?_
          refine j_istore_n E 134 rfl [(2, .int (J 1)), (0, .ref (q 0)), (1, .int (J gb))] dX10_readAny_133 rfl hl (by decide) rfl (fun ls hl => ?_)
          refine j_goto E 9 dX10_readAny_134 (by decide) ?_
          exact ih9 gb 1 x24_9 x25_9 x26_9 x27_9 x37_7 x38_7 x40_8 x41_c9 x42_c9 y30_9 y31_9 y32_7 y33_7 y39_8 H locs ls r_gb (rr (by decide)) (⟨by omega, by omega, Fr_tr if_ fr3_ (by omega), tk_tr ik_ hk_, fun h_ => absurd h_ (by omega), e3_, z3_, by rw [hw_.1, hw_.2]; exact Pk_push p3_ (by omega)⟩) (by omega) hw (lv_sub hl [1, 2, 0] rfl)
        · subst ee5_
          refine j_if_eq E 116 137 rfl (rr (by decide)) dX10_readAny_113 (by decide) (fun _ => ?_) (fun cc10_ => absurd cc10_ (by decide))
          refine j_aload_n E 138 rfl dX10_readAny_137 rfl (lv_at hl 0 rfl) ?_
          refine j_iconst E 139 rfl dX10_readAny_138 ?_
          refine m_callp (po := fun z_0 => (z_0 = 1 ∧ (x26_c9) = 2 ∧ (x27_c9) = (3 : Int)) ∨ (z_0 = 0 ∧ ¬ ((x26_c9) = 2 ∧ (x27_c9) = (3 : Int)))) E (c_X10_isWord l D cy q (upN (upN (upN (upN (upN (upN (upN (upN (upN n_0 24 x24_c9) 25 x25_c9) 26 x26_c9) 27 x27_c9) 37 x37_c9) 38 x38_c9) 40 x40_c9) 41 x41_c9) 42 x42_c9) (upF (upF (upF (upF (upF f_0 30 y30_c9) 31 y31_c9) 32 y32_c9) 33 y33_c9) 39 y39_c9) 3  (rr (by decide)) ) rfl mt_X10_isWord ml_X10_259 hK hw hA ⟨Nat.le_of_ble_eq_true rfl, Nat.le_of_ble_eq_true rfl⟩ (As := [.int (J 3)]) (rest := []) rfl rfl hl.1 (Nat.le_of_ble_eq_true rfl) 142 rfl dX10_readAny_139 (fun zz11_ H locs rr11_ hq11_ hw => ?_)
          have hh11_ : (zz11_ = 1 ∧ (x26_c9) = 2 ∧ (x27_c9) = (3 : Int)) ∨ (zz11_ = 0 ∧ ¬ ((x26_c9) = 2 ∧ (x27_c9) = (3 : Int))) := hq11_
          clear hq11_
          rcases hh11_ with ⟨ee11_, hh11_⟩ | ⟨ee11_, hh11_⟩
          · subst ee11_
            refine j_if_eq E 145 172 rfl (rr (by decide)) dX10_readAny_142 (by decide) (fun cc12_ => absurd cc12_ (by decide)) (fun _ => ?_)
            refine j_aload_n E 146 rfl dX10_readAny_145 rfl (lv_at hl 0 rfl) ?_
            refine j_bipush E 148 rfl dX10_readAny_146 (by decide) ?_
            refine m_callv E (c_X10_settles l D cy q (upN (upN (upN (upN (upN (upN (upN (upN (upN n_0 24 x24_c9) 25 x25_c9) 26 x26_c9) 27 x27_c9) 37 x37_c9) 38 x38_c9) 40 x40_c9) 41 x41_c9) 42 x42_c9) (upF (upF (upF (upF (upF f_0 30 y30_c9) 31 y31_c9) 32 y32_c9) 33 y33_c9) 39 y39_c9) 11 (n_0 37) ez_ gb (rr (by decide)) (show 0 ≤ (n_0 29) ∧ (n_0 29) < 32 from by omega) (show ((11 : Int) : Int) = 10 ∨ ((11 : Int) : Int) = 11 ∨ ((11 : Int) : Int) = 12 from by omega) (show 0 ≤ (n_0 37) ∧ (n_0 37) ≤ (x37_c9) ∧ (x37_c9) + (x40_c9) ≤ 400 ∧ (x38_c9) ≤ 8 from by omega) (show Pz_ (y32_c9) (y33_c9) (400 * (n_0 29) + (n_0 37)) (400 * (n_0 29) + (x37_c9)) ez_ from iz_) (show Pk_ (y39_c9) (x40_c9) (x38_c9) gb (ez_ - 1) from Pk_eq ip_ (by omega))) rfl mt_X10_settles ml_X10_297 hK hw hA ⟨Nat.le_of_ble_eq_true rfl, Nat.le_of_ble_eq_true rfl⟩ (As := [.int (J 11)]) (rest := []) rfl rfl hl.1 (Nat.le_of_ble_eq_true rfl) 151 rfl dX10_readAny_148 (fun n_13 f_13 H locs hq13_ hw => ?_)
            obtain ⟨x40_13, x37_13, x38_13, y32_13, y33_13, en13_, ef13_, hq13_⟩ := hq13_
            rw [en13_, ef13_] at hw; clear en13_ ef13_
            have hw : WM D cy q (upN (upN (upN (upN (upN (upN (upN (upN (upN n_0 24 x24_c9) 25 x25_c9) 26 x26_c9) 27 x27_c9) 37 x37_13) 38 x38_13) 40 x40_13) 41 x41_c9) 42 x42_c9) (upF (upF (upF (upF (upF f_0 30 y30_c9) 31 y31_c9) 32 y32_13) 33 y33_13) 39 y39_c9) A0 H0 H locs := hw
            have rx40_13 : inR x40_13 := mRn_40 hw.1.2.2.1
            have rx37_13 : inR x37_13 := mRn_37 hw.1.2.2.1
            have rx38_13 : inR x38_13 := mRn_38 hw.1.2.2.1
            have hh13_ : Fr_ (y32_c9) (y33_c9) (y32_13) (y33_13) (400 * (n_0 29) + (x37_c9)) ∧ ((x37_13) + (x40_13) = (x37_c9) + (x40_c9) ∧ 0 ≤ (x40_13) ∧ (x40_13) ≤ (x40_c9) ∧ (x38_13) ≤ (x38_c9) ∧ (x37_c9) ≤ (x37_13)) ∧ ((x40_13) = (x40_c9) ∨ (x40_13) = 0 ∨ ((11 : Int) : Int) = 10 ∨ (y39_c9 ((x40_13) - 1)) = 13 ∨ (((11 : Int) : Int) = 11 ∧ (y39_c9 ((x40_13) - 1)) = 12)) ∧ ((x40_13) = 0 ∨ ¬ (y39_c9 ((x40_13) - 1)) = (11 : Int)) ∧ (∃ e_, Pz_ (y32_13) (y33_13) (400 * (n_0 29) + (n_0 37)) (400 * (n_0 29) + (x37_13)) e_ ∧ Pk_ (y39_c9) (x40_13) (x38_13) gb (e_ - 1)) := hq13_
            clear hq13_
            obtain ⟨fr3_, ar3_, tp3_, nt3_, e3_, z3_, p3_⟩ := hh13_
            have nn3_ := Pk_nn p3_
            have bb3_ := z3_.2
            have c3_ := st_top (Pk_cls p3_) (it_ (by omega)) tp3_ nt3_
            clear tp3_ nt3_
            refine j_aload_n E 152 rfl dX10_readAny_151 rfl (lv_at hl 0 rfl) ?_
            refine j_bipush E 154 rfl dX10_readAny_152 (by decide) ?_
            refine m_callv E (c_X10_settles l D cy q (upN (upN (upN (upN (upN (upN (upN (upN (upN n_0 24 x24_c9) 25 x25_c9) 26 x26_c9) 27 x27_c9) 37 x37_13) 38 x38_13) 40 x40_13) 41 x41_c9) 42 x42_c9) (upF (upF (upF (upF (upF f_0 30 y30_c9) 31 y31_c9) 32 y32_13) 33 y33_13) 39 y39_c9) 12 (n_0 37) e3_ gb (rr (by decide)) (show 0 ≤ (n_0 29) ∧ (n_0 29) < 32 from by omega) (show ((12 : Int) : Int) = 10 ∨ ((12 : Int) : Int) = 11 ∨ ((12 : Int) : Int) = 12 from by omega) (show 0 ≤ (n_0 37) ∧ (n_0 37) ≤ (x37_13) ∧ (x37_13) + (x40_13) ≤ 400 ∧ (x38_13) ≤ 8 from by omega) (show Pz_ (y32_13) (y33_13) (400 * (n_0 29) + (n_0 37)) (400 * (n_0 29) + (x37_13)) e3_ from z3_) (show Pk_ (y39_c9) (x40_13) (x38_13) gb (e3_ - 1) from p3_)) rfl mt_X10_settles ml_X10_297 hK hw hA ⟨Nat.le_of_ble_eq_true rfl, Nat.le_of_ble_eq_true rfl⟩ (As := [.int (J 12)]) (rest := []) rfl rfl hl.1 (Nat.le_of_ble_eq_true rfl) 157 rfl dX10_readAny_154 (fun n_14 f_14 H locs hq14_ hw => ?_)
            obtain ⟨x40_14, x37_14, x38_14, y32_14, y33_14, en14_, ef14_, hq14_⟩ := hq14_
            rw [en14_, ef14_] at hw; clear en14_ ef14_
            have hw : WM D cy q (upN (upN (upN (upN (upN (upN (upN (upN (upN n_0 24 x24_c9) 25 x25_c9) 26 x26_c9) 27 x27_c9) 37 x37_14) 38 x38_14) 40 x40_14) 41 x41_c9) 42 x42_c9) (upF (upF (upF (upF (upF f_0 30 y30_c9) 31 y31_c9) 32 y32_14) 33 y33_14) 39 y39_c9) A0 H0 H locs := hw
            have rx40_14 : inR x40_14 := mRn_40 hw.1.2.2.1
            have rx37_14 : inR x37_14 := mRn_37 hw.1.2.2.1
            have rx38_14 : inR x38_14 := mRn_38 hw.1.2.2.1
            have hh14_ : Fr_ (y32_13) (y33_13) (y32_14) (y33_14) (400 * (n_0 29) + (x37_13)) ∧ ((x37_14) + (x40_14) = (x37_13) + (x40_13) ∧ 0 ≤ (x40_14) ∧ (x40_14) ≤ (x40_13) ∧ (x38_14) ≤ (x38_13) ∧ (x37_13) ≤ (x37_14)) ∧ ((x40_14) = (x40_13) ∨ (x40_14) = 0 ∨ ((12 : Int) : Int) = 10 ∨ (y39_c9 ((x40_14) - 1)) = 13 ∨ (((12 : Int) : Int) = 11 ∧ (y39_c9 ((x40_14) - 1)) = 12)) ∧ ((x40_14) = 0 ∨ ¬ (y39_c9 ((x40_14) - 1)) = (12 : Int)) ∧ (∃ e_, Pz_ (y32_14) (y33_14) (400 * (n_0 29) + (n_0 37)) (400 * (n_0 29) + (x37_14)) e_ ∧ Pk_ (y39_c9) (x40_14) (x38_14) gb (e_ - 1)) := hq14_
            clear hq14_
            obtain ⟨fr4_, ar4_, tp4_, nt4_, e4_, z4_, p4_⟩ := hh14_
            have nn4_ := Pk_nn p4_
            have bb4_ := z4_.2
            have c4_ := st_top2 c3_ tp4_ nt4_
            clear c3_
            clear tp4_ nt4_
            refine j_aload_n E 158 rfl dX10_readAny_157 rfl (lv_at hl 0 rfl) ?_
            refine j_bipush E 160 rfl dX10_readAny_158 (by decide) ?_
            refine m_callv E (c_X10_waits l D cy q (upN (upN (upN (upN (upN (upN (upN (upN (upN n_0 24 x24_c9) 25 x25_c9) 26 x26_c9) 27 x27_c9) 37 x37_14) 38 x38_14) 40 x40_14) 41 x41_c9) 42 x42_c9) (upF (upF (upF (upF (upF f_0 30 y30_c9) 31 y31_c9) 32 y32_14) 33 y33_14) 39 y39_c9) 12  (rr (by decide)) (show 0 ≤ (x40_14) ∧ (x40_14) < 40 from by omega)) rfl mt_X10_waits ml_X10_291 hK hw hA ⟨Nat.le_of_ble_eq_true rfl, Nat.le_of_ble_eq_true rfl⟩ (As := [.int (J 12)]) (rest := []) rfl rfl hl.1 (Nat.le_of_ble_eq_true rfl) 163 rfl dX10_readAny_160 (fun n_15 f_15 H locs hq15_ hw => ?_)
            obtain ⟨x40_15, y39_15, en15_, ef15_, hq15_⟩ := hq15_
            rw [en15_, ef15_] at hw; clear en15_ ef15_
            have hw : WM D cy q (upN (upN (upN (upN (upN (upN (upN (upN (upN n_0 24 x24_c9) 25 x25_c9) 26 x26_c9) 27 x27_c9) 37 x37_14) 38 x38_14) 40 x40_15) 41 x41_c9) 42 x42_c9) (upF (upF (upF (upF (upF f_0 30 y30_c9) 31 y31_c9) 32 y32_14) 33 y33_14) 39 y39_15) A0 H0 H locs := hw
            have rx40_15 : inR x40_15 := mRn_40 hw.1.2.2.1
            have hh15_ : (y39_15) = upA (y39_c9) (x40_14) (12 : Int) ∧ (x40_15) = (x40_14) + 1 := hq15_
            clear hq15_
            have hw_ := hh15_
            refine j_aload_n E 164 rfl dX10_readAny_163 rfl (lv_at hl 0 rfl) ?_
            refine m_callv E (c_X10_next l D cy q (upN (upN (upN (upN (upN (upN (upN (upN (upN n_0 24 x24_c9) 25 x25_c9) 26 x26_c9) 27 x27_c9) 37 x37_14) 38 x38_14) 40 x40_15) 41 x41_c9) 42 x42_c9) (upF (upF (upF (upF (upF f_0 30 y30_c9) 31 y31_c9) 32 y32_14) 33 y33_14) 39 y39_15)    (show 0 ≤ (n_0 29) ∧ (n_0 29) < 32 from by omega) (show 0 ≤ (n_0 23) ∧ (n_0 23) ≤ 400 from by omega) (show Wds_ (f_0 28) from hp2) (show 0 ≤ (x24_c9) ∧ (x24_c9) ≤ (n_0 23) from by omega) (show 0 ≤ (y31_c9 ((n_0 29))) ∧ (y31_c9 ((n_0 29))) ≤ (x24_c9) from by omega)) rfl mt_X10_next ml_X10_269 hK hw hA ⟨Nat.le_of_ble_eq_true rfl, Nat.le_of_ble_eq_true rfl⟩ (As := []) (rest := []) rfl rfl hl.1 (Nat.le_of_ble_eq_true rfl) 167 rfl dX10_readAny_164 (fun n_16 f_16 H locs hq16_ hw => ?_)
            obtain ⟨x24_16, x25_16, x26_16, x27_16, y30_16, y31_16, en16_, ef16_, hq16_⟩ := hq16_
            rw [en16_, ef16_] at hw; clear en16_ ef16_
            have hw : WM D cy q (upN (upN (upN (upN (upN (upN (upN (upN (upN n_0 24 x24_16) 25 x25_16) 26 x26_16) 27 x27_16) 37 x37_14) 38 x38_14) 40 x40_15) 41 x41_c9) 42 x42_c9) (upF (upF (upF (upF (upF f_0 30 y30_16) 31 y31_16) 32 y32_14) 33 y33_14) 39 y39_15) A0 H0 H locs := hw
            have rx24_16 : inR x24_16 := mRn_24 hw.1.2.2.1
            have rx25_16 : inR x25_16 := mRn_25 hw.1.2.2.1
            have rx26_16 : inR x26_16 := mRn_26 hw.1.2.2.1
            have rx27_16 : inR x27_16 := mRn_27 hw.1.2.2.1
            have hh16_ : (0 ≤ (x25_16) ∧ (x25_16) ≤ (x24_16) ∧ (x24_16) ≤ (n_0 23)) ∧ (0 ≤ (y31_16 ((n_0 29))) ∧ (y31_16 ((n_0 29))) ≤ (x24_16)) ∧ (0 ≤ (x26_16) ∧ (x26_16) ≤ 4) ∧ (¬ (x26_16) = 0 → (x25_16) < (x24_16)) ∧ ((x26_16) = 3 → 0 ≤ (x27_16) ∧ (x27_16) ≤ 9999) ∧ (x24_c9) ≤ (x25_16) ∧ (∀ i, i ≠ (n_0 29) → (y31_16 i) = (y31_c9 i)) := hq16_
            clear hq16_
            have hk_ := hh16_.2.2.2.2.2.2
            refine j_iconst E 168 rfl dX10_readAny_167 ?_
            refine j_istore_n E 169 rfl [(2, .int (J 1)), (0, .ref (q 0)), (1, .int (J gb))] dX10_readAny_168 rfl hl (by decide) rfl (fun ls hl => ?_)
            refine j_goto E 9 dX10_readAny_169 (by decide) ?_
            exact ih9 gb 1 x24_16 x25_16 x26_16 x27_16 x37_14 x38_14 x40_15 x41_c9 x42_c9 y30_16 y31_16 y32_14 y33_14 y39_15 H locs ls r_gb (rr (by decide)) (⟨by omega, by omega, Fr_tr (Fr_tr if_ fr3_ (by omega)) fr4_ (by omega), tk_tr ik_ hk_, fun h_ => absurd h_ (by omega), e4_, z4_, by rw [hw_.1, hw_.2]; exact Pk_push p4_ (by omega)⟩) (by omega) hw (lv_sub hl [1, 2, 0] rfl)
          · subst ee11_
            refine j_if_eq E 145 172 rfl (rr (by decide)) dX10_readAny_142 (by decide) (fun _ => ?_) (fun cc17_ => absurd cc17_ (by decide))
            refine j_aload_n E 173 rfl dX10_readAny_172 rfl (lv_at hl 0 rfl) ?_
            refine j_bipush E 175 rfl dX10_readAny_173 (by decide) ?_
            refine m_callv E (c_X10_settles l D cy q (upN (upN (upN (upN (upN (upN (upN (upN (upN n_0 24 x24_c9) 25 x25_c9) 26 x26_c9) 27 x27_c9) 37 x37_c9) 38 x38_c9) 40 x40_c9) 41 x41_c9) 42 x42_c9) (upF (upF (upF (upF (upF f_0 30 y30_c9) 31 y31_c9) 32 y32_c9) 33 y33_c9) 39 y39_c9) 11 (n_0 37) ez_ gb (rr (by decide)) (show 0 ≤ (n_0 29) ∧ (n_0 29) < 32 from by omega) (show ((11 : Int) : Int) = 10 ∨ ((11 : Int) : Int) = 11 ∨ ((11 : Int) : Int) = 12 from by omega) (show 0 ≤ (n_0 37) ∧ (n_0 37) ≤ (x37_c9) ∧ (x37_c9) + (x40_c9) ≤ 400 ∧ (x38_c9) ≤ 8 from by omega) (show Pz_ (y32_c9) (y33_c9) (400 * (n_0 29) + (n_0 37)) (400 * (n_0 29) + (x37_c9)) ez_ from iz_) (show Pk_ (y39_c9) (x40_c9) (x38_c9) gb (ez_ - 1) from Pk_eq ip_ (by omega))) rfl mt_X10_settles ml_X10_297 hK hw hA ⟨Nat.le_of_ble_eq_true rfl, Nat.le_of_ble_eq_true rfl⟩ (As := [.int (J 11)]) (rest := []) rfl rfl hl.1 (Nat.le_of_ble_eq_true rfl) 178 rfl dX10_readAny_175 (fun n_18 f_18 H locs hq18_ hw => ?_)
            obtain ⟨x40_18, x37_18, x38_18, y32_18, y33_18, en18_, ef18_, hq18_⟩ := hq18_
            rw [en18_, ef18_] at hw; clear en18_ ef18_
            have hw : WM D cy q (upN (upN (upN (upN (upN (upN (upN (upN (upN n_0 24 x24_c9) 25 x25_c9) 26 x26_c9) 27 x27_c9) 37 x37_18) 38 x38_18) 40 x40_18) 41 x41_c9) 42 x42_c9) (upF (upF (upF (upF (upF f_0 30 y30_c9) 31 y31_c9) 32 y32_18) 33 y33_18) 39 y39_c9) A0 H0 H locs := hw
            have rx40_18 : inR x40_18 := mRn_40 hw.1.2.2.1
            have rx37_18 : inR x37_18 := mRn_37 hw.1.2.2.1
            have rx38_18 : inR x38_18 := mRn_38 hw.1.2.2.1
            have hh18_ : Fr_ (y32_c9) (y33_c9) (y32_18) (y33_18) (400 * (n_0 29) + (x37_c9)) ∧ ((x37_18) + (x40_18) = (x37_c9) + (x40_c9) ∧ 0 ≤ (x40_18) ∧ (x40_18) ≤ (x40_c9) ∧ (x38_18) ≤ (x38_c9) ∧ (x37_c9) ≤ (x37_18)) ∧ ((x40_18) = (x40_c9) ∨ (x40_18) = 0 ∨ ((11 : Int) : Int) = 10 ∨ (y39_c9 ((x40_18) - 1)) = 13 ∨ (((11 : Int) : Int) = 11 ∧ (y39_c9 ((x40_18) - 1)) = 12)) ∧ ((x40_18) = 0 ∨ ¬ (y39_c9 ((x40_18) - 1)) = (11 : Int)) ∧ (∃ e_, Pz_ (y32_18) (y33_18) (400 * (n_0 29) + (n_0 37)) (400 * (n_0 29) + (x37_18)) e_ ∧ Pk_ (y39_c9) (x40_18) (x38_18) gb (e_ - 1)) := hq18_
            clear hq18_
            obtain ⟨fr3_, ar3_, tp3_, nt3_, e3_, z3_, p3_⟩ := hh18_
            have nn3_ := Pk_nn p3_
            have bb3_ := z3_.2
            have c3_ := st_top (Pk_cls p3_) (it_ (by omega)) tp3_ nt3_
            clear tp3_ nt3_
            refine j_aload_n E 179 rfl dX10_readAny_178 rfl (lv_at hl 0 rfl) ?_
            refine j_bipush E 181 rfl dX10_readAny_179 (by decide) ?_
            refine m_callv E (c_X10_settles l D cy q (upN (upN (upN (upN (upN (upN (upN (upN (upN n_0 24 x24_c9) 25 x25_c9) 26 x26_c9) 27 x27_c9) 37 x37_18) 38 x38_18) 40 x40_18) 41 x41_c9) 42 x42_c9) (upF (upF (upF (upF (upF f_0 30 y30_c9) 31 y31_c9) 32 y32_18) 33 y33_18) 39 y39_c9) 12 (n_0 37) e3_ gb (rr (by decide)) (show 0 ≤ (n_0 29) ∧ (n_0 29) < 32 from by omega) (show ((12 : Int) : Int) = 10 ∨ ((12 : Int) : Int) = 11 ∨ ((12 : Int) : Int) = 12 from by omega) (show 0 ≤ (n_0 37) ∧ (n_0 37) ≤ (x37_18) ∧ (x37_18) + (x40_18) ≤ 400 ∧ (x38_18) ≤ 8 from by omega) (show Pz_ (y32_18) (y33_18) (400 * (n_0 29) + (n_0 37)) (400 * (n_0 29) + (x37_18)) e3_ from z3_) (show Pk_ (y39_c9) (x40_18) (x38_18) gb (e3_ - 1) from p3_)) rfl mt_X10_settles ml_X10_297 hK hw hA ⟨Nat.le_of_ble_eq_true rfl, Nat.le_of_ble_eq_true rfl⟩ (As := [.int (J 12)]) (rest := []) rfl rfl hl.1 (Nat.le_of_ble_eq_true rfl) 184 rfl dX10_readAny_181 (fun n_19 f_19 H locs hq19_ hw => ?_)
            obtain ⟨x40_19, x37_19, x38_19, y32_19, y33_19, en19_, ef19_, hq19_⟩ := hq19_
            rw [en19_, ef19_] at hw; clear en19_ ef19_
            have hw : WM D cy q (upN (upN (upN (upN (upN (upN (upN (upN (upN n_0 24 x24_c9) 25 x25_c9) 26 x26_c9) 27 x27_c9) 37 x37_19) 38 x38_19) 40 x40_19) 41 x41_c9) 42 x42_c9) (upF (upF (upF (upF (upF f_0 30 y30_c9) 31 y31_c9) 32 y32_19) 33 y33_19) 39 y39_c9) A0 H0 H locs := hw
            have rx40_19 : inR x40_19 := mRn_40 hw.1.2.2.1
            have rx37_19 : inR x37_19 := mRn_37 hw.1.2.2.1
            have rx38_19 : inR x38_19 := mRn_38 hw.1.2.2.1
            have hh19_ : Fr_ (y32_18) (y33_18) (y32_19) (y33_19) (400 * (n_0 29) + (x37_18)) ∧ ((x37_19) + (x40_19) = (x37_18) + (x40_18) ∧ 0 ≤ (x40_19) ∧ (x40_19) ≤ (x40_18) ∧ (x38_19) ≤ (x38_18) ∧ (x37_18) ≤ (x37_19)) ∧ ((x40_19) = (x40_18) ∨ (x40_19) = 0 ∨ ((12 : Int) : Int) = 10 ∨ (y39_c9 ((x40_19) - 1)) = 13 ∨ (((12 : Int) : Int) = 11 ∧ (y39_c9 ((x40_19) - 1)) = 12)) ∧ ((x40_19) = 0 ∨ ¬ (y39_c9 ((x40_19) - 1)) = (12 : Int)) ∧ (∃ e_, Pz_ (y32_19) (y33_19) (400 * (n_0 29) + (n_0 37)) (400 * (n_0 29) + (x37_19)) e_ ∧ Pk_ (y39_c9) (x40_19) (x38_19) gb (e_ - 1)) := hq19_
            clear hq19_
            obtain ⟨fr4_, ar4_, tp4_, nt4_, e4_, z4_, p4_⟩ := hh19_
            have nn4_ := Pk_nn p4_
            have bb4_ := z4_.2
            have c4_ := st_top2 c3_ tp4_ nt4_
            clear c3_
            clear tp4_ nt4_
            refine j_iload_n E 185 rfl dX10_readAny_184 rfl (lv_at hl 1 rfl) ?_
            refine j_if_ne E 188 190 rfl r_gb dX10_readAny_185 (by decide) (fun cc20_ => ?_) (fun cc20_ => ?_)
            · refine j_aload_n E 191 rfl dX10_readAny_190 rfl (lv_at hl 0 rfl) ?_
              refine j_bipush E 193 rfl dX10_readAny_191 (by decide) ?_
              refine m_callp (po := fun z_0 => (z_0 = 1 ∧ (x26_c9) = 4 ∧ (x27_c9) = (41 : Int)) ∨ (z_0 = 0 ∧ ¬ ((x26_c9) = 4 ∧ (x27_c9) = (41 : Int)))) E (c_X10_isSign l D cy q (upN (upN (upN (upN (upN (upN (upN (upN (upN n_0 24 x24_c9) 25 x25_c9) 26 x26_c9) 27 x27_c9) 37 x37_19) 38 x38_19) 40 x40_19) 41 x41_c9) 42 x42_c9) (upF (upF (upF (upF (upF f_0 30 y30_c9) 31 y31_c9) 32 y32_19) 33 y33_19) 39 y39_c9) 41  (rr (by decide)) ) rfl mt_X10_isSign ml_X10_276 hK hw hA ⟨Nat.le_of_ble_eq_true rfl, Nat.le_of_ble_eq_true rfl⟩ (As := [.int (J 41)]) (rest := []) rfl rfl hl.1 (Nat.le_of_ble_eq_true rfl) 196 rfl dX10_readAny_193 (fun zz21_ H locs rr21_ hq21_ hw => ?_)
              have hh21_ : (zz21_ = 1 ∧ (x26_c9) = 4 ∧ (x27_c9) = (41 : Int)) ∨ (zz21_ = 0 ∧ ¬ ((x26_c9) = 4 ∧ (x27_c9) = (41 : Int))) := hq21_
              clear hq21_
              rcases hh21_ with ⟨ee21_, hh21_⟩ | ⟨ee21_, hh21_⟩
              · subst ee21_
                refine j_if_ne E 199 205 rfl (rr (by decide)) dX10_readAny_196 (by decide) (fun _ => ?_) (fun cc22_ => absurd cc22_ (by decide))
                have p13_ := Pk_pop13 p4_ (by omega) c4_
                refine j_aload_n E 206 rfl dX10_readAny_205 rfl (lv_at hl 0 rfl) ?_
                refine j_aload_n E 207 rfl dX10_readAny_206 rfl (lv_at hl 0 rfl) ?_
                refine m_get_40 E hK hw x40_19 rfl 210 rfl dX10_readAny_207 (fun _ => ?_)
                refine j_iconst E 211 rfl dX10_readAny_210 ?_
                refine j_isub E 212 rfl dX10_readAny_211 ?_
                refine m_put_40 E hK hw (rr (by omega)) 215 rfl dX10_readAny_212 (fun H locs hw => ?_)
                have hw : WM D cy q (upN (upN (upN (upN (upN (upN (upN (upN (upN n_0 24 x24_c9) 25 x25_c9) 26 x26_c9) 27 x27_c9) 37 x37_19) 38 x38_19) 40 (x40_19 - 1)) 41 x41_c9) 42 x42_c9) (upF (upF (upF (upF (upF f_0 30 y30_c9) 31 y31_c9) 32 y32_19) 33 y33_19) 39 y39_c9) A0 H0 H locs := hw
                refine j_iload_n E 216 rfl dX10_readAny_215 rfl (lv_at hl 1 rfl) ?_
                refine j_iconst E 217 rfl dX10_readAny_216 ?_
                refine j_isub E 218 rfl dX10_readAny_217 ?_
                refine j_istore_n E 219 rfl [(1, .int (J (gb - 1))), (0, .ref (q 0)), (2, .int (J gd))] dX10_readAny_218 rfl hl (by decide) rfl (fun ls hl => ?_)
                refine j_aload_n E 220 rfl dX10_readAny_219 rfl (lv_at hl 1 rfl) ?_
                refine j_aload_n E 221 rfl dX10_readAny_220 rfl (lv_at hl 1 rfl) ?_
                refine m_get_38 E hK hw x38_19 rfl 224 rfl dX10_readAny_221 (fun _ => ?_)
                refine j_iconst E 225 rfl dX10_readAny_224 ?_
                refine j_isub E 226 rfl dX10_readAny_225 ?_
                refine m_put_38 E hK hw (rr (by omega)) 229 rfl dX10_readAny_226 (fun H locs hw => ?_)
                have hw : WM D cy q (upN (upN (upN (upN (upN (upN (upN (upN (upN n_0 24 x24_c9) 25 x25_c9) 26 x26_c9) 27 x27_c9) 37 x37_19) 38 (x38_19 - 1)) 40 (x40_19 - 1)) 41 x41_c9) 42 x42_c9) (upF (upF (upF (upF (upF f_0 30 y30_c9) 31 y31_c9) 32 y32_19) 33 y33_19) 39 y39_c9) A0 H0 H locs := hw
                refine j_aload_n E 230 rfl dX10_readAny_229 rfl (lv_at hl 1 rfl) ?_
                refine j_bipush E 232 rfl dX10_readAny_230 (by decide) ?_
                refine m_callv E (c_X10_settles l D cy q (upN (upN (upN (upN (upN (upN (upN (upN (upN n_0 24 x24_c9) 25 x25_c9) 26 x26_c9) 27 x27_c9) 37 x37_19) 38 (x38_19 - 1)) 40 (x40_19 - 1)) 41 x41_c9) 42 x42_c9) (upF (upF (upF (upF (upF f_0 30 y30_c9) 31 y31_c9) 32 y32_19) 33 y33_19) 39 y39_c9) 10 (n_0 37) e4_ ((gb - 1)) (rr (by decide)) (show 0 ≤ (n_0 29) ∧ (n_0 29) < 32 from by omega) (show ((10 : Int) : Int) = 10 ∨ ((10 : Int) : Int) = 11 ∨ ((10 : Int) : Int) = 12 from by omega) (show 0 ≤ (n_0 37) ∧ (n_0 37) ≤ (x37_19) ∧ (x37_19) + (x40_19 - 1) ≤ 400 ∧ (x38_19 - 1) ≤ 8 from by omega) (show Pz_ (y32_19) (y33_19) (400 * (n_0 29) + (n_0 37)) (400 * (n_0 29) + (x37_19)) e4_ from z4_) (show Pk_ (y39_c9) (x40_19 - 1) (x38_19 - 1) ((gb - 1)) (e4_ - 1) from p13_.2)) rfl mt_X10_settles ml_X10_297 hK hw hA ⟨Nat.le_of_ble_eq_true rfl, Nat.le_of_ble_eq_true rfl⟩ (As := [.int (J 10)]) (rest := []) rfl rfl hl.1 (Nat.le_of_ble_eq_true rfl) 235 rfl dX10_readAny_232 (fun n_25 f_25 H locs hq25_ hw => ?_)
                obtain ⟨x40_25, x37_25, x38_25, y32_25, y33_25, en25_, ef25_, hq25_⟩ := hq25_
                rw [en25_, ef25_] at hw; clear en25_ ef25_
                have hw : WM D cy q (upN (upN (upN (upN (upN (upN (upN (upN (upN n_0 24 x24_c9) 25 x25_c9) 26 x26_c9) 27 x27_c9) 37 x37_25) 38 x38_25) 40 x40_25) 41 x41_c9) 42 x42_c9) (upF (upF (upF (upF (upF f_0 30 y30_c9) 31 y31_c9) 32 y32_25) 33 y33_25) 39 y39_c9) A0 H0 H locs := hw
                have rx40_25 : inR x40_25 := mRn_40 hw.1.2.2.1
                have rx37_25 : inR x37_25 := mRn_37 hw.1.2.2.1
                have rx38_25 : inR x38_25 := mRn_38 hw.1.2.2.1
                have hh25_ : Fr_ (y32_19) (y33_19) (y32_25) (y33_25) (400 * (n_0 29) + (x37_19)) ∧ ((x37_25) + (x40_25) = (x37_19) + (x40_19 - 1) ∧ 0 ≤ (x40_25) ∧ (x40_25) ≤ (x40_19 - 1) ∧ (x38_25) ≤ (x38_19 - 1) ∧ (x37_19) ≤ (x37_25)) ∧ ((x40_25) = (x40_19 - 1) ∨ (x40_25) = 0 ∨ ((10 : Int) : Int) = 10 ∨ (y39_c9 ((x40_25) - 1)) = 13 ∨ (((10 : Int) : Int) = 11 ∧ (y39_c9 ((x40_25) - 1)) = 12)) ∧ ((x40_25) = 0 ∨ ¬ (y39_c9 ((x40_25) - 1)) = (10 : Int)) ∧ (∃ e_, Pz_ (y32_25) (y33_25) (400 * (n_0 29) + (n_0 37)) (400 * (n_0 29) + (x37_25)) e_ ∧ Pk_ (y39_c9) (x40_25) (x38_25) ((gb - 1)) (e_ - 1)) := hq25_
                clear hq25_
                obtain ⟨fr5_, ar5_, tp5_, nt5_, e5_, z5_, p5_⟩ := hh25_
                have nn5_ := Pk_nn p5_
                have bb5_ := z5_.2
                clear tp5_
                refine j_aload_n E 236 rfl dX10_readAny_235 rfl (lv_at hl 1 rfl) ?_
                refine m_callv E (c_X10_next l D cy q (upN (upN (upN (upN (upN (upN (upN (upN (upN n_0 24 x24_c9) 25 x25_c9) 26 x26_c9) 27 x27_c9) 37 x37_25) 38 x38_25) 40 x40_25) 41 x41_c9) 42 x42_c9) (upF (upF (upF (upF (upF f_0 30 y30_c9) 31 y31_c9) 32 y32_25) 33 y33_25) 39 y39_c9)    (show 0 ≤ (n_0 29) ∧ (n_0 29) < 32 from by omega) (show 0 ≤ (n_0 23) ∧ (n_0 23) ≤ 400 from by omega) (show Wds_ (f_0 28) from hp2) (show 0 ≤ (x24_c9) ∧ (x24_c9) ≤ (n_0 23) from by omega) (show 0 ≤ (y31_c9 ((n_0 29))) ∧ (y31_c9 ((n_0 29))) ≤ (x24_c9) from by omega)) rfl mt_X10_next ml_X10_269 hK hw hA ⟨Nat.le_of_ble_eq_true rfl, Nat.le_of_ble_eq_true rfl⟩ (As := []) (rest := []) rfl rfl hl.1 (Nat.le_of_ble_eq_true rfl) 239 rfl dX10_readAny_236 (fun n_26 f_26 H locs hq26_ hw => ?_)
                obtain ⟨x24_26, x25_26, x26_26, x27_26, y30_26, y31_26, en26_, ef26_, hq26_⟩ := hq26_
                rw [en26_, ef26_] at hw; clear en26_ ef26_
                have hw : WM D cy q (upN (upN (upN (upN (upN (upN (upN (upN (upN n_0 24 x24_26) 25 x25_26) 26 x26_26) 27 x27_26) 37 x37_25) 38 x38_25) 40 x40_25) 41 x41_c9) 42 x42_c9) (upF (upF (upF (upF (upF f_0 30 y30_26) 31 y31_26) 32 y32_25) 33 y33_25) 39 y39_c9) A0 H0 H locs := hw
                have rx24_26 : inR x24_26 := mRn_24 hw.1.2.2.1
                have rx25_26 : inR x25_26 := mRn_25 hw.1.2.2.1
                have rx26_26 : inR x26_26 := mRn_26 hw.1.2.2.1
                have rx27_26 : inR x27_26 := mRn_27 hw.1.2.2.1
                have hh26_ : (0 ≤ (x25_26) ∧ (x25_26) ≤ (x24_26) ∧ (x24_26) ≤ (n_0 23)) ∧ (0 ≤ (y31_26 ((n_0 29))) ∧ (y31_26 ((n_0 29))) ≤ (x24_26)) ∧ (0 ≤ (x26_26) ∧ (x26_26) ≤ 4) ∧ (¬ (x26_26) = 0 → (x25_26) < (x24_26)) ∧ ((x26_26) = 3 → 0 ≤ (x27_26) ∧ (x27_26) ≤ 9999) ∧ (x24_c9) ≤ (x25_26) ∧ (∀ i, i ≠ (n_0 29) → (y31_26 i) = (y31_c9 i)) := hq26_
                clear hq26_
                have hk_ := hh26_.2.2.2.2.2.2
                refine j_goto E 9 dX10_readAny_239 (by decide) ?_
                exact ih9 (gb - 1) gd x24_26 x25_26 x26_26 x27_26 x37_25 x38_25 x40_25 x41_c9 x42_c9 y30_26 y31_26 y32_25 y33_25 y39_c9 H locs ls (rr (by omega)) r_gd (⟨by omega, by omega, Fr_tr (Fr_tr (Fr_tr if_ fr3_ (by omega)) fr4_ (by omega)) fr5_ (by omega), tk_tr ik_ hk_, fun _ => nt5_, e5_, z5_, Pk_eq p5_ (by omega)⟩) (by omega) hw (lv_sub hl [1, 0, 2] rfl)
              · subst ee21_
                refine j_if_ne E 199 205 rfl (rr (by decide)) dX10_readAny_196 (by decide) (fun cc27_ => absurd cc27_ (by decide)) (fun _ => ?_)
                refine j_aload_n E 200 rfl dX10_readAny_199 rfl (lv_at hl 0 rfl) ?_
                refine j_iconst E 201 rfl dX10_readAny_200 ?_
                refine m_calli E (c_X10_fails l D cy q (upN (upN (upN (upN (upN (upN (upN (upN (upN n_0 24 x24_c9) 25 x25_c9) 26 x26_c9) 27 x27_c9) 37 x37_19) 38 x38_19) 40 x40_19) 41 x41_c9) 42 x42_c9) (upF (upF (upF (upF (upF f_0 30 y30_c9) 31 y31_c9) 32 y32_19) 33 y33_19) 39 y39_c9) 1  (rr (by decide)) ) rfl mt_X10_fails ml_X10_262 hK hw hA ⟨Nat.le_of_ble_eq_true rfl, Nat.le_of_ble_eq_true rfl⟩ (As := [.int (J 1)]) (rest := []) rfl rfl hl.1 (Nat.le_of_ble_eq_true rfl) 204 rfl dX10_readAny_201 (fun zz28_ n_28 f_28 H locs rr28_ hq28_ hw => ?_)
                obtain ⟨x41_28, x42_28, en28_, ef28_, hq28_⟩ := hq28_
                rw [en28_, ef28_] at hw; clear en28_ ef28_
                have hw : WM D cy q (upN (upN (upN (upN (upN (upN (upN (upN (upN n_0 24 x24_c9) 25 x25_c9) 26 x26_c9) 27 x27_c9) 37 x37_19) 38 x38_19) 40 x40_19) 41 x41_28) 42 x42_28) (upF (upF (upF (upF (upF f_0 30 y30_c9) 31 y31_c9) 32 y32_19) 33 y33_19) 39 y39_c9) A0 H0 H locs := hw
                have rx41_28 : inR x41_28 := mRn_41 hw.1.2.2.1
                have rx42_28 : inR x42_28 := mRn_42 hw.1.2.2.1
                have hh28_ : zz28_ = -1 := hq28_
                clear hq28_
                exact hret 204 zz28_ (upN (upN (upN (upN (upN (upN (upN (upN (upN n_0 24 x24_c9) 25 x25_c9) 26 x26_c9) 27 x27_c9) 37 x37_19) 38 x38_19) 40 x40_19) 41 x41_28) 42 x42_28) (upF (upF (upF (upF (upF f_0 30 y30_c9) 31 y31_c9) 32 y32_19) 33 y33_19) 39 y39_c9) _ _ ls hw rr28_ ⟨x24_c9, x25_c9, x26_c9, x27_c9, x37_19, x38_19, x40_19, x41_28, x42_28, y30_c9, y31_c9, y32_19, y33_19, y39_c9, rfl, rfl, Or.inl ⟨by omega, Fr_tr (Fr_tr if_ fr3_ (by omega)) fr4_ (by omega), ik_, by omega⟩⟩ dX10_readAny_204
            · have g0_ : (x40_19) = 0 := Pk_no13 p4_ (by omega) c4_
              rw [g0_] at p4_
              have zz4_ := Pk_z p4_
              refine j_iconst E 189 rfl dX10_readAny_188 ?_
              exact hret 189 0 (upN (upN (upN (upN (upN (upN (upN (upN (upN n_0 24 x24_c9) 25 x25_c9) 26 x26_c9) 27 x27_c9) 37 x37_19) 38 x38_19) 40 x40_19) 41 x41_c9) 42 x42_c9) (upF (upF (upF (upF (upF f_0 30 y30_c9) 31 y31_c9) 32 y32_19) 33 y33_19) 39 y39_c9) _ _ ls hw (rr (by decide)) ⟨x24_c9, x25_c9, x26_c9, x27_c9, x37_19, x38_19, x40_19, x41_c9, x42_c9, y30_c9, y31_c9, y32_19, y33_19, y39_c9, rfl, rfl, Or.inr ⟨rfl, Fr_tr (Fr_tr if_ fr3_ (by omega)) fr4_ (by omega), ik_, by omega, by omega, by omega, by omega, e4_, z4_⟩⟩ dX10_readAny_189
      · refine j_aload_n E 14 rfl dX10_readAny_13 rfl (lv_at hl 0 rfl) ?_
        refine j_iconst E 15 rfl dX10_readAny_14 ?_
        refine m_callp (po := fun z_0 => (z_0 = 1 ∧ (x26_c9) = 2 ∧ (x27_c9) = (5 : Int)) ∨ (z_0 = 0 ∧ ¬ ((x26_c9) = 2 ∧ (x27_c9) = (5 : Int)))) E (c_X10_isWord l D cy q (upN (upN (upN (upN (upN (upN (upN (upN (upN n_0 24 x24_c9) 25 x25_c9) 26 x26_c9) 27 x27_c9) 37 x37_c9) 38 x38_c9) 40 x40_c9) 41 x41_c9) 42 x42_c9) (upF (upF (upF (upF (upF f_0 30 y30_c9) 31 y31_c9) 32 y32_c9) 33 y33_c9) 39 y39_c9) 5  (rr (by decide)) ) rfl mt_X10_isWord ml_X10_259 hK hw hA ⟨Nat.le_of_ble_eq_true rfl, Nat.le_of_ble_eq_true rfl⟩ (As := [.int (J 5)]) (rest := []) rfl rfl hl.1 (Nat.le_of_ble_eq_true rfl) 18 rfl dX10_readAny_15 (fun zz29_ H locs rr29_ hq29_ hw => ?_)
        have hh29_ : (zz29_ = 1 ∧ (x26_c9) = 2 ∧ (x27_c9) = (5 : Int)) ∨ (zz29_ = 0 ∧ ¬ ((x26_c9) = 2 ∧ (x27_c9) = (5 : Int))) := hq29_
        clear hq29_
        refine j_istore_n E 19 rfl [(3, .int (J zz29_)), (0, .ref (q 0)), (1, .int (J gb)), (2, .int (J gd))] dX10_readAny_18 rfl hl (by decide) rfl (fun ls hl => ?_)
        refine j_iload_n E 20 rfl dX10_readAny_19 rfl (lv_at hl 0 rfl) ?_
        refine j_if_ne E 23 32 rfl rr29_ dX10_readAny_20 (by decide) (fun cc30_ => ?_) (fun cc30_ => ?_)
        · refine j_aload_n E 33 rfl dX10_readAny_32 rfl (lv_at hl 1 rfl) ?_
          refine m_get_38 E hK hw x38_c9 rfl 36 rfl dX10_readAny_33 (fun _ => ?_)
          refine j_bipush E 38 rfl dX10_readAny_36 (by decide) ?_
          refine j_icmp_ne E 41 47 rfl rx38_c9 (rr (by decide)) dX10_readAny_38 (by decide) (fun cc31_ => ?_) (fun cc31_ => ?_)
          · refine j_aload_n E 48 rfl dX10_readAny_47 rfl (lv_at hl 1 rfl) ?_
            refine j_aload_n E 49 rfl dX10_readAny_48 rfl (lv_at hl 1 rfl) ?_
            refine m_get_38 E hK hw x38_c9 rfl 52 rfl dX10_readAny_49 (fun _ => ?_)
            refine j_iconst E 53 rfl dX10_readAny_52 ?_
            refine j_iadd E 54 rfl dX10_readAny_53 ?_
            refine m_put_38 E hK hw (rr (by omega)) 57 rfl dX10_readAny_54 (fun H locs hw => ?_)
            have hw : WM D cy q (upN (upN (upN (upN (upN (upN (upN (upN (upN n_0 24 x24_c9) 25 x25_c9) 26 x26_c9) 27 x27_c9) 37 x37_c9) 38 (x38_c9 + 1)) 40 x40_c9) 41 x41_c9) 42 x42_c9) (upF (upF (upF (upF (upF f_0 30 y30_c9) 31 y31_c9) 32 y32_c9) 33 y33_c9) 39 y39_c9) A0 H0 H locs := hw
            refine j_iload_n E 58 rfl dX10_readAny_57 rfl (lv_at hl 0 rfl) ?_
            refine j_if_ne E 61 65 rfl rr29_ dX10_readAny_58 (by decide) (fun cc33_ => ?_) (fun cc33_ => ?_)
            · refine j_aload_n E 66 rfl dX10_readAny_65 rfl (lv_at hl 1 rfl) ?_
              refine j_iload_n E 67 rfl dX10_readAny_66 rfl (lv_at hl 0 rfl) ?_
              refine j_if_eq E 70 75 rfl rr29_ dX10_readAny_67 (by decide) (fun cc34_ => ?_) (fun cc34_ => ?_)
              · refine j_bipush E 77 rfl dX10_readAny_75 (by decide) ?_
                refine m_callv E (c_X10_waits l D cy q (upN (upN (upN (upN (upN (upN (upN (upN (upN n_0 24 x24_c9) 25 x25_c9) 26 x26_c9) 27 x27_c9) 37 x37_c9) 38 (x38_c9 + 1)) 40 x40_c9) 41 x41_c9) 42 x42_c9) (upF (upF (upF (upF (upF f_0 30 y30_c9) 31 y31_c9) 32 y32_c9) 33 y33_c9) 39 y39_c9) 13  (rr (by decide)) (show 0 ≤ (x40_c9) ∧ (x40_c9) < 40 from by omega)) rfl mt_X10_waits ml_X10_291 hK hw hA ⟨Nat.le_of_ble_eq_true rfl, Nat.le_of_ble_eq_true rfl⟩ (As := [.int (J 13)]) (rest := []) rfl rfl hl.1 (Nat.le_of_ble_eq_true rfl) 80 rfl dX10_readAny_77 (fun n_35 f_35 H locs hq35_ hw => ?_)
                obtain ⟨x40_35, y39_35, en35_, ef35_, hq35_⟩ := hq35_
                rw [en35_, ef35_] at hw; clear en35_ ef35_
                have hw : WM D cy q (upN (upN (upN (upN (upN (upN (upN (upN (upN n_0 24 x24_c9) 25 x25_c9) 26 x26_c9) 27 x27_c9) 37 x37_c9) 38 (x38_c9 + 1)) 40 x40_35) 41 x41_c9) 42 x42_c9) (upF (upF (upF (upF (upF f_0 30 y30_c9) 31 y31_c9) 32 y32_c9) 33 y33_c9) 39 y39_35) A0 H0 H locs := hw
                have rx40_35 : inR x40_35 := mRn_40 hw.1.2.2.1
                have hh35_ : (y39_35) = upA (y39_c9) (x40_c9) (13 : Int) ∧ (x40_35) = (x40_c9) + 1 := hq35_
                clear hq35_
                have hw_ := hh35_
                refine j_aload_n E 81 rfl dX10_readAny_80 rfl (lv_at hl 1 rfl) ?_
                refine m_callv E (c_X10_next l D cy q (upN (upN (upN (upN (upN (upN (upN (upN (upN n_0 24 x24_c9) 25 x25_c9) 26 x26_c9) 27 x27_c9) 37 x37_c9) 38 (x38_c9 + 1)) 40 x40_35) 41 x41_c9) 42 x42_c9) (upF (upF (upF (upF (upF f_0 30 y30_c9) 31 y31_c9) 32 y32_c9) 33 y33_c9) 39 y39_35)    (show 0 ≤ (n_0 29) ∧ (n_0 29) < 32 from by omega) (show 0 ≤ (n_0 23) ∧ (n_0 23) ≤ 400 from by omega) (show Wds_ (f_0 28) from hp2) (show 0 ≤ (x24_c9) ∧ (x24_c9) ≤ (n_0 23) from by omega) (show 0 ≤ (y31_c9 ((n_0 29))) ∧ (y31_c9 ((n_0 29))) ≤ (x24_c9) from by omega)) rfl mt_X10_next ml_X10_269 hK hw hA ⟨Nat.le_of_ble_eq_true rfl, Nat.le_of_ble_eq_true rfl⟩ (As := []) (rest := []) rfl rfl hl.1 (Nat.le_of_ble_eq_true rfl) 84 rfl dX10_readAny_81 (fun n_36 f_36 H locs hq36_ hw => ?_)
                obtain ⟨x24_36, x25_36, x26_36, x27_36, y30_36, y31_36, en36_, ef36_, hq36_⟩ := hq36_
                rw [en36_, ef36_] at hw; clear en36_ ef36_
                have hw : WM D cy q (upN (upN (upN (upN (upN (upN (upN (upN (upN n_0 24 x24_36) 25 x25_36) 26 x26_36) 27 x27_36) 37 x37_c9) 38 (x38_c9 + 1)) 40 x40_35) 41 x41_c9) 42 x42_c9) (upF (upF (upF (upF (upF f_0 30 y30_36) 31 y31_36) 32 y32_c9) 33 y33_c9) 39 y39_35) A0 H0 H locs := hw
                have rx24_36 : inR x24_36 := mRn_24 hw.1.2.2.1
                have rx25_36 : inR x25_36 := mRn_25 hw.1.2.2.1
                have rx26_36 : inR x26_36 := mRn_26 hw.1.2.2.1
                have rx27_36 : inR x27_36 := mRn_27 hw.1.2.2.1
                have hh36_ : (0 ≤ (x25_36) ∧ (x25_36) ≤ (x24_36) ∧ (x24_36) ≤ (n_0 23)) ∧ (0 ≤ (y31_36 ((n_0 29))) ∧ (y31_36 ((n_0 29))) ≤ (x24_36)) ∧ (0 ≤ (x26_36) ∧ (x26_36) ≤ 4) ∧ (¬ (x26_36) = 0 → (x25_36) < (x24_36)) ∧ ((x26_36) = 3 → 0 ≤ (x27_36) ∧ (x27_36) ≤ 9999) ∧ (x24_c9) ≤ (x25_36) ∧ (∀ i, i ≠ (n_0 29) → (y31_36 i) = (y31_c9 i)) := hq36_
                clear hq36_
                have hk_ := hh36_.2.2.2.2.2.2
                refine j_goto E 9 dX10_readAny_84 (by decide) ?_
                exact ih9 gb gd x24_36 x25_36 x26_36 x27_36 x37_c9 (x38_c9 + 1) x40_35 x41_c9 x42_c9 y30_36 y31_36 y32_c9 y33_c9 y39_35 H locs ls r_gb r_gd (⟨by omega, by omega, if_, tk_tr ik_ hk_, fun h_ => absurd h_ (by omega), ez_, iz_, by rw [hw_.1, hw_.2]; exact Pk_push ip_ (by omega)⟩) (by omega) hw (lv_sub hl [1, 2, 3] rfl)
              · refine j_bipush E 72 rfl dX10_readAny_70 (by decide) ?_
                refine j_goto E 77 dX10_readAny_72 (by decide) ?_
                refine m_callv E (c_X10_waits l D cy q (upN (upN (upN (upN (upN (upN (upN (upN (upN n_0 24 x24_c9) 25 x25_c9) 26 x26_c9) 27 x27_c9) 37 x37_c9) 38 (x38_c9 + 1)) 40 x40_c9) 41 x41_c9) 42 x42_c9) (upF (upF (upF (upF (upF f_0 30 y30_c9) 31 y31_c9) 32 y32_c9) 33 y33_c9) 39 y39_c9) 10  (rr (by decide)) (show 0 ≤ (x40_c9) ∧ (x40_c9) < 40 from by omega)) rfl mt_X10_waits ml_X10_291 hK hw hA ⟨Nat.le_of_ble_eq_true rfl, Nat.le_of_ble_eq_true rfl⟩ (As := [.int (J 10)]) (rest := []) rfl rfl hl.1 (Nat.le_of_ble_eq_true rfl) 80 rfl dX10_readAny_77 (fun n_37 f_37 H locs hq37_ hw => ?_)
                obtain ⟨x40_37, y39_37, en37_, ef37_, hq37_⟩ := hq37_
                rw [en37_, ef37_] at hw; clear en37_ ef37_
                have hw : WM D cy q (upN (upN (upN (upN (upN (upN (upN (upN (upN n_0 24 x24_c9) 25 x25_c9) 26 x26_c9) 27 x27_c9) 37 x37_c9) 38 (x38_c9 + 1)) 40 x40_37) 41 x41_c9) 42 x42_c9) (upF (upF (upF (upF (upF f_0 30 y30_c9) 31 y31_c9) 32 y32_c9) 33 y33_c9) 39 y39_37) A0 H0 H locs := hw
                have rx40_37 : inR x40_37 := mRn_40 hw.1.2.2.1
                have hh37_ : (y39_37) = upA (y39_c9) (x40_c9) (10 : Int) ∧ (x40_37) = (x40_c9) + 1 := hq37_
                clear hq37_
                have hw_ := hh37_
                refine j_aload_n E 81 rfl dX10_readAny_80 rfl (lv_at hl 1 rfl) ?_
                refine m_callv E (c_X10_next l D cy q (upN (upN (upN (upN (upN (upN (upN (upN (upN n_0 24 x24_c9) 25 x25_c9) 26 x26_c9) 27 x27_c9) 37 x37_c9) 38 (x38_c9 + 1)) 40 x40_37) 41 x41_c9) 42 x42_c9) (upF (upF (upF (upF (upF f_0 30 y30_c9) 31 y31_c9) 32 y32_c9) 33 y33_c9) 39 y39_37)    (show 0 ≤ (n_0 29) ∧ (n_0 29) < 32 from by omega) (show 0 ≤ (n_0 23) ∧ (n_0 23) ≤ 400 from by omega) (show Wds_ (f_0 28) from hp2) (show 0 ≤ (x24_c9) ∧ (x24_c9) ≤ (n_0 23) from by omega) (show 0 ≤ (y31_c9 ((n_0 29))) ∧ (y31_c9 ((n_0 29))) ≤ (x24_c9) from by omega)) rfl mt_X10_next ml_X10_269 hK hw hA ⟨Nat.le_of_ble_eq_true rfl, Nat.le_of_ble_eq_true rfl⟩ (As := []) (rest := []) rfl rfl hl.1 (Nat.le_of_ble_eq_true rfl) 84 rfl dX10_readAny_81 (fun n_38 f_38 H locs hq38_ hw => ?_)
                obtain ⟨x24_38, x25_38, x26_38, x27_38, y30_38, y31_38, en38_, ef38_, hq38_⟩ := hq38_
                rw [en38_, ef38_] at hw; clear en38_ ef38_
                have hw : WM D cy q (upN (upN (upN (upN (upN (upN (upN (upN (upN n_0 24 x24_38) 25 x25_38) 26 x26_38) 27 x27_38) 37 x37_c9) 38 (x38_c9 + 1)) 40 x40_37) 41 x41_c9) 42 x42_c9) (upF (upF (upF (upF (upF f_0 30 y30_38) 31 y31_38) 32 y32_c9) 33 y33_c9) 39 y39_37) A0 H0 H locs := hw
                have rx24_38 : inR x24_38 := mRn_24 hw.1.2.2.1
                have rx25_38 : inR x25_38 := mRn_25 hw.1.2.2.1
                have rx26_38 : inR x26_38 := mRn_26 hw.1.2.2.1
                have rx27_38 : inR x27_38 := mRn_27 hw.1.2.2.1
                have hh38_ : (0 ≤ (x25_38) ∧ (x25_38) ≤ (x24_38) ∧ (x24_38) ≤ (n_0 23)) ∧ (0 ≤ (y31_38 ((n_0 29))) ∧ (y31_38 ((n_0 29))) ≤ (x24_38)) ∧ (0 ≤ (x26_38) ∧ (x26_38) ≤ 4) ∧ (¬ (x26_38) = 0 → (x25_38) < (x24_38)) ∧ ((x26_38) = 3 → 0 ≤ (x27_38) ∧ (x27_38) ≤ 9999) ∧ (x24_c9) ≤ (x25_38) ∧ (∀ i, i ≠ (n_0 29) → (y31_38 i) = (y31_c9 i)) := hq38_
                clear hq38_
                have hk_ := hh38_.2.2.2.2.2.2
                refine j_goto E 9 dX10_readAny_84 (by decide) ?_
                exact ih9 gb gd x24_38 x25_38 x26_38 x27_38 x37_c9 (x38_c9 + 1) x40_37 x41_c9 x42_c9 y30_38 y31_38 y32_c9 y33_c9 y39_37 H locs ls r_gb r_gd (⟨by omega, by omega, if_, tk_tr ik_ hk_, fun h_ => absurd h_ (by omega), ez_, iz_, by rw [hw_.1, hw_.2]; exact Pk_push ip_ (by omega)⟩) (by omega) hw (lv_sub hl [1, 2, 3] rfl)
            · refine j_iload_n E 62 rfl dX10_readAny_61 rfl (lv_at hl 2 rfl) ?_
              refine j_iconst E 63 rfl dX10_readAny_62 ?_
              refine j_iadd E 64 rfl dX10_readAny_63 ?_
              refine j_istore_n E 65 rfl [(1, .int (J (gb + 1))), (3, .int (J zz29_)), (0, .ref (q 0)), (2, .int (J gd))] dX10_readAny_64 rfl hl (by decide) rfl (fun ls hl => ?_)
              refine j_aload_n E 66 rfl dX10_readAny_65 rfl (lv_at hl 2 rfl) ?_
              refine j_iload_n E 67 rfl dX10_readAny_66 rfl (lv_at hl 1 rfl) ?_
              refine j_if_eq E 70 75 rfl rr29_ dX10_readAny_67 (by decide) (fun cc39_ => ?_) (fun cc39_ => ?_)
              · refine j_bipush E 77 rfl dX10_readAny_75 (by decide) ?_
                refine m_callv E (c_X10_waits l D cy q (upN (upN (upN (upN (upN (upN (upN (upN (upN n_0 24 x24_c9) 25 x25_c9) 26 x26_c9) 27 x27_c9) 37 x37_c9) 38 (x38_c9 + 1)) 40 x40_c9) 41 x41_c9) 42 x42_c9) (upF (upF (upF (upF (upF f_0 30 y30_c9) 31 y31_c9) 32 y32_c9) 33 y33_c9) 39 y39_c9) 13  (rr (by decide)) (show 0 ≤ (x40_c9) ∧ (x40_c9) < 40 from by omega)) rfl mt_X10_waits ml_X10_291 hK hw hA ⟨Nat.le_of_ble_eq_true rfl, Nat.le_of_ble_eq_true rfl⟩ (As := [.int (J 13)]) (rest := []) rfl rfl hl.1 (Nat.le_of_ble_eq_true rfl) 80 rfl dX10_readAny_77 (fun n_40 f_40 H locs hq40_ hw => ?_)
                obtain ⟨x40_40, y39_40, en40_, ef40_, hq40_⟩ := hq40_
                rw [en40_, ef40_] at hw; clear en40_ ef40_
                have hw : WM D cy q (upN (upN (upN (upN (upN (upN (upN (upN (upN n_0 24 x24_c9) 25 x25_c9) 26 x26_c9) 27 x27_c9) 37 x37_c9) 38 (x38_c9 + 1)) 40 x40_40) 41 x41_c9) 42 x42_c9) (upF (upF (upF (upF (upF f_0 30 y30_c9) 31 y31_c9) 32 y32_c9) 33 y33_c9) 39 y39_40) A0 H0 H locs := hw
                have rx40_40 : inR x40_40 := mRn_40 hw.1.2.2.1
                have hh40_ : (y39_40) = upA (y39_c9) (x40_c9) (13 : Int) ∧ (x40_40) = (x40_c9) + 1 := hq40_
                clear hq40_
                have hw_ := hh40_
                refine j_aload_n E 81 rfl dX10_readAny_80 rfl (lv_at hl 2 rfl) ?_
                refine m_callv E (c_X10_next l D cy q (upN (upN (upN (upN (upN (upN (upN (upN (upN n_0 24 x24_c9) 25 x25_c9) 26 x26_c9) 27 x27_c9) 37 x37_c9) 38 (x38_c9 + 1)) 40 x40_40) 41 x41_c9) 42 x42_c9) (upF (upF (upF (upF (upF f_0 30 y30_c9) 31 y31_c9) 32 y32_c9) 33 y33_c9) 39 y39_40)    (show 0 ≤ (n_0 29) ∧ (n_0 29) < 32 from by omega) (show 0 ≤ (n_0 23) ∧ (n_0 23) ≤ 400 from by omega) (show Wds_ (f_0 28) from hp2) (show 0 ≤ (x24_c9) ∧ (x24_c9) ≤ (n_0 23) from by omega) (show 0 ≤ (y31_c9 ((n_0 29))) ∧ (y31_c9 ((n_0 29))) ≤ (x24_c9) from by omega)) rfl mt_X10_next ml_X10_269 hK hw hA ⟨Nat.le_of_ble_eq_true rfl, Nat.le_of_ble_eq_true rfl⟩ (As := []) (rest := []) rfl rfl hl.1 (Nat.le_of_ble_eq_true rfl) 84 rfl dX10_readAny_81 (fun n_41 f_41 H locs hq41_ hw => ?_)
                obtain ⟨x24_41, x25_41, x26_41, x27_41, y30_41, y31_41, en41_, ef41_, hq41_⟩ := hq41_
                rw [en41_, ef41_] at hw; clear en41_ ef41_
                have hw : WM D cy q (upN (upN (upN (upN (upN (upN (upN (upN (upN n_0 24 x24_41) 25 x25_41) 26 x26_41) 27 x27_41) 37 x37_c9) 38 (x38_c9 + 1)) 40 x40_40) 41 x41_c9) 42 x42_c9) (upF (upF (upF (upF (upF f_0 30 y30_41) 31 y31_41) 32 y32_c9) 33 y33_c9) 39 y39_40) A0 H0 H locs := hw
                have rx24_41 : inR x24_41 := mRn_24 hw.1.2.2.1
                have rx25_41 : inR x25_41 := mRn_25 hw.1.2.2.1
                have rx26_41 : inR x26_41 := mRn_26 hw.1.2.2.1
                have rx27_41 : inR x27_41 := mRn_27 hw.1.2.2.1
                have hh41_ : (0 ≤ (x25_41) ∧ (x25_41) ≤ (x24_41) ∧ (x24_41) ≤ (n_0 23)) ∧ (0 ≤ (y31_41 ((n_0 29))) ∧ (y31_41 ((n_0 29))) ≤ (x24_41)) ∧ (0 ≤ (x26_41) ∧ (x26_41) ≤ 4) ∧ (¬ (x26_41) = 0 → (x25_41) < (x24_41)) ∧ ((x26_41) = 3 → 0 ≤ (x27_41) ∧ (x27_41) ≤ 9999) ∧ (x24_c9) ≤ (x25_41) ∧ (∀ i, i ≠ (n_0 29) → (y31_41 i) = (y31_c9 i)) := hq41_
                clear hq41_
                have hk_ := hh41_.2.2.2.2.2.2
                refine j_goto E 9 dX10_readAny_84 (by decide) ?_
                exact ih9 (gb + 1) gd x24_41 x25_41 x26_41 x27_41 x37_c9 (x38_c9 + 1) x40_40 x41_c9 x42_c9 y30_41 y31_41 y32_c9 y33_c9 y39_40 H locs ls (rr (by omega)) r_gd (⟨by omega, by omega, if_, tk_tr ik_ hk_, fun h_ => absurd h_ (by omega), ez_, iz_, by rw [hw_.1, hw_.2]; exact Pk_push ip_ (by omega)⟩) (by omega) hw (lv_sub hl [2, 0, 3] rfl)
              · refine j_bipush E 72 rfl dX10_readAny_70 (by decide) ?_
                refine j_goto E 77 dX10_readAny_72 (by decide) ?_
                refine m_callv E (c_X10_waits l D cy q (upN (upN (upN (upN (upN (upN (upN (upN (upN n_0 24 x24_c9) 25 x25_c9) 26 x26_c9) 27 x27_c9) 37 x37_c9) 38 (x38_c9 + 1)) 40 x40_c9) 41 x41_c9) 42 x42_c9) (upF (upF (upF (upF (upF f_0 30 y30_c9) 31 y31_c9) 32 y32_c9) 33 y33_c9) 39 y39_c9) 10  (rr (by decide)) (show 0 ≤ (x40_c9) ∧ (x40_c9) < 40 from by omega)) rfl mt_X10_waits ml_X10_291 hK hw hA ⟨Nat.le_of_ble_eq_true rfl, Nat.le_of_ble_eq_true rfl⟩ (As := [.int (J 10)]) (rest := []) rfl rfl hl.1 (Nat.le_of_ble_eq_true rfl) 80 rfl dX10_readAny_77 (fun n_42 f_42 H locs hq42_ hw => ?_)
                obtain ⟨x40_42, y39_42, en42_, ef42_, hq42_⟩ := hq42_
                rw [en42_, ef42_] at hw; clear en42_ ef42_
                have hw : WM D cy q (upN (upN (upN (upN (upN (upN (upN (upN (upN n_0 24 x24_c9) 25 x25_c9) 26 x26_c9) 27 x27_c9) 37 x37_c9) 38 (x38_c9 + 1)) 40 x40_42) 41 x41_c9) 42 x42_c9) (upF (upF (upF (upF (upF f_0 30 y30_c9) 31 y31_c9) 32 y32_c9) 33 y33_c9) 39 y39_42) A0 H0 H locs := hw
                have rx40_42 : inR x40_42 := mRn_40 hw.1.2.2.1
                have hh42_ : (y39_42) = upA (y39_c9) (x40_c9) (10 : Int) ∧ (x40_42) = (x40_c9) + 1 := hq42_
                clear hq42_
                have hw_ := hh42_
                refine j_aload_n E 81 rfl dX10_readAny_80 rfl (lv_at hl 2 rfl) ?_
                refine m_callv E (c_X10_next l D cy q (upN (upN (upN (upN (upN (upN (upN (upN (upN n_0 24 x24_c9) 25 x25_c9) 26 x26_c9) 27 x27_c9) 37 x37_c9) 38 (x38_c9 + 1)) 40 x40_42) 41 x41_c9) 42 x42_c9) (upF (upF (upF (upF (upF f_0 30 y30_c9) 31 y31_c9) 32 y32_c9) 33 y33_c9) 39 y39_42)    (show 0 ≤ (n_0 29) ∧ (n_0 29) < 32 from by omega) (show 0 ≤ (n_0 23) ∧ (n_0 23) ≤ 400 from by omega) (show Wds_ (f_0 28) from hp2) (show 0 ≤ (x24_c9) ∧ (x24_c9) ≤ (n_0 23) from by omega) (show 0 ≤ (y31_c9 ((n_0 29))) ∧ (y31_c9 ((n_0 29))) ≤ (x24_c9) from by omega)) rfl mt_X10_next ml_X10_269 hK hw hA ⟨Nat.le_of_ble_eq_true rfl, Nat.le_of_ble_eq_true rfl⟩ (As := []) (rest := []) rfl rfl hl.1 (Nat.le_of_ble_eq_true rfl) 84 rfl dX10_readAny_81 (fun n_43 f_43 H locs hq43_ hw => ?_)
                obtain ⟨x24_43, x25_43, x26_43, x27_43, y30_43, y31_43, en43_, ef43_, hq43_⟩ := hq43_
                rw [en43_, ef43_] at hw; clear en43_ ef43_
                have hw : WM D cy q (upN (upN (upN (upN (upN (upN (upN (upN (upN n_0 24 x24_43) 25 x25_43) 26 x26_43) 27 x27_43) 37 x37_c9) 38 (x38_c9 + 1)) 40 x40_42) 41 x41_c9) 42 x42_c9) (upF (upF (upF (upF (upF f_0 30 y30_43) 31 y31_43) 32 y32_c9) 33 y33_c9) 39 y39_42) A0 H0 H locs := hw
                have rx24_43 : inR x24_43 := mRn_24 hw.1.2.2.1
                have rx25_43 : inR x25_43 := mRn_25 hw.1.2.2.1
                have rx26_43 : inR x26_43 := mRn_26 hw.1.2.2.1
                have rx27_43 : inR x27_43 := mRn_27 hw.1.2.2.1
                have hh43_ : (0 ≤ (x25_43) ∧ (x25_43) ≤ (x24_43) ∧ (x24_43) ≤ (n_0 23)) ∧ (0 ≤ (y31_43 ((n_0 29))) ∧ (y31_43 ((n_0 29))) ≤ (x24_43)) ∧ (0 ≤ (x26_43) ∧ (x26_43) ≤ 4) ∧ (¬ (x26_43) = 0 → (x25_43) < (x24_43)) ∧ ((x26_43) = 3 → 0 ≤ (x27_43) ∧ (x27_43) ≤ 9999) ∧ (x24_c9) ≤ (x25_43) ∧ (∀ i, i ≠ (n_0 29) → (y31_43 i) = (y31_c9 i)) := hq43_
                clear hq43_
                have hk_ := hh43_.2.2.2.2.2.2
                refine j_goto E 9 dX10_readAny_84 (by decide) ?_
                exact ih9 (gb + 1) gd x24_43 x25_43 x26_43 x27_43 x37_c9 (x38_c9 + 1) x40_42 x41_c9 x42_c9 y30_43 y31_43 y32_c9 y33_c9 y39_42 H locs ls (rr (by omega)) r_gd (⟨by omega, by omega, if_, tk_tr ik_ hk_, fun h_ => absurd h_ (by omega), ez_, iz_, by rw [hw_.1, hw_.2]; exact Pk_push ip_ (by omega)⟩) (by omega) hw (lv_sub hl [2, 0, 3] rfl)
          · refine j_aload_n E 42 rfl dX10_readAny_41 rfl (lv_at hl 1 rfl) ?_
            refine j_iconst E 43 rfl dX10_readAny_42 ?_
            refine m_calli E (c_X10_fails l D cy q (upN (upN (upN (upN (upN (upN (upN (upN (upN n_0 24 x24_c9) 25 x25_c9) 26 x26_c9) 27 x27_c9) 37 x37_c9) 38 x38_c9) 40 x40_c9) 41 x41_c9) 42 x42_c9) (upF (upF (upF (upF (upF f_0 30 y30_c9) 31 y31_c9) 32 y32_c9) 33 y33_c9) 39 y39_c9) 3  (rr (by decide)) ) rfl mt_X10_fails ml_X10_262 hK hw hA ⟨Nat.le_of_ble_eq_true rfl, Nat.le_of_ble_eq_true rfl⟩ (As := [.int (J 3)]) (rest := []) rfl rfl hl.1 (Nat.le_of_ble_eq_true rfl) 46 rfl dX10_readAny_43 (fun zz44_ n_44 f_44 H locs rr44_ hq44_ hw => ?_)
            obtain ⟨x41_44, x42_44, en44_, ef44_, hq44_⟩ := hq44_
            rw [en44_, ef44_] at hw; clear en44_ ef44_
            have hw : WM D cy q (upN (upN (upN (upN (upN (upN (upN (upN (upN n_0 24 x24_c9) 25 x25_c9) 26 x26_c9) 27 x27_c9) 37 x37_c9) 38 x38_c9) 40 x40_c9) 41 x41_44) 42 x42_44) (upF (upF (upF (upF (upF f_0 30 y30_c9) 31 y31_c9) 32 y32_c9) 33 y33_c9) 39 y39_c9) A0 H0 H locs := hw
            have rx41_44 : inR x41_44 := mRn_41 hw.1.2.2.1
            have rx42_44 : inR x42_44 := mRn_42 hw.1.2.2.1
            have hh44_ : zz44_ = -1 := hq44_
            clear hq44_
            exact hret 46 zz44_ (upN (upN (upN (upN (upN (upN (upN (upN (upN n_0 24 x24_c9) 25 x25_c9) 26 x26_c9) 27 x27_c9) 37 x37_c9) 38 x38_c9) 40 x40_c9) 41 x41_44) 42 x42_44) (upF (upF (upF (upF (upF f_0 30 y30_c9) 31 y31_c9) 32 y32_c9) 33 y33_c9) 39 y39_c9) _ _ ls hw rr44_ ⟨x24_c9, x25_c9, x26_c9, x27_c9, x37_c9, x38_c9, x40_c9, x41_44, x42_44, y30_c9, y31_c9, y32_c9, y33_c9, y39_c9, rfl, rfl, Or.inl ⟨by omega, if_, ik_, by omega⟩⟩ dX10_readAny_46
        · refine j_aload_n E 24 rfl dX10_readAny_23 rfl (lv_at hl 1 rfl) ?_
          refine j_bipush E 26 rfl dX10_readAny_24 (by decide) ?_
          refine m_callp (po := fun z_0 => (z_0 = 1 ∧ (x26_c9) = 4 ∧ (x27_c9) = (40 : Int)) ∨ (z_0 = 0 ∧ ¬ ((x26_c9) = 4 ∧ (x27_c9) = (40 : Int)))) E (c_X10_isSign l D cy q (upN (upN (upN (upN (upN (upN (upN (upN (upN n_0 24 x24_c9) 25 x25_c9) 26 x26_c9) 27 x27_c9) 37 x37_c9) 38 x38_c9) 40 x40_c9) 41 x41_c9) 42 x42_c9) (upF (upF (upF (upF (upF f_0 30 y30_c9) 31 y31_c9) 32 y32_c9) 33 y33_c9) 39 y39_c9) 40  (rr (by decide)) ) rfl mt_X10_isSign ml_X10_276 hK hw hA ⟨Nat.le_of_ble_eq_true rfl, Nat.le_of_ble_eq_true rfl⟩ (As := [.int (J 40)]) (rest := []) rfl rfl hl.1 (Nat.le_of_ble_eq_true rfl) 29 rfl dX10_readAny_26 (fun zz45_ H locs rr45_ hq45_ hw => ?_)
          have hh45_ : (zz45_ = 1 ∧ (x26_c9) = 4 ∧ (x27_c9) = (40 : Int)) ∨ (zz45_ = 0 ∧ ¬ ((x26_c9) = 4 ∧ (x27_c9) = (40 : Int))) := hq45_
          clear hq45_
          rcases hh45_ with ⟨ee45_, hh45_⟩ | ⟨ee45_, hh45_⟩
          · subst ee45_
            refine j_if_eq E 32 87 rfl (rr (by decide)) dX10_readAny_29 (by decide) (fun cc46_ => absurd cc46_ (by decide)) (fun _ => ?_)
            refine j_aload_n E 33 rfl dX10_readAny_32 rfl (lv_at hl 1 rfl) ?_
            refine m_get_38 E hK hw x38_c9 rfl 36 rfl dX10_readAny_33 (fun _ => ?_)
            refine j_bipush E 38 rfl dX10_readAny_36 (by decide) ?_
            refine j_icmp_ne E 41 47 rfl rx38_c9 (rr (by decide)) dX10_readAny_38 (by decide) (fun cc47_ => ?_) (fun cc47_ => ?_)
            · refine j_aload_n E 48 rfl dX10_readAny_47 rfl (lv_at hl 1 rfl) ?_
              refine j_aload_n E 49 rfl dX10_readAny_48 rfl (lv_at hl 1 rfl) ?_
              refine m_get_38 E hK hw x38_c9 rfl 52 rfl dX10_readAny_49 (fun _ => ?_)
              refine j_iconst E 53 rfl dX10_readAny_52 ?_
              refine j_iadd E 54 rfl dX10_readAny_53 ?_
              refine m_put_38 E hK hw (rr (by omega)) 57 rfl dX10_readAny_54 (fun H locs hw => ?_)
              have hw : WM D cy q (upN (upN (upN (upN (upN (upN (upN (upN (upN n_0 24 x24_c9) 25 x25_c9) 26 x26_c9) 27 x27_c9) 37 x37_c9) 38 (x38_c9 + 1)) 40 x40_c9) 41 x41_c9) 42 x42_c9) (upF (upF (upF (upF (upF f_0 30 y30_c9) 31 y31_c9) 32 y32_c9) 33 y33_c9) 39 y39_c9) A0 H0 H locs := hw
              refine j_iload_n E 58 rfl dX10_readAny_57 rfl (lv_at hl 0 rfl) ?_
              refine j_if_ne E 61 65 rfl rr29_ dX10_readAny_58 (by decide) (fun cc49_ => ?_) (fun cc49_ => ?_)
              · refine j_aload_n E 66 rfl dX10_readAny_65 rfl (lv_at hl 1 rfl) ?_
                refine j_iload_n E 67 rfl dX10_readAny_66 rfl (lv_at hl 0 rfl) ?_
                refine j_if_eq E 70 75 rfl rr29_ dX10_readAny_67 (by decide) (fun cc50_ => ?_) (fun cc50_ => ?_)
                · refine j_bipush E 77 rfl dX10_readAny_75 (by decide) ?_
                  refine m_callv E (c_X10_waits l D cy q (upN (upN (upN (upN (upN (upN (upN (upN (upN n_0 24 x24_c9) 25 x25_c9) 26 x26_c9) 27 x27_c9) 37 x37_c9) 38 (x38_c9 + 1)) 40 x40_c9) 41 x41_c9) 42 x42_c9) (upF (upF (upF (upF (upF f_0 30 y30_c9) 31 y31_c9) 32 y32_c9) 33 y33_c9) 39 y39_c9) 13  (rr (by decide)) (show 0 ≤ (x40_c9) ∧ (x40_c9) < 40 from by omega)) rfl mt_X10_waits ml_X10_291 hK hw hA ⟨Nat.le_of_ble_eq_true rfl, Nat.le_of_ble_eq_true rfl⟩ (As := [.int (J 13)]) (rest := []) rfl rfl hl.1 (Nat.le_of_ble_eq_true rfl) 80 rfl dX10_readAny_77 (fun n_51 f_51 H locs hq51_ hw => ?_)
                  obtain ⟨x40_51, y39_51, en51_, ef51_, hq51_⟩ := hq51_
                  rw [en51_, ef51_] at hw; clear en51_ ef51_
                  have hw : WM D cy q (upN (upN (upN (upN (upN (upN (upN (upN (upN n_0 24 x24_c9) 25 x25_c9) 26 x26_c9) 27 x27_c9) 37 x37_c9) 38 (x38_c9 + 1)) 40 x40_51) 41 x41_c9) 42 x42_c9) (upF (upF (upF (upF (upF f_0 30 y30_c9) 31 y31_c9) 32 y32_c9) 33 y33_c9) 39 y39_51) A0 H0 H locs := hw
                  have rx40_51 : inR x40_51 := mRn_40 hw.1.2.2.1
                  have hh51_ : (y39_51) = upA (y39_c9) (x40_c9) (13 : Int) ∧ (x40_51) = (x40_c9) + 1 := hq51_
                  clear hq51_
                  have hw_ := hh51_
                  refine j_aload_n E 81 rfl dX10_readAny_80 rfl (lv_at hl 1 rfl) ?_
                  refine m_callv E (c_X10_next l D cy q (upN (upN (upN (upN (upN (upN (upN (upN (upN n_0 24 x24_c9) 25 x25_c9) 26 x26_c9) 27 x27_c9) 37 x37_c9) 38 (x38_c9 + 1)) 40 x40_51) 41 x41_c9) 42 x42_c9) (upF (upF (upF (upF (upF f_0 30 y30_c9) 31 y31_c9) 32 y32_c9) 33 y33_c9) 39 y39_51)    (show 0 ≤ (n_0 29) ∧ (n_0 29) < 32 from by omega) (show 0 ≤ (n_0 23) ∧ (n_0 23) ≤ 400 from by omega) (show Wds_ (f_0 28) from hp2) (show 0 ≤ (x24_c9) ∧ (x24_c9) ≤ (n_0 23) from by omega) (show 0 ≤ (y31_c9 ((n_0 29))) ∧ (y31_c9 ((n_0 29))) ≤ (x24_c9) from by omega)) rfl mt_X10_next ml_X10_269 hK hw hA ⟨Nat.le_of_ble_eq_true rfl, Nat.le_of_ble_eq_true rfl⟩ (As := []) (rest := []) rfl rfl hl.1 (Nat.le_of_ble_eq_true rfl) 84 rfl dX10_readAny_81 (fun n_52 f_52 H locs hq52_ hw => ?_)
                  obtain ⟨x24_52, x25_52, x26_52, x27_52, y30_52, y31_52, en52_, ef52_, hq52_⟩ := hq52_
                  rw [en52_, ef52_] at hw; clear en52_ ef52_
                  have hw : WM D cy q (upN (upN (upN (upN (upN (upN (upN (upN (upN n_0 24 x24_52) 25 x25_52) 26 x26_52) 27 x27_52) 37 x37_c9) 38 (x38_c9 + 1)) 40 x40_51) 41 x41_c9) 42 x42_c9) (upF (upF (upF (upF (upF f_0 30 y30_52) 31 y31_52) 32 y32_c9) 33 y33_c9) 39 y39_51) A0 H0 H locs := hw
                  have rx24_52 : inR x24_52 := mRn_24 hw.1.2.2.1
                  have rx25_52 : inR x25_52 := mRn_25 hw.1.2.2.1
                  have rx26_52 : inR x26_52 := mRn_26 hw.1.2.2.1
                  have rx27_52 : inR x27_52 := mRn_27 hw.1.2.2.1
                  have hh52_ : (0 ≤ (x25_52) ∧ (x25_52) ≤ (x24_52) ∧ (x24_52) ≤ (n_0 23)) ∧ (0 ≤ (y31_52 ((n_0 29))) ∧ (y31_52 ((n_0 29))) ≤ (x24_52)) ∧ (0 ≤ (x26_52) ∧ (x26_52) ≤ 4) ∧ (¬ (x26_52) = 0 → (x25_52) < (x24_52)) ∧ ((x26_52) = 3 → 0 ≤ (x27_52) ∧ (x27_52) ≤ 9999) ∧ (x24_c9) ≤ (x25_52) ∧ (∀ i, i ≠ (n_0 29) → (y31_52 i) = (y31_c9 i)) := hq52_
                  clear hq52_
                  have hk_ := hh52_.2.2.2.2.2.2
                  refine j_goto E 9 dX10_readAny_84 (by decide) ?_
                  exact ih9 gb gd x24_52 x25_52 x26_52 x27_52 x37_c9 (x38_c9 + 1) x40_51 x41_c9 x42_c9 y30_52 y31_52 y32_c9 y33_c9 y39_51 H locs ls r_gb r_gd (⟨by omega, by omega, if_, tk_tr ik_ hk_, fun h_ => absurd h_ (by omega), ez_, iz_, by rw [hw_.1, hw_.2]; exact Pk_push ip_ (by omega)⟩) (by omega) hw (lv_sub hl [1, 2, 3] rfl)
                · refine j_bipush E 72 rfl dX10_readAny_70 (by decide) ?_
                  refine j_goto E 77 dX10_readAny_72 (by decide) ?_
                  refine m_callv E (c_X10_waits l D cy q (upN (upN (upN (upN (upN (upN (upN (upN (upN n_0 24 x24_c9) 25 x25_c9) 26 x26_c9) 27 x27_c9) 37 x37_c9) 38 (x38_c9 + 1)) 40 x40_c9) 41 x41_c9) 42 x42_c9) (upF (upF (upF (upF (upF f_0 30 y30_c9) 31 y31_c9) 32 y32_c9) 33 y33_c9) 39 y39_c9) 10  (rr (by decide)) (show 0 ≤ (x40_c9) ∧ (x40_c9) < 40 from by omega)) rfl mt_X10_waits ml_X10_291 hK hw hA ⟨Nat.le_of_ble_eq_true rfl, Nat.le_of_ble_eq_true rfl⟩ (As := [.int (J 10)]) (rest := []) rfl rfl hl.1 (Nat.le_of_ble_eq_true rfl) 80 rfl dX10_readAny_77 (fun n_53 f_53 H locs hq53_ hw => ?_)
                  obtain ⟨x40_53, y39_53, en53_, ef53_, hq53_⟩ := hq53_
                  rw [en53_, ef53_] at hw; clear en53_ ef53_
                  have hw : WM D cy q (upN (upN (upN (upN (upN (upN (upN (upN (upN n_0 24 x24_c9) 25 x25_c9) 26 x26_c9) 27 x27_c9) 37 x37_c9) 38 (x38_c9 + 1)) 40 x40_53) 41 x41_c9) 42 x42_c9) (upF (upF (upF (upF (upF f_0 30 y30_c9) 31 y31_c9) 32 y32_c9) 33 y33_c9) 39 y39_53) A0 H0 H locs := hw
                  have rx40_53 : inR x40_53 := mRn_40 hw.1.2.2.1
                  have hh53_ : (y39_53) = upA (y39_c9) (x40_c9) (10 : Int) ∧ (x40_53) = (x40_c9) + 1 := hq53_
                  clear hq53_
                  have hw_ := hh53_
                  refine j_aload_n E 81 rfl dX10_readAny_80 rfl (lv_at hl 1 rfl) ?_
                  refine m_callv E (c_X10_next l D cy q (upN (upN (upN (upN (upN (upN (upN (upN (upN n_0 24 x24_c9) 25 x25_c9) 26 x26_c9) 27 x27_c9) 37 x37_c9) 38 (x38_c9 + 1)) 40 x40_53) 41 x41_c9) 42 x42_c9) (upF (upF (upF (upF (upF f_0 30 y30_c9) 31 y31_c9) 32 y32_c9) 33 y33_c9) 39 y39_53)    (show 0 ≤ (n_0 29) ∧ (n_0 29) < 32 from by omega) (show 0 ≤ (n_0 23) ∧ (n_0 23) ≤ 400 from by omega) (show Wds_ (f_0 28) from hp2) (show 0 ≤ (x24_c9) ∧ (x24_c9) ≤ (n_0 23) from by omega) (show 0 ≤ (y31_c9 ((n_0 29))) ∧ (y31_c9 ((n_0 29))) ≤ (x24_c9) from by omega)) rfl mt_X10_next ml_X10_269 hK hw hA ⟨Nat.le_of_ble_eq_true rfl, Nat.le_of_ble_eq_true rfl⟩ (As := []) (rest := []) rfl rfl hl.1 (Nat.le_of_ble_eq_true rfl) 84 rfl dX10_readAny_81 (fun n_54 f_54 H locs hq54_ hw => ?_)
                  obtain ⟨x24_54, x25_54, x26_54, x27_54, y30_54, y31_54, en54_, ef54_, hq54_⟩ := hq54_
                  rw [en54_, ef54_] at hw; clear en54_ ef54_
                  have hw : WM D cy q (upN (upN (upN (upN (upN (upN (upN (upN (upN n_0 24 x24_54) 25 x25_54) 26 x26_54) 27 x27_54) 37 x37_c9) 38 (x38_c9 + 1)) 40 x40_53) 41 x41_c9) 42 x42_c9) (upF (upF (upF (upF (upF f_0 30 y30_54) 31 y31_54) 32 y32_c9) 33 y33_c9) 39 y39_53) A0 H0 H locs := hw
                  have rx24_54 : inR x24_54 := mRn_24 hw.1.2.2.1
                  have rx25_54 : inR x25_54 := mRn_25 hw.1.2.2.1
                  have rx26_54 : inR x26_54 := mRn_26 hw.1.2.2.1
                  have rx27_54 : inR x27_54 := mRn_27 hw.1.2.2.1
                  have hh54_ : (0 ≤ (x25_54) ∧ (x25_54) ≤ (x24_54) ∧ (x24_54) ≤ (n_0 23)) ∧ (0 ≤ (y31_54 ((n_0 29))) ∧ (y31_54 ((n_0 29))) ≤ (x24_54)) ∧ (0 ≤ (x26_54) ∧ (x26_54) ≤ 4) ∧ (¬ (x26_54) = 0 → (x25_54) < (x24_54)) ∧ ((x26_54) = 3 → 0 ≤ (x27_54) ∧ (x27_54) ≤ 9999) ∧ (x24_c9) ≤ (x25_54) ∧ (∀ i, i ≠ (n_0 29) → (y31_54 i) = (y31_c9 i)) := hq54_
                  clear hq54_
                  have hk_ := hh54_.2.2.2.2.2.2
                  refine j_goto E 9 dX10_readAny_84 (by decide) ?_
                  exact ih9 gb gd x24_54 x25_54 x26_54 x27_54 x37_c9 (x38_c9 + 1) x40_53 x41_c9 x42_c9 y30_54 y31_54 y32_c9 y33_c9 y39_53 H locs ls r_gb r_gd (⟨by omega, by omega, if_, tk_tr ik_ hk_, fun h_ => absurd h_ (by omega), ez_, iz_, by rw [hw_.1, hw_.2]; exact Pk_push ip_ (by omega)⟩) (by omega) hw (lv_sub hl [1, 2, 3] rfl)
              · refine j_iload_n E 62 rfl dX10_readAny_61 rfl (lv_at hl 2 rfl) ?_
                refine j_iconst E 63 rfl dX10_readAny_62 ?_
                refine j_iadd E 64 rfl dX10_readAny_63 ?_
                refine j_istore_n E 65 rfl [(1, .int (J (gb + 1))), (3, .int (J zz29_)), (0, .ref (q 0)), (2, .int (J gd))] dX10_readAny_64 rfl hl (by decide) rfl (fun ls hl => ?_)
                refine j_aload_n E 66 rfl dX10_readAny_65 rfl (lv_at hl 2 rfl) ?_
                refine j_iload_n E 67 rfl dX10_readAny_66 rfl (lv_at hl 1 rfl) ?_
                refine j_if_eq E 70 75 rfl rr29_ dX10_readAny_67 (by decide) (fun cc55_ => ?_) (fun cc55_ => ?_)
                · refine j_bipush E 77 rfl dX10_readAny_75 (by decide) ?_
                  refine m_callv E (c_X10_waits l D cy q (upN (upN (upN (upN (upN (upN (upN (upN (upN n_0 24 x24_c9) 25 x25_c9) 26 x26_c9) 27 x27_c9) 37 x37_c9) 38 (x38_c9 + 1)) 40 x40_c9) 41 x41_c9) 42 x42_c9) (upF (upF (upF (upF (upF f_0 30 y30_c9) 31 y31_c9) 32 y32_c9) 33 y33_c9) 39 y39_c9) 13  (rr (by decide)) (show 0 ≤ (x40_c9) ∧ (x40_c9) < 40 from by omega)) rfl mt_X10_waits ml_X10_291 hK hw hA ⟨Nat.le_of_ble_eq_true rfl, Nat.le_of_ble_eq_true rfl⟩ (As := [.int (J 13)]) (rest := []) rfl rfl hl.1 (Nat.le_of_ble_eq_true rfl) 80 rfl dX10_readAny_77 (fun n_56 f_56 H locs hq56_ hw => ?_)
                  obtain ⟨x40_56, y39_56, en56_, ef56_, hq56_⟩ := hq56_
                  rw [en56_, ef56_] at hw; clear en56_ ef56_
                  have hw : WM D cy q (upN (upN (upN (upN (upN (upN (upN (upN (upN n_0 24 x24_c9) 25 x25_c9) 26 x26_c9) 27 x27_c9) 37 x37_c9) 38 (x38_c9 + 1)) 40 x40_56) 41 x41_c9) 42 x42_c9) (upF (upF (upF (upF (upF f_0 30 y30_c9) 31 y31_c9) 32 y32_c9) 33 y33_c9) 39 y39_56) A0 H0 H locs := hw
                  have rx40_56 : inR x40_56 := mRn_40 hw.1.2.2.1
                  have hh56_ : (y39_56) = upA (y39_c9) (x40_c9) (13 : Int) ∧ (x40_56) = (x40_c9) + 1 := hq56_
                  clear hq56_
                  have hw_ := hh56_
                  refine j_aload_n E 81 rfl dX10_readAny_80 rfl (lv_at hl 2 rfl) ?_
                  refine m_callv E (c_X10_next l D cy q (upN (upN (upN (upN (upN (upN (upN (upN (upN n_0 24 x24_c9) 25 x25_c9) 26 x26_c9) 27 x27_c9) 37 x37_c9) 38 (x38_c9 + 1)) 40 x40_56) 41 x41_c9) 42 x42_c9) (upF (upF (upF (upF (upF f_0 30 y30_c9) 31 y31_c9) 32 y32_c9) 33 y33_c9) 39 y39_56)    (show 0 ≤ (n_0 29) ∧ (n_0 29) < 32 from by omega) (show 0 ≤ (n_0 23) ∧ (n_0 23) ≤ 400 from by omega) (show Wds_ (f_0 28) from hp2) (show 0 ≤ (x24_c9) ∧ (x24_c9) ≤ (n_0 23) from by omega) (show 0 ≤ (y31_c9 ((n_0 29))) ∧ (y31_c9 ((n_0 29))) ≤ (x24_c9) from by omega)) rfl mt_X10_next ml_X10_269 hK hw hA ⟨Nat.le_of_ble_eq_true rfl, Nat.le_of_ble_eq_true rfl⟩ (As := []) (rest := []) rfl rfl hl.1 (Nat.le_of_ble_eq_true rfl) 84 rfl dX10_readAny_81 (fun n_57 f_57 H locs hq57_ hw => ?_)
                  obtain ⟨x24_57, x25_57, x26_57, x27_57, y30_57, y31_57, en57_, ef57_, hq57_⟩ := hq57_
                  rw [en57_, ef57_] at hw; clear en57_ ef57_
                  have hw : WM D cy q (upN (upN (upN (upN (upN (upN (upN (upN (upN n_0 24 x24_57) 25 x25_57) 26 x26_57) 27 x27_57) 37 x37_c9) 38 (x38_c9 + 1)) 40 x40_56) 41 x41_c9) 42 x42_c9) (upF (upF (upF (upF (upF f_0 30 y30_57) 31 y31_57) 32 y32_c9) 33 y33_c9) 39 y39_56) A0 H0 H locs := hw
                  have rx24_57 : inR x24_57 := mRn_24 hw.1.2.2.1
                  have rx25_57 : inR x25_57 := mRn_25 hw.1.2.2.1
                  have rx26_57 : inR x26_57 := mRn_26 hw.1.2.2.1
                  have rx27_57 : inR x27_57 := mRn_27 hw.1.2.2.1
                  have hh57_ : (0 ≤ (x25_57) ∧ (x25_57) ≤ (x24_57) ∧ (x24_57) ≤ (n_0 23)) ∧ (0 ≤ (y31_57 ((n_0 29))) ∧ (y31_57 ((n_0 29))) ≤ (x24_57)) ∧ (0 ≤ (x26_57) ∧ (x26_57) ≤ 4) ∧ (¬ (x26_57) = 0 → (x25_57) < (x24_57)) ∧ ((x26_57) = 3 → 0 ≤ (x27_57) ∧ (x27_57) ≤ 9999) ∧ (x24_c9) ≤ (x25_57) ∧ (∀ i, i ≠ (n_0 29) → (y31_57 i) = (y31_c9 i)) := hq57_
                  clear hq57_
                  have hk_ := hh57_.2.2.2.2.2.2
                  refine j_goto E 9 dX10_readAny_84 (by decide) ?_
                  exact ih9 (gb + 1) gd x24_57 x25_57 x26_57 x27_57 x37_c9 (x38_c9 + 1) x40_56 x41_c9 x42_c9 y30_57 y31_57 y32_c9 y33_c9 y39_56 H locs ls (rr (by omega)) r_gd (⟨by omega, by omega, if_, tk_tr ik_ hk_, fun h_ => absurd h_ (by omega), ez_, iz_, by rw [hw_.1, hw_.2]; exact Pk_push ip_ (by omega)⟩) (by omega) hw (lv_sub hl [2, 0, 3] rfl)
                · refine j_bipush E 72 rfl dX10_readAny_70 (by decide) ?_
                  refine j_goto E 77 dX10_readAny_72 (by decide) ?_
                  refine m_callv E (c_X10_waits l D cy q (upN (upN (upN (upN (upN (upN (upN (upN (upN n_0 24 x24_c9) 25 x25_c9) 26 x26_c9) 27 x27_c9) 37 x37_c9) 38 (x38_c9 + 1)) 40 x40_c9) 41 x41_c9) 42 x42_c9) (upF (upF (upF (upF (upF f_0 30 y30_c9) 31 y31_c9) 32 y32_c9) 33 y33_c9) 39 y39_c9) 10  (rr (by decide)) (show 0 ≤ (x40_c9) ∧ (x40_c9) < 40 from by omega)) rfl mt_X10_waits ml_X10_291 hK hw hA ⟨Nat.le_of_ble_eq_true rfl, Nat.le_of_ble_eq_true rfl⟩ (As := [.int (J 10)]) (rest := []) rfl rfl hl.1 (Nat.le_of_ble_eq_true rfl) 80 rfl dX10_readAny_77 (fun n_58 f_58 H locs hq58_ hw => ?_)
                  obtain ⟨x40_58, y39_58, en58_, ef58_, hq58_⟩ := hq58_
                  rw [en58_, ef58_] at hw; clear en58_ ef58_
                  have hw : WM D cy q (upN (upN (upN (upN (upN (upN (upN (upN (upN n_0 24 x24_c9) 25 x25_c9) 26 x26_c9) 27 x27_c9) 37 x37_c9) 38 (x38_c9 + 1)) 40 x40_58) 41 x41_c9) 42 x42_c9) (upF (upF (upF (upF (upF f_0 30 y30_c9) 31 y31_c9) 32 y32_c9) 33 y33_c9) 39 y39_58) A0 H0 H locs := hw
                  have rx40_58 : inR x40_58 := mRn_40 hw.1.2.2.1
                  have hh58_ : (y39_58) = upA (y39_c9) (x40_c9) (10 : Int) ∧ (x40_58) = (x40_c9) + 1 := hq58_
                  clear hq58_
                  have hw_ := hh58_
                  refine j_aload_n E 81 rfl dX10_readAny_80 rfl (lv_at hl 2 rfl) ?_
                  refine m_callv E (c_X10_next l D cy q (upN (upN (upN (upN (upN (upN (upN (upN (upN n_0 24 x24_c9) 25 x25_c9) 26 x26_c9) 27 x27_c9) 37 x37_c9) 38 (x38_c9 + 1)) 40 x40_58) 41 x41_c9) 42 x42_c9) (upF (upF (upF (upF (upF f_0 30 y30_c9) 31 y31_c9) 32 y32_c9) 33 y33_c9) 39 y39_58)    (show 0 ≤ (n_0 29) ∧ (n_0 29) < 32 from by omega) (show 0 ≤ (n_0 23) ∧ (n_0 23) ≤ 400 from by omega) (show Wds_ (f_0 28) from hp2) (show 0 ≤ (x24_c9) ∧ (x24_c9) ≤ (n_0 23) from by omega) (show 0 ≤ (y31_c9 ((n_0 29))) ∧ (y31_c9 ((n_0 29))) ≤ (x24_c9) from by omega)) rfl mt_X10_next ml_X10_269 hK hw hA ⟨Nat.le_of_ble_eq_true rfl, Nat.le_of_ble_eq_true rfl⟩ (As := []) (rest := []) rfl rfl hl.1 (Nat.le_of_ble_eq_true rfl) 84 rfl dX10_readAny_81 (fun n_59 f_59 H locs hq59_ hw => ?_)
                  obtain ⟨x24_59, x25_59, x26_59, x27_59, y30_59, y31_59, en59_, ef59_, hq59_⟩ := hq59_
                  rw [en59_, ef59_] at hw; clear en59_ ef59_
                  have hw : WM D cy q (upN (upN (upN (upN (upN (upN (upN (upN (upN n_0 24 x24_59) 25 x25_59) 26 x26_59) 27 x27_59) 37 x37_c9) 38 (x38_c9 + 1)) 40 x40_58) 41 x41_c9) 42 x42_c9) (upF (upF (upF (upF (upF f_0 30 y30_59) 31 y31_59) 32 y32_c9) 33 y33_c9) 39 y39_58) A0 H0 H locs := hw
                  have rx24_59 : inR x24_59 := mRn_24 hw.1.2.2.1
                  have rx25_59 : inR x25_59 := mRn_25 hw.1.2.2.1
                  have rx26_59 : inR x26_59 := mRn_26 hw.1.2.2.1
                  have rx27_59 : inR x27_59 := mRn_27 hw.1.2.2.1
                  have hh59_ : (0 ≤ (x25_59) ∧ (x25_59) ≤ (x24_59) ∧ (x24_59) ≤ (n_0 23)) ∧ (0 ≤ (y31_59 ((n_0 29))) ∧ (y31_59 ((n_0 29))) ≤ (x24_59)) ∧ (0 ≤ (x26_59) ∧ (x26_59) ≤ 4) ∧ (¬ (x26_59) = 0 → (x25_59) < (x24_59)) ∧ ((x26_59) = 3 → 0 ≤ (x27_59) ∧ (x27_59) ≤ 9999) ∧ (x24_c9) ≤ (x25_59) ∧ (∀ i, i ≠ (n_0 29) → (y31_59 i) = (y31_c9 i)) := hq59_
                  clear hq59_
                  have hk_ := hh59_.2.2.2.2.2.2
                  refine j_goto E 9 dX10_readAny_84 (by decide) ?_
                  exact ih9 (gb + 1) gd x24_59 x25_59 x26_59 x27_59 x37_c9 (x38_c9 + 1) x40_58 x41_c9 x42_c9 y30_59 y31_59 y32_c9 y33_c9 y39_58 H locs ls (rr (by omega)) r_gd (⟨by omega, by omega, if_, tk_tr ik_ hk_, fun h_ => absurd h_ (by omega), ez_, iz_, by rw [hw_.1, hw_.2]; exact Pk_push ip_ (by omega)⟩) (by omega) hw (lv_sub hl [2, 0, 3] rfl)
            · refine j_aload_n E 42 rfl dX10_readAny_41 rfl (lv_at hl 1 rfl) ?_
              refine j_iconst E 43 rfl dX10_readAny_42 ?_
              refine m_calli E (c_X10_fails l D cy q (upN (upN (upN (upN (upN (upN (upN (upN (upN n_0 24 x24_c9) 25 x25_c9) 26 x26_c9) 27 x27_c9) 37 x37_c9) 38 x38_c9) 40 x40_c9) 41 x41_c9) 42 x42_c9) (upF (upF (upF (upF (upF f_0 30 y30_c9) 31 y31_c9) 32 y32_c9) 33 y33_c9) 39 y39_c9) 3  (rr (by decide)) ) rfl mt_X10_fails ml_X10_262 hK hw hA ⟨Nat.le_of_ble_eq_true rfl, Nat.le_of_ble_eq_true rfl⟩ (As := [.int (J 3)]) (rest := []) rfl rfl hl.1 (Nat.le_of_ble_eq_true rfl) 46 rfl dX10_readAny_43 (fun zz60_ n_60 f_60 H locs rr60_ hq60_ hw => ?_)
              obtain ⟨x41_60, x42_60, en60_, ef60_, hq60_⟩ := hq60_
              rw [en60_, ef60_] at hw; clear en60_ ef60_
              have hw : WM D cy q (upN (upN (upN (upN (upN (upN (upN (upN (upN n_0 24 x24_c9) 25 x25_c9) 26 x26_c9) 27 x27_c9) 37 x37_c9) 38 x38_c9) 40 x40_c9) 41 x41_60) 42 x42_60) (upF (upF (upF (upF (upF f_0 30 y30_c9) 31 y31_c9) 32 y32_c9) 33 y33_c9) 39 y39_c9) A0 H0 H locs := hw
              have rx41_60 : inR x41_60 := mRn_41 hw.1.2.2.1
              have rx42_60 : inR x42_60 := mRn_42 hw.1.2.2.1
              have hh60_ : zz60_ = -1 := hq60_
              clear hq60_
              exact hret 46 zz60_ (upN (upN (upN (upN (upN (upN (upN (upN (upN n_0 24 x24_c9) 25 x25_c9) 26 x26_c9) 27 x27_c9) 37 x37_c9) 38 x38_c9) 40 x40_c9) 41 x41_60) 42 x42_60) (upF (upF (upF (upF (upF f_0 30 y30_c9) 31 y31_c9) 32 y32_c9) 33 y33_c9) 39 y39_c9) _ _ ls hw rr60_ ⟨x24_c9, x25_c9, x26_c9, x27_c9, x37_c9, x38_c9, x40_c9, x41_60, x42_60, y30_c9, y31_c9, y32_c9, y33_c9, y39_c9, rfl, rfl, Or.inl ⟨by omega, if_, ik_, by omega⟩⟩ dX10_readAny_46
          · subst ee45_
            refine j_if_eq E 32 87 rfl (rr (by decide)) dX10_readAny_29 (by decide) (fun _ => ?_) (fun cc61_ => absurd cc61_ (by decide))
            refine j_aload_n E 88 rfl dX10_readAny_87 rfl (lv_at hl 1 rfl) ?_
            refine m_calli E (c_X10_readCompared l D cy q (upN (upN (upN (upN (upN (upN (upN (upN (upN n_0 24 x24_c9) 25 x25_c9) 26 x26_c9) 27 x27_c9) 37 x37_c9) 38 x38_c9) 40 x40_c9) 41 x41_c9) 42 x42_c9) (upF (upF (upF (upF (upF f_0 30 y30_c9) 31 y31_c9) 32 y32_c9) 33 y33_c9) 39 y39_c9)  ((x40_c9)) (n_0 37) ez_  (show 0 ≤ (n_0 29) ∧ (n_0 29) < 32 from by omega) (show 0 ≤ (n_0 23) ∧ (n_0 23) ≤ 400 from by omega) (show Wds_ (f_0 28) from hp2) (show 0 ≤ ((x40_c9)) ∧ (0 ≤ (x25_c9) ∧ (x25_c9) ≤ (x24_c9) ∧ (x24_c9) ≤ (n_0 23)) ∧ (0 ≤ (y31_c9 ((n_0 29))) ∧ (y31_c9 ((n_0 29))) ≤ (x24_c9)) ∧ (0 ≤ (x26_c9) ∧ (x26_c9) ≤ 4) ∧ (¬ (x26_c9) = 0 → (x25_c9) < (x24_c9)) ∧ ((x26_c9) = 3 → 0 ≤ (x27_c9) ∧ (x27_c9) ≤ 9999) ∧ (0 ≤ (n_0 37) ∧ (n_0 37) ≤ (x37_c9)) ∧ (x37_c9) + ((x40_c9)) ≤ (x25_c9) from by omega) (show Pz_ (y32_c9) (y33_c9) (400 * (n_0 29) + (n_0 37)) (400 * (n_0 29) + (x37_c9)) ez_ from iz_)) rfl mt_X10_readCompared ml_X10_294 hK hw hA ⟨Nat.le_of_ble_eq_true rfl, Nat.le_of_ble_eq_true rfl⟩ (As := []) (rest := []) rfl rfl hl.1 (Nat.le_of_ble_eq_true rfl) 91 rfl dX10_readAny_88 (fun zz62_ n_62 f_62 H locs rr62_ hq62_ hw => ?_)
            obtain ⟨x24_62, x25_62, x26_62, x27_62, x37_62, x41_62, x42_62, y30_62, y31_62, y32_62, y33_62, en62_, ef62_, hq62_⟩ := hq62_
            rw [en62_, ef62_] at hw; clear en62_ ef62_
            have hw : WM D cy q (upN (upN (upN (upN (upN (upN (upN (upN (upN n_0 24 x24_62) 25 x25_62) 26 x26_62) 27 x27_62) 37 x37_62) 38 x38_c9) 40 x40_c9) 41 x41_62) 42 x42_62) (upF (upF (upF (upF (upF f_0 30 y30_62) 31 y31_62) 32 y32_62) 33 y33_62) 39 y39_c9) A0 H0 H locs := hw
            have rx24_62 : inR x24_62 := mRn_24 hw.1.2.2.1
            have rx25_62 : inR x25_62 := mRn_25 hw.1.2.2.1
            have rx26_62 : inR x26_62 := mRn_26 hw.1.2.2.1
            have rx27_62 : inR x27_62 := mRn_27 hw.1.2.2.1
            have rx37_62 : inR x37_62 := mRn_37 hw.1.2.2.1
            have rx41_62 : inR x41_62 := mRn_41 hw.1.2.2.1
            have rx42_62 : inR x42_62 := mRn_42 hw.1.2.2.1
            have hh62_ : (zz62_ = -1 ∧ Fr_ (y32_c9) (y33_c9) (y32_62) (y33_62) (400 * (n_0 29) + (x37_c9)) ∧ (∀ i, i ≠ (n_0 29) → (y31_62 i) = (y31_c9 i)) ∧ (0 ≤ (y31_62 ((n_0 29))) ∧ (y31_62 ((n_0 29))) ≤ 400)) ∨ (zz62_ = 0 ∧ Fr_ (y32_c9) (y33_c9) (y32_62) (y33_62) (400 * (n_0 29) + (x37_c9)) ∧ (∀ i, i ≠ (n_0 29) → (y31_62 i) = (y31_c9 i)) ∧ (0 ≤ (y31_62 ((n_0 29))) ∧ (y31_62 ((n_0 29))) ≤ 400) ∧ ((0 ≤ (x25_62) ∧ (x25_62) ≤ (x24_62) ∧ (x24_62) ≤ (n_0 23)) ∧ (0 ≤ (y31_62 ((n_0 29))) ∧ (y31_62 ((n_0 29))) ≤ (x24_62)) ∧ (0 ≤ (x26_62) ∧ (x26_62) ≤ 4) ∧ (¬ (x26_62) = 0 → (x25_62) < (x24_62)) ∧ ((x26_62) = 3 → 0 ≤ (x27_62) ∧ (x27_62) ≤ 9999) ∧ (0 ≤ (n_0 37) ∧ (n_0 37) ≤ (x37_62)) ∧ (x37_62) + ((x40_c9)) ≤ (x25_62)) ∧ (x25_c9) < (x25_62) ∧ (x37_c9) ≤ (x37_62) ∧ Pz_ (y32_62) (y33_62) (400 * (n_0 29) + (n_0 37)) (400 * (n_0 29) + (x37_62)) (ez_ + 1)) := hq62_
            clear hq62_
            rcases hh62_ with ⟨ee62_, hh62_⟩ | ⟨ee62_, hh62_⟩
            · subst ee62_
              have hx_ := hh62_
              refine j_iconst E 92 rfl dX10_readAny_91 ?_
              refine j_icmp_ne E 95 97 rfl (rr (by decide)) (rr (by decide)) dX10_readAny_92 (by decide) (fun cc63_ => absurd cc63_ (by decide)) (fun _ => ?_)
              refine j_iconst E 96 rfl dX10_readAny_95 ?_
              exact hret 96 ((-1)) (upN (upN (upN (upN (upN (upN (upN (upN (upN n_0 24 x24_62) 25 x25_62) 26 x26_62) 27 x27_62) 37 x37_62) 38 x38_c9) 40 x40_c9) 41 x41_62) 42 x42_62) (upF (upF (upF (upF (upF f_0 30 y30_62) 31 y31_62) 32 y32_62) 33 y33_62) 39 y39_c9) _ _ ls hw (rr (by decide)) ⟨x24_62, x25_62, x26_62, x27_62, x37_62, x38_c9, x40_c9, x41_62, x42_62, y30_62, y31_62, y32_62, y33_62, y39_c9, rfl, rfl, Or.inl ⟨rfl, Fr_tr if_ hx_.1 (by omega), tk_tr ik_ hx_.2.1, hx_.2.2⟩⟩ dX10_readAny_96
            · subst ee62_
              have h2_ := hh62_
              have hb2_ := (h2_.2.2.2.2.2.2).2
              refine j_iconst E 92 rfl dX10_readAny_91 ?_
              refine j_icmp_ne E 95 97 rfl (rr (by decide)) (rr (by decide)) dX10_readAny_92 (by decide) (fun _ => ?_) (fun cc64_ => absurd cc64_ (by decide))
              refine j_aload_n E 98 rfl dX10_readAny_97 rfl (lv_at hl 1 rfl) ?_
              refine j_bipush E 100 rfl dX10_readAny_98 (by decide) ?_
              refine m_callv E (c_X10_settles l D cy q (upN (upN (upN (upN (upN (upN (upN (upN (upN n_0 24 x24_62) 25 x25_62) 26 x26_62) 27 x27_62) 37 x37_62) 38 x38_c9) 40 x40_c9) 41 x41_62) 42 x42_62) (upF (upF (upF (upF (upF f_0 30 y30_62) 31 y31_62) 32 y32_62) 33 y33_62) 39 y39_c9) 10 (n_0 37) (ez_ + 1) gb (rr (by decide)) (show 0 ≤ (n_0 29) ∧ (n_0 29) < 32 from by omega) (show ((10 : Int) : Int) = 10 ∨ ((10 : Int) : Int) = 11 ∨ ((10 : Int) : Int) = 12 from by omega) (show 0 ≤ (n_0 37) ∧ (n_0 37) ≤ (x37_62) ∧ (x37_62) + (x40_c9) ≤ 400 ∧ (x38_c9) ≤ 8 from by omega) (show Pz_ (y32_62) (y33_62) (400 * (n_0 29) + (n_0 37)) (400 * (n_0 29) + (x37_62)) (ez_ + 1) from h2_.2.2.2.2.2.2) (show Pk_ (y39_c9) (x40_c9) (x38_c9) gb ((ez_ + 1) - 1) from Pk_eq ip_ (by omega))) rfl mt_X10_settles ml_X10_297 hK hw hA ⟨Nat.le_of_ble_eq_true rfl, Nat.le_of_ble_eq_true rfl⟩ (As := [.int (J 10)]) (rest := []) rfl rfl hl.1 (Nat.le_of_ble_eq_true rfl) 103 rfl dX10_readAny_100 (fun n_65 f_65 H locs hq65_ hw => ?_)
              obtain ⟨x40_65, x37_65, x38_65, y32_65, y33_65, en65_, ef65_, hq65_⟩ := hq65_
              rw [en65_, ef65_] at hw; clear en65_ ef65_
              have hw : WM D cy q (upN (upN (upN (upN (upN (upN (upN (upN (upN n_0 24 x24_62) 25 x25_62) 26 x26_62) 27 x27_62) 37 x37_65) 38 x38_65) 40 x40_65) 41 x41_62) 42 x42_62) (upF (upF (upF (upF (upF f_0 30 y30_62) 31 y31_62) 32 y32_65) 33 y33_65) 39 y39_c9) A0 H0 H locs := hw
              have rx40_65 : inR x40_65 := mRn_40 hw.1.2.2.1
              have rx37_65 : inR x37_65 := mRn_37 hw.1.2.2.1
              have rx38_65 : inR x38_65 := mRn_38 hw.1.2.2.1
              have hh65_ : Fr_ (y32_62) (y33_62) (y32_65) (y33_65) (400 * (n_0 29) + (x37_62)) ∧ ((x37_65) + (x40_65) = (x37_62) + (x40_c9) ∧ 0 ≤ (x40_65) ∧ (x40_65) ≤ (x40_c9) ∧ (x38_65) ≤ (x38_c9) ∧ (x37_62) ≤ (x37_65)) ∧ ((x40_65) = (x40_c9) ∨ (x40_65) = 0 ∨ ((10 : Int) : Int) = 10 ∨ (y39_c9 ((x40_65) - 1)) = 13 ∨ (((10 : Int) : Int) = 11 ∧ (y39_c9 ((x40_65) - 1)) = 12)) ∧ ((x40_65) = 0 ∨ ¬ (y39_c9 ((x40_65) - 1)) = (10 : Int)) ∧ (∃ e_, Pz_ (y32_65) (y33_65) (400 * (n_0 29) + (n_0 37)) (400 * (n_0 29) + (x37_65)) e_ ∧ Pk_ (y39_c9) (x40_65) (x38_65) gb (e_ - 1)) := hq65_
              clear hq65_
              obtain ⟨fr6_, ar6_, tp6_, nt6_, e6_, z6_, p6_⟩ := hh65_
              have nn6_ := Pk_nn p6_
              have bb6_ := z6_.2
              clear tp6_
              refine j_iconst E 104 rfl dX10_readAny_103 ?_
              refine j_istore_n E 105 rfl [(2, .int (J 0)), (3, .int (J zz29_)), (0, .ref (q 0)), (1, .int (J gb))] dX10_readAny_104 rfl hl (by decide) rfl (fun ls hl => ?_)
              refine j_goto E 9 dX10_readAny_105 (by decide) ?_
              exact ih9 gb 0 x24_62 x25_62 x26_62 x27_62 x37_65 x38_65 x40_65 x41_62 x42_62 y30_62 y31_62 y32_65 y33_65 y39_c9 H locs ls r_gb (rr (by decide)) (⟨by omega, by omega, Fr_tr (Fr_tr if_ h2_.1 (by omega)) fr6_ (by omega), tk_tr ik_ h2_.2.1, fun _ => nt6_, e6_, z6_, Pk_eq p6_ (by omega)⟩) (by omega) hw (lv_sub hl [2, 3, 0] rfl)
  exact L9_2 _ 0 1 (n_0 24) (n_0 25) (n_0 26) (n_0 27) (n_0 37) (n_0 38) 0 (n_0 41) (n_0 42) (f_0 30) (f_0 31) (f_0 32) (f_0 33) (f_0 39) H locs ls (rr (by decide)) (rr (by decide)) (⟨by omega, by omega, Fr_rf, fun i_ h_ => rfl, fun h_ => absurd h_ (by omega), 0, Pz_0, by rw [hp4]; exact Pk_eq Pk_0 (by omega)⟩) (mk_lt _) hw (lv_sub hl [2, 1, 0] rfl)
