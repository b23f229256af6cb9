
def Pz_ (op ar : Int → Int) (lo hi e : Int) : Prop := Seg_ op ar lo hi e ∧ 0 ≤ e ∧ e ≤ hi - lo
def Fr_ (op ar op2 ar2 : Int → Int) (m : Int) : Prop := ∀ k, k < m → op2 k = op k ∧ ar2 k = ar k
theorem Fr_rf {op ar : Int → Int} {m : Int} : Fr_ op ar op ar m := fun _ _ => ⟨rfl, rfl⟩
theorem Fr_tr {a b a2 b2 a3 b3 : Int → Int} {m m2 : Int} (h : Fr_ a b a2 b2 m) (h2 : Fr_ a2 b2 a3 b3 m2) (e : m ≤ m2) : Fr_ a b a3 b3 m := fun k hk => by
  have h3 := h k hk
  have h4 := h2 k (by omega)
  exact ⟨h4.1.trans h3.1, h4.2.trans h3.2⟩
theorem Fr_up {a b : Int → Int} {m i x y : Int} (e : m ≤ i) : Fr_ a b (upA a i x) (upA b i y) m := fun k hk => ⟨upA_ne (by omega), upA_ne (by omega)⟩
theorem Pz_0 {op ar : Int → Int} {lo : Int} : Pz_ op ar lo lo 0 := ⟨⟨fun _ => 0, rfl, rfl, fun k h1 h2 => absurd h2 (by omega)⟩, by omega, by omega⟩
theorem Pz_fr {a b a2 b2 : Int → Int} {lo hi e m : Int} (h : Pz_ a b lo hi e) (f : Fr_ a b a2 b2 m) (hm : hi ≤ m) : Pz_ a2 b2 lo hi e := by
  obtain ⟨⟨d, d0, d1, ds⟩, h2⟩ := h
  refine ⟨⟨d, d0, d1, fun k k1 k2 => ?_⟩, h2⟩
  have h3 := ds k k1 k2
  have h4 := f k (by omega)
  have h5 := f (k - 1) (by omega)
  refine ⟨h3.1, ?_⟩
  have h6 := h3.2
  unfold Stp_ at h6 ⊢
  rw [h4.1, h4.2, h5.1, h5.2]
  exact h6
/-- one more step at the end -/
theorem Pz_ext {a b : Int → Int} {lo hi e e2 x y : Int} (h : Pz_ a b lo hi e) (hl : lo ≤ hi) (he : 0 ≤ e2 ∧ e2 ≤ hi + 1 - lo)
    (hs : (x = 0 ∧ e2 = e + 1) ∨ (x = 1 ∧ (0 ≤ y ∧ y < 5) ∧ e2 = e + 1) ∨ (x = 2 ∧ (0 ≤ y ∧ y < 24) ∧ e2 = e + 1) ∨ (x = 10 ∧ 1 ≤ e ∧ e2 = e) ∨ ((3 ≤ x ∧ x ≤ 12 ∧ x ≠ 10) ∧ 2 ≤ e ∧ e2 = e - 1 ∧ (x = 6 → lo < hi ∧ a (hi - 1) = 0 ∧ b (hi - 1) ≠ 0))) : Pz_ (upA a hi x) (upA b hi y) lo (hi + 1) e2 := by
  obtain ⟨⟨d, d0, d1, ds⟩, h2⟩ := h
  refine ⟨⟨upA d (hi + 1) e2, ?_, upA_same _ _ _, fun k k1 k2 => ?_⟩, he⟩
  · rw [upA_ne (by omega)]; exact d0
  · by_cases ek : k = hi
    · subst ek
      rw [upA_ne (show k ≠ k + 1 by omega), d1]
      refine ⟨⟨by omega, by omega⟩, ?_⟩
      unfold Stp_
      rw [upA_same, upA_same, upA_same, upA_ne (show k ≠ k + 1 by omega), d1, upA_ne (show k - 1 ≠ k by omega), upA_ne (show k - 1 ≠ k by omega)]
      exact hs
    · have h3 := ds k k1 (by omega)
      rw [upA_ne (show k ≠ hi + 1 by omega)]
      refine ⟨h3.1, ?_⟩
      have h6 := h3.2
      unfold Stp_ at h6 ⊢
      rw [upA_ne (show k ≠ hi by omega), upA_ne (show k ≠ hi by omega), upA_ne (show k ≠ hi + 1 by omega), upA_ne (show k + 1 ≠ hi + 1 by omega), upA_ne (show k - 1 ≠ hi by omega), upA_ne (show k - 1 ≠ hi by omega)]
      exact h6
theorem tk_tr {a b c : Int → Int} {w : Int} (h : ∀ i, i ≠ w → b i = a i) (h2 : ∀ i, i ≠ w → c i = b i) : ∀ i, i ≠ w → c i = a i := fun i hi => (h2 i hi).trans (h i hi)

set_option maxHeartbeats 4000000 in
set_option maxRecDepth 100000 in
theorem c_X10_readUnit (l : Launch) (D : va_G) (cy : Nat → ClassId) (q : Nat → Nat) (n_0 : Nat → Int) (f_0 : Nat → Int → Int) (dl_ : Int) (lo_ : Int) (el_ : Int) (hp0 : 0 ≤ (n_0 29) ∧ (n_0 29) < 32) (hp1 : 0 ≤ (n_0 23) ∧ (n_0 23) ≤ 400) (hp2 : Wds_ (f_0 28)) (hp3 : 0 ≤ dl_ ∧ (0 ≤ (n_0 25) ∧ (n_0 25) ≤ (n_0 24) ∧ (n_0 24) ≤ (n_0 23)) ∧ (0 ≤ (f_0 31 ((n_0 29))) ∧ (f_0 31 ((n_0 29))) ≤ (n_0 24)) ∧ (0 ≤ (n_0 26) ∧ (n_0 26) ≤ 4) ∧ (¬ (n_0 26) = 0 → (n_0 25) < (n_0 24)) ∧ ((n_0 26) = 3 → 0 ≤ (n_0 27) ∧ (n_0 27) ≤ 9999) ∧ (0 ≤ lo_ ∧ lo_ ≤ (n_0 37)) ∧ (n_0 37) + dl_ ≤ (n_0 25)) (hp4 : Pz_ (f_0 32) (f_0 33) (400 * (n_0 29) + lo_) (400 * (n_0 29) + (n_0 37)) el_) : MC l D cy q yX10_readUnit cX10_readUnit 4 (some .int) 3 [] n_0 f_0 (PI (fun (z_0 : Int) (n_2 : Nat → Int) (f_2 : Nat → Int → Int) => ∃ (x24_2 : Int) (x25_2 : Int) (x26_2 : Int) (x27_2 : Int) (x37_2 : Int) (x41_2 : Int) (x42_2 : Int) (y30_2 : Int → Int) (y31_2 : Int → Int) (y32_2 : Int → Int) (y33_2 : Int → Int) , n_2 = upN (upN (upN (upN (upN (upN (upN n_0 24 x24_2) 25 x25_2) 26 x26_2) 27 x27_2) 37 x37_2) 41 x41_2) 42 x42_2 ∧ f_2 = upF (upF (upF (upF f_0 30 y30_2) 31 y31_2) 32 y32_2) 33 y33_2 ∧ ((z_0 = -1 ∧ Fr_ (f_0 32) (f_0 33) (y32_2) (y33_2) (400 * (n_0 29) + (n_0 37)) ∧ (∀ i, i ≠ (n_0 29) → (y31_2 i) = (f_0 31 i)) ∧ (0 ≤ (y31_2 ((n_0 29))) ∧ (y31_2 ((n_0 29))) ≤ 400)) ∨ (z_0 = 0 ∧ Fr_ (f_0 32) (f_0 33) (y32_2) (y33_2) (400 * (n_0 29) + (n_0 37)) ∧ (∀ i, i ≠ (n_0 29) → (y31_2 i) = (f_0 31 i)) ∧ (0 ≤ (y31_2 ((n_0 29))) ∧ (y31_2 ((n_0 29))) ≤ 400) ∧ ((0 ≤ (x25_2) ∧ (x25_2) ≤ (x24_2) ∧ (x24_2) ≤ (n_0 23)) ∧ (0 ≤ (y31_2 ((n_0 29))) ∧ (y31_2 ((n_0 29))) ≤ (x24_2)) ∧ (0 ≤ (x26_2) ∧ (x26_2) ≤ 4) ∧ (¬ (x26_2) = 0 → (x25_2) < (x24_2)) ∧ ((x26_2) = 3 → 0 ≤ (x27_2) ∧ (x27_2) ≤ 9999) ∧ (0 ≤ lo_ ∧ lo_ ≤ (x37_2)) ∧ (x37_2) + dl_ ≤ (x25_2)) ∧ (n_0 25) < (x25_2) ∧ (n_0 37) ≤ (x37_2) ∧ Pz_ (y32_2) (y33_2) (400 * (n_0 29) + lo_) (400 * (n_0 29) + (x37_2)) (el_ + 1) ∧ ((n_0 26) = 3 → (x37_2) = (n_0 37) + 1 ∧ (y32_2 (400 * (n_0 29) + (n_0 37))) = 0 ∧ (y33_2 (400 * (n_0 29) + (n_0 37))) = (n_0 27)))))) := by
  refine MC.ofi rfl (Nat.le_of_ble_eq_true rfl) ?_
  intro p e s m below meth c ls ar QW A0 H0 H locs E hK hA hw hl hret
  have hl : lv_has ls 4 [(0, .ref (q 0))] := hl
  have hb_ : 0 ≤ el_ ∧ el_ ≤ 400 * n_0 29 + n_0 37 - (400 * n_0 29 + lo_) := hp4.2
  refine j_aload_n E 1 rfl dX10_readUnit_0 rfl (lv_at hl 0 rfl) ?_
  refine j_bipush E 3 rfl dX10_readUnit_1 (by decide) ?_
  refine m_callp (po := fun z_0 => (z_0 = 1 ∧ (n_0 26) = 2 ∧ (n_0 27) = (11 : Int)) ∨ (z_0 = 0 ∧ ¬ ((n_0 26) = 2 ∧ (n_0 27) = (11 : Int)))) E (c_X10_isWord l D cy q (n_0) (f_0) 11  (rr (by decide)) ) rfl mt_X10_isWord ml_X10_259 hK hw hA ⟨Nat.le_of_ble_eq_true rfl, Nat.le_of_ble_eq_true rfl⟩ (As := [.int (J 11)]) (rest := []) rfl rfl hl.1 (Nat.le_of_ble_eq_true rfl) 6 rfl dX10_readUnit_3 (fun zz1_ H locs rr1_ hq1_ hw => ?_)
  have hh1_ : (zz1_ = 1 ∧ (n_0 26) = 2 ∧ (n_0 27) = (11 : Int)) ∨ (zz1_ = 0 ∧ ¬ ((n_0 26) = 2 ∧ (n_0 27) = (11 : Int))) := hq1_
  clear hq1_
  refine j_istore_n E 7 rfl [(1, .int (J zz1_)), (0, .ref (q 0))] dX10_readUnit_6 rfl hl (by decide) rfl (fun ls hl => ?_)
  refine j_aload_n E 8 rfl dX10_readUnit_7 rfl (lv_at hl 1 rfl) ?_
  refine m_get_26 E hK hw (n_0 26) rfl 11 rfl dX10_readUnit_8 (fun rr2_ => ?_)
  refine j_iconst E 12 rfl dX10_readUnit_11 ?_
  refine j_icmp_ne E 15 34 rfl rr2_ (rr (by decide)) dX10_readUnit_12 (by decide) (fun cc3_ => ?_) (fun cc3_ => ?_)
  · refine j_iconst E 35 rfl dX10_readUnit_34 ?_
    refine j_istore_n E 36 rfl [(2, .int (J 0)), (1, .int (J zz1_)), (0, .ref (q 0))] dX10_readUnit_35 rfl hl (by decide) rfl (fun ls hl => ?_)
    refine j_iload_n E 37 rfl dX10_readUnit_36 rfl (lv_at hl 1 rfl) ?_
    refine j_if_ne E 40 58 rfl rr1_ dX10_readUnit_37 (by decide) (fun cc4_ => ?_) (fun cc4_ => ?_)
    · refine j_aload_n E 59 rfl dX10_readUnit_58 rfl (lv_at hl 2 rfl) ?_
      refine m_get_27 E hK hw (n_0 27) rfl 62 rfl dX10_readUnit_59 (fun rr5_ => ?_)
      refine j_istore_n E 63 rfl [(3, .int (J (n_0 27))), (2, .int (J 0)), (1, .int (J zz1_)), (0, .ref (q 0))] dX10_readUnit_62 rfl hl (by decide) rfl (fun ls hl => ?_)
      refine j_iload_n E 64 rfl dX10_readUnit_63 rfl (lv_at hl 2 rfl) ?_
      refine j_if_ne E 67 98 rfl rr1_ dX10_readUnit_64 (by decide) (fun cc6_ => ?_) (fun cc6_ => ?_)
      · refine j_aload_n E 99 rfl dX10_readUnit_98 rfl (lv_at hl 3 rfl) ?_
        refine m_callv E (c_X10_next l D cy q (n_0) (f_0)    (show 0 ≤ (n_0 29) ∧ (n_0 29) < 32 from by omega) (show 0 ≤ (n_0 23) ∧ (n_0 23) ≤ 400 from by omega) (show Wds_ (f_0 28) from hp2) (show 0 ≤ (n_0 24) ∧ (n_0 24) ≤ (n_0 23) from by omega) (show 0 ≤ (f_0 31 ((n_0 29))) ∧ (f_0 31 ((n_0 29))) ≤ (n_0 24) from by omega)) rfl mt_X10_next ml_X10_269 hK hw hA ⟨Nat.le_of_ble_eq_true rfl, Nat.le_of_ble_eq_true rfl⟩ (As := []) (rest := []) rfl rfl hl.1 (Nat.le_of_ble_eq_true rfl) 102 rfl dX10_readUnit_99 (fun n_7 f_7 H locs hq7_ hw => ?_)
        obtain ⟨x24_7, x25_7, x26_7, x27_7, y30_7, y31_7, en7_, ef7_, hq7_⟩ := hq7_
        rw [en7_, ef7_] at hw; clear en7_ ef7_
        have hw : WM D cy q (upN (upN (upN (upN n_0 24 x24_7) 25 x25_7) 26 x26_7) 27 x27_7) (upF (upF f_0 30 y30_7) 31 y31_7) A0 H0 H locs := hw
        have rx24_7 : inR x24_7 := mRn_24 hw.1.2.2.1
        have rx25_7 : inR x25_7 := mRn_25 hw.1.2.2.1
        have rx26_7 : inR x26_7 := mRn_26 hw.1.2.2.1
        have rx27_7 : inR x27_7 := mRn_27 hw.1.2.2.1
        have hh7_ : (0 ≤ (x25_7) ∧ (x25_7) ≤ (x24_7) ∧ (x24_7) ≤ (n_0 23)) ∧ (0 ≤ (y31_7 ((n_0 29))) ∧ (y31_7 ((n_0 29))) ≤ (x24_7)) ∧ (0 ≤ (x26_7) ∧ (x26_7) ≤ 4) ∧ (¬ (x26_7) = 0 → (x25_7) < (x24_7)) ∧ ((x26_7) = 3 → 0 ≤ (x27_7) ∧ (x27_7) ≤ 9999) ∧ (n_0 24) ≤ (x25_7) ∧ (∀ i, i ≠ (n_0 29) → (y31_7 i) = (f_0 31 i)) := hq7_
        clear hq7_
        have hj_ := hh7_.2.2.2.2.2.2
        refine j_aload_n E 103 rfl dX10_readUnit_102 rfl (lv_at hl 3 rfl) ?_
        refine m_get_26 E hK hw x26_7 rfl 106 rfl dX10_readUnit_103 (fun _ => ?_)
        refine j_iconst E 107 rfl dX10_readUnit_106 ?_
        refine j_icmp_eq E 110 116 rfl rx26_7 (rr (by decide)) dX10_readUnit_107 (by decide) (fun cc8_ => ?_) (fun cc8_ => ?_)
        · refine j_aload_n E 117 rfl dX10_readUnit_116 rfl (lv_at hl 3 rfl) ?_
          refine m_get_27 E hK hw x27_7 rfl 120 rfl dX10_readUnit_117 (fun _ => ?_)
          refine j_bipush E 122 rfl dX10_readUnit_120 (by decide) ?_
          refine j_icmp_lt E 125 131 rfl rx27_7 (rr (by decide)) dX10_readUnit_122 (by decide) (fun cc9_ => ?_) (fun cc9_ => ?_)
          · refine j_aload_n E 132 rfl dX10_readUnit_131 rfl (lv_at hl 3 rfl) ?_
            refine j_iconst E 133 rfl dX10_readUnit_132 ?_
            refine j_aload_n E 134 rfl dX10_readUnit_133 rfl (lv_at hl 3 rfl) ?_
            refine m_get_27 E hK hw x27_7 rfl 137 rfl dX10_readUnit_134 (fun _ => ?_)
            refine m_callv E (c_X10_emits l D cy q (upN (upN (upN (upN n_0 24 x24_7) 25 x25_7) 26 x26_7) 27 x27_7) (upF (upF f_0 30 y30_7) 31 y31_7) 2 x27_7  (rr (by decide)) rx27_7 (show 0 ≤ (n_0 29) ∧ (n_0 29) < 32 from by omega) (show 0 ≤ (n_0 37) ∧ (n_0 37) ≤ 399 from by omega)) rfl mt_X10_emits ml_X10_265 hK hw hA ⟨Nat.le_of_ble_eq_true rfl, Nat.le_of_ble_eq_true rfl⟩ (As := [.int (J 2), .int (J x27_7)]) (rest := []) rfl rfl hl.1 (Nat.le_of_ble_eq_true rfl) 140 rfl dX10_readUnit_137 (fun n_10 f_10 H locs hq10_ hw => ?_)
            obtain ⟨x37_10, y32_10, y33_10, en10_, ef10_, hq10_⟩ := hq10_
            rw [en10_, ef10_] at hw; clear en10_ ef10_
            have hw : WM D cy q (upN (upN (upN (upN (upN n_0 24 x24_7) 25 x25_7) 26 x26_7) 27 x27_7) 37 x37_10) (upF (upF (upF (upF f_0 30 y30_7) 31 y31_7) 32 y32_10) 33 y33_10) A0 H0 H locs := hw
            have rx37_10 : inR x37_10 := mRn_37 hw.1.2.2.1
            have hh10_ : (y32_10) = upA (f_0 32) (400 * (n_0 29) + (n_0 37)) (2 : Int) ∧ (y33_10) = upA (f_0 33) (400 * (n_0 29) + (n_0 37)) x27_7 ∧ (x37_10) = (n_0 37) + 1 := hq10_
            clear hq10_
            have hm_ : (x37_10) = n_0 37 + 1 := hh10_.2.2
            have hz_ : Pz_ (y32_10) (y33_10) (400 * n_0 29 + lo_) (400 * n_0 29 + (x37_10)) (el_ + 1) := by rw [hh10_.1, hh10_.2.1, show 400 * n_0 29 + (x37_10) = 400 * n_0 29 + n_0 37 + 1 by omega]; exact Pz_ext hp4 (by omega) (by omega) (by omega)
            have hf_ : Fr_ (f_0 32) (f_0 33) (y32_10) (y33_10) (400 * n_0 29 + n_0 37) := by rw [hh10_.1, hh10_.2.1]; exact Fr_up (by omega)
            refine j_aload_n E 141 rfl dX10_readUnit_140 rfl (lv_at hl 3 rfl) ?_
            refine m_callv E (c_X10_next l D cy q (upN (upN (upN (upN (upN n_0 24 x24_7) 25 x25_7) 26 x26_7) 27 x27_7) 37 x37_10) (upF (upF (upF (upF f_0 30 y30_7) 31 y31_7) 32 y32_10) 33 y33_10)    (show 0 ≤ (n_0 29) ∧ (n_0 29) < 32 from by omega) (show 0 ≤ (n_0 23) ∧ (n_0 23) ≤ 400 from by omega) (show Wds_ (f_0 28) from hp2) (show 0 ≤ (x24_7) ∧ (x24_7) ≤ (n_0 23) from by omega) (show 0 ≤ (y31_7 ((n_0 29))) ∧ (y31_7 ((n_0 29))) ≤ (x24_7) from by omega)) rfl mt_X10_next ml_X10_269 hK hw hA ⟨Nat.le_of_ble_eq_true rfl, Nat.le_of_ble_eq_true rfl⟩ (As := []) (rest := []) rfl rfl hl.1 (Nat.le_of_ble_eq_true rfl) 144 rfl dX10_readUnit_141 (fun n_11 f_11 H locs hq11_ hw => ?_)
            obtain ⟨x24_11, x25_11, x26_11, x27_11, y30_11, y31_11, en11_, ef11_, hq11_⟩ := hq11_
            rw [en11_, ef11_] at hw; clear en11_ ef11_
            have hw : WM D cy q (upN (upN (upN (upN (upN n_0 24 x24_11) 25 x25_11) 26 x26_11) 27 x27_11) 37 x37_10) (upF (upF (upF (upF f_0 30 y30_11) 31 y31_11) 32 y32_10) 33 y33_10) A0 H0 H locs := hw
            have rx24_11 : inR x24_11 := mRn_24 hw.1.2.2.1
            have rx25_11 : inR x25_11 := mRn_25 hw.1.2.2.1
            have rx26_11 : inR x26_11 := mRn_26 hw.1.2.2.1
            have rx27_11 : inR x27_11 := mRn_27 hw.1.2.2.1
            have hh11_ : (0 ≤ (x25_11) ∧ (x25_11) ≤ (x24_11) ∧ (x24_11) ≤ (n_0 23)) ∧ (0 ≤ (y31_11 ((n_0 29))) ∧ (y31_11 ((n_0 29))) ≤ (x24_11)) ∧ (0 ≤ (x26_11) ∧ (x26_11) ≤ 4) ∧ (¬ (x26_11) = 0 → (x25_11) < (x24_11)) ∧ ((x26_11) = 3 → 0 ≤ (x27_11) ∧ (x27_11) ≤ 9999) ∧ (x24_7) ≤ (x25_11) ∧ (∀ i, i ≠ (n_0 29) → (y31_11 i) = (y31_7 i)) := hq11_
            clear hq11_
            have hk_ := hh11_.2.2.2.2.2.2
            refine j_iconst E 145 rfl dX10_readUnit_144 ?_
            exact hret 145 0 (upN (upN (upN (upN (upN (upN (upN n_0 24 x24_11) 25 x25_11) 26 x26_11) 27 x27_11) 37 x37_10) 41 (n_0 41)) 42 (n_0 42)) (upF (upF (upF (upF f_0 30 y30_11) 31 y31_11) 32 y32_10) 33 y33_10) _ _ ls hw (rr (by decide)) ⟨x24_11, x25_11, x26_11, x27_11, x37_10, (n_0 41), (n_0 42), y30_11, y31_11, y32_10, y33_10, rfl, rfl, Or.inr ⟨rfl, hf_, tk_tr hj_ hk_, by omega, by omega, by omega, by omega, hz_, fun h3_ => absurd h3_ (by omega)⟩⟩ dX10_readUnit_145
          · refine j_aload_n E 126 rfl dX10_readUnit_125 rfl (lv_at hl 3 rfl) ?_
            refine j_iconst E 127 rfl dX10_readUnit_126 ?_
            refine m_calli E (c_X10_fails l D cy q (upN (upN (upN (upN n_0 24 x24_7) 25 x25_7) 26 x26_7) 27 x27_7) (upF (upF f_0 30 y30_7) 31 y31_7) 2  (rr (by decide)) ) rfl mt_X10_fails ml_X10_262 hK hw hA ⟨Nat.le_of_ble_eq_true rfl, Nat.le_of_ble_eq_true rfl⟩ (As := [.int (J 2)]) (rest := []) rfl rfl hl.1 (Nat.le_of_ble_eq_true rfl) 130 rfl dX10_readUnit_127 (fun zz12_ n_12 f_12 H locs rr12_ hq12_ hw => ?_)
            obtain ⟨x41_12, x42_12, en12_, ef12_, hq12_⟩ := hq12_
            rw [en12_, ef12_] at hw; clear en12_ ef12_
            have hw : WM D cy q (upN (upN (upN (upN (upN (upN n_0 24 x24_7) 25 x25_7) 26 x26_7) 27 x27_7) 41 x41_12) 42 x42_12) (upF (upF f_0 30 y30_7) 31 y31_7) A0 H0 H locs := hw
            have rx41_12 : inR x41_12 := mRn_41 hw.1.2.2.1
            have rx42_12 : inR x42_12 := mRn_42 hw.1.2.2.1
            have hh12_ : zz12_ = -1 := hq12_
            clear hq12_
            exact hret 130 zz12_ (upN (upN (upN (upN (upN (upN (upN n_0 24 x24_7) 25 x25_7) 26 x26_7) 27 x27_7) 37 (n_0 37)) 41 x41_12) 42 x42_12) (upF (upF (upF (upF f_0 30 y30_7) 31 y31_7) 32 (f_0 32)) 33 (f_0 33)) _ _ ls hw rr12_ ⟨x24_7, x25_7, x26_7, x27_7, (n_0 37), x41_12, x42_12, y30_7, y31_7, (f_0 32), (f_0 33), rfl, rfl, Or.inl ⟨by omega, Fr_rf, hj_, by omega⟩⟩ dX10_readUnit_130
        · refine j_aload_n E 111 rfl dX10_readUnit_110 rfl (lv_at hl 3 rfl) ?_
          refine j_iconst E 112 rfl dX10_readUnit_111 ?_
          refine m_calli E (c_X10_fails l D cy q (upN (upN (upN (upN n_0 24 x24_7) 25 x25_7) 26 x26_7) 27 x27_7) (upF (upF f_0 30 y30_7) 31 y31_7) 1  (rr (by decide)) ) rfl mt_X10_fails ml_X10_262 hK hw hA ⟨Nat.le_of_ble_eq_true rfl, Nat.le_of_ble_eq_true rfl⟩ (As := [.int (J 1)]) (rest := []) rfl rfl hl.1 (Nat.le_of_ble_eq_true rfl) 115 rfl dX10_readUnit_112 (fun zz13_ n_13 f_13 H locs rr13_ hq13_ hw => ?_)
          obtain ⟨x41_13, x42_13, en13_, ef13_, hq13_⟩ := hq13_
          rw [en13_, ef13_] at hw; clear en13_ ef13_
          have hw : WM D cy q (upN (upN (upN (upN (upN (upN n_0 24 x24_7) 25 x25_7) 26 x26_7) 27 x27_7) 41 x41_13) 42 x42_13) (upF (upF f_0 30 y30_7) 31 y31_7) A0 H0 H locs := hw
          have rx41_13 : inR x41_13 := mRn_41 hw.1.2.2.1
          have rx42_13 : inR x42_13 := mRn_42 hw.1.2.2.1
          have hh13_ : zz13_ = -1 := hq13_
          clear hq13_
          exact hret 115 zz13_ (upN (upN (upN (upN (upN (upN (upN n_0 24 x24_7) 25 x25_7) 26 x26_7) 27 x27_7) 37 (n_0 37)) 41 x41_13) 42 x42_13) (upF (upF (upF (upF f_0 30 y30_7) 31 y31_7) 32 (f_0 32)) 33 (f_0 33)) _ _ ls hw rr13_ ⟨x24_7, x25_7, x26_7, x27_7, (n_0 37), x41_13, x42_13, y30_7, y31_7, (f_0 32), (f_0 33), rfl, rfl, Or.inl ⟨by omega, Fr_rf, hj_, by omega⟩⟩ dX10_readUnit_115
      · refine j_aload_n E 68 rfl dX10_readUnit_67 rfl (lv_at hl 3 rfl) ?_
        refine j_iload_n E 69 rfl dX10_readUnit_68 rfl (lv_at hl 1 rfl) ?_
        refine j_if_eq E 72 76 rfl (rr (by decide)) dX10_readUnit_69 (by decide) (fun _ => ?_) (fun cc14_ => absurd cc14_ (by decide))
        refine j_iconst E 77 rfl dX10_readUnit_76 ?_
        refine j_iload_n E 78 rfl dX10_readUnit_77 rfl (lv_at hl 1 rfl) ?_
        refine j_if_eq E 81 88 rfl (rr (by decide)) dX10_readUnit_78 (by decide) (fun _ => ?_) (fun cc15_ => absurd cc15_ (by decide))
        refine j_iload_n E 89 rfl dX10_readUnit_88 rfl (lv_at hl 0 rfl) ?_
        refine m_callv E (c_X10_emits l D cy q (n_0) (f_0) 0 (n_0 27)  (rr (by decide)) rr5_ (show 0 ≤ (n_0 29) ∧ (n_0 29) < 32 from by omega) (show 0 ≤ (n_0 37) ∧ (n_0 37) ≤ 399 from by omega)) rfl mt_X10_emits ml_X10_265 hK hw hA ⟨Nat.le_of_ble_eq_true rfl, Nat.le_of_ble_eq_true rfl⟩ (As := [.int (J 0), .int (J (n_0 27))]) (rest := []) rfl rfl hl.1 (Nat.le_of_ble_eq_true rfl) 92 rfl dX10_readUnit_89 (fun n_16 f_16 H locs hq16_ hw => ?_)
        obtain ⟨x37_16, y32_16, y33_16, en16_, ef16_, hq16_⟩ := hq16_
        rw [en16_, ef16_] at hw; clear en16_ ef16_
        have hw : WM D cy q (upN n_0 37 x37_16) (upF (upF f_0 32 y32_16) 33 y33_16) A0 H0 H locs := hw
        have rx37_16 : inR x37_16 := mRn_37 hw.1.2.2.1
        have hh16_ : (y32_16) = upA (f_0 32) (400 * (n_0 29) + (n_0 37)) (0 : Int) ∧ (y33_16) = upA (f_0 33) (400 * (n_0 29) + (n_0 37)) (n_0 27) ∧ (x37_16) = (n_0 37) + 1 := hq16_
        clear hq16_
        have hm_ : (x37_16) = n_0 37 + 1 := hh16_.2.2
        have hz_ : Pz_ (y32_16) (y33_16) (400 * n_0 29 + lo_) (400 * n_0 29 + (x37_16)) (el_ + 1) := by rw [hh16_.1, hh16_.2.1, show 400 * n_0 29 + (x37_16) = 400 * n_0 29 + n_0 37 + 1 by omega]; exact Pz_ext hp4 (by omega) (by omega) (by omega)
        have hf_ : Fr_ (f_0 32) (f_0 33) (y32_16) (y33_16) (400 * n_0 29 + n_0 37) := by rw [hh16_.1, hh16_.2.1]; exact Fr_up (by omega)
        have ho_ : (y32_16 (400 * n_0 29 + n_0 37)) = (0 : Int) ∧ (y33_16 (400 * n_0 29 + n_0 37)) = (n_0 27) := by rw [hh16_.1, hh16_.2.1]; exact ⟨upA_same _ _ _, upA_same _ _ _⟩
        refine j_aload_n E 93 rfl dX10_readUnit_92 rfl (lv_at hl 3 rfl) ?_
        refine m_callv E (c_X10_next l D cy q (upN n_0 37 x37_16) (upF (upF f_0 32 y32_16) 33 y33_16)    (show 0 ≤ (n_0 29) ∧ (n_0 29) < 32 from by omega) (show 0 ≤ (n_0 23) ∧ (n_0 23) ≤ 400 from by omega) (show Wds_ (f_0 28) from hp2) (show 0 ≤ (n_0 24) ∧ (n_0 24) ≤ (n_0 23) from by omega) (show 0 ≤ (f_0 31 ((n_0 29))) ∧ (f_0 31 ((n_0 29))) ≤ (n_0 24) from by omega)) rfl mt_X10_next ml_X10_269 hK hw hA ⟨Nat.le_of_ble_eq_true rfl, Nat.le_of_ble_eq_true rfl⟩ (As := []) (rest := []) rfl rfl hl.1 (Nat.le_of_ble_eq_true rfl) 96 rfl dX10_readUnit_93 (fun n_17 f_17 H locs hq17_ hw => ?_)
        obtain ⟨x24_17, x25_17, x26_17, x27_17, y30_17, y31_17, en17_, ef17_, hq17_⟩ := hq17_
        rw [en17_, ef17_] at hw; clear en17_ ef17_
        have hw : WM D cy q (upN (upN (upN (upN (upN n_0 24 x24_17) 25 x25_17) 26 x26_17) 27 x27_17) 37 x37_16) (upF (upF (upF (upF f_0 30 y30_17) 31 y31_17) 32 y32_16) 33 y33_16) A0 H0 H locs := hw
        have rx24_17 : inR x24_17 := mRn_24 hw.1.2.2.1
        have rx25_17 : inR x25_17 := mRn_25 hw.1.2.2.1
        have rx26_17 : inR x26_17 := mRn_26 hw.1.2.2.1
        have rx27_17 : inR x27_17 := mRn_27 hw.1.2.2.1
        have hh17_ : (0 ≤ (x25_17) ∧ (x25_17) ≤ (x24_17) ∧ (x24_17) ≤ (n_0 23)) ∧ (0 ≤ (y31_17 ((n_0 29))) ∧ (y31_17 ((n_0 29))) ≤ (x24_17)) ∧ (0 ≤ (x26_17) ∧ (x26_17) ≤ 4) ∧ (¬ (x26_17) = 0 → (x25_17) < (x24_17)) ∧ ((x26_17) = 3 → 0 ≤ (x27_17) ∧ (x27_17) ≤ 9999) ∧ (n_0 24) ≤ (x25_17) ∧ (∀ i, i ≠ (n_0 29) → (y31_17 i) = (f_0 31 i)) := hq17_
        clear hq17_
        have hk_ := hh17_.2.2.2.2.2.2
        refine j_iconst E 97 rfl dX10_readUnit_96 ?_
        exact hret 97 0 (upN (upN (upN (upN (upN (upN (upN n_0 24 x24_17) 25 x25_17) 26 x26_17) 27 x27_17) 37 x37_16) 41 (n_0 41)) 42 (n_0 42)) (upF (upF (upF (upF f_0 30 y30_17) 31 y31_17) 32 y32_16) 33 y33_16) _ _ ls hw (rr (by decide)) ⟨x24_17, x25_17, x26_17, x27_17, x37_16, (n_0 41), (n_0 42), y30_17, y31_17, y32_16, y33_16, rfl, rfl, Or.inr ⟨rfl, hf_, hk_, by omega, by omega, by omega, by omega, hz_, fun h3_ => ⟨by omega, by omega, by omega⟩⟩⟩ dX10_readUnit_97
    · refine j_iload_n E 41 rfl dX10_readUnit_40 rfl (lv_at hl 0 rfl) ?_
      refine j_if_ne E 44 58 rfl (rr (by decide)) dX10_readUnit_41 (by decide) (fun cc18_ => absurd cc18_ (by decide)) (fun _ => ?_)
      refine j_aload_n E 45 rfl dX10_readUnit_44 rfl (lv_at hl 2 rfl) ?_
      refine m_get_26 E hK hw (n_0 26) rfl 48 rfl dX10_readUnit_45 (fun _ => ?_)
      refine j_iconst E 49 rfl dX10_readUnit_48 ?_
      refine j_icmp_eq E 52 58 rfl rr2_ (rr (by decide)) dX10_readUnit_49 (by decide) (fun cc19_ => ?_) (fun cc19_ => ?_)
      · refine j_aload_n E 59 rfl dX10_readUnit_58 rfl (lv_at hl 2 rfl) ?_
        refine m_get_27 E hK hw (n_0 27) rfl 62 rfl dX10_readUnit_59 (fun rr20_ => ?_)
        refine j_istore_n E 63 rfl [(3, .int (J (n_0 27))), (2, .int (J 0)), (1, .int (J zz1_)), (0, .ref (q 0))] dX10_readUnit_62 rfl hl (by decide) rfl (fun ls hl => ?_)
        refine j_iload_n E 64 rfl dX10_readUnit_63 rfl (lv_at hl 2 rfl) ?_
        refine j_if_ne E 67 98 rfl rr1_ dX10_readUnit_64 (by decide) (fun cc21_ => ?_) (fun cc21_ => ?_)
        · refine j_aload_n E 99 rfl dX10_readUnit_98 rfl (lv_at hl 3 rfl) ?_
          refine m_callv E (c_X10_next l D cy q (n_0) (f_0)    (show 0 ≤ (n_0 29) ∧ (n_0 29) < 32 from by omega) (show 0 ≤ (n_0 23) ∧ (n_0 23) ≤ 400 from by omega) (show Wds_ (f_0 28) from hp2) (show 0 ≤ (n_0 24) ∧ (n_0 24) ≤ (n_0 23) from by omega) (show 0 ≤ (f_0 31 ((n_0 29))) ∧ (f_0 31 ((n_0 29))) ≤ (n_0 24) from by omega)) rfl mt_X10_next ml_X10_269 hK hw hA ⟨Nat.le_of_ble_eq_true rfl, Nat.le_of_ble_eq_true rfl⟩ (As := []) (rest := []) rfl rfl hl.1 (Nat.le_of_ble_eq_true rfl) 102 rfl dX10_readUnit_99 (fun n_22 f_22 H locs hq22_ hw => ?_)
          obtain ⟨x24_22, x25_22, x26_22, x27_22, y30_22, y31_22, en22_, ef22_, hq22_⟩ := hq22_
          rw [en22_, ef22_] at hw; clear en22_ ef22_
          have hw : WM D cy q (upN (upN (upN (upN n_0 24 x24_22) 25 x25_22) 26 x26_22) 27 x27_22) (upF (upF f_0 30 y30_22) 31 y31_22) A0 H0 H locs := hw
          have rx24_22 : inR x24_22 := mRn_24 hw.1.2.2.1
          have rx25_22 : inR x25_22 := mRn_25 hw.1.2.2.1
          have rx26_22 : inR x26_22 := mRn_26 hw.1.2.2.1
          have rx27_22 : inR x27_22 := mRn_27 hw.1.2.2.1
          have hh22_ : (0 ≤ (x25_22) ∧ (x25_22) ≤ (x24_22) ∧ (x24_22) ≤ (n_0 23)) ∧ (0 ≤ (y31_22 ((n_0 29))) ∧ (y31_22 ((n_0 29))) ≤ (x24_22)) ∧ (0 ≤ (x26_22) ∧ (x26_22) ≤ 4) ∧ (¬ (x26_22) = 0 → (x25_22) < (x24_22)) ∧ ((x26_22) = 3 → 0 ≤ (x27_22) ∧ (x27_22) ≤ 9999) ∧ (n_0 24) ≤ (x25_22) ∧ (∀ i, i ≠ (n_0 29) → (y31_22 i) = (f_0 31 i)) := hq22_
          clear hq22_
          have hj_ := hh22_.2.2.2.2.2.2
          refine j_aload_n E 103 rfl dX10_readUnit_102 rfl (lv_at hl 3 rfl) ?_
          refine m_get_26 E hK hw x26_22 rfl 106 rfl dX10_readUnit_103 (fun _ => ?_)
          refine j_iconst E 107 rfl dX10_readUnit_106 ?_
          refine j_icmp_eq E 110 116 rfl rx26_22 (rr (by decide)) dX10_readUnit_107 (by decide) (fun cc23_ => ?_) (fun cc23_ => ?_)
          · refine j_aload_n E 117 rfl dX10_readUnit_116 rfl (lv_at hl 3 rfl) ?_
            refine m_get_27 E hK hw x27_22 rfl 120 rfl dX10_readUnit_117 (fun _ => ?_)
            refine j_bipush E 122 rfl dX10_readUnit_120 (by decide) ?_
            refine j_icmp_lt E 125 131 rfl rx27_22 (rr (by decide)) dX10_readUnit_122 (by decide) (fun cc24_ => ?_) (fun cc24_ => ?_)
            · refine j_aload_n E 132 rfl dX10_readUnit_131 rfl (lv_at hl 3 rfl) ?_
              refine j_iconst E 133 rfl dX10_readUnit_132 ?_
              refine j_aload_n E 134 rfl dX10_readUnit_133 rfl (lv_at hl 3 rfl) ?_
              refine m_get_27 E hK hw x27_22 rfl 137 rfl dX10_readUnit_134 (fun _ => ?_)
              refine m_callv E (c_X10_emits l D cy q (upN (upN (upN (upN n_0 24 x24_22) 25 x25_22) 26 x26_22) 27 x27_22) (upF (upF f_0 30 y30_22) 31 y31_22) 2 x27_22  (rr (by decide)) rx27_22 (show 0 ≤ (n_0 29) ∧ (n_0 29) < 32 from by omega) (show 0 ≤ (n_0 37) ∧ (n_0 37) ≤ 399 from by omega)) rfl mt_X10_emits ml_X10_265 hK hw hA ⟨Nat.le_of_ble_eq_true rfl, Nat.le_of_ble_eq_true rfl⟩ (As := [.int (J 2), .int (J x27_22)]) (rest := []) rfl rfl hl.1 (Nat.le_of_ble_eq_true rfl) 140 rfl dX10_readUnit_137 (fun n_25 f_25 H locs hq25_ hw => ?_)
              obtain ⟨x37_25, y32_25, y33_25, en25_, ef25_, hq25_⟩ := hq25_
              rw [en25_, ef25_] at hw; clear en25_ ef25_
              have hw : WM D cy q (upN (upN (upN (upN (upN n_0 24 x24_22) 25 x25_22) 26 x26_22) 27 x27_22) 37 x37_25) (upF (upF (upF (upF f_0 30 y30_22) 31 y31_22) 32 y32_25) 33 y33_25) A0 H0 H locs := hw
              have rx37_25 : inR x37_25 := mRn_37 hw.1.2.2.1
              have hh25_ : (y32_25) = upA (f_0 32) (400 * (n_0 29) + (n_0 37)) (2 : Int) ∧ (y33_25) = upA (f_0 33) (400 * (n_0 29) + (n_0 37)) x27_22 ∧ (x37_25) = (n_0 37) + 1 := hq25_
              clear hq25_
              have hm_ : (x37_25) = n_0 37 + 1 := hh25_.2.2
              have hz_ : Pz_ (y32_25) (y33_25) (400 * n_0 29 + lo_) (400 * n_0 29 + (x37_25)) (el_ + 1) := by rw [hh25_.1, hh25_.2.1, show 400 * n_0 29 + (x37_25) = 400 * n_0 29 + n_0 37 + 1 by omega]; exact Pz_ext hp4 (by omega) (by omega) (by omega)
              have hf_ : Fr_ (f_0 32) (f_0 33) (y32_25) (y33_25) (400 * n_0 29 + n_0 37) := by rw [hh25_.1, hh25_.2.1]; exact Fr_up (by omega)
              refine j_aload_n E 141 rfl dX10_readUnit_140 rfl (lv_at hl 3 rfl) ?_
              refine m_callv E (c_X10_next l D cy q (upN (upN (upN (upN (upN n_0 24 x24_22) 25 x25_22) 26 x26_22) 27 x27_22) 37 x37_25) (upF (upF (upF (upF f_0 30 y30_22) 31 y31_22) 32 y32_25) 33 y33_25)    (show 0 ≤ (n_0 29) ∧ (n_0 29) < 32 from by omega) (show 0 ≤ (n_0 23) ∧ (n_0 23) ≤ 400 from by omega) (show Wds_ (f_0 28) from hp2) (show 0 ≤ (x24_22) ∧ (x24_22) ≤ (n_0 23) from by omega) (show 0 ≤ (y31_22 ((n_0 29))) ∧ (y31_22 ((n_0 29))) ≤ (x24_22) from by omega)) rfl mt_X10_next ml_X10_269 hK hw hA ⟨Nat.le_of_ble_eq_true rfl, Nat.le_of_ble_eq_true rfl⟩ (As := []) (rest := []) rfl rfl hl.1 (Nat.le_of_ble_eq_true rfl) 144 rfl dX10_readUnit_141 (fun n_26 f_26 H locs hq26_ hw => ?_)
              obtain ⟨x24_26, x25_26, x26_26, x27_26, y30_26, y31_26, en26_, ef26_, hq26_⟩ := hq26_
              rw [en26_, ef26_] at hw; clear en26_ ef26_
              have hw : WM D cy q (upN (upN (upN (upN (upN n_0 24 x24_26) 25 x25_26) 26 x26_26) 27 x27_26) 37 x37_25) (upF (upF (upF (upF f_0 30 y30_26) 31 y31_26) 32 y32_25) 33 y33_25) A0 H0 H locs := hw
              have rx24_26 : inR x24_26 := mRn_24 hw.1.2.2.1
              have rx25_26 : inR x25_26 := mRn_25 hw.1.2.2.1
              have rx26_26 : inR x26_26 := mRn_26 hw.1.2.2.1
              have rx27_26 : inR x27_26 := mRn_27 hw.1.2.2.1
              have hh26_ : (0 ≤ (x25_26) ∧ (x25_26) ≤ (x24_26) ∧ (x24_26) ≤ (n_0 23)) ∧ (0 ≤ (y31_26 ((n_0 29))) ∧ (y31_26 ((n_0 29))) ≤ (x24_26)) ∧ (0 ≤ (x26_26) ∧ (x26_26) ≤ 4) ∧ (¬ (x26_26) = 0 → (x25_26) < (x24_26)) ∧ ((x26_26) = 3 → 0 ≤ (x27_26) ∧ (x27_26) ≤ 9999) ∧ (x24_22) ≤ (x25_26) ∧ (∀ i, i ≠ (n_0 29) → (y31_26 i) = (y31_22 i)) := hq26_
              clear hq26_
              have hk_ := hh26_.2.2.2.2.2.2
              refine j_iconst E 145 rfl dX10_readUnit_144 ?_
              exact hret 145 0 (upN (upN (upN (upN (upN (upN (upN n_0 24 x24_26) 25 x25_26) 26 x26_26) 27 x27_26) 37 x37_25) 41 (n_0 41)) 42 (n_0 42)) (upF (upF (upF (upF f_0 30 y30_26) 31 y31_26) 32 y32_25) 33 y33_25) _ _ ls hw (rr (by decide)) ⟨x24_26, x25_26, x26_26, x27_26, x37_25, (n_0 41), (n_0 42), y30_26, y31_26, y32_25, y33_25, rfl, rfl, Or.inr ⟨rfl, hf_, tk_tr hj_ hk_, by omega, by omega, by omega, by omega, hz_, fun h3_ => absurd h3_ (by omega)⟩⟩ dX10_readUnit_145
            · refine j_aload_n E 126 rfl dX10_readUnit_125 rfl (lv_at hl 3 rfl) ?_
              refine j_iconst E 127 rfl dX10_readUnit_126 ?_
              refine m_calli E (c_X10_fails l D cy q (upN (upN (upN (upN n_0 24 x24_22) 25 x25_22) 26 x26_22) 27 x27_22) (upF (upF f_0 30 y30_22) 31 y31_22) 2  (rr (by decide)) ) rfl mt_X10_fails ml_X10_262 hK hw hA ⟨Nat.le_of_ble_eq_true rfl, Nat.le_of_ble_eq_true rfl⟩ (As := [.int (J 2)]) (rest := []) rfl rfl hl.1 (Nat.le_of_ble_eq_true rfl) 130 rfl dX10_readUnit_127 (fun zz27_ n_27 f_27 H locs rr27_ hq27_ hw => ?_)
              obtain ⟨x41_27, x42_27, en27_, ef27_, hq27_⟩ := hq27_
              rw [en27_, ef27_] at hw; clear en27_ ef27_
              have hw : WM D cy q (upN (upN (upN (upN (upN (upN n_0 24 x24_22) 25 x25_22) 26 x26_22) 27 x27_22) 41 x41_27) 42 x42_27) (upF (upF f_0 30 y30_22) 31 y31_22) A0 H0 H locs := hw
              have rx41_27 : inR x41_27 := mRn_41 hw.1.2.2.1
              have rx42_27 : inR x42_27 := mRn_42 hw.1.2.2.1
              have hh27_ : zz27_ = -1 := hq27_
              clear hq27_
              exact hret 130 zz27_ (upN (upN (upN (upN (upN (upN (upN n_0 24 x24_22) 25 x25_22) 26 x26_22) 27 x27_22) 37 (n_0 37)) 41 x41_27) 42 x42_27) (upF (upF (upF (upF f_0 30 y30_22) 31 y31_22) 32 (f_0 32)) 33 (f_0 33)) _ _ ls hw rr27_ ⟨x24_22, x25_22, x26_22, x27_22, (n_0 37), x41_27, x42_27, y30_22, y31_22, (f_0 32), (f_0 33), rfl, rfl, Or.inl ⟨by omega, Fr_rf, hj_, by omega⟩⟩ dX10_readUnit_130
          · refine j_aload_n E 111 rfl dX10_readUnit_110 rfl (lv_at hl 3 rfl) ?_
            refine j_iconst E 112 rfl dX10_readUnit_111 ?_
            refine m_calli E (c_X10_fails l D cy q (upN (upN (upN (upN n_0 24 x24_22) 25 x25_22) 26 x26_22) 27 x27_22) (upF (upF f_0 30 y30_22) 31 y31_22) 1  (rr (by decide)) ) rfl mt_X10_fails ml_X10_262 hK hw hA ⟨Nat.le_of_ble_eq_true rfl, Nat.le_of_ble_eq_true rfl⟩ (As := [.int (J 1)]) (rest := []) rfl rfl hl.1 (Nat.le_of_ble_eq_true rfl) 115 rfl dX10_readUnit_112 (fun zz28_ n_28 f_28 H locs rr28_ hq28_ hw => ?_)
            obtain ⟨x41_28, x42_28, en28_, ef28_, hq28_⟩ := hq28_
            rw [en28_, ef28_] at hw; clear en28_ ef28_
            have hw : WM D cy q (upN (upN (upN (upN (upN (upN n_0 24 x24_22) 25 x25_22) 26 x26_22) 27 x27_22) 41 x41_28) 42 x42_28) (upF (upF f_0 30 y30_22) 31 y31_22) A0 H0 H locs := hw
            have rx41_28 : inR x41_28 := mRn_41 hw.1.2.2.1
            have rx42_28 : inR x42_28 := mRn_42 hw.1.2.2.1
            have hh28_ : zz28_ = -1 := hq28_
            clear hq28_
            exact hret 115 zz28_ (upN (upN (upN (upN (upN (upN (upN n_0 24 x24_22) 25 x25_22) 26 x26_22) 27 x27_22) 37 (n_0 37)) 41 x41_28) 42 x42_28) (upF (upF (upF (upF f_0 30 y30_22) 31 y31_22) 32 (f_0 32)) 33 (f_0 33)) _ _ ls hw rr28_ ⟨x24_22, x25_22, x26_22, x27_22, (n_0 37), x41_28, x42_28, y30_22, y31_22, (f_0 32), (f_0 33), rfl, rfl, Or.inl ⟨by omega, Fr_rf, hj_, by omega⟩⟩ dX10_readUnit_115
        · refine j_aload_n E 68 rfl dX10_readUnit_67 rfl (lv_at hl 3 rfl) ?_
          refine j_iload_n E 69 rfl dX10_readUnit_68 rfl (lv_at hl 1 rfl) ?_
          refine j_if_eq E 72 76 rfl (rr (by decide)) dX10_readUnit_69 (by decide) (fun _ => ?_) (fun cc29_ => absurd cc29_ (by decide))
          refine j_iconst E 77 rfl dX10_readUnit_76 ?_
          refine j_iload_n E 78 rfl dX10_readUnit_77 rfl (lv_at hl 1 rfl) ?_
          refine j_if_eq E 81 88 rfl (rr (by decide)) dX10_readUnit_78 (by decide) (fun _ => ?_) (fun cc30_ => absurd cc30_ (by decide))
          refine j_iload_n E 89 rfl dX10_readUnit_88 rfl (lv_at hl 0 rfl) ?_
          refine m_callv E (c_X10_emits l D cy q (n_0) (f_0) 0 (n_0 27)  (rr (by decide)) rr20_ (show 0 ≤ (n_0 29) ∧ (n_0 29) < 32 from by omega) (show 0 ≤ (n_0 37) ∧ (n_0 37) ≤ 399 from by omega)) rfl mt_X10_emits ml_X10_265 hK hw hA ⟨Nat.le_of_ble_eq_true rfl, Nat.le_of_ble_eq_true rfl⟩ (As := [.int (J 0), .int (J (n_0 27))]) (rest := []) rfl rfl hl.1 (Nat.le_of_ble_eq_true rfl) 92 rfl dX10_readUnit_89 (fun n_31 f_31 H locs hq31_ hw => ?_)
          obtain ⟨x37_31, y32_31, y33_31, en31_, ef31_, hq31_⟩ := hq31_
          rw [en31_, ef31_] at hw; clear en31_ ef31_
          have hw : WM D cy q (upN n_0 37 x37_31) (upF (upF f_0 32 y32_31) 33 y33_31) A0 H0 H locs := hw
          have rx37_31 : inR x37_31 := mRn_37 hw.1.2.2.1
          have hh31_ : (y32_31) = upA (f_0 32) (400 * (n_0 29) + (n_0 37)) (0 : Int) ∧ (y33_31) = upA (f_0 33) (400 * (n_0 29) + (n_0 37)) (n_0 27) ∧ (x37_31) = (n_0 37) + 1 := hq31_
          clear hq31_
          have hm_ : (x37_31) = n_0 37 + 1 := hh31_.2.2
          have hz_ : Pz_ (y32_31) (y33_31) (400 * n_0 29 + lo_) (400 * n_0 29 + (x37_31)) (el_ + 1) := by rw [hh31_.1, hh31_.2.1, show 400 * n_0 29 + (x37_31) = 400 * n_0 29 + n_0 37 + 1 by omega]; exact Pz_ext hp4 (by omega) (by omega) (by omega)
          have hf_ : Fr_ (f_0 32) (f_0 33) (y32_31) (y33_31) (400 * n_0 29 + n_0 37) := by rw [hh31_.1, hh31_.2.1]; exact Fr_up (by omega)
          have ho_ : (y32_31 (400 * n_0 29 + n_0 37)) = (0 : Int) ∧ (y33_31 (400 * n_0 29 + n_0 37)) = (n_0 27) := by rw [hh31_.1, hh31_.2.1]; exact ⟨upA_same _ _ _, upA_same _ _ _⟩
          refine j_aload_n E 93 rfl dX10_readUnit_92 rfl (lv_at hl 3 rfl) ?_
          refine m_callv E (c_X10_next l D cy q (upN n_0 37 x37_31) (upF (upF f_0 32 y32_31) 33 y33_31)    (show 0 ≤ (n_0 29) ∧ (n_0 29) < 32 from by omega) (show 0 ≤ (n_0 23) ∧ (n_0 23) ≤ 400 from by omega) (show Wds_ (f_0 28) from hp2) (show 0 ≤ (n_0 24) ∧ (n_0 24) ≤ (n_0 23) from by omega) (show 0 ≤ (f_0 31 ((n_0 29))) ∧ (f_0 31 ((n_0 29))) ≤ (n_0 24) from by omega)) rfl mt_X10_next ml_X10_269 hK hw hA ⟨Nat.le_of_ble_eq_true rfl, Nat.le_of_ble_eq_true rfl⟩ (As := []) (rest := []) rfl rfl hl.1 (Nat.le_of_ble_eq_true rfl) 96 rfl dX10_readUnit_93 (fun n_32 f_32 H locs hq32_ hw => ?_)
          obtain ⟨x24_32, x25_32, x26_32, x27_32, y30_32, y31_32, en32_, ef32_, hq32_⟩ := hq32_
          rw [en32_, ef32_] at hw; clear en32_ ef32_
          have hw : WM D cy q (upN (upN (upN (upN (upN n_0 24 x24_32) 25 x25_32) 26 x26_32) 27 x27_32) 37 x37_31) (upF (upF (upF (upF f_0 30 y30_32) 31 y31_32) 32 y32_31) 33 y33_31) A0 H0 H locs := hw
          have rx24_32 : inR x24_32 := mRn_24 hw.1.2.2.1
          have rx25_32 : inR x25_32 := mRn_25 hw.1.2.2.1
          have rx26_32 : inR x26_32 := mRn_26 hw.1.2.2.1
          have rx27_32 : inR x27_32 := mRn_27 hw.1.2.2.1
          have hh32_ : (0 ≤ (x25_32) ∧ (x25_32) ≤ (x24_32) ∧ (x24_32) ≤ (n_0 23)) ∧ (0 ≤ (y31_32 ((n_0 29))) ∧ (y31_32 ((n_0 29))) ≤ (x24_32)) ∧ (0 ≤ (x26_32) ∧ (x26_32) ≤ 4) ∧ (¬ (x26_32) = 0 → (x25_32) < (x24_32)) ∧ ((x26_32) = 3 → 0 ≤ (x27_32) ∧ (x27_32) ≤ 9999) ∧ (n_0 24) ≤ (x25_32) ∧ (∀ i, i ≠ (n_0 29) → (y31_32 i) = (f_0 31 i)) := hq32_
          clear hq32_
          have hk_ := hh32_.2.2.2.2.2.2
          refine j_iconst E 97 rfl dX10_readUnit_96 ?_
          exact hret 97 0 (upN (upN (upN (upN (upN (upN (upN n_0 24 x24_32) 25 x25_32) 26 x26_32) 27 x27_32) 37 x37_31) 41 (n_0 41)) 42 (n_0 42)) (upF (upF (upF (upF f_0 30 y30_32) 31 y31_32) 32 y32_31) 33 y33_31) _ _ ls hw (rr (by decide)) ⟨x24_32, x25_32, x26_32, x27_32, x37_31, (n_0 41), (n_0 42), y30_32, y31_32, y32_31, y33_31, rfl, rfl, Or.inr ⟨rfl, hf_, hk_, by omega, by omega, by omega, by omega, hz_, fun h3_ => ⟨by omega, by omega, by omega⟩⟩⟩ dX10_readUnit_97
      · refine j_aload_n E 53 rfl dX10_readUnit_52 rfl (lv_at hl 2 rfl) ?_
        refine j_iconst E 54 rfl dX10_readUnit_53 ?_
        refine m_calli E (c_X10_fails l D cy q (n_0) (f_0) 1  (rr (by decide)) ) rfl mt_X10_fails ml_X10_262 hK hw hA ⟨Nat.le_of_ble_eq_true rfl, Nat.le_of_ble_eq_true rfl⟩ (As := [.int (J 1)]) (rest := []) rfl rfl hl.1 (Nat.le_of_ble_eq_true rfl) 57 rfl dX10_readUnit_54 (fun zz33_ n_33 f_33 H locs rr33_ hq33_ hw => ?_)
        obtain ⟨x41_33, x42_33, en33_, ef33_, hq33_⟩ := hq33_
        rw [en33_, ef33_] at hw; clear en33_ ef33_
        have hw : WM D cy q (upN (upN n_0 41 x41_33) 42 x42_33) (f_0) A0 H0 H locs := hw
        have rx41_33 : inR x41_33 := mRn_41 hw.1.2.2.1
        have rx42_33 : inR x42_33 := mRn_42 hw.1.2.2.1
        have hh33_ : zz33_ = -1 := hq33_
        clear hq33_
        exact hret 57 zz33_ (upN (upN (upN (upN (upN (upN (upN n_0 24 (n_0 24)) 25 (n_0 25)) 26 (n_0 26)) 27 (n_0 27)) 37 (n_0 37)) 41 x41_33) 42 x42_33) (upF (upF (upF (upF f_0 30 (f_0 30)) 31 (f_0 31)) 32 (f_0 32)) 33 (f_0 33)) _ _ ls hw rr33_ ⟨(n_0 24), (n_0 25), (n_0 26), (n_0 27), (n_0 37), x41_33, x42_33, (f_0 30), (f_0 31), (f_0 32), (f_0 33), rfl, rfl, Or.inl ⟨by omega, Fr_rf, fun i_ h_ => rfl, by omega⟩⟩ dX10_readUnit_57
  · refine j_aload_n E 16 rfl dX10_readUnit_15 rfl (lv_at hl 1 rfl) ?_
    refine j_aload_n E 17 rfl dX10_readUnit_16 rfl (lv_at hl 1 rfl) ?_
    refine m_get_27 E hK hw (n_0 27) rfl 20 rfl dX10_readUnit_17 (fun rr34_ => ?_)
    refine j_bipush E 22 rfl dX10_readUnit_20 (by decide) ?_
    refine j_bipush E 24 rfl dX10_readUnit_22 (by decide) ?_
    refine m_callp (po := fun z_0 => (z_0 = 1 ∧ (6 : Int) ≤ (n_0 27) ∧ (n_0 27) ≤ (10 : Int)) ∨ (z_0 = 0 ∧ ((n_0 27) < (6 : Int) ∨ (10 : Int) < (n_0 27)))) E (c_X10_isIn l D cy q (n_0) (f_0) (n_0 27) 6 10  rr34_ (rr (by decide)) (rr (by decide)) ) rfl mt_X10_isIn ml_X10_169 hK hw hA ⟨Nat.le_of_ble_eq_true rfl, Nat.le_of_ble_eq_true rfl⟩ (As := [.int (J (n_0 27)), .int (J 6), .int (J 10)]) (rest := []) rfl rfl hl.1 (Nat.le_of_ble_eq_true rfl) 27 rfl dX10_readUnit_24 (fun zz35_ H locs rr35_ hq35_ hw => ?_)
    have hh35_ : (zz35_ = 1 ∧ (6 : Int) ≤ (n_0 27) ∧ (n_0 27) ≤ (10 : Int)) ∨ (zz35_ = 0 ∧ ((n_0 27) < (6 : Int) ∨ (10 : Int) < (n_0 27))) := hq35_
    clear hq35_
    rcases hh35_ with ⟨ee35_, hh35_⟩ | ⟨ee35_, hh35_⟩
    · subst ee35_
      refine j_if_eq E 30 34 rfl (rr (by decide)) dX10_readUnit_27 (by decide) (fun cc36_ => absurd cc36_ (by decide)) (fun _ => ?_)
      refine j_iconst E 31 rfl dX10_readUnit_30 ?_
      refine j_goto E 35 dX10_readUnit_31 (by decide) ?_
      refine j_istore_n E 36 rfl [(2, .int (J 1)), (1, .int (J zz1_)), (0, .ref (q 0))] dX10_readUnit_35 rfl hl (by decide) rfl (fun ls hl => ?_)
      refine j_iload_n E 37 rfl dX10_readUnit_36 rfl (lv_at hl 1 rfl) ?_
      refine j_if_ne E 40 58 rfl rr1_ dX10_readUnit_37 (by decide) (fun cc37_ => ?_) (fun cc37_ => ?_)
      · refine j_aload_n E 59 rfl dX10_readUnit_58 rfl (lv_at hl 2 rfl) ?_
        refine m_get_27 E hK hw (n_0 27) rfl 62 rfl dX10_readUnit_59 (fun _ => ?_)
        refine j_istore_n E 63 rfl [(3, .int (J (n_0 27))), (2, .int (J 1)), (1, .int (J zz1_)), (0, .ref (q 0))] dX10_readUnit_62 rfl hl (by decide) rfl (fun ls hl => ?_)
        refine j_iload_n E 64 rfl dX10_readUnit_63 rfl (lv_at hl 2 rfl) ?_
        refine j_if_ne E 67 98 rfl rr1_ dX10_readUnit_64 (by decide) (fun cc38_ => ?_) (fun cc38_ => ?_)
        · refine j_aload_n E 99 rfl dX10_readUnit_98 rfl (lv_at hl 3 rfl) ?_
          refine m_callv E (c_X10_next l D cy q (n_0) (f_0)    (show 0 ≤ (n_0 29) ∧ (n_0 29) < 32 from by omega) (show 0 ≤ (n_0 23) ∧ (n_0 23) ≤ 400 from by omega) (show Wds_ (f_0 28) from hp2) (show 0 ≤ (n_0 24) ∧ (n_0 24) ≤ (n_0 23) from by omega) (show 0 ≤ (f_0 31 ((n_0 29))) ∧ (f_0 31 ((n_0 29))) ≤ (n_0 24) from by omega)) rfl mt_X10_next ml_X10_269 hK hw hA ⟨Nat.le_of_ble_eq_true rfl, Nat.le_of_ble_eq_true rfl⟩ (As := []) (rest := []) rfl rfl hl.1 (Nat.le_of_ble_eq_true rfl) 102 rfl dX10_readUnit_99 (fun n_39 f_39 H locs hq39_ hw => ?_)
          obtain ⟨x24_39, x25_39, x26_39, x27_39, y30_39, y31_39, en39_, ef39_, hq39_⟩ := hq39_
          rw [en39_, ef39_] at hw; clear en39_ ef39_
          have hw : WM D cy q (upN (upN (upN (upN n_0 24 x24_39) 25 x25_39) 26 x26_39) 27 x27_39) (upF (upF f_0 30 y30_39) 31 y31_39) A0 H0 H locs := hw
          have rx24_39 : inR x24_39 := mRn_24 hw.1.2.2.1
          have rx25_39 : inR x25_39 := mRn_25 hw.1.2.2.1
          have rx26_39 : inR x26_39 := mRn_26 hw.1.2.2.1
          have rx27_39 : inR x27_39 := mRn_27 hw.1.2.2.1
          have hh39_ : (0 ≤ (x25_39) ∧ (x25_39) ≤ (x24_39) ∧ (x24_39) ≤ (n_0 23)) ∧ (0 ≤ (y31_39 ((n_0 29))) ∧ (y31_39 ((n_0 29))) ≤ (x24_39)) ∧ (0 ≤ (x26_39) ∧ (x26_39) ≤ 4) ∧ (¬ (x26_39) = 0 → (x25_39) < (x24_39)) ∧ ((x26_39) = 3 → 0 ≤ (x27_39) ∧ (x27_39) ≤ 9999) ∧ (n_0 24) ≤ (x25_39) ∧ (∀ i, i ≠ (n_0 29) → (y31_39 i) = (f_0 31 i)) := hq39_
          clear hq39_
          have hj_ := hh39_.2.2.2.2.2.2
          refine j_aload_n E 103 rfl dX10_readUnit_102 rfl (lv_at hl 3 rfl) ?_
          refine m_get_26 E hK hw x26_39 rfl 106 rfl dX10_readUnit_103 (fun _ => ?_)
          refine j_iconst E 107 rfl dX10_readUnit_106 ?_
          refine j_icmp_eq E 110 116 rfl rx26_39 (rr (by decide)) dX10_readUnit_107 (by decide) (fun cc40_ => ?_) (fun cc40_ => ?_)
          · refine j_aload_n E 117 rfl dX10_readUnit_116 rfl (lv_at hl 3 rfl) ?_
            refine m_get_27 E hK hw x27_39 rfl 120 rfl dX10_readUnit_117 (fun _ => ?_)
            refine j_bipush E 122 rfl dX10_readUnit_120 (by decide) ?_
            refine j_icmp_lt E 125 131 rfl rx27_39 (rr (by decide)) dX10_readUnit_122 (by decide) (fun cc41_ => ?_) (fun cc41_ => ?_)
            · refine j_aload_n E 132 rfl dX10_readUnit_131 rfl (lv_at hl 3 rfl) ?_
              refine j_iconst E 133 rfl dX10_readUnit_132 ?_
              refine j_aload_n E 134 rfl dX10_readUnit_133 rfl (lv_at hl 3 rfl) ?_
              refine m_get_27 E hK hw x27_39 rfl 137 rfl dX10_readUnit_134 (fun _ => ?_)
              refine m_callv E (c_X10_emits l D cy q (upN (upN (upN (upN n_0 24 x24_39) 25 x25_39) 26 x26_39) 27 x27_39) (upF (upF f_0 30 y30_39) 31 y31_39) 2 x27_39  (rr (by decide)) rx27_39 (show 0 ≤ (n_0 29) ∧ (n_0 29) < 32 from by omega) (show 0 ≤ (n_0 37) ∧ (n_0 37) ≤ 399 from by omega)) rfl mt_X10_emits ml_X10_265 hK hw hA ⟨Nat.le_of_ble_eq_true rfl, Nat.le_of_ble_eq_true rfl⟩ (As := [.int (J 2), .int (J x27_39)]) (rest := []) rfl rfl hl.1 (Nat.le_of_ble_eq_true rfl) 140 rfl dX10_readUnit_137 (fun n_42 f_42 H locs hq42_ hw => ?_)
              obtain ⟨x37_42, y32_42, y33_42, en42_, ef42_, hq42_⟩ := hq42_
              rw [en42_, ef42_] at hw; clear en42_ ef42_
              have hw : WM D cy q (upN (upN (upN (upN (upN n_0 24 x24_39) 25 x25_39) 26 x26_39) 27 x27_39) 37 x37_42) (upF (upF (upF (upF f_0 30 y30_39) 31 y31_39) 32 y32_42) 33 y33_42) A0 H0 H locs := hw
              have rx37_42 : inR x37_42 := mRn_37 hw.1.2.2.1
              have hh42_ : (y32_42) = upA (f_0 32) (400 * (n_0 29) + (n_0 37)) (2 : Int) ∧ (y33_42) = upA (f_0 33) (400 * (n_0 29) + (n_0 37)) x27_39 ∧ (x37_42) = (n_0 37) + 1 := hq42_
              clear hq42_
              have hm_ : (x37_42) = n_0 37 + 1 := hh42_.2.2
              have hz_ : Pz_ (y32_42) (y33_42) (400 * n_0 29 + lo_) (400 * n_0 29 + (x37_42)) (el_ + 1) := by rw [hh42_.1, hh42_.2.1, show 400 * n_0 29 + (x37_42) = 400 * n_0 29 + n_0 37 + 1 by omega]; exact Pz_ext hp4 (by omega) (by omega) (by omega)
              have hf_ : Fr_ (f_0 32) (f_0 33) (y32_42) (y33_42) (400 * n_0 29 + n_0 37) := by rw [hh42_.1, hh42_.2.1]; exact Fr_up (by omega)
              refine j_aload_n E 141 rfl dX10_readUnit_140 rfl (lv_at hl 3 rfl) ?_
              refine m_callv E (c_X10_next l D cy q (upN (upN (upN (upN (upN n_0 24 x24_39) 25 x25_39) 26 x26_39) 27 x27_39) 37 x37_42) (upF (upF (upF (upF f_0 30 y30_39) 31 y31_39) 32 y32_42) 33 y33_42)    (show 0 ≤ (n_0 29) ∧ (n_0 29) < 32 from by omega) (show 0 ≤ (n_0 23) ∧ (n_0 23) ≤ 400 from by omega) (show Wds_ (f_0 28) from hp2) (show 0 ≤ (x24_39) ∧ (x24_39) ≤ (n_0 23) from by omega) (show 0 ≤ (y31_39 ((n_0 29))) ∧ (y31_39 ((n_0 29))) ≤ (x24_39) from by omega)) rfl mt_X10_next ml_X10_269 hK hw hA ⟨Nat.le_of_ble_eq_true rfl, Nat.le_of_ble_eq_true rfl⟩ (As := []) (rest := []) rfl rfl hl.1 (Nat.le_of_ble_eq_true rfl) 144 rfl dX10_readUnit_141 (fun n_43 f_43 H locs hq43_ hw => ?_)
              obtain ⟨x24_43, x25_43, x26_43, x27_43, y30_43, y31_43, en43_, ef43_, hq43_⟩ := hq43_
              rw [en43_, ef43_] at hw; clear en43_ ef43_
              have hw : WM D cy q (upN (upN (upN (upN (upN n_0 24 x24_43) 25 x25_43) 26 x26_43) 27 x27_43) 37 x37_42) (upF (upF (upF (upF f_0 30 y30_43) 31 y31_43) 32 y32_42) 33 y33_42) A0 H0 H locs := hw
              have rx24_43 : inR x24_43 := mRn_24 hw.1.2.2.1
              have rx25_43 : inR x25_43 := mRn_25 hw.1.2.2.1
              have rx26_43 : inR x26_43 := mRn_26 hw.1.2.2.1
              have rx27_43 : inR x27_43 := mRn_27 hw.1.2.2.1
              have hh43_ : (0 ≤ (x25_43) ∧ (x25_43) ≤ (x24_43) ∧ (x24_43) ≤ (n_0 23)) ∧ (0 ≤ (y31_43 ((n_0 29))) ∧ (y31_43 ((n_0 29))) ≤ (x24_43)) ∧ (0 ≤ (x26_43) ∧ (x26_43) ≤ 4) ∧ (¬ (x26_43) = 0 → (x25_43) < (x24_43)) ∧ ((x26_43) = 3 → 0 ≤ (x27_43) ∧ (x27_43) ≤ 9999) ∧ (x24_39) ≤ (x25_43) ∧ (∀ i, i ≠ (n_0 29) → (y31_43 i) = (y31_39 i)) := hq43_
              clear hq43_
              have hk_ := hh43_.2.2.2.2.2.2
              refine j_iconst E 145 rfl dX10_readUnit_144 ?_
              exact hret 145 0 (upN (upN (upN (upN (upN (upN (upN n_0 24 x24_43) 25 x25_43) 26 x26_43) 27 x27_43) 37 x37_42) 41 (n_0 41)) 42 (n_0 42)) (upF (upF (upF (upF f_0 30 y30_43) 31 y31_43) 32 y32_42) 33 y33_42) _ _ ls hw (rr (by decide)) ⟨x24_43, x25_43, x26_43, x27_43, x37_42, (n_0 41), (n_0 42), y30_43, y31_43, y32_42, y33_42, rfl, rfl, Or.inr ⟨rfl, hf_, tk_tr hj_ hk_, by omega, by omega, by omega, by omega, hz_, fun h3_ => absurd h3_ (by omega)⟩⟩ dX10_readUnit_145
            · refine j_aload_n E 126 rfl dX10_readUnit_125 rfl (lv_at hl 3 rfl) ?_
              refine j_iconst E 127 rfl dX10_readUnit_126 ?_
              refine m_calli E (c_X10_fails l D cy q (upN (upN (upN (upN n_0 24 x24_39) 25 x25_39) 26 x26_39) 27 x27_39) (upF (upF f_0 30 y30_39) 31 y31_39) 2  (rr (by decide)) ) rfl mt_X10_fails ml_X10_262 hK hw hA ⟨Nat.le_of_ble_eq_true rfl, Nat.le_of_ble_eq_true rfl⟩ (As := [.int (J 2)]) (rest := []) rfl rfl hl.1 (Nat.le_of_ble_eq_true rfl) 130 rfl dX10_readUnit_127 (fun zz44_ n_44 f_44 H locs rr44_ hq44_ hw => ?_)
              obtain ⟨x41_44, x42_44, en44_, ef44_, hq44_⟩ := hq44_
              rw [en44_, ef44_] at hw; clear en44_ ef44_
              have hw : WM D cy q (upN (upN (upN (upN (upN (upN n_0 24 x24_39) 25 x25_39) 26 x26_39) 27 x27_39) 41 x41_44) 42 x42_44) (upF (upF f_0 30 y30_39) 31 y31_39) A0 H0 H locs := hw
              have rx41_44 : inR x41_44 := mRn_41 hw.1.2.2.1
              have rx42_44 : inR x42_44 := mRn_42 hw.1.2.2.1
              have hh44_ : zz44_ = -1 := hq44_
              clear hq44_
              exact hret 130 zz44_ (upN (upN (upN (upN (upN (upN (upN n_0 24 x24_39) 25 x25_39) 26 x26_39) 27 x27_39) 37 (n_0 37)) 41 x41_44) 42 x42_44) (upF (upF (upF (upF f_0 30 y30_39) 31 y31_39) 32 (f_0 32)) 33 (f_0 33)) _ _ ls hw rr44_ ⟨x24_39, x25_39, x26_39, x27_39, (n_0 37), x41_44, x42_44, y30_39, y31_39, (f_0 32), (f_0 33), rfl, rfl, Or.inl ⟨by omega, Fr_rf, hj_, by omega⟩⟩ dX10_readUnit_130
          · refine j_aload_n E 111 rfl dX10_readUnit_110 rfl (lv_at hl 3 rfl) ?_
            refine j_iconst E 112 rfl dX10_readUnit_111 ?_
            refine m_calli E (c_X10_fails l D cy q (upN (upN (upN (upN n_0 24 x24_39) 25 x25_39) 26 x26_39) 27 x27_39) (upF (upF f_0 30 y30_39) 31 y31_39) 1  (rr (by decide)) ) rfl mt_X10_fails ml_X10_262 hK hw hA ⟨Nat.le_of_ble_eq_true rfl, Nat.le_of_ble_eq_true rfl⟩ (As := [.int (J 1)]) (rest := []) rfl rfl hl.1 (Nat.le_of_ble_eq_true rfl) 115 rfl dX10_readUnit_112 (fun zz45_ n_45 f_45 H locs rr45_ hq45_ hw => ?_)
            obtain ⟨x41_45, x42_45, en45_, ef45_, hq45_⟩ := hq45_
            rw [en45_, ef45_] at hw; clear en45_ ef45_
            have hw : WM D cy q (upN (upN (upN (upN (upN (upN n_0 24 x24_39) 25 x25_39) 26 x26_39) 27 x27_39) 41 x41_45) 42 x42_45) (upF (upF f_0 30 y30_39) 31 y31_39) A0 H0 H locs := hw
            have rx41_45 : inR x41_45 := mRn_41 hw.1.2.2.1
            have rx42_45 : inR x42_45 := mRn_42 hw.1.2.2.1
            have hh45_ : zz45_ = -1 := hq45_
            clear hq45_
            exact hret 115 zz45_ (upN (upN (upN (upN (upN (upN (upN n_0 24 x24_39) 25 x25_39) 26 x26_39) 27 x27_39) 37 (n_0 37)) 41 x41_45) 42 x42_45) (upF (upF (upF (upF f_0 30 y30_39) 31 y31_39) 32 (f_0 32)) 33 (f_0 33)) _ _ ls hw rr45_ ⟨x24_39, x25_39, x26_39, x27_39, (n_0 37), x41_45, x42_45, y30_39, y31_39, (f_0 32), (f_0 33), rfl, rfl, Or.inl ⟨by omega, Fr_rf, hj_, by omega⟩⟩ dX10_readUnit_115
        · refine j_aload_n E 68 rfl dX10_readUnit_67 rfl (lv_at hl 3 rfl) ?_
          refine j_iload_n E 69 rfl dX10_readUnit_68 rfl (lv_at hl 1 rfl) ?_
          refine j_if_eq E 72 76 rfl (rr (by decide)) dX10_readUnit_69 (by decide) (fun cc46_ => absurd cc46_ (by decide)) (fun _ => ?_)
          refine j_iconst E 73 rfl dX10_readUnit_72 ?_
          refine j_goto E 77 dX10_readUnit_73 (by decide) ?_
          refine j_iload_n E 78 rfl dX10_readUnit_77 rfl (lv_at hl 1 rfl) ?_
          refine j_if_eq E 81 88 rfl (rr (by decide)) dX10_readUnit_78 (by decide) (fun cc47_ => absurd cc47_ (by decide)) (fun _ => ?_)
          refine j_iload_n E 82 rfl dX10_readUnit_81 rfl (lv_at hl 0 rfl) ?_
          refine j_bipush E 84 rfl dX10_readUnit_82 (by decide) ?_
          refine j_isub E 85 rfl dX10_readUnit_84 ?_
          refine j_goto E 89 dX10_readUnit_85 (by decide) ?_
          refine m_callv E (c_X10_emits l D cy q (n_0) (f_0) 1 ((n_0 27) - 6)  (rr (by decide)) (rr (by omega)) (show 0 ≤ (n_0 29) ∧ (n_0 29) < 32 from by omega) (show 0 ≤ (n_0 37) ∧ (n_0 37) ≤ 399 from by omega)) rfl mt_X10_emits ml_X10_265 hK hw hA ⟨Nat.le_of_ble_eq_true rfl, Nat.le_of_ble_eq_true rfl⟩ (As := [.int (J 1), .int (J ((n_0 27) - 6))]) (rest := []) rfl rfl hl.1 (Nat.le_of_ble_eq_true rfl) 92 rfl dX10_readUnit_89 (fun n_48 f_48 H locs hq48_ hw => ?_)
          obtain ⟨x37_48, y32_48, y33_48, en48_, ef48_, hq48_⟩ := hq48_
          rw [en48_, ef48_] at hw; clear en48_ ef48_
          have hw : WM D cy q (upN n_0 37 x37_48) (upF (upF f_0 32 y32_48) 33 y33_48) A0 H0 H locs := hw
          have rx37_48 : inR x37_48 := mRn_37 hw.1.2.2.1
          have hh48_ : (y32_48) = upA (f_0 32) (400 * (n_0 29) + (n_0 37)) (1 : Int) ∧ (y33_48) = upA (f_0 33) (400 * (n_0 29) + (n_0 37)) ((n_0 27) - 6) ∧ (x37_48) = (n_0 37) + 1 := hq48_
          clear hq48_
          have hm_ : (x37_48) = n_0 37 + 1 := hh48_.2.2
          have hz_ : Pz_ (y32_48) (y33_48) (400 * n_0 29 + lo_) (400 * n_0 29 + (x37_48)) (el_ + 1) := by rw [hh48_.1, hh48_.2.1, show 400 * n_0 29 + (x37_48) = 400 * n_0 29 + n_0 37 + 1 by omega]; exact Pz_ext hp4 (by omega) (by omega) (by omega)
          have hf_ : Fr_ (f_0 32) (f_0 33) (y32_48) (y33_48) (400 * n_0 29 + n_0 37) := by rw [hh48_.1, hh48_.2.1]; exact Fr_up (by omega)
          have ho_ : (y32_48 (400 * n_0 29 + n_0 37)) = (1 : Int) ∧ (y33_48 (400 * n_0 29 + n_0 37)) = ((n_0 27) - 6) := by rw [hh48_.1, hh48_.2.1]; exact ⟨upA_same _ _ _, upA_same _ _ _⟩
          refine j_aload_n E 93 rfl dX10_readUnit_92 rfl (lv_at hl 3 rfl) ?_
          refine m_callv E (c_X10_next l D cy q (upN n_0 37 x37_48) (upF (upF f_0 32 y32_48) 33 y33_48)    (show 0 ≤ (n_0 29) ∧ (n_0 29) < 32 from by omega) (show 0 ≤ (n_0 23) ∧ (n_0 23) ≤ 400 from by omega) (show Wds_ (f_0 28) from hp2) (show 0 ≤ (n_0 24) ∧ (n_0 24) ≤ (n_0 23) from by omega) (show 0 ≤ (f_0 31 ((n_0 29))) ∧ (f_0 31 ((n_0 29))) ≤ (n_0 24) from by omega)) rfl mt_X10_next ml_X10_269 hK hw hA ⟨Nat.le_of_ble_eq_true rfl, Nat.le_of_ble_eq_true rfl⟩ (As := []) (rest := []) rfl rfl hl.1 (Nat.le_of_ble_eq_true rfl) 96 rfl dX10_readUnit_93 (fun n_49 f_49 H locs hq49_ hw => ?_)
          obtain ⟨x24_49, x25_49, x26_49, x27_49, y30_49, y31_49, en49_, ef49_, hq49_⟩ := hq49_
          rw [en49_, ef49_] at hw; clear en49_ ef49_
          have hw : WM D cy q (upN (upN (upN (upN (upN n_0 24 x24_49) 25 x25_49) 26 x26_49) 27 x27_49) 37 x37_48) (upF (upF (upF (upF f_0 30 y30_49) 31 y31_49) 32 y32_48) 33 y33_48) A0 H0 H locs := hw
          have rx24_49 : inR x24_49 := mRn_24 hw.1.2.2.1
          have rx25_49 : inR x25_49 := mRn_25 hw.1.2.2.1
          have rx26_49 : inR x26_49 := mRn_26 hw.1.2.2.1
          have rx27_49 : inR x27_49 := mRn_27 hw.1.2.2.1
          have hh49_ : (0 ≤ (x25_49) ∧ (x25_49) ≤ (x24_49) ∧ (x24_49) ≤ (n_0 23)) ∧ (0 ≤ (y31_49 ((n_0 29))) ∧ (y31_49 ((n_0 29))) ≤ (x24_49)) ∧ (0 ≤ (x26_49) ∧ (x26_49) ≤ 4) ∧ (¬ (x26_49) = 0 → (x25_49) < (x24_49)) ∧ ((x26_49) = 3 → 0 ≤ (x27_49) ∧ (x27_49) ≤ 9999) ∧ (n_0 24) ≤ (x25_49) ∧ (∀ i, i ≠ (n_0 29) → (y31_49 i) = (f_0 31 i)) := hq49_
          clear hq49_
          have hk_ := hh49_.2.2.2.2.2.2
          refine j_iconst E 97 rfl dX10_readUnit_96 ?_
          exact hret 97 0 (upN (upN (upN (upN (upN (upN (upN n_0 24 x24_49) 25 x25_49) 26 x26_49) 27 x27_49) 37 x37_48) 41 (n_0 41)) 42 (n_0 42)) (upF (upF (upF (upF f_0 30 y30_49) 31 y31_49) 32 y32_48) 33 y33_48) _ _ ls hw (rr (by decide)) ⟨x24_49, x25_49, x26_49, x27_49, x37_48, (n_0 41), (n_0 42), y30_49, y31_49, y32_48, y33_48, rfl, rfl, Or.inr ⟨rfl, hf_, hk_, by omega, by omega, by omega, by omega, hz_, fun h3_ => ⟨by omega, by omega, by omega⟩⟩⟩ dX10_readUnit_97
      · refine j_iload_n E 41 rfl dX10_readUnit_40 rfl (lv_at hl 0 rfl) ?_
        refine j_if_ne E 44 58 rfl (rr (by decide)) dX10_readUnit_41 (by decide) (fun _ => ?_) (fun cc50_ => absurd cc50_ (by decide))
        refine j_aload_n E 59 rfl dX10_readUnit_58 rfl (lv_at hl 2 rfl) ?_
        refine m_get_27 E hK hw (n_0 27) rfl 62 rfl dX10_readUnit_59 (fun _ => ?_)
        refine j_istore_n E 63 rfl [(3, .int (J (n_0 27))), (2, .int (J 1)), (1, .int (J zz1_)), (0, .ref (q 0))] dX10_readUnit_62 rfl hl (by decide) rfl (fun ls hl => ?_)
        refine j_iload_n E 64 rfl dX10_readUnit_63 rfl (lv_at hl 2 rfl) ?_
        refine j_if_ne E 67 98 rfl rr1_ dX10_readUnit_64 (by decide) (fun cc51_ => ?_) (fun cc51_ => ?_)
        · refine j_aload_n E 99 rfl dX10_readUnit_98 rfl (lv_at hl 3 rfl) ?_
          refine m_callv E (c_X10_next l D cy q (n_0) (f_0)    (show 0 ≤ (n_0 29) ∧ (n_0 29) < 32 from by omega) (show 0 ≤ (n_0 23) ∧ (n_0 23) ≤ 400 from by omega) (show Wds_ (f_0 28) from hp2) (show 0 ≤ (n_0 24) ∧ (n_0 24) ≤ (n_0 23) from by omega) (show 0 ≤ (f_0 31 ((n_0 29))) ∧ (f_0 31 ((n_0 29))) ≤ (n_0 24) from by omega)) rfl mt_X10_next ml_X10_269 hK hw hA ⟨Nat.le_of_ble_eq_true rfl, Nat.le_of_ble_eq_true rfl⟩ (As := []) (rest := []) rfl rfl hl.1 (Nat.le_of_ble_eq_true rfl) 102 rfl dX10_readUnit_99 (fun n_52 f_52 H locs hq52_ hw => ?_)
          obtain ⟨x24_52, x25_52, x26_52, x27_52, y30_52, y31_52, en52_, ef52_, hq52_⟩ := hq52_
          rw [en52_, ef52_] at hw; clear en52_ ef52_
          have hw : WM D cy q (upN (upN (upN (upN n_0 24 x24_52) 25 x25_52) 26 x26_52) 27 x27_52) (upF (upF f_0 30 y30_52) 31 y31_52) A0 H0 H locs := hw
          have rx24_52 : inR x24_52 := mRn_24 hw.1.2.2.1
          have rx25_52 : inR x25_52 := mRn_25 hw.1.2.2.1
          have rx26_52 : inR x26_52 := mRn_26 hw.1.2.2.1
          have rx27_52 : inR x27_52 := mRn_27 hw.1.2.2.1
          have hh52_ : (0 ≤ (x25_52) ∧ (x25_52) ≤ (x24_52) ∧ (x24_52) ≤ (n_0 23)) ∧ (0 ≤ (y31_52 ((n_0 29))) ∧ (y31_52 ((n_0 29))) ≤ (x24_52)) ∧ (0 ≤ (x26_52) ∧ (x26_52) ≤ 4) ∧ (¬ (x26_52) = 0 → (x25_52) < (x24_52)) ∧ ((x26_52) = 3 → 0 ≤ (x27_52) ∧ (x27_52) ≤ 9999) ∧ (n_0 24) ≤ (x25_52) ∧ (∀ i, i ≠ (n_0 29) → (y31_52 i) = (f_0 31 i)) := hq52_
          clear hq52_
          have hj_ := hh52_.2.2.2.2.2.2
          refine j_aload_n E 103 rfl dX10_readUnit_102 rfl (lv_at hl 3 rfl) ?_
          refine m_get_26 E hK hw x26_52 rfl 106 rfl dX10_readUnit_103 (fun _ => ?_)
          refine j_iconst E 107 rfl dX10_readUnit_106 ?_
          refine j_icmp_eq E 110 116 rfl rx26_52 (rr (by decide)) dX10_readUnit_107 (by decide) (fun cc53_ => ?_) (fun cc53_ => ?_)
          · refine j_aload_n E 117 rfl dX10_readUnit_116 rfl (lv_at hl 3 rfl) ?_
            refine m_get_27 E hK hw x27_52 rfl 120 rfl dX10_readUnit_117 (fun _ => ?_)
            refine j_bipush E 122 rfl dX10_readUnit_120 (by decide) ?_
            refine j_icmp_lt E 125 131 rfl rx27_52 (rr (by decide)) dX10_readUnit_122 (by decide) (fun cc54_ => ?_) (fun cc54_ => ?_)
            · refine j_aload_n E 132 rfl dX10_readUnit_131 rfl (lv_at hl 3 rfl) ?_
              refine j_iconst E 133 rfl dX10_readUnit_132 ?_
              refine j_aload_n E 134 rfl dX10_readUnit_133 rfl (lv_at hl 3 rfl) ?_
              refine m_get_27 E hK hw x27_52 rfl 137 rfl dX10_readUnit_134 (fun _ => ?_)
              refine m_callv E (c_X10_emits l D cy q (upN (upN (upN (upN n_0 24 x24_52) 25 x25_52) 26 x26_52) 27 x27_52) (upF (upF f_0 30 y30_52) 31 y31_52) 2 x27_52  (rr (by decide)) rx27_52 (show 0 ≤ (n_0 29) ∧ (n_0 29) < 32 from by omega) (show 0 ≤ (n_0 37) ∧ (n_0 37) ≤ 399 from by omega)) rfl mt_X10_emits ml_X10_265 hK hw hA ⟨Nat.le_of_ble_eq_true rfl, Nat.le_of_ble_eq_true rfl⟩ (As := [.int (J 2), .int (J x27_52)]) (rest := []) rfl rfl hl.1 (Nat.le_of_ble_eq_true rfl) 140 rfl dX10_readUnit_137 (fun n_55 f_55 H locs hq55_ hw => ?_)
              obtain ⟨x37_55, y32_55, y33_55, en55_, ef55_, hq55_⟩ := hq55_
              rw [en55_, ef55_] at hw; clear en55_ ef55_
              have hw : WM D cy q (upN (upN (upN (upN (upN n_0 24 x24_52) 25 x25_52) 26 x26_52) 27 x27_52) 37 x37_55) (upF (upF (upF (upF f_0 30 y30_52) 31 y31_52) 32 y32_55) 33 y33_55) A0 H0 H locs := hw
              have rx37_55 : inR x37_55 := mRn_37 hw.1.2.2.1
              have hh55_ : (y32_55) = upA (f_0 32) (400 * (n_0 29) + (n_0 37)) (2 : Int) ∧ (y33_55) = upA (f_0 33) (400 * (n_0 29) + (n_0 37)) x27_52 ∧ (x37_55) = (n_0 37) + 1 := hq55_
              clear hq55_
              have hm_ : (x37_55) = n_0 37 + 1 := hh55_.2.2
              have hz_ : Pz_ (y32_55) (y33_55) (400 * n_0 29 + lo_) (400 * n_0 29 + (x37_55)) (el_ + 1) := by rw [hh55_.1, hh55_.2.1, show 400 * n_0 29 + (x37_55) = 400 * n_0 29 + n_0 37 + 1 by omega]; exact Pz_ext hp4 (by omega) (by omega) (by omega)
              have hf_ : Fr_ (f_0 32) (f_0 33) (y32_55) (y33_55) (400 * n_0 29 + n_0 37) := by rw [hh55_.1, hh55_.2.1]; exact Fr_up (by omega)
              refine j_aload_n E 141 rfl dX10_readUnit_140 rfl (lv_at hl 3 rfl) ?_
              refine m_callv E (c_X10_next l D cy q (upN (upN (upN (upN (upN n_0 24 x24_52) 25 x25_52) 26 x26_52) 27 x27_52) 37 x37_55) (upF (upF (upF (upF f_0 30 y30_52) 31 y31_52) 32 y32_55) 33 y33_55)    (show 0 ≤ (n_0 29) ∧ (n_0 29) < 32 from by omega) (show 0 ≤ (n_0 23) ∧ (n_0 23) ≤ 400 from by omega) (show Wds_ (f_0 28) from hp2) (show 0 ≤ (x24_52) ∧ (x24_52) ≤ (n_0 23) from by omega) (show 0 ≤ (y31_52 ((n_0 29))) ∧ (y31_52 ((n_0 29))) ≤ (x24_52) from by omega)) rfl mt_X10_next ml_X10_269 hK hw hA ⟨Nat.le_of_ble_eq_true rfl, Nat.le_of_ble_eq_true rfl⟩ (As := []) (rest := []) rfl rfl hl.1 (Nat.le_of_ble_eq_true rfl) 144 rfl dX10_readUnit_141 (fun n_56 f_56 H locs hq56_ hw => ?_)
              obtain ⟨x24_56, x25_56, x26_56, x27_56, y30_56, y31_56, en56_, ef56_, hq56_⟩ := hq56_
              rw [en56_, ef56_] at hw; clear en56_ ef56_
              have hw : WM D cy q (upN (upN (upN (upN (upN n_0 24 x24_56) 25 x25_56) 26 x26_56) 27 x27_56) 37 x37_55) (upF (upF (upF (upF f_0 30 y30_56) 31 y31_56) 32 y32_55) 33 y33_55) A0 H0 H locs := hw
              have rx24_56 : inR x24_56 := mRn_24 hw.1.2.2.1
              have rx25_56 : inR x25_56 := mRn_25 hw.1.2.2.1
              have rx26_56 : inR x26_56 := mRn_26 hw.1.2.2.1
              have rx27_56 : inR x27_56 := mRn_27 hw.1.2.2.1
              have hh56_ : (0 ≤ (x25_56) ∧ (x25_56) ≤ (x24_56) ∧ (x24_56) ≤ (n_0 23)) ∧ (0 ≤ (y31_56 ((n_0 29))) ∧ (y31_56 ((n_0 29))) ≤ (x24_56)) ∧ (0 ≤ (x26_56) ∧ (x26_56) ≤ 4) ∧ (¬ (x26_56) = 0 → (x25_56) < (x24_56)) ∧ ((x26_56) = 3 → 0 ≤ (x27_56) ∧ (x27_56) ≤ 9999) ∧ (x24_52) ≤ (x25_56) ∧ (∀ i, i ≠ (n_0 29) → (y31_56 i) = (y31_52 i)) := hq56_
              clear hq56_
              have hk_ := hh56_.2.2.2.2.2.2
              refine j_iconst E 145 rfl dX10_readUnit_144 ?_
              exact hret 145 0 (upN (upN (upN (upN (upN (upN (upN n_0 24 x24_56) 25 x25_56) 26 x26_56) 27 x27_56) 37 x37_55) 41 (n_0 41)) 42 (n_0 42)) (upF (upF (upF (upF f_0 30 y30_56) 31 y31_56) 32 y32_55) 33 y33_55) _ _ ls hw (rr (by decide)) ⟨x24_56, x25_56, x26_56, x27_56, x37_55, (n_0 41), (n_0 42), y30_56, y31_56, y32_55, y33_55, rfl, rfl, Or.inr ⟨rfl, hf_, tk_tr hj_ hk_, by omega, by omega, by omega, by omega, hz_, fun h3_ => absurd h3_ (by omega)⟩⟩ dX10_readUnit_145
            · refine j_aload_n E 126 rfl dX10_readUnit_125 rfl (lv_at hl 3 rfl) ?_
              refine j_iconst E 127 rfl dX10_readUnit_126 ?_
              refine m_calli E (c_X10_fails l D cy q (upN (upN (upN (upN n_0 24 x24_52) 25 x25_52) 26 x26_52) 27 x27_52) (upF (upF f_0 30 y30_52) 31 y31_52) 2  (rr (by decide)) ) rfl mt_X10_fails ml_X10_262 hK hw hA ⟨Nat.le_of_ble_eq_true rfl, Nat.le_of_ble_eq_true rfl⟩ (As := [.int (J 2)]) (rest := []) rfl rfl hl.1 (Nat.le_of_ble_eq_true rfl) 130 rfl dX10_readUnit_127 (fun zz57_ n_57 f_57 H locs rr57_ hq57_ hw => ?_)
              obtain ⟨x41_57, x42_57, en57_, ef57_, hq57_⟩ := hq57_
              rw [en57_, ef57_] at hw; clear en57_ ef57_
              have hw : WM D cy q (upN (upN (upN (upN (upN (upN n_0 24 x24_52) 25 x25_52) 26 x26_52) 27 x27_52) 41 x41_57) 42 x42_57) (upF (upF f_0 30 y30_52) 31 y31_52) A0 H0 H locs := hw
              have rx41_57 : inR x41_57 := mRn_41 hw.1.2.2.1
              have rx42_57 : inR x42_57 := mRn_42 hw.1.2.2.1
              have hh57_ : zz57_ = -1 := hq57_
              clear hq57_
              exact hret 130 zz57_ (upN (upN (upN (upN (upN (upN (upN n_0 24 x24_52) 25 x25_52) 26 x26_52) 27 x27_52) 37 (n_0 37)) 41 x41_57) 42 x42_57) (upF (upF (upF (upF f_0 30 y30_52) 31 y31_52) 32 (f_0 32)) 33 (f_0 33)) _ _ ls hw rr57_ ⟨x24_52, x25_52, x26_52, x27_52, (n_0 37), x41_57, x42_57, y30_52, y31_52, (f_0 32), (f_0 33), rfl, rfl, Or.inl ⟨by omega, Fr_rf, hj_, by omega⟩⟩ dX10_readUnit_130
          · refine j_aload_n E 111 rfl dX10_readUnit_110 rfl (lv_at hl 3 rfl) ?_
            refine j_iconst E 112 rfl dX10_readUnit_111 ?_
            refine m_calli E (c_X10_fails l D cy q (upN (upN (upN (upN n_0 24 x24_52) 25 x25_52) 26 x26_52) 27 x27_52) (upF (upF f_0 30 y30_52) 31 y31_52) 1  (rr (by decide)) ) rfl mt_X10_fails ml_X10_262 hK hw hA ⟨Nat.le_of_ble_eq_true rfl, Nat.le_of_ble_eq_true rfl⟩ (As := [.int (J 1)]) (rest := []) rfl rfl hl.1 (Nat.le_of_ble_eq_true rfl) 115 rfl dX10_readUnit_112 (fun zz58_ n_58 f_58 H locs rr58_ hq58_ hw => ?_)
            obtain ⟨x41_58, x42_58, en58_, ef58_, hq58_⟩ := hq58_
            rw [en58_, ef58_] at hw; clear en58_ ef58_
            have hw : WM D cy q (upN (upN (upN (upN (upN (upN n_0 24 x24_52) 25 x25_52) 26 x26_52) 27 x27_52) 41 x41_58) 42 x42_58) (upF (upF f_0 30 y30_52) 31 y31_52) A0 H0 H locs := hw
            have rx41_58 : inR x41_58 := mRn_41 hw.1.2.2.1
            have rx42_58 : inR x42_58 := mRn_42 hw.1.2.2.1
            have hh58_ : zz58_ = -1 := hq58_
            clear hq58_
            exact hret 115 zz58_ (upN (upN (upN (upN (upN (upN (upN n_0 24 x24_52) 25 x25_52) 26 x26_52) 27 x27_52) 37 (n_0 37)) 41 x41_58) 42 x42_58) (upF (upF (upF (upF f_0 30 y30_52) 31 y31_52) 32 (f_0 32)) 33 (f_0 33)) _ _ ls hw rr58_ ⟨x24_52, x25_52, x26_52, x27_52, (n_0 37), x41_58, x42_58, y30_52, y31_52, (f_0 32), (f_0 33), rfl, rfl, Or.inl ⟨by omega, Fr_rf, hj_, by omega⟩⟩ dX10_readUnit_115
        · refine j_aload_n E 68 rfl dX10_readUnit_67 rfl (lv_at hl 3 rfl) ?_
          refine j_iload_n E 69 rfl dX10_readUnit_68 rfl (lv_at hl 1 rfl) ?_
          refine j_if_eq E 72 76 rfl (rr (by decide)) dX10_readUnit_69 (by decide) (fun cc59_ => absurd cc59_ (by decide)) (fun _ => ?_)
          refine j_iconst E 73 rfl dX10_readUnit_72 ?_
          refine j_goto E 77 dX10_readUnit_73 (by decide) ?_
          refine j_iload_n E 78 rfl dX10_readUnit_77 rfl (lv_at hl 1 rfl) ?_
          refine j_if_eq E 81 88 rfl (rr (by decide)) dX10_readUnit_78 (by decide) (fun cc60_ => absurd cc60_ (by decide)) (fun _ => ?_)
          refine j_iload_n E 82 rfl dX10_readUnit_81 rfl (lv_at hl 0 rfl) ?_
          refine j_bipush E 84 rfl dX10_readUnit_82 (by decide) ?_
          refine j_isub E 85 rfl dX10_readUnit_84 ?_
          refine j_goto E 89 dX10_readUnit_85 (by decide) ?_
          refine m_callv E (c_X10_emits l D cy q (n_0) (f_0) 1 ((n_0 27) - 6)  (rr (by decide)) (rr (by omega)) (show 0 ≤ (n_0 29) ∧ (n_0 29) < 32 from by omega) (show 0 ≤ (n_0 37) ∧ (n_0 37) ≤ 399 from by omega)) rfl mt_X10_emits ml_X10_265 hK hw hA ⟨Nat.le_of_ble_eq_true rfl, Nat.le_of_ble_eq_true rfl⟩ (As := [.int (J 1), .int (J ((n_0 27) - 6))]) (rest := []) rfl rfl hl.1 (Nat.le_of_ble_eq_true rfl) 92 rfl dX10_readUnit_89 (fun n_61 f_61 H locs hq61_ hw => ?_)
          obtain ⟨x37_61, y32_61, y33_61, en61_, ef61_, hq61_⟩ := hq61_
          rw [en61_, ef61_] at hw; clear en61_ ef61_
          have hw : WM D cy q (upN n_0 37 x37_61) (upF (upF f_0 32 y32_61) 33 y33_61) A0 H0 H locs := hw
          have rx37_61 : inR x37_61 := mRn_37 hw.1.2.2.1
          have hh61_ : (y32_61) = upA (f_0 32) (400 * (n_0 29) + (n_0 37)) (1 : Int) ∧ (y33_61) = upA (f_0 33) (400 * (n_0 29) + (n_0 37)) ((n_0 27) - 6) ∧ (x37_61) = (n_0 37) + 1 := hq61_
          clear hq61_
          have hm_ : (x37_61) = n_0 37 + 1 := hh61_.2.2
          have hz_ : Pz_ (y32_61) (y33_61) (400 * n_0 29 + lo_) (400 * n_0 29 + (x37_61)) (el_ + 1) := by rw [hh61_.1, hh61_.2.1, show 400 * n_0 29 + (x37_61) = 400 * n_0 29 + n_0 37 + 1 by omega]; exact Pz_ext hp4 (by omega) (by omega) (by omega)
          have hf_ : Fr_ (f_0 32) (f_0 33) (y32_61) (y33_61) (400 * n_0 29 + n_0 37) := by rw [hh61_.1, hh61_.2.1]; exact Fr_up (by omega)
          have ho_ : (y32_61 (400 * n_0 29 + n_0 37)) = (1 : Int) ∧ (y33_61 (400 * n_0 29 + n_0 37)) = ((n_0 27) - 6) := by rw [hh61_.1, hh61_.2.1]; exact ⟨upA_same _ _ _, upA_same _ _ _⟩
          refine j_aload_n E 93 rfl dX10_readUnit_92 rfl (lv_at hl 3 rfl) ?_
          refine m_callv E (c_X10_next l D cy q (upN n_0 37 x37_61) (upF (upF f_0 32 y32_61) 33 y33_61)    (show 0 ≤ (n_0 29) ∧ (n_0 29) < 32 from by omega) (show 0 ≤ (n_0 23) ∧ (n_0 23) ≤ 400 from by omega) (show Wds_ (f_0 28) from hp2) (show 0 ≤ (n_0 24) ∧ (n_0 24) ≤ (n_0 23) from by omega) (show 0 ≤ (f_0 31 ((n_0 29))) ∧ (f_0 31 ((n_0 29))) ≤ (n_0 24) from by omega)) rfl mt_X10_next ml_X10_269 hK hw hA ⟨Nat.le_of_ble_eq_true rfl, Nat.le_of_ble_eq_true rfl⟩ (As := []) (rest := []) rfl rfl hl.1 (Nat.le_of_ble_eq_true rfl) 96 rfl dX10_readUnit_93 (fun n_62 f_62 H locs hq62_ hw => ?_)
          obtain ⟨x24_62, x25_62, x26_62, x27_62, y30_62, y31_62, en62_, ef62_, hq62_⟩ := hq62_
          rw [en62_, ef62_] at hw; clear en62_ ef62_
          have hw : WM D cy q (upN (upN (upN (upN (upN n_0 24 x24_62) 25 x25_62) 26 x26_62) 27 x27_62) 37 x37_61) (upF (upF (upF (upF f_0 30 y30_62) 31 y31_62) 32 y32_61) 33 y33_61) A0 H0 H locs := hw
          have rx24_62 : inR x24_62 := mRn_24 hw.1.2.2.1
          have rx25_62 : inR x25_62 := mRn_25 hw.1.2.2.1
          have rx26_62 : inR x26_62 := mRn_26 hw.1.2.2.1
          have rx27_62 : inR x27_62 := mRn_27 hw.1.2.2.1
          have hh62_ : (0 ≤ (x25_62) ∧ (x25_62) ≤ (x24_62) ∧ (x24_62) ≤ (n_0 23)) ∧ (0 ≤ (y31_62 ((n_0 29))) ∧ (y31_62 ((n_0 29))) ≤ (x24_62)) ∧ (0 ≤ (x26_62) ∧ (x26_62) ≤ 4) ∧ (¬ (x26_62) = 0 → (x25_62) < (x24_62)) ∧ ((x26_62) = 3 → 0 ≤ (x27_62) ∧ (x27_62) ≤ 9999) ∧ (n_0 24) ≤ (x25_62) ∧ (∀ i, i ≠ (n_0 29) → (y31_62 i) = (f_0 31 i)) := hq62_
          clear hq62_
          have hk_ := hh62_.2.2.2.2.2.2
          refine j_iconst E 97 rfl dX10_readUnit_96 ?_
          exact hret 97 0 (upN (upN (upN (upN (upN (upN (upN n_0 24 x24_62) 25 x25_62) 26 x26_62) 27 x27_62) 37 x37_61) 41 (n_0 41)) 42 (n_0 42)) (upF (upF (upF (upF f_0 30 y30_62) 31 y31_62) 32 y32_61) 33 y33_61) _ _ ls hw (rr (by decide)) ⟨x24_62, x25_62, x26_62, x27_62, x37_61, (n_0 41), (n_0 42), y30_62, y31_62, y32_61, y33_61, rfl, rfl, Or.inr ⟨rfl, hf_, hk_, by omega, by omega, by omega, by omega, hz_, fun h3_ => ⟨by omega, by omega, by omega⟩⟩⟩ dX10_readUnit_97
    · subst ee35_
      refine j_if_eq E 30 34 rfl (rr (by decide)) dX10_readUnit_27 (by decide) (fun _ => ?_) (fun cc63_ => absurd cc63_ (by decide))
      refine j_iconst E 35 rfl dX10_readUnit_34 ?_
      refine j_istore_n E 36 rfl [(2, .int (J 0)), (1, .int (J zz1_)), (0, .ref (q 0))] dX10_readUnit_35 rfl hl (by decide) rfl (fun ls hl => ?_)
      refine j_iload_n E 37 rfl dX10_readUnit_36 rfl (lv_at hl 1 rfl) ?_
      refine j_if_ne E 40 58 rfl rr1_ dX10_readUnit_37 (by decide) (fun cc64_ => ?_) (fun cc64_ => ?_)
      · refine j_aload_n E 59 rfl dX10_readUnit_58 rfl (lv_at hl 2 rfl) ?_
        refine m_get_27 E hK hw (n_0 27) rfl 62 rfl dX10_readUnit_59 (fun _ => ?_)
        refine j_istore_n E 63 rfl [(3, .int (J (n_0 27))), (2, .int (J 0)), (1, .int (J zz1_)), (0, .ref (q 0))] dX10_readUnit_62 rfl hl (by decide) rfl (fun ls hl => ?_)
        refine j_iload_n E 64 rfl dX10_readUnit_63 rfl (lv_at hl 2 rfl) ?_
        refine j_if_ne E 67 98 rfl rr1_ dX10_readUnit_64 (by decide) (fun cc65_ => ?_) (fun cc65_ => ?_)
        · refine j_aload_n E 99 rfl dX10_readUnit_98 rfl (lv_at hl 3 rfl) ?_
          refine m_callv E (c_X10_next l D cy q (n_0) (f_0)    (show 0 ≤ (n_0 29) ∧ (n_0 29) < 32 from by omega) (show 0 ≤ (n_0 23) ∧ (n_0 23) ≤ 400 from by omega) (show Wds_ (f_0 28) from hp2) (show 0 ≤ (n_0 24) ∧ (n_0 24) ≤ (n_0 23) from by omega) (show 0 ≤ (f_0 31 ((n_0 29))) ∧ (f_0 31 ((n_0 29))) ≤ (n_0 24) from by omega)) rfl mt_X10_next ml_X10_269 hK hw hA ⟨Nat.le_of_ble_eq_true rfl, Nat.le_of_ble_eq_true rfl⟩ (As := []) (rest := []) rfl rfl hl.1 (Nat.le_of_ble_eq_true rfl) 102 rfl dX10_readUnit_99 (fun n_66 f_66 H locs hq66_ hw => ?_)
          obtain ⟨x24_66, x25_66, x26_66, x27_66, y30_66, y31_66, en66_, ef66_, hq66_⟩ := hq66_
          rw [en66_, ef66_] at hw; clear en66_ ef66_
          have hw : WM D cy q (upN (upN (upN (upN n_0 24 x24_66) 25 x25_66) 26 x26_66) 27 x27_66) (upF (upF f_0 30 y30_66) 31 y31_66) A0 H0 H locs := hw
          have rx24_66 : inR x24_66 := mRn_24 hw.1.2.2.1
          have rx25_66 : inR x25_66 := mRn_25 hw.1.2.2.1
          have rx26_66 : inR x26_66 := mRn_26 hw.1.2.2.1
          have rx27_66 : inR x27_66 := mRn_27 hw.1.2.2.1
          have hh66_ : (0 ≤ (x25_66) ∧ (x25_66) ≤ (x24_66) ∧ (x24_66) ≤ (n_0 23)) ∧ (0 ≤ (y31_66 ((n_0 29))) ∧ (y31_66 ((n_0 29))) ≤ (x24_66)) ∧ (0 ≤ (x26_66) ∧ (x26_66) ≤ 4) ∧ (¬ (x26_66) = 0 → (x25_66) < (x24_66)) ∧ ((x26_66) = 3 → 0 ≤ (x27_66) ∧ (x27_66) ≤ 9999) ∧ (n_0 24) ≤ (x25_66) ∧ (∀ i, i ≠ (n_0 29) → (y31_66 i) = (f_0 31 i)) := hq66_
          clear hq66_
          have hj_ := hh66_.2.2.2.2.2.2
          refine j_aload_n E 103 rfl dX10_readUnit_102 rfl (lv_at hl 3 rfl) ?_
          refine m_get_26 E hK hw x26_66 rfl 106 rfl dX10_readUnit_103 (fun _ => ?_)
          refine j_iconst E 107 rfl dX10_readUnit_106 ?_
          refine j_icmp_eq E 110 116 rfl rx26_66 (rr (by decide)) dX10_readUnit_107 (by decide) (fun cc67_ => ?_) (fun cc67_ => ?_)
          · refine j_aload_n E 117 rfl dX10_readUnit_116 rfl (lv_at hl 3 rfl) ?_
            refine m_get_27 E hK hw x27_66 rfl 120 rfl dX10_readUnit_117 (fun _ => ?_)
            refine j_bipush E 122 rfl dX10_readUnit_120 (by decide) ?_
            refine j_icmp_lt E 125 131 rfl rx27_66 (rr (by decide)) dX10_readUnit_122 (by decide) (fun cc68_ => ?_) (fun cc68_ => ?_)
            · refine j_aload_n E 132 rfl dX10_readUnit_131 rfl (lv_at hl 3 rfl) ?_
              refine j_iconst E 133 rfl dX10_readUnit_132 ?_
              refine j_aload_n E 134 rfl dX10_readUnit_133 rfl (lv_at hl 3 rfl) ?_
              refine m_get_27 E hK hw x27_66 rfl 137 rfl dX10_readUnit_134 (fun _ => ?_)
              refine m_callv E (c_X10_emits l D cy q (upN (upN (upN (upN n_0 24 x24_66) 25 x25_66) 26 x26_66) 27 x27_66) (upF (upF f_0 30 y30_66) 31 y31_66) 2 x27_66  (rr (by decide)) rx27_66 (show 0 ≤ (n_0 29) ∧ (n_0 29) < 32 from by omega) (show 0 ≤ (n_0 37) ∧ (n_0 37) ≤ 399 from by omega)) rfl mt_X10_emits ml_X10_265 hK hw hA ⟨Nat.le_of_ble_eq_true rfl, Nat.le_of_ble_eq_true rfl⟩ (As := [.int (J 2), .int (J x27_66)]) (rest := []) rfl rfl hl.1 (Nat.le_of_ble_eq_true rfl) 140 rfl dX10_readUnit_137 (fun n_69 f_69 H locs hq69_ hw => ?_)
              obtain ⟨x37_69, y32_69, y33_69, en69_, ef69_, hq69_⟩ := hq69_
              rw [en69_, ef69_] at hw; clear en69_ ef69_
              have hw : WM D cy q (upN (upN (upN (upN (upN n_0 24 x24_66) 25 x25_66) 26 x26_66) 27 x27_66) 37 x37_69) (upF (upF (upF (upF f_0 30 y30_66) 31 y31_66) 32 y32_69) 33 y33_69) A0 H0 H locs := hw
              have rx37_69 : inR x37_69 := mRn_37 hw.1.2.2.1
              have hh69_ : (y32_69) = upA (f_0 32) (400 * (n_0 29) + (n_0 37)) (2 : Int) ∧ (y33_69) = upA (f_0 33) (400 * (n_0 29) + (n_0 37)) x27_66 ∧ (x37_69) = (n_0 37) + 1 := hq69_
              clear hq69_
              have hm_ : (x37_69) = n_0 37 + 1 := hh69_.2.2
              have hz_ : Pz_ (y32_69) (y33_69) (400 * n_0 29 + lo_) (400 * n_0 29 + (x37_69)) (el_ + 1) := by rw [hh69_.1, hh69_.2.1, show 400 * n_0 29 + (x37_69) = 400 * n_0 29 + n_0 37 + 1 by omega]; exact Pz_ext hp4 (by omega) (by omega) (by omega)
              have hf_ : Fr_ (f_0 32) (f_0 33) (y32_69) (y33_69) (400 * n_0 29 + n_0 37) := by rw [hh69_.1, hh69_.2.1]; exact Fr_up (by omega)
              refine j_aload_n E 141 rfl dX10_readUnit_140 rfl (lv_at hl 3 rfl) ?_
              refine m_callv E (c_X10_next l D cy q (upN (upN (upN (upN (upN n_0 24 x24_66) 25 x25_66) 26 x26_66) 27 x27_66) 37 x37_69) (upF (upF (upF (upF f_0 30 y30_66) 31 y31_66) 32 y32_69) 33 y33_69)    (show 0 ≤ (n_0 29) ∧ (n_0 29) < 32 from by omega) (show 0 ≤ (n_0 23) ∧ (n_0 23) ≤ 400 from by omega) (show Wds_ (f_0 28) from hp2) (show 0 ≤ (x24_66) ∧ (x24_66) ≤ (n_0 23) from by omega) (show 0 ≤ (y31_66 ((n_0 29))) ∧ (y31_66 ((n_0 29))) ≤ (x24_66) from by omega)) rfl mt_X10_next ml_X10_269 hK hw hA ⟨Nat.le_of_ble_eq_true rfl, Nat.le_of_ble_eq_true rfl⟩ (As := []) (rest := []) rfl rfl hl.1 (Nat.le_of_ble_eq_true rfl) 144 rfl dX10_readUnit_141 (fun n_70 f_70 H locs hq70_ hw => ?_)
              obtain ⟨x24_70, x25_70, x26_70, x27_70, y30_70, y31_70, en70_, ef70_, hq70_⟩ := hq70_
              rw [en70_, ef70_] at hw; clear en70_ ef70_
              have hw : WM D cy q (upN (upN (upN (upN (upN n_0 24 x24_70) 25 x25_70) 26 x26_70) 27 x27_70) 37 x37_69) (upF (upF (upF (upF f_0 30 y30_70) 31 y31_70) 32 y32_69) 33 y33_69) A0 H0 H locs := hw
              have rx24_70 : inR x24_70 := mRn_24 hw.1.2.2.1
              have rx25_70 : inR x25_70 := mRn_25 hw.1.2.2.1
              have rx26_70 : inR x26_70 := mRn_26 hw.1.2.2.1
              have rx27_70 : inR x27_70 := mRn_27 hw.1.2.2.1
              have hh70_ : (0 ≤ (x25_70) ∧ (x25_70) ≤ (x24_70) ∧ (x24_70) ≤ (n_0 23)) ∧ (0 ≤ (y31_70 ((n_0 29))) ∧ (y31_70 ((n_0 29))) ≤ (x24_70)) ∧ (0 ≤ (x26_70) ∧ (x26_70) ≤ 4) ∧ (¬ (x26_70) = 0 → (x25_70) < (x24_70)) ∧ ((x26_70) = 3 → 0 ≤ (x27_70) ∧ (x27_70) ≤ 9999) ∧ (x24_66) ≤ (x25_70) ∧ (∀ i, i ≠ (n_0 29) → (y31_70 i) = (y31_66 i)) := hq70_
              clear hq70_
              have hk_ := hh70_.2.2.2.2.2.2
              refine j_iconst E 145 rfl dX10_readUnit_144 ?_
              exact hret 145 0 (upN (upN (upN (upN (upN (upN (upN n_0 24 x24_70) 25 x25_70) 26 x26_70) 27 x27_70) 37 x37_69) 41 (n_0 41)) 42 (n_0 42)) (upF (upF (upF (upF f_0 30 y30_70) 31 y31_70) 32 y32_69) 33 y33_69) _ _ ls hw (rr (by decide)) ⟨x24_70, x25_70, x26_70, x27_70, x37_69, (n_0 41), (n_0 42), y30_70, y31_70, y32_69, y33_69, rfl, rfl, Or.inr ⟨rfl, hf_, tk_tr hj_ hk_, by omega, by omega, by omega, by omega, hz_, fun h3_ => absurd h3_ (by omega)⟩⟩ dX10_readUnit_145
            · refine j_aload_n E 126 rfl dX10_readUnit_125 rfl (lv_at hl 3 rfl) ?_
              refine j_iconst E 127 rfl dX10_readUnit_126 ?_
              refine m_calli E (c_X10_fails l D cy q (upN (upN (upN (upN n_0 24 x24_66) 25 x25_66) 26 x26_66) 27 x27_66) (upF (upF f_0 30 y30_66) 31 y31_66) 2  (rr (by decide)) ) rfl mt_X10_fails ml_X10_262 hK hw hA ⟨Nat.le_of_ble_eq_true rfl, Nat.le_of_ble_eq_true rfl⟩ (As := [.int (J 2)]) (rest := []) rfl rfl hl.1 (Nat.le_of_ble_eq_true rfl) 130 rfl dX10_readUnit_127 (fun zz71_ n_71 f_71 H locs rr71_ hq71_ hw => ?_)
              obtain ⟨x41_71, x42_71, en71_, ef71_, hq71_⟩ := hq71_
              rw [en71_, ef71_] at hw; clear en71_ ef71_
              have hw : WM D cy q (upN (upN (upN (upN (upN (upN n_0 24 x24_66) 25 x25_66) 26 x26_66) 27 x27_66) 41 x41_71) 42 x42_71) (upF (upF f_0 30 y30_66) 31 y31_66) A0 H0 H locs := hw
              have rx41_71 : inR x41_71 := mRn_41 hw.1.2.2.1
              have rx42_71 : inR x42_71 := mRn_42 hw.1.2.2.1
              have hh71_ : zz71_ = -1 := hq71_
              clear hq71_
              exact hret 130 zz71_ (upN (upN (upN (upN (upN (upN (upN n_0 24 x24_66) 25 x25_66) 26 x26_66) 27 x27_66) 37 (n_0 37)) 41 x41_71) 42 x42_71) (upF (upF (upF (upF f_0 30 y30_66) 31 y31_66) 32 (f_0 32)) 33 (f_0 33)) _ _ ls hw rr71_ ⟨x24_66, x25_66, x26_66, x27_66, (n_0 37), x41_71, x42_71, y30_66, y31_66, (f_0 32), (f_0 33), rfl, rfl, Or.inl ⟨by omega, Fr_rf, hj_, by omega⟩⟩ dX10_readUnit_130
          · refine j_aload_n E 111 rfl dX10_readUnit_110 rfl (lv_at hl 3 rfl) ?_
            refine j_iconst E 112 rfl dX10_readUnit_111 ?_
            refine m_calli E (c_X10_fails l D cy q (upN (upN (upN (upN n_0 24 x24_66) 25 x25_66) 26 x26_66) 27 x27_66) (upF (upF f_0 30 y30_66) 31 y31_66) 1  (rr (by decide)) ) rfl mt_X10_fails ml_X10_262 hK hw hA ⟨Nat.le_of_ble_eq_true rfl, Nat.le_of_ble_eq_true rfl⟩ (As := [.int (J 1)]) (rest := []) rfl rfl hl.1 (Nat.le_of_ble_eq_true rfl) 115 rfl dX10_readUnit_112 (fun zz72_ n_72 f_72 H locs rr72_ hq72_ hw => ?_)
            obtain ⟨x41_72, x42_72, en72_, ef72_, hq72_⟩ := hq72_
            rw [en72_, ef72_] at hw; clear en72_ ef72_
            have hw : WM D cy q (upN (upN (upN (upN (upN (upN n_0 24 x24_66) 25 x25_66) 26 x26_66) 27 x27_66) 41 x41_72) 42 x42_72) (upF (upF f_0 30 y30_66) 31 y31_66) A0 H0 H locs := hw
            have rx41_72 : inR x41_72 := mRn_41 hw.1.2.2.1
            have rx42_72 : inR x42_72 := mRn_42 hw.1.2.2.1
            have hh72_ : zz72_ = -1 := hq72_
            clear hq72_
            exact hret 115 zz72_ (upN (upN (upN (upN (upN (upN (upN n_0 24 x24_66) 25 x25_66) 26 x26_66) 27 x27_66) 37 (n_0 37)) 41 x41_72) 42 x42_72) (upF (upF (upF (upF f_0 30 y30_66) 31 y31_66) 32 (f_0 32)) 33 (f_0 33)) _ _ ls hw rr72_ ⟨x24_66, x25_66, x26_66, x27_66, (n_0 37), x41_72, x42_72, y30_66, y31_66, (f_0 32), (f_0 33), rfl, rfl, Or.inl ⟨by omega, Fr_rf, hj_, by omega⟩⟩ dX10_readUnit_115
        · refine j_aload_n E 68 rfl dX10_readUnit_67 rfl (lv_at hl 3 rfl) ?_
          refine j_iload_n E 69 rfl dX10_readUnit_68 rfl (lv_at hl 1 rfl) ?_
          refine j_if_eq E 72 76 rfl (rr (by decide)) dX10_readUnit_69 (by decide) (fun _ => ?_) (fun cc73_ => absurd cc73_ (by decide))
          refine j_iconst E 77 rfl dX10_readUnit_76 ?_
          refine j_iload_n E 78 rfl dX10_readUnit_77 rfl (lv_at hl 1 rfl) ?_
          refine j_if_eq E 81 88 rfl (rr (by decide)) dX10_readUnit_78 (by decide) (fun _ => ?_) (fun cc74_ => absurd cc74_ (by decide))
          refine j_iload_n E 89 rfl dX10_readUnit_88 rfl (lv_at hl 0 rfl) ?_
          refine m_callv E (c_X10_emits l D cy q (n_0) (f_0) 0 (n_0 27)  (rr (by decide)) rr34_ (show 0 ≤ (n_0 29) ∧ (n_0 29) < 32 from by omega) (show 0 ≤ (n_0 37) ∧ (n_0 37) ≤ 399 from by omega)) rfl mt_X10_emits ml_X10_265 hK hw hA ⟨Nat.le_of_ble_eq_true rfl, Nat.le_of_ble_eq_true rfl⟩ (As := [.int (J 0), .int (J (n_0 27))]) (rest := []) rfl rfl hl.1 (Nat.le_of_ble_eq_true rfl) 92 rfl dX10_readUnit_89 (fun n_75 f_75 H locs hq75_ hw => ?_)
          obtain ⟨x37_75, y32_75, y33_75, en75_, ef75_, hq75_⟩ := hq75_
          rw [en75_, ef75_] at hw; clear en75_ ef75_
          have hw : WM D cy q (upN n_0 37 x37_75) (upF (upF f_0 32 y32_75) 33 y33_75) A0 H0 H locs := hw
          have rx37_75 : inR x37_75 := mRn_37 hw.1.2.2.1
          have hh75_ : (y32_75) = upA (f_0 32) (400 * (n_0 29) + (n_0 37)) (0 : Int) ∧ (y33_75) = upA (f_0 33) (400 * (n_0 29) + (n_0 37)) (n_0 27) ∧ (x37_75) = (n_0 37) + 1 := hq75_
          clear hq75_
          have hm_ : (x37_75) = n_0 37 + 1 := hh75_.2.2
          have hz_ : Pz_ (y32_75) (y33_75) (400 * n_0 29 + lo_) (400 * n_0 29 + (x37_75)) (el_ + 1) := by rw [hh75_.1, hh75_.2.1, show 400 * n_0 29 + (x37_75) = 400 * n_0 29 + n_0 37 + 1 by omega]; exact Pz_ext hp4 (by omega) (by omega) (by omega)
          have hf_ : Fr_ (f_0 32) (f_0 33) (y32_75) (y33_75) (400 * n_0 29 + n_0 37) := by rw [hh75_.1, hh75_.2.1]; exact Fr_up (by omega)
          have ho_ : (y32_75 (400 * n_0 29 + n_0 37)) = (0 : Int) ∧ (y33_75 (400 * n_0 29 + n_0 37)) = (n_0 27) := by rw [hh75_.1, hh75_.2.1]; exact ⟨upA_same _ _ _, upA_same _ _ _⟩
          refine j_aload_n E 93 rfl dX10_readUnit_92 rfl (lv_at hl 3 rfl) ?_
          refine m_callv E (c_X10_next l D cy q (upN n_0 37 x37_75) (upF (upF f_0 32 y32_75) 33 y33_75)    (show 0 ≤ (n_0 29) ∧ (n_0 29) < 32 from by omega) (show 0 ≤ (n_0 23) ∧ (n_0 23) ≤ 400 from by omega) (show Wds_ (f_0 28) from hp2) (show 0 ≤ (n_0 24) ∧ (n_0 24) ≤ (n_0 23) from by omega) (show 0 ≤ (f_0 31 ((n_0 29))) ∧ (f_0 31 ((n_0 29))) ≤ (n_0 24) from by omega)) rfl mt_X10_next ml_X10_269 hK hw hA ⟨Nat.le_of_ble_eq_true rfl, Nat.le_of_ble_eq_true rfl⟩ (As := []) (rest := []) rfl rfl hl.1 (Nat.le_of_ble_eq_true rfl) 96 rfl dX10_readUnit_93 (fun n_76 f_76 H locs hq76_ hw => ?_)
          obtain ⟨x24_76, x25_76, x26_76, x27_76, y30_76, y31_76, en76_, ef76_, hq76_⟩ := hq76_
          rw [en76_, ef76_] at hw; clear en76_ ef76_
          have hw : WM D cy q (upN (upN (upN (upN (upN n_0 24 x24_76) 25 x25_76) 26 x26_76) 27 x27_76) 37 x37_75) (upF (upF (upF (upF f_0 30 y30_76) 31 y31_76) 32 y32_75) 33 y33_75) A0 H0 H locs := hw
          have rx24_76 : inR x24_76 := mRn_24 hw.1.2.2.1
          have rx25_76 : inR x25_76 := mRn_25 hw.1.2.2.1
          have rx26_76 : inR x26_76 := mRn_26 hw.1.2.2.1
          have rx27_76 : inR x27_76 := mRn_27 hw.1.2.2.1
          have hh76_ : (0 ≤ (x25_76) ∧ (x25_76) ≤ (x24_76) ∧ (x24_76) ≤ (n_0 23)) ∧ (0 ≤ (y31_76 ((n_0 29))) ∧ (y31_76 ((n_0 29))) ≤ (x24_76)) ∧ (0 ≤ (x26_76) ∧ (x26_76) ≤ 4) ∧ (¬ (x26_76) = 0 → (x25_76) < (x24_76)) ∧ ((x26_76) = 3 → 0 ≤ (x27_76) ∧ (x27_76) ≤ 9999) ∧ (n_0 24) ≤ (x25_76) ∧ (∀ i, i ≠ (n_0 29) → (y31_76 i) = (f_0 31 i)) := hq76_
          clear hq76_
          have hk_ := hh76_.2.2.2.2.2.2
          refine j_iconst E 97 rfl dX10_readUnit_96 ?_
          exact hret 97 0 (upN (upN (upN (upN (upN (upN (upN n_0 24 x24_76) 25 x25_76) 26 x26_76) 27 x27_76) 37 x37_75) 41 (n_0 41)) 42 (n_0 42)) (upF (upF (upF (upF f_0 30 y30_76) 31 y31_76) 32 y32_75) 33 y33_75) _ _ ls hw (rr (by decide)) ⟨x24_76, x25_76, x26_76, x27_76, x37_75, (n_0 41), (n_0 42), y30_76, y31_76, y32_75, y33_75, rfl, rfl, Or.inr ⟨rfl, hf_, hk_, by omega, by omega, by omega, by omega, hz_, fun h3_ => ⟨by omega, by omega, by omega⟩⟩⟩ dX10_readUnit_97
      · refine j_iload_n E 41 rfl dX10_readUnit_40 rfl (lv_at hl 0 rfl) ?_
        refine j_if_ne E 44 58 rfl (rr (by decide)) dX10_readUnit_41 (by decide) (fun cc77_ => absurd cc77_ (by decide)) (fun _ => ?_)
        refine j_aload_n E 45 rfl dX10_readUnit_44 rfl (lv_at hl 2 rfl) ?_
        refine m_get_26 E hK hw (n_0 26) rfl 48 rfl dX10_readUnit_45 (fun _ => ?_)
        refine j_iconst E 49 rfl dX10_readUnit_48 ?_
        refine j_icmp_eq E 52 58 rfl rr2_ (rr (by decide)) dX10_readUnit_49 (by decide) (fun cc78_ => ?_) (fun cc78_ => ?_)
        · refine j_aload_n E 59 rfl dX10_readUnit_58 rfl (lv_at hl 2 rfl) ?_
          refine m_get_27 E hK hw (n_0 27) rfl 62 rfl dX10_readUnit_59 (fun _ => ?_)
          refine j_istore_n E 63 rfl [(3, .int (J (n_0 27))), (2, .int (J 0)), (1, .int (J zz1_)), (0, .ref (q 0))] dX10_readUnit_62 rfl hl (by decide) rfl (fun ls hl => ?_)
          refine j_iload_n E 64 rfl dX10_readUnit_63 rfl (lv_at hl 2 rfl) ?_
          refine j_if_ne E 67 98 rfl rr1_ dX10_readUnit_64 (by decide) (fun cc79_ => ?_) (fun cc79_ => ?_)
          · refine j_aload_n E 99 rfl dX10_readUnit_98 rfl (lv_at hl 3 rfl) ?_
            refine m_callv E (c_X10_next l D cy q (n_0) (f_0)    (show 0 ≤ (n_0 29) ∧ (n_0 29) < 32 from by omega) (show 0 ≤ (n_0 23) ∧ (n_0 23) ≤ 400 from by omega) (show Wds_ (f_0 28) from hp2) (show 0 ≤ (n_0 24) ∧ (n_0 24) ≤ (n_0 23) from by omega) (show 0 ≤ (f_0 31 ((n_0 29))) ∧ (f_0 31 ((n_0 29))) ≤ (n_0 24) from by omega)) rfl mt_X10_next ml_X10_269 hK hw hA ⟨Nat.le_of_ble_eq_true rfl, Nat.le_of_ble_eq_true rfl⟩ (As := []) (rest := []) rfl rfl hl.1 (Nat.le_of_ble_eq_true rfl) 102 rfl dX10_readUnit_99 (fun n_80 f_80 H locs hq80_ hw => ?_)
            obtain ⟨x24_80, x25_80, x26_80, x27_80, y30_80, y31_80, en80_, ef80_, hq80_⟩ := hq80_
            rw [en80_, ef80_] at hw; clear en80_ ef80_
            have hw : WM D cy q (upN (upN (upN (upN n_0 24 x24_80) 25 x25_80) 26 x26_80) 27 x27_80) (upF (upF f_0 30 y30_80) 31 y31_80) A0 H0 H locs := hw
            have rx24_80 : inR x24_80 := mRn_24 hw.1.2.2.1
            have rx25_80 : inR x25_80 := mRn_25 hw.1.2.2.1
            have rx26_80 : inR x26_80 := mRn_26 hw.1.2.2.1
            have rx27_80 : inR x27_80 := mRn_27 hw.1.2.2.1
            have hh80_ : (0 ≤ (x25_80) ∧ (x25_80) ≤ (x24_80) ∧ (x24_80) ≤ (n_0 23)) ∧ (0 ≤ (y31_80 ((n_0 29))) ∧ (y31_80 ((n_0 29))) ≤ (x24_80)) ∧ (0 ≤ (x26_80) ∧ (x26_80) ≤ 4) ∧ (¬ (x26_80) = 0 → (x25_80) < (x24_80)) ∧ ((x26_80) = 3 → 0 ≤ (x27_80) ∧ (x27_80) ≤ 9999) ∧ (n_0 24) ≤ (x25_80) ∧ (∀ i, i ≠ (n_0 29) → (y31_80 i) = (f_0 31 i)) := hq80_
            clear hq80_
            have hj_ := hh80_.2.2.2.2.2.2
            refine j_aload_n E 103 rfl dX10_readUnit_102 rfl (lv_at hl 3 rfl) ?_
            refine m_get_26 E hK hw x26_80 rfl 106 rfl dX10_readUnit_103 (fun _ => ?_)
            refine j_iconst E 107 rfl dX10_readUnit_106 ?_
            refine j_icmp_eq E 110 116 rfl rx26_80 (rr (by decide)) dX10_readUnit_107 (by decide) (fun cc81_ => ?_) (fun cc81_ => ?_)
            · refine j_aload_n E 117 rfl dX10_readUnit_116 rfl (lv_at hl 3 rfl) ?_
              refine m_get_27 E hK hw x27_80 rfl 120 rfl dX10_readUnit_117 (fun _ => ?_)
              refine j_bipush E 122 rfl dX10_readUnit_120 (by decide) ?_
              refine j_icmp_lt E 125 131 rfl rx27_80 (rr (by decide)) dX10_readUnit_122 (by decide) (fun cc82_ => ?_) (fun cc82_ => ?_)
              · refine j_aload_n E 132 rfl dX10_readUnit_131 rfl (lv_at hl 3 rfl) ?_
                refine j_iconst E 133 rfl dX10_readUnit_132 ?_
                refine j_aload_n E 134 rfl dX10_readUnit_133 rfl (lv_at hl 3 rfl) ?_
                refine m_get_27 E hK hw x27_80 rfl 137 rfl dX10_readUnit_134 (fun _ => ?_)
                refine m_callv E (c_X10_emits l D cy q (upN (upN (upN (upN n_0 24 x24_80) 25 x25_80) 26 x26_80) 27 x27_80) (upF (upF f_0 30 y30_80) 31 y31_80) 2 x27_80  (rr (by decide)) rx27_80 (show 0 ≤ (n_0 29) ∧ (n_0 29) < 32 from by omega) (show 0 ≤ (n_0 37) ∧ (n_0 37) ≤ 399 from by omega)) rfl mt_X10_emits ml_X10_265 hK hw hA ⟨Nat.le_of_ble_eq_true rfl, Nat.le_of_ble_eq_true rfl⟩ (As := [.int (J 2), .int (J x27_80)]) (rest := []) rfl rfl hl.1 (Nat.le_of_ble_eq_true rfl) 140 rfl dX10_readUnit_137 (fun n_83 f_83 H locs hq83_ hw => ?_)
                obtain ⟨x37_83, y32_83, y33_83, en83_, ef83_, hq83_⟩ := hq83_
                rw [en83_, ef83_] at hw; clear en83_ ef83_
                have hw : WM D cy q (upN (upN (upN (upN (upN n_0 24 x24_80) 25 x25_80) 26 x26_80) 27 x27_80) 37 x37_83) (upF (upF (upF (upF f_0 30 y30_80) 31 y31_80) 32 y32_83) 33 y33_83) A0 H0 H locs := hw
                have rx37_83 : inR x37_83 := mRn_37 hw.1.2.2.1
                have hh83_ : (y32_83) = upA (f_0 32) (400 * (n_0 29) + (n_0 37)) (2 : Int) ∧ (y33_83) = upA (f_0 33) (400 * (n_0 29) + (n_0 37)) x27_80 ∧ (x37_83) = (n_0 37) + 1 := hq83_
                clear hq83_
                have hm_ : (x37_83) = n_0 37 + 1 := hh83_.2.2
                have hz_ : Pz_ (y32_83) (y33_83) (400 * n_0 29 + lo_) (400 * n_0 29 + (x37_83)) (el_ + 1) := by rw [hh83_.1, hh83_.2.1, show 400 * n_0 29 + (x37_83) = 400 * n_0 29 + n_0 37 + 1 by omega]; exact Pz_ext hp4 (by omega) (by omega) (by omega)
                have hf_ : Fr_ (f_0 32) (f_0 33) (y32_83) (y33_83) (400 * n_0 29 + n_0 37) := by rw [hh83_.1, hh83_.2.1]; exact Fr_up (by omega)
                refine j_aload_n E 141 rfl dX10_readUnit_140 rfl (lv_at hl 3 rfl) ?_
                refine m_callv E (c_X10_next l D cy q (upN (upN (upN (upN (upN n_0 24 x24_80) 25 x25_80) 26 x26_80) 27 x27_80) 37 x37_83) (upF (upF (upF (upF f_0 30 y30_80) 31 y31_80) 32 y32_83) 33 y33_83)    (show 0 ≤ (n_0 29) ∧ (n_0 29) < 32 from by omega) (show 0 ≤ (n_0 23) ∧ (n_0 23) ≤ 400 from by omega) (show Wds_ (f_0 28) from hp2) (show 0 ≤ (x24_80) ∧ (x24_80) ≤ (n_0 23) from by omega) (show 0 ≤ (y31_80 ((n_0 29))) ∧ (y31_80 ((n_0 29))) ≤ (x24_80) from by omega)) rfl mt_X10_next ml_X10_269 hK hw hA ⟨Nat.le_of_ble_eq_true rfl, Nat.le_of_ble_eq_true rfl⟩ (As := []) (rest := []) rfl rfl hl.1 (Nat.le_of_ble_eq_true rfl) 144 rfl dX10_readUnit_141 (fun n_84 f_84 H locs hq84_ hw => ?_)
                obtain ⟨x24_84, x25_84, x26_84, x27_84, y30_84, y31_84, en84_, ef84_, hq84_⟩ := hq84_
                rw [en84_, ef84_] at hw; clear en84_ ef84_
                have hw : WM D cy q (upN (upN (upN (upN (upN n_0 24 x24_84) 25 x25_84) 26 x26_84) 27 x27_84) 37 x37_83) (upF (upF (upF (upF f_0 30 y30_84) 31 y31_84) 32 y32_83) 33 y33_83) A0 H0 H locs := hw
                have rx24_84 : inR x24_84 := mRn_24 hw.1.2.2.1
                have rx25_84 : inR x25_84 := mRn_25 hw.1.2.2.1
                have rx26_84 : inR x26_84 := mRn_26 hw.1.2.2.1
                have rx27_84 : inR x27_84 := mRn_27 hw.1.2.2.1
                have hh84_ : (0 ≤ (x25_84) ∧ (x25_84) ≤ (x24_84) ∧ (x24_84) ≤ (n_0 23)) ∧ (0 ≤ (y31_84 ((n_0 29))) ∧ (y31_84 ((n_0 29))) ≤ (x24_84)) ∧ (0 ≤ (x26_84) ∧ (x26_84) ≤ 4) ∧ (¬ (x26_84) = 0 → (x25_84) < (x24_84)) ∧ ((x26_84) = 3 → 0 ≤ (x27_84) ∧ (x27_84) ≤ 9999) ∧ (x24_80) ≤ (x25_84) ∧ (∀ i, i ≠ (n_0 29) → (y31_84 i) = (y31_80 i)) := hq84_
                clear hq84_
                have hk_ := hh84_.2.2.2.2.2.2
                refine j_iconst E 145 rfl dX10_readUnit_144 ?_
                exact hret 145 0 (upN (upN (upN (upN (upN (upN (upN n_0 24 x24_84) 25 x25_84) 26 x26_84) 27 x27_84) 37 x37_83) 41 (n_0 41)) 42 (n_0 42)) (upF (upF (upF (upF f_0 30 y30_84) 31 y31_84) 32 y32_83) 33 y33_83) _ _ ls hw (rr (by decide)) ⟨x24_84, x25_84, x26_84, x27_84, x37_83, (n_0 41), (n_0 42), y30_84, y31_84, y32_83, y33_83, rfl, rfl, Or.inr ⟨rfl, hf_, tk_tr hj_ hk_, by omega, by omega, by omega, by omega, hz_, fun h3_ => absurd h3_ (by omega)⟩⟩ dX10_readUnit_145
              · refine j_aload_n E 126 rfl dX10_readUnit_125 rfl (lv_at hl 3 rfl) ?_
                refine j_iconst E 127 rfl dX10_readUnit_126 ?_
                refine m_calli E (c_X10_fails l D cy q (upN (upN (upN (upN n_0 24 x24_80) 25 x25_80) 26 x26_80) 27 x27_80) (upF (upF f_0 30 y30_80) 31 y31_80) 2  (rr (by decide)) ) rfl mt_X10_fails ml_X10_262 hK hw hA ⟨Nat.le_of_ble_eq_true rfl, Nat.le_of_ble_eq_true rfl⟩ (As := [.int (J 2)]) (rest := []) rfl rfl hl.1 (Nat.le_of_ble_eq_true rfl) 130 rfl dX10_readUnit_127 (fun zz85_ n_85 f_85 H locs rr85_ hq85_ hw => ?_)
                obtain ⟨x41_85, x42_85, en85_, ef85_, hq85_⟩ := hq85_
                rw [en85_, ef85_] at hw; clear en85_ ef85_
                have hw : WM D cy q (upN (upN (upN (upN (upN (upN n_0 24 x24_80) 25 x25_80) 26 x26_80) 27 x27_80) 41 x41_85) 42 x42_85) (upF (upF f_0 30 y30_80) 31 y31_80) A0 H0 H locs := hw
                have rx41_85 : inR x41_85 := mRn_41 hw.1.2.2.1
                have rx42_85 : inR x42_85 := mRn_42 hw.1.2.2.1
                have hh85_ : zz85_ = -1 := hq85_
                clear hq85_
                exact hret 130 zz85_ (upN (upN (upN (upN (upN (upN (upN n_0 24 x24_80) 25 x25_80) 26 x26_80) 27 x27_80) 37 (n_0 37)) 41 x41_85) 42 x42_85) (upF (upF (upF (upF f_0 30 y30_80) 31 y31_80) 32 (f_0 32)) 33 (f_0 33)) _ _ ls hw rr85_ ⟨x24_80, x25_80, x26_80, x27_80, (n_0 37), x41_85, x42_85, y30_80, y31_80, (f_0 32), (f_0 33), rfl, rfl, Or.inl ⟨by omega, Fr_rf, hj_, by omega⟩⟩ dX10_readUnit_130
            · refine j_aload_n E 111 rfl dX10_readUnit_110 rfl (lv_at hl 3 rfl) ?_
              refine j_iconst E 112 rfl dX10_readUnit_111 ?_
              refine m_calli E (c_X10_fails l D cy q (upN (upN (upN (upN n_0 24 x24_80) 25 x25_80) 26 x26_80) 27 x27_80) (upF (upF f_0 30 y30_80) 31 y31_80) 1  (rr (by decide)) ) rfl mt_X10_fails ml_X10_262 hK hw hA ⟨Nat.le_of_ble_eq_true rfl, Nat.le_of_ble_eq_true rfl⟩ (As := [.int (J 1)]) (rest := []) rfl rfl hl.1 (Nat.le_of_ble_eq_true rfl) 115 rfl dX10_readUnit_112 (fun zz86_ n_86 f_86 H locs rr86_ hq86_ hw => ?_)
              obtain ⟨x41_86, x42_86, en86_, ef86_, hq86_⟩ := hq86_
              rw [en86_, ef86_] at hw; clear en86_ ef86_
              have hw : WM D cy q (upN (upN (upN (upN (upN (upN n_0 24 x24_80) 25 x25_80) 26 x26_80) 27 x27_80) 41 x41_86) 42 x42_86) (upF (upF f_0 30 y30_80) 31 y31_80) A0 H0 H locs := hw
              have rx41_86 : inR x41_86 := mRn_41 hw.1.2.2.1
              have rx42_86 : inR x42_86 := mRn_42 hw.1.2.2.1
              have hh86_ : zz86_ = -1 := hq86_
              clear hq86_
              exact hret 115 zz86_ (upN (upN (upN (upN (upN (upN (upN n_0 24 x24_80) 25 x25_80) 26 x26_80) 27 x27_80) 37 (n_0 37)) 41 x41_86) 42 x42_86) (upF (upF (upF (upF f_0 30 y30_80) 31 y31_80) 32 (f_0 32)) 33 (f_0 33)) _ _ ls hw rr86_ ⟨x24_80, x25_80, x26_80, x27_80, (n_0 37), x41_86, x42_86, y30_80, y31_80, (f_0 32), (f_0 33), rfl, rfl, Or.inl ⟨by omega, Fr_rf, hj_, by omega⟩⟩ dX10_readUnit_115
          · refine j_aload_n E 68 rfl dX10_readUnit_67 rfl (lv_at hl 3 rfl) ?_
            refine j_iload_n E 69 rfl dX10_readUnit_68 rfl (lv_at hl 1 rfl) ?_
            refine j_if_eq E 72 76 rfl (rr (by decide)) dX10_readUnit_69 (by decide) (fun _ => ?_) (fun cc87_ => absurd cc87_ (by decide))
            refine j_iconst E 77 rfl dX10_readUnit_76 ?_
            refine j_iload_n E 78 rfl dX10_readUnit_77 rfl (lv_at hl 1 rfl) ?_
            refine j_if_eq E 81 88 rfl (rr (by decide)) dX10_readUnit_78 (by decide) (fun _ => ?_) (fun cc88_ => absurd cc88_ (by decide))
            refine j_iload_n E 89 rfl dX10_readUnit_88 rfl (lv_at hl 0 rfl) ?_
            refine m_callv E (c_X10_emits l D cy q (n_0) (f_0) 0 (n_0 27)  (rr (by decide)) rr34_ (show 0 ≤ (n_0 29) ∧ (n_0 29) < 32 from by omega) (show 0 ≤ (n_0 37) ∧ (n_0 37) ≤ 399 from by omega)) rfl mt_X10_emits ml_X10_265 hK hw hA ⟨Nat.le_of_ble_eq_true rfl, Nat.le_of_ble_eq_true rfl⟩ (As := [.int (J 0), .int (J (n_0 27))]) (rest := []) rfl rfl hl.1 (Nat.le_of_ble_eq_true rfl) 92 rfl dX10_readUnit_89 (fun n_89 f_89 H locs hq89_ hw => ?_)
            obtain ⟨x37_89, y32_89, y33_89, en89_, ef89_, hq89_⟩ := hq89_
            rw [en89_, ef89_] at hw; clear en89_ ef89_
            have hw : WM D cy q (upN n_0 37 x37_89) (upF (upF f_0 32 y32_89) 33 y33_89) A0 H0 H locs := hw
            have rx37_89 : inR x37_89 := mRn_37 hw.1.2.2.1
            have hh89_ : (y32_89) = upA (f_0 32) (400 * (n_0 29) + (n_0 37)) (0 : Int) ∧ (y33_89) = upA (f_0 33) (400 * (n_0 29) + (n_0 37)) (n_0 27) ∧ (x37_89) = (n_0 37) + 1 := hq89_
            clear hq89_
            have hm_ : (x37_89) = n_0 37 + 1 := hh89_.2.2
            have hz_ : Pz_ (y32_89) (y33_89) (400 * n_0 29 + lo_) (400 * n_0 29 + (x37_89)) (el_ + 1) := by rw [hh89_.1, hh89_.2.1, show 400 * n_0 29 + (x37_89) = 400 * n_0 29 + n_0 37 + 1 by omega]; exact Pz_ext hp4 (by omega) (by omega) (by omega)
            have hf_ : Fr_ (f_0 32) (f_0 33) (y32_89) (y33_89) (400 * n_0 29 + n_0 37) := by rw [hh89_.1, hh89_.2.1]; exact Fr_up (by omega)
            have ho_ : (y32_89 (400 * n_0 29 + n_0 37)) = (0 : Int) ∧ (y33_89 (400 * n_0 29 + n_0 37)) = (n_0 27) := by rw [hh89_.1, hh89_.2.1]; exact ⟨upA_same _ _ _, upA_same _ _ _⟩
            refine j_aload_n E 93 rfl dX10_readUnit_92 rfl (lv_at hl 3 rfl) ?_
            refine m_callv E (c_X10_next l D cy q (upN n_0 37 x37_89) (upF (upF f_0 32 y32_89) 33 y33_89)    (show 0 ≤ (n_0 29) ∧ (n_0 29) < 32 from by omega) (show 0 ≤ (n_0 23) ∧ (n_0 23) ≤ 400 from by omega) (show Wds_ (f_0 28) from hp2) (show 0 ≤ (n_0 24) ∧ (n_0 24) ≤ (n_0 23) from by omega) (show 0 ≤ (f_0 31 ((n_0 29))) ∧ (f_0 31 ((n_0 29))) ≤ (n_0 24) from by omega)) rfl mt_X10_next ml_X10_269 hK hw hA ⟨Nat.le_of_ble_eq_true rfl, Nat.le_of_ble_eq_true rfl⟩ (As := []) (rest := []) rfl rfl hl.1 (Nat.le_of_ble_eq_true rfl) 96 rfl dX10_readUnit_93 (fun n_90 f_90 H locs hq90_ hw => ?_)
            obtain ⟨x24_90, x25_90, x26_90, x27_90, y30_90, y31_90, en90_, ef90_, hq90_⟩ := hq90_
            rw [en90_, ef90_] at hw; clear en90_ ef90_
            have hw : WM D cy q (upN (upN (upN (upN (upN n_0 24 x24_90) 25 x25_90) 26 x26_90) 27 x27_90) 37 x37_89) (upF (upF (upF (upF f_0 30 y30_90) 31 y31_90) 32 y32_89) 33 y33_89) A0 H0 H locs := hw
            have rx24_90 : inR x24_90 := mRn_24 hw.1.2.2.1
            have rx25_90 : inR x25_90 := mRn_25 hw.1.2.2.1
            have rx26_90 : inR x26_90 := mRn_26 hw.1.2.2.1
            have rx27_90 : inR x27_90 := mRn_27 hw.1.2.2.1
            have hh90_ : (0 ≤ (x25_90) ∧ (x25_90) ≤ (x24_90) ∧ (x24_90) ≤ (n_0 23)) ∧ (0 ≤ (y31_90 ((n_0 29))) ∧ (y31_90 ((n_0 29))) ≤ (x24_90)) ∧ (0 ≤ (x26_90) ∧ (x26_90) ≤ 4) ∧ (¬ (x26_90) = 0 → (x25_90) < (x24_90)) ∧ ((x26_90) = 3 → 0 ≤ (x27_90) ∧ (x27_90) ≤ 9999) ∧ (n_0 24) ≤ (x25_90) ∧ (∀ i, i ≠ (n_0 29) → (y31_90 i) = (f_0 31 i)) := hq90_
            clear hq90_
            have hk_ := hh90_.2.2.2.2.2.2
            refine j_iconst E 97 rfl dX10_readUnit_96 ?_
            exact hret 97 0 (upN (upN (upN (upN (upN (upN (upN n_0 24 x24_90) 25 x25_90) 26 x26_90) 27 x27_90) 37 x37_89) 41 (n_0 41)) 42 (n_0 42)) (upF (upF (upF (upF f_0 30 y30_90) 31 y31_90) 32 y32_89) 33 y33_89) _ _ ls hw (rr (by decide)) ⟨x24_90, x25_90, x26_90, x27_90, x37_89, (n_0 41), (n_0 42), y30_90, y31_90, y32_89, y33_89, rfl, rfl, Or.inr ⟨rfl, hf_, hk_, by omega, by omega, by omega, by omega, hz_, fun h3_ => ⟨by omega, by omega, by omega⟩⟩⟩ dX10_readUnit_97
        · refine j_aload_n E 53 rfl dX10_readUnit_52 rfl (lv_at hl 2 rfl) ?_
          refine j_iconst E 54 rfl dX10_readUnit_53 ?_
          refine m_calli E (c_X10_fails l D cy q (n_0) (f_0) 1  (rr (by decide)) ) rfl mt_X10_fails ml_X10_262 hK hw hA ⟨Nat.le_of_ble_eq_true rfl, Nat.le_of_ble_eq_true rfl⟩ (As := [.int (J 1)]) (rest := []) rfl rfl hl.1 (Nat.le_of_ble_eq_true rfl) 57 rfl dX10_readUnit_54 (fun zz91_ n_91 f_91 H locs rr91_ hq91_ hw => ?_)
          obtain ⟨x41_91, x42_91, en91_, ef91_, hq91_⟩ := hq91_
          rw [en91_, ef91_] at hw; clear en91_ ef91_
          have hw : WM D cy q (upN (upN n_0 41 x41_91) 42 x42_91) (f_0) A0 H0 H locs := hw
          have rx41_91 : inR x41_91 := mRn_41 hw.1.2.2.1
          have rx42_91 : inR x42_91 := mRn_42 hw.1.2.2.1
          have hh91_ : zz91_ = -1 := hq91_
          clear hq91_
          exact hret 57 zz91_ (upN (upN (upN (upN (upN (upN (upN n_0 24 (n_0 24)) 25 (n_0 25)) 26 (n_0 26)) 27 (n_0 27)) 37 (n_0 37)) 41 x41_91) 42 x42_91) (upF (upF (upF (upF f_0 30 (f_0 30)) 31 (f_0 31)) 32 (f_0 32)) 33 (f_0 33)) _ _ ls hw rr91_ ⟨(n_0 24), (n_0 25), (n_0 26), (n_0 27), (n_0 37), x41_91, x42_91, (f_0 30), (f_0 31), (f_0 32), (f_0 33), rfl, rfl, Or.inl ⟨by omega, Fr_rf, fun i_ h_ => rfl, by omega⟩⟩ dX10_readUnit_57
set_option maxHeartbeats 4000000 in
set_option maxRecDepth 100000 in
theorem c_X10_readProduct (l : Launch) (D : va_G) (cy : Nat → ClassId) (q : Nat → Nat) (n_0 : Nat → Int) (f_0 : Nat → Int → Int) (dl_ : Int) (lo_ : Int) (el_ : Int) (hp0 : 0 ≤ (n_0 29) ∧ (n_0 29) < 32) (hp1 : 0 ≤ (n_0 23) ∧ (n_0 23) ≤ 400) (hp2 : Wds_ (f_0 28)) (hp3 : 0 ≤ dl_ ∧ (0 ≤ (n_0 25) ∧ (n_0 25) ≤ (n_0 24) ∧ (n_0 24) ≤ (n_0 23)) ∧ (0 ≤ (f_0 31 ((n_0 29))) ∧ (f_0 31 ((n_0 29))) ≤ (n_0 24)) ∧ (0 ≤ (n_0 26) ∧ (n_0 26) ≤ 4) ∧ (¬ (n_0 26) = 0 → (n_0 25) < (n_0 24)) ∧ ((n_0 26) = 3 → 0 ≤ (n_0 27) ∧ (n_0 27) ≤ 9999) ∧ (0 ≤ lo_ ∧ lo_ ≤ (n_0 37)) ∧ (n_0 37) + dl_ ≤ (n_0 25)) (hp4 : Pz_ (f_0 32) (f_0 33) (400 * (n_0 29) + lo_) (400 * (n_0 29) + (n_0 37)) el_) : MC l D cy q yX10_readProduct cX10_readProduct 2 (some .int) 4 [] n_0 f_0 (PI (fun (z_0 : Int) (n_2 : Nat → Int) (f_2 : Nat → Int → Int) => ∃ (x24_2 : Int) (x25_2 : Int) (x26_2 : Int) (x27_2 : Int) (x37_2 : Int) (x41_2 : Int) (x42_2 : Int) (y30_2 : Int → Int) (y31_2 : Int → Int) (y32_2 : Int → Int) (y33_2 : Int → Int) , n_2 = upN (upN (upN (upN (upN (upN (upN n_0 24 x24_2) 25 x25_2) 26 x26_2) 27 x27_2) 37 x37_2) 41 x41_2) 42 x42_2 ∧ f_2 = upF (upF (upF (upF f_0 30 y30_2) 31 y31_2) 32 y32_2) 33 y33_2 ∧ ((z_0 = -1 ∧ Fr_ (f_0 32) (f_0 33) (y32_2) (y33_2) (400 * (n_0 29) + (n_0 37)) ∧ (∀ i, i ≠ (n_0 29) → (y31_2 i) = (f_0 31 i)) ∧ (0 ≤ (y31_2 ((n_0 29))) ∧ (y31_2 ((n_0 29))) ≤ 400)) ∨ (z_0 = 0 ∧ Fr_ (f_0 32) (f_0 33) (y32_2) (y33_2) (400 * (n_0 29) + (n_0 37)) ∧ (∀ i, i ≠ (n_0 29) → (y31_2 i) = (f_0 31 i)) ∧ (0 ≤ (y31_2 ((n_0 29))) ∧ (y31_2 ((n_0 29))) ≤ 400) ∧ ((0 ≤ (x25_2) ∧ (x25_2) ≤ (x24_2) ∧ (x24_2) ≤ (n_0 23)) ∧ (0 ≤ (y31_2 ((n_0 29))) ∧ (y31_2 ((n_0 29))) ≤ (x24_2)) ∧ (0 ≤ (x26_2) ∧ (x26_2) ≤ 4) ∧ (¬ (x26_2) = 0 → (x25_2) < (x24_2)) ∧ ((x26_2) = 3 → 0 ≤ (x27_2) ∧ (x27_2) ≤ 9999) ∧ (0 ≤ lo_ ∧ lo_ ≤ (x37_2)) ∧ (x37_2) + dl_ ≤ (x25_2)) ∧ (n_0 25) < (x25_2) ∧ (n_0 37) ≤ (x37_2) ∧ Pz_ (y32_2) (y33_2) (400 * (n_0 29) + lo_) (400 * (n_0 29) + (x37_2)) (el_ + 1))))) := by
  refine MC.ofi rfl (Nat.le_of_ble_eq_true rfl) ?_
  intro p e s m below meth c ls ar QW A0 H0 H locs E hK hA hw hl hret
  have hl : lv_has ls 2 [(0, .ref (q 0))] := hl
  have hb_ : 0 ≤ el_ ∧ el_ ≤ 400 * n_0 29 + n_0 37 - (400 * n_0 29 + lo_) := hp4.2
  refine j_aload_n E 1 rfl dX10_readProduct_0 rfl (lv_at hl 0 rfl) ?_
  refine m_calli E (c_X10_readUnit l D cy q (n_0) (f_0)  dl_ lo_ el_  (show 0 ≤ (n_0 29) ∧ (n_0 29) < 32 from by omega) (show 0 ≤ (n_0 23) ∧ (n_0 23) ≤ 400 from by omega) (show Wds_ (f_0 28) from hp2) (show 0 ≤ dl_ ∧ (0 ≤ (n_0 25) ∧ (n_0 25) ≤ (n_0 24) ∧ (n_0 24) ≤ (n_0 23)) ∧ (0 ≤ (f_0 31 ((n_0 29))) ∧ (f_0 31 ((n_0 29))) ≤ (n_0 24)) ∧ (0 ≤ (n_0 26) ∧ (n_0 26) ≤ 4) ∧ (¬ (n_0 26) = 0 → (n_0 25) < (n_0 24)) ∧ ((n_0 26) = 3 → 0 ≤ (n_0 27) ∧ (n_0 27) ≤ 9999) ∧ (0 ≤ lo_ ∧ lo_ ≤ (n_0 37)) ∧ (n_0 37) + dl_ ≤ (n_0 25) from by omega) (show Pz_ (f_0 32) (f_0 33) (400 * (n_0 29) + lo_) (400 * (n_0 29) + (n_0 37)) el_ from hp4)) rfl mt_X10_readUnit ml_X10_272 hK hw hA ⟨Nat.le_of_ble_eq_true rfl, Nat.le_of_ble_eq_true rfl⟩ (As := []) (rest := []) rfl rfl hl.1 (Nat.le_of_ble_eq_true rfl) 4 rfl dX10_readProduct_1 (fun zz1_ n_1 f_1 H locs rr1_ hq1_ hw => ?_)
  obtain ⟨x24_1, x25_1, x26_1, x27_1, x37_1, x41_1, x42_1, y30_1, y31_1, y32_1, y33_1, en1_, ef1_, hq1_⟩ := hq1_
  rw [en1_, ef1_] at hw; clear en1_ ef1_
  have hw : WM D cy q (upN (upN (upN (upN (upN (upN (upN n_0 24 x24_1) 25 x25_1) 26 x26_1) 27 x27_1) 37 x37_1) 41 x41_1) 42 x42_1) (upF (upF (upF (upF f_0 30 y30_1) 31 y31_1) 32 y32_1) 33 y33_1) A0 H0 H locs := hw
  have rx24_1 : inR x24_1 := mRn_24 hw.1.2.2.1
  have rx25_1 : inR x25_1 := mRn_25 hw.1.2.2.1
  have rx26_1 : inR x26_1 := mRn_26 hw.1.2.2.1
  have rx27_1 : inR x27_1 := mRn_27 hw.1.2.2.1
  have rx37_1 : inR x37_1 := mRn_37 hw.1.2.2.1
  have rx41_1 : inR x41_1 := mRn_41 hw.1.2.2.1
  have rx42_1 : inR x42_1 := mRn_42 hw.1.2.2.1
  have hh1_ : (zz1_ = -1 ∧ Fr_ (f_0 32) (f_0 33) (y32_1) (y33_1) (400 * (n_0 29) + (n_0 37)) ∧ (∀ i, i ≠ (n_0 29) → (y31_1 i) = (f_0 31 i)) ∧ (0 ≤ (y31_1 ((n_0 29))) ∧ (y31_1 ((n_0 29))) ≤ 400)) ∨ (zz1_ = 0 ∧ Fr_ (f_0 32) (f_0 33) (y32_1) (y33_1) (400 * (n_0 29) + (n_0 37)) ∧ (∀ i, i ≠ (n_0 29) → (y31_1 i) = (f_0 31 i)) ∧ (0 ≤ (y31_1 ((n_0 29))) ∧ (y31_1 ((n_0 29))) ≤ 400) ∧ ((0 ≤ (x25_1) ∧ (x25_1) ≤ (x24_1) ∧ (x24_1) ≤ (n_0 23)) ∧ (0 ≤ (y31_1 ((n_0 29))) ∧ (y31_1 ((n_0 29))) ≤ (x24_1)) ∧ (0 ≤ (x26_1) ∧ (x26_1) ≤ 4) ∧ (¬ (x26_1) = 0 → (x25_1) < (x24_1)) ∧ ((x26_1) = 3 → 0 ≤ (x27_1) ∧ (x27_1) ≤ 9999) ∧ (0 ≤ lo_ ∧ lo_ ≤ (x37_1)) ∧ (x37_1) + dl_ ≤ (x25_1)) ∧ (n_0 25) < (x25_1) ∧ (n_0 37) ≤ (x37_1) ∧ Pz_ (y32_1) (y33_1) (400 * (n_0 29) + lo_) (400 * (n_0 29) + (x37_1)) (el_ + 1) ∧ ((n_0 26) = 3 → (x37_1) = (n_0 37) + 1 ∧ (y32_1 (400 * (n_0 29) + (n_0 37))) = 0 ∧ (y33_1 (400 * (n_0 29) + (n_0 37))) = (n_0 27))) := hq1_
  clear hq1_
  rcases hh1_ with ⟨ee1_, hh1_⟩ | ⟨ee1_, hh1_⟩
  · subst ee1_
    have hx_ := hh1_
    refine j_iconst E 5 rfl dX10_readProduct_4 ?_
    refine j_icmp_ne E 8 10 rfl (rr (by decide)) (rr (by decide)) dX10_readProduct_5 (by decide) (fun cc2_ => absurd cc2_ (by decide)) (fun _ => ?_)
    refine j_iconst E 9 rfl dX10_readProduct_8 ?_
    exact hret 9 ((-1)) (upN (upN (upN (upN (upN (upN (upN n_0 24 x24_1) 25 x25_1) 26 x26_1) 27 x27_1) 37 x37_1) 41 x41_1) 42 x42_1) (upF (upF (upF (upF f_0 30 y30_1) 31 y31_1) 32 y32_1) 33 y33_1) _ _ ls hw (rr (by decide)) ⟨x24_1, x25_1, x26_1, x27_1, x37_1, x41_1, x42_1, y30_1, y31_1, y32_1, y33_1, rfl, rfl, Or.inl ⟨rfl, hx_⟩⟩ dX10_readProduct_9
  · subst ee1_
    have h0_ := hh1_
    refine j_iconst E 5 rfl dX10_readProduct_4 ?_
    refine j_icmp_ne E 8 10 rfl (rr (by decide)) (rr (by decide)) dX10_readProduct_5 (by decide) (fun _ => ?_) (fun cc3_ => absurd cc3_ (by decide))
    have L10_4 : ∀ (k10 : Nat) (x24_c10 : Int) (x25_c10 : Int) (x26_c10 : Int) (x27_c10 : Int) (x37_c10 : Int) (x41_c10 : Int) (x42_c10 : Int) (y30_c10 : Int → Int) (y31_c10 : Int → Int) (y32_c10 : Int → Int) (y33_c10 : Int → Int) (H : Heap) (locs : List Loc) (ls : Array Slot), (((0 ≤ (x25_c10) ∧ (x25_c10) ≤ (x24_c10) ∧ (x24_c10) ≤ (n_0 23)) ∧ (0 ≤ (y31_c10 ((n_0 29))) ∧ (y31_c10 ((n_0 29))) ≤ (x24_c10)) ∧ (0 ≤ (x26_c10) ∧ (x26_c10) ≤ 4) ∧ (¬ (x26_c10) = 0 → (x25_c10) < (x24_c10)) ∧ ((x26_c10) = 3 → 0 ≤ (x27_c10) ∧ (x27_c10) ≤ 9999) ∧ (0 ≤ lo_ ∧ lo_ ≤ (x37_c10)) ∧ (x37_c10) + dl_ ≤ (x25_c10)) ∧ (n_0 25 < (x25_c10) ∧ n_0 37 ≤ (x37_c10)) ∧ Pz_ (y32_c10) (y33_c10) (400 * (n_0 29) + lo_) (400 * (n_0 29) + (x37_c10)) (el_ + 1) ∧ Fr_ (f_0 32) (f_0 33) (y32_c10) (y33_c10) (400 * n_0 29 + n_0 37) ∧ (∀ i, i ≠ n_0 29 → (y31_c10 i) = f_0 31 i)) → ((n_0 23) + 1 - (x25_c10)) < (k10 : Int) → WM D cy q (upN (upN (upN (upN (upN (upN (upN n_0 24 x24_c10) 25 x25_c10) 26 x26_c10) 27 x27_c10) 37 x37_c10) 41 x41_c10) 42 x42_c10) (upF (upF (upF (upF f_0 30 y30_c10) 31 y31_c10) 32 y32_c10) 33 y33_c10) A0 H0 H locs → lv_has ls 2 [(0, .ref (q 0))] → W p l e (rmd 4 0 0) s m ar below meth c H locs 0 0 QW (F0 m 10 ls []) := by
      intro k10
      induction k10 with
      | zero =>
        intro x24_c10 x25_c10 x26_c10 x27_c10 x37_c10 x41_c10 x42_c10 y30_c10 y31_c10 y32_c10 y33_c10 H locs ls iv10 ms10 hw hl
        exfalso; omega
      | succ k10 ih10 =>
        intro x24_c10 x25_c10 x26_c10 x27_c10 x37_c10 x41_c10 x42_c10 y30_c10 y31_c10 y32_c10 y33_c10 H locs ls iv10 ms10 hw hl
        have rx24_c10 : inR x24_c10 := mRn_24 hw.1.2.2.1
        have rx25_c10 : inR x25_c10 := mRn_25 hw.1.2.2.1
        have rx26_c10 : inR x26_c10 := mRn_26 hw.1.2.2.1
        have rx27_c10 : inR x27_c10 := mRn_27 hw.1.2.2.1
        have rx37_c10 : inR x37_c10 := mRn_37 hw.1.2.2.1
        have rx41_c10 : inR x41_c10 := mRn_41 hw.1.2.2.1
        have rx42_c10 : inR x42_c10 := mRn_42 hw.1.2.2.1
        refine j_aload_n E 11 rfl dX10_readProduct_10 rfl (lv_at hl 0 rfl) ?_
        refine j_bipush E 13 rfl dX10_readProduct_11 (by decide) ?_
        refine m_callp (po := fun z_0 => (z_0 = 1 ∧ (x26_c10) = 4 ∧ (x27_c10) = (42 : Int)) ∨ (z_0 = 0 ∧ ¬ ((x26_c10) = 4 ∧ (x27_c10) = (42 : Int)))) E (c_X10_isSign l D cy q (upN (upN (upN (upN (upN (upN (upN n_0 24 x24_c10) 25 x25_c10) 26 x26_c10) 27 x27_c10) 37 x37_c10) 41 x41_c10) 42 x42_c10) (upF (upF (upF (upF f_0 30 y30_c10) 31 y31_c10) 32 y32_c10) 33 y33_c10) 42  (rr (by decide)) ) rfl mt_X10_isSign ml_X10_276 hK hw hA ⟨Nat.le_of_ble_eq_true rfl, Nat.le_of_ble_eq_true rfl⟩ (As := [.int (J 42)]) (rest := []) rfl rfl hl.1 (Nat.le_of_ble_eq_true rfl) 16 rfl dX10_readProduct_13 (fun zz6_ H locs rr6_ hq6_ hw => ?_)
        have hh6_ : (zz6_ = 1 ∧ (x26_c10) = 4 ∧ (x27_c10) = (42 : Int)) ∨ (zz6_ = 0 ∧ ¬ ((x26_c10) = 4 ∧ (x27_c10) = (42 : Int))) := hq6_
        clear hq6_
        rcases hh6_ with ⟨ee6_, hh6_⟩ | ⟨ee6_, hh6_⟩
        · subst ee6_
          refine j_if_ne E 19 28 rfl (rr (by decide)) dX10_readProduct_16 (by decide) (fun _ => ?_) (fun cc7_ => absurd cc7_ (by decide))
          refine j_aload_n E 29 rfl dX10_readProduct_28 rfl (lv_at hl 0 rfl) ?_
          refine j_bipush E 31 rfl dX10_readProduct_29 (by decide) ?_
          refine m_callp (po := fun z_0 => (z_0 = 1 ∧ (x26_c10) = 4 ∧ (x27_c10) = (42 : Int)) ∨ (z_0 = 0 ∧ ¬ ((x26_c10) = 4 ∧ (x27_c10) = (42 : Int)))) E (c_X10_isSign l D cy q (upN (upN (upN (upN (upN (upN (upN n_0 24 x24_c10) 25 x25_c10) 26 x26_c10) 27 x27_c10) 37 x37_c10) 41 x41_c10) 42 x42_c10) (upF (upF (upF (upF f_0 30 y30_c10) 31 y31_c10) 32 y32_c10) 33 y33_c10) 42  (rr (by decide)) ) rfl mt_X10_isSign ml_X10_276 hK hw hA ⟨Nat.le_of_ble_eq_true rfl, Nat.le_of_ble_eq_true rfl⟩ (As := [.int (J 42)]) (rest := []) rfl rfl hl.1 (Nat.le_of_ble_eq_true rfl) 34 rfl dX10_readProduct_31 (fun zz8_ H locs rr8_ hq8_ hw => ?_)
          have hh8_ : (zz8_ = 1 ∧ (x26_c10) = 4 ∧ (x27_c10) = (42 : Int)) ∨ (zz8_ = 0 ∧ ¬ ((x26_c10) = 4 ∧ (x27_c10) = (42 : Int))) := hq8_
          clear hq8_
          refine j_istore_n E 35 rfl [(1, .int (J zz8_)), (0, .ref (q 0))] dX10_readProduct_34 rfl hl (by decide) rfl (fun ls hl => ?_)
          refine j_aload_n E 36 rfl dX10_readProduct_35 rfl (lv_at hl 1 rfl) ?_
          refine m_callv E (c_X10_next l D cy q (upN (upN (upN (upN (upN (upN (upN n_0 24 x24_c10) 25 x25_c10) 26 x26_c10) 27 x27_c10) 37 x37_c10) 41 x41_c10) 42 x42_c10) (upF (upF (upF (upF f_0 30 y30_c10) 31 y31_c10) 32 y32_c10) 33 y33_c10)    (show 0 ≤ (n_0 29) ∧ (n_0 29) < 32 from by omega) (show 0 ≤ (n_0 23) ∧ (n_0 23) ≤ 400 from by omega) (show Wds_ (f_0 28) from hp2) (show 0 ≤ (x24_c10) ∧ (x24_c10) ≤ (n_0 23) from by omega) (show 0 ≤ (y31_c10 ((n_0 29))) ∧ (y31_c10 ((n_0 29))) ≤ (x24_c10) from by omega)) rfl mt_X10_next ml_X10_269 hK hw hA ⟨Nat.le_of_ble_eq_true rfl, Nat.le_of_ble_eq_true rfl⟩ (As := []) (rest := []) rfl rfl hl.1 (Nat.le_of_ble_eq_true rfl) 39 rfl dX10_readProduct_36 (fun n_9 f_9 H locs hq9_ hw => ?_)
          obtain ⟨x24_9, x25_9, x26_9, x27_9, y30_9, y31_9, en9_, ef9_, hq9_⟩ := hq9_
          rw [en9_, ef9_] at hw; clear en9_ ef9_
          have hw : WM D cy q (upN (upN (upN (upN (upN (upN (upN n_0 24 x24_9) 25 x25_9) 26 x26_9) 27 x27_9) 37 x37_c10) 41 x41_c10) 42 x42_c10) (upF (upF (upF (upF f_0 30 y30_9) 31 y31_9) 32 y32_c10) 33 y33_c10) A0 H0 H locs := hw
          have rx24_9 : inR x24_9 := mRn_24 hw.1.2.2.1
          have rx25_9 : inR x25_9 := mRn_25 hw.1.2.2.1
          have rx26_9 : inR x26_9 := mRn_26 hw.1.2.2.1
          have rx27_9 : inR x27_9 := mRn_27 hw.1.2.2.1
          have hh9_ : (0 ≤ (x25_9) ∧ (x25_9) ≤ (x24_9) ∧ (x24_9) ≤ (n_0 23)) ∧ (0 ≤ (y31_9 ((n_0 29))) ∧ (y31_9 ((n_0 29))) ≤ (x24_9)) ∧ (0 ≤ (x26_9) ∧ (x26_9) ≤ 4) ∧ (¬ (x26_9) = 0 → (x25_9) < (x24_9)) ∧ ((x26_9) = 3 → 0 ≤ (x27_9) ∧ (x27_9) ≤ 9999) ∧ (x24_c10) ≤ (x25_9) ∧ (∀ i, i ≠ (n_0 29) → (y31_9 i) = (y31_c10 i)) := hq9_
          clear hq9_
          have hk_ := hh9_.2.2.2.2.2.2
          refine j_iload_n E 40 rfl dX10_readProduct_39 rfl (lv_at hl 0 rfl) ?_
          refine j_if_ne E 43 57 rfl rr8_ dX10_readProduct_40 (by decide) (fun cc10_ => ?_) (fun cc10_ => ?_)
          · refine j_iload_n E 58 rfl dX10_readProduct_57 rfl (lv_at hl 0 rfl) ?_
            refine j_if_ne E 61 74 rfl rr8_ dX10_readProduct_58 (by decide) (fun cc11_ => ?_) (fun cc11_ => ?_)
            · refine j_aload_n E 75 rfl dX10_readProduct_74 rfl (lv_at hl 1 rfl) ?_
              refine m_calli E (c_X10_readUnit l D cy q (upN (upN (upN (upN (upN (upN (upN n_0 24 x24_9) 25 x25_9) 26 x26_9) 27 x27_9) 37 x37_c10) 41 x41_c10) 42 x42_c10) (upF (upF (upF (upF f_0 30 y30_9) 31 y31_9) 32 y32_c10) 33 y33_c10)  (dl_ + 1) lo_ (el_ + 1)  (show 0 ≤ (n_0 29) ∧ (n_0 29) < 32 from by omega) (show 0 ≤ (n_0 23) ∧ (n_0 23) ≤ 400 from by omega) (show Wds_ (f_0 28) from hp2) (show 0 ≤ (dl_ + 1) ∧ (0 ≤ (x25_9) ∧ (x25_9) ≤ (x24_9) ∧ (x24_9) ≤ (n_0 23)) ∧ (0 ≤ (y31_9 ((n_0 29))) ∧ (y31_9 ((n_0 29))) ≤ (x24_9)) ∧ (0 ≤ (x26_9) ∧ (x26_9) ≤ 4) ∧ (¬ (x26_9) = 0 → (x25_9) < (x24_9)) ∧ ((x26_9) = 3 → 0 ≤ (x27_9) ∧ (x27_9) ≤ 9999) ∧ (0 ≤ lo_ ∧ lo_ ≤ (x37_c10)) ∧ (x37_c10) + (dl_ + 1) ≤ (x25_9) from by omega) (show Pz_ (y32_c10) (y33_c10) (400 * (n_0 29) + lo_) (400 * (n_0 29) + (x37_c10)) (el_ + 1) from iv10.2.2.1)) rfl mt_X10_readUnit ml_X10_272 hK hw hA ⟨Nat.le_of_ble_eq_true rfl, Nat.le_of_ble_eq_true rfl⟩ (As := []) (rest := []) rfl rfl hl.1 (Nat.le_of_ble_eq_true rfl) 78 rfl dX10_readProduct_75 (fun zz12_ n_12 f_12 H locs rr12_ hq12_ hw => ?_)
              obtain ⟨x24_12, x25_12, x26_12, x27_12, x37_12, x41_12, x42_12, y30_12, y31_12, y32_12, y33_12, en12_, ef12_, hq12_⟩ := hq12_
              rw [en12_, ef12_] at hw; clear en12_ ef12_
              have hw : WM D cy q (upN (upN (upN (upN (upN (upN (upN n_0 24 x24_12) 25 x25_12) 26 x26_12) 27 x27_12) 37 x37_12) 41 x41_12) 42 x42_12) (upF (upF (upF (upF f_0 30 y30_12) 31 y31_12) 32 y32_12) 33 y33_12) A0 H0 H locs := hw
              have rx24_12 : inR x24_12 := mRn_24 hw.1.2.2.1
              have rx25_12 : inR x25_12 := mRn_25 hw.1.2.2.1
              have rx26_12 : inR x26_12 := mRn_26 hw.1.2.2.1
              have rx27_12 : inR x27_12 := mRn_27 hw.1.2.2.1
              have rx37_12 : inR x37_12 := mRn_37 hw.1.2.2.1
              have rx41_12 : inR x41_12 := mRn_41 hw.1.2.2.1
              have rx42_12 : inR x42_12 := mRn_42 hw.1.2.2.1
              have hh12_ : (zz12_ = -1 ∧ Fr_ (y32_c10) (y33_c10) (y32_12) (y33_12) (400 * (n_0 29) + (x37_c10)) ∧ (∀ i, i ≠ (n_0 29) → (y31_12 i) = (y31_9 i)) ∧ (0 ≤ (y31_12 ((n_0 29))) ∧ (y31_12 ((n_0 29))) ≤ 400)) ∨ (zz12_ = 0 ∧ Fr_ (y32_c10) (y33_c10) (y32_12) (y33_12) (400 * (n_0 29) + (x37_c10)) ∧ (∀ i, i ≠ (n_0 29) → (y31_12 i) = (y31_9 i)) ∧ (0 ≤ (y31_12 ((n_0 29))) ∧ (y31_12 ((n_0 29))) ≤ 400) ∧ ((0 ≤ (x25_12) ∧ (x25_12) ≤ (x24_12) ∧ (x24_12) ≤ (n_0 23)) ∧ (0 ≤ (y31_12 ((n_0 29))) ∧ (y31_12 ((n_0 29))) ≤ (x24_12)) ∧ (0 ≤ (x26_12) ∧ (x26_12) ≤ 4) ∧ (¬ (x26_12) = 0 → (x25_12) < (x24_12)) ∧ ((x26_12) = 3 → 0 ≤ (x27_12) ∧ (x27_12) ≤ 9999) ∧ (0 ≤ lo_ ∧ lo_ ≤ (x37_12)) ∧ (x37_12) + (dl_ + 1) ≤ (x25_12)) ∧ (x25_9) < (x25_12) ∧ (x37_c10) ≤ (x37_12) ∧ Pz_ (y32_12) (y33_12) (400 * (n_0 29) + lo_) (400 * (n_0 29) + (x37_12)) ((el_ + 1) + 1) ∧ ((x26_9) = 3 → (x37_12) = (x37_c10) + 1 ∧ (y32_12 (400 * (n_0 29) + (x37_c10))) = 0 ∧ (y33_12 (400 * (n_0 29) + (x37_c10))) = (x27_9))) := hq12_
              clear hq12_
              rcases hh12_ with ⟨ee12_, hh12_⟩ | ⟨ee12_, hh12_⟩
              · subst ee12_
                have hx2_ := hh12_
                refine j_iconst E 79 rfl dX10_readProduct_78 ?_
                refine j_icmp_ne E 82 84 rfl (rr (by decide)) (rr (by decide)) dX10_readProduct_79 (by decide) (fun cc13_ => absurd cc13_ (by decide)) (fun _ => ?_)
                refine j_iconst E 83 rfl dX10_readProduct_82 ?_
                exact hret 83 ((-1)) (upN (upN (upN (upN (upN (upN (upN n_0 24 x24_12) 25 x25_12) 26 x26_12) 27 x27_12) 37 x37_12) 41 x41_12) 42 x42_12) (upF (upF (upF (upF f_0 30 y30_12) 31 y31_12) 32 y32_12) 33 y33_12) _ _ ls hw (rr (by decide)) ⟨x24_12, x25_12, x26_12, x27_12, x37_12, x41_12, x42_12, y30_12, y31_12, y32_12, y33_12, rfl, rfl, Or.inl ⟨rfl, Fr_tr iv10.2.2.2.1 hx2_.1 (by omega), tk_tr iv10.2.2.2.2 (tk_tr hk_ hx2_.2.1), hx2_.2.2⟩⟩ dX10_readProduct_83
              · subst ee12_
                have h2_ := hh12_
                have hb2_ := (h2_.2.2.2.2.2.2.1).2
                refine j_iconst E 79 rfl dX10_readProduct_78 ?_
                refine j_icmp_ne E 82 84 rfl (rr (by decide)) (rr (by decide)) dX10_readProduct_79 (by decide) (fun _ => ?_) (fun cc14_ => absurd cc14_ (by decide))
                refine j_aload_n E 85 rfl dX10_readProduct_84 rfl (lv_at hl 1 rfl) ?_
                refine j_iload_n E 86 rfl dX10_readProduct_85 rfl (lv_at hl 0 rfl) ?_
                refine j_if_eq E 89 93 rfl rr8_ dX10_readProduct_86 (by decide) (fun cc15_ => ?_) (fun cc15_ => ?_)
                · refine j_bipush E 95 rfl dX10_readProduct_93 (by decide) ?_
                  refine j_iconst E 96 rfl dX10_readProduct_95 ?_
                  have h6_ : zz8_ = 0 → 400 * n_0 29 + lo_ < 400 * n_0 29 + (x37_12) ∧ (y32_12 (400 * n_0 29 + (x37_12) - 1)) = 0 ∧ ¬ (y33_12 (400 * n_0 29 + (x37_12) - 1)) = 0 := fun hs_ => by
                    have h7_ := h2_.2.2.2.2.2.2.2 (by omega)
                    rw [show 400 * n_0 29 + (x37_12) - 1 = 400 * n_0 29 + x37_c10 by omega]
                    exact ⟨by omega, h7_.2.1, by omega⟩
                  refine m_callv E (c_X10_emits l D cy q (upN (upN (upN (upN (upN (upN (upN n_0 24 x24_12) 25 x25_12) 26 x26_12) 27 x27_12) 37 x37_12) 41 x41_12) 42 x42_12) (upF (upF (upF (upF f_0 30 y30_12) 31 y31_12) 32 y32_12) 33 y33_12) 6 0  (rr (by decide)) (rr (by decide)) (show 0 ≤ (n_0 29) ∧ (n_0 29) < 32 from by omega) (show 0 ≤ (x37_12) ∧ (x37_12) ≤ 399 from by omega)) rfl mt_X10_emits ml_X10_265 hK hw hA ⟨Nat.le_of_ble_eq_true rfl, Nat.le_of_ble_eq_true rfl⟩ (As := [.int (J 6), .int (J 0)]) (rest := []) rfl rfl hl.1 (Nat.le_of_ble_eq_true rfl) 99 rfl dX10_readProduct_96 (fun n_16 f_16 H locs hq16_ hw => ?_)
                  obtain ⟨x37_16, y32_16, y33_16, en16_, ef16_, hq16_⟩ := hq16_
                  rw [en16_, ef16_] at hw; clear en16_ ef16_
                  have hw : WM D cy q (upN (upN (upN (upN (upN (upN (upN n_0 24 x24_12) 25 x25_12) 26 x26_12) 27 x27_12) 37 x37_16) 41 x41_12) 42 x42_12) (upF (upF (upF (upF f_0 30 y30_12) 31 y31_12) 32 y32_16) 33 y33_16) A0 H0 H locs := hw
                  have rx37_16 : inR x37_16 := mRn_37 hw.1.2.2.1
                  have hh16_ : (y32_16) = upA (y32_12) (400 * (n_0 29) + (x37_12)) (6 : Int) ∧ (y33_16) = upA (y33_12) (400 * (n_0 29) + (x37_12)) (0 : Int) ∧ (x37_16) = (x37_12) + 1 := hq16_
                  clear hq16_
                  have hm_ : (x37_16) = (x37_12) + 1 := hh16_.2.2
                  have hz_ : Pz_ (y32_16) (y33_16) (400 * n_0 29 + lo_) (400 * n_0 29 + (x37_16)) (el_ + 1) := by rw [hh16_.1, hh16_.2.1, show 400 * n_0 29 + (x37_16) = 400 * n_0 29 + (x37_12) + 1 by omega]; exact Pz_ext h2_.2.2.2.2.2.2.1 (by omega) (by omega) (by omega)
                  have hf_ : Fr_ (y32_12) (y33_12) (y32_16) (y33_16) (400 * n_0 29 + (x37_12)) := by rw [hh16_.1, hh16_.2.1]; exact Fr_up (by omega)
                  refine j_goto E 10 dX10_readProduct_99 (by decide) ?_
                  exact ih10  x24_12 x25_12 x26_12 x27_12 x37_16 x41_12 x42_12 y30_12 y31_12 y32_16 y33_16 H locs ls  (⟨by omega, by omega, hz_, Fr_tr iv10.2.2.2.1 (Fr_tr h2_.1 hf_ (by omega)) (by omega), tk_tr iv10.2.2.2.2 (tk_tr hk_ h2_.2.1)⟩) (by omega) hw (lv_sub hl [1] rfl)
                · refine j_iconst E 90 rfl dX10_readProduct_89 ?_
                  refine j_goto E 95 dX10_readProduct_90 (by decide) ?_
                  refine j_iconst E 96 rfl dX10_readProduct_95 ?_
                  have h6_ : zz8_ = 0 → 400 * n_0 29 + lo_ < 400 * n_0 29 + (x37_12) ∧ (y32_12 (400 * n_0 29 + (x37_12) - 1)) = 0 ∧ ¬ (y33_12 (400 * n_0 29 + (x37_12) - 1)) = 0 := fun hs_ => by
                    have h7_ := h2_.2.2.2.2.2.2.2 (by omega)
                    rw [show 400 * n_0 29 + (x37_12) - 1 = 400 * n_0 29 + x37_c10 by omega]
                    exact ⟨by omega, h7_.2.1, by omega⟩
                  refine m_callv E (c_X10_emits l D cy q (upN (upN (upN (upN (upN (upN (upN n_0 24 x24_12) 25 x25_12) 26 x26_12) 27 x27_12) 37 x37_12) 41 x41_12) 42 x42_12) (upF (upF (upF (upF f_0 30 y30_12) 31 y31_12) 32 y32_12) 33 y33_12) 5 0  (rr (by decide)) (rr (by decide)) (show 0 ≤ (n_0 29) ∧ (n_0 29) < 32 from by omega) (show 0 ≤ (x37_12) ∧ (x37_12) ≤ 399 from by omega)) rfl mt_X10_emits ml_X10_265 hK hw hA ⟨Nat.le_of_ble_eq_true rfl, Nat.le_of_ble_eq_true rfl⟩ (As := [.int (J 5), .int (J 0)]) (rest := []) rfl rfl hl.1 (Nat.le_of_ble_eq_true rfl) 99 rfl dX10_readProduct_96 (fun n_17 f_17 H locs hq17_ hw => ?_)
                  obtain ⟨x37_17, y32_17, y33_17, en17_, ef17_, hq17_⟩ := hq17_
                  rw [en17_, ef17_] at hw; clear en17_ ef17_
                  have hw : WM D cy q (upN (upN (upN (upN (upN (upN (upN n_0 24 x24_12) 25 x25_12) 26 x26_12) 27 x27_12) 37 x37_17) 41 x41_12) 42 x42_12) (upF (upF (upF (upF f_0 30 y30_12) 31 y31_12) 32 y32_17) 33 y33_17) A0 H0 H locs := hw
                  have rx37_17 : inR x37_17 := mRn_37 hw.1.2.2.1
                  have hh17_ : (y32_17) = upA (y32_12) (400 * (n_0 29) + (x37_12)) (5 : Int) ∧ (y33_17) = upA (y33_12) (400 * (n_0 29) + (x37_12)) (0 : Int) ∧ (x37_17) = (x37_12) + 1 := hq17_
                  clear hq17_
                  have hm_ : (x37_17) = (x37_12) + 1 := hh17_.2.2
                  have hz_ : Pz_ (y32_17) (y33_17) (400 * n_0 29 + lo_) (400 * n_0 29 + (x37_17)) (el_ + 1) := by rw [hh17_.1, hh17_.2.1, show 400 * n_0 29 + (x37_17) = 400 * n_0 29 + (x37_12) + 1 by omega]; exact Pz_ext h2_.2.2.2.2.2.2.1 (by omega) (by omega) (by omega)
                  have hf_ : Fr_ (y32_12) (y33_12) (y32_17) (y33_17) (400 * n_0 29 + (x37_12)) := by rw [hh17_.1, hh17_.2.1]; exact Fr_up (by omega)
                  refine j_goto E 10 dX10_readProduct_99 (by decide) ?_
                  exact ih10  x24_12 x25_12 x26_12 x27_12 x37_17 x41_12 x42_12 y30_12 y31_12 y32_17 y33_17 H locs ls  (⟨by omega, by omega, hz_, Fr_tr iv10.2.2.2.1 (Fr_tr h2_.1 hf_ (by omega)) (by omega), tk_tr iv10.2.2.2.2 (tk_tr hk_ h2_.2.1)⟩) (by omega) hw (lv_sub hl [1] rfl)
            · refine j_aload_n E 62 rfl dX10_readProduct_61 rfl (lv_at hl 1 rfl) ?_
              refine m_get_27 E hK hw x27_9 rfl 65 rfl dX10_readProduct_62 (fun _ => ?_)
              refine j_if_ne E 68 74 rfl rx27_9 dX10_readProduct_65 (by decide) (fun cc18_ => ?_) (fun cc18_ => ?_)
              · refine j_aload_n E 75 rfl dX10_readProduct_74 rfl (lv_at hl 1 rfl) ?_
                refine m_calli E (c_X10_readUnit l D cy q (upN (upN (upN (upN (upN (upN (upN n_0 24 x24_9) 25 x25_9) 26 x26_9) 27 x27_9) 37 x37_c10) 41 x41_c10) 42 x42_c10) (upF (upF (upF (upF f_0 30 y30_9) 31 y31_9) 32 y32_c10) 33 y33_c10)  (dl_ + 1) lo_ (el_ + 1)  (show 0 ≤ (n_0 29) ∧ (n_0 29) < 32 from by omega) (show 0 ≤ (n_0 23) ∧ (n_0 23) ≤ 400 from by omega) (show Wds_ (f_0 28) from hp2) (show 0 ≤ (dl_ + 1) ∧ (0 ≤ (x25_9) ∧ (x25_9) ≤ (x24_9) ∧ (x24_9) ≤ (n_0 23)) ∧ (0 ≤ (y31_9 ((n_0 29))) ∧ (y31_9 ((n_0 29))) ≤ (x24_9)) ∧ (0 ≤ (x26_9) ∧ (x26_9) ≤ 4) ∧ (¬ (x26_9) = 0 → (x25_9) < (x24_9)) ∧ ((x26_9) = 3 → 0 ≤ (x27_9) ∧ (x27_9) ≤ 9999) ∧ (0 ≤ lo_ ∧ lo_ ≤ (x37_c10)) ∧ (x37_c10) + (dl_ + 1) ≤ (x25_9) from by omega) (show Pz_ (y32_c10) (y33_c10) (400 * (n_0 29) + lo_) (400 * (n_0 29) + (x37_c10)) (el_ + 1) from iv10.2.2.1)) rfl mt_X10_readUnit ml_X10_272 hK hw hA ⟨Nat.le_of_ble_eq_true rfl, Nat.le_of_ble_eq_true rfl⟩ (As := []) (rest := []) rfl rfl hl.1 (Nat.le_of_ble_eq_true rfl) 78 rfl dX10_readProduct_75 (fun zz19_ n_19 f_19 H locs rr19_ hq19_ hw => ?_)
                obtain ⟨x24_19, x25_19, x26_19, x27_19, x37_19, x41_19, x42_19, y30_19, y31_19, y32_19, y33_19, en19_, ef19_, hq19_⟩ := hq19_
                rw [en19_, ef19_] at hw; clear en19_ ef19_
                have hw : WM D cy q (upN (upN (upN (upN (upN (upN (upN n_0 24 x24_19) 25 x25_19) 26 x26_19) 27 x27_19) 37 x37_19) 41 x41_19) 42 x42_19) (upF (upF (upF (upF f_0 30 y30_19) 31 y31_19) 32 y32_19) 33 y33_19) A0 H0 H locs := hw
                have rx24_19 : inR x24_19 := mRn_24 hw.1.2.2.1
                have rx25_19 : inR x25_19 := mRn_25 hw.1.2.2.1
                have rx26_19 : inR x26_19 := mRn_26 hw.1.2.2.1
                have rx27_19 : inR x27_19 := mRn_27 hw.1.2.2.1
                have rx37_19 : inR x37_19 := mRn_37 hw.1.2.2.1
                have rx41_19 : inR x41_19 := mRn_41 hw.1.2.2.1
                have rx42_19 : inR x42_19 := mRn_42 hw.1.2.2.1
                have hh19_ : (zz19_ = -1 ∧ Fr_ (y32_c10) (y33_c10) (y32_19) (y33_19) (400 * (n_0 29) + (x37_c10)) ∧ (∀ i, i ≠ (n_0 29) → (y31_19 i) = (y31_9 i)) ∧ (0 ≤ (y31_19 ((n_0 29))) ∧ (y31_19 ((n_0 29))) ≤ 400)) ∨ (zz19_ = 0 ∧ Fr_ (y32_c10) (y33_c10) (y32_19) (y33_19) (400 * (n_0 29) + (x37_c10)) ∧ (∀ i, i ≠ (n_0 29) → (y31_19 i) = (y31_9 i)) ∧ (0 ≤ (y31_19 ((n_0 29))) ∧ (y31_19 ((n_0 29))) ≤ 400) ∧ ((0 ≤ (x25_19) ∧ (x25_19) ≤ (x24_19) ∧ (x24_19) ≤ (n_0 23)) ∧ (0 ≤ (y31_19 ((n_0 29))) ∧ (y31_19 ((n_0 29))) ≤ (x24_19)) ∧ (0 ≤ (x26_19) ∧ (x26_19) ≤ 4) ∧ (¬ (x26_19) = 0 → (x25_19) < (x24_19)) ∧ ((x26_19) = 3 → 0 ≤ (x27_19) ∧ (x27_19) ≤ 9999) ∧ (0 ≤ lo_ ∧ lo_ ≤ (x37_19)) ∧ (x37_19) + (dl_ + 1) ≤ (x25_19)) ∧ (x25_9) < (x25_19) ∧ (x37_c10) ≤ (x37_19) ∧ Pz_ (y32_19) (y33_19) (400 * (n_0 29) + lo_) (400 * (n_0 29) + (x37_19)) ((el_ + 1) + 1) ∧ ((x26_9) = 3 → (x37_19) = (x37_c10) + 1 ∧ (y32_19 (400 * (n_0 29) + (x37_c10))) = 0 ∧ (y33_19 (400 * (n_0 29) + (x37_c10))) = (x27_9))) := hq19_
                clear hq19_
                rcases hh19_ with ⟨ee19_, hh19_⟩ | ⟨ee19_, hh19_⟩
                · subst ee19_
                  have hx2_ := hh19_
                  refine j_iconst E 79 rfl dX10_readProduct_78 ?_
                  refine j_icmp_ne E 82 84 rfl (rr (by decide)) (rr (by decide)) dX10_readProduct_79 (by decide) (fun cc20_ => absurd cc20_ (by decide)) (fun _ => ?_)
                  refine j_iconst E 83 rfl dX10_readProduct_82 ?_
                  exact hret 83 ((-1)) (upN (upN (upN (upN (upN (upN (upN n_0 24 x24_19) 25 x25_19) 26 x26_19) 27 x27_19) 37 x37_19) 41 x41_19) 42 x42_19) (upF (upF (upF (upF f_0 30 y30_19) 31 y31_19) 32 y32_19) 33 y33_19) _ _ ls hw (rr (by decide)) ⟨x24_19, x25_19, x26_19, x27_19, x37_19, x41_19, x42_19, y30_19, y31_19, y32_19, y33_19, rfl, rfl, Or.inl ⟨rfl, Fr_tr iv10.2.2.2.1 hx2_.1 (by omega), tk_tr iv10.2.2.2.2 (tk_tr hk_ hx2_.2.1), hx2_.2.2⟩⟩ dX10_readProduct_83
                · subst ee19_
                  have h2_ := hh19_
                  have hb2_ := (h2_.2.2.2.2.2.2.1).2
                  refine j_iconst E 79 rfl dX10_readProduct_78 ?_
                  refine j_icmp_ne E 82 84 rfl (rr (by decide)) (rr (by decide)) dX10_readProduct_79 (by decide) (fun _ => ?_) (fun cc21_ => absurd cc21_ (by decide))
                  refine j_aload_n E 85 rfl dX10_readProduct_84 rfl (lv_at hl 1 rfl) ?_
                  refine j_iload_n E 86 rfl dX10_readProduct_85 rfl (lv_at hl 0 rfl) ?_
                  refine j_if_eq E 89 93 rfl rr8_ dX10_readProduct_86 (by decide) (fun cc22_ => ?_) (fun cc22_ => ?_)
                  · refine j_bipush E 95 rfl dX10_readProduct_93 (by decide) ?_
                    refine j_iconst E 96 rfl dX10_readProduct_95 ?_
                    have h6_ : zz8_ = 0 → 400 * n_0 29 + lo_ < 400 * n_0 29 + (x37_19) ∧ (y32_19 (400 * n_0 29 + (x37_19) - 1)) = 0 ∧ ¬ (y33_19 (400 * n_0 29 + (x37_19) - 1)) = 0 := fun hs_ => by
                      have h7_ := h2_.2.2.2.2.2.2.2 (by omega)
                      rw [show 400 * n_0 29 + (x37_19) - 1 = 400 * n_0 29 + x37_c10 by omega]
                      exact ⟨by omega, h7_.2.1, by omega⟩
                    refine m_callv E (c_X10_emits l D cy q (upN (upN (upN (upN (upN (upN (upN n_0 24 x24_19) 25 x25_19) 26 x26_19) 27 x27_19) 37 x37_19) 41 x41_19) 42 x42_19) (upF (upF (upF (upF f_0 30 y30_19) 31 y31_19) 32 y32_19) 33 y33_19) 6 0  (rr (by decide)) (rr (by decide)) (show 0 ≤ (n_0 29) ∧ (n_0 29) < 32 from by omega) (show 0 ≤ (x37_19) ∧ (x37_19) ≤ 399 from by omega)) rfl mt_X10_emits ml_X10_265 hK hw hA ⟨Nat.le_of_ble_eq_true rfl, Nat.le_of_ble_eq_true rfl⟩ (As := [.int (J 6), .int (J 0)]) (rest := []) rfl rfl hl.1 (Nat.le_of_ble_eq_true rfl) 99 rfl dX10_readProduct_96 (fun n_23 f_23 H locs hq23_ hw => ?_)
                    obtain ⟨x37_23, y32_23, y33_23, en23_, ef23_, hq23_⟩ := hq23_
                    rw [en23_, ef23_] at hw; clear en23_ ef23_
                    have hw : WM D cy q (upN (upN (upN (upN (upN (upN (upN n_0 24 x24_19) 25 x25_19) 26 x26_19) 27 x27_19) 37 x37_23) 41 x41_19) 42 x42_19) (upF (upF (upF (upF f_0 30 y30_19) 31 y31_19) 32 y32_23) 33 y33_23) A0 H0 H locs := hw
                    have rx37_23 : inR x37_23 := mRn_37 hw.1.2.2.1
                    have hh23_ : (y32_23) = upA (y32_19) (400 * (n_0 29) + (x37_19)) (6 : Int) ∧ (y33_23) = upA (y33_19) (400 * (n_0 29) + (x37_19)) (0 : Int) ∧ (x37_23) = (x37_19) + 1 := hq23_
                    clear hq23_
                    have hm_ : (x37_23) = (x37_19) + 1 := hh23_.2.2
                    have hz_ : Pz_ (y32_23) (y33_23) (400 * n_0 29 + lo_) (400 * n_0 29 + (x37_23)) (el_ + 1) := by rw [hh23_.1, hh23_.2.1, show 400 * n_0 29 + (x37_23) = 400 * n_0 29 + (x37_19) + 1 by omega]; exact Pz_ext h2_.2.2.2.2.2.2.1 (by omega) (by omega) (by omega)
                    have hf_ : Fr_ (y32_19) (y33_19) (y32_23) (y33_23) (400 * n_0 29 + (x37_19)) := by rw [hh23_.1, hh23_.2.1]; exact Fr_up (by omega)
                    refine j_goto E 10 dX10_readProduct_99 (by decide) ?_
                    exact ih10  x24_19 x25_19 x26_19 x27_19 x37_23 x41_19 x42_19 y30_19 y31_19 y32_23 y33_23 H locs ls  (⟨by omega, by omega, hz_, Fr_tr iv10.2.2.2.1 (Fr_tr h2_.1 hf_ (by omega)) (by omega), tk_tr iv10.2.2.2.2 (tk_tr hk_ h2_.2.1)⟩) (by omega) hw (lv_sub hl [1] rfl)
                  · refine j_iconst E 90 rfl dX10_readProduct_89 ?_
                    refine j_goto E 95 dX10_readProduct_90 (by decide) ?_
                    refine j_iconst E 96 rfl dX10_readProduct_95 ?_
                    have h6_ : zz8_ = 0 → 400 * n_0 29 + lo_ < 400 * n_0 29 + (x37_19) ∧ (y32_19 (400 * n_0 29 + (x37_19) - 1)) = 0 ∧ ¬ (y33_19 (400 * n_0 29 + (x37_19) - 1)) = 0 := fun hs_ => by
                      have h7_ := h2_.2.2.2.2.2.2.2 (by omega)
                      rw [show 400 * n_0 29 + (x37_19) - 1 = 400 * n_0 29 + x37_c10 by omega]
                      exact ⟨by omega, h7_.2.1, by omega⟩
                    refine m_callv E (c_X10_emits l D cy q (upN (upN (upN (upN (upN (upN (upN n_0 24 x24_19) 25 x25_19) 26 x26_19) 27 x27_19) 37 x37_19) 41 x41_19) 42 x42_19) (upF (upF (upF (upF f_0 30 y30_19) 31 y31_19) 32 y32_19) 33 y33_19) 5 0  (rr (by decide)) (rr (by decide)) (show 0 ≤ (n_0 29) ∧ (n_0 29) < 32 from by omega) (show 0 ≤ (x37_19) ∧ (x37_19) ≤ 399 from by omega)) rfl mt_X10_emits ml_X10_265 hK hw hA ⟨Nat.le_of_ble_eq_true rfl, Nat.le_of_ble_eq_true rfl⟩ (As := [.int (J 5), .int (J 0)]) (rest := []) rfl rfl hl.1 (Nat.le_of_ble_eq_true rfl) 99 rfl dX10_readProduct_96 (fun n_24 f_24 H locs hq24_ hw => ?_)
                    obtain ⟨x37_24, y32_24, y33_24, en24_, ef24_, hq24_⟩ := hq24_
                    rw [en24_, ef24_] at hw; clear en24_ ef24_
                    have hw : WM D cy q (upN (upN (upN (upN (upN (upN (upN n_0 24 x24_19) 25 x25_19) 26 x26_19) 27 x27_19) 37 x37_24) 41 x41_19) 42 x42_19) (upF (upF (upF (upF f_0 30 y30_19) 31 y31_19) 32 y32_24) 33 y33_24) A0 H0 H locs := hw
                    have rx37_24 : inR x37_24 := mRn_37 hw.1.2.2.1
                    have hh24_ : (y32_24) = upA (y32_19) (400 * (n_0 29) + (x37_19)) (5 : Int) ∧ (y33_24) = upA (y33_19) (400 * (n_0 29) + (x37_19)) (0 : Int) ∧ (x37_24) = (x37_19) + 1 := hq24_
                    clear hq24_
                    have hm_ : (x37_24) = (x37_19) + 1 := hh24_.2.2
                    have hz_ : Pz_ (y32_24) (y33_24) (400 * n_0 29 + lo_) (400 * n_0 29 + (x37_24)) (el_ + 1) := by rw [hh24_.1, hh24_.2.1, show 400 * n_0 29 + (x37_24) = 400 * n_0 29 + (x37_19) + 1 by omega]; exact Pz_ext h2_.2.2.2.2.2.2.1 (by omega) (by omega) (by omega)
                    have hf_ : Fr_ (y32_19) (y33_19) (y32_24) (y33_24) (400 * n_0 29 + (x37_19)) := by rw [hh24_.1, hh24_.2.1]; exact Fr_up (by omega)
                    refine j_goto E 10 dX10_readProduct_99 (by decide) ?_
                    exact ih10  x24_19 x25_19 x26_19 x27_19 x37_24 x41_19 x42_19 y30_19 y31_19 y32_24 y33_24 H locs ls  (⟨by omega, by omega, hz_, Fr_tr iv10.2.2.2.1 (Fr_tr h2_.1 hf_ (by omega)) (by omega), tk_tr iv10.2.2.2.2 (tk_tr hk_ h2_.2.1)⟩) (by omega) hw (lv_sub hl [1] rfl)
              · refine j_aload_n E 69 rfl dX10_readProduct_68 rfl (lv_at hl 1 rfl) ?_
                refine j_iconst E 70 rfl dX10_readProduct_69 ?_
                refine m_calli E (c_X10_fails l D cy q (upN (upN (upN (upN (upN (upN (upN n_0 24 x24_9) 25 x25_9) 26 x26_9) 27 x27_9) 37 x37_c10) 41 x41_c10) 42 x42_c10) (upF (upF (upF (upF f_0 30 y30_9) 31 y31_9) 32 y32_c10) 33 y33_c10) 2  (rr (by decide)) ) rfl mt_X10_fails ml_X10_262 hK hw hA ⟨Nat.le_of_ble_eq_true rfl, Nat.le_of_ble_eq_true rfl⟩ (As := [.int (J 2)]) (rest := []) rfl rfl hl.1 (Nat.le_of_ble_eq_true rfl) 73 rfl dX10_readProduct_70 (fun zz25_ n_25 f_25 H locs rr25_ hq25_ hw => ?_)
                obtain ⟨x41_25, x42_25, en25_, ef25_, hq25_⟩ := hq25_
                rw [en25_, ef25_] at hw; clear en25_ ef25_
                have hw : WM D cy q (upN (upN (upN (upN (upN (upN (upN n_0 24 x24_9) 25 x25_9) 26 x26_9) 27 x27_9) 37 x37_c10) 41 x41_25) 42 x42_25) (upF (upF (upF (upF f_0 30 y30_9) 31 y31_9) 32 y32_c10) 33 y33_c10) A0 H0 H locs := hw
                have rx41_25 : inR x41_25 := mRn_41 hw.1.2.2.1
                have rx42_25 : inR x42_25 := mRn_42 hw.1.2.2.1
                have hh25_ : zz25_ = -1 := hq25_
                clear hq25_
                exact hret 73 zz25_ (upN (upN (upN (upN (upN (upN (upN n_0 24 x24_9) 25 x25_9) 26 x26_9) 27 x27_9) 37 x37_c10) 41 x41_25) 42 x42_25) (upF (upF (upF (upF f_0 30 y30_9) 31 y31_9) 32 y32_c10) 33 y33_c10) _ _ ls hw rr25_ ⟨x24_9, x25_9, x26_9, x27_9, x37_c10, x41_25, x42_25, y30_9, y31_9, y32_c10, y33_c10, rfl, rfl, Or.inl ⟨by omega, iv10.2.2.2.1, tk_tr iv10.2.2.2.2 hk_, by omega⟩⟩ dX10_readProduct_73
          · refine j_aload_n E 44 rfl dX10_readProduct_43 rfl (lv_at hl 1 rfl) ?_
            refine m_get_26 E hK hw x26_9 rfl 47 rfl dX10_readProduct_44 (fun _ => ?_)
            refine j_iconst E 48 rfl dX10_readProduct_47 ?_
            refine j_icmp_eq E 51 57 rfl rx26_9 (rr (by decide)) dX10_readProduct_48 (by decide) (fun cc26_ => ?_) (fun cc26_ => ?_)
            · refine j_iload_n E 58 rfl dX10_readProduct_57 rfl (lv_at hl 0 rfl) ?_
              refine j_if_ne E 61 74 rfl rr8_ dX10_readProduct_58 (by decide) (fun cc27_ => ?_) (fun cc27_ => ?_)
              · refine j_aload_n E 75 rfl dX10_readProduct_74 rfl (lv_at hl 1 rfl) ?_
                refine m_calli E (c_X10_readUnit l D cy q (upN (upN (upN (upN (upN (upN (upN n_0 24 x24_9) 25 x25_9) 26 x26_9) 27 x27_9) 37 x37_c10) 41 x41_c10) 42 x42_c10) (upF (upF (upF (upF f_0 30 y30_9) 31 y31_9) 32 y32_c10) 33 y33_c10)  (dl_ + 1) lo_ (el_ + 1)  (show 0 ≤ (n_0 29) ∧ (n_0 29) < 32 from by omega) (show 0 ≤ (n_0 23) ∧ (n_0 23) ≤ 400 from by omega) (show Wds_ (f_0 28) from hp2) (show 0 ≤ (dl_ + 1) ∧ (0 ≤ (x25_9) ∧ (x25_9) ≤ (x24_9) ∧ (x24_9) ≤ (n_0 23)) ∧ (0 ≤ (y31_9 ((n_0 29))) ∧ (y31_9 ((n_0 29))) ≤ (x24_9)) ∧ (0 ≤ (x26_9) ∧ (x26_9) ≤ 4) ∧ (¬ (x26_9) = 0 → (x25_9) < (x24_9)) ∧ ((x26_9) = 3 → 0 ≤ (x27_9) ∧ (x27_9) ≤ 9999) ∧ (0 ≤ lo_ ∧ lo_ ≤ (x37_c10)) ∧ (x37_c10) + (dl_ + 1) ≤ (x25_9) from by omega) (show Pz_ (y32_c10) (y33_c10) (400 * (n_0 29) + lo_) (400 * (n_0 29) + (x37_c10)) (el_ + 1) from iv10.2.2.1)) rfl mt_X10_readUnit ml_X10_272 hK hw hA ⟨Nat.le_of_ble_eq_true rfl, Nat.le_of_ble_eq_true rfl⟩ (As := []) (rest := []) rfl rfl hl.1 (Nat.le_of_ble_eq_true rfl) 78 rfl dX10_readProduct_75 (fun zz28_ n_28 f_28 H locs rr28_ hq28_ hw => ?_)
                obtain ⟨x24_28, x25_28, x26_28, x27_28, x37_28, x41_28, x42_28, y30_28, y31_28, y32_28, y33_28, en28_, ef28_, hq28_⟩ := hq28_
                rw [en28_, ef28_] at hw; clear en28_ ef28_
                have hw : WM D cy q (upN (upN (upN (upN (upN (upN (upN n_0 24 x24_28) 25 x25_28) 26 x26_28) 27 x27_28) 37 x37_28) 41 x41_28) 42 x42_28) (upF (upF (upF (upF f_0 30 y30_28) 31 y31_28) 32 y32_28) 33 y33_28) A0 H0 H locs := hw
                have rx24_28 : inR x24_28 := mRn_24 hw.1.2.2.1
                have rx25_28 : inR x25_28 := mRn_25 hw.1.2.2.1
                have rx26_28 : inR x26_28 := mRn_26 hw.1.2.2.1
                have rx27_28 : inR x27_28 := mRn_27 hw.1.2.2.1
                have rx37_28 : inR x37_28 := mRn_37 hw.1.2.2.1
                have rx41_28 : inR x41_28 := mRn_41 hw.1.2.2.1
                have rx42_28 : inR x42_28 := mRn_42 hw.1.2.2.1
                have hh28_ : (zz28_ = -1 ∧ Fr_ (y32_c10) (y33_c10) (y32_28) (y33_28) (400 * (n_0 29) + (x37_c10)) ∧ (∀ i, i ≠ (n_0 29) → (y31_28 i) = (y31_9 i)) ∧ (0 ≤ (y31_28 ((n_0 29))) ∧ (y31_28 ((n_0 29))) ≤ 400)) ∨ (zz28_ = 0 ∧ Fr_ (y32_c10) (y33_c10) (y32_28) (y33_28) (400 * (n_0 29) + (x37_c10)) ∧ (∀ i, i ≠ (n_0 29) → (y31_28 i) = (y31_9 i)) ∧ (0 ≤ (y31_28 ((n_0 29))) ∧ (y31_28 ((n_0 29))) ≤ 400) ∧ ((0 ≤ (x25_28) ∧ (x25_28) ≤ (x24_28) ∧ (x24_28) ≤ (n_0 23)) ∧ (0 ≤ (y31_28 ((n_0 29))) ∧ (y31_28 ((n_0 29))) ≤ (x24_28)) ∧ (0 ≤ (x26_28) ∧ (x26_28) ≤ 4) ∧ (¬ (x26_28) = 0 → (x25_28) < (x24_28)) ∧ ((x26_28) = 3 → 0 ≤ (x27_28) ∧ (x27_28) ≤ 9999) ∧ (0 ≤ lo_ ∧ lo_ ≤ (x37_28)) ∧ (x37_28) + (dl_ + 1) ≤ (x25_28)) ∧ (x25_9) < (x25_28) ∧ (x37_c10) ≤ (x37_28) ∧ Pz_ (y32_28) (y33_28) (400 * (n_0 29) + lo_) (400 * (n_0 29) + (x37_28)) ((el_ + 1) + 1) ∧ ((x26_9) = 3 → (x37_28) = (x37_c10) + 1 ∧ (y32_28 (400 * (n_0 29) + (x37_c10))) = 0 ∧ (y33_28 (400 * (n_0 29) + (x37_c10))) = (x27_9))) := hq28_
                clear hq28_
                rcases hh28_ with ⟨ee28_, hh28_⟩ | ⟨ee28_, hh28_⟩
                · subst ee28_
                  have hx2_ := hh28_
                  refine j_iconst E 79 rfl dX10_readProduct_78 ?_
                  refine j_icmp_ne E 82 84 rfl (rr (by decide)) (rr (by decide)) dX10_readProduct_79 (by decide) (fun cc29_ => absurd cc29_ (by decide)) (fun _ => ?_)
                  refine j_iconst E 83 rfl dX10_readProduct_82 ?_
                  exact hret 83 ((-1)) (upN (upN (upN (upN (upN (upN (upN n_0 24 x24_28) 25 x25_28) 26 x26_28) 27 x27_28) 37 x37_28) 41 x41_28) 42 x42_28) (upF (upF (upF (upF f_0 30 y30_28) 31 y31_28) 32 y32_28) 33 y33_28) _ _ ls hw (rr (by decide)) ⟨x24_28, x25_28, x26_28, x27_28, x37_28, x41_28, x42_28, y30_28, y31_28, y32_28, y33_28, rfl, rfl, Or.inl ⟨rfl, Fr_tr iv10.2.2.2.1 hx2_.1 (by omega), tk_tr iv10.2.2.2.2 (tk_tr hk_ hx2_.2.1), hx2_.2.2⟩⟩ dX10_readProduct_83
                · subst ee28_
                  have h2_ := hh28_
                  have hb2_ := (h2_.2.2.2.2.2.2.1).2
                  refine j_iconst E 79 rfl dX10_readProduct_78 ?_
                  refine j_icmp_ne E 82 84 rfl (rr (by decide)) (rr (by decide)) dX10_readProduct_79 (by decide) (fun _ => ?_) (fun cc30_ => absurd cc30_ (by decide))
                  refine j_aload_n E 85 rfl dX10_readProduct_84 rfl (lv_at hl 1 rfl) ?_
                  refine j_iload_n E 86 rfl dX10_readProduct_85 rfl (lv_at hl 0 rfl) ?_
                  refine j_if_eq E 89 93 rfl rr8_ dX10_readProduct_86 (by decide) (fun cc31_ => ?_) (fun cc31_ => ?_)
                  · refine j_bipush E 95 rfl dX10_readProduct_93 (by decide) ?_
                    refine j_iconst E 96 rfl dX10_readProduct_95 ?_
                    have h6_ : zz8_ = 0 → 400 * n_0 29 + lo_ < 400 * n_0 29 + (x37_28) ∧ (y32_28 (400 * n_0 29 + (x37_28) - 1)) = 0 ∧ ¬ (y33_28 (400 * n_0 29 + (x37_28) - 1)) = 0 := fun hs_ => by
                      have h7_ := h2_.2.2.2.2.2.2.2 (by omega)
                      rw [show 400 * n_0 29 + (x37_28) - 1 = 400 * n_0 29 + x37_c10 by omega]
                      exact ⟨by omega, h7_.2.1, by omega⟩
                    refine m_callv E (c_X10_emits l D cy q (upN (upN (upN (upN (upN (upN (upN n_0 24 x24_28) 25 x25_28) 26 x26_28) 27 x27_28) 37 x37_28) 41 x41_28) 42 x42_28) (upF (upF (upF (upF f_0 30 y30_28) 31 y31_28) 32 y32_28) 33 y33_28) 6 0  (rr (by decide)) (rr (by decide)) (show 0 ≤ (n_0 29) ∧ (n_0 29) < 32 from by omega) (show 0 ≤ (x37_28) ∧ (x37_28) ≤ 399 from by omega)) rfl mt_X10_emits ml_X10_265 hK hw hA ⟨Nat.le_of_ble_eq_true rfl, Nat.le_of_ble_eq_true rfl⟩ (As := [.int (J 6), .int (J 0)]) (rest := []) rfl rfl hl.1 (Nat.le_of_ble_eq_true rfl) 99 rfl dX10_readProduct_96 (fun n_32 f_32 H locs hq32_ hw => ?_)
                    obtain ⟨x37_32, y32_32, y33_32, en32_, ef32_, hq32_⟩ := hq32_
                    rw [en32_, ef32_] at hw; clear en32_ ef32_
                    have hw : WM D cy q (upN (upN (upN (upN (upN (upN (upN n_0 24 x24_28) 25 x25_28) 26 x26_28) 27 x27_28) 37 x37_32) 41 x41_28) 42 x42_28) (upF (upF (upF (upF f_0 30 y30_28) 31 y31_28) 32 y32_32) 33 y33_32) A0 H0 H locs := hw
                    have rx37_32 : inR x37_32 := mRn_37 hw.1.2.2.1
                    have hh32_ : (y32_32) = upA (y32_28) (400 * (n_0 29) + (x37_28)) (6 : Int) ∧ (y33_32) = upA (y33_28) (400 * (n_0 29) + (x37_28)) (0 : Int) ∧ (x37_32) = (x37_28) + 1 := hq32_
                    clear hq32_
                    have hm_ : (x37_32) = (x37_28) + 1 := hh32_.2.2
                    have hz_ : Pz_ (y32_32) (y33_32) (400 * n_0 29 + lo_) (400 * n_0 29 + (x37_32)) (el_ + 1) := by rw [hh32_.1, hh32_.2.1, show 400 * n_0 29 + (x37_32) = 400 * n_0 29 + (x37_28) + 1 by omega]; exact Pz_ext h2_.2.2.2.2.2.2.1 (by omega) (by omega) (by omega)
                    have hf_ : Fr_ (y32_28) (y33_28) (y32_32) (y33_32) (400 * n_0 29 + (x37_28)) := by rw [hh32_.1, hh32_.2.1]; exact Fr_up (by omega)
                    refine j_goto E 10 dX10_readProduct_99 (by decide) ?_
                    exact ih10  x24_28 x25_28 x26_28 x27_28 x37_32 x41_28 x42_28 y30_28 y31_28 y32_32 y33_32 H locs ls  (⟨by omega, by omega, hz_, Fr_tr iv10.2.2.2.1 (Fr_tr h2_.1 hf_ (by omega)) (by omega), tk_tr iv10.2.2.2.2 (tk_tr hk_ h2_.2.1)⟩) (by omega) hw (lv_sub hl [1] rfl)
                  · refine j_iconst E 90 rfl dX10_readProduct_89 ?_
                    refine j_goto E 95 dX10_readProduct_90 (by decide) ?_
                    refine j_iconst E 96 rfl dX10_readProduct_95 ?_
                    have h6_ : zz8_ = 0 → 400 * n_0 29 + lo_ < 400 * n_0 29 + (x37_28) ∧ (y32_28 (400 * n_0 29 + (x37_28) - 1)) = 0 ∧ ¬ (y33_28 (400 * n_0 29 + (x37_28) - 1)) = 0 := fun hs_ => by
                      have h7_ := h2_.2.2.2.2.2.2.2 (by omega)
                      rw [show 400 * n_0 29 + (x37_28) - 1 = 400 * n_0 29 + x37_c10 by omega]
                      exact ⟨by omega, h7_.2.1, by omega⟩
                    refine m_callv E (c_X10_emits l D cy q (upN (upN (upN (upN (upN (upN (upN n_0 24 x24_28) 25 x25_28) 26 x26_28) 27 x27_28) 37 x37_28) 41 x41_28) 42 x42_28) (upF (upF (upF (upF f_0 30 y30_28) 31 y31_28) 32 y32_28) 33 y33_28) 5 0  (rr (by decide)) (rr (by decide)) (show 0 ≤ (n_0 29) ∧ (n_0 29) < 32 from by omega) (show 0 ≤ (x37_28) ∧ (x37_28) ≤ 399 from by omega)) rfl mt_X10_emits ml_X10_265 hK hw hA ⟨Nat.le_of_ble_eq_true rfl, Nat.le_of_ble_eq_true rfl⟩ (As := [.int (J 5), .int (J 0)]) (rest := []) rfl rfl hl.1 (Nat.le_of_ble_eq_true rfl) 99 rfl dX10_readProduct_96 (fun n_33 f_33 H locs hq33_ hw => ?_)
                    obtain ⟨x37_33, y32_33, y33_33, en33_, ef33_, hq33_⟩ := hq33_
                    rw [en33_, ef33_] at hw; clear en33_ ef33_
                    have hw : WM D cy q (upN (upN (upN (upN (upN (upN (upN n_0 24 x24_28) 25 x25_28) 26 x26_28) 27 x27_28) 37 x37_33) 41 x41_28) 42 x42_28) (upF (upF (upF (upF f_0 30 y30_28) 31 y31_28) 32 y32_33) 33 y33_33) A0 H0 H locs := hw
                    have rx37_33 : inR x37_33 := mRn_37 hw.1.2.2.1
                    have hh33_ : (y32_33) = upA (y32_28) (400 * (n_0 29) + (x37_28)) (5 : Int) ∧ (y33_33) = upA (y33_28) (400 * (n_0 29) + (x37_28)) (0 : Int) ∧ (x37_33) = (x37_28) + 1 := hq33_
                    clear hq33_
                    have hm_ : (x37_33) = (x37_28) + 1 := hh33_.2.2
                    have hz_ : Pz_ (y32_33) (y33_33) (400 * n_0 29 + lo_) (400 * n_0 29 + (x37_33)) (el_ + 1) := by rw [hh33_.1, hh33_.2.1, show 400 * n_0 29 + (x37_33) = 400 * n_0 29 + (x37_28) + 1 by omega]; exact Pz_ext h2_.2.2.2.2.2.2.1 (by omega) (by omega) (by omega)
                    have hf_ : Fr_ (y32_28) (y33_28) (y32_33) (y33_33) (400 * n_0 29 + (x37_28)) := by rw [hh33_.1, hh33_.2.1]; exact Fr_up (by omega)
                    refine j_goto E 10 dX10_readProduct_99 (by decide) ?_
                    exact ih10  x24_28 x25_28 x26_28 x27_28 x37_33 x41_28 x42_28 y30_28 y31_28 y32_33 y33_33 H locs ls  (⟨by omega, by omega, hz_, Fr_tr iv10.2.2.2.1 (Fr_tr h2_.1 hf_ (by omega)) (by omega), tk_tr iv10.2.2.2.2 (tk_tr hk_ h2_.2.1)⟩) (by omega) hw (lv_sub hl [1] rfl)
              · refine j_aload_n E 62 rfl dX10_readProduct_61 rfl (lv_at hl 1 rfl) ?_
                refine m_get_27 E hK hw x27_9 rfl 65 rfl dX10_readProduct_62 (fun _ => ?_)
                refine j_if_ne E 68 74 rfl rx27_9 dX10_readProduct_65 (by decide) (fun cc34_ => ?_) (fun cc34_ => ?_)
                · refine j_aload_n E 75 rfl dX10_readProduct_74 rfl (lv_at hl 1 rfl) ?_
                  refine m_calli E (c_X10_readUnit l D cy q (upN (upN (upN (upN (upN (upN (upN n_0 24 x24_9) 25 x25_9) 26 x26_9) 27 x27_9) 37 x37_c10) 41 x41_c10) 42 x42_c10) (upF (upF (upF (upF f_0 30 y30_9) 31 y31_9) 32 y32_c10) 33 y33_c10)  (dl_ + 1) lo_ (el_ + 1)  (show 0 ≤ (n_0 29) ∧ (n_0 29) < 32 from by omega) (show 0 ≤ (n_0 23) ∧ (n_0 23) ≤ 400 from by omega) (show Wds_ (f_0 28) from hp2) (show 0 ≤ (dl_ + 1) ∧ (0 ≤ (x25_9) ∧ (x25_9) ≤ (x24_9) ∧ (x24_9) ≤ (n_0 23)) ∧ (0 ≤ (y31_9 ((n_0 29))) ∧ (y31_9 ((n_0 29))) ≤ (x24_9)) ∧ (0 ≤ (x26_9) ∧ (x26_9) ≤ 4) ∧ (¬ (x26_9) = 0 → (x25_9) < (x24_9)) ∧ ((x26_9) = 3 → 0 ≤ (x27_9) ∧ (x27_9) ≤ 9999) ∧ (0 ≤ lo_ ∧ lo_ ≤ (x37_c10)) ∧ (x37_c10) + (dl_ + 1) ≤ (x25_9) from by omega) (show Pz_ (y32_c10) (y33_c10) (400 * (n_0 29) + lo_) (400 * (n_0 29) + (x37_c10)) (el_ + 1) from iv10.2.2.1)) rfl mt_X10_readUnit ml_X10_272 hK hw hA ⟨Nat.le_of_ble_eq_true rfl, Nat.le_of_ble_eq_true rfl⟩ (As := []) (rest := []) rfl rfl hl.1 (Nat.le_of_ble_eq_true rfl) 78 rfl dX10_readProduct_75 (fun zz35_ n_35 f_35 H locs rr35_ hq35_ hw => ?_)
                  obtain ⟨x24_35, x25_35, x26_35, x27_35, x37_35, x41_35, x42_35, y30_35, y31_35, y32_35, y33_35, en35_, ef35_, hq35_⟩ := hq35_
                  rw [en35_, ef35_] at hw; clear en35_ ef35_
                  have hw : WM D cy q (upN (upN (upN (upN (upN (upN (upN n_0 24 x24_35) 25 x25_35) 26 x26_35) 27 x27_35) 37 x37_35) 41 x41_35) 42 x42_35) (upF (upF (upF (upF f_0 30 y30_35) 31 y31_35) 32 y32_35) 33 y33_35) A0 H0 H locs := hw
                  have rx24_35 : inR x24_35 := mRn_24 hw.1.2.2.1
                  have rx25_35 : inR x25_35 := mRn_25 hw.1.2.2.1
                  have rx26_35 : inR x26_35 := mRn_26 hw.1.2.2.1
                  have rx27_35 : inR x27_35 := mRn_27 hw.1.2.2.1
                  have rx37_35 : inR x37_35 := mRn_37 hw.1.2.2.1
                  have rx41_35 : inR x41_35 := mRn_41 hw.1.2.2.1
                  have rx42_35 : inR x42_35 := mRn_42 hw.1.2.2.1
                  have hh35_ : (zz35_ = -1 ∧ Fr_ (y32_c10) (y33_c10) (y32_35) (y33_35) (400 * (n_0 29) + (x37_c10)) ∧ (∀ i, i ≠ (n_0 29) → (y31_35 i) = (y31_9 i)) ∧ (0 ≤ (y31_35 ((n_0 29))) ∧ (y31_35 ((n_0 29))) ≤ 400)) ∨ (zz35_ = 0 ∧ Fr_ (y32_c10) (y33_c10) (y32_35) (y33_35) (400 * (n_0 29) + (x37_c10)) ∧ (∀ i, i ≠ (n_0 29) → (y31_35 i) = (y31_9 i)) ∧ (0 ≤ (y31_35 ((n_0 29))) ∧ (y31_35 ((n_0 29))) ≤ 400) ∧ ((0 ≤ (x25_35) ∧ (x25_35) ≤ (x24_35) ∧ (x24_35) ≤ (n_0 23)) ∧ (0 ≤ (y31_35 ((n_0 29))) ∧ (y31_35 ((n_0 29))) ≤ (x24_35)) ∧ (0 ≤ (x26_35) ∧ (x26_35) ≤ 4) ∧ (¬ (x26_35) = 0 → (x25_35) < (x24_35)) ∧ ((x26_35) = 3 → 0 ≤ (x27_35) ∧ (x27_35) ≤ 9999) ∧ (0 ≤ lo_ ∧ lo_ ≤ (x37_35)) ∧ (x37_35) + (dl_ + 1) ≤ (x25_35)) ∧ (x25_9) < (x25_35) ∧ (x37_c10) ≤ (x37_35) ∧ Pz_ (y32_35) (y33_35) (400 * (n_0 29) + lo_) (400 * (n_0 29) + (x37_35)) ((el_ + 1) + 1) ∧ ((x26_9) = 3 → (x37_35) = (x37_c10) + 1 ∧ (y32_35 (400 * (n_0 29) + (x37_c10))) = 0 ∧ (y33_35 (400 * (n_0 29) + (x37_c10))) = (x27_9))) := hq35_
                  clear hq35_
                  rcases hh35_ with ⟨ee35_, hh35_⟩ | ⟨ee35_, hh35_⟩
                  · subst ee35_
                    have hx2_ := hh35_
                    refine j_iconst E 79 rfl dX10_readProduct_78 ?_
                    refine j_icmp_ne E 82 84 rfl (rr (by decide)) (rr (by decide)) dX10_readProduct_79 (by decide) (fun cc36_ => absurd cc36_ (by decide)) (fun _ => ?_)
                    refine j_iconst E 83 rfl dX10_readProduct_82 ?_
                    exact hret 83 ((-1)) (upN (upN (upN (upN (upN (upN (upN n_0 24 x24_35) 25 x25_35) 26 x26_35) 27 x27_35) 37 x37_35) 41 x41_35) 42 x42_35) (upF (upF (upF (upF f_0 30 y30_35) 31 y31_35) 32 y32_35) 33 y33_35) _ _ ls hw (rr (by decide)) ⟨x24_35, x25_35, x26_35, x27_35, x37_35, x41_35, x42_35, y30_35, y31_35, y32_35, y33_35, rfl, rfl, Or.inl ⟨rfl, Fr_tr iv10.2.2.2.1 hx2_.1 (by omega), tk_tr iv10.2.2.2.2 (tk_tr hk_ hx2_.2.1), hx2_.2.2⟩⟩ dX10_readProduct_83
                  · subst ee35_
                    have h2_ := hh35_
                    have hb2_ := (h2_.2.2.2.2.2.2.1).2
                    refine j_iconst E 79 rfl dX10_readProduct_78 ?_
                    refine j_icmp_ne E 82 84 rfl (rr (by decide)) (rr (by decide)) dX10_readProduct_79 (by decide) (fun _ => ?_) (fun cc37_ => absurd cc37_ (by decide))
                    refine j_aload_n E 85 rfl dX10_readProduct_84 rfl (lv_at hl 1 rfl) ?_
                    refine j_iload_n E 86 rfl dX10_readProduct_85 rfl (lv_at hl 0 rfl) ?_
                    refine j_if_eq E 89 93 rfl rr8_ dX10_readProduct_86 (by decide) (fun cc38_ => ?_) (fun cc38_ => ?_)
                    · refine j_bipush E 95 rfl dX10_readProduct_93 (by decide) ?_
                      refine j_iconst E 96 rfl dX10_readProduct_95 ?_
                      have h6_ : zz8_ = 0 → 400 * n_0 29 + lo_ < 400 * n_0 29 + (x37_35) ∧ (y32_35 (400 * n_0 29 + (x37_35) - 1)) = 0 ∧ ¬ (y33_35 (400 * n_0 29 + (x37_35) - 1)) = 0 := fun hs_ => by
                        have h7_ := h2_.2.2.2.2.2.2.2 (by omega)
                        rw [show 400 * n_0 29 + (x37_35) - 1 = 400 * n_0 29 + x37_c10 by omega]
                        exact ⟨by omega, h7_.2.1, by omega⟩
                      refine m_callv E (c_X10_emits l D cy q (upN (upN (upN (upN (upN (upN (upN n_0 24 x24_35) 25 x25_35) 26 x26_35) 27 x27_35) 37 x37_35) 41 x41_35) 42 x42_35) (upF (upF (upF (upF f_0 30 y30_35) 31 y31_35) 32 y32_35) 33 y33_35) 6 0  (rr (by decide)) (rr (by decide)) (show 0 ≤ (n_0 29) ∧ (n_0 29) < 32 from by omega) (show 0 ≤ (x37_35) ∧ (x37_35) ≤ 399 from by omega)) rfl mt_X10_emits ml_X10_265 hK hw hA ⟨Nat.le_of_ble_eq_true rfl, Nat.le_of_ble_eq_true rfl⟩ (As := [.int (J 6), .int (J 0)]) (rest := []) rfl rfl hl.1 (Nat.le_of_ble_eq_true rfl) 99 rfl dX10_readProduct_96 (fun n_39 f_39 H locs hq39_ hw => ?_)
                      obtain ⟨x37_39, y32_39, y33_39, en39_, ef39_, hq39_⟩ := hq39_
                      rw [en39_, ef39_] at hw; clear en39_ ef39_
                      have hw : WM D cy q (upN (upN (upN (upN (upN (upN (upN n_0 24 x24_35) 25 x25_35) 26 x26_35) 27 x27_35) 37 x37_39) 41 x41_35) 42 x42_35) (upF (upF (upF (upF f_0 30 y30_35) 31 y31_35) 32 y32_39) 33 y33_39) A0 H0 H locs := hw
                      have rx37_39 : inR x37_39 := mRn_37 hw.1.2.2.1
                      have hh39_ : (y32_39) = upA (y32_35) (400 * (n_0 29) + (x37_35)) (6 : Int) ∧ (y33_39) = upA (y33_35) (400 * (n_0 29) + (x37_35)) (0 : Int) ∧ (x37_39) = (x37_35) + 1 := hq39_
                      clear hq39_
                      have hm_ : (x37_39) = (x37_35) + 1 := hh39_.2.2
                      have hz_ : Pz_ (y32_39) (y33_39) (400 * n_0 29 + lo_) (400 * n_0 29 + (x37_39)) (el_ + 1) := by rw [hh39_.1, hh39_.2.1, show 400 * n_0 29 + (x37_39) = 400 * n_0 29 + (x37_35) + 1 by omega]; exact Pz_ext h2_.2.2.2.2.2.2.1 (by omega) (by omega) (by omega)
                      have hf_ : Fr_ (y32_35) (y33_35) (y32_39) (y33_39) (400 * n_0 29 + (x37_35)) := by rw [hh39_.1, hh39_.2.1]; exact Fr_up (by omega)
                      refine j_goto E 10 dX10_readProduct_99 (by decide) ?_
                      exact ih10  x24_35 x25_35 x26_35 x27_35 x37_39 x41_35 x42_35 y30_35 y31_35 y32_39 y33_39 H locs ls  (⟨by omega, by omega, hz_, Fr_tr iv10.2.2.2.1 (Fr_tr h2_.1 hf_ (by omega)) (by omega), tk_tr iv10.2.2.2.2 (tk_tr hk_ h2_.2.1)⟩) (by omega) hw (lv_sub hl [1] rfl)
                    · refine j_iconst E 90 rfl dX10_readProduct_89 ?_
                      refine j_goto E 95 dX10_readProduct_90 (by decide) ?_
                      refine j_iconst E 96 rfl dX10_readProduct_95 ?_
                      have h6_ : zz8_ = 0 → 400 * n_0 29 + lo_ < 400 * n_0 29 + (x37_35) ∧ (y32_35 (400 * n_0 29 + (x37_35) - 1)) = 0 ∧ ¬ (y33_35 (400 * n_0 29 + (x37_35) - 1)) = 0 := fun hs_ => by
                        have h7_ := h2_.2.2.2.2.2.2.2 (by omega)
                        rw [show 400 * n_0 29 + (x37_35) - 1 = 400 * n_0 29 + x37_c10 by omega]
                        exact ⟨by omega, h7_.2.1, by omega⟩
                      refine m_callv E (c_X10_emits l D cy q (upN (upN (upN (upN (upN (upN (upN n_0 24 x24_35) 25 x25_35) 26 x26_35) 27 x27_35) 37 x37_35) 41 x41_35) 42 x42_35) (upF (upF (upF (upF f_0 30 y30_35) 31 y31_35) 32 y32_35) 33 y33_35) 5 0  (rr (by decide)) (rr (by decide)) (show 0 ≤ (n_0 29) ∧ (n_0 29) < 32 from by omega) (show 0 ≤ (x37_35) ∧ (x37_35) ≤ 399 from by omega)) rfl mt_X10_emits ml_X10_265 hK hw hA ⟨Nat.le_of_ble_eq_true rfl, Nat.le_of_ble_eq_true rfl⟩ (As := [.int (J 5), .int (J 0)]) (rest := []) rfl rfl hl.1 (Nat.le_of_ble_eq_true rfl) 99 rfl dX10_readProduct_96 (fun n_40 f_40 H locs hq40_ hw => ?_)
                      obtain ⟨x37_40, y32_40, y33_40, en40_, ef40_, hq40_⟩ := hq40_
                      rw [en40_, ef40_] at hw; clear en40_ ef40_
                      have hw : WM D cy q (upN (upN (upN (upN (upN (upN (upN n_0 24 x24_35) 25 x25_35) 26 x26_35) 27 x27_35) 37 x37_40) 41 x41_35) 42 x42_35) (upF (upF (upF (upF f_0 30 y30_35) 31 y31_35) 32 y32_40) 33 y33_40) A0 H0 H locs := hw
                      have rx37_40 : inR x37_40 := mRn_37 hw.1.2.2.1
                      have hh40_ : (y32_40) = upA (y32_35) (400 * (n_0 29) + (x37_35)) (5 : Int) ∧ (y33_40) = upA (y33_35) (400 * (n_0 29) + (x37_35)) (0 : Int) ∧ (x37_40) = (x37_35) + 1 := hq40_
                      clear hq40_
                      have hm_ : (x37_40) = (x37_35) + 1 := hh40_.2.2
                      have hz_ : Pz_ (y32_40) (y33_40) (400 * n_0 29 + lo_) (400 * n_0 29 + (x37_40)) (el_ + 1) := by rw [hh40_.1, hh40_.2.1, show 400 * n_0 29 + (x37_40) = 400 * n_0 29 + (x37_35) + 1 by omega]; exact Pz_ext h2_.2.2.2.2.2.2.1 (by omega) (by omega) (by omega)
                      have hf_ : Fr_ (y32_35) (y33_35) (y32_40) (y33_40) (400 * n_0 29 + (x37_35)) := by rw [hh40_.1, hh40_.2.1]; exact Fr_up (by omega)
                      refine j_goto E 10 dX10_readProduct_99 (by decide) ?_
                      exact ih10  x24_35 x25_35 x26_35 x27_35 x37_40 x41_35 x42_35 y30_35 y31_35 y32_40 y33_40 H locs ls  (⟨by omega, by omega, hz_, Fr_tr iv10.2.2.2.1 (Fr_tr h2_.1 hf_ (by omega)) (by omega), tk_tr iv10.2.2.2.2 (tk_tr hk_ h2_.2.1)⟩) (by omega) hw (lv_sub hl [1] rfl)
                · refine j_aload_n E 69 rfl dX10_readProduct_68 rfl (lv_at hl 1 rfl) ?_
                  refine j_iconst E 70 rfl dX10_readProduct_69 ?_
                  refine m_calli E (c_X10_fails l D cy q (upN (upN (upN (upN (upN (upN (upN n_0 24 x24_9) 25 x25_9) 26 x26_9) 27 x27_9) 37 x37_c10) 41 x41_c10) 42 x42_c10) (upF (upF (upF (upF f_0 30 y30_9) 31 y31_9) 32 y32_c10) 33 y33_c10) 2  (rr (by decide)) ) rfl mt_X10_fails ml_X10_262 hK hw hA ⟨Nat.le_of_ble_eq_true rfl, Nat.le_of_ble_eq_true rfl⟩ (As := [.int (J 2)]) (rest := []) rfl rfl hl.1 (Nat.le_of_ble_eq_true rfl) 73 rfl dX10_readProduct_70 (fun zz41_ n_41 f_41 H locs rr41_ hq41_ hw => ?_)
                  obtain ⟨x41_41, x42_41, en41_, ef41_, hq41_⟩ := hq41_
                  rw [en41_, ef41_] at hw; clear en41_ ef41_
                  have hw : WM D cy q (upN (upN (upN (upN (upN (upN (upN n_0 24 x24_9) 25 x25_9) 26 x26_9) 27 x27_9) 37 x37_c10) 41 x41_41) 42 x42_41) (upF (upF (upF (upF f_0 30 y30_9) 31 y31_9) 32 y32_c10) 33 y33_c10) A0 H0 H locs := hw
                  have rx41_41 : inR x41_41 := mRn_41 hw.1.2.2.1
                  have rx42_41 : inR x42_41 := mRn_42 hw.1.2.2.1
                  have hh41_ : zz41_ = -1 := hq41_
                  clear hq41_
                  exact hret 73 zz41_ (upN (upN (upN (upN (upN (upN (upN n_0 24 x24_9) 25 x25_9) 26 x26_9) 27 x27_9) 37 x37_c10) 41 x41_41) 42 x42_41) (upF (upF (upF (upF f_0 30 y30_9) 31 y31_9) 32 y32_c10) 33 y33_c10) _ _ ls hw rr41_ ⟨x24_9, x25_9, x26_9, x27_9, x37_c10, x41_41, x42_41, y30_9, y31_9, y32_c10, y33_c10, rfl, rfl, Or.inl ⟨by omega, iv10.2.2.2.1, tk_tr iv10.2.2.2.2 hk_, by omega⟩⟩ dX10_readProduct_73
            · refine j_aload_n E 52 rfl dX10_readProduct_51 rfl (lv_at hl 1 rfl) ?_
              refine j_iconst E 53 rfl dX10_readProduct_52 ?_
              refine m_calli E (c_X10_fails l D cy q (upN (upN (upN (upN (upN (upN (upN n_0 24 x24_9) 25 x25_9) 26 x26_9) 27 x27_9) 37 x37_c10) 41 x41_c10) 42 x42_c10) (upF (upF (upF (upF f_0 30 y30_9) 31 y31_9) 32 y32_c10) 33 y33_c10) 1  (rr (by decide)) ) rfl mt_X10_fails ml_X10_262 hK hw hA ⟨Nat.le_of_ble_eq_true rfl, Nat.le_of_ble_eq_true rfl⟩ (As := [.int (J 1)]) (rest := []) rfl rfl hl.1 (Nat.le_of_ble_eq_true rfl) 56 rfl dX10_readProduct_53 (fun zz42_ n_42 f_42 H locs rr42_ hq42_ hw => ?_)
              obtain ⟨x41_42, x42_42, en42_, ef42_, hq42_⟩ := hq42_
              rw [en42_, ef42_] at hw; clear en42_ ef42_
              have hw : WM D cy q (upN (upN (upN (upN (upN (upN (upN n_0 24 x24_9) 25 x25_9) 26 x26_9) 27 x27_9) 37 x37_c10) 41 x41_42) 42 x42_42) (upF (upF (upF (upF f_0 30 y30_9) 31 y31_9) 32 y32_c10) 33 y33_c10) A0 H0 H locs := hw
              have rx41_42 : inR x41_42 := mRn_41 hw.1.2.2.1
              have rx42_42 : inR x42_42 := mRn_42 hw.1.2.2.1
              have hh42_ : zz42_ = -1 := hq42_
              clear hq42_
              exact hret 56 zz42_ (upN (upN (upN (upN (upN (upN (upN n_0 24 x24_9) 25 x25_9) 26 x26_9) 27 x27_9) 37 x37_c10) 41 x41_42) 42 x42_42) (upF (upF (upF (upF f_0 30 y30_9) 31 y31_9) 32 y32_c10) 33 y33_c10) _ _ ls hw rr42_ ⟨x24_9, x25_9, x26_9, x27_9, x37_c10, x41_42, x42_42, y30_9, y31_9, y32_c10, y33_c10, rfl, rfl, Or.inl ⟨by omega, iv10.2.2.2.1, tk_tr iv10.2.2.2.2 hk_, by omega⟩⟩ dX10_readProduct_56
        · subst ee6_
          refine j_if_ne E 19 28 rfl (rr (by decide)) dX10_readProduct_16 (by decide) (fun cc43_ => absurd cc43_ (by decide)) (fun _ => ?_)
          refine j_aload_n E 20 rfl dX10_readProduct_19 rfl (lv_at hl 0 rfl) ?_
          refine j_bipush E 22 rfl dX10_readProduct_20 (by decide) ?_
          refine m_callp (po := fun z_0 => (z_0 = 1 ∧ (x26_c10) = 4 ∧ (x27_c10) = (47 : Int)) ∨ (z_0 = 0 ∧ ¬ ((x26_c10) = 4 ∧ (x27_c10) = (47 : Int)))) E (c_X10_isSign l D cy q (upN (upN (upN (upN (upN (upN (upN n_0 24 x24_c10) 25 x25_c10) 26 x26_c10) 27 x27_c10) 37 x37_c10) 41 x41_c10) 42 x42_c10) (upF (upF (upF (upF f_0 30 y30_c10) 31 y31_c10) 32 y32_c10) 33 y33_c10) 47  (rr (by decide)) ) rfl mt_X10_isSign ml_X10_276 hK hw hA ⟨Nat.le_of_ble_eq_true rfl, Nat.le_of_ble_eq_true rfl⟩ (As := [.int (J 47)]) (rest := []) rfl rfl hl.1 (Nat.le_of_ble_eq_true rfl) 25 rfl dX10_readProduct_22 (fun zz44_ H locs rr44_ hq44_ hw => ?_)
          have hh44_ : (zz44_ = 1 ∧ (x26_c10) = 4 ∧ (x27_c10) = (47 : Int)) ∨ (zz44_ = 0 ∧ ¬ ((x26_c10) = 4 ∧ (x27_c10) = (47 : Int))) := hq44_
          clear hq44_
          rcases hh44_ with ⟨ee44_, hh44_⟩ | ⟨ee44_, hh44_⟩
          · subst ee44_
            refine j_if_eq E 28 102 rfl (rr (by decide)) dX10_readProduct_25 (by decide) (fun cc45_ => absurd cc45_ (by decide)) (fun _ => ?_)
            refine j_aload_n E 29 rfl dX10_readProduct_28 rfl (lv_at hl 0 rfl) ?_
            refine j_bipush E 31 rfl dX10_readProduct_29 (by decide) ?_
            refine m_callp (po := fun z_0 => (z_0 = 1 ∧ (x26_c10) = 4 ∧ (x27_c10) = (42 : Int)) ∨ (z_0 = 0 ∧ ¬ ((x26_c10) = 4 ∧ (x27_c10) = (42 : Int)))) E (c_X10_isSign l D cy q (upN (upN (upN (upN (upN (upN (upN n_0 24 x24_c10) 25 x25_c10) 26 x26_c10) 27 x27_c10) 37 x37_c10) 41 x41_c10) 42 x42_c10) (upF (upF (upF (upF f_0 30 y30_c10) 31 y31_c10) 32 y32_c10) 33 y33_c10) 42  (rr (by decide)) ) rfl mt_X10_isSign ml_X10_276 hK hw hA ⟨Nat.le_of_ble_eq_true rfl, Nat.le_of_ble_eq_true rfl⟩ (As := [.int (J 42)]) (rest := []) rfl rfl hl.1 (Nat.le_of_ble_eq_true rfl) 34 rfl dX10_readProduct_31 (fun zz46_ H locs rr46_ hq46_ hw => ?_)
            have hh46_ : (zz46_ = 1 ∧ (x26_c10) = 4 ∧ (x27_c10) = (42 : Int)) ∨ (zz46_ = 0 ∧ ¬ ((x26_c10) = 4 ∧ (x27_c10) = (42 : Int))) := hq46_
            clear hq46_
            refine j_istore_n E 35 rfl [(1, .int (J zz46_)), (0, .ref (q 0))] dX10_readProduct_34 rfl hl (by decide) rfl (fun ls hl => ?_)
            refine j_aload_n E 36 rfl dX10_readProduct_35 rfl (lv_at hl 1 rfl) ?_
            refine m_callv E (c_X10_next l D cy q (upN (upN (upN (upN (upN (upN (upN n_0 24 x24_c10) 25 x25_c10) 26 x26_c10) 27 x27_c10) 37 x37_c10) 41 x41_c10) 42 x42_c10) (upF (upF (upF (upF f_0 30 y30_c10) 31 y31_c10) 32 y32_c10) 33 y33_c10)    (show 0 ≤ (n_0 29) ∧ (n_0 29) < 32 from by omega) (show 0 ≤ (n_0 23) ∧ (n_0 23) ≤ 400 from by omega) (show Wds_ (f_0 28) from hp2) (show 0 ≤ (x24_c10) ∧ (x24_c10) ≤ (n_0 23) from by omega) (show 0 ≤ (y31_c10 ((n_0 29))) ∧ (y31_c10 ((n_0 29))) ≤ (x24_c10) from by omega)) rfl mt_X10_next ml_X10_269 hK hw hA ⟨Nat.le_of_ble_eq_true rfl, Nat.le_of_ble_eq_true rfl⟩ (As := []) (rest := []) rfl rfl hl.1 (Nat.le_of_ble_eq_true rfl) 39 rfl dX10_readProduct_36 (fun n_47 f_47 H locs hq47_ hw => ?_)
            obtain ⟨x24_47, x25_47, x26_47, x27_47, y30_47, y31_47, en47_, ef47_, hq47_⟩ := hq47_
            rw [en47_, ef47_] at hw; clear en47_ ef47_
            have hw : WM D cy q (upN (upN (upN (upN (upN (upN (upN n_0 24 x24_47) 25 x25_47) 26 x26_47) 27 x27_47) 37 x37_c10) 41 x41_c10) 42 x42_c10) (upF (upF (upF (upF f_0 30 y30_47) 31 y31_47) 32 y32_c10) 33 y33_c10) A0 H0 H locs := hw
            have rx24_47 : inR x24_47 := mRn_24 hw.1.2.2.1
            have rx25_47 : inR x25_47 := mRn_25 hw.1.2.2.1
            have rx26_47 : inR x26_47 := mRn_26 hw.1.2.2.1
            have rx27_47 : inR x27_47 := mRn_27 hw.1.2.2.1
            have hh47_ : (0 ≤ (x25_47) ∧ (x25_47) ≤ (x24_47) ∧ (x24_47) ≤ (n_0 23)) ∧ (0 ≤ (y31_47 ((n_0 29))) ∧ (y31_47 ((n_0 29))) ≤ (x24_47)) ∧ (0 ≤ (x26_47) ∧ (x26_47) ≤ 4) ∧ (¬ (x26_47) = 0 → (x25_47) < (x24_47)) ∧ ((x26_47) = 3 → 0 ≤ (x27_47) ∧ (x27_47) ≤ 9999) ∧ (x24_c10) ≤ (x25_47) ∧ (∀ i, i ≠ (n_0 29) → (y31_47 i) = (y31_c10 i)) := hq47_
            clear hq47_
            have hk_ := hh47_.2.2.2.2.2.2
            refine j_iload_n E 40 rfl dX10_readProduct_39 rfl (lv_at hl 0 rfl) ?_
            refine j_if_ne E 43 57 rfl rr46_ dX10_readProduct_40 (by decide) (fun cc48_ => ?_) (fun cc48_ => ?_)
            · refine j_iload_n E 58 rfl dX10_readProduct_57 rfl (lv_at hl 0 rfl) ?_
              refine j_if_ne E 61 74 rfl rr46_ dX10_readProduct_58 (by decide) (fun cc49_ => ?_) (fun cc49_ => ?_)
              · refine j_aload_n E 75 rfl dX10_readProduct_74 rfl (lv_at hl 1 rfl) ?_
                refine m_calli E (c_X10_readUnit l D cy q (upN (upN (upN (upN (upN (upN (upN n_0 24 x24_47) 25 x25_47) 26 x26_47) 27 x27_47) 37 x37_c10) 41 x41_c10) 42 x42_c10) (upF (upF (upF (upF f_0 30 y30_47) 31 y31_47) 32 y32_c10) 33 y33_c10)  (dl_ + 1) lo_ (el_ + 1)  (show 0 ≤ (n_0 29) ∧ (n_0 29) < 32 from by omega) (show 0 ≤ (n_0 23) ∧ (n_0 23) ≤ 400 from by omega) (show Wds_ (f_0 28) from hp2) (show 0 ≤ (dl_ + 1) ∧ (0 ≤ (x25_47) ∧ (x25_47) ≤ (x24_47) ∧ (x24_47) ≤ (n_0 23)) ∧ (0 ≤ (y31_47 ((n_0 29))) ∧ (y31_47 ((n_0 29))) ≤ (x24_47)) ∧ (0 ≤ (x26_47) ∧ (x26_47) ≤ 4) ∧ (¬ (x26_47) = 0 → (x25_47) < (x24_47)) ∧ ((x26_47) = 3 → 0 ≤ (x27_47) ∧ (x27_47) ≤ 9999) ∧ (0 ≤ lo_ ∧ lo_ ≤ (x37_c10)) ∧ (x37_c10) + (dl_ + 1) ≤ (x25_47) from by omega) (show Pz_ (y32_c10) (y33_c10) (400 * (n_0 29) + lo_) (400 * (n_0 29) + (x37_c10)) (el_ + 1) from iv10.2.2.1)) rfl mt_X10_readUnit ml_X10_272 hK hw hA ⟨Nat.le_of_ble_eq_true rfl, Nat.le_of_ble_eq_true rfl⟩ (As := []) (rest := []) rfl rfl hl.1 (Nat.le_of_ble_eq_true rfl) 78 rfl dX10_readProduct_75 (fun zz50_ n_50 f_50 H locs rr50_ hq50_ hw => ?_)
                obtain ⟨x24_50, x25_50, x26_50, x27_50, x37_50, x41_50, x42_50, y30_50, y31_50, y32_50, y33_50, en50_, ef50_, hq50_⟩ := hq50_
                rw [en50_, ef50_] at hw; clear en50_ ef50_
                have hw : WM D cy q (upN (upN (upN (upN (upN (upN (upN n_0 24 x24_50) 25 x25_50) 26 x26_50) 27 x27_50) 37 x37_50) 41 x41_50) 42 x42_50) (upF (upF (upF (upF f_0 30 y30_50) 31 y31_50) 32 y32_50) 33 y33_50) A0 H0 H locs := hw
                have rx24_50 : inR x24_50 := mRn_24 hw.1.2.2.1
                have rx25_50 : inR x25_50 := mRn_25 hw.1.2.2.1
                have rx26_50 : inR x26_50 := mRn_26 hw.1.2.2.1
                have rx27_50 : inR x27_50 := mRn_27 hw.1.2.2.1
                have rx37_50 : inR x37_50 := mRn_37 hw.1.2.2.1
                have rx41_50 : inR x41_50 := mRn_41 hw.1.2.2.1
                have rx42_50 : inR x42_50 := mRn_42 hw.1.2.2.1
                have hh50_ : (zz50_ = -1 ∧ Fr_ (y32_c10) (y33_c10) (y32_50) (y33_50) (400 * (n_0 29) + (x37_c10)) ∧ (∀ i, i ≠ (n_0 29) → (y31_50 i) = (y31_47 i)) ∧ (0 ≤ (y31_50 ((n_0 29))) ∧ (y31_50 ((n_0 29))) ≤ 400)) ∨ (zz50_ = 0 ∧ Fr_ (y32_c10) (y33_c10) (y32_50) (y33_50) (400 * (n_0 29) + (x37_c10)) ∧ (∀ i, i ≠ (n_0 29) → (y31_50 i) = (y31_47 i)) ∧ (0 ≤ (y31_50 ((n_0 29))) ∧ (y31_50 ((n_0 29))) ≤ 400) ∧ ((0 ≤ (x25_50) ∧ (x25_50) ≤ (x24_50) ∧ (x24_50) ≤ (n_0 23)) ∧ (0 ≤ (y31_50 ((n_0 29))) ∧ (y31_50 ((n_0 29))) ≤ (x24_50)) ∧ (0 ≤ (x26_50) ∧ (x26_50) ≤ 4) ∧ (¬ (x26_50) = 0 → (x25_50) < (x24_50)) ∧ ((x26_50) = 3 → 0 ≤ (x27_50) ∧ (x27_50) ≤ 9999) ∧ (0 ≤ lo_ ∧ lo_ ≤ (x37_50)) ∧ (x37_50) + (dl_ + 1) ≤ (x25_50)) ∧ (x25_47) < (x25_50) ∧ (x37_c10) ≤ (x37_50) ∧ Pz_ (y32_50) (y33_50) (400 * (n_0 29) + lo_) (400 * (n_0 29) + (x37_50)) ((el_ + 1) + 1) ∧ ((x26_47) = 3 → (x37_50) = (x37_c10) + 1 ∧ (y32_50 (400 * (n_0 29) + (x37_c10))) = 0 ∧ (y33_50 (400 * (n_0 29) + (x37_c10))) = (x27_47))) := hq50_
                clear hq50_
                rcases hh50_ with ⟨ee50_, hh50_⟩ | ⟨ee50_, hh50_⟩
                · subst ee50_
                  have hx2_ := hh50_
                  refine j_iconst E 79 rfl dX10_readProduct_78 ?_
                  refine j_icmp_ne E 82 84 rfl (rr (by decide)) (rr (by decide)) dX10_readProduct_79 (by decide) (fun cc51_ => absurd cc51_ (by decide)) (fun _ => ?_)
                  refine j_iconst E 83 rfl dX10_readProduct_82 ?_
                  exact hret 83 ((-1)) (upN (upN (upN (upN (upN (upN (upN n_0 24 x24_50) 25 x25_50) 26 x26_50) 27 x27_50) 37 x37_50) 41 x41_50) 42 x42_50) (upF (upF (upF (upF f_0 30 y30_50) 31 y31_50) 32 y32_50) 33 y33_50) _ _ ls hw (rr (by decide)) ⟨x24_50, x25_50, x26_50, x27_50, x37_50, x41_50, x42_50, y30_50, y31_50, y32_50, y33_50, rfl, rfl, Or.inl ⟨rfl, Fr_tr iv10.2.2.2.1 hx2_.1 (by omega), tk_tr iv10.2.2.2.2 (tk_tr hk_ hx2_.2.1), hx2_.2.2⟩⟩ dX10_readProduct_83
                · subst ee50_
                  have h2_ := hh50_
                  have hb2_ := (h2_.2.2.2.2.2.2.1).2
                  refine j_iconst E 79 rfl dX10_readProduct_78 ?_
                  refine j_icmp_ne E 82 84 rfl (rr (by decide)) (rr (by decide)) dX10_readProduct_79 (by decide) (fun _ => ?_) (fun cc52_ => absurd cc52_ (by decide))
                  refine j_aload_n E 85 rfl dX10_readProduct_84 rfl (lv_at hl 1 rfl) ?_
                  refine j_iload_n E 86 rfl dX10_readProduct_85 rfl (lv_at hl 0 rfl) ?_
                  refine j_if_eq E 89 93 rfl rr46_ dX10_readProduct_86 (by decide) (fun cc53_ => ?_) (fun cc53_ => ?_)
                  · refine j_bipush E 95 rfl dX10_readProduct_93 (by decide) ?_
                    refine j_iconst E 96 rfl dX10_readProduct_95 ?_
                    have h6_ : zz46_ = 0 → 400 * n_0 29 + lo_ < 400 * n_0 29 + (x37_50) ∧ (y32_50 (400 * n_0 29 + (x37_50) - 1)) = 0 ∧ ¬ (y33_50 (400 * n_0 29 + (x37_50) - 1)) = 0 := fun hs_ => by
                      have h7_ := h2_.2.2.2.2.2.2.2 (by omega)
                      rw [show 400 * n_0 29 + (x37_50) - 1 = 400 * n_0 29 + x37_c10 by omega]
                      exact ⟨by omega, h7_.2.1, by omega⟩
                    refine m_callv E (c_X10_emits l D cy q (upN (upN (upN (upN (upN (upN (upN n_0 24 x24_50) 25 x25_50) 26 x26_50) 27 x27_50) 37 x37_50) 41 x41_50) 42 x42_50) (upF (upF (upF (upF f_0 30 y30_50) 31 y31_50) 32 y32_50) 33 y33_50) 6 0  (rr (by decide)) (rr (by decide)) (show 0 ≤ (n_0 29) ∧ (n_0 29) < 32 from by omega) (show 0 ≤ (x37_50) ∧ (x37_50) ≤ 399 from by omega)) rfl mt_X10_emits ml_X10_265 hK hw hA ⟨Nat.le_of_ble_eq_true rfl, Nat.le_of_ble_eq_true rfl⟩ (As := [.int (J 6), .int (J 0)]) (rest := []) rfl rfl hl.1 (Nat.le_of_ble_eq_true rfl) 99 rfl dX10_readProduct_96 (fun n_54 f_54 H locs hq54_ hw => ?_)
                    obtain ⟨x37_54, y32_54, y33_54, en54_, ef54_, hq54_⟩ := hq54_
                    rw [en54_, ef54_] at hw; clear en54_ ef54_
                    have hw : WM D cy q (upN (upN (upN (upN (upN (upN (upN n_0 24 x24_50) 25 x25_50) 26 x26_50) 27 x27_50) 37 x37_54) 41 x41_50) 42 x42_50) (upF (upF (upF (upF f_0 30 y30_50) 31 y31_50) 32 y32_54) 33 y33_54) A0 H0 H locs := hw
                    have rx37_54 : inR x37_54 := mRn_37 hw.1.2.2.1
                    have hh54_ : (y32_54) = upA (y32_50) (400 * (n_0 29) + (x37_50)) (6 : Int) ∧ (y33_54) = upA (y33_50) (400 * (n_0 29) + (x37_50)) (0 : Int) ∧ (x37_54) = (x37_50) + 1 := hq54_
                    clear hq54_
                    have hm_ : (x37_54) = (x37_50) + 1 := hh54_.2.2
                    have hz_ : Pz_ (y32_54) (y33_54) (400 * n_0 29 + lo_) (400 * n_0 29 + (x37_54)) (el_ + 1) := by rw [hh54_.1, hh54_.2.1, show 400 * n_0 29 + (x37_54) = 400 * n_0 29 + (x37_50) + 1 by omega]; exact Pz_ext h2_.2.2.2.2.2.2.1 (by omega) (by omega) (by omega)
                    have hf_ : Fr_ (y32_50) (y33_50) (y32_54) (y33_54) (400 * n_0 29 + (x37_50)) := by rw [hh54_.1, hh54_.2.1]; exact Fr_up (by omega)
                    refine j_goto E 10 dX10_readProduct_99 (by decide) ?_
                    exact ih10  x24_50 x25_50 x26_50 x27_50 x37_54 x41_50 x42_50 y30_50 y31_50 y32_54 y33_54 H locs ls  (⟨by omega, by omega, hz_, Fr_tr iv10.2.2.2.1 (Fr_tr h2_.1 hf_ (by omega)) (by omega), tk_tr iv10.2.2.2.2 (tk_tr hk_ h2_.2.1)⟩) (by omega) hw (lv_sub hl [1] rfl)
                  · refine j_iconst E 90 rfl dX10_readProduct_89 ?_
                    refine j_goto E 95 dX10_readProduct_90 (by decide) ?_
                    refine j_iconst E 96 rfl dX10_readProduct_95 ?_
                    have h6_ : zz46_ = 0 → 400 * n_0 29 + lo_ < 400 * n_0 29 + (x37_50) ∧ (y32_50 (400 * n_0 29 + (x37_50) - 1)) = 0 ∧ ¬ (y33_50 (400 * n_0 29 + (x37_50) - 1)) = 0 := fun hs_ => by
                      have h7_ := h2_.2.2.2.2.2.2.2 (by omega)
                      rw [show 400 * n_0 29 + (x37_50) - 1 = 400 * n_0 29 + x37_c10 by omega]
                      exact ⟨by omega, h7_.2.1, by omega⟩
                    refine m_callv E (c_X10_emits l D cy q (upN (upN (upN (upN (upN (upN (upN n_0 24 x24_50) 25 x25_50) 26 x26_50) 27 x27_50) 37 x37_50) 41 x41_50) 42 x42_50) (upF (upF (upF (upF f_0 30 y30_50) 31 y31_50) 32 y32_50) 33 y33_50) 5 0  (rr (by decide)) (rr (by decide)) (show 0 ≤ (n_0 29) ∧ (n_0 29) < 32 from by omega) (show 0 ≤ (x37_50) ∧ (x37_50) ≤ 399 from by omega)) rfl mt_X10_emits ml_X10_265 hK hw hA ⟨Nat.le_of_ble_eq_true rfl, Nat.le_of_ble_eq_true rfl⟩ (As := [.int (J 5), .int (J 0)]) (rest := []) rfl rfl hl.1 (Nat.le_of_ble_eq_true rfl) 99 rfl dX10_readProduct_96 (fun n_55 f_55 H locs hq55_ hw => ?_)
                    obtain ⟨x37_55, y32_55, y33_55, en55_, ef55_, hq55_⟩ := hq55_
                    rw [en55_, ef55_] at hw; clear en55_ ef55_
                    have hw : WM D cy q (upN (upN (upN (upN (upN (upN (upN n_0 24 x24_50) 25 x25_50) 26 x26_50) 27 x27_50) 37 x37_55) 41 x41_50) 42 x42_50) (upF (upF (upF (upF f_0 30 y30_50) 31 y31_50) 32 y32_55) 33 y33_55) A0 H0 H locs := hw
                    have rx37_55 : inR x37_55 := mRn_37 hw.1.2.2.1
                    have hh55_ : (y32_55) = upA (y32_50) (400 * (n_0 29) + (x37_50)) (5 : Int) ∧ (y33_55) = upA (y33_50) (400 * (n_0 29) + (x37_50)) (0 : Int) ∧ (x37_55) = (x37_50) + 1 := hq55_
                    clear hq55_
                    have hm_ : (x37_55) = (x37_50) + 1 := hh55_.2.2
                    have hz_ : Pz_ (y32_55) (y33_55) (400 * n_0 29 + lo_) (400 * n_0 29 + (x37_55)) (el_ + 1) := by rw [hh55_.1, hh55_.2.1, show 400 * n_0 29 + (x37_55) = 400 * n_0 29 + (x37_50) + 1 by omega]; exact Pz_ext h2_.2.2.2.2.2.2.1 (by omega) (by omega) (by omega)
                    have hf_ : Fr_ (y32_50) (y33_50) (y32_55) (y33_55) (400 * n_0 29 + (x37_50)) := by rw [hh55_.1, hh55_.2.1]; exact Fr_up (by omega)
                    refine j_goto E 10 dX10_readProduct_99 (by decide) ?_
                    exact ih10  x24_50 x25_50 x26_50 x27_50 x37_55 x41_50 x42_50 y30_50 y31_50 y32_55 y33_55 H locs ls  (⟨by omega, by omega, hz_, Fr_tr iv10.2.2.2.1 (Fr_tr h2_.1 hf_ (by omega)) (by omega), tk_tr iv10.2.2.2.2 (tk_tr hk_ h2_.2.1)⟩) (by omega) hw (lv_sub hl [1] rfl)
              · refine j_aload_n E 62 rfl dX10_readProduct_61 rfl (lv_at hl 1 rfl) ?_
                refine m_get_27 E hK hw x27_47 rfl 65 rfl dX10_readProduct_62 (fun _ => ?_)
                refine j_if_ne E 68 74 rfl rx27_47 dX10_readProduct_65 (by decide) (fun cc56_ => ?_) (fun cc56_ => ?_)
                · refine j_aload_n E 75 rfl dX10_readProduct_74 rfl (lv_at hl 1 rfl) ?_
                  refine m_calli E (c_X10_readUnit l D cy q (upN (upN (upN (upN (upN (upN (upN n_0 24 x24_47) 25 x25_47) 26 x26_47) 27 x27_47) 37 x37_c10) 41 x41_c10) 42 x42_c10) (upF (upF (upF (upF f_0 30 y30_47) 31 y31_47) 32 y32_c10) 33 y33_c10)  (dl_ + 1) lo_ (el_ + 1)  (show 0 ≤ (n_0 29) ∧ (n_0 29) < 32 from by omega) (show 0 ≤ (n_0 23) ∧ (n_0 23) ≤ 400 from by omega) (show Wds_ (f_0 28) from hp2) (show 0 ≤ (dl_ + 1) ∧ (0 ≤ (x25_47) ∧ (x25_47) ≤ (x24_47) ∧ (x24_47) ≤ (n_0 23)) ∧ (0 ≤ (y31_47 ((n_0 29))) ∧ (y31_47 ((n_0 29))) ≤ (x24_47)) ∧ (0 ≤ (x26_47) ∧ (x26_47) ≤ 4) ∧ (¬ (x26_47) = 0 → (x25_47) < (x24_47)) ∧ ((x26_47) = 3 → 0 ≤ (x27_47) ∧ (x27_47) ≤ 9999) ∧ (0 ≤ lo_ ∧ lo_ ≤ (x37_c10)) ∧ (x37_c10) + (dl_ + 1) ≤ (x25_47) from by omega) (show Pz_ (y32_c10) (y33_c10) (400 * (n_0 29) + lo_) (400 * (n_0 29) + (x37_c10)) (el_ + 1) from iv10.2.2.1)) rfl mt_X10_readUnit ml_X10_272 hK hw hA ⟨Nat.le_of_ble_eq_true rfl, Nat.le_of_ble_eq_true rfl⟩ (As := []) (rest := []) rfl rfl hl.1 (Nat.le_of_ble_eq_true rfl) 78 rfl dX10_readProduct_75 (fun zz57_ n_57 f_57 H locs rr57_ hq57_ hw => ?_)
                  obtain ⟨x24_57, x25_57, x26_57, x27_57, x37_57, x41_57, x42_57, y30_57, y31_57, y32_57, y33_57, en57_, ef57_, hq57_⟩ := hq57_
                  rw [en57_, ef57_] at hw; clear en57_ ef57_
                  have hw : WM D cy q (upN (upN (upN (upN (upN (upN (upN n_0 24 x24_57) 25 x25_57) 26 x26_57) 27 x27_57) 37 x37_57) 41 x41_57) 42 x42_57) (upF (upF (upF (upF f_0 30 y30_57) 31 y31_57) 32 y32_57) 33 y33_57) A0 H0 H locs := hw
                  have rx24_57 : inR x24_57 := mRn_24 hw.1.2.2.1
                  have rx25_57 : inR x25_57 := mRn_25 hw.1.2.2.1
                  have rx26_57 : inR x26_57 := mRn_26 hw.1.2.2.1
                  have rx27_57 : inR x27_57 := mRn_27 hw.1.2.2.1
                  have rx37_57 : inR x37_57 := mRn_37 hw.1.2.2.1
                  have rx41_57 : inR x41_57 := mRn_41 hw.1.2.2.1
                  have rx42_57 : inR x42_57 := mRn_42 hw.1.2.2.1
                  have hh57_ : (zz57_ = -1 ∧ Fr_ (y32_c10) (y33_c10) (y32_57) (y33_57) (400 * (n_0 29) + (x37_c10)) ∧ (∀ i, i ≠ (n_0 29) → (y31_57 i) = (y31_47 i)) ∧ (0 ≤ (y31_57 ((n_0 29))) ∧ (y31_57 ((n_0 29))) ≤ 400)) ∨ (zz57_ = 0 ∧ Fr_ (y32_c10) (y33_c10) (y32_57) (y33_57) (400 * (n_0 29) + (x37_c10)) ∧ (∀ i, i ≠ (n_0 29) → (y31_57 i) = (y31_47 i)) ∧ (0 ≤ (y31_57 ((n_0 29))) ∧ (y31_57 ((n_0 29))) ≤ 400) ∧ ((0 ≤ (x25_57) ∧ (x25_57) ≤ (x24_57) ∧ (x24_57) ≤ (n_0 23)) ∧ (0 ≤ (y31_57 ((n_0 29))) ∧ (y31_57 ((n_0 29))) ≤ (x24_57)) ∧ (0 ≤ (x26_57) ∧ (x26_57) ≤ 4) ∧ (¬ (x26_57) = 0 → (x25_57) < (x24_57)) ∧ ((x26_57) = 3 → 0 ≤ (x27_57) ∧ (x27_57) ≤ 9999) ∧ (0 ≤ lo_ ∧ lo_ ≤ (x37_57)) ∧ (x37_57) + (dl_ + 1) ≤ (x25_57)) ∧ (x25_47) < (x25_57) ∧ (x37_c10) ≤ (x37_57) ∧ Pz_ (y32_57) (y33_57) (400 * (n_0 29) + lo_) (400 * (n_0 29) + (x37_57)) ((el_ + 1) + 1) ∧ ((x26_47) = 3 → (x37_57) = (x37_c10) + 1 ∧ (y32_57 (400 * (n_0 29) + (x37_c10))) = 0 ∧ (y33_57 (400 * (n_0 29) + (x37_c10))) = (x27_47))) := hq57_
                  clear hq57_
                  rcases hh57_ with ⟨ee57_, hh57_⟩ | ⟨ee57_, hh57_⟩
                  · subst ee57_
                    have hx2_ := hh57_
                    refine j_iconst E 79 rfl dX10_readProduct_78 ?_
                    refine j_icmp_ne E 82 84 rfl (rr (by decide)) (rr (by decide)) dX10_readProduct_79 (by decide) (fun cc58_ => absurd cc58_ (by decide)) (fun _ => ?_)
                    refine j_iconst E 83 rfl dX10_readProduct_82 ?_
                    exact hret 83 ((-1)) (upN (upN (upN (upN (upN (upN (upN n_0 24 x24_57) 25 x25_57) 26 x26_57) 27 x27_57) 37 x37_57) 41 x41_57) 42 x42_57) (upF (upF (upF (upF f_0 30 y30_57) 31 y31_57) 32 y32_57) 33 y33_57) _ _ ls hw (rr (by decide)) ⟨x24_57, x25_57, x26_57, x27_57, x37_57, x41_57, x42_57, y30_57, y31_57, y32_57, y33_57, rfl, rfl, Or.inl ⟨rfl, Fr_tr iv10.2.2.2.1 hx2_.1 (by omega), tk_tr iv10.2.2.2.2 (tk_tr hk_ hx2_.2.1), hx2_.2.2⟩⟩ dX10_readProduct_83
                  · subst ee57_
                    have h2_ := hh57_
                    have hb2_ := (h2_.2.2.2.2.2.2.1).2
                    refine j_iconst E 79 rfl dX10_readProduct_78 ?_
                    refine j_icmp_ne E 82 84 rfl (rr (by decide)) (rr (by decide)) dX10_readProduct_79 (by decide) (fun _ => ?_) (fun cc59_ => absurd cc59_ (by decide))
                    refine j_aload_n E 85 rfl dX10_readProduct_84 rfl (lv_at hl 1 rfl) ?_
                    refine j_iload_n E 86 rfl dX10_readProduct_85 rfl (lv_at hl 0 rfl) ?_
                    refine j_if_eq E 89 93 rfl rr46_ dX10_readProduct_86 (by decide) (fun cc60_ => ?_) (fun cc60_ => ?_)
                    · refine j_bipush E 95 rfl dX10_readProduct_93 (by decide) ?_
                      refine j_iconst E 96 rfl dX10_readProduct_95 ?_
                      have h6_ : zz46_ = 0 → 400 * n_0 29 + lo_ < 400 * n_0 29 + (x37_57) ∧ (y32_57 (400 * n_0 29 + (x37_57) - 1)) = 0 ∧ ¬ (y33_57 (400 * n_0 29 + (x37_57) - 1)) = 0 := fun hs_ => by
                        have h7_ := h2_.2.2.2.2.2.2.2 (by omega)
                        rw [show 400 * n_0 29 + (x37_57) - 1 = 400 * n_0 29 + x37_c10 by omega]
                        exact ⟨by omega, h7_.2.1, by omega⟩
                      refine m_callv E (c_X10_emits l D cy q (upN (upN (upN (upN (upN (upN (upN n_0 24 x24_57) 25 x25_57) 26 x26_57) 27 x27_57) 37 x37_57) 41 x41_57) 42 x42_57) (upF (upF (upF (upF f_0 30 y30_57) 31 y31_57) 32 y32_57) 33 y33_57) 6 0  (rr (by decide)) (rr (by decide)) (show 0 ≤ (n_0 29) ∧ (n_0 29) < 32 from by omega) (show 0 ≤ (x37_57) ∧ (x37_57) ≤ 399 from by omega)) rfl mt_X10_emits ml_X10_265 hK hw hA ⟨Nat.le_of_ble_eq_true rfl, Nat.le_of_ble_eq_true rfl⟩ (As := [.int (J 6), .int (J 0)]) (rest := []) rfl rfl hl.1 (Nat.le_of_ble_eq_true rfl) 99 rfl dX10_readProduct_96 (fun n_61 f_61 H locs hq61_ hw => ?_)
                      obtain ⟨x37_61, y32_61, y33_61, en61_, ef61_, hq61_⟩ := hq61_
                      rw [en61_, ef61_] at hw; clear en61_ ef61_
                      have hw : WM D cy q (upN (upN (upN (upN (upN (upN (upN n_0 24 x24_57) 25 x25_57) 26 x26_57) 27 x27_57) 37 x37_61) 41 x41_57) 42 x42_57) (upF (upF (upF (upF f_0 30 y30_57) 31 y31_57) 32 y32_61) 33 y33_61) A0 H0 H locs := hw
                      have rx37_61 : inR x37_61 := mRn_37 hw.1.2.2.1
                      have hh61_ : (y32_61) = upA (y32_57) (400 * (n_0 29) + (x37_57)) (6 : Int) ∧ (y33_61) = upA (y33_57) (400 * (n_0 29) + (x37_57)) (0 : Int) ∧ (x37_61) = (x37_57) + 1 := hq61_
                      clear hq61_
                      have hm_ : (x37_61) = (x37_57) + 1 := hh61_.2.2
                      have hz_ : Pz_ (y32_61) (y33_61) (400 * n_0 29 + lo_) (400 * n_0 29 + (x37_61)) (el_ + 1) := by rw [hh61_.1, hh61_.2.1, show 400 * n_0 29 + (x37_61) = 400 * n_0 29 + (x37_57) + 1 by omega]; exact Pz_ext h2_.2.2.2.2.2.2.1 (by omega) (by omega) (by omega)
                      have hf_ : Fr_ (y32_57) (y33_57) (y32_61) (y33_61) (400 * n_0 29 + (x37_57)) := by rw [hh61_.1, hh61_.2.1]; exact Fr_up (by omega)
                      refine j_goto E 10 dX10_readProduct_99 (by decide) ?_
                      exact ih10  x24_57 x25_57 x26_57 x27_57 x37_61 x41_57 x42_57 y30_57 y31_57 y32_61 y33_61 H locs ls  (⟨by omega, by omega, hz_, Fr_tr iv10.2.2.2.1 (Fr_tr h2_.1 hf_ (by omega)) (by omega), tk_tr iv10.2.2.2.2 (tk_tr hk_ h2_.2.1)⟩) (by omega) hw (lv_sub hl [1] rfl)
                    · refine j_iconst E 90 rfl dX10_readProduct_89 ?_
                      refine j_goto E 95 dX10_readProduct_90 (by decide) ?_
                      refine j_iconst E 96 rfl dX10_readProduct_95 ?_
                      have h6_ : zz46_ = 0 → 400 * n_0 29 + lo_ < 400 * n_0 29 + (x37_57) ∧ (y32_57 (400 * n_0 29 + (x37_57) - 1)) = 0 ∧ ¬ (y33_57 (400 * n_0 29 + (x37_57) - 1)) = 0 := fun hs_ => by
                        have h7_ := h2_.2.2.2.2.2.2.2 (by omega)
                        rw [show 400 * n_0 29 + (x37_57) - 1 = 400 * n_0 29 + x37_c10 by omega]
                        exact ⟨by omega, h7_.2.1, by omega⟩
                      refine m_callv E (c_X10_emits l D cy q (upN (upN (upN (upN (upN (upN (upN n_0 24 x24_57) 25 x25_57) 26 x26_57) 27 x27_57) 37 x37_57) 41 x41_57) 42 x42_57) (upF (upF (upF (upF f_0 30 y30_57) 31 y31_57) 32 y32_57) 33 y33_57) 5 0  (rr (by decide)) (rr (by decide)) (show 0 ≤ (n_0 29) ∧ (n_0 29) < 32 from by omega) (show 0 ≤ (x37_57) ∧ (x37_57) ≤ 399 from by omega)) rfl mt_X10_emits ml_X10_265 hK hw hA ⟨Nat.le_of_ble_eq_true rfl, Nat.le_of_ble_eq_true rfl⟩ (As := [.int (J 5), .int (J 0)]) (rest := []) rfl rfl hl.1 (Nat.le_of_ble_eq_true rfl) 99 rfl dX10_readProduct_96 (fun n_62 f_62 H locs hq62_ hw => ?_)
                      obtain ⟨x37_62, y32_62, y33_62, en62_, ef62_, hq62_⟩ := hq62_
                      rw [en62_, ef62_] at hw; clear en62_ ef62_
                      have hw : WM D cy q (upN (upN (upN (upN (upN (upN (upN n_0 24 x24_57) 25 x25_57) 26 x26_57) 27 x27_57) 37 x37_62) 41 x41_57) 42 x42_57) (upF (upF (upF (upF f_0 30 y30_57) 31 y31_57) 32 y32_62) 33 y33_62) A0 H0 H locs := hw
                      have rx37_62 : inR x37_62 := mRn_37 hw.1.2.2.1
                      have hh62_ : (y32_62) = upA (y32_57) (400 * (n_0 29) + (x37_57)) (5 : Int) ∧ (y33_62) = upA (y33_57) (400 * (n_0 29) + (x37_57)) (0 : Int) ∧ (x37_62) = (x37_57) + 1 := hq62_
                      clear hq62_
                      have hm_ : (x37_62) = (x37_57) + 1 := hh62_.2.2
                      have hz_ : Pz_ (y32_62) (y33_62) (400 * n_0 29 + lo_) (400 * n_0 29 + (x37_62)) (el_ + 1) := by rw [hh62_.1, hh62_.2.1, show 400 * n_0 29 + (x37_62) = 400 * n_0 29 + (x37_57) + 1 by omega]; exact Pz_ext h2_.2.2.2.2.2.2.1 (by omega) (by omega) (by omega)
                      have hf_ : Fr_ (y32_57) (y33_57) (y32_62) (y33_62) (400 * n_0 29 + (x37_57)) := by rw [hh62_.1, hh62_.2.1]; exact Fr_up (by omega)
                      refine j_goto E 10 dX10_readProduct_99 (by decide) ?_
                      exact ih10  x24_57 x25_57 x26_57 x27_57 x37_62 x41_57 x42_57 y30_57 y31_57 y32_62 y33_62 H locs ls  (⟨by omega, by omega, hz_, Fr_tr iv10.2.2.2.1 (Fr_tr h2_.1 hf_ (by omega)) (by omega), tk_tr iv10.2.2.2.2 (tk_tr hk_ h2_.2.1)⟩) (by omega) hw (lv_sub hl [1] rfl)
                · refine j_aload_n E 69 rfl dX10_readProduct_68 rfl (lv_at hl 1 rfl) ?_
                  refine j_iconst E 70 rfl dX10_readProduct_69 ?_
                  refine m_calli E (c_X10_fails l D cy q (upN (upN (upN (upN (upN (upN (upN n_0 24 x24_47) 25 x25_47) 26 x26_47) 27 x27_47) 37 x37_c10) 41 x41_c10) 42 x42_c10) (upF (upF (upF (upF f_0 30 y30_47) 31 y31_47) 32 y32_c10) 33 y33_c10) 2  (rr (by decide)) ) rfl mt_X10_fails ml_X10_262 hK hw hA ⟨Nat.le_of_ble_eq_true rfl, Nat.le_of_ble_eq_true rfl⟩ (As := [.int (J 2)]) (rest := []) rfl rfl hl.1 (Nat.le_of_ble_eq_true rfl) 73 rfl dX10_readProduct_70 (fun zz63_ n_63 f_63 H locs rr63_ hq63_ hw => ?_)
                  obtain ⟨x41_63, x42_63, en63_, ef63_, hq63_⟩ := hq63_
                  rw [en63_, ef63_] at hw; clear en63_ ef63_
                  have hw : WM D cy q (upN (upN (upN (upN (upN (upN (upN n_0 24 x24_47) 25 x25_47) 26 x26_47) 27 x27_47) 37 x37_c10) 41 x41_63) 42 x42_63) (upF (upF (upF (upF f_0 30 y30_47) 31 y31_47) 32 y32_c10) 33 y33_c10) A0 H0 H locs := hw
                  have rx41_63 : inR x41_63 := mRn_41 hw.1.2.2.1
                  have rx42_63 : inR x42_63 := mRn_42 hw.1.2.2.1
                  have hh63_ : zz63_ = -1 := hq63_
                  clear hq63_
                  exact hret 73 zz63_ (upN (upN (upN (upN (upN (upN (upN n_0 24 x24_47) 25 x25_47) 26 x26_47) 27 x27_47) 37 x37_c10) 41 x41_63) 42 x42_63) (upF (upF (upF (upF f_0 30 y30_47) 31 y31_47) 32 y32_c10) 33 y33_c10) _ _ ls hw rr63_ ⟨x24_47, x25_47, x26_47, x27_47, x37_c10, x41_63, x42_63, y30_47, y31_47, y32_c10, y33_c10, rfl, rfl, Or.inl ⟨by omega, iv10.2.2.2.1, tk_tr iv10.2.2.2.2 hk_, by omega⟩⟩ dX10_readProduct_73
            · refine j_aload_n E 44 rfl dX10_readProduct_43 rfl (lv_at hl 1 rfl) ?_
              refine m_get_26 E hK hw x26_47 rfl 47 rfl dX10_readProduct_44 (fun _ => ?_)
              refine j_iconst E 48 rfl dX10_readProduct_47 ?_
              refine j_icmp_eq E 51 57 rfl rx26_47 (rr (by decide)) dX10_readProduct_48 (by decide) (fun cc64_ => ?_) (fun cc64_ => ?_)
              · refine j_iload_n E 58 rfl dX10_readProduct_57 rfl (lv_at hl 0 rfl) ?_
                refine j_if_ne E 61 74 rfl rr46_ dX10_readProduct_58 (by decide) (fun cc65_ => ?_) (fun cc65_ => ?_)
                · refine j_aload_n E 75 rfl dX10_readProduct_74 rfl (lv_at hl 1 rfl) ?_
                  refine m_calli E (c_X10_readUnit l D cy q (upN (upN (upN (upN (upN (upN (upN n_0 24 x24_47) 25 x25_47) 26 x26_47) 27 x27_47) 37 x37_c10) 41 x41_c10) 42 x42_c10) (upF (upF (upF (upF f_0 30 y30_47) 31 y31_47) 32 y32_c10) 33 y33_c10)  (dl_ + 1) lo_ (el_ + 1)  (show 0 ≤ (n_0 29) ∧ (n_0 29) < 32 from by omega) (show 0 ≤ (n_0 23) ∧ (n_0 23) ≤ 400 from by omega) (show Wds_ (f_0 28) from hp2) (show 0 ≤ (dl_ + 1) ∧ (0 ≤ (x25_47) ∧ (x25_47) ≤ (x24_47) ∧ (x24_47) ≤ (n_0 23)) ∧ (0 ≤ (y31_47 ((n_0 29))) ∧ (y31_47 ((n_0 29))) ≤ (x24_47)) ∧ (0 ≤ (x26_47) ∧ (x26_47) ≤ 4) ∧ (¬ (x26_47) = 0 → (x25_47) < (x24_47)) ∧ ((x26_47) = 3 → 0 ≤ (x27_47) ∧ (x27_47) ≤ 9999) ∧ (0 ≤ lo_ ∧ lo_ ≤ (x37_c10)) ∧ (x37_c10) + (dl_ + 1) ≤ (x25_47) from by omega) (show Pz_ (y32_c10) (y33_c10) (400 * (n_0 29) + lo_) (400 * (n_0 29) + (x37_c10)) (el_ + 1) from iv10.2.2.1)) rfl mt_X10_readUnit ml_X10_272 hK hw hA ⟨Nat.le_of_ble_eq_true rfl, Nat.le_of_ble_eq_true rfl⟩ (As := []) (rest := []) rfl rfl hl.1 (Nat.le_of_ble_eq_true rfl) 78 rfl dX10_readProduct_75 (fun zz66_ n_66 f_66 H locs rr66_ hq66_ hw => ?_)
                  obtain ⟨x24_66, x25_66, x26_66, x27_66, x37_66, x41_66, x42_66, y30_66, y31_66, y32_66, y33_66, en66_, ef66_, hq66_⟩ := hq66_
                  rw [en66_, ef66_] at hw; clear en66_ ef66_
                  have hw : WM D cy q (upN (upN (upN (upN (upN (upN (upN n_0 24 x24_66) 25 x25_66) 26 x26_66) 27 x27_66) 37 x37_66) 41 x41_66) 42 x42_66) (upF (upF (upF (upF f_0 30 y30_66) 31 y31_66) 32 y32_66) 33 y33_66) A0 H0 H locs := hw
                  have rx24_66 : inR x24_66 := mRn_24 hw.1.2.2.1
                  have rx25_66 : inR x25_66 := mRn_25 hw.1.2.2.1
                  have rx26_66 : inR x26_66 := mRn_26 hw.1.2.2.1
                  have rx27_66 : inR x27_66 := mRn_27 hw.1.2.2.1
                  have rx37_66 : inR x37_66 := mRn_37 hw.1.2.2.1
                  have rx41_66 : inR x41_66 := mRn_41 hw.1.2.2.1
                  have rx42_66 : inR x42_66 := mRn_42 hw.1.2.2.1
                  have hh66_ : (zz66_ = -1 ∧ Fr_ (y32_c10) (y33_c10) (y32_66) (y33_66) (400 * (n_0 29) + (x37_c10)) ∧ (∀ i, i ≠ (n_0 29) → (y31_66 i) = (y31_47 i)) ∧ (0 ≤ (y31_66 ((n_0 29))) ∧ (y31_66 ((n_0 29))) ≤ 400)) ∨ (zz66_ = 0 ∧ Fr_ (y32_c10) (y33_c10) (y32_66) (y33_66) (400 * (n_0 29) + (x37_c10)) ∧ (∀ i, i ≠ (n_0 29) → (y31_66 i) = (y31_47 i)) ∧ (0 ≤ (y31_66 ((n_0 29))) ∧ (y31_66 ((n_0 29))) ≤ 400) ∧ ((0 ≤ (x25_66) ∧ (x25_66) ≤ (x24_66) ∧ (x24_66) ≤ (n_0 23)) ∧ (0 ≤ (y31_66 ((n_0 29))) ∧ (y31_66 ((n_0 29))) ≤ (x24_66)) ∧ (0 ≤ (x26_66) ∧ (x26_66) ≤ 4) ∧ (¬ (x26_66) = 0 → (x25_66) < (x24_66)) ∧ ((x26_66) = 3 → 0 ≤ (x27_66) ∧ (x27_66) ≤ 9999) ∧ (0 ≤ lo_ ∧ lo_ ≤ (x37_66)) ∧ (x37_66) + (dl_ + 1) ≤ (x25_66)) ∧ (x25_47) < (x25_66) ∧ (x37_c10) ≤ (x37_66) ∧ Pz_ (y32_66) (y33_66) (400 * (n_0 29) + lo_) (400 * (n_0 29) + (x37_66)) ((el_ + 1) + 1) ∧ ((x26_47) = 3 → (x37_66) = (x37_c10) + 1 ∧ (y32_66 (400 * (n_0 29) + (x37_c10))) = 0 ∧ (y33_66 (400 * (n_0 29) + (x37_c10))) = (x27_47))) := hq66_
                  clear hq66_
                  rcases hh66_ with ⟨ee66_, hh66_⟩ | ⟨ee66_, hh66_⟩
                  · subst ee66_
                    have hx2_ := hh66_
                    refine j_iconst E 79 rfl dX10_readProduct_78 ?_
                    refine j_icmp_ne E 82 84 rfl (rr (by decide)) (rr (by decide)) dX10_readProduct_79 (by decide) (fun cc67_ => absurd cc67_ (by decide)) (fun _ => ?_)
                    refine j_iconst E 83 rfl dX10_readProduct_82 ?_
                    exact hret 83 ((-1)) (upN (upN (upN (upN (upN (upN (upN n_0 24 x24_66) 25 x25_66) 26 x26_66) 27 x27_66) 37 x37_66) 41 x41_66) 42 x42_66) (upF (upF (upF (upF f_0 30 y30_66) 31 y31_66) 32 y32_66) 33 y33_66) _ _ ls hw (rr (by decide)) ⟨x24_66, x25_66, x26_66, x27_66, x37_66, x41_66, x42_66, y30_66, y31_66, y32_66, y33_66, rfl, rfl, Or.inl ⟨rfl, Fr_tr iv10.2.2.2.1 hx2_.1 (by omega), tk_tr iv10.2.2.2.2 (tk_tr hk_ hx2_.2.1), hx2_.2.2⟩⟩ dX10_readProduct_83
                  · subst ee66_
                    have h2_ := hh66_
                    have hb2_ := (h2_.2.2.2.2.2.2.1).2
                    refine j_iconst E 79 rfl dX10_readProduct_78 ?_
                    refine j_icmp_ne E 82 84 rfl (rr (by decide)) (rr (by decide)) dX10_readProduct_79 (by decide) (fun _ => ?_) (fun cc68_ => absurd cc68_ (by decide))
                    refine j_aload_n E 85 rfl dX10_readProduct_84 rfl (lv_at hl 1 rfl) ?_
                    refine j_iload_n E 86 rfl dX10_readProduct_85 rfl (lv_at hl 0 rfl) ?_
                    refine j_if_eq E 89 93 rfl rr46_ dX10_readProduct_86 (by decide) (fun cc69_ => ?_) (fun cc69_ => ?_)
                    · refine j_bipush E 95 rfl dX10_readProduct_93 (by decide) ?_
                      refine j_iconst E 96 rfl dX10_readProduct_95 ?_
                      have h6_ : zz46_ = 0 → 400 * n_0 29 + lo_ < 400 * n_0 29 + (x37_66) ∧ (y32_66 (400 * n_0 29 + (x37_66) - 1)) = 0 ∧ ¬ (y33_66 (400 * n_0 29 + (x37_66) - 1)) = 0 := fun hs_ => by
                        have h7_ := h2_.2.2.2.2.2.2.2 (by omega)
                        rw [show 400 * n_0 29 + (x37_66) - 1 = 400 * n_0 29 + x37_c10 by omega]
                        exact ⟨by omega, h7_.2.1, by omega⟩
                      refine m_callv E (c_X10_emits l D cy q (upN (upN (upN (upN (upN (upN (upN n_0 24 x24_66) 25 x25_66) 26 x26_66) 27 x27_66) 37 x37_66) 41 x41_66) 42 x42_66) (upF (upF (upF (upF f_0 30 y30_66) 31 y31_66) 32 y32_66) 33 y33_66) 6 0  (rr (by decide)) (rr (by decide)) (show 0 ≤ (n_0 29) ∧ (n_0 29) < 32 from by omega) (show 0 ≤ (x37_66) ∧ (x37_66) ≤ 399 from by omega)) rfl mt_X10_emits ml_X10_265 hK hw hA ⟨Nat.le_of_ble_eq_true rfl, Nat.le_of_ble_eq_true rfl⟩ (As := [.int (J 6), .int (J 0)]) (rest := []) rfl rfl hl.1 (Nat.le_of_ble_eq_true rfl) 99 rfl dX10_readProduct_96 (fun n_70 f_70 H locs hq70_ hw => ?_)
                      obtain ⟨x37_70, y32_70, y33_70, en70_, ef70_, hq70_⟩ := hq70_
                      rw [en70_, ef70_] at hw; clear en70_ ef70_
                      have hw : WM D cy q (upN (upN (upN (upN (upN (upN (upN n_0 24 x24_66) 25 x25_66) 26 x26_66) 27 x27_66) 37 x37_70) 41 x41_66) 42 x42_66) (upF (upF (upF (upF f_0 30 y30_66) 31 y31_66) 32 y32_70) 33 y33_70) A0 H0 H locs := hw
                      have rx37_70 : inR x37_70 := mRn_37 hw.1.2.2.1
                      have hh70_ : (y32_70) = upA (y32_66) (400 * (n_0 29) + (x37_66)) (6 : Int) ∧ (y33_70) = upA (y33_66) (400 * (n_0 29) + (x37_66)) (0 : Int) ∧ (x37_70) = (x37_66) + 1 := hq70_
                      clear hq70_
                      have hm_ : (x37_70) = (x37_66) + 1 := hh70_.2.2
                      have hz_ : Pz_ (y32_70) (y33_70) (400 * n_0 29 + lo_) (400 * n_0 29 + (x37_70)) (el_ + 1) := by rw [hh70_.1, hh70_.2.1, show 400 * n_0 29 + (x37_70) = 400 * n_0 29 + (x37_66) + 1 by omega]; exact Pz_ext h2_.2.2.2.2.2.2.1 (by omega) (by omega) (by omega)
                      have hf_ : Fr_ (y32_66) (y33_66) (y32_70) (y33_70) (400 * n_0 29 + (x37_66)) := by rw [hh70_.1, hh70_.2.1]; exact Fr_up (by omega)
                      refine j_goto E 10 dX10_readProduct_99 (by decide) ?_
                      exact ih10  x24_66 x25_66 x26_66 x27_66 x37_70 x41_66 x42_66 y30_66 y31_66 y32_70 y33_70 H locs ls  (⟨by omega, by omega, hz_, Fr_tr iv10.2.2.2.1 (Fr_tr h2_.1 hf_ (by omega)) (by omega), tk_tr iv10.2.2.2.2 (tk_tr hk_ h2_.2.1)⟩) (by omega) hw (lv_sub hl [1] rfl)
                    · refine j_iconst E 90 rfl dX10_readProduct_89 ?_
                      refine j_goto E 95 dX10_readProduct_90 (by decide) ?_
                      refine j_iconst E 96 rfl dX10_readProduct_95 ?_
                      have h6_ : zz46_ = 0 → 400 * n_0 29 + lo_ < 400 * n_0 29 + (x37_66) ∧ (y32_66 (400 * n_0 29 + (x37_66) - 1)) = 0 ∧ ¬ (y33_66 (400 * n_0 29 + (x37_66) - 1)) = 0 := fun hs_ => by
                        have h7_ := h2_.2.2.2.2.2.2.2 (by omega)
                        rw [show 400 * n_0 29 + (x37_66) - 1 = 400 * n_0 29 + x37_c10 by omega]
                        exact ⟨by omega, h7_.2.1, by omega⟩
                      refine m_callv E (c_X10_emits l D cy q (upN (upN (upN (upN (upN (upN (upN n_0 24 x24_66) 25 x25_66) 26 x26_66) 27 x27_66) 37 x37_66) 41 x41_66) 42 x42_66) (upF (upF (upF (upF f_0 30 y30_66) 31 y31_66) 32 y32_66) 33 y33_66) 5 0  (rr (by decide)) (rr (by decide)) (show 0 ≤ (n_0 29) ∧ (n_0 29) < 32 from by omega) (show 0 ≤ (x37_66) ∧ (x37_66) ≤ 399 from by omega)) rfl mt_X10_emits ml_X10_265 hK hw hA ⟨Nat.le_of_ble_eq_true rfl, Nat.le_of_ble_eq_true rfl⟩ (As := [.int (J 5), .int (J 0)]) (rest := []) rfl rfl hl.1 (Nat.le_of_ble_eq_true rfl) 99 rfl dX10_readProduct_96 (fun n_71 f_71 H locs hq71_ hw => ?_)
                      obtain ⟨x37_71, y32_71, y33_71, en71_, ef71_, hq71_⟩ := hq71_
                      rw [en71_, ef71_] at hw; clear en71_ ef71_
                      have hw : WM D cy q (upN (upN (upN (upN (upN (upN (upN n_0 24 x24_66) 25 x25_66) 26 x26_66) 27 x27_66) 37 x37_71) 41 x41_66) 42 x42_66) (upF (upF (upF (upF f_0 30 y30_66) 31 y31_66) 32 y32_71) 33 y33_71) A0 H0 H locs := hw
                      have rx37_71 : inR x37_71 := mRn_37 hw.1.2.2.1
                      have hh71_ : (y32_71) = upA (y32_66) (400 * (n_0 29) + (x37_66)) (5 : Int) ∧ (y33_71) = upA (y33_66) (400 * (n_0 29) + (x37_66)) (0 : Int) ∧ (x37_71) = (x37_66) + 1 := hq71_
                      clear hq71_
                      have hm_ : (x37_71) = (x37_66) + 1 := hh71_.2.2
                      have hz_ : Pz_ (y32_71) (y33_71) (400 * n_0 29 + lo_) (400 * n_0 29 + (x37_71)) (el_ + 1) := by rw [hh71_.1, hh71_.2.1, show 400 * n_0 29 + (x37_71) = 400 * n_0 29 + (x37_66) + 1 by omega]; exact Pz_ext h2_.2.2.2.2.2.2.1 (by omega) (by omega) (by omega)
                      have hf_ : Fr_ (y32_66) (y33_66) (y32_71) (y33_71) (400 * n_0 29 + (x37_66)) := by rw [hh71_.1, hh71_.2.1]; exact Fr_up (by omega)
                      refine j_goto E 10 dX10_readProduct_99 (by decide) ?_
                      exact ih10  x24_66 x25_66 x26_66 x27_66 x37_71 x41_66 x42_66 y30_66 y31_66 y32_71 y33_71 H locs ls  (⟨by omega, by omega, hz_, Fr_tr iv10.2.2.2.1 (Fr_tr h2_.1 hf_ (by omega)) (by omega), tk_tr iv10.2.2.2.2 (tk_tr hk_ h2_.2.1)⟩) (by omega) hw (lv_sub hl [1] rfl)
                · refine j_aload_n E 62 rfl dX10_readProduct_61 rfl (lv_at hl 1 rfl) ?_
                  refine m_get_27 E hK hw x27_47 rfl 65 rfl dX10_readProduct_62 (fun _ => ?_)
                  refine j_if_ne E 68 74 rfl rx27_47 dX10_readProduct_65 (by decide) (fun cc72_ => ?_) (fun cc72_ => ?_)
                  · refine j_aload_n E 75 rfl dX10_readProduct_74 rfl (lv_at hl 1 rfl) ?_
                    refine m_calli E (c_X10_readUnit l D cy q (upN (upN (upN (upN (upN (upN (upN n_0 24 x24_47) 25 x25_47) 26 x26_47) 27 x27_47) 37 x37_c10) 41 x41_c10) 42 x42_c10) (upF (upF (upF (upF f_0 30 y30_47) 31 y31_47) 32 y32_c10) 33 y33_c10)  (dl_ + 1) lo_ (el_ + 1)  (show 0 ≤ (n_0 29) ∧ (n_0 29) < 32 from by omega) (show 0 ≤ (n_0 23) ∧ (n_0 23) ≤ 400 from by omega) (show Wds_ (f_0 28) from hp2) (show 0 ≤ (dl_ + 1) ∧ (0 ≤ (x25_47) ∧ (x25_47) ≤ (x24_47) ∧ (x24_47) ≤ (n_0 23)) ∧ (0 ≤ (y31_47 ((n_0 29))) ∧ (y31_47 ((n_0 29))) ≤ (x24_47)) ∧ (0 ≤ (x26_47) ∧ (x26_47) ≤ 4) ∧ (¬ (x26_47) = 0 → (x25_47) < (x24_47)) ∧ ((x26_47) = 3 → 0 ≤ (x27_47) ∧ (x27_47) ≤ 9999) ∧ (0 ≤ lo_ ∧ lo_ ≤ (x37_c10)) ∧ (x37_c10) + (dl_ + 1) ≤ (x25_47) from by omega) (show Pz_ (y32_c10) (y33_c10) (400 * (n_0 29) + lo_) (400 * (n_0 29) + (x37_c10)) (el_ + 1) from iv10.2.2.1)) rfl mt_X10_readUnit ml_X10_272 hK hw hA ⟨Nat.le_of_ble_eq_true rfl, Nat.le_of_ble_eq_true rfl⟩ (As := []) (rest := []) rfl rfl hl.1 (Nat.le_of_ble_eq_true rfl) 78 rfl dX10_readProduct_75 (fun zz73_ n_73 f_73 H locs rr73_ hq73_ hw => ?_)
                    obtain ⟨x24_73, x25_73, x26_73, x27_73, x37_73, x41_73, x42_73, y30_73, y31_73, y32_73, y33_73, en73_, ef73_, hq73_⟩ := hq73_
                    rw [en73_, ef73_] at hw; clear en73_ ef73_
                    have hw : WM D cy q (upN (upN (upN (upN (upN (upN (upN n_0 24 x24_73) 25 x25_73) 26 x26_73) 27 x27_73) 37 x37_73) 41 x41_73) 42 x42_73) (upF (upF (upF (upF f_0 30 y30_73) 31 y31_73) 32 y32_73) 33 y33_73) A0 H0 H locs := hw
                    have rx24_73 : inR x24_73 := mRn_24 hw.1.2.2.1
                    have rx25_73 : inR x25_73 := mRn_25 hw.1.2.2.1
                    have rx26_73 : inR x26_73 := mRn_26 hw.1.2.2.1
                    have rx27_73 : inR x27_73 := mRn_27 hw.1.2.2.1
                    have rx37_73 : inR x37_73 := mRn_37 hw.1.2.2.1
                    have rx41_73 : inR x41_73 := mRn_41 hw.1.2.2.1
                    have rx42_73 : inR x42_73 := mRn_42 hw.1.2.2.1
                    have hh73_ : (zz73_ = -1 ∧ Fr_ (y32_c10) (y33_c10) (y32_73) (y33_73) (400 * (n_0 29) + (x37_c10)) ∧ (∀ i, i ≠ (n_0 29) → (y31_73 i) = (y31_47 i)) ∧ (0 ≤ (y31_73 ((n_0 29))) ∧ (y31_73 ((n_0 29))) ≤ 400)) ∨ (zz73_ = 0 ∧ Fr_ (y32_c10) (y33_c10) (y32_73) (y33_73) (400 * (n_0 29) + (x37_c10)) ∧ (∀ i, i ≠ (n_0 29) → (y31_73 i) = (y31_47 i)) ∧ (0 ≤ (y31_73 ((n_0 29))) ∧ (y31_73 ((n_0 29))) ≤ 400) ∧ ((0 ≤ (x25_73) ∧ (x25_73) ≤ (x24_73) ∧ (x24_73) ≤ (n_0 23)) ∧ (0 ≤ (y31_73 ((n_0 29))) ∧ (y31_73 ((n_0 29))) ≤ (x24_73)) ∧ (0 ≤ (x26_73) ∧ (x26_73) ≤ 4) ∧ (¬ (x26_73) = 0 → (x25_73) < (x24_73)) ∧ ((x26_73) = 3 → 0 ≤ (x27_73) ∧ (x27_73) ≤ 9999) ∧ (0 ≤ lo_ ∧ lo_ ≤ (x37_73)) ∧ (x37_73) + (dl_ + 1) ≤ (x25_73)) ∧ (x25_47) < (x25_73) ∧ (x37_c10) ≤ (x37_73) ∧ Pz_ (y32_73) (y33_73) (400 * (n_0 29) + lo_) (400 * (n_0 29) + (x37_73)) ((el_ + 1) + 1) ∧ ((x26_47) = 3 → (x37_73) = (x37_c10) + 1 ∧ (y32_73 (400 * (n_0 29) + (x37_c10))) = 0 ∧ (y33_73 (400 * (n_0 29) + (x37_c10))) = (x27_47))) := hq73_
                    clear hq73_
                    rcases hh73_ with ⟨ee73_, hh73_⟩ | ⟨ee73_, hh73_⟩
                    · subst ee73_
                      have hx2_ := hh73_
                      refine j_iconst E 79 rfl dX10_readProduct_78 ?_
                      refine j_icmp_ne E 82 84 rfl (rr (by decide)) (rr (by decide)) dX10_readProduct_79 (by decide) (fun cc74_ => absurd cc74_ (by decide)) (fun _ => ?_)
                      refine j_iconst E 83 rfl dX10_readProduct_82 ?_
                      exact hret 83 ((-1)) (upN (upN (upN (upN (upN (upN (upN n_0 24 x24_73) 25 x25_73) 26 x26_73) 27 x27_73) 37 x37_73) 41 x41_73) 42 x42_73) (upF (upF (upF (upF f_0 30 y30_73) 31 y31_73) 32 y32_73) 33 y33_73) _ _ ls hw (rr (by decide)) ⟨x24_73, x25_73, x26_73, x27_73, x37_73, x41_73, x42_73, y30_73, y31_73, y32_73, y33_73, rfl, rfl, Or.inl ⟨rfl, Fr_tr iv10.2.2.2.1 hx2_.1 (by omega), tk_tr iv10.2.2.2.2 (tk_tr hk_ hx2_.2.1), hx2_.2.2⟩⟩ dX10_readProduct_83
                    · subst ee73_
                      have h2_ := hh73_
                      have hb2_ := (h2_.2.2.2.2.2.2.1).2
                      refine j_iconst E 79 rfl dX10_readProduct_78 ?_
                      refine j_icmp_ne E 82 84 rfl (rr (by decide)) (rr (by decide)) dX10_readProduct_79 (by decide) (fun _ => ?_) (fun cc75_ => absurd cc75_ (by decide))
                      refine j_aload_n E 85 rfl dX10_readProduct_84 rfl (lv_at hl 1 rfl) ?_
                      refine j_iload_n E 86 rfl dX10_readProduct_85 rfl (lv_at hl 0 rfl) ?_
                      refine j_if_eq E 89 93 rfl rr46_ dX10_readProduct_86 (by decide) (fun cc76_ => ?_) (fun cc76_ => ?_)
                      · refine j_bipush E 95 rfl dX10_readProduct_93 (by decide) ?_
                        refine j_iconst E 96 rfl dX10_readProduct_95 ?_
                        have h6_ : zz46_ = 0 → 400 * n_0 29 + lo_ < 400 * n_0 29 + (x37_73) ∧ (y32_73 (400 * n_0 29 + (x37_73) - 1)) = 0 ∧ ¬ (y33_73 (400 * n_0 29 + (x37_73) - 1)) = 0 := fun hs_ => by
                          have h7_ := h2_.2.2.2.2.2.2.2 (by omega)
                          rw [show 400 * n_0 29 + (x37_73) - 1 = 400 * n_0 29 + x37_c10 by omega]
                          exact ⟨by omega, h7_.2.1, by omega⟩
                        refine m_callv E (c_X10_emits l D cy q (upN (upN (upN (upN (upN (upN (upN n_0 24 x24_73) 25 x25_73) 26 x26_73) 27 x27_73) 37 x37_73) 41 x41_73) 42 x42_73) (upF (upF (upF (upF f_0 30 y30_73) 31 y31_73) 32 y32_73) 33 y33_73) 6 0  (rr (by decide)) (rr (by decide)) (show 0 ≤ (n_0 29) ∧ (n_0 29) < 32 from by omega) (show 0 ≤ (x37_73) ∧ (x37_73) ≤ 399 from by omega)) rfl mt_X10_emits ml_X10_265 hK hw hA ⟨Nat.le_of_ble_eq_true rfl, Nat.le_of_ble_eq_true rfl⟩ (As := [.int (J 6), .int (J 0)]) (rest := []) rfl rfl hl.1 (Nat.le_of_ble_eq_true rfl) 99 rfl dX10_readProduct_96 (fun n_77 f_77 H locs hq77_ hw => ?_)
                        obtain ⟨x37_77, y32_77, y33_77, en77_, ef77_, hq77_⟩ := hq77_
                        rw [en77_, ef77_] at hw; clear en77_ ef77_
                        have hw : WM D cy q (upN (upN (upN (upN (upN (upN (upN n_0 24 x24_73) 25 x25_73) 26 x26_73) 27 x27_73) 37 x37_77) 41 x41_73) 42 x42_73) (upF (upF (upF (upF f_0 30 y30_73) 31 y31_73) 32 y32_77) 33 y33_77) A0 H0 H locs := hw
                        have rx37_77 : inR x37_77 := mRn_37 hw.1.2.2.1
                        have hh77_ : (y32_77) = upA (y32_73) (400 * (n_0 29) + (x37_73)) (6 : Int) ∧ (y33_77) = upA (y33_73) (400 * (n_0 29) + (x37_73)) (0 : Int) ∧ (x37_77) = (x37_73) + 1 := hq77_
                        clear hq77_
                        have hm_ : (x37_77) = (x37_73) + 1 := hh77_.2.2
                        have hz_ : Pz_ (y32_77) (y33_77) (400 * n_0 29 + lo_) (400 * n_0 29 + (x37_77)) (el_ + 1) := by rw [hh77_.1, hh77_.2.1, show 400 * n_0 29 + (x37_77) = 400 * n_0 29 + (x37_73) + 1 by omega]; exact Pz_ext h2_.2.2.2.2.2.2.1 (by omega) (by omega) (by omega)
                        have hf_ : Fr_ (y32_73) (y33_73) (y32_77) (y33_77) (400 * n_0 29 + (x37_73)) := by rw [hh77_.1, hh77_.2.1]; exact Fr_up (by omega)
                        refine j_goto E 10 dX10_readProduct_99 (by decide) ?_
                        exact ih10  x24_73 x25_73 x26_73 x27_73 x37_77 x41_73 x42_73 y30_73 y31_73 y32_77 y33_77 H locs ls  (⟨by omega, by omega, hz_, Fr_tr iv10.2.2.2.1 (Fr_tr h2_.1 hf_ (by omega)) (by omega), tk_tr iv10.2.2.2.2 (tk_tr hk_ h2_.2.1)⟩) (by omega) hw (lv_sub hl [1] rfl)
                      · refine j_iconst E 90 rfl dX10_readProduct_89 ?_
                        refine j_goto E 95 dX10_readProduct_90 (by decide) ?_
                        refine j_iconst E 96 rfl dX10_readProduct_95 ?_
                        have h6_ : zz46_ = 0 → 400 * n_0 29 + lo_ < 400 * n_0 29 + (x37_73) ∧ (y32_73 (400 * n_0 29 + (x37_73) - 1)) = 0 ∧ ¬ (y33_73 (400 * n_0 29 + (x37_73) - 1)) = 0 := fun hs_ => by
                          have h7_ := h2_.2.2.2.2.2.2.2 (by omega)
                          rw [show 400 * n_0 29 + (x37_73) - 1 = 400 * n_0 29 + x37_c10 by omega]
                          exact ⟨by omega, h7_.2.1, by omega⟩
                        refine m_callv E (c_X10_emits l D cy q (upN (upN (upN (upN (upN (upN (upN n_0 24 x24_73) 25 x25_73) 26 x26_73) 27 x27_73) 37 x37_73) 41 x41_73) 42 x42_73) (upF (upF (upF (upF f_0 30 y30_73) 31 y31_73) 32 y32_73) 33 y33_73) 5 0  (rr (by decide)) (rr (by decide)) (show 0 ≤ (n_0 29) ∧ (n_0 29) < 32 from by omega) (show 0 ≤ (x37_73) ∧ (x37_73) ≤ 399 from by omega)) rfl mt_X10_emits ml_X10_265 hK hw hA ⟨Nat.le_of_ble_eq_true rfl, Nat.le_of_ble_eq_true rfl⟩ (As := [.int (J 5), .int (J 0)]) (rest := []) rfl rfl hl.1 (Nat.le_of_ble_eq_true rfl) 99 rfl dX10_readProduct_96 (fun n_78 f_78 H locs hq78_ hw => ?_)
                        obtain ⟨x37_78, y32_78, y33_78, en78_, ef78_, hq78_⟩ := hq78_
                        rw [en78_, ef78_] at hw; clear en78_ ef78_
                        have hw : WM D cy q (upN (upN (upN (upN (upN (upN (upN n_0 24 x24_73) 25 x25_73) 26 x26_73) 27 x27_73) 37 x37_78) 41 x41_73) 42 x42_73) (upF (upF (upF (upF f_0 30 y30_73) 31 y31_73) 32 y32_78) 33 y33_78) A0 H0 H locs := hw
                        have rx37_78 : inR x37_78 := mRn_37 hw.1.2.2.1
                        have hh78_ : (y32_78) = upA (y32_73) (400 * (n_0 29) + (x37_73)) (5 : Int) ∧ (y33_78) = upA (y33_73) (400 * (n_0 29) + (x37_73)) (0 : Int) ∧ (x37_78) = (x37_73) + 1 := hq78_
                        clear hq78_
                        have hm_ : (x37_78) = (x37_73) + 1 := hh78_.2.2
                        have hz_ : Pz_ (y32_78) (y33_78) (400 * n_0 29 + lo_) (400 * n_0 29 + (x37_78)) (el_ + 1) := by rw [hh78_.1, hh78_.2.1, show 400 * n_0 29 + (x37_78) = 400 * n_0 29 + (x37_73) + 1 by omega]; exact Pz_ext h2_.2.2.2.2.2.2.1 (by omega) (by omega) (by omega)
                        have hf_ : Fr_ (y32_73) (y33_73) (y32_78) (y33_78) (400 * n_0 29 + (x37_73)) := by rw [hh78_.1, hh78_.2.1]; exact Fr_up (by omega)
                        refine j_goto E 10 dX10_readProduct_99 (by decide) ?_
                        exact ih10  x24_73 x25_73 x26_73 x27_73 x37_78 x41_73 x42_73 y30_73 y31_73 y32_78 y33_78 H locs ls  (⟨by omega, by omega, hz_, Fr_tr iv10.2.2.2.1 (Fr_tr h2_.1 hf_ (by omega)) (by omega), tk_tr iv10.2.2.2.2 (tk_tr hk_ h2_.2.1)⟩) (by omega) hw (lv_sub hl [1] rfl)
                  · refine j_aload_n E 69 rfl dX10_readProduct_68 rfl (lv_at hl 1 rfl) ?_
                    refine j_iconst E 70 rfl dX10_readProduct_69 ?_
                    refine m_calli E (c_X10_fails l D cy q (upN (upN (upN (upN (upN (upN (upN n_0 24 x24_47) 25 x25_47) 26 x26_47) 27 x27_47) 37 x37_c10) 41 x41_c10) 42 x42_c10) (upF (upF (upF (upF f_0 30 y30_47) 31 y31_47) 32 y32_c10) 33 y33_c10) 2  (rr (by decide)) ) rfl mt_X10_fails ml_X10_262 hK hw hA ⟨Nat.le_of_ble_eq_true rfl, Nat.le_of_ble_eq_true rfl⟩ (As := [.int (J 2)]) (rest := []) rfl rfl hl.1 (Nat.le_of_ble_eq_true rfl) 73 rfl dX10_readProduct_70 (fun zz79_ n_79 f_79 H locs rr79_ hq79_ hw => ?_)
                    obtain ⟨x41_79, x42_79, en79_, ef79_, hq79_⟩ := hq79_
                    rw [en79_, ef79_] at hw; clear en79_ ef79_
                    have hw : WM D cy q (upN (upN (upN (upN (upN (upN (upN n_0 24 x24_47) 25 x25_47) 26 x26_47) 27 x27_47) 37 x37_c10) 41 x41_79) 42 x42_79) (upF (upF (upF (upF f_0 30 y30_47) 31 y31_47) 32 y32_c10) 33 y33_c10) A0 H0 H locs := hw
                    have rx41_79 : inR x41_79 := mRn_41 hw.1.2.2.1
                    have rx42_79 : inR x42_79 := mRn_42 hw.1.2.2.1
                    have hh79_ : zz79_ = -1 := hq79_
                    clear hq79_
                    exact hret 73 zz79_ (upN (upN (upN (upN (upN (upN (upN n_0 24 x24_47) 25 x25_47) 26 x26_47) 27 x27_47) 37 x37_c10) 41 x41_79) 42 x42_79) (upF (upF (upF (upF f_0 30 y30_47) 31 y31_47) 32 y32_c10) 33 y33_c10) _ _ ls hw rr79_ ⟨x24_47, x25_47, x26_47, x27_47, x37_c10, x41_79, x42_79, y30_47, y31_47, y32_c10, y33_c10, rfl, rfl, Or.inl ⟨by omega, iv10.2.2.2.1, tk_tr iv10.2.2.2.2 hk_, by omega⟩⟩ dX10_readProduct_73
              · refine j_aload_n E 52 rfl dX10_readProduct_51 rfl (lv_at hl 1 rfl) ?_
                refine j_iconst E 53 rfl dX10_readProduct_52 ?_
                refine m_calli E (c_X10_fails l D cy q (upN (upN (upN (upN (upN (upN (upN n_0 24 x24_47) 25 x25_47) 26 x26_47) 27 x27_47) 37 x37_c10) 41 x41_c10) 42 x42_c10) (upF (upF (upF (upF f_0 30 y30_47) 31 y31_47) 32 y32_c10) 33 y33_c10) 1  (rr (by decide)) ) rfl mt_X10_fails ml_X10_262 hK hw hA ⟨Nat.le_of_ble_eq_true rfl, Nat.le_of_ble_eq_true rfl⟩ (As := [.int (J 1)]) (rest := []) rfl rfl hl.1 (Nat.le_of_ble_eq_true rfl) 56 rfl dX10_readProduct_53 (fun zz80_ n_80 f_80 H locs rr80_ hq80_ hw => ?_)
                obtain ⟨x41_80, x42_80, en80_, ef80_, hq80_⟩ := hq80_
                rw [en80_, ef80_] at hw; clear en80_ ef80_
                have hw : WM D cy q (upN (upN (upN (upN (upN (upN (upN n_0 24 x24_47) 25 x25_47) 26 x26_47) 27 x27_47) 37 x37_c10) 41 x41_80) 42 x42_80) (upF (upF (upF (upF f_0 30 y30_47) 31 y31_47) 32 y32_c10) 33 y33_c10) A0 H0 H locs := hw
                have rx41_80 : inR x41_80 := mRn_41 hw.1.2.2.1
                have rx42_80 : inR x42_80 := mRn_42 hw.1.2.2.1
                have hh80_ : zz80_ = -1 := hq80_
                clear hq80_
                exact hret 56 zz80_ (upN (upN (upN (upN (upN (upN (upN n_0 24 x24_47) 25 x25_47) 26 x26_47) 27 x27_47) 37 x37_c10) 41 x41_80) 42 x42_80) (upF (upF (upF (upF f_0 30 y30_47) 31 y31_47) 32 y32_c10) 33 y33_c10) _ _ ls hw rr80_ ⟨x24_47, x25_47, x26_47, x27_47, x37_c10, x41_80, x42_80, y30_47, y31_47, y32_c10, y33_c10, rfl, rfl, Or.inl ⟨by omega, iv10.2.2.2.1, tk_tr iv10.2.2.2.2 hk_, by omega⟩⟩ dX10_readProduct_56
          · subst ee44_
            refine j_if_eq E 28 102 rfl (rr (by decide)) dX10_readProduct_25 (by decide) (fun _ => ?_) (fun cc81_ => absurd cc81_ (by decide))
            refine j_iconst E 103 rfl dX10_readProduct_102 ?_
            exact hret 103 0 (upN (upN (upN (upN (upN (upN (upN n_0 24 x24_c10) 25 x25_c10) 26 x26_c10) 27 x27_c10) 37 x37_c10) 41 x41_c10) 42 x42_c10) (upF (upF (upF (upF f_0 30 y30_c10) 31 y31_c10) 32 y32_c10) 33 y33_c10) _ _ ls hw (rr (by decide)) ⟨x24_c10, x25_c10, x26_c10, x27_c10, x37_c10, x41_c10, x42_c10, y30_c10, y31_c10, y32_c10, y33_c10, rfl, rfl, Or.inr ⟨rfl, iv10.2.2.2.1, iv10.2.2.2.2, by omega, by omega, by omega, by omega, iv10.2.2.1⟩⟩ dX10_readProduct_103
    exact L10_4 _  x24_1 x25_1 x26_1 x27_1 x37_1 x41_1 x42_1 y30_1 y31_1 y32_1 y33_1 H locs ls  (⟨by omega, by omega, h0_.2.2.2.2.2.2.1, h0_.1, h0_.2.1⟩) (mk_lt _) hw (lv_sub hl [0] rfl)
set_option maxHeartbeats 4000000 in
set_option maxRecDepth 100000 in
theorem c_X10_readSum (l : Launch) (D : va_G) (cy : Nat → ClassId) (q : Nat → Nat) (n_0 : Nat → Int) (f_0 : Nat → Int → Int) (dl_ : Int) (lo_ : Int) (el_ : Int) (hp0 : 0 ≤ (n_0 29) ∧ (n_0 29) < 32) (hp1 : 0 ≤ (n_0 23) ∧ (n_0 23) ≤ 400) (hp2 : Wds_ (f_0 28)) (hp3 : 0 ≤ dl_ ∧ (0 ≤ (n_0 25) ∧ (n_0 25) ≤ (n_0 24) ∧ (n_0 24) ≤ (n_0 23)) ∧ (0 ≤ (f_0 31 ((n_0 29))) ∧ (f_0 31 ((n_0 29))) ≤ (n_0 24)) ∧ (0 ≤ (n_0 26) ∧ (n_0 26) ≤ 4) ∧ (¬ (n_0 26) = 0 → (n_0 25) < (n_0 24)) ∧ ((n_0 26) = 3 → 0 ≤ (n_0 27) ∧ (n_0 27) ≤ 9999) ∧ (0 ≤ lo_ ∧ lo_ ≤ (n_0 37)) ∧ (n_0 37) + dl_ ≤ (n_0 25)) (hp4 : Pz_ (f_0 32) (f_0 33) (400 * (n_0 29) + lo_) (400 * (n_0 29) + (n_0 37)) el_) : MC l D cy q yX10_readSum cX10_readSum 2 (some .int) 5 [] n_0 f_0 (PI (fun (z_0 : Int) (n_2 : Nat → Int) (f_2 : Nat → Int → Int) => ∃ (x24_2 : Int) (x25_2 : Int) (x26_2 : Int) (x27_2 : Int) (x37_2 : Int) (x41_2 : Int) (x42_2 : Int) (y30_2 : Int → Int) (y31_2 : Int → Int) (y32_2 : Int → Int) (y33_2 : Int → Int) , n_2 = upN (upN (upN (upN (upN (upN (upN n_0 24 x24_2) 25 x25_2) 26 x26_2) 27 x27_2) 37 x37_2) 41 x41_2) 42 x42_2 ∧ f_2 = upF (upF (upF (upF f_0 30 y30_2) 31 y31_2) 32 y32_2) 33 y33_2 ∧ ((z_0 = -1 ∧ Fr_ (f_0 32) (f_0 33) (y32_2) (y33_2) (400 * (n_0 29) + (n_0 37)) ∧ (∀ i, i ≠ (n_0 29) → (y31_2 i) = (f_0 31 i)) ∧ (0 ≤ (y31_2 ((n_0 29))) ∧ (y31_2 ((n_0 29))) ≤ 400)) ∨ (z_0 = 0 ∧ Fr_ (f_0 32) (f_0 33) (y32_2) (y33_2) (400 * (n_0 29) + (n_0 37)) ∧ (∀ i, i ≠ (n_0 29) → (y31_2 i) = (f_0 31 i)) ∧ (0 ≤ (y31_2 ((n_0 29))) ∧ (y31_2 ((n_0 29))) ≤ 400) ∧ ((0 ≤ (x25_2) ∧ (x25_2) ≤ (x24_2) ∧ (x24_2) ≤ (n_0 23)) ∧ (0 ≤ (y31_2 ((n_0 29))) ∧ (y31_2 ((n_0 29))) ≤ (x24_2)) ∧ (0 ≤ (x26_2) ∧ (x26_2) ≤ 4) ∧ (¬ (x26_2) = 0 → (x25_2) < (x24_2)) ∧ ((x26_2) = 3 → 0 ≤ (x27_2) ∧ (x27_2) ≤ 9999) ∧ (0 ≤ lo_ ∧ lo_ ≤ (x37_2)) ∧ (x37_2) + dl_ ≤ (x25_2)) ∧ (n_0 25) < (x25_2) ∧ (n_0 37) ≤ (x37_2) ∧ Pz_ (y32_2) (y33_2) (400 * (n_0 29) + lo_) (400 * (n_0 29) + (x37_2)) (el_ + 1))))) := by
  refine MC.ofi rfl (Nat.le_of_ble_eq_true rfl) ?_
  intro p e s m below meth c ls ar QW A0 H0 H locs E hK hA hw hl hret
  have hl : lv_has ls 2 [(0, .ref (q 0))] := hl
  have hb_ : 0 ≤ el_ ∧ el_ ≤ 400 * n_0 29 + n_0 37 - (400 * n_0 29 + lo_) := hp4.2
  refine j_aload_n E 1 rfl dX10_readSum_0 rfl (lv_at hl 0 rfl) ?_
  refine m_calli E (c_X10_readProduct l D cy q (n_0) (f_0)  dl_ lo_ el_  (show 0 ≤ (n_0 29) ∧ (n_0 29) < 32 from by omega) (show 0 ≤ (n_0 23) ∧ (n_0 23) ≤ 400 from by omega) (show Wds_ (f_0 28) from hp2) (show 0 ≤ dl_ ∧ (0 ≤ (n_0 25) ∧ (n_0 25) ≤ (n_0 24) ∧ (n_0 24) ≤ (n_0 23)) ∧ (0 ≤ (f_0 31 ((n_0 29))) ∧ (f_0 31 ((n_0 29))) ≤ (n_0 24)) ∧ (0 ≤ (n_0 26) ∧ (n_0 26) ≤ 4) ∧ (¬ (n_0 26) = 0 → (n_0 25) < (n_0 24)) ∧ ((n_0 26) = 3 → 0 ≤ (n_0 27) ∧ (n_0 27) ≤ 9999) ∧ (0 ≤ lo_ ∧ lo_ ≤ (n_0 37)) ∧ (n_0 37) + dl_ ≤ (n_0 25) from by omega) (show Pz_ (f_0 32) (f_0 33) (400 * (n_0 29) + lo_) (400 * (n_0 29) + (n_0 37)) el_ from hp4)) rfl mt_X10_readProduct ml_X10_279 hK hw hA ⟨Nat.le_of_ble_eq_true rfl, Nat.le_of_ble_eq_true rfl⟩ (As := []) (rest := []) rfl rfl hl.1 (Nat.le_of_ble_eq_true rfl) 4 rfl dX10_readSum_1 (fun zz1_ n_1 f_1 H locs rr1_ hq1_ hw => ?_)
  obtain ⟨x24_1, x25_1, x26_1, x27_1, x37_1, x41_1, x42_1, y30_1, y31_1, y32_1, y33_1, en1_, ef1_, hq1_⟩ := hq1_
  rw [en1_, ef1_] at hw; clear en1_ ef1_
  have hw : WM D cy q (upN (upN (upN (upN (upN (upN (upN n_0 24 x24_1) 25 x25_1) 26 x26_1) 27 x27_1) 37 x37_1) 41 x41_1) 42 x42_1) (upF (upF (upF (upF f_0 30 y30_1) 31 y31_1) 32 y32_1) 33 y33_1) A0 H0 H locs := hw
  have rx24_1 : inR x24_1 := mRn_24 hw.1.2.2.1
  have rx25_1 : inR x25_1 := mRn_25 hw.1.2.2.1
  have rx26_1 : inR x26_1 := mRn_26 hw.1.2.2.1
  have rx27_1 : inR x27_1 := mRn_27 hw.1.2.2.1
  have rx37_1 : inR x37_1 := mRn_37 hw.1.2.2.1
  have rx41_1 : inR x41_1 := mRn_41 hw.1.2.2.1
  have rx42_1 : inR x42_1 := mRn_42 hw.1.2.2.1
  have hh1_ : (zz1_ = -1 ∧ Fr_ (f_0 32) (f_0 33) (y32_1) (y33_1) (400 * (n_0 29) + (n_0 37)) ∧ (∀ i, i ≠ (n_0 29) → (y31_1 i) = (f_0 31 i)) ∧ (0 ≤ (y31_1 ((n_0 29))) ∧ (y31_1 ((n_0 29))) ≤ 400)) ∨ (zz1_ = 0 ∧ Fr_ (f_0 32) (f_0 33) (y32_1) (y33_1) (400 * (n_0 29) + (n_0 37)) ∧ (∀ i, i ≠ (n_0 29) → (y31_1 i) = (f_0 31 i)) ∧ (0 ≤ (y31_1 ((n_0 29))) ∧ (y31_1 ((n_0 29))) ≤ 400) ∧ ((0 ≤ (x25_1) ∧ (x25_1) ≤ (x24_1) ∧ (x24_1) ≤ (n_0 23)) ∧ (0 ≤ (y31_1 ((n_0 29))) ∧ (y31_1 ((n_0 29))) ≤ (x24_1)) ∧ (0 ≤ (x26_1) ∧ (x26_1) ≤ 4) ∧ (¬ (x26_1) = 0 → (x25_1) < (x24_1)) ∧ ((x26_1) = 3 → 0 ≤ (x27_1) ∧ (x27_1) ≤ 9999) ∧ (0 ≤ lo_ ∧ lo_ ≤ (x37_1)) ∧ (x37_1) + dl_ ≤ (x25_1)) ∧ (n_0 25) < (x25_1) ∧ (n_0 37) ≤ (x37_1) ∧ Pz_ (y32_1) (y33_1) (400 * (n_0 29) + lo_) (400 * (n_0 29) + (x37_1)) (el_ + 1)) := hq1_
  clear hq1_
  rcases hh1_ with ⟨ee1_, hh1_⟩ | ⟨ee1_, hh1_⟩
  · subst ee1_
    have hx_ := hh1_
    refine j_iconst E 5 rfl dX10_readSum_4 ?_
    refine j_icmp_ne E 8 10 rfl (rr (by decide)) (rr (by decide)) dX10_readSum_5 (by decide) (fun cc2_ => absurd cc2_ (by decide)) (fun _ => ?_)
    refine j_iconst E 9 rfl dX10_readSum_8 ?_
    exact hret 9 ((-1)) (upN (upN (upN (upN (upN (upN (upN n_0 24 x24_1) 25 x25_1) 26 x26_1) 27 x27_1) 37 x37_1) 41 x41_1) 42 x42_1) (upF (upF (upF (upF f_0 30 y30_1) 31 y31_1) 32 y32_1) 33 y33_1) _ _ ls hw (rr (by decide)) ⟨x24_1, x25_1, x26_1, x27_1, x37_1, x41_1, x42_1, y30_1, y31_1, y32_1, y33_1, rfl, rfl, Or.inl ⟨rfl, hx_⟩⟩ dX10_readSum_9
  · subst ee1_
    have h0_ := hh1_
    refine j_iconst E 5 rfl dX10_readSum_4 ?_
    refine j_icmp_ne E 8 10 rfl (rr (by decide)) (rr (by decide)) dX10_readSum_5 (by decide) (fun _ => ?_) (fun cc3_ => absurd cc3_ (by decide))
    have L10_4 : ∀ (k10 : Nat) (x24_c10 : Int) (x25_c10 : Int) (x26_c10 : Int) (x27_c10 : Int) (x37_c10 : Int) (x41_c10 : Int) (x42_c10 : Int) (y30_c10 : Int → Int) (y31_c10 : Int → Int) (y32_c10 : Int → Int) (y33_c10 : Int → Int) (H : Heap) (locs : List Loc) (ls : Array Slot), (((0 ≤ (x25_c10) ∧ (x25_c10) ≤ (x24_c10) ∧ (x24_c10) ≤ (n_0 23)) ∧ (0 ≤ (y31_c10 ((n_0 29))) ∧ (y31_c10 ((n_0 29))) ≤ (x24_c10)) ∧ (0 ≤ (x26_c10) ∧ (x26_c10) ≤ 4) ∧ (¬ (x26_c10) = 0 → (x25_c10) < (x24_c10)) ∧ ((x26_c10) = 3 → 0 ≤ (x27_c10) ∧ (x27_c10) ≤ 9999) ∧ (0 ≤ lo_ ∧ lo_ ≤ (x37_c10)) ∧ (x37_c10) + dl_ ≤ (x25_c10)) ∧ (n_0 25 < (x25_c10) ∧ n_0 37 ≤ (x37_c10)) ∧ Pz_ (y32_c10) (y33_c10) (400 * (n_0 29) + lo_) (400 * (n_0 29) + (x37_c10)) (el_ + 1) ∧ Fr_ (f_0 32) (f_0 33) (y32_c10) (y33_c10) (400 * n_0 29 + n_0 37) ∧ (∀ i, i ≠ n_0 29 → (y31_c10 i) = f_0 31 i)) → ((n_0 23) + 1 - (x25_c10)) < (k10 : Int) → WM D cy q (upN (upN (upN (upN (upN (upN (upN n_0 24 x24_c10) 25 x25_c10) 26 x26_c10) 27 x27_c10) 37 x37_c10) 41 x41_c10) 42 x42_c10) (upF (upF (upF (upF f_0 30 y30_c10) 31 y31_c10) 32 y32_c10) 33 y33_c10) A0 H0 H locs → lv_has ls 2 [(0, .ref (q 0))] → W p l e (rmd 5 0 0) s m ar below meth c H locs 0 0 QW (F0 m 10 ls []) := by
      intro k10
      induction k10 with
      | zero =>
        intro x24_c10 x25_c10 x26_c10 x27_c10 x37_c10 x41_c10 x42_c10 y30_c10 y31_c10 y32_c10 y33_c10 H locs ls iv10 ms10 hw hl
        exfalso; omega
      | succ k10 ih10 =>
        intro x24_c10 x25_c10 x26_c10 x27_c10 x37_c10 x41_c10 x42_c10 y30_c10 y31_c10 y32_c10 y33_c10 H locs ls iv10 ms10 hw hl
        have rx24_c10 : inR x24_c10 := mRn_24 hw.1.2.2.1
        have rx25_c10 : inR x25_c10 := mRn_25 hw.1.2.2.1
        have rx26_c10 : inR x26_c10 := mRn_26 hw.1.2.2.1
        have rx27_c10 : inR x27_c10 := mRn_27 hw.1.2.2.1
        have rx37_c10 : inR x37_c10 := mRn_37 hw.1.2.2.1
        have rx41_c10 : inR x41_c10 := mRn_41 hw.1.2.2.1
        have rx42_c10 : inR x42_c10 := mRn_42 hw.1.2.2.1
        refine j_aload_n E 11 rfl dX10_readSum_10 rfl (lv_at hl 0 rfl) ?_
        refine j_bipush E 13 rfl dX10_readSum_11 (by decide) ?_
        refine m_callp (po := fun z_0 => (z_0 = 1 ∧ (x26_c10) = 4 ∧ (x27_c10) = (43 : Int)) ∨ (z_0 = 0 ∧ ¬ ((x26_c10) = 4 ∧ (x27_c10) = (43 : Int)))) E (c_X10_isSign l D cy q (upN (upN (upN (upN (upN (upN (upN n_0 24 x24_c10) 25 x25_c10) 26 x26_c10) 27 x27_c10) 37 x37_c10) 41 x41_c10) 42 x42_c10) (upF (upF (upF (upF f_0 30 y30_c10) 31 y31_c10) 32 y32_c10) 33 y33_c10) 43  (rr (by decide)) ) rfl mt_X10_isSign ml_X10_276 hK hw hA ⟨Nat.le_of_ble_eq_true rfl, Nat.le_of_ble_eq_true rfl⟩ (As := [.int (J 43)]) (rest := []) rfl rfl hl.1 (Nat.le_of_ble_eq_true rfl) 16 rfl dX10_readSum_13 (fun zz6_ H locs rr6_ hq6_ hw => ?_)
        have hh6_ : (zz6_ = 1 ∧ (x26_c10) = 4 ∧ (x27_c10) = (43 : Int)) ∨ (zz6_ = 0 ∧ ¬ ((x26_c10) = 4 ∧ (x27_c10) = (43 : Int))) := hq6_
        clear hq6_
        rcases hh6_ with ⟨ee6_, hh6_⟩ | ⟨ee6_, hh6_⟩
        · subst ee6_
          refine j_if_ne E 19 28 rfl (rr (by decide)) dX10_readSum_16 (by decide) (fun _ => ?_) (fun cc7_ => absurd cc7_ (by decide))
          refine j_aload_n E 29 rfl dX10_readSum_28 rfl (lv_at hl 0 rfl) ?_
          refine m_get_27 E hK hw x27_c10 rfl 32 rfl dX10_readSum_29 (fun _ => ?_)
          refine j_bipush E 34 rfl dX10_readSum_32 (by decide) ?_
          refine j_icmp_ne E 37 41 rfl rx27_c10 (rr (by decide)) dX10_readSum_34 (by decide) (fun cc8_ => ?_) (fun cc8_ => ?_)
          · refine j_iconst E 42 rfl dX10_readSum_41 ?_
            refine j_istore_n E 43 rfl [(1, .int (J 4)), (0, .ref (q 0))] dX10_readSum_42 rfl hl (by decide) rfl (fun ls hl => ?_)
            refine j_aload_n E 44 rfl dX10_readSum_43 rfl (lv_at hl 1 rfl) ?_
            refine m_callv E (c_X10_next l D cy q (upN (upN (upN (upN (upN (upN (upN n_0 24 x24_c10) 25 x25_c10) 26 x26_c10) 27 x27_c10) 37 x37_c10) 41 x41_c10) 42 x42_c10) (upF (upF (upF (upF f_0 30 y30_c10) 31 y31_c10) 32 y32_c10) 33 y33_c10)    (show 0 ≤ (n_0 29) ∧ (n_0 29) < 32 from by omega) (show 0 ≤ (n_0 23) ∧ (n_0 23) ≤ 400 from by omega) (show Wds_ (f_0 28) from hp2) (show 0 ≤ (x24_c10) ∧ (x24_c10) ≤ (n_0 23) from by omega) (show 0 ≤ (y31_c10 ((n_0 29))) ∧ (y31_c10 ((n_0 29))) ≤ (x24_c10) from by omega)) rfl mt_X10_next ml_X10_269 hK hw hA ⟨Nat.le_of_ble_eq_true rfl, Nat.le_of_ble_eq_true rfl⟩ (As := []) (rest := []) rfl rfl hl.1 (Nat.le_of_ble_eq_true rfl) 47 rfl dX10_readSum_44 (fun n_9 f_9 H locs hq9_ hw => ?_)
            obtain ⟨x24_9, x25_9, x26_9, x27_9, y30_9, y31_9, en9_, ef9_, hq9_⟩ := hq9_
            rw [en9_, ef9_] at hw; clear en9_ ef9_
            have hw : WM D cy q (upN (upN (upN (upN (upN (upN (upN n_0 24 x24_9) 25 x25_9) 26 x26_9) 27 x27_9) 37 x37_c10) 41 x41_c10) 42 x42_c10) (upF (upF (upF (upF f_0 30 y30_9) 31 y31_9) 32 y32_c10) 33 y33_c10) A0 H0 H locs := hw
            have rx24_9 : inR x24_9 := mRn_24 hw.1.2.2.1
            have rx25_9 : inR x25_9 := mRn_25 hw.1.2.2.1
            have rx26_9 : inR x26_9 := mRn_26 hw.1.2.2.1
            have rx27_9 : inR x27_9 := mRn_27 hw.1.2.2.1
            have hh9_ : (0 ≤ (x25_9) ∧ (x25_9) ≤ (x24_9) ∧ (x24_9) ≤ (n_0 23)) ∧ (0 ≤ (y31_9 ((n_0 29))) ∧ (y31_9 ((n_0 29))) ≤ (x24_9)) ∧ (0 ≤ (x26_9) ∧ (x26_9) ≤ 4) ∧ (¬ (x26_9) = 0 → (x25_9) < (x24_9)) ∧ ((x26_9) = 3 → 0 ≤ (x27_9) ∧ (x27_9) ≤ 9999) ∧ (x24_c10) ≤ (x25_9) ∧ (∀ i, i ≠ (n_0 29) → (y31_9 i) = (y31_c10 i)) := hq9_
            clear hq9_
            have hk_ := hh9_.2.2.2.2.2.2
            refine j_aload_n E 48 rfl dX10_readSum_47 rfl (lv_at hl 1 rfl) ?_
            refine m_calli E (c_X10_readProduct l D cy q (upN (upN (upN (upN (upN (upN (upN n_0 24 x24_9) 25 x25_9) 26 x26_9) 27 x27_9) 37 x37_c10) 41 x41_c10) 42 x42_c10) (upF (upF (upF (upF f_0 30 y30_9) 31 y31_9) 32 y32_c10) 33 y33_c10)  (dl_ + 1) lo_ (el_ + 1)  (show 0 ≤ (n_0 29) ∧ (n_0 29) < 32 from by omega) (show 0 ≤ (n_0 23) ∧ (n_0 23) ≤ 400 from by omega) (show Wds_ (f_0 28) from hp2) (show 0 ≤ (dl_ + 1) ∧ (0 ≤ (x25_9) ∧ (x25_9) ≤ (x24_9) ∧ (x24_9) ≤ (n_0 23)) ∧ (0 ≤ (y31_9 ((n_0 29))) ∧ (y31_9 ((n_0 29))) ≤ (x24_9)) ∧ (0 ≤ (x26_9) ∧ (x26_9) ≤ 4) ∧ (¬ (x26_9) = 0 → (x25_9) < (x24_9)) ∧ ((x26_9) = 3 → 0 ≤ (x27_9) ∧ (x27_9) ≤ 9999) ∧ (0 ≤ lo_ ∧ lo_ ≤ (x37_c10)) ∧ (x37_c10) + (dl_ + 1) ≤ (x25_9) from by omega) (show Pz_ (y32_c10) (y33_c10) (400 * (n_0 29) + lo_) (400 * (n_0 29) + (x37_c10)) (el_ + 1) from iv10.2.2.1)) rfl mt_X10_readProduct ml_X10_279 hK hw hA ⟨Nat.le_of_ble_eq_true rfl, Nat.le_of_ble_eq_true rfl⟩ (As := []) (rest := []) rfl rfl hl.1 (Nat.le_of_ble_eq_true rfl) 51 rfl dX10_readSum_48 (fun zz10_ n_10 f_10 H locs rr10_ hq10_ hw => ?_)
            obtain ⟨x24_10, x25_10, x26_10, x27_10, x37_10, x41_10, x42_10, y30_10, y31_10, y32_10, y33_10, en10_, ef10_, hq10_⟩ := hq10_
            rw [en10_, ef10_] at hw; clear en10_ ef10_
            have hw : WM D cy q (upN (upN (upN (upN (upN (upN (upN n_0 24 x24_10) 25 x25_10) 26 x26_10) 27 x27_10) 37 x37_10) 41 x41_10) 42 x42_10) (upF (upF (upF (upF f_0 30 y30_10) 31 y31_10) 32 y32_10) 33 y33_10) A0 H0 H locs := hw
            have rx24_10 : inR x24_10 := mRn_24 hw.1.2.2.1
            have rx25_10 : inR x25_10 := mRn_25 hw.1.2.2.1
            have rx26_10 : inR x26_10 := mRn_26 hw.1.2.2.1
            have rx27_10 : inR x27_10 := mRn_27 hw.1.2.2.1
            have rx37_10 : inR x37_10 := mRn_37 hw.1.2.2.1
            have rx41_10 : inR x41_10 := mRn_41 hw.1.2.2.1
            have rx42_10 : inR x42_10 := mRn_42 hw.1.2.2.1
            have hh10_ : (zz10_ = -1 ∧ Fr_ (y32_c10) (y33_c10) (y32_10) (y33_10) (400 * (n_0 29) + (x37_c10)) ∧ (∀ i, i ≠ (n_0 29) → (y31_10 i) = (y31_9 i)) ∧ (0 ≤ (y31_10 ((n_0 29))) ∧ (y31_10 ((n_0 29))) ≤ 400)) ∨ (zz10_ = 0 ∧ Fr_ (y32_c10) (y33_c10) (y32_10) (y33_10) (400 * (n_0 29) + (x37_c10)) ∧ (∀ i, i ≠ (n_0 29) → (y31_10 i) = (y31_9 i)) ∧ (0 ≤ (y31_10 ((n_0 29))) ∧ (y31_10 ((n_0 29))) ≤ 400) ∧ ((0 ≤ (x25_10) ∧ (x25_10) ≤ (x24_10) ∧ (x24_10) ≤ (n_0 23)) ∧ (0 ≤ (y31_10 ((n_0 29))) ∧ (y31_10 ((n_0 29))) ≤ (x24_10)) ∧ (0 ≤ (x26_10) ∧ (x26_10) ≤ 4) ∧ (¬ (x26_10) = 0 → (x25_10) < (x24_10)) ∧ ((x26_10) = 3 → 0 ≤ (x27_10) ∧ (x27_10) ≤ 9999) ∧ (0 ≤ lo_ ∧ lo_ ≤ (x37_10)) ∧ (x37_10) + (dl_ + 1) ≤ (x25_10)) ∧ (x25_9) < (x25_10) ∧ (x37_c10) ≤ (x37_10) ∧ Pz_ (y32_10) (y33_10) (400 * (n_0 29) + lo_) (400 * (n_0 29) + (x37_10)) ((el_ + 1) + 1)) := hq10_
            clear hq10_
            rcases hh10_ with ⟨ee10_, hh10_⟩ | ⟨ee10_, hh10_⟩
            · subst ee10_
              have hx2_ := hh10_
              refine j_iconst E 52 rfl dX10_readSum_51 ?_
              refine j_icmp_ne E 55 57 rfl (rr (by decide)) (rr (by decide)) dX10_readSum_52 (by decide) (fun cc11_ => absurd cc11_ (by decide)) (fun _ => ?_)
              refine j_iconst E 56 rfl dX10_readSum_55 ?_
              exact hret 56 ((-1)) (upN (upN (upN (upN (upN (upN (upN n_0 24 x24_10) 25 x25_10) 26 x26_10) 27 x27_10) 37 x37_10) 41 x41_10) 42 x42_10) (upF (upF (upF (upF f_0 30 y30_10) 31 y31_10) 32 y32_10) 33 y33_10) _ _ ls hw (rr (by decide)) ⟨x24_10, x25_10, x26_10, x27_10, x37_10, x41_10, x42_10, y30_10, y31_10, y32_10, y33_10, rfl, rfl, Or.inl ⟨rfl, Fr_tr iv10.2.2.2.1 hx2_.1 (by omega), tk_tr iv10.2.2.2.2 (tk_tr hk_ hx2_.2.1), hx2_.2.2⟩⟩ dX10_readSum_56
            · subst ee10_
              have h2_ := hh10_
              have hb2_ := (h2_.2.2.2.2.2.2).2
              refine j_iconst E 52 rfl dX10_readSum_51 ?_
              refine j_icmp_ne E 55 57 rfl (rr (by decide)) (rr (by decide)) dX10_readSum_52 (by decide) (fun _ => ?_) (fun cc12_ => absurd cc12_ (by decide))
              refine j_aload_n E 58 rfl dX10_readSum_57 rfl (lv_at hl 1 rfl) ?_
              refine j_iload_n E 59 rfl dX10_readSum_58 rfl (lv_at hl 0 rfl) ?_
              refine j_iconst E 60 rfl dX10_readSum_59 ?_
              refine m_callv E (c_X10_emits l D cy q (upN (upN (upN (upN (upN (upN (upN n_0 24 x24_10) 25 x25_10) 26 x26_10) 27 x27_10) 37 x37_10) 41 x41_10) 42 x42_10) (upF (upF (upF (upF f_0 30 y30_10) 31 y31_10) 32 y32_10) 33 y33_10) 4 0  (rr (by decide)) (rr (by decide)) (show 0 ≤ (n_0 29) ∧ (n_0 29) < 32 from by omega) (show 0 ≤ (x37_10) ∧ (x37_10) ≤ 399 from by omega)) rfl mt_X10_emits ml_X10_265 hK hw hA ⟨Nat.le_of_ble_eq_true rfl, Nat.le_of_ble_eq_true rfl⟩ (As := [.int (J 4), .int (J 0)]) (rest := []) rfl rfl hl.1 (Nat.le_of_ble_eq_true rfl) 63 rfl dX10_readSum_60 (fun n_13 f_13 H locs hq13_ hw => ?_)
              obtain ⟨x37_13, y32_13, y33_13, en13_, ef13_, hq13_⟩ := hq13_
              rw [en13_, ef13_] at hw; clear en13_ ef13_
              have hw : WM D cy q (upN (upN (upN (upN (upN (upN (upN n_0 24 x24_10) 25 x25_10) 26 x26_10) 27 x27_10) 37 x37_13) 41 x41_10) 42 x42_10) (upF (upF (upF (upF f_0 30 y30_10) 31 y31_10) 32 y32_13) 33 y33_13) A0 H0 H locs := hw
              have rx37_13 : inR x37_13 := mRn_37 hw.1.2.2.1
              have hh13_ : (y32_13) = upA (y32_10) (400 * (n_0 29) + (x37_10)) (4 : Int) ∧ (y33_13) = upA (y33_10) (400 * (n_0 29) + (x37_10)) (0 : Int) ∧ (x37_13) = (x37_10) + 1 := hq13_
              clear hq13_
              have hm_ : (x37_13) = (x37_10) + 1 := hh13_.2.2
              have hz_ : Pz_ (y32_13) (y33_13) (400 * n_0 29 + lo_) (400 * n_0 29 + (x37_13)) (el_ + 1) := by rw [hh13_.1, hh13_.2.1, show 400 * n_0 29 + (x37_13) = 400 * n_0 29 + (x37_10) + 1 by omega]; exact Pz_ext h2_.2.2.2.2.2.2 (by omega) (by omega) (by omega)
              have hf_ : Fr_ (y32_10) (y33_10) (y32_13) (y33_13) (400 * n_0 29 + (x37_10)) := by rw [hh13_.1, hh13_.2.1]; exact Fr_up (by omega)
              refine j_goto E 10 dX10_readSum_63 (by decide) ?_
              exact ih10  x24_10 x25_10 x26_10 x27_10 x37_13 x41_10 x42_10 y30_10 y31_10 y32_13 y33_13 H locs ls  (⟨by omega, by omega, hz_, Fr_tr iv10.2.2.2.1 (Fr_tr h2_.1 hf_ (by omega)) (by omega), tk_tr iv10.2.2.2.2 (tk_tr hk_ h2_.2.1)⟩) (by omega) hw (lv_sub hl [1] rfl)
          · refine j_iconst E 38 rfl dX10_readSum_37 ?_
            refine j_goto E 42 dX10_readSum_38 (by decide) ?_
            refine j_istore_n E 43 rfl [(1, .int (J 3)), (0, .ref (q 0))] dX10_readSum_42 rfl hl (by decide) rfl (fun ls hl => ?_)
            refine j_aload_n E 44 rfl dX10_readSum_43 rfl (lv_at hl 1 rfl) ?_
            refine m_callv E (c_X10_next l D cy q (upN (upN (upN (upN (upN (upN (upN n_0 24 x24_c10) 25 x25_c10) 26 x26_c10) 27 x27_c10) 37 x37_c10) 41 x41_c10) 42 x42_c10) (upF (upF (upF (upF f_0 30 y30_c10) 31 y31_c10) 32 y32_c10) 33 y33_c10)    (show 0 ≤ (n_0 29) ∧ (n_0 29) < 32 from by omega) (show 0 ≤ (n_0 23) ∧ (n_0 23) ≤ 400 from by omega) (show Wds_ (f_0 28) from hp2) (show 0 ≤ (x24_c10) ∧ (x24_c10) ≤ (n_0 23) from by omega) (show 0 ≤ (y31_c10 ((n_0 29))) ∧ (y31_c10 ((n_0 29))) ≤ (x24_c10) from by omega)) rfl mt_X10_next ml_X10_269 hK hw hA ⟨Nat.le_of_ble_eq_true rfl, Nat.le_of_ble_eq_true rfl⟩ (As := []) (rest := []) rfl rfl hl.1 (Nat.le_of_ble_eq_true rfl) 47 rfl dX10_readSum_44 (fun n_14 f_14 H locs hq14_ hw => ?_)
            obtain ⟨x24_14, x25_14, x26_14, x27_14, y30_14, y31_14, en14_, ef14_, hq14_⟩ := hq14_
            rw [en14_, ef14_] at hw; clear en14_ ef14_
            have hw : WM D cy q (upN (upN (upN (upN (upN (upN (upN n_0 24 x24_14) 25 x25_14) 26 x26_14) 27 x27_14) 37 x37_c10) 41 x41_c10) 42 x42_c10) (upF (upF (upF (upF f_0 30 y30_14) 31 y31_14) 32 y32_c10) 33 y33_c10) A0 H0 H locs := hw
            have rx24_14 : inR x24_14 := mRn_24 hw.1.2.2.1
            have rx25_14 : inR x25_14 := mRn_25 hw.1.2.2.1
            have rx26_14 : inR x26_14 := mRn_26 hw.1.2.2.1
            have rx27_14 : inR x27_14 := mRn_27 hw.1.2.2.1
            have hh14_ : (0 ≤ (x25_14) ∧ (x25_14) ≤ (x24_14) ∧ (x24_14) ≤ (n_0 23)) ∧ (0 ≤ (y31_14 ((n_0 29))) ∧ (y31_14 ((n_0 29))) ≤ (x24_14)) ∧ (0 ≤ (x26_14) ∧ (x26_14) ≤ 4) ∧ (¬ (x26_14) = 0 → (x25_14) < (x24_14)) ∧ ((x26_14) = 3 → 0 ≤ (x27_14) ∧ (x27_14) ≤ 9999) ∧ (x24_c10) ≤ (x25_14) ∧ (∀ i, i ≠ (n_0 29) → (y31_14 i) = (y31_c10 i)) := hq14_
            clear hq14_
            have hk_ := hh14_.2.2.2.2.2.2
            refine j_aload_n E 48 rfl dX10_readSum_47 rfl (lv_at hl 1 rfl) ?_
            refine m_calli E (c_X10_readProduct l D cy q (upN (upN (upN (upN (upN (upN (upN n_0 24 x24_14) 25 x25_14) 26 x26_14) 27 x27_14) 37 x37_c10) 41 x41_c10) 42 x42_c10) (upF (upF (upF (upF f_0 30 y30_14) 31 y31_14) 32 y32_c10) 33 y33_c10)  (dl_ + 1) lo_ (el_ + 1)  (show 0 ≤ (n_0 29) ∧ (n_0 29) < 32 from by omega) (show 0 ≤ (n_0 23) ∧ (n_0 23) ≤ 400 from by omega) (show Wds_ (f_0 28) from hp2) (show 0 ≤ (dl_ + 1) ∧ (0 ≤ (x25_14) ∧ (x25_14) ≤ (x24_14) ∧ (x24_14) ≤ (n_0 23)) ∧ (0 ≤ (y31_14 ((n_0 29))) ∧ (y31_14 ((n_0 29))) ≤ (x24_14)) ∧ (0 ≤ (x26_14) ∧ (x26_14) ≤ 4) ∧ (¬ (x26_14) = 0 → (x25_14) < (x24_14)) ∧ ((x26_14) = 3 → 0 ≤ (x27_14) ∧ (x27_14) ≤ 9999) ∧ (0 ≤ lo_ ∧ lo_ ≤ (x37_c10)) ∧ (x37_c10) + (dl_ + 1) ≤ (x25_14) from by omega) (show Pz_ (y32_c10) (y33_c10) (400 * (n_0 29) + lo_) (400 * (n_0 29) + (x37_c10)) (el_ + 1) from iv10.2.2.1)) rfl mt_X10_readProduct ml_X10_279 hK hw hA ⟨Nat.le_of_ble_eq_true rfl, Nat.le_of_ble_eq_true rfl⟩ (As := []) (rest := []) rfl rfl hl.1 (Nat.le_of_ble_eq_true rfl) 51 rfl dX10_readSum_48 (fun zz15_ n_15 f_15 H locs rr15_ hq15_ hw => ?_)
            obtain ⟨x24_15, x25_15, x26_15, x27_15, x37_15, x41_15, x42_15, y30_15, y31_15, y32_15, y33_15, en15_, ef15_, hq15_⟩ := hq15_
            rw [en15_, ef15_] at hw; clear en15_ ef15_
            have hw : WM D cy q (upN (upN (upN (upN (upN (upN (upN n_0 24 x24_15) 25 x25_15) 26 x26_15) 27 x27_15) 37 x37_15) 41 x41_15) 42 x42_15) (upF (upF (upF (upF f_0 30 y30_15) 31 y31_15) 32 y32_15) 33 y33_15) A0 H0 H locs := hw
            have rx24_15 : inR x24_15 := mRn_24 hw.1.2.2.1
            have rx25_15 : inR x25_15 := mRn_25 hw.1.2.2.1
            have rx26_15 : inR x26_15 := mRn_26 hw.1.2.2.1
            have rx27_15 : inR x27_15 := mRn_27 hw.1.2.2.1
            have rx37_15 : inR x37_15 := mRn_37 hw.1.2.2.1
            have rx41_15 : inR x41_15 := mRn_41 hw.1.2.2.1
            have rx42_15 : inR x42_15 := mRn_42 hw.1.2.2.1
            have hh15_ : (zz15_ = -1 ∧ Fr_ (y32_c10) (y33_c10) (y32_15) (y33_15) (400 * (n_0 29) + (x37_c10)) ∧ (∀ i, i ≠ (n_0 29) → (y31_15 i) = (y31_14 i)) ∧ (0 ≤ (y31_15 ((n_0 29))) ∧ (y31_15 ((n_0 29))) ≤ 400)) ∨ (zz15_ = 0 ∧ Fr_ (y32_c10) (y33_c10) (y32_15) (y33_15) (400 * (n_0 29) + (x37_c10)) ∧ (∀ i, i ≠ (n_0 29) → (y31_15 i) = (y31_14 i)) ∧ (0 ≤ (y31_15 ((n_0 29))) ∧ (y31_15 ((n_0 29))) ≤ 400) ∧ ((0 ≤ (x25_15) ∧ (x25_15) ≤ (x24_15) ∧ (x24_15) ≤ (n_0 23)) ∧ (0 ≤ (y31_15 ((n_0 29))) ∧ (y31_15 ((n_0 29))) ≤ (x24_15)) ∧ (0 ≤ (x26_15) ∧ (x26_15) ≤ 4) ∧ (¬ (x26_15) = 0 → (x25_15) < (x24_15)) ∧ ((x26_15) = 3 → 0 ≤ (x27_15) ∧ (x27_15) ≤ 9999) ∧ (0 ≤ lo_ ∧ lo_ ≤ (x37_15)) ∧ (x37_15) + (dl_ + 1) ≤ (x25_15)) ∧ (x25_14) < (x25_15) ∧ (x37_c10) ≤ (x37_15) ∧ Pz_ (y32_15) (y33_15) (400 * (n_0 29) + lo_) (400 * (n_0 29) + (x37_15)) ((el_ + 1) + 1)) := hq15_
            clear hq15_
            rcases hh15_ with ⟨ee15_, hh15_⟩ | ⟨ee15_, hh15_⟩
            · subst ee15_
              have hx2_ := hh15_
              refine j_iconst E 52 rfl dX10_readSum_51 ?_
              refine j_icmp_ne E 55 57 rfl (rr (by decide)) (rr (by decide)) dX10_readSum_52 (by decide) (fun cc16_ => absurd cc16_ (by decide)) (fun _ => ?_)
              refine j_iconst E 56 rfl dX10_readSum_55 ?_
              exact hret 56 ((-1)) (upN (upN (upN (upN (upN (upN (upN n_0 24 x24_15) 25 x25_15) 26 x26_15) 27 x27_15) 37 x37_15) 41 x41_15) 42 x42_15) (upF (upF (upF (upF f_0 30 y30_15) 31 y31_15) 32 y32_15) 33 y33_15) _ _ ls hw (rr (by decide)) ⟨x24_15, x25_15, x26_15, x27_15, x37_15, x41_15, x42_15, y30_15, y31_15, y32_15, y33_15, rfl, rfl, Or.inl ⟨rfl, Fr_tr iv10.2.2.2.1 hx2_.1 (by omega), tk_tr iv10.2.2.2.2 (tk_tr hk_ hx2_.2.1), hx2_.2.2⟩⟩ dX10_readSum_56
            · subst ee15_
              have h2_ := hh15_
              have hb2_ := (h2_.2.2.2.2.2.2).2
              refine j_iconst E 52 rfl dX10_readSum_51 ?_
              refine j_icmp_ne E 55 57 rfl (rr (by decide)) (rr (by decide)) dX10_readSum_52 (by decide) (fun _ => ?_) (fun cc17_ => absurd cc17_ (by decide))
              refine j_aload_n E 58 rfl dX10_readSum_57 rfl (lv_at hl 1 rfl) ?_
              refine j_iload_n E 59 rfl dX10_readSum_58 rfl (lv_at hl 0 rfl) ?_
              refine j_iconst E 60 rfl dX10_readSum_59 ?_
              refine m_callv E (c_X10_emits l D cy q (upN (upN (upN (upN (upN (upN (upN n_0 24 x24_15) 25 x25_15) 26 x26_15) 27 x27_15) 37 x37_15) 41 x41_15) 42 x42_15) (upF (upF (upF (upF f_0 30 y30_15) 31 y31_15) 32 y32_15) 33 y33_15) 3 0  (rr (by decide)) (rr (by decide)) (show 0 ≤ (n_0 29) ∧ (n_0 29) < 32 from by omega) (show 0 ≤ (x37_15) ∧ (x37_15) ≤ 399 from by omega)) rfl mt_X10_emits ml_X10_265 hK hw hA ⟨Nat.le_of_ble_eq_true rfl, Nat.le_of_ble_eq_true rfl⟩ (As := [.int (J 3), .int (J 0)]) (rest := []) rfl rfl hl.1 (Nat.le_of_ble_eq_true rfl) 63 rfl dX10_readSum_60 (fun n_18 f_18 H locs hq18_ hw => ?_)
              obtain ⟨x37_18, y32_18, y33_18, en18_, ef18_, hq18_⟩ := hq18_
              rw [en18_, ef18_] at hw; clear en18_ ef18_
              have hw : WM D cy q (upN (upN (upN (upN (upN (upN (upN n_0 24 x24_15) 25 x25_15) 26 x26_15) 27 x27_15) 37 x37_18) 41 x41_15) 42 x42_15) (upF (upF (upF (upF f_0 30 y30_15) 31 y31_15) 32 y32_18) 33 y33_18) A0 H0 H locs := hw
              have rx37_18 : inR x37_18 := mRn_37 hw.1.2.2.1
              have hh18_ : (y32_18) = upA (y32_15) (400 * (n_0 29) + (x37_15)) (3 : Int) ∧ (y33_18) = upA (y33_15) (400 * (n_0 29) + (x37_15)) (0 : Int) ∧ (x37_18) = (x37_15) + 1 := hq18_
              clear hq18_
              have hm_ : (x37_18) = (x37_15) + 1 := hh18_.2.2
              have hz_ : Pz_ (y32_18) (y33_18) (400 * n_0 29 + lo_) (400 * n_0 29 + (x37_18)) (el_ + 1) := by rw [hh18_.1, hh18_.2.1, show 400 * n_0 29 + (x37_18) = 400 * n_0 29 + (x37_15) + 1 by omega]; exact Pz_ext h2_.2.2.2.2.2.2 (by omega) (by omega) (by omega)
              have hf_ : Fr_ (y32_15) (y33_15) (y32_18) (y33_18) (400 * n_0 29 + (x37_15)) := by rw [hh18_.1, hh18_.2.1]; exact Fr_up (by omega)
              refine j_goto E 10 dX10_readSum_63 (by decide) ?_
              exact ih10  x24_15 x25_15 x26_15 x27_15 x37_18 x41_15 x42_15 y30_15 y31_15 y32_18 y33_18 H locs ls  (⟨by omega, by omega, hz_, Fr_tr iv10.2.2.2.1 (Fr_tr h2_.1 hf_ (by omega)) (by omega), tk_tr iv10.2.2.2.2 (tk_tr hk_ h2_.2.1)⟩) (by omega) hw (lv_sub hl [1] rfl)
        · subst ee6_
          refine j_if_ne E 19 28 rfl (rr (by decide)) dX10_readSum_16 (by decide) (fun cc19_ => absurd cc19_ (by decide)) (fun _ => ?_)
          refine j_aload_n E 20 rfl dX10_readSum_19 rfl (lv_at hl 0 rfl) ?_
          refine j_bipush E 22 rfl dX10_readSum_20 (by decide) ?_
          refine m_callp (po := fun z_0 => (z_0 = 1 ∧ (x26_c10) = 4 ∧ (x27_c10) = (45 : Int)) ∨ (z_0 = 0 ∧ ¬ ((x26_c10) = 4 ∧ (x27_c10) = (45 : Int)))) E (c_X10_isSign l D cy q (upN (upN (upN (upN (upN (upN (upN n_0 24 x24_c10) 25 x25_c10) 26 x26_c10) 27 x27_c10) 37 x37_c10) 41 x41_c10) 42 x42_c10) (upF (upF (upF (upF f_0 30 y30_c10) 31 y31_c10) 32 y32_c10) 33 y33_c10) 45  (rr (by decide)) ) rfl mt_X10_isSign ml_X10_276 hK hw hA ⟨Nat.le_of_ble_eq_true rfl, Nat.le_of_ble_eq_true rfl⟩ (As := [.int (J 45)]) (rest := []) rfl rfl hl.1 (Nat.le_of_ble_eq_true rfl) 25 rfl dX10_readSum_22 (fun zz20_ H locs rr20_ hq20_ hw => ?_)
          have hh20_ : (zz20_ = 1 ∧ (x26_c10) = 4 ∧ (x27_c10) = (45 : Int)) ∨ (zz20_ = 0 ∧ ¬ ((x26_c10) = 4 ∧ (x27_c10) = (45 : Int))) := hq20_
          clear hq20_
          rcases hh20_ with ⟨ee20_, hh20_⟩ | ⟨ee20_, hh20_⟩
          · subst ee20_
            refine j_if_eq E 28 66 rfl (rr (by decide)) dX10_readSum_25 (by decide) (fun cc21_ => absurd cc21_ (by decide)) (fun _ => ?_)
            refine j_aload_n E 29 rfl dX10_readSum_28 rfl (lv_at hl 0 rfl) ?_
            refine m_get_27 E hK hw x27_c10 rfl 32 rfl dX10_readSum_29 (fun _ => ?_)
            refine j_bipush E 34 rfl dX10_readSum_32 (by decide) ?_
            refine j_icmp_ne E 37 41 rfl rx27_c10 (rr (by decide)) dX10_readSum_34 (by decide) (fun cc22_ => ?_) (fun cc22_ => ?_)
            · refine j_iconst E 42 rfl dX10_readSum_41 ?_
              refine j_istore_n E 43 rfl [(1, .int (J 4)), (0, .ref (q 0))] dX10_readSum_42 rfl hl (by decide) rfl (fun ls hl => ?_)
              refine j_aload_n E 44 rfl dX10_readSum_43 rfl (lv_at hl 1 rfl) ?_
              refine m_callv E (c_X10_next l D cy q (upN (upN (upN (upN (upN (upN (upN n_0 24 x24_c10) 25 x25_c10) 26 x26_c10) 27 x27_c10) 37 x37_c10) 41 x41_c10) 42 x42_c10) (upF (upF (upF (upF f_0 30 y30_c10) 31 y31_c10) 32 y32_c10) 33 y33_c10)    (show 0 ≤ (n_0 29) ∧ (n_0 29) < 32 from by omega) (show 0 ≤ (n_0 23) ∧ (n_0 23) ≤ 400 from by omega) (show Wds_ (f_0 28) from hp2) (show 0 ≤ (x24_c10) ∧ (x24_c10) ≤ (n_0 23) from by omega) (show 0 ≤ (y31_c10 ((n_0 29))) ∧ (y31_c10 ((n_0 29))) ≤ (x24_c10) from by omega)) rfl mt_X10_next ml_X10_269 hK hw hA ⟨Nat.le_of_ble_eq_true rfl, Nat.le_of_ble_eq_true rfl⟩ (As := []) (rest := []) rfl rfl hl.1 (Nat.le_of_ble_eq_true rfl) 47 rfl dX10_readSum_44 (fun n_23 f_23 H locs hq23_ hw => ?_)
              obtain ⟨x24_23, x25_23, x26_23, x27_23, y30_23, y31_23, en23_, ef23_, hq23_⟩ := hq23_
              rw [en23_, ef23_] at hw; clear en23_ ef23_
              have hw : WM D cy q (upN (upN (upN (upN (upN (upN (upN n_0 24 x24_23) 25 x25_23) 26 x26_23) 27 x27_23) 37 x37_c10) 41 x41_c10) 42 x42_c10) (upF (upF (upF (upF f_0 30 y30_23) 31 y31_23) 32 y32_c10) 33 y33_c10) A0 H0 H locs := hw
              have rx24_23 : inR x24_23 := mRn_24 hw.1.2.2.1
              have rx25_23 : inR x25_23 := mRn_25 hw.1.2.2.1
              have rx26_23 : inR x26_23 := mRn_26 hw.1.2.2.1
              have rx27_23 : inR x27_23 := mRn_27 hw.1.2.2.1
              have hh23_ : (0 ≤ (x25_23) ∧ (x25_23) ≤ (x24_23) ∧ (x24_23) ≤ (n_0 23)) ∧ (0 ≤ (y31_23 ((n_0 29))) ∧ (y31_23 ((n_0 29))) ≤ (x24_23)) ∧ (0 ≤ (x26_23) ∧ (x26_23) ≤ 4) ∧ (¬ (x26_23) = 0 → (x25_23) < (x24_23)) ∧ ((x26_23) = 3 → 0 ≤ (x27_23) ∧ (x27_23) ≤ 9999) ∧ (x24_c10) ≤ (x25_23) ∧ (∀ i, i ≠ (n_0 29) → (y31_23 i) = (y31_c10 i)) := hq23_
              clear hq23_
              have hk_ := hh23_.2.2.2.2.2.2
              refine j_aload_n E 48 rfl dX10_readSum_47 rfl (lv_at hl 1 rfl) ?_
              refine m_calli E (c_X10_readProduct l D cy q (upN (upN (upN (upN (upN (upN (upN n_0 24 x24_23) 25 x25_23) 26 x26_23) 27 x27_23) 37 x37_c10) 41 x41_c10) 42 x42_c10) (upF (upF (upF (upF f_0 30 y30_23) 31 y31_23) 32 y32_c10) 33 y33_c10)  (dl_ + 1) lo_ (el_ + 1)  (show 0 ≤ (n_0 29) ∧ (n_0 29) < 32 from by omega) (show 0 ≤ (n_0 23) ∧ (n_0 23) ≤ 400 from by omega) (show Wds_ (f_0 28) from hp2) (show 0 ≤ (dl_ + 1) ∧ (0 ≤ (x25_23) ∧ (x25_23) ≤ (x24_23) ∧ (x24_23) ≤ (n_0 23)) ∧ (0 ≤ (y31_23 ((n_0 29))) ∧ (y31_23 ((n_0 29))) ≤ (x24_23)) ∧ (0 ≤ (x26_23) ∧ (x26_23) ≤ 4) ∧ (¬ (x26_23) = 0 → (x25_23) < (x24_23)) ∧ ((x26_23) = 3 → 0 ≤ (x27_23) ∧ (x27_23) ≤ 9999) ∧ (0 ≤ lo_ ∧ lo_ ≤ (x37_c10)) ∧ (x37_c10) + (dl_ + 1) ≤ (x25_23) from by omega) (show Pz_ (y32_c10) (y33_c10) (400 * (n_0 29) + lo_) (400 * (n_0 29) + (x37_c10)) (el_ + 1) from iv10.2.2.1)) rfl mt_X10_readProduct ml_X10_279 hK hw hA ⟨Nat.le_of_ble_eq_true rfl, Nat.le_of_ble_eq_true rfl⟩ (As := []) (rest := []) rfl rfl hl.1 (Nat.le_of_ble_eq_true rfl) 51 rfl dX10_readSum_48 (fun zz24_ n_24 f_24 H locs rr24_ hq24_ hw => ?_)
              obtain ⟨x24_24, x25_24, x26_24, x27_24, x37_24, x41_24, x42_24, y30_24, y31_24, y32_24, y33_24, en24_, ef24_, hq24_⟩ := hq24_
              rw [en24_, ef24_] at hw; clear en24_ ef24_
              have hw : WM D cy q (upN (upN (upN (upN (upN (upN (upN n_0 24 x24_24) 25 x25_24) 26 x26_24) 27 x27_24) 37 x37_24) 41 x41_24) 42 x42_24) (upF (upF (upF (upF f_0 30 y30_24) 31 y31_24) 32 y32_24) 33 y33_24) A0 H0 H locs := hw
              have rx24_24 : inR x24_24 := mRn_24 hw.1.2.2.1
              have rx25_24 : inR x25_24 := mRn_25 hw.1.2.2.1
              have rx26_24 : inR x26_24 := mRn_26 hw.1.2.2.1
              have rx27_24 : inR x27_24 := mRn_27 hw.1.2.2.1
              have rx37_24 : inR x37_24 := mRn_37 hw.1.2.2.1
              have rx41_24 : inR x41_24 := mRn_41 hw.1.2.2.1
              have rx42_24 : inR x42_24 := mRn_42 hw.1.2.2.1
              have hh24_ : (zz24_ = -1 ∧ Fr_ (y32_c10) (y33_c10) (y32_24) (y33_24) (400 * (n_0 29) + (x37_c10)) ∧ (∀ i, i ≠ (n_0 29) → (y31_24 i) = (y31_23 i)) ∧ (0 ≤ (y31_24 ((n_0 29))) ∧ (y31_24 ((n_0 29))) ≤ 400)) ∨ (zz24_ = 0 ∧ Fr_ (y32_c10) (y33_c10) (y32_24) (y33_24) (400 * (n_0 29) + (x37_c10)) ∧ (∀ i, i ≠ (n_0 29) → (y31_24 i) = (y31_23 i)) ∧ (0 ≤ (y31_24 ((n_0 29))) ∧ (y31_24 ((n_0 29))) ≤ 400) ∧ ((0 ≤ (x25_24) ∧ (x25_24) ≤ (x24_24) ∧ (x24_24) ≤ (n_0 23)) ∧ (0 ≤ (y31_24 ((n_0 29))) ∧ (y31_24 ((n_0 29))) ≤ (x24_24)) ∧ (0 ≤ (x26_24) ∧ (x26_24) ≤ 4) ∧ (¬ (x26_24) = 0 → (x25_24) < (x24_24)) ∧ ((x26_24) = 3 → 0 ≤ (x27_24) ∧ (x27_24) ≤ 9999) ∧ (0 ≤ lo_ ∧ lo_ ≤ (x37_24)) ∧ (x37_24) + (dl_ + 1) ≤ (x25_24)) ∧ (x25_23) < (x25_24) ∧ (x37_c10) ≤ (x37_24) ∧ Pz_ (y32_24) (y33_24) (400 * (n_0 29) + lo_) (400 * (n_0 29) + (x37_24)) ((el_ + 1) + 1)) := hq24_
              clear hq24_
              rcases hh24_ with ⟨ee24_, hh24_⟩ | ⟨ee24_, hh24_⟩
              · subst ee24_
                have hx2_ := hh24_
                refine j_iconst E 52 rfl dX10_readSum_51 ?_
                refine j_icmp_ne E 55 57 rfl (rr (by decide)) (rr (by decide)) dX10_readSum_52 (by decide) (fun cc25_ => absurd cc25_ (by decide)) (fun _ => ?_)
                refine j_iconst E 56 rfl dX10_readSum_55 ?_
                exact hret 56 ((-1)) (upN (upN (upN (upN (upN (upN (upN n_0 24 x24_24) 25 x25_24) 26 x26_24) 27 x27_24) 37 x37_24) 41 x41_24) 42 x42_24) (upF (upF (upF (upF f_0 30 y30_24) 31 y31_24) 32 y32_24) 33 y33_24) _ _ ls hw (rr (by decide)) ⟨x24_24, x25_24, x26_24, x27_24, x37_24, x41_24, x42_24, y30_24, y31_24, y32_24, y33_24, rfl, rfl, Or.inl ⟨rfl, Fr_tr iv10.2.2.2.1 hx2_.1 (by omega), tk_tr iv10.2.2.2.2 (tk_tr hk_ hx2_.2.1), hx2_.2.2⟩⟩ dX10_readSum_56
              · subst ee24_
                have h2_ := hh24_
                have hb2_ := (h2_.2.2.2.2.2.2).2
                refine j_iconst E 52 rfl dX10_readSum_51 ?_
                refine j_icmp_ne E 55 57 rfl (rr (by decide)) (rr (by decide)) dX10_readSum_52 (by decide) (fun _ => ?_) (fun cc26_ => absurd cc26_ (by decide))
                refine j_aload_n E 58 rfl dX10_readSum_57 rfl (lv_at hl 1 rfl) ?_
                refine j_iload_n E 59 rfl dX10_readSum_58 rfl (lv_at hl 0 rfl) ?_
                refine j_iconst E 60 rfl dX10_readSum_59 ?_
                refine m_callv E (c_X10_emits l D cy q (upN (upN (upN (upN (upN (upN (upN n_0 24 x24_24) 25 x25_24) 26 x26_24) 27 x27_24) 37 x37_24) 41 x41_24) 42 x42_24) (upF (upF (upF (upF f_0 30 y30_24) 31 y31_24) 32 y32_24) 33 y33_24) 4 0  (rr (by decide)) (rr (by decide)) (show 0 ≤ (n_0 29) ∧ (n_0 29) < 32 from by omega) (show 0 ≤ (x37_24) ∧ (x37_24) ≤ 399 from by omega)) rfl mt_X10_emits ml_X10_265 hK hw hA ⟨Nat.le_of_ble_eq_true rfl, Nat.le_of_ble_eq_true rfl⟩ (As := [.int (J 4), .int (J 0)]) (rest := []) rfl rfl hl.1 (Nat.le_of_ble_eq_true rfl) 63 rfl dX10_readSum_60 (fun n_27 f_27 H locs hq27_ hw => ?_)
                obtain ⟨x37_27, y32_27, y33_27, en27_, ef27_, hq27_⟩ := hq27_
                rw [en27_, ef27_] at hw; clear en27_ ef27_
                have hw : WM D cy q (upN (upN (upN (upN (upN (upN (upN n_0 24 x24_24) 25 x25_24) 26 x26_24) 27 x27_24) 37 x37_27) 41 x41_24) 42 x42_24) (upF (upF (upF (upF f_0 30 y30_24) 31 y31_24) 32 y32_27) 33 y33_27) A0 H0 H locs := hw
                have rx37_27 : inR x37_27 := mRn_37 hw.1.2.2.1
                have hh27_ : (y32_27) = upA (y32_24) (400 * (n_0 29) + (x37_24)) (4 : Int) ∧ (y33_27) = upA (y33_24) (400 * (n_0 29) + (x37_24)) (0 : Int) ∧ (x37_27) = (x37_24) + 1 := hq27_
                clear hq27_
                have hm_ : (x37_27) = (x37_24) + 1 := hh27_.2.2
                have hz_ : Pz_ (y32_27) (y33_27) (400 * n_0 29 + lo_) (400 * n_0 29 + (x37_27)) (el_ + 1) := by rw [hh27_.1, hh27_.2.1, show 400 * n_0 29 + (x37_27) = 400 * n_0 29 + (x37_24) + 1 by omega]; exact Pz_ext h2_.2.2.2.2.2.2 (by omega) (by omega) (by omega)
                have hf_ : Fr_ (y32_24) (y33_24) (y32_27) (y33_27) (400 * n_0 29 + (x37_24)) := by rw [hh27_.1, hh27_.2.1]; exact Fr_up (by omega)
                refine j_goto E 10 dX10_readSum_63 (by decide) ?_
                exact ih10  x24_24 x25_24 x26_24 x27_24 x37_27 x41_24 x42_24 y30_24 y31_24 y32_27 y33_27 H locs ls  (⟨by omega, by omega, hz_, Fr_tr iv10.2.2.2.1 (Fr_tr h2_.1 hf_ (by omega)) (by omega), tk_tr iv10.2.2.2.2 (tk_tr hk_ h2_.2.1)⟩) (by omega) hw (lv_sub hl [1] rfl)
            · refine j_iconst E 38 rfl dX10_readSum_37 ?_
              refine j_goto E 42 dX10_readSum_38 (by decide) ?_
              refine j_istore_n E 43 rfl [(1, .int (J 3)), (0, .ref (q 0))] dX10_readSum_42 rfl hl (by decide) rfl (fun ls hl => ?_)
              refine j_aload_n E 44 rfl dX10_readSum_43 rfl (lv_at hl 1 rfl) ?_
              refine m_callv E (c_X10_next l D cy q (upN (upN (upN (upN (upN (upN (upN n_0 24 x24_c10) 25 x25_c10) 26 x26_c10) 27 x27_c10) 37 x37_c10) 41 x41_c10) 42 x42_c10) (upF (upF (upF (upF f_0 30 y30_c10) 31 y31_c10) 32 y32_c10) 33 y33_c10)    (show 0 ≤ (n_0 29) ∧ (n_0 29) < 32 from by omega) (show 0 ≤ (n_0 23) ∧ (n_0 23) ≤ 400 from by omega) (show Wds_ (f_0 28) from hp2) (show 0 ≤ (x24_c10) ∧ (x24_c10) ≤ (n_0 23) from by omega) (show 0 ≤ (y31_c10 ((n_0 29))) ∧ (y31_c10 ((n_0 29))) ≤ (x24_c10) from by omega)) rfl mt_X10_next ml_X10_269 hK hw hA ⟨Nat.le_of_ble_eq_true rfl, Nat.le_of_ble_eq_true rfl⟩ (As := []) (rest := []) rfl rfl hl.1 (Nat.le_of_ble_eq_true rfl) 47 rfl dX10_readSum_44 (fun n_28 f_28 H locs hq28_ hw => ?_)
              obtain ⟨x24_28, x25_28, x26_28, x27_28, y30_28, y31_28, en28_, ef28_, hq28_⟩ := hq28_
              rw [en28_, ef28_] at hw; clear en28_ ef28_
              have hw : WM D cy q (upN (upN (upN (upN (upN (upN (upN n_0 24 x24_28) 25 x25_28) 26 x26_28) 27 x27_28) 37 x37_c10) 41 x41_c10) 42 x42_c10) (upF (upF (upF (upF f_0 30 y30_28) 31 y31_28) 32 y32_c10) 33 y33_c10) A0 H0 H locs := hw
              have rx24_28 : inR x24_28 := mRn_24 hw.1.2.2.1
              have rx25_28 : inR x25_28 := mRn_25 hw.1.2.2.1
              have rx26_28 : inR x26_28 := mRn_26 hw.1.2.2.1
              have rx27_28 : inR x27_28 := mRn_27 hw.1.2.2.1
              have hh28_ : (0 ≤ (x25_28) ∧ (x25_28) ≤ (x24_28) ∧ (x24_28) ≤ (n_0 23)) ∧ (0 ≤ (y31_28 ((n_0 29))) ∧ (y31_28 ((n_0 29))) ≤ (x24_28)) ∧ (0 ≤ (x26_28) ∧ (x26_28) ≤ 4) ∧ (¬ (x26_28) = 0 → (x25_28) < (x24_28)) ∧ ((x26_28) = 3 → 0 ≤ (x27_28) ∧ (x27_28) ≤ 9999) ∧ (x24_c10) ≤ (x25_28) ∧ (∀ i, i ≠ (n_0 29) → (y31_28 i) = (y31_c10 i)) := hq28_
              clear hq28_
              have hk_ := hh28_.2.2.2.2.2.2
              refine j_aload_n E 48 rfl dX10_readSum_47 rfl (lv_at hl 1 rfl) ?_
              refine m_calli E (c_X10_readProduct l D cy q (upN (upN (upN (upN (upN (upN (upN n_0 24 x24_28) 25 x25_28) 26 x26_28) 27 x27_28) 37 x37_c10) 41 x41_c10) 42 x42_c10) (upF (upF (upF (upF f_0 30 y30_28) 31 y31_28) 32 y32_c10) 33 y33_c10)  (dl_ + 1) lo_ (el_ + 1)  (show 0 ≤ (n_0 29) ∧ (n_0 29) < 32 from by omega) (show 0 ≤ (n_0 23) ∧ (n_0 23) ≤ 400 from by omega) (show Wds_ (f_0 28) from hp2) (show 0 ≤ (dl_ + 1) ∧ (0 ≤ (x25_28) ∧ (x25_28) ≤ (x24_28) ∧ (x24_28) ≤ (n_0 23)) ∧ (0 ≤ (y31_28 ((n_0 29))) ∧ (y31_28 ((n_0 29))) ≤ (x24_28)) ∧ (0 ≤ (x26_28) ∧ (x26_28) ≤ 4) ∧ (¬ (x26_28) = 0 → (x25_28) < (x24_28)) ∧ ((x26_28) = 3 → 0 ≤ (x27_28) ∧ (x27_28) ≤ 9999) ∧ (0 ≤ lo_ ∧ lo_ ≤ (x37_c10)) ∧ (x37_c10) + (dl_ + 1) ≤ (x25_28) from by omega) (show Pz_ (y32_c10) (y33_c10) (400 * (n_0 29) + lo_) (400 * (n_0 29) + (x37_c10)) (el_ + 1) from iv10.2.2.1)) rfl mt_X10_readProduct ml_X10_279 hK hw hA ⟨Nat.le_of_ble_eq_true rfl, Nat.le_of_ble_eq_true rfl⟩ (As := []) (rest := []) rfl rfl hl.1 (Nat.le_of_ble_eq_true rfl) 51 rfl dX10_readSum_48 (fun zz29_ n_29 f_29 H locs rr29_ hq29_ hw => ?_)
              obtain ⟨x24_29, x25_29, x26_29, x27_29, x37_29, x41_29, x42_29, y30_29, y31_29, y32_29, y33_29, en29_, ef29_, hq29_⟩ := hq29_
              rw [en29_, ef29_] at hw; clear en29_ ef29_
              have hw : WM D cy q (upN (upN (upN (upN (upN (upN (upN n_0 24 x24_29) 25 x25_29) 26 x26_29) 27 x27_29) 37 x37_29) 41 x41_29) 42 x42_29) (upF (upF (upF (upF f_0 30 y30_29) 31 y31_29) 32 y32_29) 33 y33_29) A0 H0 H locs := hw
              have rx24_29 : inR x24_29 := mRn_24 hw.1.2.2.1
              have rx25_29 : inR x25_29 := mRn_25 hw.1.2.2.1
              have rx26_29 : inR x26_29 := mRn_26 hw.1.2.2.1
              have rx27_29 : inR x27_29 := mRn_27 hw.1.2.2.1
              have rx37_29 : inR x37_29 := mRn_37 hw.1.2.2.1
              have rx41_29 : inR x41_29 := mRn_41 hw.1.2.2.1
              have rx42_29 : inR x42_29 := mRn_42 hw.1.2.2.1
              have hh29_ : (zz29_ = -1 ∧ Fr_ (y32_c10) (y33_c10) (y32_29) (y33_29) (400 * (n_0 29) + (x37_c10)) ∧ (∀ i, i ≠ (n_0 29) → (y31_29 i) = (y31_28 i)) ∧ (0 ≤ (y31_29 ((n_0 29))) ∧ (y31_29 ((n_0 29))) ≤ 400)) ∨ (zz29_ = 0 ∧ Fr_ (y32_c10) (y33_c10) (y32_29) (y33_29) (400 * (n_0 29) + (x37_c10)) ∧ (∀ i, i ≠ (n_0 29) → (y31_29 i) = (y31_28 i)) ∧ (0 ≤ (y31_29 ((n_0 29))) ∧ (y31_29 ((n_0 29))) ≤ 400) ∧ ((0 ≤ (x25_29) ∧ (x25_29) ≤ (x24_29) ∧ (x24_29) ≤ (n_0 23)) ∧ (0 ≤ (y31_29 ((n_0 29))) ∧ (y31_29 ((n_0 29))) ≤ (x24_29)) ∧ (0 ≤ (x26_29) ∧ (x26_29) ≤ 4) ∧ (¬ (x26_29) = 0 → (x25_29) < (x24_29)) ∧ ((x26_29) = 3 → 0 ≤ (x27_29) ∧ (x27_29) ≤ 9999) ∧ (0 ≤ lo_ ∧ lo_ ≤ (x37_29)) ∧ (x37_29) + (dl_ + 1) ≤ (x25_29)) ∧ (x25_28) < (x25_29) ∧ (x37_c10) ≤ (x37_29) ∧ Pz_ (y32_29) (y33_29) (400 * (n_0 29) + lo_) (400 * (n_0 29) + (x37_29)) ((el_ + 1) + 1)) := hq29_
              clear hq29_
              rcases hh29_ with ⟨ee29_, hh29_⟩ | ⟨ee29_, hh29_⟩
              · subst ee29_
                have hx2_ := hh29_
                refine j_iconst E 52 rfl dX10_readSum_51 ?_
                refine j_icmp_ne E 55 57 rfl (rr (by decide)) (rr (by decide)) dX10_readSum_52 (by decide) (fun cc30_ => absurd cc30_ (by decide)) (fun _ => ?_)
                refine j_iconst E 56 rfl dX10_readSum_55 ?_
                exact hret 56 ((-1)) (upN (upN (upN (upN (upN (upN (upN n_0 24 x24_29) 25 x25_29) 26 x26_29) 27 x27_29) 37 x37_29) 41 x41_29) 42 x42_29) (upF (upF (upF (upF f_0 30 y30_29) 31 y31_29) 32 y32_29) 33 y33_29) _ _ ls hw (rr (by decide)) ⟨x24_29, x25_29, x26_29, x27_29, x37_29, x41_29, x42_29, y30_29, y31_29, y32_29, y33_29, rfl, rfl, Or.inl ⟨rfl, Fr_tr iv10.2.2.2.1 hx2_.1 (by omega), tk_tr iv10.2.2.2.2 (tk_tr hk_ hx2_.2.1), hx2_.2.2⟩⟩ dX10_readSum_56
              · subst ee29_
                have h2_ := hh29_
                have hb2_ := (h2_.2.2.2.2.2.2).2
                refine j_iconst E 52 rfl dX10_readSum_51 ?_
                refine j_icmp_ne E 55 57 rfl (rr (by decide)) (rr (by decide)) dX10_readSum_52 (by decide) (fun _ => ?_) (fun cc31_ => absurd cc31_ (by decide))
                refine j_aload_n E 58 rfl dX10_readSum_57 rfl (lv_at hl 1 rfl) ?_
                refine j_iload_n E 59 rfl dX10_readSum_58 rfl (lv_at hl 0 rfl) ?_
                refine j_iconst E 60 rfl dX10_readSum_59 ?_
                refine m_callv E (c_X10_emits l D cy q (upN (upN (upN (upN (upN (upN (upN n_0 24 x24_29) 25 x25_29) 26 x26_29) 27 x27_29) 37 x37_29) 41 x41_29) 42 x42_29) (upF (upF (upF (upF f_0 30 y30_29) 31 y31_29) 32 y32_29) 33 y33_29) 3 0  (rr (by decide)) (rr (by decide)) (show 0 ≤ (n_0 29) ∧ (n_0 29) < 32 from by omega) (show 0 ≤ (x37_29) ∧ (x37_29) ≤ 399 from by omega)) rfl mt_X10_emits ml_X10_265 hK hw hA ⟨Nat.le_of_ble_eq_true rfl, Nat.le_of_ble_eq_true rfl⟩ (As := [.int (J 3), .int (J 0)]) (rest := []) rfl rfl hl.1 (Nat.le_of_ble_eq_true rfl) 63 rfl dX10_readSum_60 (fun n_32 f_32 H locs hq32_ hw => ?_)
                obtain ⟨x37_32, y32_32, y33_32, en32_, ef32_, hq32_⟩ := hq32_
                rw [en32_, ef32_] at hw; clear en32_ ef32_
                have hw : WM D cy q (upN (upN (upN (upN (upN (upN (upN n_0 24 x24_29) 25 x25_29) 26 x26_29) 27 x27_29) 37 x37_32) 41 x41_29) 42 x42_29) (upF (upF (upF (upF f_0 30 y30_29) 31 y31_29) 32 y32_32) 33 y33_32) A0 H0 H locs := hw
                have rx37_32 : inR x37_32 := mRn_37 hw.1.2.2.1
                have hh32_ : (y32_32) = upA (y32_29) (400 * (n_0 29) + (x37_29)) (3 : Int) ∧ (y33_32) = upA (y33_29) (400 * (n_0 29) + (x37_29)) (0 : Int) ∧ (x37_32) = (x37_29) + 1 := hq32_
                clear hq32_
                have hm_ : (x37_32) = (x37_29) + 1 := hh32_.2.2
                have hz_ : Pz_ (y32_32) (y33_32) (400 * n_0 29 + lo_) (400 * n_0 29 + (x37_32)) (el_ + 1) := by rw [hh32_.1, hh32_.2.1, show 400 * n_0 29 + (x37_32) = 400 * n_0 29 + (x37_29) + 1 by omega]; exact Pz_ext h2_.2.2.2.2.2.2 (by omega) (by omega) (by omega)
                have hf_ : Fr_ (y32_29) (y33_29) (y32_32) (y33_32) (400 * n_0 29 + (x37_29)) := by rw [hh32_.1, hh32_.2.1]; exact Fr_up (by omega)
                refine j_goto E 10 dX10_readSum_63 (by decide) ?_
                exact ih10  x24_29 x25_29 x26_29 x27_29 x37_32 x41_29 x42_29 y30_29 y31_29 y32_32 y33_32 H locs ls  (⟨by omega, by omega, hz_, Fr_tr iv10.2.2.2.1 (Fr_tr h2_.1 hf_ (by omega)) (by omega), tk_tr iv10.2.2.2.2 (tk_tr hk_ h2_.2.1)⟩) (by omega) hw (lv_sub hl [1] rfl)
          · subst ee20_
            refine j_if_eq E 28 66 rfl (rr (by decide)) dX10_readSum_25 (by decide) (fun _ => ?_) (fun cc33_ => absurd cc33_ (by decide))
            refine j_iconst E 67 rfl dX10_readSum_66 ?_
            exact hret 67 0 (upN (upN (upN (upN (upN (upN (upN n_0 24 x24_c10) 25 x25_c10) 26 x26_c10) 27 x27_c10) 37 x37_c10) 41 x41_c10) 42 x42_c10) (upF (upF (upF (upF f_0 30 y30_c10) 31 y31_c10) 32 y32_c10) 33 y33_c10) _ _ ls hw (rr (by decide)) ⟨x24_c10, x25_c10, x26_c10, x27_c10, x37_c10, x41_c10, x42_c10, y30_c10, y31_c10, y32_c10, y33_c10, rfl, rfl, Or.inr ⟨rfl, iv10.2.2.2.1, iv10.2.2.2.2, by omega, by omega, by omega, by omega, iv10.2.2.1⟩⟩ dX10_readSum_67
    exact L10_4 _  x24_1 x25_1 x26_1 x27_1 x37_1 x41_1 x42_1 y30_1 y31_1 y32_1 y33_1 H locs ls  (⟨by omega, by omega, h0_.2.2.2.2.2.2, h0_.1, h0_.2.1⟩) (mk_lt _) hw (lv_sub hl [0] rfl)
set_option maxHeartbeats 4000000 in
set_option maxRecDepth 100000 in
theorem c_X10_readCompared (l : Launch) (D : va_G) (cy : Nat → ClassId) (q : Nat → Nat) (n_0 : Nat → Int) (f_0 : Nat → Int → Int) (dl_ : Int) (lo_ : Int) (el_ : Int) (hp0 : 0 ≤ (n_0 29) ∧ (n_0 29) < 32) (hp1 : 0 ≤ (n_0 23) ∧ (n_0 23) ≤ 400) (hp2 : Wds_ (f_0 28)) (hp3 : 0 ≤ dl_ ∧ (0 ≤ (n_0 25) ∧ (n_0 25) ≤ (n_0 24) ∧ (n_0 24) ≤ (n_0 23)) ∧ (0 ≤ (f_0 31 ((n_0 29))) ∧ (f_0 31 ((n_0 29))) ≤ (n_0 24)) ∧ (0 ≤ (n_0 26) ∧ (n_0 26) ≤ 4) ∧ (¬ (n_0 26) = 0 → (n_0 25) < (n_0 24)) ∧ ((n_0 26) = 3 → 0 ≤ (n_0 27) ∧ (n_0 27) ≤ 9999) ∧ (0 ≤ lo_ ∧ lo_ ≤ (n_0 37)) ∧ (n_0 37) + dl_ ≤ (n_0 25)) (hp4 : Pz_ (f_0 32) (f_0 33) (400 * (n_0 29) + lo_) (400 * (n_0 29) + (n_0 37)) el_) : MC l D cy q yX10_readCompared cX10_readCompared 2 (some .int) 6 [] n_0 f_0 (PI (fun (z_0 : Int) (n_2 : Nat → Int) (f_2 : Nat → Int → Int) => ∃ (x24_2 : Int) (x25_2 : Int) (x26_2 : Int) (x27_2 : Int) (x37_2 : Int) (x41_2 : Int) (x42_2 : Int) (y30_2 : Int → Int) (y31_2 : Int → Int) (y32_2 : Int → Int) (y33_2 : Int → Int) , n_2 = upN (upN (upN (upN (upN (upN (upN n_0 24 x24_2) 25 x25_2) 26 x26_2) 27 x27_2) 37 x37_2) 41 x41_2) 42 x42_2 ∧ f_2 = upF (upF (upF (upF f_0 30 y30_2) 31 y31_2) 32 y32_2) 33 y33_2 ∧ ((z_0 = -1 ∧ Fr_ (f_0 32) (f_0 33) (y32_2) (y33_2) (400 * (n_0 29) + (n_0 37)) ∧ (∀ i, i ≠ (n_0 29) → (y31_2 i) = (f_0 31 i)) ∧ (0 ≤ (y31_2 ((n_0 29))) ∧ (y31_2 ((n_0 29))) ≤ 400)) ∨ (z_0 = 0 ∧ Fr_ (f_0 32) (f_0 33) (y32_2) (y33_2) (400 * (n_0 29) + (n_0 37)) ∧ (∀ i, i ≠ (n_0 29) → (y31_2 i) = (f_0 31 i)) ∧ (0 ≤ (y31_2 ((n_0 29))) ∧ (y31_2 ((n_0 29))) ≤ 400) ∧ ((0 ≤ (x25_2) ∧ (x25_2) ≤ (x24_2) ∧ (x24_2) ≤ (n_0 23)) ∧ (0 ≤ (y31_2 ((n_0 29))) ∧ (y31_2 ((n_0 29))) ≤ (x24_2)) ∧ (0 ≤ (x26_2) ∧ (x26_2) ≤ 4) ∧ (¬ (x26_2) = 0 → (x25_2) < (x24_2)) ∧ ((x26_2) = 3 → 0 ≤ (x27_2) ∧ (x27_2) ≤ 9999) ∧ (0 ≤ lo_ ∧ lo_ ≤ (x37_2)) ∧ (x37_2) + dl_ ≤ (x25_2)) ∧ (n_0 25) < (x25_2) ∧ (n_0 37) ≤ (x37_2) ∧ Pz_ (y32_2) (y33_2) (400 * (n_0 29) + lo_) (400 * (n_0 29) + (x37_2)) (el_ + 1))))) := by
  refine MC.ofi rfl (Nat.le_of_ble_eq_true rfl) ?_
  intro p e s m below meth c ls ar QW A0 H0 H locs E hK hA hw hl hret
  have hl : lv_has ls 2 [(0, .ref (q 0))] := hl
  have hb_ : 0 ≤ el_ ∧ el_ ≤ 400 * n_0 29 + n_0 37 - (400 * n_0 29 + lo_) := hp4.2
  refine j_aload_n E 1 rfl dX10_readCompared_0 rfl (lv_at hl 0 rfl) ?_
  refine m_calli E (c_X10_readSum l D cy q (n_0) (f_0)  dl_ lo_ el_  (show 0 ≤ (n_0 29) ∧ (n_0 29) < 32 from by omega) (show 0 ≤ (n_0 23) ∧ (n_0 23) ≤ 400 from by omega) (show Wds_ (f_0 28) from hp2) (show 0 ≤ dl_ ∧ (0 ≤ (n_0 25) ∧ (n_0 25) ≤ (n_0 24) ∧ (n_0 24) ≤ (n_0 23)) ∧ (0 ≤ (f_0 31 ((n_0 29))) ∧ (f_0 31 ((n_0 29))) ≤ (n_0 24)) ∧ (0 ≤ (n_0 26) ∧ (n_0 26) ≤ 4) ∧ (¬ (n_0 26) = 0 → (n_0 25) < (n_0 24)) ∧ ((n_0 26) = 3 → 0 ≤ (n_0 27) ∧ (n_0 27) ≤ 9999) ∧ (0 ≤ lo_ ∧ lo_ ≤ (n_0 37)) ∧ (n_0 37) + dl_ ≤ (n_0 25) from by omega) (show Pz_ (f_0 32) (f_0 33) (400 * (n_0 29) + lo_) (400 * (n_0 29) + (n_0 37)) el_ from hp4)) rfl mt_X10_readSum ml_X10_282 hK hw hA ⟨Nat.le_of_ble_eq_true rfl, Nat.le_of_ble_eq_true rfl⟩ (As := []) (rest := []) rfl rfl hl.1 (Nat.le_of_ble_eq_true rfl) 4 rfl dX10_readCompared_1 (fun zz1_ n_1 f_1 H locs rr1_ hq1_ hw => ?_)
  obtain ⟨x24_1, x25_1, x26_1, x27_1, x37_1, x41_1, x42_1, y30_1, y31_1, y32_1, y33_1, en1_, ef1_, hq1_⟩ := hq1_
  rw [en1_, ef1_] at hw; clear en1_ ef1_
  have hw : WM D cy q (upN (upN (upN (upN (upN (upN (upN n_0 24 x24_1) 25 x25_1) 26 x26_1) 27 x27_1) 37 x37_1) 41 x41_1) 42 x42_1) (upF (upF (upF (upF f_0 30 y30_1) 31 y31_1) 32 y32_1) 33 y33_1) A0 H0 H locs := hw
  have rx24_1 : inR x24_1 := mRn_24 hw.1.2.2.1
  have rx25_1 : inR x25_1 := mRn_25 hw.1.2.2.1
  have rx26_1 : inR x26_1 := mRn_26 hw.1.2.2.1
  have rx27_1 : inR x27_1 := mRn_27 hw.1.2.2.1
  have rx37_1 : inR x37_1 := mRn_37 hw.1.2.2.1
  have rx41_1 : inR x41_1 := mRn_41 hw.1.2.2.1
  have rx42_1 : inR x42_1 := mRn_42 hw.1.2.2.1
  have hh1_ : (zz1_ = -1 ∧ Fr_ (f_0 32) (f_0 33) (y32_1) (y33_1) (400 * (n_0 29) + (n_0 37)) ∧ (∀ i, i ≠ (n_0 29) → (y31_1 i) = (f_0 31 i)) ∧ (0 ≤ (y31_1 ((n_0 29))) ∧ (y31_1 ((n_0 29))) ≤ 400)) ∨ (zz1_ = 0 ∧ Fr_ (f_0 32) (f_0 33) (y32_1) (y33_1) (400 * (n_0 29) + (n_0 37)) ∧ (∀ i, i ≠ (n_0 29) → (y31_1 i) = (f_0 31 i)) ∧ (0 ≤ (y31_1 ((n_0 29))) ∧ (y31_1 ((n_0 29))) ≤ 400) ∧ ((0 ≤ (x25_1) ∧ (x25_1) ≤ (x24_1) ∧ (x24_1) ≤ (n_0 23)) ∧ (0 ≤ (y31_1 ((n_0 29))) ∧ (y31_1 ((n_0 29))) ≤ (x24_1)) ∧ (0 ≤ (x26_1) ∧ (x26_1) ≤ 4) ∧ (¬ (x26_1) = 0 → (x25_1) < (x24_1)) ∧ ((x26_1) = 3 → 0 ≤ (x27_1) ∧ (x27_1) ≤ 9999) ∧ (0 ≤ lo_ ∧ lo_ ≤ (x37_1)) ∧ (x37_1) + dl_ ≤ (x25_1)) ∧ (n_0 25) < (x25_1) ∧ (n_0 37) ≤ (x37_1) ∧ Pz_ (y32_1) (y33_1) (400 * (n_0 29) + lo_) (400 * (n_0 29) + (x37_1)) (el_ + 1)) := hq1_
  clear hq1_
  rcases hh1_ with ⟨ee1_, hh1_⟩ | ⟨ee1_, hh1_⟩
  · subst ee1_
    have hx_ := hh1_
    refine j_iconst E 5 rfl dX10_readCompared_4 ?_
    refine j_icmp_ne E 8 10 rfl (rr (by decide)) (rr (by decide)) dX10_readCompared_5 (by decide) (fun cc2_ => absurd cc2_ (by decide)) (fun _ => ?_)
    refine j_iconst E 9 rfl dX10_readCompared_8 ?_
    exact hret 9 ((-1)) (upN (upN (upN (upN (upN (upN (upN n_0 24 x24_1) 25 x25_1) 26 x26_1) 27 x27_1) 37 x37_1) 41 x41_1) 42 x42_1) (upF (upF (upF (upF f_0 30 y30_1) 31 y31_1) 32 y32_1) 33 y33_1) _ _ ls hw (rr (by decide)) ⟨x24_1, x25_1, x26_1, x27_1, x37_1, x41_1, x42_1, y30_1, y31_1, y32_1, y33_1, rfl, rfl, Or.inl ⟨rfl, hx_⟩⟩ dX10_readCompared_9
  · subst ee1_
    have h0_ := hh1_
    have hb1_ := (h0_.2.2.2.2.2.2).2
    refine j_iconst E 5 rfl dX10_readCompared_4 ?_
    refine j_icmp_ne E 8 10 rfl (rr (by decide)) (rr (by decide)) dX10_readCompared_5 (by decide) (fun _ => ?_) (fun cc3_ => absurd cc3_ (by decide))
    refine j_aload_n E 11 rfl dX10_readCompared_10 rfl (lv_at hl 0 rfl) ?_
    refine j_bipush E 13 rfl dX10_readCompared_11 (by decide) ?_
    refine m_callp (po := fun z_0 => (z_0 = 1 ∧ (x26_1) = 4 ∧ (x27_1) = (60 : Int)) ∨ (z_0 = 0 ∧ ¬ ((x26_1) = 4 ∧ (x27_1) = (60 : Int)))) E (c_X10_isSign l D cy q (upN (upN (upN (upN (upN (upN (upN n_0 24 x24_1) 25 x25_1) 26 x26_1) 27 x27_1) 37 x37_1) 41 x41_1) 42 x42_1) (upF (upF (upF (upF f_0 30 y30_1) 31 y31_1) 32 y32_1) 33 y33_1) 60  (rr (by decide)) ) rfl mt_X10_isSign ml_X10_276 hK hw hA ⟨Nat.le_of_ble_eq_true rfl, Nat.le_of_ble_eq_true rfl⟩ (As := [.int (J 60)]) (rest := []) rfl rfl hl.1 (Nat.le_of_ble_eq_true rfl) 16 rfl dX10_readCompared_13 (fun zz4_ H locs rr4_ hq4_ hw => ?_)
    have hh4_ : (zz4_ = 1 ∧ (x26_1) = 4 ∧ (x27_1) = (60 : Int)) ∨ (zz4_ = 0 ∧ ¬ ((x26_1) = 4 ∧ (x27_1) = (60 : Int))) := hq4_
    clear hq4_
    rcases hh4_ with ⟨ee4_, hh4_⟩ | ⟨ee4_, hh4_⟩
    · subst ee4_
      refine j_if_ne E 19 43 rfl (rr (by decide)) dX10_readCompared_16 (by decide) (fun _ => ?_) (fun cc5_ => absurd cc5_ (by decide))
      refine j_aload_n E 44 rfl dX10_readCompared_43 rfl (lv_at hl 0 rfl) ?_
      refine m_get_27 E hK hw x27_1 rfl 47 rfl dX10_readCompared_44 (fun _ => ?_)
      refine j_bipush E 49 rfl dX10_readCompared_47 (by decide) ?_
      refine j_icmp_ne E 52 57 rfl rx27_1 (rr (by decide)) dX10_readCompared_49 (by decide) (fun cc6_ => ?_) (fun cc6_ => ?_)
      · refine j_aload_n E 58 rfl dX10_readCompared_57 rfl (lv_at hl 0 rfl) ?_
        refine m_get_27 E hK hw x27_1 rfl 61 rfl dX10_readCompared_58 (fun _ => ?_)
        refine j_bipush E 63 rfl dX10_readCompared_61 (by decide) ?_
        refine j_icmp_ne E 66 71 rfl rx27_1 (rr (by decide)) dX10_readCompared_63 (by decide) (fun cc7_ => ?_) (fun cc7_ => ?_)
        · refine j_bipush E 73 rfl dX10_readCompared_71 (by decide) ?_
          refine j_istore_n E 74 rfl [(1, .int (J 9)), (0, .ref (q 0))] dX10_readCompared_73 rfl hl (by decide) rfl (fun ls hl => ?_)
          refine j_aload_n E 75 rfl dX10_readCompared_74 rfl (lv_at hl 1 rfl) ?_
          refine m_callv E (c_X10_next l D cy q (upN (upN (upN (upN (upN (upN (upN n_0 24 x24_1) 25 x25_1) 26 x26_1) 27 x27_1) 37 x37_1) 41 x41_1) 42 x42_1) (upF (upF (upF (upF f_0 30 y30_1) 31 y31_1) 32 y32_1) 33 y33_1)    (show 0 ≤ (n_0 29) ∧ (n_0 29) < 32 from by omega) (show 0 ≤ (n_0 23) ∧ (n_0 23) ≤ 400 from by omega) (show Wds_ (f_0 28) from hp2) (show 0 ≤ (x24_1) ∧ (x24_1) ≤ (n_0 23) from by omega) (show 0 ≤ (y31_1 ((n_0 29))) ∧ (y31_1 ((n_0 29))) ≤ (x24_1) from by omega)) rfl mt_X10_next ml_X10_269 hK hw hA ⟨Nat.le_of_ble_eq_true rfl, Nat.le_of_ble_eq_true rfl⟩ (As := []) (rest := []) rfl rfl hl.1 (Nat.le_of_ble_eq_true rfl) 78 rfl dX10_readCompared_75 (fun n_8 f_8 H locs hq8_ hw => ?_)
          obtain ⟨x24_8, x25_8, x26_8, x27_8, y30_8, y31_8, en8_, ef8_, hq8_⟩ := hq8_
          rw [en8_, ef8_] at hw; clear en8_ ef8_
          have hw : WM D cy q (upN (upN (upN (upN (upN (upN (upN n_0 24 x24_8) 25 x25_8) 26 x26_8) 27 x27_8) 37 x37_1) 41 x41_1) 42 x42_1) (upF (upF (upF (upF f_0 30 y30_8) 31 y31_8) 32 y32_1) 33 y33_1) A0 H0 H locs := hw
          have rx24_8 : inR x24_8 := mRn_24 hw.1.2.2.1
          have rx25_8 : inR x25_8 := mRn_25 hw.1.2.2.1
          have rx26_8 : inR x26_8 := mRn_26 hw.1.2.2.1
          have rx27_8 : inR x27_8 := mRn_27 hw.1.2.2.1
          have hh8_ : (0 ≤ (x25_8) ∧ (x25_8) ≤ (x24_8) ∧ (x24_8) ≤ (n_0 23)) ∧ (0 ≤ (y31_8 ((n_0 29))) ∧ (y31_8 ((n_0 29))) ≤ (x24_8)) ∧ (0 ≤ (x26_8) ∧ (x26_8) ≤ 4) ∧ (¬ (x26_8) = 0 → (x25_8) < (x24_8)) ∧ ((x26_8) = 3 → 0 ≤ (x27_8) ∧ (x27_8) ≤ 9999) ∧ (x24_1) ≤ (x25_8) ∧ (∀ i, i ≠ (n_0 29) → (y31_8 i) = (y31_1 i)) := hq8_
          clear hq8_
          have hk_ := hh8_.2.2.2.2.2.2
          refine j_aload_n E 79 rfl dX10_readCompared_78 rfl (lv_at hl 1 rfl) ?_
          refine m_calli E (c_X10_readSum l D cy q (upN (upN (upN (upN (upN (upN (upN n_0 24 x24_8) 25 x25_8) 26 x26_8) 27 x27_8) 37 x37_1) 41 x41_1) 42 x42_1) (upF (upF (upF (upF f_0 30 y30_8) 31 y31_8) 32 y32_1) 33 y33_1)  (dl_ + 1) lo_ (el_ + 1)  (show 0 ≤ (n_0 29) ∧ (n_0 29) < 32 from by omega) (show 0 ≤ (n_0 23) ∧ (n_0 23) ≤ 400 from by omega) (show Wds_ (f_0 28) from hp2) (show 0 ≤ (dl_ + 1) ∧ (0 ≤ (x25_8) ∧ (x25_8) ≤ (x24_8) ∧ (x24_8) ≤ (n_0 23)) ∧ (0 ≤ (y31_8 ((n_0 29))) ∧ (y31_8 ((n_0 29))) ≤ (x24_8)) ∧ (0 ≤ (x26_8) ∧ (x26_8) ≤ 4) ∧ (¬ (x26_8) = 0 → (x25_8) < (x24_8)) ∧ ((x26_8) = 3 → 0 ≤ (x27_8) ∧ (x27_8) ≤ 9999) ∧ (0 ≤ lo_ ∧ lo_ ≤ (x37_1)) ∧ (x37_1) + (dl_ + 1) ≤ (x25_8) from by omega) (show Pz_ (y32_1) (y33_1) (400 * (n_0 29) + lo_) (400 * (n_0 29) + (x37_1)) (el_ + 1) from h0_.2.2.2.2.2.2)) rfl mt_X10_readSum ml_X10_282 hK hw hA ⟨Nat.le_of_ble_eq_true rfl, Nat.le_of_ble_eq_true rfl⟩ (As := []) (rest := []) rfl rfl hl.1 (Nat.le_of_ble_eq_true rfl) 82 rfl dX10_readCompared_79 (fun zz9_ n_9 f_9 H locs rr9_ hq9_ hw => ?_)
          obtain ⟨x24_9, x25_9, x26_9, x27_9, x37_9, x41_9, x42_9, y30_9, y31_9, y32_9, y33_9, en9_, ef9_, hq9_⟩ := hq9_
          rw [en9_, ef9_] at hw; clear en9_ ef9_
          have hw : WM D cy q (upN (upN (upN (upN (upN (upN (upN n_0 24 x24_9) 25 x25_9) 26 x26_9) 27 x27_9) 37 x37_9) 41 x41_9) 42 x42_9) (upF (upF (upF (upF f_0 30 y30_9) 31 y31_9) 32 y32_9) 33 y33_9) A0 H0 H locs := hw
          have rx24_9 : inR x24_9 := mRn_24 hw.1.2.2.1
          have rx25_9 : inR x25_9 := mRn_25 hw.1.2.2.1
          have rx26_9 : inR x26_9 := mRn_26 hw.1.2.2.1
          have rx27_9 : inR x27_9 := mRn_27 hw.1.2.2.1
          have rx37_9 : inR x37_9 := mRn_37 hw.1.2.2.1
          have rx41_9 : inR x41_9 := mRn_41 hw.1.2.2.1
          have rx42_9 : inR x42_9 := mRn_42 hw.1.2.2.1
          have hh9_ : (zz9_ = -1 ∧ Fr_ (y32_1) (y33_1) (y32_9) (y33_9) (400 * (n_0 29) + (x37_1)) ∧ (∀ i, i ≠ (n_0 29) → (y31_9 i) = (y31_8 i)) ∧ (0 ≤ (y31_9 ((n_0 29))) ∧ (y31_9 ((n_0 29))) ≤ 400)) ∨ (zz9_ = 0 ∧ Fr_ (y32_1) (y33_1) (y32_9) (y33_9) (400 * (n_0 29) + (x37_1)) ∧ (∀ i, i ≠ (n_0 29) → (y31_9 i) = (y31_8 i)) ∧ (0 ≤ (y31_9 ((n_0 29))) ∧ (y31_9 ((n_0 29))) ≤ 400) ∧ ((0 ≤ (x25_9) ∧ (x25_9) ≤ (x24_9) ∧ (x24_9) ≤ (n_0 23)) ∧ (0 ≤ (y31_9 ((n_0 29))) ∧ (y31_9 ((n_0 29))) ≤ (x24_9)) ∧ (0 ≤ (x26_9) ∧ (x26_9) ≤ 4) ∧ (¬ (x26_9) = 0 → (x25_9) < (x24_9)) ∧ ((x26_9) = 3 → 0 ≤ (x27_9) ∧ (x27_9) ≤ 9999) ∧ (0 ≤ lo_ ∧ lo_ ≤ (x37_9)) ∧ (x37_9) + (dl_ + 1) ≤ (x25_9)) ∧ (x25_8) < (x25_9) ∧ (x37_1) ≤ (x37_9) ∧ Pz_ (y32_9) (y33_9) (400 * (n_0 29) + lo_) (400 * (n_0 29) + (x37_9)) ((el_ + 1) + 1)) := hq9_
          clear hq9_
          rcases hh9_ with ⟨ee9_, hh9_⟩ | ⟨ee9_, hh9_⟩
          · subst ee9_
            have hx2_ := hh9_
            refine j_iconst E 83 rfl dX10_readCompared_82 ?_
            refine j_icmp_ne E 86 88 rfl (rr (by decide)) (rr (by decide)) dX10_readCompared_83 (by decide) (fun cc10_ => absurd cc10_ (by decide)) (fun _ => ?_)
            refine j_iconst E 87 rfl dX10_readCompared_86 ?_
            exact hret 87 ((-1)) (upN (upN (upN (upN (upN (upN (upN n_0 24 x24_9) 25 x25_9) 26 x26_9) 27 x27_9) 37 x37_9) 41 x41_9) 42 x42_9) (upF (upF (upF (upF f_0 30 y30_9) 31 y31_9) 32 y32_9) 33 y33_9) _ _ ls hw (rr (by decide)) ⟨x24_9, x25_9, x26_9, x27_9, x37_9, x41_9, x42_9, y30_9, y31_9, y32_9, y33_9, rfl, rfl, Or.inl ⟨rfl, Fr_tr h0_.1 hx2_.1 (by omega), tk_tr h0_.2.1 (tk_tr hk_ hx2_.2.1), hx2_.2.2⟩⟩ dX10_readCompared_87
          · subst ee9_
            have h2_ := hh9_
            have hb2_ := (h2_.2.2.2.2.2.2).2
            refine j_iconst E 83 rfl dX10_readCompared_82 ?_
            refine j_icmp_ne E 86 88 rfl (rr (by decide)) (rr (by decide)) dX10_readCompared_83 (by decide) (fun _ => ?_) (fun cc11_ => absurd cc11_ (by decide))
            refine j_aload_n E 89 rfl dX10_readCompared_88 rfl (lv_at hl 1 rfl) ?_
            refine j_iload_n E 90 rfl dX10_readCompared_89 rfl (lv_at hl 0 rfl) ?_
            refine j_iconst E 91 rfl dX10_readCompared_90 ?_
            refine m_callv E (c_X10_emits l D cy q (upN (upN (upN (upN (upN (upN (upN n_0 24 x24_9) 25 x25_9) 26 x26_9) 27 x27_9) 37 x37_9) 41 x41_9) 42 x42_9) (upF (upF (upF (upF f_0 30 y30_9) 31 y31_9) 32 y32_9) 33 y33_9) 9 0  (rr (by decide)) (rr (by decide)) (show 0 ≤ (n_0 29) ∧ (n_0 29) < 32 from by omega) (show 0 ≤ (x37_9) ∧ (x37_9) ≤ 399 from by omega)) rfl mt_X10_emits ml_X10_265 hK hw hA ⟨Nat.le_of_ble_eq_true rfl, Nat.le_of_ble_eq_true rfl⟩ (As := [.int (J 9), .int (J 0)]) (rest := []) rfl rfl hl.1 (Nat.le_of_ble_eq_true rfl) 94 rfl dX10_readCompared_91 (fun n_12 f_12 H locs hq12_ hw => ?_)
            obtain ⟨x37_12, y32_12, y33_12, en12_, ef12_, hq12_⟩ := hq12_
            rw [en12_, ef12_] at hw; clear en12_ ef12_
            have hw : WM D cy q (upN (upN (upN (upN (upN (upN (upN n_0 24 x24_9) 25 x25_9) 26 x26_9) 27 x27_9) 37 x37_12) 41 x41_9) 42 x42_9) (upF (upF (upF (upF f_0 30 y30_9) 31 y31_9) 32 y32_12) 33 y33_12) A0 H0 H locs := hw
            have rx37_12 : inR x37_12 := mRn_37 hw.1.2.2.1
            have hh12_ : (y32_12) = upA (y32_9) (400 * (n_0 29) + (x37_9)) (9 : Int) ∧ (y33_12) = upA (y33_9) (400 * (n_0 29) + (x37_9)) (0 : Int) ∧ (x37_12) = (x37_9) + 1 := hq12_
            clear hq12_
            have hm_ : (x37_12) = (x37_9) + 1 := hh12_.2.2
            have hz_ : Pz_ (y32_12) (y33_12) (400 * n_0 29 + lo_) (400 * n_0 29 + (x37_12)) (el_ + 1) := by rw [hh12_.1, hh12_.2.1, show 400 * n_0 29 + (x37_12) = 400 * n_0 29 + (x37_9) + 1 by omega]; exact Pz_ext h2_.2.2.2.2.2.2 (by omega) (by omega) (by omega)
            have hf_ : Fr_ (y32_9) (y33_9) (y32_12) (y33_12) (400 * n_0 29 + (x37_9)) := by rw [hh12_.1, hh12_.2.1]; exact Fr_up (by omega)
            refine j_iconst E 95 rfl dX10_readCompared_94 ?_
            exact hret 95 0 (upN (upN (upN (upN (upN (upN (upN n_0 24 x24_9) 25 x25_9) 26 x26_9) 27 x27_9) 37 x37_12) 41 x41_9) 42 x42_9) (upF (upF (upF (upF f_0 30 y30_9) 31 y31_9) 32 y32_12) 33 y33_12) _ _ ls hw (rr (by decide)) ⟨x24_9, x25_9, x26_9, x27_9, x37_12, x41_9, x42_9, y30_9, y31_9, y32_12, y33_12, rfl, rfl, Or.inr ⟨rfl, Fr_tr h0_.1 (Fr_tr h2_.1 hf_ (by omega)) (by omega), tk_tr h0_.2.1 (tk_tr hk_ h2_.2.1), by omega, by omega, by omega, by omega, hz_⟩⟩ dX10_readCompared_95
        · refine j_bipush E 68 rfl dX10_readCompared_66 (by decide) ?_
          refine j_goto E 73 dX10_readCompared_68 (by decide) ?_
          refine j_istore_n E 74 rfl [(1, .int (J 8)), (0, .ref (q 0))] dX10_readCompared_73 rfl hl (by decide) rfl (fun ls hl => ?_)
          refine j_aload_n E 75 rfl dX10_readCompared_74 rfl (lv_at hl 1 rfl) ?_
          refine m_callv E (c_X10_next l D cy q (upN (upN (upN (upN (upN (upN (upN n_0 24 x24_1) 25 x25_1) 26 x26_1) 27 x27_1) 37 x37_1) 41 x41_1) 42 x42_1) (upF (upF (upF (upF f_0 30 y30_1) 31 y31_1) 32 y32_1) 33 y33_1)    (show 0 ≤ (n_0 29) ∧ (n_0 29) < 32 from by omega) (show 0 ≤ (n_0 23) ∧ (n_0 23) ≤ 400 from by omega) (show Wds_ (f_0 28) from hp2) (show 0 ≤ (x24_1) ∧ (x24_1) ≤ (n_0 23) from by omega) (show 0 ≤ (y31_1 ((n_0 29))) ∧ (y31_1 ((n_0 29))) ≤ (x24_1) from by omega)) rfl mt_X10_next ml_X10_269 hK hw hA ⟨Nat.le_of_ble_eq_true rfl, Nat.le_of_ble_eq_true rfl⟩ (As := []) (rest := []) rfl rfl hl.1 (Nat.le_of_ble_eq_true rfl) 78 rfl dX10_readCompared_75 (fun n_13 f_13 H locs hq13_ hw => ?_)
          obtain ⟨x24_13, x25_13, x26_13, x27_13, y30_13, y31_13, en13_, ef13_, hq13_⟩ := hq13_
          rw [en13_, ef13_] at hw; clear en13_ ef13_
          have hw : WM D cy q (upN (upN (upN (upN (upN (upN (upN n_0 24 x24_13) 25 x25_13) 26 x26_13) 27 x27_13) 37 x37_1) 41 x41_1) 42 x42_1) (upF (upF (upF (upF f_0 30 y30_13) 31 y31_13) 32 y32_1) 33 y33_1) A0 H0 H locs := hw
          have rx24_13 : inR x24_13 := mRn_24 hw.1.2.2.1
          have rx25_13 : inR x25_13 := mRn_25 hw.1.2.2.1
          have rx26_13 : inR x26_13 := mRn_26 hw.1.2.2.1
          have rx27_13 : inR x27_13 := mRn_27 hw.1.2.2.1
          have hh13_ : (0 ≤ (x25_13) ∧ (x25_13) ≤ (x24_13) ∧ (x24_13) ≤ (n_0 23)) ∧ (0 ≤ (y31_13 ((n_0 29))) ∧ (y31_13 ((n_0 29))) ≤ (x24_13)) ∧ (0 ≤ (x26_13) ∧ (x26_13) ≤ 4) ∧ (¬ (x26_13) = 0 → (x25_13) < (x24_13)) ∧ ((x26_13) = 3 → 0 ≤ (x27_13) ∧ (x27_13) ≤ 9999) ∧ (x24_1) ≤ (x25_13) ∧ (∀ i, i ≠ (n_0 29) → (y31_13 i) = (y31_1 i)) := hq13_
          clear hq13_
          have hk_ := hh13_.2.2.2.2.2.2
          refine j_aload_n E 79 rfl dX10_readCompared_78 rfl (lv_at hl 1 rfl) ?_
          refine m_calli E (c_X10_readSum l D cy q (upN (upN (upN (upN (upN (upN (upN n_0 24 x24_13) 25 x25_13) 26 x26_13) 27 x27_13) 37 x37_1) 41 x41_1) 42 x42_1) (upF (upF (upF (upF f_0 30 y30_13) 31 y31_13) 32 y32_1) 33 y33_1)  (dl_ + 1) lo_ (el_ + 1)  (show 0 ≤ (n_0 29) ∧ (n_0 29) < 32 from by omega) (show 0 ≤ (n_0 23) ∧ (n_0 23) ≤ 400 from by omega) (show Wds_ (f_0 28) from hp2) (show 0 ≤ (dl_ + 1) ∧ (0 ≤ (x25_13) ∧ (x25_13) ≤ (x24_13) ∧ (x24_13) ≤ (n_0 23)) ∧ (0 ≤ (y31_13 ((n_0 29))) ∧ (y31_13 ((n_0 29))) ≤ (x24_13)) ∧ (0 ≤ (x26_13) ∧ (x26_13) ≤ 4) ∧ (¬ (x26_13) = 0 → (x25_13) < (x24_13)) ∧ ((x26_13) = 3 → 0 ≤ (x27_13) ∧ (x27_13) ≤ 9999) ∧ (0 ≤ lo_ ∧ lo_ ≤ (x37_1)) ∧ (x37_1) + (dl_ + 1) ≤ (x25_13) from by omega) (show Pz_ (y32_1) (y33_1) (400 * (n_0 29) + lo_) (400 * (n_0 29) + (x37_1)) (el_ + 1) from h0_.2.2.2.2.2.2)) rfl mt_X10_readSum ml_X10_282 hK hw hA ⟨Nat.le_of_ble_eq_true rfl, Nat.le_of_ble_eq_true rfl⟩ (As := []) (rest := []) rfl rfl hl.1 (Nat.le_of_ble_eq_true rfl) 82 rfl dX10_readCompared_79 (fun zz14_ n_14 f_14 H locs rr14_ hq14_ hw => ?_)
          obtain ⟨x24_14, x25_14, x26_14, x27_14, x37_14, x41_14, x42_14, y30_14, y31_14, y32_14, y33_14, en14_, ef14_, hq14_⟩ := hq14_
          rw [en14_, ef14_] at hw; clear en14_ ef14_
          have hw : WM D cy q (upN (upN (upN (upN (upN (upN (upN n_0 24 x24_14) 25 x25_14) 26 x26_14) 27 x27_14) 37 x37_14) 41 x41_14) 42 x42_14) (upF (upF (upF (upF f_0 30 y30_14) 31 y31_14) 32 y32_14) 33 y33_14) A0 H0 H locs := hw
          have rx24_14 : inR x24_14 := mRn_24 hw.1.2.2.1
          have rx25_14 : inR x25_14 := mRn_25 hw.1.2.2.1
          have rx26_14 : inR x26_14 := mRn_26 hw.1.2.2.1
          have rx27_14 : inR x27_14 := mRn_27 hw.1.2.2.1
          have rx37_14 : inR x37_14 := mRn_37 hw.1.2.2.1
          have rx41_14 : inR x41_14 := mRn_41 hw.1.2.2.1
          have rx42_14 : inR x42_14 := mRn_42 hw.1.2.2.1
          have hh14_ : (zz14_ = -1 ∧ Fr_ (y32_1) (y33_1) (y32_14) (y33_14) (400 * (n_0 29) + (x37_1)) ∧ (∀ i, i ≠ (n_0 29) → (y31_14 i) = (y31_13 i)) ∧ (0 ≤ (y31_14 ((n_0 29))) ∧ (y31_14 ((n_0 29))) ≤ 400)) ∨ (zz14_ = 0 ∧ Fr_ (y32_1) (y33_1) (y32_14) (y33_14) (400 * (n_0 29) + (x37_1)) ∧ (∀ i, i ≠ (n_0 29) → (y31_14 i) = (y31_13 i)) ∧ (0 ≤ (y31_14 ((n_0 29))) ∧ (y31_14 ((n_0 29))) ≤ 400) ∧ ((0 ≤ (x25_14) ∧ (x25_14) ≤ (x24_14) ∧ (x24_14) ≤ (n_0 23)) ∧ (0 ≤ (y31_14 ((n_0 29))) ∧ (y31_14 ((n_0 29))) ≤ (x24_14)) ∧ (0 ≤ (x26_14) ∧ (x26_14) ≤ 4) ∧ (¬ (x26_14) = 0 → (x25_14) < (x24_14)) ∧ ((x26_14) = 3 → 0 ≤ (x27_14) ∧ (x27_14) ≤ 9999) ∧ (0 ≤ lo_ ∧ lo_ ≤ (x37_14)) ∧ (x37_14) + (dl_ + 1) ≤ (x25_14)) ∧ (x25_13) < (x25_14) ∧ (x37_1) ≤ (x37_14) ∧ Pz_ (y32_14) (y33_14) (400 * (n_0 29) + lo_) (400 * (n_0 29) + (x37_14)) ((el_ + 1) + 1)) := hq14_
          clear hq14_
          rcases hh14_ with ⟨ee14_, hh14_⟩ | ⟨ee14_, hh14_⟩
          · subst ee14_
            have hx2_ := hh14_
            refine j_iconst E 83 rfl dX10_readCompared_82 ?_
            refine j_icmp_ne E 86 88 rfl (rr (by decide)) (rr (by decide)) dX10_readCompared_83 (by decide) (fun cc15_ => absurd cc15_ (by decide)) (fun _ => ?_)
            refine j_iconst E 87 rfl dX10_readCompared_86 ?_
            exact hret 87 ((-1)) (upN (upN (upN (upN (upN (upN (upN n_0 24 x24_14) 25 x25_14) 26 x26_14) 27 x27_14) 37 x37_14) 41 x41_14) 42 x42_14) (upF (upF (upF (upF f_0 30 y30_14) 31 y31_14) 32 y32_14) 33 y33_14) _ _ ls hw (rr (by decide)) ⟨x24_14, x25_14, x26_14, x27_14, x37_14, x41_14, x42_14, y30_14, y31_14, y32_14, y33_14, rfl, rfl, Or.inl ⟨rfl, Fr_tr h0_.1 hx2_.1 (by omega), tk_tr h0_.2.1 (tk_tr hk_ hx2_.2.1), hx2_.2.2⟩⟩ dX10_readCompared_87
          · subst ee14_
            have h2_ := hh14_
            have hb2_ := (h2_.2.2.2.2.2.2).2
            refine j_iconst E 83 rfl dX10_readCompared_82 ?_
            refine j_icmp_ne E 86 88 rfl (rr (by decide)) (rr (by decide)) dX10_readCompared_83 (by decide) (fun _ => ?_) (fun cc16_ => absurd cc16_ (by decide))
            refine j_aload_n E 89 rfl dX10_readCompared_88 rfl (lv_at hl 1 rfl) ?_
            refine j_iload_n E 90 rfl dX10_readCompared_89 rfl (lv_at hl 0 rfl) ?_
            refine j_iconst E 91 rfl dX10_readCompared_90 ?_
            refine m_callv E (c_X10_emits l D cy q (upN (upN (upN (upN (upN (upN (upN n_0 24 x24_14) 25 x25_14) 26 x26_14) 27 x27_14) 37 x37_14) 41 x41_14) 42 x42_14) (upF (upF (upF (upF f_0 30 y30_14) 31 y31_14) 32 y32_14) 33 y33_14) 8 0  (rr (by decide)) (rr (by decide)) (show 0 ≤ (n_0 29) ∧ (n_0 29) < 32 from by omega) (show 0 ≤ (x37_14) ∧ (x37_14) ≤ 399 from by omega)) rfl mt_X10_emits ml_X10_265 hK hw hA ⟨Nat.le_of_ble_eq_true rfl, Nat.le_of_ble_eq_true rfl⟩ (As := [.int (J 8), .int (J 0)]) (rest := []) rfl rfl hl.1 (Nat.le_of_ble_eq_true rfl) 94 rfl dX10_readCompared_91 (fun n_17 f_17 H locs hq17_ hw => ?_)
            obtain ⟨x37_17, y32_17, y33_17, en17_, ef17_, hq17_⟩ := hq17_
            rw [en17_, ef17_] at hw; clear en17_ ef17_
            have hw : WM D cy q (upN (upN (upN (upN (upN (upN (upN n_0 24 x24_14) 25 x25_14) 26 x26_14) 27 x27_14) 37 x37_17) 41 x41_14) 42 x42_14) (upF (upF (upF (upF f_0 30 y30_14) 31 y31_14) 32 y32_17) 33 y33_17) A0 H0 H locs := hw
            have rx37_17 : inR x37_17 := mRn_37 hw.1.2.2.1
            have hh17_ : (y32_17) = upA (y32_14) (400 * (n_0 29) + (x37_14)) (8 : Int) ∧ (y33_17) = upA (y33_14) (400 * (n_0 29) + (x37_14)) (0 : Int) ∧ (x37_17) = (x37_14) + 1 := hq17_
            clear hq17_
            have hm_ : (x37_17) = (x37_14) + 1 := hh17_.2.2
            have hz_ : Pz_ (y32_17) (y33_17) (400 * n_0 29 + lo_) (400 * n_0 29 + (x37_17)) (el_ + 1) := by rw [hh17_.1, hh17_.2.1, show 400 * n_0 29 + (x37_17) = 400 * n_0 29 + (x37_14) + 1 by omega]; exact Pz_ext h2_.2.2.2.2.2.2 (by omega) (by omega) (by omega)
            have hf_ : Fr_ (y32_14) (y33_14) (y32_17) (y33_17) (400 * n_0 29 + (x37_14)) := by rw [hh17_.1, hh17_.2.1]; exact Fr_up (by omega)
            refine j_iconst E 95 rfl dX10_readCompared_94 ?_
            exact hret 95 0 (upN (upN (upN (upN (upN (upN (upN n_0 24 x24_14) 25 x25_14) 26 x26_14) 27 x27_14) 37 x37_17) 41 x41_14) 42 x42_14) (upF (upF (upF (upF f_0 30 y30_14) 31 y31_14) 32 y32_17) 33 y33_17) _ _ ls hw (rr (by decide)) ⟨x24_14, x25_14, x26_14, x27_14, x37_17, x41_14, x42_14, y30_14, y31_14, y32_17, y33_17, rfl, rfl, Or.inr ⟨rfl, Fr_tr h0_.1 (Fr_tr h2_.1 hf_ (by omega)) (by omega), tk_tr h0_.2.1 (tk_tr hk_ h2_.2.1), by omega, by omega, by omega, by omega, hz_⟩⟩ dX10_readCompared_95
      · refine j_bipush E 54 rfl dX10_readCompared_52 (by decide) ?_
        refine j_goto E 73 dX10_readCompared_54 (by decide) ?_
        refine j_istore_n E 74 rfl [(1, .int (J 7)), (0, .ref (q 0))] dX10_readCompared_73 rfl hl (by decide) rfl (fun ls hl => ?_)
        refine j_aload_n E 75 rfl dX10_readCompared_74 rfl (lv_at hl 1 rfl) ?_
        refine m_callv E (c_X10_next l D cy q (upN (upN (upN (upN (upN (upN (upN n_0 24 x24_1) 25 x25_1) 26 x26_1) 27 x27_1) 37 x37_1) 41 x41_1) 42 x42_1) (upF (upF (upF (upF f_0 30 y30_1) 31 y31_1) 32 y32_1) 33 y33_1)    (show 0 ≤ (n_0 29) ∧ (n_0 29) < 32 from by omega) (show 0 ≤ (n_0 23) ∧ (n_0 23) ≤ 400 from by omega) (show Wds_ (f_0 28) from hp2) (show 0 ≤ (x24_1) ∧ (x24_1) ≤ (n_0 23) from by omega) (show 0 ≤ (y31_1 ((n_0 29))) ∧ (y31_1 ((n_0 29))) ≤ (x24_1) from by omega)) rfl mt_X10_next ml_X10_269 hK hw hA ⟨Nat.le_of_ble_eq_true rfl, Nat.le_of_ble_eq_true rfl⟩ (As := []) (rest := []) rfl rfl hl.1 (Nat.le_of_ble_eq_true rfl) 78 rfl dX10_readCompared_75 (fun n_18 f_18 H locs hq18_ hw => ?_)
        obtain ⟨x24_18, x25_18, x26_18, x27_18, y30_18, y31_18, en18_, ef18_, hq18_⟩ := hq18_
        rw [en18_, ef18_] at hw; clear en18_ ef18_
        have hw : WM D cy q (upN (upN (upN (upN (upN (upN (upN n_0 24 x24_18) 25 x25_18) 26 x26_18) 27 x27_18) 37 x37_1) 41 x41_1) 42 x42_1) (upF (upF (upF (upF f_0 30 y30_18) 31 y31_18) 32 y32_1) 33 y33_1) A0 H0 H locs := hw
        have rx24_18 : inR x24_18 := mRn_24 hw.1.2.2.1
        have rx25_18 : inR x25_18 := mRn_25 hw.1.2.2.1
        have rx26_18 : inR x26_18 := mRn_26 hw.1.2.2.1
        have rx27_18 : inR x27_18 := mRn_27 hw.1.2.2.1
        have hh18_ : (0 ≤ (x25_18) ∧ (x25_18) ≤ (x24_18) ∧ (x24_18) ≤ (n_0 23)) ∧ (0 ≤ (y31_18 ((n_0 29))) ∧ (y31_18 ((n_0 29))) ≤ (x24_18)) ∧ (0 ≤ (x26_18) ∧ (x26_18) ≤ 4) ∧ (¬ (x26_18) = 0 → (x25_18) < (x24_18)) ∧ ((x26_18) = 3 → 0 ≤ (x27_18) ∧ (x27_18) ≤ 9999) ∧ (x24_1) ≤ (x25_18) ∧ (∀ i, i ≠ (n_0 29) → (y31_18 i) = (y31_1 i)) := hq18_
        clear hq18_
        have hk_ := hh18_.2.2.2.2.2.2
        refine j_aload_n E 79 rfl dX10_readCompared_78 rfl (lv_at hl 1 rfl) ?_
        refine m_calli E (c_X10_readSum l D cy q (upN (upN (upN (upN (upN (upN (upN n_0 24 x24_18) 25 x25_18) 26 x26_18) 27 x27_18) 37 x37_1) 41 x41_1) 42 x42_1) (upF (upF (upF (upF f_0 30 y30_18) 31 y31_18) 32 y32_1) 33 y33_1)  (dl_ + 1) lo_ (el_ + 1)  (show 0 ≤ (n_0 29) ∧ (n_0 29) < 32 from by omega) (show 0 ≤ (n_0 23) ∧ (n_0 23) ≤ 400 from by omega) (show Wds_ (f_0 28) from hp2) (show 0 ≤ (dl_ + 1) ∧ (0 ≤ (x25_18) ∧ (x25_18) ≤ (x24_18) ∧ (x24_18) ≤ (n_0 23)) ∧ (0 ≤ (y31_18 ((n_0 29))) ∧ (y31_18 ((n_0 29))) ≤ (x24_18)) ∧ (0 ≤ (x26_18) ∧ (x26_18) ≤ 4) ∧ (¬ (x26_18) = 0 → (x25_18) < (x24_18)) ∧ ((x26_18) = 3 → 0 ≤ (x27_18) ∧ (x27_18) ≤ 9999) ∧ (0 ≤ lo_ ∧ lo_ ≤ (x37_1)) ∧ (x37_1) + (dl_ + 1) ≤ (x25_18) from by omega) (show Pz_ (y32_1) (y33_1) (400 * (n_0 29) + lo_) (400 * (n_0 29) + (x37_1)) (el_ + 1) from h0_.2.2.2.2.2.2)) rfl mt_X10_readSum ml_X10_282 hK hw hA ⟨Nat.le_of_ble_eq_true rfl, Nat.le_of_ble_eq_true rfl⟩ (As := []) (rest := []) rfl rfl hl.1 (Nat.le_of_ble_eq_true rfl) 82 rfl dX10_readCompared_79 (fun zz19_ n_19 f_19 H locs rr19_ hq19_ hw => ?_)
        obtain ⟨x24_19, x25_19, x26_19, x27_19, x37_19, x41_19, x42_19, y30_19, y31_19, y32_19, y33_19, en19_, ef19_, hq19_⟩ := hq19_
        rw [en19_, ef19_] at hw; clear en19_ ef19_
        have hw : WM D cy q (upN (upN (upN (upN (upN (upN (upN n_0 24 x24_19) 25 x25_19) 26 x26_19) 27 x27_19) 37 x37_19) 41 x41_19) 42 x42_19) (upF (upF (upF (upF f_0 30 y30_19) 31 y31_19) 32 y32_19) 33 y33_19) A0 H0 H locs := hw
        have rx24_19 : inR x24_19 := mRn_24 hw.1.2.2.1
        have rx25_19 : inR x25_19 := mRn_25 hw.1.2.2.1
        have rx26_19 : inR x26_19 := mRn_26 hw.1.2.2.1
        have rx27_19 : inR x27_19 := mRn_27 hw.1.2.2.1
        have rx37_19 : inR x37_19 := mRn_37 hw.1.2.2.1
        have rx41_19 : inR x41_19 := mRn_41 hw.1.2.2.1
        have rx42_19 : inR x42_19 := mRn_42 hw.1.2.2.1
        have hh19_ : (zz19_ = -1 ∧ Fr_ (y32_1) (y33_1) (y32_19) (y33_19) (400 * (n_0 29) + (x37_1)) ∧ (∀ i, i ≠ (n_0 29) → (y31_19 i) = (y31_18 i)) ∧ (0 ≤ (y31_19 ((n_0 29))) ∧ (y31_19 ((n_0 29))) ≤ 400)) ∨ (zz19_ = 0 ∧ Fr_ (y32_1) (y33_1) (y32_19) (y33_19) (400 * (n_0 29) + (x37_1)) ∧ (∀ i, i ≠ (n_0 29) → (y31_19 i) = (y31_18 i)) ∧ (0 ≤ (y31_19 ((n_0 29))) ∧ (y31_19 ((n_0 29))) ≤ 400) ∧ ((0 ≤ (x25_19) ∧ (x25_19) ≤ (x24_19) ∧ (x24_19) ≤ (n_0 23)) ∧ (0 ≤ (y31_19 ((n_0 29))) ∧ (y31_19 ((n_0 29))) ≤ (x24_19)) ∧ (0 ≤ (x26_19) ∧ (x26_19) ≤ 4) ∧ (¬ (x26_19) = 0 → (x25_19) < (x24_19)) ∧ ((x26_19) = 3 → 0 ≤ (x27_19) ∧ (x27_19) ≤ 9999) ∧ (0 ≤ lo_ ∧ lo_ ≤ (x37_19)) ∧ (x37_19) + (dl_ + 1) ≤ (x25_19)) ∧ (x25_18) < (x25_19) ∧ (x37_1) ≤ (x37_19) ∧ Pz_ (y32_19) (y33_19) (400 * (n_0 29) + lo_) (400 * (n_0 29) + (x37_19)) ((el_ + 1) + 1)) := hq19_
        clear hq19_
        rcases hh19_ with ⟨ee19_, hh19_⟩ | ⟨ee19_, hh19_⟩
        · subst ee19_
          have hx2_ := hh19_
          refine j_iconst E 83 rfl dX10_readCompared_82 ?_
          refine j_icmp_ne E 86 88 rfl (rr (by decide)) (rr (by decide)) dX10_readCompared_83 (by decide) (fun cc20_ => absurd cc20_ (by decide)) (fun _ => ?_)
          refine j_iconst E 87 rfl dX10_readCompared_86 ?_
          exact hret 87 ((-1)) (upN (upN (upN (upN (upN (upN (upN n_0 24 x24_19) 25 x25_19) 26 x26_19) 27 x27_19) 37 x37_19) 41 x41_19) 42 x42_19) (upF (upF (upF (upF f_0 30 y30_19) 31 y31_19) 32 y32_19) 33 y33_19) _ _ ls hw (rr (by decide)) ⟨x24_19, x25_19, x26_19, x27_19, x37_19, x41_19, x42_19, y30_19, y31_19, y32_19, y33_19, rfl, rfl, Or.inl ⟨rfl, Fr_tr h0_.1 hx2_.1 (by omega), tk_tr h0_.2.1 (tk_tr hk_ hx2_.2.1), hx2_.2.2⟩⟩ dX10_readCompared_87
        · subst ee19_
          have h2_ := hh19_
          have hb2_ := (h2_.2.2.2.2.2.2).2
          refine j_iconst E 83 rfl dX10_readCompared_82 ?_
          refine j_icmp_ne E 86 88 rfl (rr (by decide)) (rr (by decide)) dX10_readCompared_83 (by decide) (fun _ => ?_) (fun cc21_ => absurd cc21_ (by decide))
          refine j_aload_n E 89 rfl dX10_readCompared_88 rfl (lv_at hl 1 rfl) ?_
          refine j_iload_n E 90 rfl dX10_readCompared_89 rfl (lv_at hl 0 rfl) ?_
          refine j_iconst E 91 rfl dX10_readCompared_90 ?_
          refine m_callv E (c_X10_emits l D cy q (upN (upN (upN (upN (upN (upN (upN n_0 24 x24_19) 25 x25_19) 26 x26_19) 27 x27_19) 37 x37_19) 41 x41_19) 42 x42_19) (upF (upF (upF (upF f_0 30 y30_19) 31 y31_19) 32 y32_19) 33 y33_19) 7 0  (rr (by decide)) (rr (by decide)) (show 0 ≤ (n_0 29) ∧ (n_0 29) < 32 from by omega) (show 0 ≤ (x37_19) ∧ (x37_19) ≤ 399 from by omega)) rfl mt_X10_emits ml_X10_265 hK hw hA ⟨Nat.le_of_ble_eq_true rfl, Nat.le_of_ble_eq_true rfl⟩ (As := [.int (J 7), .int (J 0)]) (rest := []) rfl rfl hl.1 (Nat.le_of_ble_eq_true rfl) 94 rfl dX10_readCompared_91 (fun n_22 f_22 H locs hq22_ hw => ?_)
          obtain ⟨x37_22, y32_22, y33_22, en22_, ef22_, hq22_⟩ := hq22_
          rw [en22_, ef22_] at hw; clear en22_ ef22_
          have hw : WM D cy q (upN (upN (upN (upN (upN (upN (upN n_0 24 x24_19) 25 x25_19) 26 x26_19) 27 x27_19) 37 x37_22) 41 x41_19) 42 x42_19) (upF (upF (upF (upF f_0 30 y30_19) 31 y31_19) 32 y32_22) 33 y33_22) A0 H0 H locs := hw
          have rx37_22 : inR x37_22 := mRn_37 hw.1.2.2.1
          have hh22_ : (y32_22) = upA (y32_19) (400 * (n_0 29) + (x37_19)) (7 : Int) ∧ (y33_22) = upA (y33_19) (400 * (n_0 29) + (x37_19)) (0 : Int) ∧ (x37_22) = (x37_19) + 1 := hq22_
          clear hq22_
          have hm_ : (x37_22) = (x37_19) + 1 := hh22_.2.2
          have hz_ : Pz_ (y32_22) (y33_22) (400 * n_0 29 + lo_) (400 * n_0 29 + (x37_22)) (el_ + 1) := by rw [hh22_.1, hh22_.2.1, show 400 * n_0 29 + (x37_22) = 400 * n_0 29 + (x37_19) + 1 by omega]; exact Pz_ext h2_.2.2.2.2.2.2 (by omega) (by omega) (by omega)
          have hf_ : Fr_ (y32_19) (y33_19) (y32_22) (y33_22) (400 * n_0 29 + (x37_19)) := by rw [hh22_.1, hh22_.2.1]; exact Fr_up (by omega)
          refine j_iconst E 95 rfl dX10_readCompared_94 ?_
          exact hret 95 0 (upN (upN (upN (upN (upN (upN (upN n_0 24 x24_19) 25 x25_19) 26 x26_19) 27 x27_19) 37 x37_22) 41 x41_19) 42 x42_19) (upF (upF (upF (upF f_0 30 y30_19) 31 y31_19) 32 y32_22) 33 y33_22) _ _ ls hw (rr (by decide)) ⟨x24_19, x25_19, x26_19, x27_19, x37_22, x41_19, x42_19, y30_19, y31_19, y32_22, y33_22, rfl, rfl, Or.inr ⟨rfl, Fr_tr h0_.1 (Fr_tr h2_.1 hf_ (by omega)) (by omega), tk_tr h0_.2.1 (tk_tr hk_ h2_.2.1), by omega, by omega, by omega, by omega, hz_⟩⟩ dX10_readCompared_95
    · subst ee4_
      refine j_if_ne E 19 43 rfl (rr (by decide)) dX10_readCompared_16 (by decide) (fun cc23_ => absurd cc23_ (by decide)) (fun _ => ?_)
      refine j_aload_n E 20 rfl dX10_readCompared_19 rfl (lv_at hl 0 rfl) ?_
      refine j_bipush E 22 rfl dX10_readCompared_20 (by decide) ?_
      refine m_callp (po := fun z_0 => (z_0 = 1 ∧ (x26_1) = 4 ∧ (x27_1) = (61 : Int)) ∨ (z_0 = 0 ∧ ¬ ((x26_1) = 4 ∧ (x27_1) = (61 : Int)))) E (c_X10_isSign l D cy q (upN (upN (upN (upN (upN (upN (upN n_0 24 x24_1) 25 x25_1) 26 x26_1) 27 x27_1) 37 x37_1) 41 x41_1) 42 x42_1) (upF (upF (upF (upF f_0 30 y30_1) 31 y31_1) 32 y32_1) 33 y33_1) 61  (rr (by decide)) ) rfl mt_X10_isSign ml_X10_276 hK hw hA ⟨Nat.le_of_ble_eq_true rfl, Nat.le_of_ble_eq_true rfl⟩ (As := [.int (J 61)]) (rest := []) rfl rfl hl.1 (Nat.le_of_ble_eq_true rfl) 25 rfl dX10_readCompared_22 (fun zz24_ H locs rr24_ hq24_ hw => ?_)
      have hh24_ : (zz24_ = 1 ∧ (x26_1) = 4 ∧ (x27_1) = (61 : Int)) ∨ (zz24_ = 0 ∧ ¬ ((x26_1) = 4 ∧ (x27_1) = (61 : Int))) := hq24_
      clear hq24_
      rcases hh24_ with ⟨ee24_, hh24_⟩ | ⟨ee24_, hh24_⟩
      · subst ee24_
        refine j_if_ne E 28 43 rfl (rr (by decide)) dX10_readCompared_25 (by decide) (fun _ => ?_) (fun cc25_ => absurd cc25_ (by decide))
        refine j_aload_n E 44 rfl dX10_readCompared_43 rfl (lv_at hl 0 rfl) ?_
        refine m_get_27 E hK hw x27_1 rfl 47 rfl dX10_readCompared_44 (fun _ => ?_)
        refine j_bipush E 49 rfl dX10_readCompared_47 (by decide) ?_
        refine j_icmp_ne E 52 57 rfl rx27_1 (rr (by decide)) dX10_readCompared_49 (by decide) (fun cc26_ => ?_) (fun cc26_ => ?_)
        · refine j_aload_n E 58 rfl dX10_readCompared_57 rfl (lv_at hl 0 rfl) ?_
          refine m_get_27 E hK hw x27_1 rfl 61 rfl dX10_readCompared_58 (fun _ => ?_)
          refine j_bipush E 63 rfl dX10_readCompared_61 (by decide) ?_
          refine j_icmp_ne E 66 71 rfl rx27_1 (rr (by decide)) dX10_readCompared_63 (by decide) (fun cc27_ => ?_) (fun cc27_ => ?_)
          · refine j_bipush E 73 rfl dX10_readCompared_71 (by decide) ?_
            refine j_istore_n E 74 rfl [(1, .int (J 9)), (0, .ref (q 0))] dX10_readCompared_73 rfl hl (by decide) rfl (fun ls hl => ?_)
            refine j_aload_n E 75 rfl dX10_readCompared_74 rfl (lv_at hl 1 rfl) ?_
            refine m_callv E (c_X10_next l D cy q (upN (upN (upN (upN (upN (upN (upN n_0 24 x24_1) 25 x25_1) 26 x26_1) 27 x27_1) 37 x37_1) 41 x41_1) 42 x42_1) (upF (upF (upF (upF f_0 30 y30_1) 31 y31_1) 32 y32_1) 33 y33_1)    (show 0 ≤ (n_0 29) ∧ (n_0 29) < 32 from by omega) (show 0 ≤ (n_0 23) ∧ (n_0 23) ≤ 400 from by omega) (show Wds_ (f_0 28) from hp2) (show 0 ≤ (x24_1) ∧ (x24_1) ≤ (n_0 23) from by omega) (show 0 ≤ (y31_1 ((n_0 29))) ∧ (y31_1 ((n_0 29))) ≤ (x24_1) from by omega)) rfl mt_X10_next ml_X10_269 hK hw hA ⟨Nat.le_of_ble_eq_true rfl, Nat.le_of_ble_eq_true rfl⟩ (As := []) (rest := []) rfl rfl hl.1 (Nat.le_of_ble_eq_true rfl) 78 rfl dX10_readCompared_75 (fun n_28 f_28 H locs hq28_ hw => ?_)
            obtain ⟨x24_28, x25_28, x26_28, x27_28, y30_28, y31_28, en28_, ef28_, hq28_⟩ := hq28_
            rw [en28_, ef28_] at hw; clear en28_ ef28_
            have hw : WM D cy q (upN (upN (upN (upN (upN (upN (upN n_0 24 x24_28) 25 x25_28) 26 x26_28) 27 x27_28) 37 x37_1) 41 x41_1) 42 x42_1) (upF (upF (upF (upF f_0 30 y30_28) 31 y31_28) 32 y32_1) 33 y33_1) A0 H0 H locs := hw
            have rx24_28 : inR x24_28 := mRn_24 hw.1.2.2.1
            have rx25_28 : inR x25_28 := mRn_25 hw.1.2.2.1
            have rx26_28 : inR x26_28 := mRn_26 hw.1.2.2.1
            have rx27_28 : inR x27_28 := mRn_27 hw.1.2.2.1
            have hh28_ : (0 ≤ (x25_28) ∧ (x25_28) ≤ (x24_28) ∧ (x24_28) ≤ (n_0 23)) ∧ (0 ≤ (y31_28 ((n_0 29))) ∧ (y31_28 ((n_0 29))) ≤ (x24_28)) ∧ (0 ≤ (x26_28) ∧ (x26_28) ≤ 4) ∧ (¬ (x26_28) = 0 → (x25_28) < (x24_28)) ∧ ((x26_28) = 3 → 0 ≤ (x27_28) ∧ (x27_28) ≤ 9999) ∧ (x24_1) ≤ (x25_28) ∧ (∀ i, i ≠ (n_0 29) → (y31_28 i) = (y31_1 i)) := hq28_
            clear hq28_
            have hk_ := hh28_.2.2.2.2.2.2
            refine j_aload_n E 79 rfl dX10_readCompared_78 rfl (lv_at hl 1 rfl) ?_
            refine m_calli E (c_X10_readSum l D cy q (upN (upN (upN (upN (upN (upN (upN n_0 24 x24_28) 25 x25_28) 26 x26_28) 27 x27_28) 37 x37_1) 41 x41_1) 42 x42_1) (upF (upF (upF (upF f_0 30 y30_28) 31 y31_28) 32 y32_1) 33 y33_1)  (dl_ + 1) lo_ (el_ + 1)  (show 0 ≤ (n_0 29) ∧ (n_0 29) < 32 from by omega) (show 0 ≤ (n_0 23) ∧ (n_0 23) ≤ 400 from by omega) (show Wds_ (f_0 28) from hp2) (show 0 ≤ (dl_ + 1) ∧ (0 ≤ (x25_28) ∧ (x25_28) ≤ (x24_28) ∧ (x24_28) ≤ (n_0 23)) ∧ (0 ≤ (y31_28 ((n_0 29))) ∧ (y31_28 ((n_0 29))) ≤ (x24_28)) ∧ (0 ≤ (x26_28) ∧ (x26_28) ≤ 4) ∧ (¬ (x26_28) = 0 → (x25_28) < (x24_28)) ∧ ((x26_28) = 3 → 0 ≤ (x27_28) ∧ (x27_28) ≤ 9999) ∧ (0 ≤ lo_ ∧ lo_ ≤ (x37_1)) ∧ (x37_1) + (dl_ + 1) ≤ (x25_28) from by omega) (show Pz_ (y32_1) (y33_1) (400 * (n_0 29) + lo_) (400 * (n_0 29) + (x37_1)) (el_ + 1) from h0_.2.2.2.2.2.2)) rfl mt_X10_readSum ml_X10_282 hK hw hA ⟨Nat.le_of_ble_eq_true rfl, Nat.le_of_ble_eq_true rfl⟩ (As := []) (rest := []) rfl rfl hl.1 (Nat.le_of_ble_eq_true rfl) 82 rfl dX10_readCompared_79 (fun zz29_ n_29 f_29 H locs rr29_ hq29_ hw => ?_)
            obtain ⟨x24_29, x25_29, x26_29, x27_29, x37_29, x41_29, x42_29, y30_29, y31_29, y32_29, y33_29, en29_, ef29_, hq29_⟩ := hq29_
            rw [en29_, ef29_] at hw; clear en29_ ef29_
            have hw : WM D cy q (upN (upN (upN (upN (upN (upN (upN n_0 24 x24_29) 25 x25_29) 26 x26_29) 27 x27_29) 37 x37_29) 41 x41_29) 42 x42_29) (upF (upF (upF (upF f_0 30 y30_29) 31 y31_29) 32 y32_29) 33 y33_29) A0 H0 H locs := hw
            have rx24_29 : inR x24_29 := mRn_24 hw.1.2.2.1
            have rx25_29 : inR x25_29 := mRn_25 hw.1.2.2.1
            have rx26_29 : inR x26_29 := mRn_26 hw.1.2.2.1
            have rx27_29 : inR x27_29 := mRn_27 hw.1.2.2.1
            have rx37_29 : inR x37_29 := mRn_37 hw.1.2.2.1
            have rx41_29 : inR x41_29 := mRn_41 hw.1.2.2.1
            have rx42_29 : inR x42_29 := mRn_42 hw.1.2.2.1
            have hh29_ : (zz29_ = -1 ∧ Fr_ (y32_1) (y33_1) (y32_29) (y33_29) (400 * (n_0 29) + (x37_1)) ∧ (∀ i, i ≠ (n_0 29) → (y31_29 i) = (y31_28 i)) ∧ (0 ≤ (y31_29 ((n_0 29))) ∧ (y31_29 ((n_0 29))) ≤ 400)) ∨ (zz29_ = 0 ∧ Fr_ (y32_1) (y33_1) (y32_29) (y33_29) (400 * (n_0 29) + (x37_1)) ∧ (∀ i, i ≠ (n_0 29) → (y31_29 i) = (y31_28 i)) ∧ (0 ≤ (y31_29 ((n_0 29))) ∧ (y31_29 ((n_0 29))) ≤ 400) ∧ ((0 ≤ (x25_29) ∧ (x25_29) ≤ (x24_29) ∧ (x24_29) ≤ (n_0 23)) ∧ (0 ≤ (y31_29 ((n_0 29))) ∧ (y31_29 ((n_0 29))) ≤ (x24_29)) ∧ (0 ≤ (x26_29) ∧ (x26_29) ≤ 4) ∧ (¬ (x26_29) = 0 → (x25_29) < (x24_29)) ∧ ((x26_29) = 3 → 0 ≤ (x27_29) ∧ (x27_29) ≤ 9999) ∧ (0 ≤ lo_ ∧ lo_ ≤ (x37_29)) ∧ (x37_29) + (dl_ + 1) ≤ (x25_29)) ∧ (x25_28) < (x25_29) ∧ (x37_1) ≤ (x37_29) ∧ Pz_ (y32_29) (y33_29) (400 * (n_0 29) + lo_) (400 * (n_0 29) + (x37_29)) ((el_ + 1) + 1)) := hq29_
            clear hq29_
            rcases hh29_ with ⟨ee29_, hh29_⟩ | ⟨ee29_, hh29_⟩
            · subst ee29_
              have hx2_ := hh29_
              refine j_iconst E 83 rfl dX10_readCompared_82 ?_
              refine j_icmp_ne E 86 88 rfl (rr (by decide)) (rr (by decide)) dX10_readCompared_83 (by decide) (fun cc30_ => absurd cc30_ (by decide)) (fun _ => ?_)
              refine j_iconst E 87 rfl dX10_readCompared_86 ?_
              exact hret 87 ((-1)) (upN (upN (upN (upN (upN (upN (upN n_0 24 x24_29) 25 x25_29) 26 x26_29) 27 x27_29) 37 x37_29) 41 x41_29) 42 x42_29) (upF (upF (upF (upF f_0 30 y30_29) 31 y31_29) 32 y32_29) 33 y33_29) _ _ ls hw (rr (by decide)) ⟨x24_29, x25_29, x26_29, x27_29, x37_29, x41_29, x42_29, y30_29, y31_29, y32_29, y33_29, rfl, rfl, Or.inl ⟨rfl, Fr_tr h0_.1 hx2_.1 (by omega), tk_tr h0_.2.1 (tk_tr hk_ hx2_.2.1), hx2_.2.2⟩⟩ dX10_readCompared_87
            · subst ee29_
              have h2_ := hh29_
              have hb2_ := (h2_.2.2.2.2.2.2).2
              refine j_iconst E 83 rfl dX10_readCompared_82 ?_
              refine j_icmp_ne E 86 88 rfl (rr (by decide)) (rr (by decide)) dX10_readCompared_83 (by decide) (fun _ => ?_) (fun cc31_ => absurd cc31_ (by decide))
              refine j_aload_n E 89 rfl dX10_readCompared_88 rfl (lv_at hl 1 rfl) ?_
              refine j_iload_n E 90 rfl dX10_readCompared_89 rfl (lv_at hl 0 rfl) ?_
              refine j_iconst E 91 rfl dX10_readCompared_90 ?_
              refine m_callv E (c_X10_emits l D cy q (upN (upN (upN (upN (upN (upN (upN n_0 24 x24_29) 25 x25_29) 26 x26_29) 27 x27_29) 37 x37_29) 41 x41_29) 42 x42_29) (upF (upF (upF (upF f_0 30 y30_29) 31 y31_29) 32 y32_29) 33 y33_29) 9 0  (rr (by decide)) (rr (by decide)) (show 0 ≤ (n_0 29) ∧ (n_0 29) < 32 from by omega) (show 0 ≤ (x37_29) ∧ (x37_29) ≤ 399 from by omega)) rfl mt_X10_emits ml_X10_265 hK hw hA ⟨Nat.le_of_ble_eq_true rfl, Nat.le_of_ble_eq_true rfl⟩ (As := [.int (J 9), .int (J 0)]) (rest := []) rfl rfl hl.1 (Nat.le_of_ble_eq_true rfl) 94 rfl dX10_readCompared_91 (fun n_32 f_32 H locs hq32_ hw => ?_)
              obtain ⟨x37_32, y32_32, y33_32, en32_, ef32_, hq32_⟩ := hq32_
              rw [en32_, ef32_] at hw; clear en32_ ef32_
              have hw : WM D cy q (upN (upN (upN (upN (upN (upN (upN n_0 24 x24_29) 25 x25_29) 26 x26_29) 27 x27_29) 37 x37_32) 41 x41_29) 42 x42_29) (upF (upF (upF (upF f_0 30 y30_29) 31 y31_29) 32 y32_32) 33 y33_32) A0 H0 H locs := hw
              have rx37_32 : inR x37_32 := mRn_37 hw.1.2.2.1
              have hh32_ : (y32_32) = upA (y32_29) (400 * (n_0 29) + (x37_29)) (9 : Int) ∧ (y33_32) = upA (y33_29) (400 * (n_0 29) + (x37_29)) (0 : Int) ∧ (x37_32) = (x37_29) + 1 := hq32_
              clear hq32_
              have hm_ : (x37_32) = (x37_29) + 1 := hh32_.2.2
              have hz_ : Pz_ (y32_32) (y33_32) (400 * n_0 29 + lo_) (400 * n_0 29 + (x37_32)) (el_ + 1) := by rw [hh32_.1, hh32_.2.1, show 400 * n_0 29 + (x37_32) = 400 * n_0 29 + (x37_29) + 1 by omega]; exact Pz_ext h2_.2.2.2.2.2.2 (by omega) (by omega) (by omega)
              have hf_ : Fr_ (y32_29) (y33_29) (y32_32) (y33_32) (400 * n_0 29 + (x37_29)) := by rw [hh32_.1, hh32_.2.1]; exact Fr_up (by omega)
              refine j_iconst E 95 rfl dX10_readCompared_94 ?_
              exact hret 95 0 (upN (upN (upN (upN (upN (upN (upN n_0 24 x24_29) 25 x25_29) 26 x26_29) 27 x27_29) 37 x37_32) 41 x41_29) 42 x42_29) (upF (upF (upF (upF f_0 30 y30_29) 31 y31_29) 32 y32_32) 33 y33_32) _ _ ls hw (rr (by decide)) ⟨x24_29, x25_29, x26_29, x27_29, x37_32, x41_29, x42_29, y30_29, y31_29, y32_32, y33_32, rfl, rfl, Or.inr ⟨rfl, Fr_tr h0_.1 (Fr_tr h2_.1 hf_ (by omega)) (by omega), tk_tr h0_.2.1 (tk_tr hk_ h2_.2.1), by omega, by omega, by omega, by omega, hz_⟩⟩ dX10_readCompared_95
          · refine j_bipush E 68 rfl dX10_readCompared_66 (by decide) ?_
            refine j_goto E 73 dX10_readCompared_68 (by decide) ?_
            refine j_istore_n E 74 rfl [(1, .int (J 8)), (0, .ref (q 0))] dX10_readCompared_73 rfl hl (by decide) rfl (fun ls hl => ?_)
            refine j_aload_n E 75 rfl dX10_readCompared_74 rfl (lv_at hl 1 rfl) ?_
            refine m_callv E (c_X10_next l D cy q (upN (upN (upN (upN (upN (upN (upN n_0 24 x24_1) 25 x25_1) 26 x26_1) 27 x27_1) 37 x37_1) 41 x41_1) 42 x42_1) (upF (upF (upF (upF f_0 30 y30_1) 31 y31_1) 32 y32_1) 33 y33_1)    (show 0 ≤ (n_0 29) ∧ (n_0 29) < 32 from by omega) (show 0 ≤ (n_0 23) ∧ (n_0 23) ≤ 400 from by omega) (show Wds_ (f_0 28) from hp2) (show 0 ≤ (x24_1) ∧ (x24_1) ≤ (n_0 23) from by omega) (show 0 ≤ (y31_1 ((n_0 29))) ∧ (y31_1 ((n_0 29))) ≤ (x24_1) from by omega)) rfl mt_X10_next ml_X10_269 hK hw hA ⟨Nat.le_of_ble_eq_true rfl, Nat.le_of_ble_eq_true rfl⟩ (As := []) (rest := []) rfl rfl hl.1 (Nat.le_of_ble_eq_true rfl) 78 rfl dX10_readCompared_75 (fun n_33 f_33 H locs hq33_ hw => ?_)
            obtain ⟨x24_33, x25_33, x26_33, x27_33, y30_33, y31_33, en33_, ef33_, hq33_⟩ := hq33_
            rw [en33_, ef33_] at hw; clear en33_ ef33_
            have hw : WM D cy q (upN (upN (upN (upN (upN (upN (upN n_0 24 x24_33) 25 x25_33) 26 x26_33) 27 x27_33) 37 x37_1) 41 x41_1) 42 x42_1) (upF (upF (upF (upF f_0 30 y30_33) 31 y31_33) 32 y32_1) 33 y33_1) A0 H0 H locs := hw
            have rx24_33 : inR x24_33 := mRn_24 hw.1.2.2.1
            have rx25_33 : inR x25_33 := mRn_25 hw.1.2.2.1
            have rx26_33 : inR x26_33 := mRn_26 hw.1.2.2.1
            have rx27_33 : inR x27_33 := mRn_27 hw.1.2.2.1
            have hh33_ : (0 ≤ (x25_33) ∧ (x25_33) ≤ (x24_33) ∧ (x24_33) ≤ (n_0 23)) ∧ (0 ≤ (y31_33 ((n_0 29))) ∧ (y31_33 ((n_0 29))) ≤ (x24_33)) ∧ (0 ≤ (x26_33) ∧ (x26_33) ≤ 4) ∧ (¬ (x26_33) = 0 → (x25_33) < (x24_33)) ∧ ((x26_33) = 3 → 0 ≤ (x27_33) ∧ (x27_33) ≤ 9999) ∧ (x24_1) ≤ (x25_33) ∧ (∀ i, i ≠ (n_0 29) → (y31_33 i) = (y31_1 i)) := hq33_
            clear hq33_
            have hk_ := hh33_.2.2.2.2.2.2
            refine j_aload_n E 79 rfl dX10_readCompared_78 rfl (lv_at hl 1 rfl) ?_
            refine m_calli E (c_X10_readSum l D cy q (upN (upN (upN (upN (upN (upN (upN n_0 24 x24_33) 25 x25_33) 26 x26_33) 27 x27_33) 37 x37_1) 41 x41_1) 42 x42_1) (upF (upF (upF (upF f_0 30 y30_33) 31 y31_33) 32 y32_1) 33 y33_1)  (dl_ + 1) lo_ (el_ + 1)  (show 0 ≤ (n_0 29) ∧ (n_0 29) < 32 from by omega) (show 0 ≤ (n_0 23) ∧ (n_0 23) ≤ 400 from by omega) (show Wds_ (f_0 28) from hp2) (show 0 ≤ (dl_ + 1) ∧ (0 ≤ (x25_33) ∧ (x25_33) ≤ (x24_33) ∧ (x24_33) ≤ (n_0 23)) ∧ (0 ≤ (y31_33 ((n_0 29))) ∧ (y31_33 ((n_0 29))) ≤ (x24_33)) ∧ (0 ≤ (x26_33) ∧ (x26_33) ≤ 4) ∧ (¬ (x26_33) = 0 → (x25_33) < (x24_33)) ∧ ((x26_33) = 3 → 0 ≤ (x27_33) ∧ (x27_33) ≤ 9999) ∧ (0 ≤ lo_ ∧ lo_ ≤ (x37_1)) ∧ (x37_1) + (dl_ + 1) ≤ (x25_33) from by omega) (show Pz_ (y32_1) (y33_1) (400 * (n_0 29) + lo_) (400 * (n_0 29) + (x37_1)) (el_ + 1) from h0_.2.2.2.2.2.2)) rfl mt_X10_readSum ml_X10_282 hK hw hA ⟨Nat.le_of_ble_eq_true rfl, Nat.le_of_ble_eq_true rfl⟩ (As := []) (rest := []) rfl rfl hl.1 (Nat.le_of_ble_eq_true rfl) 82 rfl dX10_readCompared_79 (fun zz34_ n_34 f_34 H locs rr34_ hq34_ hw => ?_)
            obtain ⟨x24_34, x25_34, x26_34, x27_34, x37_34, x41_34, x42_34, y30_34, y31_34, y32_34, y33_34, en34_, ef34_, hq34_⟩ := hq34_
            rw [en34_, ef34_] at hw; clear en34_ ef34_
            have hw : WM D cy q (upN (upN (upN (upN (upN (upN (upN n_0 24 x24_34) 25 x25_34) 26 x26_34) 27 x27_34) 37 x37_34) 41 x41_34) 42 x42_34) (upF (upF (upF (upF f_0 30 y30_34) 31 y31_34) 32 y32_34) 33 y33_34) A0 H0 H locs := hw
            have rx24_34 : inR x24_34 := mRn_24 hw.1.2.2.1
            have rx25_34 : inR x25_34 := mRn_25 hw.1.2.2.1
            have rx26_34 : inR x26_34 := mRn_26 hw.1.2.2.1
            have rx27_34 : inR x27_34 := mRn_27 hw.1.2.2.1
            have rx37_34 : inR x37_34 := mRn_37 hw.1.2.2.1
            have rx41_34 : inR x41_34 := mRn_41 hw.1.2.2.1
            have rx42_34 : inR x42_34 := mRn_42 hw.1.2.2.1
            have hh34_ : (zz34_ = -1 ∧ Fr_ (y32_1) (y33_1) (y32_34) (y33_34) (400 * (n_0 29) + (x37_1)) ∧ (∀ i, i ≠ (n_0 29) → (y31_34 i) = (y31_33 i)) ∧ (0 ≤ (y31_34 ((n_0 29))) ∧ (y31_34 ((n_0 29))) ≤ 400)) ∨ (zz34_ = 0 ∧ Fr_ (y32_1) (y33_1) (y32_34) (y33_34) (400 * (n_0 29) + (x37_1)) ∧ (∀ i, i ≠ (n_0 29) → (y31_34 i) = (y31_33 i)) ∧ (0 ≤ (y31_34 ((n_0 29))) ∧ (y31_34 ((n_0 29))) ≤ 400) ∧ ((0 ≤ (x25_34) ∧ (x25_34) ≤ (x24_34) ∧ (x24_34) ≤ (n_0 23)) ∧ (0 ≤ (y31_34 ((n_0 29))) ∧ (y31_34 ((n_0 29))) ≤ (x24_34)) ∧ (0 ≤ (x26_34) ∧ (x26_34) ≤ 4) ∧ (¬ (x26_34) = 0 → (x25_34) < (x24_34)) ∧ ((x26_34) = 3 → 0 ≤ (x27_34) ∧ (x27_34) ≤ 9999) ∧ (0 ≤ lo_ ∧ lo_ ≤ (x37_34)) ∧ (x37_34) + (dl_ + 1) ≤ (x25_34)) ∧ (x25_33) < (x25_34) ∧ (x37_1) ≤ (x37_34) ∧ Pz_ (y32_34) (y33_34) (400 * (n_0 29) + lo_) (400 * (n_0 29) + (x37_34)) ((el_ + 1) + 1)) := hq34_
            clear hq34_
            rcases hh34_ with ⟨ee34_, hh34_⟩ | ⟨ee34_, hh34_⟩
            · subst ee34_
              have hx2_ := hh34_
              refine j_iconst E 83 rfl dX10_readCompared_82 ?_
              refine j_icmp_ne E 86 88 rfl (rr (by decide)) (rr (by decide)) dX10_readCompared_83 (by decide) (fun cc35_ => absurd cc35_ (by decide)) (fun _ => ?_)
              refine j_iconst E 87 rfl dX10_readCompared_86 ?_
              exact hret 87 ((-1)) (upN (upN (upN (upN (upN (upN (upN n_0 24 x24_34) 25 x25_34) 26 x26_34) 27 x27_34) 37 x37_34) 41 x41_34) 42 x42_34) (upF (upF (upF (upF f_0 30 y30_34) 31 y31_34) 32 y32_34) 33 y33_34) _ _ ls hw (rr (by decide)) ⟨x24_34, x25_34, x26_34, x27_34, x37_34, x41_34, x42_34, y30_34, y31_34, y32_34, y33_34, rfl, rfl, Or.inl ⟨rfl, Fr_tr h0_.1 hx2_.1 (by omega), tk_tr h0_.2.1 (tk_tr hk_ hx2_.2.1), hx2_.2.2⟩⟩ dX10_readCompared_87
            · subst ee34_
              have h2_ := hh34_
              have hb2_ := (h2_.2.2.2.2.2.2).2
              refine j_iconst E 83 rfl dX10_readCompared_82 ?_
              refine j_icmp_ne E 86 88 rfl (rr (by decide)) (rr (by decide)) dX10_readCompared_83 (by decide) (fun _ => ?_) (fun cc36_ => absurd cc36_ (by decide))
              refine j_aload_n E 89 rfl dX10_readCompared_88 rfl (lv_at hl 1 rfl) ?_
              refine j_iload_n E 90 rfl dX10_readCompared_89 rfl (lv_at hl 0 rfl) ?_
              refine j_iconst E 91 rfl dX10_readCompared_90 ?_
              refine m_callv E (c_X10_emits l D cy q (upN (upN (upN (upN (upN (upN (upN n_0 24 x24_34) 25 x25_34) 26 x26_34) 27 x27_34) 37 x37_34) 41 x41_34) 42 x42_34) (upF (upF (upF (upF f_0 30 y30_34) 31 y31_34) 32 y32_34) 33 y33_34) 8 0  (rr (by decide)) (rr (by decide)) (show 0 ≤ (n_0 29) ∧ (n_0 29) < 32 from by omega) (show 0 ≤ (x37_34) ∧ (x37_34) ≤ 399 from by omega)) rfl mt_X10_emits ml_X10_265 hK hw hA ⟨Nat.le_of_ble_eq_true rfl, Nat.le_of_ble_eq_true rfl⟩ (As := [.int (J 8), .int (J 0)]) (rest := []) rfl rfl hl.1 (Nat.le_of_ble_eq_true rfl) 94 rfl dX10_readCompared_91 (fun n_37 f_37 H locs hq37_ hw => ?_)
              obtain ⟨x37_37, y32_37, y33_37, en37_, ef37_, hq37_⟩ := hq37_
              rw [en37_, ef37_] at hw; clear en37_ ef37_
              have hw : WM D cy q (upN (upN (upN (upN (upN (upN (upN n_0 24 x24_34) 25 x25_34) 26 x26_34) 27 x27_34) 37 x37_37) 41 x41_34) 42 x42_34) (upF (upF (upF (upF f_0 30 y30_34) 31 y31_34) 32 y32_37) 33 y33_37) A0 H0 H locs := hw
              have rx37_37 : inR x37_37 := mRn_37 hw.1.2.2.1
              have hh37_ : (y32_37) = upA (y32_34) (400 * (n_0 29) + (x37_34)) (8 : Int) ∧ (y33_37) = upA (y33_34) (400 * (n_0 29) + (x37_34)) (0 : Int) ∧ (x37_37) = (x37_34) + 1 := hq37_
              clear hq37_
              have hm_ : (x37_37) = (x37_34) + 1 := hh37_.2.2
              have hz_ : Pz_ (y32_37) (y33_37) (400 * n_0 29 + lo_) (400 * n_0 29 + (x37_37)) (el_ + 1) := by rw [hh37_.1, hh37_.2.1, show 400 * n_0 29 + (x37_37) = 400 * n_0 29 + (x37_34) + 1 by omega]; exact Pz_ext h2_.2.2.2.2.2.2 (by omega) (by omega) (by omega)
              have hf_ : Fr_ (y32_34) (y33_34) (y32_37) (y33_37) (400 * n_0 29 + (x37_34)) := by rw [hh37_.1, hh37_.2.1]; exact Fr_up (by omega)
              refine j_iconst E 95 rfl dX10_readCompared_94 ?_
              exact hret 95 0 (upN (upN (upN (upN (upN (upN (upN n_0 24 x24_34) 25 x25_34) 26 x26_34) 27 x27_34) 37 x37_37) 41 x41_34) 42 x42_34) (upF (upF (upF (upF f_0 30 y30_34) 31 y31_34) 32 y32_37) 33 y33_37) _ _ ls hw (rr (by decide)) ⟨x24_34, x25_34, x26_34, x27_34, x37_37, x41_34, x42_34, y30_34, y31_34, y32_37, y33_37, rfl, rfl, Or.inr ⟨rfl, Fr_tr h0_.1 (Fr_tr h2_.1 hf_ (by omega)) (by omega), tk_tr h0_.2.1 (tk_tr hk_ h2_.2.1), by omega, by omega, by omega, by omega, hz_⟩⟩ dX10_readCompared_95
        · refine j_bipush E 54 rfl dX10_readCompared_52 (by decide) ?_
          refine j_goto E 73 dX10_readCompared_54 (by decide) ?_
          refine j_istore_n E 74 rfl [(1, .int (J 7)), (0, .ref (q 0))] dX10_readCompared_73 rfl hl (by decide) rfl (fun ls hl => ?_)
          refine j_aload_n E 75 rfl dX10_readCompared_74 rfl (lv_at hl 1 rfl) ?_
          refine m_callv E (c_X10_next l D cy q (upN (upN (upN (upN (upN (upN (upN n_0 24 x24_1) 25 x25_1) 26 x26_1) 27 x27_1) 37 x37_1) 41 x41_1) 42 x42_1) (upF (upF (upF (upF f_0 30 y30_1) 31 y31_1) 32 y32_1) 33 y33_1)    (show 0 ≤ (n_0 29) ∧ (n_0 29) < 32 from by omega) (show 0 ≤ (n_0 23) ∧ (n_0 23) ≤ 400 from by omega) (show Wds_ (f_0 28) from hp2) (show 0 ≤ (x24_1) ∧ (x24_1) ≤ (n_0 23) from by omega) (show 0 ≤ (y31_1 ((n_0 29))) ∧ (y31_1 ((n_0 29))) ≤ (x24_1) from by omega)) rfl mt_X10_next ml_X10_269 hK hw hA ⟨Nat.le_of_ble_eq_true rfl, Nat.le_of_ble_eq_true rfl⟩ (As := []) (rest := []) rfl rfl hl.1 (Nat.le_of_ble_eq_true rfl) 78 rfl dX10_readCompared_75 (fun n_38 f_38 H locs hq38_ hw => ?_)
          obtain ⟨x24_38, x25_38, x26_38, x27_38, y30_38, y31_38, en38_, ef38_, hq38_⟩ := hq38_
          rw [en38_, ef38_] at hw; clear en38_ ef38_
          have hw : WM D cy q (upN (upN (upN (upN (upN (upN (upN n_0 24 x24_38) 25 x25_38) 26 x26_38) 27 x27_38) 37 x37_1) 41 x41_1) 42 x42_1) (upF (upF (upF (upF f_0 30 y30_38) 31 y31_38) 32 y32_1) 33 y33_1) A0 H0 H locs := hw
          have rx24_38 : inR x24_38 := mRn_24 hw.1.2.2.1
          have rx25_38 : inR x25_38 := mRn_25 hw.1.2.2.1
          have rx26_38 : inR x26_38 := mRn_26 hw.1.2.2.1
          have rx27_38 : inR x27_38 := mRn_27 hw.1.2.2.1
          have hh38_ : (0 ≤ (x25_38) ∧ (x25_38) ≤ (x24_38) ∧ (x24_38) ≤ (n_0 23)) ∧ (0 ≤ (y31_38 ((n_0 29))) ∧ (y31_38 ((n_0 29))) ≤ (x24_38)) ∧ (0 ≤ (x26_38) ∧ (x26_38) ≤ 4) ∧ (¬ (x26_38) = 0 → (x25_38) < (x24_38)) ∧ ((x26_38) = 3 → 0 ≤ (x27_38) ∧ (x27_38) ≤ 9999) ∧ (x24_1) ≤ (x25_38) ∧ (∀ i, i ≠ (n_0 29) → (y31_38 i) = (y31_1 i)) := hq38_
          clear hq38_
          have hk_ := hh38_.2.2.2.2.2.2
          refine j_aload_n E 79 rfl dX10_readCompared_78 rfl (lv_at hl 1 rfl) ?_
          refine m_calli E (c_X10_readSum l D cy q (upN (upN (upN (upN (upN (upN (upN n_0 24 x24_38) 25 x25_38) 26 x26_38) 27 x27_38) 37 x37_1) 41 x41_1) 42 x42_1) (upF (upF (upF (upF f_0 30 y30_38) 31 y31_38) 32 y32_1) 33 y33_1)  (dl_ + 1) lo_ (el_ + 1)  (show 0 ≤ (n_0 29) ∧ (n_0 29) < 32 from by omega) (show 0 ≤ (n_0 23) ∧ (n_0 23) ≤ 400 from by omega) (show Wds_ (f_0 28) from hp2) (show 0 ≤ (dl_ + 1) ∧ (0 ≤ (x25_38) ∧ (x25_38) ≤ (x24_38) ∧ (x24_38) ≤ (n_0 23)) ∧ (0 ≤ (y31_38 ((n_0 29))) ∧ (y31_38 ((n_0 29))) ≤ (x24_38)) ∧ (0 ≤ (x26_38) ∧ (x26_38) ≤ 4) ∧ (¬ (x26_38) = 0 → (x25_38) < (x24_38)) ∧ ((x26_38) = 3 → 0 ≤ (x27_38) ∧ (x27_38) ≤ 9999) ∧ (0 ≤ lo_ ∧ lo_ ≤ (x37_1)) ∧ (x37_1) + (dl_ + 1) ≤ (x25_38) from by omega) (show Pz_ (y32_1) (y33_1) (400 * (n_0 29) + lo_) (400 * (n_0 29) + (x37_1)) (el_ + 1) from h0_.2.2.2.2.2.2)) rfl mt_X10_readSum ml_X10_282 hK hw hA ⟨Nat.le_of_ble_eq_true rfl, Nat.le_of_ble_eq_true rfl⟩ (As := []) (rest := []) rfl rfl hl.1 (Nat.le_of_ble_eq_true rfl) 82 rfl dX10_readCompared_79 (fun zz39_ n_39 f_39 H locs rr39_ hq39_ hw => ?_)
          obtain ⟨x24_39, x25_39, x26_39, x27_39, x37_39, x41_39, x42_39, y30_39, y31_39, y32_39, y33_39, en39_, ef39_, hq39_⟩ := hq39_
          rw [en39_, ef39_] at hw; clear en39_ ef39_
          have hw : WM D cy q (upN (upN (upN (upN (upN (upN (upN n_0 24 x24_39) 25 x25_39) 26 x26_39) 27 x27_39) 37 x37_39) 41 x41_39) 42 x42_39) (upF (upF (upF (upF f_0 30 y30_39) 31 y31_39) 32 y32_39) 33 y33_39) A0 H0 H locs := hw
          have rx24_39 : inR x24_39 := mRn_24 hw.1.2.2.1
          have rx25_39 : inR x25_39 := mRn_25 hw.1.2.2.1
          have rx26_39 : inR x26_39 := mRn_26 hw.1.2.2.1
          have rx27_39 : inR x27_39 := mRn_27 hw.1.2.2.1
          have rx37_39 : inR x37_39 := mRn_37 hw.1.2.2.1
          have rx41_39 : inR x41_39 := mRn_41 hw.1.2.2.1
          have rx42_39 : inR x42_39 := mRn_42 hw.1.2.2.1
          have hh39_ : (zz39_ = -1 ∧ Fr_ (y32_1) (y33_1) (y32_39) (y33_39) (400 * (n_0 29) + (x37_1)) ∧ (∀ i, i ≠ (n_0 29) → (y31_39 i) = (y31_38 i)) ∧ (0 ≤ (y31_39 ((n_0 29))) ∧ (y31_39 ((n_0 29))) ≤ 400)) ∨ (zz39_ = 0 ∧ Fr_ (y32_1) (y33_1) (y32_39) (y33_39) (400 * (n_0 29) + (x37_1)) ∧ (∀ i, i ≠ (n_0 29) → (y31_39 i) = (y31_38 i)) ∧ (0 ≤ (y31_39 ((n_0 29))) ∧ (y31_39 ((n_0 29))) ≤ 400) ∧ ((0 ≤ (x25_39) ∧ (x25_39) ≤ (x24_39) ∧ (x24_39) ≤ (n_0 23)) ∧ (0 ≤ (y31_39 ((n_0 29))) ∧ (y31_39 ((n_0 29))) ≤ (x24_39)) ∧ (0 ≤ (x26_39) ∧ (x26_39) ≤ 4) ∧ (¬ (x26_39) = 0 → (x25_39) < (x24_39)) ∧ ((x26_39) = 3 → 0 ≤ (x27_39) ∧ (x27_39) ≤ 9999) ∧ (0 ≤ lo_ ∧ lo_ ≤ (x37_39)) ∧ (x37_39) + (dl_ + 1) ≤ (x25_39)) ∧ (x25_38) < (x25_39) ∧ (x37_1) ≤ (x37_39) ∧ Pz_ (y32_39) (y33_39) (400 * (n_0 29) + lo_) (400 * (n_0 29) + (x37_39)) ((el_ + 1) + 1)) := hq39_
          clear hq39_
          rcases hh39_ with ⟨ee39_, hh39_⟩ | ⟨ee39_, hh39_⟩
          · subst ee39_
            have hx2_ := hh39_
            refine j_iconst E 83 rfl dX10_readCompared_82 ?_
            refine j_icmp_ne E 86 88 rfl (rr (by decide)) (rr (by decide)) dX10_readCompared_83 (by decide) (fun cc40_ => absurd cc40_ (by decide)) (fun _ => ?_)
            refine j_iconst E 87 rfl dX10_readCompared_86 ?_
            exact hret 87 ((-1)) (upN (upN (upN (upN (upN (upN (upN n_0 24 x24_39) 25 x25_39) 26 x26_39) 27 x27_39) 37 x37_39) 41 x41_39) 42 x42_39) (upF (upF (upF (upF f_0 30 y30_39) 31 y31_39) 32 y32_39) 33 y33_39) _ _ ls hw (rr (by decide)) ⟨x24_39, x25_39, x26_39, x27_39, x37_39, x41_39, x42_39, y30_39, y31_39, y32_39, y33_39, rfl, rfl, Or.inl ⟨rfl, Fr_tr h0_.1 hx2_.1 (by omega), tk_tr h0_.2.1 (tk_tr hk_ hx2_.2.1), hx2_.2.2⟩⟩ dX10_readCompared_87
          · subst ee39_
            have h2_ := hh39_
            have hb2_ := (h2_.2.2.2.2.2.2).2
            refine j_iconst E 83 rfl dX10_readCompared_82 ?_
            refine j_icmp_ne E 86 88 rfl (rr (by decide)) (rr (by decide)) dX10_readCompared_83 (by decide) (fun _ => ?_) (fun cc41_ => absurd cc41_ (by decide))
            refine j_aload_n E 89 rfl dX10_readCompared_88 rfl (lv_at hl 1 rfl) ?_
            refine j_iload_n E 90 rfl dX10_readCompared_89 rfl (lv_at hl 0 rfl) ?_
            refine j_iconst E 91 rfl dX10_readCompared_90 ?_
            refine m_callv E (c_X10_emits l D cy q (upN (upN (upN (upN (upN (upN (upN n_0 24 x24_39) 25 x25_39) 26 x26_39) 27 x27_39) 37 x37_39) 41 x41_39) 42 x42_39) (upF (upF (upF (upF f_0 30 y30_39) 31 y31_39) 32 y32_39) 33 y33_39) 7 0  (rr (by decide)) (rr (by decide)) (show 0 ≤ (n_0 29) ∧ (n_0 29) < 32 from by omega) (show 0 ≤ (x37_39) ∧ (x37_39) ≤ 399 from by omega)) rfl mt_X10_emits ml_X10_265 hK hw hA ⟨Nat.le_of_ble_eq_true rfl, Nat.le_of_ble_eq_true rfl⟩ (As := [.int (J 7), .int (J 0)]) (rest := []) rfl rfl hl.1 (Nat.le_of_ble_eq_true rfl) 94 rfl dX10_readCompared_91 (fun n_42 f_42 H locs hq42_ hw => ?_)
            obtain ⟨x37_42, y32_42, y33_42, en42_, ef42_, hq42_⟩ := hq42_
            rw [en42_, ef42_] at hw; clear en42_ ef42_
            have hw : WM D cy q (upN (upN (upN (upN (upN (upN (upN n_0 24 x24_39) 25 x25_39) 26 x26_39) 27 x27_39) 37 x37_42) 41 x41_39) 42 x42_39) (upF (upF (upF (upF f_0 30 y30_39) 31 y31_39) 32 y32_42) 33 y33_42) A0 H0 H locs := hw
            have rx37_42 : inR x37_42 := mRn_37 hw.1.2.2.1
            have hh42_ : (y32_42) = upA (y32_39) (400 * (n_0 29) + (x37_39)) (7 : Int) ∧ (y33_42) = upA (y33_39) (400 * (n_0 29) + (x37_39)) (0 : Int) ∧ (x37_42) = (x37_39) + 1 := hq42_
            clear hq42_
            have hm_ : (x37_42) = (x37_39) + 1 := hh42_.2.2
            have hz_ : Pz_ (y32_42) (y33_42) (400 * n_0 29 + lo_) (400 * n_0 29 + (x37_42)) (el_ + 1) := by rw [hh42_.1, hh42_.2.1, show 400 * n_0 29 + (x37_42) = 400 * n_0 29 + (x37_39) + 1 by omega]; exact Pz_ext h2_.2.2.2.2.2.2 (by omega) (by omega) (by omega)
            have hf_ : Fr_ (y32_39) (y33_39) (y32_42) (y33_42) (400 * n_0 29 + (x37_39)) := by rw [hh42_.1, hh42_.2.1]; exact Fr_up (by omega)
            refine j_iconst E 95 rfl dX10_readCompared_94 ?_
            exact hret 95 0 (upN (upN (upN (upN (upN (upN (upN n_0 24 x24_39) 25 x25_39) 26 x26_39) 27 x27_39) 37 x37_42) 41 x41_39) 42 x42_39) (upF (upF (upF (upF f_0 30 y30_39) 31 y31_39) 32 y32_42) 33 y33_42) _ _ ls hw (rr (by decide)) ⟨x24_39, x25_39, x26_39, x27_39, x37_42, x41_39, x42_39, y30_39, y31_39, y32_42, y33_42, rfl, rfl, Or.inr ⟨rfl, Fr_tr h0_.1 (Fr_tr h2_.1 hf_ (by omega)) (by omega), tk_tr h0_.2.1 (tk_tr hk_ h2_.2.1), by omega, by omega, by omega, by omega, hz_⟩⟩ dX10_readCompared_95
      · subst ee24_
        refine j_if_ne E 28 43 rfl (rr (by decide)) dX10_readCompared_25 (by decide) (fun cc43_ => absurd cc43_ (by decide)) (fun _ => ?_)
        refine j_aload_n E 29 rfl dX10_readCompared_28 rfl (lv_at hl 0 rfl) ?_
        refine j_bipush E 31 rfl dX10_readCompared_29 (by decide) ?_
        refine m_callp (po := fun z_0 => (z_0 = 1 ∧ (x26_1) = 4 ∧ (x27_1) = (62 : Int)) ∨ (z_0 = 0 ∧ ¬ ((x26_1) = 4 ∧ (x27_1) = (62 : Int)))) E (c_X10_isSign l D cy q (upN (upN (upN (upN (upN (upN (upN n_0 24 x24_1) 25 x25_1) 26 x26_1) 27 x27_1) 37 x37_1) 41 x41_1) 42 x42_1) (upF (upF (upF (upF f_0 30 y30_1) 31 y31_1) 32 y32_1) 33 y33_1) 62  (rr (by decide)) ) rfl mt_X10_isSign ml_X10_276 hK hw hA ⟨Nat.le_of_ble_eq_true rfl, Nat.le_of_ble_eq_true rfl⟩ (As := [.int (J 62)]) (rest := []) rfl rfl hl.1 (Nat.le_of_ble_eq_true rfl) 34 rfl dX10_readCompared_31 (fun zz44_ H locs rr44_ hq44_ hw => ?_)
        have hh44_ : (zz44_ = 1 ∧ (x26_1) = 4 ∧ (x27_1) = (62 : Int)) ∨ (zz44_ = 0 ∧ ¬ ((x26_1) = 4 ∧ (x27_1) = (62 : Int))) := hq44_
        clear hq44_
        rcases hh44_ with ⟨ee44_, hh44_⟩ | ⟨ee44_, hh44_⟩
        · subst ee44_
          refine j_if_ne E 37 43 rfl (rr (by decide)) dX10_readCompared_34 (by decide) (fun _ => ?_) (fun cc45_ => absurd cc45_ (by decide))
          refine j_aload_n E 44 rfl dX10_readCompared_43 rfl (lv_at hl 0 rfl) ?_
          refine m_get_27 E hK hw x27_1 rfl 47 rfl dX10_readCompared_44 (fun _ => ?_)
          refine j_bipush E 49 rfl dX10_readCompared_47 (by decide) ?_
          refine j_icmp_ne E 52 57 rfl rx27_1 (rr (by decide)) dX10_readCompared_49 (by decide) (fun cc46_ => ?_) (fun cc46_ => ?_)
          · refine j_aload_n E 58 rfl dX10_readCompared_57 rfl (lv_at hl 0 rfl) ?_
            refine m_get_27 E hK hw x27_1 rfl 61 rfl dX10_readCompared_58 (fun _ => ?_)
            refine j_bipush E 63 rfl dX10_readCompared_61 (by decide) ?_
            refine j_icmp_ne E 66 71 rfl rx27_1 (rr (by decide)) dX10_readCompared_63 (by decide) (fun cc47_ => ?_) (fun cc47_ => ?_)
            · refine j_bipush E 73 rfl dX10_readCompared_71 (by decide) ?_
              refine j_istore_n E 74 rfl [(1, .int (J 9)), (0, .ref (q 0))] dX10_readCompared_73 rfl hl (by decide) rfl (fun ls hl => ?_)
              refine j_aload_n E 75 rfl dX10_readCompared_74 rfl (lv_at hl 1 rfl) ?_
              refine m_callv E (c_X10_next l D cy q (upN (upN (upN (upN (upN (upN (upN n_0 24 x24_1) 25 x25_1) 26 x26_1) 27 x27_1) 37 x37_1) 41 x41_1) 42 x42_1) (upF (upF (upF (upF f_0 30 y30_1) 31 y31_1) 32 y32_1) 33 y33_1)    (show 0 ≤ (n_0 29) ∧ (n_0 29) < 32 from by omega) (show 0 ≤ (n_0 23) ∧ (n_0 23) ≤ 400 from by omega) (show Wds_ (f_0 28) from hp2) (show 0 ≤ (x24_1) ∧ (x24_1) ≤ (n_0 23) from by omega) (show 0 ≤ (y31_1 ((n_0 29))) ∧ (y31_1 ((n_0 29))) ≤ (x24_1) from by omega)) rfl mt_X10_next ml_X10_269 hK hw hA ⟨Nat.le_of_ble_eq_true rfl, Nat.le_of_ble_eq_true rfl⟩ (As := []) (rest := []) rfl rfl hl.1 (Nat.le_of_ble_eq_true rfl) 78 rfl dX10_readCompared_75 (fun n_48 f_48 H locs hq48_ hw => ?_)
              obtain ⟨x24_48, x25_48, x26_48, x27_48, y30_48, y31_48, en48_, ef48_, hq48_⟩ := hq48_
              rw [en48_, ef48_] at hw; clear en48_ ef48_
              have hw : WM D cy q (upN (upN (upN (upN (upN (upN (upN n_0 24 x24_48) 25 x25_48) 26 x26_48) 27 x27_48) 37 x37_1) 41 x41_1) 42 x42_1) (upF (upF (upF (upF f_0 30 y30_48) 31 y31_48) 32 y32_1) 33 y33_1) A0 H0 H locs := hw
              have rx24_48 : inR x24_48 := mRn_24 hw.1.2.2.1
              have rx25_48 : inR x25_48 := mRn_25 hw.1.2.2.1
              have rx26_48 : inR x26_48 := mRn_26 hw.1.2.2.1
              have rx27_48 : inR x27_48 := mRn_27 hw.1.2.2.1
              have hh48_ : (0 ≤ (x25_48) ∧ (x25_48) ≤ (x24_48) ∧ (x24_48) ≤ (n_0 23)) ∧ (0 ≤ (y31_48 ((n_0 29))) ∧ (y31_48 ((n_0 29))) ≤ (x24_48)) ∧ (0 ≤ (x26_48) ∧ (x26_48) ≤ 4) ∧ (¬ (x26_48) = 0 → (x25_48) < (x24_48)) ∧ ((x26_48) = 3 → 0 ≤ (x27_48) ∧ (x27_48) ≤ 9999) ∧ (x24_1) ≤ (x25_48) ∧ (∀ i, i ≠ (n_0 29) → (y31_48 i) = (y31_1 i)) := hq48_
              clear hq48_
              have hk_ := hh48_.2.2.2.2.2.2
              refine j_aload_n E 79 rfl dX10_readCompared_78 rfl (lv_at hl 1 rfl) ?_
              refine m_calli E (c_X10_readSum l D cy q (upN (upN (upN (upN (upN (upN (upN n_0 24 x24_48) 25 x25_48) 26 x26_48) 27 x27_48) 37 x37_1) 41 x41_1) 42 x42_1) (upF (upF (upF (upF f_0 30 y30_48) 31 y31_48) 32 y32_1) 33 y33_1)  (dl_ + 1) lo_ (el_ + 1)  (show 0 ≤ (n_0 29) ∧ (n_0 29) < 32 from by omega) (show 0 ≤ (n_0 23) ∧ (n_0 23) ≤ 400 from by omega) (show Wds_ (f_0 28) from hp2) (show 0 ≤ (dl_ + 1) ∧ (0 ≤ (x25_48) ∧ (x25_48) ≤ (x24_48) ∧ (x24_48) ≤ (n_0 23)) ∧ (0 ≤ (y31_48 ((n_0 29))) ∧ (y31_48 ((n_0 29))) ≤ (x24_48)) ∧ (0 ≤ (x26_48) ∧ (x26_48) ≤ 4) ∧ (¬ (x26_48) = 0 → (x25_48) < (x24_48)) ∧ ((x26_48) = 3 → 0 ≤ (x27_48) ∧ (x27_48) ≤ 9999) ∧ (0 ≤ lo_ ∧ lo_ ≤ (x37_1)) ∧ (x37_1) + (dl_ + 1) ≤ (x25_48) from by omega) (show Pz_ (y32_1) (y33_1) (400 * (n_0 29) + lo_) (400 * (n_0 29) + (x37_1)) (el_ + 1) from h0_.2.2.2.2.2.2)) rfl mt_X10_readSum ml_X10_282 hK hw hA ⟨Nat.le_of_ble_eq_true rfl, Nat.le_of_ble_eq_true rfl⟩ (As := []) (rest := []) rfl rfl hl.1 (Nat.le_of_ble_eq_true rfl) 82 rfl dX10_readCompared_79 (fun zz49_ n_49 f_49 H locs rr49_ hq49_ hw => ?_)
              obtain ⟨x24_49, x25_49, x26_49, x27_49, x37_49, x41_49, x42_49, y30_49, y31_49, y32_49, y33_49, en49_, ef49_, hq49_⟩ := hq49_
              rw [en49_, ef49_] at hw; clear en49_ ef49_
              have hw : WM D cy q (upN (upN (upN (upN (upN (upN (upN n_0 24 x24_49) 25 x25_49) 26 x26_49) 27 x27_49) 37 x37_49) 41 x41_49) 42 x42_49) (upF (upF (upF (upF f_0 30 y30_49) 31 y31_49) 32 y32_49) 33 y33_49) A0 H0 H locs := hw
              have rx24_49 : inR x24_49 := mRn_24 hw.1.2.2.1
              have rx25_49 : inR x25_49 := mRn_25 hw.1.2.2.1
              have rx26_49 : inR x26_49 := mRn_26 hw.1.2.2.1
              have rx27_49 : inR x27_49 := mRn_27 hw.1.2.2.1
              have rx37_49 : inR x37_49 := mRn_37 hw.1.2.2.1
              have rx41_49 : inR x41_49 := mRn_41 hw.1.2.2.1
              have rx42_49 : inR x42_49 := mRn_42 hw.1.2.2.1
              have hh49_ : (zz49_ = -1 ∧ Fr_ (y32_1) (y33_1) (y32_49) (y33_49) (400 * (n_0 29) + (x37_1)) ∧ (∀ i, i ≠ (n_0 29) → (y31_49 i) = (y31_48 i)) ∧ (0 ≤ (y31_49 ((n_0 29))) ∧ (y31_49 ((n_0 29))) ≤ 400)) ∨ (zz49_ = 0 ∧ Fr_ (y32_1) (y33_1) (y32_49) (y33_49) (400 * (n_0 29) + (x37_1)) ∧ (∀ i, i ≠ (n_0 29) → (y31_49 i) = (y31_48 i)) ∧ (0 ≤ (y31_49 ((n_0 29))) ∧ (y31_49 ((n_0 29))) ≤ 400) ∧ ((0 ≤ (x25_49) ∧ (x25_49) ≤ (x24_49) ∧ (x24_49) ≤ (n_0 23)) ∧ (0 ≤ (y31_49 ((n_0 29))) ∧ (y31_49 ((n_0 29))) ≤ (x24_49)) ∧ (0 ≤ (x26_49) ∧ (x26_49) ≤ 4) ∧ (¬ (x26_49) = 0 → (x25_49) < (x24_49)) ∧ ((x26_49) = 3 → 0 ≤ (x27_49) ∧ (x27_49) ≤ 9999) ∧ (0 ≤ lo_ ∧ lo_ ≤ (x37_49)) ∧ (x37_49) + (dl_ + 1) ≤ (x25_49)) ∧ (x25_48) < (x25_49) ∧ (x37_1) ≤ (x37_49) ∧ Pz_ (y32_49) (y33_49) (400 * (n_0 29) + lo_) (400 * (n_0 29) + (x37_49)) ((el_ + 1) + 1)) := hq49_
              clear hq49_
              rcases hh49_ with ⟨ee49_, hh49_⟩ | ⟨ee49_, hh49_⟩
              · subst ee49_
                have hx2_ := hh49_
                refine j_iconst E 83 rfl dX10_readCompared_82 ?_
                refine j_icmp_ne E 86 88 rfl (rr (by decide)) (rr (by decide)) dX10_readCompared_83 (by decide) (fun cc50_ => absurd cc50_ (by decide)) (fun _ => ?_)
                refine j_iconst E 87 rfl dX10_readCompared_86 ?_
                exact hret 87 ((-1)) (upN (upN (upN (upN (upN (upN (upN n_0 24 x24_49) 25 x25_49) 26 x26_49) 27 x27_49) 37 x37_49) 41 x41_49) 42 x42_49) (upF (upF (upF (upF f_0 30 y30_49) 31 y31_49) 32 y32_49) 33 y33_49) _ _ ls hw (rr (by decide)) ⟨x24_49, x25_49, x26_49, x27_49, x37_49, x41_49, x42_49, y30_49, y31_49, y32_49, y33_49, rfl, rfl, Or.inl ⟨rfl, Fr_tr h0_.1 hx2_.1 (by omega), tk_tr h0_.2.1 (tk_tr hk_ hx2_.2.1), hx2_.2.2⟩⟩ dX10_readCompared_87
              · subst ee49_
                have h2_ := hh49_
                have hb2_ := (h2_.2.2.2.2.2.2).2
                refine j_iconst E 83 rfl dX10_readCompared_82 ?_
                refine j_icmp_ne E 86 88 rfl (rr (by decide)) (rr (by decide)) dX10_readCompared_83 (by decide) (fun _ => ?_) (fun cc51_ => absurd cc51_ (by decide))
                refine j_aload_n E 89 rfl dX10_readCompared_88 rfl (lv_at hl 1 rfl) ?_
                refine j_iload_n E 90 rfl dX10_readCompared_89 rfl (lv_at hl 0 rfl) ?_
                refine j_iconst E 91 rfl dX10_readCompared_90 ?_
                refine m_callv E (c_X10_emits l D cy q (upN (upN (upN (upN (upN (upN (upN n_0 24 x24_49) 25 x25_49) 26 x26_49) 27 x27_49) 37 x37_49) 41 x41_49) 42 x42_49) (upF (upF (upF (upF f_0 30 y30_49) 31 y31_49) 32 y32_49) 33 y33_49) 9 0  (rr (by decide)) (rr (by decide)) (show 0 ≤ (n_0 29) ∧ (n_0 29) < 32 from by omega) (show 0 ≤ (x37_49) ∧ (x37_49) ≤ 399 from by omega)) rfl mt_X10_emits ml_X10_265 hK hw hA ⟨Nat.le_of_ble_eq_true rfl, Nat.le_of_ble_eq_true rfl⟩ (As := [.int (J 9), .int (J 0)]) (rest := []) rfl rfl hl.1 (Nat.le_of_ble_eq_true rfl) 94 rfl dX10_readCompared_91 (fun n_52 f_52 H locs hq52_ hw => ?_)
                obtain ⟨x37_52, y32_52, y33_52, en52_, ef52_, hq52_⟩ := hq52_
                rw [en52_, ef52_] at hw; clear en52_ ef52_
                have hw : WM D cy q (upN (upN (upN (upN (upN (upN (upN n_0 24 x24_49) 25 x25_49) 26 x26_49) 27 x27_49) 37 x37_52) 41 x41_49) 42 x42_49) (upF (upF (upF (upF f_0 30 y30_49) 31 y31_49) 32 y32_52) 33 y33_52) A0 H0 H locs := hw
                have rx37_52 : inR x37_52 := mRn_37 hw.1.2.2.1
                have hh52_ : (y32_52) = upA (y32_49) (400 * (n_0 29) + (x37_49)) (9 : Int) ∧ (y33_52) = upA (y33_49) (400 * (n_0 29) + (x37_49)) (0 : Int) ∧ (x37_52) = (x37_49) + 1 := hq52_
                clear hq52_
                have hm_ : (x37_52) = (x37_49) + 1 := hh52_.2.2
                have hz_ : Pz_ (y32_52) (y33_52) (400 * n_0 29 + lo_) (400 * n_0 29 + (x37_52)) (el_ + 1) := by rw [hh52_.1, hh52_.2.1, show 400 * n_0 29 + (x37_52) = 400 * n_0 29 + (x37_49) + 1 by omega]; exact Pz_ext h2_.2.2.2.2.2.2 (by omega) (by omega) (by omega)
                have hf_ : Fr_ (y32_49) (y33_49) (y32_52) (y33_52) (400 * n_0 29 + (x37_49)) := by rw [hh52_.1, hh52_.2.1]; exact Fr_up (by omega)
                refine j_iconst E 95 rfl dX10_readCompared_94 ?_
                exact hret 95 0 (upN (upN (upN (upN (upN (upN (upN n_0 24 x24_49) 25 x25_49) 26 x26_49) 27 x27_49) 37 x37_52) 41 x41_49) 42 x42_49) (upF (upF (upF (upF f_0 30 y30_49) 31 y31_49) 32 y32_52) 33 y33_52) _ _ ls hw (rr (by decide)) ⟨x24_49, x25_49, x26_49, x27_49, x37_52, x41_49, x42_49, y30_49, y31_49, y32_52, y33_52, rfl, rfl, Or.inr ⟨rfl, Fr_tr h0_.1 (Fr_tr h2_.1 hf_ (by omega)) (by omega), tk_tr h0_.2.1 (tk_tr hk_ h2_.2.1), by omega, by omega, by omega, by omega, hz_⟩⟩ dX10_readCompared_95
            · refine j_bipush E 68 rfl dX10_readCompared_66 (by decide) ?_
              refine j_goto E 73 dX10_readCompared_68 (by decide) ?_
              refine j_istore_n E 74 rfl [(1, .int (J 8)), (0, .ref (q 0))] dX10_readCompared_73 rfl hl (by decide) rfl (fun ls hl => ?_)
              refine j_aload_n E 75 rfl dX10_readCompared_74 rfl (lv_at hl 1 rfl) ?_
              refine m_callv E (c_X10_next l D cy q (upN (upN (upN (upN (upN (upN (upN n_0 24 x24_1) 25 x25_1) 26 x26_1) 27 x27_1) 37 x37_1) 41 x41_1) 42 x42_1) (upF (upF (upF (upF f_0 30 y30_1) 31 y31_1) 32 y32_1) 33 y33_1)    (show 0 ≤ (n_0 29) ∧ (n_0 29) < 32 from by omega) (show 0 ≤ (n_0 23) ∧ (n_0 23) ≤ 400 from by omega) (show Wds_ (f_0 28) from hp2) (show 0 ≤ (x24_1) ∧ (x24_1) ≤ (n_0 23) from by omega) (show 0 ≤ (y31_1 ((n_0 29))) ∧ (y31_1 ((n_0 29))) ≤ (x24_1) from by omega)) rfl mt_X10_next ml_X10_269 hK hw hA ⟨Nat.le_of_ble_eq_true rfl, Nat.le_of_ble_eq_true rfl⟩ (As := []) (rest := []) rfl rfl hl.1 (Nat.le_of_ble_eq_true rfl) 78 rfl dX10_readCompared_75 (fun n_53 f_53 H locs hq53_ hw => ?_)
              obtain ⟨x24_53, x25_53, x26_53, x27_53, y30_53, y31_53, en53_, ef53_, hq53_⟩ := hq53_
              rw [en53_, ef53_] at hw; clear en53_ ef53_
              have hw : WM D cy q (upN (upN (upN (upN (upN (upN (upN n_0 24 x24_53) 25 x25_53) 26 x26_53) 27 x27_53) 37 x37_1) 41 x41_1) 42 x42_1) (upF (upF (upF (upF f_0 30 y30_53) 31 y31_53) 32 y32_1) 33 y33_1) A0 H0 H locs := hw
              have rx24_53 : inR x24_53 := mRn_24 hw.1.2.2.1
              have rx25_53 : inR x25_53 := mRn_25 hw.1.2.2.1
              have rx26_53 : inR x26_53 := mRn_26 hw.1.2.2.1
              have rx27_53 : inR x27_53 := mRn_27 hw.1.2.2.1
              have hh53_ : (0 ≤ (x25_53) ∧ (x25_53) ≤ (x24_53) ∧ (x24_53) ≤ (n_0 23)) ∧ (0 ≤ (y31_53 ((n_0 29))) ∧ (y31_53 ((n_0 29))) ≤ (x24_53)) ∧ (0 ≤ (x26_53) ∧ (x26_53) ≤ 4) ∧ (¬ (x26_53) = 0 → (x25_53) < (x24_53)) ∧ ((x26_53) = 3 → 0 ≤ (x27_53) ∧ (x27_53) ≤ 9999) ∧ (x24_1) ≤ (x25_53) ∧ (∀ i, i ≠ (n_0 29) → (y31_53 i) = (y31_1 i)) := hq53_
              clear hq53_
              have hk_ := hh53_.2.2.2.2.2.2
              refine j_aload_n E 79 rfl dX10_readCompared_78 rfl (lv_at hl 1 rfl) ?_
              refine m_calli E (c_X10_readSum l D cy q (upN (upN (upN (upN (upN (upN (upN n_0 24 x24_53) 25 x25_53) 26 x26_53) 27 x27_53) 37 x37_1) 41 x41_1) 42 x42_1) (upF (upF (upF (upF f_0 30 y30_53) 31 y31_53) 32 y32_1) 33 y33_1)  (dl_ + 1) lo_ (el_ + 1)  (show 0 ≤ (n_0 29) ∧ (n_0 29) < 32 from by omega) (show 0 ≤ (n_0 23) ∧ (n_0 23) ≤ 400 from by omega) (show Wds_ (f_0 28) from hp2) (show 0 ≤ (dl_ + 1) ∧ (0 ≤ (x25_53) ∧ (x25_53) ≤ (x24_53) ∧ (x24_53) ≤ (n_0 23)) ∧ (0 ≤ (y31_53 ((n_0 29))) ∧ (y31_53 ((n_0 29))) ≤ (x24_53)) ∧ (0 ≤ (x26_53) ∧ (x26_53) ≤ 4) ∧ (¬ (x26_53) = 0 → (x25_53) < (x24_53)) ∧ ((x26_53) = 3 → 0 ≤ (x27_53) ∧ (x27_53) ≤ 9999) ∧ (0 ≤ lo_ ∧ lo_ ≤ (x37_1)) ∧ (x37_1) + (dl_ + 1) ≤ (x25_53) from by omega) (show Pz_ (y32_1) (y33_1) (400 * (n_0 29) + lo_) (400 * (n_0 29) + (x37_1)) (el_ + 1) from h0_.2.2.2.2.2.2)) rfl mt_X10_readSum ml_X10_282 hK hw hA ⟨Nat.le_of_ble_eq_true rfl, Nat.le_of_ble_eq_true rfl⟩ (As := []) (rest := []) rfl rfl hl.1 (Nat.le_of_ble_eq_true rfl) 82 rfl dX10_readCompared_79 (fun zz54_ n_54 f_54 H locs rr54_ hq54_ hw => ?_)
              obtain ⟨x24_54, x25_54, x26_54, x27_54, x37_54, x41_54, x42_54, y30_54, y31_54, y32_54, y33_54, en54_, ef54_, hq54_⟩ := hq54_
              rw [en54_, ef54_] at hw; clear en54_ ef54_
              have hw : WM D cy q (upN (upN (upN (upN (upN (upN (upN n_0 24 x24_54) 25 x25_54) 26 x26_54) 27 x27_54) 37 x37_54) 41 x41_54) 42 x42_54) (upF (upF (upF (upF f_0 30 y30_54) 31 y31_54) 32 y32_54) 33 y33_54) A0 H0 H locs := hw
              have rx24_54 : inR x24_54 := mRn_24 hw.1.2.2.1
              have rx25_54 : inR x25_54 := mRn_25 hw.1.2.2.1
              have rx26_54 : inR x26_54 := mRn_26 hw.1.2.2.1
              have rx27_54 : inR x27_54 := mRn_27 hw.1.2.2.1
              have rx37_54 : inR x37_54 := mRn_37 hw.1.2.2.1
              have rx41_54 : inR x41_54 := mRn_41 hw.1.2.2.1
              have rx42_54 : inR x42_54 := mRn_42 hw.1.2.2.1
              have hh54_ : (zz54_ = -1 ∧ Fr_ (y32_1) (y33_1) (y32_54) (y33_54) (400 * (n_0 29) + (x37_1)) ∧ (∀ i, i ≠ (n_0 29) → (y31_54 i) = (y31_53 i)) ∧ (0 ≤ (y31_54 ((n_0 29))) ∧ (y31_54 ((n_0 29))) ≤ 400)) ∨ (zz54_ = 0 ∧ Fr_ (y32_1) (y33_1) (y32_54) (y33_54) (400 * (n_0 29) + (x37_1)) ∧ (∀ i, i ≠ (n_0 29) → (y31_54 i) = (y31_53 i)) ∧ (0 ≤ (y31_54 ((n_0 29))) ∧ (y31_54 ((n_0 29))) ≤ 400) ∧ ((0 ≤ (x25_54) ∧ (x25_54) ≤ (x24_54) ∧ (x24_54) ≤ (n_0 23)) ∧ (0 ≤ (y31_54 ((n_0 29))) ∧ (y31_54 ((n_0 29))) ≤ (x24_54)) ∧ (0 ≤ (x26_54) ∧ (x26_54) ≤ 4) ∧ (¬ (x26_54) = 0 → (x25_54) < (x24_54)) ∧ ((x26_54) = 3 → 0 ≤ (x27_54) ∧ (x27_54) ≤ 9999) ∧ (0 ≤ lo_ ∧ lo_ ≤ (x37_54)) ∧ (x37_54) + (dl_ + 1) ≤ (x25_54)) ∧ (x25_53) < (x25_54) ∧ (x37_1) ≤ (x37_54) ∧ Pz_ (y32_54) (y33_54) (400 * (n_0 29) + lo_) (400 * (n_0 29) + (x37_54)) ((el_ + 1) + 1)) := hq54_
              clear hq54_
              rcases hh54_ with ⟨ee54_, hh54_⟩ | ⟨ee54_, hh54_⟩
              · subst ee54_
                have hx2_ := hh54_
                refine j_iconst E 83 rfl dX10_readCompared_82 ?_
                refine j_icmp_ne E 86 88 rfl (rr (by decide)) (rr (by decide)) dX10_readCompared_83 (by decide) (fun cc55_ => absurd cc55_ (by decide)) (fun _ => ?_)
                refine j_iconst E 87 rfl dX10_readCompared_86 ?_
                exact hret 87 ((-1)) (upN (upN (upN (upN (upN (upN (upN n_0 24 x24_54) 25 x25_54) 26 x26_54) 27 x27_54) 37 x37_54) 41 x41_54) 42 x42_54) (upF (upF (upF (upF f_0 30 y30_54) 31 y31_54) 32 y32_54) 33 y33_54) _ _ ls hw (rr (by decide)) ⟨x24_54, x25_54, x26_54, x27_54, x37_54, x41_54, x42_54, y30_54, y31_54, y32_54, y33_54, rfl, rfl, Or.inl ⟨rfl, Fr_tr h0_.1 hx2_.1 (by omega), tk_tr h0_.2.1 (tk_tr hk_ hx2_.2.1), hx2_.2.2⟩⟩ dX10_readCompared_87
              · subst ee54_
                have h2_ := hh54_
                have hb2_ := (h2_.2.2.2.2.2.2).2
                refine j_iconst E 83 rfl dX10_readCompared_82 ?_
                refine j_icmp_ne E 86 88 rfl (rr (by decide)) (rr (by decide)) dX10_readCompared_83 (by decide) (fun _ => ?_) (fun cc56_ => absurd cc56_ (by decide))
                refine j_aload_n E 89 rfl dX10_readCompared_88 rfl (lv_at hl 1 rfl) ?_
                refine j_iload_n E 90 rfl dX10_readCompared_89 rfl (lv_at hl 0 rfl) ?_
                refine j_iconst E 91 rfl dX10_readCompared_90 ?_
                refine m_callv E (c_X10_emits l D cy q (upN (upN (upN (upN (upN (upN (upN n_0 24 x24_54) 25 x25_54) 26 x26_54) 27 x27_54) 37 x37_54) 41 x41_54) 42 x42_54) (upF (upF (upF (upF f_0 30 y30_54) 31 y31_54) 32 y32_54) 33 y33_54) 8 0  (rr (by decide)) (rr (by decide)) (show 0 ≤ (n_0 29) ∧ (n_0 29) < 32 from by omega) (show 0 ≤ (x37_54) ∧ (x37_54) ≤ 399 from by omega)) rfl mt_X10_emits ml_X10_265 hK hw hA ⟨Nat.le_of_ble_eq_true rfl, Nat.le_of_ble_eq_true rfl⟩ (As := [.int (J 8), .int (J 0)]) (rest := []) rfl rfl hl.1 (Nat.le_of_ble_eq_true rfl) 94 rfl dX10_readCompared_91 (fun n_57 f_57 H locs hq57_ hw => ?_)
                obtain ⟨x37_57, y32_57, y33_57, en57_, ef57_, hq57_⟩ := hq57_
                rw [en57_, ef57_] at hw; clear en57_ ef57_
                have hw : WM D cy q (upN (upN (upN (upN (upN (upN (upN n_0 24 x24_54) 25 x25_54) 26 x26_54) 27 x27_54) 37 x37_57) 41 x41_54) 42 x42_54) (upF (upF (upF (upF f_0 30 y30_54) 31 y31_54) 32 y32_57) 33 y33_57) A0 H0 H locs := hw
                have rx37_57 : inR x37_57 := mRn_37 hw.1.2.2.1
                have hh57_ : (y32_57) = upA (y32_54) (400 * (n_0 29) + (x37_54)) (8 : Int) ∧ (y33_57) = upA (y33_54) (400 * (n_0 29) + (x37_54)) (0 : Int) ∧ (x37_57) = (x37_54) + 1 := hq57_
                clear hq57_
                have hm_ : (x37_57) = (x37_54) + 1 := hh57_.2.2
                have hz_ : Pz_ (y32_57) (y33_57) (400 * n_0 29 + lo_) (400 * n_0 29 + (x37_57)) (el_ + 1) := by rw [hh57_.1, hh57_.2.1, show 400 * n_0 29 + (x37_57) = 400 * n_0 29 + (x37_54) + 1 by omega]; exact Pz_ext h2_.2.2.2.2.2.2 (by omega) (by omega) (by omega)
                have hf_ : Fr_ (y32_54) (y33_54) (y32_57) (y33_57) (400 * n_0 29 + (x37_54)) := by rw [hh57_.1, hh57_.2.1]; exact Fr_up (by omega)
                refine j_iconst E 95 rfl dX10_readCompared_94 ?_
                exact hret 95 0 (upN (upN (upN (upN (upN (upN (upN n_0 24 x24_54) 25 x25_54) 26 x26_54) 27 x27_54) 37 x37_57) 41 x41_54) 42 x42_54) (upF (upF (upF (upF f_0 30 y30_54) 31 y31_54) 32 y32_57) 33 y33_57) _ _ ls hw (rr (by decide)) ⟨x24_54, x25_54, x26_54, x27_54, x37_57, x41_54, x42_54, y30_54, y31_54, y32_57, y33_57, rfl, rfl, Or.inr ⟨rfl, Fr_tr h0_.1 (Fr_tr h2_.1 hf_ (by omega)) (by omega), tk_tr h0_.2.1 (tk_tr hk_ h2_.2.1), by omega, by omega, by omega, by omega, hz_⟩⟩ dX10_readCompared_95
          · refine j_bipush E 54 rfl dX10_readCompared_52 (by decide) ?_
            refine j_goto E 73 dX10_readCompared_54 (by decide) ?_
            refine j_istore_n E 74 rfl [(1, .int (J 7)), (0, .ref (q 0))] dX10_readCompared_73 rfl hl (by decide) rfl (fun ls hl => ?_)
            refine j_aload_n E 75 rfl dX10_readCompared_74 rfl (lv_at hl 1 rfl) ?_
            refine m_callv E (c_X10_next l D cy q (upN (upN (upN (upN (upN (upN (upN n_0 24 x24_1) 25 x25_1) 26 x26_1) 27 x27_1) 37 x37_1) 41 x41_1) 42 x42_1) (upF (upF (upF (upF f_0 30 y30_1) 31 y31_1) 32 y32_1) 33 y33_1)    (show 0 ≤ (n_0 29) ∧ (n_0 29) < 32 from by omega) (show 0 ≤ (n_0 23) ∧ (n_0 23) ≤ 400 from by omega) (show Wds_ (f_0 28) from hp2) (show 0 ≤ (x24_1) ∧ (x24_1) ≤ (n_0 23) from by omega) (show 0 ≤ (y31_1 ((n_0 29))) ∧ (y31_1 ((n_0 29))) ≤ (x24_1) from by omega)) rfl mt_X10_next ml_X10_269 hK hw hA ⟨Nat.le_of_ble_eq_true rfl, Nat.le_of_ble_eq_true rfl⟩ (As := []) (rest := []) rfl rfl hl.1 (Nat.le_of_ble_eq_true rfl) 78 rfl dX10_readCompared_75 (fun n_58 f_58 H locs hq58_ hw => ?_)
            obtain ⟨x24_58, x25_58, x26_58, x27_58, y30_58, y31_58, en58_, ef58_, hq58_⟩ := hq58_
            rw [en58_, ef58_] at hw; clear en58_ ef58_
            have hw : WM D cy q (upN (upN (upN (upN (upN (upN (upN n_0 24 x24_58) 25 x25_58) 26 x26_58) 27 x27_58) 37 x37_1) 41 x41_1) 42 x42_1) (upF (upF (upF (upF f_0 30 y30_58) 31 y31_58) 32 y32_1) 33 y33_1) A0 H0 H locs := hw
            have rx24_58 : inR x24_58 := mRn_24 hw.1.2.2.1
            have rx25_58 : inR x25_58 := mRn_25 hw.1.2.2.1
            have rx26_58 : inR x26_58 := mRn_26 hw.1.2.2.1
            have rx27_58 : inR x27_58 := mRn_27 hw.1.2.2.1
            have hh58_ : (0 ≤ (x25_58) ∧ (x25_58) ≤ (x24_58) ∧ (x24_58) ≤ (n_0 23)) ∧ (0 ≤ (y31_58 ((n_0 29))) ∧ (y31_58 ((n_0 29))) ≤ (x24_58)) ∧ (0 ≤ (x26_58) ∧ (x26_58) ≤ 4) ∧ (¬ (x26_58) = 0 → (x25_58) < (x24_58)) ∧ ((x26_58) = 3 → 0 ≤ (x27_58) ∧ (x27_58) ≤ 9999) ∧ (x24_1) ≤ (x25_58) ∧ (∀ i, i ≠ (n_0 29) → (y31_58 i) = (y31_1 i)) := hq58_
            clear hq58_
            have hk_ := hh58_.2.2.2.2.2.2
            refine j_aload_n E 79 rfl dX10_readCompared_78 rfl (lv_at hl 1 rfl) ?_
            refine m_calli E (c_X10_readSum l D cy q (upN (upN (upN (upN (upN (upN (upN n_0 24 x24_58) 25 x25_58) 26 x26_58) 27 x27_58) 37 x37_1) 41 x41_1) 42 x42_1) (upF (upF (upF (upF f_0 30 y30_58) 31 y31_58) 32 y32_1) 33 y33_1)  (dl_ + 1) lo_ (el_ + 1)  (show 0 ≤ (n_0 29) ∧ (n_0 29) < 32 from by omega) (show 0 ≤ (n_0 23) ∧ (n_0 23) ≤ 400 from by omega) (show Wds_ (f_0 28) from hp2) (show 0 ≤ (dl_ + 1) ∧ (0 ≤ (x25_58) ∧ (x25_58) ≤ (x24_58) ∧ (x24_58) ≤ (n_0 23)) ∧ (0 ≤ (y31_58 ((n_0 29))) ∧ (y31_58 ((n_0 29))) ≤ (x24_58)) ∧ (0 ≤ (x26_58) ∧ (x26_58) ≤ 4) ∧ (¬ (x26_58) = 0 → (x25_58) < (x24_58)) ∧ ((x26_58) = 3 → 0 ≤ (x27_58) ∧ (x27_58) ≤ 9999) ∧ (0 ≤ lo_ ∧ lo_ ≤ (x37_1)) ∧ (x37_1) + (dl_ + 1) ≤ (x25_58) from by omega) (show Pz_ (y32_1) (y33_1) (400 * (n_0 29) + lo_) (400 * (n_0 29) + (x37_1)) (el_ + 1) from h0_.2.2.2.2.2.2)) rfl mt_X10_readSum ml_X10_282 hK hw hA ⟨Nat.le_of_ble_eq_true rfl, Nat.le_of_ble_eq_true rfl⟩ (As := []) (rest := []) rfl rfl hl.1 (Nat.le_of_ble_eq_true rfl) 82 rfl dX10_readCompared_79 (fun zz59_ n_59 f_59 H locs rr59_ hq59_ hw => ?_)
            obtain ⟨x24_59, x25_59, x26_59, x27_59, x37_59, x41_59, x42_59, y30_59, y31_59, y32_59, y33_59, en59_, ef59_, hq59_⟩ := hq59_
            rw [en59_, ef59_] at hw; clear en59_ ef59_
            have hw : WM D cy q (upN (upN (upN (upN (upN (upN (upN n_0 24 x24_59) 25 x25_59) 26 x26_59) 27 x27_59) 37 x37_59) 41 x41_59) 42 x42_59) (upF (upF (upF (upF f_0 30 y30_59) 31 y31_59) 32 y32_59) 33 y33_59) A0 H0 H locs := hw
            have rx24_59 : inR x24_59 := mRn_24 hw.1.2.2.1
            have rx25_59 : inR x25_59 := mRn_25 hw.1.2.2.1
            have rx26_59 : inR x26_59 := mRn_26 hw.1.2.2.1
            have rx27_59 : inR x27_59 := mRn_27 hw.1.2.2.1
            have rx37_59 : inR x37_59 := mRn_37 hw.1.2.2.1
            have rx41_59 : inR x41_59 := mRn_41 hw.1.2.2.1
            have rx42_59 : inR x42_59 := mRn_42 hw.1.2.2.1
            have hh59_ : (zz59_ = -1 ∧ Fr_ (y32_1) (y33_1) (y32_59) (y33_59) (400 * (n_0 29) + (x37_1)) ∧ (∀ i, i ≠ (n_0 29) → (y31_59 i) = (y31_58 i)) ∧ (0 ≤ (y31_59 ((n_0 29))) ∧ (y31_59 ((n_0 29))) ≤ 400)) ∨ (zz59_ = 0 ∧ Fr_ (y32_1) (y33_1) (y32_59) (y33_59) (400 * (n_0 29) + (x37_1)) ∧ (∀ i, i ≠ (n_0 29) → (y31_59 i) = (y31_58 i)) ∧ (0 ≤ (y31_59 ((n_0 29))) ∧ (y31_59 ((n_0 29))) ≤ 400) ∧ ((0 ≤ (x25_59) ∧ (x25_59) ≤ (x24_59) ∧ (x24_59) ≤ (n_0 23)) ∧ (0 ≤ (y31_59 ((n_0 29))) ∧ (y31_59 ((n_0 29))) ≤ (x24_59)) ∧ (0 ≤ (x26_59) ∧ (x26_59) ≤ 4) ∧ (¬ (x26_59) = 0 → (x25_59) < (x24_59)) ∧ ((x26_59) = 3 → 0 ≤ (x27_59) ∧ (x27_59) ≤ 9999) ∧ (0 ≤ lo_ ∧ lo_ ≤ (x37_59)) ∧ (x37_59) + (dl_ + 1) ≤ (x25_59)) ∧ (x25_58) < (x25_59) ∧ (x37_1) ≤ (x37_59) ∧ Pz_ (y32_59) (y33_59) (400 * (n_0 29) + lo_) (400 * (n_0 29) + (x37_59)) ((el_ + 1) + 1)) := hq59_
            clear hq59_
            rcases hh59_ with ⟨ee59_, hh59_⟩ | ⟨ee59_, hh59_⟩
            · subst ee59_
              have hx2_ := hh59_
              refine j_iconst E 83 rfl dX10_readCompared_82 ?_
              refine j_icmp_ne E 86 88 rfl (rr (by decide)) (rr (by decide)) dX10_readCompared_83 (by decide) (fun cc60_ => absurd cc60_ (by decide)) (fun _ => ?_)
              refine j_iconst E 87 rfl dX10_readCompared_86 ?_
              exact hret 87 ((-1)) (upN (upN (upN (upN (upN (upN (upN n_0 24 x24_59) 25 x25_59) 26 x26_59) 27 x27_59) 37 x37_59) 41 x41_59) 42 x42_59) (upF (upF (upF (upF f_0 30 y30_59) 31 y31_59) 32 y32_59) 33 y33_59) _ _ ls hw (rr (by decide)) ⟨x24_59, x25_59, x26_59, x27_59, x37_59, x41_59, x42_59, y30_59, y31_59, y32_59, y33_59, rfl, rfl, Or.inl ⟨rfl, Fr_tr h0_.1 hx2_.1 (by omega), tk_tr h0_.2.1 (tk_tr hk_ hx2_.2.1), hx2_.2.2⟩⟩ dX10_readCompared_87
            · subst ee59_
              have h2_ := hh59_
              have hb2_ := (h2_.2.2.2.2.2.2).2
              refine j_iconst E 83 rfl dX10_readCompared_82 ?_
              refine j_icmp_ne E 86 88 rfl (rr (by decide)) (rr (by decide)) dX10_readCompared_83 (by decide) (fun _ => ?_) (fun cc61_ => absurd cc61_ (by decide))
              refine j_aload_n E 89 rfl dX10_readCompared_88 rfl (lv_at hl 1 rfl) ?_
              refine j_iload_n E 90 rfl dX10_readCompared_89 rfl (lv_at hl 0 rfl) ?_
              refine j_iconst E 91 rfl dX10_readCompared_90 ?_
              refine m_callv E (c_X10_emits l D cy q (upN (upN (upN (upN (upN (upN (upN n_0 24 x24_59) 25 x25_59) 26 x26_59) 27 x27_59) 37 x37_59) 41 x41_59) 42 x42_59) (upF (upF (upF (upF f_0 30 y30_59) 31 y31_59) 32 y32_59) 33 y33_59) 7 0  (rr (by decide)) (rr (by decide)) (show 0 ≤ (n_0 29) ∧ (n_0 29) < 32 from by omega) (show 0 ≤ (x37_59) ∧ (x37_59) ≤ 399 from by omega)) rfl mt_X10_emits ml_X10_265 hK hw hA ⟨Nat.le_of_ble_eq_true rfl, Nat.le_of_ble_eq_true rfl⟩ (As := [.int (J 7), .int (J 0)]) (rest := []) rfl rfl hl.1 (Nat.le_of_ble_eq_true rfl) 94 rfl dX10_readCompared_91 (fun n_62 f_62 H locs hq62_ hw => ?_)
              obtain ⟨x37_62, y32_62, y33_62, en62_, ef62_, hq62_⟩ := hq62_
              rw [en62_, ef62_] at hw; clear en62_ ef62_
              have hw : WM D cy q (upN (upN (upN (upN (upN (upN (upN n_0 24 x24_59) 25 x25_59) 26 x26_59) 27 x27_59) 37 x37_62) 41 x41_59) 42 x42_59) (upF (upF (upF (upF f_0 30 y30_59) 31 y31_59) 32 y32_62) 33 y33_62) A0 H0 H locs := hw
              have rx37_62 : inR x37_62 := mRn_37 hw.1.2.2.1
              have hh62_ : (y32_62) = upA (y32_59) (400 * (n_0 29) + (x37_59)) (7 : Int) ∧ (y33_62) = upA (y33_59) (400 * (n_0 29) + (x37_59)) (0 : Int) ∧ (x37_62) = (x37_59) + 1 := hq62_
              clear hq62_
              have hm_ : (x37_62) = (x37_59) + 1 := hh62_.2.2
              have hz_ : Pz_ (y32_62) (y33_62) (400 * n_0 29 + lo_) (400 * n_0 29 + (x37_62)) (el_ + 1) := by rw [hh62_.1, hh62_.2.1, show 400 * n_0 29 + (x37_62) = 400 * n_0 29 + (x37_59) + 1 by omega]; exact Pz_ext h2_.2.2.2.2.2.2 (by omega) (by omega) (by omega)
              have hf_ : Fr_ (y32_59) (y33_59) (y32_62) (y33_62) (400 * n_0 29 + (x37_59)) := by rw [hh62_.1, hh62_.2.1]; exact Fr_up (by omega)
              refine j_iconst E 95 rfl dX10_readCompared_94 ?_
              exact hret 95 0 (upN (upN (upN (upN (upN (upN (upN n_0 24 x24_59) 25 x25_59) 26 x26_59) 27 x27_59) 37 x37_62) 41 x41_59) 42 x42_59) (upF (upF (upF (upF f_0 30 y30_59) 31 y31_59) 32 y32_62) 33 y33_62) _ _ ls hw (rr (by decide)) ⟨x24_59, x25_59, x26_59, x27_59, x37_62, x41_59, x42_59, y30_59, y31_59, y32_62, y33_62, rfl, rfl, Or.inr ⟨rfl, Fr_tr h0_.1 (Fr_tr h2_.1 hf_ (by omega)) (by omega), tk_tr h0_.2.1 (tk_tr hk_ h2_.2.1), by omega, by omega, by omega, by omega, hz_⟩⟩ dX10_readCompared_95
        · subst ee44_
          refine j_if_ne E 37 43 rfl (rr (by decide)) dX10_readCompared_34 (by decide) (fun cc63_ => absurd cc63_ (by decide)) (fun _ => ?_)
          refine j_aload_n E 38 rfl dX10_readCompared_37 rfl (lv_at hl 0 rfl) ?_
          refine j_iconst E 39 rfl dX10_readCompared_38 ?_
          refine m_calli E (c_X10_fails l D cy q (upN (upN (upN (upN (upN (upN (upN n_0 24 x24_1) 25 x25_1) 26 x26_1) 27 x27_1) 37 x37_1) 41 x41_1) 42 x42_1) (upF (upF (upF (upF f_0 30 y30_1) 31 y31_1) 32 y32_1) 33 y33_1) 1  (rr (by decide)) ) rfl mt_X10_fails ml_X10_262 hK hw hA ⟨Nat.le_of_ble_eq_true rfl, Nat.le_of_ble_eq_true rfl⟩ (As := [.int (J 1)]) (rest := []) rfl rfl hl.1 (Nat.le_of_ble_eq_true rfl) 42 rfl dX10_readCompared_39 (fun zz64_ n_64 f_64 H locs rr64_ hq64_ hw => ?_)
          obtain ⟨x41_64, x42_64, en64_, ef64_, hq64_⟩ := hq64_
          rw [en64_, ef64_] at hw; clear en64_ ef64_
          have hw : WM D cy q (upN (upN (upN (upN (upN (upN (upN n_0 24 x24_1) 25 x25_1) 26 x26_1) 27 x27_1) 37 x37_1) 41 x41_64) 42 x42_64) (upF (upF (upF (upF f_0 30 y30_1) 31 y31_1) 32 y32_1) 33 y33_1) A0 H0 H locs := hw
          have rx41_64 : inR x41_64 := mRn_41 hw.1.2.2.1
          have rx42_64 : inR x42_64 := mRn_42 hw.1.2.2.1
          have hh64_ : zz64_ = -1 := hq64_
          clear hq64_
          exact hret 42 zz64_ (upN (upN (upN (upN (upN (upN (upN n_0 24 x24_1) 25 x25_1) 26 x26_1) 27 x27_1) 37 x37_1) 41 x41_64) 42 x42_64) (upF (upF (upF (upF f_0 30 y30_1) 31 y31_1) 32 y32_1) 33 y33_1) _ _ ls hw rr64_ ⟨x24_1, x25_1, x26_1, x27_1, x37_1, x41_64, x42_64, y30_1, y31_1, y32_1, y33_1, rfl, rfl, Or.inl ⟨by omega, h0_.1, h0_.2.1, h0_.2.2.1⟩⟩ dX10_readCompared_42
