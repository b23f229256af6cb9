/-! ===== how many below k are in S ===== -/
noncomputable def nq_ (S : Int → Prop) : Nat → Int
  | 0 => 0
  | k + 1 => nq_ S k + i1_ (S (k : Int))
theorem nq_s {S : Int → Prop} {k : Nat} : nq_ S (k + 1) = nq_ S k + i1_ (S (k : Int)) := rfl
theorem nq_rg {S : Int → Prop} : ∀ k : Nat, 0 ≤ nq_ S k ∧ nq_ S k ≤ (k : Int)
  | 0 => ⟨Int.le_refl 0, Int.le_refl 0⟩
  | k + 1 => by
    have h := nq_rg (S := S) k
    have h2 := i1_rg (S (k : Int))
    rw [nq_s]
    omega
theorem nq_cg {S S2 : Int → Prop} : ∀ k : Nat, (∀ p : Int, 0 ≤ p → p < (k : Int) → (S p ↔ S2 p)) → nq_ S k = nq_ S2 k
  | 0, _ => rfl
  | k + 1, h => by
    rw [nq_s, nq_s, nq_cg k (fun p a b => h p a (by omega)), propext (h (k : Int) (by omega) (by omega))]
theorem nq_nx {S : Int → Prop} {k : Int} (hk : 0 ≤ k) : nq_ S (k + 1).toNat = nq_ S k.toNat + i1_ (S k) := by
  have e : (k + 1).toNat = k.toNat + 1 := by omega
  have e2 : ((k.toNat : Nat) : Int) = k := by omega
  rw [e, nq_s, e2]
theorem nq_y {S : Int → Prop} {k c : Int} (h : c = nq_ S k.toNat) (hk : 0 ≤ k) (hs : S k) : c + 1 = nq_ S (k + 1).toNat := by rw [nq_nx hk, i1_t hs, h]
theorem nq_n {S : Int → Prop} {k c : Int} (h : c = nq_ S k.toNat) (hk : 0 ≤ k) (hs : ¬ S k) : c = nq_ S (k + 1).toNat := by rw [nq_nx hk, i1_f hs, h]; omega
theorem nq_0 {S : Int → Prop} : (0 : Int) = nq_ S (0 : Int).toNat := rfl
theorem nq_tl {S : Int → Prop} {L : Int} (h0 : 0 ≤ L) (h : ∀ l, L ≤ l → ¬ S l) : ∀ k : Nat, L ≤ (k : Int) → nq_ S k = nq_ S L.toNat
  | 0, hk => by rw [show L.toNat = 0 by omega]
  | k + 1, hk => by
    by_cases e : L ≤ (k : Int)
    · rw [nq_s, i1_f (h _ e), nq_tl h0 h k e]; omega
    · rw [show L.toNat = k + 1 by omega]
theorem nq_tl2 {S : Int → Prop} {L : Int} (h0 : 0 ≤ L) (m : Nat) (h : ∀ l, L ≤ l → l < (m : Int) → ¬ S l) (hm : L ≤ (m : Int)) : nq_ S m = nq_ S L.toNat := by
  have e1 : nq_ S m = nq_ (fun l => S l ∧ l < L) m := nq_cg m (fun p p0 p1 => ⟨fun q => ⟨q, by by_cases r : p < L; exact r; exact absurd q (h p (by omega) p1)⟩, fun q => q.1⟩)
  have e2 : nq_ S L.toNat = nq_ (fun l => S l ∧ l < L) L.toNat := nq_cg L.toNat (fun p p0 p1 => ⟨fun q => ⟨q, by omega⟩, fun q => q.1⟩)
  rw [e1, e2]
  exact nq_tl h0 (fun l hl q => by have := q.2; omega) m hm
/-! ===== the ones of a number ===== -/
def un_ (z : Int) : Int := ((J z).toBitVec.toNat : Int)
theorem un_nn (z : Int) : 0 ≤ un_ z := Int.natCast_nonneg _
theorem un_and {v z : Int} (e : J z = J v &&& J (v - 1)) (h : un_ v ≠ 0) : un_ z < un_ v := by
  unfold un_ at *
  have h1 : (J z).toBitVec = (J v).toBitVec &&& (J (v - 1)).toBitVec := by rw [e]; rfl
  have h2 : (J (v - 1)).toBitVec = (J v).toBitVec - 1 := by rw [← J_sub]; rfl
  rw [h1, h2, BitVec.toNat_and]
  have h3 : ((J v).toBitVec.toNat &&& ((J v).toBitVec - 1).toNat) ≤ ((J v).toBitVec - 1).toNat := Nat.and_le_right
  have h4 : ((J v).toBitVec - 1).toNat = (J v).toBitVec.toNat - 1 := by
    have h5 := (J v).toBitVec.isLt
    rw [BitVec.toNat_sub]
    have : (1 : BitVec 32).toNat = 1 := rfl
    rw [this]
    omega
  omega
theorem un_0 {v : Int} (hv : inR v) (h : un_ v = 0) : v = 0 := by
  unfold un_ at h
  have h1 : (J v).toBitVec = 0 := BitVec.eq_of_toNat_eq (by have : (0 : BitVec 32).toNat = 0 := rfl; rw [this]; omega)
  have h2 : J v = J 0 := Int32.toBitVec.inj (by rw [h1]; rfl)
  exact (J_inj hv inR0).mp h2
/-- the ones of a number -/
def pp_ : Nat → Nat → Nat
  | 0, _ => 0
  | k + 1, n => n % 2 + pp_ k (n / 2)
theorem pp_0 : ∀ k, pp_ k 0 = 0
  | 0 => rfl
  | k + 1 => by rw [pp_]; simp [pp_0 k]
theorem pp_le : ∀ k n, pp_ k n ≤ k
  | 0, _ => Nat.le_refl 0
  | k + 1, n => by rw [pp_]; have := pp_le k (n / 2); omega
theorem pp_and : ∀ k n, 0 < n → n < 2 ^ k → pp_ k (n &&& (n - 1)) + 1 = pp_ k n
  | 0, n, h, h2 => by simp at h2; omega
  | k + 1, n, h, h2 => by
    rw [pp_, pp_]
    have e1 : (n &&& (n - 1)) / 2 = n / 2 &&& (n - 1) / 2 := Nat.and_div_two
    rw [e1]
    rcases Nat.mod_two_eq_zero_or_one n with m | m
    · have e2 : (n - 1) / 2 = n / 2 - 1 := by omega
      have e3 : (n &&& (n - 1)) % 2 = 0 := by
        have : (n &&& (n - 1)) % 2 ≠ 1 := fun q => by
          rw [Nat.and_mod_two_eq_one] at q
          omega
        omega
      rw [e2, e3]
      have := pp_and k (n / 2) (by omega) (by rw [Nat.pow_succ] at h2; omega)
      omega
    · have e2 : (n - 1) / 2 = n / 2 := by omega
      have e3 : (n &&& (n - 1)) % 2 = 0 := by
        have : (n &&& (n - 1)) % 2 ≠ 1 := fun q => by
          rw [Nat.and_mod_two_eq_one] at q
          omega
        omega
      rw [e2, e3, Nat.and_self]
      omega
def cn_ (z : Int) : Int := (pp_ 32 (J z).toBitVec.toNat : Int)
theorem cn_nn (z : Int) : 0 ≤ cn_ z := Int.natCast_nonneg _
theorem cn_le (z : Int) : cn_ z ≤ 32 := by unfold cn_; have := pp_le 32 (J z).toBitVec.toNat; omega
theorem cn_0 : cn_ 0 = 0 := by decide +kernel
theorem J_bv_pred (v : Int) (h : (J v).toBitVec.toNat ≠ 0) : (J (v - 1)).toBitVec.toNat = (J v).toBitVec.toNat - 1 := by
  have h2 : (J (v - 1)).toBitVec = (J v).toBitVec - 1 := by rw [← J_sub]; rfl
  have h5 := (J v).toBitVec.isLt
  rw [h2, BitVec.toNat_sub]
  have : (1 : BitVec 32).toNat = 1 := rfl
  rw [this]
  omega
theorem cn_and {v z : Int} (e : J z = J v &&& J (v - 1)) (h : ¬ v = 0 ∧ inR v) : cn_ z + 1 = cn_ v := by
  have h0 : (J v).toBitVec.toNat ≠ 0 := fun q => h.1 (un_0 h.2 (by unfold un_; omega))
  have h1 : (J z).toBitVec.toNat = (J v).toBitVec.toNat &&& ((J v).toBitVec.toNat - 1) := by
    have h2 : (J z).toBitVec = (J v).toBitVec &&& (J (v - 1)).toBitVec := by rw [e]; rfl
    rw [h2, BitVec.toNat_and, J_bv_pred v h0]
  unfold cn_
  rw [h1]
  have := pp_and 32 (J v).toBitVec.toNat (by omega) (J v).toBitVec.isLt
  omega
def bt_ (z : Int) (i : Nat) : Bool := (J z).toBitVec.toNat.testBit i
theorem sl_one : ∀ k : Fin 32, ∀ i : Fin 32, (J 1 <<< (J (k.val : Int) &&& 31)).toBitVec.toNat.testBit i.val = decide (i.val = k.val) := by decide +kernel
theorem bt_0 (i : Nat) : bt_ 0 i = false := by
  unfold bt_
  rw [show (J 0).toBitVec.toNat = 0 by decide +kernel]
  exact Nat.zero_testBit i
theorem bt_set {g x z1 z2 : Int} (e1 : J z1 = J 1 <<< (J x &&& 31)) (e2 : J z2 = J g ||| J z1) (hx : 0 ≤ x ∧ x < 32) (i : Nat) (hi : i < 32) : bt_ z2 i = (bt_ g i || decide (i = x.toNat)) := by
  have q := sl_one ⟨x.toNat, by omega⟩ ⟨i, hi⟩
  have h3 : ((x.toNat : Nat) : Int) = x := by omega
  simp only [h3] at q
  unfold bt_
  rw [e2, Int32.toBitVec_or, BitVec.toNat_or, Nat.testBit_or, e1, q]
theorem bt_and {a b z : Int} (e : J z = J a &&& J b) (i : Nat) : bt_ z i = (bt_ a i && bt_ b i) := by
  unfold bt_
  rw [e, Int32.toBitVec_and, BitVec.toNat_and, Nat.testBit_and]
/-- a number whose bits tell Q -/
def Bq_ (g : Int) (Q : Int → Prop) : Prop := ∀ i : Int, 0 ≤ i → i < 32 → (bt_ g i.toNat = true ↔ Q i)
theorem Bq_0 {Q : Int → Prop} (h : ∀ i, 0 ≤ i → i < 32 → ¬ Q i) : Bq_ 0 Q := fun i h0 h1 => by
  rw [bt_0]
  exact ⟨fun q => absurd q (by decide), fun q => absurd q (h i h0 h1)⟩
theorem Bq_cg {g : Int} {Q Q2 : Int → Prop} (h : Bq_ g Q) (e : ∀ i, 0 ≤ i → i < 32 → (Q i ↔ Q2 i)) : Bq_ g Q2 := fun i h0 h1 => (h i h0 h1).trans (e i h0 h1)
theorem Bq_up {g z z1 k : Int} {Q Q2 : Int → Prop} (h : Bq_ g Q) (e1 : J z1 = J 1 <<< (J k &&& 31)) (e2 : J z = J g ||| J z1) (hk : 0 ≤ k ∧ k < 32) (e : ∀ i, 0 ≤ i → i < 32 → (Q2 i ↔ (Q i ∨ i = k))) : Bq_ z Q2 := fun i h0 h1 => by
  rw [bt_set e1 e2 hk i.toNat (by omega), e i h0 h1, ← h i h0 h1, Bool.or_eq_true]
  by_cases q : i = k
  · rw [show decide (i.toNat = k.toNat) = true from decide_eq_true (by omega)]
    exact ⟨fun _ => Or.inr q, fun _ => Or.inr rfl⟩
  · rw [show decide (i.toNat = k.toNat) = false from decide_eq_false (by omega)]
    exact ⟨fun r => r.elim Or.inl (fun s => absurd s (by decide)), fun r => r.elim Or.inl (fun s => absurd s q)⟩
theorem Bq_eq {g g2 : Int} {Q : Int → Prop} (h : Bq_ g Q) (h2 : Bq_ g2 Q) : J g = J g2 := by
  apply Int32.toBitVec.inj
  apply BitVec.eq_of_toNat_eq
  apply Nat.eq_of_testBit_eq
  intro i
  by_cases hi : i < 32
  · have a := (h (i : Int) (by omega) (by omega)).trans (h2 (i : Int) (by omega) (by omega)).symm
    rw [show ((i : Int)).toNat = i by omega] at a
    unfold bt_ at a
    exact Bool.eq_iff_iff.mpr a
  · have b1 := (J g).toBitVec.isLt
    have b2 := (J g2).toBitVec.isLt
    rw [Nat.testBit_lt_two_pow (Nat.lt_of_lt_of_le b1 (Nat.pow_le_pow_right (by decide) (by omega))), Nat.testBit_lt_two_pow (Nat.lt_of_lt_of_le b2 (Nat.pow_le_pow_right (by decide) (by omega)))]
theorem Bq_cn {g g2 : Int} {Q : Int → Prop} (h : Bq_ g Q) (h2 : Bq_ g2 Q) : cn_ g = cn_ g2 := by
  unfold cn_
  rw [Bq_eq h h2]
/-- one more that may be in the set -/
def Us_ (S : Int → Prop) (wo : Int → Int) (k i : Int) : Prop := ∃ p, 0 ≤ p ∧ p < k ∧ S p ∧ wo p = i
theorem Us_n {S : Int → Prop} {wo : Int → Int} {k : Int} (hs : ¬ S k) (i : Int) : Us_ S wo k i ↔ Us_ S wo (k + 1) i := ⟨fun ⟨p, a, b, c, d⟩ => ⟨p, a, by omega, c, d⟩, fun ⟨p, a, b, c, d⟩ => ⟨p, a, by
  by_cases e : p = k
  · rw [e] at c; exact absurd c hs
  · omega, c, d⟩⟩
theorem Us_y {S : Int → Prop} {wo : Int → Int} {k w : Int} (h0 : 0 ≤ k) (hs : S k) (hw : w = wo k) (i : Int) : Us_ S wo (k + 1) i ↔ (Us_ S wo k i ∨ i = w) := by
  constructor
  · rintro ⟨p, a, b, c, d⟩
    by_cases e : p = k
    · subst e; exact Or.inr (by rw [hw, d])
    · exact Or.inl ⟨p, a, by omega, c, d⟩
  · rintro (⟨p, a, b, c, d⟩ | e)
    · exact ⟨p, a, by omega, c, d⟩
    · exact ⟨k, h0, by omega, hs, by rw [← hw, e]⟩
theorem Us_0 {S : Int → Prop} {wo : Int → Int} (i : Int) : ¬ Us_ S wo 0 i := fun ⟨p, a, b, _, _⟩ => by omega
theorem Us_cg {S S2 : Int → Prop} {wo wo2 : Int → Int} {k : Int} (hS : ∀ p, 0 ≤ p → p < k → (S p ↔ S2 p)) (hw : ∀ p, 0 ≤ p → p < k → S p → wo p = wo2 p) (i : Int) : Us_ S wo k i ↔ Us_ S2 wo2 k i := ⟨fun ⟨p, a, b, c, d⟩ => ⟨p, a, b, (hS p a b).1 c, (hw p a b c).symm.trans d⟩, fun ⟨p, a, b, c, d⟩ => ⟨p, a, b, (hS p a b).2 c, (hw p a b ((hS p a b).2 c)).trans d⟩⟩
theorem sh_amt : ∀ k : Fin 32, ((J (k.val : Int) &&& 31).toBitVec.smod 32).toNat = k.val := by decide +kernel
theorem sh_bv {set x z : Int} (e : J z = J set >>> (J x &&& 31)) (hx : 0 ≤ x ∧ x < 32) : (J z).toBitVec = (J set).toBitVec.sshiftRight x.toNat := by
  have h1 : (J z).toBitVec = (J set).toBitVec.sshiftRight' ((J x &&& 31).toBitVec.smod 32) := by rw [e]; rfl
  rw [h1]
  show (J set).toBitVec.sshiftRight _ = _
  have h2 := sh_amt ⟨x.toNat, by omega⟩
  have h3 : ((x.toNat : Nat) : Int) = x := by omega
  simp only [h3] at h2
  rw [h2]
theorem sh_bit {set x z1 z2 : Int} (e1 : J z1 = J set >>> (J x &&& 31)) (e2 : J z2 = J z1 &&& J 1) (hx : 0 ≤ x ∧ x < 32) (r2 : inR z2) : (z2 = 0 ∧ bt_ set x.toNat = false) ∨ (z2 = 1 ∧ bt_ set x.toNat = true) := by
  have h1 := sh_bv e1 hx
  have hb : (J z1).toBitVec.getLsbD 0 = bt_ set x.toNat := by
    rw [h1, BitVec.getLsbD_sshiftRight]
    simp [show x.toNat < 32 by omega]
    rfl
  have h2 : (J z2).toBitVec.toNat = (J z1).toBitVec.toNat % 2 := by
    have h3 : (J z2).toBitVec = (J z1).toBitVec &&& (J 1).toBitVec := by rw [e2]; rfl
    rw [h3, BitVec.toNat_and]
    have h4 : (J 1).toBitVec.toNat = 1 := by decide +kernel
    rw [h4, Nat.and_one_is_mod]
  have h5 : (J z1).toBitVec.getLsbD 0 = decide ((J z1).toBitVec.toNat % 2 = 1) := by
    show (J z1).toBitVec.toNat.testBit 0 = _
    rw [Nat.testBit_zero]
  rcases Nat.mod_two_eq_zero_or_one (J z1).toBitVec.toNat with m | m
  · left
    refine ⟨?_, ?_⟩
    · have : J z2 = J 0 := Int32.toBitVec.inj (BitVec.eq_of_toNat_eq (by rw [h2, m]; decide +kernel))
      exact (J_inj r2 inR0).mp this
    · rw [← hb, h5, m]; rfl
  · right
    refine ⟨?_, ?_⟩
    · have : J z2 = J 1 := Int32.toBitVec.inj (BitVec.eq_of_toNat_eq (by rw [h2, m]; decide +kernel))
      exact (J_inj r2 (rr (by decide))).mp this
    · rw [← hb, h5, m]; rfl
def Bz_ (set w : Int) : Prop := ∀ i : Int, w ≤ i → i < 32 → 0 ≤ i → bt_ set i.toNat = false
theorem sh_zero {set w z : Int} (e : J z = J set >>> (J w &&& 31)) (hz : z = 0) (hw : 0 ≤ w ∧ w < 32) : Bz_ set w := fun i h1 h2 h0 => by
  have h := sh_bv e hw
  have h3 : (J z).toBitVec.getLsbD (i.toNat - w.toNat) = false := by rw [hz]; have : (J 0).toBitVec = 0#32 := by decide +kernel
                                                                     rw [this]; simp
  rw [h, BitVec.getLsbD_sshiftRight] at h3
  have h4 : w.toNat + (i.toNat - w.toNat) = i.toNat := by omega
  rw [h4] at h3
  simp [show i.toNat < 32 by omega, show i.toNat - w.toNat < 32 by omega] at h3
  exact h3
theorem bt_lt {set w i : Int} (h : Bz_ set w) (hb : bt_ set i.toNat = true) (h0 : 0 ≤ i) (h32 : i < 32) : i < w := by
  rcases Int.lt_or_le i w with q | q
  · exact q
  · have := h i q h32 h0; rw [this] at hb; cases hb
theorem bz_pos {set w : Int} (hr : inR set) (h : Bz_ set w) (hw : w ≤ 31) : 0 ≤ set := by
  have q := h 31 (by omega) (by decide) (by decide)
  unfold bt_ at q
  have h2 : (J set).toInt = set := J_toInt hr
  have h3 : (J set).toInt = (J set).toBitVec.toInt := rfl
  have h4 := BitVec.toInt_eq_toNat_cond (J set).toBitVec
  have h5 := (J set).toBitVec.isLt
  rw [show (31 : Int).toNat = 31 from rfl, Nat.testBit_eq_decide_div_mod_eq] at q
  have q2 := of_decide_eq_false q
  rw [h3, h4] at h2
  split at h2 <;> omega
theorem bz_ex {set w : Int} (hr : inR set) (h : Bz_ set w) (h0 : ¬ set = 0) : ∃ l, 0 ≤ l ∧ l < w ∧ bt_ set l.toNat = true := by
  by_cases e : ∃ l, 0 ≤ l ∧ l < w ∧ bt_ set l.toNat = true
  · exact e
  · exfalso
    refine h0 ((J_inj hr inR0).mp (Bq_eq (Q := fun _ => False) (fun i i0 i1 => ?_) (Bq_0 (fun _ _ _ q => q))))
    refine ⟨fun q => ?_, fun q => q.elim⟩
    by_cases r : i < w
    · exact e ⟨i, i0, r, q⟩
    · rw [h i (by omega) i1 i0] at q; cases q
theorem us_z {set x z : Int} (e : (J z).toBitVec = (J set).toBitVec >>> x.toNat) (r : inR z) (hx : 0 ≤ x ∧ x < 32) : z = 0 ↔ Bz_ set x := by
  have hb : ∀ i : Nat, i < 32 → (J z).toBitVec.getLsbD i = (J set).toBitVec.getLsbD (x.toNat + i) := fun i _ => by rw [e, BitVec.getLsbD_ushiftRight]
  constructor
  · intro hz i i0 i1 i2
    have q := hb (i.toNat - x.toNat) (by omega)
    rw [hz, show x.toNat + (i.toNat - x.toNat) = i.toNat by omega, show (J 0).toBitVec = 0#32 by decide +kernel] at q
    have q2 : bt_ set i.toNat = (J set).toBitVec.getLsbD i.toNat := rfl
    rw [q2, ← q]
    simp
  · intro h
    have q : J z = J 0 := by
      apply Int32.toBitVec.inj
      apply BitVec.eq_of_getLsbD_eq
      intro i hi
      rw [hb i hi, show (J 0).toBitVec = 0#32 by decide +kernel]
      by_cases l : x.toNat + i < 32
      · have a := h ((x.toNat + i : Nat) : Int) (by omega) (by omega) (by omega)
        have a2 : (J set).toBitVec.getLsbD (x.toNat + i) = false := a
        rw [a2]; simp
      · rw [BitVec.getLsbD_of_ge _ _ (by omega)]; simp
    exact (J_inj r inR0).mp q
theorem ss_us {set x z : Int} (e : J z = J set >>> (J x &&& 31)) (hs : 0 ≤ set ∧ inR set) (hx : 0 ≤ x ∧ x < 32) : (J z).toBitVec = (J set).toBitVec >>> x.toNat := by
  rw [sh_bv e hx]
  have h2 : (J set).toInt = set := J_toInt hs.2
  have h3 : (J set).toInt = (J set).toBitVec.toInt := rfl
  have h4 := BitVec.toInt_eq_toNat_cond (J set).toBitVec
  have m : (J set).toBitVec.msb = false := by
    rw [h3, h4] at h2
    rw [BitVec.msb_eq_decide]
    have h5 := (J set).toBitVec.isLt
    apply decide_eq_false
    show ¬ 2147483648 ≤ (J set).toBitVec.toNat
    split at h2 <;> omega
  exact BitVec.sshiftRight_eq_of_msb_false m
theorem sz_ne {set x z : Int} (e : J z = J set >>> (J x &&& 31)) (rs : inR set) (rz : inR z) (hz : ¬ z = 0) (hx : 0 ≤ x ∧ x < 32) : ¬ Bz_ set x := fun b => hz ((us_z (ss_us e ⟨bz_pos rs b (by omega), rs⟩ hx) rz hx).2 b)
/-- the least of those in a set -/
def Lm_ (set : Int) (c : Int → Int) (N r : Int) : Prop := (∀ l, 0 ≤ l → l < N → bt_ set l.toNat = true → r ≤ c l) ∧ ∃ l, 0 ≤ l ∧ l < N ∧ bt_ set l.toNat = true ∧ r = c l
theorem Lm_det {set N r r2 : Int} {c c2 : Int → Int} (h : Lm_ set c N r) (h2 : Lm_ set c2 N r2) (e : ∀ l, 0 ≤ l → l < N → c l = c2 l) : r = r2 := by
  obtain ⟨a1, l, l0, l1, lb, le⟩ := h
  obtain ⟨b1, k, k0, k1, kb, ke⟩ := h2
  have q1 := a1 k k0 k1 kb
  have q2 := b1 l l0 l1 lb
  have q3 := e k k0 k1
  have q4 := e l l0 l1
  omega
/-- so far: below k -/
def Lms_ (set : Int) (c : Int → Int) (m k r : Int) : Prop := (∀ l, 0 ≤ l → l < k → bt_ set l.toNat = true → r ≤ c l) ∧ (r = m ∨ ∃ l, 0 ≤ l ∧ l < k ∧ bt_ set l.toNat = true ∧ r = c l)
theorem Lms_0 {set m : Int} {c : Int → Int} : Lms_ set c m 0 m := ⟨fun l h0 h1 => absurd h1 (by omega), Or.inl rfl⟩
theorem Lms_y {set m k r r2 : Int} {c : Int → Int} (h : Lms_ set c m k r) (h0 : 0 ≤ k) (hb : bt_ set k.toNat = true) (hr : (r2 = r ∧ r ≤ c k) ∨ (r2 = c k ∧ c k ≤ r)) : Lms_ set c m (k + 1) r2 := by
  refine ⟨fun l l0 l1 lb => ?_, ?_⟩
  · by_cases e : l = k
    · subst e; omega
    · have := h.1 l l0 (by omega) lb; omega
  · rcases hr with ⟨a, b⟩ | ⟨a, b⟩
    · rcases h.2 with q | ⟨l, l0, l1, lb, le⟩
      · exact Or.inl (by omega)
      · exact Or.inr ⟨l, l0, by omega, lb, by omega⟩
    · exact Or.inr ⟨k, h0, by omega, hb, a⟩
theorem Lms_n {set m k r : Int} {c : Int → Int} (h : Lms_ set c m k r) (hb : bt_ set k.toNat = false) : Lms_ set c m (k + 1) r := by
  refine ⟨fun l l0 l1 lb => ?_, h.2.elim Or.inl (fun ⟨l, l0, l1, lb, le⟩ => Or.inr ⟨l, l0, by omega, lb, le⟩)⟩
  by_cases e : l = k
  · subst e; rw [hb] at lb; cases lb
  · exact h.1 l l0 (by omega) lb
theorem Lms_f {set m N r : Int} {c : Int → Int} (h : Lms_ set c m N r) (hc : ∀ l, 0 ≤ l → l < N → c l ≤ m) (hz : ∃ l, 0 ≤ l ∧ l < N ∧ bt_ set l.toNat = true) : Lm_ set c N r := by
  refine ⟨h.1, ?_⟩
  rcases h.2 with q | q
  · obtain ⟨l, l0, l1, lb⟩ := hz
    have a := h.1 l l0 l1 lb
    have b := hc l l0 l1
    exact ⟨l, l0, l1, lb, by omega⟩
  · exact q
/-- the wording that THE LAW has: dead at d, said as sa -/
def Lw_ (d : Int) (sa : Int → Int) (k z : Int) : Prop := (¬ d = -1 ∧ d ≤ k ∧ z = -1) ∨ (¬ (¬ d = -1 ∧ d ≤ k) ∧ ((z = -1 ∧ ∀ t, 0 ≤ t → t ≤ k → sa t < 0) ∨ (0 ≤ z ∧ ∃ t, 0 ≤ t ∧ t ≤ k ∧ z = sa t ∧ ∀ u, t < u → u ≤ k → sa u < 0)))
theorem Lw_det {d k z z2 : Int} {sa : Int → Int} (h : Lw_ d sa k z) (h2 : Lw_ d sa k z2) : z = z2 := by
  rcases h with ⟨a1, a2, a3⟩ | ⟨a1, ⟨a2, a3⟩ | ⟨a2, t, a3, a4, a5, a6⟩⟩ <;> rcases h2 with ⟨b1, b2, b3⟩ | ⟨b1, ⟨b2, b3⟩ | ⟨b2, u, b3, b4, b5, b6⟩⟩
  · omega
  · exact absurd ⟨a1, a2⟩ b1
  · exact absurd ⟨a1, a2⟩ b1
  · exact absurd ⟨b1, b2⟩ a1
  · omega
  · have := a3 u b3 b4; omega
  · exact absurd ⟨b1, b2⟩ a1
  · have := b3 t a3 a4; omega
  · rcases Int.lt_trichotomy t u with q | q | q
    · have := a6 u q b4; omega
    · subst q; omega
    · have := b6 t q a4; omega
theorem Lw_rg {d k z w : Int} {sa : Int → Int} (h : Lw_ d sa k z) (hw : 0 ≤ w) (hs : ∀ t, 0 ≤ t → t ≤ k → sa t < w) : -1 ≤ z ∧ z < w := by
  rcases h with ⟨a1, a2, a3⟩ | ⟨a1, ⟨a2, a3⟩ | ⟨a2, t, a3, a4, a5, a6⟩⟩
  · omega
  · omega
  · have := hs t a3 a4; omega
/-! ===== what reads tell ===== -/
def Of_ (w a0 a1 a2 a3 : Int) (O : Prop) (n5 a6 z : Int) : Prop := (w = 0 ∧ z = a0) ∨ (w = 1 ∧ z = a1) ∨ (w = 2 ∧ z = a2) ∨ (w = 3 ∧ z = a3) ∨ (w = 4 ∧ ((z = 1 ∧ O) ∨ (z = 0 ∧ ¬ O))) ∨ (w = 5 ∧ z = n5) ∨ (w = 6 ∧ ((z = 1 ∧ ¬ a6 = 0) ∨ (z = 0 ∧ a6 = 0))) ∨ (¬ (0 ≤ w ∧ w ≤ 6) ∧ z = -100)
theorem Of_det {w a0 a1 a2 a3 n5 a6 z b0 b1 b2 b3 m5 b6 z2 : Int} {O O2 : Prop} (h : Of_ w a0 a1 a2 a3 O n5 a6 z) (h2 : Of_ w b0 b1 b2 b3 O2 m5 b6 z2) (e0 : a0 = b0) (e1 : a1 = b1) (e2 : a2 = b2) (e3 : a3 = b3) (eO : O ↔ O2) (e5 : n5 = m5) (e6 : a6 = 0 ↔ b6 = 0) : z = z2 := by
  rcases h with ⟨a, b⟩ | ⟨a, b⟩ | ⟨a, b⟩ | ⟨a, b⟩ | ⟨a, b⟩ | ⟨a, b⟩ | ⟨a, b⟩ | ⟨a, b⟩ <;> rcases h2 with ⟨c, d⟩ | ⟨c, d⟩ | ⟨c, d⟩ | ⟨c, d⟩ | ⟨c, d⟩ | ⟨c, d⟩ | ⟨c, d⟩ | ⟨c, d⟩ <;> first | (exfalso; clear b d; omega) | omega | (rcases b with ⟨b1, b2⟩ | ⟨b1, b2⟩ <;> rcases d with ⟨d1, d2⟩ | ⟨d1, d2⟩ <;> first | omega | exact absurd (eO.1 b2) d2 | exact absurd (eO.2 d2) b2)
def Lo_ (w a0 a1 a2 a3 n4 : Int) (Q : Int → Prop) (a6 z : Int) : Prop := (w = 0 ∧ z = a0) ∨ (w = 1 ∧ ((z = 1 ∧ ¬ a1 = 0) ∨ (z = 0 ∧ a1 = 0))) ∨ (w = 2 ∧ z = a2) ∨ (w = 3 ∧ z = a3) ∨ (w = 4 ∧ z = n4) ∨ (w = 5 ∧ ∃ g, Bq_ g Q ∧ z = cn_ g) ∨ (w = 6 ∧ z = a6) ∨ (¬ (0 ≤ w ∧ w ≤ 6) ∧ z = -1)
theorem Lo_det {w a0 a1 a2 a3 n4 a6 z b0 b1 b2 b3 m4 b6 z2 : Int} {Q Q2 : Int → Prop} (h : Lo_ w a0 a1 a2 a3 n4 Q a6 z) (h2 : Lo_ w b0 b1 b2 b3 m4 Q2 b6 z2) (e0 : a0 = b0) (e1 : a1 = 0 ↔ b1 = 0) (e2 : a2 = b2) (e3 : a3 = b3) (e4 : n4 = m4) (eQ : ∀ i, 0 ≤ i → i < 32 → (Q i ↔ Q2 i)) (e6 : a6 = b6) : z = z2 := by
  rcases h with ⟨a, b⟩ | ⟨a, b⟩ | ⟨a, b⟩ | ⟨a, b⟩ | ⟨a, b⟩ | ⟨a, b⟩ | ⟨a, b⟩ | ⟨a, b⟩ <;> rcases h2 with ⟨c, d⟩ | ⟨c, d⟩ | ⟨c, d⟩ | ⟨c, d⟩ | ⟨c, d⟩ | ⟨c, d⟩ | ⟨c, d⟩ | ⟨c, d⟩ <;> first | (exfalso; clear b d; omega) | (obtain ⟨g, g1, g2⟩ := b; obtain ⟨k, k1, k2⟩ := d; rw [g2, k2]; exact Bq_cn (Bq_cg g1 eQ) k1) | omega
def Lk_ (w a0 a1 a2 a3 a4 a5 a6 a7 a8 a9 a10 z : Int) : Prop := (w = 0 ∧ z = a0) ∨ (w = 1 ∧ z = a1) ∨ (w = 2 ∧ z = a2) ∨ (w = 3 ∧ z = a3) ∨ (w = 4 ∧ z = a4) ∨ (w = 5 ∧ z = a5) ∨ (w = 6 ∧ z = a6) ∨ (w = 7 ∧ z = a7) ∨ (w = 8 ∧ z = a8) ∨ (w = 9 ∧ z = a9) ∨ (w = 10 ∧ z = a10) ∨ (¬ (0 ≤ w ∧ w ≤ 10) ∧ z = -2)
theorem Lk_det {w a0 a1 a2 a3 a4 a5 a6 a7 a8 a9 a10 z z2 : Int} (h : Lk_ w a0 a1 a2 a3 a4 a5 a6 a7 a8 a9 a10 z) (h2 : Lk_ w a0 a1 a2 a3 a4 a5 a6 a7 a8 a9 a10 z2) : z = z2 := by
  rcases h with ⟨a, b⟩ | ⟨a, b⟩ | ⟨a, b⟩ | ⟨a, b⟩ | ⟨a, b⟩ | ⟨a, b⟩ | ⟨a, b⟩ | ⟨a, b⟩ | ⟨a, b⟩ | ⟨a, b⟩ | ⟨a, b⟩ | ⟨a, b⟩ <;> rcases h2 with ⟨c, d⟩ | ⟨c, d⟩ | ⟨c, d⟩ | ⟨c, d⟩ | ⟨c, d⟩ | ⟨c, d⟩ | ⟨c, d⟩ | ⟨c, d⟩ | ⟨c, d⟩ | ⟨c, d⟩ | ⟨c, d⟩ | ⟨c, d⟩ <;> omega
def Ha_ (w a0 a1 a2 z : Int) : Prop := (w = 0 ∧ z = a0) ∨ (w = 1 ∧ z = a1) ∨ (w = 2 ∧ z = a2) ∨ (¬ (0 ≤ w ∧ w ≤ 2) ∧ z = -1)
/-- LINE l of the book is wrong -/
def Wr_ (b d : Int) (sa : Int → Int) (k : Int) : Prop := ¬ b = -1 ∧ ∃ z, Lw_ d sa k z ∧ ¬ b = z
theorem Wr_cg {b d k : Int} {sa sa2 : Int → Int} (h : ∀ t, 0 ≤ t → t ≤ k → sa2 t = sa t) : Wr_ b d sa k ↔ Wr_ b d sa2 k := by
  have key : ∀ {s s2 : Int → Int}, (∀ t, 0 ≤ t → t ≤ k → s2 t = s t) → Wr_ b d s k → Wr_ b d s2 k := fun {s s2} e ⟨a, z, c, q⟩ => by
    refine ⟨a, z, ?_, q⟩
    rcases c with c | ⟨c1, ⟨c2, c3⟩ | ⟨c2, t, c3, c4, c5, c6⟩⟩
    · exact Or.inl c
    · exact Or.inr ⟨c1, Or.inl ⟨c2, fun t t0 t1 => by rw [e t t0 t1]; exact c3 t t0 t1⟩⟩
    · exact Or.inr ⟨c1, Or.inr ⟨c2, t, c3, c4, by rw [e t c3 c4]; exact c5, fun u u0 u1 => by rw [e u (by omega) u1]; exact c6 u u0 u1⟩⟩
  exact ⟨key h, key (fun t t0 t1 => (h t t0 t1).symm)⟩
/-! ===== parts of a suit ===== -/
def dvi_ (a b : Int) : Int := (J a / J b).toInt
theorem dvi_of {a b z : Int} (r : inR z) (e : J z = J a / J b) : z = dvi_ a b := by
  unfold dvi_
  rw [← e]
  exact (J_toInt r).symm
/-- what each of c others has of m -/
def ea_ (m c : Int) : Int := if c = 0 then 0 else dvi_ (dvi_ m 2) c
theorem ea_0 {m c : Int} (h : c = 0) : ea_ m c = 0 := if_pos h
theorem ea_n {m c z1 z2 : Int} (h : ¬ c = 0) (r1 : inR z1) (e1 : J z1 = J m / J 2) (r2 : inR z2) (e2 : J z2 = J z1 / J c) : z2 = ea_ m c := by
  unfold ea_
  rw [if_neg h, ← dvi_of r1 e1]
  exact dvi_of r2 e2
/-- the part of r in m marks, of which p has what c others have not -/
def Ptq_ (m c p : Int) (K : Int → Prop) (r y : Int) : Prop := (r = p ∧ y = w32_ (m - ea_ m c * c)) ∨ (¬ r = p ∧ K r ∧ y = ea_ m c) ∨ (¬ r = p ∧ ¬ K r ∧ y = 0)
theorem Ptq_det {m c p r y y2 : Int} {K : Int → Prop} (h : Ptq_ m c p K r y) (h2 : Ptq_ m c p K r y2) : y = y2 := by
  rcases h with ⟨a, b⟩ | ⟨a, k, b⟩ | ⟨a, k, b⟩ <;> rcases h2 with ⟨c, d⟩ | ⟨c, k2, d⟩ | ⟨c, k2, d⟩ <;> first | exact absurd c a | exact absurd a c | exact absurd k k2 | exact absurd k2 k | exact b.trans d.symm
theorem Ptq_cg {m c p r y m2 c2 p2 : Int} {K K2 : Int → Prop} (h : Ptq_ m c p K r y) (em : m2 = m) (ec : c2 = c) (ep : p2 = p) (eK : K2 r ↔ K r) : Ptq_ m2 c2 p2 K2 r y := by
  subst em
  subst ec
  subst ep
  rcases h with ⟨a, b⟩ | ⟨a, k, b⟩ | ⟨a, k, b⟩
  · exact Or.inl ⟨a, b⟩
  · exact Or.inr (Or.inl ⟨a, eK.2 k, b⟩)
  · exact Or.inr (Or.inr ⟨a, fun q => k (eK.1 q), b⟩)
def Pv_ (g : Int) (K : Int → Prop) (r y : Int) : Prop := (K r ∧ y = g) ∨ (¬ K r ∧ y = 0)
theorem Ptq_o {m c p r y g : Int} {K : Int → Prop} (hr : ¬ r = p) (hg : g = ea_ m c) (h : Pv_ g K r y) : Ptq_ m c p K r y := by
  subst hg
  exact Or.inr (h.elim (fun q => Or.inl ⟨hr, q.1, q.2⟩) (fun q => Or.inr ⟨hr, q.1, q.2⟩))
theorem Ptq_p {m c p y g c2 : Int} {K : Int → Prop} (hc : c2 = c) (hg : g = ea_ m c2) (h : y = w32_ (m - g * c2)) : Ptq_ m c p K p y := by
  subst hc
  subst hg
  exact Or.inl ⟨rfl, h⟩
def Sf_ (w a0 a1 a2 a3 a4 a5 N : Int) (P : Int → Int → Prop) (z : Int) : Prop := (w = 0 ∧ z = a0) ∨ (w = 1 ∧ z = a1) ∨ (w = 2 ∧ z = a2) ∨ (w = 3 ∧ z = a3) ∨ (w = 4 ∧ z = a4) ∨ (w = 5 ∧ ((z = 1 ∧ ¬ a5 = 0) ∨ (z = 0 ∧ a5 = 0))) ∨ ((10 ≤ w ∧ w < N + 10) ∧ P (w - 10) z) ∨ ((¬ (0 ≤ w ∧ w ≤ 5) ∧ ¬ (10 ≤ w ∧ w < N + 10)) ∧ z = -1)
theorem Sf_det {w a0 a1 a2 a3 a4 a5 N b0 b1 b2 b3 b4 b5 M z z2 : Int} {P P2 : Int → Int → Prop} (h : Sf_ w a0 a1 a2 a3 a4 a5 N P z) (h2 : Sf_ w b0 b1 b2 b3 b4 b5 M P2 z2) (e0 : a0 = b0) (e1 : a1 = b1) (e2 : a2 = b2) (e3 : a3 = b3) (e4 : a4 = b4) (e5 : a5 = b5) (eN : N = M) (eP : ∀ r, 0 ≤ r → r < N → P r z → P2 r z2 → z = z2) : z = z2 := by
  rcases h with ⟨a, b⟩ | ⟨a, b⟩ | ⟨a, b⟩ | ⟨a, b⟩ | ⟨a, b⟩ | ⟨a, b⟩ | ⟨a, b⟩ | ⟨a, b⟩ <;> rcases h2 with ⟨c, d⟩ | ⟨c, d⟩ | ⟨c, d⟩ | ⟨c, d⟩ | ⟨c, d⟩ | ⟨c, d⟩ | ⟨c, d⟩ | ⟨c, d⟩ <;> first | (exfalso; clear b d; omega) | exact eP (w - 10) (by omega) (by omega) b d | omega
/-! ===== ones are how many bits ===== -/
theorem nq_sh {S : Int → Prop} : ∀ k : Nat, nq_ S (k + 1) = i1_ (S 0) + nq_ (fun i => S (i + 1)) k
  | 0 => by
    have h : nq_ S (0 + 1) = 0 + i1_ (S 0) := rfl
    have h2 : nq_ (fun i => S (i + 1)) 0 = 0 := rfl
    rw [h, h2]
    omega
  | k + 1 => by
    have h : nq_ S (k + 1 + 1) = nq_ S (k + 1) + i1_ (S ((k + 1 : Nat) : Int)) := rfl
    have h2 : nq_ (fun i => S (i + 1)) (k + 1) = nq_ (fun i => S (i + 1)) k + i1_ (S ((k : Int) + 1)) := rfl
    have h3 : ((k + 1 : Nat) : Int) = (k : Int) + 1 := by omega
    rw [h, h2, nq_sh k, h3]
    omega
theorem pp_nq : ∀ k n : Nat, (pp_ k n : Int) = nq_ (fun i => n.testBit i.toNat = true) k
  | 0, _ => rfl
  | k + 1, n => by
    have h1 : nq_ (fun i => n.testBit i.toNat = true) (k + 1) = i1_ (n.testBit (0 : Int).toNat = true) + nq_ (fun i => n.testBit (i + 1).toNat = true) k := nq_sh k
    have h2 : nq_ (fun i => n.testBit (i + 1).toNat = true) k = nq_ (fun i => (n / 2).testBit i.toNat = true) k := nq_cg k (fun p p0 p1 => by rw [show (p + 1).toNat = p.toNat + 1 by omega, Nat.testBit_succ])
    have h3 : pp_ (k + 1) n = n % 2 + pp_ k (n / 2) := rfl
    have h4 : i1_ (n.testBit (0 : Int).toNat = true) = ((n % 2 : Nat) : Int) := by
      rw [show (0 : Int).toNat = 0 from rfl, Nat.testBit_zero]
      rcases Nat.mod_two_eq_zero_or_one n with m | m
      · rw [m, i1_f (by decide)]; rfl
      · rw [m, i1_t (by decide)]; rfl
    rw [h1, h2, ← pp_nq k (n / 2), h3, h4]
    omega
