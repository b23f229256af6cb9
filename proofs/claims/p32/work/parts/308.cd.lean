/-! ===== bits ===== -/
theorem su_amt : ∀ k : Fin 32, ((UInt32.mod ((J (k.val : Int)).toUInt32 &&& Int32.toUInt32 31) 32).toBitVec).toNat = k.val := by decide +kernel
theorem su_bv {set x z : Int} (e : J z = ((J set).toUInt32 >>> ((J x).toUInt32 &&& Int32.toUInt32 31)).toInt32) (hx : 0 ≤ x ∧ x < 32) : (J z).toBitVec = (J set).toBitVec >>> x.toNat := by
  have h1 : (J z).toBitVec = (J set).toBitVec >>> ((UInt32.mod ((J x).toUInt32 &&& Int32.toUInt32 31) 32).toBitVec).toNat := by rw [e]; rfl
  rw [h1]
  have h2 := su_amt ⟨x.toNat, by omega⟩
  have h3 : ((x.toNat : Nat) : Int) = x := by omega
  simp only [h3] at h2
  rw [h2]
theorem su_bit {set x z1 z2 : Int} (e1 : J z1 = ((J set).toUInt32 >>> ((J x).toUInt32 &&& Int32.toUInt32 31)).toInt32) (e2 : J z2 = J z1 &&& J 1) (hx : 0 ≤ x ∧ x < 32) (r2 : inR z2) : (z2 = 0 ∧ bt_ set x.toNat = false) ∨ (z2 = 1 ∧ bt_ set x.toNat = true) := by
  have h1 := su_bv e1 hx
  have hb : (J z1).toBitVec.getLsbD 0 = bt_ set x.toNat := by
    rw [h1, BitVec.getLsbD_ushiftRight]
    simp
    rfl
  have h2 : (J z2).toBitVec.toNat = (J z1).toBitVec.toNat % 2 := by
    have h3 : (J z2).toBitVec = (J z1).toBitVec &&& (J 1).toBitVec := by rw [e2]; rfl
    rw [h3, BitVec.toNat_and]
    have h4 : (J 1).toBitVec.toNat = 1 := by decide +kernel
    rw [h4, Nat.and_one_is_mod]
  have h5 : (J z1).toBitVec.getLsbD 0 = decide ((J z1).toBitVec.toNat % 2 = 1) := by
    show (J z1).toBitVec.toNat.testBit 0 = _
    rw [Nat.testBit_zero]
  rcases Nat.mod_two_eq_zero_or_one (J z1).toBitVec.toNat with m | m
  · left
    refine ⟨?_, ?_⟩
    · have : J z2 = J 0 := Int32.toBitVec.inj (BitVec.eq_of_toNat_eq (by rw [h2, m]; decide +kernel))
      exact (J_inj r2 inR0).mp this
    · rw [← hb, h5, m]; rfl
  · right
    refine ⟨?_, ?_⟩
    · have : J z2 = J 1 := Int32.toBitVec.inj (BitVec.eq_of_toNat_eq (by rw [h2, m]; decide +kernel))
      exact (J_inj r2 (rr (by decide))).mp this
    · rw [← hb, h5, m]; rfl
/-! ===== the ones of a number, as the JDK counts them ===== -/
theorem Jn_ {a : Int} (h : 0 ≤ a ∧ a < 2147483648) : (J a).toBitVec.toNat = a.toNat := by
  have h2 : (J a).toInt = a := J_toInt ⟨by omega, h.2⟩
  have h3 : (J a).toInt = (J a).toBitVec.toInt := rfl
  have h4 := BitVec.toInt_eq_toNat_cond (J a).toBitVec
  have h5 := (J a).toBitVec.isLt
  rw [h3, h4] at h2
  split at h2 <;> omega
theorem mk8_ {a c m M s : Nat} (ha : a < 2 ^ 8) (hm : m < 2 ^ (8 - s)) (hs : s ≤ 8) : ((2 ^ 8 * c + a) >>> s) &&& (2 ^ 8 * M + m) = 2 ^ 8 * ((c >>> s) &&& M) + ((a >>> s) &&& m) := by
  have hm8 : m < 2 ^ 8 := Nat.lt_of_lt_of_le hm (Nat.pow_le_pow_right (by decide) (by omega))
  have hb : (a >>> s) &&& m < 2 ^ 8 := Nat.lt_of_le_of_lt Nat.and_le_right hm8
  apply Nat.eq_of_testBit_eq
  intro j
  rw [Nat.testBit_and, Nat.testBit_shiftRight, Nat.testBit_two_pow_mul_add c ha, Nat.testBit_two_pow_mul_add M hm8, Nat.testBit_two_pow_mul_add _ hb]
  by_cases h : j < 8
  · rw [if_pos h, if_pos h, Nat.testBit_and, Nat.testBit_shiftRight]
    by_cases h2 : s + j < 8
    · rw [if_pos h2]
    · rw [Nat.testBit_lt_two_pow (x := m) (i := j) (Nat.lt_of_lt_of_le hm (Nat.pow_le_pow_right (by decide) (by omega))), Bool.and_false, Bool.and_false]
  · rw [if_neg h, if_neg h, if_neg (by omega), Nat.testBit_and, Nat.testBit_shiftRight, show s + j - 8 = s + (j - 8) by omega]
theorem mk8 {a c m M s : Nat} (ha : a < 256) (hm : m < 2 ^ (8 - s)) (hs : s ≤ 8) : ((256 * c + a) >>> s) &&& (256 * M + m) = 256 * ((c >>> s) &&& M) + ((a >>> s) &&& m) := mk8_ ha hm hs
def t8_ (b : Nat) : Nat := (b >>> 1) &&& 85
def d8_ (b : Nat) : Nat := ((b - t8_ b) &&& 51) + (((b - t8_ b) >>> 2) &&& 51)
theorem by8 : ∀ b : Fin 256, t8_ b.val ≤ b.val ∧ d8_ b.val % 16 ≤ 4 ∧ d8_ b.val / 16 ≤ 4 ∧ d8_ b.val % 16 + d8_ b.val / 16 = pp_ 8 b.val := by decide +kernel
theorem by8n {b : Nat} (h : b < 256) : t8_ b ≤ b ∧ d8_ b % 16 ≤ 4 ∧ d8_ b / 16 ≤ 4 ∧ d8_ b % 16 + d8_ b / 16 = pp_ 8 b := by8 ⟨b, h⟩
theorem pp_8 (k n : Nat) : pp_ (k + 8) n = pp_ 8 (n % 256) + pp_ k (n / 256) := by
  have h1 : pp_ (k + 8) n = n % 2 + (n / 2 % 2 + (n / 2 / 2 % 2 + (n / 2 / 2 / 2 % 2 + (n / 2 / 2 / 2 / 2 % 2 + (n / 2 / 2 / 2 / 2 / 2 % 2 + (n / 2 / 2 / 2 / 2 / 2 / 2 % 2 + (n / 2 / 2 / 2 / 2 / 2 / 2 / 2 % 2 + pp_ k (n / 2 / 2 / 2 / 2 / 2 / 2 / 2 / 2)))))))) := rfl
  have h2 : ∀ m : Nat, pp_ 8 m = m % 2 + (m / 2 % 2 + (m / 2 / 2 % 2 + (m / 2 / 2 / 2 % 2 + (m / 2 / 2 / 2 / 2 % 2 + (m / 2 / 2 / 2 / 2 / 2 % 2 + (m / 2 / 2 / 2 / 2 / 2 / 2 % 2 + (m / 2 / 2 / 2 / 2 / 2 / 2 / 2 % 2 + 0))))))) := fun _ => rfl
  have e : n / 2 / 2 / 2 / 2 / 2 / 2 / 2 / 2 = n / 256 := by omega
  have d0 : n % 256 % 2 = n % 2 := by omega
  have d1 : n % 256 / 2 % 2 = n / 2 % 2 := by omega
  have d2 : n % 256 / 2 / 2 % 2 = n / 2 / 2 % 2 := by omega
  have d3 : n % 256 / 2 / 2 / 2 % 2 = n / 2 / 2 / 2 % 2 := by omega
  have d4 : n % 256 / 2 / 2 / 2 / 2 % 2 = n / 2 / 2 / 2 / 2 % 2 := by omega
  have d5 : n % 256 / 2 / 2 / 2 / 2 / 2 % 2 = n / 2 / 2 / 2 / 2 / 2 % 2 := by omega
  have d6 : n % 256 / 2 / 2 / 2 / 2 / 2 / 2 % 2 = n / 2 / 2 / 2 / 2 / 2 / 2 % 2 := by omega
  have d7 : n % 256 / 2 / 2 / 2 / 2 / 2 / 2 / 2 % 2 = n / 2 / 2 / 2 / 2 / 2 / 2 / 2 % 2 := by omega
  rw [h1, h2, d0, d1, d2, d3, d4, d5, d6, d7, e]
  simp only [Nat.add_assoc, Nat.zero_add]
theorem pp_32 (n : Nat) (h : n < 4294967296) : pp_ 32 n = pp_ 8 (n % 256) + pp_ 8 (n / 256 % 256) + pp_ 8 (n / 65536 % 256) + pp_ 8 (n / 16777216) := by
  have a1 := pp_8 24 n
  have a2 := pp_8 16 (n / 256)
  have a3 := pp_8 8 (n / 256 / 256)
  rw [show n / 256 / 256 = n / 65536 by omega] at a2 a3
  rw [show n / 65536 / 256 = n / 16777216 by omega] at a3
  have e : (24 : Nat) + 8 = 32 := rfl
  rw [e] at a1
  rw [a1, a2, a3]
  simp only [Nat.add_assoc]
theorem nib_ {a c : Nat} (h1 : a % 16 ≤ 4) (h2 : a / 16 ≤ 4) : (a + a / 16 + 16 * c) % 16 = a % 16 + a / 16 := by omega
theorem nib0 {a : Nat} (h1 : a % 16 ≤ 4) (h2 : a / 16 ≤ 4) : (a + a / 16) % 16 = a % 16 + a / 16 := by omega
theorem bc_fin {A B C D y : Nat} (hA : A ≤ 8) (hB : B ≤ 8) (hC : C ≤ 8) (hD : D ≤ 8) (hy : y = 16777216 * A + 65536 * B + 256 * C + D) : (y + y / 2 ^ 8 + (y + y / 2 ^ 8) / 2 ^ 16) % 2 ^ 6 = D + C + B + A := by
  have h1 : y / 2 ^ 8 = 65536 * A + 256 * B + C := by
    show y / 256 = _
    omega
  have h2 : (y + y / 2 ^ 8) / 2 ^ 16 = 257 * A + B := by
    rw [h1, hy]
    show (16777216 * A + 65536 * B + 256 * C + D + (65536 * A + 256 * B + C)) / 65536 = _
    omega
  rw [h2, h1, hy]
  show (16777216 * A + 65536 * B + 256 * C + D + (65536 * A + 256 * B + C) + (257 * A + B)) % 64 = _
  omega
/-- the whole way, over naturals: the bytes b0 .. b3 -/
theorem bc_nat {b0 b1 b2 b3 x : Nat} (h0 : b0 < 256) (h1 : b1 < 256) (h2 : b2 < 256) (h3 : b3 < 256) (hx : x = 256 * (256 * (256 * b3 + b2) + b1) + b0) :
    ∃ y2 y3 : Nat, ((x - ((x >>> 1) &&& 1431655765)) &&& 858993459) + (((x - ((x >>> 1) &&& 1431655765)) >>> 2) &&& 858993459) = y2 ∧ (x >>> 1) &&& 1431655765 ≤ x ∧ y2 < 2147483648 ∧ (y2 + y2 >>> 4) &&& 252645135 = y3 ∧ y2 + y2 >>> 4 < 4294967296 ∧ y3 = 16777216 * pp_ 8 b3 + 65536 * pp_ 8 b2 + 256 * pp_ 8 b1 + pp_ 8 b0 ∧ pp_ 8 b0 ≤ 8 ∧ pp_ 8 b1 ≤ 8 ∧ pp_ 8 b2 ≤ 8 ∧ pp_ 8 b3 ≤ 8 := by
  obtain ⟨p0, q0, r0, s0⟩ := by8n h0
  obtain ⟨p1, q1, r1, s1⟩ := by8n h1
  obtain ⟨p2, q2, r2, s2⟩ := by8n h2
  obtain ⟨p3, q3, r3, s3⟩ := by8n h3
  have m1 : (1431655765 : Nat) = 256 * (256 * (256 * 85 + 85) + 85) + 85 := rfl
  have m2 : (858993459 : Nat) = 256 * (256 * (256 * 51 + 51) + 51) + 51 := rfl
  have m3 : (252645135 : Nat) = 256 * (256 * (256 * 15 + 15) + 15) + 15 := rfl
  have t : (x >>> 1) &&& 1431655765 = 256 * (256 * (256 * t8_ b3 + t8_ b2) + t8_ b1) + t8_ b0 := by
    rw [hx, m1, mk8 h0 (by decide) (by decide), mk8 h1 (by decide) (by decide), mk8 h2 (by decide) (by decide)]
    rfl
  have c : x - ((x >>> 1) &&& 1431655765) = 256 * (256 * (256 * (b3 - t8_ b3) + (b2 - t8_ b2)) + (b1 - t8_ b1)) + (b0 - t8_ b0) := by
    rw [t, hx]
    omega
  have k0 : b0 - t8_ b0 < 256 := by omega
  have k1 : b1 - t8_ b1 < 256 := by omega
  have k2 : b2 - t8_ b2 < 256 := by omega
  have u : (x - ((x >>> 1) &&& 1431655765)) &&& 858993459 = 256 * (256 * (256 * ((b3 - t8_ b3) &&& 51) + ((b2 - t8_ b2) &&& 51)) + ((b1 - t8_ b1) &&& 51)) + ((b0 - t8_ b0) &&& 51) := by
    have z : ∀ {a c m M : Nat}, a < 256 → m < 256 → (256 * c + a) &&& (256 * M + m) = 256 * (c &&& M) + (a &&& m) := fun ha hm => mk8 (s := 0) ha hm (by decide)
    rw [c, m2, z k0 (by decide), z k1 (by decide), z k2 (by decide)]
  have w : ((x - ((x >>> 1) &&& 1431655765)) >>> 2) &&& 858993459 = 256 * (256 * (256 * (((b3 - t8_ b3) >>> 2) &&& 51) + (((b2 - t8_ b2) >>> 2) &&& 51)) + (((b1 - t8_ b1) >>> 2) &&& 51)) + (((b0 - t8_ b0) >>> 2) &&& 51) := by
    rw [c, m2, mk8 k0 (by decide) (by decide), mk8 k1 (by decide) (by decide), mk8 k2 (by decide) (by decide)]
  have y : ((x - ((x >>> 1) &&& 1431655765)) &&& 858993459) + (((x - ((x >>> 1) &&& 1431655765)) >>> 2) &&& 858993459) = 256 * (256 * (256 * d8_ b3 + d8_ b2) + d8_ b1) + d8_ b0 := by
    rw [u, w]
    unfold d8_
    omega
  refine ⟨256 * (256 * (256 * d8_ b3 + d8_ b2) + d8_ b1) + d8_ b0, _, y, by rw [t, hx]; omega, by omega, rfl, ?_, ?_, by omega, by omega, by omega, by omega⟩
  · rw [Nat.shiftRight_eq_div_pow]
    omega
  · have e : (256 * (256 * (256 * d8_ b3 + d8_ b2) + d8_ b1) + d8_ b0) + (256 * (256 * (256 * d8_ b3 + d8_ b2) + d8_ b1) + d8_ b0) >>> 4 = 256 * (256 * (256 * (d8_ b3 + d8_ b3 / 16) + (d8_ b2 + d8_ b2 / 16 + 16 * (d8_ b3 % 16))) + (d8_ b1 + d8_ b1 / 16 + 16 * (d8_ b2 % 16))) + (d8_ b0 + d8_ b0 / 16 + 16 * (d8_ b1 % 16)) := by
      rw [Nat.shiftRight_eq_div_pow]
      omega
    have z : ∀ {a c m M : Nat}, a < 256 → m < 256 → (256 * c + a) &&& (256 * M + m) = 256 * (c &&& M) + (a &&& m) := fun ha hm => mk8 (s := 0) ha hm (by decide)
    have f : ∀ a : Nat, a &&& 15 = a % 16 := fun a => Nat.and_two_pow_sub_one_eq_mod a 4
    rw [e, m3, z (by omega) (by decide), z (by omega) (by decide), z (by omega) (by decide), f, f, f, f, nib_ q0 r0, nib_ q1 r1, nib_ q2 r2, nib0 q3 r3, s0, s1, s2, s3]
    clear e z f t c u w y m1 m2 m3 k0 k1 k2 hx
    omega
theorem us_n {a z : Int} {k : Nat} (e : J z = ((J a).toUInt32 >>> ((J (k : Int)).toUInt32 &&& Int32.toUInt32 31)).toInt32) (hk : k < 32) : (J z).toBitVec.toNat = (J a).toBitVec.toNat >>> k := by
  rw [su_bv e (by omega), BitVec.toNat_ushiftRight]
  rfl
theorem an_n {a b z : Int} (e : J z = J a &&& J b) (hb : 0 ≤ b ∧ b < 2147483648) : (J z).toBitVec.toNat = (J a).toBitVec.toNat &&& b.toNat := by
  rw [e, Int32.toBitVec_and, BitVec.toNat_and, Jn_ hb]
theorem ad_n {a b z : Int} (e : J z = J (a + b)) (h : (J a).toBitVec.toNat + (J b).toBitVec.toNat < 4294967296) : (J z).toBitVec.toNat = (J a).toBitVec.toNat + (J b).toBitVec.toNat := by
  have h2 : (J z).toBitVec = (J a).toBitVec + (J b).toBitVec := by rw [e, ← J_add]; rfl
  rw [h2, BitVec.toNat_add]
  exact Nat.mod_eq_of_lt h
theorem sb_n {a b z : Int} (e : J z = J (a - b)) (h : (J b).toBitVec.toNat ≤ (J a).toBitVec.toNat) : (J z).toBitVec.toNat = (J a).toBitVec.toNat - (J b).toBitVec.toNat := by
  have h2 : (J z).toBitVec = (J a).toBitVec - (J b).toBitVec := by rw [e, ← J_sub]; rfl
  have h3 := (J a).toBitVec.isLt
  rw [h2, BitVec.toNat_sub]
  omega
theorem bc_cn {a z1 z2 z3 z4 z5 z6 z7 z8 z9 z10 z11 z12 z13 z14 z15 : Int} (e1 : J z1 = ((J a).toUInt32 >>> ((J 1).toUInt32 &&& Int32.toUInt32 31)).toInt32) (e2 : J z2 = J z1 &&& J 1431655765) (e3 : J z3 = J (a - z2)) (e4 : J z4 = J z3 &&& J 858993459) (e5 : J z5 = ((J z3).toUInt32 >>> ((J 2).toUInt32 &&& Int32.toUInt32 31)).toInt32) (e6 : J z6 = J z5 &&& J 858993459) (e7 : J z7 = J (z4 + z6)) (e8 : J z8 = ((J z7).toUInt32 >>> ((J 4).toUInt32 &&& Int32.toUInt32 31)).toInt32) (e9 : J z9 = J (z7 + z8)) (e10 : J z10 = J z9 &&& J 252645135) (e11 : J z11 = ((J z10).toUInt32 >>> ((J 8).toUInt32 &&& Int32.toUInt32 31)).toInt32) (e12 : J z12 = J (z10 + z11)) (e13 : J z13 = ((J z12).toUInt32 >>> ((J 16).toUInt32 &&& Int32.toUInt32 31)).toInt32) (e14 : J z14 = J (z12 + z13)) (e15 : J z15 = J z14 &&& J 63) (r : inR z15) : z15 = cn_ a := by
  have lt := (J a).toBitVec.isLt
  have k1 := us_n (k := 1) e1 (by decide)
  have k2 := an_n e2 (by decide)
  rw [k1] at k2
  obtain ⟨y2, y3, c1, c2, c3, c4, c5, c6, v0, v1, v2, v3⟩ := bc_nat (b0 := (J a).toBitVec.toNat % 256) (b1 := (J a).toBitVec.toNat / 256 % 256) (b2 := (J a).toBitVec.toNat / 65536 % 256) (b3 := (J a).toBitVec.toNat / 16777216) (x := (J a).toBitVec.toNat) (by omega) (by omega) (by omega) (by omega) (by omega)
  have k2 : (J z2).toBitVec.toNat = (J a).toBitVec.toNat >>> 1 &&& 1431655765 := k2
  have k3 := sb_n e3 (by rw [k2]; exact c2)
  rw [k2] at k3
  have k4 : (J z4).toBitVec.toNat = (J z3).toBitVec.toNat &&& 858993459 := an_n e4 (by decide)
  have k5 := us_n (k := 2) e5 (by decide)
  have k6 : (J z6).toBitVec.toNat = (J z5).toBitVec.toNat &&& 858993459 := an_n e6 (by decide)
  rw [k3] at k4
  rw [k5, k3] at k6
  have s7 : (J z4).toBitVec.toNat + (J z6).toBitVec.toNat = y2 := by rw [k4, k6]; exact c1
  have k7 := ad_n e7 (by rw [s7]; omega)
  rw [s7] at k7
  have k8 := us_n (k := 4) e8 (by decide)
  rw [k7] at k8
  have k9 := ad_n e9 (by rw [k7, k8]; exact c5)
  rw [k7, k8] at k9
  have k10 : (J z10).toBitVec.toNat = (J z9).toBitVec.toNat &&& 252645135 := an_n e10 (by decide)
  rw [k9, c4] at k10
  have k11 := us_n (k := 8) e11 (by decide)
  rw [k10, Nat.shiftRight_eq_div_pow] at k11
  have k12 := ad_n e12 (by rw [k10, k11]; omega)
  rw [k10, k11] at k12
  have k13 := us_n (k := 16) e13 (by decide)
  rw [k12, Nat.shiftRight_eq_div_pow] at k13
  have k14 := ad_n e14 (by rw [k12, k13]; omega)
  rw [k12, k13] at k14
  have k15 : (J z15).toBitVec.toNat = (J z14).toBitVec.toNat &&& 63 := an_n e15 (by decide)
  rw [show (63 : Nat) = 2 ^ 6 - 1 by decide, Nat.and_two_pow_sub_one_eq_mod, k14] at k15
  have k16 := pp_32 _ lt
  have k17 : (J z15).toBitVec.toNat = pp_ 32 (J a).toBitVec.toNat := k15.trans ((bc_fin v3 v2 v1 v0 c6).trans k16.symm)
  have k18 := pp_le 32 (J a).toBitVec.toNat
  have h2 : (J z15).toInt = z15 := J_toInt r
  have h3 : (J z15).toInt = (J z15).toBitVec.toInt := rfl
  rw [h3, BitVec.toInt_eq_toNat_of_lt (by omega)] at h2
  unfold cn_
  omega
/-- a set of numbers below k -/
def Bs_ (g : Int) (Q : Int → Prop) (k : Int) : Prop := (∀ p, 0 ≤ p → p < k → (bt_ g p.toNat = true ↔ Q p)) ∧ (∀ p, k ≤ p → p < 32 → 0 ≤ p → bt_ g p.toNat = false)
theorem Bs_0 {Q : Int → Prop} : Bs_ 0 Q 0 := ⟨fun p h0 h1 => absurd h1 (by omega), fun p _ _ _ => bt_0 _⟩
theorem Bs_mv {g k k2 : Int} {Q Q2 : Int → Prop} (h : Bs_ g Q k) (hk : k = k2) (e : ∀ p, 0 ≤ p → p < k → (Q p ↔ Q2 p)) : Bs_ g Q2 k2 := by
  subst hk
  exact ⟨fun p h0 h1 => (h.1 p h0 h1).trans (e p h0 h1), h.2⟩
theorem Bs_up {g z z1 k : Int} {Q : Int → Prop} (h : Bs_ g Q k) (e1 : J z1 = J 1 <<< (J k &&& 31)) (e2 : J z = J g ||| J z1) (hk : 0 ≤ k ∧ k < 32) (hq : Q k) : Bs_ z Q (k + 1) := by
  refine ⟨fun p h0 h1 => ?_, fun p h0 h1 h2 => ?_⟩
  · rw [bt_set e1 e2 hk p.toNat (by omega)]
    by_cases e : p = k
    · subst e
      simp [hq]
    · rw [← h.1 p h0 (by omega), show decide (p.toNat = k.toNat) = false from decide_eq_false (by omega)]
      simp
  · rw [bt_set e1 e2 hk p.toNat (by omega), h.2 p (by omega) h1 h2, show decide (p.toNat = k.toNat) = false from decide_eq_false (by omega)]
    rfl
theorem Bs_no {g k : Int} {Q : Int → Prop} (h : Bs_ g Q k) (hk : 0 ≤ k ∧ k < 32) (hq : ¬ Q k) : Bs_ g Q (k + 1) := by
  refine ⟨fun p h0 h1 => ?_, fun p h0 h1 h2 => h.2 p (by omega) h1 h2⟩
  by_cases e : p = k
  · subst e
    rw [h.2 p (Int.le_refl p) hk.2 hk.1]
    exact ⟨fun q => absurd q (by decide), fun q => absurd q hq⟩
  · exact h.1 p h0 (by omega)
theorem Bs_cn {g k : Int} {Q : Int → Prop} (h : Bs_ g Q k) (h0 : 0 ≤ k) (h1 : k ≤ 32) : cn_ g = nq_ Q k.toNat := by
  have e1 : cn_ g = nq_ (fun i => bt_ g i.toNat = true) 32 := pp_nq 32 (J g).toBitVec.toNat
  have e2 : nq_ (fun i => bt_ g i.toNat = true) 32 = nq_ (fun i => bt_ g i.toNat = true) k.toNat := nq_tl2 h0 32 (fun l l0 l1 q => by rw [h.2 l l0 (by omega) (by omega)] at q; cases q) (by omega)
  rw [e1, e2]
  exact nq_cg _ (fun p p0 p1 => h.1 p p0 (by omega))
/-! ===== elements, views ===== -/
def pe_ (T : Nat → Nat → Nat) (k x : Nat) (i : Int) : Nat := ELn_ T k x i.toNat - 1
theorem pe_of {T : Nat → Nat → Nat} {k x y : Nat} {i : Int} (h : ELn_ T k x i.toNat = y + 1) : pe_ T k x i = y := by
  unfold pe_
  rw [h]
  rfl
def VC_ (T : Nat → Nat → Nat) (x : Nat) (y yb : Nat → Int) : Nat → Int → Int → Int := fun k i j => match k with
  | 0 => gC_ y (T 47 (pe_ T 180 x i)) j
  | 1 => gC_ y (T 46 (pe_ T 180 x i)) j
  | 2 => gC_ y (T 48 (pe_ T 180 x i)) j
  | _ => gC_ yb (T 26 (pe_ T 181 x i)) j
def CC_ (T : Nat → Nat → Nat) (x : Nat) (y22 y23 y24 y44 : Nat → Int) : Nat → Int → Int := fun k i => match k with
  | 0 => y22 (pe_ T 181 x i)
  | 1 => y23 (pe_ T 181 x i)
  | 2 => y24 (pe_ T 181 x i)
  | _ => y44 (pe_ T 180 x i)
def GC_ (T : Nat → Nat → Nat) (x : Nat) (y40 y41 y42 y43 y20 y21 yz y141 y143 y146 y144 : Nat → Int) : Nat → Int → Int := fun k i => match k with
  | 0 => y40 (pe_ T 180 x i)
  | 1 => y41 (pe_ T 180 x i)
  | 2 => y42 (pe_ T 180 x i)
  | 3 => y43 (pe_ T 180 x i)
  | 4 => y20 (pe_ T 181 x i)
  | 5 => y21 (pe_ T 181 x i)
  | 6 => gC_ yz (T 184 x) i
  | 7 => y141 (pe_ T 183 x i)
  | 8 => y143 (pe_ T 183 x i)
  | 9 => y146 (pe_ T 183 x i)
  | _ => y144 (pe_ T 183 x i)
def Ij_ (T : Nat → Nat → Nat) (k x : Nat) (n : Int) : Prop := ∀ i j : Nat, (i : Int) < n → (j : Int) < n → ELn_ T k x i = ELn_ T k x j → i = j
theorem pe_ne {T : Nat → Nat → Nat} {k x : Nat} {n i j : Int} (h : Ij_ T k x n) (hp : ∀ q : Int, 0 ≤ q → q < n → ∃ y, ELn_ T k x q.toNat = y + 1) (i0 : 0 ≤ i) (i1 : i < n) (j0 : 0 ≤ j) (j1 : j < n) (hn : ¬ i = j) : pe_ T k x i ≠ pe_ T k x j := fun e => hn (by
  obtain ⟨a, ha⟩ := hp i i0 i1
  obtain ⟨b, hb⟩ := hp j j0 j1
  rw [pe_of ha, pe_of hb] at e
  have := h i.toNat j.toNat (by omega) (by omega) (by rw [ha, hb, e])
  omega)
theorem dcd_e2 {a y : Nat} (h : dcd a = some y) : a = y + 1 := by
  unfold dcd at h
  split at h
  · cases h
  · have h2 := Option.some.inj h
    omega
theorem el_ex {D : va_G} {cy : Nat → ClassId} {T : Nat → Nat → Nat} {v : Nat → Nat → Int} {H : Heap} (hw : WC D cy T v H) {k x : Nat} (hL : T 0 (T k x) = 10) : ∀ q : Int, 0 ≤ q → q < v 202 (T k x) → ∃ y, ELn_ T k x q.toNat = y + 1 := fun q q0 q1 => by
  obtain ⟨y, hy, -⟩ := (hw.2.2.1 (T k x) hL).2.2 q.toNat (by omega)
  exact ⟨y, dcd_e2 hy⟩
theorem pe_ty {D : va_G} {cy : Nat → ClassId} {T : Nat → Nat → Nat} {v : Nat → Nat → Int} {H : Heap} (hw : WC D cy T v H) {k x t : Nat} (hL : T 0 (T k x) = 10) (ht : T 2 (T k x) = t) {q : Int} (q0 : 0 ≤ q) (q1 : q < v 202 (T k x)) : T 0 (pe_ T k x q) = t := by
  obtain ⟨y, hy, ty⟩ := (hw.2.2.1 (T k x) hL).2.2 q.toNat (by omega)
  rw [pe_of (show ELn_ T k x q.toNat = y + 1 from dcd_e2 hy), ty, ht]
/-! ===== counting, which is most ===== -/
theorem hc_rg {h : Int → Int} {S : Int → Prop} {wo : Int → Int} {k w : Int} (z : Hc_ h S wo k) (h0 : 0 ≤ w) (h1 : w < 32) (hk : 0 ≤ k) : 0 ≤ h w ∧ h w ≤ k := by
  rw [z w h0 h1]
  have := hd_rg (S := S) (wo := wo) (w := w) k.toNat
  omega
def Mow_ (h : Int → Int) (b m k : Int) : Prop := (b = -1 ∧ m = 0 ∧ ∀ w, 0 ≤ w → w < k → h w ≤ 0) ∨ ((0 ≤ b ∧ b < k) ∧ 0 < m ∧ m = h b ∧ ∀ w, 0 ≤ w → w < k → h w ≤ h b ∧ (w < b → h w < h b))
theorem Mow_0 {h : Int → Int} : Mow_ h (-1) 0 0 := Or.inl ⟨rfl, rfl, fun w h0 h1 => absurd h1 (by omega)⟩
theorem Mow_up {h : Int → Int} {b m k z z2 : Int} (q : Mow_ h b m k) (hk : 0 ≤ k) (hz : z = h k) (hz2 : z2 = h k) (hm : m < z) : Mow_ h k z2 (k + 1) := by
  subst hz
  subst hz2
  rcases q with ⟨q1, q2, q3⟩ | ⟨q1, q2, q3, q4⟩
  · refine Or.inr ⟨by omega, by omega, rfl, fun w w0 w1 => ?_⟩
    by_cases e : w = k
    · subst e; exact ⟨Int.le_refl _, fun c => absurd c (by omega)⟩
    · have := q3 w w0 (by omega); exact ⟨by omega, fun _ => by omega⟩
  · refine Or.inr ⟨by omega, by omega, rfl, fun w w0 w1 => ?_⟩
    by_cases e : w = k
    · subst e; exact ⟨Int.le_refl _, fun c => absurd c (by omega)⟩
    · have := (q4 w w0 (by omega)).1; exact ⟨by omega, fun _ => by omega⟩
theorem Mow_no {h : Int → Int} {b m k z : Int} (q : Mow_ h b m k) (hk : 0 ≤ k) (hz : z = h k) (hm : z ≤ m) : Mow_ h b m (k + 1) := by
  subst hz
  rcases q with ⟨q1, q2, q3⟩ | ⟨q1, q2, q3, q4⟩
  · refine Or.inl ⟨q1, q2, fun w w0 w1 => ?_⟩
    by_cases e : w = k
    · subst e; omega
    · exact q3 w w0 (by omega)
  · refine Or.inr ⟨by omega, q2, q3, fun w w0 w1 => ?_⟩
    by_cases e : w = k
    · subst e; exact ⟨by omega, fun c => absurd c (by omega)⟩
    · exact q4 w w0 (by omega)
theorem Mow_pk {h : Int → Int} {b m f z : Int} (q : Mow_ h b m 32) (hz : ((0 ≤ f ∧ f < 32 ∧ 0 < m ∧ h f = m) ∧ z = f) ∨ (¬ (0 ≤ f ∧ f < 32 ∧ 0 < m ∧ h f = m) ∧ z = b)) : Pkc_ h f z := by
  rcases q with ⟨q1, q2, q3⟩ | ⟨q1, q2, q3, q4⟩
  · exact Or.inl ⟨q3, by omega⟩
  · refine Or.inr ⟨b, ⟨⟨by omega, by omega⟩, q4⟩, by omega, ?_⟩
    rcases hz with ⟨a, e⟩ | ⟨a, e⟩
    · exact Or.inl ⟨⟨a.1, a.2.1, by omega⟩, e⟩
    · exact Or.inr ⟨fun c => a ⟨c.1, c.2.1, q2, by omega⟩, e⟩
theorem Hs_some {n : Nat} {S : Int → Prop} {wo qu h : Int → Int} {way p : Int} (z : Hs_ n S wo qu way h) (p0 : 0 ≤ p) (p1 : p < (n : Int)) (ps : S p) (hw : 0 ≤ wo p ∧ wo p < 32) (hq : 0 ≤ qu p ∧ qu p ≤ 3) : ∃ w, 0 ≤ w ∧ w < 32 ∧ 0 < h w := by
  have hn2 : ((n : Int)).toNat = n := by omega
  rcases z with ⟨a, z⟩ | ⟨a, gq, z1, z2⟩
  · refine ⟨wo p, hw.1, hw.2, ?_⟩
    have q := z (wo p) hw.1 hw.2
    rw [hn2] at q
    have q2 := hd_of (S := S) (wo := wo) n p p0 p1 ps rfl
    omega
  · have g := z1 (qu p) hq.1 (by omega) ⟨p, p0, p1, ps, rfl⟩
    refine ⟨gq (qu p), g.1.1, g.1.2, ?_⟩
    have q := z2 (gq (qu p)) g.1.1 g.1.2
    have q2 := hd_of (S := Qs_ n S qu) (wo := gq) (4 : Int).toNat (qu p) hq.1 (by show qu p < (4 : Int); omega) ⟨p, p0, p1, ps, rfl⟩ rfl
    omega
theorem Hs_who {n : Nat} {S : Int → Prop} {wo qu h : Int → Int} {way w : Int} (z : Hs_ n S wo qu way h) (w0 : 0 ≤ w) (w1 : w < 32) (hp : 0 < h w) : ∃ p, 0 ≤ p ∧ p < (n : Int) ∧ S p := by
  have hn2 : ((n : Int)).toNat = n := by omega
  rcases z with ⟨a, z⟩ | ⟨a, gq, z1, z2⟩
  · have q := z w w0 w1
    rw [hn2] at q
    rw [q] at hp
    obtain ⟨p, p0, p1, p2, -⟩ := hd_pos n hp
    exact ⟨p, p0, p1, p2⟩
  · have q := z2 w w0 w1
    rw [q] at hp
    obtain ⟨u, u0, u1, ⟨p, p0, p1, p2, -⟩, -⟩ := hd_pos _ hp
    exact ⟨p, p0, p1, p2⟩
/-- what stands, in the class's words -/
def Stw_ (N : Int) (S : Int → Prop) (wo qu : Int → Int) (way sp z : Int) : Prop := (z = -1 ∧ ∀ p, 0 ≤ p → p < N → ¬ S p) ∨ ((0 ≤ z ∧ z < 32) ∧ (∃ p, 0 ≤ p ∧ p < N ∧ S p) ∧ Sw_ N.toNat S wo qu way sp z)
theorem Stw_of {N : Int} {S : Int → Prop} {wo qu h : Int → Int} {way sp z : Int} (hN : 0 ≤ N) (hs : Hs_ N.toNat S wo qu way h) (hn : ¬ (way = 0 ∧ ¬ sp = -1)) (hp : Pkc_ h sp z) (hw : ∀ p, 0 ≤ p → p < N → S p → 0 ≤ wo p ∧ wo p < 32) (hq : ∀ p, 0 ≤ p → p < N → 0 ≤ qu p ∧ qu p ≤ 3) : Stw_ N S wo qu way sp z := by
  rcases hp with ⟨a, e⟩ | ⟨b, hb, hpos, h3⟩
  · refine Or.inl ⟨e, fun p p0 p1 ps => ?_⟩
    obtain ⟨w, w0, w1, w2⟩ := Hs_some hs p0 (by omega) ps (hw p p0 p1 ps) (hq p p0 p1)
    have := a w w0 w1
    omega
  · refine Or.inr ⟨?_, ?_, Sw_of hs hn (Or.inr ⟨b, hb, hpos, h3⟩)⟩
    · have b0 := hb.1
      rcases h3 with ⟨c, e⟩ | ⟨c, e⟩ <;> omega
    · obtain ⟨p, p0, p1, p2⟩ := Hs_who hs hb.1.1 hb.1.2 hpos
      exact ⟨p, p0, by omega, p2⟩
theorem Stw_own {N : Int} {S : Int → Prop} {wo qu : Int → Int} {way sp p : Int} (hway : way = 0) (p0 : 0 ≤ p) (p1 : p < N) (ps : S p) (e : sp = wo p) (hw : 0 ≤ wo p ∧ wo p < 32) : Stw_ N S wo qu way sp sp := Or.inr ⟨by omega, ⟨p, p0, p1, ps⟩, Sw_own hway (by omega)⟩
theorem spk_c {a b c : Prop} {s w z : Int} (ha : a) (hb : b) (hc : c) (hz : z = w) (hn : s ≤ 0 → w = -1) : z = spk_ (a ∧ b ∧ c ∧ 0 < s) w := by
  by_cases q : 0 < s
  · rw [spk_t ⟨ha, hb, hc, q⟩]; exact hz
  · rw [spk_f (fun h => q h.2.2.2), hz]; exact hn (by omega)
/-! bytes -/
theorem sv_a : ∀ k : Fin 256, (J ((k.val : Int) - 128)).toInt8.toInt32 = J ((k.val : Int) - 128) := by decide +kernel
theorem sv_b : ∀ k : Fin 256, vp_nar .byte (J ((k.val : Int) - 128)) = J ((k.val : Int) - 128) := by decide +kernel
theorem by_sv {w z1 z2 : Int} (e1 : J z1 = (J w).toInt8.toInt32) (e2 : J z2 = vp_nar .byte (J z1)) (r2 : inR z2) (h : -128 ≤ w ∧ w ≤ 127) : z2 = w := by
  have a := sv_a ⟨(w + 128).toNat, by omega⟩
  have b := sv_b ⟨(w + 128).toNat, by omega⟩
  have e : (((w + 128).toNat : Nat) : Int) - 128 = w := by omega
  simp only [e] at a b
  rw [e1, a, b] at e2
  exact (J_inj r2 (rr (by omega))).mp e2
theorem bo_s {w z2 : Int} (e2 : J z2 = vp_nar .boolean (J w)) (r2 : inR z2) (h : w = 0 ∨ w = 1) : z2 = w := by
  rw [show vp_nar .boolean (J w) = J w by rcases h with rfl | rfl <;> decide +kernel] at e2
  exact (J_inj r2 (by rcases h with rfl | rfl <;> exact ⟨by decide, by decide⟩)).mp e2
theorem by_s2 {w z2 : Int} (e2 : J z2 = vp_nar .byte (J w)) (r2 : inR z2) (h : -128 ≤ w ∧ w ≤ 127) : z2 = w := by
  have b := sv_b ⟨(w + 128).toNat, by omega⟩
  have e : (((w + 128).toNat : Nat) : Int) - 128 = w := by omega
  simp only [e] at b
  rw [b] at e2
  exact (J_inj r2 (rr (by omega))).mp e2
/-! one person's three rows at one line -/
def P3_ (T : Nat → Nat → Nat) (a : Nat) (l : Int) (y y2 : Nat → Int) : Prop := ∀ b i, ¬ ((b = T 46 a ∨ b = T 47 a ∨ b = T 48 a) ∧ i = l.toNat) → y2 (pr b i) = y (pr b i)
theorem P3_rf {T : Nat → Nat → Nat} {a : Nat} {l : Int} {y : Nat → Int} : P3_ T a l y y := fun _ _ _ => rfl
theorem P3_tr {T : Nat → Nat → Nat} {a : Nat} {l : Int} {y y2 y3 : Nat → Int} (h : P3_ T a l y y2) (h2 : P3_ T a l y2 y3) : P3_ T a l y y3 := fun b i q => (h2 b i q).trans (h b i q)
theorem P3_1 {T : Nat → Nat → Nat} {a : Nat} {l z : Int} {y : Nat → Int} : P3_ T a l y (upB y (pr (T 47 a) l.toNat) z) := fun b i q => upB_ne (fun e => q ⟨Or.inr (Or.inl (pr_inj e).1), (pr_inj e).2⟩)
theorem P3_3 {T : Nat → Nat → Nat} {a : Nat} {l w s o : Int} {y : Nat → Int} : P3_ T a l y (upB (upB (upB y (pr (T 46 a) l.toNat) w) (pr (T 47 a) l.toNat) s) (pr (T 48 a) l.toNat) o) := fun b i q => by
  rw [upB_ne (fun e => q ⟨Or.inr (Or.inr (pr_inj e).1), (pr_inj e).2⟩), upB_ne (fun e => q ⟨Or.inr (Or.inl (pr_inj e).1), (pr_inj e).2⟩), upB_ne (fun e => q ⟨Or.inl (pr_inj e).1, (pr_inj e).2⟩)]
/-- the three of a person are three -/
theorem p3_ne {T : Nat → Nat → Nat} (hT : WT T) {a : Nat} (ta : T 0 a = 2) : T 46 a ≠ T 47 a ∧ T 46 a ≠ T 48 a ∧ T 47 a ≠ T 48 a := ⟨ro_ne (wo_46 hT ta) (wo_47 hT ta) (by decide) (by decide) (by omega), ro_ne (wo_46 hT ta) (wo_48 hT ta) (by decide) (by decide) (by omega), ro_ne (wo_47 hT ta) (wo_48 hT ta) (by decide) (by decide) (by omega)⟩
theorem p3_v {T : Nat → Nat → Nat} (hT : WT T) {a : Nat} (ta : T 0 a = 2) {l w s o : Int} {y y2 : Nat → Int} (e : y2 = upB (upB (upB y (pr (T 46 a) l.toNat) w) (pr (T 47 a) l.toNat) s) (pr (T 48 a) l.toNat) o) : gC_ y2 (T 47 a) l = s ∧ gC_ y2 (T 46 a) l = w ∧ gC_ y2 (T 48 a) l = o := by
  obtain ⟨n1, n2, n3⟩ := p3_ne hT ta
  subst e
  refine ⟨?_, ?_, ?_⟩
  · rw [gC_up n3]; exact gC_us
  · rw [gC_up n2, gC_up n1]; exact gC_us
  · exact gC_us
