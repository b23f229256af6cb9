def ES_ (T : Nat → Nat → Nat) (x i : Nat) : Nat := T (1000 + i) (T 201 (T 183 x))
def R3 (T : Nat → Nat → Nat) (v : Nat → Nat → Int) (x : Nat) (n : Nat → Int) (f : Nat → Int → Int) : Prop := v 202 (T 183 x) = n 48 ∧ (∀ i j : Nat, (i : Int) < n 48 → (j : Int) < n 48 → ES_ T x i = ES_ T x j → i = j) ∧ (∀ i : Nat, (i : Int) < n 48 → ∀ y : Nat, ES_ T x i = y + 1 → v 146 y = f 54 i) ∧ (∀ j, 0 ≤ j → j < n 2 → -90 ≤ f 5 j)
theorem R3_same {T T2 : Nat → Nat → Nat} {v v2 : Nat → Nat → Int} {x : Nat} {n n2 : Nat → Int} {f f2 : Nat → Int → Int} (h : R3 T v x n f) (hs : v2 202 (T2 183 x) = v 202 (T 183 x)) (hE : ∀ i : Nat, ES_ T2 x i = ES_ T x i) (e146 : v2 146 = v 146) (hn : n2 48 = n 48) (g54 : f2 54 = f 54) (h2 : n2 2 = n 2) (g5 : f2 5 = f 5) : R3 T2 v2 x n2 f2 := by
  refine ⟨by rw [hs, hn]; exact h.1, fun i j hi hj e => ?_, fun i hi y hy => ?_, fun j h0 hj => ?_⟩
  · rw [hE, hE] at e
    exact h.2.1 i j (by omega) (by omega) e
  · rw [hE] at hy
    rw [e146, g54]
    exact h.2.2.1 i (by omega) y hy
  · rw [g5]
    exact h.2.2.2 j h0 (by omega)
theorem R3_per {T T2 : Nat → Nat → Nat} {v v2 : Nat → Nat → Int} {x : Nat} {n n2 : Nat → Int} {f f2 : Nat → Int → Int} {bo X : Int} {F5 : Int → Int} (h : R3 T v x n f) (hs : v2 202 (T2 183 x) = v 202 (T 183 x)) (hE : ∀ i : Nat, ES_ T2 x i = ES_ T x i) (e146 : v2 146 = v 146) (hn : n2 48 = n 48) (g54 : f2 54 = f 54) (hX : n2 2 = X) (g5 : f2 5 = F5) (hm : (X = n 2 ∧ F5 = f 5) ∨ (-90 ≤ bo ∧ X = n 2 + 1 ∧ F5 = upA (f 5) (n 2) bo)) : R3 T2 v2 x n2 f2 := by
  refine ⟨by rw [hs, hn]; exact h.1, fun i j hi hj e => ?_, fun i hi y hy => ?_, fun j h0 hj => ?_⟩
  · rw [hE, hE] at e
    exact h.2.1 i j (by omega) (by omega) e
  · rw [hE] at hy
    rw [e146, g54]
    exact h.2.2.1 i (by omega) y hy
  · rw [g5]
    rcases hm with ⟨m2, m5⟩ | ⟨m1, m2, m5⟩
    · rw [m5]
      exact h.2.2.2 j h0 (by omega)
    · rw [m5]
      by_cases e : j = n 2
      · rw [e, upA_same]
        exact m1
      · rw [upA_ne e]
        exact h.2.2.2 j h0 (by omega)
theorem R3_born {T : Nat → Nat → Nat} {v : Nat → Nat → Int} {x : Nat} {n : Nat → Int} {f : Nat → Int → Int} (h : R3 T v x n f) (h2R : R2 T v x n f) (hr3 : v 202 (T 180 x) = n 2) : ∀ i : Nat, (i : Int) < v 202 (T 180 x) → ∀ y : Nat, T (1000 + i) (T 201 (T 180 x)) = y + 1 → -90 ≤ v 42 y := by
  intro i hi y hy
  have q := h2R.2.1 i (by omega) y hy
  rw [q.2.2.1]
  exact h.2.2.2 i (by omega) (by omega)
theorem R3_at {T : Nat → Nat → Nat} {v : Nat → Nat → Int} {x : Nat} {n : Nat → Int} {f : Nat → Int → Int} {p : Int} {y : Nat} (h : R3 T v x n f) (h0 : 0 ≤ p) (h1 : p < n 48) (hy : ES_ T x p.toNat = y + 1) : v 146 y = f 54 p := by
  have q := h.2.2.1 p.toNat (by omega) y hy
  have e : ((p.toNat : Nat) : Int) = p := by omega
  rw [e] at q
  exact q
theorem R3_pay {T : Nat → Nat → Nat} {v v2 : Nat → Nat → Int} {x : Nat} {n n2 : Nat → Int} {f f2 : Nat → Int → Int} {i z1 z2 : Int} {Y : Nat → Int} {G : Int → Int} (h : R3 T v x n f) (hs : v2 202 (T 183 x) = v 202 (T 183 x)) (hn : n2 48 = n 48) (h2 : n2 2 = n 2) (g5 : f2 5 = f 5) (eY : v2 146 = Y) (eG : f2 54 = G)
    (hc : (z1 = 0 ∧ Y = v 146 ∧ ((i < 0 ∨ v 202 (T 183 x) ≤ i) ∨ ∃ y, T (1000 + i.toNat) (T 201 (T 183 x)) = y + 1 ∧ ¬ v 146 y = 0)) ∨ (z1 = 1 ∧ ∃ y, (0 ≤ i ∧ i < v 202 (T 183 x) ∧ T (1000 + i.toNat) (T 201 (T 183 x)) = y + 1) ∧ v 146 y = 0 ∧ Y = upB (v 146) y 1))
    (hm : (z2 = 0 ∧ G = f 54 ∧ ((i < 0 ∨ n 48 ≤ i) ∨ ¬ f 54 i = 0)) ∨ (z2 = 1 ∧ (0 ≤ i ∧ i < n 48) ∧ f 54 i = 0 ∧ G = upA (f 54) i 1)) : z1 = z2 ∧ R3 T v2 x n2 f2 := by
  have h1 := h.1
  rcases hc with ⟨c1, c2, c3⟩ | ⟨c1, y, ⟨ca, cb, cc⟩, cd, ce⟩
  · rcases hm with ⟨m1, m2, m3⟩ | ⟨m1, ⟨ma, mb⟩, mc, md⟩
    · exact ⟨by omega, R3_same h hs (fun _ => rfl) (eY.trans c2) hn (eG.trans m2) h2 g5⟩
    · exfalso
      rcases c3 with c3 | ⟨y, hy, hd⟩
      · omega
      · exact hd ((R3_at h ma mb hy).trans mc)
  · rcases hm with ⟨m1, m2, m3⟩ | ⟨m1, ⟨ma, mb⟩, mc, md⟩
    · exfalso
      rcases m3 with m3 | m3
      · omega
      · exact m3 ((R3_at (y := y) h ca (by omega) cc).symm.trans cd)
    · refine ⟨by omega, by rw [hs, hn]; exact h.1, fun i2 j hi hj e => h.2.1 i2 j (by omega) (by omega) e, fun i2 hi y2 hy2 => ?_, fun j h0 hj => by rw [g5]; exact h.2.2.2 j h0 (by omega)⟩
      have e4 : ES_ T x i.toNat = y + 1 := cc
      rw [eY, ce, eG, md]
      by_cases ei : (i2 : Int) = i
      · have e2 : y2 = y := by
          have e3 : i.toNat = i2 := by omega
          rw [e3, hy2] at e4
          omega
        rw [e2, upB_same, ei, upA_same]
      · have e2 : y2 ≠ y := fun e => ei (by
          have e5 := h.2.1 i2 i.toNat (by omega) (by omega) (by rw [hy2, e4, e])
          omega)
        rw [upB_ne e2, upA_ne ei]
        exact h.2.2.1 i2 (by omega) y2 hy2
theorem suit_no {T : Nat → Nat → Nat} {v : Nat → Nat → Int} {x : Nat} {n : Nat → Int} {f : Nat → Int → Int} {p r u a w d : Int} (h : R3 T v x n f) (h2R : R2 T v x n f) (hr3 : v 202 (T 180 x) = n 2) (hr4 : v 202 (T 181 x) = n 12) (hr2 : v 187 x = n 1) (hu : 0 ≤ n 48 ∧ n 48 ≤ 100) (hc : ((p < 0 ∨ v 202 (T 180 x) ≤ p) ∨ ∃ y, T (1000 + (p).toNat) (T 201 (T 180 x)) = y + 1 ∧ ¬ v 43 y = -1) ∨ ((r < 0 ∨ v 202 (T 180 x) ≤ r) ∨ ∃ y, T (1000 + (r).toNat) (T 201 (T 180 x)) = y + 1 ∧ ¬ v 43 y = -1) ∨ (p = r ∨ u < 0 ∨ v 202 (T 181 x) ≤ u ∨ 100 ≤ v 202 (T 183 x) ∨ d < 0 ∨ v 187 x < d) ∨ (∃ y, T (1000 + p.toNat) (T 201 (T 180 x)) = y + 1 ∧ d < v 42 y) ∨ (∃ y, T (1000 + r.toNat) (T 201 (T 180 x)) = y + 1 ∧ (d < v 42 y ∨ ¬ (0 ≤ a ∧ a ≤ 99 ∧ 0 ≤ w ∧ w ≤ 9 ∧ v 187 x - d ≤ 299 ∧ -99 ≤ d - v 42 y ∧ d - v 42 y ≤ 299)))) : ¬ (0 ≤ p ∧ p < n 2 ∧ f 6 p = -1) ∨ ¬ (0 ≤ r ∧ r < n 2 ∧ f 6 r = -1) ∨ p = r ∨ u < 0 ∨ n 12 ≤ u ∨ d < 0 ∨ n 1 < d ∨ d < f 5 p ∨ d < f 5 r ∨ n 48 = 100 ∨ ¬ (0 ≤ a ∧ a ≤ 99 ∧ 0 ≤ w ∧ w ≤ 9 ∧ n 1 - d ≤ 299 ∧ -99 ≤ d - f 5 r ∧ d - f 5 r ≤ 299) := by
  have h1 := h.1
  rcases hc with c | c | c | ⟨y, hy, c⟩ | ⟨y, hy, c⟩
  · exact Or.inl (liv_no h2R hr3 c)
  · exact Or.inr (Or.inl (liv_no h2R hr3 c))
  · omega
  · by_cases hp : 0 ≤ p ∧ p < n 2
    · have q := (R2_at (y := y) h2R hp.1 hp.2 hy).2.2.1
      omega
    · omega
  · by_cases hp : 0 ≤ r ∧ r < n 2
    · have q := (R2_at (y := y) h2R hp.1 hp.2 hy).2.2.1
      omega
    · omega
theorem suit_yes {T : Nat → Nat → Nat} {v : Nat → Nat → Int} {x : Nat} {n : Nat → Int} {f : Nat → Int → Int} {p r u a w d : Int} (h : R3 T v x n f) (h2R : R2 T v x n f) (hr3 : v 202 (T 180 x) = n 2) (hr4 : v 202 (T 181 x) = n 12) (hr2 : v 187 x = n 1) (hu : 0 ≤ n 48 ∧ n 48 ≤ 100) (hc : ∃ y1 y2 : Nat, (0 ≤ p ∧ p < v 202 (T 180 x) ∧ T (1000 + (p).toNat) (T 201 (T 180 x)) = y1 + 1 ∧ v 43 y1 = -1) ∧ (0 ≤ r ∧ r < v 202 (T 180 x) ∧ T (1000 + (r).toNat) (T 201 (T 180 x)) = y2 + 1 ∧ v 43 y2 = -1) ∧ ¬ p = r ∧ 0 ≤ u ∧ u < v 202 (T 181 x) ∧ v 202 (T 183 x) < 100 ∧ 0 ≤ d ∧ d ≤ v 187 x ∧ v 42 y1 ≤ d ∧ v 42 y2 ≤ d ∧ 0 ≤ a ∧ a ≤ 99 ∧ 0 ≤ w ∧ w ≤ 9 ∧ v 187 x - d ≤ 299 ∧ -99 ≤ d - v 42 y2 ∧ d - v 42 y2 ≤ 299) : (0 ≤ p ∧ p < n 2 ∧ f 6 p = -1) ∧ (0 ≤ r ∧ r < n 2 ∧ f 6 r = -1) ∧ ¬ p = r ∧ 0 ≤ u ∧ u < n 12 ∧ 0 ≤ d ∧ d ≤ n 1 ∧ f 5 p ≤ d ∧ f 5 r ≤ d ∧ n 48 < 100 ∧ 0 ≤ a ∧ a ≤ 99 ∧ 0 ≤ w ∧ w ≤ 9 ∧ n 1 - d ≤ 299 ∧ -99 ≤ d - f 5 r ∧ d - f 5 r ≤ 299 := by
  have h1 := h.1
  obtain ⟨y1, y2, ca, cb, c⟩ := hc
  have q1 := (R2_at (y := y1) h2R ca.1 (by have := ca.2.1; omega) ca.2.2.1).2.2.1
  have q2 := (R2_at (y := y2) h2R cb.1 (by have := cb.2.1; omega) cb.2.2.1).2.2.1
  exact ⟨liv_yes h2R hr3 ca, liv_yes h2R hr3 cb, by omega⟩
theorem R3_suit {T T2 : Nat → Nat → Nat} {v v2 : Nat → Nat → Int} {x : Nat} {n n2 : Nat → Int} {f f2 : Nat → Int → Int} {p r u a w d z1 z2 X : Int} {G : Int → Int} (h : R3 T v x n f) (h2R : R2 T v x n f) (hr3 : v 202 (T 180 x) = n 2) (hr4 : v 202 (T 181 x) = n 12) (hr2 : v 187 x = n 1) (hu : 0 ≤ n 48 ∧ n 48 ≤ 100) (h2 : n2 2 = n 2) (g5 : f2 5 = f 5) (hT : T2 183 x = T 183 x) (hX : n2 48 = X) (eG : f2 54 = G)
    (hc : (z1 = -1 ∧ (((p < 0 ∨ v 202 (T 180 x) ≤ p) ∨ ∃ y, T (1000 + (p).toNat) (T 201 (T 180 x)) = y + 1 ∧ ¬ v 43 y = -1) ∨ ((r < 0 ∨ v 202 (T 180 x) ≤ r) ∨ ∃ y, T (1000 + (r).toNat) (T 201 (T 180 x)) = y + 1 ∧ ¬ v 43 y = -1) ∨ (p = r ∨ u < 0 ∨ v 202 (T 181 x) ≤ u ∨ 100 ≤ v 202 (T 183 x) ∨ d < 0 ∨ v 187 x < d) ∨ (∃ y, T (1000 + p.toNat) (T 201 (T 180 x)) = y + 1 ∧ d < v 42 y) ∨ (∃ y, T (1000 + r.toNat) (T 201 (T 180 x)) = y + 1 ∧ (d < v 42 y ∨ ¬ (0 ≤ a ∧ a ≤ 99 ∧ 0 ≤ w ∧ w ≤ 9 ∧ v 187 x - d ≤ 299 ∧ -99 ≤ d - v 42 y ∧ d - v 42 y ≤ 299)))) ∧ v2 202 (T 183 x) = v 202 (T 183 x) ∧ (∀ i : Nat, ES_ T2 x i = ES_ T x i) ∧ v2 146 = v 146) ∨ (z1 = v 202 (T 183 x) ∧ (∃ y1 y2 : Nat, (0 ≤ p ∧ p < v 202 (T 180 x) ∧ T (1000 + (p).toNat) (T 201 (T 180 x)) = y1 + 1 ∧ v 43 y1 = -1) ∧ (0 ≤ r ∧ r < v 202 (T 180 x) ∧ T (1000 + (r).toNat) (T 201 (T 180 x)) = y2 + 1 ∧ v 43 y2 = -1) ∧ ¬ p = r ∧ 0 ≤ u ∧ u < v 202 (T 181 x) ∧ v 202 (T 183 x) < 100 ∧ 0 ≤ d ∧ d ≤ v 187 x ∧ v 42 y1 ≤ d ∧ v 42 y2 ≤ d ∧ 0 ≤ a ∧ a ≤ 99 ∧ 0 ≤ w ∧ w ≤ 9 ∧ v 187 x - d ≤ 299 ∧ -99 ≤ d - v 42 y2 ∧ d - v 42 y2 ≤ 299) ∧ v2 202 (T 183 x) = v 202 (T 183 x) + 1 ∧ ∃ q : Nat, (∀ i : Nat, (i : Int) < v 202 (T 183 x) → ∀ y : Nat, ES_ T x i = y + 1 → y ≠ q) ∧ (∀ i : Nat, (i : Int) < v 202 (T 183 x) → ES_ T2 x i = ES_ T x i) ∧ ES_ T2 x (v 202 (T 183 x)).toNat = q + 1 ∧ (∀ y : Nat, y ≠ q → v2 146 y = v 146 y) ∧ v2 146 q = 0))
    (hm : (z2 = -1 ∧ (¬ (0 ≤ p ∧ p < n 2 ∧ f 6 p = -1) ∨ ¬ (0 ≤ r ∧ r < n 2 ∧ f 6 r = -1) ∨ p = r ∨ u < 0 ∨ n 12 ≤ u ∨ d < 0 ∨ n 1 < d ∨ d < f 5 p ∨ d < f 5 r ∨ n 48 = 100 ∨ ¬ (0 ≤ a ∧ a ≤ 99 ∧ 0 ≤ w ∧ w ≤ 9 ∧ n 1 - d ≤ 299 ∧ -99 ≤ d - f 5 r ∧ d - f 5 r ≤ 299)) ∧ X = n 48 ∧ G = f 54) ∨ (z2 = n 48 ∧ ((0 ≤ p ∧ p < n 2 ∧ f 6 p = -1) ∧ (0 ≤ r ∧ r < n 2 ∧ f 6 r = -1) ∧ ¬ p = r ∧ 0 ≤ u ∧ u < n 12 ∧ 0 ≤ d ∧ d ≤ n 1 ∧ f 5 p ≤ d ∧ f 5 r ≤ d ∧ n 48 < 100 ∧ 0 ≤ a ∧ a ≤ 99 ∧ 0 ≤ w ∧ w ≤ 9 ∧ n 1 - d ≤ 299 ∧ -99 ≤ d - f 5 r ∧ d - f 5 r ≤ 299) ∧ X = n 48 + 1 ∧ G = upA (f 54) (n 48) 0)) : z1 = z2 ∧ R3 T2 v2 x n2 f2 := by
  have h1 := h.1
  rcases hc with ⟨c1, c2, c3, c4, c5⟩ | ⟨c1, c2, c3, q, k1, k2, k3, k4, k5⟩
  · have cn := suit_no h h2R hr3 hr4 hr2 hu c2
    rcases hm with ⟨m1, m2, m3, m4⟩ | ⟨m1, m2, m3, m4⟩
    · exact ⟨by omega, R3_same h (by rw [hT]; exact c3) c4 c5 (hX.trans m3) (eG.trans m4) h2 g5⟩
    · exfalso
      omega
  · have cy := suit_yes h h2R hr3 hr4 hr2 hu c2
    rcases hm with ⟨m1, m2, m3, m4⟩ | ⟨m1, m2, m3, m4⟩
    · exfalso
      omega
    · have ez : (v 202 (T 183 x)).toNat = (n 48).toNat := by rw [h1]
      rw [ez] at k3
      have en : (((n 48).toNat : Nat) : Int) = n 48 := by omega
      have lt : ∀ i : Nat, (i : Int) < n2 48 → (i : Int) < n 48 ∨ i = (n 48).toNat := fun i hi => by omega
      have ne : ∀ i : Nat, (i : Int) < n 48 → ES_ T2 x i ≠ q + 1 := fun i hi e => by
        rw [k2 i (by omega)] at e
        exact k1 i (by omega) q e rfl
      refine ⟨by omega, by rw [hT]; omega, fun i j hi hj e => ?_, fun i hi y hy => ?_, fun j h0 hj => by rw [g5]; exact h.2.2.2 j h0 (by omega)⟩
      · rcases lt i hi with a1 | a1 <;> rcases lt j hj with b1 | b1
        · rw [k2 i (by omega), k2 j (by omega)] at e
          exact h.2.1 i j a1 b1 e
        · rw [b1, k3] at e
          exact absurd e (ne i a1)
        · rw [a1, k3] at e
          exact absurd e.symm (ne j b1)
        · omega
      · rw [eG, m4]
        rcases lt i hi with a1 | a1
        · have hy2 := hy
          rw [k2 i (by omega)] at hy2
          rw [k4 y (k1 i (by omega) y hy2), upA_ne (by omega)]
          exact h.2.2.1 i a1 y hy2
        · rw [a1, k3] at hy
          have e : y = q := by omega
          rw [e, a1, en, upA_same]
          exact k5
