def EL_ (T : Nat → Nat → Nat) (x i : Nat) : Nat := T (1000 + i) (T 201 (T 180 x))
def R2 (T : Nat → Nat → Nat) (v : Nat → Nat → Int) (x : Nat) (n : Nat → Int) (f : Nat → Int → Int) : Prop := (∀ i j : Nat, (i : Int) < n 2 → (j : Int) < n 2 → EL_ T x i = EL_ T x j → i = j) ∧ (∀ i : Nat, (i : Int) < n 2 → ∀ y : Nat, EL_ T x i = y + 1 → v 40 y = f 3 i ∧ v 41 y = f 4 i ∧ v 42 y = f 5 i ∧ v 43 y = f 6 i ∧ v 44 y = f 7 i) ∧ (∀ j, n 2 ≤ j → f 7 j = 0)
theorem R2_same {T T2 : Nat → Nat → Nat} {v v2 : Nat → Nat → Int} {x : Nat} {n n2 : Nat → Int} {f f2 : Nat → Int → Int} (h : R2 T v x n f) (hE : ∀ i : Nat, EL_ T2 x i = EL_ T x i) (e40 : v2 40 = v 40) (e41 : v2 41 = v 41) (e42 : v2 42 = v 42) (e43 : v2 43 = v 43) (e44 : v2 44 = v 44) (hn : n2 2 = n 2) (g3 : f2 3 = f 3) (g4 : f2 4 = f 4) (g5 : f2 5 = f 5) (g6 : f2 6 = f 6) (g7 : f2 7 = f 7) : R2 T2 v2 x n2 f2 := by
  refine ⟨fun i j hi hj e => ?_, fun i hi y hy => ?_, fun j hj => ?_⟩
  · rw [hE, hE] at e
    exact h.1 i j (by omega) (by omega) e
  · rw [hE] at hy
    rw [e40, e41, e42, e43, e44, g3, g4, g5, g6, g7]
    exact h.2.1 i (by omega) y hy
  · rw [g7]
    exact h.2.2 j (by omega)
theorem R2_at {T : Nat → Nat → Nat} {v : Nat → Nat → Int} {x : Nat} {n : Nat → Int} {f : Nat → Int → Int} {p : Int} {y : Nat} (h : R2 T v x n f) (h0 : 0 ≤ p) (h1 : p < n 2) (hy : EL_ T x p.toNat = y + 1) : v 40 y = f 3 p ∧ v 41 y = f 4 p ∧ v 42 y = f 5 p ∧ v 43 y = f 6 p ∧ v 44 y = f 7 p := by
  have q := h.2.1 p.toNat (by omega) y hy
  have e : ((p.toNat : Nat) : Int) = p := by omega
  rw [e] at q
  exact q
theorem liv_no {T : Nat → Nat → Nat} {v : Nat → Nat → Int} {x : Nat} {n : Nat → Int} {f : Nat → Int → Int} {p : Int} (h : R2 T v x n f) (hs : v 202 (T 180 x) = n 2) (hc : (p < 0 ∨ v 202 (T 180 x) ≤ p) ∨ ∃ y, T (1000 + p.toNat) (T 201 (T 180 x)) = y + 1 ∧ ¬ v 43 y = -1) : ¬ (0 ≤ p ∧ p < n 2 ∧ f 6 p = -1) := by
  rintro ⟨h0, h1, h2⟩
  rcases hc with hc | ⟨y, hy, hd⟩
  · omega
  · have q := R2_at h h0 h1 hy
    exact hd (q.2.2.2.1.trans h2)
theorem liv_yes {T : Nat → Nat → Nat} {v : Nat → Nat → Int} {x : Nat} {n : Nat → Int} {f : Nat → Int → Int} {p : Int} {y : Nat} (h : R2 T v x n f) (hs : v 202 (T 180 x) = n 2) (hc : 0 ≤ p ∧ p < v 202 (T 180 x) ∧ T (1000 + p.toNat) (T 201 (T 180 x)) = y + 1 ∧ v 43 y = -1) : 0 ≤ p ∧ p < n 2 ∧ f 6 p = -1 := by
  obtain ⟨h0, h1, hy, hd⟩ := hc
  have q := R2_at (y := y) h h0 (by omega) hy
  exact ⟨h0, by omega, q.2.2.2.1.symm.trans hd⟩
theorem R2_dies {T : Nat → Nat → Nat} {v v2 : Nat → Nat → Int} {x : Nat} {n n2 : Nat → Int} {f f2 : Nat → Int → Int} {p z1 z2 : Int} {Y : Nat → Int} {G : Int → Int} (h : R2 T v x n f) (hs : v 202 (T 180 x) = n 2) (hw : v 187 x = n 1) (hn : n2 2 = n 2) (e40 : v2 40 = v 40) (e41 : v2 41 = v 41) (e42 : v2 42 = v 42) (e44 : v2 44 = v 44) (g3 : f2 3 = f 3) (g4 : f2 4 = f 4) (g5 : f2 5 = f 5) (g7 : f2 7 = f 7) (eY : v2 43 = Y) (eG : f2 6 = G)
    (hc : (z1 = 0 ∧ Y = v 43 ∧ ((p < 0 ∨ v 202 (T 180 x) ≤ p) ∨ ∃ y, T (1000 + p.toNat) (T 201 (T 180 x)) = y + 1 ∧ ¬ v 43 y = -1)) ∨ (z1 = 1 ∧ ∃ y, (0 ≤ p ∧ p < v 202 (T 180 x) ∧ T (1000 + p.toNat) (T 201 (T 180 x)) = y + 1 ∧ v 43 y = -1) ∧ Y = upB (v 43) y (v 187 x))) (hm : (z2 = 0 ∧ G = f 6 ∧ ¬ (0 ≤ p ∧ p < n 2 ∧ f 6 p = -1)) ∨ (z2 = 1 ∧ (0 ≤ p ∧ p < n 2 ∧ f 6 p = -1) ∧ G = upA (f 6) p (n 1))) : z1 = z2 ∧ R2 T v2 x n2 f2 := by
  rcases hc with ⟨c1, c2, c3⟩ | ⟨c1, y, c3⟩
  · rcases hm with ⟨m1, m2, m3⟩ | ⟨m1, m3⟩
    · exact ⟨by omega, R2_same h (fun _ => rfl) e40 e41 e42 (eY.trans c2) e44 hn g3 g4 g5 (eG.trans m2) g7⟩
    · exact absurd m3 (fun m4 => liv_no h hs c3 m4.1)
  · rcases hm with ⟨m1, m2, m3⟩ | ⟨m1, m3⟩
    · exact absurd c3 (fun c4 => m3 (liv_yes h hs c4.1))
    · refine ⟨by omega, fun i j hi hj e => h.1 i j (by omega) (by omega) e, fun i hi y2 hy2 => ?_, fun j hj => ?_⟩
      · have q := h.2.1 i (by omega) y2 hy2
        have hL := c3.1
        have hY : v2 43 = upB (v 43) y (v 187 x) := eY.trans c3.2
        have hG : f2 6 = upA (f 6) p (n 1) := eG.trans m3.2
        rw [e40, e41, e42, e44, g3, g4, g5, g7, hY, hG]
        by_cases ei : (i : Int) = p
        · have e2 : y2 = y := by
            have e3 : p.toNat = i := by omega
            have e4 : EL_ T x p.toNat = y + 1 := hL.2.2.1
            rw [e3, hy2] at e4
            omega
          rw [e2, upB_same, ei, upA_same]
          rw [e2, ei] at q
          exact ⟨q.1, q.2.1, q.2.2.1, hw, q.2.2.2.2⟩
        · have e2 : y2 ≠ y := fun e => ei (by
            have e4 : EL_ T x p.toNat = y + 1 := hL.2.2.1
            have e5 := h.1 i p.toNat (by omega) (by omega) (by rw [hy2, e4, e])
            omega)
          rw [upB_ne e2, upA_ne ei]
          exact q
      · rw [g7]; exact h.2.2 j (by omega)
theorem R2_away {T : Nat → Nat → Nat} {v v2 : Nat → Nat → Int} {x : Nat} {n n2 : Nat → Int} {f f2 : Nat → Int → Int} {p z1 z2 : Int} {Y : Nat → Int} {G : Int → Int} (h : R2 T v x n f) (hs : v 202 (T 180 x) = n 2)  (hn : n2 2 = n 2) (e40 : v2 40 = v 40) (e41 : v2 41 = v 41) (e42 : v2 42 = v 42) (e43 : v2 43 = v 43) (g3 : f2 3 = f 3) (g4 : f2 4 = f 4) (g5 : f2 5 = f 5) (g6 : f2 6 = f 6) (eY : v2 44 = Y) (eG : f2 7 = G)
    (hc : (z1 = 0 ∧ Y = v 44 ∧ (((p < 0 ∨ v 202 (T 180 x) ≤ p) ∨ ∃ y, T (1000 + p.toNat) (T 201 (T 180 x)) = y + 1 ∧ ¬ v 43 y = -1) ∨ ∃ y, T (1000 + p.toNat) (T 201 (T 180 x)) = y + 1 ∧ ¬ v 44 y = 0)) ∨ (z1 = 1 ∧ ∃ y, (0 ≤ p ∧ p < v 202 (T 180 x) ∧ T (1000 + p.toNat) (T 201 (T 180 x)) = y + 1 ∧ v 43 y = -1) ∧ v 44 y = 0 ∧ Y = upB (v 44) y 1)) (hm : (z2 = 0 ∧ G = f 7 ∧ (¬ (0 ≤ p ∧ p < n 2 ∧ f 6 p = -1) ∨ ¬ f 7 p = 0)) ∨ (z2 = 1 ∧ (0 ≤ p ∧ p < n 2 ∧ f 6 p = -1) ∧ f 7 p = 0 ∧ G = upA (f 7) p 1)) : z1 = z2 ∧ R2 T v2 x n2 f2 := by
  rcases hc with ⟨c1, c2, c3⟩ | ⟨c1, y, c3⟩
  · rcases hm with ⟨m1, m2, m3⟩ | ⟨m1, m3⟩
    · exact ⟨by omega, R2_same h (fun _ => rfl) e40 e41 e42 e43 (eY.trans c2) hn g3 g4 g5 g6 (eG.trans m2)⟩
    · exact absurd m3 (fun m4 => c3.elim (fun c => liv_no h hs c m4.1) (fun ⟨y, hy, hd⟩ => hd ((R2_at h m4.1.1 m4.1.2.1 hy).2.2.2.2.trans m4.2.1)))
  · rcases hm with ⟨m1, m2, m3⟩ | ⟨m1, m3⟩
    · exact absurd c3 (fun c4 => m3.elim (fun m => m (liv_yes h hs c4.1)) (fun m => m ((R2_at (y := y) h c4.1.1 (by have := c4.1.2.1; omega) c4.1.2.2.1).2.2.2.2.symm.trans c4.2.1)))
    · refine ⟨by omega, fun i j hi hj e => h.1 i j (by omega) (by omega) e, fun i hi y2 hy2 => ?_, fun j hj => ?_⟩
      · have q := h.2.1 i (by omega) y2 hy2
        have hL := c3.1
        have hY : v2 44 = upB (v 44) y 1 := eY.trans c3.2.2
        have hG : f2 7 = upA (f 7) p 1 := eG.trans m3.2.2
        rw [e40, e41, e42, e43, g3, g4, g5, g6, hY, hG]
        by_cases ei : (i : Int) = p
        · have e2 : y2 = y := by
            have e3 : p.toNat = i := by omega
            have e4 : EL_ T x p.toNat = y + 1 := hL.2.2.1
            rw [e3, hy2] at e4
            omega
          rw [e2, upB_same, ei, upA_same]
          rw [e2, ei] at q
          exact ⟨q.1, q.2.1, q.2.2.1, q.2.2.2.1, rfl⟩
        · have e2 : y2 ≠ y := fun e => ei (by
            have e4 : EL_ T x p.toNat = y + 1 := hL.2.2.1
            have e5 := h.1 i p.toNat (by omega) (by omega) (by rw [hy2, e4, e])
            omega)
          rw [upB_ne e2, upA_ne ei]
          exact q
      · have hG : f2 7 = upA (f 7) p 1 := eG.trans m3.2.2
        have hL := c3.1
        rw [hG, upA_ne (by omega)]; exact h.2.2 j (by omega)
theorem R2_spk {T : Nat → Nat → Nat} {v : Nat → Nat → Int} {x : Nat} {n : Nat → Int} {f : Nat → Int → Int} {p z1 z2 : Int} (h : R2 T v x n f) (hs : v 202 (T 180 x) = n 2) (hc : (z1 = 0 ∧ ¬ p = -1 ∧ ((p < 0 ∨ v 202 (T 180 x) ≤ p) ∨ ∃ y, T (1000 + p.toNat) (T 201 (T 180 x)) = y + 1 ∧ ¬ v 43 y = -1)) ∨ (z1 = 1 ∧ (p = -1 ∨ ∃ y, 0 ≤ p ∧ p < v 202 (T 180 x) ∧ T (1000 + p.toNat) (T 201 (T 180 x)) = y + 1 ∧ v 43 y = -1))) (hm : (z2 = 0 ∧ ¬ p = -1 ∧ ¬ (0 ≤ p ∧ p < n 2 ∧ f 6 p = -1)) ∨ (z2 = 1 ∧ (p = -1 ∨ (0 ≤ p ∧ p < n 2 ∧ f 6 p = -1)))) : z1 = z2 := by
  rcases hc with ⟨c1, c2, c3⟩ | ⟨c1, c2⟩
  · rcases hm with ⟨m1, m2, m3⟩ | ⟨m1, m2⟩
    · omega
    · exact absurd m2 (fun m => m.elim (fun e => c2 e) (liv_no h hs c3))
  · rcases hm with ⟨m1, m2, m3⟩ | ⟨m1, m2⟩
    · exact absurd c2 (fun c => c.elim (fun e => m2 e) (fun ⟨y, hy⟩ => m3 (liv_yes h hs hy)))
    · omega
theorem R2_sum {T : Nat → Nat → Nat} {v v2 : Nat → Nat → Int} {x : Nat} {n n2 : Nat → Int} {f f2 : Nat → Int → Int} {k : Int} {Y : Nat → Int} {G : Int → Int} (h : R2 T v x n f) (hs : v 202 (T 180 x) = n 2) (hw : v 187 x = n 1) (hn : n2 2 = n 2) (e40 : v2 40 = v 40) (e41 : v2 41 = v 41) (e42 : v2 42 = v 42) (e43 : v2 43 = v 43) (g3 : f2 3 = f 3) (g4 : f2 4 = f 4) (g5 : f2 5 = f 5) (g6 : f2 6 = f 6) (eY : v2 44 = Y) (eG : f2 7 = G)
    (hc : ((k < 1 ∨ 20 < k ∨ 199 < v 187 x + k) ∧ Y = v 44) ∨ ((1 ≤ k ∧ k ≤ 20 ∧ v 187 x + k ≤ 199) ∧ ∀ i : Nat, (i : Int) < v 202 (T 180 x) → ∀ y : Nat, T (1000 + i) (T 201 (T 180 x)) = y + 1 → Y y = 0)) (hm : ((k < 1 ∨ 20 < k ∨ 199 < n 1 + k) ∧ G = f 7) ∨ ((1 ≤ k ∧ k ≤ 20 ∧ n 1 + k ≤ 199) ∧ (∀ j, 0 ≤ j → j < n 2 → G j = 0) ∧ (∀ j, n 2 ≤ j → G j = f 7 j))) : R2 T v2 x n2 f2 := by
  rcases hc with ⟨c1, c2⟩ | ⟨c1, c2⟩
  · rcases hm with ⟨m1, m2⟩ | ⟨m1, m2⟩
    · exact R2_same h (fun _ => rfl) e40 e41 e42 e43 (eY.trans c2) hn g3 g4 g5 g6 (eG.trans m2)
    · exfalso; omega
  · rcases hm with ⟨m1, m2⟩ | ⟨m1, m2, m3⟩
    · exfalso; omega
    · refine ⟨fun i j hi hj e => h.1 i j (by omega) (by omega) e, fun i hi y hy => ?_, fun j hj => ?_⟩
      · have q := h.2.1 i (by omega) y hy
        rw [e40, e41, e42, e43, g3, g4, g5, g6, eY, eG, c2 i (by omega) y hy, m2 i (by omega) (by omega)]
        exact ⟨q.1, q.2.1, q.2.2.1, q.2.2.2.1, rfl⟩
      · rw [eG, m3 j (by omega)]
        exact h.2.2 j (by omega)
theorem R2_per {T T2 : Nat → Nat → Nat} {v v2 : Nat → Nat → Int} {x : Nat} {n n2 : Nat → Int} {f f2 : Nat → Int → Int} {qu fa bo : Int} {F3 F4 F5 F6 : Int → Int} {X : Int} (h : R2 T v x n f) (hs : v 202 (T 180 x) = n 2) (hw : v 187 x = n 1) (h0 : 0 ≤ n 2) (hX : n2 2 = X) (g3 : f2 3 = F3) (g4 : f2 4 = F4) (g5 : f2 5 = F5) (g6 : f2 6 = F6) (g7 : f2 7 = f 7)
    (hc : ((qu < 0 ∨ 3 < qu ∨ fa < 0 ∨ 7 < fa ∨ bo < -90 ∨ v 187 x < bo ∨ 24 ≤ v 202 (T 180 x)) ∧ (∀ i : Nat, EL_ T2 x i = EL_ T x i) ∧ v2 40 = v 40 ∧ v2 41 = v 41 ∧ v2 42 = v 42 ∧ v2 43 = v 43 ∧ v2 44 = v 44) ∨ ((0 ≤ qu ∧ qu ≤ 3 ∧ 0 ≤ fa ∧ fa ≤ 7 ∧ -90 ≤ bo ∧ bo ≤ v 187 x ∧ v 202 (T 180 x) < 24) ∧ ∃ q : Nat, (∀ i : Nat, (i : Int) < v 202 (T 180 x) → ∀ y : Nat, EL_ T x i = y + 1 → y ≠ q) ∧ (∀ i : Nat, (i : Int) < v 202 (T 180 x) → EL_ T2 x i = EL_ T x i) ∧ EL_ T2 x (v 202 (T 180 x)).toNat = q + 1 ∧ (∀ y : Nat, y ≠ q → v2 40 y = v 40 y ∧ v2 41 y = v 41 y ∧ v2 42 y = v 42 y ∧ v2 43 y = v 43 y ∧ v2 44 y = v 44 y) ∧ v2 40 q = qu ∧ v2 41 q = fa ∧ v2 42 q = bo ∧ v2 43 q = -1 ∧ v2 44 q = 0))
    (hm : ((qu < 0 ∨ 3 < qu ∨ fa < 0 ∨ 7 < fa ∨ bo < -90 ∨ n 1 < bo ∨ n 2 = 24) ∧ X = n 2 ∧ F3 = f 3 ∧ F4 = f 4 ∧ F5 = f 5 ∧ F6 = f 6) ∨ ((0 ≤ qu ∧ qu ≤ 3 ∧ 0 ≤ fa ∧ fa ≤ 7 ∧ -90 ≤ bo ∧ bo ≤ n 1 ∧ n 2 < 24) ∧ X = n 2 + 1 ∧ F3 = upA (f 3) (n 2) qu ∧ F4 = upA (f 4) (n 2) fa ∧ F5 = upA (f 5) (n 2) bo ∧ F6 = upA (f 6) (n 2) (-1))) : R2 T2 v2 x n2 f2 := by
  rcases hc with ⟨c1, c2, c3, c4, c5, c6, c7⟩ | ⟨c1, q, c2, c3, c4, c5, c6, c7, c8, c9, c10⟩
  · rcases hm with ⟨m1, m2, m3, m4, m5, m6⟩ | ⟨m1, m2, m3⟩
    · exact R2_same h c2 c3 c4 c5 c6 c7 (hX.trans m2) (g3.trans m3) (g4.trans m4) (g5.trans m5) (g6.trans m6) g7
    · exfalso; omega
  · rcases hm with ⟨m1, m2, m3⟩ | ⟨m1, m2, m3, m4, m5, m6⟩
    · exfalso; omega
    · have ez : (v 202 (T 180 x)).toNat = (n 2).toNat := by rw [hs]
      rw [ez] at c4
      have en : (((n 2).toNat : Nat) : Int) = n 2 := by omega
      have lt : ∀ i : Nat, (i : Int) < n2 2 → (i : Int) < n 2 ∨ i = (n 2).toNat := fun i hi => by omega
      have ne : ∀ i : Nat, (i : Int) < n 2 → EL_ T2 x i ≠ q + 1 := fun i hi e => by
        rw [c3 i (by omega)] at e
        exact c2 i (by omega) q e rfl
      refine ⟨fun i j hi hj e => ?_, fun i hi y hy => ?_, fun j hj => by rw [g7]; exact h.2.2 j (by omega)⟩
      · rcases lt i hi with a | a <;> rcases lt j hj with b | b
        · rw [c3 i (by omega), c3 j (by omega)] at e
          exact h.1 i j a b e
        · rw [b, c4] at e
          exact absurd e (ne i a)
        · rw [a, c4] at e
          exact absurd e.symm (ne j b)
        · omega
      · rw [g3.trans m3, g4.trans m4, g5.trans m5, g6.trans m6, g7]
        rcases lt i hi with a | a
        · have hy2 := hy
          rw [c3 i (by omega)] at hy2
          have nq := c2 i (by omega) y hy2
          obtain ⟨d1, d2, d3, d4, d5⟩ := c5 y nq
          rw [d1, d2, d3, d4, d5, upA_ne (by omega), upA_ne (by omega), upA_ne (by omega), upA_ne (by omega)]
          exact h.2.1 i a y hy2
        · rw [a, c4] at hy
          have e : y = q := by omega
          rw [e, a, en, upA_same, upA_same, upA_same, upA_same, h.2.2 (n 2) (Int.le_refl _)]
          exact ⟨c6, c7, c8, c9, c10⟩
