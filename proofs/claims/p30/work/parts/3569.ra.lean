def RA (T : Nat → Nat → Nat) (v : Nat → Nat → Int) (x : Nat) (n : Nat → Int) (f : Nat → Int → Int) : Prop := v 202 (T 182 x) = n 29 ∧ v 190 x = n 43 ∧ v 191 x = n 44 ∧ ∀ j, 0 ≤ j → j < n 23 → gC_ (v 303) (T 185 x) j = f 22 j
theorem RA_same {T T2 : Nat → Nat → Nat} {v v2 : Nat → Nat → Int} {x : Nat} {n n2 : Nat → Int} {f f2 : Nat → Int → Int} (h : RA T v x n f) (hs : v2 202 (T2 182 x) = v 202 (T 182 x)) (h0 : v2 190 x = v 190 x) (h1 : v2 191 x = v 191 x) (h5 : T2 185 x = T 185 x) (h3 : v2 303 = v 303) (g29 : n2 29 = n 29) (g43 : n2 43 = n 43) (g44 : n2 44 = n 44) (g23 : n2 23 ≤ n 23) (g22 : f2 22 = f 22) : RA T2 v2 x n2 f2 := by
  obtain ⟨a, b, c, d⟩ := h
  refine ⟨by rw [hs, a, g29], by rw [h0, b, g43], by rw [h1, c, g44], fun j j1 j2 => ?_⟩
  rw [h5, h3, g22]
  exact d j j1 (by omega)
theorem RA_feed {T : Nat → Nat → Nat} {v : Nat → Nat → Int} {x : Nat} {n : Nat → Int} {f : Nat → Int → Int} {v2 : Nat → Nat → Int} {n2 : Nat → Int} {f2 : Nat → Int → Int} {Y : Nat → Int} {G : Int → Int} {A B a b c d e z1 z2 : Int} (h : RA T v x n f) (ht : v 186 x = n 23) (hs : v2 202 (T 182 x) = v 202 (T 182 x)) (h0 : v2 190 x = v 190 x) (h1 : v2 191 x = v 191 x) (g29 : n2 29 = n 29) (g43 : n2 43 = n 43) (g44 : n2 44 = n 44) (h3 : v2 303 = Y) (g23 : n2 23 = B) (g22 : f2 22 = G)
    (hc : (z1 = -1 ∧ 380 < v 186 x ∧ A = v 186 x ∧ Y = v 303) ∨ (z1 = A ∧ v 186 x ≤ 380 ∧ A = v 186 x + 20 ∧ (∀ j_, v 186 x + 0 ≤ j_ → j_ < v 186 x + 4 → gC_ Y (T 185 x) j_ = by_ a (24 - 8 * (j_ - v 186 x))) ∧ (∀ j_, v 186 x + 4 ≤ j_ → j_ < v 186 x + 8 → gC_ Y (T 185 x) j_ = by_ b (24 - 8 * (j_ - v 186 x - 4))) ∧ (∀ j_, v 186 x + 8 ≤ j_ → j_ < v 186 x + 12 → gC_ Y (T 185 x) j_ = by_ c (24 - 8 * (j_ - v 186 x - 8))) ∧ (∀ j_, v 186 x + 12 ≤ j_ → j_ < v 186 x + 16 → gC_ Y (T 185 x) j_ = by_ d (24 - 8 * (j_ - v 186 x - 12))) ∧ (∀ j_, v 186 x + 16 ≤ j_ → j_ < v 186 x + 20 → gC_ Y (T 185 x) j_ = by_ e (24 - 8 * (j_ - v 186 x - 16))) ∧ (∀ j_, 0 ≤ j_ → j_ < v 186 x → gC_ Y (T 185 x) j_ = gC_ (v 303) (T 185 x) j_)))
    (hm : (z2 = -1 ∧ 380 < n 23 ∧ B = n 23 ∧ G = f 22) ∨ (z2 = B ∧ n 23 ≤ 380 ∧ B = n 23 + 20 ∧ (∀ j_, n 23 + 0 ≤ j_ → j_ < n 23 + 4 → G j_ = by_ a (24 - 8 * (j_ - n 23 - 0))) ∧ (∀ j_, n 23 + 4 ≤ j_ → j_ < n 23 + 8 → G j_ = by_ b (24 - 8 * (j_ - n 23 - 4))) ∧ (∀ j_, n 23 + 8 ≤ j_ → j_ < n 23 + 12 → G j_ = by_ c (24 - 8 * (j_ - n 23 - 8))) ∧ (∀ j_, n 23 + 12 ≤ j_ → j_ < n 23 + 16 → G j_ = by_ d (24 - 8 * (j_ - n 23 - 12))) ∧ (∀ j_, n 23 + 16 ≤ j_ → j_ < n 23 + 20 → G j_ = by_ e (24 - 8 * (j_ - n 23 - 16))) ∧ (∀ j_, j_ < n 23 → G j_ = f 22 j_))) : RA T v2 x n2 f2 := by
  rcases hc with ⟨-, c1, -, c2⟩ | ⟨-, c1, -, p1, p2, p3, p4, p5, p6⟩
  · rcases hm with ⟨-, m1, m2, m3⟩ | ⟨-, m1, -⟩
    · exact RA_same h hs h0 h1 rfl (h3.trans c2) g29 g43 g44 (by omega) (g22.trans m3)
    · exfalso; omega
  · rcases hm with ⟨-, m1, -⟩ | ⟨-, m1, m2, q1, q2, q3, q4, q5, q6⟩
    · exfalso; omega
    · obtain ⟨ha, hb, hc, hd⟩ := h
      refine ⟨by rw [hs, ha, g29], by rw [h0, hb, g43], by rw [h1, hc, g44], fun j j1 j2 => ?_⟩
      rw [h3, g22]
      rw [ht] at p1 p2 p3 p4 p5 p6
      rcases Int.lt_or_le j (n 23) with k | k
      · exact (p6 j j1 k).trans ((hd j j1 k).trans (q6 j k).symm)
      · have jb : j < n 23 + 20 := by omega
        by_cases k1 : j < n 23 + 4
        · exact (p1 j (by omega) k1).trans ((by congr 1 <;> omega : _ = _).trans (q1 j (by omega) k1).symm)
        · by_cases k2 : j < n 23 + 8
          · exact (p2 j (by omega) k2).trans (q2 j (by omega) k2).symm
          · by_cases k3 : j < n 23 + 12
            · exact (p3 j (by omega) k3).trans (q3 j (by omega) k3).symm
            · by_cases k4 : j < n 23 + 16
              · exact (p4 j (by omega) k4).trans (q4 j (by omega) k4).symm
              · exact (p5 j (by omega) jb).trans (q5 j (by omega) jb).symm
def Wx_ (K V P : Int → Int) (s0 s2 z k2 p2 : Int) (N : Prop) (A : (Int → Int) → (Int → Int) → Int → List Int → List Int → List Int → Prop) : Prop := (32 ≤ s0 ∧ z = -1 ∧ k2 = 0 ∧ p2 = -1 ∧ s2 = s0 ∧ N) ∨ (s0 < 32 ∧ ((z = s0 ∧ s2 = s0 + 1 ∧ k2 = 0 ∧ p2 = -1 ∧ ∃ (jn : Int) (a1 a2 a3 : List Int), 0 ≤ jn ∧ Ra_ K V 9 jn [a3, a2, a1] ∧ A K V jn a1 a2 a3) ∨ (z = -1 ∧ s2 = s0 ∧ (1 ≤ k2 ∧ k2 ≤ 3) ∧ (∃ jn : Int, p2 = P jn ∧ Rf_ K V k2 jn) ∧ N)))
theorem RA_gh {T : Nat → Nat → Nat} {v : Nat → Nat → Int} {x : Nat} {n : Nat → Int} {f : Nat → Int → Int} {s2 z k2 p2 : Int} {N : Prop} {A : (Int → Int) → (Int → Int) → Int → List Int → List Int → List Int → Prop} (h : RA T v x n f) (ht : v 186 x = n 23) (hc : Wc_ (gC_ (v 303) (T 185 x)) (v 186 x) (v 202 (T 182 x)) s2 z k2 p2 N A) : ∃ K V P Q : Int → Int, (n 29 < 32 → Strm_ (f 22) (n 23) K V P Q) ∧ Wx_ K V P (v 202 (T 182 x)) s2 z k2 p2 N A := by
  rcases hc with hc | ⟨h32, K, V, P, Q, hs, hc⟩
  · exact ⟨fun _ => 0, fun _ => 0, fun _ => 0, fun _ => 0, fun q => absurd q (by have := h.1; have := hc.1; omega), Or.inl hc⟩
  · rw [ht] at hs
    exact ⟨K, V, P, Q, fun _ => Strm_cg (fun i h0 h1 => (h.2.2.2 i h0 h1).symm) hs, Or.inr ⟨h32, hc⟩⟩
theorem RA_wor {T T2 : Nat → Nat → Nat} {v v2 : Nat → Nat → Int} {x : Nat} {n n2 : Nat → Int} {f f2 : Nat → Int → Int} {K V P : Int → Int} {z1 z2 X23 X29 X43 X44 s2 : Int} {N : Prop} {A : (Int → Int) → (Int → Int) → Int → List Int → List Int → List Int → Prop} {B : Int → Prop} {sg : List (List Int)} (h : RA T v x n f) (hs : v2 202 (T2 182 x) = s2) (g23 : n2 23 = X23) (g29 : n2 29 = X29) (g43 : n2 43 = X43) (g44 : n2 44 = X44) (hc : Wx_ K V P (v 202 (T 182 x)) s2 z1 (v2 190 x) (v2 191 x) N A)
    (hm0 : X23 = 0) (hm : (z2 = -1 ∧ X29 = n 29 ∧ ((n 29 = 32 ∧ X43 = 0 ∧ X44 = -1) ∨ (n 29 < 32 ∧ ∃ jn : Int, X44 = P jn ∧ (1 ≤ X43 ∧ X43 ≤ 3) ∧ Rf_ K V X43 jn))) ∨ (z2 = n 29 ∧ X29 = n 29 + 1 ∧ n 29 < 32 ∧ X43 = 0 ∧ X44 = -1 ∧ ∃ jn : Int, 0 ≤ jn ∧ Ra_ K V 9 jn sg ∧ B jn)) : z1 = z2 ∧ RA T2 v2 x n2 f2 := by
  have ha := h.1
  have tape : ∀ j, 0 ≤ j → j < n2 23 → gC_ (v2 303) (T2 185 x) j = f2 22 j := fun j j1 j2 => absurd j2 (by omega)
  rcases hm with ⟨m1, m2, ⟨m3, m4, m5⟩ | ⟨m3, jm, m4, m5, m6⟩⟩ | ⟨m1, m2, m3, m4, m5, jm, mj, m6, -⟩
  · rcases hc with ⟨c1, c2, c3, c4, c5, -⟩ | ⟨c1, -⟩
    · exact ⟨by omega, by omega, by omega, by omega, tape⟩
    · exfalso; omega
  · rcases hc with ⟨c1, -⟩ | ⟨c1, ⟨c2, c3, c4, c5, jc, a1, a2, a3, cj, c6, -⟩ | ⟨c2, c3, c4, ⟨jc, c5, c6⟩, -⟩⟩
    · exfalso; omega
    · exact absurd c6 (fun q => rd_dif m6 q m5.1)
    · have q := rd_det c6 m6 c4.1 m5.1
      have e1 := q.1
      have e2 : v2 191 x = X44 := by rw [c5, m4, q.2]
      exact ⟨by omega, by omega, by omega, by omega, tape⟩
  · rcases hc with ⟨c1, -⟩ | ⟨c1, ⟨c2, c3, c4, c5, -⟩ | ⟨c2, c3, c4, ⟨jc, c5, c6⟩, -⟩⟩
    · exfalso; omega
    · exact ⟨by omega, by omega, by omega, by omega, tape⟩
    · exact absurd m6 (fun q => rd_dif c6 q c4.1)
theorem RA_know {T : Nat → Nat → Nat} {v : Nat → Nat → Int} {x : Nat} {n : Nat → Int} {f : Nat → Int → Int} {p l w s z1 z2 : Int} (h : R2 T v x n f) (hs : v 202 (T 180 x) = n 2) (hl : v 202 (T 181 x) = n 12) (hA : RA T v x n f) (hc : (z1 = 0 ∧ (((p < 0 ∨ v 202 (T 180 x) ≤ p) ∨ ∃ y, T (1000 + p.toNat) (T 201 (T 180 x)) = y + 1 ∧ ¬ v 43 y = -1) ∨ ¬ (0 ≤ l ∧ l < v 202 (T 181 x) ∧ 0 ≤ w ∧ w < v 202 (T 182 x) ∧ 1 ≤ s ∧ s ≤ 9))) ∨ (z1 = 1 ∧ (∃ y, 0 ≤ p ∧ p < v 202 (T 180 x) ∧ T (1000 + p.toNat) (T 201 (T 180 x)) = y + 1 ∧ v 43 y = -1) ∧ 0 ≤ l ∧ l < v 202 (T 181 x) ∧ 0 ≤ w ∧ w < v 202 (T 182 x) ∧ 1 ≤ s ∧ s ≤ 9)) (hm : (z2 = 1 ∧ (0 ≤ p ∧ p < n 2 ∧ f 6 p = -1) ∧ (0 ≤ l ∧ l < n 12) ∧ (0 ≤ w ∧ w < n 29) ∧ (1 ≤ s ∧ s ≤ 9)) ∨ (z2 = 0 ∧ ¬ ((0 ≤ p ∧ p < n 2 ∧ f 6 p = -1) ∧ (0 ≤ l ∧ l < n 12) ∧ (0 ≤ w ∧ w < n 29) ∧ (1 ≤ s ∧ s ≤ 9)))) : z1 = z2 := by
  have ha := hA.1
  rcases hc with ⟨c1, c2⟩ | ⟨c1, ⟨y, c2⟩, c3⟩
  · rcases hm with ⟨m1, m2, m3⟩ | ⟨m1, m2⟩
    · rcases c2 with c2 | c2
      · exact absurd m2 (liv_no h hs c2)
      · exfalso; omega
    · omega
  · rcases hm with ⟨m1, m2⟩ | ⟨m1, m2⟩
    · omega
    · exact absurd ⟨liv_yes h hs c2, by omega, by omega, by omega⟩ m2
