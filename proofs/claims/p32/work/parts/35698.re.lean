section Re
variable {D : va_G} {cy : Nat → ClassId} {H : Heap} {T T2 : Nat → Nat → Nat} {v v2 : Nat → Nat → Int} {x : Nat} {n n2 : Nat → Int} {f f2 : Nat → Int → Int} {ks : List Nat} {sz : Nat}
theorem Cx_of (hw : WC D cy T v H) (hx : T 0 x = 9) (hsz : H.size = sz) (s0 : v 202 (T 180 x) = n 2) (s1 : v 202 (T 181 x) = n 12) (s3 : v 202 (T 183 x) = n 48) (hC : ∀ b, b < sz → T 0 b ≠ 10 → T 0 b ≠ 24 → T 0 b ≠ 26 → b ≠ x → ∀ j, j ≠ 197 → T2 j b = T j b) (e0 : ∀ i : Nat, (i : Int) < n 2 → ELn_ T2 180 x i = ELn_ T 180 x i) (e1 : ∀ i : Nat, (i : Int) < n 12 → ELn_ T2 181 x i = ELn_ T 181 x i) (e3 : ∀ i : Nat, (i : Int) < n 48 → ELn_ T2 183 x i = ELn_ T 183 x i) : Cx_ D cy H T T2 v x n := by
  subst hsz
  exact ⟨hw, hx, s0, s1, s3, hC, e0, e1, e3⟩
/-! a person more -/
theorem RD_per {qu fa bo z1 z2 X : Int} {F8 : Int → Int} (hw : WC D cy T v H) (hx : T 0 x = 9) (hsz : H.size = sz) (s0 : v 202 (T 180 x) = n 2) (s1 : v 202 (T 181 x) = n 12) (s3 : v 202 (T 183 x) = n 48) (hC : ∀ b, b < sz → T 0 b ≠ 10 → T 0 b ≠ 24 → T 0 b ≠ 26 → b ≠ x → ∀ j, j ≠ 197 → T2 j b = T j b) (he181 : ∀ i : Nat, ELn_ T2 181 x i = ELn_ T 181 x i) (he183 : ∀ i : Nat, ELn_ T2 183 x i = ELn_ T 183 x i) (hnow : v 187 x = n 1) (h0 : 0 ≤ n 2) (hk : KdA_ T sz ks (v 300) (v2 300)) (nk : 46 ∉ ks ∧ 47 ∉ ks ∧ 48 ∉ ks) (hX : n2 2 = X) (g8 : f2 8 = F8) (g19 : f2 19 = f 19) (g20 : f2 20 = f 20) (g21 : f2 21 = f 21) (hst : Stz_ (f 19) (n 2) (n 12))
    (hc : (z1 = -1 ∧ (qu < 0 ∨ 3 < qu ∨ fa < 0 ∨ 7 < fa ∨ bo < -90 ∨ v 187 x < bo ∨ 24 ≤ v 202 (T 180 x)) ∧ v2 202 (T 180 x) = v 202 (T 180 x) ∧ (∀ i_ : Nat, T2 (1000 + i_) (T2 201 (T2 180 x)) = T (1000 + i_) (T 201 (T 180 x))) ∧ v2 40 = v 40 ∧ v2 41 = v 41 ∧ v2 42 = v 42 ∧ v2 43 = v 43 ∧ v2 44 = v 44 ∧ v2 45 = v 45) ∨ (z1 = v 202 (T 180 x) ∧ (0 ≤ qu ∧ qu ≤ 3 ∧ 0 ≤ fa ∧ fa ≤ 7 ∧ -90 ≤ bo ∧ bo ≤ v 187 x ∧ v 202 (T 180 x) < 24) ∧ v2 202 (T 180 x) = v 202 (T 180 x) + 1 ∧ ∃ q_ : Nat, (∀ i_ : Nat, (i_ : Int) < v 202 (T 180 x) → ∀ y_ : Nat, T (1000 + i_) (T 201 (T 180 x)) = y_ + 1 → y_ ≠ q_) ∧ (∀ i_ : Nat, (i_ : Int) < v 202 (T 180 x) → T2 (1000 + i_) (T2 201 (T2 180 x)) = T (1000 + i_) (T 201 (T 180 x))) ∧ T2 (1000 + (v 202 (T 180 x)).toNat) (T2 201 (T2 180 x)) = q_ + 1 ∧ (∀ y : Nat, y ≠ q_ → v2 40 y = v 40 y ∧ v2 41 y = v 41 y ∧ v2 42 y = v 42 y ∧ v2 43 y = v 43 y ∧ v2 44 y = v 44 y) ∧ v2 40 q_ = qu ∧ v2 41 q_ = fa ∧ v2 42 q_ = bo ∧ v2 43 q_ = -1 ∧ v2 44 q_ = 0 ∧ (∀ y : Nat, y ≠ q_ → v2 45 y = v 45 y) ∧ v2 45 q_ = -1 ∧ (∀ j_ : Int, 0 ≤ j_ → j_ < 24 → gC_ (v2 300) (T2 46 q_) j_ = -1 ∧ gC_ (v2 300) (T2 47 q_) j_ = 0 ∧ gC_ (v2 300) (T2 48 q_) j_ = -1)))
    (hm : (z2 = -1 ∧ (qu < 0 ∨ 3 < qu ∨ fa < 0 ∨ 7 < fa ∨ bo < -90 ∨ n 1 < bo ∨ n 2 = 24) ∧ X = n 2 ∧ F8 = f 8) ∨ (z2 = n 2 ∧ (0 ≤ qu ∧ qu ≤ 3 ∧ 0 ≤ fa ∧ fa ≤ 7 ∧ -90 ≤ bo ∧ bo ≤ n 1 ∧ n 2 < 24) ∧ X = n 2 + 1 ∧ F8 = upA (f 8) (n 2) (-1))) (h : D1_ T v x n f) (h7 : D7_ T v x n f) : Cx_ D cy H T T2 v x n ∧ D1_ T2 v2 x n2 f2 ∧ D7_ T2 v2 x n2 f2 := by
  rcases hc with ⟨-, c1, -, c2, -, -, -, -, -, c3⟩ | ⟨-, c1, -, q, c2, c3, c4, -, -, -, -, -, -, c5, c6, c7⟩
  · rcases hm with ⟨-, m1, m2, m3⟩ | ⟨-, m1, -⟩
    · have c := Cx_of hw hx hsz s0 s1 s3 hC (fun i _ => c2 i) (fun i _ => he181 i) (fun i _ => he183 i)
      have hk2 : KdA_ T H.size ks (v 300) (v2 300) := by rw [hsz]; exact hk
      exact ⟨c, D1_mk c hk2 nk (hX.trans m2) g19 g20 g21 h, D7_mk c c3 (hX.trans m2) (g8.trans m3) h7⟩
    · exfalso; omega
  · rcases hm with ⟨-, m1, -⟩ | ⟨-, m1, m2, m3⟩
    · exfalso; omega
    · have c := Cx_of hw hx hsz s0 s1 s3 hC (fun i hi => c3 i (by omega)) (fun i _ => he181 i) (fun i _ => he183 i)
      have hk2 : KdA_ T H.size ks (v 300) (v2 300) := by rw [hsz]; exact hk
      have eq : pe_ T2 180 x (n 2) = q := pe_of (show ELn_ T2 180 x (n 2).toNat = q + 1 by rw [← s0]; exact c4)
      refine ⟨c, fun p l p0 p1 l0 l1 => ?_, fun p p0 p1 => ?_⟩
      · rw [hX, m2] at p1
        rw [g19, g20, g21]
        by_cases e : p = n 2
        · subst e
          have z := hst.2 (n 2) l h0 l0 l1 (Or.inl (Int.le_refl _))
          obtain ⟨a, b, d⟩ := c7 l l0 l1
          rw [eq, a, b, d, nz_f (by omega), nz_f (by omega)]
          exact ⟨z.symm, rfl, rfl⟩
        · obtain ⟨a, b, d⟩ := pr_row c hk2 nk p0 (show p < n 2 by omega)
          rw [a, b, d]
          exact h p l p0 (by omega) l0 l1
      · rw [hX, m2] at p1
        rw [g8, m3]
        by_cases e : p = n 2
        · subst e
          rw [eq, upA_same]; exact c6
        · rw [upA_ne e, pe_mk c.2.2.2.2.2.2.1 p0 (show p < n 2 by omega)]
          obtain ⟨y, hy⟩ := el_ex hw (wt_180 hw.2.1 hx) p p0 (by omega)
          have ny := c2 p.toNat (by omega) y hy
          rw [pe_of hy, c5 y ny, ← pe_of hy]
          exact h7 p p0 (by omega)
/-! a line more -/
theorem RD_lin {s ve z1 z2 X : Int} {F13 F14 F16 F18 : Int → Int} (hw : WC D cy T v H) (hx : T 0 x = 9) (hsz : H.size = sz) (s0 : v 202 (T 180 x) = n 2) (s1 : v 202 (T 181 x) = n 12) (s3 : v 202 (T 183 x) = n 48) (hC : ∀ b, b < sz → T 0 b ≠ 10 → T 0 b ≠ 24 → T 0 b ≠ 26 → b ≠ x → ∀ j, j ≠ 197 → T2 j b = T j b) (he180 : ∀ i : Nat, ELn_ T2 180 x i = ELn_ T 180 x i) (he183 : ∀ i : Nat, ELn_ T2 183 x i = ELn_ T 183 x i) (h0 : 0 ≤ n 12) (hX : n2 12 = X) (g13 : f2 13 = F13) (g14 : f2 14 = F14) (g15 : f2 15 = f 15) (g16 : f2 16 = F16) (g17 : f2 17 = f 17) (g18 : f2 18 = F18) (hsl : Sil_ (f 15) (f 16) (f 17) (n 12))
    (hc : (z1 = -1 ∧ (s < 0 ∨ 2 < s ∨ 24 ≤ v 202 (T 181 x)) ∧ v2 202 (T 181 x) = v 202 (T 181 x) ∧ (∀ i_ : Nat, T2 (1000 + i_) (T2 201 (T2 181 x)) = T (1000 + i_) (T 201 (T 181 x))) ∧ v2 25 = v 25 ∧ v2 20 = v 20 ∧ v2 21 = v 21 ∧ v2 22 = v 22 ∧ v2 23 = v 23 ∧ v2 24 = v 24 ∧ v2 302 = v 302) ∨ (z1 = v 202 (T 181 x) ∧ (0 ≤ s ∧ s ≤ 2 ∧ v 202 (T 181 x) < 24) ∧ v2 202 (T 181 x) = v 202 (T 181 x) + 1 ∧ ∃ q_ : Nat, sz ≤ q_ ∧ (∀ i_ : Nat, (i_ : Int) < v 202 (T 181 x) → T2 (1000 + i_) (T2 201 (T2 181 x)) = T (1000 + i_) (T 201 (T 181 x))) ∧ T2 (1000 + (v 202 (T 181 x)).toNat) (T2 201 (T2 181 x)) = q_ + 1 ∧ (∀ y : Nat, y ≠ q_ → v2 25 y = v 25 y) ∧ v2 25 q_ = -1 ∧ (∀ y : Nat, y ≠ q_ → v2 20 y = v 20 y ∧ v2 21 y = v 21 y ∧ v2 22 y = v 22 y ∧ v2 23 y = v 23 y ∧ v2 24 y = v 24 y) ∧ v2 20 q_ = s ∧ v2 21 q_ = ve ∧ v2 22 q_ = 0 ∧ v2 23 q_ = -1 ∧ v2 24 q_ = 0 ∧ (∀ b_ i_ : Nat, b_ < sz → v2 302 (pr b_ i_) = v 302 (pr b_ i_)) ∧ (∀ j_ : Int, 0 ≤ j_ → j_ < 200 → gC_ (v2 302) (T2 26 q_) j_ = -2)))
    (hm : (z2 = -1 ∧ (s < 0 ∨ 2 < s ∨ n 12 = 24) ∧ X = n 12 ∧ F18 = f 18 ∧ F13 = f 13 ∧ F14 = f 14 ∧ F16 = f 16) ∨ (z2 = n 12 ∧ (0 ≤ s ∧ s ≤ 2 ∧ n 12 < 24) ∧ X = n 12 + 1 ∧ ((∀ t, 0 ≤ t → t < 200 → F18 (200 * n 12 + t) = -2) ∧ (∀ i, i < 200 * n 12 → F18 i = f 18 i)) ∧ F13 = upA (f 13) (n 12) s ∧ F14 = upA (f 14) (n 12) ve ∧ F16 = upA (f 16) (n 12) (-1))) (h2 : D2_ T v x n f) (h3 : D3_ T v x n f) : Cx_ D cy H T T2 v x n ∧ D2_ T2 v2 x n2 f2 ∧ D3_ T2 v2 x n2 f2 := by
  rcases hc with ⟨-, c1, -, c2, -, c3, c4, c5, c6, c7, c8⟩ | ⟨-, c1, -, q, cq, c2, c3, -, -, c4, c5, c6, c7, c8, c9, c10, c11⟩
  · rcases hm with ⟨-, m1, m2, m3, m4, m5, m6⟩ | ⟨-, m1, -⟩
    · have c := Cx_of hw hx hsz s0 s1 s3 hC (fun i _ => he180 i) (fun i _ => c2 i) (fun i _ => he183 i)
      exact ⟨c, D2_mk c c8 (hX.trans m2) (g18.trans m3) h2, D3_mk c c3 c4 c5 c6 c7 (hX.trans m2) (g13.trans m4) (g14.trans m5) g15 (g16.trans m6) g17 h3⟩
    · exfalso; omega
  · rcases hm with ⟨-, m1, -⟩ | ⟨-, m1, m2, ⟨m3, m4⟩, m5, m6, m7⟩
    · exfalso; omega
    · have c := Cx_of hw hx hsz s0 s1 s3 hC (fun i _ => he180 i) (fun i hi => c2 i (by omega)) (fun i _ => he183 i)
      have eq : pe_ T2 181 x (n 12) = q := pe_of (show ELn_ T2 181 x (n 12).toNat = q + 1 by rw [← s1]; exact c3)
      have old : ∀ l : Int, 0 ≤ l → l < n 12 → pe_ T 181 x l < sz ∧ T 26 (pe_ T 181 x l) < sz := fun l l0 l1 => by
        have t := pe1 hw hx l0 (show l < v 202 (T 181 x) by omega)
        rw [← hsz]
        exact ⟨cw_lt hw t (fun _ _ _ => ⟨_, rfl⟩), cw_lt hw (wt_26 hw.2.1 t) (fun _ _ _ => ⟨_, rfl⟩)⟩
      refine ⟨c, fun l t l0 l1 t0 t1 => ?_, fun l l0 l1 => ?_⟩
      · rw [hX, m2] at l1
        rw [g18]
        by_cases e : l = n 12
        · subst e
          rw [eq, c11 t t0 t1, m3 t t0 t1]
        · rw [(ln_row c l0 (show l < n 12 by omega)).2, m4 _ (by omega)]
          exact (c10 _ _ (old l l0 (by omega)).2).trans (h2 l t l0 (by omega) t0 t1)
      · rw [hX, m2] at l1
        rw [g13, g14, g15, g16, g17, m5, m6, m7]
        by_cases e : l = n 12
        · subst e
          have z := hsl.2 (n 12) (Int.le_refl _)
          rw [eq, upA_same, upA_same, upA_same, z.1, z.2]
          exact ⟨c5, c6, c7, c8, c9⟩
        · have lt := (old l l0 (by omega)).1
          have ny : pe_ T 181 x l ≠ q := by omega
          rw [(ln_row c l0 (show l < n 12 by omega)).1, upA_ne e, upA_ne e, upA_ne e]
          obtain ⟨d1, d2, d3, d4, d5⟩ := c4 _ ny
          rw [d1, d2, d3, d4, d5]
          exact h3 l l0 (by omega)
/-! what is owed by the law -/
theorem Lw_cg {d k z : Int} {sa sa2 : Int → Int} (e : ∀ t, 0 ≤ t → t ≤ k → sa2 t = sa t) (h : Lw_ d sa k z) : Lw_ d sa2 k z := by
  rcases h with c | ⟨c1, ⟨c2, c3⟩ | ⟨c2, t, c3, c4, c5, c6⟩⟩
  · exact Or.inl c
  · exact Or.inr ⟨c1, Or.inl ⟨c2, fun t t0 t1 => by rw [e t t0 t1]; exact c3 t t0 t1⟩⟩
  · exact Or.inr ⟨c1, Or.inr ⟨c2, t, c3, c4, by rw [e t c3 c4]; exact c5, fun u u0 u1 => by rw [e u (by omega) u1]; exact c6 u u0 u1⟩⟩
theorem lw_cmp {y k z w : Int} {a : Nat} (h2 : D2_ T v x n f) (h3 : D3_ T v x n f) (hSa : Said_ (f 18) (n 12) (n 29)) (h29 : 0 ≤ n 29) (y0 : 0 ≤ y) (y1 : y < n 12) (hk : k < 200) (ea : ELn_ T 181 x y.toNat = a + 1) (h : Lw_ (v 23 a) (gC_ (v 302) (T 26 a)) k z) (hm : Lw_ (f 16 y) (fun t => f 18 (200 * y + t)) k w) : z = w ∧ -1 ≤ w ∧ w < n 29 := by
  have e := pe_of ea
  rw [← e] at h
  obtain ⟨-, -, -, d, -⟩ := h3 y y0 y1
  rw [d] at h
  have q : Lw_ (f 16 y) (fun t => f 18 (200 * y + t)) k z := Lw_cg (fun t t0 t1 => (h2 y t y0 y1 t0 (by omega)).symm) h
  exact ⟨Lw_det q hm, Lw_rg hm h29 (fun t t0 t1 => hSa _ (by omega) (by omega))⟩
theorem ow_law {l k N : Int} {F g g2 : Int → Int} {S1 S2 S3 : Int → List Int} (h2 : D2_ T v x n f) (h3 : D3_ T v x n f) (hSa : Said_ (f 18) (n 12) (n 29)) (h29 : 0 ≤ n 29) (hN : N = n 29) (l1 : l < n 12) (hk : k < 200) (hc : Owc_ (fun y w => ∃ x_ z_, ELn_ T 181 x (y).toNat = x_ + 1 ∧ Lw_ (v 23 x_) (gC_ (v 302) (T 26 x_)) k z_ ∧ w = nrm_ N z_) F g (l + 1) S1 S2 S3) (hm : ∀ y, 0 ≤ y → y ≤ l → ∃ w, Lw_ (f 16 y) (fun t => f 18 (200 * y + t)) k w ∧ -1 ≤ w ∧ g2 y = ow1_ F g2 y w (S1 w) (S2 w) (S3 w)) : ∀ y, 0 ≤ y → y ≤ l → g y = g2 y := by
  have o2 : Owc_ (fun y w => Lw_ (f 16 y) (fun t => f 18 (200 * y + t)) k w) F g2 (l + 1) S1 S2 S3 := fun y h0 h1 => hm y h0 (by omega)
  intro y y0 y1
  refine ow_det hc o2 (fun y h0 h1 w w2 q1 q2 => ?_) y y0 (by omega)
  obtain ⟨a, z, e1, e2, e3⟩ := q1
  obtain ⟨r1, r2, r3⟩ := lw_cmp h2 h3 hSa h29 h0 (by omega) hk e1 e2 q2
  rw [e3, hN, ← r1]
  by_cases e : 0 ≤ z
  · exact (nrm_rg (n 29) z).1 ⟨e, by omega⟩
  · rw [(nrm_rg (n 29) z).2 (fun q => e q.1)]; omega
/-! a suit more -/
theorem RD_sui {p q l ha wi de z1 z2 X : Int} {F49 F50 F51 F52 F53 F54 F55 : Int → Int} {S1 S2 S3 : Int → List Int} (hw : WC D cy T v H) (hx : T 0 x = 9) (hsz : H.size = sz) (s0 : v 202 (T 180 x) = n 2) (s1 : v 202 (T 181 x) = n 12) (s3 : v 202 (T 183 x) = n 48) (hC : ∀ b, b < sz → T 0 b ≠ 10 → T 0 b ≠ 24 → T 0 b ≠ 26 → b ≠ x → ∀ j, j ≠ 197 → T2 j b = T j b) (he180 : ∀ i : Nat, ELn_ T2 180 x i = ELn_ T 180 x i) (he181 : ∀ i : Nat, ELn_ T2 181 x i = ELn_ T 181 x i) (hnow : v 187 x = n 1) (hn1 : 0 ≤ n 1 ∧ n 1 ≤ 199) (h48 : 0 ≤ n 48) (hp24 : n 2 ≤ 24) (hs2 : v 202 (T 182 x) = n 29) (h29 : 0 ≤ n 29) (h2 : R2 T v x n f) (hSa : Said_ (f 18) (n 12) (n 29)) (hr : RD T v x n f) (e183 : T2 183 x = T 183 x) (hX : n2 48 = X) (g49 : f2 49 = F49) (g50 : f2 50 = F50) (g51 : f2 51 = F51) (g52 : f2 52 = F52) (g53 : f2 53 = F53) (g54 : f2 54 = F54) (g55 : f2 55 = F55)
    (hc : (z1 = -1 ∧ ¬ ((0 ≤ p ∧ p < v 202 (T 180 x) ∧ v 43 (pe_ T 180 x p) = -1) ∧ (0 ≤ q ∧ q < v 202 (T 180 x) ∧ v 43 (pe_ T 180 x q) = -1) ∧ ¬ p = q ∧ (0 ≤ l ∧ l < v 202 (T 181 x)) ∧ v 202 (T 183 x) < 100 ∧ (0 ≤ de ∧ de ≤ v 187 x) ∧ v 42 (pe_ T 180 x p) ≤ de ∧ v 42 (pe_ T 180 x q) ≤ de ∧ (0 ≤ ha ∧ ha ≤ 99) ∧ (0 ≤ wi ∧ wi ≤ 9) ∧ -99 ≤ (w32_ (de - v 42 (pe_ T 180 x q))) ∧ (w32_ (de - v 42 (pe_ T 180 x q))) ≤ 299) ∧ v2 202 (T 183 x) = v 202 (T 183 x) ∧ (∀ i_ : Nat, T2 (1000 + i_) (T2 201 (T2 183 x)) = T (1000 + i_) (T 201 (T 183 x))) ∧ v2 140 = v 140 ∧ v2 141 = v 141 ∧ v2 142 = v 142 ∧ v2 143 = v 143 ∧ v2 144 = v 144 ∧ v2 145 = v 145 ∧ v2 146 = v 146) ∨ (z1 = v 202 (T 183 x) ∧ ((0 ≤ p ∧ p < v 202 (T 180 x) ∧ v 43 (pe_ T 180 x p) = -1) ∧ (0 ≤ q ∧ q < v 202 (T 180 x) ∧ v 43 (pe_ T 180 x q) = -1) ∧ ¬ p = q ∧ (0 ≤ l ∧ l < v 202 (T 181 x)) ∧ v 202 (T 183 x) < 100 ∧ (0 ≤ de ∧ de ≤ v 187 x) ∧ v 42 (pe_ T 180 x p) ≤ de ∧ v 42 (pe_ T 180 x q) ≤ de ∧ (0 ≤ ha ∧ ha ≤ 99) ∧ (0 ≤ wi ∧ wi ≤ 9) ∧ -99 ≤ (w32_ (de - v 42 (pe_ T 180 x q))) ∧ (w32_ (de - v 42 (pe_ T 180 x q))) ≤ 299) ∧ v2 202 (T 183 x) = v 202 (T 183 x) + 1 ∧ ∃ q_ : Nat, sz ≤ q_ ∧ (∀ i_ : Nat, (i_ : Int) < v 202 (T 183 x) → T2 (1000 + i_) (T2 201 (T2 183 x)) = T (1000 + i_) (T 201 (T 183 x))) ∧ T2 (1000 + (v 202 (T 183 x)).toNat) (T2 201 (T2 183 x)) = q_ + 1 ∧ (∀ y : Nat, y ≠ q_ → v2 140 y = v 140 y ∧ v2 141 y = v 141 y ∧ v2 142 y = v 142 y ∧ v2 143 y = v 143 y ∧ v2 144 y = v 144 y ∧ v2 145 y = v 145 y ∧ v2 146 y = v 146 y) ∧ v2 140 q_ = p ∧ v2 141 q_ = q ∧ v2 142 q_ = l ∧ v2 144 q_ = v 187 x ∧ v2 146 q_ = 0 ∧ (∃ kn_ g_, ((kn_ = 1 ∧ v 41 (pe_ T 180 x p) = v 41 (pe_ T 180 x q)) ∨ (kn_ = 0 ∧ ¬ v 41 (pe_ T 180 x p) = v 41 (pe_ T 180 x q))) ∧ v2 143 q_ = g_ l ∧ Owc_ (fun y w => ∃ x_ z_, ELn_ T 181 x (y).toNat = x_ + 1 ∧ Lw_ (v 23 x_) (gC_ (v 302) (T 26 x_)) (v 187 x - 1) z_ ∧ w = nrm_ (v 202 (T 182 x)) z_) (fcf_ ha wi (v 187 x - de) kn_ (w32_ (de - v 42 (pe_ T 180 x q)))) g_ (l + 1) S1 S2 S3) ∧ Bs_ (v2 145 q_) (fun r_ => ¬ r_ = p ∧ (v 43 ((pe_ T 180 x r_))) = -1 ∧ (v 41 ((pe_ T 180 x r_))) = (v 41 ((pe_ T 180 x p)))) (v 202 (T 180 x))))
    (hm : (z2 = -1 ∧ ¬ ((0 ≤ p ∧ p < n 2 ∧ f 6 p = -1) ∧ (0 ≤ q ∧ q < n 2 ∧ f 6 q = -1) ∧ ¬ p = q ∧ (0 ≤ l ∧ l < n 12) ∧ n 48 < 100 ∧ (0 ≤ de ∧ de ≤ n 1) ∧ f 5 p ≤ de ∧ f 5 q ≤ de ∧ (0 ≤ ha ∧ ha ≤ 99) ∧ (0 ≤ wi ∧ wi ≤ 9) ∧ -99 ≤ (w32_ (de - f 5 q)) ∧ (w32_ (de - f 5 q)) ≤ 299) ∧ X = n 48 ∧ F49 = f 49 ∧ F50 = f 50 ∧ F51 = f 51 ∧ F52 = f 52 ∧ F53 = f 53 ∧ F54 = f 54 ∧ F55 = f 55) ∨ (z2 = n 48 ∧ ((0 ≤ p ∧ p < n 2 ∧ f 6 p = -1) ∧ (0 ≤ q ∧ q < n 2 ∧ f 6 q = -1) ∧ ¬ p = q ∧ (0 ≤ l ∧ l < n 12) ∧ n 48 < 100 ∧ (0 ≤ de ∧ de ≤ n 1) ∧ f 5 p ≤ de ∧ f 5 q ≤ de ∧ (0 ≤ ha ∧ ha ≤ 99) ∧ (0 ≤ wi ∧ wi ≤ 9) ∧ -99 ≤ (w32_ (de - f 5 q)) ∧ (w32_ (de - f 5 q)) ≤ 299) ∧ X = n 48 + 1 ∧ F49 = upA (f 49) (n 48) p ∧ F50 = upA (f 50) (n 48) q ∧ F51 = upA (f 51) (n 48) l ∧ F53 = upA (f 53) (n 48) (n 1) ∧ F54 = upA (f 54) (n 48) 0 ∧ ∃ m_ : Int, F52 = upA (f 52) (n 48) m_ ∧ (∃ kn_ : Int, ∃ g_ : Int → Int, ((kn_ = 1 ∧ f 4 p = f 4 q) ∨ (kn_ = 0 ∧ ¬ f 4 p = f 4 q)) ∧ m_ = g_ l ∧ ∀ y, 0 ≤ y → y ≤ l → ∃ w, Lw_ (f 16 y) (fun t => f 18 (200 * y + t)) (n 1 - 1) w ∧ -1 ≤ w ∧ g_ y = ow1_ (fcf_ ha wi (n 1 - de) kn_ (w32_ (de - f 5 q))) g_ y w (S1 w) (S2 w) (S3 w)) ∧ (∀ j_, j_ < 24 * n 48 → F55 j_ = f 55 j_) ∧ ∀ r_, 0 ≤ r_ → r_ < 24 → Ptq_ m_ (nq_ (fun r_ => ¬ r_ = p ∧ (0 ≤ r_ ∧ r_ < (n 2) ∧ (f 6 r_) = -1) ∧ (f 4 p) = (f 4 r_)) (n 2).toNat) p (fun r_ => ¬ r_ = p ∧ (0 ≤ r_ ∧ r_ < (n 2) ∧ (f 6 r_) = -1) ∧ (f 4 p) = (f 4 r_)) r_ (F55 (24 * n 48 + r_)))) : (z1 = z2 ∧ Cx_ D cy H T T2 v x n) ∧ D6_ T2 v2 x n2 f2 ∧ D9_ T2 v2 x n2 f2 := by
  have lp := lv_iff hw hx s0 h2 (p := p)
  have lq := lv_iff hw hx s0 h2 (p := q)
  obtain ⟨d1, d2, d3, d5, d6, d7, d8, d9⟩ := hr
  have iff : ((0 ≤ p ∧ p < v 202 (T 180 x) ∧ v 43 (pe_ T 180 x p) = -1) ∧ (0 ≤ q ∧ q < v 202 (T 180 x) ∧ v 43 (pe_ T 180 x q) = -1) ∧ ¬ p = q ∧ (0 ≤ l ∧ l < v 202 (T 181 x)) ∧ v 202 (T 183 x) < 100 ∧ (0 ≤ de ∧ de ≤ v 187 x) ∧ v 42 (pe_ T 180 x p) ≤ de ∧ v 42 (pe_ T 180 x q) ≤ de ∧ (0 ≤ ha ∧ ha ≤ 99) ∧ (0 ≤ wi ∧ wi ≤ 9) ∧ -99 ≤ (w32_ (de - v 42 (pe_ T 180 x q))) ∧ (w32_ (de - v 42 (pe_ T 180 x q))) ≤ 299) ↔ ((0 ≤ p ∧ p < n 2 ∧ f 6 p = -1) ∧ (0 ≤ q ∧ q < n 2 ∧ f 6 q = -1) ∧ ¬ p = q ∧ (0 ≤ l ∧ l < n 12) ∧ n 48 < 100 ∧ (0 ≤ de ∧ de ≤ n 1) ∧ f 5 p ≤ de ∧ f 5 q ≤ de ∧ (0 ≤ ha ∧ ha ≤ 99) ∧ (0 ≤ wi ∧ wi ≤ 9) ∧ -99 ≤ (w32_ (de - f 5 q)) ∧ (w32_ (de - f 5 q)) ≤ 299) := by
    constructor
    · rintro ⟨a, b, c, d, e, g, i, j, k⟩
      have ap := r2_pe hw hx s0 h2 a.1 (by omega)
      have aq := r2_pe hw hx s0 h2 b.1 (by omega)
      rw [aq.2.2.1] at k j
      exact ⟨lp.1 a, lq.1 b, c, by omega, by omega, by omega, by omega, j, k⟩
    · rintro ⟨a, b, c, d, e, g, i, j, k⟩
      have ap := r2_pe hw hx s0 h2 a.1 a.2.1
      have aq := r2_pe hw hx s0 h2 b.1 b.2.1
      rw [← aq.2.2.1] at k j
      exact ⟨lp.2 a, lq.2 b, c, by omega, by omega, by omega, by omega, j, k⟩
  rcases hc with ⟨c0, c1, c2, c3, c4, c5, c6, c7, c8, c9, c10⟩ | ⟨c0, c1, c2, a, ca, c3, c4, c5, c6, c7, c8, c9, c10, ⟨kn, g, k1, k2, k3⟩, cb⟩ <;> rcases hm with ⟨m0, m1, m2, m3, m4, m5, m6, m7, m8, m9⟩ | ⟨m0, m1, m2, m3, m4, m5, m6, m7, mm, m8, ⟨mk, mg, n1, n2', n3⟩, n4, n5⟩
  · have c := Cx_of hw hx hsz s0 s1 s3 hC (fun i _ => he180 i) (fun i _ => he181 i) (fun i _ => c3 i)
    exact ⟨⟨by omega, c⟩, D6_mk c (by rw [e183]; exact c2) c4 c5 c6 c7 c8 c10 (hX.trans m2) (g49.trans m3) (g50.trans m4) (g51.trans m5) (g52.trans m6) (g53.trans m7) (g54.trans m8) d6, D9_mk c c4 c7 c9 (hX.trans m2) (g55.trans m9) d9⟩
  · exact absurd (iff.2 m1) c1
  · exact absurd (iff.1 c1) m1
  · have c := Cx_of hw hx hsz s0 s1 s3 hC (fun i _ => he180 i) (fun i _ => he181 i) (fun i hi => c3 i (by omega))
    have eq : pe_ T2 183 x (n 48) = a := pe_of (show ELn_ T2 183 x (n 48).toNat = a + 1 by rw [← s3]; exact c4)
    have ap := r2_pe hw hx s0 h2 m1.1.1 m1.1.2.1
    have aq := r2_pe hw hx s0 h2 m1.2.1.1 m1.2.1.2.1
    have ek : kn = mk := by
      rw [ap.2.1, aq.2.1] at k1
      rcases k1 with ⟨u1, u2⟩ | ⟨u1, u2⟩ <;> rcases n1 with ⟨w1, w2⟩ | ⟨w1, w2⟩
      · omega
      · exact absurd u2 w2
      · exact absurd w2 u2
      · omega
    rw [aq.2.2.1, hnow, ek] at k3
    have es : v2 143 a = mm := by
      rw [k2, n2']
      exact ow_law d2 d3 hSa h29 hs2 m1.2.2.2.1.2 (by omega) k3 n3 l m1.2.2.2.1.1 (Int.le_refl _)
    have ty : ∀ i : Int, 0 ≤ i → i < n 48 → pe_ T 183 x i ≠ a := fun i i0 i1 e => by
      obtain ⟨y, hy⟩ := el_ex hw (wt_183 hw.2.1 hx) i i0 (by omega)
      have t : T 0 (pe_ T 183 x i) = 7 := pe_ty hw (wt_183 hw.2.1 hx) (we_183 hw.2.1 hx) i0 (by omega)
      have lt : pe_ T 183 x i < H.size := cw_lt hw t (fun _ _ _ => ⟨_, rfl⟩)
      omega
    have he := c.2.2.2.2.2.2.2.2
    have kq : ∀ r, 0 ≤ r → r < n 2 → ((fun r_ => ¬ r_ = p ∧ (v 43 ((pe_ T 180 x r_))) = -1 ∧ (v 41 ((pe_ T 180 x r_))) = (v 41 ((pe_ T 180 x p)))) r ↔ (fun r_ => ¬ r_ = p ∧ (0 ≤ r_ ∧ r_ < (n 2) ∧ (f 6 r_) = -1) ∧ (f 4 p) = (f 4 r_)) r) := fun r r0 r1 => by
      have q := r2_pe hw hx s0 h2 r0 r1
      show (¬ r = p ∧ (v 43 ((pe_ T 180 x r))) = -1 ∧ (v 41 ((pe_ T 180 x r))) = (v 41 ((pe_ T 180 x p)))) ↔ (¬ r = p ∧ (0 ≤ r ∧ r < (n 2) ∧ (f 6 r) = -1) ∧ (f 4 p) = (f 4 r))
      rw [q.2.1, q.2.2.2.1, ap.2.1]
      exact ⟨fun u => ⟨u.1, ⟨r0, r1, u.2.1⟩, u.2.2.symm⟩, fun u => ⟨u.1, u.2.1.2.2, u.2.2.symm⟩⟩
    rw [s0] at cb
    have cq : cn_ (v2 145 a) = nq_ (fun r_ => ¬ r_ = p ∧ (0 ≤ r_ ∧ r_ < (n 2) ∧ (f 6 r_) = -1) ∧ (f 4 p) = (f 4 r_)) (n 2).toNat := (Bs_cn cb (by omega) (by omega)).trans (nq_cg _ (fun r r0 r1 => kq r r0 (by omega)))
    have p2 : 0 ≤ n 2 := by have := m1.1; omega
    refine ⟨⟨by omega, c⟩, ⟨by rw [e183, c2, hX, m2, s3], fun i j i1 j1 e => ?_, fun i i0 i1 => ?_⟩, fun i r i0 i1 r0 r1 => ?_⟩
    · rw [hX, m2] at i1 j1
      by_cases ei : (i : Int) = n 48
      · by_cases ej : (j : Int) = n 48
        · omega
        · exfalso
          have e2 : ELn_ T2 183 x i = a + 1 := by rw [show i = (n 48).toNat by omega, ← s3]; exact c4
          rw [e2, he j (by omega)] at e
          exact ty (j : Int) (by omega) (by omega) (pe_of (by rw [show ((j : Int)).toNat = j by omega]; exact e.symm))
      · by_cases ej : (j : Int) = n 48
        · exfalso
          have e2 : ELn_ T2 183 x j = a + 1 := by rw [show j = (n 48).toNat by omega, ← s3]; exact c4
          rw [e2, he i (by omega)] at e
          exact ty (i : Int) (by omega) (by omega) (pe_of (by rw [show ((i : Int)).toNat = i by omega]; exact e))
        · rw [he i (by omega), he j (by omega)] at e
          exact d6.2.1 i j (by omega) (by omega) e
    · rw [hX, m2] at i1
      rw [g49, g50, g51, g52, g53, g54, m3, m4, m5, m8, m6, m7]
      by_cases e : i = n 48
      · subst e
        rw [eq]
        simp only [upA_same]
        exact ⟨c7, es, c10, by omega, c6, c8⟩
      · rw [pe_mk he i0 (show i < n 48 by omega)]
        simp only [upA_ne e]
        obtain ⟨u0, u1, u2, u3, u4, -, u6⟩ := c5 _ (ty i i0 (by omega))
        rw [u0, u1, u2, u3, u4, u6]
        exact d6.2.2 i i0 (by omega)
    · rw [hX, m2] at i1
      rw [g55]
      by_cases e : i = n 48
      · subst e
        rw [eq]
        refine Ptq_cg (n5 r r0 r1) es cq c6 ?_
        by_cases q : r < n 2
        · exact (cb.1 r r0 q).trans (kq r r0 q)
        · have z : bt_ (v2 145 a) (Int.toNat r) = false := cb.2 r (by omega) (by omega) r0
          constructor
          · intro u
            have u : bt_ (v2 145 a) (Int.toNat r) = true := u
            rw [z] at u; cases u
          · intro u
            exact absurd u.2.1.2.1 q
      · rw [pe_mk he i0 (show i < n 48 by omega), n4 _ (by omega)]
        obtain ⟨u0, u1, u2, u3, u4, u5, u6⟩ := c5 _ (ty i i0 (by omega))
        rw [u0, u3, u5]
        exact d9 i r i0 (by omega) r0 r1
/-! answers -/
theorem D_has {p l w z1 z2 : Int} (s0 : v 202 (T 180 x) = n 2) (s1 : v 202 (T 181 x) = n 12) (h24 : n 12 ≤ 24) (h : D1_ T v x n f)
    (hc : (¬ ((0 ≤ p ∧ p < v 202 (T 180 x)) ∧ (0 ≤ l ∧ l < v 202 (T 181 x))) ∧ z1 = -1) ∨ (((0 ≤ p ∧ p < v 202 (T 180 x)) ∧ (0 ≤ l ∧ l < v 202 (T 181 x))) ∧ ((w = 0 ∧ z1 = gC_ (v 300) (T 46 (pe_ T 180 x p)) l) ∨ (w = 1 ∧ z1 = gC_ (v 300) (T 47 (pe_ T 180 x p)) l) ∨ (w = 2 ∧ z1 = gC_ (v 300) (T 48 (pe_ T 180 x p)) l) ∨ (¬ (0 ≤ w ∧ w ≤ 2) ∧ z1 = -1))))
    (hm : (z2 = -1 ∧ ¬ ((0 ≤ p ∧ p < n 2) ∧ (0 ≤ l ∧ l < n 12) ∧ (0 ≤ w ∧ w ≤ 2))) ∨ (((0 ≤ p ∧ p < n 2) ∧ (0 ≤ l ∧ l < n 12) ∧ (0 ≤ w ∧ w ≤ 2)) ∧ ((w = 0 ∧ z2 = nz_ (f 19 (24 * p + l)) (f 20 (24 * p + l))) ∨ (w = 1 ∧ z2 = f 19 (24 * p + l)) ∨ (w = 2 ∧ z2 = nz_ (f 19 (24 * p + l)) (f 21 (24 * p + l)))))) : z1 = z2 := by
  by_cases e : (0 ≤ p ∧ p < v 202 (T 180 x)) ∧ (0 ≤ l ∧ l < v 202 (T 181 x))
  · obtain ⟨a, b, c⟩ := h p l e.1.1 (by omega) e.2.1 (by omega)
    rcases hc with ⟨c1, -⟩ | ⟨-, c2⟩
    · exact absurd e c1
    · rw [a, b, c] at c2
      omega
  · rcases hc with ⟨-, c2⟩ | ⟨c1, -⟩
    · rcases hm with ⟨m1, -⟩ | ⟨m1, -⟩
      · omega
      · exact absurd ⟨⟨m1.1.1, by omega⟩, m1.2.1.1, by omega⟩ e
    · exact absurd c1 e
theorem D_said {l k z1 z2 : Int} (s1 : v 202 (T 181 x) = n 12) (hnow : v 187 x = n 1) (h199 : n 1 ≤ 199) (h : D2_ T v x n f) (hc : (¬ ((0 ≤ l ∧ l < v 202 (T 181 x)) ∧ (0 ≤ k ∧ k < v 187 x)) ∧ z1 = -2) ∨ (((0 ≤ l ∧ l < v 202 (T 181 x)) ∧ (0 ≤ k ∧ k < v 187 x)) ∧ z1 = gC_ (v 302) (T 26 (pe_ T 181 x l)) k)) (hm : (z2 = -2 ∧ ¬ ((0 ≤ l ∧ l < n 12) ∧ (0 ≤ k ∧ k < n 1))) ∨ (((0 ≤ l ∧ l < n 12) ∧ (0 ≤ k ∧ k < n 1)) ∧ z2 = f 18 (200 * l + k))) : z1 = z2 := by
  rcases hc with ⟨c1, c2⟩ | ⟨c1, c2⟩ <;> rcases hm with ⟨m1, m2⟩ | ⟨m1, m2⟩
  · omega
  · exact absurd ⟨⟨m1.1.1, by omega⟩, m1.2.1, by omega⟩ c1
  · exact absurd ⟨⟨c1.1.1, by omega⟩, c1.2.1, by omega⟩ m2
  · rw [c2, m2]
    exact h l k m1.1.1 m1.1.2 m1.2.1 (by omega)
theorem D_stood {l k z1 z2 : Int} (s1 : v 202 (T 181 x) = n 12) (hnow : v 187 x = n 1) (h199 : n 1 ≤ 199) (h : D2_ T v x n f) (h3 : D3_ T v x n f) (hc : (¬ ((0 ≤ l ∧ l < v 202 (T 181 x)) ∧ (0 ≤ k ∧ k < v 187 x)) ∧ z1 = -1) ∨ (((0 ≤ l ∧ l < v 202 (T 181 x)) ∧ (0 ≤ k ∧ k < v 187 x)) ∧ Lw_ (v 23 (pe_ T 181 x l)) (gC_ (v 302) (T 26 (pe_ T 181 x l))) k z1)) (hm : (z2 = -1 ∧ ¬ ((0 ≤ l ∧ l < n 12) ∧ (0 ≤ k ∧ k < n 1))) ∨ (((0 ≤ l ∧ l < n 12) ∧ (0 ≤ k ∧ k < n 1)) ∧ Lw_ (f 16 l) (fun t => f 18 (200 * l + t)) k z2)) : z1 = z2 := by
  rcases hc with ⟨c1, c2⟩ | ⟨c1, c2⟩ <;> rcases hm with ⟨m1, m2⟩ | ⟨m1, m2⟩
  · omega
  · exact absurd ⟨⟨m1.1.1, by omega⟩, m1.2.1, by omega⟩ c1
  · exact absurd ⟨⟨c1.1.1, by omega⟩, c1.2.1, by omega⟩ m2
  · obtain ⟨-, -, -, d, -⟩ := h3 l m1.1.1 m1.1.2
    rw [d] at c2
    exact Lw_det (Lw_cg (fun t t0 t1 => (h l t m1.1.1 m1.1.2 t0 (by omega)).symm) c2) m2
/-! counts and sets -/
theorem ou_iff {p : Int} (hnow : v 187 x = n 1) (hr : RD T v x n f) : (Ou_ (v 202 (T 183 x)) (fun i_ => (v 141 ((pe_ T 183 x i_)))) (fun i_ => (v 143 ((pe_ T 183 x i_)))) (fun i_ => (v 146 ((pe_ T 183 x i_)))) (fun i_ => (v 144 ((pe_ T 183 x i_)))) (v 187 x) p) ↔ (Ou_ (n 48) (f 50) (f 52) (f 54) (f 53) (n 1) p) := by
  have d6 := hr.2.2.2.2.1
  rw [d6.1, hnow]
  exact Ou_cg (fun i i0 i1 => ⟨(d6.2.2 i i0 i1).1, (d6.2.2 i i0 i1).2.1, (d6.2.2 i i0 i1).2.2.1, (d6.2.2 i i0 i1).2.2.2.1⟩)
theorem lv_e (hw : WC D cy T v H) (hx : T 0 x = 9) (s0 : v 202 (T 180 x) = n 2) (h2 : R2 T v x n f) {p : Int} (p0 : 0 ≤ p) (p1 : p < n 2) : (v 43 (pe_ T 180 x p)) = -1 ↔ (f 6 p) = -1 := by
  rw [(r2_pe hw hx s0 h2 p0 p1).2.2.2.1]
theorem ho_e (hw : WC D cy T v H) (hx : T 0 x = 9) (s0 : v 202 (T 180 x) = n 2) (h2 : R2 T v x n f) (hr : RD T v x n f) {l p : Int} (l0 : 0 ≤ l) (l1 : l < 24) (p0 : 0 ≤ p) (p1 : p < n 2) : ((v 43 (pe_ T 180 x p)) = -1 ∧ 0 < gC_ (v 300) (T 47 (pe_ T 180 x p)) l) ↔ ((f 6 p) = -1 ∧ 0 < (f 19 (24 * p + l))) := by
  rw [(r2_pe hw hx s0 h2 p0 p1).2.2.2.1, (hr.1 p l p0 p1 l0 l1).1]
theorem ho_nq (hw : WC D cy T v H) (hx : T 0 x = 9) (s0 : v 202 (T 180 x) = n 2) (s1 : v 202 (T 181 x) = n 12) (hnow : v 187 x = n 1) (h24 : n 12 ≤ 24) (g0 : 0 ≤ n 2) (g1 : 0 ≤ n 12) (h2 : R2 T v x n f) (hk : RBk T v x n f) (hr : RD T v x n f) {l : Int} (l0 : 0 ≤ l) (l1 : l < 24) : nq_ (fun p_ => (v 43 ((pe_ T 180 x p_))) = -1 ∧ 0 < gC_ (v 300) (T 47 (pe_ T 180 x p_)) l) ((v 202 (T 180 x))).toNat = nq_ (fun p_ => (f 6 p_) = -1 ∧ 0 < (f 19 (24 * p_ + l))) (n 2).toNat := by
  rw [s0]
  exact nq_cg _ (fun p p0 p1 => ho_e hw hx s0 h2 hr l0 l1 p0 (by omega))
theorem ho_us (hw : WC D cy T v H) (hx : T 0 x = 9) (s0 : v 202 (T 180 x) = n 2) (s1 : v 202 (T 181 x) = n 12) (hnow : v 187 x = n 1) (h24 : n 12 ≤ 24) (g0 : 0 ≤ n 2) (g1 : 0 ≤ n 12) (h2 : R2 T v x n f) (hk : RBk T v x n f) (hr : RD T v x n f) {l : Int} (l0 : 0 ≤ l) (l1 : l < 24) (i : Int) : Us_ (fun p_ => (v 43 ((pe_ T 180 x p_))) = -1 ∧ 0 < gC_ (v 300) (T 47 (pe_ T 180 x p_)) l) (fun p_ => gC_ (v 300) (T 46 (pe_ T 180 x p_)) l) (v 202 (T 180 x)) i ↔ Us_ (fun p_ => (f 6 p_) = -1 ∧ 0 < (f 19 (24 * p_ + l))) (fun p_ => (f 20 (24 * p_ + l))) (n 2) i := by
  rw [s0]
  refine Us_cg (fun p p0 p1 => ho_e hw hx s0 h2 hr l0 l1 p0 p1) (fun p p0 p1 q => ?_) i
  have a := hr.1 p l p0 p1 l0 l1
  have q2 := q.2
  rw [a.1] at q2
  exact a.2.1.trans (nz_t q2)
theorem D_of {p w z1 z2 : Int} (hw : WC D cy T v H) (hx : T 0 x = 9) (s0 : v 202 (T 180 x) = n 2) (s1 : v 202 (T 181 x) = n 12) (hnow : v 187 x = n 1) (h24 : n 12 ≤ 24) (g0 : 0 ≤ n 2) (g1 : 0 ≤ n 12) (h2 : R2 T v x n f) (hk : RBk T v x n f) (hr : RD T v x n f) (hc : (¬ (0 ≤ p ∧ p < (v 202 (T 180 x))) ∧ z1 = -100) ∨ ((0 ≤ p ∧ p < (v 202 (T 180 x))) ∧ ((w = 0 ∧ z1 = (v 40 ((pe_ T 180 x p)))) ∨ (w = 1 ∧ z1 = (v 41 ((pe_ T 180 x p)))) ∨ (w = 2 ∧ z1 = (v 42 ((pe_ T 180 x p)))) ∨ (w = 3 ∧ z1 = (v 43 ((pe_ T 180 x p)))) ∨ (w = 4 ∧ ((z1 = 1 ∧ ((v 43 ((pe_ T 180 x p))) = -1 ∧ (Ou_ (v 202 (T 183 x)) (fun i_ => (v 141 ((pe_ T 183 x i_)))) (fun i_ => (v 143 ((pe_ T 183 x i_)))) (fun i_ => (v 146 ((pe_ T 183 x i_)))) (fun i_ => (v 144 ((pe_ T 183 x i_)))) (v 187 x) p))) ∨ (z1 = 0 ∧ ¬ ((v 43 ((pe_ T 180 x p))) = -1 ∧ (Ou_ (v 202 (T 183 x)) (fun i_ => (v 141 ((pe_ T 183 x i_)))) (fun i_ => (v 143 ((pe_ T 183 x i_)))) (fun i_ => (v 146 ((pe_ T 183 x i_)))) (fun i_ => (v 144 ((pe_ T 183 x i_)))) (v 187 x) p))))) ∨ (w = 5 ∧ z1 = nq_ (fun l_ => 0 < gC_ (v 300) (T 47 (pe_ T 180 x p)) l_) 24) ∨ (w = 6 ∧ ((z1 = 1 ∧ ¬ (v 44 ((pe_ T 180 x p))) = 0) ∨ (z1 = 0 ∧ (v 44 ((pe_ T 180 x p))) = 0))) ∨ (¬ (0 ≤ w ∧ w ≤ 6) ∧ z1 = -100)))) (hm : (¬ (0 ≤ p ∧ p < (n 2)) ∧ z2 = -100) ∨ ((0 ≤ p ∧ p < (n 2)) ∧ Of_ w (f 3 p) (f 4 p) (f 5 p) (f 6 p) ((f 6 p) = -1 ∧ (Ou_ (n 48) (f 50) (f 52) (f 54) (f 53) (n 1) p)) (nq_ (fun l_ => 0 < (f 19 (24 * p + l_))) 24) (f 7 p) z2)) : z1 = z2 := by
  rcases hc with ⟨c1, c2⟩ | ⟨c1, c2⟩ <;> rcases hm with ⟨m1, m2⟩ | ⟨m1, m2⟩
  · omega
  · exfalso; omega
  · exfalso; omega
  · obtain ⟨a, b, c, d, e⟩ := r2_pe hw hx s0 h2 m1.1 m1.2
    exact Of_det c2 m2 a b c d (by rw [d, ou_iff hnow hr]) (nq_cg 24 (fun l l0 l1 => by rw [(hr.1 p l m1.1 m1.2 l0 l1).1])) (by rw [e])
theorem D_lin {l w z1 z2 : Int} (hw : WC D cy T v H) (hx : T 0 x = 9) (s0 : v 202 (T 180 x) = n 2) (s1 : v 202 (T 181 x) = n 12) (hnow : v 187 x = n 1) (h24 : n 12 ≤ 24) (g0 : 0 ≤ n 2) (g1 : 0 ≤ n 12) (h2 : R2 T v x n f) (hk : RBk T v x n f) (hr : RD T v x n f) (hc : (¬ (0 ≤ l ∧ l < (v 202 (T 181 x))) ∧ z1 = -1) ∨ ((0 ≤ l ∧ l < (v 202 (T 181 x))) ∧ ((w = 0 ∧ z1 = (v 20 ((pe_ T 181 x l)))) ∨ (w = 1 ∧ ((z1 = 1 ∧ ¬ (v 21 ((pe_ T 181 x l))) = 0) ∨ (z1 = 0 ∧ (v 21 ((pe_ T 181 x l))) = 0))) ∨ (w = 2 ∧ z1 = (v 22 ((pe_ T 181 x l)))) ∨ (w = 3 ∧ z1 = (v 23 ((pe_ T 181 x l)))) ∨ (w = 4 ∧ z1 = nq_ (fun p_ => (v 43 ((pe_ T 180 x p_))) = -1 ∧ 0 < gC_ (v 300) (T 47 (pe_ T 180 x p_)) l) ((v 202 (T 180 x))).toNat) ∨ (w = 5 ∧ ∃ g_, Bq_ g_ (Us_ (fun p_ => (v 43 ((pe_ T 180 x p_))) = -1 ∧ 0 < gC_ (v 300) (T 47 (pe_ T 180 x p_)) l) (fun p_ => gC_ (v 300) (T 46 (pe_ T 180 x p_)) l) (v 202 (T 180 x))) ∧ z1 = cn_ g_) ∨ (w = 6 ∧ z1 = (v 24 ((pe_ T 181 x l)))) ∨ (¬ (0 ≤ w ∧ w ≤ 6) ∧ z1 = -1)))) (hm : (¬ (0 ≤ l ∧ l < (n 12)) ∧ z2 = -1) ∨ ((0 ≤ l ∧ l < (n 12)) ∧ Lo_ w (f 13 l) (f 14 l) (f 15 l) (f 16 l) (nq_ (fun p_ => (f 6 p_) = -1 ∧ 0 < (f 19 (24 * p_ + l))) ((n 2)).toNat) (Us_ (fun p_ => (f 6 p_) = -1 ∧ 0 < (f 19 (24 * p_ + l))) (fun p_ => (f 20 (24 * p_ + l))) (n 2)) (f 17 l) z2)) : z1 = z2 := by
  rcases hc with ⟨c1, c2⟩ | ⟨c1, c2⟩ <;> rcases hm with ⟨m1, m2⟩ | ⟨m1, m2⟩
  · omega
  · exfalso; omega
  · exfalso; omega
  · obtain ⟨a, b, c, d, e⟩ := hr.2.2.1 l m1.1 m1.2
    exact Lo_det (Q := Us_ (fun p_ => (v 43 ((pe_ T 180 x p_))) = -1 ∧ 0 < gC_ (v 300) (T 47 (pe_ T 180 x p_)) l) (fun p_ => gC_ (v 300) (T 46 (pe_ T 180 x p_)) l) (v 202 (T 180 x))) c2 m2 a (by rw [b]) c d (ho_nq hw hx s0 s1 hnow h24 g0 g1 h2 hk hr m1.1 (by omega)) (fun i _ _ => ho_us hw hx s0 s1 hnow h24 g0 g1 h2 hk hr m1.1 (by omega) i) e
theorem D_look {w z1 z2 : Int} (hw : WC D cy T v H) (hx : T 0 x = 9) (s0 : v 202 (T 180 x) = n 2) (s1 : v 202 (T 181 x) = n 12) (hnow : v 187 x = n 1) (h24 : n 12 ≤ 24) (g0 : 0 ≤ n 2) (g1 : 0 ≤ n 12) (h2 : R2 T v x n f) (hk : RBk T v x n f) (hr : RD T v x n f) (s2 : v 202 (T 182 x) = n 29) (hc : (w = 0 ∧ z1 = (v 187 x)) ∨ (w = 1 ∧ z1 = (v 202 (T 180 x))) ∨ (w = 2 ∧ z1 = (nq_ (fun p_ => (v 43 ((pe_ T 180 x p_))) = -1) ((v 202 (T 180 x))).toNat)) ∨ (w = 3 ∧ z1 = (v 202 (T 181 x))) ∨ (w = 4 ∧ z1 = (nq_ (fun l_ => ¬ (v 23 ((pe_ T 181 x l_))) = -1) ((v 202 (T 181 x))).toNat)) ∨ (w = 5 ∧ z1 = (v 202 (T 182 x))) ∨ (w = 6 ∧ z1 = (v 202 (T 183 x))) ∨ (w = 7 ∧ z1 = (v 188 x)) ∨ (w = 8 ∧ z1 = (v 189 x)) ∨ (w = 9 ∧ z1 = (nq_ (fun p_ => (v 43 ((pe_ T 180 x p_))) = -1 ∧ (Ou_ (v 202 (T 183 x)) (fun i_ => (v 141 ((pe_ T 183 x i_)))) (fun i_ => (v 143 ((pe_ T 183 x i_)))) (fun i_ => (v 146 ((pe_ T 183 x i_)))) (fun i_ => (v 144 ((pe_ T 183 x i_)))) (v 187 x) p_)) ((v 202 (T 180 x))).toNat)) ∨ (w = 10 ∧ z1 = (nq_ (fun l_ => ¬ (v 25 ((pe_ T 181 x l_))) = -1) ((v 202 (T 181 x))).toNat)) ∨ (¬ (0 ≤ w ∧ w ≤ 10) ∧ z1 = -2)) (hm : Lk_ w (n 1) (n 2) (nq_ (fun p_ => (f 6 p_) = -1) ((n 2)).toNat) (n 12) (nq_ (fun l_ => ¬ (f 16 l_) = -1) ((n 12)).toNat) (n 29) (n 48) (n 10) (n 11) (nq_ (fun p_ => (f 6 p_) = -1 ∧ (Ou_ (n 48) (f 50) (f 52) (f 54) (f 53) (n 1) p_)) ((n 2)).toNat) (nq_ (fun l_ => ¬ (f 67 l_) = -1) ((n 12)).toNat) z2) : z1 = z2 := by
  have c : Lk_ w (v 187 x) (v 202 (T 180 x)) (nq_ (fun p_ => (v 43 ((pe_ T 180 x p_))) = -1) ((v 202 (T 180 x))).toNat) (v 202 (T 181 x)) (nq_ (fun l_ => ¬ (v 23 ((pe_ T 181 x l_))) = -1) ((v 202 (T 181 x))).toNat) (v 202 (T 182 x)) (v 202 (T 183 x)) (v 188 x) (v 189 x) (nq_ (fun p_ => (v 43 ((pe_ T 180 x p_))) = -1 ∧ (Ou_ (v 202 (T 183 x)) (fun i_ => (v 141 ((pe_ T 183 x i_)))) (fun i_ => (v 143 ((pe_ T 183 x i_)))) (fun i_ => (v 146 ((pe_ T 183 x i_)))) (fun i_ => (v 144 ((pe_ T 183 x i_)))) (v 187 x) p_)) ((v 202 (T 180 x))).toNat) (nq_ (fun l_ => ¬ (v 25 ((pe_ T 181 x l_))) = -1) ((v 202 (T 181 x))).toNat) z1 := hc
  have e2 : (nq_ (fun p_ => (v 43 ((pe_ T 180 x p_))) = -1) ((v 202 (T 180 x))).toNat) = (nq_ (fun p_ => (f 6 p_) = -1) ((n 2)).toNat) := by rw [s0]; exact nq_cg _ (fun p p0 p1 => lv_e hw hx s0 h2 p0 (by omega))
  have e4 : (nq_ (fun l_ => ¬ (v 23 ((pe_ T 181 x l_))) = -1) ((v 202 (T 181 x))).toNat) = (nq_ (fun l_ => ¬ (f 16 l_) = -1) ((n 12)).toNat) := by rw [s1]; exact nq_cg _ (fun l l0 l1 => by rw [(hr.2.2.1 l l0 (by omega)).2.2.2.1])
  have e9 : (nq_ (fun p_ => (v 43 ((pe_ T 180 x p_))) = -1 ∧ (Ou_ (v 202 (T 183 x)) (fun i_ => (v 141 ((pe_ T 183 x i_)))) (fun i_ => (v 143 ((pe_ T 183 x i_)))) (fun i_ => (v 146 ((pe_ T 183 x i_)))) (fun i_ => (v 144 ((pe_ T 183 x i_)))) (v 187 x) p_)) ((v 202 (T 180 x))).toNat) = (nq_ (fun p_ => (f 6 p_) = -1 ∧ (Ou_ (n 48) (f 50) (f 52) (f 54) (f 53) (n 1) p_)) ((n 2)).toNat) := by rw [s0]; exact nq_cg _ (fun p p0 p1 => by rw [lv_e hw hx s0 h2 p0 (by omega), ou_iff hnow hr])
  have e10 : (nq_ (fun l_ => ¬ (v 25 ((pe_ T 181 x l_))) = -1) ((v 202 (T 181 x))).toNat) = (nq_ (fun l_ => ¬ (f 67 l_) = -1) ((n 12)).toNat) := by rw [s1]; exact nq_cg _ (fun l l0 l1 => by rw [rbk_pe hw hx s1 hk l0 (by omega)])
  rw [e2, e4, e9, e10, hnow, s0, s1, s2, hr.2.2.2.2.1.1, hr.2.2.2.2.2.2.1.1, hr.2.2.2.2.2.2.1.2] at c
  exact Lk_det c hm
theorem D_loss {s z1 z2 : Int} (hw : WC D cy T v H) (hx : T 0 x = 9) (s0 : v 202 (T 180 x) = n 2) (s1 : v 202 (T 181 x) = n 12) (hnow : v 187 x = n 1) (h24 : n 12 ≤ 24) (g0 : 0 ≤ n 2) (g1 : 0 ≤ n 12) (h2 : R2 T v x n f) (hk : RBk T v x n f) (hr : RD T v x n f) (rs : inR s) (hc : (z1 = -1 ∧ ¬ (¬ s = 0 ∧ Bz_ s (v 202 (T 181 x)))) ∨ ((¬ s = 0 ∧ Bz_ s (v 202 (T 181 x))) ∧ Lm_ s (fun l_ => nq_ (fun p_ => (v 43 ((pe_ T 180 x p_))) = -1 ∧ 0 < gC_ (v 300) (T 47 (pe_ T 180 x p_)) l_) ((v 202 (T 180 x))).toNat) (v 202 (T 181 x)) z1)) (hm : (z2 = -1 ∧ ¬ (0 < s ∧ Bz_ s (n 12))) ∨ ((0 < s ∧ Bz_ s (n 12)) ∧ Lm_ s (fun l_ => nq_ (fun p_ => (f 6 p_) = -1 ∧ 0 < (f 19 (24 * p_ + l_))) ((n 2)).toNat) (n 12) z2)) : z1 = z2 := by
  have iff : (¬ s = 0 ∧ Bz_ s (v 202 (T 181 x))) ↔ (0 < s ∧ Bz_ s (n 12)) := by
    rw [s1]
    constructor
    · rintro ⟨a, b⟩
      have := bz_pos rs b (by omega)
      exact ⟨by omega, b⟩
    · rintro ⟨a, b⟩
      exact ⟨by omega, b⟩
  rcases hc with ⟨c1, c2⟩ | ⟨c1, c2⟩ <;> rcases hm with ⟨m1, m2⟩ | ⟨m1, m2⟩
  · omega
  · exact absurd (iff.2 m1) c2
  · exact absurd (iff.1 c1) m2
  · rw [s1] at c2
    exact Lm_det c2 m2 (fun l l0 l1 => ho_nq hw hx s0 s1 hnow h24 g0 g1 h2 hk hr l0 (by omega))
theorem D_wrong {z1 z2 : Int} (hw : WC D cy T v H) (hx : T 0 x = 9) (s0 : v 202 (T 180 x) = n 2) (s1 : v 202 (T 181 x) = n 12) (hnow : v 187 x = n 1) (h24 : n 12 ≤ 24) (g0 : 0 ≤ n 2) (g1 : 0 ≤ n 12) (h2 : R2 T v x n f) (hk : RBk T v x n f) (hr : RD T v x n f) (h199 : n 1 ≤ 199) (r1 : inR z1) (r2 : inR z2) (hc : Bq_ z1 (fun i_ => i_ < (v 202 (T 181 x)) ∧ (¬ (v 25 ((pe_ T 181 x i_))) = -1 ∧ ∃ z_, Lw_ ((v 23 ((pe_ T 181 x i_)))) (gC_ (v 302) (T 26 (pe_ T 181 x i_))) ((v 187 x) - 1) z_ ∧ ¬ (v 25 ((pe_ T 181 x i_))) = z_))) (hm : Bq_ z2 (fun i_ => i_ < (n 12) ∧ (Wr_ ((f 67 i_)) ((f 16 i_)) (fun t_ => (f 18 (200 * i_ + t_))) ((n 1) - 1)))) : z1 = z2 := by
  refine (J_inj r1 r2).mp (Bq_eq hc (Bq_cg hm (fun i i0 i1 => ?_)))
  rw [s1, hnow]
  have key : i < n 12 → (Wr_ ((f 67 i)) ((f 16 i)) (fun t_ => (f 18 (200 * i + t_))) ((n 1) - 1) ↔ Wr_ (v 25 ((pe_ T 181 x i))) ((v 23 ((pe_ T 181 x i)))) (gC_ (v 302) (T 26 (pe_ T 181 x i))) ((n 1) - 1)) := fun hi => by
    rw [rbk_pe hw hx s1 hk i0 hi, (hr.2.2.1 i i0 hi).2.2.2.1]
    exact Wr_cg (fun t t0 t1 => hr.2.1 i t i0 hi t0 (by omega))
  exact ⟨fun q => ⟨q.1, (key q.1).1 q.2⟩, fun q => ⟨q.1, (key q.1).2 q.2⟩⟩
theorem D_sof {i w z1 z2 : Int} (hw : WC D cy T v H) (hx : T 0 x = 9) (s0 : v 202 (T 180 x) = n 2) (s1 : v 202 (T 181 x) = n 12) (hnow : v 187 x = n 1) (h24 : n 12 ≤ 24) (g0 : 0 ≤ n 2) (g1 : 0 ≤ n 12) (h2 : R2 T v x n f) (hk : RBk T v x n f) (hr : RD T v x n f) (hp24 : n 2 ≤ 24) (hc : (¬ (0 ≤ i ∧ i < v 202 (T 183 x)) ∧ z1 = -1) ∨ ((0 ≤ i ∧ i < v 202 (T 183 x)) ∧ Sf_ w (v 140 (pe_ T 183 x i)) (v 141 (pe_ T 183 x i)) (v 142 (pe_ T 183 x i)) (v 143 (pe_ T 183 x i)) (v 144 (pe_ T 183 x i)) (v 146 (pe_ T 183 x i)) (v 202 (T 180 x)) (Ptq_ (v 143 (pe_ T 183 x i)) (cn_ (v 145 (pe_ T 183 x i))) (v 140 (pe_ T 183 x i)) (fun i_ => bt_ (v 145 (pe_ T 183 x i)) (Int.toNat i_) = true)) z1)) (hm : (¬ (0 ≤ i ∧ i < n 48) ∧ z2 = -1) ∨ ((0 ≤ i ∧ i < n 48) ∧ Sf_ w (f 49 i) (f 50 i) (f 51 i) (f 52 i) (f 53 i) (f 54 i) (n 2) (fun r_ z_ => z_ = (f 55 (24 * i + r_))) z2)) : z1 = z2 := by
  obtain ⟨-, -, -, -, d6, -, -, d9⟩ := hr
  have s3 := d6.1
  rcases hc with ⟨c1, c2⟩ | ⟨c1, c2⟩ <;> rcases hm with ⟨m1, m2⟩ | ⟨m1, m2⟩
  · omega
  · exfalso; omega
  · exfalso; omega
  · obtain ⟨a, b, c, d, e, g⟩ := d6.2.2 i m1.1 m1.2
    exact Sf_det c2 m2 e a g b d c s0 (fun r r0 r1 q1 q2 => Ptq_det q1 (by
      have q2 : z2 = f 55 (24 * i + r) := q2
      rw [q2]
      exact d9 i r m1.1 m1.2 r0 (by omega)))
theorem D_owed {l k a b c d e z1 z2 : Int} {S1 S2 S3 : Int → List Int} {B : Prop} (hw : WC D cy T v H) (hx : T 0 x = 9) (s0 : v 202 (T 180 x) = n 2) (s1 : v 202 (T 181 x) = n 12) (hnow : v 187 x = n 1) (h24 : n 12 ≤ 24) (g0 : 0 ≤ n 2) (g1 : 0 ≤ n 12) (h2 : R2 T v x n f) (hk : RBk T v x n f) (hr : RD T v x n f) (h199 : n 1 ≤ 199) (s2 : v 202 (T 182 x) = n 29) (h29 : 0 ≤ n 29) (hSa : Said_ (f 18) (n 12) (n 29))
    (hc : ((z1 = -1 ∧ ¬ ((0 ≤ l ∧ l < (v 202 (T 181 x))) ∧ (0 ≤ k ∧ k < (v 187 x)) ∧ (0 ≤ a ∧ a ≤ 99 ∧ 0 ≤ b ∧ b ≤ 9 ∧ 0 ≤ c ∧ c ≤ 299 ∧ 0 ≤ d ∧ d ≤ 1 ∧ -99 ≤ e ∧ e ≤ 299))) ∨ (((0 ≤ l ∧ l < (v 202 (T 181 x))) ∧ (0 ≤ k ∧ k < (v 187 x)) ∧ (0 ≤ a ∧ a ≤ 99 ∧ 0 ≤ b ∧ b ≤ 9 ∧ 0 ≤ c ∧ c ≤ 299 ∧ 0 ≤ d ∧ d ≤ 1 ∧ -99 ≤ e ∧ e ≤ 299)) ∧ ∃ g_ : Int → Int, z1 = g_ l ∧ Owc_ (fun y_ w_ => ∃ x_ z_, ELn_ T 181 x (y_).toNat = x_ + 1 ∧ Lw_ ((v 23 x_)) (gC_ (v 302) (T 26 x_)) k z_ ∧ w_ = nrm_ (v 202 (T 182 x)) z_) (fcf_ a b c d e) g_ (l + 1) S1 S2 S3)) ∧ B)
    (hm : (z2 = -1 ∧ ¬ ((0 ≤ l ∧ l < (n 12)) ∧ (0 ≤ k ∧ k < (n 1)) ∧ (0 ≤ a ∧ a ≤ 99 ∧ 0 ≤ b ∧ b ≤ 9 ∧ 0 ≤ c ∧ c ≤ 299 ∧ 0 ≤ d ∧ d ≤ 1 ∧ -99 ≤ e ∧ e ≤ 299))) ∨ (((0 ≤ l ∧ l < (n 12)) ∧ (0 ≤ k ∧ k < (n 1)) ∧ (0 ≤ a ∧ a ≤ 99 ∧ 0 ≤ b ∧ b ≤ 9 ∧ 0 ≤ c ∧ c ≤ 299 ∧ 0 ≤ d ∧ d ≤ 1 ∧ -99 ≤ e ∧ e ≤ 299)) ∧ ∃ g_ : Int → Int, z2 = g_ l ∧ ∀ y_, 0 ≤ y_ → y_ ≤ l → ∃ w_, Lw_ ((f 16 y_)) (fun t_ => (f 18 (200 * y_ + t_))) k w_ ∧ -1 ≤ w_ ∧ g_ y_ = ow1_ (fcf_ a b c d e) g_ y_ w_ (S1 w_) (S2 w_) (S3 w_))) : z1 = z2 := by
  obtain ⟨hc, -⟩ := hc
  rcases hc with ⟨c1, c2⟩ | ⟨c1, ⟨g, c2, c3⟩⟩ <;> rcases hm with ⟨m1, m2⟩ | ⟨m1, ⟨g2, m2, m3⟩⟩
  · omega
  · exfalso; omega
  · exfalso; omega
  · rw [c2, m2]
    exact ow_law hr.2.1 hr.2.2.1 hSa h29 s2 m1.1.2 (by omega) c3 m3 l m1.1.1 (Int.le_refl _)
end Re
