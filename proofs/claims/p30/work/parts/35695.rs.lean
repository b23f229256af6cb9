/-! ===== books ===== -/
def RBk (T : Nat → Nat → Nat) (v : Nat → Nat → Int) (x : Nat) (n : Nat → Int) (f : Nat → Int → Int) : Prop := (∀ i j : Nat, (i : Int) < n 12 → (j : Int) < n 12 → ELn_ T 181 x i = ELn_ T 181 x j → i = j) ∧ (∀ i : Nat, (i : Int) < n 12 → ∀ y : Nat, ELn_ T 181 x i = y + 1 → v 25 y = f 67 i)
theorem RBk_same {T T2 : Nat → Nat → Nat} {v v2 : Nat → Nat → Int} {x : Nat} {n n2 : Nat → Int} {f f2 : Nat → Int → Int} (h : RBk T v x n f) (hE : ∀ i : Nat, ELn_ T2 181 x i = ELn_ T 181 x i) (e25 : v2 25 = v 25) (hn : n2 12 = n 12) (g67 : f2 67 = f 67) : RBk T2 v2 x n2 f2 := by
  refine ⟨fun i j hi hj e => ?_, fun i hi y hy => ?_⟩
  · rw [hE, hE] at e
    exact h.1 i j (by omega) (by omega) e
  · rw [hE] at hy
    rw [e25, g67]
    exact h.2 i (by omega) y hy
theorem RBk_at {T : Nat → Nat → Nat} {v : Nat → Nat → Int} {x : Nat} {n : Nat → Int} {f : Nat → Int → Int} {p : Int} {y : Nat} (h : RBk T v x n f) (h0 : 0 ≤ p) (h1 : p < n 12) (hy : ELn_ T 181 x p.toNat = y + 1) : v 25 y = f 67 p := by
  have q := h.2 p.toNat (by omega) y hy
  have e : ((p.toNat : Nat) : Int) = p := by omega
  rw [e] at q
  exact q
theorem RBk_line {T T2 : Nat → Nat → Nat} {v v2 : Nat → Nat → Int} {x : Nat} {n n2 : Nat → Int} {f f2 : Nat → Int → Int} {sz : Nat} {s X z1 z2 : Int} {G : Int → Int} (h : RBk T v x n f) (hl : v 202 (T 181 x) = n 12) (h0 : 0 ≤ n 12) (hX : n2 12 = X) (gB : f2 67 = G) (hnw : ∀ q, sz ≤ q → ∀ i : Nat, (i : Int) < v 202 (T 181 x) → ∀ y : Nat, ELn_ T 181 x i = y + 1 → y ≠ q)
    (hc : (z1 = -1 ∧ (s < 0 ∨ 2 < s ∨ 24 ≤ v 202 (T 181 x)) ∧ v2 202 (T 181 x) = v 202 (T 181 x) ∧ (∀ i : Nat, ELn_ T2 181 x i = ELn_ T 181 x i) ∧ v2 25 = v 25) ∨ (z1 = v 202 (T 181 x) ∧ (0 ≤ s ∧ s ≤ 2 ∧ v 202 (T 181 x) < 24) ∧ v2 202 (T 181 x) = v 202 (T 181 x) + 1 ∧ ∃ q : Nat, sz ≤ q ∧ (∀ i : Nat, (i : Int) < v 202 (T 181 x) → ELn_ T2 181 x i = ELn_ T 181 x i) ∧ ELn_ T2 181 x (v 202 (T 181 x)).toNat = q + 1 ∧ (∀ y : Nat, y ≠ q → v2 25 y = v 25 y) ∧ v2 25 q = -1))
    (hm : (z2 = -1 ∧ (s < 0 ∨ 2 < s ∨ n 12 = 24) ∧ X = n 12 ∧ G = f 67) ∨ (z2 = n 12 ∧ (0 ≤ s ∧ s ≤ 2 ∧ n 12 < 24) ∧ X = n 12 + 1 ∧ G = upA (f 67) (n 12) (-1))) : (z1 = z2 ∧ v2 202 (T 181 x) = n2 12) ∧ RBk T2 v2 x n2 f2 := by
  rcases hc with ⟨c0, c1, cz, c2, c3⟩ | ⟨c0, c1, cz, q, cq, c2, c3, c4, c5⟩
  · rcases hm with ⟨m0, m1, m2, m3⟩ | ⟨m0, m1, m2, m3⟩
    · exact ⟨⟨by omega, by omega⟩, RBk_same h c2 c3 (hX.trans m2) (gB.trans m3)⟩
    · exfalso; omega
  · rcases hm with ⟨m0, m1, m2, m3⟩ | ⟨m0, m1, m2, m3⟩
    · exfalso; omega
    · refine ⟨⟨by omega, by omega⟩, ?_⟩
      have ez : (v 202 (T 181 x)).toNat = (n 12).toNat := by rw [hl]
      rw [ez] at c3
      have en : (((n 12).toNat : Nat) : Int) = n 12 := by omega
      have lt : ∀ i : Nat, (i : Int) < n2 12 → (i : Int) < n 12 ∨ i = (n 12).toNat := fun i hi => by omega
      have ne : ∀ i : Nat, (i : Int) < n 12 → ELn_ T2 181 x i ≠ q + 1 := fun i hi e => by
        rw [c2 i (by omega)] at e
        exact hnw q cq i (by omega) q e rfl
      refine ⟨fun i j hi hj e => ?_, fun i hi y hy => ?_⟩
      · rcases lt i hi with a | a <;> rcases lt j hj with b | b
        · rw [c2 i (by omega), c2 j (by omega)] at e
          exact h.1 i j a b e
        · rw [b, c3] at e
          exact absurd e (ne i a)
        · rw [a, c3] at e
          exact absurd e.symm (ne j b)
        · omega
      · rw [gB.trans m3]
        rcases lt i hi with a | a
        · have hy2 := hy
          rw [c2 i (by omega)] at hy2
          have nq := hnw q cq i (by omega) y hy2
          rw [c4 y nq, upA_ne (by omega)]
          exact h.2 i a y hy2
        · rw [a, c3] at hy
          have e : y = q := by omega
          rw [e, a, en, upA_same]
          exact c5
theorem RBk_book {T : Nat → Nat → Nat} {v v2 : Nat → Nat → Int} {x : Nat} {n n2 : Nat → Int} {f f2 : Nat → Int → Int} {l w z1 z2 : Int} {Y : Nat → Int} {G : Int → Int} (h : RBk T v x n f) (hl : v 202 (T 181 x) = n 12) (hw : v 202 (T 182 x) = n 29) (hn : n2 12 = n 12) (eY : v2 25 = Y) (eG : f2 67 = G)
    (hc : (z1 = 0 ∧ Y = v 25 ∧ ((l < 0 ∨ v 202 (T 181 x) ≤ l) ∨ (¬ w = -1 ∧ (w < 0 ∨ v 202 (T 182 x) ≤ w)))) ∨ (z1 = 1 ∧ (0 ≤ l ∧ l < v 202 (T 181 x)) ∧ (w = -1 ∨ (0 ≤ w ∧ w < v 202 (T 182 x))) ∧ ∃ y, ELn_ T 181 x l.toNat = y + 1 ∧ Y = upB (v 25) y w))
    (hm : (z2 = 1 ∧ ((0 ≤ l ∧ l < n 12) ∧ (w = -1 ∨ (0 ≤ w ∧ w < n 29))) ∧ G = upA (f 67) l w) ∨ (z2 = 0 ∧ ¬ ((0 ≤ l ∧ l < n 12) ∧ (w = -1 ∨ (0 ≤ w ∧ w < n 29))) ∧ G = f 67)) : z1 = z2 ∧ RBk T v2 x n2 f2 := by
  rcases hc with ⟨c0, c1, c2⟩ | ⟨c0, c1, c2, q, c3, c4⟩
  · rcases hm with ⟨m0, m1, m2⟩ | ⟨m0, m1, m2⟩
    · exfalso; omega
    · exact ⟨by omega, RBk_same h (fun _ => rfl) (eY.trans c1) hn (eG.trans m2)⟩
  · rcases hm with ⟨m0, m1, m2⟩ | ⟨m0, m1, m2⟩
    · refine ⟨by omega, fun i j hi hj e => h.1 i j (by omega) (by omega) e, fun i hi y hy => ?_⟩
      rw [eY, c4, eG, m2]
      by_cases ei : (i : Int) = l
      · have e3 : l.toNat = i := by omega
        have e4 := c3
        rw [e3, hy] at e4
        have e2 : y = q := by omega
        rw [e2, ei, upB_same, upA_same]
      · have e2 : y ≠ q := fun e => ei (by
          have e5 := h.1 i l.toNat (by omega) (by omega) (by rw [hy, c3, e])
          omega)
        rw [upB_ne e2, upA_ne ei]
        exact h.2 i (by omega) y hy
    · exfalso; omega
theorem RB_byb {T : Nat → Nat → Nat} {v : Nat → Nat → Int} {x : Nat} {n : Nat → Int} {f : Nat → Int → Int} {l a b c d e z1 z2 : Int} {S1 S2 S3 : Int → List Int} (h : RBk T v x n f) (hB : Book_ (f 67) (n 12) (n 29)) (hl : v 202 (T 181 x) = n 12) (hw : v 202 (T 182 x) = n 29)
    (hc : (z1 = -1 ∧ ¬ ((0 ≤ l ∧ l < v 202 (T 181 x)) ∧ (0 ≤ a ∧ a ≤ 99 ∧ 0 ≤ b ∧ b ≤ 9 ∧ 0 ≤ c ∧ c ≤ 299 ∧ 0 ≤ d ∧ d ≤ 1 ∧ -99 ≤ e ∧ e ≤ 299))) ∨ (((0 ≤ l ∧ l < v 202 (T 181 x)) ∧ (0 ≤ a ∧ a ≤ 99 ∧ 0 ≤ b ∧ b ≤ 9 ∧ 0 ≤ c ∧ c ≤ 299 ∧ 0 ≤ d ∧ d ≤ 1 ∧ -99 ≤ e ∧ e ≤ 299)) ∧ ∃ g : Int → Int, z1 = g l ∧ Owc_ (fun y w => ∃ x_, ELn_ T 181 x (y).toNat = x_ + 1 ∧ w = nrm_ (v 202 (T 182 x)) (v 25 x_)) (fcf_ a b c d e) g (l + 1) S1 S2 S3))
    (hm : (z2 = -1 ∧ ¬ ((0 ≤ l ∧ l < n 12) ∧ (0 ≤ a ∧ a ≤ 99 ∧ 0 ≤ b ∧ b ≤ 9 ∧ 0 ≤ c ∧ c ≤ 299 ∧ 0 ≤ d ∧ d ≤ 1 ∧ -99 ≤ e ∧ e ≤ 299))) ∨ (((0 ≤ l ∧ l < n 12) ∧ (0 ≤ a ∧ a ≤ 99 ∧ 0 ≤ b ∧ b ≤ 9 ∧ 0 ≤ c ∧ c ≤ 299 ∧ 0 ≤ d ∧ d ≤ 1 ∧ -99 ≤ e ∧ e ≤ 299)) ∧ ∃ g : Int → Int, z2 = g l ∧ ∀ y, 0 ≤ y → y ≤ l → ∃ w, w = f 67 y ∧ -1 ≤ w ∧ g y = ow1_ (fcf_ a b c d e) g y w (S1 w) (S2 w) (S3 w))) : z1 = z2 := by
  rcases hc with ⟨c0, c1⟩ | ⟨c1, g, c2, c3⟩
  · rcases hm with ⟨m0, m1⟩ | ⟨m1, g2, m2, m3⟩
    · omega
    · exact absurd ⟨by omega, m1.2⟩ c1
  · rcases hm with ⟨m0, m1⟩ | ⟨m1, g2, m2, m3⟩
    · exact absurd ⟨by omega, c1.2⟩ m1
    · have o2 : Owc_ (fun y w => w = f 67 y) (fcf_ a b c d e) g2 (l + 1) S1 S2 S3 := fun y h0 h1 => m3 y h0 (by omega)
      rw [c2, m2]
      refine ow_det c3 o2 (fun y h0 h1 w w2 q1 q2 => ?_) l m1.1.1 (by omega)
      obtain ⟨x_, e1, e2⟩ := q1
      have e3 := RBk_at h h0 (by omega) e1
      have e4 := hB y h0 (by omega)
      have q2 : w2 = f 67 y := q2
      rw [e2, q2, e3, hw]
      by_cases k : f 67 y = -1
      · rw [(nrm_rg (n 29) (f 67 y)).2 (by omega), k]
      · exact (nrm_rg (n 29) (f 67 y)).1 (by omega)
theorem RF_line {n n2 : Nat → Int} {f f2 : Nat → Int → Int} {X : Int} {G : Int → Int} (h : Fut_ (f 18) (n 1) (n 12)) (hn : 0 ≤ n 1) (e1 : n2 1 = n 1) (e12 : n2 12 = X) (g : f2 18 = G) (hm : (X = n 12 ∧ G = f 18) ∨ (X = n 12 + 1 ∧ (∀ t, 0 ≤ t → t < 200 → G (200 * n 12 + t) = -2) ∧ (∀ i, i < 200 * n 12 → G i = f 18 i))) : Fut_ (f2 18) (n2 1) (n2 12) := by
  rw [e1, e12, g]
  rcases hm with ⟨a, b⟩ | ⟨a, b, c⟩
  · rw [a, b]; exact h
  · intro l t l0 l1 t0 t1
    by_cases e : l = n 12
    · rw [e, b t (by omega) t1]; decide
    · rw [c _ (by omega)]; exact h l t l0 (by omega) t0 t1
theorem RF_sum {n n2 : Nat → Int} {f f2 : Nat → Int → Int} {X : Int} {G : Int → Int} (h : Fut_ (f 18) (n 1) (n 12)) (e1 : n2 1 = X) (e12 : n2 12 = n 12) (g : f2 18 = G) (hm : (X = n 1 ∧ G = f 18) ∨ Fut_ G X (n 12)) : Fut_ (f2 18) (n2 1) (n2 12) := by
  rw [e1, e12, g]
  rcases hm with ⟨a, b⟩ | a
  · rw [a, b]; exact h
  · exact a
/-! ===== the wordings' codes ===== -/
def RSm (n : Nat → Int) (f : Nat → Int → Int) (S1 S2 S3 : Int → List Int) : Prop := ∀ w, 0 ≤ w → w < n 29 → (cL_ (f 32) (f 33) (400 * w + 0) (400 * w + f 34 w) = (S1 w) ∧ cL_ (f 32) (f 33) (400 * w + f 34 w) (400 * w + f 35 w) = (S2 w) ∧ cL_ (f 32) (f 33) (400 * w + f 35 w) (400 * w + f 36 w) = (S3 w) ∧ TyN_ (S1 w) ∧ TyB_ (S2 w) ∧ TyB_ (S3 w))
def RS (T : Nat → Nat → Nat) (v : Nat → Nat → Int) (x : Nat) (n : Nat → Int) (f : Nat → Int → Int) : Prop := ∃ S1 S2 S3 : Int → List Int, Wd_ T (v 300) x (v 202 (T 182 x)) S1 S2 S3 ∧ RSm n f S1 S2 S3
theorem RS_same {T2 : Nat → Nat → Nat} {v2 : Nat → Nat → Int} {x : Nat} {n n2 : Nat → Int} {f f2 : Nat → Int → Int} {S1 S2 S3 : Int → List Int} (hm : RSm n f S1 S2 S3) (hc : Wd_ T2 (v2 300) x (v2 202 (T2 182 x)) S1 S2 S3) (g29 : n2 29 = n 29) (g32 : f2 32 = f 32) (g33 : f2 33 = f 33) (g34 : f2 34 = f 34) (g35 : f2 35 = f 35) (g36 : f2 36 = f 36) : RS T2 v2 x n2 f2 := by
  refine ⟨S1, S2, S3, hc, fun w h0 h1 => ?_⟩
  rw [g32, g33, g34, g35, g36]
  exact hm w h0 (by omega)
theorem wd_kd {D : va_G} {cy : Nat → ClassId} {H : Heap} {T : Nat → Nat → Nat} {v : Nat → Nat → Int} {x : Nat} {ks : List Nat} {y2 : Nat → Int} {s : Int} {S1 S2 S3 : Int → List Int} (hw : WC D cy T v H) (hx : T 0 x = 9) (hk : Kd_ T ks (v 300) y2) (hn : 162 ∉ ks) (hs : s = v 202 (T 182 x)) (h : Wd_ T (v 300) x (v 202 (T 182 x)) S1 S2 S3) : Wd_ T y2 x s S1 S2 S3 := by
  rw [hs]
  intro w h0 h1 a ha
  refine wd_at h h0 h1 ha (fun i => hk _ ?_ i)
  rw [wok (wo_162 hw.2.1 (wl_ty hw (wt_182 hw.2.1 hx) (we_182 hw.2.1 hx) ha h0 h1)) (by decide)]
  exact hn
theorem wd_mk {D : va_G} {cy : Nat → ClassId} {H : Heap} {T T2 : Nat → Nat → Nat} {v : Nat → Nat → Int} {x sz : Nat} {ks : List Nat} {y2 : Nat → Int} {s : Int} {S1 S2 S3 : Int → List Int} (hw : WC D cy T v H) (hx : T 0 x = 9) (hsz : H.size = sz) (hC : (∀ b, b < sz → T 0 b ≠ 10 → T 0 b ≠ 24 → T 0 b ≠ 26 → b ≠ x → ∀ j, j ≠ 197 → T2 j b = T j b)) (hk : KdA_ T sz ks (v 300) y2) (hn : 162 ∉ ks) (he : ∀ i : Nat, ELn_ T2 182 x i = ELn_ T 182 x i) (hs : s = v 202 (T 182 x)) (h : Wd_ T (v 300) x (v 202 (T 182 x)) S1 S2 S3) : Wd_ T2 y2 x s S1 S2 S3 := by
  rw [hs]
  exact wd_mv h (fun i _ => he i) (wd_ho hw hx hsz hC hk hn)
def nw_ {α : Type} (m : Int) (a : α) (S : Int → α) : Int → α := fun w => if w = m then a else S w
theorem nw_e {α : Type} {m : Int} {a : α} {S : Int → α} : nw_ m a S m = a := if_pos rfl
theorem nw_n {α : Type} {m w : Int} {a : α} {S : Int → α} (h : ¬ w = m) : nw_ m a S w = S w := if_neg h
theorem RS_wor {D : va_G} {cy : Nat → ClassId} {H : Heap} {T T2 : Nat → Nat → Nat} {v v2 : Nat → Nat → Int} {x : Nat} {n n2 : Nat → Int} {f f2 : Nat → Int → Int} {K V P : Int → Int} {sz : Nat} {ks : List Nat} {z1 z2 X29 s2 k2 p2 : Int} {G32 G33 G34 G35 G36 : Int → Int} {S1 S2 S3 : Int → List Int} {C1 C2 C3 : Prop} {B : Int → Prop} (hw : WC D cy T v H) (hx : T 0 x = 9) (hsz : H.size = sz) (hC : (∀ b, b < sz → T 0 b ≠ 10 → T 0 b ≠ 24 → T 0 b ≠ 26 → b ≠ x → ∀ j, j ≠ 197 → T2 j b = T j b)) (hk : KdA_ T sz ks (v 300) (v2 300)) (hn : 162 ∉ ks) (hW : Wd_ T (v 300) x (v 202 (T 182 x)) S1 S2 S3) (hM : RSm n f S1 S2 S3) (ha : v 202 (T 182 x) = n 29) (h29 : 0 ≤ n 29) (hv : n 29 < 32 → ∀ j, 0 ≤ j → K j = 3 → 0 ≤ V j) (hz : z1 = z2) (hs : v2 202 (T2 182 x) = s2) (g29 : n2 29 = X29) (g32 : f2 32 = G32) (g33 : f2 33 = G33) (g34 : f2 34 = G34) (g35 : f2 35 = G35) (g36 : f2 36 = G36)
    (hc : Wx_ K V P (v 202 (T 182 x)) s2 z1 k2 p2 ((∀ i : Nat, ELn_ T2 182 x i = ELn_ T 182 x i) ∧ v2 160 = v 160) (fun K_ V_ cnt_ a1_ a2_ a3_ => ∃ q_ : Nat, sz ≤ q_ ∧ (∀ i : Nat, (i : Int) < v 202 (T 182 x) → ELn_ T2 182 x i = ELn_ T 182 x i) ∧ ELn_ T2 182 x (v 202 (T 182 x)).toNat = q_ + 1 ∧ T2 0 q_ = 8 ∧ (∀ y_ : Nat, y_ ≠ q_ → v2 160 y_ = v 160 y_) ∧ Wq_ T2 (v2 300) (v2 160) q_ (v 202 (T 182 x)) cnt_ K_ V_ a1_ a2_ a3_))
    (hm : (z2 = -1 ∧ X29 = n 29 ∧ C1) ∨ (z2 = n 29 ∧ X29 = n 29 + 1 ∧ n 29 < 32 ∧ C2 ∧ C3 ∧ ∃ jn : Int, 0 ≤ jn ∧ Ra_ K V 9 jn [cL_ G32 G33 (400 * n 29 + G35 (n 29)) (400 * n 29 + G36 (n 29)), cL_ G32 G33 (400 * n 29 + G34 (n 29)) (400 * n 29 + G35 (n 29)), cL_ G32 G33 (400 * n 29 + 0) (400 * n 29 + G34 (n 29))] ∧ B jn))
    (fr : Fr_ (f 32) (f 33) G32 G33 (400 * n 29)) (tr : ∀ i, i ≠ n 29 → G34 i = f 34 i ∧ G35 i = f 35 i ∧ G36 i = f 36 i) (cod : Cod_ (f 32) (f 33) (f 34) (f 35) (f 36) (n 29)) : RS T2 v2 x n2 f2 := by
  subst g32 g33 g34 g35 g36
  have ho := wd_ho hw hx hsz hC hk hn
  have old : ∀ w, 0 ≤ w → w < n 29 → (cL_ (f2 32) (f2 33) (400 * w + 0) (400 * w + f2 34 w) = (S1 w) ∧ cL_ (f2 32) (f2 33) (400 * w + f2 34 w) (400 * w + f2 35 w) = (S2 w) ∧ cL_ (f2 32) (f2 33) (400 * w + f2 35 w) (400 * w + f2 36 w) = (S3 w) ∧ TyN_ (S1 w) ∧ TyB_ (S2 w) ∧ TyB_ (S3 w)) := fun w h0 h1 => by
    obtain ⟨e1, e2, e3, t⟩ := hM w h0 h1
    obtain ⟨r1, r2, r3⟩ := tr w (by omega)
    have b := (cod w h0 h1).1
    rw [r1, r2, r3]
    exact ⟨(cL_fr fr (by omega)).trans e1, (cL_fr fr (by omega)).trans e2, (cL_fr fr (by omega)).trans e3, t⟩
  have keep : (∀ i : Nat, (i : Int) < v 202 (T 182 x) → ELn_ T2 182 x i = ELn_ T 182 x i) → Wd_ T2 (v2 300) x (v 202 (T 182 x)) S1 S2 S3 := fun he => wd_mv hW he ho
  have same : (∀ i : Nat, ELn_ T2 182 x i = ELn_ T 182 x i) → s2 = v 202 (T 182 x) → X29 = n 29 → RS T2 v2 x n2 f2 := fun he e1 e2 => ⟨S1, S2, S3, by rw [hs, e1]; exact keep (fun i _ => he i), fun w h0 h1 => old w h0 (by omega)⟩
  rcases hm with ⟨m1, m2, -⟩ | ⟨m1, m2, m3, -, -, jm, mj, m6, -⟩
  · rcases hc with ⟨c1, c2, c3, c4, c5, c6⟩ | ⟨c1, ⟨c2, c3, -⟩ | ⟨c2, c3, -, -, c6⟩⟩
    · exact same c6.1 c5 m2
    · exfalso; omega
    · exact same c6.1 c3 m2
  · rcases hc with ⟨c1, c2, -⟩ | ⟨c1, ⟨c2, c3, -, -, jc, a1, a2, a3, cj, c6, q, hq, he, hq1, -, -, hq2⟩ | ⟨c2, -⟩⟩
    · exfalso; omega
    · have j1 := List.cons.inj (rd_same c6 m6).2
      have j2 := List.cons.inj j1.2
      have j3 := List.cons.inj j2.2
      obtain ⟨s3, s2_, s1, es, t1, t2, t3⟩ := Iv_acc (hv m3) c6
      have i1 := List.cons.inj es
      have i2 := List.cons.inj i1.2
      have i3 := List.cons.inj i2.2
      rw [← i3.1] at t1
      rw [← i2.1] at t2
      rw [← i1.1] at t3
      refine ⟨nw_ (n 29) a1 S1, nw_ (n 29) a2 S2, nw_ (n 29) a3 S3, fun w h0 h1 a ha2 => ?_, fun w h0 h1 => ?_⟩
      · by_cases e : w = n 29
        · subst e
          have ea : a = q := by
            rw [ha] at hq1
            rw [hq1] at ha2
            omega
          rw [nw_e, nw_e, nw_e, ea]
          exact ⟨hq2.1, t1, t2, t3⟩
        · rw [nw_n e, nw_n e, nw_n e]
          exact keep he w h0 (by rw [hs, c3] at h1; omega) a ha2
      · by_cases e : w = n 29
        · subst e
          rw [nw_e, nw_e, nw_e]
          exact ⟨j3.1.symm, j2.1.symm, j1.1.symm, t1, t2, t3⟩
        · rw [nw_n e, nw_n e, nw_n e]
          exact old w h0 (by omega)
    · exfalso; omega
