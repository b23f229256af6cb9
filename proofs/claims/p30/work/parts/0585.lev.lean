def ne_ (a b : Int) : Int := if a = b then 0 else 1
theorem ne_rg (a b : Int) : 0 ≤ ne_ a b ∧ ne_ a b ≤ 1 := by
  unfold ne_
  split
  · exact ⟨Int.le_refl 0, by decide⟩
  · exact ⟨by decide, Int.le_refl 1⟩
theorem ne_e {a b : Int} (h : a = b) : ne_ a b = 0 := if_pos h
theorem ne_n {a b : Int} (h : ¬ a = b) : ne_ a b = 1 := if_neg h
theorem ne_sy (a b : Int) : ne_ a b = ne_ b a := by
  by_cases h : a = b
  · rw [ne_e h, ne_e h.symm]
  · rw [ne_n h, ne_n (fun q => h q.symm)]
def mn_ (a b : Int) : Int := if a < b then a else b
theorem mn_rg (a b : Int) : mn_ a b ≤ a ∧ mn_ a b ≤ b ∧ (mn_ a b = a ∨ mn_ a b = b) := by
  unfold mn_
  split <;> omega
/-- of the first i of a, and the first j of b -/
def Ld_ (a b : Int → Int) : Nat → Nat → Int
  | 0, j => (j : Int)
  | i + 1, 0 => (i : Int) + 1
  | i + 1, j + 1 => mn_ (Ld_ a b i j + ne_ (a (i : Int)) (b (j : Int))) (mn_ (Ld_ a b i (j + 1)) (Ld_ a b (i + 1) j) + 1)
section Lev
variable {a b a2 b2 : Int → Int}
theorem Ld_0 {j : Nat} : Ld_ a b 0 j = (j : Int) := by rw [Ld_]
theorem Ld_z {i : Nat} : Ld_ a b i 0 = (i : Int) := by
  cases i with
  | zero => exact Ld_0
  | succ i => rw [Ld_]; first | done | omega
theorem Ld_s {i j : Nat} : Ld_ a b (i + 1) (j + 1) = mn_ (Ld_ a b i j + ne_ (a (i : Int)) (b (j : Int))) (mn_ (Ld_ a b i (j + 1)) (Ld_ a b (i + 1) j) + 1) := by rw [Ld_]
theorem Ld_nn : ∀ i j : Nat, 0 ≤ Ld_ a b i j := by
  intro i
  induction i with
  | zero => intro j; rw [Ld_0]; omega
  | succ i ih =>
    intro j
    induction j with
    | zero => rw [Ld_z]; omega
    | succ j jh =>
      rw [Ld_s]
      have h1 := ih j
      have h2 := ih (j + 1)
      have h3 := ne_rg (a (i : Int)) (b (j : Int))
      have h4 := mn_rg (Ld_ a b i (j + 1)) (Ld_ a b (i + 1) j)
      have h5 := mn_rg (Ld_ a b i j + ne_ (a (i : Int)) (b (j : Int))) (mn_ (Ld_ a b i (j + 1)) (Ld_ a b (i + 1) j) + 1)
      omega
theorem Ld_upj (i j : Nat) : Ld_ a b i (j + 1) ≤ Ld_ a b i j + 1 := by
  cases i with
  | zero => rw [Ld_0, Ld_0]; omega
  | succ i =>
    rw [Ld_s]
    have h4 := mn_rg (Ld_ a b i (j + 1)) (Ld_ a b (i + 1) j)
    have h5 := mn_rg (Ld_ a b i j + ne_ (a (i : Int)) (b (j : Int))) (mn_ (Ld_ a b i (j + 1)) (Ld_ a b (i + 1) j) + 1)
    omega
theorem Ld_upi (i j : Nat) : Ld_ a b (i + 1) j ≤ Ld_ a b i j + 1 := by
  cases j with
  | zero => rw [Ld_z, Ld_z]; omega
  | succ j =>
    rw [Ld_s]
    have h4 := mn_rg (Ld_ a b i (j + 1)) (Ld_ a b (i + 1) j)
    have h5 := mn_rg (Ld_ a b i j + ne_ (a (i : Int)) (b (j : Int))) (mn_ (Ld_ a b i (j + 1)) (Ld_ a b (i + 1) j) + 1)
    omega
theorem Ld_dni (i : Nat) : ∀ j : Nat, Ld_ a b i j ≤ Ld_ a b (i + 1) j + 1 := by
  intro j
  induction j with
  | zero => rw [Ld_z, Ld_z]; omega
  | succ j jh =>
    have h1 := Ld_upj (a := a) (b := b) i j
    rw [Ld_s]
    have h3 := ne_rg (a (i : Int)) (b (j : Int))
    have h4 := mn_rg (Ld_ a b i (j + 1)) (Ld_ a b (i + 1) j)
    have h5 := mn_rg (Ld_ a b i j + ne_ (a (i : Int)) (b (j : Int))) (mn_ (Ld_ a b i (j + 1)) (Ld_ a b (i + 1) j) + 1)
    omega
theorem Ld_sy : ∀ i j : Nat, Ld_ a b i j = Ld_ b a j i := by
  intro i
  induction i with
  | zero => intro j; rw [Ld_0, Ld_z]
  | succ i ih =>
    intro j
    induction j with
    | zero => rw [Ld_0, Ld_z]
    | succ j jh =>
      rw [Ld_s, Ld_s, ih j, ih (j + 1), jh, ne_sy]
      have h4 := mn_rg (Ld_ b a (j + 1) i) (Ld_ b a j (i + 1))
      have h5 := mn_rg (Ld_ b a j (i + 1)) (Ld_ b a (j + 1) i)
      rw [show mn_ (Ld_ b a (j + 1) i) (Ld_ b a j (i + 1)) = mn_ (Ld_ b a j (i + 1)) (Ld_ b a (j + 1) i) by omega]
theorem Ld_dnj (i j : Nat) : Ld_ a b i j ≤ Ld_ a b i (j + 1) + 1 := by
  rw [Ld_sy i j, Ld_sy i (j + 1)]
  exact Ld_dni j i
/-- what two texts share at their ends is never changed -/
theorem Ld_tl {i j : Nat} (h : a (i : Int) = b (j : Int)) : Ld_ a b (i + 1) (j + 1) = Ld_ a b i j := by
  rw [Ld_s, ne_e h]
  have h1 := Ld_dni (a := a) (b := b) i j
  have h2 := Ld_dnj (a := a) (b := b) i j
  have h4 := mn_rg (Ld_ a b i (j + 1)) (Ld_ a b (i + 1) j)
  have h5 := mn_rg (Ld_ a b i j + 0) (mn_ (Ld_ a b i (j + 1)) (Ld_ a b (i + 1) j) + 1)
  omega
theorem Ld_h1 (h : a 0 = b 0) : ∀ j : Nat, Ld_ a b 1 (j + 1) = (j : Int) := by
  intro j
  induction j with
  | zero =>
    rw [Ld_tl (i := 0) (j := 0) h]; exact Ld_0
  | succ j jh =>
    rw [Ld_s (i := 0), Ld_0, Ld_0, jh]
    have h3 := ne_rg (a ((0 : Nat) : Int)) (b ((j + 1 : Nat) : Int))
    have h4 := mn_rg (((j + 1 + 1 : Nat) : Int)) (j : Int)
    have h5 := mn_rg (((j + 1 : Nat) : Int) + ne_ (a ((0 : Nat) : Int)) (b ((j + 1 : Nat) : Int))) (mn_ (((j + 1 + 1 : Nat) : Int)) (j : Int) + 1)
    omega
/-- what two texts share at their heads is never changed -/
theorem Ld_hd (h : a 0 = b 0) : ∀ i j : Nat, Ld_ a b (i + 1) (j + 1) = Ld_ (fun k => a (k + 1)) (fun k => b (k + 1)) i j := by
  intro i
  induction i with
  | zero => intro j; rw [Ld_0]; exact Ld_h1 h j
  | succ i ih =>
    intro j
    induction j with
    | zero =>
      rw [Ld_z, Ld_sy, Ld_h1 h.symm]
    | succ j jh =>
      rw [Ld_s (a := a), Ld_s (a := fun k => a (k + 1)), ih j, ih (j + 1), jh]
      rfl
theorem Ld_hds : ∀ (h : Nat) (a b : Int → Int), (∀ k : Nat, k < h → a (k : Int) = b (k : Int)) → ∀ i j : Nat, Ld_ a b (h + i) (h + j) = Ld_ (fun k => a (k + (h : Int))) (fun k => b (k + (h : Int))) i j := by
  intro h
  induction h with
  | zero =>
    intro a b _ i j
    have e : ∀ g : Int → Int, (fun k => g (k + ((0 : Nat) : Int))) = g := fun g => funext fun k => congrArg g (by omega)
    rw [e a, e b, Nat.zero_add, Nat.zero_add]
  | succ h ih =>
    intro a b hk i j
    have q := Ld_hd (a := a) (b := b) (hk 0 (by omega)) (h + i) (h + j)
    rw [show h + 1 + i = h + i + 1 by omega, show h + 1 + j = h + j + 1 by omega, q, ih (fun k => a (k + 1)) (fun k => b (k + 1)) (fun k hl => by
      have q2 := hk (k + 1) (by omega)
      have e : ((k + 1 : Nat) : Int) = (k : Int) + 1 := by omega
      rw [e] at q2
      exact q2) i j]
    have e : ∀ g : Int → Int, (fun k => (fun k => g (k + 1)) (k + (h : Int))) = fun k => g (k + ((h + 1 : Nat) : Int)) := fun g => funext fun k => congrArg g (by omega)
    rw [e a, e b]
theorem Ld_tls {i j : Nat} : ∀ t : Nat, (∀ k : Nat, k < t → a ((i + k : Nat) : Int) = b ((j + k : Nat) : Int)) → Ld_ a b (i + t) (j + t) = Ld_ a b i j := by
  intro t
  induction t with
  | zero => intro _; rfl
  | succ t ih =>
    intro hk
    rw [show i + (t + 1) = i + t + 1 by omega, show j + (t + 1) = j + t + 1 by omega, Ld_tl (hk t (by omega))]
    exact ih (fun k hl => hk k (by omega))
theorem Ld_cg : ∀ i j : Nat, (∀ k : Nat, k < i → a2 (k : Int) = a (k : Int)) → (∀ k : Nat, k < j → b2 (k : Int) = b (k : Int)) → Ld_ a2 b2 i j = Ld_ a b i j := by
  intro i
  induction i with
  | zero => intro j _ _; rw [Ld_0, Ld_0]
  | succ i ih =>
    intro j
    induction j with
    | zero => intro _ _; rw [Ld_z, Ld_z]
    | succ j jh =>
      intro h1 h2
      rw [Ld_s, Ld_s, ih j (fun k hk => h1 k (by omega)) (fun k hk => h2 k (by omega)), ih (j + 1) (fun k hk => h1 k (by omega)) h2, jh h1 (fun k hk => h2 k (by omega)), h1 i (by omega), h2 j (by omega)]
theorem Ld_rf : ∀ i : Nat, Ld_ a a i i = 0 := by
  intro i
  induction i with
  | zero => exact Ld_0
  | succ i ih => rw [Ld_tl rfl]; exact ih
theorem Ld_le : ∀ i j : Nat, Ld_ a b i j ≤ (i : Int) + (j : Int) := by
  intro i j
  induction i with
  | zero => rw [Ld_0]; omega
  | succ i ih => have := Ld_upi (a := a) (b := b) i j; omega
theorem Ld_mx : ∀ i j : Nat, Ld_ a b i j ≤ (i : Int) ∨ Ld_ a b i j ≤ (j : Int) := by
  intro i
  induction i with
  | zero => intro j; exact Or.inr (by rw [Ld_0]; omega)
  | succ i ih =>
    intro j
    cases j with
    | zero => exact Or.inl (by rw [Ld_z]; omega)
    | succ j =>
      have h := ih j
      have h3 := ne_rg (a (i : Int)) (b (j : Int))
      have h5 := mn_rg (Ld_ a b i j + ne_ (a (i : Int)) (b (j : Int))) (mn_ (Ld_ a b i (j + 1)) (Ld_ a b (i + 1) j) + 1)
      rw [Ld_s]
      rcases h with h | h
      · exact Or.inl (by omega)
      · exact Or.inr (by omega)
end Lev
/-! ===== what the machine has passed can stand ===== -/
def pos_ (s : MS_) : Int := s.2.2.1
def Pas_ (K : Int → Int) (a b : Int) : Prop := a ≤ b ∧ ∀ i, a ≤ i → i < b → ¬ K i = 1 ∧ ¬ K i = 2
theorem Pas_rf {K : Int → Int} {a : Int} : Pas_ K a a := ⟨Int.le_refl a, fun i h1 h2 => absurd h2 (by omega)⟩
theorem Pas_tr {K : Int → Int} {a b c : Int} (h : Pas_ K a b) (h2 : Pas_ K b c) : Pas_ K a c := ⟨Int.le_trans h.1 h2.1, fun i i1 i2 => by
  rcases Int.lt_or_le i b with q | q
  · exact h.2 i i1 q
  · exact h2.2 i q i2⟩
theorem Pas_1 {K : Int → Int} {a : Int} (h : ¬ K a = 1 ∧ ¬ K a = 2) : Pas_ K a (a + 1) := ⟨by omega, fun i i1 i2 => by
  rw [show i = a by omega]; exact h⟩
theorem Pas_2 {K : Int → Int} {a : Int} (h : ¬ K a = 1 ∧ ¬ K a = 2) (h2 : ¬ K (a + 1) = 1 ∧ ¬ K (a + 1) = 2) : Pas_ K a (a + 2) := by
  rw [show a + 2 = a + 1 + 1 by omega]
  exact Pas_tr (Pas_1 h) (Pas_1 h2)
theorem ft_9 {k : Nat} {a : Int} (hk : 1 ≤ k) (h : (ft_ k a).1 ≤ 9) : False := by
  unfold ft_ at h
  have h : 10 + k ≤ 9 := h
  omega
section Pass
variable {K V : Int → Int} {c : Nat} {a : Int} {st out : List Int} {sg : List (List Int)}
theorem sU_pk (h : (sU_ K V c a st out sg).1 ≤ 9) : Pas_ K a (pos_ (sU_ K V c a st out sg)) := by
  unfold sU_ at h ⊢
  by_cases e1 : K a = 312
  · rw [if_pos e1] at h ⊢
    by_cases e2 : K (a + 1) = 3
    · rw [if_pos e2] at h ⊢
      by_cases e3 : V (a + 1) < 24
      · rw [if_pos e3] at h ⊢
        exact Pas_2 (by omega) (by omega)
      · rw [if_neg e3] at h ⊢
        exact (ft_9 (by decide) h).elim
    · rw [if_neg e2] at h ⊢
      exact (ft_9 (by decide) h).elim
  · rw [if_neg e1] at h ⊢
    by_cases e2 : 307 ≤ K a ∧ K a ≤ 311
    · rw [if_pos e2] at h ⊢
      exact Pas_1 (by omega)
    · rw [if_neg e2] at h ⊢
      by_cases e3 : K a = 3
      · rw [if_pos e3] at h ⊢
        exact Pas_1 (by omega)
      · rw [if_neg e3] at h ⊢
        exact (ft_9 (by decide) h).elim
theorem sP_pk (h : (sP_ K V c a st out sg).1 ≤ 9) : Pas_ K a (pos_ (sP_ K V c a st out sg)) := by
  unfold sP_ at h ⊢
  by_cases e1 : st.headD 0 = 42
  · rw [if_pos e1] at h ⊢
    exact Pas_rf
  · rw [if_neg e1] at h ⊢
    by_cases e2 : K a = 42
    · rw [if_pos e2] at h ⊢
      exact Pas_1 (by omega)
    · rw [if_neg e2] at h ⊢
      by_cases e3 : K a = 47
      · rw [if_pos e3] at h ⊢
        by_cases e4 : K (a + 1) = 3
        · rw [if_pos e4] at h ⊢
          by_cases e5 : V (a + 1) = 0
          · rw [if_pos e5] at h ⊢
            exact (ft_9 (by decide) h).elim
          · rw [if_neg e5] at h ⊢
            exact Pas_2 (by omega) (by omega)
        · rw [if_neg e4] at h ⊢
          exact (ft_9 (by decide) h).elim
      · rw [if_neg e3] at h ⊢
        by_cases e4 : st.headD 0 = 43 ∨ st.headD 0 = 45
        · rw [if_pos e4] at h ⊢
          exact Pas_rf
        · rw [if_neg e4] at h ⊢
          by_cases e5 : K a = 43 ∨ K a = 45
          · rw [if_pos e5] at h ⊢
            exact Pas_1 (by omega)
          · rw [if_neg e5] at h ⊢
            by_cases e6 : c = 0
            · rw [if_pos e6] at h ⊢
              exact Pas_rf
            · rw [if_neg e6] at h ⊢
              by_cases e7 : c = 1
              · rw [if_pos e7] at h ⊢
                by_cases e8 : K a = 60 ∨ K a = 61 ∨ K a = 62
                · rw [if_pos e8] at h ⊢
                  exact Pas_1 (by omega)
                · rw [if_neg e8] at h ⊢
                  exact (ft_9 (by decide) h).elim
              · rw [if_neg e7] at h ⊢
                exact Pas_rf
theorem sD_pk (h : (sD_ K a st out sg).1 ≤ 9) : Pas_ K a (pos_ (sD_ K a st out sg)) := by
  unfold sD_ at h ⊢
  by_cases e1 : K a = 306 ∨ K a = 40
  · rw [if_pos e1] at h ⊢
    by_cases e2 : 8 ≤ opn_ st
    · rw [if_pos e2] at h ⊢
      exact (ft_9 (by decide) h).elim
    · rw [if_neg e2] at h ⊢
      exact Pas_1 (by omega)
  · rw [if_neg e1] at h ⊢
    exact Pas_rf
theorem sC_pk (h : (sC_ K a st out sg).1 ≤ 9) : Pas_ K a (pos_ (sC_ K a st out sg)) := by
  unfold sC_ at h ⊢
  by_cases e1 : st.headD 0 = 306 ∨ st.headD 0 = 305
  · rw [if_pos e1] at h ⊢
    exact Pas_rf
  · rw [if_neg e1] at h ⊢
    by_cases e2 : K a = 305
    · rw [if_pos e2] at h ⊢
      exact Pas_1 (by omega)
    · rw [if_neg e2] at h ⊢
      by_cases e3 : st.headD 0 = 304
      · rw [if_pos e3] at h ⊢
        exact Pas_rf
      · rw [if_neg e3] at h ⊢
        by_cases e4 : K a = 304
        · rw [if_pos e4] at h ⊢
          exact Pas_1 (by omega)
        · rw [if_neg e4] at h ⊢
          by_cases e5 : st.headD 0 = 13
          · rw [if_pos e5] at h ⊢
            by_cases e6 : K a = 41
            · rw [if_pos e6] at h ⊢
              exact Pas_1 (by omega)
            · rw [if_neg e6] at h ⊢
              exact (ft_9 (by decide) h).elim
          · rw [if_neg e5] at h ⊢
            by_cases e6 : st.headD 0 = 302
            · rw [if_pos e6] at h ⊢
              exact Pas_rf
            · rw [if_neg e6] at h ⊢
              exact Pas_rf
theorem s0_pk (h : ((if K a = 301 then (1, 0, a + 1, [], [], []) else ft_ 1 a : MS_)).1 ≤ 9) : Pas_ K a (pos_ (if K a = 301 then (1, 0, a + 1, [], [], []) else ft_ 1 a : MS_)) := by
  by_cases e1 : K a = 301
  · rw [if_pos e1] at h ⊢
    exact Pas_1 (by omega)
  · rw [if_neg e1] at h ⊢
    exact (ft_9 (by decide) h).elim
theorem s3_pk (h : ((if K a = 302 then (4, 0, a + 1, [302], [], sg) else (6, 0, a, [], [], [] :: sg) : MS_)).1 ≤ 9) : Pas_ K a (pos_ (if K a = 302 then (4, 0, a + 1, [302], [], sg) else (6, 0, a, [], [], [] :: sg) : MS_)) := by
  by_cases e1 : K a = 302
  · rw [if_pos e1] at h ⊢
    exact Pas_1 (by omega)
  · rw [if_neg e1] at h ⊢
    exact Pas_rf
theorem s6_pk (h : ((if K a = 303 then (4, 0, a + 1, [303], [], sg) else (7, 0, a, [], [], [] :: sg) : MS_)).1 ≤ 9) : Pas_ K a (pos_ (if K a = 303 then (4, 0, a + 1, [303], [], sg) else (7, 0, a, [], [], [] :: sg) : MS_)) := by
  by_cases e1 : K a = 303
  · rw [if_pos e1] at h ⊢
    exact Pas_1 (by omega)
  · rw [if_neg e1] at h ⊢
    exact Pas_rf
theorem s7_pk (h : ((if K a = 59 then (8, 0, a + 1, [], [], sg) else ft_ 1 a : MS_)).1 ≤ 9) : Pas_ K a (pos_ (if K a = 59 then (8, 0, a + 1, [], [], sg) else ft_ 1 a : MS_)) := by
  by_cases e1 : K a = 59
  · rw [if_pos e1] at h ⊢
    exact Pas_1 (by omega)
  · rw [if_neg e1] at h ⊢
    exact (ft_9 (by decide) h).elim
theorem s8_pk (h : ((if K a = 1 then (9, 0, a, [], [], sg) else ft_ 1 a : MS_)).1 ≤ 9) : Pas_ K a (pos_ (if K a = 1 then (9, 0, a, [], [], sg) else ft_ 1 a : MS_)) := by
  by_cases e1 : K a = 1
  · rw [if_pos e1] at h ⊢
    exact Pas_rf
  · rw [if_neg e1] at h ⊢
    exact (ft_9 (by decide) h).elim
end Pass
theorem stp_ok {K V : Int → Int} : ∀ s : MS_, (stp_ K V s).1 ≤ 9 → Pas_ K (pos_ s) (pos_ (stp_ K V s))
  | (0, _, _, _, _, _), h => s0_pk h
  | (1, _, _, _, _, _), h => sU_pk h
  | (2, _, _, _, _, _), h => sP_pk h
  | (3, _, _, _, _, _), h => s3_pk h
  | (4, _, _, _, _, _), h => sD_pk h
  | (5, _, _, _, _, _), h => sC_pk h
  | (6, _, _, _, _, _), h => s6_pk h
  | (7, _, _, _, _, _), h => s7_pk h
  | (8, _, _, _, _, _), h => s8_pk h
  | (m + 9, _, _, _, _, _), _ => Pas_rf
theorem itr_9 {K V : Int → Int} {s : MS_} (h : ¬ s.1 ≤ 9) : ∀ k : Nat, itr_ K V k s = s := by
  have h2 : stp_ K V s = s := by
    obtain ⟨m, c, a, st, out, sg⟩ := s
    have h : ¬ m ≤ 9 := h
    obtain ⟨d, rfl⟩ : ∃ d, m = d + 9 := ⟨m - 9, by omega⟩
    rfl
  exact itr_fix h2
theorem itr_ok {K V : Int → Int} : ∀ (k : Nat) (s : MS_), (itr_ K V k s).1 ≤ 9 → Pas_ K (pos_ s) (pos_ (itr_ K V k s))
  | 0, _, _ => Pas_rf
  | k + 1, s, h => by
    have h1 : (stp_ K V s).1 ≤ 9 := by
      by_cases q : (stp_ K V s).1 ≤ 9
      · exact q
      · have h : (itr_ K V k (stp_ K V s)).1 ≤ 9 := h
        rw [itr_9 q] at h
        exact h
    exact Pas_tr (stp_ok s h1) (itr_ok k (stp_ K V s) h)
