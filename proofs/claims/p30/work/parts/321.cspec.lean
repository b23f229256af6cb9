/-! tokens of a text, as the scanner lays them -/
def Ch_ (g : Int → Int) (n : Int) (y : Nat → Int) (ka va pa : Nat) (cnt b : Int) : Prop := 0 ≤ cnt ∧ ∃ Q : Int → Int, Q 0 = 0 ∧ (∀ j, 0 ≤ j → j < cnt → Lx_ g n (Q j) (gC_ y ka j) (gC_ y va j) (gC_ y pa j) (Q (j + 1)) ∧ ¬ gC_ y ka j = 1) ∧ Q cnt ≤ b ∧ Bk_ g (Q cnt) b ∧ cnt ≤ Q cnt
theorem Ch_0 {g : Int → Int} {n : Int} {y : Nat → Int} {ka va pa : Nat} : Ch_ g n y ka va pa 0 0 := ⟨Int.le_refl 0, fun _ => 0, rfl, fun j h1 h2 => absurd h2 (by omega), Int.le_refl 0, bk_0, Int.le_refl 0⟩
theorem Ch_cnt {g : Int → Int} {n : Int} {y : Nat → Int} {ka va pa : Nat} {cnt b : Int} (h : Ch_ g n y ka va pa cnt b) : 0 ≤ cnt ∧ cnt ≤ b := by
  obtain ⟨h0, Q, -, -, h3, -, h5⟩ := h
  exact ⟨h0, by omega⟩
theorem Ch_bl {g : Int → Int} {n : Int} {y : Nat → Int} {ka va pa : Nat} {cnt b : Int} (h : Ch_ g n y ka va pa cnt b) (hb : isBl_ (g b)) : Ch_ g n y ka va pa cnt (b + 1) := by
  obtain ⟨h0, Q, h1, h2, h3, h4, h5⟩ := h
  exact ⟨h0, Q, h1, h2, by omega, bk_st h4 hb, h5⟩
theorem Ch_tk {g : Int → Int} {n : Int} {y : Nat → Int} {ka va pa : Nat} {cnt b k x e : Int} (h : Ch_ g n y ka va pa cnt b) (hb : ¬ isBl_ (g b)) (hl : Lt_ g n b k x e) (n1 : ka ≠ va) (n2 : ka ≠ pa) (n3 : va ≠ pa) : Ch_ g n (upB (upB (upB y (pr ka cnt.toNat) k) (pr va cnt.toNat) x) (pr pa cnt.toNat) b) ka va pa (cnt + 1) e := by
  obtain ⟨h0, Q, h1, h2, h3, h4, h5⟩ := h
  have he := hl.2.1
  refine ⟨by omega, upA Q (cnt + 1) e, ?_, fun j j1 j2 => ?_, ?_, ?_, ?_⟩
  · rw [upA_ne (by omega)]; exact h1
  · by_cases ej : j = cnt
    · subst ej
      rw [upA_ne (show j ≠ j + 1 by omega), upA_same, gC_up (Ne.symm (Ne.symm n2)), gC_up n1, gC_us, gC_up n3, gC_us, gC_us]
      exact ⟨⟨h3, h4, Or.inr ⟨hb, hl⟩⟩, (Lt_kind hl).1⟩
    · rw [upA_ne (show j ≠ cnt + 1 by omega), upA_ne (show j + 1 ≠ cnt + 1 by omega), gC_up n2, gC_up n1, gC_ui h0 j1 ej, gC_up n3, gC_ui h0 j1 ej, gC_up (Ne.symm n1), gC_ui h0 j1 ej, gC_up (Ne.symm n3), gC_up (Ne.symm n2)]
      exact h2 j j1 (by omega)
  · rw [upA_same]; exact Int.le_refl e
  · rw [upA_same]; exact bk_0
  · rw [upA_same]; omega
theorem Ch_ne {g : Int → Int} {n : Int} {y : Nat → Int} {ka va pa : Nat} {cnt b : Int} (h : Ch_ g n y ka va pa cnt b) : ∀ j, 0 ≤ j → j < cnt → ¬ gC_ y ka j = 1 := by
  obtain ⟨h0, Q, -, h2, -⟩ := h
  exact fun j h1 h3 => (h2 j h1 h3).2
def kf_ (y : Nat → Int) (a : Nat) (cnt d : Int) : Int → Int := fun j => if j < cnt then gC_ y a j else d
theorem Ch_strm {g : Int → Int} {n : Int} {y : Nat → Int} {ka va pa : Nat} {cnt : Int} (h : Ch_ g n y ka va pa cnt n) (hn : 0 ≤ n) : ∃ Q : Int → Int, Strm_ g n (kf_ y ka cnt 1) (gC_ y va) (kf_ y pa cnt n) Q := by
  obtain ⟨h0, Q, h1, h2, h3, h4, h5⟩ := h
  refine ⟨fun j => if j ≤ cnt then Q j else n, ?_, fun j hj => ?_⟩
  · show (if (0 : Int) ≤ cnt then Q 0 else n) = 0
    rw [if_pos h0]; exact h1
  · show Lx_ g n (if j ≤ cnt then Q j else n) (if j < cnt then gC_ y ka j else 1) (gC_ y va j) (if j < cnt then gC_ y pa j else n) (if j + 1 ≤ cnt then Q (j + 1) else n)
    by_cases e : j < cnt
    · rw [if_pos (by omega), if_pos e, if_pos e, if_pos (by omega)]
      exact (h2 j hj e).1
    · have e3 : ¬ j + 1 ≤ cnt := by omega
      rw [if_neg e, if_neg e, if_neg e3]
      by_cases e2 : j = cnt
      · subst e2
        rw [if_pos (Int.le_refl j)]
        exact ⟨h3, h4, Or.inl ⟨rfl, rfl, rfl⟩⟩
      · rw [if_neg (by omega)]
        exact ⟨Int.le_refl n, bk_0, Or.inl ⟨rfl, rfl, rfl⟩⟩
/-! the reader's rows and its state -/
def RK_ (y : Nat → Int) (ka va : Nat) (cnt : Int) (K V : Int → Int) : Prop := (∀ j, 0 ≤ j → j < cnt → gC_ y ka j = K j ∧ gC_ y va j = V j ∧ ¬ K j = 1) ∧ (∀ j, cnt ≤ j → K j = 1) ∧ 0 ≤ cnt ∧ cnt ≤ 400 ∧ (∀ j, 0 ≤ j → K j = 3 → 0 ≤ V j ∧ V j ≤ 9999)
theorem RK_ro {y y2 : Nat → Int} {ka va c : Nat} {cnt : Int} {K V : Int → Int} (h : RK_ y ka va cnt K V) (r : Ro_ y y2 c) (h1 : ka ≠ c) (h2 : va ≠ c) : RK_ y2 ka va cnt K V := ⟨fun j j1 j2 => by
  have q := h.1 j j1 j2
  unfold gC_ at q ⊢
  rw [r ka h1, r va h2]
  exact q, h.2⟩
theorem RK_rb {y y2 : Nat → Int} {ka va c : Nat} {cnt b : Int} {K V : Int → Int} (h : RK_ y ka va cnt K V) (r : Rb_ y y2 c b) (h1 : ka ≠ c) (h2 : va ≠ c) : RK_ y2 ka va cnt K V := RK_ro h r.1 h1 h2
theorem RK_lt {y : Nat → Int} {ka va : Nat} {cnt : Int} {K V : Int → Int} (h : RK_ y ka va cnt K V) {j : Int} (hk : ¬ K j = 1) : j < cnt ∧ j < 400 := by
  have h4 := h.2.2.2.1
  rcases Int.lt_or_le j cnt with q | q
  · exact ⟨q, by omega⟩
  · exact absurd (h.2.1 j q) hk
def Cs_ (K : Int → Int) (a k f : Int) : Prop := (0 ≤ a ∧ a ≤ 400) ∧ ((f = 0 ∧ k = K a) ∨ (1 ≤ f ∧ f ≤ 3 ∧ k = 2))
def Tn_ (K V : Int → Int) (lo hi ad a k f a2 k2 f2 : Int) (o o2 : List Int) : Prop := (¬ k = 3 ∧ a2 = a ∧ k2 = 2 ∧ ((f = 0 ∧ f2 = 1) ∨ (¬ f = 0 ∧ f2 = f))) ∨ (k = 3 ∧ (V a < lo ∨ hi < V a) ∧ a2 = a ∧ k2 = 2 ∧ ((f = 0 ∧ f2 = 2) ∨ (¬ f = 0 ∧ f2 = f))) ∨ (k = 3 ∧ lo ≤ V a ∧ V a ≤ hi ∧ a2 = a + 1 ∧ k2 = K (a + 1) ∧ f2 = f ∧ o2 = o ++ [V a + ad])
theorem Cs_nf {K : Int → Int} {a k f : Int} (hc : Cs_ K a k f) (hk : ¬ k = 2) : f = 0 ∧ (0 ≤ a ∧ a ≤ 400) ∧ K a = k := by
  unfold Cs_ at hc
  rcases hc.2 with ⟨h1, h2⟩ | ⟨h1, h2, h3⟩
  · exact ⟨h1, hc.1, h2.symm⟩
  · exact absurd h3 hk
def TX_ (_ : Int) : Prop := True
def Cp_ (S : List Int → Prop) (X : Int → Prop) (K V : Int → Int) (a f a2 k2 f2 : Int) (o o2 : List Int) : Prop := (¬ f = 0 ∧ a2 = a ∧ f2 = f ∧ k2 = 2) ∨ (f = 0 ∧ f2 = 0 ∧ a < a2 ∧ a2 ≤ 400 ∧ k2 = K a2 ∧ X a2 ∧ Mg_ S K V a a2 o o2) ∨ (f = 0 ∧ (1 ≤ f2 ∧ f2 ≤ 3) ∧ (0 ≤ a2 ∧ a2 ≤ 400) ∧ k2 = 2 ∧ Mh_ S K V a f2 a2 o)
section Cls
variable {K V : Int → Int} {a k f a1 k1 f1 a2 k2 f2 a3 k3 f3 lo hi w s : Int} {p p1 p2 p3 q0 : List Int} {sg : List (List Int)}
theorem gU_line (h : K a = 312) (h2 : K (a + 1) = 3) (h3 : V (a + 1) < 24) (ho : p2 = p ++ [10000 + V (a + 1)]) : Mg_ T1_ K V a (a + 2) p p2 := fun _ _ _ _ => by
  rw [ho]
  exact Rch_st (sU_line h h2 h3)
theorem gU_fact (h : 307 ≤ K a ∧ K a ≤ 311) (ho : p2 = p ++ [-(K a)]) : Mg_ T1_ K V a (a + 1) p p2 := fun _ _ _ _ => by
  rw [ho]
  exact Rch_st (sU_fact h)
theorem gU_num (h : K a = 3) (ho : p2 = p ++ [V a]) : Mg_ T1_ K V a (a + 1) p p2 := fun _ _ _ _ => by
  rw [ho]
  exact Rch_st (sU_num h)
theorem Cp_cs {S : List Int → Prop} {X : Int → Prop} (hc : Cs_ K a k f) (h : Cp_ S X K V a f a2 k2 f2 p p2) : Cs_ K a2 k2 f2 := by
  unfold Cs_ at hc ⊢
  rcases h with ⟨h1, h2, h3, h4⟩ | ⟨h1, h2, h3, h4, h5, -⟩ | ⟨h1, h2, h3, h4, -⟩
  · subst h2 h3 h4; exact ⟨hc.1, by omega⟩
  · subst h2; exact ⟨by omega, Or.inl ⟨rfl, h5⟩⟩
  · exact ⟨h3, Or.inr ⟨h2.1, h2.2, h4⟩⟩
theorem cu_line (hc : Cs_ K a k f) (hk : k = 312) (e1 : a1 = a + 1) (e2 : k1 = K (a + 1)) (h4 : a1 ≤ 400) (h : Tn_ K V 0 23 10000 a1 k1 f a2 k2 f2 p p2) (hv : K (a + 1) = 3 → (0 ≤ V (a + 1) ∧ V (a + 1) ≤ 9999) ∧ a + 1 < 400) : Cp_ T1_ TX_ K V a f a2 k2 f2 p p2 := by
  unfold Cs_ at hc
  subst e1
  have f0 : f = 0 ∧ K a = 312 := by omega
  rcases h with ⟨h1, h2, h3, h5⟩ | ⟨h1, h2, h3, h5, h6⟩ | ⟨h1, h2, h3, h5, h6, h7, h8⟩
  · refine Or.inr (Or.inr ⟨f0.1, by omega, by omega, h3, ?_⟩)
    rw [show f2 = 1 by omega, h2]
    exact mU_line1 f0.2 (by omega)
  · have := hv (by omega)
    refine Or.inr (Or.inr ⟨f0.1, by omega, by omega, h5, ?_⟩)
    rw [show f2 = 2 by omega, h3]
    exact mU_line2 f0.2 (by omega) (by omega)
  · have := hv (by omega)
    refine Or.inr (Or.inl ⟨f0.1, by omega, by omega, by omega, ?_, trivial, ?_⟩)
    · rw [h6, h5]
    · rw [show a2 = a + 2 by omega]
      exact gU_line f0.2 (by omega) (by omega) (by rw [h8, Int.add_comm])
theorem cu_fact (hc : Cs_ K a k f) (hk : 307 ≤ k ∧ k ≤ 311) (e1 : a2 = a + 1) (e2 : k2 = K (a + 1)) (h4 : a2 ≤ 400) (ho : f = 0 → p2 = p ++ [-k]) : Cp_ T1_ TX_ K V a f a2 k2 f p p2 := by
  unfold Cs_ at hc
  subst e1
  have f0 : f = 0 ∧ K a = k := by omega
  exact Or.inr (Or.inl ⟨f0.1, f0.1, by omega, h4, e2, trivial, gU_fact (by omega) (by rw [f0.2]; exact ho f0.1)⟩)
theorem cu_num (hc : Cs_ K a k f) (hk : ¬ k = 312) (hk2 : ¬ (307 ≤ k ∧ k ≤ 311)) (h : Tn_ K V 0 9999 0 a k f a2 k2 f2 p p2) (hv : K a = 3 → (0 ≤ V a ∧ V a ≤ 9999) ∧ a < 400) : Cp_ T1_ TX_ K V a f a2 k2 f2 p p2 := by
  unfold Cs_ at hc
  by_cases f0 : f = 0
  · have ka : k = K a := by omega
    rcases h with ⟨h1, h2, h3, h5⟩ | ⟨h1, h2, h3, h5, h6⟩ | ⟨h1, h2, h3, h5, h6, h7, h8⟩
    · refine Or.inr (Or.inr ⟨f0, by omega, by omega, h3, ?_⟩)
      rw [show f2 = 1 by omega, h2]
      exact mU_bad (by omega) (by omega) (by omega)
    · have := hv (by omega)
      exfalso; omega
    · have := hv (by omega)
      refine Or.inr (Or.inl ⟨f0, by omega, by omega, by omega, by rw [h6, h5], trivial, ?_⟩)
      rw [h5]
      exact gU_num (by omega) (by rw [h8, Int.add_zero])
  · rcases h with ⟨h1, h2, h3, h5⟩ | ⟨h1, h2, h3, h5, h6⟩ | ⟨h1, h2, h3, h5, h6, h7, h8⟩
    · exact Or.inl ⟨f0, h2, by omega, h3⟩
    · exact Or.inl ⟨f0, h3, by omega, h5⟩
    · exfalso; omega
theorem Cs_st (hc : Cs_ K a k f) (f0 : f = 0) (e1 : a1 = a + 1) (e2 : k1 = K (a + 1)) (h : a1 ≤ 400) : Cs_ K a1 k1 f := by
  unfold Cs_ at hc ⊢
  subst e1
  exact ⟨by omega, Or.inl ⟨f0, e2⟩⟩
/-! sums: w the sign that waits -/
def wst_ (w : Int) (st : List Int) : List Int := if w = 0 then st else w :: st
def Mw_ (K V : Int → Int) (j j2 w : Int) (o o2 : List Int) : Prop := ∀ (c : Nat) (st : List Int) (sg : List (List Int)), S3_ st → Rch_ K V (1, c, j, st, o, sg) (2, c, j2, wst_ w st, o2, sg)
def Cl_ (K V : Int → Int) (a f w i a2 k2 f2 : Int) (o o2 : List Int) : Prop := (¬ f = 0 ∧ a2 = a ∧ f2 = f ∧ k2 = 2) ∨ (f = 0 ∧ f2 = 0 ∧ (0 ≤ a ∧ 0 ≤ i ∧ a + 2 * i < a2) ∧ a2 ≤ 400 ∧ k2 = K a2 ∧ (w = 0 ∨ w = 43 ∨ w = 45) ∧ Mw_ K V a a2 w o o2) ∨ (f = 0 ∧ (1 ≤ f2 ∧ f2 ≤ 3) ∧ (0 ≤ a2 ∧ a2 ≤ 400) ∧ k2 = 2 ∧ Mh_ S3_ K V a f2 a2 o)
theorem Cl_cs (hc : Cs_ K a k f) (h : Cl_ K V a f w s a2 k2 f2 p p2) : Cs_ K a2 k2 f2 := by
  unfold Cs_ at hc ⊢
  rcases h with ⟨h1, h2, h3, h4⟩ | ⟨h1, h2, h3, h4, h5, -⟩ | ⟨h1, h2, h3, h4, -⟩
  · subst h2 h3 h4; exact ⟨hc.1, by omega⟩
  · subst h2; exact ⟨by omega, Or.inl ⟨rfl, h5⟩⟩
  · exact ⟨h3, Or.inr ⟨h2.1, h2.2, h4⟩⟩
theorem Cl_0 (ha : 0 ≤ a) (h : Cp_ T1_ TX_ K V a f a2 k2 f2 p p2) : Cl_ K V a f 0 0 a2 k2 f2 p p2 := by
  rcases h with h | ⟨h1, h2, h3, h4, h5, -, h6⟩ | ⟨h1, h2, h3, h4, h5⟩
  · exact Or.inl h
  · exact Or.inr (Or.inl ⟨h1, h2, by omega, h4, h5, Or.inl rfl, fun c st sg _ => h6 c st sg trivial⟩)
  · exact Or.inr (Or.inr ⟨h1, h2, h3, h4, fun c st sg _ => h5 c st sg trivial⟩)
theorem Cl_run (h : Cl_ K V a f w s a1 k1 f1 p p1) (hk : k1 = 43 ∨ k1 = 45 ∨ k1 = 42 ∨ k1 = 47) : f = 0 ∧ f1 = 0 ∧ (0 ≤ a ∧ 0 ≤ s ∧ a + 2 * s < a1) ∧ a1 ≤ 400 ∧ K a1 = k1 ∧ (w = 0 ∨ w = 43 ∨ w = 45) ∧ Mw_ K V a a1 w p p1 := by
  rcases h with ⟨h1, h2, h3, h4⟩ | ⟨h1, h2, h3, h4, h5, h6, h7⟩ | ⟨h1, h2, h3, h4, h5⟩
  · omega
  · exact ⟨h1, h2, h3, h4, h5.symm, h6, h7⟩
  · omega
theorem wst_42 {st : List Int} (hw : w = 0 ∨ w = 43 ∨ w = 45) (hs : S3_ st) : ¬ (wst_ w st).headD 0 = 42 := by
  unfold wst_
  split
  · exact hs.1
  · show ¬ w = 42
    omega
theorem Cl_mul (h : Cl_ K V a f w s a1 k1 f1 p p1) (hk : k1 = 42) (hq : q0 = p1) (h2 : Cp_ T1_ TX_ K V (a1 + 1) f1 a2 k2 f2 q0 p2) (ho : f2 = 0 → p3 = p2 ++ [-k1]) : Cl_ K V a f w (s + 1) a2 k2 f2 p p3 := by
  subst hq
  obtain ⟨q1, q2, q3, q4, q5, q6, q7⟩ := Cl_run h (by omega)
  rcases h2 with ⟨r1, r2, r3, r4⟩ | ⟨r1, r2, r3, r4, r5, -, r6⟩ | ⟨r1, r2, r3, r4, r5⟩
  · omega
  · refine Or.inr (Or.inl ⟨q1, r2, by omega, r4, r5, q6, fun c st sg hs => ?_⟩)
    rw [ho r2, hk]
    exact Rch_sn (Rch_tr (Rch_sn (q7 c st sg hs) (sP_mul (wst_42 q6 hs) (by omega))) (r6 c _ sg trivial)) sP_pop42
  · exact Or.inr (Or.inr ⟨q1, r2, r3, r4, fun c st sg hs => Rch_tr (Rch_sn (q7 c st sg hs) (sP_mul (wst_42 q6 hs) (by omega))) (r5 c _ sg trivial)⟩)
theorem Cl_div (h : Cl_ K V a f w s a1 k1 f1 p p1) (hk : k1 = 47) (e2 : k2 = K (a1 + 1)) (h4 : a1 + 1 ≤ 400) (hq : q0 = p1) (ht : Tn_ K V 1 9999 0 (a1 + 1) k2 f1 a3 k3 f3 q0 p2) (hv : K (a1 + 1) = 3 → (0 ≤ V (a1 + 1) ∧ V (a1 + 1) ≤ 9999) ∧ a1 + 1 < 400) (ho : f3 = 0 → p3 = p2 ++ [-k1]) : Cl_ K V a f w (s + 1) a3 k3 f3 p p3 := by
  subst hq
  obtain ⟨q1, q2, q3, q4, q5, q6, q7⟩ := Cl_run h (by omega)
  rcases ht with ⟨h1, h2, h3, h5⟩ | ⟨h1, h2, h3, h5, h6⟩ | ⟨h1, h2, h3, h5, h6, h7, h8⟩
  · refine Or.inr (Or.inr ⟨q1, by omega, by omega, h3, ?_⟩)
    rw [show f3 = 1 by omega, h2]
    exact fun c st sg hs => Rch_sn (q7 c st sg hs) (sP_div1 (wst_42 q6 hs) (by omega) (by omega))
  · have := hv (by omega)
    refine Or.inr (Or.inr ⟨q1, by omega, by omega, h5, ?_⟩)
    rw [show f3 = 2 by omega, h3]
    exact fun c st sg hs => Rch_sn (q7 c st sg hs) (sP_div2 (wst_42 q6 hs) (by omega) (by omega) (by omega))
  · have := hv (by omega)
    refine Or.inr (Or.inl ⟨q1, by omega, by omega, by omega, by rw [h6, h5], q6, fun c st sg hs => ?_⟩)
    rw [ho (by omega), hk, h8, Int.add_zero, List.append_assoc, show a3 = a1 + 2 by omega]
    exact Rch_sn (q7 c st sg hs) (sP_div (wst_42 q6 hs) (by omega) (by omega) (by omega))
/-- what waits comes -/
theorem Mw_pop (h : Mw_ K V a a1 w p p1) (hw : w = 0 ∨ w = 43 ∨ w = 45) (h1 : ¬ K a1 = 42) (h2 : ¬ K a1 = 47) (ho : (w = 0 ∧ p2 = p1) ∨ (¬ w = 0 ∧ p2 = p1 ++ [-w])) : Mw_ K V a a1 0 p p2 := fun c st sg hs => by
  have q := h c st sg hs
  rcases ho with ⟨w0, e⟩ | ⟨w0, e⟩
  · subst w0 e
    exact q
  · rw [show wst_ w st = w :: st from if_neg w0] at q
    rw [e]
    exact Rch_sn q (sP_popw (by omega) h1 h2)
theorem Cl_add (h : Cl_ K V a f w s a1 k1 f1 p p1) (hk : k1 = 43 ∨ k1 = 45) (ho : f1 = 0 → (w = 0 ∧ p2 = p1) ∨ (¬ w = 0 ∧ p2 = p1 ++ [-w])) (h2 : Cp_ T1_ TX_ K V (a1 + 1) f1 a2 k2 f2 p2 p3) : Cl_ K V a f k1 (s + 1) a2 k2 f2 p p3 := by
  obtain ⟨q1, q2, q3, q4, q5, q6, q7⟩ := Cl_run h (by omega)
  have q8 := Mw_pop q7 q6 (by omega) (by omega) (ho q2)
  rcases h2 with ⟨r1, r2, r3, r4⟩ | ⟨r1, r2, r3, r4, r5, -, r6⟩ | ⟨r1, r2, r3, r4, r5⟩
  · omega
  · refine Or.inr (Or.inl ⟨q1, r2, by omega, r4, r5, by omega, fun c st sg hs => ?_⟩)
    rw [show wst_ k1 st = K a1 :: st by rw [q5]; exact if_neg (by omega)]
    exact Rch_tr (Rch_sn (q8 c st sg hs) (sP_add hs.1 hs.2 (by omega))) (r6 c _ sg trivial)
  · exact Or.inr (Or.inr ⟨q1, r2, r3, r4, fun c st sg hs => Rch_tr (Rch_sn (q8 c st sg hs) (sP_add hs.1 hs.2 (by omega))) (r5 c _ sg trivial)⟩)
theorem Cl_i (h : Cl_ K V a f w s a2 k2 f2 p p2) (hs : 400 ≤ s) (h0 : 0 ≤ a) : ¬ (k2 = 43 ∨ k2 = 45 ∨ k2 = 42 ∨ k2 = 47) := by
  rcases h with ⟨h1, h2, h3, h4⟩ | ⟨h1, h2, h3, h4, -⟩ | ⟨h1, h2, h3, h4, -⟩ <;> omega
theorem Cl_end (h : Cl_ K V a f w s a2 k2 f2 p p1) (hn : ¬ (k2 = 43 ∨ k2 = 45 ∨ k2 = 42 ∨ k2 = 47)) (hs : 0 ≤ s) (ho : f2 = 0 → (w = 0 ∧ p2 = p1) ∨ (¬ w = 0 ∧ p2 = p1 ++ [-w])) : Cp_ S3_ (N4_ K) K V a f a2 k2 f2 p p2 := by
  rcases h with h | ⟨h1, h2, h3, h4, h5, h6, h7⟩ | h
  · exact Or.inl h
  · exact Or.inr (Or.inl ⟨h1, h2, by omega, h4, h5, ⟨by omega, by omega, by omega, by omega⟩, Mw_pop h7 h6 (by omega) (by omega) (ho h2)⟩)
  · exact Or.inr (Or.inr h)
/-! conditions: o how many brackets and nots are open -/
def S4_ (st : List Int) : Prop := S3_ st ∧ ¬ (st.headD 0 = 306 ∨ st.headD 0 = 305) ∧ ¬ st.headD 0 = 304
def Mk_ (S : List Int → Prop) (o : Int) (K V : Int → Int) (j j2 : Int) (p p2 : List Int) : Prop := ∀ (st : List Int) (sg : List (List Int)), S st → opn_ st = o → Rch_ K V (4, 0, j, st, p, sg) (5, 0, j2, st, p2, sg)
def Mn_ (S : List Int → Prop) (o : Int) (K V : Int → Int) (j k j2 : Int) (p : List Int) : Prop := ∀ (st : List Int) (sg : List (List Int)), S st → opn_ st = o → Rch_ K V (4, 0, j, st, p, sg) (ft_ k.toNat j2)
def Ck_ (S : List Int → Prop) (o : Int) (X : Int → Prop) (K V : Int → Int) (a f a2 k2 f2 : Int) (p p2 : List Int) : Prop := (¬ f = 0 ∧ a2 = a ∧ f2 = f ∧ k2 = 2) ∨ (f = 0 ∧ f2 = 0 ∧ a < a2 ∧ a2 ≤ 400 ∧ k2 = K a2 ∧ X a2 ∧ Mk_ S o K V a a2 p p2) ∨ (f = 0 ∧ (1 ≤ f2 ∧ f2 ≤ 3) ∧ (0 ≤ a2 ∧ a2 ≤ 400) ∧ k2 = 2 ∧ Mn_ S o K V a f2 a2 p)
theorem Ck_cs {S : List Int → Prop} {o : Int} {X : Int → Prop} (hc : Cs_ K a k f) (h : Ck_ S o X K V a f a2 k2 f2 p p2) : Cs_ K a2 k2 f2 := by
  unfold Cs_ at hc ⊢
  rcases h with ⟨h1, h2, h3, h4⟩ | ⟨h1, h2, h3, h4, h5, -⟩ | ⟨h1, h2, h3, h4, -⟩
  · subst h2 h3 h4; exact ⟨hc.1, by omega⟩
  · subst h2; exact ⟨by omega, Or.inl ⟨rfl, h5⟩⟩
  · exact ⟨h3, Or.inr ⟨h2.1, h2.2, h4⟩⟩
theorem S3_cons {x : Int} {st : List Int} (hx : x = 306 ∨ x = 13 ∨ x = 305 ∨ x = 304) : S3_ (x :: st) := ⟨show ¬ x = 42 by omega, show ¬ (x = 43 ∨ x = 45) by omega⟩
theorem S4_13 {st : List Int} : S4_ ((13 : Int) :: st) := ⟨S3_cons (by omega), show ¬ ((13 : Int) = 306 ∨ (13 : Int) = 305) by omega, show ¬ (13 : Int) = 304 by omega⟩
theorem opn_1 {x o : Int} {st : List Int} (hx : x = 306 ∨ x = 13) (h : opn_ st = o) : opn_ (x :: st) = o + 1 := by
  show opn_ st + (if x = 306 ∨ x = 13 then 1 else 0) = o + 1
  rw [if_pos hx, h]
theorem opn_2 {x o : Int} {st : List Int} (hx : x = 305 ∨ x = 304) (h : opn_ st = o) : opn_ (x :: st) = o := by
  show opn_ st + (if x = 306 ∨ x = 13 then 1 else 0) = o
  rw [if_neg (by omega), h]
  omega
theorem ck_deep {o : Int} (ho : o = 8) (hc : Cs_ K a k f) (hk : k = 306 ∨ k = 40) (e1 : a2 = a) (e2 : k2 = 2) (e3 : (f = 0 ∧ f2 = 3) ∨ (¬ f = 0 ∧ f2 = f)) : Ck_ S3_ o TX_ K V a f a2 k2 f2 p p2 := by
  unfold Cs_ at hc
  subst e1 e2
  have f0 : f = 0 ∧ K a2 = k := by omega
  refine Or.inr (Or.inr ⟨f0.1, by omega, by omega, rfl, ?_⟩)
  rw [show f2 = 3 by omega]
  exact fun st sg _ hq => Rch_st (sD_deep (by omega) (by omega))
theorem ck_not {o : Int} (ho : o < 8) (hc : Cs_ K a k f) (hk : k = 306) (h : Ck_ S3_ (o + 1) TX_ K V (a + 1) f a2 k2 f2 p p1) (he : f2 = 0 → p2 = p1 ++ [-306]) : Ck_ S3_ o TX_ K V a f a2 k2 f2 p p2 := by
  unfold Cs_ at hc
  have f0 : f = 0 ∧ K a = 306 := by omega
  rcases h with ⟨h1, -⟩ | ⟨h1, h2, h3, h4, h5, -, h6⟩ | ⟨h1, h2, h3, h4, h5⟩
  · exact absurd f0.1 h1
  · refine Or.inr (Or.inl ⟨h1, h2, by omega, h4, h5, trivial, fun st sg hs hq => ?_⟩)
    rw [he h2]
    exact Rch_sn (Rch_tr (Rch_st (sD_not f0.2 (by omega))) (h6 (306 :: st) sg (S3_cons (by omega)) (opn_1 (Or.inl rfl) hq))) (sC_pop (Or.inl rfl))
  · exact Or.inr (Or.inr ⟨h1, h2, h3, h4, fun st sg hs hq => Rch_tr (Rch_st (sD_not f0.2 (by omega))) (h5 (306 :: st) sg (S3_cons (by omega)) (opn_1 (Or.inl rfl) hq))⟩)
theorem ck_bra {o : Int} (ho : o < 8) (hc : Cs_ K a k f) (hk : k = 40) (h : Ck_ S4_ (o + 1) (NA_ K) K V (a + 1) f a1 k1 f1 p p1) (ht : (k1 = 41 ∧ a2 = a1 + 1 ∧ k2 = K (a1 + 1) ∧ f2 = f1) ∨ (¬ k1 = 41 ∧ a2 = a1 ∧ k2 = 2 ∧ ((f1 = 0 ∧ f2 = 1) ∨ (¬ f1 = 0 ∧ f2 = f1)))) (h4 : k1 = 41 → a1 < 400) : Ck_ S3_ o TX_ K V a f a2 k2 f2 p p1 := by
  unfold Cs_ at hc
  have f0 : f = 0 ∧ K a = 40 := by omega
  rcases h with ⟨h1, -⟩ | ⟨h1, h2, h3, h5, h6, h7, h8⟩ | ⟨h1, h2, h3, h5, h6⟩
  · exact absurd f0.1 h1
  · have q : ∀ (st : List Int) (sg : List (List Int)), opn_ st = o → Rch_ K V (4, 0, a, st, p, sg) (5, 0, a1, 13 :: st, p1, sg) := fun st sg hq => Rch_tr (Rch_st (sD_opn f0.2 (by omega))) (h8 (13 :: st) sg S4_13 (opn_1 (Or.inr rfl) hq))
    rcases ht with ⟨t1, t2, t3, t4⟩ | ⟨t1, t2, t3, t4⟩
    · have := h4 t1
      refine Or.inr (Or.inl ⟨h1, by omega, by omega, by omega, by rw [t3, t2], trivial, fun st sg hs hq => ?_⟩)
      rw [t2]
      exact Rch_sn (q st sg hq) (sC_cls (by omega))
    · refine Or.inr (Or.inr ⟨h1, by omega, by omega, t3, ?_⟩)
      rw [show f2 = 1 by omega, t2]
      exact fun st sg hs hq => Rch_sn (q st sg hq) (sC_cls1 (by omega) h7.1 h7.2)
  · have e1 : a2 = a1 ∧ f2 = f1 ∧ k2 = 2 := by omega
    rw [e1.1, e1.2.1, e1.2.2]
    exact Or.inr (Or.inr ⟨h1, h2, h3, rfl, fun st sg hs hq => Rch_tr (Rch_st (sD_opn f0.2 (by omega))) (h6 (13 :: st) sg S4_13 (opn_1 (Or.inr rfl) hq))⟩)
theorem ck_cmp {o : Int} (hc : Cs_ K a k f) (hk : ¬ k = 306) (hk2 : ¬ k = 40) (h : Cp_ S3_ (N4_ K) K V a f a1 k1 f1 p p1) (ht : ((k1 = 60 ∨ k1 = 61 ∨ k1 = 62) ∧ a2 = a1 + 1 ∧ k2 = K (a1 + 1) ∧ f2 = f1) ∨ (¬ (k1 = 60 ∨ k1 = 61 ∨ k1 = 62) ∧ a2 = a1 ∧ k2 = 2 ∧ ((f1 = 0 ∧ f2 = 1) ∨ (¬ f1 = 0 ∧ f2 = f1)))) (h2 : Cp_ S3_ (N4_ K) K V a2 f2 a3 k3 f3 p1 p2) (he : f3 = 0 → p3 = p2 ++ [-k1]) : Ck_ S3_ o TX_ K V a f a3 k3 f3 p p3 := by
  unfold Cs_ at hc
  rcases h with ⟨h1, h3, h4, h5⟩ | ⟨h1, h3, h4, h5, h6, h7, h8⟩ | ⟨h1, h3, h4, h5, h6⟩
  · rcases h2 with ⟨r1, r2, r3, r4⟩ | ⟨r1, -⟩ | ⟨r1, -⟩
    · exact Or.inl ⟨h1, by omega, by omega, r4⟩
    · exfalso; omega
    · exfalso; omega
  · have nk : ¬ (K a = 306 ∨ K a = 40) := by omega
    rcases ht with ⟨t1, t2, t3, t4⟩ | ⟨t1, t2, t3, t4⟩
    · have tk : K a1 = 60 ∨ K a1 = 61 ∨ K a1 = 62 := by rw [← h6]; exact t1
      rw [t2] at h2
      rcases h2 with ⟨r1, -⟩ | ⟨r1, r2, r3, r4, r5, r6, r7⟩ | ⟨r1, r2, r3, r4, r5⟩
      · exfalso; omega
      · have q := m5_ok h8 tk r7 r6 (show p3 = p2 ++ [-(K a1)] by rw [← h6]; exact he r2)
        exact Or.inr (Or.inl ⟨h1, r2, by omega, r4, r5, trivial, fun st sg hs _ => Rch_tr (Rch_st (sD_cmp nk)) (q st sg hs)⟩)
      · exact Or.inr (Or.inr ⟨h1, r2, r3, r4, fun st sg hs _ => Rch_tr (Rch_st (sD_cmp nk)) (m5_f3 h8 tk r5 st sg hs)⟩)
    · rcases h2 with ⟨r1, r2, r3, r4⟩ | ⟨r1, -⟩ | ⟨r1, -⟩
      · refine Or.inr (Or.inr ⟨h1, by omega, by omega, r4, ?_⟩)
        rw [show f3 = 1 by omega, show a3 = a1 by omega]
        exact fun st sg hs _ => Rch_tr (Rch_st (sD_cmp nk)) (m5_f2 h8 h7 (by rw [← h6]; exact t1) st sg hs)
      · exfalso; omega
      · exfalso; omega
  · have nk : ¬ (K a = 306 ∨ K a = 40) := by omega
    rcases h2 with ⟨r1, r2, r3, r4⟩ | ⟨r1, -⟩ | ⟨r1, -⟩
    · refine Or.inr (Or.inr ⟨h1, by omega, by omega, r4, ?_⟩)
      rw [show f3 = f1 by omega, show a3 = a1 by omega]
      exact fun st sg hs _ => Rch_tr (Rch_st (sD_cmp nk)) (m5_f1 h6 st sg hs)
    · exfalso; omega
    · exfalso; omega
/-! lists of conditions: w whether an 'or' waits -/
def ost_ (w : Int) (st : List Int) : List Int := if w = 0 then st else 304 :: st
def Mo_ (o : Int) (K V : Int → Int) (j j2 w : Int) (p p2 : List Int) : Prop := ∀ (st : List Int) (sg : List (List Int)), S4_ st → opn_ st = o → Rch_ K V (4, 0, j, st, p, sg) (5, 0, j2, ost_ w st, p2, sg)
def Co_ (o : Int) (K V : Int → Int) (a f w i a2 k2 f2 : Int) (p p2 : List Int) : Prop := (¬ f = 0 ∧ a2 = a ∧ f2 = f ∧ k2 = 2) ∨ (f = 0 ∧ f2 = 0 ∧ (0 ≤ a ∧ 0 ≤ i ∧ a + 2 * i < a2) ∧ a2 ≤ 400 ∧ k2 = K a2 ∧ (w = 0 ∨ w = 1) ∧ Mo_ o K V a a2 w p p2) ∨ (f = 0 ∧ (1 ≤ f2 ∧ f2 ≤ 3) ∧ (0 ≤ a2 ∧ a2 ≤ 400) ∧ k2 = 2 ∧ Mn_ S4_ o K V a f2 a2 p)
theorem Co_cs {o : Int} (hc : Cs_ K a k f) (h : Co_ o K V a f w s a2 k2 f2 p p2) : Cs_ K a2 k2 f2 := by
  unfold Cs_ at hc ⊢
  rcases h with ⟨h1, h2, h3, h4⟩ | ⟨h1, h2, h3, h4, h5, -⟩ | ⟨h1, h2, h3, h4, -⟩
  · subst h2 h3 h4; exact ⟨hc.1, by omega⟩
  · subst h2; exact ⟨by omega, Or.inl ⟨rfl, h5⟩⟩
  · exact ⟨h3, Or.inr ⟨h2.1, h2.2, h4⟩⟩
theorem Co_0 {o : Int} (ha : 0 ≤ a) (h : Ck_ S3_ o TX_ K V a f a2 k2 f2 p p2) : Co_ o K V a f 0 0 a2 k2 f2 p p2 := by
  rcases h with h | ⟨h1, h2, h3, h4, h5, -, h6⟩ | ⟨h1, h2, h3, h4, h5⟩
  · exact Or.inl h
  · exact Or.inr (Or.inl ⟨h1, h2, by omega, h4, h5, Or.inl rfl, fun st sg hs hq => h6 st sg hs.1 hq⟩)
  · exact Or.inr (Or.inr ⟨h1, h2, h3, h4, fun st sg hs hq => h5 st sg hs.1 hq⟩)
theorem Co_run {o : Int} (h : Co_ o K V a f w s a1 k1 f1 p p1) (hk : k1 = 305 ∨ k1 = 304) : f = 0 ∧ f1 = 0 ∧ (0 ≤ a ∧ 0 ≤ s ∧ a + 2 * s < a1) ∧ a1 ≤ 400 ∧ K a1 = k1 ∧ (w = 0 ∨ w = 1) ∧ Mo_ o K V a a1 w p p1 := by
  rcases h with ⟨h1, h2, h3, h4⟩ | ⟨h1, h2, h3, h4, h5, h6, h7⟩ | ⟨h1, h2, h3, h4, h5⟩
  · omega
  · exact ⟨h1, h2, h3, h4, h5.symm, h6, h7⟩
  · omega
theorem ost_h {st : List Int} (hs : S4_ st) : ¬ ((ost_ w st).headD 0 = 306 ∨ (ost_ w st).headD 0 = 305) := by
  unfold ost_
  split
  · exact hs.2.1
  · show ¬ ((304 : Int) = 306 ∨ (304 : Int) = 305)
    omega
theorem ost_o {o : Int} {st : List Int} (h : opn_ st = o) : opn_ (ost_ w st) = o := by
  unfold ost_
  split
  · exact h
  · exact opn_2 (Or.inr rfl) h
theorem Co_and {o : Int} (h : Co_ o K V a f w s a1 k1 f1 p p1) (hk : k1 = 305) (hq : q0 = p1) (h2 : Ck_ S3_ o TX_ K V (a1 + 1) f1 a2 k2 f2 q0 p2) (he : f2 = 0 → p3 = p2 ++ [-305]) : Co_ o K V a f w (s + 1) a2 k2 f2 p p3 := by
  subst hq
  obtain ⟨q1, q2, q3, q4, q5, q6, q7⟩ := Co_run h (by omega)
  rcases h2 with ⟨r1, r2, r3, r4⟩ | ⟨r1, r2, r3, r4, r5, -, r6⟩ | ⟨r1, r2, r3, r4, r5⟩
  · omega
  · refine Or.inr (Or.inl ⟨q1, r2, by omega, r4, r5, q6, fun st sg hs hq => ?_⟩)
    rw [he r2]
    exact Rch_sn (Rch_tr (Rch_sn (q7 st sg hs hq) (sC_and (ost_h hs) (by omega))) (r6 _ sg (S3_cons (by omega)) (opn_2 (Or.inl rfl) (ost_o hq)))) (sC_pop (Or.inr rfl))
  · exact Or.inr (Or.inr ⟨q1, r2, r3, r4, fun st sg hs hq => Rch_tr (Rch_sn (q7 st sg hs hq) (sC_and (ost_h hs) (by omega))) (r5 _ sg (S3_cons (by omega)) (opn_2 (Or.inl rfl) (ost_o hq)))⟩)
theorem Mo_pop {o : Int} (h : Mo_ o K V a a1 w p p1) (h1 : ¬ K a1 = 305) (he : (w = 0 ∧ p2 = p1) ∨ (¬ w = 0 ∧ p2 = p1 ++ [-304])) : Mk_ S4_ o K V a a1 p p2 := fun st sg hs hq => by
  have q := h st sg hs hq
  rcases he with ⟨w0, e⟩ | ⟨w0, e⟩
  · subst w0 e
    exact q
  · rw [show ost_ w st = 304 :: st from if_neg w0] at q
    rw [e]
    exact Rch_sn q (sC_popo h1)
theorem Co_or {o : Int} (h : Co_ o K V a f w s a1 k1 f1 p p1) (hk : k1 = 304) (he : f1 = 0 → (w = 0 ∧ p2 = p1) ∨ (¬ w = 0 ∧ p2 = p1 ++ [-304])) (h2 : Ck_ S3_ o TX_ K V (a1 + 1) f1 a2 k2 f2 p2 p3) : Co_ o K V a f 1 (s + 1) a2 k2 f2 p p3 := by
  obtain ⟨q1, q2, q3, q4, q5, q6, q7⟩ := Co_run h (by omega)
  have q8 := Mo_pop q7 (by omega) (he q2)
  rcases h2 with ⟨r1, r2, r3, r4⟩ | ⟨r1, r2, r3, r4, r5, -, r6⟩ | ⟨r1, r2, r3, r4, r5⟩
  · omega
  · exact Or.inr (Or.inl ⟨q1, r2, by omega, r4, r5, Or.inr rfl, fun st sg hs hq => Rch_tr (Rch_sn (q8 st sg hs hq) (sC_or hs.2.1 hs.2.2 (by omega))) (r6 _ sg (S3_cons (by omega)) (opn_2 (Or.inr rfl) hq))⟩)
  · exact Or.inr (Or.inr ⟨q1, r2, r3, r4, fun st sg hs hq => Rch_tr (Rch_sn (q8 st sg hs hq) (sC_or hs.2.1 hs.2.2 (by omega))) (r5 _ sg (S3_cons (by omega)) (opn_2 (Or.inr rfl) hq))⟩)
theorem Co_i {o : Int} (h : Co_ o K V a f w s a2 k2 f2 p p2) (hs : 400 ≤ s) (h0 : 0 ≤ a) : ¬ (k2 = 305 ∨ k2 = 304) := by
  rcases h with ⟨h1, h2, h3, h4⟩ | ⟨h1, h2, h3, h4, -⟩ | ⟨h1, h2, h3, h4, -⟩ <;> omega
theorem Co_end {o : Int} (h : Co_ o K V a f w s a2 k2 f2 p p1) (hn : ¬ (k2 = 305 ∨ k2 = 304)) (hs : 0 ≤ s) (he : f2 = 0 → (w = 0 ∧ p2 = p1) ∨ (¬ w = 0 ∧ p2 = p1 ++ [-304])) : Ck_ S4_ o (NA_ K) K V a f a2 k2 f2 p p2 := by
  rcases h with h | ⟨h1, h2, h3, h4, h5, h6, h7⟩ | h
  · exact Or.inl h
  · exact Or.inr (Or.inl ⟨h1, h2, by omega, h4, h5, ⟨by omega, by omega⟩, Mo_pop h7 (by omega) (he h2)⟩)
  · exact Or.inr (Or.inr h)
/-! a whole text: m the machine's mode -/
def Cr_ (m : Nat) (K V : Int → Int) (a k f : Int) (sg : List (List Int)) : Prop := (f = 0 ∧ (0 ≤ a ∧ a ≤ 400) ∧ k = K a ∧ Ra_ K V m a sg) ∨ ((1 ≤ f ∧ f ≤ 3) ∧ (0 ≤ a ∧ a ≤ 400) ∧ k = 2 ∧ Rf_ K V f a)
theorem Cr_cs {m : Nat} (h : Cr_ m K V a k f sg) : Cs_ K a k f := by
  unfold Cs_
  rcases h with ⟨h1, h2, h3, -⟩ | ⟨h1, h2, h3, -⟩
  · exact ⟨h2, Or.inl ⟨h1, h3⟩⟩
  · exact ⟨h2, Or.inr ⟨h1.1, h1.2, h3⟩⟩
theorem cr_sum (hk : k = K 0) (ht : (k = 301 ∧ a1 = 0 + 1 ∧ k1 = K (0 + 1) ∧ f1 = 0) ∨ (¬ k = 301 ∧ a1 = 0 ∧ k1 = 2 ∧ (((0 : Int) = 0 ∧ f1 = 1) ∨ (¬ (0 : Int) = 0 ∧ f1 = 0)))) (h : Cp_ S3_ (N4_ K) K V a1 f1 a2 k2 f2 p p2) (ho : p = []) : Cr_ 3 K V a2 k2 f2 [p2] := by
  rcases ht with ⟨t1, t2, t3, t4⟩ | ⟨t1, t2, t3, t4⟩
  · rw [t2] at h
    rcases h with ⟨h1, -⟩ | ⟨h1, h3, h4, h5, h6, h7, h8⟩ | ⟨h1, h3, h4, h5, h6⟩
    · exact absurd t4 h1
    · exact Or.inl ⟨h3, ⟨by omega, h5⟩, h6, rd_3 (by omega) h8 ho h7⟩
    · exact Or.inr ⟨h3, h4, h5, rd_f1 (by omega) h6 ho⟩
  · rcases h with ⟨h1, h3, h4, h5⟩ | ⟨h1, -⟩ | ⟨h1, -⟩
    · refine Or.inr ⟨by omega, by omega, h5, ?_⟩
      rw [show f2 = 1 by omega, show a2 = 0 by omega]
      exact rd_f0 (by omega)
    · exfalso; omega
    · exfalso; omega
theorem Ct_c2 (hk : k = K 0) (ht : (k = 301 ∧ a1 = 0 + 1 ∧ k1 = K (0 + 1) ∧ f1 = 0) ∨ (¬ k = 301 ∧ a1 = 0 ∧ k1 = 2 ∧ (((0 : Int) = 0 ∧ f1 = 1) ∨ (¬ (0 : Int) = 0 ∧ f1 = 0)))) : Cs_ K a1 k1 f1 := by
  unfold Cs_
  rcases ht with ⟨t1, t2, t3, t4⟩ | ⟨t1, t2, t3, t4⟩
  · rw [t2]; exact ⟨by omega, Or.inl ⟨t4, t3⟩⟩
  · exact ⟨by omega, Or.inr (by omega)⟩
theorem Ct_cs (hc : Cs_ K a k f) (ht : ((k = 60 ∨ k = 61 ∨ k = 62) ∧ a2 = a + 1 ∧ k2 = K (a + 1) ∧ f2 = f) ∨ (¬ (k = 60 ∨ k = 61 ∨ k = 62) ∧ a2 = a ∧ k2 = 2 ∧ ((f = 0 ∧ f2 = 1) ∨ (¬ f = 0 ∧ f2 = f)))) (hl : ¬ K a = 1 → a < 400) : Cs_ K a2 k2 f2 := by
  unfold Cs_ at hc ⊢
  rcases ht with ⟨t1, t2, t3, t4⟩ | ⟨t1, t2, t3, t4⟩
  · have := hl (by omega)
    rw [t2]; exact ⟨by omega, Or.inl ⟨by omega, t3⟩⟩
  · exact ⟨by omega, Or.inr (by omega)⟩
theorem cp_k {S : List Int → Prop} {X : Int → Prop} (h : Cp_ S X K V a f a1 k1 f1 p p1) (q : k1 = 60 ∨ k1 = 61 ∨ k1 = 62) : ¬ K a1 = 1 := by
  rcases h with ⟨h1, h2, h3, h4⟩ | ⟨h1, h2, h3, h4, h5, -⟩ | ⟨h1, h2, h3, h4, -⟩ <;> omega
theorem ck_k {S : List Int → Prop} {o : Int} {X : Int → Prop} (h : Ck_ S o X K V a f a1 k1 f1 p p1) (q : k1 = 41) : ¬ K a1 = 1 := by
  rcases h with ⟨h1, h2, h3, h4⟩ | ⟨h1, h2, h3, h4, h5, -⟩ | ⟨h1, h2, h3, h4, -⟩ <;> omega
theorem cr_k {m : Nat} (h : Cr_ m K V a k f sg) (q : k = 59) : ¬ K a = 1 := by
  rcases h with ⟨h1, h2, h3, -⟩ | ⟨h1, h2, h3, -⟩ <;> omega
theorem pl_kf {y y2 : Nat → Int} {pa c : Nat} {cnt z ln n : Int} (h : (0 ≤ a ∧ a < cnt ∧ z = gC_ y2 pa a) ∨ (¬ (0 ≤ a ∧ a < cnt) ∧ z = ln)) (r : Ro_ y y2 c) (hp : pa ≠ c) (hl : ln = n) (h0 : 0 ≤ a) : z = kf_ y pa cnt n a := by
  unfold kf_
  rcases h with ⟨h1, h2, h3⟩ | ⟨h1, h2⟩
  · rw [if_pos h2, h3]; exact r pa hp _
  · rw [if_neg (by omega), h2, hl]
theorem s4_w {x : Int} (hx : x = 302 ∨ x = 303) : S4_ [x] := ⟨⟨show ¬ x = 42 by omega, show ¬ (x = 43 ∨ x = 45) by omega⟩, show ¬ (x = 306 ∨ x = 305) by omega, show ¬ x = 304 by omega⟩
theorem opn_w {x : Int} (hx : x = 302 ∨ x = 303) : opn_ [x] = 0 := by
  show opn_ [] + (if x = 306 ∨ x = 13 then 1 else 0) = 0
  rw [if_neg (by omega)]
  rfl
theorem mk_4 {j j2 : Int} (h : Mk_ S4_ 0 K V j j2 p p2) (hp : p = []) : M4_ K V j j2 p2 := fun cl sg hc => by
  subst hp
  exact h [cl] sg (s4_w hc) (opn_w hc)
theorem mn_4 {j j2 : Int} (h : Mn_ S4_ 0 K V j k j2 p) (hp : p = []) : Mh4_ K V j k j2 := fun cl sg hc => by
  subst hp
  exact h [cl] sg (s4_w hc) (opn_w hc)
theorem cr_when (h : Cr_ 3 K V a k f sg) (hk : k = 302) (h2 : Ck_ S4_ 0 (NA_ K) K V (a + 1) f a2 k2 f2 p p2) (hp : p = []) : Cr_ 6 K V a2 k2 f2 (p2 :: sg) := by
  rcases h with ⟨h1, h3, h4, h5⟩ | ⟨h1, h3, h4, h5⟩
  · rcases h2 with ⟨r1, -⟩ | ⟨r1, r2, r3, r4, r5, r6, r7⟩ | ⟨r1, r2, r3, r4, r5⟩
    · exact absurd h1 r1
    · exact Or.inl ⟨r2, ⟨by omega, r4⟩, r5, rd_6w h5 (by omega) (mk_4 r7 hp) r6⟩
    · exact Or.inr ⟨r2, r3, r4, rd_6f h5 (by omega) (mn_4 r5 hp)⟩
  · exfalso; omega
theorem cr_now (h : Cr_ 3 K V a k f sg) (hk : ¬ k = 302) : Cr_ 6 K V a k f ([] :: sg) := by
  rcases h with ⟨h1, h3, h4, h5⟩ | h
  · exact Or.inl ⟨h1, h3, h4, rd_6n h5 (by omega)⟩
  · exact Or.inr h
theorem cr_unl (h : Cr_ 6 K V a k f sg) (hk : k = 303) (h2 : Ck_ S4_ 0 (NA_ K) K V (a + 1) f a2 k2 f2 p p2) (hp : p = []) : Cr_ 7 K V a2 k2 f2 (p2 :: sg) := by
  rcases h with ⟨h1, h3, h4, h5⟩ | ⟨h1, h3, h4, h5⟩
  · rcases h2 with ⟨r1, -⟩ | ⟨r1, r2, r3, r4, r5, r6, r7⟩ | ⟨r1, r2, r3, r4, r5⟩
    · exact absurd h1 r1
    · exact Or.inl ⟨r2, ⟨by omega, r4⟩, r5, rd_7w h5 (by omega) (mk_4 r7 hp) r6⟩
    · exact Or.inr ⟨r2, r3, r4, rd_7f h5 (by omega) (mn_4 r5 hp)⟩
  · exfalso; omega
theorem cr_nou (h : Cr_ 6 K V a k f sg) (hk : ¬ k = 303) : Cr_ 7 K V a k f ([] :: sg) := by
  rcases h with ⟨h1, h3, h4, h5⟩ | h
  · exact Or.inl ⟨h1, h3, h4, rd_7n h5 (by omega)⟩
  · exact Or.inr h
theorem cr_semi (h : Cr_ 7 K V a k f sg) (h4 : k = 59 → a < 400) (ht : (k = 59 ∧ a2 = a + 1 ∧ k2 = K (a + 1) ∧ f2 = f) ∨ (¬ k = 59 ∧ a2 = a ∧ k2 = 2 ∧ ((f = 0 ∧ f2 = 1) ∨ (¬ f = 0 ∧ f2 = f)))) : Cr_ 8 K V a2 k2 f2 sg := by
  rcases h with ⟨h1, h3, h5, h6⟩ | ⟨h1, h3, h5, h6⟩
  · rcases ht with ⟨t1, t2, t3, t4⟩ | ⟨t1, t2, t3, t4⟩
    · have := h4 t1
      rw [t2, t3, t4]
      exact Or.inl ⟨h1, by omega, rfl, rd_8 h6 (by omega)⟩
    · refine Or.inr ⟨by omega, by omega, t3, ?_⟩
      rw [show f2 = 1 by omega, t2]
      exact rd_8f h6 (by omega)
  · have e : a2 = a ∧ f2 = f ∧ k2 = 2 := by omega
    rw [e.1, e.2.1, e.2.2]
    exact Or.inr ⟨h1, h3, rfl, h6⟩
theorem cr_end (h : Cr_ 8 K V a k f sg) (e : (k = 1 ∧ f2 = f) ∨ (¬ k = 1 ∧ ((f = 0 ∧ f2 = 1) ∨ (¬ f = 0 ∧ f2 = f)))) : (f2 = 0 ∧ Ra_ K V 9 a sg) ∨ ((1 ≤ f2 ∧ f2 ≤ 3) ∧ Rf_ K V f2 a) := by
  rcases h with ⟨h1, h3, h5, h6⟩ | ⟨h1, h3, h5, h6⟩
  · by_cases k1 : k = 1
    · exact Or.inl ⟨by omega, rd_9 h6 (by omega)⟩
    · refine Or.inr ⟨by omega, ?_⟩
      rw [show f2 = 1 by omega]
      exact rd_9f h6 (by omega)
  · refine Or.inr ⟨by omega, ?_⟩
    rw [show f2 = f by omega]
    exact h6
end Cls
theorem wh_nil : wh_ [] = [1] := if_pos rfl
theorem ul_nil : ul_ [] = [0] := if_pos rfl
theorem wl_w {y y2 : Nat → Int} {a : Nat} {c1 c2 : Int} (h0 : 0 ≤ c1) (h : c1 < c2) (r : Rb_ y y2 a c1) : lL_ (gC_ y2 a) 0 c2 = lL_ (gC_ y a) 0 c1 ++ wh_ (lL_ (gC_ y2 a) c1 c2) := by
  rw [lL_app h0 (Int.le_of_lt h), lL_cg (g2 := gC_ y2 a) (g := gC_ y a) (fun i h1 h2 => r.2 i h1 h2)]
  unfold wh_
  rw [if_neg (lL_ne h)]
theorem wl_u {y y2 : Nat → Int} {a : Nat} {c1 c2 : Int} {s1 s2 : List Int} (h0 : 0 ≤ c1) (h : c1 < c2) (r : Rb_ y y2 a c1) (e : lL_ (gC_ y a) 0 c1 = s1 ++ wh_ s2) : lL_ (gC_ y2 a) 0 c2 = s1 ++ (wh_ s2 ++ ul_ (lL_ (gC_ y2 a) c1 c2)) := by
  rw [lL_app h0 (Int.le_of_lt h), lL_cg (g2 := gC_ y2 a) (g := gC_ y a) (fun i h1 h2 => r.2 i h1 h2), e, List.append_assoc]
  unfold ul_
  rw [if_neg (lL_ne h)]
theorem wl_n {p p2 s1 s2 : List Int} (e2 : p2 = p ++ [0]) (e : p = s1 ++ wh_ s2) : p2 = s1 ++ (wh_ s2 ++ ul_ []) := by
  rw [e2, e, ul_nil, List.append_assoc]
def Wk_ (g : Int → Int) (a b z : Int) : Prop := (∃ w : Nat, w < 12 ∧ Kw_ g a b w ∧ z = 301 + (w : Int)) ∨ (z = 2 ∧ ∀ w : Nat, w < 12 → ¬ Kw_ g a b w)
theorem Lt_wk {g : Int → Int} {n p x e k : Int} (h1 : p < n) (h2 : p < e) (h3 : e ≤ n) (hl : ∀ i, p ≤ i → i < e → isLet_ (g i)) (hx : e < n → ¬ isLet_ (g e)) (hk : Wk_ g p e k) : Lt_ g n p k x e := by
  rcases hk with ⟨w, w1, w2, w3⟩ | ⟨w1, w2⟩
  · rw [w3]; exact Lt_w1 h1 h2 h3 hl hx w1 w2
  · rw [w1]; exact Lt_w0 h1 h2 h3 hl hx w2
theorem kw_n2 {P : Nat → Prop} {l : Int} {i : Nat} (h : ∀ w : Nat, (w : Int) < l - 301 → ¬ P w) (hi : ¬ P i) (e : l = 301 + (i : Int)) : ∀ w : Nat, (w : Int) < l + 1 - 301 → ¬ P w := fun w hw => by
  by_cases q : w = i
  · rw [q]; exact hi
  · exact h w (by omega)
def St_ (g : Int → Int) (n : Int) (y y2 : Nat → Int) (ka va pa : Nat) (cnt f z : Int) : Prop := ∃ k x : Int, Lt_ g n f k x z ∧ y2 = upB (upB (upB y (pr ka cnt.toNat) k) (pr va cnt.toNat) x) (pr pa cnt.toNat) f
theorem Ch_b2 {g : Int → Int} {n : Int} {y : Nat → Int} {ka va pa : Nat} {cnt b a : Int} (h : Ch_ g n y ka va pa cnt b) (e : a = b) (hb : isBl_ (g a)) : Ch_ g n y ka va pa cnt (a + 1) := by
  subst e
  exact Ch_bl h hb
theorem Ch_t2 {g : Int → Int} {n : Int} {y y2 : Nat → Int} {ka va pa : Nat} {cnt b a z : Int} (h : Ch_ g n y ka va pa cnt b) (e : a = b) (hb : ¬ isBl_ (g a)) (hs : St_ g n y y2 ka va pa cnt a z) (n1 : ka ≠ va) (n2 : ka ≠ pa) (n3 : va ≠ pa) : Ch_ g n y2 ka va pa (cnt + 1) z ∧ a < z ∧ z ≤ n := by
  subst e
  obtain ⟨k, x, hl, rfl⟩ := hs
  exact ⟨Ch_tk h hb hl n1 n2 n3, hl.2.1, hl.2.2.1⟩
theorem Ch_e {g : Int → Int} {n : Int} {y : Nat → Int} {ka va pa : Nat} {cnt b b2 : Int} (h : Ch_ g n y ka va pa cnt b) (e : b = b2) : Ch_ g n y ka va pa cnt b2 := e ▸ h
theorem dv_sm {g : Int → Int} {p e : Int} (h : ∀ i, p ≤ i → i < e → isDig_ (g i)) (h1 : p < e) (h2 : e - p ≤ 3) : 0 ≤ dv_ g p (e - p).toNat ∧ dv_ g p (e - p).toNat ≤ 999 := by
  have q := dv_rg (g := g) (p := p) (m := (e - p).toNat) (fun i hi => h (p + (i : Int)) (by omega) (by omega))
  have hm : (e - p).toNat = 1 ∨ (e - p).toNat = 2 ∨ (e - p).toNat = 3 := by omega
  rcases hm with m | m | m
  · have := q.2.2.1 m; exact ⟨q.1, by omega⟩
  · have := q.2.2.2.1 m; exact ⟨q.1, by omega⟩
  · have := q.2.2.2.2.1 m; exact ⟨q.1, by omega⟩
theorem Strm_kb {g : Int → Int} {n : Int} {K V P Q : Int → Int} (h : Strm_ g n K V P Q) {j : Int} (hj : 0 ≤ j) : K j ≤ 312 := by
  obtain ⟨-, -, q⟩ := h.2 j hj
  rcases q with ⟨-, q, -⟩ | ⟨-, q⟩
  · omega
  · have k := (Lt_kind q).2
    unfold isSg_ at k
    omega
theorem RK_of {g : Int → Int} {n : Int} {y : Nat → Int} {ka va pa : Nat} {cnt : Int} {Q : Int → Int} (h : Strm_ g n (kf_ y ka cnt 1) (gC_ y va) (kf_ y pa cnt n) Q) (h0 : 0 ≤ cnt) (h4 : cnt ≤ 400) (hne : ∀ j, 0 ≤ j → j < cnt → ¬ gC_ y ka j = 1) : RK_ y ka va cnt (kf_ y ka cnt 1) (gC_ y va) := ⟨fun j j1 j2 => ⟨(if_pos j2).symm, rfl, fun q => hne j j1 j2 ((if_pos j2).symm.trans q)⟩, fun j hj => if_neg (by omega), h0, h4, fun j hj hk => Strm_num h hj hk⟩
theorem zl_kw : ∀ i : Nat, i < 12 → zLen.getD i 0 = kwL_ i := fun i hi => (show ∀ i : Fin 12, zLen.getD i.val 0 = kwL_ i.val by decide +kernel) ⟨i, hi⟩
theorem zb_kw : ∀ w : Fin 12, ∀ i : Fin 9, i.val < kwL_ w.val → (((zByt.getD w.val []).getD i.val 0 &&& J 255).toUInt32 % 65536).toInt32 = J (kwC_ w.val i.val) ∧ 0 ≤ kwC_ w.val i.val ∧ kwC_ w.val i.val < 256 := by decide +kernel
theorem ch_kw {w : Nat} (hw : w < 12) {i z1 z2 z3 : Int} (h0 : 0 ≤ i) (hi : i < ((zLen.getD w 0 : Nat) : Int)) (e1 : J z1 = (zByt.getD w []).getD i.toNat 0) (e2 : J z2 = J z1 &&& J 255) (e3 : J z3 = ((J z2).toUInt32 % 65536).toInt32) (r : inR z3) : z3 = kwC_ w i.toNat := by
  have hl : 2 ≤ kwL_ w ∧ kwL_ w ≤ 9 := kw_len ⟨w, hw⟩
  rw [zl_kw w hw] at hi
  have q := zb_kw ⟨w, hw⟩ ⟨i.toNat, by omega⟩ (show i.toNat < kwL_ w by omega)
  rw [e2, e1] at e3
  exact (J_inj r (rr (by have q2 : 0 ≤ kwC_ w i.toNat := q.2.1; have q3 : kwC_ w i.toNat < 256 := q.2.2; constructor <;> omega))).mp (e3.trans q.1)
