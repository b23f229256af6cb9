/-! ===== the least of pairs ===== -/
def Ca_ (O G : Int → Prop) (N a b : Int) : Prop := (0 ≤ a ∧ a < N ∧ O a) ∧ (0 ≤ b ∧ b < N ∧ G b)
def Bp_ (D : Int → Int → Int) (O G : Int → Prop) (N w v : Int) : Prop := Ca_ O G N w v ∧ ∀ a b, Ca_ O G N a b → D w v ≤ D a b ∧ (32 * a + b < 32 * w + v → D w v < D a b)
section Tre
variable {D D2 : Int → Int → Int} {O O2 G G2 S : Int → Prop} {F F2 : Int → Int} {N m k p q w v d z a b c c2 fi : Int}
theorem Bp_det {w2 v2 : Int} (h : Bp_ D O G N w v) (h2 : Bp_ D O G N w2 v2) (hN : N ≤ 32) : w = w2 ∧ v = v2 := by
  have a := h.2 w2 v2 h2.1
  have b := h2.2 w v h.1
  obtain ⟨⟨⟨p1, p2, -⟩, p3, p4, -⟩, -⟩ := h
  obtain ⟨⟨⟨q1, q2, -⟩, q3, q4, -⟩, -⟩ := h2
  have e : 32 * w + v = 32 * w2 + v2 := by
    rcases Int.lt_trichotomy (32 * w + v) (32 * w2 + v2) with r | r | r
    · have := b.2 r; omega
    · exact r
    · have := a.2 r; omega
  omega
theorem Ca_cg (hO : ∀ a, 0 ≤ a → a < N → (O2 a ↔ O a)) (hG : ∀ a, 0 ≤ a → a < N → (G2 a ↔ G a)) : Ca_ O2 G2 N a b ↔ Ca_ O G N a b := ⟨fun ⟨⟨x, y, z⟩, u, v, w⟩ => ⟨⟨x, y, (hO _ x y).1 z⟩, u, v, (hG _ u v).1 w⟩, fun ⟨⟨x, y, z⟩, u, v, w⟩ => ⟨⟨x, y, (hO _ x y).2 z⟩, u, v, (hG _ u v).2 w⟩⟩
theorem Bp_cg (hD : ∀ a b, 0 ≤ a → a < N → 0 ≤ b → b < N → D2 a b = D a b) (hO : ∀ a, 0 ≤ a → a < N → (O2 a ↔ O a)) (hG : ∀ a, 0 ≤ a → a < N → (G2 a ↔ G a)) (h : Bp_ D O G N w v) : Bp_ D2 O2 G2 N w v := by
  refine ⟨(Ca_cg hO hG).2 h.1, fun a b c => ?_⟩
  have q := h.2 a b ((Ca_cg hO hG).1 c)
  rw [hD a b c.1.1 c.1.2.1 c.2.1 c.2.2.1, hD w v h.1.1.1 h.1.1.2.1 h.1.2.1 h.1.2.2.1]
  exact q
/-- so far: of the pairs before k -/
def Bks_ (D : Int → Int → Int) (O G : Int → Prop) (N m k w v d : Int) : Prop := (d = m ∧ ∀ a b, Ca_ O G N a b → 32 * a + b < k → False) ∨ (Ca_ O G N w v ∧ d = D w v ∧ 32 * w + v < k ∧ ∀ a b, Ca_ O G N a b → 32 * a + b < k → D w v ≤ D a b ∧ (32 * a + b < 32 * w + v → D w v < D a b))
theorem Bks_0 (hk : k ≤ 0) : Bks_ D O G N m k w v m := Or.inl ⟨rfl, fun a b c q => by
  obtain ⟨⟨a0, -⟩, b0, -⟩ := c
  omega⟩
theorem Bks_to {k2 : Int} (h : Bks_ D O G N m k w v d) (hk : k ≤ k2) (hn : ∀ a b, Ca_ O G N a b → k ≤ 32 * a + b → 32 * a + b < k2 → False) : Bks_ D O G N m k2 w v d := by
  have key : ∀ a b, Ca_ O G N a b → 32 * a + b < k2 → 32 * a + b < k := fun a b c q => by
    rcases Int.lt_or_le (32 * a + b) k with r | r
    · exact r
    · exact (hn a b c r q).elim
  rcases h with ⟨e, h⟩ | ⟨c, e, l, h⟩
  · exact Or.inl ⟨e, fun a b c q => h a b c (key a b c q)⟩
  · exact Or.inr ⟨c, e, by omega, fun a b c q => h a b c (key a b c q)⟩
theorem Bks_no (h : Bks_ D O G N m (32 * p + q) w v d) (hq : 0 ≤ q ∧ q < 32 ∧ N ≤ 32) (hn : ¬ Ca_ O G N p q) : Bks_ D O G N m (32 * p + (q + 1)) w v d := Bks_to h (by omega) (fun a b c r s => hn (by
  have c2 := c
  obtain ⟨⟨a0, a1, -⟩, b0, b1, -⟩ := c2
  have ea : a = p := by omega
  have eb : b = q := by omega
  rw [← ea, ← eb]; exact c))
theorem Bks_ge (h : Bks_ D O G N m (32 * p + q) w v d) (hq : 0 ≤ q ∧ q < 32 ∧ N ≤ 32) (hd : d ≤ D p q) (hm : D p q < m) : Bks_ D O G N m (32 * p + (q + 1)) w v d := by
  rcases h with ⟨e, h⟩ | ⟨c, e, l, h⟩
  · exfalso; omega
  · refine Or.inr ⟨c, e, by omega, fun a b c2 r => ?_⟩
    rcases Int.lt_or_le (32 * a + b) (32 * p + q) with s | s
    · exact h a b c2 s
    · obtain ⟨⟨a0, a1, -⟩, b0, b1, -⟩ := c2
      have ea : a = p := by omega
      have eb : b = q := by omega
      rw [ea, eb, ← e]
      exact ⟨hd, fun t => by omega⟩
theorem Bks_lt (h : Bks_ D O G N m (32 * p + q) w v d) (hN : N ≤ 32) (hc : Ca_ O G N p q) (hd : z = D p q) (hl : z < d) : Bks_ D O G N m (32 * p + (q + 1)) p q z := by
  refine Or.inr ⟨hc, hd, by omega, fun a b c2 r => ?_⟩
  rcases Int.lt_or_le (32 * a + b) (32 * p + q) with s | s
  · rcases h with ⟨e, h⟩ | ⟨c, e, l, h⟩
    · exact (h a b c2 s).elim
    · have t := (h a b c2 s).1
      exact ⟨by omega, fun _ => by omega⟩
  · obtain ⟨⟨a0, a1, -⟩, b0, b1, -⟩ := c2
    obtain ⟨⟨p0, p1, -⟩, q0, q1, -⟩ := hc
    have ea : a = p := by omega
    have eb : b = q := by omega
    rw [ea, eb]
    exact ⟨Int.le_refl _, fun t => by omega⟩
theorem Bks_row (h : Bks_ D O G N m (32 * p + q) w v d) (hq : N ≤ q ∧ q ≤ 32) : Bks_ D O G N m (32 * (p + 1)) w v d := Bks_to h (by omega) (fun a b c r s => by
  obtain ⟨⟨a0, a1, -⟩, b0, b1, -⟩ := c
  omega)
theorem Bks_skip (h : Bks_ D O G N m (32 * p) w v d) (hN : N ≤ 32) (hn : ¬ O p) : Bks_ D O G N m (32 * (p + 1)) w v d := Bks_to h (by omega) (fun a b c r s => by
  obtain ⟨⟨a0, a1, ao⟩, b0, b1, -⟩ := c
  have ea : a = p := by omega
  rw [ea] at ao
  exact hn ao)
theorem Bks_end (h : Bks_ D O G N m k w v d) (hk : k = 32 * N) (hN : N ≤ 32) (hc : ∃ a b, Ca_ O G N a b) : Bp_ D O G N w v ∧ d = D w v := by
  have key : ∀ a b, Ca_ O G N a b → 32 * a + b < k := fun a b c => by
    obtain ⟨⟨a0, a1, -⟩, b0, b1, -⟩ := c
    omega
  rcases h with ⟨e, h⟩ | ⟨c, e, l, h⟩
  · obtain ⟨a, b, c⟩ := hc
    exact (h a b c (key a b c)).elim
  · exact ⟨⟨c, fun a b c2 => h a b c2 (key a b c2)⟩, e⟩
/-! ===== the chain ===== -/
def Gr_ (D : Int → Int → Int) (S : Int → Prop) (N fi : Int) : Nat → (Int → Prop) → (Int → Int) → Int → Prop
  | 0, G, F, c => (∀ i, 0 ≤ i → i < 32 → (G i ↔ i = fi)) ∧ F fi = -1 ∧ c = 0
  | k + 1, G, F, c => ∃ (G0 : Int → Prop) (F0 : Int → Int) (c0 w v : Int), Gr_ D S N fi k G0 F0 c0 ∧ Bp_ D (fun i => S i ∧ ¬ G0 i) G0 N w v ∧ (∀ i, 0 ≤ i → i < 32 → (G i ↔ (G0 i ∨ i = w))) ∧ (∀ i, 0 ≤ i → i < 32 → G0 i → F i = F0 i) ∧ F w = v ∧ c = w32_ (c0 + D w v)
theorem Gr_00 {j : Nat} {g h : Int → Int} (hj : j = 0) (z : ∀ i, 0 ≤ i → i < 32 → g i = 0) : Gr_ D S N fi j (fun i => ¬ upA g fi 1 i = 0) (fun i => upA h fi (-1) i) 0 := by
  subst hj
  refine ⟨fun i i0 i1 => ?_, upA_same _ _ _, rfl⟩
  show ¬ upA g fi 1 i = 0 ↔ i = fi
  by_cases e : i = fi
  · rw [e, upA_same]
    exact ⟨fun _ => rfl, fun _ => by decide⟩
  · rw [upA_ne e, z i i0 i1]
    exact ⟨fun q => absurd rfl q, fun q => absurd q e⟩
theorem Gr_nx {j j2 : Nat} (hj : j2 = j + 1) (h : Gr_ D S N fi j G F c) (hb : Bp_ D (fun i => S i ∧ ¬ G i) G N w v) (hG : ∀ i, 0 ≤ i → i < 32 → (G2 i ↔ (G i ∨ i = w))) (hF : ∀ i, 0 ≤ i → i < 32 → G i → F2 i = F i) (hw : F2 w = v) (hc : c2 = w32_ (c + D w v)) : Gr_ D S N fi j2 G2 F2 c2 := by
  subst hj
  exact ⟨G, F, c, w, v, h, hb, hG, hF, hw, hc⟩
theorem up_iff {g : Int → Int} {i : Int} : ¬ upA g w 1 i = 0 ↔ (¬ g i = 0 ∨ i = w) := by
  by_cases e : i = w
  · rw [e, upA_same]
    exact ⟨fun _ => Or.inr rfl, fun _ => by decide⟩
  · rw [upA_ne e]
    exact ⟨Or.inl, fun q => q.elim id (fun r => absurd r e)⟩
theorem Gr_cg (hD : ∀ a b, 0 ≤ a → a < N → 0 ≤ b → b < N → D2 a b = D a b) : ∀ (j : Nat) (G : Int → Prop) (F : Int → Int) (c : Int), Gr_ D S N fi j G F c → Gr_ D2 S N fi j G F c
  | 0, _, _, _, h => h
  | j + 1, G, F, c, ⟨G0, F0, c0, w, v, h1, h2, h3, h4, h5, h6⟩ => ⟨G0, F0, c0, w, v, Gr_cg hD j G0 F0 c0 h1, Bp_cg hD (fun _ _ _ => Iff.rfl) (fun _ _ _ => Iff.rfl) h2, h3, h4, h5, by rw [hD w v h2.1.1.1 h2.1.1.2.1 h2.1.2.1 h2.1.2.2.1]; exact h6⟩
theorem Gr_det (hN : N ≤ 32) : ∀ (j : Nat) (G : Int → Prop) (F : Int → Int) (c : Int) (G2 : Int → Prop) (F2 : Int → Int) (c2 : Int), Gr_ D S N fi j G F c → Gr_ D S N fi j G2 F2 c2 → (∀ i, 0 ≤ i → i < 32 → (G i ↔ G2 i)) ∧ (∀ i, 0 ≤ i → i < 32 → G i → F i = F2 i) ∧ c = c2
  | 0, G, F, c, G2, F2, c2, ⟨a1, a2, a3⟩, ⟨b1, b2, b3⟩ => ⟨fun i i0 i1 => (a1 i i0 i1).trans (b1 i i0 i1).symm, fun i i0 i1 q => by rw [(a1 i i0 i1).1 q, a2, b2], by rw [a3, b3]⟩
  | j + 1, G, F, c, G2, F2, c2, ⟨G0, F0, c0, w, v, a1, a2, a3, a4, a5, a6⟩, ⟨G3, F3, c3, w3, v3, b1, b2, b3, b4, b5, b6⟩ => by
    obtain ⟨e1, e2, e3⟩ := Gr_det hN j G0 F0 c0 G3 F3 c3 a1 b1
    have b2 : Bp_ D (fun i => S i ∧ ¬ G0 i) G0 N w3 v3 := Bp_cg (fun _ _ _ _ _ _ => rfl) (fun x x0 x1 => by
      show (S x ∧ ¬ G0 x) ↔ (S x ∧ ¬ G3 x)
      rw [e1 x x0 (by omega)]) (fun x x0 x1 => e1 x x0 (by omega)) b2
    obtain ⟨ew, ev⟩ := Bp_det a2 b2 hN
    subst ew
    subst ev
    refine ⟨fun i i0 i1 => by rw [a3 i i0 i1, b3 i i0 i1, e1 i i0 i1], fun i i0 i1 q => ?_, by rw [a6, b6, e3]⟩
    rcases (a3 i i0 i1).1 q with r | r
    · rw [a4 i i0 i1 r, b4 i i0 i1 ((e1 i i0 i1).1 r)]
      exact e2 i i0 i1 r
    · rw [r, a5, b5]
theorem Gr_pf : ∀ (n : Nat) (G : Int → Prop) (F : Int → Int) (c : Int), Gr_ D S N fi n G F c → ∀ j : Nat, j ≤ n → ∃ (Gk : Int → Prop) (Fk : Int → Int) (ck : Int), Gr_ D S N fi j Gk Fk ck ∧ ∀ i, 0 ≤ i → i < 32 → Gk i → G i ∧ F i = Fk i
  | 0, G, F, c, h, j, hj => ⟨G, F, c, by rw [show j = 0 by omega]; exact h, fun _ _ _ q => ⟨q, rfl⟩⟩
  | n + 1, G, F, c, h, j, hj => by
    by_cases e : j = n + 1
    · exact ⟨G, F, c, by rw [e]; exact h, fun _ _ _ q => ⟨q, rfl⟩⟩
    · obtain ⟨G0, F0, c0, w, v, h1, h2, h3, h4, h5, h6⟩ := h
      obtain ⟨Gk, Fk, ck, k1, k2⟩ := Gr_pf n G0 F0 c0 h1 j (by omega)
      refine ⟨Gk, Fk, ck, k1, fun i i0 i1 q => ?_⟩
      obtain ⟨r, s⟩ := k2 i i0 i1 q
      exact ⟨(h3 i i0 i1).2 (Or.inl r), by rw [h4 i i0 i1 r]; exact s⟩
theorem Gr_in (hf : 0 ≤ fi ∧ fi < 32) : ∀ (j : Nat) (G : Int → Prop) (F : Int → Int) (c : Int), Gr_ D S N fi j G F c → G fi ∧ F fi = -1
  | 0, G, F, c, ⟨a1, a2, a3⟩ => ⟨(a1 fi hf.1 hf.2).2 rfl, a2⟩
  | j + 1, G, F, c, ⟨G0, F0, c0, w, v, a1, a2, a3, a4, a5, a6⟩ => by
    obtain ⟨r, s⟩ := Gr_in hf j G0 F0 c0 a1
    exact ⟨(a3 fi hf.1 hf.2).2 (Or.inl r), by rw [a4 fi hf.1 hf.2 r]; exact s⟩
theorem Gr_S (hf : S fi) : ∀ (j : Nat) (G : Int → Prop) (F : Int → Int) (c : Int), Gr_ D S N fi j G F c → ∀ i, 0 ≤ i → i < 32 → G i → S i
  | 0, G, F, c, ⟨a1, a2, a3⟩, i, i0, i1, q => by rw [(a1 i i0 i1).1 q]; exact hf
  | j + 1, G, F, c, ⟨G0, F0, c0, w, v, a1, a2, a3, a4, a5, a6⟩, i, i0, i1, q => by
    rcases (a3 i i0 i1).1 q with r | r
    · exact Gr_S hf j G0 F0 c0 a1 i i0 i1 r
    · rw [r]; exact a2.1.1.2.2.1
/-! how many -/
theorem nq_z {A : Int → Prop} : ∀ k : Nat, (∀ i : Int, 0 ≤ i → i < (k : Int) → ¬ A i) → nq_ A k = 0
  | 0, _ => rfl
  | k + 1, h => by rw [nq_s, nq_z k (fun i a b => h i a (by omega)), i1_f (h (k : Int) (by omega) (by omega))]; rfl
theorem nq_le {A B : Int → Prop} : ∀ k : Nat, (∀ i : Int, 0 ≤ i → i < (k : Int) → A i → B i) → nq_ A k ≤ nq_ B k
  | 0, _ => Int.le_refl 0
  | k + 1, h => by
    have q := nq_le k (fun i a b => h i a (by omega))
    rw [nq_s, nq_s]
    by_cases e : A (k : Int)
    · rw [i1_t e, i1_t (h (k : Int) (by omega) (by omega) e)]; omega
    · have r := i1_rg (B (k : Int))
      rw [i1_f e]; omega
theorem nq_ad {A B : Int → Prop} (hA : ¬ A w) (hB : B w) : ∀ k : Nat, (∀ i : Int, 0 ≤ i → i < (k : Int) → i ≠ w → (B i ↔ A i)) → 0 ≤ w → w < (k : Int) → nq_ B k = nq_ A k + 1
  | 0, _, h0, h1 => by exfalso; omega
  | k + 1, h, h0, h1 => by
    rw [nq_s, nq_s]
    by_cases e : w = (k : Int)
    · have a : nq_ B k = nq_ A k := nq_cg k (fun i a b => h i a (by omega) (by omega))
      rw [a, ← e, i1_f hA, i1_t hB]; omega
    · rw [nq_ad hA hB k (fun i a b => h i a (by omega)) h0 (by omega), propext (h (k : Int) (by omega) (by omega) (fun q => e q.symm))]; omega
theorem Gr_ct (hN : N ≤ 32) (hf : 0 ≤ fi ∧ fi < 32) : ∀ (j : Nat) (G : Int → Prop) (F : Int → Int) (c : Int), Gr_ D S N fi j G F c → nq_ G 32 = (j : Int) + 1
  | 0, G, F, c, ⟨a1, a2, a3⟩ => by
    have q := nq_ad (A := fun _ => False) (B := G) (w := fi) (fun q => q) ((a1 fi hf.1 hf.2).2 rfl) 32 (fun i i0 i1 n => (a1 i i0 (by omega)).trans ⟨fun e => absurd e n, fun e => e.elim⟩) hf.1 (by omega)
    rw [q, nq_z 32 (fun _ _ _ q => q)]; rfl
  | j + 1, G, F, c, ⟨G0, F0, c0, w, v, a1, a2, a3, a4, a5, a6⟩ => by
    obtain ⟨⟨⟨w0, w1, w2⟩, -⟩, -⟩ := a2
    have q := nq_ad (A := G0) (B := G) (w := w) w2.2 ((a3 w w0 (by omega)).2 (Or.inr rfl)) 32 (fun i i0 i1 n => (a3 i i0 (by omega)).trans ⟨fun e => e.elim id (fun r => absurd r n), Or.inl⟩) w0 (by omega)
    rw [q, Gr_ct hN hf j G0 F0 c0 a1]; omega
theorem Gr_more {j : Nat} (h : Gr_ D S N fi j G F c) (hN : N ≤ 32) (hf : 0 ≤ fi ∧ fi < 32) (hs : S fi) (hS : ∀ i, 0 ≤ i → i < 32 → S i → i < N) (hc : (j : Int) + 1 < nq_ S 32) : ∃ a b, Ca_ (fun i => S i ∧ ¬ G i) G N a b := by
  have e : ∃ a, 0 ≤ a ∧ a < 32 ∧ S a ∧ ¬ G a := Classical.byContradiction fun n => by
    have q := nq_le (A := S) (B := G) 32 (fun i i0 i1 s => Classical.byContradiction fun g => n ⟨i, i0, by omega, s, g⟩)
    rw [Gr_ct hN hf j G F c h] at q
    omega
  obtain ⟨a, a0, a1, a2, a3⟩ := e
  exact ⟨a, fi, ⟨a0, hS a a0 a1 a2, a2, a3⟩, hf.1, hS fi hf.1 hf.2 hs, (Gr_in hf j G F c h).1⟩
theorem Gr_all {j : Nat} {i : Int} (h : Gr_ D S N fi j G F c) (hN : N ≤ 32) (hf : 0 ≤ fi ∧ fi < 32) (hs : S fi) (hc : (j : Int) + 1 = nq_ S 32) (i0 : 0 ≤ i) (i1 : i < 32) (hi : S i) : G i := Classical.byContradiction fun n => by
  have a := nq_ad (A := G) (B := fun x => G x ∨ x = i) (w := i) n (Or.inr rfl) 32 (fun x x0 x1 nx => ⟨fun e => e.elim id (fun r => absurd r nx), Or.inl⟩) i0 (by omega)
  have b := nq_le (A := fun x => G x ∨ x = i) (B := S) 32 (fun x x0 x1 q => q.elim (fun g => Gr_S hs j G F c h x x0 (by omega) g) (fun r => by rw [r]; exact hi))
  rw [a, Gr_ct hN hf j G F c h] at b
  omega
/-! ===== the least member ===== -/
def Fst_ (set f : Int) : Prop := (0 ≤ f ∧ f < 32 ∧ bt_ set f.toNat = true) ∧ ∀ i, 0 ≤ i → i < f → bt_ set i.toNat = false
theorem Fst_det {set f f2 : Int} (h : Fst_ set f) (h2 : Fst_ set f2) : f = f2 := by
  obtain ⟨⟨a0, a1, a2⟩, a3⟩ := h
  obtain ⟨⟨b0, b1, b2⟩, b3⟩ := h2
  rcases Int.lt_trichotomy f f2 with r | r | r
  · rw [b3 f a0 r] at a2; cases a2
  · exact r
  · rw [a3 f2 b0 r] at b2; cases b2
theorem least_ (t : Nat → Bool) : ∀ n : Nat, (∃ k, k < n ∧ t k = true) → ∃ f, f < n ∧ t f = true ∧ ∀ i, i < f → t i = false
  | 0, ⟨k, h, _⟩ => absurd h (Nat.not_lt_zero k)
  | n + 1, h => by
    by_cases e : ∃ k, k < n ∧ t k = true
    · obtain ⟨f, f1, f2, f3⟩ := least_ t n e
      exact ⟨f, by omega, f2, f3⟩
    · obtain ⟨k, k1, k2⟩ := h
      have ek : k = n := Classical.byContradiction fun q => e ⟨k, by omega, k2⟩
      refine ⟨k, k1, k2, fun i hi => ?_⟩
      cases hb : t i with
      | false => rfl
      | true => exact absurd ⟨i, by omega, hb⟩ e
theorem Fst_ex {set : Int} (h : 0 < cn_ set) : ∃ f, Fst_ set f := by
  have e1 : cn_ set = nq_ (fun i => bt_ set i.toNat = true) 32 := pp_nq 32 (J set).toBitVec.toNat
  have e2 : ∃ k : Nat, k < 32 ∧ bt_ set k = true := Classical.byContradiction fun n => by
    have z := nq_z (A := fun i => bt_ set i.toNat = true) 32 (fun i i0 i1 q => n ⟨i.toNat, by omega, q⟩)
    omega
  obtain ⟨f, f1, f2, f3⟩ := least_ (bt_ set) 32 e2
  exact ⟨(f : Int), ⟨by omega, by omega, by simpa using f2⟩, fun i i0 i1 => f3 i.toNat (by omega)⟩
theorem cn_nqS {set : Int} : cn_ set = nq_ (fun i => bt_ set (Int.toNat i) = true) 32 := pp_nq 32 (J set).toBitVec.toNat
/-- a number and what it is less: its least one alone -/
theorem low_nat {x f : Nat} (hx : x < 2 ^ 32) (h1 : x.testBit f = true) (h0 : ∀ i, i < f → x.testBit i = false) (i : Nat) (hi : i < 32) : (x.testBit i && (2 ^ 32 - x).testBit i) = decide (i = f) := by
  have hm : x % 2 ^ f = 0 := Nat.eq_of_testBit_eq fun j => by
    rw [Nat.testBit_mod_two_pow, Nat.zero_testBit]
    by_cases q : j < f
    · rw [h0 j q, Bool.and_false]
    · rw [decide_eq_false q, Bool.false_and]
  have hd : (x / 2 ^ f).testBit 0 = true := by
    rw [Nat.testBit_div_two_pow]
    simpa using h1
  rw [Nat.testBit_zero] at hd
  have hd := of_decide_eq_true hd
  have ex : x = 2 ^ f * (x / 2 ^ f) := by
    have := Nat.div_add_mod x (2 ^ f)
    rw [hm] at this
    omega
  have y1 : 0 < x / 2 ^ f := by
    rcases Nat.eq_zero_or_pos (x / 2 ^ f) with q | q
    · rw [q] at hd; exact absurd hd (by decide)
    · exact q
  have y2 : ∀ y : Nat, y % 2 = 1 → (y - 1) / 2 = y / 2 := fun y h => by omega
  have y3 : ∀ y : Nat, y % 2 = 1 → ¬ (y - 1) % 2 = 1 := fun y h => by omega
  have pf : 0 < 2 ^ f := Nat.two_pow_pos f
  have e1 : x = 2 ^ f * (x / 2 ^ f) + 0 := ex
  have e2 : x - 1 = 2 ^ f * (x / 2 ^ f - 1) + (2 ^ f - 1) := by
    have e3 : 2 ^ f * (x / 2 ^ f - 1) + 2 ^ f = 2 ^ f * (x / 2 ^ f) := by
      rw [← Nat.mul_succ]
      congr 1
      exact Nat.sub_add_cancel y1
    omega
  have x1 : 0 < x := by
    rcases Nat.eq_zero_or_pos x with q | q
    · rw [q, Nat.zero_testBit] at h1; cases h1
    · exact q
  have e4 : (2 ^ 32 - x).testBit i = !(x - 1).testBit i := by
    have q := Nat.testBit_two_pow_sub_succ (n := 32) (x := x - 1) (by omega) i
    rw [show x - 1 + 1 = x by omega, decide_eq_true hi, Bool.true_and] at q
    exact q
  have a1 : x.testBit i = if i < f then (0 : Nat).testBit i else (x / 2 ^ f).testBit (i - f) := by
    have q := Nat.testBit_two_pow_mul_add (x / 2 ^ f) (b := 0) (i := f) pf i
    rw [← e1] at q
    exact q
  have a2 : (x - 1).testBit i = if i < f then (2 ^ f - 1).testBit i else (x / 2 ^ f - 1).testBit (i - f) := by
    have q := Nat.testBit_two_pow_mul_add (x / 2 ^ f - 1) (b := 2 ^ f - 1) (i := f) (by omega) i
    rw [← e2] at q
    exact q
  rw [e4, a1, a2]
  by_cases q : i < f
  · rw [if_pos q, Nat.zero_testBit, Bool.false_and, decide_eq_false (by omega)]
  · rw [if_neg q, if_neg q]
    by_cases r : i = f
    · rw [decide_eq_true r, show i - f = 0 by omega, Nat.testBit_zero, Nat.testBit_zero, decide_eq_true hd, decide_eq_false (y3 _ hd)]
      rfl
    · obtain ⟨s, hs⟩ : ∃ s, i - f = s + 1 := ⟨i - f - 1, by omega⟩
      rw [decide_eq_false r, hs, Nat.testBit_succ, Nat.testBit_succ, y2 _ hd]
      cases (x / 2 ^ f / 2).testBit s <;> rfl
theorem low_bt {a z1 z f : Int} (e1 : J z1 = J (-a)) (e2 : J z = J a &&& J z1) (h : Fst_ a f) : ∀ i, 0 ≤ i → i < 32 → (bt_ z (Int.toNat i) = true ↔ i = f) := fun i i0 i1 => by
  obtain ⟨⟨f0, f1, f2⟩, f3⟩ := h
  have lt := (J a).toBitVec.isLt
  have x0 : 0 < (J a).toBitVec.toNat := by
    rcases Nat.eq_zero_or_pos (J a).toBitVec.toNat with q | q
    · unfold bt_ at f2
      rw [q, Nat.zero_testBit] at f2; cases f2
    · exact q
  have n1 : (J z1).toBitVec.toNat = 2 ^ 32 - (J a).toBitVec.toNat := by
    have q : (J z1).toBitVec = (J 0).toBitVec - (J a).toBitVec := by rw [e1, show -a = 0 - a by omega, ← J_sub]; rfl
    rw [q, BitVec.toNat_sub, show (J 0).toBitVec.toNat = 0 by decide +kernel, Nat.add_zero]
    exact Nat.mod_eq_of_lt (by omega)
  have n2 : bt_ z (Int.toNat i) = ((J a).toBitVec.toNat.testBit i.toNat && (2 ^ 32 - (J a).toBitVec.toNat).testBit i.toNat) := by
    unfold bt_
    rw [e2, Int32.toBitVec_and, BitVec.toNat_and, Nat.testBit_and, n1]
  rw [n2, low_nat lt f2 (fun j hj => by have q := f3 (j : Int) (by omega) (by omega); simpa [bt_] using q) i.toNat (by omega)]
  constructor
  · intro q
    have := of_decide_eq_true q
    omega
  · intro q
    exact decide_eq_true (by omega)
theorem bt_not {g x : Int} (e : J x = J g ^^^ J (-1)) (i : Nat) (hi : i < 32) : bt_ x i = !bt_ g i := by
  unfold bt_
  rw [e, Int32.toBitVec_xor, BitVec.toNat_xor, Nat.testBit_xor, show (J (-1)).toBitVec.toNat = 2 ^ 32 - 1 by decide +kernel, Nat.testBit_two_pow_sub_one, decide_eq_true hi]
  cases (J g).toBitVec.toNat.testBit i <;> rfl
theorem dm_32 : ∀ k : Fin 1024, J (k.val : Int) / J 32 = J ((k.val / 32 : Nat) : Int) ∧ J (k.val : Int) - J (k.val : Int) / J 32 * J 32 = J ((k.val % 32 : Nat) : Int) := by decide +kernel
theorem dv_32 {z1 : Int} (h : b = 32 * w + v) (hw : 0 ≤ w ∧ w < 32) (hv : 0 ≤ v ∧ v < 32) (r : inR z1) (e : J z1 = J b / J 32) : z1 = w := by
  have q := (dm_32 ⟨b.toNat, by omega⟩).1
  simp only at q
  rw [show ((b.toNat : Nat) : Int) = b by omega, show ((b.toNat / 32 : Nat) : Int) = w by omega] at q
  exact (J_inj r (rr (by omega))).mp (e.trans q)
theorem rm_32 {z1 : Int} (h : b = 32 * w + v) (hw : 0 ≤ w ∧ w < 32) (hv : 0 ≤ v ∧ v < 32) (r : inR z1) (e : J z1 = J b - J b / J 32 * J 32) : z1 = v := by
  have q := (dm_32 ⟨b.toNat, by omega⟩).2
  simp only at q
  rw [show ((b.toNat : Nat) : Int) = b by omega, show ((b.toNat % 32 : Nat) : Int) = v by omega] at q
  exact (J_inj r (rr (by omega))).mp (e.trans q)
/-! both answers -/
def Tw_ (set what N : Int) : Prop := Bz_ set N ∧ (2 ≤ cn_ set ∧ cn_ set ≤ 8) ∧ (what = 0 ∨ (10 ≤ what ∧ what ≤ 41 ∧ bt_ set (Int.toNat (what - 10)) = true))
def Tc_ (D : Int → Int → Int) (set what N z : Int) : Prop := ∃ (f : Int) (j : Nat) (G : Int → Prop) (F : Int → Int) (c : Int), Fst_ set f ∧ (j : Int) + 1 ≤ cn_ set ∧ Gr_ D (fun i => bt_ set (Int.toNat i) = true) N f j G F c ∧ ((what = 0 ∧ (j : Int) + 1 = cn_ set ∧ z = c) ∨ (¬ what = 0 ∧ G (what - 10) ∧ z = F (what - 10)))
def Tm_ (D : Int → Int → Int) (set what N z : Int) : Prop := ∃ (f : Int) (j : Nat) (G : Int → Prop) (F : Int → Int) (c : Int), Fst_ set f ∧ (j : Int) + 1 = cn_ set ∧ Gr_ D (fun i => bt_ set (Int.toNat i) = true) N f j G F c ∧ ((what = 0 ∧ z = c) ∨ (¬ what = 0 ∧ z = F (what - 10)))
theorem T_det {set what z2 : Int} (hN : N ≤ 32) (hD : ∀ a b, 0 ≤ a → a < N → 0 ≤ b → b < N → D2 a b = D a b) (hw : Tw_ set what N) (h : Tc_ D set what N z) (h2 : Tm_ D2 set what N z2) : z = z2 := by
  obtain ⟨f, j, G, F, c, a1, a2, a3, a4⟩ := h
  obtain ⟨f2, j2, G2, F2, c2, b1, b2, b3, b4⟩ := h2
  have ef := Fst_det a1 b1
  subst ef
  have a3 := Gr_cg hD j G F c a3
  rcases a4 with ⟨q1, q2, q3⟩ | ⟨q1, q2, q3⟩
  · rcases b4 with ⟨r1, r2⟩ | ⟨r1, r2⟩
    · have e : j2 = j := by omega
      subst e
      rw [q3, r2]
      exact (Gr_det hN j2 G F c G2 F2 c2 a3 b3).2.2
    · exact absurd q1 r1
  · rcases b4 with ⟨r1, r2⟩ | ⟨r1, r2⟩
    · exact absurd r1 q1
    · obtain ⟨Gk, Fk, ck, k1, k2⟩ := Gr_pf j2 G2 F2 c2 b3 j (by omega)
      obtain ⟨d1, d2, -⟩ := Gr_det hN j G F c Gk Fk ck a3 k1
      have w0 : 0 ≤ what - 10 ∧ what - 10 < 32 := by
        rcases hw.2.2 with s | s
        · exact absurd s q1
        · omega
      rw [q3, r2, d2 _ w0.1 w0.2 q2]
      exact ((k2 _ w0.1 w0.2 ((d1 _ w0.1 w0.2).1 q2)).2).symm
end Tre
