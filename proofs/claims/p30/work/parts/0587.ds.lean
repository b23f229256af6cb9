/-! ===== level d: counts, what stands ===== -/
noncomputable def i1_ (p : Prop) : Int := @ite Int p (Classical.propDecidable p) 1 0
theorem i1_t {p : Prop} (h : p) : i1_ p = 1 := if_pos h
theorem i1_f {p : Prop} (h : ¬ p) : i1_ p = 0 := if_neg h
theorem i1_rg (p : Prop) : 0 ≤ i1_ p ∧ i1_ p ≤ 1 := by
  by_cases h : p
  · rw [i1_t h]; exact ⟨by decide, by decide⟩
  · rw [i1_f h]; exact ⟨by decide, by decide⟩
/-- how many of the first k are in S and have w -/
noncomputable def hd_ (S : Int → Prop) (wo : Int → Int) : Nat → Int → Int
  | 0, _ => 0
  | k + 1, w => hd_ S wo k w + i1_ (S (k : Int) ∧ wo (k : Int) = w)
section Hd
variable {S S2 : Int → Prop} {wo wo2 : Int → Int}
theorem hd_s {k : Nat} {w : Int} : hd_ S wo (k + 1) w = hd_ S wo k w + i1_ (S (k : Int) ∧ wo (k : Int) = w) := rfl
theorem hd_rg {w : Int} : ∀ k : Nat, 0 ≤ hd_ S wo k w ∧ hd_ S wo k w ≤ (k : Int)
  | 0 => ⟨Int.le_refl 0, Int.le_refl 0⟩
  | k + 1 => by
    have h := hd_rg (w := w) k
    have h2 := i1_rg (S (k : Int) ∧ wo (k : Int) = w)
    rw [hd_s]
    omega
theorem hd_cg {w : Int} : ∀ k : Nat, (∀ p : Int, 0 ≤ p → p < (k : Int) → (S p ↔ S2 p)) → (∀ p : Int, 0 ≤ p → p < (k : Int) → S p → wo p = wo2 p) → hd_ S wo k w = hd_ S2 wo2 k w
  | 0, _, _ => rfl
  | k + 1, h, h2 => by
    rw [hd_s, hd_s, hd_cg k (fun p a b => h p a (by omega)) (fun p a b => h2 p a (by omega))]
    have a := h (k : Int) (by omega) (by omega)
    by_cases e : S (k : Int) ∧ wo (k : Int) = w
    · rw [i1_t e, i1_t ⟨a.1 e.1, (h2 (k : Int) (by omega) (by omega) e.1).symm.trans e.2⟩]
    · rw [i1_f e, i1_f (fun q => e ⟨a.2 q.1, (h2 (k : Int) (by omega) (by omega) (a.2 q.1)).trans q.2⟩)]
theorem hd_pos {w : Int} : ∀ k : Nat, 0 < hd_ S wo k w → ∃ p : Int, 0 ≤ p ∧ p < (k : Int) ∧ S p ∧ wo p = w
  | 0, h => absurd h (by show ¬ (0 : Int) < 0; decide)
  | k + 1, h => by
    rw [hd_s] at h
    by_cases e : S (k : Int) ∧ wo (k : Int) = w
    · exact ⟨(k : Int), by omega, by omega, e.1, e.2⟩
    · rw [i1_f e] at h
      obtain ⟨p, a, b, c, d⟩ := hd_pos (w := w) k (by omega)
      exact ⟨p, a, by omega, c, d⟩
theorem hd_of {w : Int} : ∀ (k : Nat) (p : Int), 0 ≤ p → p < (k : Int) → S p → wo p = w → 0 < hd_ S wo k w
  | 0, p, h0, h1, _, _ => absurd h1 (by omega)
  | k + 1, p, h0, h1, h2, h3 => by
    rw [hd_s]
    have r := i1_rg (S (k : Int) ∧ wo (k : Int) = w)
    have q := (hd_rg (S := S) (wo := wo) (w := w) k).1
    by_cases e : p = (k : Int)
    · rw [i1_t (by rw [← e]; exact ⟨h2, h3⟩)]; omega
    · have := hd_of k p h0 (by omega) h2 h3
      omega
end Hd
/-- the least of those with the greatest count -/
def gr_ (H : Int → Int) (b : Int) : Prop := (0 ≤ b ∧ b < 32) ∧ ∀ w, 0 ≤ w → w < 32 → H w ≤ H b ∧ (w < b → H w < H b)
theorem gr_det {H : Int → Int} {b c : Int} (h : gr_ H b) (h2 : gr_ H c) : b = c := by
  have a1 := h.2 c h2.1.1 h2.1.2
  have a2 := h2.2 b h.1.1 h.1.2
  rcases Int.lt_trichotomy b c with e | e | e
  · have := a2.2 e; omega
  · exact e
  · have := a1.2 e; omega
theorem gr_cg {H H2 : Int → Int} {b : Int} (hH : ∀ w, 0 ≤ w → w < 32 → H2 w = H w) (h : gr_ H b) : gr_ H2 b := ⟨h.1, fun w h0 h1 => by
  rw [hH w h0 h1, hH b h.1.1 h.1.2]
  exact h.2 w h0 h1⟩
/-- which is picked: none if nothing is counted, the favoured one if it has as many, else the least -/
def Pkc_ (H : Int → Int) (sp r : Int) : Prop := ((∀ w, 0 ≤ w → w < 32 → H w ≤ 0) ∧ r = -1) ∨ (∃ b, gr_ H b ∧ 0 < H b ∧ (((0 ≤ sp ∧ sp < 32 ∧ H sp = H b) ∧ r = sp) ∨ (¬ (0 ≤ sp ∧ sp < 32 ∧ H sp = H b) ∧ r = b)))
theorem Pkc_cg {H H2 : Int → Int} {sp r : Int} (hH : ∀ w, 0 ≤ w → w < 32 → H2 w = H w) (h : Pkc_ H sp r) : Pkc_ H2 sp r := by
  rcases h with ⟨h, e⟩ | ⟨b, h1, h2, h3⟩
  · exact Or.inl ⟨fun w h0 h1 => by rw [hH w h0 h1]; exact h w h0 h1, e⟩
  · have eb := hH b h1.1.1 h1.1.2
    refine Or.inr ⟨b, gr_cg hH h1, by rw [eb]; exact h2, ?_⟩
    have q : (0 ≤ sp ∧ sp < 32 ∧ H2 sp = H2 b) ↔ (0 ≤ sp ∧ sp < 32 ∧ H sp = H b) := ⟨fun ⟨a, c, d⟩ => ⟨a, c, by rw [← hH sp a c, ← eb]; exact d⟩, fun ⟨a, c, d⟩ => ⟨a, c, by rw [hH sp a c, eb]; exact d⟩⟩
    exact h3.elim (fun x => Or.inl ⟨q.2 x.1, x.2⟩) (fun x => Or.inr ⟨fun y => x.1 (q.1 y), x.2⟩)
theorem Pkc_det {H : Int → Int} {sp r r2 : Int} (h : Pkc_ H sp r) (h2 : Pkc_ H sp r2) : r = r2 := by
  rcases h with ⟨h, e⟩ | ⟨b, a1, a2, a3⟩ <;> rcases h2 with ⟨h2, e2⟩ | ⟨c, b1, b2, b3⟩
  · omega
  · have := h c b1.1.1 b1.1.2; exfalso; omega
  · have := h2 b a1.1.1 a1.1.2; exfalso; omega
  · have e := gr_det a1 b1
    subst e
    rcases a3 with a3 | a3 <;> rcases b3 with b3 | b3
    · omega
    · exact absurd a3.1 b3.1
    · exact absurd b3.1 a3.1
    · omega
/-- whether somebody of quarter q is in S -/
def Qs_ (n : Nat) (S : Int → Prop) (qu : Int → Int) (q : Int) : Prop := ∃ p, 0 ≤ p ∧ p < (n : Int) ∧ S p ∧ qu p = q
/-- the wording that stands: S who is present and has the line -/
def Sw_ (n : Nat) (S : Int → Prop) (wo qu : Int → Int) (way sp r : Int) : Prop := ((way = 0 ∧ ¬ sp = -1) ∧ r = sp) ∨ (¬ (way = 0 ∧ ¬ sp = -1) ∧ ((¬ way = 2 ∧ Pkc_ (hd_ S wo n) sp r) ∨ (way = 2 ∧ ∃ gq : Int → Int, (∀ q, 0 ≤ q → q < 4 → Qs_ n S qu q → gr_ (hd_ (fun p => S p ∧ qu p = q) wo n) (gq q)) ∧ Pkc_ (hd_ (Qs_ n S qu) gq 4) sp r)))
theorem Sw_det {n : Nat} {S S2 : Int → Prop} {wo wo2 qu qu2 : Int → Int} {way sp r r2 : Int} (hS : ∀ p, 0 ≤ p → p < (n : Int) → (S p ↔ S2 p)) (hw : ∀ p, 0 ≤ p → p < (n : Int) → S p → wo p = wo2 p) (hq : ∀ p, 0 ≤ p → p < (n : Int) → qu p = qu2 p) (h : Sw_ n S wo qu way sp r) (h2 : Sw_ n S2 wo2 qu2 way sp r2) : r = r2 := by
  have Sm : ∀ q : Int, Qs_ n S qu q ↔ Qs_ n S2 qu2 q := fun q => ⟨fun ⟨p, a, b, c, d⟩ => ⟨p, a, b, (hS p a b).1 c, (hq p a b).symm.trans d⟩, fun ⟨p, a, b, c, d⟩ => ⟨p, a, b, (hS p a b).2 c, (hq p a b).trans d⟩⟩
  rcases h with ⟨a1, a2⟩ | ⟨a1, a2⟩ <;> rcases h2 with ⟨b1, b2⟩ | ⟨b1, b2⟩
  · omega
  · exact absurd a1 b1
  · exact absurd b1 a1
  · rcases a2 with ⟨a2, a3⟩ | ⟨a2, gq, a3, a4⟩ <;> rcases b2 with ⟨b2, b3⟩ | ⟨b2, gq2, b3, b4⟩
    · exact Pkc_det (Pkc_cg (fun w _ _ => (hd_cg n hS hw).symm) a3) b3
    · exact absurd b2 a2
    · exact absurd a2 b2
    · have eg : ∀ q, 0 ≤ q → q < ((4 : Nat) : Int) → Qs_ n S qu q → gq q = gq2 q := fun q q0 q1 hs => by
        have c1 := a3 q q0 q1 hs
        have c2 := b3 q q0 q1 ((Sm q).1 hs)
        refine gr_det c1 (gr_cg (fun w _ _ => hd_cg n (fun p p0 p1 => ?_) (fun p p0 p1 ps => hw p p0 p1 ps.1)) c2)
        exact ⟨fun x => ⟨(hS p p0 p1).1 x.1, (hq p p0 p1).symm.trans x.2⟩, fun x => ⟨(hS p p0 p1).2 x.1, (hq p p0 p1).trans x.2⟩⟩
      exact Pkc_det (Pkc_cg (fun w _ _ => (hd_cg 4 (fun q _ _ => Sm q) eg).symm) a4) b4
/-- the wording of the one who speaks, if c -/
noncomputable def spk_ (c : Prop) (w : Int) : Int := @ite Int c (Classical.propDecidable c) w (-1)
theorem spk_t {c : Prop} {w : Int} (h : c) : spk_ c w = w := if_pos h
theorem spk_f {c : Prop} {w : Int} (h : ¬ c) : spk_ c w = -1 := if_neg h
theorem spk_cg {c c2 : Prop} {w w2 : Int} (h : c ↔ c2) (hw : c → w = w2) : spk_ c w = spk_ c2 w2 := by
  by_cases q : c
  · rw [spk_t q, spk_t (h.1 q)]; exact hw q
  · rw [spk_f q, spk_f (fun z => q (h.2 z))]
/-- counts of heads in a row -/
def Hc_ (h : Int → Int) (S : Int → Prop) (wo : Int → Int) (k : Int) : Prop := ∀ w, 0 ≤ w → w < 32 → h w = hd_ S wo k.toNat w
theorem Hc_0 {h : Int → Int} {S : Int → Prop} {wo : Int → Int} (z : ∀ j, 0 ≤ j → j < 32 → h j = 0) : Hc_ h S wo 0 := fun w h0 h1 => z w h0 h1
theorem hd_nx {S : Int → Prop} {wo : Int → Int} {k w : Int} (hk : 0 ≤ k) : hd_ S wo (k + 1).toNat w = hd_ S wo k.toNat w + i1_ (S k ∧ wo k = w) := by
  have e : (k + 1).toNat = k.toNat + 1 := by omega
  have e2 : ((k.toNat : Nat) : Int) = k := by omega
  rw [e, hd_s, e2]
theorem Hc_up {h h2 : Int → Int} {S : Int → Prop} {wo : Int → Int} {k : Int} (z : Hc_ h S wo k) (hk : 0 ≤ k) (hs : S k) (e1 : h2 (wo k) = h (wo k) + 1) (e2 : ∀ w, 0 ≤ w → w < 32 → w ≠ wo k → h2 w = h w) : Hc_ h2 S wo (k + 1) := fun w h0 h1 => by
  rw [hd_nx hk]
  by_cases e : wo k = w
  · rw [i1_t ⟨hs, e⟩, ← z w h0 h1, ← e]; exact e1
  · rw [i1_f (fun q => e q.2), e2 w h0 h1 (fun q => e q.symm), z w h0 h1]; omega
theorem Hc_no {h : Int → Int} {S : Int → Prop} {wo : Int → Int} {k : Int} (z : Hc_ h S wo k) (hk : 0 ≤ k) (hs : ¬ S k) : Hc_ h S wo (k + 1) := fun w h0 h1 => by
  rw [hd_nx hk, i1_f (fun q => hs q.1), z w h0 h1]; omega
theorem Hc_cg {h : Int → Int} {S S2 : Int → Prop} {wo wo2 : Int → Int} {k : Int} (z : Hc_ h S wo k) (hS : ∀ p, 0 ≤ p → p < k → (S p ↔ S2 p)) (hw : ∀ p, 0 ≤ p → p < k → S p → wo p = wo2 p) : Hc_ h S2 wo2 k := fun w h0 h1 => by
  rw [z w h0 h1]
  exact hd_cg k.toNat (fun p p0 p1 => hS p p0 (by omega)) (fun p p0 p1 => hw p p0 (by omega))
/-- the voices of k quarters -/
def Vo_ (n : Nat) (S : Int → Prop) (wo qu h : Int → Int) (k : Int) : Prop := ∃ gq : Int → Int, (∀ q, 0 ≤ q → q < k → Qs_ n S qu q → gr_ (hd_ (fun p => S p ∧ qu p = q) wo n) (gq q)) ∧ Hc_ h (Qs_ n S qu) gq k
theorem Vo_0 {n : Nat} {S : Int → Prop} {wo qu h : Int → Int} (z : ∀ j, 0 ≤ j → j < 32 → h j = 0) : Vo_ n S wo qu h 0 := ⟨fun _ => 0, fun q h0 h1 => absurd h1 (by omega), Hc_0 z⟩
theorem Vo_ext {n : Nat} {S : Int → Prop} {wo qu h2 gq : Int → Int} {k b : Int} (z1 : ∀ q, 0 ≤ q → q < k → Qs_ n S qu q → gr_ (hd_ (fun p => S p ∧ qu p = q) wo n) (gq q)) (zc : Hc_ h2 (Qs_ n S qu) (upA gq k b) (k + 1)) (hb : Qs_ n S qu k → gr_ (hd_ (fun p => S p ∧ qu p = k) wo n) b) : Vo_ n S wo qu h2 (k + 1) := by
  refine ⟨upA gq k b, fun q h0 h1 hq => ?_, zc⟩
  by_cases e : q = k
  · subst e; rw [upA_same]; exact hb hq
  · rw [upA_ne e]; exact z1 q h0 (by omega) hq
theorem Vo_up {n : Nat} {S : Int → Prop} {wo qu h h2 g : Int → Int} {k b : Int} (z : Vo_ n S wo qu h k) (hk : 0 ≤ k) (hg : Hc_ g (fun p => S p ∧ qu p = k) wo (n : Int)) (hb : gr_ g b) (hp : 0 < g b) (e1 : h2 b = h b + 1) (e2 : ∀ w, 0 ≤ w → w < 32 → w ≠ b → h2 w = h w) : Vo_ n S wo qu h2 (k + 1) := by
  obtain ⟨gq, z1, z2⟩ := z
  have hn : ((n : Int)).toNat = n := by omega
  have hg2 : ∀ w, 0 ≤ w → w < 32 → hd_ (fun p => S p ∧ qu p = k) wo n w = g w := fun w h0 h1 => by
    have q := hg w h0 h1
    rw [hn] at q
    exact q.symm
  have hq : Qs_ n S qu k := by
    have q := hp
    rw [← hg2 b hb.1.1 hb.1.2] at q
    obtain ⟨p, p0, p1, ⟨p2, p3⟩, -⟩ := hd_pos n q
    exact ⟨p, p0, p1, p2, p3⟩
  have zu : Hc_ h (Qs_ n S qu) (upA gq k b) k := Hc_cg z2 (fun _ _ _ => Iff.rfl) (fun p p0 p1 _ => (upA_ne (by omega)).symm)
  refine Vo_ext z1 (Hc_up zu hk hq ?_ ?_) (fun _ => gr_cg hg2 hb)
  · rw [upA_same]; exact e1
  · rw [upA_same]; exact e2
theorem Vo_no {n : Nat} {S : Int → Prop} {wo qu h g : Int → Int} {k : Int} (z : Vo_ n S wo qu h k) (hk : 0 ≤ k) (hg : Hc_ g (fun p => S p ∧ qu p = k) wo (n : Int)) (hb : ∀ w, 0 ≤ w → w < 32 → g w ≤ 0) (hw : ∀ p, 0 ≤ p → p < (n : Int) → S p → 0 ≤ wo p ∧ wo p < 32) : Vo_ n S wo qu h (k + 1) := by
  obtain ⟨gq, z1, z2⟩ := z
  have hn : ((n : Int)).toNat = n := by omega
  have hq : ¬ Qs_ n S qu k := by
    rintro ⟨p, p0, p1, p2, p3⟩
    have w0 := hw p p0 p1 p2
    have q := hg (wo p) w0.1 w0.2
    rw [hn] at q
    have q2 := hb (wo p) w0.1 w0.2
    have q3 := hd_of (S := fun p => S p ∧ qu p = k) (wo := wo) n p p0 p1 ⟨p2, p3⟩ rfl
    omega
  have zu : Hc_ h (Qs_ n S qu) (upA gq k 0) k := Hc_cg z2 (fun _ _ _ => Iff.rfl) (fun p p0 p1 _ => (upA_ne (by omega)).symm)
  exact Vo_ext z1 (Hc_no zu hk hq) (fun q => absurd q hq)
/-- what is counted, by the way -/
def Hs_ (n : Nat) (S : Int → Prop) (wo qu : Int → Int) (way : Int) (h : Int → Int) : Prop := (¬ way = 2 ∧ Hc_ h S wo (n : Int)) ∨ (way = 2 ∧ Vo_ n S wo qu h 4)
theorem Hs_mv {n : Nat} {S : Int → Prop} {wo qu h h2 : Int → Int} {way : Int} (z : Hs_ n S wo qu way h) (e : ∀ w, 0 ≤ w → w < 32 → h2 w = h w) : Hs_ n S wo qu way h2 := by
  rcases z with ⟨a, z⟩ | ⟨a, gq, z1, z2⟩
  · exact Or.inl ⟨a, fun w h0 h1 => by rw [e w h0 h1]; exact z w h0 h1⟩
  · exact Or.inr ⟨a, gq, z1, fun w h0 h1 => by rw [e w h0 h1]; exact z2 w h0 h1⟩
theorem Sw_own {n : Nat} {S : Int → Prop} {wo qu : Int → Int} {way sp : Int} (h : way = 0) (h2 : ¬ sp = -1) : Sw_ n S wo qu way sp sp := Or.inl ⟨⟨h, h2⟩, rfl⟩
theorem Sw_of {n : Nat} {S : Int → Prop} {wo qu h : Int → Int} {way sp r : Int} (z : Hs_ n S wo qu way h) (hn : ¬ (way = 0 ∧ ¬ sp = -1)) (hp : Pkc_ h sp r) : Sw_ n S wo qu way sp r := by
  have hn2 : ((n : Int)).toNat = n := by omega
  rcases z with ⟨a, z⟩ | ⟨a, gq, z1, z2⟩
  · refine Or.inr ⟨hn, Or.inl ⟨a, Pkc_cg (fun w h0 h1 => ?_) hp⟩⟩
    have q := z w h0 h1
    rw [hn2] at q
    exact q.symm
  · exact Or.inr ⟨hn, Or.inr ⟨a, gq, z1, Pkc_cg (fun w h0 h1 => (z2 w h0 h1).symm) hp⟩⟩
/-- where somebody has it, something is counted -/
theorem Hs_pos {n : Nat} {S : Int → Prop} {wo qu h : Int → Int} {way b p : Int} (z : Hs_ n S wo qu way h) (hb : gr_ h b) (p0 : 0 ≤ p) (p1 : p < (n : Int)) (ps : S p) (hw : 0 ≤ wo p ∧ wo p < 32) (hq : 0 ≤ qu p ∧ qu p ≤ 3) : 0 < h b := by
  have hn2 : ((n : Int)).toNat = n := by omega
  rcases z with ⟨a, z⟩ | ⟨a, gq, z1, z2⟩
  · have q := z (wo p) hw.1 hw.2
    rw [hn2] at q
    have q2 := hd_of (S := S) (wo := wo) n p p0 p1 ps rfl
    have q3 := (hb.2 (wo p) hw.1 hw.2).1
    omega
  · have g := z1 (qu p) hq.1 (by omega) ⟨p, p0, p1, ps, rfl⟩
    have q := z2 (gq (qu p)) g.1.1 g.1.2
    have q2 := hd_of (S := Qs_ n S qu) (wo := gq) (4 : Int).toNat (qu p) hq.1 (by show qu p < (4 : Int); omega) ⟨p, p0, p1, ps, rfl⟩ rfl
    have q3 := (hb.2 (gq (qu p)) g.1.1 g.1.2).1
    omega
/-- what stands is somebody's -/
theorem Sw_rg {n : Nat} {S : Int → Prop} {wo qu : Int → Int} {way sp r W : Int} (z : Sw_ n S wo qu way sp r) (hs : sp = -1 ∨ (0 ≤ sp ∧ sp < W)) (hr : ¬ r = -1) (hw : ∀ p, 0 ≤ p → p < (n : Int) → S p → 0 ≤ wo p ∧ wo p < W) : 0 ≤ r ∧ r < W := by
  have key : ∀ (H : Int → Int), (∀ b, 0 ≤ b → b < 32 → 0 < H b → b < W) → Pkc_ H sp r → 0 ≤ r ∧ r < W := fun H hH hp => by
    rcases hp with ⟨-, e⟩ | ⟨b, hb, hpos, h3⟩
    · exact absurd e hr
    · have lt := hH b hb.1.1 hb.1.2 hpos
      have b0 := hb.1.1
      rcases h3 with ⟨⟨c1, c2, c3⟩, e⟩ | ⟨-, e⟩
      · omega
      · omega
  rcases z with ⟨a, e⟩ | ⟨a, ⟨-, z⟩ | ⟨-, gq, z1, z2⟩⟩
  · omega
  · refine key _ (fun b b0 b1 hp => ?_) z
    obtain ⟨p, p0, p1, p2, p3⟩ := hd_pos n hp
    have := hw p p0 p1 p2
    omega
  · refine key _ (fun b b0 b1 hp => ?_) z2
    obtain ⟨q, q0, q1, ⟨p, p0, p1, p2, p3⟩, q3⟩ := hd_pos 4 hp
    have g := z1 q q0 q1 ⟨p, p0, p1, p2, p3⟩
    have g2 := hw p p0 p1 p2
    have w32 : wo p < 32 ∨ 32 ≤ wo p := by omega
    by_cases lt : wo p < 32
    · have g3 := hd_of (S := fun p => S p ∧ qu p = q) (wo := wo) n p p0 p1 ⟨p2, p3⟩ rfl
      have g4 := (g.2 (wo p) g2.1 lt).1
      obtain ⟨u, u0, u1, u2, u3⟩ := hd_pos (S := fun p => S p ∧ qu p = q) (wo := wo) (w := gq q) n (by omega)
      have := hw u u0 u1 u2.1
      omega
    · have := hw p p0 p1 p2
      omega
/-- a person hears a line said with w: pr present, ho its family holds -/
def He_ (pr ho : Prop) (yr w s o f s2 o2 f2 : Int) : Prop := (pr ∧ 0 < s ∧ ((6 < s ∧ s2 = 9) ∨ (s ≤ 6 ∧ s2 = s + 3)) ∧ ((¬ ho ∧ ¬ o = w ∧ o2 = w ∧ f2 = 100) ∨ ((ho ∨ o = w) ∧ o2 = o ∧ f2 = f))) ∨ (pr ∧ s ≤ 0 ∧ (12 ≤ yr ∧ yr ≤ 40) ∧ s2 = 3 ∧ o2 = w ∧ f2 = 100) ∨ ((¬ pr ∨ (s ≤ 0 ∧ ¬ (12 ≤ yr ∧ yr ≤ 40))) ∧ s2 = s ∧ o2 = o ∧ f2 = f)
theorem He_eq {pr pr2 ho ho2 : Prop} {yr w s o f s2 o2 f2 t2 p2 g2 : Int} (hp : pr ↔ pr2) (hh : ho ↔ ho2) (h : He_ pr ho yr w s o f s2 o2 f2) (h2 : He_ pr2 ho2 yr w s o f t2 p2 g2) : s2 = t2 ∧ o2 = p2 ∧ f2 = g2 := by
  have ep : pr = pr2 := propext hp
  have eh : ho = ho2 := propext hh
  subst ep
  subst eh
  rcases h with ⟨a1, a2, a3, a4⟩ | ⟨a1, a2, a3, a4, a5, a6⟩ | ⟨a1, a2, a3, a4⟩ <;> rcases h2 with ⟨b1, b2, b3, b4⟩ | ⟨b1, b2, b3, b4, b5, b6⟩ | ⟨b1, b2, b3, b4⟩
  · rcases a4 with ⟨c1, c2, c3, c4⟩ | ⟨c1, c2, c3⟩ <;> rcases b4 with ⟨d1, d2, d3, d4⟩ | ⟨d1, d2, d3⟩
    · exact ⟨by omega, by omega, by omega⟩
    · exact absurd d1 (fun q => q.elim c1 c2)
    · exact absurd c1 (fun q => q.elim d1 d2)
    · exact ⟨by omega, by omega, by omega⟩
  · exfalso; omega
  · rcases b1 with q | q
    · exact absurd a1 q
    · exfalso; omega
  · exfalso; omega
  · exact ⟨by omega, by omega, by omega⟩
  · rcases b1 with q | q
    · exact absurd a1 q
    · exact absurd a3 q.2
  · rcases a1 with q | q
    · exact absurd b1 q
    · exfalso; omega
  · rcases a1 with q | q
    · exact absurd b1 q
    · exact absurd b3 q.2
  · exact ⟨by omega, by omega, by omega⟩
/-- nothing without strength -/
def nz_ (s o : Int) : Int := if 0 < s then o else -1
theorem nz_t {s o : Int} (h : 0 < s) : nz_ s o = o := if_pos h
theorem nz_f {s o : Int} (h : s ≤ 0) : nz_ s o = -1 := if_neg (by omega)
theorem He_nz {pr ho : Prop} {yr w s o f s2 o2 f2 : Int} (h : He_ pr ho yr w s o f s2 o2 f2) : He_ pr ho yr w s (nz_ s o) (nz_ s f) s2 (nz_ s2 o2) (nz_ s2 f2) := by
  rcases h with ⟨a1, a2, a3, a4⟩ | ⟨a1, a2, a3, a4, a5, a6⟩ | ⟨a1, a2, a3, a4⟩
  · have p2 : 0 < s2 := by omega
    rw [nz_t a2, nz_t a2, nz_t p2, nz_t p2]
    exact Or.inl ⟨a1, a2, a3, a4⟩
  · have p2 : 0 < s2 := by omega
    rw [nz_t p2, nz_t p2]
    exact Or.inr (Or.inl ⟨a1, a2, a3, a4, a5, a6⟩)
  · subst a2 a3 a4
    exact Or.inr (Or.inr ⟨a1, rfl, rfl, rfl⟩)
/-- a living one forgets a little -/
def Fd_ (li : Prop) (s o f s2 o2 f2 : Int) : Prop := (li ∧ 1 < s ∧ s2 = s - 1 ∧ o2 = o ∧ f2 = f) ∨ (li ∧ s ≤ 1 ∧ s2 = 0 ∧ o2 = -1 ∧ f2 = -1) ∨ (¬ li ∧ s2 = s ∧ o2 = o ∧ f2 = f)
theorem Fd_eq {li li2 : Prop} {s o f s2 o2 f2 t2 p2 g2 : Int} (hl : li ↔ li2) (h : Fd_ li s o f s2 o2 f2) (h2 : Fd_ li2 s o f t2 p2 g2) : s2 = t2 ∧ o2 = p2 ∧ f2 = g2 := by
  have el : li = li2 := propext hl
  subst el
  rcases h with ⟨a1, a2, a3, a4, a5⟩ | ⟨a1, a2, a3, a4, a5⟩ | ⟨a1, a2, a3, a4⟩ <;> rcases h2 with ⟨b1, b2, b3, b4, b5⟩ | ⟨b1, b2, b3, b4, b5⟩ | ⟨b1, b2, b3, b4⟩
  · exact ⟨by omega, by omega, by omega⟩
  · exfalso; omega
  · exact absurd a1 b1
  · exfalso; omega
  · exact ⟨by omega, by omega, by omega⟩
  · exact absurd a1 b1
  · exact absurd b1 a1
  · exact absurd b1 a1
  · exact ⟨by omega, by omega, by omega⟩
/-- an outlaw: an open suit of two summers -/
def Ou_ (m : Int) (on su pd at_ : Int → Int) (now p : Int) : Prop := ∃ i, 0 ≤ i ∧ i < m ∧ on i = p ∧ 0 < su i ∧ pd i = 0 ∧ 2 ≤ w32_ (now - at_ i)
theorem Ou_cg {m : Int} {on su pd at_ on2 su2 pd2 at2 : Int → Int} {now p : Int} (h : ∀ i, 0 ≤ i → i < m → on2 i = on i ∧ su2 i = su i ∧ pd2 i = pd i ∧ at2 i = at_ i) : Ou_ m on2 su2 pd2 at2 now p ↔ Ou_ m on su pd at_ now p := by
  constructor
  · rintro ⟨i, h0, h1, a, b, c, d⟩
    obtain ⟨e1, e2, e3, e4⟩ := h i h0 h1
    exact ⟨i, h0, h1, by omega, by omega, by omega, by rw [← e4]; exact d⟩
  · rintro ⟨i, h0, h1, a, b, c, d⟩
    obtain ⟨e1, e2, e3, e4⟩ := h i h0 h1
    exact ⟨i, h0, h1, by omega, by omega, by omega, by rw [e4]; exact d⟩
/-! ===== a summer, by views: G what stays (quarter, family, born, died; section, verse; holding; suits' against, sum, paid, summer), K numbers (persons, lines, suits, way, speaker), V what persons have (strength, wording, source) and what lines were said as, C silences, died, times said; away ===== -/
def prs_ (G : Nat → Int → Int) (K : Nat → Int) (C : Nat → Int → Int) (now p : Int) : Prop := G 3 p = -1 ∧ C 3 p = 0 ∧ ¬ Ou_ (K 2) (G 7) (G 8) (G 9) (G 10) now p
def Sme_ (K : Nat → Int) (V V2 : Nat → Int → Int → Int) (l : Int) : Prop := ∀ p, 0 ≤ p → p < K 0 → V2 0 p l = V 0 p l ∧ V2 1 p l = V 1 p l ∧ V2 2 p l = V 2 p l
def Fde_ (G : Nat → Int → Int) (K : Nat → Int) (V V2 : Nat → Int → Int → Int) (l : Int) : Prop := ∀ p, 0 ≤ p → p < K 0 → Fd_ (G 3 p = -1) (V 0 p l) (V 1 p l) (V 2 p l) (V2 0 p l) (V2 1 p l) (V2 2 p l)
/-- a line is called: z 1 said, 0 silent -/
def Cal_ (G : Nat → Int → Int) (K : Nat → Int) (now : Int) (Pr : Int → Prop) (l : Int) (V : Nat → Int → Int → Int) (C : Nat → Int → Int) (U : Nat → Int → Int → Int) (D : Nat → Int → Int) (z : Int) : Prop :=
  (z = 0 ∧ (∀ p, 0 ≤ p → p < K 0 → ¬ (Pr p ∧ 0 < V 0 p l)) ∧ D 0 l = C 0 l + 1 ∧ ((3 ≤ C 0 l + 1 ∧ D 1 l = now) ∨ (C 0 l + 1 < 3 ∧ D 1 l = C 1 l)) ∧ D 2 l = C 2 l ∧ (∀ t, 0 ≤ t → t < 200 → U 3 l t = upA (V 3 l) now (-1) t) ∧ Sme_ K V U l)
  ∨ (z = 1 ∧ (∃ p, 0 ≤ p ∧ p < K 0 ∧ Pr p ∧ 0 < V 0 p l) ∧ ∃ w, 0 ≤ w ∧ Sw_ (K 0).toNat (fun p => Pr p ∧ 0 < V 0 p l) (fun p => V 1 p l) (G 0) (K 3) (spk_ (0 ≤ K 4 ∧ K 4 < K 0 ∧ Pr (K 4) ∧ 0 < V 0 (K 4) l) (V 1 (K 4) l)) w ∧ D 0 l = 0 ∧ D 1 l = C 1 l ∧ D 2 l = w32_ (C 2 l + 1) ∧ (∀ t, 0 ≤ t → t < 200 → U 3 l t = upA (V 3 l) now w t) ∧ ∀ p, 0 ≤ p → p < K 0 → He_ (Pr p) (¬ G 6 (G 1 p) = 0) (w32_ (now - G 2 p)) w (V 0 p l) (V 1 p l) (V 2 p l) (U 0 p l) (U 1 p l) (U 2 p l))
def Cc_ (G : Nat → Int → Int) (K : Nat → Int) (now : Int) (Pr : Int → Prop) (l : Int) (V : Nat → Int → Int → Int) (C : Nat → Int → Int) (U : Nat → Int → Int → Int) (D : Nat → Int → Int) (z : Int) : Prop := (G 4 l = now % 3 ∧ C 1 l = -1 ∧ Cal_ G K now Pr l V C U D z) ∨ (¬ (G 4 l = now % 3 ∧ C 1 l = -1) ∧ z = 0 ∧ (D 0 l = C 0 l ∧ D 1 l = C 1 l ∧ D 2 l = C 2 l) ∧ (∀ t, 0 ≤ t → t < 200 → U 3 l t = V 3 l t) ∧ Sme_ K V U l)
def Fs_ (G : Nat → Int → Int) (K : Nat → Int) (now l z : Int) (U V2 : Nat → Int → Int → Int) : Prop := (∀ t, 0 ≤ t → t < 200 → V2 3 l t = U 3 l t) ∧ ((z = 0 ∧ (G 5 l = 0 ∨ now % 3 = 2) ∧ Fde_ G K U V2 l) ∨ (¬ (z = 0 ∧ (G 5 l = 0 ∨ now % 3 = 2)) ∧ Sme_ K U V2 l))
def Sm_ (G : Nat → Int → Int) (K : Nat → Int) (now : Int) (V : Nat → Int → Int → Int) (C : Nat → Int → Int) (V2 : Nat → Int → Int → Int) (C2 : Nat → Int → Int) : Prop := (∃ U : Nat → Int → Int → Int, ∀ l, 0 ≤ l → l < K 1 → ∃ z, Cc_ G K now (prs_ G K C now) l V C U C2 z ∧ Fs_ G K now l z U V2) ∧ (∀ l, K 1 ≤ l → l < 24 → Sme_ K V V2 l) ∧ (∀ p, 0 ≤ p → p < K 0 → C2 3 p = 0)
/-! views that agree -/
def Ag_ (K : Nat → Int) (G G2 : Nat → Int → Int) : Prop := (∀ p, 0 ≤ p → p < K 0 → (G 0 p = G2 0 p ∧ G 1 p = G2 1 p ∧ G 2 p = G2 2 p ∧ G 3 p = G2 3 p) ∧ 0 ≤ G 1 p ∧ G 1 p ≤ 7) ∧ (∀ l, 0 ≤ l → l < K 1 → G 4 l = G2 4 l ∧ (G 5 l = 0 ↔ G2 5 l = 0)) ∧ (∀ f, 0 ≤ f → f ≤ 7 → (G 6 f = 0 ↔ G2 6 f = 0)) ∧ (∀ i, 0 ≤ i → i < K 2 → G 7 i = G2 7 i ∧ G 8 i = G2 8 i ∧ G 9 i = G2 9 i ∧ G 10 i = G2 10 i)
def Av_ (K : Nat → Int) (V W : Nat → Int → Int → Int) : Prop := (∀ p l, 0 ≤ p → p < K 0 → 0 ≤ l → l < 24 → V 0 p l = W 0 p l ∧ V 1 p l = W 1 p l ∧ V 2 p l = W 2 p l) ∧ (∀ l t, 0 ≤ l → l < K 1 → 0 ≤ t → t < 200 → V 3 l t = W 3 l t)
def Ac_ (K : Nat → Int) (C D : Nat → Int → Int) : Prop := (∀ l, 0 ≤ l → l < K 1 → C 0 l = D 0 l ∧ C 1 l = D 1 l ∧ C 2 l = D 2 l) ∧ (∀ p, 0 ≤ p → p < K 0 → C 3 p = D 3 p)
theorem Av_rf {K : Nat → Int} {V : Nat → Int → Int → Int} : Av_ K V V := ⟨fun _ _ _ _ _ _ => ⟨rfl, rfl, rfl⟩, fun _ _ _ _ _ _ => rfl⟩
theorem Ac_rf {K : Nat → Int} {C : Nat → Int → Int} : Ac_ K C C := ⟨fun _ _ _ => ⟨rfl, rfl, rfl⟩, fun _ _ _ => rfl⟩
section Det
variable {G G2 : Nat → Int → Int} {K : Nat → Int} {now : Int} {V W U X V2 W2 : Nat → Int → Int → Int} {C D C2 D2 : Nat → Int → Int} {Pr Pr2 : Int → Prop}
theorem prs_cg (hG : Ag_ K G G2) (hC : Ac_ K C D) {p : Int} (h0 : 0 ≤ p) (h1 : p < K 0) : prs_ G K C now p ↔ prs_ G2 K D now p := by
  have a := (hG.1 p h0 h1).1.2.2.2
  have b := hC.2 p h0 h1
  have c : Ou_ (K 2) (G 7) (G 8) (G 9) (G 10) now p ↔ Ou_ (K 2) (G2 7) (G2 8) (G2 9) (G2 10) now p := Ou_cg (fun i i0 i1 => hG.2.2.2 i i0 i1)
  unfold prs_
  rw [a, b, c]
theorem Cal_det {l z z2 : Int} (hG : Ag_ K G G2) (hP : ∀ p, 0 ≤ p → p < K 0 → (Pr p ↔ Pr2 p)) (hl : 0 ≤ l ∧ l < K 1 ∧ l < 24) (hV : Av_ K V W) (hC : Ac_ K C D) (h : Cal_ G K now Pr l V C U C2 z) (h2 : Cal_ G2 K now Pr2 l W D X D2 z2) : z = z2 ∧ (C2 0 l = D2 0 l ∧ C2 1 l = D2 1 l ∧ C2 2 l = D2 2 l) ∧ (∀ t, 0 ≤ t → t < 200 → U 3 l t = X 3 l t) ∧ ∀ p, 0 ≤ p → p < K 0 → U 0 p l = X 0 p l ∧ U 1 p l = X 1 p l ∧ U 2 p l = X 2 p l := by
  have eV : ∀ p, 0 ≤ p → p < K 0 → V 0 p l = W 0 p l ∧ V 1 p l = W 1 p l ∧ V 2 p l = W 2 p l := fun p p0 p1 => hV.1 p l p0 p1 hl.1 hl.2.2
  have eC := hC.1 l hl.1 hl.2.1
  have eS : ∀ p, 0 ≤ p → p < K 0 → ((Pr p ∧ 0 < V 0 p l) ↔ (Pr2 p ∧ 0 < W 0 p l)) := fun p p0 p1 => by rw [(eV p p0 p1).1, hP p p0 p1]
  have e3 : ∀ (w t : Int), 0 ≤ t → t < 200 → upA (V 3 l) now w t = upA (W 3 l) now w t := fun w t t0 t1 => by
    by_cases e : t = now
    · rw [e, upA_same, upA_same]
    · rw [upA_ne e, upA_ne e]; exact hV.2 l t hl.1 hl.2.1 t0 t1
  rcases h with ⟨a0, a1, a2, a3, a4, a5, a6⟩ | ⟨a0, ⟨p, p0, p1, p2⟩, w, aw, a2, a3, a4, a5, a6, a7⟩ <;> rcases h2 with ⟨b0, b1, b2, b3, b4, b5, b6⟩ | ⟨b0, ⟨q, q0, q1, q2⟩, x, bw, b2, b3, b4, b5, b6, b7⟩
  · refine ⟨by omega, ⟨by omega, by omega, by omega⟩, fun t t0 t1 => by rw [a5 t t0 t1, b5 t t0 t1]; exact e3 _ t t0 t1, fun p p0 p1 => ?_⟩
    obtain ⟨c1, c2, c3⟩ := a6 p p0 p1
    obtain ⟨d1, d2, d3⟩ := b6 p p0 p1
    obtain ⟨f1, f2, f3⟩ := eV p p0 p1
    exact ⟨by omega, by omega, by omega⟩
  · exact absurd ((eS q q0 q1).2 q2) (a1 q q0 q1)
  · exact absurd ((eS p p0 p1).1 p2) (b1 p p0 p1)
  · have esp : spk_ (0 ≤ K 4 ∧ K 4 < K 0 ∧ Pr (K 4) ∧ 0 < V 0 (K 4) l) (V 1 (K 4) l) = spk_ (0 ≤ K 4 ∧ K 4 < K 0 ∧ Pr2 (K 4) ∧ 0 < W 0 (K 4) l) (W 1 (K 4) l) := spk_cg ⟨fun ⟨u, v, r⟩ => ⟨u, v, (eS _ u v).1 r⟩, fun ⟨u, v, r⟩ => ⟨u, v, (eS _ u v).2 r⟩⟩ (fun ⟨u, v, _⟩ => (eV _ u v).2.1)
    rw [esp] at a2
    have ew : w = x := Sw_det (fun p p0 p1 => eS p p0 (by omega)) (fun p p0 p1 _ => (eV p p0 (by omega)).2.1) (fun p p0 p1 => (hG.1 p p0 (by omega)).1.1) a2 b2
    subst ew
    refine ⟨by omega, ⟨by omega, by omega, by rw [a5, b5, eC.2.2]⟩, fun t t0 t1 => by rw [a6 t t0 t1, b6 t t0 t1]; exact e3 _ t t0 t1, fun p p0 p1 => ?_⟩
    have c := a7 p p0 p1
    have d := b7 p p0 p1
    obtain ⟨f1, f2, f3⟩ := eV p p0 p1
    have g := hG.1 p p0 p1
    rw [f1, f2, f3, g.1.2.2.1, g.1.2.1] at c
    refine He_eq (hP p p0 p1) ?_ c d
    have g2 := hG.2.2.1 (G 1 p) g.2.1 g.2.2
    rw [g.1.2.1] at g2
    rw [g2]
theorem Sm_det (hK : K 1 ≤ 24) (hG : Ag_ K G G2) (hV : Av_ K V W) (hC : Ac_ K C D) (h : Sm_ G K now V C V2 C2) (h2 : Sm_ G2 K now W D W2 D2) : Av_ K V2 W2 ∧ Ac_ K C2 D2 := by
  obtain ⟨⟨U, hU⟩, hr, ha⟩ := h
  obtain ⟨⟨X, hX⟩, hr2, ha2⟩ := h2
  have key : ∀ l, 0 ≤ l → l < K 1 → (C2 0 l = D2 0 l ∧ C2 1 l = D2 1 l ∧ C2 2 l = D2 2 l) ∧ (∀ t, 0 ≤ t → t < 200 → V2 3 l t = W2 3 l t) ∧ ∀ p, 0 ≤ p → p < K 0 → V2 0 p l = W2 0 p l ∧ V2 1 p l = W2 1 p l ∧ V2 2 p l = W2 2 p l := by
    intro l l0 l1
    obtain ⟨z, c, ⟨ft, ff⟩⟩ := hU l l0 l1
    obtain ⟨z2, c2, ⟨ft2, ff2⟩⟩ := hX l l0 l1
    have eC := hC.1 l l0 l1
    have eV : ∀ p, 0 ≤ p → p < K 0 → V 0 p l = W 0 p l ∧ V 1 p l = W 1 p l ∧ V 2 p l = W 2 p l := fun p p0 p1 => hV.1 p l p0 p1 l0 (by omega)
    have gl := hG.2.1 l l0 l1
    have mid : z = z2 ∧ (C2 0 l = D2 0 l ∧ C2 1 l = D2 1 l ∧ C2 2 l = D2 2 l) ∧ (∀ t, 0 ≤ t → t < 200 → U 3 l t = X 3 l t) ∧ ∀ p, 0 ≤ p → p < K 0 → U 0 p l = X 0 p l ∧ U 1 p l = X 1 p l ∧ U 2 p l = X 2 p l := by
      rcases c with ⟨a1, a2, a3⟩ | ⟨a1, a2, a3, a4, a5⟩ <;> rcases c2 with ⟨b1, b2, b3⟩ | ⟨b1, b2, b3, b4, b5⟩
      · exact Cal_det hG (fun p p0 p1 => prs_cg hG hC p0 p1) ⟨l0, l1, by omega⟩ hV hC a3 b3
      · exact absurd ⟨gl.1.symm.trans a1, eC.2.1.symm.trans a2⟩ b1
      · exact absurd ⟨gl.1.trans b1, eC.2.1.trans b2⟩ a1
      · refine ⟨by omega, ⟨by omega, by omega, by omega⟩, fun t t0 t1 => by rw [a4 t t0 t1, b4 t t0 t1]; exact hV.2 l t l0 l1 t0 t1, fun p p0 p1 => ?_⟩
        obtain ⟨u1, u2, u3⟩ := a5 p p0 p1
        obtain ⟨d1, d2, d3⟩ := b5 p p0 p1
        obtain ⟨f1, f2, f3⟩ := eV p p0 p1
        exact ⟨by omega, by omega, by omega⟩
    obtain ⟨m1, m2, m3, m4⟩ := mid
    refine ⟨m2, fun t t0 t1 => by rw [ft t t0 t1, ft2 t t0 t1]; exact m3 t t0 t1, fun p p0 p1 => ?_⟩
    obtain ⟨f1, f2, f3⟩ := m4 p p0 p1
    rcases ff with ⟨a1, a2, a3⟩ | ⟨a1, a2⟩ <;> rcases ff2 with ⟨b1, b2, b3⟩ | ⟨b1, b2⟩
    · have c := a3 p p0 p1
      have d := b3 p p0 p1
      rw [f1, f2, f3] at c
      have g := (hG.1 p p0 p1).1.2.2.2
      exact Fd_eq (by rw [g]) c d
    · exact absurd ⟨by omega, a2.elim (fun q => Or.inl (gl.2.1 q)) Or.inr⟩ b1
    · exact absurd ⟨by omega, b2.elim (fun q => Or.inl (gl.2.2 q)) Or.inr⟩ a1
    · obtain ⟨u1, u2, u3⟩ := a2 p p0 p1
      obtain ⟨d1, d2, d3⟩ := b2 p p0 p1
      exact ⟨by omega, by omega, by omega⟩
  refine ⟨⟨fun p l p0 p1 l0 l1 => ?_, fun l t l0 l1 t0 t1 => (key l l0 l1).2.1 t t0 t1⟩, fun l l0 l1 => (key l l0 l1).1, fun p p0 p1 => by rw [ha p p0 p1, ha2 p p0 p1]⟩
  by_cases e : l < K 1
  · exact (key l l0 e).2.2 p p0 p1
  · obtain ⟨u1, u2, u3⟩ := hr l (by omega) l1 p p0 p1
    obtain ⟨d1, d2, d3⟩ := hr2 l (by omega) l1 p p0 p1
    obtain ⟨f1, f2, f3⟩ := hV.1 p l p0 p1 l0 l1
    exact ⟨by omega, by omega, by omega⟩
end Det
/-- k summers -/
def Sn_ (G : Nat → Int → Int) (K : Nat → Int) (now : Int) (V : Nat → Int → Int → Int) (C : Nat → Int → Int) : Nat → (Nat → Int → Int → Int) → (Nat → Int → Int) → Prop
  | 0, V2, C2 => Av_ K V V2 ∧ Ac_ K C C2
  | k + 1, V2, C2 => ∃ (U : Nat → Int → Int → Int) (D : Nat → Int → Int), Sn_ G K now V C k U D ∧ Sm_ G K (now + (k : Int)) U D V2 C2
theorem Av_sy {K : Nat → Int} {V W : Nat → Int → Int → Int} (h : Av_ K V W) : Av_ K W V := ⟨fun p l a b c d => ⟨(h.1 p l a b c d).1.symm, (h.1 p l a b c d).2.1.symm, (h.1 p l a b c d).2.2.symm⟩, fun l t a b c d => (h.2 l t a b c d).symm⟩
theorem Av_tr {K : Nat → Int} {V W U : Nat → Int → Int → Int} (h : Av_ K V W) (h2 : Av_ K W U) : Av_ K V U := ⟨fun p l a b c d => ⟨(h.1 p l a b c d).1.trans (h2.1 p l a b c d).1, (h.1 p l a b c d).2.1.trans (h2.1 p l a b c d).2.1, (h.1 p l a b c d).2.2.trans (h2.1 p l a b c d).2.2⟩, fun l t a b c d => (h.2 l t a b c d).trans (h2.2 l t a b c d)⟩
theorem Ac_sy {K : Nat → Int} {V W : Nat → Int → Int} (h : Ac_ K V W) : Ac_ K W V := ⟨fun l a b => ⟨(h.1 l a b).1.symm, (h.1 l a b).2.1.symm, (h.1 l a b).2.2.symm⟩, fun p a b => (h.2 p a b).symm⟩
theorem Ac_tr {K : Nat → Int} {V W U : Nat → Int → Int} (h : Ac_ K V W) (h2 : Ac_ K W U) : Ac_ K V U := ⟨fun l a b => ⟨(h.1 l a b).1.trans (h2.1 l a b).1, (h.1 l a b).2.1.trans (h2.1 l a b).2.1, (h.1 l a b).2.2.trans (h2.1 l a b).2.2⟩, fun p a b => (h.2 p a b).trans (h2.2 p a b)⟩
theorem Sn_det {G G2 : Nat → Int → Int} {K : Nat → Int} {now : Int} {V W : Nat → Int → Int → Int} {C D : Nat → Int → Int} (hK : K 1 ≤ 24) (hG : Ag_ K G G2) (hV : Av_ K V W) (hC : Ac_ K C D) : ∀ (k : Nat) {V2 W2 : Nat → Int → Int → Int} {C2 D2 : Nat → Int → Int}, Sn_ G K now V C k V2 C2 → Sn_ G2 K now W D k W2 D2 → Av_ K V2 W2 ∧ Ac_ K C2 D2
  | 0, _, _, _, _, h, h2 => ⟨Av_tr (Av_sy h.1) (Av_tr hV h2.1), Ac_tr (Ac_sy h.2) (Ac_tr hC h2.2)⟩
  | k + 1, _, _, _, _, ⟨_, _, a, b⟩, ⟨_, _, c, d⟩ => by
    obtain ⟨e1, e2⟩ := Sn_det hK hG hV hC k a c
    exact Sm_det hK hG e1 e2 b d
theorem nx_all {P : Int → Prop} {g : Int} (h : ∀ r, 0 ≤ r → r < g → P r) (hg : P g) : ∀ r, 0 ≤ r → r < g + 1 → P r := fun r h1 h2 => by
  by_cases e : r = g
  · rw [e]; exact hg
  · exact h r h1 (by omega)
theorem Hc_q1 {h : Int → Int} {S : Int → Prop} {wo qu : Int → Int} {k q : Int} (z : Hc_ h (fun p => S p ∧ (q = -1 ∨ qu p = q)) wo k) (hq : q = -1) (hk : 0 ≤ k) : Hc_ h S wo ((k.toNat : Nat) : Int) := by
  rw [show ((k.toNat : Nat) : Int) = k by omega]
  exact Hc_cg z (fun p _ _ => ⟨fun x => x.1, fun x => ⟨x, Or.inl hq⟩⟩) (fun _ _ _ _ => rfl)
theorem Hc_q2 {h : Int → Int} {S : Int → Prop} {wo qu : Int → Int} {k q : Int} (z : Hc_ h (fun p => S p ∧ (q = -1 ∨ qu p = q)) wo k) (hq : ¬ q = -1) (hk : 0 ≤ k) : Hc_ h (fun p => S p ∧ qu p = q) wo ((k.toNat : Nat) : Int) := by
  rw [show ((k.toNat : Nat) : Int) = k by omega]
  exact Hc_cg z (fun p _ _ => ⟨fun x => ⟨x.1, x.2.elim (fun y => absurd y hq) id⟩, fun x => ⟨x.1, Or.inr x.2⟩⟩) (fun _ _ _ _ => rfl)
theorem Sw_cg {n : Nat} {S S2 : Int → Prop} {wo wo2 qu qu2 : Int → Int} {way sp r : Int} (hS : ∀ p, 0 ≤ p → p < (n : Int) → (S p ↔ S2 p)) (hw : ∀ p, 0 ≤ p → p < (n : Int) → S p → wo p = wo2 p) (hq : ∀ p, 0 ≤ p → p < (n : Int) → qu p = qu2 p) (h : Sw_ n S wo qu way sp r) : Sw_ n S2 wo2 qu2 way sp r := by
  have Sm : ∀ q : Int, Qs_ n S qu q ↔ Qs_ n S2 qu2 q := fun q => ⟨fun ⟨p, a, b, c, d⟩ => ⟨p, a, b, (hS p a b).1 c, (hq p a b).symm.trans d⟩, fun ⟨p, a, b, c, d⟩ => ⟨p, a, b, (hS p a b).2 c, (hq p a b).trans d⟩⟩
  rcases h with h | ⟨a1, ⟨a2, a3⟩ | ⟨a2, gq, a3, a4⟩⟩
  · exact Or.inl h
  · exact Or.inr ⟨a1, Or.inl ⟨a2, Pkc_cg (fun w _ _ => (hd_cg n hS hw).symm) a3⟩⟩
  · refine Or.inr ⟨a1, Or.inr ⟨a2, gq, fun q q0 q1 hs => ?_, Pkc_cg (fun w _ _ => (hd_cg 4 (fun q _ _ => Sm q) (fun _ _ _ _ => rfl)).symm) a4⟩⟩
    refine gr_cg (fun w _ _ => (hd_cg n (fun p p0 p1 => ?_) (fun p p0 p1 ps => hw p p0 p1 ps.1)).symm) (a3 q q0 q1 ((Sm q).2 hs))
    exact ⟨fun x => ⟨(hS p p0 p1).1 x.1, (hq p p0 p1).symm.trans x.2⟩, fun x => ⟨(hS p p0 p1).2 x.1, (hq p p0 p1).trans x.2⟩⟩
/-! a column, and how it is carried -/
def Sc_ (K : Nat → Int) (V : Nat → Int → Int → Int) (C : Nat → Int → Int) (U : Nat → Int → Int → Int) (D : Nat → Int → Int) (l : Int) : Prop := Sme_ K V U l ∧ (∀ t, 0 ≤ t → t < 200 → U 3 l t = V 3 l t) ∧ D 0 l = C 0 l ∧ D 1 l = C 1 l ∧ D 2 l = C 2 l
section Col
variable {G : Nat → Int → Int} {K : Nat → Int} {now : Int} {V W U X V2 W2 : Nat → Int → Int → Int} {C D C2 D2 E : Nat → Int → Int} {Pr : Int → Prop} {l z k : Int}
theorem Sc_rf : Sc_ K V C V C l := ⟨fun _ _ _ => ⟨rfl, rfl, rfl⟩, fun _ _ _ => rfl, rfl, rfl, rfl⟩
theorem Sme_tr (h : Sme_ K V W l) (h2 : Sme_ K W U l) : Sme_ K V U l := fun p a b => ⟨(h2 p a b).1.trans (h p a b).1, (h2 p a b).2.1.trans (h p a b).2.1, (h2 p a b).2.2.trans (h p a b).2.2⟩
theorem Sc_tr (h : Sc_ K V C W D l) (h2 : Sc_ K W D U E l) : Sc_ K V C U E l := ⟨Sme_tr h.1 h2.1, fun t a b => (h2.2.1 t a b).trans (h.2.1 t a b), h2.2.2.1.trans h.2.2.1, h2.2.2.2.1.trans h.2.2.2.1, h2.2.2.2.2.trans h.2.2.2.2⟩
/-- what comes out may be told of another view that has the same column -/
theorem Cal_out (h : Cal_ G K now Pr l V C U D z) (hs : Sc_ K U D X E l) : Cal_ G K now Pr l V C X E z := by
  obtain ⟨s1, s2, s3, s4, s5⟩ := hs
  rcases h with ⟨a0, a1, a2, a3, a4, a5, a6⟩ | ⟨a0, a1, w, aw, a2, a3, a4, a5, a6, a7⟩
  · exact Or.inl ⟨a0, a1, by omega, by omega, by omega, fun t t0 t1 => (s2 t t0 t1).trans (a5 t t0 t1), Sme_tr a6 s1⟩
  · refine Or.inr ⟨a0, a1, w, aw, a2, by omega, by omega, s5.trans a5, fun t t0 t1 => (s2 t t0 t1).trans (a6 t t0 t1), fun p p0 p1 => ?_⟩
    obtain ⟨c1, c2, c3⟩ := s1 p p0 p1
    rw [c1, c2, c3]
    exact a7 p p0 p1
/-- what goes in likewise -/
theorem Cal_in (h : Cal_ G K now Pr l V C U D z) (hs : Sc_ K W C2 V C l) : Cal_ G K now Pr l W C2 U D z := by
  obtain ⟨s1, s2, s3, s4, s5⟩ := hs
  have e3 : ∀ (w t : Int), 0 ≤ t → t < 200 → upA (V 3 l) now w t = upA (W 3 l) now w t := fun w t t0 t1 => by
    by_cases e : t = now
    · rw [e, upA_same, upA_same]
    · rw [upA_ne e, upA_ne e]; exact s2 t t0 t1
  have eS : ∀ p, 0 ≤ p → p < K 0 → ((Pr p ∧ 0 < V 0 p l) ↔ (Pr p ∧ 0 < W 0 p l)) := fun p p0 p1 => by rw [(s1 p p0 p1).1]
  rcases h with ⟨a0, a1, a2, a3, a4, a5, a6⟩ | ⟨a0, ⟨p, p0, p1, p2⟩, w, aw, a2, a3, a4, a5, a6, a7⟩
  · exact Or.inl ⟨a0, fun p p0 p1 q => a1 p p0 p1 ((eS p p0 p1).2 q), by omega, by omega, by omega, fun t t0 t1 => (a5 t t0 t1).trans (e3 _ t t0 t1), Sme_tr s1 a6⟩
  · have esp : spk_ (0 ≤ K 4 ∧ K 4 < K 0 ∧ Pr (K 4) ∧ 0 < V 0 (K 4) l) (V 1 (K 4) l) = spk_ (0 ≤ K 4 ∧ K 4 < K 0 ∧ Pr (K 4) ∧ 0 < W 0 (K 4) l) (W 1 (K 4) l) := spk_cg ⟨fun ⟨u, v, r⟩ => ⟨u, v, (eS _ u v).1 r⟩, fun ⟨u, v, r⟩ => ⟨u, v, (eS _ u v).2 r⟩⟩ (fun ⟨u, v, _⟩ => (s1 _ u v).2.1)
    rw [esp] at a2
    refine Or.inr ⟨a0, ⟨p, p0, p1, (eS p p0 p1).1 p2⟩, w, aw, Sw_cg (fun p p0 p1 => eS p p0 (by omega)) (fun p p0 p1 _ => (s1 p p0 (by omega)).2.1) (fun _ _ _ => rfl) a2, by omega, by omega, by rw [a5, s5], fun t t0 t1 => (a6 t t0 t1).trans (e3 _ t t0 t1), fun p p0 p1 => ?_⟩
    obtain ⟨c1, c2, c3⟩ := s1 p p0 p1
    rw [← c1, ← c2, ← c3]
    exact a7 p p0 p1
theorem Cc_out (h : Cc_ G K now Pr l V C U D z) (hs : Sc_ K U D X E l) : Cc_ G K now Pr l V C X E z := by
  rcases h with ⟨a1, a2, a3⟩ | ⟨a1, a2, a3, a4, a5⟩
  · exact Or.inl ⟨a1, a2, Cal_out a3 hs⟩
  · obtain ⟨s1, s2, s3, s4, s5⟩ := hs
    exact Or.inr ⟨a1, a2, ⟨by omega, by omega, by omega⟩, fun t t0 t1 => (s2 t t0 t1).trans (a4 t t0 t1), Sme_tr a5 s1⟩
/-- the lines below k are called, the others are as they were; sd: which were said -/
def Lp_ (G : Nat → Int → Int) (K : Nat → Int) (now : Int) (Pr : Int → Prop) (V : Nat → Int → Int → Int) (C : Nat → Int → Int) (U : Nat → Int → Int → Int) (D : Nat → Int → Int) (sd : Int → Prop) (k : Int) : Prop := (∀ l, 0 ≤ l → l < k → ∃ z, Cc_ G K now Pr l V C U D z ∧ ((z = 0 ∧ ¬ sd l) ∨ (z = 1 ∧ sd l))) ∧ (∀ l, k ≤ l → l < 24 → Sc_ K V C U D l)
theorem Lp_0 {sd : Int → Prop} : Lp_ G K now Pr V C V C sd 0 := ⟨fun l h0 h1 => absurd h1 (by omega), fun _ _ _ => Sc_rf⟩
theorem Lp_fr {sd sd2 : Int → Prop} (h : Lp_ G K now Pr V C U D sd k) (hk : 0 ≤ k ∧ k < 24) (fr : ∀ l, 0 ≤ l → l < 24 → ¬ l = k → Sc_ K U D U D l → Sc_ K U D X E l) (hc : ∃ z, Cc_ G K now Pr k V C X E z ∧ ((z = 0 ∧ ¬ sd2 k) ∨ (z = 1 ∧ sd2 k))) (hsd : ∀ l, 0 ≤ l → l < k → (sd2 l ↔ sd l)) : Lp_ G K now Pr V C X E sd2 (k + 1) := by
  refine ⟨fun l l0 l1 => ?_, fun l l0 l1 => Sc_tr (h.2 l (by omega) l1) (fr l (by omega) l1 (by omega) Sc_rf)⟩
  by_cases e : l = k
  · subst e; exact hc
  · obtain ⟨z, a, b⟩ := h.1 l l0 (by omega)
    refine ⟨z, Cc_out a (fr l l0 (by omega) e Sc_rf), ?_⟩
    rw [hsd l l0 (by omega)]
    exact b
theorem Lp_cal {sd sd2 : Int → Prop} (h : Lp_ G K now Pr V C U D sd k) (hk : 0 ≤ k ∧ k < 24) (hg : G 4 k = now % 3) (hd : D 1 k = -1) (hc : Cal_ G K now Pr k U D X E z) (fr : ∀ l, 0 ≤ l → l < 24 → ¬ l = k → Sc_ K U D X E l) (hz : (z = 0 ∧ ¬ sd2 k) ∨ (z = 1 ∧ sd2 k)) (hsd : ∀ l, 0 ≤ l → l < k → (sd2 l ↔ sd l)) : Lp_ G K now Pr V C X E sd2 (k + 1) := by
  have s := h.2 k (Int.le_refl k) hk.2
  exact Lp_fr h hk (fun l l0 l1 ln _ => fr l l0 l1 ln) ⟨z, Or.inl ⟨hg, s.2.2.2.1.symm.trans hd, Cal_in hc s⟩, hz⟩ hsd
theorem Lp_no {sd : Int → Prop} (h : Lp_ G K now Pr V C U D sd k) (hk : 0 ≤ k ∧ k < 24) (hn : ¬ (G 4 k = now % 3 ∧ D 1 k = -1)) (hz : ¬ sd k) : Lp_ G K now Pr V C U D sd (k + 1) := by
  have s := h.2 k (Int.le_refl k) hk.2
  exact Lp_fr h hk (fun l l0 l1 ln q => q) ⟨0, Or.inr ⟨fun q => hn ⟨q.1, s.2.2.2.1.trans q.2⟩, rfl, s.2.2, s.2.1, s.1⟩, Or.inl ⟨rfl, hz⟩⟩ (fun _ _ _ => Iff.rfl)
/-- the lines below k have faded -/
def Ff_ (G : Nat → Int → Int) (K : Nat → Int) (now : Int) (sd : Int → Prop) (U V2 : Nat → Int → Int → Int) (l : Int) : Prop := (¬ sd l ∧ (G 5 l = 0 ∨ now % 3 = 2) ∧ Fde_ G K U V2 l) ∨ (¬ (¬ sd l ∧ (G 5 l = 0 ∨ now % 3 = 2)) ∧ Sme_ K U V2 l)
def Lf_ (G : Nat → Int → Int) (K : Nat → Int) (now : Int) (sd : Int → Prop) (U V2 : Nat → Int → Int → Int) (k : Int) : Prop := (∀ l, 0 ≤ l → l < k → Ff_ G K now sd U V2 l) ∧ (∀ l, k ≤ l → l < 24 → Sme_ K U V2 l) ∧ (∀ l, 0 ≤ l → l < 24 → ∀ t, 0 ≤ t → t < 200 → V2 3 l t = U 3 l t)
theorem Lf_0 {sd : Int → Prop} : Lf_ G K now sd U U 0 := ⟨fun l h0 h1 => absurd h1 (by omega), fun _ _ _ _ _ _ => ⟨rfl, rfl, rfl⟩, fun _ _ _ _ _ _ => rfl⟩
theorem Ff_mv {sd : Int → Prop} (h : Ff_ G K now sd U V2 l) (hs : Sme_ K V2 W2 l) : Ff_ G K now sd U W2 l := by
  rcases h with ⟨a, b, c⟩ | ⟨a, b⟩
  · refine Or.inl ⟨a, b, fun p p0 p1 => ?_⟩
    obtain ⟨c1, c2, c3⟩ := hs p p0 p1
    rw [c1, c2, c3]
    exact c p p0 p1
  · exact Or.inr ⟨a, Sme_tr b hs⟩
/-- one more: either it fades (F), or it stays -/
theorem Lf_st {sd : Int → Prop} (h : Lf_ G K now sd U V2 k) (hk : 0 ≤ k ∧ k < 24) (fr : ∀ l, 0 ≤ l → l < 24 → ¬ l = k → Sme_ K V2 W2 l) (f3 : ∀ l, 0 ≤ l → l < 24 → ∀ t, 0 ≤ t → t < 200 → W2 3 l t = V2 3 l t) (hf : ((¬ sd k ∧ (G 5 k = 0 ∨ now % 3 = 2)) ∧ Fde_ G K V2 W2 k) ∨ (¬ (¬ sd k ∧ (G 5 k = 0 ∨ now % 3 = 2)) ∧ Sme_ K V2 W2 k)) : Lf_ G K now sd U W2 (k + 1) := by
  refine ⟨fun l l0 l1 => ?_, fun l l0 l1 => Sme_tr (h.2.1 l (by omega) l1) (fr l (by omega) l1 (by omega)), fun l l0 l1 t t0 t1 => (f3 l l0 l1 t t0 t1).trans (h.2.2 l l0 l1 t t0 t1)⟩
  by_cases e : l = k
  · subst e
    have s := h.2.1 l (Int.le_refl l) hk.2
    rcases hf with ⟨a, b⟩ | ⟨a, b⟩
    · refine Or.inl ⟨a.1, a.2, fun p p0 p1 => ?_⟩
      obtain ⟨c1, c2, c3⟩ := s p p0 p1
      rw [← c1, ← c2, ← c3]
      exact b p p0 p1
    · exact Or.inr ⟨a, Sme_tr s b⟩
  · exact Ff_mv (h.1 l l0 (by omega)) (fr l l0 (by omega) e)
theorem Sm_of {sd : Int → Prop} (h : Lp_ G K now (prs_ G K C now) V C U D sd (K 1)) (hf : Lf_ G K now sd U V2 (K 1)) (hK : 0 ≤ K 1 ∧ K 1 ≤ 24) (ha : ∀ p, 0 ≤ p → p < K 0 → C2 3 p = 0) (hD : ∀ l, 0 ≤ l → l < K 1 → C2 0 l = D 0 l ∧ C2 1 l = D 1 l ∧ C2 2 l = D 2 l) : Sm_ G K now V C V2 C2 := by
  refine ⟨⟨U, fun l l0 l1 => ?_⟩, fun l l0 l1 => Sme_tr (h.2 l l0 l1).1 (hf.2.1 l l0 l1), ha⟩
  obtain ⟨z, a, b⟩ := h.1 l l0 l1
  refine ⟨z, Cc_out a ⟨fun _ _ _ => ⟨rfl, rfl, rfl⟩, fun _ _ _ => rfl, (hD l l0 l1).1, (hD l l0 l1).2.1, (hD l l0 l1).2.2⟩, hf.2.2 l l0 (by omega), ?_⟩
  rcases hf.1 l l0 l1 with ⟨f1, f2, f3⟩ | ⟨f1, f2⟩
  · rcases b with ⟨b1, b2⟩ | ⟨b1, b2⟩
    · exact Or.inl ⟨b1, f2, f3⟩
    · exact absurd b2 f1
  · refine Or.inr ⟨fun q => f1 ⟨?_, q.2⟩, f2⟩
    rcases b with ⟨b1, b2⟩ | ⟨b1, b2⟩
    · exact b2
    · exfalso; have := q.1; omega
theorem Cal_pr {Pr2 : Int → Prop} (h : Cal_ G K now Pr l V C U D z) (hP : ∀ p, 0 ≤ p → p < K 0 → (Pr p ↔ Pr2 p)) : Cal_ G K now Pr2 l V C U D z := by
  rcases h with ⟨a0, a1, a2, a3, a4, a5, a6⟩ | ⟨a0, ⟨p, p0, p1, p2⟩, w, aw, a2, a3, a4, a5, a6, a7⟩
  · exact Or.inl ⟨a0, fun p p0 p1 q => a1 p p0 p1 ⟨(hP p p0 p1).2 q.1, q.2⟩, a2, a3, a4, a5, a6⟩
  · have esp : spk_ (0 ≤ K 4 ∧ K 4 < K 0 ∧ Pr (K 4) ∧ 0 < V 0 (K 4) l) (V 1 (K 4) l) = spk_ (0 ≤ K 4 ∧ K 4 < K 0 ∧ Pr2 (K 4) ∧ 0 < V 0 (K 4) l) (V 1 (K 4) l) := spk_cg ⟨fun ⟨u, v, r, q⟩ => ⟨u, v, (hP _ u v).1 r, q⟩, fun ⟨u, v, r, q⟩ => ⟨u, v, (hP _ u v).2 r, q⟩⟩ (fun _ => rfl)
    rw [esp] at a2
    refine Or.inr ⟨a0, ⟨p, p0, p1, (hP p p0 p1).1 p2.1, p2.2⟩, w, aw, Sw_cg (fun p p0 p1 => by rw [hP p p0 (by omega)]) (fun _ _ _ _ => rfl) (fun _ _ _ => rfl) a2, a3, a4, a5, a6, fun p p0 p1 => ?_⟩
    have q := a7 p p0 p1
    rw [hP p p0 p1] at q
    exact q
theorem Lp_pr {Pr2 : Int → Prop} {sd : Int → Prop} (h : Lp_ G K now Pr V C U D sd k) (hP : ∀ p, 0 ≤ p → p < K 0 → (Pr p ↔ Pr2 p)) : Lp_ G K now Pr2 V C U D sd k := by
  refine ⟨fun l l0 l1 => ?_, h.2⟩
  obtain ⟨z, a, b⟩ := h.1 l l0 l1
  refine ⟨z, ?_, b⟩
  rcases a with ⟨a1, a2, a3⟩ | a
  · exact Or.inl ⟨a1, a2, Cal_pr a3 hP⟩
  · exact Or.inr a
end Col
