/-! ===== texts as tokens ===== -/
def isLet_ (c : Int) : Prop := (97 ≤ c ∧ c ≤ 122) ∨ (65 ≤ c ∧ c ≤ 90)
def isDig_ (c : Int) : Prop := 48 ≤ c ∧ c ≤ 57
def isBl_ (c : Int) : Prop := c = 32 ∨ c = 10
def isSg_ (c : Int) : Prop := c = 59 ∨ c = 43 ∨ c = 45 ∨ c = 42 ∨ c = 47 ∨ c = 40 ∨ c = 41 ∨ c = 60 ∨ c = 61 ∨ c = 62
def kwT_ : List (List Int) := [[109, 97, 114, 107, 115], [119, 104, 101, 110], [117, 110, 108, 101, 115, 115], [111, 114], [97, 110, 100], [110, 111, 116], [104, 97, 114, 109], [119, 105, 116, 110, 101, 115, 115, 101, 115], [121, 101, 97, 114, 115], [107, 105, 110], [97, 103, 101], [108, 105, 110, 101]]
def kwL_ (w : Nat) : Nat := (kwT_.getD w []).length
def kwC_ (w i : Nat) : Int := (kwT_.getD w []).getD i 0
def Kw_ (g : Int → Int) (a b : Int) (w : Nat) : Prop := b - a = (kwL_ w : Int) ∧ ∀ i : Nat, i < kwL_ w → g (a + (i : Int)) = kwC_ w i
theorem kw_len : ∀ w : Fin 12, 2 ≤ kwL_ w.val ∧ kwL_ w.val ≤ 9 := by decide +kernel
theorem kw_dif : ∀ w x : Fin 12, kwL_ w.val = kwL_ x.val → (∀ i : Fin 9, i.val < kwL_ w.val → kwC_ w.val i.val = kwC_ x.val i.val) → w.val = x.val := by decide +kernel
theorem Kw_det {g : Int → Int} {a b : Int} {w x : Nat} (hw : w < 12) (hx : x < 12) (h : Kw_ g a b w) (h2 : Kw_ g a b x) : w = x := by
  have e : kwL_ w = kwL_ x := by have q1 := h.1; have q2 := h2.1; omega
  exact kw_dif ⟨w, hw⟩ ⟨x, hx⟩ e (fun i hi => (h.2 i.val hi).symm.trans (h2.2 i.val (by rw [← e]; exact hi)))
def dv_ (g : Int → Int) (p : Int) : Nat → Int
  | 0 => 0
  | m + 1 => 10 * dv_ g p m + (g (p + (m : Int)) - 48)
theorem dv_rg {g : Int → Int} {p : Int} : ∀ {m : Nat}, (∀ i : Nat, i < m → isDig_ (g (p + (i : Int)))) → 0 ≤ dv_ g p m ∧ (m = 0 → dv_ g p m = 0) ∧ (m = 1 → dv_ g p m ≤ 9) ∧ (m = 2 → dv_ g p m ≤ 99) ∧ (m = 3 → dv_ g p m ≤ 999) ∧ (m = 4 → dv_ g p m ≤ 9999)
  | 0, _ => ⟨Int.le_refl 0, fun _ => rfl, fun h => by omega, fun h => by omega, fun h => by omega, fun h => by omega⟩
  | m + 1, h => by
    have q := dv_rg (m := m) (fun i hi => h i (by omega))
    have d := h m (by omega)
    unfold isDig_ at d
    rw [dv_]
    generalize g (p + (m : Int)) = c at d ⊢
    generalize dv_ g p m = x at q ⊢
    exact ⟨by omega, fun e => by omega, fun e => by omega, fun e => by omega, fun e => by omega, fun e => by omega⟩
def Bk_ (g : Int → Int) (a p : Int) : Prop := ∀ i, a ≤ i → i < p → isBl_ (g i)
def Lt_ (g : Int → Int) (n p k x e : Int) : Prop := p < n ∧ p < e ∧ e ≤ n ∧ ((isLet_ (g p) ∧ (∀ i, p ≤ i → i < e → isLet_ (g i)) ∧ (e < n → ¬ isLet_ (g e)) ∧ ((∃ w : Nat, w < 12 ∧ Kw_ g p e w ∧ k = 301 + (w : Int)) ∨ ((∀ w : Nat, w < 12 → ¬ Kw_ g p e w) ∧ k = 2))) ∨ (isDig_ (g p) ∧ (∀ i, p ≤ i → i < e → isDig_ (g i)) ∧ (e < n → ¬ isDig_ (g e)) ∧ ((e - p ≤ 4 ∧ k = 3 ∧ x = dv_ g p (e - p).toNat) ∨ (4 < e - p ∧ k = 2))) ∨ (¬ isLet_ (g p) ∧ ¬ isDig_ (g p) ∧ e = p + 1 ∧ ((isSg_ (g p) ∧ k = g p) ∨ (¬ isSg_ (g p) ∧ k = 2))))
def Lx_ (g : Int → Int) (n a k x p e : Int) : Prop := a ≤ p ∧ Bk_ g a p ∧ ((p = n ∧ k = 1 ∧ e = n) ∨ (¬ isBl_ (g p) ∧ Lt_ g n p k x e))
theorem let_dig {c : Int} (h : isLet_ c) (h2 : isDig_ c) : False := by unfold isLet_ at h; unfold isDig_ at h2; omega
theorem run_det {Q : Int → Prop} {g : Int → Int} {n p e f : Int} (hp : p < e) (hf : p < f) (en : e ≤ n) (fn : f ≤ n) (h1 : ∀ i, p ≤ i → i < e → Q (g i)) (h2 : e < n → ¬ Q (g e)) (h3 : ∀ i, p ≤ i → i < f → Q (g i)) (h4 : f < n → ¬ Q (g f)) : e = f := by
  rcases Int.lt_trichotomy e f with q | q | q
  · exact absurd (h3 e (by omega) q) (h2 (by omega))
  · exact q
  · exact absurd (h1 f (by omega) q) (h4 (by omega))
theorem Lt_det {g : Int → Int} {n p k x e k2 x2 e2 : Int} (h : Lt_ g n p k x e) (h2 : Lt_ g n p k2 x2 e2) : k = k2 ∧ e = e2 ∧ (k = 3 → x = x2) := by
  obtain ⟨a1, a2, a3, h⟩ := h
  obtain ⟨b1, b2, b3, h2⟩ := h2
  rcases h with ⟨l1, l2, l3, l4⟩ | ⟨l1, l2, l3, l4⟩ | ⟨l1, l2, l3, l4⟩ <;> rcases h2 with ⟨r1, r2, r3, r4⟩ | ⟨r1, r2, r3, r4⟩ | ⟨r1, r2, r3, r4⟩
  · have e0 := run_det (Q := isLet_) a2 b2 a3 b3 l2 l3 r2 r3
    subst e0
    rcases l4 with ⟨w, w1, w2, w3⟩ | ⟨w1, w3⟩ <;> rcases r4 with ⟨y, y1, y2, y3⟩ | ⟨y1, y3⟩
    · have := Kw_det w1 y1 w2 y2
      exact ⟨by omega, rfl, fun q => by omega⟩
    · exact absurd w2 (y1 w w1)
    · exact absurd y2 (w1 y y1)
    · exact ⟨by omega, rfl, fun q => by omega⟩
  · exact (let_dig l1 r1).elim
  · exact absurd l1 r1
  · exact (let_dig r1 l1).elim
  · have e0 := run_det (Q := isDig_) a2 b2 a3 b3 l2 l3 r2 r3
    subst e0
    rcases l4 with ⟨w1, w2, w3⟩ | ⟨w1, w2⟩ <;> rcases r4 with ⟨y1, y2, y3⟩ | ⟨y1, y2⟩
    · exact ⟨by omega, rfl, fun _ => w3.trans y3.symm⟩
    · exfalso; omega
    · exfalso; omega
    · exact ⟨by omega, rfl, fun q => by omega⟩
  · exact absurd l1 r2
  · exact absurd r1 l1
  · exact absurd r1 l2
  · have s3 : isSg_ (g p) → g p ≠ 3 := fun q => by unfold isSg_ at q; omega
    rcases l4 with ⟨w1, w2⟩ | ⟨w1, w2⟩ <;> rcases r4 with ⟨y1, y2⟩ | ⟨y1, y2⟩
    · exact ⟨by omega, by omega, fun q => absurd (w2.symm.trans q) (s3 w1)⟩
    · exact absurd w1 y1
    · exact absurd y1 w1
    · exact ⟨by omega, by omega, fun q => by omega⟩
theorem Lx_det {g : Int → Int} {n a k x p e k2 x2 p2 e2 : Int} (h : Lx_ g n a k x p e) (h2 : Lx_ g n a k2 x2 p2 e2) : k = k2 ∧ p = p2 ∧ e = e2 ∧ (k = 3 → x = x2) := by
  obtain ⟨a1, a2, h⟩ := h
  obtain ⟨b1, b2, h2⟩ := h2
  have ep : p = p2 := by
    rcases Int.lt_trichotomy p p2 with q | q | q
    · have hb := b2 p a1 q
      rcases h with ⟨c1, _⟩ | ⟨c1, _⟩
      · rcases h2 with ⟨d1, _⟩ | ⟨_, d1⟩
        · omega
        · have := d1.1; omega
      · exact absurd hb c1
    · exact q
    · have hb := a2 p2 b1 q
      rcases h2 with ⟨c1, _⟩ | ⟨c1, _⟩
      · rcases h with ⟨d1, _⟩ | ⟨_, d1⟩
        · omega
        · have := d1.1; omega
      · exact absurd hb c1
  subst ep
  rcases h with ⟨c1, c2, c3⟩ | ⟨c1, c2⟩ <;> rcases h2 with ⟨d1, d2, d3⟩ | ⟨d1, d2⟩
  · exact ⟨by omega, rfl, by omega, fun q => by omega⟩
  · have := d2.1; exfalso; omega
  · have := c2.1; exfalso; omega
  · have q := Lt_det c2 d2
    exact ⟨q.1, rfl, q.2.1, q.2.2⟩
theorem Lt_num {g : Int → Int} {n p k x e : Int} (h : Lt_ g n p k x e) (hk : k = 3) : 0 ≤ x ∧ x ≤ 9999 := by
  obtain ⟨a1, a2, a3, h⟩ := h
  rcases h with ⟨l1, l2, l3, l4⟩ | ⟨l1, l2, l3, l4⟩ | ⟨l1, l2, l3, l4⟩
  · rcases l4 with ⟨w, w1, w2, w3⟩ | ⟨w1, w3⟩ <;> (exfalso; omega)
  · rcases l4 with ⟨w1, w2, w3⟩ | ⟨w1, w2⟩
    · have q := dv_rg (g := g) (p := p) (m := (e - p).toNat) (fun i hi => l2 (p + (i : Int)) (by omega) (by omega))
      rw [← w3] at q
      have hm : (e - p).toNat = 1 ∨ (e - p).toNat = 2 ∨ (e - p).toNat = 3 ∨ (e - p).toNat = 4 := by omega
      rcases hm with m | m | m | m
      · have := q.2.2.1 m; exact ⟨q.1, by omega⟩
      · have := q.2.2.2.1 m; exact ⟨q.1, by omega⟩
      · have := q.2.2.2.2.1 m; exact ⟨q.1, by omega⟩
      · have := q.2.2.2.2.2 m; exact ⟨q.1, by omega⟩
    · exfalso; omega
  · rcases l4 with ⟨w1, w2⟩ | ⟨w1, w2⟩
    · unfold isSg_ at w1; exfalso; omega
    · exfalso; omega
theorem Lt_kind {g : Int → Int} {n p k x e : Int} (h : Lt_ g n p k x e) : ¬ k = 1 ∧ (k = 2 ∨ k = 3 ∨ (301 ≤ k ∧ k ≤ 312) ∨ isSg_ k) := by
  obtain ⟨a1, a2, a3, h⟩ := h
  rcases h with ⟨l1, l2, l3, l4⟩ | ⟨l1, l2, l3, l4⟩ | ⟨l1, l2, l3, l4⟩
  · rcases l4 with ⟨w, w1, w2, w3⟩ | ⟨w1, w3⟩
    · exact ⟨by omega, Or.inr (Or.inr (Or.inl (by omega)))⟩
    · exact ⟨by omega, Or.inl w3⟩
  · rcases l4 with ⟨w1, w2, w3⟩ | ⟨w1, w2⟩
    · exact ⟨by omega, Or.inr (Or.inl w2)⟩
    · exact ⟨by omega, Or.inl w2⟩
  · rcases l4 with ⟨w1, w2⟩ | ⟨w1, w2⟩
    · refine ⟨fun q => ?_, Or.inr (Or.inr (Or.inr (by rw [w2]; exact w1)))⟩
      unfold isSg_ at w1; omega
    · exact ⟨by omega, Or.inl w2⟩
theorem Lx_num {g : Int → Int} {n a k x p e : Int} (h : Lx_ g n a k x p e) (hk : k = 3) : 0 ≤ x ∧ x ≤ 9999 := by
  rcases h.2.2 with q | q
  · exfalso; omega
  · exact Lt_num q.2 hk
theorem Lx_rng {g : Int → Int} {n a k x p e : Int} (h : Lx_ g n a k x p e) : a ≤ p ∧ p ≤ e ∧ e ≤ n ∧ p ≤ n ∧ (k = 1 → p = n ∧ e = n) ∧ (¬ k = 1 → p < e ∧ p < n) := by
  obtain ⟨a1, a2, h⟩ := h
  rcases h with ⟨c1, c2, c3⟩ | ⟨c1, c2⟩
  · exact ⟨a1, by omega, by omega, by omega, fun _ => ⟨by omega, by omega⟩, fun q => absurd c2 q⟩
  · have q := (Lt_kind c2).1
    obtain ⟨d1, d2, d3, -⟩ := c2
    exact ⟨a1, by omega, by omega, by omega, fun r => absurd r q, fun _ => ⟨d2, d1⟩⟩
theorem Kw_cg {g g2 : Int → Int} {n a b : Int} {w : Nat} (hg : ∀ i, 0 ≤ i → i < n → g2 i = g i) (h0 : 0 ≤ a) (hb : b ≤ n) (h : Kw_ g a b w) : Kw_ g2 a b w := ⟨h.1, fun i hi => by have e := h.1; rw [hg (a + (i : Int)) (by omega) (by omega)]; exact h.2 i hi⟩
theorem dv_cg {g g2 : Int → Int} {p : Int} : ∀ {m : Nat}, (∀ i : Nat, i < m → g2 (p + (i : Int)) = g (p + (i : Int))) → dv_ g2 p m = dv_ g p m
  | 0, _ => rfl
  | m + 1, h => by rw [dv_, dv_, dv_cg (fun i hi => h i (by omega)), h m (by omega)]
theorem Lt_cg {g g2 : Int → Int} {n p k x e : Int} (hg : ∀ i, 0 ≤ i → i < n → g2 i = g i) (h0 : 0 ≤ p) (h : Lt_ g n p k x e) : Lt_ g2 n p k x e := by
  have hg2 : ∀ i, 0 ≤ i → i < n → g i = g2 i := fun i h1 h2 => (hg i h1 h2).symm
  obtain ⟨a1, a2, a3, h⟩ := h
  refine ⟨a1, a2, a3, ?_⟩
  have ep := hg p h0 a1
  rcases h with ⟨l1, l2, l3, l4⟩ | ⟨l1, l2, l3, l4⟩ | ⟨l1, l2, l3, l4⟩
  · refine Or.inl ⟨by rw [ep]; exact l1, fun i h1 h2 => by rw [hg i (by omega) (by omega)]; exact l2 i h1 h2, fun q => by rw [hg e (by omega) q]; exact l3 q, ?_⟩
    rcases l4 with ⟨w, w1, w2, w3⟩ | ⟨w1, w3⟩
    · exact Or.inl ⟨w, w1, Kw_cg hg h0 a3 w2, w3⟩
    · exact Or.inr ⟨fun w hw q => w1 w hw (Kw_cg hg2 h0 a3 q), w3⟩
  · refine Or.inr (Or.inl ⟨by rw [ep]; exact l1, fun i h1 h2 => by rw [hg i (by omega) (by omega)]; exact l2 i h1 h2, fun q => by rw [hg e (by omega) q]; exact l3 q, ?_⟩)
    rcases l4 with ⟨w1, w2, w3⟩ | ⟨w1, w2⟩
    · exact Or.inl ⟨w1, w2, by rw [dv_cg (fun i hi => hg _ (by omega) (by omega))]; exact w3⟩
    · exact Or.inr ⟨w1, w2⟩
  · rw [← ep] at l1 l2 l4
    exact Or.inr (Or.inr ⟨l1, l2, l3, l4⟩)
theorem Lx_cg {g g2 : Int → Int} {n a k x p e : Int} (hg : ∀ i, 0 ≤ i → i < n → g2 i = g i) (h0 : 0 ≤ a) (h : Lx_ g n a k x p e) : Lx_ g2 n a k x p e := by
  have r := Lx_rng h
  obtain ⟨a1, a2, h⟩ := h
  refine ⟨a1, fun i h1 h2 => by rw [hg i (by omega) (by omega)]; exact a2 i h1 h2, ?_⟩
  rcases h with c | ⟨c1, c2⟩
  · exact Or.inl c
  · exact Or.inr ⟨by rw [hg p (by omega) c2.1]; exact c1, Lt_cg hg (by omega) c2⟩
theorem Lt_w1 {g : Int → Int} {n p x e : Int} {w : Nat} (h1 : p < n) (h2 : p < e) (h3 : e ≤ n) (hl : ∀ i, p ≤ i → i < e → isLet_ (g i)) (hx : e < n → ¬ isLet_ (g e)) (hw : w < 12) (hk : Kw_ g p e w) : Lt_ g n p (301 + (w : Int)) x e := ⟨h1, h2, h3, Or.inl ⟨hl p (Int.le_refl p) h2, hl, hx, Or.inl ⟨w, hw, hk, rfl⟩⟩⟩
theorem Lt_w0 {g : Int → Int} {n p x e : Int} (h1 : p < n) (h2 : p < e) (h3 : e ≤ n) (hl : ∀ i, p ≤ i → i < e → isLet_ (g i)) (hx : e < n → ¬ isLet_ (g e)) (hk : ∀ w : Nat, w < 12 → ¬ Kw_ g p e w) : Lt_ g n p 2 x e := ⟨h1, h2, h3, Or.inl ⟨hl p (Int.le_refl p) h2, hl, hx, Or.inr ⟨hk, rfl⟩⟩⟩
theorem Lt_d1 {g : Int → Int} {n p x e : Int} (h1 : p < n) (h2 : p < e) (h3 : e ≤ n) (hl : ∀ i, p ≤ i → i < e → isDig_ (g i)) (hx : e < n → ¬ isDig_ (g e)) (h4 : e - p ≤ 4) (hv : x = dv_ g p (e - p).toNat) : Lt_ g n p 3 x e := ⟨h1, h2, h3, Or.inr (Or.inl ⟨hl p (Int.le_refl p) h2, hl, hx, Or.inl ⟨h4, rfl, hv⟩⟩)⟩
theorem Lt_d0 {g : Int → Int} {n p x e : Int} (h1 : p < n) (h2 : p < e) (h3 : e ≤ n) (hl : ∀ i, p ≤ i → i < e → isDig_ (g i)) (hx : e < n → ¬ isDig_ (g e)) (h4 : 4 < e - p) : Lt_ g n p 2 x e := ⟨h1, h2, h3, Or.inr (Or.inl ⟨hl p (Int.le_refl p) h2, hl, hx, Or.inr ⟨h4, rfl⟩⟩)⟩
theorem Lt_s1 {g : Int → Int} {n p x k : Int} (h1 : p < n) (hl : ¬ isLet_ (g p)) (hd : ¬ isDig_ (g p)) (hs : isSg_ (g p)) (hk : k = g p) : Lt_ g n p k x (p + 1) := ⟨h1, by omega, by omega, Or.inr (Or.inr ⟨hl, hd, rfl, Or.inl ⟨hs, hk⟩⟩)⟩
theorem Lt_s0 {g : Int → Int} {n p x : Int} (h1 : p < n) (hl : ¬ isLet_ (g p)) (hd : ¬ isDig_ (g p)) (hs : ¬ isSg_ (g p)) : Lt_ g n p 2 x (p + 1) := ⟨h1, by omega, by omega, Or.inr (Or.inr ⟨hl, hd, rfl, Or.inr ⟨hs, rfl⟩⟩)⟩
theorem bk_0 {g : Int → Int} {a : Int} : Bk_ g a a := fun i h1 h2 => absurd h2 (by omega)
theorem bk_st {g : Int → Int} {a p : Int} (h : Bk_ g a p) (hp : isBl_ (g p)) : Bk_ g a (p + 1) := fun i h1 h2 => by
  by_cases e : i = p
  · rw [e]; exact hp
  · exact h i h1 (by omega)
theorem qr_st {Q : Int → Prop} {g : Int → Int} {a p : Int} (h : ∀ i, a ≤ i → i < p → Q (g i)) (hp : Q (g p)) : ∀ i, a ≤ i → i < p + 1 → Q (g i) := fun i h1 h2 => by
  by_cases e : i = p
  · rw [e]; exact hp
  · exact h i h1 (by omega)
theorem dv_nx {g : Int → Int} {p a : Int} (h : p ≤ a) : dv_ g p (a + 1 - p).toNat = 10 * dv_ g p (a - p).toNat + (g a - 48) := by
  rw [show (a + 1 - p).toNat = (a - p).toNat + 1 by omega, dv_, show p + (((a - p).toNat : Nat) : Int) = a by omega]
theorem dv_1 {g : Int → Int} {p : Int} : dv_ g p (p + 1 - p).toNat = g p - 48 := by
  rw [dv_nx (Int.le_refl p), show (p - p).toNat = 0 by omega]
  show 10 * 0 + (g p - 48) = g p - 48
  omega
/-! ===== streams of tokens ===== -/
def kd_ (t v : Int) : Int := if t = 0 then 1 else if t = 1 then 2 else if t = 2 then 301 + v else if t = 3 then 3 else v
theorem kd_0 (v : Int) : kd_ 0 v = 1 := rfl
theorem kd_1 (v : Int) : kd_ 1 v = 2 := rfl
theorem kd_2 (v : Int) : kd_ 2 v = 301 + v := rfl
theorem kd_3 (v : Int) : kd_ 3 v = 3 := rfl
theorem kd_4 (v : Int) : kd_ 4 v = v := rfl
def te_ (k x : Int) : Int := if k = 3 then 1000 + x else if 301 ≤ k then k - 301 else 100 + k
theorem te_3 {t v : Int} (h : t = 3) : te_ (kd_ t v) v = 1000 + v := by rw [h, kd_3]; rfl
theorem te_2 {t v : Int} (h : t = 2) (hv : 0 ≤ v) : te_ (kd_ t v) v = v := by
  rw [h, kd_2]
  unfold te_
  rw [if_neg (by omega), if_pos (by omega)]
  omega
theorem te_4 {t v : Int} (h : t = 4) (hv : isSg_ v) : te_ (kd_ t v) v = 100 + v := by
  rw [h, kd_4]
  unfold te_
  unfold isSg_ at hv
  rw [if_neg (by omega), if_neg (by omega)]
/-- what the lexer knows of the token at hand -/
def Tv_ (t v : Int) : Prop := (t = 0) ∨ (t = 1) ∨ (t = 2 ∧ 0 ≤ v ∧ v ≤ 11) ∨ (t = 3 ∧ 0 ≤ v ∧ v ≤ 9999) ∨ (t = 4 ∧ (v = 59 ∨ v = 43 ∨ v = 45 ∨ v = 42 ∨ v = 47 ∨ v = 40 ∨ v = 41 ∨ v = 60 ∨ v = 61 ∨ v = 62))
/-- the token at hand is the j-th -/
def tkw_ (tf tk : Int → Int) (w : Int) : Int × (Int → Int) := (tk w, fun i => tf (400 * w + i))
/-- the tokens that have been kept, if all were proper -/
def Tk_ (K V : Int → Int) (X : Int × (Int → Int)) (t j : Int) : Prop := (∀ i, 0 ≤ i → i < j → ¬ K i = 1 ∧ ¬ K i = 2) → (t ≤ 1 → X.1 = j ∧ ∀ i, 0 ≤ i → i < j → X.2 i = te_ (K i) (V i)) ∧ (2 ≤ t → X.1 = j + 1 ∧ ∀ i, 0 ≤ i → i < j + 1 → X.2 i = te_ (K i) (V i))
def Rt_ (K V P Q : Int → Int) (a f t v : Int) (X : Int × (Int → Int)) (j : Int) : Prop := 0 ≤ j ∧ a = Q (j + 1) ∧ f = P j ∧ K j = kd_ t v ∧ (t = 3 → V j = v) ∧ Tv_ t v ∧ Tk_ K V X t j
theorem te_cg {k x y : Int} (h : k = 3 → x = y) : te_ k x = te_ k y := by
  unfold te_
  by_cases e : k = 3
  · rw [if_pos e, if_pos e, h e]
  · rw [if_neg e, if_neg e]
def Strm_ (g : Int → Int) (n : Int) (K V P Q : Int → Int) : Prop := Q 0 = 0 ∧ ∀ j, 0 ≤ j → Lx_ g n (Q j) (K j) (V j) (P j) (Q (j + 1))
theorem Strm_ge {g : Int → Int} {n : Int} {K V P Q : Int → Int} (h : Strm_ g n K V P Q) : ∀ j : Nat, 0 ≤ Q (j : Int)
  | 0 => by have := h.1; have e : ((0 : Nat) : Int) = 0 := rfl; rw [e]; omega
  | j + 1 => by
    have q := Strm_ge h j
    have r := Lx_rng (h.2 (j : Int) (by omega))
    have e : ((j + 1 : Nat) : Int) = (j : Int) + 1 := by omega
    rw [e]; omega
theorem Strm_0 {g : Int → Int} {n : Int} {K V P Q : Int → Int} (h : Strm_ g n K V P Q) {j : Int} (hj : 0 ≤ j) : 0 ≤ Q j := by
  have := Strm_ge h j.toNat
  rw [Int.toNat_of_nonneg hj] at this
  exact this
theorem Strm_cg {g g2 : Int → Int} {n : Int} {K V P Q : Int → Int} (hg : ∀ i, 0 ≤ i → i < n → g2 i = g i) (h : Strm_ g n K V P Q) : Strm_ g2 n K V P Q := ⟨h.1, fun j hj => Lx_cg hg (Strm_0 h hj) (h.2 j hj)⟩
theorem Strm_num {g : Int → Int} {n : Int} {K V P Q : Int → Int} (h : Strm_ g n K V P Q) {j : Int} (hj : 0 ≤ j) (hk : K j = 3) : 0 ≤ V j ∧ V j ≤ 9999 := Lx_num (h.2 j hj) hk
def Tp_ (tf tk tf2 tk2 : Int → Int) (w t v : Int) : Prop := (t ≤ 1 ∧ tf2 = tf ∧ tk2 = tk) ∨ (2 ≤ t ∧ tf2 = upA tf (400 * w + tk w) (te_ (kd_ t v) v) ∧ tk2 = upA tk w (tk w + 1))
theorem Tp_0 {K V tf tk tf2 tk2 : Int → Int} {w t v : Int} (hp : Tp_ tf tk tf2 tk2 w t v) (h0 : tk w = 0) (hk : K 0 = kd_ t v) (hv : t = 3 → V 0 = v) (h4 : K 0 = 3 → t = 3) : Tk_ K V (tkw_ tf2 tk2 w) t 0 := fun _ => by
  rcases hp with ⟨h1, h2, h3⟩ | ⟨h1, h2, h3⟩
  · subst h2 h3
    exact ⟨fun _ => ⟨h0, fun i i1 i2 => absurd i2 (by omega)⟩, fun q => absurd q (by omega)⟩
  · subst h2 h3
    refine ⟨fun q => absurd q (by omega), fun _ => ⟨?_, fun i i1 i2 => ?_⟩⟩
    · show upA tk w (tk w + 1) w = 0 + 1
      rw [upA_same, h0]
    · show upA tf (400 * w + tk w) (te_ (kd_ t v) v) (400 * w + i) = te_ (K i) (V i)
      rw [show 400 * w + i = 400 * w + tk w by omega, upA_same, show i = 0 by omega, hk]
      exact te_cg (fun q => (hv (h4 (hk.trans q))).symm)
theorem Tp_nx {K V tf tk tf2 tk2 : Int → Int} {w t v t0 j : Int} (hp : Tp_ tf tk tf2 tk2 w t v) (h : Tk_ K V (tkw_ tf tk w) t0 j) (hj : 0 ≤ j) (ht0 : ¬ K j = 1 ∧ ¬ K j = 2 → 2 ≤ t0) (hk : K (j + 1) = kd_ t v) (hv : t = 3 → V (j + 1) = v) (h3 : K (j + 1) = 3 → t = 3) : Tk_ K V (tkw_ tf2 tk2 w) t (j + 1) := fun hpr => by
  have q := (h (fun i i1 i2 => hpr i i1 (by omega))).2 (ht0 (hpr j hj (by omega)))
  obtain ⟨q1, q2⟩ := q
  have q1 : tk w = j + 1 := q1
  have q2 : ∀ i, 0 ≤ i → i < j + 1 → tf (400 * w + i) = te_ (K i) (V i) := q2
  rcases hp with ⟨h1, h2, h4⟩ | ⟨h1, h2, h4⟩
  · subst h2 h4
    exact ⟨fun _ => ⟨q1, q2⟩, fun q => absurd q (by omega)⟩
  · subst h2 h4
    refine ⟨fun q => absurd q (by omega), fun _ => ⟨?_, fun i i1 i2 => ?_⟩⟩
    · show upA tk w (tk w + 1) w = j + 1 + 1
      rw [upA_same, q1]
    · show upA tf (400 * w + tk w) (te_ (kd_ t v) v) (400 * w + i) = te_ (K i) (V i)
      by_cases e : i = j + 1
      · rw [show 400 * w + i = 400 * w + tk w by omega, upA_same, e, hk]
        exact te_cg (fun q => (hv (h3 (hk.trans q))).symm)
      · rw [upA_ne (by omega)]
        exact q2 i i1 (by omega)
theorem kd_is3 {t v : Int} (h : Tv_ t v) (e : kd_ t v = 3) : t = 3 := by
  rcases h with q | q | q | q | q
  · subst q; rw [kd_0] at e; exact absurd e (by decide)
  · subst q; rw [kd_1] at e; exact absurd e (by decide)
  · obtain ⟨rfl, q⟩ := q; rw [kd_2] at e; exfalso; omega
  · exact q.1
  · obtain ⟨rfl, q⟩ := q; rw [kd_4] at e; exfalso; omega
theorem rt_of {g : Int → Int} {n : Int} {K V P Q : Int → Int} {X : Int × (Int → Int)} {j k t v f a : Int} (h : Strm_ g n K V P Q) (hj : 0 ≤ j) (hl : Lx_ g n (Q j) k v f a) (hk : k = kd_ t v) (ht : Tv_ t v) (hx : K j = kd_ t v → (t = 3 → V j = v) → (K j = 3 → t = 3) → Tk_ K V X t j) : Rt_ K V P Q a f t v X j := by
  have q := Lx_det (h.2 j hj) hl
  have e : t = 3 → V j = v := fun h3 => q.2.2.2 (by rw [q.1, hk, h3, kd_3])
  exact ⟨hj, q.2.2.1.symm, q.2.1.symm, q.1.trans hk, e, ht, hx (q.1.trans hk) e (fun h3 => kd_is3 ht ((q.1.trans hk).symm.trans h3))⟩
theorem rt_k {K V P Q : Int → Int} {X : Int × (Int → Int)} {a f t v j : Int} (h : Rt_ K V P Q a f t v X j) : (t = 0 ∧ K j = 1) ∨ (t = 1 ∧ K j = 2) ∨ (t = 2 ∧ K j = 301 + v ∧ 0 ≤ v ∧ v ≤ 11) ∨ (t = 3 ∧ K j = 3 ∧ V j = v ∧ 0 ≤ v ∧ v ≤ 9999) ∨ (t = 4 ∧ K j = v ∧ 40 ≤ v ∧ v ≤ 62) := by
  obtain ⟨-, -, -, h4, h5, h6, -⟩ := h
  rcases h6 with q | q | q | q | q
  · subst q; exact Or.inl ⟨rfl, h4⟩
  · subst q; exact Or.inr (Or.inl ⟨rfl, h4⟩)
  · obtain ⟨rfl, q⟩ := q; exact Or.inr (Or.inr (Or.inl ⟨rfl, h4, q⟩))
  · obtain ⟨rfl, q⟩ := q; exact Or.inr (Or.inr (Or.inr (Or.inl ⟨rfl, h4, h5 rfl, q⟩)))
  · obtain ⟨rfl, q⟩ := q; exact Or.inr (Or.inr (Or.inr (Or.inr ⟨rfl, h4, by omega, by omega⟩)))
/-! ===== the machine: mode, kind of sum, token, what waits, code, clauses ===== -/
abbrev MS_ := Nat × Nat × Int × List Int × List Int × List (List Int)
def opn_ : List Int → Int
  | [] => 0
  | x :: r => opn_ r + (if x = 306 ∨ x = 13 then 1 else 0)
def ft_ (k : Nat) (a : Int) : MS_ := (10 + k, 0, a, [], [], [])
def sU_ (K V : Int → Int) (c : Nat) (a : Int) (st out : List Int) (sg : List (List Int)) : MS_ :=
  if K a = 312 then (if K (a + 1) = 3 then (if V (a + 1) < 24 then (2, c, a + 2, st, out ++ [10000 + V (a + 1)], sg) else ft_ 2 (a + 1)) else ft_ 1 (a + 1))
  else if 307 ≤ K a ∧ K a ≤ 311 then (2, c, a + 1, st, out ++ [-(K a)], sg)
  else if K a = 3 then (2, c, a + 1, st, out ++ [V a], sg) else ft_ 1 a
def sP_ (K V : Int → Int) (c : Nat) (a : Int) (st out : List Int) (sg : List (List Int)) : MS_ :=
  if st.headD 0 = 42 then (2, c, a, st.tail, out ++ [-42], sg)
  else if K a = 42 then (1, c, a + 1, 42 :: st, out, sg)
  else if K a = 47 then (if K (a + 1) = 3 then (if V (a + 1) = 0 then ft_ 2 (a + 1) else (2, c, a + 2, st, out ++ [V (a + 1), -47], sg)) else ft_ 1 (a + 1))
  else if st.headD 0 = 43 ∨ st.headD 0 = 45 then (2, c, a, st.tail, out ++ [-(st.headD 0)], sg)
  else if K a = 43 ∨ K a = 45 then (1, c, a + 1, K a :: st, out, sg)
  else if c = 0 then (3, 0, a, st, [], out :: sg)
  else if c = 1 then (if K a = 60 ∨ K a = 61 ∨ K a = 62 then (1, 2, a + 1, K a :: st, out, sg) else ft_ 1 a)
  else (5, 0, a, st.tail, out ++ [-(st.headD 0)], sg)
def sD_ (K : Int → Int) (a : Int) (st out : List Int) (sg : List (List Int)) : MS_ :=
  if K a = 306 ∨ K a = 40 then (if 8 ≤ opn_ st then ft_ 3 a else (4, 0, a + 1, (if K a = 306 then 306 else 13) :: st, out, sg)) else (1, 1, a, st, out, sg)
def sC_ (K : Int → Int) (a : Int) (st out : List Int) (sg : List (List Int)) : MS_ :=
  if st.headD 0 = 306 ∨ st.headD 0 = 305 then (5, 0, a, st.tail, out ++ [-(st.headD 0)], sg)
  else if K a = 305 then (4, 0, a + 1, 305 :: st, out, sg)
  else if st.headD 0 = 304 then (5, 0, a, st.tail, out ++ [-304], sg)
  else if K a = 304 then (4, 0, a + 1, 304 :: st, out, sg)
  else if st.headD 0 = 13 then (if K a = 41 then (5, 0, a + 1, st.tail, out, sg) else ft_ 1 a)
  else if st.headD 0 = 302 then (6, 0, a, [], [], out :: sg) else (7, 0, a, [], [], out :: sg)
def stp_ (K V : Int → Int) (s : MS_) : MS_ :=
  match s with
  | (0, _, a, _, _, _) => if K a = 301 then (1, 0, a + 1, [], [], []) else ft_ 1 a
  | (1, c, a, st, out, sg) => sU_ K V c a st out sg
  | (2, c, a, st, out, sg) => sP_ K V c a st out sg
  | (3, _, a, _, _, sg) => if K a = 302 then (4, 0, a + 1, [302], [], sg) else (6, 0, a, [], [], [] :: sg)
  | (4, _, a, st, out, sg) => sD_ K a st out sg
  | (5, _, a, st, out, sg) => sC_ K a st out sg
  | (6, _, a, _, _, sg) => if K a = 303 then (4, 0, a + 1, [303], [], sg) else (7, 0, a, [], [], [] :: sg)
  | (7, _, a, _, _, sg) => if K a = 59 then (8, 0, a + 1, [], [], sg) else ft_ 1 a
  | (8, _, a, _, _, sg) => if K a = 1 then (9, 0, a, [], [], sg) else ft_ 1 a
  | s => s
def itr_ (K V : Int → Int) : Nat → MS_ → MS_
  | 0, s => s
  | k + 1, s => itr_ K V k (stp_ K V s)
def Rch_ (K V : Int → Int) (s t : MS_) : Prop := ∃ k, itr_ K V k s = t
theorem itr_add (K V : Int → Int) (m : Nat) : ∀ (k : Nat) (s : MS_), itr_ K V (k + m) s = itr_ K V m (itr_ K V k s)
  | 0, s => by rw [Nat.zero_add]; rfl
  | k + 1, s => by
    rw [show k + 1 + m = (k + m) + 1 by omega]
    show itr_ K V (k + m) (stp_ K V s) = _
    rw [itr_add K V m k]
    rfl
theorem Rch_rf {K V : Int → Int} (s : MS_) : Rch_ K V s s := ⟨0, rfl⟩
theorem Rch_tr {K V : Int → Int} {s t u : MS_} (h : Rch_ K V s t) (h2 : Rch_ K V t u) : Rch_ K V s u := by
  obtain ⟨k, hk⟩ := h
  obtain ⟨m, hm⟩ := h2
  exact ⟨k + m, by rw [itr_add, hk]; exact hm⟩
theorem Rch_st {K V : Int → Int} {s t : MS_} (h : stp_ K V s = t) : Rch_ K V s t := ⟨1, h⟩
theorem Rch_sn {K V : Int → Int} {s t u : MS_} (h : Rch_ K V s t) (h2 : stp_ K V t = u) : Rch_ K V s u := Rch_tr h (Rch_st h2)
theorem itr_fix {K V : Int → Int} {t : MS_} (h : stp_ K V t = t) : ∀ k, itr_ K V k t = t
  | 0 => rfl
  | k + 1 => by show itr_ K V k (stp_ K V t) = t; rw [h]; exact itr_fix h k
theorem Rch_det {K V : Int → Int} {s a b : MS_} (h : Rch_ K V s a) (h2 : Rch_ K V s b) (ha : stp_ K V a = a) (hb : stp_ K V b = b) : a = b := by
  obtain ⟨k, hk⟩ := h
  obtain ⟨m, hm⟩ := h2
  rcases Nat.le_total k m with q | q
  · obtain ⟨d, rfl⟩ := Nat.exists_eq_add_of_le q
    rw [itr_add, hk, itr_fix ha] at hm
    exact hm
  · obtain ⟨d, rfl⟩ := Nat.exists_eq_add_of_le q
    rw [itr_add, hm, itr_fix hb] at hk
    exact hk.symm
theorem ft_fix {K V : Int → Int} {k : Nat} (hk : 1 ≤ k) {a : Int} : stp_ K V (ft_ k a) = ft_ k a := by
  match k, hk with
  | k + 1, _ => rw [show ft_ (k + 1) a = (k + 11, 0, a, [], [], []) by unfold ft_; rw [show 10 + (k + 1) = k + 11 by omega]]; rfl
theorem ac_fix {K V : Int → Int} {a : Int} {sg : List (List Int)} : stp_ K V (9, 0, a, [], [], sg) = (9, 0, a, [], [], sg) := rfl
section Steps
variable {K V : Int → Int} {c : Nat} {a : Int} {st out : List Int} {sg : List (List Int)}
theorem sU_line (h : K a = 312) (h2 : K (a + 1) = 3) (h3 : V (a + 1) < 24) : stp_ K V (1, c, a, st, out, sg) = (2, c, a + 2, st, out ++ [10000 + V (a + 1)], sg) := by
  show sU_ K V c a st out sg = (2, c, a + 2, st, out ++ [10000 + V (a + 1)], sg)
  unfold sU_; rw [if_pos h, if_pos h2, if_pos h3]
theorem sU_line1 (h : K a = 312) (h2 : ¬ K (a + 1) = 3) : stp_ K V (1, c, a, st, out, sg) = ft_ 1 (a + 1) := by
  show sU_ K V c a st out sg = ft_ 1 (a + 1)
  unfold sU_; rw [if_pos h, if_neg h2]
theorem sU_line2 (h : K a = 312) (h2 : K (a + 1) = 3) (h3 : 24 ≤ V (a + 1)) : stp_ K V (1, c, a, st, out, sg) = ft_ 2 (a + 1) := by
  show sU_ K V c a st out sg = ft_ 2 (a + 1)
  unfold sU_; rw [if_pos h, if_pos h2, if_neg (by omega)]
theorem sU_fact (h : 307 ≤ K a ∧ K a ≤ 311) : stp_ K V (1, c, a, st, out, sg) = (2, c, a + 1, st, out ++ [-(K a)], sg) := by
  show sU_ K V c a st out sg = (2, c, a + 1, st, out ++ [-(K a)], sg)
  unfold sU_; rw [if_neg (by omega), if_pos h]
theorem sU_num (h : K a = 3) : stp_ K V (1, c, a, st, out, sg) = (2, c, a + 1, st, out ++ [V a], sg) := by
  show sU_ K V c a st out sg = (2, c, a + 1, st, out ++ [V a], sg)
  unfold sU_; rw [if_neg (by omega), if_neg (by omega), if_pos h]
theorem sU_bad (h : ¬ K a = 312) (h2 : ¬ (307 ≤ K a ∧ K a ≤ 311)) (h3 : ¬ K a = 3) : stp_ K V (1, c, a, st, out, sg) = ft_ 1 a := by
  show sU_ K V c a st out sg = ft_ 1 a
  unfold sU_; rw [if_neg h, if_neg h2, if_neg h3]
theorem sP_pop42 : stp_ K V (2, c, a, 42 :: st, out, sg) = (2, c, a, st, out ++ [-42], sg) := by
  show sP_ K V c a (42 :: st) out sg = _
  unfold sP_; rw [if_pos (show ((42 : Int) :: st).headD 0 = 42 from rfl)]; rfl
theorem sP_mul (h0 : ¬ st.headD 0 = 42) (h : K a = 42) : stp_ K V (2, c, a, st, out, sg) = (1, c, a + 1, 42 :: st, out, sg) := by
  show sP_ K V c a st out sg = (1, c, a + 1, 42 :: st, out, sg)
  unfold sP_; rw [if_neg h0, if_pos h]
theorem sP_div (h0 : ¬ st.headD 0 = 42) (h : K a = 47) (h2 : K (a + 1) = 3) (h3 : ¬ V (a + 1) = 0) : stp_ K V (2, c, a, st, out, sg) = (2, c, a + 2, st, out ++ [V (a + 1), -47], sg) := by
  show sP_ K V c a st out sg = (2, c, a + 2, st, out ++ [V (a + 1), -47], sg)
  unfold sP_; rw [if_neg h0, if_neg (by omega), if_pos h, if_pos h2, if_neg h3]
theorem sP_div1 (h0 : ¬ st.headD 0 = 42) (h : K a = 47) (h2 : ¬ K (a + 1) = 3) : stp_ K V (2, c, a, st, out, sg) = ft_ 1 (a + 1) := by
  show sP_ K V c a st out sg = ft_ 1 (a + 1)
  unfold sP_; rw [if_neg h0, if_neg (by omega), if_pos h, if_neg h2]
theorem sP_div2 (h0 : ¬ st.headD 0 = 42) (h : K a = 47) (h2 : K (a + 1) = 3) (h3 : V (a + 1) = 0) : stp_ K V (2, c, a, st, out, sg) = ft_ 2 (a + 1) := by
  show sP_ K V c a st out sg = ft_ 2 (a + 1)
  unfold sP_; rw [if_neg h0, if_neg (by omega), if_pos h, if_pos h2, if_pos h3]
theorem sP_popw {w : Int} (hw : w = 43 ∨ w = 45) (h : ¬ K a = 42) (h2 : ¬ K a = 47) : stp_ K V (2, c, a, w :: st, out, sg) = (2, c, a, st, out ++ [-w], sg) := by
  show sP_ K V c a (w :: st) out sg = _
  unfold sP_
  rw [if_neg (show ¬ (w :: st).headD 0 = 42 from (show ¬ w = 42 by omega)), if_neg h, if_neg h2, if_pos (show (w :: st).headD 0 = 43 ∨ (w :: st).headD 0 = 45 from hw)]
  rfl
theorem sP_add (h0 : ¬ st.headD 0 = 42) (h1 : ¬ (st.headD 0 = 43 ∨ st.headD 0 = 45)) (h : K a = 43 ∨ K a = 45) : stp_ K V (2, c, a, st, out, sg) = (1, c, a + 1, K a :: st, out, sg) := by
  show sP_ K V c a st out sg = (1, c, a + 1, K a :: st, out, sg)
  unfold sP_; rw [if_neg h0, if_neg (by omega), if_neg (by omega), if_neg h1, if_pos h]
theorem sP_end0 (h0 : ¬ st.headD 0 = 42) (h1 : ¬ (st.headD 0 = 43 ∨ st.headD 0 = 45)) (hk : ¬ K a = 42 ∧ ¬ K a = 47 ∧ ¬ K a = 43 ∧ ¬ K a = 45) : stp_ K V (2, 0, a, st, out, sg) = (3, 0, a, st, [], out :: sg) := by
  show sP_ K V 0 a st out sg = _
  unfold sP_
  rw [if_neg h0, if_neg hk.1, if_neg hk.2.1, if_neg h1, if_neg (by omega), if_pos rfl]
theorem sP_end1 (h0 : ¬ st.headD 0 = 42) (h1 : ¬ (st.headD 0 = 43 ∨ st.headD 0 = 45)) (h : K a = 60 ∨ K a = 61 ∨ K a = 62) : stp_ K V (2, 1, a, st, out, sg) = (1, 2, a + 1, K a :: st, out, sg) := by
  show sP_ K V 1 a st out sg = _
  unfold sP_
  rw [if_neg h0, if_neg (by omega), if_neg (by omega), if_neg h1, if_neg (by omega), if_neg (by omega), if_pos rfl, if_pos h]
theorem sP_bad1 (h0 : ¬ st.headD 0 = 42) (h1 : ¬ (st.headD 0 = 43 ∨ st.headD 0 = 45)) (hk : ¬ K a = 42 ∧ ¬ K a = 47 ∧ ¬ K a = 43 ∧ ¬ K a = 45) (h : ¬ (K a = 60 ∨ K a = 61 ∨ K a = 62)) : stp_ K V (2, 1, a, st, out, sg) = ft_ 1 a := by
  show sP_ K V 1 a st out sg = _
  unfold sP_
  rw [if_neg h0, if_neg hk.1, if_neg hk.2.1, if_neg h1, if_neg (by omega), if_neg (by omega), if_pos rfl, if_neg h]
theorem sP_end2 {w : Int} (hw : w = 60 ∨ w = 61 ∨ w = 62) (hk : ¬ K a = 42 ∧ ¬ K a = 47 ∧ ¬ K a = 43 ∧ ¬ K a = 45) : stp_ K V (2, 2, a, w :: st, out, sg) = (5, 0, a, st, out ++ [-w], sg) := by
  show sP_ K V 2 a (w :: st) out sg = _
  unfold sP_
  rw [if_neg (show ¬ (w :: st).headD 0 = 42 from (show ¬ w = 42 by omega)), if_neg hk.1, if_neg hk.2.1, if_neg (show ¬ ((w :: st).headD 0 = 43 ∨ (w :: st).headD 0 = 45) from (show ¬ (w = 43 ∨ w = 45) by omega)), if_neg (by omega), if_neg (by omega), if_neg (by omega)]
  rfl
theorem sD_not (h : K a = 306) (h2 : opn_ st < 8) : stp_ K V (4, 0, a, st, out, sg) = (4, 0, a + 1, 306 :: st, out, sg) := by
  show sD_ K a st out sg = (4, 0, a + 1, 306 :: st, out, sg)
  unfold sD_; rw [if_pos (Or.inl h), if_neg (by omega), if_pos h]
theorem sD_opn (h : K a = 40) (h2 : opn_ st < 8) : stp_ K V (4, 0, a, st, out, sg) = (4, 0, a + 1, 13 :: st, out, sg) := by
  show sD_ K a st out sg = (4, 0, a + 1, 13 :: st, out, sg)
  unfold sD_; rw [if_pos (Or.inr h), if_neg (by omega), if_neg (by omega)]
theorem sD_deep (h : K a = 306 ∨ K a = 40) (h2 : 8 ≤ opn_ st) : stp_ K V (4, 0, a, st, out, sg) = ft_ 3 a := by
  show sD_ K a st out sg = ft_ 3 a
  unfold sD_; rw [if_pos h, if_pos h2]
theorem sD_cmp (h : ¬ (K a = 306 ∨ K a = 40)) : stp_ K V (4, 0, a, st, out, sg) = (1, 1, a, st, out, sg) := by
  show sD_ K a st out sg = (1, 1, a, st, out, sg)
  unfold sD_; rw [if_neg h]
theorem sC_pop {w : Int} (hw : w = 306 ∨ w = 305) : stp_ K V (5, 0, a, w :: st, out, sg) = (5, 0, a, st, out ++ [-w], sg) := by
  show sC_ K a (w :: st) out sg = _
  unfold sC_
  rw [if_pos (show (w :: st).headD 0 = 306 ∨ (w :: st).headD 0 = 305 from hw)]
  rfl
theorem sC_and (h0 : ¬ (st.headD 0 = 306 ∨ st.headD 0 = 305)) (h : K a = 305) : stp_ K V (5, 0, a, st, out, sg) = (4, 0, a + 1, 305 :: st, out, sg) := by
  show sC_ K a st out sg = _
  unfold sC_
  rw [if_neg h0, if_pos h]
theorem sC_popo (h : ¬ K a = 305) : stp_ K V (5, 0, a, 304 :: st, out, sg) = (5, 0, a, st, out ++ [-304], sg) := by
  show sC_ K a (304 :: st) out sg = _
  unfold sC_
  rw [if_neg (show ¬ (((304 : Int) :: st).headD 0 = 306 ∨ ((304 : Int) :: st).headD 0 = 305) from (show ¬ ((304 : Int) = 306 ∨ (304 : Int) = 305) by omega)), if_neg h, if_pos (show ((304 : Int) :: st).headD 0 = 304 from rfl)]
  rfl
theorem sC_or (h0 : ¬ (st.headD 0 = 306 ∨ st.headD 0 = 305)) (h1 : ¬ st.headD 0 = 304) (h : K a = 304) : stp_ K V (5, 0, a, st, out, sg) = (4, 0, a + 1, 304 :: st, out, sg) := by
  show sC_ K a st out sg = _
  unfold sC_
  rw [if_neg h0, if_neg (by omega), if_neg h1, if_pos h]
theorem sC_cls (h : K a = 41) : stp_ K V (5, 0, a, 13 :: st, out, sg) = (5, 0, a + 1, st, out, sg) := by
  show sC_ K a (13 :: st) out sg = _
  unfold sC_
  rw [if_neg (show ¬ (((13 : Int) :: st).headD 0 = 306 ∨ ((13 : Int) :: st).headD 0 = 305) from (show ¬ ((13 : Int) = 306 ∨ (13 : Int) = 305) by omega)), if_neg (by omega), if_neg (show ¬ ((13 : Int) :: st).headD 0 = 304 from (show ¬ (13 : Int) = 304 by omega)), if_neg (by omega), if_pos (show ((13 : Int) :: st).headD 0 = 13 from rfl), if_pos h]
  rfl
theorem sC_cls1 (h : ¬ K a = 41) (h2 : ¬ K a = 305) (h3 : ¬ K a = 304) : stp_ K V (5, 0, a, 13 :: st, out, sg) = ft_ 1 a := by
  show sC_ K a (13 :: st) out sg = _
  unfold sC_
  rw [if_neg (show ¬ (((13 : Int) :: st).headD 0 = 306 ∨ ((13 : Int) :: st).headD 0 = 305) from (show ¬ ((13 : Int) = 306 ∨ (13 : Int) = 305) by omega)), if_neg h2, if_neg (show ¬ ((13 : Int) :: st).headD 0 = 304 from (show ¬ (13 : Int) = 304 by omega)), if_neg h3, if_pos (show ((13 : Int) :: st).headD 0 = 13 from rfl), if_neg h]
theorem sC_when (h2 : ¬ K a = 305) (h3 : ¬ K a = 304) : stp_ K V (5, 0, a, [302], out, sg) = (6, 0, a, [], [], out :: sg) := by
  show sC_ K a [302] out sg = _
  unfold sC_
  rw [if_neg (show ¬ (([302] : List Int).headD 0 = 306 ∨ ([302] : List Int).headD 0 = 305) from (show ¬ ((302 : Int) = 306 ∨ (302 : Int) = 305) by omega)), if_neg h2, if_neg (show ¬ ([302] : List Int).headD 0 = 304 from (show ¬ (302 : Int) = 304 by omega)), if_neg h3, if_neg (show ¬ ([302] : List Int).headD 0 = 13 from (show ¬ (302 : Int) = 13 by omega)), if_pos (show ([302] : List Int).headD 0 = 302 from rfl)]
theorem sC_unl (h2 : ¬ K a = 305) (h3 : ¬ K a = 304) : stp_ K V (5, 0, a, [303], out, sg) = (7, 0, a, [], [], out :: sg) := by
  show sC_ K a [303] out sg = _
  unfold sC_
  rw [if_neg (show ¬ (([303] : List Int).headD 0 = 306 ∨ ([303] : List Int).headD 0 = 305) from (show ¬ ((303 : Int) = 306 ∨ (303 : Int) = 305) by omega)), if_neg h2, if_neg (show ¬ ([303] : List Int).headD 0 = 304 from (show ¬ (303 : Int) = 304 by omega)), if_neg h3, if_neg (show ¬ ([303] : List Int).headD 0 = 13 from (show ¬ (303 : Int) = 13 by omega)), if_neg (show ¬ ([303] : List Int).headD 0 = 302 from (show ¬ (303 : Int) = 302 by omega))]
theorem s0_mk (h : K a = 301) : stp_ K V (0, 0, a, [], [], []) = (1, 0, a + 1, [], [], []) := by
  show (if K a = 301 then _ else _) = _
  rw [if_pos h]
theorem s0_bad (h : ¬ K a = 301) : stp_ K V (0, 0, a, [], [], []) = ft_ 1 a := by
  show (if K a = 301 then _ else _) = _
  rw [if_neg h]
theorem s3_wh (h : K a = 302) : stp_ K V (3, 0, a, st, out, sg) = (4, 0, a + 1, [302], [], sg) := by
  show (if K a = 302 then _ else _) = _
  rw [if_pos h]
theorem s3_no (h : ¬ K a = 302) : stp_ K V (3, 0, a, st, out, sg) = (6, 0, a, [], [], [] :: sg) := by
  show (if K a = 302 then _ else _) = _
  rw [if_neg h]
theorem s6_un (h : K a = 303) : stp_ K V (6, 0, a, st, out, sg) = (4, 0, a + 1, [303], [], sg) := by
  show (if K a = 303 then _ else _) = _
  rw [if_pos h]
theorem s6_no (h : ¬ K a = 303) : stp_ K V (6, 0, a, st, out, sg) = (7, 0, a, [], [], [] :: sg) := by
  show (if K a = 303 then _ else _) = _
  rw [if_neg h]
theorem s7_ok (h : K a = 59) : stp_ K V (7, 0, a, st, out, sg) = (8, 0, a + 1, [], [], sg) := by
  show (if K a = 59 then _ else _) = _
  rw [if_pos h]
theorem s7_no (h : ¬ K a = 59) : stp_ K V (7, 0, a, st, out, sg) = ft_ 1 a := by
  show (if K a = 59 then _ else _) = _
  rw [if_neg h]
theorem s8_ok (h : K a = 1) : stp_ K V (8, 0, a, st, out, sg) = (9, 0, a, [], [], sg) := by
  show (if K a = 1 then _ else _) = _
  rw [if_pos h]
theorem s8_no (h : ¬ K a = 1) : stp_ K V (8, 0, a, st, out, sg) = ft_ 1 a := by
  show (if K a = 1 then _ else _) = _
  rw [if_neg h]
end Steps
