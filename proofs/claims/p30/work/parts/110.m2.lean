
def Hv_ (h : Int → Int) (w b : Int) : Prop := ∀ i, 0 ≤ i → i < 32 → 0 ≤ h i ∧ h i ≤ b ∧ (0 < h i → i < w)
theorem Hv_zero {h : Int → Int} {w : Int} (z : ∀ j, 0 ≤ j → j < 32 → h j = 0) : Hv_ h w 0 := fun i h1 h2 => by rw [z i h1 h2]; exact ⟨by omega, by omega, fun q => absurd q (by omega)⟩
theorem Hv_mono {h : Int → Int} {w b c : Int} (z : Hv_ h w b) (hc : b ≤ c) : Hv_ h w c := fun i h1 h2 => ⟨(z i h1 h2).1, by have := (z i h1 h2).2.1; omega, (z i h1 h2).2.2⟩
theorem Hv_step {h : Int → Int} {w b i : Int} (z : Hv_ h w b) (h0 : 0 ≤ i) (hi : i < w) : Hv_ (upA h i (h i + 1)) w (b + 1) := fun j h1 h2 => by
  have hj := z j h1 h2
  unfold upA
  split
  · rename_i e; subst e; exact ⟨by omega, by omega, fun _ => hi⟩
  · exact ⟨hj.1, by omega, hj.2.2⟩
theorem Hv_copy {h v : Int → Int} {w b : Int} (e : ∀ j, 0 ≤ j → j < 32 → h j = v j) (z : Hv_ v w b) : Hv_ h w b := fun i h1 h2 => by rw [e i h1 h2]; exact z i h1 h2
theorem z0_step {h : Int → Int} {i : Int} (z : ∀ j, 0 ≤ j → j < i → h j = 0) : ∀ j, 0 ≤ j → j < i + 1 → upA h i 0 j = 0 := fun j h1 h2 => by
  unfold upA
  split
  · rfl
  · exact z j h1 (by omega)
theorem cp_step {h v : Int → Int} {i : Int} (z : ∀ j, 0 ≤ j → j < i → h j = v j) : ∀ j, 0 ≤ j → j < i + 1 → upA h i (v i) j = v j := fun j h1 h2 => by
  unfold upA
  split
  · rename_i e; rw [e]
  · exact z j h1 (by omega)
theorem Str_up {st wo : Int → Int} {w i z : Int} (h : Str_ st wo w) (hi : 0 ≤ wo i ∧ wo i < w) : Str_ (upA st i z) wo w := fun j hj => by
  unfold upA at hj
  split at hj
  · rename_i e; subst e; exact hi
  · exact h j hj
theorem Str_upW {st wo : Int → Int} {w i z : Int} (h : ∀ j, j ≠ i → 0 < st j → 0 ≤ wo j ∧ wo j < w) (hi : 0 ≤ z ∧ z < w) : Str_ st (upA wo i z) w := fun j hj => by
  unfold upA
  split
  · exact hi
  · rename_i e; exact h j e hj
theorem Str_ne {st wo : Int → Int} {w i : Int} (h : Str_ st wo w) : ∀ j, j ≠ i → 0 < st j → 0 ≤ wo j ∧ wo j < w := fun j _ => h j
theorem Str_up2 {st wo : Int → Int} {w i z : Int} (h : Str_ st wo w) : ∀ j, j ≠ i → 0 < upA st i z j → 0 ≤ wo j ∧ wo j < w := fun j hj hs => by
  rw [upA_ne hj] at hs
  exact h j hs
theorem Str_down {st wo : Int → Int} {w i : Int} (h : Str_ st wo w) : Str_ (upA st i (st i - 1)) wo w := fun j hj => by
  unfold upA at hj
  split at hj
  · rename_i e; subst e; exact h j (by omega)
  · exact h j hj
theorem Said_up {sa : Int → Int} {li w i z : Int} (h : Said_ sa li w) (hz : z < w) : Said_ (upA sa i z) li w := fun j h1 h2 => by
  unfold upA
  split
  · exact hz
  · exact h j h1 h2


def GM_ (qu fa bo di se ve ho on su pd at_ : Int → Int) : Nat → Int → Int := fun k => match k with
  | 0 => qu | 1 => fa | 2 => bo | 3 => di | 4 => se | 5 => ve | 6 => ho | 7 => on | 8 => su | 9 => pd | _ => at_
def KM_ (N L M way sp : Int) : Nat → Int := fun k => match k with
  | 0 => N | 1 => L | 2 => M | 3 => way | _ => sp
def VM_ (st wo fr sa : Int → Int) : Nat → Int → Int → Int := fun k i j => match k with
  | 0 => st (24 * i + j)
  | 1 => nz_ (st (24 * i + j)) (wo (24 * i + j))
  | 2 => nz_ (st (24 * i + j)) (fr (24 * i + j))
  | _ => sa (200 * i + j)
def CM_ (si de sm aw : Int → Int) : Nat → Int → Int := fun k => match k with
  | 0 => si | 1 => de | 2 => sm | _ => aw
def Fut_ (sa : Int → Int) (now L : Int) : Prop := ∀ l t, 0 ≤ l → l < L → now ≤ t → t < 200 → sa (200 * l + t) < 0
theorem pz_step {g : Int → Int} {Q : Int → Prop} {k z : Int} (h : ∀ p, 0 ≤ p → p < k → (¬ g p = 0 ↔ Q p)) (hz : ¬ z = 0 ↔ Q k) : ∀ p, 0 ≤ p → p < k + 1 → (¬ upA g k z p = 0 ↔ Q p) := fun p p0 p1 => by
  by_cases e : p = k
  · rw [e, upA_same]; exact hz
  · rw [upA_ne e]; exact h p p0 (by omega)
theorem rem3_ : ∀ k : Fin 200, J (k.val : Int) - J (k.val : Int) / J 3 * J 3 = J ((k.val % 3 : Nat) : Int) := by decide +kernel
theorem rem3 {a z : Int} (e : J z = J a - J a / J 3 * J 3) (r : inR z) (h : 0 ≤ a ∧ a < 200) : z = a % 3 := by
  have q := rem3_ ⟨a.toNat, by omega⟩
  have hn : ((a.toNat : Nat) : Int) = a := by omega
  simp only [hn] at q
  rw [q] at e
  have e2 := (J_inj r (rr (by omega))).mp e
  omega
theorem aw_up {g : Int → Int} {p : Int} (h : ∀ j, 0 ≤ j → j < p → g j = 0) : ∀ j, 0 ≤ j → j < p + 1 → upA g p 0 j = 0 := by
  intro j h1 h2
  unfold upA
  split
  · rfl
  · exact h j h1 (by omega)
theorem aw_dn {g g0 : Int → Int} {p : Int} (h : ∀ j, p ≤ j → g j = g0 j) : ∀ j, p + 1 ≤ j → upA g p 0 j = g0 j := by
  intro j h1
  rw [upA_ne (by omega)]
  exact h j (by omega)
theorem Sn_0 {G : Nat → Int → Int} {K : Nat → Int} {now : Int} {V : Nat → Int → Int → Int} {C : Nat → Int → Int} : Sn_ G K now V C (Int.toNat 0) V C := show Sn_ G K now V C 0 V C from ⟨Av_rf, Ac_rf⟩
theorem Sn_st {G : Nat → Int → Int} {K : Nat → Int} {now k m : Int} {V U V2 : Nat → Int → Int → Int} {C D C2 : Nat → Int → Int} (h : Sn_ G K now V C k.toNat U D) (hk : 0 ≤ k) (hm : Sm_ G K m U D V2 C2) (em : m = now + k) : Sn_ G K now V C (k + 1).toNat V2 C2 := by
  rw [show (k + 1).toNat = k.toNat + 1 by omega]
  refine ⟨U, D, h, ?_⟩
  rw [show now + ((k.toNat : Nat) : Int) = m by omega]
  exact hm
/-! who hears, person after person -/
def Hr_ (Pr Ho : Int → Prop) (bo : Int → Int) (now w x k : Int) (s o f s2 o2 f2 : Int → Int) : Prop := (∀ p, 0 ≤ p → p < k → He_ (Pr p) (Ho p) (w32_ (now - bo p)) w (s (24 * p + x)) (o (24 * p + x)) (f (24 * p + x)) (s2 (24 * p + x)) (o2 (24 * p + x)) (f2 (24 * p + x))) ∧ (∀ i, (∀ p, 0 ≤ p → p < k → ¬ i = 24 * p + x) → s2 i = s i ∧ o2 i = o i ∧ f2 i = f i)
section Hr
variable {Pr Ho : Int → Prop} {bo : Int → Int} {now w x k z : Int} {s o f s2 o2 f2 s3 o3 f3 : Int → Int}
theorem Hr_0 : Hr_ Pr Ho bo now w x 0 s o f s o f := ⟨fun p h0 h1 => absurd h1 (by omega), fun _ _ => ⟨rfl, rfl, rfl⟩⟩
theorem Hr_st (h : Hr_ Pr Ho bo now w x k s o f s2 o2 f2) (h0 : 0 ≤ k) (hf : ∀ i, ¬ i = 24 * k + x → s3 i = s2 i ∧ o3 i = o2 i ∧ f3 i = f2 i) (he : He_ (Pr k) (Ho k) (w32_ (now - bo k)) w (s2 (24 * k + x)) (o2 (24 * k + x)) (f2 (24 * k + x)) (s3 (24 * k + x)) (o3 (24 * k + x)) (f3 (24 * k + x))) : Hr_ Pr Ho bo now w x (k + 1) s o f s3 o3 f3 := by
  refine ⟨fun p p0 p1 => ?_, fun i hi => ?_⟩
  · by_cases e : p = k
    · subst e
      obtain ⟨a, b, c⟩ := h.2 (24 * p + x) (fun q q0 q1 => by omega)
      rw [a, b, c] at he
      exact he
    · obtain ⟨a, b, c⟩ := hf (24 * p + x) (by omega)
      rw [a, b, c]
      exact h.1 p p0 (by omega)
  · obtain ⟨a, b, c⟩ := hf i (hi k h0 (by omega))
    obtain ⟨a2, b2, c2⟩ := h.2 i (fun p p0 p1 => hi p p0 (by omega))
    exact ⟨a.trans a2, b.trans b2, c.trans c2⟩
theorem hr_1 (h : Hr_ Pr Ho bo now w x k s o f s2 o2 f2) (h0 : 0 ≤ k) (hp : Pr k) (hs : 0 < s2 (24 * k + x)) (hz : (6 < s2 (24 * k + x) ∧ z = 9) ∨ (s2 (24 * k + x) ≤ 6 ∧ z = s2 (24 * k + x) + 3)) (hw : Ho k ∨ o2 (24 * k + x) = w) : Hr_ Pr Ho bo now w x (k + 1) s o f (upA s2 (24 * k + x) z) o2 f2 := Hr_st h h0 (fun i hi => ⟨upA_ne hi, rfl, rfl⟩) (by rw [upA_same]; exact Or.inl ⟨hp, hs, hz, Or.inr ⟨hw, rfl, rfl⟩⟩)
theorem hr_2 (h : Hr_ Pr Ho bo now w x k s o f s2 o2 f2) (h0 : 0 ≤ k) (hp : Pr k) (hs : 0 < s2 (24 * k + x)) (hz : (6 < s2 (24 * k + x) ∧ z = 9) ∨ (s2 (24 * k + x) ≤ 6 ∧ z = s2 (24 * k + x) + 3)) (hh : ¬ Ho k) (hw : ¬ o2 (24 * k + x) = w) : Hr_ Pr Ho bo now w x (k + 1) s o f (upA s2 (24 * k + x) z) (upA o2 (24 * k + x) w) (upA f2 (24 * k + x) 100) := Hr_st h h0 (fun i hi => ⟨upA_ne hi, upA_ne hi, upA_ne hi⟩) (by rw [upA_same, upA_same, upA_same]; exact Or.inl ⟨hp, hs, hz, Or.inl ⟨hh, hw, rfl, rfl⟩⟩)
theorem hr_3 (h : Hr_ Pr Ho bo now w x k s o f s2 o2 f2) (h0 : 0 ≤ k) (hp : Pr k) (hs : s2 (24 * k + x) ≤ 0) (hy : 12 ≤ w32_ (now - bo k) ∧ w32_ (now - bo k) ≤ 40) : Hr_ Pr Ho bo now w x (k + 1) s o f (upA s2 (24 * k + x) 3) (upA o2 (24 * k + x) w) (upA f2 (24 * k + x) 100) := Hr_st h h0 (fun i hi => ⟨upA_ne hi, upA_ne hi, upA_ne hi⟩) (by rw [upA_same, upA_same, upA_same]; exact Or.inr (Or.inl ⟨hp, hs, hy, rfl, rfl, rfl⟩))
theorem hr_4 (h : Hr_ Pr Ho bo now w x k s o f s2 o2 f2) (h0 : 0 ≤ k) (hn : ¬ Pr k ∨ (s2 (24 * k + x) ≤ 0 ∧ ¬ (12 ≤ w32_ (now - bo k) ∧ w32_ (now - bo k) ≤ 40))) : Hr_ Pr Ho bo now w x (k + 1) s o f s2 o2 f2 := Hr_st h h0 (fun i hi => ⟨rfl, rfl, rfl⟩) (Or.inr (Or.inr ⟨hn, rfl, rfl, rfl⟩))
end Hr
section Cal
variable {pr qu fa bo di se ve ho on su pd at_ si de sm aw sa st wo fr st2 wo2 fr2 de2 : Int → Int} {N L M way sp now x w : Int}
theorem cal_says (w0 : 0 ≤ w) (hS : Sw_ N.toNat (fun p => ¬ pr p = 0 ∧ 0 < st (24 * p + x)) (fun p => wo (24 * p + x)) qu way (spk_ (0 ≤ sp ∧ sp < N ∧ ¬ pr sp = 0 ∧ 0 < st (24 * sp + x)) (wo (24 * sp + x))) w) (hH : Hr_ (fun p => ¬ pr p = 0) (fun p => ¬ ho (fa p) = 0) bo now w x N st wo fr st2 wo2 fr2) (hx : 0 ≤ x ∧ x < 24) (he : ∃ p, 0 ≤ p ∧ p < N ∧ ¬ pr p = 0 ∧ 0 < st (24 * p + x)) : Cal_ (GM_ qu fa bo di se ve ho on su pd at_) (KM_ N L M way sp) now (fun p => ¬ pr p = 0) x (VM_ st wo fr sa) (CM_ si de sm aw) (VM_ st2 wo2 fr2 (upA sa (200 * x + now) w)) (CM_ (upA si x 0) de (upA sm x (w32_ (sm x + 1))) aw) 1 := by
  refine Or.inr ⟨rfl, he, w, w0, ?_, upA_same _ _ _, rfl, upA_same _ _ _, fun t t0 t1 => ?_, fun p p0 p1 => ?_⟩
  · have e := spk_cg (c := 0 ≤ sp ∧ sp < N ∧ ¬ pr sp = 0 ∧ 0 < st (24 * sp + x)) (w := wo (24 * sp + x)) (w2 := nz_ (st (24 * sp + x)) (wo (24 * sp + x))) Iff.rfl (fun q => (nz_t q.2.2.2).symm)
    rw [e] at hS
    exact Sw_cg (fun _ _ _ => Iff.rfl) (fun p _ _ q => (nz_t q.2).symm) (fun _ _ _ => rfl) hS
  · show upA sa (200 * x + now) w (200 * x + t) = upA (fun t => sa (200 * x + t)) now w t
    by_cases e : t = now
    · rw [e, upA_same, upA_same]
    · rw [upA_ne (by omega), upA_ne e]
  · exact He_nz (hH.1 p p0 p1)
theorem sc_says (hH : Hr_ (fun p => ¬ pr p = 0) (fun p => ¬ ho (fa p) = 0) bo now w x N st wo fr st2 wo2 fr2) (hx : 0 ≤ x ∧ x < 24) (hn : 0 ≤ now ∧ now < 200) : ∀ l, 0 ≤ l → l < 24 → ¬ l = x → Sc_ (KM_ N L M way sp) (VM_ st wo fr sa) (CM_ si de sm aw) (VM_ st2 wo2 fr2 (upA sa (200 * x + now) w)) (CM_ (upA si x 0) de (upA sm x (w32_ (sm x + 1))) aw) l := by
  intro l l0 l1 ln
  refine ⟨fun p p0 p1 => ?_, fun t t0 t1 => ?_, upA_ne ln, rfl, upA_ne ln⟩
  · obtain ⟨a, b, c⟩ := hH.2 (24 * p + l) (fun q q0 q1 => by omega)
    show st2 (24 * p + l) = st (24 * p + l) ∧ nz_ (st2 (24 * p + l)) (wo2 (24 * p + l)) = nz_ (st (24 * p + l)) (wo (24 * p + l)) ∧ nz_ (st2 (24 * p + l)) (fr2 (24 * p + l)) = nz_ (st (24 * p + l)) (fr (24 * p + l))
    rw [a, b, c]
    exact ⟨rfl, rfl, rfl⟩
  · show upA sa (200 * x + now) w (200 * l + t) = sa (200 * l + t)
    rw [upA_ne (by omega)]
theorem cal_sil (hx : 0 ≤ x ∧ x < 24) (hn : ∀ p, 0 ≤ p → p < N → ¬ (¬ pr p = 0 ∧ 0 < st (24 * p + x))) (hd : (si x + 1 = 3 ∧ de2 = upA de x now) ∨ (si x + 1 < 3 ∧ de2 = de)) : Cal_ (GM_ qu fa bo di se ve ho on su pd at_) (KM_ N L M way sp) now (fun p => ¬ pr p = 0) x (VM_ st wo fr sa) (CM_ si de sm aw) (VM_ st wo fr (upA sa (200 * x + now) (-1))) (CM_ (upA si x (si x + 1)) de2 sm aw) 0 := by
  refine Or.inl ⟨rfl, hn, upA_same _ _ _, ?_, rfl, fun t t0 t1 => ?_, fun _ _ _ => ⟨rfl, rfl, rfl⟩⟩
  · show (3 ≤ si x + 1 ∧ de2 x = now) ∨ (si x + 1 < 3 ∧ de2 x = de x)
    rcases hd with ⟨a, b⟩ | ⟨a, b⟩
    · exact Or.inl ⟨by omega, by rw [b, upA_same]⟩
    · exact Or.inr ⟨a, by rw [b]⟩
  · show upA sa (200 * x + now) (-1) (200 * x + t) = upA (fun t => sa (200 * x + t)) now (-1) t
    by_cases e : t = now
    · rw [e, upA_same, upA_same]
    · rw [upA_ne (by omega), upA_ne e]
theorem sc_sil (hx : 0 ≤ x ∧ x < 24) (hn : 0 ≤ now ∧ now < 200) (hd : de2 = upA de x now ∨ de2 = de) : ∀ l, 0 ≤ l → l < 24 → ¬ l = x → Sc_ (KM_ N L M way sp) (VM_ st wo fr sa) (CM_ si de sm aw) (VM_ st wo fr (upA sa (200 * x + now) (-1))) (CM_ (upA si x (si x + 1)) de2 sm aw) l := by
  intro l l0 l1 ln
  refine ⟨fun _ _ _ => ⟨rfl, rfl, rfl⟩, fun t t0 t1 => ?_, upA_ne ln, ?_, rfl⟩
  · show upA sa (200 * x + now) (-1) (200 * l + t) = sa (200 * l + t)
    rw [upA_ne (by omega)]
  · show de2 l = de l
    rcases hd with b | b
    · rw [b, upA_ne ln]
    · rw [b]
end Cal
/-! fading, person after person -/
def Fx_ (di : Int → Int) (x k : Int) (s s2 : Int → Int) : Prop := (∀ p, 0 ≤ p → p < k → (di p = -1 ∧ 0 < s (24 * p + x) ∧ s2 (24 * p + x) = s (24 * p + x) - 1) ∨ (¬ (di p = -1 ∧ 0 < s (24 * p + x)) ∧ s2 (24 * p + x) = s (24 * p + x))) ∧ (∀ i, (∀ p, 0 ≤ p → p < k → ¬ i = 24 * p + x) → s2 i = s i)
theorem Fx_0 {di s : Int → Int} {x : Int} : Fx_ di x 0 s s := ⟨fun p h0 h1 => absurd h1 (by omega), fun _ _ => rfl⟩
theorem Fx_up {di s s2 : Int → Int} {x k z : Int} (h : Fx_ di x k s s2) (h0 : 0 ≤ k) (hd : di k = -1) (hs : 0 < s2 (24 * k + x)) (hz : z = s2 (24 * k + x) - 1) : Fx_ di x (k + 1) s (upA s2 (24 * k + x) z) := by
  refine ⟨fun p p0 p1 => ?_, fun i hi => ?_⟩
  · by_cases e : p = k
    · subst e
      have q := h.2 (24 * p + x) (fun q q0 q1 => by omega)
      rw [upA_same]
      exact Or.inl ⟨hd, by omega, by omega⟩
    · rw [upA_ne (by omega)]
      exact h.1 p p0 (by omega)
  · rw [upA_ne (hi k h0 (by omega))]
    exact h.2 i (fun p p0 p1 => hi p p0 (by omega))
theorem Fx_no {di s s2 : Int → Int} {x k : Int} (h : Fx_ di x k s s2) (h0 : 0 ≤ k) (hn : ¬ (di k = -1 ∧ 0 < s2 (24 * k + x))) : Fx_ di x (k + 1) s s2 := by
  refine ⟨fun p p0 p1 => ?_, fun i hi => h.2 i (fun p p0 p1 => hi p p0 (by omega))⟩
  by_cases e : p = k
  · subst e
    have q := h.2 (24 * p + x) (fun q q0 q1 => by omega)
    exact Or.inr ⟨by rw [← q]; exact hn, q⟩
  · exact h.1 p p0 (by omega)
section Go
variable {pr qu fa bo di se ve ho on su pd at_ si de sm aw sa st wo fr si0 de0 sm0 aw0 sa0 st0 wo0 fr0 si2 de2 sm2 sa2 st2 wo2 fr2 : Int → Int} {N L M way sp now k : Int}
theorem lp_m (h : Lp_ (GM_ qu fa bo di se ve ho on su pd at_) (KM_ N L M way sp) now (fun p => ¬ pr p = 0) (VM_ st0 wo0 fr0 sa0) (CM_ si0 de0 sm0 aw0) (VM_ st wo fr sa) (CM_ si de sm aw) (fun l => 0 ≤ sa (200 * l + now)) k) (ht : ∃ z, Cal_ (GM_ qu fa bo di se ve ho on su pd at_) (KM_ N L M way sp) now (fun p => ¬ pr p = 0) k (VM_ st wo fr sa) (CM_ si de sm aw) (VM_ st2 wo2 fr2 sa2) (CM_ si2 de2 sm2 aw) z ∧ ((z = 0 ∧ ¬ 0 ≤ sa2 (200 * k + now)) ∨ (z = 1 ∧ 0 ≤ sa2 (200 * k + now))) ∧ (∀ l, 0 ≤ l → l < 24 → ¬ l = k → Sc_ (KM_ N L M way sp) (VM_ st wo fr sa) (CM_ si de sm aw) (VM_ st2 wo2 fr2 sa2) (CM_ si2 de2 sm2 aw) l)) (hk : 0 ≤ k ∧ k < 24) (hs : se k = now % 3) (hd : de k = -1) (hn : 0 ≤ now ∧ now < 200) : Lp_ (GM_ qu fa bo di se ve ho on su pd at_) (KM_ N L M way sp) now (fun p => ¬ pr p = 0) (VM_ st0 wo0 fr0 sa0) (CM_ si0 de0 sm0 aw0) (VM_ st2 wo2 fr2 sa2) (CM_ si2 de2 sm2 aw) (fun l => 0 ≤ sa2 (200 * l + now)) (k + 1) := by
  obtain ⟨z, a, b, c⟩ := ht
  refine Lp_cal h hk hs hd a c b (fun l l0 l1 => ?_)
  have q := (c l l0 (by omega) (by omega)).2.1 now hn.1 hn.2
  have q : sa2 (200 * l + now) = sa (200 * l + now) := q
  show 0 ≤ sa2 (200 * l + now) ↔ 0 ≤ sa (200 * l + now)
  rw [q]
theorem lp_lt (h : Lp_ (GM_ qu fa bo di se ve ho on su pd at_) (KM_ N L M way sp) now (fun p => ¬ pr p = 0) (VM_ st0 wo0 fr0 sa0) (CM_ si0 de0 sm0 aw0) (VM_ st wo fr sa) (CM_ si de sm aw) (fun l => 0 ≤ sa (200 * l + now)) k) (hk : 0 ≤ k ∧ k < 24) (hf : Fut_ sa0 now L) (hl : k < L) (hn : 0 ≤ now ∧ now < 200) : sa (200 * k + now) < 0 := by
  have q := (h.2 k (Int.le_refl k) hk.2).2.1 now hn.1 hn.2
  have q : sa (200 * k + now) = sa0 (200 * k + now) := q
  rw [q]
  exact hf k now hk.1 hl (Int.le_refl now) hn.2
theorem lp_n (h : Lp_ (GM_ qu fa bo di se ve ho on su pd at_) (KM_ N L M way sp) now (fun p => ¬ pr p = 0) (VM_ st0 wo0 fr0 sa0) (CM_ si0 de0 sm0 aw0) (VM_ st wo fr sa) (CM_ si de sm aw) (fun l => 0 ≤ sa (200 * l + now)) k) (hk : 0 ≤ k ∧ k < 24) (hn : ¬ (se k = now % 3 ∧ de k = -1)) (hf : Fut_ sa0 now L) (hl : k < L) (h2 : 0 ≤ now ∧ now < 200) : Lp_ (GM_ qu fa bo di se ve ho on su pd at_) (KM_ N L M way sp) now (fun p => ¬ pr p = 0) (VM_ st0 wo0 fr0 sa0) (CM_ si0 de0 sm0 aw0) (VM_ st wo fr sa) (CM_ si de sm aw) (fun l => 0 ≤ sa (200 * l + now)) (k + 1) := Lp_no h hk hn (fun q => absurd q (Int.not_le.mpr (lp_lt h hk hf hl h2)))
theorem fut_m (h : ∀ l t, 0 ≤ l → l < L → now < t → t < 200 → sa (200 * l + t) < 0) (ht : ∃ z, Cal_ (GM_ qu fa bo di se ve ho on su pd at_) (KM_ N L M way sp) now (fun p => ¬ pr p = 0) k (VM_ st wo fr sa) (CM_ si de sm aw) (VM_ st2 wo2 fr2 sa2) (CM_ si2 de2 sm2 aw) z ∧ ((z = 0 ∧ ¬ 0 ≤ sa2 (200 * k + now)) ∨ (z = 1 ∧ 0 ≤ sa2 (200 * k + now))) ∧ (∀ l, 0 ≤ l → l < 24 → ¬ l = k → Sc_ (KM_ N L M way sp) (VM_ st wo fr sa) (CM_ si de sm aw) (VM_ st2 wo2 fr2 sa2) (CM_ si2 de2 sm2 aw) l)) (hL : L ≤ 24) (hn : 0 ≤ now) : ∀ l t, 0 ≤ l → l < L → now < t → t < 200 → sa2 (200 * l + t) < 0 := by
  intro l t l0 l1 t0 t1
  obtain ⟨z, a, b, c⟩ := ht
  have q : sa2 (200 * l + t) = sa (200 * l + t) := by
    by_cases e : l = k
    · subst e
      have u : ∀ w, upA (fun t => sa (200 * l + t)) now w t = sa (200 * l + t) := fun w => upA_ne (by omega)
      rcases a with ⟨-, -, -, -, -, a5, -⟩ | ⟨-, -, w, -, -, -, -, -, a6, -⟩
      · exact (a5 t (by omega) t1).trans (u _)
      · exact (a6 t (by omega) t1).trans (u _)
    · exact (c l l0 (by omega) e).2.1 t (by omega) t1
  rw [q]
  exact h l t l0 l1 t0 t1
theorem lf_m (h : Lf_ (GM_ qu fa bo di se ve ho on su pd at_) (KM_ N L M way sp) now (fun l => 0 ≤ sa (200 * l + now)) (VM_ st0 wo fr sa) (VM_ st wo fr sa) k) (ht : ((¬ 0 ≤ sa (200 * k + now) ∧ (ve k = 0 ∨ now % 3 = 2)) ∧ Fx_ di k N st st2) ∨ (¬ (¬ 0 ≤ sa (200 * k + now) ∧ (ve k = 0 ∨ now % 3 = 2)) ∧ st2 = st)) (hk : 0 ≤ k ∧ k < 24) (hN : N ≤ 24) (hz : ∀ i, 0 ≤ st i ∧ st i ≤ 9) : Lf_ (GM_ qu fa bo di se ve ho on su pd at_) (KM_ N L M way sp) now (fun l => 0 ≤ sa (200 * l + now)) (VM_ st0 wo fr sa) (VM_ st2 wo fr sa) (k + 1) := by
  rcases ht with ⟨a, b⟩ | ⟨a, b⟩
  · refine Lf_st h hk (fun l l0 l1 ln p p0 p1 => ?_) (fun _ _ _ _ _ _ => rfl) (Or.inl ⟨a, fun p p0 p1 => ?_⟩)
    · have q := b.2 (24 * p + l) (fun q q0 q1 => by omega)
      show st2 (24 * p + l) = st (24 * p + l) ∧ nz_ (st2 (24 * p + l)) (wo (24 * p + l)) = nz_ (st (24 * p + l)) (wo (24 * p + l)) ∧ nz_ (st2 (24 * p + l)) (fr (24 * p + l)) = nz_ (st (24 * p + l)) (fr (24 * p + l))
      rw [q]
      exact ⟨rfl, rfl, rfl⟩
    · have z0 := hz (24 * p + k)
      show Fd_ (di p = -1) (st (24 * p + k)) (nz_ (st (24 * p + k)) (wo (24 * p + k))) (nz_ (st (24 * p + k)) (fr (24 * p + k))) (st2 (24 * p + k)) (nz_ (st2 (24 * p + k)) (wo (24 * p + k))) (nz_ (st2 (24 * p + k)) (fr (24 * p + k)))
      rcases b.1 p p0 p1 with ⟨q1, q2, q3⟩ | ⟨q1, q2⟩
      · by_cases e : 1 < st (24 * p + k)
        · refine Or.inl ⟨q1, e, q3, ?_, ?_⟩
          · rw [nz_t (by omega), nz_t q2]
          · rw [nz_t (by omega), nz_t q2]
        · exact Or.inr (Or.inl ⟨q1, by omega, by omega, nz_f (by omega), nz_f (by omega)⟩)
      · by_cases e : di p = -1
        · have e2 : st (24 * p + k) ≤ 0 := Int.not_lt.mp (fun z => q1 ⟨e, z⟩)
          exact Or.inr (Or.inl ⟨e, by omega, by omega, nz_f (by omega), nz_f (by omega)⟩)
        · exact Or.inr (Or.inr ⟨e, q2, by rw [q2], by rw [q2]⟩)
  · subst b
    exact Lf_st h hk (fun _ _ _ _ _ _ _ => ⟨rfl, rfl, rfl⟩) (fun _ _ _ _ _ _ => rfl) (Or.inr ⟨a, fun _ _ _ => ⟨rfl, rfl, rfl⟩⟩)
end Go

set_option maxHeartbeats 4000000 in
set_option maxRecDepth 100000 in
theorem c_X10_isOutlaw (l : Launch) (D : va_G) (cy : Nat → ClassId) (q : Nat → Nat) (n_0 : Nat → Int) (f_0 : Nat → Int → Int) (v_p : Int) (r_v_p : inR v_p) (hp0 : (n_0 2) ≤ 24) (hp1 : 0 ≤ (n_0 1) ∧ (n_0 1) ≤ 199) (hp2 : 0 ≤ (n_0 48) ∧ (n_0 48) ≤ 100) : MC l D cy q yX10_isOutlaw cX10_isOutlaw 3 (some .boolean) 2 [.int (J v_p)] n_0 f_0 (PI (fun (z_0 : Int) (n_2 : Nat → Int) (f_2 : Nat → Int → Int) => (n_2 = n_0 ∧ f_2 = f_0) ∧ ((z_0 = 1 ∧ (0 ≤ v_p ∧ v_p < (n_0 2) ∧ (f_0 6 v_p) = -1) ∧ Ou_ (n_0 48) (f_0 50) (f_0 52) (f_0 54) (f_0 53) (n_0 1) v_p) ∨ (z_0 = 0 ∧ ¬ ((0 ≤ v_p ∧ v_p < (n_0 2) ∧ (f_0 6 v_p) = -1) ∧ Ou_ (n_0 48) (f_0 50) (f_0 52) (f_0 54) (f_0 53) (n_0 1) v_p))))) := by
  refine MC.ofz rfl (Nat.le_of_ble_eq_true rfl) ?_
  intro p e s m below meth c ls ar QW A0 H0 H locs E hK hA hw hl hret
  have hl : lv_has ls 3 [(0, .ref (q 0)), (1, .int (J v_p))] := hl
  refine j_aload_n E 1 rfl dX10_isOutlaw_0 rfl (lv_at hl 0 rfl) ?_
  refine j_iload_n E 2 rfl dX10_isOutlaw_1 rfl (lv_at hl 1 rfl) ?_
  refine m_callp (po := fun z_0 => (z_0 = 1 ∧ 0 ≤ v_p ∧ v_p < (n_0 2) ∧ (f_0 6 v_p) = -1) ∨ (z_0 = 0 ∧ ¬ (0 ≤ v_p ∧ v_p < (n_0 2) ∧ (f_0 6 v_p) = -1))) E (c_X10_isLiving l D cy q (n_0) (f_0) v_p  r_v_p (show (n_0 2) ≤ 24 from by omega)) rfl mt_X10_isLiving ml_X10_176 hK hw hA ⟨Nat.le_of_ble_eq_true rfl, Nat.le_of_ble_eq_true rfl⟩ (As := [.int (J v_p)]) (rest := []) rfl rfl hl.1 (Nat.le_of_ble_eq_true rfl) 5 rfl dX10_isOutlaw_2 (fun zz1_ H locs rr1_ hq1_ hw => ?_)
  have hh1_ : (zz1_ = 1 ∧ 0 ≤ v_p ∧ v_p < (n_0 2) ∧ (f_0 6 v_p) = -1) ∨ (zz1_ = 0 ∧ ¬ (0 ≤ v_p ∧ v_p < (n_0 2) ∧ (f_0 6 v_p) = -1)) := hq1_
  clear hq1_
  rcases hh1_ with ⟨ee1_, hh1_⟩ | ⟨ee1_, hh1_⟩
  · subst ee1_
    have hl_ := hh1_
    clear hh1_
    refine j_if_ne E 8 10 rfl (rr (by decide)) dX10_isOutlaw_5 (by decide) (fun _ => ?_) (fun cc2_ => absurd cc2_ (by decide))
    refine j_iconst E 11 rfl dX10_isOutlaw_10 ?_
    refine j_istore_n E 12 rfl [(2, .int (J 0)), (0, .ref (q 0)), (1, .int (J v_p))] dX10_isOutlaw_11 rfl hl (by decide) rfl (fun ls hl => ?_)
    have L12_3 : ∀ (k12 : Nat) (gi : Int) (H : Heap) (locs : List Loc) (ls : Array Slot), inR gi → (0 ≤ gi ∧ gi ≤ 100 ∧ ∀ i_, 0 ≤ i_ → i_ < gi → ¬ ((f_0 50 i_) = v_p ∧ 0 < (f_0 52 i_) ∧ (f_0 54 i_) = 0 ∧ 2 ≤ w32_ ((n_0 1) - (f_0 53 i_)))) → (100 - gi) < (k12 : Int) → WM D cy q (n_0) (f_0) A0 H0 H locs → lv_has ls 3 [(0, .ref (q 0)), (1, .int (J v_p)), (2, .int (J gi))] → W p l e (rmd 2 0 0) s m ar below meth c H locs 0 0 QW (F0 m 12 ls []) := by
      intro k12
      induction k12 with
      | zero =>
        intro gi H locs ls r_gi iv12 ms12 hw hl
        exfalso; omega
      | succ k12 ih12 =>
        intro gi H locs ls r_gi iv12 ms12 hw hl
        refine j_iload_n E 13 rfl dX10_isOutlaw_12 rfl (lv_at hl 2 rfl) ?_
        refine j_aload_n E 14 rfl dX10_isOutlaw_13 rfl (lv_at hl 0 rfl) ?_
        refine m_get_48 E hK hw (n_0 48) rfl 17 rfl dX10_isOutlaw_14 (fun rr5_ => ?_)
        refine j_icmp_ge E 20 71 rfl r_gi rr5_ dX10_isOutlaw_17 (by decide) (fun cc6_ => ?_) (fun cc6_ => ?_)
        · refine j_iconst E 72 rfl dX10_isOutlaw_71 ?_
          exact hret 72 0 (n_0) (f_0) _ _ ls hw (Or.inl rfl) ⟨⟨rfl, rfl⟩, Or.inr ⟨rfl, fun h_ => by obtain ⟨-, i_, a_, b_, c_, d_, e_, g_⟩ := h_; exact iv12.2.2 i_ a_ (by omega) ⟨c_, d_, e_, g_⟩⟩⟩ dX10_isOutlaw_72
        · refine j_aload_n E 21 rfl dX10_isOutlaw_20 rfl (lv_at hl 0 rfl) ?_
          refine m_ag_50 E hK hw 24 rfl dX10_isOutlaw_21 ?_
          refine j_iload_n E 25 rfl dX10_isOutlaw_24 rfl (lv_at hl 2 rfl) ?_
          refine m_ld_50 E hK hw (f_0 50 gi) rfl (by omega) 26 rfl dX10_isOutlaw_25 (fun rr7_ => ?_)
          refine j_iload_n E 27 rfl dX10_isOutlaw_26 rfl (lv_at hl 1 rfl) ?_
          refine j_icmp_ne E 30 65 rfl rr7_ r_v_p dX10_isOutlaw_27 (by decide) (fun cc8_ => ?_) (fun cc8_ => ?_)
          · refine j_iinc E 68 rfl [(2, .int (J (gi + 1))), (0, .ref (q 0)), (1, .int (J v_p))] dX10_isOutlaw_65 hl (kk := 2) rfl (by decide) rfl (fun ls hl => ?_)
            refine j_goto E 12 dX10_isOutlaw_68 (by decide) ?_
            exact ih12 (gi + 1) H locs ls (rr (by omega)) (⟨by omega, by omega, nx_all (P := fun i_ => ¬ ((f_0 50 i_) = v_p ∧ 0 < (f_0 52 i_) ∧ (f_0 54 i_) = 0 ∧ 2 ≤ w32_ ((n_0 1) - (f_0 53 i_)))) iv12.2.2 (fun h_ => by omega)⟩) (by omega) hw (lv_sub hl [1, 2, 0] rfl)
          · refine j_aload_n E 31 rfl dX10_isOutlaw_30 rfl (lv_at hl 0 rfl) ?_
            refine m_ag_52 E hK hw 34 rfl dX10_isOutlaw_31 ?_
            refine j_iload_n E 35 rfl dX10_isOutlaw_34 rfl (lv_at hl 2 rfl) ?_
            refine m_ld_52 E hK hw (f_0 52 gi) rfl (by omega) 36 rfl dX10_isOutlaw_35 (fun rr9_ => ?_)
            refine j_if_le E 39 65 rfl rr9_ dX10_isOutlaw_36 (by decide) (fun cc10_ => ?_) (fun cc10_ => ?_)
            · refine j_iinc E 68 rfl [(2, .int (J (gi + 1))), (0, .ref (q 0)), (1, .int (J v_p))] dX10_isOutlaw_65 hl (kk := 2) rfl (by decide) rfl (fun ls hl => ?_)
              refine j_goto E 12 dX10_isOutlaw_68 (by decide) ?_
              exact ih12 (gi + 1) H locs ls (rr (by omega)) (⟨by omega, by omega, nx_all (P := fun i_ => ¬ ((f_0 50 i_) = v_p ∧ 0 < (f_0 52 i_) ∧ (f_0 54 i_) = 0 ∧ 2 ≤ w32_ ((n_0 1) - (f_0 53 i_)))) iv12.2.2 (fun h_ => by omega)⟩) (by omega) hw (lv_sub hl [1, 2, 0] rfl)
            · refine j_aload_n E 40 rfl dX10_isOutlaw_39 rfl (lv_at hl 0 rfl) ?_
              refine m_ag_54 E hK hw 43 rfl dX10_isOutlaw_40 ?_
              refine j_iload_n E 44 rfl dX10_isOutlaw_43 rfl (lv_at hl 2 rfl) ?_
              refine m_ld_54 E hK hw (f_0 54 gi) rfl (by omega) 45 rfl dX10_isOutlaw_44 (fun rr11_ => ?_)
              refine j_if_ne E 48 65 rfl rr11_ dX10_isOutlaw_45 (by decide) (fun cc12_ => ?_) (fun cc12_ => ?_)
              · refine j_iinc E 68 rfl [(2, .int (J (gi + 1))), (0, .ref (q 0)), (1, .int (J v_p))] dX10_isOutlaw_65 hl (kk := 2) rfl (by decide) rfl (fun ls hl => ?_)
                refine j_goto E 12 dX10_isOutlaw_68 (by decide) ?_
                exact ih12 (gi + 1) H locs ls (rr (by omega)) (⟨by omega, by omega, nx_all (P := fun i_ => ¬ ((f_0 50 i_) = v_p ∧ 0 < (f_0 52 i_) ∧ (f_0 54 i_) = 0 ∧ 2 ≤ w32_ ((n_0 1) - (f_0 53 i_)))) iv12.2.2 (fun h_ => by omega)⟩) (by omega) hw (lv_sub hl [1, 2, 0] rfl)
              · refine j_aload_n E 49 rfl dX10_isOutlaw_48 rfl (lv_at hl 0 rfl) ?_
                refine m_get_1 E hK hw (n_0 1) rfl 52 rfl dX10_isOutlaw_49 (fun rr13_ => ?_)
                refine j_aload_n E 53 rfl dX10_isOutlaw_52 rfl (lv_at hl 0 rfl) ?_
                refine m_ag_53 E hK hw 56 rfl dX10_isOutlaw_53 ?_
                refine j_iload_n E 57 rfl dX10_isOutlaw_56 rfl (lv_at hl 2 rfl) ?_
                refine m_ld_53 E hK hw (f_0 53 gi) rfl (by omega) 58 rfl dX10_isOutlaw_57 (fun rr14_ => ?_)
                refine j_isub E 59 rfl dX10_isOutlaw_58 ?_
                refine j_norm (fun zz15_ rr15_ ee15_ => ?_)
                have hw_ := w32_of rr15_ ee15_
                refine j_iconst E 60 rfl dX10_isOutlaw_59 ?_
                refine j_icmp_lt E 63 65 rfl rr15_ (rr (by decide)) dX10_isOutlaw_60 (by decide) (fun cc16_ => ?_) (fun cc16_ => ?_)
                · refine j_iinc E 68 rfl [(2, .int (J (gi + 1))), (0, .ref (q 0)), (1, .int (J v_p))] dX10_isOutlaw_65 hl (kk := 2) rfl (by decide) rfl (fun ls hl => ?_)
                  refine j_goto E 12 dX10_isOutlaw_68 (by decide) ?_
                  exact ih12 (gi + 1) H locs ls (rr (by omega)) (⟨by omega, by omega, nx_all (P := fun i_ => ¬ ((f_0 50 i_) = v_p ∧ 0 < (f_0 52 i_) ∧ (f_0 54 i_) = 0 ∧ 2 ≤ w32_ ((n_0 1) - (f_0 53 i_)))) iv12.2.2 (fun h_ => by omega)⟩) (by omega) hw (lv_sub hl [1, 2, 0] rfl)
                · refine j_iconst E 64 rfl dX10_isOutlaw_63 ?_
                  exact hret 64 1 (n_0) (f_0) _ _ ls hw (Or.inr rfl) ⟨⟨rfl, rfl⟩, Or.inl ⟨rfl, hl_, gi, by omega, by omega, by omega, by omega, by omega, by omega⟩⟩ dX10_isOutlaw_64
    exact L12_3 _ 0 H locs ls (rr (by decide)) (⟨by omega, by omega, fun i_ h1_ h2_ => absurd h2_ (by omega)⟩) (mk_lt _) hw (lv_sub hl [1, 2, 0] rfl)
  · subst ee1_
    have hn_ := hh1_
    clear hh1_
    refine j_if_ne E 8 10 rfl (rr (by decide)) dX10_isOutlaw_5 (by decide) (fun cc17_ => absurd cc17_ (by decide)) (fun _ => ?_)
    refine j_iconst E 9 rfl dX10_isOutlaw_8 ?_
    exact hret 9 0 (n_0) (f_0) _ _ ls hw (Or.inl rfl) ⟨⟨rfl, rfl⟩, Or.inr ⟨rfl, fun h_ => hn_ h_.1⟩⟩ dX10_isOutlaw_9
set_option maxHeartbeats 4000000 in
set_option maxRecDepth 100000 in
theorem c_X10_speakersOf (l : Launch) (D : va_G) (cy : Nat → ClassId) (q : Nat → Nat) (n_0 : Nat → Int) (f_0 : Nat → Int → Int) (v_x : Int) (r_v_x : inR v_x) (hp0 : -1 ≤ (n_0 10) ∧ (n_0 10) < 24) (hp1 : 0 ≤ v_x ∧ v_x < 24) (hp2 : (∀ p_, 0 ≤ p_ → p_ < 24 → ¬ (f_0 56 p_) = 0 → p_ < (n_0 2))) : MC l D cy q yX10_speakersOf cX10_speakersOf 2 (some .int) 2 [.int (J v_x)] n_0 f_0 (PI (fun (z_0 : Int) (n_2 : Nat → Int) (f_2 : Nat → Int → Int) => (n_2 = n_0 ∧ f_2 = f_0) ∧ ((z_0 = -1 ∨ (0 < (f_0 19 (24 * (n_0 10) + v_x)) ∧ z_0 = (f_0 20 (24 * (n_0 10) + v_x)))) ∧ z_0 = spk_ (0 ≤ (n_0 10) ∧ (n_0 10) < (n_0 2) ∧ ¬ (f_0 56 ((n_0 10))) = 0 ∧ 0 < (f_0 19 (24 * (n_0 10) + v_x))) ((f_0 20 (24 * (n_0 10) + v_x)))))) := by
  refine MC.ofi rfl (Nat.le_of_ble_eq_true rfl) ?_
  intro p e s m below meth c ls ar QW A0 H0 H locs E hK hA hw hl hret
  have hl : lv_has ls 2 [(0, .ref (q 0)), (1, .int (J v_x))] := hl
  refine j_aload_n E 1 rfl dX10_speakersOf_0 rfl (lv_at hl 0 rfl) ?_
  refine m_get_10 E hK hw (n_0 10) rfl 4 rfl dX10_speakersOf_1 (fun rr1_ => ?_)
  refine j_iconst E 5 rfl dX10_speakersOf_4 ?_
  refine j_icmp_eq E 8 37 rfl rr1_ (rr (by decide)) dX10_speakersOf_5 (by decide) (fun cc2_ => ?_) (fun cc2_ => ?_)
  · refine j_iconst E 38 rfl dX10_speakersOf_37 ?_
    exact hret 38 ((-1)) (n_0) (f_0) _ _ ls hw (rr (by decide)) ⟨⟨rfl, rfl⟩, by first | exact ⟨Or.inl rfl, (spk_f (fun h_ => by omega)).symm⟩ | exact ⟨Or.inr ⟨by omega, rfl⟩, (spk_t ⟨by omega, hp2 _ (by omega) (by omega) (by omega), by omega, by omega⟩).symm⟩⟩ dX10_speakersOf_38
  · refine j_aload_n E 9 rfl dX10_speakersOf_8 rfl (lv_at hl 0 rfl) ?_
    refine j_aload_n E 10 rfl dX10_speakersOf_9 rfl (lv_at hl 0 rfl) ?_
    refine m_get_10 E hK hw (n_0 10) rfl 13 rfl dX10_speakersOf_10 (fun _ => ?_)
    refine j_iload_n E 14 rfl dX10_speakersOf_13 rfl (lv_at hl 1 rfl) ?_
    refine m_callp (po := fun z_0 => (z_0 = 1 ∧ (f_0 56 ((n_0 10))) ≠ 0 ∧ 0 < (f_0 19 (24 * (n_0 10) + v_x))) ∨ (z_0 = 0 ∧ ¬ ((f_0 56 ((n_0 10))) ≠ 0 ∧ 0 < (f_0 19 (24 * (n_0 10) + v_x))))) E (c_X10_isHeard l D cy q (n_0) (f_0) (n_0 10) v_x  rr1_ r_v_x (show 0 ≤ (n_0 10) ∧ (n_0 10) < 24 from by omega) (show 0 ≤ v_x ∧ v_x < 24 from by omega)) rfl mt_X10_isHeard ml_X10_337 hK hw hA ⟨Nat.le_of_ble_eq_true rfl, Nat.le_of_ble_eq_true rfl⟩ (As := [.int (J (n_0 10)), .int (J v_x)]) (rest := []) rfl rfl hl.1 (Nat.le_of_ble_eq_true rfl) 17 rfl dX10_speakersOf_14 (fun zz3_ H locs rr3_ hq3_ hw => ?_)
    have hh3_ : (zz3_ = 1 ∧ (f_0 56 ((n_0 10))) ≠ 0 ∧ 0 < (f_0 19 (24 * (n_0 10) + v_x))) ∨ (zz3_ = 0 ∧ ¬ ((f_0 56 ((n_0 10))) ≠ 0 ∧ 0 < (f_0 19 (24 * (n_0 10) + v_x)))) := hq3_
    clear hq3_
    rcases hh3_ with ⟨ee3_, hh3_⟩ | ⟨ee3_, hh3_⟩
    · subst ee3_
      refine j_if_eq E 20 37 rfl (rr (by decide)) dX10_speakersOf_17 (by decide) (fun cc4_ => absurd cc4_ (by decide)) (fun _ => ?_)
      refine j_aload_n E 21 rfl dX10_speakersOf_20 rfl (lv_at hl 0 rfl) ?_
      refine m_ag_20 E hK hw 24 rfl dX10_speakersOf_21 ?_
      refine j_bipush E 26 rfl dX10_speakersOf_24 (by decide) ?_
      refine j_aload_n E 27 rfl dX10_speakersOf_26 rfl (lv_at hl 0 rfl) ?_
      refine m_get_10 E hK hw (n_0 10) rfl 30 rfl dX10_speakersOf_27 (fun _ => ?_)
      refine j_imul E 31 rfl dX10_speakersOf_30 ?_
      refine j_iload_n E 32 rfl dX10_speakersOf_31 rfl (lv_at hl 1 rfl) ?_
      refine j_iadd E 33 rfl dX10_speakersOf_32 ?_
      refine m_ld_20 E hK hw (f_0 20 ((24 * (n_0 10)) + v_x)) rfl (by omega) 34 rfl dX10_speakersOf_33 (fun rr5_ => ?_)
      refine j_goto E 38 dX10_speakersOf_34 (by decide) ?_
      exact hret 38 (f_0 20 ((24 * (n_0 10)) + v_x)) (n_0) (f_0) _ _ ls hw rr5_ ⟨⟨rfl, rfl⟩, by first | exact ⟨Or.inl rfl, (spk_f (fun h_ => by omega)).symm⟩ | exact ⟨Or.inr ⟨by omega, rfl⟩, (spk_t ⟨by omega, hp2 _ (by omega) (by omega) (by omega), by omega, by omega⟩).symm⟩⟩ dX10_speakersOf_38
    · subst ee3_
      refine j_if_eq E 20 37 rfl (rr (by decide)) dX10_speakersOf_17 (by decide) (fun _ => ?_) (fun cc6_ => absurd cc6_ (by decide))
      refine j_iconst E 38 rfl dX10_speakersOf_37 ?_
      exact hret 38 ((-1)) (n_0) (f_0) _ _ ls hw (rr (by decide)) ⟨⟨rfl, rfl⟩, by first | exact ⟨Or.inl rfl, (spk_f (fun h_ => by omega)).symm⟩ | exact ⟨Or.inr ⟨by omega, rfl⟩, (spk_t ⟨by omega, hp2 _ (by omega) (by omega) (by omega), by omega, by omega⟩).symm⟩⟩ dX10_speakersOf_38
set_option maxHeartbeats 4000000 in
set_option maxRecDepth 100000 in
theorem c_X10_greatest (l : Launch) (D : va_G) (cy : Nat → ClassId) (q : Nat → Nat) (n_0 : Nat → Int) (f_0 : Nat → Int → Int) : MC l D cy q yX10_greatest cX10_greatest 3 (some .int) 0 [] n_0 f_0 (PI (fun (z_0 : Int) (n_2 : Nat → Int) (f_2 : Nat → Int → Int) => (n_2 = n_0 ∧ f_2 = f_0) ∧ (0 ≤ z_0 ∧ z_0 < 32 ∧ (z_0 = 0 ∨ (f_0 57 0) < (f_0 57 z_0)) ∧ gr_ (f_0 57) z_0))) := by
  refine MC.ofi rfl (Nat.le_of_ble_eq_true rfl) ?_
  intro p e s m below meth c ls ar QW A0 H0 H locs E hK hA hw hl hret
  have hl : lv_has ls 3 [(0, .ref (q 0))] := hl
  refine j_iconst E 1 rfl dX10_greatest_0 ?_
  refine j_istore_n E 2 rfl [(1, .int (J 0)), (0, .ref (q 0))] dX10_greatest_1 rfl hl (by decide) rfl (fun ls hl => ?_)
  refine j_iconst E 3 rfl dX10_greatest_2 ?_
  refine j_istore_n E 4 rfl [(2, .int (J 1)), (1, .int (J 0)), (0, .ref (q 0))] dX10_greatest_3 rfl hl (by decide) rfl (fun ls hl => ?_)
  have L4_1 : ∀ (k4 : Nat) (gb gi : Int) (H : Heap) (locs : List Loc) (ls : Array Slot), inR gb → inR gi → (1 ≤ gi ∧ gi ≤ 32 ∧ 0 ≤ gb ∧ gb < 32 ∧ (gb = 0 ∨ (f_0 57 0) < (f_0 57 gb)) ∧ gb < gi ∧ ∀ w_, 0 ≤ w_ → w_ < gi → (f_0 57 w_) ≤ (f_0 57 gb) ∧ (w_ < gb → (f_0 57 w_) < (f_0 57 gb))) → (32 - gi) < (k4 : Int) → WM D cy q (n_0) (f_0) A0 H0 H locs → lv_has ls 3 [(0, .ref (q 0)), (1, .int (J gb)), (2, .int (J gi))] → W p l e (rmd 0 0 0) s m ar below meth c H locs 0 0 QW (F0 m 4 ls []) := by
    intro k4
    induction k4 with
    | zero =>
      intro gb gi H locs ls r_gb r_gi iv4 ms4 hw hl
      exfalso; omega
    | succ k4 ih4 =>
      intro gb gi H locs ls r_gb r_gi iv4 ms4 hw hl
      have oz_ : gb = 0 → (f_0 57 gb) = (f_0 57 0) := fun h => by rw [h]
      refine j_iload_n E 5 rfl dX10_greatest_4 rfl (lv_at hl 2 rfl) ?_
      refine j_bipush E 7 rfl dX10_greatest_5 (by decide) ?_
      refine j_icmp_ge E 10 33 rfl r_gi (rr (by decide)) dX10_greatest_7 (by decide) (fun cc3_ => ?_) (fun cc3_ => ?_)
      · refine j_iload_n E 34 rfl dX10_greatest_33 rfl (lv_at hl 1 rfl) ?_
        exact hret 34 gb (n_0) (f_0) _ _ ls hw r_gb ⟨⟨rfl, rfl⟩, ⟨by omega, by omega, by omega, ⟨by omega, by omega⟩, fun w_ h1_ h2_ => iv4.2.2.2.2.2.2 w_ h1_ (by omega)⟩⟩ dX10_greatest_34
      · refine j_aload_n E 11 rfl dX10_greatest_10 rfl (lv_at hl 0 rfl) ?_
        refine m_ag_57 E hK hw 14 rfl dX10_greatest_11 ?_
        refine j_iload_n E 15 rfl dX10_greatest_14 rfl (lv_at hl 2 rfl) ?_
        refine m_ld_57 E hK hw (f_0 57 gi) rfl (by omega) 16 rfl dX10_greatest_15 (fun rr4_ => ?_)
        refine j_aload_n E 17 rfl dX10_greatest_16 rfl (lv_at hl 0 rfl) ?_
        refine m_ag_57 E hK hw 20 rfl dX10_greatest_17 ?_
        refine j_iload_n E 21 rfl dX10_greatest_20 rfl (lv_at hl 1 rfl) ?_
        refine m_ld_57 E hK hw (f_0 57 gb) rfl (by omega) 22 rfl dX10_greatest_21 (fun rr5_ => ?_)
        refine j_icmp_le E 25 27 rfl rr4_ rr5_ dX10_greatest_22 (by decide) (fun cc6_ => ?_) (fun cc6_ => ?_)
        · refine j_iinc E 30 rfl [(2, .int (J (gi + 1))), (0, .ref (q 0)), (1, .int (J gb))] dX10_greatest_27 hl (kk := 2) rfl (by decide) rfl (fun ls hl => ?_)
          refine j_goto E 4 dX10_greatest_30 (by decide) ?_
          exact ih4 gb (gi + 1) H locs ls r_gb (rr (by omega)) (⟨by omega, by omega, by omega, by omega, by omega, by omega, fun w_ h1_ h2_ => by by_cases q_ : w_ = gi; (rw [q_]; exact ⟨by omega, fun r_ => by omega⟩); have r_ := iv4.2.2.2.2.2.2 w_ h1_ (by omega); exact ⟨by omega, fun u_ => by omega⟩⟩) (by omega) hw (lv_sub hl [1, 2, 0] rfl)
        · refine j_iload_n E 26 rfl dX10_greatest_25 rfl (lv_at hl 2 rfl) ?_
          refine j_istore_n E 27 rfl [(1, .int (J gi)), (0, .ref (q 0)), (2, .int (J gi))] dX10_greatest_26 rfl hl (by decide) rfl (fun ls hl => ?_)
          refine j_iinc E 30 rfl [(2, .int (J (gi + 1))), (1, .int (J gi)), (0, .ref (q 0))] dX10_greatest_27 hl (kk := 2) rfl (by decide) rfl (fun ls hl => ?_)
          refine j_goto E 4 dX10_greatest_30 (by decide) ?_
          exact ih4 gi (gi + 1) H locs ls r_gi (rr (by omega)) (⟨by omega, by omega, by omega, by omega, by omega, by omega, fun w_ h1_ h2_ => by by_cases q_ : w_ = gi; (rw [q_]; exact ⟨by omega, fun r_ => by omega⟩); have r_ := iv4.2.2.2.2.2.2 w_ h1_ (by omega); exact ⟨by omega, fun u_ => by omega⟩⟩) (by omega) hw (lv_sub hl [2, 1, 0] rfl)
  exact L4_1 _ 0 1 H locs ls (rr (by decide)) (rr (by decide)) (⟨by omega, by omega, by omega, by omega, by omega, by omega, fun w_ h1_ h2_ => by rw [show w_ = 0 by omega]; exact ⟨Int.le_refl _, fun q_ => absurd q_ (by omega)⟩⟩) (mk_lt _) hw (lv_sub hl [2, 1, 0] rfl)
set_option maxHeartbeats 4000000 in
set_option maxRecDepth 100000 in
theorem c_X10_gets (l : Launch) (D : va_G) (cy : Nat → ClassId) (q : Nat → Nat) (n_0 : Nat → Int) (f_0 : Nat → Int → Int) (v_p v_x v_w v_by v_from : Int) (r_v_p : inR v_p) (r_v_x : inR v_x) (r_v_w : inR v_w) (r_v_by : inR v_by) (r_v_from : inR v_from) (hp0 : 0 ≤ v_p ∧ v_p < 24) (hp1 : 0 ≤ v_x ∧ v_x < 24) : MC l D cy q yX10_gets cX10_gets 6 none 0 [.int (J v_p), .int (J v_x), .int (J v_w), .int (J v_by), .int (J v_from)] n_0 f_0 (PV (fun (n_2 : Nat → Int) (f_2 : Nat → Int → Int) => ∃ (y19_2 : Int → Int) (y20_2 : Int → Int) (y21_2 : Int → Int) , n_2 = n_0 ∧ f_2 = upF (upF (upF f_0 19 y19_2) 20 y20_2) 21 y21_2 ∧ ((y19_2) = upA (f_0 19) (24 * v_p + v_x) v_by ∧ (y20_2) = upA (f_0 20) (24 * v_p + v_x) v_w ∧ (y21_2) = upA (f_0 21) (24 * v_p + v_x) v_from))) := by
  refine MC.ofv rfl (Nat.le_of_ble_eq_true rfl) ?_
  intro p e s m below meth c ls ar QW A0 H0 H locs E hK hA hw hl hret
  have hl : lv_has ls 6 [(0, .ref (q 0)), (1, .int (J v_p)), (2, .int (J v_x)), (3, .int (J v_w)), (4, .int (J v_by)), (5, .int (J v_from))] := hl
  refine j_aload_n E 1 rfl dX10_gets_0 rfl (lv_at hl 0 rfl) ?_
  refine m_ag_19 E hK hw 4 rfl dX10_gets_1 ?_
  refine j_bipush E 6 rfl dX10_gets_4 (by decide) ?_
  refine j_iload_n E 7 rfl dX10_gets_6 rfl (lv_at hl 1 rfl) ?_
  refine j_imul E 8 rfl dX10_gets_7 ?_
  refine j_iload_n E 9 rfl dX10_gets_8 rfl (lv_at hl 2 rfl) ?_
  refine j_iadd E 10 rfl dX10_gets_9 ?_
  refine j_iload E 12 rfl dX10_gets_10 (lv_at hl 4 rfl) ?_
  refine m_st_19 E hK hw (by omega) r_v_by 13 rfl dX10_gets_12 (fun H locs hw => ?_)
  have hw : WM D cy q (n_0) (upF f_0 19 (upA (f_0 19) ((24 * v_p) + v_x) v_by)) A0 H0 H locs := hw
  refine j_aload_n E 14 rfl dX10_gets_13 rfl (lv_at hl 0 rfl) ?_
  refine m_ag_20 E hK hw 17 rfl dX10_gets_14 ?_
  refine j_bipush E 19 rfl dX10_gets_17 (by decide) ?_
  refine j_iload_n E 20 rfl dX10_gets_19 rfl (lv_at hl 1 rfl) ?_
  refine j_imul E 21 rfl dX10_gets_20 ?_
  refine j_iload_n E 22 rfl dX10_gets_21 rfl (lv_at hl 2 rfl) ?_
  refine j_iadd E 23 rfl dX10_gets_22 ?_
  refine j_iload_n E 24 rfl dX10_gets_23 rfl (lv_at hl 3 rfl) ?_
  refine m_st_20 E hK hw (by omega) r_v_w 25 rfl dX10_gets_24 (fun H locs hw => ?_)
  have hw : WM D cy q (n_0) (upF (upF f_0 19 (upA (f_0 19) ((24 * v_p) + v_x) v_by)) 20 (upA (f_0 20) ((24 * v_p) + v_x) v_w)) A0 H0 H locs := hw
  refine j_aload_n E 26 rfl dX10_gets_25 rfl (lv_at hl 0 rfl) ?_
  refine m_ag_21 E hK hw 29 rfl dX10_gets_26 ?_
  refine j_bipush E 31 rfl dX10_gets_29 (by decide) ?_
  refine j_iload_n E 32 rfl dX10_gets_31 rfl (lv_at hl 1 rfl) ?_
  refine j_imul E 33 rfl dX10_gets_32 ?_
  refine j_iload_n E 34 rfl dX10_gets_33 rfl (lv_at hl 2 rfl) ?_
  refine j_iadd E 35 rfl dX10_gets_34 ?_
  refine j_iload E 37 rfl dX10_gets_35 (lv_at hl 5 rfl) ?_
  refine m_st_21 E hK hw (by omega) r_v_from 38 rfl dX10_gets_37 (fun H locs hw => ?_)
  have hw : WM D cy q (n_0) (upF (upF (upF f_0 19 (upA (f_0 19) ((24 * v_p) + v_x) v_by)) 20 (upA (f_0 20) ((24 * v_p) + v_x) v_w)) 21 (upA (f_0 21) ((24 * v_p) + v_x) v_from)) A0 H0 H locs := hw
  exact hret 38 (n_0) (upF (upF (upF f_0 19 (upA (f_0 19) ((24 * v_p) + v_x) v_by)) 20 (upA (f_0 20) ((24 * v_p) + v_x) v_w)) 21 (upA (f_0 21) ((24 * v_p) + v_x) v_from)) _ _ ls hw ⟨(upA (f_0 19) ((24 * v_p) + v_x) v_by), (upA (f_0 20) ((24 * v_p) + v_x) v_w), (upA (f_0 21) ((24 * v_p) + v_x) v_from), rfl, rfl, ⟨rfl, rfl, rfl⟩⟩ dX10_gets_38
set_option maxHeartbeats 4000000 in
set_option maxRecDepth 100000 in
theorem c_X10_counts (l : Launch) (D : va_G) (cy : Nat → ClassId) (q : Nat → Nat) (n_0 : Nat → Int) (f_0 : Nat → Int → Int) (v_x v_quarter : Int) (r_v_x : inR v_x) (r_v_quarter : inR v_quarter) (hp0 : 0 ≤ (n_0 2) ∧ (n_0 2) ≤ 24) (hp1 : 0 ≤ v_x ∧ v_x < 24) (hp2 : 0 ≤ (n_0 29) ∧ (n_0 29) ≤ 32) (hp3 : Str_ (f_0 19) (f_0 20) (n_0 29)) : MC l D cy q yX10_counts cX10_counts 5 none 2 [.int (J v_x), .int (J v_quarter)] n_0 f_0 (PV (fun (n_2 : Nat → Int) (f_2 : Nat → Int → Int) => ∃ (y57_2 : Int → Int) , n_2 = n_0 ∧ f_2 = upF f_0 57 y57_2 ∧ (Hv_ (y57_2) (n_0 29) 24 ∧ Hc_ (y57_2) (fun p_ => (¬ (f_0 56 p_) = 0 ∧ 0 < (f_0 19 (24 * p_ + v_x))) ∧ (v_quarter = -1 ∨ (f_0 3 p_) = v_quarter)) (fun p_ => (f_0 20 (24 * p_ + v_x))) (n_0 2)))) := by
  refine MC.ofv rfl (Nat.le_of_ble_eq_true rfl) ?_
  intro p e s m below meth c ls ar QW A0 H0 H locs E hK hA hw hl hret
  have hl : lv_has ls 5 [(0, .ref (q 0)), (1, .int (J v_x)), (2, .int (J v_quarter))] := hl
  refine j_iconst E 1 rfl dX10_counts_0 ?_
  refine j_istore_n E 2 rfl [(3, .int (J 0)), (0, .ref (q 0)), (1, .int (J v_x)), (2, .int (J v_quarter))] dX10_counts_1 rfl hl (by decide) rfl (fun ls hl => ?_)
  have L2_1 : ∀ (k2 : Nat) (gi : Int) (y57_c2 : Int → Int) (H : Heap) (locs : List Loc) (ls : Array Slot), inR gi → (0 ≤ gi ∧ gi ≤ 32 ∧ ∀ j, 0 ≤ j → j < gi → (y57_c2 j) = 0) → (32 - gi) < (k2 : Int) → WM D cy q (n_0) (upF f_0 57 y57_c2) A0 H0 H locs → lv_has ls 5 [(0, .ref (q 0)), (1, .int (J v_x)), (2, .int (J v_quarter)), (3, .int (J gi))] → W p l e (rmd 2 0 0) s m ar below meth c H locs 0 0 QW (F0 m 2 ls []) := by
    intro k2
    induction k2 with
    | zero =>
      intro gi y57_c2 H locs ls r_gi iv2 ms2 hw hl
      exfalso; omega
    | succ k2 ih2 =>
      intro gi y57_c2 H locs ls r_gi iv2 ms2 hw hl
      refine j_iload_n E 3 rfl dX10_counts_2 rfl (lv_at hl 3 rfl) ?_
      refine j_bipush E 5 rfl dX10_counts_3 (by decide) ?_
      refine j_icmp_ge E 8 21 rfl r_gi (rr (by decide)) dX10_counts_5 (by decide) (fun cc3_ => ?_) (fun cc3_ => ?_)
      · refine j_iconst E 22 rfl dX10_counts_21 ?_
        refine j_istore_n E 23 rfl [(3, .int (J 0)), (0, .ref (q 0)), (1, .int (J v_x)), (2, .int (J v_quarter))] dX10_counts_22 rfl hl (by decide) rfl (fun ls hl => ?_)
        have L23_4 : ∀ (k23 : Nat) (gp : Int) (y57_c23 : Int → Int) (H : Heap) (locs : List Loc) (ls : Array Slot), inR gp → (0 ≤ gp ∧ gp ≤ 24 ∧ Hv_ (y57_c23) (n_0 29) gp ∧ gp ≤ (n_0 2) ∧ Hc_ (y57_c23) (fun p_ => (¬ (f_0 56 p_) = 0 ∧ 0 < (f_0 19 (24 * p_ + v_x))) ∧ (v_quarter = -1 ∨ (f_0 3 p_) = v_quarter)) (fun p_ => (f_0 20 (24 * p_ + v_x))) gp) → (24 - gp) < (k23 : Int) → WM D cy q (n_0) (upF f_0 57 y57_c23) A0 H0 H locs → lv_has ls 5 [(0, .ref (q 0)), (1, .int (J v_x)), (2, .int (J v_quarter)), (3, .int (J gp))] → W p l e (rmd 2 0 0) s m ar below meth c H locs 0 0 QW (F0 m 23 ls []) := by
          intro k23
          induction k23 with
          | zero =>
            intro gp y57_c23 H locs ls r_gp iv23 ms23 hw hl
            exfalso; omega
          | succ k23 ih23 =>
            intro gp y57_c23 H locs ls r_gp iv23 ms23 hw hl
            refine j_iload_n E 24 rfl dX10_counts_23 rfl (lv_at hl 3 rfl) ?_
            refine j_aload_n E 25 rfl dX10_counts_24 rfl (lv_at hl 0 rfl) ?_
            refine m_get_2 E hK hw (n_0 2) rfl 28 rfl dX10_counts_25 (fun rr6_ => ?_)
            refine j_icmp_ge E 31 93 rfl r_gp rr6_ dX10_counts_28 (by decide) (fun cc7_ => ?_) (fun cc7_ => ?_)
            · exact hret 93 (n_0) (upF f_0 57 y57_c23) _ _ ls hw ⟨y57_c23, rfl, rfl, ⟨Hv_mono iv23.2.2.1 (by omega), by rw [show (n_0 2) = gp by omega]; exact iv23.2.2.2.2⟩⟩ dX10_counts_93
            · refine j_aload_n E 32 rfl dX10_counts_31 rfl (lv_at hl 0 rfl) ?_
              refine j_iload_n E 33 rfl dX10_counts_32 rfl (lv_at hl 3 rfl) ?_
              refine j_iload_n E 34 rfl dX10_counts_33 rfl (lv_at hl 1 rfl) ?_
              refine m_callp (po := fun z_0 => (z_0 = 1 ∧ (f_0 56 gp) ≠ 0 ∧ 0 < (f_0 19 (24 * gp + v_x))) ∨ (z_0 = 0 ∧ ¬ ((f_0 56 gp) ≠ 0 ∧ 0 < (f_0 19 (24 * gp + v_x))))) E (c_X10_isHeard l D cy q (n_0) (upF f_0 57 y57_c23) gp v_x  r_gp r_v_x (show 0 ≤ gp ∧ gp < 24 from by omega) (show 0 ≤ v_x ∧ v_x < 24 from by omega)) rfl mt_X10_isHeard ml_X10_337 hK hw hA ⟨Nat.le_of_ble_eq_true rfl, Nat.le_of_ble_eq_true rfl⟩ (As := [.int (J gp), .int (J v_x)]) (rest := []) rfl rfl hl.1 (Nat.le_of_ble_eq_true rfl) 37 rfl dX10_counts_34 (fun zz8_ H locs rr8_ hq8_ hw => ?_)
              have hh8_ : (zz8_ = 1 ∧ (f_0 56 gp) ≠ 0 ∧ 0 < (f_0 19 (24 * gp + v_x))) ∨ (zz8_ = 0 ∧ ¬ ((f_0 56 gp) ≠ 0 ∧ 0 < (f_0 19 (24 * gp + v_x)))) := hq8_
              clear hq8_
              rcases hh8_ with ⟨ee8_, hh8_⟩ | ⟨ee8_, hh8_⟩
              · subst ee8_
                refine j_if_eq E 40 87 rfl (rr (by decide)) dX10_counts_37 (by decide) (fun cc9_ => absurd cc9_ (by decide)) (fun _ => ?_)
                refine j_iload_n E 41 rfl dX10_counts_40 rfl (lv_at hl 2 rfl) ?_
                refine j_iconst E 42 rfl dX10_counts_41 ?_
                refine j_icmp_eq E 45 58 rfl r_v_quarter (rr (by decide)) dX10_counts_42 (by decide) (fun cc10_ => ?_) (fun cc10_ => ?_)
                · have hs_ := hp3 (24 * gp + v_x) (by omega)
                  refine j_aload_n E 59 rfl dX10_counts_58 rfl (lv_at hl 0 rfl) ?_
                  refine m_ag_20 E hK hw 62 rfl dX10_counts_59 ?_
                  refine j_bipush E 64 rfl dX10_counts_62 (by decide) ?_
                  refine j_iload_n E 65 rfl dX10_counts_64 rfl (lv_at hl 3 rfl) ?_
                  refine j_imul E 66 rfl dX10_counts_65 ?_
                  refine j_iload_n E 67 rfl dX10_counts_66 rfl (lv_at hl 1 rfl) ?_
                  refine j_iadd E 68 rfl dX10_counts_67 ?_
                  refine m_ld_20 E hK hw (f_0 20 ((24 * gp) + v_x)) rfl (by omega) 69 rfl dX10_counts_68 (fun rr11_ => ?_)
                  refine j_istore E 71 rfl [(4, .int (J (f_0 20 ((24 * gp) + v_x)))), (0, .ref (q 0)), (1, .int (J v_x)), (2, .int (J v_quarter)), (3, .int (J gp))] dX10_counts_69 hl (by decide) rfl (fun ls hl => ?_)
                  refine j_aload_n E 72 rfl dX10_counts_71 rfl (lv_at hl 1 rfl) ?_
                  refine m_ag_57 E hK hw 75 rfl dX10_counts_72 ?_
                  refine j_iload E 77 rfl dX10_counts_75 (lv_at hl 0 rfl) ?_
                  refine j_aload_n E 78 rfl dX10_counts_77 rfl (lv_at hl 1 rfl) ?_
                  refine m_ag_57 E hK hw 81 rfl dX10_counts_78 ?_
                  refine j_iload E 83 rfl dX10_counts_81 (lv_at hl 0 rfl) ?_
                  refine m_ld_57 E hK hw (y57_c23 (f_0 20 ((24 * gp) + v_x))) rfl (by omega) 84 rfl dX10_counts_83 (fun rr12_ => ?_)
                  have hv_ := iv23.2.2.1 (f_0 20 ((24 * gp) + v_x)) (by omega) (by omega)
                  refine j_iconst E 85 rfl dX10_counts_84 ?_
                  refine j_iadd E 86 rfl dX10_counts_85 ?_
                  refine m_st_57 E hK hw (by omega) (rr (by omega)) 87 rfl dX10_counts_86 (fun H locs hw => ?_)
                  have hw : WM D cy q (n_0) (upF f_0 57 (upA (y57_c23) (f_0 20 ((24 * gp) + v_x)) ((y57_c23 (f_0 20 ((24 * gp) + v_x))) + 1))) A0 H0 H locs := hw
                  refine j_iinc E 90 rfl [(3, .int (J (gp + 1))), (4, .int (J (f_0 20 ((24 * gp) + v_x)))), (0, .ref (q 0)), (1, .int (J v_x)), (2, .int (J v_quarter))] dX10_counts_87 hl (kk := 4) rfl (by decide) rfl (fun ls hl => ?_)
                  refine j_goto E 23 dX10_counts_90 (by decide) ?_
                  exact ih23 (gp + 1) (upA (y57_c23) (f_0 20 ((24 * gp) + v_x)) ((y57_c23 (f_0 20 ((24 * gp) + v_x))) + 1)) H locs ls (rr (by omega)) (⟨by omega, by omega, by first | exact Hv_step iv23.2.2.1 (by omega) (by omega) | exact Hv_mono iv23.2.2.1 (by omega), by omega, by first | exact Hc_up iv23.2.2.2.2 (by omega) ⟨⟨by omega, by omega⟩, by omega⟩ (upA_same _ _ _) (fun w_ _ _ h_ => upA_ne h_) | exact Hc_no iv23.2.2.2.2 (by omega) (fun (h_ : (¬ (f_0 56 gp) = 0 ∧ 0 < (f_0 19 (24 * gp + v_x))) ∧ (v_quarter = -1 ∨ (f_0 3 gp) = v_quarter)) => by omega)⟩) (by omega) hw (lv_sub hl [2, 3, 4, 0] rfl)
                · refine j_aload_n E 46 rfl dX10_counts_45 rfl (lv_at hl 0 rfl) ?_
                  refine m_ag_3 E hK hw 49 rfl dX10_counts_46 ?_
                  refine j_iload_n E 50 rfl dX10_counts_49 rfl (lv_at hl 3 rfl) ?_
                  refine m_ld_3 E hK hw (f_0 3 gp) rfl (by omega) 51 rfl dX10_counts_50 (fun rr14_ => ?_)
                  refine j_iload_n E 52 rfl dX10_counts_51 rfl (lv_at hl 2 rfl) ?_
                  refine j_icmp_eq E 55 58 rfl rr14_ r_v_quarter dX10_counts_52 (by decide) (fun cc15_ => ?_) (fun cc15_ => ?_)
                  · have hs_ := hp3 (24 * gp + v_x) (by omega)
                    refine j_aload_n E 59 rfl dX10_counts_58 rfl (lv_at hl 0 rfl) ?_
                    refine m_ag_20 E hK hw 62 rfl dX10_counts_59 ?_
                    refine j_bipush E 64 rfl dX10_counts_62 (by decide) ?_
                    refine j_iload_n E 65 rfl dX10_counts_64 rfl (lv_at hl 3 rfl) ?_
                    refine j_imul E 66 rfl dX10_counts_65 ?_
                    refine j_iload_n E 67 rfl dX10_counts_66 rfl (lv_at hl 1 rfl) ?_
                    refine j_iadd E 68 rfl dX10_counts_67 ?_
                    refine m_ld_20 E hK hw (f_0 20 ((24 * gp) + v_x)) rfl (by omega) 69 rfl dX10_counts_68 (fun rr16_ => ?_)
                    refine j_istore E 71 rfl [(4, .int (J (f_0 20 ((24 * gp) + v_x)))), (0, .ref (q 0)), (1, .int (J v_x)), (2, .int (J v_quarter)), (3, .int (J gp))] dX10_counts_69 hl (by decide) rfl (fun ls hl => ?_)
                    refine j_aload_n E 72 rfl dX10_counts_71 rfl (lv_at hl 1 rfl) ?_
                    refine m_ag_57 E hK hw 75 rfl dX10_counts_72 ?_
                    refine j_iload E 77 rfl dX10_counts_75 (lv_at hl 0 rfl) ?_
                    refine j_aload_n E 78 rfl dX10_counts_77 rfl (lv_at hl 1 rfl) ?_
                    refine m_ag_57 E hK hw 81 rfl dX10_counts_78 ?_
                    refine j_iload E 83 rfl dX10_counts_81 (lv_at hl 0 rfl) ?_
                    refine m_ld_57 E hK hw (y57_c23 (f_0 20 ((24 * gp) + v_x))) rfl (by omega) 84 rfl dX10_counts_83 (fun rr17_ => ?_)
                    have hv_ := iv23.2.2.1 (f_0 20 ((24 * gp) + v_x)) (by omega) (by omega)
                    refine j_iconst E 85 rfl dX10_counts_84 ?_
                    refine j_iadd E 86 rfl dX10_counts_85 ?_
                    refine m_st_57 E hK hw (by omega) (rr (by omega)) 87 rfl dX10_counts_86 (fun H locs hw => ?_)
                    have hw : WM D cy q (n_0) (upF f_0 57 (upA (y57_c23) (f_0 20 ((24 * gp) + v_x)) ((y57_c23 (f_0 20 ((24 * gp) + v_x))) + 1))) A0 H0 H locs := hw
                    refine j_iinc E 90 rfl [(3, .int (J (gp + 1))), (4, .int (J (f_0 20 ((24 * gp) + v_x)))), (0, .ref (q 0)), (1, .int (J v_x)), (2, .int (J v_quarter))] dX10_counts_87 hl (kk := 4) rfl (by decide) rfl (fun ls hl => ?_)
                    refine j_goto E 23 dX10_counts_90 (by decide) ?_
                    exact ih23 (gp + 1) (upA (y57_c23) (f_0 20 ((24 * gp) + v_x)) ((y57_c23 (f_0 20 ((24 * gp) + v_x))) + 1)) H locs ls (rr (by omega)) (⟨by omega, by omega, by first | exact Hv_step iv23.2.2.1 (by omega) (by omega) | exact Hv_mono iv23.2.2.1 (by omega), by omega, by first | exact Hc_up iv23.2.2.2.2 (by omega) ⟨⟨by omega, by omega⟩, by omega⟩ (upA_same _ _ _) (fun w_ _ _ h_ => upA_ne h_) | exact Hc_no iv23.2.2.2.2 (by omega) (fun (h_ : (¬ (f_0 56 gp) = 0 ∧ 0 < (f_0 19 (24 * gp + v_x))) ∧ (v_quarter = -1 ∨ (f_0 3 gp) = v_quarter)) => by omega)⟩) (by omega) hw (lv_sub hl [2, 3, 4, 0] rfl)
                  · refine j_goto E 87 dX10_counts_55 (by decide) ?_
                    refine j_iinc E 90 rfl [(3, .int (J (gp + 1))), (0, .ref (q 0)), (1, .int (J v_x)), (2, .int (J v_quarter))] dX10_counts_87 hl (kk := 3) rfl (by decide) rfl (fun ls hl => ?_)
                    refine j_goto E 23 dX10_counts_90 (by decide) ?_
                    exact ih23 (gp + 1) y57_c23 H locs ls (rr (by omega)) (⟨by omega, by omega, by first | exact Hv_step iv23.2.2.1 (by omega) (by omega) | exact Hv_mono iv23.2.2.1 (by omega), by omega, by first | exact Hc_up iv23.2.2.2.2 (by omega) ⟨⟨by omega, by omega⟩, by omega⟩ (upA_same _ _ _) (fun w_ _ _ h_ => upA_ne h_) | exact Hc_no iv23.2.2.2.2 (by omega) (fun (h_ : (¬ (f_0 56 gp) = 0 ∧ 0 < (f_0 19 (24 * gp + v_x))) ∧ (v_quarter = -1 ∨ (f_0 3 gp) = v_quarter)) => by omega)⟩) (by omega) hw (lv_sub hl [1, 2, 3, 0] rfl)
              · subst ee8_
                refine j_if_eq E 40 87 rfl (rr (by decide)) dX10_counts_37 (by decide) (fun _ => ?_) (fun cc19_ => absurd cc19_ (by decide))
                refine j_iinc E 90 rfl [(3, .int (J (gp + 1))), (0, .ref (q 0)), (1, .int (J v_x)), (2, .int (J v_quarter))] dX10_counts_87 hl (kk := 3) rfl (by decide) rfl (fun ls hl => ?_)
                refine j_goto E 23 dX10_counts_90 (by decide) ?_
                exact ih23 (gp + 1) y57_c23 H locs ls (rr (by omega)) (⟨by omega, by omega, by first | exact Hv_step iv23.2.2.1 (by omega) (by omega) | exact Hv_mono iv23.2.2.1 (by omega), by omega, by first | exact Hc_up iv23.2.2.2.2 (by omega) ⟨⟨by omega, by omega⟩, by omega⟩ (upA_same _ _ _) (fun w_ _ _ h_ => upA_ne h_) | exact Hc_no iv23.2.2.2.2 (by omega) (fun (h_ : (¬ (f_0 56 gp) = 0 ∧ 0 < (f_0 19 (24 * gp + v_x))) ∧ (v_quarter = -1 ∨ (f_0 3 gp) = v_quarter)) => by omega)⟩) (by omega) hw (lv_sub hl [1, 2, 3, 0] rfl)
        exact L23_4 _ 0 y57_c2 H locs ls (rr (by decide)) (⟨by omega, by omega, Hv_zero (fun j h1 h2 => iv2.2.2 j h1 (by omega)), by omega, Hc_0 (fun j h1 h2 => iv2.2.2 j h1 (by omega))⟩) (mk_lt _) hw (lv_sub hl [1, 2, 3, 0] rfl)
      · refine j_aload_n E 9 rfl dX10_counts_8 rfl (lv_at hl 0 rfl) ?_
        refine m_ag_57 E hK hw 12 rfl dX10_counts_9 ?_
        refine j_iload_n E 13 rfl dX10_counts_12 rfl (lv_at hl 3 rfl) ?_
        refine j_iconst E 14 rfl dX10_counts_13 ?_
        refine m_st_57 E hK hw (by omega) (rr (by decide)) 15 rfl dX10_counts_14 (fun H locs hw => ?_)
        have hw : WM D cy q (n_0) (upF f_0 57 (upA (y57_c2) gi 0)) A0 H0 H locs := hw
        refine j_iinc E 18 rfl [(3, .int (J (gi + 1))), (0, .ref (q 0)), (1, .int (J v_x)), (2, .int (J v_quarter))] dX10_counts_15 hl (kk := 3) rfl (by decide) rfl (fun ls hl => ?_)
        refine j_goto E 2 dX10_counts_18 (by decide) ?_
        exact ih2 (gi + 1) (upA (y57_c2) gi 0) H locs ls (rr (by omega)) (⟨by omega, by omega, z0_step iv2.2.2⟩) (by omega) hw (lv_sub hl [1, 2, 3, 0] rfl)
  exact L2_1 _ 0 (f_0 57) H locs ls (rr (by decide)) (⟨by omega, by omega, fun j h1 h2 => absurd h2 (by omega)⟩) (mk_lt _) hw (lv_sub hl [1, 2, 3, 0] rfl)
set_option maxHeartbeats 4000000 in
set_option maxRecDepth 100000 in
theorem c_X10_standing (l : Launch) (D : va_G) (cy : Nat → ClassId) (q : Nat → Nat) (n_0 : Nat → Int) (f_0 : Nat → Int → Int) (v_x : Int) (r_v_x : inR v_x) (hp0 : 0 ≤ (n_0 2) ∧ (n_0 2) ≤ 24) (hp1 : 0 ≤ v_x ∧ v_x < 24) (hp2 : 1 ≤ (n_0 29) ∧ (n_0 29) ≤ 32) (hp3 : Str_ (f_0 19) (f_0 20) (n_0 29)) (hp4 : -1 ≤ (n_0 10) ∧ (n_0 10) < 24) (hp5 : (∀ p_, 0 ≤ p_ → p_ < 24 → ¬ (f_0 56 p_) = 0 → p_ < (n_0 2))) (hp6 : (∃ p_, 0 ≤ p_ ∧ p_ < (n_0 2) ∧ ¬ (f_0 56 p_) = 0 ∧ 0 < (f_0 19 (24 * p_ + v_x)))) (hp7 : Qua_ (f_0 3)) (hp8 : 0 ≤ (n_0 11) ∧ (n_0 11) ≤ 2) : MC l D cy q yX10_standing cX10_standing 5 (some .int) 3 [.int (J v_x)] n_0 f_0 (PI (fun (z_0 : Int) (n_2 : Nat → Int) (f_2 : Nat → Int → Int) => ∃ (y57_2 : Int → Int) (y58_2 : Int → Int) , n_2 = n_0 ∧ f_2 = upF (upF f_0 57 y57_2) 58 y58_2 ∧ ((0 ≤ z_0 ∧ z_0 < (n_0 29)) ∧ Sw_ ((n_0 2)).toNat (fun p_ => ¬ (f_0 56 p_) = 0 ∧ 0 < (f_0 19 (24 * p_ + v_x))) (fun p_ => (f_0 20 (24 * p_ + v_x))) (f_0 3) (n_0 11) (spk_ (0 ≤ (n_0 10) ∧ (n_0 10) < (n_0 2) ∧ ¬ (f_0 56 ((n_0 10))) = 0 ∧ 0 < (f_0 19 (24 * (n_0 10) + v_x))) ((f_0 20 (24 * (n_0 10) + v_x)))) z_0))) := by
  refine MC.ofi rfl (Nat.le_of_ble_eq_true rfl) ?_
  intro p e s m below meth c ls ar QW A0 H0 H locs E hK hA hw hl hret
  have hl : lv_has ls 5 [(0, .ref (q 0)), (1, .int (J v_x))] := hl
  obtain ⟨pw_, pw0_, pw1_, pw2_, pw3_⟩ := hp6
  have pw4_ := hp3 _ pw3_
  refine j_aload_n E 1 rfl dX10_standing_0 rfl (lv_at hl 0 rfl) ?_
  refine j_iload_n E 2 rfl dX10_standing_1 rfl (lv_at hl 1 rfl) ?_
  refine m_callp (po := fun z_0 => (z_0 = -1 ∨ (0 < (f_0 19 (24 * (n_0 10) + v_x)) ∧ z_0 = (f_0 20 (24 * (n_0 10) + v_x)))) ∧ z_0 = spk_ (0 ≤ (n_0 10) ∧ (n_0 10) < (n_0 2) ∧ ¬ (f_0 56 ((n_0 10))) = 0 ∧ 0 < (f_0 19 (24 * (n_0 10) + v_x))) ((f_0 20 (24 * (n_0 10) + v_x)))) E (c_X10_speakersOf l D cy q (n_0) (f_0) v_x  r_v_x (show -1 ≤ (n_0 10) ∧ (n_0 10) < 24 from by omega) (show 0 ≤ v_x ∧ v_x < 24 from by omega) (show (∀ p_, 0 ≤ p_ → p_ < 24 → ¬ (f_0 56 p_) = 0 → p_ < (n_0 2)) from hp5)) rfl mt_X10_speakersOf ml_X10_340 hK hw hA ⟨Nat.le_of_ble_eq_true rfl, Nat.le_of_ble_eq_true rfl⟩ (As := [.int (J v_x)]) (rest := []) rfl rfl hl.1 (Nat.le_of_ble_eq_true rfl) 5 rfl dX10_standing_2 (fun zz1_ H locs rr1_ hq1_ hw => ?_)
  have hh1_ : (zz1_ = -1 ∨ (0 < (f_0 19 (24 * (n_0 10) + v_x)) ∧ zz1_ = (f_0 20 (24 * (n_0 10) + v_x)))) ∧ zz1_ = spk_ (0 ≤ (n_0 10) ∧ (n_0 10) < (n_0 2) ∧ ¬ (f_0 56 ((n_0 10))) = 0 ∧ 0 < (f_0 19 (24 * (n_0 10) + v_x))) ((f_0 20 (24 * (n_0 10) + v_x))) := hq1_
  clear hq1_
  have ow_ : zz1_ = -1 ∨ (0 ≤ zz1_ ∧ zz1_ < (n_0 29)) := hh1_.1.elim Or.inl (fun h => Or.inr (by have h2 := hp3 _ h.1; rw [← h.2] at h2; exact h2))
  have es_ := hh1_.2
  refine j_istore_n E 6 rfl [(2, .int (J zz1_)), (0, .ref (q 0)), (1, .int (J v_x))] dX10_standing_5 rfl hl (by decide) rfl (fun ls hl => ?_)
  refine j_aload_n E 7 rfl dX10_standing_6 rfl (lv_at hl 1 rfl) ?_
  refine m_get_11 E hK hw (n_0 11) rfl 10 rfl dX10_standing_7 (fun rr2_ => ?_)
  refine j_if_ne E 13 20 rfl rr2_ dX10_standing_10 (by decide) (fun cc3_ => ?_) (fun cc3_ => ?_)
  · have L135_4 : ∀ (y57_c135 : Int → Int) (y58_c135 : Int → Int) (H : Heap) (locs : List Loc) (ls : Array Slot), (Hv_ (y57_c135) (n_0 29) 24 ∧ Hs_ ((n_0 2)).toNat (fun p_ => ¬ (f_0 56 p_) = 0 ∧ 0 < (f_0 19 (24 * p_ + v_x))) (fun p_ => (f_0 20 (24 * p_ + v_x))) (f_0 3) (n_0 11) (y57_c135)) → WM D cy q (n_0) (upF (upF f_0 57 y57_c135) 58 y58_c135) A0 H0 H locs → lv_has ls 5 [(0, .ref (q 0)), (1, .int (J v_x)), (2, .int (J zz1_))] → W p l e (rmd 3 0 0) s m ar below meth c H locs 0 0 QW (F0 m 135 ls []) := by
      intro y57_c135 y58_c135 H locs ls iv135 hw hl
      refine j_aload_n E 136 rfl dX10_standing_135 rfl (lv_at hl 0 rfl) ?_
      refine m_callp (po := fun z_0 => 0 ≤ z_0 ∧ z_0 < 32 ∧ (z_0 = 0 ∨ (y57_c135 0) < (y57_c135 z_0)) ∧ gr_ (y57_c135) z_0) E (c_X10_greatest l D cy q (n_0) (upF (upF f_0 57 y57_c135) 58 y58_c135)    ) rfl mt_X10_greatest ml_X10_346 hK hw hA ⟨Nat.le_of_ble_eq_true rfl, Nat.le_of_ble_eq_true rfl⟩ (As := []) (rest := []) rfl rfl hl.1 (Nat.le_of_ble_eq_true rfl) 139 rfl dX10_standing_136 (fun zz6_ H locs rr6_ hq6_ hw => ?_)
      have hh6_ : 0 ≤ zz6_ ∧ zz6_ < 32 ∧ (zz6_ = 0 ∨ (y57_c135 0) < (y57_c135 zz6_)) ∧ gr_ (y57_c135) zz6_ := hq6_
      clear hq6_
      have hgr_ : 0 ≤ zz6_ ∧ zz6_ < 32 := ⟨hh6_.1, hh6_.2.1⟩
      have hG_ := hh6_.2.2.2
      have hb_ := iv135.1 zz6_ hgr_.1 hgr_.2
      have h0_ := iv135.1 0 (by omega) (by omega)
      have hpo_ := Hs_pos iv135.2 hG_ pw0_ (by omega) ⟨pw2_, pw3_⟩ ⟨pw4_.1, Int.lt_of_lt_of_le pw4_.2 hp2.2⟩ (hp7 pw_)
      refine j_istore_n E 140 rfl [(3, .int (J zz6_)), (0, .ref (q 0)), (1, .int (J v_x)), (2, .int (J zz1_))] dX10_standing_139 rfl hl (by decide) rfl (fun ls hl => ?_)
      refine j_iload_n E 141 rfl dX10_standing_140 rfl (lv_at hl 3 rfl) ?_
      refine j_iconst E 142 rfl dX10_standing_141 ?_
      refine j_icmp_eq E 145 164 rfl rr1_ (rr (by decide)) dX10_standing_142 (by decide) (fun cc7_ => ?_) (fun cc7_ => ?_)
      · refine j_iload_n E 165 rfl dX10_standing_164 rfl (lv_at hl 0 rfl) ?_
        exact hret 165 zz6_ (n_0) (upF (upF f_0 57 y57_c135) 58 y58_c135) _ _ ls hw rr6_ ⟨y57_c135, y58_c135, rfl, rfl, ⟨by omega, by rw [← es_]; exact Sw_of iv135.2 (by omega) (Or.inr ⟨_, hG_, hpo_, by first | exact Or.inl ⟨⟨by omega, by omega, by omega⟩, rfl⟩ | exact Or.inr ⟨by omega, rfl⟩⟩)⟩⟩ dX10_standing_165
      · refine j_aload_n E 146 rfl dX10_standing_145 rfl (lv_at hl 1 rfl) ?_
        refine m_ag_57 E hK hw 149 rfl dX10_standing_146 ?_
        refine j_iload_n E 150 rfl dX10_standing_149 rfl (lv_at hl 3 rfl) ?_
        refine m_ld_57 E hK hw (y57_c135 zz1_) rfl (by omega) 151 rfl dX10_standing_150 (fun rr8_ => ?_)
        refine j_aload_n E 152 rfl dX10_standing_151 rfl (lv_at hl 1 rfl) ?_
        refine m_ag_57 E hK hw 155 rfl dX10_standing_152 ?_
        refine j_iload_n E 156 rfl dX10_standing_155 rfl (lv_at hl 0 rfl) ?_
        refine m_ld_57 E hK hw (y57_c135 zz6_) rfl (by omega) 157 rfl dX10_standing_156 (fun rr9_ => ?_)
        refine j_icmp_ne E 160 164 rfl rr8_ rr9_ dX10_standing_157 (by decide) (fun cc10_ => ?_) (fun cc10_ => ?_)
        · refine j_iload_n E 165 rfl dX10_standing_164 rfl (lv_at hl 0 rfl) ?_
          exact hret 165 zz6_ (n_0) (upF (upF f_0 57 y57_c135) 58 y58_c135) _ _ ls hw rr6_ ⟨y57_c135, y58_c135, rfl, rfl, ⟨by omega, by rw [← es_]; exact Sw_of iv135.2 (by omega) (Or.inr ⟨_, hG_, hpo_, by first | exact Or.inl ⟨⟨by omega, by omega, by omega⟩, rfl⟩ | exact Or.inr ⟨by omega, rfl⟩⟩)⟩⟩ dX10_standing_165
        · refine j_iload_n E 161 rfl dX10_standing_160 rfl (lv_at hl 3 rfl) ?_
          refine j_goto E 165 dX10_standing_161 (by decide) ?_
          exact hret 165 zz1_ (n_0) (upF (upF f_0 57 y57_c135) 58 y58_c135) _ _ ls hw rr1_ ⟨y57_c135, y58_c135, rfl, rfl, ⟨by omega, by rw [← es_]; exact Sw_of iv135.2 (by omega) (Or.inr ⟨_, hG_, hpo_, by first | exact Or.inl ⟨⟨by omega, by omega, by omega⟩, rfl⟩ | exact Or.inr ⟨by omega, rfl⟩⟩)⟩⟩ dX10_standing_165
    refine j_aload_n E 21 rfl dX10_standing_20 rfl (lv_at hl 1 rfl) ?_
    refine m_get_11 E hK hw (n_0 11) rfl 24 rfl dX10_standing_21 (fun _ => ?_)
    refine j_iconst E 25 rfl dX10_standing_24 ?_
    refine j_icmp_ge E 28 37 rfl rr2_ (rr (by decide)) dX10_standing_25 (by decide) (fun cc11_ => ?_) (fun cc11_ => ?_)
    · refine j_iconst E 38 rfl dX10_standing_37 ?_
      refine j_istore_n E 39 rfl [(3, .int (J 0)), (2, .int (J zz1_)), (0, .ref (q 0)), (1, .int (J v_x))] dX10_standing_38 rfl hl (by decide) rfl (fun ls hl => ?_)
      have L39_12 : ∀ (k39 : Nat) (gi : Int) (y58_c39 : Int → Int) (H : Heap) (locs : List Loc) (ls : Array Slot), inR gi → (0 ≤ gi ∧ gi ≤ 32 ∧ ∀ j, 0 ≤ j → j < gi → (y58_c39 j) = 0) → (32 - gi) < (k39 : Int) → WM D cy q (n_0) (upF f_0 58 y58_c39) A0 H0 H locs → lv_has ls 5 [(0, .ref (q 0)), (1, .int (J v_x)), (2, .int (J zz1_)), (3, .int (J gi))] → W p l e (rmd 3 0 0) s m ar below meth c H locs 0 0 QW (F0 m 39 ls []) := by
        intro k39
        induction k39 with
        | zero =>
          intro gi y58_c39 H locs ls r_gi iv39 ms39 hw hl
          exfalso; omega
        | succ k39 ih39 =>
          intro gi y58_c39 H locs ls r_gi iv39 ms39 hw hl
          refine j_iload_n E 40 rfl dX10_standing_39 rfl (lv_at hl 3 rfl) ?_
          refine j_bipush E 42 rfl dX10_standing_40 (by decide) ?_
          refine j_icmp_ge E 45 58 rfl r_gi (rr (by decide)) dX10_standing_42 (by decide) (fun cc14_ => ?_) (fun cc14_ => ?_)
          · refine j_iconst E 59 rfl dX10_standing_58 ?_
            refine j_istore_n E 60 rfl [(3, .int (J 0)), (0, .ref (q 0)), (1, .int (J v_x)), (2, .int (J zz1_))] dX10_standing_59 rfl hl (by decide) rfl (fun ls hl => ?_)
            have L60_15 : ∀ (k60 : Nat) (gq : Int) (y57_c60 : Int → Int) (y58_c60 : Int → Int) (H : Heap) (locs : List Loc) (ls : Array Slot), inR gq → (0 ≤ gq ∧ gq ≤ 4 ∧ Hv_ (y58_c60) (n_0 29) gq ∧ Vo_ ((n_0 2)).toNat (fun p_ => ¬ (f_0 56 p_) = 0 ∧ 0 < (f_0 19 (24 * p_ + v_x))) (fun p_ => (f_0 20 (24 * p_ + v_x))) (f_0 3) (y58_c60) gq) → (4 - gq) < (k60 : Int) → WM D cy q (n_0) (upF (upF f_0 57 y57_c60) 58 y58_c60) A0 H0 H locs → lv_has ls 5 [(0, .ref (q 0)), (1, .int (J v_x)), (2, .int (J zz1_)), (3, .int (J gq))] → W p l e (rmd 3 0 0) s m ar below meth c H locs 0 0 QW (F0 m 60 ls []) := by
              intro k60
              induction k60 with
              | zero =>
                intro gq y57_c60 y58_c60 H locs ls r_gq iv60 ms60 hw hl
                exfalso; omega
              | succ k60 ih60 =>
                intro gq y57_c60 y58_c60 H locs ls r_gq iv60 ms60 hw hl
                refine j_iload_n E 61 rfl dX10_standing_60 rfl (lv_at hl 3 rfl) ?_
                refine j_iconst E 62 rfl dX10_standing_61 ?_
                refine j_icmp_ge E 65 109 rfl r_gq (rr (by decide)) dX10_standing_62 (by decide) (fun cc17_ => ?_) (fun cc17_ => ?_)
                · refine j_iconst E 110 rfl dX10_standing_109 ?_
                  refine j_istore_n E 111 rfl [(3, .int (J 0)), (0, .ref (q 0)), (1, .int (J v_x)), (2, .int (J zz1_))] dX10_standing_110 rfl hl (by decide) rfl (fun ls hl => ?_)
                  have L111_18 : ∀ (k111 : Nat) (gk : Int) (y57_c111 : Int → Int) (H : Heap) (locs : List Loc) (ls : Array Slot), inR gk → (0 ≤ gk ∧ gk ≤ 32 ∧ ∀ j, 0 ≤ j → j < gk → (y57_c111 j) = (y58_c60 j)) → (32 - gk) < (k111 : Int) → WM D cy q (n_0) (upF (upF f_0 57 y57_c111) 58 y58_c60) A0 H0 H locs → lv_has ls 5 [(0, .ref (q 0)), (1, .int (J v_x)), (2, .int (J zz1_)), (3, .int (J gk))] → W p l e (rmd 3 0 0) s m ar below meth c H locs 0 0 QW (F0 m 111 ls []) := by
                    intro k111
                    induction k111 with
                    | zero =>
                      intro gk y57_c111 H locs ls r_gk iv111 ms111 hw hl
                      exfalso; omega
                    | succ k111 ih111 =>
                      intro gk y57_c111 H locs ls r_gk iv111 ms111 hw hl
                      refine j_iload_n E 112 rfl dX10_standing_111 rfl (lv_at hl 3 rfl) ?_
                      refine j_bipush E 114 rfl dX10_standing_112 (by decide) ?_
                      refine j_icmp_ge E 117 135 rfl r_gk (rr (by decide)) dX10_standing_114 (by decide) (fun cc20_ => ?_) (fun cc20_ => ?_)
                      · exact L135_4  y57_c111 y58_c60 H locs ls  (by first | exact ⟨hc_.1, Or.inl ⟨by omega, Hc_q1 hc_.2 rfl (by omega)⟩⟩ | exact ⟨Hv_mono (Hv_copy (fun j h1 h2 => iv111.2.2 j h1 (by omega)) iv60.2.2.1) (by omega), Hs_mv (Or.inr ⟨by omega, by rw [show (4 : Int) = gq by omega]; exact iv60.2.2.2⟩) (fun w_ h1_ h2_ => iv111.2.2 w_ h1_ (by omega))⟩) hw (lv_sub hl [0, 1, 2] rfl)
                      · refine j_aload_n E 118 rfl dX10_standing_117 rfl (lv_at hl 0 rfl) ?_
                        refine m_ag_57 E hK hw 121 rfl dX10_standing_118 ?_
                        refine j_iload_n E 122 rfl dX10_standing_121 rfl (lv_at hl 3 rfl) ?_
                        refine j_aload_n E 123 rfl dX10_standing_122 rfl (lv_at hl 0 rfl) ?_
                        refine m_ag_58 E hK hw 126 rfl dX10_standing_123 ?_
                        refine j_iload_n E 127 rfl dX10_standing_126 rfl (lv_at hl 3 rfl) ?_
                        refine m_ld_58 E hK hw (y58_c60 gk) rfl (by omega) 128 rfl dX10_standing_127 (fun rr21_ => ?_)
                        refine m_st_57 E hK hw (by omega) rr21_ 129 rfl dX10_standing_128 (fun H locs hw => ?_)
                        have hw : WM D cy q (n_0) (upF (upF f_0 57 (upA (y57_c111) gk (y58_c60 gk))) 58 y58_c60) A0 H0 H locs := hw
                        refine j_iinc E 132 rfl [(3, .int (J (gk + 1))), (0, .ref (q 0)), (1, .int (J v_x)), (2, .int (J zz1_))] dX10_standing_129 hl (kk := 3) rfl (by decide) rfl (fun ls hl => ?_)
                        refine j_goto E 111 dX10_standing_132 (by decide) ?_
                        exact ih111 (gk + 1) (upA (y57_c111) gk (y58_c60 gk)) H locs ls (rr (by omega)) (⟨by omega, by omega, cp_step iv111.2.2⟩) (by omega) hw (lv_sub hl [1, 2, 3, 0] rfl)
                  exact L111_18 _ 0 y57_c60 H locs ls (rr (by decide)) (⟨by omega, by omega, fun j h1 h2 => absurd h2 (by omega)⟩) (mk_lt _) hw (lv_sub hl [1, 2, 3, 0] rfl)
                · refine j_aload_n E 66 rfl dX10_standing_65 rfl (lv_at hl 0 rfl) ?_
                  refine j_iload_n E 67 rfl dX10_standing_66 rfl (lv_at hl 1 rfl) ?_
                  refine j_iload_n E 68 rfl dX10_standing_67 rfl (lv_at hl 3 rfl) ?_
                  refine m_callv E (c_X10_counts l D cy q (n_0) (upF (upF f_0 57 y57_c60) 58 y58_c60) v_x gq  r_v_x r_gq (show 0 ≤ (n_0 2) ∧ (n_0 2) ≤ 24 from by omega) (show 0 ≤ v_x ∧ v_x < 24 from by omega) (show 0 ≤ (n_0 29) ∧ (n_0 29) ≤ 32 from by omega) (show Str_ (f_0 19) (f_0 20) (n_0 29) from hp3)) rfl mt_X10_counts ml_X10_343 hK hw hA ⟨Nat.le_of_ble_eq_true rfl, Nat.le_of_ble_eq_true rfl⟩ (As := [.int (J v_x), .int (J gq)]) (rest := []) rfl rfl hl.1 (Nat.le_of_ble_eq_true rfl) 71 rfl dX10_standing_68 (fun n_23 f_23 H locs hq23_ hw => ?_)
                  obtain ⟨y57_23, en23_, ef23_, hq23_⟩ := hq23_
                  rw [en23_, ef23_] at hw; clear en23_ ef23_
                  have hw : WM D cy q (n_0) (upF (upF f_0 57 y57_23) 58 y58_c60) A0 H0 H locs := hw
                  have hh23_ : Hv_ (y57_23) (n_0 29) 24 ∧ Hc_ (y57_23) (fun p_ => (¬ (f_0 56 p_) = 0 ∧ 0 < (f_0 19 (24 * p_ + v_x))) ∧ (gq = -1 ∨ (f_0 3 p_) = gq)) (fun p_ => (f_0 20 (24 * p_ + v_x))) (n_0 2) := hq23_
                  clear hq23_
                  have hc_ := hh23_
                  clear hh23_
                  refine j_aload_n E 72 rfl dX10_standing_71 rfl (lv_at hl 0 rfl) ?_
                  refine m_callp (po := fun z_0 => 0 ≤ z_0 ∧ z_0 < 32 ∧ (z_0 = 0 ∨ (y57_23 0) < (y57_23 z_0)) ∧ gr_ (y57_23) z_0) E (c_X10_greatest l D cy q (n_0) (upF (upF f_0 57 y57_23) 58 y58_c60)    ) rfl mt_X10_greatest ml_X10_346 hK hw hA ⟨Nat.le_of_ble_eq_true rfl, Nat.le_of_ble_eq_true rfl⟩ (As := []) (rest := []) rfl rfl hl.1 (Nat.le_of_ble_eq_true rfl) 75 rfl dX10_standing_72 (fun zz24_ H locs rr24_ hq24_ hw => ?_)
                  have hh24_ : 0 ≤ zz24_ ∧ zz24_ < 32 ∧ (zz24_ = 0 ∨ (y57_23 0) < (y57_23 zz24_)) ∧ gr_ (y57_23) zz24_ := hq24_
                  clear hq24_
                  have hg_ := hh24_.2.2.2
                  refine j_istore E 77 rfl [(4, .int (J zz24_)), (0, .ref (q 0)), (1, .int (J v_x)), (2, .int (J zz1_)), (3, .int (J gq))] dX10_standing_75 hl (by decide) rfl (fun ls hl => ?_)
                  refine j_aload_n E 78 rfl dX10_standing_77 rfl (lv_at hl 1 rfl) ?_
                  refine m_ag_57 E hK hw 81 rfl dX10_standing_78 ?_
                  refine j_iload E 83 rfl dX10_standing_81 (lv_at hl 0 rfl) ?_
                  refine m_ld_57 E hK hw (y57_23 zz24_) rfl (by omega) 84 rfl dX10_standing_83 (fun rr25_ => ?_)
                  have hb_ := hc_.1 zz24_ (by omega) (by omega)
                  refine j_if_le E 87 103 rfl rr25_ dX10_standing_84 (by decide) (fun cc26_ => ?_) (fun cc26_ => ?_)
                  · refine j_iinc E 106 rfl [(3, .int (J (gq + 1))), (4, .int (J zz24_)), (0, .ref (q 0)), (1, .int (J v_x)), (2, .int (J zz1_))] dX10_standing_103 hl (kk := 4) rfl (by decide) rfl (fun ls hl => ?_)
                    refine j_goto E 60 dX10_standing_106 (by decide) ?_
                    exact ih60 (gq + 1) y57_23 y58_c60 H locs ls (rr (by omega)) (⟨by omega, by omega, by first | exact Hv_step iv60.2.2.1 (by omega) (by omega) | exact Hv_mono iv60.2.2.1 (by omega), by first | exact Vo_up iv60.2.2.2 (by omega) (Hc_q2 hc_.2 (by omega) (by omega)) hg_ (by omega) (upA_same _ _ _) (fun w_ _ _ h_ => upA_ne h_) | exact Vo_no iv60.2.2.2 (by omega) (Hc_q2 hc_.2 (by omega) (by omega)) (fun w_ h1_ h2_ => by have r_ := (hg_.2 w_ h1_ h2_).1; omega) (fun p_ h1_ h2_ h3_ => ⟨(hp3 _ h3_.2).1, Int.lt_of_lt_of_le (hp3 _ h3_.2).2 hp2.2⟩)⟩) (by omega) hw (lv_sub hl [2, 3, 4, 0] rfl)
                  · refine j_aload_n E 88 rfl dX10_standing_87 rfl (lv_at hl 1 rfl) ?_
                    refine m_ag_58 E hK hw 91 rfl dX10_standing_88 ?_
                    refine j_iload E 93 rfl dX10_standing_91 (lv_at hl 0 rfl) ?_
                    refine j_aload_n E 94 rfl dX10_standing_93 rfl (lv_at hl 1 rfl) ?_
                    refine m_ag_58 E hK hw 97 rfl dX10_standing_94 ?_
                    refine j_iload E 99 rfl dX10_standing_97 (lv_at hl 0 rfl) ?_
                    refine m_ld_58 E hK hw (y58_c60 zz24_) rfl (by omega) 100 rfl dX10_standing_99 (fun rr27_ => ?_)
                    have hd_ := iv60.2.2.1 zz24_ (by omega) (by omega)
                    refine j_iconst E 101 rfl dX10_standing_100 ?_
                    refine j_iadd E 102 rfl dX10_standing_101 ?_
                    refine m_st_58 E hK hw (by omega) (rr (by omega)) 103 rfl dX10_standing_102 (fun H locs hw => ?_)
                    have hw : WM D cy q (n_0) (upF (upF f_0 57 y57_23) 58 (upA (y58_c60) zz24_ ((y58_c60 zz24_) + 1))) A0 H0 H locs := hw
                    refine j_iinc E 106 rfl [(3, .int (J (gq + 1))), (4, .int (J zz24_)), (0, .ref (q 0)), (1, .int (J v_x)), (2, .int (J zz1_))] dX10_standing_103 hl (kk := 4) rfl (by decide) rfl (fun ls hl => ?_)
                    refine j_goto E 60 dX10_standing_106 (by decide) ?_
                    exact ih60 (gq + 1) y57_23 (upA (y58_c60) zz24_ ((y58_c60 zz24_) + 1)) H locs ls (rr (by omega)) (⟨by omega, by omega, by first | exact Hv_step iv60.2.2.1 (by omega) (by omega) | exact Hv_mono iv60.2.2.1 (by omega), by first | exact Vo_up iv60.2.2.2 (by omega) (Hc_q2 hc_.2 (by omega) (by omega)) hg_ (by omega) (upA_same _ _ _) (fun w_ _ _ h_ => upA_ne h_) | exact Vo_no iv60.2.2.2 (by omega) (Hc_q2 hc_.2 (by omega) (by omega)) (fun w_ h1_ h2_ => by have r_ := (hg_.2 w_ h1_ h2_).1; omega) (fun p_ h1_ h2_ h3_ => ⟨(hp3 _ h3_.2).1, Int.lt_of_lt_of_le (hp3 _ h3_.2).2 hp2.2⟩)⟩) (by omega) hw (lv_sub hl [2, 3, 4, 0] rfl)
            exact L60_15 _ 0 (f_0 57) y58_c39 H locs ls (rr (by decide)) (⟨by omega, by omega, Hv_zero (fun j h1 h2 => iv39.2.2 j h1 (by omega)), Vo_0 (fun j h1 h2 => iv39.2.2 j h1 (by omega))⟩) (mk_lt _) hw (lv_sub hl [1, 2, 3, 0] rfl)
          · refine j_aload_n E 46 rfl dX10_standing_45 rfl (lv_at hl 0 rfl) ?_
            refine m_ag_58 E hK hw 49 rfl dX10_standing_46 ?_
            refine j_iload_n E 50 rfl dX10_standing_49 rfl (lv_at hl 3 rfl) ?_
            refine j_iconst E 51 rfl dX10_standing_50 ?_
            refine m_st_58 E hK hw (by omega) (rr (by decide)) 52 rfl dX10_standing_51 (fun H locs hw => ?_)
            have hw : WM D cy q (n_0) (upF f_0 58 (upA (y58_c39) gi 0)) A0 H0 H locs := hw
            refine j_iinc E 55 rfl [(3, .int (J (gi + 1))), (0, .ref (q 0)), (1, .int (J v_x)), (2, .int (J zz1_))] dX10_standing_52 hl (kk := 3) rfl (by decide) rfl (fun ls hl => ?_)
            refine j_goto E 39 dX10_standing_55 (by decide) ?_
            exact ih39 (gi + 1) (upA (y58_c39) gi 0) H locs ls (rr (by omega)) (⟨by omega, by omega, z0_step iv39.2.2⟩) (by omega) hw (lv_sub hl [1, 2, 3, 0] rfl)
      exact L39_12 _ 0 (f_0 58) H locs ls (rr (by decide)) (⟨by omega, by omega, fun j h1 h2 => absurd h2 (by omega)⟩) (mk_lt _) hw (lv_sub hl [2, 3, 1, 0] rfl)
    · refine j_aload_n E 29 rfl dX10_standing_28 rfl (lv_at hl 1 rfl) ?_
      refine j_iload_n E 30 rfl dX10_standing_29 rfl (lv_at hl 2 rfl) ?_
      refine j_iconst E 31 rfl dX10_standing_30 ?_
      refine m_callv E (c_X10_counts l D cy q (n_0) (f_0) v_x ((-1))  r_v_x (rr (by decide)) (show 0 ≤ (n_0 2) ∧ (n_0 2) ≤ 24 from by omega) (show 0 ≤ v_x ∧ v_x < 24 from by omega) (show 0 ≤ (n_0 29) ∧ (n_0 29) ≤ 32 from by omega) (show Str_ (f_0 19) (f_0 20) (n_0 29) from hp3)) rfl mt_X10_counts ml_X10_343 hK hw hA ⟨Nat.le_of_ble_eq_true rfl, Nat.le_of_ble_eq_true rfl⟩ (As := [.int (J v_x), .int (J ((-1)))]) (rest := []) rfl rfl hl.1 (Nat.le_of_ble_eq_true rfl) 34 rfl dX10_standing_31 (fun n_30 f_30 H locs hq30_ hw => ?_)
      obtain ⟨y57_30, en30_, ef30_, hq30_⟩ := hq30_
      rw [en30_, ef30_] at hw; clear en30_ ef30_
      have hw : WM D cy q (n_0) (upF f_0 57 y57_30) A0 H0 H locs := hw
      have hh30_ : Hv_ (y57_30) (n_0 29) 24 ∧ Hc_ (y57_30) (fun p_ => (¬ (f_0 56 p_) = 0 ∧ 0 < (f_0 19 (24 * p_ + v_x))) ∧ ((-1 : Int) = -1 ∨ (f_0 3 p_) = (-1 : Int))) (fun p_ => (f_0 20 (24 * p_ + v_x))) (n_0 2) := hq30_
      clear hq30_
      have hc_ := hh30_
      clear hh30_
      refine j_goto E 135 dX10_standing_34 (by decide) ?_
      exact L135_4  y57_30 (f_0 58) H locs ls  (by first | exact ⟨hc_.1, Or.inl ⟨by omega, Hc_q1 hc_.2 rfl (by omega)⟩⟩ | exact ⟨Hv_mono (Hv_copy (fun j h1 h2 => iv111.2.2 j h1 (by omega)) iv60.2.2.1) (by omega), Hs_mv (Or.inr ⟨by omega, by rw [show (4 : Int) = gq by omega]; exact iv60.2.2.2⟩) (fun w_ h1_ h2_ => iv111.2.2 w_ h1_ (by omega))⟩) hw (lv_sub hl [1, 2, 0] rfl)
  · refine j_iload_n E 14 rfl dX10_standing_13 rfl (lv_at hl 0 rfl) ?_
    refine j_iconst E 15 rfl dX10_standing_14 ?_
    refine j_icmp_eq E 18 20 rfl rr1_ (rr (by decide)) dX10_standing_15 (by decide) (fun cc31_ => ?_) (fun cc31_ => ?_)
    · have L135_32 : ∀ (y57_c135 : Int → Int) (y58_c135 : Int → Int) (H : Heap) (locs : List Loc) (ls : Array Slot), (Hv_ (y57_c135) (n_0 29) 24 ∧ Hs_ ((n_0 2)).toNat (fun p_ => ¬ (f_0 56 p_) = 0 ∧ 0 < (f_0 19 (24 * p_ + v_x))) (fun p_ => (f_0 20 (24 * p_ + v_x))) (f_0 3) (n_0 11) (y57_c135)) → WM D cy q (n_0) (upF (upF f_0 57 y57_c135) 58 y58_c135) A0 H0 H locs → lv_has ls 5 [(0, .ref (q 0)), (1, .int (J v_x)), (2, .int (J zz1_))] → W p l e (rmd 3 0 0) s m ar below meth c H locs 0 0 QW (F0 m 135 ls []) := by
        intro y57_c135 y58_c135 H locs ls iv135 hw hl
        refine j_aload_n E 136 rfl dX10_standing_135 rfl (lv_at hl 0 rfl) ?_
        refine m_callp (po := fun z_0 => 0 ≤ z_0 ∧ z_0 < 32 ∧ (z_0 = 0 ∨ (y57_c135 0) < (y57_c135 z_0)) ∧ gr_ (y57_c135) z_0) E (c_X10_greatest l D cy q (n_0) (upF (upF f_0 57 y57_c135) 58 y58_c135)    ) rfl mt_X10_greatest ml_X10_346 hK hw hA ⟨Nat.le_of_ble_eq_true rfl, Nat.le_of_ble_eq_true rfl⟩ (As := []) (rest := []) rfl rfl hl.1 (Nat.le_of_ble_eq_true rfl) 139 rfl dX10_standing_136 (fun zz34_ H locs rr34_ hq34_ hw => ?_)
        have hh34_ : 0 ≤ zz34_ ∧ zz34_ < 32 ∧ (zz34_ = 0 ∨ (y57_c135 0) < (y57_c135 zz34_)) ∧ gr_ (y57_c135) zz34_ := hq34_
        clear hq34_
        have hgr_ : 0 ≤ zz34_ ∧ zz34_ < 32 := ⟨hh34_.1, hh34_.2.1⟩
        have hG_ := hh34_.2.2.2
        have hb_ := iv135.1 zz34_ hgr_.1 hgr_.2
        have h0_ := iv135.1 0 (by omega) (by omega)
        have hpo_ := Hs_pos iv135.2 hG_ pw0_ (by omega) ⟨pw2_, pw3_⟩ ⟨pw4_.1, Int.lt_of_lt_of_le pw4_.2 hp2.2⟩ (hp7 pw_)
        refine j_istore_n E 140 rfl [(3, .int (J zz34_)), (0, .ref (q 0)), (1, .int (J v_x)), (2, .int (J zz1_))] dX10_standing_139 rfl hl (by decide) rfl (fun ls hl => ?_)
        refine j_iload_n E 141 rfl dX10_standing_140 rfl (lv_at hl 3 rfl) ?_
        refine j_iconst E 142 rfl dX10_standing_141 ?_
        refine j_icmp_eq E 145 164 rfl rr1_ (rr (by decide)) dX10_standing_142 (by decide) (fun cc35_ => ?_) (fun cc35_ => ?_)
        · refine j_iload_n E 165 rfl dX10_standing_164 rfl (lv_at hl 0 rfl) ?_
          exact hret 165 zz34_ (n_0) (upF (upF f_0 57 y57_c135) 58 y58_c135) _ _ ls hw rr34_ ⟨y57_c135, y58_c135, rfl, rfl, ⟨by omega, by rw [← es_]; exact Sw_of iv135.2 (by omega) (Or.inr ⟨_, hG_, hpo_, by first | exact Or.inl ⟨⟨by omega, by omega, by omega⟩, rfl⟩ | exact Or.inr ⟨by omega, rfl⟩⟩)⟩⟩ dX10_standing_165
        · refine j_aload_n E 146 rfl dX10_standing_145 rfl (lv_at hl 1 rfl) ?_
          refine m_ag_57 E hK hw 149 rfl dX10_standing_146 ?_
          refine j_iload_n E 150 rfl dX10_standing_149 rfl (lv_at hl 3 rfl) ?_
          refine m_ld_57 E hK hw (y57_c135 zz1_) rfl (by omega) 151 rfl dX10_standing_150 (fun rr36_ => ?_)
          refine j_aload_n E 152 rfl dX10_standing_151 rfl (lv_at hl 1 rfl) ?_
          refine m_ag_57 E hK hw 155 rfl dX10_standing_152 ?_
          refine j_iload_n E 156 rfl dX10_standing_155 rfl (lv_at hl 0 rfl) ?_
          refine m_ld_57 E hK hw (y57_c135 zz34_) rfl (by omega) 157 rfl dX10_standing_156 (fun rr37_ => ?_)
          refine j_icmp_ne E 160 164 rfl rr36_ rr37_ dX10_standing_157 (by decide) (fun cc38_ => ?_) (fun cc38_ => ?_)
          · refine j_iload_n E 165 rfl dX10_standing_164 rfl (lv_at hl 0 rfl) ?_
            exact hret 165 zz34_ (n_0) (upF (upF f_0 57 y57_c135) 58 y58_c135) _ _ ls hw rr34_ ⟨y57_c135, y58_c135, rfl, rfl, ⟨by omega, by rw [← es_]; exact Sw_of iv135.2 (by omega) (Or.inr ⟨_, hG_, hpo_, by first | exact Or.inl ⟨⟨by omega, by omega, by omega⟩, rfl⟩ | exact Or.inr ⟨by omega, rfl⟩⟩)⟩⟩ dX10_standing_165
          · refine j_iload_n E 161 rfl dX10_standing_160 rfl (lv_at hl 3 rfl) ?_
            refine j_goto E 165 dX10_standing_161 (by decide) ?_
            exact hret 165 zz1_ (n_0) (upF (upF f_0 57 y57_c135) 58 y58_c135) _ _ ls hw rr1_ ⟨y57_c135, y58_c135, rfl, rfl, ⟨by omega, by rw [← es_]; exact Sw_of iv135.2 (by omega) (Or.inr ⟨_, hG_, hpo_, by first | exact Or.inl ⟨⟨by omega, by omega, by omega⟩, rfl⟩ | exact Or.inr ⟨by omega, rfl⟩⟩)⟩⟩ dX10_standing_165
      refine j_aload_n E 21 rfl dX10_standing_20 rfl (lv_at hl 1 rfl) ?_
      refine m_get_11 E hK hw (n_0 11) rfl 24 rfl dX10_standing_21 (fun _ => ?_)
      refine j_iconst E 25 rfl dX10_standing_24 ?_
      refine j_icmp_ge E 28 37 rfl rr2_ (rr (by decide)) dX10_standing_25 (by decide) (fun cc39_ => ?_) (fun cc39_ => ?_)
      · refine j_iconst E 38 rfl dX10_standing_37 ?_
        refine j_istore_n E 39 rfl [(3, .int (J 0)), (2, .int (J zz1_)), (0, .ref (q 0)), (1, .int (J v_x))] dX10_standing_38 rfl hl (by decide) rfl (fun ls hl => ?_)
        have L39_40 : ∀ (k39 : Nat) (gi : Int) (y58_c39 : Int → Int) (H : Heap) (locs : List Loc) (ls : Array Slot), inR gi → (0 ≤ gi ∧ gi ≤ 32 ∧ ∀ j, 0 ≤ j → j < gi → (y58_c39 j) = 0) → (32 - gi) < (k39 : Int) → WM D cy q (n_0) (upF f_0 58 y58_c39) A0 H0 H locs → lv_has ls 5 [(0, .ref (q 0)), (1, .int (J v_x)), (2, .int (J zz1_)), (3, .int (J gi))] → W p l e (rmd 3 0 0) s m ar below meth c H locs 0 0 QW (F0 m 39 ls []) := by
          intro k39
          induction k39 with
          | zero =>
            intro gi y58_c39 H locs ls r_gi iv39 ms39 hw hl
            exfalso; omega
          | succ k39 ih39 =>
            intro gi y58_c39 H locs ls r_gi iv39 ms39 hw hl
            refine j_iload_n E 40 rfl dX10_standing_39 rfl (lv_at hl 3 rfl) ?_
            refine j_bipush E 42 rfl dX10_standing_40 (by decide) ?_
            refine j_icmp_ge E 45 58 rfl r_gi (rr (by decide)) dX10_standing_42 (by decide) (fun cc42_ => ?_) (fun cc42_ => ?_)
            · refine j_iconst E 59 rfl dX10_standing_58 ?_
              refine j_istore_n E 60 rfl [(3, .int (J 0)), (0, .ref (q 0)), (1, .int (J v_x)), (2, .int (J zz1_))] dX10_standing_59 rfl hl (by decide) rfl (fun ls hl => ?_)
              have L60_43 : ∀ (k60 : Nat) (gq : Int) (y57_c60 : Int → Int) (y58_c60 : Int → Int) (H : Heap) (locs : List Loc) (ls : Array Slot), inR gq → (0 ≤ gq ∧ gq ≤ 4 ∧ Hv_ (y58_c60) (n_0 29) gq ∧ Vo_ ((n_0 2)).toNat (fun p_ => ¬ (f_0 56 p_) = 0 ∧ 0 < (f_0 19 (24 * p_ + v_x))) (fun p_ => (f_0 20 (24 * p_ + v_x))) (f_0 3) (y58_c60) gq) → (4 - gq) < (k60 : Int) → WM D cy q (n_0) (upF (upF f_0 57 y57_c60) 58 y58_c60) A0 H0 H locs → lv_has ls 5 [(0, .ref (q 0)), (1, .int (J v_x)), (2, .int (J zz1_)), (3, .int (J gq))] → W p l e (rmd 3 0 0) s m ar below meth c H locs 0 0 QW (F0 m 60 ls []) := by
                intro k60
                induction k60 with
                | zero =>
                  intro gq y57_c60 y58_c60 H locs ls r_gq iv60 ms60 hw hl
                  exfalso; omega
                | succ k60 ih60 =>
                  intro gq y57_c60 y58_c60 H locs ls r_gq iv60 ms60 hw hl
                  refine j_iload_n E 61 rfl dX10_standing_60 rfl (lv_at hl 3 rfl) ?_
                  refine j_iconst E 62 rfl dX10_standing_61 ?_
                  refine j_icmp_ge E 65 109 rfl r_gq (rr (by decide)) dX10_standing_62 (by decide) (fun cc45_ => ?_) (fun cc45_ => ?_)
                  · refine j_iconst E 110 rfl dX10_standing_109 ?_
                    refine j_istore_n E 111 rfl [(3, .int (J 0)), (0, .ref (q 0)), (1, .int (J v_x)), (2, .int (J zz1_))] dX10_standing_110 rfl hl (by decide) rfl (fun ls hl => ?_)
                    have L111_46 : ∀ (k111 : Nat) (gk : Int) (y57_c111 : Int → Int) (H : Heap) (locs : List Loc) (ls : Array Slot), inR gk → (0 ≤ gk ∧ gk ≤ 32 ∧ ∀ j, 0 ≤ j → j < gk → (y57_c111 j) = (y58_c60 j)) → (32 - gk) < (k111 : Int) → WM D cy q (n_0) (upF (upF f_0 57 y57_c111) 58 y58_c60) A0 H0 H locs → lv_has ls 5 [(0, .ref (q 0)), (1, .int (J v_x)), (2, .int (J zz1_)), (3, .int (J gk))] → W p l e (rmd 3 0 0) s m ar below meth c H locs 0 0 QW (F0 m 111 ls []) := by
                      intro k111
                      induction k111 with
                      | zero =>
                        intro gk y57_c111 H locs ls r_gk iv111 ms111 hw hl
                        exfalso; omega
                      | succ k111 ih111 =>
                        intro gk y57_c111 H locs ls r_gk iv111 ms111 hw hl
                        refine j_iload_n E 112 rfl dX10_standing_111 rfl (lv_at hl 3 rfl) ?_
                        refine j_bipush E 114 rfl dX10_standing_112 (by decide) ?_
                        refine j_icmp_ge E 117 135 rfl r_gk (rr (by decide)) dX10_standing_114 (by decide) (fun cc48_ => ?_) (fun cc48_ => ?_)
                        · exact L135_32  y57_c111 y58_c60 H locs ls  (by first | exact ⟨hc_.1, Or.inl ⟨by omega, Hc_q1 hc_.2 rfl (by omega)⟩⟩ | exact ⟨Hv_mono (Hv_copy (fun j h1 h2 => iv111.2.2 j h1 (by omega)) iv60.2.2.1) (by omega), Hs_mv (Or.inr ⟨by omega, by rw [show (4 : Int) = gq by omega]; exact iv60.2.2.2⟩) (fun w_ h1_ h2_ => iv111.2.2 w_ h1_ (by omega))⟩) hw (lv_sub hl [0, 1, 2] rfl)
                        · refine j_aload_n E 118 rfl dX10_standing_117 rfl (lv_at hl 0 rfl) ?_
                          refine m_ag_57 E hK hw 121 rfl dX10_standing_118 ?_
                          refine j_iload_n E 122 rfl dX10_standing_121 rfl (lv_at hl 3 rfl) ?_
                          refine j_aload_n E 123 rfl dX10_standing_122 rfl (lv_at hl 0 rfl) ?_
                          refine m_ag_58 E hK hw 126 rfl dX10_standing_123 ?_
                          refine j_iload_n E 127 rfl dX10_standing_126 rfl (lv_at hl 3 rfl) ?_
                          refine m_ld_58 E hK hw (y58_c60 gk) rfl (by omega) 128 rfl dX10_standing_127 (fun rr49_ => ?_)
                          refine m_st_57 E hK hw (by omega) rr49_ 129 rfl dX10_standing_128 (fun H locs hw => ?_)
                          have hw : WM D cy q (n_0) (upF (upF f_0 57 (upA (y57_c111) gk (y58_c60 gk))) 58 y58_c60) A0 H0 H locs := hw
                          refine j_iinc E 132 rfl [(3, .int (J (gk + 1))), (0, .ref (q 0)), (1, .int (J v_x)), (2, .int (J zz1_))] dX10_standing_129 hl (kk := 3) rfl (by decide) rfl (fun ls hl => ?_)
                          refine j_goto E 111 dX10_standing_132 (by decide) ?_
                          exact ih111 (gk + 1) (upA (y57_c111) gk (y58_c60 gk)) H locs ls (rr (by omega)) (⟨by omega, by omega, cp_step iv111.2.2⟩) (by omega) hw (lv_sub hl [1, 2, 3, 0] rfl)
                    exact L111_46 _ 0 y57_c60 H locs ls (rr (by decide)) (⟨by omega, by omega, fun j h1 h2 => absurd h2 (by omega)⟩) (mk_lt _) hw (lv_sub hl [1, 2, 3, 0] rfl)
                  · refine j_aload_n E 66 rfl dX10_standing_65 rfl (lv_at hl 0 rfl) ?_
                    refine j_iload_n E 67 rfl dX10_standing_66 rfl (lv_at hl 1 rfl) ?_
                    refine j_iload_n E 68 rfl dX10_standing_67 rfl (lv_at hl 3 rfl) ?_
                    refine m_callv E (c_X10_counts l D cy q (n_0) (upF (upF f_0 57 y57_c60) 58 y58_c60) v_x gq  r_v_x r_gq (show 0 ≤ (n_0 2) ∧ (n_0 2) ≤ 24 from by omega) (show 0 ≤ v_x ∧ v_x < 24 from by omega) (show 0 ≤ (n_0 29) ∧ (n_0 29) ≤ 32 from by omega) (show Str_ (f_0 19) (f_0 20) (n_0 29) from hp3)) rfl mt_X10_counts ml_X10_343 hK hw hA ⟨Nat.le_of_ble_eq_true rfl, Nat.le_of_ble_eq_true rfl⟩ (As := [.int (J v_x), .int (J gq)]) (rest := []) rfl rfl hl.1 (Nat.le_of_ble_eq_true rfl) 71 rfl dX10_standing_68 (fun n_51 f_51 H locs hq51_ hw => ?_)
                    obtain ⟨y57_51, en51_, ef51_, hq51_⟩ := hq51_
                    rw [en51_, ef51_] at hw; clear en51_ ef51_
                    have hw : WM D cy q (n_0) (upF (upF f_0 57 y57_51) 58 y58_c60) A0 H0 H locs := hw
                    have hh51_ : Hv_ (y57_51) (n_0 29) 24 ∧ Hc_ (y57_51) (fun p_ => (¬ (f_0 56 p_) = 0 ∧ 0 < (f_0 19 (24 * p_ + v_x))) ∧ (gq = -1 ∨ (f_0 3 p_) = gq)) (fun p_ => (f_0 20 (24 * p_ + v_x))) (n_0 2) := hq51_
                    clear hq51_
                    have hc_ := hh51_
                    clear hh51_
                    refine j_aload_n E 72 rfl dX10_standing_71 rfl (lv_at hl 0 rfl) ?_
                    refine m_callp (po := fun z_0 => 0 ≤ z_0 ∧ z_0 < 32 ∧ (z_0 = 0 ∨ (y57_51 0) < (y57_51 z_0)) ∧ gr_ (y57_51) z_0) E (c_X10_greatest l D cy q (n_0) (upF (upF f_0 57 y57_51) 58 y58_c60)    ) rfl mt_X10_greatest ml_X10_346 hK hw hA ⟨Nat.le_of_ble_eq_true rfl, Nat.le_of_ble_eq_true rfl⟩ (As := []) (rest := []) rfl rfl hl.1 (Nat.le_of_ble_eq_true rfl) 75 rfl dX10_standing_72 (fun zz52_ H locs rr52_ hq52_ hw => ?_)
                    have hh52_ : 0 ≤ zz52_ ∧ zz52_ < 32 ∧ (zz52_ = 0 ∨ (y57_51 0) < (y57_51 zz52_)) ∧ gr_ (y57_51) zz52_ := hq52_
                    clear hq52_
                    have hg_ := hh52_.2.2.2
                    refine j_istore E 77 rfl [(4, .int (J zz52_)), (0, .ref (q 0)), (1, .int (J v_x)), (2, .int (J zz1_)), (3, .int (J gq))] dX10_standing_75 hl (by decide) rfl (fun ls hl => ?_)
                    refine j_aload_n E 78 rfl dX10_standing_77 rfl (lv_at hl 1 rfl) ?_
                    refine m_ag_57 E hK hw 81 rfl dX10_standing_78 ?_
                    refine j_iload E 83 rfl dX10_standing_81 (lv_at hl 0 rfl) ?_
                    refine m_ld_57 E hK hw (y57_51 zz52_) rfl (by omega) 84 rfl dX10_standing_83 (fun rr53_ => ?_)
                    have hb_ := hc_.1 zz52_ (by omega) (by omega)
                    refine j_if_le E 87 103 rfl rr53_ dX10_standing_84 (by decide) (fun cc54_ => ?_) (fun cc54_ => ?_)
                    · refine j_iinc E 106 rfl [(3, .int (J (gq + 1))), (4, .int (J zz52_)), (0, .ref (q 0)), (1, .int (J v_x)), (2, .int (J zz1_))] dX10_standing_103 hl (kk := 4) rfl (by decide) rfl (fun ls hl => ?_)
                      refine j_goto E 60 dX10_standing_106 (by decide) ?_
                      exact ih60 (gq + 1) y57_51 y58_c60 H locs ls (rr (by omega)) (⟨by omega, by omega, by first | exact Hv_step iv60.2.2.1 (by omega) (by omega) | exact Hv_mono iv60.2.2.1 (by omega), by first | exact Vo_up iv60.2.2.2 (by omega) (Hc_q2 hc_.2 (by omega) (by omega)) hg_ (by omega) (upA_same _ _ _) (fun w_ _ _ h_ => upA_ne h_) | exact Vo_no iv60.2.2.2 (by omega) (Hc_q2 hc_.2 (by omega) (by omega)) (fun w_ h1_ h2_ => by have r_ := (hg_.2 w_ h1_ h2_).1; omega) (fun p_ h1_ h2_ h3_ => ⟨(hp3 _ h3_.2).1, Int.lt_of_lt_of_le (hp3 _ h3_.2).2 hp2.2⟩)⟩) (by omega) hw (lv_sub hl [2, 3, 4, 0] rfl)
                    · refine j_aload_n E 88 rfl dX10_standing_87 rfl (lv_at hl 1 rfl) ?_
                      refine m_ag_58 E hK hw 91 rfl dX10_standing_88 ?_
                      refine j_iload E 93 rfl dX10_standing_91 (lv_at hl 0 rfl) ?_
                      refine j_aload_n E 94 rfl dX10_standing_93 rfl (lv_at hl 1 rfl) ?_
                      refine m_ag_58 E hK hw 97 rfl dX10_standing_94 ?_
                      refine j_iload E 99 rfl dX10_standing_97 (lv_at hl 0 rfl) ?_
                      refine m_ld_58 E hK hw (y58_c60 zz52_) rfl (by omega) 100 rfl dX10_standing_99 (fun rr55_ => ?_)
                      have hd_ := iv60.2.2.1 zz52_ (by omega) (by omega)
                      refine j_iconst E 101 rfl dX10_standing_100 ?_
                      refine j_iadd E 102 rfl dX10_standing_101 ?_
                      refine m_st_58 E hK hw (by omega) (rr (by omega)) 103 rfl dX10_standing_102 (fun H locs hw => ?_)
                      have hw : WM D cy q (n_0) (upF (upF f_0 57 y57_51) 58 (upA (y58_c60) zz52_ ((y58_c60 zz52_) + 1))) A0 H0 H locs := hw
                      refine j_iinc E 106 rfl [(3, .int (J (gq + 1))), (4, .int (J zz52_)), (0, .ref (q 0)), (1, .int (J v_x)), (2, .int (J zz1_))] dX10_standing_103 hl (kk := 4) rfl (by decide) rfl (fun ls hl => ?_)
                      refine j_goto E 60 dX10_standing_106 (by decide) ?_
                      exact ih60 (gq + 1) y57_51 (upA (y58_c60) zz52_ ((y58_c60 zz52_) + 1)) H locs ls (rr (by omega)) (⟨by omega, by omega, by first | exact Hv_step iv60.2.2.1 (by omega) (by omega) | exact Hv_mono iv60.2.2.1 (by omega), by first | exact Vo_up iv60.2.2.2 (by omega) (Hc_q2 hc_.2 (by omega) (by omega)) hg_ (by omega) (upA_same _ _ _) (fun w_ _ _ h_ => upA_ne h_) | exact Vo_no iv60.2.2.2 (by omega) (Hc_q2 hc_.2 (by omega) (by omega)) (fun w_ h1_ h2_ => by have r_ := (hg_.2 w_ h1_ h2_).1; omega) (fun p_ h1_ h2_ h3_ => ⟨(hp3 _ h3_.2).1, Int.lt_of_lt_of_le (hp3 _ h3_.2).2 hp2.2⟩)⟩) (by omega) hw (lv_sub hl [2, 3, 4, 0] rfl)
              exact L60_43 _ 0 (f_0 57) y58_c39 H locs ls (rr (by decide)) (⟨by omega, by omega, Hv_zero (fun j h1 h2 => iv39.2.2 j h1 (by omega)), Vo_0 (fun j h1 h2 => iv39.2.2 j h1 (by omega))⟩) (mk_lt _) hw (lv_sub hl [1, 2, 3, 0] rfl)
            · refine j_aload_n E 46 rfl dX10_standing_45 rfl (lv_at hl 0 rfl) ?_
              refine m_ag_58 E hK hw 49 rfl dX10_standing_46 ?_
              refine j_iload_n E 50 rfl dX10_standing_49 rfl (lv_at hl 3 rfl) ?_
              refine j_iconst E 51 rfl dX10_standing_50 ?_
              refine m_st_58 E hK hw (by omega) (rr (by decide)) 52 rfl dX10_standing_51 (fun H locs hw => ?_)
              have hw : WM D cy q (n_0) (upF f_0 58 (upA (y58_c39) gi 0)) A0 H0 H locs := hw
              refine j_iinc E 55 rfl [(3, .int (J (gi + 1))), (0, .ref (q 0)), (1, .int (J v_x)), (2, .int (J zz1_))] dX10_standing_52 hl (kk := 3) rfl (by decide) rfl (fun ls hl => ?_)
              refine j_goto E 39 dX10_standing_55 (by decide) ?_
              exact ih39 (gi + 1) (upA (y58_c39) gi 0) H locs ls (rr (by omega)) (⟨by omega, by omega, z0_step iv39.2.2⟩) (by omega) hw (lv_sub hl [1, 2, 3, 0] rfl)
        exact L39_40 _ 0 (f_0 58) H locs ls (rr (by decide)) (⟨by omega, by omega, fun j h1 h2 => absurd h2 (by omega)⟩) (mk_lt _) hw (lv_sub hl [2, 3, 1, 0] rfl)
      · refine j_aload_n E 29 rfl dX10_standing_28 rfl (lv_at hl 1 rfl) ?_
        refine j_iload_n E 30 rfl dX10_standing_29 rfl (lv_at hl 2 rfl) ?_
        refine j_iconst E 31 rfl dX10_standing_30 ?_
        refine m_callv E (c_X10_counts l D cy q (n_0) (f_0) v_x ((-1))  r_v_x (rr (by decide)) (show 0 ≤ (n_0 2) ∧ (n_0 2) ≤ 24 from by omega) (show 0 ≤ v_x ∧ v_x < 24 from by omega) (show 0 ≤ (n_0 29) ∧ (n_0 29) ≤ 32 from by omega) (show Str_ (f_0 19) (f_0 20) (n_0 29) from hp3)) rfl mt_X10_counts ml_X10_343 hK hw hA ⟨Nat.le_of_ble_eq_true rfl, Nat.le_of_ble_eq_true rfl⟩ (As := [.int (J v_x), .int (J ((-1)))]) (rest := []) rfl rfl hl.1 (Nat.le_of_ble_eq_true rfl) 34 rfl dX10_standing_31 (fun n_58 f_58 H locs hq58_ hw => ?_)
        obtain ⟨y57_58, en58_, ef58_, hq58_⟩ := hq58_
        rw [en58_, ef58_] at hw; clear en58_ ef58_
        have hw : WM D cy q (n_0) (upF f_0 57 y57_58) A0 H0 H locs := hw
        have hh58_ : Hv_ (y57_58) (n_0 29) 24 ∧ Hc_ (y57_58) (fun p_ => (¬ (f_0 56 p_) = 0 ∧ 0 < (f_0 19 (24 * p_ + v_x))) ∧ ((-1 : Int) = -1 ∨ (f_0 3 p_) = (-1 : Int))) (fun p_ => (f_0 20 (24 * p_ + v_x))) (n_0 2) := hq58_
        clear hq58_
        have hc_ := hh58_
        clear hh58_
        refine j_goto E 135 dX10_standing_34 (by decide) ?_
        exact L135_32  y57_58 (f_0 58) H locs ls  (by first | exact ⟨hc_.1, Or.inl ⟨by omega, Hc_q1 hc_.2 rfl (by omega)⟩⟩ | exact ⟨Hv_mono (Hv_copy (fun j h1 h2 => iv111.2.2 j h1 (by omega)) iv60.2.2.1) (by omega), Hs_mv (Or.inr ⟨by omega, by rw [show (4 : Int) = gq by omega]; exact iv60.2.2.2⟩) (fun w_ h1_ h2_ => iv111.2.2 w_ h1_ (by omega))⟩) hw (lv_sub hl [1, 2, 0] rfl)
    · refine j_iload_n E 19 rfl dX10_standing_18 rfl (lv_at hl 0 rfl) ?_
      exact hret 19 zz1_ (n_0) (upF (upF f_0 57 (f_0 57)) 58 (f_0 58)) _ _ ls hw rr1_ ⟨(f_0 57), (f_0 58), rfl, rfl, ⟨by omega, by rw [← es_]; exact Sw_own (by omega) (by omega)⟩⟩ dX10_standing_19
set_option maxHeartbeats 4000000 in
set_option maxRecDepth 100000 in
theorem c_X10_says (l : Launch) (D : va_G) (cy : Nat → ClassId) (q : Nat → Nat) (n_0 : Nat → Int) (f_0 : Nat → Int → Int) (v_x : Int) (r_v_x : inR v_x) (hp0 : MI (n_0) (f_0)) (hp1 : 0 ≤ v_x ∧ v_x < (n_0 12)) (hp2 : 1 ≤ (n_0 29)) (hp3 : (∀ p_, 0 ≤ p_ → p_ < 24 → ¬ (f_0 56 p_) = 0 → p_ < (n_0 2))) (hp4 : (∃ p_, 0 ≤ p_ ∧ p_ < (n_0 2) ∧ ¬ (f_0 56 p_) = 0 ∧ 0 < (f_0 19 (24 * p_ + v_x)))) : MC l D cy q yX10_says cX10_says 5 none 4 [.int (J v_x)] n_0 f_0 (PV (fun (n_2 : Nat → Int) (f_2 : Nat → Int → Int) => ∃ (y57_2 : Int → Int) (y58_2 : Int → Int) (y18_2 : Int → Int) (y15_2 : Int → Int) (y17_2 : Int → Int) (y19_2 : Int → Int) (y20_2 : Int → Int) (y21_2 : Int → Int) , n_2 = n_0 ∧ f_2 = upF (upF (upF (upF (upF (upF (upF (upF f_0 15 y15_2) 17 y17_2) 18 y18_2) 19 y19_2) 20 y20_2) 21 y21_2) 57 y57_2) 58 y58_2 ∧ (MI (n_0) (upF (upF (upF (upF (upF (upF (upF (upF f_0 15 y15_2) 17 y17_2) 18 y18_2) 19 y19_2) 20 y20_2) 21 y21_2) 57 y57_2) 58 y58_2) ∧ ∃ w_, 0 ≤ w_ ∧ Sw_ ((n_0 2)).toNat (fun p_ => ¬ (f_0 56 p_) = 0 ∧ 0 < (f_0 19 (24 * p_ + v_x))) (fun p_ => (f_0 20 (24 * p_ + v_x))) (f_0 3) (n_0 11) (spk_ (0 ≤ (n_0 10) ∧ (n_0 10) < (n_0 2) ∧ ¬ (f_0 56 ((n_0 10))) = 0 ∧ 0 < (f_0 19 (24 * (n_0 10) + v_x))) ((f_0 20 (24 * (n_0 10) + v_x)))) w_ ∧ (y18_2) = upA (f_0 18) (200 * v_x + (n_0 1)) w_ ∧ (y15_2) = upA (f_0 15) v_x 0 ∧ (y17_2) = upA (f_0 17) v_x (w32_ ((f_0 17 v_x) + 1)) ∧ Hr_ (fun p_ => ¬ (f_0 56 p_) = 0) (fun p_ => ¬ (f_0 9 ((f_0 4 p_))) = 0) (f_0 5) (n_0 1) w_ v_x (n_0 2) (f_0 19) (f_0 20) (f_0 21) (y19_2) (y20_2) (y21_2)))) := by
  refine MC.ofv rfl (Nat.le_of_ble_eq_true rfl) ?_
  intro p e s m below meth c ls ar QW A0 H0 H locs E hK hA hw hl hret
  have hl : lv_has ls 5 [(0, .ref (q 0)), (1, .int (J v_x))] := hl
  obtain ⟨i_now, i_persons, i_lines, i_wordings, i_taped, i_suits, i_spk, i_fam, i_str, i_said, i_book, i_wds, i_tok, i_cod, i_far, i_tap, i_qua, i_sil, i_stz, i_way⟩ := hp0
  refine j_aload_n E 1 rfl dX10_says_0 rfl (lv_at hl 0 rfl) ?_
  refine j_iload_n E 2 rfl dX10_says_1 rfl (lv_at hl 1 rfl) ?_
  refine m_calli E (c_X10_standing l D cy q (n_0) (f_0) v_x  r_v_x (show 0 ≤ (n_0 2) ∧ (n_0 2) ≤ 24 from by omega) (show 0 ≤ v_x ∧ v_x < 24 from by omega) (show 1 ≤ (n_0 29) ∧ (n_0 29) ≤ 32 from by omega) (show Str_ (f_0 19) (f_0 20) (n_0 29) from i_str) (show -1 ≤ (n_0 10) ∧ (n_0 10) < 24 from by omega) (show (∀ p_, 0 ≤ p_ → p_ < 24 → ¬ (f_0 56 p_) = 0 → p_ < (n_0 2)) from hp3) (show (∃ p_, 0 ≤ p_ ∧ p_ < (n_0 2) ∧ ¬ (f_0 56 p_) = 0 ∧ 0 < (f_0 19 (24 * p_ + v_x))) from hp4) (show Qua_ (f_0 3) from i_qua) (show 0 ≤ (n_0 11) ∧ (n_0 11) ≤ 2 from i_way)) rfl mt_X10_standing ml_X10_349 hK hw hA ⟨Nat.le_of_ble_eq_true rfl, Nat.le_of_ble_eq_true rfl⟩ (As := [.int (J v_x)]) (rest := []) rfl rfl hl.1 (Nat.le_of_ble_eq_true rfl) 5 rfl dX10_says_2 (fun zz1_ n_1 f_1 H locs rr1_ hq1_ hw => ?_)
  obtain ⟨y57_1, y58_1, en1_, ef1_, hq1_⟩ := hq1_
  rw [en1_, ef1_] at hw; clear en1_ ef1_
  have hw : WM D cy q (n_0) (upF (upF f_0 57 y57_1) 58 y58_1) A0 H0 H locs := hw
  have hh1_ : (0 ≤ zz1_ ∧ zz1_ < (n_0 29)) ∧ Sw_ ((n_0 2)).toNat (fun p_ => ¬ (f_0 56 p_) = 0 ∧ 0 < (f_0 19 (24 * p_ + v_x))) (fun p_ => (f_0 20 (24 * p_ + v_x))) (f_0 3) (n_0 11) (spk_ (0 ≤ (n_0 10) ∧ (n_0 10) < (n_0 2) ∧ ¬ (f_0 56 ((n_0 10))) = 0 ∧ 0 < (f_0 19 (24 * (n_0 10) + v_x))) ((f_0 20 (24 * (n_0 10) + v_x)))) zz1_ := hq1_
  clear hq1_
  have sw_ := hh1_.2
  have swr_ := hh1_.1
  refine j_istore_n E 6 rfl [(2, .int (J zz1_)), (0, .ref (q 0)), (1, .int (J v_x))] dX10_says_5 rfl hl (by decide) rfl (fun ls hl => ?_)
  refine j_aload_n E 7 rfl dX10_says_6 rfl (lv_at hl 1 rfl) ?_
  refine m_ag_18 E hK hw 10 rfl dX10_says_7 ?_
  refine j_sipush E 13 rfl dX10_says_10 (by decide) ?_
  refine j_iload_n E 14 rfl dX10_says_13 rfl (lv_at hl 2 rfl) ?_
  refine j_imul E 15 rfl dX10_says_14 ?_
  refine j_aload_n E 16 rfl dX10_says_15 rfl (lv_at hl 1 rfl) ?_
  refine m_get_1 E hK hw (n_0 1) rfl 19 rfl dX10_says_16 (fun rr2_ => ?_)
  refine j_iadd E 20 rfl dX10_says_19 ?_
  refine j_iload_n E 21 rfl dX10_says_20 rfl (lv_at hl 0 rfl) ?_
  refine m_st_18 E hK hw (by omega) rr1_ 22 rfl dX10_says_21 (fun H locs hw => ?_)
  have hw : WM D cy q (n_0) (upF (upF (upF f_0 18 (upA (f_0 18) ((200 * v_x) + (n_0 1)) zz1_)) 57 y57_1) 58 y58_1) A0 H0 H locs := hw
  refine j_aload_n E 23 rfl dX10_says_22 rfl (lv_at hl 1 rfl) ?_
  refine m_ag_15 E hK hw 26 rfl dX10_says_23 ?_
  refine j_iload_n E 27 rfl dX10_says_26 rfl (lv_at hl 2 rfl) ?_
  refine j_iconst E 28 rfl dX10_says_27 ?_
  refine m_st_15 E hK hw (by omega) (rr (by decide)) 29 rfl dX10_says_28 (fun H locs hw => ?_)
  have hw : WM D cy q (n_0) (upF (upF (upF (upF f_0 15 (upA (f_0 15) v_x 0)) 18 (upA (f_0 18) ((200 * v_x) + (n_0 1)) zz1_)) 57 y57_1) 58 y58_1) A0 H0 H locs := hw
  refine j_aload_n E 30 rfl dX10_says_29 rfl (lv_at hl 1 rfl) ?_
  refine m_ag_17 E hK hw 33 rfl dX10_says_30 ?_
  refine j_iload_n E 34 rfl dX10_says_33 rfl (lv_at hl 2 rfl) ?_
  refine j_aload_n E 35 rfl dX10_says_34 rfl (lv_at hl 1 rfl) ?_
  refine m_ag_17 E hK hw 38 rfl dX10_says_35 ?_
  refine j_iload_n E 39 rfl dX10_says_38 rfl (lv_at hl 2 rfl) ?_
  refine m_ld_17 E hK hw (f_0 17 v_x) rfl (by omega) 40 rfl dX10_says_39 (fun rr5_ => ?_)
  refine j_iconst E 41 rfl dX10_says_40 ?_
  refine j_iadd E 42 rfl dX10_says_41 ?_
  refine j_norm (fun zz6_ rr6_ ee6_ => ?_)
  have sm_ := w32_of rr6_ ee6_
  refine m_st_17 E hK hw (by omega) rr6_ 43 rfl dX10_says_42 (fun H locs hw => ?_)
  have hw : WM D cy q (n_0) (upF (upF (upF (upF (upF f_0 15 (upA (f_0 15) v_x 0)) 17 (upA (f_0 17) v_x zz6_)) 18 (upA (f_0 18) ((200 * v_x) + (n_0 1)) zz1_)) 57 y57_1) 58 y58_1) A0 H0 H locs := hw
  refine j_iconst E 44 rfl dX10_says_43 ?_
  refine j_istore_n E 45 rfl [(3, .int (J 0)), (2, .int (J zz1_)), (0, .ref (q 0)), (1, .int (J v_x))] dX10_says_44 rfl hl (by decide) rfl (fun ls hl => ?_)
  have L45_8 : ∀ (k45 : Nat) (gp : Int) (y19_c45 : Int → Int) (y20_c45 : Int → Int) (y21_c45 : Int → Int) (H : Heap) (locs : List Loc) (ls : Array Slot), inR gp → (0 ≤ gp ∧ gp ≤ 24 ∧ Str_ (y19_c45) (y20_c45) (n_0 29) ∧ gp ≤ (n_0 2) ∧ Stz_ (y19_c45) (n_0 2) (n_0 12) ∧ Hr_ (fun p_ => ¬ (f_0 56 p_) = 0) (fun p_ => ¬ (f_0 9 ((f_0 4 p_))) = 0) (f_0 5) (n_0 1) zz1_ v_x gp (f_0 19) (f_0 20) (f_0 21) (y19_c45) (y20_c45) (y21_c45)) → (24 - gp) < (k45 : Int) → WM D cy q (n_0) (upF (upF (upF (upF (upF (upF (upF (upF f_0 15 (upA (f_0 15) v_x 0)) 17 (upA (f_0 17) v_x zz6_)) 18 (upA (f_0 18) ((200 * v_x) + (n_0 1)) zz1_)) 19 y19_c45) 20 y20_c45) 21 y21_c45) 57 y57_1) 58 y58_1) A0 H0 H locs → lv_has ls 5 [(0, .ref (q 0)), (1, .int (J v_x)), (2, .int (J zz1_)), (3, .int (J gp))] → W p l e (rmd 4 0 0) s m ar below meth c H locs 0 0 QW (F0 m 45 ls []) := by
    intro k45
    induction k45 with
    | zero =>
      intro gp y19_c45 y20_c45 y21_c45 H locs ls r_gp iv45 ms45 hw hl
      exfalso; omega
    | succ k45 ih45 =>
      intro gp y19_c45 y20_c45 y21_c45 H locs ls r_gp iv45 ms45 hw hl
      refine j_iload_n E 46 rfl dX10_says_45 rfl (lv_at hl 3 rfl) ?_
      refine j_aload_n E 47 rfl dX10_says_46 rfl (lv_at hl 0 rfl) ?_
      refine m_get_2 E hK hw (n_0 2) rfl 50 rfl dX10_says_47 (fun rr10_ => ?_)
      refine j_icmp_ge E 53 198 rfl r_gp rr10_ dX10_says_50 (by decide) (fun cc11_ => ?_) (fun cc11_ => ?_)
      · exact hret 198 (n_0) (upF (upF (upF (upF (upF (upF (upF (upF f_0 15 (upA (f_0 15) v_x 0)) 17 (upA (f_0 17) v_x zz6_)) 18 (upA (f_0 18) ((200 * v_x) + (n_0 1)) zz1_)) 19 y19_c45) 20 y20_c45) 21 y21_c45) 57 y57_1) 58 y58_1) _ _ ls hw ⟨y57_1, y58_1, (upA (f_0 18) ((200 * v_x) + (n_0 1)) zz1_), (upA (f_0 15) v_x 0), (upA (f_0 17) v_x zz6_), y19_c45, y20_c45, y21_c45, rfl, rfl, ⟨⟨i_now, i_persons, i_lines, i_wordings, i_taped, i_suits, i_spk, i_fam, iv45.2.2.1, Said_up i_said (by omega), i_book, i_wds, i_tok, i_cod, i_far, i_tap, i_qua, Sil_0 i_sil (by omega), iv45.2.2.2.2.1, i_way⟩, zz1_, swr_.1, sw_, rfl, rfl, by rw [← sm_], by rw [show (n_0 2) = gp by omega]; exact iv45.2.2.2.2.2⟩⟩ dX10_says_198
      · refine j_bipush E 55 rfl dX10_says_53 (by decide) ?_
        refine j_iload_n E 56 rfl dX10_says_55 rfl (lv_at hl 3 rfl) ?_
        refine j_imul E 57 rfl dX10_says_56 ?_
        refine j_iload_n E 58 rfl dX10_says_57 rfl (lv_at hl 1 rfl) ?_
        refine j_iadd E 59 rfl dX10_says_58 ?_
        refine j_istore E 61 rfl [(4, .int (J ((24 * gp) + v_x))), (0, .ref (q 0)), (1, .int (J v_x)), (2, .int (J zz1_)), (3, .int (J gp))] dX10_says_59 hl (by decide) rfl (fun ls hl => ?_)
        refine j_aload_n E 62 rfl dX10_says_61 rfl (lv_at hl 1 rfl) ?_
        refine j_iload_n E 63 rfl dX10_says_62 rfl (lv_at hl 4 rfl) ?_
        refine j_iload_n E 64 rfl dX10_says_63 rfl (lv_at hl 2 rfl) ?_
        refine m_callp (po := fun z_0 => (z_0 = 1 ∧ (f_0 56 gp) ≠ 0 ∧ 0 < (y19_c45 (24 * gp + v_x))) ∨ (z_0 = 0 ∧ ¬ ((f_0 56 gp) ≠ 0 ∧ 0 < (y19_c45 (24 * gp + v_x))))) E (c_X10_isHeard l D cy q (n_0) (upF (upF (upF (upF (upF (upF (upF (upF f_0 15 (upA (f_0 15) v_x 0)) 17 (upA (f_0 17) v_x zz6_)) 18 (upA (f_0 18) ((200 * v_x) + (n_0 1)) zz1_)) 19 y19_c45) 20 y20_c45) 21 y21_c45) 57 y57_1) 58 y58_1) gp v_x  r_gp r_v_x (show 0 ≤ gp ∧ gp < 24 from by omega) (show 0 ≤ v_x ∧ v_x < 24 from by omega)) rfl mt_X10_isHeard ml_X10_337 hK hw hA ⟨Nat.le_of_ble_eq_true rfl, Nat.le_of_ble_eq_true rfl⟩ (As := [.int (J gp), .int (J v_x)]) (rest := []) rfl rfl hl.1 (Nat.le_of_ble_eq_true rfl) 67 rfl dX10_says_64 (fun zz12_ H locs rr12_ hq12_ hw => ?_)
        have hh12_ : (zz12_ = 1 ∧ (f_0 56 gp) ≠ 0 ∧ 0 < (y19_c45 (24 * gp + v_x))) ∨ (zz12_ = 0 ∧ ¬ ((f_0 56 gp) ≠ 0 ∧ 0 < (y19_c45 (24 * gp + v_x)))) := hq12_
        clear hq12_
        rcases hh12_ with ⟨ee12_, hh12_⟩ | ⟨ee12_, hh12_⟩
        · subst ee12_
          refine j_if_eq E 70 151 rfl (rr (by decide)) dX10_says_67 (by decide) (fun cc13_ => absurd cc13_ (by decide)) (fun _ => ?_)
          have hs_ := iv45.2.2.1 (24 * gp + v_x) (by omega)
          have hs9_ := iv45.2.2.2.2.1.1 (24 * gp + v_x)
          refine j_aload_n E 71 rfl dX10_says_70 rfl (lv_at hl 1 rfl) ?_
          refine m_ag_19 E hK hw 74 rfl dX10_says_71 ?_
          refine j_iload E 76 rfl dX10_says_74 (lv_at hl 0 rfl) ?_
          refine j_aload_n E 77 rfl dX10_says_76 rfl (lv_at hl 1 rfl) ?_
          refine m_ag_19 E hK hw 80 rfl dX10_says_77 ?_
          refine j_iload E 82 rfl dX10_says_80 (lv_at hl 0 rfl) ?_
          refine m_ld_19 E hK hw (y19_c45 ((24 * gp) + v_x)) rfl (by omega) 83 rfl dX10_says_82 (fun rr14_ => ?_)
          refine j_bipush E 85 rfl dX10_says_83 (by decide) ?_
          refine j_icmp_le E 88 93 rfl rr14_ (rr (by decide)) dX10_says_85 (by decide) (fun cc15_ => ?_) (fun cc15_ => ?_)
          · refine j_aload_n E 94 rfl dX10_says_93 rfl (lv_at hl 1 rfl) ?_
            refine m_ag_19 E hK hw 97 rfl dX10_says_94 ?_
            refine j_iload E 99 rfl dX10_says_97 (lv_at hl 0 rfl) ?_
            refine m_ld_19 E hK hw (y19_c45 ((24 * gp) + v_x)) rfl (by omega) 100 rfl dX10_says_99 (fun _ => ?_)
            refine j_iconst E 101 rfl dX10_says_100 ?_
            refine j_iadd E 102 rfl dX10_says_101 ?_
            refine m_st_19 E hK hw (by omega) (rr (by omega)) 103 rfl dX10_says_102 (fun H locs hw => ?_)
            have hw : WM D cy q (n_0) (upF (upF (upF (upF (upF (upF (upF (upF f_0 15 (upA (f_0 15) v_x 0)) 17 (upA (f_0 17) v_x zz6_)) 18 (upA (f_0 18) ((200 * v_x) + (n_0 1)) zz1_)) 19 (upA (y19_c45) ((24 * gp) + v_x) ((y19_c45 ((24 * gp) + v_x)) + 3))) 20 y20_c45) 21 y21_c45) 57 y57_1) 58 y58_1) A0 H0 H locs := hw
            refine j_aload_n E 104 rfl dX10_says_103 rfl (lv_at hl 1 rfl) ?_
            refine m_ag_20 E hK hw 107 rfl dX10_says_104 ?_
            refine j_iload E 109 rfl dX10_says_107 (lv_at hl 0 rfl) ?_
            refine m_ld_20 E hK hw (y20_c45 ((24 * gp) + v_x)) rfl (by omega) 110 rfl dX10_says_109 (fun rr17_ => ?_)
            refine j_iload_n E 111 rfl dX10_says_110 rfl (lv_at hl 3 rfl) ?_
            refine j_icmp_eq E 114 192 rfl rr17_ rr1_ dX10_says_111 (by decide) (fun cc18_ => ?_) (fun cc18_ => ?_)
            · refine j_iinc E 195 rfl [(3, .int (J (gp + 1))), (4, .int (J ((24 * gp) + v_x))), (0, .ref (q 0)), (1, .int (J v_x)), (2, .int (J zz1_))] dX10_says_192 hl (kk := 4) rfl (by decide) rfl (fun ls hl => ?_)
              refine j_goto E 45 dX10_says_195 (by decide) ?_
              exact ih45 (gp + 1) (upA (y19_c45) ((24 * gp) + v_x) ((y19_c45 ((24 * gp) + v_x)) + 3)) y20_c45 y21_c45 H locs ls (rr (by omega)) (⟨by omega, by omega, by first | exact iv45.2.2.1 | exact Str_up iv45.2.2.1 (by omega) | exact Str_upW (Str_ne (Str_up iv45.2.2.1 (by omega))) (by omega) | exact hu_, by omega, by first | exact iv45.2.2.2.2.1 | exact Stz_up iv45.2.2.2.2.1 (by omega) (by omega) (by omega) | exact hz_, by first | exact hr_1 iv45.2.2.2.2.2 (by omega) (by show ¬ (f_0 56 gp) = 0; omega) (by omega) (by omega) (Or.inr (by omega)) | exact hr_1 iv45.2.2.2.2.2 (by omega) (by show ¬ (f_0 56 gp) = 0; omega) (by omega) (by omega) (Or.inl (by show ¬ (f_0 9 ((f_0 4 gp))) = 0; omega)) | exact hr_2 iv45.2.2.2.2.2 (by omega) (by show ¬ (f_0 56 gp) = 0; omega) (by omega) (by omega) (fun (h_ : ¬ (f_0 9 ((f_0 4 gp))) = 0) => by omega) (by omega) | exact hr3_ | exact hr_4 iv45.2.2.2.2.2 (by omega) (Or.inl (fun (h_ : ¬ (f_0 56 gp) = 0) => by omega)) | exact hr_4 iv45.2.2.2.2.2 (by omega) (Or.inr ⟨by omega, by omega⟩)⟩) (by omega) hw (lv_sub hl [2, 3, 4, 0] rfl)
            · refine j_aload_n E 115 rfl dX10_says_114 rfl (lv_at hl 1 rfl) ?_
              refine m_ag_9 E hK hw 118 rfl dX10_says_115 ?_
              refine j_aload_n E 119 rfl dX10_says_118 rfl (lv_at hl 1 rfl) ?_
              refine m_ag_4 E hK hw 122 rfl dX10_says_119 ?_
              refine j_iload_n E 123 rfl dX10_says_122 rfl (lv_at hl 4 rfl) ?_
              refine m_ld_4 E hK hw (f_0 4 gp) rfl (by omega) 124 rfl dX10_says_123 (fun rr19_ => ?_)
              have hf_ := i_fam gp
              refine m_ld_9 E hK hw (f_0 9 (f_0 4 gp)) rfl (by omega) 125 rfl dX10_says_124 (fun rr20_ => ?_)
              refine j_if_eq E 128 131 rfl rr20_ dX10_says_125 (by decide) (fun cc21_ => ?_) (fun cc21_ => ?_)
              · refine j_aload_n E 132 rfl dX10_says_131 rfl (lv_at hl 1 rfl) ?_
                refine m_ag_20 E hK hw 135 rfl dX10_says_132 ?_
                refine j_iload E 137 rfl dX10_says_135 (lv_at hl 0 rfl) ?_
                refine j_iload_n E 138 rfl dX10_says_137 rfl (lv_at hl 3 rfl) ?_
                refine m_st_20 E hK hw (by omega) rr1_ 139 rfl dX10_says_138 (fun H locs hw => ?_)
                have hw : WM D cy q (n_0) (upF (upF (upF (upF (upF (upF (upF (upF f_0 15 (upA (f_0 15) v_x 0)) 17 (upA (f_0 17) v_x zz6_)) 18 (upA (f_0 18) ((200 * v_x) + (n_0 1)) zz1_)) 19 (upA (y19_c45) ((24 * gp) + v_x) ((y19_c45 ((24 * gp) + v_x)) + 3))) 20 (upA (y20_c45) ((24 * gp) + v_x) zz1_)) 21 y21_c45) 57 y57_1) 58 y58_1) A0 H0 H locs := hw
                refine j_aload_n E 140 rfl dX10_says_139 rfl (lv_at hl 1 rfl) ?_
                refine m_ag_21 E hK hw 143 rfl dX10_says_140 ?_
                refine j_iload E 145 rfl dX10_says_143 (lv_at hl 0 rfl) ?_
                refine j_bipush E 147 rfl dX10_says_145 (by decide) ?_
                refine m_st_21 E hK hw (by omega) (rr (by decide)) 148 rfl dX10_says_147 (fun H locs hw => ?_)
                have hw : WM D cy q (n_0) (upF (upF (upF (upF (upF (upF (upF (upF f_0 15 (upA (f_0 15) v_x 0)) 17 (upA (f_0 17) v_x zz6_)) 18 (upA (f_0 18) ((200 * v_x) + (n_0 1)) zz1_)) 19 (upA (y19_c45) ((24 * gp) + v_x) ((y19_c45 ((24 * gp) + v_x)) + 3))) 20 (upA (y20_c45) ((24 * gp) + v_x) zz1_)) 21 (upA (y21_c45) ((24 * gp) + v_x) 100)) 57 y57_1) 58 y58_1) A0 H0 H locs := hw
                refine j_goto E 192 dX10_says_148 (by decide) ?_
                refine j_iinc E 195 rfl [(3, .int (J (gp + 1))), (4, .int (J ((24 * gp) + v_x))), (0, .ref (q 0)), (1, .int (J v_x)), (2, .int (J zz1_))] dX10_says_192 hl (kk := 4) rfl (by decide) rfl (fun ls hl => ?_)
                refine j_goto E 45 dX10_says_195 (by decide) ?_
                exact ih45 (gp + 1) (upA (y19_c45) ((24 * gp) + v_x) ((y19_c45 ((24 * gp) + v_x)) + 3)) (upA (y20_c45) ((24 * gp) + v_x) zz1_) (upA (y21_c45) ((24 * gp) + v_x) 100) H locs ls (rr (by omega)) (⟨by omega, by omega, by first | exact iv45.2.2.1 | exact Str_up iv45.2.2.1 (by omega) | exact Str_upW (Str_ne (Str_up iv45.2.2.1 (by omega))) (by omega) | exact hu_, by omega, by first | exact iv45.2.2.2.2.1 | exact Stz_up iv45.2.2.2.2.1 (by omega) (by omega) (by omega) | exact hz_, by first | exact hr_1 iv45.2.2.2.2.2 (by omega) (by show ¬ (f_0 56 gp) = 0; omega) (by omega) (by omega) (Or.inr (by omega)) | exact hr_1 iv45.2.2.2.2.2 (by omega) (by show ¬ (f_0 56 gp) = 0; omega) (by omega) (by omega) (Or.inl (by show ¬ (f_0 9 ((f_0 4 gp))) = 0; omega)) | exact hr_2 iv45.2.2.2.2.2 (by omega) (by show ¬ (f_0 56 gp) = 0; omega) (by omega) (by omega) (fun (h_ : ¬ (f_0 9 ((f_0 4 gp))) = 0) => by omega) (by omega) | exact hr3_ | exact hr_4 iv45.2.2.2.2.2 (by omega) (Or.inl (fun (h_ : ¬ (f_0 56 gp) = 0) => by omega)) | exact hr_4 iv45.2.2.2.2.2 (by omega) (Or.inr ⟨by omega, by omega⟩)⟩) (by omega) hw (lv_sub hl [2, 3, 4, 0] rfl)
              · refine j_goto E 192 dX10_says_128 (by decide) ?_
                refine j_iinc E 195 rfl [(3, .int (J (gp + 1))), (4, .int (J ((24 * gp) + v_x))), (0, .ref (q 0)), (1, .int (J v_x)), (2, .int (J zz1_))] dX10_says_192 hl (kk := 4) rfl (by decide) rfl (fun ls hl => ?_)
                refine j_goto E 45 dX10_says_195 (by decide) ?_
                exact ih45 (gp + 1) (upA (y19_c45) ((24 * gp) + v_x) ((y19_c45 ((24 * gp) + v_x)) + 3)) y20_c45 y21_c45 H locs ls (rr (by omega)) (⟨by omega, by omega, by first | exact iv45.2.2.1 | exact Str_up iv45.2.2.1 (by omega) | exact Str_upW (Str_ne (Str_up iv45.2.2.1 (by omega))) (by omega) | exact hu_, by omega, by first | exact iv45.2.2.2.2.1 | exact Stz_up iv45.2.2.2.2.1 (by omega) (by omega) (by omega) | exact hz_, by first | exact hr_1 iv45.2.2.2.2.2 (by omega) (by show ¬ (f_0 56 gp) = 0; omega) (by omega) (by omega) (Or.inr (by omega)) | exact hr_1 iv45.2.2.2.2.2 (by omega) (by show ¬ (f_0 56 gp) = 0; omega) (by omega) (by omega) (Or.inl (by show ¬ (f_0 9 ((f_0 4 gp))) = 0; omega)) | exact hr_2 iv45.2.2.2.2.2 (by omega) (by show ¬ (f_0 56 gp) = 0; omega) (by omega) (by omega) (fun (h_ : ¬ (f_0 9 ((f_0 4 gp))) = 0) => by omega) (by omega) | exact hr3_ | exact hr_4 iv45.2.2.2.2.2 (by omega) (Or.inl (fun (h_ : ¬ (f_0 56 gp) = 0) => by omega)) | exact hr_4 iv45.2.2.2.2.2 (by omega) (Or.inr ⟨by omega, by omega⟩)⟩) (by omega) hw (lv_sub hl [2, 3, 4, 0] rfl)
          · refine j_bipush E 90 rfl dX10_says_88 (by decide) ?_
            refine j_goto E 102 dX10_says_90 (by decide) ?_
            refine m_st_19 E hK hw (by omega) (rr (by decide)) 103 rfl dX10_says_102 (fun H locs hw => ?_)
            have hw : WM D cy q (n_0) (upF (upF (upF (upF (upF (upF (upF (upF f_0 15 (upA (f_0 15) v_x 0)) 17 (upA (f_0 17) v_x zz6_)) 18 (upA (f_0 18) ((200 * v_x) + (n_0 1)) zz1_)) 19 (upA (y19_c45) ((24 * gp) + v_x) 9)) 20 y20_c45) 21 y21_c45) 57 y57_1) 58 y58_1) A0 H0 H locs := hw
            refine j_aload_n E 104 rfl dX10_says_103 rfl (lv_at hl 1 rfl) ?_
            refine m_ag_20 E hK hw 107 rfl dX10_says_104 ?_
            refine j_iload E 109 rfl dX10_says_107 (lv_at hl 0 rfl) ?_
            refine m_ld_20 E hK hw (y20_c45 ((24 * gp) + v_x)) rfl (by omega) 110 rfl dX10_says_109 (fun rr25_ => ?_)
            refine j_iload_n E 111 rfl dX10_says_110 rfl (lv_at hl 3 rfl) ?_
            refine j_icmp_eq E 114 192 rfl rr25_ rr1_ dX10_says_111 (by decide) (fun cc26_ => ?_) (fun cc26_ => ?_)
            · refine j_iinc E 195 rfl [(3, .int (J (gp + 1))), (4, .int (J ((24 * gp) + v_x))), (0, .ref (q 0)), (1, .int (J v_x)), (2, .int (J zz1_))] dX10_says_192 hl (kk := 4) rfl (by decide) rfl (fun ls hl => ?_)
              refine j_goto E 45 dX10_says_195 (by decide) ?_
              exact ih45 (gp + 1) (upA (y19_c45) ((24 * gp) + v_x) 9) y20_c45 y21_c45 H locs ls (rr (by omega)) (⟨by omega, by omega, by first | exact iv45.2.2.1 | exact Str_up iv45.2.2.1 (by omega) | exact Str_upW (Str_ne (Str_up iv45.2.2.1 (by omega))) (by omega) | exact hu_, by omega, by first | exact iv45.2.2.2.2.1 | exact Stz_up iv45.2.2.2.2.1 (by omega) (by omega) (by omega) | exact hz_, by first | exact hr_1 iv45.2.2.2.2.2 (by omega) (by show ¬ (f_0 56 gp) = 0; omega) (by omega) (by omega) (Or.inr (by omega)) | exact hr_1 iv45.2.2.2.2.2 (by omega) (by show ¬ (f_0 56 gp) = 0; omega) (by omega) (by omega) (Or.inl (by show ¬ (f_0 9 ((f_0 4 gp))) = 0; omega)) | exact hr_2 iv45.2.2.2.2.2 (by omega) (by show ¬ (f_0 56 gp) = 0; omega) (by omega) (by omega) (fun (h_ : ¬ (f_0 9 ((f_0 4 gp))) = 0) => by omega) (by omega) | exact hr3_ | exact hr_4 iv45.2.2.2.2.2 (by omega) (Or.inl (fun (h_ : ¬ (f_0 56 gp) = 0) => by omega)) | exact hr_4 iv45.2.2.2.2.2 (by omega) (Or.inr ⟨by omega, by omega⟩)⟩) (by omega) hw (lv_sub hl [2, 3, 4, 0] rfl)
            · refine j_aload_n E 115 rfl dX10_says_114 rfl (lv_at hl 1 rfl) ?_
              refine m_ag_9 E hK hw 118 rfl dX10_says_115 ?_
              refine j_aload_n E 119 rfl dX10_says_118 rfl (lv_at hl 1 rfl) ?_
              refine m_ag_4 E hK hw 122 rfl dX10_says_119 ?_
              refine j_iload_n E 123 rfl dX10_says_122 rfl (lv_at hl 4 rfl) ?_
              refine m_ld_4 E hK hw (f_0 4 gp) rfl (by omega) 124 rfl dX10_says_123 (fun rr27_ => ?_)
              have hf_ := i_fam gp
              refine m_ld_9 E hK hw (f_0 9 (f_0 4 gp)) rfl (by omega) 125 rfl dX10_says_124 (fun rr28_ => ?_)
              refine j_if_eq E 128 131 rfl rr28_ dX10_says_125 (by decide) (fun cc29_ => ?_) (fun cc29_ => ?_)
              · refine j_aload_n E 132 rfl dX10_says_131 rfl (lv_at hl 1 rfl) ?_
                refine m_ag_20 E hK hw 135 rfl dX10_says_132 ?_
                refine j_iload E 137 rfl dX10_says_135 (lv_at hl 0 rfl) ?_
                refine j_iload_n E 138 rfl dX10_says_137 rfl (lv_at hl 3 rfl) ?_
                refine m_st_20 E hK hw (by omega) rr1_ 139 rfl dX10_says_138 (fun H locs hw => ?_)
                have hw : WM D cy q (n_0) (upF (upF (upF (upF (upF (upF (upF (upF f_0 15 (upA (f_0 15) v_x 0)) 17 (upA (f_0 17) v_x zz6_)) 18 (upA (f_0 18) ((200 * v_x) + (n_0 1)) zz1_)) 19 (upA (y19_c45) ((24 * gp) + v_x) 9)) 20 (upA (y20_c45) ((24 * gp) + v_x) zz1_)) 21 y21_c45) 57 y57_1) 58 y58_1) A0 H0 H locs := hw
                refine j_aload_n E 140 rfl dX10_says_139 rfl (lv_at hl 1 rfl) ?_
                refine m_ag_21 E hK hw 143 rfl dX10_says_140 ?_
                refine j_iload E 145 rfl dX10_says_143 (lv_at hl 0 rfl) ?_
                refine j_bipush E 147 rfl dX10_says_145 (by decide) ?_
                refine m_st_21 E hK hw (by omega) (rr (by decide)) 148 rfl dX10_says_147 (fun H locs hw => ?_)
                have hw : WM D cy q (n_0) (upF (upF (upF (upF (upF (upF (upF (upF f_0 15 (upA (f_0 15) v_x 0)) 17 (upA (f_0 17) v_x zz6_)) 18 (upA (f_0 18) ((200 * v_x) + (n_0 1)) zz1_)) 19 (upA (y19_c45) ((24 * gp) + v_x) 9)) 20 (upA (y20_c45) ((24 * gp) + v_x) zz1_)) 21 (upA (y21_c45) ((24 * gp) + v_x) 100)) 57 y57_1) 58 y58_1) A0 H0 H locs := hw
                refine j_goto E 192 dX10_says_148 (by decide) ?_
                refine j_iinc E 195 rfl [(3, .int (J (gp + 1))), (4, .int (J ((24 * gp) + v_x))), (0, .ref (q 0)), (1, .int (J v_x)), (2, .int (J zz1_))] dX10_says_192 hl (kk := 4) rfl (by decide) rfl (fun ls hl => ?_)
                refine j_goto E 45 dX10_says_195 (by decide) ?_
                exact ih45 (gp + 1) (upA (y19_c45) ((24 * gp) + v_x) 9) (upA (y20_c45) ((24 * gp) + v_x) zz1_) (upA (y21_c45) ((24 * gp) + v_x) 100) H locs ls (rr (by omega)) (⟨by omega, by omega, by first | exact iv45.2.2.1 | exact Str_up iv45.2.2.1 (by omega) | exact Str_upW (Str_ne (Str_up iv45.2.2.1 (by omega))) (by omega) | exact hu_, by omega, by first | exact iv45.2.2.2.2.1 | exact Stz_up iv45.2.2.2.2.1 (by omega) (by omega) (by omega) | exact hz_, by first | exact hr_1 iv45.2.2.2.2.2 (by omega) (by show ¬ (f_0 56 gp) = 0; omega) (by omega) (by omega) (Or.inr (by omega)) | exact hr_1 iv45.2.2.2.2.2 (by omega) (by show ¬ (f_0 56 gp) = 0; omega) (by omega) (by omega) (Or.inl (by show ¬ (f_0 9 ((f_0 4 gp))) = 0; omega)) | exact hr_2 iv45.2.2.2.2.2 (by omega) (by show ¬ (f_0 56 gp) = 0; omega) (by omega) (by omega) (fun (h_ : ¬ (f_0 9 ((f_0 4 gp))) = 0) => by omega) (by omega) | exact hr3_ | exact hr_4 iv45.2.2.2.2.2 (by omega) (Or.inl (fun (h_ : ¬ (f_0 56 gp) = 0) => by omega)) | exact hr_4 iv45.2.2.2.2.2 (by omega) (Or.inr ⟨by omega, by omega⟩)⟩) (by omega) hw (lv_sub hl [2, 3, 4, 0] rfl)
              · refine j_goto E 192 dX10_says_128 (by decide) ?_
                refine j_iinc E 195 rfl [(3, .int (J (gp + 1))), (4, .int (J ((24 * gp) + v_x))), (0, .ref (q 0)), (1, .int (J v_x)), (2, .int (J zz1_))] dX10_says_192 hl (kk := 4) rfl (by decide) rfl (fun ls hl => ?_)
                refine j_goto E 45 dX10_says_195 (by decide) ?_
                exact ih45 (gp + 1) (upA (y19_c45) ((24 * gp) + v_x) 9) y20_c45 y21_c45 H locs ls (rr (by omega)) (⟨by omega, by omega, by first | exact iv45.2.2.1 | exact Str_up iv45.2.2.1 (by omega) | exact Str_upW (Str_ne (Str_up iv45.2.2.1 (by omega))) (by omega) | exact hu_, by omega, by first | exact iv45.2.2.2.2.1 | exact Stz_up iv45.2.2.2.2.1 (by omega) (by omega) (by omega) | exact hz_, by first | exact hr_1 iv45.2.2.2.2.2 (by omega) (by show ¬ (f_0 56 gp) = 0; omega) (by omega) (by omega) (Or.inr (by omega)) | exact hr_1 iv45.2.2.2.2.2 (by omega) (by show ¬ (f_0 56 gp) = 0; omega) (by omega) (by omega) (Or.inl (by show ¬ (f_0 9 ((f_0 4 gp))) = 0; omega)) | exact hr_2 iv45.2.2.2.2.2 (by omega) (by show ¬ (f_0 56 gp) = 0; omega) (by omega) (by omega) (fun (h_ : ¬ (f_0 9 ((f_0 4 gp))) = 0) => by omega) (by omega) | exact hr3_ | exact hr_4 iv45.2.2.2.2.2 (by omega) (Or.inl (fun (h_ : ¬ (f_0 56 gp) = 0) => by omega)) | exact hr_4 iv45.2.2.2.2.2 (by omega) (Or.inr ⟨by omega, by omega⟩)⟩) (by omega) hw (lv_sub hl [2, 3, 4, 0] rfl)
        · subst ee12_
          refine j_if_eq E 70 151 rfl (rr (by decide)) dX10_says_67 (by decide) (fun _ => ?_) (fun cc32_ => absurd cc32_ (by decide))
          refine j_aload_n E 152 rfl dX10_says_151 rfl (lv_at hl 1 rfl) ?_
          refine m_ag_56 E hK hw 155 rfl dX10_says_152 ?_
          refine j_iload_n E 156 rfl dX10_says_155 rfl (lv_at hl 4 rfl) ?_
          refine m_ld_56 E hK hw (f_0 56 gp) rfl (by omega) 157 rfl dX10_says_156 (fun rr33_ => ?_)
          refine j_if_eq E 160 192 rfl rr33_ dX10_says_157 (by decide) (fun cc34_ => ?_) (fun cc34_ => ?_)
          · refine j_iinc E 195 rfl [(3, .int (J (gp + 1))), (4, .int (J ((24 * gp) + v_x))), (0, .ref (q 0)), (1, .int (J v_x)), (2, .int (J zz1_))] dX10_says_192 hl (kk := 4) rfl (by decide) rfl (fun ls hl => ?_)
            refine j_goto E 45 dX10_says_195 (by decide) ?_
            exact ih45 (gp + 1) y19_c45 y20_c45 y21_c45 H locs ls (rr (by omega)) (⟨by omega, by omega, by first | exact iv45.2.2.1 | exact Str_up iv45.2.2.1 (by omega) | exact Str_upW (Str_ne (Str_up iv45.2.2.1 (by omega))) (by omega) | exact hu_, by omega, by first | exact iv45.2.2.2.2.1 | exact Stz_up iv45.2.2.2.2.1 (by omega) (by omega) (by omega) | exact hz_, by first | exact hr_1 iv45.2.2.2.2.2 (by omega) (by show ¬ (f_0 56 gp) = 0; omega) (by omega) (by omega) (Or.inr (by omega)) | exact hr_1 iv45.2.2.2.2.2 (by omega) (by show ¬ (f_0 56 gp) = 0; omega) (by omega) (by omega) (Or.inl (by show ¬ (f_0 9 ((f_0 4 gp))) = 0; omega)) | exact hr_2 iv45.2.2.2.2.2 (by omega) (by show ¬ (f_0 56 gp) = 0; omega) (by omega) (by omega) (fun (h_ : ¬ (f_0 9 ((f_0 4 gp))) = 0) => by omega) (by omega) | exact hr3_ | exact hr_4 iv45.2.2.2.2.2 (by omega) (Or.inl (fun (h_ : ¬ (f_0 56 gp) = 0) => by omega)) | exact hr_4 iv45.2.2.2.2.2 (by omega) (Or.inr ⟨by omega, by omega⟩)⟩) (by omega) hw (lv_sub hl [2, 3, 4, 0] rfl)
          · refine j_aload_n E 161 rfl dX10_says_160 rfl (lv_at hl 1 rfl) ?_
            refine j_aload_n E 162 rfl dX10_says_161 rfl (lv_at hl 1 rfl) ?_
            refine m_get_1 E hK hw (n_0 1) rfl 165 rfl dX10_says_162 (fun _ => ?_)
            refine j_aload_n E 166 rfl dX10_says_165 rfl (lv_at hl 1 rfl) ?_
            refine m_ag_5 E hK hw 169 rfl dX10_says_166 ?_
            refine j_iload_n E 170 rfl dX10_says_169 rfl (lv_at hl 4 rfl) ?_
            refine m_ld_5 E hK hw (f_0 5 gp) rfl (by omega) 171 rfl dX10_says_170 (fun rr35_ => ?_)
            refine j_isub E 172 rfl dX10_says_171 ?_
            refine j_norm (fun zz36_ rr36_ ee36_ => ?_)
            have yr_ := w32_of rr36_ ee36_
            refine j_bipush E 174 rfl dX10_says_172 (by decide) ?_
            refine j_bipush E 176 rfl dX10_says_174 (by decide) ?_
            refine m_callp (po := fun z_0 => (z_0 = 1 ∧ (12 : Int) ≤ zz36_ ∧ zz36_ ≤ (40 : Int)) ∨ (z_0 = 0 ∧ (zz36_ < (12 : Int) ∨ (40 : Int) < zz36_))) E (c_X10_isIn l D cy q (n_0) (upF (upF (upF (upF (upF (upF (upF (upF f_0 15 (upA (f_0 15) v_x 0)) 17 (upA (f_0 17) v_x zz6_)) 18 (upA (f_0 18) ((200 * v_x) + (n_0 1)) zz1_)) 19 y19_c45) 20 y20_c45) 21 y21_c45) 57 y57_1) 58 y58_1) zz36_ 12 40  rr36_ (rr (by decide)) (rr (by decide)) ) rfl mt_X10_isIn ml_X10_169 hK hw hA ⟨Nat.le_of_ble_eq_true rfl, Nat.le_of_ble_eq_true rfl⟩ (As := [.int (J zz36_), .int (J 12), .int (J 40)]) (rest := []) rfl rfl hl.1 (Nat.le_of_ble_eq_true rfl) 179 rfl dX10_says_176 (fun zz37_ H locs rr37_ hq37_ hw => ?_)
            have hh37_ : (zz37_ = 1 ∧ (12 : Int) ≤ zz36_ ∧ zz36_ ≤ (40 : Int)) ∨ (zz37_ = 0 ∧ (zz36_ < (12 : Int) ∨ (40 : Int) < zz36_)) := hq37_
            clear hq37_
            rcases hh37_ with ⟨ee37_, hh37_⟩ | ⟨ee37_, hh37_⟩
            · subst ee37_
              refine j_if_eq E 182 192 rfl (rr (by decide)) dX10_says_179 (by decide) (fun cc38_ => absurd cc38_ (by decide)) (fun _ => ?_)
              refine j_aload_n E 183 rfl dX10_says_182 rfl (lv_at hl 1 rfl) ?_
              refine j_iload_n E 184 rfl dX10_says_183 rfl (lv_at hl 4 rfl) ?_
              refine j_iload_n E 185 rfl dX10_says_184 rfl (lv_at hl 2 rfl) ?_
              refine j_iload_n E 186 rfl dX10_says_185 rfl (lv_at hl 3 rfl) ?_
              refine j_iconst E 187 rfl dX10_says_186 ?_
              refine j_bipush E 189 rfl dX10_says_187 (by decide) ?_
              refine m_callv E (c_X10_gets l D cy q (n_0) (upF (upF (upF (upF (upF (upF (upF (upF f_0 15 (upA (f_0 15) v_x 0)) 17 (upA (f_0 17) v_x zz6_)) 18 (upA (f_0 18) ((200 * v_x) + (n_0 1)) zz1_)) 19 y19_c45) 20 y20_c45) 21 y21_c45) 57 y57_1) 58 y58_1) gp v_x zz1_ 3 100  r_gp r_v_x rr1_ (rr (by decide)) (rr (by decide)) (show 0 ≤ gp ∧ gp < 24 from by omega) (show 0 ≤ v_x ∧ v_x < 24 from by omega)) rfl mt_X10_gets ml_X10_194 hK hw hA ⟨Nat.le_of_ble_eq_true rfl, Nat.le_of_ble_eq_true rfl⟩ (As := [.int (J gp), .int (J v_x), .int (J zz1_), .int (J 3), .int (J 100)]) (rest := []) rfl rfl hl.1 (Nat.le_of_ble_eq_true rfl) 192 rfl dX10_says_189 (fun n_39 f_39 H locs hq39_ hw => ?_)
              obtain ⟨y19_39, y20_39, y21_39, en39_, ef39_, hq39_⟩ := hq39_
              rw [en39_, ef39_] at hw; clear en39_ ef39_
              have hw : WM D cy q (n_0) (upF (upF (upF (upF (upF (upF (upF (upF f_0 15 (upA (f_0 15) v_x 0)) 17 (upA (f_0 17) v_x zz6_)) 18 (upA (f_0 18) ((200 * v_x) + (n_0 1)) zz1_)) 19 y19_39) 20 y20_39) 21 y21_39) 57 y57_1) 58 y58_1) A0 H0 H locs := hw
              have hh39_ : (y19_39) = upA (y19_c45) (24 * gp + v_x) (3 : Int) ∧ (y20_39) = upA (y20_c45) (24 * gp + v_x) zz1_ ∧ (y21_39) = upA (y21_c45) (24 * gp + v_x) (100 : Int) := hq39_
              clear hq39_
              have hu_ : Str_ (y19_39) (y20_39) (n_0 29) := by rw [hh39_.1, hh39_.2.1]; exact Str_upW (Str_up2 iv45.2.2.1) (by omega)
              have hz_ : Stz_ (y19_39) (n_0 2) (n_0 12) := by rw [hh39_.1]; exact Stz_up iv45.2.2.2.2.1 (by omega) (by omega) (by omega)
              have hr3_ : Hr_ (fun p_ => ¬ (f_0 56 p_) = 0) (fun p_ => ¬ (f_0 9 ((f_0 4 p_))) = 0) (f_0 5) (n_0 1) zz1_ v_x (gp + 1) (f_0 19) (f_0 20) (f_0 21) (y19_39) (y20_39) (y21_39) := by rw [hh39_.1, hh39_.2.1, hh39_.2.2]; exact hr_3 iv45.2.2.2.2.2 (by omega) (by show ¬ (f_0 56 gp) = 0; omega) (by omega) (by omega)
              refine j_iinc E 195 rfl [(3, .int (J (gp + 1))), (4, .int (J ((24 * gp) + v_x))), (0, .ref (q 0)), (1, .int (J v_x)), (2, .int (J zz1_))] dX10_says_192 hl (kk := 4) rfl (by decide) rfl (fun ls hl => ?_)
              refine j_goto E 45 dX10_says_195 (by decide) ?_
              exact ih45 (gp + 1) y19_39 y20_39 y21_39 H locs ls (rr (by omega)) (⟨by omega, by omega, by first | exact iv45.2.2.1 | exact Str_up iv45.2.2.1 (by omega) | exact Str_upW (Str_ne (Str_up iv45.2.2.1 (by omega))) (by omega) | exact hu_, by omega, by first | exact iv45.2.2.2.2.1 | exact Stz_up iv45.2.2.2.2.1 (by omega) (by omega) (by omega) | exact hz_, by first | exact hr_1 iv45.2.2.2.2.2 (by omega) (by show ¬ (f_0 56 gp) = 0; omega) (by omega) (by omega) (Or.inr (by omega)) | exact hr_1 iv45.2.2.2.2.2 (by omega) (by show ¬ (f_0 56 gp) = 0; omega) (by omega) (by omega) (Or.inl (by show ¬ (f_0 9 ((f_0 4 gp))) = 0; omega)) | exact hr_2 iv45.2.2.2.2.2 (by omega) (by show ¬ (f_0 56 gp) = 0; omega) (by omega) (by omega) (fun (h_ : ¬ (f_0 9 ((f_0 4 gp))) = 0) => by omega) (by omega) | exact hr3_ | exact hr_4 iv45.2.2.2.2.2 (by omega) (Or.inl (fun (h_ : ¬ (f_0 56 gp) = 0) => by omega)) | exact hr_4 iv45.2.2.2.2.2 (by omega) (Or.inr ⟨by omega, by omega⟩)⟩) (by omega) hw (lv_sub hl [2, 3, 4, 0] rfl)
            · subst ee37_
              refine j_if_eq E 182 192 rfl (rr (by decide)) dX10_says_179 (by decide) (fun _ => ?_) (fun cc40_ => absurd cc40_ (by decide))
              refine j_iinc E 195 rfl [(3, .int (J (gp + 1))), (4, .int (J ((24 * gp) + v_x))), (0, .ref (q 0)), (1, .int (J v_x)), (2, .int (J zz1_))] dX10_says_192 hl (kk := 4) rfl (by decide) rfl (fun ls hl => ?_)
              refine j_goto E 45 dX10_says_195 (by decide) ?_
              exact ih45 (gp + 1) y19_c45 y20_c45 y21_c45 H locs ls (rr (by omega)) (⟨by omega, by omega, by first | exact iv45.2.2.1 | exact Str_up iv45.2.2.1 (by omega) | exact Str_upW (Str_ne (Str_up iv45.2.2.1 (by omega))) (by omega) | exact hu_, by omega, by first | exact iv45.2.2.2.2.1 | exact Stz_up iv45.2.2.2.2.1 (by omega) (by omega) (by omega) | exact hz_, by first | exact hr_1 iv45.2.2.2.2.2 (by omega) (by show ¬ (f_0 56 gp) = 0; omega) (by omega) (by omega) (Or.inr (by omega)) | exact hr_1 iv45.2.2.2.2.2 (by omega) (by show ¬ (f_0 56 gp) = 0; omega) (by omega) (by omega) (Or.inl (by show ¬ (f_0 9 ((f_0 4 gp))) = 0; omega)) | exact hr_2 iv45.2.2.2.2.2 (by omega) (by show ¬ (f_0 56 gp) = 0; omega) (by omega) (by omega) (fun (h_ : ¬ (f_0 9 ((f_0 4 gp))) = 0) => by omega) (by omega) | exact hr3_ | exact hr_4 iv45.2.2.2.2.2 (by omega) (Or.inl (fun (h_ : ¬ (f_0 56 gp) = 0) => by omega)) | exact hr_4 iv45.2.2.2.2.2 (by omega) (Or.inr ⟨by omega, by omega⟩)⟩) (by omega) hw (lv_sub hl [2, 3, 4, 0] rfl)
  exact L45_8 _ 0 (f_0 19) (f_0 20) (f_0 21) H locs ls (rr (by decide)) (⟨by omega, by omega, i_str, by omega, i_stz, Hr_0⟩) (mk_lt _) hw (lv_sub hl [2, 3, 1, 0] rfl)
set_option maxHeartbeats 4000000 in
set_option maxRecDepth 100000 in
theorem c_X10_tries (l : Launch) (D : va_G) (cy : Nat → ClassId) (q : Nat → Nat) (n_0 : Nat → Int) (f_0 : Nat → Int → Int) (v_x : Int) (r_v_x : inR v_x) (hp0 : MI (n_0) (f_0)) (hp1 : 0 ≤ v_x ∧ v_x < (n_0 12)) (hp2 : (∀ p_, 0 ≤ p_ → p_ < 24 → ¬ (f_0 56 p_) = 0 → p_ < (n_0 2))) (hp3 : (f_0 16 v_x) = -1) : MC l D cy q yX10_tries cX10_tries 3 none 5 [.int (J v_x)] n_0 f_0 (PV (fun (n_2 : Nat → Int) (f_2 : Nat → Int → Int) => ∃ (y57_2 : Int → Int) (y58_2 : Int → Int) (y18_2 : Int → Int) (y15_2 : Int → Int) (y17_2 : Int → Int) (y19_2 : Int → Int) (y20_2 : Int → Int) (y21_2 : Int → Int) (y16_2 : Int → Int) , n_2 = n_0 ∧ f_2 = upF (upF (upF (upF (upF (upF (upF (upF (upF f_0 15 y15_2) 16 y16_2) 17 y17_2) 18 y18_2) 19 y19_2) 20 y20_2) 21 y21_2) 57 y57_2) 58 y58_2 ∧ (MI (n_0) (upF (upF (upF (upF (upF (upF (upF (upF (upF f_0 15 y15_2) 16 y16_2) 17 y17_2) 18 y18_2) 19 y19_2) 20 y20_2) 21 y21_2) 57 y57_2) 58 y58_2) ∧ ∃ z_, Cal_ (GM_ (f_0 3) (f_0 4) (f_0 5) (f_0 6) (f_0 13) (f_0 14) (f_0 9) (f_0 50) (f_0 52) (f_0 54) (f_0 53)) (KM_ (n_0 2) (n_0 12) (n_0 48) (n_0 11) (n_0 10)) (n_0 1) (fun p_ => ¬ (f_0 56 p_) = 0) v_x (VM_ (f_0 19) (f_0 20) (f_0 21) (f_0 18)) (CM_ (f_0 15) (f_0 16) (f_0 17) (f_0 7)) (VM_ (y19_2) (y20_2) (y21_2) (y18_2)) (CM_ (y15_2) (y16_2) (y17_2) (f_0 7)) z_ ∧ ((z_ = 0 ∧ ¬ 0 ≤ (y18_2 (200 * v_x + (n_0 1)))) ∨ (z_ = 1 ∧ 0 ≤ (y18_2 (200 * v_x + (n_0 1))))) ∧ (∀ l_, 0 ≤ l_ → l_ < 24 → ¬ l_ = v_x → Sc_ (KM_ (n_0 2) (n_0 12) (n_0 48) (n_0 11) (n_0 10)) (VM_ (f_0 19) (f_0 20) (f_0 21) (f_0 18)) (CM_ (f_0 15) (f_0 16) (f_0 17) (f_0 7)) (VM_ (y19_2) (y20_2) (y21_2) (y18_2)) (CM_ (y15_2) (y16_2) (y17_2) (f_0 7)) l_)))) := by
  refine MC.ofv rfl (Nat.le_of_ble_eq_true rfl) ?_
  intro p e s m below meth c ls ar QW A0 H0 H locs E hK hA hw hl hret
  have hl : lv_has ls 3 [(0, .ref (q 0)), (1, .int (J v_x))] := hl
  have hp0_ := hp0
  obtain ⟨i_now, i_persons, i_lines, i_wordings, i_taped, i_suits, i_spk, i_fam, i_str, i_said, i_book, i_wds, i_tok, i_cod, i_far, i_tap, i_qua, i_sil, i_stz, i_way⟩ := hp0_
  refine j_iconst E 1 rfl dX10_tries_0 ?_
  refine j_istore_n E 2 rfl [(2, .int (J 0)), (0, .ref (q 0)), (1, .int (J v_x))] dX10_tries_1 rfl hl (by decide) rfl (fun ls hl => ?_)
  have L2_1 : ∀ (k2 : Nat) (gp : Int) (H : Heap) (locs : List Loc) (ls : Array Slot), inR gp → (0 ≤ gp ∧ gp ≤ 24 ∧ gp ≤ (n_0 2) ∧ ∀ p_, 0 ≤ p_ → p_ < gp → ¬ (¬ (f_0 56 p_) = 0 ∧ 0 < (f_0 19 (24 * p_ + v_x)))) → (24 - gp) < (k2 : Int) → WM D cy q (n_0) (f_0) A0 H0 H locs → lv_has ls 3 [(0, .ref (q 0)), (1, .int (J v_x)), (2, .int (J gp))] → W p l e (rmd 5 0 0) s m ar below meth c H locs 0 0 QW (F0 m 2 ls []) := by
    intro k2
    induction k2 with
    | zero =>
      intro gp H locs ls r_gp iv2 ms2 hw hl
      exfalso; omega
    | succ k2 ih2 =>
      intro gp H locs ls r_gp iv2 ms2 hw hl
      refine j_iload_n E 3 rfl dX10_tries_2 rfl (lv_at hl 2 rfl) ?_
      refine j_aload_n E 4 rfl dX10_tries_3 rfl (lv_at hl 0 rfl) ?_
      refine m_get_2 E hK hw (n_0 2) rfl 7 rfl dX10_tries_4 (fun rr3_ => ?_)
      refine j_icmp_ge E 10 34 rfl r_gp rr3_ dX10_tries_7 (by decide) (fun cc4_ => ?_) (fun cc4_ => ?_)
      · have sl_ := i_sil.1 v_x (by omega) (by omega) hp3
        refine j_aload_n E 35 rfl dX10_tries_34 rfl (lv_at hl 0 rfl) ?_
        refine m_ag_18 E hK hw 38 rfl dX10_tries_35 ?_
        refine j_sipush E 41 rfl dX10_tries_38 (by decide) ?_
        refine j_iload_n E 42 rfl dX10_tries_41 rfl (lv_at hl 1 rfl) ?_
        refine j_imul E 43 rfl dX10_tries_42 ?_
        refine j_aload_n E 44 rfl dX10_tries_43 rfl (lv_at hl 0 rfl) ?_
        refine m_get_1 E hK hw (n_0 1) rfl 47 rfl dX10_tries_44 (fun rr5_ => ?_)
        refine j_iadd E 48 rfl dX10_tries_47 ?_
        refine j_iconst E 49 rfl dX10_tries_48 ?_
        refine m_st_18 E hK hw (by omega) (rr (by decide)) 50 rfl dX10_tries_49 (fun H locs hw => ?_)
        have hw : WM D cy q (n_0) (upF f_0 18 (upA (f_0 18) ((200 * v_x) + (n_0 1)) ((-1)))) A0 H0 H locs := hw
        refine j_aload_n E 51 rfl dX10_tries_50 rfl (lv_at hl 0 rfl) ?_
        refine m_ag_15 E hK hw 54 rfl dX10_tries_51 ?_
        refine j_iload_n E 55 rfl dX10_tries_54 rfl (lv_at hl 1 rfl) ?_
        refine j_aload_n E 56 rfl dX10_tries_55 rfl (lv_at hl 0 rfl) ?_
        refine m_ag_15 E hK hw 59 rfl dX10_tries_56 ?_
        refine j_iload_n E 60 rfl dX10_tries_59 rfl (lv_at hl 1 rfl) ?_
        refine m_ld_15 E hK hw (f_0 15 v_x) rfl (by omega) 61 rfl dX10_tries_60 (fun rr7_ => ?_)
        refine j_iconst E 62 rfl dX10_tries_61 ?_
        refine j_iadd E 63 rfl dX10_tries_62 ?_
        refine m_st_15 E hK hw (by omega) (rr (by omega)) 64 rfl dX10_tries_63 (fun H locs hw => ?_)
        have hw : WM D cy q (n_0) (upF (upF f_0 15 (upA (f_0 15) v_x ((f_0 15 v_x) + 1))) 18 (upA (f_0 18) ((200 * v_x) + (n_0 1)) ((-1)))) A0 H0 H locs := hw
        refine j_aload_n E 65 rfl dX10_tries_64 rfl (lv_at hl 0 rfl) ?_
        refine m_ag_15 E hK hw 68 rfl dX10_tries_65 ?_
        refine j_iload_n E 69 rfl dX10_tries_68 rfl (lv_at hl 1 rfl) ?_
        refine m_ld_15 E hK hw (upA (f_0 15) v_x ((f_0 15 v_x) + 1) v_x) rfl (by omega) 70 rfl dX10_tries_69 (fun rr9_ => ?_)
        have us_ : (upA (f_0 15) v_x ((f_0 15 v_x) + 1) v_x) = f_0 15 v_x + 1 := upA_same _ _ _
        refine j_iconst E 71 rfl dX10_tries_70 ?_
        refine j_icmp_ne E 74 84 rfl rr9_ (rr (by decide)) dX10_tries_71 (by decide) (fun cc10_ => ?_) (fun cc10_ => ?_)
        · exact hret 84 (n_0) (upF (upF (upF (upF (upF (upF (upF (upF (upF f_0 15 (upA (f_0 15) v_x ((f_0 15 v_x) + 1))) 16 (f_0 16)) 17 (f_0 17)) 18 (upA (f_0 18) ((200 * v_x) + (n_0 1)) ((-1)))) 19 (f_0 19)) 20 (f_0 20)) 21 (f_0 21)) 57 (f_0 57)) 58 (f_0 58)) _ _ ls hw ⟨(f_0 57), (f_0 58), (upA (f_0 18) ((200 * v_x) + (n_0 1)) ((-1))), (upA (f_0 15) v_x ((f_0 15 v_x) + 1)), (f_0 17), (f_0 19), (f_0 20), (f_0 21), (f_0 16), rfl, rfl, ⟨⟨i_now, i_persons, i_lines, i_wordings, i_taped, i_suits, i_spk, i_fam, i_str, Said_up i_said (by omega), i_book, i_wds, i_tok, i_cod, i_far, i_tap, i_qua, by first | exact Sil_1 i_sil (by omega) hp3 (by omega) | exact Sil_2 i_sil (by omega) (by omega), i_stz, i_way⟩, 0, cal_sil (by omega) (fun p_ h1_ h2_ => iv2.2.2.2 p_ h1_ (by omega)) (by first | exact Or.inl ⟨by omega, rfl⟩ | exact Or.inr ⟨by omega, rfl⟩), Or.inl ⟨rfl, by rw [upA_same]; decide⟩, sc_sil (by omega) (by omega) (by first | exact Or.inl rfl | exact Or.inr rfl)⟩⟩ dX10_tries_84
        · refine j_aload_n E 75 rfl dX10_tries_74 rfl (lv_at hl 0 rfl) ?_
          refine m_ag_16 E hK hw 78 rfl dX10_tries_75 ?_
          refine j_iload_n E 79 rfl dX10_tries_78 rfl (lv_at hl 1 rfl) ?_
          refine j_aload_n E 80 rfl dX10_tries_79 rfl (lv_at hl 0 rfl) ?_
          refine m_get_1 E hK hw (n_0 1) rfl 83 rfl dX10_tries_80 (fun _ => ?_)
          refine m_st_16 E hK hw (by omega) rr5_ 84 rfl dX10_tries_83 (fun H locs hw => ?_)
          have hw : WM D cy q (n_0) (upF (upF (upF f_0 15 (upA (f_0 15) v_x ((f_0 15 v_x) + 1))) 16 (upA (f_0 16) v_x (n_0 1))) 18 (upA (f_0 18) ((200 * v_x) + (n_0 1)) ((-1)))) A0 H0 H locs := hw
          exact hret 84 (n_0) (upF (upF (upF (upF (upF (upF (upF (upF (upF f_0 15 (upA (f_0 15) v_x ((f_0 15 v_x) + 1))) 16 (upA (f_0 16) v_x (n_0 1))) 17 (f_0 17)) 18 (upA (f_0 18) ((200 * v_x) + (n_0 1)) ((-1)))) 19 (f_0 19)) 20 (f_0 20)) 21 (f_0 21)) 57 (f_0 57)) 58 (f_0 58)) _ _ ls hw ⟨(f_0 57), (f_0 58), (upA (f_0 18) ((200 * v_x) + (n_0 1)) ((-1))), (upA (f_0 15) v_x ((f_0 15 v_x) + 1)), (f_0 17), (f_0 19), (f_0 20), (f_0 21), (upA (f_0 16) v_x (n_0 1)), rfl, rfl, ⟨⟨i_now, i_persons, i_lines, i_wordings, i_taped, i_suits, i_spk, i_fam, i_str, Said_up i_said (by omega), i_book, i_wds, i_tok, i_cod, i_far, i_tap, i_qua, by first | exact Sil_1 i_sil (by omega) hp3 (by omega) | exact Sil_2 i_sil (by omega) (by omega), i_stz, i_way⟩, 0, cal_sil (by omega) (fun p_ h1_ h2_ => iv2.2.2.2 p_ h1_ (by omega)) (by first | exact Or.inl ⟨by omega, rfl⟩ | exact Or.inr ⟨by omega, rfl⟩), Or.inl ⟨rfl, by rw [upA_same]; decide⟩, sc_sil (by omega) (by omega) (by first | exact Or.inl rfl | exact Or.inr rfl)⟩⟩ dX10_tries_84
      · refine j_aload_n E 11 rfl dX10_tries_10 rfl (lv_at hl 0 rfl) ?_
        refine j_iload_n E 12 rfl dX10_tries_11 rfl (lv_at hl 2 rfl) ?_
        refine j_iload_n E 13 rfl dX10_tries_12 rfl (lv_at hl 1 rfl) ?_
        refine m_callp (po := fun z_0 => (z_0 = 1 ∧ (f_0 56 gp) ≠ 0 ∧ 0 < (f_0 19 (24 * gp + v_x))) ∨ (z_0 = 0 ∧ ¬ ((f_0 56 gp) ≠ 0 ∧ 0 < (f_0 19 (24 * gp + v_x))))) E (c_X10_isHeard l D cy q (n_0) (f_0) gp v_x  r_gp r_v_x (show 0 ≤ gp ∧ gp < 24 from by omega) (show 0 ≤ v_x ∧ v_x < 24 from by omega)) rfl mt_X10_isHeard ml_X10_337 hK hw hA ⟨Nat.le_of_ble_eq_true rfl, Nat.le_of_ble_eq_true rfl⟩ (As := [.int (J gp), .int (J v_x)]) (rest := []) rfl rfl hl.1 (Nat.le_of_ble_eq_true rfl) 16 rfl dX10_tries_13 (fun zz12_ H locs rr12_ hq12_ hw => ?_)
        have hh12_ : (zz12_ = 1 ∧ (f_0 56 gp) ≠ 0 ∧ 0 < (f_0 19 (24 * gp + v_x))) ∨ (zz12_ = 0 ∧ ¬ ((f_0 56 gp) ≠ 0 ∧ 0 < (f_0 19 (24 * gp + v_x)))) := hq12_
        clear hq12_
        rcases hh12_ with ⟨ee12_, hh12_⟩ | ⟨ee12_, hh12_⟩
        · subst ee12_
          refine j_if_ne E 19 22 rfl (rr (by decide)) dX10_tries_16 (by decide) (fun _ => ?_) (fun cc13_ => absurd cc13_ (by decide))
          refine j_aload_n E 23 rfl dX10_tries_22 rfl (lv_at hl 0 rfl) ?_
          refine j_iload_n E 24 rfl dX10_tries_23 rfl (lv_at hl 1 rfl) ?_
          have hs_ := i_str (24 * gp + v_x) (by omega)
          refine m_callv E (c_X10_says l D cy q (n_0) (f_0) v_x  r_v_x (show MI (n_0) (f_0) from hp0) (show 0 ≤ v_x ∧ v_x < (n_0 12) from by omega) (show 1 ≤ (n_0 29) from by omega) (show (∀ p_, 0 ≤ p_ → p_ < 24 → ¬ (f_0 56 p_) = 0 → p_ < (n_0 2)) from hp2) (show (∃ p_, 0 ≤ p_ ∧ p_ < (n_0 2) ∧ ¬ (f_0 56 p_) = 0 ∧ 0 < (f_0 19 (24 * p_ + v_x))) from ⟨gp, by omega, by omega, by omega, by omega⟩)) rfl mt_X10_says ml_X10_352 hK hw hA ⟨Nat.le_of_ble_eq_true rfl, Nat.le_of_ble_eq_true rfl⟩ (As := [.int (J v_x)]) (rest := []) rfl rfl hl.1 (Nat.le_of_ble_eq_true rfl) 27 rfl dX10_tries_24 (fun n_14 f_14 H locs hq14_ hw => ?_)
          obtain ⟨y57_14, y58_14, y18_14, y15_14, y17_14, y19_14, y20_14, y21_14, en14_, ef14_, hq14_⟩ := hq14_
          rw [en14_, ef14_] at hw; clear en14_ ef14_
          have hw : WM D cy q (n_0) (upF (upF (upF (upF (upF (upF (upF (upF f_0 15 y15_14) 17 y17_14) 18 y18_14) 19 y19_14) 20 y20_14) 21 y21_14) 57 y57_14) 58 y58_14) A0 H0 H locs := hw
          have hh14_ : MI (n_0) (upF (upF (upF (upF (upF (upF (upF (upF f_0 15 y15_14) 17 y17_14) 18 y18_14) 19 y19_14) 20 y20_14) 21 y21_14) 57 y57_14) 58 y58_14) ∧ ∃ w_, 0 ≤ w_ ∧ Sw_ ((n_0 2)).toNat (fun p_ => ¬ (f_0 56 p_) = 0 ∧ 0 < (f_0 19 (24 * p_ + v_x))) (fun p_ => (f_0 20 (24 * p_ + v_x))) (f_0 3) (n_0 11) (spk_ (0 ≤ (n_0 10) ∧ (n_0 10) < (n_0 2) ∧ ¬ (f_0 56 ((n_0 10))) = 0 ∧ 0 < (f_0 19 (24 * (n_0 10) + v_x))) ((f_0 20 (24 * (n_0 10) + v_x)))) w_ ∧ (y18_14) = upA (f_0 18) (200 * v_x + (n_0 1)) w_ ∧ (y15_14) = upA (f_0 15) v_x 0 ∧ (y17_14) = upA (f_0 17) v_x (w32_ ((f_0 17 v_x) + 1)) ∧ Hr_ (fun p_ => ¬ (f_0 56 p_) = 0) (fun p_ => ¬ (f_0 9 ((f_0 4 p_))) = 0) (f_0 5) (n_0 1) w_ v_x (n_0 2) (f_0 19) (f_0 20) (f_0 21) (y19_14) (y20_14) (y21_14) := hq14_
          clear hq14_
          have hz_ := hh14_
          clear hh14_
          exact hret 27 (n_0) (upF (upF (upF (upF (upF (upF (upF (upF (upF f_0 15 y15_14) 16 (f_0 16)) 17 y17_14) 18 y18_14) 19 y19_14) 20 y20_14) 21 y21_14) 57 y57_14) 58 y58_14) _ _ ls hw ⟨y57_14, y58_14, y18_14, y15_14, y17_14, y19_14, y20_14, y21_14, (f_0 16), rfl, rfl, ⟨hz_.1, 1, by obtain ⟨w_, w0_, w1_, w2_, w3_, w4_, w5_⟩ := hz_.2; rw [w2_, w3_, w4_]; exact ⟨cal_says w0_ w1_ w5_ (by omega) ⟨gp, by omega, by omega, by omega, by omega⟩, Or.inr ⟨rfl, by rw [upA_same]; exact w0_⟩, sc_says w5_ (by omega) (by omega)⟩⟩⟩ dX10_tries_27
        · subst ee12_
          refine j_if_ne E 19 22 rfl (rr (by decide)) dX10_tries_16 (by decide) (fun cc15_ => absurd cc15_ (by decide)) (fun _ => ?_)
          refine j_goto E 28 dX10_tries_19 (by decide) ?_
          refine j_iinc E 31 rfl [(2, .int (J (gp + 1))), (0, .ref (q 0)), (1, .int (J v_x))] dX10_tries_28 hl (kk := 2) rfl (by decide) rfl (fun ls hl => ?_)
          refine j_goto E 2 dX10_tries_31 (by decide) ?_
          exact ih2 (gp + 1) H locs ls (rr (by omega)) (⟨by omega, by omega, by omega, nx_all (P := fun p_ => ¬ (¬ (f_0 56 p_) = 0 ∧ 0 < (f_0 19 (24 * p_ + v_x)))) iv2.2.2.2 (fun h_ => by omega)⟩) (by omega) hw (lv_sub hl [1, 2, 0] rfl)
  exact L2_1 _ 0 H locs ls (rr (by decide)) (⟨by omega, by omega, by omega, fun p_ h1_ h2_ => absurd h2_ (by omega)⟩) (mk_lt _) hw (lv_sub hl [1, 2, 0] rfl)
set_option maxHeartbeats 4000000 in
set_option maxRecDepth 100000 in
theorem c_X10_fades (l : Launch) (D : va_G) (cy : Nat → ClassId) (q : Nat → Nat) (n_0 : Nat → Int) (f_0 : Nat → Int → Int) (v_x : Int) (r_v_x : inR v_x) (hp0 : MI (n_0) (f_0)) (hp1 : 0 ≤ v_x ∧ v_x < (n_0 12)) : MC l D cy q yX10_fades cX10_fades 4 none 2 [.int (J v_x)] n_0 f_0 (PV (fun (n_2 : Nat → Int) (f_2 : Nat → Int → Int) => ∃ (y19_2 : Int → Int) , n_2 = n_0 ∧ f_2 = upF f_0 19 y19_2 ∧ (MI (n_0) (upF f_0 19 y19_2) ∧ (((¬ 0 ≤ (f_0 18 (200 * v_x + (n_0 1))) ∧ ((f_0 14 v_x) = 0 ∨ (n_0 1) % 3 = 2)) ∧ Fx_ (f_0 6) v_x (n_0 2) (f_0 19) (y19_2)) ∨ (¬ (¬ 0 ≤ (f_0 18 (200 * v_x + (n_0 1))) ∧ ((f_0 14 v_x) = 0 ∨ (n_0 1) % 3 = 2)) ∧ (y19_2) = (f_0 19)))))) := by
  refine MC.ofv rfl (Nat.le_of_ble_eq_true rfl) ?_
  intro p e s m below meth c ls ar QW A0 H0 H locs E hK hA hw hl hret
  have hl : lv_has ls 4 [(0, .ref (q 0)), (1, .int (J v_x))] := hl
  obtain ⟨i_now, i_persons, i_lines, i_wordings, i_taped, i_suits, i_spk, i_fam, i_str, i_said, i_book, i_wds, i_tok, i_cod, i_far, i_tap, i_qua, i_sil, i_stz, i_way⟩ := hp0
  refine j_aload_n E 1 rfl dX10_fades_0 rfl (lv_at hl 0 rfl) ?_
  refine m_ag_18 E hK hw 4 rfl dX10_fades_1 ?_
  refine j_sipush E 7 rfl dX10_fades_4 (by decide) ?_
  refine j_iload_n E 8 rfl dX10_fades_7 rfl (lv_at hl 1 rfl) ?_
  refine j_imul E 9 rfl dX10_fades_8 ?_
  refine j_aload_n E 10 rfl dX10_fades_9 rfl (lv_at hl 0 rfl) ?_
  refine m_get_1 E hK hw (n_0 1) rfl 13 rfl dX10_fades_10 (fun rr1_ => ?_)
  refine j_iadd E 14 rfl dX10_fades_13 ?_
  refine m_ld_18 E hK hw (f_0 18 ((200 * v_x) + (n_0 1))) rfl (by omega) 15 rfl dX10_fades_14 (fun rr2_ => ?_)
  refine j_if_ge E 18 37 rfl rr2_ dX10_fades_15 (by decide) (fun cc3_ => ?_) (fun cc3_ => ?_)
  · exact hret 37 (n_0) (upF f_0 19 (f_0 19)) _ _ ls hw ⟨(f_0 19), rfl, rfl, ⟨⟨i_now, i_persons, i_lines, i_wordings, i_taped, i_suits, i_spk, i_fam, i_str, i_said, i_book, i_wds, i_tok, i_cod, i_far, i_tap, i_qua, i_sil, i_stz, i_way⟩, Or.inr ⟨by omega, rfl⟩⟩⟩ dX10_fades_37
  · refine j_aload_n E 19 rfl dX10_fades_18 rfl (lv_at hl 0 rfl) ?_
    refine m_ag_14 E hK hw 22 rfl dX10_fades_19 ?_
    refine j_iload_n E 23 rfl dX10_fades_22 rfl (lv_at hl 1 rfl) ?_
    refine m_ld_14 E hK hw (f_0 14 v_x) rfl (by omega) 24 rfl dX10_fades_23 (fun rr4_ => ?_)
    refine j_if_eq E 27 38 rfl rr4_ dX10_fades_24 (by decide) (fun cc5_ => ?_) (fun cc5_ => ?_)
    · refine j_iconst E 39 rfl dX10_fades_38 ?_
      refine j_istore_n E 40 rfl [(2, .int (J 0)), (0, .ref (q 0)), (1, .int (J v_x))] dX10_fades_39 rfl hl (by decide) rfl (fun ls hl => ?_)
      have L40_6 : ∀ (k40 : Nat) (gp : Int) (y19_c40 : Int → Int) (H : Heap) (locs : List Loc) (ls : Array Slot), inR gp → (0 ≤ gp ∧ gp ≤ 24 ∧ Str_ (y19_c40) (f_0 20) (n_0 29) ∧ gp ≤ (n_0 2) ∧ Stz_ (y19_c40) (n_0 2) (n_0 12) ∧ Fx_ (f_0 6) v_x gp (f_0 19) (y19_c40)) → (24 - gp) < (k40 : Int) → WM D cy q (n_0) (upF f_0 19 y19_c40) A0 H0 H locs → lv_has ls 4 [(0, .ref (q 0)), (1, .int (J v_x)), (2, .int (J gp))] → W p l e (rmd 2 0 0) s m ar below meth c H locs 0 0 QW (F0 m 40 ls []) := by
        intro k40
        induction k40 with
        | zero =>
          intro gp y19_c40 H locs ls r_gp iv40 ms40 hw hl
          exfalso; omega
        | succ k40 ih40 =>
          intro gp y19_c40 H locs ls r_gp iv40 ms40 hw hl
          refine j_iload_n E 41 rfl dX10_fades_40 rfl (lv_at hl 2 rfl) ?_
          refine j_aload_n E 42 rfl dX10_fades_41 rfl (lv_at hl 0 rfl) ?_
          refine m_get_2 E hK hw (n_0 2) rfl 45 rfl dX10_fades_42 (fun rr8_ => ?_)
          refine j_icmp_ge E 48 92 rfl r_gp rr8_ dX10_fades_45 (by decide) (fun cc9_ => ?_) (fun cc9_ => ?_)
          · exact hret 92 (n_0) (upF f_0 19 y19_c40) _ _ ls hw ⟨y19_c40, rfl, rfl, ⟨⟨i_now, i_persons, i_lines, i_wordings, i_taped, i_suits, i_spk, i_fam, iv40.2.2.1, i_said, i_book, i_wds, i_tok, i_cod, i_far, i_tap, i_qua, i_sil, iv40.2.2.2.2.1, i_way⟩, Or.inl ⟨by omega, by rw [show (n_0 2) = gp by omega]; exact iv40.2.2.2.2.2⟩⟩⟩ dX10_fades_92
          · refine j_bipush E 50 rfl dX10_fades_48 (by decide) ?_
            refine j_iload_n E 51 rfl dX10_fades_50 rfl (lv_at hl 2 rfl) ?_
            refine j_imul E 52 rfl dX10_fades_51 ?_
            refine j_iload_n E 53 rfl dX10_fades_52 rfl (lv_at hl 1 rfl) ?_
            refine j_iadd E 54 rfl dX10_fades_53 ?_
            refine j_istore_n E 55 rfl [(3, .int (J ((24 * gp) + v_x))), (0, .ref (q 0)), (1, .int (J v_x)), (2, .int (J gp))] dX10_fades_54 rfl hl (by decide) rfl (fun ls hl => ?_)
            refine j_aload_n E 56 rfl dX10_fades_55 rfl (lv_at hl 1 rfl) ?_
            refine j_iload_n E 57 rfl dX10_fades_56 rfl (lv_at hl 3 rfl) ?_
            refine m_callp (po := fun z_0 => (z_0 = 1 ∧ 0 ≤ gp ∧ gp < (n_0 2) ∧ (f_0 6 gp) = -1) ∨ (z_0 = 0 ∧ ¬ (0 ≤ gp ∧ gp < (n_0 2) ∧ (f_0 6 gp) = -1))) E (c_X10_isLiving l D cy q (n_0) (upF f_0 19 y19_c40) gp  r_gp (show (n_0 2) ≤ 24 from by omega)) rfl mt_X10_isLiving ml_X10_176 hK hw hA ⟨Nat.le_of_ble_eq_true rfl, Nat.le_of_ble_eq_true rfl⟩ (As := [.int (J gp)]) (rest := []) rfl rfl hl.1 (Nat.le_of_ble_eq_true rfl) 60 rfl dX10_fades_57 (fun zz10_ H locs rr10_ hq10_ hw => ?_)
            have hh10_ : (zz10_ = 1 ∧ 0 ≤ gp ∧ gp < (n_0 2) ∧ (f_0 6 gp) = -1) ∨ (zz10_ = 0 ∧ ¬ (0 ≤ gp ∧ gp < (n_0 2) ∧ (f_0 6 gp) = -1)) := hq10_
            clear hq10_
            rcases hh10_ with ⟨ee10_, hh10_⟩ | ⟨ee10_, hh10_⟩
            · subst ee10_
              refine j_if_eq E 63 86 rfl (rr (by decide)) dX10_fades_60 (by decide) (fun cc11_ => absurd cc11_ (by decide)) (fun _ => ?_)
              refine j_aload_n E 64 rfl dX10_fades_63 rfl (lv_at hl 1 rfl) ?_
              refine m_ag_19 E hK hw 67 rfl dX10_fades_64 ?_
              refine j_iload_n E 68 rfl dX10_fades_67 rfl (lv_at hl 0 rfl) ?_
              refine m_ld_19 E hK hw (y19_c40 ((24 * gp) + v_x)) rfl (by omega) 69 rfl dX10_fades_68 (fun rr12_ => ?_)
              refine j_if_le E 72 86 rfl rr12_ dX10_fades_69 (by decide) (fun cc13_ => ?_) (fun cc13_ => ?_)
              · refine j_iinc E 89 rfl [(2, .int (J (gp + 1))), (3, .int (J ((24 * gp) + v_x))), (0, .ref (q 0)), (1, .int (J v_x))] dX10_fades_86 hl (kk := 3) rfl (by decide) rfl (fun ls hl => ?_)
                refine j_goto E 40 dX10_fades_89 (by decide) ?_
                exact ih40 (gp + 1) y19_c40 H locs ls (rr (by omega)) (⟨by omega, by omega, by first | exact iv40.2.2.1 | exact Str_down iv40.2.2.1, by omega, by first | exact iv40.2.2.2.2.1 | exact Stz_up iv40.2.2.2.2.1 (by omega) (by omega) (by have q_ := iv40.2.2.2.2.1.1 (24 * gp + v_x); omega), by first | exact Fx_up iv40.2.2.2.2.2 (by omega) (by omega) (by omega) (by omega) | exact Fx_no iv40.2.2.2.2.2 (by omega) (by omega)⟩) (by omega) hw (lv_sub hl [2, 3, 0] rfl)
              · refine j_aload_n E 73 rfl dX10_fades_72 rfl (lv_at hl 1 rfl) ?_
                refine m_ag_19 E hK hw 76 rfl dX10_fades_73 ?_
                refine j_iload_n E 77 rfl dX10_fades_76 rfl (lv_at hl 0 rfl) ?_
                refine j_aload_n E 78 rfl dX10_fades_77 rfl (lv_at hl 1 rfl) ?_
                refine m_ag_19 E hK hw 81 rfl dX10_fades_78 ?_
                refine j_iload_n E 82 rfl dX10_fades_81 rfl (lv_at hl 0 rfl) ?_
                refine m_ld_19 E hK hw (y19_c40 ((24 * gp) + v_x)) rfl (by omega) 83 rfl dX10_fades_82 (fun _ => ?_)
                refine j_iconst E 84 rfl dX10_fades_83 ?_
                refine j_isub E 85 rfl dX10_fades_84 ?_
                refine m_st_19 E hK hw (by omega) (rr (by omega)) 86 rfl dX10_fades_85 (fun H locs hw => ?_)
                have hw : WM D cy q (n_0) (upF f_0 19 (upA (y19_c40) ((24 * gp) + v_x) ((y19_c40 ((24 * gp) + v_x)) - 1))) A0 H0 H locs := hw
                refine j_iinc E 89 rfl [(2, .int (J (gp + 1))), (3, .int (J ((24 * gp) + v_x))), (0, .ref (q 0)), (1, .int (J v_x))] dX10_fades_86 hl (kk := 3) rfl (by decide) rfl (fun ls hl => ?_)
                refine j_goto E 40 dX10_fades_89 (by decide) ?_
                exact ih40 (gp + 1) (upA (y19_c40) ((24 * gp) + v_x) ((y19_c40 ((24 * gp) + v_x)) - 1)) H locs ls (rr (by omega)) (⟨by omega, by omega, by first | exact iv40.2.2.1 | exact Str_down iv40.2.2.1, by omega, by first | exact iv40.2.2.2.2.1 | exact Stz_up iv40.2.2.2.2.1 (by omega) (by omega) (by have q_ := iv40.2.2.2.2.1.1 (24 * gp + v_x); omega), by first | exact Fx_up iv40.2.2.2.2.2 (by omega) (by omega) (by omega) (by omega) | exact Fx_no iv40.2.2.2.2.2 (by omega) (by omega)⟩) (by omega) hw (lv_sub hl [2, 3, 0] rfl)
            · subst ee10_
              refine j_if_eq E 63 86 rfl (rr (by decide)) dX10_fades_60 (by decide) (fun _ => ?_) (fun cc15_ => absurd cc15_ (by decide))
              refine j_iinc E 89 rfl [(2, .int (J (gp + 1))), (3, .int (J ((24 * gp) + v_x))), (0, .ref (q 0)), (1, .int (J v_x))] dX10_fades_86 hl (kk := 3) rfl (by decide) rfl (fun ls hl => ?_)
              refine j_goto E 40 dX10_fades_89 (by decide) ?_
              exact ih40 (gp + 1) y19_c40 H locs ls (rr (by omega)) (⟨by omega, by omega, by first | exact iv40.2.2.1 | exact Str_down iv40.2.2.1, by omega, by first | exact iv40.2.2.2.2.1 | exact Stz_up iv40.2.2.2.2.1 (by omega) (by omega) (by have q_ := iv40.2.2.2.2.1.1 (24 * gp + v_x); omega), by first | exact Fx_up iv40.2.2.2.2.2 (by omega) (by omega) (by omega) (by omega) | exact Fx_no iv40.2.2.2.2.2 (by omega) (by omega)⟩) (by omega) hw (lv_sub hl [2, 3, 0] rfl)
      exact L40_6 _ 0 (f_0 19) H locs ls (rr (by decide)) (⟨by omega, by omega, i_str, by omega, i_stz, Fx_0⟩) (mk_lt _) hw (lv_sub hl [1, 2, 0] rfl)
    · refine j_aload_n E 28 rfl dX10_fades_27 rfl (lv_at hl 0 rfl) ?_
      refine m_get_1 E hK hw (n_0 1) rfl 31 rfl dX10_fades_28 (fun _ => ?_)
      refine j_iconst E 32 rfl dX10_fades_31 ?_
      refine j_irem E 33 rfl dX10_fades_32 (by decide +kernel) (fun zz16_ rr16_ ee16_ => ?_)
      have rm_ := rem3 ee16_ rr16_ (by omega)
      refine j_iconst E 34 rfl dX10_fades_33 ?_
      refine j_icmp_eq E 37 38 rfl rr16_ (rr (by decide)) dX10_fades_34 (by decide) (fun cc17_ => ?_) (fun cc17_ => ?_)
      · refine j_iconst E 39 rfl dX10_fades_38 ?_
        refine j_istore_n E 40 rfl [(2, .int (J 0)), (0, .ref (q 0)), (1, .int (J v_x))] dX10_fades_39 rfl hl (by decide) rfl (fun ls hl => ?_)
        have L40_18 : ∀ (k40 : Nat) (gp : Int) (y19_c40 : Int → Int) (H : Heap) (locs : List Loc) (ls : Array Slot), inR gp → (0 ≤ gp ∧ gp ≤ 24 ∧ Str_ (y19_c40) (f_0 20) (n_0 29) ∧ gp ≤ (n_0 2) ∧ Stz_ (y19_c40) (n_0 2) (n_0 12) ∧ Fx_ (f_0 6) v_x gp (f_0 19) (y19_c40)) → (24 - gp) < (k40 : Int) → WM D cy q (n_0) (upF f_0 19 y19_c40) A0 H0 H locs → lv_has ls 4 [(0, .ref (q 0)), (1, .int (J v_x)), (2, .int (J gp))] → W p l e (rmd 2 0 0) s m ar below meth c H locs 0 0 QW (F0 m 40 ls []) := by
          intro k40
          induction k40 with
          | zero =>
            intro gp y19_c40 H locs ls r_gp iv40 ms40 hw hl
            exfalso; omega
          | succ k40 ih40 =>
            intro gp y19_c40 H locs ls r_gp iv40 ms40 hw hl
            refine j_iload_n E 41 rfl dX10_fades_40 rfl (lv_at hl 2 rfl) ?_
            refine j_aload_n E 42 rfl dX10_fades_41 rfl (lv_at hl 0 rfl) ?_
            refine m_get_2 E hK hw (n_0 2) rfl 45 rfl dX10_fades_42 (fun rr20_ => ?_)
            refine j_icmp_ge E 48 92 rfl r_gp rr20_ dX10_fades_45 (by decide) (fun cc21_ => ?_) (fun cc21_ => ?_)
            · exact hret 92 (n_0) (upF f_0 19 y19_c40) _ _ ls hw ⟨y19_c40, rfl, rfl, ⟨⟨i_now, i_persons, i_lines, i_wordings, i_taped, i_suits, i_spk, i_fam, iv40.2.2.1, i_said, i_book, i_wds, i_tok, i_cod, i_far, i_tap, i_qua, i_sil, iv40.2.2.2.2.1, i_way⟩, Or.inl ⟨by omega, by rw [show (n_0 2) = gp by omega]; exact iv40.2.2.2.2.2⟩⟩⟩ dX10_fades_92
            · refine j_bipush E 50 rfl dX10_fades_48 (by decide) ?_
              refine j_iload_n E 51 rfl dX10_fades_50 rfl (lv_at hl 2 rfl) ?_
              refine j_imul E 52 rfl dX10_fades_51 ?_
              refine j_iload_n E 53 rfl dX10_fades_52 rfl (lv_at hl 1 rfl) ?_
              refine j_iadd E 54 rfl dX10_fades_53 ?_
              refine j_istore_n E 55 rfl [(3, .int (J ((24 * gp) + v_x))), (0, .ref (q 0)), (1, .int (J v_x)), (2, .int (J gp))] dX10_fades_54 rfl hl (by decide) rfl (fun ls hl => ?_)
              refine j_aload_n E 56 rfl dX10_fades_55 rfl (lv_at hl 1 rfl) ?_
              refine j_iload_n E 57 rfl dX10_fades_56 rfl (lv_at hl 3 rfl) ?_
              refine m_callp (po := fun z_0 => (z_0 = 1 ∧ 0 ≤ gp ∧ gp < (n_0 2) ∧ (f_0 6 gp) = -1) ∨ (z_0 = 0 ∧ ¬ (0 ≤ gp ∧ gp < (n_0 2) ∧ (f_0 6 gp) = -1))) E (c_X10_isLiving l D cy q (n_0) (upF f_0 19 y19_c40) gp  r_gp (show (n_0 2) ≤ 24 from by omega)) rfl mt_X10_isLiving ml_X10_176 hK hw hA ⟨Nat.le_of_ble_eq_true rfl, Nat.le_of_ble_eq_true rfl⟩ (As := [.int (J gp)]) (rest := []) rfl rfl hl.1 (Nat.le_of_ble_eq_true rfl) 60 rfl dX10_fades_57 (fun zz22_ H locs rr22_ hq22_ hw => ?_)
              have hh22_ : (zz22_ = 1 ∧ 0 ≤ gp ∧ gp < (n_0 2) ∧ (f_0 6 gp) = -1) ∨ (zz22_ = 0 ∧ ¬ (0 ≤ gp ∧ gp < (n_0 2) ∧ (f_0 6 gp) = -1)) := hq22_
              clear hq22_
              rcases hh22_ with ⟨ee22_, hh22_⟩ | ⟨ee22_, hh22_⟩
              · subst ee22_
                refine j_if_eq E 63 86 rfl (rr (by decide)) dX10_fades_60 (by decide) (fun cc23_ => absurd cc23_ (by decide)) (fun _ => ?_)
                refine j_aload_n E 64 rfl dX10_fades_63 rfl (lv_at hl 1 rfl) ?_
                refine m_ag_19 E hK hw 67 rfl dX10_fades_64 ?_
                refine j_iload_n E 68 rfl dX10_fades_67 rfl (lv_at hl 0 rfl) ?_
                refine m_ld_19 E hK hw (y19_c40 ((24 * gp) + v_x)) rfl (by omega) 69 rfl dX10_fades_68 (fun rr24_ => ?_)
                refine j_if_le E 72 86 rfl rr24_ dX10_fades_69 (by decide) (fun cc25_ => ?_) (fun cc25_ => ?_)
                · refine j_iinc E 89 rfl [(2, .int (J (gp + 1))), (3, .int (J ((24 * gp) + v_x))), (0, .ref (q 0)), (1, .int (J v_x))] dX10_fades_86 hl (kk := 3) rfl (by decide) rfl (fun ls hl => ?_)
                  refine j_goto E 40 dX10_fades_89 (by decide) ?_
                  exact ih40 (gp + 1) y19_c40 H locs ls (rr (by omega)) (⟨by omega, by omega, by first | exact iv40.2.2.1 | exact Str_down iv40.2.2.1, by omega, by first | exact iv40.2.2.2.2.1 | exact Stz_up iv40.2.2.2.2.1 (by omega) (by omega) (by have q_ := iv40.2.2.2.2.1.1 (24 * gp + v_x); omega), by first | exact Fx_up iv40.2.2.2.2.2 (by omega) (by omega) (by omega) (by omega) | exact Fx_no iv40.2.2.2.2.2 (by omega) (by omega)⟩) (by omega) hw (lv_sub hl [2, 3, 0] rfl)
                · refine j_aload_n E 73 rfl dX10_fades_72 rfl (lv_at hl 1 rfl) ?_
                  refine m_ag_19 E hK hw 76 rfl dX10_fades_73 ?_
                  refine j_iload_n E 77 rfl dX10_fades_76 rfl (lv_at hl 0 rfl) ?_
                  refine j_aload_n E 78 rfl dX10_fades_77 rfl (lv_at hl 1 rfl) ?_
                  refine m_ag_19 E hK hw 81 rfl dX10_fades_78 ?_
                  refine j_iload_n E 82 rfl dX10_fades_81 rfl (lv_at hl 0 rfl) ?_
                  refine m_ld_19 E hK hw (y19_c40 ((24 * gp) + v_x)) rfl (by omega) 83 rfl dX10_fades_82 (fun _ => ?_)
                  refine j_iconst E 84 rfl dX10_fades_83 ?_
                  refine j_isub E 85 rfl dX10_fades_84 ?_
                  refine m_st_19 E hK hw (by omega) (rr (by omega)) 86 rfl dX10_fades_85 (fun H locs hw => ?_)
                  have hw : WM D cy q (n_0) (upF f_0 19 (upA (y19_c40) ((24 * gp) + v_x) ((y19_c40 ((24 * gp) + v_x)) - 1))) A0 H0 H locs := hw
                  refine j_iinc E 89 rfl [(2, .int (J (gp + 1))), (3, .int (J ((24 * gp) + v_x))), (0, .ref (q 0)), (1, .int (J v_x))] dX10_fades_86 hl (kk := 3) rfl (by decide) rfl (fun ls hl => ?_)
                  refine j_goto E 40 dX10_fades_89 (by decide) ?_
                  exact ih40 (gp + 1) (upA (y19_c40) ((24 * gp) + v_x) ((y19_c40 ((24 * gp) + v_x)) - 1)) H locs ls (rr (by omega)) (⟨by omega, by omega, by first | exact iv40.2.2.1 | exact Str_down iv40.2.2.1, by omega, by first | exact iv40.2.2.2.2.1 | exact Stz_up iv40.2.2.2.2.1 (by omega) (by omega) (by have q_ := iv40.2.2.2.2.1.1 (24 * gp + v_x); omega), by first | exact Fx_up iv40.2.2.2.2.2 (by omega) (by omega) (by omega) (by omega) | exact Fx_no iv40.2.2.2.2.2 (by omega) (by omega)⟩) (by omega) hw (lv_sub hl [2, 3, 0] rfl)
              · subst ee22_
                refine j_if_eq E 63 86 rfl (rr (by decide)) dX10_fades_60 (by decide) (fun _ => ?_) (fun cc27_ => absurd cc27_ (by decide))
                refine j_iinc E 89 rfl [(2, .int (J (gp + 1))), (3, .int (J ((24 * gp) + v_x))), (0, .ref (q 0)), (1, .int (J v_x))] dX10_fades_86 hl (kk := 3) rfl (by decide) rfl (fun ls hl => ?_)
                refine j_goto E 40 dX10_fades_89 (by decide) ?_
                exact ih40 (gp + 1) y19_c40 H locs ls (rr (by omega)) (⟨by omega, by omega, by first | exact iv40.2.2.1 | exact Str_down iv40.2.2.1, by omega, by first | exact iv40.2.2.2.2.1 | exact Stz_up iv40.2.2.2.2.1 (by omega) (by omega) (by have q_ := iv40.2.2.2.2.1.1 (24 * gp + v_x); omega), by first | exact Fx_up iv40.2.2.2.2.2 (by omega) (by omega) (by omega) (by omega) | exact Fx_no iv40.2.2.2.2.2 (by omega) (by omega)⟩) (by omega) hw (lv_sub hl [2, 3, 0] rfl)
        exact L40_18 _ 0 (f_0 19) H locs ls (rr (by decide)) (⟨by omega, by omega, i_str, by omega, i_stz, Fx_0⟩) (mk_lt _) hw (lv_sub hl [1, 2, 0] rfl)
      · exact hret 37 (n_0) (upF f_0 19 (f_0 19)) _ _ ls hw ⟨(f_0 19), rfl, rfl, ⟨⟨i_now, i_persons, i_lines, i_wordings, i_taped, i_suits, i_spk, i_fam, i_str, i_said, i_book, i_wds, i_tok, i_cod, i_far, i_tap, i_qua, i_sil, i_stz, i_way⟩, Or.inr ⟨by omega, rfl⟩⟩⟩ dX10_fades_37
set_option maxHeartbeats 4000000 in
set_option maxRecDepth 100000 in
theorem c_X10_takesPresent (l : Launch) (D : va_G) (cy : Nat → ClassId) (q : Nat → Nat) (n_0 : Nat → Int) (f_0 : Nat → Int → Int) (hp0 : (n_0 2) ≤ 24) (hp1 : 0 ≤ (n_0 1) ∧ (n_0 1) ≤ 199) (hp2 : 0 ≤ (n_0 48) ∧ (n_0 48) ≤ 100) : MC l D cy q yX10_takesPresent cX10_takesPresent 2 none 3 [] n_0 f_0 (PV (fun (n_2 : Nat → Int) (f_2 : Nat → Int → Int) => ∃ (y56_2 : Int → Int) , n_2 = n_0 ∧ f_2 = upF f_0 56 y56_2 ∧ (∀ p_, 0 ≤ p_ → p_ < 24 → (¬ (y56_2 p_) = 0 ↔ (0 ≤ p_ ∧ p_ < (n_0 2) ∧ (f_0 6 p_) = -1) ∧ (f_0 7 p_) = 0 ∧ ¬ Ou_ (n_0 48) (f_0 50) (f_0 52) (f_0 54) (f_0 53) (n_0 1) p_)))) := by
  refine MC.ofv rfl (Nat.le_of_ble_eq_true rfl) ?_
  intro p e s m below meth c ls ar QW A0 H0 H locs E hK hA hw hl hret
  have hl : lv_has ls 2 [(0, .ref (q 0))] := hl
  refine j_iconst E 1 rfl dX10_takesPresent_0 ?_
  refine j_istore_n E 2 rfl [(1, .int (J 0)), (0, .ref (q 0))] dX10_takesPresent_1 rfl hl (by decide) rfl (fun ls hl => ?_)
  have L2_1 : ∀ (k2 : Nat) (gp : Int) (y56_c2 : Int → Int) (H : Heap) (locs : List Loc) (ls : Array Slot), inR gp → (0 ≤ gp ∧ gp ≤ 24 ∧ ∀ p_, 0 ≤ p_ → p_ < gp → (¬ (y56_c2 p_) = 0 ↔ (0 ≤ p_ ∧ p_ < (n_0 2) ∧ (f_0 6 p_) = -1) ∧ (f_0 7 p_) = 0 ∧ ¬ Ou_ (n_0 48) (f_0 50) (f_0 52) (f_0 54) (f_0 53) (n_0 1) p_)) → (24 - gp) < (k2 : Int) → WM D cy q (n_0) (upF f_0 56 y56_c2) A0 H0 H locs → lv_has ls 2 [(0, .ref (q 0)), (1, .int (J gp))] → W p l e (rmd 3 0 0) s m ar below meth c H locs 0 0 QW (F0 m 2 ls []) := by
    intro k2
    induction k2 with
    | zero =>
      intro gp y56_c2 H locs ls r_gp iv2 ms2 hw hl
      exfalso; omega
    | succ k2 ih2 =>
      intro gp y56_c2 H locs ls r_gp iv2 ms2 hw hl
      refine j_iload_n E 3 rfl dX10_takesPresent_2 rfl (lv_at hl 1 rfl) ?_
      refine j_bipush E 5 rfl dX10_takesPresent_3 (by decide) ?_
      refine j_icmp_ge E 8 50 rfl r_gp (rr (by decide)) dX10_takesPresent_5 (by decide) (fun cc3_ => ?_) (fun cc3_ => ?_)
      · exact hret 50 (n_0) (upF f_0 56 y56_c2) _ _ ls hw ⟨y56_c2, rfl, rfl, fun p_ h1_ h2_ => iv2.2.2 p_ h1_ (by omega)⟩ dX10_takesPresent_50
      · refine j_aload_n E 9 rfl dX10_takesPresent_8 rfl (lv_at hl 0 rfl) ?_
        refine m_ag_56 E hK hw 12 rfl dX10_takesPresent_9 ?_
        refine j_iload_n E 13 rfl dX10_takesPresent_12 rfl (lv_at hl 1 rfl) ?_
        refine j_aload_n E 14 rfl dX10_takesPresent_13 rfl (lv_at hl 0 rfl) ?_
        refine j_iload_n E 15 rfl dX10_takesPresent_14 rfl (lv_at hl 1 rfl) ?_
        refine m_callp (po := fun z_0 => (z_0 = 1 ∧ 0 ≤ gp ∧ gp < (n_0 2) ∧ (f_0 6 gp) = -1) ∨ (z_0 = 0 ∧ ¬ (0 ≤ gp ∧ gp < (n_0 2) ∧ (f_0 6 gp) = -1))) E (c_X10_isLiving l D cy q (n_0) (upF f_0 56 y56_c2) gp  r_gp (show (n_0 2) ≤ 24 from by omega)) rfl mt_X10_isLiving ml_X10_176 hK hw hA ⟨Nat.le_of_ble_eq_true rfl, Nat.le_of_ble_eq_true rfl⟩ (As := [.int (J gp)]) (rest := [.int (J gp), .ref (q 56)]) rfl rfl hl.1 (Nat.le_of_ble_eq_true rfl) 18 rfl dX10_takesPresent_15 (fun zz4_ H locs rr4_ hq4_ hw => ?_)
        have hh4_ : (zz4_ = 1 ∧ 0 ≤ gp ∧ gp < (n_0 2) ∧ (f_0 6 gp) = -1) ∨ (zz4_ = 0 ∧ ¬ (0 ≤ gp ∧ gp < (n_0 2) ∧ (f_0 6 gp) = -1)) := hq4_
        clear hq4_
        rcases hh4_ with ⟨ee4_, hh4_⟩ | ⟨ee4_, hh4_⟩
        · subst ee4_
          have hl_ := hh4_
          clear hh4_
          refine j_if_eq E 21 42 rfl (rr (by decide)) dX10_takesPresent_18 (by decide) (fun cc5_ => absurd cc5_ (by decide)) (fun _ => ?_)
          refine j_aload_n E 22 rfl dX10_takesPresent_21 rfl (lv_at hl 0 rfl) ?_
          refine m_ag_7 E hK hw 25 rfl dX10_takesPresent_22 ?_
          refine j_iload_n E 26 rfl dX10_takesPresent_25 rfl (lv_at hl 1 rfl) ?_
          refine m_ld_7 E hK hw (f_0 7 gp) rfl (by omega) 27 rfl dX10_takesPresent_26 (fun rr6_ => ?_)
          refine j_if_ne E 30 42 rfl rr6_ dX10_takesPresent_27 (by decide) (fun cc7_ => ?_) (fun cc7_ => ?_)
          · refine j_iconst E 43 rfl dX10_takesPresent_42 ?_
            refine m_st_56 E hK hw (by omega) (rr (by decide)) (Or.inl rfl) 44 rfl dX10_takesPresent_43 (fun H locs hw => ?_)
            have hw : WM D cy q (n_0) (upF f_0 56 (upA (y56_c2) gp 0)) A0 H0 H locs := hw
            refine j_iinc E 47 rfl [(1, .int (J (gp + 1))), (0, .ref (q 0))] dX10_takesPresent_44 hl (kk := 1) rfl (by decide) rfl (fun ls hl => ?_)
            refine j_goto E 2 dX10_takesPresent_47 (by decide) ?_
            exact ih2 (gp + 1) (upA (y56_c2) gp 0) H locs ls (rr (by omega)) (⟨by omega, by omega, pz_step (Q := fun p_ => (0 ≤ p_ ∧ p_ < (n_0 2) ∧ (f_0 6 p_) = -1) ∧ (f_0 7 p_) = 0 ∧ ¬ Ou_ (n_0 48) (f_0 50) (f_0 52) (f_0 54) (f_0 53) (n_0 1) p_) iv2.2.2 (by first | exact ⟨fun _ => ⟨hl_, by omega, fun q_ => hno_ ⟨hl_, q_⟩⟩, fun _ => by decide⟩ | exact ⟨fun q_ => absurd rfl q_, fun q_ => absurd q_.1 hn_⟩ | exact ⟨fun q_ => absurd rfl q_, fun q_ => absurd ho_.2 q_.2.2⟩ | exact ⟨fun q_ => absurd rfl q_, fun q_ => absurd q_.2.1 (by omega)⟩)⟩) (by omega) hw (lv_sub hl [1, 0] rfl)
          · refine j_aload_n E 31 rfl dX10_takesPresent_30 rfl (lv_at hl 0 rfl) ?_
            refine j_iload_n E 32 rfl dX10_takesPresent_31 rfl (lv_at hl 1 rfl) ?_
            refine m_callp (po := fun z_0 => (z_0 = 1 ∧ (0 ≤ gp ∧ gp < (n_0 2) ∧ (f_0 6 gp) = -1) ∧ Ou_ (n_0 48) (f_0 50) (f_0 52) (f_0 54) (f_0 53) (n_0 1) gp) ∨ (z_0 = 0 ∧ ¬ ((0 ≤ gp ∧ gp < (n_0 2) ∧ (f_0 6 gp) = -1) ∧ Ou_ (n_0 48) (f_0 50) (f_0 52) (f_0 54) (f_0 53) (n_0 1) gp))) E (c_X10_isOutlaw l D cy q (n_0) (upF f_0 56 y56_c2) gp  r_gp (show (n_0 2) ≤ 24 from by omega) (show 0 ≤ (n_0 1) ∧ (n_0 1) ≤ 199 from by omega) (show 0 ≤ (n_0 48) ∧ (n_0 48) ≤ 100 from by omega)) rfl mt_X10_isOutlaw ml_X10_182 hK hw hA ⟨Nat.le_of_ble_eq_true rfl, Nat.le_of_ble_eq_true rfl⟩ (As := [.int (J gp)]) (rest := [.int (J gp), .ref (q 56)]) rfl rfl hl.1 (Nat.le_of_ble_eq_true rfl) 35 rfl dX10_takesPresent_32 (fun zz9_ H locs rr9_ hq9_ hw => ?_)
            have hh9_ : (zz9_ = 1 ∧ (0 ≤ gp ∧ gp < (n_0 2) ∧ (f_0 6 gp) = -1) ∧ Ou_ (n_0 48) (f_0 50) (f_0 52) (f_0 54) (f_0 53) (n_0 1) gp) ∨ (zz9_ = 0 ∧ ¬ ((0 ≤ gp ∧ gp < (n_0 2) ∧ (f_0 6 gp) = -1) ∧ Ou_ (n_0 48) (f_0 50) (f_0 52) (f_0 54) (f_0 53) (n_0 1) gp)) := hq9_
            clear hq9_
            rcases hh9_ with ⟨ee9_, hh9_⟩ | ⟨ee9_, hh9_⟩
            · subst ee9_
              have ho_ := hh9_
              clear hh9_
              refine j_if_ne E 38 42 rfl (rr (by decide)) dX10_takesPresent_35 (by decide) (fun _ => ?_) (fun cc10_ => absurd cc10_ (by decide))
              refine j_iconst E 43 rfl dX10_takesPresent_42 ?_
              refine m_st_56 E hK hw (by omega) (rr (by decide)) (Or.inl rfl) 44 rfl dX10_takesPresent_43 (fun H locs hw => ?_)
              have hw : WM D cy q (n_0) (upF f_0 56 (upA (y56_c2) gp 0)) A0 H0 H locs := hw
              refine j_iinc E 47 rfl [(1, .int (J (gp + 1))), (0, .ref (q 0))] dX10_takesPresent_44 hl (kk := 1) rfl (by decide) rfl (fun ls hl => ?_)
              refine j_goto E 2 dX10_takesPresent_47 (by decide) ?_
              exact ih2 (gp + 1) (upA (y56_c2) gp 0) H locs ls (rr (by omega)) (⟨by omega, by omega, pz_step (Q := fun p_ => (0 ≤ p_ ∧ p_ < (n_0 2) ∧ (f_0 6 p_) = -1) ∧ (f_0 7 p_) = 0 ∧ ¬ Ou_ (n_0 48) (f_0 50) (f_0 52) (f_0 54) (f_0 53) (n_0 1) p_) iv2.2.2 (by first | exact ⟨fun _ => ⟨hl_, by omega, fun q_ => hno_ ⟨hl_, q_⟩⟩, fun _ => by decide⟩ | exact ⟨fun q_ => absurd rfl q_, fun q_ => absurd q_.1 hn_⟩ | exact ⟨fun q_ => absurd rfl q_, fun q_ => absurd ho_.2 q_.2.2⟩ | exact ⟨fun q_ => absurd rfl q_, fun q_ => absurd q_.2.1 (by omega)⟩)⟩) (by omega) hw (lv_sub hl [1, 0] rfl)
            · subst ee9_
              have hno_ := hh9_
              clear hh9_
              refine j_if_ne E 38 42 rfl (rr (by decide)) dX10_takesPresent_35 (by decide) (fun cc12_ => absurd cc12_ (by decide)) (fun _ => ?_)
              refine j_iconst E 39 rfl dX10_takesPresent_38 ?_
              refine j_goto E 43 dX10_takesPresent_39 (by decide) ?_
              refine m_st_56 E hK hw (by omega) (rr (by decide)) (Or.inr rfl) 44 rfl dX10_takesPresent_43 (fun H locs hw => ?_)
              have hw : WM D cy q (n_0) (upF f_0 56 (upA (y56_c2) gp 1)) A0 H0 H locs := hw
              refine j_iinc E 47 rfl [(1, .int (J (gp + 1))), (0, .ref (q 0))] dX10_takesPresent_44 hl (kk := 1) rfl (by decide) rfl (fun ls hl => ?_)
              refine j_goto E 2 dX10_takesPresent_47 (by decide) ?_
              exact ih2 (gp + 1) (upA (y56_c2) gp 1) H locs ls (rr (by omega)) (⟨by omega, by omega, pz_step (Q := fun p_ => (0 ≤ p_ ∧ p_ < (n_0 2) ∧ (f_0 6 p_) = -1) ∧ (f_0 7 p_) = 0 ∧ ¬ Ou_ (n_0 48) (f_0 50) (f_0 52) (f_0 54) (f_0 53) (n_0 1) p_) iv2.2.2 (by first | exact ⟨fun _ => ⟨hl_, by omega, fun q_ => hno_ ⟨hl_, q_⟩⟩, fun _ => by decide⟩ | exact ⟨fun q_ => absurd rfl q_, fun q_ => absurd q_.1 hn_⟩ | exact ⟨fun q_ => absurd rfl q_, fun q_ => absurd ho_.2 q_.2.2⟩ | exact ⟨fun q_ => absurd rfl q_, fun q_ => absurd q_.2.1 (by omega)⟩)⟩) (by omega) hw (lv_sub hl [1, 0] rfl)
        · subst ee4_
          have hn_ := hh4_
          clear hh4_
          refine j_if_eq E 21 42 rfl (rr (by decide)) dX10_takesPresent_18 (by decide) (fun _ => ?_) (fun cc14_ => absurd cc14_ (by decide))
          refine j_iconst E 43 rfl dX10_takesPresent_42 ?_
          refine m_st_56 E hK hw (by omega) (rr (by decide)) (Or.inl rfl) 44 rfl dX10_takesPresent_43 (fun H locs hw => ?_)
          have hw : WM D cy q (n_0) (upF f_0 56 (upA (y56_c2) gp 0)) A0 H0 H locs := hw
          refine j_iinc E 47 rfl [(1, .int (J (gp + 1))), (0, .ref (q 0))] dX10_takesPresent_44 hl (kk := 1) rfl (by decide) rfl (fun ls hl => ?_)
          refine j_goto E 2 dX10_takesPresent_47 (by decide) ?_
          exact ih2 (gp + 1) (upA (y56_c2) gp 0) H locs ls (rr (by omega)) (⟨by omega, by omega, pz_step (Q := fun p_ => (0 ≤ p_ ∧ p_ < (n_0 2) ∧ (f_0 6 p_) = -1) ∧ (f_0 7 p_) = 0 ∧ ¬ Ou_ (n_0 48) (f_0 50) (f_0 52) (f_0 54) (f_0 53) (n_0 1) p_) iv2.2.2 (by first | exact ⟨fun _ => ⟨hl_, by omega, fun q_ => hno_ ⟨hl_, q_⟩⟩, fun _ => by decide⟩ | exact ⟨fun q_ => absurd rfl q_, fun q_ => absurd q_.1 hn_⟩ | exact ⟨fun q_ => absurd rfl q_, fun q_ => absurd ho_.2 q_.2.2⟩ | exact ⟨fun q_ => absurd rfl q_, fun q_ => absurd q_.2.1 (by omega)⟩)⟩) (by omega) hw (lv_sub hl [1, 0] rfl)
  exact L2_1 _ 0 (f_0 56) H locs ls (rr (by decide)) (⟨by omega, by omega, fun p_ h1_ h2_ => absurd h2_ (by omega)⟩) (mk_lt _) hw (lv_sub hl [1, 0] rfl)
set_option maxHeartbeats 4000000 in
set_option maxRecDepth 100000 in
theorem c_X10_goes (l : Launch) (D : va_G) (cy : Nat → ClassId) (q : Nat → Nat) (n_0 : Nat → Int) (f_0 : Nat → Int → Int) (hp0 : MI (n_0) (f_0)) (hp1 : (n_0 1) ≤ 198) (hp2 : Fut_ (f_0 18) (n_0 1) (n_0 12)) : MC l D cy q yX10_goes cX10_goes 2 none 6 [] n_0 f_0 (PV (fun (n_2 : Nat → Int) (f_2 : Nat → Int → Int) => ∃ (x1_2 : Int) (y57_2 : Int → Int) (y58_2 : Int → Int) (y18_2 : Int → Int) (y15_2 : Int → Int) (y17_2 : Int → Int) (y19_2 : Int → Int) (y20_2 : Int → Int) (y21_2 : Int → Int) (y16_2 : Int → Int) (y56_2 : Int → Int) (y7_2 : Int → Int) , n_2 = upN n_0 1 x1_2 ∧ f_2 = upF (upF (upF (upF (upF (upF (upF (upF (upF (upF (upF f_0 7 y7_2) 15 y15_2) 16 y16_2) 17 y17_2) 18 y18_2) 19 y19_2) 20 y20_2) 21 y21_2) 56 y56_2) 57 y57_2) 58 y58_2 ∧ (MI (upN n_0 1 x1_2) (upF (upF (upF (upF (upF (upF (upF (upF (upF (upF (upF f_0 7 y7_2) 15 y15_2) 16 y16_2) 17 y17_2) 18 y18_2) 19 y19_2) 20 y20_2) 21 y21_2) 56 y56_2) 57 y57_2) 58 y58_2) ∧ (x1_2) = (n_0 1) + 1 ∧ ((∀ j, 0 ≤ j → j < (n_0 2) → (y7_2 j) = 0) ∧ (∀ j, (n_0 2) ≤ j → (y7_2 j) = (f_0 7 j))) ∧ Fut_ (y18_2) (x1_2) (n_0 12) ∧ Sm_ (GM_ (f_0 3) (f_0 4) (f_0 5) (f_0 6) (f_0 13) (f_0 14) (f_0 9) (f_0 50) (f_0 52) (f_0 54) (f_0 53)) (KM_ (n_0 2) (n_0 12) (n_0 48) (n_0 11) (n_0 10)) (n_0 1) (VM_ (f_0 19) (f_0 20) (f_0 21) (f_0 18)) (CM_ (f_0 15) (f_0 16) (f_0 17) (f_0 7)) (VM_ (y19_2) (y20_2) (y21_2) (y18_2)) (CM_ (y15_2) (y16_2) (y17_2) (y7_2))))) := by
  refine MC.ofv rfl (Nat.le_of_ble_eq_true rfl) ?_
  intro p e s m below meth c ls ar QW A0 H0 H locs E hK hA hw hl hret
  have hl : lv_has ls 2 [(0, .ref (q 0))] := hl
  have hp0_ := hp0
  obtain ⟨i_now, i_persons, i_lines, i_wordings, i_taped, i_suits, i_spk, i_fam, i_str, i_said, i_book, i_wds, i_tok, i_cod, i_far, i_tap, i_qua, i_sil, i_stz, i_way⟩ := hp0_
  refine j_aload_n E 1 rfl dX10_goes_0 rfl (lv_at hl 0 rfl) ?_
  refine m_callv E (c_X10_takesPresent l D cy q (n_0) (f_0)    (show (n_0 2) ≤ 24 from by omega) (show 0 ≤ (n_0 1) ∧ (n_0 1) ≤ 199 from by omega) (show 0 ≤ (n_0 48) ∧ (n_0 48) ≤ 100 from by omega)) rfl mt_X10_takesPresent ml_X10_355 hK hw hA ⟨Nat.le_of_ble_eq_true rfl, Nat.le_of_ble_eq_true rfl⟩ (As := []) (rest := []) rfl rfl hl.1 (Nat.le_of_ble_eq_true rfl) 4 rfl dX10_goes_1 (fun n_1 f_1 H locs hq1_ hw => ?_)
  obtain ⟨y56_1, en1_, ef1_, hq1_⟩ := hq1_
  rw [en1_, ef1_] at hw; clear en1_ ef1_
  have hw : WM D cy q (n_0) (upF f_0 56 y56_1) A0 H0 H locs := hw
  have hh1_ : ∀ p_, 0 ≤ p_ → p_ < 24 → (¬ (y56_1 p_) = 0 ↔ (0 ≤ p_ ∧ p_ < (n_0 2) ∧ (f_0 6 p_) = -1) ∧ (f_0 7 p_) = 0 ∧ ¬ Ou_ (n_0 48) (f_0 50) (f_0 52) (f_0 54) (f_0 53) (n_0 1) p_) := hq1_
  clear hq1_
  have tp_ := hh1_
  clear hh1_
  refine j_iconst E 5 rfl dX10_goes_4 ?_
  refine j_istore_n E 6 rfl [(1, .int (J 0)), (0, .ref (q 0))] dX10_goes_5 rfl hl (by decide) rfl (fun ls hl => ?_)
  have L6_2 : ∀ (k6 : Nat) (gl : Int) (y57_c6 : Int → Int) (y58_c6 : Int → Int) (y18_c6 : Int → Int) (y15_c6 : Int → Int) (y17_c6 : Int → Int) (y19_c6 : Int → Int) (y20_c6 : Int → Int) (y21_c6 : Int → Int) (y16_c6 : Int → Int) (H : Heap) (locs : List Loc) (ls : Array Slot), inR gl → (0 ≤ gl ∧ gl ≤ 24 ∧ MI (n_0) (upF (upF (upF (upF (upF (upF (upF (upF (upF (upF f_0 15 y15_c6) 16 y16_c6) 17 y17_c6) 18 y18_c6) 19 y19_c6) 20 y20_c6) 21 y21_c6) 56 y56_1) 57 y57_c6) 58 y58_c6) ∧ gl ≤ (n_0 12) ∧ Lp_ (GM_ (f_0 3) (f_0 4) (f_0 5) (f_0 6) (f_0 13) (f_0 14) (f_0 9) (f_0 50) (f_0 52) (f_0 54) (f_0 53)) (KM_ (n_0 2) (n_0 12) (n_0 48) (n_0 11) (n_0 10)) (n_0 1) (fun p_ => ¬ (y56_1 p_) = 0) (VM_ (f_0 19) (f_0 20) (f_0 21) (f_0 18)) (CM_ (f_0 15) (f_0 16) (f_0 17) (f_0 7)) (VM_ (y19_c6) (y20_c6) (y21_c6) (y18_c6)) (CM_ (y15_c6) (y16_c6) (y17_c6) (f_0 7)) (fun l_ => 0 ≤ (y18_c6 (200 * l_ + (n_0 1)))) gl ∧ (∀ l_ t_, 0 ≤ l_ → l_ < (n_0 12) → (n_0 1) < t_ → t_ < 200 → (y18_c6 (200 * l_ + t_)) < 0)) → (24 - gl) < (k6 : Int) → WM D cy q (n_0) (upF (upF (upF (upF (upF (upF (upF (upF (upF (upF f_0 15 y15_c6) 16 y16_c6) 17 y17_c6) 18 y18_c6) 19 y19_c6) 20 y20_c6) 21 y21_c6) 56 y56_1) 57 y57_c6) 58 y58_c6) A0 H0 H locs → lv_has ls 2 [(0, .ref (q 0)), (1, .int (J gl))] → W p l e (rmd 6 0 0) s m ar below meth c H locs 0 0 QW (F0 m 6 ls []) := by
    intro k6
    induction k6 with
    | zero =>
      intro gl y57_c6 y58_c6 y18_c6 y15_c6 y17_c6 y19_c6 y20_c6 y21_c6 y16_c6 H locs ls r_gl iv6 ms6 hw hl
      exfalso; omega
    | succ k6 ih6 =>
      intro gl y57_c6 y58_c6 y18_c6 y15_c6 y17_c6 y19_c6 y20_c6 y21_c6 y16_c6 H locs ls r_gl iv6 ms6 hw hl
      refine j_iload_n E 7 rfl dX10_goes_6 rfl (lv_at hl 1 rfl) ?_
      refine j_aload_n E 8 rfl dX10_goes_7 rfl (lv_at hl 0 rfl) ?_
      refine m_get_12 E hK hw (n_0 12) rfl 11 rfl dX10_goes_8 (fun rr4_ => ?_)
      refine j_icmp_ge E 14 50 rfl r_gl rr4_ dX10_goes_11 (by decide) (fun cc5_ => ?_) (fun cc5_ => ?_)
      · refine j_iconst E 51 rfl dX10_goes_50 ?_
        refine j_istore_n E 52 rfl [(1, .int (J 0)), (0, .ref (q 0))] dX10_goes_51 rfl hl (by decide) rfl (fun ls hl => ?_)
        have L52_6 : ∀ (k52 : Nat) (gk : Int) (y19_c52 : Int → Int) (H : Heap) (locs : List Loc) (ls : Array Slot), inR gk → (0 ≤ gk ∧ gk ≤ 24 ∧ MI (n_0) (upF (upF (upF (upF (upF (upF (upF (upF (upF (upF f_0 15 y15_c6) 16 y16_c6) 17 y17_c6) 18 y18_c6) 19 y19_c52) 20 y20_c6) 21 y21_c6) 56 y56_1) 57 y57_c6) 58 y58_c6) ∧ gk ≤ (n_0 12) ∧ Lf_ (GM_ (f_0 3) (f_0 4) (f_0 5) (f_0 6) (f_0 13) (f_0 14) (f_0 9) (f_0 50) (f_0 52) (f_0 54) (f_0 53)) (KM_ (n_0 2) (n_0 12) (n_0 48) (n_0 11) (n_0 10)) (n_0 1) (fun l_ => 0 ≤ (y18_c6 (200 * l_ + (n_0 1)))) (VM_ (y19_c6) (y20_c6) (y21_c6) (y18_c6)) (VM_ (y19_c52) (y20_c6) (y21_c6) (y18_c6)) gk) → (24 - gk) < (k52 : Int) → WM D cy q (n_0) (upF (upF (upF (upF (upF (upF (upF (upF (upF (upF f_0 15 y15_c6) 16 y16_c6) 17 y17_c6) 18 y18_c6) 19 y19_c52) 20 y20_c6) 21 y21_c6) 56 y56_1) 57 y57_c6) 58 y58_c6) A0 H0 H locs → lv_has ls 2 [(0, .ref (q 0)), (1, .int (J gk))] → W p l e (rmd 6 0 0) s m ar below meth c H locs 0 0 QW (F0 m 52 ls []) := by
          intro k52
          induction k52 with
          | zero =>
            intro gk y19_c52 H locs ls r_gk iv52 ms52 hw hl
            exfalso; omega
          | succ k52 ih52 =>
            intro gk y19_c52 H locs ls r_gk iv52 ms52 hw hl
            refine j_iload_n E 53 rfl dX10_goes_52 rfl (lv_at hl 1 rfl) ?_
            refine j_aload_n E 54 rfl dX10_goes_53 rfl (lv_at hl 0 rfl) ?_
            refine m_get_12 E hK hw (n_0 12) rfl 57 rfl dX10_goes_54 (fun _ => ?_)
            refine j_icmp_ge E 60 71 rfl r_gk rr4_ dX10_goes_57 (by decide) (fun cc8_ => ?_) (fun cc8_ => ?_)
            · refine j_iconst E 72 rfl dX10_goes_71 ?_
              refine j_istore_n E 73 rfl [(1, .int (J 0)), (0, .ref (q 0))] dX10_goes_72 rfl hl (by decide) rfl (fun ls hl => ?_)
              have L73_9 : ∀ (k73 : Nat) (gp : Int) (y7_c73 : Int → Int) (H : Heap) (locs : List Loc) (ls : Array Slot), inR gp → (0 ≤ gp ∧ gp ≤ 24 ∧ (gp ≤ (n_0 2) ∨ gp = 0) ∧ (∀ j, 0 ≤ j → j < gp → (y7_c73 j) = 0) ∧ (∀ j, gp ≤ j → (y7_c73 j) = f_0 7 j)) → (24 - gp) < (k73 : Int) → WM D cy q (n_0) (upF (upF (upF (upF (upF (upF (upF (upF (upF (upF (upF f_0 7 y7_c73) 15 y15_c6) 16 y16_c6) 17 y17_c6) 18 y18_c6) 19 y19_c52) 20 y20_c6) 21 y21_c6) 56 y56_1) 57 y57_c6) 58 y58_c6) A0 H0 H locs → lv_has ls 2 [(0, .ref (q 0)), (1, .int (J gp))] → W p l e (rmd 6 0 0) s m ar below meth c H locs 0 0 QW (F0 m 73 ls []) := by
                intro k73
                induction k73 with
                | zero =>
                  intro gp y7_c73 H locs ls r_gp iv73 ms73 hw hl
                  exfalso; omega
                | succ k73 ih73 =>
                  intro gp y7_c73 H locs ls r_gp iv73 ms73 hw hl
                  refine j_iload_n E 74 rfl dX10_goes_73 rfl (lv_at hl 1 rfl) ?_
                  refine j_aload_n E 75 rfl dX10_goes_74 rfl (lv_at hl 0 rfl) ?_
                  refine m_get_2 E hK hw (n_0 2) rfl 78 rfl dX10_goes_75 (fun rr11_ => ?_)
                  refine j_icmp_ge E 81 94 rfl r_gp rr11_ dX10_goes_78 (by decide) (fun cc12_ => ?_) (fun cc12_ => ?_)
                  · obtain ⟨j_now, j_persons, j_lines, j_wordings, j_taped, j_suits, j_spk, j_fam, j_str, j_said, j_book, j_wds, j_tok, j_cod, j_far, j_tap, j_qua, j_sil, j_stz, j_way⟩ := iv52.2.2.1
                    have lp_ := iv6.2.2.2.2.1
                    rw [show gl = (n_0 12) by omega] at lp_
                    have lf_ := iv52.2.2.2.2
                    rw [show gk = (n_0 12) by omega] at lf_
                    refine j_aload_n E 95 rfl dX10_goes_94 rfl (lv_at hl 0 rfl) ?_
                    refine j_aload_n E 96 rfl dX10_goes_95 rfl (lv_at hl 0 rfl) ?_
                    refine m_get_1 E hK hw (n_0 1) rfl 99 rfl dX10_goes_96 (fun rr13_ => ?_)
                    refine j_iconst E 100 rfl dX10_goes_99 ?_
                    refine j_iadd E 101 rfl dX10_goes_100 ?_
                    refine m_put_1 E hK hw (rr (by omega)) 104 rfl dX10_goes_101 (fun H locs hw => ?_)
                    have hw : WM D cy q (upN n_0 1 ((n_0 1) + 1)) (upF (upF (upF (upF (upF (upF (upF (upF (upF (upF (upF f_0 7 y7_c73) 15 y15_c6) 16 y16_c6) 17 y17_c6) 18 y18_c6) 19 y19_c52) 20 y20_c6) 21 y21_c6) 56 y56_1) 57 y57_c6) 58 y58_c6) A0 H0 H locs := hw
                    exact hret 104 (upN n_0 1 ((n_0 1) + 1)) (upF (upF (upF (upF (upF (upF (upF (upF (upF (upF (upF f_0 7 y7_c73) 15 y15_c6) 16 y16_c6) 17 y17_c6) 18 y18_c6) 19 y19_c52) 20 y20_c6) 21 y21_c6) 56 y56_1) 57 y57_c6) 58 y58_c6) _ _ ls hw ⟨((n_0 1) + 1), y57_c6, y58_c6, y18_c6, y15_c6, y17_c6, y19_c52, y20_c6, y21_c6, y16_c6, y56_1, y7_c73, rfl, rfl, ⟨⟨(show 0 ≤ ((n_0 1) + 1) ∧ ((n_0 1) + 1) ≤ 199 from by omega), j_persons, j_lines, j_wordings, j_taped, j_suits, j_spk, j_fam, j_str, j_said, j_book, j_wds, j_tok, j_cod, j_far, j_tap, j_qua, j_sil, j_stz, j_way⟩, rfl, ⟨fun j_ h1_ h2_ => iv73.2.2.2.1 j_ h1_ (by omega), fun j_ h1_ => iv73.2.2.2.2 j_ (by omega)⟩, fun l_ t_ a_ b_ c_ d_ => iv6.2.2.2.2.2 l_ t_ a_ b_ (by omega) d_, Sm_of (Lp_pr lp_ (fun p_ h1_ (h2_ : p_ < (n_0 2)) => ⟨fun q_ => by have r_ := (tp_ p_ h1_ (by omega)).1 q_; exact ⟨r_.1.2.2, r_.2.1, r_.2.2⟩, fun q_ => (tp_ p_ h1_ (by omega)).2 ⟨⟨h1_, h2_, q_.1⟩, q_.2.1, q_.2.2⟩⟩)) lf_ (show 0 ≤ (n_0 12) ∧ (n_0 12) ≤ 24 from i_lines) (fun p_ h1_ (h2_ : p_ < (n_0 2)) => iv73.2.2.2.1 p_ h1_ (by omega)) (fun _ _ _ => ⟨rfl, rfl, rfl⟩)⟩⟩ dX10_goes_104
                  · refine j_aload_n E 82 rfl dX10_goes_81 rfl (lv_at hl 0 rfl) ?_
                    refine m_ag_7 E hK hw 85 rfl dX10_goes_82 ?_
                    refine j_iload_n E 86 rfl dX10_goes_85 rfl (lv_at hl 1 rfl) ?_
                    refine j_iconst E 87 rfl dX10_goes_86 ?_
                    refine m_st_7 E hK hw (by omega) (rr (by decide)) (Or.inl rfl) 88 rfl dX10_goes_87 (fun H locs hw => ?_)
                    have hw : WM D cy q (n_0) (upF (upF (upF (upF (upF (upF (upF (upF (upF (upF (upF f_0 7 (upA (y7_c73) gp 0)) 15 y15_c6) 16 y16_c6) 17 y17_c6) 18 y18_c6) 19 y19_c52) 20 y20_c6) 21 y21_c6) 56 y56_1) 57 y57_c6) 58 y58_c6) A0 H0 H locs := hw
                    refine j_iinc E 91 rfl [(1, .int (J (gp + 1))), (0, .ref (q 0))] dX10_goes_88 hl (kk := 1) rfl (by decide) rfl (fun ls hl => ?_)
                    refine j_goto E 73 dX10_goes_91 (by decide) ?_
                    exact ih73 (gp + 1) (upA (y7_c73) gp 0) H locs ls (rr (by omega)) (⟨by omega, by omega, by omega, aw_up iv73.2.2.2.1, aw_dn iv73.2.2.2.2⟩) (by omega) hw (lv_sub hl [1, 0] rfl)
              exact L73_9 _ 0 (f_0 7) H locs ls (rr (by decide)) (⟨by omega, by omega, by omega, fun j_ h1_ h2_ => absurd h2_ (by omega), fun j_ _ => rfl⟩) (mk_lt _) hw (lv_sub hl [1, 0] rfl)
            · refine j_aload_n E 61 rfl dX10_goes_60 rfl (lv_at hl 0 rfl) ?_
              refine j_iload_n E 62 rfl dX10_goes_61 rfl (lv_at hl 1 rfl) ?_
              refine m_callv E (c_X10_fades l D cy q (n_0) (upF (upF (upF (upF (upF (upF (upF (upF (upF (upF f_0 15 y15_c6) 16 y16_c6) 17 y17_c6) 18 y18_c6) 19 y19_c52) 20 y20_c6) 21 y21_c6) 56 y56_1) 57 y57_c6) 58 y58_c6) gk  r_gk (show MI (n_0) (upF (upF (upF (upF (upF (upF (upF (upF (upF (upF f_0 15 y15_c6) 16 y16_c6) 17 y17_c6) 18 y18_c6) 19 y19_c52) 20 y20_c6) 21 y21_c6) 56 y56_1) 57 y57_c6) 58 y58_c6) from iv52.2.2.1) (show 0 ≤ gk ∧ gk < (n_0 12) from by omega)) rfl mt_X10_fades ml_X10_361 hK hw hA ⟨Nat.le_of_ble_eq_true rfl, Nat.le_of_ble_eq_true rfl⟩ (As := [.int (J gk)]) (rest := []) rfl rfl hl.1 (Nat.le_of_ble_eq_true rfl) 65 rfl dX10_goes_62 (fun n_16 f_16 H locs hq16_ hw => ?_)
              obtain ⟨y19_16, en16_, ef16_, hq16_⟩ := hq16_
              rw [en16_, ef16_] at hw; clear en16_ ef16_
              have hw : WM D cy q (n_0) (upF (upF (upF (upF (upF (upF (upF (upF (upF (upF f_0 15 y15_c6) 16 y16_c6) 17 y17_c6) 18 y18_c6) 19 y19_16) 20 y20_c6) 21 y21_c6) 56 y56_1) 57 y57_c6) 58 y58_c6) A0 H0 H locs := hw
              have hh16_ : MI (n_0) (upF (upF (upF (upF (upF (upF (upF (upF (upF (upF f_0 15 y15_c6) 16 y16_c6) 17 y17_c6) 18 y18_c6) 19 y19_16) 20 y20_c6) 21 y21_c6) 56 y56_1) 57 y57_c6) 58 y58_c6) ∧ (((¬ 0 ≤ (y18_c6 (200 * gk + (n_0 1))) ∧ ((f_0 14 gk) = 0 ∨ (n_0 1) % 3 = 2)) ∧ Fx_ (f_0 6) gk (n_0 2) (y19_c52) (y19_16)) ∨ (¬ (¬ 0 ≤ (y18_c6 (200 * gk + (n_0 1))) ∧ ((f_0 14 gk) = 0 ∨ (n_0 1) % 3 = 2)) ∧ (y19_16) = (y19_c52))) := hq16_
              clear hq16_
              have ht_ := hh16_
              clear hh16_
              refine j_iinc E 68 rfl [(1, .int (J (gk + 1))), (0, .ref (q 0))] dX10_goes_65 hl (kk := 1) rfl (by decide) rfl (fun ls hl => ?_)
              refine j_goto E 52 dX10_goes_68 (by decide) ?_
              exact ih52 (gk + 1) y19_16 H locs ls (rr (by omega)) (⟨by omega, by omega, ht_.1, by omega, lf_m iv52.2.2.2.2 ht_.2 (by omega) (by omega) iv52.2.2.1.2.2.2.2.2.2.2.2.2.2.2.2.2.2.2.2.2.2.1.1⟩) (by omega) hw (lv_sub hl [1, 0] rfl)
        exact L52_6 _ 0 y19_c6 H locs ls (rr (by decide)) (⟨by omega, by omega, iv6.2.2.1, by omega, Lf_0⟩) (mk_lt _) hw (lv_sub hl [1, 0] rfl)
      · refine j_aload_n E 15 rfl dX10_goes_14 rfl (lv_at hl 0 rfl) ?_
        refine m_ag_16 E hK hw 18 rfl dX10_goes_15 ?_
        refine j_iload_n E 19 rfl dX10_goes_18 rfl (lv_at hl 1 rfl) ?_
        refine m_ld_16 E hK hw (y16_c6 gl) rfl (by omega) 20 rfl dX10_goes_19 (fun rr17_ => ?_)
        refine j_iconst E 21 rfl dX10_goes_20 ?_
        refine j_icmp_ne E 24 44 rfl rr17_ (rr (by decide)) dX10_goes_21 (by decide) (fun cc18_ => ?_) (fun cc18_ => ?_)
        · refine j_iinc E 47 rfl [(1, .int (J (gl + 1))), (0, .ref (q 0))] dX10_goes_44 hl (kk := 1) rfl (by decide) rfl (fun ls hl => ?_)
          refine j_goto E 6 dX10_goes_47 (by decide) ?_
          exact ih6 (gl + 1) y57_c6 y58_c6 y18_c6 y15_c6 y17_c6 y19_c6 y20_c6 y21_c6 y16_c6 H locs ls (rr (by omega)) (⟨by omega, by omega, by first | exact ht_.1 | exact iv6.2.2.1, by omega, by first | exact lp_m iv6.2.2.2.2.1 ht_.2 (by omega) (by omega) (by omega) (by omega) | exact lp_n iv6.2.2.2.2.1 (by omega) (by omega) hp2 (by omega) (by omega), by first | exact iv6.2.2.2.2.2 | exact fut_m iv6.2.2.2.2.2 ht_.2 (by omega) (by omega)⟩) (by omega) hw (lv_sub hl [1, 0] rfl)
        · refine j_aload_n E 25 rfl dX10_goes_24 rfl (lv_at hl 0 rfl) ?_
          refine m_ag_13 E hK hw 28 rfl dX10_goes_25 ?_
          refine j_iload_n E 29 rfl dX10_goes_28 rfl (lv_at hl 1 rfl) ?_
          refine m_ld_13 E hK hw (f_0 13 gl) rfl (by omega) 30 rfl dX10_goes_29 (fun rr19_ => ?_)
          refine j_aload_n E 31 rfl dX10_goes_30 rfl (lv_at hl 0 rfl) ?_
          refine m_get_1 E hK hw (n_0 1) rfl 34 rfl dX10_goes_31 (fun rr20_ => ?_)
          refine j_iconst E 35 rfl dX10_goes_34 ?_
          refine j_irem E 36 rfl dX10_goes_35 (by decide +kernel) (fun zz21_ rr21_ ee21_ => ?_)
          have rm_ := rem3 ee21_ rr21_ (by omega)
          refine j_icmp_ne E 39 44 rfl rr19_ rr21_ dX10_goes_36 (by decide) (fun cc22_ => ?_) (fun cc22_ => ?_)
          · refine j_iinc E 47 rfl [(1, .int (J (gl + 1))), (0, .ref (q 0))] dX10_goes_44 hl (kk := 1) rfl (by decide) rfl (fun ls hl => ?_)
            refine j_goto E 6 dX10_goes_47 (by decide) ?_
            exact ih6 (gl + 1) y57_c6 y58_c6 y18_c6 y15_c6 y17_c6 y19_c6 y20_c6 y21_c6 y16_c6 H locs ls (rr (by omega)) (⟨by omega, by omega, by first | exact ht_.1 | exact iv6.2.2.1, by omega, by first | exact lp_m iv6.2.2.2.2.1 ht_.2 (by omega) (by omega) (by omega) (by omega) | exact lp_n iv6.2.2.2.2.1 (by omega) (by omega) hp2 (by omega) (by omega), by first | exact iv6.2.2.2.2.2 | exact fut_m iv6.2.2.2.2.2 ht_.2 (by omega) (by omega)⟩) (by omega) hw (lv_sub hl [1, 0] rfl)
          · refine j_aload_n E 40 rfl dX10_goes_39 rfl (lv_at hl 0 rfl) ?_
            refine j_iload_n E 41 rfl dX10_goes_40 rfl (lv_at hl 1 rfl) ?_
            refine m_callv E (c_X10_tries l D cy q (n_0) (upF (upF (upF (upF (upF (upF (upF (upF (upF (upF f_0 15 y15_c6) 16 y16_c6) 17 y17_c6) 18 y18_c6) 19 y19_c6) 20 y20_c6) 21 y21_c6) 56 y56_1) 57 y57_c6) 58 y58_c6) gl  r_gl (show MI (n_0) (upF (upF (upF (upF (upF (upF (upF (upF (upF (upF f_0 15 y15_c6) 16 y16_c6) 17 y17_c6) 18 y18_c6) 19 y19_c6) 20 y20_c6) 21 y21_c6) 56 y56_1) 57 y57_c6) 58 y58_c6) from iv6.2.2.1) (show 0 ≤ gl ∧ gl < (n_0 12) from by omega) (show (∀ p_, 0 ≤ p_ → p_ < 24 → ¬ (y56_1 p_) = 0 → p_ < (n_0 2)) from fun p_ h1_ h2_ h3_ => ((tp_ p_ h1_ h2_).1 h3_).1.2.1) (show (y16_c6 gl) = -1 from by omega)) rfl mt_X10_tries ml_X10_358 hK hw hA ⟨Nat.le_of_ble_eq_true rfl, Nat.le_of_ble_eq_true rfl⟩ (As := [.int (J gl)]) (rest := []) rfl rfl hl.1 (Nat.le_of_ble_eq_true rfl) 44 rfl dX10_goes_41 (fun n_23 f_23 H locs hq23_ hw => ?_)
            obtain ⟨y57_23, y58_23, y18_23, y15_23, y17_23, y19_23, y20_23, y21_23, y16_23, en23_, ef23_, hq23_⟩ := hq23_
            rw [en23_, ef23_] at hw; clear en23_ ef23_
            have hw : WM D cy q (n_0) (upF (upF (upF (upF (upF (upF (upF (upF (upF (upF f_0 15 y15_23) 16 y16_23) 17 y17_23) 18 y18_23) 19 y19_23) 20 y20_23) 21 y21_23) 56 y56_1) 57 y57_23) 58 y58_23) A0 H0 H locs := hw
            have hh23_ : MI (n_0) (upF (upF (upF (upF (upF (upF (upF (upF (upF (upF f_0 15 y15_23) 16 y16_23) 17 y17_23) 18 y18_23) 19 y19_23) 20 y20_23) 21 y21_23) 56 y56_1) 57 y57_23) 58 y58_23) ∧ ∃ z_, Cal_ (GM_ (f_0 3) (f_0 4) (f_0 5) (f_0 6) (f_0 13) (f_0 14) (f_0 9) (f_0 50) (f_0 52) (f_0 54) (f_0 53)) (KM_ (n_0 2) (n_0 12) (n_0 48) (n_0 11) (n_0 10)) (n_0 1) (fun p_ => ¬ (y56_1 p_) = 0) gl (VM_ (y19_c6) (y20_c6) (y21_c6) (y18_c6)) (CM_ (y15_c6) (y16_c6) (y17_c6) (f_0 7)) (VM_ (y19_23) (y20_23) (y21_23) (y18_23)) (CM_ (y15_23) (y16_23) (y17_23) (f_0 7)) z_ ∧ ((z_ = 0 ∧ ¬ 0 ≤ (y18_23 (200 * gl + (n_0 1)))) ∨ (z_ = 1 ∧ 0 ≤ (y18_23 (200 * gl + (n_0 1))))) ∧ (∀ l_, 0 ≤ l_ → l_ < 24 → ¬ l_ = gl → Sc_ (KM_ (n_0 2) (n_0 12) (n_0 48) (n_0 11) (n_0 10)) (VM_ (y19_c6) (y20_c6) (y21_c6) (y18_c6)) (CM_ (y15_c6) (y16_c6) (y17_c6) (f_0 7)) (VM_ (y19_23) (y20_23) (y21_23) (y18_23)) (CM_ (y15_23) (y16_23) (y17_23) (f_0 7)) l_) := hq23_
            clear hq23_
            have ht_ := hh23_
            clear hh23_
            refine j_iinc E 47 rfl [(1, .int (J (gl + 1))), (0, .ref (q 0))] dX10_goes_44 hl (kk := 1) rfl (by decide) rfl (fun ls hl => ?_)
            refine j_goto E 6 dX10_goes_47 (by decide) ?_
            exact ih6 (gl + 1) y57_23 y58_23 y18_23 y15_23 y17_23 y19_23 y20_23 y21_23 y16_23 H locs ls (rr (by omega)) (⟨by omega, by omega, by first | exact ht_.1 | exact iv6.2.2.1, by omega, by first | exact lp_m iv6.2.2.2.2.1 ht_.2 (by omega) (by omega) (by omega) (by omega) | exact lp_n iv6.2.2.2.2.1 (by omega) (by omega) hp2 (by omega) (by omega), by first | exact iv6.2.2.2.2.2 | exact fut_m iv6.2.2.2.2.2 ht_.2 (by omega) (by omega)⟩) (by omega) hw (lv_sub hl [1, 0] rfl)
  exact L6_2 _ 0 (f_0 57) (f_0 58) (f_0 18) (f_0 15) (f_0 17) (f_0 19) (f_0 20) (f_0 21) (f_0 16) H locs ls (rr (by decide)) (⟨by omega, by omega, hp0, by omega, Lp_0, fun l_ t_ a_ b_ c_ d_ => hp2 l_ t_ a_ b_ (by omega) d_⟩) (mk_lt _) hw (lv_sub hl [1, 0] rfl)
