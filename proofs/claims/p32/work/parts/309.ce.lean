theorem lv_no {T : Nat → Nat → Nat} {d : Nat → Int} {x : Nat} {N p : Int} (h : (p < 0 ∨ N ≤ p) ∨ ∃ y, T (1000 + p.toNat) (T 201 (T 180 x)) = y + 1 ∧ ¬ d y = -1) : ¬ (0 ≤ p ∧ p < N ∧ d (pe_ T 180 x p) = -1) := by
  rintro ⟨h0, h1, h2⟩
  rcases h with h | ⟨y, hy, hd⟩
  · omega
  · rw [pe_of (show ELn_ T 180 x p.toNat = y + 1 from hy)] at h2
    exact hd h2
theorem lv_yes {T : Nat → Nat → Nat} {d : Nat → Int} {x y : Nat} {N p : Int} (h : 0 ≤ p ∧ p < N ∧ T (1000 + p.toNat) (T 201 (T 180 x)) = y + 1 ∧ d y = -1) : 0 ≤ p ∧ p < N ∧ d (pe_ T 180 x p) = -1 := ⟨h.1, h.2.1, by
  rw [pe_of (show ELn_ T 180 x p.toNat = y + 1 from h.2.2.1)]
  exact h.2.2.2⟩
def Nm_ (N : Int) (V : Nat → Int → Int → Int) : Prop := ∀ p l, 0 ≤ p → p < N → 0 ≤ l → l < 24 → (0 ≤ V 0 p l ∧ V 0 p l ≤ 9) ∧ (V 0 p l ≤ 0 → V 1 p l = -1 ∧ V 2 p l = -1) ∧ (0 < V 0 p l → 0 ≤ V 1 p l ∧ V 1 p l < 32)
theorem Nm_cg {N : Int} {V W : Nat → Int → Int → Int} (h : Nm_ N V) (e : ∀ p l, 0 ≤ p → p < N → 0 ≤ l → l < 24 → W 0 p l = V 0 p l ∧ W 1 p l = V 1 p l ∧ W 2 p l = V 2 p l) : Nm_ N W := fun p l p0 p1 l0 l1 => by
  obtain ⟨e1, e2, e3⟩ := e p l p0 p1 l0 l1
  rw [e1, e2, e3]
  exact h p l p0 p1 l0 l1
section Cls
variable {D : va_G} {cy : Nat → ClassId} {T : Nat → Nat → Nat} {v : Nat → Nat → Int} {H : Heap} {x : Nat}
theorem pe2 (hw : WC D cy T v H) (hx : T 0 x = 9) {p : Int} (p0 : 0 ≤ p) (p1 : p < v 202 (T 180 x)) : T 0 (pe_ T 180 x p) = 2 := pe_ty hw (wt_180 hw.2.1 hx) (we_180 hw.2.1 hx) p0 p1
theorem pe1 (hw : WC D cy T v H) (hx : T 0 x = 9) {p : Int} (p0 : 0 ≤ p) (p1 : p < v 202 (T 181 x)) : T 0 (pe_ T 181 x p) = 1 := pe_ty hw (wt_181 hw.2.1 hx) (we_181 hw.2.1 hx) p0 p1
/-- rows of other fields are written: persons' stay -/
theorem vc_kd (hw : WC D cy T v H) (hx : T 0 x = 9) {ks : List Nat} {y y2 yb : Nat → Int} (hk : Kd_ T ks y y2) (n6 : 46 ∉ ks) (n7 : 47 ∉ ks) (n8 : 48 ∉ ks) : ∀ p l : Int, 0 ≤ p → p < v 202 (T 180 x) → VC_ T x y2 yb 0 p l = VC_ T x y yb 0 p l ∧ VC_ T x y2 yb 1 p l = VC_ T x y yb 1 p l ∧ VC_ T x y2 yb 2 p l = VC_ T x y yb 2 p l := fun p l p0 p1 => by
  have t := pe2 hw hx p0 p1
  have hT := hw.2.1
  exact ⟨congrFun (Kd_at hk (wok (wo_47 hT t) (by decide)) n7) l, congrFun (Kd_at hk (wok (wo_46 hT t) (by decide)) n6) l, congrFun (Kd_at hk (wok (wo_48 hT t) (by decide)) n8) l⟩
theorem nm_kd (hw : WC D cy T v H) (hx : T 0 x = 9) {ks : List Nat} {y y2 yb : Nat → Int} {N : Int} (hN : N = v 202 (T 180 x)) (h : Nm_ N (VC_ T x y yb)) (hk : Kd_ T ks y y2) (n6 : 46 ∉ ks) (n7 : 47 ∉ ks) (n8 : 48 ∉ ks) : Nm_ N (VC_ T x y2 yb) := Nm_cg h (fun p l p0 p1 _ _ => vc_kd hw hx hk n6 n7 n8 p l p0 (by omega))
/-- one person's rows at one line are written: all else stays -/
theorem p3_col (hw : WC D cy T v H) (hx : T 0 x = 9) (hi : Ij_ T 180 x (v 202 (T 180 x))) {y y2 yb : Nat → Int} {k l : Int} (k0 : 0 ≤ k) (k1 : k < v 202 (T 180 x)) (l0 : 0 ≤ l) (h : P3_ T (pe_ T 180 x k) l y y2) : ∀ p j : Int, 0 ≤ p → p < v 202 (T 180 x) → 0 ≤ j → ¬ (p = k ∧ j = l) → VC_ T x y2 yb 0 p j = VC_ T x y yb 0 p j ∧ VC_ T x y2 yb 1 p j = VC_ T x y yb 1 p j ∧ VC_ T x y2 yb 2 p j = VC_ T x y yb 2 p j := fun p j p0 p1 j0 hn => by
  have t := pe2 hw hx p0 p1
  have u := pe2 hw hx k0 k1
  have hT := hw.2.1
  have key : ∀ f : Nat, 46 ≤ f → f ≤ 48 → T 3 (T f (pe_ T 180 x p)) = 300 * pe_ T 180 x p + f → y2 (pr (T f (pe_ T 180 x p)) j.toNat) = y (pr (T f (pe_ T 180 x p)) j.toNat) := fun f f0 f1 hf => by
    refine h _ _ (fun q => hn ?_)
    have o6 := wo_46 hT u
    have o7 := wo_47 hT u
    have o8 := wo_48 hT u
    have e : pe_ T 180 x p = pe_ T 180 x k := by
      rcases q.1 with e | e | e <;> rw [e] at hf <;> omega
    refine ⟨?_, by have := q.2; omega⟩
    by_cases c : p = k
    · exact c
    · exact absurd e (pe_ne hi (el_ex hw (wt_180 hT hx)) p0 p1 k0 k1 c)
  exact ⟨key 47 (by decide) (by decide) (wo_47 hT t), key 46 (by decide) (by decide) (wo_46 hT t), key 48 (by decide) (by decide) (wo_48 hT t)⟩
end Cls
/-- persons below k have been gone through at line l -/
def Ec_ (N l k : Int) (F : Int → Int → Int → Int → Int → Int → Int → Prop) (V V2 : Nat → Int → Int → Int) : Prop := (∀ p, 0 ≤ p → p < k → F p (V 0 p l) (V 1 p l) (V 2 p l) (V2 0 p l) (V2 1 p l) (V2 2 p l)) ∧ (∀ p, k ≤ p → p < N → 0 ≤ p → V2 0 p l = V 0 p l ∧ V2 1 p l = V 1 p l ∧ V2 2 p l = V 2 p l) ∧ (∀ p j, 0 ≤ p → p < N → 0 ≤ j → j < 24 → ¬ j = l → V2 0 p j = V 0 p j ∧ V2 1 p j = V 1 p j ∧ V2 2 p j = V 2 p j)
theorem Ec_0 {N l : Int} {F : Int → Int → Int → Int → Int → Int → Int → Prop} {V : Nat → Int → Int → Int} : Ec_ N l 0 F V V := ⟨fun p h0 h1 => absurd h1 (by omega), fun _ _ _ _ => ⟨rfl, rfl, rfl⟩, fun _ _ _ _ _ _ _ => ⟨rfl, rfl, rfl⟩⟩
theorem Ec_st {N l k : Int} {F : Int → Int → Int → Int → Int → Int → Int → Prop} {V V1 V2 : Nat → Int → Int → Int} (h : Ec_ N l k F V V1) (hk : 0 ≤ k ∧ k < N) (hl : 0 ≤ l ∧ l < 24) (fr : ∀ p j, 0 ≤ p → p < N → 0 ≤ j → ¬ (p = k ∧ j = l) → V2 0 p j = V1 0 p j ∧ V2 1 p j = V1 1 p j ∧ V2 2 p j = V1 2 p j) (hf : F k (V1 0 k l) (V1 1 k l) (V1 2 k l) (V2 0 k l) (V2 1 k l) (V2 2 k l)) : Ec_ N l (k + 1) F V V2 := by
  refine ⟨fun p p0 p1 => ?_, fun p p0 p1 p2 => ?_, fun p j p0 p1 j0 j1 jn => ?_⟩
  · by_cases e : p = k
    · subst e
      obtain ⟨a, b, c⟩ := h.2.1 p (Int.le_refl p) hk.2 p0
      rw [a, b, c] at hf
      exact hf
    · obtain ⟨a, b, c⟩ := fr p l p0 (by omega) hl.1 (fun q => e q.1)
      rw [a, b, c]
      exact h.1 p p0 (by omega)
  · obtain ⟨a, b, c⟩ := fr p l p2 p1 hl.1 (fun q => absurd q.1 (by omega))
    obtain ⟨a2, b2, c2⟩ := h.2.1 p (by omega) p1 p2
    exact ⟨a.trans a2, b.trans b2, c.trans c2⟩
  · obtain ⟨a, b, c⟩ := fr p j p0 p1 j0 (fun q => jn q.2)
    obtain ⟨a2, b2, c2⟩ := h.2.2 p j p0 p1 j0 j1 jn
    exact ⟨a.trans a2, b.trans b2, c.trans c2⟩
theorem Ec_no {N l k : Int} {F : Int → Int → Int → Int → Int → Int → Int → Prop} {V V1 : Nat → Int → Int → Int} (h : Ec_ N l k F V V1) (hk : 0 ≤ k ∧ k < N) (hl : 0 ≤ l ∧ l < 24) (hf : F k (V1 0 k l) (V1 1 k l) (V1 2 k l) (V1 0 k l) (V1 1 k l) (V1 2 k l)) : Ec_ N l (k + 1) F V V1 := Ec_st h hk hl (fun _ _ _ _ _ _ => ⟨rfl, rfl, rfl⟩) hf
theorem hc_c {y : Nat → Int} {a : Nat} {S : Int → Prop} {wo : Int → Int} {k z n : Int} (h : Hc_ (gC_ y a) S wo k) (hk : 0 ≤ k) (hs : S k) (hz : z = wo k) (h0 : 0 ≤ z) (hn : n = gC_ y a z + 1) : Hc_ (gC_ (upB y (pr a z.toNat) n) a) S wo (k + 1) := Hc_up h hk hs (by rw [← hz]; exact gC_us.trans hn) (fun w w0 w1 hw => gC_ui h0 w0 (by rw [hz]; exact hw))
theorem vo_c {n : Nat} {y : Nat → Int} {a : Nat} {S : Int → Prop} {wo qu g : Int → Int} {k z m : Int} (h : Vo_ n S wo qu (gC_ y a) k) (hk : 0 ≤ k) (hg : Hc_ g (fun p => S p ∧ qu p = k) wo (n : Int)) (hb : gr_ g z ∧ 0 < g z) (hm : m = gC_ y a z + 1) : Vo_ n S wo qu (gC_ (upB y (pr a z.toNat) m) a) (k + 1) := Vo_up h hk hg hb.1 hb.2 (gC_us.trans hm) (fun w w0 w1 hw => gC_ui hb.1.1.1 w0 hw)
theorem vo_rg {n : Nat} {S : Int → Prop} {wo qu h : Int → Int} {k w : Int} (z : Vo_ n S wo qu h k) (h0 : 0 ≤ w) (h1 : w < 32) (hk : 0 ≤ k) : 0 ≤ h w ∧ h w ≤ k := by
  obtain ⟨gq, -, z2⟩ := z
  exact hc_rg z2 h0 h1 hk
theorem pk_n {h : Int → Int} {z : Int} (p : Pkc_ h (-1) z) : (z = -1 ∧ ∀ w, 0 ≤ w → w < 32 → h w ≤ 0) ∨ (gr_ h z ∧ 0 < h z) := by
  rcases p with ⟨a, e⟩ | ⟨b, hb, hp, h3⟩
  · exact Or.inl ⟨e, a⟩
  · rcases h3 with ⟨c, e⟩ | ⟨c, e⟩
    · exact absurd c.1 (by decide)
    · subst e; exact Or.inr ⟨hb, hp⟩
theorem spk_ne {c : Prop} {w : Int} (h : ¬ spk_ c w = -1) : c ∧ spk_ c w = w := by
  by_cases q : c
  · exact ⟨q, spk_t q⟩
  · exact absurd (spk_f q) h
theorem hc_qc {h : Int → Int} {S S2 : Int → Prop} {wo wo2 : Int → Int} {k : Int} (z : Hc_ h S wo k) (hk : 0 ≤ k) (hS : ∀ p, 0 ≤ p → p < k → (S p ↔ S2 p)) (hw : ∀ p, 0 ≤ p → p < k → S p → wo p = wo2 p) : Hc_ h S2 wo2 ((k.toNat : Nat) : Int) := by
  rw [show ((k.toNat : Nat) : Int) = k by omega]
  exact Hc_cg z hS hw
theorem p1_v {T : Nat → Nat → Nat} (hT : WT T) {a : Nat} (ta : T 0 a = 2) {l s : Int} {y y2 : Nat → Int} (e : y2 = upB y (pr (T 47 a) l.toNat) s) : gC_ y2 (T 47 a) l = s ∧ gC_ y2 (T 46 a) l = gC_ y (T 46 a) l ∧ gC_ y2 (T 48 a) l = gC_ y (T 48 a) l := by
  obtain ⟨n1, n2, n3⟩ := p3_ne hT ta
  subst e
  exact ⟨gC_us, gC_up n1 l, gC_up (Ne.symm n3) l⟩
