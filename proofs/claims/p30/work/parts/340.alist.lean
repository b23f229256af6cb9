theorem WT_d {T T2 : Nat → Nat → Nat} (h : ∀ k, k < 1000 → k ≠ 201 → ∀ b, T2 k b = T k b) (hT : WT T) (h10 : ∀ b, T2 0 b = 10 → cT10 T2 b) : WT T2 := by
  refine ⟨fun b => by rw [h 1 (by decide) (by decide)]; exact hT.1 b, fun b hb => ?_, fun b hb => ?_, fun b hb => ?_, fun b hb => ?_, fun b hb => ?_, fun b hb => ?_, fun b hb => ?_, fun b hb => ?_, fun b hb => ?_, fun b hb => by rw [h 0 (by decide) (by decide)] at hb; rw [h 1 (by decide) (by decide)]; exact wt26 hT hb⟩
  · rw [h 0 (by decide) (by decide)] at hb
    have q := wt1 hT hb
    exact ⟨by rw [h 26 (by decide) (by decide), h 0 (by decide) (by decide)]; exact q.1, by rw [h 26 (by decide) (by decide), h 1 (by decide) (by decide)]; exact q.2.1, by rw [h 26 (by decide) (by decide), h 3 (by decide) (by decide)]; exact q.2.2⟩
  · rw [h 0 (by decide) (by decide)] at hb
    have q := wt2 hT hb
    exact ⟨by rw [h 46 (by decide) (by decide), h 0 (by decide) (by decide)]; exact q.1, by rw [h 46 (by decide) (by decide), h 1 (by decide) (by decide)]; exact q.2.1, by rw [h 46 (by decide) (by decide), h 3 (by decide) (by decide)]; exact q.2.2.1, by rw [h 47 (by decide) (by decide), h 0 (by decide) (by decide)]; exact q.2.2.2.1, by rw [h 47 (by decide) (by decide), h 1 (by decide) (by decide)]; exact q.2.2.2.2.1, by rw [h 47 (by decide) (by decide), h 3 (by decide) (by decide)]; exact q.2.2.2.2.2.1, by rw [h 48 (by decide) (by decide), h 0 (by decide) (by decide)]; exact q.2.2.2.2.2.2.1, by rw [h 48 (by decide) (by decide), h 1 (by decide) (by decide)]; exact q.2.2.2.2.2.2.2.1, by rw [h 48 (by decide) (by decide), h 3 (by decide) (by decide)]; exact q.2.2.2.2.2.2.2.2⟩
  · rw [h 0 (by decide) (by decide)] at hb
    have q := wt3 hT hb
    exact ⟨by rw [h 60 (by decide) (by decide), h 0 (by decide) (by decide)]; exact q.1, by rw [h 60 (by decide) (by decide), h 1 (by decide) (by decide)]; exact q.2.1, by rw [h 60 (by decide) (by decide), h 3 (by decide) (by decide)]; exact q.2.2.1, by rw [h 61 (by decide) (by decide), h 0 (by decide) (by decide)]; exact q.2.2.2.1, by rw [h 61 (by decide) (by decide), h 1 (by decide) (by decide)]; exact q.2.2.2.2.1, by rw [h 61 (by decide) (by decide), h 3 (by decide) (by decide)]; exact q.2.2.2.2.2.1, by rw [h 62 (by decide) (by decide), h 0 (by decide) (by decide)]; exact q.2.2.2.2.2.2.1, by rw [h 62 (by decide) (by decide), h 1 (by decide) (by decide)]; exact q.2.2.2.2.2.2.2.1, by rw [h 62 (by decide) (by decide), h 3 (by decide) (by decide)]; exact q.2.2.2.2.2.2.2.2.1, by rw [h 63 (by decide) (by decide), h 0 (by decide) (by decide)]; exact q.2.2.2.2.2.2.2.2.2.1, by rw [h 63 (by decide) (by decide), h 1 (by decide) (by decide)]; exact q.2.2.2.2.2.2.2.2.2.2.1, by rw [h 63 (by decide) (by decide), h 3 (by decide) (by decide)]; exact q.2.2.2.2.2.2.2.2.2.2.2⟩
  · rw [h 0 (by decide) (by decide)] at hb
    have q := wt4 hT hb
    exact ⟨by rw [h 82 (by decide) (by decide), h 0 (by decide) (by decide)]; exact q.1, by rw [h 85 (by decide) (by decide), h 0 (by decide) (by decide)]; exact q.2.1, by rw [h 85 (by decide) (by decide), h 1 (by decide) (by decide)]; exact q.2.2.1, by rw [h 85 (by decide) (by decide), h 3 (by decide) (by decide)]; exact q.2.2.2⟩
  · rw [h 0 (by decide) (by decide)] at hb
    have q := wt5 hT hb
    exact ⟨by rw [h 100 (by decide) (by decide), h 0 (by decide) (by decide)]; exact q.1, by rw [h 100 (by decide) (by decide), h 1 (by decide) (by decide)]; exact q.2.1, by rw [h 100 (by decide) (by decide), h 3 (by decide) (by decide)]; exact q.2.2.1, by rw [h 101 (by decide) (by decide), h 0 (by decide) (by decide)]; exact q.2.2.2.1, by rw [h 101 (by decide) (by decide), h 1 (by decide) (by decide)]; exact q.2.2.2.2.1, by rw [h 101 (by decide) (by decide), h 3 (by decide) (by decide)]; exact q.2.2.2.2.2.1, by rw [h 102 (by decide) (by decide), h 0 (by decide) (by decide)]; exact q.2.2.2.2.2.2.1, by rw [h 102 (by decide) (by decide), h 1 (by decide) (by decide)]; exact q.2.2.2.2.2.2.2.1, by rw [h 102 (by decide) (by decide), h 3 (by decide) (by decide)]; exact q.2.2.2.2.2.2.2.2⟩
  · rw [h 0 (by decide) (by decide)] at hb
    have q := wt6 hT hb
    exact ⟨by rw [h 120 (by decide) (by decide), h 0 (by decide) (by decide)]; exact q.1, by rw [h 120 (by decide) (by decide), h 1 (by decide) (by decide)]; exact q.2.1, by rw [h 120 (by decide) (by decide), h 3 (by decide) (by decide)]; exact q.2.2.1, by rw [h 121 (by decide) (by decide), h 0 (by decide) (by decide)]; exact q.2.2.2.1, by rw [h 121 (by decide) (by decide), h 1 (by decide) (by decide)]; exact q.2.2.2.2.1, by rw [h 121 (by decide) (by decide), h 3 (by decide) (by decide)]; exact q.2.2.2.2.2.1, by rw [h 122 (by decide) (by decide), h 0 (by decide) (by decide)]; exact q.2.2.2.2.2.2.1, by rw [h 122 (by decide) (by decide), h 1 (by decide) (by decide)]; exact q.2.2.2.2.2.2.2.1, by rw [h 122 (by decide) (by decide), h 3 (by decide) (by decide)]; exact q.2.2.2.2.2.2.2.2⟩
  · rw [h 0 (by decide) (by decide)] at hb
    have q := wt8 hT hb
    exact ⟨by rw [h 161 (by decide) (by decide), h 0 (by decide) (by decide)]; exact q.1, by rw [h 161 (by decide) (by decide), h 3 (by decide) (by decide)]; exact q.2.1, by rw [h 162 (by decide) (by decide), h 0 (by decide) (by decide)]; exact q.2.2.1, by rw [h 162 (by decide) (by decide), h 3 (by decide) (by decide)]; exact q.2.2.2.1, by rw [h 163 (by decide) (by decide), h 0 (by decide) (by decide)]; exact q.2.2.2.2.1, by rw [h 163 (by decide) (by decide), h 3 (by decide) (by decide)]; exact q.2.2.2.2.2⟩
  · rw [h 0 (by decide) (by decide)] at hb
    have q := wt9 hT hb
    exact ⟨by rw [h 180 (by decide) (by decide), h 0 (by decide) (by decide)]; exact q.1, by rw [h 180 (by decide) (by decide), h 2 (by decide) (by decide)]; exact q.2.1, by rw [h 181 (by decide) (by decide), h 0 (by decide) (by decide)]; exact q.2.2.1, by rw [h 181 (by decide) (by decide), h 2 (by decide) (by decide)]; exact q.2.2.2.1, by rw [h 182 (by decide) (by decide), h 0 (by decide) (by decide)]; exact q.2.2.2.2.1, by rw [h 182 (by decide) (by decide), h 2 (by decide) (by decide)]; exact q.2.2.2.2.2.1, by rw [h 183 (by decide) (by decide), h 0 (by decide) (by decide)]; exact q.2.2.2.2.2.2.1, by rw [h 183 (by decide) (by decide), h 2 (by decide) (by decide)]; exact q.2.2.2.2.2.2.2.1, by rw [h 184 (by decide) (by decide), h 0 (by decide) (by decide)]; exact q.2.2.2.2.2.2.2.2.1, by rw [h 184 (by decide) (by decide), h 1 (by decide) (by decide)]; exact q.2.2.2.2.2.2.2.2.2.1, by rw [h 184 (by decide) (by decide), h 3 (by decide) (by decide)]; exact q.2.2.2.2.2.2.2.2.2.2.1, by rw [h 185 (by decide) (by decide), h 0 (by decide) (by decide)]; exact q.2.2.2.2.2.2.2.2.2.2.2.1, by rw [h 185 (by decide) (by decide), h 1 (by decide) (by decide)]; exact q.2.2.2.2.2.2.2.2.2.2.2.2.1, by rw [h 185 (by decide) (by decide), h 3 (by decide) (by decide)]; exact q.2.2.2.2.2.2.2.2.2.2.2.2.2.1, by rw [h 192 (by decide) (by decide), h 0 (by decide) (by decide)]; exact q.2.2.2.2.2.2.2.2.2.2.2.2.2.2.1, by rw [h 193 (by decide) (by decide), h 0 (by decide) (by decide)]; exact q.2.2.2.2.2.2.2.2.2.2.2.2.2.2.2.1, by rw [h 194 (by decide) (by decide), h 0 (by decide) (by decide)]; exact q.2.2.2.2.2.2.2.2.2.2.2.2.2.2.2.2.1, by rw [h 194 (by decide) (by decide), h 1 (by decide) (by decide)]; exact q.2.2.2.2.2.2.2.2.2.2.2.2.2.2.2.2.2.1, by rw [h 194 (by decide) (by decide), h 3 (by decide) (by decide)]; exact q.2.2.2.2.2.2.2.2.2.2.2.2.2.2.2.2.2.2.1, by rw [h 195 (by decide) (by decide), h 0 (by decide) (by decide)]; exact q.2.2.2.2.2.2.2.2.2.2.2.2.2.2.2.2.2.2.2.1, by rw [h 195 (by decide) (by decide), h 1 (by decide) (by decide)]; exact q.2.2.2.2.2.2.2.2.2.2.2.2.2.2.2.2.2.2.2.2.1, by rw [h 195 (by decide) (by decide), h 3 (by decide) (by decide)]; exact q.2.2.2.2.2.2.2.2.2.2.2.2.2.2.2.2.2.2.2.2.2.1, by rw [h 196 (by decide) (by decide), h 0 (by decide) (by decide)]; exact q.2.2.2.2.2.2.2.2.2.2.2.2.2.2.2.2.2.2.2.2.2.2.1, by rw [h 196 (by decide) (by decide), h 1 (by decide) (by decide)]; exact q.2.2.2.2.2.2.2.2.2.2.2.2.2.2.2.2.2.2.2.2.2.2.2.1, by rw [h 196 (by decide) (by decide), h 3 (by decide) (by decide)]; exact q.2.2.2.2.2.2.2.2.2.2.2.2.2.2.2.2.2.2.2.2.2.2.2.2.1, fun x hx => by rw [h 197 (by decide) (by decide)] at hx; rw [h 0 (by decide) (by decide)]; exact q.2.2.2.2.2.2.2.2.2.2.2.2.2.2.2.2.2.2.2.2.2.2.2.2.2 x hx⟩
  · exact h10 b hb
section Lists
variable {D : va_G} {cy : Nat → ClassId} {T : Nat → Nat → Nat} {v : Nat → Nat → Int} {H : Heap}
theorem cw_ltq (hw : WC D cy T v H) {a : Nat} (h : T 0 a = 24 ∨ T 0 a = 26) : a < H.size := h.elim (fun q => cw_lt hw q (fun _ _ _ => ⟨_, rfl⟩)) (fun q => cw_lt hw q (fun _ _ _ => ⟨_, rfl⟩))
theorem cw_stq {H1 : Heap} (hw : WC D cy T v H) {a x L i : Nat} (ha : T 0 a = 24) (hL : T 0 L = 10) (hLa : T 201 L = a) (hi : v 202 L ≤ (i : Int)) (hoth : ∀ b, b ≠ a → H1[b]? = H[b]?) (hat : va_at D vwCl (a, .inl (cy 4, T 1 a, .inr (.inr (.inr (.inr (va_up (fun j => dcd (T (1000 + j) a)) i (some x))))))) H1) : WC D cy (upT T a (fun j => if j = 1000 + i then x + 1 else T j a)) v H1 := by
  have K0 : ∀ k, k < 1000 → ∀ b, upT T a (fun j => if j = 1000 + i then x + 1 else T j a) k b = T k b := by
    intro k hk b
    by_cases hb : b = a
    · subst hb; rw [upT_at]; exact if_neg (by omega)
    · exact upT_ne k hb
  generalize hT2 : upT T a (fun j => if j = 1000 + i then x + 1 else T j a) = T2 at *
  have Ka : ∀ j, T2 (1000 + j) a = if j = i then x + 1 else T (1000 + j) a := by
    intro j
    rw [← hT2, upT_at]
    by_cases hj : j = i
    · rw [if_pos (by omega), if_pos hj]
    · rw [if_neg (by omega), if_neg hj]
  have Kn : ∀ k b, b ≠ a → T2 k b = T k b := fun k b hb => by rw [← hT2]; exact upT_ne k hb
  obtain ⟨hG, hT, hLL, hR⟩ := hw
  refine ⟨fun b e he => ?_, WT_d (fun k hk _ b => K0 k hk b) hT (fun b hb => ?_), fun L' hL' => ?_, hR⟩
  · by_cases hb : b = a
    · subst hb
      rw [show T2 0 b = 24 from (K0 0 (by decide) b).trans ha] at he
      cases he
      show va_at D vwCl (b, .inl (cy 4, T2 1 b, .inr (.inr (.inr (.inr (fun j => dcd (T2 (1000 + j) b))))))) H1
      rw [K0 1 (by decide) b, show (fun j => dcd (T2 (1000 + j) b)) = va_up (fun j => dcd (T (1000 + j) b)) i (some x) from funext fun j => by
        rw [Ka j]
        unfold va_up
        split
        · exact dcd_s x
        · rfl]
      exact hat
    · rw [show (fun k => T2 k b) = fun k => T k b from funext fun k => Kn k b hb, Kn 0 b hb] at he
      have h1 := hG b e he
      exact h1.kept (hoth b hb)
  · rw [K0 0 (by decide)] at hb
    have q := wt10 hT hb
    refine ⟨by rw [K0 201 (by decide), K0 0 (by decide)]; exact q.1, ?_, by rw [K0 2 (by decide)]; exact q.2.2⟩
    rw [K0 201 (by decide), K0 0 (by decide), K0 3 (by decide)]
    exact q.2.1
  · rw [K0 0 (by decide)] at hL'
    have h := hLL L' hL'
    refine ⟨h.1, by rw [K0 201 (by decide), K0 1 (by decide)]; exact h.2.1, fun j hj => ?_⟩
    obtain ⟨y, hy, ty⟩ := h.2.2 j hj
    refine ⟨y, ?_, by rw [K0 0 (by decide), K0 2 (by decide)]; exact ty⟩
    rw [K0 201 (by decide)]
    by_cases hr : T 201 L' = a
    · have o1 := (wt10 hT hL').2.1 (by rw [hr]; exact ha)
      have o2 := (wt10 hT hL).2.1 (by rw [hLa]; exact ha)
      rw [hr] at o1
      rw [hLa] at o2
      have e : L' = L := o1.symm.trans o2
      subst e
      rw [hr, Ka j, if_neg (by omega)]
      rw [hr] at hy
      exact hy
    · rw [Kn _ _ hr]
      exact hy
theorem cw_ed {H1 : Heap} (hw : WC D cy T v H) {L x : Nat} (hL : T 0 L = 10) (hx : T 0 x = 24) (ho : T 3 x = L) (hle : v 202 L ≤ (T 1 x : Int)) (hel : ∀ i : Nat, (i : Int) < v 202 L → ∃ y, dcd (T (1000 + i) x) = some y ∧ T 0 y = T 2 L) (hoth : ∀ b, b ≠ L → H1[b]? = H[b]?) (hat : va_at D vwCl (L, .inr (0, [.int (J (v 200 L)), .ref x, .int (J (v 202 L))])) H1) : WC D cy (upT T L (fun j => if j = 201 then x else T j L)) v H1 := by
  have K0 : ∀ k, k ≠ 201 → ∀ b, upT T L (fun j => if j = 201 then x else T j L) k b = T k b := by
    intro k hk b
    by_cases hb : b = L
    · subst hb; rw [upT_at]; exact if_neg hk
    · exact upT_ne k hb
  have K1 : upT T L (fun j => if j = 201 then x else T j L) 201 L = x := (upT_at _ _ _ _).trans (if_pos rfl)
  have Kn : ∀ k b, b ≠ L → upT T L (fun j => if j = 201 then x else T j L) k b = T k b := fun k b hb => upT_ne k hb
  generalize upT T L (fun j => if j = 201 then x else T j L) = T2 at *
  obtain ⟨hG, hT, hLL, hR⟩ := hw
  refine ⟨fun b e he => ?_, WT_d (fun k _ hk b => K0 k hk b) hT (fun b hb => ?_), fun L' hL' => ?_, hR⟩
  · by_cases hb : b = L
    · subst hb
      rw [show T2 0 b = 10 from (K0 0 (by decide) b).trans hL] at he
      cases he
      show va_at D vwCl (b, .inr (0, [.int (J (v 200 b)), .ref (T2 201 b), .int (J (v 202 b))])) H1
      rw [K1]
      exact hat
    · rw [show (fun k => T2 k b) = fun k => T k b from funext fun k => Kn k b hb, Kn 0 b hb] at he
      have h1 := hG b e he
      exact h1.kept (hoth b hb)
  · rw [K0 0 (by decide)] at hb
    have q := wt10 hT hb
    by_cases e : b = L
    · subst e
      refine ⟨by rw [K1, K0 0 (by decide)]; exact Or.inl hx, fun _ => by rw [K1, K0 3 (by decide)]; exact ho, by rw [K0 2 (by decide)]; exact q.2.2⟩
    · refine ⟨by rw [Kn 201 b e, K0 0 (by decide)]; exact q.1, ?_, by rw [K0 2 (by decide)]; exact q.2.2⟩
      rw [Kn 201 b e, K0 0 (by decide), K0 3 (by decide)]
      exact q.2.1
  · rw [K0 0 (by decide)] at hL'
    have h := hLL L' hL'
    by_cases e : L' = L
    · subst e
      refine ⟨h.1, by rw [K1, K0 1 (by decide)]; exact hle, fun j hj => ?_⟩
      obtain ⟨y, hy, ty⟩ := hel j hj
      exact ⟨y, by rw [K1, K0 _ (by omega)]; exact hy, by rw [K0 0 (by decide), K0 2 (by decide)]; exact ty⟩
    · refine ⟨h.1, by rw [Kn 201 _ e, K0 1 (by decide)]; exact h.2.1, fun j hj => ?_⟩
      obtain ⟨y, hy, ty⟩ := h.2.2 j hj
      exact ⟨y, by rw [Kn 201 _ e, K0 _ (by omega)]; exact hy, by rw [K0 0 (by decide), K0 2 (by decide)]; exact ty⟩
theorem cw_row {H1 : Heap} (hw : WC D cy T v H) {a t : Nat} (ht : T 0 a = t) {y : Nat → Int} (hy : ∀ x, inR (y x)) (hoth : ∀ b, b < H.size → b ≠ a → H1[b]? = H[b]?) (hyo : ∀ b, b ≠ a → ∀ i, y (pr b i) = v (280 + t) (pr b i)) (hnew : ∀ e : va_E, cEnt cy (fun j => T j a) (fun j => v j a) (fun i => J (y (pr a i))) t = some e → xAt D (a, e) H1) : WC D cy T (upV v (280 + t) y) H1 := by
  obtain ⟨h, hT, hL, hR⟩ := hw
  have hlo : ∀ k, k < 280 → upV v (280 + t) y k = v k := fun k hk => by
    unfold upV
    rw [if_neg (by omega)]
  have hhi : upV v (280 + t) y (280 + t) = y := if_pos rfl
  refine ⟨fun b e he => ?_, hT, fun L hL0 => ?_, fun j b => ?_⟩
  · rw [cEnt_cg (ν := fun k => v k b) _ _ (fun k hk => congrFun (hlo k hk) b)] at he
    by_cases hb : b = a
    · subst hb
      rw [ht, show rw_ (upV v (280 + t) y) t b = fun i => J (y (pr b i)) from funext fun i => by unfold rw_; rw [hhi]] at he
      exact hnew e he
    · have e2 : rw_ (upV v (280 + t) y) (T 0 b) b = rw_ v (T 0 b) b := by
        funext j
        unfold rw_ upV
        split
        · rename_i hj
          rw [hj, hyo b hb]
        · rfl
      rw [e2] at he
      have h1 := h b e he
      exact h1.kept (hoth b h1.lt hb)
  · rw [hlo 202 (by decide)]
    exact hL L hL0
  · unfold upV
    split
    · exact hy b
    · exact hR j b
theorem crow (g c : Nat → Int) (hg : ∀ x, inR (g x)) (hc : ∀ x, inR (c x)) (q : Nat) : ∃ y : Nat → Int, (∀ i, y (pr q i) = c i) ∧ (∀ b, b ≠ q → ∀ i, y (pr b i) = g (pr b i)) ∧ (∀ x, inR (y x)) := by
  refine ⟨fun x => @dite Int (∃ i, x = pr q i) (Classical.propDecidable _) (fun h => c (Classical.choose h)) (fun _ => g x), fun i => ?_, fun b hb i => dif_neg (fun h => ?_), fun x => ?_⟩
  · have h : ∃ j, pr q i = pr q j := ⟨i, rfl⟩
    refine (dif_pos h).trans (congrArg c ?_)
    exact (pr_inj (Classical.choose_spec h)).2.symm
  · obtain ⟨j, h⟩ := h
    exact hb (pr_inj h).1
  · show inR (@dite Int (∃ i, x = pr q i) (Classical.propDecidable _) (fun h => c (Classical.choose h)) (fun _ => g x))
    split
    · exact hc _
    · exact hg x
theorem upV_upV (v : Nat → Nat → Int) (k : Nat) (g h : Nat → Int) : upV (upV v k g) k h = upV v k h := by
  funext j
  unfold upV
  split <;> rfl
end Lists
theorem cn_same : Cond.sameMethod "[I" "java/lang/Object" "clone" "()Ljava/lang/Object;" ∈ gT := (gT_c3 (List.mem_of_getElem? (i := 74) (by decide +kernel)) (by decide +kernel))
theorem cn_nat : Cond.native ⟨"java/lang/Object", "clone", "()Ljava/lang/Object;"⟩ ∈ gT := (gT_c3 (List.mem_of_getElem? (i := 75) (by decide +kernel)) (by decide +kernel))
theorem cn_ins : Cond.instanceMethod ⟨"java/lang/Object", "clone", "()Ljava/lang/Object;"⟩ ∈ gT := (gT_c3 (List.mem_of_getElem? (i := 76) (by decide +kernel)) (by decide +kernel))
theorem cn_sel : Cond.selects "[I" ⟨"[I", "clone", "()Ljava/lang/Object;"⟩ ⟨"java/lang/Object", "clone", "()Ljava/lang/Object;"⟩ ∈ gT := (gT_c3 (List.mem_of_getElem? (i := 77) (by decide +kernel)) (by decide +kernel))
theorem gc_sel : Cond.selects "[Ljava/lang/Object;" ⟨"java/lang/Object", "getClass", "()Ljava/lang/Class;"⟩ ⟨"java/lang/Object", "getClass", "()Ljava/lang/Class;"⟩ ∈ gT := (gT_c7 (List.mem_of_getElem? (i := 216) (by decide +kernel)) (by decide +kernel))
theorem gc_ins : Cond.instanceMethod ⟨"java/lang/Object", "getClass", "()Ljava/lang/Class;"⟩ ∈ gT := (gT_c2 (List.mem_of_getElem? (i := 31) (by decide +kernel)) (by decide +kernel))
theorem gc_nat : Cond.native ⟨"java/lang/Object", "getClass", "()Ljava/lang/Class;"⟩ ∈ gT := (gT_c2 (List.mem_of_getElem? (i := 44) (by decide +kernel)) (by decide +kernel))
theorem lk_gc : Cond.methodLink RJ7 86 ⟨"java/lang/Object", "getClass", "()Ljava/lang/Class;"⟩ ∈ gT := (gT_c2 (List.mem_of_getElem? (i := 30) (by decide +kernel)) (by decide +kernel))
theorem lk_cn : Cond.methodLink RJ7 316 ⟨"[I", "clone", "()Ljava/lang/Object;"⟩ ∈ gT := (gT_c3 (List.mem_of_getElem? (i := 73) (by decide +kernel)) (by decide +kernel))
theorem lk_ac : Cond.methodLink RJ7 150 arraycopyName ∈ gT := (gT_c2 (List.mem_of_getElem? (i := 54) (by decide +kernel)) (by decide +kernel))
theorem lk_oa : Cond.classLink RJ7 110 "[Ljava/lang/Object;" ∈ gT := (gT_c2 (List.mem_of_getElem? (i := 48) (by decide +kernel)) (by decide +kernel))
theorem lk_o2 : Cond.classLink RJ7 2 "java/lang/Object" ∈ gT := (gT_c2 (List.mem_of_getElem? (i := 50) (by decide +kernel)) (by decide +kernel))
theorem lk_o7 : Cond.classLink RJx4a65c 7 "java/lang/Object" ∈ gT := (gT_c2 (List.mem_of_getElem? (i := 58) (by decide +kernel)) (by decide +kernel))
theorem lk_ia : Cond.classLink RJ7 317 "[I" ∈ gT := (gT_c3 (List.mem_of_getElem? (i := 79) (by decide +kernel)) (by decide +kernel))
theorem ac_nat : Cond.native arraycopyName ∈ gT := (gT_c2 (List.mem_of_getElem? (i := 56) (by decide +kernel)) (by decide +kernel))
theorem ac_sta : Cond.static arraycopyName ∈ gT := (gT_c2 (List.mem_of_getElem? (i := 55) (by decide +kernel)) (by decide +kernel))
theorem ac_ini : Cond.initialized "java/lang/System" ∈ gT := (gT_c1 (List.mem_of_getElem? (i := 13) (by decide +kernel)) (by decide +kernel))
section LRow
variable {p : Program} {l : Launch} {e : Env} {R : Room} {s : State} {m : MethodId} {args : Array Value} {below : List Frame} {meth : Method} {c : Code} {H H0 : Heap} {locs : List Loc} {cells slots : Nat} {Q : State → Prop} {cc : ByteArray} {nL : Nat} {ret : Option FieldType} {pc : Nat} {ls : Array Slot} {rest : List Value} {D : va_G} {cy : Nat → ClassId} {κ T : Nat → Nat → Nat} {v : Nat → Nat → Int} {A0 : Nat → Prop} {own : String}
theorem n_arrq (E : CX p s m args meth c own cc nL ret) (hK : KK D cy s) (hw : WK D cy T v A0 H0 H locs) (hA : ∀ x, H0.size ≤ x → A0 x) (hover : va_AO "java/lang/Object" s) {ix : Nat} (hl : Cond.classLink own ix "java/lang/Object" ∈ gT) (N : Nat) (hN : N < 20000) {z : Int} (hz : z = (N : Int)) (hcl : cells + 1 ≤ R.cells) (hsl : slots + N ≤ R.slots) (pc' : Nat) (hp : pc + 3 = pc') (hdg : decode cc pc = .ok (.anewarray ix, 3))
    (kk : ∀ (q : Nat) (T2 : Nat → Nat → Nat) (H1 : Heap), H.size ≤ q → (∀ b, b ≠ q → ∀ k, T2 k b = T k b) → OW T T2 H.size → T2 0 q = 124 → T2 1 q = N → WK D cy T2 v A0 H0 H1 locs → W p l e R s m args below meth c H1 locs (cells + 1) (slots + N) Q (F0 m pc' ls (.ref q :: rest))) : W p l e R s m args below meth c H locs cells slots Q (F0 m pc ls (.int (J z) :: rest)) := by
  subst hp hz
  have eN : (J (N : Int)).toNatClampNeg = N := by rw [J_clamp (by omega) (by omega)]; omega
  refine W.anew E.1 E.2.1 E.2.2.2.1 (E.2.2.2.2.1 _ hl) (va_AO.use hover) rfl hdg rfl ?_ ?_ hcl ?_ fun cA kA comp f1 f2 f3 f4 => ?_
  · intro h
    have h2 := (J_lt (a := (N : Int)) (b := 0) ⟨by omega, by omega⟩ inR0).mp (by rw [J_0]; exact h)
    omega
  · rw [eN]; omega
  · rw [eN]; exact hsl
  rw [eN]
  generalize hH1 : H.push ({ cls := cA, slots := Array.replicate N .null, vm := .none } : Cell) = H1
  have z1 : H1.size = H.size + 1 := by rw [← hH1, Array.size_push]
  have e1 : H1[H.size]? = some (arrV cA N (fun _ => .null)) := by rw [← hH1, Array.getElem?_push_size, ← arrV_new]
  have o1 : ∀ q : Nat, q < H.size → H1[q]? = H[q]? := fun q hq => by rw [← hH1, Array.getElem?_push, if_neg (Nat.ne_of_lt hq)]
  have e0 : cA = cy 4 := by
    obtain ⟨-, -, -, -, -, h4⟩ := (hK.2 4 (cy 4, .object "java/lang/Object") rfl).2
    exact Option.some.inj (f1.symm.trans h4)
  subst e0
  have hw3 : WC D cy (upT T H.size (fun k => if k = 0 then 124 else if k = 1 then N else 0)) v H1 := by
    refine cw_set hw.1 (Or.inl (Nat.le_refl _)) (fun b hb _ => o1 b hb) (by show N < _; omega) (fun e he => ?_) trivial (fun h => absurd (show 124 = 10 from h) (by decide)) (show 124 ≠ 26 by decide)
    cases he
    show H1[H.size]? = some (vp_cell _ _)
    rw [vp_cell_q]
    rw [e1]
    congr 1
    show arrV _ _ _ = arrV _ _ _
    congr 1
    funext j
    show Value.null = va_rf (dcd (if 1000 + j = 0 then 124 else if 1000 + j = 1 then N else 0))
    rw [if_neg (by omega), if_neg (by omega)]
    rfl
  exact kk H.size _ H1 (Nat.le_refl _) (fun b hb k => upT_ne k hb) (ow_nw (Nat.le_refl _) (show 124 ≠ 26 by decide)) (upT_at _ _ _ _) (upT_at _ _ _ _) ⟨hw3, fun b h => (ow_new (Nat.le_refl _) b h).elim (hw.2.1 b) (fun z => hA b (Nat.le_trans hw.2.2.1 z)), ⟨Nat.le_trans hw.2.2.1 (by omega), fun b h1 h2 => (o1 b (by have := hw.2.2.1; omega)).trans (hw.2.2.2.1 b h1 h2), hw.2.2.2.2⟩⟩
theorem p_202 (E : CX p s m args meth c own cc nL ret) (hK : KK D cy s) (hw : WK D cy T v A0 H0 H locs) {ix : Nat} (hl : Cond.fieldLink own ix RJx4a65c (TJx4a65c 2).2.1 (TJx4a65c 2).2.2.1 ∈ gT) {a : Nat} (ht : T 0 a = 10) {z : Int} (hz : inR z) (h0 : 0 ≤ z) (h1 : z ≤ (T 1 (T 201 a) : Int)) (h2 : ∀ i : Nat, (i : Int) < z → ∃ x, dcd (T (1000 + i) (T 201 a)) = some x ∧ T 0 x = T 2 a) (pc' : Nat) (hp : pc + 3 = pc') (hdg : decode cc pc = .ok (.putfield ix, 3)) (kk : ∀ (H : Heap) (locs : List Loc), WK D cy T (upV v 202 (upB (v 202) a z)) A0 H0 H locs → W p l e R s m args below meth c H locs cells slots Q (F0 m pc' ls rest)) : W p l e R s m args below meth c H locs cells slots Q (F0 m pc ls (.int (J z) :: .ref a :: rest)) := by
  refine x_put E hK hw.2.2 (hw.2.1 a ⟨by rw [ht]; decide, by rw [ht]; decide⟩) in_Jx4a65c tyJx4a65c tyJx4a65c_ok nmJx4a65c (ci := 0) rfl (cw_ob10 hw.1 ht) (k := 2) (by decide) hl (fun x h => h) (by decide +kernel) (ty := .int) (by decide +kernel) rfl rfl (Nat.le_of_ble_eq_true rfl) pc' hp hdg (fun H1 locs1 hat hoth hsz hS => ?_)
  refine kk H1 locs1 ⟨cw_put hw.1 (by decide) ht hz hoth (fun L hL => ?_) (fun γ e he => ?_), hw.2.1, hS⟩
  · show 0 ≤ upB (v 202) a z L ∧ upB (v 202) a z L ≤ (T 1 (T 201 L) : Int) ∧ ∀ i : Nat, (i : Int) < upB (v 202) a z L → ∃ x, dcd (T (1000 + i) (T 201 L)) = some x ∧ T 0 x = T 2 L
    by_cases e : L = a
    · subst e
      rw [upB_same]
      exact ⟨h0, h1, h2⟩
    · rw [upB_ne e]
      exact hw.1.2.2.1 L hL
  · cases he
    show va_at D vwCl (a, .inr (0, [.int (J (v 200 a)), .ref (T 201 a), .int (J (upB (v 202) a z a))])) H1
    rw [upB_same]
    exact hat
theorem e_put (E : CX p s m args meth c own cc nL ret) (hK : KK D cy s) (hw : WK D cy T v A0 H0 H locs) {ix : Nat} (hl : Cond.fieldLink own ix RJx4a65c (TJx4a65c 1).2.1 (TJx4a65c 1).2.2.1 ∈ gT) {L x : Nat} (hL : T 0 L = 10) (hx : T 0 x = 124) (hle : v 202 L ≤ (T 1 x : Int)) (hel : ∀ i : Nat, (i : Int) < v 202 L → ∃ y, dcd (T (1000 + i) x) = some y ∧ T 0 y = T 2 L) (pc' : Nat) (hp : pc + 3 = pc') (hdg : decode cc pc = .ok (.putfield ix, 3)) (kk : ∀ (T2 : Nat → Nat → Nat) (H : Heap) (locs : List Loc), (∀ b, b ≠ L → b ≠ x → ∀ k, T2 k b = T k b) → (∀ k, k ≠ 201 → T2 k L = T k L) → T2 201 L = x → T2 0 x = 24 → (∀ k, k ≠ 0 → k ≠ 3 → T2 k x = T k x) → OW0 T T2 → WK D cy T2 v A0 H0 H locs → W p l e R s m args below meth c H locs cells slots Q (F0 m pc' ls rest)) : W p l e R s m args below meth c H locs cells slots Q (F0 m pc ls (.ref x :: .ref L :: rest)) := by
  refine x_put E hK hw.2.2 (hw.2.1 L ⟨by rw [hL]; decide, by rw [hL]; decide⟩) in_Jx4a65c tyJx4a65c tyJx4a65c_ok nmJx4a65c (ci := 0) rfl (cw_ob10 hw.1 hL) (k := 1) (by decide) hl (fun x h => h) (by decide +kernel) (ty := tyJx4a65c 1) (by decide +kernel) rfl rfl (Nat.le_of_ble_eq_true rfl) pc' hp hdg (fun H1 locs1 hat hoth hsz hS => ?_)
  have hLx : L ≠ x := ty_ne hL hx (by decide)
  have w1 : WC D cy (upT T x (fun k => if k = 0 then 24 else if k = 3 then L else T k x)) v H := by
    refine cw_set hw.1 (Or.inr (by rw [hx]; decide)) (fun b _ _ => rfl) (show T 1 x < _ from hw.1.2.1.1 x) (fun e he => ?_) trivial (fun h => absurd (show 24 = 10 from h) (by decide)) (show 24 ≠ 26 by decide)
    cases he
    obtain ⟨γ, h⟩ := cw_at hw.1 hx
    have h := h _ rfl
    show va_at D vwCl (x, .inl (cy 4, T 1 x, .inr (.inr (.inr (.inr (fun i => dcd (if 1000 + i = 0 then 24 else if 1000 + i = 3 then L else T (1000 + i) x))))))) H
    rw [show (fun i => dcd (if 1000 + i = 0 then 24 else if 1000 + i = 3 then L else T (1000 + i) x)) = fun i => dcd (T (1000 + i) x) from funext fun i => by rw [if_neg (by omega), if_neg (by omega)]]
    exact h
  have K1 : ∀ b, b ≠ x → ∀ k, upT T x (fun k => if k = 0 then 24 else if k = 3 then L else T k x) k b = T k b := fun b hb k => upT_ne k hb
  have Kx0 : upT T x (fun k => if k = 0 then 24 else if k = 3 then L else T k x) 0 x = 24 := upT_at _ _ _ _
  have Kx3 : upT T x (fun k => if k = 0 then 24 else if k = 3 then L else T k x) 3 x = L := upT_at _ _ _ _
  have Kxk : ∀ k, k ≠ 0 → k ≠ 3 → upT T x (fun k => if k = 0 then 24 else if k = 3 then L else T k x) k x = T k x := fun k h1 h2 => (upT_at _ _ _ _).trans ((if_neg h1).trans (if_neg h2))
  generalize upT T x (fun k => if k = 0 then 24 else if k = 3 then L else T k x) = T1 at *
  have w2 : WC D cy (upT T1 L (fun j => if j = 201 then x else T1 j L)) v H1 := by
    refine cw_ed w1 (by rw [K1 L hLx]; exact hL) Kx0 Kx3 (by rw [Kxk 1 (by decide) (by decide)]; exact hle) (fun i hi => ?_) (fun b hb => hoth b hb) hat
    obtain ⟨y, hy, ty⟩ := hel i hi
    refine ⟨y, by rw [Kxk _ (by omega) (by omega)]; exact hy, ?_⟩
    have hyx : y ≠ x := by
      intro e
      subst e
      have q := (wt10 hw.1.2.1 hL).2.2
      rw [hx] at ty
      omega
    rw [K1 y hyx, K1 L hLx]
    exact ty
  have ho : OW0 T (upT T1 L (fun j => if j = 201 then x else T1 j L)) := by
    intro b
    by_cases e : b = L
    · subst e
      exact ⟨fun _ => ⟨by rw [hL]; decide, by rw [hL]; decide⟩, fun h => by rw [upT_at, if_neg (by decide), K1 b hLx, hL] at h; cases h⟩
    · by_cases e2 : b = x
      · subst e2
        exact ⟨fun _ => ⟨by rw [hx]; decide, by rw [hx]; decide⟩, fun h => by rw [upT_ne 0 e, Kx0] at h; cases h⟩
      · exact ⟨fun hb => by unfold ow at hb ⊢; rw [upT_ne 0 e, K1 b e2] at hb; exact hb, fun h => by rw [upT_ne 0 e, K1 b e2] at h; exact h⟩
  exact kk (upT T1 L (fun j => if j = 201 then x else T1 j L)) H1 locs1 (fun b h1 h2 k => (upT_ne k h1).trans (K1 b h2 k)) (fun k hk => ((upT_at T1 L (fun j => if j = 201 then x else T1 j L) k).trans (if_neg hk)).trans (K1 L hLx k)) ((upT_at T1 L (fun j => if j = 201 then x else T1 j L) 201).trans (if_pos rfl)) ((upT_ne 0 (Ne.symm hLx)).trans Kx0) (fun k h1 h2 => (upT_ne k (Ne.symm hLx)).trans (Kxk k h1 h2)) ho ⟨w2, fun b hb => hw.2.1 b ((ho b).1 hb), hS⟩
theorem el_cell (hZ : ZN κ s) (hK : KK D cy s) (hw : WC D cy T v H) {x t : Nat} (hx : T 0 x = t) (ht : t = 1 ∨ t = 2 ∨ t = 7 ∨ t = 8) : ∃ (ci : Nat) (r : vw_C) (vs : List Value), va_at D vwCl (x, .inr (ci, vs)) H ∧ vwCl[ci]? = some r ∧ va_Nw (.castable r.1 "java/lang/Object") s := by
  rcases ht with rfl | rfl | rfl | rfl
  · exact ⟨1, _, _, cw_ob1 hw hx, rfl, hZ.ca1⟩
  · exact ⟨2, _, _, cw_ob2 hw hx, rfl, hZ.ca2⟩
  · exact ⟨7, _, _, cw_ob7 hw hx, rfl, hZ.ca7⟩
  · exact ⟨8, _, _, cw_ob8 hw hx, rfl, hZ.ca8⟩
theorem s_row (E : CX p s m args meth c own cc nL ret) (hK : KK D cy s) (hw : WK D cy T v A0 H0 H locs) (hZ : ZN κ s) {a x L t i : Nat} (ha : T 0 a = 24) (hL : T 0 L = 10) (hLa : T 201 L = a) {j : Int} (hj : j = (i : Int)) (hi : v 202 L ≤ (i : Int)) (hin : i < T 1 a) (hx : T 0 x = t) (ht : t = 1 ∨ t = 2 ∨ t = 7 ∨ t = 8) (pc' : Nat) (hp : pc + 1 = pc') (hdg : decode cc pc = .ok (.aastore, 1)) (kk : ∀ (T2 : Nat → Nat → Nat) (H : Heap) (locs : List Loc), (∀ k b, k < 1000 → T2 k b = T k b) → (∀ k b, b ≠ a → T2 k b = T k b) → (∀ n, T2 (1000 + n) a = if n = i then x + 1 else T (1000 + n) a) → OW0 T T2 → WK D cy T2 v A0 H0 H locs → W p l e R s m args below meth c H locs cells slots Q (F0 m pc' ls rest)) : W p l e R s m args below meth c H locs cells slots Q (F0 m pc ls (.ref x :: .int (J j) :: .ref a :: rest)) := by
  subst hp hj
  obtain ⟨ci, r, vs, hv, hc, hca⟩ := el_cell hZ hK hw.1 hx ht
  obtain ⟨γ, h⟩ := cw_at hw.1 ha
  have hat := h _ rfl
  have hb := hw.1.2.1.1 a
  have hcl : (J (i : Int)).toNatClampNeg = i := by rw [J_clamp (by omega) (by omega)]; omega
  have hin2 : vp_in (J (i : Int)) (T 1 a) := J_in (by omega) (by omega) hb
  have h0 : ¬ J (i : Int) < 0 := fun q => hin2 (Or.inl q)
  obtain ⟨r', hr', cellV, g1, g2, g3, -⟩ := hv
  have hcls := (hK.1 ci r hc).2
  obtain ⟨kA, comp, k1, k2, k3, -⟩ := (hK.2 4 (cy 4, .object "java/lang/Object") rfl).2
  obtain ⟨kE, hkE, -⟩ := Vm.findClass_spec k3
  obtain ⟨c0, t1, f1, f2, f3⟩ := Cond.castable_spec (va_Nw.use (A := args) rfl hca)
  cases hcls.1.symm.trans f1
  cases k3.symm.trans f2
  obtain ⟨kC, hkC, -⟩ := hcls.2
  refine W.aast E.1 E.2.1 hat (fun q h => by cases h) (fun h => by cases h) k1 k2 rfl hkE ⟨h0, by show _ < (arrV _ _ _).slots.size; rw [arrV_size, hcl]; exact hin⟩ g1 (fun q h => by rw [g3] at h; cases h) (by rw [g2]; exact hkC) (by rw [g2]; exact f3) rfl rfl hdg fun H1 e z oq => ?_
  have hnew : va_at D vwCl (a, .inl (cy 4, T 1 a, .inr (.inr (.inr (.inr (va_up (fun j => dcd (T (1000 + j) a)) i (some x))))))) H1 := by
    show H1[a]? = some (vp_cell _ _)
    rw [e, hcl]
    show some ((arrV _ _ _).setSlot _ _) = _
    rw [vp_cell_q, arrV_store]
    congr 2
    funext q
    by_cases hq : q = i
    · subst hq
      simp [updV, va_up, va_rf]
    · simp [updV, va_up, hq]
  have w2 := cw_stq hw.1 ha hL hLa hi oq hnew
  have K0 : ∀ k b, k < 1000 → upT T a (fun j => if j = 1000 + i then x + 1 else T j a) k b = T k b := by
    intro k b hk
    by_cases hb : b = a
    · subst hb; rw [upT_at]; exact if_neg (by omega)
    · exact upT_ne k hb
  have ho : OW0 T (upT T a (fun j => if j = 1000 + i then x + 1 else T j a)) := OW0.of (fun b => K0 0 b (by decide))
  refine kk _ H1 _ K0 (fun k b hb => upT_ne k hb) (fun n => ?_) ho ⟨w2, fun b hb => hw.2.1 b ((ho b).1 hb), hw.2.2.put z oq (hw.2.1 a ⟨by rw [ha]; decide, by rw [ha]; decide⟩)⟩
  rw [upT_at]
  by_cases hn : n = i
  · rw [if_pos (by omega), if_pos hn]
  · rw [if_neg (by omega), if_neg hn]
theorem x_copyi (E : CX p s m args meth c own cc nL ret) (hK : KK D cy s) (hw : WK D cy T v A0 H0 H locs) (hlo : locs = []) {ix a0 q : Nat} (hl : Cond.methodLink own ix arraycopyName ∈ gT) (hls : ls.size = nL) (h0 : T 0 a0 = 20) (hq : T 0 q = 20) (hne : a0 ≠ q) {n : Int} (hn : 0 ≤ n ∧ n ≤ (T 1 a0 : Int) ∧ n ≤ (T 1 q : Int)) (hR : 1 ≤ R.frames ∧ (rest.map fun v => v.category).sum + 40 ≤ R.locals) (pc' : Nat) (hp : pc + 3 = pc') (hdg : decode cc pc = .ok (.invokestatic ix, 3)) (kk : ∀ (y : Nat → Int) (H : Heap) (locs : List Loc), (∀ i : Nat, (i : Int) < n → y (pr q i) = v 300 (pr a0 i)) → (∀ i : Nat, n ≤ (i : Int) → y (pr q i) = v 300 (pr q i)) → (∀ b, b ≠ q → ∀ i, y (pr b i) = v 300 (pr b i)) → WK D cy T (upV v 300 y) A0 H0 H locs → W p l e R s m args below meth c H locs cells slots Q (F0 m pc' ls rest)) : W p l e R s m args below meth c H locs cells slots Q (F0 m pc ls (.int (J n) :: .int (J 0) :: .ref q :: .int (J 0) :: .ref a0 :: rest)) := by
  subst hp hlo
  have h := cw_ct hw.1 h0
  have h2 := cw_ct hw.1 hq
  generalize hga : rw_ v 20 a0 = γ at h
  generalize hgq : rw_ v 20 q = γ2 at h2
  have b0 := hw.1.2.1.1 a0
  have cn : (J n).toNatClampNeg = n.toNat := J_clamp hn.1 (by omega)
  have c0 : (J 0).toNatClampNeg = 0 := by decide +kernel
  have z0 : ¬ J 0 < 0 := by decide +kernel
  have zn : ¬ J n < 0 := by
    intro q
    have := (J_lt (a := n) (b := 0) ⟨by omega, by omega⟩ inR0).mp (by rw [J_0]; exact q)
    omega
  refine va_copyi (D := D) (A := fun x => x = a0 ∨ x = q) (H0 := H) (ws := [(a0, .inl (cy 0, T 1 a0, .inl γ)), (q, .inl (cy 0, T 1 q, .inl γ2))]) E.1 E.2.1 (by rw [E.2.2.1, hls]) E.2.2.2.1 (E.2.2.2.2.1 _ hl) (E.2.2.2.2.1 _ ac_nat) (E.2.2.2.2.1 _ ac_sta) (E.2.2.2.2.1 _ ac_ini) hK ?_ ?_ va_S.rf 0 1 0 0 rfl rfl rfl rfl rfl z0 z0 zn (by rw [c0, cn]; omega) (by rw [c0, cn]; omega) (fun i _ => rfl) hR.1 (Nat.le_trans (Nat.add_le_add_left (by decide) _) hR.2) hdg (fun H1 locs1 hP1 hD1 hS1 => ?_)
  · intro k x hx
    rcases k with _ | k
    · cases hx; exact h _ rfl
    · rcases k with _ | k
      · cases hx; exact h2 _ rfl
      · simp at hx
  · refine ⟨fun i j x y hx hy e => ?_, fun k x hx => ?_⟩
    · rcases i with _ | i <;> rcases j with _ | j
      · rfl
      · rcases j with _ | j
        · cases hx; cases hy; exact absurd e hne
        · simp at hy
      · rcases i with _ | i
        · cases hx; cases hy; exact absurd e.symm hne
        · simp at hx
      · rcases i with _ | i
        · rcases j with _ | j
          · rfl
          · simp at hy
        · simp at hx
    · rcases k with _ | k
      · cases hx; exact Or.inl rfl
      · rcases k with _ | k
        · cases hx; exact Or.inr rfl
        · simp at hx
  · have p0 := hP1 0 _ rfl
    have p1 := hP1 1 _ rfl
    rw [c0, cn] at p1
    obtain ⟨y, hy0, hy1, hyR⟩ := crow (v 300) (fun i => if (i : Int) < n then v 300 (pr a0 i) else v 300 (pr q i)) (fun x => hw.1.2.2.2 _ x) (fun x => by show inR (if _ then _ else _); split; exact hw.1.2.2.2 _ _; exact hw.1.2.2.2 _ _) q
    have w1 : WC D cy T (upV v 300 y) H1 := by
      refine cw_row hw.1 hq hyR (fun b hb2 hb => ?_) hy1 (fun e he => ?_)
      rotate_left
      · cases he
        show va_at D vwCl (q, .inl (cy 0, T 1 q, .inl (fun i => J (y (pr q i))))) H1
        rw [show (fun i => J (y (pr q i))) = va_cpy γ γ2 0 0 n.toNat from funext fun i => by
          rw [hy0]
          unfold va_cpy
          by_cases hi : (i : Int) < n
          · rw [if_pos hi, if_pos (by omega), Nat.zero_add, Nat.sub_zero, ← hga]; rfl
          · rw [if_neg hi, if_neg (by omega), ← hgq]; rfl]
        exact p1
      by_cases e : b = a0
      · subst e
        have p0 : H1[b]? = some (vp_cell (cy 0) (T 1 b, .inl γ)) := p0
        have q0 : H[b]? = some (vp_cell (cy 0) (T 1 b, .inl γ)) := h _ rfl
        rw [p0, q0]
      · exact hS1.2.1 b hb2 (fun z => z.elim e hb)
    exact kk y H1 locs1 (fun i hi => (hy0 i).trans (if_pos hi)) (fun i hi => (hy0 i).trans (if_neg (by omega))) hy1 ⟨w1, hw.2.1, ⟨Nat.le_trans hw.2.2.1 hS1.1, fun b g1 g2 => by
      have hb2 : b < H.size := Nat.lt_of_lt_of_le g1 hw.2.2.1
      rw [hS1.2.1 b hb2 (fun z => g2 (z.elim (fun e => e ▸ hw.2.1 _ ⟨by rw [h0]; decide, by rw [h0]; decide⟩) (fun e => e ▸ hw.2.1 _ ⟨by rw [hq]; decide, by rw [hq]; decide⟩)))]
      exact hw.2.2.2.1 b g1 g2, fun l hl => (hS1.2.2 l hl).elim (fun e => by rw [e]; exact hw.2.1 _ ⟨by rw [h0]; decide, by rw [h0]; decide⟩) (fun e => by rw [e]; exact hw.2.1 _ ⟨by rw [hq]; decide, by rw [hq]; decide⟩)⟩⟩
theorem el_cls (hZ : ZN κ s) (hK : KK D cy s) (hw : WC D cy T v H) {t : Nat} (ht : t = 1 ∨ t = 2 ∨ t = 7 ∨ t = 8) : ∃ C : String, (∀ x, T 0 x = t → ∃ cellV : Cell, H[x]? = some cellV ∧ cellV.vm.isStatics = false ∧ s.vm.findClass C = some cellV.cls) ∧ va_Nw (.castable C "java/lang/Object") s := by
  rcases ht with rfl | rfl | rfl | rfl
  · exact ⟨_, fun x h => cw_rc1 hK hw h, hZ.ca1⟩
  · exact ⟨_, fun x h => cw_rc2 hK hw h, hZ.ca2⟩
  · exact ⟨_, fun x h => cw_rc7 hK hw h, hZ.ca7⟩
  · exact ⟨_, fun x h => cw_rc8 hK hw h, hZ.ca8⟩
theorem x_copyq (E : CX p s m args meth c own cc nL ret) (hK : KK D cy s) (hw : WK D cy T v A0 H0 H locs) (hZ : ZN κ s) (hlo : locs = []) {ix a0 q t : Nat} (hl : Cond.methodLink own ix arraycopyName ∈ gT) (hls : ls.size = nL) (h0 : T 0 a0 = 24) (hq : T 0 q = 124) (ht : t = 1 ∨ t = 2 ∨ t = 7 ∨ t = 8) {n : Int} (hel : ∀ i : Nat, (i : Int) < n → ∃ y, dcd (T (1000 + i) a0) = some y ∧ T 0 y = t) (hn : 0 ≤ n ∧ n ≤ (T 1 a0 : Int) ∧ n ≤ (T 1 q : Int)) (hR : 1 ≤ R.frames ∧ (rest.map fun v => v.category).sum + 40 ≤ R.locals) (pc' : Nat) (hp : pc + 3 = pc') (hdg : decode cc pc = .ok (.invokestatic ix, 3)) (kk : ∀ (T2 : Nat → Nat → Nat) (H : Heap) (locs : List Loc), (∀ b, b ≠ q → ∀ k, T2 k b = T k b) → (∀ k, k < 1000 → T2 k q = T k q) → (∀ i : Nat, (i : Int) < n → T2 (1000 + i) q = T (1000 + i) a0) → OW0 T T2 → WK D cy T2 v A0 H0 H locs → W p l e R s m args below meth c H locs cells slots Q (F0 m pc' ls rest)) : W p l e R s m args below meth c H locs cells slots Q (F0 m pc ls (.int (J n) :: .int (J 0) :: .ref q :: .int (J 0) :: .ref a0 :: rest)) := by
  subst hp hlo
  have hne : a0 ≠ q := ty_ne h0 hq (by decide)
  obtain ⟨C, hC, hca⟩ := el_cls hZ hK hw.1 ht
  obtain ⟨γ, h⟩ := cw_at hw.1 h0
  obtain ⟨γ2, h2⟩ := cw_at hw.1 hq
  have b0 := hw.1.2.1.1 a0
  have cn : (J n).toNatClampNeg = n.toNat := J_clamp hn.1 (by omega)
  have c0 : (J 0).toNatClampNeg = 0 := by decide +kernel
  have z0 : ¬ J 0 < 0 := by decide +kernel
  have zn : ¬ J n < 0 := by
    intro q
    have := (J_lt (a := n) (b := 0) ⟨by omega, by omega⟩ inR0).mp (by rw [J_0]; exact q)
    omega
  refine va_copyq (D := D) (A := fun x => x = a0 ∨ x = q) (H0 := H) (C := C) (E0 := "java/lang/Object") (E1 := "java/lang/Object") (ws := [(a0, .inl (cy 4, T 1 a0, .inr (.inr (.inr (.inr (fun i => dcd (T (1000 + i) a0))))))), (q, .inl (cy 4, T 1 q, .inr (.inr (.inr (.inr (fun i => dcd (T (1000 + i) q)))))))]) E.1 E.2.1 (by rw [E.2.2.1, hls]) E.2.2.2.1 (E.2.2.2.2.1 _ hl) (E.2.2.2.2.1 _ ac_nat) (E.2.2.2.2.1 _ ac_sta) (E.2.2.2.2.1 _ ac_ini) hK ?_ ?_ va_S.rf 0 1 4 4 rfl rfl rfl rfl z0 z0 zn (by rw [c0, cn]; omega) (by rw [c0, cn]; omega) (fun i hi y hy => ?_) (fun comp c9 f2 f1 => ?_) hR.1 (Nat.le_trans (Nat.add_le_add_left (by decide) _) hR.2) hdg (fun H1 locs1 hP1 hD1 hS1 => ?_)
  · intro k x hx
    rcases k with _ | k
    · cases hx; exact h _ rfl
    · rcases k with _ | k
      · cases hx; exact h2 _ rfl
      · simp at hx
  · refine ⟨fun i j x y hx hy e => ?_, fun k x hx => ?_⟩
    · rcases i with _ | i <;> rcases j with _ | j
      · rfl
      · rcases j with _ | j
        · cases hx; cases hy; exact absurd e hne
        · simp at hy
      · rcases i with _ | i
        · cases hx; cases hy; exact absurd e.symm hne
        · simp at hx
      · rcases i with _ | i
        · rcases j with _ | j
          · rfl
          · simp at hy
        · simp at hx
    · rcases k with _ | k
      · cases hx; exact Or.inl rfl
      · rcases k with _ | k
        · cases hx; exact Or.inr rfl
        · simp at hx
  · rw [cn] at hi
    rw [c0, Nat.zero_add] at hy
    obtain ⟨x, hx, tx⟩ := hel i (by omega)
    have e : x = y := Option.some.inj (hx.symm.trans hy)
    subst e
    exact hC x tx
  · obtain ⟨c8, t8, g1, g2, g3⟩ := Cond.castable_spec (va_Nw.use (A := args) rfl hca)
    cases f1.symm.trans g1
    cases f2.symm.trans g2
    exact g3
  · have p0 := hP1 0 _ rfl
    have p1 := hP1 1 _ rfl
    rw [c0, cn] at p1
    have ho : OW0 T (upT T q (fun k => if 1000 ≤ k ∧ (k : Int) - 1000 < n then T k a0 else T k q)) := OW0.of (fun b => by
      by_cases e : b = q
      · subst e; rw [upT_at]; exact if_neg (by omega)
      · exact upT_ne 0 e)
    have w1 : WC D cy (upT T q (fun k => if 1000 ≤ k ∧ (k : Int) - 1000 < n then T k a0 else T k q)) v H1 := by
      have t0 : (if 1000 ≤ 0 ∧ ((0 : Nat) : Int) - 1000 < n then T 0 a0 else T 0 q) = 124 := by rw [if_neg (by omega)]; exact hq
      refine cw_set hw.1 (Or.inr (by rw [hq]; decide)) (fun b hb2 hb => ?_) (by show (if 1000 ≤ 1 ∧ ((1 : Nat) : Int) - 1000 < n then T 1 a0 else T 1 q) < _; rw [if_neg (by omega)]; exact hw.1.2.1.1 q) (fun e he => ?_) (by show cTT _ q (if 1000 ≤ 0 ∧ ((0 : Nat) : Int) - 1000 < n then T 0 a0 else T 0 q); rw [t0]; trivial) (fun h => by have h := t0.symm.trans h; cases h) (fun h => by have h := t0.symm.trans h; cases h)
      · by_cases e : b = a0
        · subst e
          have p0 : H1[b]? = some (vp_cell (cy 4) (T 1 b, .inr (.inr (.inr (.inr (fun i => dcd (T (1000 + i) b))))))) := p0
          have q0 : H[b]? = some (vp_cell (cy 4) (T 1 b, .inr (.inr (.inr (.inr (fun i => dcd (T (1000 + i) b))))))) := h _ rfl
          rw [p0, q0]
        · exact hS1.2.1 b hb2 (fun z => z.elim e hb)
      · have he : cEnt cy (fun k => if 1000 ≤ k ∧ (k : Int) - 1000 < n then T k a0 else T k q) (fun k => v k q) (rw_ v (if 1000 ≤ 0 ∧ ((0 : Nat) : Int) - 1000 < n then T 0 a0 else T 0 q) q) (if 1000 ≤ 0 ∧ ((0 : Nat) : Int) - 1000 < n then T 0 a0 else T 0 q) = some e := he
        rw [t0] at he
        cases he
        show va_at D vwCl (q, .inl (cy 4, (if 1000 ≤ 1 ∧ ((1 : Nat) : Int) - 1000 < n then T 1 a0 else T 1 q), .inr (.inr (.inr (.inr (fun i => dcd (if 1000 ≤ 1000 + i ∧ ((1000 + i : Nat) : Int) - 1000 < n then T (1000 + i) a0 else T (1000 + i) q))))))) H1
        rw [if_neg (by omega), show (fun i => dcd (if 1000 ≤ 1000 + i ∧ ((1000 + i : Nat) : Int) - 1000 < n then T (1000 + i) a0 else T (1000 + i) q)) = va_cpy (fun i => dcd (T (1000 + i) a0)) (fun i => dcd (T (1000 + i) q)) 0 0 n.toNat from funext fun i => by
          unfold va_cpy
          by_cases hi : (i : Int) < n
          · rw [if_pos (by omega), if_pos (by omega), Nat.zero_add, Nat.sub_zero]
          · rw [if_neg (by omega), if_neg (by omega)]]
        exact p1
    refine kk _ H1 locs1 (fun b hb k => upT_ne k hb) (fun k hk => (upT_at _ _ _ _).trans (if_neg (by omega))) (fun i hi => (upT_at _ _ _ _).trans (if_pos (by omega))) ho ⟨w1, fun b hb => hw.2.1 b ((ho b).1 hb), ⟨Nat.le_trans hw.2.2.1 hS1.1, fun b g1 g2 => ?_, fun l hl => ?_⟩⟩
    · have hb2 : b < H.size := Nat.lt_of_lt_of_le g1 hw.2.2.1
      rw [hS1.2.1 b hb2 (fun z => g2 (z.elim (fun e => e ▸ hw.2.1 _ ⟨by rw [h0]; decide, by rw [h0]; decide⟩) (fun e => e ▸ hw.2.1 _ ⟨by rw [hq]; decide, by rw [hq]; decide⟩)))]
      exact hw.2.2.2.1 b g1 g2
    · exact (hS1.2.2 l hl).elim (fun e => by rw [e]; exact hw.2.1 _ ⟨by rw [h0]; decide, by rw [h0]; decide⟩) (fun e => by rw [e]; exact hw.2.1 _ ⟨by rw [hq]; decide, by rw [hq]; decide⟩)
theorem x_clone (E : CX p s m args meth c own cc nL ret) (hK : KK D cy s) (hw : WK D cy T v A0 H0 H locs) (hZ : ZN κ s) (w : Nat) (hlo : locs = []) (hA : ∀ x, H0.size ≤ x → A0 x) {ix a0 : Nat} (hl : Cond.methodLink own ix ⟨"[I", "clone", "()Ljava/lang/Object;"⟩ ∈ gT) (hls : ls.size = nL) (h0 : T 0 a0 = 20) (hR : 1 ≤ R.frames ∧ (rest.map fun v => v.category).sum + 14 ≤ R.locals) (hcl : cells + 1 ≤ R.cells) (hsl : slots + T 1 a0 ≤ R.slots) (pc' : Nat) (hp : pc + 3 = pc') (hdg : decode cc pc = .ok (.invokevirtual ix, 3)) (kk : ∀ (q : Nat) (T2 : Nat → Nat → Nat) (y : Nat → Int) (H1 : Heap), H.size ≤ q → (∀ b, b ≠ q → ∀ k, T2 k b = T k b) → OW T T2 H.size → T2 0 q = 20 → T2 1 q = T 1 a0 → T2 3 q = w → (∀ i, y (pr q i) = v 300 (pr a0 i)) → (∀ b, b ≠ q → ∀ i, y (pr b i) = v 300 (pr b i)) → (∃ cellB : Cell, H1[q]? = some cellB ∧ cellB.vm.isStatics = false ∧ s.vm.findClass "[I" = some cellB.cls) → WK D cy T2 (upV v 300 y) A0 H0 H1 locs → W p l e R s m args below meth c H1 locs (cells + 1) (slots + T 1 a0) Q (F0 m pc' ls (.ref q :: rest))) : W p l e R s m args below meth c H locs cells slots Q (F0 m pc ls (.ref a0 :: rest)) := by
  subst hp hlo
  have h := cw_ct hw.1 h0
  generalize hga : rw_ v 20 a0 = γ at h
  have hnm : s.vm.findClass "[I" = some (cy 0) := (hK.2 0 (cy 0, .int) rfl).2
  refine va_clone (D := D) (A := fun x => x = a0 ∨ H.size ≤ x) (H0 := H) (ws := [(a0, .inl (cy 0, T 1 a0, .inl γ))]) E.1 E.2.1 (by rw [E.2.2.1, hls]) E.2.2.2.1 (E.2.2.2.2.1 _ hl) (E.2.2.2.2.1 _ cn_same) (E.2.2.2.2.1 _ cn_nat) (E.2.2.2.2.1 _ cn_ins) (E.2.2.2.2.1 _ cn_sel) hZ.cl hK (one_P (h _ rfl)) ⟨?_, ?_⟩ va_S.rf (fun q hq => Or.inr hq) 0 0 rfl rfl hnm ?_ hR.1 hR.2 hcl hsl hdg (fun q H1 hK1 hP1 hD1 hS1 => ?_)
  · intro i j x y hx hy e
    rcases i with _ | i
    · rcases j with _ | j
      · rfl
      · simp at hy
    · simp at hx
  · intro k x hx
    rcases k with _ | k
    · cases hx; exact Or.inl rfl
    · simp at hx
  · intro i w hw9
    have hi : i < T 1 a0 := by
      have := (Array.getElem?_eq_some_iff.mp hw9).1
      have e : (vp_cell (cy 0) (T 1 a0, .inl γ)).slots.size = T 1 a0 := arrV_size _ _ _
      omega
    have e : (vp_cell (cy 0) (T 1 a0, .inl γ)).slots[i]? = some (.int (γ i)) := arrV_read _ _ hi
    rw [e] at hw9
    cases hw9
    rfl
  have p0 := hP1 0 _ rfl
  have p1 := hP1 1 _ rfl
  have hqn : a0 ≠ q := fun e => by
    have := hD1.1 0 1 _ _ rfl rfl e
    cases this
  have hA1 : q = a0 ∨ H.size ≤ q := hD1.2 1 _ rfl
  have hge : H.size ≤ q := hA1.elim (fun e => absurd e.symm hqn) (fun z => z)
  obtain ⟨y, hy0, hy1, hyR⟩ := crow (v 300) (fun i => v 300 (pr a0 i)) (fun x => hw.1.2.2.2 _ x) (fun x => hw.1.2.2.2 _ _) q
  have hw2 : WC D cy T (upV v 300 y) H := by
    refine cw_vq hw.1 (fun k hk b _ => ?_) (fun t b hb i => ?_) (fun k b => ?_)
    · unfold upV; rw [if_neg (by omega)]
    · unfold upV
      split
      · rename_i h; rw [h]; exact hy1 b (by omega) i
      · rfl
    · unfold upV
      split
      · exact hyR b
      · exact hw.1.2.2.2 k b
  have eg : rw_ (upV v 300 y) 20 q = γ := by
    rw [← hga]
    funext i
    show J (upV v 300 y 300 (pr q i)) = J (v 300 (pr a0 i))
    rw [show upV v 300 y 300 = y from if_pos rfl, hy0]
  have hw3 : WC D cy (upT T q (fun k => if k = 0 then 20 else if k = 1 then T 1 a0 else if k = 3 then w else 0)) (upV v 300 y) H1 := by
    refine cw_set hw2 (Or.inl hge) (fun b hb _ => ?_) (show T 1 a0 < _ from hw.1.2.1.1 a0) (fun e he => ?_) trivial (fun h => absurd (show 20 = 10 from h) (by decide)) (show 20 ≠ 26 by decide)
    · by_cases e : b = a0
      · subst e
        have p0 : H1[b]? = some (vp_cell (cy 0) (T 1 b, .inl γ)) := p0
        have q0 : H[b]? = some (vp_cell (cy 0) (T 1 b, .inl γ)) := h _ rfl
        rw [p0, q0]
      · exact hS1.2.1 b hb (fun z => z.elim e (fun z => absurd hb (Nat.not_lt.mpr z)))
    · cases he
      show va_at D vwCl (q, .inl (cy 0, T 1 a0, .inl (rw_ (upV v 300 y) 20 q))) H1
      rw [eg]
      exact p1
  have ho : OW T (upT T q (fun k => if k = 0 then 20 else if k = 1 then T 1 a0 else if k = 3 then w else 0)) H.size := ow_nw hge (show 20 ≠ 26 by decide)
  refine kk q _ y H1 hge (fun b hb k => upT_ne k hb) ho (upT_at _ _ _ _) (upT_at _ _ _ _) (upT_at _ _ _ _) hy0 hy1 ⟨_, p1, rfl, hnm⟩ ⟨hw3, ow_A hA hw ho, ⟨Nat.le_trans hw.2.2.1 hS1.1, fun b g1 g2 => ?_, fun l hl => by cases hl⟩⟩
  have hb2 : b < H.size := Nat.lt_of_lt_of_le g1 hw.2.2.1
  rw [hS1.2.1 b hb2 (fun z => z.elim (fun e => g2 (e ▸ hw.2.1 _ ⟨by rw [h0]; decide, by rw [h0]; decide⟩)) (fun z => absurd hb2 (Nat.not_lt.mpr z)))]
  exact hw.2.2.2.1 b g1 g2
theorem x_gcls (E : CX p s m args meth c own cc nL ret) (hK : KK D cy s) (hw : WK D cy T v A0 H0 H locs) (hZ : ZN κ s) {ix a : Nat} (hl : Cond.methodLink own ix ⟨"java/lang/Object", "getClass", "()Ljava/lang/Class;"⟩ ∈ gT) (hls : ls.size = nL) (h0 : T 0 a = 24) (hR : 1 ≤ R.frames ∧ (rest.map fun v => v.category).sum + 14 ≤ R.locals) (pc' : Nat) (hp : pc + 3 = pc') (hdg : decode cc pc = .ok (.invokevirtual ix, 3)) (k : W p l e R s m args below meth c H locs cells slots Q (F0 m pc' ls (.ref (κ 2 1) :: rest))) : W p l e R s m args below meth c H locs cells slots Q (F0 m pc ls (.ref a :: rest)) := by
  subst hp
  obtain ⟨γ, h⟩ := cw_at hw.1 h0
  have h4 : s.vm.findClass "[Ljava/lang/Object;" = some (cy 4) := va_nmO (hK.2 4 (cy 4, .object "java/lang/Object") rfl).2 (by decide +kernel)
  exact va_getC E.1 E.2.1 (by rw [E.2.2.1, hls]) E.2.2.2.1 (E.2.2.2.2.1 _ hl) hZ.dc.use (E.2.2.2.2.1 _ gc_sel) (E.2.2.2.2.1 _ gc_ins) (E.2.2.2.2.1 _ gc_nat) hZ.mi ⟨_, h _ rfl, rfl, h4⟩ hR.1 hR.2 hdg k
theorem x_ldcc (E : CX p s m args meth c own cc nL ret) (hZ : ZN κ s) {ix : Nat} (hl : Cond.classLink own ix "[Ljava/lang/Object;" ∈ gT) (pc' : Nat) (hp : pc + 2 = pc') (hdg : decode cc pc = .ok (.ldc ix, 2)) (k : W p l e R s m args below meth c H locs cells slots Q (F0 m pc' ls (.ref (κ 2 1) :: rest))) : W p l e R s m args below meth c H locs cells slots Q (F0 m pc ls rest) := by
  subst hp
  exact va_ldcM E.1 E.2.1 E.2.2.2.1 (E.2.2.2.2.1 _ hl) hZ.mi hdg k
theorem x_acne (E : CX p s m args meth c own cc nL ret) {x : Nat} (pc' : Nat) (hp : pc + 3 = pc') {off : Int} {tgt : Nat} (hdg : decode cc pc = .ok (.if_acmp .ne off, 3)) (ht : (pc : Int) + off = (tgt : Int)) (k : W p l e R s m args below meth c H locs cells slots Q (F0 m pc' ls rest)) : W p l e R s m args below meth c H locs cells slots Q (F0 m pc ls (.ref x :: .ref x :: rest)) := by
  subst hp
  exact lv_acmp_ne (rx := some x) (ry := some x) E.1 E.2.1 hdg ht (fun h => absurd rfl h) (fun _ => k)
theorem x_aceq (E : CX p s m args meth c own cc nL ret) {x y : Nat} (pc' : Nat) (hp : pc + 3 = pc') {off : Int} (tgt : Nat) (hdg : decode cc pc = .ok (.if_acmp .eq off, 3)) (ht : (pc : Int) + off = (tgt : Int)) (kt : x = y → W p l e R s m args below meth c H locs cells slots Q (F0 m tgt ls rest)) (kf : x ≠ y → W p l e R s m args below meth c H locs cells slots Q (F0 m pc' ls rest)) : W p l e R s m args below meth c H locs cells slots Q (F0 m pc ls (.ref y :: .ref x :: rest)) := by
  subst hp
  exact lv_acmp_eq (rx := some x) (ry := some y) E.1 E.2.1 hdg ht (fun h => kt (Option.some.inj h)) (fun h => kf (fun e => h (by rw [e])))
theorem x_casti (E : CX p s m args meth c own cc nL ret) {ix a : Nat} (hl : Cond.classLink own ix "[I" ∈ gT) (hr : ∃ cellB : Cell, H[a]? = some cellB ∧ cellB.vm.isStatics = false ∧ s.vm.findClass "[I" = some cellB.cls) (pc' : Nat) (hp : pc + 3 = pc') (hdg : decode cc pc = .ok (.checkcast ix, 3)) (kk : W p l e R s m args below meth c H locs cells slots Q (F0 m pc' ls (.ref a :: rest))) : W p l e R s m args below meth c H locs cells slots Q (F0 m pc ls (.ref a :: rest)) := by
  subst hp
  exact va_castE E.1 E.2.1 E.2.2.2.1 (E.2.2.2.2.1 _ hl) hr hdg kk
end LRow
