def cutT (T : Nat → Nat → Nat) (n : Nat) : Nat → Nat → Nat := fun k a => if a < n then T k a else 0
theorem cut_at {T : Nat → Nat → Nat} {n a : Nat} (k : Nat) (h : a < n) : cutT T n k a = T k a := if_pos h
theorem cut_ge {T : Nat → Nat → Nat} {n a : Nat} (k : Nat) (h : ¬ a < n) : cutT T n k a = 0 := if_neg h
theorem WC_cut {D : va_G} {cy : Nat → ClassId} {T : Nat → Nat → Nat} {v : Nat → Nat → Int} {H : Heap} (hw : WC D cy T v H) : WC D cy (cutT T H.size) v H := by
  have hw0 := hw
  have hT := hw.2.1
  have hL := hw.2.2.1
  have lt : ∀ {b t : Nat}, t ≠ 0 → cutT T H.size 0 b = t → b < H.size ∧ T 0 b = t := by
    intro b t h0 h
    by_cases hb : b < H.size
    · exact ⟨hb, by rw [cut_at 0 hb] at h; exact h⟩
    · rw [cut_ge 0 hb] at h; exact absurd h.symm h0
  have K : ∀ {r t : Nat}, T 0 r = t → (∀ (τ : Nat → Nat) (ν : Nat → Int) (γ : Nat → Int32), ∃ e, cEnt cy τ ν γ t = some e) → ∀ k, cutT T H.size k r = T k r := fun ht hs k => cut_at k (cw_lt hw0 ht hs)
  obtain ⟨hG, -, -, hR⟩ := hw
  refine ⟨fun b e he => ?_, ⟨fun b => ?_, fun b hb0 => ?_, fun b hb0 => ?_, fun b hb0 => ?_, fun b hb0 => ?_, fun b hb0 => ?_, fun b hb0 => ?_, fun b hb0 => ?_, fun b hb0 => ?_, fun b hb0 => ?_, fun b hb0 => ?_⟩, fun L hL0 => ?_, hR⟩
  · by_cases hb : b < H.size
    · rw [show (fun k => cutT T H.size k b) = fun k => T k b from funext fun k => cut_at k hb, cut_at 0 hb] at he
      exact hG b e he
    · rw [cut_ge 0 hb] at he
      have he : (none : Option va_E) = some e := he
      cases he
  · by_cases hb : b < H.size
    · rw [cut_at 1 hb]; exact hT.1 b
    · rw [cut_ge 1 hb]; decide
  · obtain ⟨hb, hb1⟩ := lt (by decide) hb0
    have h := wt1 hT hb1
    exact ⟨by rw [cut_at 26 hb, K (h.1) (fun _ _ _ => ⟨_, rfl⟩)]; exact h.1, by rw [cut_at 26 hb, K (h.1) (fun _ _ _ => ⟨_, rfl⟩)]; exact h.2.1, by rw [cut_at 26 hb, K (h.1) (fun _ _ _ => ⟨_, rfl⟩)]; exact h.2.2⟩
  · obtain ⟨hb, hb1⟩ := lt (by decide) hb0
    have h := wt2 hT hb1
    exact ⟨by rw [cut_at 46 hb, K (h.1) (fun _ _ _ => ⟨_, rfl⟩)]; exact h.1, by rw [cut_at 46 hb, K (h.1) (fun _ _ _ => ⟨_, rfl⟩)]; exact h.2.1, by rw [cut_at 46 hb, K (h.1) (fun _ _ _ => ⟨_, rfl⟩)]; exact h.2.2.1, by rw [cut_at 47 hb, K (h.2.2.2.1) (fun _ _ _ => ⟨_, rfl⟩)]; exact h.2.2.2.1, by rw [cut_at 47 hb, K (h.2.2.2.1) (fun _ _ _ => ⟨_, rfl⟩)]; exact h.2.2.2.2.1, by rw [cut_at 47 hb, K (h.2.2.2.1) (fun _ _ _ => ⟨_, rfl⟩)]; exact h.2.2.2.2.2.1, by rw [cut_at 48 hb, K (h.2.2.2.2.2.2.1) (fun _ _ _ => ⟨_, rfl⟩)]; exact h.2.2.2.2.2.2.1, by rw [cut_at 48 hb, K (h.2.2.2.2.2.2.1) (fun _ _ _ => ⟨_, rfl⟩)]; exact h.2.2.2.2.2.2.2.1, by rw [cut_at 48 hb, K (h.2.2.2.2.2.2.1) (fun _ _ _ => ⟨_, rfl⟩)]; exact h.2.2.2.2.2.2.2.2⟩
  · obtain ⟨hb, hb1⟩ := lt (by decide) hb0
    have h := wt3 hT hb1
    exact ⟨by rw [cut_at 60 hb, K (h.1) (fun _ _ _ => ⟨_, rfl⟩)]; exact h.1, by rw [cut_at 60 hb, K (h.1) (fun _ _ _ => ⟨_, rfl⟩)]; exact h.2.1, by rw [cut_at 60 hb, K (h.1) (fun _ _ _ => ⟨_, rfl⟩)]; exact h.2.2.1, by rw [cut_at 61 hb, K (h.2.2.2.1) (fun _ _ _ => ⟨_, rfl⟩)]; exact h.2.2.2.1, by rw [cut_at 61 hb, K (h.2.2.2.1) (fun _ _ _ => ⟨_, rfl⟩)]; exact h.2.2.2.2.1, by rw [cut_at 61 hb, K (h.2.2.2.1) (fun _ _ _ => ⟨_, rfl⟩)]; exact h.2.2.2.2.2.1, by rw [cut_at 62 hb, K (h.2.2.2.2.2.2.1) (fun _ _ _ => ⟨_, rfl⟩)]; exact h.2.2.2.2.2.2.1, by rw [cut_at 62 hb, K (h.2.2.2.2.2.2.1) (fun _ _ _ => ⟨_, rfl⟩)]; exact h.2.2.2.2.2.2.2.1, by rw [cut_at 62 hb, K (h.2.2.2.2.2.2.1) (fun _ _ _ => ⟨_, rfl⟩)]; exact h.2.2.2.2.2.2.2.2.1, by rw [cut_at 63 hb, K (h.2.2.2.2.2.2.2.2.2.1) (fun _ _ _ => ⟨_, rfl⟩)]; exact h.2.2.2.2.2.2.2.2.2.1, by rw [cut_at 63 hb, K (h.2.2.2.2.2.2.2.2.2.1) (fun _ _ _ => ⟨_, rfl⟩)]; exact h.2.2.2.2.2.2.2.2.2.2.1, by rw [cut_at 63 hb, K (h.2.2.2.2.2.2.2.2.2.1) (fun _ _ _ => ⟨_, rfl⟩)]; exact h.2.2.2.2.2.2.2.2.2.2.2⟩
  · obtain ⟨hb, hb1⟩ := lt (by decide) hb0
    have h := wt4 hT hb1
    exact ⟨by rw [cut_at 82 hb, K (h.1) (fun _ _ _ => ⟨_, rfl⟩)]; exact h.1, by rw [cut_at 85 hb, K (h.2.1) (fun _ _ _ => ⟨_, rfl⟩)]; exact h.2.1, by rw [cut_at 85 hb, K (h.2.1) (fun _ _ _ => ⟨_, rfl⟩)]; exact h.2.2.1, by rw [cut_at 85 hb, K (h.2.1) (fun _ _ _ => ⟨_, rfl⟩)]; exact h.2.2.2⟩
  · obtain ⟨hb, hb1⟩ := lt (by decide) hb0
    have h := wt5 hT hb1
    exact ⟨by rw [cut_at 100 hb, K (h.1) (fun _ _ _ => ⟨_, rfl⟩)]; exact h.1, by rw [cut_at 100 hb, K (h.1) (fun _ _ _ => ⟨_, rfl⟩)]; exact h.2.1, by rw [cut_at 100 hb, K (h.1) (fun _ _ _ => ⟨_, rfl⟩)]; exact h.2.2.1, by rw [cut_at 101 hb, K (h.2.2.2.1) (fun _ _ _ => ⟨_, rfl⟩)]; exact h.2.2.2.1, by rw [cut_at 101 hb, K (h.2.2.2.1) (fun _ _ _ => ⟨_, rfl⟩)]; exact h.2.2.2.2.1, by rw [cut_at 101 hb, K (h.2.2.2.1) (fun _ _ _ => ⟨_, rfl⟩)]; exact h.2.2.2.2.2.1, by rw [cut_at 102 hb, K (h.2.2.2.2.2.2.1) (fun _ _ _ => ⟨_, rfl⟩)]; exact h.2.2.2.2.2.2.1, by rw [cut_at 102 hb, K (h.2.2.2.2.2.2.1) (fun _ _ _ => ⟨_, rfl⟩)]; exact h.2.2.2.2.2.2.2.1, by rw [cut_at 102 hb, K (h.2.2.2.2.2.2.1) (fun _ _ _ => ⟨_, rfl⟩)]; exact h.2.2.2.2.2.2.2.2⟩
  · obtain ⟨hb, hb1⟩ := lt (by decide) hb0
    have h := wt6 hT hb1
    exact ⟨by rw [cut_at 120 hb, K (h.1) (fun _ _ _ => ⟨_, rfl⟩)]; exact h.1, by rw [cut_at 120 hb, K (h.1) (fun _ _ _ => ⟨_, rfl⟩)]; exact h.2.1, by rw [cut_at 120 hb, K (h.1) (fun _ _ _ => ⟨_, rfl⟩)]; exact h.2.2.1, by rw [cut_at 121 hb, K (h.2.2.2.1) (fun _ _ _ => ⟨_, rfl⟩)]; exact h.2.2.2.1, by rw [cut_at 121 hb, K (h.2.2.2.1) (fun _ _ _ => ⟨_, rfl⟩)]; exact h.2.2.2.2.1, by rw [cut_at 121 hb, K (h.2.2.2.1) (fun _ _ _ => ⟨_, rfl⟩)]; exact h.2.2.2.2.2.1, by rw [cut_at 122 hb, K (h.2.2.2.2.2.2.1) (fun _ _ _ => ⟨_, rfl⟩)]; exact h.2.2.2.2.2.2.1, by rw [cut_at 122 hb, K (h.2.2.2.2.2.2.1) (fun _ _ _ => ⟨_, rfl⟩)]; exact h.2.2.2.2.2.2.2.1, by rw [cut_at 122 hb, K (h.2.2.2.2.2.2.1) (fun _ _ _ => ⟨_, rfl⟩)]; exact h.2.2.2.2.2.2.2.2⟩
  · obtain ⟨hb, hb1⟩ := lt (by decide) hb0
    have h := wt8 hT hb1
    exact ⟨by rw [cut_at 161 hb, K (h.1) (fun _ _ _ => ⟨_, rfl⟩)]; exact h.1, by rw [cut_at 161 hb, K (h.1) (fun _ _ _ => ⟨_, rfl⟩)]; exact h.2.1, by rw [cut_at 162 hb, K (h.2.2.1) (fun _ _ _ => ⟨_, rfl⟩)]; exact h.2.2.1, by rw [cut_at 162 hb, K (h.2.2.1) (fun _ _ _ => ⟨_, rfl⟩)]; exact h.2.2.2.1, by rw [cut_at 163 hb, K (h.2.2.2.2.1) (fun _ _ _ => ⟨_, rfl⟩)]; exact h.2.2.2.2.1, by rw [cut_at 163 hb, K (h.2.2.2.2.1) (fun _ _ _ => ⟨_, rfl⟩)]; exact h.2.2.2.2.2⟩
  · obtain ⟨hb, hb1⟩ := lt (by decide) hb0
    have h := wt9 hT hb1
    exact ⟨by rw [cut_at 180 hb, K (h.1) (fun _ _ _ => ⟨_, rfl⟩)]; exact h.1, by rw [cut_at 180 hb, K (h.1) (fun _ _ _ => ⟨_, rfl⟩)]; exact h.2.1, by rw [cut_at 181 hb, K (h.2.2.1) (fun _ _ _ => ⟨_, rfl⟩)]; exact h.2.2.1, by rw [cut_at 181 hb, K (h.2.2.1) (fun _ _ _ => ⟨_, rfl⟩)]; exact h.2.2.2.1, by rw [cut_at 182 hb, K (h.2.2.2.2.1) (fun _ _ _ => ⟨_, rfl⟩)]; exact h.2.2.2.2.1, by rw [cut_at 182 hb, K (h.2.2.2.2.1) (fun _ _ _ => ⟨_, rfl⟩)]; exact h.2.2.2.2.2.1, by rw [cut_at 183 hb, K (h.2.2.2.2.2.2.1) (fun _ _ _ => ⟨_, rfl⟩)]; exact h.2.2.2.2.2.2.1, by rw [cut_at 183 hb, K (h.2.2.2.2.2.2.1) (fun _ _ _ => ⟨_, rfl⟩)]; exact h.2.2.2.2.2.2.2.1, by rw [cut_at 184 hb, K (h.2.2.2.2.2.2.2.2.1) (fun _ _ _ => ⟨_, rfl⟩)]; exact h.2.2.2.2.2.2.2.2.1, by rw [cut_at 184 hb, K (h.2.2.2.2.2.2.2.2.1) (fun _ _ _ => ⟨_, rfl⟩)]; exact h.2.2.2.2.2.2.2.2.2.1, by rw [cut_at 184 hb, K (h.2.2.2.2.2.2.2.2.1) (fun _ _ _ => ⟨_, rfl⟩)]; exact h.2.2.2.2.2.2.2.2.2.2.1, by rw [cut_at 185 hb, K (h.2.2.2.2.2.2.2.2.2.2.2.1) (fun _ _ _ => ⟨_, rfl⟩)]; exact h.2.2.2.2.2.2.2.2.2.2.2.1, by rw [cut_at 185 hb, K (h.2.2.2.2.2.2.2.2.2.2.2.1) (fun _ _ _ => ⟨_, rfl⟩)]; exact h.2.2.2.2.2.2.2.2.2.2.2.2.1, by rw [cut_at 185 hb, K (h.2.2.2.2.2.2.2.2.2.2.2.1) (fun _ _ _ => ⟨_, rfl⟩)]; exact h.2.2.2.2.2.2.2.2.2.2.2.2.2.1, by rw [cut_at 192 hb, K (h.2.2.2.2.2.2.2.2.2.2.2.2.2.2.1) (fun _ _ _ => ⟨_, rfl⟩)]; exact h.2.2.2.2.2.2.2.2.2.2.2.2.2.2.1, by rw [cut_at 193 hb, K (h.2.2.2.2.2.2.2.2.2.2.2.2.2.2.2.1) (fun _ _ _ => ⟨_, rfl⟩)]; exact h.2.2.2.2.2.2.2.2.2.2.2.2.2.2.2.1, by rw [cut_at 194 hb, K (h.2.2.2.2.2.2.2.2.2.2.2.2.2.2.2.2.1) (fun _ _ _ => ⟨_, rfl⟩)]; exact h.2.2.2.2.2.2.2.2.2.2.2.2.2.2.2.2.1, by rw [cut_at 194 hb, K (h.2.2.2.2.2.2.2.2.2.2.2.2.2.2.2.2.1) (fun _ _ _ => ⟨_, rfl⟩)]; exact h.2.2.2.2.2.2.2.2.2.2.2.2.2.2.2.2.2.1, by rw [cut_at 194 hb, K (h.2.2.2.2.2.2.2.2.2.2.2.2.2.2.2.2.1) (fun _ _ _ => ⟨_, rfl⟩)]; exact h.2.2.2.2.2.2.2.2.2.2.2.2.2.2.2.2.2.2.1, by rw [cut_at 195 hb, K (h.2.2.2.2.2.2.2.2.2.2.2.2.2.2.2.2.2.2.2.1) (fun _ _ _ => ⟨_, rfl⟩)]; exact h.2.2.2.2.2.2.2.2.2.2.2.2.2.2.2.2.2.2.2.1, by rw [cut_at 195 hb, K (h.2.2.2.2.2.2.2.2.2.2.2.2.2.2.2.2.2.2.2.1) (fun _ _ _ => ⟨_, rfl⟩)]; exact h.2.2.2.2.2.2.2.2.2.2.2.2.2.2.2.2.2.2.2.2.1, by rw [cut_at 195 hb, K (h.2.2.2.2.2.2.2.2.2.2.2.2.2.2.2.2.2.2.2.1) (fun _ _ _ => ⟨_, rfl⟩)]; exact h.2.2.2.2.2.2.2.2.2.2.2.2.2.2.2.2.2.2.2.2.2.1, by rw [cut_at 196 hb, K (h.2.2.2.2.2.2.2.2.2.2.2.2.2.2.2.2.2.2.2.2.2.2.1) (fun _ _ _ => ⟨_, rfl⟩)]; exact h.2.2.2.2.2.2.2.2.2.2.2.2.2.2.2.2.2.2.2.2.2.2.1, by rw [cut_at 196 hb, K (h.2.2.2.2.2.2.2.2.2.2.2.2.2.2.2.2.2.2.2.2.2.2.1) (fun _ _ _ => ⟨_, rfl⟩)]; exact h.2.2.2.2.2.2.2.2.2.2.2.2.2.2.2.2.2.2.2.2.2.2.2.1, by rw [cut_at 196 hb, K (h.2.2.2.2.2.2.2.2.2.2.2.2.2.2.2.2.2.2.2.2.2.2.1) (fun _ _ _ => ⟨_, rfl⟩)]; exact h.2.2.2.2.2.2.2.2.2.2.2.2.2.2.2.2.2.2.2.2.2.2.2.2.1, fun x hx => by rw [cut_at 197 hb] at hx; rw [K (h.2.2.2.2.2.2.2.2.2.2.2.2.2.2.2.2.2.2.2.2.2.2.2.2.2 x hx) (fun _ _ _ => ⟨_, rfl⟩)]; exact h.2.2.2.2.2.2.2.2.2.2.2.2.2.2.2.2.2.2.2.2.2.2.2.2.2 x hx⟩
  · obtain ⟨hb, hb1⟩ := lt (by decide) hb0
    have h := wt10 hT hb1
    exact ⟨by rw [cut_at 201 hb]; exact h.1.elim (fun q => Or.inl (by rw [K q (fun _ _ _ => ⟨_, rfl⟩)]; exact q)) (fun q => Or.inr (by rw [K q (fun _ _ _ => ⟨_, rfl⟩)]; exact q)), fun q => by rw [cut_at 201 hb] at q ⊢; have q2 : T 0 (T 201 b) = 24 := h.1.elim (fun z => z) (fun z => by rw [K z (fun _ _ _ => ⟨_, rfl⟩), z] at q; cases q); rw [K q2 (fun _ _ _ => ⟨_, rfl⟩)]; exact h.2.1 q2, by rw [cut_at 2 hb]; exact h.2.2⟩
  · obtain ⟨hb, hb1⟩ := lt (by decide) hb0
    rw [cut_at 1 hb]; exact wt26 hT hb1
  · obtain ⟨hb, hb1⟩ := lt (by decide) hL0
    have h := hL L hb1
    have hq := wt10 hT hb1
    have Kr : ∀ k, cutT T H.size k (T 201 L) = T k (T 201 L) := hq.1.elim (fun q => K q (fun _ _ _ => ⟨_, rfl⟩)) (fun q => K q (fun _ _ _ => ⟨_, rfl⟩))
    refine ⟨h.1, by rw [cut_at 201 hb, Kr]; exact h.2.1, fun i hi => ?_⟩
    obtain ⟨x, hx, tx⟩ := h.2.2 i hi
    refine ⟨x, by rw [cut_at 201 hb, Kr]; exact hx, ?_⟩
    rw [cut_at 0 (cw_lte hw0 tx hq.2.2), cut_at 2 hb]
    exact tx
def t0_ (ea : Nat) : Nat → Nat → Nat := fun k b => if k = 0 ∧ b = ea then 26 else 0
theorem t0_ne {ea a t : Nat} (h1 : t ≠ 26) (h2 : t ≠ 0) : t0_ ea 0 a ≠ t := by
  unfold t0_
  split
  · exact fun h => h1 h.symm
  · exact fun h => h2 h.symm
theorem t0_ow {ea a : Nat} (h : ow (t0_ ea) a) : False := by
  unfold ow t0_ at h
  split at h
  · exact h.2 rfl
  · exact h.1 rfl
theorem t0_26 {ea a : Nat} (h : t0_ ea 0 a = 26) : a = ea := by
  unfold t0_ at h
  split at h
  · rename_i h2; exact h2.2
  · cases h
theorem t0_WC {D : va_G} {cy : Nat → ClassId} {H : Heap} {ea : Nat} {cell : Cell} (h1 : H[ea]? = some cell) (h2 : cell.cls = cy 4) (h3 : cell.vm.isStatics = false) (h4 : cell.slots.size.toInt32 = 0) : WC D cy (t0_ ea) (fun _ _ => 0) H := by
  refine ⟨fun a e he => ?_, ⟨fun a => ?_, fun a h => absurd h (t0_ne (by decide) (by decide)), fun a h => absurd h (t0_ne (by decide) (by decide)), fun a h => absurd h (t0_ne (by decide) (by decide)), fun a h => absurd h (t0_ne (by decide) (by decide)), fun a h => absurd h (t0_ne (by decide) (by decide)), fun a h => absurd h (t0_ne (by decide) (by decide)), fun a h => absurd h (t0_ne (by decide) (by decide)), fun a h => absurd h (t0_ne (by decide) (by decide)), fun a h => absurd h (t0_ne (by decide) (by decide)), fun a _ => if_neg (fun h => absurd h.1 (by decide))⟩, fun L hL => absurd hL (t0_ne (by decide) (by decide)), fun k a => inR0⟩
  · by_cases h : a = ea
    · subst h
      rw [show t0_ a 0 a = 26 from if_pos ⟨rfl, rfl⟩] at he
      cases he
      exact ⟨cell, h1, h2, h3, h4⟩
    · rw [show t0_ ea 0 a = 0 from if_neg (fun q => h q.2)] at he
      have he : (none : Option va_E) = some e := he
      cases he
  · rw [show t0_ ea 1 a = 0 from if_neg (fun h => absurd h.1 (by decide))]
    decide
