theorem MI_init : MI n1_ f1_ := by
  refine ⟨by decide, by decide, by decide, by decide, by decide, by decide, by decide, fun i => ⟨show (0 : Int) ≤ 0 by decide, show (0 : Int) ≤ 7 by decide⟩, fun i h => ?_, fun i h1 h2 => ?_, fun i h1 h2 => ?_, fun i h1 h2 => ?_, fun i h1 h2 => ?_, fun i h1 h2 => ?_, fun i => ⟨show (0 : Int) ≤ 0 by decide, show (0 : Int) ≤ 801 by decide⟩, fun i => ⟨show (0 : Int) ≤ 0 by decide, show (0 : Int) ≤ 255 by decide⟩, fun i => ⟨show (0 : Int) ≤ 0 by decide, show (0 : Int) ≤ 3 by decide⟩, ⟨fun i h1 h2 => ?_, fun i h1 => ⟨rfl, rfl⟩⟩, ⟨fun i => ⟨show (0 : Int) ≤ 0 by decide, show (0 : Int) ≤ 9 by decide⟩, fun p l h1 h2 h3 h4 => rfl⟩, by decide⟩
  · exact absurd (show (0 : Int) < 0 from h) (by decide)
  · exfalso; have h3 : i < 200 * 0 := h2; omega
  · exfalso; have h3 : i < 0 := h2; omega
  · have h4 := wg_W ⟨i.toNat, by omega⟩
    have h5 : ((i.toNat : Nat) : Int) = i := by omega
    simp only [h5] at h4
    exact h4
  · exfalso; have h3 : i < 0 := h2; omega
  · exfalso; have h3 : i < 0 := h2; omega
  · exfalso; have h3 : i < 0 := h2; omega