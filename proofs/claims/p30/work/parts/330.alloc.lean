def upT (T : Nat → Nat → Nat) (a : Nat) (τ : Nat → Nat) : Nat → Nat → Nat := fun k b => if b = a then τ k else T k b
theorem upT_at (T : Nat → Nat → Nat) (a : Nat) (τ : Nat → Nat) (k : Nat) : upT T a τ k a = τ k := if_pos rfl
theorem upT_ne {T : Nat → Nat → Nat} {a : Nat} {τ : Nat → Nat} (k : Nat) {b : Nat} (h : b ≠ a) : upT T a τ k b = T k b := if_neg h
def OW (T T2 : Nat → Nat → Nat) (n : Nat) : Prop := ∀ b, (ow T2 b → ow T b ∨ n ≤ b) ∧ (T2 0 b = 26 → T 0 b = 26)
def OW0 (T T2 : Nat → Nat → Nat) : Prop := ∀ b, (ow T2 b → ow T b) ∧ (T2 0 b = 26 → T 0 b = 26)
theorem OW.rf (T : Nat → Nat → Nat) (n : Nat) : OW T T n := fun b => ⟨fun h => Or.inl h, fun h => h⟩
theorem OW.tr {T T1 T2 : Nat → Nat → Nat} {n k : Nat} (h : n ≤ k) (h1 : OW T T1 n) (h2 : OW T1 T2 k) : OW T T2 n := fun b => ⟨fun hb => ((h2 b).1 hb).elim (h1 b).1 (fun q => Or.inr (Nat.le_trans h q)), fun hb => (h1 b).2 ((h2 b).2 hb)⟩
theorem OW.tr0 {T T1 T2 : Nat → Nat → Nat} {n : Nat} (h1 : OW T T1 n) (h2 : OW0 T1 T2) : OW T T2 n := fun b => ⟨fun hb => (h1 b).1 ((h2 b).1 hb), fun hb => (h1 b).2 ((h2 b).2 hb)⟩
theorem OW0.of {T T2 : Nat → Nat → Nat} (h : ∀ b, T2 0 b = T 0 b) : OW0 T T2 := fun b => ⟨fun hb => by unfold ow at hb ⊢; rw [h b] at hb; exact hb, fun hb => by rw [h b] at hb; exact hb⟩
theorem OW0.pm {T : Nat → Nat → Nat} {a : Nat} {τ : Nat → Nat} (h0 : ow T a) (h26 : τ 0 ≠ 26) : OW0 T (upT T a τ) := fun b => by
  by_cases e : b = a
  · subst e
    exact ⟨fun _ => h0, fun h => by rw [upT_at] at h; exact absurd h h26⟩
  · exact ⟨fun h => by unfold ow at h ⊢; rw [upT_ne 0 e] at h; exact h, fun h => by rw [upT_ne 0 e] at h; exact h⟩
theorem dcd_s (x : Nat) : dcd (x + 1) = some x := by unfold dcd; rw [if_neg (by omega)]; rfl
def KdA_ (T : Nat → Nat → Nat) (sz : Nat) (ks : List Nat) (y y2 : Nat → Int) : Prop := ∀ b, b < sz → T 0 b = 20 → T 3 b % 300 ∉ ks → ∀ i, y2 (pr b i) = y (pr b i)
theorem KdA_rf {T : Nat → Nat → Nat} {sz : Nat} {ks : List Nat} {y : Nat → Int} : KdA_ T sz ks y y := fun _ _ _ _ _ => rfl
theorem KdA_tr {T : Nat → Nat → Nat} {sz : Nat} {ks : List Nat} {y y2 y3 : Nat → Int} (h : KdA_ T sz ks y y2) (h2 : KdA_ T sz ks y2 y3) : KdA_ T sz ks y y3 := fun b h0 ht hb i => (h2 b h0 ht hb i).trans (h b h0 ht hb i)
theorem KdA_new {T : Nat → Nat → Nat} {sz q : Nat} {ks : List Nat} {y y2 : Nat → Int} (yo : ∀ b, b ≠ q → ∀ i, y2 (pr b i) = y (pr b i)) (h : sz ≤ q) : KdA_ T sz ks y y2 := fun b h0 _ _ i => yo b (by omega) i
theorem KdA_ro {T : Nat → Nat → Nat} {sz q : Nat} {ks : List Nat} {y y2 : Nat → Int} (yo : Ro_ y y2 q) (h : sz ≤ q) : KdA_ T sz ks y y2 := fun b h0 _ _ i => yo b (by omega) i
theorem KdA_fr {T : Nat → Nat → Nat} {sz q i : Nat} {ks : List Nat} {y : Nat → Int} {z : Int} (h : sz ≤ q) : KdA_ T sz ks y (upB y (pr q i) z) := fun b h0 _ _ j => upB_ne (fun e => by have := (pr_inj e).1; omega)
theorem KdA_kc {T T2 : Nat → Nat → Nat} {sz : Nat} {ks ks2 : List Nat} {y y2 : Nat → Int} (h : Kd_ T2 ks2 y y2) (hs : ∀ k ∈ ks2, k ∈ ks) (hC : ∀ b, b < sz → T 0 b = 20 → T2 3 b = T 3 b) : KdA_ T sz ks y y2 := fun b h0 ht hb i => h b (fun q => hb (hs _ (by rw [← hC b h0 ht]; exact q))) i
theorem KdA_ka {T T2 : Nat → Nat → Nat} {sz sz2 : Nat} {ks ks2 : List Nat} {y y2 : Nat → Int} (h : KdA_ T2 sz2 ks2 y y2) (hz : sz ≤ sz2) (hs : ∀ k ∈ ks2, k ∈ ks) (hC : ∀ b, b < sz → T 0 b = 20 → T2 0 b = 20 ∧ T2 3 b = T 3 b) : KdA_ T sz ks y y2 := fun b h0 ht hb i => h b (by omega) (hC b h0 ht).1 (fun q => hb (hs _ (by rw [← (hC b h0 ht).2]; exact q))) i
theorem C20_ {T T2 : Nat → Nat → Nat} {sz o t : Nat} (hC : ∀ b, b < sz → T 0 b ≠ 10 → T 0 b ≠ 24 → T 0 b ≠ 26 → b ≠ o → ∀ j, j ≠ 197 → T2 j b = T j b) (to : T 0 o = t) (ht : t ≠ 20) : ∀ b, b < sz → T 0 b = 20 → T2 0 b = 20 ∧ T2 3 b = T 3 b := fun b h0 h20 => by
  have ne : b ≠ o := fun e => ht (by rw [← to, ← e]; exact h20)
  exact ⟨(hC b h0 (by omega) (by omega) (by omega) ne 0 (by decide)).trans h20, hC b h0 (by omega) (by omega) (by omega) ne 3 (by decide)⟩
def cTT (T : Nat → Nat → Nat) (a : Nat) (t : Nat) : Prop := match t with
  | 1 => cT1 T a
  | 2 => cT2 T a
  | 3 => cT3 T a
  | 4 => cT4 T a
  | 5 => cT5 T a
  | 6 => cT6 T a
  | 8 => cT8 T a
  | 9 => cT9 T a
  | 10 => cT10 T a
  | _ => True
def WLA (T : Nat → Nat → Nat) (v : Nat → Nat → Int) (L : Nat) : Prop := 0 ≤ v 202 L ∧ v 202 L ≤ (T 1 (T 201 L) : Int) ∧ ∀ i : Nat, (i : Int) < v 202 L → ∃ x, dcd (T (1000 + i) (T 201 L)) = some x ∧ T 0 x = T 2 L
section Make
variable {D : va_G} {cy : Nat → ClassId} {T : Nat → Nat → Nat} {v : Nat → Nat → Int} {H : Heap}
theorem cw_lt (hw : WC D cy T v H) {a t : Nat} (ht : T 0 a = t) (hs : ∀ (τ : Nat → Nat) (ν : Nat → Int) (γ : Nat → Int32), ∃ e, cEnt cy τ ν γ t = some e) : a < H.size := by
  obtain ⟨γ, h⟩ := cw_xt hw ht
  obtain ⟨e, he⟩ := hs _ _ γ
  exact (h e he).lt
theorem cw_nx (hw : WC D cy T v H) {a : Nat} (hn : H.size ≤ a ∨ 100 < T 0 a) {r t : Nat} (ht : T 0 r = t) (h1 : t < 100) (hs : ∀ (τ : Nat → Nat) (ν : Nat → Int) (γ : Nat → Int32), ∃ e, cEnt cy τ ν γ t = some e) : r ≠ a := by
  intro e
  subst e
  rcases hn with h | h
  · exact absurd (cw_lt hw ht hs) (Nat.not_lt.mpr h)
  · omega
theorem cw_set {H1 : Heap} (hw : WC D cy T v H) {a : Nat} {τ : Nat → Nat} (hn : H.size ≤ a ∨ 100 < T 0 a) (hoth : ∀ b, b < H.size → b ≠ a → H1[b]? = H[b]?) (hlen : τ 1 < 2147483648) (hat : ∀ e, cEnt cy τ (fun k => v k a) (rw_ v (τ 0) a) (τ 0) = some e → xAt D (a, e) H1) (hc : cTT (upT T a τ) a (τ 0)) (hl : τ 0 = 10 → WLA (upT T a τ) v a) (h26 : τ 0 ≠ 26) : WC D cy (upT T a τ) v H1 := by
  have hw0 := hw
  have hT := hw.2.1
  have hL := hw.2.2.1
  have K : ∀ {r t : Nat}, T 0 r = t → t < 100 → (∀ (τ : Nat → Nat) (ν : Nat → Int) (γ : Nat → Int32), ∃ e, cEnt cy τ ν γ t = some e) → ∀ k, upT T a τ k r = T k r := fun ht h1 hs k => upT_ne k (cw_nx hw0 hn ht h1 hs)
  obtain ⟨hG, -, -, hR⟩ := hw
  refine ⟨fun b e he => ?_, ⟨fun b => ?_, fun b hb0 => ?_, fun b hb0 => ?_, fun b hb0 => ?_, fun b hb0 => ?_, fun b hb0 => ?_, fun b hb0 => ?_, fun b hb0 => ?_, fun b hb0 => ?_, fun b hb0 => ?_, fun b hb0 => ?_⟩, fun L hL0 => ?_, hR⟩
  · by_cases hb : b = a
    · subst hb
      rw [upT_at, show (fun k => upT T b τ k b) = τ from funext fun k => upT_at T b τ k] at he
      exact hat e he
    · rw [upT_ne 0 hb, show (fun k => upT T a τ k b) = fun k => T k b from funext fun k => upT_ne k hb] at he
      have h1 := hG b e he
      exact h1.kept (hoth b h1.lt hb)
  · by_cases hb : b = a
    · subst hb; rw [upT_at]; exact hlen
    · rw [upT_ne 1 hb]; exact hT.1 b
  · by_cases hb : b = a
    · subst hb; rw [upT_at] at hb0; rw [hb0] at hc; exact hc
    · rw [upT_ne 0 hb] at hb0
      have h := wt1 hT hb0
      exact ⟨by rw [upT_ne 26 hb, K (h.1) (by decide) (fun _ _ _ => ⟨_, rfl⟩)]; exact h.1, by rw [upT_ne 26 hb, K (h.1) (by decide) (fun _ _ _ => ⟨_, rfl⟩)]; exact h.2.1, by rw [upT_ne 26 hb, K (h.1) (by decide) (fun _ _ _ => ⟨_, rfl⟩)]; exact h.2.2⟩
  · by_cases hb : b = a
    · subst hb; rw [upT_at] at hb0; rw [hb0] at hc; exact hc
    · rw [upT_ne 0 hb] at hb0
      have h := wt2 hT hb0
      exact ⟨by rw [upT_ne 46 hb, K (h.1) (by decide) (fun _ _ _ => ⟨_, rfl⟩)]; exact h.1, by rw [upT_ne 46 hb, K (h.1) (by decide) (fun _ _ _ => ⟨_, rfl⟩)]; exact h.2.1, by rw [upT_ne 46 hb, K (h.1) (by decide) (fun _ _ _ => ⟨_, rfl⟩)]; exact h.2.2.1, by rw [upT_ne 47 hb, K (h.2.2.2.1) (by decide) (fun _ _ _ => ⟨_, rfl⟩)]; exact h.2.2.2.1, by rw [upT_ne 47 hb, K (h.2.2.2.1) (by decide) (fun _ _ _ => ⟨_, rfl⟩)]; exact h.2.2.2.2.1, by rw [upT_ne 47 hb, K (h.2.2.2.1) (by decide) (fun _ _ _ => ⟨_, rfl⟩)]; exact h.2.2.2.2.2.1, by rw [upT_ne 48 hb, K (h.2.2.2.2.2.2.1) (by decide) (fun _ _ _ => ⟨_, rfl⟩)]; exact h.2.2.2.2.2.2.1, by rw [upT_ne 48 hb, K (h.2.2.2.2.2.2.1) (by decide) (fun _ _ _ => ⟨_, rfl⟩)]; exact h.2.2.2.2.2.2.2.1, by rw [upT_ne 48 hb, K (h.2.2.2.2.2.2.1) (by decide) (fun _ _ _ => ⟨_, rfl⟩)]; exact h.2.2.2.2.2.2.2.2⟩
  · by_cases hb : b = a
    · subst hb; rw [upT_at] at hb0; rw [hb0] at hc; exact hc
    · rw [upT_ne 0 hb] at hb0
      have h := wt3 hT hb0
      exact ⟨by rw [upT_ne 60 hb, K (h.1) (by decide) (fun _ _ _ => ⟨_, rfl⟩)]; exact h.1, by rw [upT_ne 60 hb, K (h.1) (by decide) (fun _ _ _ => ⟨_, rfl⟩)]; exact h.2.1, by rw [upT_ne 60 hb, K (h.1) (by decide) (fun _ _ _ => ⟨_, rfl⟩)]; exact h.2.2.1, by rw [upT_ne 61 hb, K (h.2.2.2.1) (by decide) (fun _ _ _ => ⟨_, rfl⟩)]; exact h.2.2.2.1, by rw [upT_ne 61 hb, K (h.2.2.2.1) (by decide) (fun _ _ _ => ⟨_, rfl⟩)]; exact h.2.2.2.2.1, by rw [upT_ne 61 hb, K (h.2.2.2.1) (by decide) (fun _ _ _ => ⟨_, rfl⟩)]; exact h.2.2.2.2.2.1, by rw [upT_ne 62 hb, K (h.2.2.2.2.2.2.1) (by decide) (fun _ _ _ => ⟨_, rfl⟩)]; exact h.2.2.2.2.2.2.1, by rw [upT_ne 62 hb, K (h.2.2.2.2.2.2.1) (by decide) (fun _ _ _ => ⟨_, rfl⟩)]; exact h.2.2.2.2.2.2.2.1, by rw [upT_ne 62 hb, K (h.2.2.2.2.2.2.1) (by decide) (fun _ _ _ => ⟨_, rfl⟩)]; exact h.2.2.2.2.2.2.2.2.1, by rw [upT_ne 63 hb, K (h.2.2.2.2.2.2.2.2.2.1) (by decide) (fun _ _ _ => ⟨_, rfl⟩)]; exact h.2.2.2.2.2.2.2.2.2.1, by rw [upT_ne 63 hb, K (h.2.2.2.2.2.2.2.2.2.1) (by decide) (fun _ _ _ => ⟨_, rfl⟩)]; exact h.2.2.2.2.2.2.2.2.2.2.1, by rw [upT_ne 63 hb, K (h.2.2.2.2.2.2.2.2.2.1) (by decide) (fun _ _ _ => ⟨_, rfl⟩)]; exact h.2.2.2.2.2.2.2.2.2.2.2⟩
  · by_cases hb : b = a
    · subst hb; rw [upT_at] at hb0; rw [hb0] at hc; exact hc
    · rw [upT_ne 0 hb] at hb0
      have h := wt4 hT hb0
      exact ⟨by rw [upT_ne 82 hb, K (h.1) (by decide) (fun _ _ _ => ⟨_, rfl⟩)]; exact h.1, by rw [upT_ne 85 hb, K (h.2.1) (by decide) (fun _ _ _ => ⟨_, rfl⟩)]; exact h.2.1, by rw [upT_ne 85 hb, K (h.2.1) (by decide) (fun _ _ _ => ⟨_, rfl⟩)]; exact h.2.2.1, by rw [upT_ne 85 hb, K (h.2.1) (by decide) (fun _ _ _ => ⟨_, rfl⟩)]; exact h.2.2.2⟩
  · by_cases hb : b = a
    · subst hb; rw [upT_at] at hb0; rw [hb0] at hc; exact hc
    · rw [upT_ne 0 hb] at hb0
      have h := wt5 hT hb0
      exact ⟨by rw [upT_ne 100 hb, K (h.1) (by decide) (fun _ _ _ => ⟨_, rfl⟩)]; exact h.1, by rw [upT_ne 100 hb, K (h.1) (by decide) (fun _ _ _ => ⟨_, rfl⟩)]; exact h.2.1, by rw [upT_ne 100 hb, K (h.1) (by decide) (fun _ _ _ => ⟨_, rfl⟩)]; exact h.2.2.1, by rw [upT_ne 101 hb, K (h.2.2.2.1) (by decide) (fun _ _ _ => ⟨_, rfl⟩)]; exact h.2.2.2.1, by rw [upT_ne 101 hb, K (h.2.2.2.1) (by decide) (fun _ _ _ => ⟨_, rfl⟩)]; exact h.2.2.2.2.1, by rw [upT_ne 101 hb, K (h.2.2.2.1) (by decide) (fun _ _ _ => ⟨_, rfl⟩)]; exact h.2.2.2.2.2.1, by rw [upT_ne 102 hb, K (h.2.2.2.2.2.2.1) (by decide) (fun _ _ _ => ⟨_, rfl⟩)]; exact h.2.2.2.2.2.2.1, by rw [upT_ne 102 hb, K (h.2.2.2.2.2.2.1) (by decide) (fun _ _ _ => ⟨_, rfl⟩)]; exact h.2.2.2.2.2.2.2.1, by rw [upT_ne 102 hb, K (h.2.2.2.2.2.2.1) (by decide) (fun _ _ _ => ⟨_, rfl⟩)]; exact h.2.2.2.2.2.2.2.2⟩
  · by_cases hb : b = a
    · subst hb; rw [upT_at] at hb0; rw [hb0] at hc; exact hc
    · rw [upT_ne 0 hb] at hb0
      have h := wt6 hT hb0
      exact ⟨by rw [upT_ne 120 hb, K (h.1) (by decide) (fun _ _ _ => ⟨_, rfl⟩)]; exact h.1, by rw [upT_ne 120 hb, K (h.1) (by decide) (fun _ _ _ => ⟨_, rfl⟩)]; exact h.2.1, by rw [upT_ne 120 hb, K (h.1) (by decide) (fun _ _ _ => ⟨_, rfl⟩)]; exact h.2.2.1, by rw [upT_ne 121 hb, K (h.2.2.2.1) (by decide) (fun _ _ _ => ⟨_, rfl⟩)]; exact h.2.2.2.1, by rw [upT_ne 121 hb, K (h.2.2.2.1) (by decide) (fun _ _ _ => ⟨_, rfl⟩)]; exact h.2.2.2.2.1, by rw [upT_ne 121 hb, K (h.2.2.2.1) (by decide) (fun _ _ _ => ⟨_, rfl⟩)]; exact h.2.2.2.2.2.1, by rw [upT_ne 122 hb, K (h.2.2.2.2.2.2.1) (by decide) (fun _ _ _ => ⟨_, rfl⟩)]; exact h.2.2.2.2.2.2.1, by rw [upT_ne 122 hb, K (h.2.2.2.2.2.2.1) (by decide) (fun _ _ _ => ⟨_, rfl⟩)]; exact h.2.2.2.2.2.2.2.1, by rw [upT_ne 122 hb, K (h.2.2.2.2.2.2.1) (by decide) (fun _ _ _ => ⟨_, rfl⟩)]; exact h.2.2.2.2.2.2.2.2⟩
  · by_cases hb : b = a
    · subst hb; rw [upT_at] at hb0; rw [hb0] at hc; exact hc
    · rw [upT_ne 0 hb] at hb0
      have h := wt8 hT hb0
      exact ⟨by rw [upT_ne 161 hb, K (h.1) (by decide) (fun _ _ _ => ⟨_, rfl⟩)]; exact h.1, by rw [upT_ne 161 hb, K (h.1) (by decide) (fun _ _ _ => ⟨_, rfl⟩)]; exact h.2.1, by rw [upT_ne 162 hb, K (h.2.2.1) (by decide) (fun _ _ _ => ⟨_, rfl⟩)]; exact h.2.2.1, by rw [upT_ne 162 hb, K (h.2.2.1) (by decide) (fun _ _ _ => ⟨_, rfl⟩)]; exact h.2.2.2.1, by rw [upT_ne 163 hb, K (h.2.2.2.2.1) (by decide) (fun _ _ _ => ⟨_, rfl⟩)]; exact h.2.2.2.2.1, by rw [upT_ne 163 hb, K (h.2.2.2.2.1) (by decide) (fun _ _ _ => ⟨_, rfl⟩)]; exact h.2.2.2.2.2⟩
  · by_cases hb : b = a
    · subst hb; rw [upT_at] at hb0; rw [hb0] at hc; exact hc
    · rw [upT_ne 0 hb] at hb0
      have h := wt9 hT hb0
      exact ⟨by rw [upT_ne 180 hb, K (h.1) (by decide) (fun _ _ _ => ⟨_, rfl⟩)]; exact h.1, by rw [upT_ne 180 hb, K (h.1) (by decide) (fun _ _ _ => ⟨_, rfl⟩)]; exact h.2.1, by rw [upT_ne 181 hb, K (h.2.2.1) (by decide) (fun _ _ _ => ⟨_, rfl⟩)]; exact h.2.2.1, by rw [upT_ne 181 hb, K (h.2.2.1) (by decide) (fun _ _ _ => ⟨_, rfl⟩)]; exact h.2.2.2.1, by rw [upT_ne 182 hb, K (h.2.2.2.2.1) (by decide) (fun _ _ _ => ⟨_, rfl⟩)]; exact h.2.2.2.2.1, by rw [upT_ne 182 hb, K (h.2.2.2.2.1) (by decide) (fun _ _ _ => ⟨_, rfl⟩)]; exact h.2.2.2.2.2.1, by rw [upT_ne 183 hb, K (h.2.2.2.2.2.2.1) (by decide) (fun _ _ _ => ⟨_, rfl⟩)]; exact h.2.2.2.2.2.2.1, by rw [upT_ne 183 hb, K (h.2.2.2.2.2.2.1) (by decide) (fun _ _ _ => ⟨_, rfl⟩)]; exact h.2.2.2.2.2.2.2.1, by rw [upT_ne 184 hb, K (h.2.2.2.2.2.2.2.2.1) (by decide) (fun _ _ _ => ⟨_, rfl⟩)]; exact h.2.2.2.2.2.2.2.2.1, by rw [upT_ne 184 hb, K (h.2.2.2.2.2.2.2.2.1) (by decide) (fun _ _ _ => ⟨_, rfl⟩)]; exact h.2.2.2.2.2.2.2.2.2.1, by rw [upT_ne 184 hb, K (h.2.2.2.2.2.2.2.2.1) (by decide) (fun _ _ _ => ⟨_, rfl⟩)]; exact h.2.2.2.2.2.2.2.2.2.2.1, by rw [upT_ne 185 hb, K (h.2.2.2.2.2.2.2.2.2.2.2.1) (by decide) (fun _ _ _ => ⟨_, rfl⟩)]; exact h.2.2.2.2.2.2.2.2.2.2.2.1, by rw [upT_ne 185 hb, K (h.2.2.2.2.2.2.2.2.2.2.2.1) (by decide) (fun _ _ _ => ⟨_, rfl⟩)]; exact h.2.2.2.2.2.2.2.2.2.2.2.2.1, by rw [upT_ne 185 hb, K (h.2.2.2.2.2.2.2.2.2.2.2.1) (by decide) (fun _ _ _ => ⟨_, rfl⟩)]; exact h.2.2.2.2.2.2.2.2.2.2.2.2.2.1, by rw [upT_ne 192 hb, K (h.2.2.2.2.2.2.2.2.2.2.2.2.2.2.1) (by decide) (fun _ _ _ => ⟨_, rfl⟩)]; exact h.2.2.2.2.2.2.2.2.2.2.2.2.2.2.1, by rw [upT_ne 193 hb, K (h.2.2.2.2.2.2.2.2.2.2.2.2.2.2.2.1) (by decide) (fun _ _ _ => ⟨_, rfl⟩)]; exact h.2.2.2.2.2.2.2.2.2.2.2.2.2.2.2.1, by rw [upT_ne 194 hb, K (h.2.2.2.2.2.2.2.2.2.2.2.2.2.2.2.2.1) (by decide) (fun _ _ _ => ⟨_, rfl⟩)]; exact h.2.2.2.2.2.2.2.2.2.2.2.2.2.2.2.2.1, by rw [upT_ne 194 hb, K (h.2.2.2.2.2.2.2.2.2.2.2.2.2.2.2.2.1) (by decide) (fun _ _ _ => ⟨_, rfl⟩)]; exact h.2.2.2.2.2.2.2.2.2.2.2.2.2.2.2.2.2.1, by rw [upT_ne 194 hb, K (h.2.2.2.2.2.2.2.2.2.2.2.2.2.2.2.2.1) (by decide) (fun _ _ _ => ⟨_, rfl⟩)]; exact h.2.2.2.2.2.2.2.2.2.2.2.2.2.2.2.2.2.2.1, by rw [upT_ne 195 hb, K (h.2.2.2.2.2.2.2.2.2.2.2.2.2.2.2.2.2.2.2.1) (by decide) (fun _ _ _ => ⟨_, rfl⟩)]; exact h.2.2.2.2.2.2.2.2.2.2.2.2.2.2.2.2.2.2.2.1, by rw [upT_ne 195 hb, K (h.2.2.2.2.2.2.2.2.2.2.2.2.2.2.2.2.2.2.2.1) (by decide) (fun _ _ _ => ⟨_, rfl⟩)]; exact h.2.2.2.2.2.2.2.2.2.2.2.2.2.2.2.2.2.2.2.2.1, by rw [upT_ne 195 hb, K (h.2.2.2.2.2.2.2.2.2.2.2.2.2.2.2.2.2.2.2.1) (by decide) (fun _ _ _ => ⟨_, rfl⟩)]; exact h.2.2.2.2.2.2.2.2.2.2.2.2.2.2.2.2.2.2.2.2.2.1, by rw [upT_ne 196 hb, K (h.2.2.2.2.2.2.2.2.2.2.2.2.2.2.2.2.2.2.2.2.2.2.1) (by decide) (fun _ _ _ => ⟨_, rfl⟩)]; exact h.2.2.2.2.2.2.2.2.2.2.2.2.2.2.2.2.2.2.2.2.2.2.1, by rw [upT_ne 196 hb, K (h.2.2.2.2.2.2.2.2.2.2.2.2.2.2.2.2.2.2.2.2.2.2.1) (by decide) (fun _ _ _ => ⟨_, rfl⟩)]; exact h.2.2.2.2.2.2.2.2.2.2.2.2.2.2.2.2.2.2.2.2.2.2.2.1, by rw [upT_ne 196 hb, K (h.2.2.2.2.2.2.2.2.2.2.2.2.2.2.2.2.2.2.2.2.2.2.1) (by decide) (fun _ _ _ => ⟨_, rfl⟩)]; exact h.2.2.2.2.2.2.2.2.2.2.2.2.2.2.2.2.2.2.2.2.2.2.2.2.1, fun x hx => by rw [upT_ne 197 hb] at hx; rw [K (h.2.2.2.2.2.2.2.2.2.2.2.2.2.2.2.2.2.2.2.2.2.2.2.2.2 x hx) (by decide) (fun _ _ _ => ⟨_, rfl⟩)]; exact h.2.2.2.2.2.2.2.2.2.2.2.2.2.2.2.2.2.2.2.2.2.2.2.2.2 x hx⟩
  · by_cases hb : b = a
    · subst hb; rw [upT_at] at hb0; rw [hb0] at hc; exact hc
    · rw [upT_ne 0 hb] at hb0
      have h := wt10 hT hb0
      exact ⟨by rw [upT_ne 201 hb]; exact h.1.elim (fun q => Or.inl (by rw [K q (by decide) (fun _ _ _ => ⟨_, rfl⟩)]; exact q)) (fun q => Or.inr (by rw [K q (by decide) (fun _ _ _ => ⟨_, rfl⟩)]; exact q)), fun q => by rw [upT_ne 201 hb] at q ⊢; have q2 : T 0 (T 201 b) = 24 := h.1.elim (fun z => z) (fun z => by rw [K z (by decide) (fun _ _ _ => ⟨_, rfl⟩), z] at q; cases q); rw [K q2 (by decide) (fun _ _ _ => ⟨_, rfl⟩)]; exact h.2.1 q2, by rw [upT_ne 2 hb]; exact h.2.2⟩
  · by_cases hb : b = a
    · subst hb; rw [upT_at] at hb0 ⊢; exact absurd hb0 h26
    · rw [upT_ne 0 hb] at hb0; rw [upT_ne 1 hb]; exact wt26 hT hb0
  · by_cases hb : L = a
    · subst hb; rw [upT_at] at hL0; exact hl hL0
    · rw [upT_ne 0 hb] at hL0
      have h := hL L hL0
      have hq := wt10 hT hL0
      have Kr : ∀ k, upT T a τ k (T 201 L) = T k (T 201 L) := hq.1.elim (fun q => K q (by decide) (fun _ _ _ => ⟨_, rfl⟩)) (fun q => K q (by decide) (fun _ _ _ => ⟨_, rfl⟩))
      refine ⟨h.1, by rw [upT_ne 201 hb, Kr]; exact h.2.1, fun i hi => ?_⟩
      obtain ⟨x, hx, tx⟩ := h.2.2 i hi
      refine ⟨x, by rw [upT_ne 201 hb, Kr]; exact hx, ?_⟩
      have Kx : upT T a τ 0 x = T 0 x := by
        rcases hq.2.2 with q | q | q | q
        · exact K (tx.trans q) (by decide) (fun _ _ _ => ⟨_, rfl⟩) 0
        · exact K (tx.trans q) (by decide) (fun _ _ _ => ⟨_, rfl⟩) 0
        · exact K (tx.trans q) (by decide) (fun _ _ _ => ⟨_, rfl⟩) 0
        · exact K (tx.trans q) (by decide) (fun _ _ _ => ⟨_, rfl⟩) 0
      rw [Kx, upT_ne 2 hb]
      exact tx
theorem cEnt_nu {τ : Nat → Nat} {ν ν2 : Nat → Int} {γ : Nat → Int32} {t : Nat} {e : va_E} (h : cEnt cy τ ν2 γ t = some e) : ∃ e1, cEnt cy τ ν γ t = some e1 := by
  unfold cEnt at h ⊢
  split at h <;> first | exact ⟨_, rfl⟩ | cases h
theorem cEnt_ga {τ : Nat → Nat} {ν : Nat → Int} {γ γ2 : Nat → Int32} {t : Nat} {e : va_E} (h : cEnt cy τ ν γ t = some e) : ∃ e1, cEnt cy τ ν γ2 t = some e1 := by
  unfold cEnt at h ⊢
  split at h <;> first | exact ⟨_, rfl⟩ | cases h
theorem cw_vq {v2 : Nat → Nat → Int} (hw : WC D cy T v H) (hv : ∀ k, k < 280 → ∀ b, b < H.size → v2 k b = v k b) (hu : ∀ t b, b < H.size → ∀ i, v2 (280 + t) (pr b i) = v (280 + t) (pr b i)) (hR : ∀ k b, inR (v2 k b)) : WC D cy T v2 H := by
  have hw0 := hw
  obtain ⟨hG, hT, hL, -⟩ := hw
  refine ⟨fun b e he => ?_, hT, fun L hL0 => ?_, hR⟩
  · obtain ⟨e1, h1⟩ := cEnt_nu (ν := fun k => v k b) he
    have hb : b < H.size := by
      obtain ⟨γ, h⟩ := cw_xt hw0 (a := b) rfl
      obtain ⟨e2, h2⟩ := cEnt_ga (γ2 := γ) h1
      exact (h e2 h2).lt
    rw [cEnt_cg (ν := fun k => v k b) _ _ (fun k hk => hv k hk b hb), show rw_ v2 (T 0 b) b = rw_ v (T 0 b) b from funext fun i => congrArg J (hu (T 0 b) b hb i)] at he
    exact hG b e he
  · have hb : L < H.size := cw_lt hw0 hL0 (fun _ _ _ => ⟨_, rfl⟩)
    rw [hv 202 (by decide) L hb]
    exact hL L hL0
theorem zrow (g : Nat → Int) (hg : ∀ x, inR (g x)) (q : Nat) : ∃ y : Nat → Int, (∀ i, y (pr q i) = 0) ∧ (∀ b, b ≠ q → ∀ i, y (pr b i) = g (pr b i)) ∧ (∀ x, inR (y x)) := by
  refine ⟨fun x => @ite Int (∃ i, x = pr q i) (Classical.propDecidable _) 0 (g x), fun i => if_pos ⟨i, rfl⟩, fun b hb i => if_neg (fun h => ?_), fun x => ?_⟩
  · obtain ⟨j, h⟩ := h
    exact hb (pr_inj h).1
  · show inR (@ite Int (∃ i, x = pr q i) (Classical.propDecidable _) 0 (g x))
    split
    · exact inR0
    · exact hg x
end Make
section MRow
variable {p : Program} {l : Launch} {e : Env} {R : Room} {s : State} {m : MethodId} {args : Array Value} {below : List Frame} {meth : Method} {c : Code} {H H0 : Heap} {locs : List Loc} {cells slots : Nat} {Q : State → Prop} {cc : ByteArray} {nL : Nat} {ret : Option FieldType} {pc : Nat} {ls : Array Slot} {rest : List Value} {D : va_G} {cy : Nat → ClassId} {T : Nat → Nat → Nat} {v : Nat → Nat → Int} {A0 : Nat → Prop} {own : String}
theorem ow_new {x : Nat} {τ : Nat → Nat} {n : Nat} (hx : n ≤ x) (b : Nat) (h : ow (upT T x τ) b) : ow T b ∨ n ≤ b := by
  by_cases hb : b = x
  · exact Or.inr (hb ▸ hx)
  · unfold ow at h
    rw [upT_ne 0 hb] at h
    exact Or.inl h
theorem ow_nw {x : Nat} {τ : Nat → Nat} {n : Nat} (hx : n ≤ x) (h26 : τ 0 ≠ 26) : OW T (upT T x τ) n := fun b => ⟨ow_new hx b, fun h => by
  by_cases hb : b = x
  · subst hb; rw [upT_at] at h; exact absurd h h26
  · rw [upT_ne 0 hb] at h; exact h⟩
theorem ow_A (hA : ∀ x, H0.size ≤ x → A0 x) (hw : WK D cy T v A0 H0 H locs) {T2 : Nat → Nat → Nat} (ho : OW T T2 H.size) (x : Nat) (h : ow T2 x) : A0 x := ((ho x).1 h).elim (hw.2.1 x) (fun q => hA x (Nat.le_trans hw.2.2.1 q))
theorem it_X0 : Cond.instantiable RX0 7 ∈ gT := (gT_c3 (List.mem_of_getElem? (i := 110) (by decide +kernel)) (by decide +kernel))
theorem ii_X0 : Cond.initialized RX0 ∈ gT := (gT_c1 (List.mem_of_getElem? (i := 21) (by decide +kernel)) (by decide +kernel))
theorem n_obj1 (E : CX p s m args meth c own cc nL ret) (hK : KK D cy s) (hw : WK D cy T v A0 H0 H locs) (hA : ∀ x, H0.size ≤ x → A0 x) {ix : Nat} (hl : Cond.classLink own ix RX0 ∈ gT) (hcl : cells + 1 ≤ R.cells) (hsl : slots + 7 ≤ R.slots) (pc' : Nat) (hp : pc + 3 = pc') (hdg : decode cc pc = .ok (.new ix, 3))
    (kk : ∀ (q : Nat) (T2 : Nat → Nat → Nat) (H1 : Heap), H.size ≤ q → (∀ b, b ≠ q → ∀ k, T2 k b = T k b) → OW T T2 H.size → T2 0 q = 101 → WK D cy T2 (upV (upV (upV (upV (upV (upV v 20 (upB (v 20) q 0)) 21 (upB (v 21) q 0)) 22 (upB (v 22) q 0)) 23 (upB (v 23) q 0)) 24 (upB (v 24) q 0)) 25 (upB (v 25) q 0)) A0 H0 H1 locs → W p l e R s m args below meth c H1 locs (cells + 1) (slots + 7) Q (F0 m pc' ls (.ref q :: rest))) : W p l e R s m args below meth c H locs cells slots Q (F0 m pc ls rest) := by
  subst hp
  have hts := E.2.2.2.2.1
  have hKn := hK.1 1 (RX0, TX0, 7) rfl
  refine W.newcK E.1 E.2.1 E.2.2.2.1 (hts _ hl) (hts _ it_X0) (hts _ ii_X0) rfl hdg hcl hsl hKn.2.1 rfl fun H1 kC hkC e1 z1 o1 => ?_
  have hat : va_at D vwCl (H.size, .inr (1, [.int 0, .int 0, .int 0, .int 0, .int 0, .int 0, .null])) H1 := ⟨_, rfl, (u_born tyX0 hts in_X0 hKn hkC e1 tyX0_ok).to (by intro j hj; rcases j with _ | j; rfl; rcases j with _ | j; rfl; rcases j with _ | j; rfl; rcases j with _ | j; rfl; rcases j with _ | j; rfl; rcases j with _ | j; rfl; rcases j with _ | j; rfl; omega)⟩
  have e0 : (0 : Int32) = J 0 := J_0.symm
  generalize hq : H.size = q at *
  let v2 : Nat → Nat → Int := upV (upV (upV (upV (upV (upV v 20 (upB (v 20) q 0)) 21 (upB (v 21) q 0)) 22 (upB (v 22) q 0)) 23 (upB (v 23) q 0)) 24 (upB (v 24) q 0)) 25 (upB (v 25) q 0)
  have hv2 : v2 = upV (upV (upV (upV (upV (upV v 20 (upB (v 20) q 0)) 21 (upB (v 21) q 0)) 22 (upB (v 22) q 0)) 23 (upB (v 23) q 0)) 24 (upB (v 24) q 0)) 25 (upB (v 25) q 0) := rfl
  have hu : ∀ t b, b < q → ∀ i, v2 (280 + t) (pr b i) = v (280 + t) (pr b i) := by
    intro t b _ i
    simp only [hv2, upV]
    (repeat' split) <;> first | rfl | omega
  have hv : ∀ k b, b < q → v2 k b = v k b := by
    intro k b hb
    have hne : b ≠ q := by omega
    show v2 k b = v k b
    simp only [hv2, upV]
    (repeat' split) <;> first | rfl | (subst_vars; exact upB_ne hne)
  have hR2 : ∀ k b, inR (v2 k b) := by
    intro k b
    simp only [hv2, upV]
    (repeat' split) <;> first | exact hw.1.2.2.2 _ _ | exact upB_R (fun b => hw.1.2.2.2 _ b) inR0 b
  have hw2 : WC D cy T v2 H := cw_vq hw.1 (fun k _ b hb => hv k b (by rw [hq] at hb; exact hb)) (fun t b hb => hu t b (by rw [hq] at hb; exact hb)) hR2
  have hw3 : WC D cy (upT T q (fun k => if k = 0 then 101 else 0)) v2 H1 := by
    refine cw_set hw2 (Or.inl (by rw [hq]; exact Nat.le_refl _)) (fun b hb _ => o1 b (by rw [hq] at hb; exact hb)) (by decide) (fun e he => ?_) trivial (fun h => absurd (show 101 = 10 from h) (by decide)) (show 101 ≠ 26 by decide)
    cases he
    show va_at D vwCl (q, .inr (1, [.int (J (upB (v 20) q 0 q)), .int (J (upB (v 21) q 0 q)), .int (J (upB (v 22) q 0 q)), .int (J (upB (v 23) q 0 q)), .int (J (upB (v 24) q 0 q)), .int (J (upB (v 25) q 0 q)), .null])) H1
    simp only [upB_same]
    rw [J_0]
    exact hat
  refine kk q _ H1 (Nat.le_refl _) (fun b hb k => upT_ne k hb) (ow_nw (Nat.le_refl _) (show 101 ≠ 26 by decide)) (upT_at _ _ _ _) ⟨hw3, fun b h => (ow_new (Nat.le_refl _) b h).elim (hw.2.1 b) (fun z => hA b (Nat.le_trans hw.2.2.1 (by rw [hq]; exact z))), ⟨Nat.le_trans hw.2.2.1 (by omega), fun b h1 h2 => (o1 b (by have := hw.2.2.1; omega)).trans (hw.2.2.2.1 b h1 h2), hw.2.2.2.2⟩⟩
theorem it_X1 : Cond.instantiable RX1 9 ∈ gT := (gT_c1 (List.mem_of_getElem? (i := 199) (by decide +kernel)) (by decide +kernel))
theorem ii_X1 : Cond.initialized RX1 ∈ gT := (gT_c1 (List.mem_of_getElem? (i := 9) (by decide +kernel)) (by decide +kernel))
theorem n_obj2 (E : CX p s m args meth c own cc nL ret) (hK : KK D cy s) (hw : WK D cy T v A0 H0 H locs) (hA : ∀ x, H0.size ≤ x → A0 x) {ix : Nat} (hl : Cond.classLink own ix RX1 ∈ gT) (hcl : cells + 1 ≤ R.cells) (hsl : slots + 9 ≤ R.slots) (pc' : Nat) (hp : pc + 3 = pc') (hdg : decode cc pc = .ok (.new ix, 3))
    (kk : ∀ (q : Nat) (T2 : Nat → Nat → Nat) (H1 : Heap), H.size ≤ q → (∀ b, b ≠ q → ∀ k, T2 k b = T k b) → OW T T2 H.size → T2 0 q = 102 → WK D cy T2 (upV (upV (upV (upV (upV (upV v 40 (upB (v 40) q 0)) 41 (upB (v 41) q 0)) 42 (upB (v 42) q 0)) 43 (upB (v 43) q 0)) 44 (upB (v 44) q 0)) 45 (upB (v 45) q 0)) A0 H0 H1 locs → W p l e R s m args below meth c H1 locs (cells + 1) (slots + 9) Q (F0 m pc' ls (.ref q :: rest))) : W p l e R s m args below meth c H locs cells slots Q (F0 m pc ls rest) := by
  subst hp
  have hts := E.2.2.2.2.1
  have hKn := hK.1 2 (RX1, TX1, 9) rfl
  refine W.newcK E.1 E.2.1 E.2.2.2.1 (hts _ hl) (hts _ it_X1) (hts _ ii_X1) rfl hdg hcl hsl hKn.2.1 rfl fun H1 kC hkC e1 z1 o1 => ?_
  have hat : va_at D vwCl (H.size, .inr (2, [.int 0, .int 0, .int 0, .int 0, .int 0, .int 0, .null, .null, .null])) H1 := ⟨_, rfl, (u_born tyX1 hts in_X1 hKn hkC e1 tyX1_ok).to (by intro j hj; rcases j with _ | j; rfl; rcases j with _ | j; rfl; rcases j with _ | j; rfl; rcases j with _ | j; rfl; rcases j with _ | j; rfl; rcases j with _ | j; rfl; rcases j with _ | j; rfl; rcases j with _ | j; rfl; rcases j with _ | j; rfl; omega)⟩
  have e0 : (0 : Int32) = J 0 := J_0.symm
  generalize hq : H.size = q at *
  let v2 : Nat → Nat → Int := upV (upV (upV (upV (upV (upV v 40 (upB (v 40) q 0)) 41 (upB (v 41) q 0)) 42 (upB (v 42) q 0)) 43 (upB (v 43) q 0)) 44 (upB (v 44) q 0)) 45 (upB (v 45) q 0)
  have hv2 : v2 = upV (upV (upV (upV (upV (upV v 40 (upB (v 40) q 0)) 41 (upB (v 41) q 0)) 42 (upB (v 42) q 0)) 43 (upB (v 43) q 0)) 44 (upB (v 44) q 0)) 45 (upB (v 45) q 0) := rfl
  have hu : ∀ t b, b < q → ∀ i, v2 (280 + t) (pr b i) = v (280 + t) (pr b i) := by
    intro t b _ i
    simp only [hv2, upV]
    (repeat' split) <;> first | rfl | omega
  have hv : ∀ k b, b < q → v2 k b = v k b := by
    intro k b hb
    have hne : b ≠ q := by omega
    show v2 k b = v k b
    simp only [hv2, upV]
    (repeat' split) <;> first | rfl | (subst_vars; exact upB_ne hne)
  have hR2 : ∀ k b, inR (v2 k b) := by
    intro k b
    simp only [hv2, upV]
    (repeat' split) <;> first | exact hw.1.2.2.2 _ _ | exact upB_R (fun b => hw.1.2.2.2 _ b) inR0 b
  have hw2 : WC D cy T v2 H := cw_vq hw.1 (fun k _ b hb => hv k b (by rw [hq] at hb; exact hb)) (fun t b hb => hu t b (by rw [hq] at hb; exact hb)) hR2
  have hw3 : WC D cy (upT T q (fun k => if k = 0 then 102 else 0)) v2 H1 := by
    refine cw_set hw2 (Or.inl (by rw [hq]; exact Nat.le_refl _)) (fun b hb _ => o1 b (by rw [hq] at hb; exact hb)) (by decide) (fun e he => ?_) trivial (fun h => absurd (show 102 = 10 from h) (by decide)) (show 102 ≠ 26 by decide)
    cases he
    show va_at D vwCl (q, .inr (2, [.int (J (upB (v 40) q 0 q)), .int (J (upB (v 41) q 0 q)), .int (J (upB (v 42) q 0 q)), .int (J (upB (v 43) q 0 q)), .int (J (upB (v 44) q 0 q)), .int (J (upB (v 45) q 0 q)), .null, .null, .null])) H1
    simp only [upB_same]
    rw [J_0]
    exact hat
  refine kk q _ H1 (Nat.le_refl _) (fun b hb k => upT_ne k hb) (ow_nw (Nat.le_refl _) (show 102 ≠ 26 by decide)) (upT_at _ _ _ _) ⟨hw3, fun b h => (ow_new (Nat.le_refl _) b h).elim (hw.2.1 b) (fun z => hA b (Nat.le_trans hw.2.2.1 (by rw [hq]; exact z))), ⟨Nat.le_trans hw.2.2.1 (by omega), fun b h1 h2 => (o1 b (by have := hw.2.2.1; omega)).trans (hw.2.2.2.1 b h1 h2), hw.2.2.2.2⟩⟩
theorem it_X2 : Cond.instantiable RX2 7 ∈ gT := (gT_c5 (List.mem_of_getElem? (i := 9) (by decide +kernel)) (by decide +kernel))
theorem ii_X2 : Cond.initialized RX2 ∈ gT := (gT_c1 (List.mem_of_getElem? (i := 24) (by decide +kernel)) (by decide +kernel))
theorem n_obj3 (E : CX p s m args meth c own cc nL ret) (hK : KK D cy s) (hw : WK D cy T v A0 H0 H locs) (hA : ∀ x, H0.size ≤ x → A0 x) {ix : Nat} (hl : Cond.classLink own ix RX2 ∈ gT) (hcl : cells + 1 ≤ R.cells) (hsl : slots + 7 ≤ R.slots) (pc' : Nat) (hp : pc + 3 = pc') (hdg : decode cc pc = .ok (.new ix, 3))
    (kk : ∀ (q : Nat) (T2 : Nat → Nat → Nat) (H1 : Heap), H.size ≤ q → (∀ b, b ≠ q → ∀ k, T2 k b = T k b) → OW T T2 H.size → T2 0 q = 103 → WK D cy T2 (upV (upV (upV v 64 (upB (v 64) q 0)) 65 (upB (v 65) q 0)) 66 (upB (v 66) q 0)) A0 H0 H1 locs → W p l e R s m args below meth c H1 locs (cells + 1) (slots + 7) Q (F0 m pc' ls (.ref q :: rest))) : W p l e R s m args below meth c H locs cells slots Q (F0 m pc ls rest) := by
  subst hp
  have hts := E.2.2.2.2.1
  have hKn := hK.1 3 (RX2, TX2, 7) rfl
  refine W.newcK E.1 E.2.1 E.2.2.2.1 (hts _ hl) (hts _ it_X2) (hts _ ii_X2) rfl hdg hcl hsl hKn.2.1 rfl fun H1 kC hkC e1 z1 o1 => ?_
  have hat : va_at D vwCl (H.size, .inr (3, [.null, .null, .null, .null, .int 0, .int 0, .int 0])) H1 := ⟨_, rfl, (u_born tyX2 hts in_X2 hKn hkC e1 tyX2_ok).to (by intro j hj; rcases j with _ | j; rfl; rcases j with _ | j; rfl; rcases j with _ | j; rfl; rcases j with _ | j; rfl; rcases j with _ | j; rfl; rcases j with _ | j; rfl; rcases j with _ | j; rfl; omega)⟩
  have e0 : (0 : Int32) = J 0 := J_0.symm
  generalize hq : H.size = q at *
  let v2 : Nat → Nat → Int := upV (upV (upV v 64 (upB (v 64) q 0)) 65 (upB (v 65) q 0)) 66 (upB (v 66) q 0)
  have hv2 : v2 = upV (upV (upV v 64 (upB (v 64) q 0)) 65 (upB (v 65) q 0)) 66 (upB (v 66) q 0) := rfl
  have hu : ∀ t b, b < q → ∀ i, v2 (280 + t) (pr b i) = v (280 + t) (pr b i) := by
    intro t b _ i
    simp only [hv2, upV]
    (repeat' split) <;> first | rfl | omega
  have hv : ∀ k b, b < q → v2 k b = v k b := by
    intro k b hb
    have hne : b ≠ q := by omega
    show v2 k b = v k b
    simp only [hv2, upV]
    (repeat' split) <;> first | rfl | (subst_vars; exact upB_ne hne)
  have hR2 : ∀ k b, inR (v2 k b) := by
    intro k b
    simp only [hv2, upV]
    (repeat' split) <;> first | exact hw.1.2.2.2 _ _ | exact upB_R (fun b => hw.1.2.2.2 _ b) inR0 b
  have hw2 : WC D cy T v2 H := cw_vq hw.1 (fun k _ b hb => hv k b (by rw [hq] at hb; exact hb)) (fun t b hb => hu t b (by rw [hq] at hb; exact hb)) hR2
  have hw3 : WC D cy (upT T q (fun k => if k = 0 then 103 else 0)) v2 H1 := by
    refine cw_set hw2 (Or.inl (by rw [hq]; exact Nat.le_refl _)) (fun b hb _ => o1 b (by rw [hq] at hb; exact hb)) (by decide) (fun e he => ?_) trivial (fun h => absurd (show 103 = 10 from h) (by decide)) (show 103 ≠ 26 by decide)
    cases he
    show va_at D vwCl (q, .inr (3, [.null, .null, .null, .null, .int (J (upB (v 64) q 0 q)), .int (J (upB (v 65) q 0 q)), .int (J (upB (v 66) q 0 q))])) H1
    simp only [upB_same]
    rw [J_0]
    exact hat
  refine kk q _ H1 (Nat.le_refl _) (fun b hb k => upT_ne k hb) (ow_nw (Nat.le_refl _) (show 103 ≠ 26 by decide)) (upT_at _ _ _ _) ⟨hw3, fun b h => (ow_new (Nat.le_refl _) b h).elim (hw.2.1 b) (fun z => hA b (Nat.le_trans hw.2.2.1 (by rw [hq]; exact z))), ⟨Nat.le_trans hw.2.2.1 (by omega), fun b h1 h2 => (o1 b (by have := hw.2.2.1; omega)).trans (hw.2.2.2.1 b h1 h2), hw.2.2.2.2⟩⟩
theorem it_X3 : Cond.instantiable RX3 7 ∈ gT := (gT_c1 (List.mem_of_getElem? (i := 60) (by decide +kernel)) (by decide +kernel))
theorem ii_X3 : Cond.initialized RX3 ∈ gT := (gT_c1 (List.mem_of_getElem? (i := 5) (by decide +kernel)) (by decide +kernel))
theorem n_obj4 (E : CX p s m args meth c own cc nL ret) (hK : KK D cy s) (hw : WK D cy T v A0 H0 H locs) (hA : ∀ x, H0.size ≤ x → A0 x) {ix : Nat} (hl : Cond.classLink own ix RX3 ∈ gT) (hcl : cells + 1 ≤ R.cells) (hsl : slots + 7 ≤ R.slots) (pc' : Nat) (hp : pc + 3 = pc') (hdg : decode cc pc = .ok (.new ix, 3))
    (kk : ∀ (q : Nat) (T2 : Nat → Nat → Nat) (H1 : Heap), H.size ≤ q → (∀ b, b ≠ q → ∀ k, T2 k b = T k b) → OW T T2 H.size → T2 0 q = 104 → WK D cy T2 (upV (upV (upV (upV (upV v 80 (upB (v 80) q 0)) 81 (upB (v 81) q 0)) 83 (upB (v 83) q 0)) 84 (upB (v 84) q 0)) 86 (upB (v 86) q 0)) A0 H0 H1 locs → W p l e R s m args below meth c H1 locs (cells + 1) (slots + 7) Q (F0 m pc' ls (.ref q :: rest))) : W p l e R s m args below meth c H locs cells slots Q (F0 m pc ls rest) := by
  subst hp
  have hts := E.2.2.2.2.1
  have hKn := hK.1 4 (RX3, TX3, 7) rfl
  refine W.newcK E.1 E.2.1 E.2.2.2.1 (hts _ hl) (hts _ it_X3) (hts _ ii_X3) rfl hdg hcl hsl hKn.2.1 rfl fun H1 kC hkC e1 z1 o1 => ?_
  have hat : va_at D vwCl (H.size, .inr (4, [.int 0, .int 0, .null, .int 0, .int 0, .null, .int 0])) H1 := ⟨_, rfl, (u_born tyX3 hts in_X3 hKn hkC e1 tyX3_ok).to (by intro j hj; rcases j with _ | j; rfl; rcases j with _ | j; rfl; rcases j with _ | j; rfl; rcases j with _ | j; rfl; rcases j with _ | j; rfl; rcases j with _ | j; rfl; rcases j with _ | j; rfl; omega)⟩
  have e0 : (0 : Int32) = J 0 := J_0.symm
  generalize hq : H.size = q at *
  let v2 : Nat → Nat → Int := upV (upV (upV (upV (upV v 80 (upB (v 80) q 0)) 81 (upB (v 81) q 0)) 83 (upB (v 83) q 0)) 84 (upB (v 84) q 0)) 86 (upB (v 86) q 0)
  have hv2 : v2 = upV (upV (upV (upV (upV v 80 (upB (v 80) q 0)) 81 (upB (v 81) q 0)) 83 (upB (v 83) q 0)) 84 (upB (v 84) q 0)) 86 (upB (v 86) q 0) := rfl
  have hu : ∀ t b, b < q → ∀ i, v2 (280 + t) (pr b i) = v (280 + t) (pr b i) := by
    intro t b _ i
    simp only [hv2, upV]
    (repeat' split) <;> first | rfl | omega
  have hv : ∀ k b, b < q → v2 k b = v k b := by
    intro k b hb
    have hne : b ≠ q := by omega
    show v2 k b = v k b
    simp only [hv2, upV]
    (repeat' split) <;> first | rfl | (subst_vars; exact upB_ne hne)
  have hR2 : ∀ k b, inR (v2 k b) := by
    intro k b
    simp only [hv2, upV]
    (repeat' split) <;> first | exact hw.1.2.2.2 _ _ | exact upB_R (fun b => hw.1.2.2.2 _ b) inR0 b
  have hw2 : WC D cy T v2 H := cw_vq hw.1 (fun k _ b hb => hv k b (by rw [hq] at hb; exact hb)) (fun t b hb => hu t b (by rw [hq] at hb; exact hb)) hR2
  have hw3 : WC D cy (upT T q (fun k => if k = 0 then 104 else 0)) v2 H1 := by
    refine cw_set hw2 (Or.inl (by rw [hq]; exact Nat.le_refl _)) (fun b hb _ => o1 b (by rw [hq] at hb; exact hb)) (by decide) (fun e he => ?_) trivial (fun h => absurd (show 104 = 10 from h) (by decide)) (show 104 ≠ 26 by decide)
    cases he
    show va_at D vwCl (q, .inr (4, [.int (J (upB (v 80) q 0 q)), .int (J (upB (v 81) q 0 q)), .null, .int (J (upB (v 83) q 0 q)), .int (J (upB (v 84) q 0 q)), .null, .int (J (upB (v 86) q 0 q))])) H1
    simp only [upB_same]
    rw [J_0]
    exact hat
  refine kk q _ H1 (Nat.le_refl _) (fun b hb k => upT_ne k hb) (ow_nw (Nat.le_refl _) (show 104 ≠ 26 by decide)) (upT_at _ _ _ _) ⟨hw3, fun b h => (ow_new (Nat.le_refl _) b h).elim (hw.2.1 b) (fun z => hA b (Nat.le_trans hw.2.2.1 (by rw [hq]; exact z))), ⟨Nat.le_trans hw.2.2.1 (by omega), fun b h1 h2 => (o1 b (by have := hw.2.2.1; omega)).trans (hw.2.2.2.1 b h1 h2), hw.2.2.2.2⟩⟩
theorem it_X4 : Cond.instantiable RX4 4 ∈ gT := (gT_c1 (List.mem_of_getElem? (i := 117) (by decide +kernel)) (by decide +kernel))
theorem ii_X4 : Cond.initialized RX4 ∈ gT := (gT_c1 (List.mem_of_getElem? (i := 7) (by decide +kernel)) (by decide +kernel))
theorem n_obj5 (E : CX p s m args meth c own cc nL ret) (hK : KK D cy s) (hw : WK D cy T v A0 H0 H locs) (hA : ∀ x, H0.size ≤ x → A0 x) {ix : Nat} (hl : Cond.classLink own ix RX4 ∈ gT) (hcl : cells + 1 ≤ R.cells) (hsl : slots + 4 ≤ R.slots) (pc' : Nat) (hp : pc + 3 = pc') (hdg : decode cc pc = .ok (.new ix, 3))
    (kk : ∀ (q : Nat) (T2 : Nat → Nat → Nat) (H1 : Heap), H.size ≤ q → (∀ b, b ≠ q → ∀ k, T2 k b = T k b) → OW T T2 H.size → T2 0 q = 105 → WK D cy T2 (upV v 103 (upB (v 103) q 0)) A0 H0 H1 locs → W p l e R s m args below meth c H1 locs (cells + 1) (slots + 4) Q (F0 m pc' ls (.ref q :: rest))) : W p l e R s m args below meth c H locs cells slots Q (F0 m pc ls rest) := by
  subst hp
  have hts := E.2.2.2.2.1
  have hKn := hK.1 5 (RX4, TX4, 4) rfl
  refine W.newcK E.1 E.2.1 E.2.2.2.1 (hts _ hl) (hts _ it_X4) (hts _ ii_X4) rfl hdg hcl hsl hKn.2.1 rfl fun H1 kC hkC e1 z1 o1 => ?_
  have hat : va_at D vwCl (H.size, .inr (5, [.null, .null, .null, .int 0])) H1 := ⟨_, rfl, (u_born tyX4 hts in_X4 hKn hkC e1 tyX4_ok).to (by intro j hj; rcases j with _ | j; rfl; rcases j with _ | j; rfl; rcases j with _ | j; rfl; rcases j with _ | j; rfl; omega)⟩
  have e0 : (0 : Int32) = J 0 := J_0.symm
  generalize hq : H.size = q at *
  let v2 : Nat → Nat → Int := upV v 103 (upB (v 103) q 0)
  have hv2 : v2 = upV v 103 (upB (v 103) q 0) := rfl
  have hu : ∀ t b, b < q → ∀ i, v2 (280 + t) (pr b i) = v (280 + t) (pr b i) := by
    intro t b _ i
    simp only [hv2, upV]
    (repeat' split) <;> first | rfl | omega
  have hv : ∀ k b, b < q → v2 k b = v k b := by
    intro k b hb
    have hne : b ≠ q := by omega
    show v2 k b = v k b
    simp only [hv2, upV]
    (repeat' split) <;> first | rfl | (subst_vars; exact upB_ne hne)
  have hR2 : ∀ k b, inR (v2 k b) := by
    intro k b
    simp only [hv2, upV]
    (repeat' split) <;> first | exact hw.1.2.2.2 _ _ | exact upB_R (fun b => hw.1.2.2.2 _ b) inR0 b
  have hw2 : WC D cy T v2 H := cw_vq hw.1 (fun k _ b hb => hv k b (by rw [hq] at hb; exact hb)) (fun t b hb => hu t b (by rw [hq] at hb; exact hb)) hR2
  have hw3 : WC D cy (upT T q (fun k => if k = 0 then 105 else 0)) v2 H1 := by
    refine cw_set hw2 (Or.inl (by rw [hq]; exact Nat.le_refl _)) (fun b hb _ => o1 b (by rw [hq] at hb; exact hb)) (by decide) (fun e he => ?_) trivial (fun h => absurd (show 105 = 10 from h) (by decide)) (show 105 ≠ 26 by decide)
    cases he
    show va_at D vwCl (q, .inr (5, [.null, .null, .null, .int (J (upB (v 103) q 0 q))])) H1
    simp only [upB_same]
    rw [J_0]
    exact hat
  refine kk q _ H1 (Nat.le_refl _) (fun b hb k => upT_ne k hb) (ow_nw (Nat.le_refl _) (show 105 ≠ 26 by decide)) (upT_at _ _ _ _) ⟨hw3, fun b h => (ow_new (Nat.le_refl _) b h).elim (hw.2.1 b) (fun z => hA b (Nat.le_trans hw.2.2.1 (by rw [hq]; exact z))), ⟨Nat.le_trans hw.2.2.1 (by omega), fun b h1 h2 => (o1 b (by have := hw.2.2.1; omega)).trans (hw.2.2.2.1 b h1 h2), hw.2.2.2.2⟩⟩
theorem it_X5 : Cond.instantiable RX5 5 ∈ gT := (gT_c1 (List.mem_of_getElem? (i := 66) (by decide +kernel)) (by decide +kernel))
theorem ii_X5 : Cond.initialized RX5 ∈ gT := (gT_c1 (List.mem_of_getElem? (i := 6) (by decide +kernel)) (by decide +kernel))
theorem n_obj6 (E : CX p s m args meth c own cc nL ret) (hK : KK D cy s) (hw : WK D cy T v A0 H0 H locs) (hA : ∀ x, H0.size ≤ x → A0 x) {ix : Nat} (hl : Cond.classLink own ix RX5 ∈ gT) (hcl : cells + 1 ≤ R.cells) (hsl : slots + 5 ≤ R.slots) (pc' : Nat) (hp : pc + 3 = pc') (hdg : decode cc pc = .ok (.new ix, 3))
    (kk : ∀ (q : Nat) (T2 : Nat → Nat → Nat) (H1 : Heap), H.size ≤ q → (∀ b, b ≠ q → ∀ k, T2 k b = T k b) → OW T T2 H.size → T2 0 q = 106 → WK D cy T2 (upV (upV v 123 (upB (v 123) q 0)) 124 (upB (v 124) q 0)) A0 H0 H1 locs → W p l e R s m args below meth c H1 locs (cells + 1) (slots + 5) Q (F0 m pc' ls (.ref q :: rest))) : W p l e R s m args below meth c H locs cells slots Q (F0 m pc ls rest) := by
  subst hp
  have hts := E.2.2.2.2.1
  have hKn := hK.1 6 (RX5, TX5, 5) rfl
  refine W.newcK E.1 E.2.1 E.2.2.2.1 (hts _ hl) (hts _ it_X5) (hts _ ii_X5) rfl hdg hcl hsl hKn.2.1 rfl fun H1 kC hkC e1 z1 o1 => ?_
  have hat : va_at D vwCl (H.size, .inr (6, [.null, .null, .null, .int 0, .int 0])) H1 := ⟨_, rfl, (u_born tyX5 hts in_X5 hKn hkC e1 tyX5_ok).to (by intro j hj; rcases j with _ | j; rfl; rcases j with _ | j; rfl; rcases j with _ | j; rfl; rcases j with _ | j; rfl; rcases j with _ | j; rfl; omega)⟩
  have e0 : (0 : Int32) = J 0 := J_0.symm
  generalize hq : H.size = q at *
  let v2 : Nat → Nat → Int := upV (upV v 123 (upB (v 123) q 0)) 124 (upB (v 124) q 0)
  have hv2 : v2 = upV (upV v 123 (upB (v 123) q 0)) 124 (upB (v 124) q 0) := rfl
  have hu : ∀ t b, b < q → ∀ i, v2 (280 + t) (pr b i) = v (280 + t) (pr b i) := by
    intro t b _ i
    simp only [hv2, upV]
    (repeat' split) <;> first | rfl | omega
  have hv : ∀ k b, b < q → v2 k b = v k b := by
    intro k b hb
    have hne : b ≠ q := by omega
    show v2 k b = v k b
    simp only [hv2, upV]
    (repeat' split) <;> first | rfl | (subst_vars; exact upB_ne hne)
  have hR2 : ∀ k b, inR (v2 k b) := by
    intro k b
    simp only [hv2, upV]
    (repeat' split) <;> first | exact hw.1.2.2.2 _ _ | exact upB_R (fun b => hw.1.2.2.2 _ b) inR0 b
  have hw2 : WC D cy T v2 H := cw_vq hw.1 (fun k _ b hb => hv k b (by rw [hq] at hb; exact hb)) (fun t b hb => hu t b (by rw [hq] at hb; exact hb)) hR2
  have hw3 : WC D cy (upT T q (fun k => if k = 0 then 106 else 0)) v2 H1 := by
    refine cw_set hw2 (Or.inl (by rw [hq]; exact Nat.le_refl _)) (fun b hb _ => o1 b (by rw [hq] at hb; exact hb)) (by decide) (fun e he => ?_) trivial (fun h => absurd (show 106 = 10 from h) (by decide)) (show 106 ≠ 26 by decide)
    cases he
    show va_at D vwCl (q, .inr (6, [.null, .null, .null, .int (J (upB (v 123) q 0 q)), .int (J (upB (v 124) q 0 q))])) H1
    simp only [upB_same]
    rw [J_0]
    exact hat
  refine kk q _ H1 (Nat.le_refl _) (fun b hb k => upT_ne k hb) (ow_nw (Nat.le_refl _) (show 106 ≠ 26 by decide)) (upT_at _ _ _ _) ⟨hw3, fun b h => (ow_new (Nat.le_refl _) b h).elim (hw.2.1 b) (fun z => hA b (Nat.le_trans hw.2.2.1 (by rw [hq]; exact z))), ⟨Nat.le_trans hw.2.2.1 (by omega), fun b h1 h2 => (o1 b (by have := hw.2.2.1; omega)).trans (hw.2.2.2.1 b h1 h2), hw.2.2.2.2⟩⟩
theorem it_X6 : Cond.instantiable RX6 7 ∈ gT := (gT_c4 (List.mem_of_getElem? (i := 138) (by decide +kernel)) (by decide +kernel))
theorem ii_X6 : Cond.initialized RX6 ∈ gT := (gT_c1 (List.mem_of_getElem? (i := 23) (by decide +kernel)) (by decide +kernel))
theorem n_obj7 (E : CX p s m args meth c own cc nL ret) (hK : KK D cy s) (hw : WK D cy T v A0 H0 H locs) (hA : ∀ x, H0.size ≤ x → A0 x) {ix : Nat} (hl : Cond.classLink own ix RX6 ∈ gT) (hcl : cells + 1 ≤ R.cells) (hsl : slots + 7 ≤ R.slots) (pc' : Nat) (hp : pc + 3 = pc') (hdg : decode cc pc = .ok (.new ix, 3))
    (kk : ∀ (q : Nat) (T2 : Nat → Nat → Nat) (H1 : Heap), H.size ≤ q → (∀ b, b ≠ q → ∀ k, T2 k b = T k b) → OW T T2 H.size → T2 0 q = 107 → WK D cy T2 (upV (upV (upV (upV (upV (upV (upV v 140 (upB (v 140) q 0)) 141 (upB (v 141) q 0)) 142 (upB (v 142) q 0)) 143 (upB (v 143) q 0)) 144 (upB (v 144) q 0)) 145 (upB (v 145) q 0)) 146 (upB (v 146) q 0)) A0 H0 H1 locs → W p l e R s m args below meth c H1 locs (cells + 1) (slots + 7) Q (F0 m pc' ls (.ref q :: rest))) : W p l e R s m args below meth c H locs cells slots Q (F0 m pc ls rest) := by
  subst hp
  have hts := E.2.2.2.2.1
  have hKn := hK.1 7 (RX6, TX6, 7) rfl
  refine W.newcK E.1 E.2.1 E.2.2.2.1 (hts _ hl) (hts _ it_X6) (hts _ ii_X6) rfl hdg hcl hsl hKn.2.1 rfl fun H1 kC hkC e1 z1 o1 => ?_
  have hat : va_at D vwCl (H.size, .inr (7, [.int 0, .int 0, .int 0, .int 0, .int 0, .int 0, .int 0])) H1 := ⟨_, rfl, (u_born tyX6 hts in_X6 hKn hkC e1 tyX6_ok).to (by intro j hj; rcases j with _ | j; rfl; rcases j with _ | j; rfl; rcases j with _ | j; rfl; rcases j with _ | j; rfl; rcases j with _ | j; rfl; rcases j with _ | j; rfl; rcases j with _ | j; rfl; omega)⟩
  have e0 : (0 : Int32) = J 0 := J_0.symm
  generalize hq : H.size = q at *
  let v2 : Nat → Nat → Int := upV (upV (upV (upV (upV (upV (upV v 140 (upB (v 140) q 0)) 141 (upB (v 141) q 0)) 142 (upB (v 142) q 0)) 143 (upB (v 143) q 0)) 144 (upB (v 144) q 0)) 145 (upB (v 145) q 0)) 146 (upB (v 146) q 0)
  have hv2 : v2 = upV (upV (upV (upV (upV (upV (upV v 140 (upB (v 140) q 0)) 141 (upB (v 141) q 0)) 142 (upB (v 142) q 0)) 143 (upB (v 143) q 0)) 144 (upB (v 144) q 0)) 145 (upB (v 145) q 0)) 146 (upB (v 146) q 0) := rfl
  have hu : ∀ t b, b < q → ∀ i, v2 (280 + t) (pr b i) = v (280 + t) (pr b i) := by
    intro t b _ i
    simp only [hv2, upV]
    (repeat' split) <;> first | rfl | omega
  have hv : ∀ k b, b < q → v2 k b = v k b := by
    intro k b hb
    have hne : b ≠ q := by omega
    show v2 k b = v k b
    simp only [hv2, upV]
    (repeat' split) <;> first | rfl | (subst_vars; exact upB_ne hne)
  have hR2 : ∀ k b, inR (v2 k b) := by
    intro k b
    simp only [hv2, upV]
    (repeat' split) <;> first | exact hw.1.2.2.2 _ _ | exact upB_R (fun b => hw.1.2.2.2 _ b) inR0 b
  have hw2 : WC D cy T v2 H := cw_vq hw.1 (fun k _ b hb => hv k b (by rw [hq] at hb; exact hb)) (fun t b hb => hu t b (by rw [hq] at hb; exact hb)) hR2
  have hw3 : WC D cy (upT T q (fun k => if k = 0 then 107 else 0)) v2 H1 := by
    refine cw_set hw2 (Or.inl (by rw [hq]; exact Nat.le_refl _)) (fun b hb _ => o1 b (by rw [hq] at hb; exact hb)) (by decide) (fun e he => ?_) trivial (fun h => absurd (show 107 = 10 from h) (by decide)) (show 107 ≠ 26 by decide)
    cases he
    show va_at D vwCl (q, .inr (7, [.int (J (upB (v 140) q 0 q)), .int (J (upB (v 141) q 0 q)), .int (J (upB (v 142) q 0 q)), .int (J (upB (v 143) q 0 q)), .int (J (upB (v 144) q 0 q)), .int (J (upB (v 145) q 0 q)), .int (J (upB (v 146) q 0 q))])) H1
    simp only [upB_same]
    rw [J_0]
    exact hat
  refine kk q _ H1 (Nat.le_refl _) (fun b hb k => upT_ne k hb) (ow_nw (Nat.le_refl _) (show 107 ≠ 26 by decide)) (upT_at _ _ _ _) ⟨hw3, fun b h => (ow_new (Nat.le_refl _) b h).elim (hw.2.1 b) (fun z => hA b (Nat.le_trans hw.2.2.1 (by rw [hq]; exact z))), ⟨Nat.le_trans hw.2.2.1 (by omega), fun b h1 h2 => (o1 b (by have := hw.2.2.1; omega)).trans (hw.2.2.2.1 b h1 h2), hw.2.2.2.2⟩⟩
theorem it_X7 : Cond.instantiable RX7 4 ∈ gT := (gT_c3 (List.mem_of_getElem? (i := 54) (by decide +kernel)) (by decide +kernel))
theorem ii_X7 : Cond.initialized RX7 ∈ gT := (gT_c1 (List.mem_of_getElem? (i := 20) (by decide +kernel)) (by decide +kernel))
theorem n_obj8 (E : CX p s m args meth c own cc nL ret) (hK : KK D cy s) (hw : WK D cy T v A0 H0 H locs) (hA : ∀ x, H0.size ≤ x → A0 x) {ix : Nat} (hl : Cond.classLink own ix RX7 ∈ gT) (hcl : cells + 1 ≤ R.cells) (hsl : slots + 4 ≤ R.slots) (pc' : Nat) (hp : pc + 3 = pc') (hdg : decode cc pc = .ok (.new ix, 3))
    (kk : ∀ (q : Nat) (T2 : Nat → Nat → Nat) (H1 : Heap), H.size ≤ q → (∀ b, b ≠ q → ∀ k, T2 k b = T k b) → OW T T2 H.size → T2 0 q = 108 → WK D cy T2 (upV v 160 (upB (v 160) q 0)) A0 H0 H1 locs → W p l e R s m args below meth c H1 locs (cells + 1) (slots + 4) Q (F0 m pc' ls (.ref q :: rest))) : W p l e R s m args below meth c H locs cells slots Q (F0 m pc ls rest) := by
  subst hp
  have hts := E.2.2.2.2.1
  have hKn := hK.1 8 (RX7, TX7, 4) rfl
  refine W.newcK E.1 E.2.1 E.2.2.2.1 (hts _ hl) (hts _ it_X7) (hts _ ii_X7) rfl hdg hcl hsl hKn.2.1 rfl fun H1 kC hkC e1 z1 o1 => ?_
  have hat : va_at D vwCl (H.size, .inr (8, [.int 0, .null, .null, .null])) H1 := ⟨_, rfl, (u_born tyX7 hts in_X7 hKn hkC e1 tyX7_ok).to (by intro j hj; rcases j with _ | j; rfl; rcases j with _ | j; rfl; rcases j with _ | j; rfl; rcases j with _ | j; rfl; omega)⟩
  have e0 : (0 : Int32) = J 0 := J_0.symm
  generalize hq : H.size = q at *
  let v2 : Nat → Nat → Int := upV v 160 (upB (v 160) q 0)
  have hv2 : v2 = upV v 160 (upB (v 160) q 0) := rfl
  have hu : ∀ t b, b < q → ∀ i, v2 (280 + t) (pr b i) = v (280 + t) (pr b i) := by
    intro t b _ i
    simp only [hv2, upV]
    (repeat' split) <;> first | rfl | omega
  have hv : ∀ k b, b < q → v2 k b = v k b := by
    intro k b hb
    have hne : b ≠ q := by omega
    show v2 k b = v k b
    simp only [hv2, upV]
    (repeat' split) <;> first | rfl | (subst_vars; exact upB_ne hne)
  have hR2 : ∀ k b, inR (v2 k b) := by
    intro k b
    simp only [hv2, upV]
    (repeat' split) <;> first | exact hw.1.2.2.2 _ _ | exact upB_R (fun b => hw.1.2.2.2 _ b) inR0 b
  have hw2 : WC D cy T v2 H := cw_vq hw.1 (fun k _ b hb => hv k b (by rw [hq] at hb; exact hb)) (fun t b hb => hu t b (by rw [hq] at hb; exact hb)) hR2
  have hw3 : WC D cy (upT T q (fun k => if k = 0 then 108 else 0)) v2 H1 := by
    refine cw_set hw2 (Or.inl (by rw [hq]; exact Nat.le_refl _)) (fun b hb _ => o1 b (by rw [hq] at hb; exact hb)) (by decide) (fun e he => ?_) trivial (fun h => absurd (show 108 = 10 from h) (by decide)) (show 108 ≠ 26 by decide)
    cases he
    show va_at D vwCl (q, .inr (8, [.int (J (upB (v 160) q 0 q)), .null, .null, .null])) H1
    simp only [upB_same]
    rw [J_0]
    exact hat
  refine kk q _ H1 (Nat.le_refl _) (fun b hb k => upT_ne k hb) (ow_nw (Nat.le_refl _) (show 108 ≠ 26 by decide)) (upT_at _ _ _ _) ⟨hw3, fun b h => (ow_new (Nat.le_refl _) b h).elim (hw.2.1 b) (fun z => hA b (Nat.le_trans hw.2.2.1 (by rw [hq]; exact z))), ⟨Nat.le_trans hw.2.2.1 (by omega), fun b h1 h2 => (o1 b (by have := hw.2.2.1; omega)).trans (hw.2.2.2.1 b h1 h2), hw.2.2.2.2⟩⟩
theorem it_X9 : Cond.instantiable RX9 18 ∈ gT := (gT_c1 (List.mem_of_getElem? (i := 26) (by decide +kernel)) (by decide +kernel))
theorem ii_X9 : Cond.initialized RX9 ∈ gT := (gT_c1 (List.mem_of_getElem? (i := 1) (by decide +kernel)) (by decide +kernel))
theorem n_obj9 (E : CX p s m args meth c own cc nL ret) (hK : KK D cy s) (hw : WK D cy T v A0 H0 H locs) (hA : ∀ x, H0.size ≤ x → A0 x) {ix : Nat} (hl : Cond.classLink own ix RX9 ∈ gT) (hcl : cells + 1 ≤ R.cells) (hsl : slots + 18 ≤ R.slots) (pc' : Nat) (hp : pc + 3 = pc') (hdg : decode cc pc = .ok (.new ix, 3))
    (kk : ∀ (q : Nat) (T2 : Nat → Nat → Nat) (H1 : Heap), H.size ≤ q → (∀ b, b ≠ q → ∀ k, T2 k b = T k b) → OW T T2 H.size → T2 0 q = 109 → WK D cy T2 (upV (upV (upV (upV (upV (upV v 186 (upB (v 186) q 0)) 187 (upB (v 187) q 0)) 188 (upB (v 188) q 0)) 189 (upB (v 189) q 0)) 190 (upB (v 190) q 0)) 191 (upB (v 191) q 0)) A0 H0 H1 locs → W p l e R s m args below meth c H1 locs (cells + 1) (slots + 18) Q (F0 m pc' ls (.ref q :: rest))) : W p l e R s m args below meth c H locs cells slots Q (F0 m pc ls rest) := by
  subst hp
  have hts := E.2.2.2.2.1
  have hKn := hK.1 9 (RX9, TX9, 18) rfl
  refine W.newcK E.1 E.2.1 E.2.2.2.1 (hts _ hl) (hts _ it_X9) (hts _ ii_X9) rfl hdg hcl hsl hKn.2.1 rfl fun H1 kC hkC e1 z1 o1 => ?_
  have hat : va_at D vwCl (H.size, .inr (9, [.null, .null, .null, .null, .null, .null, .int 0, .int 0, .int 0, .int 0, .int 0, .int 0, .null, .null, .null, .null, .null, .null])) H1 := ⟨_, rfl, (u_born tyX9 hts in_X9 hKn hkC e1 tyX9_ok).to (by intro j hj; rcases j with _ | j; rfl; rcases j with _ | j; rfl; rcases j with _ | j; rfl; rcases j with _ | j; rfl; rcases j with _ | j; rfl; rcases j with _ | j; rfl; rcases j with _ | j; rfl; rcases j with _ | j; rfl; rcases j with _ | j; rfl; rcases j with _ | j; rfl; rcases j with _ | j; rfl; rcases j with _ | j; rfl; rcases j with _ | j; rfl; rcases j with _ | j; rfl; rcases j with _ | j; rfl; rcases j with _ | j; rfl; rcases j with _ | j; rfl; rcases j with _ | j; rfl; omega)⟩
  have e0 : (0 : Int32) = J 0 := J_0.symm
  generalize hq : H.size = q at *
  let v2 : Nat → Nat → Int := upV (upV (upV (upV (upV (upV v 186 (upB (v 186) q 0)) 187 (upB (v 187) q 0)) 188 (upB (v 188) q 0)) 189 (upB (v 189) q 0)) 190 (upB (v 190) q 0)) 191 (upB (v 191) q 0)
  have hv2 : v2 = upV (upV (upV (upV (upV (upV v 186 (upB (v 186) q 0)) 187 (upB (v 187) q 0)) 188 (upB (v 188) q 0)) 189 (upB (v 189) q 0)) 190 (upB (v 190) q 0)) 191 (upB (v 191) q 0) := rfl
  have hu : ∀ t b, b < q → ∀ i, v2 (280 + t) (pr b i) = v (280 + t) (pr b i) := by
    intro t b _ i
    simp only [hv2, upV]
    (repeat' split) <;> first | rfl | omega
  have hv : ∀ k b, b < q → v2 k b = v k b := by
    intro k b hb
    have hne : b ≠ q := by omega
    show v2 k b = v k b
    simp only [hv2, upV]
    (repeat' split) <;> first | rfl | (subst_vars; exact upB_ne hne)
  have hR2 : ∀ k b, inR (v2 k b) := by
    intro k b
    simp only [hv2, upV]
    (repeat' split) <;> first | exact hw.1.2.2.2 _ _ | exact upB_R (fun b => hw.1.2.2.2 _ b) inR0 b
  have hw2 : WC D cy T v2 H := cw_vq hw.1 (fun k _ b hb => hv k b (by rw [hq] at hb; exact hb)) (fun t b hb => hu t b (by rw [hq] at hb; exact hb)) hR2
  have hw3 : WC D cy (upT T q (fun k => if k = 0 then 109 else 0)) v2 H1 := by
    refine cw_set hw2 (Or.inl (by rw [hq]; exact Nat.le_refl _)) (fun b hb _ => o1 b (by rw [hq] at hb; exact hb)) (by decide) (fun e he => ?_) trivial (fun h => absurd (show 109 = 10 from h) (by decide)) (show 109 ≠ 26 by decide)
    cases he
    show va_at D vwCl (q, .inr (9, [.null, .null, .null, .null, .null, .null, .int (J (upB (v 186) q 0 q)), .int (J (upB (v 187) q 0 q)), .int (J (upB (v 188) q 0 q)), .int (J (upB (v 189) q 0 q)), .int (J (upB (v 190) q 0 q)), .int (J (upB (v 191) q 0 q)), .null, .null, .null, .null, .null, .null])) H1
    simp only [upB_same]
    rw [J_0]
    exact hat
  refine kk q _ H1 (Nat.le_refl _) (fun b hb k => upT_ne k hb) (ow_nw (Nat.le_refl _) (show 109 ≠ 26 by decide)) (upT_at _ _ _ _) ⟨hw3, fun b h => (ow_new (Nat.le_refl _) b h).elim (hw.2.1 b) (fun z => hA b (Nat.le_trans hw.2.2.1 (by rw [hq]; exact z))), ⟨Nat.le_trans hw.2.2.1 (by omega), fun b h1 h2 => (o1 b (by have := hw.2.2.1; omega)).trans (hw.2.2.2.1 b h1 h2), hw.2.2.2.2⟩⟩
theorem it_Jx4a65c : Cond.instantiable RJx4a65c 3 ∈ gT := (gT_c1 (List.mem_of_getElem? (i := 34) (by decide +kernel)) (by decide +kernel))
theorem ii_Jx4a65c : Cond.initialized RJx4a65c ∈ gT := (gT_c1 (List.mem_of_getElem? (i := 4) (by decide +kernel)) (by decide +kernel))
theorem n_obj10 (E : CX p s m args meth c own cc nL ret) (hK : KK D cy s) (hw : WK D cy T v A0 H0 H locs) (hA : ∀ x, H0.size ≤ x → A0 x) {ix : Nat} (hl : Cond.classLink own ix RJx4a65c ∈ gT) (hcl : cells + 1 ≤ R.cells) (hsl : slots + 3 ≤ R.slots) (pc' : Nat) (hp : pc + 3 = pc') (hdg : decode cc pc = .ok (.new ix, 3))
    (kk : ∀ (q : Nat) (T2 : Nat → Nat → Nat) (H1 : Heap), H.size ≤ q → (∀ b, b ≠ q → ∀ k, T2 k b = T k b) → OW T T2 H.size → T2 0 q = 110 → WK D cy T2 (upV (upV v 200 (upB (v 200) q 0)) 202 (upB (v 202) q 0)) A0 H0 H1 locs → W p l e R s m args below meth c H1 locs (cells + 1) (slots + 3) Q (F0 m pc' ls (.ref q :: rest))) : W p l e R s m args below meth c H locs cells slots Q (F0 m pc ls rest) := by
  subst hp
  have hts := E.2.2.2.2.1
  have hKn := hK.1 0 (RJx4a65c, TJx4a65c, 3) rfl
  refine W.newcK E.1 E.2.1 E.2.2.2.1 (hts _ hl) (hts _ it_Jx4a65c) (hts _ ii_Jx4a65c) rfl hdg hcl hsl hKn.2.1 rfl fun H1 kC hkC e1 z1 o1 => ?_
  have hat : va_at D vwCl (H.size, .inr (0, [.int 0, .null, .int 0])) H1 := ⟨_, rfl, (u_born tyJx4a65c hts in_Jx4a65c hKn hkC e1 tyJx4a65c_ok).to (by intro j hj; rcases j with _ | j; rfl; rcases j with _ | j; rfl; rcases j with _ | j; rfl; omega)⟩
  have e0 : (0 : Int32) = J 0 := J_0.symm
  generalize hq : H.size = q at *
  let v2 : Nat → Nat → Int := upV (upV v 200 (upB (v 200) q 0)) 202 (upB (v 202) q 0)
  have hv2 : v2 = upV (upV v 200 (upB (v 200) q 0)) 202 (upB (v 202) q 0) := rfl
  have hu : ∀ t b, b < q → ∀ i, v2 (280 + t) (pr b i) = v (280 + t) (pr b i) := by
    intro t b _ i
    simp only [hv2, upV]
    (repeat' split) <;> first | rfl | omega
  have hv : ∀ k b, b < q → v2 k b = v k b := by
    intro k b hb
    have hne : b ≠ q := by omega
    show v2 k b = v k b
    simp only [hv2, upV]
    (repeat' split) <;> first | rfl | (subst_vars; exact upB_ne hne)
  have hR2 : ∀ k b, inR (v2 k b) := by
    intro k b
    simp only [hv2, upV]
    (repeat' split) <;> first | exact hw.1.2.2.2 _ _ | exact upB_R (fun b => hw.1.2.2.2 _ b) inR0 b
  have hw2 : WC D cy T v2 H := cw_vq hw.1 (fun k _ b hb => hv k b (by rw [hq] at hb; exact hb)) (fun t b hb => hu t b (by rw [hq] at hb; exact hb)) hR2
  have hw3 : WC D cy (upT T q (fun k => if k = 0 then 110 else 0)) v2 H1 := by
    refine cw_set hw2 (Or.inl (by rw [hq]; exact Nat.le_refl _)) (fun b hb _ => o1 b (by rw [hq] at hb; exact hb)) (by decide) (fun e he => ?_) trivial (fun h => absurd (show 110 = 10 from h) (by decide)) (show 110 ≠ 26 by decide)
    cases he
    show va_at D vwCl (q, .inr (0, [.int (J (upB (v 200) q 0 q)), .null, .int (J (upB (v 202) q 0 q))])) H1
    simp only [upB_same]
    rw [J_0]
    exact hat
  refine kk q _ H1 (Nat.le_refl _) (fun b hb k => upT_ne k hb) (ow_nw (Nat.le_refl _) (show 110 ≠ 26 by decide)) (upT_at _ _ _ _) ⟨hw3, fun b h => (ow_new (Nat.le_refl _) b h).elim (hw.2.1 b) (fun z => hA b (Nat.le_trans hw.2.2.1 (by rw [hq]; exact z))), ⟨Nat.le_trans hw.2.2.1 (by omega), fun b h1 h2 => (o1 b (by have := hw.2.2.1; omega)).trans (hw.2.2.2.1 b h1 h2), hw.2.2.2.2⟩⟩
theorem ac_chr : Cond.arrayClass .char ∈ gT := (gT_c1 (List.mem_of_getElem? (i := 90) (by decide +kernel)) (by decide +kernel))
theorem ac_byt : Cond.arrayClass .byte ∈ gT := (gT_c3 (List.mem_of_getElem? (i := 100) (by decide +kernel)) (by decide +kernel))
theorem n_arr20 (E : CX p s m args meth c own cc nL ret) (hK : KK D cy s) (hw : WK D cy T v A0 H0 H locs) (hA : ∀ x, H0.size ≤ x → A0 x) (w N : Nat) (hN : N < 20000) {z : Int} (hz : z = (N : Int)) (hcl : cells + 1 ≤ R.cells) (hsl : slots + N ≤ R.slots) (pc' : Nat) (hp : pc + 2 = pc') (hdg : decode cc pc = .ok (.newarray .int, 2))
    (kk : ∀ (q : Nat) (T2 : Nat → Nat → Nat) (y : Nat → Int) (H1 : Heap), H.size ≤ q → (∀ b, b ≠ q → ∀ k, T2 k b = T k b) → OW T T2 H.size → T2 0 q = 20 → T2 1 q = N → T2 3 q = w → (∀ i, y (pr q i) = 0) → (∀ b, b ≠ q → ∀ i, y (pr b i) = v 300 (pr b i)) → WK D cy T2 (upV v 300 y) A0 H0 H1 locs → W p l e R s m args below meth c H1 locs (cells + 1) (slots + N) Q (F0 m pc' ls (.ref q :: rest))) : W p l e R s m args below meth c H locs cells slots Q (F0 m pc ls (.int (J z) :: rest)) := by
  subst hp hz
  refine va_newaK E.1 E.2.1 (atype := .int) (E.2.2.2.2.1 _ ac_int) rfl hdg rfl (N := N) ?_ ?_ ?_ hcl hsl rfl fun H1 cA e1 z1 o1 hAr hNm => ?_
  · intro h
    have h2 := (J_lt (a := (N : Int)) (b := 0) ⟨by omega, by omega⟩ inR0).mp (by rw [J_0]; exact h)
    omega
  · rw [J_clamp (by omega) (by omega)]; omega
  · show N * _ ≤ _
    have : componentBytes (newarray.typeOf .int) ≤ 8 := by decide
    exact Nat.le_trans (Nat.mul_le_mul (Nat.le_of_lt hN) this) (by decide)
  have e0 : cA = cy 0 := by
    have h2 := (hK.2 0 (cy 0, .int) rfl).2
    exact Option.some.inj (hNm.symm.trans h2)
  subst e0
  obtain ⟨y, hy0, hy1, hyR⟩ := zrow (v 300) (fun x => hw.1.2.2.2 _ x) H.size
  have ey : upV v 300 y 300 = y := if_pos rfl
  have hw2 : WC D cy T (upV v 300 y) H := by
    refine cw_vq hw.1 (fun k hk b _ => ?_) (fun t b hb i => ?_) (fun k b => ?_)
    · unfold upV; rw [if_neg (by omega)]
    · unfold upV
      split
      · rename_i h; rw [h]; exact hy1 b (by omega) i
      · rfl
    · unfold upV
      split
      · exact hyR b
      · exact hw.1.2.2.2 k b
  have eg : rw_ (upV v 300 y) 20 H.size = fun _ => 0 := funext fun i => by
    show J (upV v 300 y 300 (pr H.size i)) = 0
    rw [ey, hy0]
    exact J_0
  have hw3 : WC D cy (upT T H.size (fun k => if k = 0 then 20 else if k = 1 then N else if k = 3 then w else 0)) (upV v 300 y) H1 := by
    refine cw_set hw2 (Or.inl (Nat.le_refl _)) (fun b hb _ => o1 b hb) (by show N < _; omega) (fun e he => ?_) trivial (fun h => absurd (show 20 = 10 from h) (by decide)) (show 20 ≠ 26 by decide)
    cases he
    show va_at D vwCl (H.size, .inl (cy 0, N, .inl (rw_ (upV v 300 y) 20 H.size))) H1
    rw [eg]
    exact e1
  exact kk H.size _ y H1 (Nat.le_refl _) (fun b hb k => upT_ne k hb) (ow_nw (Nat.le_refl _) (show 20 ≠ 26 by decide)) (upT_at _ _ _ _) (upT_at _ _ _ _) (upT_at _ _ _ _) hy0 hy1 ⟨hw3, fun b h => (ow_new (Nat.le_refl _) b h).elim (hw.2.1 b) (fun z => hA b (Nat.le_trans hw.2.2.1 z)), ⟨Nat.le_trans hw.2.2.1 (by omega), fun b h1 h2 => (o1 b (by have := hw.2.2.1; omega)).trans (hw.2.2.2.1 b h1 h2), hw.2.2.2.2⟩⟩
theorem n_arr21 (E : CX p s m args meth c own cc nL ret) (hK : KK D cy s) (hw : WK D cy T v A0 H0 H locs) (hA : ∀ x, H0.size ≤ x → A0 x) (w N : Nat) (hN : N < 20000) {z : Int} (hz : z = (N : Int)) (hcl : cells + 1 ≤ R.cells) (hsl : slots + N ≤ R.slots) (pc' : Nat) (hp : pc + 2 = pc') (hdg : decode cc pc = .ok (.newarray .boolean, 2))
    (kk : ∀ (q : Nat) (T2 : Nat → Nat → Nat) (y : Nat → Int) (H1 : Heap), H.size ≤ q → (∀ b, b ≠ q → ∀ k, T2 k b = T k b) → OW T T2 H.size → T2 0 q = 21 → T2 1 q = N → T2 3 q = w → (∀ i, y (pr q i) = 0) → (∀ b, b ≠ q → ∀ i, y (pr b i) = v 301 (pr b i)) → WK D cy T2 (upV v 301 y) A0 H0 H1 locs → W p l e R s m args below meth c H1 locs (cells + 1) (slots + N) Q (F0 m pc' ls (.ref q :: rest))) : W p l e R s m args below meth c H locs cells slots Q (F0 m pc ls (.int (J z) :: rest)) := by
  subst hp hz
  refine va_newaK E.1 E.2.1 (atype := .boolean) (E.2.2.2.2.1 _ ac_bool) rfl hdg rfl (N := N) ?_ ?_ ?_ hcl hsl rfl fun H1 cA e1 z1 o1 hAr hNm => ?_
  · intro h
    have h2 := (J_lt (a := (N : Int)) (b := 0) ⟨by omega, by omega⟩ inR0).mp (by rw [J_0]; exact h)
    omega
  · rw [J_clamp (by omega) (by omega)]; omega
  · show N * _ ≤ _
    have : componentBytes (newarray.typeOf .boolean) ≤ 8 := by decide
    exact Nat.le_trans (Nat.mul_le_mul (Nat.le_of_lt hN) this) (by decide)
  have e0 : cA = cy 1 := by
    have h2 := (hK.2 1 (cy 1, .boolean) rfl).2
    exact Option.some.inj (hNm.symm.trans h2)
  subst e0
  obtain ⟨y, hy0, hy1, hyR⟩ := zrow (v 301) (fun x => hw.1.2.2.2 _ x) H.size
  have ey : upV v 301 y 301 = y := if_pos rfl
  have hw2 : WC D cy T (upV v 301 y) H := by
    refine cw_vq hw.1 (fun k hk b _ => ?_) (fun t b hb i => ?_) (fun k b => ?_)
    · unfold upV; rw [if_neg (by omega)]
    · unfold upV
      split
      · rename_i h; rw [h]; exact hy1 b (by omega) i
      · rfl
    · unfold upV
      split
      · exact hyR b
      · exact hw.1.2.2.2 k b
  have eg : rw_ (upV v 301 y) 21 H.size = fun _ => 0 := funext fun i => by
    show J (upV v 301 y 301 (pr H.size i)) = 0
    rw [ey, hy0]
    exact J_0
  have hw3 : WC D cy (upT T H.size (fun k => if k = 0 then 21 else if k = 1 then N else if k = 3 then w else 0)) (upV v 301 y) H1 := by
    refine cw_set hw2 (Or.inl (Nat.le_refl _)) (fun b hb _ => o1 b hb) (by show N < _; omega) (fun e he => ?_) trivial (fun h => absurd (show 21 = 10 from h) (by decide)) (show 21 ≠ 26 by decide)
    cases he
    show va_at D vwCl (H.size, .inl (cy 1, N, .inl (rw_ (upV v 301 y) 21 H.size))) H1
    rw [eg]
    exact e1
  exact kk H.size _ y H1 (Nat.le_refl _) (fun b hb k => upT_ne k hb) (ow_nw (Nat.le_refl _) (show 21 ≠ 26 by decide)) (upT_at _ _ _ _) (upT_at _ _ _ _) (upT_at _ _ _ _) hy0 hy1 ⟨hw3, fun b h => (ow_new (Nat.le_refl _) b h).elim (hw.2.1 b) (fun z => hA b (Nat.le_trans hw.2.2.1 z)), ⟨Nat.le_trans hw.2.2.1 (by omega), fun b h1 h2 => (o1 b (by have := hw.2.2.1; omega)).trans (hw.2.2.2.1 b h1 h2), hw.2.2.2.2⟩⟩
theorem n_arr22 (E : CX p s m args meth c own cc nL ret) (hK : KK D cy s) (hw : WK D cy T v A0 H0 H locs) (hA : ∀ x, H0.size ≤ x → A0 x) (w N : Nat) (hN : N < 20000) {z : Int} (hz : z = (N : Int)) (hcl : cells + 1 ≤ R.cells) (hsl : slots + N ≤ R.slots) (pc' : Nat) (hp : pc + 2 = pc') (hdg : decode cc pc = .ok (.newarray .byte, 2))
    (kk : ∀ (q : Nat) (T2 : Nat → Nat → Nat) (y : Nat → Int) (H1 : Heap), H.size ≤ q → (∀ b, b ≠ q → ∀ k, T2 k b = T k b) → OW T T2 H.size → T2 0 q = 22 → T2 1 q = N → T2 3 q = w → (∀ i, y (pr q i) = 0) → (∀ b, b ≠ q → ∀ i, y (pr b i) = v 302 (pr b i)) → WK D cy T2 (upV v 302 y) A0 H0 H1 locs → W p l e R s m args below meth c H1 locs (cells + 1) (slots + N) Q (F0 m pc' ls (.ref q :: rest))) : W p l e R s m args below meth c H locs cells slots Q (F0 m pc ls (.int (J z) :: rest)) := by
  subst hp hz
  refine va_newaK E.1 E.2.1 (atype := .byte) (E.2.2.2.2.1 _ ac_byt) rfl hdg rfl (N := N) ?_ ?_ ?_ hcl hsl rfl fun H1 cA e1 z1 o1 hAr hNm => ?_
  · intro h
    have h2 := (J_lt (a := (N : Int)) (b := 0) ⟨by omega, by omega⟩ inR0).mp (by rw [J_0]; exact h)
    omega
  · rw [J_clamp (by omega) (by omega)]; omega
  · show N * _ ≤ _
    have : componentBytes (newarray.typeOf .byte) ≤ 8 := by decide
    exact Nat.le_trans (Nat.mul_le_mul (Nat.le_of_lt hN) this) (by decide)
  have e0 : cA = cy 2 := by
    have h2 := (hK.2 2 (cy 2, .byte) rfl).2
    exact Option.some.inj (hNm.symm.trans h2)
  subst e0
  obtain ⟨y, hy0, hy1, hyR⟩ := zrow (v 302) (fun x => hw.1.2.2.2 _ x) H.size
  have ey : upV v 302 y 302 = y := if_pos rfl
  have hw2 : WC D cy T (upV v 302 y) H := by
    refine cw_vq hw.1 (fun k hk b _ => ?_) (fun t b hb i => ?_) (fun k b => ?_)
    · unfold upV; rw [if_neg (by omega)]
    · unfold upV
      split
      · rename_i h; rw [h]; exact hy1 b (by omega) i
      · rfl
    · unfold upV
      split
      · exact hyR b
      · exact hw.1.2.2.2 k b
  have eg : rw_ (upV v 302 y) 22 H.size = fun _ => 0 := funext fun i => by
    show J (upV v 302 y 302 (pr H.size i)) = 0
    rw [ey, hy0]
    exact J_0
  have hw3 : WC D cy (upT T H.size (fun k => if k = 0 then 22 else if k = 1 then N else if k = 3 then w else 0)) (upV v 302 y) H1 := by
    refine cw_set hw2 (Or.inl (Nat.le_refl _)) (fun b hb _ => o1 b hb) (by show N < _; omega) (fun e he => ?_) trivial (fun h => absurd (show 22 = 10 from h) (by decide)) (show 22 ≠ 26 by decide)
    cases he
    show va_at D vwCl (H.size, .inl (cy 2, N, .inl (rw_ (upV v 302 y) 22 H.size))) H1
    rw [eg]
    exact e1
  exact kk H.size _ y H1 (Nat.le_refl _) (fun b hb k => upT_ne k hb) (ow_nw (Nat.le_refl _) (show 22 ≠ 26 by decide)) (upT_at _ _ _ _) (upT_at _ _ _ _) (upT_at _ _ _ _) hy0 hy1 ⟨hw3, fun b h => (ow_new (Nat.le_refl _) b h).elim (hw.2.1 b) (fun z => hA b (Nat.le_trans hw.2.2.1 z)), ⟨Nat.le_trans hw.2.2.1 (by omega), fun b h1 h2 => (o1 b (by have := hw.2.2.1; omega)).trans (hw.2.2.2.1 b h1 h2), hw.2.2.2.2⟩⟩
theorem n_arr23 (E : CX p s m args meth c own cc nL ret) (hK : KK D cy s) (hw : WK D cy T v A0 H0 H locs) (hA : ∀ x, H0.size ≤ x → A0 x) (w N : Nat) (hN : N < 20000) {z : Int} (hz : z = (N : Int)) (hcl : cells + 1 ≤ R.cells) (hsl : slots + N ≤ R.slots) (pc' : Nat) (hp : pc + 2 = pc') (hdg : decode cc pc = .ok (.newarray .char, 2))
    (kk : ∀ (q : Nat) (T2 : Nat → Nat → Nat) (y : Nat → Int) (H1 : Heap), H.size ≤ q → (∀ b, b ≠ q → ∀ k, T2 k b = T k b) → OW T T2 H.size → T2 0 q = 23 → T2 1 q = N → T2 3 q = w → (∀ i, y (pr q i) = 0) → (∀ b, b ≠ q → ∀ i, y (pr b i) = v 303 (pr b i)) → WK D cy T2 (upV v 303 y) A0 H0 H1 locs → W p l e R s m args below meth c H1 locs (cells + 1) (slots + N) Q (F0 m pc' ls (.ref q :: rest))) : W p l e R s m args below meth c H locs cells slots Q (F0 m pc ls (.int (J z) :: rest)) := by
  subst hp hz
  refine va_newaK E.1 E.2.1 (atype := .char) (E.2.2.2.2.1 _ ac_chr) rfl hdg rfl (N := N) ?_ ?_ ?_ hcl hsl rfl fun H1 cA e1 z1 o1 hAr hNm => ?_
  · intro h
    have h2 := (J_lt (a := (N : Int)) (b := 0) ⟨by omega, by omega⟩ inR0).mp (by rw [J_0]; exact h)
    omega
  · rw [J_clamp (by omega) (by omega)]; omega
  · show N * _ ≤ _
    have : componentBytes (newarray.typeOf .char) ≤ 8 := by decide
    exact Nat.le_trans (Nat.mul_le_mul (Nat.le_of_lt hN) this) (by decide)
  have e0 : cA = cy 3 := by
    have h2 := (hK.2 3 (cy 3, .char) rfl).2
    exact Option.some.inj (hNm.symm.trans h2)
  subst e0
  obtain ⟨y, hy0, hy1, hyR⟩ := zrow (v 303) (fun x => hw.1.2.2.2 _ x) H.size
  have ey : upV v 303 y 303 = y := if_pos rfl
  have hw2 : WC D cy T (upV v 303 y) H := by
    refine cw_vq hw.1 (fun k hk b _ => ?_) (fun t b hb i => ?_) (fun k b => ?_)
    · unfold upV; rw [if_neg (by omega)]
    · unfold upV
      split
      · rename_i h; rw [h]; exact hy1 b (by omega) i
      · rfl
    · unfold upV
      split
      · exact hyR b
      · exact hw.1.2.2.2 k b
  have eg : rw_ (upV v 303 y) 23 H.size = fun _ => 0 := funext fun i => by
    show J (upV v 303 y 303 (pr H.size i)) = 0
    rw [ey, hy0]
    exact J_0
  have hw3 : WC D cy (upT T H.size (fun k => if k = 0 then 23 else if k = 1 then N else if k = 3 then w else 0)) (upV v 303 y) H1 := by
    refine cw_set hw2 (Or.inl (Nat.le_refl _)) (fun b hb _ => o1 b hb) (by show N < _; omega) (fun e he => ?_) trivial (fun h => absurd (show 23 = 10 from h) (by decide)) (show 23 ≠ 26 by decide)
    cases he
    show va_at D vwCl (H.size, .inl (cy 3, N, .inl (rw_ (upV v 303 y) 23 H.size))) H1
    rw [eg]
    exact e1
  exact kk H.size _ y H1 (Nat.le_refl _) (fun b hb k => upT_ne k hb) (ow_nw (Nat.le_refl _) (show 23 ≠ 26 by decide)) (upT_at _ _ _ _) (upT_at _ _ _ _) (upT_at _ _ _ _) hy0 hy1 ⟨hw3, fun b h => (ow_new (Nat.le_refl _) b h).elim (hw.2.1 b) (fun z => hA b (Nat.le_trans hw.2.2.1 z)), ⟨Nat.le_trans hw.2.2.1 (by omega), fun b h1 h2 => (o1 b (by have := hw.2.2.1; omega)).trans (hw.2.2.2.1 b h1 h2), hw.2.2.2.2⟩⟩
theorem cw_rw1 (hw : WC D cy T v H) {a : Nat} (ht : T 0 a = 101) : va_at D vwCl (a, .inr (1, rF1 (fun k => T k a) (fun k => v k a))) H := by
  obtain ⟨γ, h⟩ := cw_at hw ht
  exact h _ rfl
theorem rp_20 (E : CX p s m args meth c RX0 cc nL ret) (hK : KK D cy s) (hw : WK D cy T v A0 H0 H locs) (hin : meth.name = "<init>") {ix : Nat} (hl : Cond.fieldLink RX0 ix RX0 (TX0 0).2.1 (TX0 0).2.2.1 ∈ gT) {a : Nat} (ht : T 0 a = 101) {z : Int} (hz : inR z) (pc' : Nat) (hp : pc + 3 = pc') (hdg : decode cc pc = .ok (.putfield ix, 3)) (kk : ∀ (H : Heap) (locs : List Loc), WK D cy T (upV v 20 (upB (v 20) a z)) A0 H0 H locs → W p l e R s m args below meth c H locs cells slots Q (F0 m pc' ls rest)) : W p l e R s m args below meth c H locs cells slots Q (F0 m pc ls (.int (J z) :: .ref a :: rest)) := by
  refine x_putF E hK hw.2.2 (hw.2.1 a ⟨by rw [ht]; decide, by rw [ht]; decide⟩) in_X0 tyX0 tyX0_ok nmX0 (ci := 1) rfl (cw_rw1 hw.1 ht) (k := 0) (by decide) hl (tx_X0 0 (by decide)) (by decide +kernel) hin (ty := .int) (by decide +kernel) rfl rfl (Nat.le_of_ble_eq_true rfl) pc' hp hdg (fun H1 locs1 hat hoth hsz hS => ?_)
  refine kk H1 locs1 ⟨cw_put hw.1 (by decide) ht hz hoth (show WL T v from hw.1.2.2.1) (fun γ e he => ?_), hw.2.1, hS⟩
  cases he
  show va_at D vwCl (a, .inr (1, [.int (J (upB (v 20) a z a)), .int (J (v 21 a)), .int (J (v 22 a)), .int (J (v 23 a)), .int (J (v 24 a)), .int (J (v 25 a)), va_rf (dcd (T 26 a))])) H1
  rw [upB_same]
  exact hat
theorem rp_21 (E : CX p s m args meth c RX0 cc nL ret) (hK : KK D cy s) (hw : WK D cy T v A0 H0 H locs) (hin : meth.name = "<init>") {ix : Nat} (hl : Cond.fieldLink RX0 ix RX0 (TX0 1).2.1 (TX0 1).2.2.1 ∈ gT) {a : Nat} (ht : T 0 a = 101) {z : Int} (hz : inR z) (hb : z = 0 ∨ z = 1) (pc' : Nat) (hp : pc + 3 = pc') (hdg : decode cc pc = .ok (.putfield ix, 3)) (kk : ∀ (H : Heap) (locs : List Loc), WK D cy T (upV v 21 (upB (v 21) a z)) A0 H0 H locs → W p l e R s m args below meth c H locs cells slots Q (F0 m pc' ls rest)) : W p l e R s m args below meth c H locs cells slots Q (F0 m pc ls (.int (J z) :: .ref a :: rest)) := by
  refine x_putF E hK hw.2.2 (hw.2.1 a ⟨by rw [ht]; decide, by rw [ht]; decide⟩) in_X0 tyX0 tyX0_ok nmX0 (ci := 1) rfl (cw_rw1 hw.1 ht) (k := 1) (by decide) hl (tx_X0 1 (by decide)) (by decide +kernel) hin (ty := .boolean) (by decide +kernel) (J_bool hb) (J_fbool hb) (Nat.le_of_ble_eq_true rfl) pc' hp hdg (fun H1 locs1 hat hoth hsz hS => ?_)
  refine kk H1 locs1 ⟨cw_put hw.1 (by decide) ht hz hoth (show WL T v from hw.1.2.2.1) (fun γ e he => ?_), hw.2.1, hS⟩
  cases he
  show va_at D vwCl (a, .inr (1, [.int (J (v 20 a)), .int (J (upB (v 21) a z a)), .int (J (v 22 a)), .int (J (v 23 a)), .int (J (v 24 a)), .int (J (v 25 a)), va_rf (dcd (T 26 a))])) H1
  rw [upB_same]
  exact hat
theorem rp_22 (E : CX p s m args meth c own cc nL ret) (hK : KK D cy s) (hw : WK D cy T v A0 H0 H locs) {ix : Nat} (hl : Cond.fieldLink own ix RX0 (TX0 2).2.1 (TX0 2).2.2.1 ∈ gT) {a : Nat} (ht : T 0 a = 101) {z : Int} (hz : inR z) (pc' : Nat) (hp : pc + 3 = pc') (hdg : decode cc pc = .ok (.putfield ix, 3)) (kk : ∀ (H : Heap) (locs : List Loc), WK D cy T (upV v 22 (upB (v 22) a z)) A0 H0 H locs → W p l e R s m args below meth c H locs cells slots Q (F0 m pc' ls rest)) : W p l e R s m args below meth c H locs cells slots Q (F0 m pc ls (.int (J z) :: .ref a :: rest)) := by
  refine x_put E hK hw.2.2 (hw.2.1 a ⟨by rw [ht]; decide, by rw [ht]; decide⟩) in_X0 tyX0 tyX0_ok nmX0 (ci := 1) rfl (cw_rw1 hw.1 ht) (k := 2) (by decide) hl (fun x h => by rw [tx_X0 2 (by decide)] at h; exact h) (by decide +kernel) (ty := .int) (by decide +kernel) rfl rfl (Nat.le_of_ble_eq_true rfl) pc' hp hdg (fun H1 locs1 hat hoth hsz hS => ?_)
  refine kk H1 locs1 ⟨cw_put hw.1 (by decide) ht hz hoth (show WL T v from hw.1.2.2.1) (fun γ e he => ?_), hw.2.1, hS⟩
  cases he
  show va_at D vwCl (a, .inr (1, [.int (J (v 20 a)), .int (J (v 21 a)), .int (J (upB (v 22) a z a)), .int (J (v 23 a)), .int (J (v 24 a)), .int (J (v 25 a)), va_rf (dcd (T 26 a))])) H1
  rw [upB_same]
  exact hat
theorem rp_23 (E : CX p s m args meth c own cc nL ret) (hK : KK D cy s) (hw : WK D cy T v A0 H0 H locs) {ix : Nat} (hl : Cond.fieldLink own ix RX0 (TX0 3).2.1 (TX0 3).2.2.1 ∈ gT) {a : Nat} (ht : T 0 a = 101) {z : Int} (hz : inR z) (pc' : Nat) (hp : pc + 3 = pc') (hdg : decode cc pc = .ok (.putfield ix, 3)) (kk : ∀ (H : Heap) (locs : List Loc), WK D cy T (upV v 23 (upB (v 23) a z)) A0 H0 H locs → W p l e R s m args below meth c H locs cells slots Q (F0 m pc' ls rest)) : W p l e R s m args below meth c H locs cells slots Q (F0 m pc ls (.int (J z) :: .ref a :: rest)) := by
  refine x_put E hK hw.2.2 (hw.2.1 a ⟨by rw [ht]; decide, by rw [ht]; decide⟩) in_X0 tyX0 tyX0_ok nmX0 (ci := 1) rfl (cw_rw1 hw.1 ht) (k := 3) (by decide) hl (fun x h => by rw [tx_X0 3 (by decide)] at h; exact h) (by decide +kernel) (ty := .int) (by decide +kernel) rfl rfl (Nat.le_of_ble_eq_true rfl) pc' hp hdg (fun H1 locs1 hat hoth hsz hS => ?_)
  refine kk H1 locs1 ⟨cw_put hw.1 (by decide) ht hz hoth (show WL T v from hw.1.2.2.1) (fun γ e he => ?_), hw.2.1, hS⟩
  cases he
  show va_at D vwCl (a, .inr (1, [.int (J (v 20 a)), .int (J (v 21 a)), .int (J (v 22 a)), .int (J (upB (v 23) a z a)), .int (J (v 24 a)), .int (J (v 25 a)), va_rf (dcd (T 26 a))])) H1
  rw [upB_same]
  exact hat
theorem rp_24 (E : CX p s m args meth c own cc nL ret) (hK : KK D cy s) (hw : WK D cy T v A0 H0 H locs) {ix : Nat} (hl : Cond.fieldLink own ix RX0 (TX0 4).2.1 (TX0 4).2.2.1 ∈ gT) {a : Nat} (ht : T 0 a = 101) {z : Int} (hz : inR z) (pc' : Nat) (hp : pc + 3 = pc') (hdg : decode cc pc = .ok (.putfield ix, 3)) (kk : ∀ (H : Heap) (locs : List Loc), WK D cy T (upV v 24 (upB (v 24) a z)) A0 H0 H locs → W p l e R s m args below meth c H locs cells slots Q (F0 m pc' ls rest)) : W p l e R s m args below meth c H locs cells slots Q (F0 m pc ls (.int (J z) :: .ref a :: rest)) := by
  refine x_put E hK hw.2.2 (hw.2.1 a ⟨by rw [ht]; decide, by rw [ht]; decide⟩) in_X0 tyX0 tyX0_ok nmX0 (ci := 1) rfl (cw_rw1 hw.1 ht) (k := 4) (by decide) hl (fun x h => by rw [tx_X0 4 (by decide)] at h; exact h) (by decide +kernel) (ty := .int) (by decide +kernel) rfl rfl (Nat.le_of_ble_eq_true rfl) pc' hp hdg (fun H1 locs1 hat hoth hsz hS => ?_)
  refine kk H1 locs1 ⟨cw_put hw.1 (by decide) ht hz hoth (show WL T v from hw.1.2.2.1) (fun γ e he => ?_), hw.2.1, hS⟩
  cases he
  show va_at D vwCl (a, .inr (1, [.int (J (v 20 a)), .int (J (v 21 a)), .int (J (v 22 a)), .int (J (v 23 a)), .int (J (upB (v 24) a z a)), .int (J (v 25 a)), va_rf (dcd (T 26 a))])) H1
  rw [upB_same]
  exact hat
theorem rp_25 (E : CX p s m args meth c own cc nL ret) (hK : KK D cy s) (hw : WK D cy T v A0 H0 H locs) {ix : Nat} (hl : Cond.fieldLink own ix RX0 (TX0 5).2.1 (TX0 5).2.2.1 ∈ gT) {a : Nat} (ht : T 0 a = 101) {z : Int} (hz : inR z) (pc' : Nat) (hp : pc + 3 = pc') (hdg : decode cc pc = .ok (.putfield ix, 3)) (kk : ∀ (H : Heap) (locs : List Loc), WK D cy T (upV v 25 (upB (v 25) a z)) A0 H0 H locs → W p l e R s m args below meth c H locs cells slots Q (F0 m pc' ls rest)) : W p l e R s m args below meth c H locs cells slots Q (F0 m pc ls (.int (J z) :: .ref a :: rest)) := by
  refine x_put E hK hw.2.2 (hw.2.1 a ⟨by rw [ht]; decide, by rw [ht]; decide⟩) in_X0 tyX0 tyX0_ok nmX0 (ci := 1) rfl (cw_rw1 hw.1 ht) (k := 5) (by decide) hl (fun x h => by rw [tx_X0 5 (by decide)] at h; exact h) (by decide +kernel) (ty := .int) (by decide +kernel) rfl rfl (Nat.le_of_ble_eq_true rfl) pc' hp hdg (fun H1 locs1 hat hoth hsz hS => ?_)
  refine kk H1 locs1 ⟨cw_put hw.1 (by decide) ht hz hoth (show WL T v from hw.1.2.2.1) (fun γ e he => ?_), hw.2.1, hS⟩
  cases he
  show va_at D vwCl (a, .inr (1, [.int (J (v 20 a)), .int (J (v 21 a)), .int (J (v 22 a)), .int (J (v 23 a)), .int (J (v 24 a)), .int (J (upB (v 25) a z a)), va_rf (dcd (T 26 a))])) H1
  rw [upB_same]
  exact hat
theorem rr_26 (E : CX p s m args meth c RX0 cc nL ret) (hK : KK D cy s) (hw : WK D cy T v A0 H0 H locs) (hin : meth.name = "<init>") {ix : Nat} (hl : Cond.fieldLink RX0 ix RX0 (TX0 6).2.1 (TX0 6).2.2.1 ∈ gT) {a x : Nat} (ht : T 0 a = 101) (pc' : Nat) (hp : pc + 3 = pc') (hdg : decode cc pc = .ok (.putfield ix, 3)) (kk : ∀ (T2 : Nat → Nat → Nat) (H : Heap) (locs : List Loc), (∀ b, b ≠ a → ∀ j, T2 j b = T j b) → (∀ j, j ≠ 26 → T2 j a = T j a) → T2 26 a = (x + 1) → OW0 T T2 → WK D cy T2 v A0 H0 H locs → W p l e R s m args below meth c H locs cells slots Q (F0 m pc' ls rest)) : W p l e R s m args below meth c H locs cells slots Q (F0 m pc ls (.ref x :: .ref a :: rest)) := by
  refine x_putF E hK hw.2.2 (hw.2.1 a ⟨by rw [ht]; decide, by rw [ht]; decide⟩) in_X0 tyX0 tyX0_ok nmX0 (ci := 1) rfl (cw_rw1 hw.1 ht) (k := 6) (by decide) hl (tx_X0 6 (by decide)) (by decide +kernel) hin (ty := (tyX0 6)) (by decide +kernel) rfl rfl (Nat.le_of_ble_eq_true rfl) pc' hp hdg (fun H1 locs1 hat hoth hsz hS => ?_)
  have h0 : upT T a (fun j => if j = 26 then (x + 1) else T j a) 0 a = T 0 a := upT_at _ _ _ _
  have ho : OW0 T (upT T a (fun j => if j = 26 then (x + 1) else T j a)) := OW0.of (fun b => by
    by_cases e : b = a
    · subst e; exact h0
    · exact upT_ne 0 e)
  refine kk (upT T a (fun j => if j = 26 then (x + 1) else T j a)) H1 locs1 (fun b hb j => upT_ne j hb) (fun j hj => (upT_at _ _ _ _).trans (if_neg hj)) ((upT_at _ _ _ _).trans (if_pos rfl)) ho ⟨?_, fun b hb => hw.2.1 b ((ho b).1 hb), hS⟩
  refine cw_set hw.1 (Or.inr (by rw [ht]; decide)) (fun b _ hb => hoth b hb) (show T 1 a < _ from hw.1.2.1.1 a) (fun e he => ?_) (by show cTT _ a (T 0 a); rw [ht]; trivial) (fun h => by have h : T 0 a = 10 := h; rw [ht] at h; cases h) (fun h => by have h : T 0 a = 26 := h; rw [ht] at h; cases h)
  have he : cEnt cy (fun j => if j = 26 then (x + 1) else T j a) (fun k => v k a) (rw_ v (T 0 a) a) (T 0 a) = some e := he
  rw [ht] at he
  cases he
  show va_at D vwCl (a, .inr (1, [.int (J (v 20 a)), .int (J (v 21 a)), .int (J (v 22 a)), .int (J (v 23 a)), .int (J (v 24 a)), .int (J (v 25 a)), va_rf (dcd (x + 1))])) H1
  rw [dcd_s]
  exact hat
theorem cw_rw2 (hw : WC D cy T v H) {a : Nat} (ht : T 0 a = 102) : va_at D vwCl (a, .inr (2, rF2 (fun k => T k a) (fun k => v k a))) H := by
  obtain ⟨γ, h⟩ := cw_at hw ht
  exact h _ rfl
theorem rp_40 (E : CX p s m args meth c RX1 cc nL ret) (hK : KK D cy s) (hw : WK D cy T v A0 H0 H locs) (hin : meth.name = "<init>") {ix : Nat} (hl : Cond.fieldLink RX1 ix RX1 (TX1 0).2.1 (TX1 0).2.2.1 ∈ gT) {a : Nat} (ht : T 0 a = 102) {z : Int} (hz : inR z) (pc' : Nat) (hp : pc + 3 = pc') (hdg : decode cc pc = .ok (.putfield ix, 3)) (kk : ∀ (H : Heap) (locs : List Loc), WK D cy T (upV v 40 (upB (v 40) a z)) A0 H0 H locs → W p l e R s m args below meth c H locs cells slots Q (F0 m pc' ls rest)) : W p l e R s m args below meth c H locs cells slots Q (F0 m pc ls (.int (J z) :: .ref a :: rest)) := by
  refine x_putF E hK hw.2.2 (hw.2.1 a ⟨by rw [ht]; decide, by rw [ht]; decide⟩) in_X1 tyX1 tyX1_ok nmX1 (ci := 2) rfl (cw_rw2 hw.1 ht) (k := 0) (by decide) hl (tx_X1 0 (by decide)) (by decide +kernel) hin (ty := .int) (by decide +kernel) rfl rfl (Nat.le_of_ble_eq_true rfl) pc' hp hdg (fun H1 locs1 hat hoth hsz hS => ?_)
  refine kk H1 locs1 ⟨cw_put hw.1 (by decide) ht hz hoth (show WL T v from hw.1.2.2.1) (fun γ e he => ?_), hw.2.1, hS⟩
  cases he
  show va_at D vwCl (a, .inr (2, [.int (J (upB (v 40) a z a)), .int (J (v 41 a)), .int (J (v 42 a)), .int (J (v 43 a)), .int (J (v 44 a)), .int (J (v 45 a)), va_rf (dcd (T 46 a)), va_rf (dcd (T 47 a)), va_rf (dcd (T 48 a))])) H1
  rw [upB_same]
  exact hat
theorem rp_41 (E : CX p s m args meth c RX1 cc nL ret) (hK : KK D cy s) (hw : WK D cy T v A0 H0 H locs) (hin : meth.name = "<init>") {ix : Nat} (hl : Cond.fieldLink RX1 ix RX1 (TX1 1).2.1 (TX1 1).2.2.1 ∈ gT) {a : Nat} (ht : T 0 a = 102) {z : Int} (hz : inR z) (pc' : Nat) (hp : pc + 3 = pc') (hdg : decode cc pc = .ok (.putfield ix, 3)) (kk : ∀ (H : Heap) (locs : List Loc), WK D cy T (upV v 41 (upB (v 41) a z)) A0 H0 H locs → W p l e R s m args below meth c H locs cells slots Q (F0 m pc' ls rest)) : W p l e R s m args below meth c H locs cells slots Q (F0 m pc ls (.int (J z) :: .ref a :: rest)) := by
  refine x_putF E hK hw.2.2 (hw.2.1 a ⟨by rw [ht]; decide, by rw [ht]; decide⟩) in_X1 tyX1 tyX1_ok nmX1 (ci := 2) rfl (cw_rw2 hw.1 ht) (k := 1) (by decide) hl (tx_X1 1 (by decide)) (by decide +kernel) hin (ty := .int) (by decide +kernel) rfl rfl (Nat.le_of_ble_eq_true rfl) pc' hp hdg (fun H1 locs1 hat hoth hsz hS => ?_)
  refine kk H1 locs1 ⟨cw_put hw.1 (by decide) ht hz hoth (show WL T v from hw.1.2.2.1) (fun γ e he => ?_), hw.2.1, hS⟩
  cases he
  show va_at D vwCl (a, .inr (2, [.int (J (v 40 a)), .int (J (upB (v 41) a z a)), .int (J (v 42 a)), .int (J (v 43 a)), .int (J (v 44 a)), .int (J (v 45 a)), va_rf (dcd (T 46 a)), va_rf (dcd (T 47 a)), va_rf (dcd (T 48 a))])) H1
  rw [upB_same]
  exact hat
theorem rp_42 (E : CX p s m args meth c RX1 cc nL ret) (hK : KK D cy s) (hw : WK D cy T v A0 H0 H locs) (hin : meth.name = "<init>") {ix : Nat} (hl : Cond.fieldLink RX1 ix RX1 (TX1 2).2.1 (TX1 2).2.2.1 ∈ gT) {a : Nat} (ht : T 0 a = 102) {z : Int} (hz : inR z) (pc' : Nat) (hp : pc + 3 = pc') (hdg : decode cc pc = .ok (.putfield ix, 3)) (kk : ∀ (H : Heap) (locs : List Loc), WK D cy T (upV v 42 (upB (v 42) a z)) A0 H0 H locs → W p l e R s m args below meth c H locs cells slots Q (F0 m pc' ls rest)) : W p l e R s m args below meth c H locs cells slots Q (F0 m pc ls (.int (J z) :: .ref a :: rest)) := by
  refine x_putF E hK hw.2.2 (hw.2.1 a ⟨by rw [ht]; decide, by rw [ht]; decide⟩) in_X1 tyX1 tyX1_ok nmX1 (ci := 2) rfl (cw_rw2 hw.1 ht) (k := 2) (by decide) hl (tx_X1 2 (by decide)) (by decide +kernel) hin (ty := .int) (by decide +kernel) rfl rfl (Nat.le_of_ble_eq_true rfl) pc' hp hdg (fun H1 locs1 hat hoth hsz hS => ?_)
  refine kk H1 locs1 ⟨cw_put hw.1 (by decide) ht hz hoth (show WL T v from hw.1.2.2.1) (fun γ e he => ?_), hw.2.1, hS⟩
  cases he
  show va_at D vwCl (a, .inr (2, [.int (J (v 40 a)), .int (J (v 41 a)), .int (J (upB (v 42) a z a)), .int (J (v 43 a)), .int (J (v 44 a)), .int (J (v 45 a)), va_rf (dcd (T 46 a)), va_rf (dcd (T 47 a)), va_rf (dcd (T 48 a))])) H1
  rw [upB_same]
  exact hat
theorem rp_43 (E : CX p s m args meth c own cc nL ret) (hK : KK D cy s) (hw : WK D cy T v A0 H0 H locs) {ix : Nat} (hl : Cond.fieldLink own ix RX1 (TX1 3).2.1 (TX1 3).2.2.1 ∈ gT) {a : Nat} (ht : T 0 a = 102) {z : Int} (hz : inR z) (pc' : Nat) (hp : pc + 3 = pc') (hdg : decode cc pc = .ok (.putfield ix, 3)) (kk : ∀ (H : Heap) (locs : List Loc), WK D cy T (upV v 43 (upB (v 43) a z)) A0 H0 H locs → W p l e R s m args below meth c H locs cells slots Q (F0 m pc' ls rest)) : W p l e R s m args below meth c H locs cells slots Q (F0 m pc ls (.int (J z) :: .ref a :: rest)) := by
  refine x_put E hK hw.2.2 (hw.2.1 a ⟨by rw [ht]; decide, by rw [ht]; decide⟩) in_X1 tyX1 tyX1_ok nmX1 (ci := 2) rfl (cw_rw2 hw.1 ht) (k := 3) (by decide) hl (fun x h => by rw [tx_X1 3 (by decide)] at h; exact h) (by decide +kernel) (ty := .int) (by decide +kernel) rfl rfl (Nat.le_of_ble_eq_true rfl) pc' hp hdg (fun H1 locs1 hat hoth hsz hS => ?_)
  refine kk H1 locs1 ⟨cw_put hw.1 (by decide) ht hz hoth (show WL T v from hw.1.2.2.1) (fun γ e he => ?_), hw.2.1, hS⟩
  cases he
  show va_at D vwCl (a, .inr (2, [.int (J (v 40 a)), .int (J (v 41 a)), .int (J (v 42 a)), .int (J (upB (v 43) a z a)), .int (J (v 44 a)), .int (J (v 45 a)), va_rf (dcd (T 46 a)), va_rf (dcd (T 47 a)), va_rf (dcd (T 48 a))])) H1
  rw [upB_same]
  exact hat
theorem rp_44 (E : CX p s m args meth c own cc nL ret) (hK : KK D cy s) (hw : WK D cy T v A0 H0 H locs) {ix : Nat} (hl : Cond.fieldLink own ix RX1 (TX1 4).2.1 (TX1 4).2.2.1 ∈ gT) {a : Nat} (ht : T 0 a = 102) {z : Int} (hz : inR z) (hb : z = 0 ∨ z = 1) (pc' : Nat) (hp : pc + 3 = pc') (hdg : decode cc pc = .ok (.putfield ix, 3)) (kk : ∀ (H : Heap) (locs : List Loc), WK D cy T (upV v 44 (upB (v 44) a z)) A0 H0 H locs → W p l e R s m args below meth c H locs cells slots Q (F0 m pc' ls rest)) : W p l e R s m args below meth c H locs cells slots Q (F0 m pc ls (.int (J z) :: .ref a :: rest)) := by
  refine x_put E hK hw.2.2 (hw.2.1 a ⟨by rw [ht]; decide, by rw [ht]; decide⟩) in_X1 tyX1 tyX1_ok nmX1 (ci := 2) rfl (cw_rw2 hw.1 ht) (k := 4) (by decide) hl (fun x h => by rw [tx_X1 4 (by decide)] at h; exact h) (by decide +kernel) (ty := .boolean) (by decide +kernel) (J_bool hb) (J_fbool hb) (Nat.le_of_ble_eq_true rfl) pc' hp hdg (fun H1 locs1 hat hoth hsz hS => ?_)
  refine kk H1 locs1 ⟨cw_put hw.1 (by decide) ht hz hoth (show WL T v from hw.1.2.2.1) (fun γ e he => ?_), hw.2.1, hS⟩
  cases he
  show va_at D vwCl (a, .inr (2, [.int (J (v 40 a)), .int (J (v 41 a)), .int (J (v 42 a)), .int (J (v 43 a)), .int (J (upB (v 44) a z a)), .int (J (v 45 a)), va_rf (dcd (T 46 a)), va_rf (dcd (T 47 a)), va_rf (dcd (T 48 a))])) H1
  rw [upB_same]
  exact hat
theorem rp_45 (E : CX p s m args meth c own cc nL ret) (hK : KK D cy s) (hw : WK D cy T v A0 H0 H locs) {ix : Nat} (hl : Cond.fieldLink own ix RX1 (TX1 5).2.1 (TX1 5).2.2.1 ∈ gT) {a : Nat} (ht : T 0 a = 102) {z : Int} (hz : inR z) (pc' : Nat) (hp : pc + 3 = pc') (hdg : decode cc pc = .ok (.putfield ix, 3)) (kk : ∀ (H : Heap) (locs : List Loc), WK D cy T (upV v 45 (upB (v 45) a z)) A0 H0 H locs → W p l e R s m args below meth c H locs cells slots Q (F0 m pc' ls rest)) : W p l e R s m args below meth c H locs cells slots Q (F0 m pc ls (.int (J z) :: .ref a :: rest)) := by
  refine x_put E hK hw.2.2 (hw.2.1 a ⟨by rw [ht]; decide, by rw [ht]; decide⟩) in_X1 tyX1 tyX1_ok nmX1 (ci := 2) rfl (cw_rw2 hw.1 ht) (k := 5) (by decide) hl (fun x h => by rw [tx_X1 5 (by decide)] at h; exact h) (by decide +kernel) (ty := .int) (by decide +kernel) rfl rfl (Nat.le_of_ble_eq_true rfl) pc' hp hdg (fun H1 locs1 hat hoth hsz hS => ?_)
  refine kk H1 locs1 ⟨cw_put hw.1 (by decide) ht hz hoth (show WL T v from hw.1.2.2.1) (fun γ e he => ?_), hw.2.1, hS⟩
  cases he
  show va_at D vwCl (a, .inr (2, [.int (J (v 40 a)), .int (J (v 41 a)), .int (J (v 42 a)), .int (J (v 43 a)), .int (J (v 44 a)), .int (J (upB (v 45) a z a)), va_rf (dcd (T 46 a)), va_rf (dcd (T 47 a)), va_rf (dcd (T 48 a))])) H1
  rw [upB_same]
  exact hat
theorem rr_46 (E : CX p s m args meth c RX1 cc nL ret) (hK : KK D cy s) (hw : WK D cy T v A0 H0 H locs) (hin : meth.name = "<init>") {ix : Nat} (hl : Cond.fieldLink RX1 ix RX1 (TX1 6).2.1 (TX1 6).2.2.1 ∈ gT) {a x : Nat} (ht : T 0 a = 102) (pc' : Nat) (hp : pc + 3 = pc') (hdg : decode cc pc = .ok (.putfield ix, 3)) (kk : ∀ (T2 : Nat → Nat → Nat) (H : Heap) (locs : List Loc), (∀ b, b ≠ a → ∀ j, T2 j b = T j b) → (∀ j, j ≠ 46 → T2 j a = T j a) → T2 46 a = (x + 1) → OW0 T T2 → WK D cy T2 v A0 H0 H locs → W p l e R s m args below meth c H locs cells slots Q (F0 m pc' ls rest)) : W p l e R s m args below meth c H locs cells slots Q (F0 m pc ls (.ref x :: .ref a :: rest)) := by
  refine x_putF E hK hw.2.2 (hw.2.1 a ⟨by rw [ht]; decide, by rw [ht]; decide⟩) in_X1 tyX1 tyX1_ok nmX1 (ci := 2) rfl (cw_rw2 hw.1 ht) (k := 6) (by decide) hl (tx_X1 6 (by decide)) (by decide +kernel) hin (ty := (tyX1 6)) (by decide +kernel) rfl rfl (Nat.le_of_ble_eq_true rfl) pc' hp hdg (fun H1 locs1 hat hoth hsz hS => ?_)
  have h0 : upT T a (fun j => if j = 46 then (x + 1) else T j a) 0 a = T 0 a := upT_at _ _ _ _
  have ho : OW0 T (upT T a (fun j => if j = 46 then (x + 1) else T j a)) := OW0.of (fun b => by
    by_cases e : b = a
    · subst e; exact h0
    · exact upT_ne 0 e)
  refine kk (upT T a (fun j => if j = 46 then (x + 1) else T j a)) H1 locs1 (fun b hb j => upT_ne j hb) (fun j hj => (upT_at _ _ _ _).trans (if_neg hj)) ((upT_at _ _ _ _).trans (if_pos rfl)) ho ⟨?_, fun b hb => hw.2.1 b ((ho b).1 hb), hS⟩
  refine cw_set hw.1 (Or.inr (by rw [ht]; decide)) (fun b _ hb => hoth b hb) (show T 1 a < _ from hw.1.2.1.1 a) (fun e he => ?_) (by show cTT _ a (T 0 a); rw [ht]; trivial) (fun h => by have h : T 0 a = 10 := h; rw [ht] at h; cases h) (fun h => by have h : T 0 a = 26 := h; rw [ht] at h; cases h)
  have he : cEnt cy (fun j => if j = 46 then (x + 1) else T j a) (fun k => v k a) (rw_ v (T 0 a) a) (T 0 a) = some e := he
  rw [ht] at he
  cases he
  show va_at D vwCl (a, .inr (2, [.int (J (v 40 a)), .int (J (v 41 a)), .int (J (v 42 a)), .int (J (v 43 a)), .int (J (v 44 a)), .int (J (v 45 a)), va_rf (dcd (x + 1)), va_rf (dcd (T 47 a)), va_rf (dcd (T 48 a))])) H1
  rw [dcd_s]
  exact hat
theorem rr_47 (E : CX p s m args meth c RX1 cc nL ret) (hK : KK D cy s) (hw : WK D cy T v A0 H0 H locs) (hin : meth.name = "<init>") {ix : Nat} (hl : Cond.fieldLink RX1 ix RX1 (TX1 7).2.1 (TX1 7).2.2.1 ∈ gT) {a x : Nat} (ht : T 0 a = 102) (pc' : Nat) (hp : pc + 3 = pc') (hdg : decode cc pc = .ok (.putfield ix, 3)) (kk : ∀ (T2 : Nat → Nat → Nat) (H : Heap) (locs : List Loc), (∀ b, b ≠ a → ∀ j, T2 j b = T j b) → (∀ j, j ≠ 47 → T2 j a = T j a) → T2 47 a = (x + 1) → OW0 T T2 → WK D cy T2 v A0 H0 H locs → W p l e R s m args below meth c H locs cells slots Q (F0 m pc' ls rest)) : W p l e R s m args below meth c H locs cells slots Q (F0 m pc ls (.ref x :: .ref a :: rest)) := by
  refine x_putF E hK hw.2.2 (hw.2.1 a ⟨by rw [ht]; decide, by rw [ht]; decide⟩) in_X1 tyX1 tyX1_ok nmX1 (ci := 2) rfl (cw_rw2 hw.1 ht) (k := 7) (by decide) hl (tx_X1 7 (by decide)) (by decide +kernel) hin (ty := (tyX1 7)) (by decide +kernel) rfl rfl (Nat.le_of_ble_eq_true rfl) pc' hp hdg (fun H1 locs1 hat hoth hsz hS => ?_)
  have h0 : upT T a (fun j => if j = 47 then (x + 1) else T j a) 0 a = T 0 a := upT_at _ _ _ _
  have ho : OW0 T (upT T a (fun j => if j = 47 then (x + 1) else T j a)) := OW0.of (fun b => by
    by_cases e : b = a
    · subst e; exact h0
    · exact upT_ne 0 e)
  refine kk (upT T a (fun j => if j = 47 then (x + 1) else T j a)) H1 locs1 (fun b hb j => upT_ne j hb) (fun j hj => (upT_at _ _ _ _).trans (if_neg hj)) ((upT_at _ _ _ _).trans (if_pos rfl)) ho ⟨?_, fun b hb => hw.2.1 b ((ho b).1 hb), hS⟩
  refine cw_set hw.1 (Or.inr (by rw [ht]; decide)) (fun b _ hb => hoth b hb) (show T 1 a < _ from hw.1.2.1.1 a) (fun e he => ?_) (by show cTT _ a (T 0 a); rw [ht]; trivial) (fun h => by have h : T 0 a = 10 := h; rw [ht] at h; cases h) (fun h => by have h : T 0 a = 26 := h; rw [ht] at h; cases h)
  have he : cEnt cy (fun j => if j = 47 then (x + 1) else T j a) (fun k => v k a) (rw_ v (T 0 a) a) (T 0 a) = some e := he
  rw [ht] at he
  cases he
  show va_at D vwCl (a, .inr (2, [.int (J (v 40 a)), .int (J (v 41 a)), .int (J (v 42 a)), .int (J (v 43 a)), .int (J (v 44 a)), .int (J (v 45 a)), va_rf (dcd (T 46 a)), va_rf (dcd (x + 1)), va_rf (dcd (T 48 a))])) H1
  rw [dcd_s]
  exact hat
theorem rr_48 (E : CX p s m args meth c RX1 cc nL ret) (hK : KK D cy s) (hw : WK D cy T v A0 H0 H locs) (hin : meth.name = "<init>") {ix : Nat} (hl : Cond.fieldLink RX1 ix RX1 (TX1 8).2.1 (TX1 8).2.2.1 ∈ gT) {a x : Nat} (ht : T 0 a = 102) (pc' : Nat) (hp : pc + 3 = pc') (hdg : decode cc pc = .ok (.putfield ix, 3)) (kk : ∀ (T2 : Nat → Nat → Nat) (H : Heap) (locs : List Loc), (∀ b, b ≠ a → ∀ j, T2 j b = T j b) → (∀ j, j ≠ 48 → T2 j a = T j a) → T2 48 a = (x + 1) → OW0 T T2 → WK D cy T2 v A0 H0 H locs → W p l e R s m args below meth c H locs cells slots Q (F0 m pc' ls rest)) : W p l e R s m args below meth c H locs cells slots Q (F0 m pc ls (.ref x :: .ref a :: rest)) := by
  refine x_putF E hK hw.2.2 (hw.2.1 a ⟨by rw [ht]; decide, by rw [ht]; decide⟩) in_X1 tyX1 tyX1_ok nmX1 (ci := 2) rfl (cw_rw2 hw.1 ht) (k := 8) (by decide) hl (tx_X1 8 (by decide)) (by decide +kernel) hin (ty := (tyX1 8)) (by decide +kernel) rfl rfl (Nat.le_of_ble_eq_true rfl) pc' hp hdg (fun H1 locs1 hat hoth hsz hS => ?_)
  have h0 : upT T a (fun j => if j = 48 then (x + 1) else T j a) 0 a = T 0 a := upT_at _ _ _ _
  have ho : OW0 T (upT T a (fun j => if j = 48 then (x + 1) else T j a)) := OW0.of (fun b => by
    by_cases e : b = a
    · subst e; exact h0
    · exact upT_ne 0 e)
  refine kk (upT T a (fun j => if j = 48 then (x + 1) else T j a)) H1 locs1 (fun b hb j => upT_ne j hb) (fun j hj => (upT_at _ _ _ _).trans (if_neg hj)) ((upT_at _ _ _ _).trans (if_pos rfl)) ho ⟨?_, fun b hb => hw.2.1 b ((ho b).1 hb), hS⟩
  refine cw_set hw.1 (Or.inr (by rw [ht]; decide)) (fun b _ hb => hoth b hb) (show T 1 a < _ from hw.1.2.1.1 a) (fun e he => ?_) (by show cTT _ a (T 0 a); rw [ht]; trivial) (fun h => by have h : T 0 a = 10 := h; rw [ht] at h; cases h) (fun h => by have h : T 0 a = 26 := h; rw [ht] at h; cases h)
  have he : cEnt cy (fun j => if j = 48 then (x + 1) else T j a) (fun k => v k a) (rw_ v (T 0 a) a) (T 0 a) = some e := he
  rw [ht] at he
  cases he
  show va_at D vwCl (a, .inr (2, [.int (J (v 40 a)), .int (J (v 41 a)), .int (J (v 42 a)), .int (J (v 43 a)), .int (J (v 44 a)), .int (J (v 45 a)), va_rf (dcd (T 46 a)), va_rf (dcd (T 47 a)), va_rf (dcd (x + 1))])) H1
  rw [dcd_s]
  exact hat
theorem cw_rw3 (hw : WC D cy T v H) {a : Nat} (ht : T 0 a = 103) : va_at D vwCl (a, .inr (3, rF3 (fun k => T k a) (fun k => v k a))) H := by
  obtain ⟨γ, h⟩ := cw_at hw ht
  exact h _ rfl
theorem rr_60 (E : CX p s m args meth c RX2 cc nL ret) (hK : KK D cy s) (hw : WK D cy T v A0 H0 H locs) (hin : meth.name = "<init>") {ix : Nat} (hl : Cond.fieldLink RX2 ix RX2 (TX2 0).2.1 (TX2 0).2.2.1 ∈ gT) {a x : Nat} (ht : T 0 a = 103) (pc' : Nat) (hp : pc + 3 = pc') (hdg : decode cc pc = .ok (.putfield ix, 3)) (kk : ∀ (T2 : Nat → Nat → Nat) (H : Heap) (locs : List Loc), (∀ b, b ≠ a → ∀ j, T2 j b = T j b) → (∀ j, j ≠ 60 → T2 j a = T j a) → T2 60 a = (x + 1) → OW0 T T2 → WK D cy T2 v A0 H0 H locs → W p l e R s m args below meth c H locs cells slots Q (F0 m pc' ls rest)) : W p l e R s m args below meth c H locs cells slots Q (F0 m pc ls (.ref x :: .ref a :: rest)) := by
  refine x_putF E hK hw.2.2 (hw.2.1 a ⟨by rw [ht]; decide, by rw [ht]; decide⟩) in_X2 tyX2 tyX2_ok nmX2 (ci := 3) rfl (cw_rw3 hw.1 ht) (k := 0) (by decide) hl (tx_X2 0 (by decide)) (by decide +kernel) hin (ty := (tyX2 0)) (by decide +kernel) rfl rfl (Nat.le_of_ble_eq_true rfl) pc' hp hdg (fun H1 locs1 hat hoth hsz hS => ?_)
  have h0 : upT T a (fun j => if j = 60 then (x + 1) else T j a) 0 a = T 0 a := upT_at _ _ _ _
  have ho : OW0 T (upT T a (fun j => if j = 60 then (x + 1) else T j a)) := OW0.of (fun b => by
    by_cases e : b = a
    · subst e; exact h0
    · exact upT_ne 0 e)
  refine kk (upT T a (fun j => if j = 60 then (x + 1) else T j a)) H1 locs1 (fun b hb j => upT_ne j hb) (fun j hj => (upT_at _ _ _ _).trans (if_neg hj)) ((upT_at _ _ _ _).trans (if_pos rfl)) ho ⟨?_, fun b hb => hw.2.1 b ((ho b).1 hb), hS⟩
  refine cw_set hw.1 (Or.inr (by rw [ht]; decide)) (fun b _ hb => hoth b hb) (show T 1 a < _ from hw.1.2.1.1 a) (fun e he => ?_) (by show cTT _ a (T 0 a); rw [ht]; trivial) (fun h => by have h : T 0 a = 10 := h; rw [ht] at h; cases h) (fun h => by have h : T 0 a = 26 := h; rw [ht] at h; cases h)
  have he : cEnt cy (fun j => if j = 60 then (x + 1) else T j a) (fun k => v k a) (rw_ v (T 0 a) a) (T 0 a) = some e := he
  rw [ht] at he
  cases he
  show va_at D vwCl (a, .inr (3, [va_rf (dcd (x + 1)), va_rf (dcd (T 61 a)), va_rf (dcd (T 62 a)), va_rf (dcd (T 63 a)), .int (J (v 64 a)), .int (J (v 65 a)), .int (J (v 66 a))])) H1
  rw [dcd_s]
  exact hat
theorem rr_61 (E : CX p s m args meth c RX2 cc nL ret) (hK : KK D cy s) (hw : WK D cy T v A0 H0 H locs) (hin : meth.name = "<init>") {ix : Nat} (hl : Cond.fieldLink RX2 ix RX2 (TX2 1).2.1 (TX2 1).2.2.1 ∈ gT) {a x : Nat} (ht : T 0 a = 103) (pc' : Nat) (hp : pc + 3 = pc') (hdg : decode cc pc = .ok (.putfield ix, 3)) (kk : ∀ (T2 : Nat → Nat → Nat) (H : Heap) (locs : List Loc), (∀ b, b ≠ a → ∀ j, T2 j b = T j b) → (∀ j, j ≠ 61 → T2 j a = T j a) → T2 61 a = (x + 1) → OW0 T T2 → WK D cy T2 v A0 H0 H locs → W p l e R s m args below meth c H locs cells slots Q (F0 m pc' ls rest)) : W p l e R s m args below meth c H locs cells slots Q (F0 m pc ls (.ref x :: .ref a :: rest)) := by
  refine x_putF E hK hw.2.2 (hw.2.1 a ⟨by rw [ht]; decide, by rw [ht]; decide⟩) in_X2 tyX2 tyX2_ok nmX2 (ci := 3) rfl (cw_rw3 hw.1 ht) (k := 1) (by decide) hl (tx_X2 1 (by decide)) (by decide +kernel) hin (ty := (tyX2 1)) (by decide +kernel) rfl rfl (Nat.le_of_ble_eq_true rfl) pc' hp hdg (fun H1 locs1 hat hoth hsz hS => ?_)
  have h0 : upT T a (fun j => if j = 61 then (x + 1) else T j a) 0 a = T 0 a := upT_at _ _ _ _
  have ho : OW0 T (upT T a (fun j => if j = 61 then (x + 1) else T j a)) := OW0.of (fun b => by
    by_cases e : b = a
    · subst e; exact h0
    · exact upT_ne 0 e)
  refine kk (upT T a (fun j => if j = 61 then (x + 1) else T j a)) H1 locs1 (fun b hb j => upT_ne j hb) (fun j hj => (upT_at _ _ _ _).trans (if_neg hj)) ((upT_at _ _ _ _).trans (if_pos rfl)) ho ⟨?_, fun b hb => hw.2.1 b ((ho b).1 hb), hS⟩
  refine cw_set hw.1 (Or.inr (by rw [ht]; decide)) (fun b _ hb => hoth b hb) (show T 1 a < _ from hw.1.2.1.1 a) (fun e he => ?_) (by show cTT _ a (T 0 a); rw [ht]; trivial) (fun h => by have h : T 0 a = 10 := h; rw [ht] at h; cases h) (fun h => by have h : T 0 a = 26 := h; rw [ht] at h; cases h)
  have he : cEnt cy (fun j => if j = 61 then (x + 1) else T j a) (fun k => v k a) (rw_ v (T 0 a) a) (T 0 a) = some e := he
  rw [ht] at he
  cases he
  show va_at D vwCl (a, .inr (3, [va_rf (dcd (T 60 a)), va_rf (dcd (x + 1)), va_rf (dcd (T 62 a)), va_rf (dcd (T 63 a)), .int (J (v 64 a)), .int (J (v 65 a)), .int (J (v 66 a))])) H1
  rw [dcd_s]
  exact hat
theorem rr_62 (E : CX p s m args meth c RX2 cc nL ret) (hK : KK D cy s) (hw : WK D cy T v A0 H0 H locs) (hin : meth.name = "<init>") {ix : Nat} (hl : Cond.fieldLink RX2 ix RX2 (TX2 2).2.1 (TX2 2).2.2.1 ∈ gT) {a x : Nat} (ht : T 0 a = 103) (pc' : Nat) (hp : pc + 3 = pc') (hdg : decode cc pc = .ok (.putfield ix, 3)) (kk : ∀ (T2 : Nat → Nat → Nat) (H : Heap) (locs : List Loc), (∀ b, b ≠ a → ∀ j, T2 j b = T j b) → (∀ j, j ≠ 62 → T2 j a = T j a) → T2 62 a = (x + 1) → OW0 T T2 → WK D cy T2 v A0 H0 H locs → W p l e R s m args below meth c H locs cells slots Q (F0 m pc' ls rest)) : W p l e R s m args below meth c H locs cells slots Q (F0 m pc ls (.ref x :: .ref a :: rest)) := by
  refine x_putF E hK hw.2.2 (hw.2.1 a ⟨by rw [ht]; decide, by rw [ht]; decide⟩) in_X2 tyX2 tyX2_ok nmX2 (ci := 3) rfl (cw_rw3 hw.1 ht) (k := 2) (by decide) hl (tx_X2 2 (by decide)) (by decide +kernel) hin (ty := (tyX2 2)) (by decide +kernel) rfl rfl (Nat.le_of_ble_eq_true rfl) pc' hp hdg (fun H1 locs1 hat hoth hsz hS => ?_)
  have h0 : upT T a (fun j => if j = 62 then (x + 1) else T j a) 0 a = T 0 a := upT_at _ _ _ _
  have ho : OW0 T (upT T a (fun j => if j = 62 then (x + 1) else T j a)) := OW0.of (fun b => by
    by_cases e : b = a
    · subst e; exact h0
    · exact upT_ne 0 e)
  refine kk (upT T a (fun j => if j = 62 then (x + 1) else T j a)) H1 locs1 (fun b hb j => upT_ne j hb) (fun j hj => (upT_at _ _ _ _).trans (if_neg hj)) ((upT_at _ _ _ _).trans (if_pos rfl)) ho ⟨?_, fun b hb => hw.2.1 b ((ho b).1 hb), hS⟩
  refine cw_set hw.1 (Or.inr (by rw [ht]; decide)) (fun b _ hb => hoth b hb) (show T 1 a < _ from hw.1.2.1.1 a) (fun e he => ?_) (by show cTT _ a (T 0 a); rw [ht]; trivial) (fun h => by have h : T 0 a = 10 := h; rw [ht] at h; cases h) (fun h => by have h : T 0 a = 26 := h; rw [ht] at h; cases h)
  have he : cEnt cy (fun j => if j = 62 then (x + 1) else T j a) (fun k => v k a) (rw_ v (T 0 a) a) (T 0 a) = some e := he
  rw [ht] at he
  cases he
  show va_at D vwCl (a, .inr (3, [va_rf (dcd (T 60 a)), va_rf (dcd (T 61 a)), va_rf (dcd (x + 1)), va_rf (dcd (T 63 a)), .int (J (v 64 a)), .int (J (v 65 a)), .int (J (v 66 a))])) H1
  rw [dcd_s]
  exact hat
theorem rr_63 (E : CX p s m args meth c RX2 cc nL ret) (hK : KK D cy s) (hw : WK D cy T v A0 H0 H locs) (hin : meth.name = "<init>") {ix : Nat} (hl : Cond.fieldLink RX2 ix RX2 (TX2 3).2.1 (TX2 3).2.2.1 ∈ gT) {a x : Nat} (ht : T 0 a = 103) (pc' : Nat) (hp : pc + 3 = pc') (hdg : decode cc pc = .ok (.putfield ix, 3)) (kk : ∀ (T2 : Nat → Nat → Nat) (H : Heap) (locs : List Loc), (∀ b, b ≠ a → ∀ j, T2 j b = T j b) → (∀ j, j ≠ 63 → T2 j a = T j a) → T2 63 a = (x + 1) → OW0 T T2 → WK D cy T2 v A0 H0 H locs → W p l e R s m args below meth c H locs cells slots Q (F0 m pc' ls rest)) : W p l e R s m args below meth c H locs cells slots Q (F0 m pc ls (.ref x :: .ref a :: rest)) := by
  refine x_putF E hK hw.2.2 (hw.2.1 a ⟨by rw [ht]; decide, by rw [ht]; decide⟩) in_X2 tyX2 tyX2_ok nmX2 (ci := 3) rfl (cw_rw3 hw.1 ht) (k := 3) (by decide) hl (tx_X2 3 (by decide)) (by decide +kernel) hin (ty := (tyX2 3)) (by decide +kernel) rfl rfl (Nat.le_of_ble_eq_true rfl) pc' hp hdg (fun H1 locs1 hat hoth hsz hS => ?_)
  have h0 : upT T a (fun j => if j = 63 then (x + 1) else T j a) 0 a = T 0 a := upT_at _ _ _ _
  have ho : OW0 T (upT T a (fun j => if j = 63 then (x + 1) else T j a)) := OW0.of (fun b => by
    by_cases e : b = a
    · subst e; exact h0
    · exact upT_ne 0 e)
  refine kk (upT T a (fun j => if j = 63 then (x + 1) else T j a)) H1 locs1 (fun b hb j => upT_ne j hb) (fun j hj => (upT_at _ _ _ _).trans (if_neg hj)) ((upT_at _ _ _ _).trans (if_pos rfl)) ho ⟨?_, fun b hb => hw.2.1 b ((ho b).1 hb), hS⟩
  refine cw_set hw.1 (Or.inr (by rw [ht]; decide)) (fun b _ hb => hoth b hb) (show T 1 a < _ from hw.1.2.1.1 a) (fun e he => ?_) (by show cTT _ a (T 0 a); rw [ht]; trivial) (fun h => by have h : T 0 a = 10 := h; rw [ht] at h; cases h) (fun h => by have h : T 0 a = 26 := h; rw [ht] at h; cases h)
  have he : cEnt cy (fun j => if j = 63 then (x + 1) else T j a) (fun k => v k a) (rw_ v (T 0 a) a) (T 0 a) = some e := he
  rw [ht] at he
  cases he
  show va_at D vwCl (a, .inr (3, [va_rf (dcd (T 60 a)), va_rf (dcd (T 61 a)), va_rf (dcd (T 62 a)), va_rf (dcd (x + 1)), .int (J (v 64 a)), .int (J (v 65 a)), .int (J (v 66 a))])) H1
  rw [dcd_s]
  exact hat
theorem rp_64 (E : CX p s m args meth c own cc nL ret) (hK : KK D cy s) (hw : WK D cy T v A0 H0 H locs) {ix : Nat} (hl : Cond.fieldLink own ix RX2 (TX2 4).2.1 (TX2 4).2.2.1 ∈ gT) {a : Nat} (ht : T 0 a = 103) {z : Int} (hz : inR z) (pc' : Nat) (hp : pc + 3 = pc') (hdg : decode cc pc = .ok (.putfield ix, 3)) (kk : ∀ (H : Heap) (locs : List Loc), WK D cy T (upV v 64 (upB (v 64) a z)) A0 H0 H locs → W p l e R s m args below meth c H locs cells slots Q (F0 m pc' ls rest)) : W p l e R s m args below meth c H locs cells slots Q (F0 m pc ls (.int (J z) :: .ref a :: rest)) := by
  refine x_put E hK hw.2.2 (hw.2.1 a ⟨by rw [ht]; decide, by rw [ht]; decide⟩) in_X2 tyX2 tyX2_ok nmX2 (ci := 3) rfl (cw_rw3 hw.1 ht) (k := 4) (by decide) hl (fun x h => by rw [tx_X2 4 (by decide)] at h; exact h) (by decide +kernel) (ty := .int) (by decide +kernel) rfl rfl (Nat.le_of_ble_eq_true rfl) pc' hp hdg (fun H1 locs1 hat hoth hsz hS => ?_)
  refine kk H1 locs1 ⟨cw_put hw.1 (by decide) ht hz hoth (show WL T v from hw.1.2.2.1) (fun γ e he => ?_), hw.2.1, hS⟩
  cases he
  show va_at D vwCl (a, .inr (3, [va_rf (dcd (T 60 a)), va_rf (dcd (T 61 a)), va_rf (dcd (T 62 a)), va_rf (dcd (T 63 a)), .int (J (upB (v 64) a z a)), .int (J (v 65 a)), .int (J (v 66 a))])) H1
  rw [upB_same]
  exact hat
theorem rp_65 (E : CX p s m args meth c own cc nL ret) (hK : KK D cy s) (hw : WK D cy T v A0 H0 H locs) {ix : Nat} (hl : Cond.fieldLink own ix RX2 (TX2 5).2.1 (TX2 5).2.2.1 ∈ gT) {a : Nat} (ht : T 0 a = 103) {z : Int} (hz : inR z) (pc' : Nat) (hp : pc + 3 = pc') (hdg : decode cc pc = .ok (.putfield ix, 3)) (kk : ∀ (H : Heap) (locs : List Loc), WK D cy T (upV v 65 (upB (v 65) a z)) A0 H0 H locs → W p l e R s m args below meth c H locs cells slots Q (F0 m pc' ls rest)) : W p l e R s m args below meth c H locs cells slots Q (F0 m pc ls (.int (J z) :: .ref a :: rest)) := by
  refine x_put E hK hw.2.2 (hw.2.1 a ⟨by rw [ht]; decide, by rw [ht]; decide⟩) in_X2 tyX2 tyX2_ok nmX2 (ci := 3) rfl (cw_rw3 hw.1 ht) (k := 5) (by decide) hl (fun x h => by rw [tx_X2 5 (by decide)] at h; exact h) (by decide +kernel) (ty := .int) (by decide +kernel) rfl rfl (Nat.le_of_ble_eq_true rfl) pc' hp hdg (fun H1 locs1 hat hoth hsz hS => ?_)
  refine kk H1 locs1 ⟨cw_put hw.1 (by decide) ht hz hoth (show WL T v from hw.1.2.2.1) (fun γ e he => ?_), hw.2.1, hS⟩
  cases he
  show va_at D vwCl (a, .inr (3, [va_rf (dcd (T 60 a)), va_rf (dcd (T 61 a)), va_rf (dcd (T 62 a)), va_rf (dcd (T 63 a)), .int (J (v 64 a)), .int (J (upB (v 65) a z a)), .int (J (v 66 a))])) H1
  rw [upB_same]
  exact hat
theorem rp_66 (E : CX p s m args meth c own cc nL ret) (hK : KK D cy s) (hw : WK D cy T v A0 H0 H locs) {ix : Nat} (hl : Cond.fieldLink own ix RX2 (TX2 6).2.1 (TX2 6).2.2.1 ∈ gT) {a : Nat} (ht : T 0 a = 103) {z : Int} (hz : inR z) (pc' : Nat) (hp : pc + 3 = pc') (hdg : decode cc pc = .ok (.putfield ix, 3)) (kk : ∀ (H : Heap) (locs : List Loc), WK D cy T (upV v 66 (upB (v 66) a z)) A0 H0 H locs → W p l e R s m args below meth c H locs cells slots Q (F0 m pc' ls rest)) : W p l e R s m args below meth c H locs cells slots Q (F0 m pc ls (.int (J z) :: .ref a :: rest)) := by
  refine x_put E hK hw.2.2 (hw.2.1 a ⟨by rw [ht]; decide, by rw [ht]; decide⟩) in_X2 tyX2 tyX2_ok nmX2 (ci := 3) rfl (cw_rw3 hw.1 ht) (k := 6) (by decide) hl (fun x h => by rw [tx_X2 6 (by decide)] at h; exact h) (by decide +kernel) (ty := .int) (by decide +kernel) rfl rfl (Nat.le_of_ble_eq_true rfl) pc' hp hdg (fun H1 locs1 hat hoth hsz hS => ?_)
  refine kk H1 locs1 ⟨cw_put hw.1 (by decide) ht hz hoth (show WL T v from hw.1.2.2.1) (fun γ e he => ?_), hw.2.1, hS⟩
  cases he
  show va_at D vwCl (a, .inr (3, [va_rf (dcd (T 60 a)), va_rf (dcd (T 61 a)), va_rf (dcd (T 62 a)), va_rf (dcd (T 63 a)), .int (J (v 64 a)), .int (J (v 65 a)), .int (J (upB (v 66) a z a))])) H1
  rw [upB_same]
  exact hat
theorem cw_rw4 (hw : WC D cy T v H) {a : Nat} (ht : T 0 a = 104) : va_at D vwCl (a, .inr (4, rF4 (fun k => T k a) (fun k => v k a))) H := by
  obtain ⟨γ, h⟩ := cw_at hw ht
  exact h _ rfl
theorem rp_80 (E : CX p s m args meth c own cc nL ret) (hK : KK D cy s) (hw : WK D cy T v A0 H0 H locs) {ix : Nat} (hl : Cond.fieldLink own ix RX3 (TX3 0).2.1 (TX3 0).2.2.1 ∈ gT) {a : Nat} (ht : T 0 a = 104) {z : Int} (hz : inR z) (pc' : Nat) (hp : pc + 3 = pc') (hdg : decode cc pc = .ok (.putfield ix, 3)) (kk : ∀ (H : Heap) (locs : List Loc), WK D cy T (upV v 80 (upB (v 80) a z)) A0 H0 H locs → W p l e R s m args below meth c H locs cells slots Q (F0 m pc' ls rest)) : W p l e R s m args below meth c H locs cells slots Q (F0 m pc ls (.int (J z) :: .ref a :: rest)) := by
  refine x_put E hK hw.2.2 (hw.2.1 a ⟨by rw [ht]; decide, by rw [ht]; decide⟩) in_X3 tyX3 tyX3_ok nmX3 (ci := 4) rfl (cw_rw4 hw.1 ht) (k := 0) (by decide) hl (fun x h => by rw [tx_X3 0 (by decide)] at h; exact h) (by decide +kernel) (ty := .int) (by decide +kernel) rfl rfl (Nat.le_of_ble_eq_true rfl) pc' hp hdg (fun H1 locs1 hat hoth hsz hS => ?_)
  refine kk H1 locs1 ⟨cw_put hw.1 (by decide) ht hz hoth (show WL T v from hw.1.2.2.1) (fun γ e he => ?_), hw.2.1, hS⟩
  cases he
  show va_at D vwCl (a, .inr (4, [.int (J (upB (v 80) a z a)), .int (J (v 81 a)), va_rf (dcd (T 82 a)), .int (J (v 83 a)), .int (J (v 84 a)), va_rf (dcd (T 85 a)), .int (J (v 86 a))])) H1
  rw [upB_same]
  exact hat
theorem rp_81 (E : CX p s m args meth c own cc nL ret) (hK : KK D cy s) (hw : WK D cy T v A0 H0 H locs) {ix : Nat} (hl : Cond.fieldLink own ix RX3 (TX3 1).2.1 (TX3 1).2.2.1 ∈ gT) {a : Nat} (ht : T 0 a = 104) {z : Int} (hz : inR z) (pc' : Nat) (hp : pc + 3 = pc') (hdg : decode cc pc = .ok (.putfield ix, 3)) (kk : ∀ (H : Heap) (locs : List Loc), WK D cy T (upV v 81 (upB (v 81) a z)) A0 H0 H locs → W p l e R s m args below meth c H locs cells slots Q (F0 m pc' ls rest)) : W p l e R s m args below meth c H locs cells slots Q (F0 m pc ls (.int (J z) :: .ref a :: rest)) := by
  refine x_put E hK hw.2.2 (hw.2.1 a ⟨by rw [ht]; decide, by rw [ht]; decide⟩) in_X3 tyX3 tyX3_ok nmX3 (ci := 4) rfl (cw_rw4 hw.1 ht) (k := 1) (by decide) hl (fun x h => by rw [tx_X3 1 (by decide)] at h; exact h) (by decide +kernel) (ty := .int) (by decide +kernel) rfl rfl (Nat.le_of_ble_eq_true rfl) pc' hp hdg (fun H1 locs1 hat hoth hsz hS => ?_)
  refine kk H1 locs1 ⟨cw_put hw.1 (by decide) ht hz hoth (show WL T v from hw.1.2.2.1) (fun γ e he => ?_), hw.2.1, hS⟩
  cases he
  show va_at D vwCl (a, .inr (4, [.int (J (v 80 a)), .int (J (upB (v 81) a z a)), va_rf (dcd (T 82 a)), .int (J (v 83 a)), .int (J (v 84 a)), va_rf (dcd (T 85 a)), .int (J (v 86 a))])) H1
  rw [upB_same]
  exact hat
theorem rr_82 (E : CX p s m args meth c RX3 cc nL ret) (hK : KK D cy s) (hw : WK D cy T v A0 H0 H locs) (hin : meth.name = "<init>") {ix : Nat} (hl : Cond.fieldLink RX3 ix RX3 (TX3 2).2.1 (TX3 2).2.2.1 ∈ gT) {a x : Nat} (ht : T 0 a = 104) (pc' : Nat) (hp : pc + 3 = pc') (hdg : decode cc pc = .ok (.putfield ix, 3)) (kk : ∀ (T2 : Nat → Nat → Nat) (H : Heap) (locs : List Loc), (∀ b, b ≠ a → ∀ j, T2 j b = T j b) → (∀ j, j ≠ 82 → T2 j a = T j a) → T2 82 a = (x + 1) → OW0 T T2 → WK D cy T2 v A0 H0 H locs → W p l e R s m args below meth c H locs cells slots Q (F0 m pc' ls rest)) : W p l e R s m args below meth c H locs cells slots Q (F0 m pc ls (.ref x :: .ref a :: rest)) := by
  refine x_putF E hK hw.2.2 (hw.2.1 a ⟨by rw [ht]; decide, by rw [ht]; decide⟩) in_X3 tyX3 tyX3_ok nmX3 (ci := 4) rfl (cw_rw4 hw.1 ht) (k := 2) (by decide) hl (tx_X3 2 (by decide)) (by decide +kernel) hin (ty := (tyX3 2)) (by decide +kernel) rfl rfl (Nat.le_of_ble_eq_true rfl) pc' hp hdg (fun H1 locs1 hat hoth hsz hS => ?_)
  have h0 : upT T a (fun j => if j = 82 then (x + 1) else T j a) 0 a = T 0 a := upT_at _ _ _ _
  have ho : OW0 T (upT T a (fun j => if j = 82 then (x + 1) else T j a)) := OW0.of (fun b => by
    by_cases e : b = a
    · subst e; exact h0
    · exact upT_ne 0 e)
  refine kk (upT T a (fun j => if j = 82 then (x + 1) else T j a)) H1 locs1 (fun b hb j => upT_ne j hb) (fun j hj => (upT_at _ _ _ _).trans (if_neg hj)) ((upT_at _ _ _ _).trans (if_pos rfl)) ho ⟨?_, fun b hb => hw.2.1 b ((ho b).1 hb), hS⟩
  refine cw_set hw.1 (Or.inr (by rw [ht]; decide)) (fun b _ hb => hoth b hb) (show T 1 a < _ from hw.1.2.1.1 a) (fun e he => ?_) (by show cTT _ a (T 0 a); rw [ht]; trivial) (fun h => by have h : T 0 a = 10 := h; rw [ht] at h; cases h) (fun h => by have h : T 0 a = 26 := h; rw [ht] at h; cases h)
  have he : cEnt cy (fun j => if j = 82 then (x + 1) else T j a) (fun k => v k a) (rw_ v (T 0 a) a) (T 0 a) = some e := he
  rw [ht] at he
  cases he
  show va_at D vwCl (a, .inr (4, [.int (J (v 80 a)), .int (J (v 81 a)), va_rf (dcd (x + 1)), .int (J (v 83 a)), .int (J (v 84 a)), va_rf (dcd (T 85 a)), .int (J (v 86 a))])) H1
  rw [dcd_s]
  exact hat
theorem rp_83 (E : CX p s m args meth c own cc nL ret) (hK : KK D cy s) (hw : WK D cy T v A0 H0 H locs) {ix : Nat} (hl : Cond.fieldLink own ix RX3 (TX3 3).2.1 (TX3 3).2.2.1 ∈ gT) {a : Nat} (ht : T 0 a = 104) {z : Int} (hz : inR z) (pc' : Nat) (hp : pc + 3 = pc') (hdg : decode cc pc = .ok (.putfield ix, 3)) (kk : ∀ (H : Heap) (locs : List Loc), WK D cy T (upV v 83 (upB (v 83) a z)) A0 H0 H locs → W p l e R s m args below meth c H locs cells slots Q (F0 m pc' ls rest)) : W p l e R s m args below meth c H locs cells slots Q (F0 m pc ls (.int (J z) :: .ref a :: rest)) := by
  refine x_put E hK hw.2.2 (hw.2.1 a ⟨by rw [ht]; decide, by rw [ht]; decide⟩) in_X3 tyX3 tyX3_ok nmX3 (ci := 4) rfl (cw_rw4 hw.1 ht) (k := 3) (by decide) hl (fun x h => by rw [tx_X3 3 (by decide)] at h; exact h) (by decide +kernel) (ty := .int) (by decide +kernel) rfl rfl (Nat.le_of_ble_eq_true rfl) pc' hp hdg (fun H1 locs1 hat hoth hsz hS => ?_)
  refine kk H1 locs1 ⟨cw_put hw.1 (by decide) ht hz hoth (show WL T v from hw.1.2.2.1) (fun γ e he => ?_), hw.2.1, hS⟩
  cases he
  show va_at D vwCl (a, .inr (4, [.int (J (v 80 a)), .int (J (v 81 a)), va_rf (dcd (T 82 a)), .int (J (upB (v 83) a z a)), .int (J (v 84 a)), va_rf (dcd (T 85 a)), .int (J (v 86 a))])) H1
  rw [upB_same]
  exact hat
theorem rp_84 (E : CX p s m args meth c own cc nL ret) (hK : KK D cy s) (hw : WK D cy T v A0 H0 H locs) {ix : Nat} (hl : Cond.fieldLink own ix RX3 (TX3 4).2.1 (TX3 4).2.2.1 ∈ gT) {a : Nat} (ht : T 0 a = 104) {z : Int} (hz : inR z) (pc' : Nat) (hp : pc + 3 = pc') (hdg : decode cc pc = .ok (.putfield ix, 3)) (kk : ∀ (H : Heap) (locs : List Loc), WK D cy T (upV v 84 (upB (v 84) a z)) A0 H0 H locs → W p l e R s m args below meth c H locs cells slots Q (F0 m pc' ls rest)) : W p l e R s m args below meth c H locs cells slots Q (F0 m pc ls (.int (J z) :: .ref a :: rest)) := by
  refine x_put E hK hw.2.2 (hw.2.1 a ⟨by rw [ht]; decide, by rw [ht]; decide⟩) in_X3 tyX3 tyX3_ok nmX3 (ci := 4) rfl (cw_rw4 hw.1 ht) (k := 4) (by decide) hl (fun x h => by rw [tx_X3 4 (by decide)] at h; exact h) (by decide +kernel) (ty := .int) (by decide +kernel) rfl rfl (Nat.le_of_ble_eq_true rfl) pc' hp hdg (fun H1 locs1 hat hoth hsz hS => ?_)
  refine kk H1 locs1 ⟨cw_put hw.1 (by decide) ht hz hoth (show WL T v from hw.1.2.2.1) (fun γ e he => ?_), hw.2.1, hS⟩
  cases he
  show va_at D vwCl (a, .inr (4, [.int (J (v 80 a)), .int (J (v 81 a)), va_rf (dcd (T 82 a)), .int (J (v 83 a)), .int (J (upB (v 84) a z a)), va_rf (dcd (T 85 a)), .int (J (v 86 a))])) H1
  rw [upB_same]
  exact hat
theorem rr_85 (E : CX p s m args meth c RX3 cc nL ret) (hK : KK D cy s) (hw : WK D cy T v A0 H0 H locs) (hin : meth.name = "<init>") {ix : Nat} (hl : Cond.fieldLink RX3 ix RX3 (TX3 5).2.1 (TX3 5).2.2.1 ∈ gT) {a x : Nat} (ht : T 0 a = 104) (pc' : Nat) (hp : pc + 3 = pc') (hdg : decode cc pc = .ok (.putfield ix, 3)) (kk : ∀ (T2 : Nat → Nat → Nat) (H : Heap) (locs : List Loc), (∀ b, b ≠ a → ∀ j, T2 j b = T j b) → (∀ j, j ≠ 85 → T2 j a = T j a) → T2 85 a = (x + 1) → OW0 T T2 → WK D cy T2 v A0 H0 H locs → W p l e R s m args below meth c H locs cells slots Q (F0 m pc' ls rest)) : W p l e R s m args below meth c H locs cells slots Q (F0 m pc ls (.ref x :: .ref a :: rest)) := by
  refine x_putF E hK hw.2.2 (hw.2.1 a ⟨by rw [ht]; decide, by rw [ht]; decide⟩) in_X3 tyX3 tyX3_ok nmX3 (ci := 4) rfl (cw_rw4 hw.1 ht) (k := 5) (by decide) hl (tx_X3 5 (by decide)) (by decide +kernel) hin (ty := (tyX3 5)) (by decide +kernel) rfl rfl (Nat.le_of_ble_eq_true rfl) pc' hp hdg (fun H1 locs1 hat hoth hsz hS => ?_)
  have h0 : upT T a (fun j => if j = 85 then (x + 1) else T j a) 0 a = T 0 a := upT_at _ _ _ _
  have ho : OW0 T (upT T a (fun j => if j = 85 then (x + 1) else T j a)) := OW0.of (fun b => by
    by_cases e : b = a
    · subst e; exact h0
    · exact upT_ne 0 e)
  refine kk (upT T a (fun j => if j = 85 then (x + 1) else T j a)) H1 locs1 (fun b hb j => upT_ne j hb) (fun j hj => (upT_at _ _ _ _).trans (if_neg hj)) ((upT_at _ _ _ _).trans (if_pos rfl)) ho ⟨?_, fun b hb => hw.2.1 b ((ho b).1 hb), hS⟩
  refine cw_set hw.1 (Or.inr (by rw [ht]; decide)) (fun b _ hb => hoth b hb) (show T 1 a < _ from hw.1.2.1.1 a) (fun e he => ?_) (by show cTT _ a (T 0 a); rw [ht]; trivial) (fun h => by have h : T 0 a = 10 := h; rw [ht] at h; cases h) (fun h => by have h : T 0 a = 26 := h; rw [ht] at h; cases h)
  have he : cEnt cy (fun j => if j = 85 then (x + 1) else T j a) (fun k => v k a) (rw_ v (T 0 a) a) (T 0 a) = some e := he
  rw [ht] at he
  cases he
  show va_at D vwCl (a, .inr (4, [.int (J (v 80 a)), .int (J (v 81 a)), va_rf (dcd (T 82 a)), .int (J (v 83 a)), .int (J (v 84 a)), va_rf (dcd (x + 1)), .int (J (v 86 a))])) H1
  rw [dcd_s]
  exact hat
theorem rp_86 (E : CX p s m args meth c own cc nL ret) (hK : KK D cy s) (hw : WK D cy T v A0 H0 H locs) {ix : Nat} (hl : Cond.fieldLink own ix RX3 (TX3 6).2.1 (TX3 6).2.2.1 ∈ gT) {a : Nat} (ht : T 0 a = 104) {z : Int} (hz : inR z) (pc' : Nat) (hp : pc + 3 = pc') (hdg : decode cc pc = .ok (.putfield ix, 3)) (kk : ∀ (H : Heap) (locs : List Loc), WK D cy T (upV v 86 (upB (v 86) a z)) A0 H0 H locs → W p l e R s m args below meth c H locs cells slots Q (F0 m pc' ls rest)) : W p l e R s m args below meth c H locs cells slots Q (F0 m pc ls (.int (J z) :: .ref a :: rest)) := by
  refine x_put E hK hw.2.2 (hw.2.1 a ⟨by rw [ht]; decide, by rw [ht]; decide⟩) in_X3 tyX3 tyX3_ok nmX3 (ci := 4) rfl (cw_rw4 hw.1 ht) (k := 6) (by decide) hl (fun x h => by rw [tx_X3 6 (by decide)] at h; exact h) (by decide +kernel) (ty := .int) (by decide +kernel) rfl rfl (Nat.le_of_ble_eq_true rfl) pc' hp hdg (fun H1 locs1 hat hoth hsz hS => ?_)
  refine kk H1 locs1 ⟨cw_put hw.1 (by decide) ht hz hoth (show WL T v from hw.1.2.2.1) (fun γ e he => ?_), hw.2.1, hS⟩
  cases he
  show va_at D vwCl (a, .inr (4, [.int (J (v 80 a)), .int (J (v 81 a)), va_rf (dcd (T 82 a)), .int (J (v 83 a)), .int (J (v 84 a)), va_rf (dcd (T 85 a)), .int (J (upB (v 86) a z a))])) H1
  rw [upB_same]
  exact hat
theorem cw_rw5 (hw : WC D cy T v H) {a : Nat} (ht : T 0 a = 105) : va_at D vwCl (a, .inr (5, rF5 (fun k => T k a) (fun k => v k a))) H := by
  obtain ⟨γ, h⟩ := cw_at hw ht
  exact h _ rfl
theorem rr_100 (E : CX p s m args meth c RX4 cc nL ret) (hK : KK D cy s) (hw : WK D cy T v A0 H0 H locs) (hin : meth.name = "<init>") {ix : Nat} (hl : Cond.fieldLink RX4 ix RX4 (TX4 0).2.1 (TX4 0).2.2.1 ∈ gT) {a x : Nat} (ht : T 0 a = 105) (pc' : Nat) (hp : pc + 3 = pc') (hdg : decode cc pc = .ok (.putfield ix, 3)) (kk : ∀ (T2 : Nat → Nat → Nat) (H : Heap) (locs : List Loc), (∀ b, b ≠ a → ∀ j, T2 j b = T j b) → (∀ j, j ≠ 100 → T2 j a = T j a) → T2 100 a = (x + 1) → OW0 T T2 → WK D cy T2 v A0 H0 H locs → W p l e R s m args below meth c H locs cells slots Q (F0 m pc' ls rest)) : W p l e R s m args below meth c H locs cells slots Q (F0 m pc ls (.ref x :: .ref a :: rest)) := by
  refine x_putF E hK hw.2.2 (hw.2.1 a ⟨by rw [ht]; decide, by rw [ht]; decide⟩) in_X4 tyX4 tyX4_ok nmX4 (ci := 5) rfl (cw_rw5 hw.1 ht) (k := 0) (by decide) hl (tx_X4 0 (by decide)) (by decide +kernel) hin (ty := (tyX4 0)) (by decide +kernel) rfl rfl (Nat.le_of_ble_eq_true rfl) pc' hp hdg (fun H1 locs1 hat hoth hsz hS => ?_)
  have h0 : upT T a (fun j => if j = 100 then (x + 1) else T j a) 0 a = T 0 a := upT_at _ _ _ _
  have ho : OW0 T (upT T a (fun j => if j = 100 then (x + 1) else T j a)) := OW0.of (fun b => by
    by_cases e : b = a
    · subst e; exact h0
    · exact upT_ne 0 e)
  refine kk (upT T a (fun j => if j = 100 then (x + 1) else T j a)) H1 locs1 (fun b hb j => upT_ne j hb) (fun j hj => (upT_at _ _ _ _).trans (if_neg hj)) ((upT_at _ _ _ _).trans (if_pos rfl)) ho ⟨?_, fun b hb => hw.2.1 b ((ho b).1 hb), hS⟩
  refine cw_set hw.1 (Or.inr (by rw [ht]; decide)) (fun b _ hb => hoth b hb) (show T 1 a < _ from hw.1.2.1.1 a) (fun e he => ?_) (by show cTT _ a (T 0 a); rw [ht]; trivial) (fun h => by have h : T 0 a = 10 := h; rw [ht] at h; cases h) (fun h => by have h : T 0 a = 26 := h; rw [ht] at h; cases h)
  have he : cEnt cy (fun j => if j = 100 then (x + 1) else T j a) (fun k => v k a) (rw_ v (T 0 a) a) (T 0 a) = some e := he
  rw [ht] at he
  cases he
  show va_at D vwCl (a, .inr (5, [va_rf (dcd (x + 1)), va_rf (dcd (T 101 a)), va_rf (dcd (T 102 a)), .int (J (v 103 a))])) H1
  rw [dcd_s]
  exact hat
theorem rr_101 (E : CX p s m args meth c RX4 cc nL ret) (hK : KK D cy s) (hw : WK D cy T v A0 H0 H locs) (hin : meth.name = "<init>") {ix : Nat} (hl : Cond.fieldLink RX4 ix RX4 (TX4 1).2.1 (TX4 1).2.2.1 ∈ gT) {a x : Nat} (ht : T 0 a = 105) (pc' : Nat) (hp : pc + 3 = pc') (hdg : decode cc pc = .ok (.putfield ix, 3)) (kk : ∀ (T2 : Nat → Nat → Nat) (H : Heap) (locs : List Loc), (∀ b, b ≠ a → ∀ j, T2 j b = T j b) → (∀ j, j ≠ 101 → T2 j a = T j a) → T2 101 a = (x + 1) → OW0 T T2 → WK D cy T2 v A0 H0 H locs → W p l e R s m args below meth c H locs cells slots Q (F0 m pc' ls rest)) : W p l e R s m args below meth c H locs cells slots Q (F0 m pc ls (.ref x :: .ref a :: rest)) := by
  refine x_putF E hK hw.2.2 (hw.2.1 a ⟨by rw [ht]; decide, by rw [ht]; decide⟩) in_X4 tyX4 tyX4_ok nmX4 (ci := 5) rfl (cw_rw5 hw.1 ht) (k := 1) (by decide) hl (tx_X4 1 (by decide)) (by decide +kernel) hin (ty := (tyX4 1)) (by decide +kernel) rfl rfl (Nat.le_of_ble_eq_true rfl) pc' hp hdg (fun H1 locs1 hat hoth hsz hS => ?_)
  have h0 : upT T a (fun j => if j = 101 then (x + 1) else T j a) 0 a = T 0 a := upT_at _ _ _ _
  have ho : OW0 T (upT T a (fun j => if j = 101 then (x + 1) else T j a)) := OW0.of (fun b => by
    by_cases e : b = a
    · subst e; exact h0
    · exact upT_ne 0 e)
  refine kk (upT T a (fun j => if j = 101 then (x + 1) else T j a)) H1 locs1 (fun b hb j => upT_ne j hb) (fun j hj => (upT_at _ _ _ _).trans (if_neg hj)) ((upT_at _ _ _ _).trans (if_pos rfl)) ho ⟨?_, fun b hb => hw.2.1 b ((ho b).1 hb), hS⟩
  refine cw_set hw.1 (Or.inr (by rw [ht]; decide)) (fun b _ hb => hoth b hb) (show T 1 a < _ from hw.1.2.1.1 a) (fun e he => ?_) (by show cTT _ a (T 0 a); rw [ht]; trivial) (fun h => by have h : T 0 a = 10 := h; rw [ht] at h; cases h) (fun h => by have h : T 0 a = 26 := h; rw [ht] at h; cases h)
  have he : cEnt cy (fun j => if j = 101 then (x + 1) else T j a) (fun k => v k a) (rw_ v (T 0 a) a) (T 0 a) = some e := he
  rw [ht] at he
  cases he
  show va_at D vwCl (a, .inr (5, [va_rf (dcd (T 100 a)), va_rf (dcd (x + 1)), va_rf (dcd (T 102 a)), .int (J (v 103 a))])) H1
  rw [dcd_s]
  exact hat
theorem rr_102 (E : CX p s m args meth c RX4 cc nL ret) (hK : KK D cy s) (hw : WK D cy T v A0 H0 H locs) (hin : meth.name = "<init>") {ix : Nat} (hl : Cond.fieldLink RX4 ix RX4 (TX4 2).2.1 (TX4 2).2.2.1 ∈ gT) {a x : Nat} (ht : T 0 a = 105) (pc' : Nat) (hp : pc + 3 = pc') (hdg : decode cc pc = .ok (.putfield ix, 3)) (kk : ∀ (T2 : Nat → Nat → Nat) (H : Heap) (locs : List Loc), (∀ b, b ≠ a → ∀ j, T2 j b = T j b) → (∀ j, j ≠ 102 → T2 j a = T j a) → T2 102 a = (x + 1) → OW0 T T2 → WK D cy T2 v A0 H0 H locs → W p l e R s m args below meth c H locs cells slots Q (F0 m pc' ls rest)) : W p l e R s m args below meth c H locs cells slots Q (F0 m pc ls (.ref x :: .ref a :: rest)) := by
  refine x_putF E hK hw.2.2 (hw.2.1 a ⟨by rw [ht]; decide, by rw [ht]; decide⟩) in_X4 tyX4 tyX4_ok nmX4 (ci := 5) rfl (cw_rw5 hw.1 ht) (k := 2) (by decide) hl (tx_X4 2 (by decide)) (by decide +kernel) hin (ty := (tyX4 2)) (by decide +kernel) rfl rfl (Nat.le_of_ble_eq_true rfl) pc' hp hdg (fun H1 locs1 hat hoth hsz hS => ?_)
  have h0 : upT T a (fun j => if j = 102 then (x + 1) else T j a) 0 a = T 0 a := upT_at _ _ _ _
  have ho : OW0 T (upT T a (fun j => if j = 102 then (x + 1) else T j a)) := OW0.of (fun b => by
    by_cases e : b = a
    · subst e; exact h0
    · exact upT_ne 0 e)
  refine kk (upT T a (fun j => if j = 102 then (x + 1) else T j a)) H1 locs1 (fun b hb j => upT_ne j hb) (fun j hj => (upT_at _ _ _ _).trans (if_neg hj)) ((upT_at _ _ _ _).trans (if_pos rfl)) ho ⟨?_, fun b hb => hw.2.1 b ((ho b).1 hb), hS⟩
  refine cw_set hw.1 (Or.inr (by rw [ht]; decide)) (fun b _ hb => hoth b hb) (show T 1 a < _ from hw.1.2.1.1 a) (fun e he => ?_) (by show cTT _ a (T 0 a); rw [ht]; trivial) (fun h => by have h : T 0 a = 10 := h; rw [ht] at h; cases h) (fun h => by have h : T 0 a = 26 := h; rw [ht] at h; cases h)
  have he : cEnt cy (fun j => if j = 102 then (x + 1) else T j a) (fun k => v k a) (rw_ v (T 0 a) a) (T 0 a) = some e := he
  rw [ht] at he
  cases he
  show va_at D vwCl (a, .inr (5, [va_rf (dcd (T 100 a)), va_rf (dcd (T 101 a)), va_rf (dcd (x + 1)), .int (J (v 103 a))])) H1
  rw [dcd_s]
  exact hat
theorem rp_103 (E : CX p s m args meth c own cc nL ret) (hK : KK D cy s) (hw : WK D cy T v A0 H0 H locs) {ix : Nat} (hl : Cond.fieldLink own ix RX4 (TX4 3).2.1 (TX4 3).2.2.1 ∈ gT) {a : Nat} (ht : T 0 a = 105) {z : Int} (hz : inR z) (pc' : Nat) (hp : pc + 3 = pc') (hdg : decode cc pc = .ok (.putfield ix, 3)) (kk : ∀ (H : Heap) (locs : List Loc), WK D cy T (upV v 103 (upB (v 103) a z)) A0 H0 H locs → W p l e R s m args below meth c H locs cells slots Q (F0 m pc' ls rest)) : W p l e R s m args below meth c H locs cells slots Q (F0 m pc ls (.int (J z) :: .ref a :: rest)) := by
  refine x_put E hK hw.2.2 (hw.2.1 a ⟨by rw [ht]; decide, by rw [ht]; decide⟩) in_X4 tyX4 tyX4_ok nmX4 (ci := 5) rfl (cw_rw5 hw.1 ht) (k := 3) (by decide) hl (fun x h => by rw [tx_X4 3 (by decide)] at h; exact h) (by decide +kernel) (ty := .int) (by decide +kernel) rfl rfl (Nat.le_of_ble_eq_true rfl) pc' hp hdg (fun H1 locs1 hat hoth hsz hS => ?_)
  refine kk H1 locs1 ⟨cw_put hw.1 (by decide) ht hz hoth (show WL T v from hw.1.2.2.1) (fun γ e he => ?_), hw.2.1, hS⟩
  cases he
  show va_at D vwCl (a, .inr (5, [va_rf (dcd (T 100 a)), va_rf (dcd (T 101 a)), va_rf (dcd (T 102 a)), .int (J (upB (v 103) a z a))])) H1
  rw [upB_same]
  exact hat
theorem cw_rw6 (hw : WC D cy T v H) {a : Nat} (ht : T 0 a = 106) : va_at D vwCl (a, .inr (6, rF6 (fun k => T k a) (fun k => v k a))) H := by
  obtain ⟨γ, h⟩ := cw_at hw ht
  exact h _ rfl
theorem rr_120 (E : CX p s m args meth c RX5 cc nL ret) (hK : KK D cy s) (hw : WK D cy T v A0 H0 H locs) (hin : meth.name = "<init>") {ix : Nat} (hl : Cond.fieldLink RX5 ix RX5 (TX5 0).2.1 (TX5 0).2.2.1 ∈ gT) {a x : Nat} (ht : T 0 a = 106) (pc' : Nat) (hp : pc + 3 = pc') (hdg : decode cc pc = .ok (.putfield ix, 3)) (kk : ∀ (T2 : Nat → Nat → Nat) (H : Heap) (locs : List Loc), (∀ b, b ≠ a → ∀ j, T2 j b = T j b) → (∀ j, j ≠ 120 → T2 j a = T j a) → T2 120 a = (x + 1) → OW0 T T2 → WK D cy T2 v A0 H0 H locs → W p l e R s m args below meth c H locs cells slots Q (F0 m pc' ls rest)) : W p l e R s m args below meth c H locs cells slots Q (F0 m pc ls (.ref x :: .ref a :: rest)) := by
  refine x_putF E hK hw.2.2 (hw.2.1 a ⟨by rw [ht]; decide, by rw [ht]; decide⟩) in_X5 tyX5 tyX5_ok nmX5 (ci := 6) rfl (cw_rw6 hw.1 ht) (k := 0) (by decide) hl (tx_X5 0 (by decide)) (by decide +kernel) hin (ty := (tyX5 0)) (by decide +kernel) rfl rfl (Nat.le_of_ble_eq_true rfl) pc' hp hdg (fun H1 locs1 hat hoth hsz hS => ?_)
  have h0 : upT T a (fun j => if j = 120 then (x + 1) else T j a) 0 a = T 0 a := upT_at _ _ _ _
  have ho : OW0 T (upT T a (fun j => if j = 120 then (x + 1) else T j a)) := OW0.of (fun b => by
    by_cases e : b = a
    · subst e; exact h0
    · exact upT_ne 0 e)
  refine kk (upT T a (fun j => if j = 120 then (x + 1) else T j a)) H1 locs1 (fun b hb j => upT_ne j hb) (fun j hj => (upT_at _ _ _ _).trans (if_neg hj)) ((upT_at _ _ _ _).trans (if_pos rfl)) ho ⟨?_, fun b hb => hw.2.1 b ((ho b).1 hb), hS⟩
  refine cw_set hw.1 (Or.inr (by rw [ht]; decide)) (fun b _ hb => hoth b hb) (show T 1 a < _ from hw.1.2.1.1 a) (fun e he => ?_) (by show cTT _ a (T 0 a); rw [ht]; trivial) (fun h => by have h : T 0 a = 10 := h; rw [ht] at h; cases h) (fun h => by have h : T 0 a = 26 := h; rw [ht] at h; cases h)
  have he : cEnt cy (fun j => if j = 120 then (x + 1) else T j a) (fun k => v k a) (rw_ v (T 0 a) a) (T 0 a) = some e := he
  rw [ht] at he
  cases he
  show va_at D vwCl (a, .inr (6, [va_rf (dcd (x + 1)), va_rf (dcd (T 121 a)), va_rf (dcd (T 122 a)), .int (J (v 123 a)), .int (J (v 124 a))])) H1
  rw [dcd_s]
  exact hat
theorem rr_121 (E : CX p s m args meth c RX5 cc nL ret) (hK : KK D cy s) (hw : WK D cy T v A0 H0 H locs) (hin : meth.name = "<init>") {ix : Nat} (hl : Cond.fieldLink RX5 ix RX5 (TX5 1).2.1 (TX5 1).2.2.1 ∈ gT) {a x : Nat} (ht : T 0 a = 106) (pc' : Nat) (hp : pc + 3 = pc') (hdg : decode cc pc = .ok (.putfield ix, 3)) (kk : ∀ (T2 : Nat → Nat → Nat) (H : Heap) (locs : List Loc), (∀ b, b ≠ a → ∀ j, T2 j b = T j b) → (∀ j, j ≠ 121 → T2 j a = T j a) → T2 121 a = (x + 1) → OW0 T T2 → WK D cy T2 v A0 H0 H locs → W p l e R s m args below meth c H locs cells slots Q (F0 m pc' ls rest)) : W p l e R s m args below meth c H locs cells slots Q (F0 m pc ls (.ref x :: .ref a :: rest)) := by
  refine x_putF E hK hw.2.2 (hw.2.1 a ⟨by rw [ht]; decide, by rw [ht]; decide⟩) in_X5 tyX5 tyX5_ok nmX5 (ci := 6) rfl (cw_rw6 hw.1 ht) (k := 1) (by decide) hl (tx_X5 1 (by decide)) (by decide +kernel) hin (ty := (tyX5 1)) (by decide +kernel) rfl rfl (Nat.le_of_ble_eq_true rfl) pc' hp hdg (fun H1 locs1 hat hoth hsz hS => ?_)
  have h0 : upT T a (fun j => if j = 121 then (x + 1) else T j a) 0 a = T 0 a := upT_at _ _ _ _
  have ho : OW0 T (upT T a (fun j => if j = 121 then (x + 1) else T j a)) := OW0.of (fun b => by
    by_cases e : b = a
    · subst e; exact h0
    · exact upT_ne 0 e)
  refine kk (upT T a (fun j => if j = 121 then (x + 1) else T j a)) H1 locs1 (fun b hb j => upT_ne j hb) (fun j hj => (upT_at _ _ _ _).trans (if_neg hj)) ((upT_at _ _ _ _).trans (if_pos rfl)) ho ⟨?_, fun b hb => hw.2.1 b ((ho b).1 hb), hS⟩
  refine cw_set hw.1 (Or.inr (by rw [ht]; decide)) (fun b _ hb => hoth b hb) (show T 1 a < _ from hw.1.2.1.1 a) (fun e he => ?_) (by show cTT _ a (T 0 a); rw [ht]; trivial) (fun h => by have h : T 0 a = 10 := h; rw [ht] at h; cases h) (fun h => by have h : T 0 a = 26 := h; rw [ht] at h; cases h)
  have he : cEnt cy (fun j => if j = 121 then (x + 1) else T j a) (fun k => v k a) (rw_ v (T 0 a) a) (T 0 a) = some e := he
  rw [ht] at he
  cases he
  show va_at D vwCl (a, .inr (6, [va_rf (dcd (T 120 a)), va_rf (dcd (x + 1)), va_rf (dcd (T 122 a)), .int (J (v 123 a)), .int (J (v 124 a))])) H1
  rw [dcd_s]
  exact hat
theorem rr_122 (E : CX p s m args meth c RX5 cc nL ret) (hK : KK D cy s) (hw : WK D cy T v A0 H0 H locs) (hin : meth.name = "<init>") {ix : Nat} (hl : Cond.fieldLink RX5 ix RX5 (TX5 2).2.1 (TX5 2).2.2.1 ∈ gT) {a x : Nat} (ht : T 0 a = 106) (pc' : Nat) (hp : pc + 3 = pc') (hdg : decode cc pc = .ok (.putfield ix, 3)) (kk : ∀ (T2 : Nat → Nat → Nat) (H : Heap) (locs : List Loc), (∀ b, b ≠ a → ∀ j, T2 j b = T j b) → (∀ j, j ≠ 122 → T2 j a = T j a) → T2 122 a = (x + 1) → OW0 T T2 → WK D cy T2 v A0 H0 H locs → W p l e R s m args below meth c H locs cells slots Q (F0 m pc' ls rest)) : W p l e R s m args below meth c H locs cells slots Q (F0 m pc ls (.ref x :: .ref a :: rest)) := by
  refine x_putF E hK hw.2.2 (hw.2.1 a ⟨by rw [ht]; decide, by rw [ht]; decide⟩) in_X5 tyX5 tyX5_ok nmX5 (ci := 6) rfl (cw_rw6 hw.1 ht) (k := 2) (by decide) hl (tx_X5 2 (by decide)) (by decide +kernel) hin (ty := (tyX5 2)) (by decide +kernel) rfl rfl (Nat.le_of_ble_eq_true rfl) pc' hp hdg (fun H1 locs1 hat hoth hsz hS => ?_)
  have h0 : upT T a (fun j => if j = 122 then (x + 1) else T j a) 0 a = T 0 a := upT_at _ _ _ _
  have ho : OW0 T (upT T a (fun j => if j = 122 then (x + 1) else T j a)) := OW0.of (fun b => by
    by_cases e : b = a
    · subst e; exact h0
    · exact upT_ne 0 e)
  refine kk (upT T a (fun j => if j = 122 then (x + 1) else T j a)) H1 locs1 (fun b hb j => upT_ne j hb) (fun j hj => (upT_at _ _ _ _).trans (if_neg hj)) ((upT_at _ _ _ _).trans (if_pos rfl)) ho ⟨?_, fun b hb => hw.2.1 b ((ho b).1 hb), hS⟩
  refine cw_set hw.1 (Or.inr (by rw [ht]; decide)) (fun b _ hb => hoth b hb) (show T 1 a < _ from hw.1.2.1.1 a) (fun e he => ?_) (by show cTT _ a (T 0 a); rw [ht]; trivial) (fun h => by have h : T 0 a = 10 := h; rw [ht] at h; cases h) (fun h => by have h : T 0 a = 26 := h; rw [ht] at h; cases h)
  have he : cEnt cy (fun j => if j = 122 then (x + 1) else T j a) (fun k => v k a) (rw_ v (T 0 a) a) (T 0 a) = some e := he
  rw [ht] at he
  cases he
  show va_at D vwCl (a, .inr (6, [va_rf (dcd (T 120 a)), va_rf (dcd (T 121 a)), va_rf (dcd (x + 1)), .int (J (v 123 a)), .int (J (v 124 a))])) H1
  rw [dcd_s]
  exact hat
theorem rp_123 (E : CX p s m args meth c own cc nL ret) (hK : KK D cy s) (hw : WK D cy T v A0 H0 H locs) {ix : Nat} (hl : Cond.fieldLink own ix RX5 (TX5 3).2.1 (TX5 3).2.2.1 ∈ gT) {a : Nat} (ht : T 0 a = 106) {z : Int} (hz : inR z) (pc' : Nat) (hp : pc + 3 = pc') (hdg : decode cc pc = .ok (.putfield ix, 3)) (kk : ∀ (H : Heap) (locs : List Loc), WK D cy T (upV v 123 (upB (v 123) a z)) A0 H0 H locs → W p l e R s m args below meth c H locs cells slots Q (F0 m pc' ls rest)) : W p l e R s m args below meth c H locs cells slots Q (F0 m pc ls (.int (J z) :: .ref a :: rest)) := by
  refine x_put E hK hw.2.2 (hw.2.1 a ⟨by rw [ht]; decide, by rw [ht]; decide⟩) in_X5 tyX5 tyX5_ok nmX5 (ci := 6) rfl (cw_rw6 hw.1 ht) (k := 3) (by decide) hl (fun x h => by rw [tx_X5 3 (by decide)] at h; exact h) (by decide +kernel) (ty := .int) (by decide +kernel) rfl rfl (Nat.le_of_ble_eq_true rfl) pc' hp hdg (fun H1 locs1 hat hoth hsz hS => ?_)
  refine kk H1 locs1 ⟨cw_put hw.1 (by decide) ht hz hoth (show WL T v from hw.1.2.2.1) (fun γ e he => ?_), hw.2.1, hS⟩
  cases he
  show va_at D vwCl (a, .inr (6, [va_rf (dcd (T 120 a)), va_rf (dcd (T 121 a)), va_rf (dcd (T 122 a)), .int (J (upB (v 123) a z a)), .int (J (v 124 a))])) H1
  rw [upB_same]
  exact hat
theorem rp_124 (E : CX p s m args meth c own cc nL ret) (hK : KK D cy s) (hw : WK D cy T v A0 H0 H locs) {ix : Nat} (hl : Cond.fieldLink own ix RX5 (TX5 4).2.1 (TX5 4).2.2.1 ∈ gT) {a : Nat} (ht : T 0 a = 106) {z : Int} (hz : inR z) (pc' : Nat) (hp : pc + 3 = pc') (hdg : decode cc pc = .ok (.putfield ix, 3)) (kk : ∀ (H : Heap) (locs : List Loc), WK D cy T (upV v 124 (upB (v 124) a z)) A0 H0 H locs → W p l e R s m args below meth c H locs cells slots Q (F0 m pc' ls rest)) : W p l e R s m args below meth c H locs cells slots Q (F0 m pc ls (.int (J z) :: .ref a :: rest)) := by
  refine x_put E hK hw.2.2 (hw.2.1 a ⟨by rw [ht]; decide, by rw [ht]; decide⟩) in_X5 tyX5 tyX5_ok nmX5 (ci := 6) rfl (cw_rw6 hw.1 ht) (k := 4) (by decide) hl (fun x h => by rw [tx_X5 4 (by decide)] at h; exact h) (by decide +kernel) (ty := .int) (by decide +kernel) rfl rfl (Nat.le_of_ble_eq_true rfl) pc' hp hdg (fun H1 locs1 hat hoth hsz hS => ?_)
  refine kk H1 locs1 ⟨cw_put hw.1 (by decide) ht hz hoth (show WL T v from hw.1.2.2.1) (fun γ e he => ?_), hw.2.1, hS⟩
  cases he
  show va_at D vwCl (a, .inr (6, [va_rf (dcd (T 120 a)), va_rf (dcd (T 121 a)), va_rf (dcd (T 122 a)), .int (J (v 123 a)), .int (J (upB (v 124) a z a))])) H1
  rw [upB_same]
  exact hat
theorem cw_rw7 (hw : WC D cy T v H) {a : Nat} (ht : T 0 a = 107) : va_at D vwCl (a, .inr (7, rF7 (fun k => T k a) (fun k => v k a))) H := by
  obtain ⟨γ, h⟩ := cw_at hw ht
  exact h _ rfl
theorem rp_140 (E : CX p s m args meth c RX6 cc nL ret) (hK : KK D cy s) (hw : WK D cy T v A0 H0 H locs) (hin : meth.name = "<init>") {ix : Nat} (hl : Cond.fieldLink RX6 ix RX6 (TX6 0).2.1 (TX6 0).2.2.1 ∈ gT) {a : Nat} (ht : T 0 a = 107) {z : Int} (hz : inR z) (pc' : Nat) (hp : pc + 3 = pc') (hdg : decode cc pc = .ok (.putfield ix, 3)) (kk : ∀ (H : Heap) (locs : List Loc), WK D cy T (upV v 140 (upB (v 140) a z)) A0 H0 H locs → W p l e R s m args below meth c H locs cells slots Q (F0 m pc' ls rest)) : W p l e R s m args below meth c H locs cells slots Q (F0 m pc ls (.int (J z) :: .ref a :: rest)) := by
  refine x_putF E hK hw.2.2 (hw.2.1 a ⟨by rw [ht]; decide, by rw [ht]; decide⟩) in_X6 tyX6 tyX6_ok nmX6 (ci := 7) rfl (cw_rw7 hw.1 ht) (k := 0) (by decide) hl (tx_X6 0 (by decide)) (by decide +kernel) hin (ty := .int) (by decide +kernel) rfl rfl (Nat.le_of_ble_eq_true rfl) pc' hp hdg (fun H1 locs1 hat hoth hsz hS => ?_)
  refine kk H1 locs1 ⟨cw_put hw.1 (by decide) ht hz hoth (show WL T v from hw.1.2.2.1) (fun γ e he => ?_), hw.2.1, hS⟩
  cases he
  show va_at D vwCl (a, .inr (7, [.int (J (upB (v 140) a z a)), .int (J (v 141 a)), .int (J (v 142 a)), .int (J (v 143 a)), .int (J (v 144 a)), .int (J (v 145 a)), .int (J (v 146 a))])) H1
  rw [upB_same]
  exact hat
theorem rp_141 (E : CX p s m args meth c RX6 cc nL ret) (hK : KK D cy s) (hw : WK D cy T v A0 H0 H locs) (hin : meth.name = "<init>") {ix : Nat} (hl : Cond.fieldLink RX6 ix RX6 (TX6 1).2.1 (TX6 1).2.2.1 ∈ gT) {a : Nat} (ht : T 0 a = 107) {z : Int} (hz : inR z) (pc' : Nat) (hp : pc + 3 = pc') (hdg : decode cc pc = .ok (.putfield ix, 3)) (kk : ∀ (H : Heap) (locs : List Loc), WK D cy T (upV v 141 (upB (v 141) a z)) A0 H0 H locs → W p l e R s m args below meth c H locs cells slots Q (F0 m pc' ls rest)) : W p l e R s m args below meth c H locs cells slots Q (F0 m pc ls (.int (J z) :: .ref a :: rest)) := by
  refine x_putF E hK hw.2.2 (hw.2.1 a ⟨by rw [ht]; decide, by rw [ht]; decide⟩) in_X6 tyX6 tyX6_ok nmX6 (ci := 7) rfl (cw_rw7 hw.1 ht) (k := 1) (by decide) hl (tx_X6 1 (by decide)) (by decide +kernel) hin (ty := .int) (by decide +kernel) rfl rfl (Nat.le_of_ble_eq_true rfl) pc' hp hdg (fun H1 locs1 hat hoth hsz hS => ?_)
  refine kk H1 locs1 ⟨cw_put hw.1 (by decide) ht hz hoth (show WL T v from hw.1.2.2.1) (fun γ e he => ?_), hw.2.1, hS⟩
  cases he
  show va_at D vwCl (a, .inr (7, [.int (J (v 140 a)), .int (J (upB (v 141) a z a)), .int (J (v 142 a)), .int (J (v 143 a)), .int (J (v 144 a)), .int (J (v 145 a)), .int (J (v 146 a))])) H1
  rw [upB_same]
  exact hat
theorem rp_142 (E : CX p s m args meth c RX6 cc nL ret) (hK : KK D cy s) (hw : WK D cy T v A0 H0 H locs) (hin : meth.name = "<init>") {ix : Nat} (hl : Cond.fieldLink RX6 ix RX6 (TX6 2).2.1 (TX6 2).2.2.1 ∈ gT) {a : Nat} (ht : T 0 a = 107) {z : Int} (hz : inR z) (pc' : Nat) (hp : pc + 3 = pc') (hdg : decode cc pc = .ok (.putfield ix, 3)) (kk : ∀ (H : Heap) (locs : List Loc), WK D cy T (upV v 142 (upB (v 142) a z)) A0 H0 H locs → W p l e R s m args below meth c H locs cells slots Q (F0 m pc' ls rest)) : W p l e R s m args below meth c H locs cells slots Q (F0 m pc ls (.int (J z) :: .ref a :: rest)) := by
  refine x_putF E hK hw.2.2 (hw.2.1 a ⟨by rw [ht]; decide, by rw [ht]; decide⟩) in_X6 tyX6 tyX6_ok nmX6 (ci := 7) rfl (cw_rw7 hw.1 ht) (k := 2) (by decide) hl (tx_X6 2 (by decide)) (by decide +kernel) hin (ty := .int) (by decide +kernel) rfl rfl (Nat.le_of_ble_eq_true rfl) pc' hp hdg (fun H1 locs1 hat hoth hsz hS => ?_)
  refine kk H1 locs1 ⟨cw_put hw.1 (by decide) ht hz hoth (show WL T v from hw.1.2.2.1) (fun γ e he => ?_), hw.2.1, hS⟩
  cases he
  show va_at D vwCl (a, .inr (7, [.int (J (v 140 a)), .int (J (v 141 a)), .int (J (upB (v 142) a z a)), .int (J (v 143 a)), .int (J (v 144 a)), .int (J (v 145 a)), .int (J (v 146 a))])) H1
  rw [upB_same]
  exact hat
theorem rp_143 (E : CX p s m args meth c RX6 cc nL ret) (hK : KK D cy s) (hw : WK D cy T v A0 H0 H locs) (hin : meth.name = "<init>") {ix : Nat} (hl : Cond.fieldLink RX6 ix RX6 (TX6 3).2.1 (TX6 3).2.2.1 ∈ gT) {a : Nat} (ht : T 0 a = 107) {z : Int} (hz : inR z) (pc' : Nat) (hp : pc + 3 = pc') (hdg : decode cc pc = .ok (.putfield ix, 3)) (kk : ∀ (H : Heap) (locs : List Loc), WK D cy T (upV v 143 (upB (v 143) a z)) A0 H0 H locs → W p l e R s m args below meth c H locs cells slots Q (F0 m pc' ls rest)) : W p l e R s m args below meth c H locs cells slots Q (F0 m pc ls (.int (J z) :: .ref a :: rest)) := by
  refine x_putF E hK hw.2.2 (hw.2.1 a ⟨by rw [ht]; decide, by rw [ht]; decide⟩) in_X6 tyX6 tyX6_ok nmX6 (ci := 7) rfl (cw_rw7 hw.1 ht) (k := 3) (by decide) hl (tx_X6 3 (by decide)) (by decide +kernel) hin (ty := .int) (by decide +kernel) rfl rfl (Nat.le_of_ble_eq_true rfl) pc' hp hdg (fun H1 locs1 hat hoth hsz hS => ?_)
  refine kk H1 locs1 ⟨cw_put hw.1 (by decide) ht hz hoth (show WL T v from hw.1.2.2.1) (fun γ e he => ?_), hw.2.1, hS⟩
  cases he
  show va_at D vwCl (a, .inr (7, [.int (J (v 140 a)), .int (J (v 141 a)), .int (J (v 142 a)), .int (J (upB (v 143) a z a)), .int (J (v 144 a)), .int (J (v 145 a)), .int (J (v 146 a))])) H1
  rw [upB_same]
  exact hat
theorem rp_144 (E : CX p s m args meth c RX6 cc nL ret) (hK : KK D cy s) (hw : WK D cy T v A0 H0 H locs) (hin : meth.name = "<init>") {ix : Nat} (hl : Cond.fieldLink RX6 ix RX6 (TX6 4).2.1 (TX6 4).2.2.1 ∈ gT) {a : Nat} (ht : T 0 a = 107) {z : Int} (hz : inR z) (pc' : Nat) (hp : pc + 3 = pc') (hdg : decode cc pc = .ok (.putfield ix, 3)) (kk : ∀ (H : Heap) (locs : List Loc), WK D cy T (upV v 144 (upB (v 144) a z)) A0 H0 H locs → W p l e R s m args below meth c H locs cells slots Q (F0 m pc' ls rest)) : W p l e R s m args below meth c H locs cells slots Q (F0 m pc ls (.int (J z) :: .ref a :: rest)) := by
  refine x_putF E hK hw.2.2 (hw.2.1 a ⟨by rw [ht]; decide, by rw [ht]; decide⟩) in_X6 tyX6 tyX6_ok nmX6 (ci := 7) rfl (cw_rw7 hw.1 ht) (k := 4) (by decide) hl (tx_X6 4 (by decide)) (by decide +kernel) hin (ty := .int) (by decide +kernel) rfl rfl (Nat.le_of_ble_eq_true rfl) pc' hp hdg (fun H1 locs1 hat hoth hsz hS => ?_)
  refine kk H1 locs1 ⟨cw_put hw.1 (by decide) ht hz hoth (show WL T v from hw.1.2.2.1) (fun γ e he => ?_), hw.2.1, hS⟩
  cases he
  show va_at D vwCl (a, .inr (7, [.int (J (v 140 a)), .int (J (v 141 a)), .int (J (v 142 a)), .int (J (v 143 a)), .int (J (upB (v 144) a z a)), .int (J (v 145 a)), .int (J (v 146 a))])) H1
  rw [upB_same]
  exact hat
theorem rp_145 (E : CX p s m args meth c RX6 cc nL ret) (hK : KK D cy s) (hw : WK D cy T v A0 H0 H locs) (hin : meth.name = "<init>") {ix : Nat} (hl : Cond.fieldLink RX6 ix RX6 (TX6 5).2.1 (TX6 5).2.2.1 ∈ gT) {a : Nat} (ht : T 0 a = 107) {z : Int} (hz : inR z) (pc' : Nat) (hp : pc + 3 = pc') (hdg : decode cc pc = .ok (.putfield ix, 3)) (kk : ∀ (H : Heap) (locs : List Loc), WK D cy T (upV v 145 (upB (v 145) a z)) A0 H0 H locs → W p l e R s m args below meth c H locs cells slots Q (F0 m pc' ls rest)) : W p l e R s m args below meth c H locs cells slots Q (F0 m pc ls (.int (J z) :: .ref a :: rest)) := by
  refine x_putF E hK hw.2.2 (hw.2.1 a ⟨by rw [ht]; decide, by rw [ht]; decide⟩) in_X6 tyX6 tyX6_ok nmX6 (ci := 7) rfl (cw_rw7 hw.1 ht) (k := 5) (by decide) hl (tx_X6 5 (by decide)) (by decide +kernel) hin (ty := .int) (by decide +kernel) rfl rfl (Nat.le_of_ble_eq_true rfl) pc' hp hdg (fun H1 locs1 hat hoth hsz hS => ?_)
  refine kk H1 locs1 ⟨cw_put hw.1 (by decide) ht hz hoth (show WL T v from hw.1.2.2.1) (fun γ e he => ?_), hw.2.1, hS⟩
  cases he
  show va_at D vwCl (a, .inr (7, [.int (J (v 140 a)), .int (J (v 141 a)), .int (J (v 142 a)), .int (J (v 143 a)), .int (J (v 144 a)), .int (J (upB (v 145) a z a)), .int (J (v 146 a))])) H1
  rw [upB_same]
  exact hat
theorem rp_146 (E : CX p s m args meth c own cc nL ret) (hK : KK D cy s) (hw : WK D cy T v A0 H0 H locs) {ix : Nat} (hl : Cond.fieldLink own ix RX6 (TX6 6).2.1 (TX6 6).2.2.1 ∈ gT) {a : Nat} (ht : T 0 a = 107) {z : Int} (hz : inR z) (hb : z = 0 ∨ z = 1) (pc' : Nat) (hp : pc + 3 = pc') (hdg : decode cc pc = .ok (.putfield ix, 3)) (kk : ∀ (H : Heap) (locs : List Loc), WK D cy T (upV v 146 (upB (v 146) a z)) A0 H0 H locs → W p l e R s m args below meth c H locs cells slots Q (F0 m pc' ls rest)) : W p l e R s m args below meth c H locs cells slots Q (F0 m pc ls (.int (J z) :: .ref a :: rest)) := by
  refine x_put E hK hw.2.2 (hw.2.1 a ⟨by rw [ht]; decide, by rw [ht]; decide⟩) in_X6 tyX6 tyX6_ok nmX6 (ci := 7) rfl (cw_rw7 hw.1 ht) (k := 6) (by decide) hl (fun x h => by rw [tx_X6 6 (by decide)] at h; exact h) (by decide +kernel) (ty := .boolean) (by decide +kernel) (J_bool hb) (J_fbool hb) (Nat.le_of_ble_eq_true rfl) pc' hp hdg (fun H1 locs1 hat hoth hsz hS => ?_)
  refine kk H1 locs1 ⟨cw_put hw.1 (by decide) ht hz hoth (show WL T v from hw.1.2.2.1) (fun γ e he => ?_), hw.2.1, hS⟩
  cases he
  show va_at D vwCl (a, .inr (7, [.int (J (v 140 a)), .int (J (v 141 a)), .int (J (v 142 a)), .int (J (v 143 a)), .int (J (v 144 a)), .int (J (v 145 a)), .int (J (upB (v 146) a z a))])) H1
  rw [upB_same]
  exact hat
theorem cw_rw8 (hw : WC D cy T v H) {a : Nat} (ht : T 0 a = 108) : va_at D vwCl (a, .inr (8, rF8 (fun k => T k a) (fun k => v k a))) H := by
  obtain ⟨γ, h⟩ := cw_at hw ht
  exact h _ rfl
theorem rp_160 (E : CX p s m args meth c RX7 cc nL ret) (hK : KK D cy s) (hw : WK D cy T v A0 H0 H locs) (hin : meth.name = "<init>") {ix : Nat} (hl : Cond.fieldLink RX7 ix RX7 (TX7 0).2.1 (TX7 0).2.2.1 ∈ gT) {a : Nat} (ht : T 0 a = 108) {z : Int} (hz : inR z) (pc' : Nat) (hp : pc + 3 = pc') (hdg : decode cc pc = .ok (.putfield ix, 3)) (kk : ∀ (H : Heap) (locs : List Loc), WK D cy T (upV v 160 (upB (v 160) a z)) A0 H0 H locs → W p l e R s m args below meth c H locs cells slots Q (F0 m pc' ls rest)) : W p l e R s m args below meth c H locs cells slots Q (F0 m pc ls (.int (J z) :: .ref a :: rest)) := by
  refine x_putF E hK hw.2.2 (hw.2.1 a ⟨by rw [ht]; decide, by rw [ht]; decide⟩) in_X7 tyX7 tyX7_ok nmX7 (ci := 8) rfl (cw_rw8 hw.1 ht) (k := 0) (by decide) hl (tx_X7 0 (by decide)) (by decide +kernel) hin (ty := .int) (by decide +kernel) rfl rfl (Nat.le_of_ble_eq_true rfl) pc' hp hdg (fun H1 locs1 hat hoth hsz hS => ?_)
  refine kk H1 locs1 ⟨cw_put hw.1 (by decide) ht hz hoth (show WL T v from hw.1.2.2.1) (fun γ e he => ?_), hw.2.1, hS⟩
  cases he
  show va_at D vwCl (a, .inr (8, [.int (J (upB (v 160) a z a)), va_rf (dcd (T 161 a)), va_rf (dcd (T 162 a)), va_rf (dcd (T 163 a))])) H1
  rw [upB_same]
  exact hat
theorem rr_161 (E : CX p s m args meth c RX7 cc nL ret) (hK : KK D cy s) (hw : WK D cy T v A0 H0 H locs) (hin : meth.name = "<init>") {ix : Nat} (hl : Cond.fieldLink RX7 ix RX7 (TX7 1).2.1 (TX7 1).2.2.1 ∈ gT) {a x : Nat} (ht : T 0 a = 108) (pc' : Nat) (hp : pc + 3 = pc') (hdg : decode cc pc = .ok (.putfield ix, 3)) (kk : ∀ (T2 : Nat → Nat → Nat) (H : Heap) (locs : List Loc), (∀ b, b ≠ a → ∀ j, T2 j b = T j b) → (∀ j, j ≠ 161 → T2 j a = T j a) → T2 161 a = (x + 1) → OW0 T T2 → WK D cy T2 v A0 H0 H locs → W p l e R s m args below meth c H locs cells slots Q (F0 m pc' ls rest)) : W p l e R s m args below meth c H locs cells slots Q (F0 m pc ls (.ref x :: .ref a :: rest)) := by
  refine x_putF E hK hw.2.2 (hw.2.1 a ⟨by rw [ht]; decide, by rw [ht]; decide⟩) in_X7 tyX7 tyX7_ok nmX7 (ci := 8) rfl (cw_rw8 hw.1 ht) (k := 1) (by decide) hl (tx_X7 1 (by decide)) (by decide +kernel) hin (ty := (tyX7 1)) (by decide +kernel) rfl rfl (Nat.le_of_ble_eq_true rfl) pc' hp hdg (fun H1 locs1 hat hoth hsz hS => ?_)
  have h0 : upT T a (fun j => if j = 161 then (x + 1) else T j a) 0 a = T 0 a := upT_at _ _ _ _
  have ho : OW0 T (upT T a (fun j => if j = 161 then (x + 1) else T j a)) := OW0.of (fun b => by
    by_cases e : b = a
    · subst e; exact h0
    · exact upT_ne 0 e)
  refine kk (upT T a (fun j => if j = 161 then (x + 1) else T j a)) H1 locs1 (fun b hb j => upT_ne j hb) (fun j hj => (upT_at _ _ _ _).trans (if_neg hj)) ((upT_at _ _ _ _).trans (if_pos rfl)) ho ⟨?_, fun b hb => hw.2.1 b ((ho b).1 hb), hS⟩
  refine cw_set hw.1 (Or.inr (by rw [ht]; decide)) (fun b _ hb => hoth b hb) (show T 1 a < _ from hw.1.2.1.1 a) (fun e he => ?_) (by show cTT _ a (T 0 a); rw [ht]; trivial) (fun h => by have h : T 0 a = 10 := h; rw [ht] at h; cases h) (fun h => by have h : T 0 a = 26 := h; rw [ht] at h; cases h)
  have he : cEnt cy (fun j => if j = 161 then (x + 1) else T j a) (fun k => v k a) (rw_ v (T 0 a) a) (T 0 a) = some e := he
  rw [ht] at he
  cases he
  show va_at D vwCl (a, .inr (8, [.int (J (v 160 a)), va_rf (dcd (x + 1)), va_rf (dcd (T 162 a)), va_rf (dcd (T 163 a))])) H1
  rw [dcd_s]
  exact hat
theorem rr_162 (E : CX p s m args meth c RX7 cc nL ret) (hK : KK D cy s) (hw : WK D cy T v A0 H0 H locs) (hin : meth.name = "<init>") {ix : Nat} (hl : Cond.fieldLink RX7 ix RX7 (TX7 2).2.1 (TX7 2).2.2.1 ∈ gT) {a x : Nat} (ht : T 0 a = 108) (pc' : Nat) (hp : pc + 3 = pc') (hdg : decode cc pc = .ok (.putfield ix, 3)) (kk : ∀ (T2 : Nat → Nat → Nat) (H : Heap) (locs : List Loc), (∀ b, b ≠ a → ∀ j, T2 j b = T j b) → (∀ j, j ≠ 162 → T2 j a = T j a) → T2 162 a = (x + 1) → OW0 T T2 → WK D cy T2 v A0 H0 H locs → W p l e R s m args below meth c H locs cells slots Q (F0 m pc' ls rest)) : W p l e R s m args below meth c H locs cells slots Q (F0 m pc ls (.ref x :: .ref a :: rest)) := by
  refine x_putF E hK hw.2.2 (hw.2.1 a ⟨by rw [ht]; decide, by rw [ht]; decide⟩) in_X7 tyX7 tyX7_ok nmX7 (ci := 8) rfl (cw_rw8 hw.1 ht) (k := 2) (by decide) hl (tx_X7 2 (by decide)) (by decide +kernel) hin (ty := (tyX7 2)) (by decide +kernel) rfl rfl (Nat.le_of_ble_eq_true rfl) pc' hp hdg (fun H1 locs1 hat hoth hsz hS => ?_)
  have h0 : upT T a (fun j => if j = 162 then (x + 1) else T j a) 0 a = T 0 a := upT_at _ _ _ _
  have ho : OW0 T (upT T a (fun j => if j = 162 then (x + 1) else T j a)) := OW0.of (fun b => by
    by_cases e : b = a
    · subst e; exact h0
    · exact upT_ne 0 e)
  refine kk (upT T a (fun j => if j = 162 then (x + 1) else T j a)) H1 locs1 (fun b hb j => upT_ne j hb) (fun j hj => (upT_at _ _ _ _).trans (if_neg hj)) ((upT_at _ _ _ _).trans (if_pos rfl)) ho ⟨?_, fun b hb => hw.2.1 b ((ho b).1 hb), hS⟩
  refine cw_set hw.1 (Or.inr (by rw [ht]; decide)) (fun b _ hb => hoth b hb) (show T 1 a < _ from hw.1.2.1.1 a) (fun e he => ?_) (by show cTT _ a (T 0 a); rw [ht]; trivial) (fun h => by have h : T 0 a = 10 := h; rw [ht] at h; cases h) (fun h => by have h : T 0 a = 26 := h; rw [ht] at h; cases h)
  have he : cEnt cy (fun j => if j = 162 then (x + 1) else T j a) (fun k => v k a) (rw_ v (T 0 a) a) (T 0 a) = some e := he
  rw [ht] at he
  cases he
  show va_at D vwCl (a, .inr (8, [.int (J (v 160 a)), va_rf (dcd (T 161 a)), va_rf (dcd (x + 1)), va_rf (dcd (T 163 a))])) H1
  rw [dcd_s]
  exact hat
theorem rr_163 (E : CX p s m args meth c RX7 cc nL ret) (hK : KK D cy s) (hw : WK D cy T v A0 H0 H locs) (hin : meth.name = "<init>") {ix : Nat} (hl : Cond.fieldLink RX7 ix RX7 (TX7 3).2.1 (TX7 3).2.2.1 ∈ gT) {a x : Nat} (ht : T 0 a = 108) (pc' : Nat) (hp : pc + 3 = pc') (hdg : decode cc pc = .ok (.putfield ix, 3)) (kk : ∀ (T2 : Nat → Nat → Nat) (H : Heap) (locs : List Loc), (∀ b, b ≠ a → ∀ j, T2 j b = T j b) → (∀ j, j ≠ 163 → T2 j a = T j a) → T2 163 a = (x + 1) → OW0 T T2 → WK D cy T2 v A0 H0 H locs → W p l e R s m args below meth c H locs cells slots Q (F0 m pc' ls rest)) : W p l e R s m args below meth c H locs cells slots Q (F0 m pc ls (.ref x :: .ref a :: rest)) := by
  refine x_putF E hK hw.2.2 (hw.2.1 a ⟨by rw [ht]; decide, by rw [ht]; decide⟩) in_X7 tyX7 tyX7_ok nmX7 (ci := 8) rfl (cw_rw8 hw.1 ht) (k := 3) (by decide) hl (tx_X7 3 (by decide)) (by decide +kernel) hin (ty := (tyX7 3)) (by decide +kernel) rfl rfl (Nat.le_of_ble_eq_true rfl) pc' hp hdg (fun H1 locs1 hat hoth hsz hS => ?_)
  have h0 : upT T a (fun j => if j = 163 then (x + 1) else T j a) 0 a = T 0 a := upT_at _ _ _ _
  have ho : OW0 T (upT T a (fun j => if j = 163 then (x + 1) else T j a)) := OW0.of (fun b => by
    by_cases e : b = a
    · subst e; exact h0
    · exact upT_ne 0 e)
  refine kk (upT T a (fun j => if j = 163 then (x + 1) else T j a)) H1 locs1 (fun b hb j => upT_ne j hb) (fun j hj => (upT_at _ _ _ _).trans (if_neg hj)) ((upT_at _ _ _ _).trans (if_pos rfl)) ho ⟨?_, fun b hb => hw.2.1 b ((ho b).1 hb), hS⟩
  refine cw_set hw.1 (Or.inr (by rw [ht]; decide)) (fun b _ hb => hoth b hb) (show T 1 a < _ from hw.1.2.1.1 a) (fun e he => ?_) (by show cTT _ a (T 0 a); rw [ht]; trivial) (fun h => by have h : T 0 a = 10 := h; rw [ht] at h; cases h) (fun h => by have h : T 0 a = 26 := h; rw [ht] at h; cases h)
  have he : cEnt cy (fun j => if j = 163 then (x + 1) else T j a) (fun k => v k a) (rw_ v (T 0 a) a) (T 0 a) = some e := he
  rw [ht] at he
  cases he
  show va_at D vwCl (a, .inr (8, [.int (J (v 160 a)), va_rf (dcd (T 161 a)), va_rf (dcd (T 162 a)), va_rf (dcd (x + 1))])) H1
  rw [dcd_s]
  exact hat
theorem cw_rw9 (hw : WC D cy T v H) {a : Nat} (ht : T 0 a = 109) : va_at D vwCl (a, .inr (9, rF9 (fun k => T k a) (fun k => v k a))) H := by
  obtain ⟨γ, h⟩ := cw_at hw ht
  exact h _ rfl
theorem rr_180 (E : CX p s m args meth c RX9 cc nL ret) (hK : KK D cy s) (hw : WK D cy T v A0 H0 H locs) (hin : meth.name = "<init>") {ix : Nat} (hl : Cond.fieldLink RX9 ix RX9 (TX9 0).2.1 (TX9 0).2.2.1 ∈ gT) {a x : Nat} (ht : T 0 a = 109) (pc' : Nat) (hp : pc + 3 = pc') (hdg : decode cc pc = .ok (.putfield ix, 3)) (kk : ∀ (T2 : Nat → Nat → Nat) (H : Heap) (locs : List Loc), (∀ b, b ≠ a → ∀ j, T2 j b = T j b) → (∀ j, j ≠ 180 → T2 j a = T j a) → T2 180 a = (x + 1) → OW0 T T2 → WK D cy T2 v A0 H0 H locs → W p l e R s m args below meth c H locs cells slots Q (F0 m pc' ls rest)) : W p l e R s m args below meth c H locs cells slots Q (F0 m pc ls (.ref x :: .ref a :: rest)) := by
  refine x_putF E hK hw.2.2 (hw.2.1 a ⟨by rw [ht]; decide, by rw [ht]; decide⟩) in_X9 tyX9 tyX9_ok nmX9 (ci := 9) rfl (cw_rw9 hw.1 ht) (k := 0) (by decide) hl (tx_X9 0 (by decide)) (by decide +kernel) hin (ty := (tyX9 0)) (by decide +kernel) rfl rfl (Nat.le_of_ble_eq_true rfl) pc' hp hdg (fun H1 locs1 hat hoth hsz hS => ?_)
  have h0 : upT T a (fun j => if j = 180 then (x + 1) else T j a) 0 a = T 0 a := upT_at _ _ _ _
  have ho : OW0 T (upT T a (fun j => if j = 180 then (x + 1) else T j a)) := OW0.of (fun b => by
    by_cases e : b = a
    · subst e; exact h0
    · exact upT_ne 0 e)
  refine kk (upT T a (fun j => if j = 180 then (x + 1) else T j a)) H1 locs1 (fun b hb j => upT_ne j hb) (fun j hj => (upT_at _ _ _ _).trans (if_neg hj)) ((upT_at _ _ _ _).trans (if_pos rfl)) ho ⟨?_, fun b hb => hw.2.1 b ((ho b).1 hb), hS⟩
  refine cw_set hw.1 (Or.inr (by rw [ht]; decide)) (fun b _ hb => hoth b hb) (show T 1 a < _ from hw.1.2.1.1 a) (fun e he => ?_) (by show cTT _ a (T 0 a); rw [ht]; trivial) (fun h => by have h : T 0 a = 10 := h; rw [ht] at h; cases h) (fun h => by have h : T 0 a = 26 := h; rw [ht] at h; cases h)
  have he : cEnt cy (fun j => if j = 180 then (x + 1) else T j a) (fun k => v k a) (rw_ v (T 0 a) a) (T 0 a) = some e := he
  rw [ht] at he
  cases he
  show va_at D vwCl (a, .inr (9, [va_rf (dcd (x + 1)), va_rf (dcd (T 181 a)), va_rf (dcd (T 182 a)), va_rf (dcd (T 183 a)), va_rf (dcd (T 184 a)), va_rf (dcd (T 185 a)), .int (J (v 186 a)), .int (J (v 187 a)), .int (J (v 188 a)), .int (J (v 189 a)), .int (J (v 190 a)), .int (J (v 191 a)), va_rf (dcd (T 192 a)), va_rf (dcd (T 193 a)), va_rf (dcd (T 194 a)), va_rf (dcd (T 195 a)), va_rf (dcd (T 196 a)), va_rf (dcd (T 197 a))])) H1
  rw [dcd_s]
  exact hat
theorem rr_181 (E : CX p s m args meth c RX9 cc nL ret) (hK : KK D cy s) (hw : WK D cy T v A0 H0 H locs) (hin : meth.name = "<init>") {ix : Nat} (hl : Cond.fieldLink RX9 ix RX9 (TX9 1).2.1 (TX9 1).2.2.1 ∈ gT) {a x : Nat} (ht : T 0 a = 109) (pc' : Nat) (hp : pc + 3 = pc') (hdg : decode cc pc = .ok (.putfield ix, 3)) (kk : ∀ (T2 : Nat → Nat → Nat) (H : Heap) (locs : List Loc), (∀ b, b ≠ a → ∀ j, T2 j b = T j b) → (∀ j, j ≠ 181 → T2 j a = T j a) → T2 181 a = (x + 1) → OW0 T T2 → WK D cy T2 v A0 H0 H locs → W p l e R s m args below meth c H locs cells slots Q (F0 m pc' ls rest)) : W p l e R s m args below meth c H locs cells slots Q (F0 m pc ls (.ref x :: .ref a :: rest)) := by
  refine x_putF E hK hw.2.2 (hw.2.1 a ⟨by rw [ht]; decide, by rw [ht]; decide⟩) in_X9 tyX9 tyX9_ok nmX9 (ci := 9) rfl (cw_rw9 hw.1 ht) (k := 1) (by decide) hl (tx_X9 1 (by decide)) (by decide +kernel) hin (ty := (tyX9 1)) (by decide +kernel) rfl rfl (Nat.le_of_ble_eq_true rfl) pc' hp hdg (fun H1 locs1 hat hoth hsz hS => ?_)
  have h0 : upT T a (fun j => if j = 181 then (x + 1) else T j a) 0 a = T 0 a := upT_at _ _ _ _
  have ho : OW0 T (upT T a (fun j => if j = 181 then (x + 1) else T j a)) := OW0.of (fun b => by
    by_cases e : b = a
    · subst e; exact h0
    · exact upT_ne 0 e)
  refine kk (upT T a (fun j => if j = 181 then (x + 1) else T j a)) H1 locs1 (fun b hb j => upT_ne j hb) (fun j hj => (upT_at _ _ _ _).trans (if_neg hj)) ((upT_at _ _ _ _).trans (if_pos rfl)) ho ⟨?_, fun b hb => hw.2.1 b ((ho b).1 hb), hS⟩
  refine cw_set hw.1 (Or.inr (by rw [ht]; decide)) (fun b _ hb => hoth b hb) (show T 1 a < _ from hw.1.2.1.1 a) (fun e he => ?_) (by show cTT _ a (T 0 a); rw [ht]; trivial) (fun h => by have h : T 0 a = 10 := h; rw [ht] at h; cases h) (fun h => by have h : T 0 a = 26 := h; rw [ht] at h; cases h)
  have he : cEnt cy (fun j => if j = 181 then (x + 1) else T j a) (fun k => v k a) (rw_ v (T 0 a) a) (T 0 a) = some e := he
  rw [ht] at he
  cases he
  show va_at D vwCl (a, .inr (9, [va_rf (dcd (T 180 a)), va_rf (dcd (x + 1)), va_rf (dcd (T 182 a)), va_rf (dcd (T 183 a)), va_rf (dcd (T 184 a)), va_rf (dcd (T 185 a)), .int (J (v 186 a)), .int (J (v 187 a)), .int (J (v 188 a)), .int (J (v 189 a)), .int (J (v 190 a)), .int (J (v 191 a)), va_rf (dcd (T 192 a)), va_rf (dcd (T 193 a)), va_rf (dcd (T 194 a)), va_rf (dcd (T 195 a)), va_rf (dcd (T 196 a)), va_rf (dcd (T 197 a))])) H1
  rw [dcd_s]
  exact hat
theorem rr_182 (E : CX p s m args meth c RX9 cc nL ret) (hK : KK D cy s) (hw : WK D cy T v A0 H0 H locs) (hin : meth.name = "<init>") {ix : Nat} (hl : Cond.fieldLink RX9 ix RX9 (TX9 2).2.1 (TX9 2).2.2.1 ∈ gT) {a x : Nat} (ht : T 0 a = 109) (pc' : Nat) (hp : pc + 3 = pc') (hdg : decode cc pc = .ok (.putfield ix, 3)) (kk : ∀ (T2 : Nat → Nat → Nat) (H : Heap) (locs : List Loc), (∀ b, b ≠ a → ∀ j, T2 j b = T j b) → (∀ j, j ≠ 182 → T2 j a = T j a) → T2 182 a = (x + 1) → OW0 T T2 → WK D cy T2 v A0 H0 H locs → W p l e R s m args below meth c H locs cells slots Q (F0 m pc' ls rest)) : W p l e R s m args below meth c H locs cells slots Q (F0 m pc ls (.ref x :: .ref a :: rest)) := by
  refine x_putF E hK hw.2.2 (hw.2.1 a ⟨by rw [ht]; decide, by rw [ht]; decide⟩) in_X9 tyX9 tyX9_ok nmX9 (ci := 9) rfl (cw_rw9 hw.1 ht) (k := 2) (by decide) hl (tx_X9 2 (by decide)) (by decide +kernel) hin (ty := (tyX9 2)) (by decide +kernel) rfl rfl (Nat.le_of_ble_eq_true rfl) pc' hp hdg (fun H1 locs1 hat hoth hsz hS => ?_)
  have h0 : upT T a (fun j => if j = 182 then (x + 1) else T j a) 0 a = T 0 a := upT_at _ _ _ _
  have ho : OW0 T (upT T a (fun j => if j = 182 then (x + 1) else T j a)) := OW0.of (fun b => by
    by_cases e : b = a
    · subst e; exact h0
    · exact upT_ne 0 e)
  refine kk (upT T a (fun j => if j = 182 then (x + 1) else T j a)) H1 locs1 (fun b hb j => upT_ne j hb) (fun j hj => (upT_at _ _ _ _).trans (if_neg hj)) ((upT_at _ _ _ _).trans (if_pos rfl)) ho ⟨?_, fun b hb => hw.2.1 b ((ho b).1 hb), hS⟩
  refine cw_set hw.1 (Or.inr (by rw [ht]; decide)) (fun b _ hb => hoth b hb) (show T 1 a < _ from hw.1.2.1.1 a) (fun e he => ?_) (by show cTT _ a (T 0 a); rw [ht]; trivial) (fun h => by have h : T 0 a = 10 := h; rw [ht] at h; cases h) (fun h => by have h : T 0 a = 26 := h; rw [ht] at h; cases h)
  have he : cEnt cy (fun j => if j = 182 then (x + 1) else T j a) (fun k => v k a) (rw_ v (T 0 a) a) (T 0 a) = some e := he
  rw [ht] at he
  cases he
  show va_at D vwCl (a, .inr (9, [va_rf (dcd (T 180 a)), va_rf (dcd (T 181 a)), va_rf (dcd (x + 1)), va_rf (dcd (T 183 a)), va_rf (dcd (T 184 a)), va_rf (dcd (T 185 a)), .int (J (v 186 a)), .int (J (v 187 a)), .int (J (v 188 a)), .int (J (v 189 a)), .int (J (v 190 a)), .int (J (v 191 a)), va_rf (dcd (T 192 a)), va_rf (dcd (T 193 a)), va_rf (dcd (T 194 a)), va_rf (dcd (T 195 a)), va_rf (dcd (T 196 a)), va_rf (dcd (T 197 a))])) H1
  rw [dcd_s]
  exact hat
theorem rr_183 (E : CX p s m args meth c RX9 cc nL ret) (hK : KK D cy s) (hw : WK D cy T v A0 H0 H locs) (hin : meth.name = "<init>") {ix : Nat} (hl : Cond.fieldLink RX9 ix RX9 (TX9 3).2.1 (TX9 3).2.2.1 ∈ gT) {a x : Nat} (ht : T 0 a = 109) (pc' : Nat) (hp : pc + 3 = pc') (hdg : decode cc pc = .ok (.putfield ix, 3)) (kk : ∀ (T2 : Nat → Nat → Nat) (H : Heap) (locs : List Loc), (∀ b, b ≠ a → ∀ j, T2 j b = T j b) → (∀ j, j ≠ 183 → T2 j a = T j a) → T2 183 a = (x + 1) → OW0 T T2 → WK D cy T2 v A0 H0 H locs → W p l e R s m args below meth c H locs cells slots Q (F0 m pc' ls rest)) : W p l e R s m args below meth c H locs cells slots Q (F0 m pc ls (.ref x :: .ref a :: rest)) := by
  refine x_putF E hK hw.2.2 (hw.2.1 a ⟨by rw [ht]; decide, by rw [ht]; decide⟩) in_X9 tyX9 tyX9_ok nmX9 (ci := 9) rfl (cw_rw9 hw.1 ht) (k := 3) (by decide) hl (tx_X9 3 (by decide)) (by decide +kernel) hin (ty := (tyX9 3)) (by decide +kernel) rfl rfl (Nat.le_of_ble_eq_true rfl) pc' hp hdg (fun H1 locs1 hat hoth hsz hS => ?_)
  have h0 : upT T a (fun j => if j = 183 then (x + 1) else T j a) 0 a = T 0 a := upT_at _ _ _ _
  have ho : OW0 T (upT T a (fun j => if j = 183 then (x + 1) else T j a)) := OW0.of (fun b => by
    by_cases e : b = a
    · subst e; exact h0
    · exact upT_ne 0 e)
  refine kk (upT T a (fun j => if j = 183 then (x + 1) else T j a)) H1 locs1 (fun b hb j => upT_ne j hb) (fun j hj => (upT_at _ _ _ _).trans (if_neg hj)) ((upT_at _ _ _ _).trans (if_pos rfl)) ho ⟨?_, fun b hb => hw.2.1 b ((ho b).1 hb), hS⟩
  refine cw_set hw.1 (Or.inr (by rw [ht]; decide)) (fun b _ hb => hoth b hb) (show T 1 a < _ from hw.1.2.1.1 a) (fun e he => ?_) (by show cTT _ a (T 0 a); rw [ht]; trivial) (fun h => by have h : T 0 a = 10 := h; rw [ht] at h; cases h) (fun h => by have h : T 0 a = 26 := h; rw [ht] at h; cases h)
  have he : cEnt cy (fun j => if j = 183 then (x + 1) else T j a) (fun k => v k a) (rw_ v (T 0 a) a) (T 0 a) = some e := he
  rw [ht] at he
  cases he
  show va_at D vwCl (a, .inr (9, [va_rf (dcd (T 180 a)), va_rf (dcd (T 181 a)), va_rf (dcd (T 182 a)), va_rf (dcd (x + 1)), va_rf (dcd (T 184 a)), va_rf (dcd (T 185 a)), .int (J (v 186 a)), .int (J (v 187 a)), .int (J (v 188 a)), .int (J (v 189 a)), .int (J (v 190 a)), .int (J (v 191 a)), va_rf (dcd (T 192 a)), va_rf (dcd (T 193 a)), va_rf (dcd (T 194 a)), va_rf (dcd (T 195 a)), va_rf (dcd (T 196 a)), va_rf (dcd (T 197 a))])) H1
  rw [dcd_s]
  exact hat
theorem rr_184 (E : CX p s m args meth c RX9 cc nL ret) (hK : KK D cy s) (hw : WK D cy T v A0 H0 H locs) (hin : meth.name = "<init>") {ix : Nat} (hl : Cond.fieldLink RX9 ix RX9 (TX9 4).2.1 (TX9 4).2.2.1 ∈ gT) {a x : Nat} (ht : T 0 a = 109) (pc' : Nat) (hp : pc + 3 = pc') (hdg : decode cc pc = .ok (.putfield ix, 3)) (kk : ∀ (T2 : Nat → Nat → Nat) (H : Heap) (locs : List Loc), (∀ b, b ≠ a → ∀ j, T2 j b = T j b) → (∀ j, j ≠ 184 → T2 j a = T j a) → T2 184 a = (x + 1) → OW0 T T2 → WK D cy T2 v A0 H0 H locs → W p l e R s m args below meth c H locs cells slots Q (F0 m pc' ls rest)) : W p l e R s m args below meth c H locs cells slots Q (F0 m pc ls (.ref x :: .ref a :: rest)) := by
  refine x_putF E hK hw.2.2 (hw.2.1 a ⟨by rw [ht]; decide, by rw [ht]; decide⟩) in_X9 tyX9 tyX9_ok nmX9 (ci := 9) rfl (cw_rw9 hw.1 ht) (k := 4) (by decide) hl (tx_X9 4 (by decide)) (by decide +kernel) hin (ty := (tyX9 4)) (by decide +kernel) rfl rfl (Nat.le_of_ble_eq_true rfl) pc' hp hdg (fun H1 locs1 hat hoth hsz hS => ?_)
  have h0 : upT T a (fun j => if j = 184 then (x + 1) else T j a) 0 a = T 0 a := upT_at _ _ _ _
  have ho : OW0 T (upT T a (fun j => if j = 184 then (x + 1) else T j a)) := OW0.of (fun b => by
    by_cases e : b = a
    · subst e; exact h0
    · exact upT_ne 0 e)
  refine kk (upT T a (fun j => if j = 184 then (x + 1) else T j a)) H1 locs1 (fun b hb j => upT_ne j hb) (fun j hj => (upT_at _ _ _ _).trans (if_neg hj)) ((upT_at _ _ _ _).trans (if_pos rfl)) ho ⟨?_, fun b hb => hw.2.1 b ((ho b).1 hb), hS⟩
  refine cw_set hw.1 (Or.inr (by rw [ht]; decide)) (fun b _ hb => hoth b hb) (show T 1 a < _ from hw.1.2.1.1 a) (fun e he => ?_) (by show cTT _ a (T 0 a); rw [ht]; trivial) (fun h => by have h : T 0 a = 10 := h; rw [ht] at h; cases h) (fun h => by have h : T 0 a = 26 := h; rw [ht] at h; cases h)
  have he : cEnt cy (fun j => if j = 184 then (x + 1) else T j a) (fun k => v k a) (rw_ v (T 0 a) a) (T 0 a) = some e := he
  rw [ht] at he
  cases he
  show va_at D vwCl (a, .inr (9, [va_rf (dcd (T 180 a)), va_rf (dcd (T 181 a)), va_rf (dcd (T 182 a)), va_rf (dcd (T 183 a)), va_rf (dcd (x + 1)), va_rf (dcd (T 185 a)), .int (J (v 186 a)), .int (J (v 187 a)), .int (J (v 188 a)), .int (J (v 189 a)), .int (J (v 190 a)), .int (J (v 191 a)), va_rf (dcd (T 192 a)), va_rf (dcd (T 193 a)), va_rf (dcd (T 194 a)), va_rf (dcd (T 195 a)), va_rf (dcd (T 196 a)), va_rf (dcd (T 197 a))])) H1
  rw [dcd_s]
  exact hat
theorem rr_185 (E : CX p s m args meth c RX9 cc nL ret) (hK : KK D cy s) (hw : WK D cy T v A0 H0 H locs) (hin : meth.name = "<init>") {ix : Nat} (hl : Cond.fieldLink RX9 ix RX9 (TX9 5).2.1 (TX9 5).2.2.1 ∈ gT) {a x : Nat} (ht : T 0 a = 109) (pc' : Nat) (hp : pc + 3 = pc') (hdg : decode cc pc = .ok (.putfield ix, 3)) (kk : ∀ (T2 : Nat → Nat → Nat) (H : Heap) (locs : List Loc), (∀ b, b ≠ a → ∀ j, T2 j b = T j b) → (∀ j, j ≠ 185 → T2 j a = T j a) → T2 185 a = (x + 1) → OW0 T T2 → WK D cy T2 v A0 H0 H locs → W p l e R s m args below meth c H locs cells slots Q (F0 m pc' ls rest)) : W p l e R s m args below meth c H locs cells slots Q (F0 m pc ls (.ref x :: .ref a :: rest)) := by
  refine x_putF E hK hw.2.2 (hw.2.1 a ⟨by rw [ht]; decide, by rw [ht]; decide⟩) in_X9 tyX9 tyX9_ok nmX9 (ci := 9) rfl (cw_rw9 hw.1 ht) (k := 5) (by decide) hl (tx_X9 5 (by decide)) (by decide +kernel) hin (ty := (tyX9 5)) (by decide +kernel) rfl rfl (Nat.le_of_ble_eq_true rfl) pc' hp hdg (fun H1 locs1 hat hoth hsz hS => ?_)
  have h0 : upT T a (fun j => if j = 185 then (x + 1) else T j a) 0 a = T 0 a := upT_at _ _ _ _
  have ho : OW0 T (upT T a (fun j => if j = 185 then (x + 1) else T j a)) := OW0.of (fun b => by
    by_cases e : b = a
    · subst e; exact h0
    · exact upT_ne 0 e)
  refine kk (upT T a (fun j => if j = 185 then (x + 1) else T j a)) H1 locs1 (fun b hb j => upT_ne j hb) (fun j hj => (upT_at _ _ _ _).trans (if_neg hj)) ((upT_at _ _ _ _).trans (if_pos rfl)) ho ⟨?_, fun b hb => hw.2.1 b ((ho b).1 hb), hS⟩
  refine cw_set hw.1 (Or.inr (by rw [ht]; decide)) (fun b _ hb => hoth b hb) (show T 1 a < _ from hw.1.2.1.1 a) (fun e he => ?_) (by show cTT _ a (T 0 a); rw [ht]; trivial) (fun h => by have h : T 0 a = 10 := h; rw [ht] at h; cases h) (fun h => by have h : T 0 a = 26 := h; rw [ht] at h; cases h)
  have he : cEnt cy (fun j => if j = 185 then (x + 1) else T j a) (fun k => v k a) (rw_ v (T 0 a) a) (T 0 a) = some e := he
  rw [ht] at he
  cases he
  show va_at D vwCl (a, .inr (9, [va_rf (dcd (T 180 a)), va_rf (dcd (T 181 a)), va_rf (dcd (T 182 a)), va_rf (dcd (T 183 a)), va_rf (dcd (T 184 a)), va_rf (dcd (x + 1)), .int (J (v 186 a)), .int (J (v 187 a)), .int (J (v 188 a)), .int (J (v 189 a)), .int (J (v 190 a)), .int (J (v 191 a)), va_rf (dcd (T 192 a)), va_rf (dcd (T 193 a)), va_rf (dcd (T 194 a)), va_rf (dcd (T 195 a)), va_rf (dcd (T 196 a)), va_rf (dcd (T 197 a))])) H1
  rw [dcd_s]
  exact hat
theorem rp_186 (E : CX p s m args meth c own cc nL ret) (hK : KK D cy s) (hw : WK D cy T v A0 H0 H locs) {ix : Nat} (hl : Cond.fieldLink own ix RX9 (TX9 6).2.1 (TX9 6).2.2.1 ∈ gT) {a : Nat} (ht : T 0 a = 109) {z : Int} (hz : inR z) (pc' : Nat) (hp : pc + 3 = pc') (hdg : decode cc pc = .ok (.putfield ix, 3)) (kk : ∀ (H : Heap) (locs : List Loc), WK D cy T (upV v 186 (upB (v 186) a z)) A0 H0 H locs → W p l e R s m args below meth c H locs cells slots Q (F0 m pc' ls rest)) : W p l e R s m args below meth c H locs cells slots Q (F0 m pc ls (.int (J z) :: .ref a :: rest)) := by
  refine x_put E hK hw.2.2 (hw.2.1 a ⟨by rw [ht]; decide, by rw [ht]; decide⟩) in_X9 tyX9 tyX9_ok nmX9 (ci := 9) rfl (cw_rw9 hw.1 ht) (k := 6) (by decide) hl (fun x h => by rw [tx_X9 6 (by decide)] at h; exact h) (by decide +kernel) (ty := .int) (by decide +kernel) rfl rfl (Nat.le_of_ble_eq_true rfl) pc' hp hdg (fun H1 locs1 hat hoth hsz hS => ?_)
  refine kk H1 locs1 ⟨cw_put hw.1 (by decide) ht hz hoth (show WL T v from hw.1.2.2.1) (fun γ e he => ?_), hw.2.1, hS⟩
  cases he
  show va_at D vwCl (a, .inr (9, [va_rf (dcd (T 180 a)), va_rf (dcd (T 181 a)), va_rf (dcd (T 182 a)), va_rf (dcd (T 183 a)), va_rf (dcd (T 184 a)), va_rf (dcd (T 185 a)), .int (J (upB (v 186) a z a)), .int (J (v 187 a)), .int (J (v 188 a)), .int (J (v 189 a)), .int (J (v 190 a)), .int (J (v 191 a)), va_rf (dcd (T 192 a)), va_rf (dcd (T 193 a)), va_rf (dcd (T 194 a)), va_rf (dcd (T 195 a)), va_rf (dcd (T 196 a)), va_rf (dcd (T 197 a))])) H1
  rw [upB_same]
  exact hat
theorem rp_187 (E : CX p s m args meth c own cc nL ret) (hK : KK D cy s) (hw : WK D cy T v A0 H0 H locs) {ix : Nat} (hl : Cond.fieldLink own ix RX9 (TX9 7).2.1 (TX9 7).2.2.1 ∈ gT) {a : Nat} (ht : T 0 a = 109) {z : Int} (hz : inR z) (pc' : Nat) (hp : pc + 3 = pc') (hdg : decode cc pc = .ok (.putfield ix, 3)) (kk : ∀ (H : Heap) (locs : List Loc), WK D cy T (upV v 187 (upB (v 187) a z)) A0 H0 H locs → W p l e R s m args below meth c H locs cells slots Q (F0 m pc' ls rest)) : W p l e R s m args below meth c H locs cells slots Q (F0 m pc ls (.int (J z) :: .ref a :: rest)) := by
  refine x_put E hK hw.2.2 (hw.2.1 a ⟨by rw [ht]; decide, by rw [ht]; decide⟩) in_X9 tyX9 tyX9_ok nmX9 (ci := 9) rfl (cw_rw9 hw.1 ht) (k := 7) (by decide) hl (fun x h => by rw [tx_X9 7 (by decide)] at h; exact h) (by decide +kernel) (ty := .int) (by decide +kernel) rfl rfl (Nat.le_of_ble_eq_true rfl) pc' hp hdg (fun H1 locs1 hat hoth hsz hS => ?_)
  refine kk H1 locs1 ⟨cw_put hw.1 (by decide) ht hz hoth (show WL T v from hw.1.2.2.1) (fun γ e he => ?_), hw.2.1, hS⟩
  cases he
  show va_at D vwCl (a, .inr (9, [va_rf (dcd (T 180 a)), va_rf (dcd (T 181 a)), va_rf (dcd (T 182 a)), va_rf (dcd (T 183 a)), va_rf (dcd (T 184 a)), va_rf (dcd (T 185 a)), .int (J (v 186 a)), .int (J (upB (v 187) a z a)), .int (J (v 188 a)), .int (J (v 189 a)), .int (J (v 190 a)), .int (J (v 191 a)), va_rf (dcd (T 192 a)), va_rf (dcd (T 193 a)), va_rf (dcd (T 194 a)), va_rf (dcd (T 195 a)), va_rf (dcd (T 196 a)), va_rf (dcd (T 197 a))])) H1
  rw [upB_same]
  exact hat
theorem rp_188 (E : CX p s m args meth c own cc nL ret) (hK : KK D cy s) (hw : WK D cy T v A0 H0 H locs) {ix : Nat} (hl : Cond.fieldLink own ix RX9 (TX9 8).2.1 (TX9 8).2.2.1 ∈ gT) {a : Nat} (ht : T 0 a = 109) {z : Int} (hz : inR z) (pc' : Nat) (hp : pc + 3 = pc') (hdg : decode cc pc = .ok (.putfield ix, 3)) (kk : ∀ (H : Heap) (locs : List Loc), WK D cy T (upV v 188 (upB (v 188) a z)) A0 H0 H locs → W p l e R s m args below meth c H locs cells slots Q (F0 m pc' ls rest)) : W p l e R s m args below meth c H locs cells slots Q (F0 m pc ls (.int (J z) :: .ref a :: rest)) := by
  refine x_put E hK hw.2.2 (hw.2.1 a ⟨by rw [ht]; decide, by rw [ht]; decide⟩) in_X9 tyX9 tyX9_ok nmX9 (ci := 9) rfl (cw_rw9 hw.1 ht) (k := 8) (by decide) hl (fun x h => by rw [tx_X9 8 (by decide)] at h; exact h) (by decide +kernel) (ty := .int) (by decide +kernel) rfl rfl (Nat.le_of_ble_eq_true rfl) pc' hp hdg (fun H1 locs1 hat hoth hsz hS => ?_)
  refine kk H1 locs1 ⟨cw_put hw.1 (by decide) ht hz hoth (show WL T v from hw.1.2.2.1) (fun γ e he => ?_), hw.2.1, hS⟩
  cases he
  show va_at D vwCl (a, .inr (9, [va_rf (dcd (T 180 a)), va_rf (dcd (T 181 a)), va_rf (dcd (T 182 a)), va_rf (dcd (T 183 a)), va_rf (dcd (T 184 a)), va_rf (dcd (T 185 a)), .int (J (v 186 a)), .int (J (v 187 a)), .int (J (upB (v 188) a z a)), .int (J (v 189 a)), .int (J (v 190 a)), .int (J (v 191 a)), va_rf (dcd (T 192 a)), va_rf (dcd (T 193 a)), va_rf (dcd (T 194 a)), va_rf (dcd (T 195 a)), va_rf (dcd (T 196 a)), va_rf (dcd (T 197 a))])) H1
  rw [upB_same]
  exact hat
theorem rp_189 (E : CX p s m args meth c own cc nL ret) (hK : KK D cy s) (hw : WK D cy T v A0 H0 H locs) {ix : Nat} (hl : Cond.fieldLink own ix RX9 (TX9 9).2.1 (TX9 9).2.2.1 ∈ gT) {a : Nat} (ht : T 0 a = 109) {z : Int} (hz : inR z) (pc' : Nat) (hp : pc + 3 = pc') (hdg : decode cc pc = .ok (.putfield ix, 3)) (kk : ∀ (H : Heap) (locs : List Loc), WK D cy T (upV v 189 (upB (v 189) a z)) A0 H0 H locs → W p l e R s m args below meth c H locs cells slots Q (F0 m pc' ls rest)) : W p l e R s m args below meth c H locs cells slots Q (F0 m pc ls (.int (J z) :: .ref a :: rest)) := by
  refine x_put E hK hw.2.2 (hw.2.1 a ⟨by rw [ht]; decide, by rw [ht]; decide⟩) in_X9 tyX9 tyX9_ok nmX9 (ci := 9) rfl (cw_rw9 hw.1 ht) (k := 9) (by decide) hl (fun x h => by rw [tx_X9 9 (by decide)] at h; exact h) (by decide +kernel) (ty := .int) (by decide +kernel) rfl rfl (Nat.le_of_ble_eq_true rfl) pc' hp hdg (fun H1 locs1 hat hoth hsz hS => ?_)
  refine kk H1 locs1 ⟨cw_put hw.1 (by decide) ht hz hoth (show WL T v from hw.1.2.2.1) (fun γ e he => ?_), hw.2.1, hS⟩
  cases he
  show va_at D vwCl (a, .inr (9, [va_rf (dcd (T 180 a)), va_rf (dcd (T 181 a)), va_rf (dcd (T 182 a)), va_rf (dcd (T 183 a)), va_rf (dcd (T 184 a)), va_rf (dcd (T 185 a)), .int (J (v 186 a)), .int (J (v 187 a)), .int (J (v 188 a)), .int (J (upB (v 189) a z a)), .int (J (v 190 a)), .int (J (v 191 a)), va_rf (dcd (T 192 a)), va_rf (dcd (T 193 a)), va_rf (dcd (T 194 a)), va_rf (dcd (T 195 a)), va_rf (dcd (T 196 a)), va_rf (dcd (T 197 a))])) H1
  rw [upB_same]
  exact hat
theorem rp_190 (E : CX p s m args meth c own cc nL ret) (hK : KK D cy s) (hw : WK D cy T v A0 H0 H locs) {ix : Nat} (hl : Cond.fieldLink own ix RX9 (TX9 10).2.1 (TX9 10).2.2.1 ∈ gT) {a : Nat} (ht : T 0 a = 109) {z : Int} (hz : inR z) (pc' : Nat) (hp : pc + 3 = pc') (hdg : decode cc pc = .ok (.putfield ix, 3)) (kk : ∀ (H : Heap) (locs : List Loc), WK D cy T (upV v 190 (upB (v 190) a z)) A0 H0 H locs → W p l e R s m args below meth c H locs cells slots Q (F0 m pc' ls rest)) : W p l e R s m args below meth c H locs cells slots Q (F0 m pc ls (.int (J z) :: .ref a :: rest)) := by
  refine x_put E hK hw.2.2 (hw.2.1 a ⟨by rw [ht]; decide, by rw [ht]; decide⟩) in_X9 tyX9 tyX9_ok nmX9 (ci := 9) rfl (cw_rw9 hw.1 ht) (k := 10) (by decide) hl (fun x h => by rw [tx_X9 10 (by decide)] at h; exact h) (by decide +kernel) (ty := .int) (by decide +kernel) rfl rfl (Nat.le_of_ble_eq_true rfl) pc' hp hdg (fun H1 locs1 hat hoth hsz hS => ?_)
  refine kk H1 locs1 ⟨cw_put hw.1 (by decide) ht hz hoth (show WL T v from hw.1.2.2.1) (fun γ e he => ?_), hw.2.1, hS⟩
  cases he
  show va_at D vwCl (a, .inr (9, [va_rf (dcd (T 180 a)), va_rf (dcd (T 181 a)), va_rf (dcd (T 182 a)), va_rf (dcd (T 183 a)), va_rf (dcd (T 184 a)), va_rf (dcd (T 185 a)), .int (J (v 186 a)), .int (J (v 187 a)), .int (J (v 188 a)), .int (J (v 189 a)), .int (J (upB (v 190) a z a)), .int (J (v 191 a)), va_rf (dcd (T 192 a)), va_rf (dcd (T 193 a)), va_rf (dcd (T 194 a)), va_rf (dcd (T 195 a)), va_rf (dcd (T 196 a)), va_rf (dcd (T 197 a))])) H1
  rw [upB_same]
  exact hat
theorem rp_191 (E : CX p s m args meth c own cc nL ret) (hK : KK D cy s) (hw : WK D cy T v A0 H0 H locs) {ix : Nat} (hl : Cond.fieldLink own ix RX9 (TX9 11).2.1 (TX9 11).2.2.1 ∈ gT) {a : Nat} (ht : T 0 a = 109) {z : Int} (hz : inR z) (pc' : Nat) (hp : pc + 3 = pc') (hdg : decode cc pc = .ok (.putfield ix, 3)) (kk : ∀ (H : Heap) (locs : List Loc), WK D cy T (upV v 191 (upB (v 191) a z)) A0 H0 H locs → W p l e R s m args below meth c H locs cells slots Q (F0 m pc' ls rest)) : W p l e R s m args below meth c H locs cells slots Q (F0 m pc ls (.int (J z) :: .ref a :: rest)) := by
  refine x_put E hK hw.2.2 (hw.2.1 a ⟨by rw [ht]; decide, by rw [ht]; decide⟩) in_X9 tyX9 tyX9_ok nmX9 (ci := 9) rfl (cw_rw9 hw.1 ht) (k := 11) (by decide) hl (fun x h => by rw [tx_X9 11 (by decide)] at h; exact h) (by decide +kernel) (ty := .int) (by decide +kernel) rfl rfl (Nat.le_of_ble_eq_true rfl) pc' hp hdg (fun H1 locs1 hat hoth hsz hS => ?_)
  refine kk H1 locs1 ⟨cw_put hw.1 (by decide) ht hz hoth (show WL T v from hw.1.2.2.1) (fun γ e he => ?_), hw.2.1, hS⟩
  cases he
  show va_at D vwCl (a, .inr (9, [va_rf (dcd (T 180 a)), va_rf (dcd (T 181 a)), va_rf (dcd (T 182 a)), va_rf (dcd (T 183 a)), va_rf (dcd (T 184 a)), va_rf (dcd (T 185 a)), .int (J (v 186 a)), .int (J (v 187 a)), .int (J (v 188 a)), .int (J (v 189 a)), .int (J (v 190 a)), .int (J (upB (v 191) a z a)), va_rf (dcd (T 192 a)), va_rf (dcd (T 193 a)), va_rf (dcd (T 194 a)), va_rf (dcd (T 195 a)), va_rf (dcd (T 196 a)), va_rf (dcd (T 197 a))])) H1
  rw [upB_same]
  exact hat
theorem rr_192 (E : CX p s m args meth c RX9 cc nL ret) (hK : KK D cy s) (hw : WK D cy T v A0 H0 H locs) (hin : meth.name = "<init>") {ix : Nat} (hl : Cond.fieldLink RX9 ix RX9 (TX9 12).2.1 (TX9 12).2.2.1 ∈ gT) {a x : Nat} (ht : T 0 a = 109) (pc' : Nat) (hp : pc + 3 = pc') (hdg : decode cc pc = .ok (.putfield ix, 3)) (kk : ∀ (T2 : Nat → Nat → Nat) (H : Heap) (locs : List Loc), (∀ b, b ≠ a → ∀ j, T2 j b = T j b) → (∀ j, j ≠ 192 → T2 j a = T j a) → T2 192 a = (x + 1) → OW0 T T2 → WK D cy T2 v A0 H0 H locs → W p l e R s m args below meth c H locs cells slots Q (F0 m pc' ls rest)) : W p l e R s m args below meth c H locs cells slots Q (F0 m pc ls (.ref x :: .ref a :: rest)) := by
  refine x_putF E hK hw.2.2 (hw.2.1 a ⟨by rw [ht]; decide, by rw [ht]; decide⟩) in_X9 tyX9 tyX9_ok nmX9 (ci := 9) rfl (cw_rw9 hw.1 ht) (k := 12) (by decide) hl (tx_X9 12 (by decide)) (by decide +kernel) hin (ty := (tyX9 12)) (by decide +kernel) rfl rfl (Nat.le_of_ble_eq_true rfl) pc' hp hdg (fun H1 locs1 hat hoth hsz hS => ?_)
  have h0 : upT T a (fun j => if j = 192 then (x + 1) else T j a) 0 a = T 0 a := upT_at _ _ _ _
  have ho : OW0 T (upT T a (fun j => if j = 192 then (x + 1) else T j a)) := OW0.of (fun b => by
    by_cases e : b = a
    · subst e; exact h0
    · exact upT_ne 0 e)
  refine kk (upT T a (fun j => if j = 192 then (x + 1) else T j a)) H1 locs1 (fun b hb j => upT_ne j hb) (fun j hj => (upT_at _ _ _ _).trans (if_neg hj)) ((upT_at _ _ _ _).trans (if_pos rfl)) ho ⟨?_, fun b hb => hw.2.1 b ((ho b).1 hb), hS⟩
  refine cw_set hw.1 (Or.inr (by rw [ht]; decide)) (fun b _ hb => hoth b hb) (show T 1 a < _ from hw.1.2.1.1 a) (fun e he => ?_) (by show cTT _ a (T 0 a); rw [ht]; trivial) (fun h => by have h : T 0 a = 10 := h; rw [ht] at h; cases h) (fun h => by have h : T 0 a = 26 := h; rw [ht] at h; cases h)
  have he : cEnt cy (fun j => if j = 192 then (x + 1) else T j a) (fun k => v k a) (rw_ v (T 0 a) a) (T 0 a) = some e := he
  rw [ht] at he
  cases he
  show va_at D vwCl (a, .inr (9, [va_rf (dcd (T 180 a)), va_rf (dcd (T 181 a)), va_rf (dcd (T 182 a)), va_rf (dcd (T 183 a)), va_rf (dcd (T 184 a)), va_rf (dcd (T 185 a)), .int (J (v 186 a)), .int (J (v 187 a)), .int (J (v 188 a)), .int (J (v 189 a)), .int (J (v 190 a)), .int (J (v 191 a)), va_rf (dcd (x + 1)), va_rf (dcd (T 193 a)), va_rf (dcd (T 194 a)), va_rf (dcd (T 195 a)), va_rf (dcd (T 196 a)), va_rf (dcd (T 197 a))])) H1
  rw [dcd_s]
  exact hat
theorem rr_193 (E : CX p s m args meth c RX9 cc nL ret) (hK : KK D cy s) (hw : WK D cy T v A0 H0 H locs) (hin : meth.name = "<init>") {ix : Nat} (hl : Cond.fieldLink RX9 ix RX9 (TX9 13).2.1 (TX9 13).2.2.1 ∈ gT) {a x : Nat} (ht : T 0 a = 109) (pc' : Nat) (hp : pc + 3 = pc') (hdg : decode cc pc = .ok (.putfield ix, 3)) (kk : ∀ (T2 : Nat → Nat → Nat) (H : Heap) (locs : List Loc), (∀ b, b ≠ a → ∀ j, T2 j b = T j b) → (∀ j, j ≠ 193 → T2 j a = T j a) → T2 193 a = (x + 1) → OW0 T T2 → WK D cy T2 v A0 H0 H locs → W p l e R s m args below meth c H locs cells slots Q (F0 m pc' ls rest)) : W p l e R s m args below meth c H locs cells slots Q (F0 m pc ls (.ref x :: .ref a :: rest)) := by
  refine x_putF E hK hw.2.2 (hw.2.1 a ⟨by rw [ht]; decide, by rw [ht]; decide⟩) in_X9 tyX9 tyX9_ok nmX9 (ci := 9) rfl (cw_rw9 hw.1 ht) (k := 13) (by decide) hl (tx_X9 13 (by decide)) (by decide +kernel) hin (ty := (tyX9 13)) (by decide +kernel) rfl rfl (Nat.le_of_ble_eq_true rfl) pc' hp hdg (fun H1 locs1 hat hoth hsz hS => ?_)
  have h0 : upT T a (fun j => if j = 193 then (x + 1) else T j a) 0 a = T 0 a := upT_at _ _ _ _
  have ho : OW0 T (upT T a (fun j => if j = 193 then (x + 1) else T j a)) := OW0.of (fun b => by
    by_cases e : b = a
    · subst e; exact h0
    · exact upT_ne 0 e)
  refine kk (upT T a (fun j => if j = 193 then (x + 1) else T j a)) H1 locs1 (fun b hb j => upT_ne j hb) (fun j hj => (upT_at _ _ _ _).trans (if_neg hj)) ((upT_at _ _ _ _).trans (if_pos rfl)) ho ⟨?_, fun b hb => hw.2.1 b ((ho b).1 hb), hS⟩
  refine cw_set hw.1 (Or.inr (by rw [ht]; decide)) (fun b _ hb => hoth b hb) (show T 1 a < _ from hw.1.2.1.1 a) (fun e he => ?_) (by show cTT _ a (T 0 a); rw [ht]; trivial) (fun h => by have h : T 0 a = 10 := h; rw [ht] at h; cases h) (fun h => by have h : T 0 a = 26 := h; rw [ht] at h; cases h)
  have he : cEnt cy (fun j => if j = 193 then (x + 1) else T j a) (fun k => v k a) (rw_ v (T 0 a) a) (T 0 a) = some e := he
  rw [ht] at he
  cases he
  show va_at D vwCl (a, .inr (9, [va_rf (dcd (T 180 a)), va_rf (dcd (T 181 a)), va_rf (dcd (T 182 a)), va_rf (dcd (T 183 a)), va_rf (dcd (T 184 a)), va_rf (dcd (T 185 a)), .int (J (v 186 a)), .int (J (v 187 a)), .int (J (v 188 a)), .int (J (v 189 a)), .int (J (v 190 a)), .int (J (v 191 a)), va_rf (dcd (T 192 a)), va_rf (dcd (x + 1)), va_rf (dcd (T 194 a)), va_rf (dcd (T 195 a)), va_rf (dcd (T 196 a)), va_rf (dcd (T 197 a))])) H1
  rw [dcd_s]
  exact hat
theorem rr_194 (E : CX p s m args meth c RX9 cc nL ret) (hK : KK D cy s) (hw : WK D cy T v A0 H0 H locs) (hin : meth.name = "<init>") {ix : Nat} (hl : Cond.fieldLink RX9 ix RX9 (TX9 14).2.1 (TX9 14).2.2.1 ∈ gT) {a x : Nat} (ht : T 0 a = 109) (pc' : Nat) (hp : pc + 3 = pc') (hdg : decode cc pc = .ok (.putfield ix, 3)) (kk : ∀ (T2 : Nat → Nat → Nat) (H : Heap) (locs : List Loc), (∀ b, b ≠ a → ∀ j, T2 j b = T j b) → (∀ j, j ≠ 194 → T2 j a = T j a) → T2 194 a = (x + 1) → OW0 T T2 → WK D cy T2 v A0 H0 H locs → W p l e R s m args below meth c H locs cells slots Q (F0 m pc' ls rest)) : W p l e R s m args below meth c H locs cells slots Q (F0 m pc ls (.ref x :: .ref a :: rest)) := by
  refine x_putF E hK hw.2.2 (hw.2.1 a ⟨by rw [ht]; decide, by rw [ht]; decide⟩) in_X9 tyX9 tyX9_ok nmX9 (ci := 9) rfl (cw_rw9 hw.1 ht) (k := 14) (by decide) hl (tx_X9 14 (by decide)) (by decide +kernel) hin (ty := (tyX9 14)) (by decide +kernel) rfl rfl (Nat.le_of_ble_eq_true rfl) pc' hp hdg (fun H1 locs1 hat hoth hsz hS => ?_)
  have h0 : upT T a (fun j => if j = 194 then (x + 1) else T j a) 0 a = T 0 a := upT_at _ _ _ _
  have ho : OW0 T (upT T a (fun j => if j = 194 then (x + 1) else T j a)) := OW0.of (fun b => by
    by_cases e : b = a
    · subst e; exact h0
    · exact upT_ne 0 e)
  refine kk (upT T a (fun j => if j = 194 then (x + 1) else T j a)) H1 locs1 (fun b hb j => upT_ne j hb) (fun j hj => (upT_at _ _ _ _).trans (if_neg hj)) ((upT_at _ _ _ _).trans (if_pos rfl)) ho ⟨?_, fun b hb => hw.2.1 b ((ho b).1 hb), hS⟩
  refine cw_set hw.1 (Or.inr (by rw [ht]; decide)) (fun b _ hb => hoth b hb) (show T 1 a < _ from hw.1.2.1.1 a) (fun e he => ?_) (by show cTT _ a (T 0 a); rw [ht]; trivial) (fun h => by have h : T 0 a = 10 := h; rw [ht] at h; cases h) (fun h => by have h : T 0 a = 26 := h; rw [ht] at h; cases h)
  have he : cEnt cy (fun j => if j = 194 then (x + 1) else T j a) (fun k => v k a) (rw_ v (T 0 a) a) (T 0 a) = some e := he
  rw [ht] at he
  cases he
  show va_at D vwCl (a, .inr (9, [va_rf (dcd (T 180 a)), va_rf (dcd (T 181 a)), va_rf (dcd (T 182 a)), va_rf (dcd (T 183 a)), va_rf (dcd (T 184 a)), va_rf (dcd (T 185 a)), .int (J (v 186 a)), .int (J (v 187 a)), .int (J (v 188 a)), .int (J (v 189 a)), .int (J (v 190 a)), .int (J (v 191 a)), va_rf (dcd (T 192 a)), va_rf (dcd (T 193 a)), va_rf (dcd (x + 1)), va_rf (dcd (T 195 a)), va_rf (dcd (T 196 a)), va_rf (dcd (T 197 a))])) H1
  rw [dcd_s]
  exact hat
theorem rr_195 (E : CX p s m args meth c RX9 cc nL ret) (hK : KK D cy s) (hw : WK D cy T v A0 H0 H locs) (hin : meth.name = "<init>") {ix : Nat} (hl : Cond.fieldLink RX9 ix RX9 (TX9 15).2.1 (TX9 15).2.2.1 ∈ gT) {a x : Nat} (ht : T 0 a = 109) (pc' : Nat) (hp : pc + 3 = pc') (hdg : decode cc pc = .ok (.putfield ix, 3)) (kk : ∀ (T2 : Nat → Nat → Nat) (H : Heap) (locs : List Loc), (∀ b, b ≠ a → ∀ j, T2 j b = T j b) → (∀ j, j ≠ 195 → T2 j a = T j a) → T2 195 a = (x + 1) → OW0 T T2 → WK D cy T2 v A0 H0 H locs → W p l e R s m args below meth c H locs cells slots Q (F0 m pc' ls rest)) : W p l e R s m args below meth c H locs cells slots Q (F0 m pc ls (.ref x :: .ref a :: rest)) := by
  refine x_putF E hK hw.2.2 (hw.2.1 a ⟨by rw [ht]; decide, by rw [ht]; decide⟩) in_X9 tyX9 tyX9_ok nmX9 (ci := 9) rfl (cw_rw9 hw.1 ht) (k := 15) (by decide) hl (tx_X9 15 (by decide)) (by decide +kernel) hin (ty := (tyX9 15)) (by decide +kernel) rfl rfl (Nat.le_of_ble_eq_true rfl) pc' hp hdg (fun H1 locs1 hat hoth hsz hS => ?_)
  have h0 : upT T a (fun j => if j = 195 then (x + 1) else T j a) 0 a = T 0 a := upT_at _ _ _ _
  have ho : OW0 T (upT T a (fun j => if j = 195 then (x + 1) else T j a)) := OW0.of (fun b => by
    by_cases e : b = a
    · subst e; exact h0
    · exact upT_ne 0 e)
  refine kk (upT T a (fun j => if j = 195 then (x + 1) else T j a)) H1 locs1 (fun b hb j => upT_ne j hb) (fun j hj => (upT_at _ _ _ _).trans (if_neg hj)) ((upT_at _ _ _ _).trans (if_pos rfl)) ho ⟨?_, fun b hb => hw.2.1 b ((ho b).1 hb), hS⟩
  refine cw_set hw.1 (Or.inr (by rw [ht]; decide)) (fun b _ hb => hoth b hb) (show T 1 a < _ from hw.1.2.1.1 a) (fun e he => ?_) (by show cTT _ a (T 0 a); rw [ht]; trivial) (fun h => by have h : T 0 a = 10 := h; rw [ht] at h; cases h) (fun h => by have h : T 0 a = 26 := h; rw [ht] at h; cases h)
  have he : cEnt cy (fun j => if j = 195 then (x + 1) else T j a) (fun k => v k a) (rw_ v (T 0 a) a) (T 0 a) = some e := he
  rw [ht] at he
  cases he
  show va_at D vwCl (a, .inr (9, [va_rf (dcd (T 180 a)), va_rf (dcd (T 181 a)), va_rf (dcd (T 182 a)), va_rf (dcd (T 183 a)), va_rf (dcd (T 184 a)), va_rf (dcd (T 185 a)), .int (J (v 186 a)), .int (J (v 187 a)), .int (J (v 188 a)), .int (J (v 189 a)), .int (J (v 190 a)), .int (J (v 191 a)), va_rf (dcd (T 192 a)), va_rf (dcd (T 193 a)), va_rf (dcd (T 194 a)), va_rf (dcd (x + 1)), va_rf (dcd (T 196 a)), va_rf (dcd (T 197 a))])) H1
  rw [dcd_s]
  exact hat
theorem rr_196 (E : CX p s m args meth c RX9 cc nL ret) (hK : KK D cy s) (hw : WK D cy T v A0 H0 H locs) (hin : meth.name = "<init>") {ix : Nat} (hl : Cond.fieldLink RX9 ix RX9 (TX9 16).2.1 (TX9 16).2.2.1 ∈ gT) {a x : Nat} (ht : T 0 a = 109) (pc' : Nat) (hp : pc + 3 = pc') (hdg : decode cc pc = .ok (.putfield ix, 3)) (kk : ∀ (T2 : Nat → Nat → Nat) (H : Heap) (locs : List Loc), (∀ b, b ≠ a → ∀ j, T2 j b = T j b) → (∀ j, j ≠ 196 → T2 j a = T j a) → T2 196 a = (x + 1) → OW0 T T2 → WK D cy T2 v A0 H0 H locs → W p l e R s m args below meth c H locs cells slots Q (F0 m pc' ls rest)) : W p l e R s m args below meth c H locs cells slots Q (F0 m pc ls (.ref x :: .ref a :: rest)) := by
  refine x_putF E hK hw.2.2 (hw.2.1 a ⟨by rw [ht]; decide, by rw [ht]; decide⟩) in_X9 tyX9 tyX9_ok nmX9 (ci := 9) rfl (cw_rw9 hw.1 ht) (k := 16) (by decide) hl (tx_X9 16 (by decide)) (by decide +kernel) hin (ty := (tyX9 16)) (by decide +kernel) rfl rfl (Nat.le_of_ble_eq_true rfl) pc' hp hdg (fun H1 locs1 hat hoth hsz hS => ?_)
  have h0 : upT T a (fun j => if j = 196 then (x + 1) else T j a) 0 a = T 0 a := upT_at _ _ _ _
  have ho : OW0 T (upT T a (fun j => if j = 196 then (x + 1) else T j a)) := OW0.of (fun b => by
    by_cases e : b = a
    · subst e; exact h0
    · exact upT_ne 0 e)
  refine kk (upT T a (fun j => if j = 196 then (x + 1) else T j a)) H1 locs1 (fun b hb j => upT_ne j hb) (fun j hj => (upT_at _ _ _ _).trans (if_neg hj)) ((upT_at _ _ _ _).trans (if_pos rfl)) ho ⟨?_, fun b hb => hw.2.1 b ((ho b).1 hb), hS⟩
  refine cw_set hw.1 (Or.inr (by rw [ht]; decide)) (fun b _ hb => hoth b hb) (show T 1 a < _ from hw.1.2.1.1 a) (fun e he => ?_) (by show cTT _ a (T 0 a); rw [ht]; trivial) (fun h => by have h : T 0 a = 10 := h; rw [ht] at h; cases h) (fun h => by have h : T 0 a = 26 := h; rw [ht] at h; cases h)
  have he : cEnt cy (fun j => if j = 196 then (x + 1) else T j a) (fun k => v k a) (rw_ v (T 0 a) a) (T 0 a) = some e := he
  rw [ht] at he
  cases he
  show va_at D vwCl (a, .inr (9, [va_rf (dcd (T 180 a)), va_rf (dcd (T 181 a)), va_rf (dcd (T 182 a)), va_rf (dcd (T 183 a)), va_rf (dcd (T 184 a)), va_rf (dcd (T 185 a)), .int (J (v 186 a)), .int (J (v 187 a)), .int (J (v 188 a)), .int (J (v 189 a)), .int (J (v 190 a)), .int (J (v 191 a)), va_rf (dcd (T 192 a)), va_rf (dcd (T 193 a)), va_rf (dcd (T 194 a)), va_rf (dcd (T 195 a)), va_rf (dcd (x + 1)), va_rf (dcd (T 197 a))])) H1
  rw [dcd_s]
  exact hat
theorem rr_197 (E : CX p s m args meth c own cc nL ret) (hK : KK D cy s) (hw : WK D cy T v A0 H0 H locs) {ix : Nat} (hl : Cond.fieldLink own ix RX9 (TX9 17).2.1 (TX9 17).2.2.1 ∈ gT) {a x : Nat} (ht : T 0 a = 109) (pc' : Nat) (hp : pc + 3 = pc') (hdg : decode cc pc = .ok (.putfield ix, 3)) (kk : ∀ (T2 : Nat → Nat → Nat) (H : Heap) (locs : List Loc), (∀ b, b ≠ a → ∀ j, T2 j b = T j b) → (∀ j, j ≠ 197 → T2 j a = T j a) → T2 197 a = (x + 1) → OW0 T T2 → WK D cy T2 v A0 H0 H locs → W p l e R s m args below meth c H locs cells slots Q (F0 m pc' ls rest)) : W p l e R s m args below meth c H locs cells slots Q (F0 m pc ls (.ref x :: .ref a :: rest)) := by
  refine x_put E hK hw.2.2 (hw.2.1 a ⟨by rw [ht]; decide, by rw [ht]; decide⟩) in_X9 tyX9 tyX9_ok nmX9 (ci := 9) rfl (cw_rw9 hw.1 ht) (k := 17) (by decide) hl (fun x h => by rw [tx_X9 17 (by decide)] at h; exact h) (by decide +kernel) (ty := (tyX9 17)) (by decide +kernel) rfl rfl (Nat.le_of_ble_eq_true rfl) pc' hp hdg (fun H1 locs1 hat hoth hsz hS => ?_)
  have h0 : upT T a (fun j => if j = 197 then (x + 1) else T j a) 0 a = T 0 a := upT_at _ _ _ _
  have ho : OW0 T (upT T a (fun j => if j = 197 then (x + 1) else T j a)) := OW0.of (fun b => by
    by_cases e : b = a
    · subst e; exact h0
    · exact upT_ne 0 e)
  refine kk (upT T a (fun j => if j = 197 then (x + 1) else T j a)) H1 locs1 (fun b hb j => upT_ne j hb) (fun j hj => (upT_at _ _ _ _).trans (if_neg hj)) ((upT_at _ _ _ _).trans (if_pos rfl)) ho ⟨?_, fun b hb => hw.2.1 b ((ho b).1 hb), hS⟩
  refine cw_set hw.1 (Or.inr (by rw [ht]; decide)) (fun b _ hb => hoth b hb) (show T 1 a < _ from hw.1.2.1.1 a) (fun e he => ?_) (by show cTT _ a (T 0 a); rw [ht]; trivial) (fun h => by have h : T 0 a = 10 := h; rw [ht] at h; cases h) (fun h => by have h : T 0 a = 26 := h; rw [ht] at h; cases h)
  have he : cEnt cy (fun j => if j = 197 then (x + 1) else T j a) (fun k => v k a) (rw_ v (T 0 a) a) (T 0 a) = some e := he
  rw [ht] at he
  cases he
  show va_at D vwCl (a, .inr (9, [va_rf (dcd (T 180 a)), va_rf (dcd (T 181 a)), va_rf (dcd (T 182 a)), va_rf (dcd (T 183 a)), va_rf (dcd (T 184 a)), va_rf (dcd (T 185 a)), .int (J (v 186 a)), .int (J (v 187 a)), .int (J (v 188 a)), .int (J (v 189 a)), .int (J (v 190 a)), .int (J (v 191 a)), va_rf (dcd (T 192 a)), va_rf (dcd (T 193 a)), va_rf (dcd (T 194 a)), va_rf (dcd (T 195 a)), va_rf (dcd (T 196 a)), va_rf (dcd (x + 1))])) H1
  rw [dcd_s]
  exact hat
theorem rn_197 (E : CX p s m args meth c own cc nL ret) (hK : KK D cy s) (hw : WK D cy T v A0 H0 H locs) {ix : Nat} (hl : Cond.fieldLink own ix RX9 (TX9 17).2.1 (TX9 17).2.2.1 ∈ gT) {a : Nat} (ht : T 0 a = 109) (pc' : Nat) (hp : pc + 3 = pc') (hdg : decode cc pc = .ok (.putfield ix, 3)) (kk : ∀ (T2 : Nat → Nat → Nat) (H : Heap) (locs : List Loc), (∀ b, b ≠ a → ∀ j, T2 j b = T j b) → (∀ j, j ≠ 197 → T2 j a = T j a) → T2 197 a = 0 → OW0 T T2 → WK D cy T2 v A0 H0 H locs → W p l e R s m args below meth c H locs cells slots Q (F0 m pc' ls rest)) : W p l e R s m args below meth c H locs cells slots Q (F0 m pc ls (.null :: .ref a :: rest)) := by
  refine x_put E hK hw.2.2 (hw.2.1 a ⟨by rw [ht]; decide, by rw [ht]; decide⟩) in_X9 tyX9 tyX9_ok nmX9 (ci := 9) rfl (cw_rw9 hw.1 ht) (k := 17) (by decide) hl (fun x h => by rw [tx_X9 17 (by decide)] at h; exact h) (by decide +kernel) (ty := (tyX9 17)) (by decide +kernel) rfl rfl (Nat.le_of_ble_eq_true rfl) pc' hp hdg (fun H1 locs1 hat hoth hsz hS => ?_)
  have h0 : upT T a (fun j => if j = 197 then 0 else T j a) 0 a = T 0 a := upT_at _ _ _ _
  have ho : OW0 T (upT T a (fun j => if j = 197 then 0 else T j a)) := OW0.of (fun b => by
    by_cases e : b = a
    · subst e; exact h0
    · exact upT_ne 0 e)
  refine kk (upT T a (fun j => if j = 197 then 0 else T j a)) H1 locs1 (fun b hb j => upT_ne j hb) (fun j hj => (upT_at _ _ _ _).trans (if_neg hj)) ((upT_at _ _ _ _).trans (if_pos rfl)) ho ⟨?_, fun b hb => hw.2.1 b ((ho b).1 hb), hS⟩
  refine cw_set hw.1 (Or.inr (by rw [ht]; decide)) (fun b _ hb => hoth b hb) (show T 1 a < _ from hw.1.2.1.1 a) (fun e he => ?_) (by show cTT _ a (T 0 a); rw [ht]; trivial) (fun h => by have h : T 0 a = 10 := h; rw [ht] at h; cases h) (fun h => by have h : T 0 a = 26 := h; rw [ht] at h; cases h)
  have he : cEnt cy (fun j => if j = 197 then 0 else T j a) (fun k => v k a) (rw_ v (T 0 a) a) (T 0 a) = some e := he
  rw [ht] at he
  cases he
  show va_at D vwCl (a, .inr (9, [va_rf (dcd (T 180 a)), va_rf (dcd (T 181 a)), va_rf (dcd (T 182 a)), va_rf (dcd (T 183 a)), va_rf (dcd (T 184 a)), va_rf (dcd (T 185 a)), .int (J (v 186 a)), .int (J (v 187 a)), .int (J (v 188 a)), .int (J (v 189 a)), .int (J (v 190 a)), .int (J (v 191 a)), va_rf (dcd (T 192 a)), va_rf (dcd (T 193 a)), va_rf (dcd (T 194 a)), va_rf (dcd (T 195 a)), va_rf (dcd (T 196 a)), va_rf (dcd 0)])) H1
  skip
  exact hat
theorem cw_rw10 (hw : WC D cy T v H) {a : Nat} (ht : T 0 a = 110) : va_at D vwCl (a, .inr (0, rF10 (fun k => T k a) (fun k => v k a))) H := by
  obtain ⟨γ, h⟩ := cw_at hw ht
  exact h _ rfl
theorem rr_201 (E : CX p s m args meth c own cc nL ret) (hK : KK D cy s) (hw : WK D cy T v A0 H0 H locs) {ix : Nat} (hl : Cond.fieldLink own ix RJx4a65c (TJx4a65c 1).2.1 (TJx4a65c 1).2.2.1 ∈ gT) {a x : Nat} (ht : T 0 a = 110) (pc' : Nat) (hp : pc + 3 = pc') (hdg : decode cc pc = .ok (.putfield ix, 3)) (kk : ∀ (T2 : Nat → Nat → Nat) (H : Heap) (locs : List Loc), (∀ b, b ≠ a → ∀ j, T2 j b = T j b) → (∀ j, j ≠ 201 → T2 j a = T j a) → T2 201 a = (x + 1) → OW0 T T2 → WK D cy T2 v A0 H0 H locs → W p l e R s m args below meth c H locs cells slots Q (F0 m pc' ls rest)) : W p l e R s m args below meth c H locs cells slots Q (F0 m pc ls (.ref x :: .ref a :: rest)) := by
  refine x_put E hK hw.2.2 (hw.2.1 a ⟨by rw [ht]; decide, by rw [ht]; decide⟩) in_Jx4a65c tyJx4a65c tyJx4a65c_ok nmJx4a65c (ci := 0) rfl (cw_rw10 hw.1 ht) (k := 1) (by decide) hl (fun x h => h) (by decide +kernel) (ty := (tyJx4a65c 1)) (by decide +kernel) rfl rfl (Nat.le_of_ble_eq_true rfl) pc' hp hdg (fun H1 locs1 hat hoth hsz hS => ?_)
  have h0 : upT T a (fun j => if j = 201 then (x + 1) else T j a) 0 a = T 0 a := upT_at _ _ _ _
  have ho : OW0 T (upT T a (fun j => if j = 201 then (x + 1) else T j a)) := OW0.of (fun b => by
    by_cases e : b = a
    · subst e; exact h0
    · exact upT_ne 0 e)
  refine kk (upT T a (fun j => if j = 201 then (x + 1) else T j a)) H1 locs1 (fun b hb j => upT_ne j hb) (fun j hj => (upT_at _ _ _ _).trans (if_neg hj)) ((upT_at _ _ _ _).trans (if_pos rfl)) ho ⟨?_, fun b hb => hw.2.1 b ((ho b).1 hb), hS⟩
  refine cw_set hw.1 (Or.inr (by rw [ht]; decide)) (fun b _ hb => hoth b hb) (show T 1 a < _ from hw.1.2.1.1 a) (fun e he => ?_) (by show cTT _ a (T 0 a); rw [ht]; trivial) (fun h => by have h : T 0 a = 10 := h; rw [ht] at h; cases h) (fun h => by have h : T 0 a = 26 := h; rw [ht] at h; cases h)
  have he : cEnt cy (fun j => if j = 201 then (x + 1) else T j a) (fun k => v k a) (rw_ v (T 0 a) a) (T 0 a) = some e := he
  rw [ht] at he
  cases he
  show va_at D vwCl (a, .inr (0, [.int (J (v 200 a)), va_rf (dcd (x + 1)), .int (J (v 202 a))])) H1
  rw [dcd_s]
  exact hat
end MRow
section Prom
variable {D : va_G} {cy : Nat → ClassId} {T : Nat → Nat → Nat} {v : Nat → Nat → Int} {H H0 : Heap} {A0 : Nat → Prop} {locs : List Loc}
theorem pm_1 (hw : WK D cy T v A0 H0 H locs) {a : Nat} (ht : T 0 a = 101) {x26 : Nat} (r26 : T 26 a = x26 + 1) (t26 : T 0 x26 = 22) (n26 : T 1 x26 = 200) (w26 : T 3 x26 = 300 * a + 26) : ∃ T2 : Nat → Nat → Nat, (∀ b, b ≠ a → ∀ j, T2 j b = T j b) ∧ T2 0 a = 1 ∧ T2 26 a = x26 ∧ OW0 T T2 ∧ WK D cy T2 v A0 H0 H locs := by
  have hn : H.size ≤ a ∨ 100 < T 0 a := Or.inr (by rw [ht]; decide)
  have ho : OW0 T (upT T a (fun k => if k = 0 then 1 else if k = 26 then x26 else if k = 1 then T 1 a else 0)) := OW0.pm ⟨by rw [ht]; decide, by rw [ht]; decide⟩ (show 1 ≠ 26 by decide)
  refine ⟨upT T a (fun k => if k = 0 then 1 else if k = 26 then x26 else if k = 1 then T 1 a else 0), fun b hb j => upT_ne j hb, upT_at _ _ _ _, upT_at _ _ _ _, ho, ⟨?_, fun b hb => hw.2.1 b ((ho b).1 hb), hw.2.2⟩⟩
  refine cw_set hw.1 hn (fun b _ _ => rfl) (show T 1 a < _ from hw.1.2.1.1 a) (fun e he => ?_) (⟨(by rw [upT_at]; exact (upT_ne 0 (cw_nx hw.1 hn t26 (by decide) (fun _ _ _ => ⟨_, rfl⟩))).trans t26), (by rw [upT_at]; exact (upT_ne 1 (cw_nx hw.1 hn t26 (by decide) (fun _ _ _ => ⟨_, rfl⟩))).trans n26), (by rw [upT_at]; exact (upT_ne 3 (cw_nx hw.1 hn t26 (by decide) (fun _ _ _ => ⟨_, rfl⟩))).trans w26)⟩) (fun h => absurd (show 1 = 10 from h) (by decide)) (show 1 ≠ 26 by decide)
  cases he
  have h := cw_rw1 hw.1 ht
  have h : va_at D vwCl (a, .inr (1, [.int (J (v 20 a)), .int (J (v 21 a)), .int (J (v 22 a)), .int (J (v 23 a)), .int (J (v 24 a)), .int (J (v 25 a)), va_rf (dcd (T 26 a))])) H := h
  rw [r26, dcd_s] at h
  skip
  exact h
theorem pm_2 (hw : WK D cy T v A0 H0 H locs) {a : Nat} (ht : T 0 a = 102) {x46 : Nat} (r46 : T 46 a = x46 + 1) (t46 : T 0 x46 = 20) (n46 : T 1 x46 = 24) (w46 : T 3 x46 = 300 * a + 46) {x47 : Nat} (r47 : T 47 a = x47 + 1) (t47 : T 0 x47 = 20) (n47 : T 1 x47 = 24) (w47 : T 3 x47 = 300 * a + 47) {x48 : Nat} (r48 : T 48 a = x48 + 1) (t48 : T 0 x48 = 20) (n48 : T 1 x48 = 24) (w48 : T 3 x48 = 300 * a + 48) : ∃ T2 : Nat → Nat → Nat, (∀ b, b ≠ a → ∀ j, T2 j b = T j b) ∧ T2 0 a = 2 ∧ T2 46 a = x46 ∧ T2 47 a = x47 ∧ T2 48 a = x48 ∧ OW0 T T2 ∧ WK D cy T2 v A0 H0 H locs := by
  have hn : H.size ≤ a ∨ 100 < T 0 a := Or.inr (by rw [ht]; decide)
  have ho : OW0 T (upT T a (fun k => if k = 0 then 2 else if k = 46 then x46 else if k = 47 then x47 else if k = 48 then x48 else if k = 1 then T 1 a else 0)) := OW0.pm ⟨by rw [ht]; decide, by rw [ht]; decide⟩ (show 2 ≠ 26 by decide)
  refine ⟨upT T a (fun k => if k = 0 then 2 else if k = 46 then x46 else if k = 47 then x47 else if k = 48 then x48 else if k = 1 then T 1 a else 0), fun b hb j => upT_ne j hb, upT_at _ _ _ _, upT_at _ _ _ _, upT_at _ _ _ _, upT_at _ _ _ _, ho, ⟨?_, fun b hb => hw.2.1 b ((ho b).1 hb), hw.2.2⟩⟩
  refine cw_set hw.1 hn (fun b _ _ => rfl) (show T 1 a < _ from hw.1.2.1.1 a) (fun e he => ?_) (⟨(by rw [upT_at]; exact (upT_ne 0 (cw_nx hw.1 hn t46 (by decide) (fun _ _ _ => ⟨_, rfl⟩))).trans t46), (by rw [upT_at]; exact (upT_ne 1 (cw_nx hw.1 hn t46 (by decide) (fun _ _ _ => ⟨_, rfl⟩))).trans n46), (by rw [upT_at]; exact (upT_ne 3 (cw_nx hw.1 hn t46 (by decide) (fun _ _ _ => ⟨_, rfl⟩))).trans w46), (by rw [upT_at]; exact (upT_ne 0 (cw_nx hw.1 hn t47 (by decide) (fun _ _ _ => ⟨_, rfl⟩))).trans t47), (by rw [upT_at]; exact (upT_ne 1 (cw_nx hw.1 hn t47 (by decide) (fun _ _ _ => ⟨_, rfl⟩))).trans n47), (by rw [upT_at]; exact (upT_ne 3 (cw_nx hw.1 hn t47 (by decide) (fun _ _ _ => ⟨_, rfl⟩))).trans w47), (by rw [upT_at]; exact (upT_ne 0 (cw_nx hw.1 hn t48 (by decide) (fun _ _ _ => ⟨_, rfl⟩))).trans t48), (by rw [upT_at]; exact (upT_ne 1 (cw_nx hw.1 hn t48 (by decide) (fun _ _ _ => ⟨_, rfl⟩))).trans n48), (by rw [upT_at]; exact (upT_ne 3 (cw_nx hw.1 hn t48 (by decide) (fun _ _ _ => ⟨_, rfl⟩))).trans w48)⟩) (fun h => absurd (show 2 = 10 from h) (by decide)) (show 2 ≠ 26 by decide)
  cases he
  have h := cw_rw2 hw.1 ht
  have h : va_at D vwCl (a, .inr (2, [.int (J (v 40 a)), .int (J (v 41 a)), .int (J (v 42 a)), .int (J (v 43 a)), .int (J (v 44 a)), .int (J (v 45 a)), va_rf (dcd (T 46 a)), va_rf (dcd (T 47 a)), va_rf (dcd (T 48 a))])) H := h
  rw [r46, dcd_s, r47, dcd_s, r48, dcd_s] at h
  skip
  exact h
theorem pm_3 (hw : WK D cy T v A0 H0 H locs) {a : Nat} (ht : T 0 a = 103) {x60 : Nat} (r60 : T 60 a = x60 + 1) (t60 : T 0 x60 = 20) (n60 : T 1 x60 = 6400) (w60 : T 3 x60 = 300 * a + 60) {x61 : Nat} (r61 : T 61 a = x61 + 1) (t61 : T 0 x61 = 20) (n61 : T 1 x61 = 96) (w61 : T 3 x61 = 300 * a + 61) {x62 : Nat} (r62 : T 62 a = x62 + 1) (t62 : T 0 x62 = 20) (n62 : T 1 x62 = 4) (w62 : T 3 x62 = 300 * a + 62) {x63 : Nat} (r63 : T 63 a = x63 + 1) (t63 : T 0 x63 = 20) (n63 : T 1 x63 = 24) (w63 : T 3 x63 = 300 * a + 63) : ∃ T2 : Nat → Nat → Nat, (∀ b, b ≠ a → ∀ j, T2 j b = T j b) ∧ T2 0 a = 3 ∧ T2 60 a = x60 ∧ T2 61 a = x61 ∧ T2 62 a = x62 ∧ T2 63 a = x63 ∧ OW0 T T2 ∧ WK D cy T2 v A0 H0 H locs := by
  have hn : H.size ≤ a ∨ 100 < T 0 a := Or.inr (by rw [ht]; decide)
  have ho : OW0 T (upT T a (fun k => if k = 0 then 3 else if k = 60 then x60 else if k = 61 then x61 else if k = 62 then x62 else if k = 63 then x63 else if k = 1 then T 1 a else 0)) := OW0.pm ⟨by rw [ht]; decide, by rw [ht]; decide⟩ (show 3 ≠ 26 by decide)
  refine ⟨upT T a (fun k => if k = 0 then 3 else if k = 60 then x60 else if k = 61 then x61 else if k = 62 then x62 else if k = 63 then x63 else if k = 1 then T 1 a else 0), fun b hb j => upT_ne j hb, upT_at _ _ _ _, upT_at _ _ _ _, upT_at _ _ _ _, upT_at _ _ _ _, upT_at _ _ _ _, ho, ⟨?_, fun b hb => hw.2.1 b ((ho b).1 hb), hw.2.2⟩⟩
  refine cw_set hw.1 hn (fun b _ _ => rfl) (show T 1 a < _ from hw.1.2.1.1 a) (fun e he => ?_) (⟨(by rw [upT_at]; exact (upT_ne 0 (cw_nx hw.1 hn t60 (by decide) (fun _ _ _ => ⟨_, rfl⟩))).trans t60), (by rw [upT_at]; exact (upT_ne 1 (cw_nx hw.1 hn t60 (by decide) (fun _ _ _ => ⟨_, rfl⟩))).trans n60), (by rw [upT_at]; exact (upT_ne 3 (cw_nx hw.1 hn t60 (by decide) (fun _ _ _ => ⟨_, rfl⟩))).trans w60), (by rw [upT_at]; exact (upT_ne 0 (cw_nx hw.1 hn t61 (by decide) (fun _ _ _ => ⟨_, rfl⟩))).trans t61), (by rw [upT_at]; exact (upT_ne 1 (cw_nx hw.1 hn t61 (by decide) (fun _ _ _ => ⟨_, rfl⟩))).trans n61), (by rw [upT_at]; exact (upT_ne 3 (cw_nx hw.1 hn t61 (by decide) (fun _ _ _ => ⟨_, rfl⟩))).trans w61), (by rw [upT_at]; exact (upT_ne 0 (cw_nx hw.1 hn t62 (by decide) (fun _ _ _ => ⟨_, rfl⟩))).trans t62), (by rw [upT_at]; exact (upT_ne 1 (cw_nx hw.1 hn t62 (by decide) (fun _ _ _ => ⟨_, rfl⟩))).trans n62), (by rw [upT_at]; exact (upT_ne 3 (cw_nx hw.1 hn t62 (by decide) (fun _ _ _ => ⟨_, rfl⟩))).trans w62), (by rw [upT_at]; exact (upT_ne 0 (cw_nx hw.1 hn t63 (by decide) (fun _ _ _ => ⟨_, rfl⟩))).trans t63), (by rw [upT_at]; exact (upT_ne 1 (cw_nx hw.1 hn t63 (by decide) (fun _ _ _ => ⟨_, rfl⟩))).trans n63), (by rw [upT_at]; exact (upT_ne 3 (cw_nx hw.1 hn t63 (by decide) (fun _ _ _ => ⟨_, rfl⟩))).trans w63)⟩) (fun h => absurd (show 3 = 10 from h) (by decide)) (show 3 ≠ 26 by decide)
  cases he
  have h := cw_rw3 hw.1 ht
  have h : va_at D vwCl (a, .inr (3, [va_rf (dcd (T 60 a)), va_rf (dcd (T 61 a)), va_rf (dcd (T 62 a)), va_rf (dcd (T 63 a)), .int (J (v 64 a)), .int (J (v 65 a)), .int (J (v 66 a))])) H := h
  rw [r60, dcd_s, r61, dcd_s, r62, dcd_s, r63, dcd_s] at h
  skip
  exact h
theorem pm_4 (hw : WK D cy T v A0 H0 H locs) {a : Nat} (ht : T 0 a = 104) {x82 : Nat} (r82 : T 82 a = x82 + 1) (t82 : T 0 x82 = 6) {x85 : Nat} (r85 : T 85 a = x85 + 1) (t85 : T 0 x85 = 20) (n85 : T 1 x85 = 400) (w85 : T 3 x85 = 300 * a + 85) : ∃ T2 : Nat → Nat → Nat, (∀ b, b ≠ a → ∀ j, T2 j b = T j b) ∧ T2 0 a = 4 ∧ T2 82 a = x82 ∧ T2 85 a = x85 ∧ OW0 T T2 ∧ WK D cy T2 v A0 H0 H locs := by
  have hn : H.size ≤ a ∨ 100 < T 0 a := Or.inr (by rw [ht]; decide)
  have ho : OW0 T (upT T a (fun k => if k = 0 then 4 else if k = 82 then x82 else if k = 85 then x85 else if k = 1 then T 1 a else 0)) := OW0.pm ⟨by rw [ht]; decide, by rw [ht]; decide⟩ (show 4 ≠ 26 by decide)
  refine ⟨upT T a (fun k => if k = 0 then 4 else if k = 82 then x82 else if k = 85 then x85 else if k = 1 then T 1 a else 0), fun b hb j => upT_ne j hb, upT_at _ _ _ _, upT_at _ _ _ _, upT_at _ _ _ _, ho, ⟨?_, fun b hb => hw.2.1 b ((ho b).1 hb), hw.2.2⟩⟩
  refine cw_set hw.1 hn (fun b _ _ => rfl) (show T 1 a < _ from hw.1.2.1.1 a) (fun e he => ?_) (⟨(by rw [upT_at]; exact (upT_ne 0 (cw_nx hw.1 hn t82 (by decide) (fun _ _ _ => ⟨_, rfl⟩))).trans t82), (by rw [upT_at]; exact (upT_ne 0 (cw_nx hw.1 hn t85 (by decide) (fun _ _ _ => ⟨_, rfl⟩))).trans t85), (by rw [upT_at]; exact (upT_ne 1 (cw_nx hw.1 hn t85 (by decide) (fun _ _ _ => ⟨_, rfl⟩))).trans n85), (by rw [upT_at]; exact (upT_ne 3 (cw_nx hw.1 hn t85 (by decide) (fun _ _ _ => ⟨_, rfl⟩))).trans w85)⟩) (fun h => absurd (show 4 = 10 from h) (by decide)) (show 4 ≠ 26 by decide)
  cases he
  have h := cw_rw4 hw.1 ht
  have h : va_at D vwCl (a, .inr (4, [.int (J (v 80 a)), .int (J (v 81 a)), va_rf (dcd (T 82 a)), .int (J (v 83 a)), .int (J (v 84 a)), va_rf (dcd (T 85 a)), .int (J (v 86 a))])) H := h
  rw [r82, dcd_s, r85, dcd_s] at h
  skip
  exact h
theorem pm_5 (hw : WK D cy T v A0 H0 H locs) {a : Nat} (ht : T 0 a = 105) {x100 : Nat} (r100 : T 100 a = x100 + 1) (t100 : T 0 x100 = 20) (n100 : T 1 x100 = 5) (w100 : T 3 x100 = 300 * a + 100) {x101 : Nat} (r101 : T 101 a = x101 + 1) (t101 : T 0 x101 = 20) (n101 : T 1 x101 = 24) (w101 : T 3 x101 = 300 * a + 101) {x102 : Nat} (r102 : T 102 a = x102 + 1) (t102 : T 0 x102 = 20) (n102 : T 1 x102 = 32) (w102 : T 3 x102 = 300 * a + 102) : ∃ T2 : Nat → Nat → Nat, (∀ b, b ≠ a → ∀ j, T2 j b = T j b) ∧ T2 0 a = 5 ∧ T2 100 a = x100 ∧ T2 101 a = x101 ∧ T2 102 a = x102 ∧ OW0 T T2 ∧ WK D cy T2 v A0 H0 H locs := by
  have hn : H.size ≤ a ∨ 100 < T 0 a := Or.inr (by rw [ht]; decide)
  have ho : OW0 T (upT T a (fun k => if k = 0 then 5 else if k = 100 then x100 else if k = 101 then x101 else if k = 102 then x102 else if k = 1 then T 1 a else 0)) := OW0.pm ⟨by rw [ht]; decide, by rw [ht]; decide⟩ (show 5 ≠ 26 by decide)
  refine ⟨upT T a (fun k => if k = 0 then 5 else if k = 100 then x100 else if k = 101 then x101 else if k = 102 then x102 else if k = 1 then T 1 a else 0), fun b hb j => upT_ne j hb, upT_at _ _ _ _, upT_at _ _ _ _, upT_at _ _ _ _, upT_at _ _ _ _, ho, ⟨?_, fun b hb => hw.2.1 b ((ho b).1 hb), hw.2.2⟩⟩
  refine cw_set hw.1 hn (fun b _ _ => rfl) (show T 1 a < _ from hw.1.2.1.1 a) (fun e he => ?_) (⟨(by rw [upT_at]; exact (upT_ne 0 (cw_nx hw.1 hn t100 (by decide) (fun _ _ _ => ⟨_, rfl⟩))).trans t100), (by rw [upT_at]; exact (upT_ne 1 (cw_nx hw.1 hn t100 (by decide) (fun _ _ _ => ⟨_, rfl⟩))).trans n100), (by rw [upT_at]; exact (upT_ne 3 (cw_nx hw.1 hn t100 (by decide) (fun _ _ _ => ⟨_, rfl⟩))).trans w100), (by rw [upT_at]; exact (upT_ne 0 (cw_nx hw.1 hn t101 (by decide) (fun _ _ _ => ⟨_, rfl⟩))).trans t101), (by rw [upT_at]; exact (upT_ne 1 (cw_nx hw.1 hn t101 (by decide) (fun _ _ _ => ⟨_, rfl⟩))).trans n101), (by rw [upT_at]; exact (upT_ne 3 (cw_nx hw.1 hn t101 (by decide) (fun _ _ _ => ⟨_, rfl⟩))).trans w101), (by rw [upT_at]; exact (upT_ne 0 (cw_nx hw.1 hn t102 (by decide) (fun _ _ _ => ⟨_, rfl⟩))).trans t102), (by rw [upT_at]; exact (upT_ne 1 (cw_nx hw.1 hn t102 (by decide) (fun _ _ _ => ⟨_, rfl⟩))).trans n102), (by rw [upT_at]; exact (upT_ne 3 (cw_nx hw.1 hn t102 (by decide) (fun _ _ _ => ⟨_, rfl⟩))).trans w102)⟩) (fun h => absurd (show 5 = 10 from h) (by decide)) (show 5 ≠ 26 by decide)
  cases he
  have h := cw_rw5 hw.1 ht
  have h : va_at D vwCl (a, .inr (5, [va_rf (dcd (T 100 a)), va_rf (dcd (T 101 a)), va_rf (dcd (T 102 a)), .int (J (v 103 a))])) H := h
  rw [r100, dcd_s, r101, dcd_s, r102, dcd_s] at h
  skip
  exact h
theorem pm_6 (hw : WK D cy T v A0 H0 H locs) {a : Nat} (ht : T 0 a = 106) {x120 : Nat} (r120 : T 120 a = x120 + 1) (t120 : T 0 x120 = 20) (n120 : T 1 x120 = 400) (w120 : T 3 x120 = 300 * a + 120) {x121 : Nat} (r121 : T 121 a = x121 + 1) (t121 : T 0 x121 = 20) (n121 : T 1 x121 = 400) (w121 : T 3 x121 = 300 * a + 121) {x122 : Nat} (r122 : T 122 a = x122 + 1) (t122 : T 0 x122 = 20) (n122 : T 1 x122 = 400) (w122 : T 3 x122 = 300 * a + 122) : ∃ T2 : Nat → Nat → Nat, (∀ b, b ≠ a → ∀ j, T2 j b = T j b) ∧ T2 0 a = 6 ∧ T2 120 a = x120 ∧ T2 121 a = x121 ∧ T2 122 a = x122 ∧ OW0 T T2 ∧ WK D cy T2 v A0 H0 H locs := by
  have hn : H.size ≤ a ∨ 100 < T 0 a := Or.inr (by rw [ht]; decide)
  have ho : OW0 T (upT T a (fun k => if k = 0 then 6 else if k = 120 then x120 else if k = 121 then x121 else if k = 122 then x122 else if k = 1 then T 1 a else 0)) := OW0.pm ⟨by rw [ht]; decide, by rw [ht]; decide⟩ (show 6 ≠ 26 by decide)
  refine ⟨upT T a (fun k => if k = 0 then 6 else if k = 120 then x120 else if k = 121 then x121 else if k = 122 then x122 else if k = 1 then T 1 a else 0), fun b hb j => upT_ne j hb, upT_at _ _ _ _, upT_at _ _ _ _, upT_at _ _ _ _, upT_at _ _ _ _, ho, ⟨?_, fun b hb => hw.2.1 b ((ho b).1 hb), hw.2.2⟩⟩
  refine cw_set hw.1 hn (fun b _ _ => rfl) (show T 1 a < _ from hw.1.2.1.1 a) (fun e he => ?_) (⟨(by rw [upT_at]; exact (upT_ne 0 (cw_nx hw.1 hn t120 (by decide) (fun _ _ _ => ⟨_, rfl⟩))).trans t120), (by rw [upT_at]; exact (upT_ne 1 (cw_nx hw.1 hn t120 (by decide) (fun _ _ _ => ⟨_, rfl⟩))).trans n120), (by rw [upT_at]; exact (upT_ne 3 (cw_nx hw.1 hn t120 (by decide) (fun _ _ _ => ⟨_, rfl⟩))).trans w120), (by rw [upT_at]; exact (upT_ne 0 (cw_nx hw.1 hn t121 (by decide) (fun _ _ _ => ⟨_, rfl⟩))).trans t121), (by rw [upT_at]; exact (upT_ne 1 (cw_nx hw.1 hn t121 (by decide) (fun _ _ _ => ⟨_, rfl⟩))).trans n121), (by rw [upT_at]; exact (upT_ne 3 (cw_nx hw.1 hn t121 (by decide) (fun _ _ _ => ⟨_, rfl⟩))).trans w121), (by rw [upT_at]; exact (upT_ne 0 (cw_nx hw.1 hn t122 (by decide) (fun _ _ _ => ⟨_, rfl⟩))).trans t122), (by rw [upT_at]; exact (upT_ne 1 (cw_nx hw.1 hn t122 (by decide) (fun _ _ _ => ⟨_, rfl⟩))).trans n122), (by rw [upT_at]; exact (upT_ne 3 (cw_nx hw.1 hn t122 (by decide) (fun _ _ _ => ⟨_, rfl⟩))).trans w122)⟩) (fun h => absurd (show 6 = 10 from h) (by decide)) (show 6 ≠ 26 by decide)
  cases he
  have h := cw_rw6 hw.1 ht
  have h : va_at D vwCl (a, .inr (6, [va_rf (dcd (T 120 a)), va_rf (dcd (T 121 a)), va_rf (dcd (T 122 a)), .int (J (v 123 a)), .int (J (v 124 a))])) H := h
  rw [r120, dcd_s, r121, dcd_s, r122, dcd_s] at h
  skip
  exact h
theorem pm_7 (hw : WK D cy T v A0 H0 H locs) {a : Nat} (ht : T 0 a = 107) : ∃ T2 : Nat → Nat → Nat, (∀ b, b ≠ a → ∀ j, T2 j b = T j b) ∧ T2 0 a = 7 ∧ OW0 T T2 ∧ WK D cy T2 v A0 H0 H locs := by
  have hn : H.size ≤ a ∨ 100 < T 0 a := Or.inr (by rw [ht]; decide)
  have ho : OW0 T (upT T a (fun k => if k = 0 then 7 else if k = 1 then T 1 a else 0)) := OW0.pm ⟨by rw [ht]; decide, by rw [ht]; decide⟩ (show 7 ≠ 26 by decide)
  refine ⟨upT T a (fun k => if k = 0 then 7 else if k = 1 then T 1 a else 0), fun b hb j => upT_ne j hb, upT_at _ _ _ _, ho, ⟨?_, fun b hb => hw.2.1 b ((ho b).1 hb), hw.2.2⟩⟩
  refine cw_set hw.1 hn (fun b _ _ => rfl) (show T 1 a < _ from hw.1.2.1.1 a) (fun e he => ?_) (trivial) (fun h => absurd (show 7 = 10 from h) (by decide)) (show 7 ≠ 26 by decide)
  cases he
  have h := cw_rw7 hw.1 ht
  have h : va_at D vwCl (a, .inr (7, [.int (J (v 140 a)), .int (J (v 141 a)), .int (J (v 142 a)), .int (J (v 143 a)), .int (J (v 144 a)), .int (J (v 145 a)), .int (J (v 146 a))])) H := h
  skip
  skip
  exact h
theorem pm_8 (hw : WK D cy T v A0 H0 H locs) {a : Nat} (ht : T 0 a = 108) {x161 : Nat} (r161 : T 161 a = x161 + 1) (t161 : T 0 x161 = 20) (w161 : T 3 x161 = 300 * a + 161) {x162 : Nat} (r162 : T 162 a = x162 + 1) (t162 : T 0 x162 = 20) (w162 : T 3 x162 = 300 * a + 162) {x163 : Nat} (r163 : T 163 a = x163 + 1) (t163 : T 0 x163 = 20) (w163 : T 3 x163 = 300 * a + 163) : ∃ T2 : Nat → Nat → Nat, (∀ b, b ≠ a → ∀ j, T2 j b = T j b) ∧ T2 0 a = 8 ∧ T2 161 a = x161 ∧ T2 162 a = x162 ∧ T2 163 a = x163 ∧ OW0 T T2 ∧ WK D cy T2 v A0 H0 H locs := by
  have hn : H.size ≤ a ∨ 100 < T 0 a := Or.inr (by rw [ht]; decide)
  have ho : OW0 T (upT T a (fun k => if k = 0 then 8 else if k = 161 then x161 else if k = 162 then x162 else if k = 163 then x163 else if k = 1 then T 1 a else 0)) := OW0.pm ⟨by rw [ht]; decide, by rw [ht]; decide⟩ (show 8 ≠ 26 by decide)
  refine ⟨upT T a (fun k => if k = 0 then 8 else if k = 161 then x161 else if k = 162 then x162 else if k = 163 then x163 else if k = 1 then T 1 a else 0), fun b hb j => upT_ne j hb, upT_at _ _ _ _, upT_at _ _ _ _, upT_at _ _ _ _, upT_at _ _ _ _, ho, ⟨?_, fun b hb => hw.2.1 b ((ho b).1 hb), hw.2.2⟩⟩
  refine cw_set hw.1 hn (fun b _ _ => rfl) (show T 1 a < _ from hw.1.2.1.1 a) (fun e he => ?_) (⟨(by rw [upT_at]; exact (upT_ne 0 (cw_nx hw.1 hn t161 (by decide) (fun _ _ _ => ⟨_, rfl⟩))).trans t161), (by rw [upT_at]; exact (upT_ne 3 (cw_nx hw.1 hn t161 (by decide) (fun _ _ _ => ⟨_, rfl⟩))).trans w161), (by rw [upT_at]; exact (upT_ne 0 (cw_nx hw.1 hn t162 (by decide) (fun _ _ _ => ⟨_, rfl⟩))).trans t162), (by rw [upT_at]; exact (upT_ne 3 (cw_nx hw.1 hn t162 (by decide) (fun _ _ _ => ⟨_, rfl⟩))).trans w162), (by rw [upT_at]; exact (upT_ne 0 (cw_nx hw.1 hn t163 (by decide) (fun _ _ _ => ⟨_, rfl⟩))).trans t163), (by rw [upT_at]; exact (upT_ne 3 (cw_nx hw.1 hn t163 (by decide) (fun _ _ _ => ⟨_, rfl⟩))).trans w163)⟩) (fun h => absurd (show 8 = 10 from h) (by decide)) (show 8 ≠ 26 by decide)
  cases he
  have h := cw_rw8 hw.1 ht
  have h : va_at D vwCl (a, .inr (8, [.int (J (v 160 a)), va_rf (dcd (T 161 a)), va_rf (dcd (T 162 a)), va_rf (dcd (T 163 a))])) H := h
  rw [r161, dcd_s, r162, dcd_s, r163, dcd_s] at h
  skip
  exact h
theorem pm_9 (hw : WK D cy T v A0 H0 H locs) {a : Nat} (ht : T 0 a = 109) {x180 : Nat} (r180 : T 180 a = x180 + 1) (t180 : T 0 x180 = 10) (e180 : T 2 x180 = 2) {x181 : Nat} (r181 : T 181 a = x181 + 1) (t181 : T 0 x181 = 10) (e181 : T 2 x181 = 1) {x182 : Nat} (r182 : T 182 a = x182 + 1) (t182 : T 0 x182 = 10) (e182 : T 2 x182 = 8) {x183 : Nat} (r183 : T 183 a = x183 + 1) (t183 : T 0 x183 = 10) (e183 : T 2 x183 = 7) {x184 : Nat} (r184 : T 184 a = x184 + 1) (t184 : T 0 x184 = 21) (n184 : T 1 x184 = 8) (w184 : T 3 x184 = 300 * a + 184) {x185 : Nat} (r185 : T 185 a = x185 + 1) (t185 : T 0 x185 = 23) (n185 : T 1 x185 = 400) (w185 : T 3 x185 = 300 * a + 185) {x192 : Nat} (r192 : T 192 a = x192 + 1) (t192 : T 0 x192 = 4) {x193 : Nat} (r193 : T 193 a = x193 + 1) (t193 : T 0 x193 = 5) {x194 : Nat} (r194 : T 194 a = x194 + 1) (t194 : T 0 x194 = 20) (n194 : T 1 x194 = 32) (w194 : T 3 x194 = 300 * a + 194) {x195 : Nat} (r195 : T 195 a = x195 + 1) (t195 : T 0 x195 = 20) (n195 : T 1 x195 = 32) (w195 : T 3 x195 = 300 * a + 195) {x196 : Nat} (r196 : T 196 a = x196 + 1) (t196 : T 0 x196 = 20) (n196 : T 1 x196 = 401) (w196 : T 3 x196 = 300 * a + 196) (r197 : T 197 a = 0) : ∃ T2 : Nat → Nat → Nat, (∀ b, b ≠ a → ∀ j, T2 j b = T j b) ∧ T2 0 a = 9 ∧ T2 180 a = x180 ∧ T2 181 a = x181 ∧ T2 182 a = x182 ∧ T2 183 a = x183 ∧ T2 184 a = x184 ∧ T2 185 a = x185 ∧ T2 192 a = x192 ∧ T2 193 a = x193 ∧ T2 194 a = x194 ∧ T2 195 a = x195 ∧ T2 196 a = x196 ∧ OW0 T T2 ∧ WK D cy T2 v A0 H0 H locs := by
  have hn : H.size ≤ a ∨ 100 < T 0 a := Or.inr (by rw [ht]; decide)
  have ho : OW0 T (upT T a (fun k => if k = 0 then 9 else if k = 180 then x180 else if k = 181 then x181 else if k = 182 then x182 else if k = 183 then x183 else if k = 184 then x184 else if k = 185 then x185 else if k = 192 then x192 else if k = 193 then x193 else if k = 194 then x194 else if k = 195 then x195 else if k = 196 then x196 else if k = 1 then T 1 a else 0)) := OW0.pm ⟨by rw [ht]; decide, by rw [ht]; decide⟩ (show 9 ≠ 26 by decide)
  refine ⟨upT T a (fun k => if k = 0 then 9 else if k = 180 then x180 else if k = 181 then x181 else if k = 182 then x182 else if k = 183 then x183 else if k = 184 then x184 else if k = 185 then x185 else if k = 192 then x192 else if k = 193 then x193 else if k = 194 then x194 else if k = 195 then x195 else if k = 196 then x196 else if k = 1 then T 1 a else 0), fun b hb j => upT_ne j hb, upT_at _ _ _ _, upT_at _ _ _ _, upT_at _ _ _ _, upT_at _ _ _ _, upT_at _ _ _ _, upT_at _ _ _ _, upT_at _ _ _ _, upT_at _ _ _ _, upT_at _ _ _ _, upT_at _ _ _ _, upT_at _ _ _ _, upT_at _ _ _ _, ho, ⟨?_, fun b hb => hw.2.1 b ((ho b).1 hb), hw.2.2⟩⟩
  refine cw_set hw.1 hn (fun b _ _ => rfl) (show T 1 a < _ from hw.1.2.1.1 a) (fun e he => ?_) (⟨(by rw [upT_at]; exact (upT_ne 0 (cw_nx hw.1 hn t180 (by decide) (fun _ _ _ => ⟨_, rfl⟩))).trans t180), (by rw [upT_at]; exact (upT_ne 2 (cw_nx hw.1 hn t180 (by decide) (fun _ _ _ => ⟨_, rfl⟩))).trans e180), (by rw [upT_at]; exact (upT_ne 0 (cw_nx hw.1 hn t181 (by decide) (fun _ _ _ => ⟨_, rfl⟩))).trans t181), (by rw [upT_at]; exact (upT_ne 2 (cw_nx hw.1 hn t181 (by decide) (fun _ _ _ => ⟨_, rfl⟩))).trans e181), (by rw [upT_at]; exact (upT_ne 0 (cw_nx hw.1 hn t182 (by decide) (fun _ _ _ => ⟨_, rfl⟩))).trans t182), (by rw [upT_at]; exact (upT_ne 2 (cw_nx hw.1 hn t182 (by decide) (fun _ _ _ => ⟨_, rfl⟩))).trans e182), (by rw [upT_at]; exact (upT_ne 0 (cw_nx hw.1 hn t183 (by decide) (fun _ _ _ => ⟨_, rfl⟩))).trans t183), (by rw [upT_at]; exact (upT_ne 2 (cw_nx hw.1 hn t183 (by decide) (fun _ _ _ => ⟨_, rfl⟩))).trans e183), (by rw [upT_at]; exact (upT_ne 0 (cw_nx hw.1 hn t184 (by decide) (fun _ _ _ => ⟨_, rfl⟩))).trans t184), (by rw [upT_at]; exact (upT_ne 1 (cw_nx hw.1 hn t184 (by decide) (fun _ _ _ => ⟨_, rfl⟩))).trans n184), (by rw [upT_at]; exact (upT_ne 3 (cw_nx hw.1 hn t184 (by decide) (fun _ _ _ => ⟨_, rfl⟩))).trans w184), (by rw [upT_at]; exact (upT_ne 0 (cw_nx hw.1 hn t185 (by decide) (fun _ _ _ => ⟨_, rfl⟩))).trans t185), (by rw [upT_at]; exact (upT_ne 1 (cw_nx hw.1 hn t185 (by decide) (fun _ _ _ => ⟨_, rfl⟩))).trans n185), (by rw [upT_at]; exact (upT_ne 3 (cw_nx hw.1 hn t185 (by decide) (fun _ _ _ => ⟨_, rfl⟩))).trans w185), (by rw [upT_at]; exact (upT_ne 0 (cw_nx hw.1 hn t192 (by decide) (fun _ _ _ => ⟨_, rfl⟩))).trans t192), (by rw [upT_at]; exact (upT_ne 0 (cw_nx hw.1 hn t193 (by decide) (fun _ _ _ => ⟨_, rfl⟩))).trans t193), (by rw [upT_at]; exact (upT_ne 0 (cw_nx hw.1 hn t194 (by decide) (fun _ _ _ => ⟨_, rfl⟩))).trans t194), (by rw [upT_at]; exact (upT_ne 1 (cw_nx hw.1 hn t194 (by decide) (fun _ _ _ => ⟨_, rfl⟩))).trans n194), (by rw [upT_at]; exact (upT_ne 3 (cw_nx hw.1 hn t194 (by decide) (fun _ _ _ => ⟨_, rfl⟩))).trans w194), (by rw [upT_at]; exact (upT_ne 0 (cw_nx hw.1 hn t195 (by decide) (fun _ _ _ => ⟨_, rfl⟩))).trans t195), (by rw [upT_at]; exact (upT_ne 1 (cw_nx hw.1 hn t195 (by decide) (fun _ _ _ => ⟨_, rfl⟩))).trans n195), (by rw [upT_at]; exact (upT_ne 3 (cw_nx hw.1 hn t195 (by decide) (fun _ _ _ => ⟨_, rfl⟩))).trans w195), (by rw [upT_at]; exact (upT_ne 0 (cw_nx hw.1 hn t196 (by decide) (fun _ _ _ => ⟨_, rfl⟩))).trans t196), (by rw [upT_at]; exact (upT_ne 1 (cw_nx hw.1 hn t196 (by decide) (fun _ _ _ => ⟨_, rfl⟩))).trans n196), (by rw [upT_at]; exact (upT_ne 3 (cw_nx hw.1 hn t196 (by decide) (fun _ _ _ => ⟨_, rfl⟩))).trans w196), (fun y hy => by rw [upT_at] at hy; cases hy)⟩) (fun h => absurd (show 9 = 10 from h) (by decide)) (show 9 ≠ 26 by decide)
  cases he
  have h := cw_rw9 hw.1 ht
  have h : va_at D vwCl (a, .inr (9, [va_rf (dcd (T 180 a)), va_rf (dcd (T 181 a)), va_rf (dcd (T 182 a)), va_rf (dcd (T 183 a)), va_rf (dcd (T 184 a)), va_rf (dcd (T 185 a)), .int (J (v 186 a)), .int (J (v 187 a)), .int (J (v 188 a)), .int (J (v 189 a)), .int (J (v 190 a)), .int (J (v 191 a)), va_rf (dcd (T 192 a)), va_rf (dcd (T 193 a)), va_rf (dcd (T 194 a)), va_rf (dcd (T 195 a)), va_rf (dcd (T 196 a)), va_rf (dcd (T 197 a))])) H := h
  rw [r180, dcd_s, r181, dcd_s, r182, dcd_s, r183, dcd_s, r184, dcd_s, r185, dcd_s, r192, dcd_s, r193, dcd_s, r194, dcd_s, r195, dcd_s, r196, dcd_s] at h
  rw [r197] at h
  exact h
theorem pm_10 (hw : WK D cy T v A0 H0 H locs) {a : Nat} (ht : T 0 a = 110) {x201 : Nat} (r201 : T 201 a = x201 + 1) (t201 : T 0 x201 = 26) (et : Nat) (he : et = 1 ∨ et = 2 ∨ et = 7 ∨ et = 8) (hz : v 202 a = 0) : ∃ T2 : Nat → Nat → Nat, (∀ b, b ≠ a → ∀ j, T2 j b = T j b) ∧ T2 0 a = 10 ∧ T2 201 a = x201 ∧ T2 2 a = et ∧ OW0 T T2 ∧ WK D cy T2 v A0 H0 H locs := by
  have hn : H.size ≤ a ∨ 100 < T 0 a := Or.inr (by rw [ht]; decide)
  have ho : OW0 T (upT T a (fun k => if k = 0 then 10 else if k = 201 then x201 else if k = 2 then et else if k = 1 then T 1 a else 0)) := OW0.pm ⟨by rw [ht]; decide, by rw [ht]; decide⟩ (show 10 ≠ 26 by decide)
  refine ⟨upT T a (fun k => if k = 0 then 10 else if k = 201 then x201 else if k = 2 then et else if k = 1 then T 1 a else 0), fun b hb j => upT_ne j hb, upT_at _ _ _ _, upT_at _ _ _ _, upT_at _ _ _ _, ho, ⟨?_, fun b hb => hw.2.1 b ((ho b).1 hb), hw.2.2⟩⟩
  refine cw_set hw.1 hn (fun b _ _ => rfl) (show T 1 a < _ from hw.1.2.1.1 a) (fun e he => ?_) (⟨(by rw [upT_at]; exact Or.inr ((upT_ne 0 (cw_nx hw.1 hn t201 (by decide) (fun _ _ _ => ⟨_, rfl⟩))).trans t201)), (fun q => by rw [upT_at] at q ⊢; have q : upT T a _ 0 x201 = 24 := q; rw [upT_ne 0 (cw_nx hw.1 hn t201 (by decide) (fun _ _ _ => ⟨_, rfl⟩)), t201] at q; cases q), (by rw [upT_at]; exact he)⟩) (fun _ => ⟨by rw [hz]; decide, by rw [hz]; omega, fun i hi => by rw [hz] at hi; omega⟩) (show 10 ≠ 26 by decide)
  cases he
  have h := cw_rw10 hw.1 ht
  have h : va_at D vwCl (a, .inr (0, [.int (J (v 200 a)), va_rf (dcd (T 201 a)), .int (J (v 202 a))])) H := h
  rw [r201, dcd_s] at h
  skip
  exact h
end Prom
