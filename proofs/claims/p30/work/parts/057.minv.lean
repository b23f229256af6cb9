def Fam_ (g : Int → Int) : Prop := ∀ i, 0 ≤ g i ∧ g i ≤ 7
def Str_ (st wo : Int → Int) (w : Int) : Prop := ∀ i, 0 < st i → 0 ≤ wo i ∧ wo i < w
def Said_ (sa : Int → Int) (li w : Int) : Prop := ∀ i, 0 ≤ i → i < 200 * li → sa i < w
def Book_ (bo : Int → Int) (li w : Int) : Prop := ∀ i, 0 ≤ i → i < li → -1 ≤ bo i ∧ bo i < w
def wdT_ : List Int := [32, 109, 97, 114, 107, 115, 32, 119, 104, 101, 110, 32, 117, 110, 108, 101, 115, 115, 32, 111, 114, 32, 97, 110, 100, 32, 110, 111, 116, 32, 104, 97, 114, 109, 32, 119, 105, 116, 110, 101, 115, 115, 101, 115, 32, 121, 101, 97, 114, 115, 32, 107, 105, 110, 32, 97, 103, 101, 32, 108, 105, 110, 101, 32]
def Wds_ (g : Int → Int) : Prop := ∀ i, 0 ≤ i → i < 64 → g i = wdT_.getD i.toNat 0
def Tok_ (tk : Int → Int) (w : Int) : Prop := ∀ i, 0 ≤ i → i < w → 0 ≤ tk i ∧ tk i ≤ 400
def Stp_ (op ar d : Int → Int) (lo k : Int) : Prop := (op k = 0 ∧ (0 ≤ ar k ∧ ar k ≤ 9999) ∧ d (k + 1) = d k + 1) ∨ (op k = 1 ∧ (0 ≤ ar k ∧ ar k < 5) ∧ d (k + 1) = d k + 1) ∨ (op k = 2 ∧ (0 ≤ ar k ∧ ar k < 24) ∧ d (k + 1) = d k + 1) ∨ (op k = 10 ∧ 1 ≤ d k ∧ d (k + 1) = d k) ∨ ((3 ≤ op k ∧ op k ≤ 12 ∧ op k ≠ 10) ∧ 2 ≤ d k ∧ d (k + 1) = d k - 1 ∧ (op k = 6 → lo < k ∧ op (k - 1) = 0 ∧ ar (k - 1) ≠ 0))
def Seg_ (op ar : Int → Int) (lo hi e : Int) : Prop := ∃ d : Int → Int, d lo = 0 ∧ d hi = e ∧ ∀ k, lo ≤ k → k < hi → (0 ≤ d k ∧ d k ≤ k - lo) ∧ Stp_ op ar d lo k
def CodW_ (op ar : Int → Int) (a b c w : Int) : Prop := (0 ≤ a ∧ a ≤ b ∧ b ≤ c ∧ c ≤ 400) ∧ (∃ e, Seg_ op ar (400 * w + 0) (400 * w + a) e) ∧ (∃ e, Seg_ op ar (400 * w + a) (400 * w + b) e) ∧ (∃ e, Seg_ op ar (400 * w + b) (400 * w + c) e)
def Cod_ (op ar su wh un : Int → Int) (w : Int) : Prop := ∀ i, 0 ≤ i → i < w → CodW_ op ar (su i) (wh i) (un i) i
def Far_ (g : Int → Int) : Prop := ∀ i, 0 ≤ g i ∧ g i ≤ 801
def Tap_ (g : Int → Int) : Prop := ∀ i, 0 ≤ g i ∧ g i ≤ 255
def Qua_ (g : Int → Int) : Prop := ∀ i, 0 ≤ g i ∧ g i ≤ 3
def Sil_ (si de sm : Int → Int) (L : Int) : Prop := (∀ i, 0 ≤ i → i < L → de i = -1 → 0 ≤ si i ∧ si i ≤ 2) ∧ ∀ i, L ≤ i → si i = 0 ∧ sm i = 0
def Stz_ (st : Int → Int) (N L : Int) : Prop := (∀ i, 0 ≤ st i ∧ st i ≤ 9) ∧ ∀ p l, 0 ≤ p → 0 ≤ l → l < 24 → (N ≤ p ∨ L ≤ l) → st (24 * p + l) = 0
theorem Qua_up {g : Int → Int} {i z : Int} (h : Qua_ g) (hz : 0 ≤ z ∧ z ≤ 3) : Qua_ (upA g i z) := fun j => by
  unfold upA
  split
  · exact hz
  · exact h j
theorem Sil_0 {si de sm : Int → Int} {L x z : Int} (h : Sil_ si de sm L) (hx : 0 ≤ x ∧ x < L) : Sil_ (upA si x 0) de (upA sm x z) L := by
  refine ⟨fun i i0 i1 hd => ?_, fun i i1 => ?_⟩
  · by_cases e : i = x
    · rw [e, upA_same]; omega
    · rw [upA_ne e]; exact h.1 i i0 i1 hd
  · rw [upA_ne (by omega), upA_ne (by omega)]; exact h.2 i i1
theorem Sil_1 {si de sm : Int → Int} {L x : Int} (h : Sil_ si de sm L) (hx : 0 ≤ x ∧ x < L) (hd : de x = -1) (h2 : ¬ si x + 1 = 3) : Sil_ (upA si x (si x + 1)) de sm L := by
  have q := h.1 x hx.1 hx.2 hd
  refine ⟨fun i i0 i1 hd => ?_, fun i i1 => ?_⟩
  · by_cases e : i = x
    · rw [e, upA_same]; omega
    · rw [upA_ne e]; exact h.1 i i0 i1 hd
  · rw [upA_ne (by omega)]; exact h.2 i i1
theorem Sil_2 {si de sm : Int → Int} {L x z now : Int} (h : Sil_ si de sm L) (hx : 0 ≤ x ∧ x < L) (hn : 0 ≤ now) : Sil_ (upA si x z) (upA de x now) sm L := by
  refine ⟨fun i i0 i1 hd => ?_, fun i i1 => ?_⟩
  · by_cases e : i = x
    · rw [e, upA_same] at hd; omega
    · rw [upA_ne e] at hd; rw [upA_ne e]; exact h.1 i i0 i1 hd
  · rw [upA_ne (by omega)]; exact h.2 i i1
theorem Sil_new {si de sm : Int → Int} {L z : Int} (h : Sil_ si de sm L) : Sil_ si (upA de L z) sm (L + 1) := by
  refine ⟨fun i i0 i1 hd => ?_, fun i i1 => h.2 i (by omega)⟩
  by_cases e : i = L
  · have := (h.2 i (by omega)).1; omega
  · rw [upA_ne e] at hd; exact h.1 i i0 (by omega) hd
theorem Stz_up {st : Int → Int} {N L p l z : Int} (h : Stz_ st N L) (hp : 0 ≤ p ∧ p < N) (hl : 0 ≤ l ∧ l < L ∧ l < 24) (hz : 0 ≤ z ∧ z ≤ 9) : Stz_ (upA st (24 * p + l) z) N L := by
  refine ⟨fun i => ?_, fun q j q0 j0 j1 hq => ?_⟩
  · unfold upA
    split
    · exact hz
    · exact h.1 i
  · rw [upA_ne (by omega)]; exact h.2 q j q0 j0 j1 hq
theorem Stz_mono {st : Int → Int} {N L N2 L2 : Int} (h : Stz_ st N L) (h1 : N ≤ N2) (h2 : L ≤ L2) : Stz_ st N2 L2 := ⟨h.1, fun p l p0 l0 l1 hq => h.2 p l p0 l0 l1 (by omega)⟩
def MI (n : Nat → Int) (f : Nat → Int → Int) : Prop := (0 ≤ (n 1) ∧ (n 1) ≤ 199) ∧ (0 ≤ (n 2) ∧ (n 2) ≤ 24) ∧ (0 ≤ (n 12) ∧ (n 12) ≤ 24) ∧ (0 ≤ (n 29) ∧ (n 29) ≤ 32) ∧ (0 ≤ (n 23) ∧ (n 23) ≤ 400) ∧ (0 ≤ (n 48) ∧ (n 48) ≤ 100) ∧ (-1 ≤ (n 10) ∧ (n 10) < 24) ∧ (Fam_ (f 4)) ∧ (Str_ (f 19) (f 20) (n 29)) ∧ (Said_ (f 18) (n 12) (n 29)) ∧ (Book_ (f 67) (n 12) (n 29)) ∧ (Wds_ (f 28)) ∧ (Tok_ (f 31) (n 29)) ∧ (Cod_ (f 32) (f 33) (f 34) (f 35) (f 36) (n 29)) ∧ (Far_ (f 61)) ∧ (Tap_ (f 22)) ∧ (Qua_ (f 3)) ∧ (Sil_ (f 15) (f 16) (f 17) (n 12)) ∧ (Stz_ (f 19) (n 2) (n 12)) ∧ (0 ≤ (n 11) ∧ (n 11) ≤ 2)
