/-! ===== the class's world: T the types, lengths and references of cells, v their numbers ===== -/
def upV (v : Nat → Nat → Int) (k : Nat) (g : Nat → Int) : Nat → Nat → Int := fun j => if j = k then g else v j
def upB (g : Nat → Int) (a : Nat) (z : Int) : Nat → Int := fun b => if b = a then z else g b
theorem upB_same (g : Nat → Int) (a : Nat) (z : Int) : upB g a z a = z := if_pos rfl
theorem upB_ne {g : Nat → Int} {a b : Nat} {z : Int} (h : b ≠ a) : upB g a z b = g b := if_neg h
theorem upB_R {g : Nat → Int} {a : Nat} {z : Int} (h : ∀ b, inR (g b)) (hz : inR z) (b : Nat) : inR (upB g a z b) := by unfold upB; split; exact hz; exact h b
def dcd (x : Nat) : Option Nat := if x = 0 then none else some (x - 1)
def cF1 (τ : Nat → Nat) (ν : Nat → Int) : List Value := [.int (J (ν 20)), .int (J (ν 21)), .int (J (ν 22)), .int (J (ν 23)), .int (J (ν 24)), .int (J (ν 25)), .ref (τ 26)]
def cF2 (τ : Nat → Nat) (ν : Nat → Int) : List Value := [.int (J (ν 40)), .int (J (ν 41)), .int (J (ν 42)), .int (J (ν 43)), .int (J (ν 44)), .int (J (ν 45)), .ref (τ 46), .ref (τ 47), .ref (τ 48)]
def cF3 (τ : Nat → Nat) (ν : Nat → Int) : List Value := [.ref (τ 60), .ref (τ 61), .ref (τ 62), .ref (τ 63), .int (J (ν 64)), .int (J (ν 65)), .int (J (ν 66))]
def cF4 (τ : Nat → Nat) (ν : Nat → Int) : List Value := [.int (J (ν 80)), .int (J (ν 81)), .ref (τ 82), .int (J (ν 83)), .int (J (ν 84)), .ref (τ 85), .int (J (ν 86))]
def cF5 (τ : Nat → Nat) (ν : Nat → Int) : List Value := [.ref (τ 100), .ref (τ 101), .ref (τ 102), .int (J (ν 103))]
def cF6 (τ : Nat → Nat) (ν : Nat → Int) : List Value := [.ref (τ 120), .ref (τ 121), .ref (τ 122), .int (J (ν 123)), .int (J (ν 124))]
def cF7 (τ : Nat → Nat) (ν : Nat → Int) : List Value := [.int (J (ν 140)), .int (J (ν 141)), .int (J (ν 142)), .int (J (ν 143)), .int (J (ν 144)), .int (J (ν 145)), .int (J (ν 146))]
def cF8 (τ : Nat → Nat) (ν : Nat → Int) : List Value := [.int (J (ν 160)), .ref (τ 161), .ref (τ 162), .ref (τ 163)]
def cF9 (τ : Nat → Nat) (ν : Nat → Int) : List Value := [.ref (τ 180), .ref (τ 181), .ref (τ 182), .ref (τ 183), .ref (τ 184), .ref (τ 185), .int (J (ν 186)), .int (J (ν 187)), .int (J (ν 188)), .int (J (ν 189)), .int (J (ν 190)), .int (J (ν 191)), .ref (τ 192), .ref (τ 193), .ref (τ 194), .ref (τ 195), .ref (τ 196), va_rf (dcd (τ 197))]
def cF10 (τ : Nat → Nat) (ν : Nat → Int) : List Value := [.int (J (ν 200)), .ref (τ 201), .int (J (ν 202))]
def rF1 (τ : Nat → Nat) (ν : Nat → Int) : List Value := [.int (J (ν 20)), .int (J (ν 21)), .int (J (ν 22)), .int (J (ν 23)), .int (J (ν 24)), .int (J (ν 25)), va_rf (dcd (τ 26))]
def rF2 (τ : Nat → Nat) (ν : Nat → Int) : List Value := [.int (J (ν 40)), .int (J (ν 41)), .int (J (ν 42)), .int (J (ν 43)), .int (J (ν 44)), .int (J (ν 45)), va_rf (dcd (τ 46)), va_rf (dcd (τ 47)), va_rf (dcd (τ 48))]
def rF3 (τ : Nat → Nat) (ν : Nat → Int) : List Value := [va_rf (dcd (τ 60)), va_rf (dcd (τ 61)), va_rf (dcd (τ 62)), va_rf (dcd (τ 63)), .int (J (ν 64)), .int (J (ν 65)), .int (J (ν 66))]
def rF4 (τ : Nat → Nat) (ν : Nat → Int) : List Value := [.int (J (ν 80)), .int (J (ν 81)), va_rf (dcd (τ 82)), .int (J (ν 83)), .int (J (ν 84)), va_rf (dcd (τ 85)), .int (J (ν 86))]
def rF5 (τ : Nat → Nat) (ν : Nat → Int) : List Value := [va_rf (dcd (τ 100)), va_rf (dcd (τ 101)), va_rf (dcd (τ 102)), .int (J (ν 103))]
def rF6 (τ : Nat → Nat) (ν : Nat → Int) : List Value := [va_rf (dcd (τ 120)), va_rf (dcd (τ 121)), va_rf (dcd (τ 122)), .int (J (ν 123)), .int (J (ν 124))]
def rF7 (τ : Nat → Nat) (ν : Nat → Int) : List Value := [.int (J (ν 140)), .int (J (ν 141)), .int (J (ν 142)), .int (J (ν 143)), .int (J (ν 144)), .int (J (ν 145)), .int (J (ν 146))]
def rF8 (τ : Nat → Nat) (ν : Nat → Int) : List Value := [.int (J (ν 160)), va_rf (dcd (τ 161)), va_rf (dcd (τ 162)), va_rf (dcd (τ 163))]
def rF9 (τ : Nat → Nat) (ν : Nat → Int) : List Value := [va_rf (dcd (τ 180)), va_rf (dcd (τ 181)), va_rf (dcd (τ 182)), va_rf (dcd (τ 183)), va_rf (dcd (τ 184)), va_rf (dcd (τ 185)), .int (J (ν 186)), .int (J (ν 187)), .int (J (ν 188)), .int (J (ν 189)), .int (J (ν 190)), .int (J (ν 191)), va_rf (dcd (τ 192)), va_rf (dcd (τ 193)), va_rf (dcd (τ 194)), va_rf (dcd (τ 195)), va_rf (dcd (τ 196)), va_rf (dcd (τ 197))]
def rF10 (τ : Nat → Nat) (ν : Nat → Int) : List Value := [.int (J (ν 200)), va_rf (dcd (τ 201)), .int (J (ν 202))]
def cEnt (cy : Nat → ClassId) (τ : Nat → Nat) (ν : Nat → Int) (γ : Nat → Int32) (t : Nat) : Option va_E := match t with
  | 1 => some (.inr (1, cF1 τ ν))
  | 2 => some (.inr (2, cF2 τ ν))
  | 3 => some (.inr (3, cF3 τ ν))
  | 4 => some (.inr (4, cF4 τ ν))
  | 5 => some (.inr (5, cF5 τ ν))
  | 6 => some (.inr (6, cF6 τ ν))
  | 7 => some (.inr (7, cF7 τ ν))
  | 8 => some (.inr (8, cF8 τ ν))
  | 9 => some (.inr (9, cF9 τ ν))
  | 10 => some (.inr (0, cF10 τ ν))
  | 20 => some (.inl (cy 0, τ 1, .inl γ))
  | 21 => some (.inl (cy 1, τ 1, .inl γ))
  | 22 => some (.inl (cy 2, τ 1, .inl γ))
  | 23 => some (.inl (cy 3, τ 1, .inl γ))
  | 101 => some (.inr (1, rF1 τ ν))
  | 102 => some (.inr (2, rF2 τ ν))
  | 103 => some (.inr (3, rF3 τ ν))
  | 104 => some (.inr (4, rF4 τ ν))
  | 105 => some (.inr (5, rF5 τ ν))
  | 106 => some (.inr (6, rF6 τ ν))
  | 107 => some (.inr (7, rF7 τ ν))
  | 108 => some (.inr (8, rF8 τ ν))
  | 109 => some (.inr (9, rF9 τ ν))
  | 110 => some (.inr (0, rF10 τ ν))
  | 26 => some (.inl (cy 4, τ 1, .inr (.inl (fun _ => 0))))
  | 24 => some (.inl (cy 4, τ 1, .inr (.inr (.inr (.inr (fun i => dcd (τ (1000 + i))))))))
  | 124 => some (.inl (cy 4, τ 1, .inr (.inr (.inr (.inr (fun i => dcd (τ (1000 + i))))))))
  | _ => none
def cT1 (T : Nat → Nat → Nat) (a : Nat) : Prop := T 0 (T 26 a) = 22 ∧ T 1 (T 26 a) = 200 ∧ T 3 (T 26 a) = 300 * a + 26
def cT2 (T : Nat → Nat → Nat) (a : Nat) : Prop := T 0 (T 46 a) = 20 ∧ T 1 (T 46 a) = 24 ∧ T 3 (T 46 a) = 300 * a + 46 ∧ T 0 (T 47 a) = 20 ∧ T 1 (T 47 a) = 24 ∧ T 3 (T 47 a) = 300 * a + 47 ∧ T 0 (T 48 a) = 20 ∧ T 1 (T 48 a) = 24 ∧ T 3 (T 48 a) = 300 * a + 48
def cT3 (T : Nat → Nat → Nat) (a : Nat) : Prop := T 0 (T 60 a) = 20 ∧ T 1 (T 60 a) = 6400 ∧ T 3 (T 60 a) = 300 * a + 60 ∧ T 0 (T 61 a) = 20 ∧ T 1 (T 61 a) = 96 ∧ T 3 (T 61 a) = 300 * a + 61 ∧ T 0 (T 62 a) = 20 ∧ T 1 (T 62 a) = 4 ∧ T 3 (T 62 a) = 300 * a + 62 ∧ T 0 (T 63 a) = 20 ∧ T 1 (T 63 a) = 24 ∧ T 3 (T 63 a) = 300 * a + 63
def cT4 (T : Nat → Nat → Nat) (a : Nat) : Prop := T 0 (T 82 a) = 6 ∧ T 0 (T 85 a) = 20 ∧ T 1 (T 85 a) = 400 ∧ T 3 (T 85 a) = 300 * a + 85
def cT5 (T : Nat → Nat → Nat) (a : Nat) : Prop := T 0 (T 100 a) = 20 ∧ T 1 (T 100 a) = 5 ∧ T 3 (T 100 a) = 300 * a + 100 ∧ T 0 (T 101 a) = 20 ∧ T 1 (T 101 a) = 24 ∧ T 3 (T 101 a) = 300 * a + 101 ∧ T 0 (T 102 a) = 20 ∧ T 1 (T 102 a) = 32 ∧ T 3 (T 102 a) = 300 * a + 102
def cT6 (T : Nat → Nat → Nat) (a : Nat) : Prop := T 0 (T 120 a) = 20 ∧ T 1 (T 120 a) = 400 ∧ T 3 (T 120 a) = 300 * a + 120 ∧ T 0 (T 121 a) = 20 ∧ T 1 (T 121 a) = 400 ∧ T 3 (T 121 a) = 300 * a + 121 ∧ T 0 (T 122 a) = 20 ∧ T 1 (T 122 a) = 400 ∧ T 3 (T 122 a) = 300 * a + 122
def cT8 (T : Nat → Nat → Nat) (a : Nat) : Prop := T 0 (T 161 a) = 20 ∧ T 3 (T 161 a) = 300 * a + 161 ∧ T 0 (T 162 a) = 20 ∧ T 3 (T 162 a) = 300 * a + 162 ∧ T 0 (T 163 a) = 20 ∧ T 3 (T 163 a) = 300 * a + 163
def cT9 (T : Nat → Nat → Nat) (a : Nat) : Prop := T 0 (T 180 a) = 10 ∧ T 2 (T 180 a) = 2 ∧ T 0 (T 181 a) = 10 ∧ T 2 (T 181 a) = 1 ∧ T 0 (T 182 a) = 10 ∧ T 2 (T 182 a) = 8 ∧ T 0 (T 183 a) = 10 ∧ T 2 (T 183 a) = 7 ∧ T 0 (T 184 a) = 21 ∧ T 1 (T 184 a) = 8 ∧ T 3 (T 184 a) = 300 * a + 184 ∧ T 0 (T 185 a) = 23 ∧ T 1 (T 185 a) = 400 ∧ T 3 (T 185 a) = 300 * a + 185 ∧ T 0 (T 192 a) = 4 ∧ T 0 (T 193 a) = 5 ∧ T 0 (T 194 a) = 20 ∧ T 1 (T 194 a) = 32 ∧ T 3 (T 194 a) = 300 * a + 194 ∧ T 0 (T 195 a) = 20 ∧ T 1 (T 195 a) = 32 ∧ T 3 (T 195 a) = 300 * a + 195 ∧ T 0 (T 196 a) = 20 ∧ T 1 (T 196 a) = 401 ∧ T 3 (T 196 a) = 300 * a + 196 ∧ (∀ x, dcd (T 197 a) = some x → T 0 x = 3)
def cT10 (T : Nat → Nat → Nat) (a : Nat) : Prop := (T 0 (T 201 a) = 24 ∨ T 0 (T 201 a) = 26) ∧ (T 0 (T 201 a) = 24 → T 3 (T 201 a) = a) ∧ (T 2 a = 1 ∨ T 2 a = 2 ∨ T 2 a = 7 ∨ T 2 a = 8)
def WT (T : Nat → Nat → Nat) : Prop := (∀ a, T 1 a < 2147483648) ∧ (∀ a, T 0 a = 1 → cT1 T a) ∧ (∀ a, T 0 a = 2 → cT2 T a) ∧ (∀ a, T 0 a = 3 → cT3 T a) ∧ (∀ a, T 0 a = 4 → cT4 T a) ∧ (∀ a, T 0 a = 5 → cT5 T a) ∧ (∀ a, T 0 a = 6 → cT6 T a) ∧ (∀ a, T 0 a = 8 → cT8 T a) ∧ (∀ a, T 0 a = 9 → cT9 T a) ∧ (∀ a, T 0 a = 10 → cT10 T a) ∧ (∀ a, T 0 a = 26 → T 1 a = 0)
theorem wt1 {T : Nat → Nat → Nat} (h : WT T) {a : Nat} (ht : T 0 a = 1) : cT1 T a := h.2.1 a ht
theorem wt_26 {T : Nat → Nat → Nat} (h : WT T) {a : Nat} (ht : T 0 a = 1) : T 0 (T 26 a) = 22 := (wt1 h ht).1
theorem wl_26 {T : Nat → Nat → Nat} (h : WT T) {a : Nat} (ht : T 0 a = 1) : T 1 (T 26 a) = 200 := (wt1 h ht).2.1
theorem wo_26 {T : Nat → Nat → Nat} (h : WT T) {a : Nat} (ht : T 0 a = 1) : T 3 (T 26 a) = 300 * a + 26 := (wt1 h ht).2.2
theorem wt2 {T : Nat → Nat → Nat} (h : WT T) {a : Nat} (ht : T 0 a = 2) : cT2 T a := h.2.2.1 a ht
theorem wt_46 {T : Nat → Nat → Nat} (h : WT T) {a : Nat} (ht : T 0 a = 2) : T 0 (T 46 a) = 20 := (wt2 h ht).1
theorem wl_46 {T : Nat → Nat → Nat} (h : WT T) {a : Nat} (ht : T 0 a = 2) : T 1 (T 46 a) = 24 := (wt2 h ht).2.1
theorem wo_46 {T : Nat → Nat → Nat} (h : WT T) {a : Nat} (ht : T 0 a = 2) : T 3 (T 46 a) = 300 * a + 46 := (wt2 h ht).2.2.1
theorem wt_47 {T : Nat → Nat → Nat} (h : WT T) {a : Nat} (ht : T 0 a = 2) : T 0 (T 47 a) = 20 := (wt2 h ht).2.2.2.1
theorem wl_47 {T : Nat → Nat → Nat} (h : WT T) {a : Nat} (ht : T 0 a = 2) : T 1 (T 47 a) = 24 := (wt2 h ht).2.2.2.2.1
theorem wo_47 {T : Nat → Nat → Nat} (h : WT T) {a : Nat} (ht : T 0 a = 2) : T 3 (T 47 a) = 300 * a + 47 := (wt2 h ht).2.2.2.2.2.1
theorem wt_48 {T : Nat → Nat → Nat} (h : WT T) {a : Nat} (ht : T 0 a = 2) : T 0 (T 48 a) = 20 := (wt2 h ht).2.2.2.2.2.2.1
theorem wl_48 {T : Nat → Nat → Nat} (h : WT T) {a : Nat} (ht : T 0 a = 2) : T 1 (T 48 a) = 24 := (wt2 h ht).2.2.2.2.2.2.2.1
theorem wo_48 {T : Nat → Nat → Nat} (h : WT T) {a : Nat} (ht : T 0 a = 2) : T 3 (T 48 a) = 300 * a + 48 := (wt2 h ht).2.2.2.2.2.2.2.2
theorem wt3 {T : Nat → Nat → Nat} (h : WT T) {a : Nat} (ht : T 0 a = 3) : cT3 T a := h.2.2.2.1 a ht
theorem wt_60 {T : Nat → Nat → Nat} (h : WT T) {a : Nat} (ht : T 0 a = 3) : T 0 (T 60 a) = 20 := (wt3 h ht).1
theorem wl_60 {T : Nat → Nat → Nat} (h : WT T) {a : Nat} (ht : T 0 a = 3) : T 1 (T 60 a) = 6400 := (wt3 h ht).2.1
theorem wo_60 {T : Nat → Nat → Nat} (h : WT T) {a : Nat} (ht : T 0 a = 3) : T 3 (T 60 a) = 300 * a + 60 := (wt3 h ht).2.2.1
theorem wt_61 {T : Nat → Nat → Nat} (h : WT T) {a : Nat} (ht : T 0 a = 3) : T 0 (T 61 a) = 20 := (wt3 h ht).2.2.2.1
theorem wl_61 {T : Nat → Nat → Nat} (h : WT T) {a : Nat} (ht : T 0 a = 3) : T 1 (T 61 a) = 96 := (wt3 h ht).2.2.2.2.1
theorem wo_61 {T : Nat → Nat → Nat} (h : WT T) {a : Nat} (ht : T 0 a = 3) : T 3 (T 61 a) = 300 * a + 61 := (wt3 h ht).2.2.2.2.2.1
theorem wt_62 {T : Nat → Nat → Nat} (h : WT T) {a : Nat} (ht : T 0 a = 3) : T 0 (T 62 a) = 20 := (wt3 h ht).2.2.2.2.2.2.1
theorem wl_62 {T : Nat → Nat → Nat} (h : WT T) {a : Nat} (ht : T 0 a = 3) : T 1 (T 62 a) = 4 := (wt3 h ht).2.2.2.2.2.2.2.1
theorem wo_62 {T : Nat → Nat → Nat} (h : WT T) {a : Nat} (ht : T 0 a = 3) : T 3 (T 62 a) = 300 * a + 62 := (wt3 h ht).2.2.2.2.2.2.2.2.1
theorem wt_63 {T : Nat → Nat → Nat} (h : WT T) {a : Nat} (ht : T 0 a = 3) : T 0 (T 63 a) = 20 := (wt3 h ht).2.2.2.2.2.2.2.2.2.1
theorem wl_63 {T : Nat → Nat → Nat} (h : WT T) {a : Nat} (ht : T 0 a = 3) : T 1 (T 63 a) = 24 := (wt3 h ht).2.2.2.2.2.2.2.2.2.2.1
theorem wo_63 {T : Nat → Nat → Nat} (h : WT T) {a : Nat} (ht : T 0 a = 3) : T 3 (T 63 a) = 300 * a + 63 := (wt3 h ht).2.2.2.2.2.2.2.2.2.2.2
theorem wt4 {T : Nat → Nat → Nat} (h : WT T) {a : Nat} (ht : T 0 a = 4) : cT4 T a := h.2.2.2.2.1 a ht
theorem wt_82 {T : Nat → Nat → Nat} (h : WT T) {a : Nat} (ht : T 0 a = 4) : T 0 (T 82 a) = 6 := (wt4 h ht).1
theorem wt_85 {T : Nat → Nat → Nat} (h : WT T) {a : Nat} (ht : T 0 a = 4) : T 0 (T 85 a) = 20 := (wt4 h ht).2.1
theorem wl_85 {T : Nat → Nat → Nat} (h : WT T) {a : Nat} (ht : T 0 a = 4) : T 1 (T 85 a) = 400 := (wt4 h ht).2.2.1
theorem wo_85 {T : Nat → Nat → Nat} (h : WT T) {a : Nat} (ht : T 0 a = 4) : T 3 (T 85 a) = 300 * a + 85 := (wt4 h ht).2.2.2
theorem wt5 {T : Nat → Nat → Nat} (h : WT T) {a : Nat} (ht : T 0 a = 5) : cT5 T a := h.2.2.2.2.2.1 a ht
theorem wt_100 {T : Nat → Nat → Nat} (h : WT T) {a : Nat} (ht : T 0 a = 5) : T 0 (T 100 a) = 20 := (wt5 h ht).1
theorem wl_100 {T : Nat → Nat → Nat} (h : WT T) {a : Nat} (ht : T 0 a = 5) : T 1 (T 100 a) = 5 := (wt5 h ht).2.1
theorem wo_100 {T : Nat → Nat → Nat} (h : WT T) {a : Nat} (ht : T 0 a = 5) : T 3 (T 100 a) = 300 * a + 100 := (wt5 h ht).2.2.1
theorem wt_101 {T : Nat → Nat → Nat} (h : WT T) {a : Nat} (ht : T 0 a = 5) : T 0 (T 101 a) = 20 := (wt5 h ht).2.2.2.1
theorem wl_101 {T : Nat → Nat → Nat} (h : WT T) {a : Nat} (ht : T 0 a = 5) : T 1 (T 101 a) = 24 := (wt5 h ht).2.2.2.2.1
theorem wo_101 {T : Nat → Nat → Nat} (h : WT T) {a : Nat} (ht : T 0 a = 5) : T 3 (T 101 a) = 300 * a + 101 := (wt5 h ht).2.2.2.2.2.1
theorem wt_102 {T : Nat → Nat → Nat} (h : WT T) {a : Nat} (ht : T 0 a = 5) : T 0 (T 102 a) = 20 := (wt5 h ht).2.2.2.2.2.2.1
theorem wl_102 {T : Nat → Nat → Nat} (h : WT T) {a : Nat} (ht : T 0 a = 5) : T 1 (T 102 a) = 32 := (wt5 h ht).2.2.2.2.2.2.2.1
theorem wo_102 {T : Nat → Nat → Nat} (h : WT T) {a : Nat} (ht : T 0 a = 5) : T 3 (T 102 a) = 300 * a + 102 := (wt5 h ht).2.2.2.2.2.2.2.2
theorem wt6 {T : Nat → Nat → Nat} (h : WT T) {a : Nat} (ht : T 0 a = 6) : cT6 T a := h.2.2.2.2.2.2.1 a ht
theorem wt_120 {T : Nat → Nat → Nat} (h : WT T) {a : Nat} (ht : T 0 a = 6) : T 0 (T 120 a) = 20 := (wt6 h ht).1
theorem wl_120 {T : Nat → Nat → Nat} (h : WT T) {a : Nat} (ht : T 0 a = 6) : T 1 (T 120 a) = 400 := (wt6 h ht).2.1
theorem wo_120 {T : Nat → Nat → Nat} (h : WT T) {a : Nat} (ht : T 0 a = 6) : T 3 (T 120 a) = 300 * a + 120 := (wt6 h ht).2.2.1
theorem wt_121 {T : Nat → Nat → Nat} (h : WT T) {a : Nat} (ht : T 0 a = 6) : T 0 (T 121 a) = 20 := (wt6 h ht).2.2.2.1
theorem wl_121 {T : Nat → Nat → Nat} (h : WT T) {a : Nat} (ht : T 0 a = 6) : T 1 (T 121 a) = 400 := (wt6 h ht).2.2.2.2.1
theorem wo_121 {T : Nat → Nat → Nat} (h : WT T) {a : Nat} (ht : T 0 a = 6) : T 3 (T 121 a) = 300 * a + 121 := (wt6 h ht).2.2.2.2.2.1
theorem wt_122 {T : Nat → Nat → Nat} (h : WT T) {a : Nat} (ht : T 0 a = 6) : T 0 (T 122 a) = 20 := (wt6 h ht).2.2.2.2.2.2.1
theorem wl_122 {T : Nat → Nat → Nat} (h : WT T) {a : Nat} (ht : T 0 a = 6) : T 1 (T 122 a) = 400 := (wt6 h ht).2.2.2.2.2.2.2.1
theorem wo_122 {T : Nat → Nat → Nat} (h : WT T) {a : Nat} (ht : T 0 a = 6) : T 3 (T 122 a) = 300 * a + 122 := (wt6 h ht).2.2.2.2.2.2.2.2
theorem wt8 {T : Nat → Nat → Nat} (h : WT T) {a : Nat} (ht : T 0 a = 8) : cT8 T a := h.2.2.2.2.2.2.2.1 a ht
theorem wt_161 {T : Nat → Nat → Nat} (h : WT T) {a : Nat} (ht : T 0 a = 8) : T 0 (T 161 a) = 20 := (wt8 h ht).1
theorem wo_161 {T : Nat → Nat → Nat} (h : WT T) {a : Nat} (ht : T 0 a = 8) : T 3 (T 161 a) = 300 * a + 161 := (wt8 h ht).2.1
theorem wt_162 {T : Nat → Nat → Nat} (h : WT T) {a : Nat} (ht : T 0 a = 8) : T 0 (T 162 a) = 20 := (wt8 h ht).2.2.1
theorem wo_162 {T : Nat → Nat → Nat} (h : WT T) {a : Nat} (ht : T 0 a = 8) : T 3 (T 162 a) = 300 * a + 162 := (wt8 h ht).2.2.2.1
theorem wt_163 {T : Nat → Nat → Nat} (h : WT T) {a : Nat} (ht : T 0 a = 8) : T 0 (T 163 a) = 20 := (wt8 h ht).2.2.2.2.1
theorem wo_163 {T : Nat → Nat → Nat} (h : WT T) {a : Nat} (ht : T 0 a = 8) : T 3 (T 163 a) = 300 * a + 163 := (wt8 h ht).2.2.2.2.2
theorem wt9 {T : Nat → Nat → Nat} (h : WT T) {a : Nat} (ht : T 0 a = 9) : cT9 T a := h.2.2.2.2.2.2.2.2.1 a ht
theorem wt_180 {T : Nat → Nat → Nat} (h : WT T) {a : Nat} (ht : T 0 a = 9) : T 0 (T 180 a) = 10 := (wt9 h ht).1
theorem we_180 {T : Nat → Nat → Nat} (h : WT T) {a : Nat} (ht : T 0 a = 9) : T 2 (T 180 a) = 2 := (wt9 h ht).2.1
theorem wt_181 {T : Nat → Nat → Nat} (h : WT T) {a : Nat} (ht : T 0 a = 9) : T 0 (T 181 a) = 10 := (wt9 h ht).2.2.1
theorem we_181 {T : Nat → Nat → Nat} (h : WT T) {a : Nat} (ht : T 0 a = 9) : T 2 (T 181 a) = 1 := (wt9 h ht).2.2.2.1
theorem wt_182 {T : Nat → Nat → Nat} (h : WT T) {a : Nat} (ht : T 0 a = 9) : T 0 (T 182 a) = 10 := (wt9 h ht).2.2.2.2.1
theorem we_182 {T : Nat → Nat → Nat} (h : WT T) {a : Nat} (ht : T 0 a = 9) : T 2 (T 182 a) = 8 := (wt9 h ht).2.2.2.2.2.1
theorem wt_183 {T : Nat → Nat → Nat} (h : WT T) {a : Nat} (ht : T 0 a = 9) : T 0 (T 183 a) = 10 := (wt9 h ht).2.2.2.2.2.2.1
theorem we_183 {T : Nat → Nat → Nat} (h : WT T) {a : Nat} (ht : T 0 a = 9) : T 2 (T 183 a) = 7 := (wt9 h ht).2.2.2.2.2.2.2.1
theorem wt_184 {T : Nat → Nat → Nat} (h : WT T) {a : Nat} (ht : T 0 a = 9) : T 0 (T 184 a) = 21 := (wt9 h ht).2.2.2.2.2.2.2.2.1
theorem wl_184 {T : Nat → Nat → Nat} (h : WT T) {a : Nat} (ht : T 0 a = 9) : T 1 (T 184 a) = 8 := (wt9 h ht).2.2.2.2.2.2.2.2.2.1
theorem wo_184 {T : Nat → Nat → Nat} (h : WT T) {a : Nat} (ht : T 0 a = 9) : T 3 (T 184 a) = 300 * a + 184 := (wt9 h ht).2.2.2.2.2.2.2.2.2.2.1
theorem wt_185 {T : Nat → Nat → Nat} (h : WT T) {a : Nat} (ht : T 0 a = 9) : T 0 (T 185 a) = 23 := (wt9 h ht).2.2.2.2.2.2.2.2.2.2.2.1
theorem wl_185 {T : Nat → Nat → Nat} (h : WT T) {a : Nat} (ht : T 0 a = 9) : T 1 (T 185 a) = 400 := (wt9 h ht).2.2.2.2.2.2.2.2.2.2.2.2.1
theorem wo_185 {T : Nat → Nat → Nat} (h : WT T) {a : Nat} (ht : T 0 a = 9) : T 3 (T 185 a) = 300 * a + 185 := (wt9 h ht).2.2.2.2.2.2.2.2.2.2.2.2.2.1
theorem wt_192 {T : Nat → Nat → Nat} (h : WT T) {a : Nat} (ht : T 0 a = 9) : T 0 (T 192 a) = 4 := (wt9 h ht).2.2.2.2.2.2.2.2.2.2.2.2.2.2.1
theorem wt_193 {T : Nat → Nat → Nat} (h : WT T) {a : Nat} (ht : T 0 a = 9) : T 0 (T 193 a) = 5 := (wt9 h ht).2.2.2.2.2.2.2.2.2.2.2.2.2.2.2.1
theorem wt_194 {T : Nat → Nat → Nat} (h : WT T) {a : Nat} (ht : T 0 a = 9) : T 0 (T 194 a) = 20 := (wt9 h ht).2.2.2.2.2.2.2.2.2.2.2.2.2.2.2.2.1
theorem wl_194 {T : Nat → Nat → Nat} (h : WT T) {a : Nat} (ht : T 0 a = 9) : T 1 (T 194 a) = 32 := (wt9 h ht).2.2.2.2.2.2.2.2.2.2.2.2.2.2.2.2.2.1
theorem wo_194 {T : Nat → Nat → Nat} (h : WT T) {a : Nat} (ht : T 0 a = 9) : T 3 (T 194 a) = 300 * a + 194 := (wt9 h ht).2.2.2.2.2.2.2.2.2.2.2.2.2.2.2.2.2.2.1
theorem wt_195 {T : Nat → Nat → Nat} (h : WT T) {a : Nat} (ht : T 0 a = 9) : T 0 (T 195 a) = 20 := (wt9 h ht).2.2.2.2.2.2.2.2.2.2.2.2.2.2.2.2.2.2.2.1
theorem wl_195 {T : Nat → Nat → Nat} (h : WT T) {a : Nat} (ht : T 0 a = 9) : T 1 (T 195 a) = 32 := (wt9 h ht).2.2.2.2.2.2.2.2.2.2.2.2.2.2.2.2.2.2.2.2.1
theorem wo_195 {T : Nat → Nat → Nat} (h : WT T) {a : Nat} (ht : T 0 a = 9) : T 3 (T 195 a) = 300 * a + 195 := (wt9 h ht).2.2.2.2.2.2.2.2.2.2.2.2.2.2.2.2.2.2.2.2.2.1
theorem wt_196 {T : Nat → Nat → Nat} (h : WT T) {a : Nat} (ht : T 0 a = 9) : T 0 (T 196 a) = 20 := (wt9 h ht).2.2.2.2.2.2.2.2.2.2.2.2.2.2.2.2.2.2.2.2.2.2.1
theorem wl_196 {T : Nat → Nat → Nat} (h : WT T) {a : Nat} (ht : T 0 a = 9) : T 1 (T 196 a) = 401 := (wt9 h ht).2.2.2.2.2.2.2.2.2.2.2.2.2.2.2.2.2.2.2.2.2.2.2.1
theorem wo_196 {T : Nat → Nat → Nat} (h : WT T) {a : Nat} (ht : T 0 a = 9) : T 3 (T 196 a) = 300 * a + 196 := (wt9 h ht).2.2.2.2.2.2.2.2.2.2.2.2.2.2.2.2.2.2.2.2.2.2.2.2.1
theorem wt10 {T : Nat → Nat → Nat} (h : WT T) {a : Nat} (ht : T 0 a = 10) : cT10 T a := h.2.2.2.2.2.2.2.2.2.1 a ht
theorem ro_ne {T : Nat → Nat → Nat} {a b k j x y : Nat} (h1 : T 3 x = 300 * a + k) (h2 : T 3 y = 300 * b + j) (hk : k < 300) (hj : j < 300) (h : ¬ (a = b ∧ k = j)) : x ≠ y := fun e => h (by rw [e, h2] at h1; omega)
theorem wt26 {T : Nat → Nat → Nat} (h : WT T) {a : Nat} (ht : T 0 a = 26) : T 1 a = 0 := h.2.2.2.2.2.2.2.2.2.2 a ht
def WL (T : Nat → Nat → Nat) (v : Nat → Nat → Int) : Prop := ∀ L, T 0 L = 10 → 0 ≤ v 202 L ∧ v 202 L ≤ (T 1 (T 201 L) : Int) ∧ ∀ i : Nat, (i : Int) < v 202 L → ∃ x, dcd (T (1000 + i) (T 201 L)) = some x ∧ T 0 x = T 2 L
def xAt (D : va_G) (x : Nat × va_E) (H : Heap) : Prop := match x.2 with
  | .inl (cA, _, .inr (.inl _)) => ∃ cell : Cell, H[x.1]? = some cell ∧ cell.cls = cA ∧ cell.vm.isStatics = false ∧ cell.slots.size.toInt32 = 0
  | _ => va_at D vwCl x H
theorem xAt.kept {D : va_G} {x : Nat × va_E} {H H1 : Heap} (h : xAt D x H) (hq : H1[x.1]? = H[x.1]?) : xAt D x H1 := by
  obtain ⟨a, e⟩ := x
  rcases e with ⟨cA, n, f | f | f⟩ | o
  · exact va_at.kept (D := D) (cl := vwCl) (q := (a, .inl (cA, n, .inl f))) h hq
  · obtain ⟨cell, h1, h2⟩ := h
    exact ⟨cell, hq.trans h1, h2⟩
  · exact va_at.kept (D := D) (cl := vwCl) (q := (a, .inl (cA, n, .inr (.inr f)))) h hq
  · exact va_at.kept (D := D) (cl := vwCl) (q := (a, .inr o)) h hq
theorem xAt.lt {D : va_G} {x : Nat × va_E} {H : Heap} (h : xAt D x H) : x.1 < H.size := by
  obtain ⟨a, e⟩ := x
  rcases e with ⟨cA, n, f | f | f⟩ | o
  · exact va_at.lt (D := D) (cl := vwCl) (q := (a, .inl (cA, n, .inl f))) h
  · obtain ⟨cell, h1, h2⟩ := h
    exact (Array.getElem?_eq_some_iff.mp h1).1
  · exact va_at.lt (D := D) (cl := vwCl) (q := (a, .inl (cA, n, .inr (.inr f)))) h
  · exact va_at.lt (D := D) (cl := vwCl) (q := (a, .inr o)) h
theorem xAt_va {D : va_G} {cy : Nat → ClassId} {τ : Nat → Nat} {ν : Nat → Int} {γ : Nat → Int32} {t a : Nat} {e : va_E} {H : Heap} (h26 : t ≠ 26) (he : cEnt cy τ ν γ t = some e) (h : xAt D (a, e) H) : va_at D vwCl (a, e) H := by
  unfold cEnt at he
  split at he <;> first | exact absurd rfl h26 | (cases he; exact h) | cases he
def pr (a i : Nat) : Nat := (a + i) * (a + i) + a
theorem pr_lt {s t x y : Nat} (hx : x ≤ s) (hst : s < t) : s * s + x ≠ t * t + y := by
  intro e
  have h1 : (s + 1) * (s + 1) ≤ t * t := Nat.mul_le_mul hst hst
  have h2 : (s + 1) * (s + 1) = s * s + s + s + 1 := by rw [Nat.add_mul, Nat.mul_add]; omega
  omega
theorem pr_inj {a b i j : Nat} (h : pr a i = pr b j) : a = b ∧ i = j := by
  unfold pr at h
  rcases Nat.lt_trichotomy (a + i) (b + j) with q | q | q
  · exact absurd h (pr_lt (Nat.le_add_right a i) q)
  · rw [q] at h
    omega
  · exact absurd h.symm (pr_lt (Nat.le_add_right b j) q)
def rw_ (v : Nat → Nat → Int) (t a : Nat) : Nat → Int32 := fun i => J (v (280 + t) (pr a i))
theorem cF1_cg {τ : Nat → Nat} {ν ν2 : Nat → Int} (h : ∀ k, k < 280 → ν2 k = ν k) : cF1 τ ν2 = cF1 τ ν := by
  unfold cF1
  rw [h 20 (by decide), h 21 (by decide), h 22 (by decide), h 23 (by decide), h 24 (by decide), h 25 (by decide)]
theorem rF1_cg {τ : Nat → Nat} {ν ν2 : Nat → Int} (h : ∀ k, k < 280 → ν2 k = ν k) : rF1 τ ν2 = rF1 τ ν := by
  unfold rF1
  rw [h 20 (by decide), h 21 (by decide), h 22 (by decide), h 23 (by decide), h 24 (by decide), h 25 (by decide)]
theorem cF2_cg {τ : Nat → Nat} {ν ν2 : Nat → Int} (h : ∀ k, k < 280 → ν2 k = ν k) : cF2 τ ν2 = cF2 τ ν := by
  unfold cF2
  rw [h 40 (by decide), h 41 (by decide), h 42 (by decide), h 43 (by decide), h 44 (by decide), h 45 (by decide)]
theorem rF2_cg {τ : Nat → Nat} {ν ν2 : Nat → Int} (h : ∀ k, k < 280 → ν2 k = ν k) : rF2 τ ν2 = rF2 τ ν := by
  unfold rF2
  rw [h 40 (by decide), h 41 (by decide), h 42 (by decide), h 43 (by decide), h 44 (by decide), h 45 (by decide)]
theorem cF3_cg {τ : Nat → Nat} {ν ν2 : Nat → Int} (h : ∀ k, k < 280 → ν2 k = ν k) : cF3 τ ν2 = cF3 τ ν := by
  unfold cF3
  rw [h 64 (by decide), h 65 (by decide), h 66 (by decide)]
theorem rF3_cg {τ : Nat → Nat} {ν ν2 : Nat → Int} (h : ∀ k, k < 280 → ν2 k = ν k) : rF3 τ ν2 = rF3 τ ν := by
  unfold rF3
  rw [h 64 (by decide), h 65 (by decide), h 66 (by decide)]
theorem cF4_cg {τ : Nat → Nat} {ν ν2 : Nat → Int} (h : ∀ k, k < 280 → ν2 k = ν k) : cF4 τ ν2 = cF4 τ ν := by
  unfold cF4
  rw [h 80 (by decide), h 81 (by decide), h 83 (by decide), h 84 (by decide), h 86 (by decide)]
theorem rF4_cg {τ : Nat → Nat} {ν ν2 : Nat → Int} (h : ∀ k, k < 280 → ν2 k = ν k) : rF4 τ ν2 = rF4 τ ν := by
  unfold rF4
  rw [h 80 (by decide), h 81 (by decide), h 83 (by decide), h 84 (by decide), h 86 (by decide)]
theorem cF5_cg {τ : Nat → Nat} {ν ν2 : Nat → Int} (h : ∀ k, k < 280 → ν2 k = ν k) : cF5 τ ν2 = cF5 τ ν := by
  unfold cF5
  rw [h 103 (by decide)]
theorem rF5_cg {τ : Nat → Nat} {ν ν2 : Nat → Int} (h : ∀ k, k < 280 → ν2 k = ν k) : rF5 τ ν2 = rF5 τ ν := by
  unfold rF5
  rw [h 103 (by decide)]
theorem cF6_cg {τ : Nat → Nat} {ν ν2 : Nat → Int} (h : ∀ k, k < 280 → ν2 k = ν k) : cF6 τ ν2 = cF6 τ ν := by
  unfold cF6
  rw [h 123 (by decide), h 124 (by decide)]
theorem rF6_cg {τ : Nat → Nat} {ν ν2 : Nat → Int} (h : ∀ k, k < 280 → ν2 k = ν k) : rF6 τ ν2 = rF6 τ ν := by
  unfold rF6
  rw [h 123 (by decide), h 124 (by decide)]
theorem cF7_cg {τ : Nat → Nat} {ν ν2 : Nat → Int} (h : ∀ k, k < 280 → ν2 k = ν k) : cF7 τ ν2 = cF7 τ ν := by
  unfold cF7
  rw [h 140 (by decide), h 141 (by decide), h 142 (by decide), h 143 (by decide), h 144 (by decide), h 145 (by decide), h 146 (by decide)]
theorem rF7_cg {τ : Nat → Nat} {ν ν2 : Nat → Int} (h : ∀ k, k < 280 → ν2 k = ν k) : rF7 τ ν2 = rF7 τ ν := by
  unfold rF7
  rw [h 140 (by decide), h 141 (by decide), h 142 (by decide), h 143 (by decide), h 144 (by decide), h 145 (by decide), h 146 (by decide)]
theorem cF8_cg {τ : Nat → Nat} {ν ν2 : Nat → Int} (h : ∀ k, k < 280 → ν2 k = ν k) : cF8 τ ν2 = cF8 τ ν := by
  unfold cF8
  rw [h 160 (by decide)]
theorem rF8_cg {τ : Nat → Nat} {ν ν2 : Nat → Int} (h : ∀ k, k < 280 → ν2 k = ν k) : rF8 τ ν2 = rF8 τ ν := by
  unfold rF8
  rw [h 160 (by decide)]
theorem cF9_cg {τ : Nat → Nat} {ν ν2 : Nat → Int} (h : ∀ k, k < 280 → ν2 k = ν k) : cF9 τ ν2 = cF9 τ ν := by
  unfold cF9
  rw [h 186 (by decide), h 187 (by decide), h 188 (by decide), h 189 (by decide), h 190 (by decide), h 191 (by decide)]
theorem rF9_cg {τ : Nat → Nat} {ν ν2 : Nat → Int} (h : ∀ k, k < 280 → ν2 k = ν k) : rF9 τ ν2 = rF9 τ ν := by
  unfold rF9
  rw [h 186 (by decide), h 187 (by decide), h 188 (by decide), h 189 (by decide), h 190 (by decide), h 191 (by decide)]
theorem cF10_cg {τ : Nat → Nat} {ν ν2 : Nat → Int} (h : ∀ k, k < 280 → ν2 k = ν k) : cF10 τ ν2 = cF10 τ ν := by
  unfold cF10
  rw [h 200 (by decide), h 202 (by decide)]
theorem rF10_cg {τ : Nat → Nat} {ν ν2 : Nat → Int} (h : ∀ k, k < 280 → ν2 k = ν k) : rF10 τ ν2 = rF10 τ ν := by
  unfold rF10
  rw [h 200 (by decide), h 202 (by decide)]
theorem cEnt_cg {cy : Nat → ClassId} {τ : Nat → Nat} {ν ν2 : Nat → Int} (γ : Nat → Int32) (t : Nat) (h : ∀ k, k < 280 → ν2 k = ν k) : cEnt cy τ ν2 γ t = cEnt cy τ ν γ t := by
  unfold cEnt
  simp only [cF1_cg h, rF1_cg h, cF2_cg h, rF2_cg h, cF3_cg h, rF3_cg h, cF4_cg h, rF4_cg h, cF5_cg h, rF5_cg h, cF6_cg h, rF6_cg h, cF7_cg h, rF7_cg h, cF8_cg h, rF8_cg h, cF9_cg h, rF9_cg h, cF10_cg h, rF10_cg h]
def WC (D : va_G) (cy : Nat → ClassId) (T : Nat → Nat → Nat) (v : Nat → Nat → Int) (H : Heap) : Prop := (∀ (a : Nat) (e : va_E), cEnt cy (fun k => T k a) (fun k => v k a) (rw_ v (T 0 a) a) (T 0 a) = some e → xAt D (a, e) H) ∧ WT T ∧ WL T v ∧ ∀ k a, inR (v k a)
def ow (T : Nat → Nat → Nat) : Nat → Prop := fun x => T 0 x ≠ 0 ∧ T 0 x ≠ 26
abbrev WK (D : va_G) (cy : Nat → ClassId) (T : Nat → Nat → Nat) (v : Nat → Nat → Int) (A0 : Nat → Prop) (H0 H : Heap) (locs : List Loc) : Prop := WC D cy T v H ∧ (∀ x, ow T x → A0 x) ∧ va_S A0 H0 H locs
theorem one_P {D : va_G} {a : Nat} {e : va_E} {H : Heap} (h : va_at D vwCl (a, e) H) : va_P D vwCl [(a, e)] H := by
  intro k q hq
  cases k with
  | zero => cases hq; exact h
  | succ k => simp at hq
theorem ly_X0_0 : u_lay RX0 TX0 0 ∈ gT := (gT_c3 (List.mem_of_getElem? (i := 131) (by decide +kernel)) (by decide +kernel))
theorem ly_X0_1 : u_lay RX0 TX0 1 ∈ gT := (gT_c3 (List.mem_of_getElem? (i := 133) (by decide +kernel)) (by decide +kernel))
theorem ly_X0_2 : u_lay RX0 TX0 2 ∈ gT := (gT_c3 (List.mem_of_getElem? (i := 135) (by decide +kernel)) (by decide +kernel))
theorem ly_X0_3 : u_lay RX0 TX0 3 ∈ gT := (gT_c3 (List.mem_of_getElem? (i := 137) (by decide +kernel)) (by decide +kernel))
theorem ly_X0_4 : u_lay RX0 TX0 4 ∈ gT := (gT_c3 (List.mem_of_getElem? (i := 139) (by decide +kernel)) (by decide +kernel))
theorem ly_X0_5 : u_lay RX0 TX0 5 ∈ gT := (gT_c3 (List.mem_of_getElem? (i := 141) (by decide +kernel)) (by decide +kernel))
theorem ly_X0_6 : u_lay RX0 TX0 6 ∈ gT := (gT_c3 (List.mem_of_getElem? (i := 143) (by decide +kernel)) (by decide +kernel))
theorem in_X0k : ∀ k, k < 7 → u_lay RX0 TX0 k ∈ gT
  | 0, _ => ly_X0_0
  | 1, _ => ly_X0_1
  | 2, _ => ly_X0_2
  | 3, _ => ly_X0_3
  | 4, _ => ly_X0_4
  | 5, _ => ly_X0_5
  | 6, _ => ly_X0_6
  | k + 7, h => absurd h (by omega)
theorem in_X0 : ∀ w ∈ u_ws RX0 TX0 7, w ∈ gT := by
  intro w hw
  obtain ⟨k, hk, rfl⟩ := List.mem_map.mp hw
  exact in_X0k k (List.mem_range.mp hk)
theorem tx_X0 : ∀ k, k < 7 → (TX0 k).1 = RX0 := by decide +kernel
theorem ly_X1_0 : u_lay RX1 TX1 0 ∈ gT := (gT_c1 (List.mem_of_getElem? (i := 222) (by decide +kernel)) (by decide +kernel))
theorem ly_X1_1 : u_lay RX1 TX1 1 ∈ gT := (gT_c1 (List.mem_of_getElem? (i := 224) (by decide +kernel)) (by decide +kernel))
theorem ly_X1_2 : u_lay RX1 TX1 2 ∈ gT := (gT_c1 (List.mem_of_getElem? (i := 226) (by decide +kernel)) (by decide +kernel))
theorem ly_X1_3 : u_lay RX1 TX1 3 ∈ gT := (gT_c1 (List.mem_of_getElem? (i := 228) (by decide +kernel)) (by decide +kernel))
theorem ly_X1_4 : u_lay RX1 TX1 4 ∈ gT := (gT_c1 (List.mem_of_getElem? (i := 230) (by decide +kernel)) (by decide +kernel))
theorem ly_X1_5 : u_lay RX1 TX1 5 ∈ gT := (gT_c1 (List.mem_of_getElem? (i := 232) (by decide +kernel)) (by decide +kernel))
theorem ly_X1_6 : u_lay RX1 TX1 6 ∈ gT := (gT_c1 (List.mem_of_getElem? (i := 234) (by decide +kernel)) (by decide +kernel))
theorem ly_X1_7 : u_lay RX1 TX1 7 ∈ gT := (gT_c1 (List.mem_of_getElem? (i := 236) (by decide +kernel)) (by decide +kernel))
theorem ly_X1_8 : u_lay RX1 TX1 8 ∈ gT := (gT_c1 (List.mem_of_getElem? (i := 238) (by decide +kernel)) (by decide +kernel))
theorem in_X1k : ∀ k, k < 9 → u_lay RX1 TX1 k ∈ gT
  | 0, _ => ly_X1_0
  | 1, _ => ly_X1_1
  | 2, _ => ly_X1_2
  | 3, _ => ly_X1_3
  | 4, _ => ly_X1_4
  | 5, _ => ly_X1_5
  | 6, _ => ly_X1_6
  | 7, _ => ly_X1_7
  | 8, _ => ly_X1_8
  | k + 9, h => absurd h (by omega)
theorem in_X1 : ∀ w ∈ u_ws RX1 TX1 9, w ∈ gT := by
  intro w hw
  obtain ⟨k, hk, rfl⟩ := List.mem_map.mp hw
  exact in_X1k k (List.mem_range.mp hk)
theorem tx_X1 : ∀ k, k < 9 → (TX1 k).1 = RX1 := by decide +kernel
theorem ly_X2_0 : u_lay RX2 TX2 0 ∈ gT := (gT_c5 (List.mem_of_getElem? (i := 21) (by decide +kernel)) (by decide +kernel))
theorem ly_X2_1 : u_lay RX2 TX2 1 ∈ gT := (gT_c5 (List.mem_of_getElem? (i := 23) (by decide +kernel)) (by decide +kernel))
theorem ly_X2_2 : u_lay RX2 TX2 2 ∈ gT := (gT_c5 (List.mem_of_getElem? (i := 25) (by decide +kernel)) (by decide +kernel))
theorem ly_X2_3 : u_lay RX2 TX2 3 ∈ gT := (gT_c5 (List.mem_of_getElem? (i := 27) (by decide +kernel)) (by decide +kernel))
theorem ly_X2_4 : u_lay RX2 TX2 4 ∈ gT := (gT_c5 (List.mem_of_getElem? (i := 29) (by decide +kernel)) (by decide +kernel))
theorem ly_X2_5 : u_lay RX2 TX2 5 ∈ gT := (gT_c5 (List.mem_of_getElem? (i := 31) (by decide +kernel)) (by decide +kernel))
theorem ly_X2_6 : u_lay RX2 TX2 6 ∈ gT := (gT_c5 (List.mem_of_getElem? (i := 33) (by decide +kernel)) (by decide +kernel))
theorem in_X2k : ∀ k, k < 7 → u_lay RX2 TX2 k ∈ gT
  | 0, _ => ly_X2_0
  | 1, _ => ly_X2_1
  | 2, _ => ly_X2_2
  | 3, _ => ly_X2_3
  | 4, _ => ly_X2_4
  | 5, _ => ly_X2_5
  | 6, _ => ly_X2_6
  | k + 7, h => absurd h (by omega)
theorem in_X2 : ∀ w ∈ u_ws RX2 TX2 7, w ∈ gT := by
  intro w hw
  obtain ⟨k, hk, rfl⟩ := List.mem_map.mp hw
  exact in_X2k k (List.mem_range.mp hk)
theorem tx_X2 : ∀ k, k < 7 → (TX2 k).1 = RX2 := by decide +kernel
theorem ly_X3_0 : u_lay RX3 TX3 0 ∈ gT := (gT_c1 (List.mem_of_getElem? (i := 101) (by decide +kernel)) (by decide +kernel))
theorem ly_X3_1 : u_lay RX3 TX3 1 ∈ gT := (gT_c1 (List.mem_of_getElem? (i := 103) (by decide +kernel)) (by decide +kernel))
theorem ly_X3_2 : u_lay RX3 TX3 2 ∈ gT := (gT_c1 (List.mem_of_getElem? (i := 105) (by decide +kernel)) (by decide +kernel))
theorem ly_X3_3 : u_lay RX3 TX3 3 ∈ gT := (gT_c1 (List.mem_of_getElem? (i := 107) (by decide +kernel)) (by decide +kernel))
theorem ly_X3_4 : u_lay RX3 TX3 4 ∈ gT := (gT_c1 (List.mem_of_getElem? (i := 109) (by decide +kernel)) (by decide +kernel))
theorem ly_X3_5 : u_lay RX3 TX3 5 ∈ gT := (gT_c1 (List.mem_of_getElem? (i := 111) (by decide +kernel)) (by decide +kernel))
theorem ly_X3_6 : u_lay RX3 TX3 6 ∈ gT := (gT_c1 (List.mem_of_getElem? (i := 113) (by decide +kernel)) (by decide +kernel))
theorem in_X3k : ∀ k, k < 7 → u_lay RX3 TX3 k ∈ gT
  | 0, _ => ly_X3_0
  | 1, _ => ly_X3_1
  | 2, _ => ly_X3_2
  | 3, _ => ly_X3_3
  | 4, _ => ly_X3_4
  | 5, _ => ly_X3_5
  | 6, _ => ly_X3_6
  | k + 7, h => absurd h (by omega)
theorem in_X3 : ∀ w ∈ u_ws RX3 TX3 7, w ∈ gT := by
  intro w hw
  obtain ⟨k, hk, rfl⟩ := List.mem_map.mp hw
  exact in_X3k k (List.mem_range.mp hk)
theorem tx_X3 : ∀ k, k < 7 → (TX3 k).1 = RX3 := by decide +kernel
theorem ly_X4_0 : u_lay RX4 TX4 0 ∈ gT := (gT_c1 (List.mem_of_getElem? (i := 126) (by decide +kernel)) (by decide +kernel))
theorem ly_X4_1 : u_lay RX4 TX4 1 ∈ gT := (gT_c1 (List.mem_of_getElem? (i := 128) (by decide +kernel)) (by decide +kernel))
theorem ly_X4_2 : u_lay RX4 TX4 2 ∈ gT := (gT_c1 (List.mem_of_getElem? (i := 130) (by decide +kernel)) (by decide +kernel))
theorem ly_X4_3 : u_lay RX4 TX4 3 ∈ gT := (gT_c1 (List.mem_of_getElem? (i := 132) (by decide +kernel)) (by decide +kernel))
theorem in_X4k : ∀ k, k < 4 → u_lay RX4 TX4 k ∈ gT
  | 0, _ => ly_X4_0
  | 1, _ => ly_X4_1
  | 2, _ => ly_X4_2
  | 3, _ => ly_X4_3
  | k + 4, h => absurd h (by omega)
theorem in_X4 : ∀ w ∈ u_ws RX4 TX4 4, w ∈ gT := by
  intro w hw
  obtain ⟨k, hk, rfl⟩ := List.mem_map.mp hw
  exact in_X4k k (List.mem_range.mp hk)
theorem tx_X4 : ∀ k, k < 4 → (TX4 k).1 = RX4 := by decide +kernel
theorem ly_X5_0 : u_lay RX5 TX5 0 ∈ gT := (gT_c1 (List.mem_of_getElem? (i := 78) (by decide +kernel)) (by decide +kernel))
theorem ly_X5_1 : u_lay RX5 TX5 1 ∈ gT := (gT_c1 (List.mem_of_getElem? (i := 80) (by decide +kernel)) (by decide +kernel))
theorem ly_X5_2 : u_lay RX5 TX5 2 ∈ gT := (gT_c1 (List.mem_of_getElem? (i := 82) (by decide +kernel)) (by decide +kernel))
theorem ly_X5_3 : u_lay RX5 TX5 3 ∈ gT := (gT_c1 (List.mem_of_getElem? (i := 84) (by decide +kernel)) (by decide +kernel))
theorem ly_X5_4 : u_lay RX5 TX5 4 ∈ gT := (gT_c1 (List.mem_of_getElem? (i := 86) (by decide +kernel)) (by decide +kernel))
theorem in_X5k : ∀ k, k < 5 → u_lay RX5 TX5 k ∈ gT
  | 0, _ => ly_X5_0
  | 1, _ => ly_X5_1
  | 2, _ => ly_X5_2
  | 3, _ => ly_X5_3
  | 4, _ => ly_X5_4
  | k + 5, h => absurd h (by omega)
theorem in_X5 : ∀ w ∈ u_ws RX5 TX5 5, w ∈ gT := by
  intro w hw
  obtain ⟨k, hk, rfl⟩ := List.mem_map.mp hw
  exact in_X5k k (List.mem_range.mp hk)
theorem tx_X5 : ∀ k, k < 5 → (TX5 k).1 = RX5 := by decide +kernel
theorem ly_X6_0 : u_lay RX6 TX6 0 ∈ gT := (gT_c4 (List.mem_of_getElem? (i := 160) (by decide +kernel)) (by decide +kernel))
theorem ly_X6_1 : u_lay RX6 TX6 1 ∈ gT := (gT_c4 (List.mem_of_getElem? (i := 162) (by decide +kernel)) (by decide +kernel))
theorem ly_X6_2 : u_lay RX6 TX6 2 ∈ gT := (gT_c4 (List.mem_of_getElem? (i := 164) (by decide +kernel)) (by decide +kernel))
theorem ly_X6_3 : u_lay RX6 TX6 3 ∈ gT := (gT_c4 (List.mem_of_getElem? (i := 166) (by decide +kernel)) (by decide +kernel))
theorem ly_X6_4 : u_lay RX6 TX6 4 ∈ gT := (gT_c4 (List.mem_of_getElem? (i := 168) (by decide +kernel)) (by decide +kernel))
theorem ly_X6_5 : u_lay RX6 TX6 5 ∈ gT := (gT_c4 (List.mem_of_getElem? (i := 170) (by decide +kernel)) (by decide +kernel))
theorem ly_X6_6 : u_lay RX6 TX6 6 ∈ gT := (gT_c4 (List.mem_of_getElem? (i := 172) (by decide +kernel)) (by decide +kernel))
theorem in_X6k : ∀ k, k < 7 → u_lay RX6 TX6 k ∈ gT
  | 0, _ => ly_X6_0
  | 1, _ => ly_X6_1
  | 2, _ => ly_X6_2
  | 3, _ => ly_X6_3
  | 4, _ => ly_X6_4
  | 5, _ => ly_X6_5
  | 6, _ => ly_X6_6
  | k + 7, h => absurd h (by omega)
theorem in_X6 : ∀ w ∈ u_ws RX6 TX6 7, w ∈ gT := by
  intro w hw
  obtain ⟨k, hk, rfl⟩ := List.mem_map.mp hw
  exact in_X6k k (List.mem_range.mp hk)
theorem tx_X6 : ∀ k, k < 7 → (TX6 k).1 = RX6 := by decide +kernel
theorem ly_X7_0 : u_lay RX7 TX7 0 ∈ gT := (gT_c3 (List.mem_of_getElem? (i := 91) (by decide +kernel)) (by decide +kernel))
theorem ly_X7_1 : u_lay RX7 TX7 1 ∈ gT := (gT_c3 (List.mem_of_getElem? (i := 93) (by decide +kernel)) (by decide +kernel))
theorem ly_X7_2 : u_lay RX7 TX7 2 ∈ gT := (gT_c3 (List.mem_of_getElem? (i := 95) (by decide +kernel)) (by decide +kernel))
theorem ly_X7_3 : u_lay RX7 TX7 3 ∈ gT := (gT_c3 (List.mem_of_getElem? (i := 97) (by decide +kernel)) (by decide +kernel))
theorem in_X7k : ∀ k, k < 4 → u_lay RX7 TX7 k ∈ gT
  | 0, _ => ly_X7_0
  | 1, _ => ly_X7_1
  | 2, _ => ly_X7_2
  | 3, _ => ly_X7_3
  | k + 4, h => absurd h (by omega)
theorem in_X7 : ∀ w ∈ u_ws RX7 TX7 4, w ∈ gT := by
  intro w hw
  obtain ⟨k, hk, rfl⟩ := List.mem_map.mp hw
  exact in_X7k k (List.mem_range.mp hk)
theorem tx_X7 : ∀ k, k < 4 → (TX7 k).1 = RX7 := by decide +kernel
theorem ly_X9_0 : u_lay RX9 TX9 0 ∈ gT := (gT_c1 (List.mem_of_getElem? (i := 153) (by decide +kernel)) (by decide +kernel))
theorem ly_X9_1 : u_lay RX9 TX9 1 ∈ gT := (gT_c1 (List.mem_of_getElem? (i := 155) (by decide +kernel)) (by decide +kernel))
theorem ly_X9_2 : u_lay RX9 TX9 2 ∈ gT := (gT_c1 (List.mem_of_getElem? (i := 157) (by decide +kernel)) (by decide +kernel))
theorem ly_X9_3 : u_lay RX9 TX9 3 ∈ gT := (gT_c1 (List.mem_of_getElem? (i := 159) (by decide +kernel)) (by decide +kernel))
theorem ly_X9_4 : u_lay RX9 TX9 4 ∈ gT := (gT_c1 (List.mem_of_getElem? (i := 161) (by decide +kernel)) (by decide +kernel))
theorem ly_X9_5 : u_lay RX9 TX9 5 ∈ gT := (gT_c1 (List.mem_of_getElem? (i := 163) (by decide +kernel)) (by decide +kernel))
theorem ly_X9_6 : u_lay RX9 TX9 6 ∈ gT := (gT_c1 (List.mem_of_getElem? (i := 165) (by decide +kernel)) (by decide +kernel))
theorem ly_X9_7 : u_lay RX9 TX9 7 ∈ gT := (gT_c1 (List.mem_of_getElem? (i := 167) (by decide +kernel)) (by decide +kernel))
theorem ly_X9_8 : u_lay RX9 TX9 8 ∈ gT := (gT_c1 (List.mem_of_getElem? (i := 169) (by decide +kernel)) (by decide +kernel))
theorem ly_X9_9 : u_lay RX9 TX9 9 ∈ gT := (gT_c1 (List.mem_of_getElem? (i := 171) (by decide +kernel)) (by decide +kernel))
theorem ly_X9_10 : u_lay RX9 TX9 10 ∈ gT := (gT_c1 (List.mem_of_getElem? (i := 173) (by decide +kernel)) (by decide +kernel))
theorem ly_X9_11 : u_lay RX9 TX9 11 ∈ gT := (gT_c1 (List.mem_of_getElem? (i := 175) (by decide +kernel)) (by decide +kernel))
theorem ly_X9_12 : u_lay RX9 TX9 12 ∈ gT := (gT_c1 (List.mem_of_getElem? (i := 177) (by decide +kernel)) (by decide +kernel))
theorem ly_X9_13 : u_lay RX9 TX9 13 ∈ gT := (gT_c1 (List.mem_of_getElem? (i := 179) (by decide +kernel)) (by decide +kernel))
theorem ly_X9_14 : u_lay RX9 TX9 14 ∈ gT := (gT_c1 (List.mem_of_getElem? (i := 181) (by decide +kernel)) (by decide +kernel))
theorem ly_X9_15 : u_lay RX9 TX9 15 ∈ gT := (gT_c1 (List.mem_of_getElem? (i := 183) (by decide +kernel)) (by decide +kernel))
theorem ly_X9_16 : u_lay RX9 TX9 16 ∈ gT := (gT_c1 (List.mem_of_getElem? (i := 185) (by decide +kernel)) (by decide +kernel))
theorem ly_X9_17 : u_lay RX9 TX9 17 ∈ gT := (gT_c1 (List.mem_of_getElem? (i := 187) (by decide +kernel)) (by decide +kernel))
theorem in_X9k : ∀ k, k < 18 → u_lay RX9 TX9 k ∈ gT
  | 0, _ => ly_X9_0
  | 1, _ => ly_X9_1
  | 2, _ => ly_X9_2
  | 3, _ => ly_X9_3
  | 4, _ => ly_X9_4
  | 5, _ => ly_X9_5
  | 6, _ => ly_X9_6
  | 7, _ => ly_X9_7
  | 8, _ => ly_X9_8
  | 9, _ => ly_X9_9
  | 10, _ => ly_X9_10
  | 11, _ => ly_X9_11
  | 12, _ => ly_X9_12
  | 13, _ => ly_X9_13
  | 14, _ => ly_X9_14
  | 15, _ => ly_X9_15
  | 16, _ => ly_X9_16
  | 17, _ => ly_X9_17
  | k + 18, h => absurd h (by omega)
theorem in_X9 : ∀ w ∈ u_ws RX9 TX9 18, w ∈ gT := by
  intro w hw
  obtain ⟨k, hk, rfl⟩ := List.mem_map.mp hw
  exact in_X9k k (List.mem_range.mp hk)
theorem tx_X9 : ∀ k, k < 18 → (TX9 k).1 = RX9 := by decide +kernel
theorem ly_Jx4a65c_0 : u_lay RJx4a65c TJx4a65c 0 ∈ gT := (gT_c1 (List.mem_of_getElem? (i := 56) (by decide +kernel)) (by decide +kernel))
theorem ly_Jx4a65c_1 : u_lay RJx4a65c TJx4a65c 1 ∈ gT := (gT_c1 (List.mem_of_getElem? (i := 52) (by decide +kernel)) (by decide +kernel))
theorem ly_Jx4a65c_2 : u_lay RJx4a65c TJx4a65c 2 ∈ gT := (gT_c1 (List.mem_of_getElem? (i := 54) (by decide +kernel)) (by decide +kernel))
theorem in_Jx4a65ck : ∀ k, k < 3 → u_lay RJx4a65c TJx4a65c k ∈ gT
  | 0, _ => ly_Jx4a65c_0
  | 1, _ => ly_Jx4a65c_1
  | 2, _ => ly_Jx4a65c_2
  | k + 3, h => absurd h (by omega)
theorem in_Jx4a65c : ∀ w ∈ u_ws RJx4a65c TJx4a65c 3, w ∈ gT := by
  intro w hw
  obtain ⟨k, hk, rfl⟩ := List.mem_map.mp hw
  exact in_Jx4a65ck k (List.mem_range.mp hk)
theorem fl_X9_12 : Cond.fieldLink RX9 12 RX9 (TX9 0).2.1 (TX9 0).2.2.1 ∈ gT := (gT_c1 (List.mem_of_getElem? (i := 135) (by decide +kernel)) (by decide +kernel))
theorem fl_X9_16 : Cond.fieldLink RX9 16 RX9 (TX9 1).2.1 (TX9 1).2.2.1 ∈ gT := (gT_c1 (List.mem_of_getElem? (i := 136) (by decide +kernel)) (by decide +kernel))
theorem fl_X9_19 : Cond.fieldLink RX9 19 RX9 (TX9 2).2.1 (TX9 2).2.2.1 ∈ gT := (gT_c1 (List.mem_of_getElem? (i := 137) (by decide +kernel)) (by decide +kernel))
theorem fl_X9_22 : Cond.fieldLink RX9 22 RX9 (TX9 3).2.1 (TX9 3).2.2.1 ∈ gT := (gT_c1 (List.mem_of_getElem? (i := 138) (by decide +kernel)) (by decide +kernel))
theorem fl_X9_25 : Cond.fieldLink RX9 25 RX9 (TX9 4).2.1 (TX9 4).2.2.1 ∈ gT := (gT_c1 (List.mem_of_getElem? (i := 139) (by decide +kernel)) (by decide +kernel))
theorem fl_X9_29 : Cond.fieldLink RX9 29 RX9 (TX9 5).2.1 (TX9 5).2.2.1 ∈ gT := (gT_c1 (List.mem_of_getElem? (i := 140) (by decide +kernel)) (by decide +kernel))
theorem fl_X9_33 : Cond.fieldLink RX9 33 RX9 (TX9 6).2.1 (TX9 6).2.2.1 ∈ gT := (gT_c1 (List.mem_of_getElem? (i := 141) (by decide +kernel)) (by decide +kernel))
theorem fl_X9_37 : Cond.fieldLink RX9 37 RX9 (TX9 7).2.1 (TX9 7).2.2.1 ∈ gT := (gT_c1 (List.mem_of_getElem? (i := 142) (by decide +kernel)) (by decide +kernel))
theorem fl_X9_40 : Cond.fieldLink RX9 40 RX9 (TX9 8).2.1 (TX9 8).2.2.1 ∈ gT := (gT_c1 (List.mem_of_getElem? (i := 143) (by decide +kernel)) (by decide +kernel))
theorem fl_X9_43 : Cond.fieldLink RX9 43 RX9 (TX9 9).2.1 (TX9 9).2.2.1 ∈ gT := (gT_c1 (List.mem_of_getElem? (i := 144) (by decide +kernel)) (by decide +kernel))
theorem fl_X9_46 : Cond.fieldLink RX9 46 RX9 (TX9 10).2.1 (TX9 10).2.2.1 ∈ gT := (gT_c1 (List.mem_of_getElem? (i := 145) (by decide +kernel)) (by decide +kernel))
theorem fl_X9_49 : Cond.fieldLink RX9 49 RX9 (TX9 11).2.1 (TX9 11).2.2.1 ∈ gT := (gT_c1 (List.mem_of_getElem? (i := 146) (by decide +kernel)) (by decide +kernel))
theorem fl_X9_55 : Cond.fieldLink RX9 55 RX9 (TX9 12).2.1 (TX9 12).2.2.1 ∈ gT := (gT_c1 (List.mem_of_getElem? (i := 147) (by decide +kernel)) (by decide +kernel))
theorem fl_X9_62 : Cond.fieldLink RX9 62 RX9 (TX9 13).2.1 (TX9 13).2.2.1 ∈ gT := (gT_c1 (List.mem_of_getElem? (i := 148) (by decide +kernel)) (by decide +kernel))
theorem fl_X9_66 : Cond.fieldLink RX9 66 RX9 (TX9 14).2.1 (TX9 14).2.2.1 ∈ gT := (gT_c1 (List.mem_of_getElem? (i := 149) (by decide +kernel)) (by decide +kernel))
theorem fl_X9_70 : Cond.fieldLink RX9 70 RX9 (TX9 15).2.1 (TX9 15).2.2.1 ∈ gT := (gT_c1 (List.mem_of_getElem? (i := 150) (by decide +kernel)) (by decide +kernel))
theorem fl_X9_73 : Cond.fieldLink RX9 73 RX9 (TX9 16).2.1 (TX9 16).2.2.1 ∈ gT := (gT_c1 (List.mem_of_getElem? (i := 151) (by decide +kernel)) (by decide +kernel))
theorem fl_X9_76 : Cond.fieldLink RX9 76 RX9 (TX9 17).2.1 (TX9 17).2.2.1 ∈ gT := (gT_c1 (List.mem_of_getElem? (i := 152) (by decide +kernel)) (by decide +kernel))
theorem fl_X9_97 : Cond.fieldLink RX9 97 RX1 (TX1 3).2.1 (TX1 3).2.2.1 ∈ gT := (gT_c1 (List.mem_of_getElem? (i := 214) (by decide +kernel)) (by decide +kernel))
theorem fl_X9_100 : Cond.fieldLink RX9 100 RX1 (TX1 4).2.1 (TX1 4).2.2.1 ∈ gT := (gT_c1 (List.mem_of_getElem? (i := 216) (by decide +kernel)) (by decide +kernel))
theorem fl_X9_107 : Cond.fieldLink RX9 107 RX1 (TX1 0).2.1 (TX1 0).2.2.1 ∈ gT := (gT_c1 (List.mem_of_getElem? (i := 208) (by decide +kernel)) (by decide +kernel))
theorem fl_X9_110 : Cond.fieldLink RX9 110 RX1 (TX1 1).2.1 (TX1 1).2.2.1 ∈ gT := (gT_c1 (List.mem_of_getElem? (i := 210) (by decide +kernel)) (by decide +kernel))
theorem fl_X9_113 : Cond.fieldLink RX9 113 RX1 (TX1 2).2.1 (TX1 2).2.2.1 ∈ gT := (gT_c1 (List.mem_of_getElem? (i := 212) (by decide +kernel)) (by decide +kernel))
theorem fl_X9_133 : Cond.fieldLink RX9 133 RX6 (TX6 1).2.1 (TX6 1).2.2.1 ∈ gT := (gT_c4 (List.mem_of_getElem? (i := 150) (by decide +kernel)) (by decide +kernel))
theorem fl_X9_139 : Cond.fieldLink RX9 139 RX6 (TX6 4).2.1 (TX6 4).2.2.1 ∈ gT := (gT_c4 (List.mem_of_getElem? (i := 156) (by decide +kernel)) (by decide +kernel))
theorem fl_X9_150 : Cond.fieldLink RX9 150 RX3 (TX3 0).2.1 (TX3 0).2.2.1 ∈ gT := (gT_c1 (List.mem_of_getElem? (i := 93) (by decide +kernel)) (by decide +kernel))
theorem fl_X9_151 : Cond.fieldLink RX9 151 RX3 (TX3 1).2.1 (TX3 1).2.2.1 ∈ gT := (gT_c1 (List.mem_of_getElem? (i := 95) (by decide +kernel)) (by decide +kernel))
theorem fl_X9_182 : Cond.fieldLink RX9 182 RX1 (TX1 5).2.1 (TX1 5).2.2.1 ∈ gT := (gT_c1 (List.mem_of_getElem? (i := 218) (by decide +kernel)) (by decide +kernel))
theorem fl_X9_199 : Cond.fieldLink RX9 199 RX0 (TX0 0).2.1 (TX0 0).2.2.1 ∈ gT := (gT_c3 (List.mem_of_getElem? (i := 119) (by decide +kernel)) (by decide +kernel))
theorem fl_X9_202 : Cond.fieldLink RX9 202 RX0 (TX0 1).2.1 (TX0 1).2.2.1 ∈ gT := (gT_c3 (List.mem_of_getElem? (i := 121) (by decide +kernel)) (by decide +kernel))
theorem fl_X9_205 : Cond.fieldLink RX9 205 RX0 (TX0 2).2.1 (TX0 2).2.2.1 ∈ gT := (gT_c3 (List.mem_of_getElem? (i := 123) (by decide +kernel)) (by decide +kernel))
theorem fl_X9_208 : Cond.fieldLink RX9 208 RX0 (TX0 3).2.1 (TX0 3).2.2.1 ∈ gT := (gT_c3 (List.mem_of_getElem? (i := 125) (by decide +kernel)) (by decide +kernel))
theorem fl_X9_215 : Cond.fieldLink RX9 215 RX0 (TX0 4).2.1 (TX0 4).2.2.1 ∈ gT := (gT_c3 (List.mem_of_getElem? (i := 127) (by decide +kernel)) (by decide +kernel))
theorem fl_X9_299 : Cond.fieldLink RX9 299 RX0 (TX0 5).2.1 (TX0 5).2.2.1 ∈ gT := (gT_c3 (List.mem_of_getElem? (i := 129) (by decide +kernel)) (by decide +kernel))
theorem fl_X9_323 : Cond.fieldLink RX9 323 RX6 (TX6 0).2.1 (TX6 0).2.2.1 ∈ gT := (gT_c4 (List.mem_of_getElem? (i := 148) (by decide +kernel)) (by decide +kernel))
theorem fl_X9_326 : Cond.fieldLink RX9 326 RX6 (TX6 2).2.1 (TX6 2).2.2.1 ∈ gT := (gT_c4 (List.mem_of_getElem? (i := 152) (by decide +kernel)) (by decide +kernel))
theorem fl_X9_329 : Cond.fieldLink RX9 329 RX6 (TX6 3).2.1 (TX6 3).2.2.1 ∈ gT := (gT_c4 (List.mem_of_getElem? (i := 154) (by decide +kernel)) (by decide +kernel))
theorem fl_X9_332 : Cond.fieldLink RX9 332 RX6 (TX6 6).2.1 (TX6 6).2.2.1 ∈ gT := (gT_c4 (List.mem_of_getElem? (i := 159) (by decide +kernel)) (by decide +kernel))
theorem fl_X9_358 : Cond.fieldLink RX9 358 RX7 (TX7 0).2.1 (TX7 0).2.2.1 ∈ gT := (gT_c3 (List.mem_of_getElem? (i := 87) (by decide +kernel)) (by decide +kernel))
theorem fl_X0_9 : Cond.fieldLink RX0 9 RX0 (TX0 2).2.1 (TX0 2).2.2.1 ∈ gT := (gT_c3 (List.mem_of_getElem? (i := 122) (by decide +kernel)) (by decide +kernel))
theorem fl_X0_15 : Cond.fieldLink RX0 15 RX0 (TX0 3).2.1 (TX0 3).2.2.1 ∈ gT := (gT_c3 (List.mem_of_getElem? (i := 124) (by decide +kernel)) (by decide +kernel))
theorem fl_X0_18 : Cond.fieldLink RX0 18 RX0 (TX0 4).2.1 (TX0 4).2.2.1 ∈ gT := (gT_c3 (List.mem_of_getElem? (i := 126) (by decide +kernel)) (by decide +kernel))
theorem fl_X0_21 : Cond.fieldLink RX0 21 RX0 (TX0 5).2.1 (TX0 5).2.2.1 ∈ gT := (gT_c3 (List.mem_of_getElem? (i := 128) (by decide +kernel)) (by decide +kernel))
theorem fl_X0_24 : Cond.fieldLink RX0 24 RX0 (TX0 6).2.1 (TX0 6).2.2.1 ∈ gT := (gT_c3 (List.mem_of_getElem? (i := 130) (by decide +kernel)) (by decide +kernel))
theorem fl_X0_28 : Cond.fieldLink RX0 28 RX0 (TX0 0).2.1 (TX0 0).2.2.1 ∈ gT := (gT_c3 (List.mem_of_getElem? (i := 118) (by decide +kernel)) (by decide +kernel))
theorem fl_X0_31 : Cond.fieldLink RX0 31 RX0 (TX0 1).2.1 (TX0 1).2.2.1 ∈ gT := (gT_c3 (List.mem_of_getElem? (i := 120) (by decide +kernel)) (by decide +kernel))
theorem fl_X1_9 : Cond.fieldLink RX1 9 RX1 (TX1 3).2.1 (TX1 3).2.2.1 ∈ gT := (gT_c1 (List.mem_of_getElem? (i := 213) (by decide +kernel)) (by decide +kernel))
theorem fl_X1_15 : Cond.fieldLink RX1 15 RX1 (TX1 4).2.1 (TX1 4).2.2.1 ∈ gT := (gT_c1 (List.mem_of_getElem? (i := 215) (by decide +kernel)) (by decide +kernel))
theorem fl_X1_19 : Cond.fieldLink RX1 19 RX1 (TX1 5).2.1 (TX1 5).2.2.1 ∈ gT := (gT_c1 (List.mem_of_getElem? (i := 217) (by decide +kernel)) (by decide +kernel))
theorem fl_X1_22 : Cond.fieldLink RX1 22 RX1 (TX1 6).2.1 (TX1 6).2.2.1 ∈ gT := (gT_c1 (List.mem_of_getElem? (i := 219) (by decide +kernel)) (by decide +kernel))
theorem fl_X1_26 : Cond.fieldLink RX1 26 RX1 (TX1 7).2.1 (TX1 7).2.2.1 ∈ gT := (gT_c1 (List.mem_of_getElem? (i := 220) (by decide +kernel)) (by decide +kernel))
theorem fl_X1_29 : Cond.fieldLink RX1 29 RX1 (TX1 8).2.1 (TX1 8).2.2.1 ∈ gT := (gT_c1 (List.mem_of_getElem? (i := 221) (by decide +kernel)) (by decide +kernel))
theorem fl_X1_32 : Cond.fieldLink RX1 32 RX1 (TX1 0).2.1 (TX1 0).2.2.1 ∈ gT := (gT_c1 (List.mem_of_getElem? (i := 207) (by decide +kernel)) (by decide +kernel))
theorem fl_X1_35 : Cond.fieldLink RX1 35 RX1 (TX1 1).2.1 (TX1 1).2.2.1 ∈ gT := (gT_c1 (List.mem_of_getElem? (i := 209) (by decide +kernel)) (by decide +kernel))
theorem fl_X1_38 : Cond.fieldLink RX1 38 RX1 (TX1 2).2.1 (TX1 2).2.2.1 ∈ gT := (gT_c1 (List.mem_of_getElem? (i := 211) (by decide +kernel)) (by decide +kernel))
theorem fl_X2_11 : Cond.fieldLink RX2 11 RX2 (TX2 0).2.1 (TX2 0).2.2.1 ∈ gT := (gT_c5 (List.mem_of_getElem? (i := 14) (by decide +kernel)) (by decide +kernel))
theorem fl_X2_15 : Cond.fieldLink RX2 15 RX2 (TX2 1).2.1 (TX2 1).2.2.1 ∈ gT := (gT_c5 (List.mem_of_getElem? (i := 15) (by decide +kernel)) (by decide +kernel))
theorem fl_X2_18 : Cond.fieldLink RX2 18 RX2 (TX2 2).2.1 (TX2 2).2.2.1 ∈ gT := (gT_c5 (List.mem_of_getElem? (i := 16) (by decide +kernel)) (by decide +kernel))
theorem fl_X2_21 : Cond.fieldLink RX2 21 RX2 (TX2 3).2.1 (TX2 3).2.2.1 ∈ gT := (gT_c5 (List.mem_of_getElem? (i := 17) (by decide +kernel)) (by decide +kernel))
theorem fl_X2_24 : Cond.fieldLink RX2 24 RX2 (TX2 4).2.1 (TX2 4).2.2.1 ∈ gT := (gT_c5 (List.mem_of_getElem? (i := 18) (by decide +kernel)) (by decide +kernel))
theorem fl_X2_28 : Cond.fieldLink RX2 28 RX2 (TX2 5).2.1 (TX2 5).2.2.1 ∈ gT := (gT_c5 (List.mem_of_getElem? (i := 19) (by decide +kernel)) (by decide +kernel))
theorem fl_X2_31 : Cond.fieldLink RX2 31 RX2 (TX2 6).2.1 (TX2 6).2.2.1 ∈ gT := (gT_c5 (List.mem_of_getElem? (i := 20) (by decide +kernel)) (by decide +kernel))
theorem fl_X3_9 : Cond.fieldLink RX3 9 RX3 (TX3 0).2.1 (TX3 0).2.2.1 ∈ gT := (gT_c1 (List.mem_of_getElem? (i := 92) (by decide +kernel)) (by decide +kernel))
theorem fl_X3_15 : Cond.fieldLink RX3 15 RX3 (TX3 1).2.1 (TX3 1).2.2.1 ∈ gT := (gT_c1 (List.mem_of_getElem? (i := 94) (by decide +kernel)) (by decide +kernel))
theorem fl_X3_21 : Cond.fieldLink RX3 21 RX3 (TX3 2).2.1 (TX3 2).2.2.1 ∈ gT := (gT_c1 (List.mem_of_getElem? (i := 96) (by decide +kernel)) (by decide +kernel))
theorem fl_X3_25 : Cond.fieldLink RX3 25 RX3 (TX3 3).2.1 (TX3 3).2.2.1 ∈ gT := (gT_c1 (List.mem_of_getElem? (i := 97) (by decide +kernel)) (by decide +kernel))
theorem fl_X3_30 : Cond.fieldLink RX3 30 RX3 (TX3 4).2.1 (TX3 4).2.2.1 ∈ gT := (gT_c1 (List.mem_of_getElem? (i := 98) (by decide +kernel)) (by decide +kernel))
theorem fl_X3_33 : Cond.fieldLink RX3 33 RX3 (TX3 5).2.1 (TX3 5).2.2.1 ∈ gT := (gT_c1 (List.mem_of_getElem? (i := 99) (by decide +kernel)) (by decide +kernel))
theorem fl_X3_37 : Cond.fieldLink RX3 37 RX3 (TX3 6).2.1 (TX3 6).2.2.1 ∈ gT := (gT_c1 (List.mem_of_getElem? (i := 100) (by decide +kernel)) (by decide +kernel))
theorem fl_X4_11 : Cond.fieldLink RX4 11 RX4 (TX4 0).2.1 (TX4 0).2.2.1 ∈ gT := (gT_c1 (List.mem_of_getElem? (i := 122) (by decide +kernel)) (by decide +kernel))
theorem fl_X4_17 : Cond.fieldLink RX4 17 RX4 (TX4 1).2.1 (TX4 1).2.2.1 ∈ gT := (gT_c1 (List.mem_of_getElem? (i := 123) (by decide +kernel)) (by decide +kernel))
theorem fl_X4_20 : Cond.fieldLink RX4 20 RX4 (TX4 2).2.1 (TX4 2).2.2.1 ∈ gT := (gT_c1 (List.mem_of_getElem? (i := 124) (by decide +kernel)) (by decide +kernel))
theorem fl_X4_23 : Cond.fieldLink RX4 23 RX4 (TX4 3).2.1 (TX4 3).2.2.1 ∈ gT := (gT_c1 (List.mem_of_getElem? (i := 125) (by decide +kernel)) (by decide +kernel))
theorem fl_X5_9 : Cond.fieldLink RX5 9 RX5 (TX5 0).2.1 (TX5 0).2.2.1 ∈ gT := (gT_c1 (List.mem_of_getElem? (i := 71) (by decide +kernel)) (by decide +kernel))
theorem fl_X5_15 : Cond.fieldLink RX5 15 RX5 (TX5 1).2.1 (TX5 1).2.2.1 ∈ gT := (gT_c1 (List.mem_of_getElem? (i := 73) (by decide +kernel)) (by decide +kernel))
theorem fl_X5_18 : Cond.fieldLink RX5 18 RX5 (TX5 2).2.1 (TX5 2).2.2.1 ∈ gT := (gT_c1 (List.mem_of_getElem? (i := 74) (by decide +kernel)) (by decide +kernel))
theorem fl_X5_21 : Cond.fieldLink RX5 21 RX5 (TX5 3).2.1 (TX5 3).2.2.1 ∈ gT := (gT_c1 (List.mem_of_getElem? (i := 75) (by decide +kernel)) (by decide +kernel))
theorem fl_X5_25 : Cond.fieldLink RX5 25 RX5 (TX5 4).2.1 (TX5 4).2.2.1 ∈ gT := (gT_c1 (List.mem_of_getElem? (i := 77) (by decide +kernel)) (by decide +kernel))
theorem fl_X6_9 : Cond.fieldLink RX6 9 RX6 (TX6 6).2.1 (TX6 6).2.2.1 ∈ gT := (gT_c4 (List.mem_of_getElem? (i := 158) (by decide +kernel)) (by decide +kernel))
theorem fl_X6_15 : Cond.fieldLink RX6 15 RX6 (TX6 0).2.1 (TX6 0).2.2.1 ∈ gT := (gT_c4 (List.mem_of_getElem? (i := 147) (by decide +kernel)) (by decide +kernel))
theorem fl_X6_19 : Cond.fieldLink RX6 19 RX6 (TX6 1).2.1 (TX6 1).2.2.1 ∈ gT := (gT_c4 (List.mem_of_getElem? (i := 149) (by decide +kernel)) (by decide +kernel))
theorem fl_X6_22 : Cond.fieldLink RX6 22 RX6 (TX6 2).2.1 (TX6 2).2.2.1 ∈ gT := (gT_c4 (List.mem_of_getElem? (i := 151) (by decide +kernel)) (by decide +kernel))
theorem fl_X6_25 : Cond.fieldLink RX6 25 RX6 (TX6 3).2.1 (TX6 3).2.2.1 ∈ gT := (gT_c4 (List.mem_of_getElem? (i := 153) (by decide +kernel)) (by decide +kernel))
theorem fl_X6_28 : Cond.fieldLink RX6 28 RX6 (TX6 4).2.1 (TX6 4).2.2.1 ∈ gT := (gT_c4 (List.mem_of_getElem? (i := 155) (by decide +kernel)) (by decide +kernel))
theorem fl_X6_31 : Cond.fieldLink RX6 31 RX6 (TX6 5).2.1 (TX6 5).2.2.1 ∈ gT := (gT_c4 (List.mem_of_getElem? (i := 157) (by decide +kernel)) (by decide +kernel))
theorem fl_X7_9 : Cond.fieldLink RX7 9 RX7 (TX7 0).2.1 (TX7 0).2.2.1 ∈ gT := (gT_c3 (List.mem_of_getElem? (i := 86) (by decide +kernel)) (by decide +kernel))
theorem fl_X7_15 : Cond.fieldLink RX7 15 RX7 (TX7 1).2.1 (TX7 1).2.2.1 ∈ gT := (gT_c3 (List.mem_of_getElem? (i := 88) (by decide +kernel)) (by decide +kernel))
theorem fl_X7_19 : Cond.fieldLink RX7 19 RX7 (TX7 2).2.1 (TX7 2).2.2.1 ∈ gT := (gT_c3 (List.mem_of_getElem? (i := 89) (by decide +kernel)) (by decide +kernel))
theorem fl_X7_28 : Cond.fieldLink RX7 28 RX7 (TX7 3).2.1 (TX7 3).2.2.1 ∈ gT := (gT_c3 (List.mem_of_getElem? (i := 90) (by decide +kernel)) (by decide +kernel))
theorem fl_Jx4a65c_9 : Cond.fieldLink RJx4a65c 9 RJx4a65c (TJx4a65c 1).2.1 (TJx4a65c 1).2.2.1 ∈ gT := (gT_c1 (List.mem_of_getElem? (i := 47) (by decide +kernel)) (by decide +kernel))
theorem fl_Jx4a65c_48 : Cond.fieldLink RJx4a65c 48 RJx4a65c (TJx4a65c 2).2.1 (TJx4a65c 2).2.2.1 ∈ gT := (gT_c1 (List.mem_of_getElem? (i := 48) (by decide +kernel)) (by decide +kernel))
theorem fl_Jx4a65c_63 : Cond.fieldLink RJx4a65c 63 RJx4a65c (TJx4a65c 0).2.1 (TJx4a65c 0).2.2.1 ∈ gT := (gT_c1 (List.mem_of_getElem? (i := 50) (by decide +kernel)) (by decide +kernel))
section CRows
variable {p : Program} {l : Launch} {e : Env} {R : Room} {s : State} {m : MethodId} {args : Array Value} {below : List Frame} {meth : Method} {c : Code} {H H0 : Heap} {locs : List Loc} {cells slots : Nat} {Q : State → Prop} {cc : ByteArray} {nL : Nat} {ret : Option FieldType} {pc : Nat} {ls : Array Slot} {rest : List Value} {D : va_G} {cy : Nat → ClassId} {T : Nat → Nat → Nat} {v : Nat → Nat → Int} {A0 : Nat → Prop} {own : String}
theorem cw_xt (hw : WC D cy T v H) {a t : Nat} (ht : T 0 a = t) : ∃ γ : Nat → Int32, ∀ e : va_E, cEnt cy (fun k => T k a) (fun k => v k a) γ t = some e → xAt D (a, e) H := by
  exact ⟨rw_ v t a, fun e he => hw.1 a e (by rw [ht]; exact he)⟩
theorem cw_ct (hw : WC D cy T v H) {a t : Nat} (ht : T 0 a = t) (h26 : t ≠ 26 := by decide) : ∀ e : va_E, cEnt cy (fun k => T k a) (fun k => v k a) (rw_ v t a) t = some e → va_at D vwCl (a, e) H := fun e he => xAt_va h26 he (hw.1 a e (by rw [ht]; exact he))
theorem cw_at (hw : WC D cy T v H) {a t : Nat} (ht : T 0 a = t) (h26 : t ≠ 26 := by decide) : ∃ γ : Nat → Int32, ∀ e : va_E, cEnt cy (fun k => T k a) (fun k => v k a) γ t = some e → va_at D vwCl (a, e) H := by
  obtain ⟨γ, h⟩ := cw_xt hw ht
  exact ⟨γ, fun e he => xAt_va h26 he (h e he)⟩
theorem cw_ob1 (hw : WC D cy T v H) {a : Nat} (ht : T 0 a = 1) : va_at D vwCl (a, .inr (1, cF1 (fun k => T k a) (fun k => v k a))) H := by
  obtain ⟨γ, h⟩ := cw_at hw ht
  exact h _ rfl
theorem cw_rc1 (hK : KK D cy s) (hw : WC D cy T v H) {a : Nat} (ht : T 0 a = 1) : ∃ cellB : Cell, H[a]? = some cellB ∧ cellB.vm.isStatics = false ∧ s.vm.findClass RX0 = some cellB.cls := va_recv hK (one_P (cw_ob1 hw ht)) (ci := 1) (q0 := 0) rfl rfl
theorem cw_ob2 (hw : WC D cy T v H) {a : Nat} (ht : T 0 a = 2) : va_at D vwCl (a, .inr (2, cF2 (fun k => T k a) (fun k => v k a))) H := by
  obtain ⟨γ, h⟩ := cw_at hw ht
  exact h _ rfl
theorem cw_rc2 (hK : KK D cy s) (hw : WC D cy T v H) {a : Nat} (ht : T 0 a = 2) : ∃ cellB : Cell, H[a]? = some cellB ∧ cellB.vm.isStatics = false ∧ s.vm.findClass RX1 = some cellB.cls := va_recv hK (one_P (cw_ob2 hw ht)) (ci := 2) (q0 := 0) rfl rfl
theorem cw_ob3 (hw : WC D cy T v H) {a : Nat} (ht : T 0 a = 3) : va_at D vwCl (a, .inr (3, cF3 (fun k => T k a) (fun k => v k a))) H := by
  obtain ⟨γ, h⟩ := cw_at hw ht
  exact h _ rfl
theorem cw_rc3 (hK : KK D cy s) (hw : WC D cy T v H) {a : Nat} (ht : T 0 a = 3) : ∃ cellB : Cell, H[a]? = some cellB ∧ cellB.vm.isStatics = false ∧ s.vm.findClass RX2 = some cellB.cls := va_recv hK (one_P (cw_ob3 hw ht)) (ci := 3) (q0 := 0) rfl rfl
theorem cw_ob4 (hw : WC D cy T v H) {a : Nat} (ht : T 0 a = 4) : va_at D vwCl (a, .inr (4, cF4 (fun k => T k a) (fun k => v k a))) H := by
  obtain ⟨γ, h⟩ := cw_at hw ht
  exact h _ rfl
theorem cw_rc4 (hK : KK D cy s) (hw : WC D cy T v H) {a : Nat} (ht : T 0 a = 4) : ∃ cellB : Cell, H[a]? = some cellB ∧ cellB.vm.isStatics = false ∧ s.vm.findClass RX3 = some cellB.cls := va_recv hK (one_P (cw_ob4 hw ht)) (ci := 4) (q0 := 0) rfl rfl
theorem cw_ob5 (hw : WC D cy T v H) {a : Nat} (ht : T 0 a = 5) : va_at D vwCl (a, .inr (5, cF5 (fun k => T k a) (fun k => v k a))) H := by
  obtain ⟨γ, h⟩ := cw_at hw ht
  exact h _ rfl
theorem cw_rc5 (hK : KK D cy s) (hw : WC D cy T v H) {a : Nat} (ht : T 0 a = 5) : ∃ cellB : Cell, H[a]? = some cellB ∧ cellB.vm.isStatics = false ∧ s.vm.findClass RX4 = some cellB.cls := va_recv hK (one_P (cw_ob5 hw ht)) (ci := 5) (q0 := 0) rfl rfl
theorem cw_ob6 (hw : WC D cy T v H) {a : Nat} (ht : T 0 a = 6) : va_at D vwCl (a, .inr (6, cF6 (fun k => T k a) (fun k => v k a))) H := by
  obtain ⟨γ, h⟩ := cw_at hw ht
  exact h _ rfl
theorem cw_rc6 (hK : KK D cy s) (hw : WC D cy T v H) {a : Nat} (ht : T 0 a = 6) : ∃ cellB : Cell, H[a]? = some cellB ∧ cellB.vm.isStatics = false ∧ s.vm.findClass RX5 = some cellB.cls := va_recv hK (one_P (cw_ob6 hw ht)) (ci := 6) (q0 := 0) rfl rfl
theorem cw_ob7 (hw : WC D cy T v H) {a : Nat} (ht : T 0 a = 7) : va_at D vwCl (a, .inr (7, cF7 (fun k => T k a) (fun k => v k a))) H := by
  obtain ⟨γ, h⟩ := cw_at hw ht
  exact h _ rfl
theorem cw_rc7 (hK : KK D cy s) (hw : WC D cy T v H) {a : Nat} (ht : T 0 a = 7) : ∃ cellB : Cell, H[a]? = some cellB ∧ cellB.vm.isStatics = false ∧ s.vm.findClass RX6 = some cellB.cls := va_recv hK (one_P (cw_ob7 hw ht)) (ci := 7) (q0 := 0) rfl rfl
theorem cw_ob8 (hw : WC D cy T v H) {a : Nat} (ht : T 0 a = 8) : va_at D vwCl (a, .inr (8, cF8 (fun k => T k a) (fun k => v k a))) H := by
  obtain ⟨γ, h⟩ := cw_at hw ht
  exact h _ rfl
theorem cw_rc8 (hK : KK D cy s) (hw : WC D cy T v H) {a : Nat} (ht : T 0 a = 8) : ∃ cellB : Cell, H[a]? = some cellB ∧ cellB.vm.isStatics = false ∧ s.vm.findClass RX7 = some cellB.cls := va_recv hK (one_P (cw_ob8 hw ht)) (ci := 8) (q0 := 0) rfl rfl
theorem cw_ob9 (hw : WC D cy T v H) {a : Nat} (ht : T 0 a = 9) : va_at D vwCl (a, .inr (9, cF9 (fun k => T k a) (fun k => v k a))) H := by
  obtain ⟨γ, h⟩ := cw_at hw ht
  exact h _ rfl
theorem cw_rc9 (hK : KK D cy s) (hw : WC D cy T v H) {a : Nat} (ht : T 0 a = 9) : ∃ cellB : Cell, H[a]? = some cellB ∧ cellB.vm.isStatics = false ∧ s.vm.findClass RX9 = some cellB.cls := va_recv hK (one_P (cw_ob9 hw ht)) (ci := 9) (q0 := 0) rfl rfl
theorem cw_ob10 (hw : WC D cy T v H) {a : Nat} (ht : T 0 a = 10) : va_at D vwCl (a, .inr (0, cF10 (fun k => T k a) (fun k => v k a))) H := by
  obtain ⟨γ, h⟩ := cw_at hw ht
  exact h _ rfl
theorem cw_rc10 (hK : KK D cy s) (hw : WC D cy T v H) {a : Nat} (ht : T 0 a = 10) : ∃ cellB : Cell, H[a]? = some cellB ∧ cellB.vm.isStatics = false ∧ s.vm.findClass RJx4a65c = some cellB.cls := va_recv hK (one_P (cw_ob10 hw ht)) (ci := 0) (q0 := 0) rfl rfl
theorem cw_put {H1 : Heap} (hw : WC D cy T v H) {a t k : Nat} {z : Int} (hk : k < 280) (ht : T 0 a = t) (hz : inR z) (hoth : ∀ b, b ≠ a → H1[b]? = H[b]?) (hL : WL T (upV v k (upB (v k) a z))) (hnew : ∀ γ : Nat → Int32, ∀ e : va_E, cEnt cy (fun j => T j a) (fun j => upV v k (upB (v k) a z) j a) γ t = some e → xAt D (a, e) H1) : WC D cy T (upV v k (upB (v k) a z)) H1 := by
  obtain ⟨h, hT, -, hR⟩ := hw
  refine ⟨fun b e he => ?_, hT, hL, fun j b => ?_⟩
  · by_cases hb : b = a
    · subst hb
      rw [ht] at he
      exact hnew _ e he
    · have e1 : (fun j => upV v k (upB (v k) a z) j b) = fun j => v j b := by
        funext j
        unfold upV
        split
        · rename_i hj; rw [hj]; exact upB_ne hb
        · rfl
      have e2 : rw_ (upV v k (upB (v k) a z)) (T 0 b) b = rw_ v (T 0 b) b := by
        funext j
        unfold rw_ upV
        rw [if_neg (by omega)]
      rw [e1, e2] at he
      exact (h b e he).kept (hoth b hb)
  · unfold upV
    split
    · exact upB_R (hR k) hz b
    · exact hR j b
theorem cw_arr {H1 : Heap} (hw : WC D cy T v H) {a t i : Nat} {z : Int} (ht : T 0 a = t) (hz : inR z) (hoth : ∀ b, b ≠ a → H1[b]? = H[b]?) (hnew : ∀ e : va_E, cEnt cy (fun j => T j a) (fun j => v j a) (rw_ (upV v (280 + t) (upB (v (280 + t)) (pr a i) z)) t a) t = some e → xAt D (a, e) H1) : WC D cy T (upV v (280 + t) (upB (v (280 + t)) (pr a i) z)) H1 := by
  obtain ⟨h, hT, hL, hR⟩ := hw
  have hlo : ∀ k, k < 280 → upV v (280 + t) (upB (v (280 + t)) (pr a i) z) k = v k := fun k hk => by
    unfold upV
    rw [if_neg (by omega)]
  refine ⟨fun b e he => ?_, hT, fun L hL0 => ?_, fun j b => ?_⟩
  · rw [cEnt_cg (ν := fun k => v k b) _ _ (fun k hk => congrFun (hlo k hk) b)] at he
    by_cases hb : b = a
    · subst hb
      rw [ht] at he
      exact hnew e he
    · have e2 : rw_ (upV v (280 + t) (upB (v (280 + t)) (pr a i) z)) (T 0 b) b = rw_ v (T 0 b) b := by
        funext j
        unfold rw_ upV
        split
        · rename_i hj
          rw [hj, upB_ne (fun q => hb (pr_inj q).1)]
        · rfl
      rw [e2] at he
      exact (h b e he).kept (hoth b hb)
  · rw [hlo 202 (by decide)]
    exact hL L hL0
  · unfold upV
    split
    · exact upB_R (hR _) hz b
    · exact hR j b
theorem x_get (E : CX p s m args meth c own cc nL ret) (hK : KK D cy s) {C : String} {Tt : u_T} {N ci ix k a : Nat} {fs : List Value} (hin : ∀ w ∈ u_ws C Tt N, w ∈ gT) (hc : vwCl[ci]? = some (C, Tt, N)) (hP : va_at D vwCl (a, .inr (ci, fs)) H) (hk : k < N) (hl : Cond.fieldLink own ix C (Tt k).2.1 (Tt k).2.2.1 ∈ gT) (hsame : ∀ x, s.fieldFound? (Tt k).1 (Tt k).2.1 (Tt k).2.2.1 = some x → s.fieldFound? C (Tt k).2.1 (Tt k).2.2.1 = some x) {w : Value} (hv : fs[k]? = some w) (pc' : Nat) (hp : pc + 3 = pc') (hdg : decode cc pc = .ok (.getfield ix, 3)) (kk : W p l e R s m args below meth c H locs cells slots Q (F0 m pc' ls (w :: rest))) : W p l e R s m args below meth c H locs cells slots Q (F0 m pc ls (.ref a :: rest)) := by
  subst hp
  exact va_get (D := D) (ci := ci) (C := C) (T := Tt) (N := N) E.1 E.2.1 E.2.2.2.2.1 hin E.2.2.2.1 hK (one_P hP) 0 rfl hc k hk (E.2.2.2.2.1 _ hl) hsame hv hdg kk
theorem x_put (E : CX p s m args meth c own cc nL ret) (hK : KK D cy s) (hS0 : va_S A0 H0 H locs) {C : String} {Tt : u_T} {N ci ix k a : Nat} {fs : List Value} (hA : A0 a) (hin : ∀ w ∈ u_ws C Tt N, w ∈ gT) (ty0 : Nat → FieldType) (hty : ∀ k, k < N → parseFieldDescriptor (Tt k).2.2.1 = some (ty0 k)) (hnm : ∀ a, a < N → ∀ b, b < N → a ≠ b → (Tt a).2.1 ≠ (Tt b).2.1) (hc : vwCl[ci]? = some (C, Tt, N)) (hP : va_at D vwCl (a, .inr (ci, fs)) H) (hk : k < N) (hl : Cond.fieldLink own ix C (Tt k).2.1 (Tt k).2.2.1 ∈ gT) (hsame : ∀ x, s.fieldFound? (Tt k).1 (Tt k).2.1 (Tt k).2.2.1 = some x → s.fieldFound? C (Tt k).2.1 (Tt k).2.2.1 = some x) (hfin : (Tt k).2.2.2 = false) {ty : FieldType} {w : Value} (hd : parseFieldDescriptor (Tt k).2.2.1 = some ty) (hn : narrow ty w = w) (hfit : fits ty w = true) (hlen : k < fs.length) (pc' : Nat) (hp : pc + 3 = pc') (hdg : decode cc pc = .ok (.putfield ix, 3))
    (kk : ∀ (H1 : Heap) (locs1 : List Loc), va_at D vwCl (a, .inr (ci, fs.set k w)) H1 → (∀ b, b ≠ a → H1[b]? = H[b]?) → H1.size = H.size → va_S A0 H0 H1 locs1 → W p l e R s m args below meth c H1 locs1 cells slots Q (F0 m pc' ls rest)) : W p l e R s m args below meth c H locs cells slots Q (F0 m pc ls (w :: .ref a :: rest)) := by
  subst hp
  have hts := E.2.2.2.2.1
  have hap := va_apart (own := own) hts hin ty0 hty hnm hK hc
  obtain ⟨r, h1, cell, q1, q2, q3, q4⟩ := hP
  have hr : r = (C, Tt, N) := Option.some.inj (h1.symm.trans hc)
  subst hr
  obtain ⟨hS, hfc, kC, hkC, hkind⟩ := hK.1 ci _ hc
  obtain ⟨cf, kf, fi, f, hi, hsl⟩ := hS k hk
  have hlay := hts _ (hin _ (u_in_lay hk))
  unfold u_lay at hlay
  rw [if_neg (by rw [hfin]; decide)] at hlay
  have hst := (u_facts hfc hkC (u_lays hts hin hk) hi).1
  have h6 := u_store hfc hkC hkind hlay hi hd hn hfit
  refine W.putK E.1 E.2.1 (f := f) ⟨E.2.2.2.1, hts _ hl, ⟨_, _, _, hsame _ hi⟩, hst⟩ (by rw [q2]; exact h6) q1 q3 (by rw [hsl]; exact k2_hasslot (q4 k hk)) rfl rfl hdg fun H' e1 e2 e3 => ?_
  rw [hsl] at e1 ⊢
  exact kk H' _ ⟨_, hc, t_OB.to (V := updV (vp_V fs) k w) ⟨_, e1, q2, q3, t_set q4 hap hk w⟩ (fun j _ => vp_updV_set hlen w j)⟩ e3 e2 (hS0.put e2 e3 hA)
theorem x_putF (E : CX p s m args meth c own cc nL ret) (hK : KK D cy s) (hS0 : va_S A0 H0 H locs) {Tt : u_T} {N ci ix k a : Nat} {fs : List Value} (hA : A0 a) (hin : ∀ w ∈ u_ws own Tt N, w ∈ gT) (ty0 : Nat → FieldType) (hty : ∀ k, k < N → parseFieldDescriptor (Tt k).2.2.1 = some (ty0 k)) (hnm : ∀ a, a < N → ∀ b, b < N → a ≠ b → (Tt a).2.1 ≠ (Tt b).2.1) (hc : vwCl[ci]? = some (own, Tt, N)) (hP : va_at D vwCl (a, .inr (ci, fs)) H) (hk : k < N) (hl : Cond.fieldLink own ix own (Tt k).2.1 (Tt k).2.2.1 ∈ gT) (hdecl : (Tt k).1 = own) (hfin : (Tt k).2.2.2 = true) (hin2 : meth.name = "<init>") {ty : FieldType} {w : Value} (hd : parseFieldDescriptor (Tt k).2.2.1 = some ty) (hn : narrow ty w = w) (hfit : fits ty w = true) (hlen : k < fs.length) (pc' : Nat) (hp : pc + 3 = pc') (hdg : decode cc pc = .ok (.putfield ix, 3))
    (kk : ∀ (H1 : Heap) (locs1 : List Loc), va_at D vwCl (a, .inr (ci, fs.set k w)) H1 → (∀ b, b ≠ a → H1[b]? = H[b]?) → H1.size = H.size → va_S A0 H0 H1 locs1 → W p l e R s m args below meth c H1 locs1 cells slots Q (F0 m pc' ls rest)) : W p l e R s m args below meth c H locs cells slots Q (F0 m pc ls (w :: .ref a :: rest)) := by
  subst hp
  have hts := E.2.2.2.2.1
  have hown := E.2.2.2.1
  have hap := va_apart (own := own) hts hin ty0 hty hnm hK hc
  obtain ⟨r, h1, cell, q1, q2, q3, q4⟩ := hP
  have hr : r = (own, Tt, N) := Option.some.inj (h1.symm.trans hc)
  subst hr
  obtain ⟨hS, hfc, kC, hkC, hkind⟩ := hK.1 ci _ hc
  obtain ⟨cf, kf, fi, f, hi, hsl⟩ := hS k hk
  have hlay := hts _ (hin _ (u_in_lay hk))
  unfold u_lay at hlay
  rw [if_pos hfin] at hlay
  have hst := (u_facts hfc hkC (u_lays hts hin hk) hi).1
  have hcf : m.cls = cf := by
    obtain ⟨_, _, c', _, _, _, -, -, hf', -, -, -, hown2, -⟩ := Cond.laysFinal_spec hlay
    have e1 : c' = cf := by have := hi.symm.trans hf'; simp at this; exact this.1.symm
    rw [hdecl] at hown2
    rw [← e1]; exact Option.some.inj (hown.symm.trans hown2)
  have h6 := u_fits hfc hkC hkind (Or.inr hlay) hi hd hn hfit
  refine W.putFinK E.1 E.2.1 hown (hts _ hl) (by rw [hdecl] at hi; exact hi) hst hcf hin2 (by rw [q2]; exact h6) q1 q3 (by rw [hsl]; exact k2_hasslot (q4 k hk)) rfl rfl hdg fun H' e1 e2 e3 => ?_
  rw [hsl] at e1 ⊢
  exact kk H' _ ⟨_, hc, t_OB.to (V := updV (vp_V fs) k w) ⟨_, e1, q2, q3, t_set q4 hap hk w⟩ (fun j _ => vp_updV_set hlen w j)⟩ e3 e2 (hS0.put e2 e3 hA)
theorem g_20 (E : CX p s m args meth c own cc nL ret) (hK : KK D cy s) (hw : WK D cy T v A0 H0 H locs) {ix : Nat} (hl : Cond.fieldLink own ix RX0 (TX0 0).2.1 (TX0 0).2.2.1 ∈ gT) {a : Nat} (ht : T 0 a = 1) (z : Int) (hz : v 20 a = z) (pc' : Nat) (hp : pc + 3 = pc') (hdg : decode cc pc = .ok (.getfield ix, 3)) (kk : inR z → W p l e R s m args below meth c H locs cells slots Q (F0 m pc' ls (.int (J z) :: rest))) : W p l e R s m args below meth c H locs cells slots Q (F0 m pc ls (.ref a :: rest)) := by
  subst hz
  exact x_get E hK in_X0 (ci := 1) rfl (cw_ob1 hw.1 ht) (k := 0) (by decide) hl (fun x h => by rw [tx_X0 0 (by decide)] at h; exact h) rfl pc' hp hdg (kk (hw.1.2.2.2 20 a))
theorem g_21 (E : CX p s m args meth c own cc nL ret) (hK : KK D cy s) (hw : WK D cy T v A0 H0 H locs) {ix : Nat} (hl : Cond.fieldLink own ix RX0 (TX0 1).2.1 (TX0 1).2.2.1 ∈ gT) {a : Nat} (ht : T 0 a = 1) (z : Int) (hz : v 21 a = z) (pc' : Nat) (hp : pc + 3 = pc') (hdg : decode cc pc = .ok (.getfield ix, 3)) (kk : inR z → W p l e R s m args below meth c H locs cells slots Q (F0 m pc' ls (.int (J z) :: rest))) : W p l e R s m args below meth c H locs cells slots Q (F0 m pc ls (.ref a :: rest)) := by
  subst hz
  exact x_get E hK in_X0 (ci := 1) rfl (cw_ob1 hw.1 ht) (k := 1) (by decide) hl (fun x h => by rw [tx_X0 1 (by decide)] at h; exact h) rfl pc' hp hdg (kk (hw.1.2.2.2 21 a))
theorem g_22 (E : CX p s m args meth c own cc nL ret) (hK : KK D cy s) (hw : WK D cy T v A0 H0 H locs) {ix : Nat} (hl : Cond.fieldLink own ix RX0 (TX0 2).2.1 (TX0 2).2.2.1 ∈ gT) {a : Nat} (ht : T 0 a = 1) (z : Int) (hz : v 22 a = z) (pc' : Nat) (hp : pc + 3 = pc') (hdg : decode cc pc = .ok (.getfield ix, 3)) (kk : inR z → W p l e R s m args below meth c H locs cells slots Q (F0 m pc' ls (.int (J z) :: rest))) : W p l e R s m args below meth c H locs cells slots Q (F0 m pc ls (.ref a :: rest)) := by
  subst hz
  exact x_get E hK in_X0 (ci := 1) rfl (cw_ob1 hw.1 ht) (k := 2) (by decide) hl (fun x h => by rw [tx_X0 2 (by decide)] at h; exact h) rfl pc' hp hdg (kk (hw.1.2.2.2 22 a))
theorem p_22 (E : CX p s m args meth c own cc nL ret) (hK : KK D cy s) (hw : WK D cy T v A0 H0 H locs) {ix : Nat} (hl : Cond.fieldLink own ix RX0 (TX0 2).2.1 (TX0 2).2.2.1 ∈ gT) {a : Nat} (ht : T 0 a = 1) {z : Int} (hz : inR z) (pc' : Nat) (hp : pc + 3 = pc') (hdg : decode cc pc = .ok (.putfield ix, 3)) (kk : ∀ (H : Heap) (locs : List Loc), WK D cy T (upV v 22 (upB (v 22) a z)) A0 H0 H locs → W p l e R s m args below meth c H locs cells slots Q (F0 m pc' ls rest)) : W p l e R s m args below meth c H locs cells slots Q (F0 m pc ls (.int (J z) :: .ref a :: rest)) := by
  refine x_put E hK hw.2.2 (hw.2.1 a ⟨by rw [ht]; decide, by rw [ht]; decide⟩) in_X0 tyX0 tyX0_ok nmX0 (ci := 1) rfl (cw_ob1 hw.1 ht) (k := 2) (by decide) hl (fun x h => by rw [tx_X0 2 (by decide)] at h; exact h) (by decide +kernel) (ty := .int) (by decide +kernel) rfl rfl (Nat.le_of_ble_eq_true rfl) pc' hp hdg (fun H1 locs1 hat hoth hsz hS => ?_)
  refine kk H1 locs1 ⟨cw_put hw.1 (by decide) ht hz hoth (show WL T v from hw.1.2.2.1) (fun γ e he => ?_), hw.2.1, hS⟩
  cases he
  show va_at D vwCl (a, .inr (1, [.int (J (v 20 a)), .int (J (v 21 a)), .int (J (upB (v 22) a z a)), .int (J (v 23 a)), .int (J (v 24 a)), .int (J (v 25 a)), .ref (T 26 a)])) H1
  rw [upB_same]
  exact hat
theorem g_23 (E : CX p s m args meth c own cc nL ret) (hK : KK D cy s) (hw : WK D cy T v A0 H0 H locs) {ix : Nat} (hl : Cond.fieldLink own ix RX0 (TX0 3).2.1 (TX0 3).2.2.1 ∈ gT) {a : Nat} (ht : T 0 a = 1) (z : Int) (hz : v 23 a = z) (pc' : Nat) (hp : pc + 3 = pc') (hdg : decode cc pc = .ok (.getfield ix, 3)) (kk : inR z → W p l e R s m args below meth c H locs cells slots Q (F0 m pc' ls (.int (J z) :: rest))) : W p l e R s m args below meth c H locs cells slots Q (F0 m pc ls (.ref a :: rest)) := by
  subst hz
  exact x_get E hK in_X0 (ci := 1) rfl (cw_ob1 hw.1 ht) (k := 3) (by decide) hl (fun x h => by rw [tx_X0 3 (by decide)] at h; exact h) rfl pc' hp hdg (kk (hw.1.2.2.2 23 a))
theorem p_23 (E : CX p s m args meth c own cc nL ret) (hK : KK D cy s) (hw : WK D cy T v A0 H0 H locs) {ix : Nat} (hl : Cond.fieldLink own ix RX0 (TX0 3).2.1 (TX0 3).2.2.1 ∈ gT) {a : Nat} (ht : T 0 a = 1) {z : Int} (hz : inR z) (pc' : Nat) (hp : pc + 3 = pc') (hdg : decode cc pc = .ok (.putfield ix, 3)) (kk : ∀ (H : Heap) (locs : List Loc), WK D cy T (upV v 23 (upB (v 23) a z)) A0 H0 H locs → W p l e R s m args below meth c H locs cells slots Q (F0 m pc' ls rest)) : W p l e R s m args below meth c H locs cells slots Q (F0 m pc ls (.int (J z) :: .ref a :: rest)) := by
  refine x_put E hK hw.2.2 (hw.2.1 a ⟨by rw [ht]; decide, by rw [ht]; decide⟩) in_X0 tyX0 tyX0_ok nmX0 (ci := 1) rfl (cw_ob1 hw.1 ht) (k := 3) (by decide) hl (fun x h => by rw [tx_X0 3 (by decide)] at h; exact h) (by decide +kernel) (ty := .int) (by decide +kernel) rfl rfl (Nat.le_of_ble_eq_true rfl) pc' hp hdg (fun H1 locs1 hat hoth hsz hS => ?_)
  refine kk H1 locs1 ⟨cw_put hw.1 (by decide) ht hz hoth (show WL T v from hw.1.2.2.1) (fun γ e he => ?_), hw.2.1, hS⟩
  cases he
  show va_at D vwCl (a, .inr (1, [.int (J (v 20 a)), .int (J (v 21 a)), .int (J (v 22 a)), .int (J (upB (v 23) a z a)), .int (J (v 24 a)), .int (J (v 25 a)), .ref (T 26 a)])) H1
  rw [upB_same]
  exact hat
theorem g_24 (E : CX p s m args meth c own cc nL ret) (hK : KK D cy s) (hw : WK D cy T v A0 H0 H locs) {ix : Nat} (hl : Cond.fieldLink own ix RX0 (TX0 4).2.1 (TX0 4).2.2.1 ∈ gT) {a : Nat} (ht : T 0 a = 1) (z : Int) (hz : v 24 a = z) (pc' : Nat) (hp : pc + 3 = pc') (hdg : decode cc pc = .ok (.getfield ix, 3)) (kk : inR z → W p l e R s m args below meth c H locs cells slots Q (F0 m pc' ls (.int (J z) :: rest))) : W p l e R s m args below meth c H locs cells slots Q (F0 m pc ls (.ref a :: rest)) := by
  subst hz
  exact x_get E hK in_X0 (ci := 1) rfl (cw_ob1 hw.1 ht) (k := 4) (by decide) hl (fun x h => by rw [tx_X0 4 (by decide)] at h; exact h) rfl pc' hp hdg (kk (hw.1.2.2.2 24 a))
theorem p_24 (E : CX p s m args meth c own cc nL ret) (hK : KK D cy s) (hw : WK D cy T v A0 H0 H locs) {ix : Nat} (hl : Cond.fieldLink own ix RX0 (TX0 4).2.1 (TX0 4).2.2.1 ∈ gT) {a : Nat} (ht : T 0 a = 1) {z : Int} (hz : inR z) (pc' : Nat) (hp : pc + 3 = pc') (hdg : decode cc pc = .ok (.putfield ix, 3)) (kk : ∀ (H : Heap) (locs : List Loc), WK D cy T (upV v 24 (upB (v 24) a z)) A0 H0 H locs → W p l e R s m args below meth c H locs cells slots Q (F0 m pc' ls rest)) : W p l e R s m args below meth c H locs cells slots Q (F0 m pc ls (.int (J z) :: .ref a :: rest)) := by
  refine x_put E hK hw.2.2 (hw.2.1 a ⟨by rw [ht]; decide, by rw [ht]; decide⟩) in_X0 tyX0 tyX0_ok nmX0 (ci := 1) rfl (cw_ob1 hw.1 ht) (k := 4) (by decide) hl (fun x h => by rw [tx_X0 4 (by decide)] at h; exact h) (by decide +kernel) (ty := .int) (by decide +kernel) rfl rfl (Nat.le_of_ble_eq_true rfl) pc' hp hdg (fun H1 locs1 hat hoth hsz hS => ?_)
  refine kk H1 locs1 ⟨cw_put hw.1 (by decide) ht hz hoth (show WL T v from hw.1.2.2.1) (fun γ e he => ?_), hw.2.1, hS⟩
  cases he
  show va_at D vwCl (a, .inr (1, [.int (J (v 20 a)), .int (J (v 21 a)), .int (J (v 22 a)), .int (J (v 23 a)), .int (J (upB (v 24) a z a)), .int (J (v 25 a)), .ref (T 26 a)])) H1
  rw [upB_same]
  exact hat
theorem g_25 (E : CX p s m args meth c own cc nL ret) (hK : KK D cy s) (hw : WK D cy T v A0 H0 H locs) {ix : Nat} (hl : Cond.fieldLink own ix RX0 (TX0 5).2.1 (TX0 5).2.2.1 ∈ gT) {a : Nat} (ht : T 0 a = 1) (z : Int) (hz : v 25 a = z) (pc' : Nat) (hp : pc + 3 = pc') (hdg : decode cc pc = .ok (.getfield ix, 3)) (kk : inR z → W p l e R s m args below meth c H locs cells slots Q (F0 m pc' ls (.int (J z) :: rest))) : W p l e R s m args below meth c H locs cells slots Q (F0 m pc ls (.ref a :: rest)) := by
  subst hz
  exact x_get E hK in_X0 (ci := 1) rfl (cw_ob1 hw.1 ht) (k := 5) (by decide) hl (fun x h => by rw [tx_X0 5 (by decide)] at h; exact h) rfl pc' hp hdg (kk (hw.1.2.2.2 25 a))
theorem p_25 (E : CX p s m args meth c own cc nL ret) (hK : KK D cy s) (hw : WK D cy T v A0 H0 H locs) {ix : Nat} (hl : Cond.fieldLink own ix RX0 (TX0 5).2.1 (TX0 5).2.2.1 ∈ gT) {a : Nat} (ht : T 0 a = 1) {z : Int} (hz : inR z) (pc' : Nat) (hp : pc + 3 = pc') (hdg : decode cc pc = .ok (.putfield ix, 3)) (kk : ∀ (H : Heap) (locs : List Loc), WK D cy T (upV v 25 (upB (v 25) a z)) A0 H0 H locs → W p l e R s m args below meth c H locs cells slots Q (F0 m pc' ls rest)) : W p l e R s m args below meth c H locs cells slots Q (F0 m pc ls (.int (J z) :: .ref a :: rest)) := by
  refine x_put E hK hw.2.2 (hw.2.1 a ⟨by rw [ht]; decide, by rw [ht]; decide⟩) in_X0 tyX0 tyX0_ok nmX0 (ci := 1) rfl (cw_ob1 hw.1 ht) (k := 5) (by decide) hl (fun x h => by rw [tx_X0 5 (by decide)] at h; exact h) (by decide +kernel) (ty := .int) (by decide +kernel) rfl rfl (Nat.le_of_ble_eq_true rfl) pc' hp hdg (fun H1 locs1 hat hoth hsz hS => ?_)
  refine kk H1 locs1 ⟨cw_put hw.1 (by decide) ht hz hoth (show WL T v from hw.1.2.2.1) (fun γ e he => ?_), hw.2.1, hS⟩
  cases he
  show va_at D vwCl (a, .inr (1, [.int (J (v 20 a)), .int (J (v 21 a)), .int (J (v 22 a)), .int (J (v 23 a)), .int (J (v 24 a)), .int (J (upB (v 25) a z a)), .ref (T 26 a)])) H1
  rw [upB_same]
  exact hat
theorem g_26 (E : CX p s m args meth c own cc nL ret) (hK : KK D cy s) (hw : WK D cy T v A0 H0 H locs) {ix : Nat} (hl : Cond.fieldLink own ix RX0 (TX0 6).2.1 (TX0 6).2.2.1 ∈ gT) {a : Nat} (ht : T 0 a = 1) (pc' : Nat) (hp : pc + 3 = pc') (hdg : decode cc pc = .ok (.getfield ix, 3)) (kk : W p l e R s m args below meth c H locs cells slots Q (F0 m pc' ls (.ref (T 26 a) :: rest))) : W p l e R s m args below meth c H locs cells slots Q (F0 m pc ls (.ref a :: rest)) := x_get E hK in_X0 (ci := 1) rfl (cw_ob1 hw.1 ht) (k := 6) (by decide) hl (fun x h => by rw [tx_X0 6 (by decide)] at h; exact h) rfl pc' hp hdg kk
theorem g_40 (E : CX p s m args meth c own cc nL ret) (hK : KK D cy s) (hw : WK D cy T v A0 H0 H locs) {ix : Nat} (hl : Cond.fieldLink own ix RX1 (TX1 0).2.1 (TX1 0).2.2.1 ∈ gT) {a : Nat} (ht : T 0 a = 2) (z : Int) (hz : v 40 a = z) (pc' : Nat) (hp : pc + 3 = pc') (hdg : decode cc pc = .ok (.getfield ix, 3)) (kk : inR z → W p l e R s m args below meth c H locs cells slots Q (F0 m pc' ls (.int (J z) :: rest))) : W p l e R s m args below meth c H locs cells slots Q (F0 m pc ls (.ref a :: rest)) := by
  subst hz
  exact x_get E hK in_X1 (ci := 2) rfl (cw_ob2 hw.1 ht) (k := 0) (by decide) hl (fun x h => by rw [tx_X1 0 (by decide)] at h; exact h) rfl pc' hp hdg (kk (hw.1.2.2.2 40 a))
theorem g_41 (E : CX p s m args meth c own cc nL ret) (hK : KK D cy s) (hw : WK D cy T v A0 H0 H locs) {ix : Nat} (hl : Cond.fieldLink own ix RX1 (TX1 1).2.1 (TX1 1).2.2.1 ∈ gT) {a : Nat} (ht : T 0 a = 2) (z : Int) (hz : v 41 a = z) (pc' : Nat) (hp : pc + 3 = pc') (hdg : decode cc pc = .ok (.getfield ix, 3)) (kk : inR z → W p l e R s m args below meth c H locs cells slots Q (F0 m pc' ls (.int (J z) :: rest))) : W p l e R s m args below meth c H locs cells slots Q (F0 m pc ls (.ref a :: rest)) := by
  subst hz
  exact x_get E hK in_X1 (ci := 2) rfl (cw_ob2 hw.1 ht) (k := 1) (by decide) hl (fun x h => by rw [tx_X1 1 (by decide)] at h; exact h) rfl pc' hp hdg (kk (hw.1.2.2.2 41 a))
theorem g_42 (E : CX p s m args meth c own cc nL ret) (hK : KK D cy s) (hw : WK D cy T v A0 H0 H locs) {ix : Nat} (hl : Cond.fieldLink own ix RX1 (TX1 2).2.1 (TX1 2).2.2.1 ∈ gT) {a : Nat} (ht : T 0 a = 2) (z : Int) (hz : v 42 a = z) (pc' : Nat) (hp : pc + 3 = pc') (hdg : decode cc pc = .ok (.getfield ix, 3)) (kk : inR z → W p l e R s m args below meth c H locs cells slots Q (F0 m pc' ls (.int (J z) :: rest))) : W p l e R s m args below meth c H locs cells slots Q (F0 m pc ls (.ref a :: rest)) := by
  subst hz
  exact x_get E hK in_X1 (ci := 2) rfl (cw_ob2 hw.1 ht) (k := 2) (by decide) hl (fun x h => by rw [tx_X1 2 (by decide)] at h; exact h) rfl pc' hp hdg (kk (hw.1.2.2.2 42 a))
theorem g_43 (E : CX p s m args meth c own cc nL ret) (hK : KK D cy s) (hw : WK D cy T v A0 H0 H locs) {ix : Nat} (hl : Cond.fieldLink own ix RX1 (TX1 3).2.1 (TX1 3).2.2.1 ∈ gT) {a : Nat} (ht : T 0 a = 2) (z : Int) (hz : v 43 a = z) (pc' : Nat) (hp : pc + 3 = pc') (hdg : decode cc pc = .ok (.getfield ix, 3)) (kk : inR z → W p l e R s m args below meth c H locs cells slots Q (F0 m pc' ls (.int (J z) :: rest))) : W p l e R s m args below meth c H locs cells slots Q (F0 m pc ls (.ref a :: rest)) := by
  subst hz
  exact x_get E hK in_X1 (ci := 2) rfl (cw_ob2 hw.1 ht) (k := 3) (by decide) hl (fun x h => by rw [tx_X1 3 (by decide)] at h; exact h) rfl pc' hp hdg (kk (hw.1.2.2.2 43 a))
theorem p_43 (E : CX p s m args meth c own cc nL ret) (hK : KK D cy s) (hw : WK D cy T v A0 H0 H locs) {ix : Nat} (hl : Cond.fieldLink own ix RX1 (TX1 3).2.1 (TX1 3).2.2.1 ∈ gT) {a : Nat} (ht : T 0 a = 2) {z : Int} (hz : inR z) (pc' : Nat) (hp : pc + 3 = pc') (hdg : decode cc pc = .ok (.putfield ix, 3)) (kk : ∀ (H : Heap) (locs : List Loc), WK D cy T (upV v 43 (upB (v 43) a z)) A0 H0 H locs → W p l e R s m args below meth c H locs cells slots Q (F0 m pc' ls rest)) : W p l e R s m args below meth c H locs cells slots Q (F0 m pc ls (.int (J z) :: .ref a :: rest)) := by
  refine x_put E hK hw.2.2 (hw.2.1 a ⟨by rw [ht]; decide, by rw [ht]; decide⟩) in_X1 tyX1 tyX1_ok nmX1 (ci := 2) rfl (cw_ob2 hw.1 ht) (k := 3) (by decide) hl (fun x h => by rw [tx_X1 3 (by decide)] at h; exact h) (by decide +kernel) (ty := .int) (by decide +kernel) rfl rfl (Nat.le_of_ble_eq_true rfl) pc' hp hdg (fun H1 locs1 hat hoth hsz hS => ?_)
  refine kk H1 locs1 ⟨cw_put hw.1 (by decide) ht hz hoth (show WL T v from hw.1.2.2.1) (fun γ e he => ?_), hw.2.1, hS⟩
  cases he
  show va_at D vwCl (a, .inr (2, [.int (J (v 40 a)), .int (J (v 41 a)), .int (J (v 42 a)), .int (J (upB (v 43) a z a)), .int (J (v 44 a)), .int (J (v 45 a)), .ref (T 46 a), .ref (T 47 a), .ref (T 48 a)])) H1
  rw [upB_same]
  exact hat
theorem g_44 (E : CX p s m args meth c own cc nL ret) (hK : KK D cy s) (hw : WK D cy T v A0 H0 H locs) {ix : Nat} (hl : Cond.fieldLink own ix RX1 (TX1 4).2.1 (TX1 4).2.2.1 ∈ gT) {a : Nat} (ht : T 0 a = 2) (z : Int) (hz : v 44 a = z) (pc' : Nat) (hp : pc + 3 = pc') (hdg : decode cc pc = .ok (.getfield ix, 3)) (kk : inR z → W p l e R s m args below meth c H locs cells slots Q (F0 m pc' ls (.int (J z) :: rest))) : W p l e R s m args below meth c H locs cells slots Q (F0 m pc ls (.ref a :: rest)) := by
  subst hz
  exact x_get E hK in_X1 (ci := 2) rfl (cw_ob2 hw.1 ht) (k := 4) (by decide) hl (fun x h => by rw [tx_X1 4 (by decide)] at h; exact h) rfl pc' hp hdg (kk (hw.1.2.2.2 44 a))
theorem p_44 (E : CX p s m args meth c own cc nL ret) (hK : KK D cy s) (hw : WK D cy T v A0 H0 H locs) {ix : Nat} (hl : Cond.fieldLink own ix RX1 (TX1 4).2.1 (TX1 4).2.2.1 ∈ gT) {a : Nat} (ht : T 0 a = 2) {z : Int} (hz : inR z) (hb : z = 0 ∨ z = 1) (pc' : Nat) (hp : pc + 3 = pc') (hdg : decode cc pc = .ok (.putfield ix, 3)) (kk : ∀ (H : Heap) (locs : List Loc), WK D cy T (upV v 44 (upB (v 44) a z)) A0 H0 H locs → W p l e R s m args below meth c H locs cells slots Q (F0 m pc' ls rest)) : W p l e R s m args below meth c H locs cells slots Q (F0 m pc ls (.int (J z) :: .ref a :: rest)) := by
  refine x_put E hK hw.2.2 (hw.2.1 a ⟨by rw [ht]; decide, by rw [ht]; decide⟩) in_X1 tyX1 tyX1_ok nmX1 (ci := 2) rfl (cw_ob2 hw.1 ht) (k := 4) (by decide) hl (fun x h => by rw [tx_X1 4 (by decide)] at h; exact h) (by decide +kernel) (ty := .boolean) (by decide +kernel) (J_bool hb) (J_fbool hb) (Nat.le_of_ble_eq_true rfl) pc' hp hdg (fun H1 locs1 hat hoth hsz hS => ?_)
  refine kk H1 locs1 ⟨cw_put hw.1 (by decide) ht hz hoth (show WL T v from hw.1.2.2.1) (fun γ e he => ?_), hw.2.1, hS⟩
  cases he
  show va_at D vwCl (a, .inr (2, [.int (J (v 40 a)), .int (J (v 41 a)), .int (J (v 42 a)), .int (J (v 43 a)), .int (J (upB (v 44) a z a)), .int (J (v 45 a)), .ref (T 46 a), .ref (T 47 a), .ref (T 48 a)])) H1
  rw [upB_same]
  exact hat
theorem g_45 (E : CX p s m args meth c own cc nL ret) (hK : KK D cy s) (hw : WK D cy T v A0 H0 H locs) {ix : Nat} (hl : Cond.fieldLink own ix RX1 (TX1 5).2.1 (TX1 5).2.2.1 ∈ gT) {a : Nat} (ht : T 0 a = 2) (z : Int) (hz : v 45 a = z) (pc' : Nat) (hp : pc + 3 = pc') (hdg : decode cc pc = .ok (.getfield ix, 3)) (kk : inR z → W p l e R s m args below meth c H locs cells slots Q (F0 m pc' ls (.int (J z) :: rest))) : W p l e R s m args below meth c H locs cells slots Q (F0 m pc ls (.ref a :: rest)) := by
  subst hz
  exact x_get E hK in_X1 (ci := 2) rfl (cw_ob2 hw.1 ht) (k := 5) (by decide) hl (fun x h => by rw [tx_X1 5 (by decide)] at h; exact h) rfl pc' hp hdg (kk (hw.1.2.2.2 45 a))
theorem p_45 (E : CX p s m args meth c own cc nL ret) (hK : KK D cy s) (hw : WK D cy T v A0 H0 H locs) {ix : Nat} (hl : Cond.fieldLink own ix RX1 (TX1 5).2.1 (TX1 5).2.2.1 ∈ gT) {a : Nat} (ht : T 0 a = 2) {z : Int} (hz : inR z) (pc' : Nat) (hp : pc + 3 = pc') (hdg : decode cc pc = .ok (.putfield ix, 3)) (kk : ∀ (H : Heap) (locs : List Loc), WK D cy T (upV v 45 (upB (v 45) a z)) A0 H0 H locs → W p l e R s m args below meth c H locs cells slots Q (F0 m pc' ls rest)) : W p l e R s m args below meth c H locs cells slots Q (F0 m pc ls (.int (J z) :: .ref a :: rest)) := by
  refine x_put E hK hw.2.2 (hw.2.1 a ⟨by rw [ht]; decide, by rw [ht]; decide⟩) in_X1 tyX1 tyX1_ok nmX1 (ci := 2) rfl (cw_ob2 hw.1 ht) (k := 5) (by decide) hl (fun x h => by rw [tx_X1 5 (by decide)] at h; exact h) (by decide +kernel) (ty := .int) (by decide +kernel) rfl rfl (Nat.le_of_ble_eq_true rfl) pc' hp hdg (fun H1 locs1 hat hoth hsz hS => ?_)
  refine kk H1 locs1 ⟨cw_put hw.1 (by decide) ht hz hoth (show WL T v from hw.1.2.2.1) (fun γ e he => ?_), hw.2.1, hS⟩
  cases he
  show va_at D vwCl (a, .inr (2, [.int (J (v 40 a)), .int (J (v 41 a)), .int (J (v 42 a)), .int (J (v 43 a)), .int (J (v 44 a)), .int (J (upB (v 45) a z a)), .ref (T 46 a), .ref (T 47 a), .ref (T 48 a)])) H1
  rw [upB_same]
  exact hat
theorem g_46 (E : CX p s m args meth c own cc nL ret) (hK : KK D cy s) (hw : WK D cy T v A0 H0 H locs) {ix : Nat} (hl : Cond.fieldLink own ix RX1 (TX1 6).2.1 (TX1 6).2.2.1 ∈ gT) {a : Nat} (ht : T 0 a = 2) (pc' : Nat) (hp : pc + 3 = pc') (hdg : decode cc pc = .ok (.getfield ix, 3)) (kk : W p l e R s m args below meth c H locs cells slots Q (F0 m pc' ls (.ref (T 46 a) :: rest))) : W p l e R s m args below meth c H locs cells slots Q (F0 m pc ls (.ref a :: rest)) := x_get E hK in_X1 (ci := 2) rfl (cw_ob2 hw.1 ht) (k := 6) (by decide) hl (fun x h => by rw [tx_X1 6 (by decide)] at h; exact h) rfl pc' hp hdg kk
theorem g_47 (E : CX p s m args meth c own cc nL ret) (hK : KK D cy s) (hw : WK D cy T v A0 H0 H locs) {ix : Nat} (hl : Cond.fieldLink own ix RX1 (TX1 7).2.1 (TX1 7).2.2.1 ∈ gT) {a : Nat} (ht : T 0 a = 2) (pc' : Nat) (hp : pc + 3 = pc') (hdg : decode cc pc = .ok (.getfield ix, 3)) (kk : W p l e R s m args below meth c H locs cells slots Q (F0 m pc' ls (.ref (T 47 a) :: rest))) : W p l e R s m args below meth c H locs cells slots Q (F0 m pc ls (.ref a :: rest)) := x_get E hK in_X1 (ci := 2) rfl (cw_ob2 hw.1 ht) (k := 7) (by decide) hl (fun x h => by rw [tx_X1 7 (by decide)] at h; exact h) rfl pc' hp hdg kk
theorem g_48 (E : CX p s m args meth c own cc nL ret) (hK : KK D cy s) (hw : WK D cy T v A0 H0 H locs) {ix : Nat} (hl : Cond.fieldLink own ix RX1 (TX1 8).2.1 (TX1 8).2.2.1 ∈ gT) {a : Nat} (ht : T 0 a = 2) (pc' : Nat) (hp : pc + 3 = pc') (hdg : decode cc pc = .ok (.getfield ix, 3)) (kk : W p l e R s m args below meth c H locs cells slots Q (F0 m pc' ls (.ref (T 48 a) :: rest))) : W p l e R s m args below meth c H locs cells slots Q (F0 m pc ls (.ref a :: rest)) := x_get E hK in_X1 (ci := 2) rfl (cw_ob2 hw.1 ht) (k := 8) (by decide) hl (fun x h => by rw [tx_X1 8 (by decide)] at h; exact h) rfl pc' hp hdg kk
theorem g_60 (E : CX p s m args meth c own cc nL ret) (hK : KK D cy s) (hw : WK D cy T v A0 H0 H locs) {ix : Nat} (hl : Cond.fieldLink own ix RX2 (TX2 0).2.1 (TX2 0).2.2.1 ∈ gT) {a : Nat} (ht : T 0 a = 3) (pc' : Nat) (hp : pc + 3 = pc') (hdg : decode cc pc = .ok (.getfield ix, 3)) (kk : W p l e R s m args below meth c H locs cells slots Q (F0 m pc' ls (.ref (T 60 a) :: rest))) : W p l e R s m args below meth c H locs cells slots Q (F0 m pc ls (.ref a :: rest)) := x_get E hK in_X2 (ci := 3) rfl (cw_ob3 hw.1 ht) (k := 0) (by decide) hl (fun x h => by rw [tx_X2 0 (by decide)] at h; exact h) rfl pc' hp hdg kk
theorem g_61 (E : CX p s m args meth c own cc nL ret) (hK : KK D cy s) (hw : WK D cy T v A0 H0 H locs) {ix : Nat} (hl : Cond.fieldLink own ix RX2 (TX2 1).2.1 (TX2 1).2.2.1 ∈ gT) {a : Nat} (ht : T 0 a = 3) (pc' : Nat) (hp : pc + 3 = pc') (hdg : decode cc pc = .ok (.getfield ix, 3)) (kk : W p l e R s m args below meth c H locs cells slots Q (F0 m pc' ls (.ref (T 61 a) :: rest))) : W p l e R s m args below meth c H locs cells slots Q (F0 m pc ls (.ref a :: rest)) := x_get E hK in_X2 (ci := 3) rfl (cw_ob3 hw.1 ht) (k := 1) (by decide) hl (fun x h => by rw [tx_X2 1 (by decide)] at h; exact h) rfl pc' hp hdg kk
theorem g_62 (E : CX p s m args meth c own cc nL ret) (hK : KK D cy s) (hw : WK D cy T v A0 H0 H locs) {ix : Nat} (hl : Cond.fieldLink own ix RX2 (TX2 2).2.1 (TX2 2).2.2.1 ∈ gT) {a : Nat} (ht : T 0 a = 3) (pc' : Nat) (hp : pc + 3 = pc') (hdg : decode cc pc = .ok (.getfield ix, 3)) (kk : W p l e R s m args below meth c H locs cells slots Q (F0 m pc' ls (.ref (T 62 a) :: rest))) : W p l e R s m args below meth c H locs cells slots Q (F0 m pc ls (.ref a :: rest)) := x_get E hK in_X2 (ci := 3) rfl (cw_ob3 hw.1 ht) (k := 2) (by decide) hl (fun x h => by rw [tx_X2 2 (by decide)] at h; exact h) rfl pc' hp hdg kk
theorem g_63 (E : CX p s m args meth c own cc nL ret) (hK : KK D cy s) (hw : WK D cy T v A0 H0 H locs) {ix : Nat} (hl : Cond.fieldLink own ix RX2 (TX2 3).2.1 (TX2 3).2.2.1 ∈ gT) {a : Nat} (ht : T 0 a = 3) (pc' : Nat) (hp : pc + 3 = pc') (hdg : decode cc pc = .ok (.getfield ix, 3)) (kk : W p l e R s m args below meth c H locs cells slots Q (F0 m pc' ls (.ref (T 63 a) :: rest))) : W p l e R s m args below meth c H locs cells slots Q (F0 m pc ls (.ref a :: rest)) := x_get E hK in_X2 (ci := 3) rfl (cw_ob3 hw.1 ht) (k := 3) (by decide) hl (fun x h => by rw [tx_X2 3 (by decide)] at h; exact h) rfl pc' hp hdg kk
theorem g_64 (E : CX p s m args meth c own cc nL ret) (hK : KK D cy s) (hw : WK D cy T v A0 H0 H locs) {ix : Nat} (hl : Cond.fieldLink own ix RX2 (TX2 4).2.1 (TX2 4).2.2.1 ∈ gT) {a : Nat} (ht : T 0 a = 3) (z : Int) (hz : v 64 a = z) (pc' : Nat) (hp : pc + 3 = pc') (hdg : decode cc pc = .ok (.getfield ix, 3)) (kk : inR z → W p l e R s m args below meth c H locs cells slots Q (F0 m pc' ls (.int (J z) :: rest))) : W p l e R s m args below meth c H locs cells slots Q (F0 m pc ls (.ref a :: rest)) := by
  subst hz
  exact x_get E hK in_X2 (ci := 3) rfl (cw_ob3 hw.1 ht) (k := 4) (by decide) hl (fun x h => by rw [tx_X2 4 (by decide)] at h; exact h) rfl pc' hp hdg (kk (hw.1.2.2.2 64 a))
theorem p_64 (E : CX p s m args meth c own cc nL ret) (hK : KK D cy s) (hw : WK D cy T v A0 H0 H locs) {ix : Nat} (hl : Cond.fieldLink own ix RX2 (TX2 4).2.1 (TX2 4).2.2.1 ∈ gT) {a : Nat} (ht : T 0 a = 3) {z : Int} (hz : inR z) (pc' : Nat) (hp : pc + 3 = pc') (hdg : decode cc pc = .ok (.putfield ix, 3)) (kk : ∀ (H : Heap) (locs : List Loc), WK D cy T (upV v 64 (upB (v 64) a z)) A0 H0 H locs → W p l e R s m args below meth c H locs cells slots Q (F0 m pc' ls rest)) : W p l e R s m args below meth c H locs cells slots Q (F0 m pc ls (.int (J z) :: .ref a :: rest)) := by
  refine x_put E hK hw.2.2 (hw.2.1 a ⟨by rw [ht]; decide, by rw [ht]; decide⟩) in_X2 tyX2 tyX2_ok nmX2 (ci := 3) rfl (cw_ob3 hw.1 ht) (k := 4) (by decide) hl (fun x h => by rw [tx_X2 4 (by decide)] at h; exact h) (by decide +kernel) (ty := .int) (by decide +kernel) rfl rfl (Nat.le_of_ble_eq_true rfl) pc' hp hdg (fun H1 locs1 hat hoth hsz hS => ?_)
  refine kk H1 locs1 ⟨cw_put hw.1 (by decide) ht hz hoth (show WL T v from hw.1.2.2.1) (fun γ e he => ?_), hw.2.1, hS⟩
  cases he
  show va_at D vwCl (a, .inr (3, [.ref (T 60 a), .ref (T 61 a), .ref (T 62 a), .ref (T 63 a), .int (J (upB (v 64) a z a)), .int (J (v 65 a)), .int (J (v 66 a))])) H1
  rw [upB_same]
  exact hat
theorem g_65 (E : CX p s m args meth c own cc nL ret) (hK : KK D cy s) (hw : WK D cy T v A0 H0 H locs) {ix : Nat} (hl : Cond.fieldLink own ix RX2 (TX2 5).2.1 (TX2 5).2.2.1 ∈ gT) {a : Nat} (ht : T 0 a = 3) (z : Int) (hz : v 65 a = z) (pc' : Nat) (hp : pc + 3 = pc') (hdg : decode cc pc = .ok (.getfield ix, 3)) (kk : inR z → W p l e R s m args below meth c H locs cells slots Q (F0 m pc' ls (.int (J z) :: rest))) : W p l e R s m args below meth c H locs cells slots Q (F0 m pc ls (.ref a :: rest)) := by
  subst hz
  exact x_get E hK in_X2 (ci := 3) rfl (cw_ob3 hw.1 ht) (k := 5) (by decide) hl (fun x h => by rw [tx_X2 5 (by decide)] at h; exact h) rfl pc' hp hdg (kk (hw.1.2.2.2 65 a))
theorem p_65 (E : CX p s m args meth c own cc nL ret) (hK : KK D cy s) (hw : WK D cy T v A0 H0 H locs) {ix : Nat} (hl : Cond.fieldLink own ix RX2 (TX2 5).2.1 (TX2 5).2.2.1 ∈ gT) {a : Nat} (ht : T 0 a = 3) {z : Int} (hz : inR z) (pc' : Nat) (hp : pc + 3 = pc') (hdg : decode cc pc = .ok (.putfield ix, 3)) (kk : ∀ (H : Heap) (locs : List Loc), WK D cy T (upV v 65 (upB (v 65) a z)) A0 H0 H locs → W p l e R s m args below meth c H locs cells slots Q (F0 m pc' ls rest)) : W p l e R s m args below meth c H locs cells slots Q (F0 m pc ls (.int (J z) :: .ref a :: rest)) := by
  refine x_put E hK hw.2.2 (hw.2.1 a ⟨by rw [ht]; decide, by rw [ht]; decide⟩) in_X2 tyX2 tyX2_ok nmX2 (ci := 3) rfl (cw_ob3 hw.1 ht) (k := 5) (by decide) hl (fun x h => by rw [tx_X2 5 (by decide)] at h; exact h) (by decide +kernel) (ty := .int) (by decide +kernel) rfl rfl (Nat.le_of_ble_eq_true rfl) pc' hp hdg (fun H1 locs1 hat hoth hsz hS => ?_)
  refine kk H1 locs1 ⟨cw_put hw.1 (by decide) ht hz hoth (show WL T v from hw.1.2.2.1) (fun γ e he => ?_), hw.2.1, hS⟩
  cases he
  show va_at D vwCl (a, .inr (3, [.ref (T 60 a), .ref (T 61 a), .ref (T 62 a), .ref (T 63 a), .int (J (v 64 a)), .int (J (upB (v 65) a z a)), .int (J (v 66 a))])) H1
  rw [upB_same]
  exact hat
theorem g_66 (E : CX p s m args meth c own cc nL ret) (hK : KK D cy s) (hw : WK D cy T v A0 H0 H locs) {ix : Nat} (hl : Cond.fieldLink own ix RX2 (TX2 6).2.1 (TX2 6).2.2.1 ∈ gT) {a : Nat} (ht : T 0 a = 3) (z : Int) (hz : v 66 a = z) (pc' : Nat) (hp : pc + 3 = pc') (hdg : decode cc pc = .ok (.getfield ix, 3)) (kk : inR z → W p l e R s m args below meth c H locs cells slots Q (F0 m pc' ls (.int (J z) :: rest))) : W p l e R s m args below meth c H locs cells slots Q (F0 m pc ls (.ref a :: rest)) := by
  subst hz
  exact x_get E hK in_X2 (ci := 3) rfl (cw_ob3 hw.1 ht) (k := 6) (by decide) hl (fun x h => by rw [tx_X2 6 (by decide)] at h; exact h) rfl pc' hp hdg (kk (hw.1.2.2.2 66 a))
theorem p_66 (E : CX p s m args meth c own cc nL ret) (hK : KK D cy s) (hw : WK D cy T v A0 H0 H locs) {ix : Nat} (hl : Cond.fieldLink own ix RX2 (TX2 6).2.1 (TX2 6).2.2.1 ∈ gT) {a : Nat} (ht : T 0 a = 3) {z : Int} (hz : inR z) (pc' : Nat) (hp : pc + 3 = pc') (hdg : decode cc pc = .ok (.putfield ix, 3)) (kk : ∀ (H : Heap) (locs : List Loc), WK D cy T (upV v 66 (upB (v 66) a z)) A0 H0 H locs → W p l e R s m args below meth c H locs cells slots Q (F0 m pc' ls rest)) : W p l e R s m args below meth c H locs cells slots Q (F0 m pc ls (.int (J z) :: .ref a :: rest)) := by
  refine x_put E hK hw.2.2 (hw.2.1 a ⟨by rw [ht]; decide, by rw [ht]; decide⟩) in_X2 tyX2 tyX2_ok nmX2 (ci := 3) rfl (cw_ob3 hw.1 ht) (k := 6) (by decide) hl (fun x h => by rw [tx_X2 6 (by decide)] at h; exact h) (by decide +kernel) (ty := .int) (by decide +kernel) rfl rfl (Nat.le_of_ble_eq_true rfl) pc' hp hdg (fun H1 locs1 hat hoth hsz hS => ?_)
  refine kk H1 locs1 ⟨cw_put hw.1 (by decide) ht hz hoth (show WL T v from hw.1.2.2.1) (fun γ e he => ?_), hw.2.1, hS⟩
  cases he
  show va_at D vwCl (a, .inr (3, [.ref (T 60 a), .ref (T 61 a), .ref (T 62 a), .ref (T 63 a), .int (J (v 64 a)), .int (J (v 65 a)), .int (J (upB (v 66) a z a))])) H1
  rw [upB_same]
  exact hat
theorem g_80 (E : CX p s m args meth c own cc nL ret) (hK : KK D cy s) (hw : WK D cy T v A0 H0 H locs) {ix : Nat} (hl : Cond.fieldLink own ix RX3 (TX3 0).2.1 (TX3 0).2.2.1 ∈ gT) {a : Nat} (ht : T 0 a = 4) (z : Int) (hz : v 80 a = z) (pc' : Nat) (hp : pc + 3 = pc') (hdg : decode cc pc = .ok (.getfield ix, 3)) (kk : inR z → W p l e R s m args below meth c H locs cells slots Q (F0 m pc' ls (.int (J z) :: rest))) : W p l e R s m args below meth c H locs cells slots Q (F0 m pc ls (.ref a :: rest)) := by
  subst hz
  exact x_get E hK in_X3 (ci := 4) rfl (cw_ob4 hw.1 ht) (k := 0) (by decide) hl (fun x h => by rw [tx_X3 0 (by decide)] at h; exact h) rfl pc' hp hdg (kk (hw.1.2.2.2 80 a))
theorem p_80 (E : CX p s m args meth c own cc nL ret) (hK : KK D cy s) (hw : WK D cy T v A0 H0 H locs) {ix : Nat} (hl : Cond.fieldLink own ix RX3 (TX3 0).2.1 (TX3 0).2.2.1 ∈ gT) {a : Nat} (ht : T 0 a = 4) {z : Int} (hz : inR z) (pc' : Nat) (hp : pc + 3 = pc') (hdg : decode cc pc = .ok (.putfield ix, 3)) (kk : ∀ (H : Heap) (locs : List Loc), WK D cy T (upV v 80 (upB (v 80) a z)) A0 H0 H locs → W p l e R s m args below meth c H locs cells slots Q (F0 m pc' ls rest)) : W p l e R s m args below meth c H locs cells slots Q (F0 m pc ls (.int (J z) :: .ref a :: rest)) := by
  refine x_put E hK hw.2.2 (hw.2.1 a ⟨by rw [ht]; decide, by rw [ht]; decide⟩) in_X3 tyX3 tyX3_ok nmX3 (ci := 4) rfl (cw_ob4 hw.1 ht) (k := 0) (by decide) hl (fun x h => by rw [tx_X3 0 (by decide)] at h; exact h) (by decide +kernel) (ty := .int) (by decide +kernel) rfl rfl (Nat.le_of_ble_eq_true rfl) pc' hp hdg (fun H1 locs1 hat hoth hsz hS => ?_)
  refine kk H1 locs1 ⟨cw_put hw.1 (by decide) ht hz hoth (show WL T v from hw.1.2.2.1) (fun γ e he => ?_), hw.2.1, hS⟩
  cases he
  show va_at D vwCl (a, .inr (4, [.int (J (upB (v 80) a z a)), .int (J (v 81 a)), .ref (T 82 a), .int (J (v 83 a)), .int (J (v 84 a)), .ref (T 85 a), .int (J (v 86 a))])) H1
  rw [upB_same]
  exact hat
theorem g_81 (E : CX p s m args meth c own cc nL ret) (hK : KK D cy s) (hw : WK D cy T v A0 H0 H locs) {ix : Nat} (hl : Cond.fieldLink own ix RX3 (TX3 1).2.1 (TX3 1).2.2.1 ∈ gT) {a : Nat} (ht : T 0 a = 4) (z : Int) (hz : v 81 a = z) (pc' : Nat) (hp : pc + 3 = pc') (hdg : decode cc pc = .ok (.getfield ix, 3)) (kk : inR z → W p l e R s m args below meth c H locs cells slots Q (F0 m pc' ls (.int (J z) :: rest))) : W p l e R s m args below meth c H locs cells slots Q (F0 m pc ls (.ref a :: rest)) := by
  subst hz
  exact x_get E hK in_X3 (ci := 4) rfl (cw_ob4 hw.1 ht) (k := 1) (by decide) hl (fun x h => by rw [tx_X3 1 (by decide)] at h; exact h) rfl pc' hp hdg (kk (hw.1.2.2.2 81 a))
theorem p_81 (E : CX p s m args meth c own cc nL ret) (hK : KK D cy s) (hw : WK D cy T v A0 H0 H locs) {ix : Nat} (hl : Cond.fieldLink own ix RX3 (TX3 1).2.1 (TX3 1).2.2.1 ∈ gT) {a : Nat} (ht : T 0 a = 4) {z : Int} (hz : inR z) (pc' : Nat) (hp : pc + 3 = pc') (hdg : decode cc pc = .ok (.putfield ix, 3)) (kk : ∀ (H : Heap) (locs : List Loc), WK D cy T (upV v 81 (upB (v 81) a z)) A0 H0 H locs → W p l e R s m args below meth c H locs cells slots Q (F0 m pc' ls rest)) : W p l e R s m args below meth c H locs cells slots Q (F0 m pc ls (.int (J z) :: .ref a :: rest)) := by
  refine x_put E hK hw.2.2 (hw.2.1 a ⟨by rw [ht]; decide, by rw [ht]; decide⟩) in_X3 tyX3 tyX3_ok nmX3 (ci := 4) rfl (cw_ob4 hw.1 ht) (k := 1) (by decide) hl (fun x h => by rw [tx_X3 1 (by decide)] at h; exact h) (by decide +kernel) (ty := .int) (by decide +kernel) rfl rfl (Nat.le_of_ble_eq_true rfl) pc' hp hdg (fun H1 locs1 hat hoth hsz hS => ?_)
  refine kk H1 locs1 ⟨cw_put hw.1 (by decide) ht hz hoth (show WL T v from hw.1.2.2.1) (fun γ e he => ?_), hw.2.1, hS⟩
  cases he
  show va_at D vwCl (a, .inr (4, [.int (J (v 80 a)), .int (J (upB (v 81) a z a)), .ref (T 82 a), .int (J (v 83 a)), .int (J (v 84 a)), .ref (T 85 a), .int (J (v 86 a))])) H1
  rw [upB_same]
  exact hat
theorem g_82 (E : CX p s m args meth c own cc nL ret) (hK : KK D cy s) (hw : WK D cy T v A0 H0 H locs) {ix : Nat} (hl : Cond.fieldLink own ix RX3 (TX3 2).2.1 (TX3 2).2.2.1 ∈ gT) {a : Nat} (ht : T 0 a = 4) (pc' : Nat) (hp : pc + 3 = pc') (hdg : decode cc pc = .ok (.getfield ix, 3)) (kk : W p l e R s m args below meth c H locs cells slots Q (F0 m pc' ls (.ref (T 82 a) :: rest))) : W p l e R s m args below meth c H locs cells slots Q (F0 m pc ls (.ref a :: rest)) := x_get E hK in_X3 (ci := 4) rfl (cw_ob4 hw.1 ht) (k := 2) (by decide) hl (fun x h => by rw [tx_X3 2 (by decide)] at h; exact h) rfl pc' hp hdg kk
theorem g_83 (E : CX p s m args meth c own cc nL ret) (hK : KK D cy s) (hw : WK D cy T v A0 H0 H locs) {ix : Nat} (hl : Cond.fieldLink own ix RX3 (TX3 3).2.1 (TX3 3).2.2.1 ∈ gT) {a : Nat} (ht : T 0 a = 4) (z : Int) (hz : v 83 a = z) (pc' : Nat) (hp : pc + 3 = pc') (hdg : decode cc pc = .ok (.getfield ix, 3)) (kk : inR z → W p l e R s m args below meth c H locs cells slots Q (F0 m pc' ls (.int (J z) :: rest))) : W p l e R s m args below meth c H locs cells slots Q (F0 m pc ls (.ref a :: rest)) := by
  subst hz
  exact x_get E hK in_X3 (ci := 4) rfl (cw_ob4 hw.1 ht) (k := 3) (by decide) hl (fun x h => by rw [tx_X3 3 (by decide)] at h; exact h) rfl pc' hp hdg (kk (hw.1.2.2.2 83 a))
theorem p_83 (E : CX p s m args meth c own cc nL ret) (hK : KK D cy s) (hw : WK D cy T v A0 H0 H locs) {ix : Nat} (hl : Cond.fieldLink own ix RX3 (TX3 3).2.1 (TX3 3).2.2.1 ∈ gT) {a : Nat} (ht : T 0 a = 4) {z : Int} (hz : inR z) (pc' : Nat) (hp : pc + 3 = pc') (hdg : decode cc pc = .ok (.putfield ix, 3)) (kk : ∀ (H : Heap) (locs : List Loc), WK D cy T (upV v 83 (upB (v 83) a z)) A0 H0 H locs → W p l e R s m args below meth c H locs cells slots Q (F0 m pc' ls rest)) : W p l e R s m args below meth c H locs cells slots Q (F0 m pc ls (.int (J z) :: .ref a :: rest)) := by
  refine x_put E hK hw.2.2 (hw.2.1 a ⟨by rw [ht]; decide, by rw [ht]; decide⟩) in_X3 tyX3 tyX3_ok nmX3 (ci := 4) rfl (cw_ob4 hw.1 ht) (k := 3) (by decide) hl (fun x h => by rw [tx_X3 3 (by decide)] at h; exact h) (by decide +kernel) (ty := .int) (by decide +kernel) rfl rfl (Nat.le_of_ble_eq_true rfl) pc' hp hdg (fun H1 locs1 hat hoth hsz hS => ?_)
  refine kk H1 locs1 ⟨cw_put hw.1 (by decide) ht hz hoth (show WL T v from hw.1.2.2.1) (fun γ e he => ?_), hw.2.1, hS⟩
  cases he
  show va_at D vwCl (a, .inr (4, [.int (J (v 80 a)), .int (J (v 81 a)), .ref (T 82 a), .int (J (upB (v 83) a z a)), .int (J (v 84 a)), .ref (T 85 a), .int (J (v 86 a))])) H1
  rw [upB_same]
  exact hat
theorem g_84 (E : CX p s m args meth c own cc nL ret) (hK : KK D cy s) (hw : WK D cy T v A0 H0 H locs) {ix : Nat} (hl : Cond.fieldLink own ix RX3 (TX3 4).2.1 (TX3 4).2.2.1 ∈ gT) {a : Nat} (ht : T 0 a = 4) (z : Int) (hz : v 84 a = z) (pc' : Nat) (hp : pc + 3 = pc') (hdg : decode cc pc = .ok (.getfield ix, 3)) (kk : inR z → W p l e R s m args below meth c H locs cells slots Q (F0 m pc' ls (.int (J z) :: rest))) : W p l e R s m args below meth c H locs cells slots Q (F0 m pc ls (.ref a :: rest)) := by
  subst hz
  exact x_get E hK in_X3 (ci := 4) rfl (cw_ob4 hw.1 ht) (k := 4) (by decide) hl (fun x h => by rw [tx_X3 4 (by decide)] at h; exact h) rfl pc' hp hdg (kk (hw.1.2.2.2 84 a))
theorem p_84 (E : CX p s m args meth c own cc nL ret) (hK : KK D cy s) (hw : WK D cy T v A0 H0 H locs) {ix : Nat} (hl : Cond.fieldLink own ix RX3 (TX3 4).2.1 (TX3 4).2.2.1 ∈ gT) {a : Nat} (ht : T 0 a = 4) {z : Int} (hz : inR z) (pc' : Nat) (hp : pc + 3 = pc') (hdg : decode cc pc = .ok (.putfield ix, 3)) (kk : ∀ (H : Heap) (locs : List Loc), WK D cy T (upV v 84 (upB (v 84) a z)) A0 H0 H locs → W p l e R s m args below meth c H locs cells slots Q (F0 m pc' ls rest)) : W p l e R s m args below meth c H locs cells slots Q (F0 m pc ls (.int (J z) :: .ref a :: rest)) := by
  refine x_put E hK hw.2.2 (hw.2.1 a ⟨by rw [ht]; decide, by rw [ht]; decide⟩) in_X3 tyX3 tyX3_ok nmX3 (ci := 4) rfl (cw_ob4 hw.1 ht) (k := 4) (by decide) hl (fun x h => by rw [tx_X3 4 (by decide)] at h; exact h) (by decide +kernel) (ty := .int) (by decide +kernel) rfl rfl (Nat.le_of_ble_eq_true rfl) pc' hp hdg (fun H1 locs1 hat hoth hsz hS => ?_)
  refine kk H1 locs1 ⟨cw_put hw.1 (by decide) ht hz hoth (show WL T v from hw.1.2.2.1) (fun γ e he => ?_), hw.2.1, hS⟩
  cases he
  show va_at D vwCl (a, .inr (4, [.int (J (v 80 a)), .int (J (v 81 a)), .ref (T 82 a), .int (J (v 83 a)), .int (J (upB (v 84) a z a)), .ref (T 85 a), .int (J (v 86 a))])) H1
  rw [upB_same]
  exact hat
theorem g_85 (E : CX p s m args meth c own cc nL ret) (hK : KK D cy s) (hw : WK D cy T v A0 H0 H locs) {ix : Nat} (hl : Cond.fieldLink own ix RX3 (TX3 5).2.1 (TX3 5).2.2.1 ∈ gT) {a : Nat} (ht : T 0 a = 4) (pc' : Nat) (hp : pc + 3 = pc') (hdg : decode cc pc = .ok (.getfield ix, 3)) (kk : W p l e R s m args below meth c H locs cells slots Q (F0 m pc' ls (.ref (T 85 a) :: rest))) : W p l e R s m args below meth c H locs cells slots Q (F0 m pc ls (.ref a :: rest)) := x_get E hK in_X3 (ci := 4) rfl (cw_ob4 hw.1 ht) (k := 5) (by decide) hl (fun x h => by rw [tx_X3 5 (by decide)] at h; exact h) rfl pc' hp hdg kk
theorem g_86 (E : CX p s m args meth c own cc nL ret) (hK : KK D cy s) (hw : WK D cy T v A0 H0 H locs) {ix : Nat} (hl : Cond.fieldLink own ix RX3 (TX3 6).2.1 (TX3 6).2.2.1 ∈ gT) {a : Nat} (ht : T 0 a = 4) (z : Int) (hz : v 86 a = z) (pc' : Nat) (hp : pc + 3 = pc') (hdg : decode cc pc = .ok (.getfield ix, 3)) (kk : inR z → W p l e R s m args below meth c H locs cells slots Q (F0 m pc' ls (.int (J z) :: rest))) : W p l e R s m args below meth c H locs cells slots Q (F0 m pc ls (.ref a :: rest)) := by
  subst hz
  exact x_get E hK in_X3 (ci := 4) rfl (cw_ob4 hw.1 ht) (k := 6) (by decide) hl (fun x h => by rw [tx_X3 6 (by decide)] at h; exact h) rfl pc' hp hdg (kk (hw.1.2.2.2 86 a))
theorem p_86 (E : CX p s m args meth c own cc nL ret) (hK : KK D cy s) (hw : WK D cy T v A0 H0 H locs) {ix : Nat} (hl : Cond.fieldLink own ix RX3 (TX3 6).2.1 (TX3 6).2.2.1 ∈ gT) {a : Nat} (ht : T 0 a = 4) {z : Int} (hz : inR z) (pc' : Nat) (hp : pc + 3 = pc') (hdg : decode cc pc = .ok (.putfield ix, 3)) (kk : ∀ (H : Heap) (locs : List Loc), WK D cy T (upV v 86 (upB (v 86) a z)) A0 H0 H locs → W p l e R s m args below meth c H locs cells slots Q (F0 m pc' ls rest)) : W p l e R s m args below meth c H locs cells slots Q (F0 m pc ls (.int (J z) :: .ref a :: rest)) := by
  refine x_put E hK hw.2.2 (hw.2.1 a ⟨by rw [ht]; decide, by rw [ht]; decide⟩) in_X3 tyX3 tyX3_ok nmX3 (ci := 4) rfl (cw_ob4 hw.1 ht) (k := 6) (by decide) hl (fun x h => by rw [tx_X3 6 (by decide)] at h; exact h) (by decide +kernel) (ty := .int) (by decide +kernel) rfl rfl (Nat.le_of_ble_eq_true rfl) pc' hp hdg (fun H1 locs1 hat hoth hsz hS => ?_)
  refine kk H1 locs1 ⟨cw_put hw.1 (by decide) ht hz hoth (show WL T v from hw.1.2.2.1) (fun γ e he => ?_), hw.2.1, hS⟩
  cases he
  show va_at D vwCl (a, .inr (4, [.int (J (v 80 a)), .int (J (v 81 a)), .ref (T 82 a), .int (J (v 83 a)), .int (J (v 84 a)), .ref (T 85 a), .int (J (upB (v 86) a z a))])) H1
  rw [upB_same]
  exact hat
theorem g_100 (E : CX p s m args meth c own cc nL ret) (hK : KK D cy s) (hw : WK D cy T v A0 H0 H locs) {ix : Nat} (hl : Cond.fieldLink own ix RX4 (TX4 0).2.1 (TX4 0).2.2.1 ∈ gT) {a : Nat} (ht : T 0 a = 5) (pc' : Nat) (hp : pc + 3 = pc') (hdg : decode cc pc = .ok (.getfield ix, 3)) (kk : W p l e R s m args below meth c H locs cells slots Q (F0 m pc' ls (.ref (T 100 a) :: rest))) : W p l e R s m args below meth c H locs cells slots Q (F0 m pc ls (.ref a :: rest)) := x_get E hK in_X4 (ci := 5) rfl (cw_ob5 hw.1 ht) (k := 0) (by decide) hl (fun x h => by rw [tx_X4 0 (by decide)] at h; exact h) rfl pc' hp hdg kk
theorem g_101 (E : CX p s m args meth c own cc nL ret) (hK : KK D cy s) (hw : WK D cy T v A0 H0 H locs) {ix : Nat} (hl : Cond.fieldLink own ix RX4 (TX4 1).2.1 (TX4 1).2.2.1 ∈ gT) {a : Nat} (ht : T 0 a = 5) (pc' : Nat) (hp : pc + 3 = pc') (hdg : decode cc pc = .ok (.getfield ix, 3)) (kk : W p l e R s m args below meth c H locs cells slots Q (F0 m pc' ls (.ref (T 101 a) :: rest))) : W p l e R s m args below meth c H locs cells slots Q (F0 m pc ls (.ref a :: rest)) := x_get E hK in_X4 (ci := 5) rfl (cw_ob5 hw.1 ht) (k := 1) (by decide) hl (fun x h => by rw [tx_X4 1 (by decide)] at h; exact h) rfl pc' hp hdg kk
theorem g_102 (E : CX p s m args meth c own cc nL ret) (hK : KK D cy s) (hw : WK D cy T v A0 H0 H locs) {ix : Nat} (hl : Cond.fieldLink own ix RX4 (TX4 2).2.1 (TX4 2).2.2.1 ∈ gT) {a : Nat} (ht : T 0 a = 5) (pc' : Nat) (hp : pc + 3 = pc') (hdg : decode cc pc = .ok (.getfield ix, 3)) (kk : W p l e R s m args below meth c H locs cells slots Q (F0 m pc' ls (.ref (T 102 a) :: rest))) : W p l e R s m args below meth c H locs cells slots Q (F0 m pc ls (.ref a :: rest)) := x_get E hK in_X4 (ci := 5) rfl (cw_ob5 hw.1 ht) (k := 2) (by decide) hl (fun x h => by rw [tx_X4 2 (by decide)] at h; exact h) rfl pc' hp hdg kk
theorem g_103 (E : CX p s m args meth c own cc nL ret) (hK : KK D cy s) (hw : WK D cy T v A0 H0 H locs) {ix : Nat} (hl : Cond.fieldLink own ix RX4 (TX4 3).2.1 (TX4 3).2.2.1 ∈ gT) {a : Nat} (ht : T 0 a = 5) (z : Int) (hz : v 103 a = z) (pc' : Nat) (hp : pc + 3 = pc') (hdg : decode cc pc = .ok (.getfield ix, 3)) (kk : inR z → W p l e R s m args below meth c H locs cells slots Q (F0 m pc' ls (.int (J z) :: rest))) : W p l e R s m args below meth c H locs cells slots Q (F0 m pc ls (.ref a :: rest)) := by
  subst hz
  exact x_get E hK in_X4 (ci := 5) rfl (cw_ob5 hw.1 ht) (k := 3) (by decide) hl (fun x h => by rw [tx_X4 3 (by decide)] at h; exact h) rfl pc' hp hdg (kk (hw.1.2.2.2 103 a))
theorem p_103 (E : CX p s m args meth c own cc nL ret) (hK : KK D cy s) (hw : WK D cy T v A0 H0 H locs) {ix : Nat} (hl : Cond.fieldLink own ix RX4 (TX4 3).2.1 (TX4 3).2.2.1 ∈ gT) {a : Nat} (ht : T 0 a = 5) {z : Int} (hz : inR z) (pc' : Nat) (hp : pc + 3 = pc') (hdg : decode cc pc = .ok (.putfield ix, 3)) (kk : ∀ (H : Heap) (locs : List Loc), WK D cy T (upV v 103 (upB (v 103) a z)) A0 H0 H locs → W p l e R s m args below meth c H locs cells slots Q (F0 m pc' ls rest)) : W p l e R s m args below meth c H locs cells slots Q (F0 m pc ls (.int (J z) :: .ref a :: rest)) := by
  refine x_put E hK hw.2.2 (hw.2.1 a ⟨by rw [ht]; decide, by rw [ht]; decide⟩) in_X4 tyX4 tyX4_ok nmX4 (ci := 5) rfl (cw_ob5 hw.1 ht) (k := 3) (by decide) hl (fun x h => by rw [tx_X4 3 (by decide)] at h; exact h) (by decide +kernel) (ty := .int) (by decide +kernel) rfl rfl (Nat.le_of_ble_eq_true rfl) pc' hp hdg (fun H1 locs1 hat hoth hsz hS => ?_)
  refine kk H1 locs1 ⟨cw_put hw.1 (by decide) ht hz hoth (show WL T v from hw.1.2.2.1) (fun γ e he => ?_), hw.2.1, hS⟩
  cases he
  show va_at D vwCl (a, .inr (5, [.ref (T 100 a), .ref (T 101 a), .ref (T 102 a), .int (J (upB (v 103) a z a))])) H1
  rw [upB_same]
  exact hat
theorem g_120 (E : CX p s m args meth c own cc nL ret) (hK : KK D cy s) (hw : WK D cy T v A0 H0 H locs) {ix : Nat} (hl : Cond.fieldLink own ix RX5 (TX5 0).2.1 (TX5 0).2.2.1 ∈ gT) {a : Nat} (ht : T 0 a = 6) (pc' : Nat) (hp : pc + 3 = pc') (hdg : decode cc pc = .ok (.getfield ix, 3)) (kk : W p l e R s m args below meth c H locs cells slots Q (F0 m pc' ls (.ref (T 120 a) :: rest))) : W p l e R s m args below meth c H locs cells slots Q (F0 m pc ls (.ref a :: rest)) := x_get E hK in_X5 (ci := 6) rfl (cw_ob6 hw.1 ht) (k := 0) (by decide) hl (fun x h => by rw [tx_X5 0 (by decide)] at h; exact h) rfl pc' hp hdg kk
theorem g_121 (E : CX p s m args meth c own cc nL ret) (hK : KK D cy s) (hw : WK D cy T v A0 H0 H locs) {ix : Nat} (hl : Cond.fieldLink own ix RX5 (TX5 1).2.1 (TX5 1).2.2.1 ∈ gT) {a : Nat} (ht : T 0 a = 6) (pc' : Nat) (hp : pc + 3 = pc') (hdg : decode cc pc = .ok (.getfield ix, 3)) (kk : W p l e R s m args below meth c H locs cells slots Q (F0 m pc' ls (.ref (T 121 a) :: rest))) : W p l e R s m args below meth c H locs cells slots Q (F0 m pc ls (.ref a :: rest)) := x_get E hK in_X5 (ci := 6) rfl (cw_ob6 hw.1 ht) (k := 1) (by decide) hl (fun x h => by rw [tx_X5 1 (by decide)] at h; exact h) rfl pc' hp hdg kk
theorem g_122 (E : CX p s m args meth c own cc nL ret) (hK : KK D cy s) (hw : WK D cy T v A0 H0 H locs) {ix : Nat} (hl : Cond.fieldLink own ix RX5 (TX5 2).2.1 (TX5 2).2.2.1 ∈ gT) {a : Nat} (ht : T 0 a = 6) (pc' : Nat) (hp : pc + 3 = pc') (hdg : decode cc pc = .ok (.getfield ix, 3)) (kk : W p l e R s m args below meth c H locs cells slots Q (F0 m pc' ls (.ref (T 122 a) :: rest))) : W p l e R s m args below meth c H locs cells slots Q (F0 m pc ls (.ref a :: rest)) := x_get E hK in_X5 (ci := 6) rfl (cw_ob6 hw.1 ht) (k := 2) (by decide) hl (fun x h => by rw [tx_X5 2 (by decide)] at h; exact h) rfl pc' hp hdg kk
theorem g_123 (E : CX p s m args meth c own cc nL ret) (hK : KK D cy s) (hw : WK D cy T v A0 H0 H locs) {ix : Nat} (hl : Cond.fieldLink own ix RX5 (TX5 3).2.1 (TX5 3).2.2.1 ∈ gT) {a : Nat} (ht : T 0 a = 6) (z : Int) (hz : v 123 a = z) (pc' : Nat) (hp : pc + 3 = pc') (hdg : decode cc pc = .ok (.getfield ix, 3)) (kk : inR z → W p l e R s m args below meth c H locs cells slots Q (F0 m pc' ls (.int (J z) :: rest))) : W p l e R s m args below meth c H locs cells slots Q (F0 m pc ls (.ref a :: rest)) := by
  subst hz
  exact x_get E hK in_X5 (ci := 6) rfl (cw_ob6 hw.1 ht) (k := 3) (by decide) hl (fun x h => by rw [tx_X5 3 (by decide)] at h; exact h) rfl pc' hp hdg (kk (hw.1.2.2.2 123 a))
theorem p_123 (E : CX p s m args meth c own cc nL ret) (hK : KK D cy s) (hw : WK D cy T v A0 H0 H locs) {ix : Nat} (hl : Cond.fieldLink own ix RX5 (TX5 3).2.1 (TX5 3).2.2.1 ∈ gT) {a : Nat} (ht : T 0 a = 6) {z : Int} (hz : inR z) (pc' : Nat) (hp : pc + 3 = pc') (hdg : decode cc pc = .ok (.putfield ix, 3)) (kk : ∀ (H : Heap) (locs : List Loc), WK D cy T (upV v 123 (upB (v 123) a z)) A0 H0 H locs → W p l e R s m args below meth c H locs cells slots Q (F0 m pc' ls rest)) : W p l e R s m args below meth c H locs cells slots Q (F0 m pc ls (.int (J z) :: .ref a :: rest)) := by
  refine x_put E hK hw.2.2 (hw.2.1 a ⟨by rw [ht]; decide, by rw [ht]; decide⟩) in_X5 tyX5 tyX5_ok nmX5 (ci := 6) rfl (cw_ob6 hw.1 ht) (k := 3) (by decide) hl (fun x h => by rw [tx_X5 3 (by decide)] at h; exact h) (by decide +kernel) (ty := .int) (by decide +kernel) rfl rfl (Nat.le_of_ble_eq_true rfl) pc' hp hdg (fun H1 locs1 hat hoth hsz hS => ?_)
  refine kk H1 locs1 ⟨cw_put hw.1 (by decide) ht hz hoth (show WL T v from hw.1.2.2.1) (fun γ e he => ?_), hw.2.1, hS⟩
  cases he
  show va_at D vwCl (a, .inr (6, [.ref (T 120 a), .ref (T 121 a), .ref (T 122 a), .int (J (upB (v 123) a z a)), .int (J (v 124 a))])) H1
  rw [upB_same]
  exact hat
theorem g_124 (E : CX p s m args meth c own cc nL ret) (hK : KK D cy s) (hw : WK D cy T v A0 H0 H locs) {ix : Nat} (hl : Cond.fieldLink own ix RX5 (TX5 4).2.1 (TX5 4).2.2.1 ∈ gT) {a : Nat} (ht : T 0 a = 6) (z : Int) (hz : v 124 a = z) (pc' : Nat) (hp : pc + 3 = pc') (hdg : decode cc pc = .ok (.getfield ix, 3)) (kk : inR z → W p l e R s m args below meth c H locs cells slots Q (F0 m pc' ls (.int (J z) :: rest))) : W p l e R s m args below meth c H locs cells slots Q (F0 m pc ls (.ref a :: rest)) := by
  subst hz
  exact x_get E hK in_X5 (ci := 6) rfl (cw_ob6 hw.1 ht) (k := 4) (by decide) hl (fun x h => by rw [tx_X5 4 (by decide)] at h; exact h) rfl pc' hp hdg (kk (hw.1.2.2.2 124 a))
theorem p_124 (E : CX p s m args meth c own cc nL ret) (hK : KK D cy s) (hw : WK D cy T v A0 H0 H locs) {ix : Nat} (hl : Cond.fieldLink own ix RX5 (TX5 4).2.1 (TX5 4).2.2.1 ∈ gT) {a : Nat} (ht : T 0 a = 6) {z : Int} (hz : inR z) (pc' : Nat) (hp : pc + 3 = pc') (hdg : decode cc pc = .ok (.putfield ix, 3)) (kk : ∀ (H : Heap) (locs : List Loc), WK D cy T (upV v 124 (upB (v 124) a z)) A0 H0 H locs → W p l e R s m args below meth c H locs cells slots Q (F0 m pc' ls rest)) : W p l e R s m args below meth c H locs cells slots Q (F0 m pc ls (.int (J z) :: .ref a :: rest)) := by
  refine x_put E hK hw.2.2 (hw.2.1 a ⟨by rw [ht]; decide, by rw [ht]; decide⟩) in_X5 tyX5 tyX5_ok nmX5 (ci := 6) rfl (cw_ob6 hw.1 ht) (k := 4) (by decide) hl (fun x h => by rw [tx_X5 4 (by decide)] at h; exact h) (by decide +kernel) (ty := .int) (by decide +kernel) rfl rfl (Nat.le_of_ble_eq_true rfl) pc' hp hdg (fun H1 locs1 hat hoth hsz hS => ?_)
  refine kk H1 locs1 ⟨cw_put hw.1 (by decide) ht hz hoth (show WL T v from hw.1.2.2.1) (fun γ e he => ?_), hw.2.1, hS⟩
  cases he
  show va_at D vwCl (a, .inr (6, [.ref (T 120 a), .ref (T 121 a), .ref (T 122 a), .int (J (v 123 a)), .int (J (upB (v 124) a z a))])) H1
  rw [upB_same]
  exact hat
theorem g_140 (E : CX p s m args meth c own cc nL ret) (hK : KK D cy s) (hw : WK D cy T v A0 H0 H locs) {ix : Nat} (hl : Cond.fieldLink own ix RX6 (TX6 0).2.1 (TX6 0).2.2.1 ∈ gT) {a : Nat} (ht : T 0 a = 7) (z : Int) (hz : v 140 a = z) (pc' : Nat) (hp : pc + 3 = pc') (hdg : decode cc pc = .ok (.getfield ix, 3)) (kk : inR z → W p l e R s m args below meth c H locs cells slots Q (F0 m pc' ls (.int (J z) :: rest))) : W p l e R s m args below meth c H locs cells slots Q (F0 m pc ls (.ref a :: rest)) := by
  subst hz
  exact x_get E hK in_X6 (ci := 7) rfl (cw_ob7 hw.1 ht) (k := 0) (by decide) hl (fun x h => by rw [tx_X6 0 (by decide)] at h; exact h) rfl pc' hp hdg (kk (hw.1.2.2.2 140 a))
theorem g_141 (E : CX p s m args meth c own cc nL ret) (hK : KK D cy s) (hw : WK D cy T v A0 H0 H locs) {ix : Nat} (hl : Cond.fieldLink own ix RX6 (TX6 1).2.1 (TX6 1).2.2.1 ∈ gT) {a : Nat} (ht : T 0 a = 7) (z : Int) (hz : v 141 a = z) (pc' : Nat) (hp : pc + 3 = pc') (hdg : decode cc pc = .ok (.getfield ix, 3)) (kk : inR z → W p l e R s m args below meth c H locs cells slots Q (F0 m pc' ls (.int (J z) :: rest))) : W p l e R s m args below meth c H locs cells slots Q (F0 m pc ls (.ref a :: rest)) := by
  subst hz
  exact x_get E hK in_X6 (ci := 7) rfl (cw_ob7 hw.1 ht) (k := 1) (by decide) hl (fun x h => by rw [tx_X6 1 (by decide)] at h; exact h) rfl pc' hp hdg (kk (hw.1.2.2.2 141 a))
theorem g_142 (E : CX p s m args meth c own cc nL ret) (hK : KK D cy s) (hw : WK D cy T v A0 H0 H locs) {ix : Nat} (hl : Cond.fieldLink own ix RX6 (TX6 2).2.1 (TX6 2).2.2.1 ∈ gT) {a : Nat} (ht : T 0 a = 7) (z : Int) (hz : v 142 a = z) (pc' : Nat) (hp : pc + 3 = pc') (hdg : decode cc pc = .ok (.getfield ix, 3)) (kk : inR z → W p l e R s m args below meth c H locs cells slots Q (F0 m pc' ls (.int (J z) :: rest))) : W p l e R s m args below meth c H locs cells slots Q (F0 m pc ls (.ref a :: rest)) := by
  subst hz
  exact x_get E hK in_X6 (ci := 7) rfl (cw_ob7 hw.1 ht) (k := 2) (by decide) hl (fun x h => by rw [tx_X6 2 (by decide)] at h; exact h) rfl pc' hp hdg (kk (hw.1.2.2.2 142 a))
theorem g_143 (E : CX p s m args meth c own cc nL ret) (hK : KK D cy s) (hw : WK D cy T v A0 H0 H locs) {ix : Nat} (hl : Cond.fieldLink own ix RX6 (TX6 3).2.1 (TX6 3).2.2.1 ∈ gT) {a : Nat} (ht : T 0 a = 7) (z : Int) (hz : v 143 a = z) (pc' : Nat) (hp : pc + 3 = pc') (hdg : decode cc pc = .ok (.getfield ix, 3)) (kk : inR z → W p l e R s m args below meth c H locs cells slots Q (F0 m pc' ls (.int (J z) :: rest))) : W p l e R s m args below meth c H locs cells slots Q (F0 m pc ls (.ref a :: rest)) := by
  subst hz
  exact x_get E hK in_X6 (ci := 7) rfl (cw_ob7 hw.1 ht) (k := 3) (by decide) hl (fun x h => by rw [tx_X6 3 (by decide)] at h; exact h) rfl pc' hp hdg (kk (hw.1.2.2.2 143 a))
theorem g_144 (E : CX p s m args meth c own cc nL ret) (hK : KK D cy s) (hw : WK D cy T v A0 H0 H locs) {ix : Nat} (hl : Cond.fieldLink own ix RX6 (TX6 4).2.1 (TX6 4).2.2.1 ∈ gT) {a : Nat} (ht : T 0 a = 7) (z : Int) (hz : v 144 a = z) (pc' : Nat) (hp : pc + 3 = pc') (hdg : decode cc pc = .ok (.getfield ix, 3)) (kk : inR z → W p l e R s m args below meth c H locs cells slots Q (F0 m pc' ls (.int (J z) :: rest))) : W p l e R s m args below meth c H locs cells slots Q (F0 m pc ls (.ref a :: rest)) := by
  subst hz
  exact x_get E hK in_X6 (ci := 7) rfl (cw_ob7 hw.1 ht) (k := 4) (by decide) hl (fun x h => by rw [tx_X6 4 (by decide)] at h; exact h) rfl pc' hp hdg (kk (hw.1.2.2.2 144 a))
theorem g_145 (E : CX p s m args meth c own cc nL ret) (hK : KK D cy s) (hw : WK D cy T v A0 H0 H locs) {ix : Nat} (hl : Cond.fieldLink own ix RX6 (TX6 5).2.1 (TX6 5).2.2.1 ∈ gT) {a : Nat} (ht : T 0 a = 7) (z : Int) (hz : v 145 a = z) (pc' : Nat) (hp : pc + 3 = pc') (hdg : decode cc pc = .ok (.getfield ix, 3)) (kk : inR z → W p l e R s m args below meth c H locs cells slots Q (F0 m pc' ls (.int (J z) :: rest))) : W p l e R s m args below meth c H locs cells slots Q (F0 m pc ls (.ref a :: rest)) := by
  subst hz
  exact x_get E hK in_X6 (ci := 7) rfl (cw_ob7 hw.1 ht) (k := 5) (by decide) hl (fun x h => by rw [tx_X6 5 (by decide)] at h; exact h) rfl pc' hp hdg (kk (hw.1.2.2.2 145 a))
theorem g_146 (E : CX p s m args meth c own cc nL ret) (hK : KK D cy s) (hw : WK D cy T v A0 H0 H locs) {ix : Nat} (hl : Cond.fieldLink own ix RX6 (TX6 6).2.1 (TX6 6).2.2.1 ∈ gT) {a : Nat} (ht : T 0 a = 7) (z : Int) (hz : v 146 a = z) (pc' : Nat) (hp : pc + 3 = pc') (hdg : decode cc pc = .ok (.getfield ix, 3)) (kk : inR z → W p l e R s m args below meth c H locs cells slots Q (F0 m pc' ls (.int (J z) :: rest))) : W p l e R s m args below meth c H locs cells slots Q (F0 m pc ls (.ref a :: rest)) := by
  subst hz
  exact x_get E hK in_X6 (ci := 7) rfl (cw_ob7 hw.1 ht) (k := 6) (by decide) hl (fun x h => by rw [tx_X6 6 (by decide)] at h; exact h) rfl pc' hp hdg (kk (hw.1.2.2.2 146 a))
theorem p_146 (E : CX p s m args meth c own cc nL ret) (hK : KK D cy s) (hw : WK D cy T v A0 H0 H locs) {ix : Nat} (hl : Cond.fieldLink own ix RX6 (TX6 6).2.1 (TX6 6).2.2.1 ∈ gT) {a : Nat} (ht : T 0 a = 7) {z : Int} (hz : inR z) (hb : z = 0 ∨ z = 1) (pc' : Nat) (hp : pc + 3 = pc') (hdg : decode cc pc = .ok (.putfield ix, 3)) (kk : ∀ (H : Heap) (locs : List Loc), WK D cy T (upV v 146 (upB (v 146) a z)) A0 H0 H locs → W p l e R s m args below meth c H locs cells slots Q (F0 m pc' ls rest)) : W p l e R s m args below meth c H locs cells slots Q (F0 m pc ls (.int (J z) :: .ref a :: rest)) := by
  refine x_put E hK hw.2.2 (hw.2.1 a ⟨by rw [ht]; decide, by rw [ht]; decide⟩) in_X6 tyX6 tyX6_ok nmX6 (ci := 7) rfl (cw_ob7 hw.1 ht) (k := 6) (by decide) hl (fun x h => by rw [tx_X6 6 (by decide)] at h; exact h) (by decide +kernel) (ty := .boolean) (by decide +kernel) (J_bool hb) (J_fbool hb) (Nat.le_of_ble_eq_true rfl) pc' hp hdg (fun H1 locs1 hat hoth hsz hS => ?_)
  refine kk H1 locs1 ⟨cw_put hw.1 (by decide) ht hz hoth (show WL T v from hw.1.2.2.1) (fun γ e he => ?_), hw.2.1, hS⟩
  cases he
  show va_at D vwCl (a, .inr (7, [.int (J (v 140 a)), .int (J (v 141 a)), .int (J (v 142 a)), .int (J (v 143 a)), .int (J (v 144 a)), .int (J (v 145 a)), .int (J (upB (v 146) a z a))])) H1
  rw [upB_same]
  exact hat
theorem g_160 (E : CX p s m args meth c own cc nL ret) (hK : KK D cy s) (hw : WK D cy T v A0 H0 H locs) {ix : Nat} (hl : Cond.fieldLink own ix RX7 (TX7 0).2.1 (TX7 0).2.2.1 ∈ gT) {a : Nat} (ht : T 0 a = 8) (z : Int) (hz : v 160 a = z) (pc' : Nat) (hp : pc + 3 = pc') (hdg : decode cc pc = .ok (.getfield ix, 3)) (kk : inR z → W p l e R s m args below meth c H locs cells slots Q (F0 m pc' ls (.int (J z) :: rest))) : W p l e R s m args below meth c H locs cells slots Q (F0 m pc ls (.ref a :: rest)) := by
  subst hz
  exact x_get E hK in_X7 (ci := 8) rfl (cw_ob8 hw.1 ht) (k := 0) (by decide) hl (fun x h => by rw [tx_X7 0 (by decide)] at h; exact h) rfl pc' hp hdg (kk (hw.1.2.2.2 160 a))
theorem g_161 (E : CX p s m args meth c own cc nL ret) (hK : KK D cy s) (hw : WK D cy T v A0 H0 H locs) {ix : Nat} (hl : Cond.fieldLink own ix RX7 (TX7 1).2.1 (TX7 1).2.2.1 ∈ gT) {a : Nat} (ht : T 0 a = 8) (pc' : Nat) (hp : pc + 3 = pc') (hdg : decode cc pc = .ok (.getfield ix, 3)) (kk : W p l e R s m args below meth c H locs cells slots Q (F0 m pc' ls (.ref (T 161 a) :: rest))) : W p l e R s m args below meth c H locs cells slots Q (F0 m pc ls (.ref a :: rest)) := x_get E hK in_X7 (ci := 8) rfl (cw_ob8 hw.1 ht) (k := 1) (by decide) hl (fun x h => by rw [tx_X7 1 (by decide)] at h; exact h) rfl pc' hp hdg kk
theorem g_162 (E : CX p s m args meth c own cc nL ret) (hK : KK D cy s) (hw : WK D cy T v A0 H0 H locs) {ix : Nat} (hl : Cond.fieldLink own ix RX7 (TX7 2).2.1 (TX7 2).2.2.1 ∈ gT) {a : Nat} (ht : T 0 a = 8) (pc' : Nat) (hp : pc + 3 = pc') (hdg : decode cc pc = .ok (.getfield ix, 3)) (kk : W p l e R s m args below meth c H locs cells slots Q (F0 m pc' ls (.ref (T 162 a) :: rest))) : W p l e R s m args below meth c H locs cells slots Q (F0 m pc ls (.ref a :: rest)) := x_get E hK in_X7 (ci := 8) rfl (cw_ob8 hw.1 ht) (k := 2) (by decide) hl (fun x h => by rw [tx_X7 2 (by decide)] at h; exact h) rfl pc' hp hdg kk
theorem g_163 (E : CX p s m args meth c own cc nL ret) (hK : KK D cy s) (hw : WK D cy T v A0 H0 H locs) {ix : Nat} (hl : Cond.fieldLink own ix RX7 (TX7 3).2.1 (TX7 3).2.2.1 ∈ gT) {a : Nat} (ht : T 0 a = 8) (pc' : Nat) (hp : pc + 3 = pc') (hdg : decode cc pc = .ok (.getfield ix, 3)) (kk : W p l e R s m args below meth c H locs cells slots Q (F0 m pc' ls (.ref (T 163 a) :: rest))) : W p l e R s m args below meth c H locs cells slots Q (F0 m pc ls (.ref a :: rest)) := x_get E hK in_X7 (ci := 8) rfl (cw_ob8 hw.1 ht) (k := 3) (by decide) hl (fun x h => by rw [tx_X7 3 (by decide)] at h; exact h) rfl pc' hp hdg kk
theorem g_180 (E : CX p s m args meth c own cc nL ret) (hK : KK D cy s) (hw : WK D cy T v A0 H0 H locs) {ix : Nat} (hl : Cond.fieldLink own ix RX9 (TX9 0).2.1 (TX9 0).2.2.1 ∈ gT) {a : Nat} (ht : T 0 a = 9) (pc' : Nat) (hp : pc + 3 = pc') (hdg : decode cc pc = .ok (.getfield ix, 3)) (kk : W p l e R s m args below meth c H locs cells slots Q (F0 m pc' ls (.ref (T 180 a) :: rest))) : W p l e R s m args below meth c H locs cells slots Q (F0 m pc ls (.ref a :: rest)) := x_get E hK in_X9 (ci := 9) rfl (cw_ob9 hw.1 ht) (k := 0) (by decide) hl (fun x h => by rw [tx_X9 0 (by decide)] at h; exact h) rfl pc' hp hdg kk
theorem g_181 (E : CX p s m args meth c own cc nL ret) (hK : KK D cy s) (hw : WK D cy T v A0 H0 H locs) {ix : Nat} (hl : Cond.fieldLink own ix RX9 (TX9 1).2.1 (TX9 1).2.2.1 ∈ gT) {a : Nat} (ht : T 0 a = 9) (pc' : Nat) (hp : pc + 3 = pc') (hdg : decode cc pc = .ok (.getfield ix, 3)) (kk : W p l e R s m args below meth c H locs cells slots Q (F0 m pc' ls (.ref (T 181 a) :: rest))) : W p l e R s m args below meth c H locs cells slots Q (F0 m pc ls (.ref a :: rest)) := x_get E hK in_X9 (ci := 9) rfl (cw_ob9 hw.1 ht) (k := 1) (by decide) hl (fun x h => by rw [tx_X9 1 (by decide)] at h; exact h) rfl pc' hp hdg kk
theorem g_182 (E : CX p s m args meth c own cc nL ret) (hK : KK D cy s) (hw : WK D cy T v A0 H0 H locs) {ix : Nat} (hl : Cond.fieldLink own ix RX9 (TX9 2).2.1 (TX9 2).2.2.1 ∈ gT) {a : Nat} (ht : T 0 a = 9) (pc' : Nat) (hp : pc + 3 = pc') (hdg : decode cc pc = .ok (.getfield ix, 3)) (kk : W p l e R s m args below meth c H locs cells slots Q (F0 m pc' ls (.ref (T 182 a) :: rest))) : W p l e R s m args below meth c H locs cells slots Q (F0 m pc ls (.ref a :: rest)) := x_get E hK in_X9 (ci := 9) rfl (cw_ob9 hw.1 ht) (k := 2) (by decide) hl (fun x h => by rw [tx_X9 2 (by decide)] at h; exact h) rfl pc' hp hdg kk
theorem g_183 (E : CX p s m args meth c own cc nL ret) (hK : KK D cy s) (hw : WK D cy T v A0 H0 H locs) {ix : Nat} (hl : Cond.fieldLink own ix RX9 (TX9 3).2.1 (TX9 3).2.2.1 ∈ gT) {a : Nat} (ht : T 0 a = 9) (pc' : Nat) (hp : pc + 3 = pc') (hdg : decode cc pc = .ok (.getfield ix, 3)) (kk : W p l e R s m args below meth c H locs cells slots Q (F0 m pc' ls (.ref (T 183 a) :: rest))) : W p l e R s m args below meth c H locs cells slots Q (F0 m pc ls (.ref a :: rest)) := x_get E hK in_X9 (ci := 9) rfl (cw_ob9 hw.1 ht) (k := 3) (by decide) hl (fun x h => by rw [tx_X9 3 (by decide)] at h; exact h) rfl pc' hp hdg kk
theorem g_184 (E : CX p s m args meth c own cc nL ret) (hK : KK D cy s) (hw : WK D cy T v A0 H0 H locs) {ix : Nat} (hl : Cond.fieldLink own ix RX9 (TX9 4).2.1 (TX9 4).2.2.1 ∈ gT) {a : Nat} (ht : T 0 a = 9) (pc' : Nat) (hp : pc + 3 = pc') (hdg : decode cc pc = .ok (.getfield ix, 3)) (kk : W p l e R s m args below meth c H locs cells slots Q (F0 m pc' ls (.ref (T 184 a) :: rest))) : W p l e R s m args below meth c H locs cells slots Q (F0 m pc ls (.ref a :: rest)) := x_get E hK in_X9 (ci := 9) rfl (cw_ob9 hw.1 ht) (k := 4) (by decide) hl (fun x h => by rw [tx_X9 4 (by decide)] at h; exact h) rfl pc' hp hdg kk
theorem g_185 (E : CX p s m args meth c own cc nL ret) (hK : KK D cy s) (hw : WK D cy T v A0 H0 H locs) {ix : Nat} (hl : Cond.fieldLink own ix RX9 (TX9 5).2.1 (TX9 5).2.2.1 ∈ gT) {a : Nat} (ht : T 0 a = 9) (pc' : Nat) (hp : pc + 3 = pc') (hdg : decode cc pc = .ok (.getfield ix, 3)) (kk : W p l e R s m args below meth c H locs cells slots Q (F0 m pc' ls (.ref (T 185 a) :: rest))) : W p l e R s m args below meth c H locs cells slots Q (F0 m pc ls (.ref a :: rest)) := x_get E hK in_X9 (ci := 9) rfl (cw_ob9 hw.1 ht) (k := 5) (by decide) hl (fun x h => by rw [tx_X9 5 (by decide)] at h; exact h) rfl pc' hp hdg kk
theorem g_186 (E : CX p s m args meth c own cc nL ret) (hK : KK D cy s) (hw : WK D cy T v A0 H0 H locs) {ix : Nat} (hl : Cond.fieldLink own ix RX9 (TX9 6).2.1 (TX9 6).2.2.1 ∈ gT) {a : Nat} (ht : T 0 a = 9) (z : Int) (hz : v 186 a = z) (pc' : Nat) (hp : pc + 3 = pc') (hdg : decode cc pc = .ok (.getfield ix, 3)) (kk : inR z → W p l e R s m args below meth c H locs cells slots Q (F0 m pc' ls (.int (J z) :: rest))) : W p l e R s m args below meth c H locs cells slots Q (F0 m pc ls (.ref a :: rest)) := by
  subst hz
  exact x_get E hK in_X9 (ci := 9) rfl (cw_ob9 hw.1 ht) (k := 6) (by decide) hl (fun x h => by rw [tx_X9 6 (by decide)] at h; exact h) rfl pc' hp hdg (kk (hw.1.2.2.2 186 a))
theorem p_186 (E : CX p s m args meth c own cc nL ret) (hK : KK D cy s) (hw : WK D cy T v A0 H0 H locs) {ix : Nat} (hl : Cond.fieldLink own ix RX9 (TX9 6).2.1 (TX9 6).2.2.1 ∈ gT) {a : Nat} (ht : T 0 a = 9) {z : Int} (hz : inR z) (pc' : Nat) (hp : pc + 3 = pc') (hdg : decode cc pc = .ok (.putfield ix, 3)) (kk : ∀ (H : Heap) (locs : List Loc), WK D cy T (upV v 186 (upB (v 186) a z)) A0 H0 H locs → W p l e R s m args below meth c H locs cells slots Q (F0 m pc' ls rest)) : W p l e R s m args below meth c H locs cells slots Q (F0 m pc ls (.int (J z) :: .ref a :: rest)) := by
  refine x_put E hK hw.2.2 (hw.2.1 a ⟨by rw [ht]; decide, by rw [ht]; decide⟩) in_X9 tyX9 tyX9_ok nmX9 (ci := 9) rfl (cw_ob9 hw.1 ht) (k := 6) (by decide) hl (fun x h => by rw [tx_X9 6 (by decide)] at h; exact h) (by decide +kernel) (ty := .int) (by decide +kernel) rfl rfl (Nat.le_of_ble_eq_true rfl) pc' hp hdg (fun H1 locs1 hat hoth hsz hS => ?_)
  refine kk H1 locs1 ⟨cw_put hw.1 (by decide) ht hz hoth (show WL T v from hw.1.2.2.1) (fun γ e he => ?_), hw.2.1, hS⟩
  cases he
  show va_at D vwCl (a, .inr (9, [.ref (T 180 a), .ref (T 181 a), .ref (T 182 a), .ref (T 183 a), .ref (T 184 a), .ref (T 185 a), .int (J (upB (v 186) a z a)), .int (J (v 187 a)), .int (J (v 188 a)), .int (J (v 189 a)), .int (J (v 190 a)), .int (J (v 191 a)), .ref (T 192 a), .ref (T 193 a), .ref (T 194 a), .ref (T 195 a), .ref (T 196 a), va_rf (dcd (T 197 a))])) H1
  rw [upB_same]
  exact hat
theorem g_187 (E : CX p s m args meth c own cc nL ret) (hK : KK D cy s) (hw : WK D cy T v A0 H0 H locs) {ix : Nat} (hl : Cond.fieldLink own ix RX9 (TX9 7).2.1 (TX9 7).2.2.1 ∈ gT) {a : Nat} (ht : T 0 a = 9) (z : Int) (hz : v 187 a = z) (pc' : Nat) (hp : pc + 3 = pc') (hdg : decode cc pc = .ok (.getfield ix, 3)) (kk : inR z → W p l e R s m args below meth c H locs cells slots Q (F0 m pc' ls (.int (J z) :: rest))) : W p l e R s m args below meth c H locs cells slots Q (F0 m pc ls (.ref a :: rest)) := by
  subst hz
  exact x_get E hK in_X9 (ci := 9) rfl (cw_ob9 hw.1 ht) (k := 7) (by decide) hl (fun x h => by rw [tx_X9 7 (by decide)] at h; exact h) rfl pc' hp hdg (kk (hw.1.2.2.2 187 a))
theorem p_187 (E : CX p s m args meth c own cc nL ret) (hK : KK D cy s) (hw : WK D cy T v A0 H0 H locs) {ix : Nat} (hl : Cond.fieldLink own ix RX9 (TX9 7).2.1 (TX9 7).2.2.1 ∈ gT) {a : Nat} (ht : T 0 a = 9) {z : Int} (hz : inR z) (pc' : Nat) (hp : pc + 3 = pc') (hdg : decode cc pc = .ok (.putfield ix, 3)) (kk : ∀ (H : Heap) (locs : List Loc), WK D cy T (upV v 187 (upB (v 187) a z)) A0 H0 H locs → W p l e R s m args below meth c H locs cells slots Q (F0 m pc' ls rest)) : W p l e R s m args below meth c H locs cells slots Q (F0 m pc ls (.int (J z) :: .ref a :: rest)) := by
  refine x_put E hK hw.2.2 (hw.2.1 a ⟨by rw [ht]; decide, by rw [ht]; decide⟩) in_X9 tyX9 tyX9_ok nmX9 (ci := 9) rfl (cw_ob9 hw.1 ht) (k := 7) (by decide) hl (fun x h => by rw [tx_X9 7 (by decide)] at h; exact h) (by decide +kernel) (ty := .int) (by decide +kernel) rfl rfl (Nat.le_of_ble_eq_true rfl) pc' hp hdg (fun H1 locs1 hat hoth hsz hS => ?_)
  refine kk H1 locs1 ⟨cw_put hw.1 (by decide) ht hz hoth (show WL T v from hw.1.2.2.1) (fun γ e he => ?_), hw.2.1, hS⟩
  cases he
  show va_at D vwCl (a, .inr (9, [.ref (T 180 a), .ref (T 181 a), .ref (T 182 a), .ref (T 183 a), .ref (T 184 a), .ref (T 185 a), .int (J (v 186 a)), .int (J (upB (v 187) a z a)), .int (J (v 188 a)), .int (J (v 189 a)), .int (J (v 190 a)), .int (J (v 191 a)), .ref (T 192 a), .ref (T 193 a), .ref (T 194 a), .ref (T 195 a), .ref (T 196 a), va_rf (dcd (T 197 a))])) H1
  rw [upB_same]
  exact hat
theorem g_188 (E : CX p s m args meth c own cc nL ret) (hK : KK D cy s) (hw : WK D cy T v A0 H0 H locs) {ix : Nat} (hl : Cond.fieldLink own ix RX9 (TX9 8).2.1 (TX9 8).2.2.1 ∈ gT) {a : Nat} (ht : T 0 a = 9) (z : Int) (hz : v 188 a = z) (pc' : Nat) (hp : pc + 3 = pc') (hdg : decode cc pc = .ok (.getfield ix, 3)) (kk : inR z → W p l e R s m args below meth c H locs cells slots Q (F0 m pc' ls (.int (J z) :: rest))) : W p l e R s m args below meth c H locs cells slots Q (F0 m pc ls (.ref a :: rest)) := by
  subst hz
  exact x_get E hK in_X9 (ci := 9) rfl (cw_ob9 hw.1 ht) (k := 8) (by decide) hl (fun x h => by rw [tx_X9 8 (by decide)] at h; exact h) rfl pc' hp hdg (kk (hw.1.2.2.2 188 a))
theorem p_188 (E : CX p s m args meth c own cc nL ret) (hK : KK D cy s) (hw : WK D cy T v A0 H0 H locs) {ix : Nat} (hl : Cond.fieldLink own ix RX9 (TX9 8).2.1 (TX9 8).2.2.1 ∈ gT) {a : Nat} (ht : T 0 a = 9) {z : Int} (hz : inR z) (pc' : Nat) (hp : pc + 3 = pc') (hdg : decode cc pc = .ok (.putfield ix, 3)) (kk : ∀ (H : Heap) (locs : List Loc), WK D cy T (upV v 188 (upB (v 188) a z)) A0 H0 H locs → W p l e R s m args below meth c H locs cells slots Q (F0 m pc' ls rest)) : W p l e R s m args below meth c H locs cells slots Q (F0 m pc ls (.int (J z) :: .ref a :: rest)) := by
  refine x_put E hK hw.2.2 (hw.2.1 a ⟨by rw [ht]; decide, by rw [ht]; decide⟩) in_X9 tyX9 tyX9_ok nmX9 (ci := 9) rfl (cw_ob9 hw.1 ht) (k := 8) (by decide) hl (fun x h => by rw [tx_X9 8 (by decide)] at h; exact h) (by decide +kernel) (ty := .int) (by decide +kernel) rfl rfl (Nat.le_of_ble_eq_true rfl) pc' hp hdg (fun H1 locs1 hat hoth hsz hS => ?_)
  refine kk H1 locs1 ⟨cw_put hw.1 (by decide) ht hz hoth (show WL T v from hw.1.2.2.1) (fun γ e he => ?_), hw.2.1, hS⟩
  cases he
  show va_at D vwCl (a, .inr (9, [.ref (T 180 a), .ref (T 181 a), .ref (T 182 a), .ref (T 183 a), .ref (T 184 a), .ref (T 185 a), .int (J (v 186 a)), .int (J (v 187 a)), .int (J (upB (v 188) a z a)), .int (J (v 189 a)), .int (J (v 190 a)), .int (J (v 191 a)), .ref (T 192 a), .ref (T 193 a), .ref (T 194 a), .ref (T 195 a), .ref (T 196 a), va_rf (dcd (T 197 a))])) H1
  rw [upB_same]
  exact hat
theorem g_189 (E : CX p s m args meth c own cc nL ret) (hK : KK D cy s) (hw : WK D cy T v A0 H0 H locs) {ix : Nat} (hl : Cond.fieldLink own ix RX9 (TX9 9).2.1 (TX9 9).2.2.1 ∈ gT) {a : Nat} (ht : T 0 a = 9) (z : Int) (hz : v 189 a = z) (pc' : Nat) (hp : pc + 3 = pc') (hdg : decode cc pc = .ok (.getfield ix, 3)) (kk : inR z → W p l e R s m args below meth c H locs cells slots Q (F0 m pc' ls (.int (J z) :: rest))) : W p l e R s m args below meth c H locs cells slots Q (F0 m pc ls (.ref a :: rest)) := by
  subst hz
  exact x_get E hK in_X9 (ci := 9) rfl (cw_ob9 hw.1 ht) (k := 9) (by decide) hl (fun x h => by rw [tx_X9 9 (by decide)] at h; exact h) rfl pc' hp hdg (kk (hw.1.2.2.2 189 a))
theorem p_189 (E : CX p s m args meth c own cc nL ret) (hK : KK D cy s) (hw : WK D cy T v A0 H0 H locs) {ix : Nat} (hl : Cond.fieldLink own ix RX9 (TX9 9).2.1 (TX9 9).2.2.1 ∈ gT) {a : Nat} (ht : T 0 a = 9) {z : Int} (hz : inR z) (pc' : Nat) (hp : pc + 3 = pc') (hdg : decode cc pc = .ok (.putfield ix, 3)) (kk : ∀ (H : Heap) (locs : List Loc), WK D cy T (upV v 189 (upB (v 189) a z)) A0 H0 H locs → W p l e R s m args below meth c H locs cells slots Q (F0 m pc' ls rest)) : W p l e R s m args below meth c H locs cells slots Q (F0 m pc ls (.int (J z) :: .ref a :: rest)) := by
  refine x_put E hK hw.2.2 (hw.2.1 a ⟨by rw [ht]; decide, by rw [ht]; decide⟩) in_X9 tyX9 tyX9_ok nmX9 (ci := 9) rfl (cw_ob9 hw.1 ht) (k := 9) (by decide) hl (fun x h => by rw [tx_X9 9 (by decide)] at h; exact h) (by decide +kernel) (ty := .int) (by decide +kernel) rfl rfl (Nat.le_of_ble_eq_true rfl) pc' hp hdg (fun H1 locs1 hat hoth hsz hS => ?_)
  refine kk H1 locs1 ⟨cw_put hw.1 (by decide) ht hz hoth (show WL T v from hw.1.2.2.1) (fun γ e he => ?_), hw.2.1, hS⟩
  cases he
  show va_at D vwCl (a, .inr (9, [.ref (T 180 a), .ref (T 181 a), .ref (T 182 a), .ref (T 183 a), .ref (T 184 a), .ref (T 185 a), .int (J (v 186 a)), .int (J (v 187 a)), .int (J (v 188 a)), .int (J (upB (v 189) a z a)), .int (J (v 190 a)), .int (J (v 191 a)), .ref (T 192 a), .ref (T 193 a), .ref (T 194 a), .ref (T 195 a), .ref (T 196 a), va_rf (dcd (T 197 a))])) H1
  rw [upB_same]
  exact hat
theorem g_190 (E : CX p s m args meth c own cc nL ret) (hK : KK D cy s) (hw : WK D cy T v A0 H0 H locs) {ix : Nat} (hl : Cond.fieldLink own ix RX9 (TX9 10).2.1 (TX9 10).2.2.1 ∈ gT) {a : Nat} (ht : T 0 a = 9) (z : Int) (hz : v 190 a = z) (pc' : Nat) (hp : pc + 3 = pc') (hdg : decode cc pc = .ok (.getfield ix, 3)) (kk : inR z → W p l e R s m args below meth c H locs cells slots Q (F0 m pc' ls (.int (J z) :: rest))) : W p l e R s m args below meth c H locs cells slots Q (F0 m pc ls (.ref a :: rest)) := by
  subst hz
  exact x_get E hK in_X9 (ci := 9) rfl (cw_ob9 hw.1 ht) (k := 10) (by decide) hl (fun x h => by rw [tx_X9 10 (by decide)] at h; exact h) rfl pc' hp hdg (kk (hw.1.2.2.2 190 a))
theorem p_190 (E : CX p s m args meth c own cc nL ret) (hK : KK D cy s) (hw : WK D cy T v A0 H0 H locs) {ix : Nat} (hl : Cond.fieldLink own ix RX9 (TX9 10).2.1 (TX9 10).2.2.1 ∈ gT) {a : Nat} (ht : T 0 a = 9) {z : Int} (hz : inR z) (pc' : Nat) (hp : pc + 3 = pc') (hdg : decode cc pc = .ok (.putfield ix, 3)) (kk : ∀ (H : Heap) (locs : List Loc), WK D cy T (upV v 190 (upB (v 190) a z)) A0 H0 H locs → W p l e R s m args below meth c H locs cells slots Q (F0 m pc' ls rest)) : W p l e R s m args below meth c H locs cells slots Q (F0 m pc ls (.int (J z) :: .ref a :: rest)) := by
  refine x_put E hK hw.2.2 (hw.2.1 a ⟨by rw [ht]; decide, by rw [ht]; decide⟩) in_X9 tyX9 tyX9_ok nmX9 (ci := 9) rfl (cw_ob9 hw.1 ht) (k := 10) (by decide) hl (fun x h => by rw [tx_X9 10 (by decide)] at h; exact h) (by decide +kernel) (ty := .int) (by decide +kernel) rfl rfl (Nat.le_of_ble_eq_true rfl) pc' hp hdg (fun H1 locs1 hat hoth hsz hS => ?_)
  refine kk H1 locs1 ⟨cw_put hw.1 (by decide) ht hz hoth (show WL T v from hw.1.2.2.1) (fun γ e he => ?_), hw.2.1, hS⟩
  cases he
  show va_at D vwCl (a, .inr (9, [.ref (T 180 a), .ref (T 181 a), .ref (T 182 a), .ref (T 183 a), .ref (T 184 a), .ref (T 185 a), .int (J (v 186 a)), .int (J (v 187 a)), .int (J (v 188 a)), .int (J (v 189 a)), .int (J (upB (v 190) a z a)), .int (J (v 191 a)), .ref (T 192 a), .ref (T 193 a), .ref (T 194 a), .ref (T 195 a), .ref (T 196 a), va_rf (dcd (T 197 a))])) H1
  rw [upB_same]
  exact hat
theorem g_191 (E : CX p s m args meth c own cc nL ret) (hK : KK D cy s) (hw : WK D cy T v A0 H0 H locs) {ix : Nat} (hl : Cond.fieldLink own ix RX9 (TX9 11).2.1 (TX9 11).2.2.1 ∈ gT) {a : Nat} (ht : T 0 a = 9) (z : Int) (hz : v 191 a = z) (pc' : Nat) (hp : pc + 3 = pc') (hdg : decode cc pc = .ok (.getfield ix, 3)) (kk : inR z → W p l e R s m args below meth c H locs cells slots Q (F0 m pc' ls (.int (J z) :: rest))) : W p l e R s m args below meth c H locs cells slots Q (F0 m pc ls (.ref a :: rest)) := by
  subst hz
  exact x_get E hK in_X9 (ci := 9) rfl (cw_ob9 hw.1 ht) (k := 11) (by decide) hl (fun x h => by rw [tx_X9 11 (by decide)] at h; exact h) rfl pc' hp hdg (kk (hw.1.2.2.2 191 a))
theorem p_191 (E : CX p s m args meth c own cc nL ret) (hK : KK D cy s) (hw : WK D cy T v A0 H0 H locs) {ix : Nat} (hl : Cond.fieldLink own ix RX9 (TX9 11).2.1 (TX9 11).2.2.1 ∈ gT) {a : Nat} (ht : T 0 a = 9) {z : Int} (hz : inR z) (pc' : Nat) (hp : pc + 3 = pc') (hdg : decode cc pc = .ok (.putfield ix, 3)) (kk : ∀ (H : Heap) (locs : List Loc), WK D cy T (upV v 191 (upB (v 191) a z)) A0 H0 H locs → W p l e R s m args below meth c H locs cells slots Q (F0 m pc' ls rest)) : W p l e R s m args below meth c H locs cells slots Q (F0 m pc ls (.int (J z) :: .ref a :: rest)) := by
  refine x_put E hK hw.2.2 (hw.2.1 a ⟨by rw [ht]; decide, by rw [ht]; decide⟩) in_X9 tyX9 tyX9_ok nmX9 (ci := 9) rfl (cw_ob9 hw.1 ht) (k := 11) (by decide) hl (fun x h => by rw [tx_X9 11 (by decide)] at h; exact h) (by decide +kernel) (ty := .int) (by decide +kernel) rfl rfl (Nat.le_of_ble_eq_true rfl) pc' hp hdg (fun H1 locs1 hat hoth hsz hS => ?_)
  refine kk H1 locs1 ⟨cw_put hw.1 (by decide) ht hz hoth (show WL T v from hw.1.2.2.1) (fun γ e he => ?_), hw.2.1, hS⟩
  cases he
  show va_at D vwCl (a, .inr (9, [.ref (T 180 a), .ref (T 181 a), .ref (T 182 a), .ref (T 183 a), .ref (T 184 a), .ref (T 185 a), .int (J (v 186 a)), .int (J (v 187 a)), .int (J (v 188 a)), .int (J (v 189 a)), .int (J (v 190 a)), .int (J (upB (v 191) a z a)), .ref (T 192 a), .ref (T 193 a), .ref (T 194 a), .ref (T 195 a), .ref (T 196 a), va_rf (dcd (T 197 a))])) H1
  rw [upB_same]
  exact hat
theorem g_192 (E : CX p s m args meth c own cc nL ret) (hK : KK D cy s) (hw : WK D cy T v A0 H0 H locs) {ix : Nat} (hl : Cond.fieldLink own ix RX9 (TX9 12).2.1 (TX9 12).2.2.1 ∈ gT) {a : Nat} (ht : T 0 a = 9) (pc' : Nat) (hp : pc + 3 = pc') (hdg : decode cc pc = .ok (.getfield ix, 3)) (kk : W p l e R s m args below meth c H locs cells slots Q (F0 m pc' ls (.ref (T 192 a) :: rest))) : W p l e R s m args below meth c H locs cells slots Q (F0 m pc ls (.ref a :: rest)) := x_get E hK in_X9 (ci := 9) rfl (cw_ob9 hw.1 ht) (k := 12) (by decide) hl (fun x h => by rw [tx_X9 12 (by decide)] at h; exact h) rfl pc' hp hdg kk
theorem g_193 (E : CX p s m args meth c own cc nL ret) (hK : KK D cy s) (hw : WK D cy T v A0 H0 H locs) {ix : Nat} (hl : Cond.fieldLink own ix RX9 (TX9 13).2.1 (TX9 13).2.2.1 ∈ gT) {a : Nat} (ht : T 0 a = 9) (pc' : Nat) (hp : pc + 3 = pc') (hdg : decode cc pc = .ok (.getfield ix, 3)) (kk : W p l e R s m args below meth c H locs cells slots Q (F0 m pc' ls (.ref (T 193 a) :: rest))) : W p l e R s m args below meth c H locs cells slots Q (F0 m pc ls (.ref a :: rest)) := x_get E hK in_X9 (ci := 9) rfl (cw_ob9 hw.1 ht) (k := 13) (by decide) hl (fun x h => by rw [tx_X9 13 (by decide)] at h; exact h) rfl pc' hp hdg kk
theorem g_194 (E : CX p s m args meth c own cc nL ret) (hK : KK D cy s) (hw : WK D cy T v A0 H0 H locs) {ix : Nat} (hl : Cond.fieldLink own ix RX9 (TX9 14).2.1 (TX9 14).2.2.1 ∈ gT) {a : Nat} (ht : T 0 a = 9) (pc' : Nat) (hp : pc + 3 = pc') (hdg : decode cc pc = .ok (.getfield ix, 3)) (kk : W p l e R s m args below meth c H locs cells slots Q (F0 m pc' ls (.ref (T 194 a) :: rest))) : W p l e R s m args below meth c H locs cells slots Q (F0 m pc ls (.ref a :: rest)) := x_get E hK in_X9 (ci := 9) rfl (cw_ob9 hw.1 ht) (k := 14) (by decide) hl (fun x h => by rw [tx_X9 14 (by decide)] at h; exact h) rfl pc' hp hdg kk
theorem g_195 (E : CX p s m args meth c own cc nL ret) (hK : KK D cy s) (hw : WK D cy T v A0 H0 H locs) {ix : Nat} (hl : Cond.fieldLink own ix RX9 (TX9 15).2.1 (TX9 15).2.2.1 ∈ gT) {a : Nat} (ht : T 0 a = 9) (pc' : Nat) (hp : pc + 3 = pc') (hdg : decode cc pc = .ok (.getfield ix, 3)) (kk : W p l e R s m args below meth c H locs cells slots Q (F0 m pc' ls (.ref (T 195 a) :: rest))) : W p l e R s m args below meth c H locs cells slots Q (F0 m pc ls (.ref a :: rest)) := x_get E hK in_X9 (ci := 9) rfl (cw_ob9 hw.1 ht) (k := 15) (by decide) hl (fun x h => by rw [tx_X9 15 (by decide)] at h; exact h) rfl pc' hp hdg kk
theorem g_196 (E : CX p s m args meth c own cc nL ret) (hK : KK D cy s) (hw : WK D cy T v A0 H0 H locs) {ix : Nat} (hl : Cond.fieldLink own ix RX9 (TX9 16).2.1 (TX9 16).2.2.1 ∈ gT) {a : Nat} (ht : T 0 a = 9) (pc' : Nat) (hp : pc + 3 = pc') (hdg : decode cc pc = .ok (.getfield ix, 3)) (kk : W p l e R s m args below meth c H locs cells slots Q (F0 m pc' ls (.ref (T 196 a) :: rest))) : W p l e R s m args below meth c H locs cells slots Q (F0 m pc ls (.ref a :: rest)) := x_get E hK in_X9 (ci := 9) rfl (cw_ob9 hw.1 ht) (k := 16) (by decide) hl (fun x h => by rw [tx_X9 16 (by decide)] at h; exact h) rfl pc' hp hdg kk
theorem g_197 (E : CX p s m args meth c own cc nL ret) (hK : KK D cy s) (hw : WK D cy T v A0 H0 H locs) {ix : Nat} (hl : Cond.fieldLink own ix RX9 (TX9 17).2.1 (TX9 17).2.2.1 ∈ gT) {a : Nat} (ht : T 0 a = 9) (pc' : Nat) (hp : pc + 3 = pc') (hdg : decode cc pc = .ok (.getfield ix, 3)) (kk : W p l e R s m args below meth c H locs cells slots Q (F0 m pc' ls (va_rf (dcd (T 197 a)) :: rest))) : W p l e R s m args below meth c H locs cells slots Q (F0 m pc ls (.ref a :: rest)) := x_get E hK in_X9 (ci := 9) rfl (cw_ob9 hw.1 ht) (k := 17) (by decide) hl (fun x h => by rw [tx_X9 17 (by decide)] at h; exact h) rfl pc' hp hdg kk
theorem md_w : Cond.sameField "java/util/ArrayList" "java/util/AbstractList" "modCount" "I" ∈ gT := (gT_c1 (List.mem_of_getElem? (i := 51) (by decide +kernel)) (by decide +kernel))
theorem md_same {y : State} {ar : Array Value} (h : ∀ w ∈ gT, w.before ar y = true) {x : ClassId × Class × Nat × Field} (hx : y.fieldFound? (TJx4a65c 0).1 (TJx4a65c 0).2.1 (TJx4a65c 0).2.2.1 = some x) : y.fieldFound? RJx4a65c (TJx4a65c 0).2.1 (TJx4a65c 0).2.2.1 = some x := u_same (h _ md_w) x hx
theorem g_200 (E : CX p s m args meth c own cc nL ret) (hK : KK D cy s) (hw : WK D cy T v A0 H0 H locs) {ix : Nat} (hl : Cond.fieldLink own ix RJx4a65c (TJx4a65c 0).2.1 (TJx4a65c 0).2.2.1 ∈ gT) {a : Nat} (ht : T 0 a = 10) (z : Int) (hz : v 200 a = z) (pc' : Nat) (hp : pc + 3 = pc') (hdg : decode cc pc = .ok (.getfield ix, 3)) (kk : inR z → W p l e R s m args below meth c H locs cells slots Q (F0 m pc' ls (.int (J z) :: rest))) : W p l e R s m args below meth c H locs cells slots Q (F0 m pc ls (.ref a :: rest)) := by
  subst hz
  exact x_get E hK in_Jx4a65c (ci := 0) rfl (cw_ob10 hw.1 ht) (k := 0) (by decide) hl (fun x h => md_same E.2.2.2.2.1 h) rfl pc' hp hdg (kk (hw.1.2.2.2 200 a))
theorem p_200 (E : CX p s m args meth c own cc nL ret) (hK : KK D cy s) (hw : WK D cy T v A0 H0 H locs) {ix : Nat} (hl : Cond.fieldLink own ix RJx4a65c (TJx4a65c 0).2.1 (TJx4a65c 0).2.2.1 ∈ gT) {a : Nat} (ht : T 0 a = 10) {z : Int} (hz : inR z) (pc' : Nat) (hp : pc + 3 = pc') (hdg : decode cc pc = .ok (.putfield ix, 3)) (kk : ∀ (H : Heap) (locs : List Loc), WK D cy T (upV v 200 (upB (v 200) a z)) A0 H0 H locs → W p l e R s m args below meth c H locs cells slots Q (F0 m pc' ls rest)) : W p l e R s m args below meth c H locs cells slots Q (F0 m pc ls (.int (J z) :: .ref a :: rest)) := by
  refine x_put E hK hw.2.2 (hw.2.1 a ⟨by rw [ht]; decide, by rw [ht]; decide⟩) in_Jx4a65c tyJx4a65c tyJx4a65c_ok nmJx4a65c (ci := 0) rfl (cw_ob10 hw.1 ht) (k := 0) (by decide) hl (fun x h => md_same E.2.2.2.2.1 h) (by decide +kernel) (ty := .int) (by decide +kernel) rfl rfl (Nat.le_of_ble_eq_true rfl) pc' hp hdg (fun H1 locs1 hat hoth hsz hS => ?_)
  refine kk H1 locs1 ⟨cw_put hw.1 (by decide) ht hz hoth (show WL T v from hw.1.2.2.1) (fun γ e he => ?_), hw.2.1, hS⟩
  cases he
  show va_at D vwCl (a, .inr (0, [.int (J (upB (v 200) a z a)), .ref (T 201 a), .int (J (v 202 a))])) H1
  rw [upB_same]
  exact hat
theorem g_201 (E : CX p s m args meth c own cc nL ret) (hK : KK D cy s) (hw : WK D cy T v A0 H0 H locs) {ix : Nat} (hl : Cond.fieldLink own ix RJx4a65c (TJx4a65c 1).2.1 (TJx4a65c 1).2.2.1 ∈ gT) {a : Nat} (ht : T 0 a = 10) (pc' : Nat) (hp : pc + 3 = pc') (hdg : decode cc pc = .ok (.getfield ix, 3)) (kk : W p l e R s m args below meth c H locs cells slots Q (F0 m pc' ls (.ref (T 201 a) :: rest))) : W p l e R s m args below meth c H locs cells slots Q (F0 m pc ls (.ref a :: rest)) := x_get E hK in_Jx4a65c (ci := 0) rfl (cw_ob10 hw.1 ht) (k := 1) (by decide) hl (fun x h => h) rfl pc' hp hdg kk
theorem g_202 (E : CX p s m args meth c own cc nL ret) (hK : KK D cy s) (hw : WK D cy T v A0 H0 H locs) {ix : Nat} (hl : Cond.fieldLink own ix RJx4a65c (TJx4a65c 2).2.1 (TJx4a65c 2).2.2.1 ∈ gT) {a : Nat} (ht : T 0 a = 10) (z : Int) (hz : v 202 a = z) (pc' : Nat) (hp : pc + 3 = pc') (hdg : decode cc pc = .ok (.getfield ix, 3)) (kk : inR z → W p l e R s m args below meth c H locs cells slots Q (F0 m pc' ls (.int (J z) :: rest))) : W p l e R s m args below meth c H locs cells slots Q (F0 m pc ls (.ref a :: rest)) := by
  subst hz
  exact x_get E hK in_Jx4a65c (ci := 0) rfl (cw_ob10 hw.1 ht) (k := 2) (by decide) hl (fun x h => h) rfl pc' hp hdg (kk (hw.1.2.2.2 202 a))
theorem a_ld20 (E : CX p s m args meth c own cc nL ret) (hK : KK D cy s) (hw : WK D cy T v A0 H0 H locs) {a : Nat} (ht : T 0 a = 20) {i : Int} (hi : 0 ≤ i ∧ i < (T 1 a : Int)) (pc' : Nat) (hp : pc + 1 = pc') (hdg : decode cc pc = .ok (.iaload, 1)) (kk : ∀ z : Int, z = v 300 (pr a i.toNat) → inR z → W p l e R s m args below meth c H locs cells slots Q (F0 m pc' ls (.int (J z) :: rest))) : W p l e R s m args below meth c H locs cells slots Q (F0 m pc ls (.int (J i) :: .ref a :: rest)) := by
  subst hp
  have k2 := kk _ rfl (hw.1.2.2.2 _ _)
  refine va_iald (D := D) E.1 E.2.1 hK (one_P (cw_ct hw.1 ht (by decide) _ rfl)) 0 0 rfl rfl (J_in hi.1 hi.2 (hw.1.2.1.1 a)) hdg ?_
  rw [J_clamp hi.1 (by have := hw.1.2.1.1 a; omega)]
  exact k2
theorem a_st20 (E : CX p s m args meth c own cc nL ret) (hK : KK D cy s) (hw : WK D cy T v A0 H0 H locs) {a : Nat} (ht : T 0 a = 20) {i z : Int} (hz : inR z) (hi : 0 ≤ i ∧ i < (T 1 a : Int)) (pc' : Nat) (hp : pc + 1 = pc') (hdg : decode cc pc = .ok (.iastore, 1)) (kk : ∀ (H : Heap) (locs : List Loc), WK D cy T (upV v 300 (upB (v 300) (pr a i.toNat) z)) A0 H0 H locs → W p l e R s m args below meth c H locs cells slots Q (F0 m pc' ls rest)) : W p l e R s m args below meth c H locs cells slots Q (F0 m pc ls (.int (J z) :: .int (J i) :: .ref a :: rest)) := by
  subst hp
  have hat := cw_ct hw.1 ht (by decide) _ rfl
  have hin : vp_in (J i) (T 1 a) := J_in hi.1 hi.2 (hw.1.2.1.1 a)
  have hcl : (J i).toNatClampNeg = i.toNat := J_clamp hi.1 (by have := hw.1.2.1.1 a; omega)
  refine W.iast E.1 E.2.1 hat ((hK.2 0 _ rfl).1 (T 1 a) (fun j => .int (rw_ v 20 a j))) (fun q => by cases q) (by show ¬ (J i < 0 ∨ (arrV _ _ _).slots.size ≤ _); rw [arrV_size]; exact hin) rfl rfl hdg fun H1 e1 e2 e3 => ?_
  refine kk H1 _ ⟨cw_arr (i := i.toNat) (z := z) hw.1 ht hz e3 (fun e he => ?_), hw.2.1, hw.2.2.put e2 e3 (hw.2.1 a ⟨by rw [ht]; decide, by rw [ht]; decide⟩)⟩
  cases he
  show H1[a]? = some (vp_cell _ _)
  rw [e1]
  show some ((arrV _ _ _).setSlot _ _) = _
  rw [vp_cell_i, arrV_store, hcl]
  congr 2
  funext q
  show _ = Value.int (J (upV v 300 (upB (v 300) (pr a i.toNat) z) 300 (pr a q)))
  have e9 : upV v 300 (upB (v 300) (pr a i.toNat) z) 300 = upB (v 300) (pr a i.toNat) z := if_pos rfl
  rw [e9]
  by_cases hq : q = i.toNat
  · subst hq
    rw [upB_same]
    simp [updV]
    try rfl
  · rw [upB_ne (fun h => hq (pr_inj h).2)]
    simp [updV, hq, rw_]
theorem a_ln20 (E : CX p s m args meth c own cc nL ret) (hK : KK D cy s) (hw : WK D cy T v A0 H0 H locs) {a : Nat} (ht : T 0 a = 20) (pc' : Nat) (hp : pc + 1 = pc') (hdg : decode cc pc = .ok (.arraylength, 1)) (kk : inR (T 1 a : Int) → W p l e R s m args below meth c H locs cells slots Q (F0 m pc' ls (.int (J (T 1 a : Int)) :: rest))) : W p l e R s m args below meth c H locs cells slots Q (F0 m pc ls (.ref a :: rest)) := by
  subst hp
  obtain ⟨γ, h⟩ := cw_at hw.1 ht
  exact va_alen (D := D) E.1 E.2.1 hK (one_P (h _ rfl)) 0 0 rfl rfl (J_ofNat (T 1 a)).symm hdg (kk ⟨by omega, by have := hw.1.2.1.1 a; omega⟩)
theorem a_ld21 (E : CX p s m args meth c own cc nL ret) (hK : KK D cy s) (hw : WK D cy T v A0 H0 H locs) {a : Nat} (ht : T 0 a = 21) {i : Int} (hi : 0 ≤ i ∧ i < (T 1 a : Int)) (pc' : Nat) (hp : pc + 1 = pc') (hdg : decode cc pc = .ok (.baload, 1)) (kk : ∀ z : Int, z = v 301 (pr a i.toNat) → inR z → W p l e R s m args below meth c H locs cells slots Q (F0 m pc' ls (.int (J z) :: rest))) : W p l e R s m args below meth c H locs cells slots Q (F0 m pc ls (.int (J i) :: .ref a :: rest)) := by
  subst hp
  have k2 := kk _ rfl (hw.1.2.2.2 _ _)
  refine va_zald (D := D) E.1 E.2.1 hK (one_P (cw_ct hw.1 ht (by decide) _ rfl)) 0 1 rfl rfl (J_in hi.1 hi.2 (hw.1.2.1.1 a)) hdg ?_
  rw [J_clamp hi.1 (by have := hw.1.2.1.1 a; omega)]
  exact k2
theorem a_st21 (E : CX p s m args meth c own cc nL ret) (hK : KK D cy s) (hw : WK D cy T v A0 H0 H locs) {a : Nat} (ht : T 0 a = 21) {i z : Int} {z2 : Int} (hz2 : J z2 = vp_nar .boolean (J z)) (hz : inR z2) (hi : 0 ≤ i ∧ i < (T 1 a : Int)) (pc' : Nat) (hp : pc + 1 = pc') (hdg : decode cc pc = .ok (.bastore, 1)) (kk : ∀ (H : Heap) (locs : List Loc), WK D cy T (upV v 301 (upB (v 301) (pr a i.toNat) z2)) A0 H0 H locs → W p l e R s m args below meth c H locs cells slots Q (F0 m pc' ls rest)) : W p l e R s m args below meth c H locs cells slots Q (F0 m pc ls (.int (J z) :: .int (J i) :: .ref a :: rest)) := by
  subst hp
  have hat := cw_ct hw.1 ht (by decide) _ rfl
  have hin : vp_in (J i) (T 1 a) := J_in hi.1 hi.2 (hw.1.2.1.1 a)
  have hcl : (J i).toNatClampNeg = i.toNat := J_clamp hi.1 (by have := hw.1.2.1.1 a; omega)
  refine W.zast E.1 E.2.1 hat ((hK.2 1 _ rfl).1 (T 1 a) (fun j => .int (rw_ v 21 a j))) (fun q => by cases q) (by show ¬ (J i < 0 ∨ (arrV _ _ _).slots.size ≤ _); rw [arrV_size]; exact hin) rfl rfl hdg fun H1 e1 e2 e3 => ?_
  refine kk H1 _ ⟨cw_arr (i := i.toNat) (z := z2) hw.1 ht hz e3 (fun e he => ?_), hw.2.1, hw.2.2.put e2 e3 (hw.2.1 a ⟨by rw [ht]; decide, by rw [ht]; decide⟩)⟩
  cases he
  show H1[a]? = some (vp_cell _ _)
  rw [e1]
  show some ((arrV _ _ _).setSlot _ _) = _
  rw [vp_cell_i, arrV_store, hcl]
  congr 2
  funext q
  show _ = Value.int (J (upV v 301 (upB (v 301) (pr a i.toNat) z2) 301 (pr a q)))
  have e9 : upV v 301 (upB (v 301) (pr a i.toNat) z2) 301 = upB (v 301) (pr a i.toNat) z2 := if_pos rfl
  rw [e9]
  by_cases hq : q = i.toNat
  · subst hq
    rw [upB_same, hz2]
    simp [updV, vp_nar]
    try rfl
  · rw [upB_ne (fun h => hq (pr_inj h).2)]
    simp [updV, hq, rw_]
theorem a_ln21 (E : CX p s m args meth c own cc nL ret) (hK : KK D cy s) (hw : WK D cy T v A0 H0 H locs) {a : Nat} (ht : T 0 a = 21) (pc' : Nat) (hp : pc + 1 = pc') (hdg : decode cc pc = .ok (.arraylength, 1)) (kk : inR (T 1 a : Int) → W p l e R s m args below meth c H locs cells slots Q (F0 m pc' ls (.int (J (T 1 a : Int)) :: rest))) : W p l e R s m args below meth c H locs cells slots Q (F0 m pc ls (.ref a :: rest)) := by
  subst hp
  obtain ⟨γ, h⟩ := cw_at hw.1 ht
  exact va_alen (D := D) E.1 E.2.1 hK (one_P (h _ rfl)) 0 1 rfl rfl (J_ofNat (T 1 a)).symm hdg (kk ⟨by omega, by have := hw.1.2.1.1 a; omega⟩)
theorem a_ld22 (E : CX p s m args meth c own cc nL ret) (hK : KK D cy s) (hw : WK D cy T v A0 H0 H locs) {a : Nat} (ht : T 0 a = 22) {i : Int} (hi : 0 ≤ i ∧ i < (T 1 a : Int)) (pc' : Nat) (hp : pc + 1 = pc') (hdg : decode cc pc = .ok (.baload, 1)) (kk : ∀ z : Int, z = v 302 (pr a i.toNat) → inR z → W p l e R s m args below meth c H locs cells slots Q (F0 m pc' ls (.int (J z) :: rest))) : W p l e R s m args below meth c H locs cells slots Q (F0 m pc ls (.int (J i) :: .ref a :: rest)) := by
  subst hp
  have k2 := kk _ rfl (hw.1.2.2.2 _ _)
  refine va_bald (D := D) E.1 E.2.1 hK (one_P (cw_ct hw.1 ht (by decide) _ rfl)) 0 2 rfl rfl (J_in hi.1 hi.2 (hw.1.2.1.1 a)) hdg ?_
  rw [J_clamp hi.1 (by have := hw.1.2.1.1 a; omega)]
  exact k2
theorem a_st22 (E : CX p s m args meth c own cc nL ret) (hK : KK D cy s) (hw : WK D cy T v A0 H0 H locs) {a : Nat} (ht : T 0 a = 22) {i z : Int} {z2 : Int} (hz2 : J z2 = vp_nar .byte (J z)) (hz : inR z2) (hi : 0 ≤ i ∧ i < (T 1 a : Int)) (pc' : Nat) (hp : pc + 1 = pc') (hdg : decode cc pc = .ok (.bastore, 1)) (kk : ∀ (H : Heap) (locs : List Loc), WK D cy T (upV v 302 (upB (v 302) (pr a i.toNat) z2)) A0 H0 H locs → W p l e R s m args below meth c H locs cells slots Q (F0 m pc' ls rest)) : W p l e R s m args below meth c H locs cells slots Q (F0 m pc ls (.int (J z) :: .int (J i) :: .ref a :: rest)) := by
  subst hp
  have hat := cw_ct hw.1 ht (by decide) _ rfl
  have hin : vp_in (J i) (T 1 a) := J_in hi.1 hi.2 (hw.1.2.1.1 a)
  have hcl : (J i).toNatClampNeg = i.toNat := J_clamp hi.1 (by have := hw.1.2.1.1 a; omega)
  refine W.bast E.1 E.2.1 hat ((hK.2 2 _ rfl).1 (T 1 a) (fun j => .int (rw_ v 22 a j))) (fun q => by cases q) (by show ¬ (J i < 0 ∨ (arrV _ _ _).slots.size ≤ _); rw [arrV_size]; exact hin) rfl rfl hdg fun H1 e1 e2 e3 => ?_
  refine kk H1 _ ⟨cw_arr (i := i.toNat) (z := z2) hw.1 ht hz e3 (fun e he => ?_), hw.2.1, hw.2.2.put e2 e3 (hw.2.1 a ⟨by rw [ht]; decide, by rw [ht]; decide⟩)⟩
  cases he
  show H1[a]? = some (vp_cell _ _)
  rw [e1]
  show some ((arrV _ _ _).setSlot _ _) = _
  rw [vp_cell_i, arrV_store, hcl]
  congr 2
  funext q
  show _ = Value.int (J (upV v 302 (upB (v 302) (pr a i.toNat) z2) 302 (pr a q)))
  have e9 : upV v 302 (upB (v 302) (pr a i.toNat) z2) 302 = upB (v 302) (pr a i.toNat) z2 := if_pos rfl
  rw [e9]
  by_cases hq : q = i.toNat
  · subst hq
    rw [upB_same, hz2]
    simp [updV, vp_nar]
    try rfl
  · rw [upB_ne (fun h => hq (pr_inj h).2)]
    simp [updV, hq, rw_]
theorem a_ln22 (E : CX p s m args meth c own cc nL ret) (hK : KK D cy s) (hw : WK D cy T v A0 H0 H locs) {a : Nat} (ht : T 0 a = 22) (pc' : Nat) (hp : pc + 1 = pc') (hdg : decode cc pc = .ok (.arraylength, 1)) (kk : inR (T 1 a : Int) → W p l e R s m args below meth c H locs cells slots Q (F0 m pc' ls (.int (J (T 1 a : Int)) :: rest))) : W p l e R s m args below meth c H locs cells slots Q (F0 m pc ls (.ref a :: rest)) := by
  subst hp
  obtain ⟨γ, h⟩ := cw_at hw.1 ht
  exact va_alen (D := D) E.1 E.2.1 hK (one_P (h _ rfl)) 0 2 rfl rfl (J_ofNat (T 1 a)).symm hdg (kk ⟨by omega, by have := hw.1.2.1.1 a; omega⟩)
theorem a_ld23 (E : CX p s m args meth c own cc nL ret) (hK : KK D cy s) (hw : WK D cy T v A0 H0 H locs) {a : Nat} (ht : T 0 a = 23) {i : Int} (hi : 0 ≤ i ∧ i < (T 1 a : Int)) (pc' : Nat) (hp : pc + 1 = pc') (hdg : decode cc pc = .ok (.caload, 1)) (kk : ∀ z : Int, z = v 303 (pr a i.toNat) → inR z → W p l e R s m args below meth c H locs cells slots Q (F0 m pc' ls (.int (J z) :: rest))) : W p l e R s m args below meth c H locs cells slots Q (F0 m pc ls (.int (J i) :: .ref a :: rest)) := by
  subst hp
  have k2 := kk _ rfl (hw.1.2.2.2 _ _)
  refine va_cald (D := D) E.1 E.2.1 hK (one_P (cw_ct hw.1 ht (by decide) _ rfl)) 0 3 rfl rfl (J_in hi.1 hi.2 (hw.1.2.1.1 a)) hdg ?_
  rw [J_clamp hi.1 (by have := hw.1.2.1.1 a; omega)]
  exact k2
theorem a_st23 (E : CX p s m args meth c own cc nL ret) (hK : KK D cy s) (hw : WK D cy T v A0 H0 H locs) {a : Nat} (ht : T 0 a = 23) {i z : Int} {z2 : Int} (hz2 : J z2 = vp_nar .char (J z)) (hz : inR z2) (hi : 0 ≤ i ∧ i < (T 1 a : Int)) (pc' : Nat) (hp : pc + 1 = pc') (hdg : decode cc pc = .ok (.castore, 1)) (kk : ∀ (H : Heap) (locs : List Loc), WK D cy T (upV v 303 (upB (v 303) (pr a i.toNat) z2)) A0 H0 H locs → W p l e R s m args below meth c H locs cells slots Q (F0 m pc' ls rest)) : W p l e R s m args below meth c H locs cells slots Q (F0 m pc ls (.int (J z) :: .int (J i) :: .ref a :: rest)) := by
  subst hp
  have hat := cw_ct hw.1 ht (by decide) _ rfl
  have hin : vp_in (J i) (T 1 a) := J_in hi.1 hi.2 (hw.1.2.1.1 a)
  have hcl : (J i).toNatClampNeg = i.toNat := J_clamp hi.1 (by have := hw.1.2.1.1 a; omega)
  refine W.cast E.1 E.2.1 hat ((hK.2 3 _ rfl).1 (T 1 a) (fun j => .int (rw_ v 23 a j))) (fun q => by cases q) (by show ¬ (J i < 0 ∨ (arrV _ _ _).slots.size ≤ _); rw [arrV_size]; exact hin) rfl rfl hdg fun H1 e1 e2 e3 => ?_
  refine kk H1 _ ⟨cw_arr (i := i.toNat) (z := z2) hw.1 ht hz e3 (fun e he => ?_), hw.2.1, hw.2.2.put e2 e3 (hw.2.1 a ⟨by rw [ht]; decide, by rw [ht]; decide⟩)⟩
  cases he
  show H1[a]? = some (vp_cell _ _)
  rw [e1]
  show some ((arrV _ _ _).setSlot _ _) = _
  rw [vp_cell_i, arrV_store, hcl]
  congr 2
  funext q
  show _ = Value.int (J (upV v 303 (upB (v 303) (pr a i.toNat) z2) 303 (pr a q)))
  have e9 : upV v 303 (upB (v 303) (pr a i.toNat) z2) 303 = upB (v 303) (pr a i.toNat) z2 := if_pos rfl
  rw [e9]
  by_cases hq : q = i.toNat
  · subst hq
    rw [upB_same, hz2]
    simp [updV, vp_nar]
    try rfl
  · rw [upB_ne (fun h => hq (pr_inj h).2)]
    simp [updV, hq, rw_]
theorem a_ln23 (E : CX p s m args meth c own cc nL ret) (hK : KK D cy s) (hw : WK D cy T v A0 H0 H locs) {a : Nat} (ht : T 0 a = 23) (pc' : Nat) (hp : pc + 1 = pc') (hdg : decode cc pc = .ok (.arraylength, 1)) (kk : inR (T 1 a : Int) → W p l e R s m args below meth c H locs cells slots Q (F0 m pc' ls (.int (J (T 1 a : Int)) :: rest))) : W p l e R s m args below meth c H locs cells slots Q (F0 m pc ls (.ref a :: rest)) := by
  subst hp
  obtain ⟨γ, h⟩ := cw_at hw.1 ht
  exact va_alen (D := D) E.1 E.2.1 hK (one_P (h _ rfl)) 0 3 rfl rfl (J_ofNat (T 1 a)).symm hdg (kk ⟨by omega, by have := hw.1.2.1.1 a; omega⟩)
theorem a_ln24 (E : CX p s m args meth c own cc nL ret) (hK : KK D cy s) (hw : WK D cy T v A0 H0 H locs) {a : Nat} (ht : T 0 a = 24) (pc' : Nat) (hp : pc + 1 = pc') (hdg : decode cc pc = .ok (.arraylength, 1)) (kk : inR (T 1 a : Int) → W p l e R s m args below meth c H locs cells slots Q (F0 m pc' ls (.int (J (T 1 a : Int)) :: rest))) : W p l e R s m args below meth c H locs cells slots Q (F0 m pc ls (.ref a :: rest)) := by
  subst hp
  obtain ⟨γ, h⟩ := cw_at hw.1 ht
  exact va_alen (D := D) E.1 E.2.1 hK (one_P (h _ rfl)) 0 4 rfl rfl (J_ofNat (T 1 a)).symm hdg (kk ⟨by omega, by have := hw.1.2.1.1 a; omega⟩)
theorem a_ld24 (E : CX p s m args meth c own cc nL ret) (hK : KK D cy s) (hw : WK D cy T v A0 H0 H locs) {a : Nat} (ht : T 0 a = 24) {i : Int} (hi : 0 ≤ i ∧ i < (T 1 a : Int)) {x : Nat} (hx : dcd (T (1000 + i.toNat) a) = some x) (pc' : Nat) (hp : pc + 1 = pc') (hdg : decode cc pc = .ok (.aaload, 1)) (kk : W p l e R s m args below meth c H locs cells slots Q (F0 m pc' ls (.ref x :: rest))) : W p l e R s m args below meth c H locs cells slots Q (F0 m pc ls (.int (J i) :: .ref a :: rest)) := by
  subst hp
  obtain ⟨γ, h⟩ := cw_at hw.1 ht
  refine va_aldq (D := D) E.1 E.2.1 hK (one_P (h _ rfl)) 0 4 rfl rfl (J_in hi.1 hi.2 (hw.1.2.1.1 a)) hdg ?_
  rw [J_clamp hi.1 (by have := hw.1.2.1.1 a; omega)]
  show W p l e R s m args below meth c H locs cells slots Q (F0 m (pc + 1) ls (va_rf (dcd (T (1000 + i.toNat) a)) :: rest))
  rw [hx]
  exact kk
theorem a_ln26 (E : CX p s m args meth c own cc nL ret) (hK : KK D cy s) (hw : WK D cy T v A0 H0 H locs) {a : Nat} (ht : T 0 a = 26) (pc' : Nat) (hp : pc + 1 = pc') (hdg : decode cc pc = .ok (.arraylength, 1)) (kk : inR (T 1 a : Int) → W p l e R s m args below meth c H locs cells slots Q (F0 m pc' ls (.int (J (T 1 a : Int)) :: rest))) : W p l e R s m args below meth c H locs cells slots Q (F0 m pc ls (.ref a :: rest)) := by
  subst hp
  obtain ⟨γ, h⟩ := cw_xt hw.1 ht
  obtain ⟨cell, h1, h2, h3, h4⟩ := h _ rfl
  have h0 := wt26 hw.1.2.1 ht
  have k2 := kk ⟨by omega, by omega⟩
  have e0 : J ((T 1 a : Nat) : Int) = J 0 := by rw [h0]; rfl
  rw [e0] at k2
  refine W.alen (ty := .object "java/lang/Object") (n := J 0) E.1 E.2.1 h1 ?_ (by rw [h4, J_0]) rfl rfl hdg k2
  obtain ⟨-, q⟩ := (hK.2 4 (cy 4, .object "java/lang/Object") rfl).1 0 (fun _ => .null)
  exact ⟨fun k e => (by rw [e] at h3; cases h3), by rw [h2]; exact q⟩
theorem cw_eq {v1 v2 : Nat → Nat → Int} (hw : WK D cy T v1 A0 H0 H locs) (h : v1 = v2) : WK D cy T v2 A0 H0 H locs := h ▸ hw
end CRows
