def gC_ (y : Nat → Int) (a : Nat) : Int → Int := fun i => y (pr a i.toNat)
def Ro_ (y y2 : Nat → Int) (c : Nat) : Prop := ∀ b, b ≠ c → ∀ i, y2 (pr b i) = y (pr b i)
theorem Ro_rf {y : Nat → Int} {c : Nat} : Ro_ y y c := fun _ _ _ => rfl
theorem Ro_tr {y y2 y3 : Nat → Int} {c : Nat} (h : Ro_ y y2 c) (h2 : Ro_ y2 y3 c) : Ro_ y y3 c := fun b hb i => (h2 b hb i).trans (h b hb i)
theorem Ro_up {y : Nat → Int} {c i : Nat} {z : Int} : Ro_ y (upB y (pr c i) z) c := fun b hb j => upB_ne (fun e => hb (pr_inj e).1)
theorem gC_up {y : Nat → Int} {a i : Nat} {z : Int} {b : Nat} (h : b ≠ a) (j : Int) : gC_ (upB y (pr a i) z) b j = gC_ y b j := upB_ne (fun e => h (pr_inj e).1)
theorem gC_ui {y : Nat → Int} {a : Nat} {i j z : Int} (h0 : 0 ≤ i) (h1 : 0 ≤ j) (h : j ≠ i) : gC_ (upB y (pr a i.toNat) z) a j = gC_ y a j := upB_ne (fun e => by have := (pr_inj e).2; omega)
theorem gC_us {y : Nat → Int} {a : Nat} {i z : Int} : gC_ (upB y (pr a i.toNat) z) a i = z := upB_same _ _ _
/-! rows of some fields alone are written: T 3 tells a row's owner and field -/
def Kd_ (T : Nat → Nat → Nat) (ks : List Nat) (y y2 : Nat → Int) : Prop := ∀ b, T 3 b % 300 ∉ ks → ∀ i, y2 (pr b i) = y (pr b i)
theorem Kd_rf {T : Nat → Nat → Nat} {ks : List Nat} {y : Nat → Int} : Kd_ T ks y y := fun _ _ _ => rfl
theorem Kd_tr {T : Nat → Nat → Nat} {ks : List Nat} {y y2 y3 : Nat → Int} (h : Kd_ T ks y y2) (h2 : Kd_ T ks y2 y3) : Kd_ T ks y y3 := fun b hb i => (h2 b hb i).trans (h b hb i)
theorem Kd_mono {T : Nat → Nat → Nat} {ks ks2 : List Nat} {y y2 : Nat → Int} (h : Kd_ T ks y y2) (hs : ∀ k ∈ ks, k ∈ ks2) : Kd_ T ks2 y y2 := fun b hb i => h b (fun q => hb (hs _ q)) i
theorem Kd_up {T : Nat → Nat → Nat} {ks : List Nat} {y : Nat → Int} {a i k : Nat} {z : Int} (hk : T 3 a % 300 = k) (hin : k ∈ ks) : Kd_ T ks y (upB y (pr a i) z) := fun b hb j => upB_ne (fun e => hb (by rw [(pr_inj e).1, hk]; exact hin))
theorem Kd_ro {T : Nat → Nat → Nat} {ks : List Nat} {y y2 : Nat → Int} {a k : Nat} (h : Ro_ y y2 a) (hk : T 3 a % 300 = k) (hin : k ∈ ks) : Kd_ T ks y y2 := fun b hb j => h b (fun e => hb (by rw [e, hk]; exact hin)) j
theorem wok {T : Nat → Nat → Nat} {a o k : Nat} (h : T 3 a = 300 * o + k) (hk : k < 300) : T 3 a % 300 = k := by omega
theorem Kd_at {T : Nat → Nat → Nat} {ks : List Nat} {y y2 : Nat → Int} {a k : Nat} (h : Kd_ T ks y y2) (hk : T 3 a % 300 = k) (hn : k ∉ ks) : gC_ y2 a = gC_ y a := funext fun i => h a (by rw [hk]; exact hn) i.toNat
/-- an implication that arithmetic does not see -/
def Im_ (P Q : Prop) : Prop := P → Q
theorem im_ {P Q : Prop} (h : P → Q) : Im_ P Q := h
/-! a piece of a row as a list -/
def ls_ (g : Int → Int) (lo : Int) : Nat → List Int
  | 0 => []
  | k + 1 => ls_ g lo k ++ [g (lo + (k : Int))]
theorem ls_cg {g g2 : Int → Int} {lo : Int} : ∀ {k : Nat}, (∀ i : Nat, i < k → g2 (lo + (i : Int)) = g (lo + (i : Int))) → ls_ g2 lo k = ls_ g lo k
  | 0, _ => rfl
  | k + 1, h => by rw [ls_, ls_, h k (by omega), ls_cg (fun i hi => h i (by omega))]
def lL_ (g : Int → Int) (lo hi : Int) : List Int := ls_ g lo (hi - lo).toNat
theorem lL_0 {g : Int → Int} {lo hi : Int} (h : lo = hi) : lL_ g lo hi = [] := by
  unfold lL_
  rw [show (hi - lo).toNat = 0 by omega]
  rfl
theorem lL_nx {g : Int → Int} {lo hi : Int} (h : lo ≤ hi) : lL_ g lo (hi + 1) = lL_ g lo hi ++ [g hi] := by
  unfold lL_
  rw [show (hi + 1 - lo).toNat = (hi - lo).toNat + 1 by omega, ls_, show lo + (((hi - lo).toNat : Nat) : Int) = hi by omega]
theorem lL_cg {g g2 : Int → Int} {lo hi : Int} (h : ∀ i, lo ≤ i → i < hi → g2 i = g i) : lL_ g2 lo hi = lL_ g lo hi := ls_cg (fun i q => h _ (by omega) (by omega))
theorem ls_len {g : Int → Int} {lo : Int} : ∀ k : Nat, (ls_ g lo k).length = k
  | 0 => rfl
  | k + 1 => by rw [ls_, List.length_append, ls_len k]; rfl
theorem lL_len {g : Int → Int} {lo hi : Int} : (lL_ g lo hi).length = (hi - lo).toNat := ls_len _
theorem lL_ne {g : Int → Int} {lo hi : Int} (h : lo < hi) : lL_ g lo hi ≠ [] := fun e => by
  have q := lL_len (g := g) (lo := lo) (hi := hi)
  rw [e] at q
  have q : 0 = (hi - lo).toNat := q
  omega
theorem lL_ap {g : Int → Int} {lo mi : Int} (h1 : lo ≤ mi) : ∀ k : Nat, lL_ g lo (mi + (k : Int)) = lL_ g lo mi ++ lL_ g mi (mi + (k : Int))
  | 0 => by rw [lL_0 (lo := mi) (by omega), List.append_nil, show mi + ((0 : Nat) : Int) = mi by omega]
  | k + 1 => by
    rw [show mi + ((k + 1 : Nat) : Int) = mi + (k : Int) + 1 by omega, lL_nx (by omega), lL_nx (by omega), lL_ap h1 k, List.append_assoc]
theorem lL_app {g : Int → Int} {lo mi hi : Int} (h1 : lo ≤ mi) (h2 : mi ≤ hi) : lL_ g lo hi = lL_ g lo mi ++ lL_ g mi hi := by
  have q := lL_ap (g := g) h1 (hi - mi).toNat
  rw [show mi + (((hi - mi).toNat : Nat) : Int) = hi by omega] at q
  exact q
theorem lL_em {y : Nat → Int} {a : Nat} {b c z : Int} (h0 : 0 ≤ b) (h : b ≤ c) : lL_ (gC_ (upB y (pr a c.toNat) z) a) b (c + 1) = lL_ (gC_ y a) b c ++ [z] := by
  rw [lL_nx h, gC_us, lL_cg (fun i h1 h2 => gC_ui (by omega) (by omega) (by omega))]
/-- another row is as it was, and this one below b -/
def Rb_ (y y2 : Nat → Int) (c : Nat) (b : Int) : Prop := Ro_ y y2 c ∧ ∀ i, 0 ≤ i → i < b → gC_ y2 c i = gC_ y c i
theorem Rb_rf {y : Nat → Int} {c : Nat} {b : Int} : Rb_ y y c b := ⟨Ro_rf, fun _ _ _ => rfl⟩
theorem Rb_tr {y y2 y3 : Nat → Int} {c : Nat} {b : Int} (h : Rb_ y y2 c b) (h2 : Rb_ y2 y3 c b) : Rb_ y y3 c b := ⟨Ro_tr h.1 h2.1, fun i h3 h4 => (h2.2 i h3 h4).trans (h.2 i h3 h4)⟩
theorem Rb_up {y : Nat → Int} {c : Nat} {i b z : Int} (h0 : 0 ≤ b) (h : b ≤ i) : Rb_ y (upB y (pr c i.toNat) z) c b := ⟨Ro_up, fun j h1 h2 => gC_ui (by omega) h1 (by omega)⟩
