def gC_ (y : Nat → Int) (a : Nat) : Int → Int := fun i => y (pr a i.toNat)
def Ro_ (y y2 : Nat → Int) (c : Nat) : Prop := ∀ b, b ≠ c → ∀ i, y2 (pr b i) = y (pr b i)
theorem Ro_rf {y : Nat → Int} {c : Nat} : Ro_ y y c := fun _ _ _ => rfl
theorem Ro_tr {y y2 y3 : Nat → Int} {c : Nat} (h : Ro_ y y2 c) (h2 : Ro_ y2 y3 c) : Ro_ y y3 c := fun b hb i => (h2 b hb i).trans (h b hb i)
theorem Ro_up {y : Nat → Int} {c i : Nat} {z : Int} : Ro_ y (upB y (pr c i) z) c := fun b hb j => upB_ne (fun e => hb (pr_inj e).1)
theorem gC_up {y : Nat → Int} {a i : Nat} {z : Int} {b : Nat} (h : b ≠ a) (j : Int) : gC_ (upB y (pr a i) z) b j = gC_ y b j := upB_ne (fun e => h (pr_inj e).1)
theorem gC_ui {y : Nat → Int} {a : Nat} {i j z : Int} (h0 : 0 ≤ i) (h1 : 0 ≤ j) (h : j ≠ i) : gC_ (upB y (pr a i.toNat) z) a j = gC_ y a j := upB_ne (fun e => by have := (pr_inj e).2; omega)
theorem gC_us {y : Nat → Int} {a : Nat} {i z : Int} : gC_ (upB y (pr a i.toNat) z) a i = z := upB_same _ _ _
