/-! ===== level b: how far two wordings are ===== -/
def Lrw_ (g A B : Int → Int) (i lo hi : Int) : Prop := ∀ j, lo ≤ j → j < hi → g j = Ld_ A B i.toNat j.toNat
theorem Lrw_put {g A B : Int → Int} {i lo hi z : Int} (h : Lrw_ g A B i lo hi) (hz : z = Ld_ A B i.toNat hi.toNat) : Lrw_ (upA g hi z) A B i lo (hi + 1) := fun j h1 h2 => by
  by_cases e : j = hi
  · rw [e, upA_same]; exact hz
  · rw [upA_ne e]; exact h j h1 (by omega)
theorem Lrw_to {g A B : Int → Int} {i i2 lo hi hi2 : Int} (h : Lrw_ g A B i lo hi) (e : i2 = i) (e2 : hi2 ≤ hi) : Lrw_ g A B i2 lo hi2 := fun j h1 h2 => by
  rw [e]
  exact h j h1 (by omega)
theorem Lrw_0 {g A B : Int → Int} {i lo hi : Int} (h : hi ≤ lo) : Lrw_ g A B i lo hi := fun j h1 h2 => absurd h2 (by omega)
theorem Lrw_one {g A B : Int → Int} {i : Int} (h0 : 0 ≤ i) : Lrw_ (upA g 0 i) A B i 0 1 := fun j h1 h2 => by
  have e : j = 0 := by omega
  rw [e, upA_same, show (0 : Int).toNat = 0 from rfl, Ld_z]
  omega
theorem Ld_i0 {A B : Int → Int} {j : Int} (h0 : 0 ≤ j) : j = Ld_ A B (0 : Int).toNat j.toNat := by
  rw [show (0 : Int).toNat = 0 from rfl, Ld_0]
  omega
theorem Ld_st {A B : Int → Int} {i j x y u e z1 z2 : Int} (hi : 1 ≤ i) (hj : 1 ≤ j) (hx : x = Ld_ A B (i - 1).toNat (j - 1).toNat) (hy : y = Ld_ A B (i - 1).toNat j.toNat) (hu : u = Ld_ A B i.toNat (j - 1).toNat) (he : e = ne_ (A (i - 1)) (B (j - 1))) (h1 : z1 ≤ y ∧ z1 ≤ u ∧ (z1 = y ∨ z1 = u)) (h2 : z2 ≤ x + e ∧ z2 ≤ z1 + 1 ∧ (z2 = x + e ∨ z2 = z1 + 1)) : z2 = Ld_ A B i.toNat j.toNat := by
  have ei : i.toNat = (i - 1).toNat + 1 := by omega
  have ej : j.toNat = (j - 1).toNat + 1 := by omega
  have q := Ld_s (a := A) (b := B) (i := (i - 1).toNat) (j := (j - 1).toNat)
  have e1 : (((i - 1).toNat : Nat) : Int) = i - 1 := by omega
  have e2 : (((j - 1).toNat : Nat) : Int) = j - 1 := by omega
  rw [← ei, ← ej, e1, e2, ← hx, ← hy, ← hu, ← he] at q
  have h4 := mn_rg y u
  have h5 := mn_rg (x + e) (mn_ y u + 1)
  rw [q]
  omega
theorem Ld_bd {A B : Int → Int} {i j : Int} (hi : 0 ≤ i) (hj : 0 ≤ j) : 0 ≤ Ld_ A B i.toNat j.toNat ∧ Ld_ A B i.toNat j.toNat ≤ i + j := by
  have h1 := Ld_nn (a := A) (b := B) i.toNat j.toNat
  have h2 := Ld_le (a := A) (b := B) i.toNat j.toNat
  omega
/-- texts with the same pattern of what is the same are as far -/
theorem Ld_pt {a b a2 b2 : Int → Int} : ∀ i j : Nat, (∀ k l : Nat, k < i → l < j → (a2 (k : Int) = b2 (l : Int) ↔ a (k : Int) = b (l : Int))) → Ld_ a2 b2 i j = Ld_ a b i j := by
  intro i
  induction i with
  | zero => intro j _; rw [Ld_0, Ld_0]
  | succ i ih =>
    intro j
    induction j with
    | zero => intro _; rw [Ld_z, Ld_z]
    | succ j jh =>
      intro h
      have e : ne_ (a2 (i : Int)) (b2 (j : Int)) = ne_ (a (i : Int)) (b (j : Int)) := by
        have q := h i j (by omega) (by omega)
        by_cases k : a (i : Int) = b (j : Int)
        · rw [ne_e k, ne_e (q.2 k)]
        · rw [ne_n k, ne_n (fun r => k (q.1 r))]
      rw [Ld_s, Ld_s, ih j (fun k l hk hl => h k l (by omega) (by omega)), ih (j + 1) (fun k l hk hl => h k l (by omega) hl), jh (fun k l hk hl => h k l hk (by omega)), e]
/-! the reference's tokens and what it keeps -/
def tkd_ (tf tk : Int → Int) (w v : Int) : Int := Ld_ (fun i => tf (400 * w + i)) (fun i => tf (400 * v + i)) (tk w).toNat (tk v).toNat
def Fk_ (g tf tk : Int → Int) (n : Int) : Prop := ∀ w v, 0 ≤ w → w < 32 → 0 ≤ v → v < 32 → g (32 * w + v) ≤ 0 ∨ (w < n ∧ v < n ∧ g (32 * w + v) = tkd_ tf tk w v + 1)
def FarK_ (g tf tk : Int → Int) (n : Int) : Prop := Far_ g ∧ Fk_ g tf tk n
theorem Fk_up {g tf tk : Int → Int} {n w v d : Int} (h : Fk_ g tf tk n) (hn : n ≤ 32) (h0 : 0 ≤ w ∧ w < n) (h1 : 0 ≤ v ∧ v < n) (hd : d = tkd_ tf tk w v) : Fk_ (upA (upA g (32 * w + v) (d + 1)) (32 * v + w) (d + 1)) tf tk n := fun a b a0 a1 b0 b1 => by
  by_cases e1 : 32 * a + b = 32 * v + w
  · have ea : a = v := by omega
    have eb : b = w := by omega
    rw [e1, upA_same, ea, eb]
    refine Or.inr ⟨h1.2, h0.2, ?_⟩
    rw [hd]
    unfold tkd_
    rw [Ld_sy]
  · rw [upA_ne e1]
    by_cases e2 : 32 * a + b = 32 * w + v
    · have ea : a = w := by omega
      have eb : b = v := by omega
      rw [e2, upA_same, ea, eb]
      exact Or.inr ⟨h0.2, h1.2, by rw [hd]⟩
    · rw [upA_ne e2]
      exact h a b a0 a1 b0 b1
/-! the class's tokens and what it keeps -/
def cT_ (KK VV : Int → Int → Int) (w : Int) : Int → Int := fun i => tc_ (KK w i) (VV w i)
def cD_ (KK VV : Int → Int → Int) (cn : Int → Int) (w v : Int) : Int := Ld_ (cT_ KK VV w) (cT_ KK VV v) (cn w).toNat (cn v).toNat
theorem cD_sy {KK VV : Int → Int → Int} {cn : Int → Int} {w v : Int} : cD_ KK VV cn w v = cD_ KK VV cn v w := Ld_sy _ _
def Wt1_ (T : Nat → Nat → Nat) (y num : Nat → Int) (KK VV : Int → Int → Int) (cn : Int → Int) (w : Int) (a : Nat) : Prop := num a = w ∧ ((T 1 (T 161 a) : Int) = cn w ∧ 0 ≤ cn w ∧ cn w ≤ 400) ∧ (∀ i, 0 ≤ i → i < cn w → gC_ y (T 161 a) i = cT_ KK VV w i) ∧ (T 1 (T 163 a) : Int) = w ∧ (∀ j, 0 ≤ j → j < w → gC_ y (T 163 a) j = -1 ∨ gC_ y (T 163 a) j = cD_ KK VV cn w j)
def Wt_ (T : Nat → Nat → Nat) (y num : Nat → Int) (x : Nat) (sz : Int) (KK VV : Int → Int → Int) (cn : Int → Int) : Prop := ∀ w : Int, 0 ≤ w → w < sz → ∀ a : Nat, ELn_ T 182 x w.toNat = a + 1 → Wt1_ T y num KK VV cn w a
theorem wt_ld {T : Nat → Nat → Nat} {y num : Nat → Int} {KK VV : Int → Int → Int} {cn : Int → Int} {w v z : Int} {a b : Nat} (ga : Wt1_ T y num KK VV cn w a) (gb : Wt1_ T y num KK VV cn v b) (h : z = Ld_ (gC_ y (T 161 a)) (gC_ y (T 161 b)) (T 1 (T 161 a)) (T 1 (T 161 b))) : z = cD_ KK VV cn w v := by
  obtain ⟨-, ⟨a1, a2, a3⟩, a4, -⟩ := ga
  obtain ⟨-, ⟨b1, b2, b3⟩, b4, -⟩ := gb
  have e1 : T 1 (T 161 a) = (cn w).toNat := by omega
  have e2 : T 1 (T 161 b) = (cn v).toNat := by omega
  rw [h, e1, e2]
  exact Ld_cg _ _ (fun k hk => a4 k (by omega) (by omega)) (fun k hk => b4 k (by omega) (by omega))
theorem wt_kp {D : va_G} {cy : Nat → ClassId} {T : Nat → Nat → Nat} {v : Nat → Nat → Int} {H : Heap} {y y1 num : Nat → Int} {x a : Nat} {KK VV : Int → Int → Int} {cn : Int → Int} {w j z : Int} (hw : WC D cy T v H) (hx : T 0 x = 9) (h : Wt_ T y num x (v 202 (T 182 x)) KK VV cn) (hr : Ro_ y y1 (T 196 x)) (ta : T 0 a = 8) (ha : num a = w) (hj : 0 ≤ j) (hz : z = cD_ KK VV cn w j) : Wt_ T (upB y1 (pr (T 163 a) j.toNat) z) num x (v 202 (T 182 x)) KK VV cn := by
  intro u h0 h1 b hb
  obtain ⟨g1, g2, g3, g4, g5⟩ := h u h0 h1 b hb
  have tb : T 0 b = 8 := wl_ty hw (wt_182 hw.2.1 hx) (we_182 hw.2.1 hx) hb h0 h1
  have o1 := wo_161 hw.2.1 tb
  have o3 := wo_163 hw.2.1 tb
  have oa := wo_163 hw.2.1 ta
  have o6 := wo_196 hw.2.1 hx
  have n1 : T 161 b ≠ T 163 a := ro_ne o1 oa (by decide) (by decide) (by omega)
  have n2 : T 161 b ≠ T 196 x := ro_ne o1 o6 (by decide) (by decide) (by omega)
  have n3 : T 163 b ≠ T 196 x := ro_ne o3 o6 (by decide) (by decide) (by omega)
  have up : ∀ (c : Nat) (i : Int), c ≠ T 163 a → gC_ (upB y1 (pr (T 163 a) j.toNat) z) c i = gC_ y1 c i := fun c i hc => upB_ne (fun e => hc (pr_inj e).1)
  refine ⟨g1, g2, fun i i0 i1 => ?_, g4, fun i i0 i1 => ?_⟩
  · rw [up _ _ n1, gC_ro hr n2]
    exact g3 i i0 i1
  · by_cases e : b = a
    · subst e
      have eu : u = w := by omega
      by_cases ei : i = j
      · rw [ei, gC_us, eu]
        exact Or.inr hz
      · rw [gC_ui hj i0 ei, gC_ro hr n3]
        exact g5 i i0 i1
    · have n4 : T 163 b ≠ T 163 a := ro_ne o3 oa (by decide) (by decide) (by omega)
      rw [up _ _ n4, gC_ro hr n3]
      exact g5 i i0 i1
theorem eq_nx {f g : Int → Int} {n : Int} (h : ∀ k, 0 ≤ k → k < n → f k = g k) (e : f n = g n) : ∀ k, 0 ≤ k → k < n + 1 → f k = g k := fun k h1 h2 => by
  by_cases q : k = n
  · rw [q]; exact e
  · exact h k h1 (by omega)
/-- heads and tails that are the same are left out -/
theorem lc_fin {A B : Int → Int} {la lb : Nat} {h t w i : Int} (h0 : 0 ≤ h ∧ 0 ≤ t ∧ t + h ≤ (la : Int) ∧ t + h ≤ (lb : Int)) (hw : w = (lb : Int) - t - h) (hi : i = (la : Int) - t) (hh : ∀ k, 0 ≤ k → k < h → A k = B k) (ht : ∀ k, 0 ≤ k → k < t → A ((la : Int) - 1 - k) = B ((lb : Int) - 1 - k)) : Ld_ (fun k => A (k + h)) (fun k => B (k + h)) (i - h).toNat w.toNat = Ld_ A B la lb := by
  have e1 := Ld_tls (a := A) (b := B) (i := la - t.toNat) (j := lb - t.toNat) t.toNat (fun k hk => by
    have q := ht (t - 1 - (k : Int)) (by omega) (by omega)
    rw [show (la : Int) - 1 - (t - 1 - (k : Int)) = ((la - t.toNat + k : Nat) : Int) by omega, show (lb : Int) - 1 - (t - 1 - (k : Int)) = ((lb - t.toNat + k : Nat) : Int) by omega] at q
    exact q)
  have e2 := Ld_hds h.toNat A B (fun k hk => hh (k : Int) (by omega) (by omega)) (i - h).toNat w.toNat
  have eh : ((h.toNat : Nat) : Int) = h := by omega
  rw [eh, show h.toNat + (i - h).toNat = la - t.toNat by omega, show h.toNat + w.toNat = lb - t.toNat by omega] at e2
  rw [← e2, ← e1, show la - t.toNat + t.toNat = la by omega, show lb - t.toNat + t.toNat = lb by omega]
theorem rw_nx {y : Nat → Int} {r : Nat} {n : Int} (h : ∀ i : Int, 0 ≤ i → i < n → gC_ y r i = i) (h0 : 0 ≤ n) : ∀ i : Int, 0 ≤ i → i < n + 1 → gC_ (upB y (pr r n.toNat) n) r i = i := tk_st (g := fun i => i) h h0 rfl
/-! a step of the class's row -/
theorem sr_0 {y : Nat → Int} {r : Nat} {A B : Int → Int} {i w z : Int} (hi : 0 ≤ i) (h : ∀ j, 0 ≤ j → j < w + 1 → gC_ y r j = Ld_ A B i.toNat j.toNat) (hz : z = i + 1) : (∀ j, 0 ≤ j → j < 1 → gC_ (upB y (pr r (Int.toNat 0)) z) r j = Ld_ A B (i + 1).toNat j.toNat) ∧ (∀ j, 1 ≤ j → j < w + 1 → gC_ (upB y (pr r (Int.toNat 0)) z) r j = Ld_ A B i.toNat j.toNat) := by
  refine ⟨fun j h1 h2 => ?_, fun j h1 h2 => ?_⟩
  · have e : j = 0 := by omega
    rw [e, gC_us, show (0 : Int).toNat = 0 from rfl, Ld_z]
    omega
  · exact (gC_ui (Int.le_refl 0) (by omega) (by omega)).trans (h j (by omega) h2)
theorem sr_n {y : Nat → Int} {r : Nat} {A B : Int → Int} {i k w z : Int} (hk : 1 ≤ k) (h1 : ∀ j, 0 ≤ j → j < k → gC_ y r j = Ld_ A B (i + 1).toNat j.toNat) (h2 : ∀ j, k ≤ j → j < w + 1 → gC_ y r j = Ld_ A B i.toNat j.toNat) (hz : z = Ld_ A B (i + 1).toNat k.toNat) : (∀ j, 0 ≤ j → j < k + 1 → gC_ (upB y (pr r k.toNat) z) r j = Ld_ A B (i + 1).toNat j.toNat) ∧ (∀ j, k + 1 ≤ j → j < w + 1 → gC_ (upB y (pr r k.toNat) z) r j = Ld_ A B i.toNat j.toNat) := by
  refine ⟨fun j a b => ?_, fun j a b => ?_⟩
  · by_cases e : j = k
    · rw [e, gC_us]; exact hz
    · rw [gC_ui (by omega) a e]; exact h1 j a (by omega)
  · exact (gC_ui (by omega) (by omega) (by omega)).trans (h2 j (by omega) b)
theorem Ld_sr {A B : Int → Int} {i j x y u e z1 z2 : Int} (hi : 0 ≤ i) (hj : 1 ≤ j) (hx : x = Ld_ A B i.toNat (j - 1).toNat) (hy : y = Ld_ A B i.toNat j.toNat) (hu : u = Ld_ A B (i + 1).toNat (j - 1).toNat) (he : e = ne_ (A i) (B (j - 1))) (h1 : z1 ≤ y ∧ z1 ≤ u ∧ (z1 = y ∨ z1 = u)) (h2 : z2 ≤ x + e ∧ z2 ≤ z1 + 1 ∧ (z2 = x + e ∨ z2 = z1 + 1)) : z2 = Ld_ A B (i + 1).toNat j.toNat := by
  have ei : i + 1 - 1 = i := by omega
  exact Ld_st (i := i + 1) (by omega) hj (by rw [ei]; exact hx) (by rw [ei]; exact hy) hu (by rw [ei]; exact he) h1 h2
theorem cD_le {D : va_G} {cy : Nat → ClassId} {T : Nat → Nat → Nat} {v : Nat → Nat → Int} {H : Heap} {x : Nat} {y num : Nat → Int} {KK VV : Int → Int → Int} {cn : Int → Int} (hw : WC D cy T v H) (hx : T 0 x = 9) (h : Wt_ T y num x (v 202 (T 182 x)) KK VV cn) (w u : Int) (w0 : 0 ≤ w) (w1 : w < v 202 (T 182 x)) (u0 : 0 ≤ u) (u1 : u < v 202 (T 182 x)) : cD_ KK VV cn w u ≤ 400 := by
  have key : ∀ q : Int, 0 ≤ q → q < v 202 (T 182 x) → cn q ≤ 400 := fun q q0 q1 => by
    obtain ⟨a, ha, -⟩ := (hw.2.2.1 (T 182 x) (wt_182 hw.2.1 hx)).2.2 q.toNat (by omega)
    have ha : T (1000 + q.toNat) (T 201 (T 182 x)) = a + 1 := by
      unfold dcd at ha
      split at ha
      · cases ha
      · have := Option.some.inj ha
        omega
    exact (h q q0 q1 a ha).2.1.2.2
  have a := key w w0 w1
  have b := key u u0 u1
  unfold cD_
  rcases Ld_mx (a := cT_ KK VV w) (b := cT_ KK VV u) (cn w).toNat (cn u).toNat with r | r <;> omega
theorem cd_mm {KK VV : Int → Int → Int} {cn : Int → Int} {w v a b z : Int} (ha : w ≤ a ∧ v ≤ a ∧ (a = w ∨ a = v)) (hb : b ≤ w ∧ b ≤ v ∧ (b = w ∨ b = v)) (h : z = cD_ KK VV cn a b) : z = cD_ KK VV cn w v := by
  rcases ha.2.2 with e | e
  · have e2 : b = v := by omega
    rw [h, e, e2]
  · have e2 : b = w := by omega
    rw [h, e, e2, cD_sy]

set_option maxHeartbeats 4000000 in
set_option maxRecDepth 100000 in
theorem c3_X10_farBetween (l : Launch) (D : va_G) (cy : Nat → ClassId) (q : Nat → Nat) (n_0 : Nat → Int) (f_0 : Nat → Int → Int) (v_w v_v : Int) (r_v_w : inR v_w) (r_v_v : inR v_v) (hp0 : 0 ≤ v_w ∧ v_w < 32) (hp1 : 0 ≤ v_v ∧ v_v < 32) (hp2 : FarK_ (f_0 61) (f_0 30) (f_0 31) (n_0 29)) (hp3 : 0 ≤ (f_0 31 v_w) ∧ (f_0 31 v_w) ≤ 400) (hp4 : 0 ≤ (f_0 31 v_v) ∧ (f_0 31 v_v) ≤ 400) (hp5 : v_w < (n_0 29) ∧ v_v < (n_0 29) ∧ (n_0 29) ≤ 32) : MC l D cy q yX10_farBetween cX10_farBetween 6 (some .int) 1 [.int (J v_w), .int (J v_v)] n_0 f_0 (PI (fun (z_0 : Int) (n_2 : Nat → Int) (f_2 : Nat → Int → Int) => ∃ (y61_2 : Int → Int) (y59_2 : Int → Int) (y60_2 : Int → Int) , n_2 = n_0 ∧ f_2 = upF (upF (upF f_0 59 y59_2) 60 y60_2) 61 y61_2 ∧ (FarK_ (y61_2) (f_0 30) (f_0 31) (n_0 29) ∧ 0 ≤ z_0 ∧ z_0 ≤ 800 ∧ z_0 = tkd_ (f_0 30) (f_0 31) v_w v_v))) := by
  refine MC.ofi rfl (Nat.le_of_ble_eq_true rfl) ?_
  intro p e s m below meth c ls ar QW A0 H0 H locs E hK hA hw hl hret
  have hl : lv_has ls 6 [(0, .ref (q 0)), (1, .int (J v_w)), (2, .int (J v_v))] := hl
  refine j_aload_n E 1 rfl dX10_farBetween_0 rfl (lv_at hl 0 rfl) ?_
  refine m_ag_61 E hK hw 4 rfl dX10_farBetween_1 ?_
  refine j_bipush E 6 rfl dX10_farBetween_4 (by decide) ?_
  refine j_iload_n E 7 rfl dX10_farBetween_6 rfl (lv_at hl 1 rfl) ?_
  refine j_imul E 8 rfl dX10_farBetween_7 ?_
  refine j_iload_n E 9 rfl dX10_farBetween_8 rfl (lv_at hl 2 rfl) ?_
  refine j_iadd E 10 rfl dX10_farBetween_9 ?_
  refine m_ld_61 E hK hw (f_0 61 ((32 * v_w) + v_v)) rfl (by omega) 11 rfl dX10_farBetween_10 (fun rr1_ => ?_)
  have hf_ := hp2.1 ((32 * v_w) + v_v)
  have hk_ := hp2.2 v_w v_v (by omega) (by omega) (by omega) (by omega)
  refine j_if_le E 14 28 rfl rr1_ dX10_farBetween_11 (by decide) (fun cc2_ => ?_) (fun cc2_ => ?_)
  · refine j_iconst E 29 rfl dX10_farBetween_28 ?_
    refine j_istore_n E 30 rfl [(3, .int (J 0)), (0, .ref (q 0)), (1, .int (J v_w)), (2, .int (J v_v))] dX10_farBetween_29 rfl hl (by decide) rfl (fun ls hl => ?_)
    have L30_3 : ∀ (k30 : Nat) (gj : Int) (y59_c30 : Int → Int) (H : Heap) (locs : List Loc) (ls : Array Slot), inR gj → (0 ≤ gj ∧ gj ≤ (f_0 31 v_v) + 1 ∧ Bd_ (y59_c30) gj 0 ∧ Lrw_ (y59_c30) (fun i_ => f_0 30 (400 * v_w + i_)) (fun i_ => f_0 30 (400 * v_v + i_)) 0 0 gj) → ((f_0 31 v_v) + 1 - gj) < (k30 : Int) → WM D cy q (n_0) (upF f_0 59 y59_c30) A0 H0 H locs → lv_has ls 6 [(0, .ref (q 0)), (1, .int (J v_w)), (2, .int (J v_v)), (3, .int (J gj))] → W p l e (rmd 1 0 0) s m ar below meth c H locs 0 0 QW (F0 m 30 ls []) := by
      intro k30
      induction k30 with
      | zero =>
        intro gj y59_c30 H locs ls r_gj iv30 ms30 hw hl
        exfalso; omega
      | succ k30 ih30 =>
        intro gj y59_c30 H locs ls r_gj iv30 ms30 hw hl
        refine j_iload_n E 31 rfl dX10_farBetween_30 rfl (lv_at hl 3 rfl) ?_
        refine j_aload_n E 32 rfl dX10_farBetween_31 rfl (lv_at hl 0 rfl) ?_
        refine m_ag_31 E hK hw 35 rfl dX10_farBetween_32 ?_
        refine j_iload_n E 36 rfl dX10_farBetween_35 rfl (lv_at hl 2 rfl) ?_
        refine m_ld_31 E hK hw (f_0 31 v_v) rfl (by omega) 37 rfl dX10_farBetween_36 (fun rr5_ => ?_)
        refine j_icmp_gt E 40 53 rfl r_gj rr5_ dX10_farBetween_37 (by decide) (fun cc6_ => ?_) (fun cc6_ => ?_)
        · refine j_iconst E 54 rfl dX10_farBetween_53 ?_
          refine j_istore_n E 55 rfl [(3, .int (J 1)), (0, .ref (q 0)), (1, .int (J v_w)), (2, .int (J v_v))] dX10_farBetween_54 rfl hl (by decide) rfl (fun ls hl => ?_)
          have L55_7 : ∀ (k55 : Nat) (gi : Int) (y59_c55 : Int → Int) (y60_c55 : Int → Int) (H : Heap) (locs : List Loc) (ls : Array Slot), inR gi → (1 ≤ gi ∧ gi ≤ (f_0 31 v_w) + 1 ∧ Bd_ (y59_c55) ((f_0 31 v_v) + 1) (gi - 1) ∧ Lrw_ (y59_c55) (fun i_ => f_0 30 (400 * v_w + i_)) (fun i_ => f_0 30 (400 * v_v + i_)) (gi - 1) 0 ((f_0 31 v_v) + 1)) → ((f_0 31 v_w) + 1 - gi) < (k55 : Int) → WM D cy q (n_0) (upF (upF f_0 59 y59_c55) 60 y60_c55) A0 H0 H locs → lv_has ls 6 [(0, .ref (q 0)), (1, .int (J v_w)), (2, .int (J v_v)), (3, .int (J gi))] → W p l e (rmd 1 0 0) s m ar below meth c H locs 0 0 QW (F0 m 55 ls []) := by
            intro k55
            induction k55 with
            | zero =>
              intro gi y59_c55 y60_c55 H locs ls r_gi iv55 ms55 hw hl
              exfalso; omega
            | succ k55 ih55 =>
              intro gi y59_c55 y60_c55 H locs ls r_gi iv55 ms55 hw hl
              refine j_iload_n E 56 rfl dX10_farBetween_55 rfl (lv_at hl 3 rfl) ?_
              refine j_aload_n E 57 rfl dX10_farBetween_56 rfl (lv_at hl 0 rfl) ?_
              refine m_ag_31 E hK hw 60 rfl dX10_farBetween_57 ?_
              refine j_iload_n E 61 rfl dX10_farBetween_60 rfl (lv_at hl 1 rfl) ?_
              refine m_ld_31 E hK hw (f_0 31 v_w) rfl (by omega) 62 rfl dX10_farBetween_61 (fun rr9_ => ?_)
              refine j_icmp_gt E 65 216 rfl r_gi rr9_ dX10_farBetween_62 (by decide) (fun cc10_ => ?_) (fun cc10_ => ?_)
              · have zz_ : (y59_c55 ((f_0 31 v_v))) = tkd_ (f_0 30) (f_0 31) v_w v_v := by have q_ := iv55.2.2.2 (f_0 31 v_v) (by omega) (by omega); rw [show gi - 1 = f_0 31 v_w by omega] at q_; exact q_
                refine j_aload_n E 217 rfl dX10_farBetween_216 rfl (lv_at hl 0 rfl) ?_
                refine m_ag_61 E hK hw 220 rfl dX10_farBetween_217 ?_
                refine j_bipush E 222 rfl dX10_farBetween_220 (by decide) ?_
                refine j_iload_n E 223 rfl dX10_farBetween_222 rfl (lv_at hl 1 rfl) ?_
                refine j_imul E 224 rfl dX10_farBetween_223 ?_
                refine j_iload_n E 225 rfl dX10_farBetween_224 rfl (lv_at hl 2 rfl) ?_
                refine j_iadd E 226 rfl dX10_farBetween_225 ?_
                refine j_aload_n E 227 rfl dX10_farBetween_226 rfl (lv_at hl 0 rfl) ?_
                refine m_ag_59 E hK hw 230 rfl dX10_farBetween_227 ?_
                refine j_aload_n E 231 rfl dX10_farBetween_230 rfl (lv_at hl 0 rfl) ?_
                refine m_ag_31 E hK hw 234 rfl dX10_farBetween_231 ?_
                refine j_iload_n E 235 rfl dX10_farBetween_234 rfl (lv_at hl 2 rfl) ?_
                refine m_ld_31 E hK hw (f_0 31 v_v) rfl (by omega) 236 rfl dX10_farBetween_235 (fun _ => ?_)
                refine m_ld_59 E hK hw (y59_c55 (f_0 31 v_v)) rfl (by omega) 237 rfl dX10_farBetween_236 (fun rr11_ => ?_)
                have hg_ := iv55.2.2.1 (f_0 31 v_v) (by omega) (by omega)
                refine j_iconst E 238 rfl dX10_farBetween_237 ?_
                refine j_iadd E 239 rfl dX10_farBetween_238 ?_
                refine m_st_61 E hK hw (by omega) (rr (by omega)) 240 rfl dX10_farBetween_239 (fun H locs hw => ?_)
                have hw : WM D cy q (n_0) (upF (upF (upF f_0 59 y59_c55) 60 y60_c55) 61 (upA (f_0 61) ((32 * v_w) + v_v) ((y59_c55 (f_0 31 v_v)) + 1))) A0 H0 H locs := hw
                refine j_aload_n E 241 rfl dX10_farBetween_240 rfl (lv_at hl 0 rfl) ?_
                refine m_ag_61 E hK hw 244 rfl dX10_farBetween_241 ?_
                refine j_bipush E 246 rfl dX10_farBetween_244 (by decide) ?_
                refine j_iload_n E 247 rfl dX10_farBetween_246 rfl (lv_at hl 2 rfl) ?_
                refine j_imul E 248 rfl dX10_farBetween_247 ?_
                refine j_iload_n E 249 rfl dX10_farBetween_248 rfl (lv_at hl 1 rfl) ?_
                refine j_iadd E 250 rfl dX10_farBetween_249 ?_
                refine j_aload_n E 251 rfl dX10_farBetween_250 rfl (lv_at hl 0 rfl) ?_
                refine m_ag_59 E hK hw 254 rfl dX10_farBetween_251 ?_
                refine j_aload_n E 255 rfl dX10_farBetween_254 rfl (lv_at hl 0 rfl) ?_
                refine m_ag_31 E hK hw 258 rfl dX10_farBetween_255 ?_
                refine j_iload_n E 259 rfl dX10_farBetween_258 rfl (lv_at hl 2 rfl) ?_
                refine m_ld_31 E hK hw (f_0 31 v_v) rfl (by omega) 260 rfl dX10_farBetween_259 (fun _ => ?_)
                refine m_ld_59 E hK hw (y59_c55 (f_0 31 v_v)) rfl (by omega) 261 rfl dX10_farBetween_260 (fun _ => ?_)
                have hg_ := iv55.2.2.1 (f_0 31 v_v) (by omega) (by omega)
                refine j_iconst E 262 rfl dX10_farBetween_261 ?_
                refine j_iadd E 263 rfl dX10_farBetween_262 ?_
                refine m_st_61 E hK hw (by omega) (rr (by omega)) 264 rfl dX10_farBetween_263 (fun H locs hw => ?_)
                have hw : WM D cy q (n_0) (upF (upF (upF f_0 59 y59_c55) 60 y60_c55) 61 (upA (upA (f_0 61) ((32 * v_w) + v_v) ((y59_c55 (f_0 31 v_v)) + 1)) ((32 * v_v) + v_w) ((y59_c55 (f_0 31 v_v)) + 1))) A0 H0 H locs := hw
                refine j_aload_n E 265 rfl dX10_farBetween_264 rfl (lv_at hl 0 rfl) ?_
                refine m_ag_59 E hK hw 268 rfl dX10_farBetween_265 ?_
                refine j_aload_n E 269 rfl dX10_farBetween_268 rfl (lv_at hl 0 rfl) ?_
                refine m_ag_31 E hK hw 272 rfl dX10_farBetween_269 ?_
                refine j_iload_n E 273 rfl dX10_farBetween_272 rfl (lv_at hl 2 rfl) ?_
                refine m_ld_31 E hK hw (f_0 31 v_v) rfl (by omega) 274 rfl dX10_farBetween_273 (fun _ => ?_)
                refine m_ld_59 E hK hw (y59_c55 (f_0 31 v_v)) rfl (by omega) 275 rfl dX10_farBetween_274 (fun _ => ?_)
                have hg_ := iv55.2.2.1 (f_0 31 v_v) (by omega) (by omega)
                exact hret 275 (y59_c55 (f_0 31 v_v)) (n_0) (upF (upF (upF f_0 59 y59_c55) 60 y60_c55) 61 (upA (upA (f_0 61) ((32 * v_w) + v_v) ((y59_c55 (f_0 31 v_v)) + 1)) ((32 * v_v) + v_w) ((y59_c55 (f_0 31 v_v)) + 1))) _ _ ls hw rr11_ ⟨(upA (upA (f_0 61) ((32 * v_w) + v_v) ((y59_c55 (f_0 31 v_v)) + 1)) ((32 * v_v) + v_w) ((y59_c55 (f_0 31 v_v)) + 1)), y59_c55, y60_c55, rfl, rfl, ⟨⟨Far_up (Far_up hp2.1 (by omega)) (by omega), Fk_up hp2.2 (by omega) (by omega) (by omega) zz_⟩, by omega, by omega, zz_⟩⟩ dX10_farBetween_275
              · refine j_aload_n E 66 rfl dX10_farBetween_65 rfl (lv_at hl 0 rfl) ?_
                refine m_ag_60 E hK hw 69 rfl dX10_farBetween_66 ?_
                refine j_iconst E 70 rfl dX10_farBetween_69 ?_
                refine j_iload_n E 71 rfl dX10_farBetween_70 rfl (lv_at hl 3 rfl) ?_
                refine m_st_60 E hK hw (by omega) r_gi 72 rfl dX10_farBetween_71 (fun H locs hw => ?_)
                have hw : WM D cy q (n_0) (upF (upF f_0 59 y59_c55) 60 (upA (y60_c55) 0 gi)) A0 H0 H locs := hw
                refine j_iconst E 73 rfl dX10_farBetween_72 ?_
                refine j_istore E 75 rfl [(4, .int (J 1)), (0, .ref (q 0)), (1, .int (J v_w)), (2, .int (J v_v)), (3, .int (J gi))] dX10_farBetween_73 hl (by decide) rfl (fun ls hl => ?_)
                have L75_15 : ∀ (k75 : Nat) (gk : Int) (y60_c75 : Int → Int) (H : Heap) (locs : List Loc) (ls : Array Slot), inR gk → (1 ≤ gk ∧ gk ≤ (f_0 31 v_v) + 1 ∧ Bd_ (y60_c75) gk gi ∧ Lrw_ (y60_c75) (fun i_ => f_0 30 (400 * v_w + i_)) (fun i_ => f_0 30 (400 * v_v + i_)) gi 0 gk) → ((f_0 31 v_v) + 1 - gk) < (k75 : Int) → WM D cy q (n_0) (upF (upF f_0 59 y59_c55) 60 y60_c75) A0 H0 H locs → lv_has ls 6 [(0, .ref (q 0)), (1, .int (J v_w)), (2, .int (J v_v)), (3, .int (J gi)), (4, .int (J gk))] → W p l e (rmd 1 0 0) s m ar below meth c H locs 0 0 QW (F0 m 75 ls []) := by
                  intro k75
                  induction k75 with
                  | zero =>
                    intro gk y60_c75 H locs ls r_gk iv75 ms75 hw hl
                    exfalso; omega
                  | succ k75 ih75 =>
                    intro gk y60_c75 H locs ls r_gk iv75 ms75 hw hl
                    refine j_iload E 77 rfl dX10_farBetween_75 (lv_at hl 4 rfl) ?_
                    refine j_aload_n E 78 rfl dX10_farBetween_77 rfl (lv_at hl 0 rfl) ?_
                    refine m_ag_31 E hK hw 81 rfl dX10_farBetween_78 ?_
                    refine j_iload_n E 82 rfl dX10_farBetween_81 rfl (lv_at hl 2 rfl) ?_
                    refine m_ld_31 E hK hw (f_0 31 v_v) rfl (by omega) 83 rfl dX10_farBetween_82 (fun _ => ?_)
                    refine j_icmp_gt E 86 176 rfl r_gk rr5_ dX10_farBetween_83 (by decide) (fun cc17_ => ?_) (fun cc17_ => ?_)
                    · refine j_iconst E 177 rfl dX10_farBetween_176 ?_
                      refine j_istore E 179 rfl [(4, .int (J 0)), (0, .ref (q 0)), (1, .int (J v_w)), (2, .int (J v_v)), (3, .int (J gi))] dX10_farBetween_177 hl (by decide) rfl (fun ls hl => ?_)
                      have L179_18 : ∀ (k179 : Nat) (gm : Int) (y59_c179 : Int → Int) (H : Heap) (locs : List Loc) (ls : Array Slot), inR gm → (0 ≤ gm ∧ gm ≤ (f_0 31 v_v) + 1 ∧ Bd_ (y59_c179) gm gi ∧ Lrw_ (y59_c179) (fun i_ => f_0 30 (400 * v_w + i_)) (fun i_ => f_0 30 (400 * v_v + i_)) gi 0 gm) → ((f_0 31 v_v) + 1 - gm) < (k179 : Int) → WM D cy q (n_0) (upF (upF f_0 59 y59_c179) 60 y60_c75) A0 H0 H locs → lv_has ls 6 [(0, .ref (q 0)), (1, .int (J v_w)), (2, .int (J v_v)), (3, .int (J gi)), (4, .int (J gm))] → W p l e (rmd 1 0 0) s m ar below meth c H locs 0 0 QW (F0 m 179 ls []) := by
                        intro k179
                        induction k179 with
                        | zero =>
                          intro gm y59_c179 H locs ls r_gm iv179 ms179 hw hl
                          exfalso; omega
                        | succ k179 ih179 =>
                          intro gm y59_c179 H locs ls r_gm iv179 ms179 hw hl
                          refine j_iload E 181 rfl dX10_farBetween_179 (lv_at hl 4 rfl) ?_
                          refine j_aload_n E 182 rfl dX10_farBetween_181 rfl (lv_at hl 0 rfl) ?_
                          refine m_ag_31 E hK hw 185 rfl dX10_farBetween_182 ?_
                          refine j_iload_n E 186 rfl dX10_farBetween_185 rfl (lv_at hl 2 rfl) ?_
                          refine m_ld_31 E hK hw (f_0 31 v_v) rfl (by omega) 187 rfl dX10_farBetween_186 (fun _ => ?_)
                          refine j_icmp_gt E 190 210 rfl r_gm rr5_ dX10_farBetween_187 (by decide) (fun cc20_ => ?_) (fun cc20_ => ?_)
                          · refine j_iinc E 213 rfl [(3, .int (J (gi + 1))), (0, .ref (q 0)), (1, .int (J v_w)), (2, .int (J v_v)), (4, .int (J gm))] dX10_farBetween_210 hl (kk := 3) rfl (by decide) rfl (fun ls hl => ?_)
                            refine j_goto E 55 dX10_farBetween_213 (by decide) ?_
                            exact ih55 (gi + 1) y59_c179 y60_c75 H locs ls (rr (by omega)) (⟨by omega, by omega, Bd_to iv179.2.2.1 (by omega) (by omega), Lrw_to iv179.2.2.2 (by omega) (by omega)⟩) (by omega) hw (lv_sub hl [1, 2, 3, 0] rfl)
                          · refine j_aload_n E 191 rfl dX10_farBetween_190 rfl (lv_at hl 0 rfl) ?_
                            refine m_ag_59 E hK hw 194 rfl dX10_farBetween_191 ?_
                            refine j_iload E 196 rfl dX10_farBetween_194 (lv_at hl 4 rfl) ?_
                            refine j_aload_n E 197 rfl dX10_farBetween_196 rfl (lv_at hl 0 rfl) ?_
                            refine m_ag_60 E hK hw 200 rfl dX10_farBetween_197 ?_
                            refine j_iload E 202 rfl dX10_farBetween_200 (lv_at hl 4 rfl) ?_
                            refine m_ld_60 E hK hw (y60_c75 gm) rfl (by omega) 203 rfl dX10_farBetween_202 (fun rr21_ => ?_)
                            have hd_ := iv75.2.2.1 gm (by omega) (by omega)
                            have xd_ := iv75.2.2.2 gm (by omega) (by omega)
                            refine m_st_59 E hK hw (by omega) rr21_ 204 rfl dX10_farBetween_203 (fun H locs hw => ?_)
                            have hw : WM D cy q (n_0) (upF (upF f_0 59 (upA (y59_c179) gm (y60_c75 gm))) 60 y60_c75) A0 H0 H locs := hw
                            refine j_iinc E 207 rfl [(4, .int (J (gm + 1))), (0, .ref (q 0)), (1, .int (J v_w)), (2, .int (J v_v)), (3, .int (J gi))] dX10_farBetween_204 hl (kk := 4) rfl (by decide) rfl (fun ls hl => ?_)
                            refine j_goto E 179 dX10_farBetween_207 (by decide) ?_
                            exact ih179 (gm + 1) (upA (y59_c179) gm (y60_c75 gm)) H locs ls (rr (by omega)) (⟨by omega, by omega, Bd_step iv179.2.2.1 (by omega), Lrw_put iv179.2.2.2 xd_⟩) (by omega) hw (lv_sub hl [1, 2, 3, 4, 0] rfl)
                      exact L179_18 _ 0 y59_c55 H locs ls (rr (by decide)) (⟨by omega, by omega, fun j h1 h2 => absurd h2 (by omega), Lrw_0 (by omega)⟩) (mk_lt _) hw (lv_sub hl [1, 2, 3, 4, 0] rfl)
                    · refine j_aload_n E 87 rfl dX10_farBetween_86 rfl (lv_at hl 0 rfl) ?_
                      refine m_ag_30 E hK hw 90 rfl dX10_farBetween_87 ?_
                      refine j_sipush E 93 rfl dX10_farBetween_90 (by decide) ?_
                      refine j_iload_n E 94 rfl dX10_farBetween_93 rfl (lv_at hl 1 rfl) ?_
                      refine j_imul E 95 rfl dX10_farBetween_94 ?_
                      refine j_iload_n E 96 rfl dX10_farBetween_95 rfl (lv_at hl 3 rfl) ?_
                      refine j_iadd E 97 rfl dX10_farBetween_96 ?_
                      refine j_iconst E 98 rfl dX10_farBetween_97 ?_
                      refine j_isub E 99 rfl dX10_farBetween_98 ?_
                      refine m_ld_30 E hK hw (f_0 30 (((400 * v_w) + gi) - 1)) rfl (by omega) 100 rfl dX10_farBetween_99 (fun rr23_ => ?_)
                      refine j_aload_n E 101 rfl dX10_farBetween_100 rfl (lv_at hl 0 rfl) ?_
                      refine m_ag_30 E hK hw 104 rfl dX10_farBetween_101 ?_
                      refine j_sipush E 107 rfl dX10_farBetween_104 (by decide) ?_
                      refine j_iload_n E 108 rfl dX10_farBetween_107 rfl (lv_at hl 2 rfl) ?_
                      refine j_imul E 109 rfl dX10_farBetween_108 ?_
                      refine j_iload E 111 rfl dX10_farBetween_109 (lv_at hl 4 rfl) ?_
                      refine j_iadd E 112 rfl dX10_farBetween_111 ?_
                      refine j_iconst E 113 rfl dX10_farBetween_112 ?_
                      refine j_isub E 114 rfl dX10_farBetween_113 ?_
                      refine m_ld_30 E hK hw (f_0 30 (((400 * v_v) + gk) - 1)) rfl (by omega) 115 rfl dX10_farBetween_114 (fun rr24_ => ?_)
                      refine j_icmp_ne E 118 122 rfl rr23_ rr24_ dX10_farBetween_115 (by decide) (fun cc25_ => ?_) (fun cc25_ => ?_)
                      · refine j_iconst E 123 rfl dX10_farBetween_122 ?_
                        refine j_istore E 125 rfl [(5, .int (J 1)), (0, .ref (q 0)), (1, .int (J v_w)), (2, .int (J v_v)), (3, .int (J gi)), (4, .int (J gk))] dX10_farBetween_123 hl (by decide) rfl (fun ls hl => ?_)
                        refine j_aload_n E 126 rfl dX10_farBetween_125 rfl (lv_at hl 1 rfl) ?_
                        refine m_ag_60 E hK hw 129 rfl dX10_farBetween_126 ?_
                        refine j_iload E 131 rfl dX10_farBetween_129 (lv_at hl 5 rfl) ?_
                        refine j_aload_n E 132 rfl dX10_farBetween_131 rfl (lv_at hl 1 rfl) ?_
                        refine j_aload_n E 133 rfl dX10_farBetween_132 rfl (lv_at hl 1 rfl) ?_
                        refine m_ag_59 E hK hw 136 rfl dX10_farBetween_133 ?_
                        refine j_iload E 138 rfl dX10_farBetween_136 (lv_at hl 5 rfl) ?_
                        refine j_iconst E 139 rfl dX10_farBetween_138 ?_
                        refine j_isub E 140 rfl dX10_farBetween_139 ?_
                        refine m_ld_59 E hK hw (y59_c55 (gk - 1)) rfl (by omega) 141 rfl dX10_farBetween_140 (fun rr26_ => ?_)
                        have ha_ := iv55.2.2.1 (gk - 1) (by omega) (by omega)
                        have xa_ := iv55.2.2.2 (gk - 1) (by omega) (by omega)
                        refine j_iload E 143 rfl dX10_farBetween_141 (lv_at hl 0 rfl) ?_
                        refine j_iadd E 144 rfl dX10_farBetween_143 ?_
                        refine j_aload_n E 145 rfl dX10_farBetween_144 rfl (lv_at hl 1 rfl) ?_
                        refine j_aload_n E 146 rfl dX10_farBetween_145 rfl (lv_at hl 1 rfl) ?_
                        refine m_ag_59 E hK hw 149 rfl dX10_farBetween_146 ?_
                        refine j_iload E 151 rfl dX10_farBetween_149 (lv_at hl 5 rfl) ?_
                        refine m_ld_59 E hK hw (y59_c55 gk) rfl (by omega) 152 rfl dX10_farBetween_151 (fun rr27_ => ?_)
                        have hb_ := iv55.2.2.1 gk (by omega) (by omega)
                        have xb_ := iv55.2.2.2 gk (by omega) (by omega)
                        refine j_aload_n E 153 rfl dX10_farBetween_152 rfl (lv_at hl 1 rfl) ?_
                        refine m_ag_60 E hK hw 156 rfl dX10_farBetween_153 ?_
                        refine j_iload E 158 rfl dX10_farBetween_156 (lv_at hl 5 rfl) ?_
                        refine j_iconst E 159 rfl dX10_farBetween_158 ?_
                        refine j_isub E 160 rfl dX10_farBetween_159 ?_
                        refine m_ld_60 E hK hw (y60_c75 (gk - 1)) rfl (by omega) 161 rfl dX10_farBetween_160 (fun rr28_ => ?_)
                        have hc_ := iv75.2.2.1 (gk - 1) (by omega) (by omega)
                        have xc_ := iv75.2.2.2 (gk - 1) (by omega) (by omega)
                        refine m_callp (po := fun z_0 => (z_0 = (y59_c55 gk) ∧ (y59_c55 gk) ≤ (y60_c75 (gk - 1))) ∨ (z_0 = (y60_c75 (gk - 1)) ∧ (y60_c75 (gk - 1)) ≤ (y59_c55 gk))) E (c_X10_least l D cy q (n_0) (upF (upF f_0 59 y59_c55) 60 y60_c75) (y59_c55 gk) (y60_c75 (gk - 1))  rr27_ rr28_ ) rfl mt_X10_least ml_X10_367 hK hw hA ⟨Nat.le_of_ble_eq_true rfl, Nat.le_of_ble_eq_true rfl⟩ (As := [.int (J (y59_c55 gk)), .int (J (y60_c75 (gk - 1)))]) (rest := [.int (J ((y59_c55 (gk - 1)) + 1)), .ref (q 0), .int (J gk), .ref (q 60)]) rfl rfl hl.1 (Nat.le_of_ble_eq_true rfl) 164 rfl dX10_farBetween_161 (fun zz29_ H locs rr29_ hq29_ hw => ?_)
                        have hh29_ : (zz29_ = (y59_c55 gk) ∧ (y59_c55 gk) ≤ (y60_c75 (gk - 1))) ∨ (zz29_ = (y60_c75 (gk - 1)) ∧ (y60_c75 (gk - 1)) ≤ (y59_c55 gk)) := hq29_
                        clear hq29_
                        have m1_ : zz29_ ≤ (y59_c55 gk) ∧ zz29_ ≤ (y60_c75 (gk - 1)) ∧ (zz29_ = (y59_c55 gk) ∨ zz29_ = (y60_c75 (gk - 1))) := by omega
                        refine j_iconst E 165 rfl dX10_farBetween_164 ?_
                        refine j_iadd E 166 rfl dX10_farBetween_165 ?_
                        refine m_callp (po := fun z_0 => (z_0 = ((y59_c55 (gk - 1)) + 1) ∧ ((y59_c55 (gk - 1)) + 1) ≤ (zz29_ + 1)) ∨ (z_0 = (zz29_ + 1) ∧ (zz29_ + 1) ≤ ((y59_c55 (gk - 1)) + 1))) E (c_X10_least l D cy q (n_0) (upF (upF f_0 59 y59_c55) 60 y60_c75) ((y59_c55 (gk - 1)) + 1) (zz29_ + 1)  (rr (by omega)) (rr (by omega)) ) rfl mt_X10_least ml_X10_367 hK hw hA ⟨Nat.le_of_ble_eq_true rfl, Nat.le_of_ble_eq_true rfl⟩ (As := [.int (J ((y59_c55 (gk - 1)) + 1)), .int (J (zz29_ + 1))]) (rest := [.int (J gk), .ref (q 60)]) rfl rfl hl.1 (Nat.le_of_ble_eq_true rfl) 169 rfl dX10_farBetween_166 (fun zz30_ H locs rr30_ hq30_ hw => ?_)
                        have hh30_ : (zz30_ = ((y59_c55 (gk - 1)) + 1) ∧ ((y59_c55 (gk - 1)) + 1) ≤ (zz29_ + 1)) ∨ (zz30_ = (zz29_ + 1) ∧ (zz29_ + 1) ≤ ((y59_c55 (gk - 1)) + 1)) := hq30_
                        clear hq30_
                        refine m_st_60 E hK hw (by omega) rr30_ 170 rfl dX10_farBetween_169 (fun H locs hw => ?_)
                        have hw : WM D cy q (n_0) (upF (upF f_0 59 y59_c55) 60 (upA (y60_c75) gk zz30_)) A0 H0 H locs := hw
                        refine j_iinc E 173 rfl [(4, .int (J (gk + 1))), (5, .int (J 1)), (0, .ref (q 0)), (1, .int (J v_w)), (2, .int (J v_v)), (3, .int (J gi))] dX10_farBetween_170 hl (kk := 5) rfl (by decide) rfl (fun ls hl => ?_)
                        refine j_goto E 75 dX10_farBetween_173 (by decide) ?_
                        exact ih75 (gk + 1) (upA (y60_c75) gk zz30_) H locs ls (rr (by omega)) (⟨by omega, by omega, Bd_step iv75.2.2.1 (by omega), Lrw_put iv75.2.2.2 (Ld_st (by omega) (by omega) xa_ xb_ xc_ (by first | exact (ne_e (by show f_0 30 _ = f_0 30 _; rw [show 400 * v_w + (gi - 1) = 400 * v_w + gi - 1 by omega, show 400 * v_v + (gk - 1) = 400 * v_v + gk - 1 by omega]; assumption)).symm | exact (ne_n (by show ¬ f_0 30 _ = f_0 30 _; rw [show 400 * v_w + (gi - 1) = 400 * v_w + gi - 1 by omega, show 400 * v_v + (gk - 1) = 400 * v_v + gk - 1 by omega]; assumption)).symm) m1_ (by omega))⟩) (by omega) hw (lv_sub hl [2, 3, 4, 5, 0] rfl)
                      · refine j_iconst E 119 rfl dX10_farBetween_118 ?_
                        refine j_goto E 123 dX10_farBetween_119 (by decide) ?_
                        refine j_istore E 125 rfl [(5, .int (J 0)), (0, .ref (q 0)), (1, .int (J v_w)), (2, .int (J v_v)), (3, .int (J gi)), (4, .int (J gk))] dX10_farBetween_123 hl (by decide) rfl (fun ls hl => ?_)
                        refine j_aload_n E 126 rfl dX10_farBetween_125 rfl (lv_at hl 1 rfl) ?_
                        refine m_ag_60 E hK hw 129 rfl dX10_farBetween_126 ?_
                        refine j_iload E 131 rfl dX10_farBetween_129 (lv_at hl 5 rfl) ?_
                        refine j_aload_n E 132 rfl dX10_farBetween_131 rfl (lv_at hl 1 rfl) ?_
                        refine j_aload_n E 133 rfl dX10_farBetween_132 rfl (lv_at hl 1 rfl) ?_
                        refine m_ag_59 E hK hw 136 rfl dX10_farBetween_133 ?_
                        refine j_iload E 138 rfl dX10_farBetween_136 (lv_at hl 5 rfl) ?_
                        refine j_iconst E 139 rfl dX10_farBetween_138 ?_
                        refine j_isub E 140 rfl dX10_farBetween_139 ?_
                        refine m_ld_59 E hK hw (y59_c55 (gk - 1)) rfl (by omega) 141 rfl dX10_farBetween_140 (fun rr32_ => ?_)
                        have ha_ := iv55.2.2.1 (gk - 1) (by omega) (by omega)
                        have xa_ := iv55.2.2.2 (gk - 1) (by omega) (by omega)
                        refine j_iload E 143 rfl dX10_farBetween_141 (lv_at hl 0 rfl) ?_
                        refine j_iadd E 144 rfl dX10_farBetween_143 ?_
                        refine j_aload_n E 145 rfl dX10_farBetween_144 rfl (lv_at hl 1 rfl) ?_
                        refine j_aload_n E 146 rfl dX10_farBetween_145 rfl (lv_at hl 1 rfl) ?_
                        refine m_ag_59 E hK hw 149 rfl dX10_farBetween_146 ?_
                        refine j_iload E 151 rfl dX10_farBetween_149 (lv_at hl 5 rfl) ?_
                        refine m_ld_59 E hK hw (y59_c55 gk) rfl (by omega) 152 rfl dX10_farBetween_151 (fun rr33_ => ?_)
                        have hb_ := iv55.2.2.1 gk (by omega) (by omega)
                        have xb_ := iv55.2.2.2 gk (by omega) (by omega)
                        refine j_aload_n E 153 rfl dX10_farBetween_152 rfl (lv_at hl 1 rfl) ?_
                        refine m_ag_60 E hK hw 156 rfl dX10_farBetween_153 ?_
                        refine j_iload E 158 rfl dX10_farBetween_156 (lv_at hl 5 rfl) ?_
                        refine j_iconst E 159 rfl dX10_farBetween_158 ?_
                        refine j_isub E 160 rfl dX10_farBetween_159 ?_
                        refine m_ld_60 E hK hw (y60_c75 (gk - 1)) rfl (by omega) 161 rfl dX10_farBetween_160 (fun rr34_ => ?_)
                        have hc_ := iv75.2.2.1 (gk - 1) (by omega) (by omega)
                        have xc_ := iv75.2.2.2 (gk - 1) (by omega) (by omega)
                        refine m_callp (po := fun z_0 => (z_0 = (y59_c55 gk) ∧ (y59_c55 gk) ≤ (y60_c75 (gk - 1))) ∨ (z_0 = (y60_c75 (gk - 1)) ∧ (y60_c75 (gk - 1)) ≤ (y59_c55 gk))) E (c_X10_least l D cy q (n_0) (upF (upF f_0 59 y59_c55) 60 y60_c75) (y59_c55 gk) (y60_c75 (gk - 1))  rr33_ rr34_ ) rfl mt_X10_least ml_X10_367 hK hw hA ⟨Nat.le_of_ble_eq_true rfl, Nat.le_of_ble_eq_true rfl⟩ (As := [.int (J (y59_c55 gk)), .int (J (y60_c75 (gk - 1)))]) (rest := [.int (J ((y59_c55 (gk - 1)) + 0)), .ref (q 0), .int (J gk), .ref (q 60)]) rfl rfl hl.1 (Nat.le_of_ble_eq_true rfl) 164 rfl dX10_farBetween_161 (fun zz35_ H locs rr35_ hq35_ hw => ?_)
                        have hh35_ : (zz35_ = (y59_c55 gk) ∧ (y59_c55 gk) ≤ (y60_c75 (gk - 1))) ∨ (zz35_ = (y60_c75 (gk - 1)) ∧ (y60_c75 (gk - 1)) ≤ (y59_c55 gk)) := hq35_
                        clear hq35_
                        have m1_ : zz35_ ≤ (y59_c55 gk) ∧ zz35_ ≤ (y60_c75 (gk - 1)) ∧ (zz35_ = (y59_c55 gk) ∨ zz35_ = (y60_c75 (gk - 1))) := by omega
                        refine j_iconst E 165 rfl dX10_farBetween_164 ?_
                        refine j_iadd E 166 rfl dX10_farBetween_165 ?_
                        refine m_callp (po := fun z_0 => (z_0 = ((y59_c55 (gk - 1)) + 0) ∧ ((y59_c55 (gk - 1)) + 0) ≤ (zz35_ + 1)) ∨ (z_0 = (zz35_ + 1) ∧ (zz35_ + 1) ≤ ((y59_c55 (gk - 1)) + 0))) E (c_X10_least l D cy q (n_0) (upF (upF f_0 59 y59_c55) 60 y60_c75) ((y59_c55 (gk - 1)) + 0) (zz35_ + 1)  (rr (by omega)) (rr (by omega)) ) rfl mt_X10_least ml_X10_367 hK hw hA ⟨Nat.le_of_ble_eq_true rfl, Nat.le_of_ble_eq_true rfl⟩ (As := [.int (J ((y59_c55 (gk - 1)) + 0)), .int (J (zz35_ + 1))]) (rest := [.int (J gk), .ref (q 60)]) rfl rfl hl.1 (Nat.le_of_ble_eq_true rfl) 169 rfl dX10_farBetween_166 (fun zz36_ H locs rr36_ hq36_ hw => ?_)
                        have hh36_ : (zz36_ = ((y59_c55 (gk - 1)) + 0) ∧ ((y59_c55 (gk - 1)) + 0) ≤ (zz35_ + 1)) ∨ (zz36_ = (zz35_ + 1) ∧ (zz35_ + 1) ≤ ((y59_c55 (gk - 1)) + 0)) := hq36_
                        clear hq36_
                        refine m_st_60 E hK hw (by omega) rr36_ 170 rfl dX10_farBetween_169 (fun H locs hw => ?_)
                        have hw : WM D cy q (n_0) (upF (upF f_0 59 y59_c55) 60 (upA (y60_c75) gk zz36_)) A0 H0 H locs := hw
                        refine j_iinc E 173 rfl [(4, .int (J (gk + 1))), (5, .int (J 0)), (0, .ref (q 0)), (1, .int (J v_w)), (2, .int (J v_v)), (3, .int (J gi))] dX10_farBetween_170 hl (kk := 5) rfl (by decide) rfl (fun ls hl => ?_)
                        refine j_goto E 75 dX10_farBetween_173 (by decide) ?_
                        exact ih75 (gk + 1) (upA (y60_c75) gk zz36_) H locs ls (rr (by omega)) (⟨by omega, by omega, Bd_step iv75.2.2.1 (by omega), Lrw_put iv75.2.2.2 (Ld_st (by omega) (by omega) xa_ xb_ xc_ (by first | exact (ne_e (by show f_0 30 _ = f_0 30 _; rw [show 400 * v_w + (gi - 1) = 400 * v_w + gi - 1 by omega, show 400 * v_v + (gk - 1) = 400 * v_v + gk - 1 by omega]; assumption)).symm | exact (ne_n (by show ¬ f_0 30 _ = f_0 30 _; rw [show 400 * v_w + (gi - 1) = 400 * v_w + gi - 1 by omega, show 400 * v_v + (gk - 1) = 400 * v_v + gk - 1 by omega]; assumption)).symm) m1_ (by omega))⟩) (by omega) hw (lv_sub hl [2, 3, 4, 5, 0] rfl)
                exact L75_15 _ 1 (upA (y60_c55) 0 gi) H locs ls (rr (by decide)) (⟨by omega, by omega, Bd_one (by omega), Lrw_one (by omega)⟩) (mk_lt _) hw (lv_sub hl [1, 2, 3, 4, 0] rfl)
          exact L55_7 _ 1 y59_c30 (f_0 60) H locs ls (rr (by decide)) (⟨by omega, by omega, Bd_to iv30.2.2.1 (by omega) (by omega), Lrw_to iv30.2.2.2 (by omega) (by omega)⟩) (mk_lt _) hw (lv_sub hl [1, 2, 3, 0] rfl)
        · refine j_aload_n E 41 rfl dX10_farBetween_40 rfl (lv_at hl 0 rfl) ?_
          refine m_ag_59 E hK hw 44 rfl dX10_farBetween_41 ?_
          refine j_iload_n E 45 rfl dX10_farBetween_44 rfl (lv_at hl 3 rfl) ?_
          refine j_iload_n E 46 rfl dX10_farBetween_45 rfl (lv_at hl 3 rfl) ?_
          refine m_st_59 E hK hw (by omega) r_gj 47 rfl dX10_farBetween_46 (fun H locs hw => ?_)
          have hw : WM D cy q (n_0) (upF f_0 59 (upA (y59_c30) gj gj)) A0 H0 H locs := hw
          refine j_iinc E 50 rfl [(3, .int (J (gj + 1))), (0, .ref (q 0)), (1, .int (J v_w)), (2, .int (J v_v))] dX10_farBetween_47 hl (kk := 3) rfl (by decide) rfl (fun ls hl => ?_)
          refine j_goto E 30 dX10_farBetween_50 (by decide) ?_
          exact ih30 (gj + 1) (upA (y59_c30) gj gj) H locs ls (rr (by omega)) (⟨by omega, by omega, Bd_step iv30.2.2.1 (by omega), Lrw_put iv30.2.2.2 (Ld_i0 (by omega))⟩) (by omega) hw (lv_sub hl [1, 2, 3, 0] rfl)
    exact L30_3 _ 0 (f_0 59) H locs ls (rr (by decide)) (⟨by omega, by omega, fun j h1 h2 => absurd h2 (by omega), Lrw_0 (by omega)⟩) (mk_lt _) hw (lv_sub hl [1, 2, 3, 0] rfl)
  · refine j_aload_n E 15 rfl dX10_farBetween_14 rfl (lv_at hl 0 rfl) ?_
    refine m_ag_61 E hK hw 18 rfl dX10_farBetween_15 ?_
    refine j_bipush E 20 rfl dX10_farBetween_18 (by decide) ?_
    refine j_iload_n E 21 rfl dX10_farBetween_20 rfl (lv_at hl 1 rfl) ?_
    refine j_imul E 22 rfl dX10_farBetween_21 ?_
    refine j_iload_n E 23 rfl dX10_farBetween_22 rfl (lv_at hl 2 rfl) ?_
    refine j_iadd E 24 rfl dX10_farBetween_23 ?_
    refine m_ld_61 E hK hw (f_0 61 ((32 * v_w) + v_v)) rfl (by omega) 25 rfl dX10_farBetween_24 (fun _ => ?_)
    refine j_iconst E 26 rfl dX10_farBetween_25 ?_
    refine j_isub E 27 rfl dX10_farBetween_26 ?_
    exact hret 27 ((f_0 61 ((32 * v_w) + v_v)) - 1) (n_0) (upF (upF (upF f_0 59 (f_0 59)) 60 (f_0 60)) 61 (f_0 61)) _ _ ls hw (rr (by omega)) ⟨(f_0 61), (f_0 59), (f_0 60), rfl, rfl, ⟨hp2, by omega, by omega, by omega⟩⟩ dX10_farBetween_27
set_option maxHeartbeats 4000000 in
set_option maxRecDepth 100000 in
theorem c3_X10_far (l : Launch) (D : va_G) (cy : Nat → ClassId) (q : Nat → Nat) (n_0 : Nat → Int) (f_0 : Nat → Int → Int) (v_w v_v : Int) (r_v_w : inR v_w) (r_v_v : inR v_v) (hp0 : MI (n_0) (f_0)) (hp1 : Fk_ (f_0 61) (f_0 30) (f_0 31) (n_0 29)) : MC l D cy q yX10_far cX10_far 3 (some .int) 2 [.int (J v_w), .int (J v_v)] n_0 f_0 (PI (fun (z_0 : Int) (n_2 : Nat → Int) (f_2 : Nat → Int → Int) => ∃ (x0_2 : Int) (y61_2 : Int → Int) (y59_2 : Int → Int) (y60_2 : Int → Int) , n_2 = upN n_0 0 x0_2 ∧ f_2 = upF (upF (upF f_0 59 y59_2) 60 y60_2) 61 y61_2 ∧ (MI (upN n_0 0 x0_2) (upF (upF (upF f_0 59 y59_2) 60 y60_2) 61 y61_2) ∧ (((z_0 = -1 ∧ ¬ ((0 ≤ v_w ∧ v_w < (n_0 29)) ∧ (0 ≤ v_v ∧ v_v < (n_0 29)))) ∨ (((0 ≤ v_w ∧ v_w < (n_0 29)) ∧ (0 ≤ v_v ∧ v_v < (n_0 29))) ∧ z_0 = tkd_ (f_0 30) (f_0 31) v_w v_v)) ∧ Fk_ (y61_2) (f_0 30) (f_0 31) (n_0 29))))) := by
  refine MC.ofi rfl (Nat.le_of_ble_eq_true rfl) ?_
  intro p e s m below meth c ls ar QW A0 H0 H locs E hK hA hw hl hret
  have hl : lv_has ls 3 [(0, .ref (q 0)), (1, .int (J v_w)), (2, .int (J v_v))] := hl
  have hp0_ := hp0
  obtain ⟨i_now, i_persons, i_lines, i_wordings, i_taped, i_suits, i_spk, i_fam, i_str, i_said, i_book, i_wds, i_tok, i_cod, i_far, i_tap, i_qua, i_sil, i_stz, i_way⟩ := hp0_
  refine j_aload_n E 1 rfl dX10_far_0 rfl (lv_at hl 0 rfl) ?_
  refine j_iconst E 2 rfl dX10_far_1 ?_
  refine m_put_0 E hK hw (rr (by decide)) 5 rfl dX10_far_2 (fun H locs hw => ?_)
  have hw : WM D cy q (upN n_0 0 0) (f_0) A0 H0 H locs := hw
  refine j_aload_n E 6 rfl dX10_far_5 rfl (lv_at hl 0 rfl) ?_
  refine j_iload_n E 7 rfl dX10_far_6 rfl (lv_at hl 1 rfl) ?_
  refine m_callp (po := fun z_0 => (z_0 = 1 ∧ 0 ≤ v_w ∧ v_w < (n_0 29)) ∨ (z_0 = 0 ∧ (v_w < 0 ∨ (n_0 29) ≤ v_w))) E (c_X10_isWording l D cy q (upN n_0 0 0) (f_0) v_w  r_v_w ) rfl mt_X10_isWording ml_X10_191 hK hw hA ⟨Nat.le_of_ble_eq_true rfl, Nat.le_of_ble_eq_true rfl⟩ (As := [.int (J v_w)]) (rest := []) rfl rfl hl.1 (Nat.le_of_ble_eq_true rfl) 10 rfl dX10_far_7 (fun zz2_ H locs rr2_ hq2_ hw => ?_)
  have hh2_ : (zz2_ = 1 ∧ 0 ≤ v_w ∧ v_w < (n_0 29)) ∨ (zz2_ = 0 ∧ (v_w < 0 ∨ (n_0 29) ≤ v_w)) := hq2_
  clear hq2_
  rcases hh2_ with ⟨ee2_, hh2_⟩ | ⟨ee2_, hh2_⟩
  · subst ee2_
    refine j_if_eq E 13 30 rfl (rr (by decide)) dX10_far_10 (by decide) (fun cc3_ => absurd cc3_ (by decide)) (fun _ => ?_)
    refine j_aload_n E 14 rfl dX10_far_13 rfl (lv_at hl 0 rfl) ?_
    refine j_iload_n E 15 rfl dX10_far_14 rfl (lv_at hl 2 rfl) ?_
    refine m_callp (po := fun z_0 => (z_0 = 1 ∧ 0 ≤ v_v ∧ v_v < (n_0 29)) ∨ (z_0 = 0 ∧ (v_v < 0 ∨ (n_0 29) ≤ v_v))) E (c_X10_isWording l D cy q (upN n_0 0 0) (f_0) v_v  r_v_v ) rfl mt_X10_isWording ml_X10_191 hK hw hA ⟨Nat.le_of_ble_eq_true rfl, Nat.le_of_ble_eq_true rfl⟩ (As := [.int (J v_v)]) (rest := []) rfl rfl hl.1 (Nat.le_of_ble_eq_true rfl) 18 rfl dX10_far_15 (fun zz4_ H locs rr4_ hq4_ hw => ?_)
    have hh4_ : (zz4_ = 1 ∧ 0 ≤ v_v ∧ v_v < (n_0 29)) ∨ (zz4_ = 0 ∧ (v_v < 0 ∨ (n_0 29) ≤ v_v)) := hq4_
    clear hq4_
    rcases hh4_ with ⟨ee4_, hh4_⟩ | ⟨ee4_, hh4_⟩
    · subst ee4_
      refine j_if_eq E 21 30 rfl (rr (by decide)) dX10_far_18 (by decide) (fun cc5_ => absurd cc5_ (by decide)) (fun _ => ?_)
      refine j_aload_n E 22 rfl dX10_far_21 rfl (lv_at hl 0 rfl) ?_
      refine j_iload_n E 23 rfl dX10_far_22 rfl (lv_at hl 1 rfl) ?_
      refine j_iload_n E 24 rfl dX10_far_23 rfl (lv_at hl 2 rfl) ?_
      have t1_ := i_tok v_w (by omega) (by omega)
      have t2_ := i_tok v_v (by omega) (by omega)
      refine m_calli E (c3_X10_farBetween l D cy q (upN n_0 0 0) (f_0) v_w v_v  r_v_w r_v_v (show 0 ≤ v_w ∧ v_w < 32 from by omega) (show 0 ≤ v_v ∧ v_v < 32 from by omega) (show FarK_ (f_0 61) (f_0 30) (f_0 31) (n_0 29) from ⟨i_far, hp1⟩) (show 0 ≤ (f_0 31 v_w) ∧ (f_0 31 v_w) ≤ 400 from t1_) (show 0 ≤ (f_0 31 v_v) ∧ (f_0 31 v_v) ≤ 400 from t2_) (show v_w < (n_0 29) ∧ v_v < (n_0 29) ∧ (n_0 29) ≤ 32 from by omega)) rfl mt_X10_farBetween ml_X10_370 hK hw hA ⟨Nat.le_of_ble_eq_true rfl, Nat.le_of_ble_eq_true rfl⟩ (As := [.int (J v_w), .int (J v_v)]) (rest := []) rfl rfl hl.1 (Nat.le_of_ble_eq_true rfl) 27 rfl dX10_far_24 (fun zz6_ n_6 f_6 H locs rr6_ hq6_ hw => ?_)
      obtain ⟨y61_6, y59_6, y60_6, en6_, ef6_, hq6_⟩ := hq6_
      rw [en6_, ef6_] at hw; clear en6_ ef6_
      have hw : WM D cy q (upN n_0 0 0) (upF (upF (upF f_0 59 y59_6) 60 y60_6) 61 y61_6) A0 H0 H locs := hw
      have hh6_ : FarK_ (y61_6) (f_0 30) (f_0 31) (n_0 29) ∧ 0 ≤ zz6_ ∧ zz6_ ≤ 800 ∧ zz6_ = tkd_ (f_0 30) (f_0 31) v_w v_v := hq6_
      clear hq6_
      have hf_ := hh6_
      clear hh6_
      refine j_goto E 31 dX10_far_27 (by decide) ?_
      exact hret 31 zz6_ (upN n_0 0 0) (upF (upF (upF f_0 59 y59_6) 60 y60_6) 61 y61_6) _ _ ls hw rr6_ ⟨0, y61_6, y59_6, y60_6, rfl, rfl, ⟨⟨i_now, i_persons, i_lines, i_wordings, i_taped, i_suits, i_spk, i_fam, i_str, i_said, i_book, i_wds, i_tok, i_cod, (show Far_ (y61_6) from by first | exact hf_.1.1 | exact i_far), i_tap, i_qua, i_sil, i_stz, i_way⟩, by first | exact ⟨Or.inr ⟨by omega, hf_.2.2.2⟩, hf_.1.2⟩ | exact ⟨Or.inl ⟨rfl, by omega⟩, hp1⟩⟩⟩ dX10_far_31
    · subst ee4_
      refine j_if_eq E 21 30 rfl (rr (by decide)) dX10_far_18 (by decide) (fun _ => ?_) (fun cc7_ => absurd cc7_ (by decide))
      refine j_iconst E 31 rfl dX10_far_30 ?_
      exact hret 31 ((-1)) (upN n_0 0 0) (upF (upF (upF f_0 59 (f_0 59)) 60 (f_0 60)) 61 (f_0 61)) _ _ ls hw (rr (by decide)) ⟨0, (f_0 61), (f_0 59), (f_0 60), rfl, rfl, ⟨⟨i_now, i_persons, i_lines, i_wordings, i_taped, i_suits, i_spk, i_fam, i_str, i_said, i_book, i_wds, i_tok, i_cod, (show Far_ (f_0 61) from by first | exact hf_.1.1 | exact i_far), i_tap, i_qua, i_sil, i_stz, i_way⟩, by first | exact ⟨Or.inr ⟨by omega, hf_.2.2.2⟩, hf_.1.2⟩ | exact ⟨Or.inl ⟨rfl, by omega⟩, hp1⟩⟩⟩ dX10_far_31
  · subst ee2_
    refine j_if_eq E 13 30 rfl (rr (by decide)) dX10_far_10 (by decide) (fun _ => ?_) (fun cc8_ => absurd cc8_ (by decide))
    refine j_iconst E 31 rfl dX10_far_30 ?_
    exact hret 31 ((-1)) (upN n_0 0 0) (upF (upF (upF f_0 59 (f_0 59)) 60 (f_0 60)) 61 (f_0 61)) _ _ ls hw (rr (by decide)) ⟨0, (f_0 61), (f_0 59), (f_0 60), rfl, rfl, ⟨⟨i_now, i_persons, i_lines, i_wordings, i_taped, i_suits, i_spk, i_fam, i_str, i_said, i_book, i_wds, i_tok, i_cod, (show Far_ (f_0 61) from by first | exact hf_.1.1 | exact i_far), i_tap, i_qua, i_sil, i_stz, i_way⟩, by first | exact ⟨Or.inr ⟨by omega, hf_.2.2.2⟩, hf_.1.2⟩ | exact ⟨Or.inl ⟨rfl, by omega⟩, hp1⟩⟩⟩ dX10_far_31
set_option maxHeartbeats 40000000 in
set_option maxRecDepth 100000 in
theorem c3_X10_tree (l : Launch) (D : va_G) (cy : Nat → ClassId) (q : Nat → Nat) (n_0 : Nat → Int) (f_0 : Nat → Int → Int) (v_set v_what : Int) (r_v_set : inR v_set) (r_v_what : inR v_what) (hp0 : MI (n_0) (f_0)) (hp1 : Fk_ (f_0 61) (f_0 30) (f_0 31) (n_0 29)) : MC l D cy q yX10_tree cX10_tree 11 (some .int) 2 [.int (J v_set), .int (J v_what)] n_0 f_0 (PI (fun (z_0 : Int) (n_2 : Nat → Int) (f_2 : Nat → Int → Int) => ∃ (x0_2 : Int) (y62_2 : Int → Int) (y63_2 : Int → Int) (y61_2 : Int → Int) (y59_2 : Int → Int) (y60_2 : Int → Int) , n_2 = upN n_0 0 x0_2 ∧ f_2 = upF (upF (upF (upF (upF f_0 59 y59_2) 60 y60_2) 61 y61_2) 62 y62_2) 63 y63_2 ∧ (MI (upN n_0 0 x0_2) (upF (upF (upF (upF (upF f_0 59 y59_2) 60 y60_2) 61 y61_2) 62 y62_2) 63 y63_2) ∧ (Fk_ (y61_2) (f_0 30) (f_0 31) (n_0 29))))) := by
  refine MC.ofi rfl (Nat.le_of_ble_eq_true rfl) ?_
  intro p e s m below meth c ls ar QW A0 H0 H locs E hK hA hw hl hret
  have hl : lv_has ls 11 [(0, .ref (q 0)), (1, .int (J v_set)), (2, .int (J v_what))] := hl
  have hp0_ := hp0
  obtain ⟨i_now, i_persons, i_lines, i_wordings, i_taped, i_suits, i_spk, i_fam, i_str, i_said, i_book, i_wds, i_tok, i_cod, i_far, i_tap, i_qua, i_sil, i_stz, i_way⟩ := hp0_
  refine j_aload_n E 1 rfl dX10_tree_0 rfl (lv_at hl 0 rfl) ?_
  refine j_iconst E 2 rfl dX10_tree_1 ?_
  refine m_put_0 E hK hw (rr (by decide)) 5 rfl dX10_tree_2 (fun H locs hw => ?_)
  have hw : WM D cy q (upN n_0 0 0) (f_0) A0 H0 H locs := hw
  refine j_aload_n E 6 rfl dX10_tree_5 rfl (lv_at hl 0 rfl) ?_
  refine j_iload_n E 7 rfl dX10_tree_6 rfl (lv_at hl 1 rfl) ?_
  refine m_callp (po := fun z_0 => (z_0 = 1 ∧ Bz_ v_set (n_0 29)) ∨ (z_0 = 0 ∧ ¬ Bz_ v_set (n_0 29))) E (c_X10_areWordings l D cy q (upN n_0 0 0) (f_0) v_set  r_v_set (show 0 ≤ (n_0 29) ∧ (n_0 29) ≤ 32 from by omega)) rfl mt_X10_areWordings ml_X10_373 hK hw hA ⟨Nat.le_of_ble_eq_true rfl, Nat.le_of_ble_eq_true rfl⟩ (As := [.int (J v_set)]) (rest := []) rfl rfl hl.1 (Nat.le_of_ble_eq_true rfl) 10 rfl dX10_tree_7 (fun zz2_ H locs rr2_ hq2_ hw => ?_)
  have hh2_ : (zz2_ = 1 ∧ Bz_ v_set (n_0 29)) ∨ (zz2_ = 0 ∧ ¬ Bz_ v_set (n_0 29)) := hq2_
  clear hq2_
  rcases hh2_ with ⟨ee2_, hh2_⟩ | ⟨ee2_, hh2_⟩
  · subst ee2_
    have hB_ := hh2_
    clear hh2_
    refine j_if_eq E 13 28 rfl (rr (by decide)) dX10_tree_10 (by decide) (fun cc3_ => absurd cc3_ (by decide)) (fun _ => ?_)
    refine j_aload_n E 14 rfl dX10_tree_13 rfl (lv_at hl 0 rfl) ?_
    refine j_aload_n E 15 rfl dX10_tree_14 rfl (lv_at hl 0 rfl) ?_
    refine j_iload_n E 16 rfl dX10_tree_15 rfl (lv_at hl 1 rfl) ?_
    refine m_callp (po := fun z_0 => z_0 = cn_ v_set ∧ 0 ≤ z_0 ∧ z_0 ≤ 32) E (c_X10_ones l D cy q (upN n_0 0 0) (f_0) v_set  r_v_set ) rfl mt_X10_ones ml_X10_376 hK hw hA ⟨Nat.le_of_ble_eq_true rfl, Nat.le_of_ble_eq_true rfl⟩ (As := [.int (J v_set)]) (rest := [.ref (q 0)]) rfl rfl hl.1 (Nat.le_of_ble_eq_true rfl) 19 rfl dX10_tree_16 (fun zz4_ H locs rr4_ hq4_ hw => ?_)
    have hh4_ : zz4_ = cn_ v_set ∧ 0 ≤ zz4_ ∧ zz4_ ≤ 32 := hq4_
    clear hq4_
    refine j_iconst E 20 rfl dX10_tree_19 ?_
    refine j_bipush E 22 rfl dX10_tree_20 (by decide) ?_
    refine m_callp (po := fun z_0 => (z_0 = 1 ∧ (2 : Int) ≤ zz4_ ∧ zz4_ ≤ (8 : Int)) ∨ (z_0 = 0 ∧ (zz4_ < (2 : Int) ∨ (8 : Int) < zz4_))) E (c_X10_isIn l D cy q (upN n_0 0 0) (f_0) zz4_ 2 8  rr4_ (rr (by decide)) (rr (by decide)) ) rfl mt_X10_isIn ml_X10_169 hK hw hA ⟨Nat.le_of_ble_eq_true rfl, Nat.le_of_ble_eq_true rfl⟩ (As := [.int (J zz4_), .int (J 2), .int (J 8)]) (rest := []) rfl rfl hl.1 (Nat.le_of_ble_eq_true rfl) 25 rfl dX10_tree_22 (fun zz5_ H locs rr5_ hq5_ hw => ?_)
    have hh5_ : (zz5_ = 1 ∧ (2 : Int) ≤ zz4_ ∧ zz4_ ≤ (8 : Int)) ∨ (zz5_ = 0 ∧ (zz4_ < (2 : Int) ∨ (8 : Int) < zz4_)) := hq5_
    clear hq5_
    rcases hh5_ with ⟨ee5_, hh5_⟩ | ⟨ee5_, hh5_⟩
    · subst ee5_
      refine j_if_ne E 28 30 rfl (rr (by decide)) dX10_tree_25 (by decide) (fun _ => ?_) (fun cc6_ => absurd cc6_ (by decide))
      have L59_7 : ∀ (H : Heap) (locs : List Loc) (ls : Array Slot), (v_what = 0 ∨ (10 ≤ v_what ∧ v_what ≤ 41)) → WM D cy q (upN n_0 0 0) (f_0) A0 H0 H locs → lv_has ls 11 [(0, .ref (q 0)), (1, .int (J v_set)), (2, .int (J v_what))] → W p l e (rmd 2 0 0) s m ar below meth c H locs 0 0 QW (F0 m 59 ls []) := by
        intro H locs ls iv59 hw hl
        obtain ⟨i0_, i1_, i2_, i3_⟩ := cn_pos (z := v_set) (by omega)
        refine j_iconst E 60 rfl dX10_tree_59 ?_
        refine j_istore_n E 61 rfl [(3, .int (J 0)), (0, .ref (q 0)), (1, .int (J v_set)), (2, .int (J v_what))] dX10_tree_60 rfl hl (by decide) rfl (fun ls hl => ?_)
        have L61_9 : ∀ (k61 : Nat) (gf : Int) (H : Heap) (locs : List Loc) (ls : Array Slot), inR gf → (0 ≤ gf ∧ gf ≤ i0_) → (i0_ - gf) < (k61 : Int) → WM D cy q (upN n_0 0 0) (f_0) A0 H0 H locs → lv_has ls 11 [(0, .ref (q 0)), (1, .int (J v_set)), (2, .int (J v_what)), (3, .int (J gf))] → W p l e (rmd 2 0 0) s m ar below meth c H locs 0 0 QW (F0 m 61 ls []) := by
          intro k61
          induction k61 with
          | zero =>
            intro gf H locs ls r_gf iv61 ms61 hw hl
            exfalso; omega
          | succ k61 ih61 =>
            intro gf H locs ls r_gf iv61 ms61 hw hl
            refine j_iload_n E 62 rfl dX10_tree_61 rfl (lv_at hl 1 rfl) ?_
            refine j_iload_n E 63 rfl dX10_tree_62 rfl (lv_at hl 3 rfl) ?_
            refine j_ishr E 64 rfl dX10_tree_63 (fun zz11_ rr11_ ee11_ => ?_)
            have es_ := ee11_
            refine j_iconst E 65 rfl dX10_tree_64 ?_
            refine j_iand E 66 rfl dX10_tree_65 (fun zz12_ rr12_ ee12_ => ?_)
            have hs_ := sh_bit es_ ee12_ (by omega) rr12_
            refine j_if_ne E 69 76 rfl rr12_ dX10_tree_66 (by decide) (fun cc13_ => ?_) (fun cc13_ => ?_)
            · have hb_ : bt_ v_set gf.toNat = true := hs_.elim (fun h => absurd h.1 (by omega)) (fun h => h.2)
              have gw_ := bt_lt hB_ hb_ (by omega) (by omega)
              refine j_iconst E 77 rfl dX10_tree_76 ?_
              refine j_istore E 79 rfl [(4, .int (J 0)), (0, .ref (q 0)), (1, .int (J v_set)), (2, .int (J v_what)), (3, .int (J gf))] dX10_tree_77 hl (by decide) rfl (fun ls hl => ?_)
              have L79_14 : ∀ (k79 : Nat) (gi : Int) (y62_c79 : Int → Int) (H : Heap) (locs : List Loc) (ls : Array Slot), inR gi → (0 ≤ gi ∧ gi ≤ 32 ∧ ∀ j, 0 ≤ j → j < gi → (y62_c79 j) = 0) → (32 - gi) < (k79 : Int) → WM D cy q (upN n_0 0 0) (upF f_0 62 y62_c79) A0 H0 H locs → lv_has ls 11 [(0, .ref (q 0)), (1, .int (J v_set)), (2, .int (J v_what)), (3, .int (J gf)), (4, .int (J gi))] → W p l e (rmd 2 0 0) s m ar below meth c H locs 0 0 QW (F0 m 79 ls []) := by
                intro k79
                induction k79 with
                | zero =>
                  intro gi y62_c79 H locs ls r_gi iv79 ms79 hw hl
                  exfalso; omega
                | succ k79 ih79 =>
                  intro gi y62_c79 H locs ls r_gi iv79 ms79 hw hl
                  refine j_iload E 81 rfl dX10_tree_79 (lv_at hl 4 rfl) ?_
                  refine j_bipush E 83 rfl dX10_tree_81 (by decide) ?_
                  refine j_icmp_ge E 86 100 rfl r_gi (rr (by decide)) dX10_tree_83 (by decide) (fun cc16_ => ?_) (fun cc16_ => ?_)
                  · refine j_aload_n E 101 rfl dX10_tree_100 rfl (lv_at hl 0 rfl) ?_
                    refine m_ag_62 E hK hw 104 rfl dX10_tree_101 ?_
                    refine j_iload_n E 105 rfl dX10_tree_104 rfl (lv_at hl 3 rfl) ?_
                    refine j_iconst E 106 rfl dX10_tree_105 ?_
                    refine m_st_62 E hK hw (by omega) (rr (by decide)) (Or.inr rfl) 107 rfl dX10_tree_106 (fun H locs hw => ?_)
                    have hw : WM D cy q (upN n_0 0 0) (upF f_0 62 (upA (y62_c79) gf 1)) A0 H0 H locs := hw
                    refine j_aload_n E 108 rfl dX10_tree_107 rfl (lv_at hl 0 rfl) ?_
                    refine m_ag_63 E hK hw 111 rfl dX10_tree_108 ?_
                    refine j_iload_n E 112 rfl dX10_tree_111 rfl (lv_at hl 3 rfl) ?_
                    refine j_iconst E 113 rfl dX10_tree_112 ?_
                    refine m_st_63 E hK hw (by omega) (rr (by decide)) 114 rfl dX10_tree_113 (fun H locs hw => ?_)
                    have hw : WM D cy q (upN n_0 0 0) (upF (upF f_0 62 (upA (y62_c79) gf 1)) 63 (upA (f_0 63) gf ((-1)))) A0 H0 H locs := hw
                    refine j_iconst E 115 rfl dX10_tree_114 ?_
                    refine j_istore E 117 rfl [(4, .int (J 0)), (0, .ref (q 0)), (1, .int (J v_set)), (2, .int (J v_what)), (3, .int (J gf))] dX10_tree_115 hl (by decide) rfl (fun ls hl => ?_)
                    refine j_iconst E 118 rfl dX10_tree_117 ?_
                    refine j_istore E 120 rfl [(5, .int (J 1)), (4, .int (J 0)), (0, .ref (q 0)), (1, .int (J v_set)), (2, .int (J v_what)), (3, .int (J gf))] dX10_tree_118 hl (by decide) rfl (fun ls hl => ?_)
                    have L120_19 : ∀ (k120 : Nat) (gc gn : Int) (y62_c120 : Int → Int) (y63_c120 : Int → Int) (y61_c120 : Int → Int) (y59_c120 : Int → Int) (y60_c120 : Int → Int) (H : Heap) (locs : List Loc) (ls : Array Slot), inR gc → inR gn → ((1 ≤ gn ∧ gn ≤ cn_ v_set) ∧ Tr_ (y62_c120) v_set gn gf ∧ FarK_ (y61_c120) (f_0 30) (f_0 31) (n_0 29)) → (cn_ v_set - gn) < (k120 : Int) → WM D cy q (upN n_0 0 0) (upF (upF (upF (upF (upF f_0 59 y59_c120) 60 y60_c120) 61 y61_c120) 62 y62_c120) 63 y63_c120) A0 H0 H locs → lv_has ls 11 [(0, .ref (q 0)), (1, .int (J v_set)), (2, .int (J v_what)), (3, .int (J gf)), (4, .int (J gc)), (5, .int (J gn))] → W p l e (rmd 2 0 0) s m ar below meth c H locs 0 0 QW (F0 m 120 ls []) := by
                      intro k120
                      induction k120 with
                      | zero =>
                        intro gc gn y62_c120 y63_c120 y61_c120 y59_c120 y60_c120 H locs ls r_gc r_gn iv120 ms120 hw hl
                        exfalso; omega
                      | succ k120 ih120 =>
                        intro gc gn y62_c120 y63_c120 y61_c120 y59_c120 y60_c120 H locs ls r_gc r_gn iv120 ms120 hw hl
                        refine j_iload E 122 rfl dX10_tree_120 (lv_at hl 5 rfl) ?_
                        refine j_aload_n E 123 rfl dX10_tree_122 rfl (lv_at hl 0 rfl) ?_
                        refine j_iload_n E 124 rfl dX10_tree_123 rfl (lv_at hl 1 rfl) ?_
                        refine m_callp (po := fun z_0 => z_0 = cn_ v_set ∧ 0 ≤ z_0 ∧ z_0 ≤ 32) E (c_X10_ones l D cy q (upN n_0 0 0) (upF (upF (upF (upF (upF f_0 59 y59_c120) 60 y60_c120) 61 y61_c120) 62 y62_c120) 63 y63_c120) v_set  r_v_set ) rfl mt_X10_ones ml_X10_376 hK hw hA ⟨Nat.le_of_ble_eq_true rfl, Nat.le_of_ble_eq_true rfl⟩ (As := [.int (J v_set)]) (rest := [.int (J gn)]) rfl rfl hl.1 (Nat.le_of_ble_eq_true rfl) 127 rfl dX10_tree_124 (fun zz21_ H locs rr21_ hq21_ hw => ?_)
                        have hh21_ : zz21_ = cn_ v_set ∧ 0 ≤ zz21_ ∧ zz21_ ≤ 32 := hq21_
                        clear hq21_
                        refine j_icmp_ge E 130 273 rfl r_gn rr21_ dX10_tree_127 (by decide) (fun cc22_ => ?_) (fun cc22_ => ?_)
                        · refine j_iload_n E 274 rfl dX10_tree_273 rfl (lv_at hl 2 rfl) ?_
                          refine j_if_ne E 277 282 rfl r_v_what dX10_tree_274 (by decide) (fun cc23_ => ?_) (fun cc23_ => ?_)
                          · refine j_aload_n E 283 rfl dX10_tree_282 rfl (lv_at hl 0 rfl) ?_
                            refine m_ag_63 E hK hw 286 rfl dX10_tree_283 ?_
                            refine j_iload_n E 287 rfl dX10_tree_286 rfl (lv_at hl 2 rfl) ?_
                            refine j_bipush E 289 rfl dX10_tree_287 (by decide) ?_
                            refine j_isub E 290 rfl dX10_tree_289 ?_
                            refine m_ld_63 E hK hw (y63_c120 (v_what - 10)) rfl (by omega) 291 rfl dX10_tree_290 (fun rr24_ => ?_)
                            exact hret 291 (y63_c120 (v_what - 10)) (upN n_0 0 0) (upF (upF (upF (upF (upF f_0 59 y59_c120) 60 y60_c120) 61 y61_c120) 62 y62_c120) 63 y63_c120) _ _ ls hw rr24_ ⟨0, y62_c120, y63_c120, y61_c120, y59_c120, y60_c120, rfl, rfl, ⟨⟨i_now, i_persons, i_lines, i_wordings, i_taped, i_suits, i_spk, i_fam, i_str, i_said, i_book, i_wds, i_tok, i_cod, (show Far_ (y61_c120) from by first | exact i_far | exact iv120.2.2.1), i_tap, i_qua, i_sil, i_stz, i_way⟩, by first | exact hp1 | exact iv120.2.2.2⟩⟩ dX10_tree_291
                          · refine j_iload E 279 rfl dX10_tree_277 (lv_at hl 4 rfl) ?_
                            refine j_goto E 291 dX10_tree_279 (by decide) ?_
                            exact hret 291 gc (upN n_0 0 0) (upF (upF (upF (upF (upF f_0 59 y59_c120) 60 y60_c120) 61 y61_c120) 62 y62_c120) 63 y63_c120) _ _ ls hw r_gc ⟨0, y62_c120, y63_c120, y61_c120, y59_c120, y60_c120, rfl, rfl, ⟨⟨i_now, i_persons, i_lines, i_wordings, i_taped, i_suits, i_spk, i_fam, i_str, i_said, i_book, i_wds, i_tok, i_cod, (show Far_ (y61_c120) from by first | exact i_far | exact iv120.2.2.1), i_tap, i_qua, i_sil, i_stz, i_way⟩, by first | exact hp1 | exact iv120.2.2.2⟩⟩ dX10_tree_291
                        · obtain ⟨w0_, w1_, w2_, w3_, w4_⟩ := Tr_pick iv120.2.1 (by omega)
                          have w5_ := bt_lt hB_ w3_ w1_ w2_
                          refine j_iconst E 131 rfl dX10_tree_130 ?_
                          refine j_istore E 133 rfl [(6, .int (J ((-1)))), (0, .ref (q 0)), (1, .int (J v_set)), (2, .int (J v_what)), (3, .int (J gf)), (4, .int (J gc)), (5, .int (J gn))] dX10_tree_131 hl (by decide) rfl (fun ls hl => ?_)
                          refine j_iconst E 134 rfl dX10_tree_133 ?_
                          refine j_istore E 136 rfl [(7, .int (J ((-1)))), (6, .int (J ((-1)))), (0, .ref (q 0)), (1, .int (J v_set)), (2, .int (J v_what)), (3, .int (J gf)), (4, .int (J gc)), (5, .int (J gn))] dX10_tree_134 hl (by decide) rfl (fun ls hl => ?_)
                          refine j_ldcw (z := 1000000) E 139 rfl (gT_c7 (List.mem_of_getElem? (i := 162) (by decide +kernel)) (by decide +kernel)) dX10_tree_136 ?_
                          refine j_istore E 141 rfl [(8, .int (J 1000000)), (7, .int (J ((-1)))), (6, .int (J ((-1)))), (0, .ref (q 0)), (1, .int (J v_set)), (2, .int (J v_what)), (3, .int (J gf)), (4, .int (J gc)), (5, .int (J gn))] dX10_tree_139 hl (by decide) rfl (fun ls hl => ?_)
                          refine j_iconst E 142 rfl dX10_tree_141 ?_
                          refine j_istore E 144 rfl [(9, .int (J 0)), (8, .int (J 1000000)), (7, .int (J ((-1)))), (6, .int (J ((-1)))), (0, .ref (q 0)), (1, .int (J v_set)), (2, .int (J v_what)), (3, .int (J gf)), (4, .int (J gc)), (5, .int (J gn))] dX10_tree_142 hl (by decide) rfl (fun ls hl => ?_)
                          have L144_25 : ∀ (k144 : Nat) (gb gv gd gw : Int) (y61_c144 : Int → Int) (y59_c144 : Int → Int) (y60_c144 : Int → Int) (H : Heap) (locs : List Loc) (ls : Array Slot), inR gb → inR gv → inR gd → inR gw → ((0 ≤ gw ∧ gw ≤ 32) ∧ FarK_ (y61_c144) (f_0 30) (f_0 31) (n_0 29) ∧ ((gb = -1 ∧ gd = 1000000 ∧ gw ≤ w0_) ∨ ((0 ≤ gb ∧ gb < (n_0 29) ∧ bt_ v_set (gb).toNat = true ∧ y62_c120 gb = 0) ∧ 0 ≤ gd ∧ gd ≤ 1000000))) → (32 - gw) < (k144 : Int) → WM D cy q (upN n_0 0 0) (upF (upF (upF (upF (upF f_0 59 y59_c144) 60 y60_c144) 61 y61_c144) 62 y62_c120) 63 y63_c120) A0 H0 H locs → lv_has ls 11 [(0, .ref (q 0)), (1, .int (J v_set)), (2, .int (J v_what)), (3, .int (J gf)), (4, .int (J gc)), (5, .int (J gn)), (6, .int (J gb)), (7, .int (J gv)), (8, .int (J gd)), (9, .int (J gw))] → W p l e (rmd 2 0 0) s m ar below meth c H locs 0 0 QW (F0 m 144 ls []) := by
                            intro k144
                            induction k144 with
                            | zero =>
                              intro gb gv gd gw y61_c144 y59_c144 y60_c144 H locs ls r_gb r_gv r_gd r_gw iv144 ms144 hw hl
                              exfalso; omega
                            | succ k144 ih144 =>
                              intro gb gv gd gw y61_c144 y59_c144 y60_c144 H locs ls r_gb r_gv r_gd r_gw iv144 ms144 hw hl
                              refine j_iload E 146 rfl dX10_tree_144 (lv_at hl 9 rfl) ?_
                              refine j_aload_n E 147 rfl dX10_tree_146 rfl (lv_at hl 0 rfl) ?_
                              refine m_get_29 E hK hw (n_0 29) rfl 150 rfl dX10_tree_147 (fun rr27_ => ?_)
                              refine j_icmp_ge E 153 243 rfl r_gw rr27_ dX10_tree_150 (by decide) (fun cc28_ => ?_) (fun cc28_ => ?_)
                              · have iv144v_ : (0 ≤ gb ∧ gb < (n_0 29) ∧ bt_ v_set (gb).toNat = true ∧ y62_c120 gb = 0) := by rcases iv144.2.2 with q_ | q_; exact absurd q_.2.2 (by omega); exact q_.1
                                refine j_aload_n E 244 rfl dX10_tree_243 rfl (lv_at hl 0 rfl) ?_
                                refine m_ag_62 E hK hw 247 rfl dX10_tree_244 ?_
                                refine j_iload E 249 rfl dX10_tree_247 (lv_at hl 6 rfl) ?_
                                refine j_iconst E 250 rfl dX10_tree_249 ?_
                                refine m_st_62 E hK hw (by omega) (rr (by decide)) (Or.inr rfl) 251 rfl dX10_tree_250 (fun H locs hw => ?_)
                                have hw : WM D cy q (upN n_0 0 0) (upF (upF (upF (upF (upF f_0 59 y59_c144) 60 y60_c144) 61 y61_c144) 62 (upA (y62_c120) gb 1)) 63 y63_c120) A0 H0 H locs := hw
                                refine j_aload_n E 252 rfl dX10_tree_251 rfl (lv_at hl 0 rfl) ?_
                                refine m_ag_63 E hK hw 255 rfl dX10_tree_252 ?_
                                refine j_iload E 257 rfl dX10_tree_255 (lv_at hl 6 rfl) ?_
                                refine j_iload E 259 rfl dX10_tree_257 (lv_at hl 7 rfl) ?_
                                refine m_st_63 E hK hw (by omega) r_gv 260 rfl dX10_tree_259 (fun H locs hw => ?_)
                                have hw : WM D cy q (upN n_0 0 0) (upF (upF (upF (upF (upF f_0 59 y59_c144) 60 y60_c144) 61 y61_c144) 62 (upA (y62_c120) gb 1)) 63 (upA (y63_c120) gb gv)) A0 H0 H locs := hw
                                refine j_iload E 262 rfl dX10_tree_260 (lv_at hl 4 rfl) ?_
                                refine j_iload E 264 rfl dX10_tree_262 (lv_at hl 8 rfl) ?_
                                refine j_iadd E 265 rfl dX10_tree_264 ?_
                                refine j_norm (fun zz31_ rr31_ ee31_ => ?_)
                                refine j_istore E 267 rfl [(4, .int (J zz31_)), (0, .ref (q 0)), (1, .int (J v_set)), (2, .int (J v_what)), (3, .int (J gf)), (5, .int (J gn)), (6, .int (J gb)), (7, .int (J gv)), (8, .int (J gd)), (9, .int (J gw))] dX10_tree_265 hl (by decide) rfl (fun ls hl => ?_)
                                refine j_iinc E 270 rfl [(5, .int (J (gn + 1))), (4, .int (J zz31_)), (0, .ref (q 0)), (1, .int (J v_set)), (2, .int (J v_what)), (3, .int (J gf)), (6, .int (J gb)), (7, .int (J gv)), (8, .int (J gd)), (9, .int (J gw))] dX10_tree_267 hl (kk := 5) rfl (by decide) rfl (fun ls hl => ?_)
                                refine j_goto E 120 dX10_tree_270 (by decide) ?_
                                exact ih120 zz31_ (gn + 1) (upA (y62_c120) gb 1) (upA (y63_c120) gb gv) y61_c144 y59_c144 y60_c144 H locs ls rr31_ (rr (by omega)) (⟨by omega, Tr_add iv120.2.1 (by omega) iv144v_.2.2.1 iv144v_.2.2.2, iv144.2.1⟩) (by omega) hw (lv_sub hl [2, 3, 4, 5, 1, 0] rfl)
                              · refine j_iload_n E 154 rfl dX10_tree_153 rfl (lv_at hl 1 rfl) ?_
                                refine j_iload E 156 rfl dX10_tree_154 (lv_at hl 9 rfl) ?_
                                refine j_ishr E 157 rfl dX10_tree_156 (fun zz32_ rr32_ ee32_ => ?_)
                                have eq_ := ee32_
                                refine j_iconst E 158 rfl dX10_tree_157 ?_
                                refine j_iand E 159 rfl dX10_tree_158 (fun zz33_ rr33_ ee33_ => ?_)
                                have hq_ := sh_bit eq_ ee33_ (by omega) rr33_
                                refine j_if_eq E 162 237 rfl rr33_ dX10_tree_159 (by decide) (fun cc34_ => ?_) (fun cc34_ => ?_)
                                · refine j_iinc E 240 rfl [(9, .int (J (gw + 1))), (0, .ref (q 0)), (1, .int (J v_set)), (2, .int (J v_what)), (3, .int (J gf)), (4, .int (J gc)), (5, .int (J gn)), (6, .int (J gb)), (7, .int (J gv)), (8, .int (J gd))] dX10_tree_237 hl (kk := 9) rfl (by decide) rfl (fun ls hl => ?_)
                                  refine j_goto E 144 dX10_tree_240 (by decide) ?_
                                  exact ih144 gb gv gd (gw + 1) y61_c144 y59_c144 y60_c144 H locs ls r_gb r_gv r_gd (rr (by omega)) (by first | exact ⟨by omega, iv178.2.1, Or.inr (by rcases iv178.2.2 with q_ | q_; exact absurd q_.2.2 (by omega); exact q_)⟩ | exact ⟨by omega, iv144.2.1, by rcases iv144.2.2 with q_ | q_; exact Or.inl ⟨q_.1, q_.2.1, by first | (have n1_ := bt_ne (hq_.elim (fun h => h.2) (fun h => absurd h.1 (by omega))) w3_; omega) | (have n2_ : gw ≠ w0_ := fun e_ => absurd w4_ (by rw [← e_]; assumption); omega)⟩; exact Or.inr q_⟩) (by omega) hw (lv_sub hl [1, 2, 3, 4, 5, 6, 7, 8, 9, 0] rfl)
                                · refine j_aload_n E 163 rfl dX10_tree_162 rfl (lv_at hl 0 rfl) ?_
                                  refine m_ag_62 E hK hw 166 rfl dX10_tree_163 ?_
                                  refine j_iload E 168 rfl dX10_tree_166 (lv_at hl 9 rfl) ?_
                                  refine m_ld_62 E hK hw (y62_c120 gw) rfl (by omega) 169 rfl dX10_tree_168 (fun rr35_ => ?_)
                                  refine j_if_eq E 172 175 rfl rr35_ dX10_tree_169 (by decide) (fun cc36_ => ?_) (fun cc36_ => ?_)
                                  · refine j_iconst E 176 rfl dX10_tree_175 ?_
                                    refine j_istore E 178 rfl [(10, .int (J 0)), (0, .ref (q 0)), (1, .int (J v_set)), (2, .int (J v_what)), (3, .int (J gf)), (4, .int (J gc)), (5, .int (J gn)), (6, .int (J gb)), (7, .int (J gv)), (8, .int (J gd)), (9, .int (J gw))] dX10_tree_176 hl (by decide) rfl (fun ls hl => ?_)
                                    have L178_37 : ∀ (k178 : Nat) (gb2 gv2 gd2 gu : Int) (y61_c178 : Int → Int) (y59_c178 : Int → Int) (y60_c178 : Int → Int) (H : Heap) (locs : List Loc) (ls : Array Slot), inR gb2 → inR gv2 → inR gd2 → inR gu → ((0 ≤ gu ∧ gu ≤ 32) ∧ FarK_ (y61_c178) (f_0 30) (f_0 31) (n_0 29) ∧ ((gb2 = -1 ∧ gd2 = 1000000 ∧ gu ≤ gf) ∨ ((0 ≤ gb2 ∧ gb2 < (n_0 29) ∧ bt_ v_set (gb2).toNat = true ∧ y62_c120 gb2 = 0) ∧ 0 ≤ gd2 ∧ gd2 ≤ 1000000))) → (32 - gu) < (k178 : Int) → WM D cy q (upN n_0 0 0) (upF (upF (upF (upF (upF f_0 59 y59_c178) 60 y60_c178) 61 y61_c178) 62 y62_c120) 63 y63_c120) A0 H0 H locs → lv_has ls 11 [(0, .ref (q 0)), (1, .int (J v_set)), (2, .int (J v_what)), (3, .int (J gf)), (4, .int (J gc)), (5, .int (J gn)), (6, .int (J gb2)), (7, .int (J gv2)), (8, .int (J gd2)), (9, .int (J gw)), (10, .int (J gu))] → W p l e (rmd 2 0 0) s m ar below meth c H locs 0 0 QW (F0 m 178 ls []) := by
                                      intro k178
                                      induction k178 with
                                      | zero =>
                                        intro gb2 gv2 gd2 gu y61_c178 y59_c178 y60_c178 H locs ls r_gb2 r_gv2 r_gd2 r_gu iv178 ms178 hw hl
                                        exfalso; omega
                                      | succ k178 ih178 =>
                                        intro gb2 gv2 gd2 gu y61_c178 y59_c178 y60_c178 H locs ls r_gb2 r_gv2 r_gd2 r_gu iv178 ms178 hw hl
                                        refine j_iload E 180 rfl dX10_tree_178 (lv_at hl 10 rfl) ?_
                                        refine j_aload_n E 181 rfl dX10_tree_180 rfl (lv_at hl 0 rfl) ?_
                                        refine m_get_29 E hK hw (n_0 29) rfl 184 rfl dX10_tree_181 (fun _ => ?_)
                                        refine j_icmp_ge E 187 237 rfl r_gu rr27_ dX10_tree_184 (by decide) (fun cc39_ => ?_) (fun cc39_ => ?_)
                                        · refine j_iinc E 240 rfl [(9, .int (J (gw + 1))), (0, .ref (q 0)), (1, .int (J v_set)), (2, .int (J v_what)), (3, .int (J gf)), (4, .int (J gc)), (5, .int (J gn)), (6, .int (J gb2)), (7, .int (J gv2)), (8, .int (J gd2)), (10, .int (J gu))] dX10_tree_237 hl (kk := 9) rfl (by decide) rfl (fun ls hl => ?_)
                                          refine j_goto E 144 dX10_tree_240 (by decide) ?_
                                          exact ih144 gb2 gv2 gd2 (gw + 1) y61_c178 y59_c178 y60_c178 H locs ls r_gb2 r_gv2 r_gd2 (rr (by omega)) (by first | exact ⟨by omega, iv178.2.1, Or.inr (by rcases iv178.2.2 with q_ | q_; exact absurd q_.2.2 (by omega); exact q_)⟩ | exact ⟨by omega, iv144.2.1, by rcases iv144.2.2 with q_ | q_; exact Or.inl ⟨q_.1, q_.2.1, by first | (have n1_ := bt_ne (hq_.elim (fun h => h.2) (fun h => absurd h.1 (by omega))) w3_; omega) | (have n2_ : gw ≠ w0_ := fun e_ => absurd w4_ (by rw [← e_]; assumption); omega)⟩; exact Or.inr q_⟩) (by omega) hw (lv_sub hl [1, 2, 3, 4, 5, 6, 7, 8, 9, 0] rfl)
                                        · refine j_aload_n E 188 rfl dX10_tree_187 rfl (lv_at hl 0 rfl) ?_
                                          refine m_ag_62 E hK hw 191 rfl dX10_tree_188 ?_
                                          refine j_iload E 193 rfl dX10_tree_191 (lv_at hl 10 rfl) ?_
                                          refine m_ld_62 E hK hw (y62_c120 gu) rfl (by omega) 194 rfl dX10_tree_193 (fun rr40_ => ?_)
                                          refine j_if_eq E 197 231 rfl rr40_ dX10_tree_194 (by decide) (fun cc41_ => ?_) (fun cc41_ => ?_)
                                          · refine j_iinc E 234 rfl [(10, .int (J (gu + 1))), (0, .ref (q 0)), (1, .int (J v_set)), (2, .int (J v_what)), (3, .int (J gf)), (4, .int (J gc)), (5, .int (J gn)), (6, .int (J gb2)), (7, .int (J gv2)), (8, .int (J gd2)), (9, .int (J gw))] dX10_tree_231 hl (kk := 10) rfl (by decide) rfl (fun ls hl => ?_)
                                            refine j_goto E 178 dX10_tree_234 (by decide) ?_
                                            exact ih178 gb2 gv2 gd2 (gu + 1) y61_c178 y59_c178 y60_c178 H locs ls r_gb2 r_gv2 r_gd2 (rr (by omega)) (by first | exact ⟨by omega, hF_, Or.inr ⟨⟨by omega, by omega, hq_.elim (fun h => absurd h.1 (by omega)) (fun h => h.2), by assumption⟩, by omega, by omega⟩⟩ | exact ⟨by omega, hF_, by rcases iv178.2.2 with q_ | q_; exact absurd q_.2.1 (by omega); exact Or.inr q_⟩ | exact ⟨by omega, iv178.2.1, by rcases iv178.2.2 with q_ | q_; exact Or.inl ⟨q_.1, q_.2.1, by have n3_ : gu ≠ gf := fun e_ => iv120.2.1.2.2 (by rw [← e_]; assumption); omega⟩; exact Or.inr q_⟩) (by omega) hw (lv_sub hl [1, 2, 3, 4, 5, 6, 7, 8, 9, 10, 0] rfl)
                                          · refine j_aload_n E 198 rfl dX10_tree_197 rfl (lv_at hl 0 rfl) ?_
                                            refine j_iload E 200 rfl dX10_tree_198 (lv_at hl 10 rfl) ?_
                                            refine j_iload E 202 rfl dX10_tree_200 (lv_at hl 9 rfl) ?_
                                            have t1_ := i_tok gu (by omega) (by omega)
                                            have t2_ := i_tok gw (by omega) (by omega)
                                            refine m_calli E (c3_X10_farBetween l D cy q (upN n_0 0 0) (upF (upF (upF (upF (upF f_0 59 y59_c178) 60 y60_c178) 61 y61_c178) 62 y62_c120) 63 y63_c120) gu gw  r_gu r_gw (show 0 ≤ gu ∧ gu < 32 from by omega) (show 0 ≤ gw ∧ gw < 32 from by omega) (show FarK_ (y61_c178) (f_0 30) (f_0 31) (n_0 29) from iv178.2.1) (show 0 ≤ (f_0 31 gu) ∧ (f_0 31 gu) ≤ 400 from t1_) (show 0 ≤ (f_0 31 gw) ∧ (f_0 31 gw) ≤ 400 from t2_) (show gu < (n_0 29) ∧ gw < (n_0 29) ∧ (n_0 29) ≤ 32 from by omega)) rfl mt_X10_farBetween ml_X10_370 hK hw hA ⟨Nat.le_of_ble_eq_true rfl, Nat.le_of_ble_eq_true rfl⟩ (As := [.int (J gu), .int (J gw)]) (rest := []) rfl rfl hl.1 (Nat.le_of_ble_eq_true rfl) 205 rfl dX10_tree_202 (fun zz42_ n_42 f_42 H locs rr42_ hq42_ hw => ?_)
                                            obtain ⟨y61_42, y59_42, y60_42, en42_, ef42_, hq42_⟩ := hq42_
                                            rw [en42_, ef42_] at hw; clear en42_ ef42_
                                            have hw : WM D cy q (upN n_0 0 0) (upF (upF (upF (upF (upF f_0 59 y59_42) 60 y60_42) 61 y61_42) 62 y62_c120) 63 y63_c120) A0 H0 H locs := hw
                                            have hh42_ : FarK_ (y61_42) (f_0 30) (f_0 31) (n_0 29) ∧ 0 ≤ zz42_ ∧ zz42_ ≤ 800 ∧ zz42_ = tkd_ (f_0 30) (f_0 31) gu gw := hq42_
                                            clear hq42_
                                            have hF_ := hh42_.1
                                            refine j_iload E 207 rfl dX10_tree_205 (lv_at hl 8 rfl) ?_
                                            refine j_icmp_lt E 210 213 rfl rr42_ r_gd2 dX10_tree_207 (by decide) (fun cc43_ => ?_) (fun cc43_ => ?_)
                                            · refine j_iload E 215 rfl dX10_tree_213 (lv_at hl 9 rfl) ?_
                                              refine j_istore E 217 rfl [(6, .int (J gw)), (0, .ref (q 0)), (1, .int (J v_set)), (2, .int (J v_what)), (3, .int (J gf)), (4, .int (J gc)), (5, .int (J gn)), (7, .int (J gv2)), (8, .int (J gd2)), (9, .int (J gw)), (10, .int (J gu))] dX10_tree_215 hl (by decide) rfl (fun ls hl => ?_)
                                              refine j_iload E 219 rfl dX10_tree_217 (lv_at hl 10 rfl) ?_
                                              refine j_istore E 221 rfl [(7, .int (J gu)), (6, .int (J gw)), (0, .ref (q 0)), (1, .int (J v_set)), (2, .int (J v_what)), (3, .int (J gf)), (4, .int (J gc)), (5, .int (J gn)), (8, .int (J gd2)), (9, .int (J gw)), (10, .int (J gu))] dX10_tree_219 hl (by decide) rfl (fun ls hl => ?_)
                                              refine j_aload_n E 222 rfl dX10_tree_221 rfl (lv_at hl 2 rfl) ?_
                                              refine j_iload E 224 rfl dX10_tree_222 (lv_at hl 10 rfl) ?_
                                              refine j_iload E 226 rfl dX10_tree_224 (lv_at hl 9 rfl) ?_
                                              have t1_ := i_tok gu (by omega) (by omega)
                                              have t2_ := i_tok gw (by omega) (by omega)
                                              refine m_calli E (c3_X10_farBetween l D cy q (upN n_0 0 0) (upF (upF (upF (upF (upF f_0 59 y59_42) 60 y60_42) 61 y61_42) 62 y62_c120) 63 y63_c120) gu gw  r_gu r_gw (show 0 ≤ gu ∧ gu < 32 from by omega) (show 0 ≤ gw ∧ gw < 32 from by omega) (show FarK_ (y61_42) (f_0 30) (f_0 31) (n_0 29) from hF_) (show 0 ≤ (f_0 31 gu) ∧ (f_0 31 gu) ≤ 400 from t1_) (show 0 ≤ (f_0 31 gw) ∧ (f_0 31 gw) ≤ 400 from t2_) (show gu < (n_0 29) ∧ gw < (n_0 29) ∧ (n_0 29) ≤ 32 from by omega)) rfl mt_X10_farBetween ml_X10_370 hK hw hA ⟨Nat.le_of_ble_eq_true rfl, Nat.le_of_ble_eq_true rfl⟩ (As := [.int (J gu), .int (J gw)]) (rest := []) rfl rfl hl.1 (Nat.le_of_ble_eq_true rfl) 229 rfl dX10_tree_226 (fun zz44_ n_44 f_44 H locs rr44_ hq44_ hw => ?_)
                                              obtain ⟨y61_44, y59_44, y60_44, en44_, ef44_, hq44_⟩ := hq44_
                                              rw [en44_, ef44_] at hw; clear en44_ ef44_
                                              have hw : WM D cy q (upN n_0 0 0) (upF (upF (upF (upF (upF f_0 59 y59_44) 60 y60_44) 61 y61_44) 62 y62_c120) 63 y63_c120) A0 H0 H locs := hw
                                              have hh44_ : FarK_ (y61_44) (f_0 30) (f_0 31) (n_0 29) ∧ 0 ≤ zz44_ ∧ zz44_ ≤ 800 ∧ zz44_ = tkd_ (f_0 30) (f_0 31) gu gw := hq44_
                                              clear hq44_
                                              have hF_ := hh44_.1
                                              refine j_istore E 231 rfl [(8, .int (J zz44_)), (7, .int (J gu)), (6, .int (J gw)), (0, .ref (q 0)), (1, .int (J v_set)), (2, .int (J v_what)), (3, .int (J gf)), (4, .int (J gc)), (5, .int (J gn)), (9, .int (J gw)), (10, .int (J gu))] dX10_tree_229 hl (by decide) rfl (fun ls hl => ?_)
                                              refine j_iinc E 234 rfl [(10, .int (J (gu + 1))), (8, .int (J zz44_)), (7, .int (J gu)), (6, .int (J gw)), (0, .ref (q 0)), (1, .int (J v_set)), (2, .int (J v_what)), (3, .int (J gf)), (4, .int (J gc)), (5, .int (J gn)), (9, .int (J gw))] dX10_tree_231 hl (kk := 10) rfl (by decide) rfl (fun ls hl => ?_)
                                              refine j_goto E 178 dX10_tree_234 (by decide) ?_
                                              exact ih178 gw gu zz44_ (gu + 1) y61_44 y59_44 y60_44 H locs ls r_gw r_gu rr44_ (rr (by omega)) (by first | exact ⟨by omega, hF_, Or.inr ⟨⟨by omega, by omega, hq_.elim (fun h => absurd h.1 (by omega)) (fun h => h.2), by assumption⟩, by omega, by omega⟩⟩ | exact ⟨by omega, hF_, by rcases iv178.2.2 with q_ | q_; exact absurd q_.2.1 (by omega); exact Or.inr q_⟩ | exact ⟨by omega, iv178.2.1, by rcases iv178.2.2 with q_ | q_; exact Or.inl ⟨q_.1, q_.2.1, by have n3_ : gu ≠ gf := fun e_ => iv120.2.1.2.2 (by rw [← e_]; assumption); omega⟩; exact Or.inr q_⟩) (by omega) hw (lv_sub hl [4, 5, 6, 7, 8, 9, 3, 2, 1, 10, 0] rfl)
                                            · refine j_goto E 231 dX10_tree_210 (by decide) ?_
                                              refine j_iinc E 234 rfl [(10, .int (J (gu + 1))), (0, .ref (q 0)), (1, .int (J v_set)), (2, .int (J v_what)), (3, .int (J gf)), (4, .int (J gc)), (5, .int (J gn)), (6, .int (J gb2)), (7, .int (J gv2)), (8, .int (J gd2)), (9, .int (J gw))] dX10_tree_231 hl (kk := 10) rfl (by decide) rfl (fun ls hl => ?_)
                                              refine j_goto E 178 dX10_tree_234 (by decide) ?_
                                              exact ih178 gb2 gv2 gd2 (gu + 1) y61_42 y59_42 y60_42 H locs ls r_gb2 r_gv2 r_gd2 (rr (by omega)) (by first | exact ⟨by omega, hF_, Or.inr ⟨⟨by omega, by omega, hq_.elim (fun h => absurd h.1 (by omega)) (fun h => h.2), by assumption⟩, by omega, by omega⟩⟩ | exact ⟨by omega, hF_, by rcases iv178.2.2 with q_ | q_; exact absurd q_.2.1 (by omega); exact Or.inr q_⟩ | exact ⟨by omega, iv178.2.1, by rcases iv178.2.2 with q_ | q_; exact Or.inl ⟨q_.1, q_.2.1, by have n3_ : gu ≠ gf := fun e_ => iv120.2.1.2.2 (by rw [← e_]; assumption); omega⟩; exact Or.inr q_⟩) (by omega) hw (lv_sub hl [1, 2, 3, 4, 5, 6, 7, 8, 9, 10, 0] rfl)
                                    exact L178_37 _ gb gv gd 0 y61_c144 y59_c144 y60_c144 H locs ls r_gb r_gv r_gd (rr (by decide)) (⟨by omega, iv144.2.1, by rcases iv144.2.2 with q_ | q_; exact Or.inl ⟨q_.1, q_.2.1, by omega⟩; exact Or.inr q_⟩) (mk_lt _) hw (lv_sub hl [1, 2, 3, 4, 5, 6, 7, 8, 9, 10, 0] rfl)
                                  · refine j_goto E 237 dX10_tree_172 (by decide) ?_
                                    refine j_iinc E 240 rfl [(9, .int (J (gw + 1))), (0, .ref (q 0)), (1, .int (J v_set)), (2, .int (J v_what)), (3, .int (J gf)), (4, .int (J gc)), (5, .int (J gn)), (6, .int (J gb)), (7, .int (J gv)), (8, .int (J gd))] dX10_tree_237 hl (kk := 9) rfl (by decide) rfl (fun ls hl => ?_)
                                    refine j_goto E 144 dX10_tree_240 (by decide) ?_
                                    exact ih144 gb gv gd (gw + 1) y61_c144 y59_c144 y60_c144 H locs ls r_gb r_gv r_gd (rr (by omega)) (by first | exact ⟨by omega, iv178.2.1, Or.inr (by rcases iv178.2.2 with q_ | q_; exact absurd q_.2.2 (by omega); exact q_)⟩ | exact ⟨by omega, iv144.2.1, by rcases iv144.2.2 with q_ | q_; exact Or.inl ⟨q_.1, q_.2.1, by first | (have n1_ := bt_ne (hq_.elim (fun h => h.2) (fun h => absurd h.1 (by omega))) w3_; omega) | (have n2_ : gw ≠ w0_ := fun e_ => absurd w4_ (by rw [← e_]; assumption); omega)⟩; exact Or.inr q_⟩) (by omega) hw (lv_sub hl [1, 2, 3, 4, 5, 6, 7, 8, 9, 0] rfl)
                          exact L144_25 _ ((-1)) ((-1)) 1000000 0 y61_c120 y59_c120 y60_c120 H locs ls (rr (by decide)) (rr (by decide)) (rr (by decide)) (rr (by decide)) (⟨by omega, iv120.2.2, Or.inl ⟨rfl, rfl, by omega⟩⟩) (mk_lt _) hw (lv_sub hl [4, 5, 6, 7, 8, 9, 3, 2, 1, 0] rfl)
                    exact L120_19 _ 0 1 (upA (y62_c79) gf 1) (upA (f_0 63) gf ((-1))) (f_0 61) (f_0 59) (f_0 60) H locs ls (rr (by decide)) (rr (by decide)) (⟨by omega, Tr_first (fun j h1 h2 => iv79.2.2 j h1 (by omega)) (by omega) hb_, ⟨i_far, hp1⟩⟩) (mk_lt _) hw (lv_sub hl [2, 3, 4, 5, 1, 0] rfl)
                  · refine j_aload_n E 87 rfl dX10_tree_86 rfl (lv_at hl 0 rfl) ?_
                    refine m_ag_62 E hK hw 90 rfl dX10_tree_87 ?_
                    refine j_iload E 92 rfl dX10_tree_90 (lv_at hl 4 rfl) ?_
                    refine j_iconst E 93 rfl dX10_tree_92 ?_
                    refine m_st_62 E hK hw (by omega) (rr (by decide)) (Or.inl rfl) 94 rfl dX10_tree_93 (fun H locs hw => ?_)
                    have hw : WM D cy q (upN n_0 0 0) (upF f_0 62 (upA (y62_c79) gi 0)) A0 H0 H locs := hw
                    refine j_iinc E 97 rfl [(4, .int (J (gi + 1))), (0, .ref (q 0)), (1, .int (J v_set)), (2, .int (J v_what)), (3, .int (J gf))] dX10_tree_94 hl (kk := 4) rfl (by decide) rfl (fun ls hl => ?_)
                    refine j_goto E 79 dX10_tree_97 (by decide) ?_
                    exact ih79 (gi + 1) (upA (y62_c79) gi 0) H locs ls (rr (by omega)) (⟨by omega, by omega, z0_step iv79.2.2⟩) (by omega) hw (lv_sub hl [1, 2, 3, 4, 0] rfl)
              exact L79_14 _ 0 (f_0 62) H locs ls (rr (by decide)) (⟨by omega, by omega, fun j h1 h2 => absurd h2 (by omega)⟩) (mk_lt _) hw (lv_sub hl [1, 2, 3, 4, 0] rfl)
            · refine j_iload_n E 70 rfl dX10_tree_69 rfl (lv_at hl 3 rfl) ?_
              refine j_iconst E 71 rfl dX10_tree_70 ?_
              refine j_iadd E 72 rfl dX10_tree_71 ?_
              refine j_istore_n E 73 rfl [(3, .int (J (gf + 1))), (0, .ref (q 0)), (1, .int (J v_set)), (2, .int (J v_what))] dX10_tree_72 rfl hl (by decide) rfl (fun ls hl => ?_)
              refine j_goto E 61 dX10_tree_73 (by decide) ?_
              exact ih61 (gf + 1) H locs ls (rr (by omega)) (⟨by omega, by have n0_ := bt_ne (hs_.elim (fun h => h.2) (fun h => absurd h.1 (by omega))) i3_; omega⟩) (by omega) hw (lv_sub hl [1, 2, 3, 0] rfl)
        exact L61_9 _ 0 H locs ls (rr (by decide)) (by omega) (mk_lt _) hw (lv_sub hl [1, 2, 3, 0] rfl)
      refine j_iload_n E 31 rfl dX10_tree_30 rfl (lv_at hl 2 rfl) ?_
      refine j_if_eq E 34 59 rfl r_v_what dX10_tree_31 (by decide) (fun cc46_ => ?_) (fun cc46_ => ?_)
      · exact L59_7  H locs ls  (by omega) hw (lv_sub hl [0, 1, 2] rfl)
      · refine j_aload_n E 35 rfl dX10_tree_34 rfl (lv_at hl 0 rfl) ?_
        refine j_iload_n E 36 rfl dX10_tree_35 rfl (lv_at hl 2 rfl) ?_
        refine j_bipush E 38 rfl dX10_tree_36 (by decide) ?_
        refine j_bipush E 40 rfl dX10_tree_38 (by decide) ?_
        refine m_callp (po := fun z_0 => (z_0 = 1 ∧ (10 : Int) ≤ v_what ∧ v_what ≤ (41 : Int)) ∨ (z_0 = 0 ∧ (v_what < (10 : Int) ∨ (41 : Int) < v_what))) E (c_X10_isIn l D cy q (upN n_0 0 0) (f_0) v_what 10 41  r_v_what (rr (by decide)) (rr (by decide)) ) rfl mt_X10_isIn ml_X10_169 hK hw hA ⟨Nat.le_of_ble_eq_true rfl, Nat.le_of_ble_eq_true rfl⟩ (As := [.int (J v_what), .int (J 10), .int (J 41)]) (rest := []) rfl rfl hl.1 (Nat.le_of_ble_eq_true rfl) 43 rfl dX10_tree_40 (fun zz47_ H locs rr47_ hq47_ hw => ?_)
        have hh47_ : (zz47_ = 1 ∧ (10 : Int) ≤ v_what ∧ v_what ≤ (41 : Int)) ∨ (zz47_ = 0 ∧ (v_what < (10 : Int) ∨ (41 : Int) < v_what)) := hq47_
        clear hq47_
        rcases hh47_ with ⟨ee47_, hh47_⟩ | ⟨ee47_, hh47_⟩
        · subst ee47_
          refine j_if_eq E 46 57 rfl (rr (by decide)) dX10_tree_43 (by decide) (fun cc48_ => absurd cc48_ (by decide)) (fun _ => ?_)
          refine j_iload_n E 47 rfl dX10_tree_46 rfl (lv_at hl 1 rfl) ?_
          refine j_iload_n E 48 rfl dX10_tree_47 rfl (lv_at hl 2 rfl) ?_
          refine j_bipush E 50 rfl dX10_tree_48 (by decide) ?_
          refine j_isub E 51 rfl dX10_tree_50 ?_
          refine j_ishr E 52 rfl dX10_tree_51 (fun zz49_ rr49_ ee49_ => ?_)
          refine j_iconst E 53 rfl dX10_tree_52 ?_
          refine j_iand E 54 rfl dX10_tree_53 (fun zz50_ rr50_ ee50_ => ?_)
          refine j_if_ne E 57 59 rfl rr50_ dX10_tree_54 (by decide) (fun cc51_ => ?_) (fun cc51_ => ?_)
          · exact L59_7  H locs ls  (by omega) hw (lv_sub hl [0, 1, 2] rfl)
          · refine j_iconst E 58 rfl dX10_tree_57 ?_
            exact hret 58 ((-1)) (upN n_0 0 0) (upF (upF (upF (upF (upF f_0 59 (f_0 59)) 60 (f_0 60)) 61 (f_0 61)) 62 (f_0 62)) 63 (f_0 63)) _ _ ls hw (rr (by decide)) ⟨0, (f_0 62), (f_0 63), (f_0 61), (f_0 59), (f_0 60), rfl, rfl, ⟨⟨i_now, i_persons, i_lines, i_wordings, i_taped, i_suits, i_spk, i_fam, i_str, i_said, i_book, i_wds, i_tok, i_cod, (show Far_ (f_0 61) from by first | exact i_far | exact iv120.2.2.1), i_tap, i_qua, i_sil, i_stz, i_way⟩, by first | exact hp1 | exact iv120.2.2.2⟩⟩ dX10_tree_58
        · subst ee47_
          refine j_if_eq E 46 57 rfl (rr (by decide)) dX10_tree_43 (by decide) (fun _ => ?_) (fun cc52_ => absurd cc52_ (by decide))
          refine j_iconst E 58 rfl dX10_tree_57 ?_
          exact hret 58 ((-1)) (upN n_0 0 0) (upF (upF (upF (upF (upF f_0 59 (f_0 59)) 60 (f_0 60)) 61 (f_0 61)) 62 (f_0 62)) 63 (f_0 63)) _ _ ls hw (rr (by decide)) ⟨0, (f_0 62), (f_0 63), (f_0 61), (f_0 59), (f_0 60), rfl, rfl, ⟨⟨i_now, i_persons, i_lines, i_wordings, i_taped, i_suits, i_spk, i_fam, i_str, i_said, i_book, i_wds, i_tok, i_cod, (show Far_ (f_0 61) from by first | exact i_far | exact iv120.2.2.1), i_tap, i_qua, i_sil, i_stz, i_way⟩, by first | exact hp1 | exact iv120.2.2.2⟩⟩ dX10_tree_58
    · subst ee5_
      refine j_if_ne E 28 30 rfl (rr (by decide)) dX10_tree_25 (by decide) (fun cc53_ => absurd cc53_ (by decide)) (fun _ => ?_)
      refine j_iconst E 29 rfl dX10_tree_28 ?_
      exact hret 29 ((-1)) (upN n_0 0 0) (upF (upF (upF (upF (upF f_0 59 (f_0 59)) 60 (f_0 60)) 61 (f_0 61)) 62 (f_0 62)) 63 (f_0 63)) _ _ ls hw (rr (by decide)) ⟨0, (f_0 62), (f_0 63), (f_0 61), (f_0 59), (f_0 60), rfl, rfl, ⟨⟨i_now, i_persons, i_lines, i_wordings, i_taped, i_suits, i_spk, i_fam, i_str, i_said, i_book, i_wds, i_tok, i_cod, (show Far_ (f_0 61) from by first | exact i_far | exact iv120.2.2.1), i_tap, i_qua, i_sil, i_stz, i_way⟩, by first | exact hp1 | exact iv120.2.2.2⟩⟩ dX10_tree_29
  · subst ee2_
    refine j_if_eq E 13 28 rfl (rr (by decide)) dX10_tree_10 (by decide) (fun _ => ?_) (fun cc54_ => absurd cc54_ (by decide))
    refine j_iconst E 29 rfl dX10_tree_28 ?_
    exact hret 29 ((-1)) (upN n_0 0 0) (upF (upF (upF (upF (upF f_0 59 (f_0 59)) 60 (f_0 60)) 61 (f_0 61)) 62 (f_0 62)) 63 (f_0 63)) _ _ ls hw (rr (by decide)) ⟨0, (f_0 62), (f_0 63), (f_0 61), (f_0 59), (f_0 60), rfl, rfl, ⟨⟨i_now, i_persons, i_lines, i_wordings, i_taped, i_suits, i_spk, i_fam, i_str, i_said, i_book, i_wds, i_tok, i_cod, (show Far_ (f_0 61) from by first | exact i_far | exact iv120.2.2.1), i_tap, i_qua, i_sil, i_stz, i_way⟩, by first | exact hp1 | exact iv120.2.2.2⟩⟩ dX10_tree_29
set_option maxHeartbeats 4000000 in
set_option maxRecDepth 100000 in
theorem c3_X7_distanceTo (l : Launch) (D : va_G) (cy : Nat → ClassId) (T : Nat → Nat → Nat) (v_0 : Nat → Nat → Int) (o : Nat) (v_l : Int) (t_o : T 0 o = 8) (r_v_l : inR v_l) : KC l D cy T yX7_distanceTo cX7_distanceTo 2 (some .int) 1 [.ref o, .int (J v_l)] v_0 (KI (fun (z_0 : Int) (v_2 : Nat → Nat → Int) => v_2 = v_0 ∧ (((0 ≤ v_l ∧ v_l < ((T 1 (T 163 o) : Nat) : Int)) ∧ z_0 = gC_ (v_0 300) (T 163 o) v_l) ∨ (¬ (0 ≤ v_l ∧ v_l < ((T 1 (T 163 o) : Nat) : Int)) ∧ z_0 = -1)))) := by
  refine KC.ofi (by decide) (Nat.le_of_ble_eq_true rfl) ?_
  intro p e s m below meth c ls ar QW A0 H0 H locs E hK hA hw hl hret
  have hl : lv_has ls 2 [(0, .ref o), (1, .int (J v_l))] := hl
  have hT : WT T := hw.1.2.1
  refine j_iload_n E 1 rfl dX7_distanceTo_0 rfl (lv_at hl 1 rfl) ?_
  refine j_if_lt E 4 22 rfl r_v_l dX7_distanceTo_1 (by decide) (fun cc1_ => ?_) (fun cc1_ => ?_)
  · refine j_iconst E 23 rfl dX7_distanceTo_22 ?_
    exact hret 23 ((-1)) (v_0) _ _ ls hw (rr (by decide)) ⟨rfl, by first | exact Or.inl ⟨by omega, he_⟩ | exact Or.inr ⟨by omega, rfl⟩⟩ dX7_distanceTo_23
  · refine j_iload_n E 5 rfl dX7_distanceTo_4 rfl (lv_at hl 1 rfl) ?_
    refine j_aload_n E 6 rfl dX7_distanceTo_5 rfl (lv_at hl 0 rfl) ?_
    refine g_163 E hK hw fl_X7_28 t_o 9 rfl dX7_distanceTo_6 ?_
    refine a_ln20 E hK hw (wt_163 hT t_o) 10 rfl dX7_distanceTo_9 (fun rr2_ => ?_)
    refine j_icmp_ge E 13 22 rfl r_v_l rr2_ dX7_distanceTo_10 (by decide) (fun cc3_ => ?_) (fun cc3_ => ?_)
    · refine j_iconst E 23 rfl dX7_distanceTo_22 ?_
      exact hret 23 ((-1)) (v_0) _ _ ls hw (rr (by decide)) ⟨rfl, by first | exact Or.inl ⟨by omega, he_⟩ | exact Or.inr ⟨by omega, rfl⟩⟩ dX7_distanceTo_23
    · refine j_aload_n E 14 rfl dX7_distanceTo_13 rfl (lv_at hl 0 rfl) ?_
      refine g_163 E hK hw fl_X7_28 t_o 17 rfl dX7_distanceTo_14 ?_
      refine j_iload_n E 18 rfl dX7_distanceTo_17 rfl (lv_at hl 1 rfl) ?_
      refine a_ld20 E hK hw (wt_163 hT t_o) (by omega) 19 rfl dX7_distanceTo_18 (fun zz4_ he4_ rr4_ => ?_)
      have he4_ : zz4_ = v_0 300 (pr (T 163 o) (Int.toNat v_l)) := he4_
      have he_ : zz4_ = gC_ (v_0 300) (T 163 o) v_l := he4_
      refine j_goto E 23 dX7_distanceTo_19 (by decide) ?_
      exact hret 23 zz4_ (v_0) _ _ ls hw rr4_ ⟨rfl, by first | exact Or.inl ⟨by omega, he_⟩ | exact Or.inr ⟨by omega, rfl⟩⟩ dX7_distanceTo_23
set_option maxHeartbeats 4000000 in
set_option maxRecDepth 100000 in
theorem c3_X7_keepDistance (l : Launch) (D : va_G) (cy : Nat → ClassId) (T : Nat → Nat → Nat) (v_0 : Nat → Nat → Int) (o : Nat) (v_l : Int) (v_c : Int) (t_o : T 0 o = 8) (r_v_l : inR v_l) (r_v_c : inR v_c) : KC l D cy T yX7_keepDistance cX7_keepDistance 3 none 1 [.ref o, .int (J v_l), .int (J v_c)] v_0 (KV (fun (v_2 : Nat → Nat → Int) => ∃ (y300_2 : Nat → Int) , v_2 = upV v_0 300 y300_2 ∧ ((((0 ≤ v_l ∧ v_l < ((T 1 (T 163 o) : Nat) : Int)) ∧ (y300_2) = upB (v_0 300) (pr (T 163 o) (Int.toNat v_l)) v_c) ∨ (¬ (0 ≤ v_l ∧ v_l < ((T 1 (T 163 o) : Nat) : Int)) ∧ (y300_2) = (v_0 300))) ∧ Kd_ T [163] (v_0 300) y300_2))) := by
  refine KC.ofv (by decide) (Nat.le_of_ble_eq_true rfl) ?_
  intro p e s m below meth c ls ar QW A0 H0 H locs E hK hA hw hl hret
  have hl : lv_has ls 3 [(0, .ref o), (1, .int (J v_l)), (2, .int (J v_c))] := hl
  have hT : WT T := hw.1.2.1
  refine j_iload_n E 1 rfl dX7_keepDistance_0 rfl (lv_at hl 1 rfl) ?_
  refine j_if_lt E 4 20 rfl r_v_l dX7_keepDistance_1 (by decide) (fun cc1_ => ?_) (fun cc1_ => ?_)
  · exact hret 20 (upV v_0 300 (v_0 300)) _ _ ls (cw_eq hw (by first | rfl | (funext j_; simp only [upV, reduceIte]; (repeat' split) <;> first | rfl | omega | (subst_vars; rfl)))) ⟨(v_0 300), rfl, ⟨by first | exact Or.inl ⟨by omega, rfl⟩ | exact Or.inr ⟨by omega, rfl⟩, Kd_rf⟩⟩ dX7_keepDistance_20
  · refine j_iload_n E 5 rfl dX7_keepDistance_4 rfl (lv_at hl 1 rfl) ?_
    refine j_aload_n E 6 rfl dX7_keepDistance_5 rfl (lv_at hl 0 rfl) ?_
    refine g_163 E hK hw fl_X7_28 t_o 9 rfl dX7_keepDistance_6 ?_
    refine a_ln20 E hK hw (wt_163 hT t_o) 10 rfl dX7_keepDistance_9 (fun rr2_ => ?_)
    refine j_icmp_ge E 13 20 rfl r_v_l rr2_ dX7_keepDistance_10 (by decide) (fun cc3_ => ?_) (fun cc3_ => ?_)
    · exact hret 20 (upV v_0 300 (v_0 300)) _ _ ls (cw_eq hw (by first | rfl | (funext j_; simp only [upV, reduceIte]; (repeat' split) <;> first | rfl | omega | (subst_vars; rfl)))) ⟨(v_0 300), rfl, ⟨by first | exact Or.inl ⟨by omega, rfl⟩ | exact Or.inr ⟨by omega, rfl⟩, Kd_rf⟩⟩ dX7_keepDistance_20
    · refine j_aload_n E 14 rfl dX7_keepDistance_13 rfl (lv_at hl 0 rfl) ?_
      refine g_163 E hK hw fl_X7_28 t_o 17 rfl dX7_keepDistance_14 ?_
      refine j_iload_n E 18 rfl dX7_keepDistance_17 rfl (lv_at hl 1 rfl) ?_
      refine j_iload_n E 19 rfl dX7_keepDistance_18 rfl (lv_at hl 2 rfl) ?_
      refine a_st20 E hK hw (wt_163 hT t_o) r_v_c (by omega) 20 rfl dX7_keepDistance_19 (fun H locs hw => ?_)
      have hw : WK D cy T (upV v_0 300 (upB (v_0 300) ((pr (T 163 o) (Int.toNat v_l))) v_c)) A0 H0 H locs := cw_eq hw (by first | rfl | (funext j_; simp only [upV, reduceIte]; (repeat' split) <;> first | rfl | omega | (subst_vars; rfl)))
      exact hret 20 (upV v_0 300 (upB (v_0 300) ((pr (T 163 o) (Int.toNat v_l))) v_c)) _ _ ls hw ⟨(upB (v_0 300) ((pr (T 163 o) (Int.toNat v_l))) v_c), rfl, ⟨by first | exact Or.inl ⟨by omega, rfl⟩ | exact Or.inr ⟨by omega, rfl⟩, (Kd_tr Kd_rf (Kd_up (wok (wo_163 hT t_o) (by decide)) (by decide)))⟩⟩ dX7_keepDistance_20
set_option maxHeartbeats 4000000 in
set_option maxRecDepth 100000 in
theorem c3_X7_isSameFromEnd (l : Launch) (D : va_G) (cy : Nat → ClassId) (T : Nat → Nat → Nat) (v_0 : Nat → Nat → Int) (a_m : Nat) (a_t : Nat) (v_h : Int) (v_l : Int) (t_m : T 0 a_m = 20) (t_t : T 0 a_t = 20) (r_v_h : inR v_h) (r_v_l : inR v_l) (hp0 : 0 ≤ v_h ∧ 0 ≤ v_l ∧ v_l ≤ (T 1 a_m : Int) ∧ v_l ≤ (T 1 a_t : Int)) : KC l D cy T yX7_isSameFromEnd cX7_isSameFromEnd 6 (some .boolean) 1 [.ref a_m, .ref a_t, .int (J v_h), .int (J v_l)] v_0 (KI (fun (z_0 : Int) (v_2 : Nat → Nat → Int) => v_2 = v_0 ∧ ((z_0 = 1 ∧ (v_h ≤ (T 1 a_m : Int) - 1 - v_l ∧ v_h ≤ (T 1 a_t : Int) - 1 - v_l) ∧ gC_ (v_0 300) a_m ((T 1 a_m : Int) - 1 - v_l) = gC_ (v_0 300) a_t ((T 1 a_t : Int) - 1 - v_l)) ∨ z_0 = 0))) := by
  refine KC.ofz (by decide) (Nat.le_of_ble_eq_true rfl) ?_
  intro p e s m below meth c ls ar QW A0 H0 H locs E hK hA hw hl hret
  have hl : lv_has ls 6 [(0, .ref a_m), (1, .ref a_t), (2, .int (J v_h)), (3, .int (J v_l))] := hl
  have hT : WT T := hw.1.2.1
  refine j_aload_n E 1 rfl dX7_isSameFromEnd_0 rfl (lv_at hl 0 rfl) ?_
  refine a_ln20 E hK hw t_m 2 rfl dX7_isSameFromEnd_1 (fun rr1_ => ?_)
  refine j_iconst E 3 rfl dX7_isSameFromEnd_2 ?_
  refine j_isub E 4 rfl dX7_isSameFromEnd_3 ?_
  refine j_iload_n E 5 rfl dX7_isSameFromEnd_4 rfl (lv_at hl 3 rfl) ?_
  refine j_isub E 6 rfl dX7_isSameFromEnd_5 ?_
  refine j_istore E 8 rfl [(4, .int (J ((((T 1 a_m : Int)) - 1) - v_l))), (0, .ref a_m), (1, .ref a_t), (2, .int (J v_h)), (3, .int (J v_l))] dX7_isSameFromEnd_6 hl (by decide) rfl (fun ls hl => ?_)
  refine j_aload_n E 9 rfl dX7_isSameFromEnd_8 rfl (lv_at hl 2 rfl) ?_
  refine a_ln20 E hK hw t_t 10 rfl dX7_isSameFromEnd_9 (fun rr2_ => ?_)
  refine j_iconst E 11 rfl dX7_isSameFromEnd_10 ?_
  refine j_isub E 12 rfl dX7_isSameFromEnd_11 ?_
  refine j_iload_n E 13 rfl dX7_isSameFromEnd_12 rfl (lv_at hl 4 rfl) ?_
  refine j_isub E 14 rfl dX7_isSameFromEnd_13 ?_
  refine j_istore E 16 rfl [(5, .int (J ((((T 1 a_t : Int)) - 1) - v_l))), (4, .int (J ((((T 1 a_m : Int)) - 1) - v_l))), (0, .ref a_m), (1, .ref a_t), (2, .int (J v_h)), (3, .int (J v_l))] dX7_isSameFromEnd_14 hl (by decide) rfl (fun ls hl => ?_)
  refine j_iload E 18 rfl dX7_isSameFromEnd_16 (lv_at hl 1 rfl) ?_
  refine j_iload_n E 19 rfl dX7_isSameFromEnd_18 rfl (lv_at hl 4 rfl) ?_
  refine j_icmp_lt E 22 57 rfl (rr (by omega)) r_v_h dX7_isSameFromEnd_19 (by decide) (fun cc3_ => ?_) (fun cc3_ => ?_)
  · refine j_iconst E 58 rfl dX7_isSameFromEnd_57 ?_
    exact hret 58 0 (v_0) _ _ ls hw (Or.inl rfl) ⟨rfl, by first | exact Or.inl ⟨rfl, by omega, by omega⟩ | exact Or.inr rfl⟩ dX7_isSameFromEnd_58
  · refine j_iload E 24 rfl dX7_isSameFromEnd_22 (lv_at hl 0 rfl) ?_
    refine j_iload_n E 25 rfl dX7_isSameFromEnd_24 rfl (lv_at hl 4 rfl) ?_
    refine j_icmp_lt E 28 57 rfl (rr (by omega)) r_v_h dX7_isSameFromEnd_25 (by decide) (fun cc4_ => ?_) (fun cc4_ => ?_)
    · refine j_iconst E 58 rfl dX7_isSameFromEnd_57 ?_
      exact hret 58 0 (v_0) _ _ ls hw (Or.inl rfl) ⟨rfl, by first | exact Or.inl ⟨rfl, by omega, by omega⟩ | exact Or.inr rfl⟩ dX7_isSameFromEnd_58
    · refine j_iload E 30 rfl dX7_isSameFromEnd_28 (lv_at hl 1 rfl) ?_
      refine j_aload_n E 31 rfl dX7_isSameFromEnd_30 rfl (lv_at hl 2 rfl) ?_
      refine a_ln20 E hK hw t_m 32 rfl dX7_isSameFromEnd_31 (fun _ => ?_)
      refine j_icmp_ge E 35 57 rfl (rr (by omega)) rr1_ dX7_isSameFromEnd_32 (by decide) (fun cc5_ => ?_) (fun cc5_ => ?_)
      · refine j_iconst E 58 rfl dX7_isSameFromEnd_57 ?_
        exact hret 58 0 (v_0) _ _ ls hw (Or.inl rfl) ⟨rfl, by first | exact Or.inl ⟨rfl, by omega, by omega⟩ | exact Or.inr rfl⟩ dX7_isSameFromEnd_58
      · refine j_iload E 37 rfl dX7_isSameFromEnd_35 (lv_at hl 0 rfl) ?_
        refine j_aload_n E 38 rfl dX7_isSameFromEnd_37 rfl (lv_at hl 3 rfl) ?_
        refine a_ln20 E hK hw t_t 39 rfl dX7_isSameFromEnd_38 (fun _ => ?_)
        refine j_icmp_ge E 42 57 rfl (rr (by omega)) rr2_ dX7_isSameFromEnd_39 (by decide) (fun cc6_ => ?_) (fun cc6_ => ?_)
        · refine j_iconst E 58 rfl dX7_isSameFromEnd_57 ?_
          exact hret 58 0 (v_0) _ _ ls hw (Or.inl rfl) ⟨rfl, by first | exact Or.inl ⟨rfl, by omega, by omega⟩ | exact Or.inr rfl⟩ dX7_isSameFromEnd_58
        · refine j_aload_n E 43 rfl dX7_isSameFromEnd_42 rfl (lv_at hl 2 rfl) ?_
          refine j_iload E 45 rfl dX7_isSameFromEnd_43 (lv_at hl 1 rfl) ?_
          refine a_ld20 E hK hw t_m (by omega) 46 rfl dX7_isSameFromEnd_45 (fun zz7_ he7_ rr7_ => ?_)
          have he7_ : zz7_ = v_0 300 (pr a_m (Int.toNat ((((T 1 a_m : Int)) - 1) - v_l))) := he7_
          have h1_ : zz7_ = gC_ (v_0 300) a_m ((T 1 a_m : Int) - 1 - v_l) := he7_
          refine j_aload_n E 47 rfl dX7_isSameFromEnd_46 rfl (lv_at hl 3 rfl) ?_
          refine j_iload E 49 rfl dX7_isSameFromEnd_47 (lv_at hl 0 rfl) ?_
          refine a_ld20 E hK hw t_t (by omega) 50 rfl dX7_isSameFromEnd_49 (fun zz8_ he8_ rr8_ => ?_)
          have he8_ : zz8_ = v_0 300 (pr a_t (Int.toNat ((((T 1 a_t : Int)) - 1) - v_l))) := he8_
          have h2_ : zz8_ = gC_ (v_0 300) a_t ((T 1 a_t : Int) - 1 - v_l) := he8_
          refine j_icmp_ne E 53 57 rfl rr7_ rr8_ dX7_isSameFromEnd_50 (by decide) (fun cc9_ => ?_) (fun cc9_ => ?_)
          · refine j_iconst E 58 rfl dX7_isSameFromEnd_57 ?_
            exact hret 58 0 (v_0) _ _ ls hw (Or.inl rfl) ⟨rfl, by first | exact Or.inl ⟨rfl, by omega, by omega⟩ | exact Or.inr rfl⟩ dX7_isSameFromEnd_58
          · refine j_iconst E 54 rfl dX7_isSameFromEnd_53 ?_
            refine j_goto E 58 dX7_isSameFromEnd_54 (by decide) ?_
            exact hret 58 1 (v_0) _ _ ls hw (Or.inr rfl) ⟨rfl, by first | exact Or.inl ⟨rfl, by omega, by omega⟩ | exact Or.inr rfl⟩ dX7_isSameFromEnd_58
set_option maxHeartbeats 4000000 in
set_option maxRecDepth 100000 in
theorem c3_X7_stepRow (l : Launch) (D : va_G) (cy : Nat → ClassId) (T : Nat → Nat → Nat) (v_0 : Nat → Nat → Int) (v_k : Int) (a_t : Nat) (v_h : Int) (a_r : Nat) (v_w : Int) (A_ : Int → Int) (B_ : Int → Int) (i_ : Int) (r_v_k : inR v_k) (t_t : T 0 a_t = 20) (r_v_h : inR v_h) (t_r : T 0 a_r = 20) (r_v_w : inR v_w) (hp0 : 0 ≤ v_h ∧ v_w + v_h ≤ (T 1 a_t : Int)) (hp1 : 0 ≤ v_w ∧ v_w < (T 1 a_r : Int) ∧ v_w ≤ 400 ∧ 0 ≤ i_ ∧ i_ ≤ 400) (hp2 : (∀ j_, 0 ≤ j_ → j_ < v_w + 1 → gC_ (v_0 300) a_r j_ = Ld_ A_ B_ (i_).toNat j_.toNat)) (hp3 : v_k = A_ i_) (hp4 : ∀ j_, 0 ≤ j_ → j_ < v_w → gC_ (v_0 300) a_t (v_h + j_) = B_ j_) (hp5 : a_t ≠ a_r) : KC l D cy T yX7_stepRow cX7_stepRow 10 none 2 [.int (J v_k), .ref a_t, .int (J v_h), .ref a_r, .int (J v_w)] v_0 (KV (fun (v_2 : Nat → Nat → Int) => ∃ (y300_2 : Nat → Int) , v_2 = upV v_0 300 y300_2 ∧ (((∀ j_, 0 ≤ j_ → j_ < v_w + 1 → gC_ (y300_2) a_r j_ = Ld_ A_ B_ (i_ + 1).toNat j_.toNat)) ∧ Ro_ (v_0 300) y300_2 a_r))) := by
  refine KC.ofv (by decide) (Nat.le_of_ble_eq_true rfl) ?_
  intro p e s m below meth c ls ar QW A0 H0 H locs E hK hA hw hl hret
  have hl : lv_has ls 10 [(0, .int (J v_k)), (1, .ref a_t), (2, .int (J v_h)), (3, .ref a_r), (4, .int (J v_w))] := hl
  have hT : WT T := hw.1.2.1
  refine j_aload_n E 1 rfl dX7_stepRow_0 rfl (lv_at hl 3 rfl) ?_
  refine a_ln20 E hK hw t_r 2 rfl dX7_stepRow_1 (fun rr1_ => ?_)
  refine j_if_ne E 5 6 rfl rr1_ dX7_stepRow_2 (by decide) (fun cc2_ => ?_) (fun cc2_ => ?_)
  · refine j_aload_n E 7 rfl dX7_stepRow_6 rfl (lv_at hl 3 rfl) ?_
    refine j_iconst E 8 rfl dX7_stepRow_7 ?_
    refine a_ld20 E hK hw t_r (by omega) 9 rfl dX7_stepRow_8 (fun zz3_ he3_ rr3_ => ?_)
    have he3_ : zz3_ = v_0 300 (pr a_r (Int.toNat 0)) := he3_
    have d0_ : zz3_ = gC_ (v_0 300) a_r 0 := he3_
    have d1_ := hp2 0 (by omega) (by omega)
    rw [show (0 : Int).toNat = 0 from rfl, Ld_z] at d1_
    refine j_istore E 11 rfl [(5, .int (J zz3_)), (0, .int (J v_k)), (1, .ref a_t), (2, .int (J v_h)), (3, .ref a_r), (4, .int (J v_w))] dX7_stepRow_9 hl (by decide) rfl (fun ls hl => ?_)
    refine j_iload E 13 rfl dX7_stepRow_11 (lv_at hl 0 rfl) ?_
    refine j_iconst E 14 rfl dX7_stepRow_13 ?_
    refine j_iadd E 15 rfl dX7_stepRow_14 ?_
    refine j_istore E 17 rfl [(6, .int (J (zz3_ + 1))), (5, .int (J zz3_)), (0, .int (J v_k)), (1, .ref a_t), (2, .int (J v_h)), (3, .ref a_r), (4, .int (J v_w))] dX7_stepRow_15 hl (by decide) rfl (fun ls hl => ?_)
    refine j_aload_n E 18 rfl dX7_stepRow_17 rfl (lv_at hl 5 rfl) ?_
    refine j_iconst E 19 rfl dX7_stepRow_18 ?_
    refine j_iload E 21 rfl dX7_stepRow_19 (lv_at hl 0 rfl) ?_
    refine a_st20 E hK hw t_r (rr (by omega)) (by omega) 22 rfl dX7_stepRow_21 (fun H locs hw => ?_)
    have hw : WK D cy T (upV v_0 300 (upB (v_0 300) ((pr a_r (Int.toNat 0))) (zz3_ + 1))) A0 H0 H locs := cw_eq hw (by first | rfl | (funext j_; simp only [upV, reduceIte]; (repeat' split) <;> first | rfl | omega | (subst_vars; rfl)))
    refine j_iconst E 23 rfl dX7_stepRow_22 ?_
    refine j_istore E 25 rfl [(7, .int (J 1)), (6, .int (J (zz3_ + 1))), (5, .int (J zz3_)), (0, .int (J v_k)), (1, .ref a_t), (2, .int (J v_h)), (3, .ref a_r), (4, .int (J v_w))] dX7_stepRow_23 hl (by decide) rfl (fun ls hl => ?_)
    have L25_5 : ∀ (k25 : Nat) (l5_25 l6_25 l7_25 : Int) (y300_c25 : Nat → Int) (H : Heap) (locs : List Loc) (ls : Array Slot), inR l5_25 → inR l6_25 → inR l7_25 → ((1 ≤ l7_25 ∧ l7_25 ≤ v_w + 1 ∧ l5_25 = Ld_ A_ B_ (i_).toNat (l7_25 - 1).toNat ∧ l6_25 = Ld_ A_ B_ (i_ + 1).toNat (l7_25 - 1).toNat ∧ (∀ j_, 0 ≤ j_ → j_ < l7_25 → gC_ (y300_c25) a_r j_ = Ld_ A_ B_ (i_ + 1).toNat j_.toNat) ∧ (∀ j_, l7_25 ≤ j_ → j_ < v_w + 1 → gC_ (y300_c25) a_r j_ = Ld_ A_ B_ (i_).toNat j_.toNat)) ∧ Ro_ (v_0 300) y300_c25 a_r) → ((T 1 a_r : Int) - l7_25).toNat < k25 → WK D cy T (upV v_0 300 y300_c25) A0 H0 H locs → lv_has ls 10 [(0, .int (J v_k)), (1, .ref a_t), (2, .int (J v_h)), (3, .ref a_r), (4, .int (J v_w)), (5, .int (J l5_25)), (6, .int (J l6_25)), (7, .int (J l7_25))] → W p l e (rmd 2 0 0) s m ar below meth c H locs 0 0 QW (F0 m 25 ls []) := by
      intro k25
      induction k25 with
      | zero =>
        intro l5_25 l6_25 l7_25 y300_c25 H locs ls r_l5_25 r_l6_25 r_l7_25 iv25 ms25 hw hl
        exact absurd ms25 (Nat.not_lt_zero _)
      | succ k25 ih25 =>
        intro l5_25 l6_25 l7_25 y300_c25 H locs ls r_l5_25 r_l6_25 r_l7_25 iv25 ms25 hw hl
        obtain ⟨iv25, ik25_⟩ := iv25
        have o5_ := Ld_bd (A := A_) (B := B_) (i := i_) (j := l7_25 - 1) (by omega) (by omega)
        have o6_ := Ld_bd (A := A_) (B := B_) (i := i_ + 1) (j := l7_25 - 1) (by omega) (by omega)
        refine j_iload E 27 rfl dX7_stepRow_25 (lv_at hl 7 rfl) ?_
        refine j_iload E 29 rfl dX7_stepRow_27 (lv_at hl 4 rfl) ?_
        refine j_icmp_gt E 32 110 rfl r_l7_25 r_v_w dX7_stepRow_29 (by decide) (fun cc7_ => ?_) (fun cc7_ => ?_)
        · exact hret 110 (upV v_0 300 y300_c25) _ _ ls hw ⟨y300_c25, rfl, ⟨fun j_ h1_ h2_ => iv25.2.2.2.2.1 j_ h1_ (by omega), ik25_⟩⟩ dX7_stepRow_110
        · refine j_iload E 34 rfl dX7_stepRow_32 (lv_at hl 7 rfl) ?_
          refine j_aload_n E 35 rfl dX7_stepRow_34 rfl (lv_at hl 3 rfl) ?_
          refine a_ln20 E hK hw t_r 36 rfl dX7_stepRow_35 (fun _ => ?_)
          refine j_icmp_ge E 39 110 rfl r_l7_25 rr1_ dX7_stepRow_36 (by decide) (fun cc8_ => ?_) (fun cc8_ => ?_)
          · exact hret 110 (upV v_0 300 y300_c25) _ _ ls hw ⟨y300_c25, rfl, ⟨fun j_ h1_ h2_ => iv25.2.2.2.2.1 j_ h1_ (by omega), ik25_⟩⟩ dX7_stepRow_110
          · refine j_iload_n E 40 rfl dX7_stepRow_39 rfl (lv_at hl 2 rfl) ?_
            refine j_iload E 42 rfl dX7_stepRow_40 (lv_at hl 7 rfl) ?_
            refine j_iadd E 43 rfl dX7_stepRow_42 ?_
            refine j_iconst E 44 rfl dX7_stepRow_43 ?_
            refine j_isub E 45 rfl dX7_stepRow_44 ?_
            refine j_aload_n E 46 rfl dX7_stepRow_45 rfl (lv_at hl 1 rfl) ?_
            refine a_ln20 E hK hw t_t 47 rfl dX7_stepRow_46 (fun rr9_ => ?_)
            refine j_icmp_ge E 50 110 rfl (rr (by omega)) rr9_ dX7_stepRow_47 (by decide) (fun cc10_ => ?_) (fun cc10_ => ?_)
            · exact hret 110 (upV v_0 300 y300_c25) _ _ ls hw ⟨y300_c25, rfl, ⟨fun j_ h1_ h2_ => iv25.2.2.2.2.1 j_ h1_ (by omega), ik25_⟩⟩ dX7_stepRow_110
            · refine j_aload_n E 51 rfl dX7_stepRow_50 rfl (lv_at hl 3 rfl) ?_
              refine j_iload E 53 rfl dX7_stepRow_51 (lv_at hl 7 rfl) ?_
              refine a_ld20 E hK hw t_r (by omega) 54 rfl dX7_stepRow_53 (fun zz11_ he11_ rr11_ => ?_)
              have he11_ : zz11_ = y300_c25 (pr a_r (Int.toNat l7_25)) := he11_
              have d2_ : zz11_ = gC_ (y300_c25) a_r l7_25 := he11_
              have d3_ := iv25.2.2.2.2.2 l7_25 (by omega) (by omega)
              have d4_ := Ld_bd (A := A_) (B := B_) (i := i_) (j := l7_25) (by omega) (by omega)
              refine j_istore E 56 rfl [(8, .int (J zz11_)), (0, .int (J v_k)), (1, .ref a_t), (2, .int (J v_h)), (3, .ref a_r), (4, .int (J v_w)), (5, .int (J l5_25)), (6, .int (J l6_25)), (7, .int (J l7_25))] dX7_stepRow_54 hl (by decide) rfl (fun ls hl => ?_)
              refine j_iload E 58 rfl dX7_stepRow_56 (lv_at hl 6 rfl) ?_
              refine j_iload_n E 59 rfl dX7_stepRow_58 rfl (lv_at hl 1 rfl) ?_
              refine j_aload_n E 60 rfl dX7_stepRow_59 rfl (lv_at hl 2 rfl) ?_
              refine j_iload_n E 61 rfl dX7_stepRow_60 rfl (lv_at hl 3 rfl) ?_
              refine j_iload E 63 rfl dX7_stepRow_61 (lv_at hl 8 rfl) ?_
              refine j_iadd E 64 rfl dX7_stepRow_63 ?_
              refine j_iconst E 65 rfl dX7_stepRow_64 ?_
              refine j_isub E 66 rfl dX7_stepRow_65 ?_
              refine a_ld20 E hK hw t_t (by omega) 67 rfl dX7_stepRow_66 (fun zz12_ he12_ rr12_ => ?_)
              have he12_ : zz12_ = y300_c25 (pr a_t (Int.toNat ((v_h + l7_25) - 1))) := he12_
              have d5_ : zz12_ = B_ (l7_25 - 1) := by rw [← hp4 (l7_25 - 1) (by omega) (by omega), ← gC_ro ik25_ hp5]; show _ = gC_ _ _ _; rw [show v_h + (l7_25 - 1) = v_h + l7_25 - 1 by omega]; exact he12_
              refine j_icmp_ne E 70 74 rfl r_v_k rr12_ dX7_stepRow_67 (by decide) (fun cc13_ => ?_) (fun cc13_ => ?_)
              · refine j_iconst E 75 rfl dX7_stepRow_74 ?_
                refine j_iadd E 76 rfl dX7_stepRow_75 ?_
                refine j_istore E 78 rfl [(9, .int (J (l5_25 + 1))), (8, .int (J zz11_)), (0, .int (J v_k)), (1, .ref a_t), (2, .int (J v_h)), (3, .ref a_r), (4, .int (J v_w)), (5, .int (J l5_25)), (6, .int (J l6_25)), (7, .int (J l7_25))] dX7_stepRow_76 hl (by decide) rfl (fun ls hl => ?_)
                refine j_iload E 80 rfl dX7_stepRow_78 (lv_at hl 0 rfl) ?_
                refine j_iload E 82 rfl dX7_stepRow_80 (lv_at hl 1 rfl) ?_
                refine j_iload E 84 rfl dX7_stepRow_82 (lv_at hl 8 rfl) ?_
                refine j_min E hl.1 ml_X7_45 rr11_ r_l6_25 ⟨Nat.le_of_ble_eq_true rfl, Nat.le_of_ble_eq_true rfl⟩ ⟨Nat.le_of_ble_eq_true rfl, Nat.le_of_ble_eq_true rfl⟩ 87 rfl dX7_stepRow_84 (fun zz14_ rr14_ hh14_ => ?_)
                have mi1_ := hh14_
                clear hh14_
                refine j_iconst E 88 rfl dX7_stepRow_87 ?_
                refine j_iadd E 89 rfl dX7_stepRow_88 ?_
                refine j_min E hl.1 ml_X7_45 (rr (by omega)) (rr (by omega)) ⟨Nat.le_of_ble_eq_true rfl, Nat.le_of_ble_eq_true rfl⟩ ⟨Nat.le_of_ble_eq_true rfl, Nat.le_of_ble_eq_true rfl⟩ 92 rfl dX7_stepRow_89 (fun zz15_ rr15_ hh15_ => ?_)
                have mi2_ := hh15_
                clear hh15_
                refine j_istore E 94 rfl [(6, .int (J zz15_)), (9, .int (J (l5_25 + 1))), (8, .int (J zz11_)), (0, .int (J v_k)), (1, .ref a_t), (2, .int (J v_h)), (3, .ref a_r), (4, .int (J v_w)), (5, .int (J l5_25)), (7, .int (J l7_25))] dX7_stepRow_92 hl (by decide) rfl (fun ls hl => ?_)
                have nx_ : zz15_ = Ld_ A_ B_ (i_ + 1).toNat (l7_25).toNat := Ld_sr (by omega) (by omega) iv25.2.2.1 (d2_.trans d3_) iv25.2.2.2.1 (by first | exact (ne_e (by rw [← hp3, ← d5_]; assumption)).symm | exact (ne_n (by rw [← hp3, ← d5_]; assumption)).symm) mi1_ mi2_
                refine j_aload_n E 95 rfl dX7_stepRow_94 rfl (lv_at hl 6 rfl) ?_
                refine j_iload E 97 rfl dX7_stepRow_95 (lv_at hl 9 rfl) ?_
                refine j_iload E 99 rfl dX7_stepRow_97 (lv_at hl 0 rfl) ?_
                refine a_st20 E hK hw t_r rr15_ (by omega) 100 rfl dX7_stepRow_99 (fun H locs hw => ?_)
                have hw : WK D cy T (upV v_0 300 (upB y300_c25 ((pr a_r (Int.toNat l7_25))) zz15_)) A0 H0 H locs := cw_eq hw (by first | rfl | (funext j_; simp only [upV, reduceIte]; (repeat' split) <;> first | rfl | omega | (subst_vars; rfl)))
                refine j_iload E 102 rfl dX7_stepRow_100 (lv_at hl 2 rfl) ?_
                refine j_istore E 104 rfl [(5, .int (J zz11_)), (6, .int (J zz15_)), (9, .int (J (l5_25 + 1))), (8, .int (J zz11_)), (0, .int (J v_k)), (1, .ref a_t), (2, .int (J v_h)), (3, .ref a_r), (4, .int (J v_w)), (7, .int (J l7_25))] dX7_stepRow_102 hl (by decide) rfl (fun ls hl => ?_)
                refine j_iinc E 107 rfl [(7, .int (J (l7_25 + 1))), (5, .int (J zz11_)), (6, .int (J zz15_)), (9, .int (J (l5_25 + 1))), (8, .int (J zz11_)), (0, .int (J v_k)), (1, .ref a_t), (2, .int (J v_h)), (3, .ref a_r), (4, .int (J v_w))] dX7_stepRow_104 hl (kk := 9) rfl (by decide) rfl (fun ls hl => ?_)
                refine j_goto E 25 dX7_stepRow_107 (by decide) ?_
                exact ih25 zz11_ zz15_ (l7_25 + 1) (upB y300_c25 ((pr a_r (Int.toNat l7_25))) zz15_) H locs ls rr11_ rr15_ (rr (by omega)) (⟨⟨by omega, by omega, by rw [show (l7_25 + 1) - 1 = l7_25 by omega]; exact d2_.trans d3_, by rw [show (l7_25 + 1) - 1 = l7_25 by omega]; exact nx_, sr_n (by omega) iv25.2.2.2.2.1 iv25.2.2.2.2.2 nx_⟩, (Ro_tr ik25_ Ro_up)⟩) (by omega) hw (lv_sub hl [5, 6, 7, 8, 9, 1, 2, 0] rfl)
              · refine j_iconst E 71 rfl dX7_stepRow_70 ?_
                refine j_goto E 75 dX7_stepRow_71 (by decide) ?_
                refine j_iadd E 76 rfl dX7_stepRow_75 ?_
                refine j_istore E 78 rfl [(9, .int (J (l5_25 + 0))), (8, .int (J zz11_)), (0, .int (J v_k)), (1, .ref a_t), (2, .int (J v_h)), (3, .ref a_r), (4, .int (J v_w)), (5, .int (J l5_25)), (6, .int (J l6_25)), (7, .int (J l7_25))] dX7_stepRow_76 hl (by decide) rfl (fun ls hl => ?_)
                refine j_iload E 80 rfl dX7_stepRow_78 (lv_at hl 0 rfl) ?_
                refine j_iload E 82 rfl dX7_stepRow_80 (lv_at hl 1 rfl) ?_
                refine j_iload E 84 rfl dX7_stepRow_82 (lv_at hl 8 rfl) ?_
                refine j_min E hl.1 ml_X7_45 rr11_ r_l6_25 ⟨Nat.le_of_ble_eq_true rfl, Nat.le_of_ble_eq_true rfl⟩ ⟨Nat.le_of_ble_eq_true rfl, Nat.le_of_ble_eq_true rfl⟩ 87 rfl dX7_stepRow_84 (fun zz17_ rr17_ hh17_ => ?_)
                have mi1_ := hh17_
                clear hh17_
                refine j_iconst E 88 rfl dX7_stepRow_87 ?_
                refine j_iadd E 89 rfl dX7_stepRow_88 ?_
                refine j_min E hl.1 ml_X7_45 (rr (by omega)) (rr (by omega)) ⟨Nat.le_of_ble_eq_true rfl, Nat.le_of_ble_eq_true rfl⟩ ⟨Nat.le_of_ble_eq_true rfl, Nat.le_of_ble_eq_true rfl⟩ 92 rfl dX7_stepRow_89 (fun zz18_ rr18_ hh18_ => ?_)
                have mi2_ := hh18_
                clear hh18_
                refine j_istore E 94 rfl [(6, .int (J zz18_)), (9, .int (J (l5_25 + 0))), (8, .int (J zz11_)), (0, .int (J v_k)), (1, .ref a_t), (2, .int (J v_h)), (3, .ref a_r), (4, .int (J v_w)), (5, .int (J l5_25)), (7, .int (J l7_25))] dX7_stepRow_92 hl (by decide) rfl (fun ls hl => ?_)
                have nx_ : zz18_ = Ld_ A_ B_ (i_ + 1).toNat (l7_25).toNat := Ld_sr (by omega) (by omega) iv25.2.2.1 (d2_.trans d3_) iv25.2.2.2.1 (by first | exact (ne_e (by rw [← hp3, ← d5_]; assumption)).symm | exact (ne_n (by rw [← hp3, ← d5_]; assumption)).symm) mi1_ mi2_
                refine j_aload_n E 95 rfl dX7_stepRow_94 rfl (lv_at hl 6 rfl) ?_
                refine j_iload E 97 rfl dX7_stepRow_95 (lv_at hl 9 rfl) ?_
                refine j_iload E 99 rfl dX7_stepRow_97 (lv_at hl 0 rfl) ?_
                refine a_st20 E hK hw t_r rr18_ (by omega) 100 rfl dX7_stepRow_99 (fun H locs hw => ?_)
                have hw : WK D cy T (upV v_0 300 (upB y300_c25 ((pr a_r (Int.toNat l7_25))) zz18_)) A0 H0 H locs := cw_eq hw (by first | rfl | (funext j_; simp only [upV, reduceIte]; (repeat' split) <;> first | rfl | omega | (subst_vars; rfl)))
                refine j_iload E 102 rfl dX7_stepRow_100 (lv_at hl 2 rfl) ?_
                refine j_istore E 104 rfl [(5, .int (J zz11_)), (6, .int (J zz18_)), (9, .int (J (l5_25 + 0))), (8, .int (J zz11_)), (0, .int (J v_k)), (1, .ref a_t), (2, .int (J v_h)), (3, .ref a_r), (4, .int (J v_w)), (7, .int (J l7_25))] dX7_stepRow_102 hl (by decide) rfl (fun ls hl => ?_)
                refine j_iinc E 107 rfl [(7, .int (J (l7_25 + 1))), (5, .int (J zz11_)), (6, .int (J zz18_)), (9, .int (J (l5_25 + 0))), (8, .int (J zz11_)), (0, .int (J v_k)), (1, .ref a_t), (2, .int (J v_h)), (3, .ref a_r), (4, .int (J v_w))] dX7_stepRow_104 hl (kk := 9) rfl (by decide) rfl (fun ls hl => ?_)
                refine j_goto E 25 dX7_stepRow_107 (by decide) ?_
                exact ih25 zz11_ zz18_ (l7_25 + 1) (upB y300_c25 ((pr a_r (Int.toNat l7_25))) zz18_) H locs ls rr11_ rr18_ (rr (by omega)) (⟨⟨by omega, by omega, by rw [show (l7_25 + 1) - 1 = l7_25 by omega]; exact d2_.trans d3_, by rw [show (l7_25 + 1) - 1 = l7_25 by omega]; exact nx_, sr_n (by omega) iv25.2.2.2.2.1 iv25.2.2.2.2.2 nx_⟩, (Ro_tr ik25_ Ro_up)⟩) (by omega) hw (lv_sub hl [5, 6, 7, 8, 9, 1, 2, 0] rfl)
    exact L25_5 _ zz3_ (zz3_ + 1) 1 (upB (v_0 300) ((pr a_r (Int.toNat 0))) (zz3_ + 1)) H locs ls rr3_ (rr (by omega)) (rr (by decide)) (⟨⟨by omega, by omega, by rw [show (1 : Int) - 1 = 0 from rfl, show (0 : Int).toNat = 0 from rfl, Ld_z]; omega, by rw [show (1 : Int) - 1 = 0 from rfl, show (0 : Int).toNat = 0 from rfl, Ld_z]; omega, sr_0 (by omega) hp2 (by omega)⟩, (Ro_tr Ro_rf Ro_up)⟩) (Nat.lt_succ_self _) hw (lv_sub hl [3, 4, 5, 6, 7, 2, 1, 0] rfl)
  · exact hret 5 (upV v_0 300 (v_0 300)) _ _ ls (cw_eq hw (by first | rfl | (funext j_; simp only [upV, reduceIte]; (repeat' split) <;> first | rfl | omega | (subst_vars; rfl)))) ⟨(v_0 300), rfl, ⟨absurd (show (T 1 a_r : Int) = 0 by omega) (by omega), Ro_rf⟩⟩ dX7_stepRow_5
set_option maxHeartbeats 4000000 in
set_option maxRecDepth 100000 in
theorem c3_X7_leastChanges (l : Launch) (D : va_G) (cy : Nat → ClassId) (T : Nat → Nat → Nat) (v_0 : Nat → Nat → Int) (o : Nat) (a_w : Nat) (a_r : Nat) (t_o : T 0 o = 8) (t_w : T 0 a_w = 8) (t_r : T 0 a_r = 20) (hp0 : ((T 1 (T 161 a_w) : Nat) : Int) < ((T 1 a_r : Nat) : Int) ∧ ((T 1 (T 161 o) : Nat) : Int) ≤ 400 ∧ ((T 1 (T 161 a_w) : Nat) : Int) ≤ 400) (hp1 : T 161 o ≠ a_r ∧ T 161 a_w ≠ a_r) : KC l D cy T yX7_leastChanges cX7_leastChanges 9 (some .int) 3 [.ref o, .ref a_w, .ref a_r] v_0 (KI (fun (z_0 : Int) (v_2 : Nat → Nat → Int) => ∃ (y300_2 : Nat → Int) , v_2 = upV v_0 300 y300_2 ∧ ((z_0 = Ld_ (gC_ (v_0 300) (T 161 o)) (gC_ (v_0 300) (T 161 a_w)) (T 1 (T 161 o)) (T 1 (T 161 a_w))) ∧ Ro_ (v_0 300) y300_2 a_r))) := by
  refine KC.ofi (by decide) (Nat.le_of_ble_eq_true rfl) ?_
  intro p e s m below meth c ls ar QW A0 H0 H locs E hK hA hw hl hret
  have hl : lv_has ls 9 [(0, .ref o), (1, .ref a_w), (2, .ref a_r)] := hl
  have hT : WT T := hw.1.2.1
  refine j_aload_n E 1 rfl dX7_leastChanges_0 rfl (lv_at hl 0 rfl) ?_
  refine g_161 E hK hw fl_X7_15 t_o 4 rfl dX7_leastChanges_1 ?_
  refine j_astore_n E 5 rfl [(3, .ref (T 161 o)), (0, .ref o), (1, .ref a_w), (2, .ref a_r)] dX7_leastChanges_4 rfl hl (by decide) rfl (fun ls hl => ?_)
  refine j_aload_n E 6 rfl dX7_leastChanges_5 rfl (lv_at hl 2 rfl) ?_
  refine g_161 E hK hw fl_X7_15 t_w 9 rfl dX7_leastChanges_6 ?_
  refine j_astore E 11 rfl [(4, .ref (T 161 a_w)), (3, .ref (T 161 o)), (0, .ref o), (1, .ref a_w), (2, .ref a_r)] dX7_leastChanges_9 hl (by decide) rfl (fun ls hl => ?_)
  refine j_iconst E 12 rfl dX7_leastChanges_11 ?_
  refine j_istore E 14 rfl [(5, .int (J 0)), (4, .ref (T 161 a_w)), (3, .ref (T 161 o)), (0, .ref o), (1, .ref a_w), (2, .ref a_r)] dX7_leastChanges_12 hl (by decide) rfl (fun ls hl => ?_)
  have L14_1 : ∀ (k14 : Nat) (l5_14 : Int) (H : Heap) (locs : List Loc) (ls : Array Slot), inR l5_14 → ((0 ≤ l5_14 ∧ l5_14 ≤ (T 1 (T 161 o) : Int) ∧ l5_14 ≤ (T 1 (T 161 a_w) : Int)) ∧ (∀ k_, 0 ≤ k_ → k_ < l5_14 → gC_ (v_0 300) (T 161 o) k_ = gC_ (v_0 300) (T 161 a_w) k_)) → ((T 1 (T 161 o) : Int) - l5_14).toNat < k14 → WK D cy T (v_0) A0 H0 H locs → lv_has ls 9 [(0, .ref o), (1, .ref a_w), (2, .ref a_r), (3, .ref (T 161 o)), (4, .ref (T 161 a_w)), (5, .int (J l5_14))] → W p l e (rmd 3 0 0) s m ar below meth c H locs 0 0 QW (F0 m 14 ls []) := by
    intro k14
    induction k14 with
    | zero =>
      intro l5_14 H locs ls r_l5_14 iv14 ms14 hw hl
      exact absurd ms14 (Nat.not_lt_zero _)
    | succ k14 ih14 =>
      intro l5_14 H locs ls r_l5_14 iv14 ms14 hw hl
      refine j_iload E 16 rfl dX7_leastChanges_14 (lv_at hl 5 rfl) ?_
      refine j_aload_n E 17 rfl dX7_leastChanges_16 rfl (lv_at hl 3 rfl) ?_
      refine a_ln20 E hK hw (wt_161 hT t_o) 18 rfl dX7_leastChanges_17 (fun rr3_ => ?_)
      refine j_icmp_ge E 21 47 rfl r_l5_14 rr3_ dX7_leastChanges_18 (by decide) (fun cc4_ => ?_) (fun cc4_ => ?_)
      · refine j_iconst E 48 rfl dX7_leastChanges_47 ?_
        refine j_istore E 50 rfl [(6, .int (J 0)), (0, .ref o), (1, .ref a_w), (2, .ref a_r), (3, .ref (T 161 o)), (4, .ref (T 161 a_w)), (5, .int (J l5_14))] dX7_leastChanges_48 hl (by decide) rfl (fun ls hl => ?_)
        have L50_5 : ∀ (k50 : Nat) (l6_50 : Int) (H : Heap) (locs : List Loc) (ls : Array Slot), inR l6_50 → ((0 ≤ l6_50 ∧ l6_50 + l5_14 ≤ (T 1 (T 161 o) : Int) ∧ l6_50 + l5_14 ≤ (T 1 (T 161 a_w) : Int)) ∧ (∀ k_, 0 ≤ k_ → k_ < l6_50 → gC_ (v_0 300) (T 161 o) ((T 1 (T 161 o) : Int) - 1 - k_) = gC_ (v_0 300) (T 161 a_w) ((T 1 (T 161 a_w) : Int) - 1 - k_))) → ((T 1 (T 161 o) : Int) - l6_50).toNat < k50 → WK D cy T (v_0) A0 H0 H locs → lv_has ls 9 [(0, .ref o), (1, .ref a_w), (2, .ref a_r), (3, .ref (T 161 o)), (4, .ref (T 161 a_w)), (5, .int (J l5_14)), (6, .int (J l6_50))] → W p l e (rmd 3 0 0) s m ar below meth c H locs 0 0 QW (F0 m 50 ls []) := by
          intro k50
          induction k50 with
          | zero =>
            intro l6_50 H locs ls r_l6_50 iv50 ms50 hw hl
            exact absurd ms50 (Nat.not_lt_zero _)
          | succ k50 ih50 =>
            intro l6_50 H locs ls r_l6_50 iv50 ms50 hw hl
            refine j_iload E 52 rfl dX7_leastChanges_50 (lv_at hl 6 rfl) ?_
            refine j_aload_n E 53 rfl dX7_leastChanges_52 rfl (lv_at hl 3 rfl) ?_
            refine a_ln20 E hK hw (wt_161 hT t_o) 54 rfl dX7_leastChanges_53 (fun _ => ?_)
            refine j_icmp_ge E 57 76 rfl r_l6_50 rr3_ dX7_leastChanges_54 (by decide) (fun cc7_ => ?_) (fun cc7_ => ?_)
            · refine j_aload E 78 rfl dX7_leastChanges_76 (lv_at hl 4 rfl) ?_
              refine a_ln20 E hK hw (wt_161 hT t_w) 79 rfl dX7_leastChanges_78 (fun rr8_ => ?_)
              refine j_iload E 81 rfl dX7_leastChanges_79 (lv_at hl 6 rfl) ?_
              refine j_isub E 82 rfl dX7_leastChanges_81 ?_
              refine j_iload E 84 rfl dX7_leastChanges_82 (lv_at hl 5 rfl) ?_
              refine j_isub E 85 rfl dX7_leastChanges_84 ?_
              refine j_istore E 87 rfl [(7, .int (J ((((T 1 (T 161 a_w) : Int)) - l6_50) - l5_14))), (0, .ref o), (1, .ref a_w), (2, .ref a_r), (3, .ref (T 161 o)), (4, .ref (T 161 a_w)), (5, .int (J l5_14)), (6, .int (J l6_50))] dX7_leastChanges_85 hl (by decide) rfl (fun ls hl => ?_)
              refine j_iconst E 88 rfl dX7_leastChanges_87 ?_
              refine j_istore E 90 rfl [(8, .int (J 0)), (7, .int (J ((((T 1 (T 161 a_w) : Int)) - l6_50) - l5_14))), (0, .ref o), (1, .ref a_w), (2, .ref a_r), (3, .ref (T 161 o)), (4, .ref (T 161 a_w)), (5, .int (J l5_14)), (6, .int (J l6_50))] dX7_leastChanges_88 hl (by decide) rfl (fun ls hl => ?_)
              have L90_9 : ∀ (k90 : Nat) (l8_90 : Int) (y300_c90 : Nat → Int) (H : Heap) (locs : List Loc) (ls : Array Slot), inR l8_90 → (((0 ≤ l8_90 ∧ l8_90 ≤ ((((T 1 (T 161 a_w) : Int)) - l6_50) - l5_14) + 1) ∧ (∀ j_, 0 ≤ j_ → j_ < l8_90 → gC_ (y300_c90) a_r j_ = j_)) ∧ Ro_ (v_0 300) y300_c90 a_r) → ((T 1 a_r : Int) - l8_90).toNat < k90 → WK D cy T (upV v_0 300 y300_c90) A0 H0 H locs → lv_has ls 9 [(0, .ref o), (1, .ref a_w), (2, .ref a_r), (3, .ref (T 161 o)), (4, .ref (T 161 a_w)), (5, .int (J l5_14)), (6, .int (J l6_50)), (7, .int (J ((((T 1 (T 161 a_w) : Int)) - l6_50) - l5_14))), (8, .int (J l8_90))] → W p l e (rmd 3 0 0) s m ar below meth c H locs 0 0 QW (F0 m 90 ls []) := by
                intro k90
                induction k90 with
                | zero =>
                  intro l8_90 y300_c90 H locs ls r_l8_90 iv90 ms90 hw hl
                  exact absurd ms90 (Nat.not_lt_zero _)
                | succ k90 ih90 =>
                  intro l8_90 y300_c90 H locs ls r_l8_90 iv90 ms90 hw hl
                  obtain ⟨iv90, ik90_⟩ := iv90
                  refine j_iload E 92 rfl dX7_leastChanges_90 (lv_at hl 8 rfl) ?_
                  refine j_iload E 94 rfl dX7_leastChanges_92 (lv_at hl 7 rfl) ?_
                  refine j_icmp_gt E 97 116 rfl r_l8_90 (rr (by omega)) dX7_leastChanges_94 (by decide) (fun cc11_ => ?_) (fun cc11_ => ?_)
                  · refine j_iload E 118 rfl dX7_leastChanges_116 (lv_at hl 5 rfl) ?_
                    refine j_istore E 120 rfl [(8, .int (J l5_14)), (0, .ref o), (1, .ref a_w), (2, .ref a_r), (3, .ref (T 161 o)), (4, .ref (T 161 a_w)), (5, .int (J l5_14)), (6, .int (J l6_50)), (7, .int (J ((((T 1 (T 161 a_w) : Int)) - l6_50) - l5_14)))] dX7_leastChanges_118 hl (by decide) rfl (fun ls hl => ?_)
                    have L120_12 : ∀ (k120 : Nat) (l8_120 : Int) (y300_c120 : Nat → Int) (H : Heap) (locs : List Loc) (ls : Array Slot), inR l8_120 → (((l5_14 ≤ l8_120 ∧ l8_120 ≤ (T 1 (T 161 o) : Int) - l6_50) ∧ (∀ j_, 0 ≤ j_ → j_ < ((((T 1 (T 161 a_w) : Int)) - l6_50) - l5_14) + 1 → gC_ (y300_c120) a_r j_ = Ld_ (fun k_ => gC_ (v_0 300) (T 161 o) (k_ + l5_14)) (fun k_ => gC_ (v_0 300) (T 161 a_w) (k_ + l5_14)) (l8_120 - l5_14).toNat j_.toNat)) ∧ Ro_ (v_0 300) y300_c120 a_r) → ((T 1 (T 161 o) : Int) - l8_120).toNat < k120 → WK D cy T (upV v_0 300 y300_c120) A0 H0 H locs → lv_has ls 9 [(0, .ref o), (1, .ref a_w), (2, .ref a_r), (3, .ref (T 161 o)), (4, .ref (T 161 a_w)), (5, .int (J l5_14)), (6, .int (J l6_50)), (7, .int (J ((((T 1 (T 161 a_w) : Int)) - l6_50) - l5_14))), (8, .int (J l8_120))] → W p l e (rmd 3 0 0) s m ar below meth c H locs 0 0 QW (F0 m 120 ls []) := by
                      intro k120
                      induction k120 with
                      | zero =>
                        intro l8_120 y300_c120 H locs ls r_l8_120 iv120 ms120 hw hl
                        exact absurd ms120 (Nat.not_lt_zero _)
                      | succ k120 ih120 =>
                        intro l8_120 y300_c120 H locs ls r_l8_120 iv120 ms120 hw hl
                        obtain ⟨iv120, ik120_⟩ := iv120
                        refine j_iload E 122 rfl dX7_leastChanges_120 (lv_at hl 8 rfl) ?_
                        refine j_aload_n E 123 rfl dX7_leastChanges_122 rfl (lv_at hl 3 rfl) ?_
                        refine a_ln20 E hK hw (wt_161 hT t_o) 124 rfl dX7_leastChanges_123 (fun _ => ?_)
                        refine j_iload E 126 rfl dX7_leastChanges_124 (lv_at hl 6 rfl) ?_
                        refine j_isub E 127 rfl dX7_leastChanges_126 ?_
                        refine j_icmp_ge E 130 150 rfl r_l8_120 (rr (by omega)) dX7_leastChanges_127 (by decide) (fun cc14_ => ?_) (fun cc14_ => ?_)
                        · refine j_iload E 152 rfl dX7_leastChanges_150 (lv_at hl 7 rfl) ?_
                          refine j_if_lt E 155 169 rfl (rr (by omega)) dX7_leastChanges_152 (by decide) (fun cc15_ => ?_) (fun cc15_ => ?_)
                          · refine j_iconst E 170 rfl dX7_leastChanges_169 ?_
                            exact hret 170 0 (upV v_0 300 y300_c120) _ _ ls hw (rr (by decide)) ⟨y300_c120, rfl, ⟨by first | exact (h5_.trans (iv120.2 _ (by omega) (by omega))).trans (lc_fin (by omega) (by omega) (by omega) iv14.2 iv50.2) | (exfalso; omega), ik120_⟩⟩ dX7_leastChanges_170
                          · refine j_iload E 157 rfl dX7_leastChanges_155 (lv_at hl 7 rfl) ?_
                            refine j_aload_n E 158 rfl dX7_leastChanges_157 rfl (lv_at hl 2 rfl) ?_
                            refine a_ln20 E hK hw t_r 159 rfl dX7_leastChanges_158 (fun rr16_ => ?_)
                            refine j_icmp_ge E 162 169 rfl (rr (by omega)) rr16_ dX7_leastChanges_159 (by decide) (fun cc17_ => ?_) (fun cc17_ => ?_)
                            · refine j_iconst E 170 rfl dX7_leastChanges_169 ?_
                              exact hret 170 0 (upV v_0 300 y300_c120) _ _ ls hw (rr (by decide)) ⟨y300_c120, rfl, ⟨by first | exact (h5_.trans (iv120.2 _ (by omega) (by omega))).trans (lc_fin (by omega) (by omega) (by omega) iv14.2 iv50.2) | (exfalso; omega), ik120_⟩⟩ dX7_leastChanges_170
                            · refine j_aload_n E 163 rfl dX7_leastChanges_162 rfl (lv_at hl 2 rfl) ?_
                              refine j_iload E 165 rfl dX7_leastChanges_163 (lv_at hl 7 rfl) ?_
                              refine a_ld20 E hK hw t_r (by omega) 166 rfl dX7_leastChanges_165 (fun zz18_ he18_ rr18_ => ?_)
                              have he18_ : zz18_ = y300_c120 (pr a_r (Int.toNat ((((T 1 (T 161 a_w) : Int)) - l6_50) - l5_14))) := he18_
                              have h5_ : zz18_ = gC_ (y300_c120) a_r ((((T 1 (T 161 a_w) : Int)) - l6_50) - l5_14) := he18_
                              refine j_goto E 170 dX7_leastChanges_166 (by decide) ?_
                              exact hret 170 zz18_ (upV v_0 300 y300_c120) _ _ ls hw rr18_ ⟨y300_c120, rfl, ⟨by first | exact (h5_.trans (iv120.2 _ (by omega) (by omega))).trans (lc_fin (by omega) (by omega) (by omega) iv14.2 iv50.2) | (exfalso; omega), ik120_⟩⟩ dX7_leastChanges_170
                        · refine j_aload_n E 131 rfl dX7_leastChanges_130 rfl (lv_at hl 3 rfl) ?_
                          refine j_iload E 133 rfl dX7_leastChanges_131 (lv_at hl 8 rfl) ?_
                          refine a_ld20 E hK hw (wt_161 hT t_o) (by omega) 134 rfl dX7_leastChanges_133 (fun zz19_ he19_ rr19_ => ?_)
                          have he19_ : zz19_ = y300_c120 (pr (T 161 o) (Int.toNat l8_120)) := he19_
                          have h3_ : zz19_ = gC_ (y300_c120) (T 161 o) l8_120 := he19_
                          refine j_aload E 136 rfl dX7_leastChanges_134 (lv_at hl 4 rfl) ?_
                          refine j_iload E 138 rfl dX7_leastChanges_136 (lv_at hl 5 rfl) ?_
                          refine j_aload_n E 139 rfl dX7_leastChanges_138 rfl (lv_at hl 2 rfl) ?_
                          refine j_iload E 141 rfl dX7_leastChanges_139 (lv_at hl 7 rfl) ?_
                          refine kS_v E (c3_X7_stepRow l D cy T (upV v_0 300 y300_c120) zz19_ (T 161 a_w) l5_14 a_r ((((T 1 (T 161 a_w) : Int)) - l6_50) - l5_14) ((fun k_ => gC_ (v_0 300) (T 161 o) (k_ + l5_14))) ((fun k_ => gC_ (v_0 300) (T 161 a_w) (k_ + l5_14))) (l8_120 - l5_14)  rr19_ (wt_161 hT t_w) r_l5_14 t_r (rr (by omega)) (show 0 ≤ l5_14 ∧ ((((T 1 (T 161 a_w) : Int)) - l6_50) - l5_14) + l5_14 ≤ (T 1 (T 161 a_w) : Int) from by omega) (show 0 ≤ ((((T 1 (T 161 a_w) : Int)) - l6_50) - l5_14) ∧ ((((T 1 (T 161 a_w) : Int)) - l6_50) - l5_14) < (T 1 a_r : Int) ∧ ((((T 1 (T 161 a_w) : Int)) - l6_50) - l5_14) ≤ 400 ∧ 0 ≤ ((l8_120 - l5_14)) ∧ ((l8_120 - l5_14)) ≤ 400 from by omega) (show (∀ j_, 0 ≤ j_ → j_ < ((((T 1 (T 161 a_w) : Int)) - l6_50) - l5_14) + 1 → gC_ (y300_c120) a_r j_ = Ld_ (((fun k_ => gC_ (v_0 300) (T 161 o) (k_ + l5_14)))) (((fun k_ => gC_ (v_0 300) (T 161 a_w) (k_ + l5_14)))) (((l8_120 - l5_14))).toNat j_.toNat) from iv120.2) (show zz19_ = (((fun k_ => gC_ (v_0 300) (T 161 o) (k_ + l5_14)))) ((l8_120 - l5_14)) from by rw [h3_, gC_ro ik120_ hp1.1]; congr 1; omega) (show ∀ j_, 0 ≤ j_ → j_ < ((((T 1 (T 161 a_w) : Int)) - l6_50) - l5_14) → gC_ (y300_c120) (T 161 a_w) (l5_14 + j_) = (((fun k_ => gC_ (v_0 300) (T 161 a_w) (k_ + l5_14)))) j_ from fun j_ _ _ => by rw [gC_ro ik120_ hp1.2]; congr 1; omega) (show (T 161 a_w) ≠ a_r from hp1.2)) ms_X7_stepRow ml_X7_41 hK hw hA ⟨Nat.le_of_ble_eq_true rfl, Nat.le_of_ble_eq_true rfl⟩ ⟨Nat.le_of_ble_eq_true rfl, Nat.le_of_ble_eq_true rfl⟩ (As := [.int (J zz19_), .ref (T 161 a_w), .int (J l5_14), .ref a_r, .int (J ((((T 1 (T 161 a_w) : Int)) - l6_50) - l5_14))]) (rest := []) rfl rfl hl.1 (Nat.le_of_ble_eq_true rfl) 144 rfl dX7_leastChanges_141 (fun v_20 H locs hq20_ hw => ?_)
                          obtain ⟨y300_20, ev20_, hh20_⟩ := hq20_
                          rw [ev20_] at hw; clear ev20_
                          have hw : WK D cy T (upV v_0 300 y300_20) A0 H0 H locs := cw_eq hw (by first | rfl | (funext j_; simp only [upV, reduceIte]; (repeat' split) <;> first | rfl | omega | (subst_vars; rfl)))
                          obtain ⟨hh20_, kf20_⟩ := hh20_
                          replace hh20_ : (∀ j_, 0 ≤ j_ → j_ < ((((T 1 (T 161 a_w) : Int)) - l6_50) - l5_14) + 1 → gC_ (y300_20) a_r j_ = Ld_ (((fun k_ => gC_ (v_0 300) (T 161 o) (k_ + l5_14)))) (((fun k_ => gC_ (v_0 300) (T 161 a_w) (k_ + l5_14)))) (((l8_120 - l5_14)) + 1).toNat j_.toNat) := hh20_
                          have st_ := hh20_
                          clear hh20_
                          refine j_iinc E 147 rfl [(8, .int (J (l8_120 + 1))), (0, .ref o), (1, .ref a_w), (2, .ref a_r), (3, .ref (T 161 o)), (4, .ref (T 161 a_w)), (5, .int (J l5_14)), (6, .int (J l6_50)), (7, .int (J ((((T 1 (T 161 a_w) : Int)) - l6_50) - l5_14)))] dX7_leastChanges_144 hl (kk := 8) rfl (by decide) rfl (fun ls hl => ?_)
                          refine j_goto E 120 dX7_leastChanges_147 (by decide) ?_
                          exact ih120 (l8_120 + 1) y300_20 H locs ls (rr (by omega)) (⟨⟨by omega, fun j_ h1_ h2_ => (st_ j_ h1_ h2_).trans (by congr 1; omega)⟩, (Ro_tr ik120_ kf20_)⟩) (by omega) hw (lv_sub hl [1, 2, 3, 4, 5, 6, 7, 8, 0] rfl)
                    exact L120_12 _ l5_14 y300_c90 H locs ls r_l5_14 (⟨⟨by omega, fun j_ h1_ h2_ => by rw [show l5_14 - l5_14 = 0 by omega, ← Ld_i0 h1_]; exact iv90.2 j_ h1_ (by omega)⟩, ik90_⟩) (Nat.lt_succ_self _) hw (lv_sub hl [1, 2, 3, 4, 5, 6, 7, 8, 0] rfl)
                  · refine j_iload E 99 rfl dX7_leastChanges_97 (lv_at hl 8 rfl) ?_
                    refine j_aload_n E 100 rfl dX7_leastChanges_99 rfl (lv_at hl 2 rfl) ?_
                    refine a_ln20 E hK hw t_r 101 rfl dX7_leastChanges_100 (fun rr21_ => ?_)
                    refine j_icmp_ge E 104 116 rfl r_l8_90 rr21_ dX7_leastChanges_101 (by decide) (fun cc22_ => ?_) (fun cc22_ => ?_)
                    · refine j_iload E 118 rfl dX7_leastChanges_116 (lv_at hl 5 rfl) ?_
                      refine j_istore E 120 rfl [(8, .int (J l5_14)), (0, .ref o), (1, .ref a_w), (2, .ref a_r), (3, .ref (T 161 o)), (4, .ref (T 161 a_w)), (5, .int (J l5_14)), (6, .int (J l6_50)), (7, .int (J ((((T 1 (T 161 a_w) : Int)) - l6_50) - l5_14)))] dX7_leastChanges_118 hl (by decide) rfl (fun ls hl => ?_)
                      have L120_23 : ∀ (k120 : Nat) (l8_120 : Int) (y300_c120 : Nat → Int) (H : Heap) (locs : List Loc) (ls : Array Slot), inR l8_120 → (((l5_14 ≤ l8_120 ∧ l8_120 ≤ (T 1 (T 161 o) : Int) - l6_50) ∧ (∀ j_, 0 ≤ j_ → j_ < ((((T 1 (T 161 a_w) : Int)) - l6_50) - l5_14) + 1 → gC_ (y300_c120) a_r j_ = Ld_ (fun k_ => gC_ (v_0 300) (T 161 o) (k_ + l5_14)) (fun k_ => gC_ (v_0 300) (T 161 a_w) (k_ + l5_14)) (l8_120 - l5_14).toNat j_.toNat)) ∧ Ro_ (v_0 300) y300_c120 a_r) → ((T 1 (T 161 o) : Int) - l8_120).toNat < k120 → WK D cy T (upV v_0 300 y300_c120) A0 H0 H locs → lv_has ls 9 [(0, .ref o), (1, .ref a_w), (2, .ref a_r), (3, .ref (T 161 o)), (4, .ref (T 161 a_w)), (5, .int (J l5_14)), (6, .int (J l6_50)), (7, .int (J ((((T 1 (T 161 a_w) : Int)) - l6_50) - l5_14))), (8, .int (J l8_120))] → W p l e (rmd 3 0 0) s m ar below meth c H locs 0 0 QW (F0 m 120 ls []) := by
                        intro k120
                        induction k120 with
                        | zero =>
                          intro l8_120 y300_c120 H locs ls r_l8_120 iv120 ms120 hw hl
                          exact absurd ms120 (Nat.not_lt_zero _)
                        | succ k120 ih120 =>
                          intro l8_120 y300_c120 H locs ls r_l8_120 iv120 ms120 hw hl
                          obtain ⟨iv120, ik120_⟩ := iv120
                          refine j_iload E 122 rfl dX7_leastChanges_120 (lv_at hl 8 rfl) ?_
                          refine j_aload_n E 123 rfl dX7_leastChanges_122 rfl (lv_at hl 3 rfl) ?_
                          refine a_ln20 E hK hw (wt_161 hT t_o) 124 rfl dX7_leastChanges_123 (fun _ => ?_)
                          refine j_iload E 126 rfl dX7_leastChanges_124 (lv_at hl 6 rfl) ?_
                          refine j_isub E 127 rfl dX7_leastChanges_126 ?_
                          refine j_icmp_ge E 130 150 rfl r_l8_120 (rr (by omega)) dX7_leastChanges_127 (by decide) (fun cc25_ => ?_) (fun cc25_ => ?_)
                          · refine j_iload E 152 rfl dX7_leastChanges_150 (lv_at hl 7 rfl) ?_
                            refine j_if_lt E 155 169 rfl (rr (by omega)) dX7_leastChanges_152 (by decide) (fun cc26_ => ?_) (fun cc26_ => ?_)
                            · refine j_iconst E 170 rfl dX7_leastChanges_169 ?_
                              exact hret 170 0 (upV v_0 300 y300_c120) _ _ ls hw (rr (by decide)) ⟨y300_c120, rfl, ⟨by first | exact (h5_.trans (iv120.2 _ (by omega) (by omega))).trans (lc_fin (by omega) (by omega) (by omega) iv14.2 iv50.2) | (exfalso; omega), ik120_⟩⟩ dX7_leastChanges_170
                            · refine j_iload E 157 rfl dX7_leastChanges_155 (lv_at hl 7 rfl) ?_
                              refine j_aload_n E 158 rfl dX7_leastChanges_157 rfl (lv_at hl 2 rfl) ?_
                              refine a_ln20 E hK hw t_r 159 rfl dX7_leastChanges_158 (fun _ => ?_)
                              refine j_icmp_ge E 162 169 rfl (rr (by omega)) rr21_ dX7_leastChanges_159 (by decide) (fun cc27_ => ?_) (fun cc27_ => ?_)
                              · refine j_iconst E 170 rfl dX7_leastChanges_169 ?_
                                exact hret 170 0 (upV v_0 300 y300_c120) _ _ ls hw (rr (by decide)) ⟨y300_c120, rfl, ⟨by first | exact (h5_.trans (iv120.2 _ (by omega) (by omega))).trans (lc_fin (by omega) (by omega) (by omega) iv14.2 iv50.2) | (exfalso; omega), ik120_⟩⟩ dX7_leastChanges_170
                              · refine j_aload_n E 163 rfl dX7_leastChanges_162 rfl (lv_at hl 2 rfl) ?_
                                refine j_iload E 165 rfl dX7_leastChanges_163 (lv_at hl 7 rfl) ?_
                                refine a_ld20 E hK hw t_r (by omega) 166 rfl dX7_leastChanges_165 (fun zz28_ he28_ rr28_ => ?_)
                                have he28_ : zz28_ = y300_c120 (pr a_r (Int.toNat ((((T 1 (T 161 a_w) : Int)) - l6_50) - l5_14))) := he28_
                                have h5_ : zz28_ = gC_ (y300_c120) a_r ((((T 1 (T 161 a_w) : Int)) - l6_50) - l5_14) := he28_
                                refine j_goto E 170 dX7_leastChanges_166 (by decide) ?_
                                exact hret 170 zz28_ (upV v_0 300 y300_c120) _ _ ls hw rr28_ ⟨y300_c120, rfl, ⟨by first | exact (h5_.trans (iv120.2 _ (by omega) (by omega))).trans (lc_fin (by omega) (by omega) (by omega) iv14.2 iv50.2) | (exfalso; omega), ik120_⟩⟩ dX7_leastChanges_170
                          · refine j_aload_n E 131 rfl dX7_leastChanges_130 rfl (lv_at hl 3 rfl) ?_
                            refine j_iload E 133 rfl dX7_leastChanges_131 (lv_at hl 8 rfl) ?_
                            refine a_ld20 E hK hw (wt_161 hT t_o) (by omega) 134 rfl dX7_leastChanges_133 (fun zz29_ he29_ rr29_ => ?_)
                            have he29_ : zz29_ = y300_c120 (pr (T 161 o) (Int.toNat l8_120)) := he29_
                            have h3_ : zz29_ = gC_ (y300_c120) (T 161 o) l8_120 := he29_
                            refine j_aload E 136 rfl dX7_leastChanges_134 (lv_at hl 4 rfl) ?_
                            refine j_iload E 138 rfl dX7_leastChanges_136 (lv_at hl 5 rfl) ?_
                            refine j_aload_n E 139 rfl dX7_leastChanges_138 rfl (lv_at hl 2 rfl) ?_
                            refine j_iload E 141 rfl dX7_leastChanges_139 (lv_at hl 7 rfl) ?_
                            refine kS_v E (c3_X7_stepRow l D cy T (upV v_0 300 y300_c120) zz29_ (T 161 a_w) l5_14 a_r ((((T 1 (T 161 a_w) : Int)) - l6_50) - l5_14) ((fun k_ => gC_ (v_0 300) (T 161 o) (k_ + l5_14))) ((fun k_ => gC_ (v_0 300) (T 161 a_w) (k_ + l5_14))) (l8_120 - l5_14)  rr29_ (wt_161 hT t_w) r_l5_14 t_r (rr (by omega)) (show 0 ≤ l5_14 ∧ ((((T 1 (T 161 a_w) : Int)) - l6_50) - l5_14) + l5_14 ≤ (T 1 (T 161 a_w) : Int) from by omega) (show 0 ≤ ((((T 1 (T 161 a_w) : Int)) - l6_50) - l5_14) ∧ ((((T 1 (T 161 a_w) : Int)) - l6_50) - l5_14) < (T 1 a_r : Int) ∧ ((((T 1 (T 161 a_w) : Int)) - l6_50) - l5_14) ≤ 400 ∧ 0 ≤ ((l8_120 - l5_14)) ∧ ((l8_120 - l5_14)) ≤ 400 from by omega) (show (∀ j_, 0 ≤ j_ → j_ < ((((T 1 (T 161 a_w) : Int)) - l6_50) - l5_14) + 1 → gC_ (y300_c120) a_r j_ = Ld_ (((fun k_ => gC_ (v_0 300) (T 161 o) (k_ + l5_14)))) (((fun k_ => gC_ (v_0 300) (T 161 a_w) (k_ + l5_14)))) (((l8_120 - l5_14))).toNat j_.toNat) from iv120.2) (show zz29_ = (((fun k_ => gC_ (v_0 300) (T 161 o) (k_ + l5_14)))) ((l8_120 - l5_14)) from by rw [h3_, gC_ro ik120_ hp1.1]; congr 1; omega) (show ∀ j_, 0 ≤ j_ → j_ < ((((T 1 (T 161 a_w) : Int)) - l6_50) - l5_14) → gC_ (y300_c120) (T 161 a_w) (l5_14 + j_) = (((fun k_ => gC_ (v_0 300) (T 161 a_w) (k_ + l5_14)))) j_ from fun j_ _ _ => by rw [gC_ro ik120_ hp1.2]; congr 1; omega) (show (T 161 a_w) ≠ a_r from hp1.2)) ms_X7_stepRow ml_X7_41 hK hw hA ⟨Nat.le_of_ble_eq_true rfl, Nat.le_of_ble_eq_true rfl⟩ ⟨Nat.le_of_ble_eq_true rfl, Nat.le_of_ble_eq_true rfl⟩ (As := [.int (J zz29_), .ref (T 161 a_w), .int (J l5_14), .ref a_r, .int (J ((((T 1 (T 161 a_w) : Int)) - l6_50) - l5_14))]) (rest := []) rfl rfl hl.1 (Nat.le_of_ble_eq_true rfl) 144 rfl dX7_leastChanges_141 (fun v_30 H locs hq30_ hw => ?_)
                            obtain ⟨y300_30, ev30_, hh30_⟩ := hq30_
                            rw [ev30_] at hw; clear ev30_
                            have hw : WK D cy T (upV v_0 300 y300_30) A0 H0 H locs := cw_eq hw (by first | rfl | (funext j_; simp only [upV, reduceIte]; (repeat' split) <;> first | rfl | omega | (subst_vars; rfl)))
                            obtain ⟨hh30_, kf30_⟩ := hh30_
                            replace hh30_ : (∀ j_, 0 ≤ j_ → j_ < ((((T 1 (T 161 a_w) : Int)) - l6_50) - l5_14) + 1 → gC_ (y300_30) a_r j_ = Ld_ (((fun k_ => gC_ (v_0 300) (T 161 o) (k_ + l5_14)))) (((fun k_ => gC_ (v_0 300) (T 161 a_w) (k_ + l5_14)))) (((l8_120 - l5_14)) + 1).toNat j_.toNat) := hh30_
                            have st_ := hh30_
                            clear hh30_
                            refine j_iinc E 147 rfl [(8, .int (J (l8_120 + 1))), (0, .ref o), (1, .ref a_w), (2, .ref a_r), (3, .ref (T 161 o)), (4, .ref (T 161 a_w)), (5, .int (J l5_14)), (6, .int (J l6_50)), (7, .int (J ((((T 1 (T 161 a_w) : Int)) - l6_50) - l5_14)))] dX7_leastChanges_144 hl (kk := 8) rfl (by decide) rfl (fun ls hl => ?_)
                            refine j_goto E 120 dX7_leastChanges_147 (by decide) ?_
                            exact ih120 (l8_120 + 1) y300_30 H locs ls (rr (by omega)) (⟨⟨by omega, fun j_ h1_ h2_ => (st_ j_ h1_ h2_).trans (by congr 1; omega)⟩, (Ro_tr ik120_ kf30_)⟩) (by omega) hw (lv_sub hl [1, 2, 3, 4, 5, 6, 7, 8, 0] rfl)
                      exact L120_23 _ l5_14 y300_c90 H locs ls r_l5_14 (⟨⟨by omega, fun j_ h1_ h2_ => by rw [show l5_14 - l5_14 = 0 by omega, ← Ld_i0 h1_]; exact iv90.2 j_ h1_ (by omega)⟩, ik90_⟩) (Nat.lt_succ_self _) hw (lv_sub hl [1, 2, 3, 4, 5, 6, 7, 8, 0] rfl)
                    · refine j_aload_n E 105 rfl dX7_leastChanges_104 rfl (lv_at hl 2 rfl) ?_
                      refine j_iload E 107 rfl dX7_leastChanges_105 (lv_at hl 8 rfl) ?_
                      refine j_iload E 109 rfl dX7_leastChanges_107 (lv_at hl 8 rfl) ?_
                      refine a_st20 E hK hw t_r r_l8_90 (by omega) 110 rfl dX7_leastChanges_109 (fun H locs hw => ?_)
                      have hw : WK D cy T (upV v_0 300 (upB y300_c90 ((pr a_r (Int.toNat l8_90))) l8_90)) A0 H0 H locs := cw_eq hw (by first | rfl | (funext j_; simp only [upV, reduceIte]; (repeat' split) <;> first | rfl | omega | (subst_vars; rfl)))
                      refine j_iinc E 113 rfl [(8, .int (J (l8_90 + 1))), (0, .ref o), (1, .ref a_w), (2, .ref a_r), (3, .ref (T 161 o)), (4, .ref (T 161 a_w)), (5, .int (J l5_14)), (6, .int (J l6_50)), (7, .int (J ((((T 1 (T 161 a_w) : Int)) - l6_50) - l5_14)))] dX7_leastChanges_110 hl (kk := 8) rfl (by decide) rfl (fun ls hl => ?_)
                      refine j_goto E 90 dX7_leastChanges_113 (by decide) ?_
                      exact ih90 (l8_90 + 1) (upB y300_c90 ((pr a_r (Int.toNat l8_90))) l8_90) H locs ls (rr (by omega)) (⟨⟨by omega, rw_nx iv90.2 (by omega)⟩, (Ro_tr ik90_ Ro_up)⟩) (by omega) hw (lv_sub hl [1, 2, 3, 4, 5, 6, 7, 8, 0] rfl)
              exact L90_9 _ 0 (v_0 300) H locs ls (rr (by decide)) (⟨⟨by omega, fun j_ h1_ h2_ => absurd h2_ (by omega)⟩, Ro_rf⟩) (Nat.lt_succ_self _) (cw_eq hw (by first | rfl | (funext j_; simp only [upV, reduceIte]; (repeat' split) <;> first | rfl | omega | (subst_vars; rfl)))) (lv_sub hl [2, 3, 4, 5, 6, 7, 8, 1, 0] rfl)
            · refine j_aload_n E 58 rfl dX7_leastChanges_57 rfl (lv_at hl 3 rfl) ?_
              refine j_aload E 60 rfl dX7_leastChanges_58 (lv_at hl 4 rfl) ?_
              refine j_iload E 62 rfl dX7_leastChanges_60 (lv_at hl 5 rfl) ?_
              refine j_iload E 64 rfl dX7_leastChanges_62 (lv_at hl 6 rfl) ?_
              refine kS_i E (c3_X7_isSameFromEnd l D cy T (v_0) (T 161 o) (T 161 a_w) l5_14 l6_50   (wt_161 hT t_o) (wt_161 hT t_w) r_l5_14 r_l6_50 (show 0 ≤ l5_14 ∧ 0 ≤ l6_50 ∧ l6_50 ≤ (T 1 (T 161 o) : Int) ∧ l6_50 ≤ (T 1 (T 161 a_w) : Int) from by omega)) ms_X7_isSameFromEnd ml_X7_37 hK hw hA ⟨Nat.le_of_ble_eq_true rfl, Nat.le_of_ble_eq_true rfl⟩ ⟨Nat.le_of_ble_eq_true rfl, Nat.le_of_ble_eq_true rfl⟩ (As := [.ref (T 161 o), .ref (T 161 a_w), .int (J l5_14), .int (J l6_50)]) (rest := []) rfl rfl hl.1 (Nat.le_of_ble_eq_true rfl) 67 rfl dX7_leastChanges_64 (fun zz32_ v_32 H locs rr32_ hq32_ hw => ?_)
              obtain ⟨ev32_, hh32_⟩ := hq32_
              rw [ev32_] at hw; clear ev32_
              replace hh32_ : (zz32_ = 1 ∧ (l5_14 ≤ (T 1 (T 161 o) : Int) - 1 - l6_50 ∧ l5_14 ≤ (T 1 (T 161 a_w) : Int) - 1 - l6_50) ∧ gC_ (v_0 300) (T 161 o) ((T 1 (T 161 o) : Int) - 1 - l6_50) = gC_ (v_0 300) (T 161 a_w) ((T 1 (T 161 a_w) : Int) - 1 - l6_50)) ∨ zz32_ = 0 := hh32_
              have sm_ := hh32_
              clear hh32_
              refine j_if_eq E 70 76 rfl rr32_ dX7_leastChanges_67 (by decide) (fun cc33_ => ?_) (fun cc33_ => ?_)
              · refine j_aload E 78 rfl dX7_leastChanges_76 (lv_at hl 4 rfl) ?_
                refine a_ln20 E hK hw (wt_161 hT t_w) 79 rfl dX7_leastChanges_78 (fun rr34_ => ?_)
                refine j_iload E 81 rfl dX7_leastChanges_79 (lv_at hl 6 rfl) ?_
                refine j_isub E 82 rfl dX7_leastChanges_81 ?_
                refine j_iload E 84 rfl dX7_leastChanges_82 (lv_at hl 5 rfl) ?_
                refine j_isub E 85 rfl dX7_leastChanges_84 ?_
                refine j_istore E 87 rfl [(7, .int (J ((((T 1 (T 161 a_w) : Int)) - l6_50) - l5_14))), (0, .ref o), (1, .ref a_w), (2, .ref a_r), (3, .ref (T 161 o)), (4, .ref (T 161 a_w)), (5, .int (J l5_14)), (6, .int (J l6_50))] dX7_leastChanges_85 hl (by decide) rfl (fun ls hl => ?_)
                refine j_iconst E 88 rfl dX7_leastChanges_87 ?_
                refine j_istore E 90 rfl [(8, .int (J 0)), (7, .int (J ((((T 1 (T 161 a_w) : Int)) - l6_50) - l5_14))), (0, .ref o), (1, .ref a_w), (2, .ref a_r), (3, .ref (T 161 o)), (4, .ref (T 161 a_w)), (5, .int (J l5_14)), (6, .int (J l6_50))] dX7_leastChanges_88 hl (by decide) rfl (fun ls hl => ?_)
                have L90_35 : ∀ (k90 : Nat) (l8_90 : Int) (y300_c90 : Nat → Int) (H : Heap) (locs : List Loc) (ls : Array Slot), inR l8_90 → (((0 ≤ l8_90 ∧ l8_90 ≤ ((((T 1 (T 161 a_w) : Int)) - l6_50) - l5_14) + 1) ∧ (∀ j_, 0 ≤ j_ → j_ < l8_90 → gC_ (y300_c90) a_r j_ = j_)) ∧ Ro_ (v_0 300) y300_c90 a_r) → ((T 1 a_r : Int) - l8_90).toNat < k90 → WK D cy T (upV v_0 300 y300_c90) A0 H0 H locs → lv_has ls 9 [(0, .ref o), (1, .ref a_w), (2, .ref a_r), (3, .ref (T 161 o)), (4, .ref (T 161 a_w)), (5, .int (J l5_14)), (6, .int (J l6_50)), (7, .int (J ((((T 1 (T 161 a_w) : Int)) - l6_50) - l5_14))), (8, .int (J l8_90))] → W p l e (rmd 3 0 0) s m ar below meth c H locs 0 0 QW (F0 m 90 ls []) := by
                  intro k90
                  induction k90 with
                  | zero =>
                    intro l8_90 y300_c90 H locs ls r_l8_90 iv90 ms90 hw hl
                    exact absurd ms90 (Nat.not_lt_zero _)
                  | succ k90 ih90 =>
                    intro l8_90 y300_c90 H locs ls r_l8_90 iv90 ms90 hw hl
                    obtain ⟨iv90, ik90_⟩ := iv90
                    refine j_iload E 92 rfl dX7_leastChanges_90 (lv_at hl 8 rfl) ?_
                    refine j_iload E 94 rfl dX7_leastChanges_92 (lv_at hl 7 rfl) ?_
                    refine j_icmp_gt E 97 116 rfl r_l8_90 (rr (by omega)) dX7_leastChanges_94 (by decide) (fun cc37_ => ?_) (fun cc37_ => ?_)
                    · refine j_iload E 118 rfl dX7_leastChanges_116 (lv_at hl 5 rfl) ?_
                      refine j_istore E 120 rfl [(8, .int (J l5_14)), (0, .ref o), (1, .ref a_w), (2, .ref a_r), (3, .ref (T 161 o)), (4, .ref (T 161 a_w)), (5, .int (J l5_14)), (6, .int (J l6_50)), (7, .int (J ((((T 1 (T 161 a_w) : Int)) - l6_50) - l5_14)))] dX7_leastChanges_118 hl (by decide) rfl (fun ls hl => ?_)
                      have L120_38 : ∀ (k120 : Nat) (l8_120 : Int) (y300_c120 : Nat → Int) (H : Heap) (locs : List Loc) (ls : Array Slot), inR l8_120 → (((l5_14 ≤ l8_120 ∧ l8_120 ≤ (T 1 (T 161 o) : Int) - l6_50) ∧ (∀ j_, 0 ≤ j_ → j_ < ((((T 1 (T 161 a_w) : Int)) - l6_50) - l5_14) + 1 → gC_ (y300_c120) a_r j_ = Ld_ (fun k_ => gC_ (v_0 300) (T 161 o) (k_ + l5_14)) (fun k_ => gC_ (v_0 300) (T 161 a_w) (k_ + l5_14)) (l8_120 - l5_14).toNat j_.toNat)) ∧ Ro_ (v_0 300) y300_c120 a_r) → ((T 1 (T 161 o) : Int) - l8_120).toNat < k120 → WK D cy T (upV v_0 300 y300_c120) A0 H0 H locs → lv_has ls 9 [(0, .ref o), (1, .ref a_w), (2, .ref a_r), (3, .ref (T 161 o)), (4, .ref (T 161 a_w)), (5, .int (J l5_14)), (6, .int (J l6_50)), (7, .int (J ((((T 1 (T 161 a_w) : Int)) - l6_50) - l5_14))), (8, .int (J l8_120))] → W p l e (rmd 3 0 0) s m ar below meth c H locs 0 0 QW (F0 m 120 ls []) := by
                        intro k120
                        induction k120 with
                        | zero =>
                          intro l8_120 y300_c120 H locs ls r_l8_120 iv120 ms120 hw hl
                          exact absurd ms120 (Nat.not_lt_zero _)
                        | succ k120 ih120 =>
                          intro l8_120 y300_c120 H locs ls r_l8_120 iv120 ms120 hw hl
                          obtain ⟨iv120, ik120_⟩ := iv120
                          refine j_iload E 122 rfl dX7_leastChanges_120 (lv_at hl 8 rfl) ?_
                          refine j_aload_n E 123 rfl dX7_leastChanges_122 rfl (lv_at hl 3 rfl) ?_
                          refine a_ln20 E hK hw (wt_161 hT t_o) 124 rfl dX7_leastChanges_123 (fun _ => ?_)
                          refine j_iload E 126 rfl dX7_leastChanges_124 (lv_at hl 6 rfl) ?_
                          refine j_isub E 127 rfl dX7_leastChanges_126 ?_
                          refine j_icmp_ge E 130 150 rfl r_l8_120 (rr (by omega)) dX7_leastChanges_127 (by decide) (fun cc40_ => ?_) (fun cc40_ => ?_)
                          · refine j_iload E 152 rfl dX7_leastChanges_150 (lv_at hl 7 rfl) ?_
                            refine j_if_lt E 155 169 rfl (rr (by omega)) dX7_leastChanges_152 (by decide) (fun cc41_ => ?_) (fun cc41_ => ?_)
                            · refine j_iconst E 170 rfl dX7_leastChanges_169 ?_
                              exact hret 170 0 (upV v_0 300 y300_c120) _ _ ls hw (rr (by decide)) ⟨y300_c120, rfl, ⟨by first | exact (h5_.trans (iv120.2 _ (by omega) (by omega))).trans (lc_fin (by omega) (by omega) (by omega) iv14.2 iv50.2) | (exfalso; omega), ik120_⟩⟩ dX7_leastChanges_170
                            · refine j_iload E 157 rfl dX7_leastChanges_155 (lv_at hl 7 rfl) ?_
                              refine j_aload_n E 158 rfl dX7_leastChanges_157 rfl (lv_at hl 2 rfl) ?_
                              refine a_ln20 E hK hw t_r 159 rfl dX7_leastChanges_158 (fun rr42_ => ?_)
                              refine j_icmp_ge E 162 169 rfl (rr (by omega)) rr42_ dX7_leastChanges_159 (by decide) (fun cc43_ => ?_) (fun cc43_ => ?_)
                              · refine j_iconst E 170 rfl dX7_leastChanges_169 ?_
                                exact hret 170 0 (upV v_0 300 y300_c120) _ _ ls hw (rr (by decide)) ⟨y300_c120, rfl, ⟨by first | exact (h5_.trans (iv120.2 _ (by omega) (by omega))).trans (lc_fin (by omega) (by omega) (by omega) iv14.2 iv50.2) | (exfalso; omega), ik120_⟩⟩ dX7_leastChanges_170
                              · refine j_aload_n E 163 rfl dX7_leastChanges_162 rfl (lv_at hl 2 rfl) ?_
                                refine j_iload E 165 rfl dX7_leastChanges_163 (lv_at hl 7 rfl) ?_
                                refine a_ld20 E hK hw t_r (by omega) 166 rfl dX7_leastChanges_165 (fun zz44_ he44_ rr44_ => ?_)
                                have he44_ : zz44_ = y300_c120 (pr a_r (Int.toNat ((((T 1 (T 161 a_w) : Int)) - l6_50) - l5_14))) := he44_
                                have h5_ : zz44_ = gC_ (y300_c120) a_r ((((T 1 (T 161 a_w) : Int)) - l6_50) - l5_14) := he44_
                                refine j_goto E 170 dX7_leastChanges_166 (by decide) ?_
                                exact hret 170 zz44_ (upV v_0 300 y300_c120) _ _ ls hw rr44_ ⟨y300_c120, rfl, ⟨by first | exact (h5_.trans (iv120.2 _ (by omega) (by omega))).trans (lc_fin (by omega) (by omega) (by omega) iv14.2 iv50.2) | (exfalso; omega), ik120_⟩⟩ dX7_leastChanges_170
                          · refine j_aload_n E 131 rfl dX7_leastChanges_130 rfl (lv_at hl 3 rfl) ?_
                            refine j_iload E 133 rfl dX7_leastChanges_131 (lv_at hl 8 rfl) ?_
                            refine a_ld20 E hK hw (wt_161 hT t_o) (by omega) 134 rfl dX7_leastChanges_133 (fun zz45_ he45_ rr45_ => ?_)
                            have he45_ : zz45_ = y300_c120 (pr (T 161 o) (Int.toNat l8_120)) := he45_
                            have h3_ : zz45_ = gC_ (y300_c120) (T 161 o) l8_120 := he45_
                            refine j_aload E 136 rfl dX7_leastChanges_134 (lv_at hl 4 rfl) ?_
                            refine j_iload E 138 rfl dX7_leastChanges_136 (lv_at hl 5 rfl) ?_
                            refine j_aload_n E 139 rfl dX7_leastChanges_138 rfl (lv_at hl 2 rfl) ?_
                            refine j_iload E 141 rfl dX7_leastChanges_139 (lv_at hl 7 rfl) ?_
                            refine kS_v E (c3_X7_stepRow l D cy T (upV v_0 300 y300_c120) zz45_ (T 161 a_w) l5_14 a_r ((((T 1 (T 161 a_w) : Int)) - l6_50) - l5_14) ((fun k_ => gC_ (v_0 300) (T 161 o) (k_ + l5_14))) ((fun k_ => gC_ (v_0 300) (T 161 a_w) (k_ + l5_14))) (l8_120 - l5_14)  rr45_ (wt_161 hT t_w) r_l5_14 t_r (rr (by omega)) (show 0 ≤ l5_14 ∧ ((((T 1 (T 161 a_w) : Int)) - l6_50) - l5_14) + l5_14 ≤ (T 1 (T 161 a_w) : Int) from by omega) (show 0 ≤ ((((T 1 (T 161 a_w) : Int)) - l6_50) - l5_14) ∧ ((((T 1 (T 161 a_w) : Int)) - l6_50) - l5_14) < (T 1 a_r : Int) ∧ ((((T 1 (T 161 a_w) : Int)) - l6_50) - l5_14) ≤ 400 ∧ 0 ≤ ((l8_120 - l5_14)) ∧ ((l8_120 - l5_14)) ≤ 400 from by omega) (show (∀ j_, 0 ≤ j_ → j_ < ((((T 1 (T 161 a_w) : Int)) - l6_50) - l5_14) + 1 → gC_ (y300_c120) a_r j_ = Ld_ (((fun k_ => gC_ (v_0 300) (T 161 o) (k_ + l5_14)))) (((fun k_ => gC_ (v_0 300) (T 161 a_w) (k_ + l5_14)))) (((l8_120 - l5_14))).toNat j_.toNat) from iv120.2) (show zz45_ = (((fun k_ => gC_ (v_0 300) (T 161 o) (k_ + l5_14)))) ((l8_120 - l5_14)) from by rw [h3_, gC_ro ik120_ hp1.1]; congr 1; omega) (show ∀ j_, 0 ≤ j_ → j_ < ((((T 1 (T 161 a_w) : Int)) - l6_50) - l5_14) → gC_ (y300_c120) (T 161 a_w) (l5_14 + j_) = (((fun k_ => gC_ (v_0 300) (T 161 a_w) (k_ + l5_14)))) j_ from fun j_ _ _ => by rw [gC_ro ik120_ hp1.2]; congr 1; omega) (show (T 161 a_w) ≠ a_r from hp1.2)) ms_X7_stepRow ml_X7_41 hK hw hA ⟨Nat.le_of_ble_eq_true rfl, Nat.le_of_ble_eq_true rfl⟩ ⟨Nat.le_of_ble_eq_true rfl, Nat.le_of_ble_eq_true rfl⟩ (As := [.int (J zz45_), .ref (T 161 a_w), .int (J l5_14), .ref a_r, .int (J ((((T 1 (T 161 a_w) : Int)) - l6_50) - l5_14))]) (rest := []) rfl rfl hl.1 (Nat.le_of_ble_eq_true rfl) 144 rfl dX7_leastChanges_141 (fun v_46 H locs hq46_ hw => ?_)
                            obtain ⟨y300_46, ev46_, hh46_⟩ := hq46_
                            rw [ev46_] at hw; clear ev46_
                            have hw : WK D cy T (upV v_0 300 y300_46) A0 H0 H locs := cw_eq hw (by first | rfl | (funext j_; simp only [upV, reduceIte]; (repeat' split) <;> first | rfl | omega | (subst_vars; rfl)))
                            obtain ⟨hh46_, kf46_⟩ := hh46_
                            replace hh46_ : (∀ j_, 0 ≤ j_ → j_ < ((((T 1 (T 161 a_w) : Int)) - l6_50) - l5_14) + 1 → gC_ (y300_46) a_r j_ = Ld_ (((fun k_ => gC_ (v_0 300) (T 161 o) (k_ + l5_14)))) (((fun k_ => gC_ (v_0 300) (T 161 a_w) (k_ + l5_14)))) (((l8_120 - l5_14)) + 1).toNat j_.toNat) := hh46_
                            have st_ := hh46_
                            clear hh46_
                            refine j_iinc E 147 rfl [(8, .int (J (l8_120 + 1))), (0, .ref o), (1, .ref a_w), (2, .ref a_r), (3, .ref (T 161 o)), (4, .ref (T 161 a_w)), (5, .int (J l5_14)), (6, .int (J l6_50)), (7, .int (J ((((T 1 (T 161 a_w) : Int)) - l6_50) - l5_14)))] dX7_leastChanges_144 hl (kk := 8) rfl (by decide) rfl (fun ls hl => ?_)
                            refine j_goto E 120 dX7_leastChanges_147 (by decide) ?_
                            exact ih120 (l8_120 + 1) y300_46 H locs ls (rr (by omega)) (⟨⟨by omega, fun j_ h1_ h2_ => (st_ j_ h1_ h2_).trans (by congr 1; omega)⟩, (Ro_tr ik120_ kf46_)⟩) (by omega) hw (lv_sub hl [1, 2, 3, 4, 5, 6, 7, 8, 0] rfl)
                      exact L120_38 _ l5_14 y300_c90 H locs ls r_l5_14 (⟨⟨by omega, fun j_ h1_ h2_ => by rw [show l5_14 - l5_14 = 0 by omega, ← Ld_i0 h1_]; exact iv90.2 j_ h1_ (by omega)⟩, ik90_⟩) (Nat.lt_succ_self _) hw (lv_sub hl [1, 2, 3, 4, 5, 6, 7, 8, 0] rfl)
                    · refine j_iload E 99 rfl dX7_leastChanges_97 (lv_at hl 8 rfl) ?_
                      refine j_aload_n E 100 rfl dX7_leastChanges_99 rfl (lv_at hl 2 rfl) ?_
                      refine a_ln20 E hK hw t_r 101 rfl dX7_leastChanges_100 (fun rr47_ => ?_)
                      refine j_icmp_ge E 104 116 rfl r_l8_90 rr47_ dX7_leastChanges_101 (by decide) (fun cc48_ => ?_) (fun cc48_ => ?_)
                      · refine j_iload E 118 rfl dX7_leastChanges_116 (lv_at hl 5 rfl) ?_
                        refine j_istore E 120 rfl [(8, .int (J l5_14)), (0, .ref o), (1, .ref a_w), (2, .ref a_r), (3, .ref (T 161 o)), (4, .ref (T 161 a_w)), (5, .int (J l5_14)), (6, .int (J l6_50)), (7, .int (J ((((T 1 (T 161 a_w) : Int)) - l6_50) - l5_14)))] dX7_leastChanges_118 hl (by decide) rfl (fun ls hl => ?_)
                        have L120_49 : ∀ (k120 : Nat) (l8_120 : Int) (y300_c120 : Nat → Int) (H : Heap) (locs : List Loc) (ls : Array Slot), inR l8_120 → (((l5_14 ≤ l8_120 ∧ l8_120 ≤ (T 1 (T 161 o) : Int) - l6_50) ∧ (∀ j_, 0 ≤ j_ → j_ < ((((T 1 (T 161 a_w) : Int)) - l6_50) - l5_14) + 1 → gC_ (y300_c120) a_r j_ = Ld_ (fun k_ => gC_ (v_0 300) (T 161 o) (k_ + l5_14)) (fun k_ => gC_ (v_0 300) (T 161 a_w) (k_ + l5_14)) (l8_120 - l5_14).toNat j_.toNat)) ∧ Ro_ (v_0 300) y300_c120 a_r) → ((T 1 (T 161 o) : Int) - l8_120).toNat < k120 → WK D cy T (upV v_0 300 y300_c120) A0 H0 H locs → lv_has ls 9 [(0, .ref o), (1, .ref a_w), (2, .ref a_r), (3, .ref (T 161 o)), (4, .ref (T 161 a_w)), (5, .int (J l5_14)), (6, .int (J l6_50)), (7, .int (J ((((T 1 (T 161 a_w) : Int)) - l6_50) - l5_14))), (8, .int (J l8_120))] → W p l e (rmd 3 0 0) s m ar below meth c H locs 0 0 QW (F0 m 120 ls []) := by
                          intro k120
                          induction k120 with
                          | zero =>
                            intro l8_120 y300_c120 H locs ls r_l8_120 iv120 ms120 hw hl
                            exact absurd ms120 (Nat.not_lt_zero _)
                          | succ k120 ih120 =>
                            intro l8_120 y300_c120 H locs ls r_l8_120 iv120 ms120 hw hl
                            obtain ⟨iv120, ik120_⟩ := iv120
                            refine j_iload E 122 rfl dX7_leastChanges_120 (lv_at hl 8 rfl) ?_
                            refine j_aload_n E 123 rfl dX7_leastChanges_122 rfl (lv_at hl 3 rfl) ?_
                            refine a_ln20 E hK hw (wt_161 hT t_o) 124 rfl dX7_leastChanges_123 (fun _ => ?_)
                            refine j_iload E 126 rfl dX7_leastChanges_124 (lv_at hl 6 rfl) ?_
                            refine j_isub E 127 rfl dX7_leastChanges_126 ?_
                            refine j_icmp_ge E 130 150 rfl r_l8_120 (rr (by omega)) dX7_leastChanges_127 (by decide) (fun cc51_ => ?_) (fun cc51_ => ?_)
                            · refine j_iload E 152 rfl dX7_leastChanges_150 (lv_at hl 7 rfl) ?_
                              refine j_if_lt E 155 169 rfl (rr (by omega)) dX7_leastChanges_152 (by decide) (fun cc52_ => ?_) (fun cc52_ => ?_)
                              · refine j_iconst E 170 rfl dX7_leastChanges_169 ?_
                                exact hret 170 0 (upV v_0 300 y300_c120) _ _ ls hw (rr (by decide)) ⟨y300_c120, rfl, ⟨by first | exact (h5_.trans (iv120.2 _ (by omega) (by omega))).trans (lc_fin (by omega) (by omega) (by omega) iv14.2 iv50.2) | (exfalso; omega), ik120_⟩⟩ dX7_leastChanges_170
                              · refine j_iload E 157 rfl dX7_leastChanges_155 (lv_at hl 7 rfl) ?_
                                refine j_aload_n E 158 rfl dX7_leastChanges_157 rfl (lv_at hl 2 rfl) ?_
                                refine a_ln20 E hK hw t_r 159 rfl dX7_leastChanges_158 (fun _ => ?_)
                                refine j_icmp_ge E 162 169 rfl (rr (by omega)) rr47_ dX7_leastChanges_159 (by decide) (fun cc53_ => ?_) (fun cc53_ => ?_)
                                · refine j_iconst E 170 rfl dX7_leastChanges_169 ?_
                                  exact hret 170 0 (upV v_0 300 y300_c120) _ _ ls hw (rr (by decide)) ⟨y300_c120, rfl, ⟨by first | exact (h5_.trans (iv120.2 _ (by omega) (by omega))).trans (lc_fin (by omega) (by omega) (by omega) iv14.2 iv50.2) | (exfalso; omega), ik120_⟩⟩ dX7_leastChanges_170
                                · refine j_aload_n E 163 rfl dX7_leastChanges_162 rfl (lv_at hl 2 rfl) ?_
                                  refine j_iload E 165 rfl dX7_leastChanges_163 (lv_at hl 7 rfl) ?_
                                  refine a_ld20 E hK hw t_r (by omega) 166 rfl dX7_leastChanges_165 (fun zz54_ he54_ rr54_ => ?_)
                                  have he54_ : zz54_ = y300_c120 (pr a_r (Int.toNat ((((T 1 (T 161 a_w) : Int)) - l6_50) - l5_14))) := he54_
                                  have h5_ : zz54_ = gC_ (y300_c120) a_r ((((T 1 (T 161 a_w) : Int)) - l6_50) - l5_14) := he54_
                                  refine j_goto E 170 dX7_leastChanges_166 (by decide) ?_
                                  exact hret 170 zz54_ (upV v_0 300 y300_c120) _ _ ls hw rr54_ ⟨y300_c120, rfl, ⟨by first | exact (h5_.trans (iv120.2 _ (by omega) (by omega))).trans (lc_fin (by omega) (by omega) (by omega) iv14.2 iv50.2) | (exfalso; omega), ik120_⟩⟩ dX7_leastChanges_170
                            · refine j_aload_n E 131 rfl dX7_leastChanges_130 rfl (lv_at hl 3 rfl) ?_
                              refine j_iload E 133 rfl dX7_leastChanges_131 (lv_at hl 8 rfl) ?_
                              refine a_ld20 E hK hw (wt_161 hT t_o) (by omega) 134 rfl dX7_leastChanges_133 (fun zz55_ he55_ rr55_ => ?_)
                              have he55_ : zz55_ = y300_c120 (pr (T 161 o) (Int.toNat l8_120)) := he55_
                              have h3_ : zz55_ = gC_ (y300_c120) (T 161 o) l8_120 := he55_
                              refine j_aload E 136 rfl dX7_leastChanges_134 (lv_at hl 4 rfl) ?_
                              refine j_iload E 138 rfl dX7_leastChanges_136 (lv_at hl 5 rfl) ?_
                              refine j_aload_n E 139 rfl dX7_leastChanges_138 rfl (lv_at hl 2 rfl) ?_
                              refine j_iload E 141 rfl dX7_leastChanges_139 (lv_at hl 7 rfl) ?_
                              refine kS_v E (c3_X7_stepRow l D cy T (upV v_0 300 y300_c120) zz55_ (T 161 a_w) l5_14 a_r ((((T 1 (T 161 a_w) : Int)) - l6_50) - l5_14) ((fun k_ => gC_ (v_0 300) (T 161 o) (k_ + l5_14))) ((fun k_ => gC_ (v_0 300) (T 161 a_w) (k_ + l5_14))) (l8_120 - l5_14)  rr55_ (wt_161 hT t_w) r_l5_14 t_r (rr (by omega)) (show 0 ≤ l5_14 ∧ ((((T 1 (T 161 a_w) : Int)) - l6_50) - l5_14) + l5_14 ≤ (T 1 (T 161 a_w) : Int) from by omega) (show 0 ≤ ((((T 1 (T 161 a_w) : Int)) - l6_50) - l5_14) ∧ ((((T 1 (T 161 a_w) : Int)) - l6_50) - l5_14) < (T 1 a_r : Int) ∧ ((((T 1 (T 161 a_w) : Int)) - l6_50) - l5_14) ≤ 400 ∧ 0 ≤ ((l8_120 - l5_14)) ∧ ((l8_120 - l5_14)) ≤ 400 from by omega) (show (∀ j_, 0 ≤ j_ → j_ < ((((T 1 (T 161 a_w) : Int)) - l6_50) - l5_14) + 1 → gC_ (y300_c120) a_r j_ = Ld_ (((fun k_ => gC_ (v_0 300) (T 161 o) (k_ + l5_14)))) (((fun k_ => gC_ (v_0 300) (T 161 a_w) (k_ + l5_14)))) (((l8_120 - l5_14))).toNat j_.toNat) from iv120.2) (show zz55_ = (((fun k_ => gC_ (v_0 300) (T 161 o) (k_ + l5_14)))) ((l8_120 - l5_14)) from by rw [h3_, gC_ro ik120_ hp1.1]; congr 1; omega) (show ∀ j_, 0 ≤ j_ → j_ < ((((T 1 (T 161 a_w) : Int)) - l6_50) - l5_14) → gC_ (y300_c120) (T 161 a_w) (l5_14 + j_) = (((fun k_ => gC_ (v_0 300) (T 161 a_w) (k_ + l5_14)))) j_ from fun j_ _ _ => by rw [gC_ro ik120_ hp1.2]; congr 1; omega) (show (T 161 a_w) ≠ a_r from hp1.2)) ms_X7_stepRow ml_X7_41 hK hw hA ⟨Nat.le_of_ble_eq_true rfl, Nat.le_of_ble_eq_true rfl⟩ ⟨Nat.le_of_ble_eq_true rfl, Nat.le_of_ble_eq_true rfl⟩ (As := [.int (J zz55_), .ref (T 161 a_w), .int (J l5_14), .ref a_r, .int (J ((((T 1 (T 161 a_w) : Int)) - l6_50) - l5_14))]) (rest := []) rfl rfl hl.1 (Nat.le_of_ble_eq_true rfl) 144 rfl dX7_leastChanges_141 (fun v_56 H locs hq56_ hw => ?_)
                              obtain ⟨y300_56, ev56_, hh56_⟩ := hq56_
                              rw [ev56_] at hw; clear ev56_
                              have hw : WK D cy T (upV v_0 300 y300_56) A0 H0 H locs := cw_eq hw (by first | rfl | (funext j_; simp only [upV, reduceIte]; (repeat' split) <;> first | rfl | omega | (subst_vars; rfl)))
                              obtain ⟨hh56_, kf56_⟩ := hh56_
                              replace hh56_ : (∀ j_, 0 ≤ j_ → j_ < ((((T 1 (T 161 a_w) : Int)) - l6_50) - l5_14) + 1 → gC_ (y300_56) a_r j_ = Ld_ (((fun k_ => gC_ (v_0 300) (T 161 o) (k_ + l5_14)))) (((fun k_ => gC_ (v_0 300) (T 161 a_w) (k_ + l5_14)))) (((l8_120 - l5_14)) + 1).toNat j_.toNat) := hh56_
                              have st_ := hh56_
                              clear hh56_
                              refine j_iinc E 147 rfl [(8, .int (J (l8_120 + 1))), (0, .ref o), (1, .ref a_w), (2, .ref a_r), (3, .ref (T 161 o)), (4, .ref (T 161 a_w)), (5, .int (J l5_14)), (6, .int (J l6_50)), (7, .int (J ((((T 1 (T 161 a_w) : Int)) - l6_50) - l5_14)))] dX7_leastChanges_144 hl (kk := 8) rfl (by decide) rfl (fun ls hl => ?_)
                              refine j_goto E 120 dX7_leastChanges_147 (by decide) ?_
                              exact ih120 (l8_120 + 1) y300_56 H locs ls (rr (by omega)) (⟨⟨by omega, fun j_ h1_ h2_ => (st_ j_ h1_ h2_).trans (by congr 1; omega)⟩, (Ro_tr ik120_ kf56_)⟩) (by omega) hw (lv_sub hl [1, 2, 3, 4, 5, 6, 7, 8, 0] rfl)
                        exact L120_49 _ l5_14 y300_c90 H locs ls r_l5_14 (⟨⟨by omega, fun j_ h1_ h2_ => by rw [show l5_14 - l5_14 = 0 by omega, ← Ld_i0 h1_]; exact iv90.2 j_ h1_ (by omega)⟩, ik90_⟩) (Nat.lt_succ_self _) hw (lv_sub hl [1, 2, 3, 4, 5, 6, 7, 8, 0] rfl)
                      · refine j_aload_n E 105 rfl dX7_leastChanges_104 rfl (lv_at hl 2 rfl) ?_
                        refine j_iload E 107 rfl dX7_leastChanges_105 (lv_at hl 8 rfl) ?_
                        refine j_iload E 109 rfl dX7_leastChanges_107 (lv_at hl 8 rfl) ?_
                        refine a_st20 E hK hw t_r r_l8_90 (by omega) 110 rfl dX7_leastChanges_109 (fun H locs hw => ?_)
                        have hw : WK D cy T (upV v_0 300 (upB y300_c90 ((pr a_r (Int.toNat l8_90))) l8_90)) A0 H0 H locs := cw_eq hw (by first | rfl | (funext j_; simp only [upV, reduceIte]; (repeat' split) <;> first | rfl | omega | (subst_vars; rfl)))
                        refine j_iinc E 113 rfl [(8, .int (J (l8_90 + 1))), (0, .ref o), (1, .ref a_w), (2, .ref a_r), (3, .ref (T 161 o)), (4, .ref (T 161 a_w)), (5, .int (J l5_14)), (6, .int (J l6_50)), (7, .int (J ((((T 1 (T 161 a_w) : Int)) - l6_50) - l5_14)))] dX7_leastChanges_110 hl (kk := 8) rfl (by decide) rfl (fun ls hl => ?_)
                        refine j_goto E 90 dX7_leastChanges_113 (by decide) ?_
                        exact ih90 (l8_90 + 1) (upB y300_c90 ((pr a_r (Int.toNat l8_90))) l8_90) H locs ls (rr (by omega)) (⟨⟨by omega, rw_nx iv90.2 (by omega)⟩, (Ro_tr ik90_ Ro_up)⟩) (by omega) hw (lv_sub hl [1, 2, 3, 4, 5, 6, 7, 8, 0] rfl)
                exact L90_35 _ 0 (v_0 300) H locs ls (rr (by decide)) (⟨⟨by omega, fun j_ h1_ h2_ => absurd h2_ (by omega)⟩, Ro_rf⟩) (Nat.lt_succ_self _) (cw_eq hw (by first | rfl | (funext j_; simp only [upV, reduceIte]; (repeat' split) <;> first | rfl | omega | (subst_vars; rfl)))) (lv_sub hl [2, 3, 4, 5, 6, 7, 8, 1, 0] rfl)
              · have sq_ := sm_.elim id (fun q_ => absurd q_ (by omega))
                refine j_iinc E 73 rfl [(6, .int (J (l6_50 + 1))), (0, .ref o), (1, .ref a_w), (2, .ref a_r), (3, .ref (T 161 o)), (4, .ref (T 161 a_w)), (5, .int (J l5_14))] dX7_leastChanges_70 hl (kk := 6) rfl (by decide) rfl (fun ls hl => ?_)
                refine j_goto E 50 dX7_leastChanges_73 (by decide) ?_
                exact ih50 (l6_50 + 1)  H locs ls (rr (by omega)) (⟨by omega, eq_nx (f := fun k_ => gC_ (v_0 300) (T 161 o) ((T 1 (T 161 o) : Int) - 1 - k_)) (g := fun k_ => gC_ (v_0 300) (T 161 a_w) ((T 1 (T 161 a_w) : Int) - 1 - k_)) iv50.2 sq_.2.2⟩) (by omega) hw (lv_sub hl [1, 2, 3, 4, 5, 6, 0] rfl)
        exact L50_5 _ 0  H locs ls (rr (by decide)) (⟨by omega, fun k_ h1_ h2_ => absurd h2_ (by omega)⟩) (Nat.lt_succ_self _) hw (lv_sub hl [1, 2, 3, 4, 5, 6, 0] rfl)
      · refine j_iload E 23 rfl dX7_leastChanges_21 (lv_at hl 5 rfl) ?_
        refine j_aload E 25 rfl dX7_leastChanges_23 (lv_at hl 4 rfl) ?_
        refine a_ln20 E hK hw (wt_161 hT t_w) 26 rfl dX7_leastChanges_25 (fun rr58_ => ?_)
        refine j_icmp_ge E 29 47 rfl r_l5_14 rr58_ dX7_leastChanges_26 (by decide) (fun cc59_ => ?_) (fun cc59_ => ?_)
        · refine j_iconst E 48 rfl dX7_leastChanges_47 ?_
          refine j_istore E 50 rfl [(6, .int (J 0)), (0, .ref o), (1, .ref a_w), (2, .ref a_r), (3, .ref (T 161 o)), (4, .ref (T 161 a_w)), (5, .int (J l5_14))] dX7_leastChanges_48 hl (by decide) rfl (fun ls hl => ?_)
          have L50_60 : ∀ (k50 : Nat) (l6_50 : Int) (H : Heap) (locs : List Loc) (ls : Array Slot), inR l6_50 → ((0 ≤ l6_50 ∧ l6_50 + l5_14 ≤ (T 1 (T 161 o) : Int) ∧ l6_50 + l5_14 ≤ (T 1 (T 161 a_w) : Int)) ∧ (∀ k_, 0 ≤ k_ → k_ < l6_50 → gC_ (v_0 300) (T 161 o) ((T 1 (T 161 o) : Int) - 1 - k_) = gC_ (v_0 300) (T 161 a_w) ((T 1 (T 161 a_w) : Int) - 1 - k_))) → ((T 1 (T 161 o) : Int) - l6_50).toNat < k50 → WK D cy T (v_0) A0 H0 H locs → lv_has ls 9 [(0, .ref o), (1, .ref a_w), (2, .ref a_r), (3, .ref (T 161 o)), (4, .ref (T 161 a_w)), (5, .int (J l5_14)), (6, .int (J l6_50))] → W p l e (rmd 3 0 0) s m ar below meth c H locs 0 0 QW (F0 m 50 ls []) := by
            intro k50
            induction k50 with
            | zero =>
              intro l6_50 H locs ls r_l6_50 iv50 ms50 hw hl
              exact absurd ms50 (Nat.not_lt_zero _)
            | succ k50 ih50 =>
              intro l6_50 H locs ls r_l6_50 iv50 ms50 hw hl
              refine j_iload E 52 rfl dX7_leastChanges_50 (lv_at hl 6 rfl) ?_
              refine j_aload_n E 53 rfl dX7_leastChanges_52 rfl (lv_at hl 3 rfl) ?_
              refine a_ln20 E hK hw (wt_161 hT t_o) 54 rfl dX7_leastChanges_53 (fun _ => ?_)
              refine j_icmp_ge E 57 76 rfl r_l6_50 rr3_ dX7_leastChanges_54 (by decide) (fun cc62_ => ?_) (fun cc62_ => ?_)
              · refine j_aload E 78 rfl dX7_leastChanges_76 (lv_at hl 4 rfl) ?_
                refine a_ln20 E hK hw (wt_161 hT t_w) 79 rfl dX7_leastChanges_78 (fun _ => ?_)
                refine j_iload E 81 rfl dX7_leastChanges_79 (lv_at hl 6 rfl) ?_
                refine j_isub E 82 rfl dX7_leastChanges_81 ?_
                refine j_iload E 84 rfl dX7_leastChanges_82 (lv_at hl 5 rfl) ?_
                refine j_isub E 85 rfl dX7_leastChanges_84 ?_
                refine j_istore E 87 rfl [(7, .int (J ((((T 1 (T 161 a_w) : Int)) - l6_50) - l5_14))), (0, .ref o), (1, .ref a_w), (2, .ref a_r), (3, .ref (T 161 o)), (4, .ref (T 161 a_w)), (5, .int (J l5_14)), (6, .int (J l6_50))] dX7_leastChanges_85 hl (by decide) rfl (fun ls hl => ?_)
                refine j_iconst E 88 rfl dX7_leastChanges_87 ?_
                refine j_istore E 90 rfl [(8, .int (J 0)), (7, .int (J ((((T 1 (T 161 a_w) : Int)) - l6_50) - l5_14))), (0, .ref o), (1, .ref a_w), (2, .ref a_r), (3, .ref (T 161 o)), (4, .ref (T 161 a_w)), (5, .int (J l5_14)), (6, .int (J l6_50))] dX7_leastChanges_88 hl (by decide) rfl (fun ls hl => ?_)
                have L90_63 : ∀ (k90 : Nat) (l8_90 : Int) (y300_c90 : Nat → Int) (H : Heap) (locs : List Loc) (ls : Array Slot), inR l8_90 → (((0 ≤ l8_90 ∧ l8_90 ≤ ((((T 1 (T 161 a_w) : Int)) - l6_50) - l5_14) + 1) ∧ (∀ j_, 0 ≤ j_ → j_ < l8_90 → gC_ (y300_c90) a_r j_ = j_)) ∧ Ro_ (v_0 300) y300_c90 a_r) → ((T 1 a_r : Int) - l8_90).toNat < k90 → WK D cy T (upV v_0 300 y300_c90) A0 H0 H locs → lv_has ls 9 [(0, .ref o), (1, .ref a_w), (2, .ref a_r), (3, .ref (T 161 o)), (4, .ref (T 161 a_w)), (5, .int (J l5_14)), (6, .int (J l6_50)), (7, .int (J ((((T 1 (T 161 a_w) : Int)) - l6_50) - l5_14))), (8, .int (J l8_90))] → W p l e (rmd 3 0 0) s m ar below meth c H locs 0 0 QW (F0 m 90 ls []) := by
                  intro k90
                  induction k90 with
                  | zero =>
                    intro l8_90 y300_c90 H locs ls r_l8_90 iv90 ms90 hw hl
                    exact absurd ms90 (Nat.not_lt_zero _)
                  | succ k90 ih90 =>
                    intro l8_90 y300_c90 H locs ls r_l8_90 iv90 ms90 hw hl
                    obtain ⟨iv90, ik90_⟩ := iv90
                    refine j_iload E 92 rfl dX7_leastChanges_90 (lv_at hl 8 rfl) ?_
                    refine j_iload E 94 rfl dX7_leastChanges_92 (lv_at hl 7 rfl) ?_
                    refine j_icmp_gt E 97 116 rfl r_l8_90 (rr (by omega)) dX7_leastChanges_94 (by decide) (fun cc65_ => ?_) (fun cc65_ => ?_)
                    · refine j_iload E 118 rfl dX7_leastChanges_116 (lv_at hl 5 rfl) ?_
                      refine j_istore E 120 rfl [(8, .int (J l5_14)), (0, .ref o), (1, .ref a_w), (2, .ref a_r), (3, .ref (T 161 o)), (4, .ref (T 161 a_w)), (5, .int (J l5_14)), (6, .int (J l6_50)), (7, .int (J ((((T 1 (T 161 a_w) : Int)) - l6_50) - l5_14)))] dX7_leastChanges_118 hl (by decide) rfl (fun ls hl => ?_)
                      have L120_66 : ∀ (k120 : Nat) (l8_120 : Int) (y300_c120 : Nat → Int) (H : Heap) (locs : List Loc) (ls : Array Slot), inR l8_120 → (((l5_14 ≤ l8_120 ∧ l8_120 ≤ (T 1 (T 161 o) : Int) - l6_50) ∧ (∀ j_, 0 ≤ j_ → j_ < ((((T 1 (T 161 a_w) : Int)) - l6_50) - l5_14) + 1 → gC_ (y300_c120) a_r j_ = Ld_ (fun k_ => gC_ (v_0 300) (T 161 o) (k_ + l5_14)) (fun k_ => gC_ (v_0 300) (T 161 a_w) (k_ + l5_14)) (l8_120 - l5_14).toNat j_.toNat)) ∧ Ro_ (v_0 300) y300_c120 a_r) → ((T 1 (T 161 o) : Int) - l8_120).toNat < k120 → WK D cy T (upV v_0 300 y300_c120) A0 H0 H locs → lv_has ls 9 [(0, .ref o), (1, .ref a_w), (2, .ref a_r), (3, .ref (T 161 o)), (4, .ref (T 161 a_w)), (5, .int (J l5_14)), (6, .int (J l6_50)), (7, .int (J ((((T 1 (T 161 a_w) : Int)) - l6_50) - l5_14))), (8, .int (J l8_120))] → W p l e (rmd 3 0 0) s m ar below meth c H locs 0 0 QW (F0 m 120 ls []) := by
                        intro k120
                        induction k120 with
                        | zero =>
                          intro l8_120 y300_c120 H locs ls r_l8_120 iv120 ms120 hw hl
                          exact absurd ms120 (Nat.not_lt_zero _)
                        | succ k120 ih120 =>
                          intro l8_120 y300_c120 H locs ls r_l8_120 iv120 ms120 hw hl
                          obtain ⟨iv120, ik120_⟩ := iv120
                          refine j_iload E 122 rfl dX7_leastChanges_120 (lv_at hl 8 rfl) ?_
                          refine j_aload_n E 123 rfl dX7_leastChanges_122 rfl (lv_at hl 3 rfl) ?_
                          refine a_ln20 E hK hw (wt_161 hT t_o) 124 rfl dX7_leastChanges_123 (fun _ => ?_)
                          refine j_iload E 126 rfl dX7_leastChanges_124 (lv_at hl 6 rfl) ?_
                          refine j_isub E 127 rfl dX7_leastChanges_126 ?_
                          refine j_icmp_ge E 130 150 rfl r_l8_120 (rr (by omega)) dX7_leastChanges_127 (by decide) (fun cc68_ => ?_) (fun cc68_ => ?_)
                          · refine j_iload E 152 rfl dX7_leastChanges_150 (lv_at hl 7 rfl) ?_
                            refine j_if_lt E 155 169 rfl (rr (by omega)) dX7_leastChanges_152 (by decide) (fun cc69_ => ?_) (fun cc69_ => ?_)
                            · refine j_iconst E 170 rfl dX7_leastChanges_169 ?_
                              exact hret 170 0 (upV v_0 300 y300_c120) _ _ ls hw (rr (by decide)) ⟨y300_c120, rfl, ⟨by first | exact (h5_.trans (iv120.2 _ (by omega) (by omega))).trans (lc_fin (by omega) (by omega) (by omega) iv14.2 iv50.2) | (exfalso; omega), ik120_⟩⟩ dX7_leastChanges_170
                            · refine j_iload E 157 rfl dX7_leastChanges_155 (lv_at hl 7 rfl) ?_
                              refine j_aload_n E 158 rfl dX7_leastChanges_157 rfl (lv_at hl 2 rfl) ?_
                              refine a_ln20 E hK hw t_r 159 rfl dX7_leastChanges_158 (fun rr70_ => ?_)
                              refine j_icmp_ge E 162 169 rfl (rr (by omega)) rr70_ dX7_leastChanges_159 (by decide) (fun cc71_ => ?_) (fun cc71_ => ?_)
                              · refine j_iconst E 170 rfl dX7_leastChanges_169 ?_
                                exact hret 170 0 (upV v_0 300 y300_c120) _ _ ls hw (rr (by decide)) ⟨y300_c120, rfl, ⟨by first | exact (h5_.trans (iv120.2 _ (by omega) (by omega))).trans (lc_fin (by omega) (by omega) (by omega) iv14.2 iv50.2) | (exfalso; omega), ik120_⟩⟩ dX7_leastChanges_170
                              · refine j_aload_n E 163 rfl dX7_leastChanges_162 rfl (lv_at hl 2 rfl) ?_
                                refine j_iload E 165 rfl dX7_leastChanges_163 (lv_at hl 7 rfl) ?_
                                refine a_ld20 E hK hw t_r (by omega) 166 rfl dX7_leastChanges_165 (fun zz72_ he72_ rr72_ => ?_)
                                have he72_ : zz72_ = y300_c120 (pr a_r (Int.toNat ((((T 1 (T 161 a_w) : Int)) - l6_50) - l5_14))) := he72_
                                have h5_ : zz72_ = gC_ (y300_c120) a_r ((((T 1 (T 161 a_w) : Int)) - l6_50) - l5_14) := he72_
                                refine j_goto E 170 dX7_leastChanges_166 (by decide) ?_
                                exact hret 170 zz72_ (upV v_0 300 y300_c120) _ _ ls hw rr72_ ⟨y300_c120, rfl, ⟨by first | exact (h5_.trans (iv120.2 _ (by omega) (by omega))).trans (lc_fin (by omega) (by omega) (by omega) iv14.2 iv50.2) | (exfalso; omega), ik120_⟩⟩ dX7_leastChanges_170
                          · refine j_aload_n E 131 rfl dX7_leastChanges_130 rfl (lv_at hl 3 rfl) ?_
                            refine j_iload E 133 rfl dX7_leastChanges_131 (lv_at hl 8 rfl) ?_
                            refine a_ld20 E hK hw (wt_161 hT t_o) (by omega) 134 rfl dX7_leastChanges_133 (fun zz73_ he73_ rr73_ => ?_)
                            have he73_ : zz73_ = y300_c120 (pr (T 161 o) (Int.toNat l8_120)) := he73_
                            have h3_ : zz73_ = gC_ (y300_c120) (T 161 o) l8_120 := he73_
                            refine j_aload E 136 rfl dX7_leastChanges_134 (lv_at hl 4 rfl) ?_
                            refine j_iload E 138 rfl dX7_leastChanges_136 (lv_at hl 5 rfl) ?_
                            refine j_aload_n E 139 rfl dX7_leastChanges_138 rfl (lv_at hl 2 rfl) ?_
                            refine j_iload E 141 rfl dX7_leastChanges_139 (lv_at hl 7 rfl) ?_
                            refine kS_v E (c3_X7_stepRow l D cy T (upV v_0 300 y300_c120) zz73_ (T 161 a_w) l5_14 a_r ((((T 1 (T 161 a_w) : Int)) - l6_50) - l5_14) ((fun k_ => gC_ (v_0 300) (T 161 o) (k_ + l5_14))) ((fun k_ => gC_ (v_0 300) (T 161 a_w) (k_ + l5_14))) (l8_120 - l5_14)  rr73_ (wt_161 hT t_w) r_l5_14 t_r (rr (by omega)) (show 0 ≤ l5_14 ∧ ((((T 1 (T 161 a_w) : Int)) - l6_50) - l5_14) + l5_14 ≤ (T 1 (T 161 a_w) : Int) from by omega) (show 0 ≤ ((((T 1 (T 161 a_w) : Int)) - l6_50) - l5_14) ∧ ((((T 1 (T 161 a_w) : Int)) - l6_50) - l5_14) < (T 1 a_r : Int) ∧ ((((T 1 (T 161 a_w) : Int)) - l6_50) - l5_14) ≤ 400 ∧ 0 ≤ ((l8_120 - l5_14)) ∧ ((l8_120 - l5_14)) ≤ 400 from by omega) (show (∀ j_, 0 ≤ j_ → j_ < ((((T 1 (T 161 a_w) : Int)) - l6_50) - l5_14) + 1 → gC_ (y300_c120) a_r j_ = Ld_ (((fun k_ => gC_ (v_0 300) (T 161 o) (k_ + l5_14)))) (((fun k_ => gC_ (v_0 300) (T 161 a_w) (k_ + l5_14)))) (((l8_120 - l5_14))).toNat j_.toNat) from iv120.2) (show zz73_ = (((fun k_ => gC_ (v_0 300) (T 161 o) (k_ + l5_14)))) ((l8_120 - l5_14)) from by rw [h3_, gC_ro ik120_ hp1.1]; congr 1; omega) (show ∀ j_, 0 ≤ j_ → j_ < ((((T 1 (T 161 a_w) : Int)) - l6_50) - l5_14) → gC_ (y300_c120) (T 161 a_w) (l5_14 + j_) = (((fun k_ => gC_ (v_0 300) (T 161 a_w) (k_ + l5_14)))) j_ from fun j_ _ _ => by rw [gC_ro ik120_ hp1.2]; congr 1; omega) (show (T 161 a_w) ≠ a_r from hp1.2)) ms_X7_stepRow ml_X7_41 hK hw hA ⟨Nat.le_of_ble_eq_true rfl, Nat.le_of_ble_eq_true rfl⟩ ⟨Nat.le_of_ble_eq_true rfl, Nat.le_of_ble_eq_true rfl⟩ (As := [.int (J zz73_), .ref (T 161 a_w), .int (J l5_14), .ref a_r, .int (J ((((T 1 (T 161 a_w) : Int)) - l6_50) - l5_14))]) (rest := []) rfl rfl hl.1 (Nat.le_of_ble_eq_true rfl) 144 rfl dX7_leastChanges_141 (fun v_74 H locs hq74_ hw => ?_)
                            obtain ⟨y300_74, ev74_, hh74_⟩ := hq74_
                            rw [ev74_] at hw; clear ev74_
                            have hw : WK D cy T (upV v_0 300 y300_74) A0 H0 H locs := cw_eq hw (by first | rfl | (funext j_; simp only [upV, reduceIte]; (repeat' split) <;> first | rfl | omega | (subst_vars; rfl)))
                            obtain ⟨hh74_, kf74_⟩ := hh74_
                            replace hh74_ : (∀ j_, 0 ≤ j_ → j_ < ((((T 1 (T 161 a_w) : Int)) - l6_50) - l5_14) + 1 → gC_ (y300_74) a_r j_ = Ld_ (((fun k_ => gC_ (v_0 300) (T 161 o) (k_ + l5_14)))) (((fun k_ => gC_ (v_0 300) (T 161 a_w) (k_ + l5_14)))) (((l8_120 - l5_14)) + 1).toNat j_.toNat) := hh74_
                            have st_ := hh74_
                            clear hh74_
                            refine j_iinc E 147 rfl [(8, .int (J (l8_120 + 1))), (0, .ref o), (1, .ref a_w), (2, .ref a_r), (3, .ref (T 161 o)), (4, .ref (T 161 a_w)), (5, .int (J l5_14)), (6, .int (J l6_50)), (7, .int (J ((((T 1 (T 161 a_w) : Int)) - l6_50) - l5_14)))] dX7_leastChanges_144 hl (kk := 8) rfl (by decide) rfl (fun ls hl => ?_)
                            refine j_goto E 120 dX7_leastChanges_147 (by decide) ?_
                            exact ih120 (l8_120 + 1) y300_74 H locs ls (rr (by omega)) (⟨⟨by omega, fun j_ h1_ h2_ => (st_ j_ h1_ h2_).trans (by congr 1; omega)⟩, (Ro_tr ik120_ kf74_)⟩) (by omega) hw (lv_sub hl [1, 2, 3, 4, 5, 6, 7, 8, 0] rfl)
                      exact L120_66 _ l5_14 y300_c90 H locs ls r_l5_14 (⟨⟨by omega, fun j_ h1_ h2_ => by rw [show l5_14 - l5_14 = 0 by omega, ← Ld_i0 h1_]; exact iv90.2 j_ h1_ (by omega)⟩, ik90_⟩) (Nat.lt_succ_self _) hw (lv_sub hl [1, 2, 3, 4, 5, 6, 7, 8, 0] rfl)
                    · refine j_iload E 99 rfl dX7_leastChanges_97 (lv_at hl 8 rfl) ?_
                      refine j_aload_n E 100 rfl dX7_leastChanges_99 rfl (lv_at hl 2 rfl) ?_
                      refine a_ln20 E hK hw t_r 101 rfl dX7_leastChanges_100 (fun rr75_ => ?_)
                      refine j_icmp_ge E 104 116 rfl r_l8_90 rr75_ dX7_leastChanges_101 (by decide) (fun cc76_ => ?_) (fun cc76_ => ?_)
                      · refine j_iload E 118 rfl dX7_leastChanges_116 (lv_at hl 5 rfl) ?_
                        refine j_istore E 120 rfl [(8, .int (J l5_14)), (0, .ref o), (1, .ref a_w), (2, .ref a_r), (3, .ref (T 161 o)), (4, .ref (T 161 a_w)), (5, .int (J l5_14)), (6, .int (J l6_50)), (7, .int (J ((((T 1 (T 161 a_w) : Int)) - l6_50) - l5_14)))] dX7_leastChanges_118 hl (by decide) rfl (fun ls hl => ?_)
                        have L120_77 : ∀ (k120 : Nat) (l8_120 : Int) (y300_c120 : Nat → Int) (H : Heap) (locs : List Loc) (ls : Array Slot), inR l8_120 → (((l5_14 ≤ l8_120 ∧ l8_120 ≤ (T 1 (T 161 o) : Int) - l6_50) ∧ (∀ j_, 0 ≤ j_ → j_ < ((((T 1 (T 161 a_w) : Int)) - l6_50) - l5_14) + 1 → gC_ (y300_c120) a_r j_ = Ld_ (fun k_ => gC_ (v_0 300) (T 161 o) (k_ + l5_14)) (fun k_ => gC_ (v_0 300) (T 161 a_w) (k_ + l5_14)) (l8_120 - l5_14).toNat j_.toNat)) ∧ Ro_ (v_0 300) y300_c120 a_r) → ((T 1 (T 161 o) : Int) - l8_120).toNat < k120 → WK D cy T (upV v_0 300 y300_c120) A0 H0 H locs → lv_has ls 9 [(0, .ref o), (1, .ref a_w), (2, .ref a_r), (3, .ref (T 161 o)), (4, .ref (T 161 a_w)), (5, .int (J l5_14)), (6, .int (J l6_50)), (7, .int (J ((((T 1 (T 161 a_w) : Int)) - l6_50) - l5_14))), (8, .int (J l8_120))] → W p l e (rmd 3 0 0) s m ar below meth c H locs 0 0 QW (F0 m 120 ls []) := by
                          intro k120
                          induction k120 with
                          | zero =>
                            intro l8_120 y300_c120 H locs ls r_l8_120 iv120 ms120 hw hl
                            exact absurd ms120 (Nat.not_lt_zero _)
                          | succ k120 ih120 =>
                            intro l8_120 y300_c120 H locs ls r_l8_120 iv120 ms120 hw hl
                            obtain ⟨iv120, ik120_⟩ := iv120
                            refine j_iload E 122 rfl dX7_leastChanges_120 (lv_at hl 8 rfl) ?_
                            refine j_aload_n E 123 rfl dX7_leastChanges_122 rfl (lv_at hl 3 rfl) ?_
                            refine a_ln20 E hK hw (wt_161 hT t_o) 124 rfl dX7_leastChanges_123 (fun _ => ?_)
                            refine j_iload E 126 rfl dX7_leastChanges_124 (lv_at hl 6 rfl) ?_
                            refine j_isub E 127 rfl dX7_leastChanges_126 ?_
                            refine j_icmp_ge E 130 150 rfl r_l8_120 (rr (by omega)) dX7_leastChanges_127 (by decide) (fun cc79_ => ?_) (fun cc79_ => ?_)
                            · refine j_iload E 152 rfl dX7_leastChanges_150 (lv_at hl 7 rfl) ?_
                              refine j_if_lt E 155 169 rfl (rr (by omega)) dX7_leastChanges_152 (by decide) (fun cc80_ => ?_) (fun cc80_ => ?_)
                              · refine j_iconst E 170 rfl dX7_leastChanges_169 ?_
                                exact hret 170 0 (upV v_0 300 y300_c120) _ _ ls hw (rr (by decide)) ⟨y300_c120, rfl, ⟨by first | exact (h5_.trans (iv120.2 _ (by omega) (by omega))).trans (lc_fin (by omega) (by omega) (by omega) iv14.2 iv50.2) | (exfalso; omega), ik120_⟩⟩ dX7_leastChanges_170
                              · refine j_iload E 157 rfl dX7_leastChanges_155 (lv_at hl 7 rfl) ?_
                                refine j_aload_n E 158 rfl dX7_leastChanges_157 rfl (lv_at hl 2 rfl) ?_
                                refine a_ln20 E hK hw t_r 159 rfl dX7_leastChanges_158 (fun _ => ?_)
                                refine j_icmp_ge E 162 169 rfl (rr (by omega)) rr75_ dX7_leastChanges_159 (by decide) (fun cc81_ => ?_) (fun cc81_ => ?_)
                                · refine j_iconst E 170 rfl dX7_leastChanges_169 ?_
                                  exact hret 170 0 (upV v_0 300 y300_c120) _ _ ls hw (rr (by decide)) ⟨y300_c120, rfl, ⟨by first | exact (h5_.trans (iv120.2 _ (by omega) (by omega))).trans (lc_fin (by omega) (by omega) (by omega) iv14.2 iv50.2) | (exfalso; omega), ik120_⟩⟩ dX7_leastChanges_170
                                · refine j_aload_n E 163 rfl dX7_leastChanges_162 rfl (lv_at hl 2 rfl) ?_
                                  refine j_iload E 165 rfl dX7_leastChanges_163 (lv_at hl 7 rfl) ?_
                                  refine a_ld20 E hK hw t_r (by omega) 166 rfl dX7_leastChanges_165 (fun zz82_ he82_ rr82_ => ?_)
                                  have he82_ : zz82_ = y300_c120 (pr a_r (Int.toNat ((((T 1 (T 161 a_w) : Int)) - l6_50) - l5_14))) := he82_
                                  have h5_ : zz82_ = gC_ (y300_c120) a_r ((((T 1 (T 161 a_w) : Int)) - l6_50) - l5_14) := he82_
                                  refine j_goto E 170 dX7_leastChanges_166 (by decide) ?_
                                  exact hret 170 zz82_ (upV v_0 300 y300_c120) _ _ ls hw rr82_ ⟨y300_c120, rfl, ⟨by first | exact (h5_.trans (iv120.2 _ (by omega) (by omega))).trans (lc_fin (by omega) (by omega) (by omega) iv14.2 iv50.2) | (exfalso; omega), ik120_⟩⟩ dX7_leastChanges_170
                            · refine j_aload_n E 131 rfl dX7_leastChanges_130 rfl (lv_at hl 3 rfl) ?_
                              refine j_iload E 133 rfl dX7_leastChanges_131 (lv_at hl 8 rfl) ?_
                              refine a_ld20 E hK hw (wt_161 hT t_o) (by omega) 134 rfl dX7_leastChanges_133 (fun zz83_ he83_ rr83_ => ?_)
                              have he83_ : zz83_ = y300_c120 (pr (T 161 o) (Int.toNat l8_120)) := he83_
                              have h3_ : zz83_ = gC_ (y300_c120) (T 161 o) l8_120 := he83_
                              refine j_aload E 136 rfl dX7_leastChanges_134 (lv_at hl 4 rfl) ?_
                              refine j_iload E 138 rfl dX7_leastChanges_136 (lv_at hl 5 rfl) ?_
                              refine j_aload_n E 139 rfl dX7_leastChanges_138 rfl (lv_at hl 2 rfl) ?_
                              refine j_iload E 141 rfl dX7_leastChanges_139 (lv_at hl 7 rfl) ?_
                              refine kS_v E (c3_X7_stepRow l D cy T (upV v_0 300 y300_c120) zz83_ (T 161 a_w) l5_14 a_r ((((T 1 (T 161 a_w) : Int)) - l6_50) - l5_14) ((fun k_ => gC_ (v_0 300) (T 161 o) (k_ + l5_14))) ((fun k_ => gC_ (v_0 300) (T 161 a_w) (k_ + l5_14))) (l8_120 - l5_14)  rr83_ (wt_161 hT t_w) r_l5_14 t_r (rr (by omega)) (show 0 ≤ l5_14 ∧ ((((T 1 (T 161 a_w) : Int)) - l6_50) - l5_14) + l5_14 ≤ (T 1 (T 161 a_w) : Int) from by omega) (show 0 ≤ ((((T 1 (T 161 a_w) : Int)) - l6_50) - l5_14) ∧ ((((T 1 (T 161 a_w) : Int)) - l6_50) - l5_14) < (T 1 a_r : Int) ∧ ((((T 1 (T 161 a_w) : Int)) - l6_50) - l5_14) ≤ 400 ∧ 0 ≤ ((l8_120 - l5_14)) ∧ ((l8_120 - l5_14)) ≤ 400 from by omega) (show (∀ j_, 0 ≤ j_ → j_ < ((((T 1 (T 161 a_w) : Int)) - l6_50) - l5_14) + 1 → gC_ (y300_c120) a_r j_ = Ld_ (((fun k_ => gC_ (v_0 300) (T 161 o) (k_ + l5_14)))) (((fun k_ => gC_ (v_0 300) (T 161 a_w) (k_ + l5_14)))) (((l8_120 - l5_14))).toNat j_.toNat) from iv120.2) (show zz83_ = (((fun k_ => gC_ (v_0 300) (T 161 o) (k_ + l5_14)))) ((l8_120 - l5_14)) from by rw [h3_, gC_ro ik120_ hp1.1]; congr 1; omega) (show ∀ j_, 0 ≤ j_ → j_ < ((((T 1 (T 161 a_w) : Int)) - l6_50) - l5_14) → gC_ (y300_c120) (T 161 a_w) (l5_14 + j_) = (((fun k_ => gC_ (v_0 300) (T 161 a_w) (k_ + l5_14)))) j_ from fun j_ _ _ => by rw [gC_ro ik120_ hp1.2]; congr 1; omega) (show (T 161 a_w) ≠ a_r from hp1.2)) ms_X7_stepRow ml_X7_41 hK hw hA ⟨Nat.le_of_ble_eq_true rfl, Nat.le_of_ble_eq_true rfl⟩ ⟨Nat.le_of_ble_eq_true rfl, Nat.le_of_ble_eq_true rfl⟩ (As := [.int (J zz83_), .ref (T 161 a_w), .int (J l5_14), .ref a_r, .int (J ((((T 1 (T 161 a_w) : Int)) - l6_50) - l5_14))]) (rest := []) rfl rfl hl.1 (Nat.le_of_ble_eq_true rfl) 144 rfl dX7_leastChanges_141 (fun v_84 H locs hq84_ hw => ?_)
                              obtain ⟨y300_84, ev84_, hh84_⟩ := hq84_
                              rw [ev84_] at hw; clear ev84_
                              have hw : WK D cy T (upV v_0 300 y300_84) A0 H0 H locs := cw_eq hw (by first | rfl | (funext j_; simp only [upV, reduceIte]; (repeat' split) <;> first | rfl | omega | (subst_vars; rfl)))
                              obtain ⟨hh84_, kf84_⟩ := hh84_
                              replace hh84_ : (∀ j_, 0 ≤ j_ → j_ < ((((T 1 (T 161 a_w) : Int)) - l6_50) - l5_14) + 1 → gC_ (y300_84) a_r j_ = Ld_ (((fun k_ => gC_ (v_0 300) (T 161 o) (k_ + l5_14)))) (((fun k_ => gC_ (v_0 300) (T 161 a_w) (k_ + l5_14)))) (((l8_120 - l5_14)) + 1).toNat j_.toNat) := hh84_
                              have st_ := hh84_
                              clear hh84_
                              refine j_iinc E 147 rfl [(8, .int (J (l8_120 + 1))), (0, .ref o), (1, .ref a_w), (2, .ref a_r), (3, .ref (T 161 o)), (4, .ref (T 161 a_w)), (5, .int (J l5_14)), (6, .int (J l6_50)), (7, .int (J ((((T 1 (T 161 a_w) : Int)) - l6_50) - l5_14)))] dX7_leastChanges_144 hl (kk := 8) rfl (by decide) rfl (fun ls hl => ?_)
                              refine j_goto E 120 dX7_leastChanges_147 (by decide) ?_
                              exact ih120 (l8_120 + 1) y300_84 H locs ls (rr (by omega)) (⟨⟨by omega, fun j_ h1_ h2_ => (st_ j_ h1_ h2_).trans (by congr 1; omega)⟩, (Ro_tr ik120_ kf84_)⟩) (by omega) hw (lv_sub hl [1, 2, 3, 4, 5, 6, 7, 8, 0] rfl)
                        exact L120_77 _ l5_14 y300_c90 H locs ls r_l5_14 (⟨⟨by omega, fun j_ h1_ h2_ => by rw [show l5_14 - l5_14 = 0 by omega, ← Ld_i0 h1_]; exact iv90.2 j_ h1_ (by omega)⟩, ik90_⟩) (Nat.lt_succ_self _) hw (lv_sub hl [1, 2, 3, 4, 5, 6, 7, 8, 0] rfl)
                      · refine j_aload_n E 105 rfl dX7_leastChanges_104 rfl (lv_at hl 2 rfl) ?_
                        refine j_iload E 107 rfl dX7_leastChanges_105 (lv_at hl 8 rfl) ?_
                        refine j_iload E 109 rfl dX7_leastChanges_107 (lv_at hl 8 rfl) ?_
                        refine a_st20 E hK hw t_r r_l8_90 (by omega) 110 rfl dX7_leastChanges_109 (fun H locs hw => ?_)
                        have hw : WK D cy T (upV v_0 300 (upB y300_c90 ((pr a_r (Int.toNat l8_90))) l8_90)) A0 H0 H locs := cw_eq hw (by first | rfl | (funext j_; simp only [upV, reduceIte]; (repeat' split) <;> first | rfl | omega | (subst_vars; rfl)))
                        refine j_iinc E 113 rfl [(8, .int (J (l8_90 + 1))), (0, .ref o), (1, .ref a_w), (2, .ref a_r), (3, .ref (T 161 o)), (4, .ref (T 161 a_w)), (5, .int (J l5_14)), (6, .int (J l6_50)), (7, .int (J ((((T 1 (T 161 a_w) : Int)) - l6_50) - l5_14)))] dX7_leastChanges_110 hl (kk := 8) rfl (by decide) rfl (fun ls hl => ?_)
                        refine j_goto E 90 dX7_leastChanges_113 (by decide) ?_
                        exact ih90 (l8_90 + 1) (upB y300_c90 ((pr a_r (Int.toNat l8_90))) l8_90) H locs ls (rr (by omega)) (⟨⟨by omega, rw_nx iv90.2 (by omega)⟩, (Ro_tr ik90_ Ro_up)⟩) (by omega) hw (lv_sub hl [1, 2, 3, 4, 5, 6, 7, 8, 0] rfl)
                exact L90_63 _ 0 (v_0 300) H locs ls (rr (by decide)) (⟨⟨by omega, fun j_ h1_ h2_ => absurd h2_ (by omega)⟩, Ro_rf⟩) (Nat.lt_succ_self _) (cw_eq hw (by first | rfl | (funext j_; simp only [upV, reduceIte]; (repeat' split) <;> first | rfl | omega | (subst_vars; rfl)))) (lv_sub hl [2, 3, 4, 5, 6, 7, 8, 1, 0] rfl)
              · refine j_aload_n E 58 rfl dX7_leastChanges_57 rfl (lv_at hl 3 rfl) ?_
                refine j_aload E 60 rfl dX7_leastChanges_58 (lv_at hl 4 rfl) ?_
                refine j_iload E 62 rfl dX7_leastChanges_60 (lv_at hl 5 rfl) ?_
                refine j_iload E 64 rfl dX7_leastChanges_62 (lv_at hl 6 rfl) ?_
                refine kS_i E (c3_X7_isSameFromEnd l D cy T (v_0) (T 161 o) (T 161 a_w) l5_14 l6_50   (wt_161 hT t_o) (wt_161 hT t_w) r_l5_14 r_l6_50 (show 0 ≤ l5_14 ∧ 0 ≤ l6_50 ∧ l6_50 ≤ (T 1 (T 161 o) : Int) ∧ l6_50 ≤ (T 1 (T 161 a_w) : Int) from by omega)) ms_X7_isSameFromEnd ml_X7_37 hK hw hA ⟨Nat.le_of_ble_eq_true rfl, Nat.le_of_ble_eq_true rfl⟩ ⟨Nat.le_of_ble_eq_true rfl, Nat.le_of_ble_eq_true rfl⟩ (As := [.ref (T 161 o), .ref (T 161 a_w), .int (J l5_14), .int (J l6_50)]) (rest := []) rfl rfl hl.1 (Nat.le_of_ble_eq_true rfl) 67 rfl dX7_leastChanges_64 (fun zz86_ v_86 H locs rr86_ hq86_ hw => ?_)
                obtain ⟨ev86_, hh86_⟩ := hq86_
                rw [ev86_] at hw; clear ev86_
                replace hh86_ : (zz86_ = 1 ∧ (l5_14 ≤ (T 1 (T 161 o) : Int) - 1 - l6_50 ∧ l5_14 ≤ (T 1 (T 161 a_w) : Int) - 1 - l6_50) ∧ gC_ (v_0 300) (T 161 o) ((T 1 (T 161 o) : Int) - 1 - l6_50) = gC_ (v_0 300) (T 161 a_w) ((T 1 (T 161 a_w) : Int) - 1 - l6_50)) ∨ zz86_ = 0 := hh86_
                have sm_ := hh86_
                clear hh86_
                refine j_if_eq E 70 76 rfl rr86_ dX7_leastChanges_67 (by decide) (fun cc87_ => ?_) (fun cc87_ => ?_)
                · refine j_aload E 78 rfl dX7_leastChanges_76 (lv_at hl 4 rfl) ?_
                  refine a_ln20 E hK hw (wt_161 hT t_w) 79 rfl dX7_leastChanges_78 (fun _ => ?_)
                  refine j_iload E 81 rfl dX7_leastChanges_79 (lv_at hl 6 rfl) ?_
                  refine j_isub E 82 rfl dX7_leastChanges_81 ?_
                  refine j_iload E 84 rfl dX7_leastChanges_82 (lv_at hl 5 rfl) ?_
                  refine j_isub E 85 rfl dX7_leastChanges_84 ?_
                  refine j_istore E 87 rfl [(7, .int (J ((((T 1 (T 161 a_w) : Int)) - l6_50) - l5_14))), (0, .ref o), (1, .ref a_w), (2, .ref a_r), (3, .ref (T 161 o)), (4, .ref (T 161 a_w)), (5, .int (J l5_14)), (6, .int (J l6_50))] dX7_leastChanges_85 hl (by decide) rfl (fun ls hl => ?_)
                  refine j_iconst E 88 rfl dX7_leastChanges_87 ?_
                  refine j_istore E 90 rfl [(8, .int (J 0)), (7, .int (J ((((T 1 (T 161 a_w) : Int)) - l6_50) - l5_14))), (0, .ref o), (1, .ref a_w), (2, .ref a_r), (3, .ref (T 161 o)), (4, .ref (T 161 a_w)), (5, .int (J l5_14)), (6, .int (J l6_50))] dX7_leastChanges_88 hl (by decide) rfl (fun ls hl => ?_)
                  have L90_88 : ∀ (k90 : Nat) (l8_90 : Int) (y300_c90 : Nat → Int) (H : Heap) (locs : List Loc) (ls : Array Slot), inR l8_90 → (((0 ≤ l8_90 ∧ l8_90 ≤ ((((T 1 (T 161 a_w) : Int)) - l6_50) - l5_14) + 1) ∧ (∀ j_, 0 ≤ j_ → j_ < l8_90 → gC_ (y300_c90) a_r j_ = j_)) ∧ Ro_ (v_0 300) y300_c90 a_r) → ((T 1 a_r : Int) - l8_90).toNat < k90 → WK D cy T (upV v_0 300 y300_c90) A0 H0 H locs → lv_has ls 9 [(0, .ref o), (1, .ref a_w), (2, .ref a_r), (3, .ref (T 161 o)), (4, .ref (T 161 a_w)), (5, .int (J l5_14)), (6, .int (J l6_50)), (7, .int (J ((((T 1 (T 161 a_w) : Int)) - l6_50) - l5_14))), (8, .int (J l8_90))] → W p l e (rmd 3 0 0) s m ar below meth c H locs 0 0 QW (F0 m 90 ls []) := by
                    intro k90
                    induction k90 with
                    | zero =>
                      intro l8_90 y300_c90 H locs ls r_l8_90 iv90 ms90 hw hl
                      exact absurd ms90 (Nat.not_lt_zero _)
                    | succ k90 ih90 =>
                      intro l8_90 y300_c90 H locs ls r_l8_90 iv90 ms90 hw hl
                      obtain ⟨iv90, ik90_⟩ := iv90
                      refine j_iload E 92 rfl dX7_leastChanges_90 (lv_at hl 8 rfl) ?_
                      refine j_iload E 94 rfl dX7_leastChanges_92 (lv_at hl 7 rfl) ?_
                      refine j_icmp_gt E 97 116 rfl r_l8_90 (rr (by omega)) dX7_leastChanges_94 (by decide) (fun cc90_ => ?_) (fun cc90_ => ?_)
                      · refine j_iload E 118 rfl dX7_leastChanges_116 (lv_at hl 5 rfl) ?_
                        refine j_istore E 120 rfl [(8, .int (J l5_14)), (0, .ref o), (1, .ref a_w), (2, .ref a_r), (3, .ref (T 161 o)), (4, .ref (T 161 a_w)), (5, .int (J l5_14)), (6, .int (J l6_50)), (7, .int (J ((((T 1 (T 161 a_w) : Int)) - l6_50) - l5_14)))] dX7_leastChanges_118 hl (by decide) rfl (fun ls hl => ?_)
                        have L120_91 : ∀ (k120 : Nat) (l8_120 : Int) (y300_c120 : Nat → Int) (H : Heap) (locs : List Loc) (ls : Array Slot), inR l8_120 → (((l5_14 ≤ l8_120 ∧ l8_120 ≤ (T 1 (T 161 o) : Int) - l6_50) ∧ (∀ j_, 0 ≤ j_ → j_ < ((((T 1 (T 161 a_w) : Int)) - l6_50) - l5_14) + 1 → gC_ (y300_c120) a_r j_ = Ld_ (fun k_ => gC_ (v_0 300) (T 161 o) (k_ + l5_14)) (fun k_ => gC_ (v_0 300) (T 161 a_w) (k_ + l5_14)) (l8_120 - l5_14).toNat j_.toNat)) ∧ Ro_ (v_0 300) y300_c120 a_r) → ((T 1 (T 161 o) : Int) - l8_120).toNat < k120 → WK D cy T (upV v_0 300 y300_c120) A0 H0 H locs → lv_has ls 9 [(0, .ref o), (1, .ref a_w), (2, .ref a_r), (3, .ref (T 161 o)), (4, .ref (T 161 a_w)), (5, .int (J l5_14)), (6, .int (J l6_50)), (7, .int (J ((((T 1 (T 161 a_w) : Int)) - l6_50) - l5_14))), (8, .int (J l8_120))] → W p l e (rmd 3 0 0) s m ar below meth c H locs 0 0 QW (F0 m 120 ls []) := by
                          intro k120
                          induction k120 with
                          | zero =>
                            intro l8_120 y300_c120 H locs ls r_l8_120 iv120 ms120 hw hl
                            exact absurd ms120 (Nat.not_lt_zero _)
                          | succ k120 ih120 =>
                            intro l8_120 y300_c120 H locs ls r_l8_120 iv120 ms120 hw hl
                            obtain ⟨iv120, ik120_⟩ := iv120
                            refine j_iload E 122 rfl dX7_leastChanges_120 (lv_at hl 8 rfl) ?_
                            refine j_aload_n E 123 rfl dX7_leastChanges_122 rfl (lv_at hl 3 rfl) ?_
                            refine a_ln20 E hK hw (wt_161 hT t_o) 124 rfl dX7_leastChanges_123 (fun _ => ?_)
                            refine j_iload E 126 rfl dX7_leastChanges_124 (lv_at hl 6 rfl) ?_
                            refine j_isub E 127 rfl dX7_leastChanges_126 ?_
                            refine j_icmp_ge E 130 150 rfl r_l8_120 (rr (by omega)) dX7_leastChanges_127 (by decide) (fun cc93_ => ?_) (fun cc93_ => ?_)
                            · refine j_iload E 152 rfl dX7_leastChanges_150 (lv_at hl 7 rfl) ?_
                              refine j_if_lt E 155 169 rfl (rr (by omega)) dX7_leastChanges_152 (by decide) (fun cc94_ => ?_) (fun cc94_ => ?_)
                              · refine j_iconst E 170 rfl dX7_leastChanges_169 ?_
                                exact hret 170 0 (upV v_0 300 y300_c120) _ _ ls hw (rr (by decide)) ⟨y300_c120, rfl, ⟨by first | exact (h5_.trans (iv120.2 _ (by omega) (by omega))).trans (lc_fin (by omega) (by omega) (by omega) iv14.2 iv50.2) | (exfalso; omega), ik120_⟩⟩ dX7_leastChanges_170
                              · refine j_iload E 157 rfl dX7_leastChanges_155 (lv_at hl 7 rfl) ?_
                                refine j_aload_n E 158 rfl dX7_leastChanges_157 rfl (lv_at hl 2 rfl) ?_
                                refine a_ln20 E hK hw t_r 159 rfl dX7_leastChanges_158 (fun rr95_ => ?_)
                                refine j_icmp_ge E 162 169 rfl (rr (by omega)) rr95_ dX7_leastChanges_159 (by decide) (fun cc96_ => ?_) (fun cc96_ => ?_)
                                · refine j_iconst E 170 rfl dX7_leastChanges_169 ?_
                                  exact hret 170 0 (upV v_0 300 y300_c120) _ _ ls hw (rr (by decide)) ⟨y300_c120, rfl, ⟨by first | exact (h5_.trans (iv120.2 _ (by omega) (by omega))).trans (lc_fin (by omega) (by omega) (by omega) iv14.2 iv50.2) | (exfalso; omega), ik120_⟩⟩ dX7_leastChanges_170
                                · refine j_aload_n E 163 rfl dX7_leastChanges_162 rfl (lv_at hl 2 rfl) ?_
                                  refine j_iload E 165 rfl dX7_leastChanges_163 (lv_at hl 7 rfl) ?_
                                  refine a_ld20 E hK hw t_r (by omega) 166 rfl dX7_leastChanges_165 (fun zz97_ he97_ rr97_ => ?_)
                                  have he97_ : zz97_ = y300_c120 (pr a_r (Int.toNat ((((T 1 (T 161 a_w) : Int)) - l6_50) - l5_14))) := he97_
                                  have h5_ : zz97_ = gC_ (y300_c120) a_r ((((T 1 (T 161 a_w) : Int)) - l6_50) - l5_14) := he97_
                                  refine j_goto E 170 dX7_leastChanges_166 (by decide) ?_
                                  exact hret 170 zz97_ (upV v_0 300 y300_c120) _ _ ls hw rr97_ ⟨y300_c120, rfl, ⟨by first | exact (h5_.trans (iv120.2 _ (by omega) (by omega))).trans (lc_fin (by omega) (by omega) (by omega) iv14.2 iv50.2) | (exfalso; omega), ik120_⟩⟩ dX7_leastChanges_170
                            · refine j_aload_n E 131 rfl dX7_leastChanges_130 rfl (lv_at hl 3 rfl) ?_
                              refine j_iload E 133 rfl dX7_leastChanges_131 (lv_at hl 8 rfl) ?_
                              refine a_ld20 E hK hw (wt_161 hT t_o) (by omega) 134 rfl dX7_leastChanges_133 (fun zz98_ he98_ rr98_ => ?_)
                              have he98_ : zz98_ = y300_c120 (pr (T 161 o) (Int.toNat l8_120)) := he98_
                              have h3_ : zz98_ = gC_ (y300_c120) (T 161 o) l8_120 := he98_
                              refine j_aload E 136 rfl dX7_leastChanges_134 (lv_at hl 4 rfl) ?_
                              refine j_iload E 138 rfl dX7_leastChanges_136 (lv_at hl 5 rfl) ?_
                              refine j_aload_n E 139 rfl dX7_leastChanges_138 rfl (lv_at hl 2 rfl) ?_
                              refine j_iload E 141 rfl dX7_leastChanges_139 (lv_at hl 7 rfl) ?_
                              refine kS_v E (c3_X7_stepRow l D cy T (upV v_0 300 y300_c120) zz98_ (T 161 a_w) l5_14 a_r ((((T 1 (T 161 a_w) : Int)) - l6_50) - l5_14) ((fun k_ => gC_ (v_0 300) (T 161 o) (k_ + l5_14))) ((fun k_ => gC_ (v_0 300) (T 161 a_w) (k_ + l5_14))) (l8_120 - l5_14)  rr98_ (wt_161 hT t_w) r_l5_14 t_r (rr (by omega)) (show 0 ≤ l5_14 ∧ ((((T 1 (T 161 a_w) : Int)) - l6_50) - l5_14) + l5_14 ≤ (T 1 (T 161 a_w) : Int) from by omega) (show 0 ≤ ((((T 1 (T 161 a_w) : Int)) - l6_50) - l5_14) ∧ ((((T 1 (T 161 a_w) : Int)) - l6_50) - l5_14) < (T 1 a_r : Int) ∧ ((((T 1 (T 161 a_w) : Int)) - l6_50) - l5_14) ≤ 400 ∧ 0 ≤ ((l8_120 - l5_14)) ∧ ((l8_120 - l5_14)) ≤ 400 from by omega) (show (∀ j_, 0 ≤ j_ → j_ < ((((T 1 (T 161 a_w) : Int)) - l6_50) - l5_14) + 1 → gC_ (y300_c120) a_r j_ = Ld_ (((fun k_ => gC_ (v_0 300) (T 161 o) (k_ + l5_14)))) (((fun k_ => gC_ (v_0 300) (T 161 a_w) (k_ + l5_14)))) (((l8_120 - l5_14))).toNat j_.toNat) from iv120.2) (show zz98_ = (((fun k_ => gC_ (v_0 300) (T 161 o) (k_ + l5_14)))) ((l8_120 - l5_14)) from by rw [h3_, gC_ro ik120_ hp1.1]; congr 1; omega) (show ∀ j_, 0 ≤ j_ → j_ < ((((T 1 (T 161 a_w) : Int)) - l6_50) - l5_14) → gC_ (y300_c120) (T 161 a_w) (l5_14 + j_) = (((fun k_ => gC_ (v_0 300) (T 161 a_w) (k_ + l5_14)))) j_ from fun j_ _ _ => by rw [gC_ro ik120_ hp1.2]; congr 1; omega) (show (T 161 a_w) ≠ a_r from hp1.2)) ms_X7_stepRow ml_X7_41 hK hw hA ⟨Nat.le_of_ble_eq_true rfl, Nat.le_of_ble_eq_true rfl⟩ ⟨Nat.le_of_ble_eq_true rfl, Nat.le_of_ble_eq_true rfl⟩ (As := [.int (J zz98_), .ref (T 161 a_w), .int (J l5_14), .ref a_r, .int (J ((((T 1 (T 161 a_w) : Int)) - l6_50) - l5_14))]) (rest := []) rfl rfl hl.1 (Nat.le_of_ble_eq_true rfl) 144 rfl dX7_leastChanges_141 (fun v_99 H locs hq99_ hw => ?_)
                              obtain ⟨y300_99, ev99_, hh99_⟩ := hq99_
                              rw [ev99_] at hw; clear ev99_
                              have hw : WK D cy T (upV v_0 300 y300_99) A0 H0 H locs := cw_eq hw (by first | rfl | (funext j_; simp only [upV, reduceIte]; (repeat' split) <;> first | rfl | omega | (subst_vars; rfl)))
                              obtain ⟨hh99_, kf99_⟩ := hh99_
                              replace hh99_ : (∀ j_, 0 ≤ j_ → j_ < ((((T 1 (T 161 a_w) : Int)) - l6_50) - l5_14) + 1 → gC_ (y300_99) a_r j_ = Ld_ (((fun k_ => gC_ (v_0 300) (T 161 o) (k_ + l5_14)))) (((fun k_ => gC_ (v_0 300) (T 161 a_w) (k_ + l5_14)))) (((l8_120 - l5_14)) + 1).toNat j_.toNat) := hh99_
                              have st_ := hh99_
                              clear hh99_
                              refine j_iinc E 147 rfl [(8, .int (J (l8_120 + 1))), (0, .ref o), (1, .ref a_w), (2, .ref a_r), (3, .ref (T 161 o)), (4, .ref (T 161 a_w)), (5, .int (J l5_14)), (6, .int (J l6_50)), (7, .int (J ((((T 1 (T 161 a_w) : Int)) - l6_50) - l5_14)))] dX7_leastChanges_144 hl (kk := 8) rfl (by decide) rfl (fun ls hl => ?_)
                              refine j_goto E 120 dX7_leastChanges_147 (by decide) ?_
                              exact ih120 (l8_120 + 1) y300_99 H locs ls (rr (by omega)) (⟨⟨by omega, fun j_ h1_ h2_ => (st_ j_ h1_ h2_).trans (by congr 1; omega)⟩, (Ro_tr ik120_ kf99_)⟩) (by omega) hw (lv_sub hl [1, 2, 3, 4, 5, 6, 7, 8, 0] rfl)
                        exact L120_91 _ l5_14 y300_c90 H locs ls r_l5_14 (⟨⟨by omega, fun j_ h1_ h2_ => by rw [show l5_14 - l5_14 = 0 by omega, ← Ld_i0 h1_]; exact iv90.2 j_ h1_ (by omega)⟩, ik90_⟩) (Nat.lt_succ_self _) hw (lv_sub hl [1, 2, 3, 4, 5, 6, 7, 8, 0] rfl)
                      · refine j_iload E 99 rfl dX7_leastChanges_97 (lv_at hl 8 rfl) ?_
                        refine j_aload_n E 100 rfl dX7_leastChanges_99 rfl (lv_at hl 2 rfl) ?_
                        refine a_ln20 E hK hw t_r 101 rfl dX7_leastChanges_100 (fun rr100_ => ?_)
                        refine j_icmp_ge E 104 116 rfl r_l8_90 rr100_ dX7_leastChanges_101 (by decide) (fun cc101_ => ?_) (fun cc101_ => ?_)
                        · refine j_iload E 118 rfl dX7_leastChanges_116 (lv_at hl 5 rfl) ?_
                          refine j_istore E 120 rfl [(8, .int (J l5_14)), (0, .ref o), (1, .ref a_w), (2, .ref a_r), (3, .ref (T 161 o)), (4, .ref (T 161 a_w)), (5, .int (J l5_14)), (6, .int (J l6_50)), (7, .int (J ((((T 1 (T 161 a_w) : Int)) - l6_50) - l5_14)))] dX7_leastChanges_118 hl (by decide) rfl (fun ls hl => ?_)
                          have L120_102 : ∀ (k120 : Nat) (l8_120 : Int) (y300_c120 : Nat → Int) (H : Heap) (locs : List Loc) (ls : Array Slot), inR l8_120 → (((l5_14 ≤ l8_120 ∧ l8_120 ≤ (T 1 (T 161 o) : Int) - l6_50) ∧ (∀ j_, 0 ≤ j_ → j_ < ((((T 1 (T 161 a_w) : Int)) - l6_50) - l5_14) + 1 → gC_ (y300_c120) a_r j_ = Ld_ (fun k_ => gC_ (v_0 300) (T 161 o) (k_ + l5_14)) (fun k_ => gC_ (v_0 300) (T 161 a_w) (k_ + l5_14)) (l8_120 - l5_14).toNat j_.toNat)) ∧ Ro_ (v_0 300) y300_c120 a_r) → ((T 1 (T 161 o) : Int) - l8_120).toNat < k120 → WK D cy T (upV v_0 300 y300_c120) A0 H0 H locs → lv_has ls 9 [(0, .ref o), (1, .ref a_w), (2, .ref a_r), (3, .ref (T 161 o)), (4, .ref (T 161 a_w)), (5, .int (J l5_14)), (6, .int (J l6_50)), (7, .int (J ((((T 1 (T 161 a_w) : Int)) - l6_50) - l5_14))), (8, .int (J l8_120))] → W p l e (rmd 3 0 0) s m ar below meth c H locs 0 0 QW (F0 m 120 ls []) := by
                            intro k120
                            induction k120 with
                            | zero =>
                              intro l8_120 y300_c120 H locs ls r_l8_120 iv120 ms120 hw hl
                              exact absurd ms120 (Nat.not_lt_zero _)
                            | succ k120 ih120 =>
                              intro l8_120 y300_c120 H locs ls r_l8_120 iv120 ms120 hw hl
                              obtain ⟨iv120, ik120_⟩ := iv120
                              refine j_iload E 122 rfl dX7_leastChanges_120 (lv_at hl 8 rfl) ?_
                              refine j_aload_n E 123 rfl dX7_leastChanges_122 rfl (lv_at hl 3 rfl) ?_
                              refine a_ln20 E hK hw (wt_161 hT t_o) 124 rfl dX7_leastChanges_123 (fun _ => ?_)
                              refine j_iload E 126 rfl dX7_leastChanges_124 (lv_at hl 6 rfl) ?_
                              refine j_isub E 127 rfl dX7_leastChanges_126 ?_
                              refine j_icmp_ge E 130 150 rfl r_l8_120 (rr (by omega)) dX7_leastChanges_127 (by decide) (fun cc104_ => ?_) (fun cc104_ => ?_)
                              · refine j_iload E 152 rfl dX7_leastChanges_150 (lv_at hl 7 rfl) ?_
                                refine j_if_lt E 155 169 rfl (rr (by omega)) dX7_leastChanges_152 (by decide) (fun cc105_ => ?_) (fun cc105_ => ?_)
                                · refine j_iconst E 170 rfl dX7_leastChanges_169 ?_
                                  exact hret 170 0 (upV v_0 300 y300_c120) _ _ ls hw (rr (by decide)) ⟨y300_c120, rfl, ⟨by first | exact (h5_.trans (iv120.2 _ (by omega) (by omega))).trans (lc_fin (by omega) (by omega) (by omega) iv14.2 iv50.2) | (exfalso; omega), ik120_⟩⟩ dX7_leastChanges_170
                                · refine j_iload E 157 rfl dX7_leastChanges_155 (lv_at hl 7 rfl) ?_
                                  refine j_aload_n E 158 rfl dX7_leastChanges_157 rfl (lv_at hl 2 rfl) ?_
                                  refine a_ln20 E hK hw t_r 159 rfl dX7_leastChanges_158 (fun _ => ?_)
                                  refine j_icmp_ge E 162 169 rfl (rr (by omega)) rr100_ dX7_leastChanges_159 (by decide) (fun cc106_ => ?_) (fun cc106_ => ?_)
                                  · refine j_iconst E 170 rfl dX7_leastChanges_169 ?_
                                    exact hret 170 0 (upV v_0 300 y300_c120) _ _ ls hw (rr (by decide)) ⟨y300_c120, rfl, ⟨by first | exact (h5_.trans (iv120.2 _ (by omega) (by omega))).trans (lc_fin (by omega) (by omega) (by omega) iv14.2 iv50.2) | (exfalso; omega), ik120_⟩⟩ dX7_leastChanges_170
                                  · refine j_aload_n E 163 rfl dX7_leastChanges_162 rfl (lv_at hl 2 rfl) ?_
                                    refine j_iload E 165 rfl dX7_leastChanges_163 (lv_at hl 7 rfl) ?_
                                    refine a_ld20 E hK hw t_r (by omega) 166 rfl dX7_leastChanges_165 (fun zz107_ he107_ rr107_ => ?_)
                                    have he107_ : zz107_ = y300_c120 (pr a_r (Int.toNat ((((T 1 (T 161 a_w) : Int)) - l6_50) - l5_14))) := he107_
                                    have h5_ : zz107_ = gC_ (y300_c120) a_r ((((T 1 (T 161 a_w) : Int)) - l6_50) - l5_14) := he107_
                                    refine j_goto E 170 dX7_leastChanges_166 (by decide) ?_
                                    exact hret 170 zz107_ (upV v_0 300 y300_c120) _ _ ls hw rr107_ ⟨y300_c120, rfl, ⟨by first | exact (h5_.trans (iv120.2 _ (by omega) (by omega))).trans (lc_fin (by omega) (by omega) (by omega) iv14.2 iv50.2) | (exfalso; omega), ik120_⟩⟩ dX7_leastChanges_170
                              · refine j_aload_n E 131 rfl dX7_leastChanges_130 rfl (lv_at hl 3 rfl) ?_
                                refine j_iload E 133 rfl dX7_leastChanges_131 (lv_at hl 8 rfl) ?_
                                refine a_ld20 E hK hw (wt_161 hT t_o) (by omega) 134 rfl dX7_leastChanges_133 (fun zz108_ he108_ rr108_ => ?_)
                                have he108_ : zz108_ = y300_c120 (pr (T 161 o) (Int.toNat l8_120)) := he108_
                                have h3_ : zz108_ = gC_ (y300_c120) (T 161 o) l8_120 := he108_
                                refine j_aload E 136 rfl dX7_leastChanges_134 (lv_at hl 4 rfl) ?_
                                refine j_iload E 138 rfl dX7_leastChanges_136 (lv_at hl 5 rfl) ?_
                                refine j_aload_n E 139 rfl dX7_leastChanges_138 rfl (lv_at hl 2 rfl) ?_
                                refine j_iload E 141 rfl dX7_leastChanges_139 (lv_at hl 7 rfl) ?_
                                refine kS_v E (c3_X7_stepRow l D cy T (upV v_0 300 y300_c120) zz108_ (T 161 a_w) l5_14 a_r ((((T 1 (T 161 a_w) : Int)) - l6_50) - l5_14) ((fun k_ => gC_ (v_0 300) (T 161 o) (k_ + l5_14))) ((fun k_ => gC_ (v_0 300) (T 161 a_w) (k_ + l5_14))) (l8_120 - l5_14)  rr108_ (wt_161 hT t_w) r_l5_14 t_r (rr (by omega)) (show 0 ≤ l5_14 ∧ ((((T 1 (T 161 a_w) : Int)) - l6_50) - l5_14) + l5_14 ≤ (T 1 (T 161 a_w) : Int) from by omega) (show 0 ≤ ((((T 1 (T 161 a_w) : Int)) - l6_50) - l5_14) ∧ ((((T 1 (T 161 a_w) : Int)) - l6_50) - l5_14) < (T 1 a_r : Int) ∧ ((((T 1 (T 161 a_w) : Int)) - l6_50) - l5_14) ≤ 400 ∧ 0 ≤ ((l8_120 - l5_14)) ∧ ((l8_120 - l5_14)) ≤ 400 from by omega) (show (∀ j_, 0 ≤ j_ → j_ < ((((T 1 (T 161 a_w) : Int)) - l6_50) - l5_14) + 1 → gC_ (y300_c120) a_r j_ = Ld_ (((fun k_ => gC_ (v_0 300) (T 161 o) (k_ + l5_14)))) (((fun k_ => gC_ (v_0 300) (T 161 a_w) (k_ + l5_14)))) (((l8_120 - l5_14))).toNat j_.toNat) from iv120.2) (show zz108_ = (((fun k_ => gC_ (v_0 300) (T 161 o) (k_ + l5_14)))) ((l8_120 - l5_14)) from by rw [h3_, gC_ro ik120_ hp1.1]; congr 1; omega) (show ∀ j_, 0 ≤ j_ → j_ < ((((T 1 (T 161 a_w) : Int)) - l6_50) - l5_14) → gC_ (y300_c120) (T 161 a_w) (l5_14 + j_) = (((fun k_ => gC_ (v_0 300) (T 161 a_w) (k_ + l5_14)))) j_ from fun j_ _ _ => by rw [gC_ro ik120_ hp1.2]; congr 1; omega) (show (T 161 a_w) ≠ a_r from hp1.2)) ms_X7_stepRow ml_X7_41 hK hw hA ⟨Nat.le_of_ble_eq_true rfl, Nat.le_of_ble_eq_true rfl⟩ ⟨Nat.le_of_ble_eq_true rfl, Nat.le_of_ble_eq_true rfl⟩ (As := [.int (J zz108_), .ref (T 161 a_w), .int (J l5_14), .ref a_r, .int (J ((((T 1 (T 161 a_w) : Int)) - l6_50) - l5_14))]) (rest := []) rfl rfl hl.1 (Nat.le_of_ble_eq_true rfl) 144 rfl dX7_leastChanges_141 (fun v_109 H locs hq109_ hw => ?_)
                                obtain ⟨y300_109, ev109_, hh109_⟩ := hq109_
                                rw [ev109_] at hw; clear ev109_
                                have hw : WK D cy T (upV v_0 300 y300_109) A0 H0 H locs := cw_eq hw (by first | rfl | (funext j_; simp only [upV, reduceIte]; (repeat' split) <;> first | rfl | omega | (subst_vars; rfl)))
                                obtain ⟨hh109_, kf109_⟩ := hh109_
                                replace hh109_ : (∀ j_, 0 ≤ j_ → j_ < ((((T 1 (T 161 a_w) : Int)) - l6_50) - l5_14) + 1 → gC_ (y300_109) a_r j_ = Ld_ (((fun k_ => gC_ (v_0 300) (T 161 o) (k_ + l5_14)))) (((fun k_ => gC_ (v_0 300) (T 161 a_w) (k_ + l5_14)))) (((l8_120 - l5_14)) + 1).toNat j_.toNat) := hh109_
                                have st_ := hh109_
                                clear hh109_
                                refine j_iinc E 147 rfl [(8, .int (J (l8_120 + 1))), (0, .ref o), (1, .ref a_w), (2, .ref a_r), (3, .ref (T 161 o)), (4, .ref (T 161 a_w)), (5, .int (J l5_14)), (6, .int (J l6_50)), (7, .int (J ((((T 1 (T 161 a_w) : Int)) - l6_50) - l5_14)))] dX7_leastChanges_144 hl (kk := 8) rfl (by decide) rfl (fun ls hl => ?_)
                                refine j_goto E 120 dX7_leastChanges_147 (by decide) ?_
                                exact ih120 (l8_120 + 1) y300_109 H locs ls (rr (by omega)) (⟨⟨by omega, fun j_ h1_ h2_ => (st_ j_ h1_ h2_).trans (by congr 1; omega)⟩, (Ro_tr ik120_ kf109_)⟩) (by omega) hw (lv_sub hl [1, 2, 3, 4, 5, 6, 7, 8, 0] rfl)
                          exact L120_102 _ l5_14 y300_c90 H locs ls r_l5_14 (⟨⟨by omega, fun j_ h1_ h2_ => by rw [show l5_14 - l5_14 = 0 by omega, ← Ld_i0 h1_]; exact iv90.2 j_ h1_ (by omega)⟩, ik90_⟩) (Nat.lt_succ_self _) hw (lv_sub hl [1, 2, 3, 4, 5, 6, 7, 8, 0] rfl)
                        · refine j_aload_n E 105 rfl dX7_leastChanges_104 rfl (lv_at hl 2 rfl) ?_
                          refine j_iload E 107 rfl dX7_leastChanges_105 (lv_at hl 8 rfl) ?_
                          refine j_iload E 109 rfl dX7_leastChanges_107 (lv_at hl 8 rfl) ?_
                          refine a_st20 E hK hw t_r r_l8_90 (by omega) 110 rfl dX7_leastChanges_109 (fun H locs hw => ?_)
                          have hw : WK D cy T (upV v_0 300 (upB y300_c90 ((pr a_r (Int.toNat l8_90))) l8_90)) A0 H0 H locs := cw_eq hw (by first | rfl | (funext j_; simp only [upV, reduceIte]; (repeat' split) <;> first | rfl | omega | (subst_vars; rfl)))
                          refine j_iinc E 113 rfl [(8, .int (J (l8_90 + 1))), (0, .ref o), (1, .ref a_w), (2, .ref a_r), (3, .ref (T 161 o)), (4, .ref (T 161 a_w)), (5, .int (J l5_14)), (6, .int (J l6_50)), (7, .int (J ((((T 1 (T 161 a_w) : Int)) - l6_50) - l5_14)))] dX7_leastChanges_110 hl (kk := 8) rfl (by decide) rfl (fun ls hl => ?_)
                          refine j_goto E 90 dX7_leastChanges_113 (by decide) ?_
                          exact ih90 (l8_90 + 1) (upB y300_c90 ((pr a_r (Int.toNat l8_90))) l8_90) H locs ls (rr (by omega)) (⟨⟨by omega, rw_nx iv90.2 (by omega)⟩, (Ro_tr ik90_ Ro_up)⟩) (by omega) hw (lv_sub hl [1, 2, 3, 4, 5, 6, 7, 8, 0] rfl)
                  exact L90_88 _ 0 (v_0 300) H locs ls (rr (by decide)) (⟨⟨by omega, fun j_ h1_ h2_ => absurd h2_ (by omega)⟩, Ro_rf⟩) (Nat.lt_succ_self _) (cw_eq hw (by first | rfl | (funext j_; simp only [upV, reduceIte]; (repeat' split) <;> first | rfl | omega | (subst_vars; rfl)))) (lv_sub hl [2, 3, 4, 5, 6, 7, 8, 1, 0] rfl)
                · have sq_ := sm_.elim id (fun q_ => absurd q_ (by omega))
                  refine j_iinc E 73 rfl [(6, .int (J (l6_50 + 1))), (0, .ref o), (1, .ref a_w), (2, .ref a_r), (3, .ref (T 161 o)), (4, .ref (T 161 a_w)), (5, .int (J l5_14))] dX7_leastChanges_70 hl (kk := 6) rfl (by decide) rfl (fun ls hl => ?_)
                  refine j_goto E 50 dX7_leastChanges_73 (by decide) ?_
                  exact ih50 (l6_50 + 1)  H locs ls (rr (by omega)) (⟨by omega, eq_nx (f := fun k_ => gC_ (v_0 300) (T 161 o) ((T 1 (T 161 o) : Int) - 1 - k_)) (g := fun k_ => gC_ (v_0 300) (T 161 a_w) ((T 1 (T 161 a_w) : Int) - 1 - k_)) iv50.2 sq_.2.2⟩) (by omega) hw (lv_sub hl [1, 2, 3, 4, 5, 6, 0] rfl)
          exact L50_60 _ 0  H locs ls (rr (by decide)) (⟨by omega, fun k_ h1_ h2_ => absurd h2_ (by omega)⟩) (Nat.lt_succ_self _) hw (lv_sub hl [1, 2, 3, 4, 5, 6, 0] rfl)
        · refine j_aload_n E 30 rfl dX7_leastChanges_29 rfl (lv_at hl 3 rfl) ?_
          refine j_iload E 32 rfl dX7_leastChanges_30 (lv_at hl 5 rfl) ?_
          refine a_ld20 E hK hw (wt_161 hT t_o) (by omega) 33 rfl dX7_leastChanges_32 (fun zz111_ he111_ rr111_ => ?_)
          have he111_ : zz111_ = v_0 300 (pr (T 161 o) (Int.toNat l5_14)) := he111_
          have h1_ : zz111_ = gC_ (v_0 300) (T 161 o) l5_14 := he111_
          refine j_aload E 35 rfl dX7_leastChanges_33 (lv_at hl 4 rfl) ?_
          refine j_iload E 37 rfl dX7_leastChanges_35 (lv_at hl 5 rfl) ?_
          refine a_ld20 E hK hw (wt_161 hT t_w) (by omega) 38 rfl dX7_leastChanges_37 (fun zz112_ he112_ rr112_ => ?_)
          have he112_ : zz112_ = v_0 300 (pr (T 161 a_w) (Int.toNat l5_14)) := he112_
          have h2_ : zz112_ = gC_ (v_0 300) (T 161 a_w) l5_14 := he112_
          refine j_icmp_ne E 41 47 rfl rr111_ rr112_ dX7_leastChanges_38 (by decide) (fun cc113_ => ?_) (fun cc113_ => ?_)
          · refine j_iconst E 48 rfl dX7_leastChanges_47 ?_
            refine j_istore E 50 rfl [(6, .int (J 0)), (0, .ref o), (1, .ref a_w), (2, .ref a_r), (3, .ref (T 161 o)), (4, .ref (T 161 a_w)), (5, .int (J l5_14))] dX7_leastChanges_48 hl (by decide) rfl (fun ls hl => ?_)
            have L50_114 : ∀ (k50 : Nat) (l6_50 : Int) (H : Heap) (locs : List Loc) (ls : Array Slot), inR l6_50 → ((0 ≤ l6_50 ∧ l6_50 + l5_14 ≤ (T 1 (T 161 o) : Int) ∧ l6_50 + l5_14 ≤ (T 1 (T 161 a_w) : Int)) ∧ (∀ k_, 0 ≤ k_ → k_ < l6_50 → gC_ (v_0 300) (T 161 o) ((T 1 (T 161 o) : Int) - 1 - k_) = gC_ (v_0 300) (T 161 a_w) ((T 1 (T 161 a_w) : Int) - 1 - k_))) → ((T 1 (T 161 o) : Int) - l6_50).toNat < k50 → WK D cy T (v_0) A0 H0 H locs → lv_has ls 9 [(0, .ref o), (1, .ref a_w), (2, .ref a_r), (3, .ref (T 161 o)), (4, .ref (T 161 a_w)), (5, .int (J l5_14)), (6, .int (J l6_50))] → W p l e (rmd 3 0 0) s m ar below meth c H locs 0 0 QW (F0 m 50 ls []) := by
              intro k50
              induction k50 with
              | zero =>
                intro l6_50 H locs ls r_l6_50 iv50 ms50 hw hl
                exact absurd ms50 (Nat.not_lt_zero _)
              | succ k50 ih50 =>
                intro l6_50 H locs ls r_l6_50 iv50 ms50 hw hl
                refine j_iload E 52 rfl dX7_leastChanges_50 (lv_at hl 6 rfl) ?_
                refine j_aload_n E 53 rfl dX7_leastChanges_52 rfl (lv_at hl 3 rfl) ?_
                refine a_ln20 E hK hw (wt_161 hT t_o) 54 rfl dX7_leastChanges_53 (fun _ => ?_)
                refine j_icmp_ge E 57 76 rfl r_l6_50 rr3_ dX7_leastChanges_54 (by decide) (fun cc116_ => ?_) (fun cc116_ => ?_)
                · refine j_aload E 78 rfl dX7_leastChanges_76 (lv_at hl 4 rfl) ?_
                  refine a_ln20 E hK hw (wt_161 hT t_w) 79 rfl dX7_leastChanges_78 (fun _ => ?_)
                  refine j_iload E 81 rfl dX7_leastChanges_79 (lv_at hl 6 rfl) ?_
                  refine j_isub E 82 rfl dX7_leastChanges_81 ?_
                  refine j_iload E 84 rfl dX7_leastChanges_82 (lv_at hl 5 rfl) ?_
                  refine j_isub E 85 rfl dX7_leastChanges_84 ?_
                  refine j_istore E 87 rfl [(7, .int (J ((((T 1 (T 161 a_w) : Int)) - l6_50) - l5_14))), (0, .ref o), (1, .ref a_w), (2, .ref a_r), (3, .ref (T 161 o)), (4, .ref (T 161 a_w)), (5, .int (J l5_14)), (6, .int (J l6_50))] dX7_leastChanges_85 hl (by decide) rfl (fun ls hl => ?_)
                  refine j_iconst E 88 rfl dX7_leastChanges_87 ?_
                  refine j_istore E 90 rfl [(8, .int (J 0)), (7, .int (J ((((T 1 (T 161 a_w) : Int)) - l6_50) - l5_14))), (0, .ref o), (1, .ref a_w), (2, .ref a_r), (3, .ref (T 161 o)), (4, .ref (T 161 a_w)), (5, .int (J l5_14)), (6, .int (J l6_50))] dX7_leastChanges_88 hl (by decide) rfl (fun ls hl => ?_)
                  have L90_117 : ∀ (k90 : Nat) (l8_90 : Int) (y300_c90 : Nat → Int) (H : Heap) (locs : List Loc) (ls : Array Slot), inR l8_90 → (((0 ≤ l8_90 ∧ l8_90 ≤ ((((T 1 (T 161 a_w) : Int)) - l6_50) - l5_14) + 1) ∧ (∀ j_, 0 ≤ j_ → j_ < l8_90 → gC_ (y300_c90) a_r j_ = j_)) ∧ Ro_ (v_0 300) y300_c90 a_r) → ((T 1 a_r : Int) - l8_90).toNat < k90 → WK D cy T (upV v_0 300 y300_c90) A0 H0 H locs → lv_has ls 9 [(0, .ref o), (1, .ref a_w), (2, .ref a_r), (3, .ref (T 161 o)), (4, .ref (T 161 a_w)), (5, .int (J l5_14)), (6, .int (J l6_50)), (7, .int (J ((((T 1 (T 161 a_w) : Int)) - l6_50) - l5_14))), (8, .int (J l8_90))] → W p l e (rmd 3 0 0) s m ar below meth c H locs 0 0 QW (F0 m 90 ls []) := by
                    intro k90
                    induction k90 with
                    | zero =>
                      intro l8_90 y300_c90 H locs ls r_l8_90 iv90 ms90 hw hl
                      exact absurd ms90 (Nat.not_lt_zero _)
                    | succ k90 ih90 =>
                      intro l8_90 y300_c90 H locs ls r_l8_90 iv90 ms90 hw hl
                      obtain ⟨iv90, ik90_⟩ := iv90
                      refine j_iload E 92 rfl dX7_leastChanges_90 (lv_at hl 8 rfl) ?_
                      refine j_iload E 94 rfl dX7_leastChanges_92 (lv_at hl 7 rfl) ?_
                      refine j_icmp_gt E 97 116 rfl r_l8_90 (rr (by omega)) dX7_leastChanges_94 (by decide) (fun cc119_ => ?_) (fun cc119_ => ?_)
                      · refine j_iload E 118 rfl dX7_leastChanges_116 (lv_at hl 5 rfl) ?_
                        refine j_istore E 120 rfl [(8, .int (J l5_14)), (0, .ref o), (1, .ref a_w), (2, .ref a_r), (3, .ref (T 161 o)), (4, .ref (T 161 a_w)), (5, .int (J l5_14)), (6, .int (J l6_50)), (7, .int (J ((((T 1 (T 161 a_w) : Int)) - l6_50) - l5_14)))] dX7_leastChanges_118 hl (by decide) rfl (fun ls hl => ?_)
                        have L120_120 : ∀ (k120 : Nat) (l8_120 : Int) (y300_c120 : Nat → Int) (H : Heap) (locs : List Loc) (ls : Array Slot), inR l8_120 → (((l5_14 ≤ l8_120 ∧ l8_120 ≤ (T 1 (T 161 o) : Int) - l6_50) ∧ (∀ j_, 0 ≤ j_ → j_ < ((((T 1 (T 161 a_w) : Int)) - l6_50) - l5_14) + 1 → gC_ (y300_c120) a_r j_ = Ld_ (fun k_ => gC_ (v_0 300) (T 161 o) (k_ + l5_14)) (fun k_ => gC_ (v_0 300) (T 161 a_w) (k_ + l5_14)) (l8_120 - l5_14).toNat j_.toNat)) ∧ Ro_ (v_0 300) y300_c120 a_r) → ((T 1 (T 161 o) : Int) - l8_120).toNat < k120 → WK D cy T (upV v_0 300 y300_c120) A0 H0 H locs → lv_has ls 9 [(0, .ref o), (1, .ref a_w), (2, .ref a_r), (3, .ref (T 161 o)), (4, .ref (T 161 a_w)), (5, .int (J l5_14)), (6, .int (J l6_50)), (7, .int (J ((((T 1 (T 161 a_w) : Int)) - l6_50) - l5_14))), (8, .int (J l8_120))] → W p l e (rmd 3 0 0) s m ar below meth c H locs 0 0 QW (F0 m 120 ls []) := by
                          intro k120
                          induction k120 with
                          | zero =>
                            intro l8_120 y300_c120 H locs ls r_l8_120 iv120 ms120 hw hl
                            exact absurd ms120 (Nat.not_lt_zero _)
                          | succ k120 ih120 =>
                            intro l8_120 y300_c120 H locs ls r_l8_120 iv120 ms120 hw hl
                            obtain ⟨iv120, ik120_⟩ := iv120
                            refine j_iload E 122 rfl dX7_leastChanges_120 (lv_at hl 8 rfl) ?_
                            refine j_aload_n E 123 rfl dX7_leastChanges_122 rfl (lv_at hl 3 rfl) ?_
                            refine a_ln20 E hK hw (wt_161 hT t_o) 124 rfl dX7_leastChanges_123 (fun _ => ?_)
                            refine j_iload E 126 rfl dX7_leastChanges_124 (lv_at hl 6 rfl) ?_
                            refine j_isub E 127 rfl dX7_leastChanges_126 ?_
                            refine j_icmp_ge E 130 150 rfl r_l8_120 (rr (by omega)) dX7_leastChanges_127 (by decide) (fun cc122_ => ?_) (fun cc122_ => ?_)
                            · refine j_iload E 152 rfl dX7_leastChanges_150 (lv_at hl 7 rfl) ?_
                              refine j_if_lt E 155 169 rfl (rr (by omega)) dX7_leastChanges_152 (by decide) (fun cc123_ => ?_) (fun cc123_ => ?_)
                              · refine j_iconst E 170 rfl dX7_leastChanges_169 ?_
                                exact hret 170 0 (upV v_0 300 y300_c120) _ _ ls hw (rr (by decide)) ⟨y300_c120, rfl, ⟨by first | exact (h5_.trans (iv120.2 _ (by omega) (by omega))).trans (lc_fin (by omega) (by omega) (by omega) iv14.2 iv50.2) | (exfalso; omega), ik120_⟩⟩ dX7_leastChanges_170
                              · refine j_iload E 157 rfl dX7_leastChanges_155 (lv_at hl 7 rfl) ?_
                                refine j_aload_n E 158 rfl dX7_leastChanges_157 rfl (lv_at hl 2 rfl) ?_
                                refine a_ln20 E hK hw t_r 159 rfl dX7_leastChanges_158 (fun rr124_ => ?_)
                                refine j_icmp_ge E 162 169 rfl (rr (by omega)) rr124_ dX7_leastChanges_159 (by decide) (fun cc125_ => ?_) (fun cc125_ => ?_)
                                · refine j_iconst E 170 rfl dX7_leastChanges_169 ?_
                                  exact hret 170 0 (upV v_0 300 y300_c120) _ _ ls hw (rr (by decide)) ⟨y300_c120, rfl, ⟨by first | exact (h5_.trans (iv120.2 _ (by omega) (by omega))).trans (lc_fin (by omega) (by omega) (by omega) iv14.2 iv50.2) | (exfalso; omega), ik120_⟩⟩ dX7_leastChanges_170
                                · refine j_aload_n E 163 rfl dX7_leastChanges_162 rfl (lv_at hl 2 rfl) ?_
                                  refine j_iload E 165 rfl dX7_leastChanges_163 (lv_at hl 7 rfl) ?_
                                  refine a_ld20 E hK hw t_r (by omega) 166 rfl dX7_leastChanges_165 (fun zz126_ he126_ rr126_ => ?_)
                                  have he126_ : zz126_ = y300_c120 (pr a_r (Int.toNat ((((T 1 (T 161 a_w) : Int)) - l6_50) - l5_14))) := he126_
                                  have h5_ : zz126_ = gC_ (y300_c120) a_r ((((T 1 (T 161 a_w) : Int)) - l6_50) - l5_14) := he126_
                                  refine j_goto E 170 dX7_leastChanges_166 (by decide) ?_
                                  exact hret 170 zz126_ (upV v_0 300 y300_c120) _ _ ls hw rr126_ ⟨y300_c120, rfl, ⟨by first | exact (h5_.trans (iv120.2 _ (by omega) (by omega))).trans (lc_fin (by omega) (by omega) (by omega) iv14.2 iv50.2) | (exfalso; omega), ik120_⟩⟩ dX7_leastChanges_170
                            · refine j_aload_n E 131 rfl dX7_leastChanges_130 rfl (lv_at hl 3 rfl) ?_
                              refine j_iload E 133 rfl dX7_leastChanges_131 (lv_at hl 8 rfl) ?_
                              refine a_ld20 E hK hw (wt_161 hT t_o) (by omega) 134 rfl dX7_leastChanges_133 (fun zz127_ he127_ rr127_ => ?_)
                              have he127_ : zz127_ = y300_c120 (pr (T 161 o) (Int.toNat l8_120)) := he127_
                              have h3_ : zz127_ = gC_ (y300_c120) (T 161 o) l8_120 := he127_
                              refine j_aload E 136 rfl dX7_leastChanges_134 (lv_at hl 4 rfl) ?_
                              refine j_iload E 138 rfl dX7_leastChanges_136 (lv_at hl 5 rfl) ?_
                              refine j_aload_n E 139 rfl dX7_leastChanges_138 rfl (lv_at hl 2 rfl) ?_
                              refine j_iload E 141 rfl dX7_leastChanges_139 (lv_at hl 7 rfl) ?_
                              refine kS_v E (c3_X7_stepRow l D cy T (upV v_0 300 y300_c120) zz127_ (T 161 a_w) l5_14 a_r ((((T 1 (T 161 a_w) : Int)) - l6_50) - l5_14) ((fun k_ => gC_ (v_0 300) (T 161 o) (k_ + l5_14))) ((fun k_ => gC_ (v_0 300) (T 161 a_w) (k_ + l5_14))) (l8_120 - l5_14)  rr127_ (wt_161 hT t_w) r_l5_14 t_r (rr (by omega)) (show 0 ≤ l5_14 ∧ ((((T 1 (T 161 a_w) : Int)) - l6_50) - l5_14) + l5_14 ≤ (T 1 (T 161 a_w) : Int) from by omega) (show 0 ≤ ((((T 1 (T 161 a_w) : Int)) - l6_50) - l5_14) ∧ ((((T 1 (T 161 a_w) : Int)) - l6_50) - l5_14) < (T 1 a_r : Int) ∧ ((((T 1 (T 161 a_w) : Int)) - l6_50) - l5_14) ≤ 400 ∧ 0 ≤ ((l8_120 - l5_14)) ∧ ((l8_120 - l5_14)) ≤ 400 from by omega) (show (∀ j_, 0 ≤ j_ → j_ < ((((T 1 (T 161 a_w) : Int)) - l6_50) - l5_14) + 1 → gC_ (y300_c120) a_r j_ = Ld_ (((fun k_ => gC_ (v_0 300) (T 161 o) (k_ + l5_14)))) (((fun k_ => gC_ (v_0 300) (T 161 a_w) (k_ + l5_14)))) (((l8_120 - l5_14))).toNat j_.toNat) from iv120.2) (show zz127_ = (((fun k_ => gC_ (v_0 300) (T 161 o) (k_ + l5_14)))) ((l8_120 - l5_14)) from by rw [h3_, gC_ro ik120_ hp1.1]; congr 1; omega) (show ∀ j_, 0 ≤ j_ → j_ < ((((T 1 (T 161 a_w) : Int)) - l6_50) - l5_14) → gC_ (y300_c120) (T 161 a_w) (l5_14 + j_) = (((fun k_ => gC_ (v_0 300) (T 161 a_w) (k_ + l5_14)))) j_ from fun j_ _ _ => by rw [gC_ro ik120_ hp1.2]; congr 1; omega) (show (T 161 a_w) ≠ a_r from hp1.2)) ms_X7_stepRow ml_X7_41 hK hw hA ⟨Nat.le_of_ble_eq_true rfl, Nat.le_of_ble_eq_true rfl⟩ ⟨Nat.le_of_ble_eq_true rfl, Nat.le_of_ble_eq_true rfl⟩ (As := [.int (J zz127_), .ref (T 161 a_w), .int (J l5_14), .ref a_r, .int (J ((((T 1 (T 161 a_w) : Int)) - l6_50) - l5_14))]) (rest := []) rfl rfl hl.1 (Nat.le_of_ble_eq_true rfl) 144 rfl dX7_leastChanges_141 (fun v_128 H locs hq128_ hw => ?_)
                              obtain ⟨y300_128, ev128_, hh128_⟩ := hq128_
                              rw [ev128_] at hw; clear ev128_
                              have hw : WK D cy T (upV v_0 300 y300_128) A0 H0 H locs := cw_eq hw (by first | rfl | (funext j_; simp only [upV, reduceIte]; (repeat' split) <;> first | rfl | omega | (subst_vars; rfl)))
                              obtain ⟨hh128_, kf128_⟩ := hh128_
                              replace hh128_ : (∀ j_, 0 ≤ j_ → j_ < ((((T 1 (T 161 a_w) : Int)) - l6_50) - l5_14) + 1 → gC_ (y300_128) a_r j_ = Ld_ (((fun k_ => gC_ (v_0 300) (T 161 o) (k_ + l5_14)))) (((fun k_ => gC_ (v_0 300) (T 161 a_w) (k_ + l5_14)))) (((l8_120 - l5_14)) + 1).toNat j_.toNat) := hh128_
                              have st_ := hh128_
                              clear hh128_
                              refine j_iinc E 147 rfl [(8, .int (J (l8_120 + 1))), (0, .ref o), (1, .ref a_w), (2, .ref a_r), (3, .ref (T 161 o)), (4, .ref (T 161 a_w)), (5, .int (J l5_14)), (6, .int (J l6_50)), (7, .int (J ((((T 1 (T 161 a_w) : Int)) - l6_50) - l5_14)))] dX7_leastChanges_144 hl (kk := 8) rfl (by decide) rfl (fun ls hl => ?_)
                              refine j_goto E 120 dX7_leastChanges_147 (by decide) ?_
                              exact ih120 (l8_120 + 1) y300_128 H locs ls (rr (by omega)) (⟨⟨by omega, fun j_ h1_ h2_ => (st_ j_ h1_ h2_).trans (by congr 1; omega)⟩, (Ro_tr ik120_ kf128_)⟩) (by omega) hw (lv_sub hl [1, 2, 3, 4, 5, 6, 7, 8, 0] rfl)
                        exact L120_120 _ l5_14 y300_c90 H locs ls r_l5_14 (⟨⟨by omega, fun j_ h1_ h2_ => by rw [show l5_14 - l5_14 = 0 by omega, ← Ld_i0 h1_]; exact iv90.2 j_ h1_ (by omega)⟩, ik90_⟩) (Nat.lt_succ_self _) hw (lv_sub hl [1, 2, 3, 4, 5, 6, 7, 8, 0] rfl)
                      · refine j_iload E 99 rfl dX7_leastChanges_97 (lv_at hl 8 rfl) ?_
                        refine j_aload_n E 100 rfl dX7_leastChanges_99 rfl (lv_at hl 2 rfl) ?_
                        refine a_ln20 E hK hw t_r 101 rfl dX7_leastChanges_100 (fun rr129_ => ?_)
                        refine j_icmp_ge E 104 116 rfl r_l8_90 rr129_ dX7_leastChanges_101 (by decide) (fun cc130_ => ?_) (fun cc130_ => ?_)
                        · refine j_iload E 118 rfl dX7_leastChanges_116 (lv_at hl 5 rfl) ?_
                          refine j_istore E 120 rfl [(8, .int (J l5_14)), (0, .ref o), (1, .ref a_w), (2, .ref a_r), (3, .ref (T 161 o)), (4, .ref (T 161 a_w)), (5, .int (J l5_14)), (6, .int (J l6_50)), (7, .int (J ((((T 1 (T 161 a_w) : Int)) - l6_50) - l5_14)))] dX7_leastChanges_118 hl (by decide) rfl (fun ls hl => ?_)
                          have L120_131 : ∀ (k120 : Nat) (l8_120 : Int) (y300_c120 : Nat → Int) (H : Heap) (locs : List Loc) (ls : Array Slot), inR l8_120 → (((l5_14 ≤ l8_120 ∧ l8_120 ≤ (T 1 (T 161 o) : Int) - l6_50) ∧ (∀ j_, 0 ≤ j_ → j_ < ((((T 1 (T 161 a_w) : Int)) - l6_50) - l5_14) + 1 → gC_ (y300_c120) a_r j_ = Ld_ (fun k_ => gC_ (v_0 300) (T 161 o) (k_ + l5_14)) (fun k_ => gC_ (v_0 300) (T 161 a_w) (k_ + l5_14)) (l8_120 - l5_14).toNat j_.toNat)) ∧ Ro_ (v_0 300) y300_c120 a_r) → ((T 1 (T 161 o) : Int) - l8_120).toNat < k120 → WK D cy T (upV v_0 300 y300_c120) A0 H0 H locs → lv_has ls 9 [(0, .ref o), (1, .ref a_w), (2, .ref a_r), (3, .ref (T 161 o)), (4, .ref (T 161 a_w)), (5, .int (J l5_14)), (6, .int (J l6_50)), (7, .int (J ((((T 1 (T 161 a_w) : Int)) - l6_50) - l5_14))), (8, .int (J l8_120))] → W p l e (rmd 3 0 0) s m ar below meth c H locs 0 0 QW (F0 m 120 ls []) := by
                            intro k120
                            induction k120 with
                            | zero =>
                              intro l8_120 y300_c120 H locs ls r_l8_120 iv120 ms120 hw hl
                              exact absurd ms120 (Nat.not_lt_zero _)
                            | succ k120 ih120 =>
                              intro l8_120 y300_c120 H locs ls r_l8_120 iv120 ms120 hw hl
                              obtain ⟨iv120, ik120_⟩ := iv120
                              refine j_iload E 122 rfl dX7_leastChanges_120 (lv_at hl 8 rfl) ?_
                              refine j_aload_n E 123 rfl dX7_leastChanges_122 rfl (lv_at hl 3 rfl) ?_
                              refine a_ln20 E hK hw (wt_161 hT t_o) 124 rfl dX7_leastChanges_123 (fun _ => ?_)
                              refine j_iload E 126 rfl dX7_leastChanges_124 (lv_at hl 6 rfl) ?_
                              refine j_isub E 127 rfl dX7_leastChanges_126 ?_
                              refine j_icmp_ge E 130 150 rfl r_l8_120 (rr (by omega)) dX7_leastChanges_127 (by decide) (fun cc133_ => ?_) (fun cc133_ => ?_)
                              · refine j_iload E 152 rfl dX7_leastChanges_150 (lv_at hl 7 rfl) ?_
                                refine j_if_lt E 155 169 rfl (rr (by omega)) dX7_leastChanges_152 (by decide) (fun cc134_ => ?_) (fun cc134_ => ?_)
                                · refine j_iconst E 170 rfl dX7_leastChanges_169 ?_
                                  exact hret 170 0 (upV v_0 300 y300_c120) _ _ ls hw (rr (by decide)) ⟨y300_c120, rfl, ⟨by first | exact (h5_.trans (iv120.2 _ (by omega) (by omega))).trans (lc_fin (by omega) (by omega) (by omega) iv14.2 iv50.2) | (exfalso; omega), ik120_⟩⟩ dX7_leastChanges_170
                                · refine j_iload E 157 rfl dX7_leastChanges_155 (lv_at hl 7 rfl) ?_
                                  refine j_aload_n E 158 rfl dX7_leastChanges_157 rfl (lv_at hl 2 rfl) ?_
                                  refine a_ln20 E hK hw t_r 159 rfl dX7_leastChanges_158 (fun _ => ?_)
                                  refine j_icmp_ge E 162 169 rfl (rr (by omega)) rr129_ dX7_leastChanges_159 (by decide) (fun cc135_ => ?_) (fun cc135_ => ?_)
                                  · refine j_iconst E 170 rfl dX7_leastChanges_169 ?_
                                    exact hret 170 0 (upV v_0 300 y300_c120) _ _ ls hw (rr (by decide)) ⟨y300_c120, rfl, ⟨by first | exact (h5_.trans (iv120.2 _ (by omega) (by omega))).trans (lc_fin (by omega) (by omega) (by omega) iv14.2 iv50.2) | (exfalso; omega), ik120_⟩⟩ dX7_leastChanges_170
                                  · refine j_aload_n E 163 rfl dX7_leastChanges_162 rfl (lv_at hl 2 rfl) ?_
                                    refine j_iload E 165 rfl dX7_leastChanges_163 (lv_at hl 7 rfl) ?_
                                    refine a_ld20 E hK hw t_r (by omega) 166 rfl dX7_leastChanges_165 (fun zz136_ he136_ rr136_ => ?_)
                                    have he136_ : zz136_ = y300_c120 (pr a_r (Int.toNat ((((T 1 (T 161 a_w) : Int)) - l6_50) - l5_14))) := he136_
                                    have h5_ : zz136_ = gC_ (y300_c120) a_r ((((T 1 (T 161 a_w) : Int)) - l6_50) - l5_14) := he136_
                                    refine j_goto E 170 dX7_leastChanges_166 (by decide) ?_
                                    exact hret 170 zz136_ (upV v_0 300 y300_c120) _ _ ls hw rr136_ ⟨y300_c120, rfl, ⟨by first | exact (h5_.trans (iv120.2 _ (by omega) (by omega))).trans (lc_fin (by omega) (by omega) (by omega) iv14.2 iv50.2) | (exfalso; omega), ik120_⟩⟩ dX7_leastChanges_170
                              · refine j_aload_n E 131 rfl dX7_leastChanges_130 rfl (lv_at hl 3 rfl) ?_
                                refine j_iload E 133 rfl dX7_leastChanges_131 (lv_at hl 8 rfl) ?_
                                refine a_ld20 E hK hw (wt_161 hT t_o) (by omega) 134 rfl dX7_leastChanges_133 (fun zz137_ he137_ rr137_ => ?_)
                                have he137_ : zz137_ = y300_c120 (pr (T 161 o) (Int.toNat l8_120)) := he137_
                                have h3_ : zz137_ = gC_ (y300_c120) (T 161 o) l8_120 := he137_
                                refine j_aload E 136 rfl dX7_leastChanges_134 (lv_at hl 4 rfl) ?_
                                refine j_iload E 138 rfl dX7_leastChanges_136 (lv_at hl 5 rfl) ?_
                                refine j_aload_n E 139 rfl dX7_leastChanges_138 rfl (lv_at hl 2 rfl) ?_
                                refine j_iload E 141 rfl dX7_leastChanges_139 (lv_at hl 7 rfl) ?_
                                refine kS_v E (c3_X7_stepRow l D cy T (upV v_0 300 y300_c120) zz137_ (T 161 a_w) l5_14 a_r ((((T 1 (T 161 a_w) : Int)) - l6_50) - l5_14) ((fun k_ => gC_ (v_0 300) (T 161 o) (k_ + l5_14))) ((fun k_ => gC_ (v_0 300) (T 161 a_w) (k_ + l5_14))) (l8_120 - l5_14)  rr137_ (wt_161 hT t_w) r_l5_14 t_r (rr (by omega)) (show 0 ≤ l5_14 ∧ ((((T 1 (T 161 a_w) : Int)) - l6_50) - l5_14) + l5_14 ≤ (T 1 (T 161 a_w) : Int) from by omega) (show 0 ≤ ((((T 1 (T 161 a_w) : Int)) - l6_50) - l5_14) ∧ ((((T 1 (T 161 a_w) : Int)) - l6_50) - l5_14) < (T 1 a_r : Int) ∧ ((((T 1 (T 161 a_w) : Int)) - l6_50) - l5_14) ≤ 400 ∧ 0 ≤ ((l8_120 - l5_14)) ∧ ((l8_120 - l5_14)) ≤ 400 from by omega) (show (∀ j_, 0 ≤ j_ → j_ < ((((T 1 (T 161 a_w) : Int)) - l6_50) - l5_14) + 1 → gC_ (y300_c120) a_r j_ = Ld_ (((fun k_ => gC_ (v_0 300) (T 161 o) (k_ + l5_14)))) (((fun k_ => gC_ (v_0 300) (T 161 a_w) (k_ + l5_14)))) (((l8_120 - l5_14))).toNat j_.toNat) from iv120.2) (show zz137_ = (((fun k_ => gC_ (v_0 300) (T 161 o) (k_ + l5_14)))) ((l8_120 - l5_14)) from by rw [h3_, gC_ro ik120_ hp1.1]; congr 1; omega) (show ∀ j_, 0 ≤ j_ → j_ < ((((T 1 (T 161 a_w) : Int)) - l6_50) - l5_14) → gC_ (y300_c120) (T 161 a_w) (l5_14 + j_) = (((fun k_ => gC_ (v_0 300) (T 161 a_w) (k_ + l5_14)))) j_ from fun j_ _ _ => by rw [gC_ro ik120_ hp1.2]; congr 1; omega) (show (T 161 a_w) ≠ a_r from hp1.2)) ms_X7_stepRow ml_X7_41 hK hw hA ⟨Nat.le_of_ble_eq_true rfl, Nat.le_of_ble_eq_true rfl⟩ ⟨Nat.le_of_ble_eq_true rfl, Nat.le_of_ble_eq_true rfl⟩ (As := [.int (J zz137_), .ref (T 161 a_w), .int (J l5_14), .ref a_r, .int (J ((((T 1 (T 161 a_w) : Int)) - l6_50) - l5_14))]) (rest := []) rfl rfl hl.1 (Nat.le_of_ble_eq_true rfl) 144 rfl dX7_leastChanges_141 (fun v_138 H locs hq138_ hw => ?_)
                                obtain ⟨y300_138, ev138_, hh138_⟩ := hq138_
                                rw [ev138_] at hw; clear ev138_
                                have hw : WK D cy T (upV v_0 300 y300_138) A0 H0 H locs := cw_eq hw (by first | rfl | (funext j_; simp only [upV, reduceIte]; (repeat' split) <;> first | rfl | omega | (subst_vars; rfl)))
                                obtain ⟨hh138_, kf138_⟩ := hh138_
                                replace hh138_ : (∀ j_, 0 ≤ j_ → j_ < ((((T 1 (T 161 a_w) : Int)) - l6_50) - l5_14) + 1 → gC_ (y300_138) a_r j_ = Ld_ (((fun k_ => gC_ (v_0 300) (T 161 o) (k_ + l5_14)))) (((fun k_ => gC_ (v_0 300) (T 161 a_w) (k_ + l5_14)))) (((l8_120 - l5_14)) + 1).toNat j_.toNat) := hh138_
                                have st_ := hh138_
                                clear hh138_
                                refine j_iinc E 147 rfl [(8, .int (J (l8_120 + 1))), (0, .ref o), (1, .ref a_w), (2, .ref a_r), (3, .ref (T 161 o)), (4, .ref (T 161 a_w)), (5, .int (J l5_14)), (6, .int (J l6_50)), (7, .int (J ((((T 1 (T 161 a_w) : Int)) - l6_50) - l5_14)))] dX7_leastChanges_144 hl (kk := 8) rfl (by decide) rfl (fun ls hl => ?_)
                                refine j_goto E 120 dX7_leastChanges_147 (by decide) ?_
                                exact ih120 (l8_120 + 1) y300_138 H locs ls (rr (by omega)) (⟨⟨by omega, fun j_ h1_ h2_ => (st_ j_ h1_ h2_).trans (by congr 1; omega)⟩, (Ro_tr ik120_ kf138_)⟩) (by omega) hw (lv_sub hl [1, 2, 3, 4, 5, 6, 7, 8, 0] rfl)
                          exact L120_131 _ l5_14 y300_c90 H locs ls r_l5_14 (⟨⟨by omega, fun j_ h1_ h2_ => by rw [show l5_14 - l5_14 = 0 by omega, ← Ld_i0 h1_]; exact iv90.2 j_ h1_ (by omega)⟩, ik90_⟩) (Nat.lt_succ_self _) hw (lv_sub hl [1, 2, 3, 4, 5, 6, 7, 8, 0] rfl)
                        · refine j_aload_n E 105 rfl dX7_leastChanges_104 rfl (lv_at hl 2 rfl) ?_
                          refine j_iload E 107 rfl dX7_leastChanges_105 (lv_at hl 8 rfl) ?_
                          refine j_iload E 109 rfl dX7_leastChanges_107 (lv_at hl 8 rfl) ?_
                          refine a_st20 E hK hw t_r r_l8_90 (by omega) 110 rfl dX7_leastChanges_109 (fun H locs hw => ?_)
                          have hw : WK D cy T (upV v_0 300 (upB y300_c90 ((pr a_r (Int.toNat l8_90))) l8_90)) A0 H0 H locs := cw_eq hw (by first | rfl | (funext j_; simp only [upV, reduceIte]; (repeat' split) <;> first | rfl | omega | (subst_vars; rfl)))
                          refine j_iinc E 113 rfl [(8, .int (J (l8_90 + 1))), (0, .ref o), (1, .ref a_w), (2, .ref a_r), (3, .ref (T 161 o)), (4, .ref (T 161 a_w)), (5, .int (J l5_14)), (6, .int (J l6_50)), (7, .int (J ((((T 1 (T 161 a_w) : Int)) - l6_50) - l5_14)))] dX7_leastChanges_110 hl (kk := 8) rfl (by decide) rfl (fun ls hl => ?_)
                          refine j_goto E 90 dX7_leastChanges_113 (by decide) ?_
                          exact ih90 (l8_90 + 1) (upB y300_c90 ((pr a_r (Int.toNat l8_90))) l8_90) H locs ls (rr (by omega)) (⟨⟨by omega, rw_nx iv90.2 (by omega)⟩, (Ro_tr ik90_ Ro_up)⟩) (by omega) hw (lv_sub hl [1, 2, 3, 4, 5, 6, 7, 8, 0] rfl)
                  exact L90_117 _ 0 (v_0 300) H locs ls (rr (by decide)) (⟨⟨by omega, fun j_ h1_ h2_ => absurd h2_ (by omega)⟩, Ro_rf⟩) (Nat.lt_succ_self _) (cw_eq hw (by first | rfl | (funext j_; simp only [upV, reduceIte]; (repeat' split) <;> first | rfl | omega | (subst_vars; rfl)))) (lv_sub hl [2, 3, 4, 5, 6, 7, 8, 1, 0] rfl)
                · refine j_aload_n E 58 rfl dX7_leastChanges_57 rfl (lv_at hl 3 rfl) ?_
                  refine j_aload E 60 rfl dX7_leastChanges_58 (lv_at hl 4 rfl) ?_
                  refine j_iload E 62 rfl dX7_leastChanges_60 (lv_at hl 5 rfl) ?_
                  refine j_iload E 64 rfl dX7_leastChanges_62 (lv_at hl 6 rfl) ?_
                  refine kS_i E (c3_X7_isSameFromEnd l D cy T (v_0) (T 161 o) (T 161 a_w) l5_14 l6_50   (wt_161 hT t_o) (wt_161 hT t_w) r_l5_14 r_l6_50 (show 0 ≤ l5_14 ∧ 0 ≤ l6_50 ∧ l6_50 ≤ (T 1 (T 161 o) : Int) ∧ l6_50 ≤ (T 1 (T 161 a_w) : Int) from by omega)) ms_X7_isSameFromEnd ml_X7_37 hK hw hA ⟨Nat.le_of_ble_eq_true rfl, Nat.le_of_ble_eq_true rfl⟩ ⟨Nat.le_of_ble_eq_true rfl, Nat.le_of_ble_eq_true rfl⟩ (As := [.ref (T 161 o), .ref (T 161 a_w), .int (J l5_14), .int (J l6_50)]) (rest := []) rfl rfl hl.1 (Nat.le_of_ble_eq_true rfl) 67 rfl dX7_leastChanges_64 (fun zz140_ v_140 H locs rr140_ hq140_ hw => ?_)
                  obtain ⟨ev140_, hh140_⟩ := hq140_
                  rw [ev140_] at hw; clear ev140_
                  replace hh140_ : (zz140_ = 1 ∧ (l5_14 ≤ (T 1 (T 161 o) : Int) - 1 - l6_50 ∧ l5_14 ≤ (T 1 (T 161 a_w) : Int) - 1 - l6_50) ∧ gC_ (v_0 300) (T 161 o) ((T 1 (T 161 o) : Int) - 1 - l6_50) = gC_ (v_0 300) (T 161 a_w) ((T 1 (T 161 a_w) : Int) - 1 - l6_50)) ∨ zz140_ = 0 := hh140_
                  have sm_ := hh140_
                  clear hh140_
                  refine j_if_eq E 70 76 rfl rr140_ dX7_leastChanges_67 (by decide) (fun cc141_ => ?_) (fun cc141_ => ?_)
                  · refine j_aload E 78 rfl dX7_leastChanges_76 (lv_at hl 4 rfl) ?_
                    refine a_ln20 E hK hw (wt_161 hT t_w) 79 rfl dX7_leastChanges_78 (fun _ => ?_)
                    refine j_iload E 81 rfl dX7_leastChanges_79 (lv_at hl 6 rfl) ?_
                    refine j_isub E 82 rfl dX7_leastChanges_81 ?_
                    refine j_iload E 84 rfl dX7_leastChanges_82 (lv_at hl 5 rfl) ?_
                    refine j_isub E 85 rfl dX7_leastChanges_84 ?_
                    refine j_istore E 87 rfl [(7, .int (J ((((T 1 (T 161 a_w) : Int)) - l6_50) - l5_14))), (0, .ref o), (1, .ref a_w), (2, .ref a_r), (3, .ref (T 161 o)), (4, .ref (T 161 a_w)), (5, .int (J l5_14)), (6, .int (J l6_50))] dX7_leastChanges_85 hl (by decide) rfl (fun ls hl => ?_)
                    refine j_iconst E 88 rfl dX7_leastChanges_87 ?_
                    refine j_istore E 90 rfl [(8, .int (J 0)), (7, .int (J ((((T 1 (T 161 a_w) : Int)) - l6_50) - l5_14))), (0, .ref o), (1, .ref a_w), (2, .ref a_r), (3, .ref (T 161 o)), (4, .ref (T 161 a_w)), (5, .int (J l5_14)), (6, .int (J l6_50))] dX7_leastChanges_88 hl (by decide) rfl (fun ls hl => ?_)
                    have L90_142 : ∀ (k90 : Nat) (l8_90 : Int) (y300_c90 : Nat → Int) (H : Heap) (locs : List Loc) (ls : Array Slot), inR l8_90 → (((0 ≤ l8_90 ∧ l8_90 ≤ ((((T 1 (T 161 a_w) : Int)) - l6_50) - l5_14) + 1) ∧ (∀ j_, 0 ≤ j_ → j_ < l8_90 → gC_ (y300_c90) a_r j_ = j_)) ∧ Ro_ (v_0 300) y300_c90 a_r) → ((T 1 a_r : Int) - l8_90).toNat < k90 → WK D cy T (upV v_0 300 y300_c90) A0 H0 H locs → lv_has ls 9 [(0, .ref o), (1, .ref a_w), (2, .ref a_r), (3, .ref (T 161 o)), (4, .ref (T 161 a_w)), (5, .int (J l5_14)), (6, .int (J l6_50)), (7, .int (J ((((T 1 (T 161 a_w) : Int)) - l6_50) - l5_14))), (8, .int (J l8_90))] → W p l e (rmd 3 0 0) s m ar below meth c H locs 0 0 QW (F0 m 90 ls []) := by
                      intro k90
                      induction k90 with
                      | zero =>
                        intro l8_90 y300_c90 H locs ls r_l8_90 iv90 ms90 hw hl
                        exact absurd ms90 (Nat.not_lt_zero _)
                      | succ k90 ih90 =>
                        intro l8_90 y300_c90 H locs ls r_l8_90 iv90 ms90 hw hl
                        obtain ⟨iv90, ik90_⟩ := iv90
                        refine j_iload E 92 rfl dX7_leastChanges_90 (lv_at hl 8 rfl) ?_
                        refine j_iload E 94 rfl dX7_leastChanges_92 (lv_at hl 7 rfl) ?_
                        refine j_icmp_gt E 97 116 rfl r_l8_90 (rr (by omega)) dX7_leastChanges_94 (by decide) (fun cc144_ => ?_) (fun cc144_ => ?_)
                        · refine j_iload E 118 rfl dX7_leastChanges_116 (lv_at hl 5 rfl) ?_
                          refine j_istore E 120 rfl [(8, .int (J l5_14)), (0, .ref o), (1, .ref a_w), (2, .ref a_r), (3, .ref (T 161 o)), (4, .ref (T 161 a_w)), (5, .int (J l5_14)), (6, .int (J l6_50)), (7, .int (J ((((T 1 (T 161 a_w) : Int)) - l6_50) - l5_14)))] dX7_leastChanges_118 hl (by decide) rfl (fun ls hl => ?_)
                          have L120_145 : ∀ (k120 : Nat) (l8_120 : Int) (y300_c120 : Nat → Int) (H : Heap) (locs : List Loc) (ls : Array Slot), inR l8_120 → (((l5_14 ≤ l8_120 ∧ l8_120 ≤ (T 1 (T 161 o) : Int) - l6_50) ∧ (∀ j_, 0 ≤ j_ → j_ < ((((T 1 (T 161 a_w) : Int)) - l6_50) - l5_14) + 1 → gC_ (y300_c120) a_r j_ = Ld_ (fun k_ => gC_ (v_0 300) (T 161 o) (k_ + l5_14)) (fun k_ => gC_ (v_0 300) (T 161 a_w) (k_ + l5_14)) (l8_120 - l5_14).toNat j_.toNat)) ∧ Ro_ (v_0 300) y300_c120 a_r) → ((T 1 (T 161 o) : Int) - l8_120).toNat < k120 → WK D cy T (upV v_0 300 y300_c120) A0 H0 H locs → lv_has ls 9 [(0, .ref o), (1, .ref a_w), (2, .ref a_r), (3, .ref (T 161 o)), (4, .ref (T 161 a_w)), (5, .int (J l5_14)), (6, .int (J l6_50)), (7, .int (J ((((T 1 (T 161 a_w) : Int)) - l6_50) - l5_14))), (8, .int (J l8_120))] → W p l e (rmd 3 0 0) s m ar below meth c H locs 0 0 QW (F0 m 120 ls []) := by
                            intro k120
                            induction k120 with
                            | zero =>
                              intro l8_120 y300_c120 H locs ls r_l8_120 iv120 ms120 hw hl
                              exact absurd ms120 (Nat.not_lt_zero _)
                            | succ k120 ih120 =>
                              intro l8_120 y300_c120 H locs ls r_l8_120 iv120 ms120 hw hl
                              obtain ⟨iv120, ik120_⟩ := iv120
                              refine j_iload E 122 rfl dX7_leastChanges_120 (lv_at hl 8 rfl) ?_
                              refine j_aload_n E 123 rfl dX7_leastChanges_122 rfl (lv_at hl 3 rfl) ?_
                              refine a_ln20 E hK hw (wt_161 hT t_o) 124 rfl dX7_leastChanges_123 (fun _ => ?_)
                              refine j_iload E 126 rfl dX7_leastChanges_124 (lv_at hl 6 rfl) ?_
                              refine j_isub E 127 rfl dX7_leastChanges_126 ?_
                              refine j_icmp_ge E 130 150 rfl r_l8_120 (rr (by omega)) dX7_leastChanges_127 (by decide) (fun cc147_ => ?_) (fun cc147_ => ?_)
                              · refine j_iload E 152 rfl dX7_leastChanges_150 (lv_at hl 7 rfl) ?_
                                refine j_if_lt E 155 169 rfl (rr (by omega)) dX7_leastChanges_152 (by decide) (fun cc148_ => ?_) (fun cc148_ => ?_)
                                · refine j_iconst E 170 rfl dX7_leastChanges_169 ?_
                                  exact hret 170 0 (upV v_0 300 y300_c120) _ _ ls hw (rr (by decide)) ⟨y300_c120, rfl, ⟨by first | exact (h5_.trans (iv120.2 _ (by omega) (by omega))).trans (lc_fin (by omega) (by omega) (by omega) iv14.2 iv50.2) | (exfalso; omega), ik120_⟩⟩ dX7_leastChanges_170
                                · refine j_iload E 157 rfl dX7_leastChanges_155 (lv_at hl 7 rfl) ?_
                                  refine j_aload_n E 158 rfl dX7_leastChanges_157 rfl (lv_at hl 2 rfl) ?_
                                  refine a_ln20 E hK hw t_r 159 rfl dX7_leastChanges_158 (fun rr149_ => ?_)
                                  refine j_icmp_ge E 162 169 rfl (rr (by omega)) rr149_ dX7_leastChanges_159 (by decide) (fun cc150_ => ?_) (fun cc150_ => ?_)
                                  · refine j_iconst E 170 rfl dX7_leastChanges_169 ?_
                                    exact hret 170 0 (upV v_0 300 y300_c120) _ _ ls hw (rr (by decide)) ⟨y300_c120, rfl, ⟨by first | exact (h5_.trans (iv120.2 _ (by omega) (by omega))).trans (lc_fin (by omega) (by omega) (by omega) iv14.2 iv50.2) | (exfalso; omega), ik120_⟩⟩ dX7_leastChanges_170
                                  · refine j_aload_n E 163 rfl dX7_leastChanges_162 rfl (lv_at hl 2 rfl) ?_
                                    refine j_iload E 165 rfl dX7_leastChanges_163 (lv_at hl 7 rfl) ?_
                                    refine a_ld20 E hK hw t_r (by omega) 166 rfl dX7_leastChanges_165 (fun zz151_ he151_ rr151_ => ?_)
                                    have he151_ : zz151_ = y300_c120 (pr a_r (Int.toNat ((((T 1 (T 161 a_w) : Int)) - l6_50) - l5_14))) := he151_
                                    have h5_ : zz151_ = gC_ (y300_c120) a_r ((((T 1 (T 161 a_w) : Int)) - l6_50) - l5_14) := he151_
                                    refine j_goto E 170 dX7_leastChanges_166 (by decide) ?_
                                    exact hret 170 zz151_ (upV v_0 300 y300_c120) _ _ ls hw rr151_ ⟨y300_c120, rfl, ⟨by first | exact (h5_.trans (iv120.2 _ (by omega) (by omega))).trans (lc_fin (by omega) (by omega) (by omega) iv14.2 iv50.2) | (exfalso; omega), ik120_⟩⟩ dX7_leastChanges_170
                              · refine j_aload_n E 131 rfl dX7_leastChanges_130 rfl (lv_at hl 3 rfl) ?_
                                refine j_iload E 133 rfl dX7_leastChanges_131 (lv_at hl 8 rfl) ?_
                                refine a_ld20 E hK hw (wt_161 hT t_o) (by omega) 134 rfl dX7_leastChanges_133 (fun zz152_ he152_ rr152_ => ?_)
                                have he152_ : zz152_ = y300_c120 (pr (T 161 o) (Int.toNat l8_120)) := he152_
                                have h3_ : zz152_ = gC_ (y300_c120) (T 161 o) l8_120 := he152_
                                refine j_aload E 136 rfl dX7_leastChanges_134 (lv_at hl 4 rfl) ?_
                                refine j_iload E 138 rfl dX7_leastChanges_136 (lv_at hl 5 rfl) ?_
                                refine j_aload_n E 139 rfl dX7_leastChanges_138 rfl (lv_at hl 2 rfl) ?_
                                refine j_iload E 141 rfl dX7_leastChanges_139 (lv_at hl 7 rfl) ?_
                                refine kS_v E (c3_X7_stepRow l D cy T (upV v_0 300 y300_c120) zz152_ (T 161 a_w) l5_14 a_r ((((T 1 (T 161 a_w) : Int)) - l6_50) - l5_14) ((fun k_ => gC_ (v_0 300) (T 161 o) (k_ + l5_14))) ((fun k_ => gC_ (v_0 300) (T 161 a_w) (k_ + l5_14))) (l8_120 - l5_14)  rr152_ (wt_161 hT t_w) r_l5_14 t_r (rr (by omega)) (show 0 ≤ l5_14 ∧ ((((T 1 (T 161 a_w) : Int)) - l6_50) - l5_14) + l5_14 ≤ (T 1 (T 161 a_w) : Int) from by omega) (show 0 ≤ ((((T 1 (T 161 a_w) : Int)) - l6_50) - l5_14) ∧ ((((T 1 (T 161 a_w) : Int)) - l6_50) - l5_14) < (T 1 a_r : Int) ∧ ((((T 1 (T 161 a_w) : Int)) - l6_50) - l5_14) ≤ 400 ∧ 0 ≤ ((l8_120 - l5_14)) ∧ ((l8_120 - l5_14)) ≤ 400 from by omega) (show (∀ j_, 0 ≤ j_ → j_ < ((((T 1 (T 161 a_w) : Int)) - l6_50) - l5_14) + 1 → gC_ (y300_c120) a_r j_ = Ld_ (((fun k_ => gC_ (v_0 300) (T 161 o) (k_ + l5_14)))) (((fun k_ => gC_ (v_0 300) (T 161 a_w) (k_ + l5_14)))) (((l8_120 - l5_14))).toNat j_.toNat) from iv120.2) (show zz152_ = (((fun k_ => gC_ (v_0 300) (T 161 o) (k_ + l5_14)))) ((l8_120 - l5_14)) from by rw [h3_, gC_ro ik120_ hp1.1]; congr 1; omega) (show ∀ j_, 0 ≤ j_ → j_ < ((((T 1 (T 161 a_w) : Int)) - l6_50) - l5_14) → gC_ (y300_c120) (T 161 a_w) (l5_14 + j_) = (((fun k_ => gC_ (v_0 300) (T 161 a_w) (k_ + l5_14)))) j_ from fun j_ _ _ => by rw [gC_ro ik120_ hp1.2]; congr 1; omega) (show (T 161 a_w) ≠ a_r from hp1.2)) ms_X7_stepRow ml_X7_41 hK hw hA ⟨Nat.le_of_ble_eq_true rfl, Nat.le_of_ble_eq_true rfl⟩ ⟨Nat.le_of_ble_eq_true rfl, Nat.le_of_ble_eq_true rfl⟩ (As := [.int (J zz152_), .ref (T 161 a_w), .int (J l5_14), .ref a_r, .int (J ((((T 1 (T 161 a_w) : Int)) - l6_50) - l5_14))]) (rest := []) rfl rfl hl.1 (Nat.le_of_ble_eq_true rfl) 144 rfl dX7_leastChanges_141 (fun v_153 H locs hq153_ hw => ?_)
                                obtain ⟨y300_153, ev153_, hh153_⟩ := hq153_
                                rw [ev153_] at hw; clear ev153_
                                have hw : WK D cy T (upV v_0 300 y300_153) A0 H0 H locs := cw_eq hw (by first | rfl | (funext j_; simp only [upV, reduceIte]; (repeat' split) <;> first | rfl | omega | (subst_vars; rfl)))
                                obtain ⟨hh153_, kf153_⟩ := hh153_
                                replace hh153_ : (∀ j_, 0 ≤ j_ → j_ < ((((T 1 (T 161 a_w) : Int)) - l6_50) - l5_14) + 1 → gC_ (y300_153) a_r j_ = Ld_ (((fun k_ => gC_ (v_0 300) (T 161 o) (k_ + l5_14)))) (((fun k_ => gC_ (v_0 300) (T 161 a_w) (k_ + l5_14)))) (((l8_120 - l5_14)) + 1).toNat j_.toNat) := hh153_
                                have st_ := hh153_
                                clear hh153_
                                refine j_iinc E 147 rfl [(8, .int (J (l8_120 + 1))), (0, .ref o), (1, .ref a_w), (2, .ref a_r), (3, .ref (T 161 o)), (4, .ref (T 161 a_w)), (5, .int (J l5_14)), (6, .int (J l6_50)), (7, .int (J ((((T 1 (T 161 a_w) : Int)) - l6_50) - l5_14)))] dX7_leastChanges_144 hl (kk := 8) rfl (by decide) rfl (fun ls hl => ?_)
                                refine j_goto E 120 dX7_leastChanges_147 (by decide) ?_
                                exact ih120 (l8_120 + 1) y300_153 H locs ls (rr (by omega)) (⟨⟨by omega, fun j_ h1_ h2_ => (st_ j_ h1_ h2_).trans (by congr 1; omega)⟩, (Ro_tr ik120_ kf153_)⟩) (by omega) hw (lv_sub hl [1, 2, 3, 4, 5, 6, 7, 8, 0] rfl)
                          exact L120_145 _ l5_14 y300_c90 H locs ls r_l5_14 (⟨⟨by omega, fun j_ h1_ h2_ => by rw [show l5_14 - l5_14 = 0 by omega, ← Ld_i0 h1_]; exact iv90.2 j_ h1_ (by omega)⟩, ik90_⟩) (Nat.lt_succ_self _) hw (lv_sub hl [1, 2, 3, 4, 5, 6, 7, 8, 0] rfl)
                        · refine j_iload E 99 rfl dX7_leastChanges_97 (lv_at hl 8 rfl) ?_
                          refine j_aload_n E 100 rfl dX7_leastChanges_99 rfl (lv_at hl 2 rfl) ?_
                          refine a_ln20 E hK hw t_r 101 rfl dX7_leastChanges_100 (fun rr154_ => ?_)
                          refine j_icmp_ge E 104 116 rfl r_l8_90 rr154_ dX7_leastChanges_101 (by decide) (fun cc155_ => ?_) (fun cc155_ => ?_)
                          · refine j_iload E 118 rfl dX7_leastChanges_116 (lv_at hl 5 rfl) ?_
                            refine j_istore E 120 rfl [(8, .int (J l5_14)), (0, .ref o), (1, .ref a_w), (2, .ref a_r), (3, .ref (T 161 o)), (4, .ref (T 161 a_w)), (5, .int (J l5_14)), (6, .int (J l6_50)), (7, .int (J ((((T 1 (T 161 a_w) : Int)) - l6_50) - l5_14)))] dX7_leastChanges_118 hl (by decide) rfl (fun ls hl => ?_)
                            have L120_156 : ∀ (k120 : Nat) (l8_120 : Int) (y300_c120 : Nat → Int) (H : Heap) (locs : List Loc) (ls : Array Slot), inR l8_120 → (((l5_14 ≤ l8_120 ∧ l8_120 ≤ (T 1 (T 161 o) : Int) - l6_50) ∧ (∀ j_, 0 ≤ j_ → j_ < ((((T 1 (T 161 a_w) : Int)) - l6_50) - l5_14) + 1 → gC_ (y300_c120) a_r j_ = Ld_ (fun k_ => gC_ (v_0 300) (T 161 o) (k_ + l5_14)) (fun k_ => gC_ (v_0 300) (T 161 a_w) (k_ + l5_14)) (l8_120 - l5_14).toNat j_.toNat)) ∧ Ro_ (v_0 300) y300_c120 a_r) → ((T 1 (T 161 o) : Int) - l8_120).toNat < k120 → WK D cy T (upV v_0 300 y300_c120) A0 H0 H locs → lv_has ls 9 [(0, .ref o), (1, .ref a_w), (2, .ref a_r), (3, .ref (T 161 o)), (4, .ref (T 161 a_w)), (5, .int (J l5_14)), (6, .int (J l6_50)), (7, .int (J ((((T 1 (T 161 a_w) : Int)) - l6_50) - l5_14))), (8, .int (J l8_120))] → W p l e (rmd 3 0 0) s m ar below meth c H locs 0 0 QW (F0 m 120 ls []) := by
                              intro k120
                              induction k120 with
                              | zero =>
                                intro l8_120 y300_c120 H locs ls r_l8_120 iv120 ms120 hw hl
                                exact absurd ms120 (Nat.not_lt_zero _)
                              | succ k120 ih120 =>
                                intro l8_120 y300_c120 H locs ls r_l8_120 iv120 ms120 hw hl
                                obtain ⟨iv120, ik120_⟩ := iv120
                                refine j_iload E 122 rfl dX7_leastChanges_120 (lv_at hl 8 rfl) ?_
                                refine j_aload_n E 123 rfl dX7_leastChanges_122 rfl (lv_at hl 3 rfl) ?_
                                refine a_ln20 E hK hw (wt_161 hT t_o) 124 rfl dX7_leastChanges_123 (fun _ => ?_)
                                refine j_iload E 126 rfl dX7_leastChanges_124 (lv_at hl 6 rfl) ?_
                                refine j_isub E 127 rfl dX7_leastChanges_126 ?_
                                refine j_icmp_ge E 130 150 rfl r_l8_120 (rr (by omega)) dX7_leastChanges_127 (by decide) (fun cc158_ => ?_) (fun cc158_ => ?_)
                                · refine j_iload E 152 rfl dX7_leastChanges_150 (lv_at hl 7 rfl) ?_
                                  refine j_if_lt E 155 169 rfl (rr (by omega)) dX7_leastChanges_152 (by decide) (fun cc159_ => ?_) (fun cc159_ => ?_)
                                  · refine j_iconst E 170 rfl dX7_leastChanges_169 ?_
                                    exact hret 170 0 (upV v_0 300 y300_c120) _ _ ls hw (rr (by decide)) ⟨y300_c120, rfl, ⟨by first | exact (h5_.trans (iv120.2 _ (by omega) (by omega))).trans (lc_fin (by omega) (by omega) (by omega) iv14.2 iv50.2) | (exfalso; omega), ik120_⟩⟩ dX7_leastChanges_170
                                  · refine j_iload E 157 rfl dX7_leastChanges_155 (lv_at hl 7 rfl) ?_
                                    refine j_aload_n E 158 rfl dX7_leastChanges_157 rfl (lv_at hl 2 rfl) ?_
                                    refine a_ln20 E hK hw t_r 159 rfl dX7_leastChanges_158 (fun _ => ?_)
                                    refine j_icmp_ge E 162 169 rfl (rr (by omega)) rr154_ dX7_leastChanges_159 (by decide) (fun cc160_ => ?_) (fun cc160_ => ?_)
                                    · refine j_iconst E 170 rfl dX7_leastChanges_169 ?_
                                      exact hret 170 0 (upV v_0 300 y300_c120) _ _ ls hw (rr (by decide)) ⟨y300_c120, rfl, ⟨by first | exact (h5_.trans (iv120.2 _ (by omega) (by omega))).trans (lc_fin (by omega) (by omega) (by omega) iv14.2 iv50.2) | (exfalso; omega), ik120_⟩⟩ dX7_leastChanges_170
                                    · refine j_aload_n E 163 rfl dX7_leastChanges_162 rfl (lv_at hl 2 rfl) ?_
                                      refine j_iload E 165 rfl dX7_leastChanges_163 (lv_at hl 7 rfl) ?_
                                      refine a_ld20 E hK hw t_r (by omega) 166 rfl dX7_leastChanges_165 (fun zz161_ he161_ rr161_ => ?_)
                                      have he161_ : zz161_ = y300_c120 (pr a_r (Int.toNat ((((T 1 (T 161 a_w) : Int)) - l6_50) - l5_14))) := he161_
                                      have h5_ : zz161_ = gC_ (y300_c120) a_r ((((T 1 (T 161 a_w) : Int)) - l6_50) - l5_14) := he161_
                                      refine j_goto E 170 dX7_leastChanges_166 (by decide) ?_
                                      exact hret 170 zz161_ (upV v_0 300 y300_c120) _ _ ls hw rr161_ ⟨y300_c120, rfl, ⟨by first | exact (h5_.trans (iv120.2 _ (by omega) (by omega))).trans (lc_fin (by omega) (by omega) (by omega) iv14.2 iv50.2) | (exfalso; omega), ik120_⟩⟩ dX7_leastChanges_170
                                · refine j_aload_n E 131 rfl dX7_leastChanges_130 rfl (lv_at hl 3 rfl) ?_
                                  refine j_iload E 133 rfl dX7_leastChanges_131 (lv_at hl 8 rfl) ?_
                                  refine a_ld20 E hK hw (wt_161 hT t_o) (by omega) 134 rfl dX7_leastChanges_133 (fun zz162_ he162_ rr162_ => ?_)
                                  have he162_ : zz162_ = y300_c120 (pr (T 161 o) (Int.toNat l8_120)) := he162_
                                  have h3_ : zz162_ = gC_ (y300_c120) (T 161 o) l8_120 := he162_
                                  refine j_aload E 136 rfl dX7_leastChanges_134 (lv_at hl 4 rfl) ?_
                                  refine j_iload E 138 rfl dX7_leastChanges_136 (lv_at hl 5 rfl) ?_
                                  refine j_aload_n E 139 rfl dX7_leastChanges_138 rfl (lv_at hl 2 rfl) ?_
                                  refine j_iload E 141 rfl dX7_leastChanges_139 (lv_at hl 7 rfl) ?_
                                  refine kS_v E (c3_X7_stepRow l D cy T (upV v_0 300 y300_c120) zz162_ (T 161 a_w) l5_14 a_r ((((T 1 (T 161 a_w) : Int)) - l6_50) - l5_14) ((fun k_ => gC_ (v_0 300) (T 161 o) (k_ + l5_14))) ((fun k_ => gC_ (v_0 300) (T 161 a_w) (k_ + l5_14))) (l8_120 - l5_14)  rr162_ (wt_161 hT t_w) r_l5_14 t_r (rr (by omega)) (show 0 ≤ l5_14 ∧ ((((T 1 (T 161 a_w) : Int)) - l6_50) - l5_14) + l5_14 ≤ (T 1 (T 161 a_w) : Int) from by omega) (show 0 ≤ ((((T 1 (T 161 a_w) : Int)) - l6_50) - l5_14) ∧ ((((T 1 (T 161 a_w) : Int)) - l6_50) - l5_14) < (T 1 a_r : Int) ∧ ((((T 1 (T 161 a_w) : Int)) - l6_50) - l5_14) ≤ 400 ∧ 0 ≤ ((l8_120 - l5_14)) ∧ ((l8_120 - l5_14)) ≤ 400 from by omega) (show (∀ j_, 0 ≤ j_ → j_ < ((((T 1 (T 161 a_w) : Int)) - l6_50) - l5_14) + 1 → gC_ (y300_c120) a_r j_ = Ld_ (((fun k_ => gC_ (v_0 300) (T 161 o) (k_ + l5_14)))) (((fun k_ => gC_ (v_0 300) (T 161 a_w) (k_ + l5_14)))) (((l8_120 - l5_14))).toNat j_.toNat) from iv120.2) (show zz162_ = (((fun k_ => gC_ (v_0 300) (T 161 o) (k_ + l5_14)))) ((l8_120 - l5_14)) from by rw [h3_, gC_ro ik120_ hp1.1]; congr 1; omega) (show ∀ j_, 0 ≤ j_ → j_ < ((((T 1 (T 161 a_w) : Int)) - l6_50) - l5_14) → gC_ (y300_c120) (T 161 a_w) (l5_14 + j_) = (((fun k_ => gC_ (v_0 300) (T 161 a_w) (k_ + l5_14)))) j_ from fun j_ _ _ => by rw [gC_ro ik120_ hp1.2]; congr 1; omega) (show (T 161 a_w) ≠ a_r from hp1.2)) ms_X7_stepRow ml_X7_41 hK hw hA ⟨Nat.le_of_ble_eq_true rfl, Nat.le_of_ble_eq_true rfl⟩ ⟨Nat.le_of_ble_eq_true rfl, Nat.le_of_ble_eq_true rfl⟩ (As := [.int (J zz162_), .ref (T 161 a_w), .int (J l5_14), .ref a_r, .int (J ((((T 1 (T 161 a_w) : Int)) - l6_50) - l5_14))]) (rest := []) rfl rfl hl.1 (Nat.le_of_ble_eq_true rfl) 144 rfl dX7_leastChanges_141 (fun v_163 H locs hq163_ hw => ?_)
                                  obtain ⟨y300_163, ev163_, hh163_⟩ := hq163_
                                  rw [ev163_] at hw; clear ev163_
                                  have hw : WK D cy T (upV v_0 300 y300_163) A0 H0 H locs := cw_eq hw (by first | rfl | (funext j_; simp only [upV, reduceIte]; (repeat' split) <;> first | rfl | omega | (subst_vars; rfl)))
                                  obtain ⟨hh163_, kf163_⟩ := hh163_
                                  replace hh163_ : (∀ j_, 0 ≤ j_ → j_ < ((((T 1 (T 161 a_w) : Int)) - l6_50) - l5_14) + 1 → gC_ (y300_163) a_r j_ = Ld_ (((fun k_ => gC_ (v_0 300) (T 161 o) (k_ + l5_14)))) (((fun k_ => gC_ (v_0 300) (T 161 a_w) (k_ + l5_14)))) (((l8_120 - l5_14)) + 1).toNat j_.toNat) := hh163_
                                  have st_ := hh163_
                                  clear hh163_
                                  refine j_iinc E 147 rfl [(8, .int (J (l8_120 + 1))), (0, .ref o), (1, .ref a_w), (2, .ref a_r), (3, .ref (T 161 o)), (4, .ref (T 161 a_w)), (5, .int (J l5_14)), (6, .int (J l6_50)), (7, .int (J ((((T 1 (T 161 a_w) : Int)) - l6_50) - l5_14)))] dX7_leastChanges_144 hl (kk := 8) rfl (by decide) rfl (fun ls hl => ?_)
                                  refine j_goto E 120 dX7_leastChanges_147 (by decide) ?_
                                  exact ih120 (l8_120 + 1) y300_163 H locs ls (rr (by omega)) (⟨⟨by omega, fun j_ h1_ h2_ => (st_ j_ h1_ h2_).trans (by congr 1; omega)⟩, (Ro_tr ik120_ kf163_)⟩) (by omega) hw (lv_sub hl [1, 2, 3, 4, 5, 6, 7, 8, 0] rfl)
                            exact L120_156 _ l5_14 y300_c90 H locs ls r_l5_14 (⟨⟨by omega, fun j_ h1_ h2_ => by rw [show l5_14 - l5_14 = 0 by omega, ← Ld_i0 h1_]; exact iv90.2 j_ h1_ (by omega)⟩, ik90_⟩) (Nat.lt_succ_self _) hw (lv_sub hl [1, 2, 3, 4, 5, 6, 7, 8, 0] rfl)
                          · refine j_aload_n E 105 rfl dX7_leastChanges_104 rfl (lv_at hl 2 rfl) ?_
                            refine j_iload E 107 rfl dX7_leastChanges_105 (lv_at hl 8 rfl) ?_
                            refine j_iload E 109 rfl dX7_leastChanges_107 (lv_at hl 8 rfl) ?_
                            refine a_st20 E hK hw t_r r_l8_90 (by omega) 110 rfl dX7_leastChanges_109 (fun H locs hw => ?_)
                            have hw : WK D cy T (upV v_0 300 (upB y300_c90 ((pr a_r (Int.toNat l8_90))) l8_90)) A0 H0 H locs := cw_eq hw (by first | rfl | (funext j_; simp only [upV, reduceIte]; (repeat' split) <;> first | rfl | omega | (subst_vars; rfl)))
                            refine j_iinc E 113 rfl [(8, .int (J (l8_90 + 1))), (0, .ref o), (1, .ref a_w), (2, .ref a_r), (3, .ref (T 161 o)), (4, .ref (T 161 a_w)), (5, .int (J l5_14)), (6, .int (J l6_50)), (7, .int (J ((((T 1 (T 161 a_w) : Int)) - l6_50) - l5_14)))] dX7_leastChanges_110 hl (kk := 8) rfl (by decide) rfl (fun ls hl => ?_)
                            refine j_goto E 90 dX7_leastChanges_113 (by decide) ?_
                            exact ih90 (l8_90 + 1) (upB y300_c90 ((pr a_r (Int.toNat l8_90))) l8_90) H locs ls (rr (by omega)) (⟨⟨by omega, rw_nx iv90.2 (by omega)⟩, (Ro_tr ik90_ Ro_up)⟩) (by omega) hw (lv_sub hl [1, 2, 3, 4, 5, 6, 7, 8, 0] rfl)
                    exact L90_142 _ 0 (v_0 300) H locs ls (rr (by decide)) (⟨⟨by omega, fun j_ h1_ h2_ => absurd h2_ (by omega)⟩, Ro_rf⟩) (Nat.lt_succ_self _) (cw_eq hw (by first | rfl | (funext j_; simp only [upV, reduceIte]; (repeat' split) <;> first | rfl | omega | (subst_vars; rfl)))) (lv_sub hl [2, 3, 4, 5, 6, 7, 8, 1, 0] rfl)
                  · have sq_ := sm_.elim id (fun q_ => absurd q_ (by omega))
                    refine j_iinc E 73 rfl [(6, .int (J (l6_50 + 1))), (0, .ref o), (1, .ref a_w), (2, .ref a_r), (3, .ref (T 161 o)), (4, .ref (T 161 a_w)), (5, .int (J l5_14))] dX7_leastChanges_70 hl (kk := 6) rfl (by decide) rfl (fun ls hl => ?_)
                    refine j_goto E 50 dX7_leastChanges_73 (by decide) ?_
                    exact ih50 (l6_50 + 1)  H locs ls (rr (by omega)) (⟨by omega, eq_nx (f := fun k_ => gC_ (v_0 300) (T 161 o) ((T 1 (T 161 o) : Int) - 1 - k_)) (g := fun k_ => gC_ (v_0 300) (T 161 a_w) ((T 1 (T 161 a_w) : Int) - 1 - k_)) iv50.2 sq_.2.2⟩) (by omega) hw (lv_sub hl [1, 2, 3, 4, 5, 6, 0] rfl)
            exact L50_114 _ 0  H locs ls (rr (by decide)) (⟨by omega, fun k_ h1_ h2_ => absurd h2_ (by omega)⟩) (Nat.lt_succ_self _) hw (lv_sub hl [1, 2, 3, 4, 5, 6, 0] rfl)
          · refine j_iinc E 44 rfl [(5, .int (J (l5_14 + 1))), (0, .ref o), (1, .ref a_w), (2, .ref a_r), (3, .ref (T 161 o)), (4, .ref (T 161 a_w))] dX7_leastChanges_41 hl (kk := 5) rfl (by decide) rfl (fun ls hl => ?_)
            refine j_goto E 14 dX7_leastChanges_44 (by decide) ?_
            exact ih14 (l5_14 + 1)  H locs ls (rr (by omega)) (⟨by omega, eq_nx iv14.2 (by omega)⟩) (by omega) hw (lv_sub hl [1, 2, 3, 4, 5, 0] rfl)
  exact L14_1 _ 0  H locs ls (rr (by decide)) (⟨by omega, fun k_ h1_ h2_ => absurd h2_ (by omega)⟩) (Nat.lt_succ_self _) hw (lv_sub hl [3, 4, 5, 2, 1, 0] rfl)
set_option maxHeartbeats 4000000 in
set_option maxRecDepth 100000 in
theorem c3_X9_distance (l : Launch) (D : va_G) (cy : Nat → ClassId) (T : Nat → Nat → Nat) (v_0 : Nat → Nat → Int) (o : Nat) (v_w : Int) (v_v : Int) (KK_ : Int → Int → Int) (VV_ : Int → Int → Int) (cg_ : Int → Int) (t_o : T 0 o = 9) (r_v_w : inR v_w) (r_v_v : inR v_v) (hp0 : Wt_ T (v_0 300) (v_0 160) o (v_0 202 (T 182 o)) KK_ VV_ cg_) : KC l D cy T yX9_distance cX9_distance 6 (some .int) 5 [.ref o, .int (J v_w), .int (J v_v)] v_0 (KI (fun (z_0 : Int) (v_2 : Nat → Nat → Int) => ∃ (y300_2 : Nat → Int) , v_2 = upV v_0 300 y300_2 ∧ (((((0 ≤ v_w ∧ v_w < (v_0 202 (T 182 o))) ∧ (0 ≤ v_v ∧ v_v < (v_0 202 (T 182 o)))) → z_0 = cD_ KK_ VV_ cg_ v_w v_v) ∧ Wt_ T (y300_2) (v_0 160) o (v_0 202 (T 182 o)) KK_ VV_ cg_) ∧ Kd_ T [163, 196] (v_0 300) y300_2))) := by
  refine KC.ofi (by decide) (Nat.le_of_ble_eq_true rfl) ?_
  intro p e s m below meth c ls ar QW A0 H0 H locs E hK hA hw hl hret
  have hl : lv_has ls 6 [(0, .ref o), (1, .int (J v_w)), (2, .int (J v_v))] := hl
  have hT : WT T := hw.1.2.1
  have w9_ := wl_196 hT t_o
  have hw0_ := hw.1
  refine j_aload_n E 1 rfl dX9_distance_0 rfl (lv_at hl 0 rfl) ?_
  refine j_iload_n E 2 rfl dX9_distance_1 rfl (lv_at hl 1 rfl) ?_
  refine j_iload_n E 3 rfl dX9_distance_2 rfl (lv_at hl 2 rfl) ?_
  refine j_max E hl.1 ml_X9_350 r_v_w r_v_v ⟨Nat.le_of_ble_eq_true rfl, Nat.le_of_ble_eq_true rfl⟩ ⟨Nat.le_of_ble_eq_true rfl, Nat.le_of_ble_eq_true rfl⟩ 6 rfl dX9_distance_3 (fun zz1_ rr1_ hh1_ => ?_)
  have mx_ := hh1_
  clear hh1_
  refine kV_r E (c_X9_wordingAt l D cy T (v_0) o zz1_  t_o rr1_ ) mt_X9_wordingAt ml_X9_302 hK hw (cw_rc9 hK hw.1 t_o) hA ⟨Nat.le_of_ble_eq_true rfl, Nat.le_of_ble_eq_true rfl⟩ ⟨Nat.le_of_ble_eq_true rfl, Nat.le_of_ble_eq_true rfl⟩ (As := [.int (J zz1_)]) (rest := []) rfl rfl hl.1 (Nat.le_of_ble_eq_true rfl) 9 rfl dX9_distance_6 (fun oo2_ v_2 H locs hq2_ hw => ?_)
  obtain ⟨ev2_, hh2_⟩ := hq2_
  rw [ev2_] at hw; clear ev2_
  obtain ⟨tt2_, hh2_⟩ := hh2_
  replace hh2_ : (oo2_ = none → (zz1_ < 0 ∨ ((v_0 202) (T 182 o)) ≤ zz1_)) ∧ (∀ y_, oo2_ = some y_ → 0 ≤ zz1_ ∧ zz1_ < ((v_0 202) (T 182 o)) ∧ T (1000 + (zz1_).toNat) (T 201 (T 182 o)) = y_ + 1) := hh2_
  cases oo2_ with
  | none =>
    first | have hnA_ := hh2_.1 rfl | have hsA_ := hh2_.2 _ rfl
    refine j_astore_nN E 10 rfl [(3, .null), (0, .ref o), (1, .int (J v_w)), (2, .int (J v_v))] dX9_distance_9 rfl hl (by decide) rfl (fun ls hl => ?_)
    refine j_aload_n E 11 rfl dX9_distance_10 rfl (lv_at hl 1 rfl) ?_
    refine j_iload_n E 12 rfl dX9_distance_11 rfl (lv_at hl 2 rfl) ?_
    refine j_iload_n E 13 rfl dX9_distance_12 rfl (lv_at hl 3 rfl) ?_
    refine j_min E hl.1 ml_X9_355 r_v_w r_v_v ⟨Nat.le_of_ble_eq_true rfl, Nat.le_of_ble_eq_true rfl⟩ ⟨Nat.le_of_ble_eq_true rfl, Nat.le_of_ble_eq_true rfl⟩ 16 rfl dX9_distance_13 (fun zz3_ rr3_ hh3_ => ?_)
    have mn_ := hh3_
    clear hh3_
    refine kV_r E (c_X9_wordingAt l D cy T (v_0) o zz3_  t_o rr3_ ) mt_X9_wordingAt ml_X9_302 hK hw (cw_rc9 hK hw.1 t_o) hA ⟨Nat.le_of_ble_eq_true rfl, Nat.le_of_ble_eq_true rfl⟩ ⟨Nat.le_of_ble_eq_true rfl, Nat.le_of_ble_eq_true rfl⟩ (As := [.int (J zz3_)]) (rest := []) rfl rfl hl.1 (Nat.le_of_ble_eq_true rfl) 19 rfl dX9_distance_16 (fun oo4_ v_4 H locs hq4_ hw => ?_)
    obtain ⟨ev4_, hh4_⟩ := hq4_
    rw [ev4_] at hw; clear ev4_
    obtain ⟨tt4_, hh4_⟩ := hh4_
    replace hh4_ : (oo4_ = none → (zz3_ < 0 ∨ ((v_0 202) (T 182 o)) ≤ zz3_)) ∧ (∀ y_, oo4_ = some y_ → 0 ≤ zz3_ ∧ zz3_ < ((v_0 202) (T 182 o)) ∧ T (1000 + (zz3_).toNat) (T 201 (T 182 o)) = y_ + 1) := hh4_
    cases oo4_ with
    | none =>
      first | have hnB_ := hh4_.1 rfl | have hsB_ := hh4_.2 _ rfl
      refine j_astoreN E 21 rfl [(4, .null), (3, .null), (0, .ref o), (1, .int (J v_w)), (2, .int (J v_v))] dX9_distance_19 hl (by decide) rfl (fun ls hl => ?_)
      refine j_aload_nN E 22 rfl dX9_distance_21 rfl (lv_at hl 1 rfl) ?_
      refine j_ifnullN E 35 dX9_distance_22 (by decide) ?_
      refine j_iconst E 36 rfl dX9_distance_35 ?_
      exact hret 36 0 (upV v_0 300 (v_0 300)) _ _ ls (cw_eq hw (by first | rfl | (funext j_; simp only [upV, reduceIte]; (repeat' split) <;> first | rfl | omega | (subst_vars; rfl)))) (rr (by decide)) ⟨(v_0 300), rfl, ⟨⟨fun q_ => by first | (exfalso; omega) | (rw [show v_w = v_v by omega]; exact (Ld_rf _).symm), hp0⟩, Kd_rf⟩⟩ dX9_distance_36
    | some xx4_ =>
      have te4_ := tt4_ xx4_ rfl
      have tr_ := te4_
      first | have hnB_ := hh4_.1 rfl | have hsB_ := hh4_.2 _ rfl
      refine j_astore E 21 rfl [(4, .ref xx4_), (3, .null), (0, .ref o), (1, .int (J v_w)), (2, .int (J v_v))] dX9_distance_19 hl (by decide) rfl (fun ls hl => ?_)
      refine j_aload_nN E 22 rfl dX9_distance_21 rfl (lv_at hl 1 rfl) ?_
      refine j_ifnullN E 35 dX9_distance_22 (by decide) ?_
      refine j_iconst E 36 rfl dX9_distance_35 ?_
      exact hret 36 0 (upV v_0 300 (v_0 300)) _ _ ls (cw_eq hw (by first | rfl | (funext j_; simp only [upV, reduceIte]; (repeat' split) <;> first | rfl | omega | (subst_vars; rfl)))) (rr (by decide)) ⟨(v_0 300), rfl, ⟨⟨fun q_ => by first | (exfalso; omega) | (rw [show v_w = v_v by omega]; exact (Ld_rf _).symm), hp0⟩, Kd_rf⟩⟩ dX9_distance_36
  | some xx2_ =>
    have te2_ := tt2_ xx2_ rfl
    have tr_ := te2_
    first | have hnA_ := hh2_.1 rfl | have hsA_ := hh2_.2 _ rfl
    refine j_astore_n E 10 rfl [(3, .ref xx2_), (0, .ref o), (1, .int (J v_w)), (2, .int (J v_v))] dX9_distance_9 rfl hl (by decide) rfl (fun ls hl => ?_)
    refine j_aload_n E 11 rfl dX9_distance_10 rfl (lv_at hl 1 rfl) ?_
    refine j_iload_n E 12 rfl dX9_distance_11 rfl (lv_at hl 2 rfl) ?_
    refine j_iload_n E 13 rfl dX9_distance_12 rfl (lv_at hl 3 rfl) ?_
    refine j_min E hl.1 ml_X9_355 r_v_w r_v_v ⟨Nat.le_of_ble_eq_true rfl, Nat.le_of_ble_eq_true rfl⟩ ⟨Nat.le_of_ble_eq_true rfl, Nat.le_of_ble_eq_true rfl⟩ 16 rfl dX9_distance_13 (fun zz5_ rr5_ hh5_ => ?_)
    have mn_ := hh5_
    clear hh5_
    refine kV_r E (c_X9_wordingAt l D cy T (v_0) o zz5_  t_o rr5_ ) mt_X9_wordingAt ml_X9_302 hK hw (cw_rc9 hK hw.1 t_o) hA ⟨Nat.le_of_ble_eq_true rfl, Nat.le_of_ble_eq_true rfl⟩ ⟨Nat.le_of_ble_eq_true rfl, Nat.le_of_ble_eq_true rfl⟩ (As := [.int (J zz5_)]) (rest := []) rfl rfl hl.1 (Nat.le_of_ble_eq_true rfl) 19 rfl dX9_distance_16 (fun oo6_ v_6 H locs hq6_ hw => ?_)
    obtain ⟨ev6_, hh6_⟩ := hq6_
    rw [ev6_] at hw; clear ev6_
    obtain ⟨tt6_, hh6_⟩ := hh6_
    replace hh6_ : (oo6_ = none → (zz5_ < 0 ∨ ((v_0 202) (T 182 o)) ≤ zz5_)) ∧ (∀ y_, oo6_ = some y_ → 0 ≤ zz5_ ∧ zz5_ < ((v_0 202) (T 182 o)) ∧ T (1000 + (zz5_).toNat) (T 201 (T 182 o)) = y_ + 1) := hh6_
    cases oo6_ with
    | none =>
      first | have hnB_ := hh6_.1 rfl | have hsB_ := hh6_.2 _ rfl
      refine j_astoreN E 21 rfl [(4, .null), (3, .ref xx2_), (0, .ref o), (1, .int (J v_w)), (2, .int (J v_v))] dX9_distance_19 hl (by decide) rfl (fun ls hl => ?_)
      refine j_aload_n E 22 rfl dX9_distance_21 rfl (lv_at hl 1 rfl) ?_
      refine j_ifnullR E 25 rfl dX9_distance_22 ?_
      refine j_aloadN E 27 rfl dX9_distance_25 (lv_at hl 0 rfl) ?_
      refine j_ifnullN E 35 dX9_distance_27 (by decide) ?_
      refine j_iconst E 36 rfl dX9_distance_35 ?_
      exact hret 36 0 (upV v_0 300 (v_0 300)) _ _ ls (cw_eq hw (by first | rfl | (funext j_; simp only [upV, reduceIte]; (repeat' split) <;> first | rfl | omega | (subst_vars; rfl)))) (rr (by decide)) ⟨(v_0 300), rfl, ⟨⟨fun q_ => by first | (exfalso; omega) | (rw [show v_w = v_v by omega]; exact (Ld_rf _).symm), hp0⟩, Kd_rf⟩⟩ dX9_distance_36
    | some xx6_ =>
      have te6_ := tt6_ xx6_ rfl
      have tr_ := te6_
      first | have hnB_ := hh6_.1 rfl | have hsB_ := hh6_.2 _ rfl
      refine j_astore E 21 rfl [(4, .ref xx6_), (3, .ref xx2_), (0, .ref o), (1, .int (J v_w)), (2, .int (J v_v))] dX9_distance_19 hl (by decide) rfl (fun ls hl => ?_)
      refine j_aload_n E 22 rfl dX9_distance_21 rfl (lv_at hl 1 rfl) ?_
      refine j_ifnullR E 25 rfl dX9_distance_22 ?_
      refine j_aload E 27 rfl dX9_distance_25 (lv_at hl 0 rfl) ?_
      refine j_ifnullR E 30 rfl dX9_distance_27 ?_
      refine j_iload_n E 31 rfl dX9_distance_30 rfl (lv_at hl 3 rfl) ?_
      refine j_iload_n E 32 rfl dX9_distance_31 rfl (lv_at hl 4 rfl) ?_
      refine j_icmp_ne E 35 37 rfl r_v_w r_v_v dX9_distance_32 (by decide) (fun cc7_ => ?_) (fun cc7_ => ?_)
      · have gA_ := hp0 _ hsA_.1 hsA_.2.1 _ hsA_.2.2
        have gB_ := hp0 _ hsB_.1 hsB_.2.1 _ hsB_.2.2
        have tA_ := wl_ty hw.1 (wt_182 hT t_o) (we_182 hT t_o) hsA_.2.2 hsA_.1 hsA_.2.1
        have tB_ := wl_ty hw.1 (wt_182 hT t_o) (we_182 hT t_o) hsB_.2.2 hsB_.1 hsB_.2.1
        have nA_ := gA_.1
        have nB_ := gB_.1
        have lA_ := gA_.2.2.2.1
        refine j_aload_n E 38 rfl dX9_distance_37 rfl (lv_at hl 1 rfl) ?_
        refine j_aload E 40 rfl dX9_distance_38 (lv_at hl 0 rfl) ?_
        refine g_160 E hK hw fl_X9_358 te6_ (v_0 160 xx6_) rfl 43 rfl dX9_distance_40 (fun rr8_ => ?_)
        refine kV_i E (c3_X7_distanceTo l D cy T (v_0) xx2_ (v_0 160 xx6_)  te2_ rr8_ ) mt_X7_distanceTo ml_X9_361 hK hw (cw_rc8 hK hw.1 te2_) hA ⟨Nat.le_of_ble_eq_true rfl, Nat.le_of_ble_eq_true rfl⟩ ⟨Nat.le_of_ble_eq_true rfl, Nat.le_of_ble_eq_true rfl⟩ (As := [.int (J (v_0 160 xx6_))]) (rest := []) rfl rfl hl.1 (Nat.le_of_ble_eq_true rfl) 46 rfl dX9_distance_43 (fun zz9_ v_9 H locs rr9_ hq9_ hw => ?_)
        obtain ⟨ev9_, hh9_⟩ := hq9_
        rw [ev9_] at hw; clear ev9_
        replace hh9_ : ((0 ≤ (v_0 160 xx6_) ∧ (v_0 160 xx6_) < ((T 1 (T 163 xx2_) : Nat) : Int)) ∧ zz9_ = gC_ (v_0 300) (T 163 xx2_) (v_0 160 xx6_)) ∨ (¬ (0 ≤ (v_0 160 xx6_) ∧ (v_0 160 xx6_) < ((T 1 (T 163 xx2_) : Nat) : Int)) ∧ zz9_ = -1) := hh9_
        have dt_ := hh9_
        clear hh9_
        refine j_istore E 48 rfl [(5, .int (J zz9_)), (4, .ref xx6_), (3, .ref xx2_), (0, .ref o), (1, .int (J v_w)), (2, .int (J v_v))] dX9_distance_46 hl (by decide) rfl (fun ls hl => ?_)
        refine j_iload E 50 rfl dX9_distance_48 (lv_at hl 0 rfl) ?_
        refine j_iconst E 51 rfl dX9_distance_50 ?_
        refine j_icmp_ne E 54 77 rfl rr9_ (rr (by decide)) dX9_distance_51 (by decide) (fun cc10_ => ?_) (fun cc10_ => ?_)
        · refine j_iload E 79 rfl dX9_distance_77 (lv_at hl 0 rfl) ?_
          exact hret 79 zz9_ (upV v_0 300 (v_0 300)) _ _ ls (cw_eq hw (by first | rfl | (funext j_; simp only [upV, reduceIte]; (repeat' split) <;> first | rfl | omega | (subst_vars; rfl)))) rr9_ ⟨(v_0 300), rfl, ⟨by first | exact ⟨fun _ => cd_mm mx_ mn_ (by have e_ := dt_.elim (fun r_ => r_.2) (fun r_ => absurd r_.2 (by omega)); rw [nB_] at e_; exact e_.trans ((gA_.2.2.2.2 _ (by omega) (by omega)).resolve_left (fun q_ => by omega))), hp0⟩ | exact ⟨fun _ => cd_mm mx_ mn_ dz_, by rw [(kp_.elim id (fun r_ => absurd (by omega) r_.1)).2, nB_]; exact wt_kp hw0_ t_o hp0 (by assumption) tA_ nA_ (by omega) dz_⟩, Kd_rf⟩⟩ dX9_distance_79
        · refine j_aload_n E 55 rfl dX9_distance_54 rfl (lv_at hl 2 rfl) ?_
          refine j_aload E 57 rfl dX9_distance_55 (lv_at hl 1 rfl) ?_
          refine j_aload_n E 58 rfl dX9_distance_57 rfl (lv_at hl 3 rfl) ?_
          refine g_196 E hK hw fl_X9_73 t_o 61 rfl dX9_distance_58 ?_
          have ln11_ := wl_196 hT t_o
          refine kV_i E (c3_X7_leastChanges l D cy T (v_0) xx2_ xx6_ (T 196 o)  te2_ te6_ (wt_196 hT t_o) (show ((T 1 (T 161 xx6_) : Nat) : Int) < ((T 1 (T 196 o) : Nat) : Int) ∧ ((T 1 (T 161 xx2_) : Nat) : Int) ≤ 400 ∧ ((T 1 (T 161 xx6_) : Nat) : Int) ≤ 400 from by have q1_ := gA_.2.1; have q2_ := gB_.2.1; omega) (show T 161 xx2_ ≠ (T 196 o) ∧ T 161 xx6_ ≠ (T 196 o) from ⟨ro_ne (wo_161 hT tA_) (wo_196 hT t_o) (by decide) (by decide) (by omega), ro_ne (wo_161 hT tB_) (wo_196 hT t_o) (by decide) (by decide) (by omega)⟩)) mt_X7_leastChanges ml_X9_364 hK hw (cw_rc8 hK hw.1 te2_) hA ⟨Nat.le_of_ble_eq_true rfl, Nat.le_of_ble_eq_true rfl⟩ ⟨Nat.le_of_ble_eq_true rfl, Nat.le_of_ble_eq_true rfl⟩ (As := [.ref xx6_, .ref (T 196 o)]) (rest := []) rfl rfl hl.1 (Nat.le_of_ble_eq_true rfl) 64 rfl dX9_distance_61 (fun zz12_ v_12 H locs rr12_ hq12_ hw => ?_)
          obtain ⟨y300_12, ev12_, hh12_⟩ := hq12_
          rw [ev12_] at hw; clear ev12_
          have hw : WK D cy T (upV v_0 300 y300_12) A0 H0 H locs := cw_eq hw (by first | rfl | (funext j_; simp only [upV, reduceIte]; (repeat' split) <;> first | rfl | omega | (subst_vars; rfl)))
          obtain ⟨hh12_, kf12_⟩ := hh12_
          replace hh12_ : zz12_ = Ld_ (gC_ (v_0 300) (T 161 xx2_)) (gC_ (v_0 300) (T 161 xx6_)) (T 1 (T 161 xx2_)) (T 1 (T 161 xx6_)) := hh12_
          have dz_ := wt_ld gA_ gB_ hh12_
          refine j_istore E 66 rfl [(5, .int (J zz12_)), (4, .ref xx6_), (3, .ref xx2_), (0, .ref o), (1, .int (J v_w)), (2, .int (J v_v))] dX9_distance_64 hl (by decide) rfl (fun ls hl => ?_)
          refine j_aload_n E 67 rfl dX9_distance_66 rfl (lv_at hl 2 rfl) ?_
          refine j_aload E 69 rfl dX9_distance_67 (lv_at hl 1 rfl) ?_
          refine g_160 E hK hw fl_X9_358 te6_ (v_0 160 xx6_) rfl 72 rfl dX9_distance_69 (fun _ => ?_)
          refine j_iload E 74 rfl dX9_distance_72 (lv_at hl 0 rfl) ?_
          refine kV_v E (c3_X7_keepDistance l D cy T (upV v_0 300 y300_12) xx2_ (v_0 160 xx6_) zz12_  te2_ rr8_ rr12_ ) mt_X7_keepDistance ml_X9_368 hK hw (cw_rc8 hK hw.1 te2_) hA ⟨Nat.le_of_ble_eq_true rfl, Nat.le_of_ble_eq_true rfl⟩ ⟨Nat.le_of_ble_eq_true rfl, Nat.le_of_ble_eq_true rfl⟩ (As := [.int (J (v_0 160 xx6_)), .int (J zz12_)]) (rest := []) rfl rfl hl.1 (Nat.le_of_ble_eq_true rfl) 77 rfl dX9_distance_74 (fun v_13 H locs hq13_ hw => ?_)
          obtain ⟨y300_13, ev13_, hh13_⟩ := hq13_
          rw [ev13_] at hw; clear ev13_
          have hw : WK D cy T (upV v_0 300 y300_13) A0 H0 H locs := cw_eq hw (by first | rfl | (funext j_; simp only [upV, reduceIte]; (repeat' split) <;> first | rfl | omega | (subst_vars; rfl)))
          obtain ⟨hh13_, kf13_⟩ := hh13_
          replace hh13_ : ((0 ≤ (v_0 160 xx6_) ∧ (v_0 160 xx6_) < ((T 1 (T 163 xx2_) : Nat) : Int)) ∧ (y300_13) = upB (y300_12) (pr (T 163 xx2_) (Int.toNat (v_0 160 xx6_))) zz12_) ∨ (¬ (0 ≤ (v_0 160 xx6_) ∧ (v_0 160 xx6_) < ((T 1 (T 163 xx2_) : Nat) : Int)) ∧ (y300_13) = (y300_12)) := hh13_
          have kp_ := hh13_
          clear hh13_
          refine j_iload E 79 rfl dX9_distance_77 (lv_at hl 0 rfl) ?_
          exact hret 79 zz12_ (upV v_0 300 y300_13) _ _ ls hw rr12_ ⟨y300_13, rfl, ⟨by first | exact ⟨fun _ => cd_mm mx_ mn_ (by have e_ := dt_.elim (fun r_ => r_.2) (fun r_ => absurd r_.2 (by omega)); rw [nB_] at e_; exact e_.trans ((gA_.2.2.2.2 _ (by omega) (by omega)).resolve_left (fun q_ => by omega))), hp0⟩ | exact ⟨fun _ => cd_mm mx_ mn_ dz_, by rw [(kp_.elim id (fun r_ => absurd (by omega) r_.1)).2, nB_]; exact wt_kp hw0_ t_o hp0 (by assumption) tA_ nA_ (by omega) dz_⟩, (Kd_tr (Kd_tr Kd_rf (Kd_ro kf12_ (wok (wo_196 hT t_o) (by decide)) (by decide))) (Kd_mono kf13_ (by decide)))⟩⟩ dX9_distance_79
      · refine j_iconst E 36 rfl dX9_distance_35 ?_
        exact hret 36 0 (upV v_0 300 (v_0 300)) _ _ ls (cw_eq hw (by first | rfl | (funext j_; simp only [upV, reduceIte]; (repeat' split) <;> first | rfl | omega | (subst_vars; rfl)))) (rr (by decide)) ⟨(v_0 300), rfl, ⟨⟨fun q_ => by first | (exfalso; omega) | (rw [show v_w = v_v by omega]; exact (Ld_rf _).symm), hp0⟩, Kd_rf⟩⟩ dX9_distance_36
set_option maxHeartbeats 4000000 in
set_option maxRecDepth 100000 in
theorem c3_X9_far (l : Launch) (D : va_G) (cy : Nat → ClassId) (T : Nat → Nat → Nat) (v_0 : Nat → Nat → Int) (o : Nat) (v_w : Int) (v_v : Int) (KK_ : Int → Int → Int) (VV_ : Int → Int → Int) (cg_ : Int → Int) (t_o : T 0 o = 9) (r_v_w : inR v_w) (r_v_v : inR v_v) (hp0 : Wt_ T (v_0 300) (v_0 160) o (v_0 202 (T 182 o)) KK_ VV_ cg_) : KC l D cy T yX9_far cX9_far 3 (some .int) 6 [.ref o, .int (J v_w), .int (J v_v)] v_0 (KI (fun (z_0 : Int) (v_2 : Nat → Nat → Int) => ∃ (y300_2 : Nat → Int) , v_2 = upV v_0 300 y300_2 ∧ ((((((0 ≤ v_w ∧ v_w < (v_0 202 (T 182 o))) ∧ (0 ≤ v_v ∧ v_v < (v_0 202 (T 182 o)))) ∧ z_0 = cD_ KK_ VV_ cg_ v_w v_v) ∨ (¬ ((0 ≤ v_w ∧ v_w < (v_0 202 (T 182 o))) ∧ (0 ≤ v_v ∧ v_v < (v_0 202 (T 182 o)))) ∧ z_0 = -1)) ∧ Wt_ T (y300_2) (v_0 160) o (v_0 202 (T 182 o)) KK_ VV_ cg_) ∧ Kd_ T [163, 196] (v_0 300) y300_2))) := by
  refine KC.ofi (by decide) (Nat.le_of_ble_eq_true rfl) ?_
  intro p e s m below meth c ls ar QW A0 H0 H locs E hK hA hw hl hret
  have hl : lv_has ls 3 [(0, .ref o), (1, .int (J v_w)), (2, .int (J v_v))] := hl
  have hT : WT T := hw.1.2.1
  refine j_aload_n E 1 rfl dX9_far_0 rfl (lv_at hl 0 rfl) ?_
  refine j_iload_n E 2 rfl dX9_far_1 rfl (lv_at hl 1 rfl) ?_
  refine kV_i E (c_X9_isWording l D cy T (v_0) o v_w  t_o r_v_w ) mt_X9_isWording ml_X9_164 hK hw (cw_rc9 hK hw.1 t_o) hA ⟨Nat.le_of_ble_eq_true rfl, Nat.le_of_ble_eq_true rfl⟩ ⟨Nat.le_of_ble_eq_true rfl, Nat.le_of_ble_eq_true rfl⟩ (As := [.int (J v_w)]) (rest := []) rfl rfl hl.1 (Nat.le_of_ble_eq_true rfl) 5 rfl dX9_far_2 (fun zz1_ v_1 H locs rr1_ hq1_ hw => ?_)
  obtain ⟨ev1_, hh1_⟩ := hq1_
  rw [ev1_] at hw; clear ev1_
  replace hh1_ : (zz1_ = 1 ∧ 0 ≤ v_w ∧ v_w < ((v_0 202) (T 182 o))) ∨ (zz1_ = 0 ∧ (v_w < 0 ∨ ((v_0 202) (T 182 o)) ≤ v_w)) := hh1_
  refine j_if_eq E 8 25 rfl rr1_ dX9_far_5 (by decide) (fun cc2_ => ?_) (fun cc2_ => ?_)
  · refine j_iconst E 26 rfl dX9_far_25 ?_
    exact hret 26 ((-1)) (upV v_0 300 (v_0 300)) _ _ ls (cw_eq hw (by first | rfl | (funext j_; simp only [upV, reduceIte]; (repeat' split) <;> first | rfl | omega | (subst_vars; rfl)))) (rr (by decide)) ⟨(v_0 300), rfl, ⟨by first | exact ⟨Or.inl ⟨by omega, hf_.1 (by omega)⟩, hf_.2⟩ | exact ⟨Or.inr ⟨by omega, rfl⟩, hp0⟩, Kd_rf⟩⟩ dX9_far_26
  · refine j_aload_n E 9 rfl dX9_far_8 rfl (lv_at hl 0 rfl) ?_
    refine j_iload_n E 10 rfl dX9_far_9 rfl (lv_at hl 2 rfl) ?_
    refine kV_i E (c_X9_isWording l D cy T (v_0) o v_v  t_o r_v_v ) mt_X9_isWording ml_X9_164 hK hw (cw_rc9 hK hw.1 t_o) hA ⟨Nat.le_of_ble_eq_true rfl, Nat.le_of_ble_eq_true rfl⟩ ⟨Nat.le_of_ble_eq_true rfl, Nat.le_of_ble_eq_true rfl⟩ (As := [.int (J v_v)]) (rest := []) rfl rfl hl.1 (Nat.le_of_ble_eq_true rfl) 13 rfl dX9_far_10 (fun zz3_ v_3 H locs rr3_ hq3_ hw => ?_)
    obtain ⟨ev3_, hh3_⟩ := hq3_
    rw [ev3_] at hw; clear ev3_
    replace hh3_ : (zz3_ = 1 ∧ 0 ≤ v_v ∧ v_v < ((v_0 202) (T 182 o))) ∨ (zz3_ = 0 ∧ (v_v < 0 ∨ ((v_0 202) (T 182 o)) ≤ v_v)) := hh3_
    refine j_if_eq E 16 25 rfl rr3_ dX9_far_13 (by decide) (fun cc4_ => ?_) (fun cc4_ => ?_)
    · refine j_iconst E 26 rfl dX9_far_25 ?_
      exact hret 26 ((-1)) (upV v_0 300 (v_0 300)) _ _ ls (cw_eq hw (by first | rfl | (funext j_; simp only [upV, reduceIte]; (repeat' split) <;> first | rfl | omega | (subst_vars; rfl)))) (rr (by decide)) ⟨(v_0 300), rfl, ⟨by first | exact ⟨Or.inl ⟨by omega, hf_.1 (by omega)⟩, hf_.2⟩ | exact ⟨Or.inr ⟨by omega, rfl⟩, hp0⟩, Kd_rf⟩⟩ dX9_far_26
    · refine j_aload_n E 17 rfl dX9_far_16 rfl (lv_at hl 0 rfl) ?_
      refine j_iload_n E 18 rfl dX9_far_17 rfl (lv_at hl 1 rfl) ?_
      refine j_iload_n E 19 rfl dX9_far_18 rfl (lv_at hl 2 rfl) ?_
      refine kV_i E (c3_X9_distance l D cy T (v_0) o v_w v_v KK_ VV_ cg_ t_o r_v_w r_v_v (show Wt_ T (v_0 300) (v_0 160) o ((v_0 202) (T 182 o)) KK_ VV_ cg_ from by omega)) mt_X9_distance ml_X9_338 hK hw (cw_rc9 hK hw.1 t_o) hA ⟨Nat.le_of_ble_eq_true rfl, Nat.le_of_ble_eq_true rfl⟩ ⟨Nat.le_of_ble_eq_true rfl, Nat.le_of_ble_eq_true rfl⟩ (As := [.int (J v_w), .int (J v_v)]) (rest := []) rfl rfl hl.1 (Nat.le_of_ble_eq_true rfl) 22 rfl dX9_far_19 (fun zz5_ v_5 H locs rr5_ hq5_ hw => ?_)
      obtain ⟨y300_5, ev5_, hh5_⟩ := hq5_
      rw [ev5_] at hw; clear ev5_
      have hw : WK D cy T (upV v_0 300 y300_5) A0 H0 H locs := cw_eq hw (by first | rfl | (funext j_; simp only [upV, reduceIte]; (repeat' split) <;> first | rfl | omega | (subst_vars; rfl)))
      obtain ⟨hh5_, kf5_⟩ := hh5_
      replace hh5_ : (((0 ≤ v_w ∧ v_w < ((v_0 202) (T 182 o))) ∧ (0 ≤ v_v ∧ v_v < ((v_0 202) (T 182 o)))) → zz5_ = cD_ KK_ VV_ cg_ v_w v_v) ∧ Wt_ T (y300_5) (v_0 160) o ((v_0 202) (T 182 o)) KK_ VV_ cg_ := hh5_
      have hf_ := hh5_
      clear hh5_
      refine j_goto E 26 dX9_far_22 (by decide) ?_
      exact hret 26 zz5_ (upV v_0 300 y300_5) _ _ ls hw rr5_ ⟨y300_5, rfl, ⟨by first | exact ⟨Or.inl ⟨by omega, hf_.1 (by omega)⟩, hf_.2⟩ | exact ⟨Or.inr ⟨by omega, rfl⟩, hp0⟩, (Kd_tr Kd_rf (Kd_mono kf5_ (by decide)))⟩⟩ dX9_far_26
set_option maxHeartbeats 4000000 in
set_option maxRecDepth 100000 in
theorem c3_X9_nearestBranch (l : Launch) (D : va_G) (cy : Nat → ClassId) (T : Nat → Nat → Nat) (v_0 : Nat → Nat → Int) (o : Nat) (v_u : Int) (v_g : Int) (KK_ : Int → Int → Int) (VV_ : Int → Int → Int) (cg_ : Int → Int) (t_o : T 0 o = 9) (r_v_u : inR v_u) (r_v_g : inR v_g) (hp0 : Wt_ T (v_0 300) (v_0 160) o (v_0 202 (T 182 o)) KK_ VV_ cg_) : KC l D cy T yX9_nearestBranch cX9_nearestBranch 7 (some .int) 6 [.ref o, .int (J v_u), .int (J v_g)] v_0 (KI (fun (z_0 : Int) (v_2 : Nat → Nat → Int) => ∃ (y300_2 : Nat → Int) , v_2 = upV v_0 300 y300_2 ∧ ((Wt_ T (y300_2) (v_0 160) o (v_0 202 (T 182 o)) KK_ VV_ cg_) ∧ Kd_ T [163, 196] (v_0 300) y300_2))) := by
  refine KC.ofi (by decide) (Nat.le_of_ble_eq_true rfl) ?_
  intro p e s m below meth c ls ar QW A0 H0 H locs E hK hA hw hl hret
  have hl : lv_has ls 7 [(0, .ref o), (1, .int (J v_u)), (2, .int (J v_g))] := hl
  have hT : WT T := hw.1.2.1
  refine j_sipush E 3 rfl dX9_nearestBranch_0 (by decide) ?_
  refine j_istore_n E 4 rfl [(3, .int (J 401)), (0, .ref o), (1, .int (J v_u)), (2, .int (J v_g))] dX9_nearestBranch_3 rfl hl (by decide) rfl (fun ls hl => ?_)
  refine j_iconst E 5 rfl dX9_nearestBranch_4 ?_
  refine j_istore E 7 rfl [(4, .int (J 0)), (3, .int (J 401)), (0, .ref o), (1, .int (J v_u)), (2, .int (J v_g))] dX9_nearestBranch_5 hl (by decide) rfl (fun ls hl => ?_)
  refine j_iconst E 8 rfl dX9_nearestBranch_7 ?_
  refine j_istore E 10 rfl [(5, .int (J 0)), (4, .int (J 0)), (3, .int (J 401)), (0, .ref o), (1, .int (J v_u)), (2, .int (J v_g))] dX9_nearestBranch_8 hl (by decide) rfl (fun ls hl => ?_)
  have L10_1 : ∀ (k10 : Nat) (l3_10 l4_10 l5_10 : Int) (y300_c10 : Nat → Int) (H : Heap) (locs : List Loc) (ls : Array Slot), inR l3_10 → inR l4_10 → inR l5_10 → (((0 ≤ l5_10) ∧ Wt_ T (y300_c10) (v_0 160) o (v_0 202 (T 182 o)) KK_ VV_ cg_) ∧ Kd_ T [163, 196] (v_0 300) y300_c10) → ((v_0 202 (T 182 o)) - l5_10).toNat < k10 → WK D cy T (upV v_0 300 y300_c10) A0 H0 H locs → lv_has ls 7 [(0, .ref o), (1, .int (J v_u)), (2, .int (J v_g)), (3, .int (J l3_10)), (4, .int (J l4_10)), (5, .int (J l5_10))] → W p l e (rmd 6 0 0) s m ar below meth c H locs 0 0 QW (F0 m 10 ls []) := by
    intro k10
    induction k10 with
    | zero =>
      intro l3_10 l4_10 l5_10 y300_c10 H locs ls r_l3_10 r_l4_10 r_l5_10 iv10 ms10 hw hl
      exact absurd ms10 (Nat.not_lt_zero _)
    | succ k10 ih10 =>
      intro l3_10 l4_10 l5_10 y300_c10 H locs ls r_l3_10 r_l4_10 r_l5_10 iv10 ms10 hw hl
      obtain ⟨iv10, ik10_⟩ := iv10
      refine j_iload E 12 rfl dX9_nearestBranch_10 (lv_at hl 5 rfl) ?_
      refine j_aload_n E 13 rfl dX9_nearestBranch_12 rfl (lv_at hl 0 rfl) ?_
      refine g_182 E hK hw fl_X9_19 t_o 16 rfl dX9_nearestBranch_13 ?_
      refine kV_i E (c_Jx4a65c_size_8abf5 l D cy T (upV v_0 300 y300_c10) (T 182 o)  (wt_182 hT t_o)  ) mt_Jx4a65c_size_8abf5 ml_X9_80 hK hw (cw_rc10 hK hw.1 (wt_182 hT t_o)) hA ⟨Nat.le_of_ble_eq_true rfl, Nat.le_of_ble_eq_true rfl⟩ ⟨Nat.le_of_ble_eq_true rfl, Nat.le_of_ble_eq_true rfl⟩ (As := []) (rest := [.int (J l5_10)]) rfl rfl hl.1 (Nat.le_of_ble_eq_true rfl) 19 rfl dX9_nearestBranch_16 (fun zz3_ v_3 H locs rr3_ hq3_ hw => ?_)
      obtain ⟨ev3_, hh3_⟩ := hq3_
      rw [ev3_] at hw; clear ev3_
      replace hh3_ : zz3_ = ((v_0 202) ((T 182 o))) ∧ 0 ≤ zz3_ := hh3_
      refine j_icmp_ge E 22 98 rfl r_l5_10 rr3_ dX9_nearestBranch_19 (by decide) (fun cc4_ => ?_) (fun cc4_ => ?_)
      · refine j_iload E 100 rfl dX9_nearestBranch_98 (lv_at hl 4 rfl) ?_
        exact hret 100 l4_10 (upV v_0 300 y300_c10) _ _ ls hw r_l4_10 ⟨y300_c10, rfl, ⟨iv10.2, ik10_⟩⟩ dX9_nearestBranch_100
      · refine j_iconst E 23 rfl dX9_nearestBranch_22 ?_
        refine j_istore E 25 rfl [(6, .int (J 0)), (0, .ref o), (1, .int (J v_u)), (2, .int (J v_g)), (3, .int (J l3_10)), (4, .int (J l4_10)), (5, .int (J l5_10))] dX9_nearestBranch_23 hl (by decide) rfl (fun ls hl => ?_)
        have L25_5 : ∀ (k25 : Nat) (l3_25 l4_25 l6_25 : Int) (y300_c25 : Nat → Int) (H : Heap) (locs : List Loc) (ls : Array Slot), inR l3_25 → inR l4_25 → inR l6_25 → (((0 ≤ l6_25) ∧ Wt_ T (y300_c25) (v_0 160) o (v_0 202 (T 182 o)) KK_ VV_ cg_) ∧ Kd_ T [163, 196] (v_0 300) y300_c25) → ((v_0 202 (T 182 o)) - l6_25).toNat < k25 → WK D cy T (upV v_0 300 y300_c25) A0 H0 H locs → lv_has ls 7 [(0, .ref o), (1, .int (J v_u)), (2, .int (J v_g)), (3, .int (J l3_25)), (4, .int (J l4_25)), (5, .int (J l5_10)), (6, .int (J l6_25))] → W p l e (rmd 6 0 0) s m ar below meth c H locs 0 0 QW (F0 m 25 ls []) := by
          intro k25
          induction k25 with
          | zero =>
            intro l3_25 l4_25 l6_25 y300_c25 H locs ls r_l3_25 r_l4_25 r_l6_25 iv25 ms25 hw hl
            exact absurd ms25 (Nat.not_lt_zero _)
          | succ k25 ih25 =>
            intro l3_25 l4_25 l6_25 y300_c25 H locs ls r_l3_25 r_l4_25 r_l6_25 iv25 ms25 hw hl
            obtain ⟨iv25, ik25_⟩ := iv25
            refine j_iload E 27 rfl dX9_nearestBranch_25 (lv_at hl 6 rfl) ?_
            refine j_aload_n E 28 rfl dX9_nearestBranch_27 rfl (lv_at hl 0 rfl) ?_
            refine g_182 E hK hw fl_X9_19 t_o 31 rfl dX9_nearestBranch_28 ?_
            refine kV_i E (c_Jx4a65c_size_8abf5 l D cy T (upV v_0 300 y300_c25) (T 182 o)  (wt_182 hT t_o)  ) mt_Jx4a65c_size_8abf5 ml_X9_80 hK hw (cw_rc10 hK hw.1 (wt_182 hT t_o)) hA ⟨Nat.le_of_ble_eq_true rfl, Nat.le_of_ble_eq_true rfl⟩ ⟨Nat.le_of_ble_eq_true rfl, Nat.le_of_ble_eq_true rfl⟩ (As := []) (rest := [.int (J l6_25)]) rfl rfl hl.1 (Nat.le_of_ble_eq_true rfl) 34 rfl dX9_nearestBranch_31 (fun zz7_ v_7 H locs rr7_ hq7_ hw => ?_)
            obtain ⟨ev7_, hh7_⟩ := hq7_
            rw [ev7_] at hw; clear ev7_
            replace hh7_ : zz7_ = ((v_0 202) ((T 182 o))) ∧ 0 ≤ zz7_ := hh7_
            refine j_icmp_ge E 37 92 rfl r_l6_25 rr7_ dX9_nearestBranch_34 (by decide) (fun cc8_ => ?_) (fun cc8_ => ?_)
            · refine j_iinc E 95 rfl [(5, .int (J (l5_10 + 1))), (0, .ref o), (1, .int (J v_u)), (2, .int (J v_g)), (3, .int (J l3_25)), (4, .int (J l4_25)), (6, .int (J l6_25))] dX9_nearestBranch_92 hl (kk := 5) rfl (by decide) rfl (fun ls hl => ?_)
              refine j_goto E 10 dX9_nearestBranch_95 (by decide) ?_
              exact ih10 l3_25 l4_25 (l5_10 + 1) y300_c25 H locs ls r_l3_25 r_l4_25 (rr (by omega)) (⟨⟨by omega, iv25.2⟩, ik25_⟩) (by omega) hw (lv_sub hl [1, 2, 3, 4, 5, 0] rfl)
            · refine j_iload_n E 38 rfl dX9_nearestBranch_37 rfl (lv_at hl 1 rfl) ?_
              refine j_iload E 40 rfl dX9_nearestBranch_38 (lv_at hl 5 rfl) ?_
              refine j_iushr E 41 rfl dX9_nearestBranch_40 (fun zz9_ rr9_ ee9_ => ?_)
              refine j_iconst E 42 rfl dX9_nearestBranch_41 ?_
              refine j_iand E 43 rfl dX9_nearestBranch_42 (fun zz10_ rr10_ ee10_ => ?_)
              refine j_if_eq E 46 86 rfl rr10_ dX9_nearestBranch_43 (by decide) (fun cc11_ => ?_) (fun cc11_ => ?_)
              · refine j_iinc E 89 rfl [(6, .int (J (l6_25 + 1))), (0, .ref o), (1, .int (J v_u)), (2, .int (J v_g)), (3, .int (J l3_25)), (4, .int (J l4_25)), (5, .int (J l5_10))] dX9_nearestBranch_86 hl (kk := 6) rfl (by decide) rfl (fun ls hl => ?_)
                refine j_goto E 25 dX9_nearestBranch_89 (by decide) ?_
                exact ih25 l3_25 l4_25 (l6_25 + 1) y300_c25 H locs ls r_l3_25 r_l4_25 (rr (by omega)) (⟨⟨by omega, by first | exact w2_ | exact w1_ | exact iv25.2⟩, ik25_⟩) (by omega) hw (lv_sub hl [1, 2, 3, 4, 5, 6, 0] rfl)
              · refine j_iload_n E 47 rfl dX9_nearestBranch_46 rfl (lv_at hl 2 rfl) ?_
                refine j_iload E 49 rfl dX9_nearestBranch_47 (lv_at hl 6 rfl) ?_
                refine j_iushr E 50 rfl dX9_nearestBranch_49 (fun zz12_ rr12_ ee12_ => ?_)
                refine j_iconst E 51 rfl dX9_nearestBranch_50 ?_
                refine j_iand E 52 rfl dX9_nearestBranch_51 (fun zz13_ rr13_ ee13_ => ?_)
                refine j_if_eq E 55 86 rfl rr13_ dX9_nearestBranch_52 (by decide) (fun cc14_ => ?_) (fun cc14_ => ?_)
                · refine j_iinc E 89 rfl [(6, .int (J (l6_25 + 1))), (0, .ref o), (1, .int (J v_u)), (2, .int (J v_g)), (3, .int (J l3_25)), (4, .int (J l4_25)), (5, .int (J l5_10))] dX9_nearestBranch_86 hl (kk := 6) rfl (by decide) rfl (fun ls hl => ?_)
                  refine j_goto E 25 dX9_nearestBranch_89 (by decide) ?_
                  exact ih25 l3_25 l4_25 (l6_25 + 1) y300_c25 H locs ls r_l3_25 r_l4_25 (rr (by omega)) (⟨⟨by omega, by first | exact w2_ | exact w1_ | exact iv25.2⟩, ik25_⟩) (by omega) hw (lv_sub hl [1, 2, 3, 4, 5, 6, 0] rfl)
                · refine j_aload_n E 56 rfl dX9_nearestBranch_55 rfl (lv_at hl 0 rfl) ?_
                  refine j_iload E 58 rfl dX9_nearestBranch_56 (lv_at hl 5 rfl) ?_
                  refine j_iload E 60 rfl dX9_nearestBranch_58 (lv_at hl 6 rfl) ?_
                  refine kV_i E (c3_X9_distance l D cy T (upV v_0 300 y300_c25) o l5_10 l6_25 KK_ VV_ cg_ t_o r_l5_10 r_l6_25 (show Wt_ T (y300_c25) (v_0 160) o ((v_0 202) (T 182 o)) KK_ VV_ cg_ from iv25.2)) mt_X9_distance ml_X9_338 hK hw (cw_rc9 hK hw.1 t_o) hA ⟨Nat.le_of_ble_eq_true rfl, Nat.le_of_ble_eq_true rfl⟩ ⟨Nat.le_of_ble_eq_true rfl, Nat.le_of_ble_eq_true rfl⟩ (As := [.int (J l5_10), .int (J l6_25)]) (rest := []) rfl rfl hl.1 (Nat.le_of_ble_eq_true rfl) 63 rfl dX9_nearestBranch_60 (fun zz15_ v_15 H locs rr15_ hq15_ hw => ?_)
                  obtain ⟨y300_15, ev15_, hh15_⟩ := hq15_
                  rw [ev15_] at hw; clear ev15_
                  have hw : WK D cy T (upV v_0 300 y300_15) A0 H0 H locs := cw_eq hw (by first | rfl | (funext j_; simp only [upV, reduceIte]; (repeat' split) <;> first | rfl | omega | (subst_vars; rfl)))
                  obtain ⟨hh15_, kf15_⟩ := hh15_
                  replace hh15_ : (((0 ≤ l5_10 ∧ l5_10 < ((v_0 202) (T 182 o))) ∧ (0 ≤ l6_25 ∧ l6_25 < ((v_0 202) (T 182 o)))) → zz15_ = cD_ KK_ VV_ cg_ l5_10 l6_25) ∧ Wt_ T (y300_15) (v_0 160) o ((v_0 202) (T 182 o)) KK_ VV_ cg_ := hh15_
                  have w1_ := hh15_.2
                  refine j_iload_n E 64 rfl dX9_nearestBranch_63 rfl (lv_at hl 3 rfl) ?_
                  refine j_icmp_ge E 67 86 rfl rr15_ r_l3_25 dX9_nearestBranch_64 (by decide) (fun cc16_ => ?_) (fun cc16_ => ?_)
                  · refine j_iinc E 89 rfl [(6, .int (J (l6_25 + 1))), (0, .ref o), (1, .int (J v_u)), (2, .int (J v_g)), (3, .int (J l3_25)), (4, .int (J l4_25)), (5, .int (J l5_10))] dX9_nearestBranch_86 hl (kk := 6) rfl (by decide) rfl (fun ls hl => ?_)
                    refine j_goto E 25 dX9_nearestBranch_89 (by decide) ?_
                    exact ih25 l3_25 l4_25 (l6_25 + 1) y300_15 H locs ls r_l3_25 r_l4_25 (rr (by omega)) (⟨⟨by omega, by first | exact w2_ | exact w1_ | exact iv25.2⟩, (Kd_tr ik25_ (Kd_mono kf15_ (by decide)))⟩) (by omega) hw (lv_sub hl [1, 2, 3, 4, 5, 6, 0] rfl)
                  · refine j_aload_n E 68 rfl dX9_nearestBranch_67 rfl (lv_at hl 0 rfl) ?_
                    refine j_iload E 70 rfl dX9_nearestBranch_68 (lv_at hl 5 rfl) ?_
                    refine j_iload E 72 rfl dX9_nearestBranch_70 (lv_at hl 6 rfl) ?_
                    refine kV_i E (c3_X9_distance l D cy T (upV v_0 300 y300_15) o l5_10 l6_25 KK_ VV_ cg_ t_o r_l5_10 r_l6_25 (show Wt_ T (y300_15) (v_0 160) o ((v_0 202) (T 182 o)) KK_ VV_ cg_ from w1_)) mt_X9_distance ml_X9_338 hK hw (cw_rc9 hK hw.1 t_o) hA ⟨Nat.le_of_ble_eq_true rfl, Nat.le_of_ble_eq_true rfl⟩ ⟨Nat.le_of_ble_eq_true rfl, Nat.le_of_ble_eq_true rfl⟩ (As := [.int (J l5_10), .int (J l6_25)]) (rest := []) rfl rfl hl.1 (Nat.le_of_ble_eq_true rfl) 75 rfl dX9_nearestBranch_72 (fun zz17_ v_17 H locs rr17_ hq17_ hw => ?_)
                    obtain ⟨y300_17, ev17_, hh17_⟩ := hq17_
                    rw [ev17_] at hw; clear ev17_
                    have hw : WK D cy T (upV v_0 300 y300_17) A0 H0 H locs := cw_eq hw (by first | rfl | (funext j_; simp only [upV, reduceIte]; (repeat' split) <;> first | rfl | omega | (subst_vars; rfl)))
                    obtain ⟨hh17_, kf17_⟩ := hh17_
                    replace hh17_ : (((0 ≤ l5_10 ∧ l5_10 < ((v_0 202) (T 182 o))) ∧ (0 ≤ l6_25 ∧ l6_25 < ((v_0 202) (T 182 o)))) → zz17_ = cD_ KK_ VV_ cg_ l5_10 l6_25) ∧ Wt_ T (y300_17) (v_0 160) o ((v_0 202) (T 182 o)) KK_ VV_ cg_ := hh17_
                    have w2_ := hh17_.2
                    refine j_istore_n E 76 rfl [(3, .int (J zz17_)), (0, .ref o), (1, .int (J v_u)), (2, .int (J v_g)), (4, .int (J l4_25)), (5, .int (J l5_10)), (6, .int (J l6_25))] dX9_nearestBranch_75 rfl hl (by decide) rfl (fun ls hl => ?_)
                    refine j_iload E 78 rfl dX9_nearestBranch_76 (lv_at hl 5 rfl) ?_
                    refine j_bipush E 80 rfl dX9_nearestBranch_78 (by decide) ?_
                    refine j_imul E 81 rfl dX9_nearestBranch_80 ?_
                    refine j_norm (fun zz18_ rr18_ ee18_ => ?_)
                    refine j_iload E 83 rfl dX9_nearestBranch_81 (lv_at hl 6 rfl) ?_
                    refine j_iadd E 84 rfl dX9_nearestBranch_83 ?_
                    refine j_norm (fun zz19_ rr19_ ee19_ => ?_)
                    refine j_istore E 86 rfl [(4, .int (J zz19_)), (3, .int (J zz17_)), (0, .ref o), (1, .int (J v_u)), (2, .int (J v_g)), (5, .int (J l5_10)), (6, .int (J l6_25))] dX9_nearestBranch_84 hl (by decide) rfl (fun ls hl => ?_)
                    refine j_iinc E 89 rfl [(6, .int (J (l6_25 + 1))), (4, .int (J zz19_)), (3, .int (J zz17_)), (0, .ref o), (1, .int (J v_u)), (2, .int (J v_g)), (5, .int (J l5_10))] dX9_nearestBranch_86 hl (kk := 6) rfl (by decide) rfl (fun ls hl => ?_)
                    refine j_goto E 25 dX9_nearestBranch_89 (by decide) ?_
                    exact ih25 zz17_ zz19_ (l6_25 + 1) y300_17 H locs ls rr17_ rr19_ (rr (by omega)) (⟨⟨by omega, by first | exact w2_ | exact w1_ | exact iv25.2⟩, (Kd_tr (Kd_tr ik25_ (Kd_mono kf15_ (by decide))) (Kd_mono kf17_ (by decide)))⟩) (by omega) hw (lv_sub hl [3, 4, 5, 2, 1, 6, 0] rfl)
        exact L25_5 _ l3_10 l4_10 0 y300_c10 H locs ls r_l3_10 r_l4_10 (rr (by decide)) (⟨⟨by omega, iv10.2⟩, ik10_⟩) (Nat.lt_succ_self _) hw (lv_sub hl [1, 2, 3, 4, 5, 6, 0] rfl)
  exact L10_1 _ 401 0 0 (v_0 300) H locs ls (rr (by decide)) (rr (by decide)) (rr (by decide)) (⟨⟨by omega, hp0⟩, Kd_rf⟩) (Nat.lt_succ_self _) (cw_eq hw (by first | rfl | (funext j_; simp only [upV, reduceIte]; (repeat' split) <;> first | rfl | omega | (subst_vars; rfl)))) (lv_sub hl [3, 4, 5, 2, 1, 0] rfl)
set_option maxHeartbeats 4000000 in
set_option maxRecDepth 100000 in
theorem c3_X9_tree (l : Launch) (D : va_G) (cy : Nat → ClassId) (T : Nat → Nat → Nat) (v_0 : Nat → Nat → Int) (o : Nat) (v_s : Int) (v_w : Int) (KK_ : Int → Int → Int) (VV_ : Int → Int → Int) (cg_ : Int → Int) (t_o : T 0 o = 9) (r_v_s : inR v_s) (r_v_w : inR v_w) (hp0 : Wt_ T (v_0 300) (v_0 160) o (v_0 202 (T 182 o)) KK_ VV_ cg_) : KC l D cy T yX9_tree cX9_tree 11 (some .int) 7 [.ref o, .int (J v_s), .int (J v_w)] v_0 (KI (fun (z_0 : Int) (v_2 : Nat → Nat → Int) => ∃ (y300_2 : Nat → Int) , v_2 = upV v_0 300 y300_2 ∧ ((Wt_ T (y300_2) (v_0 160) o (v_0 202 (T 182 o)) KK_ VV_ cg_) ∧ Kd_ T [163, 196] (v_0 300) y300_2))) := by
  refine KC.ofi (by decide) (Nat.le_of_ble_eq_true rfl) ?_
  intro p e s m below meth c ls ar QW A0 H0 H locs E hK hA hw hl hret
  have hl : lv_has ls 11 [(0, .ref o), (1, .int (J v_s)), (2, .int (J v_w))] := hl
  have hT : WT T := hw.1.2.1
  refine j_iload_n E 1 rfl dX9_tree_0 rfl (lv_at hl 1 rfl) ?_
  refine kS_i E (c_J6_bitCount_0f7a4 l D cy T (v_0) v_s   r_v_s ) ms_J6_bitCount_0f7a4 ml_X9_218 hK hw hA ⟨Nat.le_of_ble_eq_true rfl, Nat.le_of_ble_eq_true rfl⟩ ⟨Nat.le_of_ble_eq_true rfl, Nat.le_of_ble_eq_true rfl⟩ (As := [.int (J v_s)]) (rest := []) rfl rfl hl.1 (Nat.le_of_ble_eq_true rfl) 4 rfl dX9_tree_1 (fun zz1_ v_1 H locs rr1_ hq1_ hw => ?_)
  obtain ⟨ev1_, hh1_⟩ := hq1_
  rw [ev1_] at hw; clear ev1_
  refine j_istore_n E 5 rfl [(3, .int (J zz1_)), (0, .ref o), (1, .int (J v_s)), (2, .int (J v_w))] dX9_tree_4 rfl hl (by decide) rfl (fun ls hl => ?_)
  have L36_2 : ∀ (s0_36 : Int) (H : Heap) (locs : List Loc) (ls : Array Slot), inR s0_36 → (True) → WK D cy T (v_0) A0 H0 H locs → lv_has ls 11 [(0, .ref o), (1, .int (J v_s)), (2, .int (J v_w)), (3, .int (J zz1_))] → W p l e (rmd 7 0 0) s m ar below meth c H locs 0 0 QW (F0 m 36 ls [.int (J s0_36)]) := by
    intro s0_36 H locs ls r_s0_36 iv36 hw hl
    refine j_istore E 38 rfl [(4, .int (J s0_36)), (0, .ref o), (1, .int (J v_s)), (2, .int (J v_w)), (3, .int (J zz1_))] dX9_tree_36 hl (by decide) rfl (fun ls hl => ?_)
    refine j_aload_n E 39 rfl dX9_tree_38 rfl (lv_at hl 1 rfl) ?_
    refine j_iload_n E 40 rfl dX9_tree_39 rfl (lv_at hl 2 rfl) ?_
    refine kV_i E (c_X9_areWordings l D cy T (v_0) o v_s  t_o r_v_s ) mt_X9_areWordings ml_X9_341 hK hw (cw_rc9 hK hw.1 t_o) hA ⟨Nat.le_of_ble_eq_true rfl, Nat.le_of_ble_eq_true rfl⟩ ⟨Nat.le_of_ble_eq_true rfl, Nat.le_of_ble_eq_true rfl⟩ (As := [.int (J v_s)]) (rest := []) rfl rfl hl.1 (Nat.le_of_ble_eq_true rfl) 43 rfl dX9_tree_40 (fun zz4_ v_4 H locs rr4_ hq4_ hw => ?_)
    obtain ⟨ev4_, hh4_⟩ := hq4_
    rw [ev4_] at hw; clear ev4_
    refine j_if_eq E 46 66 rfl rr4_ dX9_tree_43 (by decide) (fun cc5_ => ?_) (fun cc5_ => ?_)
    · refine j_iconst E 67 rfl dX9_tree_66 ?_
      exact hret 67 ((-1)) (upV v_0 300 (v_0 300)) _ _ ls (cw_eq hw (by first | rfl | (funext j_; simp only [upV, reduceIte]; (repeat' split) <;> first | rfl | omega | (subst_vars; rfl)))) (rr (by decide)) ⟨(v_0 300), rfl, ⟨by first | exact hp0 | exact w3_ | exact iv80, Kd_rf⟩⟩ dX9_tree_67
    · refine j_iload_n E 47 rfl dX9_tree_46 rfl (lv_at hl 4 rfl) ?_
      refine j_iconst E 48 rfl dX9_tree_47 ?_
      refine j_icmp_lt E 51 66 rfl rr1_ (rr (by decide)) dX9_tree_48 (by decide) (fun cc6_ => ?_) (fun cc6_ => ?_)
      · refine j_iconst E 67 rfl dX9_tree_66 ?_
        exact hret 67 ((-1)) (upV v_0 300 (v_0 300)) _ _ ls (cw_eq hw (by first | rfl | (funext j_; simp only [upV, reduceIte]; (repeat' split) <;> first | rfl | omega | (subst_vars; rfl)))) (rr (by decide)) ⟨(v_0 300), rfl, ⟨by first | exact hp0 | exact w3_ | exact iv80, Kd_rf⟩⟩ dX9_tree_67
      · refine j_iload_n E 52 rfl dX9_tree_51 rfl (lv_at hl 4 rfl) ?_
        refine j_bipush E 54 rfl dX9_tree_52 (by decide) ?_
        refine j_icmp_gt E 57 66 rfl rr1_ (rr (by decide)) dX9_tree_54 (by decide) (fun cc7_ => ?_) (fun cc7_ => ?_)
        · refine j_iconst E 67 rfl dX9_tree_66 ?_
          exact hret 67 ((-1)) (upV v_0 300 (v_0 300)) _ _ ls (cw_eq hw (by first | rfl | (funext j_; simp only [upV, reduceIte]; (repeat' split) <;> first | rfl | omega | (subst_vars; rfl)))) (rr (by decide)) ⟨(v_0 300), rfl, ⟨by first | exact hp0 | exact w3_ | exact iv80, Kd_rf⟩⟩ dX9_tree_67
        · refine j_iload_n E 58 rfl dX9_tree_57 rfl (lv_at hl 3 rfl) ?_
          refine j_if_eq E 61 68 rfl r_v_w dX9_tree_58 (by decide) (fun cc8_ => ?_) (fun cc8_ => ?_)
          · refine j_iload_n E 69 rfl dX9_tree_68 rfl (lv_at hl 2 rfl) ?_
            refine kS_i E (c_J6_lowestOneBit_0f7a4 l D cy T (v_0) v_s   r_v_s ) ms_J6_lowestOneBit_0f7a4 ml_X9_344 hK hw hA ⟨Nat.le_of_ble_eq_true rfl, Nat.le_of_ble_eq_true rfl⟩ ⟨Nat.le_of_ble_eq_true rfl, Nat.le_of_ble_eq_true rfl⟩ (As := [.int (J v_s)]) (rest := []) rfl rfl hl.1 (Nat.le_of_ble_eq_true rfl) 72 rfl dX9_tree_69 (fun zz9_ v_9 H locs rr9_ hq9_ hw => ?_)
            obtain ⟨ev9_, hh9_⟩ := hq9_
            rw [ev9_] at hw; clear ev9_
            refine j_istore E 74 rfl [(5, .int (J zz9_)), (4, .int (J s0_36)), (0, .ref o), (1, .int (J v_s)), (2, .int (J v_w)), (3, .int (J zz1_))] dX9_tree_72 hl (by decide) rfl (fun ls hl => ?_)
            refine j_iconst E 75 rfl dX9_tree_74 ?_
            refine j_istore E 77 rfl [(6, .int (J 0)), (5, .int (J zz9_)), (4, .int (J s0_36)), (0, .ref o), (1, .int (J v_s)), (2, .int (J v_w)), (3, .int (J zz1_))] dX9_tree_75 hl (by decide) rfl (fun ls hl => ?_)
            refine j_iconst E 78 rfl dX9_tree_77 ?_
            refine j_istore E 80 rfl [(7, .int (J 1)), (6, .int (J 0)), (5, .int (J zz9_)), (4, .int (J s0_36)), (0, .ref o), (1, .int (J v_s)), (2, .int (J v_w)), (3, .int (J zz1_))] dX9_tree_78 hl (by decide) rfl (fun ls hl => ?_)
            have L80_10 : ∀ (k80 : Nat) (l5_80 l6_80 l7_80 : Int) (y300_c80 : Nat → Int) (H : Heap) (locs : List Loc) (ls : Array Slot), inR l5_80 → inR l6_80 → inR l7_80 → ((Wt_ T (y300_c80) (v_0 160) o (v_0 202 (T 182 o)) KK_ VV_ cg_) ∧ Kd_ T [163, 196] (v_0 300) y300_c80) → (zz1_ - l7_80).toNat < k80 → WK D cy T (upV v_0 300 y300_c80) A0 H0 H locs → lv_has ls 11 [(0, .ref o), (1, .int (J v_s)), (2, .int (J v_w)), (3, .int (J zz1_)), (4, .int (J s0_36)), (5, .int (J l5_80)), (6, .int (J l6_80)), (7, .int (J l7_80))] → W p l e (rmd 7 0 0) s m ar below meth c H locs 0 0 QW (F0 m 80 ls []) := by
              intro k80
              induction k80 with
              | zero =>
                intro l5_80 l6_80 l7_80 y300_c80 H locs ls r_l5_80 r_l6_80 r_l7_80 iv80 ms80 hw hl
                exact absurd ms80 (Nat.not_lt_zero _)
              | succ k80 ih80 =>
                intro l5_80 l6_80 l7_80 y300_c80 H locs ls r_l5_80 r_l6_80 r_l7_80 iv80 ms80 hw hl
                obtain ⟨iv80, ik80_⟩ := iv80
                refine j_iload E 82 rfl dX9_tree_80 (lv_at hl 7 rfl) ?_
                refine j_iload_n E 83 rfl dX9_tree_82 rfl (lv_at hl 3 rfl) ?_
                refine j_icmp_ge E 86 154 rfl r_l7_80 rr1_ dX9_tree_83 (by decide) (fun cc12_ => ?_) (fun cc12_ => ?_)
                · refine j_iload_n E 155 rfl dX9_tree_154 rfl (lv_at hl 2 rfl) ?_
                  refine j_if_ne E 158 163 rfl r_v_w dX9_tree_155 (by decide) (fun cc13_ => ?_) (fun cc13_ => ?_)
                  · refine j_iconst E 164 rfl dX9_tree_163 ?_
                    exact hret 164 ((-1)) (upV v_0 300 y300_c80) _ _ ls hw (rr (by decide)) ⟨y300_c80, rfl, ⟨by first | exact hp0 | exact w3_ | exact iv80, ik80_⟩⟩ dX9_tree_164
                  · refine j_iload E 160 rfl dX9_tree_158 (lv_at hl 6 rfl) ?_
                    refine j_goto E 164 dX9_tree_160 (by decide) ?_
                    exact hret 164 l6_80 (upV v_0 300 y300_c80) _ _ ls hw r_l6_80 ⟨y300_c80, rfl, ⟨by first | exact hp0 | exact w3_ | exact iv80, ik80_⟩⟩ dX9_tree_164
                · refine j_aload_n E 87 rfl dX9_tree_86 rfl (lv_at hl 0 rfl) ?_
                  refine j_iload_n E 88 rfl dX9_tree_87 rfl (lv_at hl 1 rfl) ?_
                  refine j_iload E 90 rfl dX9_tree_88 (lv_at hl 5 rfl) ?_
                  refine j_iconst E 91 rfl dX9_tree_90 ?_
                  refine j_ixor E 92 rfl dX9_tree_91 (fun zz14_ rr14_ ee14_ => ?_)
                  refine j_iand E 93 rfl dX9_tree_92 (fun zz15_ rr15_ ee15_ => ?_)
                  refine j_iload E 95 rfl dX9_tree_93 (lv_at hl 5 rfl) ?_
                  refine kV_i E (c3_X9_nearestBranch l D cy T (upV v_0 300 y300_c80) o zz15_ l5_80 KK_ VV_ cg_ t_o rr15_ r_l5_80 (show Wt_ T (y300_c80) (v_0 160) o ((v_0 202) (T 182 o)) KK_ VV_ cg_ from iv80)) mt_X9_nearestBranch ml_X9_347 hK hw (cw_rc9 hK hw.1 t_o) hA ⟨Nat.le_of_ble_eq_true rfl, Nat.le_of_ble_eq_true rfl⟩ ⟨Nat.le_of_ble_eq_true rfl, Nat.le_of_ble_eq_true rfl⟩ (As := [.int (J zz15_), .int (J l5_80)]) (rest := []) rfl rfl hl.1 (Nat.le_of_ble_eq_true rfl) 98 rfl dX9_tree_95 (fun zz16_ v_16 H locs rr16_ hq16_ hw => ?_)
                  obtain ⟨y300_16, ev16_, hh16_⟩ := hq16_
                  rw [ev16_] at hw; clear ev16_
                  have hw : WK D cy T (upV v_0 300 y300_16) A0 H0 H locs := cw_eq hw (by first | rfl | (funext j_; simp only [upV, reduceIte]; (repeat' split) <;> first | rfl | omega | (subst_vars; rfl)))
                  obtain ⟨hh16_, kf16_⟩ := hh16_
                  replace hh16_ : Wt_ T (y300_16) (v_0 160) o ((v_0 202) (T 182 o)) KK_ VV_ cg_ := hh16_
                  have w3_ := hh16_
                  clear hh16_
                  refine j_istore E 100 rfl [(8, .int (J zz16_)), (0, .ref o), (1, .int (J v_s)), (2, .int (J v_w)), (3, .int (J zz1_)), (4, .int (J s0_36)), (5, .int (J l5_80)), (6, .int (J l6_80)), (7, .int (J l7_80))] dX9_tree_98 hl (by decide) rfl (fun ls hl => ?_)
                  refine j_iload E 102 rfl dX9_tree_100 (lv_at hl 0 rfl) ?_
                  refine j_bipush E 104 rfl dX9_tree_102 (by decide) ?_
                  refine j_idiv E 105 rfl dX9_tree_104 (by decide +kernel) (fun zz17_ rr17_ ee17_ => ?_)
                  refine j_istore E 107 rfl [(9, .int (J zz17_)), (8, .int (J zz16_)), (0, .ref o), (1, .int (J v_s)), (2, .int (J v_w)), (3, .int (J zz1_)), (4, .int (J s0_36)), (5, .int (J l5_80)), (6, .int (J l6_80)), (7, .int (J l7_80))] dX9_tree_105 hl (by decide) rfl (fun ls hl => ?_)
                  refine j_iload E 109 rfl dX9_tree_107 (lv_at hl 1 rfl) ?_
                  refine j_bipush E 111 rfl dX9_tree_109 (by decide) ?_
                  refine j_irem E 112 rfl dX9_tree_111 (by decide +kernel) (fun zz18_ rr18_ ee18_ => ?_)
                  refine j_istore E 114 rfl [(10, .int (J zz18_)), (9, .int (J zz17_)), (8, .int (J zz16_)), (0, .ref o), (1, .int (J v_s)), (2, .int (J v_w)), (3, .int (J zz1_)), (4, .int (J s0_36)), (5, .int (J l5_80)), (6, .int (J l6_80)), (7, .int (J l7_80))] dX9_tree_112 hl (by decide) rfl (fun ls hl => ?_)
                  refine j_iload_n E 115 rfl dX9_tree_114 rfl (lv_at hl 5 rfl) ?_
                  refine j_bipush E 117 rfl dX9_tree_115 (by decide) ?_
                  refine j_iload E 119 rfl dX9_tree_117 (lv_at hl 1 rfl) ?_
                  refine j_iadd E 120 rfl dX9_tree_119 ?_
                  refine j_norm (fun zz19_ rr19_ ee19_ => ?_)
                  refine j_icmp_ne E 123 126 rfl r_v_w rr19_ dX9_tree_120 (by decide) (fun cc20_ => ?_) (fun cc20_ => ?_)
                  · refine j_iload E 128 rfl dX9_tree_126 (lv_at hl 9 rfl) ?_
                    refine j_aload_n E 129 rfl dX9_tree_128 rfl (lv_at hl 3 rfl) ?_
                    refine j_iload E 131 rfl dX9_tree_129 (lv_at hl 1 rfl) ?_
                    refine j_iload E 133 rfl dX9_tree_131 (lv_at hl 0 rfl) ?_
                    refine kV_i E (c3_X9_distance l D cy T (upV v_0 300 y300_16) o zz17_ zz18_ KK_ VV_ cg_ t_o rr17_ rr18_ (show Wt_ T (y300_16) (v_0 160) o ((v_0 202) (T 182 o)) KK_ VV_ cg_ from w3_)) mt_X9_distance ml_X9_338 hK hw (cw_rc9 hK hw.1 t_o) hA ⟨Nat.le_of_ble_eq_true rfl, Nat.le_of_ble_eq_true rfl⟩ ⟨Nat.le_of_ble_eq_true rfl, Nat.le_of_ble_eq_true rfl⟩ (As := [.int (J zz17_), .int (J zz18_)]) (rest := [.int (J l6_80)]) rfl rfl hl.1 (Nat.le_of_ble_eq_true rfl) 136 rfl dX9_tree_133 (fun zz21_ v_21 H locs rr21_ hq21_ hw => ?_)
                    obtain ⟨y300_21, ev21_, hh21_⟩ := hq21_
                    rw [ev21_] at hw; clear ev21_
                    have hw : WK D cy T (upV v_0 300 y300_21) A0 H0 H locs := cw_eq hw (by first | rfl | (funext j_; simp only [upV, reduceIte]; (repeat' split) <;> first | rfl | omega | (subst_vars; rfl)))
                    obtain ⟨hh21_, kf21_⟩ := hh21_
                    replace hh21_ : (((0 ≤ zz17_ ∧ zz17_ < ((v_0 202) (T 182 o))) ∧ (0 ≤ zz18_ ∧ zz18_ < ((v_0 202) (T 182 o)))) → zz21_ = cD_ KK_ VV_ cg_ zz17_ zz18_) ∧ Wt_ T (y300_21) (v_0 160) o ((v_0 202) (T 182 o)) KK_ VV_ cg_ := hh21_
                    have w4_ := hh21_.2
                    refine j_iadd E 137 rfl dX9_tree_136 ?_
                    refine j_norm (fun zz22_ rr22_ ee22_ => ?_)
                    refine j_istore E 139 rfl [(6, .int (J zz22_)), (10, .int (J zz18_)), (9, .int (J zz17_)), (8, .int (J zz16_)), (0, .ref o), (1, .int (J v_s)), (2, .int (J v_w)), (3, .int (J zz1_)), (4, .int (J s0_36)), (5, .int (J l5_80)), (7, .int (J l7_80))] dX9_tree_137 hl (by decide) rfl (fun ls hl => ?_)
                    refine j_iload E 141 rfl dX9_tree_139 (lv_at hl 9 rfl) ?_
                    refine j_iconst E 142 rfl dX9_tree_141 ?_
                    refine j_iload E 144 rfl dX9_tree_142 (lv_at hl 2 rfl) ?_
                    refine j_ishl E 145 rfl dX9_tree_144 (fun zz23_ rr23_ ee23_ => ?_)
                    refine j_ior E 146 rfl dX9_tree_145 (fun zz24_ rr24_ ee24_ => ?_)
                    refine j_istore E 148 rfl [(5, .int (J zz24_)), (6, .int (J zz22_)), (10, .int (J zz18_)), (9, .int (J zz17_)), (8, .int (J zz16_)), (0, .ref o), (1, .int (J v_s)), (2, .int (J v_w)), (3, .int (J zz1_)), (4, .int (J s0_36)), (7, .int (J l7_80))] dX9_tree_146 hl (by decide) rfl (fun ls hl => ?_)
                    refine j_iinc E 151 rfl [(7, .int (J (l7_80 + 1))), (5, .int (J zz24_)), (6, .int (J zz22_)), (10, .int (J zz18_)), (9, .int (J zz17_)), (8, .int (J zz16_)), (0, .ref o), (1, .int (J v_s)), (2, .int (J v_w)), (3, .int (J zz1_)), (4, .int (J s0_36))] dX9_tree_148 hl (kk := 10) rfl (by decide) rfl (fun ls hl => ?_)
                    refine j_goto E 80 dX9_tree_151 (by decide) ?_
                    exact ih80 zz24_ zz22_ (l7_80 + 1) y300_21 H locs ls rr24_ rr22_ (rr (by omega)) (⟨w4_, (Kd_tr (Kd_tr ik80_ (Kd_mono kf16_ (by decide))) (Kd_mono kf21_ (by decide)))⟩) (by omega) hw (lv_sub hl [6, 7, 8, 9, 10, 1, 2, 0] rfl)
                  · refine j_iload E 125 rfl dX9_tree_123 (lv_at hl 0 rfl) ?_
                    exact hret 125 zz18_ (upV v_0 300 y300_16) _ _ ls hw rr18_ ⟨y300_16, rfl, ⟨by first | exact hp0 | exact w3_ | exact iv80, (Kd_tr ik80_ (Kd_mono kf16_ (by decide)))⟩⟩ dX9_tree_125
            exact L80_10 _ zz9_ 0 1 (v_0 300) H locs ls rr9_ (rr (by decide)) (rr (by decide)) (⟨hp0, Kd_rf⟩) (Nat.lt_succ_self _) (cw_eq hw (by first | rfl | (funext j_; simp only [upV, reduceIte]; (repeat' split) <;> first | rfl | omega | (subst_vars; rfl)))) (lv_sub hl [4, 5, 6, 7, 3, 2, 1, 0] rfl)
          · refine j_iload E 63 rfl dX9_tree_61 (lv_at hl 0 rfl) ?_
            refine j_if_ne E 66 68 rfl r_s0_36 dX9_tree_63 (by decide) (fun cc25_ => ?_) (fun cc25_ => ?_)
            · refine j_iload_n E 69 rfl dX9_tree_68 rfl (lv_at hl 2 rfl) ?_
              refine kS_i E (c_J6_lowestOneBit_0f7a4 l D cy T (v_0) v_s   r_v_s ) ms_J6_lowestOneBit_0f7a4 ml_X9_344 hK hw hA ⟨Nat.le_of_ble_eq_true rfl, Nat.le_of_ble_eq_true rfl⟩ ⟨Nat.le_of_ble_eq_true rfl, Nat.le_of_ble_eq_true rfl⟩ (As := [.int (J v_s)]) (rest := []) rfl rfl hl.1 (Nat.le_of_ble_eq_true rfl) 72 rfl dX9_tree_69 (fun zz26_ v_26 H locs rr26_ hq26_ hw => ?_)
              obtain ⟨ev26_, hh26_⟩ := hq26_
              rw [ev26_] at hw; clear ev26_
              refine j_istore E 74 rfl [(5, .int (J zz26_)), (4, .int (J s0_36)), (0, .ref o), (1, .int (J v_s)), (2, .int (J v_w)), (3, .int (J zz1_))] dX9_tree_72 hl (by decide) rfl (fun ls hl => ?_)
              refine j_iconst E 75 rfl dX9_tree_74 ?_
              refine j_istore E 77 rfl [(6, .int (J 0)), (5, .int (J zz26_)), (4, .int (J s0_36)), (0, .ref o), (1, .int (J v_s)), (2, .int (J v_w)), (3, .int (J zz1_))] dX9_tree_75 hl (by decide) rfl (fun ls hl => ?_)
              refine j_iconst E 78 rfl dX9_tree_77 ?_
              refine j_istore E 80 rfl [(7, .int (J 1)), (6, .int (J 0)), (5, .int (J zz26_)), (4, .int (J s0_36)), (0, .ref o), (1, .int (J v_s)), (2, .int (J v_w)), (3, .int (J zz1_))] dX9_tree_78 hl (by decide) rfl (fun ls hl => ?_)
              have L80_27 : ∀ (k80 : Nat) (l5_80 l6_80 l7_80 : Int) (y300_c80 : Nat → Int) (H : Heap) (locs : List Loc) (ls : Array Slot), inR l5_80 → inR l6_80 → inR l7_80 → ((Wt_ T (y300_c80) (v_0 160) o (v_0 202 (T 182 o)) KK_ VV_ cg_) ∧ Kd_ T [163, 196] (v_0 300) y300_c80) → (zz1_ - l7_80).toNat < k80 → WK D cy T (upV v_0 300 y300_c80) A0 H0 H locs → lv_has ls 11 [(0, .ref o), (1, .int (J v_s)), (2, .int (J v_w)), (3, .int (J zz1_)), (4, .int (J s0_36)), (5, .int (J l5_80)), (6, .int (J l6_80)), (7, .int (J l7_80))] → W p l e (rmd 7 0 0) s m ar below meth c H locs 0 0 QW (F0 m 80 ls []) := by
                intro k80
                induction k80 with
                | zero =>
                  intro l5_80 l6_80 l7_80 y300_c80 H locs ls r_l5_80 r_l6_80 r_l7_80 iv80 ms80 hw hl
                  exact absurd ms80 (Nat.not_lt_zero _)
                | succ k80 ih80 =>
                  intro l5_80 l6_80 l7_80 y300_c80 H locs ls r_l5_80 r_l6_80 r_l7_80 iv80 ms80 hw hl
                  obtain ⟨iv80, ik80_⟩ := iv80
                  refine j_iload E 82 rfl dX9_tree_80 (lv_at hl 7 rfl) ?_
                  refine j_iload_n E 83 rfl dX9_tree_82 rfl (lv_at hl 3 rfl) ?_
                  refine j_icmp_ge E 86 154 rfl r_l7_80 rr1_ dX9_tree_83 (by decide) (fun cc29_ => ?_) (fun cc29_ => ?_)
                  · refine j_iload_n E 155 rfl dX9_tree_154 rfl (lv_at hl 2 rfl) ?_
                    refine j_if_ne E 158 163 rfl r_v_w dX9_tree_155 (by decide) (fun cc30_ => ?_) (fun cc30_ => ?_)
                    · refine j_iconst E 164 rfl dX9_tree_163 ?_
                      exact hret 164 ((-1)) (upV v_0 300 y300_c80) _ _ ls hw (rr (by decide)) ⟨y300_c80, rfl, ⟨by first | exact hp0 | exact w3_ | exact iv80, ik80_⟩⟩ dX9_tree_164
                    · refine j_iload E 160 rfl dX9_tree_158 (lv_at hl 6 rfl) ?_
                      refine j_goto E 164 dX9_tree_160 (by decide) ?_
                      exact hret 164 l6_80 (upV v_0 300 y300_c80) _ _ ls hw r_l6_80 ⟨y300_c80, rfl, ⟨by first | exact hp0 | exact w3_ | exact iv80, ik80_⟩⟩ dX9_tree_164
                  · refine j_aload_n E 87 rfl dX9_tree_86 rfl (lv_at hl 0 rfl) ?_
                    refine j_iload_n E 88 rfl dX9_tree_87 rfl (lv_at hl 1 rfl) ?_
                    refine j_iload E 90 rfl dX9_tree_88 (lv_at hl 5 rfl) ?_
                    refine j_iconst E 91 rfl dX9_tree_90 ?_
                    refine j_ixor E 92 rfl dX9_tree_91 (fun zz31_ rr31_ ee31_ => ?_)
                    refine j_iand E 93 rfl dX9_tree_92 (fun zz32_ rr32_ ee32_ => ?_)
                    refine j_iload E 95 rfl dX9_tree_93 (lv_at hl 5 rfl) ?_
                    refine kV_i E (c3_X9_nearestBranch l D cy T (upV v_0 300 y300_c80) o zz32_ l5_80 KK_ VV_ cg_ t_o rr32_ r_l5_80 (show Wt_ T (y300_c80) (v_0 160) o ((v_0 202) (T 182 o)) KK_ VV_ cg_ from iv80)) mt_X9_nearestBranch ml_X9_347 hK hw (cw_rc9 hK hw.1 t_o) hA ⟨Nat.le_of_ble_eq_true rfl, Nat.le_of_ble_eq_true rfl⟩ ⟨Nat.le_of_ble_eq_true rfl, Nat.le_of_ble_eq_true rfl⟩ (As := [.int (J zz32_), .int (J l5_80)]) (rest := []) rfl rfl hl.1 (Nat.le_of_ble_eq_true rfl) 98 rfl dX9_tree_95 (fun zz33_ v_33 H locs rr33_ hq33_ hw => ?_)
                    obtain ⟨y300_33, ev33_, hh33_⟩ := hq33_
                    rw [ev33_] at hw; clear ev33_
                    have hw : WK D cy T (upV v_0 300 y300_33) A0 H0 H locs := cw_eq hw (by first | rfl | (funext j_; simp only [upV, reduceIte]; (repeat' split) <;> first | rfl | omega | (subst_vars; rfl)))
                    obtain ⟨hh33_, kf33_⟩ := hh33_
                    replace hh33_ : Wt_ T (y300_33) (v_0 160) o ((v_0 202) (T 182 o)) KK_ VV_ cg_ := hh33_
                    have w3_ := hh33_
                    clear hh33_
                    refine j_istore E 100 rfl [(8, .int (J zz33_)), (0, .ref o), (1, .int (J v_s)), (2, .int (J v_w)), (3, .int (J zz1_)), (4, .int (J s0_36)), (5, .int (J l5_80)), (6, .int (J l6_80)), (7, .int (J l7_80))] dX9_tree_98 hl (by decide) rfl (fun ls hl => ?_)
                    refine j_iload E 102 rfl dX9_tree_100 (lv_at hl 0 rfl) ?_
                    refine j_bipush E 104 rfl dX9_tree_102 (by decide) ?_
                    refine j_idiv E 105 rfl dX9_tree_104 (by decide +kernel) (fun zz34_ rr34_ ee34_ => ?_)
                    refine j_istore E 107 rfl [(9, .int (J zz34_)), (8, .int (J zz33_)), (0, .ref o), (1, .int (J v_s)), (2, .int (J v_w)), (3, .int (J zz1_)), (4, .int (J s0_36)), (5, .int (J l5_80)), (6, .int (J l6_80)), (7, .int (J l7_80))] dX9_tree_105 hl (by decide) rfl (fun ls hl => ?_)
                    refine j_iload E 109 rfl dX9_tree_107 (lv_at hl 1 rfl) ?_
                    refine j_bipush E 111 rfl dX9_tree_109 (by decide) ?_
                    refine j_irem E 112 rfl dX9_tree_111 (by decide +kernel) (fun zz35_ rr35_ ee35_ => ?_)
                    refine j_istore E 114 rfl [(10, .int (J zz35_)), (9, .int (J zz34_)), (8, .int (J zz33_)), (0, .ref o), (1, .int (J v_s)), (2, .int (J v_w)), (3, .int (J zz1_)), (4, .int (J s0_36)), (5, .int (J l5_80)), (6, .int (J l6_80)), (7, .int (J l7_80))] dX9_tree_112 hl (by decide) rfl (fun ls hl => ?_)
                    refine j_iload_n E 115 rfl dX9_tree_114 rfl (lv_at hl 5 rfl) ?_
                    refine j_bipush E 117 rfl dX9_tree_115 (by decide) ?_
                    refine j_iload E 119 rfl dX9_tree_117 (lv_at hl 1 rfl) ?_
                    refine j_iadd E 120 rfl dX9_tree_119 ?_
                    refine j_norm (fun zz36_ rr36_ ee36_ => ?_)
                    refine j_icmp_ne E 123 126 rfl r_v_w rr36_ dX9_tree_120 (by decide) (fun cc37_ => ?_) (fun cc37_ => ?_)
                    · refine j_iload E 128 rfl dX9_tree_126 (lv_at hl 9 rfl) ?_
                      refine j_aload_n E 129 rfl dX9_tree_128 rfl (lv_at hl 3 rfl) ?_
                      refine j_iload E 131 rfl dX9_tree_129 (lv_at hl 1 rfl) ?_
                      refine j_iload E 133 rfl dX9_tree_131 (lv_at hl 0 rfl) ?_
                      refine kV_i E (c3_X9_distance l D cy T (upV v_0 300 y300_33) o zz34_ zz35_ KK_ VV_ cg_ t_o rr34_ rr35_ (show Wt_ T (y300_33) (v_0 160) o ((v_0 202) (T 182 o)) KK_ VV_ cg_ from w3_)) mt_X9_distance ml_X9_338 hK hw (cw_rc9 hK hw.1 t_o) hA ⟨Nat.le_of_ble_eq_true rfl, Nat.le_of_ble_eq_true rfl⟩ ⟨Nat.le_of_ble_eq_true rfl, Nat.le_of_ble_eq_true rfl⟩ (As := [.int (J zz34_), .int (J zz35_)]) (rest := [.int (J l6_80)]) rfl rfl hl.1 (Nat.le_of_ble_eq_true rfl) 136 rfl dX9_tree_133 (fun zz38_ v_38 H locs rr38_ hq38_ hw => ?_)
                      obtain ⟨y300_38, ev38_, hh38_⟩ := hq38_
                      rw [ev38_] at hw; clear ev38_
                      have hw : WK D cy T (upV v_0 300 y300_38) A0 H0 H locs := cw_eq hw (by first | rfl | (funext j_; simp only [upV, reduceIte]; (repeat' split) <;> first | rfl | omega | (subst_vars; rfl)))
                      obtain ⟨hh38_, kf38_⟩ := hh38_
                      replace hh38_ : (((0 ≤ zz34_ ∧ zz34_ < ((v_0 202) (T 182 o))) ∧ (0 ≤ zz35_ ∧ zz35_ < ((v_0 202) (T 182 o)))) → zz38_ = cD_ KK_ VV_ cg_ zz34_ zz35_) ∧ Wt_ T (y300_38) (v_0 160) o ((v_0 202) (T 182 o)) KK_ VV_ cg_ := hh38_
                      have w4_ := hh38_.2
                      refine j_iadd E 137 rfl dX9_tree_136 ?_
                      refine j_norm (fun zz39_ rr39_ ee39_ => ?_)
                      refine j_istore E 139 rfl [(6, .int (J zz39_)), (10, .int (J zz35_)), (9, .int (J zz34_)), (8, .int (J zz33_)), (0, .ref o), (1, .int (J v_s)), (2, .int (J v_w)), (3, .int (J zz1_)), (4, .int (J s0_36)), (5, .int (J l5_80)), (7, .int (J l7_80))] dX9_tree_137 hl (by decide) rfl (fun ls hl => ?_)
                      refine j_iload E 141 rfl dX9_tree_139 (lv_at hl 9 rfl) ?_
                      refine j_iconst E 142 rfl dX9_tree_141 ?_
                      refine j_iload E 144 rfl dX9_tree_142 (lv_at hl 2 rfl) ?_
                      refine j_ishl E 145 rfl dX9_tree_144 (fun zz40_ rr40_ ee40_ => ?_)
                      refine j_ior E 146 rfl dX9_tree_145 (fun zz41_ rr41_ ee41_ => ?_)
                      refine j_istore E 148 rfl [(5, .int (J zz41_)), (6, .int (J zz39_)), (10, .int (J zz35_)), (9, .int (J zz34_)), (8, .int (J zz33_)), (0, .ref o), (1, .int (J v_s)), (2, .int (J v_w)), (3, .int (J zz1_)), (4, .int (J s0_36)), (7, .int (J l7_80))] dX9_tree_146 hl (by decide) rfl (fun ls hl => ?_)
                      refine j_iinc E 151 rfl [(7, .int (J (l7_80 + 1))), (5, .int (J zz41_)), (6, .int (J zz39_)), (10, .int (J zz35_)), (9, .int (J zz34_)), (8, .int (J zz33_)), (0, .ref o), (1, .int (J v_s)), (2, .int (J v_w)), (3, .int (J zz1_)), (4, .int (J s0_36))] dX9_tree_148 hl (kk := 10) rfl (by decide) rfl (fun ls hl => ?_)
                      refine j_goto E 80 dX9_tree_151 (by decide) ?_
                      exact ih80 zz41_ zz39_ (l7_80 + 1) y300_38 H locs ls rr41_ rr39_ (rr (by omega)) (⟨w4_, (Kd_tr (Kd_tr ik80_ (Kd_mono kf33_ (by decide))) (Kd_mono kf38_ (by decide)))⟩) (by omega) hw (lv_sub hl [6, 7, 8, 9, 10, 1, 2, 0] rfl)
                    · refine j_iload E 125 rfl dX9_tree_123 (lv_at hl 0 rfl) ?_
                      exact hret 125 zz35_ (upV v_0 300 y300_33) _ _ ls hw rr35_ ⟨y300_33, rfl, ⟨by first | exact hp0 | exact w3_ | exact iv80, (Kd_tr ik80_ (Kd_mono kf33_ (by decide)))⟩⟩ dX9_tree_125
              exact L80_27 _ zz26_ 0 1 (v_0 300) H locs ls rr26_ (rr (by decide)) (rr (by decide)) (⟨hp0, Kd_rf⟩) (Nat.lt_succ_self _) (cw_eq hw (by first | rfl | (funext j_; simp only [upV, reduceIte]; (repeat' split) <;> first | rfl | omega | (subst_vars; rfl)))) (lv_sub hl [4, 5, 6, 7, 3, 2, 1, 0] rfl)
            · refine j_iconst E 67 rfl dX9_tree_66 ?_
              exact hret 67 ((-1)) (upV v_0 300 (v_0 300)) _ _ ls (cw_eq hw (by first | rfl | (funext j_; simp only [upV, reduceIte]; (repeat' split) <;> first | rfl | omega | (subst_vars; rfl)))) (rr (by decide)) ⟨(v_0 300), rfl, ⟨by first | exact hp0 | exact w3_ | exact iv80, Kd_rf⟩⟩ dX9_tree_67
  refine j_iload_n E 6 rfl dX9_tree_5 rfl (lv_at hl 3 rfl) ?_
  refine j_bipush E 8 rfl dX9_tree_6 (by decide) ?_
  refine j_icmp_lt E 11 35 rfl r_v_w (rr (by decide)) dX9_tree_8 (by decide) (fun cc42_ => ?_) (fun cc42_ => ?_)
  · refine j_iconst E 36 rfl dX9_tree_35 ?_
    exact L36_2 0  H locs ls (rr (by decide)) (trivial) hw (lv_sub hl [1, 2, 3, 0] rfl)
  · refine j_iload_n E 12 rfl dX9_tree_11 rfl (lv_at hl 3 rfl) ?_
    refine j_bipush E 14 rfl dX9_tree_12 (by decide) ?_
    refine j_isub E 15 rfl dX9_tree_14 ?_
    refine j_norm (fun zz43_ rr43_ ee43_ => ?_)
    refine j_bipush E 17 rfl dX9_tree_15 (by decide) ?_
    refine j_icmp_ge E 20 35 rfl rr43_ (rr (by decide)) dX9_tree_17 (by decide) (fun cc44_ => ?_) (fun cc44_ => ?_)
    · refine j_iconst E 36 rfl dX9_tree_35 ?_
      exact L36_2 0  H locs ls (rr (by decide)) (trivial) hw (lv_sub hl [1, 2, 3, 0] rfl)
    · refine j_iload_n E 21 rfl dX9_tree_20 rfl (lv_at hl 2 rfl) ?_
      refine j_iload_n E 22 rfl dX9_tree_21 rfl (lv_at hl 3 rfl) ?_
      refine j_bipush E 24 rfl dX9_tree_22 (by decide) ?_
      refine j_isub E 25 rfl dX9_tree_24 ?_
      refine j_norm (fun zz45_ rr45_ ee45_ => ?_)
      refine j_iushr E 26 rfl dX9_tree_25 (fun zz46_ rr46_ ee46_ => ?_)
      refine j_iconst E 27 rfl dX9_tree_26 ?_
      refine j_iand E 28 rfl dX9_tree_27 (fun zz47_ rr47_ ee47_ => ?_)
      refine j_if_eq E 31 35 rfl rr47_ dX9_tree_28 (by decide) (fun cc48_ => ?_) (fun cc48_ => ?_)
      · refine j_iconst E 36 rfl dX9_tree_35 ?_
        exact L36_2 0  H locs ls (rr (by decide)) (trivial) hw (lv_sub hl [1, 2, 3, 0] rfl)
      · refine j_iconst E 32 rfl dX9_tree_31 ?_
        refine j_goto E 36 dX9_tree_32 (by decide) ?_
        exact L36_2 1  H locs ls (rr (by decide)) (trivial) hw (lv_sub hl [1, 2, 3, 0] rfl)
