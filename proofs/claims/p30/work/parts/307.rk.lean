/-! stacks: the head of the list is on top -/
theorem Sk_push {y : Nat → Int} {a : Nat} {s : List Int} {c n : Int} (h : Sk_ (gC_ y a) s) (e : c = (s.length : Int)) : Sk_ (gC_ (upB y (pr a c.toNat) n) a) (n :: s) := by
  subst e
  exact ⟨gC_us, Sk_cg (fun i h1 h2 => gC_ui (by omega) h1 (by omega)) h⟩
theorem Sk_pop {g : Int → Int} {c z : Int} : ∀ {s : List Int}, Sk_ g s → c = (s.length : Int) → 0 < c → z = g (c - 1) → z = s.headD 0 ∧ c - 1 = (s.tail.length : Int)
  | [], _, e, h0, _ => by
    have e : c = 0 := e
    exfalso; omega
  | x :: r, h, e, _, hz => by
    have e2 : c = (r.length : Int) + 1 := by rw [e, List.length_cons]; omega
    have e3 : c - 1 = (r.length : Int) := by omega
    refine ⟨?_, e3⟩
    rw [hz, e3]
    exact h.1
theorem Sk_p0 {c : Int} : ∀ {s : List Int}, c = (s.length : Int) → c ≤ 0 → (0 : Int) = s.headD 0 ∧ c = (s.tail.length : Int)
  | [], e, _ => ⟨rfl, e⟩
  | x :: r, e, h => by
    rw [List.length_cons] at e
    exfalso; omega
theorem tl_len {s : List Int} : s.tail.length ≤ s.length := by
  cases s with
  | nil => exact Nat.le_refl _
  | cons x r => exact Nat.le_succ _
def Fc_ (y : Nat → Int) (f : Nat) (a b c d e : Int) : Prop := gC_ y f 0 = a ∧ gC_ y f 1 = b ∧ gC_ y f 2 = c ∧ gC_ y f 3 = d ∧ gC_ y f 4 = e
theorem fc_all {y y1 y2 y3 y4 y5 : Nat → Int} {f : Nat} {a b c d e : Int} (e1 : y1 = upB y (pr f (Int.toNat ((307 : Int) - 307))) a) (e2 : y2 = upB y1 (pr f (Int.toNat ((308 : Int) - 307))) b) (e3 : y3 = upB y2 (pr f (Int.toNat ((309 : Int) - 307))) c) (e4 : y4 = upB y3 (pr f (Int.toNat ((310 : Int) - 307))) d) (e5 : y5 = upB y4 (pr f (Int.toNat ((311 : Int) - 307))) e) : Fc_ y5 f a b c d e ∧ Ro_ y y5 f := by
  have k : ∀ (y : Nat → Int) (i j z : Int), 0 ≤ i → 0 ≤ j → j ≠ i → gC_ (upB y (pr f i.toNat) z) f j = gC_ y f j := fun y i j z h0 h1 h => gC_ui h0 h1 h
  refine ⟨⟨?_, ?_, ?_, ?_, ?_⟩, ?_⟩
  · rw [e5, k _ _ _ _ (by decide) (by decide) (by decide), e4, k _ _ _ _ (by decide) (by decide) (by decide), e3, k _ _ _ _ (by decide) (by decide) (by decide), e2, k _ _ _ _ (by decide) (by decide) (by decide), e1]
    exact upB_same _ _ _
  · rw [e5, k _ _ _ _ (by decide) (by decide) (by decide), e4, k _ _ _ _ (by decide) (by decide) (by decide), e3, k _ _ _ _ (by decide) (by decide) (by decide), e2]
    exact upB_same _ _ _
  · rw [e5, k _ _ _ _ (by decide) (by decide) (by decide), e4, k _ _ _ _ (by decide) (by decide) (by decide), e3]
    exact upB_same _ _ _
  · rw [e5, k _ _ _ _ (by decide) (by decide) (by decide), e4]
    exact upB_same _ _ _
  · rw [e5]
    exact upB_same _ _ _
  · rw [e5, e4, e3, e2, e1]
    exact Ro_tr (Ro_tr (Ro_tr (Ro_tr Ro_up Ro_up) Ro_up) Ro_up) Ro_up
theorem gC_ro {y y2 : Nat → Int} {c a : Nat} (h : Ro_ y y2 c) (ha : a ≠ c) : gC_ y2 a = gC_ y a := funext fun i => h a ha i.toNat
/-! what is joined -/
section Jn
variable {k a b z : Int}
theorem jn_43 (h : k = 43) : jn_ k a b = w32_ (a + b) := by
  subst h; unfold jn_
  rw [if_pos rfl]
theorem jn_45 (h : k = 45) : jn_ k a b = w32_ (a - b) := by
  subst h; unfold jn_
  rw [if_neg (by decide), if_pos rfl]
theorem jn_42 (h : k = 42) : jn_ k a b = w32_ (a * b) := by
  subst h; unfold jn_
  rw [if_neg (by decide), if_neg (by decide), if_pos rfl]
theorem jn_47 (h : k = 47) (hb : ¬ b = 0) : jn_ k a b = (J a / J b).toInt := by
  subst h; unfold jn_
  rw [if_neg (by decide), if_neg (by decide), if_neg (by decide), if_pos rfl, if_neg hb]
theorem jn_470 (h : k = 47) (hb : b = 0) : jn_ k a b = 0 := by
  subst h; unfold jn_
  rw [if_neg (by decide), if_neg (by decide), if_neg (by decide), if_pos rfl, if_pos hb]
theorem jn_60 (h : k = 60) : jn_ k a b = if a < b then 1 else 0 := by
  subst h; unfold jn_
  rw [if_neg (by decide), if_neg (by decide), if_neg (by decide), if_neg (by decide), if_pos rfl]
theorem jn_61 (h : k = 61) : jn_ k a b = if a = b then 1 else 0 := by
  subst h; unfold jn_
  rw [if_neg (by decide), if_neg (by decide), if_neg (by decide), if_neg (by decide), if_neg (by decide), if_pos rfl]
theorem jn_62 (h : k = 62) : jn_ k a b = if b < a then 1 else 0 := by
  subst h; unfold jn_
  rw [if_neg (by decide), if_neg (by decide), if_neg (by decide), if_neg (by decide), if_neg (by decide), if_neg (by decide), if_pos rfl]
theorem jn_305 (h : k = 305) : jn_ k a b = (J a &&& J b).toInt := by
  subst h; unfold jn_
  rw [if_neg (by decide), if_neg (by decide), if_neg (by decide), if_neg (by decide), if_neg (by decide), if_neg (by decide), if_neg (by decide), if_pos rfl]
theorem jn_304 (h : k = 304) : jn_ k a b = (J a ||| J b).toInt := by
  subst h; unfold jn_
  rw [if_neg (by decide), if_neg (by decide), if_neg (by decide), if_neg (by decide), if_neg (by decide), if_neg (by decide), if_neg (by decide), if_neg (by decide), if_pos rfl]
theorem jn_d (h : ¬ k = 42) (h1 : ¬ k = 43) (h2 : ¬ k = 45) (h3 : ¬ k = 47) (h4 : ¬ k = 60) (h5 : ¬ k = 61) (h6 : ¬ k = 62) (h7 : ¬ k = 304) (h8 : ¬ k = 305) : jn_ k a b = 0 := by
  unfold jn_
  rw [if_neg h1, if_neg h2, if_neg h, if_neg h3, if_neg h4, if_neg h5, if_neg h6, if_neg h8, if_neg h7]
end Jn
/-! one step -/
section Ev1
variable {F O : Int → Int} {l c : Int} {s : List Int}
theorem ev1_l1 (h : 10000 ≤ c) (h2 : c - 10000 < l) : ev1_ F O l c s = O (c - 10000) :: s := by
  unfold ev1_
  rw [if_pos h, if_pos h2]
theorem ev1_l0 (h : 10000 ≤ c) (h2 : l ≤ c - 10000) : ev1_ F O l c s = 0 :: s := by
  unfold ev1_
  rw [if_pos h, if_neg (by omega)]
theorem ev1_n (h : c < 10000) (h2 : 0 ≤ c) : ev1_ F O l c s = c :: s := by
  unfold ev1_
  rw [if_neg (by omega), if_pos h2]
theorem ev1_f (h : 307 ≤ -c ∧ -c ≤ 311) : ev1_ F O l c s = F (-c - 307) :: s := by
  unfold ev1_
  rw [if_neg (by omega), if_neg (by omega), if_pos h]
theorem ev1_not (h : c = -306) : ev1_ F O l c s = (if s.headD 0 = 0 then 1 else 0) :: s.tail := by
  unfold ev1_
  rw [if_neg (by omega), if_neg (by omega), if_neg (by omega), if_pos h]
theorem ev1_j (h : c < 0) (h2 : ¬ (307 ≤ -c ∧ -c ≤ 311)) (h3 : ¬ c = -306) : ev1_ F O l c s = jn_ (-c) (s.tail.headD 0) (s.headD 0) :: s.tail.tail := by
  unfold ev1_
  rw [if_neg (by omega), if_neg (by omega), if_neg h2, if_neg h3]
theorem rs_of {g : Int → Int} {r : List Int} {z t : Int} (e : ev1_ F O l c s = z :: r) (h : Sk_ g (z :: r)) (ht : t = (r.length : Int) + 1) : Sk_ g (ev1_ F O l c s) ∧ t = ((ev1_ F O l c s).length : Int) := by
  rw [e, List.length_cons]
  exact ⟨h, by omega⟩
end Ev1
theorem Tyr_split {N : Nat} : ∀ {a b : List Int} {t u : List Bool}, Tyr_ N (a ++ b) t u → ∃ w, Tyr_ N a t w ∧ Tyr_ N b w u
  | [], _, t, _, h => ⟨t, rfl, h⟩
  | _ :: _, _, _, _, ⟨w, h1, h2, h3⟩ => by
    obtain ⟨x, p, q⟩ := Tyr_split h3
    exact ⟨x, ⟨w, h1, h2, p⟩, q⟩
theorem Tyr_len {N : Nat} : ∀ {a : List Int} {t u : List Bool}, Tyr_ N a t u → t.length ≤ N → u.length ≤ N
  | [], _, _, h, hn => by cases h; exact hn
  | _ :: _, _, _, ⟨_, _, h2, h3⟩, _ => Tyr_len h3 h2
theorem Ty1_ge {c : Int} {t u : List Bool} (h : Ty1_ c t u) : -311 ≤ c := by
  rcases h with ⟨h, -⟩ | ⟨h, -⟩ | ⟨h, -⟩ | ⟨h, -⟩ | ⟨h, -⟩ <;> omega
/-- before the i-th step -/
theorem ev_pre {F O g : Int → Int} {l n i : Int} {N : Nat} {t : List Bool} (h : Tyr_ N (lL_ g 0 n) [] t) (h0 : 0 ≤ i) (hi : i ≤ n) : (evs_ F O l (lL_ g 0 i) []).length ≤ N ∧ (i < n → -311 ≤ g i) := by
  rw [lL_app h0 hi] at h
  obtain ⟨w, p, q⟩ := Tyr_split h
  refine ⟨?_, fun hl => ?_⟩
  · rw [Vt_len (evs_ok (F := F) (O := O) (l := l) p rfl).2.1]
    exact Tyr_len p (Nat.zero_le _)
  · rw [lL_app (show i ≤ i + 1 by omega) (show i + 1 ≤ n by omega), lL_nx (Int.le_refl i), lL_0 rfl] at q
    obtain ⟨x, q1, -⟩ := q
    exact Ty1_ge q1
theorem ev_nx {F O g : Int → Int} {l i : Int} (h0 : 0 ≤ i) : evs_ F O l (lL_ g 0 (i + 1)) [] = ev1_ F O l (g i) (evs_ F O l (lL_ g 0 i) []) := by
  rw [lL_nx h0, evs_ap]
  rfl
def rk_ (o : Option Nat) (F O : Int → Int) (l : Int) (s1 s2 s3 : List Int) : Int := match o with
  | none => 0
  | some _ => own_ F O l s1 s2 s3
def Rc_ (y y2 : Nat → Int) (ow sk : Nat) (l z : Int) : Prop := (∀ b, b ≠ ow → b ≠ sk → ∀ i, y2 (pr b i) = y (pr b i)) ∧ ∀ j, 0 ≤ j → gC_ y2 ow j = if j = l then z else gC_ y ow j
theorem Rc_0 {y : Nat → Int} {ow sk : Nat} {l z : Int} (h0 : 0 ≤ l) : Rc_ y (upB y (pr ow l.toNat) z) ow sk l z := ⟨fun b h1 h2 i => upB_ne (fun e => h1 (pr_inj e).1), fun j hj => by
  by_cases e : j = l
  · rw [if_pos e, e]; exact gC_us
  · rw [if_neg e]; exact gC_ui h0 hj e⟩
theorem Rc_1 {y y1 : Nat → Int} {ow sk : Nat} {l z : Int} (h0 : 0 ≤ l) (r : Ro_ y y1 sk) (hn : ow ≠ sk) : Rc_ y (upB y1 (pr ow l.toNat) z) ow sk l z := ⟨fun b h1 h2 i => (upB_ne (fun e => h1 (pr_inj e).1)).trans (r b h2 i), fun j hj => by
  by_cases e : j = l
  · rw [if_pos e, e]; exact gC_us
  · rw [if_neg e, gC_ui h0 hj e]; exact r ow hn _⟩
/-! facts -/
theorem fc_fcf {y : Nat → Int} {f : Nat} {a b c d e : Int} (h : Fc_ y f a b c d e) : ∀ i, 0 ≤ i → i ≤ 4 → gC_ y f i = fcf_ a b c d e i := by
  intro i h0 h4
  obtain ⟨q0, q1, q2, q3, q4⟩ := h
  unfold fcf_
  by_cases e0 : i = 0
  · rw [if_pos e0, e0]; exact q0
  · rw [if_neg e0]
    by_cases e1 : i = 1
    · rw [if_pos e1, e1]; exact q1
    · rw [if_neg e1]
      by_cases e2 : i = 2
      · rw [if_pos e2, e2]; exact q2
      · rw [if_neg e2]
        by_cases e3 : i = 3
        · rw [if_pos e3, e3]; exact q3
        · rw [if_neg e3, show i = 4 by omega]; exact q4
/-! tokens by which wordings are compared -/
def tc_ (k x : Int) : Int := if k = 3 then x else 10000 + k
theorem tc_3 {k x : Int} (h : k = 3) : tc_ k x = x := if_pos h
theorem tc_n {k x : Int} (h : ¬ k = 3) : tc_ k x = 10000 + k := if_neg h
theorem tk_st {y : Nat → Int} {a : Nat} {g : Int → Int} {n z : Int} (h : ∀ i : Int, 0 ≤ i → i < n → gC_ y a i = g i) (h0 : 0 ≤ n) (hz : z = g n) : ∀ i : Int, 0 ≤ i → i < n + 1 → gC_ (upB y (pr a n.toNat) z) a i = g i := fun i h1 h2 => by
  by_cases e : i = n
  · rw [e, gC_us]; exact hz
  · rw [gC_ui h0 h1 e]; exact h i h1 (by omega)
/-! ===== the wordings' code in the class, what lines owe ===== -/
def ELn_ (T : Nat → Nat → Nat) (k x i : Nat) : Nat := T (1000 + i) (T 201 (T k x))
def Wd_ (T : Nat → Nat → Nat) (y : Nat → Int) (x : Nat) (sz : Int) (S1 S2 S3 : Int → List Int) : Prop := ∀ w : Int, 0 ≤ w → w < sz → ∀ a : Nat, ELn_ T 182 x w.toNat = a + 1 → lL_ (gC_ y (T 162 a)) 0 (T 1 (T 162 a) : Int) = S1 w ++ (wh_ (S2 w) ++ ul_ (S3 w)) ∧ TyN_ (S1 w) ∧ TyB_ (S2 w) ∧ TyB_ (S3 w)
def nrm_ (sz z : Int) : Int := if 0 ≤ z ∧ z < sz then z else -1
theorem nrm_rg (sz z : Int) : (0 ≤ z ∧ z < sz → nrm_ sz z = z) ∧ (¬ (0 ≤ z ∧ z < sz) → nrm_ sz z = -1) := ⟨fun h => if_pos h, fun h => if_neg h⟩
def Rz_ (T : Nat → Nat → Nat) (r : Nat) (y y2 : Nat → Int) : Prop := ∀ b, b ≠ T 100 r → b ≠ T 101 r → b ≠ T 102 r → ∀ i, y2 (pr b i) = y (pr b i)
theorem Rz_rf {T : Nat → Nat → Nat} {r : Nat} {y : Nat → Int} : Rz_ T r y y := fun _ _ _ _ _ => rfl
theorem gC_fr {y y2 : Nat → Int} {a : Nat} (h : ∀ i, y2 (pr a i) = y (pr a i)) : gC_ y2 a = gC_ y a := funext fun i => h i.toNat
theorem wd_at {T : Nat → Nat → Nat} {y y2 : Nat → Int} {x a : Nat} {sz w : Int} {S1 S2 S3 : Int → List Int} (h : Wd_ T y x sz S1 S2 S3) (h0 : 0 ≤ w) (h1 : w < sz) (ha : ELn_ T 182 x w.toNat = a + 1) (hf : ∀ i, y2 (pr (T 162 a) i) = y (pr (T 162 a) i)) : lL_ (gC_ y2 (T 162 a)) 0 (T 1 (T 162 a) : Int) = S1 w ++ (wh_ (S2 w) ++ ul_ (S3 w)) ∧ TyN_ (S1 w) ∧ TyB_ (S2 w) ∧ TyB_ (S3 w) := by
  rw [gC_fr hf]
  exact h w h0 h1 a ha
theorem wl_ty {D : va_G} {cy : Nat → ClassId} {T : Nat → Nat → Nat} {v : Nat → Nat → Int} {H : Heap} (hw : WC D cy T v H) {L e a : Nat} {w : Int} (hL : T 0 L = 10) (he : T 2 L = e) (ha : T (1000 + w.toNat) (T 201 L) = a + 1) (h0 : 0 ≤ w) (h1 : w < v 202 L) : T 0 a = e := by
  obtain ⟨x, hx, tx⟩ := (hw.2.2.1 L hL).2.2 w.toNat (by omega)
  rw [ha] at hx
  have e2 : dcd (a + 1) = some a := by unfold dcd; rw [if_neg (by omega)]; rfl
  rw [e2] at hx
  cases hx
  rw [tx, he]
def Owc_ (W : Int → Int → Prop) (F g : Int → Int) (n : Int) (S1 S2 S3 : Int → List Int) : Prop := ∀ y, 0 ≤ y → y < n → ∃ w, W y w ∧ -1 ≤ w ∧ g y = ow1_ F g y w (S1 w) (S2 w) (S3 w)
theorem ob_C {W : Int → Int → Prop} {F : Int → Int} {y y2 : Nat → Int} {ow sk : Nat} {n w : Int} {S1 S2 S3 : Int → List Int} (h : Owc_ W F (gC_ y ow) n S1 S2 S3) (h0 : 0 ≤ n) (hr : Rc_ y y2 ow sk n (ow1_ F (gC_ y ow) n w (S1 w) (S2 w) (S3 w))) (hw : W n w) (h1 : -1 ≤ w) : Owc_ W F (gC_ y2 ow) (n + 1) S1 S2 S3 := by
  intro u h2 h3
  have c : ∀ i, 0 ≤ i → i < u → gC_ y2 ow i = gC_ y ow i := fun i i1 i2 => by rw [hr.2 i i1, if_neg (by omega)]
  by_cases e : u = n
  · subst e
    exact ⟨w, hw, h1, by rw [hr.2 u h2, if_pos rfl, ow1_cg c]⟩
  · obtain ⟨x, a, b, q⟩ := h u h2 (by omega)
    exact ⟨x, a, b, by rw [hr.2 u h2, if_neg e, ow1_cg c]; exact q⟩
/-- two ways of reckoning by the same wordings come to the same -/
theorem ow_det {W W2 : Int → Int → Prop} {F g g2 : Int → Int} {n : Int} {S1 S2 S3 : Int → List Int} (h : Owc_ W F g n S1 S2 S3) (h2 : Owc_ W2 F g2 n S1 S2 S3) (hd : ∀ y, 0 ≤ y → y < n → ∀ w w2, W y w → W2 y w2 → w = w2) : ∀ y, 0 ≤ y → y < n → g y = g2 y := by
  have key : ∀ k : Nat, ∀ y : Int, 0 ≤ y → y < n → y < (k : Int) → g y = g2 y := by
    intro k
    induction k with
    | zero => intro y h0 _ hk; exfalso; have hk : y < 0 := hk; omega
    | succ k ih =>
      intro y h0 hn hk
      obtain ⟨w, a, -, q⟩ := h y h0 hn
      obtain ⟨w2, a2, -, q2⟩ := h2 y h0 hn
      have e := hd y h0 hn w w2 a a2
      subst e
      rw [q, q2]
      exact ow1_cg (fun i i1 i2 => ih i i1 (by omega) (by omega))
  intro y h0 hn
  exact key (y.toNat + 1) y h0 hn (by omega)
