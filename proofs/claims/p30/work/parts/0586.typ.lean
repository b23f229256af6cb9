/-! ===== the reference's code as the machine's ===== -/
def cd_ (o v : Int) : Int := if o = 0 then v else if o = 1 then -(307 + v) else if o = 2 then 10000 + v else if o = 3 then -43 else if o = 4 then -45 else if o = 5 then -42 else if o = 6 then -47 else if o = 7 then -60 else if o = 8 then -61 else if o = 9 then -62 else if o = 10 then -306 else if o = 11 then -305 else -304
theorem cd_0 (v : Int) : cd_ 0 v = v := rfl
theorem cd_1 (v : Int) : cd_ 1 v = -(307 + v) := rfl
theorem cd_2 (v : Int) : cd_ 2 v = 10000 + v := rfl
theorem cd_3 (v : Int) : cd_ 3 v = -43 := rfl
theorem cd_4 (v : Int) : cd_ 4 v = -45 := rfl
theorem cd_5 (v : Int) : cd_ 5 v = -42 := rfl
theorem cd_6 (v : Int) : cd_ 6 v = -47 := rfl
theorem cd_7 (v : Int) : cd_ 7 v = -60 := rfl
theorem cd_8 (v : Int) : cd_ 8 v = -61 := rfl
theorem cd_9 (v : Int) : cd_ 9 v = -62 := rfl
theorem cd_10 (v : Int) : cd_ 10 v = -306 := rfl
theorem cd_11 (v : Int) : cd_ 11 v = -305 := rfl
theorem cd_12 (v : Int) : cd_ 12 v = -304 := rfl
def cs_ (op ar : Int → Int) (lo : Int) : Nat → List Int
  | 0 => []
  | k + 1 => cs_ op ar lo k ++ [cd_ (op (lo + (k : Int))) (ar (lo + (k : Int)))]
theorem cs_cg {op ar op2 ar2 : Int → Int} {lo : Int} : ∀ {k : Nat}, (∀ i : Nat, i < k → op2 (lo + (i : Int)) = op (lo + (i : Int)) ∧ ar2 (lo + (i : Int)) = ar (lo + (i : Int))) → cs_ op2 ar2 lo k = cs_ op ar lo k
  | 0, _ => rfl
  | k + 1, h => by rw [cs_, cs_, (h k (by omega)).1, (h k (by omega)).2, cs_cg (fun i hi => h i (by omega))]
def cL_ (op ar : Int → Int) (lo hi : Int) : List Int := cs_ op ar lo (hi - lo).toNat
theorem cL_0 {op ar : Int → Int} {lo hi : Int} (h : lo = hi) : cL_ op ar lo hi = [] := by
  unfold cL_
  rw [show (hi - lo).toNat = 0 by omega]
  rfl
theorem cL_ext {a b : Int → Int} {lo hi x y : Int} (hl : lo ≤ hi) : cL_ (upA a hi x) (upA b hi y) lo (hi + 1) = cL_ a b lo hi ++ [cd_ x y] := by
  unfold cL_
  rw [show (hi + 1 - lo).toNat = (hi - lo).toNat + 1 by omega, cs_, show lo + (((hi - lo).toNat : Nat) : Int) = hi by omega, upA_same, upA_same, cs_cg (fun i q => ⟨upA_ne (by omega), upA_ne (by omega)⟩)]
/-! ===== types of code: false a number, true a condition; N how deep the stack may be ===== -/
def Ty1_ (c : Int) (t u : List Bool) : Prop := ((0 ≤ c ∨ (-311 ≤ c ∧ c ≤ -307)) ∧ u = false :: t) ∨ (c = -306 ∧ ∃ r, t = true :: r ∧ u = true :: r) ∨ ((c = -43 ∨ c = -45 ∨ c = -42 ∨ c = -47) ∧ ∃ r, t = false :: false :: r ∧ u = false :: r) ∨ ((c = -60 ∨ c = -61 ∨ c = -62) ∧ ∃ r, t = false :: false :: r ∧ u = true :: r) ∨ ((c = -305 ∨ c = -304) ∧ ∃ r, t = true :: true :: r ∧ u = true :: r)
def Tyr_ (N : Nat) : List Int → List Bool → List Bool → Prop
  | [], t, u => t = u
  | c :: r, t, u => ∃ w, Ty1_ c t w ∧ w.length ≤ N ∧ Tyr_ N r w u
theorem Tyr_ap {N : Nat} : ∀ {a b : List Int} {t u w : List Bool}, Tyr_ N a t u → Tyr_ N b u w → Tyr_ N (a ++ b) t w
  | [], _, _, _, _, h, h2 => by cases h; exact h2
  | _ :: _, _, _, _, _, ⟨w, h1, h2, h3⟩, h4 => ⟨w, h1, h2, Tyr_ap h3 h4⟩
theorem Tyr_1 {N : Nat} {c : Int} {t u : List Bool} (h : Ty1_ c t u) (hn : u.length ≤ N) : Tyr_ N [c] t u := ⟨u, h, hn, rfl⟩
theorem Tyr_sn {N : Nat} {a : List Int} {c : Int} {t u w : List Bool} (h : Tyr_ N a t u) (h1 : Ty1_ c u w) (hn : w.length ≤ N) : Tyr_ N (a ++ [c]) t w := Tyr_ap h (Tyr_1 h1 hn)
theorem Ty1_fr {c : Int} {t u : List Bool} (b : List Bool) (h : Ty1_ c t u) : Ty1_ c (t ++ b) (u ++ b) := by
  rcases h with ⟨h, rfl⟩ | ⟨h, r, rfl, rfl⟩ | ⟨h, r, rfl, rfl⟩ | ⟨h, r, rfl, rfl⟩ | ⟨h, r, rfl, rfl⟩
  · exact Or.inl ⟨h, rfl⟩
  · exact Or.inr (Or.inl ⟨h, r ++ b, rfl, rfl⟩)
  · exact Or.inr (Or.inr (Or.inl ⟨h, r ++ b, rfl, rfl⟩))
  · exact Or.inr (Or.inr (Or.inr (Or.inl ⟨h, r ++ b, rfl, rfl⟩)))
  · exact Or.inr (Or.inr (Or.inr (Or.inr ⟨h, r ++ b, rfl, rfl⟩)))
theorem Tyr_fr {N M : Nat} (b : List Bool) (hM : N + b.length ≤ M) : ∀ {a : List Int} {t u : List Bool}, Tyr_ N a t u → Tyr_ M a (t ++ b) (u ++ b)
  | [], _, _, h => by cases h; exact rfl
  | _ :: _, _, _, ⟨w, h1, h2, h3⟩ => ⟨w ++ b, Ty1_fr b h1, by rw [List.length_append]; omega, Tyr_fr b hM h3⟩
/-! ===== the machine's code is well typed ===== -/
def pnd_ : List Int → List Bool
  | [] => []
  | x :: r => if x = 42 ∨ x = 43 ∨ x = 45 ∨ x = 60 ∨ x = 61 ∨ x = 62 then false :: pnd_ r else if x = 305 ∨ x = 304 then true :: pnd_ r else pnd_ r
theorem pnd_f {x : Int} {r : List Int} (h : x = 42 ∨ x = 43 ∨ x = 45 ∨ x = 60 ∨ x = 61 ∨ x = 62) : pnd_ (x :: r) = false :: pnd_ r := if_pos h
theorem pnd_t {x : Int} {r : List Int} (h : x = 305 ∨ x = 304) : pnd_ (x :: r) = true :: pnd_ r := by
  show (if x = 42 ∨ x = 43 ∨ x = 45 ∨ x = 60 ∨ x = 61 ∨ x = 62 then false :: pnd_ r else if x = 305 ∨ x = 304 then true :: pnd_ r else pnd_ r) = true :: pnd_ r
  rw [if_neg (by omega), if_pos h]
theorem pnd_n {x : Int} {r : List Int} (h : x = 306 ∨ x = 13 ∨ x = 302 ∨ x = 303) : pnd_ (x :: r) = pnd_ r := by
  show (if x = 42 ∨ x = 43 ∨ x = 45 ∨ x = 60 ∨ x = 61 ∨ x = 62 then false :: pnd_ r else if x = 305 ∨ x = 304 then true :: pnd_ r else pnd_ r) = pnd_ r
  rw [if_neg (by omega), if_neg (by omega)]
theorem opn_y {x : Int} {r : List Int} (h : x = 306 ∨ x = 13) : opn_ (x :: r) = opn_ r + 1 := by
  show opn_ r + (if x = 306 ∨ x = 13 then 1 else 0) = opn_ r + 1
  rw [if_pos h]
theorem opn_n {x : Int} {r : List Int} (h : ¬ (x = 306 ∨ x = 13)) : opn_ (x :: r) = opn_ r := by
  show opn_ r + (if x = 306 ∨ x = 13 then 1 else 0) = opn_ r
  rw [if_neg h]
  omega
/-- what waits in conditions -/
def CS_ : List Int → Prop
  | [] => False
  | x :: r => ((x = 302 ∨ x = 303) ∧ r = []) ∨ ((x = 306 ∨ x = 13) ∧ CS_ r) ∨ (x = 304 ∧ CS_ r ∧ ¬ (r.headD 0 = 304 ∨ r.headD 0 = 305 ∨ r.headD 0 = 306)) ∨ (x = 305 ∧ CS_ r ∧ ¬ (r.headD 0 = 305 ∨ r.headD 0 = 306))
def btm_ : List Int → Int
  | [] => 0
  | x :: r => if r = [] then x else btm_ r
theorem CS_ne {r : List Int} (h : CS_ r) : r ≠ [] := fun e => by rw [e] at h; exact h
theorem btm_c {x : Int} {r : List Int} (h : CS_ r) : btm_ (x :: r) = btm_ r := if_neg (CS_ne h)
theorem CS_len : ∀ st : List Int, CS_ st → ((pnd_ st).length : Int) ≤ 2 * opn_ st + 2 ∧ (¬ st.headD 0 = 305 → ((pnd_ st).length : Int) ≤ 2 * opn_ st + 1) ∧ (¬ st.headD 0 = 305 → ¬ st.headD 0 = 304 → ((pnd_ st).length : Int) ≤ 2 * opn_ st)
  | [], h => h.elim
  | x :: r, h => by
    have hd : (x :: r).headD 0 = x := rfl
    rcases h with ⟨hx, hr⟩ | ⟨hx, hr⟩ | ⟨hx, hr, hn⟩ | ⟨hx, hr, hn⟩
    · subst hr
      rw [pnd_n (by omega), opn_n (by omega)]
      have e1 : (pnd_ []).length = 0 := rfl
      have e2 : opn_ [] = 0 := rfl
      rw [e1, e2]
      exact ⟨by decide, fun _ => by decide, fun _ _ => by decide⟩
    · have q := CS_len r hr
      rw [pnd_n (by omega), opn_y hx]
      exact ⟨by omega, fun _ => by omega, fun _ _ => by omega⟩
    · have q := (CS_len r hr).2.2 (by omega) (by omega)
      rw [pnd_t (by omega), opn_n (by omega), List.length_cons, hd]
      exact ⟨by omega, fun _ => by omega, fun _ h4 => absurd hx h4⟩
    · have q := (CS_len r hr).2.1 (by omega)
      rw [pnd_t (by omega), opn_n (by omega), List.length_cons, hd]
      exact ⟨by omega, fun h5 => absurd hx h5, fun h5 => absurd hx h5⟩
def Ar_ (st rs : List Int) : Prop := st = rs ∨ st = 42 :: rs ∨ ∃ w : Int, (w = 43 ∨ w = 45) ∧ (st = w :: rs ∨ st = 42 :: w :: rs)
def TyN_ (s : List Int) : Prop := Tyr_ 23 s [] [false]
def TyB_ (s : List Int) : Prop := s = [] ∨ Tyr_ 23 s [] [true]
def Sg_ (b : Int) (sg : List (List Int)) : Prop := (b = 302 ∧ ∃ s1, sg = [s1] ∧ TyN_ s1) ∨ (b = 303 ∧ ∃ s2 s1, sg = [s2, s1] ∧ TyN_ s1 ∧ TyB_ s2)
def Cn_ (st : List Int) (sg : List (List Int)) : Prop := CS_ st ∧ opn_ st ≤ 8 ∧ Sg_ (btm_ st) sg
def Hd_ (c : Nat) (rs : List Int) (sg : List (List Int)) : Prop := (c = 0 ∧ rs = [] ∧ sg = []) ∨ (c = 1 ∧ Cn_ rs sg) ∨ (c = 2 ∧ ∃ w r, (w = 60 ∨ w = 61 ∨ w = 62) ∧ rs = w :: r ∧ Cn_ r sg)
def Iv_ (s : MS_) : Prop := match s with
  | (0, _, _, _, _, _) => True
  | (1, c, _, st, out, sg) => ∃ rs, Hd_ c rs sg ∧ Ar_ st rs ∧ Tyr_ 23 out [] (pnd_ st)
  | (2, c, _, st, out, sg) => ∃ rs, Hd_ c rs sg ∧ Ar_ st rs ∧ Tyr_ 23 out [] (false :: pnd_ st)
  | (3, _, _, _, _, sg) => ∃ s1, sg = [s1] ∧ TyN_ s1
  | (4, _, _, st, out, sg) => Cn_ st sg ∧ Tyr_ 23 out [] (pnd_ st)
  | (5, _, _, st, out, sg) => Cn_ st sg ∧ Tyr_ 23 out [] (true :: pnd_ st)
  | (6, _, _, _, _, sg) => ∃ s2 s1, sg = [s2, s1] ∧ TyN_ s1 ∧ TyB_ s2
  | (7, _, _, _, _, sg) => ∃ s3 s2 s1, sg = [s3, s2, s1] ∧ TyN_ s1 ∧ TyB_ s2 ∧ TyB_ s3
  | (8, _, _, _, _, sg) => ∃ s3 s2 s1, sg = [s3, s2, s1] ∧ TyN_ s1 ∧ TyB_ s2 ∧ TyB_ s3
  | (9, _, _, _, _, sg) => ∃ s3 s2 s1, sg = [s3, s2, s1] ∧ TyN_ s1 ∧ TyB_ s2 ∧ TyB_ s3
  | _ => True
theorem Iv_ft {k : Nat} {a : Int} : Iv_ (ft_ k a) := by
  rw [show ft_ k a = (k + 10, 0, a, [], [], []) by unfold ft_; rw [Nat.add_comm]]
  exact trivial
theorem Cn_len {st : List Int} {sg : List (List Int)} (h : Cn_ st sg) : (pnd_ st).length ≤ 18 := by
  have q := (CS_len st h.1).1
  have := h.2.1
  omega
theorem Hd_len {c : Nat} {rs : List Int} {sg : List (List Int)} (h : Hd_ c rs sg) : (pnd_ rs).length ≤ 19 := by
  rcases h with ⟨-, rfl, -⟩ | ⟨-, h⟩ | ⟨-, w, r, hw, rfl, h⟩
  · exact Nat.zero_le _
  · have := Cn_len h; omega
  · have := Cn_len h
    rw [pnd_f (by omega), List.length_cons]
    omega
theorem Ar_len {st rs : List Int} (h : Ar_ st rs) : (pnd_ st).length ≤ (pnd_ rs).length + 2 := by
  rcases h with rfl | rfl | ⟨w, hw, rfl | rfl⟩
  · omega
  · rw [pnd_f (by omega), List.length_cons]; omega
  · rw [pnd_f (by omega), List.length_cons]; omega
  · rw [pnd_f (by omega), pnd_f (by omega), List.length_cons, List.length_cons]; omega
theorem st_len {c : Nat} {st rs : List Int} {sg : List (List Int)} (h : Hd_ c rs sg) (h2 : Ar_ st rs) : (pnd_ st).length ≤ 21 := by
  have := Hd_len h
  have := Ar_len h2
  omega
/-- the head of what waits below a sum -/
theorem Hd_hd {c : Nat} {rs : List Int} {sg : List (List Int)} (h : Hd_ c rs sg) : ¬ rs.headD 0 = 42 ∧ ¬ rs.headD 0 = 43 ∧ ¬ rs.headD 0 = 45 := by
  rcases h with ⟨-, rfl, -⟩ | ⟨-, h, -⟩ | ⟨-, w, r, hw, rfl, h⟩
  · exact ⟨by decide, by decide, by decide⟩
  · cases rs with
    | nil => exact h.elim
    | cons x r =>
      have e : (x :: r).headD 0 = x := rfl
      rw [e]
      rcases h with h | h | h | h <;> exact ⟨by omega, by omega, by omega⟩
  · have e : (w :: r).headD 0 = w := rfl
    rw [e]
    exact ⟨by omega, by omega, by omega⟩
theorem Ar_42 {st rs : List Int} (h : Ar_ st rs) (hn : ¬ rs.headD 0 = 42) (h42 : st.headD 0 = 42) : ∃ r, st = 42 :: r ∧ Ar_ r rs ∧ ¬ r.headD 0 = 42 := by
  rcases h with rfl | rfl | ⟨w, hw, rfl | rfl⟩
  · exact absurd h42 hn
  · exact ⟨rs, rfl, Or.inl rfl, hn⟩
  · have h42 : w = 42 := h42
    exfalso; omega
  · exact ⟨w :: rs, rfl, Or.inr (Or.inr ⟨w, hw, Or.inl rfl⟩), show ¬ w = 42 by omega⟩
theorem Ar_4n {st rs : List Int} (h : Ar_ st rs) (h42 : ¬ st.headD 0 = 42) : st = rs ∨ ∃ w : Int, (w = 43 ∨ w = 45) ∧ st = w :: rs := by
  rcases h with rfl | rfl | ⟨w, hw, rfl | rfl⟩
  · exact Or.inl rfl
  · exact absurd rfl h42
  · exact Or.inr ⟨w, hw, rfl⟩
  · exact absurd rfl h42
theorem Ar_p42 {st rs : List Int} (h : Ar_ st rs) (h42 : ¬ st.headD 0 = 42) : Ar_ (42 :: st) rs := by
  rcases Ar_4n h h42 with rfl | ⟨w, hw, rfl⟩
  · exact Or.inr (Or.inl rfl)
  · exact Or.inr (Or.inr ⟨w, hw, Or.inr rfl⟩)
theorem Ar_0 {st rs : List Int} (h : Ar_ st rs) (h42 : ¬ st.headD 0 = 42) (h43 : ¬ (st.headD 0 = 43 ∨ st.headD 0 = 45)) : st = rs := by
  rcases Ar_4n h h42 with h | ⟨w, hw, rfl⟩
  · exact h
  · exact absurd hw h43
section IvS
variable {K V : Int → Int} {c : Nat} {a : Int} {st out : List Int} {sg : List (List Int)}
theorem Iv_U (hv : ∀ j, 0 ≤ j → K j = 3 → 0 ≤ V j) (h0 : 0 ≤ a) (h : Iv_ (1, c, a, st, out, sg)) : Iv_ (sU_ K V c a st out sg) := by
  obtain ⟨rs, h1, h2, h3⟩ := h
  have hl := st_len h1 h2
  unfold sU_
  by_cases e1 : K a = 312
  · rw [if_pos e1]
    by_cases e2 : K (a + 1) = 3
    · rw [if_pos e2]
      by_cases e3 : V (a + 1) < 24
      · rw [if_pos e3]
        have := hv _ (by omega) e2
        exact ⟨rs, h1, h2, Tyr_sn h3 (Or.inl ⟨Or.inl (by omega), rfl⟩) (by rw [List.length_cons]; omega)⟩
      · rw [if_neg e3]; exact Iv_ft
    · rw [if_neg e2]; exact Iv_ft
  · rw [if_neg e1]
    by_cases e2 : 307 ≤ K a ∧ K a ≤ 311
    · rw [if_pos e2]
      exact ⟨rs, h1, h2, Tyr_sn h3 (Or.inl ⟨Or.inr (by omega), rfl⟩) (by rw [List.length_cons]; omega)⟩
    · rw [if_neg e2]
      by_cases e3 : K a = 3
      · rw [if_pos e3]
        exact ⟨rs, h1, h2, Tyr_sn h3 (Or.inl ⟨Or.inl (hv _ h0 e3), rfl⟩) (by rw [List.length_cons]; omega)⟩
      · rw [if_neg e3]; exact Iv_ft
theorem Iv_P (hv : ∀ j, 0 ≤ j → K j = 3 → 0 ≤ V j) (h0 : 0 ≤ a) (h : Iv_ (2, c, a, st, out, sg)) : Iv_ (sP_ K V c a st out sg) := by
  obtain ⟨rs, h1, h2, h3⟩ := h
  have hl := st_len h1 h2
  have hh := Hd_hd h1
  unfold sP_
  by_cases e1 : st.headD 0 = 42
  · rw [if_pos e1]
    obtain ⟨r, rfl, q2, q3⟩ := Ar_42 h2 hh.1 e1
    rw [pnd_f (Or.inl rfl)] at h3 hl
    rw [List.length_cons] at hl
    exact ⟨rs, h1, q2, Tyr_sn h3 (Or.inr (Or.inr (Or.inl ⟨by omega, _, rfl, rfl⟩))) (by rw [List.length_cons]; show (pnd_ r).length + 1 ≤ 23; omega)⟩
  · rw [if_neg e1]
    by_cases e2 : K a = 42
    · rw [if_pos e2]
      exact ⟨rs, h1, Ar_p42 h2 e1, by rw [pnd_f (Or.inl rfl)]; exact h3⟩
    · rw [if_neg e2]
      by_cases e3 : K a = 47
      · rw [if_pos e3]
        by_cases e4 : K (a + 1) = 3
        · rw [if_pos e4]
          by_cases e5 : V (a + 1) = 0
          · rw [if_pos e5]; exact Iv_ft
          · rw [if_neg e5]
            refine ⟨rs, h1, h2, ?_⟩
            rw [show out ++ [V (a + 1), -47] = out ++ [V (a + 1)] ++ [-47] by rw [List.append_assoc]; rfl]
            exact Tyr_sn (Tyr_sn h3 (Or.inl ⟨Or.inl (hv _ (by omega) e4), rfl⟩) (by rw [List.length_cons, List.length_cons]; omega)) (Or.inr (Or.inr (Or.inl ⟨by omega, _, rfl, rfl⟩))) (by rw [List.length_cons]; omega)
        · rw [if_neg e4]; exact Iv_ft
      · rw [if_neg e3]
        by_cases e4 : st.headD 0 = 43 ∨ st.headD 0 = 45
        · rw [if_pos e4]
          rcases Ar_4n h2 e1 with q | ⟨w, hw, q⟩
          · rw [q] at e4; exfalso; omega
          · subst q
            rw [pnd_f (by omega)] at h3 hl
            rw [List.length_cons] at hl
            exact ⟨rs, h1, Or.inl rfl, Tyr_sn h3 (Or.inr (Or.inr (Or.inl ⟨show -w = -43 ∨ -w = -45 ∨ -w = -42 ∨ -w = -47 by omega, _, rfl, rfl⟩))) (by rw [List.length_cons]; show (pnd_ rs).length + 1 ≤ 23; omega)⟩
        · rw [if_neg e4]
          have e0 := Ar_0 h2 e1 e4
          subst e0
          by_cases e5 : K a = 43 ∨ K a = 45
          · rw [if_pos e5]
            exact ⟨st, h1, Or.inr (Or.inr ⟨K a, e5, Or.inl rfl⟩), by rw [pnd_f (by omega)]; exact h3⟩
          · rw [if_neg e5]
            by_cases e6 : c = 0
            · rw [if_pos e6]
              rcases h1 with ⟨-, q1, q2⟩ | ⟨q, -⟩ | ⟨q, -⟩
              · subst q1 q2; exact ⟨out, rfl, h3⟩
              · exfalso; omega
              · exfalso; omega
            · rw [if_neg e6]
              by_cases e7 : c = 1
              · rw [if_pos e7]
                by_cases e8 : K a = 60 ∨ K a = 61 ∨ K a = 62
                · rw [if_pos e8]
                  rcases h1 with ⟨q, -⟩ | ⟨-, q⟩ | ⟨q, -⟩
                  · exfalso; omega
                  · exact ⟨K a :: st, Or.inr (Or.inr ⟨rfl, K a, st, e8, rfl, q⟩), Or.inl rfl, by rw [pnd_f (by omega)]; exact h3⟩
                  · exfalso; omega
                · rw [if_neg e8]; exact Iv_ft
              · rw [if_neg e7]
                rcases h1 with ⟨q, -⟩ | ⟨q, -⟩ | ⟨-, w, r, hw, q, hc⟩
                · exact absurd q e6
                · exact absurd q e7
                · subst q
                  rw [pnd_f (by omega)] at h3 hl
                  rw [List.length_cons] at hl
                  exact ⟨hc, Tyr_sn h3 (Or.inr (Or.inr (Or.inr (Or.inl ⟨show -w = -60 ∨ -w = -61 ∨ -w = -62 by omega, _, rfl, rfl⟩)))) (by rw [List.length_cons]; show (pnd_ r).length + 1 ≤ 23; omega)⟩
theorem Iv_D (h : Iv_ (4, c, a, st, out, sg)) : Iv_ (sD_ K a st out sg) := by
  obtain ⟨⟨h1, h2, h3⟩, h4⟩ := h
  unfold sD_
  by_cases e1 : K a = 306 ∨ K a = 40
  · rw [if_pos e1]
    by_cases e2 : 8 ≤ opn_ st
    · rw [if_pos e2]; exact Iv_ft
    · rw [if_neg e2]
      have key : ∀ x : Int, x = 306 ∨ x = 13 → Iv_ (4, 0, a + 1, x :: st, out, sg) := fun x hx => ⟨⟨Or.inr (Or.inl ⟨hx, h1⟩), by rw [opn_y hx]; omega, by rw [btm_c h1]; exact h3⟩, by rw [pnd_n (by omega)]; exact h4⟩
      by_cases e3 : K a = 306
      · rw [if_pos e3]; exact key 306 (Or.inl rfl)
      · rw [if_neg e3]; exact key 13 (Or.inr rfl)
  · rw [if_neg e1]
    exact ⟨st, Or.inr (Or.inl ⟨rfl, h1, h2, h3⟩), Or.inl rfl, h4⟩
theorem Iv_C (h : Iv_ (5, c, a, st, out, sg)) : Iv_ (sC_ K a st out sg) := by
  obtain ⟨⟨h1, h2, h3⟩, h4⟩ := h
  have hl := Cn_len ⟨h1, h2, h3⟩
  cases st with
  | nil => exact h1.elim
  | cons x r =>
    have ed : (x :: r).headD 0 = x := rfl
    have et : (x :: r).tail = r := rfl
    unfold sC_
    rw [ed, et]
    by_cases e1 : x = 306 ∨ x = 305
    · rw [if_pos e1]
      rcases h1 with ⟨hx, hr⟩ | ⟨hx, hr⟩ | ⟨hx, hr, hn⟩ | ⟨hx, hr, hn⟩
      · exfalso; omega
      · rw [opn_y hx] at h2
        rw [btm_c hr] at h3
        rw [pnd_n (by omega)] at h4 hl
        refine ⟨⟨hr, by omega, h3⟩, Tyr_sn h4 (Or.inr (Or.inl ⟨show -x = -306 by omega, _, rfl, rfl⟩)) (by rw [List.length_cons]; omega)⟩
      · exfalso; omega
      · rw [opn_n (by omega)] at h2
        rw [btm_c hr] at h3
        rw [pnd_t (by omega)] at h4 hl
        rw [List.length_cons] at hl
        refine ⟨⟨hr, by omega, h3⟩, Tyr_sn h4 (Or.inr (Or.inr (Or.inr (Or.inr ⟨show -x = -305 ∨ -x = -304 by omega, _, rfl, rfl⟩)))) (by rw [List.length_cons]; omega)⟩
    · rw [if_neg e1]
      by_cases e2 : K a = 305
      · rw [if_pos e2]
        exact ⟨⟨Or.inr (Or.inr (Or.inr ⟨rfl, h1, show ¬ (x = 305 ∨ x = 306) by omega⟩)), by rw [opn_n (by omega)]; exact h2, by rw [btm_c h1]; exact h3⟩, by rw [pnd_t (Or.inl rfl)]; exact h4⟩
      · rw [if_neg e2]
        by_cases e3 : x = 304
        · rw [if_pos e3]
          rcases h1 with ⟨hx, hr⟩ | ⟨hx, hr⟩ | ⟨hx, hr, hn⟩ | ⟨hx, hr, hn⟩
          · exfalso; omega
          · exfalso; omega
          · rw [opn_n (by omega)] at h2
            rw [btm_c hr] at h3
            rw [pnd_t (by omega)] at h4 hl
            rw [List.length_cons] at hl
            refine ⟨⟨hr, by omega, h3⟩, Tyr_sn h4 (Or.inr (Or.inr (Or.inr (Or.inr ⟨by omega, _, rfl, rfl⟩)))) (by rw [List.length_cons]; omega)⟩
          · exfalso; omega
        · rw [if_neg e3]
          by_cases e4 : K a = 304
          · rw [if_pos e4]
            exact ⟨⟨Or.inr (Or.inr (Or.inl ⟨rfl, h1, show ¬ (x = 304 ∨ x = 305 ∨ x = 306) by omega⟩)), by rw [opn_n (by omega)]; exact h2, by rw [btm_c h1]; exact h3⟩, by rw [pnd_t (Or.inr rfl)]; exact h4⟩
          · rw [if_neg e4]
            by_cases e5 : x = 13
            · rw [if_pos e5]
              by_cases e6 : K a = 41
              · rw [if_pos e6]
                rcases h1 with ⟨hx, hr⟩ | ⟨hx, hr⟩ | ⟨hx, hr, hn⟩ | ⟨hx, hr, hn⟩
                · exfalso; omega
                · rw [opn_y hx] at h2
                  rw [btm_c hr] at h3
                  rw [pnd_n (by omega)] at h4
                  exact ⟨⟨hr, by omega, h3⟩, h4⟩
                · exfalso; omega
                · exfalso; omega
              · rw [if_neg e6]; exact Iv_ft
            · rw [if_neg e5]
              rcases h1 with ⟨hx, hr⟩ | ⟨hx, hr⟩ | ⟨hx, hr, hn⟩ | ⟨hx, hr, hn⟩
              · subst hr
                rw [pnd_n (by omega)] at h4
                have eb : btm_ [x] = x := rfl
                rw [eb] at h3
                by_cases e6 : x = 302
                · rw [if_pos e6]
                  rcases h3 with ⟨-, s1, rfl, q⟩ | ⟨q, -⟩
                  · exact ⟨out, s1, rfl, q, Or.inr h4⟩
                  · exfalso; omega
                · rw [if_neg e6]
                  rcases h3 with ⟨q, -⟩ | ⟨-, s2, s1, rfl, q, q2⟩
                  · exact absurd q e6
                  · exact ⟨out, s2, s1, rfl, q, q2, Or.inr h4⟩
              · exfalso; omega
              · exfalso; omega
              · exfalso; omega
theorem Iv_0 : Iv_ (if K a = 301 then (1, 0, a + 1, [], [], []) else ft_ 1 a : MS_) := by
  by_cases e : K a = 301
  · rw [if_pos e]; exact ⟨[], Or.inl ⟨rfl, rfl, rfl⟩, Or.inl rfl, rfl⟩
  · rw [if_neg e]; exact Iv_ft
theorem Iv_3 (h : ∃ s1, sg = [s1] ∧ TyN_ s1) : Iv_ (if K a = 302 then (4, 0, a + 1, [302], [], sg) else (6, 0, a, [], [], [] :: sg) : MS_) := by
  obtain ⟨s1, rfl, h⟩ := h
  by_cases e : K a = 302
  · rw [if_pos e]
    exact ⟨⟨Or.inl ⟨Or.inl rfl, rfl⟩, by decide, Or.inl ⟨rfl, s1, rfl, h⟩⟩, rfl⟩
  · rw [if_neg e]; exact ⟨[], s1, rfl, h, Or.inl rfl⟩
theorem Iv_6 (h : ∃ s2 s1, sg = [s2, s1] ∧ TyN_ s1 ∧ TyB_ s2) : Iv_ (if K a = 303 then (4, 0, a + 1, [303], [], sg) else (7, 0, a, [], [], [] :: sg) : MS_) := by
  obtain ⟨s2, s1, rfl, h, h2⟩ := h
  by_cases e : K a = 303
  · rw [if_pos e]
    exact ⟨⟨Or.inl ⟨Or.inr rfl, rfl⟩, by decide, Or.inr ⟨rfl, s2, s1, rfl, h, h2⟩⟩, rfl⟩
  · rw [if_neg e]; exact ⟨[], s2, s1, rfl, h, h2, Or.inl rfl⟩
theorem Iv_7 (h : ∃ s3 s2 s1, sg = [s3, s2, s1] ∧ TyN_ s1 ∧ TyB_ s2 ∧ TyB_ s3) : Iv_ (if K a = 59 then (8, 0, a + 1, [], [], sg) else ft_ 1 a : MS_) := by
  by_cases e : K a = 59
  · rw [if_pos e]; exact h
  · rw [if_neg e]; exact Iv_ft
theorem Iv_8 (h : ∃ s3 s2 s1, sg = [s3, s2, s1] ∧ TyN_ s1 ∧ TyB_ s2 ∧ TyB_ s3) : Iv_ (if K a = 1 then (9, 0, a, [], [], sg) else ft_ 1 a : MS_) := by
  by_cases e : K a = 1
  · rw [if_pos e]; exact h
  · rw [if_neg e]; exact Iv_ft
end IvS
theorem Iv_stp {K V : Int → Int} (hv : ∀ j, 0 ≤ j → K j = 3 → 0 ≤ V j) : ∀ s : MS_, 0 ≤ pos_ s → Iv_ s → Iv_ (stp_ K V s)
  | (0, _, _, _, _, _), _, _ => Iv_0
  | (1, _, _, _, _, _), h0, h => Iv_U hv h0 h
  | (2, _, _, _, _, _), h0, h => Iv_P hv h0 h
  | (3, _, _, _, _, _), _, h => Iv_3 h
  | (4, _, _, _, _, _), _, h => Iv_D h
  | (5, _, _, _, _, _), _, h => Iv_C h
  | (6, _, _, _, _, _), _, h => Iv_6 h
  | (7, _, _, _, _, _), _, h => Iv_7 h
  | (8, _, _, _, _, _), _, h => Iv_8 h
  | (9, _, _, _, _, _), _, h => h
  | (_ + 10, _, _, _, _, _), _, _ => trivial
theorem Iv_itr {K V : Int → Int} (hv : ∀ j, 0 ≤ j → K j = 3 → 0 ≤ V j) : ∀ (k : Nat) (s : MS_), 0 ≤ pos_ s → Iv_ s → (itr_ K V k s).1 ≤ 9 → Iv_ (itr_ K V k s)
  | 0, _, _, h, _ => h
  | k + 1, s, h0, h, h9 => by
    have h1 : (stp_ K V s).1 ≤ 9 := by
      by_cases q : (stp_ K V s).1 ≤ 9
      · exact q
      · have h9 : (itr_ K V k (stp_ K V s)).1 ≤ 9 := h9
        rw [itr_9 q] at h9
        exact h9
    exact Iv_itr hv k (stp_ K V s) (Int.le_trans h0 (stp_ok s h1).1) (Iv_stp hv s h0 h) h9
/-- an accepted text's clauses -/
theorem Iv_acc {K V : Int → Int} (hv : ∀ j, 0 ≤ j → K j = 3 → 0 ≤ V j) {a : Int} {sg : List (List Int)} (h : Rch_ K V (0, 0, 0, [], [], []) (9, 0, a, [], [], sg)) : ∃ s3 s2 s1, sg = [s3, s2, s1] ∧ TyN_ s1 ∧ TyB_ s2 ∧ TyB_ s3 := by
  obtain ⟨k, hk⟩ := h
  have q := Iv_itr hv k (0, 0, 0, [], [], []) (Int.le_refl 0) trivial (by rw [hk]; exact Nat.le_refl 9)
  rw [hk] at q
  exact q
/-! ===== what code is worth ===== -/
def w32_ (z : Int) : Int := (J z).toInt
theorem w32_R (z : Int) : inR (w32_ z) := inR_toInt _
theorem w32_of {z x : Int} (h : inR z) (e : J z = J x) : z = w32_ x := by
  unfold w32_
  rw [← e, J_toInt h]
theorem w32_id {z : Int} (h : inR z) : w32_ z = z := J_toInt h
def jn_ (k a b : Int) : Int := if k = 43 then w32_ (a + b) else if k = 45 then w32_ (a - b) else if k = 42 then w32_ (a * b) else if k = 47 then (if b = 0 then 0 else (J a / J b).toInt) else if k = 60 then (if a < b then 1 else 0) else if k = 61 then (if a = b then 1 else 0) else if k = 62 then (if b < a then 1 else 0) else if k = 305 then (J a &&& J b).toInt else if k = 304 then (J a ||| J b).toInt else 0
def tw_ (k a b : Int) : Int := if k = 43 then w32_ (a + b) else if k = 45 then w32_ (a - b) else if k = 42 then w32_ (a * b) else if k = 47 then (if b = 0 then 0 else (J a / J b).toInt) else if k = 60 then (if a < b then 1 else 0) else if k = 61 then (if a = b then 1 else 0) else if k = 62 then (if b < a then 1 else 0) else if k = 305 then w32_ (a * b) else if 0 < w32_ (a + b) then 1 else 0
def ev1_ (F O : Int → Int) (l c : Int) (s : List Int) : List Int := if 10000 ≤ c then (if c - 10000 < l then O (c - 10000) else 0) :: s else if 0 ≤ c then c :: s else if 307 ≤ -c ∧ -c ≤ 311 then F (-c - 307) :: s else if c = -306 then (if s.headD 0 = 0 then 1 else 0) :: s.tail else jn_ (-c) (s.tail.headD 0) (s.headD 0) :: s.tail.tail
def er1_ (F O : Int → Int) (l c : Int) (s : List Int) : List Int := if 10000 ≤ c then (if c - 10000 < l then O (c - 10000) else 0) :: s else if 0 ≤ c then c :: s else if 307 ≤ -c ∧ -c ≤ 311 then F (-c - 307) :: s else if c = -306 then w32_ (1 - s.headD 0) :: s.tail else tw_ (-c) (s.tail.headD 0) (s.headD 0) :: s.tail.tail
def evs_ (F O : Int → Int) (l : Int) : List Int → List Int → List Int
  | [], s => s
  | c :: r, s => evs_ F O l r (ev1_ F O l c s)
def ers_ (F O : Int → Int) (l : Int) : List Int → List Int → List Int
  | [], s => s
  | c :: r, s => ers_ F O l r (er1_ F O l c s)
def Vt_ : List Bool → List Int → Prop
  | [], s => s = []
  | b :: t, s => ∃ x r, s = x :: r ∧ (b = true → x = 0 ∨ x = 1) ∧ Vt_ t r
section Evs
variable {F O : Int → Int} {l : Int}
theorem evs_ap : ∀ (a b s : List Int), evs_ F O l (a ++ b) s = evs_ F O l b (evs_ F O l a s)
  | [], _, _ => rfl
  | c :: r, b, s => evs_ap r b (ev1_ F O l c s)
theorem Vt_len : ∀ {t : List Bool} {s : List Int}, Vt_ t s → s.length = t.length
  | [], s, h => by
    have h : s = [] := h
    rw [h]; rfl
  | _ :: _, _, ⟨_, _, h, _, h2⟩ => by rw [h, List.length_cons, List.length_cons, Vt_len h2]
theorem bl_and {a b : Int} (ha : a = 0 ∨ a = 1) (hb : b = 0 ∨ b = 1) : w32_ (a * b) = (J a &&& J b).toInt ∧ ((J a &&& J b).toInt = 0 ∨ (J a &&& J b).toInt = 1) := by
  rcases ha with rfl | rfl <;> rcases hb with rfl | rfl <;> exact ⟨by decide +kernel, by decide +kernel⟩
theorem bl_or {a b : Int} (ha : a = 0 ∨ a = 1) (hb : b = 0 ∨ b = 1) : (if 0 < w32_ (a + b) then (1 : Int) else 0) = (J a ||| J b).toInt ∧ ((J a ||| J b).toInt = 0 ∨ (J a ||| J b).toInt = 1) := by
  rcases ha with rfl | rfl <;> rcases hb with rfl | rfl <;> exact ⟨by decide +kernel, by decide +kernel⟩
theorem bl_not {a : Int} (ha : a = 0 ∨ a = 1) : w32_ (1 - a) = (if a = 0 then 1 else 0) ∧ ((if a = 0 then (1 : Int) else 0) = 0 ∨ (if a = 0 then (1 : Int) else 0) = 1) := by
  rcases ha with rfl | rfl <;> exact ⟨by decide +kernel, by decide +kernel⟩
theorem ite_lt01 (a b : Int) : (if a < b then (1 : Int) else 0) = 0 ∨ (if a < b then (1 : Int) else 0) = 1 := by
  split
  · exact Or.inr rfl
  · exact Or.inl rfl
theorem ite_eq01 (a b : Int) : (if a = b then (1 : Int) else 0) = 0 ∨ (if a = b then (1 : Int) else 0) = 1 := by
  split
  · exact Or.inr rfl
  · exact Or.inl rfl
theorem jn_same {k a b : Int} (h : ¬ k = 305) (h2 : ¬ k = 304) (h3 : k = 43 ∨ k = 45 ∨ k = 42 ∨ k = 47 ∨ k = 60 ∨ k = 61 ∨ k = 62) : tw_ k a b = jn_ k a b := by
  unfold tw_ jn_
  rcases h3 with rfl | rfl | rfl | rfl | rfl | rfl | rfl <;> rfl
/-- one step: both ways of reckoning agree on what is well typed, and nothing below is touched -/
theorem ev1_ok {c : Int} {t u : List Bool} {s : List Int} (h : Ty1_ c t u) (hs : Vt_ t s) : er1_ F O l c s = ev1_ F O l c s ∧ Vt_ u (ev1_ F O l c s) ∧ ∀ b, ev1_ F O l c (s ++ b) = ev1_ F O l c s ++ b := by
  unfold er1_ ev1_
  by_cases e1 : 10000 ≤ c
  · simp only [if_pos e1]
    rcases h with ⟨-, rfl⟩ | ⟨h, -⟩ | ⟨h, -⟩ | ⟨h, -⟩ | ⟨h, -⟩
    · exact ⟨by first | rfl | trivial, ⟨_, _, rfl, fun q => absurd q (by decide), hs⟩, fun b => by first | rfl | trivial⟩
    · exfalso; omega
    · exfalso; omega
    · exfalso; omega
    · exfalso; omega
  · simp only [if_neg e1]
    by_cases e2 : 0 ≤ c
    · simp only [if_pos e2]
      rcases h with ⟨-, rfl⟩ | ⟨h, -⟩ | ⟨h, -⟩ | ⟨h, -⟩ | ⟨h, -⟩
      · exact ⟨by first | rfl | trivial, ⟨_, _, rfl, fun q => absurd q (by decide), hs⟩, fun b => by first | rfl | trivial⟩
      · exfalso; omega
      · exfalso; omega
      · exfalso; omega
      · exfalso; omega
    · simp only [if_neg e2]
      by_cases e3 : 307 ≤ -c ∧ -c ≤ 311
      · simp only [if_pos e3]
        rcases h with ⟨-, rfl⟩ | ⟨h, -⟩ | ⟨h, -⟩ | ⟨h, -⟩ | ⟨h, -⟩
        · exact ⟨by first | rfl | trivial, ⟨_, _, rfl, fun q => absurd q (by decide), hs⟩, fun b => by first | rfl | trivial⟩
        · exfalso; omega
        · exfalso; omega
        · exfalso; omega
        · exfalso; omega
      · simp only [if_neg e3]
        by_cases e4 : c = -306
        · simp only [if_pos e4]
          rcases h with ⟨h, -⟩ | ⟨h, r, rfl, rfl⟩ | ⟨h, -⟩ | ⟨h, -⟩ | ⟨h, -⟩
          · exfalso; omega
          · obtain ⟨x, r2, rfl, hx, hr⟩ := hs
            have q := bl_not (hx rfl)
            have ed : (x :: r2).headD 0 = x := rfl
            have et : (x :: r2).tail = r2 := rfl
            rw [ed, et, q.1]
            exact ⟨rfl, ⟨_, _, rfl, fun _ => q.2, hr⟩, fun b => rfl⟩
          · exfalso; omega
          · exfalso; omega
          · exfalso; omega
        · simp only [if_neg e4]
          rcases h with ⟨h, -⟩ | ⟨h, -⟩ | ⟨h, r, rfl, rfl⟩ | ⟨h, r, rfl, rfl⟩ | ⟨h, r, rfl, rfl⟩
          · exfalso; omega
          · exfalso; omega
          · obtain ⟨x, r2, rfl, hx, y, r3, rfl, hy, hr⟩ := hs
            refine ⟨by rw [jn_same (by omega) (by omega) (by omega)], ⟨_, _, rfl, fun q => absurd q (by decide), hr⟩, fun b => rfl⟩
          · obtain ⟨x, r2, rfl, hx, y, r3, rfl, hy, hr⟩ := hs
            refine ⟨by rw [jn_same (by omega) (by omega) (by omega)], ⟨_, _, rfl, fun _ => ?_, hr⟩, fun b => rfl⟩
            show jn_ (-c) y x = 0 ∨ jn_ (-c) y x = 1
            unfold jn_
            rcases h with rfl | rfl | rfl
            · exact ite_lt01 y x
            · exact ite_eq01 y x
            · exact ite_lt01 x y
          · obtain ⟨x, r2, rfl, hx, y, r3, rfl, hy, hr⟩ := hs
            have qa := bl_and (hy rfl) (hx rfl)
            have qo := bl_or (hy rfl) (hx rfl)
            have e5 : tw_ (-c) y x = jn_ (-c) y x ∧ (jn_ (-c) y x = 0 ∨ jn_ (-c) y x = 1) := by
              rcases h with rfl | rfl
              · exact qa
              · exact qo
            refine ⟨?_, ⟨_, _, rfl, fun _ => e5.2, hr⟩, fun b => rfl⟩
            show tw_ (-c) y x :: r3 = jn_ (-c) y x :: r3
            rw [e5.1]
theorem evs_ok {N : Nat} : ∀ {a : List Int} {t u : List Bool} {s : List Int}, Tyr_ N a t u → Vt_ t s → ers_ F O l a s = evs_ F O l a s ∧ Vt_ u (evs_ F O l a s) ∧ ∀ b, evs_ F O l a (s ++ b) = evs_ F O l a s ++ b
  | [], _, _, _, h, hs => by cases h; exact ⟨rfl, hs, fun _ => rfl⟩
  | c :: r, _, _, s, ⟨w, h1, h2, h3⟩, hs => by
    obtain ⟨q1, q2, q3⟩ := ev1_ok (F := F) (O := O) (l := l) h1 hs
    obtain ⟨p1, p2, p3⟩ := evs_ok h3 q2
    refine ⟨?_, p2, fun b => ?_⟩
    · show ers_ F O l r (er1_ F O l c s) = evs_ F O l r (ev1_ F O l c s)
      rw [q1]; exact p1
    · show evs_ F O l r (ev1_ F O l c (s ++ b)) = evs_ F O l r (ev1_ F O l c s) ++ b
      rw [q3 b]; exact p3 b
end Evs
/-- of a clause alone -/
def vl_ (F O : Int → Int) (l : Int) (s : List Int) : Int := (evs_ F O l s []).headD 0
theorem vl_of {F O : Int → Int} {l : Int} {N : Nat} {s : List Int} {b : Bool} (h : Tyr_ N s [] [b]) : evs_ F O l s [] = [vl_ F O l s] ∧ ers_ F O l s [] = [vl_ F O l s] := by
  obtain ⟨q1, q2, q3⟩ := evs_ok (F := F) (O := O) (l := l) h rfl
  obtain ⟨x, r, e, -, hr⟩ := q2
  have hr : r = [] := hr
  subst hr
  have e2 : vl_ F O l s = x := by unfold vl_; rw [e]; rfl
  rw [q1, e2]
  exact ⟨e, e⟩
def cl4_ (z : Int) : Int := if z < 0 then 0 else if 9999 < z then 9999 else z
def own_ (F O : Int → Int) (l : Int) (s1 s2 s3 : List Int) : Int := if (s2 ≠ [] ∧ vl_ F O l s2 = 0) ∨ (s3 ≠ [] ∧ ¬ vl_ F O l s3 = 0) then 0 else cl4_ (vl_ F O l s1)
/-- the code of a whole wording -/
def wh_ (s2 : List Int) : List Int := if s2 = [] then [1] else s2
def ul_ (s3 : List Int) : List Int := if s3 = [] then [0] else s3
theorem wh_ty {s : List Int} (h : TyB_ s) : ∃ b, Tyr_ 23 (wh_ s) [] [b] := by
  unfold wh_
  split
  · exact ⟨false, Tyr_1 (Or.inl ⟨Or.inl (by decide), rfl⟩) (by decide)⟩
  · rename_i e
    exact ⟨true, h.elim (fun q => absurd q e) id⟩
theorem ul_ty {s : List Int} (h : TyB_ s) : ∃ b, Tyr_ 23 (ul_ s) [] [b] := by
  unfold ul_
  split
  · exact ⟨false, Tyr_1 (Or.inl ⟨Or.inl (by decide), rfl⟩) (by decide)⟩
  · rename_i e
    exact ⟨true, h.elim (fun q => absurd q e) id⟩
theorem all_ty {s1 s2 s3 : List Int} (h1 : TyN_ s1) (h2 : TyB_ s2) (h3 : TyB_ s3) : ∃ t, Tyr_ 25 (s1 ++ (wh_ s2 ++ ul_ s3)) [] t := by
  obtain ⟨b2, h2⟩ := wh_ty h2
  obtain ⟨b3, h3⟩ := ul_ty h3
  have q1 : Tyr_ 25 s1 [] [false] := Tyr_fr (N := 23) [] (by decide) h1
  have q2 : Tyr_ 25 (wh_ s2) [false] [b2, false] := Tyr_fr (N := 23) [false] (by decide) h2
  have q3 : Tyr_ 25 (ul_ s3) [b2, false] [b3, b2, false] := Tyr_fr (N := 23) [b2, false] (Nat.le_refl 25) h3
  exact ⟨_, Tyr_ap q1 (Tyr_ap q2 q3)⟩
theorem all_ev {F O : Int → Int} {l : Int} {s1 s2 s3 : List Int} (h1 : TyN_ s1) (h2 : TyB_ s2) (h3 : TyB_ s3) : evs_ F O l (s1 ++ (wh_ s2 ++ ul_ s3)) [] = [vl_ F O l (ul_ s3), vl_ F O l (wh_ s2), vl_ F O l s1] := by
  obtain ⟨b2, h2⟩ := wh_ty h2
  obtain ⟨b3, h3⟩ := ul_ty h3
  have f2 := (evs_ok (F := F) (O := O) (l := l) (s := []) h2 rfl).2.2 [vl_ F O l s1]
  have f3 := (evs_ok (F := F) (O := O) (l := l) (s := []) h3 rfl).2.2 [vl_ F O l (wh_ s2), vl_ F O l s1]
  rw [(vl_of h2).1] at f2
  rw [(vl_of h3).1] at f3
  rw [evs_ap, evs_ap, (vl_of (F := F) (O := O) (l := l) h1).1]
  have f2 : evs_ F O l (wh_ s2) [vl_ F O l s1] = [vl_ F O l (wh_ s2), vl_ F O l s1] := f2
  rw [f2]
  exact f3
theorem own_wh {F O : Int → Int} {l : Int} {s1 s2 s3 : List Int} : own_ F O l s1 s2 s3 = (if ¬ vl_ F O l (wh_ s2) = 0 ∧ vl_ F O l (ul_ s3) = 0 then cl4_ (vl_ F O l s1) else 0) := by
  have e1 : vl_ F O l [1] = 1 := rfl
  have e0 : vl_ F O l [0] = 0 := rfl
  unfold own_ wh_ ul_
  by_cases a : s2 = [] <;> by_cases b : s3 = []
  · rw [if_pos a, if_pos b, e1, e0, if_neg (by intro q; rcases q with ⟨q, -⟩ | ⟨q, -⟩; exact q a; exact q b), if_pos ⟨by decide, rfl⟩]
  · rw [if_pos a, if_neg b, e1]
    by_cases c : vl_ F O l s3 = 0
    · rw [if_neg (by intro q; rcases q with ⟨q, -⟩ | ⟨-, q⟩; exact q a; exact q c), if_pos ⟨by decide, c⟩]
    · rw [if_pos (Or.inr ⟨b, c⟩), if_neg (fun q => c q.2)]
  · rw [if_neg a, if_pos b, e0]
    by_cases c : vl_ F O l s2 = 0
    · rw [if_pos (Or.inl ⟨a, c⟩), if_neg (fun q => q.1 c)]
    · rw [if_neg (by intro q; rcases q with ⟨-, q⟩ | ⟨q, -⟩; exact c q; exact q b), if_pos ⟨c, rfl⟩]
  · rw [if_neg a, if_neg b]
    by_cases c : vl_ F O l s2 = 0
    · rw [if_pos (Or.inl ⟨a, c⟩), if_neg (fun q => q.1 c)]
    · by_cases d : vl_ F O l s3 = 0
      · rw [if_neg (by intro q; rcases q with ⟨-, q⟩ | ⟨-, q⟩; exact c q; exact q d), if_pos ⟨c, d⟩]
      · rw [if_pos (Or.inr ⟨b, d⟩), if_neg (fun q => d q.2)]
/-! only lesser lines are looked at -/
theorem ev1_cg {F O O2 : Int → Int} {l c : Int} {s : List Int} (h : ∀ n, 0 ≤ n → n < l → O2 n = O n) : ev1_ F O2 l c s = ev1_ F O l c s := by
  unfold ev1_
  by_cases e1 : 10000 ≤ c
  · rw [if_pos e1, if_pos e1]
    by_cases e2 : c - 10000 < l
    · rw [if_pos e2, if_pos e2, h _ (by omega) e2]
    · rw [if_neg e2, if_neg e2]
  · rw [if_neg e1, if_neg e1]
theorem evs_cg {F O O2 : Int → Int} {l : Int} (h : ∀ n, 0 ≤ n → n < l → O2 n = O n) : ∀ (a s : List Int), evs_ F O2 l a s = evs_ F O l a s
  | [], _ => rfl
  | c :: r, s => by
    show evs_ F O2 l r (ev1_ F O2 l c s) = evs_ F O l r (ev1_ F O l c s)
    rw [ev1_cg h]
    exact evs_cg h r _
theorem own_cg {F O O2 : Int → Int} {l : Int} {s1 s2 s3 : List Int} (h : ∀ n, 0 ≤ n → n < l → O2 n = O n) : own_ F O2 l s1 s2 s3 = own_ F O l s1 s2 s3 := by
  unfold own_ vl_
  rw [evs_cg h, evs_cg h, evs_cg h]
/-! ===== the reference's own steps ===== -/
theorem cd_ind {o v : Int} (h : 3 ≤ o) : cd_ o v = cd_ o 0 := by
  have h0 : ¬ o = 0 := by omega
  have h1 : ¬ o = 1 := by omega
  have h2 : ¬ o = 2 := by omega
  unfold cd_
  rw [if_neg h0, if_neg h0, if_neg h1, if_neg h1, if_neg h2, if_neg h2]
theorem cd_rng {o : Int} (h : 3 ≤ o ∧ o ≤ 12) : (o = 3 ∧ cd_ o 0 = -43) ∨ (o = 4 ∧ cd_ o 0 = -45) ∨ (o = 5 ∧ cd_ o 0 = -42) ∨ (o = 6 ∧ cd_ o 0 = -47) ∨ (o = 7 ∧ cd_ o 0 = -60) ∨ (o = 8 ∧ cd_ o 0 = -61) ∨ (o = 9 ∧ cd_ o 0 = -62) ∨ (o = 10 ∧ cd_ o 0 = -306) ∨ (o = 11 ∧ cd_ o 0 = -305) ∨ (o = 12 ∧ cd_ o 0 = -304) := by
  have q : o = 3 ∨ o = 4 ∨ o = 5 ∨ o = 6 ∨ o = 7 ∨ o = 8 ∨ o = 9 ∨ o = 10 ∨ o = 11 ∨ o = 12 := by omega
  rcases q with rfl | rfl | rfl | rfl | rfl | rfl | rfl | rfl | rfl | rfl
  · exact Or.inl ⟨rfl, rfl⟩
  · exact Or.inr (Or.inl ⟨rfl, rfl⟩)
  · exact Or.inr (Or.inr (Or.inl ⟨rfl, rfl⟩))
  · exact Or.inr (Or.inr (Or.inr (Or.inl ⟨rfl, rfl⟩)))
  · exact Or.inr (Or.inr (Or.inr (Or.inr (Or.inl ⟨rfl, rfl⟩))))
  · exact Or.inr (Or.inr (Or.inr (Or.inr (Or.inr (Or.inl ⟨rfl, rfl⟩)))))
  · exact Or.inr (Or.inr (Or.inr (Or.inr (Or.inr (Or.inr (Or.inl ⟨rfl, rfl⟩))))))
  · exact Or.inr (Or.inr (Or.inr (Or.inr (Or.inr (Or.inr (Or.inr (Or.inl ⟨rfl, rfl⟩)))))))
  · exact Or.inr (Or.inr (Or.inr (Or.inr (Or.inr (Or.inr (Or.inr (Or.inr (Or.inl ⟨rfl, rfl⟩))))))))
  · exact Or.inr (Or.inr (Or.inr (Or.inr (Or.inr (Or.inr (Or.inr (Or.inr (Or.inr ⟨rfl, rfl⟩))))))))
section Er1
variable {F O : Int → Int} {l o v : Int} {s : List Int}
theorem er_0 (h : o = 0) (hv : 0 ≤ v ∧ v ≤ 9999) : er1_ F O l (cd_ o v) s = v :: s := by
  subst h
  rw [cd_0]
  unfold er1_
  rw [if_neg (by omega), if_pos hv.1]
theorem er_1 (h : o = 1) (hv : 0 ≤ v ∧ v < 5) : er1_ F O l (cd_ o v) s = F v :: s := by
  subst h
  rw [cd_1]
  unfold er1_
  rw [if_neg (by omega), if_neg (by omega), if_pos (by omega), show -(-(307 + v)) - 307 = v by omega]
theorem er_2 (h : o = 2) (hv : 0 ≤ v ∧ v < 24) (hl : v < l) : er1_ F O l (cd_ o v) s = O v :: s := by
  subst h
  rw [cd_2]
  unfold er1_
  rw [if_pos (by omega), if_pos (by omega), show 10000 + v - 10000 = v by omega]
theorem er_20 (h : o = 2) (hv : 0 ≤ v ∧ v < 24) (hl : l ≤ v) : er1_ F O l (cd_ o v) s = 0 :: s := by
  subst h
  rw [cd_2]
  unfold er1_
  rw [if_pos (by omega), if_neg (by omega)]
theorem er_10 (h : o = 10) : er1_ F O l (cd_ o v) s = w32_ (1 - s.headD 0) :: s.tail := by
  subst h
  rw [cd_10]
  unfold er1_
  rw [if_neg (by decide), if_neg (by decide), if_neg (by decide), if_pos rfl]
theorem er_3 (h : 3 ≤ o ∧ o ≤ 12 ∧ o ≠ 10) : er1_ F O l (cd_ o v) s = tw_ (-(cd_ o 0)) (s.tail.headD 0) (s.headD 0) :: s.tail.tail := by
  have q := cd_rng (o := o) (by omega)
  rw [cd_ind (by omega)]
  unfold er1_
  rw [if_neg (by omega), if_neg (by omega), if_neg (by omega), if_neg (by omega)]
end Er1
section Tw
variable {a b z : Int}
theorem tw_3 {o : Int} (h : o = 3) : tw_ (-(cd_ o 0)) a b = w32_ (a + b) := by
  subst h; unfold tw_
  rw [if_pos (by decide)]
theorem tw_4 {o : Int} (h : o = 4) : tw_ (-(cd_ o 0)) a b = w32_ (a - b) := by
  subst h; unfold tw_
  rw [if_neg (by decide), if_pos (by decide)]
theorem tw_5 {o : Int} (h : o = 5) : tw_ (-(cd_ o 0)) a b = w32_ (a * b) := by
  subst h; unfold tw_
  rw [if_neg (by decide), if_neg (by decide), if_pos (by decide)]
theorem tw_6 {o : Int} (h : o = 6) (hb : ¬ b = 0) : tw_ (-(cd_ o 0)) a b = (J a / J b).toInt := by
  subst h; unfold tw_
  rw [if_neg (by decide), if_neg (by decide), if_neg (by decide), if_pos (by decide), if_neg hb]
theorem tw_7 {o : Int} (h : o = 7) : tw_ (-(cd_ o 0)) a b = if a < b then 1 else 0 := by
  subst h; unfold tw_
  rw [if_neg (by decide), if_neg (by decide), if_neg (by decide), if_neg (by decide), if_pos (by decide)]
theorem tw_8 {o : Int} (h : o = 8) : tw_ (-(cd_ o 0)) a b = if a = b then 1 else 0 := by
  subst h; unfold tw_
  rw [if_neg (by decide), if_neg (by decide), if_neg (by decide), if_neg (by decide), if_neg (by decide), if_pos (by decide)]
theorem tw_9 {o : Int} (h : o = 9) : tw_ (-(cd_ o 0)) a b = if b < a then 1 else 0 := by
  subst h; unfold tw_
  rw [if_neg (by decide), if_neg (by decide), if_neg (by decide), if_neg (by decide), if_neg (by decide), if_neg (by decide), if_pos (by decide)]
theorem tw_11 {o : Int} (h : o = 11) : tw_ (-(cd_ o 0)) a b = w32_ (a * b) := by
  subst h; unfold tw_
  rw [if_neg (by decide), if_neg (by decide), if_neg (by decide), if_neg (by decide), if_neg (by decide), if_neg (by decide), if_neg (by decide), if_pos (by decide)]
theorem tw_12 {o : Int} (h : o = 12) : tw_ (-(cd_ o 0)) a b = if 0 < w32_ (a + b) then 1 else 0 := by
  subst h; unfold tw_
  rw [if_neg (by decide), if_neg (by decide), if_neg (by decide), if_neg (by decide), if_neg (by decide), if_neg (by decide), if_neg (by decide), if_neg (by decide)]
theorem eq_of_J {x : Int32} (r : inR z) (e : J z = x) : z = x.toInt := by rw [← e, J_toInt r]
end Tw
/-! facts -/
def fcf_ (a b c d e i : Int) : Int := if i = 0 then a else if i = 1 then b else if i = 2 then c else if i = 3 then d else e
theorem ev1_cF {F F2 O : Int → Int} {l c : Int} {s : List Int} (h : ∀ i, 0 ≤ i → i ≤ 4 → F2 i = F i) : ev1_ F2 O l c s = ev1_ F O l c s := by
  unfold ev1_
  by_cases e : 307 ≤ -c ∧ -c ≤ 311
  · rw [if_pos e, if_pos e, h _ (by omega) (by omega)]
  · rw [if_neg e, if_neg e]
theorem evs_cF {F F2 O : Int → Int} {l : Int} (h : ∀ i, 0 ≤ i → i ≤ 4 → F2 i = F i) : ∀ (a s : List Int), evs_ F2 O l a s = evs_ F O l a s
  | [], _ => rfl
  | c :: r, s => by
    show evs_ F2 O l r (ev1_ F2 O l c s) = evs_ F O l r (ev1_ F O l c s)
    rw [ev1_cF h]
    exact evs_cF h r _
theorem own_cF {F F2 O : Int → Int} {l : Int} {s1 s2 s3 : List Int} (h : ∀ i, 0 ≤ i → i ≤ 4 → F2 i = F i) : own_ F2 O l s1 s2 s3 = own_ F O l s1 s2 s3 := by
  unfold own_ vl_
  rw [evs_cF h, evs_cF h, evs_cF h]
/-! stacks: the head of the list is on top -/
def Sk_ (g : Int → Int) : List Int → Prop
  | [] => True
  | x :: r => g (r.length : Int) = x ∧ Sk_ g r
theorem Sk_cg {g g2 : Int → Int} : ∀ {s : List Int}, (∀ i, 0 ≤ i → i < (s.length : Int) → g2 i = g i) → Sk_ g s → Sk_ g2 s
  | [], _, _ => trivial
  | x :: r, h, hs => by
    have e : ((x :: r).length : Int) = (r.length : Int) + 1 := by rw [List.length_cons]; omega
    rw [e] at h
    exact ⟨(h _ (by omega) (by omega)).trans hs.1, Sk_cg (fun i h1 h2 => h i h1 (by omega)) hs.2⟩
theorem Sk_tl {g : Int → Int} : ∀ {s : List Int}, Sk_ g s → Sk_ g s.tail
  | [], h => h
  | _ :: _, h => h.2
theorem Sk_upA {g : Int → Int} {s : List Int} {c n : Int} (h : Sk_ g s) (e : c = (s.length : Int)) : Sk_ (upA g c n) (n :: s) := by
  subst e
  exact ⟨upA_same _ _ _, Sk_cg (fun i h1 h2 => upA_ne (by omega)) h⟩
/-- the top, and what lies below it -/
theorem Sk_top {g : Int → Int} {c : Int} : ∀ {s : List Int}, Sk_ g s → c = (s.length : Int) → 1 ≤ c → s.headD 0 = g (c - 1) ∧ c - 1 = (s.tail.length : Int)
  | [], _, e, h0 => by
    have e : c = 0 := e
    exfalso; omega
  | x :: r, h, e, _ => by
    have e3 : c - 1 = (r.length : Int) := by rw [e, List.length_cons]; omega
    refine ⟨?_, e3⟩
    rw [e3]
    exact h.1.symm
theorem ers_ap {F O : Int → Int} {l : Int} : ∀ (a b s : List Int), ers_ F O l (a ++ b) s = ers_ F O l b (ers_ F O l a s)
  | [], _, _ => rfl
  | c :: r, b, s => ers_ap r b (er1_ F O l c s)
theorem er_nx {F O op ar : Int → Int} {l lo k : Int} (h0 : lo ≤ k) : ers_ F O l (cL_ op ar lo (k + 1)) [] = er1_ F O l (cd_ (op k) (ar k)) (ers_ F O l (cL_ op ar lo k) []) := by
  have e : cL_ op ar lo (k + 1) = cL_ op ar lo k ++ [cd_ (op k) (ar k)] := by
    unfold cL_
    rw [show (k + 1 - lo).toNat = (k - lo).toNat + 1 by omega, cs_, show lo + (((k - lo).toNat : Nat) : Int) = k by omega]
  rw [e, ers_ap]
  rfl
theorem er_put {g : Int → Int} {r q : List Int} {c z : Int} (e : q = z :: r) (h : Sk_ g r) (hc : c = (r.length : Int)) : Sk_ (upA g c z) q ∧ c + 1 = (q.length : Int) := by
  subst e
  exact ⟨Sk_upA h hc, by rw [List.length_cons]; omega⟩
