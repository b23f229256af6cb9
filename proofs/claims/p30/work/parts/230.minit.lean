theorem ac_int : Cond.arrayClass .int ∈ gT := (gT_c1 (List.mem_of_getElem? (i := 91) (by decide +kernel)) (by decide +kernel))
theorem ac_bool : Cond.arrayClass .boolean ∈ gT := (gT_c1 (List.mem_of_getElem? (i := 89) (by decide +kernel)) (by decide +kernel))
section KRows
variable {p : Program} {l : Launch} {e : Env} {R : Room} {s : State} {m : MethodId} {args : Array Value} {below : List Frame} {meth : Method} {c : Code} {H H0 : Heap} {locs : List Loc} {cells slots : Nat} {Q : State → Prop} {own : String} {cc : ByteArray} {nL : Nat} {ret : Option FieldType} {pc : Nat} {ls : Array Slot} {rest : List Value} {D : va_G} {cy : Nat → ClassId} {A : Nat → Prop} {ws : va_W}
theorem k_newG (E : CX p s m args meth c own cc nL ret) (hK : KK D cy s) (hP : va_P D vwCl ws H) (hD : va_D A ws) (hS : va_S A H0 H locs) (hA : ∀ q, H0.size ≤ q → A q) {at_ : ArrayType} {ty : FieldType} {t0 : Nat} (hty : newarray.typeOf at_ = ty) (hdef : defaultValue ty = .int 0) (hobj : ∀ C, ty ≠ .object C) (hac : Cond.arrayClass ty ∈ gT) (ht : (tysOf cy)[t0]? = some (cy t0, ty)) (N : Nat) (hN : N < 20000) (hb : N * componentBytes ty ≤ 536870912) (hc : cells + 1 ≤ R.cells) (hs : slots + N ≤ R.slots) (pc' : Nat) (hp : pc + 2 = pc') (hdg : decode cc pc = .ok (.newarray at_, 2))
    (kk : ∀ (q : Nat) (H1 : Heap), va_P D vwCl (ws ++ [(q, .inl (cy t0, N, .inl (fun _ => J 0)))]) H1 → va_D A (ws ++ [(q, .inl (cy t0, N, .inl (fun _ => J 0)))]) → va_S A H0 H1 locs → W p l e R s m args below meth c H1 locs (cells + 1) (slots + N) Q (F0 m pc' ls (.ref q :: rest))) : W p l e R s m args below meth c H locs cells slots Q (F0 m pc ls (.int (J (N : Int)) :: rest)) := by
  subst hp
  refine va_newa (D := D) (ty := ty) (N' := N) (a0 := (N, .inl (fun _ => J 0))) E.1 E.2.1 (by rw [hty]; exact E.2.2.2.2.1 _ hac) hty hK hP hD hS hA ?_ ?_ ?_ hb hc hs hdg ?_
  · intro cA
    rw [vp_cell_i, hdef, J_0]
  · intro h
    have h2 := (J_lt (a := (N : Int)) (b := 0) ⟨by omega, by omega⟩ inR0).mp (by rw [J_0]; exact h)
    omega
  · rw [J_clamp (by omega) (by omega)]; omega
  · intro q cA H1 hK1 hP1 hD1 hS1
    have h1 := (hK1.2 5 (cA, ty) rfl).2
    have h2 := (hK.2 t0 (cy t0, ty) ht).2
    have e1 : cA = cy t0 := by
      unfold va_RA at h1 h2
      cases ty with
      | object C => exact absurd rfl (hobj C)
      | _ => exact Option.some.inj (h1.symm.trans h2)
    subst e1
    exact kk q H1 hP1 hD1 hS1
/-- the object under construction: its fields, the rows made so far -/
def KS (D : va_G) (o : Nat) (fs : List Value) (as_ : va_W) (A : Nat → Prop) (H0 H : Heap) (locs : List Loc) : Prop := va_P D vwCl ((o, .inr (10, fs)) :: as_) H ∧ va_D A ((o, .inr (10, fs)) :: as_) ∧ va_S A H0 H locs ∧ fs.length = 68
variable {o : Nat} {fs : List Value} {as_ : va_W}
theorem k_new (E : CX p s m args meth c own cc nL ret) (hK : KK D cy s) (hw : KS D o fs as_ A H0 H locs) (hA : ∀ q, H0.size ≤ q → A q) {at_ : ArrayType} {ty : FieldType} {t0 : Nat} (hty : newarray.typeOf at_ = ty) (hdef : defaultValue ty = .int 0) (hobj : ∀ C, ty ≠ .object C) (hac : Cond.arrayClass ty ∈ gT) (ht : (tysOf cy)[t0]? = some (cy t0, ty)) (N : Nat) (hN : N < 20000) (hb : N * componentBytes ty ≤ 536870912) (hc : cells + 1 ≤ R.cells) (hs : slots + N ≤ R.slots) {z : Int} (hz : z = (N : Int)) (pc' : Nat) (hp : pc + 2 = pc') (hdg : decode cc pc = .ok (.newarray at_, 2))
    (kk : ∀ (q : Nat) (H : Heap), KS D o fs (as_ ++ [(q, .inl (cy t0, N, .inl (fun _ => J 0)))]) A H0 H locs → W p l e R s m args below meth c H locs (cells + 1) (slots + N) Q (F0 m pc' ls (.ref q :: rest))) : W p l e R s m args below meth c H locs cells slots Q (F0 m pc ls (.int (J z) :: rest)) := by
  subst hz
  exact k_newG E hK hw.1 hw.2.1 hw.2.2.1 hA hty hdef hobj hac ht N hN hb hc hs pc' hp hdg (fun q H1 h1 h2 h3 => kk q H1 ⟨h1, h2, h3, hw.2.2.2⟩)
theorem k_newI (E : CX p s m args meth c own cc nL ret) (hK : KK D cy s) (hw : KS D o fs as_ A H0 H locs) (hA : ∀ q, H0.size ≤ q → A q) (N : Nat) (hN : N < 20000) (hb : N * componentBytes .int ≤ 536870912) (hc : cells + 1 ≤ R.cells) (hs : slots + N ≤ R.slots) {z : Int} (hz : z = (N : Int)) (pc' : Nat) (hp : pc + 2 = pc') (hdg : decode cc pc = .ok (.newarray .int, 2))
    (kk : ∀ (q : Nat) (H : Heap), KS D o fs (as_ ++ [(q, .inl (cy 0, N, .inl (fun _ => J 0)))]) A H0 H locs → W p l e R s m args below meth c H locs (cells + 1) (slots + N) Q (F0 m pc' ls (.ref q :: rest))) : W p l e R s m args below meth c H locs cells slots Q (F0 m pc ls (.int (J z) :: rest)) :=
  k_new E hK hw hA (at_ := .int) (ty := .int) (t0 := 0) rfl rfl (fun C h => by cases h) ac_int rfl N hN hb hc hs hz pc' hp hdg kk
theorem k_newZ (E : CX p s m args meth c own cc nL ret) (hK : KK D cy s) (hw : KS D o fs as_ A H0 H locs) (hA : ∀ q, H0.size ≤ q → A q) (N : Nat) (hN : N < 20000) (hb : N * componentBytes .boolean ≤ 536870912) (hc : cells + 1 ≤ R.cells) (hs : slots + N ≤ R.slots) {z : Int} (hz : z = (N : Int)) (pc' : Nat) (hp : pc + 2 = pc') (hdg : decode cc pc = .ok (.newarray .boolean, 2))
    (kk : ∀ (q : Nat) (H : Heap), KS D o fs (as_ ++ [(q, .inl (cy 1, N, .inl (fun _ => J 0)))]) A H0 H locs → W p l e R s m args below meth c H locs (cells + 1) (slots + N) Q (F0 m pc' ls (.ref q :: rest))) : W p l e R s m args below meth c H locs cells slots Q (F0 m pc ls (.int (J z) :: rest)) :=
  k_new E hK hw hA (at_ := .boolean) (ty := .boolean) (t0 := 1) rfl rfl (fun C h => by cases h) ac_bool rfl N hN hb hc hs hz pc' hp hdg kk
theorem k_putF (E : CX p s m args meth c RX10 cc nL ret) (hin : meth.name = "<init>") (hK : KK D cy s) (hw : KS D o fs as_ A H0 H locs) (k ix : Nat) (hk : k < 68) {ty : FieldType} (hd : parseFieldDescriptor (TX10 k).2.2.1 = some ty) (hfin : (TX10 k).2.2.2 = true) (hl : Cond.fieldLink RX10 ix RX10 (TX10 k).2.1 (TX10 k).2.2.1 ∈ gT) {v : Value} (hn : narrow ty v = v) (hfit : fits ty v = true) (pc' : Nat) (hp : pc + 3 = pc') (hdg : decode cc pc = .ok (.putfield ix, 3))
    (kk : ∀ (H : Heap) (locs : List Loc), KS D o (fs.set k v) as_ A H0 H locs → W p l e R s m args below meth c H locs cells slots Q (F0 m pc' ls rest)) : W p l e R s m args below meth c H locs cells slots Q (F0 m pc ls (v :: .ref o :: rest)) := by
  subst hp
  refine va_putF (D := D) (ci := 10) (C := RX10) (T := TX10) (N := 68) (ty := ty) E.1 E.2.1 E.2.2.2.2.1 in_X10 tyX10 tyX10_ok nmX10 E.2.2.2.1 hK hw.1 hw.2.1 hw.2.2.1 0 rfl rfl k hk (E.2.2.2.2.1 _ hl) (fun x h => by rw [tx10_own k hk] at h; exact h) hfin hin (tx10_own k hk) hd hn hfit (by rw [hw.2.2.2]; exact hk) hdg (fun H1 locs1 h1 h2 h3 => ?_)
  exact kk H1 locs1 ⟨h1, h2, h3, by rw [List.length_set]; exact hw.2.2.2⟩
theorem k_putI (E : CX p s m args meth c RX10 cc nL ret) (hK : KK D cy s) (hw : KS D o fs as_ A H0 H locs) (k ix : Nat) (hk : k < 68) (hd : parseFieldDescriptor (TX10 k).2.2.1 = some .int) (hfin : (TX10 k).2.2.2 = false) (hl : Cond.fieldLink RX10 ix RX10 (TX10 k).2.1 (TX10 k).2.2.1 ∈ gT) {z : Int} (pc' : Nat) (hp : pc + 3 = pc') (hdg : decode cc pc = .ok (.putfield ix, 3))
    (kk : ∀ (H : Heap) (locs : List Loc), KS D o (fs.set k (.int (J z))) as_ A H0 H locs → W p l e R s m args below meth c H locs cells slots Q (F0 m pc' ls rest)) : W p l e R s m args below meth c H locs cells slots Q (F0 m pc ls (.int (J z) :: .ref o :: rest)) := by
  subst hp
  refine va_put (D := D) (ci := 10) (C := RX10) (T := TX10) (N := 68) (ty := .int) E.1 E.2.1 E.2.2.2.2.1 in_X10 tyX10 tyX10_ok nmX10 E.2.2.2.1 hK hw.1 hw.2.1 hw.2.2.1 0 rfl rfl k hk (E.2.2.2.2.1 _ hl) (fun x h => by rw [tx10_own k hk] at h; exact h) hfin hd rfl rfl (by rw [hw.2.2.2]; exact hk) hdg (fun H1 locs1 h1 h2 h3 => ?_)
  exact kk H1 locs1 ⟨h1, h2, h3, by rw [List.length_set]; exact hw.2.2.2⟩
theorem k_wst (E : CX p s m args meth c own cc nL ret) (hK : KK D cy s) {q N : Nat} {g : Int → Int} (hw : KS D o fs (as_ ++ [(q, .inl (cy 0, N, .inl (fun i : Nat => J (g i))))]) A H0 H locs) {i z : Int} (hi : 0 ≤ i ∧ i < (N : Int)) (hN : N < 20000) (pc' : Nat) (hp : pc + 1 = pc') (hdg : decode cc pc = .ok (.iastore, 1))
    (kk : ∀ (H : Heap) (locs : List Loc), KS D o fs (as_ ++ [(q, .inl (cy 0, N, .inl (fun j : Nat => J (upA g i z j))))]) A H0 H locs → W p l e R s m args below meth c H locs cells slots Q (F0 m pc' ls rest)) : W p l e R s m args below meth c H locs cells slots Q (F0 m pc ls (.int (J z) :: .int (J i) :: .ref q :: rest)) := by
  subst hp
  have h0 : ((o, (.inr (10, fs) : va_E)) :: (as_ ++ [(q, .inl (cy 0, N, .inl (fun i : Nat => J (g i))))]))[as_.length + 1]? = some (q, .inl (cy 0, N, .inl (fun i : Nat => J (g i)))) := by
    rw [List.getElem?_cons_succ, List.getElem?_append_right (Nat.le_refl _), Nat.sub_self]; rfl
  refine va_iast (D := D) E.1 E.2.1 hK hw.1 hw.2.1 hw.2.2.1 (as_.length + 1) 0 h0 rfl (J_in hi.1 hi.2 (by omega)) hdg (fun H1 locs1 h1 h2 h3 => ?_)
  rw [J_upd g hi.1 (by omega)] at h1 h2
  have e1 : ∀ y : Nat × va_E, ((o, (.inr (10, fs) : va_E)) :: (as_ ++ [(q, .inl (cy 0, N, .inl (fun i : Nat => J (g i))))])).set (as_.length + 1) y = (o, .inr (10, fs)) :: (as_ ++ [y]) := by
    intro y
    rw [List.set_cons_succ, List.set_append_right _ _ (Nat.le_refl _), Nat.sub_self]; rfl
  rw [e1] at h1 h2
  exact kk H1 locs1 ⟨h1, h2, h3, hw.2.2.2⟩
end KRows
