theorem fl_Jxc12de_7 : Cond.fieldLink RJxc12de 7 RJxc12de (TJx4a65c 0).2.1 (TJx4a65c 0).2.2.1 ∈ gT := (gT_c1 (List.mem_of_getElem? (i := 49) (by decide +kernel)) (by decide +kernel))
theorem WT_e {T T2 : Nat → Nat → Nat} (h : ∀ k, k ≠ 197 → ∀ b, T2 k b = T k b) (hT : WT T) (h9 : ∀ b, T2 0 b = 9 → ∀ x, dcd (T2 197 b) = some x → T2 0 x = 3) : WT T2 := by
  refine ⟨fun b => by rw [h 1 (by decide)]; exact hT.1 b, fun b hb => ?_, fun b hb => ?_, fun b hb => ?_, fun b hb => ?_, fun b hb => ?_, fun b hb => ?_, fun b hb => ?_, fun b hb => ?_, fun b hb => ?_, fun b hb => by rw [h 0 (by decide)] at hb; rw [h 1 (by decide)]; exact wt26 hT hb⟩
  · have hb0 := hb
    rw [h 0 (by decide)] at hb
    have q := wt1 hT hb
    exact ⟨by rw [h 26 (by decide), h 0 (by decide)]; exact q.1, by rw [h 26 (by decide), h 1 (by decide)]; exact q.2.1, by rw [h 26 (by decide), h 3 (by decide)]; exact q.2.2⟩
  · have hb0 := hb
    rw [h 0 (by decide)] at hb
    have q := wt2 hT hb
    exact ⟨by rw [h 46 (by decide), h 0 (by decide)]; exact q.1, by rw [h 46 (by decide), h 1 (by decide)]; exact q.2.1, by rw [h 46 (by decide), h 3 (by decide)]; exact q.2.2.1, by rw [h 47 (by decide), h 0 (by decide)]; exact q.2.2.2.1, by rw [h 47 (by decide), h 1 (by decide)]; exact q.2.2.2.2.1, by rw [h 47 (by decide), h 3 (by decide)]; exact q.2.2.2.2.2.1, by rw [h 48 (by decide), h 0 (by decide)]; exact q.2.2.2.2.2.2.1, by rw [h 48 (by decide), h 1 (by decide)]; exact q.2.2.2.2.2.2.2.1, by rw [h 48 (by decide), h 3 (by decide)]; exact q.2.2.2.2.2.2.2.2⟩
  · have hb0 := hb
    rw [h 0 (by decide)] at hb
    have q := wt3 hT hb
    exact ⟨by rw [h 60 (by decide), h 0 (by decide)]; exact q.1, by rw [h 60 (by decide), h 1 (by decide)]; exact q.2.1, by rw [h 60 (by decide), h 3 (by decide)]; exact q.2.2.1, by rw [h 61 (by decide), h 0 (by decide)]; exact q.2.2.2.1, by rw [h 61 (by decide), h 1 (by decide)]; exact q.2.2.2.2.1, by rw [h 61 (by decide), h 3 (by decide)]; exact q.2.2.2.2.2.1, by rw [h 62 (by decide), h 0 (by decide)]; exact q.2.2.2.2.2.2.1, by rw [h 62 (by decide), h 1 (by decide)]; exact q.2.2.2.2.2.2.2.1, by rw [h 62 (by decide), h 3 (by decide)]; exact q.2.2.2.2.2.2.2.2.1, by rw [h 63 (by decide), h 0 (by decide)]; exact q.2.2.2.2.2.2.2.2.2.1, by rw [h 63 (by decide), h 1 (by decide)]; exact q.2.2.2.2.2.2.2.2.2.2.1, by rw [h 63 (by decide), h 3 (by decide)]; exact q.2.2.2.2.2.2.2.2.2.2.2⟩
  · have hb0 := hb
    rw [h 0 (by decide)] at hb
    have q := wt4 hT hb
    exact ⟨by rw [h 82 (by decide), h 0 (by decide)]; exact q.1, by rw [h 85 (by decide), h 0 (by decide)]; exact q.2.1, by rw [h 85 (by decide), h 1 (by decide)]; exact q.2.2.1, by rw [h 85 (by decide), h 3 (by decide)]; exact q.2.2.2⟩
  · have hb0 := hb
    rw [h 0 (by decide)] at hb
    have q := wt5 hT hb
    exact ⟨by rw [h 100 (by decide), h 0 (by decide)]; exact q.1, by rw [h 100 (by decide), h 1 (by decide)]; exact q.2.1, by rw [h 100 (by decide), h 3 (by decide)]; exact q.2.2.1, by rw [h 101 (by decide), h 0 (by decide)]; exact q.2.2.2.1, by rw [h 101 (by decide), h 1 (by decide)]; exact q.2.2.2.2.1, by rw [h 101 (by decide), h 3 (by decide)]; exact q.2.2.2.2.2.1, by rw [h 102 (by decide), h 0 (by decide)]; exact q.2.2.2.2.2.2.1, by rw [h 102 (by decide), h 1 (by decide)]; exact q.2.2.2.2.2.2.2.1, by rw [h 102 (by decide), h 3 (by decide)]; exact q.2.2.2.2.2.2.2.2⟩
  · have hb0 := hb
    rw [h 0 (by decide)] at hb
    have q := wt6 hT hb
    exact ⟨by rw [h 120 (by decide), h 0 (by decide)]; exact q.1, by rw [h 120 (by decide), h 1 (by decide)]; exact q.2.1, by rw [h 120 (by decide), h 3 (by decide)]; exact q.2.2.1, by rw [h 121 (by decide), h 0 (by decide)]; exact q.2.2.2.1, by rw [h 121 (by decide), h 1 (by decide)]; exact q.2.2.2.2.1, by rw [h 121 (by decide), h 3 (by decide)]; exact q.2.2.2.2.2.1, by rw [h 122 (by decide), h 0 (by decide)]; exact q.2.2.2.2.2.2.1, by rw [h 122 (by decide), h 1 (by decide)]; exact q.2.2.2.2.2.2.2.1, by rw [h 122 (by decide), h 3 (by decide)]; exact q.2.2.2.2.2.2.2.2⟩
  · have hb0 := hb
    rw [h 0 (by decide)] at hb
    have q := wt8 hT hb
    exact ⟨by rw [h 161 (by decide), h 0 (by decide)]; exact q.1, by rw [h 161 (by decide), h 3 (by decide)]; exact q.2.1, by rw [h 162 (by decide), h 0 (by decide)]; exact q.2.2.1, by rw [h 162 (by decide), h 3 (by decide)]; exact q.2.2.2.1, by rw [h 163 (by decide), h 0 (by decide)]; exact q.2.2.2.2.1, by rw [h 163 (by decide), h 3 (by decide)]; exact q.2.2.2.2.2⟩
  · have hb0 := hb
    rw [h 0 (by decide)] at hb
    have q := wt9 hT hb
    exact ⟨by rw [h 180 (by decide), h 0 (by decide)]; exact q.1, by rw [h 180 (by decide), h 2 (by decide)]; exact q.2.1, by rw [h 181 (by decide), h 0 (by decide)]; exact q.2.2.1, by rw [h 181 (by decide), h 2 (by decide)]; exact q.2.2.2.1, by rw [h 182 (by decide), h 0 (by decide)]; exact q.2.2.2.2.1, by rw [h 182 (by decide), h 2 (by decide)]; exact q.2.2.2.2.2.1, by rw [h 183 (by decide), h 0 (by decide)]; exact q.2.2.2.2.2.2.1, by rw [h 183 (by decide), h 2 (by decide)]; exact q.2.2.2.2.2.2.2.1, by rw [h 184 (by decide), h 0 (by decide)]; exact q.2.2.2.2.2.2.2.2.1, by rw [h 184 (by decide), h 1 (by decide)]; exact q.2.2.2.2.2.2.2.2.2.1, by rw [h 184 (by decide), h 3 (by decide)]; exact q.2.2.2.2.2.2.2.2.2.2.1, by rw [h 185 (by decide), h 0 (by decide)]; exact q.2.2.2.2.2.2.2.2.2.2.2.1, by rw [h 185 (by decide), h 1 (by decide)]; exact q.2.2.2.2.2.2.2.2.2.2.2.2.1, by rw [h 185 (by decide), h 3 (by decide)]; exact q.2.2.2.2.2.2.2.2.2.2.2.2.2.1, by rw [h 192 (by decide), h 0 (by decide)]; exact q.2.2.2.2.2.2.2.2.2.2.2.2.2.2.1, by rw [h 193 (by decide), h 0 (by decide)]; exact q.2.2.2.2.2.2.2.2.2.2.2.2.2.2.2.1, by rw [h 194 (by decide), h 0 (by decide)]; exact q.2.2.2.2.2.2.2.2.2.2.2.2.2.2.2.2.1, by rw [h 194 (by decide), h 1 (by decide)]; exact q.2.2.2.2.2.2.2.2.2.2.2.2.2.2.2.2.2.1, by rw [h 194 (by decide), h 3 (by decide)]; exact q.2.2.2.2.2.2.2.2.2.2.2.2.2.2.2.2.2.2.1, by rw [h 195 (by decide), h 0 (by decide)]; exact q.2.2.2.2.2.2.2.2.2.2.2.2.2.2.2.2.2.2.2.1, by rw [h 195 (by decide), h 1 (by decide)]; exact q.2.2.2.2.2.2.2.2.2.2.2.2.2.2.2.2.2.2.2.2.1, by rw [h 195 (by decide), h 3 (by decide)]; exact q.2.2.2.2.2.2.2.2.2.2.2.2.2.2.2.2.2.2.2.2.2.1, by rw [h 196 (by decide), h 0 (by decide)]; exact q.2.2.2.2.2.2.2.2.2.2.2.2.2.2.2.2.2.2.2.2.2.2.1, by rw [h 196 (by decide), h 1 (by decide)]; exact q.2.2.2.2.2.2.2.2.2.2.2.2.2.2.2.2.2.2.2.2.2.2.2.1, by rw [h 196 (by decide), h 3 (by decide)]; exact q.2.2.2.2.2.2.2.2.2.2.2.2.2.2.2.2.2.2.2.2.2.2.2.2.1, h9 b hb0⟩
  · have hb0 := hb
    rw [h 0 (by decide)] at hb
    have q := wt10 hT hb
    exact ⟨by rw [h 201 (by decide), h 0 (by decide)]; exact q.1, by rw [h 201 (by decide), h 0 (by decide), h 3 (by decide)]; exact q.2.1, by rw [h 2 (by decide)]; exact q.2.2⟩
section LRow2
variable {p : Program} {l : Launch} {e : Env} {R : Room} {s : State} {m : MethodId} {args : Array Value} {below : List Frame} {meth : Method} {c : Code} {H H0 : Heap} {locs : List Loc} {cells slots : Nat} {Q : State → Prop} {cc : ByteArray} {nL : Nat} {ret : Option FieldType} {pc : Nat} {ls : Array Slot} {rest : List Value} {D : va_G} {cy : Nat → ClassId} {κ T : Nat → Nat → Nat} {v : Nat → Nat → Int} {A0 : Nat → Prop} {own : String}
theorem cw_lte (hw : WC D cy T v H) {y t : Nat} (h : T 0 y = t) (ht : t = 1 ∨ t = 2 ∨ t = 7 ∨ t = 8) : y < H.size := by
  rcases ht with rfl | rfl | rfl | rfl
  · exact cw_lt hw h (fun _ _ _ => ⟨_, rfl⟩)
  · exact cw_lt hw h (fun _ _ _ => ⟨_, rfl⟩)
  · exact cw_lt hw h (fun _ _ _ => ⟨_, rfl⟩)
  · exact cw_lt hw h (fun _ _ _ => ⟨_, rfl⟩)
theorem cw_pl {H1 : Heap} (hw : WC D cy T v H) {a x : Nat} (ha : T 0 a = 9) (hx : T 0 x = 3) (hoth : ∀ b, b ≠ a → H1[b]? = H[b]?) (hat : va_at D vwCl (a, .inr (9, [.ref (T 180 a), .ref (T 181 a), .ref (T 182 a), .ref (T 183 a), .ref (T 184 a), .ref (T 185 a), .int (J (v 186 a)), .int (J (v 187 a)), .int (J (v 188 a)), .int (J (v 189 a)), .int (J (v 190 a)), .int (J (v 191 a)), .ref (T 192 a), .ref (T 193 a), .ref (T 194 a), .ref (T 195 a), .ref (T 196 a), .ref x])) H1) : WC D cy (upT T a (fun j => if j = 197 then x + 1 else T j a)) v H1 := by
  have K0 : ∀ k, k ≠ 197 → ∀ b, upT T a (fun j => if j = 197 then x + 1 else T j a) k b = T k b := by
    intro k hk b
    by_cases hb : b = a
    · subst hb; rw [upT_at]; exact if_neg hk
    · exact upT_ne k hb
  have K1 : upT T a (fun j => if j = 197 then x + 1 else T j a) 197 a = x + 1 := (upT_at _ _ _ _).trans (if_pos rfl)
  have Kn : ∀ k b, b ≠ a → upT T a (fun j => if j = 197 then x + 1 else T j a) k b = T k b := fun k b hb => upT_ne k hb
  generalize upT T a (fun j => if j = 197 then x + 1 else T j a) = T2 at *
  obtain ⟨hG, hT, hLL, hR⟩ := hw
  refine ⟨fun b e he => ?_, WT_e (fun k hk b => K0 k hk b) hT (fun b hb y hy => ?_), fun L hL => ?_, hR⟩
  · by_cases hb : b = a
    · subst hb
      rw [show T2 0 b = 9 from (K0 0 (by decide) b).trans ha] at he
      cases he
      show va_at D vwCl (b, .inr (9, [.ref (T2 180 b), .ref (T2 181 b), .ref (T2 182 b), .ref (T2 183 b), .ref (T2 184 b), .ref (T2 185 b), .int (J (v 186 b)), .int (J (v 187 b)), .int (J (v 188 b)), .int (J (v 189 b)), .int (J (v 190 b)), .int (J (v 191 b)), .ref (T2 192 b), .ref (T2 193 b), .ref (T2 194 b), .ref (T2 195 b), .ref (T2 196 b), va_rf (dcd (T2 197 b))])) H1
      rw [K1, dcd_s, K0 180 (by decide), K0 181 (by decide), K0 182 (by decide), K0 183 (by decide), K0 184 (by decide), K0 185 (by decide), K0 192 (by decide), K0 193 (by decide), K0 194 (by decide), K0 195 (by decide), K0 196 (by decide)]
      exact hat
    · rw [show (fun k => T2 k b) = fun k => T k b from funext fun k => Kn k b hb, Kn 0 b hb] at he
      have h1 := hG b e he
      exact h1.kept (hoth b hb)
  · rw [K0 0 (by decide)] at hb ⊢
    by_cases e : b = a
    · subst e
      rw [K1, dcd_s] at hy
      cases hy
      exact hx
    · rw [Kn 197 b e] at hy
      exact (wt9 hT hb).2.2.2.2.2.2.2.2.2.2.2.2.2.2.2.2.2.2.2.2.2.2.2.2.2 y hy
  · rw [K0 0 (by decide)] at hL
    have h := hLL L hL
    refine ⟨h.1, by rw [K0 201 (by decide), K0 1 (by decide)]; exact h.2.1, fun i hi => ?_⟩
    obtain ⟨y, hy, ty⟩ := h.2.2 i hi
    exact ⟨y, by rw [K0 201 (by decide), K0 _ (by omega)]; exact hy, by rw [K0 0 (by decide), K0 2 (by decide)]; exact ty⟩
theorem pl_put (E : CX p s m args meth c own cc nL ret) (hK : KK D cy s) (hw : WK D cy T v A0 H0 H locs) {ix : Nat} (hl : Cond.fieldLink own ix RX9 (TX9 17).2.1 (TX9 17).2.2.1 ∈ gT) {a x : Nat} (ht : T 0 a = 9) (hx : T 0 x = 3) (pc' : Nat) (hp : pc + 3 = pc') (hdg : decode cc pc = .ok (.putfield ix, 3)) (kk : ∀ (T2 : Nat → Nat → Nat) (H : Heap) (locs : List Loc), (∀ k, k ≠ 197 → ∀ b, T2 k b = T k b) → OW0 T T2 → WK D cy T2 v A0 H0 H locs → W p l e R s m args below meth c H locs cells slots Q (F0 m pc' ls rest)) : W p l e R s m args below meth c H locs cells slots Q (F0 m pc ls (.ref x :: .ref a :: rest)) := by
  refine x_put E hK hw.2.2 (hw.2.1 a ⟨by rw [ht]; decide, by rw [ht]; decide⟩) in_X9 tyX9 tyX9_ok nmX9 (ci := 9) rfl (cw_ob9 hw.1 ht) (k := 17) (by decide) hl (fun x h => by rw [tx_X9 17 (by decide)] at h; exact h) (by decide +kernel) (ty := tyX9 17) (by decide +kernel) rfl rfl (Nat.le_of_ble_eq_true rfl) pc' hp hdg (fun H1 locs1 hat hoth hsz hS => ?_)
  have w2 := cw_pl hw.1 ht hx hoth hat
  have K0 : ∀ k, k ≠ 197 → ∀ b, upT T a (fun j => if j = 197 then x + 1 else T j a) k b = T k b := by
    intro k hk b
    by_cases hb : b = a
    · subst hb; rw [upT_at]; exact if_neg hk
    · exact upT_ne k hb
  have ho : OW0 T (upT T a (fun j => if j = 197 then x + 1 else T j a)) := OW0.of (fun b => K0 0 (by decide) b)
  exact kk _ H1 locs1 K0 ho ⟨w2, fun b hb => hw.2.1 b ((ho b).1 hb), hS⟩
theorem x_putC (E : CX p s m args meth c own cc nL ret) (hK : KK D cy s) (hS0 : va_S A0 H0 H locs) {C C' : String} {Tt : u_T} {N ci ix k a : Nat} {fs : List Value} (hA : A0 a) (hin : ∀ w ∈ u_ws C Tt N, w ∈ gT) (ty0 : Nat → FieldType) (hty : ∀ k, k < N → parseFieldDescriptor (Tt k).2.2.1 = some (ty0 k)) (hnm : ∀ a, a < N → ∀ b, b < N → a ≠ b → (Tt a).2.1 ≠ (Tt b).2.1) (hc : vwCl[ci]? = some (C, Tt, N)) (hP : va_at D vwCl (a, .inr (ci, fs)) H) (hk : k < N) (hl : Cond.fieldLink own ix C' (Tt k).2.1 (Tt k).2.2.1 ∈ gT) (hsame : ∀ x, s.fieldFound? (Tt k).1 (Tt k).2.1 (Tt k).2.2.1 = some x → s.fieldFound? C' (Tt k).2.1 (Tt k).2.2.1 = some x) (hfin : (Tt k).2.2.2 = false) {ty : FieldType} {w : Value} (hd : parseFieldDescriptor (Tt k).2.2.1 = some ty) (hn : narrow ty w = w) (hfit : fits ty w = true) (hlen : k < fs.length) (pc' : Nat) (hp : pc + 3 = pc') (hdg : decode cc pc = .ok (.putfield ix, 3))
    (kk : ∀ (H1 : Heap) (locs1 : List Loc), va_at D vwCl (a, .inr (ci, fs.set k w)) H1 → (∀ b, b ≠ a → H1[b]? = H[b]?) → H1.size = H.size → va_S A0 H0 H1 locs1 → W p l e R s m args below meth c H1 locs1 cells slots Q (F0 m pc' ls rest)) : W p l e R s m args below meth c H locs cells slots Q (F0 m pc ls (w :: .ref a :: rest)) := by
  subst hp
  have hts := E.2.2.2.2.1
  have hap := va_apart (own := own) hts hin ty0 hty hnm hK hc
  obtain ⟨r, h1, cell, q1, q2, q3, q4⟩ := hP
  have hr : r = (C, Tt, N) := Option.some.inj (h1.symm.trans hc)
  subst hr
  obtain ⟨hS, hfc, kC, hkC, hkind⟩ := hK.1 ci _ hc
  obtain ⟨cf, kf, fi, f, hi, hsl⟩ := hS k hk
  have hlay := hts _ (hin _ (u_in_lay hk))
  unfold u_lay at hlay
  rw [if_neg (by rw [hfin]; decide)] at hlay
  have hst := (u_facts hfc hkC (u_lays hts hin hk) hi).1
  have h6 := u_store hfc hkC hkind hlay hi hd hn hfit
  refine W.putK E.1 E.2.1 (f := f) ⟨E.2.2.2.1, hts _ hl, ⟨_, _, _, hsame _ hi⟩, hst⟩ (by rw [q2]; exact h6) q1 q3 (by rw [hsl]; exact k2_hasslot (q4 k hk)) rfl rfl hdg fun H' e1 e2 e3 => ?_
  rw [hsl] at e1 ⊢
  exact kk H' _ ⟨_, hc, t_OB.to (V := updV (vp_V fs) k w) ⟨_, e1, q2, q3, t_set q4 hap hk w⟩ (fun j _ => vp_updV_set hlen w j)⟩ e3 e2 (hS0.put e2 e3 hA)
theorem rq_200 (E : CX p s m args meth c RJxc12de cc nL ret) (hK : KK D cy s) (hw : WK D cy T v A0 H0 H locs) {a : Nat} (ht : T 0 a = 110) {z : Int} (hz : inR z) (pc' : Nat) (hp : pc + 3 = pc') (hdg : decode cc pc = .ok (.putfield 7, 3)) (kk : ∀ (H : Heap) (locs : List Loc), WK D cy T (upV v 200 (upB (v 200) a z)) A0 H0 H locs → W p l e R s m args below meth c H locs cells slots Q (F0 m pc' ls rest)) : W p l e R s m args below meth c H locs cells slots Q (F0 m pc ls (.int (J z) :: .ref a :: rest)) := by
  refine x_putC E hK hw.2.2 (hw.2.1 a ⟨by rw [ht]; decide, by rw [ht]; decide⟩) in_Jx4a65c tyJx4a65c tyJx4a65c_ok nmJx4a65c (ci := 0) rfl (cw_rw10 hw.1 ht) (k := 0) (by decide) fl_Jxc12de_7 (fun x h => h) (by decide +kernel) (ty := .int) (by decide +kernel) rfl rfl (Nat.le_of_ble_eq_true rfl) pc' hp hdg (fun H1 locs1 hat hoth hsz hS => ?_)
  refine kk H1 locs1 ⟨cw_put hw.1 (by decide) ht hz hoth (show WL T v from hw.1.2.2.1) (fun γ e he => ?_), hw.2.1, hS⟩
  cases he
  show va_at D vwCl (a, .inr (0, [.int (J (upB (v 200) a z a)), va_rf (dcd (T 201 a)), .int (J (v 202 a))])) H1
  rw [upB_same]
  exact hat
end LRow2
theorem sh_half0 : ∀ k : Fin 201, (J (k.val : Int) >>> (J 1 &&& 31) : Int32) = J ((k.val / 2 : Nat) : Int) := by decide +kernel
theorem sh_half {z a : Int} (hz : inR z) (ha : 0 ≤ a ∧ a ≤ 200) (e : J z = J a >>> (J 1 &&& 31)) : 0 ≤ z ∧ z ≤ a := by
  have h := sh_half0 ⟨a.toNat, by omega⟩
  have ea : ((a.toNat : Nat) : Int) = a := by omega
  simp only [ea] at h
  rw [h] at e
  have h2 := (J_inj hz ⟨by omega, by omega⟩).mp e
  omega
