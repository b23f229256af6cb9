theorem nw_ex : ∀ i : Fin 12, Cond.exactly (.string RX8 (27 + 2 * i.val)) "java/lang/String" ∈ flatC (Jvm.Cond.and given_1 narrow_1) := by decide +kernel
theorem nw_co : ∀ i : Fin 12, Cond.eq (.field (.string RX8 (27 + 2 * i.val)) "java/lang/String" "coder" "B") (.int 0) ∈ flatC (Jvm.Cond.and given_1 narrow_1) := by decide +kernel
theorem nw_ar : ∀ i : Fin 12, Cond.arrayOf (.field (.string RX8 (27 + 2 * i.val)) "java/lang/String" "value" "[B") .byte ∈ flatC (Jvm.Cond.and given_1 narrow_1) := by decide +kernel
theorem nw_le : ∀ i : Fin 12, Cond.eq (.length (.field (.string RX8 (27 + 2 * i.val)) "java/lang/String" "value" "[B")) (.int (Int32.ofNat (zLen.getD i.val 0))) ∈ flatC (Jvm.Cond.and given_1 narrow_1) := by decide +kernel
theorem nw_el : ∀ i : Fin 12, ∀ j : Fin 10, j.val < zLen.getD i.val 0 → Cond.eq (.elem (.field (.string RX8 (27 + 2 * i.val)) "java/lang/String" "value" "[B") (.int (Int32.ofNat j.val))) (.int ((zByt.getD i.val []).getD j.val 0)) ∈ flatC (Jvm.Cond.and given_1 narrow_1) := by decide +kernel
theorem nw_ne : ∀ i : Fin 12, ∀ j : Fin 12, i.val ≠ j.val → Cond.not (Cond.eq (.string RX8 (27 + 2 * i.val)) (.string RX8 (27 + 2 * j.val))) ∈ flatC (Jvm.Cond.and given_1 narrow_1) ∨ Cond.not (Cond.eq (.string RX8 (27 + 2 * j.val)) (.string RX8 (27 + 2 * i.val))) ∈ flatC (Jvm.Cond.and given_1 narrow_1) := by decide +kernel
theorem nw_e1 : Cond.exactly (.static "java/util/ArrayList" "DEFAULTCAPACITY_EMPTY_ELEMENTDATA" "[Ljava/lang/Object;") "[Ljava/lang/Object;" ∈ flatC (Jvm.Cond.and given_1 narrow_1) := by decide +kernel
theorem nw_e2 : Cond.eq (.length (.static "java/util/ArrayList" "DEFAULTCAPACITY_EMPTY_ELEMENTDATA" "[Ljava/lang/Object;")) (.int 0) ∈ flatC (Jvm.Cond.and given_1 narrow_1) := by decide +kernel
theorem nw_cs : Cond.eq (.static "java/lang/String" "COMPACT_STRINGS" "Z") (.int 1) ∈ flatC (Jvm.Cond.and given_1 narrow_1) := by decide +kernel
theorem nw_sf : Cond.isRef (.static "jdk/internal/util/Preconditions" "SIOOBE_FORMATTER" "Ljava/util/function/BiFunction;") ∈ flatC (Jvm.Cond.and given_1 narrow_1) := by decide +kernel
theorem nw_mi : Cond.isRef (.mirror "[Ljava/lang/Object;") ∈ flatC (Jvm.Cond.and given_1 narrow_1) := by decide +kernel
theorem sr_all : ∀ i : Nat, i < 12 → Cond.stringRef RX8 (27 + 2 * i) (zTx i) ∈ lw_tbl
  | 0, _ => (List.mem_append_right _ (List.mem_append_right _ (List.mem_append_left _ (List.mem_of_getElem? (i := 164) (by decide +kernel)))))
  | 1, _ => (List.mem_append_right _ (List.mem_append_right _ (List.mem_append_left _ (List.mem_of_getElem? (i := 165) (by decide +kernel)))))
  | 2, _ => (List.mem_append_right _ (List.mem_append_right _ (List.mem_append_left _ (List.mem_of_getElem? (i := 166) (by decide +kernel)))))
  | 3, _ => (List.mem_append_right _ (List.mem_append_right _ (List.mem_append_left _ (List.mem_of_getElem? (i := 167) (by decide +kernel)))))
  | 4, _ => (List.mem_append_right _ (List.mem_append_right _ (List.mem_append_left _ (List.mem_of_getElem? (i := 168) (by decide +kernel)))))
  | 5, _ => (List.mem_append_right _ (List.mem_append_right _ (List.mem_append_left _ (List.mem_of_getElem? (i := 169) (by decide +kernel)))))
  | 6, _ => (List.mem_append_right _ (List.mem_append_right _ (List.mem_append_left _ (List.mem_of_getElem? (i := 170) (by decide +kernel)))))
  | 7, _ => (List.mem_append_right _ (List.mem_append_right _ (List.mem_append_left _ (List.mem_of_getElem? (i := 171) (by decide +kernel)))))
  | 8, _ => (List.mem_append_right _ (List.mem_append_right _ (List.mem_append_left _ (List.mem_of_getElem? (i := 172) (by decide +kernel)))))
  | 9, _ => (List.mem_append_right _ (List.mem_append_right _ (List.mem_append_left _ (List.mem_of_getElem? (i := 173) (by decide +kernel)))))
  | 10, _ => (List.mem_append_right _ (List.mem_append_right _ (List.mem_append_left _ (List.mem_of_getElem? (i := 174) (by decide +kernel)))))
  | 11, _ => (List.mem_append_right _ (List.mem_append_right _ (List.mem_append_left _ (List.mem_of_getElem? (i := 175) (by decide +kernel)))))
  | i + 12, h => absurd h (by omega)
theorem st_Z {args : Array Value} {s : State} (hts : ∀ w ∈ lw_tbl, w.before args s = true) (hgv : (Jvm.Cond.and given_1 narrow_1).before args s = true) : ∃ κ : Nat → Nat → Nat, ZZ κ s s.heap ∧ κ 2 0 < s.heap.size ∧ ∃ cell : Cell, s.heap[κ 2 0]? = some cell ∧ s.vm.findClass "[Ljava/lang/Object;" = some cell.cls ∧ cell.vm.isStatics = false ∧ cell.slots.size.toInt32 = 0 := by
  have hs := flat_of_before _ hgv
  obtain ⟨ea, cE, cell, kE, q1, q2, q3, q4, q5, q6, -⟩ := Cond.exactly_spec (args := args) (first := s) (o := none) (s := s) (idx := []) (t := (.static "java/util/ArrayList" "DEFAULTCAPACITY_EMPTY_ELEMENTDATA" "[Ljava/lang/Object;")) (cls := "[Ljava/lang/Object;") (hs _ nw_e1)
  have hlen := va_eqt (hs _ nw_e2)
  obtain ⟨a2, cell2, r1, r2, r3⟩ := Term.length_spec hlen
  obtain ⟨r4, -⟩ := State.arrayAt?_spec r2
  cases q1.symm.trans r1
  cases q3.symm.trans r4
  obtain ⟨mi, hmi⟩ := va_Mi.of (hs _ nw_mi)
  have hA : ∀ a : Nat, a < s.heap.size → ¬ (fun x : Nat => s.heap.size ≤ x) a := fun a h => Nat.not_le.mpr h
  obtain ⟨adK, adV, hS, hE⟩ := vk_Sof (args := args) (s := s) (N := 12) (tm := fun i => .string RX8 (27 + 2 * i)) (len := zLen) (byt := zByt) (A := fun x : Nat => s.heap.size ≤ x)
    (fun i hi => Nat.lt_trans (zLen_lt i hi) (by decide))
    (fun i hi => hs _ (nw_ex ⟨i, hi⟩)) (fun i hi => hs _ (nw_co ⟨i, hi⟩)) (fun i hi => hs _ (nw_ar ⟨i, hi⟩)) (fun i hi => hs _ (nw_le ⟨i, hi⟩))
    (fun i hi j hj => hs _ (nw_el ⟨i, hi⟩ ⟨j, Nat.lt_trans hj (zLen_lt i hi)⟩ hj))
    (fun i j hi hj hne => (nw_ne ⟨i, hi⟩ ⟨j, hj⟩ hne).elim (fun h => Or.inl (hs _ h)) (fun h => Or.inr (hs _ h))) hA
  refine ⟨fun a b => if a = 0 then adK b else if a = 1 then adV b else if b = 0 then ea else if b = 1 then mi else s.heap.size, ⟨?_, ?_⟩, (Array.getElem?_eq_some_iff.mp q3).1, cell, q3, by rw [q6]; exact q2, q5, ?_⟩
  · exact ⟨va_Nw.of rfl (hts _ (List.mem_append_right _ (List.mem_append_left _ (List.mem_of_getElem? (i := 72) (by decide +kernel))))), va_Nw.of rfl (hts _ (List.mem_append_right _ (List.mem_append_left _ (List.mem_of_getElem? (i := 76) (by decide +kernel))))), va_Nw.of rfl (hts _ (List.mem_append_right _ (List.mem_append_left _ (List.mem_of_getElem? (i := 61) (by decide +kernel))))), va_Nw.of rfl (hts _ (List.mem_append_right _ (List.mem_append_left _ (List.mem_of_getElem? (i := 67) (by decide +kernel))))), va_Nw.of rfl (hts _ (List.mem_append_right _ (List.mem_append_left _ (List.mem_of_getElem? (i := 118) (by decide +kernel))))), va_Nw.of rfl (hts _ (List.mem_append_right _ (List.mem_append_right _ (List.mem_append_right _ (List.mem_append_right _ (List.mem_append_right _ (List.mem_append_left _ (List.mem_of_getElem? (i := 10) (by decide +kernel))))))))), hmi, va_Dc.of (hts _ (List.mem_append_right _ (List.mem_append_right _ (List.mem_append_right _ (List.mem_append_right _ (List.mem_append_right _ (List.mem_append_right _ (List.mem_append_right _ (List.mem_of_getElem? (i := 217) (by decide +kernel)))))))))), va_AO.of (hts _ (List.mem_append_right _ (List.mem_append_right _ (List.mem_append_left _ (List.mem_of_getElem? (i := 49) (by decide +kernel)))))), va_Nw.of rfl (hts _ (List.mem_append_right _ (List.mem_append_right _ (List.mem_append_right _ (List.mem_append_right _ (List.mem_append_right _ (List.mem_append_right _ (List.mem_append_right _ (List.mem_of_getElem? (i := 209) (by decide +kernel)))))))))), va_Nw.of rfl (hts _ (List.mem_append_right _ (List.mem_append_right _ (List.mem_append_right _ (List.mem_append_right _ (List.mem_append_right _ (List.mem_append_right _ (List.mem_append_right _ (List.mem_of_getElem? (i := 211) (by decide +kernel)))))))))), va_Nw.of rfl (hts _ (List.mem_append_right _ (List.mem_append_right _ (List.mem_append_right _ (List.mem_append_right _ (List.mem_append_right _ (List.mem_append_right _ (List.mem_append_right _ (List.mem_of_getElem? (i := 212) (by decide +kernel)))))))))), va_Nw.of rfl (hts _ (List.mem_append_right _ (List.mem_append_right _ (List.mem_append_right _ (List.mem_append_right _ (List.mem_append_right _ (List.mem_append_right _ (List.mem_append_right _ (List.mem_of_getElem? (i := 210) (by decide +kernel)))))))))), va_Nw.of rfl (hts _ (List.mem_append_right _ (List.mem_append_right _ (List.mem_append_right _ (List.mem_append_left _ (List.mem_of_getElem? (i := 78) (by decide +kernel))))))), fun i hi => vk_R.of (hts _ (sr_all i hi)) (hE i hi)⟩
  · exact ⟨Nat.le_refl _, va_Zref (hts _ (List.mem_append_right _ (List.mem_append_left _ (List.mem_of_getElem? (i := 46) (by decide +kernel))))) (hts _ (List.mem_append_right _ (List.mem_append_left _ (List.mem_of_getElem? (i := 4) (by decide +kernel))))) q1 hA, va_Zof (hts _ (List.mem_append_right _ (List.mem_append_right _ (List.mem_append_left _ (List.mem_of_getElem? (i := 188) (by decide +kernel)))))) (hts _ (List.mem_append_right _ (List.mem_append_left _ (List.mem_of_getElem? (i := 17) (by decide +kernel))))) (va_eqt (hs _ nw_cs)) hA, va_Zqof (hts _ (List.mem_append_right _ (List.mem_append_right _ (List.mem_append_left _ (List.mem_of_getElem? (i := 204) (by decide +kernel)))))) (hts _ (List.mem_append_right _ (List.mem_append_left _ (List.mem_of_getElem? (i := 15) (by decide +kernel))))) (hs _ nw_sf) hA, hS⟩
  · exact (Value.int.inj r3).symm
theorem st_K {args : Array Value} {s : State} (hg : ∀ w ∈ gT, w.before args s = true) (hov : (Cond.arrayOver (.object "java/lang/Object")).before args s = true) : ∃ (D : va_G) (cy : Nat → ClassId), KK D cy s := by
  obtain ⟨c0_, iS0_, hKn0_⟩ := u_known (C := RJx4a65c) (T := TJx4a65c) (N := 3) (n := 3) hg in_Jx4a65c (hg _ it_Jx4a65c)
  obtain ⟨c1_, iS1_, hKn1_⟩ := u_known (C := RX0) (T := TX0) (N := 7) (n := 7) hg in_X0 (hg _ it_X0)
  obtain ⟨c2_, iS2_, hKn2_⟩ := u_known (C := RX1) (T := TX1) (N := 9) (n := 9) hg in_X1 (hg _ it_X1)
  obtain ⟨c3_, iS3_, hKn3_⟩ := u_known (C := RX2) (T := TX2) (N := 7) (n := 7) hg in_X2 (hg _ it_X2)
  obtain ⟨c4_, iS4_, hKn4_⟩ := u_known (C := RX3) (T := TX3) (N := 7) (n := 7) hg in_X3 (hg _ it_X3)
  obtain ⟨c5_, iS5_, hKn5_⟩ := u_known (C := RX4) (T := TX4) (N := 4) (n := 4) hg in_X4 (hg _ it_X4)
  obtain ⟨c6_, iS6_, hKn6_⟩ := u_known (C := RX5) (T := TX5) (N := 5) (n := 5) hg in_X5 (hg _ it_X5)
  obtain ⟨c7_, iS7_, hKn7_⟩ := u_known (C := RX6) (T := TX6) (N := 7) (n := 7) hg in_X6 (hg _ it_X6)
  obtain ⟨c8_, iS8_, hKn8_⟩ := u_known (C := RX7) (T := TX7) (N := 4) (n := 4) hg in_X7 (hg _ it_X7)
  obtain ⟨c9_, iS9_, hKn9_⟩ := u_known (C := RX9) (T := TX9) (N := 18) (n := 18) hg in_X9 (hg _ it_X9)
  obtain ⟨c10_, iS10_, hKn10_⟩ := u_known (C := RX10) (T := TX10) (N := 68) (n := 68) hg in_X10 (hg _ it_X10)
  obtain ⟨a0_, k0_, p0_, x0_, y0_, z0_⟩ := Cond.arrayClass_spec (args := args) (first := s) (o := none) (s := s) (idx := []) (type := .int) (hg _ ac_int)
  obtain ⟨a1_, k1_, p1_, x1_, y1_, z1_⟩ := Cond.arrayClass_spec (args := args) (first := s) (o := none) (s := s) (idx := []) (type := .boolean) (hg _ ac_bool)
  obtain ⟨a2_, k2_, p2_, x2_, y2_, z2_⟩ := Cond.arrayClass_spec (args := args) (first := s) (o := none) (s := s) (idx := []) (type := .byte) (hg _ ac_byt)
  obtain ⟨a3_, k3_, p3_, x3_, y3_, z3_⟩ := Cond.arrayClass_spec (args := args) (first := s) (o := none) (s := s) (idx := []) (type := .char) (hg _ ac_chr)
  obtain ⟨p4_, a4_, k4_, w4_, -, y4_, z4_, x4_⟩ := Cond.arrayOver_spec (args := args) (first := s) (o := none) (s := s) (idx := []) (n := "java/lang/Object") hov
  refine ⟨(fun k => if k = 0 then c0_ else if k = 1 then c1_ else if k = 2 then c2_ else if k = 3 then c3_ else if k = 4 then c4_ else if k = 5 then c5_ else if k = 6 then c6_ else if k = 7 then c7_ else if k = 8 then c8_ else if k = 9 then c9_ else c10_, fun k => if k = 0 then iS0_ else if k = 1 then iS1_ else if k = 2 then iS2_ else if k = 3 then iS3_ else if k = 4 then iS4_ else if k = 5 then iS5_ else if k = 6 then iS6_ else if k = 7 then iS7_ else if k = 8 then iS8_ else if k = 9 then iS9_ else iS10_), fun k => if k = 0 then a0_ else if k = 1 then a1_ else if k = 2 then a2_ else if k = 3 then a3_ else a4_, ⟨fun k r hr => ?_, fun k r hr => ?_⟩⟩
  · match k, hr with
    | 0, hr => cases hr; exact hKn0_
    | 1, hr => cases hr; exact hKn1_
    | 2, hr => cases hr; exact hKn2_
    | 3, hr => cases hr; exact hKn3_
    | 4, hr => cases hr; exact hKn4_
    | 5, hr => cases hr; exact hKn5_
    | 6, hr => cases hr; exact hKn6_
    | 7, hr => cases hr; exact hKn7_
    | 8, hr => cases hr; exact hKn8_
    | 9, hr => cases hr; exact hKn9_
    | 10, hr => cases hr; exact hKn10_
    | k + 11, hr => simp [vwCl] at hr
  · match k, hr with
    | 0, hr => cases hr; exact ⟨fun n z => ⟨fun k e => (by cases e), k0_, y0_, p0_, z0_⟩, x0_⟩
    | 1, hr => cases hr; exact ⟨fun n z => ⟨fun k e => (by cases e), k1_, y1_, p1_, z1_⟩, x1_⟩
    | 2, hr => cases hr; exact ⟨fun n z => ⟨fun k e => (by cases e), k2_, y2_, p2_, z2_⟩, x2_⟩
    | 3, hr => cases hr; exact ⟨fun n z => ⟨fun k e => (by cases e), k3_, y3_, p3_, z3_⟩, x3_⟩
    | 4, hr => cases hr; exact ⟨fun n z => ⟨fun k e => (by cases e), k4_, y4_, p4_, z4_⟩, k4_, p4_, y4_, z4_, w4_, x4_⟩
    | k + 5, hr => simp at hr
def mFd_ : List Value := [.int 0, .int 0, .int 0, .null, .null, .null, .null, .null, .null, .null, .int 0, .int 0, .int 0, .null, .null, .null, .null, .null, .null, .null, .null, .null, .null, .int 0, .int 0, .int 0, .int 0, .int 0, .null, .int 0, .null, .null, .null, .null, .null, .null, .null, .int 0, .int 0, .null, .int 0, .int 0, .int 0, .int 0, .int 0, .null, .null, .null, .int 0, .null, .null, .null, .null, .null, .null, .null, .null, .null, .null, .null, .null, .null, .null, .null, .null, .int 0, .null, .null]
theorem mF0_d : mF0_ = mFd_ := by unfold mF0_ mFd_; rw [J_0]
