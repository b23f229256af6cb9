/-! THE CLAIM OUT OF ONE WALK OF THE LAW'S BODY. Your part is whole_start (and what it stands on); all else here is the same for every law, but numbers. -/
def R_law : String := "LawRockLaw"
def lw_P (b : Addr) (xs : List Int32) (args : Array Value) (s : State) : Prop := args = #[.ref b] ∧ s.IntsAt b xs ∧ xs.length ≤ 4096 ∧ (Jvm.Cond.and given_1 narrow_1).before args s = true
def lw_Q (_ : Array Value) (s : State) (o : Outcome) (t : State) : Prop := o = .returned (some (.int 1)) ∧ Framed s o t [] 600000 7302250
def lw_Z (below : List Frame) (a : Array Value) (s : State) : State → Prop := fun t => ∃ o, t.status = .running ∧ Ended t below o ∧ lw_Q a s o t
/-- the law's own end, with 1 on the stack, nothing written that was there before, its room as the claim has it -/
theorem lw_ret {p : Program} {l : Launch} {e : Env} {s : State} {m : MethodId} {below : List Frame} {meth : Method} {c : Code} {b : Nat} (hx : p.tables.exec = Jvm.exec) (hb : c.code = code) (hr : meth.sig.returnType = ret) (hlocks : meth.locks = false) {pc : Nat} {H : Heap} {ls : Array Slot} (hdg : decode code pc = .ok (.ireturn, 1)) : W p l e room_1 s m #[Value.ref b] below meth c H [] 600000 7302250 (lw_Z below #[Value.ref b] s) (F0 m pc ls [.int 1]) := by
  intro T hT X
  obtain ⟨fs, hret, hrun, hended, hW, hframe⟩ := X.leave (v := some (.int 1)) (hlocks := hlocks) (fun h => by rw [hr] at h; cases h)
  have hmeth' : T.vm.method? m = some meth := X.method'
  refine ⟨T.setFrames fs, ?_, .returned (some (.int 1)), hrun, hended, rfl, ⟨_, rfl⟩, hW, hframe⟩
  jvm_step X.here [X.here.top, hx, hb, hdg, hmeth', hr, ret, narrow_b1]
  (try refine ⟨rfl, ?_⟩); (try refine ⟨rfl, ?_⟩)
  first | (intro acts; rw [hret _ acts rfl rfl rfl]) | rw [hret _ _ rfl rfl rfl]
  exact Steps.refl _
/-- what holds at the law's entry: the machine, the code, the tables' words (any of lw_tbl by 'hts w (by decide +kernel)'), the script of L ints xs at the cell b, what the Statement gives of the start (any of its parts by flat_of_before) -/
def lw_At (p : Program) (s : State) (m : MethodId) (meth : Method) (c : Code) (b L : Nat) (xs : Nat → Int32) : Prop :=
  p.tables.exec = Jvm.exec ∧ c.code = code ∧ meth.sig.returnType = ret ∧ c.maxLocals = 4 ∧ s.vm.findClass R_law = some m.cls ∧ (∀ w ∈ lw_tbl, w.before #[Value.ref b] s = true) ∧ va_X b L xs s s.heap ∧ b < s.heap.size ∧ meth.locks = false ∧ (Jvm.Cond.and given_1 narrow_1).before #[Value.ref b] s = true
set_option maxHeartbeats 8000000 in
set_option maxRecDepth 100000 in
theorem lw_loop {p : Program} {l : Launch} {e : Env} {s : State} {m : MethodId} {below : List Frame} {meth : Method} {c : Code} {D : va_G} {cy : Nat → ClassId} {κ : Nat → Nat → Nat} {q : Nat → Nat} {x b L : Nat} {xs : Nat → Int32} (E : CX p s m #[Value.ref b] meth c RL cL_law 4 ret) (hK : KK D cy s) (hZ : ZZ κ s s.heap) (hκ : κ 2 0 < s.heap.size) (hX : va_X b L xs s s.heap) (hbl : b < s.heap.size) (hL : L ≤ 4096) : ∀ (k j : Nat) (T : Nat → Nat → Nat) (v : Nat → Nat → Int) (n : Nat → Int) (f : Nat → Int → Int) (H : Heap) (locs : List Loc) (ls : Array Slot), LW D cy κ x T v q n f s H locs → RB T v x n → R2 T v x n f → RA T v x n f → RBk T v x n f → RS T v x n f → Fut_ (f 18) (n 1) (n 12) → lv_has ls 4 [(0, .ref b), (1, .ref x), (2, .ref (q 0)), (3, .int (J (8 * (j : Int))))] → 8 * j ≤ L → 512 - j < k → W p l e room_1 s m #[Value.ref b] below meth c H locs (100 + 6 * j) (70000 + 7000 * j) (lw_Z below #[Value.ref b] s) (F0 m 18 ls []) := by
  intro k
  induction k with
  | zero =>
    intro j T v n f H locs ls hw hR hR2 hRA hRK hRS hRF hl hj hk
    exact absurd hk (Nat.not_lt_zero _)
  | succ k ih =>
    intro j T v n f H locs ls hw hR hR2 hRA hRK hRS hRF hl hj hk
    refine j_iload_n E 19 rfl dL_law_18 rfl (lv_at hl 3 rfl) ?_
    refine j_aload_n E 20 rfl dL_law_19 rfl (lv_at hl 0 rfl) ?_
    refine lw_ln E hX hbl hw 21 rfl dL_law_20 ?_
    refine j_bipush E 23 rfl dL_law_21 (by decide) ?_
    refine j_isub E 24 rfl dL_law_23 ?_
    refine j_icmp_gt E 27 1321 rfl (rr (by omega)) (rr (by omega)) dL_law_24 (by decide) (fun c1_ => ?_) (fun c1_ => ?_)
    · refine j_iconst E 1322 rfl dL_law_1321 ?_
      refine va_forget (fun r hr => hw.2.2.2.2.2.2.2.2.2.2 r hr) ?_
      refine W.widen (k := 600000) (n := 7302250) (by omega) (by omega) ?_
      rw [show J 1 = 1 by decide +kernel]
      exact lw_ret E.1 E.2.1 E.2.2.2.2.2.1 E.2.2.2.2.2.2 dL_law_1322
    · have nx : ∀ (T : Nat → Nat → Nat) (v : Nat → Nat → Int) (n : Nat → Int) (f : Nat → Int → Int) (H : Heap) (locs : List Loc) (ls : Array Slot), LW D cy κ x T v q n f s H locs → RB T v x n → R2 T v x n f → RA T v x n f → RBk T v x n f → RS T v x n f → Fut_ (f 18) (n 1) (n 12) → lv_has ls 4 [(0, .ref b), (1, .ref x), (2, .ref (q 0)), (3, .int (J (8 * (j : Int))))] → W p l e room_1 s m #[Value.ref b] below meth c H locs (100 + 6 * j + 6) (70000 + 7000 * j + 7000) (lw_Z below #[Value.ref b] s) (F0 m 1315 ls []) := by
        intro T v n f H locs ls hw hR hR2 hRA hRK hRS hRF hl
        refine j_iinc E 1318 rfl [(3, .int (J ((8 * (j : Int)) + 8))), (0, .ref b), (1, .ref x), (2, .ref (q 0))] dL_law_1315 hl (kk := 3) rfl (by decide) rfl (fun ls hl => ?_)
        refine j_goto E 18 dL_law_1318 (by decide) ?_
        have hl := lv_sub hl [1, 2, 3, 0] rfl
        have e8_ : (8 * (j : Int)) + 8 = 8 * ((j + 1 : Nat) : Int) := by omega
        rw [e8_] at hl
        exact W.widen (by omega) (by omega) (ih (j + 1) T v n f H locs ls hw hR hR2 hRA hRK hRS hRF hl (by omega) (by omega))
      have hi_ : 0 ≤ (8 * (j : Int)) ∧ (8 * (j : Int)) + 8 ≤ (L : Int) := by omega
      have hf_ : 100 + 6 * j + 6 ≤ 600000 ∧ 70000 + 7000 * j + 7000 ≤ 7302250 := by omega
      refine j_aload_n E 28 rfl dL_law_27 rfl (lv_at hl 0 rfl) ?_
      refine j_iload_n E 29 rfl dL_law_28 rfl (lv_at hl 3 rfl) ?_
      refine lw_ld E hX hbl hL hw (by omega) 30 rfl dL_law_29 ?_
      refine j_bipush E 32 rfl dL_law_30 (by decide) ?_
      refine j_iand E 33 rfl dL_law_32 (fun zw_ rw_ ew_ => ?_)
      have h31_ := J_and31 rw_ ew_
      by_cases tb0_ : zw_ = 0
      · refine j_tabIn E 172 rw_ 0 dL_law_33 (by omega) rfl (by decide) ?_
        exact lc_0 E hK hZ hκ hX hbl hL hi_ hf_ hw hR hR2 hRA hRK hRS hRF hl nx
      by_cases tb1_ : zw_ = 1
      · refine j_tabIn E 215 rw_ 1 dL_law_33 (by omega) rfl (by decide) ?_
        exact lc_1 E hK hZ hκ hX hbl hL hi_ hf_ hw hR hR2 hRA hRK hRS hRF hl nx
      by_cases tb2_ : zw_ = 2
      · refine j_tabIn E 238 rw_ 2 dL_law_33 (by omega) rfl (by decide) ?_
        exact lc_2 E hK hZ hκ hX hbl hL hi_ hf_ hw hR hR2 hRA hRK hRS hRF hl nx
      by_cases tb3_ : zw_ = 3
      · refine j_tabIn E 287 rw_ 3 dL_law_33 (by omega) rfl (by decide) ?_
        exact lc_3 E hK hZ hκ hX hbl hL hi_ hf_ hw hR hR2 hRA hRK hRS hRF hl nx
      by_cases tb4_ : zw_ = 4
      · refine j_tabIn E 310 rw_ 4 dL_law_33 (by omega) rfl (by decide) ?_
        exact lc_4 E hK hZ hκ hX hbl hL hi_ hf_ hw hR hR2 hRA hRK hRS hRF hl nx
      by_cases tb5_ : zw_ = 5
      · refine j_tabIn E 333 rw_ 5 dL_law_33 (by omega) rfl (by decide) ?_
        exact lc_5 E hK hZ hκ hX hbl hL hi_ hf_ hw hR hR2 hRA hRK hRS hRF hl nx
      by_cases tb6_ : zw_ = 6
      · refine j_tabIn E 356 rw_ 6 dL_law_33 (by omega) rfl (by decide) ?_
        exact lc_6 E hK hZ hκ hX hbl hL hi_ hf_ hw hR hR2 hRA hRK hRS hRF hl nx
      by_cases tb7_ : zw_ = 7
      · refine j_tabIn E 389 rw_ 7 dL_law_33 (by omega) rfl (by decide) ?_
        exact lc_7 E hK hZ hκ hX hbl hL hi_ hf_ hw hR hR2 hRA hRK hRS hRF hl nx
      by_cases tb8_ : zw_ = 8
      · refine j_tabIn E 452 rw_ 8 dL_law_33 (by omega) rfl (by decide) ?_
        exact lc_8 E hK hZ hκ hX hbl hL hi_ hf_ hw hR hR2 hRA hRK hRS hRF hl nx
      by_cases tb9_ : zw_ = 9
      · refine j_tabIn E 475 rw_ 9 dL_law_33 (by omega) rfl (by decide) ?_
        exact lc_9 E hK hZ hκ hX hbl hL hi_ hf_ hw hR hR2 hRA hRK hRS hRF hl nx
      by_cases tb10_ : zw_ = 10
      · refine j_tabIn E 488 rw_ 10 dL_law_33 (by omega) rfl (by decide) ?_
        exact lc_10 E hK hZ hκ hX hbl hL hi_ hf_ hw hR hR2 hRA hRK hRS hRF hl nx
      by_cases tb11_ : zw_ = 11
      · refine j_tabIn E 511 rw_ 11 dL_law_33 (by omega) rfl (by decide) ?_
        exact lc_11 E hK hZ hκ hX hbl hL hi_ hf_ hw hR hR2 hRA hRK hRS hRF hl nx
      by_cases tb12_ : zw_ = 12
      · refine j_tabIn E 560 rw_ 12 dL_law_33 (by omega) rfl (by decide) ?_
        exact lc_12 E hK hZ hκ hX hbl hL hi_ hf_ hw hR hR2 hRA hRK hRS hRF hl nx
      by_cases tb13_ : zw_ = 13
      · refine j_tabIn E 613 rw_ 13 dL_law_33 (by omega) rfl (by decide) ?_
        exact lc_13 E hK hZ hκ hX hbl hL hi_ hf_ hw hR hR2 hRA hRK hRS hRF hl nx
      by_cases tb14_ : zw_ = 14
      · refine j_tabIn E 656 rw_ 14 dL_law_33 (by omega) rfl (by decide) ?_
        exact lc_14 E hK hZ hκ hX hbl hL hi_ hf_ hw hR hR2 hRA hRK hRS hRF hl nx
      by_cases tb15_ : zw_ = 15
      · refine j_tabIn E 699 rw_ 15 dL_law_33 (by omega) rfl (by decide) ?_
        exact lc_15 E hK hZ hκ hX hbl hL hi_ hf_ hw hR hR2 hRA hRK hRS hRF hl nx
      by_cases tb16_ : zw_ = 16
      · refine j_tabIn E 722 rw_ 16 dL_law_33 (by omega) rfl (by decide) ?_
        exact lc_16 E hK hZ hκ hX hbl hL hi_ hf_ hw hR hR2 hRA hRK hRS hRF hl nx
      by_cases tb17_ : zw_ = 17
      · refine j_tabIn E 755 rw_ 17 dL_law_33 (by omega) rfl (by decide) ?_
        exact lc_17 E hK hZ hκ hX hbl hL hi_ hf_ hw hR hR2 hRA hRK hRS hRF hl nx
      by_cases tb18_ : zw_ = 18
      · refine j_tabIn E 788 rw_ 18 dL_law_33 (by omega) rfl (by decide) ?_
        exact lc_18 E hK hZ hκ hX hbl hL hi_ hf_ hw hR hR2 hRA hRK hRS hRF hl nx
      by_cases tb19_ : zw_ = 19
      · refine j_tabIn E 821 rw_ 19 dL_law_33 (by omega) rfl (by decide) ?_
        exact lc_19 E hK hZ hκ hX hbl hL hi_ hf_ hw hR hR2 hRA hRK hRS hRF hl nx
      by_cases tb20_ : zw_ = 20
      · refine j_tabIn E 908 rw_ 20 dL_law_33 (by omega) rfl (by decide) ?_
        exact lc_20 E hK hZ hκ hX hbl hL hi_ hf_ hw hR hR2 hRA hRK hRS hRF hl nx
      by_cases tb21_ : zw_ = 21
      · refine j_tabIn E 983 rw_ 21 dL_law_33 (by omega) rfl (by decide) ?_
        exact lc_21 E hK hZ hκ hX hbl hL hi_ hf_ hw hR hR2 hRA hRK hRS hRF hl nx
      by_cases tb22_ : zw_ = 22
      · refine j_tabIn E 1058 rw_ 22 dL_law_33 (by omega) rfl (by decide) ?_
        exact lc_22 E hK hZ hκ hX hbl hL hi_ hf_ hw hR hR2 hRA hRK hRS hRF hl nx
      by_cases tb23_ : zw_ = 23
      · refine j_tabIn E 1091 rw_ 23 dL_law_33 (by omega) rfl (by decide) ?_
        exact lc_23 E hK hZ hκ hX hbl hL hi_ hf_ hw hR hR2 hRA hRK hRS hRF hl nx
      by_cases tb24_ : zw_ = 24
      · refine j_tabIn E 1114 rw_ 24 dL_law_33 (by omega) rfl (by decide) ?_
        exact lc_24 E hK hZ hκ hX hbl hL hi_ hf_ hw hR hR2 hRA hRK hRS hRF hl nx
      by_cases tb25_ : zw_ = 25
      · refine j_tabIn E 1147 rw_ 25 dL_law_33 (by omega) rfl (by decide) ?_
        exact lc_25 E hK hZ hκ hX hbl hL hi_ hf_ hw hR hR2 hRA hRK hRS hRF hl nx
      by_cases tb26_ : zw_ = 26
      · refine j_tabIn E 1180 rw_ 26 dL_law_33 (by omega) rfl (by decide) ?_
        exact lc_26 E hK hZ hκ hX hbl hL hi_ hf_ hw hR hR2 hRA hRK hRS hRF hl nx
      by_cases tb27_ : zw_ = 27
      · refine j_tabIn E 1203 rw_ 27 dL_law_33 (by omega) rfl (by decide) ?_
        exact lc_27 E hK hZ hκ hX hbl hL hi_ hf_ hw hR hR2 hRA hRK hRS hRF hl nx
      by_cases tb28_ : zw_ = 28
      · refine j_tabIn E 1246 rw_ 28 dL_law_33 (by omega) rfl (by decide) ?_
        exact lc_28 E hK hZ hκ hX hbl hL hi_ hf_ hw hR hR2 hRA hRK hRS hRF hl nx
      by_cases tb29_ : zw_ = 29
      · refine j_tabIn E 1279 rw_ 29 dL_law_33 (by omega) rfl (by decide) ?_
        exact lc_29 E hK hZ hκ hX hbl hL hi_ hf_ hw hR hR2 hRA hRK hRS hRF hl nx
      by_cases tb30_ : zw_ = 30
      · refine j_tabIn E 1292 rw_ 30 dL_law_33 (by omega) rfl (by decide) ?_
        exact lc_30 E hK hZ hκ hX hbl hL hi_ hf_ hw hR hR2 hRA hRK hRS hRF hl nx
      refine j_tabOut E 1315 rw_ dL_law_33 (by omega) (by decide) ?_
      exact W.widen (by omega) (by omega) (nx T v n f H locs ls hw hR hR2 hRA hRK hRS hRF hl)
set_option maxHeartbeats 8000000 in
set_option maxRecDepth 100000 in
theorem whole_start {p : Program} {e : Env} {s : State} {m : MethodId} {below : List Frame} {meth : Method} {c : Code} (l : Launch) {b L : Nat} {xs : Nat → Int32} (hL : L ≤ 4096) (C0 : lw_At p s m meth c b L xs) : W p l e room_1 s m #[Value.ref b] below meth c s.heap [] 0 0 (lw_Z below #[Value.ref b] s) (entryFrame m ([Value.ref b] : List Value).toArray 4) := by
  obtain ⟨hx, hb, hr, hml, hown, hts, hX, hbl, hlocks, hgv⟩ := id C0
  have hg : ∀ w ∈ gT, w.before #[Value.ref b] s = true := fun w hw => hts w (gT_tbl hw)
  have E : CX p s m #[Value.ref b] meth c RL cL_law 4 ret := ⟨hx, hb, hml, hown, hg, hr, hlocks⟩
  obtain ⟨D, cy, hK⟩ := st_K hg (hts _ (List.mem_append_right _ (List.mem_append_right _ (List.mem_append_left _ (List.mem_of_getElem? (i := 49) (by decide +kernel))))))
  obtain ⟨κ, hZ, hκ, cell0_, u1_, u2_, u3_, u4_⟩ := st_Z hts hgv
  have hc4_ : cell0_.cls = cy 4 := by
    have h4 : s.vm.findClass "[Ljava/lang/Object;" = some (cy 4) := va_nmO (hK.2 4 (cy 4, .object "java/lang/Object") rfl).2 (by decide +kernel)
    exact Option.some.inj (u2_.symm.trans h4)
  have hA : ∀ a : Nat, s.heap.size ≤ a → (fun a : Nat => s.heap.size ≤ a) a := fun _ h => h
  have hAc : ∀ a : Nat, (fun a : Nat => s.heap.size ≤ a) a → κ 2 2 ≤ a := fun a h => Nat.le_trans hZ.2.1 h
  have hl := lv_entry ([.ref b]) (n := 4) (Nat.le_of_ble_eq_true rfl)
  rw [lg_entry_eq]
  generalize (lg_sl ([.ref b]) ++ List.replicate (4 - (lg_sl ([.ref b])).length) Slot.unset).toArray = ls at hl ⊢
  have hl : lv_has ls 4 [(0, .ref b)] := hl
  have hw : WK D cy (t0_ (κ 2 0)) (fun _ _ => 0) (fun a : Nat => s.heap.size ≤ a) s.heap s.heap [] := ⟨t0_WC u1_ hc4_ u3_ u4_, fun a h => (t0_ow h).elim, va_S.rf⟩
  refine n_obj9 E hK hw hA cl_L_7 (Nat.le_of_ble_eq_true rfl) (Nat.le_of_ble_eq_true rfl) 3 rfl dL_law_0 (fun q1_ T1_ H1_ hge1_ hx1_ ho1_ tq1_ hw => ?_)
  refine j_dup E 4 rfl dL_law_3 rfl ?_
  have h26k_ : T1_ 0 (κ 2 0) = 26 := (hx1_ (κ 2 0) (by omega) 0).trans (if_pos ⟨rfl, rfl⟩)
  have hO_ : ∀ a, ow T1_ a → κ 2 2 ≤ a := fun a h => hAc a (hw.2.1 a h)
  refine aI_v E (n_X9_init l D cy κ T1_ _ q1_ H1_.size hO_ tq1_ h26k_) mi_X9_init ml_L_9 hK hZ hAc hw hA ⟨(Nat.le_of_ble_eq_true rfl), (Nat.le_of_ble_eq_true rfl)⟩ ⟨(Nat.le_of_ble_eq_true rfl), (Nat.le_of_ble_eq_true rfl)⟩ (As := []) (rest := [.ref q1_]) rfl rfl hl.1 (Nat.le_of_ble_eq_true rfl) 7 rfl dL_law_4 (fun T2_ v2_ H2_ locs2_ hge2_ ho2_ hq2_ hw => ?_)
  obtain ⟨⟨hx2_, tq2_, b186_, b187_, b190_, b191_, b180_, b181_, b182_, b183_⟩, -⟩ := hq2_
  refine j_astore_n E 8 rfl [(1, .ref q1_), (0, .ref b)] dL_law_7 rfl hl (by decide) rfl (fun ls hl => ?_)
  have hKn := hK.1 10 (RX10, TX10, 68) rfl
  refine W.newcK E.1 E.2.1 E.2.2.2.1 (hg _ cl_L_10) (hg _ it_X10) (hg _ ii_X10) rfl dL_law_8 (Nat.le_of_ble_eq_true rfl) (Nat.le_of_ble_eq_true rfl) hKn.2.1 rfl fun H3_ kC_ hkC_ e1_ z1_ o1_ => ?_
  have hat_ : va_at D vwCl (H2_.size, .inr (10, mFd_)) H3_ := ⟨_, rfl, (u_born tyX10 hg in_X10 hKn hkC_ e1_ tyX10_ok).to (by intro j hj; rcases j with _ | j; rfl; rcases j with _ | j; rfl; rcases j with _ | j; rfl; rcases j with _ | j; rfl; rcases j with _ | j; rfl; rcases j with _ | j; rfl; rcases j with _ | j; rfl; rcases j with _ | j; rfl; rcases j with _ | j; rfl; rcases j with _ | j; rfl; rcases j with _ | j; rfl; rcases j with _ | j; rfl; rcases j with _ | j; rfl; rcases j with _ | j; rfl; rcases j with _ | j; rfl; rcases j with _ | j; rfl; rcases j with _ | j; rfl; rcases j with _ | j; rfl; rcases j with _ | j; rfl; rcases j with _ | j; rfl; rcases j with _ | j; rfl; rcases j with _ | j; rfl; rcases j with _ | j; rfl; rcases j with _ | j; rfl; rcases j with _ | j; rfl; rcases j with _ | j; rfl; rcases j with _ | j; rfl; rcases j with _ | j; rfl; rcases j with _ | j; rfl; rcases j with _ | j; rfl; rcases j with _ | j; rfl; rcases j with _ | j; rfl; rcases j with _ | j; rfl; rcases j with _ | j; rfl; rcases j with _ | j; rfl; rcases j with _ | j; rfl; rcases j with _ | j; rfl; rcases j with _ | j; rfl; rcases j with _ | j; rfl; rcases j with _ | j; rfl; rcases j with _ | j; rfl; rcases j with _ | j; rfl; rcases j with _ | j; rfl; rcases j with _ | j; rfl; rcases j with _ | j; rfl; rcases j with _ | j; rfl; rcases j with _ | j; rfl; rcases j with _ | j; rfl; rcases j with _ | j; rfl; rcases j with _ | j; rfl; rcases j with _ | j; rfl; rcases j with _ | j; rfl; rcases j with _ | j; rfl; rcases j with _ | j; rfl; rcases j with _ | j; rfl; rcases j with _ | j; rfl; rcases j with _ | j; rfl; rcases j with _ | j; rfl; rcases j with _ | j; rfl; rcases j with _ | j; rfl; rcases j with _ | j; rfl; rcases j with _ | j; rfl; rcases j with _ | j; rfl; rcases j with _ | j; rfl; rcases j with _ | j; rfl; rcases j with _ | j; rfl; rcases j with _ | j; rfl; rcases j with _ | j; rfl; omega)⟩
  rw [← mF0_d] at hat_
  have hS3_ : va_S (fun a : Nat => s.heap.size ≤ a) s.heap H3_ locs2_ := ⟨Nat.le_trans hw.2.2.1 (by omega), fun a h1 h2 => (o1_ a (Nat.lt_of_lt_of_le h1 hw.2.2.1)).trans (hw.2.2.2.1 a h1 h2), hw.2.2.2.2⟩
  show W p l e room_1 s m #[Value.ref b] below meth c H3_ locs2_ _ _ (lw_Z below #[Value.ref b] s) (F0 m 11 ls [.ref H2_.size])
  refine j_dup E 12 rfl dL_law_11 rfl ?_
  refine j_callI E (c_X10_init l D cy H2_.size H3_.size) mi_X10_init ml_L_12 hK ⟨rfl, one_P hat_⟩ hS3_ (fun a h => by rw [h]; exact hw.2.2.1) (fun a h => h) ⟨(Nat.le_of_ble_eq_true rfl), (Nat.le_of_ble_eq_true rfl)⟩ ⟨(Nat.le_of_ble_eq_true rfl), (Nat.le_of_ble_eq_true rfl)⟩ (As := []) (rest := [.ref H2_.size]) rfl rfl hl.1 (Nat.le_of_ble_eq_true rfl) 15 rfl dL_law_12 (fun r_ H4_ locs4_ hq4_ hz4_ hk4_ hS4_ => ?_)
  obtain ⟨er_, q, hq0_, hI_, hqA_⟩ := hq4_
  subst er_
  show W p l e room_1 s m #[Value.ref b] below meth c H4_ locs4_ _ _ (lw_Z below #[Value.ref b] s) (F0 m 15 ls [.ref H2_.size])
  rw [← hq0_]
  refine j_astore_n E 16 rfl [(2, .ref (q 0)), (1, .ref q1_), (0, .ref b)] dL_law_15 rfl hl (by decide) rfl (fun ls hl => ?_)
  refine j_iconst E 17 rfl dL_law_16 ?_
  refine j_istore_n E 18 rfl [(3, .int (J 0)), (2, .ref (q 0)), (1, .ref q1_), (0, .ref b)] dL_law_17 rfl hl (by decide) rfl (fun ls hl => ?_)
  have hl := lv_sub hl [3, 2, 1, 0] rfl
  have lt1_ : q1_ < H2_.size := cw_lt hw.1 tq2_ (fun _ _ _ => ⟨_, rfl⟩)
  have w4_ : WC D cy (cutT T2_ H2_.size) v2_ H4_ := WC_kept (WC_cut hw.1) (fun a _ hl2 => (hk4_ a (by omega) (by omega)).trans (o1_ a hl2))
  have cl_ : ∀ a, ow (cutT T2_ H2_.size) a → a < H2_.size ∧ ow T2_ a := by
    intro a h
    by_cases ha : a < H2_.size
    · exact ⟨ha, by unfold ow at h ⊢; rw [cut_at 0 ha] at h; exact h⟩
    · unfold ow at h; rw [cut_ge 0 ha] at h; exact absurd rfl h.1
  have lw_ : LW D cy κ q1_ (cutT T2_ H2_.size) v2_ q n1_ f1_ s H4_ locs4_ := by
    refine ⟨w4_, by rw [cut_at 0 lt1_]; exact tq2_, fun a h => ?_, fun a h => hw.2.1 a (cl_ a h).2, hI_, MI_init, fun a h => ?_, fun a h hm => ?_, hS4_⟩
    · by_cases ha : a < H2_.size
      · rw [cut_at 0 ha] at h
        exact t0_26 ((ho1_ a).2 ((ho2_ a).2 h))
      · rw [cut_ge 0 ha] at h; cases h
    · have h1 := hqA_ a h
      have h2 := hw.2.2.1
      exact ⟨by omega, h1.2⟩
    · have h1 := (hqA_ a hm).1
      have h2 := (cl_ a h).1
      omega
  refine W.widen (k := 100 + 6 * 0) (n := 70000 + 7000 * 0) (Nat.le_of_ble_eq_true rfl) (Nat.le_of_ble_eq_true rfl) ?_
  exact lw_loop E hK hZ hκ hX hbl hL 513 0 _ _ _ _ _ _ ls lw_ ⟨b186_, b187_, by rw [cut_at 180 lt1_]; exact b180_, by rw [cut_at 181 lt1_]; exact b181_⟩ ⟨fun i j hi => absurd (show (i : Int) < 0 from hi) (by omega), fun i hi => absurd (show (i : Int) < 0 from hi) (by omega), fun j _ => rfl⟩ ⟨by rw [cut_at 182 lt1_]; exact b182_, b190_, b191_, fun j _ j2 => absurd (show j < 0 from j2) (by omega)⟩ ⟨fun i j hi => absurd (show (i : Int) < 0 from hi) (by omega), fun i hi => absurd (show (i : Int) < 0 from hi) (by omega)⟩ ⟨fun _ => [], fun _ => [], fun _ => [], fun w h0 h1 => absurd (show w < 0 by rw [cut_at 182 lt1_, b182_] at h1; exact h1) (by omega), fun w h0 h1 => absurd (show w < 0 from h1) (by omega)⟩ (fun l_ t_ h0_ h1_ => absurd (show l_ < 0 from h1_) (by omega)) hl (by omega) (by omega)
set_option maxHeartbeats 4000000 in
theorem lw_walk (l : Launch) (b : Addr) (xs : List Int32) : MetFree l x (headSpec (Jvm.Cond.code x code maxLocals ret :: tables_1) room_1) (lw_P b xs) (fun _ _ _ _ _ => True) lw_Q := by
  refine MetFree.of_bodyS (code := code) (maxLocals := maxLocals) (ret := ret) (by decide) ?_ ?_
  · intro args s m h hn
    obtain ⟨meth, c, h1, h2, h3, h4, h5, h6, -, -⟩ := Cond.code_spec hn (atoms_spec (ws := Jvm.Cond.code x code maxLocals ret :: tables_1) h _ List.mem_cons_self)
    exact ⟨meth, c, h1, h2, h3, h4, h5, h6⟩
  · intro p e s m args below meth c s₁ B hml0 hP _
    obtain ⟨rfl, hx, hbd, hgv⟩ := hP
    obtain ⟨scr, harrAt, hlist, hof, hsmall⟩ := hx
    obtain ⟨hcb, hkn, -, -⟩ := State.arrayAt?_spec harrAt
    have hown : s.vm.findClass R_law = some m.cls := findClass_of_methodNamed B.named
    have hts0 : ∀ c ∈ (Jvm.Cond.code x code maxLocals ret :: tables_1), c.before #[Value.ref b] s = true := atoms_spec (ws := Jvm.Cond.code x code maxLocals ret :: tables_1) B.pre
    have hts : ∀ w ∈ lw_tbl, w.before #[Value.ref b] s = true := k2_hts_sels lw_privs (fun w hw => hts0 w (List.mem_cons_of_mem _ hw)) lw_privs_ok
    have hml : c.maxLocals = 4 := B.maxLocals_eq (hts0 _ List.mem_cons_self)
    have X₀ : Stand p l e room_1 s m #[Value.ref b] below meth c s₁ [] 0 0 := Stand.of_body B
    have hh0 : s₁.heap = s.heap := by rw [B.state]; rfl
    have hsz : scr.slots.size = xs.length := by rw [← Array.length_toList, hlist, List.length_map]
    have hval : ∀ j : Nat, j < xs.length → scr.slots[j]? = some (.int (xs.getD j 0)) := fun j hj => by
      rw [← Array.getElem?_toList, hlist]
      simp [hj]
    have hbl : b < s.heap.size := (Array.getElem?_eq_some_iff.mp hcb).1
    have hX : va_X b xs.length (fun j => xs.getD j 0) s s.heap := ⟨scr, hcb, hof, hkn, hsz, hval⟩
    have K : W p l e room_1 s m #[Value.ref b] below meth c s₁.heap [] 0 0 (lw_Z below #[Value.ref b] s) (entryFrame m ([Value.ref b] : List Value).toArray 4) := by
      rw [hh0]
      exact whole_start l hbd ⟨B.exec, B.bytes, B.returns, hml, hown, hts, hX, hbl, B.notSynchronized, hgv⟩
    obtain ⟨t, a1, o, b1, b2, b3⟩ := K s₁ rfl X₀
    exact ⟨t, o, a1, b1, b2, b3⟩
theorem lw_pre_spec {args : Array Value} {s : State} (h : (Jvm.Cond.and given_1 narrow_1).before args s = true) (hr : rest_1_c.before args s = true) : ∃ (b : Addr) (xs : List Int32), lw_P b xs args s := by
  have hs := flat_of_before _ h
  have hq := flat_of_before _ hr
  have hc : (Cond.count 1).before args s = true := hs _ (by decide +kernel)
  have harr : (Cond.arrayOf (.arg 0) .int).before args s = true := hs _ (by decide +kernel)
  have hle : (Cond.le (.length (.arg 0)) (.int 4096)).before args s = true := hs _ (by decide +kernel)
  have hlen : (Cond.isInt (.length (.arg 0))).before args s = true := hq _ (by decide +kernel)
  have hall : (Cond.all (.arg 0) (.isInt (.elem (.arg 0) (.index 0)))).before args s = true := hq _ (by decide +kernel)
  obtain ⟨b, xs, hb, hx⟩ := State.ints_of_pre rfl harr hlen hall
  have hsm : xs.length < 2 ^ 31 := hx.choose_spec.2.2.2
  have hev : (Term.length (.arg 0)).eval args s none [] s = some (.int xs.length.toInt32) := hx.length_eval hb
  have hv := Cond.le_ints hev (show (Term.int 4096).eval args s none [] s = some (.int 4096) from rfl)
  have hd : xs.length.toInt32 ≤ 4096 := by
    simpa [Cond.before, Cond.holds, hv] using hle
  have hN : xs.length ≤ 4096 := (Int32.ofNat_le_ofNat hsm (by decide)).mp (show Int32.ofNat xs.length ≤ Int32.ofNat 4096 from hd)
  exact ⟨b, xs, Cond.one_arg hc (show args[0]? = some (.ref b) from hb), hx, hN, h⟩
theorem lw_comes (l : Launch) : Comes l x (Jvm.Cond.code x code maxLocals ret :: tables_1) room_1 (fun tb e args s => Calls_1 tb e args s ∧ rest_1 tb e args s ∧ Pre_1 tb e args s)
    (fun _ _ args s o t => lw_Q args s o t) := by
  intro p e ha hc hk s m args below hf hfit hheap happ hpre
  obtain ⟨b, xs, hP⟩ := lw_pre_spec hpre.2.2 hpre.2.1
  obtain ⟨k, o, h1, h2, h3, hQ⟩ := lw_walk l b xs p e ha hc hk s m args below hf ((Spec.applies_iff_loose hf).mp happ).1 hP trivial
  exact ⟨k, o, h1, h2, h3, hQ⟩
theorem lw_frame {s t : State} {o : Outcome} {args : Array Value} (h : Framed s o t [] 600000 7302250) :
    Framed s o t (fieldLocs frame_1_writes args s ++ arrayLocs frame_1_arrays args s ++ staticLocs frame_1_statics s) 600000 7302250 := h
theorem lw_limb (L : Cond) (hL : ∀ (args : Array Value) (s t : State), L.after args s (.returned (some (.int 1))) t = true) :
    ArmFor flags0 classFile x code maxLocals ret World_1 tables_1 room_1 Calls_1 rest_1 Pre_1
      (fun tb e a s o t => postC L tb e a s o t ∧ Framed s o t (fieldLocs frame_1_writes a s ++ arrayLocs frame_1_arrays a s ++ staticLocs frame_1_statics s) 600000 7302250) := by
  intro l _ _ _ p e ha hc hk s m args below hf hfit hheap happ hpre
  obtain ⟨k, o, h1, h2, h3, rfl, hF⟩ := lw_comes l p e ha hc hk s m args below hf hfit hheap happ hpre
  exact ⟨k, _, h1, h2, h3, hL args s _, lw_frame hF⟩
theorem i_vc : Claimed_1_1 ∧ Claimed_1_2 := ⟨lw_limb limb_1_1 (fun args s t => by simp [limb_1_1, Cond.after, Cond.holds, Cond.value]), lw_limb limb_1_2 (fun args s t => Cond.after_iff.mpr (by
  first | (rw [show limb_1_2 = Cond.eq .result (.int 1) from rfl, Cond.eq_ints (x := 1) (y := 1) rfl rfl]; simp; done) | (simp [limb_1_2, Cond.value, Term.eval]; done)))⟩

