theorem mx_max : Cond.code Lib.Math.max.name Lib.Math.max.code 2 (some .int) ∈ gT := (gT_c2 (List.mem_of_getElem? (i := 22) rfl) rfl)
theorem mx_min : Cond.code Lib.Math.min.name Lib.Math.min.code 2 (some .int) ∈ gT := (gT_c2 (List.mem_of_getElem? (i := 53) rfl) rfl)
theorem j_max {p : Program} {l : Launch} {e : Env} {R : Room} {s : State} {m : MethodId} {args : Array Value} {below : List Frame} {meth : Method} {c : Code} {H : Heap} {locs : List Loc} {cells slots : Nat} {Q : State → Prop} {own : String} {cc : ByteArray} {nL : Nat} {ret : Option FieldType} {pc : Nat} {ls : Array Slot} {rest : List Value} (E : CX p s m args meth c own cc nL ret) (hls : ls.size = nL) {ix : Nat} (hlk : Cond.methodLink own ix yJ9_max_7cf53 ∈ gT) {a b : Int} (ha : inR a) (hb : inR b) (hR : 1 ≤ R.frames ∧ (rest.map fun v => v.category).sum + 13 ≤ R.locals) (hf : cells ≤ R.cells ∧ slots ≤ R.slots) (pc' : Nat) (hp : pc + 3 = pc') (hdg : decode cc pc = .ok (.invokestatic ix, 3))
    (kk : ∀ z : Int, inR z → (a ≤ z ∧ b ≤ z ∧ (z = a ∨ z = b)) → W p l e R s m args below meth c H locs cells slots Q (F0 m pc' ls (.int (J z) :: rest))) : W p l e R s m args below meth c H locs cells slots Q (F0 m pc ls (.int (J b) :: .int (J a) :: rest)) := by
  subst hp
  refine va_mmax E.1 E.2.1 (by rw [E.2.2.1, hls]) E.2.2.2.1 (E.2.2.2.2.1 _ hlk) (E.2.2.2.2.1 _ ms_J9_max_7cf53.2.1) (E.2.2.2.2.1 _ ms_J9_max_7cf53.2.2.1) (E.2.2.2.2.1 _ mx_max) hR.1 hR.2 hf.1 hf.2 hdg ?_
  split
  · rename_i h
    have h := (J_lt ha hb).mp h
    exact kk b hb (by omega)
  · rename_i h
    have h : ¬ _ := fun q => h ((J_lt ha hb).mpr q)
    exact kk a ha (by omega)
theorem j_min {p : Program} {l : Launch} {e : Env} {R : Room} {s : State} {m : MethodId} {args : Array Value} {below : List Frame} {meth : Method} {c : Code} {H : Heap} {locs : List Loc} {cells slots : Nat} {Q : State → Prop} {own : String} {cc : ByteArray} {nL : Nat} {ret : Option FieldType} {pc : Nat} {ls : Array Slot} {rest : List Value} (E : CX p s m args meth c own cc nL ret) (hls : ls.size = nL) {ix : Nat} (hlk : Cond.methodLink own ix yJ9_min_7cf53 ∈ gT) {a b : Int} (ha : inR a) (hb : inR b) (hR : 1 ≤ R.frames ∧ (rest.map fun v => v.category).sum + 13 ≤ R.locals) (hf : cells ≤ R.cells ∧ slots ≤ R.slots) (pc' : Nat) (hp : pc + 3 = pc') (hdg : decode cc pc = .ok (.invokestatic ix, 3))
    (kk : ∀ z : Int, inR z → (z ≤ a ∧ z ≤ b ∧ (z = a ∨ z = b)) → W p l e R s m args below meth c H locs cells slots Q (F0 m pc' ls (.int (J z) :: rest))) : W p l e R s m args below meth c H locs cells slots Q (F0 m pc ls (.int (J b) :: .int (J a) :: rest)) := by
  subst hp
  refine va_mmin E.1 E.2.1 (by rw [E.2.2.1, hls]) E.2.2.2.1 (E.2.2.2.2.1 _ hlk) (E.2.2.2.2.1 _ ms_J9_min_7cf53.2.1) (E.2.2.2.2.1 _ ms_J9_min_7cf53.2.2.1) (E.2.2.2.2.1 _ mx_min) hR.1 hR.2 hf.1 hf.2 hdg ?_
  split
  · rename_i h
    have h := (J_lt hb ha).mp h
    exact kk b hb (by omega)
  · rename_i h
    have h : ¬ _ := fun q => h ((J_lt hb ha).mpr q)
    exact kk a ha (by omega)
theorem dcd_e {a y : Nat} (h : dcd a = some y) : a = y + 1 := by
  unfold dcd at h
  split at h
  · cases h
  · have h2 := Option.some.inj h
    omega
theorem dcd_i {a y : Nat} (h : a = y + 1) : dcd a = some y := by
  rw [h]
  unfold dcd
  rw [if_neg (by omega)]
  rfl
set_option maxHeartbeats 4000000 in
set_option maxRecDepth 100000 in
theorem c_J6_lowestOneBit_0f7a4 (l : Launch) (D : va_G) (cy : Nat → ClassId) (T : Nat → Nat → Nat) (v_0 : Nat → Nat → Int) (v_a : Int) (r_v_a : inR v_a) : KC l D cy T yJ6_lowestOneBit_0f7a4 cJ6_lowestOneBit_0f7a4 1 (some .int) 1 [.int (J v_a)] v_0 (KI (fun (z_0 : Int) (v_2 : Nat → Nat → Int) => v_2 = v_0 ∧ (True))) := by
  refine KC.ofi (by decide) (Nat.le_of_ble_eq_true rfl) ?_
  intro p e s m below meth c ls ar QW A0 H0 H locs E hK hA hw hl hret
  have hl : lv_has ls 1 [(0, .int (J v_a))] := hl
  have hT : WT T := hw.1.2.1
  refine j_iload_n E 1 rfl dJ6_lowestOneBit_0f7a4_0 rfl (lv_at hl 0 rfl) ?_
  refine j_iload_n E 2 rfl dJ6_lowestOneBit_0f7a4_1 rfl (lv_at hl 0 rfl) ?_
  refine j_ineg E 3 rfl dJ6_lowestOneBit_0f7a4_2 ?_
  refine j_norm (fun zz1_ rr1_ ee1_ => ?_)
  refine j_iand E 4 rfl dJ6_lowestOneBit_0f7a4_3 (fun zz2_ rr2_ ee2_ => ?_)
  exact hret 4 zz2_ (v_0) _ _ ls hw rr2_ ⟨rfl, trivial⟩ dJ6_lowestOneBit_0f7a4_4
set_option maxHeartbeats 4000000 in
set_option maxRecDepth 100000 in
theorem c_J6_bitCount_0f7a4 (l : Launch) (D : va_G) (cy : Nat → ClassId) (T : Nat → Nat → Nat) (v_0 : Nat → Nat → Int) (v_a : Int) (r_v_a : inR v_a) : KC l D cy T yJ6_bitCount_0f7a4 cJ6_bitCount_0f7a4 1 (some .int) 1 [.int (J v_a)] v_0 (KI (fun (z_0 : Int) (v_2 : Nat → Nat → Int) => v_2 = v_0 ∧ (True))) := by
  refine KC.ofi (by decide) (Nat.le_of_ble_eq_true rfl) ?_
  intro p e s m below meth c ls ar QW A0 H0 H locs E hK hA hw hl hret
  have hl : lv_has ls 1 [(0, .int (J v_a))] := hl
  have hT : WT T := hw.1.2.1
  refine j_iload_n E 1 rfl dJ6_bitCount_0f7a4_0 rfl (lv_at hl 0 rfl) ?_
  refine j_iload_n E 2 rfl dJ6_bitCount_0f7a4_1 rfl (lv_at hl 0 rfl) ?_
  refine j_iconst E 3 rfl dJ6_bitCount_0f7a4_2 ?_
  refine j_iushr E 4 rfl dJ6_bitCount_0f7a4_3 (fun zz1_ rr1_ ee1_ => ?_)
  refine j_ldcw (z := 1431655765) E 7 rfl (gT_c3 (List.mem_of_getElem? (i := 206) (by decide +kernel)) (by decide +kernel)) dJ6_bitCount_0f7a4_4 ?_
  refine j_iand E 8 rfl dJ6_bitCount_0f7a4_7 (fun zz2_ rr2_ ee2_ => ?_)
  refine j_isub E 9 rfl dJ6_bitCount_0f7a4_8 ?_
  refine j_norm (fun zz3_ rr3_ ee3_ => ?_)
  refine j_istore_n E 10 rfl [(0, .int (J zz3_))] dJ6_bitCount_0f7a4_9 rfl hl (by decide) rfl (fun ls hl => ?_)
  refine j_iload_n E 11 rfl dJ6_bitCount_0f7a4_10 rfl (lv_at hl 0 rfl) ?_
  refine j_ldcw (z := 858993459) E 14 rfl (gT_c3 (List.mem_of_getElem? (i := 207) (by decide +kernel)) (by decide +kernel)) dJ6_bitCount_0f7a4_11 ?_
  refine j_iand E 15 rfl dJ6_bitCount_0f7a4_14 (fun zz4_ rr4_ ee4_ => ?_)
  refine j_iload_n E 16 rfl dJ6_bitCount_0f7a4_15 rfl (lv_at hl 0 rfl) ?_
  refine j_iconst E 17 rfl dJ6_bitCount_0f7a4_16 ?_
  refine j_iushr E 18 rfl dJ6_bitCount_0f7a4_17 (fun zz5_ rr5_ ee5_ => ?_)
  refine j_ldcw (z := 858993459) E 21 rfl (gT_c3 (List.mem_of_getElem? (i := 207) (by decide +kernel)) (by decide +kernel)) dJ6_bitCount_0f7a4_18 ?_
  refine j_iand E 22 rfl dJ6_bitCount_0f7a4_21 (fun zz6_ rr6_ ee6_ => ?_)
  refine j_iadd E 23 rfl dJ6_bitCount_0f7a4_22 ?_
  refine j_norm (fun zz7_ rr7_ ee7_ => ?_)
  refine j_istore_n E 24 rfl [(0, .int (J zz7_))] dJ6_bitCount_0f7a4_23 rfl hl (by decide) rfl (fun ls hl => ?_)
  refine j_iload_n E 25 rfl dJ6_bitCount_0f7a4_24 rfl (lv_at hl 0 rfl) ?_
  refine j_iload_n E 26 rfl dJ6_bitCount_0f7a4_25 rfl (lv_at hl 0 rfl) ?_
  refine j_iconst E 27 rfl dJ6_bitCount_0f7a4_26 ?_
  refine j_iushr E 28 rfl dJ6_bitCount_0f7a4_27 (fun zz8_ rr8_ ee8_ => ?_)
  refine j_iadd E 29 rfl dJ6_bitCount_0f7a4_28 ?_
  refine j_norm (fun zz9_ rr9_ ee9_ => ?_)
  refine j_ldcw (z := 252645135) E 32 rfl (gT_c3 (List.mem_of_getElem? (i := 208) (by decide +kernel)) (by decide +kernel)) dJ6_bitCount_0f7a4_29 ?_
  refine j_iand E 33 rfl dJ6_bitCount_0f7a4_32 (fun zz10_ rr10_ ee10_ => ?_)
  refine j_istore_n E 34 rfl [(0, .int (J zz10_))] dJ6_bitCount_0f7a4_33 rfl hl (by decide) rfl (fun ls hl => ?_)
  refine j_iload_n E 35 rfl dJ6_bitCount_0f7a4_34 rfl (lv_at hl 0 rfl) ?_
  refine j_iload_n E 36 rfl dJ6_bitCount_0f7a4_35 rfl (lv_at hl 0 rfl) ?_
  refine j_bipush E 38 rfl dJ6_bitCount_0f7a4_36 (by decide) ?_
  refine j_iushr E 39 rfl dJ6_bitCount_0f7a4_38 (fun zz11_ rr11_ ee11_ => ?_)
  refine j_iadd E 40 rfl dJ6_bitCount_0f7a4_39 ?_
  refine j_norm (fun zz12_ rr12_ ee12_ => ?_)
  refine j_istore_n E 41 rfl [(0, .int (J zz12_))] dJ6_bitCount_0f7a4_40 rfl hl (by decide) rfl (fun ls hl => ?_)
  refine j_iload_n E 42 rfl dJ6_bitCount_0f7a4_41 rfl (lv_at hl 0 rfl) ?_
  refine j_iload_n E 43 rfl dJ6_bitCount_0f7a4_42 rfl (lv_at hl 0 rfl) ?_
  refine j_bipush E 45 rfl dJ6_bitCount_0f7a4_43 (by decide) ?_
  refine j_iushr E 46 rfl dJ6_bitCount_0f7a4_45 (fun zz13_ rr13_ ee13_ => ?_)
  refine j_iadd E 47 rfl dJ6_bitCount_0f7a4_46 ?_
  refine j_norm (fun zz14_ rr14_ ee14_ => ?_)
  refine j_istore_n E 48 rfl [(0, .int (J zz14_))] dJ6_bitCount_0f7a4_47 rfl hl (by decide) rfl (fun ls hl => ?_)
  refine j_iload_n E 49 rfl dJ6_bitCount_0f7a4_48 rfl (lv_at hl 0 rfl) ?_
  refine j_bipush E 51 rfl dJ6_bitCount_0f7a4_49 (by decide) ?_
  refine j_iand E 52 rfl dJ6_bitCount_0f7a4_51 (fun zz15_ rr15_ ee15_ => ?_)
  exact hret 52 zz15_ (v_0) _ _ ls hw rr15_ ⟨rfl, trivial⟩ dJ6_bitCount_0f7a4_52
set_option maxHeartbeats 4000000 in
set_option maxRecDepth 100000 in
theorem c_J7_fill_53178 (l : Launch) (D : va_G) (cy : Nat → ClassId) (T : Nat → Nat → Nat) (v_0 : Nat → Nat → Int) (a_r : Nat) (v_x : Int) (t_r : T 0 a_r = 20) (r_v_x : inR v_x) : KC l D cy T yJ7_fill_53178 cJ7_fill_53178 4 none 1 [.ref a_r, .int (J v_x)] v_0 (KV (fun (v_2 : Nat → Nat → Int) => ∃ (y300_2 : Nat → Int) , v_2 = upV v_0 300 y300_2 ∧ ((∀ j_, 0 ≤ j_ → j_ < (T 1 a_r : Int) → gC_ (y300_2) a_r j_ = v_x) ∧ Ro_ (v_0 300) y300_2 a_r))) := by
  refine KC.ofv (by decide) (Nat.le_of_ble_eq_true rfl) ?_
  intro p e s m below meth c ls ar QW A0 H0 H locs E hK hA hw hl hret
  have hl : lv_has ls 4 [(0, .ref a_r), (1, .int (J v_x))] := hl
  have hT : WT T := hw.1.2.1
  refine j_iconst E 1 rfl dJ7_fill_53178_0 ?_
  refine j_istore_n E 2 rfl [(2, .int (J 0)), (0, .ref a_r), (1, .int (J v_x))] dJ7_fill_53178_1 rfl hl (by decide) rfl (fun ls hl => ?_)
  refine j_aload_n E 3 rfl dJ7_fill_53178_2 rfl (lv_at hl 1 rfl) ?_
  refine a_ln20 E hK hw t_r 4 rfl dJ7_fill_53178_3 (fun rr1_ => ?_)
  refine j_istore_n E 5 rfl [(3, .int (J ((T 1 a_r : Int)))), (2, .int (J 0)), (0, .ref a_r), (1, .int (J v_x))] dJ7_fill_53178_4 rfl hl (by decide) rfl (fun ls hl => ?_)
  have L5_2 : ∀ (k5 : Nat) (l2_5 : Int) (y300_c5 : Nat → Int) (H : Heap) (locs : List Loc) (ls : Array Slot), inR l2_5 → (((0 ≤ l2_5 ∧ l2_5 ≤ (T 1 a_r : Int)) ∧ ∀ j_, 0 ≤ j_ → j_ < l2_5 → gC_ (y300_c5) a_r j_ = v_x) ∧ Ro_ (v_0 300) y300_c5 a_r) → ((T 1 a_r : Int) - l2_5).toNat < k5 → WK D cy T (upV v_0 300 y300_c5) A0 H0 H locs → lv_has ls 4 [(0, .ref a_r), (1, .int (J v_x)), (2, .int (J l2_5)), (3, .int (J ((T 1 a_r : Int))))] → W p l e (rmd 1 0 0) s m ar below meth c H locs 0 0 QW (F0 m 5 ls []) := by
    intro k5
    induction k5 with
    | zero =>
      intro l2_5 y300_c5 H locs ls r_l2_5 iv5 ms5 hw hl
      exact absurd ms5 (Nat.not_lt_zero _)
    | succ k5 ih5 =>
      intro l2_5 y300_c5 H locs ls r_l2_5 iv5 ms5 hw hl
      obtain ⟨iv5, ik5_⟩ := iv5
      refine j_iload_n E 6 rfl dJ7_fill_53178_5 rfl (lv_at hl 2 rfl) ?_
      refine j_iload_n E 7 rfl dJ7_fill_53178_6 rfl (lv_at hl 3 rfl) ?_
      refine j_icmp_ge E 10 20 rfl r_l2_5 rr1_ dJ7_fill_53178_7 (by decide) (fun cc4_ => ?_) (fun cc4_ => ?_)
      · exact hret 20 (upV v_0 300 y300_c5) _ _ ls hw ⟨y300_c5, rfl, ⟨fun j_ h1_ h2_ => iv5.2 j_ h1_ (by omega), ik5_⟩⟩ dJ7_fill_53178_20
      · refine j_aload_n E 11 rfl dJ7_fill_53178_10 rfl (lv_at hl 0 rfl) ?_
        refine j_iload_n E 12 rfl dJ7_fill_53178_11 rfl (lv_at hl 2 rfl) ?_
        refine j_iload_n E 13 rfl dJ7_fill_53178_12 rfl (lv_at hl 1 rfl) ?_
        refine a_st20 E hK hw t_r r_v_x (by omega) 14 rfl dJ7_fill_53178_13 (fun H locs hw => ?_)
        have hw : WK D cy T (upV v_0 300 (upB y300_c5 ((pr a_r (Int.toNat l2_5))) v_x)) A0 H0 H locs := cw_eq hw (by first | rfl | (funext j_; simp only [upV, reduceIte]; (repeat' split) <;> first | rfl | omega | (subst_vars; rfl)))
        refine j_iinc E 17 rfl [(2, .int (J (l2_5 + 1))), (0, .ref a_r), (1, .int (J v_x)), (3, .int (J ((T 1 a_r : Int))))] dJ7_fill_53178_14 hl (kk := 2) rfl (by decide) rfl (fun ls hl => ?_)
        refine j_goto E 5 dJ7_fill_53178_17 (by decide) ?_
        exact ih5 (l2_5 + 1) (upB y300_c5 ((pr a_r (Int.toNat l2_5))) v_x) H locs ls (rr (by omega)) (⟨⟨by omega, tk_st (g := fun _ => v_x) iv5.2 (by omega) rfl⟩, (Ro_tr ik5_ Ro_up)⟩) (by omega) hw (lv_sub hl [1, 2, 0, 3] rfl)
  exact L5_2 _ 0 (v_0 300) H locs ls (rr (by decide)) (⟨⟨by omega, fun j_ h1_ h2_ => absurd h2_ (by omega)⟩, Ro_rf⟩) (Nat.lt_succ_self _) (cw_eq hw (by first | rfl | (funext j_; simp only [upV, reduceIte]; (repeat' split) <;> first | rfl | omega | (subst_vars; rfl)))) (lv_sub hl [2, 3, 1, 0] rfl)
set_option maxHeartbeats 4000000 in
set_option maxRecDepth 100000 in
theorem c_J7_fill_031fb (l : Launch) (D : va_G) (cy : Nat → ClassId) (T : Nat → Nat → Nat) (v_0 : Nat → Nat → Int) (a_r : Nat) (v_x : Int) (t_r : T 0 a_r = 22) (r_v_x : inR v_x) : KC l D cy T yJ7_fill_031fb cJ7_fill_031fb 4 none 1 [.ref a_r, .int (J v_x)] v_0 (KV (fun (v_2 : Nat → Nat → Int) => ∃ (y302_2 : Nat → Int) , v_2 = upV v_0 302 y302_2 ∧ (True))) := by
  refine KC.ofv (by decide) (Nat.le_of_ble_eq_true rfl) ?_
  intro p e s m below meth c ls ar QW A0 H0 H locs E hK hA hw hl hret
  have hl : lv_has ls 4 [(0, .ref a_r), (1, .int (J v_x))] := hl
  have hT : WT T := hw.1.2.1
  refine j_iconst E 1 rfl dJ7_fill_031fb_0 ?_
  refine j_istore_n E 2 rfl [(2, .int (J 0)), (0, .ref a_r), (1, .int (J v_x))] dJ7_fill_031fb_1 rfl hl (by decide) rfl (fun ls hl => ?_)
  refine j_aload_n E 3 rfl dJ7_fill_031fb_2 rfl (lv_at hl 1 rfl) ?_
  refine a_ln22 E hK hw t_r 4 rfl dJ7_fill_031fb_3 (fun rr1_ => ?_)
  refine j_istore_n E 5 rfl [(3, .int (J ((T 1 a_r : Int)))), (2, .int (J 0)), (0, .ref a_r), (1, .int (J v_x))] dJ7_fill_031fb_4 rfl hl (by decide) rfl (fun ls hl => ?_)
  have L5_2 : ∀ (k5 : Nat) (l2_5 : Int) (y302_c5 : Nat → Int) (H : Heap) (locs : List Loc) (ls : Array Slot), inR l2_5 → (0 ≤ l2_5) → ((T 1 a_r : Int) - l2_5).toNat < k5 → WK D cy T (upV v_0 302 y302_c5) A0 H0 H locs → lv_has ls 4 [(0, .ref a_r), (1, .int (J v_x)), (2, .int (J l2_5)), (3, .int (J ((T 1 a_r : Int))))] → W p l e (rmd 1 0 0) s m ar below meth c H locs 0 0 QW (F0 m 5 ls []) := by
    intro k5
    induction k5 with
    | zero =>
      intro l2_5 y302_c5 H locs ls r_l2_5 iv5 ms5 hw hl
      exact absurd ms5 (Nat.not_lt_zero _)
    | succ k5 ih5 =>
      intro l2_5 y302_c5 H locs ls r_l2_5 iv5 ms5 hw hl
      refine j_iload_n E 6 rfl dJ7_fill_031fb_5 rfl (lv_at hl 2 rfl) ?_
      refine j_iload_n E 7 rfl dJ7_fill_031fb_6 rfl (lv_at hl 3 rfl) ?_
      refine j_icmp_ge E 10 20 rfl r_l2_5 rr1_ dJ7_fill_031fb_7 (by decide) (fun cc4_ => ?_) (fun cc4_ => ?_)
      · exact hret 20 (upV v_0 302 y302_c5) _ _ ls hw ⟨y302_c5, rfl, trivial⟩ dJ7_fill_031fb_20
      · refine j_aload_n E 11 rfl dJ7_fill_031fb_10 rfl (lv_at hl 0 rfl) ?_
        refine j_iload_n E 12 rfl dJ7_fill_031fb_11 rfl (lv_at hl 2 rfl) ?_
        refine j_iload_n E 13 rfl dJ7_fill_031fb_12 rfl (lv_at hl 1 rfl) ?_
        obtain ⟨zz5_, rr5_, en5_⟩ := J_ex (vp_nar .byte (J v_x))
        refine a_st22 E hK hw t_r en5_ rr5_ (by omega) 14 rfl dJ7_fill_031fb_13 (fun H locs hw => ?_)
        have hw : WK D cy T (upV v_0 302 (upB y302_c5 ((pr a_r (Int.toNat l2_5))) zz5_)) A0 H0 H locs := cw_eq hw (by first | rfl | (funext j_; simp only [upV, reduceIte]; (repeat' split) <;> first | rfl | omega | (subst_vars; rfl)))
        refine j_iinc E 17 rfl [(2, .int (J (l2_5 + 1))), (0, .ref a_r), (1, .int (J v_x)), (3, .int (J ((T 1 a_r : Int))))] dJ7_fill_031fb_14 hl (kk := 2) rfl (by decide) rfl (fun ls hl => ?_)
        refine j_goto E 5 dJ7_fill_031fb_17 (by decide) ?_
        exact ih5 (l2_5 + 1) (upB y302_c5 ((pr a_r (Int.toNat l2_5))) zz5_) H locs ls (rr (by omega)) (by first | omega | (simp only [upB_same]; omega)) (by omega) hw (lv_sub hl [1, 2, 0, 3] rfl)
  exact L5_2 _ 0 (v_0 302) H locs ls (rr (by decide)) (by first | omega | (simp only [upB_same]; omega)) (Nat.lt_succ_self _) (cw_eq hw (by first | rfl | (funext j_; simp only [upV, reduceIte]; (repeat' split) <;> first | rfl | omega | (subst_vars; rfl)))) (lv_sub hl [2, 3, 1, 0] rfl)
set_option maxHeartbeats 4000000 in
set_option maxRecDepth 100000 in
theorem c_J3_checkIndex_8e157 (l : Launch) (D : va_G) (cy : Nat → ClassId) (T : Nat → Nat → Nat) (v_0 : Nat → Nat → Int) (v_i : Int) (v_n : Int) (r_v_i : inR v_i) (r_v_n : inR v_n) (hp0 : 0 ≤ v_i ∧ v_i < v_n) : KC l D cy T yJ3_checkIndex_8e157 cJ3_checkIndex_8e157 3 (some .int) 1 [.int (J v_i), .int (J v_n), .null] v_0 (KI (fun (z_0 : Int) (v_2 : Nat → Nat → Int) => v_2 = v_0 ∧ (z_0 = v_i))) := by
  refine KC.ofi (by decide) (Nat.le_of_ble_eq_true rfl) ?_
  intro p e s m below meth c ls ar QW A0 H0 H locs E hK hA hw hl hret
  have hl : lv_has ls 3 [(0, .int (J v_i)), (1, .int (J v_n)), (2, .null)] := hl
  have hT : WT T := hw.1.2.1
  refine j_iload_n E 1 rfl dJ3_checkIndex_8e157_0 rfl (lv_at hl 0 rfl) ?_
  refine j_if_lt E 4 9 rfl r_v_i dJ3_checkIndex_8e157_1 (by decide) (fun cc1_ => ?_) (fun cc1_ => ?_)
  · exfalso; omega
  refine j_iload_n E 5 rfl dJ3_checkIndex_8e157_4 rfl (lv_at hl 0 rfl) ?_
  refine j_iload_n E 6 rfl dJ3_checkIndex_8e157_5 rfl (lv_at hl 1 rfl) ?_
  refine j_icmp_lt E 9 16 rfl r_v_i r_v_n dJ3_checkIndex_8e157_6 (by decide) (fun cc2_ => ?_) (fun cc2_ => ?_)
  rotate_left; · exfalso; omega
  refine j_iload_n E 17 rfl dJ3_checkIndex_8e157_16 rfl (lv_at hl 0 rfl) ?_
  exact hret 17 v_i (v_0) _ _ ls hw r_v_i ⟨rfl, by omega⟩ dJ3_checkIndex_8e157_17
set_option maxHeartbeats 4000000 in
set_option maxRecDepth 100000 in
theorem c_J15_checkIndex_7cf53 (l : Launch) (D : va_G) (cy : Nat → ClassId) (T : Nat → Nat → Nat) (v_0 : Nat → Nat → Int) (v_i : Int) (v_n : Int) (r_v_i : inR v_i) (r_v_n : inR v_n) (hp0 : 0 ≤ v_i ∧ v_i < v_n) : KC l D cy T yJ15_checkIndex_7cf53 cJ15_checkIndex_7cf53 2 (some .int) 2 [.int (J v_i), .int (J v_n)] v_0 (KI (fun (z_0 : Int) (v_2 : Nat → Nat → Int) => v_2 = v_0 ∧ (z_0 = v_i))) := by
  refine KC.ofi (by decide) (Nat.le_of_ble_eq_true rfl) ?_
  intro p e s m below meth c ls ar QW A0 H0 H locs E hK hA hw hl hret
  have hl : lv_has ls 2 [(0, .int (J v_i)), (1, .int (J v_n))] := hl
  have hT : WT T := hw.1.2.1
  refine j_iload_n E 1 rfl dJ15_checkIndex_7cf53_0 rfl (lv_at hl 0 rfl) ?_
  refine j_iload_n E 2 rfl dJ15_checkIndex_7cf53_1 rfl (lv_at hl 1 rfl) ?_
  refine j_null E 3 rfl dJ15_checkIndex_7cf53_2 ?_
  refine kS_i E (c_J3_checkIndex_8e157 l D cy T (v_0) v_i v_n   r_v_i r_v_n (show 0 ≤ v_i ∧ v_i < v_n from by omega)) ms_J3_checkIndex_8e157 ml_J15_105 hK hw hA ⟨Nat.le_of_ble_eq_true rfl, Nat.le_of_ble_eq_true rfl⟩ ⟨Nat.le_of_ble_eq_true rfl, Nat.le_of_ble_eq_true rfl⟩ (As := [.int (J v_i), .int (J v_n), .null]) (rest := []) rfl rfl hl.1 (Nat.le_of_ble_eq_true rfl) 6 rfl dJ15_checkIndex_7cf53_3 (fun zz1_ v_1 H locs rr1_ hq1_ hw => ?_)
  obtain ⟨ev1_, hh1_⟩ := hq1_
  rw [ev1_] at hw; clear ev1_
  replace hh1_ : zz1_ = v_i := hh1_
  exact hret 6 zz1_ (v_0) _ _ ls hw rr1_ ⟨rfl, by omega⟩ dJ15_checkIndex_7cf53_6
set_option maxHeartbeats 4000000 in
set_option maxRecDepth 100000 in
theorem c_Jx4a65c_size_8abf5 (l : Launch) (D : va_G) (cy : Nat → ClassId) (T : Nat → Nat → Nat) (v_0 : Nat → Nat → Int) (o : Nat) (t_o : T 0 o = 10) : KC l D cy T yJx4a65c_size_8abf5 cJx4a65c_size_8abf5 1 (some .int) 1 [.ref o] v_0 (KI (fun (z_0 : Int) (v_2 : Nat → Nat → Int) => v_2 = v_0 ∧ (z_0 = (v_0 202 o) ∧ 0 ≤ z_0))) := by
  refine KC.ofi (by decide) (Nat.le_of_ble_eq_true rfl) ?_
  intro p e s m below meth c ls ar QW A0 H0 H locs E hK hA hw hl hret
  have hl : lv_has ls 1 [(0, .ref o)] := hl
  have hT : WT T := hw.1.2.1
  refine j_aload_n E 1 rfl dJx4a65c_size_8abf5_0 rfl (lv_at hl 0 rfl) ?_
  refine g_202 E hK hw fl_Jx4a65c_48 t_o (v_0 202 o) rfl 4 rfl dJx4a65c_size_8abf5_1 (fun rr1_ => ?_)
  exact hret 4 (v_0 202 o) (v_0) _ _ ls hw rr1_ ⟨rfl, ⟨rfl, (hw.1.2.2.1 o t_o).1⟩⟩ dJx4a65c_size_8abf5_4
set_option maxHeartbeats 4000000 in
set_option maxRecDepth 100000 in
theorem c_Jx4a65c_elementData_915e3 (l : Launch) (D : va_G) (cy : Nat → ClassId) (T : Nat → Nat → Nat) (v_0 : Nat → Nat → Int) (o : Nat) (v_i : Int) (t_o : T 0 o = 10) (r_v_i : inR v_i) (hp0 : 0 ≤ v_i ∧ v_i < (v_0 202 o)) : KC l D cy T yJx4a65c_elementData_915e3 cJx4a65c_elementData_915e3 2 (some (.object "java/lang/Object")) 1 [.ref o, .int (J v_i)] v_0 (KN (fun (x_0 : Nat) (v_2 : Nat → Nat → Int) => v_2 = v_0 ∧ (dcd (T (1000 + (v_i).toNat) (T 201 o)) = some x_0 ∧ T 0 x_0 = T 2 o))) := by
  refine KC.ofn (Or.inl ⟨_, rfl⟩) (by decide) (Nat.le_of_ble_eq_true rfl) ?_
  intro p e s m below meth c ls ar QW A0 H0 H locs E hK hA hw hl hret
  have hl : lv_has ls 2 [(0, .ref o), (1, .int (J v_i))] := hl
  have hT : WT T := hw.1.2.1
  have hs_ := hw.1.2.2.1 o t_o
  have h2_ := hs_.2.1
  obtain ⟨x_, hx_, tx_⟩ := hs_.2.2 v_i.toNat (by omega)
  refine j_aload_n E 1 rfl dJx4a65c_elementData_915e3_0 rfl (lv_at hl 0 rfl) ?_
  refine g_201 E hK hw fl_Jx4a65c_9 t_o 4 rfl dJx4a65c_elementData_915e3_1 ?_
  refine j_iload_n E 5 rfl dJx4a65c_elementData_915e3_4 rfl (lv_at hl 1 rfl) ?_
  refine a_ldq E hK hw (wt10 hT t_o).1 (by omega) hx_ 6 rfl dJx4a65c_elementData_915e3_5 ?_
  exact hret 6 x_ (v_0) _ _ ls hw ⟨rfl, ⟨hx_, tx_⟩⟩ dJx4a65c_elementData_915e3_6
set_option maxHeartbeats 4000000 in
set_option maxRecDepth 100000 in
theorem c_Jx4a65c_get_915e3 (l : Launch) (D : va_G) (cy : Nat → ClassId) (T : Nat → Nat → Nat) (v_0 : Nat → Nat → Int) (o : Nat) (v_i : Int) (t_o : T 0 o = 10) (r_v_i : inR v_i) (hp0 : 0 ≤ v_i ∧ v_i < (v_0 202 o)) : KC l D cy T yJx4a65c_get_915e3 cJx4a65c_get_915e3 2 (some (.object "java/lang/Object")) 3 [.ref o, .int (J v_i)] v_0 (KN (fun (x_0 : Nat) (v_2 : Nat → Nat → Int) => v_2 = v_0 ∧ (dcd (T (1000 + (v_i).toNat) (T 201 o)) = some x_0 ∧ T 0 x_0 = T 2 o))) := by
  refine KC.ofn (Or.inl ⟨_, rfl⟩) (by decide) (Nat.le_of_ble_eq_true rfl) ?_
  intro p e s m below meth c ls ar QW A0 H0 H locs E hK hA hw hl hret
  have hl : lv_has ls 2 [(0, .ref o), (1, .int (J v_i))] := hl
  have hT : WT T := hw.1.2.1
  refine j_iload_n E 1 rfl dJx4a65c_get_915e3_0 rfl (lv_at hl 1 rfl) ?_
  refine j_aload_n E 2 rfl dJx4a65c_get_915e3_1 rfl (lv_at hl 0 rfl) ?_
  refine g_202 E hK hw fl_Jx4a65c_48 t_o (v_0 202 o) rfl 5 rfl dJx4a65c_get_915e3_2 (fun rr1_ => ?_)
  refine kS_i E (c_J15_checkIndex_7cf53 l D cy T (v_0) v_i (v_0 202 o)   r_v_i rr1_ (show 0 ≤ v_i ∧ v_i < (v_0 202 o) from by omega)) ms_J15_checkIndex_7cf53 ml_Jx4a65c_118 hK hw hA ⟨Nat.le_of_ble_eq_true rfl, Nat.le_of_ble_eq_true rfl⟩ ⟨Nat.le_of_ble_eq_true rfl, Nat.le_of_ble_eq_true rfl⟩ (As := [.int (J v_i), .int (J (v_0 202 o))]) (rest := []) rfl rfl hl.1 (Nat.le_of_ble_eq_true rfl) 8 rfl dJx4a65c_get_915e3_5 (fun zz2_ v_2 H locs rr2_ hq2_ hw => ?_)
  obtain ⟨ev2_, hh2_⟩ := hq2_
  rw [ev2_] at hw; clear ev2_
  replace hh2_ : zz2_ = v_i := hh2_
  refine j_pop E 9 rfl dJx4a65c_get_915e3_8 rfl ?_
  refine j_aload_n E 10 rfl dJx4a65c_get_915e3_9 rfl (lv_at hl 0 rfl) ?_
  refine j_iload_n E 11 rfl dJx4a65c_get_915e3_10 rfl (lv_at hl 1 rfl) ?_
  refine kV_n E (c_Jx4a65c_elementData_915e3 l D cy T (v_0) o v_i  t_o r_v_i (show 0 ≤ v_i ∧ v_i < ((v_0 202) o) from by omega)) mt_Jx4a65c_elementData_915e3 ml_Jx4a65c_123 hK hw (cw_rc10 hK hw.1 t_o) hA ⟨Nat.le_of_ble_eq_true rfl, Nat.le_of_ble_eq_true rfl⟩ ⟨Nat.le_of_ble_eq_true rfl, Nat.le_of_ble_eq_true rfl⟩ (As := [.int (J v_i)]) (rest := []) rfl rfl hl.1 (Nat.le_of_ble_eq_true rfl) 14 rfl dJx4a65c_get_915e3_11 (fun xx3_ v_3 H locs hq3_ hw => ?_)
  obtain ⟨ev3_, hh3_⟩ := hq3_
  rw [ev3_] at hw; clear ev3_
  replace hh3_ : dcd (T (1000 + (v_i).toNat) (T 201 o)) = some xx3_ ∧ T 0 xx3_ = T 2 o := hh3_
  exact hret 14 xx3_ (v_0) _ _ ls hw ⟨rfl, hh3_⟩ dJx4a65c_get_915e3_14
