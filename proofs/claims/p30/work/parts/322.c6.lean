theorem j_lit {p : Program} {l : Launch} {e : Env} {R : Room} {s : State} {m : MethodId} {args : Array Value} {below : List Frame} {meth : Method} {c : Code} {H : Heap} {locs : List Loc} {cells slots : Nat} {Q : State → Prop} {pc : Nat} {ls : Array Slot} {rest : List Value} {x z : Int} (h : x = z) (k : W p l e R s m args below meth c H locs cells slots Q (F0 m pc ls (.int (J z) :: rest))) : W p l e R s m args below meth c H locs cells slots Q (F0 m pc ls (.int (J x) :: rest)) := h ▸ k
theorem zLen_lt : ∀ i, i < 12 → zLen.getD i 0 < 10 := by decide
theorem nar_c {z : Int} {x : UInt32} (e : J z = (x % 65536).toInt32) : narrow .char (.int (J z)) = .int (J z) := by
  rw [e]
  show Value.int ((x % 65536).toInt32.toUInt32.toUInt16.toUInt32.toInt32) = Value.int ((x % 65536).toInt32)
  congr 2
  rw [UInt32.toUInt32_toInt32]
  apply UInt32.toNat_inj.mp
  simp
theorem z_cs {p : Program} {l : Launch} {e : Env} {R : Room} {s : State} {m : MethodId} {args : Array Value} {below : List Frame} {meth : Method} {c : Code} {H : Heap} {locs : List Loc} {cells slots : Nat} {QW : State → Prop} {own : String} {cc : ByteArray} {nL : Nat} {ret : Option FieldType} {pc : Nat} {ls : Array Slot} {rest : List Value} {D : va_G} {cy : Nat → ClassId} {κ T : Nat → Nat → Nat} {v : Nat → Nat → Int} {A0 : Nat → Prop} (E : CX p s m args meth c own cc nL ret) (hAc : ∀ x, A0 x → κ 2 2 ≤ x) (hw : WK D cy T v A0 s.heap H locs) {C n d : String} {ix : Nat} (hZ : va_Z C n d (.int 1) (zA κ) s s.heap) (hl : Cond.fieldLink own ix C n d ∈ gT) (pc' : Nat) (hp : pc + 3 = pc') (hdg : decode cc pc = .ok (.getstatic ix, 3)) (kk : W p l e R s m args below meth c H locs cells slots QW (F0 m pc' ls (.int (J 1) :: rest))) : W p l e R s m args below meth c H locs cells slots QW (F0 m pc ls rest) := by
  rw [show J 1 = 1 by decide +kernel] at kk
  exact z_gets E hAc hw hZ hl pc' hp hdg kk
theorem sh_0 {z a b : Int} (hz : inR z) (ha : inR a) (hb : b = 0) (e : J z = J a >>> (J b &&& 31)) : z = a := by
  subst hb
  rw [show (J 0 &&& 31 : Int32) = 0 by decide +kernel, Int32.shiftRight_zero] at e
  exact (J_inj hz ha).mp e
set_option maxHeartbeats 4000000 in
set_option maxRecDepth 100000 in
theorem c_J3_ref (l : Launch) (D : va_G) (cy : Nat → ClassId) (T : Nat → Nat → Nat) (v_0 : Nat → Nat → Int) (v_i : Int) (v_n : Int) (a_f : Nat) (r_v_i : inR v_i) (r_v_n : inR v_n) (hp0 : 0 ≤ v_i ∧ v_i < v_n) : KC l D cy T yJ3_checkIndex_8e157 cJ3_checkIndex_8e157 3 (some .int) 1 [.int (J v_i), .int (J v_n), .ref a_f] v_0 (KI (fun (z_0 : Int) (v_2 : Nat → Nat → Int) => v_2 = v_0 ∧ (z_0 = v_i))) := by
  refine KC.ofi (by decide) (Nat.le_of_ble_eq_true rfl) ?_
  intro p e s m below meth c ls ar QW A0 H0 H locs E hK hA hw hl hret
  have hl : lv_has ls 3 [(0, .int (J v_i)), (1, .int (J v_n)), (2, .ref a_f)] := hl
  have hT : WT T := hw.1.2.1
  refine j_iload_n E 1 rfl dJ3_checkIndex_8e157_0 rfl (lv_at hl 0 rfl) ?_
  refine j_if_lt E 4 9 rfl r_v_i dJ3_checkIndex_8e157_1 (by decide) (fun cc1_ => ?_) (fun cc1_ => ?_)
  · exfalso; omega
  refine j_iload_n E 5 rfl dJ3_checkIndex_8e157_4 rfl (lv_at hl 0 rfl) ?_
  refine j_iload_n E 6 rfl dJ3_checkIndex_8e157_5 rfl (lv_at hl 1 rfl) ?_
  refine j_icmp_lt E 9 16 rfl r_v_i r_v_n dJ3_checkIndex_8e157_6 (by decide) (fun cc2_ => ?_) (fun cc2_ => ?_)
  rotate_left; · exfalso; omega
  refine j_iload_n E 17 rfl dJ3_checkIndex_8e157_16 rfl (lv_at hl 0 rfl) ?_
  exact hret 17 v_i (v_0) _ _ ls hw r_v_i ⟨rfl, by omega⟩ dJ3_checkIndex_8e157_17
set_option maxHeartbeats 4000000 in
set_option maxRecDepth 100000 in
theorem c_J0_checkIndex_df160 (l : Launch) (D : va_G) (cy : Nat → ClassId) (T : Nat → Nat → Nat) (v_0 : Nat → Nat → Int) (κ : Nat → Nat → Nat) (v_i : Int) (v_n : Int) (hO : ∀ x, ow T x → κ 2 2 ≤ x) (r_v_i : inR v_i) (r_v_n : inR v_n) (hp0 : 0 ≤ v_i ∧ v_i < v_n) : KZ l D cy κ T yJ0_checkIndex_df160 cJ0_checkIndex_df160 2 none 2 [.int (J v_i), .int (J v_n)] v_0 (KV (fun (v_2 : Nat → Nat → Int) => v_2 = v_0 ∧ (True))) := by
  refine KZ.ofv (by decide) (Nat.le_of_ble_eq_true rfl) hO ?_
  intro p e s m below meth c ls ar QW A0 H locs E hK hZ hA hAc hw hl hret
  have hl : lv_has ls 2 [(0, .int (J v_i)), (1, .int (J v_n))] := hl
  have hT : WT T := hw.1.2.1
  refine j_iload_n E 1 rfl dJ0_checkIndex_df160_0 rfl (lv_at hl 0 rfl) ?_
  refine j_iload_n E 2 rfl dJ0_checkIndex_df160_1 rfl (lv_at hl 1 rfl) ?_
  rcases hZ.2.2.2.2.1 with hs1_ | ⟨fx1_, hs1_⟩
  · refine z_gets E hAc hw hs1_ fs_J0_1053 5 rfl dJ0_checkIndex_df160_2 ?_
    refine kS_i E (c_J3_checkIndex_8e157 l D cy T (v_0) v_i v_n   r_v_i r_v_n (show 0 ≤ v_i ∧ v_i < v_n from by omega)) ms_J3_checkIndex_8e157 ml_J0_1059 hK hw hA ⟨Nat.le_of_ble_eq_true rfl, Nat.le_of_ble_eq_true rfl⟩ ⟨Nat.le_of_ble_eq_true rfl, Nat.le_of_ble_eq_true rfl⟩ (As := [.int (J v_i), .int (J v_n), .null]) (rest := []) rfl rfl hl.1 (Nat.le_of_ble_eq_true rfl) 8 rfl dJ0_checkIndex_df160_5 (fun zz2_ v_2 H locs rr2_ hq2_ hw => ?_)
    obtain ⟨ev2_, hh2_⟩ := hq2_
    rw [ev2_] at hw; clear ev2_
    replace hh2_ : zz2_ = v_i := hh2_
    refine j_pop E 9 rfl dJ0_checkIndex_df160_8 rfl ?_
    exact hret 9 (v_0) _ _ ls hw ⟨rfl, trivial⟩ dJ0_checkIndex_df160_9
  · refine z_gets E hAc hw hs1_ fs_J0_1053 5 rfl dJ0_checkIndex_df160_2 ?_
    refine kS_i E (c_J3_ref l D cy T (v_0) v_i v_n fx1_   r_v_i r_v_n (show 0 ≤ v_i ∧ v_i < v_n from by omega)) ms_J3_checkIndex_8e157 ml_J0_1059 hK hw hA ⟨Nat.le_of_ble_eq_true rfl, Nat.le_of_ble_eq_true rfl⟩ ⟨Nat.le_of_ble_eq_true rfl, Nat.le_of_ble_eq_true rfl⟩ (As := [.int (J v_i), .int (J v_n), .ref fx1_]) (rest := []) rfl rfl hl.1 (Nat.le_of_ble_eq_true rfl) 8 rfl dJ0_checkIndex_df160_5 (fun zz3_ v_3 H locs rr3_ hq3_ hw => ?_)
    obtain ⟨ev3_, hh3_⟩ := hq3_
    rw [ev3_] at hw; clear ev3_
    replace hh3_ : zz3_ = v_i := hh3_
    refine j_pop E 9 rfl dJ0_checkIndex_df160_8 rfl ?_
    exact hret 9 (v_0) _ _ ls hw ⟨rfl, trivial⟩ dJ0_checkIndex_df160_9
set_option maxHeartbeats 4000000 in
set_option maxRecDepth 100000 in
theorem c_J1_charAt_3b067 (l : Launch) (D : va_G) (cy : Nat → ClassId) (T : Nat → Nat → Nat) (v_0 : Nat → Nat → Int) (κ : Nat → Nat → Nat) (i_s : Nat) (v_i : Int) (hO : ∀ x, ow T x → κ 2 2 ≤ x) (h_s : i_s < 12) (r_v_i : inR v_i) (hp0 : 0 ≤ v_i ∧ v_i < ((zLen.getD i_s 0 : Nat) : Int)) : KZ l D cy κ T yJ1_charAt_3b067 cJ1_charAt_3b067 2 (some .char) 3 [.ref (κ 1 i_s), .int (J v_i)] v_0 (KI (fun (z_0 : Int) (v_2 : Nat → Nat → Int) => v_2 = v_0 ∧ (narrow .char (.int (J z_0)) = .int (J z_0) ∧ z_0 = kwC_ i_s (v_i).toNat))) := by
  refine KZ.ofb (by decide) (Nat.le_of_ble_eq_true rfl) hO ?_
  intro p e s m below meth c ls ar QW A0 H locs E hK hZ hA hAc hw hl hret
  have hl : lv_has ls 2 [(0, .ref (κ 1 i_s)), (1, .int (J v_i))] := hl
  have hT : WT T := hw.1.2.1
  refine j_iload_n E 1 rfl dJ1_charAt_3b067_0 rfl (lv_at hl 1 rfl) ?_
  refine j_aload_n E 2 rfl dJ1_charAt_3b067_1 rfl (lv_at hl 0 rfl) ?_
  refine z_len E hZ hAc hw h_s 3 rfl dJ1_charAt_3b067_2 ?_
  refine zS_v E (c_J0_checkIndex_df160 l D cy T (v_0) κ v_i (((zLen.getD i_s 0 : Nat) : Int))  hO  r_v_i (rr (by have := zLen_lt _ h_s; omega)) (show 0 ≤ v_i ∧ v_i < (((zLen.getD i_s 0 : Nat) : Int)) from by omega)) ms_J0_checkIndex_df160 ml_J1_9 hK hZ hAc hw hA ⟨Nat.le_of_ble_eq_true rfl, Nat.le_of_ble_eq_true rfl⟩ ⟨Nat.le_of_ble_eq_true rfl, Nat.le_of_ble_eq_true rfl⟩ (As := [.int (J v_i), .int (J (((zLen.getD i_s 0 : Nat) : Int)))]) (rest := []) rfl rfl hl.1 (Nat.le_of_ble_eq_true rfl) 6 rfl dJ1_charAt_3b067_3 (fun v_1 H locs hq1_ hw => ?_)
  obtain ⟨ev1_, hh1_⟩ := hq1_
  rw [ev1_] at hw; clear ev1_
  refine j_aload_n E 7 rfl dJ1_charAt_3b067_6 rfl (lv_at hl 0 rfl) ?_
  refine j_iload_n E 8 rfl dJ1_charAt_3b067_7 rfl (lv_at hl 1 rfl) ?_
  refine z_bld E hZ hAc hw h_s (by omega) (by have := zLen_lt _ h_s; omega) 9 rfl dJ1_charAt_3b067_8 (fun zz2_ rr2_ he2_ => ?_)
  have e1_ := he2_
  refine j_sipush E 12 rfl dJ1_charAt_3b067_9 (by decide) ?_
  refine j_iand E 13 rfl dJ1_charAt_3b067_12 (fun zz3_ rr3_ ee3_ => ?_)
  have e2_ := ee3_
  refine j_i2c E 14 rfl dJ1_charAt_3b067_13 (fun zz4_ rr4_ ee4_ => ?_)
  have na_ := nar_c ee4_
  have ck_ := ch_kw h_s hp0.1 hp0.2 e1_ e2_ ee4_ rr4_
  exact hret 14 zz4_ (v_0) _ _ ls hw rr4_ na_ ⟨rfl, ⟨na_, ck_⟩⟩ dJ1_charAt_3b067_14
set_option maxHeartbeats 4000000 in
set_option maxRecDepth 100000 in
theorem c_J0_coder_7d493 (l : Launch) (D : va_G) (cy : Nat → ClassId) (T : Nat → Nat → Nat) (v_0 : Nat → Nat → Int) (κ : Nat → Nat → Nat) (i_o : Nat) (hO : ∀ x, ow T x → κ 2 2 ≤ x) (h_o : i_o < 12) : KZ l D cy κ T yJ0_coder_7d493 cJ0_coder_7d493 1 (some .byte) 1 [.ref (κ 0 i_o)] v_0 (KI (fun (z_0 : Int) (v_2 : Nat → Nat → Int) => v_2 = v_0 ∧ (z_0 = 0))) := by
  refine KZ.ofb (by decide) (Nat.le_of_ble_eq_true rfl) hO ?_
  intro p e s m below meth c ls ar QW A0 H locs E hK hZ hA hAc hw hl hret
  have hl : lv_has ls 1 [(0, .ref (κ 0 i_o))] := hl
  have hT : WT T := hw.1.2.1
  refine z_cs E hAc hw hZ.2.2.2.1 fs_J0_38 3 rfl dJ0_coder_7d493_0 ?_
  refine j_if_eq E 6 13 rfl (rr (by decide)) dJ0_coder_7d493_3 (by decide) (fun cc1_ => absurd cc1_ (by decide)) (fun _ => ?_)
  refine j_aload_n E 7 rfl dJ0_coder_7d493_6 rfl (lv_at hl 0 rfl) ?_
  refine z_gcod E hZ hAc hw h_o fs_J0_15 10 rfl dJ0_coder_7d493_7 ?_
  refine j_goto E 14 dJ0_coder_7d493_10 (by decide) ?_
  exact hret 14 0 (v_0) _ _ ls hw (rr (by decide)) (by decide +kernel) ⟨rfl, rfl⟩ dJ0_coder_7d493_14
set_option maxHeartbeats 4000000 in
set_option maxRecDepth 100000 in
theorem c_J0_isLatin1_aae02 (l : Launch) (D : va_G) (cy : Nat → ClassId) (T : Nat → Nat → Nat) (v_0 : Nat → Nat → Int) (κ : Nat → Nat → Nat) (i_o : Nat) (hO : ∀ x, ow T x → κ 2 2 ≤ x) (h_o : i_o < 12) : KZ l D cy κ T yJ0_isLatin1_aae02 cJ0_isLatin1_aae02 1 (some .boolean) 1 [.ref (κ 0 i_o)] v_0 (KI (fun (z_0 : Int) (v_2 : Nat → Nat → Int) => v_2 = v_0 ∧ (z_0 = 1))) := by
  refine KZ.ofz (by decide) (Nat.le_of_ble_eq_true rfl) hO ?_
  intro p e s m below meth c ls ar QW A0 H locs E hK hZ hA hAc hw hl hret
  have hl : lv_has ls 1 [(0, .ref (κ 0 i_o))] := hl
  have hT : WT T := hw.1.2.1
  refine z_cs E hAc hw hZ.2.2.2.1 fs_J0_38 3 rfl dJ0_isLatin1_aae02_0 ?_
  refine j_if_eq E 6 17 rfl (rr (by decide)) dJ0_isLatin1_aae02_3 (by decide) (fun cc1_ => absurd cc1_ (by decide)) (fun _ => ?_)
  refine j_aload_n E 7 rfl dJ0_isLatin1_aae02_6 rfl (lv_at hl 0 rfl) ?_
  refine z_gcod E hZ hAc hw h_o fs_J0_15 10 rfl dJ0_isLatin1_aae02_7 ?_
  refine j_if_ne E 13 17 rfl (rr (by decide)) dJ0_isLatin1_aae02_10 (by decide) (fun cc2_ => absurd cc2_ (by decide)) (fun _ => ?_)
  refine j_iconst E 14 rfl dJ0_isLatin1_aae02_13 ?_
  refine j_goto E 18 dJ0_isLatin1_aae02_14 (by decide) ?_
  exact hret 18 1 (v_0) _ _ ls hw (Or.inr rfl) ⟨rfl, rfl⟩ dJ0_isLatin1_aae02_18
set_option maxHeartbeats 4000000 in
set_option maxRecDepth 100000 in
theorem c_J0_length_8abf5 (l : Launch) (D : va_G) (cy : Nat → ClassId) (T : Nat → Nat → Nat) (v_0 : Nat → Nat → Int) (κ : Nat → Nat → Nat) (i_o : Nat) (hO : ∀ x, ow T x → κ 2 2 ≤ x) (h_o : i_o < 12) : KZ l D cy κ T yJ0_length_8abf5 cJ0_length_8abf5 1 (some .int) 2 [.ref (κ 0 i_o)] v_0 (KI (fun (z_0 : Int) (v_2 : Nat → Nat → Int) => v_2 = v_0 ∧ (z_0 = ((zLen.getD i_o 0 : Nat) : Int)))) := by
  refine KZ.ofi (by decide) (Nat.le_of_ble_eq_true rfl) hO ?_
  intro p e s m below meth c ls ar QW A0 H locs E hK hZ hA hAc hw hl hret
  have hl : lv_has ls 1 [(0, .ref (κ 0 i_o))] := hl
  have hT : WT T := hw.1.2.1
  refine j_aload_n E 1 rfl dJ0_length_8abf5_0 rfl (lv_at hl 0 rfl) ?_
  refine z_gval E hZ hAc hw h_o fs_J0_9 4 rfl dJ0_length_8abf5_1 ?_
  refine z_len E hZ hAc hw h_o 5 rfl dJ0_length_8abf5_4 ?_
  refine j_aload_n E 6 rfl dJ0_length_8abf5_5 rfl (lv_at hl 0 rfl) ?_
  refine zV_i E (c_J0_coder_7d493 l D cy T (v_0) κ i_o  hO h_o  ) mt_J0_coder_7d493 ml_J0_335 hK hZ hAc hw (z_recv hZ hAc hw h_o) hA ⟨Nat.le_of_ble_eq_true rfl, Nat.le_of_ble_eq_true rfl⟩ ⟨Nat.le_of_ble_eq_true rfl, Nat.le_of_ble_eq_true rfl⟩ (As := []) (rest := [.int (J (((zLen.getD i_o 0 : Nat) : Int)))]) rfl rfl hl.1 (Nat.le_of_ble_eq_true rfl) 9 rfl dJ0_length_8abf5_6 (fun zz1_ v_1 H locs rr1_ hq1_ hw => ?_)
  obtain ⟨ev1_, hh1_⟩ := hq1_
  rw [ev1_] at hw; clear ev1_
  replace hh1_ : zz1_ = 0 := hh1_
  refine j_ishr E 10 rfl dJ0_length_8abf5_9 (fun zz2_ rr2_ ee2_ => ?_)
  have hs_ := sh_0 rr2_ (rr (by have := zLen_lt _ h_o; omega)) (by omega) ee2_
  exact hret 10 zz2_ (v_0) _ _ ls hw rr2_ ⟨rfl, hs_⟩ dJ0_length_8abf5_10
set_option maxHeartbeats 4000000 in
set_option maxRecDepth 100000 in
theorem c_J0_charAt_5068e (l : Launch) (D : va_G) (cy : Nat → ClassId) (T : Nat → Nat → Nat) (v_0 : Nat → Nat → Int) (κ : Nat → Nat → Nat) (i_o : Nat) (v_i : Int) (hO : ∀ x, ow T x → κ 2 2 ≤ x) (h_o : i_o < 12) (r_v_i : inR v_i) (hp0 : 0 ≤ v_i ∧ v_i < ((zLen.getD i_o 0 : Nat) : Int)) : KZ l D cy κ T yJ0_charAt_5068e cJ0_charAt_5068e 2 (some .char) 5 [.ref (κ 0 i_o), .int (J v_i)] v_0 (KI (fun (z_0 : Int) (v_2 : Nat → Nat → Int) => v_2 = v_0 ∧ (z_0 = kwC_ i_o (v_i).toNat))) := by
  refine KZ.ofb (by decide) (Nat.le_of_ble_eq_true rfl) hO ?_
  intro p e s m below meth c ls ar QW A0 H locs E hK hZ hA hAc hw hl hret
  have hl : lv_has ls 2 [(0, .ref (κ 0 i_o)), (1, .int (J v_i))] := hl
  have hT : WT T := hw.1.2.1
  refine j_aload_n E 1 rfl dJ0_charAt_5068e_0 rfl (lv_at hl 0 rfl) ?_
  refine zV_i E (c_J0_isLatin1_aae02 l D cy T (v_0) κ i_o  hO h_o  ) mt_J0_isLatin1_aae02 ml_J0_492 hK hZ hAc hw (z_recv hZ hAc hw h_o) hA ⟨Nat.le_of_ble_eq_true rfl, Nat.le_of_ble_eq_true rfl⟩ ⟨Nat.le_of_ble_eq_true rfl, Nat.le_of_ble_eq_true rfl⟩ (As := []) (rest := []) rfl rfl hl.1 (Nat.le_of_ble_eq_true rfl) 4 rfl dJ0_charAt_5068e_1 (fun zz1_ v_1 H locs rr1_ hq1_ hw => ?_)
  obtain ⟨ev1_, hh1_⟩ := hq1_
  rw [ev1_] at hw; clear ev1_
  replace hh1_ : zz1_ = 1 := hh1_
  refine j_if_eq E 7 16 rfl rr1_ dJ0_charAt_5068e_4 (by decide) (fun cc2_ => ?_) (fun cc2_ => ?_)
  · exfalso; omega
  refine j_aload_n E 8 rfl dJ0_charAt_5068e_7 rfl (lv_at hl 0 rfl) ?_
  refine z_gval E hZ hAc hw h_o fs_J0_9 11 rfl dJ0_charAt_5068e_8 ?_
  refine j_iload_n E 12 rfl dJ0_charAt_5068e_11 rfl (lv_at hl 1 rfl) ?_
  refine zS_i E (c_J1_charAt_3b067 l D cy T (v_0) κ i_o v_i  hO  h_o r_v_i (show 0 ≤ v_i ∧ v_i < ((zLen.getD i_o 0 : Nat) : Int) from by omega)) ms_J1_charAt_3b067 ml_J0_495 hK hZ hAc hw hA ⟨Nat.le_of_ble_eq_true rfl, Nat.le_of_ble_eq_true rfl⟩ ⟨Nat.le_of_ble_eq_true rfl, Nat.le_of_ble_eq_true rfl⟩ (As := [.ref (κ 1 i_o), .int (J v_i)]) (rest := []) rfl rfl hl.1 (Nat.le_of_ble_eq_true rfl) 15 rfl dJ0_charAt_5068e_12 (fun zz3_ v_3 H locs rr3_ hq3_ hw => ?_)
  obtain ⟨ev3_, hh3_⟩ := hq3_
  rw [ev3_] at hw; clear ev3_
  replace hh3_ : narrow .char (.int (J zz3_)) = .int (J zz3_) ∧ zz3_ = kwC_ i_o (v_i).toNat := hh3_
  have hc_ := hh3_
  clear hh3_
  exact hret 15 zz3_ (v_0) _ _ ls hw rr3_ hc_.1 ⟨rfl, hc_.2⟩ dJ0_charAt_5068e_15
set_option maxHeartbeats 4000000 in
set_option maxRecDepth 100000 in
theorem c_X8_spelling (l : Launch) (D : va_G) (cy : Nat → ClassId) (T : Nat → Nat → Nat) (v_0 : Nat → Nat → Int) (κ : Nat → Nat → Nat) (v_k : Int) (hO : ∀ x, ow T x → κ 2 2 ≤ x) (r_v_k : inR v_k) (hp0 : 301 ≤ v_k ∧ v_k ≤ 312) : KZ l D cy κ T yX8_spelling cX8_spelling 1 (some (.object "java/lang/String")) 1 [.int (J v_k)] v_0 (KN (fun (x_0 : Nat) (v_2 : Nat → Nat → Int) => v_2 = v_0 ∧ (∃ i, i < 12 ∧ x_0 = κ 0 i ∧ v_k = 301 + (i : Int)))) := by
  refine KZ.ofn (Or.inl ⟨_, rfl⟩) (by decide) (Nat.le_of_ble_eq_true rfl) hO ?_
  intro p e s m below meth c ls ar QW A0 H locs E hK hZ hA hAc hw hl hret
  have hl : lv_has ls 1 [(0, .int (J v_k))] := hl
  have hT : WT T := hw.1.2.1
  refine j_iload_n E 1 rfl dX8_spelling_0 rfl (lv_at hl 0 rfl) ?_
  by_cases tb1_0 : v_k = 301
  · refine j_tabIn E 60 r_v_k 0 dX8_spelling_1 (by omega) rfl (by decide) ?_
    refine z_ldcS E hZ 0 (by decide) rfl rfl 62 rfl dX8_spelling_60 ?_
    exact hret 62 (κ 0 0) (v_0) _ _ ls hw ⟨rfl, ⟨_, by decide, rfl, by omega⟩⟩ dX8_spelling_62
  by_cases tb1_1 : v_k = 302
  · refine j_tabIn E 63 r_v_k 1 dX8_spelling_1 (by omega) rfl (by decide) ?_
    refine z_ldcS E hZ 1 (by decide) rfl rfl 65 rfl dX8_spelling_63 ?_
    exact hret 65 (κ 0 1) (v_0) _ _ ls hw ⟨rfl, ⟨_, by decide, rfl, by omega⟩⟩ dX8_spelling_65
  by_cases tb1_2 : v_k = 303
  · refine j_tabIn E 66 r_v_k 2 dX8_spelling_1 (by omega) rfl (by decide) ?_
    refine z_ldcS E hZ 2 (by decide) rfl rfl 68 rfl dX8_spelling_66 ?_
    exact hret 68 (κ 0 2) (v_0) _ _ ls hw ⟨rfl, ⟨_, by decide, rfl, by omega⟩⟩ dX8_spelling_68
  by_cases tb1_3 : v_k = 304
  · refine j_tabIn E 69 r_v_k 3 dX8_spelling_1 (by omega) rfl (by decide) ?_
    refine z_ldcS E hZ 3 (by decide) rfl rfl 71 rfl dX8_spelling_69 ?_
    exact hret 71 (κ 0 3) (v_0) _ _ ls hw ⟨rfl, ⟨_, by decide, rfl, by omega⟩⟩ dX8_spelling_71
  by_cases tb1_4 : v_k = 305
  · refine j_tabIn E 72 r_v_k 4 dX8_spelling_1 (by omega) rfl (by decide) ?_
    refine z_ldcS E hZ 4 (by decide) rfl rfl 74 rfl dX8_spelling_72 ?_
    exact hret 74 (κ 0 4) (v_0) _ _ ls hw ⟨rfl, ⟨_, by decide, rfl, by omega⟩⟩ dX8_spelling_74
  by_cases tb1_5 : v_k = 306
  · refine j_tabIn E 75 r_v_k 5 dX8_spelling_1 (by omega) rfl (by decide) ?_
    refine z_ldcS E hZ 5 (by decide) rfl rfl 77 rfl dX8_spelling_75 ?_
    exact hret 77 (κ 0 5) (v_0) _ _ ls hw ⟨rfl, ⟨_, by decide, rfl, by omega⟩⟩ dX8_spelling_77
  by_cases tb1_6 : v_k = 307
  · refine j_tabIn E 78 r_v_k 6 dX8_spelling_1 (by omega) rfl (by decide) ?_
    refine z_ldcS E hZ 6 (by decide) rfl rfl 80 rfl dX8_spelling_78 ?_
    exact hret 80 (κ 0 6) (v_0) _ _ ls hw ⟨rfl, ⟨_, by decide, rfl, by omega⟩⟩ dX8_spelling_80
  by_cases tb1_7 : v_k = 308
  · refine j_tabIn E 81 r_v_k 7 dX8_spelling_1 (by omega) rfl (by decide) ?_
    refine z_ldcS E hZ 7 (by decide) rfl rfl 83 rfl dX8_spelling_81 ?_
    exact hret 83 (κ 0 7) (v_0) _ _ ls hw ⟨rfl, ⟨_, by decide, rfl, by omega⟩⟩ dX8_spelling_83
  by_cases tb1_8 : v_k = 309
  · refine j_tabIn E 84 r_v_k 8 dX8_spelling_1 (by omega) rfl (by decide) ?_
    refine z_ldcS E hZ 8 (by decide) rfl rfl 86 rfl dX8_spelling_84 ?_
    exact hret 86 (κ 0 8) (v_0) _ _ ls hw ⟨rfl, ⟨_, by decide, rfl, by omega⟩⟩ dX8_spelling_86
  by_cases tb1_9 : v_k = 310
  · refine j_tabIn E 87 r_v_k 9 dX8_spelling_1 (by omega) rfl (by decide) ?_
    refine z_ldcS E hZ 9 (by decide) rfl rfl 89 rfl dX8_spelling_87 ?_
    exact hret 89 (κ 0 9) (v_0) _ _ ls hw ⟨rfl, ⟨_, by decide, rfl, by omega⟩⟩ dX8_spelling_89
  by_cases tb1_10 : v_k = 311
  · refine j_tabIn E 90 r_v_k 10 dX8_spelling_1 (by omega) rfl (by decide) ?_
    refine z_ldcS E hZ 10 (by decide) rfl rfl 92 rfl dX8_spelling_90 ?_
    exact hret 92 (κ 0 10) (v_0) _ _ ls hw ⟨rfl, ⟨_, by decide, rfl, by omega⟩⟩ dX8_spelling_92
  refine j_tabOut E 93 r_v_k dX8_spelling_1 (by omega) (by decide) ?_
  refine z_ldcS E hZ 11 (by decide) rfl rfl 95 rfl dX8_spelling_93 ?_
  exact hret 95 (κ 0 11) (v_0) _ _ ls hw ⟨rfl, ⟨_, by decide, rfl, by omega⟩⟩ dX8_spelling_95
set_option maxHeartbeats 4000000 in
set_option maxRecDepth 100000 in
theorem c_X8_isWord (l : Launch) (D : va_G) (cy : Nat → ClassId) (T : Nat → Nat → Nat) (v_0 : Nat → Nat → Int) (κ : Nat → Nat → Nat) (i_s : Nat) (a_t : Nat) (v_a : Int) (v_b : Int) (hO : ∀ x, ow T x → κ 2 2 ≤ x) (h_s : i_s < 12) (t_t : T 0 a_t = 23) (r_v_a : inR v_a) (r_v_b : inR v_b) (hp0 : 0 ≤ v_a ∧ v_a ≤ v_b ∧ v_b ≤ (T 1 a_t : Int)) : KZ l D cy κ T yX8_isWord cX8_isWord 5 (some .boolean) 6 [.ref (κ 0 i_s), .ref a_t, .int (J v_a), .int (J v_b)] v_0 (KI (fun (z_0 : Int) (v_2 : Nat → Nat → Int) => v_2 = v_0 ∧ ((z_0 = 1 ∧ Kw_ (gC_ (v_0 303) a_t) v_a v_b i_s) ∨ (z_0 = 0 ∧ ¬ Kw_ (gC_ (v_0 303) a_t) v_a v_b i_s)))) := by
  refine KZ.ofz (by decide) (Nat.le_of_ble_eq_true rfl) hO ?_
  intro p e s m below meth c ls ar QW A0 H locs E hK hZ hA hAc hw hl hret
  have hl : lv_has ls 5 [(0, .ref (κ 0 i_s)), (1, .ref a_t), (2, .int (J v_a)), (3, .int (J v_b))] := hl
  have hT : WT T := hw.1.2.1
  have zl_ := zl_kw i_s h_s
  refine j_iload_n E 1 rfl dX8_isWord_0 rfl (lv_at hl 2 rfl) ?_
  refine j_if_lt E 4 20 rfl r_v_a dX8_isWord_1 (by decide) (fun cc1_ => ?_) (fun cc1_ => ?_)
  · refine j_iconst E 21 rfl dX8_isWord_20 ?_
    exact hret 21 0 (v_0) _ _ ls hw (Or.inl rfl) ⟨rfl, Or.inr ⟨rfl, fun q_ => by have q1_ := q_.1; omega⟩⟩ dX8_isWord_21
  · refine j_iload_n E 5 rfl dX8_isWord_4 rfl (lv_at hl 3 rfl) ?_
    refine j_aload_n E 6 rfl dX8_isWord_5 rfl (lv_at hl 1 rfl) ?_
    refine a_ln23 E hK hw t_t 7 rfl dX8_isWord_6 (fun rr2_ => ?_)
    refine j_icmp_gt E 10 20 rfl r_v_b rr2_ dX8_isWord_7 (by decide) (fun cc3_ => ?_) (fun cc3_ => ?_)
    · refine j_iconst E 21 rfl dX8_isWord_20 ?_
      exact hret 21 0 (v_0) _ _ ls hw (Or.inl rfl) ⟨rfl, Or.inr ⟨rfl, fun q_ => by have q1_ := q_.1; omega⟩⟩ dX8_isWord_21
    · refine j_iload_n E 11 rfl dX8_isWord_10 rfl (lv_at hl 3 rfl) ?_
      refine j_iload_n E 12 rfl dX8_isWord_11 rfl (lv_at hl 2 rfl) ?_
      refine j_isub E 13 rfl dX8_isWord_12 ?_
      refine j_aload_n E 14 rfl dX8_isWord_13 rfl (lv_at hl 0 rfl) ?_
      refine zV_i E (c_J0_length_8abf5 l D cy T (v_0) κ i_s  hO h_s  ) mt_J0_length_8abf5 ml_X8_17 hK hZ hAc hw (z_recv hZ hAc hw h_s) hA ⟨Nat.le_of_ble_eq_true rfl, Nat.le_of_ble_eq_true rfl⟩ ⟨Nat.le_of_ble_eq_true rfl, Nat.le_of_ble_eq_true rfl⟩ (As := []) (rest := [.int (J (v_b - v_a))]) rfl rfl hl.1 (Nat.le_of_ble_eq_true rfl) 17 rfl dX8_isWord_14 (fun zz4_ v_4 H locs rr4_ hq4_ hw => ?_)
      obtain ⟨ev4_, hh4_⟩ := hq4_
      rw [ev4_] at hw; clear ev4_
      replace hh4_ : zz4_ = ((zLen.getD i_s 0 : Nat) : Int) := hh4_
      refine j_icmp_eq E 20 22 rfl (rr (by omega)) rr4_ dX8_isWord_17 (by decide) (fun cc5_ => ?_) (fun cc5_ => ?_)
      · refine j_iconst E 23 rfl dX8_isWord_22 ?_
        refine j_istore E 25 rfl [(4, .int (J 0)), (0, .ref (κ 0 i_s)), (1, .ref a_t), (2, .int (J v_a)), (3, .int (J v_b))] dX8_isWord_23 hl (by decide) rfl (fun ls hl => ?_)
        have L25_6 : ∀ (k25 : Nat) (l4_25 : Int) (H : Heap) (locs : List Loc) (ls : Array Slot), inR l4_25 → (0 ≤ l4_25 ∧ l4_25 ≤ (kwL_ i_s : Int) ∧ ∀ i_ : Nat, (i_ : Int) < l4_25 → gC_ (v_0 303) a_t (v_a + (i_ : Int)) = kwC_ i_s i_) → (((zLen.getD i_s 0 : Nat) : Int) - l4_25).toNat < k25 → WK D cy T (v_0) A0 s.heap H locs → lv_has ls 5 [(0, .ref (κ 0 i_s)), (1, .ref a_t), (2, .int (J v_a)), (3, .int (J v_b)), (4, .int (J l4_25))] → W p l e (rmd 6 0 0) s m ar below meth c H locs 0 0 QW (F0 m 25 ls []) := by
          intro k25
          induction k25 with
          | zero =>
            intro l4_25 H locs ls r_l4_25 iv25 ms25 hw hl
            exact absurd ms25 (Nat.not_lt_zero _)
          | succ k25 ih25 =>
            intro l4_25 H locs ls r_l4_25 iv25 ms25 hw hl
            refine j_iload E 27 rfl dX8_isWord_25 (lv_at hl 4 rfl) ?_
            refine j_aload_n E 28 rfl dX8_isWord_27 rfl (lv_at hl 0 rfl) ?_
            refine zV_i E (c_J0_length_8abf5 l D cy T (v_0) κ i_s  hO h_s  ) mt_J0_length_8abf5 ml_X8_17 hK hZ hAc hw (z_recv hZ hAc hw h_s) hA ⟨Nat.le_of_ble_eq_true rfl, Nat.le_of_ble_eq_true rfl⟩ ⟨Nat.le_of_ble_eq_true rfl, Nat.le_of_ble_eq_true rfl⟩ (As := []) (rest := [.int (J l4_25)]) rfl rfl hl.1 (Nat.le_of_ble_eq_true rfl) 31 rfl dX8_isWord_28 (fun zz8_ v_8 H locs rr8_ hq8_ hw => ?_)
            obtain ⟨ev8_, hh8_⟩ := hq8_
            rw [ev8_] at hw; clear ev8_
            replace hh8_ : zz8_ = ((zLen.getD i_s 0 : Nat) : Int) := hh8_
            refine j_icmp_ge E 34 57 rfl r_l4_25 rr8_ dX8_isWord_31 (by decide) (fun cc9_ => ?_) (fun cc9_ => ?_)
            · refine j_iconst E 58 rfl dX8_isWord_57 ?_
              exact hret 58 1 (v_0) _ _ ls hw (Or.inr rfl) ⟨rfl, Or.inl ⟨rfl, by omega, fun i_ h_ => iv25.2.2 i_ (by omega)⟩⟩ dX8_isWord_58
            · refine j_aload_n E 35 rfl dX8_isWord_34 rfl (lv_at hl 1 rfl) ?_
              refine j_iload_n E 36 rfl dX8_isWord_35 rfl (lv_at hl 2 rfl) ?_
              refine j_iload E 38 rfl dX8_isWord_36 (lv_at hl 4 rfl) ?_
              refine j_iadd E 39 rfl dX8_isWord_38 ?_
              refine a_ld23 E hK hw t_t (by omega) 40 rfl dX8_isWord_39 (fun zz10_ he10_ rr10_ => ?_)
              have he10_ : zz10_ = v_0 303 (pr a_t (Int.toNat (v_a + l4_25))) := he10_
              have he_ : zz10_ = gC_ (v_0 303) a_t (v_a + l4_25) := he10_
              refine j_aload_n E 41 rfl dX8_isWord_40 rfl (lv_at hl 0 rfl) ?_
              refine j_iload E 43 rfl dX8_isWord_41 (lv_at hl 4 rfl) ?_
              refine zV_i E (c_J0_charAt_5068e l D cy T (v_0) κ i_s l4_25  hO h_s r_l4_25 (show 0 ≤ l4_25 ∧ l4_25 < ((zLen.getD i_s 0 : Nat) : Int) from by omega)) mt_J0_charAt_5068e ml_X8_23 hK hZ hAc hw (z_recv hZ hAc hw h_s) hA ⟨Nat.le_of_ble_eq_true rfl, Nat.le_of_ble_eq_true rfl⟩ ⟨Nat.le_of_ble_eq_true rfl, Nat.le_of_ble_eq_true rfl⟩ (As := [.int (J l4_25)]) (rest := [.int (J zz10_)]) rfl rfl hl.1 (Nat.le_of_ble_eq_true rfl) 46 rfl dX8_isWord_43 (fun zz11_ v_11 H locs rr11_ hq11_ hw => ?_)
              obtain ⟨ev11_, hh11_⟩ := hq11_
              rw [ev11_] at hw; clear ev11_
              replace hh11_ : zz11_ = kwC_ i_s (l4_25).toNat := hh11_
              refine j_icmp_eq E 49 51 rfl rr10_ rr11_ dX8_isWord_46 (by decide) (fun cc12_ => ?_) (fun cc12_ => ?_)
              · refine j_iinc E 54 rfl [(4, .int (J (l4_25 + 1))), (0, .ref (κ 0 i_s)), (1, .ref a_t), (2, .int (J v_a)), (3, .int (J v_b))] dX8_isWord_51 hl (kk := 4) rfl (by decide) rfl (fun ls hl => ?_)
                refine j_goto E 25 dX8_isWord_54 (by decide) ?_
                exact ih25 (l4_25 + 1)  H locs ls (rr (by omega)) (⟨by omega, by omega, kw_st iv25.2.2 (by omega) (by omega)⟩) (by omega) hw (lv_sub hl [1, 2, 3, 4, 0] rfl)
              · refine j_iconst E 50 rfl dX8_isWord_49 ?_
                exact hret 50 0 (v_0) _ _ ls hw (Or.inl rfl) ⟨rfl, Or.inr ⟨rfl, fun q_ => by have q2_ := kw_get q_ (i := l4_25) (by omega) (by omega); omega⟩⟩ dX8_isWord_50
        exact L25_6 _ 0  H locs ls (rr (by decide)) (⟨by omega, by omega, fun i_ h_ => absurd h_ (by omega)⟩) (Nat.lt_succ_self _) hw (lv_sub hl [1, 2, 3, 4, 0] rfl)
      · refine j_iconst E 21 rfl dX8_isWord_20 ?_
        exact hret 21 0 (v_0) _ _ ls hw (Or.inl rfl) ⟨rfl, Or.inr ⟨rfl, fun q_ => by have q1_ := q_.1; omega⟩⟩ dX8_isWord_21
set_option maxHeartbeats 4000000 in
set_option maxRecDepth 100000 in
theorem c_X8_keywordIn (l : Launch) (D : va_G) (cy : Nat → ClassId) (T : Nat → Nat → Nat) (v_0 : Nat → Nat → Int) (κ : Nat → Nat → Nat) (a_t : Nat) (v_a : Int) (v_b : Int) (hO : ∀ x, ow T x → κ 2 2 ≤ x) (t_t : T 0 a_t = 23) (r_v_a : inR v_a) (r_v_b : inR v_b) (hp0 : 0 ≤ v_a ∧ v_a ≤ v_b ∧ v_b ≤ (T 1 a_t : Int)) : KZ l D cy κ T yX8_keywordIn cX8_keywordIn 4 (some .int) 7 [.ref a_t, .int (J v_a), .int (J v_b)] v_0 (KI (fun (z_0 : Int) (v_2 : Nat → Nat → Int) => v_2 = v_0 ∧ (Wk_ (gC_ (v_0 303) a_t) v_a v_b z_0))) := by
  refine KZ.ofi (by decide) (Nat.le_of_ble_eq_true rfl) hO ?_
  intro p e s m below meth c ls ar QW A0 H locs E hK hZ hA hAc hw hl hret
  have hl : lv_has ls 4 [(0, .ref a_t), (1, .int (J v_a)), (2, .int (J v_b))] := hl
  have hT : WT T := hw.1.2.1
  refine j_sipush E 3 rfl dX8_keywordIn_0 (by decide) ?_
  refine j_istore_n E 4 rfl [(3, .int (J 301)), (0, .ref a_t), (1, .int (J v_a)), (2, .int (J v_b))] dX8_keywordIn_3 rfl hl (by decide) rfl (fun ls hl => ?_)
  have L4_1 : ∀ (k4 : Nat) (l3_4 : Int) (H : Heap) (locs : List Loc) (ls : Array Slot), inR l3_4 → (301 ≤ l3_4 ∧ l3_4 ≤ 313 ∧ ∀ w_ : Nat, (w_ : Int) < l3_4 - 301 → ¬ Kw_ (gC_ (v_0 303) a_t) v_a v_b w_) → (313 - l3_4).toNat < k4 → WK D cy T (v_0) A0 s.heap H locs → lv_has ls 4 [(0, .ref a_t), (1, .int (J v_a)), (2, .int (J v_b)), (3, .int (J l3_4))] → W p l e (rmd 7 0 0) s m ar below meth c H locs 0 0 QW (F0 m 4 ls []) := by
    intro k4
    induction k4 with
    | zero =>
      intro l3_4 H locs ls r_l3_4 iv4 ms4 hw hl
      exact absurd ms4 (Nat.not_lt_zero _)
    | succ k4 ih4 =>
      intro l3_4 H locs ls r_l3_4 iv4 ms4 hw hl
      refine j_iload_n E 5 rfl dX8_keywordIn_4 rfl (lv_at hl 3 rfl) ?_
      refine j_sipush E 8 rfl dX8_keywordIn_5 (by decide) ?_
      refine j_icmp_gt E 11 32 rfl r_l3_4 (rr (by decide)) dX8_keywordIn_8 (by decide) (fun cc3_ => ?_) (fun cc3_ => ?_)
      · refine j_iconst E 33 rfl dX8_keywordIn_32 ?_
        exact hret 33 2 (v_0) _ _ ls hw (rr (by decide)) ⟨rfl, show Wk_ _ _ _ _ from Or.inr ⟨rfl, fun w_ h_ => iv4.2.2 w_ (by omega)⟩⟩ dX8_keywordIn_33
      · refine j_iload_n E 12 rfl dX8_keywordIn_11 rfl (lv_at hl 3 rfl) ?_
        refine zS_n E (c_X8_spelling l D cy T (v_0) κ l3_4  hO  r_l3_4 (show 301 ≤ l3_4 ∧ l3_4 ≤ 312 from by omega)) ms_X8_spelling ml_X8_9 hK hZ hAc hw hA ⟨Nat.le_of_ble_eq_true rfl, Nat.le_of_ble_eq_true rfl⟩ ⟨Nat.le_of_ble_eq_true rfl, Nat.le_of_ble_eq_true rfl⟩ (As := [.int (J l3_4)]) (rest := []) rfl rfl hl.1 (Nat.le_of_ble_eq_true rfl) 15 rfl dX8_keywordIn_12 (fun xx4_ v_4 H locs hq4_ hw => ?_)
        obtain ⟨ev4_, hh4_⟩ := hq4_
        rw [ev4_] at hw; clear ev4_
        replace hh4_ : ∃ i, i < 12 ∧ xx4_ = κ 0 i ∧ l3_4 = 301 + (i : Int) := hh4_
        obtain ⟨ix4_, hx4_, ex4_, ei_⟩ := hh4_
        have hi_ := hx4_
        subst ex4_
        refine j_aload_n E 16 rfl dX8_keywordIn_15 rfl (lv_at hl 0 rfl) ?_
        refine j_iload_n E 17 rfl dX8_keywordIn_16 rfl (lv_at hl 1 rfl) ?_
        refine j_iload_n E 18 rfl dX8_keywordIn_17 rfl (lv_at hl 2 rfl) ?_
        refine zS_i E (c_X8_isWord l D cy T (v_0) κ ix4_ a_t v_a v_b  hO  hx4_ t_t r_v_a r_v_b (show 0 ≤ v_a ∧ v_a ≤ v_b ∧ v_b ≤ (T 1 a_t : Int) from by omega)) ms_X8_isWord ml_X8_13 hK hZ hAc hw hA ⟨Nat.le_of_ble_eq_true rfl, Nat.le_of_ble_eq_true rfl⟩ ⟨Nat.le_of_ble_eq_true rfl, Nat.le_of_ble_eq_true rfl⟩ (As := [.ref (κ 0 ix4_), .ref a_t, .int (J v_a), .int (J v_b)]) (rest := []) rfl rfl hl.1 (Nat.le_of_ble_eq_true rfl) 21 rfl dX8_keywordIn_18 (fun zz5_ v_5 H locs rr5_ hq5_ hw => ?_)
        obtain ⟨ev5_, hh5_⟩ := hq5_
        rw [ev5_] at hw; clear ev5_
        replace hh5_ : (zz5_ = 1 ∧ Kw_ (gC_ (v_0 303) a_t) v_a v_b ix4_) ∨ (zz5_ = 0 ∧ ¬ Kw_ (gC_ (v_0 303) a_t) v_a v_b ix4_) := hh5_
        rcases hh5_ with ⟨ee5_, hh5_⟩ | ⟨ee5_, hh5_⟩
        · subst ee5_
          have hy_ := hh5_
          clear hh5_
          refine j_if_eq E 24 26 rfl (rr (by decide)) dX8_keywordIn_21 (by decide) (fun cc6_ => absurd cc6_ (by decide)) (fun _ => ?_)
          refine j_iload_n E 25 rfl dX8_keywordIn_24 rfl (lv_at hl 3 rfl) ?_
          exact hret 25 l3_4 (v_0) _ _ ls hw r_l3_4 ⟨rfl, show Wk_ _ _ _ _ from Or.inl ⟨_, hi_, hy_, ei_⟩⟩ dX8_keywordIn_25
        · subst ee5_
          have hn_ := hh5_
          clear hh5_
          refine j_if_eq E 24 26 rfl (rr (by decide)) dX8_keywordIn_21 (by decide) (fun _ => ?_) (fun cc7_ => absurd cc7_ (by decide))
          refine j_iinc E 29 rfl [(3, .int (J (l3_4 + 1))), (0, .ref a_t), (1, .int (J v_a)), (2, .int (J v_b))] dX8_keywordIn_26 hl (kk := 3) rfl (by decide) rfl (fun ls hl => ?_)
          refine j_goto E 4 dX8_keywordIn_29 (by decide) ?_
          exact ih4 (l3_4 + 1)  H locs ls (rr (by omega)) (⟨by omega, by omega, kw_n2 iv4.2.2 hn_ ei_⟩) (by omega) hw (lv_sub hl [1, 2, 3, 0] rfl)
  exact L4_1 _ 301  H locs ls (rr (by decide)) (⟨by omega, by omega, fun w_ h_ => absurd h_ (by omega)⟩) (Nat.lt_succ_self _) hw (lv_sub hl [1, 2, 3, 0] rfl)
