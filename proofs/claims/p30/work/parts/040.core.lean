/-! ===== numbers: an Int32 as the image of an Int ===== -/
def J (z : Int) : Int32 := Int32.ofInt z
abbrev inR (z : Int) : Prop := -2147483648 ≤ z ∧ z < 2147483648
theorem rr {z : Int} (h : -2147483648 ≤ z ∧ z < 2147483648) : inR z := h
theorem J_toInt {z : Int} (h : inR z) : (J z).toInt = z := Int32.toInt_ofInt_of_le (by have := h.1; omega) (by have := h.2; omega)
theorem J_self (x : Int32) : J x.toInt = x := Int32.ofInt_toInt x
theorem inR_toInt (x : Int32) : inR x.toInt := by
  have h1 := Int32.le_toInt x
  have h2 := Int32.toInt_lt x
  exact ⟨by omega, by omega⟩
theorem J_ex (x : Int32) : ∃ z : Int, inR z ∧ J z = x := ⟨x.toInt, inR_toInt x, J_self x⟩
theorem J_add (a b : Int) : J a + J b = J (a + b) := (Int32.ofInt_add a b).symm
theorem J_sub (a b : Int) : J a - J b = J (a - b) := (Int32.ofInt_sub a b).symm
theorem J_mul (a b : Int) : J a * J b = J (a * b) := (Int32.ofInt_mul a b).symm
theorem J_neg (a : Int) : -J a = J (-a) := (Int32.ofInt_neg a).symm
theorem J_0 : J 0 = 0 := by decide +kernel
theorem J_lt {a b : Int} (ha : inR a) (hb : inR b) : J a < J b ↔ a < b := by
  rw [Int32.lt_iff_toInt_lt, J_toInt ha, J_toInt hb]
theorem J_le {a b : Int} (ha : inR a) (hb : inR b) : J a ≤ J b ↔ a ≤ b := by
  rw [Int32.le_iff_toInt_le, J_toInt ha, J_toInt hb]
theorem J_inj {a b : Int} (ha : inR a) (hb : inR b) : J a = J b ↔ a = b := by
  constructor
  · intro h
    have := congrArg Int32.toInt h
    rwa [J_toInt ha, J_toInt hb] at this
  · intro h; rw [h]
theorem J_ofNat (n : Nat) : J (n : Int) = Int32.ofNat n := Int32.ofInt_eq_ofNat
theorem inR0 : inR 0 := ⟨by decide, by decide⟩
theorem J_clamp {z : Int} (h0 : 0 ≤ z) (h : z < 2147483648) : (J z).toNatClampNeg = z.toNat := by
  have : (J z).toInt = z := J_toInt ⟨by omega, h⟩
  unfold Int32.toNatClampNeg
  rw [this]
theorem J_in {z : Int} {n : Nat} (h0 : 0 ≤ z) (h : z < (n : Int)) (hn : n < 2147483648) : vp_in (J z) n := by
  rw [vp_in_iff, J_toInt ⟨by omega, by omega⟩]
  exact ⟨h0, h⟩
theorem J_bool {z : Int} (h : z = 0 ∨ z = 1) : narrow .boolean (.int (J z)) = .int (J z) := by
  rcases h with rfl | rfl <;> decide +kernel
theorem J_fbool {z : Int} (h : z = 0 ∨ z = 1) : fits .boolean (.int (J z)) = true := by
  rcases h with rfl | rfl <;> decide +kernel
/-! ===== the words that every method is given, and what holds in a method's body ===== -/
def gT : List Cond := lw_tbl.filter goodWord
theorem gT_tbl {w : Cond} (h : w ∈ gT) : w ∈ lw_tbl := (List.mem_filter.mp h).1
theorem gT_of {w : Cond} (h : w ∈ tables_1) (g : goodWord w = true) : w ∈ gT := List.mem_filter.mpr ⟨List.mem_append_right _ h, g⟩
theorem gT_c1 {w : Cond} (h : w ∈ tables_1_1) (g : goodWord w = true) : w ∈ gT := gT_of (List.mem_append_left _ h) g
theorem gT_c2 {w : Cond} (h : w ∈ tables_1_2) (g : goodWord w = true) : w ∈ gT := gT_of (List.mem_append_right _ (List.mem_append_left _ h)) g
theorem gT_c3 {w : Cond} (h : w ∈ tables_1_3) (g : goodWord w = true) : w ∈ gT := gT_of (List.mem_append_right _ (List.mem_append_right _ (List.mem_append_left _ h))) g
theorem gT_c4 {w : Cond} (h : w ∈ tables_1_4) (g : goodWord w = true) : w ∈ gT := gT_of (List.mem_append_right _ (List.mem_append_right _ (List.mem_append_right _ (List.mem_append_left _ h)))) g
theorem gT_c5 {w : Cond} (h : w ∈ tables_1_5) (g : goodWord w = true) : w ∈ gT := gT_of (List.mem_append_right _ (List.mem_append_right _ (List.mem_append_right _ (List.mem_append_right _ (List.mem_append_left _ h))))) g
theorem gT_c6 {w : Cond} (h : w ∈ tables_1_6) (g : goodWord w = true) : w ∈ gT := gT_of (List.mem_append_right _ (List.mem_append_right _ (List.mem_append_right _ (List.mem_append_right _ (List.mem_append_right _ (List.mem_append_left _ h)))))) g
theorem gT_c7 {w : Cond} (h : w ∈ tables_1_7) (g : goodWord w = true) : w ∈ gT := gT_of (List.mem_append_right _ (List.mem_append_right _ (List.mem_append_right _ (List.mem_append_right _ (List.mem_append_right _ (List.mem_append_right _ h)))))) g
theorem gT_sel {w : Cond} (h : w ∈ k2_sels lw_privs) (g : goodWord w = true) : w ∈ gT := List.mem_filter.mpr ⟨List.mem_append_left _ h, g⟩
theorem gT_good {big : List Cond} (h : ∀ w ∈ gT, w ∈ big) : GoodIn big gT := fun w hw => ⟨h w hw, good_of_word (List.mem_filter.mp hw).2⟩
abbrev wsOf (y : MethodName) (cc : ByteArray) (nL : Nat) (ret : Option FieldType) : List Cond := Cond.code y cc nL ret :: gT
theorem gT_ws {cw : Cond} {y : MethodName} {cc : ByteArray} {nL : Nat} {ret : Option FieldType} (h : Cond.code y cc nL ret ∈ gT) : GoodIn (cw :: gT) (wsOf y cc nL ret) := fun w hw => by
  rcases List.mem_cons.mp hw with rfl | hw
  · exact ⟨List.mem_cons_of_mem _ h, good_of_word (List.mem_filter.mp h).2⟩
  · exact ⟨List.mem_cons_of_mem _ hw, good_of_word (List.mem_filter.mp hw).2⟩
def rmd (d mc ms : Nat) : Room := { frames := d, cells := mc, slots := ms, locals := 50 * d }
abbrev CX (p : Program) (s : State) (m : MethodId) (args : Array Value) (meth : Method) (c : Code) (own : String) (cc : ByteArray) (nL : Nat) (ret : Option FieldType) : Prop :=
  p.tables.exec = Jvm.exec ∧ c.code = cc ∧ c.maxLocals = nL ∧ s.vm.findClass own = some m.cls ∧ (∀ w ∈ gT, w.before args s = true) ∧ meth.sig.returnType = ret ∧ meth.locks = false
abbrev tysOf (cy : Nat → ClassId) : List (ClassId × FieldType) := [(cy 0, .int), (cy 1, .boolean), (cy 2, .byte), (cy 3, .char), (cy 4, .object "java/lang/Object")]
abbrev KK (D : va_G) (cy : Nat → ClassId) (s : State) : Prop := va_K D vwCl (tysOf cy) s
section Rows
variable {p : Program} {l : Launch} {e : Env} {R : Room} {s : State} {m : MethodId} {args : Array Value} {below : List Frame} {meth : Method} {c : Code} {H : Heap} {locs : List Loc} {cells slots : Nat} {Q : State → Prop} {own : String} {cc : ByteArray} {nL : Nat} {ret : Option FieldType} {pc : Nat} {ls : Array Slot} {rest : List Value}
theorem j_iconst (E : CX p s m args meth c own cc nL ret) (pc' : Nat) (hp : pc + 1 = pc') {n : Int} (hdg : decode cc pc = .ok (.iconst n, 1)) (k : W p l e R s m args below meth c H locs cells slots Q (F0 m pc' ls (.int (J n) :: rest))) : W p l e R s m args below meth c H locs cells slots Q (F0 m pc ls (rest)) := by
  subst hp
  exact lv_iconst (v := J n) E.1 E.2.1 hdg rfl k
theorem j_bipush (E : CX p s m args meth c own cc nL ret) (pc' : Nat) (hp : pc + 2 = pc') {n : Int} (hdg : decode cc pc = .ok (.bipush n, 2)) (hv : (Int8.ofInt n).toInt32 = J n) (k : W p l e R s m args below meth c H locs cells slots Q (F0 m pc' ls (.int (J n) :: rest))) : W p l e R s m args below meth c H locs cells slots Q (F0 m pc ls (rest)) := by
  subst hp
  exact lv_bipush (v := J n) E.1 E.2.1 hdg hv k
theorem j_sipush (E : CX p s m args meth c own cc nL ret) (pc' : Nat) (hp : pc + 3 = pc') {n : Int} (hdg : decode cc pc = .ok (.sipush n, 3)) (hv : (Int16.ofInt n).toInt32 = J n) (k : W p l e R s m args below meth c H locs cells slots Q (F0 m pc' ls (.int (J n) :: rest))) : W p l e R s m args below meth c H locs cells slots Q (F0 m pc ls (rest)) := by
  subst hp
  exact lv_sipush (v := J n) E.1 E.2.1 hdg hv k
theorem j_iload_n (E : CX p s m args meth c own cc nL ret) (pc' : Nat) (hp : pc + 1 = pc') {a : Fin 4} {i : Nat} {z : Int} (hdg : decode cc pc = .ok (.iload_n a, 1)) (hi : (a : Nat) = i) (hl : ls[i]? = some (.val (.int (J z)))) (k : W p l e R s m args below meth c H locs cells slots Q (F0 m pc' ls (.int (J z) :: rest))) : W p l e R s m args below meth c H locs cells slots Q (F0 m pc ls (rest)) := by
  subst hp
  exact lv_iload_n E.1 E.2.1 hdg hi hl k
theorem j_iload (E : CX p s m args meth c own cc nL ret) (pc' : Nat) (hp : pc + 2 = pc') {i : Nat} {z : Int} (hdg : decode cc pc = .ok (.iload i, 2)) (hl : ls[i]? = some (.val (.int (J z)))) (k : W p l e R s m args below meth c H locs cells slots Q (F0 m pc' ls (.int (J z) :: rest))) : W p l e R s m args below meth c H locs cells slots Q (F0 m pc ls (rest)) := by
  subst hp
  exact lv_iload E.1 E.2.1 hdg hl k
theorem j_aload_n (E : CX p s m args meth c own cc nL ret) (pc' : Nat) (hp : pc + 1 = pc') {a : Fin 4} {i : Nat} {x : Nat} (hdg : decode cc pc = .ok (.aload_n a, 1)) (hi : (a : Nat) = i) (hl : ls[i]? = some (.val (.ref x))) (k : W p l e R s m args below meth c H locs cells slots Q (F0 m pc' ls (.ref x :: rest))) : W p l e R s m args below meth c H locs cells slots Q (F0 m pc ls (rest)) := by
  subst hp
  exact lv_aload_n E.1 E.2.1 hdg hi hl k
theorem j_aload (E : CX p s m args meth c own cc nL ret) (pc' : Nat) (hp : pc + 2 = pc') {i : Nat} {x : Nat} (hdg : decode cc pc = .ok (.aload i, 2)) (hl : ls[i]? = some (.val (.ref x))) (k : W p l e R s m args below meth c H locs cells slots Q (F0 m pc' ls (.ref x :: rest))) : W p l e R s m args below meth c H locs cells slots Q (F0 m pc ls (rest)) := by
  subst hp
  exact lv_aload E.1 E.2.1 hdg hl k
theorem j_istore_n (E : CX p s m args meth c own cc nL ret) (pc' : Nat) (hp : pc + 1 = pc') {a : Fin 4} {i : Nat} {z : Int} {lv : List (Nat × Value)} (lv' : List (Nat × Value)) (hdg : decode cc pc = .ok (.istore_n a, 1)) (hi : (a : Nat) = i) (h : lv_has ls nL lv) (hn : i < nL) (hl : (i, Value.int (J z)) :: lv.filter (fun q => !(q.1 == i) && !(q.1 + 1 == i && q.2.category == 2)) = lv') (k : ∀ ls : Array Slot, lv_has ls nL lv' → W p l e R s m args below meth c H locs cells slots Q (F0 m pc' ls rest)) : W p l e R s m args below meth c H locs cells slots Q (F0 m pc ls (.int (J z) :: rest)) := by
  subst hp
  exact lv_istore_n E.1 E.2.1 hdg hi h hn hl k
theorem j_istore (E : CX p s m args meth c own cc nL ret) (pc' : Nat) (hp : pc + 2 = pc') {i : Nat} {z : Int} {lv : List (Nat × Value)} (lv' : List (Nat × Value)) (hdg : decode cc pc = .ok (.istore i, 2)) (h : lv_has ls nL lv) (hn : i < nL) (hl : (i, Value.int (J z)) :: lv.filter (fun q => !(q.1 == i) && !(q.1 + 1 == i && q.2.category == 2)) = lv') (k : ∀ ls : Array Slot, lv_has ls nL lv' → W p l e R s m args below meth c H locs cells slots Q (F0 m pc' ls rest)) : W p l e R s m args below meth c H locs cells slots Q (F0 m pc ls (.int (J z) :: rest)) := by
  subst hp
  exact lv_istore E.1 E.2.1 hdg h hn hl k
theorem j_astore_n (E : CX p s m args meth c own cc nL ret) (pc' : Nat) (hp : pc + 1 = pc') {a : Fin 4} {i : Nat} {x : Nat} {lv : List (Nat × Value)} (lv' : List (Nat × Value)) (hdg : decode cc pc = .ok (.astore_n a, 1)) (hi : (a : Nat) = i) (h : lv_has ls nL lv) (hn : i < nL) (hl : (i, Value.ref x) :: lv.filter (fun q => !(q.1 == i) && !(q.1 + 1 == i && q.2.category == 2)) = lv') (k : ∀ ls : Array Slot, lv_has ls nL lv' → W p l e R s m args below meth c H locs cells slots Q (F0 m pc' ls rest)) : W p l e R s m args below meth c H locs cells slots Q (F0 m pc ls (.ref x :: rest)) := by
  subst hp
  exact lv_astore_n E.1 E.2.1 hdg hi h hn hl k
theorem j_astore (E : CX p s m args meth c own cc nL ret) (pc' : Nat) (hp : pc + 2 = pc') {i : Nat} {x : Nat} {lv : List (Nat × Value)} (lv' : List (Nat × Value)) (hdg : decode cc pc = .ok (.astore i, 2)) (h : lv_has ls nL lv) (hn : i < nL) (hl : (i, Value.ref x) :: lv.filter (fun q => !(q.1 == i) && !(q.1 + 1 == i && q.2.category == 2)) = lv') (k : ∀ ls : Array Slot, lv_has ls nL lv' → W p l e R s m args below meth c H locs cells slots Q (F0 m pc' ls rest)) : W p l e R s m args below meth c H locs cells slots Q (F0 m pc ls (.ref x :: rest)) := by
  subst hp
  exact lv_astore E.1 E.2.1 hdg h hn hl k
theorem j_iinc (E : CX p s m args meth c own cc nL ret) (pc' : Nat) (hp : pc + 3 = pc') {i kk : Nat} {n z : Int} {lv : List (Nat × Value)} (lv' : List (Nat × Value)) (hdg : decode cc pc = .ok (.iinc i n, 3)) (h : lv_has ls nL lv) (hk : lv[kk]? = some (i, .int (J z))) (hn : i < nL) (hl : (i, Value.int (J (z + n))) :: lv.filter (fun q => !(q.1 == i) && !(q.1 + 1 == i && q.2.category == 2)) = lv') (k : ∀ ls : Array Slot, lv_has ls nL lv' → W p l e R s m args below meth c H locs cells slots Q (F0 m pc' ls rest)) : W p l e R s m args below meth c H locs cells slots Q (F0 m pc ls rest) := by
  subst hp
  exact lv_iinc (v := J (z + n)) E.1 E.2.1 hdg h hk (J_add z n) hn hl k
theorem j_iadd (E : CX p s m args meth c own cc nL ret) (pc' : Nat) (hp : pc + 1 = pc') {a b : Int} (hdg : decode cc pc = .ok (.iadd, 1)) (k : W p l e R s m args below meth c H locs cells slots Q (F0 m pc' ls (.int (J (a + b)) :: rest))) : W p l e R s m args below meth c H locs cells slots Q (F0 m pc ls (.int (J b) :: .int (J a) :: rest)) := by
  subst hp
  refine lv_iadd E.1 E.2.1 hdg ?_
  rw [J_add]
  exact k
theorem j_isub (E : CX p s m args meth c own cc nL ret) (pc' : Nat) (hp : pc + 1 = pc') {a b : Int} (hdg : decode cc pc = .ok (.isub, 1)) (k : W p l e R s m args below meth c H locs cells slots Q (F0 m pc' ls (.int (J (a - b)) :: rest))) : W p l e R s m args below meth c H locs cells slots Q (F0 m pc ls (.int (J b) :: .int (J a) :: rest)) := by
  subst hp
  refine lv_isub E.1 E.2.1 hdg ?_
  rw [J_sub]
  exact k
theorem j_imul (E : CX p s m args meth c own cc nL ret) (pc' : Nat) (hp : pc + 1 = pc') {a b : Int} (hdg : decode cc pc = .ok (.imul, 1)) (k : W p l e R s m args below meth c H locs cells slots Q (F0 m pc' ls (.int (J (a * b)) :: rest))) : W p l e R s m args below meth c H locs cells slots Q (F0 m pc ls (.int (J b) :: .int (J a) :: rest)) := by
  subst hp
  refine lv_imul E.1 E.2.1 hdg ?_
  rw [J_mul]
  exact k
theorem j_ineg (E : CX p s m args meth c own cc nL ret) (pc' : Nat) (hp : pc + 1 = pc') {a : Int} (hdg : decode cc pc = .ok (.ineg, 1)) (k : W p l e R s m args below meth c H locs cells slots Q (F0 m pc' ls (.int (J (-a)) :: rest))) : W p l e R s m args below meth c H locs cells slots Q (F0 m pc ls (.int (J a) :: rest)) := by
  subst hp
  refine lv_ineg E.1 E.2.1 hdg ?_
  rw [J_neg]
  exact k
theorem j_iand (E : CX p s m args meth c own cc nL ret) (pc' : Nat) (hp : pc + 1 = pc') {a b : Int} (hdg : decode cc pc = .ok (.iand, 1))  (k : ∀ z : Int, inR z → J z = J a &&& J b → W p l e R s m args below meth c H locs cells slots Q (F0 m pc' ls (.int (J z) :: rest))) : W p l e R s m args below meth c H locs cells slots Q (F0 m pc ls (.int (J b) :: .int (J a) :: rest)) := by
  subst hp
  obtain ⟨z, hz, ez⟩ := J_ex (J a &&& J b)
  have k := k z hz ez
  rw [ez] at k
  exact lv_iand E.1 E.2.1 hdg k
theorem j_ior (E : CX p s m args meth c own cc nL ret) (pc' : Nat) (hp : pc + 1 = pc') {a b : Int} (hdg : decode cc pc = .ok (.ior, 1))  (k : ∀ z : Int, inR z → J z = J a ||| J b → W p l e R s m args below meth c H locs cells slots Q (F0 m pc' ls (.int (J z) :: rest))) : W p l e R s m args below meth c H locs cells slots Q (F0 m pc ls (.int (J b) :: .int (J a) :: rest)) := by
  subst hp
  obtain ⟨z, hz, ez⟩ := J_ex (J a ||| J b)
  have k := k z hz ez
  rw [ez] at k
  exact lv_ior E.1 E.2.1 hdg k
theorem j_ixor (E : CX p s m args meth c own cc nL ret) (pc' : Nat) (hp : pc + 1 = pc') {a b : Int} (hdg : decode cc pc = .ok (.ixor, 1))  (k : ∀ z : Int, inR z → J z = J a ^^^ J b → W p l e R s m args below meth c H locs cells slots Q (F0 m pc' ls (.int (J z) :: rest))) : W p l e R s m args below meth c H locs cells slots Q (F0 m pc ls (.int (J b) :: .int (J a) :: rest)) := by
  subst hp
  obtain ⟨z, hz, ez⟩ := J_ex (J a ^^^ J b)
  have k := k z hz ez
  rw [ez] at k
  exact lv_ixor E.1 E.2.1 hdg k
theorem j_ishl (E : CX p s m args meth c own cc nL ret) (pc' : Nat) (hp : pc + 1 = pc') {a b : Int} (hdg : decode cc pc = .ok (.ishl, 1))  (k : ∀ z : Int, inR z → J z = J a <<< (J b &&& 31) → W p l e R s m args below meth c H locs cells slots Q (F0 m pc' ls (.int (J z) :: rest))) : W p l e R s m args below meth c H locs cells slots Q (F0 m pc ls (.int (J b) :: .int (J a) :: rest)) := by
  subst hp
  obtain ⟨z, hz, ez⟩ := J_ex (J a <<< (J b &&& 31))
  have k := k z hz ez
  rw [ez] at k
  exact lv_ishl E.1 E.2.1 hdg k
theorem j_ishr (E : CX p s m args meth c own cc nL ret) (pc' : Nat) (hp : pc + 1 = pc') {a b : Int} (hdg : decode cc pc = .ok (.ishr, 1))  (k : ∀ z : Int, inR z → J z = J a >>> (J b &&& 31) → W p l e R s m args below meth c H locs cells slots Q (F0 m pc' ls (.int (J z) :: rest))) : W p l e R s m args below meth c H locs cells slots Q (F0 m pc ls (.int (J b) :: .int (J a) :: rest)) := by
  subst hp
  obtain ⟨z, hz, ez⟩ := J_ex (J a >>> (J b &&& 31))
  have k := k z hz ez
  rw [ez] at k
  exact lv_ishr E.1 E.2.1 hdg k
theorem j_iushr (E : CX p s m args meth c own cc nL ret) (pc' : Nat) (hp : pc + 1 = pc') {a b : Int} (hdg : decode cc pc = .ok (.iushr, 1))  (k : ∀ z : Int, inR z → J z = ((J a).toUInt32 >>> ((J b).toUInt32 &&& Int32.toUInt32 31)).toInt32 → W p l e R s m args below meth c H locs cells slots Q (F0 m pc' ls (.int (J z) :: rest))) : W p l e R s m args below meth c H locs cells slots Q (F0 m pc ls (.int (J b) :: .int (J a) :: rest)) := by
  subst hp
  obtain ⟨z, hz, ez⟩ := J_ex (((J a).toUInt32 >>> ((J b).toUInt32 &&& Int32.toUInt32 31)).toInt32)
  have k := k z hz ez
  rw [ez] at k
  exact lv_iushr E.1 E.2.1 hdg rfl k
theorem j_idiv (E : CX p s m args meth c own cc nL ret) (pc' : Nat) (hp : pc + 1 = pc') {a b : Int} (hdg : decode cc pc = .ok (.idiv, 1)) (hne : ¬ J b = 0) (k : ∀ z : Int, inR z → J z = J a / J b → W p l e R s m args below meth c H locs cells slots Q (F0 m pc' ls (.int (J z) :: rest))) : W p l e R s m args below meth c H locs cells slots Q (F0 m pc ls (.int (J b) :: .int (J a) :: rest)) := by
  subst hp
  obtain ⟨z, hz, ez⟩ := J_ex (J a / J b)
  have k := k z hz ez
  rw [ez] at k
  exact lv_idiv E.1 E.2.1 hdg hne k
theorem j_irem (E : CX p s m args meth c own cc nL ret) (pc' : Nat) (hp : pc + 1 = pc') {a b : Int} (hdg : decode cc pc = .ok (.irem, 1)) (hne : ¬ J b = 0) (k : ∀ z : Int, inR z → J z = J a - J a / J b * J b → W p l e R s m args below meth c H locs cells slots Q (F0 m pc' ls (.int (J z) :: rest))) : W p l e R s m args below meth c H locs cells slots Q (F0 m pc ls (.int (J b) :: .int (J a) :: rest)) := by
  subst hp
  obtain ⟨z, hz, ez⟩ := J_ex (J a - J a / J b * J b)
  have k := k z hz ez
  rw [ez] at k
  exact lv_irem E.1 E.2.1 hdg hne k
theorem j_i2b (E : CX p s m args meth c own cc nL ret) (pc' : Nat) (hp : pc + 1 = pc') {a : Int} (hdg : decode cc pc = .ok (.i2b, 1))  (k : ∀ z : Int, inR z → J z = (J a).toInt8.toInt32 → W p l e R s m args below meth c H locs cells slots Q (F0 m pc' ls (.int (J z) :: rest))) : W p l e R s m args below meth c H locs cells slots Q (F0 m pc ls (.int (J a) :: rest)) := by
  subst hp
  obtain ⟨z, hz, ez⟩ := J_ex ((J a).toInt8.toInt32)
  have k := k z hz ez
  rw [ez] at k
  exact lv_i2b E.1 E.2.1 hdg rfl k
theorem j_i2c (E : CX p s m args meth c own cc nL ret) (pc' : Nat) (hp : pc + 1 = pc') {a : Int} (hdg : decode cc pc = .ok (.i2c, 1))  (k : ∀ z : Int, inR z → J z = ((J a).toUInt32 % 65536).toInt32 → W p l e R s m args below meth c H locs cells slots Q (F0 m pc' ls (.int (J z) :: rest))) : W p l e R s m args below meth c H locs cells slots Q (F0 m pc ls (.int (J a) :: rest)) := by
  subst hp
  obtain ⟨z, hz, ez⟩ := J_ex (((J a).toUInt32 % 65536).toInt32)
  have k := k z hz ez
  rw [ez] at k
  exact lv_i2c E.1 E.2.1 hdg rfl k
theorem j_dup (E : CX p s m args meth c own cc nL ret) (pc' : Nat) (hp : pc + 1 = pc') {v : Value} (hdg : decode cc pc = .ok (.dup, 1)) (hv : v.category = 1) (k : W p l e R s m args below meth c H locs cells slots Q (F0 m pc' ls (v :: v :: rest))) : W p l e R s m args below meth c H locs cells slots Q (F0 m pc ls (v :: rest)) := by
  subst hp
  exact lv_dup E.1 E.2.1 hdg hv k
theorem j_dup_x1 (E : CX p s m args meth c own cc nL ret) (pc' : Nat) (hp : pc + 1 = pc') {v w : Value} (hdg : decode cc pc = .ok (.dup_x1, 1)) (hv : v.category = 1) (hw : w.category = 1) (k : W p l e R s m args below meth c H locs cells slots Q (F0 m pc' ls (v :: w :: v :: rest))) : W p l e R s m args below meth c H locs cells slots Q (F0 m pc ls (v :: w :: rest)) := by
  subst hp
  exact lv_dup_x1 E.1 E.2.1 hdg hv hw k
theorem j_dup2 (E : CX p s m args meth c own cc nL ret) (pc' : Nat) (hp : pc + 1 = pc') {v w : Value} (hdg : decode cc pc = .ok (.dup2, 1)) (hv : v.category = 1) (hw : w.category = 1) (k : W p l e R s m args below meth c H locs cells slots Q (F0 m pc' ls (v :: w :: v :: w :: rest))) : W p l e R s m args below meth c H locs cells slots Q (F0 m pc ls (v :: w :: rest)) := by
  subst hp
  exact lv_dup2_11 E.1 E.2.1 hdg hv hw k
theorem j_pop (E : CX p s m args meth c own cc nL ret) (pc' : Nat) (hp : pc + 1 = pc') {v : Value} (hdg : decode cc pc = .ok (.pop, 1)) (hv : v.category = 1) (k : W p l e R s m args below meth c H locs cells slots Q (F0 m pc' ls (rest))) : W p l e R s m args below meth c H locs cells slots Q (F0 m pc ls (v :: rest)) := by
  subst hp
  exact lv_pop E.1 E.2.1 hdg hv k
theorem j_null (E : CX p s m args meth c own cc nL ret) (pc' : Nat) (hp : pc + 1 = pc') (hdg : decode cc pc = .ok (.aconst_null, 1)) (k : W p l e R s m args below meth c H locs cells slots Q (F0 m pc' ls (.null :: rest))) : W p l e R s m args below meth c H locs cells slots Q (F0 m pc ls (rest)) := by
  subst hp
  exact lv_null E.1 E.2.1 hdg k
theorem j_ldc (E : CX p s m args meth c own cc nL ret) (pc' : Nat) (hp : pc + 2 = pc') {index : Nat} {z : Int} (hc : Cond.constant own index (J z) ∈ gT) (hdg : decode cc pc = .ok (.ldc index, 2)) (k : W p l e R s m args below meth c H locs cells slots Q (F0 m pc' ls (.int (J z) :: rest))) : W p l e R s m args below meth c H locs cells slots Q (F0 m pc ls (rest)) := by
  subst hp
  exact lv_ldc E.1 E.2.1 E.2.2.2.1 (E.2.2.2.2.1 _ hc) hdg k
theorem j_ldcw (E : CX p s m args meth c own cc nL ret) (pc' : Nat) (hp : pc + 3 = pc') {index : Nat} {z : Int} (hc : Cond.constant own index (J z) ∈ gT) (hdg : decode cc pc = .ok (.ldc_w index, 3)) (k : W p l e R s m args below meth c H locs cells slots Q (F0 m pc' ls (.int (J z) :: rest))) : W p l e R s m args below meth c H locs cells slots Q (F0 m pc ls (rest)) := by
  subst hp
  exact lv_ldcw E.1 E.2.1 E.2.2.2.1 (E.2.2.2.2.1 _ hc) hdg k
theorem j_icmp_eq (E : CX p s m args meth c own cc nL ret) (pc' tgt : Nat) (hp : pc + 3 = pc') {a b : Int} {off : Int} (ha : inR a) (hb : inR b) (hdg : decode cc pc = .ok (.if_icmp .eq off, 3)) (ht : (pc : Int) + off = (tgt : Int)) (kt : a = b → W p l e R s m args below meth c H locs cells slots Q (F0 m tgt ls rest)) (kf : ¬ a = b → W p l e R s m args below meth c H locs cells slots Q (F0 m pc' ls rest)) : W p l e R s m args below meth c H locs cells slots Q (F0 m pc ls (.int (J b) :: .int (J a) :: rest)) := by
  subst hp
  exact lv_icmp_eq E.1 E.2.1 hdg ht (fun h => kt ((J_inj ha hb).mp h)) (fun h => kf (fun q => h ((J_inj ha hb).mpr q)))
theorem j_if_eq (E : CX p s m args meth c own cc nL ret) (pc' tgt : Nat) (hp : pc + 3 = pc') {a : Int} {off : Int} (ha : inR a) (hdg : decode cc pc = .ok (.ifCond .eq off, 3)) (ht : (pc : Int) + off = (tgt : Int)) (kt : a = 0 → W p l e R s m args below meth c H locs cells slots Q (F0 m tgt ls rest)) (kf : ¬ a = 0 → W p l e R s m args below meth c H locs cells slots Q (F0 m pc' ls rest)) : W p l e R s m args below meth c H locs cells slots Q (F0 m pc ls (.int (J a) :: rest)) := by
  subst hp
  exact lv_if_eq E.1 E.2.1 hdg ht (fun h => kt ((J_inj ha inR0).mp (h.trans J_0.symm))) (fun h => kf (fun q => h (((J_inj ha inR0).mpr q).trans J_0)))
theorem j_icmp_ne (E : CX p s m args meth c own cc nL ret) (pc' tgt : Nat) (hp : pc + 3 = pc') {a b : Int} {off : Int} (ha : inR a) (hb : inR b) (hdg : decode cc pc = .ok (.if_icmp .ne off, 3)) (ht : (pc : Int) + off = (tgt : Int)) (kt : ¬ a = b → W p l e R s m args below meth c H locs cells slots Q (F0 m tgt ls rest)) (kf : a = b → W p l e R s m args below meth c H locs cells slots Q (F0 m pc' ls rest)) : W p l e R s m args below meth c H locs cells slots Q (F0 m pc ls (.int (J b) :: .int (J a) :: rest)) := by
  subst hp
  exact lv_icmp_ne E.1 E.2.1 hdg ht (fun h => kt (fun q => h ((J_inj ha hb).mpr q))) (fun h => kf ((J_inj ha hb).mp h))
theorem j_if_ne (E : CX p s m args meth c own cc nL ret) (pc' tgt : Nat) (hp : pc + 3 = pc') {a : Int} {off : Int} (ha : inR a) (hdg : decode cc pc = .ok (.ifCond .ne off, 3)) (ht : (pc : Int) + off = (tgt : Int)) (kt : ¬ a = 0 → W p l e R s m args below meth c H locs cells slots Q (F0 m tgt ls rest)) (kf : a = 0 → W p l e R s m args below meth c H locs cells slots Q (F0 m pc' ls rest)) : W p l e R s m args below meth c H locs cells slots Q (F0 m pc ls (.int (J a) :: rest)) := by
  subst hp
  exact lv_if_ne E.1 E.2.1 hdg ht (fun h => kt (fun q => h (((J_inj ha inR0).mpr q).trans J_0))) (fun h => kf ((J_inj ha inR0).mp (h.trans J_0.symm)))
theorem j_icmp_lt (E : CX p s m args meth c own cc nL ret) (pc' tgt : Nat) (hp : pc + 3 = pc') {a b : Int} {off : Int} (ha : inR a) (hb : inR b) (hdg : decode cc pc = .ok (.if_icmp .lt off, 3)) (ht : (pc : Int) + off = (tgt : Int)) (kt : a < b → W p l e R s m args below meth c H locs cells slots Q (F0 m tgt ls rest)) (kf : b ≤ a → W p l e R s m args below meth c H locs cells slots Q (F0 m pc' ls rest)) : W p l e R s m args below meth c H locs cells slots Q (F0 m pc ls (.int (J b) :: .int (J a) :: rest)) := by
  subst hp
  exact lv_icmp_lt E.1 E.2.1 hdg ht (fun h => kt ((J_lt ha hb).mp h)) (fun h => kf (Int.not_lt.mp (fun q => h ((J_lt ha hb).mpr q))))
theorem j_if_lt (E : CX p s m args meth c own cc nL ret) (pc' tgt : Nat) (hp : pc + 3 = pc') {a : Int} {off : Int} (ha : inR a) (hdg : decode cc pc = .ok (.ifCond .lt off, 3)) (ht : (pc : Int) + off = (tgt : Int)) (kt : a < 0 → W p l e R s m args below meth c H locs cells slots Q (F0 m tgt ls rest)) (kf : 0 ≤ a → W p l e R s m args below meth c H locs cells slots Q (F0 m pc' ls rest)) : W p l e R s m args below meth c H locs cells slots Q (F0 m pc ls (.int (J a) :: rest)) := by
  subst hp
  exact lv_if_lt E.1 E.2.1 hdg ht (fun h => kt ((J_lt ha inR0).mp (by rw [J_0]; exact h))) (fun h => kf (Int.not_lt.mp (fun q => h (by have := (J_lt ha inR0).mpr q; rw [J_0] at this; exact this))))
theorem j_icmp_ge (E : CX p s m args meth c own cc nL ret) (pc' tgt : Nat) (hp : pc + 3 = pc') {a b : Int} {off : Int} (ha : inR a) (hb : inR b) (hdg : decode cc pc = .ok (.if_icmp .ge off, 3)) (ht : (pc : Int) + off = (tgt : Int)) (kt : b ≤ a → W p l e R s m args below meth c H locs cells slots Q (F0 m tgt ls rest)) (kf : a < b → W p l e R s m args below meth c H locs cells slots Q (F0 m pc' ls rest)) : W p l e R s m args below meth c H locs cells slots Q (F0 m pc ls (.int (J b) :: .int (J a) :: rest)) := by
  subst hp
  exact lv_icmp_ge E.1 E.2.1 hdg ht (fun h => kt ((J_le hb ha).mp h)) (fun h => kf (Int.not_le.mp (fun q => h ((J_le hb ha).mpr q))))
theorem j_if_ge (E : CX p s m args meth c own cc nL ret) (pc' tgt : Nat) (hp : pc + 3 = pc') {a : Int} {off : Int} (ha : inR a) (hdg : decode cc pc = .ok (.ifCond .ge off, 3)) (ht : (pc : Int) + off = (tgt : Int)) (kt : 0 ≤ a → W p l e R s m args below meth c H locs cells slots Q (F0 m tgt ls rest)) (kf : a < 0 → W p l e R s m args below meth c H locs cells slots Q (F0 m pc' ls rest)) : W p l e R s m args below meth c H locs cells slots Q (F0 m pc ls (.int (J a) :: rest)) := by
  subst hp
  exact lv_if_ge E.1 E.2.1 hdg ht (fun h => kt ((J_le inR0 ha).mp (by rw [J_0]; exact h))) (fun h => kf (Int.not_le.mp (fun q => h (by have := (J_le inR0 ha).mpr q; rw [J_0] at this; exact this))))
theorem j_icmp_gt (E : CX p s m args meth c own cc nL ret) (pc' tgt : Nat) (hp : pc + 3 = pc') {a b : Int} {off : Int} (ha : inR a) (hb : inR b) (hdg : decode cc pc = .ok (.if_icmp .gt off, 3)) (ht : (pc : Int) + off = (tgt : Int)) (kt : b < a → W p l e R s m args below meth c H locs cells slots Q (F0 m tgt ls rest)) (kf : a ≤ b → W p l e R s m args below meth c H locs cells slots Q (F0 m pc' ls rest)) : W p l e R s m args below meth c H locs cells slots Q (F0 m pc ls (.int (J b) :: .int (J a) :: rest)) := by
  subst hp
  exact lv_icmp_gt E.1 E.2.1 hdg ht (fun h => kt ((J_lt hb ha).mp h)) (fun h => kf (Int.not_lt.mp (fun q => h ((J_lt hb ha).mpr q))))
theorem j_if_gt (E : CX p s m args meth c own cc nL ret) (pc' tgt : Nat) (hp : pc + 3 = pc') {a : Int} {off : Int} (ha : inR a) (hdg : decode cc pc = .ok (.ifCond .gt off, 3)) (ht : (pc : Int) + off = (tgt : Int)) (kt : 0 < a → W p l e R s m args below meth c H locs cells slots Q (F0 m tgt ls rest)) (kf : a ≤ 0 → W p l e R s m args below meth c H locs cells slots Q (F0 m pc' ls rest)) : W p l e R s m args below meth c H locs cells slots Q (F0 m pc ls (.int (J a) :: rest)) := by
  subst hp
  exact lv_if_gt E.1 E.2.1 hdg ht (fun h => kt ((J_lt inR0 ha).mp (by rw [J_0]; exact h))) (fun h => kf (Int.not_lt.mp (fun q => h (by have := (J_lt inR0 ha).mpr q; rw [J_0] at this; exact this))))
theorem j_icmp_le (E : CX p s m args meth c own cc nL ret) (pc' tgt : Nat) (hp : pc + 3 = pc') {a b : Int} {off : Int} (ha : inR a) (hb : inR b) (hdg : decode cc pc = .ok (.if_icmp .le off, 3)) (ht : (pc : Int) + off = (tgt : Int)) (kt : a ≤ b → W p l e R s m args below meth c H locs cells slots Q (F0 m tgt ls rest)) (kf : b < a → W p l e R s m args below meth c H locs cells slots Q (F0 m pc' ls rest)) : W p l e R s m args below meth c H locs cells slots Q (F0 m pc ls (.int (J b) :: .int (J a) :: rest)) := by
  subst hp
  exact lv_icmp_le E.1 E.2.1 hdg ht (fun h => kt ((J_le ha hb).mp h)) (fun h => kf (Int.not_le.mp (fun q => h ((J_le ha hb).mpr q))))
theorem j_if_le (E : CX p s m args meth c own cc nL ret) (pc' tgt : Nat) (hp : pc + 3 = pc') {a : Int} {off : Int} (ha : inR a) (hdg : decode cc pc = .ok (.ifCond .le off, 3)) (ht : (pc : Int) + off = (tgt : Int)) (kt : a ≤ 0 → W p l e R s m args below meth c H locs cells slots Q (F0 m tgt ls rest)) (kf : 0 < a → W p l e R s m args below meth c H locs cells slots Q (F0 m pc' ls rest)) : W p l e R s m args below meth c H locs cells slots Q (F0 m pc ls (.int (J a) :: rest)) := by
  subst hp
  exact lv_if_le E.1 E.2.1 hdg ht (fun h => kt ((J_le ha inR0).mp (by rw [J_0]; exact h))) (fun h => kf (Int.not_le.mp (fun q => h (by have := (J_le ha inR0).mpr q; rw [J_0] at this; exact this))))
theorem j_norm {x : Int} (k : ∀ z : Int, inR z → J z = J x → W p l e R s m args below meth c H locs cells slots Q (F0 m pc ls (.int (J z) :: rest))) : W p l e R s m args below meth c H locs cells slots Q (F0 m pc ls (.int (J x) :: rest)) := by
  obtain ⟨z, hz, ez⟩ := J_ex (J x)
  have k := k z hz ez
  rw [ez] at k
  exact k
theorem j_goto (E : CX p s m args meth c own cc nL ret) (tgt : Nat) {off : Int} (hdg : decode cc pc = .ok (.goto off, 3)) (ht : (pc : Int) + off = (tgt : Int)) (k : W p l e R s m args below meth c H locs cells slots Q (F0 m tgt ls rest)) : W p l e R s m args below meth c H locs cells slots Q (F0 m pc ls rest) := lv_goto E.1 E.2.1 hdg ht k
theorem j_ifnull (E : CX p s m args meth c own cc nL ret) (pc' tgt : Nat) (hp : pc + 3 = pc') {o : Option Nat} {off : Int} (hdg : decode cc pc = .ok (.ifnull off, 3)) (ht : (pc : Int) + off = (tgt : Int)) (kt : o = none → W p l e R s m args below meth c H locs cells slots Q (F0 m tgt ls rest)) (kf : ∀ a, o = some a → W p l e R s m args below meth c H locs cells slots Q (F0 m pc' ls rest)) : W p l e R s m args below meth c H locs cells slots Q (F0 m pc ls (va_rf o :: rest)) := by
  subst hp
  cases o with
  | none => exact lv_ifnullN E.1 E.2.1 hdg ht (kt rfl)
  | some a => exact lv_ifnull E.1 E.2.1 hdg (kf a rfl)
theorem j_ifnonnull (E : CX p s m args meth c own cc nL ret) (pc' tgt : Nat) (hp : pc + 3 = pc') {o : Option Nat} {off : Int} (hdg : decode cc pc = .ok (.ifnonnull off, 3)) (ht : (pc : Int) + off = (tgt : Int)) (kt : ∀ a, o = some a → W p l e R s m args below meth c H locs cells slots Q (F0 m tgt ls rest)) (kf : o = none → W p l e R s m args below meth c H locs cells slots Q (F0 m pc' ls rest)) : W p l e R s m args below meth c H locs cells slots Q (F0 m pc ls (va_rf o :: rest)) := by
  subst hp
  cases o with
  | none => exact lv_ifnonnullN E.1 E.2.1 hdg (kf rfl)
  | some a => exact lv_ifnonnull E.1 E.2.1 hdg ht (kt a rfl)
end Rows
/-! ===== contracts: from any heap with P the method returns with Q; of the old cells it writes those in A alone ===== -/
abbrev AA (A : Nat → Prop) (sz : Nat) : Nat → Prop := fun x => A x ∨ sz ≤ x
abbrev QC (A : Nat → Prop) (sz : Nat) (Q : Option Value → Heap → Prop) : Array Value → State → Outcome → State → Prop := fun _ s o t => (∃ r, o = .returned r ∧ Q r t.heap) ∧ va_F (AA A sz) s t
def Ct (l : Launch) (D : va_G) (cy : Nat → ClassId) (y : MethodName) (cc : ByteArray) (nL : Nat) (ret : Option FieldType) (d mc ms : Nat) (As : List Value) (P : Heap → Prop) (A : Nat → Prop) (Q : Option Value → Heap → Prop) : Prop :=
  ∀ sz : Nat, Met l y (wsOf y cc nL ret) (rmd d mc ms) (fun a s => a = As.toArray ∧ s.heap.size = sz ∧ KK D cy s ∧ P s.heap) (QC A sz Q) mc ms (AA A sz)
theorem Ct.of {l : Launch} {D : va_G} {cy : Nat → ClassId} {y : MethodName} {cc : ByteArray} {nL : Nat} {ret : Option FieldType} {d mc ms : Nat} {As : List Value} {P : Heap → Prop} {A : Nat → Prop} {Q : Option Value → Heap → Prop} (hy : plainName y.cls = true) (hn : (lg_sl As).length ≤ nL)
    (body : ∀ (p : Program) (e : Env) (s : State) (m : MethodId) (below : List Frame) (meth : Method) (c : Code) (ls : Array Slot), CX p s m As.toArray meth c y.cls cc nL ret → KK D cy s → (∀ x, s.heap.size ≤ x → AA A s.heap.size x) → va_S (AA A s.heap.size) s.heap s.heap [] → P s.heap → lv_has ls nL (lv_args 0 As) → meth.name = y.name →
      W p l e (rmd d mc ms) s m As.toArray below meth c s.heap [] 0 0 (MQ below (QC A s.heap.size Q) As.toArray s mc ms (AA A s.heap.size)) (F0 m 0 ls [])) : Ct l D cy y cc nL ret d mc ms As P A Q := by
  intro sz
  refine Met.ofW (cc := cc) (maxL := nL) (ret := ret) hy rfl ?_
  intro p e s m args below meth c s₁ B hml hv
  obtain ⟨rfl, rfl, hK, hP⟩ := hv
  have hts := atoms_spec (ws := wsOf y cc nL ret) B.pre
  have hl := lv_entry As (n := nL) hn
  rw [lg_entry_eq]
  generalize (lg_sl As ++ List.replicate (nL - (lg_sl As).length) Slot.unset).toArray = ls at hl ⊢
  exact body p e s m below meth c ls ⟨B.exec, B.bytes, hml, findClass_of_methodNamed B.named, fun w hw => hts w (List.mem_cons_of_mem _ hw), B.returns, B.notSynchronized⟩ hK (fun x h => Or.inr h) va_S.rf hP hl (name_of_methodNamed B.named B.method).1
section Ends
variable {p : Program} {l : Launch} {e : Env} {R : Room} {s : State} {m : MethodId} {args : Array Value} {below : List Frame} {meth : Method} {c : Code} {H : Heap} {locs : List Loc} {cells slots mc ms : Nat} {own : String} {cc : ByteArray} {nL : Nat} {pc : Nat} {ls : Array Slot} {A : Nat → Prop} {Q : Option Value → Heap → Prop}
theorem j_iret (E : CX p s m args meth c own cc nL (some .int)) {z : Int} (hS : va_S (AA A s.heap.size) s.heap H locs) (hq : Q (some (.int (J z))) H) (hc : cells ≤ mc) (hs : slots ≤ ms) (hdg : decode cc pc = .ok (.ireturn, 1)) : W p l e R s m args below meth c H locs cells slots (MQ below (QC A s.heap.size Q) args s mc ms (AA A s.heap.size)) (F0 m pc ls [.int (J z)]) :=
  W.widen hc hs (W.iret (hlocks := E.2.2.2.2.2.2) E.1 E.2.1 E.2.2.2.2.2.1 (fun t ht _ => ⟨⟨_, rfl, by rw [ht]; exact hq⟩, hS.F ht⟩) hS.2.2 hdg)
theorem j_zret (E : CX p s m args meth c own cc nL (some .boolean)) {z : Int} (hz : z = 0 ∨ z = 1) (hS : va_S (AA A s.heap.size) s.heap H locs) (hq : Q (some (.int (J z))) H) (hc : cells ≤ mc) (hs : slots ≤ ms) (hdg : decode cc pc = .ok (.ireturn, 1)) : W p l e R s m args below meth c H locs cells slots (MQ below (QC A s.heap.size Q) args s mc ms (AA A s.heap.size)) (F0 m pc ls [.int (J z)]) :=
  W.widen hc hs (W.zret (hlocks := E.2.2.2.2.2.2) E.1 E.2.1 E.2.2.2.2.2.1 (J_bool hz) (fun t ht _ => ⟨⟨_, rfl, by rw [ht]; exact hq⟩, hS.F ht⟩) hS.2.2 hdg)
theorem j_vret (E : CX p s m args meth c own cc nL none) (hS : va_S (AA A s.heap.size) s.heap H locs) (hq : Q none H) (hc : cells ≤ mc) (hs : slots ≤ ms) (hdg : decode cc pc = .ok (.return_, 1)) : W p l e R s m args below meth c H locs cells slots (MQ below (QC A s.heap.size Q) args s mc ms (AA A s.heap.size)) (F0 m pc ls []) :=
  W.widen hc hs (W.vret (hlocks := E.2.2.2.2.2.2) E.1 E.2.1 E.2.2.2.2.2.1 (fun t ht _ => ⟨⟨_, rfl, by rw [ht]; exact hq⟩, hS.F ht⟩) hS.2.2 hdg)
theorem j_aret {rt : FieldType} (E : CX p s m args meth c own cc nL (some rt)) {o : Option Nat} (hrt : (∃ n, rt = .object n) ∨ ∃ t, rt = .array t) (hS : va_S (AA A s.heap.size) s.heap H locs) (hq : Q (some (va_rf o)) H) (hc : cells ≤ mc) (hs : slots ≤ ms) (hdg : decode cc pc = .ok (.areturn, 1)) : W p l e R s m args below meth c H locs cells slots (MQ below (QC A s.heap.size Q) args s mc ms (AA A s.heap.size)) (F0 m pc ls [va_rf o]) :=
  W.widen hc hs (W.aret (hlocks := E.2.2.2.2.2.2) E.1 E.2.1 E.2.2.2.2.2.1 hrt (by cases o with | none => exact Or.inl rfl | some a => exact Or.inr ⟨a, rfl⟩) (fun t ht _ => ⟨⟨_, rfl, by rw [ht]; exact hq⟩, hS.F ht⟩) hS.2.2 hdg)
end Ends
/-! ===== calls ===== -/
/-- what the tables say of a method that is called by its own name -/
abbrev MthV (y : MethodName) (cc : ByteArray) (nL : Nat) (ret : Option FieldType) (n : Nat) : Prop := Cond.code y cc nL ret ∈ gT ∧ Cond.instanceMethod y ∈ gT ∧ Cond.selects y.cls y y ∈ gT ∧ Cond.initialized y.cls ∈ gT ∧ y.cls ≠ "java/lang/invoke/MethodHandle" ∧ y.cls ≠ "java/lang/invoke/VarHandle" ∧ (parseMethodDescriptor y.desc).map (fun d => d.parameters.length) = some n
abbrev MthS (y : MethodName) (cc : ByteArray) (nL : Nat) (ret : Option FieldType) (n : Nat) : Prop := Cond.code y cc nL ret ∈ gT ∧ Cond.static y ∈ gT ∧ Cond.initialized y.cls ∈ gT ∧ y.cls ≠ "java/lang/invoke/MethodHandle" ∧ y.cls ≠ "java/lang/invoke/VarHandle" ∧ (parseMethodDescriptor y.desc).map (fun d => d.parameters.length) = some n
abbrev MthI (y : MethodName) (cc : ByteArray) (nL : Nat) (n : Nat) : Prop := Cond.code y cc nL none ∈ gT ∧ Cond.instanceMethod y ∈ gT ∧ Cond.initialized y.cls ∈ gT ∧ y.name = "<init>" ∧ y.cls ≠ "java/lang/invoke/MethodHandle" ∧ y.cls ≠ "java/lang/invoke/VarHandle" ∧ (parseMethodDescriptor y.desc).map (fun d => d.parameters.length) = some n
section Calls
variable {p : Program} {l : Launch} {e : Env} {R : Room} {s : State} {m : MethodId} {args : Array Value} {below : List Frame} {meth : Method} {c : Code} {H H0 : Heap} {locs : List Loc} {cells slots mc ms n d' nL' index : Nat} {own : String} {cc cc' : ByteArray} {nL : Nat} {ret ret' : Option FieldType} {pc : Nat} {ls : Array Slot} {A0 A1 : Nat → Prop} {Q1 : Option Value → Heap → Prop} {QW : State → Prop} {D : va_G} {cy : Nat → ClassId} {y : MethodName} {As rest : List Value} {b : Nat} {P : Heap → Prop}
theorem ct_blind (D : va_G) (cy : Nat → ClassId) (As : List Value) (sz : Nat) (P : Heap → Prop) : FrameBlind (fun a s => a = As.toArray ∧ s.heap.size = sz ∧ KK D cy s ∧ P s.heap) := fun a U g mk h => ⟨h.1, h.2.1, va_K.moved (u := U) (U := U.calling g mk a) (Vm.Alike.refl U.vm) h.2.2.1, h.2.2.2⟩
theorem ct_go {args' : Array Value} {st0 : List Value} {g : JFrame} (hr : va_Run p l e R s m args below meth c H locs cells slots mc ms g rest (QC A1 H.size Q1 args') (AA A1 H.size)) (hg : g = F0 m pc ls st0) (hS : va_S A0 H0 H locs) (hA : ∀ q, A1 q → A0 q) (hA0 : ∀ q, H0.size ≤ q → A0 q)
    (kk : ∀ (r : Option Value) (H1 : Heap) (locs1 : List Loc), Q1 r H1 → H.size ≤ H1.size → (∀ q : Nat, q < H.size → ¬ A1 q → H1[q]? = H[q]?) → va_S A0 H0 H1 locs1 → W p l e R s m args below meth c H1 locs1 (cells + mc) (slots + ms) QW (F0 m (pc + 3) ls (r.toList ++ rest))) : W p l e R s m args below meth c H locs cells slots QW g := by
  subst hg
  intro T hT X
  obtain ⟨v, st₀, t, T', L, h0, X', hL, e1, e2, ⟨⟨r, hv, hq⟩, hz, hk⟩, st⟩ := hr T hT X
  cases hv
  rw [h0] at hz hk
  have hn : ∀ q, AA A1 H.size q → A0 q := fun q h => h.elim (hA q) (fun h => hA0 q (Nat.le_trans hS.1 h))
  obtain ⟨t2, a1, b1⟩ := kk v T'.heap (locs ++ L) (by rw [e1]; exact hq) (by rw [e1]; exact hz) (fun q h1 h2 => by rw [e1]; exact hk q h1 (fun z => z.elim h2 (fun z => absurd z (Nat.not_le.mpr h1))))
    ⟨Nat.le_trans hS.1 (by rw [e1]; exact hz), fun q h1 h2 => by rw [e1, hk q (Nat.lt_of_lt_of_le h1 hS.1) (fun z => h2 (hn q z))]; exact hS.2.1 q h1 h2, fun q hq => by
      rcases List.mem_append.mp hq with h | h
      · exact hS.2.2 q h
      · exact hn _ (hL q h)⟩ T' rfl X'
  exact ⟨t2, st t2 a1, b1⟩
theorem ct_cb (E : CX p s m args meth c own cc nL ret) (hcode : Cond.code y cc' nL' ret' ∈ gT) (hini : Cond.initialized y.cls ∈ gT) (hlk : Cond.methodLink own index y ∈ gT) (hd : y.cls ≠ "java/lang/invoke/MethodHandle" ∧ y.cls ≠ "java/lang/invoke/VarHandle" ∧ (parseMethodDescriptor y.desc).map (fun d => d.parameters.length) = some n) (hR : d' + 1 ≤ R.frames ∧ 8 + (nL' + 11) + 50 * d' ≤ R.locals) : CallB R s args own index y cc' nL' ret' (wsOf y cc' nL' ret') (rmd d' mc ms) mc ms n :=
  callB_of n (Ts := gT) E.2.2.2.2.1 (fun w hw => by
    rcases List.mem_cons.mp hw with rfl | hw
    · exact ⟨hcode, good_of_word (List.mem_filter.mp hcode).2⟩
    · exact ⟨hw, good_of_word (List.mem_filter.mp hw).2⟩) rfl rfl rfl (E.2.2.2.2.1 _ hini) (E.2.2.2.2.1 _ hlk) hd hR
theorem j_callV (E : CX p s m args meth c own cc nL ret) (hC : Ct l D cy y cc' nL' ret' d' mc ms (.ref b :: As) P A1 Q1) (hm : MthV y cc' nL' ret' n) (hlk : Cond.methodLink own index y ∈ gT) (hK : KK D cy s) (hP : P H) (hrecv : ∃ cellB : Cell, H[b]? = some cellB ∧ cellB.vm.isStatics = false ∧ s.vm.findClass y.cls = some cellB.cls)
    (hS : va_S A0 H0 H locs) (hA : ∀ q, A1 q → A0 q) (hA0 : ∀ q, H0.size ≤ q → A0 q) (hR : d' + 1 ≤ R.frames ∧ 8 + (nL' + 11) + 50 * d' ≤ R.locals) (hf : cells + mc ≤ R.cells ∧ slots + ms ≤ R.slots) {st0 : List Value} (hst : st0 = As.reverse ++ .ref b :: rest) (hn : As.length = n) (hls : ls.size = nL) (hW : (rest.map fun v => v.category).sum ≤ 8) (pc' : Nat) (hp : pc + 3 = pc') (hdg : decode cc pc = .ok (.invokevirtual index, 3))
    (kk : ∀ (r : Option Value) (H1 : Heap) (locs1 : List Loc), Q1 r H1 → H.size ≤ H1.size → (∀ q : Nat, q < H.size → ¬ A1 q → H1[q]? = H[q]?) → va_S A0 H0 H1 locs1 → W p l e R s m args below meth c H1 locs1 (cells + mc) (slots + ms) QW (F0 m pc' ls (r.toList ++ rest))) : W p l e R s m args below meth c H locs cells slots QW (F0 m pc ls st0) := by
  subst hp
  refine ct_go (A1 := A1) (va_runV (As := As) (rest := rest) (Ts := gT) ⟨E.1, E.2.1, E.2.2.1, E.2.2.2.1, E.2.2.2.2.1⟩ (hC H.size) (C := y.cls) ⟨ct_cb E hm.1 hm.2.2.2.1 hlk hm.2.2.2.2 hR, E.2.2.2.2.1 _ hm.2.1, E.2.2.2.2.1 _ hm.2.2.1⟩ ⟨ct_blind D cy _ _ P, hrecv, fun U hU hW => ⟨rfl, by rw [hU], va_K.moved hW.alike hK, by rw [hU]; exact hP⟩⟩ rfl hn hls hst (lv_room hW) hdg hf) rfl hS hA hA0 kk
theorem j_callS (E : CX p s m args meth c own cc nL ret) (hC : Ct l D cy y cc' nL' ret' d' mc ms As P A1 Q1) (hm : MthS y cc' nL' ret' n) (hlk : Cond.methodLink own index y ∈ gT) (hK : KK D cy s) (hP : P H)
    (hS : va_S A0 H0 H locs) (hA : ∀ q, A1 q → A0 q) (hA0 : ∀ q, H0.size ≤ q → A0 q) (hR : d' + 1 ≤ R.frames ∧ 8 + (nL' + 11) + 50 * d' ≤ R.locals) (hf : cells + mc ≤ R.cells ∧ slots + ms ≤ R.slots) {st0 : List Value} (hst : st0 = As.reverse ++ rest) (hn : As.length = n) (hls : ls.size = nL) (hW : (rest.map fun v => v.category).sum ≤ 8) (pc' : Nat) (hp : pc + 3 = pc') (hdg : decode cc pc = .ok (.invokestatic index, 3))
    (kk : ∀ (r : Option Value) (H1 : Heap) (locs1 : List Loc), Q1 r H1 → H.size ≤ H1.size → (∀ q : Nat, q < H.size → ¬ A1 q → H1[q]? = H[q]?) → va_S A0 H0 H1 locs1 → W p l e R s m args below meth c H1 locs1 (cells + mc) (slots + ms) QW (F0 m pc' ls (r.toList ++ rest))) : W p l e R s m args below meth c H locs cells slots QW (F0 m pc ls st0) := by
  subst hp
  refine ct_go (A1 := A1) (va_runS (As := As) (rest := rest) (Ts := gT) ⟨E.1, E.2.1, E.2.2.1, E.2.2.2.1, E.2.2.2.2.1⟩ (hC H.size) ⟨ct_cb E hm.1 hm.2.2.1 hlk hm.2.2.2 hR, E.2.2.2.2.1 _ hm.2.1⟩ ⟨ct_blind D cy _ _ P, fun U hU hW => ⟨rfl, by rw [hU], va_K.moved hW.alike hK, by rw [hU]; exact hP⟩⟩ rfl hn hls hst (lv_room hW) hdg hf) rfl hS hA hA0 kk
theorem j_callI (E : CX p s m args meth c own cc nL ret) (hC : Ct l D cy y cc' nL' none d' mc ms (.ref b :: As) P A1 Q1) (hm : MthI y cc' nL' n) (hlk : Cond.methodLink own index y ∈ gT) (hK : KK D cy s) (hP : P H)
    (hS : va_S A0 H0 H locs) (hA : ∀ q, A1 q → A0 q) (hA0 : ∀ q, H0.size ≤ q → A0 q) (hR : d' + 1 ≤ R.frames ∧ 8 + (nL' + 11) + 50 * d' ≤ R.locals) (hf : cells + mc ≤ R.cells ∧ slots + ms ≤ R.slots) {st0 : List Value} (hst : st0 = As.reverse ++ .ref b :: rest) (hn : As.length = n) (hls : ls.size = nL) (hW : (rest.map fun v => v.category).sum ≤ 8) (pc' : Nat) (hp : pc + 3 = pc') (hdg : decode cc pc = .ok (.invokespecial index, 3))
    (kk : ∀ (r : Option Value) (H1 : Heap) (locs1 : List Loc), Q1 r H1 → H.size ≤ H1.size → (∀ q : Nat, q < H.size → ¬ A1 q → H1[q]? = H[q]?) → va_S A0 H0 H1 locs1 → W p l e R s m args below meth c H1 locs1 (cells + mc) (slots + ms) QW (F0 m pc' ls (r.toList ++ rest))) : W p l e R s m args below meth c H locs cells slots QW (F0 m pc ls st0) := by
  subst hp
  refine ct_go (A1 := A1) (va_runI (As := As) (rest := rest) (Ts := gT) ⟨E.1, E.2.1, E.2.2.1, E.2.2.2.1, E.2.2.2.2.1⟩ (hC H.size) ⟨ct_cb E hm.1 hm.2.2.1 hlk hm.2.2.2.2 hR, hm.2.2.2.1, E.2.2.2.2.1 _ hm.2.1⟩ ⟨ct_blind D cy _ _ P, fun U hU hW => ⟨rfl, by rw [hU], va_K.moved hW.alike hK, by rw [hU]; exact hP⟩⟩ rfl hn hls hst (lv_room hW) hdg hf) rfl hS hA hA0 kk
end Calls
