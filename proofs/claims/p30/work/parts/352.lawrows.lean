theorem ml_L_9 : Cond.methodLink RL 9 yX9_init ∈ gT := (gT_c1 (List.mem_of_getElem? (i := 27) (by decide +kernel)) (by decide +kernel))
theorem ml_L_12 : Cond.methodLink RL 12 yX10_init ∈ gT := (gT_c5 (List.mem_of_getElem? (i := 125) (by decide +kernel)) (by decide +kernel))
theorem ml_L_13 : Cond.methodLink RL 13 yX9_person ∈ gT := (gT_c1 (List.mem_of_getElem? (i := 190) (by decide +kernel)) (by decide +kernel))
theorem ml_L_17 : Cond.methodLink RL 17 yX10_person ∈ gT := (gT_c6 (List.mem_of_getElem? (i := 94) (by decide +kernel)) (by decide +kernel))
theorem ml_L_18 : Cond.methodLink RL 18 yX9_dies ∈ gT := (gT_c2 (List.mem_of_getElem? (i := 59) (by decide +kernel)) (by decide +kernel))
theorem ml_L_22 : Cond.methodLink RL 22 yX10_dies ∈ gT := (gT_c6 (List.mem_of_getElem? (i := 102) (by decide +kernel)) (by decide +kernel))
theorem ml_L_23 : Cond.methodLink RL 23 yX9_holds ∈ gT := (gT_c2 (List.mem_of_getElem? (i := 89) (by decide +kernel)) (by decide +kernel))
theorem ml_L_27 : Cond.methodLink RL 27 yX10_holds ∈ gT := (gT_c6 (List.mem_of_getElem? (i := 114) (by decide +kernel)) (by decide +kernel))
theorem ml_L_28 : Cond.methodLink RL 28 yX9_away ∈ gT := (gT_c2 (List.mem_of_getElem? (i := 93) (by decide +kernel)) (by decide +kernel))
theorem ml_L_31 : Cond.methodLink RL 31 yX10_away ∈ gT := (gT_c6 (List.mem_of_getElem? (i := 118) (by decide +kernel)) (by decide +kernel))
theorem ml_L_32 : Cond.methodLink RL 32 yX9_speaker ∈ gT := (gT_c2 (List.mem_of_getElem? (i := 97) (by decide +kernel)) (by decide +kernel))
theorem ml_L_35 : Cond.methodLink RL 35 yX10_speaker ∈ gT := (gT_c6 (List.mem_of_getElem? (i := 122) (by decide +kernel)) (by decide +kernel))
theorem ml_L_36 : Cond.methodLink RL 36 yX9_way ∈ gT := (gT_c2 (List.mem_of_getElem? (i := 101) (by decide +kernel)) (by decide +kernel))
theorem ml_L_39 : Cond.methodLink RL 39 yX10_way ∈ gT := (gT_c6 (List.mem_of_getElem? (i := 126) (by decide +kernel)) (by decide +kernel))
theorem ml_L_40 : Cond.methodLink RL 40 yX9_of ∈ gT := (gT_c2 (List.mem_of_getElem? (i := 105) (by decide +kernel)) (by decide +kernel))
theorem ml_L_44 : Cond.methodLink RL 44 yX10_of ∈ gT := (gT_c6 (List.mem_of_getElem? (i := 130) (by decide +kernel)) (by decide +kernel))
theorem ml_L_45 : Cond.methodLink RL 45 yX9_feed ∈ gT := (gT_c2 (List.mem_of_getElem? (i := 122) (by decide +kernel)) (by decide +kernel))
theorem ml_L_49 : Cond.methodLink RL 49 yX10_feed ∈ gT := (gT_c6 (List.mem_of_getElem? (i := 194) (by decide +kernel)) (by decide +kernel))
theorem ml_L_50 : Cond.methodLink RL 50 yX9_end ∈ gT := (gT_c2 (List.mem_of_getElem? (i := 130) (by decide +kernel)) (by decide +kernel))
theorem ml_L_53 : Cond.methodLink RL 53 yX10_end ∈ gT := (gT_c6 (List.mem_of_getElem? (i := 202) (by decide +kernel)) (by decide +kernel))
theorem ml_L_54 : Cond.methodLink RL 54 yX9_wording ∈ gT := (gT_c2 (List.mem_of_getElem? (i := 134) (by decide +kernel)) (by decide +kernel))
theorem ml_L_58 : Cond.methodLink RL 58 yX10_wording ∈ gT := (gT_c6 (List.mem_of_getElem? (i := 206) (by decide +kernel)) (by decide +kernel))
theorem ml_L_59 : Cond.methodLink RL 59 yX9_fault ∈ gT := (gT_c3 (List.mem_of_getElem? (i := 101) (by decide +kernel)) (by decide +kernel))
theorem ml_L_63 : Cond.methodLink RL 63 yX10_fault ∈ gT := (gT_c7 (List.mem_of_getElem? (i := 42) (by decide +kernel)) (by decide +kernel))
theorem ml_L_64 : Cond.methodLink RL 64 yX9_line ∈ gT := (gT_c3 (List.mem_of_getElem? (i := 105) (by decide +kernel)) (by decide +kernel))
theorem ml_L_68 : Cond.methodLink RL 68 yX10_line ∈ gT := (gT_c6 (List.mem_of_getElem? (i := 138) (by decide +kernel)) (by decide +kernel))
theorem ml_L_69 : Cond.methodLink RL 69 yX9_know ∈ gT := (gT_c3 (List.mem_of_getElem? (i := 146) (by decide +kernel)) (by decide +kernel))
theorem ml_L_73 : Cond.methodLink RL 73 yX10_know ∈ gT := (gT_c6 (List.mem_of_getElem? (i := 142) (by decide +kernel)) (by decide +kernel))
theorem ml_L_74 : Cond.methodLink RL 74 yX9_teach ∈ gT := (gT_c3 (List.mem_of_getElem? (i := 162) (by decide +kernel)) (by decide +kernel))
theorem ml_L_78 : Cond.methodLink RL 78 yX10_teach ∈ gT := (gT_c6 (List.mem_of_getElem? (i := 158) (by decide +kernel)) (by decide +kernel))
theorem ml_L_79 : Cond.methodLink RL 79 yX9_has ∈ gT := (gT_c3 (List.mem_of_getElem? (i := 178) (by decide +kernel)) (by decide +kernel))
theorem ml_L_82 : Cond.methodLink RL 82 yX10_has ∈ gT := (gT_c6 (List.mem_of_getElem? (i := 166) (by decide +kernel)) (by decide +kernel))
theorem ml_L_83 : Cond.methodLink RL 83 yX9_summers ∈ gT := (gT_c3 (List.mem_of_getElem? (i := 209) (by decide +kernel)) (by decide +kernel))
theorem ml_L_86 : Cond.methodLink RL 86 yX10_summers ∈ gT := (gT_c7 (List.mem_of_getElem? (i := 94) (by decide +kernel)) (by decide +kernel))
theorem ml_L_87 : Cond.methodLink RL 87 yX9_lineOf ∈ gT := (gT_c3 (List.mem_of_getElem? (i := 187) (by decide +kernel)) (by decide +kernel))
theorem ml_L_90 : Cond.methodLink RL 90 yX10_lineOf ∈ gT := (gT_c6 (List.mem_of_getElem? (i := 170) (by decide +kernel)) (by decide +kernel))
theorem ml_L_91 : Cond.methodLink RL 91 yX9_said ∈ gT := (gT_c4 (List.mem_of_getElem? (i := 45) (by decide +kernel)) (by decide +kernel))
theorem ml_L_94 : Cond.methodLink RL 94 yX10_said ∈ gT := (gT_c6 (List.mem_of_getElem? (i := 182) (by decide +kernel)) (by decide +kernel))
theorem ml_L_95 : Cond.methodLink RL 95 yX9_stood ∈ gT := (gT_c4 (List.mem_of_getElem? (i := 57) (by decide +kernel)) (by decide +kernel))
theorem ml_L_98 : Cond.methodLink RL 98 yX10_stood ∈ gT := (gT_c6 (List.mem_of_getElem? (i := 186) (by decide +kernel)) (by decide +kernel))
theorem ml_L_99 : Cond.methodLink RL 99 yX9_owed ∈ gT := (gT_c4 (List.mem_of_getElem? (i := 67) (by decide +kernel)) (by decide +kernel))
theorem ml_L_103 : Cond.methodLink RL 103 yX10_owed ∈ gT := (gT_c7 (List.mem_of_getElem? (i := 46) (by decide +kernel)) (by decide +kernel))
theorem ml_L_104 : Cond.methodLink RL 104 yX9_byBook ∈ gT := (gT_c4 (List.mem_of_getElem? (i := 130) (by decide +kernel)) (by decide +kernel))
theorem ml_L_108 : Cond.methodLink RL 108 yX10_byBook ∈ gT := (gT_c7 (List.mem_of_getElem? (i := 74) (by decide +kernel)) (by decide +kernel))
theorem ml_L_109 : Cond.methodLink RL 109 yX9_suit ∈ gT := (gT_c4 (List.mem_of_getElem? (i := 134) (by decide +kernel)) (by decide +kernel))
theorem ml_L_112 : Cond.methodLink RL 112 yX10_suit ∈ gT := (gT_c7 (List.mem_of_getElem? (i := 78) (by decide +kernel)) (by decide +kernel))
theorem ml_L_113 : Cond.methodLink RL 113 yX9_suitOf ∈ gT := (gT_c4 (List.mem_of_getElem? (i := 175) (by decide +kernel)) (by decide +kernel))
theorem ml_L_116 : Cond.methodLink RL 116 yX10_suitOf ∈ gT := (gT_c7 (List.mem_of_getElem? (i := 86) (by decide +kernel)) (by decide +kernel))
theorem ml_L_117 : Cond.methodLink RL 117 yX9_pay ∈ gT := (gT_c4 (List.mem_of_getElem? (i := 188) (by decide +kernel)) (by decide +kernel))
theorem ml_L_120 : Cond.methodLink RL 120 yX10_pay ∈ gT := (gT_c7 (List.mem_of_getElem? (i := 90) (by decide +kernel)) (by decide +kernel))
theorem ml_L_121 : Cond.methodLink RL 121 yX9_far ∈ gT := (gT_c4 (List.mem_of_getElem? (i := 192) (by decide +kernel)) (by decide +kernel))
theorem ml_L_124 : Cond.methodLink RL 124 yX10_far ∈ gT := (gT_c7 (List.mem_of_getElem? (i := 138) (by decide +kernel)) (by decide +kernel))
theorem ml_L_125 : Cond.methodLink RL 125 yX9_tree ∈ gT := (gT_c4 (List.mem_of_getElem? (i := 221) (by decide +kernel)) (by decide +kernel))
theorem ml_L_128 : Cond.methodLink RL 128 yX10_tree ∈ gT := (gT_c7 (List.mem_of_getElem? (i := 150) (by decide +kernel)) (by decide +kernel))
theorem ml_L_129 : Cond.methodLink RL 129 yX9_loss ∈ gT := (gT_c4 (List.mem_of_getElem? (i := 236) (by decide +kernel)) (by decide +kernel))
theorem ml_L_132 : Cond.methodLink RL 132 yX10_loss ∈ gT := (gT_c7 (List.mem_of_getElem? (i := 163) (by decide +kernel)) (by decide +kernel))
theorem ml_L_133 : Cond.methodLink RL 133 yX9_plan ∈ gT := (gT_c5 (List.mem_of_getElem? (i := 4) (by decide +kernel)) (by decide +kernel))
theorem ml_L_136 : Cond.methodLink RL 136 yX10_plan ∈ gT := (gT_c7 (List.mem_of_getElem? (i := 171) (by decide +kernel)) (by decide +kernel))
theorem ml_L_137 : Cond.methodLink RL 137 yX9_book ∈ gT := (gT_c5 (List.mem_of_getElem? (i := 95) (by decide +kernel)) (by decide +kernel))
theorem ml_L_141 : Cond.methodLink RL 141 yX10_book ∈ gT := (gT_c7 (List.mem_of_getElem? (i := 191) (by decide +kernel)) (by decide +kernel))
theorem ml_L_142 : Cond.methodLink RL 142 yX9_wrong ∈ gT := (gT_c5 (List.mem_of_getElem? (i := 99) (by decide +kernel)) (by decide +kernel))
theorem ml_L_145 : Cond.methodLink RL 145 yX10_wrong ∈ gT := (gT_c7 (List.mem_of_getElem? (i := 195) (by decide +kernel)) (by decide +kernel))
theorem ml_L_146 : Cond.methodLink RL 146 yX9_look ∈ gT := (gT_c5 (List.mem_of_getElem? (i := 103) (by decide +kernel)) (by decide +kernel))
theorem ml_L_149 : Cond.methodLink RL 149 yX10_look ∈ gT := (gT_c7 (List.mem_of_getElem? (i := 199) (by decide +kernel)) (by decide +kernel))
theorem cl_L_7 : Cond.classLink RL 7 RX9 ∈ gT := (gT_c1 (List.mem_of_getElem? (i := 25) (by decide +kernel)) (by decide +kernel))
theorem cl_L_10 : Cond.classLink RL 10 RX10 ∈ gT := (gT_c5 (List.mem_of_getElem? (i := 123) (by decide +kernel)) (by decide +kernel))
theorem it_X10 : Cond.instantiable RX10 68 ∈ gT := (gT_c5 (List.mem_of_getElem? (i := 124) (by decide +kernel)) (by decide +kernel))
theorem ii_X10 : Cond.initialized RX10 ∈ gT := (gT_c1 (List.mem_of_getElem? (i := 8) (by decide +kernel)) (by decide +kernel))
theorem mi_X10_init : MthI yX10_init cX10_init 1 0 := ⟨(gT_c5 (List.mem_of_getElem? (i := 127) rfl) rfl), (gT_c5 (List.mem_of_getElem? (i := 126) (by decide +kernel)) (by decide +kernel)), ii_X10, rfl, by decide +kernel, by decide +kernel, by decide +kernel⟩
def LW (D : va_G) (cy : Nat → ClassId) (κ : Nat → Nat → Nat) (x : Nat) (T : Nat → Nat → Nat) (v : Nat → Nat → Int) (q : Nat → Nat) (n : Nat → Int) (f : Nat → Int → Int) (s : State) (H : Heap) (locs : List Loc) : Prop :=
  WC D cy T v H ∧ T 0 x = 9 ∧ (∀ a, T 0 a = 26 → a = κ 2 0) ∧ (∀ a, ow T a → s.heap.size ≤ a) ∧ mI D cy q n f H ∧ MI n f ∧ (∀ a, mA q a → s.heap.size ≤ a ∧ a < H.size) ∧ (∀ a, ow T a → ¬ mA q a) ∧ va_S (fun a => s.heap.size ≤ a) s.heap H locs
section LawW
variable {D : va_G} {cy : Nat → ClassId} {κ T T2 : Nat → Nat → Nat} {v v2 : Nat → Nat → Int} {H H1 : Heap} {q : Nat → Nat} {n n2 : Nat → Int} {f f2 : Nat → Int → Int} {s : State} {x : Nat} {locs locs1 : List Loc}
theorem WC_kept (hw : WC D cy T v H) (h : ∀ a, T 0 a ≠ 0 → a < H.size → H1[a]? = H[a]?) : WC D cy T v H1 := by
  obtain ⟨hG, hT, hL, hR⟩ := hw
  refine ⟨fun a e he => ?_, hT, hL, hR⟩
  have h1 := hG a e he
  refine h1.kept (h a (fun h0 => ?_) h1.lt)
  rw [h0] at he
  have he : (none : Option va_E) = some e := he
  cases he
theorem mI_kept (h : mI D cy q n f H) (hk : ∀ a, mA q a → a < H.size → H1[a]? = H[a]?) : mI D cy q n f H1 := ⟨h.1.kept (fun k x hx => hk x.1 (mW_mA _ _ _ _ k x hx) (h.1 k x hx).lt), h.2⟩
theorem LW.cls (hw : LW D cy κ x T v q n f s H locs) (ho : OW T T2 H.size) (hx : T2 0 x = 9) (hI : WC D cy T2 v2 H1) (hz : H.size ≤ H1.size) (hk : ∀ a : Nat, a < H.size → ¬ ow T a → H1[a]? = H[a]?) (hS : va_S (fun a => s.heap.size ≤ a) s.heap H1 locs1) : LW D cy κ x T2 v2 q n f s H1 locs1 := by
  obtain ⟨h1, h2, h3, h4, h5, h6, h7, h8, h9⟩ := hw
  exact ⟨hI, hx, fun a ha => h3 a ((ho a).2 ha), fun a ha => ((ho a).1 ha).elim (h4 a) (fun z => Nat.le_trans h9.1 z), mI_kept h5 (fun a ha hl => hk a hl (fun z => h8 a z ha)), h6, fun a ha => ⟨(h7 a ha).1, Nat.lt_of_lt_of_le (h7 a ha).2 hz⟩, fun a ha hm => ((ho a).1 ha).elim (fun z => h8 a z hm) (fun z => absurd (h7 a hm).2 (Nat.not_lt.mpr z)), hS⟩
theorem LW.mod (hw : LW D cy κ x T v q n f s H locs) (hκ : κ 2 0 < s.heap.size) (hI : mI D cy q n2 f2 H1) (hM : MI n2 f2) (hz : H.size ≤ H1.size) (hk : ∀ a : Nat, a < H.size → ¬ mA q a → H1[a]? = H[a]?) (hS : va_S (fun a => s.heap.size ≤ a) s.heap H1 locs1) : LW D cy κ x T v q n2 f2 s H1 locs1 := by
  obtain ⟨h1, h2, h3, h4, h5, h6, h7, h8, h9⟩ := hw
  refine ⟨WC_kept h1 (fun a ha hl => hk a hl (fun hm => ?_)), h2, h3, h4, hI, hM, fun a ha => ⟨(h7 a ha).1, Nat.lt_of_lt_of_le (h7 a ha).2 hz⟩, h8, hS⟩
  by_cases e : T 0 a = 26
  · have e2 := h3 a e
    have := (h7 a hm).1
    omega
  · exact h8 a ⟨ha, e⟩ hm
end LawW
section LawR
variable {p : Program} {l : Launch} {e : Env} {R : Room} {s : State} {m : MethodId} {args : Array Value} {below : List Frame} {meth : Method} {c : Code} {H : Heap} {locs : List Loc} {cells slots k d' nL' index mc ms : Nat} {cc cc' : ByteArray} {nL : Nat} {ret ret' : Option FieldType} {pc : Nat} {ls : Array Slot} {QW : State → Prop} {D : va_G} {cy : Nat → ClassId} {y : MethodName} {As rest : List Value} {κ T : Nat → Nat → Nat} {v : Nat → Nat → Int} {own : String} {q : Nat → Nat} {n : Nat → Int} {f : Nat → Int → Int} {x : Nat}
theorem lw_C {post : Int → (Nat → Nat → Int) → Prop} (E : CX p s m args meth c own cc nL ret) (hC : KC l D cy T y cc' nL' ret' d' (.ref x :: As) v (KI post)) (hm : MthV y cc' nL' ret' k) (hlk : Cond.methodLink own index y ∈ gT) (hK : KK D cy s) (hw : LW D cy κ x T v q n f s H locs) (hy : y.cls = RX9) (hR : d' + 1 ≤ R.frames ∧ 8 + (nL' + 11) + 50 * d' ≤ R.locals) (hf : cells ≤ R.cells ∧ slots ≤ R.slots) {st0 : List Value} (hst : st0 = As.reverse ++ .ref x :: rest) (hn : As.length = k) (hls : ls.size = nL) (hW : (rest.map fun v => v.category).sum ≤ 8) (pc' : Nat) (hp : pc + 3 = pc') (hdg : decode cc pc = .ok (.invokevirtual index, 3))
    (kk : ∀ (z : Int) (v2 : Nat → Nat → Int) (H1 : Heap) (locs1 : List Loc), inR z → post z v2 → LW D cy κ x T v2 q n f s H1 locs1 → W p l e R s m args below meth c H1 locs1 cells slots QW (F0 m pc' ls (.int (J z) :: rest))) : W p l e R s m args below meth c H locs cells slots QW (F0 m pc ls st0) := by
  refine j_callV E hC hm hlk hK hw.1 (by rw [hy]; exact cw_rc9 hK hw.1 hw.2.1) hw.2.2.2.2.2.2.2.2 hw.2.2.2.1 (fun a h => h) hR hf hst hn hls hW pc' hp hdg (fun r H1 locs1 hq hz hk hS => ?_)
  obtain ⟨v2, ⟨z, rfl, hr, hpo⟩, hI⟩ := hq
  exact kk z v2 H1 locs1 hr hpo (hw.cls (OW.rf T _) hw.2.1 hI hz hk hS)
theorem lw_A {post : Int → (Nat → Nat → Nat) → (Nat → Nat → Int) → Prop} (E : CX p s m args meth c own cc nL ret) (hC : KA l D cy κ T y cc' nL' ret' d' mc ms (.ref x :: As) v H.size (AI post)) (hm : MthV y cc' nL' ret' k) (hlk : Cond.methodLink own index y ∈ gT) (hK : KK D cy s) (hZ : ZZ κ s s.heap) (hw : LW D cy κ x T v q n f s H locs) (hy : y.cls = RX9) (hR : d' + 1 ≤ R.frames ∧ 8 + (nL' + 11) + 50 * d' ≤ R.locals) (hf : cells + mc ≤ R.cells ∧ slots + ms ≤ R.slots) {st0 : List Value} (hst : st0 = As.reverse ++ .ref x :: rest) (hn : As.length = k) (hls : ls.size = nL) (hW : (rest.map fun v => v.category).sum ≤ 8) (pc' : Nat) (hp : pc + 3 = pc') (hdg : decode cc pc = .ok (.invokevirtual index, 3)) (hpost : ∀ z T2 v2, post z T2 v2 → T2 0 x = 9)
    (kk : ∀ (z : Int) (T2 : Nat → Nat → Nat) (v2 : Nat → Nat → Int) (H1 : Heap) (locs1 : List Loc), inR z → post z T2 v2 → LW D cy κ x T2 v2 q n f s H1 locs1 → W p l e R s m args below meth c H1 locs1 (cells + mc) (slots + ms) QW (F0 m pc' ls (.int (J z) :: rest))) : W p l e R s m args below meth c H locs cells slots QW (F0 m pc ls st0) := by
  refine j_callVZ E hC hm hlk hK hZ ⟨rfl, hw.1⟩ (by rw [hy]; exact cw_rc9 hK hw.1 hw.2.1) hw.2.2.2.2.2.2.2.2 hw.2.2.2.1 (fun a h => h) (fun a h => Nat.le_trans hZ.2.1 h) hR hf hst hn hls hW pc' hp hdg (fun r H1 locs1 hq hz hk hS => ?_)
  obtain ⟨T2, v2, ho, ⟨z, rfl, hr, hpo⟩, hI⟩ := hq
  exact kk z T2 v2 H1 locs1 hr hpo (hw.cls ho (hpost z T2 v2 hpo) hI hz hk hS)
theorem lw_M {post : Int → (Nat → Int) → (Nat → Int → Int) → Prop} (E : CX p s m args meth c own cc nL ret) (hC : MC l D cy q y cc' nL' ret' d' As n f (PI post)) (hm : MthV y cc' nL' ret' k) (hlk : Cond.methodLink own index y ∈ gT) (hK : KK D cy s) (hw : LW D cy κ x T v q n f s H locs) (hy : y.cls = RX10) (hκ : κ 2 0 < s.heap.size) (hR : d' + 1 ≤ R.frames ∧ 8 + (nL' + 11) + 50 * d' ≤ R.locals) (hf : cells ≤ R.cells ∧ slots ≤ R.slots) {st0 : List Value} (hst : st0 = As.reverse ++ .ref (q 0) :: rest) (hn : As.length = k) (hls : ls.size = nL) (hW : (rest.map fun v => v.category).sum ≤ 8) (pc' : Nat) (hp : pc + 3 = pc') (hdg : decode cc pc = .ok (.invokevirtual index, 3)) (hMI : ∀ z n2 f2, post z n2 f2 → MI n2 f2)
    (kk : ∀ (z : Int) (n2 : Nat → Int) (f2 : Nat → Int → Int) (H1 : Heap) (locs1 : List Loc), inR z → post z n2 f2 → LW D cy κ x T v q n2 f2 s H1 locs1 → W p l e R s m args below meth c H1 locs1 cells slots QW (F0 m pc' ls (.int (J z) :: rest))) : W p l e R s m args below meth c H locs cells slots QW (F0 m pc ls st0) := by
  refine j_callV E hC hm hlk hK hw.2.2.2.2.1 (by rw [hy]; exact va_recv hK hw.2.2.2.2.1.1 (ci := 10) (q0 := 0) rfl rfl) hw.2.2.2.2.2.2.2.2 (fun a h => (hw.2.2.2.2.2.2.1 a h).1) (fun a h => h) hR hf hst hn hls hW pc' hp hdg (fun r H1 locs1 hq hz hk hS => ?_)
  obtain ⟨n2, f2, ⟨z, rfl, hr, hpo⟩, hI⟩ := hq
  exact kk z n2 f2 H1 locs1 hr hpo (hw.mod hκ hI (hMI z n2 f2 hpo) hz hk hS)
theorem lw_ld (E : CX p s m args meth c own cc nL ret) {b L : Nat} {xs : Nat → Int32} (hX : va_X b L xs s s.heap) (hbl : b < s.heap.size) (hL : L ≤ 4096) (hw : LW D cy κ x T v q n f s H locs) {i : Int} (hi : 0 ≤ i ∧ i < (L : Int)) (pc' : Nat) (hp : pc + 1 = pc') (hdg : decode cc pc = .ok (.iaload, 1)) (kk : W p l e R s m args below meth c H locs cells slots QW (F0 m pc' ls (.int (J (xs i.toNat).toInt) :: rest))) : W p l e R s m args below meth c H locs cells slots QW (F0 m pc ls (.int (J i) :: .ref b :: rest)) := by
  subst hp
  refine va_sld (A := fun a => s.heap.size ≤ a) E.1 E.2.1 hX hbl (Nat.not_le.mpr hbl) hw.2.2.2.2.2.2.2.2 (J_in hi.1 hi.2 (by omega)) hdg ?_
  rw [J_self] at kk
  rw [J_clamp hi.1 (by omega)]
  exact kk
theorem lw_ln (E : CX p s m args meth c own cc nL ret) {b L : Nat} {xs : Nat → Int32} (hX : va_X b L xs s s.heap) (hbl : b < s.heap.size) (hw : LW D cy κ x T v q n f s H locs) (pc' : Nat) (hp : pc + 1 = pc') (hdg : decode cc pc = .ok (.arraylength, 1)) (kk : W p l e R s m args below meth c H locs cells slots QW (F0 m pc' ls (.int (J (L : Int)) :: rest))) : W p l e R s m args below meth c H locs cells slots QW (F0 m pc ls (.ref b :: rest)) := by
  subst hp
  refine va_slen (A := fun a => s.heap.size ≤ a) E.1 E.2.1 hX hbl (Nat.not_le.mpr hbl) hw.2.2.2.2.2.2.2.2 hdg ?_
  rw [J_ofNat] at kk
  exact kk
theorem J_and31 {z w : Int} (hz : inR z) (e : J z = J w &&& J 31) : 0 ≤ z ∧ z ≤ 31 := by
  have h1 : (J z).toBitVec.toNat ≤ 31 := by
    rw [e, Int32.toBitVec_and, BitVec.toNat_and]
    exact Nat.le_trans Nat.and_le_right (by decide +kernel)
  have h2 : (J z).toInt = z := J_toInt hz
  have h3 : (J z).toInt = (J z).toBitVec.toInt := rfl
  rw [h3, BitVec.toInt_eq_toNat_of_lt (by omega)] at h2
  omega
end LawR
