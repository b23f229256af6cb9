
def Bd_ (g : Int → Int) (hi c : Int) : Prop := ∀ j, 0 ≤ j → j < hi → 0 ≤ g j ∧ g j ≤ c + j
theorem Bd_step {g : Int → Int} {hi c z : Int} (h : Bd_ g hi c) (hz : 0 ≤ z ∧ z ≤ c + hi) : Bd_ (upA g hi z) (hi + 1) c := fun j h1 h2 => by
  unfold upA
  split
  · rename_i e; rw [e]; exact hz
  · exact h j h1 (by omega)
theorem Bd_to {g : Int → Int} {hi hj c b : Int} (h : Bd_ g hi c) (e1 : hj ≤ hi) (e2 : c ≤ b) : Bd_ g hj b := fun j h1 h2 => by
  have := h j h1 (by omega)
  exact ⟨by omega, by omega⟩
theorem Bd_one {g : Int → Int} {c z : Int} (hz : 0 ≤ z ∧ z ≤ c) : Bd_ (upA g 0 z) 1 c := fun j h1 h2 => by
  have e : j = 0 := by omega
  rw [e, upA_same]
  exact ⟨by omega, by omega⟩
theorem Far_up {g : Int → Int} {i z : Int} (h : Far_ g) (hz : 0 ≤ z ∧ z ≤ 801) : Far_ (upA g i z) := fun j => by
  unfold upA
  split
  · exact hz
  · exact h j

set_option maxHeartbeats 4000000 in
set_option maxRecDepth 100000 in
theorem c_X10_farBetween (l : Launch) (D : va_G) (cy : Nat → ClassId) (q : Nat → Nat) (n_0 : Nat → Int) (f_0 : Nat → Int → Int) (v_w v_v : Int) (r_v_w : inR v_w) (r_v_v : inR v_v) (hp0 : 0 ≤ v_w ∧ v_w < 32) (hp1 : 0 ≤ v_v ∧ v_v < 32) (hp2 : Far_ (f_0 61)) (hp3 : 0 ≤ (f_0 31 v_w) ∧ (f_0 31 v_w) ≤ 400) (hp4 : 0 ≤ (f_0 31 v_v) ∧ (f_0 31 v_v) ≤ 400) : MC l D cy q yX10_farBetween cX10_farBetween 6 (some .int) 1 [.int (J v_w), .int (J v_v)] n_0 f_0 (PI (fun (z_0 : Int) (n_2 : Nat → Int) (f_2 : Nat → Int → Int) => ∃ (y61_2 : Int → Int) (y59_2 : Int → Int) (y60_2 : Int → Int) , n_2 = n_0 ∧ f_2 = upF (upF (upF f_0 59 y59_2) 60 y60_2) 61 y61_2 ∧ (Far_ (y61_2) ∧ 0 ≤ z_0 ∧ z_0 ≤ 800))) := by
  refine MC.ofi rfl (Nat.le_of_ble_eq_true rfl) ?_
  intro p e s m below meth c ls ar QW A0 H0 H locs E hK hA hw hl hret
  have hl : lv_has ls 6 [(0, .ref (q 0)), (1, .int (J v_w)), (2, .int (J v_v))] := hl
  refine j_aload_n E 1 rfl dX10_farBetween_0 rfl (lv_at hl 0 rfl) ?_
  refine m_ag_61 E hK hw 4 rfl dX10_farBetween_1 ?_
  refine j_bipush E 6 rfl dX10_farBetween_4 (by decide) ?_
  refine j_iload_n E 7 rfl dX10_farBetween_6 rfl (lv_at hl 1 rfl) ?_
  refine j_imul E 8 rfl dX10_farBetween_7 ?_
  refine j_iload_n E 9 rfl dX10_farBetween_8 rfl (lv_at hl 2 rfl) ?_
  refine j_iadd E 10 rfl dX10_farBetween_9 ?_
  refine m_ld_61 E hK hw (f_0 61 ((32 * v_w) + v_v)) rfl (by omega) 11 rfl dX10_farBetween_10 (fun rr1_ => ?_)
  have hf_ := hp2 ((32 * v_w) + v_v)
  refine j_if_le E 14 28 rfl rr1_ dX10_farBetween_11 (by decide) (fun cc2_ => ?_) (fun cc2_ => ?_)
  · refine j_iconst E 29 rfl dX10_farBetween_28 ?_
    refine j_istore_n E 30 rfl [(3, .int (J 0)), (0, .ref (q 0)), (1, .int (J v_w)), (2, .int (J v_v))] dX10_farBetween_29 rfl hl (by decide) rfl (fun ls hl => ?_)
    have L30_3 : ∀ (k30 : Nat) (gj : Int) (y59_c30 : Int → Int) (H : Heap) (locs : List Loc) (ls : Array Slot), inR gj → (0 ≤ gj ∧ gj ≤ (f_0 31 v_v) + 1 ∧ Bd_ (y59_c30) gj 0) → ((f_0 31 v_v) + 1 - gj) < (k30 : Int) → WM D cy q (n_0) (upF f_0 59 y59_c30) A0 H0 H locs → lv_has ls 6 [(0, .ref (q 0)), (1, .int (J v_w)), (2, .int (J v_v)), (3, .int (J gj))] → W p l e (rmd 1 0 0) s m ar below meth c H locs 0 0 QW (F0 m 30 ls []) := by
      intro k30
      induction k30 with
      | zero =>
        intro gj y59_c30 H locs ls r_gj iv30 ms30 hw hl
        exfalso; omega
      | succ k30 ih30 =>
        intro gj y59_c30 H locs ls r_gj iv30 ms30 hw hl
        refine j_iload_n E 31 rfl dX10_farBetween_30 rfl (lv_at hl 3 rfl) ?_
        refine j_aload_n E 32 rfl dX10_farBetween_31 rfl (lv_at hl 0 rfl) ?_
        refine m_ag_31 E hK hw 35 rfl dX10_farBetween_32 ?_
        refine j_iload_n E 36 rfl dX10_farBetween_35 rfl (lv_at hl 2 rfl) ?_
        refine m_ld_31 E hK hw (f_0 31 v_v) rfl (by omega) 37 rfl dX10_farBetween_36 (fun rr5_ => ?_)
        refine j_icmp_gt E 40 53 rfl r_gj rr5_ dX10_farBetween_37 (by decide) (fun cc6_ => ?_) (fun cc6_ => ?_)
        · refine j_iconst E 54 rfl dX10_farBetween_53 ?_
          refine j_istore_n E 55 rfl [(3, .int (J 1)), (0, .ref (q 0)), (1, .int (J v_w)), (2, .int (J v_v))] dX10_farBetween_54 rfl hl (by decide) rfl (fun ls hl => ?_)
          have L55_7 : ∀ (k55 : Nat) (gi : Int) (y59_c55 : Int → Int) (y60_c55 : Int → Int) (H : Heap) (locs : List Loc) (ls : Array Slot), inR gi → (1 ≤ gi ∧ gi ≤ (f_0 31 v_w) + 1 ∧ Bd_ (y59_c55) ((f_0 31 v_v) + 1) (gi - 1)) → ((f_0 31 v_w) + 1 - gi) < (k55 : Int) → WM D cy q (n_0) (upF (upF f_0 59 y59_c55) 60 y60_c55) A0 H0 H locs → lv_has ls 6 [(0, .ref (q 0)), (1, .int (J v_w)), (2, .int (J v_v)), (3, .int (J gi))] → W p l e (rmd 1 0 0) s m ar below meth c H locs 0 0 QW (F0 m 55 ls []) := by
            intro k55
            induction k55 with
            | zero =>
              intro gi y59_c55 y60_c55 H locs ls r_gi iv55 ms55 hw hl
              exfalso; omega
            | succ k55 ih55 =>
              intro gi y59_c55 y60_c55 H locs ls r_gi iv55 ms55 hw hl
              refine j_iload_n E 56 rfl dX10_farBetween_55 rfl (lv_at hl 3 rfl) ?_
              refine j_aload_n E 57 rfl dX10_farBetween_56 rfl (lv_at hl 0 rfl) ?_
              refine m_ag_31 E hK hw 60 rfl dX10_farBetween_57 ?_
              refine j_iload_n E 61 rfl dX10_farBetween_60 rfl (lv_at hl 1 rfl) ?_
              refine m_ld_31 E hK hw (f_0 31 v_w) rfl (by omega) 62 rfl dX10_farBetween_61 (fun rr9_ => ?_)
              refine j_icmp_gt E 65 216 rfl r_gi rr9_ dX10_farBetween_62 (by decide) (fun cc10_ => ?_) (fun cc10_ => ?_)
              · refine j_aload_n E 217 rfl dX10_farBetween_216 rfl (lv_at hl 0 rfl) ?_
                refine m_ag_61 E hK hw 220 rfl dX10_farBetween_217 ?_
                refine j_bipush E 222 rfl dX10_farBetween_220 (by decide) ?_
                refine j_iload_n E 223 rfl dX10_farBetween_222 rfl (lv_at hl 1 rfl) ?_
                refine j_imul E 224 rfl dX10_farBetween_223 ?_
                refine j_iload_n E 225 rfl dX10_farBetween_224 rfl (lv_at hl 2 rfl) ?_
                refine j_iadd E 226 rfl dX10_farBetween_225 ?_
                refine j_aload_n E 227 rfl dX10_farBetween_226 rfl (lv_at hl 0 rfl) ?_
                refine m_ag_59 E hK hw 230 rfl dX10_farBetween_227 ?_
                refine j_aload_n E 231 rfl dX10_farBetween_230 rfl (lv_at hl 0 rfl) ?_
                refine m_ag_31 E hK hw 234 rfl dX10_farBetween_231 ?_
                refine j_iload_n E 235 rfl dX10_farBetween_234 rfl (lv_at hl 2 rfl) ?_
                refine m_ld_31 E hK hw (f_0 31 v_v) rfl (by omega) 236 rfl dX10_farBetween_235 (fun _ => ?_)
                refine m_ld_59 E hK hw (y59_c55 (f_0 31 v_v)) rfl (by omega) 237 rfl dX10_farBetween_236 (fun rr11_ => ?_)
                have hg_ := iv55.2.2 (f_0 31 v_v) (by omega) (by omega)
                refine j_iconst E 238 rfl dX10_farBetween_237 ?_
                refine j_iadd E 239 rfl dX10_farBetween_238 ?_
                refine m_st_61 E hK hw (by omega) (rr (by omega)) 240 rfl dX10_farBetween_239 (fun H locs hw => ?_)
                have hw : WM D cy q (n_0) (upF (upF (upF f_0 59 y59_c55) 60 y60_c55) 61 (upA (f_0 61) ((32 * v_w) + v_v) ((y59_c55 (f_0 31 v_v)) + 1))) A0 H0 H locs := hw
                refine j_aload_n E 241 rfl dX10_farBetween_240 rfl (lv_at hl 0 rfl) ?_
                refine m_ag_61 E hK hw 244 rfl dX10_farBetween_241 ?_
                refine j_bipush E 246 rfl dX10_farBetween_244 (by decide) ?_
                refine j_iload_n E 247 rfl dX10_farBetween_246 rfl (lv_at hl 2 rfl) ?_
                refine j_imul E 248 rfl dX10_farBetween_247 ?_
                refine j_iload_n E 249 rfl dX10_farBetween_248 rfl (lv_at hl 1 rfl) ?_
                refine j_iadd E 250 rfl dX10_farBetween_249 ?_
                refine j_aload_n E 251 rfl dX10_farBetween_250 rfl (lv_at hl 0 rfl) ?_
                refine m_ag_59 E hK hw 254 rfl dX10_farBetween_251 ?_
                refine j_aload_n E 255 rfl dX10_farBetween_254 rfl (lv_at hl 0 rfl) ?_
                refine m_ag_31 E hK hw 258 rfl dX10_farBetween_255 ?_
                refine j_iload_n E 259 rfl dX10_farBetween_258 rfl (lv_at hl 2 rfl) ?_
                refine m_ld_31 E hK hw (f_0 31 v_v) rfl (by omega) 260 rfl dX10_farBetween_259 (fun _ => ?_)
                refine m_ld_59 E hK hw (y59_c55 (f_0 31 v_v)) rfl (by omega) 261 rfl dX10_farBetween_260 (fun _ => ?_)
                have hg_ := iv55.2.2 (f_0 31 v_v) (by omega) (by omega)
                refine j_iconst E 262 rfl dX10_farBetween_261 ?_
                refine j_iadd E 263 rfl dX10_farBetween_262 ?_
                refine m_st_61 E hK hw (by omega) (rr (by omega)) 264 rfl dX10_farBetween_263 (fun H locs hw => ?_)
                have hw : WM D cy q (n_0) (upF (upF (upF f_0 59 y59_c55) 60 y60_c55) 61 (upA (upA (f_0 61) ((32 * v_w) + v_v) ((y59_c55 (f_0 31 v_v)) + 1)) ((32 * v_v) + v_w) ((y59_c55 (f_0 31 v_v)) + 1))) A0 H0 H locs := hw
                refine j_aload_n E 265 rfl dX10_farBetween_264 rfl (lv_at hl 0 rfl) ?_
                refine m_ag_59 E hK hw 268 rfl dX10_farBetween_265 ?_
                refine j_aload_n E 269 rfl dX10_farBetween_268 rfl (lv_at hl 0 rfl) ?_
                refine m_ag_31 E hK hw 272 rfl dX10_farBetween_269 ?_
                refine j_iload_n E 273 rfl dX10_farBetween_272 rfl (lv_at hl 2 rfl) ?_
                refine m_ld_31 E hK hw (f_0 31 v_v) rfl (by omega) 274 rfl dX10_farBetween_273 (fun _ => ?_)
                refine m_ld_59 E hK hw (y59_c55 (f_0 31 v_v)) rfl (by omega) 275 rfl dX10_farBetween_274 (fun _ => ?_)
                have hg_ := iv55.2.2 (f_0 31 v_v) (by omega) (by omega)
                exact hret 275 (y59_c55 (f_0 31 v_v)) (n_0) (upF (upF (upF f_0 59 y59_c55) 60 y60_c55) 61 (upA (upA (f_0 61) ((32 * v_w) + v_v) ((y59_c55 (f_0 31 v_v)) + 1)) ((32 * v_v) + v_w) ((y59_c55 (f_0 31 v_v)) + 1))) _ _ ls hw rr11_ ⟨(upA (upA (f_0 61) ((32 * v_w) + v_v) ((y59_c55 (f_0 31 v_v)) + 1)) ((32 * v_v) + v_w) ((y59_c55 (f_0 31 v_v)) + 1)), y59_c55, y60_c55, rfl, rfl, ⟨Far_up (Far_up hp2 (by omega)) (by omega), by omega, by omega⟩⟩ dX10_farBetween_275
              · refine j_aload_n E 66 rfl dX10_farBetween_65 rfl (lv_at hl 0 rfl) ?_
                refine m_ag_60 E hK hw 69 rfl dX10_farBetween_66 ?_
                refine j_iconst E 70 rfl dX10_farBetween_69 ?_
                refine j_iload_n E 71 rfl dX10_farBetween_70 rfl (lv_at hl 3 rfl) ?_
                refine m_st_60 E hK hw (by omega) r_gi 72 rfl dX10_farBetween_71 (fun H locs hw => ?_)
                have hw : WM D cy q (n_0) (upF (upF f_0 59 y59_c55) 60 (upA (y60_c55) 0 gi)) A0 H0 H locs := hw
                refine j_iconst E 73 rfl dX10_farBetween_72 ?_
                refine j_istore E 75 rfl [(4, .int (J 1)), (0, .ref (q 0)), (1, .int (J v_w)), (2, .int (J v_v)), (3, .int (J gi))] dX10_farBetween_73 hl (by decide) rfl (fun ls hl => ?_)
                have L75_15 : ∀ (k75 : Nat) (gk : Int) (y60_c75 : Int → Int) (H : Heap) (locs : List Loc) (ls : Array Slot), inR gk → (1 ≤ gk ∧ gk ≤ (f_0 31 v_v) + 1 ∧ Bd_ (y60_c75) gk gi) → ((f_0 31 v_v) + 1 - gk) < (k75 : Int) → WM D cy q (n_0) (upF (upF f_0 59 y59_c55) 60 y60_c75) A0 H0 H locs → lv_has ls 6 [(0, .ref (q 0)), (1, .int (J v_w)), (2, .int (J v_v)), (3, .int (J gi)), (4, .int (J gk))] → W p l e (rmd 1 0 0) s m ar below meth c H locs 0 0 QW (F0 m 75 ls []) := by
                  intro k75
                  induction k75 with
                  | zero =>
                    intro gk y60_c75 H locs ls r_gk iv75 ms75 hw hl
                    exfalso; omega
                  | succ k75 ih75 =>
                    intro gk y60_c75 H locs ls r_gk iv75 ms75 hw hl
                    refine j_iload E 77 rfl dX10_farBetween_75 (lv_at hl 4 rfl) ?_
                    refine j_aload_n E 78 rfl dX10_farBetween_77 rfl (lv_at hl 0 rfl) ?_
                    refine m_ag_31 E hK hw 81 rfl dX10_farBetween_78 ?_
                    refine j_iload_n E 82 rfl dX10_farBetween_81 rfl (lv_at hl 2 rfl) ?_
                    refine m_ld_31 E hK hw (f_0 31 v_v) rfl (by omega) 83 rfl dX10_farBetween_82 (fun _ => ?_)
                    refine j_icmp_gt E 86 176 rfl r_gk rr5_ dX10_farBetween_83 (by decide) (fun cc17_ => ?_) (fun cc17_ => ?_)
                    · refine j_iconst E 177 rfl dX10_farBetween_176 ?_
                      refine j_istore E 179 rfl [(4, .int (J 0)), (0, .ref (q 0)), (1, .int (J v_w)), (2, .int (J v_v)), (3, .int (J gi))] dX10_farBetween_177 hl (by decide) rfl (fun ls hl => ?_)
                      have L179_18 : ∀ (k179 : Nat) (gm : Int) (y59_c179 : Int → Int) (H : Heap) (locs : List Loc) (ls : Array Slot), inR gm → (0 ≤ gm ∧ gm ≤ (f_0 31 v_v) + 1 ∧ Bd_ (y59_c179) gm gi) → ((f_0 31 v_v) + 1 - gm) < (k179 : Int) → WM D cy q (n_0) (upF (upF f_0 59 y59_c179) 60 y60_c75) A0 H0 H locs → lv_has ls 6 [(0, .ref (q 0)), (1, .int (J v_w)), (2, .int (J v_v)), (3, .int (J gi)), (4, .int (J gm))] → W p l e (rmd 1 0 0) s m ar below meth c H locs 0 0 QW (F0 m 179 ls []) := by
                        intro k179
                        induction k179 with
                        | zero =>
                          intro gm y59_c179 H locs ls r_gm iv179 ms179 hw hl
                          exfalso; omega
                        | succ k179 ih179 =>
                          intro gm y59_c179 H locs ls r_gm iv179 ms179 hw hl
                          refine j_iload E 181 rfl dX10_farBetween_179 (lv_at hl 4 rfl) ?_
                          refine j_aload_n E 182 rfl dX10_farBetween_181 rfl (lv_at hl 0 rfl) ?_
                          refine m_ag_31 E hK hw 185 rfl dX10_farBetween_182 ?_
                          refine j_iload_n E 186 rfl dX10_farBetween_185 rfl (lv_at hl 2 rfl) ?_
                          refine m_ld_31 E hK hw (f_0 31 v_v) rfl (by omega) 187 rfl dX10_farBetween_186 (fun _ => ?_)
                          refine j_icmp_gt E 190 210 rfl r_gm rr5_ dX10_farBetween_187 (by decide) (fun cc20_ => ?_) (fun cc20_ => ?_)
                          · refine j_iinc E 213 rfl [(3, .int (J (gi + 1))), (0, .ref (q 0)), (1, .int (J v_w)), (2, .int (J v_v)), (4, .int (J gm))] dX10_farBetween_210 hl (kk := 3) rfl (by decide) rfl (fun ls hl => ?_)
                            refine j_goto E 55 dX10_farBetween_213 (by decide) ?_
                            exact ih55 (gi + 1) y59_c179 y60_c75 H locs ls (rr (by omega)) (⟨by omega, by omega, Bd_to iv179.2.2 (by omega) (by omega)⟩) (by omega) hw (lv_sub hl [1, 2, 3, 0] rfl)
                          · refine j_aload_n E 191 rfl dX10_farBetween_190 rfl (lv_at hl 0 rfl) ?_
                            refine m_ag_59 E hK hw 194 rfl dX10_farBetween_191 ?_
                            refine j_iload E 196 rfl dX10_farBetween_194 (lv_at hl 4 rfl) ?_
                            refine j_aload_n E 197 rfl dX10_farBetween_196 rfl (lv_at hl 0 rfl) ?_
                            refine m_ag_60 E hK hw 200 rfl dX10_farBetween_197 ?_
                            refine j_iload E 202 rfl dX10_farBetween_200 (lv_at hl 4 rfl) ?_
                            refine m_ld_60 E hK hw (y60_c75 gm) rfl (by omega) 203 rfl dX10_farBetween_202 (fun rr21_ => ?_)
                            have hd_ := iv75.2.2 gm (by omega) (by omega)
                            refine m_st_59 E hK hw (by omega) rr21_ 204 rfl dX10_farBetween_203 (fun H locs hw => ?_)
                            have hw : WM D cy q (n_0) (upF (upF f_0 59 (upA (y59_c179) gm (y60_c75 gm))) 60 y60_c75) A0 H0 H locs := hw
                            refine j_iinc E 207 rfl [(4, .int (J (gm + 1))), (0, .ref (q 0)), (1, .int (J v_w)), (2, .int (J v_v)), (3, .int (J gi))] dX10_farBetween_204 hl (kk := 4) rfl (by decide) rfl (fun ls hl => ?_)
                            refine j_goto E 179 dX10_farBetween_207 (by decide) ?_
                            exact ih179 (gm + 1) (upA (y59_c179) gm (y60_c75 gm)) H locs ls (rr (by omega)) (⟨by omega, by omega, Bd_step iv179.2.2 (by omega)⟩) (by omega) hw (lv_sub hl [1, 2, 3, 4, 0] rfl)
                      exact L179_18 _ 0 y59_c55 H locs ls (rr (by decide)) (⟨by omega, by omega, fun j h1 h2 => absurd h2 (by omega)⟩) (mk_lt _) hw (lv_sub hl [1, 2, 3, 4, 0] rfl)
                    · refine j_aload_n E 87 rfl dX10_farBetween_86 rfl (lv_at hl 0 rfl) ?_
                      refine m_ag_30 E hK hw 90 rfl dX10_farBetween_87 ?_
                      refine j_sipush E 93 rfl dX10_farBetween_90 (by decide) ?_
                      refine j_iload_n E 94 rfl dX10_farBetween_93 rfl (lv_at hl 1 rfl) ?_
                      refine j_imul E 95 rfl dX10_farBetween_94 ?_
                      refine j_iload_n E 96 rfl dX10_farBetween_95 rfl (lv_at hl 3 rfl) ?_
                      refine j_iadd E 97 rfl dX10_farBetween_96 ?_
                      refine j_iconst E 98 rfl dX10_farBetween_97 ?_
                      refine j_isub E 99 rfl dX10_farBetween_98 ?_
                      refine m_ld_30 E hK hw (f_0 30 (((400 * v_w) + gi) - 1)) rfl (by omega) 100 rfl dX10_farBetween_99 (fun rr23_ => ?_)
                      refine j_aload_n E 101 rfl dX10_farBetween_100 rfl (lv_at hl 0 rfl) ?_
                      refine m_ag_30 E hK hw 104 rfl dX10_farBetween_101 ?_
                      refine j_sipush E 107 rfl dX10_farBetween_104 (by decide) ?_
                      refine j_iload_n E 108 rfl dX10_farBetween_107 rfl (lv_at hl 2 rfl) ?_
                      refine j_imul E 109 rfl dX10_farBetween_108 ?_
                      refine j_iload E 111 rfl dX10_farBetween_109 (lv_at hl 4 rfl) ?_
                      refine j_iadd E 112 rfl dX10_farBetween_111 ?_
                      refine j_iconst E 113 rfl dX10_farBetween_112 ?_
                      refine j_isub E 114 rfl dX10_farBetween_113 ?_
                      refine m_ld_30 E hK hw (f_0 30 (((400 * v_v) + gk) - 1)) rfl (by omega) 115 rfl dX10_farBetween_114 (fun rr24_ => ?_)
                      refine j_icmp_ne E 118 122 rfl rr23_ rr24_ dX10_farBetween_115 (by decide) (fun cc25_ => ?_) (fun cc25_ => ?_)
                      · refine j_iconst E 123 rfl dX10_farBetween_122 ?_
                        refine j_istore E 125 rfl [(5, .int (J 1)), (0, .ref (q 0)), (1, .int (J v_w)), (2, .int (J v_v)), (3, .int (J gi)), (4, .int (J gk))] dX10_farBetween_123 hl (by decide) rfl (fun ls hl => ?_)
                        refine j_aload_n E 126 rfl dX10_farBetween_125 rfl (lv_at hl 1 rfl) ?_
                        refine m_ag_60 E hK hw 129 rfl dX10_farBetween_126 ?_
                        refine j_iload E 131 rfl dX10_farBetween_129 (lv_at hl 5 rfl) ?_
                        refine j_aload_n E 132 rfl dX10_farBetween_131 rfl (lv_at hl 1 rfl) ?_
                        refine j_aload_n E 133 rfl dX10_farBetween_132 rfl (lv_at hl 1 rfl) ?_
                        refine m_ag_59 E hK hw 136 rfl dX10_farBetween_133 ?_
                        refine j_iload E 138 rfl dX10_farBetween_136 (lv_at hl 5 rfl) ?_
                        refine j_iconst E 139 rfl dX10_farBetween_138 ?_
                        refine j_isub E 140 rfl dX10_farBetween_139 ?_
                        refine m_ld_59 E hK hw (y59_c55 (gk - 1)) rfl (by omega) 141 rfl dX10_farBetween_140 (fun rr26_ => ?_)
                        have ha_ := iv55.2.2 (gk - 1) (by omega) (by omega)
                        refine j_iload E 143 rfl dX10_farBetween_141 (lv_at hl 0 rfl) ?_
                        refine j_iadd E 144 rfl dX10_farBetween_143 ?_
                        refine j_aload_n E 145 rfl dX10_farBetween_144 rfl (lv_at hl 1 rfl) ?_
                        refine j_aload_n E 146 rfl dX10_farBetween_145 rfl (lv_at hl 1 rfl) ?_
                        refine m_ag_59 E hK hw 149 rfl dX10_farBetween_146 ?_
                        refine j_iload E 151 rfl dX10_farBetween_149 (lv_at hl 5 rfl) ?_
                        refine m_ld_59 E hK hw (y59_c55 gk) rfl (by omega) 152 rfl dX10_farBetween_151 (fun rr27_ => ?_)
                        have hb_ := iv55.2.2 gk (by omega) (by omega)
                        refine j_aload_n E 153 rfl dX10_farBetween_152 rfl (lv_at hl 1 rfl) ?_
                        refine m_ag_60 E hK hw 156 rfl dX10_farBetween_153 ?_
                        refine j_iload E 158 rfl dX10_farBetween_156 (lv_at hl 5 rfl) ?_
                        refine j_iconst E 159 rfl dX10_farBetween_158 ?_
                        refine j_isub E 160 rfl dX10_farBetween_159 ?_
                        refine m_ld_60 E hK hw (y60_c75 (gk - 1)) rfl (by omega) 161 rfl dX10_farBetween_160 (fun rr28_ => ?_)
                        have hc_ := iv75.2.2 (gk - 1) (by omega) (by omega)
                        refine m_callp (po := fun z_0 => (z_0 = (y59_c55 gk) ∧ (y59_c55 gk) ≤ (y60_c75 (gk - 1))) ∨ (z_0 = (y60_c75 (gk - 1)) ∧ (y60_c75 (gk - 1)) ≤ (y59_c55 gk))) E (c_X10_least l D cy q (n_0) (upF (upF f_0 59 y59_c55) 60 y60_c75) (y59_c55 gk) (y60_c75 (gk - 1))  rr27_ rr28_ ) rfl mt_X10_least ml_X10_367 hK hw hA ⟨Nat.le_of_ble_eq_true rfl, Nat.le_of_ble_eq_true rfl⟩ (As := [.int (J (y59_c55 gk)), .int (J (y60_c75 (gk - 1)))]) (rest := [.int (J ((y59_c55 (gk - 1)) + 1)), .ref (q 0), .int (J gk), .ref (q 60)]) rfl rfl hl.1 (Nat.le_of_ble_eq_true rfl) 164 rfl dX10_farBetween_161 (fun zz29_ H locs rr29_ hq29_ hw => ?_)
                        have hh29_ : (zz29_ = (y59_c55 gk) ∧ (y59_c55 gk) ≤ (y60_c75 (gk - 1))) ∨ (zz29_ = (y60_c75 (gk - 1)) ∧ (y60_c75 (gk - 1)) ≤ (y59_c55 gk)) := hq29_
                        clear hq29_
                        refine j_iconst E 165 rfl dX10_farBetween_164 ?_
                        refine j_iadd E 166 rfl dX10_farBetween_165 ?_
                        refine m_callp (po := fun z_0 => (z_0 = ((y59_c55 (gk - 1)) + 1) ∧ ((y59_c55 (gk - 1)) + 1) ≤ (zz29_ + 1)) ∨ (z_0 = (zz29_ + 1) ∧ (zz29_ + 1) ≤ ((y59_c55 (gk - 1)) + 1))) E (c_X10_least l D cy q (n_0) (upF (upF f_0 59 y59_c55) 60 y60_c75) ((y59_c55 (gk - 1)) + 1) (zz29_ + 1)  (rr (by omega)) (rr (by omega)) ) rfl mt_X10_least ml_X10_367 hK hw hA ⟨Nat.le_of_ble_eq_true rfl, Nat.le_of_ble_eq_true rfl⟩ (As := [.int (J ((y59_c55 (gk - 1)) + 1)), .int (J (zz29_ + 1))]) (rest := [.int (J gk), .ref (q 60)]) rfl rfl hl.1 (Nat.le_of_ble_eq_true rfl) 169 rfl dX10_farBetween_166 (fun zz30_ H locs rr30_ hq30_ hw => ?_)
                        have hh30_ : (zz30_ = ((y59_c55 (gk - 1)) + 1) ∧ ((y59_c55 (gk - 1)) + 1) ≤ (zz29_ + 1)) ∨ (zz30_ = (zz29_ + 1) ∧ (zz29_ + 1) ≤ ((y59_c55 (gk - 1)) + 1)) := hq30_
                        clear hq30_
                        refine m_st_60 E hK hw (by omega) rr30_ 170 rfl dX10_farBetween_169 (fun H locs hw => ?_)
                        have hw : WM D cy q (n_0) (upF (upF f_0 59 y59_c55) 60 (upA (y60_c75) gk zz30_)) A0 H0 H locs := hw
                        refine j_iinc E 173 rfl [(4, .int (J (gk + 1))), (5, .int (J 1)), (0, .ref (q 0)), (1, .int (J v_w)), (2, .int (J v_v)), (3, .int (J gi))] dX10_farBetween_170 hl (kk := 5) rfl (by decide) rfl (fun ls hl => ?_)
                        refine j_goto E 75 dX10_farBetween_173 (by decide) ?_
                        exact ih75 (gk + 1) (upA (y60_c75) gk zz30_) H locs ls (rr (by omega)) (⟨by omega, by omega, Bd_step iv75.2.2 (by omega)⟩) (by omega) hw (lv_sub hl [2, 3, 4, 5, 0] rfl)
                      · refine j_iconst E 119 rfl dX10_farBetween_118 ?_
                        refine j_goto E 123 dX10_farBetween_119 (by decide) ?_
                        refine j_istore E 125 rfl [(5, .int (J 0)), (0, .ref (q 0)), (1, .int (J v_w)), (2, .int (J v_v)), (3, .int (J gi)), (4, .int (J gk))] dX10_farBetween_123 hl (by decide) rfl (fun ls hl => ?_)
                        refine j_aload_n E 126 rfl dX10_farBetween_125 rfl (lv_at hl 1 rfl) ?_
                        refine m_ag_60 E hK hw 129 rfl dX10_farBetween_126 ?_
                        refine j_iload E 131 rfl dX10_farBetween_129 (lv_at hl 5 rfl) ?_
                        refine j_aload_n E 132 rfl dX10_farBetween_131 rfl (lv_at hl 1 rfl) ?_
                        refine j_aload_n E 133 rfl dX10_farBetween_132 rfl (lv_at hl 1 rfl) ?_
                        refine m_ag_59 E hK hw 136 rfl dX10_farBetween_133 ?_
                        refine j_iload E 138 rfl dX10_farBetween_136 (lv_at hl 5 rfl) ?_
                        refine j_iconst E 139 rfl dX10_farBetween_138 ?_
                        refine j_isub E 140 rfl dX10_farBetween_139 ?_
                        refine m_ld_59 E hK hw (y59_c55 (gk - 1)) rfl (by omega) 141 rfl dX10_farBetween_140 (fun rr32_ => ?_)
                        have ha_ := iv55.2.2 (gk - 1) (by omega) (by omega)
                        refine j_iload E 143 rfl dX10_farBetween_141 (lv_at hl 0 rfl) ?_
                        refine j_iadd E 144 rfl dX10_farBetween_143 ?_
                        refine j_aload_n E 145 rfl dX10_farBetween_144 rfl (lv_at hl 1 rfl) ?_
                        refine j_aload_n E 146 rfl dX10_farBetween_145 rfl (lv_at hl 1 rfl) ?_
                        refine m_ag_59 E hK hw 149 rfl dX10_farBetween_146 ?_
                        refine j_iload E 151 rfl dX10_farBetween_149 (lv_at hl 5 rfl) ?_
                        refine m_ld_59 E hK hw (y59_c55 gk) rfl (by omega) 152 rfl dX10_farBetween_151 (fun rr33_ => ?_)
                        have hb_ := iv55.2.2 gk (by omega) (by omega)
                        refine j_aload_n E 153 rfl dX10_farBetween_152 rfl (lv_at hl 1 rfl) ?_
                        refine m_ag_60 E hK hw 156 rfl dX10_farBetween_153 ?_
                        refine j_iload E 158 rfl dX10_farBetween_156 (lv_at hl 5 rfl) ?_
                        refine j_iconst E 159 rfl dX10_farBetween_158 ?_
                        refine j_isub E 160 rfl dX10_farBetween_159 ?_
                        refine m_ld_60 E hK hw (y60_c75 (gk - 1)) rfl (by omega) 161 rfl dX10_farBetween_160 (fun rr34_ => ?_)
                        have hc_ := iv75.2.2 (gk - 1) (by omega) (by omega)
                        refine m_callp (po := fun z_0 => (z_0 = (y59_c55 gk) ∧ (y59_c55 gk) ≤ (y60_c75 (gk - 1))) ∨ (z_0 = (y60_c75 (gk - 1)) ∧ (y60_c75 (gk - 1)) ≤ (y59_c55 gk))) E (c_X10_least l D cy q (n_0) (upF (upF f_0 59 y59_c55) 60 y60_c75) (y59_c55 gk) (y60_c75 (gk - 1))  rr33_ rr34_ ) rfl mt_X10_least ml_X10_367 hK hw hA ⟨Nat.le_of_ble_eq_true rfl, Nat.le_of_ble_eq_true rfl⟩ (As := [.int (J (y59_c55 gk)), .int (J (y60_c75 (gk - 1)))]) (rest := [.int (J ((y59_c55 (gk - 1)) + 0)), .ref (q 0), .int (J gk), .ref (q 60)]) rfl rfl hl.1 (Nat.le_of_ble_eq_true rfl) 164 rfl dX10_farBetween_161 (fun zz35_ H locs rr35_ hq35_ hw => ?_)
                        have hh35_ : (zz35_ = (y59_c55 gk) ∧ (y59_c55 gk) ≤ (y60_c75 (gk - 1))) ∨ (zz35_ = (y60_c75 (gk - 1)) ∧ (y60_c75 (gk - 1)) ≤ (y59_c55 gk)) := hq35_
                        clear hq35_
                        refine j_iconst E 165 rfl dX10_farBetween_164 ?_
                        refine j_iadd E 166 rfl dX10_farBetween_165 ?_
                        refine m_callp (po := fun z_0 => (z_0 = ((y59_c55 (gk - 1)) + 0) ∧ ((y59_c55 (gk - 1)) + 0) ≤ (zz35_ + 1)) ∨ (z_0 = (zz35_ + 1) ∧ (zz35_ + 1) ≤ ((y59_c55 (gk - 1)) + 0))) E (c_X10_least l D cy q (n_0) (upF (upF f_0 59 y59_c55) 60 y60_c75) ((y59_c55 (gk - 1)) + 0) (zz35_ + 1)  (rr (by omega)) (rr (by omega)) ) rfl mt_X10_least ml_X10_367 hK hw hA ⟨Nat.le_of_ble_eq_true rfl, Nat.le_of_ble_eq_true rfl⟩ (As := [.int (J ((y59_c55 (gk - 1)) + 0)), .int (J (zz35_ + 1))]) (rest := [.int (J gk), .ref (q 60)]) rfl rfl hl.1 (Nat.le_of_ble_eq_true rfl) 169 rfl dX10_farBetween_166 (fun zz36_ H locs rr36_ hq36_ hw => ?_)
                        have hh36_ : (zz36_ = ((y59_c55 (gk - 1)) + 0) ∧ ((y59_c55 (gk - 1)) + 0) ≤ (zz35_ + 1)) ∨ (zz36_ = (zz35_ + 1) ∧ (zz35_ + 1) ≤ ((y59_c55 (gk - 1)) + 0)) := hq36_
                        clear hq36_
                        refine m_st_60 E hK hw (by omega) rr36_ 170 rfl dX10_farBetween_169 (fun H locs hw => ?_)
                        have hw : WM D cy q (n_0) (upF (upF f_0 59 y59_c55) 60 (upA (y60_c75) gk zz36_)) A0 H0 H locs := hw
                        refine j_iinc E 173 rfl [(4, .int (J (gk + 1))), (5, .int (J 0)), (0, .ref (q 0)), (1, .int (J v_w)), (2, .int (J v_v)), (3, .int (J gi))] dX10_farBetween_170 hl (kk := 5) rfl (by decide) rfl (fun ls hl => ?_)
                        refine j_goto E 75 dX10_farBetween_173 (by decide) ?_
                        exact ih75 (gk + 1) (upA (y60_c75) gk zz36_) H locs ls (rr (by omega)) (⟨by omega, by omega, Bd_step iv75.2.2 (by omega)⟩) (by omega) hw (lv_sub hl [2, 3, 4, 5, 0] rfl)
                exact L75_15 _ 1 (upA (y60_c55) 0 gi) H locs ls (rr (by decide)) (⟨by omega, by omega, Bd_one (by omega)⟩) (mk_lt _) hw (lv_sub hl [1, 2, 3, 4, 0] rfl)
          exact L55_7 _ 1 y59_c30 (f_0 60) H locs ls (rr (by decide)) (⟨by omega, by omega, Bd_to iv30.2.2 (by omega) (by omega)⟩) (mk_lt _) hw (lv_sub hl [1, 2, 3, 0] rfl)
        · refine j_aload_n E 41 rfl dX10_farBetween_40 rfl (lv_at hl 0 rfl) ?_
          refine m_ag_59 E hK hw 44 rfl dX10_farBetween_41 ?_
          refine j_iload_n E 45 rfl dX10_farBetween_44 rfl (lv_at hl 3 rfl) ?_
          refine j_iload_n E 46 rfl dX10_farBetween_45 rfl (lv_at hl 3 rfl) ?_
          refine m_st_59 E hK hw (by omega) r_gj 47 rfl dX10_farBetween_46 (fun H locs hw => ?_)
          have hw : WM D cy q (n_0) (upF f_0 59 (upA (y59_c30) gj gj)) A0 H0 H locs := hw
          refine j_iinc E 50 rfl [(3, .int (J (gj + 1))), (0, .ref (q 0)), (1, .int (J v_w)), (2, .int (J v_v))] dX10_farBetween_47 hl (kk := 3) rfl (by decide) rfl (fun ls hl => ?_)
          refine j_goto E 30 dX10_farBetween_50 (by decide) ?_
          exact ih30 (gj + 1) (upA (y59_c30) gj gj) H locs ls (rr (by omega)) (⟨by omega, by omega, Bd_step iv30.2.2 (by omega)⟩) (by omega) hw (lv_sub hl [1, 2, 3, 0] rfl)
    exact L30_3 _ 0 (f_0 59) H locs ls (rr (by decide)) (⟨by omega, by omega, fun j h1 h2 => absurd h2 (by omega)⟩) (mk_lt _) hw (lv_sub hl [1, 2, 3, 0] rfl)
  · refine j_aload_n E 15 rfl dX10_farBetween_14 rfl (lv_at hl 0 rfl) ?_
    refine m_ag_61 E hK hw 18 rfl dX10_farBetween_15 ?_
    refine j_bipush E 20 rfl dX10_farBetween_18 (by decide) ?_
    refine j_iload_n E 21 rfl dX10_farBetween_20 rfl (lv_at hl 1 rfl) ?_
    refine j_imul E 22 rfl dX10_farBetween_21 ?_
    refine j_iload_n E 23 rfl dX10_farBetween_22 rfl (lv_at hl 2 rfl) ?_
    refine j_iadd E 24 rfl dX10_farBetween_23 ?_
    refine m_ld_61 E hK hw (f_0 61 ((32 * v_w) + v_v)) rfl (by omega) 25 rfl dX10_farBetween_24 (fun _ => ?_)
    refine j_iconst E 26 rfl dX10_farBetween_25 ?_
    refine j_isub E 27 rfl dX10_farBetween_26 ?_
    exact hret 27 ((f_0 61 ((32 * v_w) + v_v)) - 1) (n_0) (upF (upF (upF f_0 59 (f_0 59)) 60 (f_0 60)) 61 (f_0 61)) _ _ ls hw (rr (by omega)) ⟨(f_0 61), (f_0 59), (f_0 60), rfl, rfl, ⟨hp2, by omega, by omega⟩⟩ dX10_farBetween_27
set_option maxHeartbeats 4000000 in
set_option maxRecDepth 100000 in
theorem c_X10_far (l : Launch) (D : va_G) (cy : Nat → ClassId) (q : Nat → Nat) (n_0 : Nat → Int) (f_0 : Nat → Int → Int) (v_w v_v : Int) (r_v_w : inR v_w) (r_v_v : inR v_v) (hp0 : MI (n_0) (f_0)) : MC l D cy q yX10_far cX10_far 3 (some .int) 2 [.int (J v_w), .int (J v_v)] n_0 f_0 (PI (fun (z_0 : Int) (n_2 : Nat → Int) (f_2 : Nat → Int → Int) => ∃ (x0_2 : Int) (y61_2 : Int → Int) (y59_2 : Int → Int) (y60_2 : Int → Int) , n_2 = upN n_0 0 x0_2 ∧ f_2 = upF (upF (upF f_0 59 y59_2) 60 y60_2) 61 y61_2 ∧ (MI (upN n_0 0 x0_2) (upF (upF (upF f_0 59 y59_2) 60 y60_2) 61 y61_2) ∧ (True)))) := by
  refine MC.ofi rfl (Nat.le_of_ble_eq_true rfl) ?_
  intro p e s m below meth c ls ar QW A0 H0 H locs E hK hA hw hl hret
  have hl : lv_has ls 3 [(0, .ref (q 0)), (1, .int (J v_w)), (2, .int (J v_v))] := hl
  have hp0_ := hp0
  obtain ⟨i_now, i_persons, i_lines, i_wordings, i_taped, i_suits, i_spk, i_fam, i_str, i_said, i_book, i_wds, i_tok, i_cod, i_far, i_tap, i_qua, i_sil, i_stz, i_way⟩ := hp0_
  refine j_aload_n E 1 rfl dX10_far_0 rfl (lv_at hl 0 rfl) ?_
  refine j_iconst E 2 rfl dX10_far_1 ?_
  refine m_put_0 E hK hw (rr (by decide)) 5 rfl dX10_far_2 (fun H locs hw => ?_)
  have hw : WM D cy q (upN n_0 0 0) (f_0) A0 H0 H locs := hw
  refine j_aload_n E 6 rfl dX10_far_5 rfl (lv_at hl 0 rfl) ?_
  refine j_iload_n E 7 rfl dX10_far_6 rfl (lv_at hl 1 rfl) ?_
  refine m_callp (po := fun z_0 => (z_0 = 1 ∧ 0 ≤ v_w ∧ v_w < (n_0 29)) ∨ (z_0 = 0 ∧ (v_w < 0 ∨ (n_0 29) ≤ v_w))) E (c_X10_isWording l D cy q (upN n_0 0 0) (f_0) v_w  r_v_w ) rfl mt_X10_isWording ml_X10_191 hK hw hA ⟨Nat.le_of_ble_eq_true rfl, Nat.le_of_ble_eq_true rfl⟩ (As := [.int (J v_w)]) (rest := []) rfl rfl hl.1 (Nat.le_of_ble_eq_true rfl) 10 rfl dX10_far_7 (fun zz2_ H locs rr2_ hq2_ hw => ?_)
  have hh2_ : (zz2_ = 1 ∧ 0 ≤ v_w ∧ v_w < (n_0 29)) ∨ (zz2_ = 0 ∧ (v_w < 0 ∨ (n_0 29) ≤ v_w)) := hq2_
  clear hq2_
  rcases hh2_ with ⟨ee2_, hh2_⟩ | ⟨ee2_, hh2_⟩
  · subst ee2_
    refine j_if_eq E 13 30 rfl (rr (by decide)) dX10_far_10 (by decide) (fun cc3_ => absurd cc3_ (by decide)) (fun _ => ?_)
    refine j_aload_n E 14 rfl dX10_far_13 rfl (lv_at hl 0 rfl) ?_
    refine j_iload_n E 15 rfl dX10_far_14 rfl (lv_at hl 2 rfl) ?_
    refine m_callp (po := fun z_0 => (z_0 = 1 ∧ 0 ≤ v_v ∧ v_v < (n_0 29)) ∨ (z_0 = 0 ∧ (v_v < 0 ∨ (n_0 29) ≤ v_v))) E (c_X10_isWording l D cy q (upN n_0 0 0) (f_0) v_v  r_v_v ) rfl mt_X10_isWording ml_X10_191 hK hw hA ⟨Nat.le_of_ble_eq_true rfl, Nat.le_of_ble_eq_true rfl⟩ (As := [.int (J v_v)]) (rest := []) rfl rfl hl.1 (Nat.le_of_ble_eq_true rfl) 18 rfl dX10_far_15 (fun zz4_ H locs rr4_ hq4_ hw => ?_)
    have hh4_ : (zz4_ = 1 ∧ 0 ≤ v_v ∧ v_v < (n_0 29)) ∨ (zz4_ = 0 ∧ (v_v < 0 ∨ (n_0 29) ≤ v_v)) := hq4_
    clear hq4_
    rcases hh4_ with ⟨ee4_, hh4_⟩ | ⟨ee4_, hh4_⟩
    · subst ee4_
      refine j_if_eq E 21 30 rfl (rr (by decide)) dX10_far_18 (by decide) (fun cc5_ => absurd cc5_ (by decide)) (fun _ => ?_)
      refine j_aload_n E 22 rfl dX10_far_21 rfl (lv_at hl 0 rfl) ?_
      refine j_iload_n E 23 rfl dX10_far_22 rfl (lv_at hl 1 rfl) ?_
      refine j_iload_n E 24 rfl dX10_far_23 rfl (lv_at hl 2 rfl) ?_
      have t1_ := i_tok v_w (by omega) (by omega)
      have t2_ := i_tok v_v (by omega) (by omega)
      refine m_calli E (c_X10_farBetween l D cy q (upN n_0 0 0) (f_0) v_w v_v  r_v_w r_v_v (show 0 ≤ v_w ∧ v_w < 32 from by omega) (show 0 ≤ v_v ∧ v_v < 32 from by omega) (show Far_ (f_0 61) from i_far) (show 0 ≤ (f_0 31 v_w) ∧ (f_0 31 v_w) ≤ 400 from t1_) (show 0 ≤ (f_0 31 v_v) ∧ (f_0 31 v_v) ≤ 400 from t2_)) rfl mt_X10_farBetween ml_X10_370 hK hw hA ⟨Nat.le_of_ble_eq_true rfl, Nat.le_of_ble_eq_true rfl⟩ (As := [.int (J v_w), .int (J v_v)]) (rest := []) rfl rfl hl.1 (Nat.le_of_ble_eq_true rfl) 27 rfl dX10_far_24 (fun zz6_ n_6 f_6 H locs rr6_ hq6_ hw => ?_)
      obtain ⟨y61_6, y59_6, y60_6, en6_, ef6_, hq6_⟩ := hq6_
      rw [en6_, ef6_] at hw; clear en6_ ef6_
      have hw : WM D cy q (upN n_0 0 0) (upF (upF (upF f_0 59 y59_6) 60 y60_6) 61 y61_6) A0 H0 H locs := hw
      have hh6_ : Far_ (y61_6) ∧ 0 ≤ zz6_ ∧ zz6_ ≤ 800 := hq6_
      clear hq6_
      have hf_ := hh6_
      clear hh6_
      refine j_goto E 31 dX10_far_27 (by decide) ?_
      exact hret 31 zz6_ (upN n_0 0 0) (upF (upF (upF f_0 59 y59_6) 60 y60_6) 61 y61_6) _ _ ls hw rr6_ ⟨0, y61_6, y59_6, y60_6, rfl, rfl, ⟨⟨i_now, i_persons, i_lines, i_wordings, i_taped, i_suits, i_spk, i_fam, i_str, i_said, i_book, i_wds, i_tok, i_cod, (show Far_ (y61_6) from by first | exact hf_.1 | exact i_far), i_tap, i_qua, i_sil, i_stz, i_way⟩, trivial⟩⟩ dX10_far_31
    · subst ee4_
      refine j_if_eq E 21 30 rfl (rr (by decide)) dX10_far_18 (by decide) (fun _ => ?_) (fun cc7_ => absurd cc7_ (by decide))
      refine j_iconst E 31 rfl dX10_far_30 ?_
      exact hret 31 ((-1)) (upN n_0 0 0) (upF (upF (upF f_0 59 (f_0 59)) 60 (f_0 60)) 61 (f_0 61)) _ _ ls hw (rr (by decide)) ⟨0, (f_0 61), (f_0 59), (f_0 60), rfl, rfl, ⟨⟨i_now, i_persons, i_lines, i_wordings, i_taped, i_suits, i_spk, i_fam, i_str, i_said, i_book, i_wds, i_tok, i_cod, (show Far_ (f_0 61) from by first | exact hf_.1 | exact i_far), i_tap, i_qua, i_sil, i_stz, i_way⟩, trivial⟩⟩ dX10_far_31
  · subst ee2_
    refine j_if_eq E 13 30 rfl (rr (by decide)) dX10_far_10 (by decide) (fun _ => ?_) (fun cc8_ => absurd cc8_ (by decide))
    refine j_iconst E 31 rfl dX10_far_30 ?_
    exact hret 31 ((-1)) (upN n_0 0 0) (upF (upF (upF f_0 59 (f_0 59)) 60 (f_0 60)) 61 (f_0 61)) _ _ ls hw (rr (by decide)) ⟨0, (f_0 61), (f_0 59), (f_0 60), rfl, rfl, ⟨⟨i_now, i_persons, i_lines, i_wordings, i_taped, i_suits, i_spk, i_fam, i_str, i_said, i_book, i_wds, i_tok, i_cod, (show Far_ (f_0 61) from by first | exact hf_.1 | exact i_far), i_tap, i_qua, i_sil, i_stz, i_way⟩, trivial⟩⟩ dX10_far_31
set_option maxHeartbeats 4000000 in
set_option maxRecDepth 100000 in
theorem c_X10_ones (l : Launch) (D : va_G) (cy : Nat → ClassId) (q : Nat → Nat) (n_0 : Nat → Int) (f_0 : Nat → Int → Int) (v_set : Int) (r_v_set : inR v_set) : MC l D cy q yX10_ones cX10_ones 4 (some .int) 0 [.int (J v_set)] n_0 f_0 (PI (fun (z_0 : Int) (n_2 : Nat → Int) (f_2 : Nat → Int → Int) => (n_2 = n_0 ∧ f_2 = f_0) ∧ (z_0 = cn_ v_set ∧ 0 ≤ z_0 ∧ z_0 ≤ 32))) := by
  refine MC.ofi rfl (Nat.le_of_ble_eq_true rfl) ?_
  intro p e s m below meth c ls ar QW A0 H0 H locs E hK hA hw hl hret
  have hl : lv_has ls 4 [(0, .ref (q 0)), (1, .int (J v_set))] := hl
  refine j_iconst E 1 rfl dX10_ones_0 ?_
  refine j_istore_n E 2 rfl [(2, .int (J 0)), (0, .ref (q 0)), (1, .int (J v_set))] dX10_ones_1 rfl hl (by decide) rfl (fun ls hl => ?_)
  refine j_iload_n E 3 rfl dX10_ones_2 rfl (lv_at hl 2 rfl) ?_
  refine j_istore_n E 4 rfl [(3, .int (J v_set)), (2, .int (J 0)), (0, .ref (q 0)), (1, .int (J v_set))] dX10_ones_3 rfl hl (by decide) rfl (fun ls hl => ?_)
  have L4_1 : ∀ (k4 : Nat) (gc gv : Int) (H : Heap) (locs : List Loc) (ls : Array Slot), inR gc → inR gv → (0 ≤ gc ∧ gc + cn_ gv = cn_ v_set) → (cn_ gv) < (k4 : Int) → WM D cy q (n_0) (f_0) A0 H0 H locs → lv_has ls 4 [(0, .ref (q 0)), (1, .int (J v_set)), (2, .int (J gc)), (3, .int (J gv))] → W p l e (rmd 0 0 0) s m ar below meth c H locs 0 0 QW (F0 m 4 ls []) := by
    intro k4
    induction k4 with
    | zero =>
      intro gc gv H locs ls r_gc r_gv iv4 ms4 hw hl
      exfalso; have := cn_nn gv; omega
    | succ k4 ih4 =>
      intro gc gv H locs ls r_gc r_gv iv4 ms4 hw hl
      have b1_ := cn_nn gv
      have b2_ := cn_le v_set
      refine j_iload_n E 5 rfl dX10_ones_4 rfl (lv_at hl 3 rfl) ?_
      refine j_if_eq E 8 21 rfl r_gv dX10_ones_5 (by decide) (fun cc3_ => ?_) (fun cc3_ => ?_)
      · have hz_ : cn_ gv = 0 := by rw [show gv = 0 by assumption]; exact cn_0
        refine j_iload_n E 22 rfl dX10_ones_21 rfl (lv_at hl 2 rfl) ?_
        exact hret 22 gc (n_0) (f_0) _ _ ls hw r_gc ⟨⟨rfl, rfl⟩, by omega⟩ dX10_ones_22
      · refine j_iload_n E 9 rfl dX10_ones_8 rfl (lv_at hl 2 rfl) ?_
        refine j_iconst E 10 rfl dX10_ones_9 ?_
        refine j_iadd E 11 rfl dX10_ones_10 ?_
        refine j_istore_n E 12 rfl [(2, .int (J (gc + 1))), (0, .ref (q 0)), (1, .int (J v_set)), (3, .int (J gv))] dX10_ones_11 rfl hl (by decide) rfl (fun ls hl => ?_)
        refine j_iload_n E 13 rfl dX10_ones_12 rfl (lv_at hl 3 rfl) ?_
        refine j_iload_n E 14 rfl dX10_ones_13 rfl (lv_at hl 3 rfl) ?_
        refine j_iconst E 15 rfl dX10_ones_14 ?_
        refine j_isub E 16 rfl dX10_ones_15 ?_
        refine j_iand E 17 rfl dX10_ones_16 (fun zz4_ rr4_ ee4_ => ?_)
        have hu_ := cn_and ee4_ (by omega)
        refine j_istore_n E 18 rfl [(3, .int (J zz4_)), (2, .int (J (gc + 1))), (0, .ref (q 0)), (1, .int (J v_set))] dX10_ones_17 rfl hl (by decide) rfl (fun ls hl => ?_)
        refine j_goto E 4 dX10_ones_18 (by decide) ?_
        exact ih4 (gc + 1) zz4_ H locs ls (rr (by omega)) rr4_ (⟨by omega, by omega⟩) (by omega) hw (lv_sub hl [2, 3, 1, 0] rfl)
  exact L4_1 _ 0 v_set H locs ls (rr (by decide)) r_v_set (⟨by omega, by omega⟩) (mk_lt _) hw (lv_sub hl [2, 3, 1, 0] rfl)
set_option maxHeartbeats 4000000 in
set_option maxRecDepth 100000 in
theorem c_X10_areLines (l : Launch) (D : va_G) (cy : Nat → ClassId) (q : Nat → Nat) (n_0 : Nat → Int) (f_0 : Nat → Int → Int) (v_set : Int) (r_v_set : inR v_set) (hp0 : 0 ≤ (n_0 12) ∧ (n_0 12) ≤ 24) : MC l D cy q yX10_areLines cX10_areLines 2 (some .boolean) 0 [.int (J v_set)] n_0 f_0 (PI (fun (z_0 : Int) (n_2 : Nat → Int) (f_2 : Nat → Int → Int) => (n_2 = n_0 ∧ f_2 = f_0) ∧ ((z_0 = 1 ∧ (0 < v_set ∧ Bz_ v_set (n_0 12))) ∨ (z_0 = 0 ∧ ¬ (0 < v_set ∧ Bz_ v_set (n_0 12)))))) := by
  refine MC.ofz rfl (Nat.le_of_ble_eq_true rfl) ?_
  intro p e s m below meth c ls ar QW A0 H0 H locs E hK hA hw hl hret
  have hl : lv_has ls 2 [(0, .ref (q 0)), (1, .int (J v_set))] := hl
  refine j_iload_n E 1 rfl dX10_areLines_0 rfl (lv_at hl 1 rfl) ?_
  refine j_if_le E 4 17 rfl r_v_set dX10_areLines_1 (by decide) (fun cc1_ => ?_) (fun cc1_ => ?_)
  · refine j_iconst E 18 rfl dX10_areLines_17 ?_
    exact hret 18 0 (n_0) (f_0) _ _ ls hw (Or.inl rfl) ⟨⟨rfl, rfl⟩, by first | exact Or.inl ⟨rfl, by omega, (us_z (ss_us es_ ⟨by omega, r_v_set⟩ (by omega)) rs_ (by omega)).1 (by omega)⟩ | exact Or.inr ⟨rfl, fun q_ => by have z_ := (us_z (ss_us es_ ⟨by omega, r_v_set⟩ (by omega)) rs_ (by omega)).2 q_.2; omega⟩ | exact Or.inr ⟨rfl, fun q_ => by have := q_.1; omega⟩⟩ dX10_areLines_18
  · refine j_iload_n E 5 rfl dX10_areLines_4 rfl (lv_at hl 1 rfl) ?_
    refine j_aload_n E 6 rfl dX10_areLines_5 rfl (lv_at hl 0 rfl) ?_
    refine m_get_12 E hK hw (n_0 12) rfl 9 rfl dX10_areLines_6 (fun rr2_ => ?_)
    refine j_ishr E 10 rfl dX10_areLines_9 (fun zz3_ rr3_ ee3_ => ?_)
    have es_ := ee3_
    have rs_ := rr3_
    refine j_if_ne E 13 17 rfl rr3_ dX10_areLines_10 (by decide) (fun cc4_ => ?_) (fun cc4_ => ?_)
    · refine j_iconst E 18 rfl dX10_areLines_17 ?_
      exact hret 18 0 (n_0) (f_0) _ _ ls hw (Or.inl rfl) ⟨⟨rfl, rfl⟩, by first | exact Or.inl ⟨rfl, by omega, (us_z (ss_us es_ ⟨by omega, r_v_set⟩ (by omega)) rs_ (by omega)).1 (by omega)⟩ | exact Or.inr ⟨rfl, fun q_ => by have z_ := (us_z (ss_us es_ ⟨by omega, r_v_set⟩ (by omega)) rs_ (by omega)).2 q_.2; omega⟩ | exact Or.inr ⟨rfl, fun q_ => by have := q_.1; omega⟩⟩ dX10_areLines_18
    · refine j_iconst E 14 rfl dX10_areLines_13 ?_
      refine j_goto E 18 dX10_areLines_14 (by decide) ?_
      exact hret 18 1 (n_0) (f_0) _ _ ls hw (Or.inr rfl) ⟨⟨rfl, rfl⟩, by first | exact Or.inl ⟨rfl, by omega, (us_z (ss_us es_ ⟨by omega, r_v_set⟩ (by omega)) rs_ (by omega)).1 (by omega)⟩ | exact Or.inr ⟨rfl, fun q_ => by have z_ := (us_z (ss_us es_ ⟨by omega, r_v_set⟩ (by omega)) rs_ (by omega)).2 q_.2; omega⟩ | exact Or.inr ⟨rfl, fun q_ => by have := q_.1; omega⟩⟩ dX10_areLines_18
set_option maxHeartbeats 4000000 in
set_option maxRecDepth 100000 in
theorem c_X10_loss (l : Launch) (D : va_G) (cy : Nat → ClassId) (q : Nat → Nat) (n_0 : Nat → Int) (f_0 : Nat → Int → Int) (v_set : Int) (r_v_set : inR v_set) (hp0 : MI (n_0) (f_0)) : MC l D cy q yX10_loss cX10_loss 4 (some .int) 3 [.int (J v_set)] n_0 f_0 (PI (fun (z_0 : Int) (n_2 : Nat → Int) (f_2 : Nat → Int → Int) => ∃ (x0_2 : Int) , n_2 = upN n_0 0 x0_2 ∧ f_2 = f_0 ∧ (MI (upN n_0 0 x0_2) (f_0) ∧ ((z_0 = -1 ∧ ¬ (0 < v_set ∧ Bz_ v_set (n_0 12))) ∨ ((0 < v_set ∧ Bz_ v_set (n_0 12)) ∧ Lm_ v_set (fun l_ => nq_ (fun p_ => (f_0 6 p_) = -1 ∧ 0 < (f_0 19 (24 * p_ + l_))) ((n_0 2)).toNat) (n_0 12) z_0))))) := by
  refine MC.ofi rfl (Nat.le_of_ble_eq_true rfl) ?_
  intro p e s m below meth c ls ar QW A0 H0 H locs E hK hA hw hl hret
  have hl : lv_has ls 4 [(0, .ref (q 0)), (1, .int (J v_set))] := hl
  have hp0_ := hp0
  obtain ⟨i_now, i_persons, i_lines, i_wordings, i_taped, i_suits, i_spk, i_fam, i_str, i_said, i_book, i_wds, i_tok, i_cod, i_far, i_tap, i_qua, i_sil, i_stz, i_way⟩ := hp0_
  refine j_aload_n E 1 rfl dX10_loss_0 rfl (lv_at hl 0 rfl) ?_
  refine j_iconst E 2 rfl dX10_loss_1 ?_
  refine m_put_0 E hK hw (rr (by decide)) 5 rfl dX10_loss_2 (fun H locs hw => ?_)
  have hw : WM D cy q (upN n_0 0 0) (f_0) A0 H0 H locs := hw
  refine j_aload_n E 6 rfl dX10_loss_5 rfl (lv_at hl 0 rfl) ?_
  refine j_iload_n E 7 rfl dX10_loss_6 rfl (lv_at hl 1 rfl) ?_
  refine m_callp (po := fun z_0 => (z_0 = 1 ∧ (0 < v_set ∧ Bz_ v_set (n_0 12))) ∨ (z_0 = 0 ∧ ¬ (0 < v_set ∧ Bz_ v_set (n_0 12)))) E (c_X10_areLines l D cy q (upN n_0 0 0) (f_0) v_set  r_v_set (show 0 ≤ (n_0 12) ∧ (n_0 12) ≤ 24 from by omega)) rfl mt_X10_areLines ml_X10_380 hK hw hA ⟨Nat.le_of_ble_eq_true rfl, Nat.le_of_ble_eq_true rfl⟩ (As := [.int (J v_set)]) (rest := []) rfl rfl hl.1 (Nat.le_of_ble_eq_true rfl) 10 rfl dX10_loss_7 (fun zz2_ H locs rr2_ hq2_ hw => ?_)
  have hh2_ : (zz2_ = 1 ∧ (0 < v_set ∧ Bz_ v_set (n_0 12))) ∨ (zz2_ = 0 ∧ ¬ (0 < v_set ∧ Bz_ v_set (n_0 12))) := hq2_
  clear hq2_
  rcases hh2_ with ⟨ee2_, hh2_⟩ | ⟨ee2_, hh2_⟩
  · subst ee2_
    have al_ := hh2_
    clear hh2_
    refine j_if_ne E 13 15 rfl (rr (by decide)) dX10_loss_10 (by decide) (fun _ => ?_) (fun cc3_ => absurd cc3_ (by decide))
    refine j_bipush E 17 rfl dX10_loss_15 (by decide) ?_
    refine j_istore_n E 18 rfl [(2, .int (J 25)), (0, .ref (q 0)), (1, .int (J v_set))] dX10_loss_17 rfl hl (by decide) rfl (fun ls hl => ?_)
    refine j_iconst E 19 rfl dX10_loss_18 ?_
    refine j_istore_n E 20 rfl [(3, .int (J 0)), (2, .int (J 25)), (0, .ref (q 0)), (1, .int (J v_set))] dX10_loss_19 rfl hl (by decide) rfl (fun ls hl => ?_)
    have L20_4 : ∀ (k20 : Nat) (gm gx : Int) (H : Heap) (locs : List Loc) (ls : Array Slot), inR gm → inR gx → (0 ≤ gx ∧ gx ≤ 24 ∧ gx ≤ (n_0 12) ∧ (0 ≤ gm ∧ gm ≤ 25) ∧ Lms_ v_set (fun l_ => nq_ (fun p_ => (f_0 6 p_) = -1 ∧ 0 < (f_0 19 (24 * p_ + l_))) ((n_0 2)).toNat) 25 gx gm) → (24 - gx) < (k20 : Int) → WM D cy q (upN n_0 0 0) (f_0) A0 H0 H locs → lv_has ls 4 [(0, .ref (q 0)), (1, .int (J v_set)), (2, .int (J gm)), (3, .int (J gx))] → W p l e (rmd 3 0 0) s m ar below meth c H locs 0 0 QW (F0 m 20 ls []) := by
      intro k20
      induction k20 with
      | zero =>
        intro gm gx H locs ls r_gm r_gx iv20 ms20 hw hl
        exfalso; omega
      | succ k20 ih20 =>
        intro gm gx H locs ls r_gm r_gx iv20 ms20 hw hl
        refine j_iload_n E 21 rfl dX10_loss_20 rfl (lv_at hl 3 rfl) ?_
        refine j_aload_n E 22 rfl dX10_loss_21 rfl (lv_at hl 0 rfl) ?_
        refine m_get_12 E hK hw (n_0 12) rfl 25 rfl dX10_loss_22 (fun rr6_ => ?_)
        refine j_icmp_ge E 28 58 rfl r_gx rr6_ dX10_loss_25 (by decide) (fun cc7_ => ?_) (fun cc7_ => ?_)
        · refine j_iload_n E 59 rfl dX10_loss_58 rfl (lv_at hl 2 rfl) ?_
          exact hret 59 gm (upN n_0 0 0) (f_0) _ _ ls hw r_gm ⟨0, rfl, rfl, ⟨⟨i_now, i_persons, i_lines, i_wordings, i_taped, i_suits, i_spk, i_fam, i_str, i_said, i_book, i_wds, i_tok, i_cod, i_far, i_tap, i_qua, i_sil, i_stz, i_way⟩, Or.inr ⟨al_, Lms_f (by rw [show (n_0 12) = gx by omega]; exact iv20.2.2.2.2) (fun l_ _ _ => Int.le_trans (nq_rg _).2 (by omega)) (bz_ex r_v_set al_.2 (by have := al_.1; omega))⟩⟩⟩ dX10_loss_59
        · refine j_iload_n E 29 rfl dX10_loss_28 rfl (lv_at hl 1 rfl) ?_
          refine j_iload_n E 30 rfl dX10_loss_29 rfl (lv_at hl 3 rfl) ?_
          refine j_ishr E 31 rfl dX10_loss_30 (fun zz8_ rr8_ ee8_ => ?_)
          have es_ := ee8_
          refine j_iconst E 32 rfl dX10_loss_31 ?_
          refine j_iand E 33 rfl dX10_loss_32 (fun zz9_ rr9_ ee9_ => ?_)
          have hb_ := sh_bit es_ ee9_ (by omega) rr9_
          refine j_iconst E 34 rfl dX10_loss_33 ?_
          refine j_icmp_ne E 37 52 rfl rr9_ (rr (by decide)) dX10_loss_34 (by decide) (fun cc10_ => ?_) (fun cc10_ => ?_)
          · refine j_iinc E 55 rfl [(3, .int (J (gx + 1))), (0, .ref (q 0)), (1, .int (J v_set)), (2, .int (J gm))] dX10_loss_52 hl (kk := 3) rfl (by decide) rfl (fun ls hl => ?_)
            refine j_goto E 20 dX10_loss_55 (by decide) ?_
            exact ih20 gm (gx + 1) H locs ls r_gm (rr (by omega)) (⟨by omega, by omega, by omega, by omega, by first | exact Lms_y iv20.2.2.2.2 (by omega) (hb_.elim (fun q_ => absurd q_.1 (by omega)) (fun q_ => q_.2)) (Or.inr ⟨l2_.2, Int.le_trans (Int.le_of_eq l1_.2.symm) (by omega)⟩) | exact Lms_y iv20.2.2.2.2 (by omega) (hb_.elim (fun q_ => absurd q_.1 (by omega)) (fun q_ => q_.2)) (Or.inl ⟨rfl, Int.le_trans (by omega) (Int.le_of_eq l1_.2)⟩) | exact Lms_n iv20.2.2.2.2 (hb_.elim (fun q_ => q_.2) (fun q_ => absurd q_.1 (by omega)))⟩) (by omega) hw (lv_sub hl [1, 2, 3, 0] rfl)
          · refine j_aload_n E 38 rfl dX10_loss_37 rfl (lv_at hl 0 rfl) ?_
            refine j_iload_n E 39 rfl dX10_loss_38 rfl (lv_at hl 3 rfl) ?_
            refine m_callp (po := fun z_0 => (0 ≤ z_0 ∧ z_0 ≤ 24) ∧ z_0 = nq_ (fun p_ => (f_0 6 p_) = -1 ∧ 0 < (f_0 19 (24 * p_ + gx))) ((n_0 2)).toNat) E (c_X10_livingWith l D cy q (upN n_0 0 0) (f_0) gx  r_gx (show (n_0 2) ≤ 24 from by omega) (show 0 ≤ gx ∧ gx < 24 from by omega)) rfl mt_X10_livingWith ml_X10_202 hK hw hA ⟨Nat.le_of_ble_eq_true rfl, Nat.le_of_ble_eq_true rfl⟩ (As := [.int (J gx)]) (rest := []) rfl rfl hl.1 (Nat.le_of_ble_eq_true rfl) 42 rfl dX10_loss_39 (fun zz11_ H locs rr11_ hq11_ hw => ?_)
            have hh11_ : (0 ≤ zz11_ ∧ zz11_ ≤ 24) ∧ zz11_ = nq_ (fun p_ => (f_0 6 p_) = -1 ∧ 0 < (f_0 19 (24 * p_ + gx))) ((n_0 2)).toNat := hq11_
            clear hq11_
            have l1_ := hh11_
            clear hh11_
            refine j_iload_n E 43 rfl dX10_loss_42 rfl (lv_at hl 2 rfl) ?_
            refine j_icmp_ge E 46 52 rfl rr11_ r_gm dX10_loss_43 (by decide) (fun cc12_ => ?_) (fun cc12_ => ?_)
            · refine j_iinc E 55 rfl [(3, .int (J (gx + 1))), (0, .ref (q 0)), (1, .int (J v_set)), (2, .int (J gm))] dX10_loss_52 hl (kk := 3) rfl (by decide) rfl (fun ls hl => ?_)
              refine j_goto E 20 dX10_loss_55 (by decide) ?_
              exact ih20 gm (gx + 1) H locs ls r_gm (rr (by omega)) (⟨by omega, by omega, by omega, by omega, by first | exact Lms_y iv20.2.2.2.2 (by omega) (hb_.elim (fun q_ => absurd q_.1 (by omega)) (fun q_ => q_.2)) (Or.inr ⟨l2_.2, Int.le_trans (Int.le_of_eq l1_.2.symm) (by omega)⟩) | exact Lms_y iv20.2.2.2.2 (by omega) (hb_.elim (fun q_ => absurd q_.1 (by omega)) (fun q_ => q_.2)) (Or.inl ⟨rfl, Int.le_trans (by omega) (Int.le_of_eq l1_.2)⟩) | exact Lms_n iv20.2.2.2.2 (hb_.elim (fun q_ => q_.2) (fun q_ => absurd q_.1 (by omega)))⟩) (by omega) hw (lv_sub hl [1, 2, 3, 0] rfl)
            · refine j_aload_n E 47 rfl dX10_loss_46 rfl (lv_at hl 0 rfl) ?_
              refine j_iload_n E 48 rfl dX10_loss_47 rfl (lv_at hl 3 rfl) ?_
              refine m_callp (po := fun z_0 => (0 ≤ z_0 ∧ z_0 ≤ 24) ∧ z_0 = nq_ (fun p_ => (f_0 6 p_) = -1 ∧ 0 < (f_0 19 (24 * p_ + gx))) ((n_0 2)).toNat) E (c_X10_livingWith l D cy q (upN n_0 0 0) (f_0) gx  r_gx (show (n_0 2) ≤ 24 from by omega) (show 0 ≤ gx ∧ gx < 24 from by omega)) rfl mt_X10_livingWith ml_X10_202 hK hw hA ⟨Nat.le_of_ble_eq_true rfl, Nat.le_of_ble_eq_true rfl⟩ (As := [.int (J gx)]) (rest := []) rfl rfl hl.1 (Nat.le_of_ble_eq_true rfl) 51 rfl dX10_loss_48 (fun zz13_ H locs rr13_ hq13_ hw => ?_)
              have hh13_ : (0 ≤ zz13_ ∧ zz13_ ≤ 24) ∧ zz13_ = nq_ (fun p_ => (f_0 6 p_) = -1 ∧ 0 < (f_0 19 (24 * p_ + gx))) ((n_0 2)).toNat := hq13_
              clear hq13_
              have l2_ := hh13_
              clear hh13_
              refine j_istore_n E 52 rfl [(2, .int (J zz13_)), (0, .ref (q 0)), (1, .int (J v_set)), (3, .int (J gx))] dX10_loss_51 rfl hl (by decide) rfl (fun ls hl => ?_)
              refine j_iinc E 55 rfl [(3, .int (J (gx + 1))), (2, .int (J zz13_)), (0, .ref (q 0)), (1, .int (J v_set))] dX10_loss_52 hl (kk := 3) rfl (by decide) rfl (fun ls hl => ?_)
              refine j_goto E 20 dX10_loss_55 (by decide) ?_
              exact ih20 zz13_ (gx + 1) H locs ls rr13_ (rr (by omega)) (⟨by omega, by omega, by omega, by omega, by first | exact Lms_y iv20.2.2.2.2 (by omega) (hb_.elim (fun q_ => absurd q_.1 (by omega)) (fun q_ => q_.2)) (Or.inr ⟨l2_.2, Int.le_trans (Int.le_of_eq l1_.2.symm) (by omega)⟩) | exact Lms_y iv20.2.2.2.2 (by omega) (hb_.elim (fun q_ => absurd q_.1 (by omega)) (fun q_ => q_.2)) (Or.inl ⟨rfl, Int.le_trans (by omega) (Int.le_of_eq l1_.2)⟩) | exact Lms_n iv20.2.2.2.2 (hb_.elim (fun q_ => q_.2) (fun q_ => absurd q_.1 (by omega)))⟩) (by omega) hw (lv_sub hl [2, 3, 1, 0] rfl)
    exact L20_4 _ 25 0 H locs ls (rr (by decide)) (rr (by decide)) (⟨by omega, by omega, by omega, by omega, Lms_0⟩) (mk_lt _) hw (lv_sub hl [2, 3, 1, 0] rfl)
  · subst ee2_
    have an_ := hh2_
    clear hh2_
    refine j_if_ne E 13 15 rfl (rr (by decide)) dX10_loss_10 (by decide) (fun cc14_ => absurd cc14_ (by decide)) (fun _ => ?_)
    refine j_iconst E 14 rfl dX10_loss_13 ?_
    exact hret 14 ((-1)) (upN n_0 0 0) (f_0) _ _ ls hw (rr (by decide)) ⟨0, rfl, rfl, ⟨⟨i_now, i_persons, i_lines, i_wordings, i_taped, i_suits, i_spk, i_fam, i_str, i_said, i_book, i_wds, i_tok, i_cod, i_far, i_tap, i_qua, i_sil, i_stz, i_way⟩, Or.inl ⟨rfl, an_⟩⟩⟩ dX10_loss_14
set_option maxHeartbeats 4000000 in
set_option maxRecDepth 100000 in
theorem c_X10_teachCost (l : Launch) (D : va_G) (cy : Nat → ClassId) (q : Nat → Nat) (n_0 : Nat → Int) (f_0 : Nat → Int → Int) (v_p v_x : Int) (r_v_p : inR v_p) (r_v_x : inR v_x) (hp0 : (n_0 2) ≤ 24) (hp1 : 0 ≤ v_p ∧ v_p < 24) (hp2 : 0 ≤ v_x ∧ v_x < 24) : MC l D cy q yX10_teachCost cX10_teachCost 4 (some .int) 2 [.int (J v_p), .int (J v_x)] n_0 f_0 (PI (fun (z_0 : Int) (n_2 : Nat → Int) (f_2 : Nat → Int → Int) => (n_2 = n_0 ∧ f_2 = f_0) ∧ (1 ≤ z_0 ∧ z_0 ≤ 3))) := by
  refine MC.ofi rfl (Nat.le_of_ble_eq_true rfl) ?_
  intro p e s m below meth c ls ar QW A0 H0 H locs E hK hA hw hl hret
  have hl : lv_has ls 4 [(0, .ref (q 0)), (1, .int (J v_p)), (2, .int (J v_x))] := hl
  refine j_iconst E 1 rfl dX10_teachCost_0 ?_
  refine j_istore_n E 2 rfl [(3, .int (J 0)), (0, .ref (q 0)), (1, .int (J v_p)), (2, .int (J v_x))] dX10_teachCost_1 rfl hl (by decide) rfl (fun ls hl => ?_)
  have L2_1 : ∀ (k2 : Nat) (gq : Int) (H : Heap) (locs : List Loc) (ls : Array Slot), inR gq → (0 ≤ gq ∧ gq ≤ 24) → (24 - gq) < (k2 : Int) → WM D cy q (n_0) (f_0) A0 H0 H locs → lv_has ls 4 [(0, .ref (q 0)), (1, .int (J v_p)), (2, .int (J v_x)), (3, .int (J gq))] → W p l e (rmd 2 0 0) s m ar below meth c H locs 0 0 QW (F0 m 2 ls []) := by
    intro k2
    induction k2 with
    | zero =>
      intro gq H locs ls r_gq iv2 ms2 hw hl
      exfalso; omega
    | succ k2 ih2 =>
      intro gq H locs ls r_gq iv2 ms2 hw hl
      refine j_iload_n E 3 rfl dX10_teachCost_2 rfl (lv_at hl 3 rfl) ?_
      refine j_aload_n E 4 rfl dX10_teachCost_3 rfl (lv_at hl 0 rfl) ?_
      refine m_get_2 E hK hw (n_0 2) rfl 7 rfl dX10_teachCost_4 (fun rr3_ => ?_)
      refine j_icmp_ge E 10 50 rfl r_gq rr3_ dX10_teachCost_7 (by decide) (fun cc4_ => ?_) (fun cc4_ => ?_)
      · refine j_iconst E 51 rfl dX10_teachCost_50 ?_
        exact hret 51 3 (n_0) (f_0) _ _ ls hw (rr (by decide)) ⟨⟨rfl, rfl⟩, by omega⟩ dX10_teachCost_51
      · refine j_aload_n E 11 rfl dX10_teachCost_10 rfl (lv_at hl 0 rfl) ?_
        refine j_iload_n E 12 rfl dX10_teachCost_11 rfl (lv_at hl 3 rfl) ?_
        refine m_callp (po := fun z_0 => (z_0 = 1 ∧ 0 ≤ gq ∧ gq < (n_0 2) ∧ (f_0 6 gq) = -1) ∨ (z_0 = 0 ∧ ¬ (0 ≤ gq ∧ gq < (n_0 2) ∧ (f_0 6 gq) = -1))) E (c_X10_isLiving l D cy q (n_0) (f_0) gq  r_gq (show (n_0 2) ≤ 24 from by omega)) rfl mt_X10_isLiving ml_X10_176 hK hw hA ⟨Nat.le_of_ble_eq_true rfl, Nat.le_of_ble_eq_true rfl⟩ (As := [.int (J gq)]) (rest := []) rfl rfl hl.1 (Nat.le_of_ble_eq_true rfl) 15 rfl dX10_teachCost_12 (fun zz5_ H locs rr5_ hq5_ hw => ?_)
        have hh5_ : (zz5_ = 1 ∧ 0 ≤ gq ∧ gq < (n_0 2) ∧ (f_0 6 gq) = -1) ∨ (zz5_ = 0 ∧ ¬ (0 ≤ gq ∧ gq < (n_0 2) ∧ (f_0 6 gq) = -1)) := hq5_
        clear hq5_
        rcases hh5_ with ⟨ee5_, hh5_⟩ | ⟨ee5_, hh5_⟩
        · subst ee5_
          refine j_if_eq E 18 44 rfl (rr (by decide)) dX10_teachCost_15 (by decide) (fun cc6_ => absurd cc6_ (by decide)) (fun _ => ?_)
          refine j_aload_n E 19 rfl dX10_teachCost_18 rfl (lv_at hl 0 rfl) ?_
          refine j_iload_n E 20 rfl dX10_teachCost_19 rfl (lv_at hl 3 rfl) ?_
          refine j_iload_n E 21 rfl dX10_teachCost_20 rfl (lv_at hl 2 rfl) ?_
          refine m_callp (po := fun z_0 => (z_0 = 1 ∧ 0 < (f_0 19 (24 * gq + v_x))) ∨ (z_0 = 0 ∧ ¬ (0 < (f_0 19 (24 * gq + v_x))))) E (c_X10_hasLine l D cy q (n_0) (f_0) gq v_x  r_gq r_v_x (show 0 ≤ gq ∧ gq < 24 from by omega) (show 0 ≤ v_x ∧ v_x < 24 from by omega)) rfl mt_X10_hasLine ml_X10_198 hK hw hA ⟨Nat.le_of_ble_eq_true rfl, Nat.le_of_ble_eq_true rfl⟩ (As := [.int (J gq), .int (J v_x)]) (rest := []) rfl rfl hl.1 (Nat.le_of_ble_eq_true rfl) 24 rfl dX10_teachCost_21 (fun zz7_ H locs rr7_ hq7_ hw => ?_)
          have hh7_ : (zz7_ = 1 ∧ 0 < (f_0 19 (24 * gq + v_x))) ∨ (zz7_ = 0 ∧ ¬ (0 < (f_0 19 (24 * gq + v_x)))) := hq7_
          clear hq7_
          rcases hh7_ with ⟨ee7_, hh7_⟩ | ⟨ee7_, hh7_⟩
          · subst ee7_
            refine j_if_eq E 27 44 rfl (rr (by decide)) dX10_teachCost_24 (by decide) (fun cc8_ => absurd cc8_ (by decide)) (fun _ => ?_)
            refine j_aload_n E 28 rfl dX10_teachCost_27 rfl (lv_at hl 0 rfl) ?_
            refine m_ag_3 E hK hw 31 rfl dX10_teachCost_28 ?_
            refine j_iload_n E 32 rfl dX10_teachCost_31 rfl (lv_at hl 3 rfl) ?_
            refine m_ld_3 E hK hw (f_0 3 gq) rfl (by omega) 33 rfl dX10_teachCost_32 (fun rr9_ => ?_)
            refine j_aload_n E 34 rfl dX10_teachCost_33 rfl (lv_at hl 0 rfl) ?_
            refine m_ag_3 E hK hw 37 rfl dX10_teachCost_34 ?_
            refine j_iload_n E 38 rfl dX10_teachCost_37 rfl (lv_at hl 1 rfl) ?_
            refine m_ld_3 E hK hw (f_0 3 v_p) rfl (by omega) 39 rfl dX10_teachCost_38 (fun rr10_ => ?_)
            refine j_icmp_ne E 42 44 rfl rr9_ rr10_ dX10_teachCost_39 (by decide) (fun cc11_ => ?_) (fun cc11_ => ?_)
            · refine j_iinc E 47 rfl [(3, .int (J (gq + 1))), (0, .ref (q 0)), (1, .int (J v_p)), (2, .int (J v_x))] dX10_teachCost_44 hl (kk := 3) rfl (by decide) rfl (fun ls hl => ?_)
              refine j_goto E 2 dX10_teachCost_47 (by decide) ?_
              exact ih2 (gq + 1) H locs ls (rr (by omega)) (by omega) (by omega) hw (lv_sub hl [1, 2, 3, 0] rfl)
            · refine j_iconst E 43 rfl dX10_teachCost_42 ?_
              exact hret 43 1 (n_0) (f_0) _ _ ls hw (rr (by decide)) ⟨⟨rfl, rfl⟩, by omega⟩ dX10_teachCost_43
          · subst ee7_
            refine j_if_eq E 27 44 rfl (rr (by decide)) dX10_teachCost_24 (by decide) (fun _ => ?_) (fun cc12_ => absurd cc12_ (by decide))
            refine j_iinc E 47 rfl [(3, .int (J (gq + 1))), (0, .ref (q 0)), (1, .int (J v_p)), (2, .int (J v_x))] dX10_teachCost_44 hl (kk := 3) rfl (by decide) rfl (fun ls hl => ?_)
            refine j_goto E 2 dX10_teachCost_47 (by decide) ?_
            exact ih2 (gq + 1) H locs ls (rr (by omega)) (by omega) (by omega) hw (lv_sub hl [1, 2, 3, 0] rfl)
        · subst ee5_
          refine j_if_eq E 18 44 rfl (rr (by decide)) dX10_teachCost_15 (by decide) (fun _ => ?_) (fun cc13_ => absurd cc13_ (by decide))
          refine j_iinc E 47 rfl [(3, .int (J (gq + 1))), (0, .ref (q 0)), (1, .int (J v_p)), (2, .int (J v_x))] dX10_teachCost_44 hl (kk := 3) rfl (by decide) rfl (fun ls hl => ?_)
          refine j_goto E 2 dX10_teachCost_47 (by decide) ?_
          exact ih2 (gq + 1) H locs ls (rr (by omega)) (by omega) (by omega) hw (lv_sub hl [1, 2, 3, 0] rfl)
  exact L2_1 _ 0 H locs ls (rr (by decide)) (by omega) (mk_lt _) hw (lv_sub hl [1, 2, 3, 0] rfl)
