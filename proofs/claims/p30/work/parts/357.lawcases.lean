def RB (T : Nat → Nat → Nat) (v : Nat → Nat → Int) (x : Nat) (n : Nat → Int) : Prop := v 186 x = n 23 ∧ v 187 x = n 1 ∧ v 202 (T 180 x) = n 2 ∧ v 202 (T 181 x) = n 12
set_option maxHeartbeats 4000000 in
set_option maxRecDepth 100000 in
theorem lc_0 {p : Program} {l : Launch} {e : Env} {s : State} {m : MethodId} {below : List Frame} {meth : Method} {c : Code} {H : Heap} {locs : List Loc} {cells slots : Nat} {QW : State → Prop} {ls : Array Slot} {D : va_G} {cy : Nat → ClassId} {κ T : Nat → Nat → Nat} {v : Nat → Nat → Int} {q : Nat → Nat} {n : Nat → Int} {f : Nat → Int → Int} {x b L : Nat} {xs : Nat → Int32} (E : CX p s m #[Value.ref b] meth c RL cL_law 4 ret) (hK : KK D cy s) (hZ : ZZ κ s s.heap) (hκ : κ 2 0 < s.heap.size) (hX : va_X b L xs s s.heap) (hbl : b < s.heap.size) (hL : L ≤ 4096) {i : Int} (hi : 0 ≤ i ∧ i + 8 ≤ (L : Int)) (hf : cells + 6 ≤ 600000 ∧ slots + 7000 ≤ 7302250) (hw : LW D cy κ x T v q n f s H locs) (hR : RB T v x n) (hR2 : R2 T v x n f) (hRA : RA T v x n f) (hRK : RBk T v x n f) (hRS : RS T v x n f) (hRF : Fut_ (f 18) (n 1) (n 12)) (hl : lv_has ls 4 [(0, .ref b), (1, .ref x), (2, .ref (q 0)), (3, .int (J i))])
    (next : ∀ (T : Nat → Nat → Nat) (v : Nat → Nat → Int) (n : Nat → Int) (f : Nat → Int → Int) (H : Heap) (locs : List Loc) (ls : Array Slot), LW D cy κ x T v q n f s H locs → RB T v x n → R2 T v x n f → RA T v x n f → RBk T v x n f → RS T v x n f → Fut_ (f 18) (n 1) (n 12) → lv_has ls 4 [(0, .ref b), (1, .ref x), (2, .ref (q 0)), (3, .int (J i))] → W p l e room_1 s m #[Value.ref b] below meth c H locs (cells + 6) (slots + 7000) QW (F0 m 1315 ls [])) : W p l e room_1 s m #[Value.ref b] below meth c H locs cells slots QW (F0 m 172 ls []) := by
  obtain ⟨hr1_, hr2_, hr3_, hr4_⟩ := hR
  have hMI_ := hw.2.2.2.2.2.1
  have j1_ := hMI_.1
  have j2_ := hMI_.2.1
  have j3_ := hMI_.2.2.1
  have j4_ := hMI_.2.2.2.1
  have j5_ := hMI_.2.2.2.2.1
  have m_book := hMI_.2.2.2.2.2.2.2.2.2.2.1
  have m_cod := hMI_.2.2.2.2.2.2.2.2.2.2.2.2.2.1
  clear hMI_
  obtain ⟨S1_, S2_, S3_, hWd_, hSg_⟩ := hRS
  have hwC_ := hw.1
  have t9_ := hw.2.1
  have hnw_ : ∀ q_, H.size ≤ q_ → ∀ i_ : Nat, (i_ : Int) < v 202 (T 181 x) → ∀ y_ : Nat, ELn_ T 181 x i_ = y_ + 1 → y_ ≠ q_ := fun q_ hq_ => fr_of hwC_ (wt_181 hwC_.2.1 t9_) hq_
  have ra1_ := hRA.1
  have ra2_ := hRA.2.1
  have ra3_ := hRA.2.2.1
  refine j_aload_n E 173 rfl dL_law_172 rfl (lv_at hl 1 rfl) ?_
  refine j_aload_n E 174 rfl dL_law_173 rfl (lv_at hl 0 rfl) ?_
  refine j_iload_n E 175 rfl dL_law_174 rfl (lv_at hl 3 rfl) ?_
  refine j_iconst E 176 rfl dL_law_175 ?_
  refine j_iadd E 177 rfl dL_law_176 ?_
  refine lw_ld E hX hbl hL hw (by omega) 178 rfl dL_law_177 ?_
  refine j_aload_n E 179 rfl dL_law_178 rfl (lv_at hl 0 rfl) ?_
  refine j_iload_n E 180 rfl dL_law_179 rfl (lv_at hl 3 rfl) ?_
  refine j_iconst E 181 rfl dL_law_180 ?_
  refine j_iadd E 182 rfl dL_law_181 ?_
  refine lw_ld E hX hbl hL hw (by omega) 183 rfl dL_law_182 ?_
  refine j_aload_n E 184 rfl dL_law_183 rfl (lv_at hl 0 rfl) ?_
  refine j_iload_n E 185 rfl dL_law_184 rfl (lv_at hl 3 rfl) ?_
  refine j_iconst E 186 rfl dL_law_185 ?_
  refine j_iadd E 187 rfl dL_law_186 ?_
  refine lw_ld E hX hbl hL hw (by omega) 188 rfl dL_law_187 ?_
  refine lw_A E (n_X9_person l D cy κ T v x ((xs (i + 1).toNat).toInt) ((xs (i + 2).toNat).toInt) ((xs (i + 3).toNat).toInt) H.size (fun a h => Nat.le_trans hZ.2.1 (hw.2.2.2.1 a h)) hw.2.1 (inR_toInt _) (inR_toInt _) (inR_toInt _) hw.2.2.1) mt_X9_person ml_L_13 hK hZ hw rfl ⟨(Nat.le_of_ble_eq_true rfl), (Nat.le_of_ble_eq_true rfl)⟩ ⟨show cells + 5 ≤ 600000 by omega, show slots + 500 ≤ 7302250 by omega⟩ (As := [.int (J (xs (i + 1).toNat).toInt), .int (J (xs (i + 2).toNat).toInt), .int (J (xs (i + 3).toNat).toInt)]) (rest := []) rfl rfl hl.1 (Nat.le_of_ble_eq_true rfl) 191 rfl dL_law_188 (fun z T2 v2 h => h.1.1) (fun z1_ T1_ v1_ H locs rz1_ hz1_ hw => ?_)
  obtain ⟨⟨-, ⟨e180_, e181_, e182_, e183_, e185_⟩, ca186_, ca187_, ca190_, ca191_, cv303_, co181_, co182_, co183_, hCC_, hE181_, hE182_, hE183_, cv25_, cv302_, cv160_, hc1_⟩, hKd_⟩ := hz1_
  have cs180_ : v1_ 202 (T1_ 180 x) = v1_ 202 (T 180 x) := by rw [e180_]
  have cs181_ : v1_ 202 (T1_ 181 x) = v1_ 202 (T 181 x) := by rw [e181_]
  have cs182_ : v1_ 202 (T1_ 182 x) = v1_ 202 (T 182 x) := by rw [e182_]
  refine W.widen (show cells + 5 ≤ cells + 6 by omega) (show slots + 500 ≤ slots + 7000 by omega) ?_
  refine j_pop E 192 rfl dL_law_191 rfl ?_
  refine j_aload_n E 193 rfl dL_law_192 rfl (lv_at hl 2 rfl) ?_
  refine j_aload_n E 194 rfl dL_law_193 rfl (lv_at hl 0 rfl) ?_
  refine j_iload_n E 195 rfl dL_law_194 rfl (lv_at hl 3 rfl) ?_
  refine j_iconst E 196 rfl dL_law_195 ?_
  refine j_iadd E 197 rfl dL_law_196 ?_
  refine lw_ld E hX hbl hL hw (by omega) 198 rfl dL_law_197 ?_
  refine j_aload_n E 199 rfl dL_law_198 rfl (lv_at hl 0 rfl) ?_
  refine j_iload_n E 200 rfl dL_law_199 rfl (lv_at hl 3 rfl) ?_
  refine j_iconst E 201 rfl dL_law_200 ?_
  refine j_iadd E 202 rfl dL_law_201 ?_
  refine lw_ld E hX hbl hL hw (by omega) 203 rfl dL_law_202 ?_
  refine j_aload_n E 204 rfl dL_law_203 rfl (lv_at hl 0 rfl) ?_
  refine j_iload_n E 205 rfl dL_law_204 rfl (lv_at hl 3 rfl) ?_
  refine j_iconst E 206 rfl dL_law_205 ?_
  refine j_iadd E 207 rfl dL_law_206 ?_
  refine lw_ld E hX hbl hL hw (by omega) 208 rfl dL_law_207 ?_
  refine lw_M E (c_X10_person l D cy q n f ((xs (i + 1).toNat).toInt) ((xs (i + 2).toNat).toInt) ((xs (i + 3).toNat).toInt) (inR_toInt _) (inR_toInt _) (inR_toInt _) hw.2.2.2.2.2.1 ) mt_X10_person ml_L_17 hK hw rfl hκ ⟨(Nat.le_of_ble_eq_true rfl), (Nat.le_of_ble_eq_true rfl)⟩ ⟨show cells + 6 ≤ 600000 by omega, show slots + 7000 ≤ 7302250 by omega⟩ (As := [.int (J (xs (i + 1).toNat).toInt), .int (J (xs (i + 2).toNat).toInt), .int (J (xs (i + 3).toNat).toInt)]) (rest := []) rfl rfl hl.1 (Nat.le_of_ble_eq_true rfl) 211 rfl dL_law_208 (fun z n2 f2 h => by obtain ⟨_, _, _, _, _, _, _, e1, e2, h, -⟩ := h; rw [e1, e2]; exact h) (fun z2_ n2_ f2_ H locs rz2_ hz2_ hw => ?_)
  obtain ⟨x0m2_, x2m2_, y3m2_, y4m2_, y5m2_, y6m2_, y8m2_, em2_, ef2_, -, hm2_⟩ := hz2_
  have mg3_ : f2_ 3 = y3m2_ := congrFun ef2_ 3
  have mg4_ : f2_ 4 = y4m2_ := congrFun ef2_ 4
  have mg5_ : f2_ 5 = y5m2_ := congrFun ef2_ 5
  have mg6_ : f2_ 6 = y6m2_ := congrFun ef2_ 6
  have mg7_ : f2_ 7 = f 7 := congrFun ef2_ 7
  have mg18_ : f2_ 18 = f 18 := congrFun ef2_ 18
  have mg22_ : f2_ 22 = f 22 := congrFun ef2_ 22
  have mg32_ : f2_ 32 = f 32 := congrFun ef2_ 32
  have mg33_ : f2_ 33 = f 33 := congrFun ef2_ 33
  have mg34_ : f2_ 34 = f 34 := congrFun ef2_ 34
  have mg35_ : f2_ 35 = f 35 := congrFun ef2_ 35
  have mg36_ : f2_ 36 = f 36 := congrFun ef2_ 36
  have mg67_ : f2_ 67 = f 67 := congrFun ef2_ 67
  have mn1_ : n2_ 1 = n 1 := congrFun em2_ 1
  have mn2_ : n2_ 2 = x2m2_ := congrFun em2_ 2
  have mn12_ : n2_ 12 = n 12 := congrFun em2_ 12
  have mn23_ : n2_ 23 = n 23 := congrFun em2_ 23
  have mn29_ : n2_ 29 = n 29 := congrFun em2_ 29
  have mn43_ : n2_ 43 = n 43 := congrFun em2_ 43
  have mn44_ : n2_ 44 = n 44 := congrFun em2_ 44
  clear em2_
  clear ef2_
  have hr2_n_ := R2_per hR2 hr3_ hr2_ (by omega) mn2_ mg3_ mg4_ mg5_ mg6_ mg7_ (by rcases hc1_ with ⟨_, a_, _, b_⟩ | ⟨_, a_, _, b_⟩; exact Or.inl ⟨a_, b_⟩; exact Or.inr ⟨a_, b_⟩) (by rcases hm2_ with ⟨_, a_, b1_, b2_, b3_, b4_, b5_, _⟩ | ⟨_, a_, b1_, b2_, b3_, b4_, b5_, _⟩; exact Or.inl ⟨a_, b1_, b2_, b3_, b4_, b5_⟩; exact Or.inr ⟨a_, b1_, b2_, b3_, b4_, b5_⟩)
  have hra_n_ := RA_same hRA (cs182_.trans co182_) ca190_ ca191_ e185_ cv303_ mn29_ mn43_ mn44_ (by omega) mg22_
  have hrf_n_ : Fut_ (f2_ 18) (n2_ 1) (n2_ 12) := by rw [mg18_, mn1_, mn12_]; exact hRF
  have hrk_n_ := RBk_same hRK hE181_ cv25_ mn12_ mg67_
  have hrs_n_ : RS T1_ v1_ x n2_ f2_ := RS_same hSg_ (wd_mk hwC_ t9_ rfl hCC_ hKd_ (by decide) hE182_ (cs182_.trans co182_) hWd_) mn29_ mg32_ mg33_ mg34_ mg35_ mg36_
  refine j_pop E 212 rfl dL_law_211 rfl ?_
  refine j_goto E 1315 dL_law_212 (by decide) ?_
  exact W.widen (by omega) (by omega) (next _ _ _ _ _ _ ls hw ⟨by omega, by omega, by omega, by omega⟩ hr2_n_ hra_n_ hrk_n_ hrs_n_ hrf_n_ hl)
set_option maxHeartbeats 4000000 in
set_option maxRecDepth 100000 in
theorem lc_1 {p : Program} {l : Launch} {e : Env} {s : State} {m : MethodId} {below : List Frame} {meth : Method} {c : Code} {H : Heap} {locs : List Loc} {cells slots : Nat} {QW : State → Prop} {ls : Array Slot} {D : va_G} {cy : Nat → ClassId} {κ T : Nat → Nat → Nat} {v : Nat → Nat → Int} {q : Nat → Nat} {n : Nat → Int} {f : Nat → Int → Int} {x b L : Nat} {xs : Nat → Int32} (E : CX p s m #[Value.ref b] meth c RL cL_law 4 ret) (hK : KK D cy s) (hZ : ZZ κ s s.heap) (hκ : κ 2 0 < s.heap.size) (hX : va_X b L xs s s.heap) (hbl : b < s.heap.size) (hL : L ≤ 4096) {i : Int} (hi : 0 ≤ i ∧ i + 8 ≤ (L : Int)) (hf : cells + 6 ≤ 600000 ∧ slots + 7000 ≤ 7302250) (hw : LW D cy κ x T v q n f s H locs) (hR : RB T v x n) (hR2 : R2 T v x n f) (hRA : RA T v x n f) (hRK : RBk T v x n f) (hRS : RS T v x n f) (hRF : Fut_ (f 18) (n 1) (n 12)) (hl : lv_has ls 4 [(0, .ref b), (1, .ref x), (2, .ref (q 0)), (3, .int (J i))])
    (next : ∀ (T : Nat → Nat → Nat) (v : Nat → Nat → Int) (n : Nat → Int) (f : Nat → Int → Int) (H : Heap) (locs : List Loc) (ls : Array Slot), LW D cy κ x T v q n f s H locs → RB T v x n → R2 T v x n f → RA T v x n f → RBk T v x n f → RS T v x n f → Fut_ (f 18) (n 1) (n 12) → lv_has ls 4 [(0, .ref b), (1, .ref x), (2, .ref (q 0)), (3, .int (J i))] → W p l e room_1 s m #[Value.ref b] below meth c H locs (cells + 6) (slots + 7000) QW (F0 m 1315 ls [])) : W p l e room_1 s m #[Value.ref b] below meth c H locs cells slots QW (F0 m 215 ls []) := by
  obtain ⟨hr1_, hr2_, hr3_, hr4_⟩ := hR
  have hMI_ := hw.2.2.2.2.2.1
  have j1_ := hMI_.1
  have j2_ := hMI_.2.1
  have j3_ := hMI_.2.2.1
  have j4_ := hMI_.2.2.2.1
  have j5_ := hMI_.2.2.2.2.1
  have m_book := hMI_.2.2.2.2.2.2.2.2.2.2.1
  have m_cod := hMI_.2.2.2.2.2.2.2.2.2.2.2.2.2.1
  clear hMI_
  obtain ⟨S1_, S2_, S3_, hWd_, hSg_⟩ := hRS
  have hwC_ := hw.1
  have t9_ := hw.2.1
  have hnw_ : ∀ q_, H.size ≤ q_ → ∀ i_ : Nat, (i_ : Int) < v 202 (T 181 x) → ∀ y_ : Nat, ELn_ T 181 x i_ = y_ + 1 → y_ ≠ q_ := fun q_ hq_ => fr_of hwC_ (wt_181 hwC_.2.1 t9_) hq_
  have ra1_ := hRA.1
  have ra2_ := hRA.2.1
  have ra3_ := hRA.2.2.1
  refine j_aload_n E 216 rfl dL_law_215 rfl (lv_at hl 1 rfl) ?_
  refine j_aload_n E 217 rfl dL_law_216 rfl (lv_at hl 0 rfl) ?_
  refine j_iload_n E 218 rfl dL_law_217 rfl (lv_at hl 3 rfl) ?_
  refine j_iconst E 219 rfl dL_law_218 ?_
  refine j_iadd E 220 rfl dL_law_219 ?_
  refine lw_ld E hX hbl hL hw (by omega) 221 rfl dL_law_220 ?_
  refine lw_C E (c_X9_dies l D cy T v x ((xs (i + 1).toNat).toInt) hw.2.1 (inR_toInt _)) mt_X9_dies ml_L_18 hK hw rfl ⟨(Nat.le_of_ble_eq_true rfl), (Nat.le_of_ble_eq_true rfl)⟩ ⟨show cells ≤ 600000 by omega, show slots ≤ 7302250 by omega⟩ (As := [.int (J (xs (i + 1).toNat).toInt)]) (rest := []) rfl rfl hl.1 (Nat.le_of_ble_eq_true rfl) 224 rfl dL_law_221 (fun z1_ v1_ H locs rz1_ hz1_ hw => ?_)
  obtain ⟨y43_1, ev1_, hc1_⟩ := hz1_
  have ca186_ : v1_ 186 x = v 186 x := congrFun (congrFun ev1_ 186) x
  have ca187_ : v1_ 187 x = v 187 x := congrFun (congrFun ev1_ 187) x
  have ca190_ : v1_ 190 x = v 190 x := congrFun (congrFun ev1_ 190) x
  have ca191_ : v1_ 191 x = v 191 x := congrFun (congrFun ev1_ 191) x
  have cs180_ : v1_ 202 (T 180 x) = v 202 (T 180 x) := congrFun (congrFun ev1_ 202) (T 180 x)
  have cs181_ : v1_ 202 (T 181 x) = v 202 (T 181 x) := congrFun (congrFun ev1_ 202) (T 181 x)
  have cs182_ : v1_ 202 (T 182 x) = v 202 (T 182 x) := congrFun (congrFun ev1_ 202) (T 182 x)
  have cv40_ : v1_ 40 = v 40 := congrFun ev1_ 40
  have cv41_ : v1_ 41 = v 41 := congrFun ev1_ 41
  have cv42_ : v1_ 42 = v 42 := congrFun ev1_ 42
  have cv43_ : v1_ 43 = y43_1 := congrFun ev1_ 43
  have cv44_ : v1_ 44 = v 44 := congrFun ev1_ 44
  have cv303_ : v1_ 303 = v 303 := congrFun ev1_ 303
  have cv25_ : v1_ 25 = v 25 := congrFun ev1_ 25
  have cv300_ : v1_ 300 = v 300 := congrFun ev1_ 300
  clear ev1_
  refine j_pop E 225 rfl dL_law_224 rfl ?_
  refine j_aload_n E 226 rfl dL_law_225 rfl (lv_at hl 2 rfl) ?_
  refine j_aload_n E 227 rfl dL_law_226 rfl (lv_at hl 0 rfl) ?_
  refine j_iload_n E 228 rfl dL_law_227 rfl (lv_at hl 3 rfl) ?_
  refine j_iconst E 229 rfl dL_law_228 ?_
  refine j_iadd E 230 rfl dL_law_229 ?_
  refine lw_ld E hX hbl hL hw (by omega) 231 rfl dL_law_230 ?_
  refine lw_M E (c_X10_dies l D cy q n f ((xs (i + 1).toNat).toInt) (inR_toInt _) hw.2.2.2.2.2.1 ) mt_X10_dies ml_L_22 hK hw rfl hκ ⟨(Nat.le_of_ble_eq_true rfl), (Nat.le_of_ble_eq_true rfl)⟩ ⟨show cells ≤ 600000 by omega, show slots ≤ 7302250 by omega⟩ (As := [.int (J (xs (i + 1).toNat).toInt)]) (rest := []) rfl rfl hl.1 (Nat.le_of_ble_eq_true rfl) 234 rfl dL_law_231 (fun z n2 f2 h => by obtain ⟨_, _, e1, e2, h, -⟩ := h; rw [e1, e2]; exact h) (fun z2_ n2_ f2_ H locs rz2_ hz2_ hw => ?_)
  obtain ⟨x0m2_, y6m2_, em2_, ef2_, -, hm2_⟩ := hz2_
  have mg3_ : f2_ 3 = f 3 := congrFun ef2_ 3
  have mg4_ : f2_ 4 = f 4 := congrFun ef2_ 4
  have mg5_ : f2_ 5 = f 5 := congrFun ef2_ 5
  have mg6_ : f2_ 6 = y6m2_ := congrFun ef2_ 6
  have mg7_ : f2_ 7 = f 7 := congrFun ef2_ 7
  have mg18_ : f2_ 18 = f 18 := congrFun ef2_ 18
  have mg22_ : f2_ 22 = f 22 := congrFun ef2_ 22
  have mg32_ : f2_ 32 = f 32 := congrFun ef2_ 32
  have mg33_ : f2_ 33 = f 33 := congrFun ef2_ 33
  have mg34_ : f2_ 34 = f 34 := congrFun ef2_ 34
  have mg35_ : f2_ 35 = f 35 := congrFun ef2_ 35
  have mg36_ : f2_ 36 = f 36 := congrFun ef2_ 36
  have mg67_ : f2_ 67 = f 67 := congrFun ef2_ 67
  have mn1_ : n2_ 1 = n 1 := congrFun em2_ 1
  have mn2_ : n2_ 2 = n 2 := congrFun em2_ 2
  have mn12_ : n2_ 12 = n 12 := congrFun em2_ 12
  have mn23_ : n2_ 23 = n 23 := congrFun em2_ 23
  have mn29_ : n2_ 29 = n 29 := congrFun em2_ 29
  have mn43_ : n2_ 43 = n 43 := congrFun em2_ 43
  have mn44_ : n2_ 44 = n 44 := congrFun em2_ 44
  clear em2_
  clear ef2_
  have hd_ := R2_dies hR2 hr3_ hr2_ mn2_ cv40_ cv41_ cv42_ cv44_ mg3_ mg4_ mg5_ mg7_ cv43_ mg6_ hc1_ hm2_
  have hr2_n_ := hd_.2
  have hra_n_ := RA_same hRA cs182_ ca190_ ca191_ rfl cv303_ mn29_ mn43_ mn44_ (by omega) mg22_
  have hrf_n_ : Fut_ (f2_ 18) (n2_ 1) (n2_ 12) := by rw [mg18_, mn1_, mn12_]; exact hRF
  have hrk_n_ := RBk_same hRK (fun _ => rfl) cv25_ mn12_ mg67_
  have hrs_n_ : RS T v1_ x n2_ f2_ := RS_same hSg_ (by rw [cv300_, cs182_]; exact hWd_) mn29_ mg32_ mg33_ mg34_ mg35_ mg36_
  clear hc1_
  refine j_pop E 235 rfl dL_law_234 rfl ?_
  refine j_goto E 1315 dL_law_235 (by decide) ?_
  exact W.widen (by omega) (by omega) (next _ _ _ _ _ _ ls hw ⟨by omega, by omega, by omega, by omega⟩ hr2_n_ hra_n_ hrk_n_ hrs_n_ hrf_n_ hl)
set_option maxHeartbeats 4000000 in
set_option maxRecDepth 100000 in
theorem lc_2 {p : Program} {l : Launch} {e : Env} {s : State} {m : MethodId} {below : List Frame} {meth : Method} {c : Code} {H : Heap} {locs : List Loc} {cells slots : Nat} {QW : State → Prop} {ls : Array Slot} {D : va_G} {cy : Nat → ClassId} {κ T : Nat → Nat → Nat} {v : Nat → Nat → Int} {q : Nat → Nat} {n : Nat → Int} {f : Nat → Int → Int} {x b L : Nat} {xs : Nat → Int32} (E : CX p s m #[Value.ref b] meth c RL cL_law 4 ret) (hK : KK D cy s) (hZ : ZZ κ s s.heap) (hκ : κ 2 0 < s.heap.size) (hX : va_X b L xs s s.heap) (hbl : b < s.heap.size) (hL : L ≤ 4096) {i : Int} (hi : 0 ≤ i ∧ i + 8 ≤ (L : Int)) (hf : cells + 6 ≤ 600000 ∧ slots + 7000 ≤ 7302250) (hw : LW D cy κ x T v q n f s H locs) (hR : RB T v x n) (hR2 : R2 T v x n f) (hRA : RA T v x n f) (hRK : RBk T v x n f) (hRS : RS T v x n f) (hRF : Fut_ (f 18) (n 1) (n 12)) (hl : lv_has ls 4 [(0, .ref b), (1, .ref x), (2, .ref (q 0)), (3, .int (J i))])
    (next : ∀ (T : Nat → Nat → Nat) (v : Nat → Nat → Int) (n : Nat → Int) (f : Nat → Int → Int) (H : Heap) (locs : List Loc) (ls : Array Slot), LW D cy κ x T v q n f s H locs → RB T v x n → R2 T v x n f → RA T v x n f → RBk T v x n f → RS T v x n f → Fut_ (f 18) (n 1) (n 12) → lv_has ls 4 [(0, .ref b), (1, .ref x), (2, .ref (q 0)), (3, .int (J i))] → W p l e room_1 s m #[Value.ref b] below meth c H locs (cells + 6) (slots + 7000) QW (F0 m 1315 ls [])) : W p l e room_1 s m #[Value.ref b] below meth c H locs cells slots QW (F0 m 238 ls []) := by
  obtain ⟨hr1_, hr2_, hr3_, hr4_⟩ := hR
  have hMI_ := hw.2.2.2.2.2.1
  have j1_ := hMI_.1
  have j2_ := hMI_.2.1
  have j3_ := hMI_.2.2.1
  have j4_ := hMI_.2.2.2.1
  have j5_ := hMI_.2.2.2.2.1
  have m_book := hMI_.2.2.2.2.2.2.2.2.2.2.1
  have m_cod := hMI_.2.2.2.2.2.2.2.2.2.2.2.2.2.1
  clear hMI_
  obtain ⟨S1_, S2_, S3_, hWd_, hSg_⟩ := hRS
  have hwC_ := hw.1
  have t9_ := hw.2.1
  have hnw_ : ∀ q_, H.size ≤ q_ → ∀ i_ : Nat, (i_ : Int) < v 202 (T 181 x) → ∀ y_ : Nat, ELn_ T 181 x i_ = y_ + 1 → y_ ≠ q_ := fun q_ hq_ => fr_of hwC_ (wt_181 hwC_.2.1 t9_) hq_
  have ra1_ := hRA.1
  have ra2_ := hRA.2.1
  have ra3_ := hRA.2.2.1
  refine j_aload_n E 239 rfl dL_law_238 rfl (lv_at hl 1 rfl) ?_
  refine j_aload_n E 240 rfl dL_law_239 rfl (lv_at hl 0 rfl) ?_
  refine j_iload_n E 241 rfl dL_law_240 rfl (lv_at hl 3 rfl) ?_
  refine j_iconst E 242 rfl dL_law_241 ?_
  refine j_iadd E 243 rfl dL_law_242 ?_
  refine lw_ld E hX hbl hL hw (by omega) 244 rfl dL_law_243 ?_
  refine j_aload_n E 245 rfl dL_law_244 rfl (lv_at hl 0 rfl) ?_
  refine j_iload_n E 246 rfl dL_law_245 rfl (lv_at hl 3 rfl) ?_
  refine j_iconst E 247 rfl dL_law_246 ?_
  refine j_iadd E 248 rfl dL_law_247 ?_
  refine lw_ld E hX hbl hL hw (by omega) 249 rfl dL_law_248 ?_
  refine j_if_eq E 252 256 rfl (inR_toInt _) dL_law_249 (by decide) (fun c1_ => ?_) (fun c1_ => ?_)
  · refine j_iconst E 257 rfl dL_law_256 ?_
    refine lw_C E (c_X9_holds l D cy T v x ((xs (i + 1).toNat).toInt) 0 hw.2.1 (inR_toInt _) (rr (by decide))) mt_X9_holds ml_L_23 hK hw rfl ⟨(Nat.le_of_ble_eq_true rfl), (Nat.le_of_ble_eq_true rfl)⟩ ⟨show cells ≤ 600000 by omega, show slots ≤ 7302250 by omega⟩ (As := [.int (J (xs (i + 1).toNat).toInt), .int (J 0)]) (rest := []) rfl rfl hl.1 (Nat.le_of_ble_eq_true rfl) 260 rfl dL_law_257 (fun z2_ v2_ H locs rz2_ hz2_ hw => ?_)
    obtain ⟨y301_2, ev2_, hc2_⟩ := hz2_
    have ca186_ : v2_ 186 x = v 186 x := congrFun (congrFun ev2_ 186) x
    have ca187_ : v2_ 187 x = v 187 x := congrFun (congrFun ev2_ 187) x
    have ca190_ : v2_ 190 x = v 190 x := congrFun (congrFun ev2_ 190) x
    have ca191_ : v2_ 191 x = v 191 x := congrFun (congrFun ev2_ 191) x
    have cs180_ : v2_ 202 (T 180 x) = v 202 (T 180 x) := congrFun (congrFun ev2_ 202) (T 180 x)
    have cs181_ : v2_ 202 (T 181 x) = v 202 (T 181 x) := congrFun (congrFun ev2_ 202) (T 181 x)
    have cs182_ : v2_ 202 (T 182 x) = v 202 (T 182 x) := congrFun (congrFun ev2_ 202) (T 182 x)
    have cv40_ : v2_ 40 = v 40 := congrFun ev2_ 40
    have cv41_ : v2_ 41 = v 41 := congrFun ev2_ 41
    have cv42_ : v2_ 42 = v 42 := congrFun ev2_ 42
    have cv43_ : v2_ 43 = v 43 := congrFun ev2_ 43
    have cv44_ : v2_ 44 = v 44 := congrFun ev2_ 44
    have cv303_ : v2_ 303 = v 303 := congrFun ev2_ 303
    have cv25_ : v2_ 25 = v 25 := congrFun ev2_ 25
    have cv300_ : v2_ 300 = v 300 := congrFun ev2_ 300
    clear ev2_
    refine j_pop E 261 rfl dL_law_260 rfl ?_
    refine j_aload_n E 262 rfl dL_law_261 rfl (lv_at hl 2 rfl) ?_
    refine j_aload_n E 263 rfl dL_law_262 rfl (lv_at hl 0 rfl) ?_
    refine j_iload_n E 264 rfl dL_law_263 rfl (lv_at hl 3 rfl) ?_
    refine j_iconst E 265 rfl dL_law_264 ?_
    refine j_iadd E 266 rfl dL_law_265 ?_
    refine lw_ld E hX hbl hL hw (by omega) 267 rfl dL_law_266 ?_
    refine j_aload_n E 268 rfl dL_law_267 rfl (lv_at hl 0 rfl) ?_
    refine j_iload_n E 269 rfl dL_law_268 rfl (lv_at hl 3 rfl) ?_
    refine j_iconst E 270 rfl dL_law_269 ?_
    refine j_iadd E 271 rfl dL_law_270 ?_
    refine lw_ld E hX hbl hL hw (by omega) 272 rfl dL_law_271 ?_
    refine j_if_eq E 275 279 rfl (inR_toInt _) dL_law_272 (by decide) (fun _ => ?_) (fun c2_ => absurd c1_ c2_)
    refine j_iconst E 280 rfl dL_law_279 ?_
    refine lw_M E (c_X10_holds l D cy q n f ((xs (i + 1).toNat).toInt) 0 (inR_toInt _) (rr (by decide)) hw.2.2.2.2.2.1 (Or.inl rfl)) mt_X10_holds ml_L_27 hK hw rfl hκ ⟨(Nat.le_of_ble_eq_true rfl), (Nat.le_of_ble_eq_true rfl)⟩ ⟨show cells ≤ 600000 by omega, show slots ≤ 7302250 by omega⟩ (As := [.int (J (xs (i + 1).toNat).toInt), .int (J 0)]) (rest := []) rfl rfl hl.1 (Nat.le_of_ble_eq_true rfl) 283 rfl dL_law_280 (fun z n2 f2 h => by obtain ⟨_, _, e1, e2, h, -⟩ := h; rw [e1, e2]; exact h) (fun z3_ n3_ f3_ H locs rz3_ hz3_ hw => ?_)
    obtain ⟨x0m3_, y9m3_, em3_, ef3_, -, hm3_⟩ := hz3_
    have mg3_ : f3_ 3 = f 3 := congrFun ef3_ 3
    have mg4_ : f3_ 4 = f 4 := congrFun ef3_ 4
    have mg5_ : f3_ 5 = f 5 := congrFun ef3_ 5
    have mg6_ : f3_ 6 = f 6 := congrFun ef3_ 6
    have mg7_ : f3_ 7 = f 7 := congrFun ef3_ 7
    have mg18_ : f3_ 18 = f 18 := congrFun ef3_ 18
    have mg22_ : f3_ 22 = f 22 := congrFun ef3_ 22
    have mg32_ : f3_ 32 = f 32 := congrFun ef3_ 32
    have mg33_ : f3_ 33 = f 33 := congrFun ef3_ 33
    have mg34_ : f3_ 34 = f 34 := congrFun ef3_ 34
    have mg35_ : f3_ 35 = f 35 := congrFun ef3_ 35
    have mg36_ : f3_ 36 = f 36 := congrFun ef3_ 36
    have mg67_ : f3_ 67 = f 67 := congrFun ef3_ 67
    have mn1_ : n3_ 1 = n 1 := congrFun em3_ 1
    have mn2_ : n3_ 2 = n 2 := congrFun em3_ 2
    have mn12_ : n3_ 12 = n 12 := congrFun em3_ 12
    have mn23_ : n3_ 23 = n 23 := congrFun em3_ 23
    have mn29_ : n3_ 29 = n 29 := congrFun em3_ 29
    have mn43_ : n3_ 43 = n 43 := congrFun em3_ 43
    have mn44_ : n3_ 44 = n 44 := congrFun em3_ 44
    clear em3_
    clear ef3_
    have hr2_n_ := R2_same hR2 (fun _ => rfl) cv40_ cv41_ cv42_ cv43_ cv44_ mn2_ mg3_ mg4_ mg5_ mg6_ mg7_
    have hra_n_ := RA_same hRA cs182_ ca190_ ca191_ rfl cv303_ mn29_ mn43_ mn44_ (by omega) mg22_
    have hrf_n_ : Fut_ (f3_ 18) (n3_ 1) (n3_ 12) := by rw [mg18_, mn1_, mn12_]; exact hRF
    have hrk_n_ := RBk_same hRK (fun _ => rfl) cv25_ mn12_ mg67_
    have hrs_n_ : RS T v2_ x n3_ f3_ := RS_same hSg_ (by rw [cv300_, cs182_]; exact hWd_) mn29_ mg32_ mg33_ mg34_ mg35_ mg36_
    clear hc2_
    refine j_pop E 284 rfl dL_law_283 rfl ?_
    refine j_goto E 1315 dL_law_284 (by decide) ?_
    exact W.widen (by omega) (by omega) (next _ _ _ _ _ _ ls hw ⟨by omega, by omega, by omega, by omega⟩ hr2_n_ hra_n_ hrk_n_ hrs_n_ hrf_n_ hl)
  · refine j_iconst E 253 rfl dL_law_252 ?_
    refine j_goto E 257 dL_law_253 (by decide) ?_
    refine lw_C E (c_X9_holds l D cy T v x ((xs (i + 1).toNat).toInt) 1 hw.2.1 (inR_toInt _) (rr (by decide))) mt_X9_holds ml_L_23 hK hw rfl ⟨(Nat.le_of_ble_eq_true rfl), (Nat.le_of_ble_eq_true rfl)⟩ ⟨show cells ≤ 600000 by omega, show slots ≤ 7302250 by omega⟩ (As := [.int (J (xs (i + 1).toNat).toInt), .int (J 1)]) (rest := []) rfl rfl hl.1 (Nat.le_of_ble_eq_true rfl) 260 rfl dL_law_257 (fun z4_ v4_ H locs rz4_ hz4_ hw => ?_)
    obtain ⟨y301_4, ev4_, hc4_⟩ := hz4_
    have ca186_ : v4_ 186 x = v 186 x := congrFun (congrFun ev4_ 186) x
    have ca187_ : v4_ 187 x = v 187 x := congrFun (congrFun ev4_ 187) x
    have ca190_ : v4_ 190 x = v 190 x := congrFun (congrFun ev4_ 190) x
    have ca191_ : v4_ 191 x = v 191 x := congrFun (congrFun ev4_ 191) x
    have cs180_ : v4_ 202 (T 180 x) = v 202 (T 180 x) := congrFun (congrFun ev4_ 202) (T 180 x)
    have cs181_ : v4_ 202 (T 181 x) = v 202 (T 181 x) := congrFun (congrFun ev4_ 202) (T 181 x)
    have cs182_ : v4_ 202 (T 182 x) = v 202 (T 182 x) := congrFun (congrFun ev4_ 202) (T 182 x)
    have cv40_ : v4_ 40 = v 40 := congrFun ev4_ 40
    have cv41_ : v4_ 41 = v 41 := congrFun ev4_ 41
    have cv42_ : v4_ 42 = v 42 := congrFun ev4_ 42
    have cv43_ : v4_ 43 = v 43 := congrFun ev4_ 43
    have cv44_ : v4_ 44 = v 44 := congrFun ev4_ 44
    have cv303_ : v4_ 303 = v 303 := congrFun ev4_ 303
    have cv25_ : v4_ 25 = v 25 := congrFun ev4_ 25
    have cv300_ : v4_ 300 = v 300 := congrFun ev4_ 300
    clear ev4_
    refine j_pop E 261 rfl dL_law_260 rfl ?_
    refine j_aload_n E 262 rfl dL_law_261 rfl (lv_at hl 2 rfl) ?_
    refine j_aload_n E 263 rfl dL_law_262 rfl (lv_at hl 0 rfl) ?_
    refine j_iload_n E 264 rfl dL_law_263 rfl (lv_at hl 3 rfl) ?_
    refine j_iconst E 265 rfl dL_law_264 ?_
    refine j_iadd E 266 rfl dL_law_265 ?_
    refine lw_ld E hX hbl hL hw (by omega) 267 rfl dL_law_266 ?_
    refine j_aload_n E 268 rfl dL_law_267 rfl (lv_at hl 0 rfl) ?_
    refine j_iload_n E 269 rfl dL_law_268 rfl (lv_at hl 3 rfl) ?_
    refine j_iconst E 270 rfl dL_law_269 ?_
    refine j_iadd E 271 rfl dL_law_270 ?_
    refine lw_ld E hX hbl hL hw (by omega) 272 rfl dL_law_271 ?_
    refine j_if_eq E 275 279 rfl (inR_toInt _) dL_law_272 (by decide) (fun c2_ => absurd c2_ c1_) (fun _ => ?_)
    refine j_iconst E 276 rfl dL_law_275 ?_
    refine j_goto E 280 dL_law_276 (by decide) ?_
    refine lw_M E (c_X10_holds l D cy q n f ((xs (i + 1).toNat).toInt) 1 (inR_toInt _) (rr (by decide)) hw.2.2.2.2.2.1 (Or.inr rfl)) mt_X10_holds ml_L_27 hK hw rfl hκ ⟨(Nat.le_of_ble_eq_true rfl), (Nat.le_of_ble_eq_true rfl)⟩ ⟨show cells ≤ 600000 by omega, show slots ≤ 7302250 by omega⟩ (As := [.int (J (xs (i + 1).toNat).toInt), .int (J 1)]) (rest := []) rfl rfl hl.1 (Nat.le_of_ble_eq_true rfl) 283 rfl dL_law_280 (fun z n2 f2 h => by obtain ⟨_, _, e1, e2, h, -⟩ := h; rw [e1, e2]; exact h) (fun z5_ n5_ f5_ H locs rz5_ hz5_ hw => ?_)
    obtain ⟨x0m5_, y9m5_, em5_, ef5_, -, hm5_⟩ := hz5_
    have mg3_ : f5_ 3 = f 3 := congrFun ef5_ 3
    have mg4_ : f5_ 4 = f 4 := congrFun ef5_ 4
    have mg5_ : f5_ 5 = f 5 := congrFun ef5_ 5
    have mg6_ : f5_ 6 = f 6 := congrFun ef5_ 6
    have mg7_ : f5_ 7 = f 7 := congrFun ef5_ 7
    have mg18_ : f5_ 18 = f 18 := congrFun ef5_ 18
    have mg22_ : f5_ 22 = f 22 := congrFun ef5_ 22
    have mg32_ : f5_ 32 = f 32 := congrFun ef5_ 32
    have mg33_ : f5_ 33 = f 33 := congrFun ef5_ 33
    have mg34_ : f5_ 34 = f 34 := congrFun ef5_ 34
    have mg35_ : f5_ 35 = f 35 := congrFun ef5_ 35
    have mg36_ : f5_ 36 = f 36 := congrFun ef5_ 36
    have mg67_ : f5_ 67 = f 67 := congrFun ef5_ 67
    have mn1_ : n5_ 1 = n 1 := congrFun em5_ 1
    have mn2_ : n5_ 2 = n 2 := congrFun em5_ 2
    have mn12_ : n5_ 12 = n 12 := congrFun em5_ 12
    have mn23_ : n5_ 23 = n 23 := congrFun em5_ 23
    have mn29_ : n5_ 29 = n 29 := congrFun em5_ 29
    have mn43_ : n5_ 43 = n 43 := congrFun em5_ 43
    have mn44_ : n5_ 44 = n 44 := congrFun em5_ 44
    clear em5_
    clear ef5_
    have hr2_n_ := R2_same hR2 (fun _ => rfl) cv40_ cv41_ cv42_ cv43_ cv44_ mn2_ mg3_ mg4_ mg5_ mg6_ mg7_
    have hra_n_ := RA_same hRA cs182_ ca190_ ca191_ rfl cv303_ mn29_ mn43_ mn44_ (by omega) mg22_
    have hrf_n_ : Fut_ (f5_ 18) (n5_ 1) (n5_ 12) := by rw [mg18_, mn1_, mn12_]; exact hRF
    have hrk_n_ := RBk_same hRK (fun _ => rfl) cv25_ mn12_ mg67_
    have hrs_n_ : RS T v4_ x n5_ f5_ := RS_same hSg_ (by rw [cv300_, cs182_]; exact hWd_) mn29_ mg32_ mg33_ mg34_ mg35_ mg36_
    clear hc4_
    refine j_pop E 284 rfl dL_law_283 rfl ?_
    refine j_goto E 1315 dL_law_284 (by decide) ?_
    exact W.widen (by omega) (by omega) (next _ _ _ _ _ _ ls hw ⟨by omega, by omega, by omega, by omega⟩ hr2_n_ hra_n_ hrk_n_ hrs_n_ hrf_n_ hl)
set_option maxHeartbeats 4000000 in
set_option maxRecDepth 100000 in
theorem lc_3 {p : Program} {l : Launch} {e : Env} {s : State} {m : MethodId} {below : List Frame} {meth : Method} {c : Code} {H : Heap} {locs : List Loc} {cells slots : Nat} {QW : State → Prop} {ls : Array Slot} {D : va_G} {cy : Nat → ClassId} {κ T : Nat → Nat → Nat} {v : Nat → Nat → Int} {q : Nat → Nat} {n : Nat → Int} {f : Nat → Int → Int} {x b L : Nat} {xs : Nat → Int32} (E : CX p s m #[Value.ref b] meth c RL cL_law 4 ret) (hK : KK D cy s) (hZ : ZZ κ s s.heap) (hκ : κ 2 0 < s.heap.size) (hX : va_X b L xs s s.heap) (hbl : b < s.heap.size) (hL : L ≤ 4096) {i : Int} (hi : 0 ≤ i ∧ i + 8 ≤ (L : Int)) (hf : cells + 6 ≤ 600000 ∧ slots + 7000 ≤ 7302250) (hw : LW D cy κ x T v q n f s H locs) (hR : RB T v x n) (hR2 : R2 T v x n f) (hRA : RA T v x n f) (hRK : RBk T v x n f) (hRS : RS T v x n f) (hRF : Fut_ (f 18) (n 1) (n 12)) (hl : lv_has ls 4 [(0, .ref b), (1, .ref x), (2, .ref (q 0)), (3, .int (J i))])
    (next : ∀ (T : Nat → Nat → Nat) (v : Nat → Nat → Int) (n : Nat → Int) (f : Nat → Int → Int) (H : Heap) (locs : List Loc) (ls : Array Slot), LW D cy κ x T v q n f s H locs → RB T v x n → R2 T v x n f → RA T v x n f → RBk T v x n f → RS T v x n f → Fut_ (f 18) (n 1) (n 12) → lv_has ls 4 [(0, .ref b), (1, .ref x), (2, .ref (q 0)), (3, .int (J i))] → W p l e room_1 s m #[Value.ref b] below meth c H locs (cells + 6) (slots + 7000) QW (F0 m 1315 ls [])) : W p l e room_1 s m #[Value.ref b] below meth c H locs cells slots QW (F0 m 287 ls []) := by
  obtain ⟨hr1_, hr2_, hr3_, hr4_⟩ := hR
  have hMI_ := hw.2.2.2.2.2.1
  have j1_ := hMI_.1
  have j2_ := hMI_.2.1
  have j3_ := hMI_.2.2.1
  have j4_ := hMI_.2.2.2.1
  have j5_ := hMI_.2.2.2.2.1
  have m_book := hMI_.2.2.2.2.2.2.2.2.2.2.1
  have m_cod := hMI_.2.2.2.2.2.2.2.2.2.2.2.2.2.1
  clear hMI_
  obtain ⟨S1_, S2_, S3_, hWd_, hSg_⟩ := hRS
  have hwC_ := hw.1
  have t9_ := hw.2.1
  have hnw_ : ∀ q_, H.size ≤ q_ → ∀ i_ : Nat, (i_ : Int) < v 202 (T 181 x) → ∀ y_ : Nat, ELn_ T 181 x i_ = y_ + 1 → y_ ≠ q_ := fun q_ hq_ => fr_of hwC_ (wt_181 hwC_.2.1 t9_) hq_
  have ra1_ := hRA.1
  have ra2_ := hRA.2.1
  have ra3_ := hRA.2.2.1
  refine j_aload_n E 288 rfl dL_law_287 rfl (lv_at hl 1 rfl) ?_
  refine j_aload_n E 289 rfl dL_law_288 rfl (lv_at hl 0 rfl) ?_
  refine j_iload_n E 290 rfl dL_law_289 rfl (lv_at hl 3 rfl) ?_
  refine j_iconst E 291 rfl dL_law_290 ?_
  refine j_iadd E 292 rfl dL_law_291 ?_
  refine lw_ld E hX hbl hL hw (by omega) 293 rfl dL_law_292 ?_
  refine lw_C E (c_X9_away l D cy T v x ((xs (i + 1).toNat).toInt) hw.2.1 (inR_toInt _)) mt_X9_away ml_L_28 hK hw rfl ⟨(Nat.le_of_ble_eq_true rfl), (Nat.le_of_ble_eq_true rfl)⟩ ⟨show cells ≤ 600000 by omega, show slots ≤ 7302250 by omega⟩ (As := [.int (J (xs (i + 1).toNat).toInt)]) (rest := []) rfl rfl hl.1 (Nat.le_of_ble_eq_true rfl) 296 rfl dL_law_293 (fun z1_ v1_ H locs rz1_ hz1_ hw => ?_)
  obtain ⟨y44_1, ev1_, hc1_⟩ := hz1_
  have ca186_ : v1_ 186 x = v 186 x := congrFun (congrFun ev1_ 186) x
  have ca187_ : v1_ 187 x = v 187 x := congrFun (congrFun ev1_ 187) x
  have ca190_ : v1_ 190 x = v 190 x := congrFun (congrFun ev1_ 190) x
  have ca191_ : v1_ 191 x = v 191 x := congrFun (congrFun ev1_ 191) x
  have cs180_ : v1_ 202 (T 180 x) = v 202 (T 180 x) := congrFun (congrFun ev1_ 202) (T 180 x)
  have cs181_ : v1_ 202 (T 181 x) = v 202 (T 181 x) := congrFun (congrFun ev1_ 202) (T 181 x)
  have cs182_ : v1_ 202 (T 182 x) = v 202 (T 182 x) := congrFun (congrFun ev1_ 202) (T 182 x)
  have cv40_ : v1_ 40 = v 40 := congrFun ev1_ 40
  have cv41_ : v1_ 41 = v 41 := congrFun ev1_ 41
  have cv42_ : v1_ 42 = v 42 := congrFun ev1_ 42
  have cv43_ : v1_ 43 = v 43 := congrFun ev1_ 43
  have cv44_ : v1_ 44 = y44_1 := congrFun ev1_ 44
  have cv303_ : v1_ 303 = v 303 := congrFun ev1_ 303
  have cv25_ : v1_ 25 = v 25 := congrFun ev1_ 25
  have cv300_ : v1_ 300 = v 300 := congrFun ev1_ 300
  clear ev1_
  refine j_pop E 297 rfl dL_law_296 rfl ?_
  refine j_aload_n E 298 rfl dL_law_297 rfl (lv_at hl 2 rfl) ?_
  refine j_aload_n E 299 rfl dL_law_298 rfl (lv_at hl 0 rfl) ?_
  refine j_iload_n E 300 rfl dL_law_299 rfl (lv_at hl 3 rfl) ?_
  refine j_iconst E 301 rfl dL_law_300 ?_
  refine j_iadd E 302 rfl dL_law_301 ?_
  refine lw_ld E hX hbl hL hw (by omega) 303 rfl dL_law_302 ?_
  refine lw_M E (c_X10_away l D cy q n f ((xs (i + 1).toNat).toInt) (inR_toInt _) hw.2.2.2.2.2.1 ) mt_X10_away ml_L_31 hK hw rfl hκ ⟨(Nat.le_of_ble_eq_true rfl), (Nat.le_of_ble_eq_true rfl)⟩ ⟨show cells ≤ 600000 by omega, show slots ≤ 7302250 by omega⟩ (As := [.int (J (xs (i + 1).toNat).toInt)]) (rest := []) rfl rfl hl.1 (Nat.le_of_ble_eq_true rfl) 306 rfl dL_law_303 (fun z n2 f2 h => by obtain ⟨_, _, e1, e2, h, -⟩ := h; rw [e1, e2]; exact h) (fun z2_ n2_ f2_ H locs rz2_ hz2_ hw => ?_)
  obtain ⟨x0m2_, y7m2_, em2_, ef2_, -, hm2_⟩ := hz2_
  have mg3_ : f2_ 3 = f 3 := congrFun ef2_ 3
  have mg4_ : f2_ 4 = f 4 := congrFun ef2_ 4
  have mg5_ : f2_ 5 = f 5 := congrFun ef2_ 5
  have mg6_ : f2_ 6 = f 6 := congrFun ef2_ 6
  have mg7_ : f2_ 7 = y7m2_ := congrFun ef2_ 7
  have mg18_ : f2_ 18 = f 18 := congrFun ef2_ 18
  have mg22_ : f2_ 22 = f 22 := congrFun ef2_ 22
  have mg32_ : f2_ 32 = f 32 := congrFun ef2_ 32
  have mg33_ : f2_ 33 = f 33 := congrFun ef2_ 33
  have mg34_ : f2_ 34 = f 34 := congrFun ef2_ 34
  have mg35_ : f2_ 35 = f 35 := congrFun ef2_ 35
  have mg36_ : f2_ 36 = f 36 := congrFun ef2_ 36
  have mg67_ : f2_ 67 = f 67 := congrFun ef2_ 67
  have mn1_ : n2_ 1 = n 1 := congrFun em2_ 1
  have mn2_ : n2_ 2 = n 2 := congrFun em2_ 2
  have mn12_ : n2_ 12 = n 12 := congrFun em2_ 12
  have mn23_ : n2_ 23 = n 23 := congrFun em2_ 23
  have mn29_ : n2_ 29 = n 29 := congrFun em2_ 29
  have mn43_ : n2_ 43 = n 43 := congrFun em2_ 43
  have mn44_ : n2_ 44 = n 44 := congrFun em2_ 44
  clear em2_
  clear ef2_
  have hd_ := R2_away hR2 hr3_ mn2_ cv40_ cv41_ cv42_ cv43_ mg3_ mg4_ mg5_ mg6_ cv44_ mg7_ hc1_ hm2_
  have hr2_n_ := hd_.2
  have hra_n_ := RA_same hRA cs182_ ca190_ ca191_ rfl cv303_ mn29_ mn43_ mn44_ (by omega) mg22_
  have hrf_n_ : Fut_ (f2_ 18) (n2_ 1) (n2_ 12) := by rw [mg18_, mn1_, mn12_]; exact hRF
  have hrk_n_ := RBk_same hRK (fun _ => rfl) cv25_ mn12_ mg67_
  have hrs_n_ : RS T v1_ x n2_ f2_ := RS_same hSg_ (by rw [cv300_, cs182_]; exact hWd_) mn29_ mg32_ mg33_ mg34_ mg35_ mg36_
  clear hc1_
  refine j_pop E 307 rfl dL_law_306 rfl ?_
  refine j_goto E 1315 dL_law_307 (by decide) ?_
  exact W.widen (by omega) (by omega) (next _ _ _ _ _ _ ls hw ⟨by omega, by omega, by omega, by omega⟩ hr2_n_ hra_n_ hrk_n_ hrs_n_ hrf_n_ hl)
set_option maxHeartbeats 4000000 in
set_option maxRecDepth 100000 in
theorem lc_4 {p : Program} {l : Launch} {e : Env} {s : State} {m : MethodId} {below : List Frame} {meth : Method} {c : Code} {H : Heap} {locs : List Loc} {cells slots : Nat} {QW : State → Prop} {ls : Array Slot} {D : va_G} {cy : Nat → ClassId} {κ T : Nat → Nat → Nat} {v : Nat → Nat → Int} {q : Nat → Nat} {n : Nat → Int} {f : Nat → Int → Int} {x b L : Nat} {xs : Nat → Int32} (E : CX p s m #[Value.ref b] meth c RL cL_law 4 ret) (hK : KK D cy s) (hZ : ZZ κ s s.heap) (hκ : κ 2 0 < s.heap.size) (hX : va_X b L xs s s.heap) (hbl : b < s.heap.size) (hL : L ≤ 4096) {i : Int} (hi : 0 ≤ i ∧ i + 8 ≤ (L : Int)) (hf : cells + 6 ≤ 600000 ∧ slots + 7000 ≤ 7302250) (hw : LW D cy κ x T v q n f s H locs) (hR : RB T v x n) (hR2 : R2 T v x n f) (hRA : RA T v x n f) (hRK : RBk T v x n f) (hRS : RS T v x n f) (hRF : Fut_ (f 18) (n 1) (n 12)) (hl : lv_has ls 4 [(0, .ref b), (1, .ref x), (2, .ref (q 0)), (3, .int (J i))])
    (next : ∀ (T : Nat → Nat → Nat) (v : Nat → Nat → Int) (n : Nat → Int) (f : Nat → Int → Int) (H : Heap) (locs : List Loc) (ls : Array Slot), LW D cy κ x T v q n f s H locs → RB T v x n → R2 T v x n f → RA T v x n f → RBk T v x n f → RS T v x n f → Fut_ (f 18) (n 1) (n 12) → lv_has ls 4 [(0, .ref b), (1, .ref x), (2, .ref (q 0)), (3, .int (J i))] → W p l e room_1 s m #[Value.ref b] below meth c H locs (cells + 6) (slots + 7000) QW (F0 m 1315 ls [])) : W p l e room_1 s m #[Value.ref b] below meth c H locs cells slots QW (F0 m 310 ls []) := by
  obtain ⟨hr1_, hr2_, hr3_, hr4_⟩ := hR
  have hMI_ := hw.2.2.2.2.2.1
  have j1_ := hMI_.1
  have j2_ := hMI_.2.1
  have j3_ := hMI_.2.2.1
  have j4_ := hMI_.2.2.2.1
  have j5_ := hMI_.2.2.2.2.1
  have m_book := hMI_.2.2.2.2.2.2.2.2.2.2.1
  have m_cod := hMI_.2.2.2.2.2.2.2.2.2.2.2.2.2.1
  clear hMI_
  obtain ⟨S1_, S2_, S3_, hWd_, hSg_⟩ := hRS
  have hwC_ := hw.1
  have t9_ := hw.2.1
  have hnw_ : ∀ q_, H.size ≤ q_ → ∀ i_ : Nat, (i_ : Int) < v 202 (T 181 x) → ∀ y_ : Nat, ELn_ T 181 x i_ = y_ + 1 → y_ ≠ q_ := fun q_ hq_ => fr_of hwC_ (wt_181 hwC_.2.1 t9_) hq_
  have ra1_ := hRA.1
  have ra2_ := hRA.2.1
  have ra3_ := hRA.2.2.1
  refine j_aload_n E 311 rfl dL_law_310 rfl (lv_at hl 1 rfl) ?_
  refine j_aload_n E 312 rfl dL_law_311 rfl (lv_at hl 0 rfl) ?_
  refine j_iload_n E 313 rfl dL_law_312 rfl (lv_at hl 3 rfl) ?_
  refine j_iconst E 314 rfl dL_law_313 ?_
  refine j_iadd E 315 rfl dL_law_314 ?_
  refine lw_ld E hX hbl hL hw (by omega) 316 rfl dL_law_315 ?_
  refine lw_C E (c_X9_speaker l D cy T v x ((xs (i + 1).toNat).toInt) hw.2.1 (inR_toInt _)) mt_X9_speaker ml_L_32 hK hw rfl ⟨(Nat.le_of_ble_eq_true rfl), (Nat.le_of_ble_eq_true rfl)⟩ ⟨show cells ≤ 600000 by omega, show slots ≤ 7302250 by omega⟩ (As := [.int (J (xs (i + 1).toNat).toInt)]) (rest := []) rfl rfl hl.1 (Nat.le_of_ble_eq_true rfl) 319 rfl dL_law_316 (fun z1_ v1_ H locs rz1_ hz1_ hw => ?_)
  obtain ⟨y188_1, ev1_, hc1_⟩ := hz1_
  have ca186_ : v1_ 186 x = v 186 x := congrFun (congrFun ev1_ 186) x
  have ca187_ : v1_ 187 x = v 187 x := congrFun (congrFun ev1_ 187) x
  have ca190_ : v1_ 190 x = v 190 x := congrFun (congrFun ev1_ 190) x
  have ca191_ : v1_ 191 x = v 191 x := congrFun (congrFun ev1_ 191) x
  have cs180_ : v1_ 202 (T 180 x) = v 202 (T 180 x) := congrFun (congrFun ev1_ 202) (T 180 x)
  have cs181_ : v1_ 202 (T 181 x) = v 202 (T 181 x) := congrFun (congrFun ev1_ 202) (T 181 x)
  have cs182_ : v1_ 202 (T 182 x) = v 202 (T 182 x) := congrFun (congrFun ev1_ 202) (T 182 x)
  have cv40_ : v1_ 40 = v 40 := congrFun ev1_ 40
  have cv41_ : v1_ 41 = v 41 := congrFun ev1_ 41
  have cv42_ : v1_ 42 = v 42 := congrFun ev1_ 42
  have cv43_ : v1_ 43 = v 43 := congrFun ev1_ 43
  have cv44_ : v1_ 44 = v 44 := congrFun ev1_ 44
  have cv303_ : v1_ 303 = v 303 := congrFun ev1_ 303
  have cv25_ : v1_ 25 = v 25 := congrFun ev1_ 25
  have cv300_ : v1_ 300 = v 300 := congrFun ev1_ 300
  clear ev1_
  refine j_pop E 320 rfl dL_law_319 rfl ?_
  refine j_aload_n E 321 rfl dL_law_320 rfl (lv_at hl 2 rfl) ?_
  refine j_aload_n E 322 rfl dL_law_321 rfl (lv_at hl 0 rfl) ?_
  refine j_iload_n E 323 rfl dL_law_322 rfl (lv_at hl 3 rfl) ?_
  refine j_iconst E 324 rfl dL_law_323 ?_
  refine j_iadd E 325 rfl dL_law_324 ?_
  refine lw_ld E hX hbl hL hw (by omega) 326 rfl dL_law_325 ?_
  refine lw_M E (c_X10_speaker l D cy q n f ((xs (i + 1).toNat).toInt) (inR_toInt _) hw.2.2.2.2.2.1 ) mt_X10_speaker ml_L_35 hK hw rfl hκ ⟨(Nat.le_of_ble_eq_true rfl), (Nat.le_of_ble_eq_true rfl)⟩ ⟨show cells ≤ 600000 by omega, show slots ≤ 7302250 by omega⟩ (As := [.int (J (xs (i + 1).toNat).toInt)]) (rest := []) rfl rfl hl.1 (Nat.le_of_ble_eq_true rfl) 329 rfl dL_law_326 (fun z n2 f2 h => by obtain ⟨_, _, e1, e2, h, -⟩ := h; rw [e1, e2]; exact h) (fun z2_ n2_ f2_ H locs rz2_ hz2_ hw => ?_)
  obtain ⟨x0m2_, x10m2_, em2_, ef2_, -, hm2_⟩ := hz2_
  have mg3_ : f2_ 3 = f 3 := congrFun ef2_ 3
  have mg4_ : f2_ 4 = f 4 := congrFun ef2_ 4
  have mg5_ : f2_ 5 = f 5 := congrFun ef2_ 5
  have mg6_ : f2_ 6 = f 6 := congrFun ef2_ 6
  have mg7_ : f2_ 7 = f 7 := congrFun ef2_ 7
  have mg18_ : f2_ 18 = f 18 := congrFun ef2_ 18
  have mg22_ : f2_ 22 = f 22 := congrFun ef2_ 22
  have mg32_ : f2_ 32 = f 32 := congrFun ef2_ 32
  have mg33_ : f2_ 33 = f 33 := congrFun ef2_ 33
  have mg34_ : f2_ 34 = f 34 := congrFun ef2_ 34
  have mg35_ : f2_ 35 = f 35 := congrFun ef2_ 35
  have mg36_ : f2_ 36 = f 36 := congrFun ef2_ 36
  have mg67_ : f2_ 67 = f 67 := congrFun ef2_ 67
  have mn1_ : n2_ 1 = n 1 := congrFun em2_ 1
  have mn2_ : n2_ 2 = n 2 := congrFun em2_ 2
  have mn12_ : n2_ 12 = n 12 := congrFun em2_ 12
  have mn23_ : n2_ 23 = n 23 := congrFun em2_ 23
  have mn29_ : n2_ 29 = n 29 := congrFun em2_ 29
  have mn43_ : n2_ 43 = n 43 := congrFun em2_ 43
  have mn44_ : n2_ 44 = n 44 := congrFun em2_ 44
  clear em2_
  clear ef2_
  have hr2_n_ := R2_same hR2 (fun _ => rfl) cv40_ cv41_ cv42_ cv43_ cv44_ mn2_ mg3_ mg4_ mg5_ mg6_ mg7_
  have hra_n_ := RA_same hRA cs182_ ca190_ ca191_ rfl cv303_ mn29_ mn43_ mn44_ (by omega) mg22_
  have hrf_n_ : Fut_ (f2_ 18) (n2_ 1) (n2_ 12) := by rw [mg18_, mn1_, mn12_]; exact hRF
  have hrk_n_ := RBk_same hRK (fun _ => rfl) cv25_ mn12_ mg67_
  have hrs_n_ : RS T v1_ x n2_ f2_ := RS_same hSg_ (by rw [cv300_, cs182_]; exact hWd_) mn29_ mg32_ mg33_ mg34_ mg35_ mg36_
  clear hc1_
  refine j_pop E 330 rfl dL_law_329 rfl ?_
  refine j_goto E 1315 dL_law_330 (by decide) ?_
  exact W.widen (by omega) (by omega) (next _ _ _ _ _ _ ls hw ⟨by omega, by omega, by omega, by omega⟩ hr2_n_ hra_n_ hrk_n_ hrs_n_ hrf_n_ hl)
set_option maxHeartbeats 4000000 in
set_option maxRecDepth 100000 in
theorem lc_5 {p : Program} {l : Launch} {e : Env} {s : State} {m : MethodId} {below : List Frame} {meth : Method} {c : Code} {H : Heap} {locs : List Loc} {cells slots : Nat} {QW : State → Prop} {ls : Array Slot} {D : va_G} {cy : Nat → ClassId} {κ T : Nat → Nat → Nat} {v : Nat → Nat → Int} {q : Nat → Nat} {n : Nat → Int} {f : Nat → Int → Int} {x b L : Nat} {xs : Nat → Int32} (E : CX p s m #[Value.ref b] meth c RL cL_law 4 ret) (hK : KK D cy s) (hZ : ZZ κ s s.heap) (hκ : κ 2 0 < s.heap.size) (hX : va_X b L xs s s.heap) (hbl : b < s.heap.size) (hL : L ≤ 4096) {i : Int} (hi : 0 ≤ i ∧ i + 8 ≤ (L : Int)) (hf : cells + 6 ≤ 600000 ∧ slots + 7000 ≤ 7302250) (hw : LW D cy κ x T v q n f s H locs) (hR : RB T v x n) (hR2 : R2 T v x n f) (hRA : RA T v x n f) (hRK : RBk T v x n f) (hRS : RS T v x n f) (hRF : Fut_ (f 18) (n 1) (n 12)) (hl : lv_has ls 4 [(0, .ref b), (1, .ref x), (2, .ref (q 0)), (3, .int (J i))])
    (next : ∀ (T : Nat → Nat → Nat) (v : Nat → Nat → Int) (n : Nat → Int) (f : Nat → Int → Int) (H : Heap) (locs : List Loc) (ls : Array Slot), LW D cy κ x T v q n f s H locs → RB T v x n → R2 T v x n f → RA T v x n f → RBk T v x n f → RS T v x n f → Fut_ (f 18) (n 1) (n 12) → lv_has ls 4 [(0, .ref b), (1, .ref x), (2, .ref (q 0)), (3, .int (J i))] → W p l e room_1 s m #[Value.ref b] below meth c H locs (cells + 6) (slots + 7000) QW (F0 m 1315 ls [])) : W p l e room_1 s m #[Value.ref b] below meth c H locs cells slots QW (F0 m 333 ls []) := by
  obtain ⟨hr1_, hr2_, hr3_, hr4_⟩ := hR
  have hMI_ := hw.2.2.2.2.2.1
  have j1_ := hMI_.1
  have j2_ := hMI_.2.1
  have j3_ := hMI_.2.2.1
  have j4_ := hMI_.2.2.2.1
  have j5_ := hMI_.2.2.2.2.1
  have m_book := hMI_.2.2.2.2.2.2.2.2.2.2.1
  have m_cod := hMI_.2.2.2.2.2.2.2.2.2.2.2.2.2.1
  clear hMI_
  obtain ⟨S1_, S2_, S3_, hWd_, hSg_⟩ := hRS
  have hwC_ := hw.1
  have t9_ := hw.2.1
  have hnw_ : ∀ q_, H.size ≤ q_ → ∀ i_ : Nat, (i_ : Int) < v 202 (T 181 x) → ∀ y_ : Nat, ELn_ T 181 x i_ = y_ + 1 → y_ ≠ q_ := fun q_ hq_ => fr_of hwC_ (wt_181 hwC_.2.1 t9_) hq_
  have ra1_ := hRA.1
  have ra2_ := hRA.2.1
  have ra3_ := hRA.2.2.1
  refine j_aload_n E 334 rfl dL_law_333 rfl (lv_at hl 1 rfl) ?_
  refine j_aload_n E 335 rfl dL_law_334 rfl (lv_at hl 0 rfl) ?_
  refine j_iload_n E 336 rfl dL_law_335 rfl (lv_at hl 3 rfl) ?_
  refine j_iconst E 337 rfl dL_law_336 ?_
  refine j_iadd E 338 rfl dL_law_337 ?_
  refine lw_ld E hX hbl hL hw (by omega) 339 rfl dL_law_338 ?_
  refine lw_C E (c_X9_way l D cy T v x ((xs (i + 1).toNat).toInt) hw.2.1 (inR_toInt _)) mt_X9_way ml_L_36 hK hw rfl ⟨(Nat.le_of_ble_eq_true rfl), (Nat.le_of_ble_eq_true rfl)⟩ ⟨show cells ≤ 600000 by omega, show slots ≤ 7302250 by omega⟩ (As := [.int (J (xs (i + 1).toNat).toInt)]) (rest := []) rfl rfl hl.1 (Nat.le_of_ble_eq_true rfl) 342 rfl dL_law_339 (fun z1_ v1_ H locs rz1_ hz1_ hw => ?_)
  obtain ⟨y189_1, ev1_, hc1_⟩ := hz1_
  have ca186_ : v1_ 186 x = v 186 x := congrFun (congrFun ev1_ 186) x
  have ca187_ : v1_ 187 x = v 187 x := congrFun (congrFun ev1_ 187) x
  have ca190_ : v1_ 190 x = v 190 x := congrFun (congrFun ev1_ 190) x
  have ca191_ : v1_ 191 x = v 191 x := congrFun (congrFun ev1_ 191) x
  have cs180_ : v1_ 202 (T 180 x) = v 202 (T 180 x) := congrFun (congrFun ev1_ 202) (T 180 x)
  have cs181_ : v1_ 202 (T 181 x) = v 202 (T 181 x) := congrFun (congrFun ev1_ 202) (T 181 x)
  have cs182_ : v1_ 202 (T 182 x) = v 202 (T 182 x) := congrFun (congrFun ev1_ 202) (T 182 x)
  have cv40_ : v1_ 40 = v 40 := congrFun ev1_ 40
  have cv41_ : v1_ 41 = v 41 := congrFun ev1_ 41
  have cv42_ : v1_ 42 = v 42 := congrFun ev1_ 42
  have cv43_ : v1_ 43 = v 43 := congrFun ev1_ 43
  have cv44_ : v1_ 44 = v 44 := congrFun ev1_ 44
  have cv303_ : v1_ 303 = v 303 := congrFun ev1_ 303
  have cv25_ : v1_ 25 = v 25 := congrFun ev1_ 25
  have cv300_ : v1_ 300 = v 300 := congrFun ev1_ 300
  clear ev1_
  refine j_pop E 343 rfl dL_law_342 rfl ?_
  refine j_aload_n E 344 rfl dL_law_343 rfl (lv_at hl 2 rfl) ?_
  refine j_aload_n E 345 rfl dL_law_344 rfl (lv_at hl 0 rfl) ?_
  refine j_iload_n E 346 rfl dL_law_345 rfl (lv_at hl 3 rfl) ?_
  refine j_iconst E 347 rfl dL_law_346 ?_
  refine j_iadd E 348 rfl dL_law_347 ?_
  refine lw_ld E hX hbl hL hw (by omega) 349 rfl dL_law_348 ?_
  refine lw_M E (c_X10_way l D cy q n f ((xs (i + 1).toNat).toInt) (inR_toInt _) hw.2.2.2.2.2.1 ) mt_X10_way ml_L_39 hK hw rfl hκ ⟨(Nat.le_of_ble_eq_true rfl), (Nat.le_of_ble_eq_true rfl)⟩ ⟨show cells ≤ 600000 by omega, show slots ≤ 7302250 by omega⟩ (As := [.int (J (xs (i + 1).toNat).toInt)]) (rest := []) rfl rfl hl.1 (Nat.le_of_ble_eq_true rfl) 352 rfl dL_law_349 (fun z n2 f2 h => by obtain ⟨_, _, e1, e2, h, -⟩ := h; rw [e1, e2]; exact h) (fun z2_ n2_ f2_ H locs rz2_ hz2_ hw => ?_)
  obtain ⟨x0m2_, x11m2_, em2_, ef2_, -, hm2_⟩ := hz2_
  have mg3_ : f2_ 3 = f 3 := congrFun ef2_ 3
  have mg4_ : f2_ 4 = f 4 := congrFun ef2_ 4
  have mg5_ : f2_ 5 = f 5 := congrFun ef2_ 5
  have mg6_ : f2_ 6 = f 6 := congrFun ef2_ 6
  have mg7_ : f2_ 7 = f 7 := congrFun ef2_ 7
  have mg18_ : f2_ 18 = f 18 := congrFun ef2_ 18
  have mg22_ : f2_ 22 = f 22 := congrFun ef2_ 22
  have mg32_ : f2_ 32 = f 32 := congrFun ef2_ 32
  have mg33_ : f2_ 33 = f 33 := congrFun ef2_ 33
  have mg34_ : f2_ 34 = f 34 := congrFun ef2_ 34
  have mg35_ : f2_ 35 = f 35 := congrFun ef2_ 35
  have mg36_ : f2_ 36 = f 36 := congrFun ef2_ 36
  have mg67_ : f2_ 67 = f 67 := congrFun ef2_ 67
  have mn1_ : n2_ 1 = n 1 := congrFun em2_ 1
  have mn2_ : n2_ 2 = n 2 := congrFun em2_ 2
  have mn12_ : n2_ 12 = n 12 := congrFun em2_ 12
  have mn23_ : n2_ 23 = n 23 := congrFun em2_ 23
  have mn29_ : n2_ 29 = n 29 := congrFun em2_ 29
  have mn43_ : n2_ 43 = n 43 := congrFun em2_ 43
  have mn44_ : n2_ 44 = n 44 := congrFun em2_ 44
  clear em2_
  clear ef2_
  have hr2_n_ := R2_same hR2 (fun _ => rfl) cv40_ cv41_ cv42_ cv43_ cv44_ mn2_ mg3_ mg4_ mg5_ mg6_ mg7_
  have hra_n_ := RA_same hRA cs182_ ca190_ ca191_ rfl cv303_ mn29_ mn43_ mn44_ (by omega) mg22_
  have hrf_n_ : Fut_ (f2_ 18) (n2_ 1) (n2_ 12) := by rw [mg18_, mn1_, mn12_]; exact hRF
  have hrk_n_ := RBk_same hRK (fun _ => rfl) cv25_ mn12_ mg67_
  have hrs_n_ : RS T v1_ x n2_ f2_ := RS_same hSg_ (by rw [cv300_, cs182_]; exact hWd_) mn29_ mg32_ mg33_ mg34_ mg35_ mg36_
  clear hc1_
  refine j_pop E 353 rfl dL_law_352 rfl ?_
  refine j_goto E 1315 dL_law_353 (by decide) ?_
  exact W.widen (by omega) (by omega) (next _ _ _ _ _ _ ls hw ⟨by omega, by omega, by omega, by omega⟩ hr2_n_ hra_n_ hrk_n_ hrs_n_ hrf_n_ hl)
set_option maxHeartbeats 4000000 in
set_option maxRecDepth 100000 in
theorem lc_6 {p : Program} {l : Launch} {e : Env} {s : State} {m : MethodId} {below : List Frame} {meth : Method} {c : Code} {H : Heap} {locs : List Loc} {cells slots : Nat} {QW : State → Prop} {ls : Array Slot} {D : va_G} {cy : Nat → ClassId} {κ T : Nat → Nat → Nat} {v : Nat → Nat → Int} {q : Nat → Nat} {n : Nat → Int} {f : Nat → Int → Int} {x b L : Nat} {xs : Nat → Int32} (E : CX p s m #[Value.ref b] meth c RL cL_law 4 ret) (hK : KK D cy s) (hZ : ZZ κ s s.heap) (hκ : κ 2 0 < s.heap.size) (hX : va_X b L xs s s.heap) (hbl : b < s.heap.size) (hL : L ≤ 4096) {i : Int} (hi : 0 ≤ i ∧ i + 8 ≤ (L : Int)) (hf : cells + 6 ≤ 600000 ∧ slots + 7000 ≤ 7302250) (hw : LW D cy κ x T v q n f s H locs) (hR : RB T v x n) (hR2 : R2 T v x n f) (hRA : RA T v x n f) (hRK : RBk T v x n f) (hRS : RS T v x n f) (hRF : Fut_ (f 18) (n 1) (n 12)) (hl : lv_has ls 4 [(0, .ref b), (1, .ref x), (2, .ref (q 0)), (3, .int (J i))])
    (next : ∀ (T : Nat → Nat → Nat) (v : Nat → Nat → Int) (n : Nat → Int) (f : Nat → Int → Int) (H : Heap) (locs : List Loc) (ls : Array Slot), LW D cy κ x T v q n f s H locs → RB T v x n → R2 T v x n f → RA T v x n f → RBk T v x n f → RS T v x n f → Fut_ (f 18) (n 1) (n 12) → lv_has ls 4 [(0, .ref b), (1, .ref x), (2, .ref (q 0)), (3, .int (J i))] → W p l e room_1 s m #[Value.ref b] below meth c H locs (cells + 6) (slots + 7000) QW (F0 m 1315 ls [])) : W p l e room_1 s m #[Value.ref b] below meth c H locs cells slots QW (F0 m 356 ls []) := by
  obtain ⟨hr1_, hr2_, hr3_, hr4_⟩ := hR
  have hMI_ := hw.2.2.2.2.2.1
  have j1_ := hMI_.1
  have j2_ := hMI_.2.1
  have j3_ := hMI_.2.2.1
  have j4_ := hMI_.2.2.2.1
  have j5_ := hMI_.2.2.2.2.1
  have m_book := hMI_.2.2.2.2.2.2.2.2.2.2.1
  have m_cod := hMI_.2.2.2.2.2.2.2.2.2.2.2.2.2.1
  clear hMI_
  obtain ⟨S1_, S2_, S3_, hWd_, hSg_⟩ := hRS
  have hwC_ := hw.1
  have t9_ := hw.2.1
  have hnw_ : ∀ q_, H.size ≤ q_ → ∀ i_ : Nat, (i_ : Int) < v 202 (T 181 x) → ∀ y_ : Nat, ELn_ T 181 x i_ = y_ + 1 → y_ ≠ q_ := fun q_ hq_ => fr_of hwC_ (wt_181 hwC_.2.1 t9_) hq_
  have ra1_ := hRA.1
  have ra2_ := hRA.2.1
  have ra3_ := hRA.2.2.1
  refine j_aload_n E 357 rfl dL_law_356 rfl (lv_at hl 1 rfl) ?_
  refine j_aload_n E 358 rfl dL_law_357 rfl (lv_at hl 0 rfl) ?_
  refine j_iload_n E 359 rfl dL_law_358 rfl (lv_at hl 3 rfl) ?_
  refine j_iconst E 360 rfl dL_law_359 ?_
  refine j_iadd E 361 rfl dL_law_360 ?_
  refine lw_ld E hX hbl hL hw (by omega) 362 rfl dL_law_361 ?_
  refine j_aload_n E 363 rfl dL_law_362 rfl (lv_at hl 0 rfl) ?_
  refine j_iload_n E 364 rfl dL_law_363 rfl (lv_at hl 3 rfl) ?_
  refine j_iconst E 365 rfl dL_law_364 ?_
  refine j_iadd E 366 rfl dL_law_365 ?_
  refine lw_ld E hX hbl hL hw (by omega) 367 rfl dL_law_366 ?_
  refine lw_C E (c_X9_of l D cy T v x ((xs (i + 1).toNat).toInt) ((xs (i + 2).toNat).toInt) hw.2.1 (inR_toInt _) (inR_toInt _)) mt_X9_of ml_L_40 hK hw rfl ⟨(Nat.le_of_ble_eq_true rfl), (Nat.le_of_ble_eq_true rfl)⟩ ⟨show cells ≤ 600000 by omega, show slots ≤ 7302250 by omega⟩ (As := [.int (J (xs (i + 1).toNat).toInt), .int (J (xs (i + 2).toNat).toInt)]) (rest := []) rfl rfl hl.1 (Nat.le_of_ble_eq_true rfl) 370 rfl dL_law_367 (fun z1_ v1_ H locs rz1_ hz1_ hw => ?_)
  obtain ⟨ev1_, hc1_⟩ := hz1_
  have ca186_ : v1_ 186 x = v 186 x := congrFun (congrFun ev1_ 186) x
  have ca187_ : v1_ 187 x = v 187 x := congrFun (congrFun ev1_ 187) x
  have ca190_ : v1_ 190 x = v 190 x := congrFun (congrFun ev1_ 190) x
  have ca191_ : v1_ 191 x = v 191 x := congrFun (congrFun ev1_ 191) x
  have cs180_ : v1_ 202 (T 180 x) = v 202 (T 180 x) := congrFun (congrFun ev1_ 202) (T 180 x)
  have cs181_ : v1_ 202 (T 181 x) = v 202 (T 181 x) := congrFun (congrFun ev1_ 202) (T 181 x)
  have cs182_ : v1_ 202 (T 182 x) = v 202 (T 182 x) := congrFun (congrFun ev1_ 202) (T 182 x)
  have cv40_ : v1_ 40 = v 40 := congrFun ev1_ 40
  have cv41_ : v1_ 41 = v 41 := congrFun ev1_ 41
  have cv42_ : v1_ 42 = v 42 := congrFun ev1_ 42
  have cv43_ : v1_ 43 = v 43 := congrFun ev1_ 43
  have cv44_ : v1_ 44 = v 44 := congrFun ev1_ 44
  have cv303_ : v1_ 303 = v 303 := congrFun ev1_ 303
  have cv25_ : v1_ 25 = v 25 := congrFun ev1_ 25
  have cv300_ : v1_ 300 = v 300 := congrFun ev1_ 300
  clear ev1_
  refine j_pop E 371 rfl dL_law_370 rfl ?_
  refine j_aload_n E 372 rfl dL_law_371 rfl (lv_at hl 2 rfl) ?_
  refine j_aload_n E 373 rfl dL_law_372 rfl (lv_at hl 0 rfl) ?_
  refine j_iload_n E 374 rfl dL_law_373 rfl (lv_at hl 3 rfl) ?_
  refine j_iconst E 375 rfl dL_law_374 ?_
  refine j_iadd E 376 rfl dL_law_375 ?_
  refine lw_ld E hX hbl hL hw (by omega) 377 rfl dL_law_376 ?_
  refine j_aload_n E 378 rfl dL_law_377 rfl (lv_at hl 0 rfl) ?_
  refine j_iload_n E 379 rfl dL_law_378 rfl (lv_at hl 3 rfl) ?_
  refine j_iconst E 380 rfl dL_law_379 ?_
  refine j_iadd E 381 rfl dL_law_380 ?_
  refine lw_ld E hX hbl hL hw (by omega) 382 rfl dL_law_381 ?_
  refine lw_M E (c_X10_of l D cy q n f ((xs (i + 1).toNat).toInt) ((xs (i + 2).toNat).toInt) (inR_toInt _) (inR_toInt _) hw.2.2.2.2.2.1 ) mt_X10_of ml_L_44 hK hw rfl hκ ⟨(Nat.le_of_ble_eq_true rfl), (Nat.le_of_ble_eq_true rfl)⟩ ⟨show cells ≤ 600000 by omega, show slots ≤ 7302250 by omega⟩ (As := [.int (J (xs (i + 1).toNat).toInt), .int (J (xs (i + 2).toNat).toInt)]) (rest := []) rfl rfl hl.1 (Nat.le_of_ble_eq_true rfl) 385 rfl dL_law_382 (fun z n2 f2 h => by obtain ⟨_, e1, e2, h, -⟩ := h; rw [e1, e2]; exact h) (fun z2_ n2_ f2_ H locs rz2_ hz2_ hw => ?_)
  obtain ⟨x0m2_, em2_, ef2_, -, hm2_⟩ := hz2_
  have mg3_ : f2_ 3 = f 3 := congrFun ef2_ 3
  have mg4_ : f2_ 4 = f 4 := congrFun ef2_ 4
  have mg5_ : f2_ 5 = f 5 := congrFun ef2_ 5
  have mg6_ : f2_ 6 = f 6 := congrFun ef2_ 6
  have mg7_ : f2_ 7 = f 7 := congrFun ef2_ 7
  have mg18_ : f2_ 18 = f 18 := congrFun ef2_ 18
  have mg22_ : f2_ 22 = f 22 := congrFun ef2_ 22
  have mg32_ : f2_ 32 = f 32 := congrFun ef2_ 32
  have mg33_ : f2_ 33 = f 33 := congrFun ef2_ 33
  have mg34_ : f2_ 34 = f 34 := congrFun ef2_ 34
  have mg35_ : f2_ 35 = f 35 := congrFun ef2_ 35
  have mg36_ : f2_ 36 = f 36 := congrFun ef2_ 36
  have mg67_ : f2_ 67 = f 67 := congrFun ef2_ 67
  have mn1_ : n2_ 1 = n 1 := congrFun em2_ 1
  have mn2_ : n2_ 2 = n 2 := congrFun em2_ 2
  have mn12_ : n2_ 12 = n 12 := congrFun em2_ 12
  have mn23_ : n2_ 23 = n 23 := congrFun em2_ 23
  have mn29_ : n2_ 29 = n 29 := congrFun em2_ 29
  have mn43_ : n2_ 43 = n 43 := congrFun em2_ 43
  have mn44_ : n2_ 44 = n 44 := congrFun em2_ 44
  clear em2_
  clear ef2_
  have hr2_n_ := R2_same hR2 (fun _ => rfl) cv40_ cv41_ cv42_ cv43_ cv44_ mn2_ mg3_ mg4_ mg5_ mg6_ mg7_
  have hra_n_ := RA_same hRA cs182_ ca190_ ca191_ rfl cv303_ mn29_ mn43_ mn44_ (by omega) mg22_
  have hrf_n_ : Fut_ (f2_ 18) (n2_ 1) (n2_ 12) := by rw [mg18_, mn1_, mn12_]; exact hRF
  have hrk_n_ := RBk_same hRK (fun _ => rfl) cv25_ mn12_ mg67_
  have hrs_n_ : RS T v1_ x n2_ f2_ := RS_same hSg_ (by rw [cv300_, cs182_]; exact hWd_) mn29_ mg32_ mg33_ mg34_ mg35_ mg36_
  clear hc1_
  refine j_pop E 386 rfl dL_law_385 rfl ?_
  refine j_goto E 1315 dL_law_386 (by decide) ?_
  exact W.widen (by omega) (by omega) (next _ _ _ _ _ _ ls hw ⟨by omega, by omega, by omega, by omega⟩ hr2_n_ hra_n_ hrk_n_ hrs_n_ hrf_n_ hl)
set_option maxHeartbeats 4000000 in
set_option maxRecDepth 100000 in
theorem lc_7 {p : Program} {l : Launch} {e : Env} {s : State} {m : MethodId} {below : List Frame} {meth : Method} {c : Code} {H : Heap} {locs : List Loc} {cells slots : Nat} {QW : State → Prop} {ls : Array Slot} {D : va_G} {cy : Nat → ClassId} {κ T : Nat → Nat → Nat} {v : Nat → Nat → Int} {q : Nat → Nat} {n : Nat → Int} {f : Nat → Int → Int} {x b L : Nat} {xs : Nat → Int32} (E : CX p s m #[Value.ref b] meth c RL cL_law 4 ret) (hK : KK D cy s) (hZ : ZZ κ s s.heap) (hκ : κ 2 0 < s.heap.size) (hX : va_X b L xs s s.heap) (hbl : b < s.heap.size) (hL : L ≤ 4096) {i : Int} (hi : 0 ≤ i ∧ i + 8 ≤ (L : Int)) (hf : cells + 6 ≤ 600000 ∧ slots + 7000 ≤ 7302250) (hw : LW D cy κ x T v q n f s H locs) (hR : RB T v x n) (hR2 : R2 T v x n f) (hRA : RA T v x n f) (hRK : RBk T v x n f) (hRS : RS T v x n f) (hRF : Fut_ (f 18) (n 1) (n 12)) (hl : lv_has ls 4 [(0, .ref b), (1, .ref x), (2, .ref (q 0)), (3, .int (J i))])
    (next : ∀ (T : Nat → Nat → Nat) (v : Nat → Nat → Int) (n : Nat → Int) (f : Nat → Int → Int) (H : Heap) (locs : List Loc) (ls : Array Slot), LW D cy κ x T v q n f s H locs → RB T v x n → R2 T v x n f → RA T v x n f → RBk T v x n f → RS T v x n f → Fut_ (f 18) (n 1) (n 12) → lv_has ls 4 [(0, .ref b), (1, .ref x), (2, .ref (q 0)), (3, .int (J i))] → W p l e room_1 s m #[Value.ref b] below meth c H locs (cells + 6) (slots + 7000) QW (F0 m 1315 ls [])) : W p l e room_1 s m #[Value.ref b] below meth c H locs cells slots QW (F0 m 389 ls []) := by
  obtain ⟨hr1_, hr2_, hr3_, hr4_⟩ := hR
  have hMI_ := hw.2.2.2.2.2.1
  have j1_ := hMI_.1
  have j2_ := hMI_.2.1
  have j3_ := hMI_.2.2.1
  have j4_ := hMI_.2.2.2.1
  have j5_ := hMI_.2.2.2.2.1
  have m_book := hMI_.2.2.2.2.2.2.2.2.2.2.1
  have m_cod := hMI_.2.2.2.2.2.2.2.2.2.2.2.2.2.1
  clear hMI_
  obtain ⟨S1_, S2_, S3_, hWd_, hSg_⟩ := hRS
  have hwC_ := hw.1
  have t9_ := hw.2.1
  have hnw_ : ∀ q_, H.size ≤ q_ → ∀ i_ : Nat, (i_ : Int) < v 202 (T 181 x) → ∀ y_ : Nat, ELn_ T 181 x i_ = y_ + 1 → y_ ≠ q_ := fun q_ hq_ => fr_of hwC_ (wt_181 hwC_.2.1 t9_) hq_
  have ra1_ := hRA.1
  have ra2_ := hRA.2.1
  have ra3_ := hRA.2.2.1
  refine j_aload_n E 390 rfl dL_law_389 rfl (lv_at hl 1 rfl) ?_
  refine j_aload_n E 391 rfl dL_law_390 rfl (lv_at hl 0 rfl) ?_
  refine j_iload_n E 392 rfl dL_law_391 rfl (lv_at hl 3 rfl) ?_
  refine j_iconst E 393 rfl dL_law_392 ?_
  refine j_iadd E 394 rfl dL_law_393 ?_
  refine lw_ld E hX hbl hL hw (by omega) 395 rfl dL_law_394 ?_
  refine j_aload_n E 396 rfl dL_law_395 rfl (lv_at hl 0 rfl) ?_
  refine j_iload_n E 397 rfl dL_law_396 rfl (lv_at hl 3 rfl) ?_
  refine j_iconst E 398 rfl dL_law_397 ?_
  refine j_iadd E 399 rfl dL_law_398 ?_
  refine lw_ld E hX hbl hL hw (by omega) 400 rfl dL_law_399 ?_
  refine j_aload_n E 401 rfl dL_law_400 rfl (lv_at hl 0 rfl) ?_
  refine j_iload_n E 402 rfl dL_law_401 rfl (lv_at hl 3 rfl) ?_
  refine j_iconst E 403 rfl dL_law_402 ?_
  refine j_iadd E 404 rfl dL_law_403 ?_
  refine lw_ld E hX hbl hL hw (by omega) 405 rfl dL_law_404 ?_
  refine j_aload_n E 406 rfl dL_law_405 rfl (lv_at hl 0 rfl) ?_
  refine j_iload_n E 407 rfl dL_law_406 rfl (lv_at hl 3 rfl) ?_
  refine j_iconst E 408 rfl dL_law_407 ?_
  refine j_iadd E 409 rfl dL_law_408 ?_
  refine lw_ld E hX hbl hL hw (by omega) 410 rfl dL_law_409 ?_
  refine j_aload_n E 411 rfl dL_law_410 rfl (lv_at hl 0 rfl) ?_
  refine j_iload_n E 412 rfl dL_law_411 rfl (lv_at hl 3 rfl) ?_
  refine j_iconst E 413 rfl dL_law_412 ?_
  refine j_iadd E 414 rfl dL_law_413 ?_
  refine lw_ld E hX hbl hL hw (by omega) 415 rfl dL_law_414 ?_
  refine lw_C E (c_X9_feed l D cy T v x ((xs (i + 1).toNat).toInt) ((xs (i + 2).toNat).toInt) ((xs (i + 3).toNat).toInt) ((xs (i + 4).toNat).toInt) ((xs (i + 5).toNat).toInt) hw.2.1 (inR_toInt _) (inR_toInt _) (inR_toInt _) (inR_toInt _) (inR_toInt _) (by omega)) mt_X9_feed ml_L_45 hK hw rfl ⟨(Nat.le_of_ble_eq_true rfl), (Nat.le_of_ble_eq_true rfl)⟩ ⟨show cells ≤ 600000 by omega, show slots ≤ 7302250 by omega⟩ (As := [.int (J (xs (i + 1).toNat).toInt), .int (J (xs (i + 2).toNat).toInt), .int (J (xs (i + 3).toNat).toInt), .int (J (xs (i + 4).toNat).toInt), .int (J (xs (i + 5).toNat).toInt)]) (rest := []) rfl rfl hl.1 (Nat.le_of_ble_eq_true rfl) 418 rfl dL_law_415 (fun z1_ v1_ H locs rz1_ hz1_ hw => ?_)
  obtain ⟨y186_1, y303_1, ev1_, hc1_⟩ := hz1_
  have ca186_ : v1_ 186 x = y186_1 x := congrFun (congrFun ev1_ 186) x
  have ca187_ : v1_ 187 x = v 187 x := congrFun (congrFun ev1_ 187) x
  have ca190_ : v1_ 190 x = v 190 x := congrFun (congrFun ev1_ 190) x
  have ca191_ : v1_ 191 x = v 191 x := congrFun (congrFun ev1_ 191) x
  have cs180_ : v1_ 202 (T 180 x) = v 202 (T 180 x) := congrFun (congrFun ev1_ 202) (T 180 x)
  have cs181_ : v1_ 202 (T 181 x) = v 202 (T 181 x) := congrFun (congrFun ev1_ 202) (T 181 x)
  have cs182_ : v1_ 202 (T 182 x) = v 202 (T 182 x) := congrFun (congrFun ev1_ 202) (T 182 x)
  have cv40_ : v1_ 40 = v 40 := congrFun ev1_ 40
  have cv41_ : v1_ 41 = v 41 := congrFun ev1_ 41
  have cv42_ : v1_ 42 = v 42 := congrFun ev1_ 42
  have cv43_ : v1_ 43 = v 43 := congrFun ev1_ 43
  have cv44_ : v1_ 44 = v 44 := congrFun ev1_ 44
  have cv303_ : v1_ 303 = y303_1 := congrFun ev1_ 303
  have cv25_ : v1_ 25 = v 25 := congrFun ev1_ 25
  have cv300_ : v1_ 300 = v 300 := congrFun ev1_ 300
  clear ev1_
  refine j_pop E 419 rfl dL_law_418 rfl ?_
  refine j_aload_n E 420 rfl dL_law_419 rfl (lv_at hl 2 rfl) ?_
  refine j_aload_n E 421 rfl dL_law_420 rfl (lv_at hl 0 rfl) ?_
  refine j_iload_n E 422 rfl dL_law_421 rfl (lv_at hl 3 rfl) ?_
  refine j_iconst E 423 rfl dL_law_422 ?_
  refine j_iadd E 424 rfl dL_law_423 ?_
  refine lw_ld E hX hbl hL hw (by omega) 425 rfl dL_law_424 ?_
  refine j_aload_n E 426 rfl dL_law_425 rfl (lv_at hl 0 rfl) ?_
  refine j_iload_n E 427 rfl dL_law_426 rfl (lv_at hl 3 rfl) ?_
  refine j_iconst E 428 rfl dL_law_427 ?_
  refine j_iadd E 429 rfl dL_law_428 ?_
  refine lw_ld E hX hbl hL hw (by omega) 430 rfl dL_law_429 ?_
  refine j_aload_n E 431 rfl dL_law_430 rfl (lv_at hl 0 rfl) ?_
  refine j_iload_n E 432 rfl dL_law_431 rfl (lv_at hl 3 rfl) ?_
  refine j_iconst E 433 rfl dL_law_432 ?_
  refine j_iadd E 434 rfl dL_law_433 ?_
  refine lw_ld E hX hbl hL hw (by omega) 435 rfl dL_law_434 ?_
  refine j_aload_n E 436 rfl dL_law_435 rfl (lv_at hl 0 rfl) ?_
  refine j_iload_n E 437 rfl dL_law_436 rfl (lv_at hl 3 rfl) ?_
  refine j_iconst E 438 rfl dL_law_437 ?_
  refine j_iadd E 439 rfl dL_law_438 ?_
  refine lw_ld E hX hbl hL hw (by omega) 440 rfl dL_law_439 ?_
  refine j_aload_n E 441 rfl dL_law_440 rfl (lv_at hl 0 rfl) ?_
  refine j_iload_n E 442 rfl dL_law_441 rfl (lv_at hl 3 rfl) ?_
  refine j_iconst E 443 rfl dL_law_442 ?_
  refine j_iadd E 444 rfl dL_law_443 ?_
  refine lw_ld E hX hbl hL hw (by omega) 445 rfl dL_law_444 ?_
  refine lw_M E (c_X10_feed l D cy q n f ((xs (i + 1).toNat).toInt) ((xs (i + 2).toNat).toInt) ((xs (i + 3).toNat).toInt) ((xs (i + 4).toNat).toInt) ((xs (i + 5).toNat).toInt) (inR_toInt _) (inR_toInt _) (inR_toInt _) (inR_toInt _) (inR_toInt _) hw.2.2.2.2.2.1 ) mt_X10_feed ml_L_49 hK hw rfl hκ ⟨(Nat.le_of_ble_eq_true rfl), (Nat.le_of_ble_eq_true rfl)⟩ ⟨show cells ≤ 600000 by omega, show slots ≤ 7302250 by omega⟩ (As := [.int (J (xs (i + 1).toNat).toInt), .int (J (xs (i + 2).toNat).toInt), .int (J (xs (i + 3).toNat).toInt), .int (J (xs (i + 4).toNat).toInt), .int (J (xs (i + 5).toNat).toInt)]) (rest := []) rfl rfl hl.1 (Nat.le_of_ble_eq_true rfl) 448 rfl dL_law_445 (fun z n2 f2 h => by obtain ⟨_, _, _, e1, e2, h, -⟩ := h; rw [e1, e2]; exact h) (fun z2_ n2_ f2_ H locs rz2_ hz2_ hw => ?_)
  obtain ⟨x0m2_, x23m2_, y22m2_, em2_, ef2_, -, hm2_⟩ := hz2_
  have mg3_ : f2_ 3 = f 3 := congrFun ef2_ 3
  have mg4_ : f2_ 4 = f 4 := congrFun ef2_ 4
  have mg5_ : f2_ 5 = f 5 := congrFun ef2_ 5
  have mg6_ : f2_ 6 = f 6 := congrFun ef2_ 6
  have mg7_ : f2_ 7 = f 7 := congrFun ef2_ 7
  have mg18_ : f2_ 18 = f 18 := congrFun ef2_ 18
  have mg22_ : f2_ 22 = y22m2_ := congrFun ef2_ 22
  have mg32_ : f2_ 32 = f 32 := congrFun ef2_ 32
  have mg33_ : f2_ 33 = f 33 := congrFun ef2_ 33
  have mg34_ : f2_ 34 = f 34 := congrFun ef2_ 34
  have mg35_ : f2_ 35 = f 35 := congrFun ef2_ 35
  have mg36_ : f2_ 36 = f 36 := congrFun ef2_ 36
  have mg67_ : f2_ 67 = f 67 := congrFun ef2_ 67
  have mn1_ : n2_ 1 = n 1 := congrFun em2_ 1
  have mn2_ : n2_ 2 = n 2 := congrFun em2_ 2
  have mn12_ : n2_ 12 = n 12 := congrFun em2_ 12
  have mn23_ : n2_ 23 = x23m2_ := congrFun em2_ 23
  have mn29_ : n2_ 29 = n 29 := congrFun em2_ 29
  have mn43_ : n2_ 43 = n 43 := congrFun em2_ 43
  have mn44_ : n2_ 44 = n 44 := congrFun em2_ 44
  clear em2_
  clear ef2_
  have hr2_n_ := R2_same hR2 (fun _ => rfl) cv40_ cv41_ cv42_ cv43_ cv44_ mn2_ mg3_ mg4_ mg5_ mg6_ mg7_
  have hra_n_ := RA_feed hRA hr1_ cs182_ ca190_ ca191_ mn29_ mn43_ mn44_ cv303_ mn23_ mg22_ hc1_ hm2_
  have hrf_n_ : Fut_ (f2_ 18) (n2_ 1) (n2_ 12) := by rw [mg18_, mn1_, mn12_]; exact hRF
  have hrk_n_ := RBk_same hRK (fun _ => rfl) cv25_ mn12_ mg67_
  have hrs_n_ : RS T v1_ x n2_ f2_ := RS_same hSg_ (by rw [cv300_, cs182_]; exact hWd_) mn29_ mg32_ mg33_ mg34_ mg35_ mg36_
  refine j_pop E 449 rfl dL_law_448 rfl ?_
  refine j_goto E 1315 dL_law_449 (by decide) ?_
  exact W.widen (by omega) (by omega) (next _ _ _ _ _ _ ls hw ⟨by omega, by omega, by omega, by omega⟩ hr2_n_ hra_n_ hrk_n_ hrs_n_ hrf_n_ hl)
set_option maxHeartbeats 4000000 in
set_option maxRecDepth 100000 in
theorem lc_8 {p : Program} {l : Launch} {e : Env} {s : State} {m : MethodId} {below : List Frame} {meth : Method} {c : Code} {H : Heap} {locs : List Loc} {cells slots : Nat} {QW : State → Prop} {ls : Array Slot} {D : va_G} {cy : Nat → ClassId} {κ T : Nat → Nat → Nat} {v : Nat → Nat → Int} {q : Nat → Nat} {n : Nat → Int} {f : Nat → Int → Int} {x b L : Nat} {xs : Nat → Int32} (E : CX p s m #[Value.ref b] meth c RL cL_law 4 ret) (hK : KK D cy s) (hZ : ZZ κ s s.heap) (hκ : κ 2 0 < s.heap.size) (hX : va_X b L xs s s.heap) (hbl : b < s.heap.size) (hL : L ≤ 4096) {i : Int} (hi : 0 ≤ i ∧ i + 8 ≤ (L : Int)) (hf : cells + 6 ≤ 600000 ∧ slots + 7000 ≤ 7302250) (hw : LW D cy κ x T v q n f s H locs) (hR : RB T v x n) (hR2 : R2 T v x n f) (hRA : RA T v x n f) (hRK : RBk T v x n f) (hRS : RS T v x n f) (hRF : Fut_ (f 18) (n 1) (n 12)) (hl : lv_has ls 4 [(0, .ref b), (1, .ref x), (2, .ref (q 0)), (3, .int (J i))])
    (next : ∀ (T : Nat → Nat → Nat) (v : Nat → Nat → Int) (n : Nat → Int) (f : Nat → Int → Int) (H : Heap) (locs : List Loc) (ls : Array Slot), LW D cy κ x T v q n f s H locs → RB T v x n → R2 T v x n f → RA T v x n f → RBk T v x n f → RS T v x n f → Fut_ (f 18) (n 1) (n 12) → lv_has ls 4 [(0, .ref b), (1, .ref x), (2, .ref (q 0)), (3, .int (J i))] → W p l e room_1 s m #[Value.ref b] below meth c H locs (cells + 6) (slots + 7000) QW (F0 m 1315 ls [])) : W p l e room_1 s m #[Value.ref b] below meth c H locs cells slots QW (F0 m 452 ls []) := by
  obtain ⟨hr1_, hr2_, hr3_, hr4_⟩ := hR
  have hMI_ := hw.2.2.2.2.2.1
  have j1_ := hMI_.1
  have j2_ := hMI_.2.1
  have j3_ := hMI_.2.2.1
  have j4_ := hMI_.2.2.2.1
  have j5_ := hMI_.2.2.2.2.1
  have m_book := hMI_.2.2.2.2.2.2.2.2.2.2.1
  have m_cod := hMI_.2.2.2.2.2.2.2.2.2.2.2.2.2.1
  clear hMI_
  obtain ⟨S1_, S2_, S3_, hWd_, hSg_⟩ := hRS
  have hwC_ := hw.1
  have t9_ := hw.2.1
  have hnw_ : ∀ q_, H.size ≤ q_ → ∀ i_ : Nat, (i_ : Int) < v 202 (T 181 x) → ∀ y_ : Nat, ELn_ T 181 x i_ = y_ + 1 → y_ ≠ q_ := fun q_ hq_ => fr_of hwC_ (wt_181 hwC_.2.1 t9_) hq_
  have ra1_ := hRA.1
  have ra2_ := hRA.2.1
  have ra3_ := hRA.2.2.1
  refine j_aload_n E 453 rfl dL_law_452 rfl (lv_at hl 1 rfl) ?_
  refine j_aload_n E 454 rfl dL_law_453 rfl (lv_at hl 0 rfl) ?_
  refine j_iload_n E 455 rfl dL_law_454 rfl (lv_at hl 3 rfl) ?_
  refine j_iconst E 456 rfl dL_law_455 ?_
  refine j_iadd E 457 rfl dL_law_456 ?_
  refine lw_ld E hX hbl hL hw (by omega) 458 rfl dL_law_457 ?_
  refine lw_C E (c_X9_end l D cy T v x ((xs (i + 1).toNat).toInt) hw.2.1 (inR_toInt _)) mt_X9_end ml_L_50 hK hw rfl ⟨(Nat.le_of_ble_eq_true rfl), (Nat.le_of_ble_eq_true rfl)⟩ ⟨show cells ≤ 600000 by omega, show slots ≤ 7302250 by omega⟩ (As := [.int (J (xs (i + 1).toNat).toInt)]) (rest := []) rfl rfl hl.1 (Nat.le_of_ble_eq_true rfl) 461 rfl dL_law_458 (fun z1_ v1_ H locs rz1_ hz1_ hw => ?_)
  obtain ⟨y186_1, ev1_, hc1_⟩ := hz1_
  have ca186_ : v1_ 186 x = y186_1 x := congrFun (congrFun ev1_ 186) x
  have ca187_ : v1_ 187 x = v 187 x := congrFun (congrFun ev1_ 187) x
  have ca190_ : v1_ 190 x = v 190 x := congrFun (congrFun ev1_ 190) x
  have ca191_ : v1_ 191 x = v 191 x := congrFun (congrFun ev1_ 191) x
  have cs180_ : v1_ 202 (T 180 x) = v 202 (T 180 x) := congrFun (congrFun ev1_ 202) (T 180 x)
  have cs181_ : v1_ 202 (T 181 x) = v 202 (T 181 x) := congrFun (congrFun ev1_ 202) (T 181 x)
  have cs182_ : v1_ 202 (T 182 x) = v 202 (T 182 x) := congrFun (congrFun ev1_ 202) (T 182 x)
  have cv40_ : v1_ 40 = v 40 := congrFun ev1_ 40
  have cv41_ : v1_ 41 = v 41 := congrFun ev1_ 41
  have cv42_ : v1_ 42 = v 42 := congrFun ev1_ 42
  have cv43_ : v1_ 43 = v 43 := congrFun ev1_ 43
  have cv44_ : v1_ 44 = v 44 := congrFun ev1_ 44
  have cv303_ : v1_ 303 = v 303 := congrFun ev1_ 303
  have cv25_ : v1_ 25 = v 25 := congrFun ev1_ 25
  have cv300_ : v1_ 300 = v 300 := congrFun ev1_ 300
  clear ev1_
  refine j_pop E 462 rfl dL_law_461 rfl ?_
  refine j_aload_n E 463 rfl dL_law_462 rfl (lv_at hl 2 rfl) ?_
  refine j_aload_n E 464 rfl dL_law_463 rfl (lv_at hl 0 rfl) ?_
  refine j_iload_n E 465 rfl dL_law_464 rfl (lv_at hl 3 rfl) ?_
  refine j_iconst E 466 rfl dL_law_465 ?_
  refine j_iadd E 467 rfl dL_law_466 ?_
  refine lw_ld E hX hbl hL hw (by omega) 468 rfl dL_law_467 ?_
  refine lw_M E (c_X10_end l D cy q n f ((xs (i + 1).toNat).toInt) (inR_toInt _) hw.2.2.2.2.2.1 ) mt_X10_end ml_L_53 hK hw rfl hκ ⟨(Nat.le_of_ble_eq_true rfl), (Nat.le_of_ble_eq_true rfl)⟩ ⟨show cells ≤ 600000 by omega, show slots ≤ 7302250 by omega⟩ (As := [.int (J (xs (i + 1).toNat).toInt)]) (rest := []) rfl rfl hl.1 (Nat.le_of_ble_eq_true rfl) 471 rfl dL_law_468 (fun z n2 f2 h => by obtain ⟨_, _, e1, e2, h, -⟩ := h; rw [e1, e2]; exact h) (fun z2_ n2_ f2_ H locs rz2_ hz2_ hw => ?_)
  obtain ⟨x0m2_, x23m2_, em2_, ef2_, -, hm2_⟩ := hz2_
  have mg3_ : f2_ 3 = f 3 := congrFun ef2_ 3
  have mg4_ : f2_ 4 = f 4 := congrFun ef2_ 4
  have mg5_ : f2_ 5 = f 5 := congrFun ef2_ 5
  have mg6_ : f2_ 6 = f 6 := congrFun ef2_ 6
  have mg7_ : f2_ 7 = f 7 := congrFun ef2_ 7
  have mg18_ : f2_ 18 = f 18 := congrFun ef2_ 18
  have mg22_ : f2_ 22 = f 22 := congrFun ef2_ 22
  have mg32_ : f2_ 32 = f 32 := congrFun ef2_ 32
  have mg33_ : f2_ 33 = f 33 := congrFun ef2_ 33
  have mg34_ : f2_ 34 = f 34 := congrFun ef2_ 34
  have mg35_ : f2_ 35 = f 35 := congrFun ef2_ 35
  have mg36_ : f2_ 36 = f 36 := congrFun ef2_ 36
  have mg67_ : f2_ 67 = f 67 := congrFun ef2_ 67
  have mn1_ : n2_ 1 = n 1 := congrFun em2_ 1
  have mn2_ : n2_ 2 = n 2 := congrFun em2_ 2
  have mn12_ : n2_ 12 = n 12 := congrFun em2_ 12
  have mn23_ : n2_ 23 = x23m2_ := congrFun em2_ 23
  have mn29_ : n2_ 29 = n 29 := congrFun em2_ 29
  have mn43_ : n2_ 43 = n 43 := congrFun em2_ 43
  have mn44_ : n2_ 44 = n 44 := congrFun em2_ 44
  clear em2_
  clear ef2_
  have hr2_n_ := R2_same hR2 (fun _ => rfl) cv40_ cv41_ cv42_ cv43_ cv44_ mn2_ mg3_ mg4_ mg5_ mg6_ mg7_
  have hra_n_ := RA_same hRA cs182_ ca190_ ca191_ rfl cv303_ mn29_ mn43_ mn44_ (by omega) mg22_
  have hrf_n_ : Fut_ (f2_ 18) (n2_ 1) (n2_ 12) := by rw [mg18_, mn1_, mn12_]; exact hRF
  have hrk_n_ := RBk_same hRK (fun _ => rfl) cv25_ mn12_ mg67_
  have hrs_n_ : RS T v1_ x n2_ f2_ := RS_same hSg_ (by rw [cv300_, cs182_]; exact hWd_) mn29_ mg32_ mg33_ mg34_ mg35_ mg36_
  refine j_pop E 472 rfl dL_law_471 rfl ?_
  refine j_goto E 1315 dL_law_472 (by decide) ?_
  exact W.widen (by omega) (by omega) (next _ _ _ _ _ _ ls hw ⟨by omega, by omega, by omega, by omega⟩ hr2_n_ hra_n_ hrk_n_ hrs_n_ hrf_n_ hl)
set_option maxHeartbeats 4000000 in
set_option maxRecDepth 100000 in
theorem lc_9 {p : Program} {l : Launch} {e : Env} {s : State} {m : MethodId} {below : List Frame} {meth : Method} {c : Code} {H : Heap} {locs : List Loc} {cells slots : Nat} {QW : State → Prop} {ls : Array Slot} {D : va_G} {cy : Nat → ClassId} {κ T : Nat → Nat → Nat} {v : Nat → Nat → Int} {q : Nat → Nat} {n : Nat → Int} {f : Nat → Int → Int} {x b L : Nat} {xs : Nat → Int32} (E : CX p s m #[Value.ref b] meth c RL cL_law 4 ret) (hK : KK D cy s) (hZ : ZZ κ s s.heap) (hκ : κ 2 0 < s.heap.size) (hX : va_X b L xs s s.heap) (hbl : b < s.heap.size) (hL : L ≤ 4096) {i : Int} (hi : 0 ≤ i ∧ i + 8 ≤ (L : Int)) (hf : cells + 6 ≤ 600000 ∧ slots + 7000 ≤ 7302250) (hw : LW D cy κ x T v q n f s H locs) (hR : RB T v x n) (hR2 : R2 T v x n f) (hRA : RA T v x n f) (hRK : RBk T v x n f) (hRS : RS T v x n f) (hRF : Fut_ (f 18) (n 1) (n 12)) (hl : lv_has ls 4 [(0, .ref b), (1, .ref x), (2, .ref (q 0)), (3, .int (J i))])
    (next : ∀ (T : Nat → Nat → Nat) (v : Nat → Nat → Int) (n : Nat → Int) (f : Nat → Int → Int) (H : Heap) (locs : List Loc) (ls : Array Slot), LW D cy κ x T v q n f s H locs → RB T v x n → R2 T v x n f → RA T v x n f → RBk T v x n f → RS T v x n f → Fut_ (f 18) (n 1) (n 12) → lv_has ls 4 [(0, .ref b), (1, .ref x), (2, .ref (q 0)), (3, .int (J i))] → W p l e room_1 s m #[Value.ref b] below meth c H locs (cells + 6) (slots + 7000) QW (F0 m 1315 ls [])) : W p l e room_1 s m #[Value.ref b] below meth c H locs cells slots QW (F0 m 475 ls []) := by
  obtain ⟨hr1_, hr2_, hr3_, hr4_⟩ := hR
  have hMI_ := hw.2.2.2.2.2.1
  have j1_ := hMI_.1
  have j2_ := hMI_.2.1
  have j3_ := hMI_.2.2.1
  have j4_ := hMI_.2.2.2.1
  have j5_ := hMI_.2.2.2.2.1
  have m_book := hMI_.2.2.2.2.2.2.2.2.2.2.1
  have m_cod := hMI_.2.2.2.2.2.2.2.2.2.2.2.2.2.1
  clear hMI_
  obtain ⟨S1_, S2_, S3_, hWd_, hSg_⟩ := hRS
  have hwC_ := hw.1
  have t9_ := hw.2.1
  have hnw_ : ∀ q_, H.size ≤ q_ → ∀ i_ : Nat, (i_ : Int) < v 202 (T 181 x) → ∀ y_ : Nat, ELn_ T 181 x i_ = y_ + 1 → y_ ≠ q_ := fun q_ hq_ => fr_of hwC_ (wt_181 hwC_.2.1 t9_) hq_
  have ra1_ := hRA.1
  have ra2_ := hRA.2.1
  have ra3_ := hRA.2.2.1
  refine j_aload_n E 476 rfl dL_law_475 rfl (lv_at hl 1 rfl) ?_
  refine lw_A E (n_X9_wording l D cy κ T v x  H.size (fun a h => Nat.le_trans hZ.2.1 (hw.2.2.2.1 a h)) hw.2.1  hw.2.2.1 (by omega)) mt_X9_wording ml_L_54 hK hZ hw rfl ⟨(Nat.le_of_ble_eq_true rfl), (Nat.le_of_ble_eq_true rfl)⟩ ⟨show cells + 5 ≤ 600000 by omega, show slots + 1300 ≤ 7302250 by omega⟩ (As := []) (rest := []) rfl rfl hl.1 (Nat.le_of_ble_eq_true rfl) 479 rfl dL_law_476 (fun z T2 v2 h => h.1.1) (fun z1_ T1_ v1_ H locs rz1_ hz1_ hw => ?_)
  obtain ⟨⟨-, ⟨e180_, e181_, e182_, e183_, e185_⟩, ca186_, ca187_, cv303_, co180_, co181_, co183_, hCC_, hE_, hE181_, hE183_, cv40_, cv41_, cv42_, cv43_, cv44_, cv25_, cv302_, hc1_⟩, hKd_⟩ := hz1_
  have cs180_ : v1_ 202 (T1_ 180 x) = v1_ 202 (T 180 x) := by rw [e180_]
  have cs181_ : v1_ 202 (T1_ 181 x) = v1_ 202 (T 181 x) := by rw [e181_]
  have cs182_ : v1_ 202 (T1_ 182 x) = v1_ 202 (T 182 x) := by rw [e182_]
  obtain ⟨K_, V_, P_, Q_, hst_, hwd_⟩ := RA_gh hRA hr1_ hc1_
  clear hc1_
  refine W.widen (show cells + 5 ≤ cells + 6 by omega) (show slots + 1300 ≤ slots + 7000 by omega) ?_
  refine j_pop E 480 rfl dL_law_479 rfl ?_
  refine j_aload_n E 481 rfl dL_law_480 rfl (lv_at hl 2 rfl) ?_
  refine lw_M E (c_X10_wording l D cy q n f  K_ V_ P_ Q_  hw.2.2.2.2.2.1 hst_) mt_X10_wording ml_L_58 hK hw rfl hκ ⟨(Nat.le_of_ble_eq_true rfl), (Nat.le_of_ble_eq_true rfl)⟩ ⟨show cells + 6 ≤ 600000 by omega, show slots + 7000 ≤ 7302250 by omega⟩ (As := []) (rest := []) rfl rfl hl.1 (Nat.le_of_ble_eq_true rfl) 484 rfl dL_law_481 (fun z n2 f2 h => by obtain ⟨_, _, _, _, _, _, _, _, _, _, _, _, _, _, _, _, _, _, _, _, _, _, e1, e2, h, -⟩ := h; rw [e1, e2]; exact h) (fun z2_ n2_ f2_ H locs rz2_ hz2_ hw => ?_)
  obtain ⟨x0m2_, x24m2_, x25m2_, x26m2_, x27m2_, x37m2_, x38m2_, x40m2_, x41m2_, x42m2_, x23m2_, x29m2_, x43m2_, x44m2_, y30m2_, y31m2_, y32m2_, y33m2_, y39m2_, y34m2_, y35m2_, y36m2_, em2_, ef2_, -, hm2_⟩ := hz2_
  have mg3_ : f2_ 3 = f 3 := congrFun ef2_ 3
  have mg4_ : f2_ 4 = f 4 := congrFun ef2_ 4
  have mg5_ : f2_ 5 = f 5 := congrFun ef2_ 5
  have mg6_ : f2_ 6 = f 6 := congrFun ef2_ 6
  have mg7_ : f2_ 7 = f 7 := congrFun ef2_ 7
  have mg18_ : f2_ 18 = f 18 := congrFun ef2_ 18
  have mg22_ : f2_ 22 = f 22 := congrFun ef2_ 22
  have mg32_ : f2_ 32 = y32m2_ := congrFun ef2_ 32
  have mg33_ : f2_ 33 = y33m2_ := congrFun ef2_ 33
  have mg34_ : f2_ 34 = y34m2_ := congrFun ef2_ 34
  have mg35_ : f2_ 35 = y35m2_ := congrFun ef2_ 35
  have mg36_ : f2_ 36 = y36m2_ := congrFun ef2_ 36
  have mg67_ : f2_ 67 = f 67 := congrFun ef2_ 67
  have mn1_ : n2_ 1 = n 1 := congrFun em2_ 1
  have mn2_ : n2_ 2 = n 2 := congrFun em2_ 2
  have mn12_ : n2_ 12 = n 12 := congrFun em2_ 12
  have mn23_ : n2_ 23 = x23m2_ := congrFun em2_ 23
  have mn29_ : n2_ 29 = x29m2_ := congrFun em2_ 29
  have mn43_ : n2_ 43 = x43m2_ := congrFun em2_ 43
  have mn44_ : n2_ 44 = x44m2_ := congrFun em2_ 44
  clear em2_
  clear ef2_
  have hr2_n_ := R2_same hR2 hE_ cv40_ cv41_ cv42_ cv43_ cv44_ mn2_ mg3_ mg4_ mg5_ mg6_ mg7_
  obtain ⟨mt_, hm2_, mfr_, mkf_, mtr_⟩ := hm2_
  have hd_ := RA_wor (f2 := f2_) hRA cs182_ mn23_ mn29_ mn43_ mn44_ hwd_ mt_ hm2_
  have hra_n_ := hd_.2
  have hrs_n_ := RS_wor (f2 := f2_) hwC_ t9_ rfl hCC_ hKd_ (by decide) hWd_ hSg_ ra1_ j4_.1 (fun h_ j_ hj_ hk_ => (Strm_num (hst_ h_) hj_ hk_).1) hd_.1 cs182_ mn29_ mg32_ mg33_ mg34_ mg35_ mg36_ hwd_ hm2_ mfr_ mtr_ m_cod
  clear hm2_
  clear hwd_
  have hrf_n_ : Fut_ (f2_ 18) (n2_ 1) (n2_ 12) := by rw [mg18_, mn1_, mn12_]; exact hRF
  have hrk_n_ := RBk_same hRK hE181_ cv25_ mn12_ mg67_
  refine j_pop E 485 rfl dL_law_484 rfl ?_
  refine j_goto E 1315 dL_law_485 (by decide) ?_
  exact W.widen (by omega) (by omega) (next _ _ _ _ _ _ ls hw ⟨by omega, by omega, by omega, by omega⟩ hr2_n_ hra_n_ hrk_n_ hrs_n_ hrf_n_ hl)
set_option maxHeartbeats 4000000 in
set_option maxRecDepth 100000 in
theorem lc_10 {p : Program} {l : Launch} {e : Env} {s : State} {m : MethodId} {below : List Frame} {meth : Method} {c : Code} {H : Heap} {locs : List Loc} {cells slots : Nat} {QW : State → Prop} {ls : Array Slot} {D : va_G} {cy : Nat → ClassId} {κ T : Nat → Nat → Nat} {v : Nat → Nat → Int} {q : Nat → Nat} {n : Nat → Int} {f : Nat → Int → Int} {x b L : Nat} {xs : Nat → Int32} (E : CX p s m #[Value.ref b] meth c RL cL_law 4 ret) (hK : KK D cy s) (hZ : ZZ κ s s.heap) (hκ : κ 2 0 < s.heap.size) (hX : va_X b L xs s s.heap) (hbl : b < s.heap.size) (hL : L ≤ 4096) {i : Int} (hi : 0 ≤ i ∧ i + 8 ≤ (L : Int)) (hf : cells + 6 ≤ 600000 ∧ slots + 7000 ≤ 7302250) (hw : LW D cy κ x T v q n f s H locs) (hR : RB T v x n) (hR2 : R2 T v x n f) (hRA : RA T v x n f) (hRK : RBk T v x n f) (hRS : RS T v x n f) (hRF : Fut_ (f 18) (n 1) (n 12)) (hl : lv_has ls 4 [(0, .ref b), (1, .ref x), (2, .ref (q 0)), (3, .int (J i))])
    (next : ∀ (T : Nat → Nat → Nat) (v : Nat → Nat → Int) (n : Nat → Int) (f : Nat → Int → Int) (H : Heap) (locs : List Loc) (ls : Array Slot), LW D cy κ x T v q n f s H locs → RB T v x n → R2 T v x n f → RA T v x n f → RBk T v x n f → RS T v x n f → Fut_ (f 18) (n 1) (n 12) → lv_has ls 4 [(0, .ref b), (1, .ref x), (2, .ref (q 0)), (3, .int (J i))] → W p l e room_1 s m #[Value.ref b] below meth c H locs (cells + 6) (slots + 7000) QW (F0 m 1315 ls [])) : W p l e room_1 s m #[Value.ref b] below meth c H locs cells slots QW (F0 m 488 ls []) := by
  obtain ⟨hr1_, hr2_, hr3_, hr4_⟩ := hR
  have hMI_ := hw.2.2.2.2.2.1
  have j1_ := hMI_.1
  have j2_ := hMI_.2.1
  have j3_ := hMI_.2.2.1
  have j4_ := hMI_.2.2.2.1
  have j5_ := hMI_.2.2.2.2.1
  have m_book := hMI_.2.2.2.2.2.2.2.2.2.2.1
  have m_cod := hMI_.2.2.2.2.2.2.2.2.2.2.2.2.2.1
  clear hMI_
  obtain ⟨S1_, S2_, S3_, hWd_, hSg_⟩ := hRS
  have hwC_ := hw.1
  have t9_ := hw.2.1
  have hnw_ : ∀ q_, H.size ≤ q_ → ∀ i_ : Nat, (i_ : Int) < v 202 (T 181 x) → ∀ y_ : Nat, ELn_ T 181 x i_ = y_ + 1 → y_ ≠ q_ := fun q_ hq_ => fr_of hwC_ (wt_181 hwC_.2.1 t9_) hq_
  have ra1_ := hRA.1
  have ra2_ := hRA.2.1
  have ra3_ := hRA.2.2.1
  refine j_aload_n E 489 rfl dL_law_488 rfl (lv_at hl 1 rfl) ?_
  refine j_aload_n E 490 rfl dL_law_489 rfl (lv_at hl 0 rfl) ?_
  refine j_iload_n E 491 rfl dL_law_490 rfl (lv_at hl 3 rfl) ?_
  refine j_iconst E 492 rfl dL_law_491 ?_
  refine j_iadd E 493 rfl dL_law_492 ?_
  refine lw_ld E hX hbl hL hw (by omega) 494 rfl dL_law_493 ?_
  refine lw_C E (c_X9_fault l D cy T v x ((xs (i + 1).toNat).toInt) hw.2.1 (inR_toInt _)) mt_X9_fault ml_L_59 hK hw rfl ⟨(Nat.le_of_ble_eq_true rfl), (Nat.le_of_ble_eq_true rfl)⟩ ⟨show cells ≤ 600000 by omega, show slots ≤ 7302250 by omega⟩ (As := [.int (J (xs (i + 1).toNat).toInt)]) (rest := []) rfl rfl hl.1 (Nat.le_of_ble_eq_true rfl) 497 rfl dL_law_494 (fun z1_ v1_ H locs rz1_ hz1_ hw => ?_)
  obtain ⟨ev1_, hc1_⟩ := hz1_
  have ca186_ : v1_ 186 x = v 186 x := congrFun (congrFun ev1_ 186) x
  have ca187_ : v1_ 187 x = v 187 x := congrFun (congrFun ev1_ 187) x
  have ca190_ : v1_ 190 x = v 190 x := congrFun (congrFun ev1_ 190) x
  have ca191_ : v1_ 191 x = v 191 x := congrFun (congrFun ev1_ 191) x
  have cs180_ : v1_ 202 (T 180 x) = v 202 (T 180 x) := congrFun (congrFun ev1_ 202) (T 180 x)
  have cs181_ : v1_ 202 (T 181 x) = v 202 (T 181 x) := congrFun (congrFun ev1_ 202) (T 181 x)
  have cs182_ : v1_ 202 (T 182 x) = v 202 (T 182 x) := congrFun (congrFun ev1_ 202) (T 182 x)
  have cv40_ : v1_ 40 = v 40 := congrFun ev1_ 40
  have cv41_ : v1_ 41 = v 41 := congrFun ev1_ 41
  have cv42_ : v1_ 42 = v 42 := congrFun ev1_ 42
  have cv43_ : v1_ 43 = v 43 := congrFun ev1_ 43
  have cv44_ : v1_ 44 = v 44 := congrFun ev1_ 44
  have cv303_ : v1_ 303 = v 303 := congrFun ev1_ 303
  have cv25_ : v1_ 25 = v 25 := congrFun ev1_ 25
  have cv300_ : v1_ 300 = v 300 := congrFun ev1_ 300
  clear ev1_
  refine j_pop E 498 rfl dL_law_497 rfl ?_
  refine j_aload_n E 499 rfl dL_law_498 rfl (lv_at hl 2 rfl) ?_
  refine j_aload_n E 500 rfl dL_law_499 rfl (lv_at hl 0 rfl) ?_
  refine j_iload_n E 501 rfl dL_law_500 rfl (lv_at hl 3 rfl) ?_
  refine j_iconst E 502 rfl dL_law_501 ?_
  refine j_iadd E 503 rfl dL_law_502 ?_
  refine lw_ld E hX hbl hL hw (by omega) 504 rfl dL_law_503 ?_
  refine lw_M E (c_X10_fault l D cy q n f ((xs (i + 1).toNat).toInt) (inR_toInt _) hw.2.2.2.2.2.1 ) mt_X10_fault ml_L_63 hK hw rfl hκ ⟨(Nat.le_of_ble_eq_true rfl), (Nat.le_of_ble_eq_true rfl)⟩ ⟨show cells ≤ 600000 by omega, show slots ≤ 7302250 by omega⟩ (As := [.int (J (xs (i + 1).toNat).toInt)]) (rest := []) rfl rfl hl.1 (Nat.le_of_ble_eq_true rfl) 507 rfl dL_law_504 (fun z n2 f2 h => by obtain ⟨_, e1, e2, h, -⟩ := h; rw [e1, e2]; exact h) (fun z2_ n2_ f2_ H locs rz2_ hz2_ hw => ?_)
  obtain ⟨x0m2_, em2_, ef2_, -, hm2_⟩ := hz2_
  have mg3_ : f2_ 3 = f 3 := congrFun ef2_ 3
  have mg4_ : f2_ 4 = f 4 := congrFun ef2_ 4
  have mg5_ : f2_ 5 = f 5 := congrFun ef2_ 5
  have mg6_ : f2_ 6 = f 6 := congrFun ef2_ 6
  have mg7_ : f2_ 7 = f 7 := congrFun ef2_ 7
  have mg18_ : f2_ 18 = f 18 := congrFun ef2_ 18
  have mg22_ : f2_ 22 = f 22 := congrFun ef2_ 22
  have mg32_ : f2_ 32 = f 32 := congrFun ef2_ 32
  have mg33_ : f2_ 33 = f 33 := congrFun ef2_ 33
  have mg34_ : f2_ 34 = f 34 := congrFun ef2_ 34
  have mg35_ : f2_ 35 = f 35 := congrFun ef2_ 35
  have mg36_ : f2_ 36 = f 36 := congrFun ef2_ 36
  have mg67_ : f2_ 67 = f 67 := congrFun ef2_ 67
  have mn1_ : n2_ 1 = n 1 := congrFun em2_ 1
  have mn2_ : n2_ 2 = n 2 := congrFun em2_ 2
  have mn12_ : n2_ 12 = n 12 := congrFun em2_ 12
  have mn23_ : n2_ 23 = n 23 := congrFun em2_ 23
  have mn29_ : n2_ 29 = n 29 := congrFun em2_ 29
  have mn43_ : n2_ 43 = n 43 := congrFun em2_ 43
  have mn44_ : n2_ 44 = n 44 := congrFun em2_ 44
  clear em2_
  clear ef2_
  have hr2_n_ := R2_same hR2 (fun _ => rfl) cv40_ cv41_ cv42_ cv43_ cv44_ mn2_ mg3_ mg4_ mg5_ mg6_ mg7_
  have hra_n_ := RA_same hRA cs182_ ca190_ ca191_ rfl cv303_ mn29_ mn43_ mn44_ (by omega) mg22_
  have hrf_n_ : Fut_ (f2_ 18) (n2_ 1) (n2_ 12) := by rw [mg18_, mn1_, mn12_]; exact hRF
  have hrk_n_ := RBk_same hRK (fun _ => rfl) cv25_ mn12_ mg67_
  have hrs_n_ : RS T v1_ x n2_ f2_ := RS_same hSg_ (by rw [cv300_, cs182_]; exact hWd_) mn29_ mg32_ mg33_ mg34_ mg35_ mg36_
  refine j_pop E 508 rfl dL_law_507 rfl ?_
  refine j_goto E 1315 dL_law_508 (by decide) ?_
  exact W.widen (by omega) (by omega) (next _ _ _ _ _ _ ls hw ⟨by omega, by omega, by omega, by omega⟩ hr2_n_ hra_n_ hrk_n_ hrs_n_ hrf_n_ hl)
set_option maxHeartbeats 4000000 in
set_option maxRecDepth 100000 in
theorem lc_11 {p : Program} {l : Launch} {e : Env} {s : State} {m : MethodId} {below : List Frame} {meth : Method} {c : Code} {H : Heap} {locs : List Loc} {cells slots : Nat} {QW : State → Prop} {ls : Array Slot} {D : va_G} {cy : Nat → ClassId} {κ T : Nat → Nat → Nat} {v : Nat → Nat → Int} {q : Nat → Nat} {n : Nat → Int} {f : Nat → Int → Int} {x b L : Nat} {xs : Nat → Int32} (E : CX p s m #[Value.ref b] meth c RL cL_law 4 ret) (hK : KK D cy s) (hZ : ZZ κ s s.heap) (hκ : κ 2 0 < s.heap.size) (hX : va_X b L xs s s.heap) (hbl : b < s.heap.size) (hL : L ≤ 4096) {i : Int} (hi : 0 ≤ i ∧ i + 8 ≤ (L : Int)) (hf : cells + 6 ≤ 600000 ∧ slots + 7000 ≤ 7302250) (hw : LW D cy κ x T v q n f s H locs) (hR : RB T v x n) (hR2 : R2 T v x n f) (hRA : RA T v x n f) (hRK : RBk T v x n f) (hRS : RS T v x n f) (hRF : Fut_ (f 18) (n 1) (n 12)) (hl : lv_has ls 4 [(0, .ref b), (1, .ref x), (2, .ref (q 0)), (3, .int (J i))])
    (next : ∀ (T : Nat → Nat → Nat) (v : Nat → Nat → Int) (n : Nat → Int) (f : Nat → Int → Int) (H : Heap) (locs : List Loc) (ls : Array Slot), LW D cy κ x T v q n f s H locs → RB T v x n → R2 T v x n f → RA T v x n f → RBk T v x n f → RS T v x n f → Fut_ (f 18) (n 1) (n 12) → lv_has ls 4 [(0, .ref b), (1, .ref x), (2, .ref (q 0)), (3, .int (J i))] → W p l e room_1 s m #[Value.ref b] below meth c H locs (cells + 6) (slots + 7000) QW (F0 m 1315 ls [])) : W p l e room_1 s m #[Value.ref b] below meth c H locs cells slots QW (F0 m 511 ls []) := by
  obtain ⟨hr1_, hr2_, hr3_, hr4_⟩ := hR
  have hMI_ := hw.2.2.2.2.2.1
  have j1_ := hMI_.1
  have j2_ := hMI_.2.1
  have j3_ := hMI_.2.2.1
  have j4_ := hMI_.2.2.2.1
  have j5_ := hMI_.2.2.2.2.1
  have m_book := hMI_.2.2.2.2.2.2.2.2.2.2.1
  have m_cod := hMI_.2.2.2.2.2.2.2.2.2.2.2.2.2.1
  clear hMI_
  obtain ⟨S1_, S2_, S3_, hWd_, hSg_⟩ := hRS
  have hwC_ := hw.1
  have t9_ := hw.2.1
  have hnw_ : ∀ q_, H.size ≤ q_ → ∀ i_ : Nat, (i_ : Int) < v 202 (T 181 x) → ∀ y_ : Nat, ELn_ T 181 x i_ = y_ + 1 → y_ ≠ q_ := fun q_ hq_ => fr_of hwC_ (wt_181 hwC_.2.1 t9_) hq_
  have ra1_ := hRA.1
  have ra2_ := hRA.2.1
  have ra3_ := hRA.2.2.1
  refine j_aload_n E 512 rfl dL_law_511 rfl (lv_at hl 1 rfl) ?_
  refine j_aload_n E 513 rfl dL_law_512 rfl (lv_at hl 0 rfl) ?_
  refine j_iload_n E 514 rfl dL_law_513 rfl (lv_at hl 3 rfl) ?_
  refine j_iconst E 515 rfl dL_law_514 ?_
  refine j_iadd E 516 rfl dL_law_515 ?_
  refine lw_ld E hX hbl hL hw (by omega) 517 rfl dL_law_516 ?_
  refine j_aload_n E 518 rfl dL_law_517 rfl (lv_at hl 0 rfl) ?_
  refine j_iload_n E 519 rfl dL_law_518 rfl (lv_at hl 3 rfl) ?_
  refine j_iconst E 520 rfl dL_law_519 ?_
  refine j_iadd E 521 rfl dL_law_520 ?_
  refine lw_ld E hX hbl hL hw (by omega) 522 rfl dL_law_521 ?_
  refine j_if_eq E 525 529 rfl (inR_toInt _) dL_law_522 (by decide) (fun c1_ => ?_) (fun c1_ => ?_)
  · refine j_iconst E 530 rfl dL_law_529 ?_
    refine lw_A E (n_X9_line l D cy κ T v x ((xs (i + 1).toNat).toInt) 0 H.size (fun a h => Nat.le_trans hZ.2.1 (hw.2.2.2.1 a h)) hw.2.1 (inR_toInt _) (rr (by decide)) hw.2.2.1 (Or.inl rfl)) mt_X9_line ml_L_64 hK hZ hw rfl ⟨(Nat.le_of_ble_eq_true rfl), (Nat.le_of_ble_eq_true rfl)⟩ ⟨show cells + 3 ≤ 600000 by omega, show slots + 700 ≤ 7302250 by omega⟩ (As := [.int (J (xs (i + 1).toNat).toInt), .int (J 0)]) (rest := []) rfl rfl hl.1 (Nat.le_of_ble_eq_true rfl) 533 rfl dL_law_530 (fun z T2 v2 h => h.1) (fun z2_ T2_ v2_ H locs rz2_ hz2_ hw => ?_)
    obtain ⟨-, ⟨e180_, e181_, e182_, e183_, e185_⟩, ca186_, ca187_, ca190_, ca191_, cv303_, co180_, co182_, co183_, hCC_, hE_, hE182_, hE183_, cv40_, cv41_, cv42_, cv43_, cv44_, cv300_, cv160_, hc2_⟩ := hz2_
    have cs180_ : v2_ 202 (T2_ 180 x) = v2_ 202 (T 180 x) := by rw [e180_]
    have cs181_ : v2_ 202 (T2_ 181 x) = v2_ 202 (T 181 x) := by rw [e181_]
    have cs182_ : v2_ 202 (T2_ 182 x) = v2_ 202 (T 182 x) := by rw [e182_]
    refine W.widen (show cells + 3 ≤ cells + 6 by omega) (show slots + 700 ≤ slots + 7000 by omega) ?_
    refine j_pop E 534 rfl dL_law_533 rfl ?_
    refine j_aload_n E 535 rfl dL_law_534 rfl (lv_at hl 2 rfl) ?_
    refine j_aload_n E 536 rfl dL_law_535 rfl (lv_at hl 0 rfl) ?_
    refine j_iload_n E 537 rfl dL_law_536 rfl (lv_at hl 3 rfl) ?_
    refine j_iconst E 538 rfl dL_law_537 ?_
    refine j_iadd E 539 rfl dL_law_538 ?_
    refine lw_ld E hX hbl hL hw (by omega) 540 rfl dL_law_539 ?_
    refine j_aload_n E 541 rfl dL_law_540 rfl (lv_at hl 0 rfl) ?_
    refine j_iload_n E 542 rfl dL_law_541 rfl (lv_at hl 3 rfl) ?_
    refine j_iconst E 543 rfl dL_law_542 ?_
    refine j_iadd E 544 rfl dL_law_543 ?_
    refine lw_ld E hX hbl hL hw (by omega) 545 rfl dL_law_544 ?_
    refine j_if_eq E 548 552 rfl (inR_toInt _) dL_law_545 (by decide) (fun _ => ?_) (fun c2_ => absurd c1_ c2_)
    refine j_iconst E 553 rfl dL_law_552 ?_
    refine lw_M E (c_X10_line l D cy q n f ((xs (i + 1).toNat).toInt) 0 (inR_toInt _) (rr (by decide)) hw.2.2.2.2.2.1 (Or.inl rfl)) mt_X10_line ml_L_68 hK hw rfl hκ ⟨(Nat.le_of_ble_eq_true rfl), (Nat.le_of_ble_eq_true rfl)⟩ ⟨show cells + 6 ≤ 600000 by omega, show slots + 7000 ≤ 7302250 by omega⟩ (As := [.int (J (xs (i + 1).toNat).toInt), .int (J 0)]) (rest := []) rfl rfl hl.1 (Nat.le_of_ble_eq_true rfl) 556 rfl dL_law_553 (fun z n2 f2 h => by obtain ⟨_, _, _, _, _, _, _, e1, e2, h, -⟩ := h; rw [e1, e2]; exact h) (fun z3_ n3_ f3_ H locs rz3_ hz3_ hw => ?_)
    obtain ⟨x0m3_, x12m3_, y13m3_, y14m3_, y16m3_, y67m3_, y18m3_, em3_, ef3_, -, hm3_⟩ := hz3_
    have mg3_ : f3_ 3 = f 3 := congrFun ef3_ 3
    have mg4_ : f3_ 4 = f 4 := congrFun ef3_ 4
    have mg5_ : f3_ 5 = f 5 := congrFun ef3_ 5
    have mg6_ : f3_ 6 = f 6 := congrFun ef3_ 6
    have mg7_ : f3_ 7 = f 7 := congrFun ef3_ 7
    have mg18_ : f3_ 18 = y18m3_ := congrFun ef3_ 18
    have mg22_ : f3_ 22 = f 22 := congrFun ef3_ 22
    have mg32_ : f3_ 32 = f 32 := congrFun ef3_ 32
    have mg33_ : f3_ 33 = f 33 := congrFun ef3_ 33
    have mg34_ : f3_ 34 = f 34 := congrFun ef3_ 34
    have mg35_ : f3_ 35 = f 35 := congrFun ef3_ 35
    have mg36_ : f3_ 36 = f 36 := congrFun ef3_ 36
    have mg67_ : f3_ 67 = y67m3_ := congrFun ef3_ 67
    have mn1_ : n3_ 1 = n 1 := congrFun em3_ 1
    have mn2_ : n3_ 2 = n 2 := congrFun em3_ 2
    have mn12_ : n3_ 12 = x12m3_ := congrFun em3_ 12
    have mn23_ : n3_ 23 = n 23 := congrFun em3_ 23
    have mn29_ : n3_ 29 = n 29 := congrFun em3_ 29
    have mn43_ : n3_ 43 = n 43 := congrFun em3_ 43
    have mn44_ : n3_ 44 = n 44 := congrFun em3_ 44
    clear em3_
    clear ef3_
    have hk_ := RBk_line hRK hr4_ j3_.1 mn12_ mg67_ hnw_ hc2_ (hm3_.imp (fun ⟨a_, b_, c_, d_, _⟩ => ⟨a_, b_, c_, d_⟩) (fun ⟨a_, b_, c_, d_, _⟩ => ⟨a_, b_, c_, d_⟩))
    have hrf_n_ := RF_line hRF j1_.1 (n2 := n3_) (f2 := f3_) mn1_ mn12_ mg18_ (hm3_.imp (fun ⟨_, _, c_, _, e_, _⟩ => ⟨c_, e_⟩) (fun ⟨_, _, c_, _, e_, _⟩ => ⟨c_, e_⟩))
    have hrk_n_ := hk_.2
    have hl_ := hk_.1
    clear hc2_
    clear hm3_
    have hr2_n_ := R2_same hR2 hE_ cv40_ cv41_ cv42_ cv43_ cv44_ mn2_ mg3_ mg4_ mg5_ mg6_ mg7_
    have hra_n_ := RA_same hRA (cs182_.trans co182_) ca190_ ca191_ e185_ cv303_ mn29_ mn43_ mn44_ (by omega) mg22_
    have hrs_n_ : RS T2_ v2_ x n3_ f3_ := RS_same hSg_ (wd_mk hwC_ t9_ rfl hCC_ (by rw [cv300_]; exact KdA_rf (ks := [])) (by decide) hE182_ (cs182_.trans co182_) hWd_) mn29_ mg32_ mg33_ mg34_ mg35_ mg36_
    refine j_pop E 557 rfl dL_law_556 rfl ?_
    refine j_goto E 1315 dL_law_557 (by decide) ?_
    exact W.widen (by omega) (by omega) (next _ _ _ _ _ _ ls hw ⟨by omega, by omega, by omega, by omega⟩ hr2_n_ hra_n_ hrk_n_ hrs_n_ hrf_n_ hl)
  · refine j_iconst E 526 rfl dL_law_525 ?_
    refine j_goto E 530 dL_law_526 (by decide) ?_
    refine lw_A E (n_X9_line l D cy κ T v x ((xs (i + 1).toNat).toInt) 1 H.size (fun a h => Nat.le_trans hZ.2.1 (hw.2.2.2.1 a h)) hw.2.1 (inR_toInt _) (rr (by decide)) hw.2.2.1 (Or.inr rfl)) mt_X9_line ml_L_64 hK hZ hw rfl ⟨(Nat.le_of_ble_eq_true rfl), (Nat.le_of_ble_eq_true rfl)⟩ ⟨show cells + 3 ≤ 600000 by omega, show slots + 700 ≤ 7302250 by omega⟩ (As := [.int (J (xs (i + 1).toNat).toInt), .int (J 1)]) (rest := []) rfl rfl hl.1 (Nat.le_of_ble_eq_true rfl) 533 rfl dL_law_530 (fun z T2 v2 h => h.1) (fun z4_ T4_ v4_ H locs rz4_ hz4_ hw => ?_)
    obtain ⟨-, ⟨e180_, e181_, e182_, e183_, e185_⟩, ca186_, ca187_, ca190_, ca191_, cv303_, co180_, co182_, co183_, hCC_, hE_, hE182_, hE183_, cv40_, cv41_, cv42_, cv43_, cv44_, cv300_, cv160_, hc4_⟩ := hz4_
    have cs180_ : v4_ 202 (T4_ 180 x) = v4_ 202 (T 180 x) := by rw [e180_]
    have cs181_ : v4_ 202 (T4_ 181 x) = v4_ 202 (T 181 x) := by rw [e181_]
    have cs182_ : v4_ 202 (T4_ 182 x) = v4_ 202 (T 182 x) := by rw [e182_]
    refine W.widen (show cells + 3 ≤ cells + 6 by omega) (show slots + 700 ≤ slots + 7000 by omega) ?_
    refine j_pop E 534 rfl dL_law_533 rfl ?_
    refine j_aload_n E 535 rfl dL_law_534 rfl (lv_at hl 2 rfl) ?_
    refine j_aload_n E 536 rfl dL_law_535 rfl (lv_at hl 0 rfl) ?_
    refine j_iload_n E 537 rfl dL_law_536 rfl (lv_at hl 3 rfl) ?_
    refine j_iconst E 538 rfl dL_law_537 ?_
    refine j_iadd E 539 rfl dL_law_538 ?_
    refine lw_ld E hX hbl hL hw (by omega) 540 rfl dL_law_539 ?_
    refine j_aload_n E 541 rfl dL_law_540 rfl (lv_at hl 0 rfl) ?_
    refine j_iload_n E 542 rfl dL_law_541 rfl (lv_at hl 3 rfl) ?_
    refine j_iconst E 543 rfl dL_law_542 ?_
    refine j_iadd E 544 rfl dL_law_543 ?_
    refine lw_ld E hX hbl hL hw (by omega) 545 rfl dL_law_544 ?_
    refine j_if_eq E 548 552 rfl (inR_toInt _) dL_law_545 (by decide) (fun c2_ => absurd c2_ c1_) (fun _ => ?_)
    refine j_iconst E 549 rfl dL_law_548 ?_
    refine j_goto E 553 dL_law_549 (by decide) ?_
    refine lw_M E (c_X10_line l D cy q n f ((xs (i + 1).toNat).toInt) 1 (inR_toInt _) (rr (by decide)) hw.2.2.2.2.2.1 (Or.inr rfl)) mt_X10_line ml_L_68 hK hw rfl hκ ⟨(Nat.le_of_ble_eq_true rfl), (Nat.le_of_ble_eq_true rfl)⟩ ⟨show cells + 6 ≤ 600000 by omega, show slots + 7000 ≤ 7302250 by omega⟩ (As := [.int (J (xs (i + 1).toNat).toInt), .int (J 1)]) (rest := []) rfl rfl hl.1 (Nat.le_of_ble_eq_true rfl) 556 rfl dL_law_553 (fun z n2 f2 h => by obtain ⟨_, _, _, _, _, _, _, e1, e2, h, -⟩ := h; rw [e1, e2]; exact h) (fun z5_ n5_ f5_ H locs rz5_ hz5_ hw => ?_)
    obtain ⟨x0m5_, x12m5_, y13m5_, y14m5_, y16m5_, y67m5_, y18m5_, em5_, ef5_, -, hm5_⟩ := hz5_
    have mg3_ : f5_ 3 = f 3 := congrFun ef5_ 3
    have mg4_ : f5_ 4 = f 4 := congrFun ef5_ 4
    have mg5_ : f5_ 5 = f 5 := congrFun ef5_ 5
    have mg6_ : f5_ 6 = f 6 := congrFun ef5_ 6
    have mg7_ : f5_ 7 = f 7 := congrFun ef5_ 7
    have mg18_ : f5_ 18 = y18m5_ := congrFun ef5_ 18
    have mg22_ : f5_ 22 = f 22 := congrFun ef5_ 22
    have mg32_ : f5_ 32 = f 32 := congrFun ef5_ 32
    have mg33_ : f5_ 33 = f 33 := congrFun ef5_ 33
    have mg34_ : f5_ 34 = f 34 := congrFun ef5_ 34
    have mg35_ : f5_ 35 = f 35 := congrFun ef5_ 35
    have mg36_ : f5_ 36 = f 36 := congrFun ef5_ 36
    have mg67_ : f5_ 67 = y67m5_ := congrFun ef5_ 67
    have mn1_ : n5_ 1 = n 1 := congrFun em5_ 1
    have mn2_ : n5_ 2 = n 2 := congrFun em5_ 2
    have mn12_ : n5_ 12 = x12m5_ := congrFun em5_ 12
    have mn23_ : n5_ 23 = n 23 := congrFun em5_ 23
    have mn29_ : n5_ 29 = n 29 := congrFun em5_ 29
    have mn43_ : n5_ 43 = n 43 := congrFun em5_ 43
    have mn44_ : n5_ 44 = n 44 := congrFun em5_ 44
    clear em5_
    clear ef5_
    have hk_ := RBk_line hRK hr4_ j3_.1 mn12_ mg67_ hnw_ hc4_ (hm5_.imp (fun ⟨a_, b_, c_, d_, _⟩ => ⟨a_, b_, c_, d_⟩) (fun ⟨a_, b_, c_, d_, _⟩ => ⟨a_, b_, c_, d_⟩))
    have hrf_n_ := RF_line hRF j1_.1 (n2 := n5_) (f2 := f5_) mn1_ mn12_ mg18_ (hm5_.imp (fun ⟨_, _, c_, _, e_, _⟩ => ⟨c_, e_⟩) (fun ⟨_, _, c_, _, e_, _⟩ => ⟨c_, e_⟩))
    have hrk_n_ := hk_.2
    have hl_ := hk_.1
    clear hc4_
    clear hm5_
    have hr2_n_ := R2_same hR2 hE_ cv40_ cv41_ cv42_ cv43_ cv44_ mn2_ mg3_ mg4_ mg5_ mg6_ mg7_
    have hra_n_ := RA_same hRA (cs182_.trans co182_) ca190_ ca191_ e185_ cv303_ mn29_ mn43_ mn44_ (by omega) mg22_
    have hrs_n_ : RS T4_ v4_ x n5_ f5_ := RS_same hSg_ (wd_mk hwC_ t9_ rfl hCC_ (by rw [cv300_]; exact KdA_rf (ks := [])) (by decide) hE182_ (cs182_.trans co182_) hWd_) mn29_ mg32_ mg33_ mg34_ mg35_ mg36_
    refine j_pop E 557 rfl dL_law_556 rfl ?_
    refine j_goto E 1315 dL_law_557 (by decide) ?_
    exact W.widen (by omega) (by omega) (next _ _ _ _ _ _ ls hw ⟨by omega, by omega, by omega, by omega⟩ hr2_n_ hra_n_ hrk_n_ hrs_n_ hrf_n_ hl)
set_option maxHeartbeats 4000000 in
set_option maxRecDepth 100000 in
theorem lc_12 {p : Program} {l : Launch} {e : Env} {s : State} {m : MethodId} {below : List Frame} {meth : Method} {c : Code} {H : Heap} {locs : List Loc} {cells slots : Nat} {QW : State → Prop} {ls : Array Slot} {D : va_G} {cy : Nat → ClassId} {κ T : Nat → Nat → Nat} {v : Nat → Nat → Int} {q : Nat → Nat} {n : Nat → Int} {f : Nat → Int → Int} {x b L : Nat} {xs : Nat → Int32} (E : CX p s m #[Value.ref b] meth c RL cL_law 4 ret) (hK : KK D cy s) (hZ : ZZ κ s s.heap) (hκ : κ 2 0 < s.heap.size) (hX : va_X b L xs s s.heap) (hbl : b < s.heap.size) (hL : L ≤ 4096) {i : Int} (hi : 0 ≤ i ∧ i + 8 ≤ (L : Int)) (hf : cells + 6 ≤ 600000 ∧ slots + 7000 ≤ 7302250) (hw : LW D cy κ x T v q n f s H locs) (hR : RB T v x n) (hR2 : R2 T v x n f) (hRA : RA T v x n f) (hRK : RBk T v x n f) (hRS : RS T v x n f) (hRF : Fut_ (f 18) (n 1) (n 12)) (hl : lv_has ls 4 [(0, .ref b), (1, .ref x), (2, .ref (q 0)), (3, .int (J i))])
    (next : ∀ (T : Nat → Nat → Nat) (v : Nat → Nat → Int) (n : Nat → Int) (f : Nat → Int → Int) (H : Heap) (locs : List Loc) (ls : Array Slot), LW D cy κ x T v q n f s H locs → RB T v x n → R2 T v x n f → RA T v x n f → RBk T v x n f → RS T v x n f → Fut_ (f 18) (n 1) (n 12) → lv_has ls 4 [(0, .ref b), (1, .ref x), (2, .ref (q 0)), (3, .int (J i))] → W p l e room_1 s m #[Value.ref b] below meth c H locs (cells + 6) (slots + 7000) QW (F0 m 1315 ls [])) : W p l e room_1 s m #[Value.ref b] below meth c H locs cells slots QW (F0 m 560 ls []) := by
  obtain ⟨hr1_, hr2_, hr3_, hr4_⟩ := hR
  have hMI_ := hw.2.2.2.2.2.1
  have j1_ := hMI_.1
  have j2_ := hMI_.2.1
  have j3_ := hMI_.2.2.1
  have j4_ := hMI_.2.2.2.1
  have j5_ := hMI_.2.2.2.2.1
  have m_book := hMI_.2.2.2.2.2.2.2.2.2.2.1
  have m_cod := hMI_.2.2.2.2.2.2.2.2.2.2.2.2.2.1
  clear hMI_
  obtain ⟨S1_, S2_, S3_, hWd_, hSg_⟩ := hRS
  have hwC_ := hw.1
  have t9_ := hw.2.1
  have hnw_ : ∀ q_, H.size ≤ q_ → ∀ i_ : Nat, (i_ : Int) < v 202 (T 181 x) → ∀ y_ : Nat, ELn_ T 181 x i_ = y_ + 1 → y_ ≠ q_ := fun q_ hq_ => fr_of hwC_ (wt_181 hwC_.2.1 t9_) hq_
  have ra1_ := hRA.1
  have ra2_ := hRA.2.1
  have ra3_ := hRA.2.2.1
  refine j_aload_n E 561 rfl dL_law_560 rfl (lv_at hl 1 rfl) ?_
  refine j_aload_n E 562 rfl dL_law_561 rfl (lv_at hl 0 rfl) ?_
  refine j_iload_n E 563 rfl dL_law_562 rfl (lv_at hl 3 rfl) ?_
  refine j_iconst E 564 rfl dL_law_563 ?_
  refine j_iadd E 565 rfl dL_law_564 ?_
  refine lw_ld E hX hbl hL hw (by omega) 566 rfl dL_law_565 ?_
  refine j_aload_n E 567 rfl dL_law_566 rfl (lv_at hl 0 rfl) ?_
  refine j_iload_n E 568 rfl dL_law_567 rfl (lv_at hl 3 rfl) ?_
  refine j_iconst E 569 rfl dL_law_568 ?_
  refine j_iadd E 570 rfl dL_law_569 ?_
  refine lw_ld E hX hbl hL hw (by omega) 571 rfl dL_law_570 ?_
  refine j_aload_n E 572 rfl dL_law_571 rfl (lv_at hl 0 rfl) ?_
  refine j_iload_n E 573 rfl dL_law_572 rfl (lv_at hl 3 rfl) ?_
  refine j_iconst E 574 rfl dL_law_573 ?_
  refine j_iadd E 575 rfl dL_law_574 ?_
  refine lw_ld E hX hbl hL hw (by omega) 576 rfl dL_law_575 ?_
  refine j_aload_n E 577 rfl dL_law_576 rfl (lv_at hl 0 rfl) ?_
  refine j_iload_n E 578 rfl dL_law_577 rfl (lv_at hl 3 rfl) ?_
  refine j_iconst E 579 rfl dL_law_578 ?_
  refine j_iadd E 580 rfl dL_law_579 ?_
  refine lw_ld E hX hbl hL hw (by omega) 581 rfl dL_law_580 ?_
  refine lw_C E (c_X9_know l D cy T v x ((xs (i + 1).toNat).toInt) ((xs (i + 2).toNat).toInt) ((xs (i + 3).toNat).toInt) ((xs (i + 4).toNat).toInt) hw.2.1 (inR_toInt _) (inR_toInt _) (inR_toInt _) (inR_toInt _)) mt_X9_know ml_L_69 hK hw rfl ⟨(Nat.le_of_ble_eq_true rfl), (Nat.le_of_ble_eq_true rfl)⟩ ⟨show cells ≤ 600000 by omega, show slots ≤ 7302250 by omega⟩ (As := [.int (J (xs (i + 1).toNat).toInt), .int (J (xs (i + 2).toNat).toInt), .int (J (xs (i + 3).toNat).toInt), .int (J (xs (i + 4).toNat).toInt)]) (rest := []) rfl rfl hl.1 (Nat.le_of_ble_eq_true rfl) 584 rfl dL_law_581 (fun z1_ v1_ H locs rz1_ hz1_ hw => ?_)
  obtain ⟨y300_1, ev1_, hc1_, hKd_⟩ := hz1_
  have ca186_ : v1_ 186 x = v 186 x := congrFun (congrFun ev1_ 186) x
  have ca187_ : v1_ 187 x = v 187 x := congrFun (congrFun ev1_ 187) x
  have ca190_ : v1_ 190 x = v 190 x := congrFun (congrFun ev1_ 190) x
  have ca191_ : v1_ 191 x = v 191 x := congrFun (congrFun ev1_ 191) x
  have cs180_ : v1_ 202 (T 180 x) = v 202 (T 180 x) := congrFun (congrFun ev1_ 202) (T 180 x)
  have cs181_ : v1_ 202 (T 181 x) = v 202 (T 181 x) := congrFun (congrFun ev1_ 202) (T 181 x)
  have cs182_ : v1_ 202 (T 182 x) = v 202 (T 182 x) := congrFun (congrFun ev1_ 202) (T 182 x)
  have cv40_ : v1_ 40 = v 40 := congrFun ev1_ 40
  have cv41_ : v1_ 41 = v 41 := congrFun ev1_ 41
  have cv42_ : v1_ 42 = v 42 := congrFun ev1_ 42
  have cv43_ : v1_ 43 = v 43 := congrFun ev1_ 43
  have cv44_ : v1_ 44 = v 44 := congrFun ev1_ 44
  have cv303_ : v1_ 303 = v 303 := congrFun ev1_ 303
  have cv25_ : v1_ 25 = v 25 := congrFun ev1_ 25
  have cv300_ : v1_ 300 = y300_1 := congrFun ev1_ 300
  clear ev1_
  refine j_pop E 585 rfl dL_law_584 rfl ?_
  refine j_aload_n E 586 rfl dL_law_585 rfl (lv_at hl 2 rfl) ?_
  refine j_aload_n E 587 rfl dL_law_586 rfl (lv_at hl 0 rfl) ?_
  refine j_iload_n E 588 rfl dL_law_587 rfl (lv_at hl 3 rfl) ?_
  refine j_iconst E 589 rfl dL_law_588 ?_
  refine j_iadd E 590 rfl dL_law_589 ?_
  refine lw_ld E hX hbl hL hw (by omega) 591 rfl dL_law_590 ?_
  refine j_aload_n E 592 rfl dL_law_591 rfl (lv_at hl 0 rfl) ?_
  refine j_iload_n E 593 rfl dL_law_592 rfl (lv_at hl 3 rfl) ?_
  refine j_iconst E 594 rfl dL_law_593 ?_
  refine j_iadd E 595 rfl dL_law_594 ?_
  refine lw_ld E hX hbl hL hw (by omega) 596 rfl dL_law_595 ?_
  refine j_aload_n E 597 rfl dL_law_596 rfl (lv_at hl 0 rfl) ?_
  refine j_iload_n E 598 rfl dL_law_597 rfl (lv_at hl 3 rfl) ?_
  refine j_iconst E 599 rfl dL_law_598 ?_
  refine j_iadd E 600 rfl dL_law_599 ?_
  refine lw_ld E hX hbl hL hw (by omega) 601 rfl dL_law_600 ?_
  refine j_aload_n E 602 rfl dL_law_601 rfl (lv_at hl 0 rfl) ?_
  refine j_iload_n E 603 rfl dL_law_602 rfl (lv_at hl 3 rfl) ?_
  refine j_iconst E 604 rfl dL_law_603 ?_
  refine j_iadd E 605 rfl dL_law_604 ?_
  refine lw_ld E hX hbl hL hw (by omega) 606 rfl dL_law_605 ?_
  refine lw_M E (c_X10_know l D cy q n f ((xs (i + 1).toNat).toInt) ((xs (i + 2).toNat).toInt) ((xs (i + 3).toNat).toInt) ((xs (i + 4).toNat).toInt) (inR_toInt _) (inR_toInt _) (inR_toInt _) (inR_toInt _) hw.2.2.2.2.2.1 ) mt_X10_know ml_L_73 hK hw rfl hκ ⟨(Nat.le_of_ble_eq_true rfl), (Nat.le_of_ble_eq_true rfl)⟩ ⟨show cells ≤ 600000 by omega, show slots ≤ 7302250 by omega⟩ (As := [.int (J (xs (i + 1).toNat).toInt), .int (J (xs (i + 2).toNat).toInt), .int (J (xs (i + 3).toNat).toInt), .int (J (xs (i + 4).toNat).toInt)]) (rest := []) rfl rfl hl.1 (Nat.le_of_ble_eq_true rfl) 609 rfl dL_law_606 (fun z n2 f2 h => by obtain ⟨_, _, _, _, e1, e2, h, -⟩ := h; rw [e1, e2]; exact h) (fun z2_ n2_ f2_ H locs rz2_ hz2_ hw => ?_)
  obtain ⟨x0m2_, y19m2_, y20m2_, y21m2_, em2_, ef2_, -, hm2_⟩ := hz2_
  have mg3_ : f2_ 3 = f 3 := congrFun ef2_ 3
  have mg4_ : f2_ 4 = f 4 := congrFun ef2_ 4
  have mg5_ : f2_ 5 = f 5 := congrFun ef2_ 5
  have mg6_ : f2_ 6 = f 6 := congrFun ef2_ 6
  have mg7_ : f2_ 7 = f 7 := congrFun ef2_ 7
  have mg18_ : f2_ 18 = f 18 := congrFun ef2_ 18
  have mg22_ : f2_ 22 = f 22 := congrFun ef2_ 22
  have mg32_ : f2_ 32 = f 32 := congrFun ef2_ 32
  have mg33_ : f2_ 33 = f 33 := congrFun ef2_ 33
  have mg34_ : f2_ 34 = f 34 := congrFun ef2_ 34
  have mg35_ : f2_ 35 = f 35 := congrFun ef2_ 35
  have mg36_ : f2_ 36 = f 36 := congrFun ef2_ 36
  have mg67_ : f2_ 67 = f 67 := congrFun ef2_ 67
  have mn1_ : n2_ 1 = n 1 := congrFun em2_ 1
  have mn2_ : n2_ 2 = n 2 := congrFun em2_ 2
  have mn12_ : n2_ 12 = n 12 := congrFun em2_ 12
  have mn23_ : n2_ 23 = n 23 := congrFun em2_ 23
  have mn29_ : n2_ 29 = n 29 := congrFun em2_ 29
  have mn43_ : n2_ 43 = n 43 := congrFun em2_ 43
  have mn44_ : n2_ 44 = n 44 := congrFun em2_ 44
  clear em2_
  clear ef2_
  have hr2_n_ := R2_same hR2 (fun _ => rfl) cv40_ cv41_ cv42_ cv43_ cv44_ mn2_ mg3_ mg4_ mg5_ mg6_ mg7_
  have hra_n_ := RA_same hRA cs182_ ca190_ ca191_ rfl cv303_ mn29_ mn43_ mn44_ (by omega) mg22_
  have hd_ := RA_know hR2 hr3_ hr4_ hRA hc1_ (hm2_.imp (fun q_ => ⟨q_.1, q_.2.1⟩) (fun q_ => ⟨q_.1, q_.2.1⟩))
  have hrf_n_ : Fut_ (f2_ 18) (n2_ 1) (n2_ 12) := by rw [mg18_, mn1_, mn12_]; exact hRF
  have hrk_n_ := RBk_same hRK (fun _ => rfl) cv25_ mn12_ mg67_
  have hrs_n_ : RS T v1_ x n2_ f2_ := RS_same hSg_ (by rw [cv300_]; exact wd_kd hwC_ t9_ hKd_ (by decide) cs182_ hWd_) mn29_ mg32_ mg33_ mg34_ mg35_ mg36_
  clear hc1_
  refine j_pop E 610 rfl dL_law_609 rfl ?_
  refine j_goto E 1315 dL_law_610 (by decide) ?_
  exact W.widen (by omega) (by omega) (next _ _ _ _ _ _ ls hw ⟨by omega, by omega, by omega, by omega⟩ hr2_n_ hra_n_ hrk_n_ hrs_n_ hrf_n_ hl)
set_option maxHeartbeats 4000000 in
set_option maxRecDepth 100000 in
theorem lc_13 {p : Program} {l : Launch} {e : Env} {s : State} {m : MethodId} {below : List Frame} {meth : Method} {c : Code} {H : Heap} {locs : List Loc} {cells slots : Nat} {QW : State → Prop} {ls : Array Slot} {D : va_G} {cy : Nat → ClassId} {κ T : Nat → Nat → Nat} {v : Nat → Nat → Int} {q : Nat → Nat} {n : Nat → Int} {f : Nat → Int → Int} {x b L : Nat} {xs : Nat → Int32} (E : CX p s m #[Value.ref b] meth c RL cL_law 4 ret) (hK : KK D cy s) (hZ : ZZ κ s s.heap) (hκ : κ 2 0 < s.heap.size) (hX : va_X b L xs s s.heap) (hbl : b < s.heap.size) (hL : L ≤ 4096) {i : Int} (hi : 0 ≤ i ∧ i + 8 ≤ (L : Int)) (hf : cells + 6 ≤ 600000 ∧ slots + 7000 ≤ 7302250) (hw : LW D cy κ x T v q n f s H locs) (hR : RB T v x n) (hR2 : R2 T v x n f) (hRA : RA T v x n f) (hRK : RBk T v x n f) (hRS : RS T v x n f) (hRF : Fut_ (f 18) (n 1) (n 12)) (hl : lv_has ls 4 [(0, .ref b), (1, .ref x), (2, .ref (q 0)), (3, .int (J i))])
    (next : ∀ (T : Nat → Nat → Nat) (v : Nat → Nat → Int) (n : Nat → Int) (f : Nat → Int → Int) (H : Heap) (locs : List Loc) (ls : Array Slot), LW D cy κ x T v q n f s H locs → RB T v x n → R2 T v x n f → RA T v x n f → RBk T v x n f → RS T v x n f → Fut_ (f 18) (n 1) (n 12) → lv_has ls 4 [(0, .ref b), (1, .ref x), (2, .ref (q 0)), (3, .int (J i))] → W p l e room_1 s m #[Value.ref b] below meth c H locs (cells + 6) (slots + 7000) QW (F0 m 1315 ls [])) : W p l e room_1 s m #[Value.ref b] below meth c H locs cells slots QW (F0 m 613 ls []) := by
  obtain ⟨hr1_, hr2_, hr3_, hr4_⟩ := hR
  have hMI_ := hw.2.2.2.2.2.1
  have j1_ := hMI_.1
  have j2_ := hMI_.2.1
  have j3_ := hMI_.2.2.1
  have j4_ := hMI_.2.2.2.1
  have j5_ := hMI_.2.2.2.2.1
  have m_book := hMI_.2.2.2.2.2.2.2.2.2.2.1
  have m_cod := hMI_.2.2.2.2.2.2.2.2.2.2.2.2.2.1
  clear hMI_
  obtain ⟨S1_, S2_, S3_, hWd_, hSg_⟩ := hRS
  have hwC_ := hw.1
  have t9_ := hw.2.1
  have hnw_ : ∀ q_, H.size ≤ q_ → ∀ i_ : Nat, (i_ : Int) < v 202 (T 181 x) → ∀ y_ : Nat, ELn_ T 181 x i_ = y_ + 1 → y_ ≠ q_ := fun q_ hq_ => fr_of hwC_ (wt_181 hwC_.2.1 t9_) hq_
  have ra1_ := hRA.1
  have ra2_ := hRA.2.1
  have ra3_ := hRA.2.2.1
  refine j_aload_n E 614 rfl dL_law_613 rfl (lv_at hl 1 rfl) ?_
  refine j_aload_n E 615 rfl dL_law_614 rfl (lv_at hl 0 rfl) ?_
  refine j_iload_n E 616 rfl dL_law_615 rfl (lv_at hl 3 rfl) ?_
  refine j_iconst E 617 rfl dL_law_616 ?_
  refine j_iadd E 618 rfl dL_law_617 ?_
  refine lw_ld E hX hbl hL hw (by omega) 619 rfl dL_law_618 ?_
  refine j_aload_n E 620 rfl dL_law_619 rfl (lv_at hl 0 rfl) ?_
  refine j_iload_n E 621 rfl dL_law_620 rfl (lv_at hl 3 rfl) ?_
  refine j_iconst E 622 rfl dL_law_621 ?_
  refine j_iadd E 623 rfl dL_law_622 ?_
  refine lw_ld E hX hbl hL hw (by omega) 624 rfl dL_law_623 ?_
  refine j_aload_n E 625 rfl dL_law_624 rfl (lv_at hl 0 rfl) ?_
  refine j_iload_n E 626 rfl dL_law_625 rfl (lv_at hl 3 rfl) ?_
  refine j_iconst E 627 rfl dL_law_626 ?_
  refine j_iadd E 628 rfl dL_law_627 ?_
  refine lw_ld E hX hbl hL hw (by omega) 629 rfl dL_law_628 ?_
  refine lw_C E (c_X9_teach l D cy T v x ((xs (i + 1).toNat).toInt) ((xs (i + 2).toNat).toInt) ((xs (i + 3).toNat).toInt) hw.2.1 (inR_toInt _) (inR_toInt _) (inR_toInt _)) mt_X9_teach ml_L_74 hK hw rfl ⟨(Nat.le_of_ble_eq_true rfl), (Nat.le_of_ble_eq_true rfl)⟩ ⟨show cells ≤ 600000 by omega, show slots ≤ 7302250 by omega⟩ (As := [.int (J (xs (i + 1).toNat).toInt), .int (J (xs (i + 2).toNat).toInt), .int (J (xs (i + 3).toNat).toInt)]) (rest := []) rfl rfl hl.1 (Nat.le_of_ble_eq_true rfl) 632 rfl dL_law_629 (fun z1_ v1_ H locs rz1_ hz1_ hw => ?_)
  obtain ⟨y45_1, y300_1, ev1_, hc1_, hKd_⟩ := hz1_
  have ca186_ : v1_ 186 x = v 186 x := congrFun (congrFun ev1_ 186) x
  have ca187_ : v1_ 187 x = v 187 x := congrFun (congrFun ev1_ 187) x
  have ca190_ : v1_ 190 x = v 190 x := congrFun (congrFun ev1_ 190) x
  have ca191_ : v1_ 191 x = v 191 x := congrFun (congrFun ev1_ 191) x
  have cs180_ : v1_ 202 (T 180 x) = v 202 (T 180 x) := congrFun (congrFun ev1_ 202) (T 180 x)
  have cs181_ : v1_ 202 (T 181 x) = v 202 (T 181 x) := congrFun (congrFun ev1_ 202) (T 181 x)
  have cs182_ : v1_ 202 (T 182 x) = v 202 (T 182 x) := congrFun (congrFun ev1_ 202) (T 182 x)
  have cv40_ : v1_ 40 = v 40 := congrFun ev1_ 40
  have cv41_ : v1_ 41 = v 41 := congrFun ev1_ 41
  have cv42_ : v1_ 42 = v 42 := congrFun ev1_ 42
  have cv43_ : v1_ 43 = v 43 := congrFun ev1_ 43
  have cv44_ : v1_ 44 = v 44 := congrFun ev1_ 44
  have cv303_ : v1_ 303 = v 303 := congrFun ev1_ 303
  have cv25_ : v1_ 25 = v 25 := congrFun ev1_ 25
  have cv300_ : v1_ 300 = y300_1 := congrFun ev1_ 300
  clear ev1_
  refine j_pop E 633 rfl dL_law_632 rfl ?_
  refine j_aload_n E 634 rfl dL_law_633 rfl (lv_at hl 2 rfl) ?_
  refine j_aload_n E 635 rfl dL_law_634 rfl (lv_at hl 0 rfl) ?_
  refine j_iload_n E 636 rfl dL_law_635 rfl (lv_at hl 3 rfl) ?_
  refine j_iconst E 637 rfl dL_law_636 ?_
  refine j_iadd E 638 rfl dL_law_637 ?_
  refine lw_ld E hX hbl hL hw (by omega) 639 rfl dL_law_638 ?_
  refine j_aload_n E 640 rfl dL_law_639 rfl (lv_at hl 0 rfl) ?_
  refine j_iload_n E 641 rfl dL_law_640 rfl (lv_at hl 3 rfl) ?_
  refine j_iconst E 642 rfl dL_law_641 ?_
  refine j_iadd E 643 rfl dL_law_642 ?_
  refine lw_ld E hX hbl hL hw (by omega) 644 rfl dL_law_643 ?_
  refine j_aload_n E 645 rfl dL_law_644 rfl (lv_at hl 0 rfl) ?_
  refine j_iload_n E 646 rfl dL_law_645 rfl (lv_at hl 3 rfl) ?_
  refine j_iconst E 647 rfl dL_law_646 ?_
  refine j_iadd E 648 rfl dL_law_647 ?_
  refine lw_ld E hX hbl hL hw (by omega) 649 rfl dL_law_648 ?_
  refine lw_M E (c_X10_teach l D cy q n f ((xs (i + 1).toNat).toInt) ((xs (i + 2).toNat).toInt) ((xs (i + 3).toNat).toInt) (inR_toInt _) (inR_toInt _) (inR_toInt _) hw.2.2.2.2.2.1 ) mt_X10_teach ml_L_78 hK hw rfl hκ ⟨(Nat.le_of_ble_eq_true rfl), (Nat.le_of_ble_eq_true rfl)⟩ ⟨show cells ≤ 600000 by omega, show slots ≤ 7302250 by omega⟩ (As := [.int (J (xs (i + 1).toNat).toInt), .int (J (xs (i + 2).toNat).toInt), .int (J (xs (i + 3).toNat).toInt)]) (rest := []) rfl rfl hl.1 (Nat.le_of_ble_eq_true rfl) 652 rfl dL_law_649 (fun z n2 f2 h => by obtain ⟨_, _, _, _, _, e1, e2, h, -⟩ := h; rw [e1, e2]; exact h) (fun z2_ n2_ f2_ H locs rz2_ hz2_ hw => ?_)
  obtain ⟨x0m2_, y19m2_, y20m2_, y21m2_, y8m2_, em2_, ef2_, -, hm2_⟩ := hz2_
  have mg3_ : f2_ 3 = f 3 := congrFun ef2_ 3
  have mg4_ : f2_ 4 = f 4 := congrFun ef2_ 4
  have mg5_ : f2_ 5 = f 5 := congrFun ef2_ 5
  have mg6_ : f2_ 6 = f 6 := congrFun ef2_ 6
  have mg7_ : f2_ 7 = f 7 := congrFun ef2_ 7
  have mg18_ : f2_ 18 = f 18 := congrFun ef2_ 18
  have mg22_ : f2_ 22 = f 22 := congrFun ef2_ 22
  have mg32_ : f2_ 32 = f 32 := congrFun ef2_ 32
  have mg33_ : f2_ 33 = f 33 := congrFun ef2_ 33
  have mg34_ : f2_ 34 = f 34 := congrFun ef2_ 34
  have mg35_ : f2_ 35 = f 35 := congrFun ef2_ 35
  have mg36_ : f2_ 36 = f 36 := congrFun ef2_ 36
  have mg67_ : f2_ 67 = f 67 := congrFun ef2_ 67
  have mn1_ : n2_ 1 = n 1 := congrFun em2_ 1
  have mn2_ : n2_ 2 = n 2 := congrFun em2_ 2
  have mn12_ : n2_ 12 = n 12 := congrFun em2_ 12
  have mn23_ : n2_ 23 = n 23 := congrFun em2_ 23
  have mn29_ : n2_ 29 = n 29 := congrFun em2_ 29
  have mn43_ : n2_ 43 = n 43 := congrFun em2_ 43
  have mn44_ : n2_ 44 = n 44 := congrFun em2_ 44
  clear em2_
  clear ef2_
  have hr2_n_ := R2_same hR2 (fun _ => rfl) cv40_ cv41_ cv42_ cv43_ cv44_ mn2_ mg3_ mg4_ mg5_ mg6_ mg7_
  have hra_n_ := RA_same hRA cs182_ ca190_ ca191_ rfl cv303_ mn29_ mn43_ mn44_ (by omega) mg22_
  have hrf_n_ : Fut_ (f2_ 18) (n2_ 1) (n2_ 12) := by rw [mg18_, mn1_, mn12_]; exact hRF
  have hrk_n_ := RBk_same hRK (fun _ => rfl) cv25_ mn12_ mg67_
  have hrs_n_ : RS T v1_ x n2_ f2_ := RS_same hSg_ (by rw [cv300_]; exact wd_kd hwC_ t9_ hKd_ (by decide) cs182_ hWd_) mn29_ mg32_ mg33_ mg34_ mg35_ mg36_
  clear hc1_
  refine j_pop E 653 rfl dL_law_652 rfl ?_
  refine j_goto E 1315 dL_law_653 (by decide) ?_
  exact W.widen (by omega) (by omega) (next _ _ _ _ _ _ ls hw ⟨by omega, by omega, by omega, by omega⟩ hr2_n_ hra_n_ hrk_n_ hrs_n_ hrf_n_ hl)
set_option maxHeartbeats 4000000 in
set_option maxRecDepth 100000 in
theorem lc_14 {p : Program} {l : Launch} {e : Env} {s : State} {m : MethodId} {below : List Frame} {meth : Method} {c : Code} {H : Heap} {locs : List Loc} {cells slots : Nat} {QW : State → Prop} {ls : Array Slot} {D : va_G} {cy : Nat → ClassId} {κ T : Nat → Nat → Nat} {v : Nat → Nat → Int} {q : Nat → Nat} {n : Nat → Int} {f : Nat → Int → Int} {x b L : Nat} {xs : Nat → Int32} (E : CX p s m #[Value.ref b] meth c RL cL_law 4 ret) (hK : KK D cy s) (hZ : ZZ κ s s.heap) (hκ : κ 2 0 < s.heap.size) (hX : va_X b L xs s s.heap) (hbl : b < s.heap.size) (hL : L ≤ 4096) {i : Int} (hi : 0 ≤ i ∧ i + 8 ≤ (L : Int)) (hf : cells + 6 ≤ 600000 ∧ slots + 7000 ≤ 7302250) (hw : LW D cy κ x T v q n f s H locs) (hR : RB T v x n) (hR2 : R2 T v x n f) (hRA : RA T v x n f) (hRK : RBk T v x n f) (hRS : RS T v x n f) (hRF : Fut_ (f 18) (n 1) (n 12)) (hl : lv_has ls 4 [(0, .ref b), (1, .ref x), (2, .ref (q 0)), (3, .int (J i))])
    (next : ∀ (T : Nat → Nat → Nat) (v : Nat → Nat → Int) (n : Nat → Int) (f : Nat → Int → Int) (H : Heap) (locs : List Loc) (ls : Array Slot), LW D cy κ x T v q n f s H locs → RB T v x n → R2 T v x n f → RA T v x n f → RBk T v x n f → RS T v x n f → Fut_ (f 18) (n 1) (n 12) → lv_has ls 4 [(0, .ref b), (1, .ref x), (2, .ref (q 0)), (3, .int (J i))] → W p l e room_1 s m #[Value.ref b] below meth c H locs (cells + 6) (slots + 7000) QW (F0 m 1315 ls [])) : W p l e room_1 s m #[Value.ref b] below meth c H locs cells slots QW (F0 m 656 ls []) := by
  obtain ⟨hr1_, hr2_, hr3_, hr4_⟩ := hR
  have hMI_ := hw.2.2.2.2.2.1
  have j1_ := hMI_.1
  have j2_ := hMI_.2.1
  have j3_ := hMI_.2.2.1
  have j4_ := hMI_.2.2.2.1
  have j5_ := hMI_.2.2.2.2.1
  have m_book := hMI_.2.2.2.2.2.2.2.2.2.2.1
  have m_cod := hMI_.2.2.2.2.2.2.2.2.2.2.2.2.2.1
  clear hMI_
  obtain ⟨S1_, S2_, S3_, hWd_, hSg_⟩ := hRS
  have hwC_ := hw.1
  have t9_ := hw.2.1
  have hnw_ : ∀ q_, H.size ≤ q_ → ∀ i_ : Nat, (i_ : Int) < v 202 (T 181 x) → ∀ y_ : Nat, ELn_ T 181 x i_ = y_ + 1 → y_ ≠ q_ := fun q_ hq_ => fr_of hwC_ (wt_181 hwC_.2.1 t9_) hq_
  have ra1_ := hRA.1
  have ra2_ := hRA.2.1
  have ra3_ := hRA.2.2.1
  refine j_aload_n E 657 rfl dL_law_656 rfl (lv_at hl 1 rfl) ?_
  refine j_aload_n E 658 rfl dL_law_657 rfl (lv_at hl 0 rfl) ?_
  refine j_iload_n E 659 rfl dL_law_658 rfl (lv_at hl 3 rfl) ?_
  refine j_iconst E 660 rfl dL_law_659 ?_
  refine j_iadd E 661 rfl dL_law_660 ?_
  refine lw_ld E hX hbl hL hw (by omega) 662 rfl dL_law_661 ?_
  refine j_aload_n E 663 rfl dL_law_662 rfl (lv_at hl 0 rfl) ?_
  refine j_iload_n E 664 rfl dL_law_663 rfl (lv_at hl 3 rfl) ?_
  refine j_iconst E 665 rfl dL_law_664 ?_
  refine j_iadd E 666 rfl dL_law_665 ?_
  refine lw_ld E hX hbl hL hw (by omega) 667 rfl dL_law_666 ?_
  refine j_aload_n E 668 rfl dL_law_667 rfl (lv_at hl 0 rfl) ?_
  refine j_iload_n E 669 rfl dL_law_668 rfl (lv_at hl 3 rfl) ?_
  refine j_iconst E 670 rfl dL_law_669 ?_
  refine j_iadd E 671 rfl dL_law_670 ?_
  refine lw_ld E hX hbl hL hw (by omega) 672 rfl dL_law_671 ?_
  refine lw_C E (c_X9_has l D cy T v x ((xs (i + 1).toNat).toInt) ((xs (i + 2).toNat).toInt) ((xs (i + 3).toNat).toInt) hw.2.1 (inR_toInt _) (inR_toInt _) (inR_toInt _)) mt_X9_has ml_L_79 hK hw rfl ⟨(Nat.le_of_ble_eq_true rfl), (Nat.le_of_ble_eq_true rfl)⟩ ⟨show cells ≤ 600000 by omega, show slots ≤ 7302250 by omega⟩ (As := [.int (J (xs (i + 1).toNat).toInt), .int (J (xs (i + 2).toNat).toInt), .int (J (xs (i + 3).toNat).toInt)]) (rest := []) rfl rfl hl.1 (Nat.le_of_ble_eq_true rfl) 675 rfl dL_law_672 (fun z1_ v1_ H locs rz1_ hz1_ hw => ?_)
  obtain ⟨ev1_, hc1_⟩ := hz1_
  have ca186_ : v1_ 186 x = v 186 x := congrFun (congrFun ev1_ 186) x
  have ca187_ : v1_ 187 x = v 187 x := congrFun (congrFun ev1_ 187) x
  have ca190_ : v1_ 190 x = v 190 x := congrFun (congrFun ev1_ 190) x
  have ca191_ : v1_ 191 x = v 191 x := congrFun (congrFun ev1_ 191) x
  have cs180_ : v1_ 202 (T 180 x) = v 202 (T 180 x) := congrFun (congrFun ev1_ 202) (T 180 x)
  have cs181_ : v1_ 202 (T 181 x) = v 202 (T 181 x) := congrFun (congrFun ev1_ 202) (T 181 x)
  have cs182_ : v1_ 202 (T 182 x) = v 202 (T 182 x) := congrFun (congrFun ev1_ 202) (T 182 x)
  have cv40_ : v1_ 40 = v 40 := congrFun ev1_ 40
  have cv41_ : v1_ 41 = v 41 := congrFun ev1_ 41
  have cv42_ : v1_ 42 = v 42 := congrFun ev1_ 42
  have cv43_ : v1_ 43 = v 43 := congrFun ev1_ 43
  have cv44_ : v1_ 44 = v 44 := congrFun ev1_ 44
  have cv303_ : v1_ 303 = v 303 := congrFun ev1_ 303
  have cv25_ : v1_ 25 = v 25 := congrFun ev1_ 25
  have cv300_ : v1_ 300 = v 300 := congrFun ev1_ 300
  clear ev1_
  refine j_pop E 676 rfl dL_law_675 rfl ?_
  refine j_aload_n E 677 rfl dL_law_676 rfl (lv_at hl 2 rfl) ?_
  refine j_aload_n E 678 rfl dL_law_677 rfl (lv_at hl 0 rfl) ?_
  refine j_iload_n E 679 rfl dL_law_678 rfl (lv_at hl 3 rfl) ?_
  refine j_iconst E 680 rfl dL_law_679 ?_
  refine j_iadd E 681 rfl dL_law_680 ?_
  refine lw_ld E hX hbl hL hw (by omega) 682 rfl dL_law_681 ?_
  refine j_aload_n E 683 rfl dL_law_682 rfl (lv_at hl 0 rfl) ?_
  refine j_iload_n E 684 rfl dL_law_683 rfl (lv_at hl 3 rfl) ?_
  refine j_iconst E 685 rfl dL_law_684 ?_
  refine j_iadd E 686 rfl dL_law_685 ?_
  refine lw_ld E hX hbl hL hw (by omega) 687 rfl dL_law_686 ?_
  refine j_aload_n E 688 rfl dL_law_687 rfl (lv_at hl 0 rfl) ?_
  refine j_iload_n E 689 rfl dL_law_688 rfl (lv_at hl 3 rfl) ?_
  refine j_iconst E 690 rfl dL_law_689 ?_
  refine j_iadd E 691 rfl dL_law_690 ?_
  refine lw_ld E hX hbl hL hw (by omega) 692 rfl dL_law_691 ?_
  refine lw_M E (c_X10_has l D cy q n f ((xs (i + 1).toNat).toInt) ((xs (i + 2).toNat).toInt) ((xs (i + 3).toNat).toInt) (inR_toInt _) (inR_toInt _) (inR_toInt _) hw.2.2.2.2.2.1 ) mt_X10_has ml_L_82 hK hw rfl hκ ⟨(Nat.le_of_ble_eq_true rfl), (Nat.le_of_ble_eq_true rfl)⟩ ⟨show cells ≤ 600000 by omega, show slots ≤ 7302250 by omega⟩ (As := [.int (J (xs (i + 1).toNat).toInt), .int (J (xs (i + 2).toNat).toInt), .int (J (xs (i + 3).toNat).toInt)]) (rest := []) rfl rfl hl.1 (Nat.le_of_ble_eq_true rfl) 695 rfl dL_law_692 (fun z n2 f2 h => by obtain ⟨_, e1, e2, h, -⟩ := h; rw [e1, e2]; exact h) (fun z2_ n2_ f2_ H locs rz2_ hz2_ hw => ?_)
  obtain ⟨x0m2_, em2_, ef2_, -, hm2_⟩ := hz2_
  have mg3_ : f2_ 3 = f 3 := congrFun ef2_ 3
  have mg4_ : f2_ 4 = f 4 := congrFun ef2_ 4
  have mg5_ : f2_ 5 = f 5 := congrFun ef2_ 5
  have mg6_ : f2_ 6 = f 6 := congrFun ef2_ 6
  have mg7_ : f2_ 7 = f 7 := congrFun ef2_ 7
  have mg18_ : f2_ 18 = f 18 := congrFun ef2_ 18
  have mg22_ : f2_ 22 = f 22 := congrFun ef2_ 22
  have mg32_ : f2_ 32 = f 32 := congrFun ef2_ 32
  have mg33_ : f2_ 33 = f 33 := congrFun ef2_ 33
  have mg34_ : f2_ 34 = f 34 := congrFun ef2_ 34
  have mg35_ : f2_ 35 = f 35 := congrFun ef2_ 35
  have mg36_ : f2_ 36 = f 36 := congrFun ef2_ 36
  have mg67_ : f2_ 67 = f 67 := congrFun ef2_ 67
  have mn1_ : n2_ 1 = n 1 := congrFun em2_ 1
  have mn2_ : n2_ 2 = n 2 := congrFun em2_ 2
  have mn12_ : n2_ 12 = n 12 := congrFun em2_ 12
  have mn23_ : n2_ 23 = n 23 := congrFun em2_ 23
  have mn29_ : n2_ 29 = n 29 := congrFun em2_ 29
  have mn43_ : n2_ 43 = n 43 := congrFun em2_ 43
  have mn44_ : n2_ 44 = n 44 := congrFun em2_ 44
  clear em2_
  clear ef2_
  have hr2_n_ := R2_same hR2 (fun _ => rfl) cv40_ cv41_ cv42_ cv43_ cv44_ mn2_ mg3_ mg4_ mg5_ mg6_ mg7_
  have hra_n_ := RA_same hRA cs182_ ca190_ ca191_ rfl cv303_ mn29_ mn43_ mn44_ (by omega) mg22_
  have hrf_n_ : Fut_ (f2_ 18) (n2_ 1) (n2_ 12) := by rw [mg18_, mn1_, mn12_]; exact hRF
  have hrk_n_ := RBk_same hRK (fun _ => rfl) cv25_ mn12_ mg67_
  have hrs_n_ : RS T v1_ x n2_ f2_ := RS_same hSg_ (by rw [cv300_, cs182_]; exact hWd_) mn29_ mg32_ mg33_ mg34_ mg35_ mg36_
  clear hc1_
  refine j_pop E 696 rfl dL_law_695 rfl ?_
  refine j_goto E 1315 dL_law_696 (by decide) ?_
  exact W.widen (by omega) (by omega) (next _ _ _ _ _ _ ls hw ⟨by omega, by omega, by omega, by omega⟩ hr2_n_ hra_n_ hrk_n_ hrs_n_ hrf_n_ hl)
set_option maxHeartbeats 4000000 in
set_option maxRecDepth 100000 in
theorem lc_15 {p : Program} {l : Launch} {e : Env} {s : State} {m : MethodId} {below : List Frame} {meth : Method} {c : Code} {H : Heap} {locs : List Loc} {cells slots : Nat} {QW : State → Prop} {ls : Array Slot} {D : va_G} {cy : Nat → ClassId} {κ T : Nat → Nat → Nat} {v : Nat → Nat → Int} {q : Nat → Nat} {n : Nat → Int} {f : Nat → Int → Int} {x b L : Nat} {xs : Nat → Int32} (E : CX p s m #[Value.ref b] meth c RL cL_law 4 ret) (hK : KK D cy s) (hZ : ZZ κ s s.heap) (hκ : κ 2 0 < s.heap.size) (hX : va_X b L xs s s.heap) (hbl : b < s.heap.size) (hL : L ≤ 4096) {i : Int} (hi : 0 ≤ i ∧ i + 8 ≤ (L : Int)) (hf : cells + 6 ≤ 600000 ∧ slots + 7000 ≤ 7302250) (hw : LW D cy κ x T v q n f s H locs) (hR : RB T v x n) (hR2 : R2 T v x n f) (hRA : RA T v x n f) (hRK : RBk T v x n f) (hRS : RS T v x n f) (hRF : Fut_ (f 18) (n 1) (n 12)) (hl : lv_has ls 4 [(0, .ref b), (1, .ref x), (2, .ref (q 0)), (3, .int (J i))])
    (next : ∀ (T : Nat → Nat → Nat) (v : Nat → Nat → Int) (n : Nat → Int) (f : Nat → Int → Int) (H : Heap) (locs : List Loc) (ls : Array Slot), LW D cy κ x T v q n f s H locs → RB T v x n → R2 T v x n f → RA T v x n f → RBk T v x n f → RS T v x n f → Fut_ (f 18) (n 1) (n 12) → lv_has ls 4 [(0, .ref b), (1, .ref x), (2, .ref (q 0)), (3, .int (J i))] → W p l e room_1 s m #[Value.ref b] below meth c H locs (cells + 6) (slots + 7000) QW (F0 m 1315 ls [])) : W p l e room_1 s m #[Value.ref b] below meth c H locs cells slots QW (F0 m 699 ls []) := by
  obtain ⟨hr1_, hr2_, hr3_, hr4_⟩ := hR
  have hMI_ := hw.2.2.2.2.2.1
  have j1_ := hMI_.1
  have j2_ := hMI_.2.1
  have j3_ := hMI_.2.2.1
  have j4_ := hMI_.2.2.2.1
  have j5_ := hMI_.2.2.2.2.1
  have m_book := hMI_.2.2.2.2.2.2.2.2.2.2.1
  have m_cod := hMI_.2.2.2.2.2.2.2.2.2.2.2.2.2.1
  clear hMI_
  obtain ⟨S1_, S2_, S3_, hWd_, hSg_⟩ := hRS
  have hwC_ := hw.1
  have t9_ := hw.2.1
  have hnw_ : ∀ q_, H.size ≤ q_ → ∀ i_ : Nat, (i_ : Int) < v 202 (T 181 x) → ∀ y_ : Nat, ELn_ T 181 x i_ = y_ + 1 → y_ ≠ q_ := fun q_ hq_ => fr_of hwC_ (wt_181 hwC_.2.1 t9_) hq_
  have ra1_ := hRA.1
  have ra2_ := hRA.2.1
  have ra3_ := hRA.2.2.1
  refine j_aload_n E 700 rfl dL_law_699 rfl (lv_at hl 1 rfl) ?_
  refine j_aload_n E 701 rfl dL_law_700 rfl (lv_at hl 0 rfl) ?_
  refine j_iload_n E 702 rfl dL_law_701 rfl (lv_at hl 3 rfl) ?_
  refine j_iconst E 703 rfl dL_law_702 ?_
  refine j_iadd E 704 rfl dL_law_703 ?_
  refine lw_ld E hX hbl hL hw (by omega) 705 rfl dL_law_704 ?_
  refine lw_C E (c_X9_summers l D cy T v x ((xs (i + 1).toNat).toInt) hw.2.1 (inR_toInt _) (by omega)) mt_X9_summers ml_L_83 hK hw rfl ⟨(Nat.le_of_ble_eq_true rfl), (Nat.le_of_ble_eq_true rfl)⟩ ⟨show cells ≤ 600000 by omega, show slots ≤ 7302250 by omega⟩ (As := [.int (J (xs (i + 1).toNat).toInt)]) (rest := []) rfl rfl hl.1 (Nat.le_of_ble_eq_true rfl) 708 rfl dL_law_705 (fun z1_ v1_ H locs rz1_ hz1_ hw => ?_)
  obtain ⟨y22_1, y23_1, y24_1, y44_1, y187_1, y300_1, y302_1, ev1_, hc1_, hKd_⟩ := hz1_
  have ca186_ : v1_ 186 x = v 186 x := congrFun (congrFun ev1_ 186) x
  have ca187_ : v1_ 187 x = y187_1 x := congrFun (congrFun ev1_ 187) x
  have ca190_ : v1_ 190 x = v 190 x := congrFun (congrFun ev1_ 190) x
  have ca191_ : v1_ 191 x = v 191 x := congrFun (congrFun ev1_ 191) x
  have cs180_ : v1_ 202 (T 180 x) = v 202 (T 180 x) := congrFun (congrFun ev1_ 202) (T 180 x)
  have cs181_ : v1_ 202 (T 181 x) = v 202 (T 181 x) := congrFun (congrFun ev1_ 202) (T 181 x)
  have cs182_ : v1_ 202 (T 182 x) = v 202 (T 182 x) := congrFun (congrFun ev1_ 202) (T 182 x)
  have cv40_ : v1_ 40 = v 40 := congrFun ev1_ 40
  have cv41_ : v1_ 41 = v 41 := congrFun ev1_ 41
  have cv42_ : v1_ 42 = v 42 := congrFun ev1_ 42
  have cv43_ : v1_ 43 = v 43 := congrFun ev1_ 43
  have cv44_ : v1_ 44 = y44_1 := congrFun ev1_ 44
  have cv303_ : v1_ 303 = v 303 := congrFun ev1_ 303
  have cv25_ : v1_ 25 = v 25 := congrFun ev1_ 25
  have cv300_ : v1_ 300 = y300_1 := congrFun ev1_ 300
  clear ev1_
  refine j_pop E 709 rfl dL_law_708 rfl ?_
  refine j_aload_n E 710 rfl dL_law_709 rfl (lv_at hl 2 rfl) ?_
  refine j_aload_n E 711 rfl dL_law_710 rfl (lv_at hl 0 rfl) ?_
  refine j_iload_n E 712 rfl dL_law_711 rfl (lv_at hl 3 rfl) ?_
  refine j_iconst E 713 rfl dL_law_712 ?_
  refine j_iadd E 714 rfl dL_law_713 ?_
  refine lw_ld E hX hbl hL hw (by omega) 715 rfl dL_law_714 ?_
  refine lw_M E (c_X10_summers l D cy q n f ((xs (i + 1).toNat).toInt) (inR_toInt _) hw.2.2.2.2.2.1 hRF) mt_X10_summers ml_L_86 hK hw rfl hκ ⟨(Nat.le_of_ble_eq_true rfl), (Nat.le_of_ble_eq_true rfl)⟩ ⟨show cells ≤ 600000 by omega, show slots ≤ 7302250 by omega⟩ (As := [.int (J (xs (i + 1).toNat).toInt)]) (rest := []) rfl rfl hl.1 (Nat.le_of_ble_eq_true rfl) 718 rfl dL_law_715 (fun z n2 f2 h => by obtain ⟨_, _, _, _, _, _, _, _, _, _, _, _, _, e1, e2, h, -⟩ := h; rw [e1, e2]; exact h) (fun z2_ n2_ f2_ H locs rz2_ hz2_ hw => ?_)
  obtain ⟨x0m2_, x1m2_, y57m2_, y58m2_, y18m2_, y15m2_, y17m2_, y19m2_, y20m2_, y21m2_, y16m2_, y56m2_, y7m2_, em2_, ef2_, -, hm2_⟩ := hz2_
  have mg3_ : f2_ 3 = f 3 := congrFun ef2_ 3
  have mg4_ : f2_ 4 = f 4 := congrFun ef2_ 4
  have mg5_ : f2_ 5 = f 5 := congrFun ef2_ 5
  have mg6_ : f2_ 6 = f 6 := congrFun ef2_ 6
  have mg7_ : f2_ 7 = y7m2_ := congrFun ef2_ 7
  have mg18_ : f2_ 18 = y18m2_ := congrFun ef2_ 18
  have mg22_ : f2_ 22 = f 22 := congrFun ef2_ 22
  have mg32_ : f2_ 32 = f 32 := congrFun ef2_ 32
  have mg33_ : f2_ 33 = f 33 := congrFun ef2_ 33
  have mg34_ : f2_ 34 = f 34 := congrFun ef2_ 34
  have mg35_ : f2_ 35 = f 35 := congrFun ef2_ 35
  have mg36_ : f2_ 36 = f 36 := congrFun ef2_ 36
  have mg67_ : f2_ 67 = f 67 := congrFun ef2_ 67
  have mn1_ : n2_ 1 = x1m2_ := congrFun em2_ 1
  have mn2_ : n2_ 2 = n 2 := congrFun em2_ 2
  have mn12_ : n2_ 12 = n 12 := congrFun em2_ 12
  have mn23_ : n2_ 23 = n 23 := congrFun em2_ 23
  have mn29_ : n2_ 29 = n 29 := congrFun em2_ 29
  have mn43_ : n2_ 43 = n 43 := congrFun em2_ 43
  have mn44_ : n2_ 44 = n 44 := congrFun em2_ 44
  clear em2_
  clear ef2_
  have hr2_n_ := R2_sum hR2 hr3_ hr2_ mn2_ cv40_ cv41_ cv42_ cv43_ mg3_ mg4_ mg5_ mg6_ cv44_ mg7_ (by rcases hc1_ with ⟨_, a_, _, b_⟩ | ⟨_, a1_, a2_, a3_, _, b_⟩; exact Or.inl ⟨a_, b_⟩; exact Or.inr ⟨⟨a1_, a2_, a3_⟩, b_⟩) (by rcases hm2_ with ⟨_, a_, _, b_, _⟩ | ⟨_, a_, _, b_, _⟩; exact Or.inl ⟨a_, b_⟩; exact Or.inr ⟨a_, b_⟩)
  have hrf_n_ := RF_sum hRF (n2 := n2_) (f2 := f2_) mn1_ mn12_ mg18_ (hm2_.imp (fun ⟨_, _, c_, _, _, _, e_⟩ => ⟨c_, e_⟩) (fun ⟨_, _, _, _, e_, _⟩ => e_))
  have hra_n_ := RA_same hRA cs182_ ca190_ ca191_ rfl cv303_ mn29_ mn43_ mn44_ (by omega) mg22_
  have hrk_n_ := RBk_same hRK (fun _ => rfl) cv25_ mn12_ mg67_
  have hrs_n_ : RS T v1_ x n2_ f2_ := RS_same hSg_ (by rw [cv300_]; exact wd_kd hwC_ t9_ hKd_ (by decide) cs182_ hWd_) mn29_ mg32_ mg33_ mg34_ mg35_ mg36_
  refine j_pop E 719 rfl dL_law_718 rfl ?_
  refine j_goto E 1315 dL_law_719 (by decide) ?_
  exact W.widen (by omega) (by omega) (next _ _ _ _ _ _ ls hw ⟨by omega, by omega, by omega, by omega⟩ hr2_n_ hra_n_ hrk_n_ hrs_n_ hrf_n_ hl)
set_option maxHeartbeats 4000000 in
set_option maxRecDepth 100000 in
theorem lc_16 {p : Program} {l : Launch} {e : Env} {s : State} {m : MethodId} {below : List Frame} {meth : Method} {c : Code} {H : Heap} {locs : List Loc} {cells slots : Nat} {QW : State → Prop} {ls : Array Slot} {D : va_G} {cy : Nat → ClassId} {κ T : Nat → Nat → Nat} {v : Nat → Nat → Int} {q : Nat → Nat} {n : Nat → Int} {f : Nat → Int → Int} {x b L : Nat} {xs : Nat → Int32} (E : CX p s m #[Value.ref b] meth c RL cL_law 4 ret) (hK : KK D cy s) (hZ : ZZ κ s s.heap) (hκ : κ 2 0 < s.heap.size) (hX : va_X b L xs s s.heap) (hbl : b < s.heap.size) (hL : L ≤ 4096) {i : Int} (hi : 0 ≤ i ∧ i + 8 ≤ (L : Int)) (hf : cells + 6 ≤ 600000 ∧ slots + 7000 ≤ 7302250) (hw : LW D cy κ x T v q n f s H locs) (hR : RB T v x n) (hR2 : R2 T v x n f) (hRA : RA T v x n f) (hRK : RBk T v x n f) (hRS : RS T v x n f) (hRF : Fut_ (f 18) (n 1) (n 12)) (hl : lv_has ls 4 [(0, .ref b), (1, .ref x), (2, .ref (q 0)), (3, .int (J i))])
    (next : ∀ (T : Nat → Nat → Nat) (v : Nat → Nat → Int) (n : Nat → Int) (f : Nat → Int → Int) (H : Heap) (locs : List Loc) (ls : Array Slot), LW D cy κ x T v q n f s H locs → RB T v x n → R2 T v x n f → RA T v x n f → RBk T v x n f → RS T v x n f → Fut_ (f 18) (n 1) (n 12) → lv_has ls 4 [(0, .ref b), (1, .ref x), (2, .ref (q 0)), (3, .int (J i))] → W p l e room_1 s m #[Value.ref b] below meth c H locs (cells + 6) (slots + 7000) QW (F0 m 1315 ls [])) : W p l e room_1 s m #[Value.ref b] below meth c H locs cells slots QW (F0 m 722 ls []) := by
  obtain ⟨hr1_, hr2_, hr3_, hr4_⟩ := hR
  have hMI_ := hw.2.2.2.2.2.1
  have j1_ := hMI_.1
  have j2_ := hMI_.2.1
  have j3_ := hMI_.2.2.1
  have j4_ := hMI_.2.2.2.1
  have j5_ := hMI_.2.2.2.2.1
  have m_book := hMI_.2.2.2.2.2.2.2.2.2.2.1
  have m_cod := hMI_.2.2.2.2.2.2.2.2.2.2.2.2.2.1
  clear hMI_
  obtain ⟨S1_, S2_, S3_, hWd_, hSg_⟩ := hRS
  have hwC_ := hw.1
  have t9_ := hw.2.1
  have hnw_ : ∀ q_, H.size ≤ q_ → ∀ i_ : Nat, (i_ : Int) < v 202 (T 181 x) → ∀ y_ : Nat, ELn_ T 181 x i_ = y_ + 1 → y_ ≠ q_ := fun q_ hq_ => fr_of hwC_ (wt_181 hwC_.2.1 t9_) hq_
  have ra1_ := hRA.1
  have ra2_ := hRA.2.1
  have ra3_ := hRA.2.2.1
  refine j_aload_n E 723 rfl dL_law_722 rfl (lv_at hl 1 rfl) ?_
  refine j_aload_n E 724 rfl dL_law_723 rfl (lv_at hl 0 rfl) ?_
  refine j_iload_n E 725 rfl dL_law_724 rfl (lv_at hl 3 rfl) ?_
  refine j_iconst E 726 rfl dL_law_725 ?_
  refine j_iadd E 727 rfl dL_law_726 ?_
  refine lw_ld E hX hbl hL hw (by omega) 728 rfl dL_law_727 ?_
  refine j_aload_n E 729 rfl dL_law_728 rfl (lv_at hl 0 rfl) ?_
  refine j_iload_n E 730 rfl dL_law_729 rfl (lv_at hl 3 rfl) ?_
  refine j_iconst E 731 rfl dL_law_730 ?_
  refine j_iadd E 732 rfl dL_law_731 ?_
  refine lw_ld E hX hbl hL hw (by omega) 733 rfl dL_law_732 ?_
  refine lw_C E (c_X9_lineOf l D cy T v x ((xs (i + 1).toNat).toInt) ((xs (i + 2).toNat).toInt) hw.2.1 (inR_toInt _) (inR_toInt _)) mt_X9_lineOf ml_L_87 hK hw rfl ⟨(Nat.le_of_ble_eq_true rfl), (Nat.le_of_ble_eq_true rfl)⟩ ⟨show cells ≤ 600000 by omega, show slots ≤ 7302250 by omega⟩ (As := [.int (J (xs (i + 1).toNat).toInt), .int (J (xs (i + 2).toNat).toInt)]) (rest := []) rfl rfl hl.1 (Nat.le_of_ble_eq_true rfl) 736 rfl dL_law_733 (fun z1_ v1_ H locs rz1_ hz1_ hw => ?_)
  obtain ⟨ev1_, hc1_⟩ := hz1_
  have ca186_ : v1_ 186 x = v 186 x := congrFun (congrFun ev1_ 186) x
  have ca187_ : v1_ 187 x = v 187 x := congrFun (congrFun ev1_ 187) x
  have ca190_ : v1_ 190 x = v 190 x := congrFun (congrFun ev1_ 190) x
  have ca191_ : v1_ 191 x = v 191 x := congrFun (congrFun ev1_ 191) x
  have cs180_ : v1_ 202 (T 180 x) = v 202 (T 180 x) := congrFun (congrFun ev1_ 202) (T 180 x)
  have cs181_ : v1_ 202 (T 181 x) = v 202 (T 181 x) := congrFun (congrFun ev1_ 202) (T 181 x)
  have cs182_ : v1_ 202 (T 182 x) = v 202 (T 182 x) := congrFun (congrFun ev1_ 202) (T 182 x)
  have cv40_ : v1_ 40 = v 40 := congrFun ev1_ 40
  have cv41_ : v1_ 41 = v 41 := congrFun ev1_ 41
  have cv42_ : v1_ 42 = v 42 := congrFun ev1_ 42
  have cv43_ : v1_ 43 = v 43 := congrFun ev1_ 43
  have cv44_ : v1_ 44 = v 44 := congrFun ev1_ 44
  have cv303_ : v1_ 303 = v 303 := congrFun ev1_ 303
  have cv25_ : v1_ 25 = v 25 := congrFun ev1_ 25
  have cv300_ : v1_ 300 = v 300 := congrFun ev1_ 300
  clear ev1_
  refine j_pop E 737 rfl dL_law_736 rfl ?_
  refine j_aload_n E 738 rfl dL_law_737 rfl (lv_at hl 2 rfl) ?_
  refine j_aload_n E 739 rfl dL_law_738 rfl (lv_at hl 0 rfl) ?_
  refine j_iload_n E 740 rfl dL_law_739 rfl (lv_at hl 3 rfl) ?_
  refine j_iconst E 741 rfl dL_law_740 ?_
  refine j_iadd E 742 rfl dL_law_741 ?_
  refine lw_ld E hX hbl hL hw (by omega) 743 rfl dL_law_742 ?_
  refine j_aload_n E 744 rfl dL_law_743 rfl (lv_at hl 0 rfl) ?_
  refine j_iload_n E 745 rfl dL_law_744 rfl (lv_at hl 3 rfl) ?_
  refine j_iconst E 746 rfl dL_law_745 ?_
  refine j_iadd E 747 rfl dL_law_746 ?_
  refine lw_ld E hX hbl hL hw (by omega) 748 rfl dL_law_747 ?_
  refine lw_M E (c_X10_lineOf l D cy q n f ((xs (i + 1).toNat).toInt) ((xs (i + 2).toNat).toInt) (inR_toInt _) (inR_toInt _) hw.2.2.2.2.2.1 ) mt_X10_lineOf ml_L_90 hK hw rfl hκ ⟨(Nat.le_of_ble_eq_true rfl), (Nat.le_of_ble_eq_true rfl)⟩ ⟨show cells ≤ 600000 by omega, show slots ≤ 7302250 by omega⟩ (As := [.int (J (xs (i + 1).toNat).toInt), .int (J (xs (i + 2).toNat).toInt)]) (rest := []) rfl rfl hl.1 (Nat.le_of_ble_eq_true rfl) 751 rfl dL_law_748 (fun z n2 f2 h => by obtain ⟨_, e1, e2, h, -⟩ := h; rw [e1, e2]; exact h) (fun z2_ n2_ f2_ H locs rz2_ hz2_ hw => ?_)
  obtain ⟨x0m2_, em2_, ef2_, -, hm2_⟩ := hz2_
  have mg3_ : f2_ 3 = f 3 := congrFun ef2_ 3
  have mg4_ : f2_ 4 = f 4 := congrFun ef2_ 4
  have mg5_ : f2_ 5 = f 5 := congrFun ef2_ 5
  have mg6_ : f2_ 6 = f 6 := congrFun ef2_ 6
  have mg7_ : f2_ 7 = f 7 := congrFun ef2_ 7
  have mg18_ : f2_ 18 = f 18 := congrFun ef2_ 18
  have mg22_ : f2_ 22 = f 22 := congrFun ef2_ 22
  have mg32_ : f2_ 32 = f 32 := congrFun ef2_ 32
  have mg33_ : f2_ 33 = f 33 := congrFun ef2_ 33
  have mg34_ : f2_ 34 = f 34 := congrFun ef2_ 34
  have mg35_ : f2_ 35 = f 35 := congrFun ef2_ 35
  have mg36_ : f2_ 36 = f 36 := congrFun ef2_ 36
  have mg67_ : f2_ 67 = f 67 := congrFun ef2_ 67
  have mn1_ : n2_ 1 = n 1 := congrFun em2_ 1
  have mn2_ : n2_ 2 = n 2 := congrFun em2_ 2
  have mn12_ : n2_ 12 = n 12 := congrFun em2_ 12
  have mn23_ : n2_ 23 = n 23 := congrFun em2_ 23
  have mn29_ : n2_ 29 = n 29 := congrFun em2_ 29
  have mn43_ : n2_ 43 = n 43 := congrFun em2_ 43
  have mn44_ : n2_ 44 = n 44 := congrFun em2_ 44
  clear em2_
  clear ef2_
  have hr2_n_ := R2_same hR2 (fun _ => rfl) cv40_ cv41_ cv42_ cv43_ cv44_ mn2_ mg3_ mg4_ mg5_ mg6_ mg7_
  have hra_n_ := RA_same hRA cs182_ ca190_ ca191_ rfl cv303_ mn29_ mn43_ mn44_ (by omega) mg22_
  have hrf_n_ : Fut_ (f2_ 18) (n2_ 1) (n2_ 12) := by rw [mg18_, mn1_, mn12_]; exact hRF
  have hrk_n_ := RBk_same hRK (fun _ => rfl) cv25_ mn12_ mg67_
  have hrs_n_ : RS T v1_ x n2_ f2_ := RS_same hSg_ (by rw [cv300_, cs182_]; exact hWd_) mn29_ mg32_ mg33_ mg34_ mg35_ mg36_
  clear hc1_
  refine j_pop E 752 rfl dL_law_751 rfl ?_
  refine j_goto E 1315 dL_law_752 (by decide) ?_
  exact W.widen (by omega) (by omega) (next _ _ _ _ _ _ ls hw ⟨by omega, by omega, by omega, by omega⟩ hr2_n_ hra_n_ hrk_n_ hrs_n_ hrf_n_ hl)
set_option maxHeartbeats 4000000 in
set_option maxRecDepth 100000 in
theorem lc_17 {p : Program} {l : Launch} {e : Env} {s : State} {m : MethodId} {below : List Frame} {meth : Method} {c : Code} {H : Heap} {locs : List Loc} {cells slots : Nat} {QW : State → Prop} {ls : Array Slot} {D : va_G} {cy : Nat → ClassId} {κ T : Nat → Nat → Nat} {v : Nat → Nat → Int} {q : Nat → Nat} {n : Nat → Int} {f : Nat → Int → Int} {x b L : Nat} {xs : Nat → Int32} (E : CX p s m #[Value.ref b] meth c RL cL_law 4 ret) (hK : KK D cy s) (hZ : ZZ κ s s.heap) (hκ : κ 2 0 < s.heap.size) (hX : va_X b L xs s s.heap) (hbl : b < s.heap.size) (hL : L ≤ 4096) {i : Int} (hi : 0 ≤ i ∧ i + 8 ≤ (L : Int)) (hf : cells + 6 ≤ 600000 ∧ slots + 7000 ≤ 7302250) (hw : LW D cy κ x T v q n f s H locs) (hR : RB T v x n) (hR2 : R2 T v x n f) (hRA : RA T v x n f) (hRK : RBk T v x n f) (hRS : RS T v x n f) (hRF : Fut_ (f 18) (n 1) (n 12)) (hl : lv_has ls 4 [(0, .ref b), (1, .ref x), (2, .ref (q 0)), (3, .int (J i))])
    (next : ∀ (T : Nat → Nat → Nat) (v : Nat → Nat → Int) (n : Nat → Int) (f : Nat → Int → Int) (H : Heap) (locs : List Loc) (ls : Array Slot), LW D cy κ x T v q n f s H locs → RB T v x n → R2 T v x n f → RA T v x n f → RBk T v x n f → RS T v x n f → Fut_ (f 18) (n 1) (n 12) → lv_has ls 4 [(0, .ref b), (1, .ref x), (2, .ref (q 0)), (3, .int (J i))] → W p l e room_1 s m #[Value.ref b] below meth c H locs (cells + 6) (slots + 7000) QW (F0 m 1315 ls [])) : W p l e room_1 s m #[Value.ref b] below meth c H locs cells slots QW (F0 m 755 ls []) := by
  obtain ⟨hr1_, hr2_, hr3_, hr4_⟩ := hR
  have hMI_ := hw.2.2.2.2.2.1
  have j1_ := hMI_.1
  have j2_ := hMI_.2.1
  have j3_ := hMI_.2.2.1
  have j4_ := hMI_.2.2.2.1
  have j5_ := hMI_.2.2.2.2.1
  have m_book := hMI_.2.2.2.2.2.2.2.2.2.2.1
  have m_cod := hMI_.2.2.2.2.2.2.2.2.2.2.2.2.2.1
  clear hMI_
  obtain ⟨S1_, S2_, S3_, hWd_, hSg_⟩ := hRS
  have hwC_ := hw.1
  have t9_ := hw.2.1
  have hnw_ : ∀ q_, H.size ≤ q_ → ∀ i_ : Nat, (i_ : Int) < v 202 (T 181 x) → ∀ y_ : Nat, ELn_ T 181 x i_ = y_ + 1 → y_ ≠ q_ := fun q_ hq_ => fr_of hwC_ (wt_181 hwC_.2.1 t9_) hq_
  have ra1_ := hRA.1
  have ra2_ := hRA.2.1
  have ra3_ := hRA.2.2.1
  refine j_aload_n E 756 rfl dL_law_755 rfl (lv_at hl 1 rfl) ?_
  refine j_aload_n E 757 rfl dL_law_756 rfl (lv_at hl 0 rfl) ?_
  refine j_iload_n E 758 rfl dL_law_757 rfl (lv_at hl 3 rfl) ?_
  refine j_iconst E 759 rfl dL_law_758 ?_
  refine j_iadd E 760 rfl dL_law_759 ?_
  refine lw_ld E hX hbl hL hw (by omega) 761 rfl dL_law_760 ?_
  refine j_aload_n E 762 rfl dL_law_761 rfl (lv_at hl 0 rfl) ?_
  refine j_iload_n E 763 rfl dL_law_762 rfl (lv_at hl 3 rfl) ?_
  refine j_iconst E 764 rfl dL_law_763 ?_
  refine j_iadd E 765 rfl dL_law_764 ?_
  refine lw_ld E hX hbl hL hw (by omega) 766 rfl dL_law_765 ?_
  refine lw_C E (c_X9_said l D cy T v x ((xs (i + 1).toNat).toInt) ((xs (i + 2).toNat).toInt) hw.2.1 (inR_toInt _) (inR_toInt _)) mt_X9_said ml_L_91 hK hw rfl ⟨(Nat.le_of_ble_eq_true rfl), (Nat.le_of_ble_eq_true rfl)⟩ ⟨show cells ≤ 600000 by omega, show slots ≤ 7302250 by omega⟩ (As := [.int (J (xs (i + 1).toNat).toInt), .int (J (xs (i + 2).toNat).toInt)]) (rest := []) rfl rfl hl.1 (Nat.le_of_ble_eq_true rfl) 769 rfl dL_law_766 (fun z1_ v1_ H locs rz1_ hz1_ hw => ?_)
  obtain ⟨ev1_, hc1_⟩ := hz1_
  have ca186_ : v1_ 186 x = v 186 x := congrFun (congrFun ev1_ 186) x
  have ca187_ : v1_ 187 x = v 187 x := congrFun (congrFun ev1_ 187) x
  have ca190_ : v1_ 190 x = v 190 x := congrFun (congrFun ev1_ 190) x
  have ca191_ : v1_ 191 x = v 191 x := congrFun (congrFun ev1_ 191) x
  have cs180_ : v1_ 202 (T 180 x) = v 202 (T 180 x) := congrFun (congrFun ev1_ 202) (T 180 x)
  have cs181_ : v1_ 202 (T 181 x) = v 202 (T 181 x) := congrFun (congrFun ev1_ 202) (T 181 x)
  have cs182_ : v1_ 202 (T 182 x) = v 202 (T 182 x) := congrFun (congrFun ev1_ 202) (T 182 x)
  have cv40_ : v1_ 40 = v 40 := congrFun ev1_ 40
  have cv41_ : v1_ 41 = v 41 := congrFun ev1_ 41
  have cv42_ : v1_ 42 = v 42 := congrFun ev1_ 42
  have cv43_ : v1_ 43 = v 43 := congrFun ev1_ 43
  have cv44_ : v1_ 44 = v 44 := congrFun ev1_ 44
  have cv303_ : v1_ 303 = v 303 := congrFun ev1_ 303
  have cv25_ : v1_ 25 = v 25 := congrFun ev1_ 25
  have cv300_ : v1_ 300 = v 300 := congrFun ev1_ 300
  clear ev1_
  refine j_pop E 770 rfl dL_law_769 rfl ?_
  refine j_aload_n E 771 rfl dL_law_770 rfl (lv_at hl 2 rfl) ?_
  refine j_aload_n E 772 rfl dL_law_771 rfl (lv_at hl 0 rfl) ?_
  refine j_iload_n E 773 rfl dL_law_772 rfl (lv_at hl 3 rfl) ?_
  refine j_iconst E 774 rfl dL_law_773 ?_
  refine j_iadd E 775 rfl dL_law_774 ?_
  refine lw_ld E hX hbl hL hw (by omega) 776 rfl dL_law_775 ?_
  refine j_aload_n E 777 rfl dL_law_776 rfl (lv_at hl 0 rfl) ?_
  refine j_iload_n E 778 rfl dL_law_777 rfl (lv_at hl 3 rfl) ?_
  refine j_iconst E 779 rfl dL_law_778 ?_
  refine j_iadd E 780 rfl dL_law_779 ?_
  refine lw_ld E hX hbl hL hw (by omega) 781 rfl dL_law_780 ?_
  refine lw_M E (c_X10_said l D cy q n f ((xs (i + 1).toNat).toInt) ((xs (i + 2).toNat).toInt) (inR_toInt _) (inR_toInt _) hw.2.2.2.2.2.1 ) mt_X10_said ml_L_94 hK hw rfl hκ ⟨(Nat.le_of_ble_eq_true rfl), (Nat.le_of_ble_eq_true rfl)⟩ ⟨show cells ≤ 600000 by omega, show slots ≤ 7302250 by omega⟩ (As := [.int (J (xs (i + 1).toNat).toInt), .int (J (xs (i + 2).toNat).toInt)]) (rest := []) rfl rfl hl.1 (Nat.le_of_ble_eq_true rfl) 784 rfl dL_law_781 (fun z n2 f2 h => by obtain ⟨_, e1, e2, h, -⟩ := h; rw [e1, e2]; exact h) (fun z2_ n2_ f2_ H locs rz2_ hz2_ hw => ?_)
  obtain ⟨x0m2_, em2_, ef2_, -, hm2_⟩ := hz2_
  have mg3_ : f2_ 3 = f 3 := congrFun ef2_ 3
  have mg4_ : f2_ 4 = f 4 := congrFun ef2_ 4
  have mg5_ : f2_ 5 = f 5 := congrFun ef2_ 5
  have mg6_ : f2_ 6 = f 6 := congrFun ef2_ 6
  have mg7_ : f2_ 7 = f 7 := congrFun ef2_ 7
  have mg18_ : f2_ 18 = f 18 := congrFun ef2_ 18
  have mg22_ : f2_ 22 = f 22 := congrFun ef2_ 22
  have mg32_ : f2_ 32 = f 32 := congrFun ef2_ 32
  have mg33_ : f2_ 33 = f 33 := congrFun ef2_ 33
  have mg34_ : f2_ 34 = f 34 := congrFun ef2_ 34
  have mg35_ : f2_ 35 = f 35 := congrFun ef2_ 35
  have mg36_ : f2_ 36 = f 36 := congrFun ef2_ 36
  have mg67_ : f2_ 67 = f 67 := congrFun ef2_ 67
  have mn1_ : n2_ 1 = n 1 := congrFun em2_ 1
  have mn2_ : n2_ 2 = n 2 := congrFun em2_ 2
  have mn12_ : n2_ 12 = n 12 := congrFun em2_ 12
  have mn23_ : n2_ 23 = n 23 := congrFun em2_ 23
  have mn29_ : n2_ 29 = n 29 := congrFun em2_ 29
  have mn43_ : n2_ 43 = n 43 := congrFun em2_ 43
  have mn44_ : n2_ 44 = n 44 := congrFun em2_ 44
  clear em2_
  clear ef2_
  have hr2_n_ := R2_same hR2 (fun _ => rfl) cv40_ cv41_ cv42_ cv43_ cv44_ mn2_ mg3_ mg4_ mg5_ mg6_ mg7_
  have hra_n_ := RA_same hRA cs182_ ca190_ ca191_ rfl cv303_ mn29_ mn43_ mn44_ (by omega) mg22_
  have hrf_n_ : Fut_ (f2_ 18) (n2_ 1) (n2_ 12) := by rw [mg18_, mn1_, mn12_]; exact hRF
  have hrk_n_ := RBk_same hRK (fun _ => rfl) cv25_ mn12_ mg67_
  have hrs_n_ : RS T v1_ x n2_ f2_ := RS_same hSg_ (by rw [cv300_, cs182_]; exact hWd_) mn29_ mg32_ mg33_ mg34_ mg35_ mg36_
  clear hc1_
  refine j_pop E 785 rfl dL_law_784 rfl ?_
  refine j_goto E 1315 dL_law_785 (by decide) ?_
  exact W.widen (by omega) (by omega) (next _ _ _ _ _ _ ls hw ⟨by omega, by omega, by omega, by omega⟩ hr2_n_ hra_n_ hrk_n_ hrs_n_ hrf_n_ hl)
set_option maxHeartbeats 4000000 in
set_option maxRecDepth 100000 in
theorem lc_18 {p : Program} {l : Launch} {e : Env} {s : State} {m : MethodId} {below : List Frame} {meth : Method} {c : Code} {H : Heap} {locs : List Loc} {cells slots : Nat} {QW : State → Prop} {ls : Array Slot} {D : va_G} {cy : Nat → ClassId} {κ T : Nat → Nat → Nat} {v : Nat → Nat → Int} {q : Nat → Nat} {n : Nat → Int} {f : Nat → Int → Int} {x b L : Nat} {xs : Nat → Int32} (E : CX p s m #[Value.ref b] meth c RL cL_law 4 ret) (hK : KK D cy s) (hZ : ZZ κ s s.heap) (hκ : κ 2 0 < s.heap.size) (hX : va_X b L xs s s.heap) (hbl : b < s.heap.size) (hL : L ≤ 4096) {i : Int} (hi : 0 ≤ i ∧ i + 8 ≤ (L : Int)) (hf : cells + 6 ≤ 600000 ∧ slots + 7000 ≤ 7302250) (hw : LW D cy κ x T v q n f s H locs) (hR : RB T v x n) (hR2 : R2 T v x n f) (hRA : RA T v x n f) (hRK : RBk T v x n f) (hRS : RS T v x n f) (hRF : Fut_ (f 18) (n 1) (n 12)) (hl : lv_has ls 4 [(0, .ref b), (1, .ref x), (2, .ref (q 0)), (3, .int (J i))])
    (next : ∀ (T : Nat → Nat → Nat) (v : Nat → Nat → Int) (n : Nat → Int) (f : Nat → Int → Int) (H : Heap) (locs : List Loc) (ls : Array Slot), LW D cy κ x T v q n f s H locs → RB T v x n → R2 T v x n f → RA T v x n f → RBk T v x n f → RS T v x n f → Fut_ (f 18) (n 1) (n 12) → lv_has ls 4 [(0, .ref b), (1, .ref x), (2, .ref (q 0)), (3, .int (J i))] → W p l e room_1 s m #[Value.ref b] below meth c H locs (cells + 6) (slots + 7000) QW (F0 m 1315 ls [])) : W p l e room_1 s m #[Value.ref b] below meth c H locs cells slots QW (F0 m 788 ls []) := by
  obtain ⟨hr1_, hr2_, hr3_, hr4_⟩ := hR
  have hMI_ := hw.2.2.2.2.2.1
  have j1_ := hMI_.1
  have j2_ := hMI_.2.1
  have j3_ := hMI_.2.2.1
  have j4_ := hMI_.2.2.2.1
  have j5_ := hMI_.2.2.2.2.1
  have m_book := hMI_.2.2.2.2.2.2.2.2.2.2.1
  have m_cod := hMI_.2.2.2.2.2.2.2.2.2.2.2.2.2.1
  clear hMI_
  obtain ⟨S1_, S2_, S3_, hWd_, hSg_⟩ := hRS
  have hwC_ := hw.1
  have t9_ := hw.2.1
  have hnw_ : ∀ q_, H.size ≤ q_ → ∀ i_ : Nat, (i_ : Int) < v 202 (T 181 x) → ∀ y_ : Nat, ELn_ T 181 x i_ = y_ + 1 → y_ ≠ q_ := fun q_ hq_ => fr_of hwC_ (wt_181 hwC_.2.1 t9_) hq_
  have ra1_ := hRA.1
  have ra2_ := hRA.2.1
  have ra3_ := hRA.2.2.1
  refine j_aload_n E 789 rfl dL_law_788 rfl (lv_at hl 1 rfl) ?_
  refine j_aload_n E 790 rfl dL_law_789 rfl (lv_at hl 0 rfl) ?_
  refine j_iload_n E 791 rfl dL_law_790 rfl (lv_at hl 3 rfl) ?_
  refine j_iconst E 792 rfl dL_law_791 ?_
  refine j_iadd E 793 rfl dL_law_792 ?_
  refine lw_ld E hX hbl hL hw (by omega) 794 rfl dL_law_793 ?_
  refine j_aload_n E 795 rfl dL_law_794 rfl (lv_at hl 0 rfl) ?_
  refine j_iload_n E 796 rfl dL_law_795 rfl (lv_at hl 3 rfl) ?_
  refine j_iconst E 797 rfl dL_law_796 ?_
  refine j_iadd E 798 rfl dL_law_797 ?_
  refine lw_ld E hX hbl hL hw (by omega) 799 rfl dL_law_798 ?_
  refine lw_C E (c_X9_stood l D cy T v x ((xs (i + 1).toNat).toInt) ((xs (i + 2).toNat).toInt) hw.2.1 (inR_toInt _) (inR_toInt _) (by omega)) mt_X9_stood ml_L_95 hK hw rfl ⟨(Nat.le_of_ble_eq_true rfl), (Nat.le_of_ble_eq_true rfl)⟩ ⟨show cells ≤ 600000 by omega, show slots ≤ 7302250 by omega⟩ (As := [.int (J (xs (i + 1).toNat).toInt), .int (J (xs (i + 2).toNat).toInt)]) (rest := []) rfl rfl hl.1 (Nat.le_of_ble_eq_true rfl) 802 rfl dL_law_799 (fun z1_ v1_ H locs rz1_ hz1_ hw => ?_)
  obtain ⟨ev1_, hc1_⟩ := hz1_
  have ca186_ : v1_ 186 x = v 186 x := congrFun (congrFun ev1_ 186) x
  have ca187_ : v1_ 187 x = v 187 x := congrFun (congrFun ev1_ 187) x
  have ca190_ : v1_ 190 x = v 190 x := congrFun (congrFun ev1_ 190) x
  have ca191_ : v1_ 191 x = v 191 x := congrFun (congrFun ev1_ 191) x
  have cs180_ : v1_ 202 (T 180 x) = v 202 (T 180 x) := congrFun (congrFun ev1_ 202) (T 180 x)
  have cs181_ : v1_ 202 (T 181 x) = v 202 (T 181 x) := congrFun (congrFun ev1_ 202) (T 181 x)
  have cs182_ : v1_ 202 (T 182 x) = v 202 (T 182 x) := congrFun (congrFun ev1_ 202) (T 182 x)
  have cv40_ : v1_ 40 = v 40 := congrFun ev1_ 40
  have cv41_ : v1_ 41 = v 41 := congrFun ev1_ 41
  have cv42_ : v1_ 42 = v 42 := congrFun ev1_ 42
  have cv43_ : v1_ 43 = v 43 := congrFun ev1_ 43
  have cv44_ : v1_ 44 = v 44 := congrFun ev1_ 44
  have cv303_ : v1_ 303 = v 303 := congrFun ev1_ 303
  have cv25_ : v1_ 25 = v 25 := congrFun ev1_ 25
  have cv300_ : v1_ 300 = v 300 := congrFun ev1_ 300
  clear ev1_
  refine j_pop E 803 rfl dL_law_802 rfl ?_
  refine j_aload_n E 804 rfl dL_law_803 rfl (lv_at hl 2 rfl) ?_
  refine j_aload_n E 805 rfl dL_law_804 rfl (lv_at hl 0 rfl) ?_
  refine j_iload_n E 806 rfl dL_law_805 rfl (lv_at hl 3 rfl) ?_
  refine j_iconst E 807 rfl dL_law_806 ?_
  refine j_iadd E 808 rfl dL_law_807 ?_
  refine lw_ld E hX hbl hL hw (by omega) 809 rfl dL_law_808 ?_
  refine j_aload_n E 810 rfl dL_law_809 rfl (lv_at hl 0 rfl) ?_
  refine j_iload_n E 811 rfl dL_law_810 rfl (lv_at hl 3 rfl) ?_
  refine j_iconst E 812 rfl dL_law_811 ?_
  refine j_iadd E 813 rfl dL_law_812 ?_
  refine lw_ld E hX hbl hL hw (by omega) 814 rfl dL_law_813 ?_
  refine lw_M E (c_X10_stood l D cy q n f ((xs (i + 1).toNat).toInt) ((xs (i + 2).toNat).toInt) (inR_toInt _) (inR_toInt _) hw.2.2.2.2.2.1 ) mt_X10_stood ml_L_98 hK hw rfl hκ ⟨(Nat.le_of_ble_eq_true rfl), (Nat.le_of_ble_eq_true rfl)⟩ ⟨show cells ≤ 600000 by omega, show slots ≤ 7302250 by omega⟩ (As := [.int (J (xs (i + 1).toNat).toInt), .int (J (xs (i + 2).toNat).toInt)]) (rest := []) rfl rfl hl.1 (Nat.le_of_ble_eq_true rfl) 817 rfl dL_law_814 (fun z n2 f2 h => by obtain ⟨_, e1, e2, h, -⟩ := h; rw [e1, e2]; exact h) (fun z2_ n2_ f2_ H locs rz2_ hz2_ hw => ?_)
  obtain ⟨x0m2_, em2_, ef2_, -, hm2_⟩ := hz2_
  have mg3_ : f2_ 3 = f 3 := congrFun ef2_ 3
  have mg4_ : f2_ 4 = f 4 := congrFun ef2_ 4
  have mg5_ : f2_ 5 = f 5 := congrFun ef2_ 5
  have mg6_ : f2_ 6 = f 6 := congrFun ef2_ 6
  have mg7_ : f2_ 7 = f 7 := congrFun ef2_ 7
  have mg18_ : f2_ 18 = f 18 := congrFun ef2_ 18
  have mg22_ : f2_ 22 = f 22 := congrFun ef2_ 22
  have mg32_ : f2_ 32 = f 32 := congrFun ef2_ 32
  have mg33_ : f2_ 33 = f 33 := congrFun ef2_ 33
  have mg34_ : f2_ 34 = f 34 := congrFun ef2_ 34
  have mg35_ : f2_ 35 = f 35 := congrFun ef2_ 35
  have mg36_ : f2_ 36 = f 36 := congrFun ef2_ 36
  have mg67_ : f2_ 67 = f 67 := congrFun ef2_ 67
  have mn1_ : n2_ 1 = n 1 := congrFun em2_ 1
  have mn2_ : n2_ 2 = n 2 := congrFun em2_ 2
  have mn12_ : n2_ 12 = n 12 := congrFun em2_ 12
  have mn23_ : n2_ 23 = n 23 := congrFun em2_ 23
  have mn29_ : n2_ 29 = n 29 := congrFun em2_ 29
  have mn43_ : n2_ 43 = n 43 := congrFun em2_ 43
  have mn44_ : n2_ 44 = n 44 := congrFun em2_ 44
  clear em2_
  clear ef2_
  have hr2_n_ := R2_same hR2 (fun _ => rfl) cv40_ cv41_ cv42_ cv43_ cv44_ mn2_ mg3_ mg4_ mg5_ mg6_ mg7_
  have hra_n_ := RA_same hRA cs182_ ca190_ ca191_ rfl cv303_ mn29_ mn43_ mn44_ (by omega) mg22_
  have hrf_n_ : Fut_ (f2_ 18) (n2_ 1) (n2_ 12) := by rw [mg18_, mn1_, mn12_]; exact hRF
  have hrk_n_ := RBk_same hRK (fun _ => rfl) cv25_ mn12_ mg67_
  have hrs_n_ : RS T v1_ x n2_ f2_ := RS_same hSg_ (by rw [cv300_, cs182_]; exact hWd_) mn29_ mg32_ mg33_ mg34_ mg35_ mg36_
  clear hc1_
  refine j_pop E 818 rfl dL_law_817 rfl ?_
  refine j_goto E 1315 dL_law_818 (by decide) ?_
  exact W.widen (by omega) (by omega) (next _ _ _ _ _ _ ls hw ⟨by omega, by omega, by omega, by omega⟩ hr2_n_ hra_n_ hrk_n_ hrs_n_ hrf_n_ hl)
set_option maxHeartbeats 4000000 in
set_option maxRecDepth 100000 in
theorem lc_19 {p : Program} {l : Launch} {e : Env} {s : State} {m : MethodId} {below : List Frame} {meth : Method} {c : Code} {H : Heap} {locs : List Loc} {cells slots : Nat} {QW : State → Prop} {ls : Array Slot} {D : va_G} {cy : Nat → ClassId} {κ T : Nat → Nat → Nat} {v : Nat → Nat → Int} {q : Nat → Nat} {n : Nat → Int} {f : Nat → Int → Int} {x b L : Nat} {xs : Nat → Int32} (E : CX p s m #[Value.ref b] meth c RL cL_law 4 ret) (hK : KK D cy s) (hZ : ZZ κ s s.heap) (hκ : κ 2 0 < s.heap.size) (hX : va_X b L xs s s.heap) (hbl : b < s.heap.size) (hL : L ≤ 4096) {i : Int} (hi : 0 ≤ i ∧ i + 8 ≤ (L : Int)) (hf : cells + 6 ≤ 600000 ∧ slots + 7000 ≤ 7302250) (hw : LW D cy κ x T v q n f s H locs) (hR : RB T v x n) (hR2 : R2 T v x n f) (hRA : RA T v x n f) (hRK : RBk T v x n f) (hRS : RS T v x n f) (hRF : Fut_ (f 18) (n 1) (n 12)) (hl : lv_has ls 4 [(0, .ref b), (1, .ref x), (2, .ref (q 0)), (3, .int (J i))])
    (next : ∀ (T : Nat → Nat → Nat) (v : Nat → Nat → Int) (n : Nat → Int) (f : Nat → Int → Int) (H : Heap) (locs : List Loc) (ls : Array Slot), LW D cy κ x T v q n f s H locs → RB T v x n → R2 T v x n f → RA T v x n f → RBk T v x n f → RS T v x n f → Fut_ (f 18) (n 1) (n 12) → lv_has ls 4 [(0, .ref b), (1, .ref x), (2, .ref (q 0)), (3, .int (J i))] → W p l e room_1 s m #[Value.ref b] below meth c H locs (cells + 6) (slots + 7000) QW (F0 m 1315 ls [])) : W p l e room_1 s m #[Value.ref b] below meth c H locs cells slots QW (F0 m 821 ls []) := by
  obtain ⟨hr1_, hr2_, hr3_, hr4_⟩ := hR
  have hMI_ := hw.2.2.2.2.2.1
  have j1_ := hMI_.1
  have j2_ := hMI_.2.1
  have j3_ := hMI_.2.2.1
  have j4_ := hMI_.2.2.2.1
  have j5_ := hMI_.2.2.2.2.1
  have m_book := hMI_.2.2.2.2.2.2.2.2.2.2.1
  have m_cod := hMI_.2.2.2.2.2.2.2.2.2.2.2.2.2.1
  clear hMI_
  obtain ⟨S1_, S2_, S3_, hWd_, hSg_⟩ := hRS
  have hwC_ := hw.1
  have t9_ := hw.2.1
  have hnw_ : ∀ q_, H.size ≤ q_ → ∀ i_ : Nat, (i_ : Int) < v 202 (T 181 x) → ∀ y_ : Nat, ELn_ T 181 x i_ = y_ + 1 → y_ ≠ q_ := fun q_ hq_ => fr_of hwC_ (wt_181 hwC_.2.1 t9_) hq_
  have ra1_ := hRA.1
  have ra2_ := hRA.2.1
  have ra3_ := hRA.2.2.1
  refine j_aload_n E 822 rfl dL_law_821 rfl (lv_at hl 1 rfl) ?_
  refine j_aload_n E 823 rfl dL_law_822 rfl (lv_at hl 0 rfl) ?_
  refine j_iload_n E 824 rfl dL_law_823 rfl (lv_at hl 3 rfl) ?_
  refine j_iconst E 825 rfl dL_law_824 ?_
  refine j_iadd E 826 rfl dL_law_825 ?_
  refine lw_ld E hX hbl hL hw (by omega) 827 rfl dL_law_826 ?_
  refine j_aload_n E 828 rfl dL_law_827 rfl (lv_at hl 0 rfl) ?_
  refine j_iload_n E 829 rfl dL_law_828 rfl (lv_at hl 3 rfl) ?_
  refine j_iconst E 830 rfl dL_law_829 ?_
  refine j_iadd E 831 rfl dL_law_830 ?_
  refine lw_ld E hX hbl hL hw (by omega) 832 rfl dL_law_831 ?_
  refine j_aload_n E 833 rfl dL_law_832 rfl (lv_at hl 0 rfl) ?_
  refine j_iload_n E 834 rfl dL_law_833 rfl (lv_at hl 3 rfl) ?_
  refine j_iconst E 835 rfl dL_law_834 ?_
  refine j_iadd E 836 rfl dL_law_835 ?_
  refine lw_ld E hX hbl hL hw (by omega) 837 rfl dL_law_836 ?_
  refine j_aload_n E 838 rfl dL_law_837 rfl (lv_at hl 0 rfl) ?_
  refine j_iload_n E 839 rfl dL_law_838 rfl (lv_at hl 3 rfl) ?_
  refine j_iconst E 840 rfl dL_law_839 ?_
  refine j_iadd E 841 rfl dL_law_840 ?_
  refine lw_ld E hX hbl hL hw (by omega) 842 rfl dL_law_841 ?_
  refine j_aload_n E 843 rfl dL_law_842 rfl (lv_at hl 0 rfl) ?_
  refine j_iload_n E 844 rfl dL_law_843 rfl (lv_at hl 3 rfl) ?_
  refine j_iconst E 845 rfl dL_law_844 ?_
  refine j_iadd E 846 rfl dL_law_845 ?_
  refine lw_ld E hX hbl hL hw (by omega) 847 rfl dL_law_846 ?_
  refine j_aload_n E 848 rfl dL_law_847 rfl (lv_at hl 0 rfl) ?_
  refine j_iload_n E 849 rfl dL_law_848 rfl (lv_at hl 3 rfl) ?_
  refine j_bipush E 851 rfl dL_law_849 (by decide) ?_
  refine j_iadd E 852 rfl dL_law_851 ?_
  refine lw_ld E hX hbl hL hw (by omega) 853 rfl dL_law_852 ?_
  refine j_aload_n E 854 rfl dL_law_853 rfl (lv_at hl 0 rfl) ?_
  refine j_iload_n E 855 rfl dL_law_854 rfl (lv_at hl 3 rfl) ?_
  refine j_bipush E 857 rfl dL_law_855 (by decide) ?_
  refine j_iadd E 858 rfl dL_law_857 ?_
  refine lw_ld E hX hbl hL hw (by omega) 859 rfl dL_law_858 ?_
  refine lw_C E (c_X9_owed l D cy T v x ((xs (i + 1).toNat).toInt) ((xs (i + 2).toNat).toInt) ((xs (i + 3).toNat).toInt) ((xs (i + 4).toNat).toInt) ((xs (i + 5).toNat).toInt) ((xs (i + 6).toNat).toInt) ((xs (i + 7).toNat).toInt) S1_ S2_ S3_ hw.2.1 (inR_toInt _) (inR_toInt _) (inR_toInt _) (inR_toInt _) (inR_toInt _) (inR_toInt _) (inR_toInt _) hWd_ (Int.le_refl 0) (by omega) (by omega)) mt_X9_owed ml_L_99 hK hw rfl ⟨(Nat.le_of_ble_eq_true rfl), (Nat.le_of_ble_eq_true rfl)⟩ ⟨show cells ≤ 600000 by omega, show slots ≤ 7302250 by omega⟩ (As := [.int (J (xs (i + 1).toNat).toInt), .int (J (xs (i + 2).toNat).toInt), .int (J (xs (i + 3).toNat).toInt), .int (J (xs (i + 4).toNat).toInt), .int (J (xs (i + 5).toNat).toInt), .int (J (xs (i + 6).toNat).toInt), .int (J (xs (i + 7).toNat).toInt)]) (rest := []) rfl rfl hl.1 (Nat.le_of_ble_eq_true rfl) 862 rfl dL_law_859 (fun z1_ v1_ H locs rz1_ hz1_ hw => ?_)
  obtain ⟨y103_1, y300_1, ev1_, hc1_, hKd_⟩ := hz1_
  have ca186_ : v1_ 186 x = v 186 x := congrFun (congrFun ev1_ 186) x
  have ca187_ : v1_ 187 x = v 187 x := congrFun (congrFun ev1_ 187) x
  have ca190_ : v1_ 190 x = v 190 x := congrFun (congrFun ev1_ 190) x
  have ca191_ : v1_ 191 x = v 191 x := congrFun (congrFun ev1_ 191) x
  have cs180_ : v1_ 202 (T 180 x) = v 202 (T 180 x) := congrFun (congrFun ev1_ 202) (T 180 x)
  have cs181_ : v1_ 202 (T 181 x) = v 202 (T 181 x) := congrFun (congrFun ev1_ 202) (T 181 x)
  have cs182_ : v1_ 202 (T 182 x) = v 202 (T 182 x) := congrFun (congrFun ev1_ 202) (T 182 x)
  have cv40_ : v1_ 40 = v 40 := congrFun ev1_ 40
  have cv41_ : v1_ 41 = v 41 := congrFun ev1_ 41
  have cv42_ : v1_ 42 = v 42 := congrFun ev1_ 42
  have cv43_ : v1_ 43 = v 43 := congrFun ev1_ 43
  have cv44_ : v1_ 44 = v 44 := congrFun ev1_ 44
  have cv303_ : v1_ 303 = v 303 := congrFun ev1_ 303
  have cv25_ : v1_ 25 = v 25 := congrFun ev1_ 25
  have cv300_ : v1_ 300 = y300_1 := congrFun ev1_ 300
  clear ev1_
  refine j_pop E 863 rfl dL_law_862 rfl ?_
  refine j_aload_n E 864 rfl dL_law_863 rfl (lv_at hl 2 rfl) ?_
  refine j_aload_n E 865 rfl dL_law_864 rfl (lv_at hl 0 rfl) ?_
  refine j_iload_n E 866 rfl dL_law_865 rfl (lv_at hl 3 rfl) ?_
  refine j_iconst E 867 rfl dL_law_866 ?_
  refine j_iadd E 868 rfl dL_law_867 ?_
  refine lw_ld E hX hbl hL hw (by omega) 869 rfl dL_law_868 ?_
  refine j_aload_n E 870 rfl dL_law_869 rfl (lv_at hl 0 rfl) ?_
  refine j_iload_n E 871 rfl dL_law_870 rfl (lv_at hl 3 rfl) ?_
  refine j_iconst E 872 rfl dL_law_871 ?_
  refine j_iadd E 873 rfl dL_law_872 ?_
  refine lw_ld E hX hbl hL hw (by omega) 874 rfl dL_law_873 ?_
  refine j_aload_n E 875 rfl dL_law_874 rfl (lv_at hl 0 rfl) ?_
  refine j_iload_n E 876 rfl dL_law_875 rfl (lv_at hl 3 rfl) ?_
  refine j_iconst E 877 rfl dL_law_876 ?_
  refine j_iadd E 878 rfl dL_law_877 ?_
  refine lw_ld E hX hbl hL hw (by omega) 879 rfl dL_law_878 ?_
  refine j_aload_n E 880 rfl dL_law_879 rfl (lv_at hl 0 rfl) ?_
  refine j_iload_n E 881 rfl dL_law_880 rfl (lv_at hl 3 rfl) ?_
  refine j_iconst E 882 rfl dL_law_881 ?_
  refine j_iadd E 883 rfl dL_law_882 ?_
  refine lw_ld E hX hbl hL hw (by omega) 884 rfl dL_law_883 ?_
  refine j_aload_n E 885 rfl dL_law_884 rfl (lv_at hl 0 rfl) ?_
  refine j_iload_n E 886 rfl dL_law_885 rfl (lv_at hl 3 rfl) ?_
  refine j_iconst E 887 rfl dL_law_886 ?_
  refine j_iadd E 888 rfl dL_law_887 ?_
  refine lw_ld E hX hbl hL hw (by omega) 889 rfl dL_law_888 ?_
  refine j_aload_n E 890 rfl dL_law_889 rfl (lv_at hl 0 rfl) ?_
  refine j_iload_n E 891 rfl dL_law_890 rfl (lv_at hl 3 rfl) ?_
  refine j_bipush E 893 rfl dL_law_891 (by decide) ?_
  refine j_iadd E 894 rfl dL_law_893 ?_
  refine lw_ld E hX hbl hL hw (by omega) 895 rfl dL_law_894 ?_
  refine j_aload_n E 896 rfl dL_law_895 rfl (lv_at hl 0 rfl) ?_
  refine j_iload_n E 897 rfl dL_law_896 rfl (lv_at hl 3 rfl) ?_
  refine j_bipush E 899 rfl dL_law_897 (by decide) ?_
  refine j_iadd E 900 rfl dL_law_899 ?_
  refine lw_ld E hX hbl hL hw (by omega) 901 rfl dL_law_900 ?_
  refine lw_M E (c_X10_owed l D cy q n f ((xs (i + 1).toNat).toInt) ((xs (i + 2).toNat).toInt) ((xs (i + 3).toNat).toInt) ((xs (i + 4).toNat).toInt) ((xs (i + 5).toNat).toInt) ((xs (i + 6).toNat).toInt) ((xs (i + 7).toNat).toInt) S1_ S2_ S3_ (inR_toInt _) (inR_toInt _) (inR_toInt _) (inR_toInt _) (inR_toInt _) (inR_toInt _) (inR_toInt _) hw.2.2.2.2.2.1 hSg_) mt_X10_owed ml_L_103 hK hw rfl hκ ⟨(Nat.le_of_ble_eq_true rfl), (Nat.le_of_ble_eq_true rfl)⟩ ⟨show cells ≤ 600000 by omega, show slots ≤ 7302250 by omega⟩ (As := [.int (J (xs (i + 1).toNat).toInt), .int (J (xs (i + 2).toNat).toInt), .int (J (xs (i + 3).toNat).toInt), .int (J (xs (i + 4).toNat).toInt), .int (J (xs (i + 5).toNat).toInt), .int (J (xs (i + 6).toNat).toInt), .int (J (xs (i + 7).toNat).toInt)]) (rest := []) rfl rfl hl.1 (Nat.le_of_ble_eq_true rfl) 904 rfl dL_law_901 (fun z n2 f2 h => by obtain ⟨_, _, _, _, e1, e2, h, -⟩ := h; rw [e1, e2]; exact h) (fun z2_ n2_ f2_ H locs rz2_ hz2_ hw => ?_)
  obtain ⟨x0m2_, y45m2_, y46m2_, y47m2_, em2_, ef2_, -, hm2_⟩ := hz2_
  have mg3_ : f2_ 3 = f 3 := congrFun ef2_ 3
  have mg4_ : f2_ 4 = f 4 := congrFun ef2_ 4
  have mg5_ : f2_ 5 = f 5 := congrFun ef2_ 5
  have mg6_ : f2_ 6 = f 6 := congrFun ef2_ 6
  have mg7_ : f2_ 7 = f 7 := congrFun ef2_ 7
  have mg18_ : f2_ 18 = f 18 := congrFun ef2_ 18
  have mg22_ : f2_ 22 = f 22 := congrFun ef2_ 22
  have mg32_ : f2_ 32 = f 32 := congrFun ef2_ 32
  have mg33_ : f2_ 33 = f 33 := congrFun ef2_ 33
  have mg34_ : f2_ 34 = f 34 := congrFun ef2_ 34
  have mg35_ : f2_ 35 = f 35 := congrFun ef2_ 35
  have mg36_ : f2_ 36 = f 36 := congrFun ef2_ 36
  have mg67_ : f2_ 67 = f 67 := congrFun ef2_ 67
  have mn1_ : n2_ 1 = n 1 := congrFun em2_ 1
  have mn2_ : n2_ 2 = n 2 := congrFun em2_ 2
  have mn12_ : n2_ 12 = n 12 := congrFun em2_ 12
  have mn23_ : n2_ 23 = n 23 := congrFun em2_ 23
  have mn29_ : n2_ 29 = n 29 := congrFun em2_ 29
  have mn43_ : n2_ 43 = n 43 := congrFun em2_ 43
  have mn44_ : n2_ 44 = n 44 := congrFun em2_ 44
  clear em2_
  clear ef2_
  clear hc1_
  clear hm2_
  have hr2_n_ := R2_same hR2 (fun _ => rfl) cv40_ cv41_ cv42_ cv43_ cv44_ mn2_ mg3_ mg4_ mg5_ mg6_ mg7_
  have hra_n_ := RA_same hRA cs182_ ca190_ ca191_ rfl cv303_ mn29_ mn43_ mn44_ (by omega) mg22_
  have hrf_n_ : Fut_ (f2_ 18) (n2_ 1) (n2_ 12) := by rw [mg18_, mn1_, mn12_]; exact hRF
  have hrk_n_ := RBk_same hRK (fun _ => rfl) cv25_ mn12_ mg67_
  have hrs_n_ : RS T v1_ x n2_ f2_ := RS_same hSg_ (by rw [cv300_]; exact wd_kd hwC_ t9_ hKd_ (by decide) cs182_ hWd_) mn29_ mg32_ mg33_ mg34_ mg35_ mg36_
  refine j_pop E 905 rfl dL_law_904 rfl ?_
  refine j_goto E 1315 dL_law_905 (by decide) ?_
  exact W.widen (by omega) (by omega) (next _ _ _ _ _ _ ls hw ⟨by omega, by omega, by omega, by omega⟩ hr2_n_ hra_n_ hrk_n_ hrs_n_ hrf_n_ hl)
set_option maxHeartbeats 4000000 in
set_option maxRecDepth 100000 in
theorem lc_20 {p : Program} {l : Launch} {e : Env} {s : State} {m : MethodId} {below : List Frame} {meth : Method} {c : Code} {H : Heap} {locs : List Loc} {cells slots : Nat} {QW : State → Prop} {ls : Array Slot} {D : va_G} {cy : Nat → ClassId} {κ T : Nat → Nat → Nat} {v : Nat → Nat → Int} {q : Nat → Nat} {n : Nat → Int} {f : Nat → Int → Int} {x b L : Nat} {xs : Nat → Int32} (E : CX p s m #[Value.ref b] meth c RL cL_law 4 ret) (hK : KK D cy s) (hZ : ZZ κ s s.heap) (hκ : κ 2 0 < s.heap.size) (hX : va_X b L xs s s.heap) (hbl : b < s.heap.size) (hL : L ≤ 4096) {i : Int} (hi : 0 ≤ i ∧ i + 8 ≤ (L : Int)) (hf : cells + 6 ≤ 600000 ∧ slots + 7000 ≤ 7302250) (hw : LW D cy κ x T v q n f s H locs) (hR : RB T v x n) (hR2 : R2 T v x n f) (hRA : RA T v x n f) (hRK : RBk T v x n f) (hRS : RS T v x n f) (hRF : Fut_ (f 18) (n 1) (n 12)) (hl : lv_has ls 4 [(0, .ref b), (1, .ref x), (2, .ref (q 0)), (3, .int (J i))])
    (next : ∀ (T : Nat → Nat → Nat) (v : Nat → Nat → Int) (n : Nat → Int) (f : Nat → Int → Int) (H : Heap) (locs : List Loc) (ls : Array Slot), LW D cy κ x T v q n f s H locs → RB T v x n → R2 T v x n f → RA T v x n f → RBk T v x n f → RS T v x n f → Fut_ (f 18) (n 1) (n 12) → lv_has ls 4 [(0, .ref b), (1, .ref x), (2, .ref (q 0)), (3, .int (J i))] → W p l e room_1 s m #[Value.ref b] below meth c H locs (cells + 6) (slots + 7000) QW (F0 m 1315 ls [])) : W p l e room_1 s m #[Value.ref b] below meth c H locs cells slots QW (F0 m 908 ls []) := by
  obtain ⟨hr1_, hr2_, hr3_, hr4_⟩ := hR
  have hMI_ := hw.2.2.2.2.2.1
  have j1_ := hMI_.1
  have j2_ := hMI_.2.1
  have j3_ := hMI_.2.2.1
  have j4_ := hMI_.2.2.2.1
  have j5_ := hMI_.2.2.2.2.1
  have m_book := hMI_.2.2.2.2.2.2.2.2.2.2.1
  have m_cod := hMI_.2.2.2.2.2.2.2.2.2.2.2.2.2.1
  clear hMI_
  obtain ⟨S1_, S2_, S3_, hWd_, hSg_⟩ := hRS
  have hwC_ := hw.1
  have t9_ := hw.2.1
  have hnw_ : ∀ q_, H.size ≤ q_ → ∀ i_ : Nat, (i_ : Int) < v 202 (T 181 x) → ∀ y_ : Nat, ELn_ T 181 x i_ = y_ + 1 → y_ ≠ q_ := fun q_ hq_ => fr_of hwC_ (wt_181 hwC_.2.1 t9_) hq_
  have ra1_ := hRA.1
  have ra2_ := hRA.2.1
  have ra3_ := hRA.2.2.1
  refine j_aload_n E 909 rfl dL_law_908 rfl (lv_at hl 1 rfl) ?_
  refine j_aload_n E 910 rfl dL_law_909 rfl (lv_at hl 0 rfl) ?_
  refine j_iload_n E 911 rfl dL_law_910 rfl (lv_at hl 3 rfl) ?_
  refine j_iconst E 912 rfl dL_law_911 ?_
  refine j_iadd E 913 rfl dL_law_912 ?_
  refine lw_ld E hX hbl hL hw (by omega) 914 rfl dL_law_913 ?_
  refine j_aload_n E 915 rfl dL_law_914 rfl (lv_at hl 0 rfl) ?_
  refine j_iload_n E 916 rfl dL_law_915 rfl (lv_at hl 3 rfl) ?_
  refine j_iconst E 917 rfl dL_law_916 ?_
  refine j_iadd E 918 rfl dL_law_917 ?_
  refine lw_ld E hX hbl hL hw (by omega) 919 rfl dL_law_918 ?_
  refine j_aload_n E 920 rfl dL_law_919 rfl (lv_at hl 0 rfl) ?_
  refine j_iload_n E 921 rfl dL_law_920 rfl (lv_at hl 3 rfl) ?_
  refine j_iconst E 922 rfl dL_law_921 ?_
  refine j_iadd E 923 rfl dL_law_922 ?_
  refine lw_ld E hX hbl hL hw (by omega) 924 rfl dL_law_923 ?_
  refine j_aload_n E 925 rfl dL_law_924 rfl (lv_at hl 0 rfl) ?_
  refine j_iload_n E 926 rfl dL_law_925 rfl (lv_at hl 3 rfl) ?_
  refine j_iconst E 927 rfl dL_law_926 ?_
  refine j_iadd E 928 rfl dL_law_927 ?_
  refine lw_ld E hX hbl hL hw (by omega) 929 rfl dL_law_928 ?_
  refine j_aload_n E 930 rfl dL_law_929 rfl (lv_at hl 0 rfl) ?_
  refine j_iload_n E 931 rfl dL_law_930 rfl (lv_at hl 3 rfl) ?_
  refine j_iconst E 932 rfl dL_law_931 ?_
  refine j_iadd E 933 rfl dL_law_932 ?_
  refine lw_ld E hX hbl hL hw (by omega) 934 rfl dL_law_933 ?_
  refine j_aload_n E 935 rfl dL_law_934 rfl (lv_at hl 0 rfl) ?_
  refine j_iload_n E 936 rfl dL_law_935 rfl (lv_at hl 3 rfl) ?_
  refine j_bipush E 938 rfl dL_law_936 (by decide) ?_
  refine j_iadd E 939 rfl dL_law_938 ?_
  refine lw_ld E hX hbl hL hw (by omega) 940 rfl dL_law_939 ?_
  refine lw_C E (c_X9_byBook l D cy T v x ((xs (i + 1).toNat).toInt) ((xs (i + 2).toNat).toInt) ((xs (i + 3).toNat).toInt) ((xs (i + 4).toNat).toInt) ((xs (i + 5).toNat).toInt) ((xs (i + 6).toNat).toInt) S1_ S2_ S3_ hw.2.1 (inR_toInt _) (inR_toInt _) (inR_toInt _) (inR_toInt _) (inR_toInt _) (inR_toInt _) hWd_ (Int.le_refl 0) (by omega)) mt_X9_byBook ml_L_104 hK hw rfl ⟨(Nat.le_of_ble_eq_true rfl), (Nat.le_of_ble_eq_true rfl)⟩ ⟨show cells ≤ 600000 by omega, show slots ≤ 7302250 by omega⟩ (As := [.int (J (xs (i + 1).toNat).toInt), .int (J (xs (i + 2).toNat).toInt), .int (J (xs (i + 3).toNat).toInt), .int (J (xs (i + 4).toNat).toInt), .int (J (xs (i + 5).toNat).toInt), .int (J (xs (i + 6).toNat).toInt)]) (rest := []) rfl rfl hl.1 (Nat.le_of_ble_eq_true rfl) 943 rfl dL_law_940 (fun z1_ v1_ H locs rz1_ hz1_ hw => ?_)
  obtain ⟨y103_1, y300_1, ev1_, hc1_, hKd_⟩ := hz1_
  have ca186_ : v1_ 186 x = v 186 x := congrFun (congrFun ev1_ 186) x
  have ca187_ : v1_ 187 x = v 187 x := congrFun (congrFun ev1_ 187) x
  have ca190_ : v1_ 190 x = v 190 x := congrFun (congrFun ev1_ 190) x
  have ca191_ : v1_ 191 x = v 191 x := congrFun (congrFun ev1_ 191) x
  have cs180_ : v1_ 202 (T 180 x) = v 202 (T 180 x) := congrFun (congrFun ev1_ 202) (T 180 x)
  have cs181_ : v1_ 202 (T 181 x) = v 202 (T 181 x) := congrFun (congrFun ev1_ 202) (T 181 x)
  have cs182_ : v1_ 202 (T 182 x) = v 202 (T 182 x) := congrFun (congrFun ev1_ 202) (T 182 x)
  have cv40_ : v1_ 40 = v 40 := congrFun ev1_ 40
  have cv41_ : v1_ 41 = v 41 := congrFun ev1_ 41
  have cv42_ : v1_ 42 = v 42 := congrFun ev1_ 42
  have cv43_ : v1_ 43 = v 43 := congrFun ev1_ 43
  have cv44_ : v1_ 44 = v 44 := congrFun ev1_ 44
  have cv303_ : v1_ 303 = v 303 := congrFun ev1_ 303
  have cv25_ : v1_ 25 = v 25 := congrFun ev1_ 25
  have cv300_ : v1_ 300 = y300_1 := congrFun ev1_ 300
  clear ev1_
  refine j_pop E 944 rfl dL_law_943 rfl ?_
  refine j_aload_n E 945 rfl dL_law_944 rfl (lv_at hl 2 rfl) ?_
  refine j_aload_n E 946 rfl dL_law_945 rfl (lv_at hl 0 rfl) ?_
  refine j_iload_n E 947 rfl dL_law_946 rfl (lv_at hl 3 rfl) ?_
  refine j_iconst E 948 rfl dL_law_947 ?_
  refine j_iadd E 949 rfl dL_law_948 ?_
  refine lw_ld E hX hbl hL hw (by omega) 950 rfl dL_law_949 ?_
  refine j_aload_n E 951 rfl dL_law_950 rfl (lv_at hl 0 rfl) ?_
  refine j_iload_n E 952 rfl dL_law_951 rfl (lv_at hl 3 rfl) ?_
  refine j_iconst E 953 rfl dL_law_952 ?_
  refine j_iadd E 954 rfl dL_law_953 ?_
  refine lw_ld E hX hbl hL hw (by omega) 955 rfl dL_law_954 ?_
  refine j_aload_n E 956 rfl dL_law_955 rfl (lv_at hl 0 rfl) ?_
  refine j_iload_n E 957 rfl dL_law_956 rfl (lv_at hl 3 rfl) ?_
  refine j_iconst E 958 rfl dL_law_957 ?_
  refine j_iadd E 959 rfl dL_law_958 ?_
  refine lw_ld E hX hbl hL hw (by omega) 960 rfl dL_law_959 ?_
  refine j_aload_n E 961 rfl dL_law_960 rfl (lv_at hl 0 rfl) ?_
  refine j_iload_n E 962 rfl dL_law_961 rfl (lv_at hl 3 rfl) ?_
  refine j_iconst E 963 rfl dL_law_962 ?_
  refine j_iadd E 964 rfl dL_law_963 ?_
  refine lw_ld E hX hbl hL hw (by omega) 965 rfl dL_law_964 ?_
  refine j_aload_n E 966 rfl dL_law_965 rfl (lv_at hl 0 rfl) ?_
  refine j_iload_n E 967 rfl dL_law_966 rfl (lv_at hl 3 rfl) ?_
  refine j_iconst E 968 rfl dL_law_967 ?_
  refine j_iadd E 969 rfl dL_law_968 ?_
  refine lw_ld E hX hbl hL hw (by omega) 970 rfl dL_law_969 ?_
  refine j_aload_n E 971 rfl dL_law_970 rfl (lv_at hl 0 rfl) ?_
  refine j_iload_n E 972 rfl dL_law_971 rfl (lv_at hl 3 rfl) ?_
  refine j_bipush E 974 rfl dL_law_972 (by decide) ?_
  refine j_iadd E 975 rfl dL_law_974 ?_
  refine lw_ld E hX hbl hL hw (by omega) 976 rfl dL_law_975 ?_
  refine lw_M E (c_X10_byBook l D cy q n f ((xs (i + 1).toNat).toInt) ((xs (i + 2).toNat).toInt) ((xs (i + 3).toNat).toInt) ((xs (i + 4).toNat).toInt) ((xs (i + 5).toNat).toInt) ((xs (i + 6).toNat).toInt) S1_ S2_ S3_ (inR_toInt _) (inR_toInt _) (inR_toInt _) (inR_toInt _) (inR_toInt _) (inR_toInt _) hw.2.2.2.2.2.1 hSg_) mt_X10_byBook ml_L_108 hK hw rfl hκ ⟨(Nat.le_of_ble_eq_true rfl), (Nat.le_of_ble_eq_true rfl)⟩ ⟨show cells ≤ 600000 by omega, show slots ≤ 7302250 by omega⟩ (As := [.int (J (xs (i + 1).toNat).toInt), .int (J (xs (i + 2).toNat).toInt), .int (J (xs (i + 3).toNat).toInt), .int (J (xs (i + 4).toNat).toInt), .int (J (xs (i + 5).toNat).toInt), .int (J (xs (i + 6).toNat).toInt)]) (rest := []) rfl rfl hl.1 (Nat.le_of_ble_eq_true rfl) 979 rfl dL_law_976 (fun z n2 f2 h => by obtain ⟨_, _, _, _, e1, e2, h, -⟩ := h; rw [e1, e2]; exact h) (fun z2_ n2_ f2_ H locs rz2_ hz2_ hw => ?_)
  obtain ⟨x0m2_, y45m2_, y46m2_, y47m2_, em2_, ef2_, -, hm2_⟩ := hz2_
  have mg3_ : f2_ 3 = f 3 := congrFun ef2_ 3
  have mg4_ : f2_ 4 = f 4 := congrFun ef2_ 4
  have mg5_ : f2_ 5 = f 5 := congrFun ef2_ 5
  have mg6_ : f2_ 6 = f 6 := congrFun ef2_ 6
  have mg7_ : f2_ 7 = f 7 := congrFun ef2_ 7
  have mg18_ : f2_ 18 = f 18 := congrFun ef2_ 18
  have mg22_ : f2_ 22 = f 22 := congrFun ef2_ 22
  have mg32_ : f2_ 32 = f 32 := congrFun ef2_ 32
  have mg33_ : f2_ 33 = f 33 := congrFun ef2_ 33
  have mg34_ : f2_ 34 = f 34 := congrFun ef2_ 34
  have mg35_ : f2_ 35 = f 35 := congrFun ef2_ 35
  have mg36_ : f2_ 36 = f 36 := congrFun ef2_ 36
  have mg67_ : f2_ 67 = f 67 := congrFun ef2_ 67
  have mn1_ : n2_ 1 = n 1 := congrFun em2_ 1
  have mn2_ : n2_ 2 = n 2 := congrFun em2_ 2
  have mn12_ : n2_ 12 = n 12 := congrFun em2_ 12
  have mn23_ : n2_ 23 = n 23 := congrFun em2_ 23
  have mn29_ : n2_ 29 = n 29 := congrFun em2_ 29
  have mn43_ : n2_ 43 = n 43 := congrFun em2_ 43
  have mn44_ : n2_ 44 = n 44 := congrFun em2_ 44
  clear em2_
  clear ef2_
  have hd_ := RB_byb hRK m_book hr4_ ra1_ hc1_.1 hm2_
  clear hc1_
  clear hm2_
  have hr2_n_ := R2_same hR2 (fun _ => rfl) cv40_ cv41_ cv42_ cv43_ cv44_ mn2_ mg3_ mg4_ mg5_ mg6_ mg7_
  have hra_n_ := RA_same hRA cs182_ ca190_ ca191_ rfl cv303_ mn29_ mn43_ mn44_ (by omega) mg22_
  have hrf_n_ : Fut_ (f2_ 18) (n2_ 1) (n2_ 12) := by rw [mg18_, mn1_, mn12_]; exact hRF
  have hrk_n_ := RBk_same hRK (fun _ => rfl) cv25_ mn12_ mg67_
  have hrs_n_ : RS T v1_ x n2_ f2_ := RS_same hSg_ (by rw [cv300_]; exact wd_kd hwC_ t9_ hKd_ (by decide) cs182_ hWd_) mn29_ mg32_ mg33_ mg34_ mg35_ mg36_
  refine j_pop E 980 rfl dL_law_979 rfl ?_
  refine j_goto E 1315 dL_law_980 (by decide) ?_
  exact W.widen (by omega) (by omega) (next _ _ _ _ _ _ ls hw ⟨by omega, by omega, by omega, by omega⟩ hr2_n_ hra_n_ hrk_n_ hrs_n_ hrf_n_ hl)
set_option maxHeartbeats 4000000 in
set_option maxRecDepth 100000 in
theorem lc_21 {p : Program} {l : Launch} {e : Env} {s : State} {m : MethodId} {below : List Frame} {meth : Method} {c : Code} {H : Heap} {locs : List Loc} {cells slots : Nat} {QW : State → Prop} {ls : Array Slot} {D : va_G} {cy : Nat → ClassId} {κ T : Nat → Nat → Nat} {v : Nat → Nat → Int} {q : Nat → Nat} {n : Nat → Int} {f : Nat → Int → Int} {x b L : Nat} {xs : Nat → Int32} (E : CX p s m #[Value.ref b] meth c RL cL_law 4 ret) (hK : KK D cy s) (hZ : ZZ κ s s.heap) (hκ : κ 2 0 < s.heap.size) (hX : va_X b L xs s s.heap) (hbl : b < s.heap.size) (hL : L ≤ 4096) {i : Int} (hi : 0 ≤ i ∧ i + 8 ≤ (L : Int)) (hf : cells + 6 ≤ 600000 ∧ slots + 7000 ≤ 7302250) (hw : LW D cy κ x T v q n f s H locs) (hR : RB T v x n) (hR2 : R2 T v x n f) (hRA : RA T v x n f) (hRK : RBk T v x n f) (hRS : RS T v x n f) (hRF : Fut_ (f 18) (n 1) (n 12)) (hl : lv_has ls 4 [(0, .ref b), (1, .ref x), (2, .ref (q 0)), (3, .int (J i))])
    (next : ∀ (T : Nat → Nat → Nat) (v : Nat → Nat → Int) (n : Nat → Int) (f : Nat → Int → Int) (H : Heap) (locs : List Loc) (ls : Array Slot), LW D cy κ x T v q n f s H locs → RB T v x n → R2 T v x n f → RA T v x n f → RBk T v x n f → RS T v x n f → Fut_ (f 18) (n 1) (n 12) → lv_has ls 4 [(0, .ref b), (1, .ref x), (2, .ref (q 0)), (3, .int (J i))] → W p l e room_1 s m #[Value.ref b] below meth c H locs (cells + 6) (slots + 7000) QW (F0 m 1315 ls [])) : W p l e room_1 s m #[Value.ref b] below meth c H locs cells slots QW (F0 m 983 ls []) := by
  obtain ⟨hr1_, hr2_, hr3_, hr4_⟩ := hR
  have hMI_ := hw.2.2.2.2.2.1
  have j1_ := hMI_.1
  have j2_ := hMI_.2.1
  have j3_ := hMI_.2.2.1
  have j4_ := hMI_.2.2.2.1
  have j5_ := hMI_.2.2.2.2.1
  have m_book := hMI_.2.2.2.2.2.2.2.2.2.2.1
  have m_cod := hMI_.2.2.2.2.2.2.2.2.2.2.2.2.2.1
  clear hMI_
  obtain ⟨S1_, S2_, S3_, hWd_, hSg_⟩ := hRS
  have hwC_ := hw.1
  have t9_ := hw.2.1
  have hnw_ : ∀ q_, H.size ≤ q_ → ∀ i_ : Nat, (i_ : Int) < v 202 (T 181 x) → ∀ y_ : Nat, ELn_ T 181 x i_ = y_ + 1 → y_ ≠ q_ := fun q_ hq_ => fr_of hwC_ (wt_181 hwC_.2.1 t9_) hq_
  have ra1_ := hRA.1
  have ra2_ := hRA.2.1
  have ra3_ := hRA.2.2.1
  refine j_aload_n E 984 rfl dL_law_983 rfl (lv_at hl 1 rfl) ?_
  refine j_aload_n E 985 rfl dL_law_984 rfl (lv_at hl 0 rfl) ?_
  refine j_iload_n E 986 rfl dL_law_985 rfl (lv_at hl 3 rfl) ?_
  refine j_iconst E 987 rfl dL_law_986 ?_
  refine j_iadd E 988 rfl dL_law_987 ?_
  refine lw_ld E hX hbl hL hw (by omega) 989 rfl dL_law_988 ?_
  refine j_aload_n E 990 rfl dL_law_989 rfl (lv_at hl 0 rfl) ?_
  refine j_iload_n E 991 rfl dL_law_990 rfl (lv_at hl 3 rfl) ?_
  refine j_iconst E 992 rfl dL_law_991 ?_
  refine j_iadd E 993 rfl dL_law_992 ?_
  refine lw_ld E hX hbl hL hw (by omega) 994 rfl dL_law_993 ?_
  refine j_aload_n E 995 rfl dL_law_994 rfl (lv_at hl 0 rfl) ?_
  refine j_iload_n E 996 rfl dL_law_995 rfl (lv_at hl 3 rfl) ?_
  refine j_iconst E 997 rfl dL_law_996 ?_
  refine j_iadd E 998 rfl dL_law_997 ?_
  refine lw_ld E hX hbl hL hw (by omega) 999 rfl dL_law_998 ?_
  refine j_aload_n E 1000 rfl dL_law_999 rfl (lv_at hl 0 rfl) ?_
  refine j_iload_n E 1001 rfl dL_law_1000 rfl (lv_at hl 3 rfl) ?_
  refine j_iconst E 1002 rfl dL_law_1001 ?_
  refine j_iadd E 1003 rfl dL_law_1002 ?_
  refine lw_ld E hX hbl hL hw (by omega) 1004 rfl dL_law_1003 ?_
  refine j_aload_n E 1005 rfl dL_law_1004 rfl (lv_at hl 0 rfl) ?_
  refine j_iload_n E 1006 rfl dL_law_1005 rfl (lv_at hl 3 rfl) ?_
  refine j_iconst E 1007 rfl dL_law_1006 ?_
  refine j_iadd E 1008 rfl dL_law_1007 ?_
  refine lw_ld E hX hbl hL hw (by omega) 1009 rfl dL_law_1008 ?_
  refine j_aload_n E 1010 rfl dL_law_1009 rfl (lv_at hl 0 rfl) ?_
  refine j_iload_n E 1011 rfl dL_law_1010 rfl (lv_at hl 3 rfl) ?_
  refine j_bipush E 1013 rfl dL_law_1011 (by decide) ?_
  refine j_iadd E 1014 rfl dL_law_1013 ?_
  refine lw_ld E hX hbl hL hw (by omega) 1015 rfl dL_law_1014 ?_
  refine lw_A E (n_X9_suit l D cy κ T v x ((xs (i + 1).toNat).toInt) ((xs (i + 2).toNat).toInt) ((xs (i + 3).toNat).toInt) ((xs (i + 4).toNat).toInt) ((xs (i + 5).toNat).toInt) ((xs (i + 6).toNat).toInt) H.size S1_ S2_ S3_ (fun a h => Nat.le_trans hZ.2.1 (hw.2.2.2.1 a h)) hw.2.1 (inR_toInt _) (inR_toInt _) (inR_toInt _) (inR_toInt _) (inR_toInt _) (inR_toInt _) hw.2.2.1 hWd_ (by omega) (by omega)) mt_X9_suit ml_L_109 hK hZ hw rfl ⟨(Nat.le_of_ble_eq_true rfl), (Nat.le_of_ble_eq_true rfl)⟩ ⟨show cells + 2 ≤ 600000 by omega, show slots + 500 ≤ 7302250 by omega⟩ (As := [.int (J (xs (i + 1).toNat).toInt), .int (J (xs (i + 2).toNat).toInt), .int (J (xs (i + 3).toNat).toInt), .int (J (xs (i + 4).toNat).toInt), .int (J (xs (i + 5).toNat).toInt), .int (J (xs (i + 6).toNat).toInt)]) (rest := []) rfl rfl hl.1 (Nat.le_of_ble_eq_true rfl) 1018 rfl dL_law_1015 (fun z T2 v2 h => h.1.1) (fun z1_ T1_ v1_ H locs rz1_ hz1_ hw => ?_)
  obtain ⟨⟨-, ⟨e180_, e181_, e182_, e183_, e185_⟩, ca186_, ca187_, ca190_, ca191_, cv303_, co180_, co181_, co182_, hCC_, hE_, hE181_, hE182_, cv40_, cv41_, cv42_, cv43_, cv44_, cv25_, cv302_, cv160_, hc1_⟩, hKd_⟩ := hz1_
  have cs180_ : v1_ 202 (T1_ 180 x) = v1_ 202 (T 180 x) := by rw [e180_]
  have cs181_ : v1_ 202 (T1_ 181 x) = v1_ 202 (T 181 x) := by rw [e181_]
  have cs182_ : v1_ 202 (T1_ 182 x) = v1_ 202 (T 182 x) := by rw [e182_]
  refine W.widen (show cells + 2 ≤ cells + 6 by omega) (show slots + 500 ≤ slots + 7000 by omega) ?_
  refine j_pop E 1019 rfl dL_law_1018 rfl ?_
  refine j_aload_n E 1020 rfl dL_law_1019 rfl (lv_at hl 2 rfl) ?_
  refine j_aload_n E 1021 rfl dL_law_1020 rfl (lv_at hl 0 rfl) ?_
  refine j_iload_n E 1022 rfl dL_law_1021 rfl (lv_at hl 3 rfl) ?_
  refine j_iconst E 1023 rfl dL_law_1022 ?_
  refine j_iadd E 1024 rfl dL_law_1023 ?_
  refine lw_ld E hX hbl hL hw (by omega) 1025 rfl dL_law_1024 ?_
  refine j_aload_n E 1026 rfl dL_law_1025 rfl (lv_at hl 0 rfl) ?_
  refine j_iload_n E 1027 rfl dL_law_1026 rfl (lv_at hl 3 rfl) ?_
  refine j_iconst E 1028 rfl dL_law_1027 ?_
  refine j_iadd E 1029 rfl dL_law_1028 ?_
  refine lw_ld E hX hbl hL hw (by omega) 1030 rfl dL_law_1029 ?_
  refine j_aload_n E 1031 rfl dL_law_1030 rfl (lv_at hl 0 rfl) ?_
  refine j_iload_n E 1032 rfl dL_law_1031 rfl (lv_at hl 3 rfl) ?_
  refine j_iconst E 1033 rfl dL_law_1032 ?_
  refine j_iadd E 1034 rfl dL_law_1033 ?_
  refine lw_ld E hX hbl hL hw (by omega) 1035 rfl dL_law_1034 ?_
  refine j_aload_n E 1036 rfl dL_law_1035 rfl (lv_at hl 0 rfl) ?_
  refine j_iload_n E 1037 rfl dL_law_1036 rfl (lv_at hl 3 rfl) ?_
  refine j_iconst E 1038 rfl dL_law_1037 ?_
  refine j_iadd E 1039 rfl dL_law_1038 ?_
  refine lw_ld E hX hbl hL hw (by omega) 1040 rfl dL_law_1039 ?_
  refine j_aload_n E 1041 rfl dL_law_1040 rfl (lv_at hl 0 rfl) ?_
  refine j_iload_n E 1042 rfl dL_law_1041 rfl (lv_at hl 3 rfl) ?_
  refine j_iconst E 1043 rfl dL_law_1042 ?_
  refine j_iadd E 1044 rfl dL_law_1043 ?_
  refine lw_ld E hX hbl hL hw (by omega) 1045 rfl dL_law_1044 ?_
  refine j_aload_n E 1046 rfl dL_law_1045 rfl (lv_at hl 0 rfl) ?_
  refine j_iload_n E 1047 rfl dL_law_1046 rfl (lv_at hl 3 rfl) ?_
  refine j_bipush E 1049 rfl dL_law_1047 (by decide) ?_
  refine j_iadd E 1050 rfl dL_law_1049 ?_
  refine lw_ld E hX hbl hL hw (by omega) 1051 rfl dL_law_1050 ?_
  refine lw_M E (c_X10_suit l D cy q n f ((xs (i + 1).toNat).toInt) ((xs (i + 2).toNat).toInt) ((xs (i + 3).toNat).toInt) ((xs (i + 4).toNat).toInt) ((xs (i + 5).toNat).toInt) ((xs (i + 6).toNat).toInt) S1_ S2_ S3_ (inR_toInt _) (inR_toInt _) (inR_toInt _) (inR_toInt _) (inR_toInt _) (inR_toInt _) hw.2.2.2.2.2.1 hSg_) mt_X10_suit ml_L_112 hK hw rfl hκ ⟨(Nat.le_of_ble_eq_true rfl), (Nat.le_of_ble_eq_true rfl)⟩ ⟨show cells + 6 ≤ 600000 by omega, show slots + 7000 ≤ 7302250 by omega⟩ (As := [.int (J (xs (i + 1).toNat).toInt), .int (J (xs (i + 2).toNat).toInt), .int (J (xs (i + 3).toNat).toInt), .int (J (xs (i + 4).toNat).toInt), .int (J (xs (i + 5).toNat).toInt), .int (J (xs (i + 6).toNat).toInt)]) (rest := []) rfl rfl hl.1 (Nat.le_of_ble_eq_true rfl) 1054 rfl dL_law_1051 (fun z n2 f2 h => by obtain ⟨_, _, _, _, _, _, _, _, _, _, _, _, e1, e2, h, -⟩ := h; rw [e1, e2]; exact h) (fun z2_ n2_ f2_ H locs rz2_ hz2_ hw => ?_)
  obtain ⟨x0m2_, x48m2_, y45m2_, y46m2_, y47m2_, y49m2_, y50m2_, y51m2_, y52m2_, y53m2_, y54m2_, y55m2_, em2_, ef2_, -, hm2_⟩ := hz2_
  have mg3_ : f2_ 3 = f 3 := congrFun ef2_ 3
  have mg4_ : f2_ 4 = f 4 := congrFun ef2_ 4
  have mg5_ : f2_ 5 = f 5 := congrFun ef2_ 5
  have mg6_ : f2_ 6 = f 6 := congrFun ef2_ 6
  have mg7_ : f2_ 7 = f 7 := congrFun ef2_ 7
  have mg18_ : f2_ 18 = f 18 := congrFun ef2_ 18
  have mg22_ : f2_ 22 = f 22 := congrFun ef2_ 22
  have mg32_ : f2_ 32 = f 32 := congrFun ef2_ 32
  have mg33_ : f2_ 33 = f 33 := congrFun ef2_ 33
  have mg34_ : f2_ 34 = f 34 := congrFun ef2_ 34
  have mg35_ : f2_ 35 = f 35 := congrFun ef2_ 35
  have mg36_ : f2_ 36 = f 36 := congrFun ef2_ 36
  have mg67_ : f2_ 67 = f 67 := congrFun ef2_ 67
  have mn1_ : n2_ 1 = n 1 := congrFun em2_ 1
  have mn2_ : n2_ 2 = n 2 := congrFun em2_ 2
  have mn12_ : n2_ 12 = n 12 := congrFun em2_ 12
  have mn23_ : n2_ 23 = n 23 := congrFun em2_ 23
  have mn29_ : n2_ 29 = n 29 := congrFun em2_ 29
  have mn43_ : n2_ 43 = n 43 := congrFun em2_ 43
  have mn44_ : n2_ 44 = n 44 := congrFun em2_ 44
  clear em2_
  clear ef2_
  have hr2_n_ := R2_same hR2 hE_ cv40_ cv41_ cv42_ cv43_ cv44_ mn2_ mg3_ mg4_ mg5_ mg6_ mg7_
  have hra_n_ := RA_same hRA (cs182_.trans co182_) ca190_ ca191_ e185_ cv303_ mn29_ mn43_ mn44_ (by omega) mg22_
  have hrf_n_ : Fut_ (f2_ 18) (n2_ 1) (n2_ 12) := by rw [mg18_, mn1_, mn12_]; exact hRF
  have hrk_n_ := RBk_same hRK hE181_ cv25_ mn12_ mg67_
  have hrs_n_ : RS T1_ v1_ x n2_ f2_ := RS_same hSg_ (wd_mk hwC_ t9_ rfl hCC_ hKd_ (by decide) hE182_ (cs182_.trans co182_) hWd_) mn29_ mg32_ mg33_ mg34_ mg35_ mg36_
  clear hc1_
  refine j_pop E 1055 rfl dL_law_1054 rfl ?_
  refine j_goto E 1315 dL_law_1055 (by decide) ?_
  exact W.widen (by omega) (by omega) (next _ _ _ _ _ _ ls hw ⟨by omega, by omega, by omega, by omega⟩ hr2_n_ hra_n_ hrk_n_ hrs_n_ hrf_n_ hl)
set_option maxHeartbeats 4000000 in
set_option maxRecDepth 100000 in
theorem lc_22 {p : Program} {l : Launch} {e : Env} {s : State} {m : MethodId} {below : List Frame} {meth : Method} {c : Code} {H : Heap} {locs : List Loc} {cells slots : Nat} {QW : State → Prop} {ls : Array Slot} {D : va_G} {cy : Nat → ClassId} {κ T : Nat → Nat → Nat} {v : Nat → Nat → Int} {q : Nat → Nat} {n : Nat → Int} {f : Nat → Int → Int} {x b L : Nat} {xs : Nat → Int32} (E : CX p s m #[Value.ref b] meth c RL cL_law 4 ret) (hK : KK D cy s) (hZ : ZZ κ s s.heap) (hκ : κ 2 0 < s.heap.size) (hX : va_X b L xs s s.heap) (hbl : b < s.heap.size) (hL : L ≤ 4096) {i : Int} (hi : 0 ≤ i ∧ i + 8 ≤ (L : Int)) (hf : cells + 6 ≤ 600000 ∧ slots + 7000 ≤ 7302250) (hw : LW D cy κ x T v q n f s H locs) (hR : RB T v x n) (hR2 : R2 T v x n f) (hRA : RA T v x n f) (hRK : RBk T v x n f) (hRS : RS T v x n f) (hRF : Fut_ (f 18) (n 1) (n 12)) (hl : lv_has ls 4 [(0, .ref b), (1, .ref x), (2, .ref (q 0)), (3, .int (J i))])
    (next : ∀ (T : Nat → Nat → Nat) (v : Nat → Nat → Int) (n : Nat → Int) (f : Nat → Int → Int) (H : Heap) (locs : List Loc) (ls : Array Slot), LW D cy κ x T v q n f s H locs → RB T v x n → R2 T v x n f → RA T v x n f → RBk T v x n f → RS T v x n f → Fut_ (f 18) (n 1) (n 12) → lv_has ls 4 [(0, .ref b), (1, .ref x), (2, .ref (q 0)), (3, .int (J i))] → W p l e room_1 s m #[Value.ref b] below meth c H locs (cells + 6) (slots + 7000) QW (F0 m 1315 ls [])) : W p l e room_1 s m #[Value.ref b] below meth c H locs cells slots QW (F0 m 1058 ls []) := by
  obtain ⟨hr1_, hr2_, hr3_, hr4_⟩ := hR
  have hMI_ := hw.2.2.2.2.2.1
  have j1_ := hMI_.1
  have j2_ := hMI_.2.1
  have j3_ := hMI_.2.2.1
  have j4_ := hMI_.2.2.2.1
  have j5_ := hMI_.2.2.2.2.1
  have m_book := hMI_.2.2.2.2.2.2.2.2.2.2.1
  have m_cod := hMI_.2.2.2.2.2.2.2.2.2.2.2.2.2.1
  clear hMI_
  obtain ⟨S1_, S2_, S3_, hWd_, hSg_⟩ := hRS
  have hwC_ := hw.1
  have t9_ := hw.2.1
  have hnw_ : ∀ q_, H.size ≤ q_ → ∀ i_ : Nat, (i_ : Int) < v 202 (T 181 x) → ∀ y_ : Nat, ELn_ T 181 x i_ = y_ + 1 → y_ ≠ q_ := fun q_ hq_ => fr_of hwC_ (wt_181 hwC_.2.1 t9_) hq_
  have ra1_ := hRA.1
  have ra2_ := hRA.2.1
  have ra3_ := hRA.2.2.1
  refine j_aload_n E 1059 rfl dL_law_1058 rfl (lv_at hl 1 rfl) ?_
  refine j_aload_n E 1060 rfl dL_law_1059 rfl (lv_at hl 0 rfl) ?_
  refine j_iload_n E 1061 rfl dL_law_1060 rfl (lv_at hl 3 rfl) ?_
  refine j_iconst E 1062 rfl dL_law_1061 ?_
  refine j_iadd E 1063 rfl dL_law_1062 ?_
  refine lw_ld E hX hbl hL hw (by omega) 1064 rfl dL_law_1063 ?_
  refine j_aload_n E 1065 rfl dL_law_1064 rfl (lv_at hl 0 rfl) ?_
  refine j_iload_n E 1066 rfl dL_law_1065 rfl (lv_at hl 3 rfl) ?_
  refine j_iconst E 1067 rfl dL_law_1066 ?_
  refine j_iadd E 1068 rfl dL_law_1067 ?_
  refine lw_ld E hX hbl hL hw (by omega) 1069 rfl dL_law_1068 ?_
  refine lw_C E (c_X9_suitOf l D cy T v x ((xs (i + 1).toNat).toInt) ((xs (i + 2).toNat).toInt) hw.2.1 (inR_toInt _) (inR_toInt _)) mt_X9_suitOf ml_L_113 hK hw rfl ⟨(Nat.le_of_ble_eq_true rfl), (Nat.le_of_ble_eq_true rfl)⟩ ⟨show cells ≤ 600000 by omega, show slots ≤ 7302250 by omega⟩ (As := [.int (J (xs (i + 1).toNat).toInt), .int (J (xs (i + 2).toNat).toInt)]) (rest := []) rfl rfl hl.1 (Nat.le_of_ble_eq_true rfl) 1072 rfl dL_law_1069 (fun z1_ v1_ H locs rz1_ hz1_ hw => ?_)
  obtain ⟨ev1_, hc1_⟩ := hz1_
  have ca186_ : v1_ 186 x = v 186 x := congrFun (congrFun ev1_ 186) x
  have ca187_ : v1_ 187 x = v 187 x := congrFun (congrFun ev1_ 187) x
  have ca190_ : v1_ 190 x = v 190 x := congrFun (congrFun ev1_ 190) x
  have ca191_ : v1_ 191 x = v 191 x := congrFun (congrFun ev1_ 191) x
  have cs180_ : v1_ 202 (T 180 x) = v 202 (T 180 x) := congrFun (congrFun ev1_ 202) (T 180 x)
  have cs181_ : v1_ 202 (T 181 x) = v 202 (T 181 x) := congrFun (congrFun ev1_ 202) (T 181 x)
  have cs182_ : v1_ 202 (T 182 x) = v 202 (T 182 x) := congrFun (congrFun ev1_ 202) (T 182 x)
  have cv40_ : v1_ 40 = v 40 := congrFun ev1_ 40
  have cv41_ : v1_ 41 = v 41 := congrFun ev1_ 41
  have cv42_ : v1_ 42 = v 42 := congrFun ev1_ 42
  have cv43_ : v1_ 43 = v 43 := congrFun ev1_ 43
  have cv44_ : v1_ 44 = v 44 := congrFun ev1_ 44
  have cv303_ : v1_ 303 = v 303 := congrFun ev1_ 303
  have cv25_ : v1_ 25 = v 25 := congrFun ev1_ 25
  have cv300_ : v1_ 300 = v 300 := congrFun ev1_ 300
  clear ev1_
  refine j_pop E 1073 rfl dL_law_1072 rfl ?_
  refine j_aload_n E 1074 rfl dL_law_1073 rfl (lv_at hl 2 rfl) ?_
  refine j_aload_n E 1075 rfl dL_law_1074 rfl (lv_at hl 0 rfl) ?_
  refine j_iload_n E 1076 rfl dL_law_1075 rfl (lv_at hl 3 rfl) ?_
  refine j_iconst E 1077 rfl dL_law_1076 ?_
  refine j_iadd E 1078 rfl dL_law_1077 ?_
  refine lw_ld E hX hbl hL hw (by omega) 1079 rfl dL_law_1078 ?_
  refine j_aload_n E 1080 rfl dL_law_1079 rfl (lv_at hl 0 rfl) ?_
  refine j_iload_n E 1081 rfl dL_law_1080 rfl (lv_at hl 3 rfl) ?_
  refine j_iconst E 1082 rfl dL_law_1081 ?_
  refine j_iadd E 1083 rfl dL_law_1082 ?_
  refine lw_ld E hX hbl hL hw (by omega) 1084 rfl dL_law_1083 ?_
  refine lw_M E (c_X10_suitOf l D cy q n f ((xs (i + 1).toNat).toInt) ((xs (i + 2).toNat).toInt) (inR_toInt _) (inR_toInt _) hw.2.2.2.2.2.1 ) mt_X10_suitOf ml_L_116 hK hw rfl hκ ⟨(Nat.le_of_ble_eq_true rfl), (Nat.le_of_ble_eq_true rfl)⟩ ⟨show cells ≤ 600000 by omega, show slots ≤ 7302250 by omega⟩ (As := [.int (J (xs (i + 1).toNat).toInt), .int (J (xs (i + 2).toNat).toInt)]) (rest := []) rfl rfl hl.1 (Nat.le_of_ble_eq_true rfl) 1087 rfl dL_law_1084 (fun z n2 f2 h => by obtain ⟨_, e1, e2, h, -⟩ := h; rw [e1, e2]; exact h) (fun z2_ n2_ f2_ H locs rz2_ hz2_ hw => ?_)
  obtain ⟨x0m2_, em2_, ef2_, -, hm2_⟩ := hz2_
  have mg3_ : f2_ 3 = f 3 := congrFun ef2_ 3
  have mg4_ : f2_ 4 = f 4 := congrFun ef2_ 4
  have mg5_ : f2_ 5 = f 5 := congrFun ef2_ 5
  have mg6_ : f2_ 6 = f 6 := congrFun ef2_ 6
  have mg7_ : f2_ 7 = f 7 := congrFun ef2_ 7
  have mg18_ : f2_ 18 = f 18 := congrFun ef2_ 18
  have mg22_ : f2_ 22 = f 22 := congrFun ef2_ 22
  have mg32_ : f2_ 32 = f 32 := congrFun ef2_ 32
  have mg33_ : f2_ 33 = f 33 := congrFun ef2_ 33
  have mg34_ : f2_ 34 = f 34 := congrFun ef2_ 34
  have mg35_ : f2_ 35 = f 35 := congrFun ef2_ 35
  have mg36_ : f2_ 36 = f 36 := congrFun ef2_ 36
  have mg67_ : f2_ 67 = f 67 := congrFun ef2_ 67
  have mn1_ : n2_ 1 = n 1 := congrFun em2_ 1
  have mn2_ : n2_ 2 = n 2 := congrFun em2_ 2
  have mn12_ : n2_ 12 = n 12 := congrFun em2_ 12
  have mn23_ : n2_ 23 = n 23 := congrFun em2_ 23
  have mn29_ : n2_ 29 = n 29 := congrFun em2_ 29
  have mn43_ : n2_ 43 = n 43 := congrFun em2_ 43
  have mn44_ : n2_ 44 = n 44 := congrFun em2_ 44
  clear em2_
  clear ef2_
  have hr2_n_ := R2_same hR2 (fun _ => rfl) cv40_ cv41_ cv42_ cv43_ cv44_ mn2_ mg3_ mg4_ mg5_ mg6_ mg7_
  have hra_n_ := RA_same hRA cs182_ ca190_ ca191_ rfl cv303_ mn29_ mn43_ mn44_ (by omega) mg22_
  have hrf_n_ : Fut_ (f2_ 18) (n2_ 1) (n2_ 12) := by rw [mg18_, mn1_, mn12_]; exact hRF
  have hrk_n_ := RBk_same hRK (fun _ => rfl) cv25_ mn12_ mg67_
  have hrs_n_ : RS T v1_ x n2_ f2_ := RS_same hSg_ (by rw [cv300_, cs182_]; exact hWd_) mn29_ mg32_ mg33_ mg34_ mg35_ mg36_
  clear hc1_
  refine j_pop E 1088 rfl dL_law_1087 rfl ?_
  refine j_goto E 1315 dL_law_1088 (by decide) ?_
  exact W.widen (by omega) (by omega) (next _ _ _ _ _ _ ls hw ⟨by omega, by omega, by omega, by omega⟩ hr2_n_ hra_n_ hrk_n_ hrs_n_ hrf_n_ hl)
set_option maxHeartbeats 4000000 in
set_option maxRecDepth 100000 in
theorem lc_23 {p : Program} {l : Launch} {e : Env} {s : State} {m : MethodId} {below : List Frame} {meth : Method} {c : Code} {H : Heap} {locs : List Loc} {cells slots : Nat} {QW : State → Prop} {ls : Array Slot} {D : va_G} {cy : Nat → ClassId} {κ T : Nat → Nat → Nat} {v : Nat → Nat → Int} {q : Nat → Nat} {n : Nat → Int} {f : Nat → Int → Int} {x b L : Nat} {xs : Nat → Int32} (E : CX p s m #[Value.ref b] meth c RL cL_law 4 ret) (hK : KK D cy s) (hZ : ZZ κ s s.heap) (hκ : κ 2 0 < s.heap.size) (hX : va_X b L xs s s.heap) (hbl : b < s.heap.size) (hL : L ≤ 4096) {i : Int} (hi : 0 ≤ i ∧ i + 8 ≤ (L : Int)) (hf : cells + 6 ≤ 600000 ∧ slots + 7000 ≤ 7302250) (hw : LW D cy κ x T v q n f s H locs) (hR : RB T v x n) (hR2 : R2 T v x n f) (hRA : RA T v x n f) (hRK : RBk T v x n f) (hRS : RS T v x n f) (hRF : Fut_ (f 18) (n 1) (n 12)) (hl : lv_has ls 4 [(0, .ref b), (1, .ref x), (2, .ref (q 0)), (3, .int (J i))])
    (next : ∀ (T : Nat → Nat → Nat) (v : Nat → Nat → Int) (n : Nat → Int) (f : Nat → Int → Int) (H : Heap) (locs : List Loc) (ls : Array Slot), LW D cy κ x T v q n f s H locs → RB T v x n → R2 T v x n f → RA T v x n f → RBk T v x n f → RS T v x n f → Fut_ (f 18) (n 1) (n 12) → lv_has ls 4 [(0, .ref b), (1, .ref x), (2, .ref (q 0)), (3, .int (J i))] → W p l e room_1 s m #[Value.ref b] below meth c H locs (cells + 6) (slots + 7000) QW (F0 m 1315 ls [])) : W p l e room_1 s m #[Value.ref b] below meth c H locs cells slots QW (F0 m 1091 ls []) := by
  obtain ⟨hr1_, hr2_, hr3_, hr4_⟩ := hR
  have hMI_ := hw.2.2.2.2.2.1
  have j1_ := hMI_.1
  have j2_ := hMI_.2.1
  have j3_ := hMI_.2.2.1
  have j4_ := hMI_.2.2.2.1
  have j5_ := hMI_.2.2.2.2.1
  have m_book := hMI_.2.2.2.2.2.2.2.2.2.2.1
  have m_cod := hMI_.2.2.2.2.2.2.2.2.2.2.2.2.2.1
  clear hMI_
  obtain ⟨S1_, S2_, S3_, hWd_, hSg_⟩ := hRS
  have hwC_ := hw.1
  have t9_ := hw.2.1
  have hnw_ : ∀ q_, H.size ≤ q_ → ∀ i_ : Nat, (i_ : Int) < v 202 (T 181 x) → ∀ y_ : Nat, ELn_ T 181 x i_ = y_ + 1 → y_ ≠ q_ := fun q_ hq_ => fr_of hwC_ (wt_181 hwC_.2.1 t9_) hq_
  have ra1_ := hRA.1
  have ra2_ := hRA.2.1
  have ra3_ := hRA.2.2.1
  refine j_aload_n E 1092 rfl dL_law_1091 rfl (lv_at hl 1 rfl) ?_
  refine j_aload_n E 1093 rfl dL_law_1092 rfl (lv_at hl 0 rfl) ?_
  refine j_iload_n E 1094 rfl dL_law_1093 rfl (lv_at hl 3 rfl) ?_
  refine j_iconst E 1095 rfl dL_law_1094 ?_
  refine j_iadd E 1096 rfl dL_law_1095 ?_
  refine lw_ld E hX hbl hL hw (by omega) 1097 rfl dL_law_1096 ?_
  refine lw_C E (c_X9_pay l D cy T v x ((xs (i + 1).toNat).toInt) hw.2.1 (inR_toInt _)) mt_X9_pay ml_L_117 hK hw rfl ⟨(Nat.le_of_ble_eq_true rfl), (Nat.le_of_ble_eq_true rfl)⟩ ⟨show cells ≤ 600000 by omega, show slots ≤ 7302250 by omega⟩ (As := [.int (J (xs (i + 1).toNat).toInt)]) (rest := []) rfl rfl hl.1 (Nat.le_of_ble_eq_true rfl) 1100 rfl dL_law_1097 (fun z1_ v1_ H locs rz1_ hz1_ hw => ?_)
  obtain ⟨y146_1, ev1_, hc1_⟩ := hz1_
  have ca186_ : v1_ 186 x = v 186 x := congrFun (congrFun ev1_ 186) x
  have ca187_ : v1_ 187 x = v 187 x := congrFun (congrFun ev1_ 187) x
  have ca190_ : v1_ 190 x = v 190 x := congrFun (congrFun ev1_ 190) x
  have ca191_ : v1_ 191 x = v 191 x := congrFun (congrFun ev1_ 191) x
  have cs180_ : v1_ 202 (T 180 x) = v 202 (T 180 x) := congrFun (congrFun ev1_ 202) (T 180 x)
  have cs181_ : v1_ 202 (T 181 x) = v 202 (T 181 x) := congrFun (congrFun ev1_ 202) (T 181 x)
  have cs182_ : v1_ 202 (T 182 x) = v 202 (T 182 x) := congrFun (congrFun ev1_ 202) (T 182 x)
  have cv40_ : v1_ 40 = v 40 := congrFun ev1_ 40
  have cv41_ : v1_ 41 = v 41 := congrFun ev1_ 41
  have cv42_ : v1_ 42 = v 42 := congrFun ev1_ 42
  have cv43_ : v1_ 43 = v 43 := congrFun ev1_ 43
  have cv44_ : v1_ 44 = v 44 := congrFun ev1_ 44
  have cv303_ : v1_ 303 = v 303 := congrFun ev1_ 303
  have cv25_ : v1_ 25 = v 25 := congrFun ev1_ 25
  have cv300_ : v1_ 300 = v 300 := congrFun ev1_ 300
  clear ev1_
  refine j_pop E 1101 rfl dL_law_1100 rfl ?_
  refine j_aload_n E 1102 rfl dL_law_1101 rfl (lv_at hl 2 rfl) ?_
  refine j_aload_n E 1103 rfl dL_law_1102 rfl (lv_at hl 0 rfl) ?_
  refine j_iload_n E 1104 rfl dL_law_1103 rfl (lv_at hl 3 rfl) ?_
  refine j_iconst E 1105 rfl dL_law_1104 ?_
  refine j_iadd E 1106 rfl dL_law_1105 ?_
  refine lw_ld E hX hbl hL hw (by omega) 1107 rfl dL_law_1106 ?_
  refine lw_M E (c_X10_pay l D cy q n f ((xs (i + 1).toNat).toInt) (inR_toInt _) hw.2.2.2.2.2.1 ) mt_X10_pay ml_L_120 hK hw rfl hκ ⟨(Nat.le_of_ble_eq_true rfl), (Nat.le_of_ble_eq_true rfl)⟩ ⟨show cells ≤ 600000 by omega, show slots ≤ 7302250 by omega⟩ (As := [.int (J (xs (i + 1).toNat).toInt)]) (rest := []) rfl rfl hl.1 (Nat.le_of_ble_eq_true rfl) 1110 rfl dL_law_1107 (fun z n2 f2 h => by obtain ⟨_, _, e1, e2, h, -⟩ := h; rw [e1, e2]; exact h) (fun z2_ n2_ f2_ H locs rz2_ hz2_ hw => ?_)
  obtain ⟨x0m2_, y54m2_, em2_, ef2_, -, hm2_⟩ := hz2_
  have mg3_ : f2_ 3 = f 3 := congrFun ef2_ 3
  have mg4_ : f2_ 4 = f 4 := congrFun ef2_ 4
  have mg5_ : f2_ 5 = f 5 := congrFun ef2_ 5
  have mg6_ : f2_ 6 = f 6 := congrFun ef2_ 6
  have mg7_ : f2_ 7 = f 7 := congrFun ef2_ 7
  have mg18_ : f2_ 18 = f 18 := congrFun ef2_ 18
  have mg22_ : f2_ 22 = f 22 := congrFun ef2_ 22
  have mg32_ : f2_ 32 = f 32 := congrFun ef2_ 32
  have mg33_ : f2_ 33 = f 33 := congrFun ef2_ 33
  have mg34_ : f2_ 34 = f 34 := congrFun ef2_ 34
  have mg35_ : f2_ 35 = f 35 := congrFun ef2_ 35
  have mg36_ : f2_ 36 = f 36 := congrFun ef2_ 36
  have mg67_ : f2_ 67 = f 67 := congrFun ef2_ 67
  have mn1_ : n2_ 1 = n 1 := congrFun em2_ 1
  have mn2_ : n2_ 2 = n 2 := congrFun em2_ 2
  have mn12_ : n2_ 12 = n 12 := congrFun em2_ 12
  have mn23_ : n2_ 23 = n 23 := congrFun em2_ 23
  have mn29_ : n2_ 29 = n 29 := congrFun em2_ 29
  have mn43_ : n2_ 43 = n 43 := congrFun em2_ 43
  have mn44_ : n2_ 44 = n 44 := congrFun em2_ 44
  clear em2_
  clear ef2_
  have hr2_n_ := R2_same hR2 (fun _ => rfl) cv40_ cv41_ cv42_ cv43_ cv44_ mn2_ mg3_ mg4_ mg5_ mg6_ mg7_
  have hra_n_ := RA_same hRA cs182_ ca190_ ca191_ rfl cv303_ mn29_ mn43_ mn44_ (by omega) mg22_
  have hrf_n_ : Fut_ (f2_ 18) (n2_ 1) (n2_ 12) := by rw [mg18_, mn1_, mn12_]; exact hRF
  have hrk_n_ := RBk_same hRK (fun _ => rfl) cv25_ mn12_ mg67_
  have hrs_n_ : RS T v1_ x n2_ f2_ := RS_same hSg_ (by rw [cv300_, cs182_]; exact hWd_) mn29_ mg32_ mg33_ mg34_ mg35_ mg36_
  clear hc1_
  refine j_pop E 1111 rfl dL_law_1110 rfl ?_
  refine j_goto E 1315 dL_law_1111 (by decide) ?_
  exact W.widen (by omega) (by omega) (next _ _ _ _ _ _ ls hw ⟨by omega, by omega, by omega, by omega⟩ hr2_n_ hra_n_ hrk_n_ hrs_n_ hrf_n_ hl)
set_option maxHeartbeats 4000000 in
set_option maxRecDepth 100000 in
theorem lc_24 {p : Program} {l : Launch} {e : Env} {s : State} {m : MethodId} {below : List Frame} {meth : Method} {c : Code} {H : Heap} {locs : List Loc} {cells slots : Nat} {QW : State → Prop} {ls : Array Slot} {D : va_G} {cy : Nat → ClassId} {κ T : Nat → Nat → Nat} {v : Nat → Nat → Int} {q : Nat → Nat} {n : Nat → Int} {f : Nat → Int → Int} {x b L : Nat} {xs : Nat → Int32} (E : CX p s m #[Value.ref b] meth c RL cL_law 4 ret) (hK : KK D cy s) (hZ : ZZ κ s s.heap) (hκ : κ 2 0 < s.heap.size) (hX : va_X b L xs s s.heap) (hbl : b < s.heap.size) (hL : L ≤ 4096) {i : Int} (hi : 0 ≤ i ∧ i + 8 ≤ (L : Int)) (hf : cells + 6 ≤ 600000 ∧ slots + 7000 ≤ 7302250) (hw : LW D cy κ x T v q n f s H locs) (hR : RB T v x n) (hR2 : R2 T v x n f) (hRA : RA T v x n f) (hRK : RBk T v x n f) (hRS : RS T v x n f) (hRF : Fut_ (f 18) (n 1) (n 12)) (hl : lv_has ls 4 [(0, .ref b), (1, .ref x), (2, .ref (q 0)), (3, .int (J i))])
    (next : ∀ (T : Nat → Nat → Nat) (v : Nat → Nat → Int) (n : Nat → Int) (f : Nat → Int → Int) (H : Heap) (locs : List Loc) (ls : Array Slot), LW D cy κ x T v q n f s H locs → RB T v x n → R2 T v x n f → RA T v x n f → RBk T v x n f → RS T v x n f → Fut_ (f 18) (n 1) (n 12) → lv_has ls 4 [(0, .ref b), (1, .ref x), (2, .ref (q 0)), (3, .int (J i))] → W p l e room_1 s m #[Value.ref b] below meth c H locs (cells + 6) (slots + 7000) QW (F0 m 1315 ls [])) : W p l e room_1 s m #[Value.ref b] below meth c H locs cells slots QW (F0 m 1114 ls []) := by
  obtain ⟨hr1_, hr2_, hr3_, hr4_⟩ := hR
  have hMI_ := hw.2.2.2.2.2.1
  have j1_ := hMI_.1
  have j2_ := hMI_.2.1
  have j3_ := hMI_.2.2.1
  have j4_ := hMI_.2.2.2.1
  have j5_ := hMI_.2.2.2.2.1
  have m_book := hMI_.2.2.2.2.2.2.2.2.2.2.1
  have m_cod := hMI_.2.2.2.2.2.2.2.2.2.2.2.2.2.1
  clear hMI_
  obtain ⟨S1_, S2_, S3_, hWd_, hSg_⟩ := hRS
  have hwC_ := hw.1
  have t9_ := hw.2.1
  have hnw_ : ∀ q_, H.size ≤ q_ → ∀ i_ : Nat, (i_ : Int) < v 202 (T 181 x) → ∀ y_ : Nat, ELn_ T 181 x i_ = y_ + 1 → y_ ≠ q_ := fun q_ hq_ => fr_of hwC_ (wt_181 hwC_.2.1 t9_) hq_
  have ra1_ := hRA.1
  have ra2_ := hRA.2.1
  have ra3_ := hRA.2.2.1
  refine j_aload_n E 1115 rfl dL_law_1114 rfl (lv_at hl 1 rfl) ?_
  refine j_aload_n E 1116 rfl dL_law_1115 rfl (lv_at hl 0 rfl) ?_
  refine j_iload_n E 1117 rfl dL_law_1116 rfl (lv_at hl 3 rfl) ?_
  refine j_iconst E 1118 rfl dL_law_1117 ?_
  refine j_iadd E 1119 rfl dL_law_1118 ?_
  refine lw_ld E hX hbl hL hw (by omega) 1120 rfl dL_law_1119 ?_
  refine j_aload_n E 1121 rfl dL_law_1120 rfl (lv_at hl 0 rfl) ?_
  refine j_iload_n E 1122 rfl dL_law_1121 rfl (lv_at hl 3 rfl) ?_
  refine j_iconst E 1123 rfl dL_law_1122 ?_
  refine j_iadd E 1124 rfl dL_law_1123 ?_
  refine lw_ld E hX hbl hL hw (by omega) 1125 rfl dL_law_1124 ?_
  refine lw_C E (c_X9_far l D cy T v x ((xs (i + 1).toNat).toInt) ((xs (i + 2).toNat).toInt) hw.2.1 (inR_toInt _) (inR_toInt _)) mt_X9_far ml_L_121 hK hw rfl ⟨(Nat.le_of_ble_eq_true rfl), (Nat.le_of_ble_eq_true rfl)⟩ ⟨show cells ≤ 600000 by omega, show slots ≤ 7302250 by omega⟩ (As := [.int (J (xs (i + 1).toNat).toInt), .int (J (xs (i + 2).toNat).toInt)]) (rest := []) rfl rfl hl.1 (Nat.le_of_ble_eq_true rfl) 1128 rfl dL_law_1125 (fun z1_ v1_ H locs rz1_ hz1_ hw => ?_)
  obtain ⟨y300_1, ev1_, hc1_, hKd_⟩ := hz1_
  have ca186_ : v1_ 186 x = v 186 x := congrFun (congrFun ev1_ 186) x
  have ca187_ : v1_ 187 x = v 187 x := congrFun (congrFun ev1_ 187) x
  have ca190_ : v1_ 190 x = v 190 x := congrFun (congrFun ev1_ 190) x
  have ca191_ : v1_ 191 x = v 191 x := congrFun (congrFun ev1_ 191) x
  have cs180_ : v1_ 202 (T 180 x) = v 202 (T 180 x) := congrFun (congrFun ev1_ 202) (T 180 x)
  have cs181_ : v1_ 202 (T 181 x) = v 202 (T 181 x) := congrFun (congrFun ev1_ 202) (T 181 x)
  have cs182_ : v1_ 202 (T 182 x) = v 202 (T 182 x) := congrFun (congrFun ev1_ 202) (T 182 x)
  have cv40_ : v1_ 40 = v 40 := congrFun ev1_ 40
  have cv41_ : v1_ 41 = v 41 := congrFun ev1_ 41
  have cv42_ : v1_ 42 = v 42 := congrFun ev1_ 42
  have cv43_ : v1_ 43 = v 43 := congrFun ev1_ 43
  have cv44_ : v1_ 44 = v 44 := congrFun ev1_ 44
  have cv303_ : v1_ 303 = v 303 := congrFun ev1_ 303
  have cv25_ : v1_ 25 = v 25 := congrFun ev1_ 25
  have cv300_ : v1_ 300 = y300_1 := congrFun ev1_ 300
  clear ev1_
  refine j_pop E 1129 rfl dL_law_1128 rfl ?_
  refine j_aload_n E 1130 rfl dL_law_1129 rfl (lv_at hl 2 rfl) ?_
  refine j_aload_n E 1131 rfl dL_law_1130 rfl (lv_at hl 0 rfl) ?_
  refine j_iload_n E 1132 rfl dL_law_1131 rfl (lv_at hl 3 rfl) ?_
  refine j_iconst E 1133 rfl dL_law_1132 ?_
  refine j_iadd E 1134 rfl dL_law_1133 ?_
  refine lw_ld E hX hbl hL hw (by omega) 1135 rfl dL_law_1134 ?_
  refine j_aload_n E 1136 rfl dL_law_1135 rfl (lv_at hl 0 rfl) ?_
  refine j_iload_n E 1137 rfl dL_law_1136 rfl (lv_at hl 3 rfl) ?_
  refine j_iconst E 1138 rfl dL_law_1137 ?_
  refine j_iadd E 1139 rfl dL_law_1138 ?_
  refine lw_ld E hX hbl hL hw (by omega) 1140 rfl dL_law_1139 ?_
  refine lw_M E (c_X10_far l D cy q n f ((xs (i + 1).toNat).toInt) ((xs (i + 2).toNat).toInt) (inR_toInt _) (inR_toInt _) hw.2.2.2.2.2.1 ) mt_X10_far ml_L_124 hK hw rfl hκ ⟨(Nat.le_of_ble_eq_true rfl), (Nat.le_of_ble_eq_true rfl)⟩ ⟨show cells ≤ 600000 by omega, show slots ≤ 7302250 by omega⟩ (As := [.int (J (xs (i + 1).toNat).toInt), .int (J (xs (i + 2).toNat).toInt)]) (rest := []) rfl rfl hl.1 (Nat.le_of_ble_eq_true rfl) 1143 rfl dL_law_1140 (fun z n2 f2 h => by obtain ⟨_, _, _, _, e1, e2, h, -⟩ := h; rw [e1, e2]; exact h) (fun z2_ n2_ f2_ H locs rz2_ hz2_ hw => ?_)
  obtain ⟨x0m2_, y61m2_, y59m2_, y60m2_, em2_, ef2_, -, hm2_⟩ := hz2_
  have mg3_ : f2_ 3 = f 3 := congrFun ef2_ 3
  have mg4_ : f2_ 4 = f 4 := congrFun ef2_ 4
  have mg5_ : f2_ 5 = f 5 := congrFun ef2_ 5
  have mg6_ : f2_ 6 = f 6 := congrFun ef2_ 6
  have mg7_ : f2_ 7 = f 7 := congrFun ef2_ 7
  have mg18_ : f2_ 18 = f 18 := congrFun ef2_ 18
  have mg22_ : f2_ 22 = f 22 := congrFun ef2_ 22
  have mg32_ : f2_ 32 = f 32 := congrFun ef2_ 32
  have mg33_ : f2_ 33 = f 33 := congrFun ef2_ 33
  have mg34_ : f2_ 34 = f 34 := congrFun ef2_ 34
  have mg35_ : f2_ 35 = f 35 := congrFun ef2_ 35
  have mg36_ : f2_ 36 = f 36 := congrFun ef2_ 36
  have mg67_ : f2_ 67 = f 67 := congrFun ef2_ 67
  have mn1_ : n2_ 1 = n 1 := congrFun em2_ 1
  have mn2_ : n2_ 2 = n 2 := congrFun em2_ 2
  have mn12_ : n2_ 12 = n 12 := congrFun em2_ 12
  have mn23_ : n2_ 23 = n 23 := congrFun em2_ 23
  have mn29_ : n2_ 29 = n 29 := congrFun em2_ 29
  have mn43_ : n2_ 43 = n 43 := congrFun em2_ 43
  have mn44_ : n2_ 44 = n 44 := congrFun em2_ 44
  clear em2_
  clear ef2_
  have hr2_n_ := R2_same hR2 (fun _ => rfl) cv40_ cv41_ cv42_ cv43_ cv44_ mn2_ mg3_ mg4_ mg5_ mg6_ mg7_
  have hra_n_ := RA_same hRA cs182_ ca190_ ca191_ rfl cv303_ mn29_ mn43_ mn44_ (by omega) mg22_
  have hrf_n_ : Fut_ (f2_ 18) (n2_ 1) (n2_ 12) := by rw [mg18_, mn1_, mn12_]; exact hRF
  have hrk_n_ := RBk_same hRK (fun _ => rfl) cv25_ mn12_ mg67_
  have hrs_n_ : RS T v1_ x n2_ f2_ := RS_same hSg_ (by rw [cv300_]; exact wd_kd hwC_ t9_ hKd_ (by decide) cs182_ hWd_) mn29_ mg32_ mg33_ mg34_ mg35_ mg36_
  clear hc1_
  refine j_pop E 1144 rfl dL_law_1143 rfl ?_
  refine j_goto E 1315 dL_law_1144 (by decide) ?_
  exact W.widen (by omega) (by omega) (next _ _ _ _ _ _ ls hw ⟨by omega, by omega, by omega, by omega⟩ hr2_n_ hra_n_ hrk_n_ hrs_n_ hrf_n_ hl)
set_option maxHeartbeats 4000000 in
set_option maxRecDepth 100000 in
theorem lc_25 {p : Program} {l : Launch} {e : Env} {s : State} {m : MethodId} {below : List Frame} {meth : Method} {c : Code} {H : Heap} {locs : List Loc} {cells slots : Nat} {QW : State → Prop} {ls : Array Slot} {D : va_G} {cy : Nat → ClassId} {κ T : Nat → Nat → Nat} {v : Nat → Nat → Int} {q : Nat → Nat} {n : Nat → Int} {f : Nat → Int → Int} {x b L : Nat} {xs : Nat → Int32} (E : CX p s m #[Value.ref b] meth c RL cL_law 4 ret) (hK : KK D cy s) (hZ : ZZ κ s s.heap) (hκ : κ 2 0 < s.heap.size) (hX : va_X b L xs s s.heap) (hbl : b < s.heap.size) (hL : L ≤ 4096) {i : Int} (hi : 0 ≤ i ∧ i + 8 ≤ (L : Int)) (hf : cells + 6 ≤ 600000 ∧ slots + 7000 ≤ 7302250) (hw : LW D cy κ x T v q n f s H locs) (hR : RB T v x n) (hR2 : R2 T v x n f) (hRA : RA T v x n f) (hRK : RBk T v x n f) (hRS : RS T v x n f) (hRF : Fut_ (f 18) (n 1) (n 12)) (hl : lv_has ls 4 [(0, .ref b), (1, .ref x), (2, .ref (q 0)), (3, .int (J i))])
    (next : ∀ (T : Nat → Nat → Nat) (v : Nat → Nat → Int) (n : Nat → Int) (f : Nat → Int → Int) (H : Heap) (locs : List Loc) (ls : Array Slot), LW D cy κ x T v q n f s H locs → RB T v x n → R2 T v x n f → RA T v x n f → RBk T v x n f → RS T v x n f → Fut_ (f 18) (n 1) (n 12) → lv_has ls 4 [(0, .ref b), (1, .ref x), (2, .ref (q 0)), (3, .int (J i))] → W p l e room_1 s m #[Value.ref b] below meth c H locs (cells + 6) (slots + 7000) QW (F0 m 1315 ls [])) : W p l e room_1 s m #[Value.ref b] below meth c H locs cells slots QW (F0 m 1147 ls []) := by
  obtain ⟨hr1_, hr2_, hr3_, hr4_⟩ := hR
  have hMI_ := hw.2.2.2.2.2.1
  have j1_ := hMI_.1
  have j2_ := hMI_.2.1
  have j3_ := hMI_.2.2.1
  have j4_ := hMI_.2.2.2.1
  have j5_ := hMI_.2.2.2.2.1
  have m_book := hMI_.2.2.2.2.2.2.2.2.2.2.1
  have m_cod := hMI_.2.2.2.2.2.2.2.2.2.2.2.2.2.1
  clear hMI_
  obtain ⟨S1_, S2_, S3_, hWd_, hSg_⟩ := hRS
  have hwC_ := hw.1
  have t9_ := hw.2.1
  have hnw_ : ∀ q_, H.size ≤ q_ → ∀ i_ : Nat, (i_ : Int) < v 202 (T 181 x) → ∀ y_ : Nat, ELn_ T 181 x i_ = y_ + 1 → y_ ≠ q_ := fun q_ hq_ => fr_of hwC_ (wt_181 hwC_.2.1 t9_) hq_
  have ra1_ := hRA.1
  have ra2_ := hRA.2.1
  have ra3_ := hRA.2.2.1
  refine j_aload_n E 1148 rfl dL_law_1147 rfl (lv_at hl 1 rfl) ?_
  refine j_aload_n E 1149 rfl dL_law_1148 rfl (lv_at hl 0 rfl) ?_
  refine j_iload_n E 1150 rfl dL_law_1149 rfl (lv_at hl 3 rfl) ?_
  refine j_iconst E 1151 rfl dL_law_1150 ?_
  refine j_iadd E 1152 rfl dL_law_1151 ?_
  refine lw_ld E hX hbl hL hw (by omega) 1153 rfl dL_law_1152 ?_
  refine j_aload_n E 1154 rfl dL_law_1153 rfl (lv_at hl 0 rfl) ?_
  refine j_iload_n E 1155 rfl dL_law_1154 rfl (lv_at hl 3 rfl) ?_
  refine j_iconst E 1156 rfl dL_law_1155 ?_
  refine j_iadd E 1157 rfl dL_law_1156 ?_
  refine lw_ld E hX hbl hL hw (by omega) 1158 rfl dL_law_1157 ?_
  refine lw_C E (c_X9_tree l D cy T v x ((xs (i + 1).toNat).toInt) ((xs (i + 2).toNat).toInt) hw.2.1 (inR_toInt _) (inR_toInt _)) mt_X9_tree ml_L_125 hK hw rfl ⟨(Nat.le_of_ble_eq_true rfl), (Nat.le_of_ble_eq_true rfl)⟩ ⟨show cells ≤ 600000 by omega, show slots ≤ 7302250 by omega⟩ (As := [.int (J (xs (i + 1).toNat).toInt), .int (J (xs (i + 2).toNat).toInt)]) (rest := []) rfl rfl hl.1 (Nat.le_of_ble_eq_true rfl) 1161 rfl dL_law_1158 (fun z1_ v1_ H locs rz1_ hz1_ hw => ?_)
  obtain ⟨y300_1, ev1_, hc1_, hKd_⟩ := hz1_
  have ca186_ : v1_ 186 x = v 186 x := congrFun (congrFun ev1_ 186) x
  have ca187_ : v1_ 187 x = v 187 x := congrFun (congrFun ev1_ 187) x
  have ca190_ : v1_ 190 x = v 190 x := congrFun (congrFun ev1_ 190) x
  have ca191_ : v1_ 191 x = v 191 x := congrFun (congrFun ev1_ 191) x
  have cs180_ : v1_ 202 (T 180 x) = v 202 (T 180 x) := congrFun (congrFun ev1_ 202) (T 180 x)
  have cs181_ : v1_ 202 (T 181 x) = v 202 (T 181 x) := congrFun (congrFun ev1_ 202) (T 181 x)
  have cs182_ : v1_ 202 (T 182 x) = v 202 (T 182 x) := congrFun (congrFun ev1_ 202) (T 182 x)
  have cv40_ : v1_ 40 = v 40 := congrFun ev1_ 40
  have cv41_ : v1_ 41 = v 41 := congrFun ev1_ 41
  have cv42_ : v1_ 42 = v 42 := congrFun ev1_ 42
  have cv43_ : v1_ 43 = v 43 := congrFun ev1_ 43
  have cv44_ : v1_ 44 = v 44 := congrFun ev1_ 44
  have cv303_ : v1_ 303 = v 303 := congrFun ev1_ 303
  have cv25_ : v1_ 25 = v 25 := congrFun ev1_ 25
  have cv300_ : v1_ 300 = y300_1 := congrFun ev1_ 300
  clear ev1_
  refine j_pop E 1162 rfl dL_law_1161 rfl ?_
  refine j_aload_n E 1163 rfl dL_law_1162 rfl (lv_at hl 2 rfl) ?_
  refine j_aload_n E 1164 rfl dL_law_1163 rfl (lv_at hl 0 rfl) ?_
  refine j_iload_n E 1165 rfl dL_law_1164 rfl (lv_at hl 3 rfl) ?_
  refine j_iconst E 1166 rfl dL_law_1165 ?_
  refine j_iadd E 1167 rfl dL_law_1166 ?_
  refine lw_ld E hX hbl hL hw (by omega) 1168 rfl dL_law_1167 ?_
  refine j_aload_n E 1169 rfl dL_law_1168 rfl (lv_at hl 0 rfl) ?_
  refine j_iload_n E 1170 rfl dL_law_1169 rfl (lv_at hl 3 rfl) ?_
  refine j_iconst E 1171 rfl dL_law_1170 ?_
  refine j_iadd E 1172 rfl dL_law_1171 ?_
  refine lw_ld E hX hbl hL hw (by omega) 1173 rfl dL_law_1172 ?_
  refine lw_M E (c_X10_tree l D cy q n f ((xs (i + 1).toNat).toInt) ((xs (i + 2).toNat).toInt) (inR_toInt _) (inR_toInt _) hw.2.2.2.2.2.1 ) mt_X10_tree ml_L_128 hK hw rfl hκ ⟨(Nat.le_of_ble_eq_true rfl), (Nat.le_of_ble_eq_true rfl)⟩ ⟨show cells ≤ 600000 by omega, show slots ≤ 7302250 by omega⟩ (As := [.int (J (xs (i + 1).toNat).toInt), .int (J (xs (i + 2).toNat).toInt)]) (rest := []) rfl rfl hl.1 (Nat.le_of_ble_eq_true rfl) 1176 rfl dL_law_1173 (fun z n2 f2 h => by obtain ⟨_, _, _, _, _, _, e1, e2, h, -⟩ := h; rw [e1, e2]; exact h) (fun z2_ n2_ f2_ H locs rz2_ hz2_ hw => ?_)
  obtain ⟨x0m2_, y62m2_, y63m2_, y61m2_, y59m2_, y60m2_, em2_, ef2_, -, hm2_⟩ := hz2_
  have mg3_ : f2_ 3 = f 3 := congrFun ef2_ 3
  have mg4_ : f2_ 4 = f 4 := congrFun ef2_ 4
  have mg5_ : f2_ 5 = f 5 := congrFun ef2_ 5
  have mg6_ : f2_ 6 = f 6 := congrFun ef2_ 6
  have mg7_ : f2_ 7 = f 7 := congrFun ef2_ 7
  have mg18_ : f2_ 18 = f 18 := congrFun ef2_ 18
  have mg22_ : f2_ 22 = f 22 := congrFun ef2_ 22
  have mg32_ : f2_ 32 = f 32 := congrFun ef2_ 32
  have mg33_ : f2_ 33 = f 33 := congrFun ef2_ 33
  have mg34_ : f2_ 34 = f 34 := congrFun ef2_ 34
  have mg35_ : f2_ 35 = f 35 := congrFun ef2_ 35
  have mg36_ : f2_ 36 = f 36 := congrFun ef2_ 36
  have mg67_ : f2_ 67 = f 67 := congrFun ef2_ 67
  have mn1_ : n2_ 1 = n 1 := congrFun em2_ 1
  have mn2_ : n2_ 2 = n 2 := congrFun em2_ 2
  have mn12_ : n2_ 12 = n 12 := congrFun em2_ 12
  have mn23_ : n2_ 23 = n 23 := congrFun em2_ 23
  have mn29_ : n2_ 29 = n 29 := congrFun em2_ 29
  have mn43_ : n2_ 43 = n 43 := congrFun em2_ 43
  have mn44_ : n2_ 44 = n 44 := congrFun em2_ 44
  clear em2_
  clear ef2_
  have hr2_n_ := R2_same hR2 (fun _ => rfl) cv40_ cv41_ cv42_ cv43_ cv44_ mn2_ mg3_ mg4_ mg5_ mg6_ mg7_
  have hra_n_ := RA_same hRA cs182_ ca190_ ca191_ rfl cv303_ mn29_ mn43_ mn44_ (by omega) mg22_
  have hrf_n_ : Fut_ (f2_ 18) (n2_ 1) (n2_ 12) := by rw [mg18_, mn1_, mn12_]; exact hRF
  have hrk_n_ := RBk_same hRK (fun _ => rfl) cv25_ mn12_ mg67_
  have hrs_n_ : RS T v1_ x n2_ f2_ := RS_same hSg_ (by rw [cv300_]; exact wd_kd hwC_ t9_ hKd_ (by decide) cs182_ hWd_) mn29_ mg32_ mg33_ mg34_ mg35_ mg36_
  clear hc1_
  refine j_pop E 1177 rfl dL_law_1176 rfl ?_
  refine j_goto E 1315 dL_law_1177 (by decide) ?_
  exact W.widen (by omega) (by omega) (next _ _ _ _ _ _ ls hw ⟨by omega, by omega, by omega, by omega⟩ hr2_n_ hra_n_ hrk_n_ hrs_n_ hrf_n_ hl)
set_option maxHeartbeats 4000000 in
set_option maxRecDepth 100000 in
theorem lc_26 {p : Program} {l : Launch} {e : Env} {s : State} {m : MethodId} {below : List Frame} {meth : Method} {c : Code} {H : Heap} {locs : List Loc} {cells slots : Nat} {QW : State → Prop} {ls : Array Slot} {D : va_G} {cy : Nat → ClassId} {κ T : Nat → Nat → Nat} {v : Nat → Nat → Int} {q : Nat → Nat} {n : Nat → Int} {f : Nat → Int → Int} {x b L : Nat} {xs : Nat → Int32} (E : CX p s m #[Value.ref b] meth c RL cL_law 4 ret) (hK : KK D cy s) (hZ : ZZ κ s s.heap) (hκ : κ 2 0 < s.heap.size) (hX : va_X b L xs s s.heap) (hbl : b < s.heap.size) (hL : L ≤ 4096) {i : Int} (hi : 0 ≤ i ∧ i + 8 ≤ (L : Int)) (hf : cells + 6 ≤ 600000 ∧ slots + 7000 ≤ 7302250) (hw : LW D cy κ x T v q n f s H locs) (hR : RB T v x n) (hR2 : R2 T v x n f) (hRA : RA T v x n f) (hRK : RBk T v x n f) (hRS : RS T v x n f) (hRF : Fut_ (f 18) (n 1) (n 12)) (hl : lv_has ls 4 [(0, .ref b), (1, .ref x), (2, .ref (q 0)), (3, .int (J i))])
    (next : ∀ (T : Nat → Nat → Nat) (v : Nat → Nat → Int) (n : Nat → Int) (f : Nat → Int → Int) (H : Heap) (locs : List Loc) (ls : Array Slot), LW D cy κ x T v q n f s H locs → RB T v x n → R2 T v x n f → RA T v x n f → RBk T v x n f → RS T v x n f → Fut_ (f 18) (n 1) (n 12) → lv_has ls 4 [(0, .ref b), (1, .ref x), (2, .ref (q 0)), (3, .int (J i))] → W p l e room_1 s m #[Value.ref b] below meth c H locs (cells + 6) (slots + 7000) QW (F0 m 1315 ls [])) : W p l e room_1 s m #[Value.ref b] below meth c H locs cells slots QW (F0 m 1180 ls []) := by
  obtain ⟨hr1_, hr2_, hr3_, hr4_⟩ := hR
  have hMI_ := hw.2.2.2.2.2.1
  have j1_ := hMI_.1
  have j2_ := hMI_.2.1
  have j3_ := hMI_.2.2.1
  have j4_ := hMI_.2.2.2.1
  have j5_ := hMI_.2.2.2.2.1
  have m_book := hMI_.2.2.2.2.2.2.2.2.2.2.1
  have m_cod := hMI_.2.2.2.2.2.2.2.2.2.2.2.2.2.1
  clear hMI_
  obtain ⟨S1_, S2_, S3_, hWd_, hSg_⟩ := hRS
  have hwC_ := hw.1
  have t9_ := hw.2.1
  have hnw_ : ∀ q_, H.size ≤ q_ → ∀ i_ : Nat, (i_ : Int) < v 202 (T 181 x) → ∀ y_ : Nat, ELn_ T 181 x i_ = y_ + 1 → y_ ≠ q_ := fun q_ hq_ => fr_of hwC_ (wt_181 hwC_.2.1 t9_) hq_
  have ra1_ := hRA.1
  have ra2_ := hRA.2.1
  have ra3_ := hRA.2.2.1
  refine j_aload_n E 1181 rfl dL_law_1180 rfl (lv_at hl 1 rfl) ?_
  refine j_aload_n E 1182 rfl dL_law_1181 rfl (lv_at hl 0 rfl) ?_
  refine j_iload_n E 1183 rfl dL_law_1182 rfl (lv_at hl 3 rfl) ?_
  refine j_iconst E 1184 rfl dL_law_1183 ?_
  refine j_iadd E 1185 rfl dL_law_1184 ?_
  refine lw_ld E hX hbl hL hw (by omega) 1186 rfl dL_law_1185 ?_
  refine lw_C E (c_X9_loss l D cy T v x ((xs (i + 1).toNat).toInt) hw.2.1 (inR_toInt _)) mt_X9_loss ml_L_129 hK hw rfl ⟨(Nat.le_of_ble_eq_true rfl), (Nat.le_of_ble_eq_true rfl)⟩ ⟨show cells ≤ 600000 by omega, show slots ≤ 7302250 by omega⟩ (As := [.int (J (xs (i + 1).toNat).toInt)]) (rest := []) rfl rfl hl.1 (Nat.le_of_ble_eq_true rfl) 1189 rfl dL_law_1186 (fun z1_ v1_ H locs rz1_ hz1_ hw => ?_)
  obtain ⟨ev1_, hc1_⟩ := hz1_
  have ca186_ : v1_ 186 x = v 186 x := congrFun (congrFun ev1_ 186) x
  have ca187_ : v1_ 187 x = v 187 x := congrFun (congrFun ev1_ 187) x
  have ca190_ : v1_ 190 x = v 190 x := congrFun (congrFun ev1_ 190) x
  have ca191_ : v1_ 191 x = v 191 x := congrFun (congrFun ev1_ 191) x
  have cs180_ : v1_ 202 (T 180 x) = v 202 (T 180 x) := congrFun (congrFun ev1_ 202) (T 180 x)
  have cs181_ : v1_ 202 (T 181 x) = v 202 (T 181 x) := congrFun (congrFun ev1_ 202) (T 181 x)
  have cs182_ : v1_ 202 (T 182 x) = v 202 (T 182 x) := congrFun (congrFun ev1_ 202) (T 182 x)
  have cv40_ : v1_ 40 = v 40 := congrFun ev1_ 40
  have cv41_ : v1_ 41 = v 41 := congrFun ev1_ 41
  have cv42_ : v1_ 42 = v 42 := congrFun ev1_ 42
  have cv43_ : v1_ 43 = v 43 := congrFun ev1_ 43
  have cv44_ : v1_ 44 = v 44 := congrFun ev1_ 44
  have cv303_ : v1_ 303 = v 303 := congrFun ev1_ 303
  have cv25_ : v1_ 25 = v 25 := congrFun ev1_ 25
  have cv300_ : v1_ 300 = v 300 := congrFun ev1_ 300
  clear ev1_
  refine j_pop E 1190 rfl dL_law_1189 rfl ?_
  refine j_aload_n E 1191 rfl dL_law_1190 rfl (lv_at hl 2 rfl) ?_
  refine j_aload_n E 1192 rfl dL_law_1191 rfl (lv_at hl 0 rfl) ?_
  refine j_iload_n E 1193 rfl dL_law_1192 rfl (lv_at hl 3 rfl) ?_
  refine j_iconst E 1194 rfl dL_law_1193 ?_
  refine j_iadd E 1195 rfl dL_law_1194 ?_
  refine lw_ld E hX hbl hL hw (by omega) 1196 rfl dL_law_1195 ?_
  refine lw_M E (c_X10_loss l D cy q n f ((xs (i + 1).toNat).toInt) (inR_toInt _) hw.2.2.2.2.2.1 ) mt_X10_loss ml_L_132 hK hw rfl hκ ⟨(Nat.le_of_ble_eq_true rfl), (Nat.le_of_ble_eq_true rfl)⟩ ⟨show cells ≤ 600000 by omega, show slots ≤ 7302250 by omega⟩ (As := [.int (J (xs (i + 1).toNat).toInt)]) (rest := []) rfl rfl hl.1 (Nat.le_of_ble_eq_true rfl) 1199 rfl dL_law_1196 (fun z n2 f2 h => by obtain ⟨_, e1, e2, h, -⟩ := h; rw [e1, e2]; exact h) (fun z2_ n2_ f2_ H locs rz2_ hz2_ hw => ?_)
  obtain ⟨x0m2_, em2_, ef2_, -, hm2_⟩ := hz2_
  have mg3_ : f2_ 3 = f 3 := congrFun ef2_ 3
  have mg4_ : f2_ 4 = f 4 := congrFun ef2_ 4
  have mg5_ : f2_ 5 = f 5 := congrFun ef2_ 5
  have mg6_ : f2_ 6 = f 6 := congrFun ef2_ 6
  have mg7_ : f2_ 7 = f 7 := congrFun ef2_ 7
  have mg18_ : f2_ 18 = f 18 := congrFun ef2_ 18
  have mg22_ : f2_ 22 = f 22 := congrFun ef2_ 22
  have mg32_ : f2_ 32 = f 32 := congrFun ef2_ 32
  have mg33_ : f2_ 33 = f 33 := congrFun ef2_ 33
  have mg34_ : f2_ 34 = f 34 := congrFun ef2_ 34
  have mg35_ : f2_ 35 = f 35 := congrFun ef2_ 35
  have mg36_ : f2_ 36 = f 36 := congrFun ef2_ 36
  have mg67_ : f2_ 67 = f 67 := congrFun ef2_ 67
  have mn1_ : n2_ 1 = n 1 := congrFun em2_ 1
  have mn2_ : n2_ 2 = n 2 := congrFun em2_ 2
  have mn12_ : n2_ 12 = n 12 := congrFun em2_ 12
  have mn23_ : n2_ 23 = n 23 := congrFun em2_ 23
  have mn29_ : n2_ 29 = n 29 := congrFun em2_ 29
  have mn43_ : n2_ 43 = n 43 := congrFun em2_ 43
  have mn44_ : n2_ 44 = n 44 := congrFun em2_ 44
  clear em2_
  clear ef2_
  have hr2_n_ := R2_same hR2 (fun _ => rfl) cv40_ cv41_ cv42_ cv43_ cv44_ mn2_ mg3_ mg4_ mg5_ mg6_ mg7_
  have hra_n_ := RA_same hRA cs182_ ca190_ ca191_ rfl cv303_ mn29_ mn43_ mn44_ (by omega) mg22_
  have hrf_n_ : Fut_ (f2_ 18) (n2_ 1) (n2_ 12) := by rw [mg18_, mn1_, mn12_]; exact hRF
  have hrk_n_ := RBk_same hRK (fun _ => rfl) cv25_ mn12_ mg67_
  have hrs_n_ : RS T v1_ x n2_ f2_ := RS_same hSg_ (by rw [cv300_, cs182_]; exact hWd_) mn29_ mg32_ mg33_ mg34_ mg35_ mg36_
  clear hc1_
  refine j_pop E 1200 rfl dL_law_1199 rfl ?_
  refine j_goto E 1315 dL_law_1200 (by decide) ?_
  exact W.widen (by omega) (by omega) (next _ _ _ _ _ _ ls hw ⟨by omega, by omega, by omega, by omega⟩ hr2_n_ hra_n_ hrk_n_ hrs_n_ hrf_n_ hl)
set_option maxHeartbeats 4000000 in
set_option maxRecDepth 100000 in
theorem lc_27 {p : Program} {l : Launch} {e : Env} {s : State} {m : MethodId} {below : List Frame} {meth : Method} {c : Code} {H : Heap} {locs : List Loc} {cells slots : Nat} {QW : State → Prop} {ls : Array Slot} {D : va_G} {cy : Nat → ClassId} {κ T : Nat → Nat → Nat} {v : Nat → Nat → Int} {q : Nat → Nat} {n : Nat → Int} {f : Nat → Int → Int} {x b L : Nat} {xs : Nat → Int32} (E : CX p s m #[Value.ref b] meth c RL cL_law 4 ret) (hK : KK D cy s) (hZ : ZZ κ s s.heap) (hκ : κ 2 0 < s.heap.size) (hX : va_X b L xs s s.heap) (hbl : b < s.heap.size) (hL : L ≤ 4096) {i : Int} (hi : 0 ≤ i ∧ i + 8 ≤ (L : Int)) (hf : cells + 6 ≤ 600000 ∧ slots + 7000 ≤ 7302250) (hw : LW D cy κ x T v q n f s H locs) (hR : RB T v x n) (hR2 : R2 T v x n f) (hRA : RA T v x n f) (hRK : RBk T v x n f) (hRS : RS T v x n f) (hRF : Fut_ (f 18) (n 1) (n 12)) (hl : lv_has ls 4 [(0, .ref b), (1, .ref x), (2, .ref (q 0)), (3, .int (J i))])
    (next : ∀ (T : Nat → Nat → Nat) (v : Nat → Nat → Int) (n : Nat → Int) (f : Nat → Int → Int) (H : Heap) (locs : List Loc) (ls : Array Slot), LW D cy κ x T v q n f s H locs → RB T v x n → R2 T v x n f → RA T v x n f → RBk T v x n f → RS T v x n f → Fut_ (f 18) (n 1) (n 12) → lv_has ls 4 [(0, .ref b), (1, .ref x), (2, .ref (q 0)), (3, .int (J i))] → W p l e room_1 s m #[Value.ref b] below meth c H locs (cells + 6) (slots + 7000) QW (F0 m 1315 ls [])) : W p l e room_1 s m #[Value.ref b] below meth c H locs cells slots QW (F0 m 1203 ls []) := by
  obtain ⟨hr1_, hr2_, hr3_, hr4_⟩ := hR
  have hMI_ := hw.2.2.2.2.2.1
  have j1_ := hMI_.1
  have j2_ := hMI_.2.1
  have j3_ := hMI_.2.2.1
  have j4_ := hMI_.2.2.2.1
  have j5_ := hMI_.2.2.2.2.1
  have m_book := hMI_.2.2.2.2.2.2.2.2.2.2.1
  have m_cod := hMI_.2.2.2.2.2.2.2.2.2.2.2.2.2.1
  clear hMI_
  obtain ⟨S1_, S2_, S3_, hWd_, hSg_⟩ := hRS
  have hwC_ := hw.1
  have t9_ := hw.2.1
  have hnw_ : ∀ q_, H.size ≤ q_ → ∀ i_ : Nat, (i_ : Int) < v 202 (T 181 x) → ∀ y_ : Nat, ELn_ T 181 x i_ = y_ + 1 → y_ ≠ q_ := fun q_ hq_ => fr_of hwC_ (wt_181 hwC_.2.1 t9_) hq_
  have ra1_ := hRA.1
  have ra2_ := hRA.2.1
  have ra3_ := hRA.2.2.1
  refine j_aload_n E 1204 rfl dL_law_1203 rfl (lv_at hl 1 rfl) ?_
  refine j_aload_n E 1205 rfl dL_law_1204 rfl (lv_at hl 0 rfl) ?_
  refine j_iload_n E 1206 rfl dL_law_1205 rfl (lv_at hl 3 rfl) ?_
  refine j_iconst E 1207 rfl dL_law_1206 ?_
  refine j_iadd E 1208 rfl dL_law_1207 ?_
  refine lw_ld E hX hbl hL hw (by omega) 1209 rfl dL_law_1208 ?_
  refine j_aload_n E 1210 rfl dL_law_1209 rfl (lv_at hl 0 rfl) ?_
  refine j_iload_n E 1211 rfl dL_law_1210 rfl (lv_at hl 3 rfl) ?_
  refine j_iconst E 1212 rfl dL_law_1211 ?_
  refine j_iadd E 1213 rfl dL_law_1212 ?_
  refine lw_ld E hX hbl hL hw (by omega) 1214 rfl dL_law_1213 ?_
  refine j_aload_n E 1215 rfl dL_law_1214 rfl (lv_at hl 0 rfl) ?_
  refine j_iload_n E 1216 rfl dL_law_1215 rfl (lv_at hl 3 rfl) ?_
  refine j_iconst E 1217 rfl dL_law_1216 ?_
  refine j_iadd E 1218 rfl dL_law_1217 ?_
  refine lw_ld E hX hbl hL hw (by omega) 1219 rfl dL_law_1218 ?_
  refine lw_A E (n_X9_plan l D cy κ T v x ((xs (i + 1).toNat).toInt) ((xs (i + 2).toNat).toInt) ((xs (i + 3).toNat).toInt) H.size (fun a h => Nat.le_trans hZ.2.1 (hw.2.2.2.1 a h)) hw.2.1 (inR_toInt _) (inR_toInt _) (inR_toInt _) hw.2.2.1) mt_X9_plan ml_L_133 hK hZ hw rfl ⟨(Nat.le_of_ble_eq_true rfl), (Nat.le_of_ble_eq_true rfl)⟩ ⟨show cells + 5 ≤ 600000 by omega, show slots + 6600 ≤ 7302250 by omega⟩ (As := [.int (J (xs (i + 1).toNat).toInt), .int (J (xs (i + 2).toNat).toInt), .int (J (xs (i + 3).toNat).toInt)]) (rest := []) rfl rfl hl.1 (Nat.le_of_ble_eq_true rfl) 1222 rfl dL_law_1219 (fun z T2 v2 h => by obtain ⟨_, _, _, _, -, h⟩ := h; exact h.1.1) (fun z1_ T1_ v1_ H locs rz1_ hz1_ hw => ?_)
  obtain ⟨y64_1, y65_1, y66_1, y300_1, ev1_, ⟨-, ⟨e180_, e181_, e182_, e183_, e185_⟩, hCC_, hE_, hE181_, hE182_, hE183_⟩, hKd_⟩ := hz1_
  have cv40_ : v1_ 40 = v 40 := congrFun ev1_ 40
  have cv41_ : v1_ 41 = v 41 := congrFun ev1_ 41
  have cv42_ : v1_ 42 = v 42 := congrFun ev1_ 42
  have cv43_ : v1_ 43 = v 43 := congrFun ev1_ 43
  have cv44_ : v1_ 44 = v 44 := congrFun ev1_ 44
  have cv303_ : v1_ 303 = v 303 := congrFun ev1_ 303
  have cv25_ : v1_ 25 = v 25 := congrFun ev1_ 25
  have cv300_ : v1_ 300 = y300_1 := congrFun ev1_ 300
  have ca186_ : v1_ 186 x = v 186 x := congrFun (congrFun ev1_ 186) x
  have ca187_ : v1_ 187 x = v 187 x := congrFun (congrFun ev1_ 187) x
  have ca190_ : v1_ 190 x = v 190 x := congrFun (congrFun ev1_ 190) x
  have ca191_ : v1_ 191 x = v 191 x := congrFun (congrFun ev1_ 191) x
  have cs180_ : v1_ 202 (T1_ 180 x) = v 202 (T 180 x) := by rw [e180_]; exact congrFun (congrFun ev1_ 202) (T 180 x)
  have cs181_ : v1_ 202 (T1_ 181 x) = v 202 (T 181 x) := by rw [e181_]; exact congrFun (congrFun ev1_ 202) (T 181 x)
  have cs182_ : v1_ 202 (T1_ 182 x) = v 202 (T 182 x) := by rw [e182_]; exact congrFun (congrFun ev1_ 202) (T 182 x)
  clear ev1_
  refine W.widen (show cells + 5 ≤ cells + 6 by omega) (show slots + 6600 ≤ slots + 7000 by omega) ?_
  refine j_pop E 1223 rfl dL_law_1222 rfl ?_
  refine j_aload_n E 1224 rfl dL_law_1223 rfl (lv_at hl 2 rfl) ?_
  refine j_aload_n E 1225 rfl dL_law_1224 rfl (lv_at hl 0 rfl) ?_
  refine j_iload_n E 1226 rfl dL_law_1225 rfl (lv_at hl 3 rfl) ?_
  refine j_iconst E 1227 rfl dL_law_1226 ?_
  refine j_iadd E 1228 rfl dL_law_1227 ?_
  refine lw_ld E hX hbl hL hw (by omega) 1229 rfl dL_law_1228 ?_
  refine j_aload_n E 1230 rfl dL_law_1229 rfl (lv_at hl 0 rfl) ?_
  refine j_iload_n E 1231 rfl dL_law_1230 rfl (lv_at hl 3 rfl) ?_
  refine j_iconst E 1232 rfl dL_law_1231 ?_
  refine j_iadd E 1233 rfl dL_law_1232 ?_
  refine lw_ld E hX hbl hL hw (by omega) 1234 rfl dL_law_1233 ?_
  refine j_aload_n E 1235 rfl dL_law_1234 rfl (lv_at hl 0 rfl) ?_
  refine j_iload_n E 1236 rfl dL_law_1235 rfl (lv_at hl 3 rfl) ?_
  refine j_iconst E 1237 rfl dL_law_1236 ?_
  refine j_iadd E 1238 rfl dL_law_1237 ?_
  refine lw_ld E hX hbl hL hw (by omega) 1239 rfl dL_law_1238 ?_
  refine lw_M E (c_X10_plan l D cy q n f ((xs (i + 1).toNat).toInt) ((xs (i + 2).toNat).toInt) ((xs (i + 3).toNat).toInt) (inR_toInt _) (inR_toInt _) (inR_toInt _) hw.2.2.2.2.2.1 ) mt_X10_plan ml_L_136 hK hw rfl hκ ⟨(Nat.le_of_ble_eq_true rfl), (Nat.le_of_ble_eq_true rfl)⟩ ⟨show cells + 6 ≤ 600000 by omega, show slots + 7000 ≤ 7302250 by omega⟩ (As := [.int (J (xs (i + 1).toNat).toInt), .int (J (xs (i + 2).toNat).toInt), .int (J (xs (i + 3).toNat).toInt)]) (rest := []) rfl rfl hl.1 (Nat.le_of_ble_eq_true rfl) 1242 rfl dL_law_1239 (fun z n2 f2 h => by obtain ⟨_, _, _, _, e1, e2, h, -⟩ := h; rw [e1, e2]; exact h) (fun z2_ n2_ f2_ H locs rz2_ hz2_ hw => ?_)
  obtain ⟨x0m2_, x65m2_, y64m2_, y66m2_, em2_, ef2_, -, hm2_⟩ := hz2_
  have mg3_ : f2_ 3 = f 3 := congrFun ef2_ 3
  have mg4_ : f2_ 4 = f 4 := congrFun ef2_ 4
  have mg5_ : f2_ 5 = f 5 := congrFun ef2_ 5
  have mg6_ : f2_ 6 = f 6 := congrFun ef2_ 6
  have mg7_ : f2_ 7 = f 7 := congrFun ef2_ 7
  have mg18_ : f2_ 18 = f 18 := congrFun ef2_ 18
  have mg22_ : f2_ 22 = f 22 := congrFun ef2_ 22
  have mg32_ : f2_ 32 = f 32 := congrFun ef2_ 32
  have mg33_ : f2_ 33 = f 33 := congrFun ef2_ 33
  have mg34_ : f2_ 34 = f 34 := congrFun ef2_ 34
  have mg35_ : f2_ 35 = f 35 := congrFun ef2_ 35
  have mg36_ : f2_ 36 = f 36 := congrFun ef2_ 36
  have mg67_ : f2_ 67 = f 67 := congrFun ef2_ 67
  have mn1_ : n2_ 1 = n 1 := congrFun em2_ 1
  have mn2_ : n2_ 2 = n 2 := congrFun em2_ 2
  have mn12_ : n2_ 12 = n 12 := congrFun em2_ 12
  have mn23_ : n2_ 23 = n 23 := congrFun em2_ 23
  have mn29_ : n2_ 29 = n 29 := congrFun em2_ 29
  have mn43_ : n2_ 43 = n 43 := congrFun em2_ 43
  have mn44_ : n2_ 44 = n 44 := congrFun em2_ 44
  clear em2_
  clear ef2_
  have hr2_n_ := R2_same hR2 hE_ cv40_ cv41_ cv42_ cv43_ cv44_ mn2_ mg3_ mg4_ mg5_ mg6_ mg7_
  have hra_n_ := RA_same hRA cs182_ ca190_ ca191_ e185_ cv303_ mn29_ mn43_ mn44_ (by omega) mg22_
  have hrf_n_ : Fut_ (f2_ 18) (n2_ 1) (n2_ 12) := by rw [mg18_, mn1_, mn12_]; exact hRF
  have hrk_n_ := RBk_same hRK hE181_ cv25_ mn12_ mg67_
  have hrs_n_ : RS T1_ v1_ x n2_ f2_ := RS_same hSg_ (by rw [cv300_]; exact wd_mk hwC_ t9_ rfl hCC_ hKd_ (by decide) hE182_ cs182_ hWd_) mn29_ mg32_ mg33_ mg34_ mg35_ mg36_
  refine j_pop E 1243 rfl dL_law_1242 rfl ?_
  refine j_goto E 1315 dL_law_1243 (by decide) ?_
  exact W.widen (by omega) (by omega) (next _ _ _ _ _ _ ls hw ⟨by omega, by omega, by omega, by omega⟩ hr2_n_ hra_n_ hrk_n_ hrs_n_ hrf_n_ hl)
set_option maxHeartbeats 4000000 in
set_option maxRecDepth 100000 in
theorem lc_28 {p : Program} {l : Launch} {e : Env} {s : State} {m : MethodId} {below : List Frame} {meth : Method} {c : Code} {H : Heap} {locs : List Loc} {cells slots : Nat} {QW : State → Prop} {ls : Array Slot} {D : va_G} {cy : Nat → ClassId} {κ T : Nat → Nat → Nat} {v : Nat → Nat → Int} {q : Nat → Nat} {n : Nat → Int} {f : Nat → Int → Int} {x b L : Nat} {xs : Nat → Int32} (E : CX p s m #[Value.ref b] meth c RL cL_law 4 ret) (hK : KK D cy s) (hZ : ZZ κ s s.heap) (hκ : κ 2 0 < s.heap.size) (hX : va_X b L xs s s.heap) (hbl : b < s.heap.size) (hL : L ≤ 4096) {i : Int} (hi : 0 ≤ i ∧ i + 8 ≤ (L : Int)) (hf : cells + 6 ≤ 600000 ∧ slots + 7000 ≤ 7302250) (hw : LW D cy κ x T v q n f s H locs) (hR : RB T v x n) (hR2 : R2 T v x n f) (hRA : RA T v x n f) (hRK : RBk T v x n f) (hRS : RS T v x n f) (hRF : Fut_ (f 18) (n 1) (n 12)) (hl : lv_has ls 4 [(0, .ref b), (1, .ref x), (2, .ref (q 0)), (3, .int (J i))])
    (next : ∀ (T : Nat → Nat → Nat) (v : Nat → Nat → Int) (n : Nat → Int) (f : Nat → Int → Int) (H : Heap) (locs : List Loc) (ls : Array Slot), LW D cy κ x T v q n f s H locs → RB T v x n → R2 T v x n f → RA T v x n f → RBk T v x n f → RS T v x n f → Fut_ (f 18) (n 1) (n 12) → lv_has ls 4 [(0, .ref b), (1, .ref x), (2, .ref (q 0)), (3, .int (J i))] → W p l e room_1 s m #[Value.ref b] below meth c H locs (cells + 6) (slots + 7000) QW (F0 m 1315 ls [])) : W p l e room_1 s m #[Value.ref b] below meth c H locs cells slots QW (F0 m 1246 ls []) := by
  obtain ⟨hr1_, hr2_, hr3_, hr4_⟩ := hR
  have hMI_ := hw.2.2.2.2.2.1
  have j1_ := hMI_.1
  have j2_ := hMI_.2.1
  have j3_ := hMI_.2.2.1
  have j4_ := hMI_.2.2.2.1
  have j5_ := hMI_.2.2.2.2.1
  have m_book := hMI_.2.2.2.2.2.2.2.2.2.2.1
  have m_cod := hMI_.2.2.2.2.2.2.2.2.2.2.2.2.2.1
  clear hMI_
  obtain ⟨S1_, S2_, S3_, hWd_, hSg_⟩ := hRS
  have hwC_ := hw.1
  have t9_ := hw.2.1
  have hnw_ : ∀ q_, H.size ≤ q_ → ∀ i_ : Nat, (i_ : Int) < v 202 (T 181 x) → ∀ y_ : Nat, ELn_ T 181 x i_ = y_ + 1 → y_ ≠ q_ := fun q_ hq_ => fr_of hwC_ (wt_181 hwC_.2.1 t9_) hq_
  have ra1_ := hRA.1
  have ra2_ := hRA.2.1
  have ra3_ := hRA.2.2.1
  refine j_aload_n E 1247 rfl dL_law_1246 rfl (lv_at hl 1 rfl) ?_
  refine j_aload_n E 1248 rfl dL_law_1247 rfl (lv_at hl 0 rfl) ?_
  refine j_iload_n E 1249 rfl dL_law_1248 rfl (lv_at hl 3 rfl) ?_
  refine j_iconst E 1250 rfl dL_law_1249 ?_
  refine j_iadd E 1251 rfl dL_law_1250 ?_
  refine lw_ld E hX hbl hL hw (by omega) 1252 rfl dL_law_1251 ?_
  refine j_aload_n E 1253 rfl dL_law_1252 rfl (lv_at hl 0 rfl) ?_
  refine j_iload_n E 1254 rfl dL_law_1253 rfl (lv_at hl 3 rfl) ?_
  refine j_iconst E 1255 rfl dL_law_1254 ?_
  refine j_iadd E 1256 rfl dL_law_1255 ?_
  refine lw_ld E hX hbl hL hw (by omega) 1257 rfl dL_law_1256 ?_
  refine lw_C E (c_X9_book l D cy T v x ((xs (i + 1).toNat).toInt) ((xs (i + 2).toNat).toInt) hw.2.1 (inR_toInt _) (inR_toInt _)) mt_X9_book ml_L_137 hK hw rfl ⟨(Nat.le_of_ble_eq_true rfl), (Nat.le_of_ble_eq_true rfl)⟩ ⟨show cells ≤ 600000 by omega, show slots ≤ 7302250 by omega⟩ (As := [.int (J (xs (i + 1).toNat).toInt), .int (J (xs (i + 2).toNat).toInt)]) (rest := []) rfl rfl hl.1 (Nat.le_of_ble_eq_true rfl) 1260 rfl dL_law_1257 (fun z1_ v1_ H locs rz1_ hz1_ hw => ?_)
  obtain ⟨y25_1, ev1_, hc1_⟩ := hz1_
  have ca186_ : v1_ 186 x = v 186 x := congrFun (congrFun ev1_ 186) x
  have ca187_ : v1_ 187 x = v 187 x := congrFun (congrFun ev1_ 187) x
  have ca190_ : v1_ 190 x = v 190 x := congrFun (congrFun ev1_ 190) x
  have ca191_ : v1_ 191 x = v 191 x := congrFun (congrFun ev1_ 191) x
  have cs180_ : v1_ 202 (T 180 x) = v 202 (T 180 x) := congrFun (congrFun ev1_ 202) (T 180 x)
  have cs181_ : v1_ 202 (T 181 x) = v 202 (T 181 x) := congrFun (congrFun ev1_ 202) (T 181 x)
  have cs182_ : v1_ 202 (T 182 x) = v 202 (T 182 x) := congrFun (congrFun ev1_ 202) (T 182 x)
  have cv40_ : v1_ 40 = v 40 := congrFun ev1_ 40
  have cv41_ : v1_ 41 = v 41 := congrFun ev1_ 41
  have cv42_ : v1_ 42 = v 42 := congrFun ev1_ 42
  have cv43_ : v1_ 43 = v 43 := congrFun ev1_ 43
  have cv44_ : v1_ 44 = v 44 := congrFun ev1_ 44
  have cv303_ : v1_ 303 = v 303 := congrFun ev1_ 303
  have cv25_ : v1_ 25 = y25_1 := congrFun ev1_ 25
  have cv300_ : v1_ 300 = v 300 := congrFun ev1_ 300
  clear ev1_
  refine j_aload_n E 1261 rfl dL_law_1260 rfl (lv_at hl 2 rfl) ?_
  refine j_aload_n E 1262 rfl dL_law_1261 rfl (lv_at hl 0 rfl) ?_
  refine j_iload_n E 1263 rfl dL_law_1262 rfl (lv_at hl 3 rfl) ?_
  refine j_iconst E 1264 rfl dL_law_1263 ?_
  refine j_iadd E 1265 rfl dL_law_1264 ?_
  refine lw_ld E hX hbl hL hw (by omega) 1266 rfl dL_law_1265 ?_
  refine j_aload_n E 1267 rfl dL_law_1266 rfl (lv_at hl 0 rfl) ?_
  refine j_iload_n E 1268 rfl dL_law_1267 rfl (lv_at hl 3 rfl) ?_
  refine j_iconst E 1269 rfl dL_law_1268 ?_
  refine j_iadd E 1270 rfl dL_law_1269 ?_
  refine lw_ld E hX hbl hL hw (by omega) 1271 rfl dL_law_1270 ?_
  refine lw_M E (c_X10_book l D cy q n f ((xs (i + 1).toNat).toInt) ((xs (i + 2).toNat).toInt) (inR_toInt _) (inR_toInt _) hw.2.2.2.2.2.1 ) mt_X10_book ml_L_141 hK hw rfl hκ ⟨(Nat.le_of_ble_eq_true rfl), (Nat.le_of_ble_eq_true rfl)⟩ ⟨show cells ≤ 600000 by omega, show slots ≤ 7302250 by omega⟩ (As := [.int (J (xs (i + 1).toNat).toInt), .int (J (xs (i + 2).toNat).toInt)]) (rest := [.int (J z1_)]) rfl rfl hl.1 (Nat.le_of_ble_eq_true rfl) 1274 rfl dL_law_1271 (fun z n2 f2 h => by obtain ⟨_, _, e1, e2, h, -⟩ := h; rw [e1, e2]; exact h) (fun z2_ n2_ f2_ H locs rz2_ hz2_ hw => ?_)
  obtain ⟨x0m2_, y67m2_, em2_, ef2_, -, hm2_⟩ := hz2_
  have mg3_ : f2_ 3 = f 3 := congrFun ef2_ 3
  have mg4_ : f2_ 4 = f 4 := congrFun ef2_ 4
  have mg5_ : f2_ 5 = f 5 := congrFun ef2_ 5
  have mg6_ : f2_ 6 = f 6 := congrFun ef2_ 6
  have mg7_ : f2_ 7 = f 7 := congrFun ef2_ 7
  have mg18_ : f2_ 18 = f 18 := congrFun ef2_ 18
  have mg22_ : f2_ 22 = f 22 := congrFun ef2_ 22
  have mg32_ : f2_ 32 = f 32 := congrFun ef2_ 32
  have mg33_ : f2_ 33 = f 33 := congrFun ef2_ 33
  have mg34_ : f2_ 34 = f 34 := congrFun ef2_ 34
  have mg35_ : f2_ 35 = f 35 := congrFun ef2_ 35
  have mg36_ : f2_ 36 = f 36 := congrFun ef2_ 36
  have mg67_ : f2_ 67 = y67m2_ := congrFun ef2_ 67
  have mn1_ : n2_ 1 = n 1 := congrFun em2_ 1
  have mn2_ : n2_ 2 = n 2 := congrFun em2_ 2
  have mn12_ : n2_ 12 = n 12 := congrFun em2_ 12
  have mn23_ : n2_ 23 = n 23 := congrFun em2_ 23
  have mn29_ : n2_ 29 = n 29 := congrFun em2_ 29
  have mn43_ : n2_ 43 = n 43 := congrFun em2_ 43
  have mn44_ : n2_ 44 = n 44 := congrFun em2_ 44
  clear em2_
  clear ef2_
  have hd_ := RBk_book hRK hr4_ ra1_ mn12_ cv25_ mg67_ hc1_ hm2_
  have hrk_n_ := hd_.2
  clear hc1_
  clear hm2_
  have hr2_n_ := R2_same hR2 (fun _ => rfl) cv40_ cv41_ cv42_ cv43_ cv44_ mn2_ mg3_ mg4_ mg5_ mg6_ mg7_
  have hra_n_ := RA_same hRA cs182_ ca190_ ca191_ rfl cv303_ mn29_ mn43_ mn44_ (by omega) mg22_
  have hrf_n_ : Fut_ (f2_ 18) (n2_ 1) (n2_ 12) := by rw [mg18_, mn1_, mn12_]; exact hRF
  have hrs_n_ : RS T v1_ x n2_ f2_ := RS_same hSg_ (by rw [cv300_, cs182_]; exact hWd_) mn29_ mg32_ mg33_ mg34_ mg35_ mg36_
  refine j_icmp_eq E 1277 1315 rfl rz1_ rz2_ dL_law_1274 (by decide) (fun _ => W.widen (by omega) (by omega) (next _ _ _ _ _ _ ls hw ⟨by omega, by omega, by omega, by omega⟩ hr2_n_ hra_n_ hrk_n_ hrs_n_ hrf_n_ hl)) (fun c9_ => ?_)
  exact absurd hd_.1 c9_
set_option maxHeartbeats 4000000 in
set_option maxRecDepth 100000 in
theorem lc_29 {p : Program} {l : Launch} {e : Env} {s : State} {m : MethodId} {below : List Frame} {meth : Method} {c : Code} {H : Heap} {locs : List Loc} {cells slots : Nat} {QW : State → Prop} {ls : Array Slot} {D : va_G} {cy : Nat → ClassId} {κ T : Nat → Nat → Nat} {v : Nat → Nat → Int} {q : Nat → Nat} {n : Nat → Int} {f : Nat → Int → Int} {x b L : Nat} {xs : Nat → Int32} (E : CX p s m #[Value.ref b] meth c RL cL_law 4 ret) (hK : KK D cy s) (hZ : ZZ κ s s.heap) (hκ : κ 2 0 < s.heap.size) (hX : va_X b L xs s s.heap) (hbl : b < s.heap.size) (hL : L ≤ 4096) {i : Int} (hi : 0 ≤ i ∧ i + 8 ≤ (L : Int)) (hf : cells + 6 ≤ 600000 ∧ slots + 7000 ≤ 7302250) (hw : LW D cy κ x T v q n f s H locs) (hR : RB T v x n) (hR2 : R2 T v x n f) (hRA : RA T v x n f) (hRK : RBk T v x n f) (hRS : RS T v x n f) (hRF : Fut_ (f 18) (n 1) (n 12)) (hl : lv_has ls 4 [(0, .ref b), (1, .ref x), (2, .ref (q 0)), (3, .int (J i))])
    (next : ∀ (T : Nat → Nat → Nat) (v : Nat → Nat → Int) (n : Nat → Int) (f : Nat → Int → Int) (H : Heap) (locs : List Loc) (ls : Array Slot), LW D cy κ x T v q n f s H locs → RB T v x n → R2 T v x n f → RA T v x n f → RBk T v x n f → RS T v x n f → Fut_ (f 18) (n 1) (n 12) → lv_has ls 4 [(0, .ref b), (1, .ref x), (2, .ref (q 0)), (3, .int (J i))] → W p l e room_1 s m #[Value.ref b] below meth c H locs (cells + 6) (slots + 7000) QW (F0 m 1315 ls [])) : W p l e room_1 s m #[Value.ref b] below meth c H locs cells slots QW (F0 m 1279 ls []) := by
  obtain ⟨hr1_, hr2_, hr3_, hr4_⟩ := hR
  have hMI_ := hw.2.2.2.2.2.1
  have j1_ := hMI_.1
  have j2_ := hMI_.2.1
  have j3_ := hMI_.2.2.1
  have j4_ := hMI_.2.2.2.1
  have j5_ := hMI_.2.2.2.2.1
  have m_book := hMI_.2.2.2.2.2.2.2.2.2.2.1
  have m_cod := hMI_.2.2.2.2.2.2.2.2.2.2.2.2.2.1
  clear hMI_
  obtain ⟨S1_, S2_, S3_, hWd_, hSg_⟩ := hRS
  have hwC_ := hw.1
  have t9_ := hw.2.1
  have hnw_ : ∀ q_, H.size ≤ q_ → ∀ i_ : Nat, (i_ : Int) < v 202 (T 181 x) → ∀ y_ : Nat, ELn_ T 181 x i_ = y_ + 1 → y_ ≠ q_ := fun q_ hq_ => fr_of hwC_ (wt_181 hwC_.2.1 t9_) hq_
  have ra1_ := hRA.1
  have ra2_ := hRA.2.1
  have ra3_ := hRA.2.2.1
  refine j_aload_n E 1280 rfl dL_law_1279 rfl (lv_at hl 1 rfl) ?_
  refine lw_C E (c_X9_wrong l D cy T v x  hw.2.1  (by omega)) mt_X9_wrong ml_L_142 hK hw rfl ⟨(Nat.le_of_ble_eq_true rfl), (Nat.le_of_ble_eq_true rfl)⟩ ⟨show cells ≤ 600000 by omega, show slots ≤ 7302250 by omega⟩ (As := []) (rest := []) rfl rfl hl.1 (Nat.le_of_ble_eq_true rfl) 1283 rfl dL_law_1280 (fun z1_ v1_ H locs rz1_ hz1_ hw => ?_)
  obtain ⟨ev1_, hc1_⟩ := hz1_
  have ca186_ : v1_ 186 x = v 186 x := congrFun (congrFun ev1_ 186) x
  have ca187_ : v1_ 187 x = v 187 x := congrFun (congrFun ev1_ 187) x
  have ca190_ : v1_ 190 x = v 190 x := congrFun (congrFun ev1_ 190) x
  have ca191_ : v1_ 191 x = v 191 x := congrFun (congrFun ev1_ 191) x
  have cs180_ : v1_ 202 (T 180 x) = v 202 (T 180 x) := congrFun (congrFun ev1_ 202) (T 180 x)
  have cs181_ : v1_ 202 (T 181 x) = v 202 (T 181 x) := congrFun (congrFun ev1_ 202) (T 181 x)
  have cs182_ : v1_ 202 (T 182 x) = v 202 (T 182 x) := congrFun (congrFun ev1_ 202) (T 182 x)
  have cv40_ : v1_ 40 = v 40 := congrFun ev1_ 40
  have cv41_ : v1_ 41 = v 41 := congrFun ev1_ 41
  have cv42_ : v1_ 42 = v 42 := congrFun ev1_ 42
  have cv43_ : v1_ 43 = v 43 := congrFun ev1_ 43
  have cv44_ : v1_ 44 = v 44 := congrFun ev1_ 44
  have cv303_ : v1_ 303 = v 303 := congrFun ev1_ 303
  have cv25_ : v1_ 25 = v 25 := congrFun ev1_ 25
  have cv300_ : v1_ 300 = v 300 := congrFun ev1_ 300
  clear ev1_
  refine j_pop E 1284 rfl dL_law_1283 rfl ?_
  refine j_aload_n E 1285 rfl dL_law_1284 rfl (lv_at hl 2 rfl) ?_
  refine lw_M E (c_X10_wrong l D cy q n f   hw.2.2.2.2.2.1 ) mt_X10_wrong ml_L_145 hK hw rfl hκ ⟨(Nat.le_of_ble_eq_true rfl), (Nat.le_of_ble_eq_true rfl)⟩ ⟨show cells ≤ 600000 by omega, show slots ≤ 7302250 by omega⟩ (As := []) (rest := []) rfl rfl hl.1 (Nat.le_of_ble_eq_true rfl) 1288 rfl dL_law_1285 (fun z n2 f2 h => by obtain ⟨_, e1, e2, h, -⟩ := h; rw [e1, e2]; exact h) (fun z2_ n2_ f2_ H locs rz2_ hz2_ hw => ?_)
  obtain ⟨x0m2_, em2_, ef2_, -, hm2_⟩ := hz2_
  have mg3_ : f2_ 3 = f 3 := congrFun ef2_ 3
  have mg4_ : f2_ 4 = f 4 := congrFun ef2_ 4
  have mg5_ : f2_ 5 = f 5 := congrFun ef2_ 5
  have mg6_ : f2_ 6 = f 6 := congrFun ef2_ 6
  have mg7_ : f2_ 7 = f 7 := congrFun ef2_ 7
  have mg18_ : f2_ 18 = f 18 := congrFun ef2_ 18
  have mg22_ : f2_ 22 = f 22 := congrFun ef2_ 22
  have mg32_ : f2_ 32 = f 32 := congrFun ef2_ 32
  have mg33_ : f2_ 33 = f 33 := congrFun ef2_ 33
  have mg34_ : f2_ 34 = f 34 := congrFun ef2_ 34
  have mg35_ : f2_ 35 = f 35 := congrFun ef2_ 35
  have mg36_ : f2_ 36 = f 36 := congrFun ef2_ 36
  have mg67_ : f2_ 67 = f 67 := congrFun ef2_ 67
  have mn1_ : n2_ 1 = n 1 := congrFun em2_ 1
  have mn2_ : n2_ 2 = n 2 := congrFun em2_ 2
  have mn12_ : n2_ 12 = n 12 := congrFun em2_ 12
  have mn23_ : n2_ 23 = n 23 := congrFun em2_ 23
  have mn29_ : n2_ 29 = n 29 := congrFun em2_ 29
  have mn43_ : n2_ 43 = n 43 := congrFun em2_ 43
  have mn44_ : n2_ 44 = n 44 := congrFun em2_ 44
  clear em2_
  clear ef2_
  have hr2_n_ := R2_same hR2 (fun _ => rfl) cv40_ cv41_ cv42_ cv43_ cv44_ mn2_ mg3_ mg4_ mg5_ mg6_ mg7_
  have hra_n_ := RA_same hRA cs182_ ca190_ ca191_ rfl cv303_ mn29_ mn43_ mn44_ (by omega) mg22_
  have hrf_n_ : Fut_ (f2_ 18) (n2_ 1) (n2_ 12) := by rw [mg18_, mn1_, mn12_]; exact hRF
  have hrk_n_ := RBk_same hRK (fun _ => rfl) cv25_ mn12_ mg67_
  have hrs_n_ : RS T v1_ x n2_ f2_ := RS_same hSg_ (by rw [cv300_, cs182_]; exact hWd_) mn29_ mg32_ mg33_ mg34_ mg35_ mg36_
  clear hc1_
  refine j_pop E 1289 rfl dL_law_1288 rfl ?_
  refine j_goto E 1315 dL_law_1289 (by decide) ?_
  exact W.widen (by omega) (by omega) (next _ _ _ _ _ _ ls hw ⟨by omega, by omega, by omega, by omega⟩ hr2_n_ hra_n_ hrk_n_ hrs_n_ hrf_n_ hl)
set_option maxHeartbeats 4000000 in
set_option maxRecDepth 100000 in
theorem lc_30 {p : Program} {l : Launch} {e : Env} {s : State} {m : MethodId} {below : List Frame} {meth : Method} {c : Code} {H : Heap} {locs : List Loc} {cells slots : Nat} {QW : State → Prop} {ls : Array Slot} {D : va_G} {cy : Nat → ClassId} {κ T : Nat → Nat → Nat} {v : Nat → Nat → Int} {q : Nat → Nat} {n : Nat → Int} {f : Nat → Int → Int} {x b L : Nat} {xs : Nat → Int32} (E : CX p s m #[Value.ref b] meth c RL cL_law 4 ret) (hK : KK D cy s) (hZ : ZZ κ s s.heap) (hκ : κ 2 0 < s.heap.size) (hX : va_X b L xs s s.heap) (hbl : b < s.heap.size) (hL : L ≤ 4096) {i : Int} (hi : 0 ≤ i ∧ i + 8 ≤ (L : Int)) (hf : cells + 6 ≤ 600000 ∧ slots + 7000 ≤ 7302250) (hw : LW D cy κ x T v q n f s H locs) (hR : RB T v x n) (hR2 : R2 T v x n f) (hRA : RA T v x n f) (hRK : RBk T v x n f) (hRS : RS T v x n f) (hRF : Fut_ (f 18) (n 1) (n 12)) (hl : lv_has ls 4 [(0, .ref b), (1, .ref x), (2, .ref (q 0)), (3, .int (J i))])
    (next : ∀ (T : Nat → Nat → Nat) (v : Nat → Nat → Int) (n : Nat → Int) (f : Nat → Int → Int) (H : Heap) (locs : List Loc) (ls : Array Slot), LW D cy κ x T v q n f s H locs → RB T v x n → R2 T v x n f → RA T v x n f → RBk T v x n f → RS T v x n f → Fut_ (f 18) (n 1) (n 12) → lv_has ls 4 [(0, .ref b), (1, .ref x), (2, .ref (q 0)), (3, .int (J i))] → W p l e room_1 s m #[Value.ref b] below meth c H locs (cells + 6) (slots + 7000) QW (F0 m 1315 ls [])) : W p l e room_1 s m #[Value.ref b] below meth c H locs cells slots QW (F0 m 1292 ls []) := by
  obtain ⟨hr1_, hr2_, hr3_, hr4_⟩ := hR
  have hMI_ := hw.2.2.2.2.2.1
  have j1_ := hMI_.1
  have j2_ := hMI_.2.1
  have j3_ := hMI_.2.2.1
  have j4_ := hMI_.2.2.2.1
  have j5_ := hMI_.2.2.2.2.1
  have m_book := hMI_.2.2.2.2.2.2.2.2.2.2.1
  have m_cod := hMI_.2.2.2.2.2.2.2.2.2.2.2.2.2.1
  clear hMI_
  obtain ⟨S1_, S2_, S3_, hWd_, hSg_⟩ := hRS
  have hwC_ := hw.1
  have t9_ := hw.2.1
  have hnw_ : ∀ q_, H.size ≤ q_ → ∀ i_ : Nat, (i_ : Int) < v 202 (T 181 x) → ∀ y_ : Nat, ELn_ T 181 x i_ = y_ + 1 → y_ ≠ q_ := fun q_ hq_ => fr_of hwC_ (wt_181 hwC_.2.1 t9_) hq_
  have ra1_ := hRA.1
  have ra2_ := hRA.2.1
  have ra3_ := hRA.2.2.1
  refine j_aload_n E 1293 rfl dL_law_1292 rfl (lv_at hl 1 rfl) ?_
  refine j_aload_n E 1294 rfl dL_law_1293 rfl (lv_at hl 0 rfl) ?_
  refine j_iload_n E 1295 rfl dL_law_1294 rfl (lv_at hl 3 rfl) ?_
  refine j_iconst E 1296 rfl dL_law_1295 ?_
  refine j_iadd E 1297 rfl dL_law_1296 ?_
  refine lw_ld E hX hbl hL hw (by omega) 1298 rfl dL_law_1297 ?_
  refine lw_C E (c_X9_look l D cy T v x ((xs (i + 1).toNat).toInt) hw.2.1 (inR_toInt _)) mt_X9_look ml_L_146 hK hw rfl ⟨(Nat.le_of_ble_eq_true rfl), (Nat.le_of_ble_eq_true rfl)⟩ ⟨show cells ≤ 600000 by omega, show slots ≤ 7302250 by omega⟩ (As := [.int (J (xs (i + 1).toNat).toInt)]) (rest := []) rfl rfl hl.1 (Nat.le_of_ble_eq_true rfl) 1301 rfl dL_law_1298 (fun z1_ v1_ H locs rz1_ hz1_ hw => ?_)
  obtain ⟨ev1_, hc1_⟩ := hz1_
  have ca186_ : v1_ 186 x = v 186 x := congrFun (congrFun ev1_ 186) x
  have ca187_ : v1_ 187 x = v 187 x := congrFun (congrFun ev1_ 187) x
  have ca190_ : v1_ 190 x = v 190 x := congrFun (congrFun ev1_ 190) x
  have ca191_ : v1_ 191 x = v 191 x := congrFun (congrFun ev1_ 191) x
  have cs180_ : v1_ 202 (T 180 x) = v 202 (T 180 x) := congrFun (congrFun ev1_ 202) (T 180 x)
  have cs181_ : v1_ 202 (T 181 x) = v 202 (T 181 x) := congrFun (congrFun ev1_ 202) (T 181 x)
  have cs182_ : v1_ 202 (T 182 x) = v 202 (T 182 x) := congrFun (congrFun ev1_ 202) (T 182 x)
  have cv40_ : v1_ 40 = v 40 := congrFun ev1_ 40
  have cv41_ : v1_ 41 = v 41 := congrFun ev1_ 41
  have cv42_ : v1_ 42 = v 42 := congrFun ev1_ 42
  have cv43_ : v1_ 43 = v 43 := congrFun ev1_ 43
  have cv44_ : v1_ 44 = v 44 := congrFun ev1_ 44
  have cv303_ : v1_ 303 = v 303 := congrFun ev1_ 303
  have cv25_ : v1_ 25 = v 25 := congrFun ev1_ 25
  have cv300_ : v1_ 300 = v 300 := congrFun ev1_ 300
  clear ev1_
  refine j_pop E 1302 rfl dL_law_1301 rfl ?_
  refine j_aload_n E 1303 rfl dL_law_1302 rfl (lv_at hl 2 rfl) ?_
  refine j_aload_n E 1304 rfl dL_law_1303 rfl (lv_at hl 0 rfl) ?_
  refine j_iload_n E 1305 rfl dL_law_1304 rfl (lv_at hl 3 rfl) ?_
  refine j_iconst E 1306 rfl dL_law_1305 ?_
  refine j_iadd E 1307 rfl dL_law_1306 ?_
  refine lw_ld E hX hbl hL hw (by omega) 1308 rfl dL_law_1307 ?_
  refine lw_M E (c_X10_look l D cy q n f ((xs (i + 1).toNat).toInt) (inR_toInt _) hw.2.2.2.2.2.1 ) mt_X10_look ml_L_149 hK hw rfl hκ ⟨(Nat.le_of_ble_eq_true rfl), (Nat.le_of_ble_eq_true rfl)⟩ ⟨show cells ≤ 600000 by omega, show slots ≤ 7302250 by omega⟩ (As := [.int (J (xs (i + 1).toNat).toInt)]) (rest := []) rfl rfl hl.1 (Nat.le_of_ble_eq_true rfl) 1311 rfl dL_law_1308 (fun z n2 f2 h => by obtain ⟨_, e1, e2, h, -⟩ := h; rw [e1, e2]; exact h) (fun z2_ n2_ f2_ H locs rz2_ hz2_ hw => ?_)
  obtain ⟨x0m2_, em2_, ef2_, -, hm2_⟩ := hz2_
  have mg3_ : f2_ 3 = f 3 := congrFun ef2_ 3
  have mg4_ : f2_ 4 = f 4 := congrFun ef2_ 4
  have mg5_ : f2_ 5 = f 5 := congrFun ef2_ 5
  have mg6_ : f2_ 6 = f 6 := congrFun ef2_ 6
  have mg7_ : f2_ 7 = f 7 := congrFun ef2_ 7
  have mg18_ : f2_ 18 = f 18 := congrFun ef2_ 18
  have mg22_ : f2_ 22 = f 22 := congrFun ef2_ 22
  have mg32_ : f2_ 32 = f 32 := congrFun ef2_ 32
  have mg33_ : f2_ 33 = f 33 := congrFun ef2_ 33
  have mg34_ : f2_ 34 = f 34 := congrFun ef2_ 34
  have mg35_ : f2_ 35 = f 35 := congrFun ef2_ 35
  have mg36_ : f2_ 36 = f 36 := congrFun ef2_ 36
  have mg67_ : f2_ 67 = f 67 := congrFun ef2_ 67
  have mn1_ : n2_ 1 = n 1 := congrFun em2_ 1
  have mn2_ : n2_ 2 = n 2 := congrFun em2_ 2
  have mn12_ : n2_ 12 = n 12 := congrFun em2_ 12
  have mn23_ : n2_ 23 = n 23 := congrFun em2_ 23
  have mn29_ : n2_ 29 = n 29 := congrFun em2_ 29
  have mn43_ : n2_ 43 = n 43 := congrFun em2_ 43
  have mn44_ : n2_ 44 = n 44 := congrFun em2_ 44
  clear em2_
  clear ef2_
  have hr2_n_ := R2_same hR2 (fun _ => rfl) cv40_ cv41_ cv42_ cv43_ cv44_ mn2_ mg3_ mg4_ mg5_ mg6_ mg7_
  have hra_n_ := RA_same hRA cs182_ ca190_ ca191_ rfl cv303_ mn29_ mn43_ mn44_ (by omega) mg22_
  have hrf_n_ : Fut_ (f2_ 18) (n2_ 1) (n2_ 12) := by rw [mg18_, mn1_, mn12_]; exact hRF
  have hrk_n_ := RBk_same hRK (fun _ => rfl) cv25_ mn12_ mg67_
  have hrs_n_ : RS T v1_ x n2_ f2_ := RS_same hSg_ (by rw [cv300_, cs182_]; exact hWd_) mn29_ mg32_ mg33_ mg34_ mg35_ mg36_
  clear hc1_
  refine j_pop E 1312 rfl dL_law_1311 rfl ?_
  refine j_goto E 1315 dL_law_1312 (by decide) ?_
  exact W.widen (by omega) (by omega) (next _ _ _ _ _ _ ls hw ⟨by omega, by omega, by omega, by omega⟩ hr2_n_ hra_n_ hrk_n_ hrs_n_ hrf_n_ hl)
