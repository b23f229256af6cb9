theorem ls_ne {T : Nat → Nat → Nat} (h : WT T) {o : Nat} (ho : T 0 o = 9) : T 180 o ≠ T 181 o ∧ T 180 o ≠ T 182 o ∧ T 180 o ≠ T 183 o ∧ T 181 o ≠ T 180 o ∧ T 181 o ≠ T 182 o ∧ T 181 o ≠ T 183 o ∧ T 182 o ≠ T 180 o ∧ T 182 o ≠ T 181 o ∧ T 182 o ≠ T 183 o ∧ T 183 o ≠ T 180 o ∧ T 183 o ≠ T 181 o ∧ T 183 o ≠ T 182 o := ⟨fun e => (by have q1 := we_180 h ho; have q2 := we_181 h ho; rw [e, q2] at q1; cases q1), fun e => (by have q1 := we_180 h ho; have q2 := we_182 h ho; rw [e, q2] at q1; cases q1), fun e => (by have q1 := we_180 h ho; have q2 := we_183 h ho; rw [e, q2] at q1; cases q1), fun e => (by have q1 := we_181 h ho; have q2 := we_180 h ho; rw [e, q2] at q1; cases q1), fun e => (by have q1 := we_181 h ho; have q2 := we_182 h ho; rw [e, q2] at q1; cases q1), fun e => (by have q1 := we_181 h ho; have q2 := we_183 h ho; rw [e, q2] at q1; cases q1), fun e => (by have q1 := we_182 h ho; have q2 := we_180 h ho; rw [e, q2] at q1; cases q1), fun e => (by have q1 := we_182 h ho; have q2 := we_181 h ho; rw [e, q2] at q1; cases q1), fun e => (by have q1 := we_182 h ho; have q2 := we_183 h ho; rw [e, q2] at q1; cases q1), fun e => (by have q1 := we_183 h ho; have q2 := we_180 h ho; rw [e, q2] at q1; cases q1), fun e => (by have q1 := we_183 h ho; have q2 := we_181 h ho; rw [e, q2] at q1; cases q1), fun e => (by have q1 := we_183 h ho; have q2 := we_182 h ho; rw [e, q2] at q1; cases q1)⟩
theorem le13_ {a b : Int} (e : a = b) (h : 1 ≤ b ∧ b ≤ 3) : 1 ≤ a ∧ a ≤ 3 := by rw [e]; exact h
theorem rf_e {K V : Int → Int} {k k2 j : Int} (e : k2 = k) (h : Rf_ K V k j) : Rf_ K V k2 j := by rw [e]; exact h
theorem ty_neq {T : Nat → Nat → Nat} {a b t : Nat} (h1 : T 0 b = 24 ∨ T 0 b = 26) (h2 : T 0 a = t) (h3 : t ≠ 24) (h4 : t ≠ 26) : b ≠ a := fun e => by
  rw [e, h2] at h1
  exact h1.elim h3 h4
theorem fr_of {D : va_G} {cy : Nat → ClassId} {T : Nat → Nat → Nat} {v : Nat → Nat → Int} {H : Heap} {L q : Nat} (hw : WC D cy T v H) (hL : T 0 L = 10) (hq : H.size ≤ q) : ∀ i_ : Nat, (i_ : Int) < v 202 L → ∀ y_ : Nat, T (1000 + i_) (T 201 L) = y_ + 1 → y_ ≠ q := by
  intro i_ h_ y_ e_
  obtain ⟨x_, hx_, tx_⟩ := (hw.2.2.1 L hL).2.2 i_ h_
  rw [dcd_i e_] at hx_
  have e2_ := Option.some.inj hx_
  have lt_ := cw_lte hw tx_ (wt10 hw.2.1 hL).2.2
  omega
/-- a wording that was made: its code, its tokens, how far others are -/
def Wq_ (U : Nat → Nat → Nat) (y num : Nat → Int) (q : Nat) (w cnt : Int) (K V : Int → Int) (s1 s2 s3 : List Int) : Prop := lL_ (gC_ y (U 162 q)) 0 (U 1 (U 162 q) : Int) = s1 ++ (wh_ s2 ++ ul_ s3) ∧ (U 1 (U 161 q) : Int) = cnt ∧ (∀ i, 0 ≤ i → i < cnt → gC_ y (U 161 q) i = tc_ (K i) (V i)) ∧ (U 1 (U 163 q) : Int) = w ∧ (∀ j, 0 ≤ j → j < w → gC_ y (U 163 q) j = -1) ∧ num q = w
theorem Wq_mv {U U2 : Nat → Nat → Nat} {y num num2 : Nat → Int} {q : Nat} {w cnt : Int} {K V : Int → Int} {s1 s2 s3 : List Int} (h : Wq_ U y num q w cnt K V s1 s2 s3) (e0 : ∀ k, U2 k q = U k q) (e1 : U2 1 (U 161 q) = U 1 (U 161 q)) (e2 : U2 1 (U 162 q) = U 1 (U 162 q)) (e3 : U2 1 (U 163 q) = U 1 (U 163 q)) (en : num2 q = num q) : Wq_ U2 y num2 q w cnt K V s1 s2 s3 := by
  unfold Wq_
  rw [e0 161, e0 162, e0 163, e1, e2, e3, en]
  exact h
theorem wq_mk {U : Nat → Nat → Nat} {yr yt yc yi num : Nat → Int} {xt xc q rc ka va : Nat} {w cnt jn cc : Int} {K V : Int → Int} {s1 s2 s3 : List Int} (ll : lL_ (gC_ yr rc) 0 cc = s1 ++ (wh_ s2 ++ ul_ s3)) (rk : RK_ yr ka va cnt K V) (ej : cnt = jn) (ct : ∀ i : Int, 0 ≤ i → i < cnt → gC_ yt xt i = tc_ (gC_ yr ka i) (gC_ yr va i)) (cb : ∀ i : Nat, (i : Int) < cc → yc (pr xc i) = yt (pr rc i)) (f1 : ∀ i, yt (pr rc i) = yr (pr rc i)) (f2 : ∀ i, yc (pr xt i) = yt (pr xt i)) (f3 : ∀ i, yi (pr xt i) = yc (pr xt i)) (f4 : ∀ i, yi (pr xc i) = yc (pr xc i)) (lt : U 1 xt = cnt.toNat) (lc : U 1 xc = cc.toNat) (h0 : 0 ≤ cnt) (h1 : 0 ≤ cc) (et : U 161 q = xt) (ec : U 162 q = xc) (el : U 1 (U 163 q) = w.toNat) (hw0 : 0 ≤ w) (ed : ∀ j, 0 ≤ j → j < w → gC_ yi (U 163 q) j = -1) (en : num q = w) : Wq_ U yi num q w jn K V s1 s2 s3 := by
  subst ej
  refine ⟨?_, ?_, ?_, ?_, ed, en⟩
  · rw [ec, lc, Int.toNat_of_nonneg h1, ← ll]
    exact lL_cg (fun i a b => by
      show yi (pr xc i.toNat) = yr (pr rc i.toNat)
      rw [f4, cb i.toNat (by omega), f1])
  · rw [et, lt]
    omega
  · intro i a b
    rw [et]
    have q1 := ct i a b
    rw [(rk.1 i a b).1, (rk.1 i a b).2.1] at q1
    show yi (pr xt i.toNat) = _
    rw [f3, f2]
    exact q1
  · rw [el]
    omega
def Wc_ (g : Int → Int) (nn s0 s2 z k2 p2 : Int) (N : Prop) (A : (Int → Int) → (Int → Int) → Int → List Int → List Int → List Int → Prop) : Prop := (32 ≤ s0 ∧ z = -1 ∧ k2 = 0 ∧ p2 = -1 ∧ s2 = s0 ∧ N) ∨ (s0 < 32 ∧ ∃ K V P Q : Int → Int, Strm_ g nn K V P Q ∧ ((z = s0 ∧ s2 = s0 + 1 ∧ k2 = 0 ∧ p2 = -1 ∧ ∃ (jn : Int) (a1 a2 a3 : List Int), 0 ≤ jn ∧ Ra_ K V 9 jn [a3, a2, a1] ∧ A K V jn a1 a2 a3) ∨ (z = -1 ∧ s2 = s0 ∧ (1 ≤ k2 ∧ k2 ≤ 3) ∧ (∃ jn : Int, p2 = P jn ∧ Rf_ K V k2 jn) ∧ N)))
theorem rk_cj {y : Nat → Int} {ka va : Nat} {cnt j : Int} {K V : Int → Int} {sg : List (List Int)} (h : RK_ y ka va cnt K V) (h0 : 0 ≤ j) (hr : Ra_ K V 9 j sg) (hk : K j = 1) : cnt = j := by
  have q := rd_pas hr
  rcases Int.lt_trichotomy cnt j with e | e | e
  · exact absurd (h.2.1 cnt (Int.le_refl _)) (q cnt h.2.2.1 e).1
  · exact e
  · exact absurd hk (h.1 j h0 e).2.2
/-- old wordings after a change that leaves them as they are -/
theorem wd_ho {D : va_G} {cy : Nat → ClassId} {T T2 : Nat → Nat → Nat} {v : Nat → Nat → Int} {H : Heap} {x sz : Nat} {ks : List Nat} {y2 : Nat → Int} (hw : WC D cy T v H) (hx : T 0 x = 9) (hsz : H.size = sz) (hC : ∀ b, b < sz → T 0 b ≠ 10 → T 0 b ≠ 24 → T 0 b ≠ 26 → b ≠ x → ∀ j, j ≠ 197 → T2 j b = T j b) (hk : KdA_ T sz ks (v 300) y2) (hn : 162 ∉ ks) : ∀ (a : Nat) (w : Int), 0 ≤ w → w < v 202 (T 182 x) → ELn_ T 182 x w.toNat = a + 1 → T2 162 a = T 162 a ∧ T2 1 (T 162 a) = T 1 (T 162 a) ∧ ∀ i, y2 (pr (T 162 a) i) = v 300 (pr (T 162 a) i) := by
  intro a w h0 h1 ha
  have ta : T 0 a = 8 := wl_ty hw (wt_182 hw.2.1 hx) (we_182 hw.2.1 hx) ha h0 h1
  have tr : T 0 (T 162 a) = 20 := wt_162 hw.2.1 ta
  have la : a < sz := hsz ▸ cw_lt hw ta (fun _ _ _ => ⟨_, rfl⟩)
  have lr : T 162 a < sz := hsz ▸ cw_lt hw tr (fun _ _ _ => ⟨_, rfl⟩)
  have na : a ≠ x := fun e => by rw [e, hx] at ta; cases ta
  have nr : T 162 a ≠ x := fun e => by rw [e, hx] at tr; cases tr
  refine ⟨hC a la (by omega) (by omega) (by omega) na 162 (by decide), hC _ lr (by omega) (by omega) (by omega) nr 1 (by decide), fun i => hk _ lr tr ?_ i⟩
  rw [wok (wo_162 hw.2.1 ta) (by decide)]
  exact hn
theorem wd_mv {T T2 : Nat → Nat → Nat} {y y2 : Nat → Int} {x : Nat} {sz : Int} {S1 S2 S3 : Int → List Int} (h : Wd_ T y x sz S1 S2 S3) (he : ∀ i : Nat, (i : Int) < sz → ELn_ T2 182 x i = ELn_ T 182 x i) (ho : ∀ (a : Nat) (w : Int), 0 ≤ w → w < sz → ELn_ T 182 x w.toNat = a + 1 → T2 162 a = T 162 a ∧ T2 1 (T 162 a) = T 1 (T 162 a) ∧ ∀ i, y2 (pr (T 162 a) i) = y (pr (T 162 a) i)) : Wd_ T2 y2 x sz S1 S2 S3 := by
  intro w h0 h1 a ha
  rw [he w.toNat (by omega)] at ha
  obtain ⟨e1, e2, e3⟩ := ho a w h0 h1 ha
  rw [e1, e2]
  exact wd_at h h0 h1 ha e3
set_option maxHeartbeats 4000000 in
set_option maxRecDepth 100000 in
theorem n_X1_init_n2 (l : Launch) (D : va_G) (cy : Nat → ClassId) (κ T : Nat → Nat → Nat) (v_0 : Nat → Nat → Int) (o : Nat) (v_a : Int) (v_b : Int) (v_c : Int) (sz : Nat) (hO : ∀ x, ow T x → κ 2 2 ≤ x) (t_o : T 0 o = 102) (r_v_a : inR v_a) (r_v_b : inR v_b) (r_v_c : inR v_c) : KA l D cy κ T yX1_init cX1_init 4 none 2 3 72 [.ref o, .int (J v_a), .int (J v_b), .int (J v_c)] v_0 sz (AV (fun (T_2 : Nat → Nat → Nat) (v_2 : Nat → Nat → Int) => ∃ (y40_2 : Nat → Int) (y41_2 : Nat → Int) (y42_2 : Nat → Int) (y43_2 : Nat → Int) (y44_2 : Nat → Int) (y45_2 : Nat → Int) (y300_2 : Nat → Int) , v_2 = upV (upV (upV (upV (upV (upV (upV v_0 40 y40_2) 41 y41_2) 42 y42_2) 43 y43_2) 44 y44_2) 45 y45_2) 300 y300_2 ∧ (((∀ b, b < sz → b ≠ o → ∀ k, T_2 k b = T k b) ∧ T_2 0 o = 2 ∧ (y40_2) = upB (v_0 40) o v_a ∧ (y41_2) = upB (v_0 41) o v_b ∧ (y42_2) = upB (v_0 42) o v_c ∧ (y43_2) = upB (v_0 43) o (-1) ∧ (y44_2) = upB (v_0 44) o 0 ∧ (y45_2) = upB (v_0 45) o (-1)) ∧ KdA_ T sz [] (v_0 300) y300_2))) := by
  refine KA.ofv (by decide) (Nat.le_of_ble_eq_true rfl) hO ?_
  intro p e s m below meth c ls ar QW A0 H locs E hK hZ hA hAc hsz hszH_ hnm hw hlo_ hl hret
  have hl : lv_has ls 4 [(0, .ref o), (1, .int (J v_a)), (2, .int (J v_b)), (3, .int (J v_c))] := hl
  have hT : WT T := hw.1.2.1
  have hoT_ : OW T T s.heap.size := OW.rf T _
  have hC_ : ∀ b, b < sz → T 0 b ≠ 10 → T 0 b ≠ 24 → T 0 b ≠ 26 → b ≠ o → ∀ j, j ≠ 197 → T j b = T j b := fun _ _ _ _ _ _ _ _ => rfl
  have hR_ : ∀ b, b < sz → b ≠ o → ∀ k, T k b = T k b := fun b _ _ k => rfl
  refine j_aload_n E 1 rfl dX1_init_0 rfl (lv_at hl 0 rfl) ?_
  refine W.objInit E.1 E.2.1 E.2.2.2.1 (E.2.2.2.2.1 _ mo_X1_3) (E.2.2.2.2.1 _ im_ob) (E.2.2.2.2.1 _ cd_ob) rfl (by rw [E.2.2.1]; exact hl.1) rfl dX1_init_1 (Nat.le_of_ble_eq_true rfl) (Nat.le_of_ble_eq_true rfl) ?_
  show W p l e (rmd 2 3 72) s m ar below meth c H locs _ _ QW (F0 m 4 ls [])
  refine j_aload_n E 5 rfl dX1_init_4 rfl (lv_at hl 0 rfl) ?_
  refine j_iconst E 6 rfl dX1_init_5 ?_
  refine rp_43 E hK hw fl_X1_9 t_o (rr (by decide)) 9 rfl dX1_init_6 (fun H locs hw => ?_)
  have hw : WK D cy T (upV v_0 43 (upB (v_0 43) o ((-1)))) A0 s.heap H locs := cw_eq hw (by first | rfl | (funext j_; simp only [upV, reduceIte]; (repeat' split) <;> first | rfl | omega | (subst_vars; rfl)))
  refine j_aload_n E 10 rfl dX1_init_9 rfl (lv_at hl 0 rfl) ?_
  refine j_iconst E 11 rfl dX1_init_10 ?_
  refine rp_44 E hK hw fl_X1_15 t_o (rr (by decide)) (Or.inl rfl) 14 rfl dX1_init_11 (fun H locs hw => ?_)
  have hw : WK D cy T (upV (upV v_0 43 (upB (v_0 43) o ((-1)))) 44 (upB (v_0 44) o 0)) A0 s.heap H locs := cw_eq hw (by first | rfl | (funext j_; simp only [upV, reduceIte]; (repeat' split) <;> first | rfl | omega | (subst_vars; rfl)))
  refine j_aload_n E 15 rfl dX1_init_14 rfl (lv_at hl 0 rfl) ?_
  refine j_iconst E 16 rfl dX1_init_15 ?_
  refine rp_45 E hK hw fl_X1_19 t_o (rr (by decide)) 19 rfl dX1_init_16 (fun H locs hw => ?_)
  have hw : WK D cy T (upV (upV (upV v_0 43 (upB (v_0 43) o ((-1)))) 44 (upB (v_0 44) o 0)) 45 (upB (v_0 45) o ((-1)))) A0 s.heap H locs := cw_eq hw (by first | rfl | (funext j_; simp only [upV, reduceIte]; (repeat' split) <;> first | rfl | omega | (subst_vars; rfl)))
  refine j_aload_n E 20 rfl dX1_init_19 rfl (lv_at hl 0 rfl) ?_
  refine j_bipush E 22 rfl dX1_init_20 (by decide) ?_
  have hw0_ := hw
  refine n_arr20 E hK hw hA (300 * o + 46) 24 (by decide) (by decide) (Nat.le_of_ble_eq_true rfl) (Nat.le_of_ble_eq_true rfl) 24 rfl dX1_init_22 (fun q4_ T4_ y300_4 H hge4_ hx4_ ho4_ tq4_ tl4_ tw4_ yz4_ yo4_ hw => ?_)
  have fq4_ : s.heap.size ≤ q4_ := Nat.le_trans hw0_.2.2.1 hge4_
  have hw : WK D cy T4_ (upV (upV (upV (upV v_0 43 (upB (v_0 43) o ((-1)))) 44 (upB (v_0 44) o 0)) 45 (upB (v_0 45) o ((-1)))) 300 y300_4) A0 s.heap H locs := cw_eq hw (by first | rfl | (funext j_; simp only [upV, reduceIte]; (repeat' split) <;> first | rfl | omega | (subst_vars; rfl)))
  have yo4_ : ∀ b, b ≠ q4_ → ∀ i, y300_4 (pr b i) = v_0 300 (pr b i) := yo4_
  have kd5_ : KdA_ T sz [] (v_0 300) (y300_4) := KdA_tr KdA_rf (KdA_new yo4_ (by omega))
  have hT4_ : WT T4_ := hw.1.2.1
  have hO4_ : ∀ x, ow T4_ x → κ 2 2 ≤ x := fun x h => hAc x (hw.2.1 x h)
  have hoT_ : OW T T4_ s.heap.size := OW.tr hw0_.2.2.1 hoT_ ho4_
  have hC_ : ∀ b, b < sz → T 0 b ≠ 10 → T 0 b ≠ 24 → T 0 b ≠ 26 → b ≠ o → ∀ j, j ≠ 197 → T4_ j b = T j b := fun b_ h1_ h2_ h3_ h4_ h5_ j_ h6_ => (hx4_ b_ (by have := hw0_.2.2.1; have := hge4_; omega) j_).trans (hC_ b_ h1_ h2_ h3_ h4_ h5_ j_ h6_)
  have hR_ : ∀ b, b < sz → b ≠ o → ∀ k, T4_ k b = T k b := fun b_ h1_ h2_ k_ => (hx4_ b_ (by have := hw0_.2.2.1; have := hge4_; omega) k_).trans (hR_ b_ h1_ h2_ k_)
  have u6_ : T4_ 0 o = 102 := (hx4_ o (Nat.ne_of_lt (Nat.lt_of_lt_of_le (cw_lt hw0_.1 t_o (fun _ _ _ => ⟨_, rfl⟩)) hge4_)) 0).trans t_o
  have hw0_ := hw
  refine rr_46 E hK hw hnm fl_X1_22 u6_ 27 rfl dX1_init_24 (fun T7_ H locs hx7_ hj7_ hk7_ ho7_ hw => ?_)
  have hT7_ : WT T7_ := hw.1.2.1
  have hO7_ : ∀ x, ow T7_ x → κ 2 2 ≤ x := fun x h => hAc x (hw.2.1 x h)
  have hoT_ : OW T T7_ s.heap.size := OW.tr0 hoT_ ho7_
  have hC_ : ∀ b, b < sz → T 0 b ≠ 10 → T 0 b ≠ 24 → T 0 b ≠ 26 → b ≠ o → ∀ j, j ≠ 197 → T7_ j b = T j b := fun b_ h1_ h2_ h3_ h4_ h5_ j_ h6_ => (hx7_ b_ h5_ j_).trans (hC_ b_ h1_ h2_ h3_ h4_ h5_ j_ h6_)
  have hR_ : ∀ b, b < sz → b ≠ o → ∀ k, T7_ k b = T k b := fun b_ h1_ h2_ k_ => (hx7_ b_ h2_ k_).trans (hR_ b_ h1_ h2_ k_)
  have u8_ : T7_ 0 o = 102 := (hj7_ 0 (by decide)).trans u6_
  have u9_ : T7_ 0 q4_ = 20 := (hx7_ q4_ (ty_ne tq4_ u6_ (by decide)) 0).trans tq4_
  have u10_ : T7_ 1 q4_ = 24 := (hx7_ q4_ (ty_ne tq4_ u6_ (by decide)) 1).trans tl4_
  have u11_ : T7_ 3 q4_ = 300 * o + 46 := (hx7_ q4_ (ty_ne tq4_ u6_ (by decide)) 3).trans tw4_
  refine j_aload_n E 28 rfl dX1_init_27 rfl (lv_at hl 0 rfl) ?_
  refine j_bipush E 30 rfl dX1_init_28 (by decide) ?_
  have hw0_ := hw
  refine n_arr20 E hK hw hA (300 * o + 47) 24 (by decide) (by decide) (Nat.le_of_ble_eq_true rfl) (Nat.le_of_ble_eq_true rfl) 32 rfl dX1_init_30 (fun q12_ T12_ y300_12 H hge12_ hx12_ ho12_ tq12_ tl12_ tw12_ yz12_ yo12_ hw => ?_)
  have fq12_ : s.heap.size ≤ q12_ := Nat.le_trans hw0_.2.2.1 hge12_
  have hw : WK D cy T12_ (upV (upV (upV (upV v_0 43 (upB (v_0 43) o ((-1)))) 44 (upB (v_0 44) o 0)) 45 (upB (v_0 45) o ((-1)))) 300 y300_12) A0 s.heap H locs := cw_eq hw (by first | rfl | (funext j_; simp only [upV, reduceIte]; (repeat' split) <;> first | rfl | omega | (subst_vars; rfl)))
  have yo12_ : ∀ b, b ≠ q12_ → ∀ i, y300_12 (pr b i) = y300_4 (pr b i) := yo12_
  have kd13_ : KdA_ T sz [] (v_0 300) (y300_12) := KdA_tr kd5_ (KdA_new yo12_ (by omega))
  have hT12_ : WT T12_ := hw.1.2.1
  have hO12_ : ∀ x, ow T12_ x → κ 2 2 ≤ x := fun x h => hAc x (hw.2.1 x h)
  have hoT_ : OW T T12_ s.heap.size := OW.tr hw0_.2.2.1 hoT_ ho12_
  have hC_ : ∀ b, b < sz → T 0 b ≠ 10 → T 0 b ≠ 24 → T 0 b ≠ 26 → b ≠ o → ∀ j, j ≠ 197 → T12_ j b = T j b := fun b_ h1_ h2_ h3_ h4_ h5_ j_ h6_ => (hx12_ b_ (by have := hw0_.2.2.1; have := hge12_; omega) j_).trans (hC_ b_ h1_ h2_ h3_ h4_ h5_ j_ h6_)
  have hR_ : ∀ b, b < sz → b ≠ o → ∀ k, T12_ k b = T k b := fun b_ h1_ h2_ k_ => (hx12_ b_ (by have := hw0_.2.2.1; have := hge12_; omega) k_).trans (hR_ b_ h1_ h2_ k_)
  have u14_ : T12_ 0 o = 102 := (hx12_ o (Nat.ne_of_lt (Nat.lt_of_lt_of_le (cw_lt hw0_.1 u8_ (fun _ _ _ => ⟨_, rfl⟩)) hge12_)) 0).trans u8_
  have u15_ : T12_ 0 q4_ = 20 := (hx12_ q4_ (Nat.ne_of_lt (Nat.lt_of_lt_of_le (cw_lt hw0_.1 u9_ (fun _ _ _ => ⟨_, rfl⟩)) hge12_)) 0).trans u9_
  have u16_ : T12_ 1 q4_ = 24 := (hx12_ q4_ (Nat.ne_of_lt (Nat.lt_of_lt_of_le (cw_lt hw0_.1 u9_ (fun _ _ _ => ⟨_, rfl⟩)) hge12_)) 1).trans u10_
  have u17_ : T12_ 3 q4_ = 300 * o + 46 := (hx12_ q4_ (Nat.ne_of_lt (Nat.lt_of_lt_of_le (cw_lt hw0_.1 u9_ (fun _ _ _ => ⟨_, rfl⟩)) hge12_)) 3).trans u11_
  have u18_ : T12_ 46 o = q4_ + 1 := (hx12_ o (Nat.ne_of_lt (Nat.lt_of_lt_of_le (cw_lt hw0_.1 u8_ (fun _ _ _ => ⟨_, rfl⟩)) hge12_)) 46).trans hk7_
  have hw0_ := hw
  refine rr_47 E hK hw hnm fl_X1_26 u14_ 35 rfl dX1_init_32 (fun T19_ H locs hx19_ hj19_ hk19_ ho19_ hw => ?_)
  have hT19_ : WT T19_ := hw.1.2.1
  have hO19_ : ∀ x, ow T19_ x → κ 2 2 ≤ x := fun x h => hAc x (hw.2.1 x h)
  have hoT_ : OW T T19_ s.heap.size := OW.tr0 hoT_ ho19_
  have hC_ : ∀ b, b < sz → T 0 b ≠ 10 → T 0 b ≠ 24 → T 0 b ≠ 26 → b ≠ o → ∀ j, j ≠ 197 → T19_ j b = T j b := fun b_ h1_ h2_ h3_ h4_ h5_ j_ h6_ => (hx19_ b_ h5_ j_).trans (hC_ b_ h1_ h2_ h3_ h4_ h5_ j_ h6_)
  have hR_ : ∀ b, b < sz → b ≠ o → ∀ k, T19_ k b = T k b := fun b_ h1_ h2_ k_ => (hx19_ b_ h2_ k_).trans (hR_ b_ h1_ h2_ k_)
  have u20_ : T19_ 0 o = 102 := (hj19_ 0 (by decide)).trans u14_
  have u21_ : T19_ 0 q4_ = 20 := (hx19_ q4_ (ty_ne u15_ u14_ (by decide)) 0).trans u15_
  have u22_ : T19_ 0 q12_ = 20 := (hx19_ q12_ (ty_ne tq12_ u14_ (by decide)) 0).trans tq12_
  have u23_ : T19_ 1 q4_ = 24 := (hx19_ q4_ (ty_ne u15_ u14_ (by decide)) 1).trans u16_
  have u24_ : T19_ 1 q12_ = 24 := (hx19_ q12_ (ty_ne tq12_ u14_ (by decide)) 1).trans tl12_
  have u25_ : T19_ 3 q4_ = 300 * o + 46 := (hx19_ q4_ (ty_ne u15_ u14_ (by decide)) 3).trans u17_
  have u26_ : T19_ 3 q12_ = 300 * o + 47 := (hx19_ q12_ (ty_ne tq12_ u14_ (by decide)) 3).trans tw12_
  have u27_ : T19_ 46 o = q4_ + 1 := (hj19_ 46 (by decide)).trans u18_
  refine j_aload_n E 36 rfl dX1_init_35 rfl (lv_at hl 0 rfl) ?_
  refine j_bipush E 38 rfl dX1_init_36 (by decide) ?_
  have hw0_ := hw
  refine n_arr20 E hK hw hA (300 * o + 48) 24 (by decide) (by decide) (Nat.le_of_ble_eq_true rfl) (Nat.le_of_ble_eq_true rfl) 40 rfl dX1_init_38 (fun q28_ T28_ y300_28 H hge28_ hx28_ ho28_ tq28_ tl28_ tw28_ yz28_ yo28_ hw => ?_)
  have fq28_ : s.heap.size ≤ q28_ := Nat.le_trans hw0_.2.2.1 hge28_
  have hw : WK D cy T28_ (upV (upV (upV (upV v_0 43 (upB (v_0 43) o ((-1)))) 44 (upB (v_0 44) o 0)) 45 (upB (v_0 45) o ((-1)))) 300 y300_28) A0 s.heap H locs := cw_eq hw (by first | rfl | (funext j_; simp only [upV, reduceIte]; (repeat' split) <;> first | rfl | omega | (subst_vars; rfl)))
  have yo28_ : ∀ b, b ≠ q28_ → ∀ i, y300_28 (pr b i) = y300_12 (pr b i) := yo28_
  have kd29_ : KdA_ T sz [] (v_0 300) (y300_28) := KdA_tr kd13_ (KdA_new yo28_ (by omega))
  have hT28_ : WT T28_ := hw.1.2.1
  have hO28_ : ∀ x, ow T28_ x → κ 2 2 ≤ x := fun x h => hAc x (hw.2.1 x h)
  have hoT_ : OW T T28_ s.heap.size := OW.tr hw0_.2.2.1 hoT_ ho28_
  have hC_ : ∀ b, b < sz → T 0 b ≠ 10 → T 0 b ≠ 24 → T 0 b ≠ 26 → b ≠ o → ∀ j, j ≠ 197 → T28_ j b = T j b := fun b_ h1_ h2_ h3_ h4_ h5_ j_ h6_ => (hx28_ b_ (by have := hw0_.2.2.1; have := hge28_; omega) j_).trans (hC_ b_ h1_ h2_ h3_ h4_ h5_ j_ h6_)
  have hR_ : ∀ b, b < sz → b ≠ o → ∀ k, T28_ k b = T k b := fun b_ h1_ h2_ k_ => (hx28_ b_ (by have := hw0_.2.2.1; have := hge28_; omega) k_).trans (hR_ b_ h1_ h2_ k_)
  have u30_ : T28_ 0 o = 102 := (hx28_ o (Nat.ne_of_lt (Nat.lt_of_lt_of_le (cw_lt hw0_.1 u20_ (fun _ _ _ => ⟨_, rfl⟩)) hge28_)) 0).trans u20_
  have u31_ : T28_ 0 q4_ = 20 := (hx28_ q4_ (Nat.ne_of_lt (Nat.lt_of_lt_of_le (cw_lt hw0_.1 u21_ (fun _ _ _ => ⟨_, rfl⟩)) hge28_)) 0).trans u21_
  have u32_ : T28_ 0 q12_ = 20 := (hx28_ q12_ (Nat.ne_of_lt (Nat.lt_of_lt_of_le (cw_lt hw0_.1 u22_ (fun _ _ _ => ⟨_, rfl⟩)) hge28_)) 0).trans u22_
  have u33_ : T28_ 1 q4_ = 24 := (hx28_ q4_ (Nat.ne_of_lt (Nat.lt_of_lt_of_le (cw_lt hw0_.1 u21_ (fun _ _ _ => ⟨_, rfl⟩)) hge28_)) 1).trans u23_
  have u34_ : T28_ 1 q12_ = 24 := (hx28_ q12_ (Nat.ne_of_lt (Nat.lt_of_lt_of_le (cw_lt hw0_.1 u22_ (fun _ _ _ => ⟨_, rfl⟩)) hge28_)) 1).trans u24_
  have u35_ : T28_ 3 q4_ = 300 * o + 46 := (hx28_ q4_ (Nat.ne_of_lt (Nat.lt_of_lt_of_le (cw_lt hw0_.1 u21_ (fun _ _ _ => ⟨_, rfl⟩)) hge28_)) 3).trans u25_
  have u36_ : T28_ 3 q12_ = 300 * o + 47 := (hx28_ q12_ (Nat.ne_of_lt (Nat.lt_of_lt_of_le (cw_lt hw0_.1 u22_ (fun _ _ _ => ⟨_, rfl⟩)) hge28_)) 3).trans u26_
  have u37_ : T28_ 46 o = q4_ + 1 := (hx28_ o (Nat.ne_of_lt (Nat.lt_of_lt_of_le (cw_lt hw0_.1 u20_ (fun _ _ _ => ⟨_, rfl⟩)) hge28_)) 46).trans u27_
  have u38_ : T28_ 47 o = q12_ + 1 := (hx28_ o (Nat.ne_of_lt (Nat.lt_of_lt_of_le (cw_lt hw0_.1 u20_ (fun _ _ _ => ⟨_, rfl⟩)) hge28_)) 47).trans hk19_
  have hw0_ := hw
  refine rr_48 E hK hw hnm fl_X1_29 u30_ 43 rfl dX1_init_40 (fun T39_ H locs hx39_ hj39_ hk39_ ho39_ hw => ?_)
  have hT39_ : WT T39_ := hw.1.2.1
  have hO39_ : ∀ x, ow T39_ x → κ 2 2 ≤ x := fun x h => hAc x (hw.2.1 x h)
  have hoT_ : OW T T39_ s.heap.size := OW.tr0 hoT_ ho39_
  have hC_ : ∀ b, b < sz → T 0 b ≠ 10 → T 0 b ≠ 24 → T 0 b ≠ 26 → b ≠ o → ∀ j, j ≠ 197 → T39_ j b = T j b := fun b_ h1_ h2_ h3_ h4_ h5_ j_ h6_ => (hx39_ b_ h5_ j_).trans (hC_ b_ h1_ h2_ h3_ h4_ h5_ j_ h6_)
  have hR_ : ∀ b, b < sz → b ≠ o → ∀ k, T39_ k b = T k b := fun b_ h1_ h2_ k_ => (hx39_ b_ h2_ k_).trans (hR_ b_ h1_ h2_ k_)
  have u40_ : T39_ 0 o = 102 := (hj39_ 0 (by decide)).trans u30_
  have u41_ : T39_ 0 q4_ = 20 := (hx39_ q4_ (ty_ne u31_ u30_ (by decide)) 0).trans u31_
  have u42_ : T39_ 0 q12_ = 20 := (hx39_ q12_ (ty_ne u32_ u30_ (by decide)) 0).trans u32_
  have u43_ : T39_ 0 q28_ = 20 := (hx39_ q28_ (ty_ne tq28_ u30_ (by decide)) 0).trans tq28_
  have u44_ : T39_ 1 q4_ = 24 := (hx39_ q4_ (ty_ne u31_ u30_ (by decide)) 1).trans u33_
  have u45_ : T39_ 1 q12_ = 24 := (hx39_ q12_ (ty_ne u32_ u30_ (by decide)) 1).trans u34_
  have u46_ : T39_ 1 q28_ = 24 := (hx39_ q28_ (ty_ne tq28_ u30_ (by decide)) 1).trans tl28_
  have u47_ : T39_ 3 q4_ = 300 * o + 46 := (hx39_ q4_ (ty_ne u31_ u30_ (by decide)) 3).trans u35_
  have u48_ : T39_ 3 q12_ = 300 * o + 47 := (hx39_ q12_ (ty_ne u32_ u30_ (by decide)) 3).trans u36_
  have u49_ : T39_ 3 q28_ = 300 * o + 48 := (hx39_ q28_ (ty_ne tq28_ u30_ (by decide)) 3).trans tw28_
  have u50_ : T39_ 46 o = q4_ + 1 := (hj39_ 46 (by decide)).trans u37_
  have u51_ : T39_ 47 o = q12_ + 1 := (hj39_ 47 (by decide)).trans u38_
  refine j_aload_n E 44 rfl dX1_init_43 rfl (lv_at hl 0 rfl) ?_
  refine j_iload_n E 45 rfl dX1_init_44 rfl (lv_at hl 1 rfl) ?_
  refine rp_40 E hK hw hnm fl_X1_32 u40_ r_v_a 48 rfl dX1_init_45 (fun H locs hw => ?_)
  have hw : WK D cy T39_ (upV (upV (upV (upV (upV v_0 40 (upB (v_0 40) o v_a)) 43 (upB (v_0 43) o ((-1)))) 44 (upB (v_0 44) o 0)) 45 (upB (v_0 45) o ((-1)))) 300 y300_28) A0 s.heap H locs := cw_eq hw (by first | rfl | (funext j_; simp only [upV, reduceIte]; (repeat' split) <;> first | rfl | omega | (subst_vars; rfl)))
  refine j_aload_n E 49 rfl dX1_init_48 rfl (lv_at hl 0 rfl) ?_
  refine j_iload_n E 50 rfl dX1_init_49 rfl (lv_at hl 2 rfl) ?_
  refine rp_41 E hK hw hnm fl_X1_35 u40_ r_v_b 53 rfl dX1_init_50 (fun H locs hw => ?_)
  have hw : WK D cy T39_ (upV (upV (upV (upV (upV (upV v_0 40 (upB (v_0 40) o v_a)) 41 (upB (v_0 41) o v_b)) 43 (upB (v_0 43) o ((-1)))) 44 (upB (v_0 44) o 0)) 45 (upB (v_0 45) o ((-1)))) 300 y300_28) A0 s.heap H locs := cw_eq hw (by first | rfl | exact (funext fun j_ => if a40_ : j_ = 40 then (by subst a40_; rfl) else if a41_ : j_ = 41 then (by subst a41_; rfl) else if a43_ : j_ = 43 then (by subst a43_; rfl) else if a44_ : j_ = 44 then (by subst a44_; rfl) else if a45_ : j_ = 45 then (by subst a45_; rfl) else if a300_ : j_ = 300 then (by subst a300_; rfl) else (by simp only [upV, if_neg a40_, if_neg a41_, if_neg a43_, if_neg a44_, if_neg a45_, if_neg a300_])))
  refine j_aload_n E 54 rfl dX1_init_53 rfl (lv_at hl 0 rfl) ?_
  refine j_iload_n E 55 rfl dX1_init_54 rfl (lv_at hl 3 rfl) ?_
  refine rp_42 E hK hw hnm fl_X1_38 u40_ r_v_c 58 rfl dX1_init_55 (fun H locs hw => ?_)
  have hw : WK D cy T39_ (upV (upV (upV (upV (upV (upV (upV v_0 40 (upB (v_0 40) o v_a)) 41 (upB (v_0 41) o v_b)) 42 (upB (v_0 42) o v_c)) 43 (upB (v_0 43) o ((-1)))) 44 (upB (v_0 44) o 0)) 45 (upB (v_0 45) o ((-1)))) 300 y300_28) A0 s.heap H locs := cw_eq hw (by first | rfl | exact (funext fun j_ => if a40_ : j_ = 40 then (by subst a40_; rfl) else if a41_ : j_ = 41 then (by subst a41_; rfl) else if a42_ : j_ = 42 then (by subst a42_; rfl) else if a43_ : j_ = 43 then (by subst a43_; rfl) else if a44_ : j_ = 44 then (by subst a44_; rfl) else if a45_ : j_ = 45 then (by subst a45_; rfl) else if a300_ : j_ = 300 then (by subst a300_; rfl) else (by simp only [upV, if_neg a40_, if_neg a41_, if_neg a42_, if_neg a43_, if_neg a44_, if_neg a45_, if_neg a300_])))
  have hw0_ := hw
  obtain ⟨T55_, hx55_, tq55_, xe55_46_, xe55_47_, xe55_48_, ho55_, hw⟩ := pm_2 hw u40_ u50_ u41_ u44_ u47_ u51_ u42_ u45_ u48_ hk39_ u43_ u46_ u49_
  have hT55_ : WT T55_ := hw.1.2.1
  have hO55_ : ∀ x, ow T55_ x → κ 2 2 ≤ x := fun x h => hAc x (hw.2.1 x h)
  have hoT_ : OW T T55_ s.heap.size := OW.tr0 hoT_ ho55_
  have hC_ : ∀ b, b < sz → T 0 b ≠ 10 → T 0 b ≠ 24 → T 0 b ≠ 26 → b ≠ o → ∀ j, j ≠ 197 → T55_ j b = T j b := fun b_ h1_ h2_ h3_ h4_ h5_ j_ h6_ => (hx55_ b_ h5_ j_).trans (hC_ b_ h1_ h2_ h3_ h4_ h5_ j_ h6_)
  have hR_ : ∀ b, b < sz → b ≠ o → ∀ k, T55_ k b = T k b := fun b_ h1_ h2_ k_ => (hx55_ b_ h2_ k_).trans (hR_ b_ h1_ h2_ k_)
  have u56_ : T55_ 1 q4_ = 24 := (hx55_ q4_ (ty_ne u41_ u40_ (by decide)) 1).trans u44_
  have u57_ : T55_ 1 q12_ = 24 := (hx55_ q12_ (ty_ne u42_ u40_ (by decide)) 1).trans u45_
  have u58_ : T55_ 1 q28_ = 24 := (hx55_ q28_ (ty_ne u43_ u40_ (by decide)) 1).trans u46_
  refine j_aload_n E 59 rfl dX1_init_58 rfl (lv_at hl 0 rfl) ?_
  refine g_46 E hK hw fl_X1_22 tq55_ 62 rfl dX1_init_59 ?_
  have ln59_ := wl_46 hT55_ tq55_
  refine j_iconst E 63 rfl dX1_init_62 ?_
  refine kS_v E (c_J7_fill_53178 l D cy T55_ (upV (upV (upV (upV (upV (upV (upV v_0 40 (upB (v_0 40) o v_a)) 41 (upB (v_0 41) o v_b)) 42 (upB (v_0 42) o v_c)) 43 (upB (v_0 43) o ((-1)))) 44 (upB (v_0 44) o 0)) 45 (upB (v_0 45) o ((-1)))) 300 y300_28) (T55_ 46 o) ((-1))   (wt_46 hT55_ tq55_) (rr (by decide)) ) ms_J7_fill_53178 ml_X1_41 hK hw hA ⟨Nat.le_of_ble_eq_true rfl, Nat.le_of_ble_eq_true rfl⟩ ⟨Nat.le_of_ble_eq_true rfl, Nat.le_of_ble_eq_true rfl⟩ (As := [.ref (T55_ 46 o), .int (J ((-1)))]) (rest := []) rfl rfl hl.1 (Nat.le_of_ble_eq_true rfl) 66 rfl dX1_init_63 (fun v_60 H locs hq60_ hw => ?_)
  obtain ⟨y300_60, ev60_, hh60_⟩ := hq60_
  rw [ev60_] at hw; clear ev60_
  have hw : WK D cy T55_ (upV (upV (upV (upV (upV (upV (upV v_0 40 (upB (v_0 40) o v_a)) 41 (upB (v_0 41) o v_b)) 42 (upB (v_0 42) o v_c)) 43 (upB (v_0 43) o ((-1)))) 44 (upB (v_0 44) o 0)) 45 (upB (v_0 45) o ((-1)))) 300 y300_60) A0 s.heap H locs := cw_eq hw (by first | rfl | exact (funext fun j_ => if a40_ : j_ = 40 then (by subst a40_; rfl) else if a41_ : j_ = 41 then (by subst a41_; rfl) else if a42_ : j_ = 42 then (by subst a42_; rfl) else if a43_ : j_ = 43 then (by subst a43_; rfl) else if a44_ : j_ = 44 then (by subst a44_; rfl) else if a45_ : j_ = 45 then (by subst a45_; rfl) else if a300_ : j_ = 300 then (by subst a300_; rfl) else (by simp only [upV, if_neg a40_, if_neg a41_, if_neg a42_, if_neg a43_, if_neg a44_, if_neg a45_, if_neg a300_])))
  obtain ⟨hh60_, kf60_⟩ := hh60_
  have kd61_ : KdA_ T sz [] (v_0 300) (y300_60) := KdA_tr kd29_ (KdA_ro kf60_ (by rw [xe55_46_]; have := fq4_; omega))
  replace hh60_ : ∀ j_, 0 ≤ j_ → j_ < (T55_ 1 (T55_ 46 o) : Int) → gC_ (y300_60) (T55_ 46 o) j_ = (-1 : Int) := hh60_
  refine j_aload_n E 67 rfl dX1_init_66 rfl (lv_at hl 0 rfl) ?_
  refine g_48 E hK hw fl_X1_29 tq55_ 70 rfl dX1_init_67 ?_
  have ln62_ := wl_48 hT55_ tq55_
  refine j_iconst E 71 rfl dX1_init_70 ?_
  refine kS_v E (c_J7_fill_53178 l D cy T55_ (upV (upV (upV (upV (upV (upV (upV v_0 40 (upB (v_0 40) o v_a)) 41 (upB (v_0 41) o v_b)) 42 (upB (v_0 42) o v_c)) 43 (upB (v_0 43) o ((-1)))) 44 (upB (v_0 44) o 0)) 45 (upB (v_0 45) o ((-1)))) 300 y300_60) (T55_ 48 o) ((-1))   (wt_48 hT55_ tq55_) (rr (by decide)) ) ms_J7_fill_53178 ml_X1_41 hK hw hA ⟨Nat.le_of_ble_eq_true rfl, Nat.le_of_ble_eq_true rfl⟩ ⟨Nat.le_of_ble_eq_true rfl, Nat.le_of_ble_eq_true rfl⟩ (As := [.ref (T55_ 48 o), .int (J ((-1)))]) (rest := []) rfl rfl hl.1 (Nat.le_of_ble_eq_true rfl) 74 rfl dX1_init_71 (fun v_63 H locs hq63_ hw => ?_)
  obtain ⟨y300_63, ev63_, hh63_⟩ := hq63_
  rw [ev63_] at hw; clear ev63_
  have hw : WK D cy T55_ (upV (upV (upV (upV (upV (upV (upV v_0 40 (upB (v_0 40) o v_a)) 41 (upB (v_0 41) o v_b)) 42 (upB (v_0 42) o v_c)) 43 (upB (v_0 43) o ((-1)))) 44 (upB (v_0 44) o 0)) 45 (upB (v_0 45) o ((-1)))) 300 y300_63) A0 s.heap H locs := cw_eq hw (by first | rfl | exact (funext fun j_ => if a40_ : j_ = 40 then (by subst a40_; rfl) else if a41_ : j_ = 41 then (by subst a41_; rfl) else if a42_ : j_ = 42 then (by subst a42_; rfl) else if a43_ : j_ = 43 then (by subst a43_; rfl) else if a44_ : j_ = 44 then (by subst a44_; rfl) else if a45_ : j_ = 45 then (by subst a45_; rfl) else if a300_ : j_ = 300 then (by subst a300_; rfl) else (by simp only [upV, if_neg a40_, if_neg a41_, if_neg a42_, if_neg a43_, if_neg a44_, if_neg a45_, if_neg a300_])))
  obtain ⟨hh63_, kf63_⟩ := hh63_
  have kd64_ : KdA_ T sz [] (v_0 300) (y300_63) := KdA_tr kd61_ (KdA_ro kf63_ (by rw [xe55_48_]; have := fq28_; omega))
  replace hh63_ : ∀ j_, 0 ≤ j_ → j_ < (T55_ 1 (T55_ 48 o) : Int) → gC_ (y300_63) (T55_ 48 o) j_ = (-1 : Int) := hh63_
  exact hret 74 T55_ (upV (upV (upV (upV (upV (upV (upV v_0 40 (upB (v_0 40) o v_a)) 41 (upB (v_0 41) o v_b)) 42 (upB (v_0 42) o v_c)) 43 (upB (v_0 43) o ((-1)))) 44 (upB (v_0 44) o 0)) 45 (upB (v_0 45) o ((-1)))) 300 y300_63) _ _ ls _ _ hw hoT_ ⟨(upB (v_0 40) o v_a), (upB (v_0 41) o v_b), (upB (v_0 42) o v_c), (upB (v_0 43) o ((-1))), (upB (v_0 44) o 0), (upB (v_0 45) o ((-1))), y300_63, rfl, ⟨⟨hR_, tq55_, rfl, rfl, rfl, rfl, rfl, rfl⟩, kd64_⟩⟩ (Nat.le_of_ble_eq_true rfl) (Nat.le_of_ble_eq_true rfl) dX1_init_74
set_option maxHeartbeats 4000000 in
set_option maxRecDepth 100000 in
theorem n_X0_init_n2 (l : Launch) (D : va_G) (cy : Nat → ClassId) (κ T : Nat → Nat → Nat) (v_0 : Nat → Nat → Int) (o : Nat) (v_a : Int) (v_b : Int) (sz : Nat) (hO : ∀ x, ow T x → κ 2 2 ≤ x) (t_o : T 0 o = 101) (r_v_a : inR v_a) (r_v_b : inR v_b) (hp0 : v_b = 0 ∨ v_b = 1) : KA l D cy κ T yX0_init cX0_init 3 none 2 1 200 [.ref o, .int (J v_a), .int (J v_b)] v_0 sz (AV (fun (T_2 : Nat → Nat → Nat) (v_2 : Nat → Nat → Int) => ∃ (y20_2 : Nat → Int) (y21_2 : Nat → Int) (y22_2 : Nat → Int) (y23_2 : Nat → Int) (y24_2 : Nat → Int) (y25_2 : Nat → Int) (y302_2 : Nat → Int) , v_2 = upV (upV (upV (upV (upV (upV (upV v_0 20 y20_2) 21 y21_2) 22 y22_2) 23 y23_2) 24 y24_2) 25 y25_2) 302 y302_2 ∧ ((∀ b, b < sz → b ≠ o → ∀ k, T_2 k b = T k b) ∧ T_2 0 o = 1 ∧ (y25_2) = upB (v_0 25) o (-1)))) := by
  refine KA.ofv (by decide) (Nat.le_of_ble_eq_true rfl) hO ?_
  intro p e s m below meth c ls ar QW A0 H locs E hK hZ hA hAc hsz hszH_ hnm hw hlo_ hl hret
  have hl : lv_has ls 3 [(0, .ref o), (1, .int (J v_a)), (2, .int (J v_b))] := hl
  have hT : WT T := hw.1.2.1
  have hoT_ : OW T T s.heap.size := OW.rf T _
  have hC_ : ∀ b, b < sz → T 0 b ≠ 10 → T 0 b ≠ 24 → T 0 b ≠ 26 → b ≠ o → ∀ j, j ≠ 197 → T j b = T j b := fun _ _ _ _ _ _ _ _ => rfl
  have hR_ : ∀ b, b < sz → b ≠ o → ∀ k, T k b = T k b := fun b _ _ k => rfl
  refine j_aload_n E 1 rfl dX0_init_0 rfl (lv_at hl 0 rfl) ?_
  refine W.objInit E.1 E.2.1 E.2.2.2.1 (E.2.2.2.2.1 _ mo_X0_3) (E.2.2.2.2.1 _ im_ob) (E.2.2.2.2.1 _ cd_ob) rfl (by rw [E.2.2.1]; exact hl.1) rfl dX0_init_1 (Nat.le_of_ble_eq_true rfl) (Nat.le_of_ble_eq_true rfl) ?_
  show W p l e (rmd 2 1 200) s m ar below meth c H locs _ _ QW (F0 m 4 ls [])
  refine j_aload_n E 5 rfl dX0_init_4 rfl (lv_at hl 0 rfl) ?_
  refine j_iconst E 6 rfl dX0_init_5 ?_
  refine rp_22 E hK hw fl_X0_9 t_o (rr (by decide)) 9 rfl dX0_init_6 (fun H locs hw => ?_)
  have hw : WK D cy T (upV v_0 22 (upB (v_0 22) o 0)) A0 s.heap H locs := cw_eq hw (by first | rfl | (funext j_; simp only [upV, reduceIte]; (repeat' split) <;> first | rfl | omega | (subst_vars; rfl)))
  refine j_aload_n E 10 rfl dX0_init_9 rfl (lv_at hl 0 rfl) ?_
  refine j_iconst E 11 rfl dX0_init_10 ?_
  refine rp_23 E hK hw fl_X0_15 t_o (rr (by decide)) 14 rfl dX0_init_11 (fun H locs hw => ?_)
  have hw : WK D cy T (upV (upV v_0 22 (upB (v_0 22) o 0)) 23 (upB (v_0 23) o ((-1)))) A0 s.heap H locs := cw_eq hw (by first | rfl | (funext j_; simp only [upV, reduceIte]; (repeat' split) <;> first | rfl | omega | (subst_vars; rfl)))
  refine j_aload_n E 15 rfl dX0_init_14 rfl (lv_at hl 0 rfl) ?_
  refine j_iconst E 16 rfl dX0_init_15 ?_
  refine rp_24 E hK hw fl_X0_18 t_o (rr (by decide)) 19 rfl dX0_init_16 (fun H locs hw => ?_)
  have hw : WK D cy T (upV (upV (upV v_0 22 (upB (v_0 22) o 0)) 23 (upB (v_0 23) o ((-1)))) 24 (upB (v_0 24) o 0)) A0 s.heap H locs := cw_eq hw (by first | rfl | (funext j_; simp only [upV, reduceIte]; (repeat' split) <;> first | rfl | omega | (subst_vars; rfl)))
  refine j_aload_n E 20 rfl dX0_init_19 rfl (lv_at hl 0 rfl) ?_
  refine j_iconst E 21 rfl dX0_init_20 ?_
  refine rp_25 E hK hw fl_X0_21 t_o (rr (by decide)) 24 rfl dX0_init_21 (fun H locs hw => ?_)
  have hw : WK D cy T (upV (upV (upV (upV v_0 22 (upB (v_0 22) o 0)) 23 (upB (v_0 23) o ((-1)))) 24 (upB (v_0 24) o 0)) 25 (upB (v_0 25) o ((-1)))) A0 s.heap H locs := cw_eq hw (by first | rfl | (funext j_; simp only [upV, reduceIte]; (repeat' split) <;> first | rfl | omega | (subst_vars; rfl)))
  refine j_aload_n E 25 rfl dX0_init_24 rfl (lv_at hl 0 rfl) ?_
  refine j_sipush E 28 rfl dX0_init_25 (by decide) ?_
  have hw0_ := hw
  refine n_arr22 E hK hw hA (300 * o + 26) 200 (by decide) (by decide) (Nat.le_of_ble_eq_true rfl) (Nat.le_of_ble_eq_true rfl) 30 rfl dX0_init_28 (fun q5_ T5_ y302_5 H hge5_ hx5_ ho5_ tq5_ tl5_ tw5_ yz5_ yo5_ hw => ?_)
  have fq5_ : s.heap.size ≤ q5_ := Nat.le_trans hw0_.2.2.1 hge5_
  have hw : WK D cy T5_ (upV (upV (upV (upV (upV v_0 22 (upB (v_0 22) o 0)) 23 (upB (v_0 23) o ((-1)))) 24 (upB (v_0 24) o 0)) 25 (upB (v_0 25) o ((-1)))) 302 y302_5) A0 s.heap H locs := cw_eq hw (by first | rfl | (funext j_; simp only [upV, reduceIte]; (repeat' split) <;> first | rfl | omega | (subst_vars; rfl)))
  have yo5_ : ∀ b, b ≠ q5_ → ∀ i, y302_5 (pr b i) = v_0 302 (pr b i) := yo5_
  have hT5_ : WT T5_ := hw.1.2.1
  have hO5_ : ∀ x, ow T5_ x → κ 2 2 ≤ x := fun x h => hAc x (hw.2.1 x h)
  have hoT_ : OW T T5_ s.heap.size := OW.tr hw0_.2.2.1 hoT_ ho5_
  have hC_ : ∀ b, b < sz → T 0 b ≠ 10 → T 0 b ≠ 24 → T 0 b ≠ 26 → b ≠ o → ∀ j, j ≠ 197 → T5_ j b = T j b := fun b_ h1_ h2_ h3_ h4_ h5_ j_ h6_ => (hx5_ b_ (by have := hw0_.2.2.1; have := hge5_; omega) j_).trans (hC_ b_ h1_ h2_ h3_ h4_ h5_ j_ h6_)
  have hR_ : ∀ b, b < sz → b ≠ o → ∀ k, T5_ k b = T k b := fun b_ h1_ h2_ k_ => (hx5_ b_ (by have := hw0_.2.2.1; have := hge5_; omega) k_).trans (hR_ b_ h1_ h2_ k_)
  have u6_ : T5_ 0 o = 101 := (hx5_ o (Nat.ne_of_lt (Nat.lt_of_lt_of_le (cw_lt hw0_.1 t_o (fun _ _ _ => ⟨_, rfl⟩)) hge5_)) 0).trans t_o
  have hw0_ := hw
  refine rr_26 E hK hw hnm fl_X0_24 u6_ 33 rfl dX0_init_30 (fun T7_ H locs hx7_ hj7_ hk7_ ho7_ hw => ?_)
  have hT7_ : WT T7_ := hw.1.2.1
  have hO7_ : ∀ x, ow T7_ x → κ 2 2 ≤ x := fun x h => hAc x (hw.2.1 x h)
  have hoT_ : OW T T7_ s.heap.size := OW.tr0 hoT_ ho7_
  have hC_ : ∀ b, b < sz → T 0 b ≠ 10 → T 0 b ≠ 24 → T 0 b ≠ 26 → b ≠ o → ∀ j, j ≠ 197 → T7_ j b = T j b := fun b_ h1_ h2_ h3_ h4_ h5_ j_ h6_ => (hx7_ b_ h5_ j_).trans (hC_ b_ h1_ h2_ h3_ h4_ h5_ j_ h6_)
  have hR_ : ∀ b, b < sz → b ≠ o → ∀ k, T7_ k b = T k b := fun b_ h1_ h2_ k_ => (hx7_ b_ h2_ k_).trans (hR_ b_ h1_ h2_ k_)
  have u8_ : T7_ 0 o = 101 := (hj7_ 0 (by decide)).trans u6_
  have u9_ : T7_ 0 q5_ = 22 := (hx7_ q5_ (ty_ne tq5_ u6_ (by decide)) 0).trans tq5_
  have u10_ : T7_ 1 q5_ = 200 := (hx7_ q5_ (ty_ne tq5_ u6_ (by decide)) 1).trans tl5_
  have u11_ : T7_ 3 q5_ = 300 * o + 26 := (hx7_ q5_ (ty_ne tq5_ u6_ (by decide)) 3).trans tw5_
  refine j_aload_n E 34 rfl dX0_init_33 rfl (lv_at hl 0 rfl) ?_
  refine j_iload_n E 35 rfl dX0_init_34 rfl (lv_at hl 1 rfl) ?_
  refine rp_20 E hK hw hnm fl_X0_28 u8_ r_v_a 38 rfl dX0_init_35 (fun H locs hw => ?_)
  have hw : WK D cy T7_ (upV (upV (upV (upV (upV (upV v_0 20 (upB (v_0 20) o v_a)) 22 (upB (v_0 22) o 0)) 23 (upB (v_0 23) o ((-1)))) 24 (upB (v_0 24) o 0)) 25 (upB (v_0 25) o ((-1)))) 302 y302_5) A0 s.heap H locs := cw_eq hw (by first | rfl | exact (funext fun j_ => if a20_ : j_ = 20 then (by subst a20_; rfl) else if a22_ : j_ = 22 then (by subst a22_; rfl) else if a23_ : j_ = 23 then (by subst a23_; rfl) else if a24_ : j_ = 24 then (by subst a24_; rfl) else if a25_ : j_ = 25 then (by subst a25_; rfl) else if a302_ : j_ = 302 then (by subst a302_; rfl) else (by simp only [upV, if_neg a20_, if_neg a22_, if_neg a23_, if_neg a24_, if_neg a25_, if_neg a302_])))
  refine j_aload_n E 39 rfl dX0_init_38 rfl (lv_at hl 0 rfl) ?_
  refine j_iload_n E 40 rfl dX0_init_39 rfl (lv_at hl 2 rfl) ?_
  refine rp_21 E hK hw hnm fl_X0_31 u8_ r_v_b (by omega) 43 rfl dX0_init_40 (fun H locs hw => ?_)
  have hw : WK D cy T7_ (upV (upV (upV (upV (upV (upV (upV v_0 20 (upB (v_0 20) o v_a)) 21 (upB (v_0 21) o v_b)) 22 (upB (v_0 22) o 0)) 23 (upB (v_0 23) o ((-1)))) 24 (upB (v_0 24) o 0)) 25 (upB (v_0 25) o ((-1)))) 302 y302_5) A0 s.heap H locs := cw_eq hw (by first | rfl | exact (funext fun j_ => if a20_ : j_ = 20 then (by subst a20_; rfl) else if a21_ : j_ = 21 then (by subst a21_; rfl) else if a22_ : j_ = 22 then (by subst a22_; rfl) else if a23_ : j_ = 23 then (by subst a23_; rfl) else if a24_ : j_ = 24 then (by subst a24_; rfl) else if a25_ : j_ = 25 then (by subst a25_; rfl) else if a302_ : j_ = 302 then (by subst a302_; rfl) else (by simp only [upV, if_neg a20_, if_neg a21_, if_neg a22_, if_neg a23_, if_neg a24_, if_neg a25_, if_neg a302_])))
  have hw0_ := hw
  obtain ⟨T14_, hx14_, tq14_, xe14_26_, ho14_, hw⟩ := pm_1 hw u8_ hk7_ u9_ u10_ u11_
  have hT14_ : WT T14_ := hw.1.2.1
  have hO14_ : ∀ x, ow T14_ x → κ 2 2 ≤ x := fun x h => hAc x (hw.2.1 x h)
  have hoT_ : OW T T14_ s.heap.size := OW.tr0 hoT_ ho14_
  have hC_ : ∀ b, b < sz → T 0 b ≠ 10 → T 0 b ≠ 24 → T 0 b ≠ 26 → b ≠ o → ∀ j, j ≠ 197 → T14_ j b = T j b := fun b_ h1_ h2_ h3_ h4_ h5_ j_ h6_ => (hx14_ b_ h5_ j_).trans (hC_ b_ h1_ h2_ h3_ h4_ h5_ j_ h6_)
  have hR_ : ∀ b, b < sz → b ≠ o → ∀ k, T14_ k b = T k b := fun b_ h1_ h2_ k_ => (hx14_ b_ h2_ k_).trans (hR_ b_ h1_ h2_ k_)
  have u15_ : T14_ 1 q5_ = 200 := (hx14_ q5_ (ty_ne u9_ u8_ (by decide)) 1).trans u10_
  refine j_aload_n E 44 rfl dX0_init_43 rfl (lv_at hl 0 rfl) ?_
  refine g_26 E hK hw fl_X0_24 tq14_ 47 rfl dX0_init_44 ?_
  have ln16_ := wl_26 hT14_ tq14_
  refine j_bipush E 49 rfl dX0_init_47 (by decide) ?_
  refine kS_v E (c_J7_fill_031fb l D cy T14_ (upV (upV (upV (upV (upV (upV (upV v_0 20 (upB (v_0 20) o v_a)) 21 (upB (v_0 21) o v_b)) 22 (upB (v_0 22) o 0)) 23 (upB (v_0 23) o ((-1)))) 24 (upB (v_0 24) o 0)) 25 (upB (v_0 25) o ((-1)))) 302 y302_5) (T14_ 26 o) ((-2))   (wt_26 hT14_ tq14_) (rr (by decide)) ) ms_J7_fill_031fb ml_X0_35 hK hw hA ⟨Nat.le_of_ble_eq_true rfl, Nat.le_of_ble_eq_true rfl⟩ ⟨Nat.le_of_ble_eq_true rfl, Nat.le_of_ble_eq_true rfl⟩ (As := [.ref (T14_ 26 o), .int (J ((-2)))]) (rest := []) rfl rfl hl.1 (Nat.le_of_ble_eq_true rfl) 52 rfl dX0_init_49 (fun v_17 H locs hq17_ hw => ?_)
  obtain ⟨y302_17, ev17_, hh17_⟩ := hq17_
  rw [ev17_] at hw; clear ev17_
  have hw : WK D cy T14_ (upV (upV (upV (upV (upV (upV (upV v_0 20 (upB (v_0 20) o v_a)) 21 (upB (v_0 21) o v_b)) 22 (upB (v_0 22) o 0)) 23 (upB (v_0 23) o ((-1)))) 24 (upB (v_0 24) o 0)) 25 (upB (v_0 25) o ((-1)))) 302 y302_17) A0 s.heap H locs := cw_eq hw (by first | rfl | exact (funext fun j_ => if a20_ : j_ = 20 then (by subst a20_; rfl) else if a21_ : j_ = 21 then (by subst a21_; rfl) else if a22_ : j_ = 22 then (by subst a22_; rfl) else if a23_ : j_ = 23 then (by subst a23_; rfl) else if a24_ : j_ = 24 then (by subst a24_; rfl) else if a25_ : j_ = 25 then (by subst a25_; rfl) else if a302_ : j_ = 302 then (by subst a302_; rfl) else (by simp only [upV, if_neg a20_, if_neg a21_, if_neg a22_, if_neg a23_, if_neg a24_, if_neg a25_, if_neg a302_])))
  exact hret 52 T14_ (upV (upV (upV (upV (upV (upV (upV v_0 20 (upB (v_0 20) o v_a)) 21 (upB (v_0 21) o v_b)) 22 (upB (v_0 22) o 0)) 23 (upB (v_0 23) o ((-1)))) 24 (upB (v_0 24) o 0)) 25 (upB (v_0 25) o ((-1)))) 302 y302_17) _ _ ls _ _ hw hoT_ ⟨(upB (v_0 20) o v_a), (upB (v_0 21) o v_b), (upB (v_0 22) o 0), (upB (v_0 23) o ((-1))), (upB (v_0 24) o 0), (upB (v_0 25) o ((-1))), y302_17, rfl, ⟨hR_, tq14_, rfl⟩⟩ (Nat.le_of_ble_eq_true rfl) (Nat.le_of_ble_eq_true rfl) dX0_init_52
set_option maxHeartbeats 4000000 in
set_option maxRecDepth 100000 in
theorem n_X9_person (l : Launch) (D : va_G) (cy : Nat → ClassId) (κ T : Nat → Nat → Nat) (v_0 : Nat → Nat → Int) (o : Nat) (v_q : Int) (v_f : Int) (v_b : Int) (sz : Nat) (hO : ∀ x, ow T x → κ 2 2 ≤ x) (t_o : T 0 o = 9) (r_v_q : inR v_q) (r_v_f : inR v_f) (r_v_b : inR v_b) (hp0 : ∀ x, T 0 x = 26 → x = κ 2 0) : KA l D cy κ T yX9_person cX9_person 5 (some .int) 8 5 500 [.ref o, .int (J v_q), .int (J v_f), .int (J v_b)] v_0 sz (AI (fun (z_0 : Int) (T_2 : Nat → Nat → Nat) (v_2 : Nat → Nat → Int) => (T_2 0 o = 9 ∧ (T_2 180 o = T 180 o ∧ T_2 181 o = T 181 o ∧ T_2 182 o = T 182 o ∧ T_2 183 o = T 183 o ∧ T_2 185 o = T 185 o) ∧ v_2 186 o = v_0 186 o ∧ v_2 187 o = v_0 187 o ∧ v_2 190 o = v_0 190 o ∧ v_2 191 o = v_0 191 o ∧ v_2 303 = v_0 303 ∧ v_2 202 (T 181 o) = v_0 202 (T 181 o) ∧ v_2 202 (T 182 o) = v_0 202 (T 182 o) ∧ v_2 202 (T 183 o) = v_0 202 (T 183 o) ∧ (∀ b, b < sz → T 0 b ≠ 10 → T 0 b ≠ 24 → T 0 b ≠ 26 → b ≠ o → ∀ j, j ≠ 197 → T_2 j b = T j b) ∧ (∀ i_ : Nat, T_2 (1000 + i_) (T_2 201 (T_2 181 o)) = T (1000 + i_) (T 201 (T 181 o))) ∧ (∀ i_ : Nat, T_2 (1000 + i_) (T_2 201 (T_2 182 o)) = T (1000 + i_) (T 201 (T 182 o))) ∧ (∀ i_ : Nat, T_2 (1000 + i_) (T_2 201 (T_2 183 o)) = T (1000 + i_) (T 201 (T 183 o))) ∧ v_2 25 = v_0 25 ∧ v_2 302 = v_0 302 ∧ v_2 160 = v_0 160 ∧ ((z_0 = -1 ∧ (v_q < 0 ∨ 3 < v_q ∨ v_f < 0 ∨ 7 < v_f ∨ v_b < -90 ∨ v_0 187 o < v_b ∨ 24 ≤ v_0 202 (T 180 o)) ∧ v_2 202 (T 180 o) = v_0 202 (T 180 o) ∧ (∀ i_ : Nat, T_2 (1000 + i_) (T_2 201 (T_2 180 o)) = T (1000 + i_) (T 201 (T 180 o))) ∧ v_2 40 = v_0 40 ∧ v_2 41 = v_0 41 ∧ v_2 42 = v_0 42 ∧ v_2 43 = v_0 43 ∧ v_2 44 = v_0 44) ∨ (z_0 = v_0 202 (T 180 o) ∧ (0 ≤ v_q ∧ v_q ≤ 3 ∧ 0 ≤ v_f ∧ v_f ≤ 7 ∧ -90 ≤ v_b ∧ v_b ≤ v_0 187 o ∧ v_0 202 (T 180 o) < 24) ∧ v_2 202 (T 180 o) = v_0 202 (T 180 o) + 1 ∧ ∃ q_ : Nat, (∀ i_ : Nat, (i_ : Int) < v_0 202 (T 180 o) → ∀ y_ : Nat, T (1000 + i_) (T 201 (T 180 o)) = y_ + 1 → y_ ≠ q_) ∧ (∀ i_ : Nat, (i_ : Int) < v_0 202 (T 180 o) → T_2 (1000 + i_) (T_2 201 (T_2 180 o)) = T (1000 + i_) (T 201 (T 180 o))) ∧ T_2 (1000 + (v_0 202 (T 180 o)).toNat) (T_2 201 (T_2 180 o)) = q_ + 1 ∧ (∀ y_ : Nat, y_ ≠ q_ → v_2 40 y_ = v_0 40 y_ ∧ v_2 41 y_ = v_0 41 y_ ∧ v_2 42 y_ = v_0 42 y_ ∧ v_2 43 y_ = v_0 43 y_ ∧ v_2 44 y_ = v_0 44 y_) ∧ v_2 40 q_ = v_q ∧ v_2 41 q_ = v_f ∧ v_2 42 q_ = v_b ∧ v_2 43 q_ = -1 ∧ v_2 44 q_ = 0))) ∧ KdA_ T sz [] (v_0 300) (v_2 300))) := by
  refine KA.ofi (by decide) (Nat.le_of_ble_eq_true rfl) hO ?_
  intro p e s m below meth c ls ar QW A0 H locs E hK hZ hA hAc hsz hszH_ hnm hw hlo_ hl hret
  have hl : lv_has ls 5 [(0, .ref o), (1, .int (J v_q)), (2, .int (J v_f)), (3, .int (J v_b))] := hl
  have hT : WT T := hw.1.2.1
  have hoT_ : OW T T s.heap.size := OW.rf T _
  have hC_ : ∀ b, b < sz → T 0 b ≠ 10 → T 0 b ≠ 24 → T 0 b ≠ 26 → b ≠ o → ∀ j, j ≠ 197 → T j b = T j b := fun _ _ _ _ _ _ _ _ => rfl
  have tl180_ : T 0 (T 180 o) = 10 := wt_180 hT t_o
  have tx180_ : T 0 (T 201 (T 180 o)) = 24 ∨ T 0 (T 201 (T 180 o)) = 26 := (wt10 hT tl180_).1
  have B180_ : ∀ j, j ≠ 197 → T j (T 180 o) = T j (T 180 o) := fun _ _ => rfl
  have A180_ : ∀ j, j ≠ 197 → T j (T 201 (T 180 o)) = T j (T 201 (T 180 o)) := fun _ _ => rfl
  have tl181_ : T 0 (T 181 o) = 10 := wt_181 hT t_o
  have tx181_ : T 0 (T 201 (T 181 o)) = 24 ∨ T 0 (T 201 (T 181 o)) = 26 := (wt10 hT tl181_).1
  have B181_ : ∀ j, j ≠ 197 → T j (T 181 o) = T j (T 181 o) := fun _ _ => rfl
  have A181_ : ∀ j, j ≠ 197 → T j (T 201 (T 181 o)) = T j (T 201 (T 181 o)) := fun _ _ => rfl
  have tl182_ : T 0 (T 182 o) = 10 := wt_182 hT t_o
  have tx182_ : T 0 (T 201 (T 182 o)) = 24 ∨ T 0 (T 201 (T 182 o)) = 26 := (wt10 hT tl182_).1
  have B182_ : ∀ j, j ≠ 197 → T j (T 182 o) = T j (T 182 o) := fun _ _ => rfl
  have A182_ : ∀ j, j ≠ 197 → T j (T 201 (T 182 o)) = T j (T 201 (T 182 o)) := fun _ _ => rfl
  have tl183_ : T 0 (T 183 o) = 10 := wt_183 hT t_o
  have tx183_ : T 0 (T 201 (T 183 o)) = 24 ∨ T 0 (T 201 (T 183 o)) = 26 := (wt10 hT tl183_).1
  have B183_ : ∀ j, j ≠ 197 → T j (T 183 o) = T j (T 183 o) := fun _ _ => rfl
  have A183_ : ∀ j, j ≠ 197 → T j (T 201 (T 183 o)) = T j (T 201 (T 183 o)) := fun _ _ => rfl
  have hwI_ := hw
  have L24_1 : ∀ (s0_24 : Int) (H : Heap) (locs : List Loc) (ls : Array Slot), inR s0_24 → ((s0_24 = 0 ∧ (v_q < 0 ∨ 4 ≤ v_q ∨ v_f < 0 ∨ 8 ≤ v_f)) ∨ (s0_24 = 1 ∧ 0 ≤ v_q ∧ v_q < 4 ∧ 0 ≤ v_f ∧ v_f < 8)) → WK D cy T (v_0) A0 s.heap H locs → lv_has ls 5 [(0, .ref o), (1, .int (J v_q)), (2, .int (J v_f)), (3, .int (J v_b))] → W p l e (rmd 8 5 500) s m ar below meth c H locs 0 0 QW (F0 m 24 ls [.int (J s0_24)]) := by
    intro s0_24 H locs ls r_s0_24 iv24 hw hl
    refine j_istore E 26 rfl [(4, .int (J s0_24)), (0, .ref o), (1, .int (J v_q)), (2, .int (J v_f)), (3, .int (J v_b))] dX9_person_24 hl (by decide) rfl (fun ls hl => ?_)
    refine j_iload E 28 rfl dX9_person_26 (lv_at hl 0 rfl) ?_
    refine j_if_eq E 31 57 rfl r_s0_24 dX9_person_28 (by decide) (fun cc3_ => ?_) (fun cc3_ => ?_)
    · refine j_iconst E 58 rfl dX9_person_57 ?_
      exact hret 58 ((-1)) T _ _ _ ls _ _ hw hoT_ (rr (by decide)) (⟨⟨t_o, ⟨rfl, rfl, rfl, rfl, rfl⟩, rfl, rfl, rfl, rfl, rfl, rfl, rfl, rfl, hC_, (fun _ => rfl), (fun _ => rfl), (fun _ => rfl), rfl, rfl, rfl, Or.inl ⟨rfl, by omega, rfl, fun _ => rfl, rfl, rfl, rfl, rfl, rfl⟩⟩, KdA_rf⟩) (Nat.le_of_ble_eq_true rfl) (Nat.le_of_ble_eq_true rfl) dX9_person_58
    · refine j_iload_n E 32 rfl dX9_person_31 rfl (lv_at hl 4 rfl) ?_
      refine j_bipush E 34 rfl dX9_person_32 (by decide) ?_
      refine j_icmp_lt E 37 57 rfl r_v_b (rr (by decide)) dX9_person_34 (by decide) (fun cc4_ => ?_) (fun cc4_ => ?_)
      · refine j_iconst E 58 rfl dX9_person_57 ?_
        exact hret 58 ((-1)) T _ _ _ ls _ _ hw hoT_ (rr (by decide)) (⟨⟨t_o, ⟨rfl, rfl, rfl, rfl, rfl⟩, rfl, rfl, rfl, rfl, rfl, rfl, rfl, rfl, hC_, (fun _ => rfl), (fun _ => rfl), (fun _ => rfl), rfl, rfl, rfl, Or.inl ⟨rfl, by omega, rfl, fun _ => rfl, rfl, rfl, rfl, rfl, rfl⟩⟩, KdA_rf⟩) (Nat.le_of_ble_eq_true rfl) (Nat.le_of_ble_eq_true rfl) dX9_person_58
      · refine j_iload_n E 38 rfl dX9_person_37 rfl (lv_at hl 4 rfl) ?_
        refine j_aload_n E 39 rfl dX9_person_38 rfl (lv_at hl 1 rfl) ?_
        refine g_187 E hK hw fl_X9_37 t_o (v_0 187 o) rfl 42 rfl dX9_person_39 (fun rr5_ => ?_)
        refine j_icmp_gt E 45 57 rfl r_v_b rr5_ dX9_person_42 (by decide) (fun cc6_ => ?_) (fun cc6_ => ?_)
        · refine j_iconst E 58 rfl dX9_person_57 ?_
          exact hret 58 ((-1)) T _ _ _ ls _ _ hw hoT_ (rr (by decide)) (⟨⟨t_o, ⟨rfl, rfl, rfl, rfl, rfl⟩, rfl, rfl, rfl, rfl, rfl, rfl, rfl, rfl, hC_, (fun _ => rfl), (fun _ => rfl), (fun _ => rfl), rfl, rfl, rfl, Or.inl ⟨rfl, by omega, rfl, fun _ => rfl, rfl, rfl, rfl, rfl, rfl⟩⟩, KdA_rf⟩) (Nat.le_of_ble_eq_true rfl) (Nat.le_of_ble_eq_true rfl) dX9_person_58
        · refine j_aload_n E 46 rfl dX9_person_45 rfl (lv_at hl 1 rfl) ?_
          refine g_180 E hK hw fl_X9_12 t_o 49 rfl dX9_person_46 ?_
          refine kV_i E (c_Jx4a65c_size_8abf5 l D cy T (v_0) (T 180 o)  (wt_180 hT t_o)  ) mt_Jx4a65c_size_8abf5 ml_X9_80 hK hw (cw_rc10 hK hw.1 (wt_180 hT t_o)) hA ⟨Nat.le_of_ble_eq_true rfl, Nat.le_of_ble_eq_true rfl⟩ ⟨Nat.le_of_ble_eq_true rfl, Nat.le_of_ble_eq_true rfl⟩ (As := []) (rest := []) rfl rfl hl.1 (Nat.le_of_ble_eq_true rfl) 52 rfl dX9_person_49 (fun zz7_ v_7 H locs rr7_ hq7_ hw => ?_)
          obtain ⟨ev7_, hh7_⟩ := hq7_
          rw [ev7_] at hw; clear ev7_
          replace hh7_ : zz7_ = ((v_0 202) ((T 180 o))) ∧ 0 ≤ zz7_ := hh7_
          refine j_bipush E 54 rfl dX9_person_52 (by decide) ?_
          refine j_icmp_lt E 57 59 rfl rr7_ (rr (by decide)) dX9_person_54 (by decide) (fun cc8_ => ?_) (fun cc8_ => ?_)
          · refine j_aload_n E 60 rfl dX9_person_59 rfl (lv_at hl 1 rfl) ?_
            refine g_180 E hK hw fl_X9_12 t_o 63 rfl dX9_person_60 ?_
            have hw0_ := hw
            refine n_obj2 E hK hw hA cl_X9_84 (Nat.le_of_ble_eq_true rfl) (Nat.le_of_ble_eq_true rfl) 66 rfl dX9_person_63 (fun q9_ T9_ H hge9_ hx9_ ho9_ tq9_ hw => ?_)
            have fq9_ : s.heap.size ≤ q9_ := Nat.le_trans hw0_.2.2.1 hge9_
            have fr_ := fr_of hw0_.1 tl180_ hge9_
            have hw : WK D cy T9_ (upV (upV (upV (upV (upV (upV v_0 40 (upB (v_0 40) q9_ 0)) 41 (upB (v_0 41) q9_ 0)) 42 (upB (v_0 42) q9_ 0)) 43 (upB (v_0 43) q9_ 0)) 44 (upB (v_0 44) q9_ 0)) 45 (upB (v_0 45) q9_ 0)) A0 s.heap H locs := hw
            have hT9_ : WT T9_ := hw.1.2.1
            have hO9_ : ∀ x, ow T9_ x → κ 2 2 ≤ x := fun x h => hAc x (hw.2.1 x h)
            have hoT_ : OW T T9_ s.heap.size := OW.tr hw0_.2.2.1 hoT_ ho9_
            have hC_ : ∀ b, b < sz → T 0 b ≠ 10 → T 0 b ≠ 24 → T 0 b ≠ 26 → b ≠ o → ∀ j, j ≠ 197 → T9_ j b = T j b := fun b_ h1_ h2_ h3_ h4_ h5_ j_ h6_ => (hx9_ b_ (by have := hw0_.2.2.1; have := hge9_; omega) j_).trans (hC_ b_ h1_ h2_ h3_ h4_ h5_ j_ h6_)
            have B180n_ : ∀ j_, j_ ≠ 197 → T9_ j_ (T 180 o) = T j_ (T 180 o) := fun j_ hj_ => (hx9_ (T 180 o) (Nat.ne_of_lt (Nat.lt_of_lt_of_le (cw_lt hw0_.1 ((B180_ 0 (by decide)).trans tl180_) (fun _ _ _ => ⟨_, rfl⟩)) hge9_)) j_).trans (B180_ j_ hj_)
            have A180n_ : ∀ j_, j_ ≠ 197 → T9_ j_ (T 201 (T 180 o)) = T j_ (T 201 (T 180 o)) := fun j_ hj_ => (hx9_ (T 201 (T 180 o)) (Nat.ne_of_lt (Nat.lt_of_lt_of_le (cw_ltq hw0_.1 (by rw [A180_ 0 (by decide)]; exact tx180_)) hge9_)) j_).trans (A180_ j_ hj_)
            have B181n_ : ∀ j_, j_ ≠ 197 → T9_ j_ (T 181 o) = T j_ (T 181 o) := fun j_ hj_ => (hx9_ (T 181 o) (Nat.ne_of_lt (Nat.lt_of_lt_of_le (cw_lt hw0_.1 ((B181_ 0 (by decide)).trans tl181_) (fun _ _ _ => ⟨_, rfl⟩)) hge9_)) j_).trans (B181_ j_ hj_)
            have A181n_ : ∀ j_, j_ ≠ 197 → T9_ j_ (T 201 (T 181 o)) = T j_ (T 201 (T 181 o)) := fun j_ hj_ => (hx9_ (T 201 (T 181 o)) (Nat.ne_of_lt (Nat.lt_of_lt_of_le (cw_ltq hw0_.1 (by rw [A181_ 0 (by decide)]; exact tx181_)) hge9_)) j_).trans (A181_ j_ hj_)
            have B182n_ : ∀ j_, j_ ≠ 197 → T9_ j_ (T 182 o) = T j_ (T 182 o) := fun j_ hj_ => (hx9_ (T 182 o) (Nat.ne_of_lt (Nat.lt_of_lt_of_le (cw_lt hw0_.1 ((B182_ 0 (by decide)).trans tl182_) (fun _ _ _ => ⟨_, rfl⟩)) hge9_)) j_).trans (B182_ j_ hj_)
            have A182n_ : ∀ j_, j_ ≠ 197 → T9_ j_ (T 201 (T 182 o)) = T j_ (T 201 (T 182 o)) := fun j_ hj_ => (hx9_ (T 201 (T 182 o)) (Nat.ne_of_lt (Nat.lt_of_lt_of_le (cw_ltq hw0_.1 (by rw [A182_ 0 (by decide)]; exact tx182_)) hge9_)) j_).trans (A182_ j_ hj_)
            have B183n_ : ∀ j_, j_ ≠ 197 → T9_ j_ (T 183 o) = T j_ (T 183 o) := fun j_ hj_ => (hx9_ (T 183 o) (Nat.ne_of_lt (Nat.lt_of_lt_of_le (cw_lt hw0_.1 ((B183_ 0 (by decide)).trans tl183_) (fun _ _ _ => ⟨_, rfl⟩)) hge9_)) j_).trans (B183_ j_ hj_)
            have A183n_ : ∀ j_, j_ ≠ 197 → T9_ j_ (T 201 (T 183 o)) = T j_ (T 201 (T 183 o)) := fun j_ hj_ => (hx9_ (T 201 (T 183 o)) (Nat.ne_of_lt (Nat.lt_of_lt_of_le (cw_ltq hw0_.1 (by rw [A183_ 0 (by decide)]; exact tx183_)) hge9_)) j_).trans (A183_ j_ hj_)
            have B180_ := B180n_
            have A180_ := A180n_
            have B181_ := B181n_
            have A181_ := A181n_
            have B182_ := B182n_
            have A182_ := A182n_
            have B183_ := B183n_
            have A183_ := A183n_
            have u10_ : T9_ 0 o = 9 := (hx9_ o (Nat.ne_of_lt (Nat.lt_of_lt_of_le (cw_lt hw0_.1 t_o (fun _ _ _ => ⟨_, rfl⟩)) hge9_)) 0).trans t_o
            have u11_ : T9_ 0 (T 180 o) = 10 := (hx9_ (T 180 o) (Nat.ne_of_lt (Nat.lt_of_lt_of_le (cw_lt hw0_.1 (wt_180 hT t_o) (fun _ _ _ => ⟨_, rfl⟩)) hge9_)) 0).trans (wt_180 hT t_o)
            have u12_ : T9_ 2 (T 180 o) = 2 := (hx9_ (T 180 o) (Nat.ne_of_lt (Nat.lt_of_lt_of_le (cw_lt hw0_.1 (wt_180 hT t_o) (fun _ _ _ => ⟨_, rfl⟩)) hge9_)) 2).trans (we_180 hT t_o)
            have u13_ : T9_ 180 o = T 180 o := (hx9_ o (Nat.ne_of_lt (Nat.lt_of_lt_of_le (cw_lt hw0_.1 t_o (fun _ _ _ => ⟨_, rfl⟩)) hge9_)) 180).trans rfl
            have u14_ : T9_ 181 o = T 181 o := (hx9_ o (Nat.ne_of_lt (Nat.lt_of_lt_of_le (cw_lt hw0_.1 t_o (fun _ _ _ => ⟨_, rfl⟩)) hge9_)) 181).trans rfl
            have u15_ : T9_ 182 o = T 182 o := (hx9_ o (Nat.ne_of_lt (Nat.lt_of_lt_of_le (cw_lt hw0_.1 t_o (fun _ _ _ => ⟨_, rfl⟩)) hge9_)) 182).trans rfl
            have u16_ : T9_ 183 o = T 183 o := (hx9_ o (Nat.ne_of_lt (Nat.lt_of_lt_of_le (cw_lt hw0_.1 t_o (fun _ _ _ => ⟨_, rfl⟩)) hge9_)) 183).trans rfl
            have u17_ : T9_ 185 o = T 185 o := (hx9_ o (Nat.ne_of_lt (Nat.lt_of_lt_of_le (cw_lt hw0_.1 t_o (fun _ _ _ => ⟨_, rfl⟩)) hge9_)) 185).trans rfl
            refine j_dup E 67 rfl dX9_person_66 rfl ?_
            refine j_iload_n E 68 rfl dX9_person_67 rfl (lv_at hl 2 rfl) ?_
            refine j_iload_n E 69 rfl dX9_person_68 rfl (lv_at hl 3 rfl) ?_
            refine j_iload_n E 70 rfl dX9_person_69 rfl (lv_at hl 4 rfl) ?_
            have hw0_ := hw
            refine aI_v E (n_X1_init_n2 l D cy κ T9_ (upV (upV (upV (upV (upV (upV v_0 40 (upB (v_0 40) q9_ 0)) 41 (upB (v_0 41) q9_ 0)) 42 (upB (v_0 42) q9_ 0)) 43 (upB (v_0 43) q9_ 0)) 44 (upB (v_0 44) q9_ 0)) 45 (upB (v_0 45) q9_ 0)) q9_ v_q v_f v_b H.size  hO9_ tq9_ r_v_q r_v_f r_v_b ) mi_X1_init ml_X9_86 hK hZ hAc hw hA ⟨(Nat.le_of_ble_eq_true rfl), (Nat.le_of_ble_eq_true rfl)⟩ ⟨(Nat.le_of_ble_eq_true rfl), (Nat.le_of_ble_eq_true rfl)⟩ (As := [.int (J v_q), .int (J v_f), .int (J v_b)]) (rest := [.ref q9_, .ref (T 180 o)]) rfl rfl hl.1 (Nat.le_of_ble_eq_true rfl) 73 rfl dX9_person_70 (fun T18_ v_18 H locs hge18_ ho18_ hq18_ hw => ?_)
            obtain ⟨y40_18, y41_18, y42_18, y43_18, y44_18, y45_18, y300_18, ev18_, hh18_⟩ := hq18_
            rw [ev18_] at hw; clear ev18_
            obtain ⟨hh18_, kf18_⟩ := hh18_
            have kd19_ : KdA_ T sz [] (v_0 300) (y300_18) := KdA_tr KdA_rf (KdA_ka kf18_ (by have := hw0_.2.2.1; omega) (by decide) (C20_ hC_ t_o (by decide)))
            obtain ⟨hx18_, tq18_, hv40_18_, hv41_18_, hv42_18_, hv43_18_, hv44_18_, hv45_18_⟩ := hh18_
            have hT18_ : WT T18_ := hw.1.2.1
            have hO18_ : ∀ x, ow T18_ x → κ 2 2 ≤ x := fun x h => hAc x (hw.2.1 x h)
            have hoT_ : OW T T18_ s.heap.size := OW.tr hw0_.2.2.1 hoT_ ho18_
            have hC_ : ∀ b, b < sz → T 0 b ≠ 10 → T 0 b ≠ 24 → T 0 b ≠ 26 → b ≠ o → ∀ j, j ≠ 197 → T18_ j b = T j b := fun b_ h1_ h2_ h3_ h4_ h5_ j_ h6_ => (hx18_ b_ (by have := hw0_.2.2.1; omega) (by have := fq9_; omega) j_).trans (hC_ b_ h1_ h2_ h3_ h4_ h5_ j_ h6_)
            have B180n_ : ∀ j_, j_ ≠ 197 → T18_ j_ (T 180 o) = T j_ (T 180 o) := fun j_ hj_ => (hx18_ (T 180 o) (cw_lt hw0_.1 ((B180_ 0 (by decide)).trans tl180_) (fun _ _ _ => ⟨_, rfl⟩)) (ty_ne ((B180_ 0 (by decide)).trans tl180_) tq9_ (by decide)) j_).trans (B180_ j_ hj_)
            have A180n_ : ∀ j_, j_ ≠ 197 → T18_ j_ (T 201 (T 180 o)) = T j_ (T 201 (T 180 o)) := fun j_ hj_ => (hx18_ (T 201 (T 180 o)) (cw_ltq hw0_.1 (by rw [A180_ 0 (by decide)]; exact tx180_)) (ty_neq (by rw [A180_ 0 (by decide)]; exact tx180_) tq9_ (by decide) (by decide)) j_).trans (A180_ j_ hj_)
            have B181n_ : ∀ j_, j_ ≠ 197 → T18_ j_ (T 181 o) = T j_ (T 181 o) := fun j_ hj_ => (hx18_ (T 181 o) (cw_lt hw0_.1 ((B181_ 0 (by decide)).trans tl181_) (fun _ _ _ => ⟨_, rfl⟩)) (ty_ne ((B181_ 0 (by decide)).trans tl181_) tq9_ (by decide)) j_).trans (B181_ j_ hj_)
            have A181n_ : ∀ j_, j_ ≠ 197 → T18_ j_ (T 201 (T 181 o)) = T j_ (T 201 (T 181 o)) := fun j_ hj_ => (hx18_ (T 201 (T 181 o)) (cw_ltq hw0_.1 (by rw [A181_ 0 (by decide)]; exact tx181_)) (ty_neq (by rw [A181_ 0 (by decide)]; exact tx181_) tq9_ (by decide) (by decide)) j_).trans (A181_ j_ hj_)
            have B182n_ : ∀ j_, j_ ≠ 197 → T18_ j_ (T 182 o) = T j_ (T 182 o) := fun j_ hj_ => (hx18_ (T 182 o) (cw_lt hw0_.1 ((B182_ 0 (by decide)).trans tl182_) (fun _ _ _ => ⟨_, rfl⟩)) (ty_ne ((B182_ 0 (by decide)).trans tl182_) tq9_ (by decide)) j_).trans (B182_ j_ hj_)
            have A182n_ : ∀ j_, j_ ≠ 197 → T18_ j_ (T 201 (T 182 o)) = T j_ (T 201 (T 182 o)) := fun j_ hj_ => (hx18_ (T 201 (T 182 o)) (cw_ltq hw0_.1 (by rw [A182_ 0 (by decide)]; exact tx182_)) (ty_neq (by rw [A182_ 0 (by decide)]; exact tx182_) tq9_ (by decide) (by decide)) j_).trans (A182_ j_ hj_)
            have B183n_ : ∀ j_, j_ ≠ 197 → T18_ j_ (T 183 o) = T j_ (T 183 o) := fun j_ hj_ => (hx18_ (T 183 o) (cw_lt hw0_.1 ((B183_ 0 (by decide)).trans tl183_) (fun _ _ _ => ⟨_, rfl⟩)) (ty_ne ((B183_ 0 (by decide)).trans tl183_) tq9_ (by decide)) j_).trans (B183_ j_ hj_)
            have A183n_ : ∀ j_, j_ ≠ 197 → T18_ j_ (T 201 (T 183 o)) = T j_ (T 201 (T 183 o)) := fun j_ hj_ => (hx18_ (T 201 (T 183 o)) (cw_ltq hw0_.1 (by rw [A183_ 0 (by decide)]; exact tx183_)) (ty_neq (by rw [A183_ 0 (by decide)]; exact tx183_) tq9_ (by decide) (by decide)) j_).trans (A183_ j_ hj_)
            have B180_ := B180n_
            have A180_ := A180n_
            have B181_ := B181n_
            have A181_ := A181n_
            have B182_ := B182n_
            have A182_ := A182n_
            have B183_ := B183n_
            have A183_ := A183n_
            have u20_ : T18_ 0 o = 9 := (hx18_ o (cw_lt hw0_.1 u10_ (fun _ _ _ => ⟨_, rfl⟩)) (ty_ne u10_ tq9_ (by decide)) 0).trans u10_
            have u21_ : T18_ 0 (T 180 o) = 10 := (hx18_ (T 180 o) (cw_lt hw0_.1 u11_ (fun _ _ _ => ⟨_, rfl⟩)) (ty_ne u11_ tq9_ (by decide)) 0).trans u11_
            have u22_ : T18_ 2 (T 180 o) = 2 := (hx18_ (T 180 o) (cw_lt hw0_.1 u11_ (fun _ _ _ => ⟨_, rfl⟩)) (ty_ne u11_ tq9_ (by decide)) 2).trans u12_
            have u23_ : T18_ 180 o = T 180 o := (hx18_ o (cw_lt hw0_.1 u10_ (fun _ _ _ => ⟨_, rfl⟩)) (ty_ne u10_ tq9_ (by decide)) 180).trans u13_
            have u24_ : T18_ 181 o = T 181 o := (hx18_ o (cw_lt hw0_.1 u10_ (fun _ _ _ => ⟨_, rfl⟩)) (ty_ne u10_ tq9_ (by decide)) 181).trans u14_
            have u25_ : T18_ 182 o = T 182 o := (hx18_ o (cw_lt hw0_.1 u10_ (fun _ _ _ => ⟨_, rfl⟩)) (ty_ne u10_ tq9_ (by decide)) 182).trans u15_
            have u26_ : T18_ 183 o = T 183 o := (hx18_ o (cw_lt hw0_.1 u10_ (fun _ _ _ => ⟨_, rfl⟩)) (ty_ne u10_ tq9_ (by decide)) 183).trans u16_
            have u27_ : T18_ 185 o = T 185 o := (hx18_ o (cw_lt hw0_.1 u10_ (fun _ _ _ => ⟨_, rfl⟩)) (ty_ne u10_ tq9_ (by decide)) 185).trans u17_
            have hw40_ : y40_18 = upB (upB (v_0 40) q9_ 0) q9_ v_q := hv40_18_
            have hw41_ : y41_18 = upB (upB (v_0 41) q9_ 0) q9_ v_f := hv41_18_
            have hw42_ : y42_18 = upB (upB (v_0 42) q9_ 0) q9_ v_b := hv42_18_
            have hw43_ : y43_18 = upB (upB (v_0 43) q9_ 0) q9_ (-1) := hv43_18_
            have hw44_ : y44_18 = upB (upB (v_0 44) q9_ 0) q9_ 0 := hv44_18_
            have hw0_ := hw
            refine aV_i E (n_Jx4a65c_add_9ea2d_n2 l D cy κ T18_ (upV (upV (upV (upV (upV (upV (upV (upV (upV (upV (upV (upV (upV v_0 40 (upB (v_0 40) q9_ 0)) 41 (upB (v_0 41) q9_ 0)) 42 (upB (v_0 42) q9_ 0)) 43 (upB (v_0 43) q9_ 0)) 44 (upB (v_0 44) q9_ 0)) 45 (upB (v_0 45) q9_ 0)) 40 y40_18) 41 y41_18) 42 y42_18) 43 y43_18) 44 y44_18) 45 y45_18) 300 y300_18) (T 180 o) q9_ H.size  hO18_ u21_  (tq18_.trans u22_.symm) (fun x_ h_ => hp0 x_ ((hoT_ x_).2 h_)) (show ((v_0 202) ((T 180 o))) ≤ 200 from by omega)) mt_Jx4a65c_add_9ea2d ml_X9_89 hK hZ hAc hw (cw_rc10 hK hw.1 u21_) hA ⟨(Nat.le_of_ble_eq_true rfl), (Nat.le_of_ble_eq_true rfl)⟩ ⟨(Nat.le_of_ble_eq_true rfl), (Nat.le_of_ble_eq_true rfl)⟩ (As := [.ref q9_]) (rest := []) rfl rfl hl.1 (Nat.le_of_ble_eq_true rfl) 76 rfl dX9_person_73 (fun zz28_ T28_ v_28 H locs rr28_ hge28_ ho28_ hq28_ hw => ?_)
            obtain ⟨y200_28, y202_28, ev28_, hh28_⟩ := hq28_
            rw [ev28_] at hw; clear ev28_
            obtain ⟨hy28_, hx28_, hz28_, hl28_, hel28_, hnw28_⟩ := hh28_
            have hy28_ : y202_28 = upB (v_0 202) (T 180 o) ((v_0 202) (T 180 o) + 1) := hy28_
            have hT28_ : WT T28_ := hw.1.2.1
            have hO28_ : ∀ x, ow T28_ x → κ 2 2 ≤ x := fun x h => hAc x (hw.2.1 x h)
            have hoT_ : OW T T28_ s.heap.size := OW.tr hw0_.2.2.1 hoT_ ho28_
            have hC_ : ∀ b, b < sz → T 0 b ≠ 10 → T 0 b ≠ 24 → T 0 b ≠ 26 → b ≠ o → ∀ j, j ≠ 197 → T28_ j b = T j b := fun b_ h1_ h2_ h3_ h4_ h5_ j_ h6_ => (hx28_ b_ (by have := hw0_.2.2.1; omega) (fun e_ => h2_ ((hC_ b_ h1_ h2_ h3_ h4_ h5_ 0 (by decide)).symm.trans (by rw [e_]; exact u21_))) (fun h_ => absurd ((hC_ b_ h1_ h2_ h3_ h4_ h5_ 0 (by decide)).symm.trans h_) h3_) j_).trans (hC_ b_ h1_ h2_ h3_ h4_ h5_ j_ h6_)
            have B181n_ : ∀ j_, j_ ≠ 197 → T28_ j_ (T 181 o) = T j_ (T 181 o) := fun j_ hj_ => (hx28_ (T 181 o) (cw_lt hw0_.1 ((B181_ 0 (by decide)).trans tl181_) (fun _ _ _ => ⟨_, rfl⟩)) ((ls_ne hT t_o).2.2.2.1) (fun h_ => absurd (((B181_ 0 (by decide)).trans tl181_).symm.trans h_) (by decide)) j_).trans (B181_ j_ hj_)
            have A181n_ : ∀ j_, j_ ≠ 197 → T28_ j_ (T 201 (T 181 o)) = T j_ (T 201 (T 181 o)) := fun j_ hj_ => (hx28_ (T 201 (T 181 o)) (cw_ltq hw0_.1 (by rw [A181_ 0 (by decide)]; exact tx181_)) (ty_neq (by rw [A181_ 0 (by decide)]; exact tx181_) u21_ (by decide) (by decide)) (fun h_ => by rw [B180_ 201 (by decide)]; exact own_ne hT tl181_ tl180_ ((ls_ne hT t_o).2.2.2.1) ((A181_ 0 (by decide)).symm.trans h_)) j_).trans (A181_ j_ hj_)
            have B182n_ : ∀ j_, j_ ≠ 197 → T28_ j_ (T 182 o) = T j_ (T 182 o) := fun j_ hj_ => (hx28_ (T 182 o) (cw_lt hw0_.1 ((B182_ 0 (by decide)).trans tl182_) (fun _ _ _ => ⟨_, rfl⟩)) ((ls_ne hT t_o).2.2.2.2.2.2.1) (fun h_ => absurd (((B182_ 0 (by decide)).trans tl182_).symm.trans h_) (by decide)) j_).trans (B182_ j_ hj_)
            have A182n_ : ∀ j_, j_ ≠ 197 → T28_ j_ (T 201 (T 182 o)) = T j_ (T 201 (T 182 o)) := fun j_ hj_ => (hx28_ (T 201 (T 182 o)) (cw_ltq hw0_.1 (by rw [A182_ 0 (by decide)]; exact tx182_)) (ty_neq (by rw [A182_ 0 (by decide)]; exact tx182_) u21_ (by decide) (by decide)) (fun h_ => by rw [B180_ 201 (by decide)]; exact own_ne hT tl182_ tl180_ ((ls_ne hT t_o).2.2.2.2.2.2.1) ((A182_ 0 (by decide)).symm.trans h_)) j_).trans (A182_ j_ hj_)
            have B183n_ : ∀ j_, j_ ≠ 197 → T28_ j_ (T 183 o) = T j_ (T 183 o) := fun j_ hj_ => (hx28_ (T 183 o) (cw_lt hw0_.1 ((B183_ 0 (by decide)).trans tl183_) (fun _ _ _ => ⟨_, rfl⟩)) ((ls_ne hT t_o).2.2.2.2.2.2.2.2.2.1) (fun h_ => absurd (((B183_ 0 (by decide)).trans tl183_).symm.trans h_) (by decide)) j_).trans (B183_ j_ hj_)
            have A183n_ : ∀ j_, j_ ≠ 197 → T28_ j_ (T 201 (T 183 o)) = T j_ (T 201 (T 183 o)) := fun j_ hj_ => (hx28_ (T 201 (T 183 o)) (cw_ltq hw0_.1 (by rw [A183_ 0 (by decide)]; exact tx183_)) (ty_neq (by rw [A183_ 0 (by decide)]; exact tx183_) u21_ (by decide) (by decide)) (fun h_ => by rw [B180_ 201 (by decide)]; exact own_ne hT tl183_ tl180_ ((ls_ne hT t_o).2.2.2.2.2.2.2.2.2.1) ((A183_ 0 (by decide)).symm.trans h_)) j_).trans (A183_ j_ hj_)
            have B181_ := B181n_
            have A181_ := A181n_
            have B182_ := B182n_
            have A182_ := A182n_
            have B183_ := B183n_
            have A183_ := A183n_
            have u29_ : T28_ 0 o = 9 := (hx28_ o (cw_lt hw0_.1 u20_ (fun _ _ _ => ⟨_, rfl⟩)) (ty_ne u20_ u21_ (by decide)) (fun h_ => absurd (u20_.symm.trans h_) (by decide)) 0).trans u20_
            have u30_ : T28_ 180 o = T 180 o := (hx28_ o (cw_lt hw0_.1 u20_ (fun _ _ _ => ⟨_, rfl⟩)) (ty_ne u20_ u21_ (by decide)) (fun h_ => absurd (u20_.symm.trans h_) (by decide)) 180).trans u23_
            have u31_ : T28_ 181 o = T 181 o := (hx28_ o (cw_lt hw0_.1 u20_ (fun _ _ _ => ⟨_, rfl⟩)) (ty_ne u20_ u21_ (by decide)) (fun h_ => absurd (u20_.symm.trans h_) (by decide)) 181).trans u24_
            have u32_ : T28_ 182 o = T 182 o := (hx28_ o (cw_lt hw0_.1 u20_ (fun _ _ _ => ⟨_, rfl⟩)) (ty_ne u20_ u21_ (by decide)) (fun h_ => absurd (u20_.symm.trans h_) (by decide)) 182).trans u25_
            have u33_ : T28_ 183 o = T 183 o := (hx28_ o (cw_lt hw0_.1 u20_ (fun _ _ _ => ⟨_, rfl⟩)) (ty_ne u20_ u21_ (by decide)) (fun h_ => absurd (u20_.symm.trans h_) (by decide)) 183).trans u26_
            have u34_ : T28_ 185 o = T 185 o := (hx28_ o (cw_lt hw0_.1 u20_ (fun _ _ _ => ⟨_, rfl⟩)) (ty_ne u20_ u21_ (by decide)) (fun h_ => absurd (u20_.symm.trans h_) (by decide)) 185).trans u27_
            refine j_pop E 77 rfl dX9_person_76 rfl ?_
            refine j_aload_n E 78 rfl dX9_person_77 rfl (lv_at hl 1 rfl) ?_
            refine g_180 E hK hw fl_X9_12 u29_ 81 rfl dX9_person_78 ?_
            refine kV_i E (c_Jx4a65c_size_8abf5 l D cy T28_ (upV (upV (upV (upV (upV (upV (upV (upV (upV (upV (upV (upV (upV (upV (upV v_0 40 (upB (v_0 40) q9_ 0)) 41 (upB (v_0 41) q9_ 0)) 42 (upB (v_0 42) q9_ 0)) 43 (upB (v_0 43) q9_ 0)) 44 (upB (v_0 44) q9_ 0)) 45 (upB (v_0 45) q9_ 0)) 40 y40_18) 41 y41_18) 42 y42_18) 43 y43_18) 44 y44_18) 45 y45_18) 300 y300_18) 200 y200_28) 202 y202_28) (T28_ 180 o)  (wt_180 hT28_ u29_)  ) mt_Jx4a65c_size_8abf5 ml_X9_80 hK hw (cw_rc10 hK hw.1 (wt_180 hT28_ u29_)) hA ⟨Nat.le_of_ble_eq_true rfl, Nat.le_of_ble_eq_true rfl⟩ ⟨Nat.le_of_ble_eq_true rfl, Nat.le_of_ble_eq_true rfl⟩ (As := []) (rest := []) rfl rfl hl.1 (Nat.le_of_ble_eq_true rfl) 84 rfl dX9_person_81 (fun zz35_ v_35 H locs rr35_ hq35_ hw => ?_)
            obtain ⟨ev35_, hh35_⟩ := hq35_
            rw [ev35_] at hw; clear ev35_
            replace hh35_ : zz35_ = (y202_28 ((T28_ 180 o))) ∧ 0 ≤ zz35_ := hh35_
            have hs2_ := hh35_.1
            rw [u30_, hy28_, upB_same] at hs2_
            refine j_iconst E 85 rfl dX9_person_84 ?_
            refine j_isub E 86 rfl dX9_person_85 ?_
            exact hret 86 (zz35_ - 1) T28_ _ _ _ ls _ _ hw hoT_ (rr (by omega)) (⟨⟨u29_, ⟨u30_, u31_, u32_, u33_, u34_⟩, rfl, rfl, rfl, rfl, rfl, (by show y202_28 (T 181 o) = v_0 202 (T 181 o); rw [hy28_]; exact upB_ne ((ls_ne hT t_o).2.2.2.1)), (by show y202_28 (T 182 o) = v_0 202 (T 182 o); rw [hy28_]; exact upB_ne ((ls_ne hT t_o).2.2.2.2.2.2.1)), (by show y202_28 (T 183 o) = v_0 202 (T 183 o); rw [hy28_]; exact upB_ne ((ls_ne hT t_o).2.2.2.2.2.2.2.2.2.1)), hC_, (fun i_ => by rw [u31_, B181_ 201 (by decide), A181_ (1000 + i_) (by omega)]), (fun i_ => by rw [u32_, B182_ 201 (by decide), A182_ (1000 + i_) (by omega)]), (fun i_ => by rw [u33_, B183_ 201 (by decide), A183_ (1000 + i_) (by omega)]), rfl, rfl, rfl, Or.inr ⟨by omega, by omega, (by show y202_28 (T 180 o) = v_0 202 (T 180 o) + 1; rw [hy28_]; exact upB_same _ _ _), q9_, fr_, fun i_ h_ => by rw [u30_]; exact (hel28_ i_ h_).trans (by rw [B180_ 201 (by decide), A180_ (1000 + i_) (by omega)]), by rw [u30_]; exact hnw28_, fun y_ h_ => ⟨(by show y40_18 y_ = v_0 40 y_; rw [hw40_]; exact (upB_ne h_).trans (upB_ne h_)), (by show y41_18 y_ = v_0 41 y_; rw [hw41_]; exact (upB_ne h_).trans (upB_ne h_)), (by show y42_18 y_ = v_0 42 y_; rw [hw42_]; exact (upB_ne h_).trans (upB_ne h_)), (by show y43_18 y_ = v_0 43 y_; rw [hw43_]; exact (upB_ne h_).trans (upB_ne h_)), (by show y44_18 y_ = v_0 44 y_; rw [hw44_]; exact (upB_ne h_).trans (upB_ne h_))⟩, (by show y40_18 q9_ = _; rw [hw40_]; exact upB_same _ _ _), (by show y41_18 q9_ = _; rw [hw41_]; exact upB_same _ _ _), (by show y42_18 q9_ = _; rw [hw42_]; exact upB_same _ _ _), (by show y43_18 q9_ = _; rw [hw43_]; exact upB_same _ _ _), (by show y44_18 q9_ = _; rw [hw44_]; exact upB_same _ _ _)⟩⟩, kd19_⟩) (Nat.le_of_ble_eq_true rfl) (Nat.le_of_ble_eq_true rfl) dX9_person_86
          · refine j_iconst E 58 rfl dX9_person_57 ?_
            exact hret 58 ((-1)) T _ _ _ ls _ _ hw hoT_ (rr (by decide)) (⟨⟨t_o, ⟨rfl, rfl, rfl, rfl, rfl⟩, rfl, rfl, rfl, rfl, rfl, rfl, rfl, rfl, hC_, (fun _ => rfl), (fun _ => rfl), (fun _ => rfl), rfl, rfl, rfl, Or.inl ⟨rfl, by omega, rfl, fun _ => rfl, rfl, rfl, rfl, rfl, rfl⟩⟩, KdA_rf⟩) (Nat.le_of_ble_eq_true rfl) (Nat.le_of_ble_eq_true rfl) dX9_person_58
  refine j_iload_n E 1 rfl dX9_person_0 rfl (lv_at hl 1 rfl) ?_
  refine j_if_lt E 4 23 rfl r_v_q dX9_person_1 (by decide) (fun cc36_ => ?_) (fun cc36_ => ?_)
  · refine j_iconst E 24 rfl dX9_person_23 ?_
    exact L24_1 0  H locs ls (rr (by decide)) (by omega) hw (lv_sub hl [0, 1, 2, 3] rfl)
  · refine j_iload_n E 5 rfl dX9_person_4 rfl (lv_at hl 1 rfl) ?_
    refine j_iconst E 6 rfl dX9_person_5 ?_
    refine j_icmp_ge E 9 23 rfl r_v_q (rr (by decide)) dX9_person_6 (by decide) (fun cc37_ => ?_) (fun cc37_ => ?_)
    · refine j_iconst E 24 rfl dX9_person_23 ?_
      exact L24_1 0  H locs ls (rr (by decide)) (by omega) hw (lv_sub hl [0, 1, 2, 3] rfl)
    · refine j_iload_n E 10 rfl dX9_person_9 rfl (lv_at hl 2 rfl) ?_
      refine j_if_lt E 13 23 rfl r_v_f dX9_person_10 (by decide) (fun cc38_ => ?_) (fun cc38_ => ?_)
      · refine j_iconst E 24 rfl dX9_person_23 ?_
        exact L24_1 0  H locs ls (rr (by decide)) (by omega) hw (lv_sub hl [0, 1, 2, 3] rfl)
      · refine j_iload_n E 14 rfl dX9_person_13 rfl (lv_at hl 2 rfl) ?_
        refine j_bipush E 16 rfl dX9_person_14 (by decide) ?_
        refine j_icmp_ge E 19 23 rfl r_v_f (rr (by decide)) dX9_person_16 (by decide) (fun cc39_ => ?_) (fun cc39_ => ?_)
        · refine j_iconst E 24 rfl dX9_person_23 ?_
          exact L24_1 0  H locs ls (rr (by decide)) (by omega) hw (lv_sub hl [0, 1, 2, 3] rfl)
        · refine j_iconst E 20 rfl dX9_person_19 ?_
          refine j_goto E 24 dX9_person_20 (by decide) ?_
          exact L24_1 1  H locs ls (rr (by decide)) (by omega) hw (lv_sub hl [0, 1, 2, 3] rfl)
set_option maxHeartbeats 4000000 in
set_option maxRecDepth 100000 in
theorem n_X9_line (l : Launch) (D : va_G) (cy : Nat → ClassId) (κ T : Nat → Nat → Nat) (v_0 : Nat → Nat → Int) (o : Nat) (v_s : Int) (v_v : Int) (sz : Nat) (hO : ∀ x, ow T x → κ 2 2 ≤ x) (t_o : T 0 o = 9) (r_v_s : inR v_s) (r_v_v : inR v_v) (hp0 : ∀ x, T 0 x = 26 → x = κ 2 0) (hp1 : v_v = 0 ∨ v_v = 1) : KA l D cy κ T yX9_line cX9_line 3 (some .int) 8 3 700 [.ref o, .int (J v_s), .int (J v_v)] v_0 sz (AI (fun (z_0 : Int) (T_2 : Nat → Nat → Nat) (v_2 : Nat → Nat → Int) => T_2 0 o = 9 ∧ (T_2 180 o = T 180 o ∧ T_2 181 o = T 181 o ∧ T_2 182 o = T 182 o ∧ T_2 183 o = T 183 o ∧ T_2 185 o = T 185 o) ∧ v_2 186 o = v_0 186 o ∧ v_2 187 o = v_0 187 o ∧ v_2 190 o = v_0 190 o ∧ v_2 191 o = v_0 191 o ∧ v_2 303 = v_0 303 ∧ v_2 202 (T 180 o) = v_0 202 (T 180 o) ∧ v_2 202 (T 182 o) = v_0 202 (T 182 o) ∧ v_2 202 (T 183 o) = v_0 202 (T 183 o) ∧ (∀ b, b < sz → T 0 b ≠ 10 → T 0 b ≠ 24 → T 0 b ≠ 26 → b ≠ o → ∀ j, j ≠ 197 → T_2 j b = T j b) ∧ (∀ i_ : Nat, T_2 (1000 + i_) (T_2 201 (T_2 180 o)) = T (1000 + i_) (T 201 (T 180 o))) ∧ (∀ i_ : Nat, T_2 (1000 + i_) (T_2 201 (T_2 182 o)) = T (1000 + i_) (T 201 (T 182 o))) ∧ (∀ i_ : Nat, T_2 (1000 + i_) (T_2 201 (T_2 183 o)) = T (1000 + i_) (T 201 (T 183 o))) ∧ v_2 40 = v_0 40 ∧ v_2 41 = v_0 41 ∧ v_2 42 = v_0 42 ∧ v_2 43 = v_0 43 ∧ v_2 44 = v_0 44 ∧ v_2 300 = v_0 300 ∧ v_2 160 = v_0 160 ∧ ((z_0 = -1 ∧ (v_s < 0 ∨ 2 < v_s ∨ 24 ≤ v_0 202 (T 181 o)) ∧ v_2 202 (T 181 o) = v_0 202 (T 181 o) ∧ (∀ i_ : Nat, T_2 (1000 + i_) (T_2 201 (T_2 181 o)) = T (1000 + i_) (T 201 (T 181 o))) ∧ v_2 25 = v_0 25) ∨ (z_0 = v_0 202 (T 181 o) ∧ (0 ≤ v_s ∧ v_s ≤ 2 ∧ v_0 202 (T 181 o) < 24) ∧ v_2 202 (T 181 o) = v_0 202 (T 181 o) + 1 ∧ ∃ q_ : Nat, sz ≤ q_ ∧ (∀ i_ : Nat, (i_ : Int) < v_0 202 (T 181 o) → T_2 (1000 + i_) (T_2 201 (T_2 181 o)) = T (1000 + i_) (T 201 (T 181 o))) ∧ T_2 (1000 + (v_0 202 (T 181 o)).toNat) (T_2 201 (T_2 181 o)) = q_ + 1 ∧ (∀ y_ : Nat, y_ ≠ q_ → v_2 25 y_ = v_0 25 y_) ∧ v_2 25 q_ = -1)))) := by
  refine KA.ofi (by decide) (Nat.le_of_ble_eq_true rfl) hO ?_
  intro p e s m below meth c ls ar QW A0 H locs E hK hZ hA hAc hsz hszH_ hnm hw hlo_ hl hret
  have hl : lv_has ls 3 [(0, .ref o), (1, .int (J v_s)), (2, .int (J v_v))] := hl
  have hT : WT T := hw.1.2.1
  have hoT_ : OW T T s.heap.size := OW.rf T _
  have hC_ : ∀ b, b < sz → T 0 b ≠ 10 → T 0 b ≠ 24 → T 0 b ≠ 26 → b ≠ o → ∀ j, j ≠ 197 → T j b = T j b := fun _ _ _ _ _ _ _ _ => rfl
  have tl180_ : T 0 (T 180 o) = 10 := wt_180 hT t_o
  have tx180_ : T 0 (T 201 (T 180 o)) = 24 ∨ T 0 (T 201 (T 180 o)) = 26 := (wt10 hT tl180_).1
  have B180_ : ∀ j, j ≠ 197 → T j (T 180 o) = T j (T 180 o) := fun _ _ => rfl
  have A180_ : ∀ j, j ≠ 197 → T j (T 201 (T 180 o)) = T j (T 201 (T 180 o)) := fun _ _ => rfl
  have tl181_ : T 0 (T 181 o) = 10 := wt_181 hT t_o
  have tx181_ : T 0 (T 201 (T 181 o)) = 24 ∨ T 0 (T 201 (T 181 o)) = 26 := (wt10 hT tl181_).1
  have B181_ : ∀ j, j ≠ 197 → T j (T 181 o) = T j (T 181 o) := fun _ _ => rfl
  have A181_ : ∀ j, j ≠ 197 → T j (T 201 (T 181 o)) = T j (T 201 (T 181 o)) := fun _ _ => rfl
  have tl182_ : T 0 (T 182 o) = 10 := wt_182 hT t_o
  have tx182_ : T 0 (T 201 (T 182 o)) = 24 ∨ T 0 (T 201 (T 182 o)) = 26 := (wt10 hT tl182_).1
  have B182_ : ∀ j, j ≠ 197 → T j (T 182 o) = T j (T 182 o) := fun _ _ => rfl
  have A182_ : ∀ j, j ≠ 197 → T j (T 201 (T 182 o)) = T j (T 201 (T 182 o)) := fun _ _ => rfl
  have tl183_ : T 0 (T 183 o) = 10 := wt_183 hT t_o
  have tx183_ : T 0 (T 201 (T 183 o)) = 24 ∨ T 0 (T 201 (T 183 o)) = 26 := (wt10 hT tl183_).1
  have B183_ : ∀ j, j ≠ 197 → T j (T 183 o) = T j (T 183 o) := fun _ _ => rfl
  have A183_ : ∀ j, j ≠ 197 → T j (T 201 (T 183 o)) = T j (T 201 (T 183 o)) := fun _ _ => rfl
  have hwI_ := hw
  refine j_iload_n E 1 rfl dX9_line_0 rfl (lv_at hl 1 rfl) ?_
  refine j_if_lt E 4 21 rfl r_v_s dX9_line_1 (by decide) (fun cc1_ => ?_) (fun cc1_ => ?_)
  · refine j_iconst E 22 rfl dX9_line_21 ?_
    exact hret 22 ((-1)) T _ _ _ ls _ _ hw hoT_ (rr (by decide)) (⟨t_o, ⟨rfl, rfl, rfl, rfl, rfl⟩, rfl, rfl, rfl, rfl, rfl, rfl, rfl, rfl, hC_, (fun _ => rfl), (fun _ => rfl), (fun _ => rfl), rfl, rfl, rfl, rfl, rfl, rfl, rfl, Or.inl ⟨rfl, by omega, rfl, fun _ => rfl, rfl⟩⟩) (Nat.le_of_ble_eq_true rfl) (Nat.le_of_ble_eq_true rfl) dX9_line_22
  · refine j_iload_n E 5 rfl dX9_line_4 rfl (lv_at hl 1 rfl) ?_
    refine j_iconst E 6 rfl dX9_line_5 ?_
    refine j_icmp_ge E 9 21 rfl r_v_s (rr (by decide)) dX9_line_6 (by decide) (fun cc2_ => ?_) (fun cc2_ => ?_)
    · refine j_iconst E 22 rfl dX9_line_21 ?_
      exact hret 22 ((-1)) T _ _ _ ls _ _ hw hoT_ (rr (by decide)) (⟨t_o, ⟨rfl, rfl, rfl, rfl, rfl⟩, rfl, rfl, rfl, rfl, rfl, rfl, rfl, rfl, hC_, (fun _ => rfl), (fun _ => rfl), (fun _ => rfl), rfl, rfl, rfl, rfl, rfl, rfl, rfl, Or.inl ⟨rfl, by omega, rfl, fun _ => rfl, rfl⟩⟩) (Nat.le_of_ble_eq_true rfl) (Nat.le_of_ble_eq_true rfl) dX9_line_22
    · refine j_aload_n E 10 rfl dX9_line_9 rfl (lv_at hl 0 rfl) ?_
      refine g_181 E hK hw fl_X9_16 t_o 13 rfl dX9_line_10 ?_
      refine kV_i E (c_Jx4a65c_size_8abf5 l D cy T (v_0) (T 181 o)  (wt_181 hT t_o)  ) mt_Jx4a65c_size_8abf5 ml_X9_80 hK hw (cw_rc10 hK hw.1 (wt_181 hT t_o)) hA ⟨Nat.le_of_ble_eq_true rfl, Nat.le_of_ble_eq_true rfl⟩ ⟨Nat.le_of_ble_eq_true rfl, Nat.le_of_ble_eq_true rfl⟩ (As := []) (rest := []) rfl rfl hl.1 (Nat.le_of_ble_eq_true rfl) 16 rfl dX9_line_13 (fun zz3_ v_3 H locs rr3_ hq3_ hw => ?_)
      obtain ⟨ev3_, hh3_⟩ := hq3_
      rw [ev3_] at hw; clear ev3_
      replace hh3_ : zz3_ = ((v_0 202) ((T 181 o))) ∧ 0 ≤ zz3_ := hh3_
      refine j_bipush E 18 rfl dX9_line_16 (by decide) ?_
      refine j_icmp_lt E 21 23 rfl rr3_ (rr (by decide)) dX9_line_18 (by decide) (fun cc4_ => ?_) (fun cc4_ => ?_)
      · refine j_aload_n E 24 rfl dX9_line_23 rfl (lv_at hl 0 rfl) ?_
        refine g_181 E hK hw fl_X9_16 t_o 27 rfl dX9_line_24 ?_
        have hw0_ := hw
        refine n_obj1 E hK hw hA cl_X9_167 (Nat.le_of_ble_eq_true rfl) (Nat.le_of_ble_eq_true rfl) 30 rfl dX9_line_27 (fun q5_ T5_ H hge5_ hx5_ ho5_ tq5_ hw => ?_)
        have fq5_ : s.heap.size ≤ q5_ := Nat.le_trans hw0_.2.2.1 hge5_
        have fz_ : sz ≤ q5_ := by have := fq5_; omega
        have hw : WK D cy T5_ (upV (upV (upV (upV (upV (upV v_0 20 (upB (v_0 20) q5_ 0)) 21 (upB (v_0 21) q5_ 0)) 22 (upB (v_0 22) q5_ 0)) 23 (upB (v_0 23) q5_ 0)) 24 (upB (v_0 24) q5_ 0)) 25 (upB (v_0 25) q5_ 0)) A0 s.heap H locs := hw
        have hT5_ : WT T5_ := hw.1.2.1
        have hO5_ : ∀ x, ow T5_ x → κ 2 2 ≤ x := fun x h => hAc x (hw.2.1 x h)
        have hoT_ : OW T T5_ s.heap.size := OW.tr hw0_.2.2.1 hoT_ ho5_
        have hC_ : ∀ b, b < sz → T 0 b ≠ 10 → T 0 b ≠ 24 → T 0 b ≠ 26 → b ≠ o → ∀ j, j ≠ 197 → T5_ j b = T j b := fun b_ h1_ h2_ h3_ h4_ h5_ j_ h6_ => (hx5_ b_ (by have := hw0_.2.2.1; have := hge5_; omega) j_).trans (hC_ b_ h1_ h2_ h3_ h4_ h5_ j_ h6_)
        have B180n_ : ∀ j_, j_ ≠ 197 → T5_ j_ (T 180 o) = T j_ (T 180 o) := fun j_ hj_ => (hx5_ (T 180 o) (Nat.ne_of_lt (Nat.lt_of_lt_of_le (cw_lt hw0_.1 ((B180_ 0 (by decide)).trans tl180_) (fun _ _ _ => ⟨_, rfl⟩)) hge5_)) j_).trans (B180_ j_ hj_)
        have A180n_ : ∀ j_, j_ ≠ 197 → T5_ j_ (T 201 (T 180 o)) = T j_ (T 201 (T 180 o)) := fun j_ hj_ => (hx5_ (T 201 (T 180 o)) (Nat.ne_of_lt (Nat.lt_of_lt_of_le (cw_ltq hw0_.1 (by rw [A180_ 0 (by decide)]; exact tx180_)) hge5_)) j_).trans (A180_ j_ hj_)
        have B181n_ : ∀ j_, j_ ≠ 197 → T5_ j_ (T 181 o) = T j_ (T 181 o) := fun j_ hj_ => (hx5_ (T 181 o) (Nat.ne_of_lt (Nat.lt_of_lt_of_le (cw_lt hw0_.1 ((B181_ 0 (by decide)).trans tl181_) (fun _ _ _ => ⟨_, rfl⟩)) hge5_)) j_).trans (B181_ j_ hj_)
        have A181n_ : ∀ j_, j_ ≠ 197 → T5_ j_ (T 201 (T 181 o)) = T j_ (T 201 (T 181 o)) := fun j_ hj_ => (hx5_ (T 201 (T 181 o)) (Nat.ne_of_lt (Nat.lt_of_lt_of_le (cw_ltq hw0_.1 (by rw [A181_ 0 (by decide)]; exact tx181_)) hge5_)) j_).trans (A181_ j_ hj_)
        have B182n_ : ∀ j_, j_ ≠ 197 → T5_ j_ (T 182 o) = T j_ (T 182 o) := fun j_ hj_ => (hx5_ (T 182 o) (Nat.ne_of_lt (Nat.lt_of_lt_of_le (cw_lt hw0_.1 ((B182_ 0 (by decide)).trans tl182_) (fun _ _ _ => ⟨_, rfl⟩)) hge5_)) j_).trans (B182_ j_ hj_)
        have A182n_ : ∀ j_, j_ ≠ 197 → T5_ j_ (T 201 (T 182 o)) = T j_ (T 201 (T 182 o)) := fun j_ hj_ => (hx5_ (T 201 (T 182 o)) (Nat.ne_of_lt (Nat.lt_of_lt_of_le (cw_ltq hw0_.1 (by rw [A182_ 0 (by decide)]; exact tx182_)) hge5_)) j_).trans (A182_ j_ hj_)
        have B183n_ : ∀ j_, j_ ≠ 197 → T5_ j_ (T 183 o) = T j_ (T 183 o) := fun j_ hj_ => (hx5_ (T 183 o) (Nat.ne_of_lt (Nat.lt_of_lt_of_le (cw_lt hw0_.1 ((B183_ 0 (by decide)).trans tl183_) (fun _ _ _ => ⟨_, rfl⟩)) hge5_)) j_).trans (B183_ j_ hj_)
        have A183n_ : ∀ j_, j_ ≠ 197 → T5_ j_ (T 201 (T 183 o)) = T j_ (T 201 (T 183 o)) := fun j_ hj_ => (hx5_ (T 201 (T 183 o)) (Nat.ne_of_lt (Nat.lt_of_lt_of_le (cw_ltq hw0_.1 (by rw [A183_ 0 (by decide)]; exact tx183_)) hge5_)) j_).trans (A183_ j_ hj_)
        have B180_ := B180n_
        have A180_ := A180n_
        have B181_ := B181n_
        have A181_ := A181n_
        have B182_ := B182n_
        have A182_ := A182n_
        have B183_ := B183n_
        have A183_ := A183n_
        have u6_ : T5_ 0 o = 9 := (hx5_ o (Nat.ne_of_lt (Nat.lt_of_lt_of_le (cw_lt hw0_.1 t_o (fun _ _ _ => ⟨_, rfl⟩)) hge5_)) 0).trans t_o
        have u7_ : T5_ 0 (T 181 o) = 10 := (hx5_ (T 181 o) (Nat.ne_of_lt (Nat.lt_of_lt_of_le (cw_lt hw0_.1 (wt_181 hT t_o) (fun _ _ _ => ⟨_, rfl⟩)) hge5_)) 0).trans (wt_181 hT t_o)
        have u8_ : T5_ 2 (T 181 o) = 1 := (hx5_ (T 181 o) (Nat.ne_of_lt (Nat.lt_of_lt_of_le (cw_lt hw0_.1 (wt_181 hT t_o) (fun _ _ _ => ⟨_, rfl⟩)) hge5_)) 2).trans (we_181 hT t_o)
        have u9_ : T5_ 180 o = T 180 o := (hx5_ o (Nat.ne_of_lt (Nat.lt_of_lt_of_le (cw_lt hw0_.1 t_o (fun _ _ _ => ⟨_, rfl⟩)) hge5_)) 180).trans rfl
        have u10_ : T5_ 181 o = T 181 o := (hx5_ o (Nat.ne_of_lt (Nat.lt_of_lt_of_le (cw_lt hw0_.1 t_o (fun _ _ _ => ⟨_, rfl⟩)) hge5_)) 181).trans rfl
        have u11_ : T5_ 182 o = T 182 o := (hx5_ o (Nat.ne_of_lt (Nat.lt_of_lt_of_le (cw_lt hw0_.1 t_o (fun _ _ _ => ⟨_, rfl⟩)) hge5_)) 182).trans rfl
        have u12_ : T5_ 183 o = T 183 o := (hx5_ o (Nat.ne_of_lt (Nat.lt_of_lt_of_le (cw_lt hw0_.1 t_o (fun _ _ _ => ⟨_, rfl⟩)) hge5_)) 183).trans rfl
        have u13_ : T5_ 185 o = T 185 o := (hx5_ o (Nat.ne_of_lt (Nat.lt_of_lt_of_le (cw_lt hw0_.1 t_o (fun _ _ _ => ⟨_, rfl⟩)) hge5_)) 185).trans rfl
        refine j_dup E 31 rfl dX9_line_30 rfl ?_
        refine j_iload_n E 32 rfl dX9_line_31 rfl (lv_at hl 1 rfl) ?_
        refine j_iload_n E 33 rfl dX9_line_32 rfl (lv_at hl 2 rfl) ?_
        have hw0_ := hw
        refine aI_v E (n_X0_init_n2 l D cy κ T5_ (upV (upV (upV (upV (upV (upV v_0 20 (upB (v_0 20) q5_ 0)) 21 (upB (v_0 21) q5_ 0)) 22 (upB (v_0 22) q5_ 0)) 23 (upB (v_0 23) q5_ 0)) 24 (upB (v_0 24) q5_ 0)) 25 (upB (v_0 25) q5_ 0)) q5_ v_s v_v H.size  hO5_ tq5_ r_v_s r_v_v (show v_v = 0 ∨ v_v = 1 from by first | omega | (simp only [upB_same]; omega))) mi_X0_init ml_X9_169 hK hZ hAc hw hA ⟨(Nat.le_of_ble_eq_true rfl), (Nat.le_of_ble_eq_true rfl)⟩ ⟨(Nat.le_of_ble_eq_true rfl), (Nat.le_of_ble_eq_true rfl)⟩ (As := [.int (J v_s), .int (J v_v)]) (rest := [.ref q5_, .ref (T 181 o)]) rfl rfl hl.1 (Nat.le_of_ble_eq_true rfl) 36 rfl dX9_line_33 (fun T14_ v_14 H locs hge14_ ho14_ hq14_ hw => ?_)
        obtain ⟨y20_14, y21_14, y22_14, y23_14, y24_14, y25_14, y302_14, ev14_, hh14_⟩ := hq14_
        rw [ev14_] at hw; clear ev14_
        obtain ⟨hx14_, tq14_, hv25_14_⟩ := hh14_
        have hT14_ : WT T14_ := hw.1.2.1
        have hO14_ : ∀ x, ow T14_ x → κ 2 2 ≤ x := fun x h => hAc x (hw.2.1 x h)
        have hoT_ : OW T T14_ s.heap.size := OW.tr hw0_.2.2.1 hoT_ ho14_
        have hC_ : ∀ b, b < sz → T 0 b ≠ 10 → T 0 b ≠ 24 → T 0 b ≠ 26 → b ≠ o → ∀ j, j ≠ 197 → T14_ j b = T j b := fun b_ h1_ h2_ h3_ h4_ h5_ j_ h6_ => (hx14_ b_ (by have := hw0_.2.2.1; omega) (by have := fq5_; omega) j_).trans (hC_ b_ h1_ h2_ h3_ h4_ h5_ j_ h6_)
        have B180n_ : ∀ j_, j_ ≠ 197 → T14_ j_ (T 180 o) = T j_ (T 180 o) := fun j_ hj_ => (hx14_ (T 180 o) (cw_lt hw0_.1 ((B180_ 0 (by decide)).trans tl180_) (fun _ _ _ => ⟨_, rfl⟩)) (ty_ne ((B180_ 0 (by decide)).trans tl180_) tq5_ (by decide)) j_).trans (B180_ j_ hj_)
        have A180n_ : ∀ j_, j_ ≠ 197 → T14_ j_ (T 201 (T 180 o)) = T j_ (T 201 (T 180 o)) := fun j_ hj_ => (hx14_ (T 201 (T 180 o)) (cw_ltq hw0_.1 (by rw [A180_ 0 (by decide)]; exact tx180_)) (ty_neq (by rw [A180_ 0 (by decide)]; exact tx180_) tq5_ (by decide) (by decide)) j_).trans (A180_ j_ hj_)
        have B181n_ : ∀ j_, j_ ≠ 197 → T14_ j_ (T 181 o) = T j_ (T 181 o) := fun j_ hj_ => (hx14_ (T 181 o) (cw_lt hw0_.1 ((B181_ 0 (by decide)).trans tl181_) (fun _ _ _ => ⟨_, rfl⟩)) (ty_ne ((B181_ 0 (by decide)).trans tl181_) tq5_ (by decide)) j_).trans (B181_ j_ hj_)
        have A181n_ : ∀ j_, j_ ≠ 197 → T14_ j_ (T 201 (T 181 o)) = T j_ (T 201 (T 181 o)) := fun j_ hj_ => (hx14_ (T 201 (T 181 o)) (cw_ltq hw0_.1 (by rw [A181_ 0 (by decide)]; exact tx181_)) (ty_neq (by rw [A181_ 0 (by decide)]; exact tx181_) tq5_ (by decide) (by decide)) j_).trans (A181_ j_ hj_)
        have B182n_ : ∀ j_, j_ ≠ 197 → T14_ j_ (T 182 o) = T j_ (T 182 o) := fun j_ hj_ => (hx14_ (T 182 o) (cw_lt hw0_.1 ((B182_ 0 (by decide)).trans tl182_) (fun _ _ _ => ⟨_, rfl⟩)) (ty_ne ((B182_ 0 (by decide)).trans tl182_) tq5_ (by decide)) j_).trans (B182_ j_ hj_)
        have A182n_ : ∀ j_, j_ ≠ 197 → T14_ j_ (T 201 (T 182 o)) = T j_ (T 201 (T 182 o)) := fun j_ hj_ => (hx14_ (T 201 (T 182 o)) (cw_ltq hw0_.1 (by rw [A182_ 0 (by decide)]; exact tx182_)) (ty_neq (by rw [A182_ 0 (by decide)]; exact tx182_) tq5_ (by decide) (by decide)) j_).trans (A182_ j_ hj_)
        have B183n_ : ∀ j_, j_ ≠ 197 → T14_ j_ (T 183 o) = T j_ (T 183 o) := fun j_ hj_ => (hx14_ (T 183 o) (cw_lt hw0_.1 ((B183_ 0 (by decide)).trans tl183_) (fun _ _ _ => ⟨_, rfl⟩)) (ty_ne ((B183_ 0 (by decide)).trans tl183_) tq5_ (by decide)) j_).trans (B183_ j_ hj_)
        have A183n_ : ∀ j_, j_ ≠ 197 → T14_ j_ (T 201 (T 183 o)) = T j_ (T 201 (T 183 o)) := fun j_ hj_ => (hx14_ (T 201 (T 183 o)) (cw_ltq hw0_.1 (by rw [A183_ 0 (by decide)]; exact tx183_)) (ty_neq (by rw [A183_ 0 (by decide)]; exact tx183_) tq5_ (by decide) (by decide)) j_).trans (A183_ j_ hj_)
        have B180_ := B180n_
        have A180_ := A180n_
        have B181_ := B181n_
        have A181_ := A181n_
        have B182_ := B182n_
        have A182_ := A182n_
        have B183_ := B183n_
        have A183_ := A183n_
        have u15_ : T14_ 0 o = 9 := (hx14_ o (cw_lt hw0_.1 u6_ (fun _ _ _ => ⟨_, rfl⟩)) (ty_ne u6_ tq5_ (by decide)) 0).trans u6_
        have u16_ : T14_ 0 (T 181 o) = 10 := (hx14_ (T 181 o) (cw_lt hw0_.1 u7_ (fun _ _ _ => ⟨_, rfl⟩)) (ty_ne u7_ tq5_ (by decide)) 0).trans u7_
        have u17_ : T14_ 2 (T 181 o) = 1 := (hx14_ (T 181 o) (cw_lt hw0_.1 u7_ (fun _ _ _ => ⟨_, rfl⟩)) (ty_ne u7_ tq5_ (by decide)) 2).trans u8_
        have u18_ : T14_ 180 o = T 180 o := (hx14_ o (cw_lt hw0_.1 u6_ (fun _ _ _ => ⟨_, rfl⟩)) (ty_ne u6_ tq5_ (by decide)) 180).trans u9_
        have u19_ : T14_ 181 o = T 181 o := (hx14_ o (cw_lt hw0_.1 u6_ (fun _ _ _ => ⟨_, rfl⟩)) (ty_ne u6_ tq5_ (by decide)) 181).trans u10_
        have u20_ : T14_ 182 o = T 182 o := (hx14_ o (cw_lt hw0_.1 u6_ (fun _ _ _ => ⟨_, rfl⟩)) (ty_ne u6_ tq5_ (by decide)) 182).trans u11_
        have u21_ : T14_ 183 o = T 183 o := (hx14_ o (cw_lt hw0_.1 u6_ (fun _ _ _ => ⟨_, rfl⟩)) (ty_ne u6_ tq5_ (by decide)) 183).trans u12_
        have u22_ : T14_ 185 o = T 185 o := (hx14_ o (cw_lt hw0_.1 u6_ (fun _ _ _ => ⟨_, rfl⟩)) (ty_ne u6_ tq5_ (by decide)) 185).trans u13_
        have hw25_ : y25_14 = upB (upB (v_0 25) q5_ 0) q5_ (-1) := hv25_14_
        have hw0_ := hw
        refine aV_i E (n_Jx4a65c_add_9ea2d_n2 l D cy κ T14_ (upV (upV (upV (upV (upV (upV (upV (upV (upV (upV (upV (upV (upV v_0 20 (upB (v_0 20) q5_ 0)) 21 (upB (v_0 21) q5_ 0)) 22 (upB (v_0 22) q5_ 0)) 23 (upB (v_0 23) q5_ 0)) 24 (upB (v_0 24) q5_ 0)) 25 (upB (v_0 25) q5_ 0)) 20 y20_14) 21 y21_14) 22 y22_14) 23 y23_14) 24 y24_14) 25 y25_14) 302 y302_14) (T 181 o) q5_ H.size  hO14_ u16_  (tq14_.trans u17_.symm) (fun x_ h_ => hp0 x_ ((hoT_ x_).2 h_)) (show ((v_0 202) ((T 181 o))) ≤ 200 from by omega)) mt_Jx4a65c_add_9ea2d ml_X9_89 hK hZ hAc hw (cw_rc10 hK hw.1 u16_) hA ⟨(Nat.le_of_ble_eq_true rfl), (Nat.le_of_ble_eq_true rfl)⟩ ⟨(Nat.le_of_ble_eq_true rfl), (Nat.le_of_ble_eq_true rfl)⟩ (As := [.ref q5_]) (rest := []) rfl rfl hl.1 (Nat.le_of_ble_eq_true rfl) 39 rfl dX9_line_36 (fun zz23_ T23_ v_23 H locs rr23_ hge23_ ho23_ hq23_ hw => ?_)
        obtain ⟨y200_23, y202_23, ev23_, hh23_⟩ := hq23_
        rw [ev23_] at hw; clear ev23_
        obtain ⟨hy23_, hx23_, hz23_, hl23_, hel23_, hnw23_⟩ := hh23_
        have hy23_ : y202_23 = upB (v_0 202) (T 181 o) ((v_0 202) (T 181 o) + 1) := hy23_
        have hT23_ : WT T23_ := hw.1.2.1
        have hO23_ : ∀ x, ow T23_ x → κ 2 2 ≤ x := fun x h => hAc x (hw.2.1 x h)
        have hoT_ : OW T T23_ s.heap.size := OW.tr hw0_.2.2.1 hoT_ ho23_
        have hC_ : ∀ b, b < sz → T 0 b ≠ 10 → T 0 b ≠ 24 → T 0 b ≠ 26 → b ≠ o → ∀ j, j ≠ 197 → T23_ j b = T j b := fun b_ h1_ h2_ h3_ h4_ h5_ j_ h6_ => (hx23_ b_ (by have := hw0_.2.2.1; omega) (fun e_ => h2_ ((hC_ b_ h1_ h2_ h3_ h4_ h5_ 0 (by decide)).symm.trans (by rw [e_]; exact u16_))) (fun h_ => absurd ((hC_ b_ h1_ h2_ h3_ h4_ h5_ 0 (by decide)).symm.trans h_) h3_) j_).trans (hC_ b_ h1_ h2_ h3_ h4_ h5_ j_ h6_)
        have B180n_ : ∀ j_, j_ ≠ 197 → T23_ j_ (T 180 o) = T j_ (T 180 o) := fun j_ hj_ => (hx23_ (T 180 o) (cw_lt hw0_.1 ((B180_ 0 (by decide)).trans tl180_) (fun _ _ _ => ⟨_, rfl⟩)) ((ls_ne hT t_o).1) (fun h_ => absurd (((B180_ 0 (by decide)).trans tl180_).symm.trans h_) (by decide)) j_).trans (B180_ j_ hj_)
        have A180n_ : ∀ j_, j_ ≠ 197 → T23_ j_ (T 201 (T 180 o)) = T j_ (T 201 (T 180 o)) := fun j_ hj_ => (hx23_ (T 201 (T 180 o)) (cw_ltq hw0_.1 (by rw [A180_ 0 (by decide)]; exact tx180_)) (ty_neq (by rw [A180_ 0 (by decide)]; exact tx180_) u16_ (by decide) (by decide)) (fun h_ => by rw [B181_ 201 (by decide)]; exact own_ne hT tl180_ tl181_ ((ls_ne hT t_o).1) ((A180_ 0 (by decide)).symm.trans h_)) j_).trans (A180_ j_ hj_)
        have B182n_ : ∀ j_, j_ ≠ 197 → T23_ j_ (T 182 o) = T j_ (T 182 o) := fun j_ hj_ => (hx23_ (T 182 o) (cw_lt hw0_.1 ((B182_ 0 (by decide)).trans tl182_) (fun _ _ _ => ⟨_, rfl⟩)) ((ls_ne hT t_o).2.2.2.2.2.2.2.1) (fun h_ => absurd (((B182_ 0 (by decide)).trans tl182_).symm.trans h_) (by decide)) j_).trans (B182_ j_ hj_)
        have A182n_ : ∀ j_, j_ ≠ 197 → T23_ j_ (T 201 (T 182 o)) = T j_ (T 201 (T 182 o)) := fun j_ hj_ => (hx23_ (T 201 (T 182 o)) (cw_ltq hw0_.1 (by rw [A182_ 0 (by decide)]; exact tx182_)) (ty_neq (by rw [A182_ 0 (by decide)]; exact tx182_) u16_ (by decide) (by decide)) (fun h_ => by rw [B181_ 201 (by decide)]; exact own_ne hT tl182_ tl181_ ((ls_ne hT t_o).2.2.2.2.2.2.2.1) ((A182_ 0 (by decide)).symm.trans h_)) j_).trans (A182_ j_ hj_)
        have B183n_ : ∀ j_, j_ ≠ 197 → T23_ j_ (T 183 o) = T j_ (T 183 o) := fun j_ hj_ => (hx23_ (T 183 o) (cw_lt hw0_.1 ((B183_ 0 (by decide)).trans tl183_) (fun _ _ _ => ⟨_, rfl⟩)) ((ls_ne hT t_o).2.2.2.2.2.2.2.2.2.2.1) (fun h_ => absurd (((B183_ 0 (by decide)).trans tl183_).symm.trans h_) (by decide)) j_).trans (B183_ j_ hj_)
        have A183n_ : ∀ j_, j_ ≠ 197 → T23_ j_ (T 201 (T 183 o)) = T j_ (T 201 (T 183 o)) := fun j_ hj_ => (hx23_ (T 201 (T 183 o)) (cw_ltq hw0_.1 (by rw [A183_ 0 (by decide)]; exact tx183_)) (ty_neq (by rw [A183_ 0 (by decide)]; exact tx183_) u16_ (by decide) (by decide)) (fun h_ => by rw [B181_ 201 (by decide)]; exact own_ne hT tl183_ tl181_ ((ls_ne hT t_o).2.2.2.2.2.2.2.2.2.2.1) ((A183_ 0 (by decide)).symm.trans h_)) j_).trans (A183_ j_ hj_)
        have B180_ := B180n_
        have A180_ := A180n_
        have B182_ := B182n_
        have A182_ := A182n_
        have B183_ := B183n_
        have A183_ := A183n_
        have u24_ : T23_ 0 o = 9 := (hx23_ o (cw_lt hw0_.1 u15_ (fun _ _ _ => ⟨_, rfl⟩)) (ty_ne u15_ u16_ (by decide)) (fun h_ => absurd (u15_.symm.trans h_) (by decide)) 0).trans u15_
        have u25_ : T23_ 180 o = T 180 o := (hx23_ o (cw_lt hw0_.1 u15_ (fun _ _ _ => ⟨_, rfl⟩)) (ty_ne u15_ u16_ (by decide)) (fun h_ => absurd (u15_.symm.trans h_) (by decide)) 180).trans u18_
        have u26_ : T23_ 181 o = T 181 o := (hx23_ o (cw_lt hw0_.1 u15_ (fun _ _ _ => ⟨_, rfl⟩)) (ty_ne u15_ u16_ (by decide)) (fun h_ => absurd (u15_.symm.trans h_) (by decide)) 181).trans u19_
        have u27_ : T23_ 182 o = T 182 o := (hx23_ o (cw_lt hw0_.1 u15_ (fun _ _ _ => ⟨_, rfl⟩)) (ty_ne u15_ u16_ (by decide)) (fun h_ => absurd (u15_.symm.trans h_) (by decide)) 182).trans u20_
        have u28_ : T23_ 183 o = T 183 o := (hx23_ o (cw_lt hw0_.1 u15_ (fun _ _ _ => ⟨_, rfl⟩)) (ty_ne u15_ u16_ (by decide)) (fun h_ => absurd (u15_.symm.trans h_) (by decide)) 183).trans u21_
        have u29_ : T23_ 185 o = T 185 o := (hx23_ o (cw_lt hw0_.1 u15_ (fun _ _ _ => ⟨_, rfl⟩)) (ty_ne u15_ u16_ (by decide)) (fun h_ => absurd (u15_.symm.trans h_) (by decide)) 185).trans u22_
        refine j_pop E 40 rfl dX9_line_39 rfl ?_
        refine j_aload_n E 41 rfl dX9_line_40 rfl (lv_at hl 0 rfl) ?_
        refine g_181 E hK hw fl_X9_16 u24_ 44 rfl dX9_line_41 ?_
        refine kV_i E (c_Jx4a65c_size_8abf5 l D cy T23_ (upV (upV (upV (upV (upV (upV (upV (upV (upV (upV (upV (upV (upV (upV (upV v_0 20 (upB (v_0 20) q5_ 0)) 21 (upB (v_0 21) q5_ 0)) 22 (upB (v_0 22) q5_ 0)) 23 (upB (v_0 23) q5_ 0)) 24 (upB (v_0 24) q5_ 0)) 25 (upB (v_0 25) q5_ 0)) 20 y20_14) 21 y21_14) 22 y22_14) 23 y23_14) 24 y24_14) 25 y25_14) 302 y302_14) 200 y200_23) 202 y202_23) (T23_ 181 o)  (wt_181 hT23_ u24_)  ) mt_Jx4a65c_size_8abf5 ml_X9_80 hK hw (cw_rc10 hK hw.1 (wt_181 hT23_ u24_)) hA ⟨Nat.le_of_ble_eq_true rfl, Nat.le_of_ble_eq_true rfl⟩ ⟨Nat.le_of_ble_eq_true rfl, Nat.le_of_ble_eq_true rfl⟩ (As := []) (rest := []) rfl rfl hl.1 (Nat.le_of_ble_eq_true rfl) 47 rfl dX9_line_44 (fun zz30_ v_30 H locs rr30_ hq30_ hw => ?_)
        obtain ⟨ev30_, hh30_⟩ := hq30_
        rw [ev30_] at hw; clear ev30_
        replace hh30_ : zz30_ = (y202_23 ((T23_ 181 o))) ∧ 0 ≤ zz30_ := hh30_
        have hs2_ := hh30_.1
        rw [u26_, hy23_, upB_same] at hs2_
        refine j_iconst E 48 rfl dX9_line_47 ?_
        refine j_isub E 49 rfl dX9_line_48 ?_
        exact hret 49 (zz30_ - 1) T23_ _ _ _ ls _ _ hw hoT_ (rr (by omega)) (⟨u24_, ⟨u25_, u26_, u27_, u28_, u29_⟩, rfl, rfl, rfl, rfl, rfl, (by show y202_23 (T 180 o) = v_0 202 (T 180 o); rw [hy23_]; exact upB_ne ((ls_ne hT t_o).1)), (by show y202_23 (T 182 o) = v_0 202 (T 182 o); rw [hy23_]; exact upB_ne ((ls_ne hT t_o).2.2.2.2.2.2.2.1)), (by show y202_23 (T 183 o) = v_0 202 (T 183 o); rw [hy23_]; exact upB_ne ((ls_ne hT t_o).2.2.2.2.2.2.2.2.2.2.1)), hC_, (fun i_ => by rw [u25_, B180_ 201 (by decide), A180_ (1000 + i_) (by omega)]), (fun i_ => by rw [u27_, B182_ 201 (by decide), A182_ (1000 + i_) (by omega)]), (fun i_ => by rw [u28_, B183_ 201 (by decide), A183_ (1000 + i_) (by omega)]), rfl, rfl, rfl, rfl, rfl, rfl, rfl, Or.inr ⟨by omega, by omega, (by show y202_23 (T 181 o) = v_0 202 (T 181 o) + 1; rw [hy23_]; exact upB_same _ _ _), q5_, fz_, fun i_ h_ => by rw [u26_]; exact (hel23_ i_ h_).trans (by rw [B181_ 201 (by decide), A181_ (1000 + i_) (by omega)]), by rw [u26_]; exact hnw23_, fun y_ h_ => (by show y25_14 y_ = v_0 25 y_; rw [hw25_]; exact (upB_ne h_).trans (upB_ne h_)), (by show y25_14 q5_ = _; rw [hw25_]; exact upB_same _ _ _)⟩⟩) (Nat.le_of_ble_eq_true rfl) (Nat.le_of_ble_eq_true rfl) dX9_line_49
      · refine j_iconst E 22 rfl dX9_line_21 ?_
        exact hret 22 ((-1)) T _ _ _ ls _ _ hw hoT_ (rr (by decide)) (⟨t_o, ⟨rfl, rfl, rfl, rfl, rfl⟩, rfl, rfl, rfl, rfl, rfl, rfl, rfl, rfl, hC_, (fun _ => rfl), (fun _ => rfl), (fun _ => rfl), rfl, rfl, rfl, rfl, rfl, rfl, rfl, Or.inl ⟨rfl, by omega, rfl, fun _ => rfl, rfl⟩⟩) (Nat.le_of_ble_eq_true rfl) (Nat.le_of_ble_eq_true rfl) dX9_line_22
set_option maxHeartbeats 4000000 in
set_option maxRecDepth 100000 in
theorem n_X9_suit (l : Launch) (D : va_G) (cy : Nat → ClassId) (κ T : Nat → Nat → Nat) (v_0 : Nat → Nat → Int) (o : Nat) (v_p : Int) (v_q : Int) (v_l : Int) (v_h : Int) (v_w : Int) (v_d : Int) (sz : Nat) (S1_ : Int → List Int) (S2_ : Int → List Int) (S3_ : Int → List Int) (hO : ∀ x, ow T x → κ 2 2 ≤ x) (t_o : T 0 o = 9) (r_v_p : inR v_p) (r_v_q : inR v_q) (r_v_l : inR v_l) (r_v_h : inR v_h) (r_v_w : inR v_w) (r_v_d : inR v_d) (hp0 : ∀ x, T 0 x = 26 → x = κ 2 0) (hp1 : Wd_ T (v_0 300) o (v_0 202 (T 182 o)) S1_ S2_ S3_) (hp2 : v_0 202 (T 181 o) ≤ 24) (hp3 : 0 ≤ v_0 187 o ∧ v_0 187 o ≤ 199) : KA l D cy κ T yX9_suit cX9_suit 10 (some .int) 8 2 500 [.ref o, .int (J v_p), .int (J v_q), .int (J v_l), .int (J v_h), .int (J v_w), .int (J v_d)] v_0 sz (AI (fun (z_0 : Int) (T_2 : Nat → Nat → Nat) (v_2 : Nat → Nat → Int) => (T_2 0 o = 9 ∧ (T_2 180 o = T 180 o ∧ T_2 181 o = T 181 o ∧ T_2 182 o = T 182 o ∧ T_2 183 o = T 183 o ∧ T_2 185 o = T 185 o) ∧ v_2 186 o = v_0 186 o ∧ v_2 187 o = v_0 187 o ∧ v_2 190 o = v_0 190 o ∧ v_2 191 o = v_0 191 o ∧ v_2 303 = v_0 303 ∧ v_2 202 (T 180 o) = v_0 202 (T 180 o) ∧ v_2 202 (T 181 o) = v_0 202 (T 181 o) ∧ v_2 202 (T 182 o) = v_0 202 (T 182 o) ∧ (∀ b, b < sz → T 0 b ≠ 10 → T 0 b ≠ 24 → T 0 b ≠ 26 → b ≠ o → ∀ j, j ≠ 197 → T_2 j b = T j b) ∧ (∀ i_ : Nat, T_2 (1000 + i_) (T_2 201 (T_2 180 o)) = T (1000 + i_) (T 201 (T 180 o))) ∧ (∀ i_ : Nat, T_2 (1000 + i_) (T_2 201 (T_2 181 o)) = T (1000 + i_) (T 201 (T 181 o))) ∧ (∀ i_ : Nat, T_2 (1000 + i_) (T_2 201 (T_2 182 o)) = T (1000 + i_) (T 201 (T 182 o))) ∧ v_2 40 = v_0 40 ∧ v_2 41 = v_0 41 ∧ v_2 42 = v_0 42 ∧ v_2 43 = v_0 43 ∧ v_2 44 = v_0 44 ∧ v_2 25 = v_0 25 ∧ v_2 302 = v_0 302 ∧ v_2 160 = v_0 160 ∧ (True)) ∧ KdA_ T sz [100, 101, 102] (v_0 300) (v_2 300))) := by
  refine KA.ofi (by decide) (Nat.le_of_ble_eq_true rfl) hO ?_
  intro p e s m below meth c ls ar QW A0 H locs E hK hZ hA hAc hsz hszH_ hnm hw hlo_ hl hret
  have hl : lv_has ls 10 [(0, .ref o), (1, .int (J v_p)), (2, .int (J v_q)), (3, .int (J v_l)), (4, .int (J v_h)), (5, .int (J v_w)), (6, .int (J v_d))] := hl
  have hT : WT T := hw.1.2.1
  have hoT_ : OW T T s.heap.size := OW.rf T _
  have hC_ : ∀ b, b < sz → T 0 b ≠ 10 → T 0 b ≠ 24 → T 0 b ≠ 26 → b ≠ o → ∀ j, j ≠ 197 → T j b = T j b := fun _ _ _ _ _ _ _ _ => rfl
  have tl180_ : T 0 (T 180 o) = 10 := wt_180 hT t_o
  have tx180_ : T 0 (T 201 (T 180 o)) = 24 ∨ T 0 (T 201 (T 180 o)) = 26 := (wt10 hT tl180_).1
  have B180_ : ∀ j, j ≠ 197 → T j (T 180 o) = T j (T 180 o) := fun _ _ => rfl
  have A180_ : ∀ j, j ≠ 197 → T j (T 201 (T 180 o)) = T j (T 201 (T 180 o)) := fun _ _ => rfl
  have tl181_ : T 0 (T 181 o) = 10 := wt_181 hT t_o
  have tx181_ : T 0 (T 201 (T 181 o)) = 24 ∨ T 0 (T 201 (T 181 o)) = 26 := (wt10 hT tl181_).1
  have B181_ : ∀ j, j ≠ 197 → T j (T 181 o) = T j (T 181 o) := fun _ _ => rfl
  have A181_ : ∀ j, j ≠ 197 → T j (T 201 (T 181 o)) = T j (T 201 (T 181 o)) := fun _ _ => rfl
  have tl182_ : T 0 (T 182 o) = 10 := wt_182 hT t_o
  have tx182_ : T 0 (T 201 (T 182 o)) = 24 ∨ T 0 (T 201 (T 182 o)) = 26 := (wt10 hT tl182_).1
  have B182_ : ∀ j, j ≠ 197 → T j (T 182 o) = T j (T 182 o) := fun _ _ => rfl
  have A182_ : ∀ j, j ≠ 197 → T j (T 201 (T 182 o)) = T j (T 201 (T 182 o)) := fun _ _ => rfl
  have tl183_ : T 0 (T 183 o) = 10 := wt_183 hT t_o
  have tx183_ : T 0 (T 201 (T 183 o)) = 24 ∨ T 0 (T 201 (T 183 o)) = 26 := (wt10 hT tl183_).1
  have B183_ : ∀ j, j ≠ 197 → T j (T 183 o) = T j (T 183 o) := fun _ _ => rfl
  have A183_ : ∀ j, j ≠ 197 → T j (T 201 (T 183 o)) = T j (T 201 (T 183 o)) := fun _ _ => rfl
  have hwI_ := hw
  refine j_aload_n E 1 rfl dX9_suit_0 rfl (lv_at hl 0 rfl) ?_
  refine j_iload_n E 2 rfl dX9_suit_1 rfl (lv_at hl 1 rfl) ?_
  refine kV_r E (c_X9_livingAt l D cy T (v_0) o v_p  t_o r_v_p ) mt_X9_livingAt ml_X9_93 hK hw (cw_rc9 hK hw.1 t_o) hA ⟨Nat.le_of_ble_eq_true rfl, Nat.le_of_ble_eq_true rfl⟩ ⟨Nat.le_of_ble_eq_true rfl, Nat.le_of_ble_eq_true rfl⟩ (As := [.int (J v_p)]) (rest := []) rfl rfl hl.1 (Nat.le_of_ble_eq_true rfl) 5 rfl dX9_suit_2 (fun oo1_ v_1 H locs hq1_ hw => ?_)
  obtain ⟨ev1_, hh1_⟩ := hq1_
  rw [ev1_] at hw; clear ev1_
  obtain ⟨tt1_, hh1_⟩ := hh1_
  replace hh1_ : (oo1_ = none → ((v_p < 0 ∨ ((v_0 202) (T 180 o)) ≤ v_p) ∨ ∃ y_, T (1000 + (v_p).toNat) (T 201 (T 180 o)) = y_ + 1 ∧ ¬ ((v_0 43) y_) = -1)) ∧ (∀ y_, oo1_ = some y_ → 0 ≤ v_p ∧ v_p < ((v_0 202) (T 180 o)) ∧ T (1000 + (v_p).toNat) (T 201 (T 180 o)) = y_ + 1 ∧ ((v_0 43) y_) = -1) := hh1_
  cases oo1_ with
  | none =>
    refine j_astoreN E 7 rfl [(7, .null), (0, .ref o), (1, .int (J v_p)), (2, .int (J v_q)), (3, .int (J v_l)), (4, .int (J v_h)), (5, .int (J v_w)), (6, .int (J v_d))] dX9_suit_5 hl (by decide) rfl (fun ls hl => ?_)
    refine j_aload_n E 8 rfl dX9_suit_7 rfl (lv_at hl 1 rfl) ?_
    refine j_iload_n E 9 rfl dX9_suit_8 rfl (lv_at hl 3 rfl) ?_
    refine kV_r E (c_X9_livingAt l D cy T (v_0) o v_q  t_o r_v_q ) mt_X9_livingAt ml_X9_93 hK hw (cw_rc9 hK hw.1 t_o) hA ⟨Nat.le_of_ble_eq_true rfl, Nat.le_of_ble_eq_true rfl⟩ ⟨Nat.le_of_ble_eq_true rfl, Nat.le_of_ble_eq_true rfl⟩ (As := [.int (J v_q)]) (rest := []) rfl rfl hl.1 (Nat.le_of_ble_eq_true rfl) 12 rfl dX9_suit_9 (fun oo2_ v_2 H locs hq2_ hw => ?_)
    obtain ⟨ev2_, hh2_⟩ := hq2_
    rw [ev2_] at hw; clear ev2_
    obtain ⟨tt2_, hh2_⟩ := hh2_
    replace hh2_ : (oo2_ = none → ((v_q < 0 ∨ ((v_0 202) (T 180 o)) ≤ v_q) ∨ ∃ y_, T (1000 + (v_q).toNat) (T 201 (T 180 o)) = y_ + 1 ∧ ¬ ((v_0 43) y_) = -1)) ∧ (∀ y_, oo2_ = some y_ → 0 ≤ v_q ∧ v_q < ((v_0 202) (T 180 o)) ∧ T (1000 + (v_q).toNat) (T 201 (T 180 o)) = y_ + 1 ∧ ((v_0 43) y_) = -1) := hh2_
    cases oo2_ with
    | none =>
      refine j_astoreN E 14 rfl [(8, .null), (7, .null), (0, .ref o), (1, .int (J v_p)), (2, .int (J v_q)), (3, .int (J v_l)), (4, .int (J v_h)), (5, .int (J v_w)), (6, .int (J v_d))] dX9_suit_12 hl (by decide) rfl (fun ls hl => ?_)
      refine j_aloadN E 16 rfl dX9_suit_14 (lv_at hl 1 rfl) ?_
      refine j_ifnullN E 49 dX9_suit_16 (by decide) ?_
      refine j_iconst E 50 rfl dX9_suit_49 ?_
      exact hret 50 ((-1)) T _ _ _ ls _ _ hw hoT_ (rr (by decide)) (⟨⟨t_o, ⟨rfl, rfl, rfl, rfl, rfl⟩, rfl, rfl, rfl, rfl, rfl, rfl, rfl, rfl, hC_, (fun _ => rfl), (fun _ => rfl), (fun _ => rfl), rfl, rfl, rfl, rfl, rfl, rfl, rfl, rfl, trivial⟩, KdA_rf⟩) (Nat.le_of_ble_eq_true rfl) (Nat.le_of_ble_eq_true rfl) dX9_suit_50
    | some xx2_ =>
      have te2_ := tt2_ xx2_ rfl
      have tr_ := te2_
      refine j_astore E 14 rfl [(8, .ref xx2_), (7, .null), (0, .ref o), (1, .int (J v_p)), (2, .int (J v_q)), (3, .int (J v_l)), (4, .int (J v_h)), (5, .int (J v_w)), (6, .int (J v_d))] dX9_suit_12 hl (by decide) rfl (fun ls hl => ?_)
      refine j_aloadN E 16 rfl dX9_suit_14 (lv_at hl 1 rfl) ?_
      refine j_ifnullN E 49 dX9_suit_16 (by decide) ?_
      refine j_iconst E 50 rfl dX9_suit_49 ?_
      exact hret 50 ((-1)) T _ _ _ ls _ _ hw hoT_ (rr (by decide)) (⟨⟨t_o, ⟨rfl, rfl, rfl, rfl, rfl⟩, rfl, rfl, rfl, rfl, rfl, rfl, rfl, rfl, hC_, (fun _ => rfl), (fun _ => rfl), (fun _ => rfl), rfl, rfl, rfl, rfl, rfl, rfl, rfl, rfl, trivial⟩, KdA_rf⟩) (Nat.le_of_ble_eq_true rfl) (Nat.le_of_ble_eq_true rfl) dX9_suit_50
  | some xx1_ =>
    have te1_ := tt1_ xx1_ rfl
    have tr_ := te1_
    refine j_astore E 7 rfl [(7, .ref xx1_), (0, .ref o), (1, .int (J v_p)), (2, .int (J v_q)), (3, .int (J v_l)), (4, .int (J v_h)), (5, .int (J v_w)), (6, .int (J v_d))] dX9_suit_5 hl (by decide) rfl (fun ls hl => ?_)
    refine j_aload_n E 8 rfl dX9_suit_7 rfl (lv_at hl 1 rfl) ?_
    refine j_iload_n E 9 rfl dX9_suit_8 rfl (lv_at hl 3 rfl) ?_
    refine kV_r E (c_X9_livingAt l D cy T (v_0) o v_q  t_o r_v_q ) mt_X9_livingAt ml_X9_93 hK hw (cw_rc9 hK hw.1 t_o) hA ⟨Nat.le_of_ble_eq_true rfl, Nat.le_of_ble_eq_true rfl⟩ ⟨Nat.le_of_ble_eq_true rfl, Nat.le_of_ble_eq_true rfl⟩ (As := [.int (J v_q)]) (rest := []) rfl rfl hl.1 (Nat.le_of_ble_eq_true rfl) 12 rfl dX9_suit_9 (fun oo3_ v_3 H locs hq3_ hw => ?_)
    obtain ⟨ev3_, hh3_⟩ := hq3_
    rw [ev3_] at hw; clear ev3_
    obtain ⟨tt3_, hh3_⟩ := hh3_
    replace hh3_ : (oo3_ = none → ((v_q < 0 ∨ ((v_0 202) (T 180 o)) ≤ v_q) ∨ ∃ y_, T (1000 + (v_q).toNat) (T 201 (T 180 o)) = y_ + 1 ∧ ¬ ((v_0 43) y_) = -1)) ∧ (∀ y_, oo3_ = some y_ → 0 ≤ v_q ∧ v_q < ((v_0 202) (T 180 o)) ∧ T (1000 + (v_q).toNat) (T 201 (T 180 o)) = y_ + 1 ∧ ((v_0 43) y_) = -1) := hh3_
    cases oo3_ with
    | none =>
      refine j_astoreN E 14 rfl [(8, .null), (7, .ref xx1_), (0, .ref o), (1, .int (J v_p)), (2, .int (J v_q)), (3, .int (J v_l)), (4, .int (J v_h)), (5, .int (J v_w)), (6, .int (J v_d))] dX9_suit_12 hl (by decide) rfl (fun ls hl => ?_)
      refine j_aload E 16 rfl dX9_suit_14 (lv_at hl 1 rfl) ?_
      refine j_ifnullR E 19 rfl dX9_suit_16 ?_
      refine j_aloadN E 21 rfl dX9_suit_19 (lv_at hl 0 rfl) ?_
      refine j_ifnullN E 49 dX9_suit_21 (by decide) ?_
      refine j_iconst E 50 rfl dX9_suit_49 ?_
      exact hret 50 ((-1)) T _ _ _ ls _ _ hw hoT_ (rr (by decide)) (⟨⟨t_o, ⟨rfl, rfl, rfl, rfl, rfl⟩, rfl, rfl, rfl, rfl, rfl, rfl, rfl, rfl, hC_, (fun _ => rfl), (fun _ => rfl), (fun _ => rfl), rfl, rfl, rfl, rfl, rfl, rfl, rfl, rfl, trivial⟩, KdA_rf⟩) (Nat.le_of_ble_eq_true rfl) (Nat.le_of_ble_eq_true rfl) dX9_suit_50
    | some xx3_ =>
      have te3_ := tt3_ xx3_ rfl
      have tr_ := te3_
      refine j_astore E 14 rfl [(8, .ref xx3_), (7, .ref xx1_), (0, .ref o), (1, .int (J v_p)), (2, .int (J v_q)), (3, .int (J v_l)), (4, .int (J v_h)), (5, .int (J v_w)), (6, .int (J v_d))] dX9_suit_12 hl (by decide) rfl (fun ls hl => ?_)
      refine j_aload E 16 rfl dX9_suit_14 (lv_at hl 1 rfl) ?_
      refine j_ifnullR E 19 rfl dX9_suit_16 ?_
      refine j_aload E 21 rfl dX9_suit_19 (lv_at hl 0 rfl) ?_
      refine j_ifnullR E 24 rfl dX9_suit_21 ?_
      refine j_iload_n E 25 rfl dX9_suit_24 rfl (lv_at hl 3 rfl) ?_
      refine j_iload_n E 26 rfl dX9_suit_25 rfl (lv_at hl 4 rfl) ?_
      refine j_icmp_eq E 29 49 rfl r_v_p r_v_q dX9_suit_26 (by decide) (fun cc4_ => ?_) (fun cc4_ => ?_)
      · refine j_iconst E 50 rfl dX9_suit_49 ?_
        exact hret 50 ((-1)) T _ _ _ ls _ _ hw hoT_ (rr (by decide)) (⟨⟨t_o, ⟨rfl, rfl, rfl, rfl, rfl⟩, rfl, rfl, rfl, rfl, rfl, rfl, rfl, rfl, hC_, (fun _ => rfl), (fun _ => rfl), (fun _ => rfl), rfl, rfl, rfl, rfl, rfl, rfl, rfl, rfl, trivial⟩, KdA_rf⟩) (Nat.le_of_ble_eq_true rfl) (Nat.le_of_ble_eq_true rfl) dX9_suit_50
      · refine j_aload_n E 30 rfl dX9_suit_29 rfl (lv_at hl 2 rfl) ?_
        refine j_iload_n E 31 rfl dX9_suit_30 rfl (lv_at hl 5 rfl) ?_
        refine kV_i E (c_X9_isLine l D cy T (v_0) o v_l  t_o r_v_l ) mt_X9_isLine ml_X9_172 hK hw (cw_rc9 hK hw.1 t_o) hA ⟨Nat.le_of_ble_eq_true rfl, Nat.le_of_ble_eq_true rfl⟩ ⟨Nat.le_of_ble_eq_true rfl, Nat.le_of_ble_eq_true rfl⟩ (As := [.int (J v_l)]) (rest := []) rfl rfl hl.1 (Nat.le_of_ble_eq_true rfl) 34 rfl dX9_suit_31 (fun zz5_ v_5 H locs rr5_ hq5_ hw => ?_)
        obtain ⟨ev5_, hh5_⟩ := hq5_
        rw [ev5_] at hw; clear ev5_
        replace hh5_ : (zz5_ = 1 ∧ 0 ≤ v_l ∧ v_l < ((v_0 202) (T 181 o))) ∨ (zz5_ = 0 ∧ (v_l < 0 ∨ ((v_0 202) (T 181 o)) ≤ v_l)) := hh5_
        refine j_if_eq E 37 49 rfl rr5_ dX9_suit_34 (by decide) (fun cc6_ => ?_) (fun cc6_ => ?_)
        · refine j_iconst E 50 rfl dX9_suit_49 ?_
          exact hret 50 ((-1)) T _ _ _ ls _ _ hw hoT_ (rr (by decide)) (⟨⟨t_o, ⟨rfl, rfl, rfl, rfl, rfl⟩, rfl, rfl, rfl, rfl, rfl, rfl, rfl, rfl, hC_, (fun _ => rfl), (fun _ => rfl), (fun _ => rfl), rfl, rfl, rfl, rfl, rfl, rfl, rfl, rfl, trivial⟩, KdA_rf⟩) (Nat.le_of_ble_eq_true rfl) (Nat.le_of_ble_eq_true rfl) dX9_suit_50
        · refine j_aload_n E 38 rfl dX9_suit_37 rfl (lv_at hl 2 rfl) ?_
          refine g_183 E hK hw fl_X9_22 t_o 41 rfl dX9_suit_38 ?_
          refine kV_i E (c_Jx4a65c_size_8abf5 l D cy T (v_0) (T 183 o)  (wt_183 hT t_o)  ) mt_Jx4a65c_size_8abf5 ml_X9_80 hK hw (cw_rc10 hK hw.1 (wt_183 hT t_o)) hA ⟨Nat.le_of_ble_eq_true rfl, Nat.le_of_ble_eq_true rfl⟩ ⟨Nat.le_of_ble_eq_true rfl, Nat.le_of_ble_eq_true rfl⟩ (As := []) (rest := []) rfl rfl hl.1 (Nat.le_of_ble_eq_true rfl) 44 rfl dX9_suit_41 (fun zz7_ v_7 H locs rr7_ hq7_ hw => ?_)
          obtain ⟨ev7_, hh7_⟩ := hq7_
          rw [ev7_] at hw; clear ev7_
          replace hh7_ : zz7_ = ((v_0 202) ((T 183 o))) ∧ 0 ≤ zz7_ := hh7_
          refine j_bipush E 46 rfl dX9_suit_44 (by decide) ?_
          refine j_icmp_lt E 49 51 rfl rr7_ (rr (by decide)) dX9_suit_46 (by decide) (fun cc8_ => ?_) (fun cc8_ => ?_)
          · refine j_iload E 53 rfl dX9_suit_51 (lv_at hl 8 rfl) ?_
            refine j_if_lt E 56 85 rfl r_v_d dX9_suit_53 (by decide) (fun cc9_ => ?_) (fun cc9_ => ?_)
            · refine j_iconst E 86 rfl dX9_suit_85 ?_
              exact hret 86 ((-1)) T _ _ _ ls _ _ hw hoT_ (rr (by decide)) (⟨⟨t_o, ⟨rfl, rfl, rfl, rfl, rfl⟩, rfl, rfl, rfl, rfl, rfl, rfl, rfl, rfl, hC_, (fun _ => rfl), (fun _ => rfl), (fun _ => rfl), rfl, rfl, rfl, rfl, rfl, rfl, rfl, rfl, trivial⟩, KdA_rf⟩) (Nat.le_of_ble_eq_true rfl) (Nat.le_of_ble_eq_true rfl) dX9_suit_86
            · refine j_iload E 58 rfl dX9_suit_56 (lv_at hl 8 rfl) ?_
              refine j_aload_n E 59 rfl dX9_suit_58 rfl (lv_at hl 2 rfl) ?_
              refine g_187 E hK hw fl_X9_37 t_o (v_0 187 o) rfl 62 rfl dX9_suit_59 (fun rr10_ => ?_)
              refine j_icmp_gt E 65 85 rfl r_v_d rr10_ dX9_suit_62 (by decide) (fun cc11_ => ?_) (fun cc11_ => ?_)
              · refine j_iconst E 86 rfl dX9_suit_85 ?_
                exact hret 86 ((-1)) T _ _ _ ls _ _ hw hoT_ (rr (by decide)) (⟨⟨t_o, ⟨rfl, rfl, rfl, rfl, rfl⟩, rfl, rfl, rfl, rfl, rfl, rfl, rfl, rfl, hC_, (fun _ => rfl), (fun _ => rfl), (fun _ => rfl), rfl, rfl, rfl, rfl, rfl, rfl, rfl, rfl, trivial⟩, KdA_rf⟩) (Nat.le_of_ble_eq_true rfl) (Nat.le_of_ble_eq_true rfl) dX9_suit_86
              · refine j_iload E 67 rfl dX9_suit_65 (lv_at hl 8 rfl) ?_
                refine j_aload E 69 rfl dX9_suit_67 (lv_at hl 1 rfl) ?_
                refine g_42 E hK hw fl_X9_113 te1_ (v_0 42 xx1_) rfl 72 rfl dX9_suit_69 (fun rr12_ => ?_)
                refine j_icmp_lt E 75 85 rfl r_v_d rr12_ dX9_suit_72 (by decide) (fun cc13_ => ?_) (fun cc13_ => ?_)
                · refine j_iconst E 86 rfl dX9_suit_85 ?_
                  exact hret 86 ((-1)) T _ _ _ ls _ _ hw hoT_ (rr (by decide)) (⟨⟨t_o, ⟨rfl, rfl, rfl, rfl, rfl⟩, rfl, rfl, rfl, rfl, rfl, rfl, rfl, rfl, hC_, (fun _ => rfl), (fun _ => rfl), (fun _ => rfl), rfl, rfl, rfl, rfl, rfl, rfl, rfl, rfl, trivial⟩, KdA_rf⟩) (Nat.le_of_ble_eq_true rfl) (Nat.le_of_ble_eq_true rfl) dX9_suit_86
                · refine j_iload E 77 rfl dX9_suit_75 (lv_at hl 8 rfl) ?_
                  refine j_aload E 79 rfl dX9_suit_77 (lv_at hl 0 rfl) ?_
                  refine g_42 E hK hw fl_X9_113 te3_ (v_0 42 xx3_) rfl 82 rfl dX9_suit_79 (fun rr14_ => ?_)
                  refine j_icmp_ge E 85 87 rfl r_v_d rr14_ dX9_suit_82 (by decide) (fun cc15_ => ?_) (fun cc15_ => ?_)
                  · refine j_aload E 89 rfl dX9_suit_87 (lv_at hl 1 rfl) ?_
                    refine g_41 E hK hw fl_X9_110 te1_ (v_0 41 xx1_) rfl 92 rfl dX9_suit_89 (fun rr16_ => ?_)
                    refine j_aload E 94 rfl dX9_suit_92 (lv_at hl 0 rfl) ?_
                    refine g_41 E hK hw fl_X9_110 te3_ (v_0 41 xx3_) rfl 97 rfl dX9_suit_94 (fun rr17_ => ?_)
                    refine j_icmp_ne E 100 104 rfl rr16_ rr17_ dX9_suit_97 (by decide) (fun cc18_ => ?_) (fun cc18_ => ?_)
                    · refine j_iconst E 105 rfl dX9_suit_104 ?_
                      refine j_istore E 107 rfl [(9, .int (J 0)), (8, .ref xx3_), (7, .ref xx1_), (0, .ref o), (1, .int (J v_p)), (2, .int (J v_q)), (3, .int (J v_l)), (4, .int (J v_h)), (5, .int (J v_w)), (6, .int (J v_d))] dX9_suit_105 hl (by decide) rfl (fun ls hl => ?_)
                      refine j_aload_n E 108 rfl dX9_suit_107 rfl (lv_at hl 3 rfl) ?_
                      refine g_193 E hK hw fl_X9_62 t_o 111 rfl dX9_suit_108 ?_
                      refine j_iload E 113 rfl dX9_suit_111 (lv_at hl 7 rfl) ?_
                      refine j_iload E 115 rfl dX9_suit_113 (lv_at hl 8 rfl) ?_
                      refine j_aload_n E 116 rfl dX9_suit_115 rfl (lv_at hl 3 rfl) ?_
                      refine g_187 E hK hw fl_X9_37 t_o (v_0 187 o) rfl 119 rfl dX9_suit_116 (fun _ => ?_)
                      refine j_iload E 121 rfl dX9_suit_119 (lv_at hl 9 rfl) ?_
                      refine j_isub E 122 rfl dX9_suit_121 ?_
                      refine j_norm (fun zz19_ rr19_ ee19_ => ?_)
                      refine j_iload E 124 rfl dX9_suit_122 (lv_at hl 0 rfl) ?_
                      refine j_iload E 126 rfl dX9_suit_124 (lv_at hl 9 rfl) ?_
                      refine j_aload E 128 rfl dX9_suit_126 (lv_at hl 1 rfl) ?_
                      refine g_42 E hK hw fl_X9_113 te3_ (v_0 42 xx3_) rfl 131 rfl dX9_suit_128 (fun _ => ?_)
                      refine j_isub E 132 rfl dX9_suit_131 ?_
                      refine j_norm (fun zz20_ rr20_ ee20_ => ?_)
                      refine kV_i E (c_X4_takeFacts l D cy T (v_0) (T 193 o) v_h v_w zz19_ 0 zz20_  (wt_193 hT t_o) r_v_h r_v_w rr19_ (rr (by decide)) rr20_ ) mt_X4_takeFacts ml_X9_292 hK hw (cw_rc5 hK hw.1 (wt_193 hT t_o)) hA ⟨Nat.le_of_ble_eq_true rfl, Nat.le_of_ble_eq_true rfl⟩ ⟨Nat.le_of_ble_eq_true rfl, Nat.le_of_ble_eq_true rfl⟩ (As := [.int (J v_h), .int (J v_w), .int (J zz19_), .int (J 0), .int (J zz20_)]) (rest := []) rfl rfl hl.1 (Nat.le_of_ble_eq_true rfl) 135 rfl dX9_suit_132 (fun zz21_ v_21 H locs rr21_ hq21_ hw => ?_)
                      obtain ⟨y300_21, ev21_, hh21_⟩ := hq21_
                      rw [ev21_] at hw; clear ev21_
                      obtain ⟨hh21_, kf21_⟩ := hh21_
                      have kd22_ : KdA_ T sz [100, 101, 102] (v_0 300) (y300_21) := KdA_tr KdA_rf (KdA_kc kf21_ (by decide) (fun b_ h1_ h2_ => ((C20_ hC_ t_o (by decide)) b_ h1_ h2_).2))
                      replace hh21_ : (zz21_ = 1 ∧ (0 ≤ v_h ∧ v_h ≤ 99 ∧ 0 ≤ v_w ∧ v_w ≤ 9 ∧ 0 ≤ zz19_ ∧ zz19_ ≤ 299 ∧ 0 ≤ (0 : Int) ∧ (0 : Int) ≤ 1 ∧ -99 ≤ zz20_ ∧ zz20_ ≤ 299) ∧ Fc_ (y300_21) (T 100 (T 193 o)) v_h v_w zz19_ (0 : Int) zz20_ ∧ Ro_ (v_0 300) (y300_21) (T 100 (T 193 o))) ∨ (zz21_ = 0 ∧ ¬ (0 ≤ v_h ∧ v_h ≤ 99 ∧ 0 ≤ v_w ∧ v_w ≤ 9 ∧ 0 ≤ zz19_ ∧ zz19_ ≤ 299 ∧ 0 ≤ (0 : Int) ∧ (0 : Int) ≤ 1 ∧ -99 ≤ zz20_ ∧ zz20_ ≤ 299) ∧ (y300_21) = (v_0 300)) := hh21_
                      refine j_if_ne E 138 140 rfl rr21_ dX9_suit_135 (by decide) (fun cc23_ => ?_) (fun cc23_ => ?_)
                      · refine j_aload_n E 141 rfl dX9_suit_140 rfl (lv_at hl 3 rfl) ?_
                        refine g_183 E hK hw fl_X9_22 t_o 144 rfl dX9_suit_141 ?_
                        have hw0_ := hw
                        refine n_obj7 E hK hw hA cl_X9_131 (Nat.le_of_ble_eq_true rfl) (Nat.le_of_ble_eq_true rfl) 147 rfl dX9_suit_144 (fun q24_ T24_ H hge24_ hx24_ ho24_ tq24_ hw => ?_)
                        have fq24_ : s.heap.size ≤ q24_ := Nat.le_trans hw0_.2.2.1 hge24_
                        have hw : WK D cy T24_ (upV (upV (upV (upV (upV (upV (upV (upV v_0 300 y300_21) 140 (upB (v_0 140) q24_ 0)) 141 (upB (v_0 141) q24_ 0)) 142 (upB (v_0 142) q24_ 0)) 143 (upB (v_0 143) q24_ 0)) 144 (upB (v_0 144) q24_ 0)) 145 (upB (v_0 145) q24_ 0)) 146 (upB (v_0 146) q24_ 0)) A0 s.heap H locs := hw
                        have hT24_ : WT T24_ := hw.1.2.1
                        have hO24_ : ∀ x, ow T24_ x → κ 2 2 ≤ x := fun x h => hAc x (hw.2.1 x h)
                        have hoT_ : OW T T24_ s.heap.size := OW.tr hw0_.2.2.1 hoT_ ho24_
                        have hC_ : ∀ b, b < sz → T 0 b ≠ 10 → T 0 b ≠ 24 → T 0 b ≠ 26 → b ≠ o → ∀ j, j ≠ 197 → T24_ j b = T j b := fun b_ h1_ h2_ h3_ h4_ h5_ j_ h6_ => (hx24_ b_ (by have := hw0_.2.2.1; have := hge24_; omega) j_).trans (hC_ b_ h1_ h2_ h3_ h4_ h5_ j_ h6_)
                        have B180n_ : ∀ j_, j_ ≠ 197 → T24_ j_ (T 180 o) = T j_ (T 180 o) := fun j_ hj_ => (hx24_ (T 180 o) (Nat.ne_of_lt (Nat.lt_of_lt_of_le (cw_lt hw0_.1 ((B180_ 0 (by decide)).trans tl180_) (fun _ _ _ => ⟨_, rfl⟩)) hge24_)) j_).trans (B180_ j_ hj_)
                        have A180n_ : ∀ j_, j_ ≠ 197 → T24_ j_ (T 201 (T 180 o)) = T j_ (T 201 (T 180 o)) := fun j_ hj_ => (hx24_ (T 201 (T 180 o)) (Nat.ne_of_lt (Nat.lt_of_lt_of_le (cw_ltq hw0_.1 (by rw [A180_ 0 (by decide)]; exact tx180_)) hge24_)) j_).trans (A180_ j_ hj_)
                        have B181n_ : ∀ j_, j_ ≠ 197 → T24_ j_ (T 181 o) = T j_ (T 181 o) := fun j_ hj_ => (hx24_ (T 181 o) (Nat.ne_of_lt (Nat.lt_of_lt_of_le (cw_lt hw0_.1 ((B181_ 0 (by decide)).trans tl181_) (fun _ _ _ => ⟨_, rfl⟩)) hge24_)) j_).trans (B181_ j_ hj_)
                        have A181n_ : ∀ j_, j_ ≠ 197 → T24_ j_ (T 201 (T 181 o)) = T j_ (T 201 (T 181 o)) := fun j_ hj_ => (hx24_ (T 201 (T 181 o)) (Nat.ne_of_lt (Nat.lt_of_lt_of_le (cw_ltq hw0_.1 (by rw [A181_ 0 (by decide)]; exact tx181_)) hge24_)) j_).trans (A181_ j_ hj_)
                        have B182n_ : ∀ j_, j_ ≠ 197 → T24_ j_ (T 182 o) = T j_ (T 182 o) := fun j_ hj_ => (hx24_ (T 182 o) (Nat.ne_of_lt (Nat.lt_of_lt_of_le (cw_lt hw0_.1 ((B182_ 0 (by decide)).trans tl182_) (fun _ _ _ => ⟨_, rfl⟩)) hge24_)) j_).trans (B182_ j_ hj_)
                        have A182n_ : ∀ j_, j_ ≠ 197 → T24_ j_ (T 201 (T 182 o)) = T j_ (T 201 (T 182 o)) := fun j_ hj_ => (hx24_ (T 201 (T 182 o)) (Nat.ne_of_lt (Nat.lt_of_lt_of_le (cw_ltq hw0_.1 (by rw [A182_ 0 (by decide)]; exact tx182_)) hge24_)) j_).trans (A182_ j_ hj_)
                        have B183n_ : ∀ j_, j_ ≠ 197 → T24_ j_ (T 183 o) = T j_ (T 183 o) := fun j_ hj_ => (hx24_ (T 183 o) (Nat.ne_of_lt (Nat.lt_of_lt_of_le (cw_lt hw0_.1 ((B183_ 0 (by decide)).trans tl183_) (fun _ _ _ => ⟨_, rfl⟩)) hge24_)) j_).trans (B183_ j_ hj_)
                        have A183n_ : ∀ j_, j_ ≠ 197 → T24_ j_ (T 201 (T 183 o)) = T j_ (T 201 (T 183 o)) := fun j_ hj_ => (hx24_ (T 201 (T 183 o)) (Nat.ne_of_lt (Nat.lt_of_lt_of_le (cw_ltq hw0_.1 (by rw [A183_ 0 (by decide)]; exact tx183_)) hge24_)) j_).trans (A183_ j_ hj_)
                        have B180_ := B180n_
                        have A180_ := A180n_
                        have B181_ := B181n_
                        have A181_ := A181n_
                        have B182_ := B182n_
                        have A182_ := A182n_
                        have B183_ := B183n_
                        have A183_ := A183n_
                        have u25_ : T24_ 0 o = 9 := (hx24_ o (Nat.ne_of_lt (Nat.lt_of_lt_of_le (cw_lt hw0_.1 t_o (fun _ _ _ => ⟨_, rfl⟩)) hge24_)) 0).trans t_o
                        have u26_ : T24_ 0 xx1_ = 2 := (hx24_ xx1_ (Nat.ne_of_lt (Nat.lt_of_lt_of_le (cw_lt hw0_.1 te1_ (fun _ _ _ => ⟨_, rfl⟩)) hge24_)) 0).trans te1_
                        have u27_ : T24_ 0 xx3_ = 2 := (hx24_ xx3_ (Nat.ne_of_lt (Nat.lt_of_lt_of_le (cw_lt hw0_.1 te3_ (fun _ _ _ => ⟨_, rfl⟩)) hge24_)) 0).trans te3_
                        have u28_ : T24_ 0 (T 183 o) = 10 := (hx24_ (T 183 o) (Nat.ne_of_lt (Nat.lt_of_lt_of_le (cw_lt hw0_.1 (wt_183 hT t_o) (fun _ _ _ => ⟨_, rfl⟩)) hge24_)) 0).trans (wt_183 hT t_o)
                        have u29_ : T24_ 2 (T 183 o) = 7 := (hx24_ (T 183 o) (Nat.ne_of_lt (Nat.lt_of_lt_of_le (cw_lt hw0_.1 (wt_183 hT t_o) (fun _ _ _ => ⟨_, rfl⟩)) hge24_)) 2).trans (we_183 hT t_o)
                        have u30_ : T24_ 180 o = T 180 o := (hx24_ o (Nat.ne_of_lt (Nat.lt_of_lt_of_le (cw_lt hw0_.1 t_o (fun _ _ _ => ⟨_, rfl⟩)) hge24_)) 180).trans rfl
                        have u31_ : T24_ 181 o = T 181 o := (hx24_ o (Nat.ne_of_lt (Nat.lt_of_lt_of_le (cw_lt hw0_.1 t_o (fun _ _ _ => ⟨_, rfl⟩)) hge24_)) 181).trans rfl
                        have u32_ : T24_ 182 o = T 182 o := (hx24_ o (Nat.ne_of_lt (Nat.lt_of_lt_of_le (cw_lt hw0_.1 t_o (fun _ _ _ => ⟨_, rfl⟩)) hge24_)) 182).trans rfl
                        have u33_ : T24_ 183 o = T 183 o := (hx24_ o (Nat.ne_of_lt (Nat.lt_of_lt_of_le (cw_lt hw0_.1 t_o (fun _ _ _ => ⟨_, rfl⟩)) hge24_)) 183).trans rfl
                        have u34_ : T24_ 185 o = T 185 o := (hx24_ o (Nat.ne_of_lt (Nat.lt_of_lt_of_le (cw_lt hw0_.1 t_o (fun _ _ _ => ⟨_, rfl⟩)) hge24_)) 185).trans rfl
                        refine j_dup E 148 rfl dX9_suit_147 rfl ?_
                        refine j_iload_n E 149 rfl dX9_suit_148 rfl (lv_at hl 4 rfl) ?_
                        refine j_iload_n E 150 rfl dX9_suit_149 rfl (lv_at hl 5 rfl) ?_
                        refine j_iload_n E 151 rfl dX9_suit_150 rfl (lv_at hl 6 rfl) ?_
                        refine j_aload_n E 152 rfl dX9_suit_151 rfl (lv_at hl 3 rfl) ?_
                        refine j_iload_n E 153 rfl dX9_suit_152 rfl (lv_at hl 6 rfl) ?_
                        refine j_aload_n E 154 rfl dX9_suit_153 rfl (lv_at hl 3 rfl) ?_
                        refine g_187 E hK hw fl_X9_37 u25_ (v_0 187 o) rfl 157 rfl dX9_suit_154 (fun _ => ?_)
                        refine j_iconst E 158 rfl dX9_suit_157 ?_
                        refine j_isub E 159 rfl dX9_suit_158 ?_
                        refine kV_i E (c_X9_reckonByLaw l D cy T24_ (upV (upV (upV (upV (upV (upV (upV (upV v_0 300 y300_21) 140 (upB (v_0 140) q24_ 0)) 141 (upB (v_0 141) q24_ 0)) 142 (upB (v_0 142) q24_ 0)) 143 (upB (v_0 143) q24_ 0)) 144 (upB (v_0 144) q24_ 0)) 145 (upB (v_0 145) q24_ 0)) 146 (upB (v_0 146) q24_ 0)) o v_l ((v_0 187 o) - 1) (gC_ (y300_21) (T24_ 100 (T24_ 193 o))) S1_ S2_ S3_ u25_ r_v_l (rr (by omega)) (show Wd_ T24_ (y300_21) o ((v_0 202) (T24_ 182 o)) S1_ S2_ S3_ from by rw [u32_]; exact wd_mv hp1 (fun i_ _ => by show T24_ _ (T24_ 201 (T24_ 182 o)) = _; rw [u32_, B182_ 201 (by decide), A182_ (1000 + i_) (by omega)]; rfl) (wd_ho hwI_.1 t_o hszH_ hC_ kd22_ (by decide))) (show 0 ≤ v_l from by omega) (show ((v_0 202) (T24_ 181 o)) ≤ 24 from by rw [u31_]; omega) (show ∀ i_, 0 ≤ i_ → i_ ≤ 4 → gC_ (y300_21) (T24_ 100 (T24_ 193 o)) i_ = ((gC_ (y300_21) (T24_ 100 (T24_ 193 o)))) i_ from fun _ _ _ => rfl) (show 0 ≤ v_l ∧ v_l < ((v_0 202) (T24_ 181 o)) from by rw [u31_]; omega) (show ((v_0 187 o) - 1) < 200 from by omega)) mt_X9_reckonByLaw ml_X9_296 hK hw (cw_rc9 hK hw.1 u25_) hA ⟨Nat.le_of_ble_eq_true rfl, Nat.le_of_ble_eq_true rfl⟩ ⟨Nat.le_of_ble_eq_true rfl, Nat.le_of_ble_eq_true rfl⟩ (As := [.int (J v_l), .int (J ((v_0 187 o) - 1))]) (rest := [.int (J v_l), .int (J v_q), .int (J v_p), .ref q24_, .ref q24_, .ref (T 183 o)]) rfl rfl hl.1 (Nat.le_of_ble_eq_true rfl) 162 rfl dX9_suit_159 (fun zz35_ v_35 H locs rr35_ hq35_ hw => ?_)
                        obtain ⟨y103_35, y300_35, ev35_, hh35_⟩ := hq35_
                        rw [ev35_] at hw; clear ev35_
                        obtain ⟨hh35_, kf35_⟩ := hh35_
                        have kd36_ : KdA_ T sz [100, 101, 102] (v_0 300) (y300_35) := KdA_tr kd22_ (KdA_kc kf35_ (by decide) (fun b_ h1_ h2_ => ((C20_ hC_ t_o (by decide)) b_ h1_ h2_).2))
                        replace hh35_ : (∃ g_ : Int → Int, zz35_ = g_ v_l ∧ Owc_ (fun y_ w_ => ∃ x_ z_, ELn_ T24_ 181 o (y_).toNat = x_ + 1 ∧ Lw_ (((v_0 23) x_)) (gC_ (v_0 302) (T24_ 26 x_)) ((v_0 187 o) - 1) z_ ∧ w_ = nrm_ ((v_0 202) (T24_ 182 o)) z_) ((gC_ (y300_21) (T24_ 100 (T24_ 193 o)))) g_ (v_l + 1) S1_ S2_ S3_) ∧ (∀ b_, b_ ≠ (T24_ 101 (T24_ 193 o)) → b_ ≠ (T24_ 102 (T24_ 193 o)) → ∀ i_, (y300_35) (pr b_ i_) = (y300_21) (pr b_ i_)) := hh35_
                        refine j_aload_n E 163 rfl dX9_suit_162 rfl (lv_at hl 3 rfl) ?_
                        refine g_187 E hK hw fl_X9_37 u25_ (v_0 187 o) rfl 166 rfl dX9_suit_163 (fun _ => ?_)
                        refine j_aload_n E 167 rfl dX9_suit_166 rfl (lv_at hl 3 rfl) ?_
                        refine j_iload_n E 168 rfl dX9_suit_167 rfl (lv_at hl 4 rfl) ?_
                        refine j_aload E 170 rfl dX9_suit_168 (lv_at hl 2 rfl) ?_
                        refine g_41 E hK hw fl_X9_110 u26_ (v_0 41 xx1_) rfl 173 rfl dX9_suit_170 (fun _ => ?_)
                        refine kV_i E (c_X9_livingKinOf l D cy T24_ (upV (upV (upV (upV (upV (upV (upV (upV (upV (upV v_0 300 y300_21) 140 (upB (v_0 140) q24_ 0)) 141 (upB (v_0 141) q24_ 0)) 142 (upB (v_0 142) q24_ 0)) 143 (upB (v_0 143) q24_ 0)) 144 (upB (v_0 144) q24_ 0)) 145 (upB (v_0 145) q24_ 0)) 146 (upB (v_0 146) q24_ 0)) 103 y103_35) 300 y300_35) o v_p (v_0 41 xx1_)  u25_ r_v_p rr16_ ) mt_X9_livingKinOf ml_X9_313 hK hw (cw_rc9 hK hw.1 u25_) hA ⟨Nat.le_of_ble_eq_true rfl, Nat.le_of_ble_eq_true rfl⟩ ⟨Nat.le_of_ble_eq_true rfl, Nat.le_of_ble_eq_true rfl⟩ (As := [.int (J v_p), .int (J (v_0 41 xx1_))]) (rest := [.int (J (v_0 187 o)), .int (J zz35_), .int (J v_l), .int (J v_q), .int (J v_p), .ref q24_, .ref q24_, .ref (T 183 o)]) rfl rfl hl.1 (Nat.le_of_ble_eq_true rfl) 176 rfl dX9_suit_173 (fun zz37_ v_37 H locs rr37_ hq37_ hw => ?_)
                        obtain ⟨ev37_, hh37_⟩ := hq37_
                        rw [ev37_] at hw; clear ev37_
                        have hw0_ := hw
                        refine aI_v E (n_X6_init l D cy κ T24_ (upV (upV (upV (upV (upV (upV (upV (upV (upV (upV v_0 300 y300_21) 140 (upB (v_0 140) q24_ 0)) 141 (upB (v_0 141) q24_ 0)) 142 (upB (v_0 142) q24_ 0)) 143 (upB (v_0 143) q24_ 0)) 144 (upB (v_0 144) q24_ 0)) 145 (upB (v_0 145) q24_ 0)) 146 (upB (v_0 146) q24_ 0)) 103 y103_35) 300 y300_35) q24_ v_p v_q v_l zz35_ (v_0 187 o) zz37_ H.size  hO24_ tq24_ r_v_p r_v_q r_v_l rr35_ rr10_ rr37_ ) mi_X6_init ml_X9_316 hK hZ hAc hw hA ⟨(Nat.le_of_ble_eq_true rfl), (Nat.le_of_ble_eq_true rfl)⟩ ⟨(Nat.le_of_ble_eq_true rfl), (Nat.le_of_ble_eq_true rfl)⟩ (As := [.int (J v_p), .int (J v_q), .int (J v_l), .int (J zz35_), .int (J (v_0 187 o)), .int (J zz37_)]) (rest := [.ref q24_, .ref (T 183 o)]) rfl rfl hl.1 (Nat.le_of_ble_eq_true rfl) 179 rfl dX9_suit_176 (fun T38_ v_38 H locs hge38_ ho38_ hq38_ hw => ?_)
                        obtain ⟨y140_38, y141_38, y142_38, y143_38, y144_38, y145_38, y146_38, ev38_, hh38_⟩ := hq38_
                        rw [ev38_] at hw; clear ev38_
                        obtain ⟨hx38_, tq38_⟩ := hh38_
                        have hT38_ : WT T38_ := hw.1.2.1
                        have hO38_ : ∀ x, ow T38_ x → κ 2 2 ≤ x := fun x h => hAc x (hw.2.1 x h)
                        have hoT_ : OW T T38_ s.heap.size := OW.tr hw0_.2.2.1 hoT_ ho38_
                        have hC_ : ∀ b, b < sz → T 0 b ≠ 10 → T 0 b ≠ 24 → T 0 b ≠ 26 → b ≠ o → ∀ j, j ≠ 197 → T38_ j b = T j b := fun b_ h1_ h2_ h3_ h4_ h5_ j_ h6_ => (hx38_ b_ (by have := hw0_.2.2.1; omega) (by have := fq24_; omega) j_).trans (hC_ b_ h1_ h2_ h3_ h4_ h5_ j_ h6_)
                        have B180n_ : ∀ j_, j_ ≠ 197 → T38_ j_ (T 180 o) = T j_ (T 180 o) := fun j_ hj_ => (hx38_ (T 180 o) (cw_lt hw0_.1 ((B180_ 0 (by decide)).trans tl180_) (fun _ _ _ => ⟨_, rfl⟩)) (ty_ne ((B180_ 0 (by decide)).trans tl180_) tq24_ (by decide)) j_).trans (B180_ j_ hj_)
                        have A180n_ : ∀ j_, j_ ≠ 197 → T38_ j_ (T 201 (T 180 o)) = T j_ (T 201 (T 180 o)) := fun j_ hj_ => (hx38_ (T 201 (T 180 o)) (cw_ltq hw0_.1 (by rw [A180_ 0 (by decide)]; exact tx180_)) (ty_neq (by rw [A180_ 0 (by decide)]; exact tx180_) tq24_ (by decide) (by decide)) j_).trans (A180_ j_ hj_)
                        have B181n_ : ∀ j_, j_ ≠ 197 → T38_ j_ (T 181 o) = T j_ (T 181 o) := fun j_ hj_ => (hx38_ (T 181 o) (cw_lt hw0_.1 ((B181_ 0 (by decide)).trans tl181_) (fun _ _ _ => ⟨_, rfl⟩)) (ty_ne ((B181_ 0 (by decide)).trans tl181_) tq24_ (by decide)) j_).trans (B181_ j_ hj_)
                        have A181n_ : ∀ j_, j_ ≠ 197 → T38_ j_ (T 201 (T 181 o)) = T j_ (T 201 (T 181 o)) := fun j_ hj_ => (hx38_ (T 201 (T 181 o)) (cw_ltq hw0_.1 (by rw [A181_ 0 (by decide)]; exact tx181_)) (ty_neq (by rw [A181_ 0 (by decide)]; exact tx181_) tq24_ (by decide) (by decide)) j_).trans (A181_ j_ hj_)
                        have B182n_ : ∀ j_, j_ ≠ 197 → T38_ j_ (T 182 o) = T j_ (T 182 o) := fun j_ hj_ => (hx38_ (T 182 o) (cw_lt hw0_.1 ((B182_ 0 (by decide)).trans tl182_) (fun _ _ _ => ⟨_, rfl⟩)) (ty_ne ((B182_ 0 (by decide)).trans tl182_) tq24_ (by decide)) j_).trans (B182_ j_ hj_)
                        have A182n_ : ∀ j_, j_ ≠ 197 → T38_ j_ (T 201 (T 182 o)) = T j_ (T 201 (T 182 o)) := fun j_ hj_ => (hx38_ (T 201 (T 182 o)) (cw_ltq hw0_.1 (by rw [A182_ 0 (by decide)]; exact tx182_)) (ty_neq (by rw [A182_ 0 (by decide)]; exact tx182_) tq24_ (by decide) (by decide)) j_).trans (A182_ j_ hj_)
                        have B183n_ : ∀ j_, j_ ≠ 197 → T38_ j_ (T 183 o) = T j_ (T 183 o) := fun j_ hj_ => (hx38_ (T 183 o) (cw_lt hw0_.1 ((B183_ 0 (by decide)).trans tl183_) (fun _ _ _ => ⟨_, rfl⟩)) (ty_ne ((B183_ 0 (by decide)).trans tl183_) tq24_ (by decide)) j_).trans (B183_ j_ hj_)
                        have A183n_ : ∀ j_, j_ ≠ 197 → T38_ j_ (T 201 (T 183 o)) = T j_ (T 201 (T 183 o)) := fun j_ hj_ => (hx38_ (T 201 (T 183 o)) (cw_ltq hw0_.1 (by rw [A183_ 0 (by decide)]; exact tx183_)) (ty_neq (by rw [A183_ 0 (by decide)]; exact tx183_) tq24_ (by decide) (by decide)) j_).trans (A183_ j_ hj_)
                        have B180_ := B180n_
                        have A180_ := A180n_
                        have B181_ := B181n_
                        have A181_ := A181n_
                        have B182_ := B182n_
                        have A182_ := A182n_
                        have B183_ := B183n_
                        have A183_ := A183n_
                        have u39_ : T38_ 0 o = 9 := (hx38_ o (cw_lt hw0_.1 u25_ (fun _ _ _ => ⟨_, rfl⟩)) (ty_ne u25_ tq24_ (by decide)) 0).trans u25_
                        have u40_ : T38_ 0 xx1_ = 2 := (hx38_ xx1_ (cw_lt hw0_.1 u26_ (fun _ _ _ => ⟨_, rfl⟩)) (ty_ne u26_ tq24_ (by decide)) 0).trans u26_
                        have u41_ : T38_ 0 xx3_ = 2 := (hx38_ xx3_ (cw_lt hw0_.1 u27_ (fun _ _ _ => ⟨_, rfl⟩)) (ty_ne u27_ tq24_ (by decide)) 0).trans u27_
                        have u42_ : T38_ 0 (T 183 o) = 10 := (hx38_ (T 183 o) (cw_lt hw0_.1 u28_ (fun _ _ _ => ⟨_, rfl⟩)) (ty_ne u28_ tq24_ (by decide)) 0).trans u28_
                        have u43_ : T38_ 2 (T 183 o) = 7 := (hx38_ (T 183 o) (cw_lt hw0_.1 u28_ (fun _ _ _ => ⟨_, rfl⟩)) (ty_ne u28_ tq24_ (by decide)) 2).trans u29_
                        have u44_ : T38_ 180 o = T 180 o := (hx38_ o (cw_lt hw0_.1 u25_ (fun _ _ _ => ⟨_, rfl⟩)) (ty_ne u25_ tq24_ (by decide)) 180).trans u30_
                        have u45_ : T38_ 181 o = T 181 o := (hx38_ o (cw_lt hw0_.1 u25_ (fun _ _ _ => ⟨_, rfl⟩)) (ty_ne u25_ tq24_ (by decide)) 181).trans u31_
                        have u46_ : T38_ 182 o = T 182 o := (hx38_ o (cw_lt hw0_.1 u25_ (fun _ _ _ => ⟨_, rfl⟩)) (ty_ne u25_ tq24_ (by decide)) 182).trans u32_
                        have u47_ : T38_ 183 o = T 183 o := (hx38_ o (cw_lt hw0_.1 u25_ (fun _ _ _ => ⟨_, rfl⟩)) (ty_ne u25_ tq24_ (by decide)) 183).trans u33_
                        have u48_ : T38_ 185 o = T 185 o := (hx38_ o (cw_lt hw0_.1 u25_ (fun _ _ _ => ⟨_, rfl⟩)) (ty_ne u25_ tq24_ (by decide)) 185).trans u34_
                        have hw0_ := hw
                        refine aV_i E (n_Jx4a65c_add_9ea2d_n2 l D cy κ T38_ (upV (upV (upV (upV (upV (upV (upV (upV (upV (upV (upV (upV (upV (upV (upV (upV (upV v_0 300 y300_21) 140 (upB (v_0 140) q24_ 0)) 141 (upB (v_0 141) q24_ 0)) 142 (upB (v_0 142) q24_ 0)) 143 (upB (v_0 143) q24_ 0)) 144 (upB (v_0 144) q24_ 0)) 145 (upB (v_0 145) q24_ 0)) 146 (upB (v_0 146) q24_ 0)) 103 y103_35) 300 y300_35) 140 y140_38) 141 y141_38) 142 y142_38) 143 y143_38) 144 y144_38) 145 y145_38) 146 y146_38) (T 183 o) q24_ H.size  hO38_ u42_  (tq38_.trans u43_.symm) (fun x_ h_ => hp0 x_ ((hoT_ x_).2 h_)) (show ((v_0 202) ((T 183 o))) ≤ 200 from by omega)) mt_Jx4a65c_add_9ea2d ml_X9_89 hK hZ hAc hw (cw_rc10 hK hw.1 u42_) hA ⟨(Nat.le_of_ble_eq_true rfl), (Nat.le_of_ble_eq_true rfl)⟩ ⟨(Nat.le_of_ble_eq_true rfl), (Nat.le_of_ble_eq_true rfl)⟩ (As := [.ref q24_]) (rest := []) rfl rfl hl.1 (Nat.le_of_ble_eq_true rfl) 182 rfl dX9_suit_179 (fun zz49_ T49_ v_49 H locs rr49_ hge49_ ho49_ hq49_ hw => ?_)
                        obtain ⟨y200_49, y202_49, ev49_, hh49_⟩ := hq49_
                        rw [ev49_] at hw; clear ev49_
                        obtain ⟨hy49_, hx49_, hz49_, hl49_, hel49_, hnw49_⟩ := hh49_
                        have hy49_ : y202_49 = upB (v_0 202) (T 183 o) ((v_0 202) (T 183 o) + 1) := hy49_
                        have hT49_ : WT T49_ := hw.1.2.1
                        have hO49_ : ∀ x, ow T49_ x → κ 2 2 ≤ x := fun x h => hAc x (hw.2.1 x h)
                        have hoT_ : OW T T49_ s.heap.size := OW.tr hw0_.2.2.1 hoT_ ho49_
                        have hC_ : ∀ b, b < sz → T 0 b ≠ 10 → T 0 b ≠ 24 → T 0 b ≠ 26 → b ≠ o → ∀ j, j ≠ 197 → T49_ j b = T j b := fun b_ h1_ h2_ h3_ h4_ h5_ j_ h6_ => (hx49_ b_ (by have := hw0_.2.2.1; omega) (fun e_ => h2_ ((hC_ b_ h1_ h2_ h3_ h4_ h5_ 0 (by decide)).symm.trans (by rw [e_]; exact u42_))) (fun h_ => absurd ((hC_ b_ h1_ h2_ h3_ h4_ h5_ 0 (by decide)).symm.trans h_) h3_) j_).trans (hC_ b_ h1_ h2_ h3_ h4_ h5_ j_ h6_)
                        have B180n_ : ∀ j_, j_ ≠ 197 → T49_ j_ (T 180 o) = T j_ (T 180 o) := fun j_ hj_ => (hx49_ (T 180 o) (cw_lt hw0_.1 ((B180_ 0 (by decide)).trans tl180_) (fun _ _ _ => ⟨_, rfl⟩)) ((ls_ne hT t_o).2.2.1) (fun h_ => absurd (((B180_ 0 (by decide)).trans tl180_).symm.trans h_) (by decide)) j_).trans (B180_ j_ hj_)
                        have A180n_ : ∀ j_, j_ ≠ 197 → T49_ j_ (T 201 (T 180 o)) = T j_ (T 201 (T 180 o)) := fun j_ hj_ => (hx49_ (T 201 (T 180 o)) (cw_ltq hw0_.1 (by rw [A180_ 0 (by decide)]; exact tx180_)) (ty_neq (by rw [A180_ 0 (by decide)]; exact tx180_) u42_ (by decide) (by decide)) (fun h_ => by rw [B183_ 201 (by decide)]; exact own_ne hT tl180_ tl183_ ((ls_ne hT t_o).2.2.1) ((A180_ 0 (by decide)).symm.trans h_)) j_).trans (A180_ j_ hj_)
                        have B181n_ : ∀ j_, j_ ≠ 197 → T49_ j_ (T 181 o) = T j_ (T 181 o) := fun j_ hj_ => (hx49_ (T 181 o) (cw_lt hw0_.1 ((B181_ 0 (by decide)).trans tl181_) (fun _ _ _ => ⟨_, rfl⟩)) ((ls_ne hT t_o).2.2.2.2.2.1) (fun h_ => absurd (((B181_ 0 (by decide)).trans tl181_).symm.trans h_) (by decide)) j_).trans (B181_ j_ hj_)
                        have A181n_ : ∀ j_, j_ ≠ 197 → T49_ j_ (T 201 (T 181 o)) = T j_ (T 201 (T 181 o)) := fun j_ hj_ => (hx49_ (T 201 (T 181 o)) (cw_ltq hw0_.1 (by rw [A181_ 0 (by decide)]; exact tx181_)) (ty_neq (by rw [A181_ 0 (by decide)]; exact tx181_) u42_ (by decide) (by decide)) (fun h_ => by rw [B183_ 201 (by decide)]; exact own_ne hT tl181_ tl183_ ((ls_ne hT t_o).2.2.2.2.2.1) ((A181_ 0 (by decide)).symm.trans h_)) j_).trans (A181_ j_ hj_)
                        have B182n_ : ∀ j_, j_ ≠ 197 → T49_ j_ (T 182 o) = T j_ (T 182 o) := fun j_ hj_ => (hx49_ (T 182 o) (cw_lt hw0_.1 ((B182_ 0 (by decide)).trans tl182_) (fun _ _ _ => ⟨_, rfl⟩)) ((ls_ne hT t_o).2.2.2.2.2.2.2.2.1) (fun h_ => absurd (((B182_ 0 (by decide)).trans tl182_).symm.trans h_) (by decide)) j_).trans (B182_ j_ hj_)
                        have A182n_ : ∀ j_, j_ ≠ 197 → T49_ j_ (T 201 (T 182 o)) = T j_ (T 201 (T 182 o)) := fun j_ hj_ => (hx49_ (T 201 (T 182 o)) (cw_ltq hw0_.1 (by rw [A182_ 0 (by decide)]; exact tx182_)) (ty_neq (by rw [A182_ 0 (by decide)]; exact tx182_) u42_ (by decide) (by decide)) (fun h_ => by rw [B183_ 201 (by decide)]; exact own_ne hT tl182_ tl183_ ((ls_ne hT t_o).2.2.2.2.2.2.2.2.1) ((A182_ 0 (by decide)).symm.trans h_)) j_).trans (A182_ j_ hj_)
                        have B180_ := B180n_
                        have A180_ := A180n_
                        have B181_ := B181n_
                        have A181_ := A181n_
                        have B182_ := B182n_
                        have A182_ := A182n_
                        have u50_ : T49_ 0 o = 9 := (hx49_ o (cw_lt hw0_.1 u39_ (fun _ _ _ => ⟨_, rfl⟩)) (ty_ne u39_ u42_ (by decide)) (fun h_ => absurd (u39_.symm.trans h_) (by decide)) 0).trans u39_
                        have u51_ : T49_ 0 xx1_ = 2 := (hx49_ xx1_ (cw_lt hw0_.1 u40_ (fun _ _ _ => ⟨_, rfl⟩)) (ty_ne u40_ u42_ (by decide)) (fun h_ => absurd (u40_.symm.trans h_) (by decide)) 0).trans u40_
                        have u52_ : T49_ 0 xx3_ = 2 := (hx49_ xx3_ (cw_lt hw0_.1 u41_ (fun _ _ _ => ⟨_, rfl⟩)) (ty_ne u41_ u42_ (by decide)) (fun h_ => absurd (u41_.symm.trans h_) (by decide)) 0).trans u41_
                        have u53_ : T49_ 180 o = T 180 o := (hx49_ o (cw_lt hw0_.1 u39_ (fun _ _ _ => ⟨_, rfl⟩)) (ty_ne u39_ u42_ (by decide)) (fun h_ => absurd (u39_.symm.trans h_) (by decide)) 180).trans u44_
                        have u54_ : T49_ 181 o = T 181 o := (hx49_ o (cw_lt hw0_.1 u39_ (fun _ _ _ => ⟨_, rfl⟩)) (ty_ne u39_ u42_ (by decide)) (fun h_ => absurd (u39_.symm.trans h_) (by decide)) 181).trans u45_
                        have u55_ : T49_ 182 o = T 182 o := (hx49_ o (cw_lt hw0_.1 u39_ (fun _ _ _ => ⟨_, rfl⟩)) (ty_ne u39_ u42_ (by decide)) (fun h_ => absurd (u39_.symm.trans h_) (by decide)) 182).trans u46_
                        have u56_ : T49_ 183 o = T 183 o := (hx49_ o (cw_lt hw0_.1 u39_ (fun _ _ _ => ⟨_, rfl⟩)) (ty_ne u39_ u42_ (by decide)) (fun h_ => absurd (u39_.symm.trans h_) (by decide)) 183).trans u47_
                        have u57_ : T49_ 185 o = T 185 o := (hx49_ o (cw_lt hw0_.1 u39_ (fun _ _ _ => ⟨_, rfl⟩)) (ty_ne u39_ u42_ (by decide)) (fun h_ => absurd (u39_.symm.trans h_) (by decide)) 185).trans u48_
                        refine j_pop E 183 rfl dX9_suit_182 rfl ?_
                        refine j_aload_n E 184 rfl dX9_suit_183 rfl (lv_at hl 3 rfl) ?_
                        refine g_183 E hK hw fl_X9_22 u50_ 187 rfl dX9_suit_184 ?_
                        refine kV_i E (c_Jx4a65c_size_8abf5 l D cy T49_ (upV (upV (upV (upV (upV (upV (upV (upV (upV (upV (upV (upV (upV (upV (upV (upV (upV (upV (upV v_0 300 y300_21) 140 (upB (v_0 140) q24_ 0)) 141 (upB (v_0 141) q24_ 0)) 142 (upB (v_0 142) q24_ 0)) 143 (upB (v_0 143) q24_ 0)) 144 (upB (v_0 144) q24_ 0)) 145 (upB (v_0 145) q24_ 0)) 146 (upB (v_0 146) q24_ 0)) 103 y103_35) 300 y300_35) 140 y140_38) 141 y141_38) 142 y142_38) 143 y143_38) 144 y144_38) 145 y145_38) 146 y146_38) 200 y200_49) 202 y202_49) (T49_ 183 o)  (wt_183 hT49_ u50_)  ) mt_Jx4a65c_size_8abf5 ml_X9_80 hK hw (cw_rc10 hK hw.1 (wt_183 hT49_ u50_)) hA ⟨Nat.le_of_ble_eq_true rfl, Nat.le_of_ble_eq_true rfl⟩ ⟨Nat.le_of_ble_eq_true rfl, Nat.le_of_ble_eq_true rfl⟩ (As := []) (rest := []) rfl rfl hl.1 (Nat.le_of_ble_eq_true rfl) 190 rfl dX9_suit_187 (fun zz58_ v_58 H locs rr58_ hq58_ hw => ?_)
                        obtain ⟨ev58_, hh58_⟩ := hq58_
                        rw [ev58_] at hw; clear ev58_
                        replace hh58_ : zz58_ = (y202_49 ((T49_ 183 o))) ∧ 0 ≤ zz58_ := hh58_
                        refine j_iconst E 191 rfl dX9_suit_190 ?_
                        refine j_isub E 192 rfl dX9_suit_191 ?_
                        refine j_norm (fun zz59_ rr59_ ee59_ => ?_)
                        exact hret 192 zz59_ T49_ _ _ _ ls _ _ hw hoT_ rr59_ (⟨⟨u50_, ⟨u53_, u54_, u55_, u56_, u57_⟩, rfl, rfl, rfl, rfl, rfl, (by show y202_49 (T 180 o) = v_0 202 (T 180 o); rw [hy49_]; exact upB_ne ((ls_ne hT t_o).2.2.1)), (by show y202_49 (T 181 o) = v_0 202 (T 181 o); rw [hy49_]; exact upB_ne ((ls_ne hT t_o).2.2.2.2.2.1)), (by show y202_49 (T 182 o) = v_0 202 (T 182 o); rw [hy49_]; exact upB_ne ((ls_ne hT t_o).2.2.2.2.2.2.2.2.1)), hC_, (fun i_ => by rw [u53_, B180_ 201 (by decide), A180_ (1000 + i_) (by omega)]), (fun i_ => by rw [u54_, B181_ 201 (by decide), A181_ (1000 + i_) (by omega)]), (fun i_ => by rw [u55_, B182_ 201 (by decide), A182_ (1000 + i_) (by omega)]), rfl, rfl, rfl, rfl, rfl, rfl, rfl, rfl, trivial⟩, kd36_⟩) (Nat.le_of_ble_eq_true rfl) (Nat.le_of_ble_eq_true rfl) dX9_suit_192
                      · refine j_iconst E 139 rfl dX9_suit_138 ?_
                        exact hret 139 ((-1)) T _ _ _ ls _ _ hw hoT_ (rr (by decide)) (⟨⟨t_o, ⟨rfl, rfl, rfl, rfl, rfl⟩, rfl, rfl, rfl, rfl, rfl, rfl, rfl, rfl, hC_, (fun _ => rfl), (fun _ => rfl), (fun _ => rfl), rfl, rfl, rfl, rfl, rfl, rfl, rfl, rfl, trivial⟩, kd22_⟩) (Nat.le_of_ble_eq_true rfl) (Nat.le_of_ble_eq_true rfl) dX9_suit_139
                    · refine j_iconst E 101 rfl dX9_suit_100 ?_
                      refine j_goto E 105 dX9_suit_101 (by decide) ?_
                      refine j_istore E 107 rfl [(9, .int (J 1)), (8, .ref xx3_), (7, .ref xx1_), (0, .ref o), (1, .int (J v_p)), (2, .int (J v_q)), (3, .int (J v_l)), (4, .int (J v_h)), (5, .int (J v_w)), (6, .int (J v_d))] dX9_suit_105 hl (by decide) rfl (fun ls hl => ?_)
                      refine j_aload_n E 108 rfl dX9_suit_107 rfl (lv_at hl 3 rfl) ?_
                      refine g_193 E hK hw fl_X9_62 t_o 111 rfl dX9_suit_108 ?_
                      refine j_iload E 113 rfl dX9_suit_111 (lv_at hl 7 rfl) ?_
                      refine j_iload E 115 rfl dX9_suit_113 (lv_at hl 8 rfl) ?_
                      refine j_aload_n E 116 rfl dX9_suit_115 rfl (lv_at hl 3 rfl) ?_
                      refine g_187 E hK hw fl_X9_37 t_o (v_0 187 o) rfl 119 rfl dX9_suit_116 (fun _ => ?_)
                      refine j_iload E 121 rfl dX9_suit_119 (lv_at hl 9 rfl) ?_
                      refine j_isub E 122 rfl dX9_suit_121 ?_
                      refine j_norm (fun zz60_ rr60_ ee60_ => ?_)
                      refine j_iload E 124 rfl dX9_suit_122 (lv_at hl 0 rfl) ?_
                      refine j_iload E 126 rfl dX9_suit_124 (lv_at hl 9 rfl) ?_
                      refine j_aload E 128 rfl dX9_suit_126 (lv_at hl 1 rfl) ?_
                      refine g_42 E hK hw fl_X9_113 te3_ (v_0 42 xx3_) rfl 131 rfl dX9_suit_128 (fun _ => ?_)
                      refine j_isub E 132 rfl dX9_suit_131 ?_
                      refine j_norm (fun zz61_ rr61_ ee61_ => ?_)
                      refine kV_i E (c_X4_takeFacts l D cy T (v_0) (T 193 o) v_h v_w zz60_ 1 zz61_  (wt_193 hT t_o) r_v_h r_v_w rr60_ (rr (by decide)) rr61_ ) mt_X4_takeFacts ml_X9_292 hK hw (cw_rc5 hK hw.1 (wt_193 hT t_o)) hA ⟨Nat.le_of_ble_eq_true rfl, Nat.le_of_ble_eq_true rfl⟩ ⟨Nat.le_of_ble_eq_true rfl, Nat.le_of_ble_eq_true rfl⟩ (As := [.int (J v_h), .int (J v_w), .int (J zz60_), .int (J 1), .int (J zz61_)]) (rest := []) rfl rfl hl.1 (Nat.le_of_ble_eq_true rfl) 135 rfl dX9_suit_132 (fun zz62_ v_62 H locs rr62_ hq62_ hw => ?_)
                      obtain ⟨y300_62, ev62_, hh62_⟩ := hq62_
                      rw [ev62_] at hw; clear ev62_
                      obtain ⟨hh62_, kf62_⟩ := hh62_
                      have kd63_ : KdA_ T sz [100, 101, 102] (v_0 300) (y300_62) := KdA_tr KdA_rf (KdA_kc kf62_ (by decide) (fun b_ h1_ h2_ => ((C20_ hC_ t_o (by decide)) b_ h1_ h2_).2))
                      replace hh62_ : (zz62_ = 1 ∧ (0 ≤ v_h ∧ v_h ≤ 99 ∧ 0 ≤ v_w ∧ v_w ≤ 9 ∧ 0 ≤ zz60_ ∧ zz60_ ≤ 299 ∧ 0 ≤ (1 : Int) ∧ (1 : Int) ≤ 1 ∧ -99 ≤ zz61_ ∧ zz61_ ≤ 299) ∧ Fc_ (y300_62) (T 100 (T 193 o)) v_h v_w zz60_ (1 : Int) zz61_ ∧ Ro_ (v_0 300) (y300_62) (T 100 (T 193 o))) ∨ (zz62_ = 0 ∧ ¬ (0 ≤ v_h ∧ v_h ≤ 99 ∧ 0 ≤ v_w ∧ v_w ≤ 9 ∧ 0 ≤ zz60_ ∧ zz60_ ≤ 299 ∧ 0 ≤ (1 : Int) ∧ (1 : Int) ≤ 1 ∧ -99 ≤ zz61_ ∧ zz61_ ≤ 299) ∧ (y300_62) = (v_0 300)) := hh62_
                      refine j_if_ne E 138 140 rfl rr62_ dX9_suit_135 (by decide) (fun cc64_ => ?_) (fun cc64_ => ?_)
                      · refine j_aload_n E 141 rfl dX9_suit_140 rfl (lv_at hl 3 rfl) ?_
                        refine g_183 E hK hw fl_X9_22 t_o 144 rfl dX9_suit_141 ?_
                        have hw0_ := hw
                        refine n_obj7 E hK hw hA cl_X9_131 (Nat.le_of_ble_eq_true rfl) (Nat.le_of_ble_eq_true rfl) 147 rfl dX9_suit_144 (fun q65_ T65_ H hge65_ hx65_ ho65_ tq65_ hw => ?_)
                        have fq65_ : s.heap.size ≤ q65_ := Nat.le_trans hw0_.2.2.1 hge65_
                        have hw : WK D cy T65_ (upV (upV (upV (upV (upV (upV (upV (upV v_0 300 y300_62) 140 (upB (v_0 140) q65_ 0)) 141 (upB (v_0 141) q65_ 0)) 142 (upB (v_0 142) q65_ 0)) 143 (upB (v_0 143) q65_ 0)) 144 (upB (v_0 144) q65_ 0)) 145 (upB (v_0 145) q65_ 0)) 146 (upB (v_0 146) q65_ 0)) A0 s.heap H locs := hw
                        have hT65_ : WT T65_ := hw.1.2.1
                        have hO65_ : ∀ x, ow T65_ x → κ 2 2 ≤ x := fun x h => hAc x (hw.2.1 x h)
                        have hoT_ : OW T T65_ s.heap.size := OW.tr hw0_.2.2.1 hoT_ ho65_
                        have hC_ : ∀ b, b < sz → T 0 b ≠ 10 → T 0 b ≠ 24 → T 0 b ≠ 26 → b ≠ o → ∀ j, j ≠ 197 → T65_ j b = T j b := fun b_ h1_ h2_ h3_ h4_ h5_ j_ h6_ => (hx65_ b_ (by have := hw0_.2.2.1; have := hge65_; omega) j_).trans (hC_ b_ h1_ h2_ h3_ h4_ h5_ j_ h6_)
                        have B180n_ : ∀ j_, j_ ≠ 197 → T65_ j_ (T 180 o) = T j_ (T 180 o) := fun j_ hj_ => (hx65_ (T 180 o) (Nat.ne_of_lt (Nat.lt_of_lt_of_le (cw_lt hw0_.1 ((B180_ 0 (by decide)).trans tl180_) (fun _ _ _ => ⟨_, rfl⟩)) hge65_)) j_).trans (B180_ j_ hj_)
                        have A180n_ : ∀ j_, j_ ≠ 197 → T65_ j_ (T 201 (T 180 o)) = T j_ (T 201 (T 180 o)) := fun j_ hj_ => (hx65_ (T 201 (T 180 o)) (Nat.ne_of_lt (Nat.lt_of_lt_of_le (cw_ltq hw0_.1 (by rw [A180_ 0 (by decide)]; exact tx180_)) hge65_)) j_).trans (A180_ j_ hj_)
                        have B181n_ : ∀ j_, j_ ≠ 197 → T65_ j_ (T 181 o) = T j_ (T 181 o) := fun j_ hj_ => (hx65_ (T 181 o) (Nat.ne_of_lt (Nat.lt_of_lt_of_le (cw_lt hw0_.1 ((B181_ 0 (by decide)).trans tl181_) (fun _ _ _ => ⟨_, rfl⟩)) hge65_)) j_).trans (B181_ j_ hj_)
                        have A181n_ : ∀ j_, j_ ≠ 197 → T65_ j_ (T 201 (T 181 o)) = T j_ (T 201 (T 181 o)) := fun j_ hj_ => (hx65_ (T 201 (T 181 o)) (Nat.ne_of_lt (Nat.lt_of_lt_of_le (cw_ltq hw0_.1 (by rw [A181_ 0 (by decide)]; exact tx181_)) hge65_)) j_).trans (A181_ j_ hj_)
                        have B182n_ : ∀ j_, j_ ≠ 197 → T65_ j_ (T 182 o) = T j_ (T 182 o) := fun j_ hj_ => (hx65_ (T 182 o) (Nat.ne_of_lt (Nat.lt_of_lt_of_le (cw_lt hw0_.1 ((B182_ 0 (by decide)).trans tl182_) (fun _ _ _ => ⟨_, rfl⟩)) hge65_)) j_).trans (B182_ j_ hj_)
                        have A182n_ : ∀ j_, j_ ≠ 197 → T65_ j_ (T 201 (T 182 o)) = T j_ (T 201 (T 182 o)) := fun j_ hj_ => (hx65_ (T 201 (T 182 o)) (Nat.ne_of_lt (Nat.lt_of_lt_of_le (cw_ltq hw0_.1 (by rw [A182_ 0 (by decide)]; exact tx182_)) hge65_)) j_).trans (A182_ j_ hj_)
                        have B183n_ : ∀ j_, j_ ≠ 197 → T65_ j_ (T 183 o) = T j_ (T 183 o) := fun j_ hj_ => (hx65_ (T 183 o) (Nat.ne_of_lt (Nat.lt_of_lt_of_le (cw_lt hw0_.1 ((B183_ 0 (by decide)).trans tl183_) (fun _ _ _ => ⟨_, rfl⟩)) hge65_)) j_).trans (B183_ j_ hj_)
                        have A183n_ : ∀ j_, j_ ≠ 197 → T65_ j_ (T 201 (T 183 o)) = T j_ (T 201 (T 183 o)) := fun j_ hj_ => (hx65_ (T 201 (T 183 o)) (Nat.ne_of_lt (Nat.lt_of_lt_of_le (cw_ltq hw0_.1 (by rw [A183_ 0 (by decide)]; exact tx183_)) hge65_)) j_).trans (A183_ j_ hj_)
                        have B180_ := B180n_
                        have A180_ := A180n_
                        have B181_ := B181n_
                        have A181_ := A181n_
                        have B182_ := B182n_
                        have A182_ := A182n_
                        have B183_ := B183n_
                        have A183_ := A183n_
                        have u66_ : T65_ 0 o = 9 := (hx65_ o (Nat.ne_of_lt (Nat.lt_of_lt_of_le (cw_lt hw0_.1 t_o (fun _ _ _ => ⟨_, rfl⟩)) hge65_)) 0).trans t_o
                        have u67_ : T65_ 0 xx1_ = 2 := (hx65_ xx1_ (Nat.ne_of_lt (Nat.lt_of_lt_of_le (cw_lt hw0_.1 te1_ (fun _ _ _ => ⟨_, rfl⟩)) hge65_)) 0).trans te1_
                        have u68_ : T65_ 0 xx3_ = 2 := (hx65_ xx3_ (Nat.ne_of_lt (Nat.lt_of_lt_of_le (cw_lt hw0_.1 te3_ (fun _ _ _ => ⟨_, rfl⟩)) hge65_)) 0).trans te3_
                        have u69_ : T65_ 0 (T 183 o) = 10 := (hx65_ (T 183 o) (Nat.ne_of_lt (Nat.lt_of_lt_of_le (cw_lt hw0_.1 (wt_183 hT t_o) (fun _ _ _ => ⟨_, rfl⟩)) hge65_)) 0).trans (wt_183 hT t_o)
                        have u70_ : T65_ 2 (T 183 o) = 7 := (hx65_ (T 183 o) (Nat.ne_of_lt (Nat.lt_of_lt_of_le (cw_lt hw0_.1 (wt_183 hT t_o) (fun _ _ _ => ⟨_, rfl⟩)) hge65_)) 2).trans (we_183 hT t_o)
                        have u71_ : T65_ 180 o = T 180 o := (hx65_ o (Nat.ne_of_lt (Nat.lt_of_lt_of_le (cw_lt hw0_.1 t_o (fun _ _ _ => ⟨_, rfl⟩)) hge65_)) 180).trans rfl
                        have u72_ : T65_ 181 o = T 181 o := (hx65_ o (Nat.ne_of_lt (Nat.lt_of_lt_of_le (cw_lt hw0_.1 t_o (fun _ _ _ => ⟨_, rfl⟩)) hge65_)) 181).trans rfl
                        have u73_ : T65_ 182 o = T 182 o := (hx65_ o (Nat.ne_of_lt (Nat.lt_of_lt_of_le (cw_lt hw0_.1 t_o (fun _ _ _ => ⟨_, rfl⟩)) hge65_)) 182).trans rfl
                        have u74_ : T65_ 183 o = T 183 o := (hx65_ o (Nat.ne_of_lt (Nat.lt_of_lt_of_le (cw_lt hw0_.1 t_o (fun _ _ _ => ⟨_, rfl⟩)) hge65_)) 183).trans rfl
                        have u75_ : T65_ 185 o = T 185 o := (hx65_ o (Nat.ne_of_lt (Nat.lt_of_lt_of_le (cw_lt hw0_.1 t_o (fun _ _ _ => ⟨_, rfl⟩)) hge65_)) 185).trans rfl
                        refine j_dup E 148 rfl dX9_suit_147 rfl ?_
                        refine j_iload_n E 149 rfl dX9_suit_148 rfl (lv_at hl 4 rfl) ?_
                        refine j_iload_n E 150 rfl dX9_suit_149 rfl (lv_at hl 5 rfl) ?_
                        refine j_iload_n E 151 rfl dX9_suit_150 rfl (lv_at hl 6 rfl) ?_
                        refine j_aload_n E 152 rfl dX9_suit_151 rfl (lv_at hl 3 rfl) ?_
                        refine j_iload_n E 153 rfl dX9_suit_152 rfl (lv_at hl 6 rfl) ?_
                        refine j_aload_n E 154 rfl dX9_suit_153 rfl (lv_at hl 3 rfl) ?_
                        refine g_187 E hK hw fl_X9_37 u66_ (v_0 187 o) rfl 157 rfl dX9_suit_154 (fun _ => ?_)
                        refine j_iconst E 158 rfl dX9_suit_157 ?_
                        refine j_isub E 159 rfl dX9_suit_158 ?_
                        refine kV_i E (c_X9_reckonByLaw l D cy T65_ (upV (upV (upV (upV (upV (upV (upV (upV v_0 300 y300_62) 140 (upB (v_0 140) q65_ 0)) 141 (upB (v_0 141) q65_ 0)) 142 (upB (v_0 142) q65_ 0)) 143 (upB (v_0 143) q65_ 0)) 144 (upB (v_0 144) q65_ 0)) 145 (upB (v_0 145) q65_ 0)) 146 (upB (v_0 146) q65_ 0)) o v_l ((v_0 187 o) - 1) (gC_ (y300_62) (T65_ 100 (T65_ 193 o))) S1_ S2_ S3_ u66_ r_v_l (rr (by omega)) (show Wd_ T65_ (y300_62) o ((v_0 202) (T65_ 182 o)) S1_ S2_ S3_ from by rw [u73_]; exact wd_mv hp1 (fun i_ _ => by show T65_ _ (T65_ 201 (T65_ 182 o)) = _; rw [u73_, B182_ 201 (by decide), A182_ (1000 + i_) (by omega)]; rfl) (wd_ho hwI_.1 t_o hszH_ hC_ kd63_ (by decide))) (show 0 ≤ v_l from by omega) (show ((v_0 202) (T65_ 181 o)) ≤ 24 from by rw [u72_]; omega) (show ∀ i_, 0 ≤ i_ → i_ ≤ 4 → gC_ (y300_62) (T65_ 100 (T65_ 193 o)) i_ = ((gC_ (y300_62) (T65_ 100 (T65_ 193 o)))) i_ from fun _ _ _ => rfl) (show 0 ≤ v_l ∧ v_l < ((v_0 202) (T65_ 181 o)) from by rw [u72_]; omega) (show ((v_0 187 o) - 1) < 200 from by omega)) mt_X9_reckonByLaw ml_X9_296 hK hw (cw_rc9 hK hw.1 u66_) hA ⟨Nat.le_of_ble_eq_true rfl, Nat.le_of_ble_eq_true rfl⟩ ⟨Nat.le_of_ble_eq_true rfl, Nat.le_of_ble_eq_true rfl⟩ (As := [.int (J v_l), .int (J ((v_0 187 o) - 1))]) (rest := [.int (J v_l), .int (J v_q), .int (J v_p), .ref q65_, .ref q65_, .ref (T 183 o)]) rfl rfl hl.1 (Nat.le_of_ble_eq_true rfl) 162 rfl dX9_suit_159 (fun zz76_ v_76 H locs rr76_ hq76_ hw => ?_)
                        obtain ⟨y103_76, y300_76, ev76_, hh76_⟩ := hq76_
                        rw [ev76_] at hw; clear ev76_
                        obtain ⟨hh76_, kf76_⟩ := hh76_
                        have kd77_ : KdA_ T sz [100, 101, 102] (v_0 300) (y300_76) := KdA_tr kd63_ (KdA_kc kf76_ (by decide) (fun b_ h1_ h2_ => ((C20_ hC_ t_o (by decide)) b_ h1_ h2_).2))
                        replace hh76_ : (∃ g_ : Int → Int, zz76_ = g_ v_l ∧ Owc_ (fun y_ w_ => ∃ x_ z_, ELn_ T65_ 181 o (y_).toNat = x_ + 1 ∧ Lw_ (((v_0 23) x_)) (gC_ (v_0 302) (T65_ 26 x_)) ((v_0 187 o) - 1) z_ ∧ w_ = nrm_ ((v_0 202) (T65_ 182 o)) z_) ((gC_ (y300_62) (T65_ 100 (T65_ 193 o)))) g_ (v_l + 1) S1_ S2_ S3_) ∧ (∀ b_, b_ ≠ (T65_ 101 (T65_ 193 o)) → b_ ≠ (T65_ 102 (T65_ 193 o)) → ∀ i_, (y300_76) (pr b_ i_) = (y300_62) (pr b_ i_)) := hh76_
                        refine j_aload_n E 163 rfl dX9_suit_162 rfl (lv_at hl 3 rfl) ?_
                        refine g_187 E hK hw fl_X9_37 u66_ (v_0 187 o) rfl 166 rfl dX9_suit_163 (fun _ => ?_)
                        refine j_aload_n E 167 rfl dX9_suit_166 rfl (lv_at hl 3 rfl) ?_
                        refine j_iload_n E 168 rfl dX9_suit_167 rfl (lv_at hl 4 rfl) ?_
                        refine j_aload E 170 rfl dX9_suit_168 (lv_at hl 2 rfl) ?_
                        refine g_41 E hK hw fl_X9_110 u67_ (v_0 41 xx1_) rfl 173 rfl dX9_suit_170 (fun _ => ?_)
                        refine kV_i E (c_X9_livingKinOf l D cy T65_ (upV (upV (upV (upV (upV (upV (upV (upV (upV (upV v_0 300 y300_62) 140 (upB (v_0 140) q65_ 0)) 141 (upB (v_0 141) q65_ 0)) 142 (upB (v_0 142) q65_ 0)) 143 (upB (v_0 143) q65_ 0)) 144 (upB (v_0 144) q65_ 0)) 145 (upB (v_0 145) q65_ 0)) 146 (upB (v_0 146) q65_ 0)) 103 y103_76) 300 y300_76) o v_p (v_0 41 xx1_)  u66_ r_v_p rr16_ ) mt_X9_livingKinOf ml_X9_313 hK hw (cw_rc9 hK hw.1 u66_) hA ⟨Nat.le_of_ble_eq_true rfl, Nat.le_of_ble_eq_true rfl⟩ ⟨Nat.le_of_ble_eq_true rfl, Nat.le_of_ble_eq_true rfl⟩ (As := [.int (J v_p), .int (J (v_0 41 xx1_))]) (rest := [.int (J (v_0 187 o)), .int (J zz76_), .int (J v_l), .int (J v_q), .int (J v_p), .ref q65_, .ref q65_, .ref (T 183 o)]) rfl rfl hl.1 (Nat.le_of_ble_eq_true rfl) 176 rfl dX9_suit_173 (fun zz78_ v_78 H locs rr78_ hq78_ hw => ?_)
                        obtain ⟨ev78_, hh78_⟩ := hq78_
                        rw [ev78_] at hw; clear ev78_
                        have hw0_ := hw
                        refine aI_v E (n_X6_init l D cy κ T65_ (upV (upV (upV (upV (upV (upV (upV (upV (upV (upV v_0 300 y300_62) 140 (upB (v_0 140) q65_ 0)) 141 (upB (v_0 141) q65_ 0)) 142 (upB (v_0 142) q65_ 0)) 143 (upB (v_0 143) q65_ 0)) 144 (upB (v_0 144) q65_ 0)) 145 (upB (v_0 145) q65_ 0)) 146 (upB (v_0 146) q65_ 0)) 103 y103_76) 300 y300_76) q65_ v_p v_q v_l zz76_ (v_0 187 o) zz78_ H.size  hO65_ tq65_ r_v_p r_v_q r_v_l rr76_ rr10_ rr78_ ) mi_X6_init ml_X9_316 hK hZ hAc hw hA ⟨(Nat.le_of_ble_eq_true rfl), (Nat.le_of_ble_eq_true rfl)⟩ ⟨(Nat.le_of_ble_eq_true rfl), (Nat.le_of_ble_eq_true rfl)⟩ (As := [.int (J v_p), .int (J v_q), .int (J v_l), .int (J zz76_), .int (J (v_0 187 o)), .int (J zz78_)]) (rest := [.ref q65_, .ref (T 183 o)]) rfl rfl hl.1 (Nat.le_of_ble_eq_true rfl) 179 rfl dX9_suit_176 (fun T79_ v_79 H locs hge79_ ho79_ hq79_ hw => ?_)
                        obtain ⟨y140_79, y141_79, y142_79, y143_79, y144_79, y145_79, y146_79, ev79_, hh79_⟩ := hq79_
                        rw [ev79_] at hw; clear ev79_
                        obtain ⟨hx79_, tq79_⟩ := hh79_
                        have hT79_ : WT T79_ := hw.1.2.1
                        have hO79_ : ∀ x, ow T79_ x → κ 2 2 ≤ x := fun x h => hAc x (hw.2.1 x h)
                        have hoT_ : OW T T79_ s.heap.size := OW.tr hw0_.2.2.1 hoT_ ho79_
                        have hC_ : ∀ b, b < sz → T 0 b ≠ 10 → T 0 b ≠ 24 → T 0 b ≠ 26 → b ≠ o → ∀ j, j ≠ 197 → T79_ j b = T j b := fun b_ h1_ h2_ h3_ h4_ h5_ j_ h6_ => (hx79_ b_ (by have := hw0_.2.2.1; omega) (by have := fq65_; omega) j_).trans (hC_ b_ h1_ h2_ h3_ h4_ h5_ j_ h6_)
                        have B180n_ : ∀ j_, j_ ≠ 197 → T79_ j_ (T 180 o) = T j_ (T 180 o) := fun j_ hj_ => (hx79_ (T 180 o) (cw_lt hw0_.1 ((B180_ 0 (by decide)).trans tl180_) (fun _ _ _ => ⟨_, rfl⟩)) (ty_ne ((B180_ 0 (by decide)).trans tl180_) tq65_ (by decide)) j_).trans (B180_ j_ hj_)
                        have A180n_ : ∀ j_, j_ ≠ 197 → T79_ j_ (T 201 (T 180 o)) = T j_ (T 201 (T 180 o)) := fun j_ hj_ => (hx79_ (T 201 (T 180 o)) (cw_ltq hw0_.1 (by rw [A180_ 0 (by decide)]; exact tx180_)) (ty_neq (by rw [A180_ 0 (by decide)]; exact tx180_) tq65_ (by decide) (by decide)) j_).trans (A180_ j_ hj_)
                        have B181n_ : ∀ j_, j_ ≠ 197 → T79_ j_ (T 181 o) = T j_ (T 181 o) := fun j_ hj_ => (hx79_ (T 181 o) (cw_lt hw0_.1 ((B181_ 0 (by decide)).trans tl181_) (fun _ _ _ => ⟨_, rfl⟩)) (ty_ne ((B181_ 0 (by decide)).trans tl181_) tq65_ (by decide)) j_).trans (B181_ j_ hj_)
                        have A181n_ : ∀ j_, j_ ≠ 197 → T79_ j_ (T 201 (T 181 o)) = T j_ (T 201 (T 181 o)) := fun j_ hj_ => (hx79_ (T 201 (T 181 o)) (cw_ltq hw0_.1 (by rw [A181_ 0 (by decide)]; exact tx181_)) (ty_neq (by rw [A181_ 0 (by decide)]; exact tx181_) tq65_ (by decide) (by decide)) j_).trans (A181_ j_ hj_)
                        have B182n_ : ∀ j_, j_ ≠ 197 → T79_ j_ (T 182 o) = T j_ (T 182 o) := fun j_ hj_ => (hx79_ (T 182 o) (cw_lt hw0_.1 ((B182_ 0 (by decide)).trans tl182_) (fun _ _ _ => ⟨_, rfl⟩)) (ty_ne ((B182_ 0 (by decide)).trans tl182_) tq65_ (by decide)) j_).trans (B182_ j_ hj_)
                        have A182n_ : ∀ j_, j_ ≠ 197 → T79_ j_ (T 201 (T 182 o)) = T j_ (T 201 (T 182 o)) := fun j_ hj_ => (hx79_ (T 201 (T 182 o)) (cw_ltq hw0_.1 (by rw [A182_ 0 (by decide)]; exact tx182_)) (ty_neq (by rw [A182_ 0 (by decide)]; exact tx182_) tq65_ (by decide) (by decide)) j_).trans (A182_ j_ hj_)
                        have B183n_ : ∀ j_, j_ ≠ 197 → T79_ j_ (T 183 o) = T j_ (T 183 o) := fun j_ hj_ => (hx79_ (T 183 o) (cw_lt hw0_.1 ((B183_ 0 (by decide)).trans tl183_) (fun _ _ _ => ⟨_, rfl⟩)) (ty_ne ((B183_ 0 (by decide)).trans tl183_) tq65_ (by decide)) j_).trans (B183_ j_ hj_)
                        have A183n_ : ∀ j_, j_ ≠ 197 → T79_ j_ (T 201 (T 183 o)) = T j_ (T 201 (T 183 o)) := fun j_ hj_ => (hx79_ (T 201 (T 183 o)) (cw_ltq hw0_.1 (by rw [A183_ 0 (by decide)]; exact tx183_)) (ty_neq (by rw [A183_ 0 (by decide)]; exact tx183_) tq65_ (by decide) (by decide)) j_).trans (A183_ j_ hj_)
                        have B180_ := B180n_
                        have A180_ := A180n_
                        have B181_ := B181n_
                        have A181_ := A181n_
                        have B182_ := B182n_
                        have A182_ := A182n_
                        have B183_ := B183n_
                        have A183_ := A183n_
                        have u80_ : T79_ 0 o = 9 := (hx79_ o (cw_lt hw0_.1 u66_ (fun _ _ _ => ⟨_, rfl⟩)) (ty_ne u66_ tq65_ (by decide)) 0).trans u66_
                        have u81_ : T79_ 0 xx1_ = 2 := (hx79_ xx1_ (cw_lt hw0_.1 u67_ (fun _ _ _ => ⟨_, rfl⟩)) (ty_ne u67_ tq65_ (by decide)) 0).trans u67_
                        have u82_ : T79_ 0 xx3_ = 2 := (hx79_ xx3_ (cw_lt hw0_.1 u68_ (fun _ _ _ => ⟨_, rfl⟩)) (ty_ne u68_ tq65_ (by decide)) 0).trans u68_
                        have u83_ : T79_ 0 (T 183 o) = 10 := (hx79_ (T 183 o) (cw_lt hw0_.1 u69_ (fun _ _ _ => ⟨_, rfl⟩)) (ty_ne u69_ tq65_ (by decide)) 0).trans u69_
                        have u84_ : T79_ 2 (T 183 o) = 7 := (hx79_ (T 183 o) (cw_lt hw0_.1 u69_ (fun _ _ _ => ⟨_, rfl⟩)) (ty_ne u69_ tq65_ (by decide)) 2).trans u70_
                        have u85_ : T79_ 180 o = T 180 o := (hx79_ o (cw_lt hw0_.1 u66_ (fun _ _ _ => ⟨_, rfl⟩)) (ty_ne u66_ tq65_ (by decide)) 180).trans u71_
                        have u86_ : T79_ 181 o = T 181 o := (hx79_ o (cw_lt hw0_.1 u66_ (fun _ _ _ => ⟨_, rfl⟩)) (ty_ne u66_ tq65_ (by decide)) 181).trans u72_
                        have u87_ : T79_ 182 o = T 182 o := (hx79_ o (cw_lt hw0_.1 u66_ (fun _ _ _ => ⟨_, rfl⟩)) (ty_ne u66_ tq65_ (by decide)) 182).trans u73_
                        have u88_ : T79_ 183 o = T 183 o := (hx79_ o (cw_lt hw0_.1 u66_ (fun _ _ _ => ⟨_, rfl⟩)) (ty_ne u66_ tq65_ (by decide)) 183).trans u74_
                        have u89_ : T79_ 185 o = T 185 o := (hx79_ o (cw_lt hw0_.1 u66_ (fun _ _ _ => ⟨_, rfl⟩)) (ty_ne u66_ tq65_ (by decide)) 185).trans u75_
                        have hw0_ := hw
                        refine aV_i E (n_Jx4a65c_add_9ea2d_n2 l D cy κ T79_ (upV (upV (upV (upV (upV (upV (upV (upV (upV (upV (upV (upV (upV (upV (upV (upV (upV v_0 300 y300_62) 140 (upB (v_0 140) q65_ 0)) 141 (upB (v_0 141) q65_ 0)) 142 (upB (v_0 142) q65_ 0)) 143 (upB (v_0 143) q65_ 0)) 144 (upB (v_0 144) q65_ 0)) 145 (upB (v_0 145) q65_ 0)) 146 (upB (v_0 146) q65_ 0)) 103 y103_76) 300 y300_76) 140 y140_79) 141 y141_79) 142 y142_79) 143 y143_79) 144 y144_79) 145 y145_79) 146 y146_79) (T 183 o) q65_ H.size  hO79_ u83_  (tq79_.trans u84_.symm) (fun x_ h_ => hp0 x_ ((hoT_ x_).2 h_)) (show ((v_0 202) ((T 183 o))) ≤ 200 from by omega)) mt_Jx4a65c_add_9ea2d ml_X9_89 hK hZ hAc hw (cw_rc10 hK hw.1 u83_) hA ⟨(Nat.le_of_ble_eq_true rfl), (Nat.le_of_ble_eq_true rfl)⟩ ⟨(Nat.le_of_ble_eq_true rfl), (Nat.le_of_ble_eq_true rfl)⟩ (As := [.ref q65_]) (rest := []) rfl rfl hl.1 (Nat.le_of_ble_eq_true rfl) 182 rfl dX9_suit_179 (fun zz90_ T90_ v_90 H locs rr90_ hge90_ ho90_ hq90_ hw => ?_)
                        obtain ⟨y200_90, y202_90, ev90_, hh90_⟩ := hq90_
                        rw [ev90_] at hw; clear ev90_
                        obtain ⟨hy90_, hx90_, hz90_, hl90_, hel90_, hnw90_⟩ := hh90_
                        have hy90_ : y202_90 = upB (v_0 202) (T 183 o) ((v_0 202) (T 183 o) + 1) := hy90_
                        have hT90_ : WT T90_ := hw.1.2.1
                        have hO90_ : ∀ x, ow T90_ x → κ 2 2 ≤ x := fun x h => hAc x (hw.2.1 x h)
                        have hoT_ : OW T T90_ s.heap.size := OW.tr hw0_.2.2.1 hoT_ ho90_
                        have hC_ : ∀ b, b < sz → T 0 b ≠ 10 → T 0 b ≠ 24 → T 0 b ≠ 26 → b ≠ o → ∀ j, j ≠ 197 → T90_ j b = T j b := fun b_ h1_ h2_ h3_ h4_ h5_ j_ h6_ => (hx90_ b_ (by have := hw0_.2.2.1; omega) (fun e_ => h2_ ((hC_ b_ h1_ h2_ h3_ h4_ h5_ 0 (by decide)).symm.trans (by rw [e_]; exact u83_))) (fun h_ => absurd ((hC_ b_ h1_ h2_ h3_ h4_ h5_ 0 (by decide)).symm.trans h_) h3_) j_).trans (hC_ b_ h1_ h2_ h3_ h4_ h5_ j_ h6_)
                        have B180n_ : ∀ j_, j_ ≠ 197 → T90_ j_ (T 180 o) = T j_ (T 180 o) := fun j_ hj_ => (hx90_ (T 180 o) (cw_lt hw0_.1 ((B180_ 0 (by decide)).trans tl180_) (fun _ _ _ => ⟨_, rfl⟩)) ((ls_ne hT t_o).2.2.1) (fun h_ => absurd (((B180_ 0 (by decide)).trans tl180_).symm.trans h_) (by decide)) j_).trans (B180_ j_ hj_)
                        have A180n_ : ∀ j_, j_ ≠ 197 → T90_ j_ (T 201 (T 180 o)) = T j_ (T 201 (T 180 o)) := fun j_ hj_ => (hx90_ (T 201 (T 180 o)) (cw_ltq hw0_.1 (by rw [A180_ 0 (by decide)]; exact tx180_)) (ty_neq (by rw [A180_ 0 (by decide)]; exact tx180_) u83_ (by decide) (by decide)) (fun h_ => by rw [B183_ 201 (by decide)]; exact own_ne hT tl180_ tl183_ ((ls_ne hT t_o).2.2.1) ((A180_ 0 (by decide)).symm.trans h_)) j_).trans (A180_ j_ hj_)
                        have B181n_ : ∀ j_, j_ ≠ 197 → T90_ j_ (T 181 o) = T j_ (T 181 o) := fun j_ hj_ => (hx90_ (T 181 o) (cw_lt hw0_.1 ((B181_ 0 (by decide)).trans tl181_) (fun _ _ _ => ⟨_, rfl⟩)) ((ls_ne hT t_o).2.2.2.2.2.1) (fun h_ => absurd (((B181_ 0 (by decide)).trans tl181_).symm.trans h_) (by decide)) j_).trans (B181_ j_ hj_)
                        have A181n_ : ∀ j_, j_ ≠ 197 → T90_ j_ (T 201 (T 181 o)) = T j_ (T 201 (T 181 o)) := fun j_ hj_ => (hx90_ (T 201 (T 181 o)) (cw_ltq hw0_.1 (by rw [A181_ 0 (by decide)]; exact tx181_)) (ty_neq (by rw [A181_ 0 (by decide)]; exact tx181_) u83_ (by decide) (by decide)) (fun h_ => by rw [B183_ 201 (by decide)]; exact own_ne hT tl181_ tl183_ ((ls_ne hT t_o).2.2.2.2.2.1) ((A181_ 0 (by decide)).symm.trans h_)) j_).trans (A181_ j_ hj_)
                        have B182n_ : ∀ j_, j_ ≠ 197 → T90_ j_ (T 182 o) = T j_ (T 182 o) := fun j_ hj_ => (hx90_ (T 182 o) (cw_lt hw0_.1 ((B182_ 0 (by decide)).trans tl182_) (fun _ _ _ => ⟨_, rfl⟩)) ((ls_ne hT t_o).2.2.2.2.2.2.2.2.1) (fun h_ => absurd (((B182_ 0 (by decide)).trans tl182_).symm.trans h_) (by decide)) j_).trans (B182_ j_ hj_)
                        have A182n_ : ∀ j_, j_ ≠ 197 → T90_ j_ (T 201 (T 182 o)) = T j_ (T 201 (T 182 o)) := fun j_ hj_ => (hx90_ (T 201 (T 182 o)) (cw_ltq hw0_.1 (by rw [A182_ 0 (by decide)]; exact tx182_)) (ty_neq (by rw [A182_ 0 (by decide)]; exact tx182_) u83_ (by decide) (by decide)) (fun h_ => by rw [B183_ 201 (by decide)]; exact own_ne hT tl182_ tl183_ ((ls_ne hT t_o).2.2.2.2.2.2.2.2.1) ((A182_ 0 (by decide)).symm.trans h_)) j_).trans (A182_ j_ hj_)
                        have B180_ := B180n_
                        have A180_ := A180n_
                        have B181_ := B181n_
                        have A181_ := A181n_
                        have B182_ := B182n_
                        have A182_ := A182n_
                        have u91_ : T90_ 0 o = 9 := (hx90_ o (cw_lt hw0_.1 u80_ (fun _ _ _ => ⟨_, rfl⟩)) (ty_ne u80_ u83_ (by decide)) (fun h_ => absurd (u80_.symm.trans h_) (by decide)) 0).trans u80_
                        have u92_ : T90_ 0 xx1_ = 2 := (hx90_ xx1_ (cw_lt hw0_.1 u81_ (fun _ _ _ => ⟨_, rfl⟩)) (ty_ne u81_ u83_ (by decide)) (fun h_ => absurd (u81_.symm.trans h_) (by decide)) 0).trans u81_
                        have u93_ : T90_ 0 xx3_ = 2 := (hx90_ xx3_ (cw_lt hw0_.1 u82_ (fun _ _ _ => ⟨_, rfl⟩)) (ty_ne u82_ u83_ (by decide)) (fun h_ => absurd (u82_.symm.trans h_) (by decide)) 0).trans u82_
                        have u94_ : T90_ 180 o = T 180 o := (hx90_ o (cw_lt hw0_.1 u80_ (fun _ _ _ => ⟨_, rfl⟩)) (ty_ne u80_ u83_ (by decide)) (fun h_ => absurd (u80_.symm.trans h_) (by decide)) 180).trans u85_
                        have u95_ : T90_ 181 o = T 181 o := (hx90_ o (cw_lt hw0_.1 u80_ (fun _ _ _ => ⟨_, rfl⟩)) (ty_ne u80_ u83_ (by decide)) (fun h_ => absurd (u80_.symm.trans h_) (by decide)) 181).trans u86_
                        have u96_ : T90_ 182 o = T 182 o := (hx90_ o (cw_lt hw0_.1 u80_ (fun _ _ _ => ⟨_, rfl⟩)) (ty_ne u80_ u83_ (by decide)) (fun h_ => absurd (u80_.symm.trans h_) (by decide)) 182).trans u87_
                        have u97_ : T90_ 183 o = T 183 o := (hx90_ o (cw_lt hw0_.1 u80_ (fun _ _ _ => ⟨_, rfl⟩)) (ty_ne u80_ u83_ (by decide)) (fun h_ => absurd (u80_.symm.trans h_) (by decide)) 183).trans u88_
                        have u98_ : T90_ 185 o = T 185 o := (hx90_ o (cw_lt hw0_.1 u80_ (fun _ _ _ => ⟨_, rfl⟩)) (ty_ne u80_ u83_ (by decide)) (fun h_ => absurd (u80_.symm.trans h_) (by decide)) 185).trans u89_
                        refine j_pop E 183 rfl dX9_suit_182 rfl ?_
                        refine j_aload_n E 184 rfl dX9_suit_183 rfl (lv_at hl 3 rfl) ?_
                        refine g_183 E hK hw fl_X9_22 u91_ 187 rfl dX9_suit_184 ?_
                        refine kV_i E (c_Jx4a65c_size_8abf5 l D cy T90_ (upV (upV (upV (upV (upV (upV (upV (upV (upV (upV (upV (upV (upV (upV (upV (upV (upV (upV (upV v_0 300 y300_62) 140 (upB (v_0 140) q65_ 0)) 141 (upB (v_0 141) q65_ 0)) 142 (upB (v_0 142) q65_ 0)) 143 (upB (v_0 143) q65_ 0)) 144 (upB (v_0 144) q65_ 0)) 145 (upB (v_0 145) q65_ 0)) 146 (upB (v_0 146) q65_ 0)) 103 y103_76) 300 y300_76) 140 y140_79) 141 y141_79) 142 y142_79) 143 y143_79) 144 y144_79) 145 y145_79) 146 y146_79) 200 y200_90) 202 y202_90) (T90_ 183 o)  (wt_183 hT90_ u91_)  ) mt_Jx4a65c_size_8abf5 ml_X9_80 hK hw (cw_rc10 hK hw.1 (wt_183 hT90_ u91_)) hA ⟨Nat.le_of_ble_eq_true rfl, Nat.le_of_ble_eq_true rfl⟩ ⟨Nat.le_of_ble_eq_true rfl, Nat.le_of_ble_eq_true rfl⟩ (As := []) (rest := []) rfl rfl hl.1 (Nat.le_of_ble_eq_true rfl) 190 rfl dX9_suit_187 (fun zz99_ v_99 H locs rr99_ hq99_ hw => ?_)
                        obtain ⟨ev99_, hh99_⟩ := hq99_
                        rw [ev99_] at hw; clear ev99_
                        replace hh99_ : zz99_ = (y202_90 ((T90_ 183 o))) ∧ 0 ≤ zz99_ := hh99_
                        refine j_iconst E 191 rfl dX9_suit_190 ?_
                        refine j_isub E 192 rfl dX9_suit_191 ?_
                        refine j_norm (fun zz100_ rr100_ ee100_ => ?_)
                        exact hret 192 zz100_ T90_ _ _ _ ls _ _ hw hoT_ rr100_ (⟨⟨u91_, ⟨u94_, u95_, u96_, u97_, u98_⟩, rfl, rfl, rfl, rfl, rfl, (by show y202_90 (T 180 o) = v_0 202 (T 180 o); rw [hy90_]; exact upB_ne ((ls_ne hT t_o).2.2.1)), (by show y202_90 (T 181 o) = v_0 202 (T 181 o); rw [hy90_]; exact upB_ne ((ls_ne hT t_o).2.2.2.2.2.1)), (by show y202_90 (T 182 o) = v_0 202 (T 182 o); rw [hy90_]; exact upB_ne ((ls_ne hT t_o).2.2.2.2.2.2.2.2.1)), hC_, (fun i_ => by rw [u94_, B180_ 201 (by decide), A180_ (1000 + i_) (by omega)]), (fun i_ => by rw [u95_, B181_ 201 (by decide), A181_ (1000 + i_) (by omega)]), (fun i_ => by rw [u96_, B182_ 201 (by decide), A182_ (1000 + i_) (by omega)]), rfl, rfl, rfl, rfl, rfl, rfl, rfl, rfl, trivial⟩, kd77_⟩) (Nat.le_of_ble_eq_true rfl) (Nat.le_of_ble_eq_true rfl) dX9_suit_192
                      · refine j_iconst E 139 rfl dX9_suit_138 ?_
                        exact hret 139 ((-1)) T _ _ _ ls _ _ hw hoT_ (rr (by decide)) (⟨⟨t_o, ⟨rfl, rfl, rfl, rfl, rfl⟩, rfl, rfl, rfl, rfl, rfl, rfl, rfl, rfl, hC_, (fun _ => rfl), (fun _ => rfl), (fun _ => rfl), rfl, rfl, rfl, rfl, rfl, rfl, rfl, rfl, trivial⟩, kd63_⟩) (Nat.le_of_ble_eq_true rfl) (Nat.le_of_ble_eq_true rfl) dX9_suit_139
                  · refine j_iconst E 86 rfl dX9_suit_85 ?_
                    exact hret 86 ((-1)) T _ _ _ ls _ _ hw hoT_ (rr (by decide)) (⟨⟨t_o, ⟨rfl, rfl, rfl, rfl, rfl⟩, rfl, rfl, rfl, rfl, rfl, rfl, rfl, rfl, hC_, (fun _ => rfl), (fun _ => rfl), (fun _ => rfl), rfl, rfl, rfl, rfl, rfl, rfl, rfl, rfl, trivial⟩, KdA_rf⟩) (Nat.le_of_ble_eq_true rfl) (Nat.le_of_ble_eq_true rfl) dX9_suit_86
          · refine j_iconst E 50 rfl dX9_suit_49 ?_
            exact hret 50 ((-1)) T _ _ _ ls _ _ hw hoT_ (rr (by decide)) (⟨⟨t_o, ⟨rfl, rfl, rfl, rfl, rfl⟩, rfl, rfl, rfl, rfl, rfl, rfl, rfl, rfl, hC_, (fun _ => rfl), (fun _ => rfl), (fun _ => rfl), rfl, rfl, rfl, rfl, rfl, rfl, rfl, rfl, trivial⟩, KdA_rf⟩) (Nat.le_of_ble_eq_true rfl) (Nat.le_of_ble_eq_true rfl) dX9_suit_50
set_option maxHeartbeats 4000000 in
set_option maxRecDepth 100000 in
theorem n_X9_wording (l : Launch) (D : va_G) (cy : Nat → ClassId) (κ T : Nat → Nat → Nat) (v_0 : Nat → Nat → Int) (o : Nat) (sz : Nat) (hO : ∀ x, ow T x → κ 2 2 ≤ x) (t_o : T 0 o = 9) (hp0 : ∀ x, T 0 x = 26 → x = κ 2 0) (hp1 : 0 ≤ v_0 186 o ∧ v_0 186 o ≤ 400) : KA l D cy κ T yX9_wording cX9_wording 2 (some .int) 24 5 1300 [.ref o] v_0 sz (AI (fun (z_0 : Int) (T_2 : Nat → Nat → Nat) (v_2 : Nat → Nat → Int) => (T_2 0 o = 9 ∧ (T_2 180 o = T 180 o ∧ T_2 181 o = T 181 o ∧ T_2 182 o = T 182 o ∧ T_2 183 o = T 183 o ∧ T_2 185 o = T 185 o) ∧ v_2 186 o = 0 ∧ v_2 187 o = v_0 187 o ∧ v_2 303 = v_0 303 ∧ v_2 202 (T 180 o) = v_0 202 (T 180 o) ∧ v_2 202 (T 181 o) = v_0 202 (T 181 o) ∧ v_2 202 (T 183 o) = v_0 202 (T 183 o) ∧ (∀ b, b < sz → T 0 b ≠ 10 → T 0 b ≠ 24 → T 0 b ≠ 26 → b ≠ o → ∀ j, j ≠ 197 → T_2 j b = T j b) ∧ (∀ i_ : Nat, T_2 (1000 + i_) (T_2 201 (T_2 180 o)) = T (1000 + i_) (T 201 (T 180 o))) ∧ (∀ i_ : Nat, T_2 (1000 + i_) (T_2 201 (T_2 181 o)) = T (1000 + i_) (T 201 (T 181 o))) ∧ (∀ i_ : Nat, T_2 (1000 + i_) (T_2 201 (T_2 183 o)) = T (1000 + i_) (T 201 (T 183 o))) ∧ v_2 40 = v_0 40 ∧ v_2 41 = v_0 41 ∧ v_2 42 = v_0 42 ∧ v_2 43 = v_0 43 ∧ v_2 44 = v_0 44 ∧ v_2 25 = v_0 25 ∧ v_2 302 = v_0 302 ∧ (Wc_ (gC_ (v_0 303) (T 185 o)) (v_0 186 o) (v_0 202 (T 182 o)) (v_2 202 (T 182 o)) z_0 (v_2 190 o) (v_2 191 o) ((∀ i_ : Nat, T_2 (1000 + i_) (T_2 201 (T_2 182 o)) = T (1000 + i_) (T 201 (T 182 o))) ∧ v_2 160 = v_0 160) (fun K_ V_ cnt_ a1_ a2_ a3_ => ∃ q_ : Nat, sz ≤ q_ ∧ (∀ i_ : Nat, (i_ : Int) < v_0 202 (T 182 o) → T_2 (1000 + i_) (T_2 201 (T_2 182 o)) = T (1000 + i_) (T 201 (T 182 o))) ∧ T_2 (1000 + (v_0 202 (T 182 o)).toNat) (T_2 201 (T_2 182 o)) = q_ + 1 ∧ T_2 0 q_ = 8 ∧ (∀ y_ : Nat, y_ ≠ q_ → v_2 160 y_ = v_0 160 y_) ∧ Wq_ T_2 (v_2 300) (v_2 160) q_ (v_0 202 (T 182 o)) cnt_ K_ V_ a1_ a2_ a3_))) ∧ KdA_ T sz [85, 120, 121, 122] (v_0 300) (v_2 300))) := by
  refine KA.ofi (by decide) (Nat.le_of_ble_eq_true rfl) hO ?_
  intro p e s m below meth c ls ar QW A0 H locs E hK hZ hA hAc hsz hszH_ hnm hw hlo_ hl hret
  have hl : lv_has ls 2 [(0, .ref o)] := hl
  have hT : WT T := hw.1.2.1
  have hoT_ : OW T T s.heap.size := OW.rf T _
  have hC_ : ∀ b, b < sz → T 0 b ≠ 10 → T 0 b ≠ 24 → T 0 b ≠ 26 → b ≠ o → ∀ j, j ≠ 197 → T j b = T j b := fun _ _ _ _ _ _ _ _ => rfl
  have tl180_ : T 0 (T 180 o) = 10 := wt_180 hT t_o
  have tx180_ : T 0 (T 201 (T 180 o)) = 24 ∨ T 0 (T 201 (T 180 o)) = 26 := (wt10 hT tl180_).1
  have B180_ : ∀ j, j ≠ 197 → T j (T 180 o) = T j (T 180 o) := fun _ _ => rfl
  have A180_ : ∀ j, j ≠ 197 → T j (T 201 (T 180 o)) = T j (T 201 (T 180 o)) := fun _ _ => rfl
  have tl181_ : T 0 (T 181 o) = 10 := wt_181 hT t_o
  have tx181_ : T 0 (T 201 (T 181 o)) = 24 ∨ T 0 (T 201 (T 181 o)) = 26 := (wt10 hT tl181_).1
  have B181_ : ∀ j, j ≠ 197 → T j (T 181 o) = T j (T 181 o) := fun _ _ => rfl
  have A181_ : ∀ j, j ≠ 197 → T j (T 201 (T 181 o)) = T j (T 201 (T 181 o)) := fun _ _ => rfl
  have tl182_ : T 0 (T 182 o) = 10 := wt_182 hT t_o
  have tx182_ : T 0 (T 201 (T 182 o)) = 24 ∨ T 0 (T 201 (T 182 o)) = 26 := (wt10 hT tl182_).1
  have B182_ : ∀ j, j ≠ 197 → T j (T 182 o) = T j (T 182 o) := fun _ _ => rfl
  have A182_ : ∀ j, j ≠ 197 → T j (T 201 (T 182 o)) = T j (T 201 (T 182 o)) := fun _ _ => rfl
  have tl183_ : T 0 (T 183 o) = 10 := wt_183 hT t_o
  have tx183_ : T 0 (T 201 (T 183 o)) = 24 ∨ T 0 (T 201 (T 183 o)) = 26 := (wt10 hT tl183_).1
  have B183_ : ∀ j, j ≠ 197 → T j (T 183 o) = T j (T 183 o) := fun _ _ => rfl
  have A183_ : ∀ j, j ≠ 197 → T j (T 201 (T 183 o)) = T j (T 201 (T 183 o)) := fun _ _ => rfl
  have hwI_ := hw
  have ltr_ : T 85 (T 192 o) < sz := hszH_ ▸ cw_lt hw.1 (wt_85 hT (wt_192 hT t_o)) (fun _ _ _ => ⟨_, rfl⟩)
  refine j_aload_n E 1 rfl dX9_wording_0 rfl (lv_at hl 0 rfl) ?_
  refine g_186 E hK hw fl_X9_33 t_o (v_0 186 o) rfl 4 rfl dX9_wording_1 (fun rr1_ => ?_)
  refine j_istore_n E 5 rfl [(1, .int (J (v_0 186 o))), (0, .ref o)] dX9_wording_4 rfl hl (by decide) rfl (fun ls hl => ?_)
  refine j_aload_n E 6 rfl dX9_wording_5 rfl (lv_at hl 1 rfl) ?_
  refine j_iconst E 7 rfl dX9_wording_6 ?_
  refine p_186 E hK hw fl_X9_33 t_o (rr (by decide)) 10 rfl dX9_wording_7 (fun H locs hw => ?_)
  have hw : WK D cy T (upV v_0 186 (upB (v_0 186) o 0)) A0 s.heap H locs := hw
  refine j_aload_n E 11 rfl dX9_wording_10 rfl (lv_at hl 1 rfl) ?_
  refine j_iconst E 12 rfl dX9_wording_11 ?_
  refine p_190 E hK hw fl_X9_46 t_o (rr (by decide)) 15 rfl dX9_wording_12 (fun H locs hw => ?_)
  have hw : WK D cy T (upV (upV v_0 186 (upB (v_0 186) o 0)) 190 (upB (v_0 190) o 0)) A0 s.heap H locs := hw
  refine j_aload_n E 16 rfl dX9_wording_15 rfl (lv_at hl 1 rfl) ?_
  refine j_iconst E 17 rfl dX9_wording_16 ?_
  refine p_191 E hK hw fl_X9_49 t_o (rr (by decide)) 20 rfl dX9_wording_17 (fun H locs hw => ?_)
  have hw : WK D cy T (upV (upV (upV v_0 186 (upB (v_0 186) o 0)) 190 (upB (v_0 190) o 0)) 191 (upB (v_0 191) o ((-1)))) A0 s.heap H locs := hw
  refine j_aload_n E 21 rfl dX9_wording_20 rfl (lv_at hl 1 rfl) ?_
  refine g_182 E hK hw fl_X9_19 t_o 24 rfl dX9_wording_21 ?_
  refine kV_i E (c_Jx4a65c_size_8abf5 l D cy T (upV (upV (upV v_0 186 (upB (v_0 186) o 0)) 190 (upB (v_0 190) o 0)) 191 (upB (v_0 191) o ((-1)))) (T 182 o)  (wt_182 hT t_o)  ) mt_Jx4a65c_size_8abf5 ml_X9_80 hK hw (cw_rc10 hK hw.1 (wt_182 hT t_o)) hA ⟨Nat.le_of_ble_eq_true rfl, Nat.le_of_ble_eq_true rfl⟩ ⟨Nat.le_of_ble_eq_true rfl, Nat.le_of_ble_eq_true rfl⟩ (As := []) (rest := []) rfl rfl hl.1 (Nat.le_of_ble_eq_true rfl) 27 rfl dX9_wording_24 (fun zz5_ v_5 H locs rr5_ hq5_ hw => ?_)
  obtain ⟨ev5_, hh5_⟩ := hq5_
  rw [ev5_] at hw; clear ev5_
  replace hh5_ : zz5_ = ((v_0 202) ((T 182 o))) ∧ 0 ≤ zz5_ := hh5_
  refine j_bipush E 29 rfl dX9_wording_27 (by decide) ?_
  refine j_icmp_lt E 32 34 rfl rr5_ (rr (by decide)) dX9_wording_29 (by decide) (fun cc6_ => ?_) (fun cc6_ => ?_)
  · refine j_aload_n E 35 rfl dX9_wording_34 rfl (lv_at hl 1 rfl) ?_
    refine g_192 E hK hw fl_X9_55 t_o 38 rfl dX9_wording_35 ?_
    refine j_aload_n E 39 rfl dX9_wording_38 rfl (lv_at hl 1 rfl) ?_
    refine g_185 E hK hw fl_X9_29 t_o 42 rfl dX9_wording_39 ?_
    have ln7_ := wl_185 hT t_o
    refine j_iload_n E 43 rfl dX9_wording_42 rfl (lv_at hl 0 rfl) ?_
    refine zV_i E (c_X3_read l D cy T (upV (upV (upV v_0 186 (upB (v_0 186) o 0)) 190 (upB (v_0 190) o 0)) 191 (upB (v_0 191) o ((-1)))) κ (T 192 o) (T 185 o) (v_0 186 o)  hO (wt_192 hT t_o) (wt_185 hT t_o) rr1_ (show 0 ≤ (v_0 186 o) ∧ (v_0 186 o) ≤ (T 1 (T 185 o) : Int) ∧ (T 1 (T 185 o) : Int) ≤ 400 from by omega)) mt_X3_read ml_X9_146 hK hZ hAc hw (cw_rc4 hK hw.1 (wt_192 hT t_o)) hA ⟨Nat.le_of_ble_eq_true rfl, Nat.le_of_ble_eq_true rfl⟩ ⟨Nat.le_of_ble_eq_true rfl, Nat.le_of_ble_eq_true rfl⟩ (As := [.ref (T 185 o), .int (J (v_0 186 o))]) (rest := []) rfl rfl hl.1 (Nat.le_of_ble_eq_true rfl) 46 rfl dX9_wording_43 (fun zz8_ v_8 H locs rr8_ hq8_ hw => ?_)
    obtain ⟨y80_8, y81_8, y83_8, y84_8, y86_8, y123_8, y124_8, y300_8, ev8_, hh8_⟩ := hq8_
    rw [ev8_] at hw; clear ev8_
    obtain ⟨hh8_, kf8_⟩ := hh8_
    have kd9_ : KdA_ T sz [85, 120, 121, 122] (v_0 300) (y300_8) := KdA_tr KdA_rf (KdA_kc kf8_ (by decide) (fun b_ h1_ h2_ => ((C20_ hC_ t_o (by decide)) b_ h1_ h2_).2))
    replace hh8_ : (0 ≤ (y86_8 ((T 192 o))) ∧ (y86_8 ((T 192 o))) ≤ 400) ∧ (0 ≤ (y123_8 (T 82 (T 192 o))) ∧ (y123_8 (T 82 (T 192 o))) ≤ 400) ∧ ∃ K_ V_ P_ Q_ : Int → Int, Strm_ (gC_ (v_0 303) (T 185 o)) (v_0 186 o) K_ V_ P_ Q_ ∧ ((zz8_ = 1 ∧ (y80_8 ((T 192 o))) = 0 ∧ (y81_8 ((T 192 o))) = -1 ∧ RK_ (y300_8) (T 120 (T 82 (T 192 o))) (T 121 (T 82 (T 192 o))) ((y123_8 (T 82 (T 192 o)))) K_ V_ ∧ ∃ (jn_ : Int) (s1_ s2_ s3_ : List Int), 0 ≤ jn_ ∧ Ra_ K_ V_ 9 jn_ [s3_, s2_, s1_] ∧ lL_ (gC_ (y300_8) (T 85 (T 192 o))) 0 ((y86_8 ((T 192 o)))) = s1_ ++ (wh_ s2_ ++ ul_ s3_) ∧ K_ jn_ = 1) ∨ (zz8_ = 0 ∧ (1 ≤ (y80_8 ((T 192 o))) ∧ (y80_8 ((T 192 o))) ≤ 3) ∧ ∃ jn_ : Int, (y81_8 ((T 192 o))) = P_ jn_ ∧ Rf_ K_ V_ ((y80_8 ((T 192 o)))) jn_)) := hh8_
    obtain ⟨rc_, cn_, K_, V_, P_, Q_, sm_, rd_⟩ := hh8_
    have yr_ := rc_
    refine j_if_ne E 49 73 rfl rr8_ dX9_wording_46 (by decide) (fun cc10_ => ?_) (fun cc10_ => ?_)
    · rcases rd_ with ⟨q1_, fk_, fp_, rk_, jn_, a1_, a2_, a3_, j0_, ra_, ll_, kj_⟩ | ⟨q1_, q2_⟩
      rotate_left
      · exact absurd q1_ (by omega)
      have cj_ := rk_cj rk_ j0_ ra_ kj_
      refine j_aload_n E 74 rfl dX9_wording_73 rfl (lv_at hl 1 rfl) ?_
      refine g_182 E hK hw fl_X9_19 t_o 77 rfl dX9_wording_74 ?_
      have hw0_ := hw
      refine n_obj8 E hK hw hA cl_X9_152 (Nat.le_of_ble_eq_true rfl) (Nat.le_of_ble_eq_true rfl) 80 rfl dX9_wording_77 (fun q11_ T11_ H hge11_ hx11_ ho11_ tq11_ hw => ?_)
      have fq11_ : s.heap.size ≤ q11_ := Nat.le_trans hw0_.2.2.1 hge11_
      have fz_ : sz ≤ q11_ := by have := fq11_; omega
      have hw : WK D cy T11_ (upV (upV (upV (upV (upV (upV (upV (upV (upV (upV (upV (upV v_0 186 (upB (v_0 186) o 0)) 190 (upB (v_0 190) o 0)) 191 (upB (v_0 191) o ((-1)))) 80 y80_8) 81 y81_8) 83 y83_8) 84 y84_8) 86 y86_8) 123 y123_8) 124 y124_8) 300 y300_8) 160 (upB (v_0 160) q11_ 0)) A0 s.heap H locs := hw
      have hT11_ : WT T11_ := hw.1.2.1
      have hO11_ : ∀ x, ow T11_ x → κ 2 2 ≤ x := fun x h => hAc x (hw.2.1 x h)
      have hoT_ : OW T T11_ s.heap.size := OW.tr hw0_.2.2.1 hoT_ ho11_
      have hC_ : ∀ b, b < sz → T 0 b ≠ 10 → T 0 b ≠ 24 → T 0 b ≠ 26 → b ≠ o → ∀ j, j ≠ 197 → T11_ j b = T j b := fun b_ h1_ h2_ h3_ h4_ h5_ j_ h6_ => (hx11_ b_ (by have := hw0_.2.2.1; have := hge11_; omega) j_).trans (hC_ b_ h1_ h2_ h3_ h4_ h5_ j_ h6_)
      have B180n_ : ∀ j_, j_ ≠ 197 → T11_ j_ (T 180 o) = T j_ (T 180 o) := fun j_ hj_ => (hx11_ (T 180 o) (Nat.ne_of_lt (Nat.lt_of_lt_of_le (cw_lt hw0_.1 ((B180_ 0 (by decide)).trans tl180_) (fun _ _ _ => ⟨_, rfl⟩)) hge11_)) j_).trans (B180_ j_ hj_)
      have A180n_ : ∀ j_, j_ ≠ 197 → T11_ j_ (T 201 (T 180 o)) = T j_ (T 201 (T 180 o)) := fun j_ hj_ => (hx11_ (T 201 (T 180 o)) (Nat.ne_of_lt (Nat.lt_of_lt_of_le (cw_ltq hw0_.1 (by rw [A180_ 0 (by decide)]; exact tx180_)) hge11_)) j_).trans (A180_ j_ hj_)
      have B181n_ : ∀ j_, j_ ≠ 197 → T11_ j_ (T 181 o) = T j_ (T 181 o) := fun j_ hj_ => (hx11_ (T 181 o) (Nat.ne_of_lt (Nat.lt_of_lt_of_le (cw_lt hw0_.1 ((B181_ 0 (by decide)).trans tl181_) (fun _ _ _ => ⟨_, rfl⟩)) hge11_)) j_).trans (B181_ j_ hj_)
      have A181n_ : ∀ j_, j_ ≠ 197 → T11_ j_ (T 201 (T 181 o)) = T j_ (T 201 (T 181 o)) := fun j_ hj_ => (hx11_ (T 201 (T 181 o)) (Nat.ne_of_lt (Nat.lt_of_lt_of_le (cw_ltq hw0_.1 (by rw [A181_ 0 (by decide)]; exact tx181_)) hge11_)) j_).trans (A181_ j_ hj_)
      have B182n_ : ∀ j_, j_ ≠ 197 → T11_ j_ (T 182 o) = T j_ (T 182 o) := fun j_ hj_ => (hx11_ (T 182 o) (Nat.ne_of_lt (Nat.lt_of_lt_of_le (cw_lt hw0_.1 ((B182_ 0 (by decide)).trans tl182_) (fun _ _ _ => ⟨_, rfl⟩)) hge11_)) j_).trans (B182_ j_ hj_)
      have A182n_ : ∀ j_, j_ ≠ 197 → T11_ j_ (T 201 (T 182 o)) = T j_ (T 201 (T 182 o)) := fun j_ hj_ => (hx11_ (T 201 (T 182 o)) (Nat.ne_of_lt (Nat.lt_of_lt_of_le (cw_ltq hw0_.1 (by rw [A182_ 0 (by decide)]; exact tx182_)) hge11_)) j_).trans (A182_ j_ hj_)
      have B183n_ : ∀ j_, j_ ≠ 197 → T11_ j_ (T 183 o) = T j_ (T 183 o) := fun j_ hj_ => (hx11_ (T 183 o) (Nat.ne_of_lt (Nat.lt_of_lt_of_le (cw_lt hw0_.1 ((B183_ 0 (by decide)).trans tl183_) (fun _ _ _ => ⟨_, rfl⟩)) hge11_)) j_).trans (B183_ j_ hj_)
      have A183n_ : ∀ j_, j_ ≠ 197 → T11_ j_ (T 201 (T 183 o)) = T j_ (T 201 (T 183 o)) := fun j_ hj_ => (hx11_ (T 201 (T 183 o)) (Nat.ne_of_lt (Nat.lt_of_lt_of_le (cw_ltq hw0_.1 (by rw [A183_ 0 (by decide)]; exact tx183_)) hge11_)) j_).trans (A183_ j_ hj_)
      have B180_ := B180n_
      have A180_ := A180n_
      have B181_ := B181n_
      have A181_ := A181n_
      have B182_ := B182n_
      have A182_ := A182n_
      have B183_ := B183n_
      have A183_ := A183n_
      have u12_ : T11_ 0 o = 9 := (hx11_ o (Nat.ne_of_lt (Nat.lt_of_lt_of_le (cw_lt hw0_.1 t_o (fun _ _ _ => ⟨_, rfl⟩)) hge11_)) 0).trans t_o
      have u13_ : T11_ 0 (T 192 o) = 4 := (hx11_ (T 192 o) (Nat.ne_of_lt (Nat.lt_of_lt_of_le (cw_lt hw0_.1 (wt_192 hT t_o) (fun _ _ _ => ⟨_, rfl⟩)) hge11_)) 0).trans (wt_192 hT t_o)
      have u14_ : T11_ 0 (T 82 (T 192 o)) = 6 := (hx11_ (T 82 (T 192 o)) (Nat.ne_of_lt (Nat.lt_of_lt_of_le (cw_lt hw0_.1 (wt_82 hT (wt_192 hT t_o)) (fun _ _ _ => ⟨_, rfl⟩)) hge11_)) 0).trans (wt_82 hT (wt_192 hT t_o))
      have u15_ : T11_ 0 (T 182 o) = 10 := (hx11_ (T 182 o) (Nat.ne_of_lt (Nat.lt_of_lt_of_le (cw_lt hw0_.1 (wt_182 hT t_o) (fun _ _ _ => ⟨_, rfl⟩)) hge11_)) 0).trans (wt_182 hT t_o)
      have u16_ : T11_ 2 (T 182 o) = 8 := (hx11_ (T 182 o) (Nat.ne_of_lt (Nat.lt_of_lt_of_le (cw_lt hw0_.1 (wt_182 hT t_o) (fun _ _ _ => ⟨_, rfl⟩)) hge11_)) 2).trans (we_182 hT t_o)
      have u17_ : T11_ 180 o = T 180 o := (hx11_ o (Nat.ne_of_lt (Nat.lt_of_lt_of_le (cw_lt hw0_.1 t_o (fun _ _ _ => ⟨_, rfl⟩)) hge11_)) 180).trans rfl
      have u18_ : T11_ 181 o = T 181 o := (hx11_ o (Nat.ne_of_lt (Nat.lt_of_lt_of_le (cw_lt hw0_.1 t_o (fun _ _ _ => ⟨_, rfl⟩)) hge11_)) 181).trans rfl
      have u19_ : T11_ 182 o = T 182 o := (hx11_ o (Nat.ne_of_lt (Nat.lt_of_lt_of_le (cw_lt hw0_.1 t_o (fun _ _ _ => ⟨_, rfl⟩)) hge11_)) 182).trans rfl
      have u20_ : T11_ 183 o = T 183 o := (hx11_ o (Nat.ne_of_lt (Nat.lt_of_lt_of_le (cw_lt hw0_.1 t_o (fun _ _ _ => ⟨_, rfl⟩)) hge11_)) 183).trans rfl
      have u21_ : T11_ 185 o = T 185 o := (hx11_ o (Nat.ne_of_lt (Nat.lt_of_lt_of_le (cw_lt hw0_.1 t_o (fun _ _ _ => ⟨_, rfl⟩)) hge11_)) 185).trans rfl
      have u22_ : T11_ 192 o = T 192 o := (hx11_ o (Nat.ne_of_lt (Nat.lt_of_lt_of_le (cw_lt hw0_.1 t_o (fun _ _ _ => ⟨_, rfl⟩)) hge11_)) 192).trans rfl
      have u23_ : T11_ 82 (T 192 o) = T 82 (T 192 o) := (hx11_ (T 192 o) (Nat.ne_of_lt (Nat.lt_of_lt_of_le (cw_lt hw0_.1 (wt_192 hT t_o) (fun _ _ _ => ⟨_, rfl⟩)) hge11_)) 82).trans rfl
      have u24_ : T11_ 85 (T 192 o) = T 85 (T 192 o) := (hx11_ (T 192 o) (Nat.ne_of_lt (Nat.lt_of_lt_of_le (cw_lt hw0_.1 (wt_192 hT t_o) (fun _ _ _ => ⟨_, rfl⟩)) hge11_)) 85).trans rfl
      have u25_ : T11_ 120 (T 82 (T 192 o)) = T 120 (T 82 (T 192 o)) := (hx11_ (T 82 (T 192 o)) (Nat.ne_of_lt (Nat.lt_of_lt_of_le (cw_lt hw0_.1 (wt_82 hT (wt_192 hT t_o)) (fun _ _ _ => ⟨_, rfl⟩)) hge11_)) 120).trans rfl
      have u26_ : T11_ 121 (T 82 (T 192 o)) = T 121 (T 82 (T 192 o)) := (hx11_ (T 82 (T 192 o)) (Nat.ne_of_lt (Nat.lt_of_lt_of_le (cw_lt hw0_.1 (wt_82 hT (wt_192 hT t_o)) (fun _ _ _ => ⟨_, rfl⟩)) hge11_)) 121).trans rfl
      refine j_dup E 81 rfl dX9_wording_80 rfl ?_
      refine j_aload_n E 82 rfl dX9_wording_81 rfl (lv_at hl 1 rfl) ?_
      refine g_182 E hK hw fl_X9_19 u12_ 85 rfl dX9_wording_82 ?_
      refine kV_i E (c_Jx4a65c_size_8abf5 l D cy T11_ (upV (upV (upV (upV (upV (upV (upV (upV (upV (upV (upV (upV v_0 186 (upB (v_0 186) o 0)) 190 (upB (v_0 190) o 0)) 191 (upB (v_0 191) o ((-1)))) 80 y80_8) 81 y81_8) 83 y83_8) 84 y84_8) 86 y86_8) 123 y123_8) 124 y124_8) 300 y300_8) 160 (upB (v_0 160) q11_ 0)) (T11_ 182 o)  (wt_182 hT11_ u12_)  ) mt_Jx4a65c_size_8abf5 ml_X9_80 hK hw (cw_rc10 hK hw.1 (wt_182 hT11_ u12_)) hA ⟨Nat.le_of_ble_eq_true rfl, Nat.le_of_ble_eq_true rfl⟩ ⟨Nat.le_of_ble_eq_true rfl, Nat.le_of_ble_eq_true rfl⟩ (As := []) (rest := [.ref q11_, .ref q11_, .ref (T 182 o)]) rfl rfl hl.1 (Nat.le_of_ble_eq_true rfl) 88 rfl dX9_wording_85 (fun zz27_ v_27 H locs rr27_ hq27_ hw => ?_)
      obtain ⟨ev27_, hh27_⟩ := hq27_
      rw [ev27_] at hw; clear ev27_
      replace hh27_ : zz27_ = ((v_0 202) ((T11_ 182 o))) ∧ 0 ≤ zz27_ := hh27_
      have hs40_ : zz27_ ≤ 40 := by have h_ := hh27_.1; rw [u19_] at h_; omega
      have hzn_ : zz27_ = v_0 202 (T 182 o) := by have h_ := hh27_.1; rw [u19_] at h_; exact h_
      refine j_aload_n E 89 rfl dX9_wording_88 rfl (lv_at hl 1 rfl) ?_
      refine g_192 E hK hw fl_X9_55 u12_ 92 rfl dX9_wording_89 ?_
      have hw0_ := hw
      refine aV_n E (n_X3_copyOfTokens l D cy κ T11_ (upV (upV (upV (upV (upV (upV (upV (upV (upV (upV (upV (upV v_0 186 (upB (v_0 186) o 0)) 190 (upB (v_0 190) o 0)) 191 (upB (v_0 191) o ((-1)))) 80 y80_8) 81 y81_8) 83 y83_8) 84 y84_8) 86 y86_8) 123 y123_8) 124 y124_8) 300 y300_8) 160 (upB (v_0 160) q11_ 0)) (T11_ 192 o) H.size (300 * q11_ + 161) hO11_ (wt_192 hT11_ u12_)  (show 0 ≤ (y123_8 (T11_ 82 (T11_ 192 o))) ∧ (y123_8 (T11_ 82 (T11_ 192 o))) ≤ 400 from by rw [u22_, u23_]; omega) (show ∀ i_ : Int, 0 ≤ i_ → i_ < (y123_8 (T11_ 82 (T11_ 192 o))) → gC_ (y300_8) (T11_ 120 (T11_ 82 (T11_ 192 o))) i_ ≤ 312 from by rw [u22_, u23_, u25_]; exact fun i_ h1_ h2_ => by rw [(rk_.1 i_ h1_ h2_).1]; exact Strm_kb sm_ h1_)) mt_X3_copyOfTokens ml_X9_154 hK hZ hAc hw (cw_rc4 hK hw.1 (wt_192 hT11_ u12_)) hA ⟨(Nat.le_of_ble_eq_true rfl), (Nat.le_of_ble_eq_true rfl)⟩ ⟨(Nat.le_of_ble_eq_true rfl), (Nat.le_of_ble_eq_true rfl)⟩ (As := []) (rest := [.int (J zz27_), .ref q11_, .ref q11_, .ref (T 182 o)]) rfl rfl hl.1 (Nat.le_of_ble_eq_true rfl) 95 rfl dX9_wording_92 (fun xx28_ T28_ v_28 H locs hge28_ ho28_ hq28_ hw => ?_)
      obtain ⟨y300_28, ev28_, hh28_⟩ := hq28_
      rw [ev28_] at hw; clear ev28_
      obtain ⟨hh28_, kf28_⟩ := hh28_
      have kd29_ : KdA_ T sz [85, 120, 121, 122] (v_0 300) (y300_28) := KdA_tr kd9_ (KdA_ka kf28_ (by have := hw0_.2.2.1; omega) (by decide) (C20_ hC_ t_o (by decide)))
      obtain ⟨hx28_, tq28_, tl28_, tw28_, hs28_, yc28_, yo28_⟩ := hh28_
      have tatl_ := tl28_
      have tayc_ := yc28_
      have tayo_ := yo28_
      have tahs_ := hs28_
      have takf_ := kf28_
      rw [u22_, u23_] at tatl_ tayc_
      rw [u25_, u26_] at tayc_
      have f1_ : ∀ i_, y300_28 (pr (T 85 (T 192 o)) i_) = y300_8 (pr (T 85 (T 192 o)) i_) := fun i_ => takf_ _ (by have := ltr_; have := hw0_.2.2.1; omega) (((C20_ hC_ t_o (by decide)) _ ltr_ (wt_85 hT (wt_192 hT t_o))).1) (fun h_ => by cases h_) i_
      have hT28_ : WT T28_ := hw.1.2.1
      have hO28_ : ∀ x, ow T28_ x → κ 2 2 ≤ x := fun x h => hAc x (hw.2.1 x h)
      have hoT_ : OW T T28_ s.heap.size := OW.tr hw0_.2.2.1 hoT_ ho28_
      have hC_ : ∀ b, b < sz → T 0 b ≠ 10 → T 0 b ≠ 24 → T 0 b ≠ 26 → b ≠ o → ∀ j, j ≠ 197 → T28_ j b = T j b := fun b_ h1_ h2_ h3_ h4_ h5_ j_ h6_ => (hx28_ b_ (by have := hw0_.2.2.1; omega) j_).trans (hC_ b_ h1_ h2_ h3_ h4_ h5_ j_ h6_)
      have B180n_ : ∀ j_, j_ ≠ 197 → T28_ j_ (T 180 o) = T j_ (T 180 o) := fun j_ hj_ => (hx28_ (T 180 o) (cw_lt hw0_.1 ((B180_ 0 (by decide)).trans tl180_) (fun _ _ _ => ⟨_, rfl⟩)) j_).trans (B180_ j_ hj_)
      have A180n_ : ∀ j_, j_ ≠ 197 → T28_ j_ (T 201 (T 180 o)) = T j_ (T 201 (T 180 o)) := fun j_ hj_ => (hx28_ (T 201 (T 180 o)) (cw_ltq hw0_.1 (by rw [A180_ 0 (by decide)]; exact tx180_)) j_).trans (A180_ j_ hj_)
      have B181n_ : ∀ j_, j_ ≠ 197 → T28_ j_ (T 181 o) = T j_ (T 181 o) := fun j_ hj_ => (hx28_ (T 181 o) (cw_lt hw0_.1 ((B181_ 0 (by decide)).trans tl181_) (fun _ _ _ => ⟨_, rfl⟩)) j_).trans (B181_ j_ hj_)
      have A181n_ : ∀ j_, j_ ≠ 197 → T28_ j_ (T 201 (T 181 o)) = T j_ (T 201 (T 181 o)) := fun j_ hj_ => (hx28_ (T 201 (T 181 o)) (cw_ltq hw0_.1 (by rw [A181_ 0 (by decide)]; exact tx181_)) j_).trans (A181_ j_ hj_)
      have B182n_ : ∀ j_, j_ ≠ 197 → T28_ j_ (T 182 o) = T j_ (T 182 o) := fun j_ hj_ => (hx28_ (T 182 o) (cw_lt hw0_.1 ((B182_ 0 (by decide)).trans tl182_) (fun _ _ _ => ⟨_, rfl⟩)) j_).trans (B182_ j_ hj_)
      have A182n_ : ∀ j_, j_ ≠ 197 → T28_ j_ (T 201 (T 182 o)) = T j_ (T 201 (T 182 o)) := fun j_ hj_ => (hx28_ (T 201 (T 182 o)) (cw_ltq hw0_.1 (by rw [A182_ 0 (by decide)]; exact tx182_)) j_).trans (A182_ j_ hj_)
      have B183n_ : ∀ j_, j_ ≠ 197 → T28_ j_ (T 183 o) = T j_ (T 183 o) := fun j_ hj_ => (hx28_ (T 183 o) (cw_lt hw0_.1 ((B183_ 0 (by decide)).trans tl183_) (fun _ _ _ => ⟨_, rfl⟩)) j_).trans (B183_ j_ hj_)
      have A183n_ : ∀ j_, j_ ≠ 197 → T28_ j_ (T 201 (T 183 o)) = T j_ (T 201 (T 183 o)) := fun j_ hj_ => (hx28_ (T 201 (T 183 o)) (cw_ltq hw0_.1 (by rw [A183_ 0 (by decide)]; exact tx183_)) j_).trans (A183_ j_ hj_)
      have B180_ := B180n_
      have A180_ := A180n_
      have B181_ := B181n_
      have A181_ := A181n_
      have B182_ := B182n_
      have A182_ := A182n_
      have B183_ := B183n_
      have A183_ := A183n_
      have u30_ : T28_ 0 o = 9 := (hx28_ o (cw_lt hw0_.1 u12_ (fun _ _ _ => ⟨_, rfl⟩)) 0).trans u12_
      have u31_ : T28_ 0 (T 192 o) = 4 := (hx28_ (T 192 o) (cw_lt hw0_.1 u13_ (fun _ _ _ => ⟨_, rfl⟩)) 0).trans u13_
      have u32_ : T28_ 0 (T 82 (T 192 o)) = 6 := (hx28_ (T 82 (T 192 o)) (cw_lt hw0_.1 u14_ (fun _ _ _ => ⟨_, rfl⟩)) 0).trans u14_
      have u33_ : T28_ 0 (T 182 o) = 10 := (hx28_ (T 182 o) (cw_lt hw0_.1 u15_ (fun _ _ _ => ⟨_, rfl⟩)) 0).trans u15_
      have u34_ : T28_ 0 q11_ = 108 := (hx28_ q11_ (cw_lt hw0_.1 tq11_ (fun _ _ _ => ⟨_, rfl⟩)) 0).trans tq11_
      have u35_ : T28_ 2 (T 182 o) = 8 := (hx28_ (T 182 o) (cw_lt hw0_.1 u15_ (fun _ _ _ => ⟨_, rfl⟩)) 2).trans u16_
      have u36_ : T28_ 180 o = T 180 o := (hx28_ o (cw_lt hw0_.1 u12_ (fun _ _ _ => ⟨_, rfl⟩)) 180).trans u17_
      have u37_ : T28_ 181 o = T 181 o := (hx28_ o (cw_lt hw0_.1 u12_ (fun _ _ _ => ⟨_, rfl⟩)) 181).trans u18_
      have u38_ : T28_ 182 o = T 182 o := (hx28_ o (cw_lt hw0_.1 u12_ (fun _ _ _ => ⟨_, rfl⟩)) 182).trans u19_
      have u39_ : T28_ 183 o = T 183 o := (hx28_ o (cw_lt hw0_.1 u12_ (fun _ _ _ => ⟨_, rfl⟩)) 183).trans u20_
      have u40_ : T28_ 185 o = T 185 o := (hx28_ o (cw_lt hw0_.1 u12_ (fun _ _ _ => ⟨_, rfl⟩)) 185).trans u21_
      have u41_ : T28_ 192 o = T 192 o := (hx28_ o (cw_lt hw0_.1 u12_ (fun _ _ _ => ⟨_, rfl⟩)) 192).trans u22_
      have u42_ : T28_ 82 (T 192 o) = T 82 (T 192 o) := (hx28_ (T 192 o) (cw_lt hw0_.1 u13_ (fun _ _ _ => ⟨_, rfl⟩)) 82).trans u23_
      have u43_ : T28_ 85 (T 192 o) = T 85 (T 192 o) := (hx28_ (T 192 o) (cw_lt hw0_.1 u13_ (fun _ _ _ => ⟨_, rfl⟩)) 85).trans u24_
      have u44_ : T28_ 120 (T 82 (T 192 o)) = T 120 (T 82 (T 192 o)) := (hx28_ (T 82 (T 192 o)) (cw_lt hw0_.1 u14_ (fun _ _ _ => ⟨_, rfl⟩)) 120).trans u25_
      have u45_ : T28_ 121 (T 82 (T 192 o)) = T 121 (T 82 (T 192 o)) := (hx28_ (T 82 (T 192 o)) (cw_lt hw0_.1 u14_ (fun _ _ _ => ⟨_, rfl⟩)) 121).trans u26_
      have fx28_ : s.heap.size ≤ xx28_ := Nat.le_trans hw0_.2.2.1 hs28_
      refine j_aload_n E 96 rfl dX9_wording_95 rfl (lv_at hl 1 rfl) ?_
      refine g_192 E hK hw fl_X9_55 u30_ 99 rfl dX9_wording_96 ?_
      have hw0_ := hw
      refine aV_n E (n_X3_copyOfCode l D cy κ T28_ (upV (upV (upV (upV (upV (upV (upV (upV (upV (upV (upV (upV (upV v_0 186 (upB (v_0 186) o 0)) 190 (upB (v_0 190) o 0)) 191 (upB (v_0 191) o ((-1)))) 80 y80_8) 81 y81_8) 83 y83_8) 84 y84_8) 86 y86_8) 123 y123_8) 124 y124_8) 300 y300_8) 160 (upB (v_0 160) q11_ 0)) 300 y300_28) (T28_ 192 o) H.size (300 * q11_ + 162) hO28_ (wt_192 hT28_ u30_)  (show 0 ≤ (y86_8 ((T28_ 192 o))) ∧ (y86_8 ((T28_ 192 o))) ≤ 400 from by rw [u41_]; omega)) mt_X3_copyOfCode ml_X9_158 hK hZ hAc hw (cw_rc4 hK hw.1 (wt_192 hT28_ u30_)) hA ⟨(Nat.le_of_ble_eq_true rfl), (Nat.le_of_ble_eq_true rfl)⟩ ⟨(Nat.le_of_ble_eq_true rfl), (Nat.le_of_ble_eq_true rfl)⟩ (As := []) (rest := [.ref xx28_, .int (J zz27_), .ref q11_, .ref q11_, .ref (T 182 o)]) rfl rfl hl.1 (Nat.le_of_ble_eq_true rfl) 102 rfl dX9_wording_99 (fun xx46_ T46_ v_46 H locs hge46_ ho46_ hq46_ hw => ?_)
      obtain ⟨y300_46, ev46_, hh46_⟩ := hq46_
      rw [ev46_] at hw; clear ev46_
      obtain ⟨hh46_, kf46_⟩ := hh46_
      have kd47_ : KdA_ T sz [85, 120, 121, 122] (v_0 300) (y300_46) := KdA_tr kd29_ (KdA_ka kf46_ (by have := hw0_.2.2.1; omega) (by decide) (C20_ hC_ t_o (by decide)))
      obtain ⟨hx46_, tq46_, tl46_, tw46_, hs46_, yc46_, yo46_⟩ := hh46_
      have cbtl_ := tl46_
      have cbyc_ := yc46_
      have cbyo_ := yo46_
      have cbhs_ := hs46_
      have cbkf_ := kf46_
      rw [u41_] at cbtl_ cbyc_
      rw [u43_] at cbyc_
      have f2_ : ∀ i_, y300_46 (pr xx28_ i_) = y300_28 (pr xx28_ i_) := fun i_ => cbkf_ xx28_ (cw_lt hw0_.1 tq28_ (fun _ _ _ => ⟨_, rfl⟩)) tq28_ (fun h_ => by cases h_) i_
      have hT46_ : WT T46_ := hw.1.2.1
      have hO46_ : ∀ x, ow T46_ x → κ 2 2 ≤ x := fun x h => hAc x (hw.2.1 x h)
      have hoT_ : OW T T46_ s.heap.size := OW.tr hw0_.2.2.1 hoT_ ho46_
      have hC_ : ∀ b, b < sz → T 0 b ≠ 10 → T 0 b ≠ 24 → T 0 b ≠ 26 → b ≠ o → ∀ j, j ≠ 197 → T46_ j b = T j b := fun b_ h1_ h2_ h3_ h4_ h5_ j_ h6_ => (hx46_ b_ (by have := hw0_.2.2.1; omega) j_).trans (hC_ b_ h1_ h2_ h3_ h4_ h5_ j_ h6_)
      have B180n_ : ∀ j_, j_ ≠ 197 → T46_ j_ (T 180 o) = T j_ (T 180 o) := fun j_ hj_ => (hx46_ (T 180 o) (cw_lt hw0_.1 ((B180_ 0 (by decide)).trans tl180_) (fun _ _ _ => ⟨_, rfl⟩)) j_).trans (B180_ j_ hj_)
      have A180n_ : ∀ j_, j_ ≠ 197 → T46_ j_ (T 201 (T 180 o)) = T j_ (T 201 (T 180 o)) := fun j_ hj_ => (hx46_ (T 201 (T 180 o)) (cw_ltq hw0_.1 (by rw [A180_ 0 (by decide)]; exact tx180_)) j_).trans (A180_ j_ hj_)
      have B181n_ : ∀ j_, j_ ≠ 197 → T46_ j_ (T 181 o) = T j_ (T 181 o) := fun j_ hj_ => (hx46_ (T 181 o) (cw_lt hw0_.1 ((B181_ 0 (by decide)).trans tl181_) (fun _ _ _ => ⟨_, rfl⟩)) j_).trans (B181_ j_ hj_)
      have A181n_ : ∀ j_, j_ ≠ 197 → T46_ j_ (T 201 (T 181 o)) = T j_ (T 201 (T 181 o)) := fun j_ hj_ => (hx46_ (T 201 (T 181 o)) (cw_ltq hw0_.1 (by rw [A181_ 0 (by decide)]; exact tx181_)) j_).trans (A181_ j_ hj_)
      have B182n_ : ∀ j_, j_ ≠ 197 → T46_ j_ (T 182 o) = T j_ (T 182 o) := fun j_ hj_ => (hx46_ (T 182 o) (cw_lt hw0_.1 ((B182_ 0 (by decide)).trans tl182_) (fun _ _ _ => ⟨_, rfl⟩)) j_).trans (B182_ j_ hj_)
      have A182n_ : ∀ j_, j_ ≠ 197 → T46_ j_ (T 201 (T 182 o)) = T j_ (T 201 (T 182 o)) := fun j_ hj_ => (hx46_ (T 201 (T 182 o)) (cw_ltq hw0_.1 (by rw [A182_ 0 (by decide)]; exact tx182_)) j_).trans (A182_ j_ hj_)
      have B183n_ : ∀ j_, j_ ≠ 197 → T46_ j_ (T 183 o) = T j_ (T 183 o) := fun j_ hj_ => (hx46_ (T 183 o) (cw_lt hw0_.1 ((B183_ 0 (by decide)).trans tl183_) (fun _ _ _ => ⟨_, rfl⟩)) j_).trans (B183_ j_ hj_)
      have A183n_ : ∀ j_, j_ ≠ 197 → T46_ j_ (T 201 (T 183 o)) = T j_ (T 201 (T 183 o)) := fun j_ hj_ => (hx46_ (T 201 (T 183 o)) (cw_ltq hw0_.1 (by rw [A183_ 0 (by decide)]; exact tx183_)) j_).trans (A183_ j_ hj_)
      have B180_ := B180n_
      have A180_ := A180n_
      have B181_ := B181n_
      have A181_ := A181n_
      have B182_ := B182n_
      have A182_ := A182n_
      have B183_ := B183n_
      have A183_ := A183n_
      have u48_ : T46_ 0 o = 9 := (hx46_ o (cw_lt hw0_.1 u30_ (fun _ _ _ => ⟨_, rfl⟩)) 0).trans u30_
      have u49_ : T46_ 0 (T 192 o) = 4 := (hx46_ (T 192 o) (cw_lt hw0_.1 u31_ (fun _ _ _ => ⟨_, rfl⟩)) 0).trans u31_
      have u50_ : T46_ 0 (T 82 (T 192 o)) = 6 := (hx46_ (T 82 (T 192 o)) (cw_lt hw0_.1 u32_ (fun _ _ _ => ⟨_, rfl⟩)) 0).trans u32_
      have u51_ : T46_ 0 (T 182 o) = 10 := (hx46_ (T 182 o) (cw_lt hw0_.1 u33_ (fun _ _ _ => ⟨_, rfl⟩)) 0).trans u33_
      have u52_ : T46_ 0 q11_ = 108 := (hx46_ q11_ (cw_lt hw0_.1 u34_ (fun _ _ _ => ⟨_, rfl⟩)) 0).trans u34_
      have u53_ : T46_ 0 xx28_ = 20 := (hx46_ xx28_ (cw_lt hw0_.1 tq28_ (fun _ _ _ => ⟨_, rfl⟩)) 0).trans tq28_
      have u54_ : T46_ 1 xx28_ = ((y123_8) (T 82 (T 192 o))).toNat := (hx46_ xx28_ (cw_lt hw0_.1 tq28_ (fun _ _ _ => ⟨_, rfl⟩)) 1).trans tatl_
      have u55_ : T46_ 3 xx28_ = 300 * q11_ + 161 := (hx46_ xx28_ (cw_lt hw0_.1 tq28_ (fun _ _ _ => ⟨_, rfl⟩)) 3).trans tw28_
      have u56_ : T46_ 2 (T 182 o) = 8 := (hx46_ (T 182 o) (cw_lt hw0_.1 u33_ (fun _ _ _ => ⟨_, rfl⟩)) 2).trans u35_
      have u57_ : T46_ 180 o = T 180 o := (hx46_ o (cw_lt hw0_.1 u30_ (fun _ _ _ => ⟨_, rfl⟩)) 180).trans u36_
      have u58_ : T46_ 181 o = T 181 o := (hx46_ o (cw_lt hw0_.1 u30_ (fun _ _ _ => ⟨_, rfl⟩)) 181).trans u37_
      have u59_ : T46_ 182 o = T 182 o := (hx46_ o (cw_lt hw0_.1 u30_ (fun _ _ _ => ⟨_, rfl⟩)) 182).trans u38_
      have u60_ : T46_ 183 o = T 183 o := (hx46_ o (cw_lt hw0_.1 u30_ (fun _ _ _ => ⟨_, rfl⟩)) 183).trans u39_
      have u61_ : T46_ 185 o = T 185 o := (hx46_ o (cw_lt hw0_.1 u30_ (fun _ _ _ => ⟨_, rfl⟩)) 185).trans u40_
      have u62_ : T46_ 192 o = T 192 o := (hx46_ o (cw_lt hw0_.1 u30_ (fun _ _ _ => ⟨_, rfl⟩)) 192).trans u41_
      have u63_ : T46_ 82 (T 192 o) = T 82 (T 192 o) := (hx46_ (T 192 o) (cw_lt hw0_.1 u31_ (fun _ _ _ => ⟨_, rfl⟩)) 82).trans u42_
      have u64_ : T46_ 85 (T 192 o) = T 85 (T 192 o) := (hx46_ (T 192 o) (cw_lt hw0_.1 u31_ (fun _ _ _ => ⟨_, rfl⟩)) 85).trans u43_
      have u65_ : T46_ 120 (T 82 (T 192 o)) = T 120 (T 82 (T 192 o)) := (hx46_ (T 82 (T 192 o)) (cw_lt hw0_.1 u32_ (fun _ _ _ => ⟨_, rfl⟩)) 120).trans u44_
      have u66_ : T46_ 121 (T 82 (T 192 o)) = T 121 (T 82 (T 192 o)) := (hx46_ (T 82 (T 192 o)) (cw_lt hw0_.1 u32_ (fun _ _ _ => ⟨_, rfl⟩)) 121).trans u45_
      have fx46_ : s.heap.size ≤ xx46_ := Nat.le_trans hw0_.2.2.1 hs46_
      have hw0_ := hw
      refine aI_v E (n_X7_init l D cy κ T46_ (upV (upV (upV (upV (upV (upV (upV (upV (upV (upV (upV (upV (upV (upV v_0 186 (upB (v_0 186) o 0)) 190 (upB (v_0 190) o 0)) 191 (upB (v_0 191) o ((-1)))) 80 y80_8) 81 y81_8) 83 y83_8) 84 y84_8) 86 y86_8) 123 y123_8) 124 y124_8) 300 y300_8) 160 (upB (v_0 160) q11_ 0)) 300 y300_28) 300 y300_46) q11_ zz27_ xx28_ xx46_ H.size  hO46_ u52_ rr27_ u53_ tq46_ (show 0 ≤ zz27_ ∧ zz27_ ≤ 40 from by omega) u55_ tw46_) mi_X7_init ml_X9_161 hK hZ hAc hw hA ⟨(Nat.le_of_ble_eq_true rfl), (Nat.le_of_ble_eq_true rfl)⟩ ⟨(Nat.le_of_ble_eq_true rfl), (Nat.le_of_ble_eq_true rfl)⟩ (As := [.int (J zz27_), .ref xx28_, .ref xx46_]) (rest := [.ref q11_, .ref (T 182 o)]) rfl rfl hl.1 (Nat.le_of_ble_eq_true rfl) 105 rfl dX9_wording_102 (fun T67_ v_67 H locs hge67_ ho67_ hq67_ hw => ?_)
      obtain ⟨y160_67, y300_67, ev67_, hh67_⟩ := hq67_
      rw [ev67_] at hw; clear ev67_
      obtain ⟨hh67_, kf67_⟩ := hh67_
      have kd68_ : KdA_ T sz [85, 120, 121, 122] (v_0 300) (y300_67) := KdA_tr kd47_ (KdA_ka kf67_ (by have := hw0_.2.2.1; omega) (by decide) (C20_ hC_ t_o (by decide)))
      have f3_ : ∀ i_, y300_67 (pr xx28_ i_) = y300_46 (pr xx28_ i_) := fun i_ => kf67_ xx28_ (cw_lt hw0_.1 u53_ (fun _ _ _ => ⟨_, rfl⟩)) u53_ (fun h_ => by cases h_) i_
      have f4_ : ∀ i_, y300_67 (pr xx46_ i_) = y300_46 (pr xx46_ i_) := fun i_ => kf67_ xx46_ (cw_lt hw0_.1 tq46_ (fun _ _ _ => ⟨_, rfl⟩)) tq46_ (fun h_ => by cases h_) i_
      obtain ⟨hx67_, tq67_, wt67_, wc67_, wl67_, wd67_, wn67_⟩ := hh67_
      have hT67_ : WT T67_ := hw.1.2.1
      have hO67_ : ∀ x, ow T67_ x → κ 2 2 ≤ x := fun x h => hAc x (hw.2.1 x h)
      have hoT_ : OW T T67_ s.heap.size := OW.tr hw0_.2.2.1 hoT_ ho67_
      have hC_ : ∀ b, b < sz → T 0 b ≠ 10 → T 0 b ≠ 24 → T 0 b ≠ 26 → b ≠ o → ∀ j, j ≠ 197 → T67_ j b = T j b := fun b_ h1_ h2_ h3_ h4_ h5_ j_ h6_ => (hx67_ b_ (by have := hw0_.2.2.1; omega) (by have := fq11_; omega) j_).trans (hC_ b_ h1_ h2_ h3_ h4_ h5_ j_ h6_)
      have B180n_ : ∀ j_, j_ ≠ 197 → T67_ j_ (T 180 o) = T j_ (T 180 o) := fun j_ hj_ => (hx67_ (T 180 o) (cw_lt hw0_.1 ((B180_ 0 (by decide)).trans tl180_) (fun _ _ _ => ⟨_, rfl⟩)) (ty_ne ((B180_ 0 (by decide)).trans tl180_) u52_ (by decide)) j_).trans (B180_ j_ hj_)
      have A180n_ : ∀ j_, j_ ≠ 197 → T67_ j_ (T 201 (T 180 o)) = T j_ (T 201 (T 180 o)) := fun j_ hj_ => (hx67_ (T 201 (T 180 o)) (cw_ltq hw0_.1 (by rw [A180_ 0 (by decide)]; exact tx180_)) (ty_neq (by rw [A180_ 0 (by decide)]; exact tx180_) u52_ (by decide) (by decide)) j_).trans (A180_ j_ hj_)
      have B181n_ : ∀ j_, j_ ≠ 197 → T67_ j_ (T 181 o) = T j_ (T 181 o) := fun j_ hj_ => (hx67_ (T 181 o) (cw_lt hw0_.1 ((B181_ 0 (by decide)).trans tl181_) (fun _ _ _ => ⟨_, rfl⟩)) (ty_ne ((B181_ 0 (by decide)).trans tl181_) u52_ (by decide)) j_).trans (B181_ j_ hj_)
      have A181n_ : ∀ j_, j_ ≠ 197 → T67_ j_ (T 201 (T 181 o)) = T j_ (T 201 (T 181 o)) := fun j_ hj_ => (hx67_ (T 201 (T 181 o)) (cw_ltq hw0_.1 (by rw [A181_ 0 (by decide)]; exact tx181_)) (ty_neq (by rw [A181_ 0 (by decide)]; exact tx181_) u52_ (by decide) (by decide)) j_).trans (A181_ j_ hj_)
      have B182n_ : ∀ j_, j_ ≠ 197 → T67_ j_ (T 182 o) = T j_ (T 182 o) := fun j_ hj_ => (hx67_ (T 182 o) (cw_lt hw0_.1 ((B182_ 0 (by decide)).trans tl182_) (fun _ _ _ => ⟨_, rfl⟩)) (ty_ne ((B182_ 0 (by decide)).trans tl182_) u52_ (by decide)) j_).trans (B182_ j_ hj_)
      have A182n_ : ∀ j_, j_ ≠ 197 → T67_ j_ (T 201 (T 182 o)) = T j_ (T 201 (T 182 o)) := fun j_ hj_ => (hx67_ (T 201 (T 182 o)) (cw_ltq hw0_.1 (by rw [A182_ 0 (by decide)]; exact tx182_)) (ty_neq (by rw [A182_ 0 (by decide)]; exact tx182_) u52_ (by decide) (by decide)) j_).trans (A182_ j_ hj_)
      have B183n_ : ∀ j_, j_ ≠ 197 → T67_ j_ (T 183 o) = T j_ (T 183 o) := fun j_ hj_ => (hx67_ (T 183 o) (cw_lt hw0_.1 ((B183_ 0 (by decide)).trans tl183_) (fun _ _ _ => ⟨_, rfl⟩)) (ty_ne ((B183_ 0 (by decide)).trans tl183_) u52_ (by decide)) j_).trans (B183_ j_ hj_)
      have A183n_ : ∀ j_, j_ ≠ 197 → T67_ j_ (T 201 (T 183 o)) = T j_ (T 201 (T 183 o)) := fun j_ hj_ => (hx67_ (T 201 (T 183 o)) (cw_ltq hw0_.1 (by rw [A183_ 0 (by decide)]; exact tx183_)) (ty_neq (by rw [A183_ 0 (by decide)]; exact tx183_) u52_ (by decide) (by decide)) j_).trans (A183_ j_ hj_)
      have B180_ := B180n_
      have A180_ := A180n_
      have B181_ := B181n_
      have A181_ := A181n_
      have B182_ := B182n_
      have A182_ := A182n_
      have B183_ := B183n_
      have A183_ := A183n_
      have u69_ : T67_ 0 o = 9 := (hx67_ o (cw_lt hw0_.1 u48_ (fun _ _ _ => ⟨_, rfl⟩)) (ty_ne u48_ u52_ (by decide)) 0).trans u48_
      have u70_ : T67_ 0 (T 192 o) = 4 := (hx67_ (T 192 o) (cw_lt hw0_.1 u49_ (fun _ _ _ => ⟨_, rfl⟩)) (ty_ne u49_ u52_ (by decide)) 0).trans u49_
      have u71_ : T67_ 0 (T 82 (T 192 o)) = 6 := (hx67_ (T 82 (T 192 o)) (cw_lt hw0_.1 u50_ (fun _ _ _ => ⟨_, rfl⟩)) (ty_ne u50_ u52_ (by decide)) 0).trans u50_
      have u72_ : T67_ 0 (T 182 o) = 10 := (hx67_ (T 182 o) (cw_lt hw0_.1 u51_ (fun _ _ _ => ⟨_, rfl⟩)) (ty_ne u51_ u52_ (by decide)) 0).trans u51_
      have u73_ : T67_ 2 (T 182 o) = 8 := (hx67_ (T 182 o) (cw_lt hw0_.1 u51_ (fun _ _ _ => ⟨_, rfl⟩)) (ty_ne u51_ u52_ (by decide)) 2).trans u56_
      have u74_ : T67_ 180 o = T 180 o := (hx67_ o (cw_lt hw0_.1 u48_ (fun _ _ _ => ⟨_, rfl⟩)) (ty_ne u48_ u52_ (by decide)) 180).trans u57_
      have u75_ : T67_ 181 o = T 181 o := (hx67_ o (cw_lt hw0_.1 u48_ (fun _ _ _ => ⟨_, rfl⟩)) (ty_ne u48_ u52_ (by decide)) 181).trans u58_
      have u76_ : T67_ 182 o = T 182 o := (hx67_ o (cw_lt hw0_.1 u48_ (fun _ _ _ => ⟨_, rfl⟩)) (ty_ne u48_ u52_ (by decide)) 182).trans u59_
      have u77_ : T67_ 183 o = T 183 o := (hx67_ o (cw_lt hw0_.1 u48_ (fun _ _ _ => ⟨_, rfl⟩)) (ty_ne u48_ u52_ (by decide)) 183).trans u60_
      have u78_ : T67_ 185 o = T 185 o := (hx67_ o (cw_lt hw0_.1 u48_ (fun _ _ _ => ⟨_, rfl⟩)) (ty_ne u48_ u52_ (by decide)) 185).trans u61_
      have u79_ : T67_ 192 o = T 192 o := (hx67_ o (cw_lt hw0_.1 u48_ (fun _ _ _ => ⟨_, rfl⟩)) (ty_ne u48_ u52_ (by decide)) 192).trans u62_
      have u80_ : T67_ 82 (T 192 o) = T 82 (T 192 o) := (hx67_ (T 192 o) (cw_lt hw0_.1 u49_ (fun _ _ _ => ⟨_, rfl⟩)) (ty_ne u49_ u52_ (by decide)) 82).trans u63_
      have u81_ : T67_ 85 (T 192 o) = T 85 (T 192 o) := (hx67_ (T 192 o) (cw_lt hw0_.1 u49_ (fun _ _ _ => ⟨_, rfl⟩)) (ty_ne u49_ u52_ (by decide)) 85).trans u64_
      have u82_ : T67_ 120 (T 82 (T 192 o)) = T 120 (T 82 (T 192 o)) := (hx67_ (T 82 (T 192 o)) (cw_lt hw0_.1 u50_ (fun _ _ _ => ⟨_, rfl⟩)) (ty_ne u50_ u52_ (by decide)) 120).trans u65_
      have u83_ : T67_ 121 (T 82 (T 192 o)) = T 121 (T 82 (T 192 o)) := (hx67_ (T 82 (T 192 o)) (cw_lt hw0_.1 u50_ (fun _ _ _ => ⟨_, rfl⟩)) (ty_ne u50_ u52_ (by decide)) 121).trans u66_
      have hw160_ : y160_67 = upB (upB (v_0 160) q11_ 0) q11_ zz27_ := wn67_
      have wq0_ : Wq_ T67_ (y300_67) (y160_67) q11_ zz27_ jn_ K_ V_ a1_ a2_ a3_ := wq_mk ll_ rk_ cj_ tayc_ cbyc_ f1_ f2_ f3_ f4_ ((hx67_ xx28_ (cw_lt hw0_.1 u53_ (fun _ _ _ => ⟨_, rfl⟩)) (ty_ne u53_ u52_ (by decide)) 1).trans u54_) ((hx67_ xx46_ (cw_lt hw0_.1 tq46_ (fun _ _ _ => ⟨_, rfl⟩)) (ty_ne tq46_ u52_ (by decide)) 1).trans cbtl_) (by omega) (by omega) wt67_ wc67_ wl67_ (by omega) wd67_ (by rw [hw160_]; exact upB_same _ _ _)
      have tw0_ := tq67_
      have hw0_ := hw
      refine aV_i E (n_Jx4a65c_add_9ea2d_n2 l D cy κ T67_ (upV (upV (upV (upV (upV (upV (upV (upV (upV (upV (upV (upV (upV (upV (upV (upV v_0 186 (upB (v_0 186) o 0)) 190 (upB (v_0 190) o 0)) 191 (upB (v_0 191) o ((-1)))) 80 y80_8) 81 y81_8) 83 y83_8) 84 y84_8) 86 y86_8) 123 y123_8) 124 y124_8) 300 y300_8) 160 (upB (v_0 160) q11_ 0)) 300 y300_28) 300 y300_46) 160 y160_67) 300 y300_67) (T 182 o) q11_ H.size  hO67_ u72_  (tq67_.trans u73_.symm) (fun x_ h_ => hp0 x_ ((hoT_ x_).2 h_)) (show ((v_0 202) ((T 182 o))) ≤ 200 from by omega)) mt_Jx4a65c_add_9ea2d ml_X9_89 hK hZ hAc hw (cw_rc10 hK hw.1 u72_) hA ⟨(Nat.le_of_ble_eq_true rfl), (Nat.le_of_ble_eq_true rfl)⟩ ⟨(Nat.le_of_ble_eq_true rfl), (Nat.le_of_ble_eq_true rfl)⟩ (As := [.ref q11_]) (rest := []) rfl rfl hl.1 (Nat.le_of_ble_eq_true rfl) 108 rfl dX9_wording_105 (fun zz84_ T84_ v_84 H locs rr84_ hge84_ ho84_ hq84_ hw => ?_)
      obtain ⟨y200_84, y202_84, ev84_, hh84_⟩ := hq84_
      rw [ev84_] at hw; clear ev84_
      obtain ⟨hy84_, hx84_, hz84_, hl84_, hel84_, hnw84_⟩ := hh84_
      have hy84_ : y202_84 = upB (v_0 202) (T 182 o) ((v_0 202) (T 182 o) + 1) := hy84_
      have hT84_ : WT T84_ := hw.1.2.1
      have hO84_ : ∀ x, ow T84_ x → κ 2 2 ≤ x := fun x h => hAc x (hw.2.1 x h)
      have hoT_ : OW T T84_ s.heap.size := OW.tr hw0_.2.2.1 hoT_ ho84_
      have hC_ : ∀ b, b < sz → T 0 b ≠ 10 → T 0 b ≠ 24 → T 0 b ≠ 26 → b ≠ o → ∀ j, j ≠ 197 → T84_ j b = T j b := fun b_ h1_ h2_ h3_ h4_ h5_ j_ h6_ => (hx84_ b_ (by have := hw0_.2.2.1; omega) (fun e_ => h2_ ((hC_ b_ h1_ h2_ h3_ h4_ h5_ 0 (by decide)).symm.trans (by rw [e_]; exact u72_))) (fun h_ => absurd ((hC_ b_ h1_ h2_ h3_ h4_ h5_ 0 (by decide)).symm.trans h_) h3_) j_).trans (hC_ b_ h1_ h2_ h3_ h4_ h5_ j_ h6_)
      have B180n_ : ∀ j_, j_ ≠ 197 → T84_ j_ (T 180 o) = T j_ (T 180 o) := fun j_ hj_ => (hx84_ (T 180 o) (cw_lt hw0_.1 ((B180_ 0 (by decide)).trans tl180_) (fun _ _ _ => ⟨_, rfl⟩)) ((ls_ne hT t_o).2.1) (fun h_ => absurd (((B180_ 0 (by decide)).trans tl180_).symm.trans h_) (by decide)) j_).trans (B180_ j_ hj_)
      have A180n_ : ∀ j_, j_ ≠ 197 → T84_ j_ (T 201 (T 180 o)) = T j_ (T 201 (T 180 o)) := fun j_ hj_ => (hx84_ (T 201 (T 180 o)) (cw_ltq hw0_.1 (by rw [A180_ 0 (by decide)]; exact tx180_)) (ty_neq (by rw [A180_ 0 (by decide)]; exact tx180_) u72_ (by decide) (by decide)) (fun h_ => by rw [B182_ 201 (by decide)]; exact own_ne hT tl180_ tl182_ ((ls_ne hT t_o).2.1) ((A180_ 0 (by decide)).symm.trans h_)) j_).trans (A180_ j_ hj_)
      have B181n_ : ∀ j_, j_ ≠ 197 → T84_ j_ (T 181 o) = T j_ (T 181 o) := fun j_ hj_ => (hx84_ (T 181 o) (cw_lt hw0_.1 ((B181_ 0 (by decide)).trans tl181_) (fun _ _ _ => ⟨_, rfl⟩)) ((ls_ne hT t_o).2.2.2.2.1) (fun h_ => absurd (((B181_ 0 (by decide)).trans tl181_).symm.trans h_) (by decide)) j_).trans (B181_ j_ hj_)
      have A181n_ : ∀ j_, j_ ≠ 197 → T84_ j_ (T 201 (T 181 o)) = T j_ (T 201 (T 181 o)) := fun j_ hj_ => (hx84_ (T 201 (T 181 o)) (cw_ltq hw0_.1 (by rw [A181_ 0 (by decide)]; exact tx181_)) (ty_neq (by rw [A181_ 0 (by decide)]; exact tx181_) u72_ (by decide) (by decide)) (fun h_ => by rw [B182_ 201 (by decide)]; exact own_ne hT tl181_ tl182_ ((ls_ne hT t_o).2.2.2.2.1) ((A181_ 0 (by decide)).symm.trans h_)) j_).trans (A181_ j_ hj_)
      have B183n_ : ∀ j_, j_ ≠ 197 → T84_ j_ (T 183 o) = T j_ (T 183 o) := fun j_ hj_ => (hx84_ (T 183 o) (cw_lt hw0_.1 ((B183_ 0 (by decide)).trans tl183_) (fun _ _ _ => ⟨_, rfl⟩)) ((ls_ne hT t_o).2.2.2.2.2.2.2.2.2.2.2) (fun h_ => absurd (((B183_ 0 (by decide)).trans tl183_).symm.trans h_) (by decide)) j_).trans (B183_ j_ hj_)
      have A183n_ : ∀ j_, j_ ≠ 197 → T84_ j_ (T 201 (T 183 o)) = T j_ (T 201 (T 183 o)) := fun j_ hj_ => (hx84_ (T 201 (T 183 o)) (cw_ltq hw0_.1 (by rw [A183_ 0 (by decide)]; exact tx183_)) (ty_neq (by rw [A183_ 0 (by decide)]; exact tx183_) u72_ (by decide) (by decide)) (fun h_ => by rw [B182_ 201 (by decide)]; exact own_ne hT tl183_ tl182_ ((ls_ne hT t_o).2.2.2.2.2.2.2.2.2.2.2) ((A183_ 0 (by decide)).symm.trans h_)) j_).trans (A183_ j_ hj_)
      have B180_ := B180n_
      have A180_ := A180n_
      have B181_ := B181n_
      have A181_ := A181n_
      have B183_ := B183n_
      have A183_ := A183n_
      have u85_ : T84_ 0 o = 9 := (hx84_ o (cw_lt hw0_.1 u69_ (fun _ _ _ => ⟨_, rfl⟩)) (ty_ne u69_ u72_ (by decide)) (fun h_ => absurd (u69_.symm.trans h_) (by decide)) 0).trans u69_
      have u86_ : T84_ 0 (T 192 o) = 4 := (hx84_ (T 192 o) (cw_lt hw0_.1 u70_ (fun _ _ _ => ⟨_, rfl⟩)) (ty_ne u70_ u72_ (by decide)) (fun h_ => absurd (u70_.symm.trans h_) (by decide)) 0).trans u70_
      have u87_ : T84_ 0 (T 82 (T 192 o)) = 6 := (hx84_ (T 82 (T 192 o)) (cw_lt hw0_.1 u71_ (fun _ _ _ => ⟨_, rfl⟩)) (ty_ne u71_ u72_ (by decide)) (fun h_ => absurd (u71_.symm.trans h_) (by decide)) 0).trans u71_
      have u88_ : T84_ 180 o = T 180 o := (hx84_ o (cw_lt hw0_.1 u69_ (fun _ _ _ => ⟨_, rfl⟩)) (ty_ne u69_ u72_ (by decide)) (fun h_ => absurd (u69_.symm.trans h_) (by decide)) 180).trans u74_
      have u89_ : T84_ 181 o = T 181 o := (hx84_ o (cw_lt hw0_.1 u69_ (fun _ _ _ => ⟨_, rfl⟩)) (ty_ne u69_ u72_ (by decide)) (fun h_ => absurd (u69_.symm.trans h_) (by decide)) 181).trans u75_
      have u90_ : T84_ 182 o = T 182 o := (hx84_ o (cw_lt hw0_.1 u69_ (fun _ _ _ => ⟨_, rfl⟩)) (ty_ne u69_ u72_ (by decide)) (fun h_ => absurd (u69_.symm.trans h_) (by decide)) 182).trans u76_
      have u91_ : T84_ 183 o = T 183 o := (hx84_ o (cw_lt hw0_.1 u69_ (fun _ _ _ => ⟨_, rfl⟩)) (ty_ne u69_ u72_ (by decide)) (fun h_ => absurd (u69_.symm.trans h_) (by decide)) 183).trans u77_
      have u92_ : T84_ 185 o = T 185 o := (hx84_ o (cw_lt hw0_.1 u69_ (fun _ _ _ => ⟨_, rfl⟩)) (ty_ne u69_ u72_ (by decide)) (fun h_ => absurd (u69_.symm.trans h_) (by decide)) 185).trans u78_
      have u93_ : T84_ 192 o = T 192 o := (hx84_ o (cw_lt hw0_.1 u69_ (fun _ _ _ => ⟨_, rfl⟩)) (ty_ne u69_ u72_ (by decide)) (fun h_ => absurd (u69_.symm.trans h_) (by decide)) 192).trans u79_
      have u94_ : T84_ 82 (T 192 o) = T 82 (T 192 o) := (hx84_ (T 192 o) (cw_lt hw0_.1 u70_ (fun _ _ _ => ⟨_, rfl⟩)) (ty_ne u70_ u72_ (by decide)) (fun h_ => absurd (u70_.symm.trans h_) (by decide)) 82).trans u80_
      have u95_ : T84_ 85 (T 192 o) = T 85 (T 192 o) := (hx84_ (T 192 o) (cw_lt hw0_.1 u70_ (fun _ _ _ => ⟨_, rfl⟩)) (ty_ne u70_ u72_ (by decide)) (fun h_ => absurd (u70_.symm.trans h_) (by decide)) 85).trans u81_
      have u96_ : T84_ 120 (T 82 (T 192 o)) = T 120 (T 82 (T 192 o)) := (hx84_ (T 82 (T 192 o)) (cw_lt hw0_.1 u71_ (fun _ _ _ => ⟨_, rfl⟩)) (ty_ne u71_ u72_ (by decide)) (fun h_ => absurd (u71_.symm.trans h_) (by decide)) 120).trans u82_
      have u97_ : T84_ 121 (T 82 (T 192 o)) = T 121 (T 82 (T 192 o)) := (hx84_ (T 82 (T 192 o)) (cw_lt hw0_.1 u71_ (fun _ _ _ => ⟨_, rfl⟩)) (ty_ne u71_ u72_ (by decide)) (fun h_ => absurd (u71_.symm.trans h_) (by decide)) 121).trans u83_
      have tz161_ : T67_ 0 (T67_ 161 q11_) = 20 := wt_161 hT67_ tw0_
      have tz162_ : T67_ 0 (T67_ 162 q11_) = 20 := wt_162 hT67_ tw0_
      have tz163_ : T67_ 0 (T67_ 163 q11_) = 20 := wt_163 hT67_ tw0_
      have wq_ : Wq_ T84_ (y300_67) (y160_67) q11_ (v_0 202 (T 182 o)) jn_ K_ V_ a1_ a2_ a3_ := by rw [← hzn_]; exact Wq_mv wq0_ (hx84_ q11_ (cw_lt hw0_.1 tw0_ (fun _ _ _ => ⟨_, rfl⟩)) (ty_ne tw0_ u72_ (by decide)) (fun h_ => absurd (tw0_.symm.trans h_) (by decide))) ((hx84_ (T67_ 161 q11_) (cw_lt hw0_.1 tz161_ (fun _ _ _ => ⟨_, rfl⟩)) (ty_ne tz161_ u72_ (by decide)) (fun h_ => absurd (tz161_.symm.trans h_) (by decide))) 1) ((hx84_ (T67_ 162 q11_) (cw_lt hw0_.1 tz162_ (fun _ _ _ => ⟨_, rfl⟩)) (ty_ne tz162_ u72_ (by decide)) (fun h_ => absurd (tz162_.symm.trans h_) (by decide))) 1) ((hx84_ (T67_ 163 q11_) (cw_lt hw0_.1 tz163_ (fun _ _ _ => ⟨_, rfl⟩)) (ty_ne tz163_ u72_ (by decide)) (fun h_ => absurd (tz163_.symm.trans h_) (by decide))) 1) rfl
      have tw_ : T84_ 0 q11_ = 8 := (hx84_ q11_ (cw_lt hw0_.1 tw0_ (fun _ _ _ => ⟨_, rfl⟩)) (ty_ne tw0_ u72_ (by decide)) (fun h_ => absurd (tw0_.symm.trans h_) (by decide))) 0 |>.trans tw0_
      refine j_pop E 109 rfl dX9_wording_108 rfl ?_
      refine j_aload_n E 110 rfl dX9_wording_109 rfl (lv_at hl 1 rfl) ?_
      refine g_182 E hK hw fl_X9_19 u85_ 113 rfl dX9_wording_110 ?_
      refine kV_i E (c_Jx4a65c_size_8abf5 l D cy T84_ (upV (upV (upV (upV (upV (upV (upV (upV (upV (upV (upV (upV (upV (upV (upV (upV (upV (upV v_0 186 (upB (v_0 186) o 0)) 190 (upB (v_0 190) o 0)) 191 (upB (v_0 191) o ((-1)))) 80 y80_8) 81 y81_8) 83 y83_8) 84 y84_8) 86 y86_8) 123 y123_8) 124 y124_8) 300 y300_8) 160 (upB (v_0 160) q11_ 0)) 300 y300_28) 300 y300_46) 160 y160_67) 300 y300_67) 200 y200_84) 202 y202_84) (T84_ 182 o)  (wt_182 hT84_ u85_)  ) mt_Jx4a65c_size_8abf5 ml_X9_80 hK hw (cw_rc10 hK hw.1 (wt_182 hT84_ u85_)) hA ⟨Nat.le_of_ble_eq_true rfl, Nat.le_of_ble_eq_true rfl⟩ ⟨Nat.le_of_ble_eq_true rfl, Nat.le_of_ble_eq_true rfl⟩ (As := []) (rest := []) rfl rfl hl.1 (Nat.le_of_ble_eq_true rfl) 116 rfl dX9_wording_113 (fun zz98_ v_98 H locs rr98_ hq98_ hw => ?_)
      obtain ⟨ev98_, hh98_⟩ := hq98_
      rw [ev98_] at hw; clear ev98_
      replace hh98_ : zz98_ = (y202_84 ((T84_ 182 o))) ∧ 0 ≤ zz98_ := hh98_
      have hs2_ := hh98_.1
      rw [u90_, hy84_, upB_same] at hs2_
      refine j_iconst E 117 rfl dX9_wording_116 ?_
      refine j_isub E 118 rfl dX9_wording_117 ?_
      exact hret 118 (zz98_ - 1) T84_ _ _ _ ls _ _ hw hoT_ (rr (by omega)) (⟨⟨u85_, ⟨u88_, u89_, u90_, u91_, u92_⟩, upB_same _ _ _, rfl, rfl, (by show y202_84 (T 180 o) = v_0 202 (T 180 o); rw [hy84_]; exact upB_ne ((ls_ne hT t_o).2.1)), (by show y202_84 (T 181 o) = v_0 202 (T 181 o); rw [hy84_]; exact upB_ne ((ls_ne hT t_o).2.2.2.2.1)), (by show y202_84 (T 183 o) = v_0 202 (T 183 o); rw [hy84_]; exact upB_ne ((ls_ne hT t_o).2.2.2.2.2.2.2.2.2.2.2)), hC_, (fun i_ => by rw [u88_, B180_ 201 (by decide), A180_ (1000 + i_) (by omega)]), (fun i_ => by rw [u89_, B181_ 201 (by decide), A181_ (1000 + i_) (by omega)]), (fun i_ => by rw [u91_, B183_ 201 (by decide), A183_ (1000 + i_) (by omega)]), rfl, rfl, rfl, rfl, rfl, rfl, rfl, show Wc_ _ _ _ _ _ _ _ _ _ from Or.inr ⟨by omega, K_, V_, P_, Q_, sm_, Or.inl ⟨by omega, (by show y202_84 (T 182 o) = v_0 202 (T 182 o) + 1; rw [hy84_]; exact upB_same _ _ _), upB_same _ _ _, upB_same _ _ _, jn_, a1_, a2_, a3_, j0_, ra_, q11_, fz_, fun i_ h_ => by rw [u90_]; exact (hel84_ i_ h_).trans (by rw [B182_ 201 (by decide), A182_ (1000 + i_) (by omega)]), by rw [u90_]; exact hnw84_, tw_, fun y_ h_ => (by show y160_67 y_ = v_0 160 y_; rw [hw160_]; exact (upB_ne h_).trans (upB_ne h_)), wq_⟩⟩⟩, kd68_⟩) (Nat.le_of_ble_eq_true rfl) (Nat.le_of_ble_eq_true rfl) dX9_wording_118
    · rcases rd_ with ⟨q1_, q2_⟩ | ⟨q1_, fk_, jn_, pl_, rf_⟩
      · exact absurd q1_ (by omega)
      refine j_aload_n E 50 rfl dX9_wording_49 rfl (lv_at hl 1 rfl) ?_
      refine j_aload_n E 51 rfl dX9_wording_50 rfl (lv_at hl 1 rfl) ?_
      refine g_192 E hK hw fl_X9_55 t_o 54 rfl dX9_wording_51 ?_
      refine g_80 E hK hw fl_X9_150 (wt_192 hT t_o) (y80_8 (T 192 o)) rfl 57 rfl dX9_wording_54 (fun rr99_ => ?_)
      refine p_190 E hK hw fl_X9_46 t_o rr99_ 60 rfl dX9_wording_57 (fun H locs hw => ?_)
      have hw : WK D cy T (upV (upV (upV (upV (upV (upV (upV (upV (upV (upV (upV (upV v_0 186 (upB (v_0 186) o 0)) 190 (upB (v_0 190) o 0)) 191 (upB (v_0 191) o ((-1)))) 80 y80_8) 81 y81_8) 83 y83_8) 84 y84_8) 86 y86_8) 123 y123_8) 124 y124_8) 300 y300_8) 190 (upB (upB (v_0 190) o 0) o (y80_8 (T 192 o)))) A0 s.heap H locs := hw
      refine j_aload_n E 61 rfl dX9_wording_60 rfl (lv_at hl 1 rfl) ?_
      refine j_aload_n E 62 rfl dX9_wording_61 rfl (lv_at hl 1 rfl) ?_
      refine g_192 E hK hw fl_X9_55 t_o 65 rfl dX9_wording_62 ?_
      refine g_81 E hK hw fl_X9_151 (wt_192 hT t_o) (y81_8 (T 192 o)) rfl 68 rfl dX9_wording_65 (fun rr101_ => ?_)
      refine p_191 E hK hw fl_X9_49 t_o rr101_ 71 rfl dX9_wording_68 (fun H locs hw => ?_)
      have hw : WK D cy T (upV (upV (upV (upV (upV (upV (upV (upV (upV (upV (upV (upV (upV v_0 186 (upB (v_0 186) o 0)) 190 (upB (v_0 190) o 0)) 191 (upB (v_0 191) o ((-1)))) 80 y80_8) 81 y81_8) 83 y83_8) 84 y84_8) 86 y86_8) 123 y123_8) 124 y124_8) 300 y300_8) 190 (upB (upB (v_0 190) o 0) o (y80_8 (T 192 o)))) 191 (upB (upB (v_0 191) o ((-1))) o (y81_8 (T 192 o)))) A0 s.heap H locs := hw
      refine j_iconst E 72 rfl dX9_wording_71 ?_
      exact hret 72 ((-1)) T _ _ _ ls _ _ hw hoT_ (rr (by decide)) (⟨⟨t_o, ⟨rfl, rfl, rfl, rfl, rfl⟩, upB_same _ _ _, rfl, rfl, rfl, rfl, rfl, hC_, (fun _ => rfl), (fun _ => rfl), (fun _ => rfl), rfl, rfl, rfl, rfl, rfl, rfl, rfl, show Wc_ _ _ _ _ _ _ _ _ _ from Or.inr ⟨by omega, K_, V_, P_, Q_, sm_, Or.inr ⟨rfl, rfl, le13_ (upB_same _ _ _) fk_, ⟨jn_, (upB_same _ _ _).trans pl_, rf_e (upB_same _ _ _) rf_⟩, fun _ => rfl, rfl⟩⟩⟩, kd9_⟩) (Nat.le_of_ble_eq_true rfl) (Nat.le_of_ble_eq_true rfl) dX9_wording_72
  · refine j_iconst E 33 rfl dX9_wording_32 ?_
    exact hret 33 ((-1)) T _ _ _ ls _ _ hw hoT_ (rr (by decide)) (⟨⟨t_o, ⟨rfl, rfl, rfl, rfl, rfl⟩, upB_same _ _ _, rfl, rfl, rfl, rfl, rfl, hC_, (fun _ => rfl), (fun _ => rfl), (fun _ => rfl), rfl, rfl, rfl, rfl, rfl, rfl, rfl, show Wc_ _ _ _ _ _ _ _ _ _ from Or.inl ⟨by omega, rfl, upB_same _ _ _, upB_same _ _ _, rfl, fun _ => rfl, rfl⟩⟩, KdA_rf⟩) (Nat.le_of_ble_eq_true rfl) (Nat.le_of_ble_eq_true rfl) dX9_wording_33
