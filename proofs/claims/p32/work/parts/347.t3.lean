theorem ls_ne {T : Nat → Nat → Nat} (h : WT T) {o : Nat} (ho : T 0 o = 9) : T 180 o ≠ T 181 o ∧ T 180 o ≠ T 182 o ∧ T 180 o ≠ T 183 o ∧ T 181 o ≠ T 180 o ∧ T 181 o ≠ T 182 o ∧ T 181 o ≠ T 183 o ∧ T 182 o ≠ T 180 o ∧ T 182 o ≠ T 181 o ∧ T 182 o ≠ T 183 o ∧ T 183 o ≠ T 180 o ∧ T 183 o ≠ T 181 o ∧ T 183 o ≠ T 182 o := ⟨fun e => (by have q1 := we_180 h ho; have q2 := we_181 h ho; rw [e, q2] at q1; cases q1), fun e => (by have q1 := we_180 h ho; have q2 := we_182 h ho; rw [e, q2] at q1; cases q1), fun e => (by have q1 := we_180 h ho; have q2 := we_183 h ho; rw [e, q2] at q1; cases q1), fun e => (by have q1 := we_181 h ho; have q2 := we_180 h ho; rw [e, q2] at q1; cases q1), fun e => (by have q1 := we_181 h ho; have q2 := we_182 h ho; rw [e, q2] at q1; cases q1), fun e => (by have q1 := we_181 h ho; have q2 := we_183 h ho; rw [e, q2] at q1; cases q1), fun e => (by have q1 := we_182 h ho; have q2 := we_180 h ho; rw [e, q2] at q1; cases q1), fun e => (by have q1 := we_182 h ho; have q2 := we_181 h ho; rw [e, q2] at q1; cases q1), fun e => (by have q1 := we_182 h ho; have q2 := we_183 h ho; rw [e, q2] at q1; cases q1), fun e => (by have q1 := we_183 h ho; have q2 := we_180 h ho; rw [e, q2] at q1; cases q1), fun e => (by have q1 := we_183 h ho; have q2 := we_181 h ho; rw [e, q2] at q1; cases q1), fun e => (by have q1 := we_183 h ho; have q2 := we_182 h ho; rw [e, q2] at q1; cases q1)⟩
theorem le13_ {a b : Int} (e : a = b) (h : 1 ≤ b ∧ b ≤ 3) : 1 ≤ a ∧ a ≤ 3 := by rw [e]; exact h
theorem rf_e {K V : Int → Int} {k k2 j : Int} (e : k2 = k) (h : Rf_ K V k j) : Rf_ K V k2 j := by rw [e]; exact h
theorem ty_neq {T : Nat → Nat → Nat} {a b t : Nat} (h1 : T 0 b = 24 ∨ T 0 b = 26) (h2 : T 0 a = t) (h3 : t ≠ 24) (h4 : t ≠ 26) : b ≠ a := fun e => by
  rw [e, h2] at h1
  exact h1.elim h3 h4
theorem fr_of {D : va_G} {cy : Nat → ClassId} {T : Nat → Nat → Nat} {v : Nat → Nat → Int} {H : Heap} {L q : Nat} (hw : WC D cy T v H) (hL : T 0 L = 10) (hq : H.size ≤ q) : ∀ i_ : Nat, (i_ : Int) < v 202 L → ∀ y_ : Nat, T (1000 + i_) (T 201 L) = y_ + 1 → y_ ≠ q := by
  intro i_ h_ y_ e_
  obtain ⟨x_, hx_, tx_⟩ := (hw.2.2.1 L hL).2.2 i_ h_
  rw [dcd_i e_] at hx_
  have e2_ := Option.some.inj hx_
  have lt_ := cw_lte hw tx_ (wt10 hw.2.1 hL).2.2
  omega
/-- a wording that was made: its code, its tokens, how far others are -/
def Wq_ (U : Nat → Nat → Nat) (y num : Nat → Int) (q : Nat) (w cnt : Int) (K V : Int → Int) (s1 s2 s3 : List Int) : Prop := lL_ (gC_ y (U 162 q)) 0 (U 1 (U 162 q) : Int) = s1 ++ (wh_ s2 ++ ul_ s3) ∧ (U 1 (U 161 q) : Int) = cnt ∧ (∀ i, 0 ≤ i → i < cnt → gC_ y (U 161 q) i = tc_ (K i) (V i)) ∧ (U 1 (U 163 q) : Int) = w ∧ (∀ j, 0 ≤ j → j < w → gC_ y (U 163 q) j = -1) ∧ num q = w
theorem Wq_mv {U U2 : Nat → Nat → Nat} {y num num2 : Nat → Int} {q : Nat} {w cnt : Int} {K V : Int → Int} {s1 s2 s3 : List Int} (h : Wq_ U y num q w cnt K V s1 s2 s3) (e0 : ∀ k, U2 k q = U k q) (e1 : U2 1 (U 161 q) = U 1 (U 161 q)) (e2 : U2 1 (U 162 q) = U 1 (U 162 q)) (e3 : U2 1 (U 163 q) = U 1 (U 163 q)) (en : num2 q = num q) : Wq_ U2 y num2 q w cnt K V s1 s2 s3 := by
  unfold Wq_
  rw [e0 161, e0 162, e0 163, e1, e2, e3, en]
  exact h
theorem wq_mk {U : Nat → Nat → Nat} {yr yt yc yi num : Nat → Int} {xt xc q rc ka va : Nat} {w cnt jn cc : Int} {K V : Int → Int} {s1 s2 s3 : List Int} (ll : lL_ (gC_ yr rc) 0 cc = s1 ++ (wh_ s2 ++ ul_ s3)) (rk : RK_ yr ka va cnt K V) (ej : cnt = jn) (ct : ∀ i : Int, 0 ≤ i → i < cnt → gC_ yt xt i = tc_ (gC_ yr ka i) (gC_ yr va i)) (cb : ∀ i : Nat, (i : Int) < cc → yc (pr xc i) = yt (pr rc i)) (f1 : ∀ i, yt (pr rc i) = yr (pr rc i)) (f2 : ∀ i, yc (pr xt i) = yt (pr xt i)) (f3 : ∀ i, yi (pr xt i) = yc (pr xt i)) (f4 : ∀ i, yi (pr xc i) = yc (pr xc i)) (lt : U 1 xt = cnt.toNat) (lc : U 1 xc = cc.toNat) (h0 : 0 ≤ cnt) (h1 : 0 ≤ cc) (et : U 161 q = xt) (ec : U 162 q = xc) (el : U 1 (U 163 q) = w.toNat) (hw0 : 0 ≤ w) (ed : ∀ j, 0 ≤ j → j < w → gC_ yi (U 163 q) j = -1) (en : num q = w) : Wq_ U yi num q w jn K V s1 s2 s3 := by
  subst ej
  refine ⟨?_, ?_, ?_, ?_, ed, en⟩
  · rw [ec, lc, Int.toNat_of_nonneg h1, ← ll]
    exact lL_cg (fun i a b => by
      show yi (pr xc i.toNat) = yr (pr rc i.toNat)
      rw [f4, cb i.toNat (by omega), f1])
  · rw [et, lt]
    omega
  · intro i a b
    rw [et]
    have q1 := ct i a b
    rw [(rk.1 i a b).1, (rk.1 i a b).2.1] at q1
    show yi (pr xt i.toNat) = _
    rw [f3, f2]
    exact q1
  · rw [el]
    omega
def Wc_ (g : Int → Int) (nn s0 s2 z k2 p2 : Int) (N : Prop) (A : (Int → Int) → (Int → Int) → Int → List Int → List Int → List Int → Prop) : Prop := (32 ≤ s0 ∧ z = -1 ∧ k2 = 0 ∧ p2 = -1 ∧ s2 = s0 ∧ N) ∨ (s0 < 32 ∧ ∃ K V P Q : Int → Int, Strm_ g nn K V P Q ∧ ((z = s0 ∧ s2 = s0 + 1 ∧ k2 = 0 ∧ p2 = -1 ∧ ∃ (jn : Int) (a1 a2 a3 : List Int), 0 ≤ jn ∧ Ra_ K V 9 jn [a3, a2, a1] ∧ A K V jn a1 a2 a3) ∨ (z = -1 ∧ s2 = s0 ∧ (1 ≤ k2 ∧ k2 ≤ 3) ∧ (∃ jn : Int, p2 = P jn ∧ Rf_ K V k2 jn) ∧ N)))
theorem rk_cj {y : Nat → Int} {ka va : Nat} {cnt j : Int} {K V : Int → Int} {sg : List (List Int)} (h : RK_ y ka va cnt K V) (h0 : 0 ≤ j) (hr : Ra_ K V 9 j sg) (hk : K j = 1) : cnt = j := by
  have q := rd_pas hr
  rcases Int.lt_trichotomy cnt j with e | e | e
  · exact absurd (h.2.1 cnt (Int.le_refl _)) (q cnt h.2.2.1 e).1
  · exact e
  · exact absurd hk (h.1 j h0 e).2.2
/-- old wordings after a change that leaves them as they are -/
theorem wd_ho {D : va_G} {cy : Nat → ClassId} {T T2 : Nat → Nat → Nat} {v : Nat → Nat → Int} {H : Heap} {x sz : Nat} {ks : List Nat} {y2 : Nat → Int} (hw : WC D cy T v H) (hx : T 0 x = 9) (hsz : H.size = sz) (hC : ∀ b, b < sz → T 0 b ≠ 10 → T 0 b ≠ 24 → T 0 b ≠ 26 → b ≠ x → ∀ j, j ≠ 197 → T2 j b = T j b) (hk : KdA_ T sz ks (v 300) y2) (hn : 162 ∉ ks) : ∀ (a : Nat) (w : Int), 0 ≤ w → w < v 202 (T 182 x) → ELn_ T 182 x w.toNat = a + 1 → T2 162 a = T 162 a ∧ T2 1 (T 162 a) = T 1 (T 162 a) ∧ ∀ i, y2 (pr (T 162 a) i) = v 300 (pr (T 162 a) i) := by
  intro a w h0 h1 ha
  have ta : T 0 a = 8 := wl_ty hw (wt_182 hw.2.1 hx) (we_182 hw.2.1 hx) ha h0 h1
  have tr : T 0 (T 162 a) = 20 := wt_162 hw.2.1 ta
  have la : a < sz := hsz ▸ cw_lt hw ta (fun _ _ _ => ⟨_, rfl⟩)
  have lr : T 162 a < sz := hsz ▸ cw_lt hw tr (fun _ _ _ => ⟨_, rfl⟩)
  have na : a ≠ x := fun e => by rw [e, hx] at ta; cases ta
  have nr : T 162 a ≠ x := fun e => by rw [e, hx] at tr; cases tr
  refine ⟨hC a la (by omega) (by omega) (by omega) na 162 (by decide), hC _ lr (by omega) (by omega) (by omega) nr 1 (by decide), fun i => hk _ lr tr ?_ i⟩
  rw [wok (wo_162 hw.2.1 ta) (by decide)]
  exact hn
theorem wd_mv {T T2 : Nat → Nat → Nat} {y y2 : Nat → Int} {x : Nat} {sz : Int} {S1 S2 S3 : Int → List Int} (h : Wd_ T y x sz S1 S2 S3) (he : ∀ i : Nat, (i : Int) < sz → ELn_ T2 182 x i = ELn_ T 182 x i) (ho : ∀ (a : Nat) (w : Int), 0 ≤ w → w < sz → ELn_ T 182 x w.toNat = a + 1 → T2 162 a = T 162 a ∧ T2 1 (T 162 a) = T 1 (T 162 a) ∧ ∀ i, y2 (pr (T 162 a) i) = y (pr (T 162 a) i)) : Wd_ T2 y2 x sz S1 S2 S3 := by
  intro w h0 h1 a ha
  rw [he w.toNat (by omega)] at ha
  obtain ⟨e1, e2, e3⟩ := ho a w h0 h1 ha
  rw [e1, e2]
  exact wd_at h h0 h1 ha e3
/-- what the law says, before and behind what is made -/
theorem wsl_c {D : va_G} {cy : Nat → ClassId} {T T2 : Nat → Nat → Nat} {v : Nat → Nat → Int} {H : Heap} {x sz : Nat} (hw : WC D cy T v H) (hx : T 0 x = 9) (hsz : H.size = sz) (hC : ∀ b, b < sz → T 0 b ≠ 10 → T 0 b ≠ 24 → T 0 b ≠ 26 → b ≠ x → ∀ j, j ≠ 197 → T2 j b = T j b) (he : ∀ i : Nat, ELn_ T2 181 x i = ELn_ T 181 x i) {yd yb : Nat → Int} {k N N2 m : Int} {F g : Int → Int} {S1 S2 S3 : Int → List Int} (h : Owc_ (fun y w => ∃ x_ z_, ELn_ T2 181 x (y).toNat = x_ + 1 ∧ Lw_ (yd x_) (gC_ yb (T2 26 x_)) k z_ ∧ w = nrm_ N2 z_) F g m S1 S2 S3) (hm : m ≤ v 202 (T 181 x)) (hN : N2 = N) : Owc_ (fun y w => ∃ x_ z_, ELn_ T 181 x (y).toNat = x_ + 1 ∧ Lw_ (yd x_) (gC_ yb (T 26 x_)) k z_ ∧ w = nrm_ N z_) F g m S1 S2 S3 := by
  intro y y0 y1
  obtain ⟨w, ⟨a, z, e1, e2, e3⟩, b, c⟩ := h y y0 y1
  refine ⟨w, ⟨a, z, ?_, ?_, by rw [← hN]; exact e3⟩, b, c⟩
  · rw [← he]; exact e1
  · rw [he] at e1
    have ta : T 0 a = 1 := wl_ty hw (wt_181 hw.2.1 hx) (we_181 hw.2.1 hx) e1 y0 (by omega)
    have la : a < sz := hsz ▸ cw_lt hw ta (fun _ _ _ => ⟨_, rfl⟩)
    rw [← hC a la (by omega) (by omega) (by omega) (fun e => by rw [e, hx] at ta; cases ta) 26 (by decide)]
    exact e2
set_option maxHeartbeats 4000000 in
set_option maxRecDepth 100000 in
theorem n_X1_init_n2 (l : Launch) (D : va_G) (cy : Nat → ClassId) (κ T : Nat → Nat → Nat) (v_0 : Nat → Nat → Int) (o : Nat) (v_a : Int) (v_b : Int) (v_c : Int) (sz : Nat) (hO : ∀ x, ow T x → κ 2 2 ≤ x) (t_o : T 0 o = 102) (r_v_a : inR v_a) (r_v_b : inR v_b) (r_v_c : inR v_c) : KA l D cy κ T yX1_init cX1_init 4 none 2 3 72 [.ref o, .int (J v_a), .int (J v_b), .int (J v_c)] v_0 sz (AV (fun (T_2 : Nat → Nat → Nat) (v_2 : Nat → Nat → Int) => ∃ (y40_2 : Nat → Int) (y41_2 : Nat → Int) (y42_2 : Nat → Int) (y43_2 : Nat → Int) (y44_2 : Nat → Int) (y45_2 : Nat → Int) (y300_2 : Nat → Int) , v_2 = upV (upV (upV (upV (upV (upV (upV v_0 40 y40_2) 41 y41_2) 42 y42_2) 43 y43_2) 44 y44_2) 45 y45_2) 300 y300_2 ∧ (((∀ b, b < sz → b ≠ o → ∀ k, T_2 k b = T k b) ∧ T_2 0 o = 2 ∧ (y40_2) = upB (v_0 40) o v_a ∧ (y41_2) = upB (v_0 41) o v_b ∧ (y42_2) = upB (v_0 42) o v_c ∧ (y43_2) = upB (v_0 43) o (-1) ∧ (y44_2) = upB (v_0 44) o 0 ∧ (y45_2) = upB (v_0 45) o (-1) ∧ (∀ j_ : Int, 0 ≤ j_ → j_ < 24 → gC_ (y300_2) (T_2 46 o) j_ = -1 ∧ gC_ (y300_2) (T_2 47 o) j_ = 0 ∧ gC_ (y300_2) (T_2 48 o) j_ = -1)) ∧ KdA_ T sz [] (v_0 300) y300_2))) := by
  refine KA.ofv (by decide) (Nat.le_of_ble_eq_true rfl) hO ?_
  intro p e s m below meth c ls ar QW A0 H locs E hK hZ hA hAc hsz hszH_ hnm hw hlo_ hl hret
  have hl : lv_has ls 4 [(0, .ref o), (1, .int (J v_a)), (2, .int (J v_b)), (3, .int (J v_c))] := hl
  have hT : WT T := hw.1.2.1
  have hoT_ : OW T T s.heap.size := OW.rf T _
  have hC_ : ∀ b, b < sz → T 0 b ≠ 10 → T 0 b ≠ 24 → T 0 b ≠ 26 → b ≠ o → ∀ j, j ≠ 197 → T j b = T j b := fun _ _ _ _ _ _ _ _ => rfl
  have hR_ : ∀ b, b < sz → b ≠ o → ∀ k, T k b = T k b := fun b _ _ k => rfl
  refine j_aload_n E 1 rfl dX1_init_0 rfl (lv_at hl 0 rfl) ?_
  refine W.objInit E.1 E.2.1 E.2.2.2.1 (E.2.2.2.2.1 _ mo_X1_3) (E.2.2.2.2.1 _ im_ob) (E.2.2.2.2.1 _ cd_ob) rfl (by rw [E.2.2.1]; exact hl.1) rfl dX1_init_1 (Nat.le_of_ble_eq_true rfl) (Nat.le_of_ble_eq_true rfl) ?_
  show W p l e (rmd 2 3 72) s m ar below meth c H locs _ _ QW (F0 m 4 ls [])
  refine j_aload_n E 5 rfl dX1_init_4 rfl (lv_at hl 0 rfl) ?_
  refine j_iconst E 6 rfl dX1_init_5 ?_
  refine rp_43 E hK hw fl_X1_9 t_o (rr (by decide)) 9 rfl dX1_init_6 (fun H locs hw => ?_)
  have hw : WK D cy T (upV v_0 43 (upB (v_0 43) o ((-1)))) A0 s.heap H locs := cw_eq hw (by first | rfl | (funext j_; simp only [upV, reduceIte]; (repeat' split) <;> first | rfl | omega | (subst_vars; rfl)))
  refine j_aload_n E 10 rfl dX1_init_9 rfl (lv_at hl 0 rfl) ?_
  refine j_iconst E 11 rfl dX1_init_10 ?_
  refine rp_44 E hK hw fl_X1_15 t_o (rr (by decide)) (Or.inl rfl) 14 rfl dX1_init_11 (fun H locs hw => ?_)
  have hw : WK D cy T (upV (upV v_0 43 (upB (v_0 43) o ((-1)))) 44 (upB (v_0 44) o 0)) A0 s.heap H locs := cw_eq hw (by first | rfl | (funext j_; simp only [upV, reduceIte]; (repeat' split) <;> first | rfl | omega | (subst_vars; rfl)))
  refine j_aload_n E 15 rfl dX1_init_14 rfl (lv_at hl 0 rfl) ?_
  refine j_iconst E 16 rfl dX1_init_15 ?_
  refine rp_45 E hK hw fl_X1_19 t_o (rr (by decide)) 19 rfl dX1_init_16 (fun H locs hw => ?_)
  have hw : WK D cy T (upV (upV (upV v_0 43 (upB (v_0 43) o ((-1)))) 44 (upB (v_0 44) o 0)) 45 (upB (v_0 45) o ((-1)))) A0 s.heap H locs := cw_eq hw (by first | rfl | (funext j_; simp only [upV, reduceIte]; (repeat' split) <;> first | rfl | omega | (subst_vars; rfl)))
  refine j_aload_n E 20 rfl dX1_init_19 rfl (lv_at hl 0 rfl) ?_
  refine j_bipush E 22 rfl dX1_init_20 (by decide) ?_
  have hw0_ := hw
  refine n_arr20 E hK hw hA (300 * o + 46) 24 (by decide) (by decide) (Nat.le_of_ble_eq_true rfl) (Nat.le_of_ble_eq_true rfl) 24 rfl dX1_init_22 (fun q4_ T4_ y300_4 H hge4_ hx4_ ho4_ tq4_ tl4_ tw4_ yz4_ yo4_ hw => ?_)
  have fq4_ : s.heap.size ≤ q4_ := Nat.le_trans hw0_.2.2.1 hge4_
  have hw : WK D cy T4_ (upV (upV (upV (upV v_0 43 (upB (v_0 43) o ((-1)))) 44 (upB (v_0 44) o 0)) 45 (upB (v_0 45) o ((-1)))) 300 y300_4) A0 s.heap H locs := cw_eq hw (by first | rfl | (funext j_; simp only [upV, reduceIte]; (repeat' split) <;> first | rfl | omega | (subst_vars; rfl)))
  have yo4_ : ∀ b, b ≠ q4_ → ∀ i, y300_4 (pr b i) = v_0 300 (pr b i) := yo4_
  have kd5_ : KdA_ T sz [] (v_0 300) (y300_4) := KdA_tr KdA_rf (KdA_new yo4_ (by omega))
  have hT4_ : WT T4_ := hw.1.2.1
  have hO4_ : ∀ x, ow T4_ x → κ 2 2 ≤ x := fun x h => hAc x (hw.2.1 x h)
  have hoT_ : OW T T4_ s.heap.size := OW.tr hw0_.2.2.1 hoT_ ho4_
  have hC_ : ∀ b, b < sz → T 0 b ≠ 10 → T 0 b ≠ 24 → T 0 b ≠ 26 → b ≠ o → ∀ j, j ≠ 197 → T4_ j b = T j b := fun b_ h1_ h2_ h3_ h4_ h5_ j_ h6_ => (hx4_ b_ (by have := hw0_.2.2.1; have := hge4_; omega) j_).trans (hC_ b_ h1_ h2_ h3_ h4_ h5_ j_ h6_)
  have hR_ : ∀ b, b < sz → b ≠ o → ∀ k, T4_ k b = T k b := fun b_ h1_ h2_ k_ => (hx4_ b_ (by have := hw0_.2.2.1; have := hge4_; omega) k_).trans (hR_ b_ h1_ h2_ k_)
  have u6_ : T4_ 0 o = 102 := (hx4_ o (Nat.ne_of_lt (Nat.lt_of_lt_of_le (cw_lt hw0_.1 t_o (fun _ _ _ => ⟨_, rfl⟩)) hge4_)) 0).trans t_o
  have hw0_ := hw
  refine rr_46 E hK hw hnm fl_X1_22 u6_ 27 rfl dX1_init_24 (fun T7_ H locs hx7_ hj7_ hk7_ ho7_ hw => ?_)
  have hT7_ : WT T7_ := hw.1.2.1
  have hO7_ : ∀ x, ow T7_ x → κ 2 2 ≤ x := fun x h => hAc x (hw.2.1 x h)
  have hoT_ : OW T T7_ s.heap.size := OW.tr0 hoT_ ho7_
  have hC_ : ∀ b, b < sz → T 0 b ≠ 10 → T 0 b ≠ 24 → T 0 b ≠ 26 → b ≠ o → ∀ j, j ≠ 197 → T7_ j b = T j b := fun b_ h1_ h2_ h3_ h4_ h5_ j_ h6_ => (hx7_ b_ h5_ j_).trans (hC_ b_ h1_ h2_ h3_ h4_ h5_ j_ h6_)
  have hR_ : ∀ b, b < sz → b ≠ o → ∀ k, T7_ k b = T k b := fun b_ h1_ h2_ k_ => (hx7_ b_ h2_ k_).trans (hR_ b_ h1_ h2_ k_)
  have u8_ : T7_ 0 o = 102 := (hj7_ 0 (by decide)).trans u6_
  have u9_ : T7_ 0 q4_ = 20 := (hx7_ q4_ (ty_ne tq4_ u6_ (by decide)) 0).trans tq4_
  have u10_ : T7_ 1 q4_ = 24 := (hx7_ q4_ (ty_ne tq4_ u6_ (by decide)) 1).trans tl4_
  have u11_ : T7_ 3 q4_ = 300 * o + 46 := (hx7_ q4_ (ty_ne tq4_ u6_ (by decide)) 3).trans tw4_
  refine j_aload_n E 28 rfl dX1_init_27 rfl (lv_at hl 0 rfl) ?_
  refine j_bipush E 30 rfl dX1_init_28 (by decide) ?_
  have hw0_ := hw
  refine n_arr20 E hK hw hA (300 * o + 47) 24 (by decide) (by decide) (Nat.le_of_ble_eq_true rfl) (Nat.le_of_ble_eq_true rfl) 32 rfl dX1_init_30 (fun q12_ T12_ y300_12 H hge12_ hx12_ ho12_ tq12_ tl12_ tw12_ yz12_ yo12_ hw => ?_)
  have fq12_ : s.heap.size ≤ q12_ := Nat.le_trans hw0_.2.2.1 hge12_
  have hw : WK D cy T12_ (upV (upV (upV (upV v_0 43 (upB (v_0 43) o ((-1)))) 44 (upB (v_0 44) o 0)) 45 (upB (v_0 45) o ((-1)))) 300 y300_12) A0 s.heap H locs := cw_eq hw (by first | rfl | (funext j_; simp only [upV, reduceIte]; (repeat' split) <;> first | rfl | omega | (subst_vars; rfl)))
  have yo12_ : ∀ b, b ≠ q12_ → ∀ i, y300_12 (pr b i) = y300_4 (pr b i) := yo12_
  have kd13_ : KdA_ T sz [] (v_0 300) (y300_12) := KdA_tr kd5_ (KdA_new yo12_ (by omega))
  have yz7_ := yz12_
  have hT12_ : WT T12_ := hw.1.2.1
  have hO12_ : ∀ x, ow T12_ x → κ 2 2 ≤ x := fun x h => hAc x (hw.2.1 x h)
  have hoT_ : OW T T12_ s.heap.size := OW.tr hw0_.2.2.1 hoT_ ho12_
  have hC_ : ∀ b, b < sz → T 0 b ≠ 10 → T 0 b ≠ 24 → T 0 b ≠ 26 → b ≠ o → ∀ j, j ≠ 197 → T12_ j b = T j b := fun b_ h1_ h2_ h3_ h4_ h5_ j_ h6_ => (hx12_ b_ (by have := hw0_.2.2.1; have := hge12_; omega) j_).trans (hC_ b_ h1_ h2_ h3_ h4_ h5_ j_ h6_)
  have hR_ : ∀ b, b < sz → b ≠ o → ∀ k, T12_ k b = T k b := fun b_ h1_ h2_ k_ => (hx12_ b_ (by have := hw0_.2.2.1; have := hge12_; omega) k_).trans (hR_ b_ h1_ h2_ k_)
  have u14_ : T12_ 0 o = 102 := (hx12_ o (Nat.ne_of_lt (Nat.lt_of_lt_of_le (cw_lt hw0_.1 u8_ (fun _ _ _ => ⟨_, rfl⟩)) hge12_)) 0).trans u8_
  have u15_ : T12_ 0 q4_ = 20 := (hx12_ q4_ (Nat.ne_of_lt (Nat.lt_of_lt_of_le (cw_lt hw0_.1 u9_ (fun _ _ _ => ⟨_, rfl⟩)) hge12_)) 0).trans u9_
  have u16_ : T12_ 1 q4_ = 24 := (hx12_ q4_ (Nat.ne_of_lt (Nat.lt_of_lt_of_le (cw_lt hw0_.1 u9_ (fun _ _ _ => ⟨_, rfl⟩)) hge12_)) 1).trans u10_
  have u17_ : T12_ 3 q4_ = 300 * o + 46 := (hx12_ q4_ (Nat.ne_of_lt (Nat.lt_of_lt_of_le (cw_lt hw0_.1 u9_ (fun _ _ _ => ⟨_, rfl⟩)) hge12_)) 3).trans u11_
  have u18_ : T12_ 46 o = q4_ + 1 := (hx12_ o (Nat.ne_of_lt (Nat.lt_of_lt_of_le (cw_lt hw0_.1 u8_ (fun _ _ _ => ⟨_, rfl⟩)) hge12_)) 46).trans hk7_
  have hw0_ := hw
  refine rr_47 E hK hw hnm fl_X1_26 u14_ 35 rfl dX1_init_32 (fun T19_ H locs hx19_ hj19_ hk19_ ho19_ hw => ?_)
  have hT19_ : WT T19_ := hw.1.2.1
  have hO19_ : ∀ x, ow T19_ x → κ 2 2 ≤ x := fun x h => hAc x (hw.2.1 x h)
  have hoT_ : OW T T19_ s.heap.size := OW.tr0 hoT_ ho19_
  have hC_ : ∀ b, b < sz → T 0 b ≠ 10 → T 0 b ≠ 24 → T 0 b ≠ 26 → b ≠ o → ∀ j, j ≠ 197 → T19_ j b = T j b := fun b_ h1_ h2_ h3_ h4_ h5_ j_ h6_ => (hx19_ b_ h5_ j_).trans (hC_ b_ h1_ h2_ h3_ h4_ h5_ j_ h6_)
  have hR_ : ∀ b, b < sz → b ≠ o → ∀ k, T19_ k b = T k b := fun b_ h1_ h2_ k_ => (hx19_ b_ h2_ k_).trans (hR_ b_ h1_ h2_ k_)
  have u20_ : T19_ 0 o = 102 := (hj19_ 0 (by decide)).trans u14_
  have u21_ : T19_ 0 q4_ = 20 := (hx19_ q4_ (ty_ne u15_ u14_ (by decide)) 0).trans u15_
  have u22_ : T19_ 0 q12_ = 20 := (hx19_ q12_ (ty_ne tq12_ u14_ (by decide)) 0).trans tq12_
  have u23_ : T19_ 1 q4_ = 24 := (hx19_ q4_ (ty_ne u15_ u14_ (by decide)) 1).trans u16_
  have u24_ : T19_ 1 q12_ = 24 := (hx19_ q12_ (ty_ne tq12_ u14_ (by decide)) 1).trans tl12_
  have u25_ : T19_ 3 q4_ = 300 * o + 46 := (hx19_ q4_ (ty_ne u15_ u14_ (by decide)) 3).trans u17_
  have u26_ : T19_ 3 q12_ = 300 * o + 47 := (hx19_ q12_ (ty_ne tq12_ u14_ (by decide)) 3).trans tw12_
  have u27_ : T19_ 46 o = q4_ + 1 := (hj19_ 46 (by decide)).trans u18_
  refine j_aload_n E 36 rfl dX1_init_35 rfl (lv_at hl 0 rfl) ?_
  refine j_bipush E 38 rfl dX1_init_36 (by decide) ?_
  have hw0_ := hw
  refine n_arr20 E hK hw hA (300 * o + 48) 24 (by decide) (by decide) (Nat.le_of_ble_eq_true rfl) (Nat.le_of_ble_eq_true rfl) 40 rfl dX1_init_38 (fun q28_ T28_ y300_28 H hge28_ hx28_ ho28_ tq28_ tl28_ tw28_ yz28_ yo28_ hw => ?_)
  have fq28_ : s.heap.size ≤ q28_ := Nat.le_trans hw0_.2.2.1 hge28_
  have hw : WK D cy T28_ (upV (upV (upV (upV v_0 43 (upB (v_0 43) o ((-1)))) 44 (upB (v_0 44) o 0)) 45 (upB (v_0 45) o ((-1)))) 300 y300_28) A0 s.heap H locs := cw_eq hw (by first | rfl | (funext j_; simp only [upV, reduceIte]; (repeat' split) <;> first | rfl | omega | (subst_vars; rfl)))
  have yo28_ : ∀ b, b ≠ q28_ → ∀ i, y300_28 (pr b i) = y300_12 (pr b i) := yo28_
  have kd29_ : KdA_ T sz [] (v_0 300) (y300_28) := KdA_tr kd13_ (KdA_new yo28_ (by omega))
  have yo8_ := yo28_
  have hT28_ : WT T28_ := hw.1.2.1
  have hO28_ : ∀ x, ow T28_ x → κ 2 2 ≤ x := fun x h => hAc x (hw.2.1 x h)
  have hoT_ : OW T T28_ s.heap.size := OW.tr hw0_.2.2.1 hoT_ ho28_
  have hC_ : ∀ b, b < sz → T 0 b ≠ 10 → T 0 b ≠ 24 → T 0 b ≠ 26 → b ≠ o → ∀ j, j ≠ 197 → T28_ j b = T j b := fun b_ h1_ h2_ h3_ h4_ h5_ j_ h6_ => (hx28_ b_ (by have := hw0_.2.2.1; have := hge28_; omega) j_).trans (hC_ b_ h1_ h2_ h3_ h4_ h5_ j_ h6_)
  have hR_ : ∀ b, b < sz → b ≠ o → ∀ k, T28_ k b = T k b := fun b_ h1_ h2_ k_ => (hx28_ b_ (by have := hw0_.2.2.1; have := hge28_; omega) k_).trans (hR_ b_ h1_ h2_ k_)
  have u30_ : T28_ 0 o = 102 := (hx28_ o (Nat.ne_of_lt (Nat.lt_of_lt_of_le (cw_lt hw0_.1 u20_ (fun _ _ _ => ⟨_, rfl⟩)) hge28_)) 0).trans u20_
  have u31_ : T28_ 0 q4_ = 20 := (hx28_ q4_ (Nat.ne_of_lt (Nat.lt_of_lt_of_le (cw_lt hw0_.1 u21_ (fun _ _ _ => ⟨_, rfl⟩)) hge28_)) 0).trans u21_
  have u32_ : T28_ 0 q12_ = 20 := (hx28_ q12_ (Nat.ne_of_lt (Nat.lt_of_lt_of_le (cw_lt hw0_.1 u22_ (fun _ _ _ => ⟨_, rfl⟩)) hge28_)) 0).trans u22_
  have u33_ : T28_ 1 q4_ = 24 := (hx28_ q4_ (Nat.ne_of_lt (Nat.lt_of_lt_of_le (cw_lt hw0_.1 u21_ (fun _ _ _ => ⟨_, rfl⟩)) hge28_)) 1).trans u23_
  have u34_ : T28_ 1 q12_ = 24 := (hx28_ q12_ (Nat.ne_of_lt (Nat.lt_of_lt_of_le (cw_lt hw0_.1 u22_ (fun _ _ _ => ⟨_, rfl⟩)) hge28_)) 1).trans u24_
  have u35_ : T28_ 3 q4_ = 300 * o + 46 := (hx28_ q4_ (Nat.ne_of_lt (Nat.lt_of_lt_of_le (cw_lt hw0_.1 u21_ (fun _ _ _ => ⟨_, rfl⟩)) hge28_)) 3).trans u25_
  have u36_ : T28_ 3 q12_ = 300 * o + 47 := (hx28_ q12_ (Nat.ne_of_lt (Nat.lt_of_lt_of_le (cw_lt hw0_.1 u22_ (fun _ _ _ => ⟨_, rfl⟩)) hge28_)) 3).trans u26_
  have u37_ : T28_ 46 o = q4_ + 1 := (hx28_ o (Nat.ne_of_lt (Nat.lt_of_lt_of_le (cw_lt hw0_.1 u20_ (fun _ _ _ => ⟨_, rfl⟩)) hge28_)) 46).trans u27_
  have u38_ : T28_ 47 o = q12_ + 1 := (hx28_ o (Nat.ne_of_lt (Nat.lt_of_lt_of_le (cw_lt hw0_.1 u20_ (fun _ _ _ => ⟨_, rfl⟩)) hge28_)) 47).trans hk19_
  have hw0_ := hw
  refine rr_48 E hK hw hnm fl_X1_29 u30_ 43 rfl dX1_init_40 (fun T39_ H locs hx39_ hj39_ hk39_ ho39_ hw => ?_)
  have hT39_ : WT T39_ := hw.1.2.1
  have hO39_ : ∀ x, ow T39_ x → κ 2 2 ≤ x := fun x h => hAc x (hw.2.1 x h)
  have hoT_ : OW T T39_ s.heap.size := OW.tr0 hoT_ ho39_
  have hC_ : ∀ b, b < sz → T 0 b ≠ 10 → T 0 b ≠ 24 → T 0 b ≠ 26 → b ≠ o → ∀ j, j ≠ 197 → T39_ j b = T j b := fun b_ h1_ h2_ h3_ h4_ h5_ j_ h6_ => (hx39_ b_ h5_ j_).trans (hC_ b_ h1_ h2_ h3_ h4_ h5_ j_ h6_)
  have hR_ : ∀ b, b < sz → b ≠ o → ∀ k, T39_ k b = T k b := fun b_ h1_ h2_ k_ => (hx39_ b_ h2_ k_).trans (hR_ b_ h1_ h2_ k_)
  have u40_ : T39_ 0 o = 102 := (hj39_ 0 (by decide)).trans u30_
  have u41_ : T39_ 0 q4_ = 20 := (hx39_ q4_ (ty_ne u31_ u30_ (by decide)) 0).trans u31_
  have u42_ : T39_ 0 q12_ = 20 := (hx39_ q12_ (ty_ne u32_ u30_ (by decide)) 0).trans u32_
  have u43_ : T39_ 0 q28_ = 20 := (hx39_ q28_ (ty_ne tq28_ u30_ (by decide)) 0).trans tq28_
  have u44_ : T39_ 1 q4_ = 24 := (hx39_ q4_ (ty_ne u31_ u30_ (by decide)) 1).trans u33_
  have u45_ : T39_ 1 q12_ = 24 := (hx39_ q12_ (ty_ne u32_ u30_ (by decide)) 1).trans u34_
  have u46_ : T39_ 1 q28_ = 24 := (hx39_ q28_ (ty_ne tq28_ u30_ (by decide)) 1).trans tl28_
  have u47_ : T39_ 3 q4_ = 300 * o + 46 := (hx39_ q4_ (ty_ne u31_ u30_ (by decide)) 3).trans u35_
  have u48_ : T39_ 3 q12_ = 300 * o + 47 := (hx39_ q12_ (ty_ne u32_ u30_ (by decide)) 3).trans u36_
  have u49_ : T39_ 3 q28_ = 300 * o + 48 := (hx39_ q28_ (ty_ne tq28_ u30_ (by decide)) 3).trans tw28_
  have u50_ : T39_ 46 o = q4_ + 1 := (hj39_ 46 (by decide)).trans u37_
  have u51_ : T39_ 47 o = q12_ + 1 := (hj39_ 47 (by decide)).trans u38_
  refine j_aload_n E 44 rfl dX1_init_43 rfl (lv_at hl 0 rfl) ?_
  refine j_iload_n E 45 rfl dX1_init_44 rfl (lv_at hl 1 rfl) ?_
  refine rp_40 E hK hw hnm fl_X1_32 u40_ r_v_a 48 rfl dX1_init_45 (fun H locs hw => ?_)
  have hw : WK D cy T39_ (upV (upV (upV (upV (upV v_0 40 (upB (v_0 40) o v_a)) 43 (upB (v_0 43) o ((-1)))) 44 (upB (v_0 44) o 0)) 45 (upB (v_0 45) o ((-1)))) 300 y300_28) A0 s.heap H locs := cw_eq hw (by first | rfl | (funext j_; simp only [upV, reduceIte]; (repeat' split) <;> first | rfl | omega | (subst_vars; rfl)))
  refine j_aload_n E 49 rfl dX1_init_48 rfl (lv_at hl 0 rfl) ?_
  refine j_iload_n E 50 rfl dX1_init_49 rfl (lv_at hl 2 rfl) ?_
  refine rp_41 E hK hw hnm fl_X1_35 u40_ r_v_b 53 rfl dX1_init_50 (fun H locs hw => ?_)
  have hw : WK D cy T39_ (upV (upV (upV (upV (upV (upV v_0 40 (upB (v_0 40) o v_a)) 41 (upB (v_0 41) o v_b)) 43 (upB (v_0 43) o ((-1)))) 44 (upB (v_0 44) o 0)) 45 (upB (v_0 45) o ((-1)))) 300 y300_28) A0 s.heap H locs := cw_eq hw (by first | rfl | exact (funext fun j_ => if a40_ : j_ = 40 then (by subst a40_; rfl) else if a41_ : j_ = 41 then (by subst a41_; rfl) else if a43_ : j_ = 43 then (by subst a43_; rfl) else if a44_ : j_ = 44 then (by subst a44_; rfl) else if a45_ : j_ = 45 then (by subst a45_; rfl) else if a300_ : j_ = 300 then (by subst a300_; rfl) else (by simp only [upV, if_neg a40_, if_neg a41_, if_neg a43_, if_neg a44_, if_neg a45_, if_neg a300_])))
  refine j_aload_n E 54 rfl dX1_init_53 rfl (lv_at hl 0 rfl) ?_
  refine j_iload_n E 55 rfl dX1_init_54 rfl (lv_at hl 3 rfl) ?_
  refine rp_42 E hK hw hnm fl_X1_38 u40_ r_v_c 58 rfl dX1_init_55 (fun H locs hw => ?_)
  have hw : WK D cy T39_ (upV (upV (upV (upV (upV (upV (upV v_0 40 (upB (v_0 40) o v_a)) 41 (upB (v_0 41) o v_b)) 42 (upB (v_0 42) o v_c)) 43 (upB (v_0 43) o ((-1)))) 44 (upB (v_0 44) o 0)) 45 (upB (v_0 45) o ((-1)))) 300 y300_28) A0 s.heap H locs := cw_eq hw (by first | rfl | exact (funext fun j_ => if a40_ : j_ = 40 then (by subst a40_; rfl) else if a41_ : j_ = 41 then (by subst a41_; rfl) else if a42_ : j_ = 42 then (by subst a42_; rfl) else if a43_ : j_ = 43 then (by subst a43_; rfl) else if a44_ : j_ = 44 then (by subst a44_; rfl) else if a45_ : j_ = 45 then (by subst a45_; rfl) else if a300_ : j_ = 300 then (by subst a300_; rfl) else (by simp only [upV, if_neg a40_, if_neg a41_, if_neg a42_, if_neg a43_, if_neg a44_, if_neg a45_, if_neg a300_])))
  have hw0_ := hw
  obtain ⟨T55_, hx55_, tq55_, xe55_46_, xe55_47_, xe55_48_, ho55_, hw⟩ := pm_2 hw u40_ u50_ u41_ u44_ u47_ u51_ u42_ u45_ u48_ hk39_ u43_ u46_ u49_
  have hT55_ : WT T55_ := hw.1.2.1
  have hO55_ : ∀ x, ow T55_ x → κ 2 2 ≤ x := fun x h => hAc x (hw.2.1 x h)
  have hoT_ : OW T T55_ s.heap.size := OW.tr0 hoT_ ho55_
  have hC_ : ∀ b, b < sz → T 0 b ≠ 10 → T 0 b ≠ 24 → T 0 b ≠ 26 → b ≠ o → ∀ j, j ≠ 197 → T55_ j b = T j b := fun b_ h1_ h2_ h3_ h4_ h5_ j_ h6_ => (hx55_ b_ h5_ j_).trans (hC_ b_ h1_ h2_ h3_ h4_ h5_ j_ h6_)
  have hR_ : ∀ b, b < sz → b ≠ o → ∀ k, T55_ k b = T k b := fun b_ h1_ h2_ k_ => (hx55_ b_ h2_ k_).trans (hR_ b_ h1_ h2_ k_)
  have u56_ : T55_ 1 q4_ = 24 := (hx55_ q4_ (ty_ne u41_ u40_ (by decide)) 1).trans u44_
  have u57_ : T55_ 1 q12_ = 24 := (hx55_ q12_ (ty_ne u42_ u40_ (by decide)) 1).trans u45_
  have u58_ : T55_ 1 q28_ = 24 := (hx55_ q28_ (ty_ne u43_ u40_ (by decide)) 1).trans u46_
  refine j_aload_n E 59 rfl dX1_init_58 rfl (lv_at hl 0 rfl) ?_
  refine g_46 E hK hw fl_X1_22 tq55_ 62 rfl dX1_init_59 ?_
  have ln59_ := wl_46 hT55_ tq55_
  have z7_ : ∀ j_ : Int, gC_ (y300_28) (T55_ 47 o) j_ = 0 := fun j_ => by show (y300_28) (pr (T55_ 47 o) j_.toNat) = 0; rw [xe55_47_]; exact (yo8_ _ (fun e_ => (p3_ne hT55_ tq55_).2.2 (by rw [xe55_47_, xe55_48_]; exact e_)) _).trans (yz7_ _)
  refine j_iconst E 63 rfl dX1_init_62 ?_
  refine kS_v E (c_J7_fill_53178 l D cy T55_ (upV (upV (upV (upV (upV (upV (upV v_0 40 (upB (v_0 40) o v_a)) 41 (upB (v_0 41) o v_b)) 42 (upB (v_0 42) o v_c)) 43 (upB (v_0 43) o ((-1)))) 44 (upB (v_0 44) o 0)) 45 (upB (v_0 45) o ((-1)))) 300 y300_28) (T55_ 46 o) ((-1))   (wt_46 hT55_ tq55_) (rr (by decide)) ) ms_J7_fill_53178 ml_X1_41 hK hw hA ⟨Nat.le_of_ble_eq_true rfl, Nat.le_of_ble_eq_true rfl⟩ ⟨Nat.le_of_ble_eq_true rfl, Nat.le_of_ble_eq_true rfl⟩ (As := [.ref (T55_ 46 o), .int (J ((-1)))]) (rest := []) rfl rfl hl.1 (Nat.le_of_ble_eq_true rfl) 66 rfl dX1_init_63 (fun v_60 H locs hq60_ hw => ?_)
  obtain ⟨y300_60, ev60_, hh60_⟩ := hq60_
  rw [ev60_] at hw; clear ev60_
  have hw : WK D cy T55_ (upV (upV (upV (upV (upV (upV (upV v_0 40 (upB (v_0 40) o v_a)) 41 (upB (v_0 41) o v_b)) 42 (upB (v_0 42) o v_c)) 43 (upB (v_0 43) o ((-1)))) 44 (upB (v_0 44) o 0)) 45 (upB (v_0 45) o ((-1)))) 300 y300_60) A0 s.heap H locs := cw_eq hw (by first | rfl | exact (funext fun j_ => if a40_ : j_ = 40 then (by subst a40_; rfl) else if a41_ : j_ = 41 then (by subst a41_; rfl) else if a42_ : j_ = 42 then (by subst a42_; rfl) else if a43_ : j_ = 43 then (by subst a43_; rfl) else if a44_ : j_ = 44 then (by subst a44_; rfl) else if a45_ : j_ = 45 then (by subst a45_; rfl) else if a300_ : j_ = 300 then (by subst a300_; rfl) else (by simp only [upV, if_neg a40_, if_neg a41_, if_neg a42_, if_neg a43_, if_neg a44_, if_neg a45_, if_neg a300_])))
  obtain ⟨hh60_, kf60_⟩ := hh60_
  have kd61_ : KdA_ T sz [] (v_0 300) (y300_60) := KdA_tr kd29_ (KdA_ro kf60_ (by rw [xe55_46_]; have := fq4_; omega))
  replace hh60_ : ∀ j_, 0 ≤ j_ → j_ < (T55_ 1 (T55_ 46 o) : Int) → gC_ (y300_60) (T55_ 46 o) j_ = (-1 : Int) := hh60_
  have f6_ := hh60_
  clear hh60_
  have r6_ := kf60_
  refine j_aload_n E 67 rfl dX1_init_66 rfl (lv_at hl 0 rfl) ?_
  refine g_48 E hK hw fl_X1_29 tq55_ 70 rfl dX1_init_67 ?_
  have ln62_ := wl_48 hT55_ tq55_
  refine j_iconst E 71 rfl dX1_init_70 ?_
  refine kS_v E (c_J7_fill_53178 l D cy T55_ (upV (upV (upV (upV (upV (upV (upV v_0 40 (upB (v_0 40) o v_a)) 41 (upB (v_0 41) o v_b)) 42 (upB (v_0 42) o v_c)) 43 (upB (v_0 43) o ((-1)))) 44 (upB (v_0 44) o 0)) 45 (upB (v_0 45) o ((-1)))) 300 y300_60) (T55_ 48 o) ((-1))   (wt_48 hT55_ tq55_) (rr (by decide)) ) ms_J7_fill_53178 ml_X1_41 hK hw hA ⟨Nat.le_of_ble_eq_true rfl, Nat.le_of_ble_eq_true rfl⟩ ⟨Nat.le_of_ble_eq_true rfl, Nat.le_of_ble_eq_true rfl⟩ (As := [.ref (T55_ 48 o), .int (J ((-1)))]) (rest := []) rfl rfl hl.1 (Nat.le_of_ble_eq_true rfl) 74 rfl dX1_init_71 (fun v_63 H locs hq63_ hw => ?_)
  obtain ⟨y300_63, ev63_, hh63_⟩ := hq63_
  rw [ev63_] at hw; clear ev63_
  have hw : WK D cy T55_ (upV (upV (upV (upV (upV (upV (upV v_0 40 (upB (v_0 40) o v_a)) 41 (upB (v_0 41) o v_b)) 42 (upB (v_0 42) o v_c)) 43 (upB (v_0 43) o ((-1)))) 44 (upB (v_0 44) o 0)) 45 (upB (v_0 45) o ((-1)))) 300 y300_63) A0 s.heap H locs := cw_eq hw (by first | rfl | exact (funext fun j_ => if a40_ : j_ = 40 then (by subst a40_; rfl) else if a41_ : j_ = 41 then (by subst a41_; rfl) else if a42_ : j_ = 42 then (by subst a42_; rfl) else if a43_ : j_ = 43 then (by subst a43_; rfl) else if a44_ : j_ = 44 then (by subst a44_; rfl) else if a45_ : j_ = 45 then (by subst a45_; rfl) else if a300_ : j_ = 300 then (by subst a300_; rfl) else (by simp only [upV, if_neg a40_, if_neg a41_, if_neg a42_, if_neg a43_, if_neg a44_, if_neg a45_, if_neg a300_])))
  obtain ⟨hh63_, kf63_⟩ := hh63_
  have kd64_ : KdA_ T sz [] (v_0 300) (y300_63) := KdA_tr kd61_ (KdA_ro kf63_ (by rw [xe55_48_]; have := fq28_; omega))
  replace hh63_ : ∀ j_, 0 ≤ j_ → j_ < (T55_ 1 (T55_ 48 o) : Int) → gC_ (y300_63) (T55_ 48 o) j_ = (-1 : Int) := hh63_
  have f8_ := hh63_
  clear hh63_
  have r8_ := kf63_
  exact hret 74 T55_ (upV (upV (upV (upV (upV (upV (upV v_0 40 (upB (v_0 40) o v_a)) 41 (upB (v_0 41) o v_b)) 42 (upB (v_0 42) o v_c)) 43 (upB (v_0 43) o ((-1)))) 44 (upB (v_0 44) o 0)) 45 (upB (v_0 45) o ((-1)))) 300 y300_63) _ _ ls _ _ hw hoT_ ⟨(upB (v_0 40) o v_a), (upB (v_0 41) o v_b), (upB (v_0 42) o v_c), (upB (v_0 43) o ((-1))), (upB (v_0 44) o 0), (upB (v_0 45) o ((-1))), y300_63, rfl, ⟨⟨hR_, tq55_, rfl, rfl, rfl, rfl, rfl, rfl, fun j_ h1_ h2_ => ⟨(congrFun (gC_ro r8_ (p3_ne hT55_ tq55_).2.1) j_).trans (f6_ j_ h1_ (by rw [xe55_46_, u56_]; omega)), (congrFun (gC_ro r8_ (p3_ne hT55_ tq55_).2.2) j_).trans ((congrFun (gC_ro r6_ (Ne.symm (p3_ne hT55_ tq55_).1)) j_).trans (z7_ j_)), f8_ j_ h1_ (by rw [xe55_48_, u58_]; omega)⟩⟩, kd64_⟩⟩ (Nat.le_of_ble_eq_true rfl) (Nat.le_of_ble_eq_true rfl) dX1_init_74
set_option maxHeartbeats 4000000 in
set_option maxRecDepth 100000 in
theorem n_X0_init_n2 (l : Launch) (D : va_G) (cy : Nat → ClassId) (κ T : Nat → Nat → Nat) (v_0 : Nat → Nat → Int) (o : Nat) (v_a : Int) (v_b : Int) (sz : Nat) (hO : ∀ x, ow T x → κ 2 2 ≤ x) (t_o : T 0 o = 101) (r_v_a : inR v_a) (r_v_b : inR v_b) (hp0 : v_b = 0 ∨ v_b = 1) : KA l D cy κ T yX0_init cX0_init 3 none 2 1 200 [.ref o, .int (J v_a), .int (J v_b)] v_0 sz (AV (fun (T_2 : Nat → Nat → Nat) (v_2 : Nat → Nat → Int) => ∃ (y20_2 : Nat → Int) (y21_2 : Nat → Int) (y22_2 : Nat → Int) (y23_2 : Nat → Int) (y24_2 : Nat → Int) (y25_2 : Nat → Int) (y302_2 : Nat → Int) , v_2 = upV (upV (upV (upV (upV (upV (upV v_0 20 y20_2) 21 y21_2) 22 y22_2) 23 y23_2) 24 y24_2) 25 y25_2) 302 y302_2 ∧ ((∀ b, b < sz → b ≠ o → ∀ k, T_2 k b = T k b) ∧ T_2 0 o = 1 ∧ (y25_2) = upB (v_0 25) o (-1) ∧ (y20_2) = upB (v_0 20) o v_a ∧ (y21_2) = upB (v_0 21) o v_b ∧ (y22_2) = upB (v_0 22) o 0 ∧ (y23_2) = upB (v_0 23) o (-1) ∧ (y24_2) = upB (v_0 24) o 0 ∧ (∀ b_ i_ : Nat, b_ < sz → (y302_2) (pr b_ i_) = (v_0 302) (pr b_ i_)) ∧ (∀ j_ : Int, 0 ≤ j_ → j_ < 200 → gC_ (y302_2) (T_2 26 o) j_ = -2)))) := by
  refine KA.ofv (by decide) (Nat.le_of_ble_eq_true rfl) hO ?_
  intro p e s m below meth c ls ar QW A0 H locs E hK hZ hA hAc hsz hszH_ hnm hw hlo_ hl hret
  have hl : lv_has ls 3 [(0, .ref o), (1, .int (J v_a)), (2, .int (J v_b))] := hl
  have hT : WT T := hw.1.2.1
  have hoT_ : OW T T s.heap.size := OW.rf T _
  have hC_ : ∀ b, b < sz → T 0 b ≠ 10 → T 0 b ≠ 24 → T 0 b ≠ 26 → b ≠ o → ∀ j, j ≠ 197 → T j b = T j b := fun _ _ _ _ _ _ _ _ => rfl
  have hR_ : ∀ b, b < sz → b ≠ o → ∀ k, T k b = T k b := fun b _ _ k => rfl
  refine j_aload_n E 1 rfl dX0_init_0 rfl (lv_at hl 0 rfl) ?_
  refine W.objInit E.1 E.2.1 E.2.2.2.1 (E.2.2.2.2.1 _ mo_X0_3) (E.2.2.2.2.1 _ im_ob) (E.2.2.2.2.1 _ cd_ob) rfl (by rw [E.2.2.1]; exact hl.1) rfl dX0_init_1 (Nat.le_of_ble_eq_true rfl) (Nat.le_of_ble_eq_true rfl) ?_
  show W p l e (rmd 2 1 200) s m ar below meth c H locs _ _ QW (F0 m 4 ls [])
  refine j_aload_n E 5 rfl dX0_init_4 rfl (lv_at hl 0 rfl) ?_
  refine j_iconst E 6 rfl dX0_init_5 ?_
  refine rp_22 E hK hw fl_X0_9 t_o (rr (by decide)) 9 rfl dX0_init_6 (fun H locs hw => ?_)
  have hw : WK D cy T (upV v_0 22 (upB (v_0 22) o 0)) A0 s.heap H locs := cw_eq hw (by first | rfl | (funext j_; simp only [upV, reduceIte]; (repeat' split) <;> first | rfl | omega | (subst_vars; rfl)))
  refine j_aload_n E 10 rfl dX0_init_9 rfl (lv_at hl 0 rfl) ?_
  refine j_iconst E 11 rfl dX0_init_10 ?_
  refine rp_23 E hK hw fl_X0_15 t_o (rr (by decide)) 14 rfl dX0_init_11 (fun H locs hw => ?_)
  have hw : WK D cy T (upV (upV v_0 22 (upB (v_0 22) o 0)) 23 (upB (v_0 23) o ((-1)))) A0 s.heap H locs := cw_eq hw (by first | rfl | (funext j_; simp only [upV, reduceIte]; (repeat' split) <;> first | rfl | omega | (subst_vars; rfl)))
  refine j_aload_n E 15 rfl dX0_init_14 rfl (lv_at hl 0 rfl) ?_
  refine j_iconst E 16 rfl dX0_init_15 ?_
  refine rp_24 E hK hw fl_X0_18 t_o (rr (by decide)) 19 rfl dX0_init_16 (fun H locs hw => ?_)
  have hw : WK D cy T (upV (upV (upV v_0 22 (upB (v_0 22) o 0)) 23 (upB (v_0 23) o ((-1)))) 24 (upB (v_0 24) o 0)) A0 s.heap H locs := cw_eq hw (by first | rfl | (funext j_; simp only [upV, reduceIte]; (repeat' split) <;> first | rfl | omega | (subst_vars; rfl)))
  refine j_aload_n E 20 rfl dX0_init_19 rfl (lv_at hl 0 rfl) ?_
  refine j_iconst E 21 rfl dX0_init_20 ?_
  refine rp_25 E hK hw fl_X0_21 t_o (rr (by decide)) 24 rfl dX0_init_21 (fun H locs hw => ?_)
  have hw : WK D cy T (upV (upV (upV (upV v_0 22 (upB (v_0 22) o 0)) 23 (upB (v_0 23) o ((-1)))) 24 (upB (v_0 24) o 0)) 25 (upB (v_0 25) o ((-1)))) A0 s.heap H locs := cw_eq hw (by first | rfl | (funext j_; simp only [upV, reduceIte]; (repeat' split) <;> first | rfl | omega | (subst_vars; rfl)))
  refine j_aload_n E 25 rfl dX0_init_24 rfl (lv_at hl 0 rfl) ?_
  refine j_sipush E 28 rfl dX0_init_25 (by decide) ?_
  have hw0_ := hw
  refine n_arr22 E hK hw hA (300 * o + 26) 200 (by decide) (by decide) (Nat.le_of_ble_eq_true rfl) (Nat.le_of_ble_eq_true rfl) 30 rfl dX0_init_28 (fun q5_ T5_ y302_5 H hge5_ hx5_ ho5_ tq5_ tl5_ tw5_ yz5_ yo5_ hw => ?_)
  have fq5_ : s.heap.size ≤ q5_ := Nat.le_trans hw0_.2.2.1 hge5_
  have hw : WK D cy T5_ (upV (upV (upV (upV (upV v_0 22 (upB (v_0 22) o 0)) 23 (upB (v_0 23) o ((-1)))) 24 (upB (v_0 24) o 0)) 25 (upB (v_0 25) o ((-1)))) 302 y302_5) A0 s.heap H locs := cw_eq hw (by first | rfl | (funext j_; simp only [upV, reduceIte]; (repeat' split) <;> first | rfl | omega | (subst_vars; rfl)))
  have yo5_ : ∀ b, b ≠ q5_ → ∀ i, y302_5 (pr b i) = v_0 302 (pr b i) := yo5_
  have yo2_ := yo5_
  have nq2_ : ∀ b_ : Nat, b_ < sz → b_ ≠ q5_ := fun b_ h_ => by have := fq5_; omega
  have hT5_ : WT T5_ := hw.1.2.1
  have hO5_ : ∀ x, ow T5_ x → κ 2 2 ≤ x := fun x h => hAc x (hw.2.1 x h)
  have hoT_ : OW T T5_ s.heap.size := OW.tr hw0_.2.2.1 hoT_ ho5_
  have hC_ : ∀ b, b < sz → T 0 b ≠ 10 → T 0 b ≠ 24 → T 0 b ≠ 26 → b ≠ o → ∀ j, j ≠ 197 → T5_ j b = T j b := fun b_ h1_ h2_ h3_ h4_ h5_ j_ h6_ => (hx5_ b_ (by have := hw0_.2.2.1; have := hge5_; omega) j_).trans (hC_ b_ h1_ h2_ h3_ h4_ h5_ j_ h6_)
  have hR_ : ∀ b, b < sz → b ≠ o → ∀ k, T5_ k b = T k b := fun b_ h1_ h2_ k_ => (hx5_ b_ (by have := hw0_.2.2.1; have := hge5_; omega) k_).trans (hR_ b_ h1_ h2_ k_)
  have u6_ : T5_ 0 o = 101 := (hx5_ o (Nat.ne_of_lt (Nat.lt_of_lt_of_le (cw_lt hw0_.1 t_o (fun _ _ _ => ⟨_, rfl⟩)) hge5_)) 0).trans t_o
  have hw0_ := hw
  refine rr_26 E hK hw hnm fl_X0_24 u6_ 33 rfl dX0_init_30 (fun T7_ H locs hx7_ hj7_ hk7_ ho7_ hw => ?_)
  have hT7_ : WT T7_ := hw.1.2.1
  have hO7_ : ∀ x, ow T7_ x → κ 2 2 ≤ x := fun x h => hAc x (hw.2.1 x h)
  have hoT_ : OW T T7_ s.heap.size := OW.tr0 hoT_ ho7_
  have hC_ : ∀ b, b < sz → T 0 b ≠ 10 → T 0 b ≠ 24 → T 0 b ≠ 26 → b ≠ o → ∀ j, j ≠ 197 → T7_ j b = T j b := fun b_ h1_ h2_ h3_ h4_ h5_ j_ h6_ => (hx7_ b_ h5_ j_).trans (hC_ b_ h1_ h2_ h3_ h4_ h5_ j_ h6_)
  have hR_ : ∀ b, b < sz → b ≠ o → ∀ k, T7_ k b = T k b := fun b_ h1_ h2_ k_ => (hx7_ b_ h2_ k_).trans (hR_ b_ h1_ h2_ k_)
  have u8_ : T7_ 0 o = 101 := (hj7_ 0 (by decide)).trans u6_
  have u9_ : T7_ 0 q5_ = 22 := (hx7_ q5_ (ty_ne tq5_ u6_ (by decide)) 0).trans tq5_
  have u10_ : T7_ 1 q5_ = 200 := (hx7_ q5_ (ty_ne tq5_ u6_ (by decide)) 1).trans tl5_
  have u11_ : T7_ 3 q5_ = 300 * o + 26 := (hx7_ q5_ (ty_ne tq5_ u6_ (by decide)) 3).trans tw5_
  refine j_aload_n E 34 rfl dX0_init_33 rfl (lv_at hl 0 rfl) ?_
  refine j_iload_n E 35 rfl dX0_init_34 rfl (lv_at hl 1 rfl) ?_
  refine rp_20 E hK hw hnm fl_X0_28 u8_ r_v_a 38 rfl dX0_init_35 (fun H locs hw => ?_)
  have hw : WK D cy T7_ (upV (upV (upV (upV (upV (upV v_0 20 (upB (v_0 20) o v_a)) 22 (upB (v_0 22) o 0)) 23 (upB (v_0 23) o ((-1)))) 24 (upB (v_0 24) o 0)) 25 (upB (v_0 25) o ((-1)))) 302 y302_5) A0 s.heap H locs := cw_eq hw (by first | rfl | exact (funext fun j_ => if a20_ : j_ = 20 then (by subst a20_; rfl) else if a22_ : j_ = 22 then (by subst a22_; rfl) else if a23_ : j_ = 23 then (by subst a23_; rfl) else if a24_ : j_ = 24 then (by subst a24_; rfl) else if a25_ : j_ = 25 then (by subst a25_; rfl) else if a302_ : j_ = 302 then (by subst a302_; rfl) else (by simp only [upV, if_neg a20_, if_neg a22_, if_neg a23_, if_neg a24_, if_neg a25_, if_neg a302_])))
  refine j_aload_n E 39 rfl dX0_init_38 rfl (lv_at hl 0 rfl) ?_
  refine j_iload_n E 40 rfl dX0_init_39 rfl (lv_at hl 2 rfl) ?_
  refine rp_21 E hK hw hnm fl_X0_31 u8_ r_v_b (by omega) 43 rfl dX0_init_40 (fun H locs hw => ?_)
  have hw : WK D cy T7_ (upV (upV (upV (upV (upV (upV (upV v_0 20 (upB (v_0 20) o v_a)) 21 (upB (v_0 21) o v_b)) 22 (upB (v_0 22) o 0)) 23 (upB (v_0 23) o ((-1)))) 24 (upB (v_0 24) o 0)) 25 (upB (v_0 25) o ((-1)))) 302 y302_5) A0 s.heap H locs := cw_eq hw (by first | rfl | exact (funext fun j_ => if a20_ : j_ = 20 then (by subst a20_; rfl) else if a21_ : j_ = 21 then (by subst a21_; rfl) else if a22_ : j_ = 22 then (by subst a22_; rfl) else if a23_ : j_ = 23 then (by subst a23_; rfl) else if a24_ : j_ = 24 then (by subst a24_; rfl) else if a25_ : j_ = 25 then (by subst a25_; rfl) else if a302_ : j_ = 302 then (by subst a302_; rfl) else (by simp only [upV, if_neg a20_, if_neg a21_, if_neg a22_, if_neg a23_, if_neg a24_, if_neg a25_, if_neg a302_])))
  have hw0_ := hw
  obtain ⟨T14_, hx14_, tq14_, xe14_26_, ho14_, hw⟩ := pm_1 hw u8_ hk7_ u9_ u10_ u11_
  have hT14_ : WT T14_ := hw.1.2.1
  have hO14_ : ∀ x, ow T14_ x → κ 2 2 ≤ x := fun x h => hAc x (hw.2.1 x h)
  have hoT_ : OW T T14_ s.heap.size := OW.tr0 hoT_ ho14_
  have hC_ : ∀ b, b < sz → T 0 b ≠ 10 → T 0 b ≠ 24 → T 0 b ≠ 26 → b ≠ o → ∀ j, j ≠ 197 → T14_ j b = T j b := fun b_ h1_ h2_ h3_ h4_ h5_ j_ h6_ => (hx14_ b_ h5_ j_).trans (hC_ b_ h1_ h2_ h3_ h4_ h5_ j_ h6_)
  have hR_ : ∀ b, b < sz → b ≠ o → ∀ k, T14_ k b = T k b := fun b_ h1_ h2_ k_ => (hx14_ b_ h2_ k_).trans (hR_ b_ h1_ h2_ k_)
  have u15_ : T14_ 1 q5_ = 200 := (hx14_ q5_ (ty_ne u9_ u8_ (by decide)) 1).trans u10_
  refine j_aload_n E 44 rfl dX0_init_43 rfl (lv_at hl 0 rfl) ?_
  refine g_26 E hK hw fl_X0_24 tq14_ 47 rfl dX0_init_44 ?_
  have ln16_ := wl_26 hT14_ tq14_
  refine j_bipush E 49 rfl dX0_init_47 (by decide) ?_
  refine kS_v E (c_J7_fill_031fb l D cy T14_ (upV (upV (upV (upV (upV (upV (upV v_0 20 (upB (v_0 20) o v_a)) 21 (upB (v_0 21) o v_b)) 22 (upB (v_0 22) o 0)) 23 (upB (v_0 23) o ((-1)))) 24 (upB (v_0 24) o 0)) 25 (upB (v_0 25) o ((-1)))) 302 y302_5) (T14_ 26 o) ((-2))   (wt_26 hT14_ tq14_) (rr (by decide)) (show -128 ≤ (-2 : Int) ∧ (-2 : Int) ≤ 127 from by omega)) ms_J7_fill_031fb ml_X0_35 hK hw hA ⟨Nat.le_of_ble_eq_true rfl, Nat.le_of_ble_eq_true rfl⟩ ⟨Nat.le_of_ble_eq_true rfl, Nat.le_of_ble_eq_true rfl⟩ (As := [.ref (T14_ 26 o), .int (J ((-2)))]) (rest := []) rfl rfl hl.1 (Nat.le_of_ble_eq_true rfl) 52 rfl dX0_init_49 (fun v_17 H locs hq17_ hw => ?_)
  obtain ⟨y302_17, ev17_, hh17_⟩ := hq17_
  rw [ev17_] at hw; clear ev17_
  have hw : WK D cy T14_ (upV (upV (upV (upV (upV (upV (upV v_0 20 (upB (v_0 20) o v_a)) 21 (upB (v_0 21) o v_b)) 22 (upB (v_0 22) o 0)) 23 (upB (v_0 23) o ((-1)))) 24 (upB (v_0 24) o 0)) 25 (upB (v_0 25) o ((-1)))) 302 y302_17) A0 s.heap H locs := cw_eq hw (by first | rfl | exact (funext fun j_ => if a20_ : j_ = 20 then (by subst a20_; rfl) else if a21_ : j_ = 21 then (by subst a21_; rfl) else if a22_ : j_ = 22 then (by subst a22_; rfl) else if a23_ : j_ = 23 then (by subst a23_; rfl) else if a24_ : j_ = 24 then (by subst a24_; rfl) else if a25_ : j_ = 25 then (by subst a25_; rfl) else if a302_ : j_ = 302 then (by subst a302_; rfl) else (by simp only [upV, if_neg a20_, if_neg a21_, if_neg a22_, if_neg a23_, if_neg a24_, if_neg a25_, if_neg a302_])))
  replace hh17_ : (∀ j_, 0 ≤ j_ → j_ < (T14_ 1 (T14_ 26 o) : Int) → gC_ (y302_17) (T14_ 26 o) j_ = (-2 : Int)) ∧ Ro_ (y302_5) (y302_17) (T14_ 26 o) := hh17_
  have fi_ := hh17_
  clear hh17_
  exact hret 52 T14_ (upV (upV (upV (upV (upV (upV (upV v_0 20 (upB (v_0 20) o v_a)) 21 (upB (v_0 21) o v_b)) 22 (upB (v_0 22) o 0)) 23 (upB (v_0 23) o ((-1)))) 24 (upB (v_0 24) o 0)) 25 (upB (v_0 25) o ((-1)))) 302 y302_17) _ _ ls _ _ hw hoT_ ⟨(upB (v_0 20) o v_a), (upB (v_0 21) o v_b), (upB (v_0 22) o 0), (upB (v_0 23) o ((-1))), (upB (v_0 24) o 0), (upB (v_0 25) o ((-1))), y302_17, rfl, ⟨hR_, tq14_, rfl, rfl, rfl, rfl, rfl, rfl, fun b_ i_ h_ => (fi_.2 b_ (by rw [xe14_26_]; exact nq2_ b_ h_) i_).trans (yo2_ b_ (nq2_ b_ h_) i_), fun j_ h1_ h2_ => fi_.1 j_ h1_ (by rw [xe14_26_, u15_]; omega)⟩⟩ (Nat.le_of_ble_eq_true rfl) (Nat.le_of_ble_eq_true rfl) dX0_init_52
set_option maxHeartbeats 4000000 in
set_option maxRecDepth 100000 in
theorem n_X6_init_n2 (l : Launch) (D : va_G) (cy : Nat → ClassId) (κ T : Nat → Nat → Nat) (v_0 : Nat → Nat → Int) (o : Nat) (v_a : Int) (v_b : Int) (v_c : Int) (v_d : Int) (v_e : Int) (v_f : Int) (sz : Nat) (hO : ∀ x, ow T x → κ 2 2 ≤ x) (t_o : T 0 o = 107) (r_v_a : inR v_a) (r_v_b : inR v_b) (r_v_c : inR v_c) (r_v_d : inR v_d) (r_v_e : inR v_e) (r_v_f : inR v_f) : KA l D cy κ T yX6_init cX6_init 7 none 1 0 0 [.ref o, .int (J v_a), .int (J v_b), .int (J v_c), .int (J v_d), .int (J v_e), .int (J v_f)] v_0 sz (AV (fun (T_2 : Nat → Nat → Nat) (v_2 : Nat → Nat → Int) => ∃ (y140_2 : Nat → Int) (y141_2 : Nat → Int) (y142_2 : Nat → Int) (y143_2 : Nat → Int) (y144_2 : Nat → Int) (y145_2 : Nat → Int) (y146_2 : Nat → Int) , v_2 = upV (upV (upV (upV (upV (upV (upV v_0 140 y140_2) 141 y141_2) 142 y142_2) 143 y143_2) 144 y144_2) 145 y145_2) 146 y146_2 ∧ ((∀ b, b < sz → b ≠ o → ∀ k, T_2 k b = T k b) ∧ T_2 0 o = 7 ∧ (y140_2) = upB (v_0 140) o v_a ∧ (y141_2) = upB (v_0 141) o v_b ∧ (y142_2) = upB (v_0 142) o v_c ∧ (y143_2) = upB (v_0 143) o v_d ∧ (y144_2) = upB (v_0 144) o v_e ∧ (y145_2) = upB (v_0 145) o v_f ∧ (y146_2) = upB (v_0 146) o 0))) := by
  refine KA.ofv (by decide) (Nat.le_of_ble_eq_true rfl) hO ?_
  intro p e s m below meth c ls ar QW A0 H locs E hK hZ hA hAc hsz hszH_ hnm hw hlo_ hl hret
  have hl : lv_has ls 7 [(0, .ref o), (1, .int (J v_a)), (2, .int (J v_b)), (3, .int (J v_c)), (4, .int (J v_d)), (5, .int (J v_e)), (6, .int (J v_f))] := hl
  have hT : WT T := hw.1.2.1
  have hoT_ : OW T T s.heap.size := OW.rf T _
  have hC_ : ∀ b, b < sz → T 0 b ≠ 10 → T 0 b ≠ 24 → T 0 b ≠ 26 → b ≠ o → ∀ j, j ≠ 197 → T j b = T j b := fun _ _ _ _ _ _ _ _ => rfl
  have hR_ : ∀ b, b < sz → b ≠ o → ∀ k, T k b = T k b := fun b _ _ k => rfl
  refine j_aload_n E 1 rfl dX6_init_0 rfl (lv_at hl 0 rfl) ?_
  refine W.objInit E.1 E.2.1 E.2.2.2.1 (E.2.2.2.2.1 _ mo_X6_3) (E.2.2.2.2.1 _ im_ob) (E.2.2.2.2.1 _ cd_ob) rfl (by rw [E.2.2.1]; exact hl.1) rfl dX6_init_1 (Nat.le_of_ble_eq_true rfl) (Nat.le_of_ble_eq_true rfl) ?_
  show W p l e (rmd 1 0 0) s m ar below meth c H locs _ _ QW (F0 m 4 ls [])
  refine j_aload_n E 5 rfl dX6_init_4 rfl (lv_at hl 0 rfl) ?_
  refine j_iconst E 6 rfl dX6_init_5 ?_
  refine rp_146 E hK hw fl_X6_9 t_o (rr (by decide)) (Or.inl rfl) 9 rfl dX6_init_6 (fun H locs hw => ?_)
  have hw : WK D cy T (upV v_0 146 (upB (v_0 146) o 0)) A0 s.heap H locs := cw_eq hw (by first | rfl | (funext j_; simp only [upV, reduceIte]; (repeat' split) <;> first | rfl | omega | (subst_vars; rfl)))
  refine j_aload_n E 10 rfl dX6_init_9 rfl (lv_at hl 0 rfl) ?_
  refine j_iload_n E 11 rfl dX6_init_10 rfl (lv_at hl 1 rfl) ?_
  refine rp_140 E hK hw hnm fl_X6_15 t_o r_v_a 14 rfl dX6_init_11 (fun H locs hw => ?_)
  have hw : WK D cy T (upV (upV v_0 140 (upB (v_0 140) o v_a)) 146 (upB (v_0 146) o 0)) A0 s.heap H locs := cw_eq hw (by first | rfl | (funext j_; simp only [upV, reduceIte]; (repeat' split) <;> first | rfl | omega | (subst_vars; rfl)))
  refine j_aload_n E 15 rfl dX6_init_14 rfl (lv_at hl 0 rfl) ?_
  refine j_iload_n E 16 rfl dX6_init_15 rfl (lv_at hl 2 rfl) ?_
  refine rp_141 E hK hw hnm fl_X6_19 t_o r_v_b 19 rfl dX6_init_16 (fun H locs hw => ?_)
  have hw : WK D cy T (upV (upV (upV v_0 140 (upB (v_0 140) o v_a)) 141 (upB (v_0 141) o v_b)) 146 (upB (v_0 146) o 0)) A0 s.heap H locs := cw_eq hw (by first | rfl | (funext j_; simp only [upV, reduceIte]; (repeat' split) <;> first | rfl | omega | (subst_vars; rfl)))
  refine j_aload_n E 20 rfl dX6_init_19 rfl (lv_at hl 0 rfl) ?_
  refine j_iload_n E 21 rfl dX6_init_20 rfl (lv_at hl 3 rfl) ?_
  refine rp_142 E hK hw hnm fl_X6_22 t_o r_v_c 24 rfl dX6_init_21 (fun H locs hw => ?_)
  have hw : WK D cy T (upV (upV (upV (upV v_0 140 (upB (v_0 140) o v_a)) 141 (upB (v_0 141) o v_b)) 142 (upB (v_0 142) o v_c)) 146 (upB (v_0 146) o 0)) A0 s.heap H locs := cw_eq hw (by first | rfl | (funext j_; simp only [upV, reduceIte]; (repeat' split) <;> first | rfl | omega | (subst_vars; rfl)))
  refine j_aload_n E 25 rfl dX6_init_24 rfl (lv_at hl 0 rfl) ?_
  refine j_iload E 27 rfl dX6_init_25 (lv_at hl 4 rfl) ?_
  refine rp_143 E hK hw hnm fl_X6_25 t_o r_v_d 30 rfl dX6_init_27 (fun H locs hw => ?_)
  have hw : WK D cy T (upV (upV (upV (upV (upV v_0 140 (upB (v_0 140) o v_a)) 141 (upB (v_0 141) o v_b)) 142 (upB (v_0 142) o v_c)) 143 (upB (v_0 143) o v_d)) 146 (upB (v_0 146) o 0)) A0 s.heap H locs := cw_eq hw (by first | rfl | (funext j_; simp only [upV, reduceIte]; (repeat' split) <;> first | rfl | omega | (subst_vars; rfl)))
  refine j_aload_n E 31 rfl dX6_init_30 rfl (lv_at hl 0 rfl) ?_
  refine j_iload E 33 rfl dX6_init_31 (lv_at hl 5 rfl) ?_
  refine rp_144 E hK hw hnm fl_X6_28 t_o r_v_e 36 rfl dX6_init_33 (fun H locs hw => ?_)
  have hw : WK D cy T (upV (upV (upV (upV (upV (upV v_0 140 (upB (v_0 140) o v_a)) 141 (upB (v_0 141) o v_b)) 142 (upB (v_0 142) o v_c)) 143 (upB (v_0 143) o v_d)) 144 (upB (v_0 144) o v_e)) 146 (upB (v_0 146) o 0)) A0 s.heap H locs := cw_eq hw (by first | rfl | exact (funext fun j_ => if a140_ : j_ = 140 then (by subst a140_; rfl) else if a141_ : j_ = 141 then (by subst a141_; rfl) else if a142_ : j_ = 142 then (by subst a142_; rfl) else if a143_ : j_ = 143 then (by subst a143_; rfl) else if a144_ : j_ = 144 then (by subst a144_; rfl) else if a146_ : j_ = 146 then (by subst a146_; rfl) else (by simp only [upV, if_neg a140_, if_neg a141_, if_neg a142_, if_neg a143_, if_neg a144_, if_neg a146_])))
  refine j_aload_n E 37 rfl dX6_init_36 rfl (lv_at hl 0 rfl) ?_
  refine j_iload E 39 rfl dX6_init_37 (lv_at hl 6 rfl) ?_
  refine rp_145 E hK hw hnm fl_X6_31 t_o r_v_f 42 rfl dX6_init_39 (fun H locs hw => ?_)
  have hw : WK D cy T (upV (upV (upV (upV (upV (upV (upV v_0 140 (upB (v_0 140) o v_a)) 141 (upB (v_0 141) o v_b)) 142 (upB (v_0 142) o v_c)) 143 (upB (v_0 143) o v_d)) 144 (upB (v_0 144) o v_e)) 145 (upB (v_0 145) o v_f)) 146 (upB (v_0 146) o 0)) A0 s.heap H locs := cw_eq hw (by first | rfl | exact (funext fun j_ => if a140_ : j_ = 140 then (by subst a140_; rfl) else if a141_ : j_ = 141 then (by subst a141_; rfl) else if a142_ : j_ = 142 then (by subst a142_; rfl) else if a143_ : j_ = 143 then (by subst a143_; rfl) else if a144_ : j_ = 144 then (by subst a144_; rfl) else if a145_ : j_ = 145 then (by subst a145_; rfl) else if a146_ : j_ = 146 then (by subst a146_; rfl) else (by simp only [upV, if_neg a140_, if_neg a141_, if_neg a142_, if_neg a143_, if_neg a144_, if_neg a145_, if_neg a146_])))
  have hw0_ := hw
  obtain ⟨T8_, hx8_, tq8_, ho8_, hw⟩ := pm_7 hw t_o 
  have hT8_ : WT T8_ := hw.1.2.1
  have hO8_ : ∀ x, ow T8_ x → κ 2 2 ≤ x := fun x h => hAc x (hw.2.1 x h)
  have hoT_ : OW T T8_ s.heap.size := OW.tr0 hoT_ ho8_
  have hC_ : ∀ b, b < sz → T 0 b ≠ 10 → T 0 b ≠ 24 → T 0 b ≠ 26 → b ≠ o → ∀ j, j ≠ 197 → T8_ j b = T j b := fun b_ h1_ h2_ h3_ h4_ h5_ j_ h6_ => (hx8_ b_ h5_ j_).trans (hC_ b_ h1_ h2_ h3_ h4_ h5_ j_ h6_)
  have hR_ : ∀ b, b < sz → b ≠ o → ∀ k, T8_ k b = T k b := fun b_ h1_ h2_ k_ => (hx8_ b_ h2_ k_).trans (hR_ b_ h1_ h2_ k_)
  exact hret 42 T8_ (upV (upV (upV (upV (upV (upV (upV v_0 140 (upB (v_0 140) o v_a)) 141 (upB (v_0 141) o v_b)) 142 (upB (v_0 142) o v_c)) 143 (upB (v_0 143) o v_d)) 144 (upB (v_0 144) o v_e)) 145 (upB (v_0 145) o v_f)) 146 (upB (v_0 146) o 0)) _ _ ls _ _ hw hoT_ ⟨(upB (v_0 140) o v_a), (upB (v_0 141) o v_b), (upB (v_0 142) o v_c), (upB (v_0 143) o v_d), (upB (v_0 144) o v_e), (upB (v_0 145) o v_f), (upB (v_0 146) o 0), rfl, ⟨hR_, tq8_, rfl, rfl, rfl, rfl, rfl, rfl, rfl⟩⟩ (Nat.le_of_ble_eq_true rfl) (Nat.le_of_ble_eq_true rfl) dX6_init_42
set_option maxHeartbeats 4000000 in
set_option maxRecDepth 100000 in
theorem n_X9_person (l : Launch) (D : va_G) (cy : Nat → ClassId) (κ T : Nat → Nat → Nat) (v_0 : Nat → Nat → Int) (o : Nat) (v_q : Int) (v_f : Int) (v_b : Int) (sz : Nat) (hO : ∀ x, ow T x → κ 2 2 ≤ x) (t_o : T 0 o = 9) (r_v_q : inR v_q) (r_v_f : inR v_f) (r_v_b : inR v_b) (hp0 : ∀ x, T 0 x = 26 → x = κ 2 0) : KA l D cy κ T yX9_person cX9_person 5 (some .int) 8 5 500 [.ref o, .int (J v_q), .int (J v_f), .int (J v_b)] v_0 sz (AI (fun (z_0 : Int) (T_2 : Nat → Nat → Nat) (v_2 : Nat → Nat → Int) => (T_2 0 o = 9 ∧ (T_2 180 o = T 180 o ∧ T_2 181 o = T 181 o ∧ T_2 182 o = T 182 o ∧ T_2 183 o = T 183 o ∧ T_2 185 o = T 185 o) ∧ v_2 186 o = v_0 186 o ∧ v_2 187 o = v_0 187 o ∧ v_2 190 o = v_0 190 o ∧ v_2 191 o = v_0 191 o ∧ v_2 303 = v_0 303 ∧ v_2 202 (T 181 o) = v_0 202 (T 181 o) ∧ v_2 202 (T 182 o) = v_0 202 (T 182 o) ∧ v_2 202 (T 183 o) = v_0 202 (T 183 o) ∧ (∀ b, b < sz → T 0 b ≠ 10 → T 0 b ≠ 24 → T 0 b ≠ 26 → b ≠ o → ∀ j, j ≠ 197 → T_2 j b = T j b) ∧ (∀ i_ : Nat, T_2 (1000 + i_) (T_2 201 (T_2 181 o)) = T (1000 + i_) (T 201 (T 181 o))) ∧ (∀ i_ : Nat, T_2 (1000 + i_) (T_2 201 (T_2 182 o)) = T (1000 + i_) (T 201 (T 182 o))) ∧ (∀ i_ : Nat, T_2 (1000 + i_) (T_2 201 (T_2 183 o)) = T (1000 + i_) (T 201 (T 183 o))) ∧ v_2 25 = v_0 25 ∧ v_2 302 = v_0 302 ∧ v_2 160 = v_0 160 ∧ v_2 20 = v_0 20 ∧ v_2 21 = v_0 21 ∧ v_2 22 = v_0 22 ∧ v_2 23 = v_0 23 ∧ v_2 24 = v_0 24 ∧ v_2 140 = v_0 140 ∧ v_2 141 = v_0 141 ∧ v_2 142 = v_0 142 ∧ v_2 143 = v_0 143 ∧ v_2 144 = v_0 144 ∧ v_2 145 = v_0 145 ∧ v_2 146 = v_0 146 ∧ v_2 188 = v_0 188 ∧ v_2 189 = v_0 189 ∧ v_2 301 = v_0 301 ∧ T_2 184 o = T 184 o ∧ ((z_0 = -1 ∧ (v_q < 0 ∨ 3 < v_q ∨ v_f < 0 ∨ 7 < v_f ∨ v_b < -90 ∨ v_0 187 o < v_b ∨ 24 ≤ v_0 202 (T 180 o)) ∧ v_2 202 (T 180 o) = v_0 202 (T 180 o) ∧ (∀ i_ : Nat, T_2 (1000 + i_) (T_2 201 (T_2 180 o)) = T (1000 + i_) (T 201 (T 180 o))) ∧ v_2 40 = v_0 40 ∧ v_2 41 = v_0 41 ∧ v_2 42 = v_0 42 ∧ v_2 43 = v_0 43 ∧ v_2 44 = v_0 44 ∧ v_2 45 = v_0 45) ∨ (z_0 = v_0 202 (T 180 o) ∧ (0 ≤ v_q ∧ v_q ≤ 3 ∧ 0 ≤ v_f ∧ v_f ≤ 7 ∧ -90 ≤ v_b ∧ v_b ≤ v_0 187 o ∧ v_0 202 (T 180 o) < 24) ∧ v_2 202 (T 180 o) = v_0 202 (T 180 o) + 1 ∧ ∃ q_ : Nat, (∀ i_ : Nat, (i_ : Int) < v_0 202 (T 180 o) → ∀ y_ : Nat, T (1000 + i_) (T 201 (T 180 o)) = y_ + 1 → y_ ≠ q_) ∧ (∀ i_ : Nat, (i_ : Int) < v_0 202 (T 180 o) → T_2 (1000 + i_) (T_2 201 (T_2 180 o)) = T (1000 + i_) (T 201 (T 180 o))) ∧ T_2 (1000 + (v_0 202 (T 180 o)).toNat) (T_2 201 (T_2 180 o)) = q_ + 1 ∧ (∀ y_ : Nat, y_ ≠ q_ → v_2 40 y_ = v_0 40 y_ ∧ v_2 41 y_ = v_0 41 y_ ∧ v_2 42 y_ = v_0 42 y_ ∧ v_2 43 y_ = v_0 43 y_ ∧ v_2 44 y_ = v_0 44 y_) ∧ v_2 40 q_ = v_q ∧ v_2 41 q_ = v_f ∧ v_2 42 q_ = v_b ∧ v_2 43 q_ = -1 ∧ v_2 44 q_ = 0 ∧ (∀ y_ : Nat, y_ ≠ q_ → v_2 45 y_ = v_0 45 y_) ∧ v_2 45 q_ = -1 ∧ (∀ j_ : Int, 0 ≤ j_ → j_ < 24 → gC_ (v_2 300) (T_2 46 q_) j_ = -1 ∧ gC_ (v_2 300) (T_2 47 q_) j_ = 0 ∧ gC_ (v_2 300) (T_2 48 q_) j_ = -1)))) ∧ KdA_ T sz [] (v_0 300) (v_2 300))) := by
  refine KA.ofi (by decide) (Nat.le_of_ble_eq_true rfl) hO ?_
  intro p e s m below meth c ls ar QW A0 H locs E hK hZ hA hAc hsz hszH_ hnm hw hlo_ hl hret
  have hl : lv_has ls 5 [(0, .ref o), (1, .int (J v_q)), (2, .int (J v_f)), (3, .int (J v_b))] := hl
  have hT : WT T := hw.1.2.1
  have hoT_ : OW T T s.heap.size := OW.rf T _
  have hC_ : ∀ b, b < sz → T 0 b ≠ 10 → T 0 b ≠ 24 → T 0 b ≠ 26 → b ≠ o → ∀ j, j ≠ 197 → T j b = T j b := fun _ _ _ _ _ _ _ _ => rfl
  have tl180_ : T 0 (T 180 o) = 10 := wt_180 hT t_o
  have tx180_ : T 0 (T 201 (T 180 o)) = 24 ∨ T 0 (T 201 (T 180 o)) = 26 := (wt10 hT tl180_).1
  have B180_ : ∀ j, j ≠ 197 → T j (T 180 o) = T j (T 180 o) := fun _ _ => rfl
  have A180_ : ∀ j, j ≠ 197 → T j (T 201 (T 180 o)) = T j (T 201 (T 180 o)) := fun _ _ => rfl
  have tl181_ : T 0 (T 181 o) = 10 := wt_181 hT t_o
  have tx181_ : T 0 (T 201 (T 181 o)) = 24 ∨ T 0 (T 201 (T 181 o)) = 26 := (wt10 hT tl181_).1
  have B181_ : ∀ j, j ≠ 197 → T j (T 181 o) = T j (T 181 o) := fun _ _ => rfl
  have A181_ : ∀ j, j ≠ 197 → T j (T 201 (T 181 o)) = T j (T 201 (T 181 o)) := fun _ _ => rfl
  have tl182_ : T 0 (T 182 o) = 10 := wt_182 hT t_o
  have tx182_ : T 0 (T 201 (T 182 o)) = 24 ∨ T 0 (T 201 (T 182 o)) = 26 := (wt10 hT tl182_).1
  have B182_ : ∀ j, j ≠ 197 → T j (T 182 o) = T j (T 182 o) := fun _ _ => rfl
  have A182_ : ∀ j, j ≠ 197 → T j (T 201 (T 182 o)) = T j (T 201 (T 182 o)) := fun _ _ => rfl
  have tl183_ : T 0 (T 183 o) = 10 := wt_183 hT t_o
  have tx183_ : T 0 (T 201 (T 183 o)) = 24 ∨ T 0 (T 201 (T 183 o)) = 26 := (wt10 hT tl183_).1
  have B183_ : ∀ j, j ≠ 197 → T j (T 183 o) = T j (T 183 o) := fun _ _ => rfl
  have A183_ : ∀ j, j ≠ 197 → T j (T 201 (T 183 o)) = T j (T 201 (T 183 o)) := fun _ _ => rfl
  have hwI_ := hw
  have L24_1 : ∀ (s0_24 : Int) (H : Heap) (locs : List Loc) (ls : Array Slot), inR s0_24 → ((s0_24 = 0 ∧ (v_q < 0 ∨ 4 ≤ v_q ∨ v_f < 0 ∨ 8 ≤ v_f)) ∨ (s0_24 = 1 ∧ 0 ≤ v_q ∧ v_q < 4 ∧ 0 ≤ v_f ∧ v_f < 8)) → WK D cy T (v_0) A0 s.heap H locs → lv_has ls 5 [(0, .ref o), (1, .int (J v_q)), (2, .int (J v_f)), (3, .int (J v_b))] → W p l e (rmd 8 5 500) s m ar below meth c H locs 0 0 QW (F0 m 24 ls [.int (J s0_24)]) := by
    intro s0_24 H locs ls r_s0_24 iv24 hw hl
    refine j_istore E 26 rfl [(4, .int (J s0_24)), (0, .ref o), (1, .int (J v_q)), (2, .int (J v_f)), (3, .int (J v_b))] dX9_person_24 hl (by decide) rfl (fun ls hl => ?_)
    refine j_iload E 28 rfl dX9_person_26 (lv_at hl 0 rfl) ?_
    refine j_if_eq E 31 57 rfl r_s0_24 dX9_person_28 (by decide) (fun cc3_ => ?_) (fun cc3_ => ?_)
    · refine j_iconst E 58 rfl dX9_person_57 ?_
      exact hret 58 ((-1)) T _ _ _ ls _ _ hw hoT_ (rr (by decide)) (⟨⟨t_o, ⟨rfl, rfl, rfl, rfl, rfl⟩, rfl, rfl, rfl, rfl, rfl, rfl, rfl, rfl, hC_, (fun _ => rfl), (fun _ => rfl), (fun _ => rfl), rfl, rfl, rfl, rfl, rfl, rfl, rfl, rfl, rfl, rfl, rfl, rfl, rfl, rfl, rfl, rfl, rfl, rfl, rfl, Or.inl ⟨rfl, by omega, rfl, fun _ => rfl, rfl, rfl, rfl, rfl, rfl, rfl⟩⟩, KdA_rf⟩) (Nat.le_of_ble_eq_true rfl) (Nat.le_of_ble_eq_true rfl) dX9_person_58
    · refine j_iload_n E 32 rfl dX9_person_31 rfl (lv_at hl 4 rfl) ?_
      refine j_bipush E 34 rfl dX9_person_32 (by decide) ?_
      refine j_icmp_lt E 37 57 rfl r_v_b (rr (by decide)) dX9_person_34 (by decide) (fun cc4_ => ?_) (fun cc4_ => ?_)
      · refine j_iconst E 58 rfl dX9_person_57 ?_
        exact hret 58 ((-1)) T _ _ _ ls _ _ hw hoT_ (rr (by decide)) (⟨⟨t_o, ⟨rfl, rfl, rfl, rfl, rfl⟩, rfl, rfl, rfl, rfl, rfl, rfl, rfl, rfl, hC_, (fun _ => rfl), (fun _ => rfl), (fun _ => rfl), rfl, rfl, rfl, rfl, rfl, rfl, rfl, rfl, rfl, rfl, rfl, rfl, rfl, rfl, rfl, rfl, rfl, rfl, rfl, Or.inl ⟨rfl, by omega, rfl, fun _ => rfl, rfl, rfl, rfl, rfl, rfl, rfl⟩⟩, KdA_rf⟩) (Nat.le_of_ble_eq_true rfl) (Nat.le_of_ble_eq_true rfl) dX9_person_58
      · refine j_iload_n E 38 rfl dX9_person_37 rfl (lv_at hl 4 rfl) ?_
        refine j_aload_n E 39 rfl dX9_person_38 rfl (lv_at hl 1 rfl) ?_
        refine g_187 E hK hw fl_X9_37 t_o (v_0 187 o) rfl 42 rfl dX9_person_39 (fun rr5_ => ?_)
        refine j_icmp_gt E 45 57 rfl r_v_b rr5_ dX9_person_42 (by decide) (fun cc6_ => ?_) (fun cc6_ => ?_)
        · refine j_iconst E 58 rfl dX9_person_57 ?_
          exact hret 58 ((-1)) T _ _ _ ls _ _ hw hoT_ (rr (by decide)) (⟨⟨t_o, ⟨rfl, rfl, rfl, rfl, rfl⟩, rfl, rfl, rfl, rfl, rfl, rfl, rfl, rfl, hC_, (fun _ => rfl), (fun _ => rfl), (fun _ => rfl), rfl, rfl, rfl, rfl, rfl, rfl, rfl, rfl, rfl, rfl, rfl, rfl, rfl, rfl, rfl, rfl, rfl, rfl, rfl, Or.inl ⟨rfl, by omega, rfl, fun _ => rfl, rfl, rfl, rfl, rfl, rfl, rfl⟩⟩, KdA_rf⟩) (Nat.le_of_ble_eq_true rfl) (Nat.le_of_ble_eq_true rfl) dX9_person_58
        · refine j_aload_n E 46 rfl dX9_person_45 rfl (lv_at hl 1 rfl) ?_
          refine g_180 E hK hw fl_X9_12 t_o 49 rfl dX9_person_46 ?_
          refine kV_i E (c_Jx4a65c_size_8abf5 l D cy T (v_0) (T 180 o)  (wt_180 hT t_o)  ) mt_Jx4a65c_size_8abf5 ml_X9_80 hK hw (cw_rc10 hK hw.1 (wt_180 hT t_o)) hA ⟨Nat.le_of_ble_eq_true rfl, Nat.le_of_ble_eq_true rfl⟩ ⟨Nat.le_of_ble_eq_true rfl, Nat.le_of_ble_eq_true rfl⟩ (As := []) (rest := []) rfl rfl hl.1 (Nat.le_of_ble_eq_true rfl) 52 rfl dX9_person_49 (fun zz7_ v_7 H locs rr7_ hq7_ hw => ?_)
          obtain ⟨ev7_, hh7_⟩ := hq7_
          rw [ev7_] at hw; clear ev7_
          replace hh7_ : zz7_ = ((v_0 202) ((T 180 o))) ∧ 0 ≤ zz7_ := hh7_
          refine j_bipush E 54 rfl dX9_person_52 (by decide) ?_
          refine j_icmp_lt E 57 59 rfl rr7_ (rr (by decide)) dX9_person_54 (by decide) (fun cc8_ => ?_) (fun cc8_ => ?_)
          · refine j_aload_n E 60 rfl dX9_person_59 rfl (lv_at hl 1 rfl) ?_
            refine g_180 E hK hw fl_X9_12 t_o 63 rfl dX9_person_60 ?_
            have hw0_ := hw
            refine n_obj2 E hK hw hA cl_X9_84 (Nat.le_of_ble_eq_true rfl) (Nat.le_of_ble_eq_true rfl) 66 rfl dX9_person_63 (fun q9_ T9_ H hge9_ hx9_ ho9_ tq9_ hw => ?_)
            have fq9_ : s.heap.size ≤ q9_ := Nat.le_trans hw0_.2.2.1 hge9_
            have fr_ := fr_of hw0_.1 tl180_ hge9_
            have hw : WK D cy T9_ (upV (upV (upV (upV (upV (upV v_0 40 (upB (v_0 40) q9_ 0)) 41 (upB (v_0 41) q9_ 0)) 42 (upB (v_0 42) q9_ 0)) 43 (upB (v_0 43) q9_ 0)) 44 (upB (v_0 44) q9_ 0)) 45 (upB (v_0 45) q9_ 0)) A0 s.heap H locs := hw
            have hT9_ : WT T9_ := hw.1.2.1
            have hO9_ : ∀ x, ow T9_ x → κ 2 2 ≤ x := fun x h => hAc x (hw.2.1 x h)
            have hoT_ : OW T T9_ s.heap.size := OW.tr hw0_.2.2.1 hoT_ ho9_
            have hC_ : ∀ b, b < sz → T 0 b ≠ 10 → T 0 b ≠ 24 → T 0 b ≠ 26 → b ≠ o → ∀ j, j ≠ 197 → T9_ j b = T j b := fun b_ h1_ h2_ h3_ h4_ h5_ j_ h6_ => (hx9_ b_ (by have := hw0_.2.2.1; have := hge9_; omega) j_).trans (hC_ b_ h1_ h2_ h3_ h4_ h5_ j_ h6_)
            have B180n_ : ∀ j_, j_ ≠ 197 → T9_ j_ (T 180 o) = T j_ (T 180 o) := fun j_ hj_ => (hx9_ (T 180 o) (Nat.ne_of_lt (Nat.lt_of_lt_of_le (cw_lt hw0_.1 ((B180_ 0 (by decide)).trans tl180_) (fun _ _ _ => ⟨_, rfl⟩)) hge9_)) j_).trans (B180_ j_ hj_)
            have A180n_ : ∀ j_, j_ ≠ 197 → T9_ j_ (T 201 (T 180 o)) = T j_ (T 201 (T 180 o)) := fun j_ hj_ => (hx9_ (T 201 (T 180 o)) (Nat.ne_of_lt (Nat.lt_of_lt_of_le (cw_ltq hw0_.1 (by rw [A180_ 0 (by decide)]; exact tx180_)) hge9_)) j_).trans (A180_ j_ hj_)
            have B181n_ : ∀ j_, j_ ≠ 197 → T9_ j_ (T 181 o) = T j_ (T 181 o) := fun j_ hj_ => (hx9_ (T 181 o) (Nat.ne_of_lt (Nat.lt_of_lt_of_le (cw_lt hw0_.1 ((B181_ 0 (by decide)).trans tl181_) (fun _ _ _ => ⟨_, rfl⟩)) hge9_)) j_).trans (B181_ j_ hj_)
            have A181n_ : ∀ j_, j_ ≠ 197 → T9_ j_ (T 201 (T 181 o)) = T j_ (T 201 (T 181 o)) := fun j_ hj_ => (hx9_ (T 201 (T 181 o)) (Nat.ne_of_lt (Nat.lt_of_lt_of_le (cw_ltq hw0_.1 (by rw [A181_ 0 (by decide)]; exact tx181_)) hge9_)) j_).trans (A181_ j_ hj_)
            have B182n_ : ∀ j_, j_ ≠ 197 → T9_ j_ (T 182 o) = T j_ (T 182 o) := fun j_ hj_ => (hx9_ (T 182 o) (Nat.ne_of_lt (Nat.lt_of_lt_of_le (cw_lt hw0_.1 ((B182_ 0 (by decide)).trans tl182_) (fun _ _ _ => ⟨_, rfl⟩)) hge9_)) j_).trans (B182_ j_ hj_)
            have A182n_ : ∀ j_, j_ ≠ 197 → T9_ j_ (T 201 (T 182 o)) = T j_ (T 201 (T 182 o)) := fun j_ hj_ => (hx9_ (T 201 (T 182 o)) (Nat.ne_of_lt (Nat.lt_of_lt_of_le (cw_ltq hw0_.1 (by rw [A182_ 0 (by decide)]; exact tx182_)) hge9_)) j_).trans (A182_ j_ hj_)
            have B183n_ : ∀ j_, j_ ≠ 197 → T9_ j_ (T 183 o) = T j_ (T 183 o) := fun j_ hj_ => (hx9_ (T 183 o) (Nat.ne_of_lt (Nat.lt_of_lt_of_le (cw_lt hw0_.1 ((B183_ 0 (by decide)).trans tl183_) (fun _ _ _ => ⟨_, rfl⟩)) hge9_)) j_).trans (B183_ j_ hj_)
            have A183n_ : ∀ j_, j_ ≠ 197 → T9_ j_ (T 201 (T 183 o)) = T j_ (T 201 (T 183 o)) := fun j_ hj_ => (hx9_ (T 201 (T 183 o)) (Nat.ne_of_lt (Nat.lt_of_lt_of_le (cw_ltq hw0_.1 (by rw [A183_ 0 (by decide)]; exact tx183_)) hge9_)) j_).trans (A183_ j_ hj_)
            have B180_ := B180n_
            have A180_ := A180n_
            have B181_ := B181n_
            have A181_ := A181n_
            have B182_ := B182n_
            have A182_ := A182n_
            have B183_ := B183n_
            have A183_ := A183n_
            have u10_ : T9_ 0 o = 9 := (hx9_ o (Nat.ne_of_lt (Nat.lt_of_lt_of_le (cw_lt hw0_.1 t_o (fun _ _ _ => ⟨_, rfl⟩)) hge9_)) 0).trans t_o
            have u11_ : T9_ 0 (T 180 o) = 10 := (hx9_ (T 180 o) (Nat.ne_of_lt (Nat.lt_of_lt_of_le (cw_lt hw0_.1 (wt_180 hT t_o) (fun _ _ _ => ⟨_, rfl⟩)) hge9_)) 0).trans (wt_180 hT t_o)
            have u12_ : T9_ 2 (T 180 o) = 2 := (hx9_ (T 180 o) (Nat.ne_of_lt (Nat.lt_of_lt_of_le (cw_lt hw0_.1 (wt_180 hT t_o) (fun _ _ _ => ⟨_, rfl⟩)) hge9_)) 2).trans (we_180 hT t_o)
            have u13_ : T9_ 180 o = T 180 o := (hx9_ o (Nat.ne_of_lt (Nat.lt_of_lt_of_le (cw_lt hw0_.1 t_o (fun _ _ _ => ⟨_, rfl⟩)) hge9_)) 180).trans rfl
            have u14_ : T9_ 181 o = T 181 o := (hx9_ o (Nat.ne_of_lt (Nat.lt_of_lt_of_le (cw_lt hw0_.1 t_o (fun _ _ _ => ⟨_, rfl⟩)) hge9_)) 181).trans rfl
            have u15_ : T9_ 182 o = T 182 o := (hx9_ o (Nat.ne_of_lt (Nat.lt_of_lt_of_le (cw_lt hw0_.1 t_o (fun _ _ _ => ⟨_, rfl⟩)) hge9_)) 182).trans rfl
            have u16_ : T9_ 183 o = T 183 o := (hx9_ o (Nat.ne_of_lt (Nat.lt_of_lt_of_le (cw_lt hw0_.1 t_o (fun _ _ _ => ⟨_, rfl⟩)) hge9_)) 183).trans rfl
            have u17_ : T9_ 185 o = T 185 o := (hx9_ o (Nat.ne_of_lt (Nat.lt_of_lt_of_le (cw_lt hw0_.1 t_o (fun _ _ _ => ⟨_, rfl⟩)) hge9_)) 185).trans rfl
            have u18_ : T9_ 184 o = T 184 o := (hx9_ o (Nat.ne_of_lt (Nat.lt_of_lt_of_le (cw_lt hw0_.1 t_o (fun _ _ _ => ⟨_, rfl⟩)) hge9_)) 184).trans rfl
            refine j_dup E 67 rfl dX9_person_66 rfl ?_
            refine j_iload_n E 68 rfl dX9_person_67 rfl (lv_at hl 2 rfl) ?_
            refine j_iload_n E 69 rfl dX9_person_68 rfl (lv_at hl 3 rfl) ?_
            refine j_iload_n E 70 rfl dX9_person_69 rfl (lv_at hl 4 rfl) ?_
            have hw0_ := hw
            refine aI_v E (n_X1_init_n2 l D cy κ T9_ (upV (upV (upV (upV (upV (upV v_0 40 (upB (v_0 40) q9_ 0)) 41 (upB (v_0 41) q9_ 0)) 42 (upB (v_0 42) q9_ 0)) 43 (upB (v_0 43) q9_ 0)) 44 (upB (v_0 44) q9_ 0)) 45 (upB (v_0 45) q9_ 0)) q9_ v_q v_f v_b H.size  hO9_ tq9_ r_v_q r_v_f r_v_b ) mi_X1_init ml_X9_86 hK hZ hAc hw hA ⟨(Nat.le_of_ble_eq_true rfl), (Nat.le_of_ble_eq_true rfl)⟩ ⟨(Nat.le_of_ble_eq_true rfl), (Nat.le_of_ble_eq_true rfl)⟩ (As := [.int (J v_q), .int (J v_f), .int (J v_b)]) (rest := [.ref q9_, .ref (T 180 o)]) rfl rfl hl.1 (Nat.le_of_ble_eq_true rfl) 73 rfl dX9_person_70 (fun T19_ v_19 H locs hge19_ ho19_ hq19_ hw => ?_)
            obtain ⟨y40_19, y41_19, y42_19, y43_19, y44_19, y45_19, y300_19, ev19_, hh19_⟩ := hq19_
            rw [ev19_] at hw; clear ev19_
            obtain ⟨hh19_, kf19_⟩ := hh19_
            have kd20_ : KdA_ T sz [] (v_0 300) (y300_19) := KdA_tr KdA_rf (KdA_ka kf19_ (by have := hw0_.2.2.1; omega) (by decide) (C20_ hC_ t_o (by decide)))
            obtain ⟨hx19_, tq19_, hv40_19_, hv41_19_, hv42_19_, hv43_19_, hv44_19_, hv45_19_, hp6_19_⟩ := hh19_
            have hT19_ : WT T19_ := hw.1.2.1
            have hO19_ : ∀ x, ow T19_ x → κ 2 2 ≤ x := fun x h => hAc x (hw.2.1 x h)
            have hoT_ : OW T T19_ s.heap.size := OW.tr hw0_.2.2.1 hoT_ ho19_
            have hC_ : ∀ b, b < sz → T 0 b ≠ 10 → T 0 b ≠ 24 → T 0 b ≠ 26 → b ≠ o → ∀ j, j ≠ 197 → T19_ j b = T j b := fun b_ h1_ h2_ h3_ h4_ h5_ j_ h6_ => (hx19_ b_ (by have := hw0_.2.2.1; omega) (by have := fq9_; omega) j_).trans (hC_ b_ h1_ h2_ h3_ h4_ h5_ j_ h6_)
            have B180n_ : ∀ j_, j_ ≠ 197 → T19_ j_ (T 180 o) = T j_ (T 180 o) := fun j_ hj_ => (hx19_ (T 180 o) (cw_lt hw0_.1 ((B180_ 0 (by decide)).trans tl180_) (fun _ _ _ => ⟨_, rfl⟩)) (ty_ne ((B180_ 0 (by decide)).trans tl180_) tq9_ (by decide)) j_).trans (B180_ j_ hj_)
            have A180n_ : ∀ j_, j_ ≠ 197 → T19_ j_ (T 201 (T 180 o)) = T j_ (T 201 (T 180 o)) := fun j_ hj_ => (hx19_ (T 201 (T 180 o)) (cw_ltq hw0_.1 (by rw [A180_ 0 (by decide)]; exact tx180_)) (ty_neq (by rw [A180_ 0 (by decide)]; exact tx180_) tq9_ (by decide) (by decide)) j_).trans (A180_ j_ hj_)
            have B181n_ : ∀ j_, j_ ≠ 197 → T19_ j_ (T 181 o) = T j_ (T 181 o) := fun j_ hj_ => (hx19_ (T 181 o) (cw_lt hw0_.1 ((B181_ 0 (by decide)).trans tl181_) (fun _ _ _ => ⟨_, rfl⟩)) (ty_ne ((B181_ 0 (by decide)).trans tl181_) tq9_ (by decide)) j_).trans (B181_ j_ hj_)
            have A181n_ : ∀ j_, j_ ≠ 197 → T19_ j_ (T 201 (T 181 o)) = T j_ (T 201 (T 181 o)) := fun j_ hj_ => (hx19_ (T 201 (T 181 o)) (cw_ltq hw0_.1 (by rw [A181_ 0 (by decide)]; exact tx181_)) (ty_neq (by rw [A181_ 0 (by decide)]; exact tx181_) tq9_ (by decide) (by decide)) j_).trans (A181_ j_ hj_)
            have B182n_ : ∀ j_, j_ ≠ 197 → T19_ j_ (T 182 o) = T j_ (T 182 o) := fun j_ hj_ => (hx19_ (T 182 o) (cw_lt hw0_.1 ((B182_ 0 (by decide)).trans tl182_) (fun _ _ _ => ⟨_, rfl⟩)) (ty_ne ((B182_ 0 (by decide)).trans tl182_) tq9_ (by decide)) j_).trans (B182_ j_ hj_)
            have A182n_ : ∀ j_, j_ ≠ 197 → T19_ j_ (T 201 (T 182 o)) = T j_ (T 201 (T 182 o)) := fun j_ hj_ => (hx19_ (T 201 (T 182 o)) (cw_ltq hw0_.1 (by rw [A182_ 0 (by decide)]; exact tx182_)) (ty_neq (by rw [A182_ 0 (by decide)]; exact tx182_) tq9_ (by decide) (by decide)) j_).trans (A182_ j_ hj_)
            have B183n_ : ∀ j_, j_ ≠ 197 → T19_ j_ (T 183 o) = T j_ (T 183 o) := fun j_ hj_ => (hx19_ (T 183 o) (cw_lt hw0_.1 ((B183_ 0 (by decide)).trans tl183_) (fun _ _ _ => ⟨_, rfl⟩)) (ty_ne ((B183_ 0 (by decide)).trans tl183_) tq9_ (by decide)) j_).trans (B183_ j_ hj_)
            have A183n_ : ∀ j_, j_ ≠ 197 → T19_ j_ (T 201 (T 183 o)) = T j_ (T 201 (T 183 o)) := fun j_ hj_ => (hx19_ (T 201 (T 183 o)) (cw_ltq hw0_.1 (by rw [A183_ 0 (by decide)]; exact tx183_)) (ty_neq (by rw [A183_ 0 (by decide)]; exact tx183_) tq9_ (by decide) (by decide)) j_).trans (A183_ j_ hj_)
            have B180_ := B180n_
            have A180_ := A180n_
            have B181_ := B181n_
            have A181_ := A181n_
            have B182_ := B182n_
            have A182_ := A182n_
            have B183_ := B183n_
            have A183_ := A183n_
            have u21_ : T19_ 0 o = 9 := (hx19_ o (cw_lt hw0_.1 u10_ (fun _ _ _ => ⟨_, rfl⟩)) (ty_ne u10_ tq9_ (by decide)) 0).trans u10_
            have u22_ : T19_ 0 (T 180 o) = 10 := (hx19_ (T 180 o) (cw_lt hw0_.1 u11_ (fun _ _ _ => ⟨_, rfl⟩)) (ty_ne u11_ tq9_ (by decide)) 0).trans u11_
            have u23_ : T19_ 2 (T 180 o) = 2 := (hx19_ (T 180 o) (cw_lt hw0_.1 u11_ (fun _ _ _ => ⟨_, rfl⟩)) (ty_ne u11_ tq9_ (by decide)) 2).trans u12_
            have u24_ : T19_ 180 o = T 180 o := (hx19_ o (cw_lt hw0_.1 u10_ (fun _ _ _ => ⟨_, rfl⟩)) (ty_ne u10_ tq9_ (by decide)) 180).trans u13_
            have u25_ : T19_ 181 o = T 181 o := (hx19_ o (cw_lt hw0_.1 u10_ (fun _ _ _ => ⟨_, rfl⟩)) (ty_ne u10_ tq9_ (by decide)) 181).trans u14_
            have u26_ : T19_ 182 o = T 182 o := (hx19_ o (cw_lt hw0_.1 u10_ (fun _ _ _ => ⟨_, rfl⟩)) (ty_ne u10_ tq9_ (by decide)) 182).trans u15_
            have u27_ : T19_ 183 o = T 183 o := (hx19_ o (cw_lt hw0_.1 u10_ (fun _ _ _ => ⟨_, rfl⟩)) (ty_ne u10_ tq9_ (by decide)) 183).trans u16_
            have u28_ : T19_ 185 o = T 185 o := (hx19_ o (cw_lt hw0_.1 u10_ (fun _ _ _ => ⟨_, rfl⟩)) (ty_ne u10_ tq9_ (by decide)) 185).trans u17_
            have u29_ : T19_ 184 o = T 184 o := (hx19_ o (cw_lt hw0_.1 u10_ (fun _ _ _ => ⟨_, rfl⟩)) (ty_ne u10_ tq9_ (by decide)) 184).trans u18_
            have hw40_ : y40_19 = upB (upB (v_0 40) q9_ 0) q9_ v_q := hv40_19_
            have hw41_ : y41_19 = upB (upB (v_0 41) q9_ 0) q9_ v_f := hv41_19_
            have hw42_ : y42_19 = upB (upB (v_0 42) q9_ 0) q9_ v_b := hv42_19_
            have hw43_ : y43_19 = upB (upB (v_0 43) q9_ 0) q9_ (-1) := hv43_19_
            have hw44_ : y44_19 = upB (upB (v_0 44) q9_ 0) q9_ 0 := hv44_19_
            have hw45_ : y45_19 = upB (upB (v_0 45) q9_ 0) q9_ (-1) := hv45_19_
            have p46_ := hp6_19_
            have hw0_ := hw
            refine aV_i E (n_Jx4a65c_add_9ea2d_n2 l D cy κ T19_ (upV (upV (upV (upV (upV (upV (upV (upV (upV (upV (upV (upV (upV v_0 40 (upB (v_0 40) q9_ 0)) 41 (upB (v_0 41) q9_ 0)) 42 (upB (v_0 42) q9_ 0)) 43 (upB (v_0 43) q9_ 0)) 44 (upB (v_0 44) q9_ 0)) 45 (upB (v_0 45) q9_ 0)) 40 y40_19) 41 y41_19) 42 y42_19) 43 y43_19) 44 y44_19) 45 y45_19) 300 y300_19) (T 180 o) q9_ H.size  hO19_ u22_  (tq19_.trans u23_.symm) (fun x_ h_ => hp0 x_ ((hoT_ x_).2 h_)) (show ((v_0 202) ((T 180 o))) ≤ 200 from by omega)) mt_Jx4a65c_add_9ea2d ml_X9_89 hK hZ hAc hw (cw_rc10 hK hw.1 u22_) hA ⟨(Nat.le_of_ble_eq_true rfl), (Nat.le_of_ble_eq_true rfl)⟩ ⟨(Nat.le_of_ble_eq_true rfl), (Nat.le_of_ble_eq_true rfl)⟩ (As := [.ref q9_]) (rest := []) rfl rfl hl.1 (Nat.le_of_ble_eq_true rfl) 76 rfl dX9_person_73 (fun zz30_ T30_ v_30 H locs rr30_ hge30_ ho30_ hq30_ hw => ?_)
            obtain ⟨y200_30, y202_30, ev30_, hh30_⟩ := hq30_
            rw [ev30_] at hw; clear ev30_
            obtain ⟨hy30_, hx30_, hz30_, hl30_, hel30_, hnw30_⟩ := hh30_
            have hy30_ : y202_30 = upB (v_0 202) (T 180 o) ((v_0 202) (T 180 o) + 1) := hy30_
            have hT30_ : WT T30_ := hw.1.2.1
            have hO30_ : ∀ x, ow T30_ x → κ 2 2 ≤ x := fun x h => hAc x (hw.2.1 x h)
            have hoT_ : OW T T30_ s.heap.size := OW.tr hw0_.2.2.1 hoT_ ho30_
            have hC_ : ∀ b, b < sz → T 0 b ≠ 10 → T 0 b ≠ 24 → T 0 b ≠ 26 → b ≠ o → ∀ j, j ≠ 197 → T30_ j b = T j b := fun b_ h1_ h2_ h3_ h4_ h5_ j_ h6_ => (hx30_ b_ (by have := hw0_.2.2.1; omega) (fun e_ => h2_ ((hC_ b_ h1_ h2_ h3_ h4_ h5_ 0 (by decide)).symm.trans (by rw [e_]; exact u22_))) (fun h_ => absurd ((hC_ b_ h1_ h2_ h3_ h4_ h5_ 0 (by decide)).symm.trans h_) h3_) j_).trans (hC_ b_ h1_ h2_ h3_ h4_ h5_ j_ h6_)
            have B181n_ : ∀ j_, j_ ≠ 197 → T30_ j_ (T 181 o) = T j_ (T 181 o) := fun j_ hj_ => (hx30_ (T 181 o) (cw_lt hw0_.1 ((B181_ 0 (by decide)).trans tl181_) (fun _ _ _ => ⟨_, rfl⟩)) ((ls_ne hT t_o).2.2.2.1) (fun h_ => absurd (((B181_ 0 (by decide)).trans tl181_).symm.trans h_) (by decide)) j_).trans (B181_ j_ hj_)
            have A181n_ : ∀ j_, j_ ≠ 197 → T30_ j_ (T 201 (T 181 o)) = T j_ (T 201 (T 181 o)) := fun j_ hj_ => (hx30_ (T 201 (T 181 o)) (cw_ltq hw0_.1 (by rw [A181_ 0 (by decide)]; exact tx181_)) (ty_neq (by rw [A181_ 0 (by decide)]; exact tx181_) u22_ (by decide) (by decide)) (fun h_ => by rw [B180_ 201 (by decide)]; exact own_ne hT tl181_ tl180_ ((ls_ne hT t_o).2.2.2.1) ((A181_ 0 (by decide)).symm.trans h_)) j_).trans (A181_ j_ hj_)
            have B182n_ : ∀ j_, j_ ≠ 197 → T30_ j_ (T 182 o) = T j_ (T 182 o) := fun j_ hj_ => (hx30_ (T 182 o) (cw_lt hw0_.1 ((B182_ 0 (by decide)).trans tl182_) (fun _ _ _ => ⟨_, rfl⟩)) ((ls_ne hT t_o).2.2.2.2.2.2.1) (fun h_ => absurd (((B182_ 0 (by decide)).trans tl182_).symm.trans h_) (by decide)) j_).trans (B182_ j_ hj_)
            have A182n_ : ∀ j_, j_ ≠ 197 → T30_ j_ (T 201 (T 182 o)) = T j_ (T 201 (T 182 o)) := fun j_ hj_ => (hx30_ (T 201 (T 182 o)) (cw_ltq hw0_.1 (by rw [A182_ 0 (by decide)]; exact tx182_)) (ty_neq (by rw [A182_ 0 (by decide)]; exact tx182_) u22_ (by decide) (by decide)) (fun h_ => by rw [B180_ 201 (by decide)]; exact own_ne hT tl182_ tl180_ ((ls_ne hT t_o).2.2.2.2.2.2.1) ((A182_ 0 (by decide)).symm.trans h_)) j_).trans (A182_ j_ hj_)
            have B183n_ : ∀ j_, j_ ≠ 197 → T30_ j_ (T 183 o) = T j_ (T 183 o) := fun j_ hj_ => (hx30_ (T 183 o) (cw_lt hw0_.1 ((B183_ 0 (by decide)).trans tl183_) (fun _ _ _ => ⟨_, rfl⟩)) ((ls_ne hT t_o).2.2.2.2.2.2.2.2.2.1) (fun h_ => absurd (((B183_ 0 (by decide)).trans tl183_).symm.trans h_) (by decide)) j_).trans (B183_ j_ hj_)
            have A183n_ : ∀ j_, j_ ≠ 197 → T30_ j_ (T 201 (T 183 o)) = T j_ (T 201 (T 183 o)) := fun j_ hj_ => (hx30_ (T 201 (T 183 o)) (cw_ltq hw0_.1 (by rw [A183_ 0 (by decide)]; exact tx183_)) (ty_neq (by rw [A183_ 0 (by decide)]; exact tx183_) u22_ (by decide) (by decide)) (fun h_ => by rw [B180_ 201 (by decide)]; exact own_ne hT tl183_ tl180_ ((ls_ne hT t_o).2.2.2.2.2.2.2.2.2.1) ((A183_ 0 (by decide)).symm.trans h_)) j_).trans (A183_ j_ hj_)
            have B181_ := B181n_
            have A181_ := A181n_
            have B182_ := B182n_
            have A182_ := A182n_
            have B183_ := B183n_
            have A183_ := A183n_
            have u31_ : T30_ 0 o = 9 := (hx30_ o (cw_lt hw0_.1 u21_ (fun _ _ _ => ⟨_, rfl⟩)) (ty_ne u21_ u22_ (by decide)) (fun h_ => absurd (u21_.symm.trans h_) (by decide)) 0).trans u21_
            have u32_ : T30_ 180 o = T 180 o := (hx30_ o (cw_lt hw0_.1 u21_ (fun _ _ _ => ⟨_, rfl⟩)) (ty_ne u21_ u22_ (by decide)) (fun h_ => absurd (u21_.symm.trans h_) (by decide)) 180).trans u24_
            have u33_ : T30_ 181 o = T 181 o := (hx30_ o (cw_lt hw0_.1 u21_ (fun _ _ _ => ⟨_, rfl⟩)) (ty_ne u21_ u22_ (by decide)) (fun h_ => absurd (u21_.symm.trans h_) (by decide)) 181).trans u25_
            have u34_ : T30_ 182 o = T 182 o := (hx30_ o (cw_lt hw0_.1 u21_ (fun _ _ _ => ⟨_, rfl⟩)) (ty_ne u21_ u22_ (by decide)) (fun h_ => absurd (u21_.symm.trans h_) (by decide)) 182).trans u26_
            have u35_ : T30_ 183 o = T 183 o := (hx30_ o (cw_lt hw0_.1 u21_ (fun _ _ _ => ⟨_, rfl⟩)) (ty_ne u21_ u22_ (by decide)) (fun h_ => absurd (u21_.symm.trans h_) (by decide)) 183).trans u27_
            have u36_ : T30_ 185 o = T 185 o := (hx30_ o (cw_lt hw0_.1 u21_ (fun _ _ _ => ⟨_, rfl⟩)) (ty_ne u21_ u22_ (by decide)) (fun h_ => absurd (u21_.symm.trans h_) (by decide)) 185).trans u28_
            have u37_ : T30_ 184 o = T 184 o := (hx30_ o (cw_lt hw0_.1 u21_ (fun _ _ _ => ⟨_, rfl⟩)) (ty_ne u21_ u22_ (by decide)) (fun h_ => absurd (u21_.symm.trans h_) (by decide)) 184).trans u29_
            have p46_ : ∀ j_ : Int, 0 ≤ j_ → j_ < 24 → gC_ (y300_19) (T30_ 46 q9_) j_ = -1 ∧ gC_ (y300_19) (T30_ 47 q9_) j_ = 0 ∧ gC_ (y300_19) (T30_ 48 q9_) j_ = -1 := by rw [(hx30_ q9_ (cw_lt hw0_.1 tq19_ (fun _ _ _ => ⟨_, rfl⟩)) (ty_ne tq19_ u22_ (by decide)) (fun h_ => absurd (tq19_.symm.trans h_) (by decide)) 46), (hx30_ q9_ (cw_lt hw0_.1 tq19_ (fun _ _ _ => ⟨_, rfl⟩)) (ty_ne tq19_ u22_ (by decide)) (fun h_ => absurd (tq19_.symm.trans h_) (by decide)) 47), (hx30_ q9_ (cw_lt hw0_.1 tq19_ (fun _ _ _ => ⟨_, rfl⟩)) (ty_ne tq19_ u22_ (by decide)) (fun h_ => absurd (tq19_.symm.trans h_) (by decide)) 48)]; exact p46_
            refine j_pop E 77 rfl dX9_person_76 rfl ?_
            refine j_aload_n E 78 rfl dX9_person_77 rfl (lv_at hl 1 rfl) ?_
            refine g_180 E hK hw fl_X9_12 u31_ 81 rfl dX9_person_78 ?_
            refine kV_i E (c_Jx4a65c_size_8abf5 l D cy T30_ (upV (upV (upV (upV (upV (upV (upV (upV (upV (upV (upV (upV (upV (upV (upV v_0 40 (upB (v_0 40) q9_ 0)) 41 (upB (v_0 41) q9_ 0)) 42 (upB (v_0 42) q9_ 0)) 43 (upB (v_0 43) q9_ 0)) 44 (upB (v_0 44) q9_ 0)) 45 (upB (v_0 45) q9_ 0)) 40 y40_19) 41 y41_19) 42 y42_19) 43 y43_19) 44 y44_19) 45 y45_19) 300 y300_19) 200 y200_30) 202 y202_30) (T30_ 180 o)  (wt_180 hT30_ u31_)  ) mt_Jx4a65c_size_8abf5 ml_X9_80 hK hw (cw_rc10 hK hw.1 (wt_180 hT30_ u31_)) hA ⟨Nat.le_of_ble_eq_true rfl, Nat.le_of_ble_eq_true rfl⟩ ⟨Nat.le_of_ble_eq_true rfl, Nat.le_of_ble_eq_true rfl⟩ (As := []) (rest := []) rfl rfl hl.1 (Nat.le_of_ble_eq_true rfl) 84 rfl dX9_person_81 (fun zz38_ v_38 H locs rr38_ hq38_ hw => ?_)
            obtain ⟨ev38_, hh38_⟩ := hq38_
            rw [ev38_] at hw; clear ev38_
            replace hh38_ : zz38_ = (y202_30 ((T30_ 180 o))) ∧ 0 ≤ zz38_ := hh38_
            have hs2_ := hh38_.1
            rw [u32_, hy30_, upB_same] at hs2_
            refine j_iconst E 85 rfl dX9_person_84 ?_
            refine j_isub E 86 rfl dX9_person_85 ?_
            exact hret 86 (zz38_ - 1) T30_ _ _ _ ls _ _ hw hoT_ (rr (by omega)) (⟨⟨u31_, ⟨u32_, u33_, u34_, u35_, u36_⟩, rfl, rfl, rfl, rfl, rfl, (by show y202_30 (T 181 o) = v_0 202 (T 181 o); rw [hy30_]; exact upB_ne ((ls_ne hT t_o).2.2.2.1)), (by show y202_30 (T 182 o) = v_0 202 (T 182 o); rw [hy30_]; exact upB_ne ((ls_ne hT t_o).2.2.2.2.2.2.1)), (by show y202_30 (T 183 o) = v_0 202 (T 183 o); rw [hy30_]; exact upB_ne ((ls_ne hT t_o).2.2.2.2.2.2.2.2.2.1)), hC_, (fun i_ => by rw [u33_, B181_ 201 (by decide), A181_ (1000 + i_) (by omega)]), (fun i_ => by rw [u34_, B182_ 201 (by decide), A182_ (1000 + i_) (by omega)]), (fun i_ => by rw [u35_, B183_ 201 (by decide), A183_ (1000 + i_) (by omega)]), rfl, rfl, rfl, rfl, rfl, rfl, rfl, rfl, rfl, rfl, rfl, rfl, rfl, rfl, rfl, rfl, rfl, rfl, u37_, Or.inr ⟨by omega, by omega, (by show y202_30 (T 180 o) = v_0 202 (T 180 o) + 1; rw [hy30_]; exact upB_same _ _ _), q9_, fr_, fun i_ h_ => by rw [u32_]; exact (hel30_ i_ h_).trans (by rw [B180_ 201 (by decide), A180_ (1000 + i_) (by omega)]), by rw [u32_]; exact hnw30_, fun y_ h_ => ⟨(by show y40_19 y_ = v_0 40 y_; rw [hw40_]; exact (upB_ne h_).trans (upB_ne h_)), (by show y41_19 y_ = v_0 41 y_; rw [hw41_]; exact (upB_ne h_).trans (upB_ne h_)), (by show y42_19 y_ = v_0 42 y_; rw [hw42_]; exact (upB_ne h_).trans (upB_ne h_)), (by show y43_19 y_ = v_0 43 y_; rw [hw43_]; exact (upB_ne h_).trans (upB_ne h_)), (by show y44_19 y_ = v_0 44 y_; rw [hw44_]; exact (upB_ne h_).trans (upB_ne h_))⟩, (by show y40_19 q9_ = _; rw [hw40_]; exact upB_same _ _ _), (by show y41_19 q9_ = _; rw [hw41_]; exact upB_same _ _ _), (by show y42_19 q9_ = _; rw [hw42_]; exact upB_same _ _ _), (by show y43_19 q9_ = _; rw [hw43_]; exact upB_same _ _ _), (by show y44_19 q9_ = _; rw [hw44_]; exact upB_same _ _ _), fun y_ h_ => (by show y45_19 y_ = v_0 45 y_; rw [hw45_]; exact (upB_ne h_).trans (upB_ne h_)), (by show y45_19 q9_ = _; rw [hw45_]; exact upB_same _ _ _), p46_⟩⟩, kd20_⟩) (Nat.le_of_ble_eq_true rfl) (Nat.le_of_ble_eq_true rfl) dX9_person_86
          · refine j_iconst E 58 rfl dX9_person_57 ?_
            exact hret 58 ((-1)) T _ _ _ ls _ _ hw hoT_ (rr (by decide)) (⟨⟨t_o, ⟨rfl, rfl, rfl, rfl, rfl⟩, rfl, rfl, rfl, rfl, rfl, rfl, rfl, rfl, hC_, (fun _ => rfl), (fun _ => rfl), (fun _ => rfl), rfl, rfl, rfl, rfl, rfl, rfl, rfl, rfl, rfl, rfl, rfl, rfl, rfl, rfl, rfl, rfl, rfl, rfl, rfl, Or.inl ⟨rfl, by omega, rfl, fun _ => rfl, rfl, rfl, rfl, rfl, rfl, rfl⟩⟩, KdA_rf⟩) (Nat.le_of_ble_eq_true rfl) (Nat.le_of_ble_eq_true rfl) dX9_person_58
  refine j_iload_n E 1 rfl dX9_person_0 rfl (lv_at hl 1 rfl) ?_
  refine j_if_lt E 4 23 rfl r_v_q dX9_person_1 (by decide) (fun cc39_ => ?_) (fun cc39_ => ?_)
  · refine j_iconst E 24 rfl dX9_person_23 ?_
    exact L24_1 0  H locs ls (rr (by decide)) (by omega) hw (lv_sub hl [0, 1, 2, 3] rfl)
  · refine j_iload_n E 5 rfl dX9_person_4 rfl (lv_at hl 1 rfl) ?_
    refine j_iconst E 6 rfl dX9_person_5 ?_
    refine j_icmp_ge E 9 23 rfl r_v_q (rr (by decide)) dX9_person_6 (by decide) (fun cc40_ => ?_) (fun cc40_ => ?_)
    · refine j_iconst E 24 rfl dX9_person_23 ?_
      exact L24_1 0  H locs ls (rr (by decide)) (by omega) hw (lv_sub hl [0, 1, 2, 3] rfl)
    · refine j_iload_n E 10 rfl dX9_person_9 rfl (lv_at hl 2 rfl) ?_
      refine j_if_lt E 13 23 rfl r_v_f dX9_person_10 (by decide) (fun cc41_ => ?_) (fun cc41_ => ?_)
      · refine j_iconst E 24 rfl dX9_person_23 ?_
        exact L24_1 0  H locs ls (rr (by decide)) (by omega) hw (lv_sub hl [0, 1, 2, 3] rfl)
      · refine j_iload_n E 14 rfl dX9_person_13 rfl (lv_at hl 2 rfl) ?_
        refine j_bipush E 16 rfl dX9_person_14 (by decide) ?_
        refine j_icmp_ge E 19 23 rfl r_v_f (rr (by decide)) dX9_person_16 (by decide) (fun cc42_ => ?_) (fun cc42_ => ?_)
        · refine j_iconst E 24 rfl dX9_person_23 ?_
          exact L24_1 0  H locs ls (rr (by decide)) (by omega) hw (lv_sub hl [0, 1, 2, 3] rfl)
        · refine j_iconst E 20 rfl dX9_person_19 ?_
          refine j_goto E 24 dX9_person_20 (by decide) ?_
          exact L24_1 1  H locs ls (rr (by decide)) (by omega) hw (lv_sub hl [0, 1, 2, 3] rfl)
set_option maxHeartbeats 4000000 in
set_option maxRecDepth 100000 in
theorem n_X9_line (l : Launch) (D : va_G) (cy : Nat → ClassId) (κ T : Nat → Nat → Nat) (v_0 : Nat → Nat → Int) (o : Nat) (v_s : Int) (v_v : Int) (sz : Nat) (hO : ∀ x, ow T x → κ 2 2 ≤ x) (t_o : T 0 o = 9) (r_v_s : inR v_s) (r_v_v : inR v_v) (hp0 : ∀ x, T 0 x = 26 → x = κ 2 0) (hp1 : v_v = 0 ∨ v_v = 1) : KA l D cy κ T yX9_line cX9_line 3 (some .int) 8 3 700 [.ref o, .int (J v_s), .int (J v_v)] v_0 sz (AI (fun (z_0 : Int) (T_2 : Nat → Nat → Nat) (v_2 : Nat → Nat → Int) => T_2 0 o = 9 ∧ (T_2 180 o = T 180 o ∧ T_2 181 o = T 181 o ∧ T_2 182 o = T 182 o ∧ T_2 183 o = T 183 o ∧ T_2 185 o = T 185 o) ∧ v_2 186 o = v_0 186 o ∧ v_2 187 o = v_0 187 o ∧ v_2 190 o = v_0 190 o ∧ v_2 191 o = v_0 191 o ∧ v_2 303 = v_0 303 ∧ v_2 202 (T 180 o) = v_0 202 (T 180 o) ∧ v_2 202 (T 182 o) = v_0 202 (T 182 o) ∧ v_2 202 (T 183 o) = v_0 202 (T 183 o) ∧ (∀ b, b < sz → T 0 b ≠ 10 → T 0 b ≠ 24 → T 0 b ≠ 26 → b ≠ o → ∀ j, j ≠ 197 → T_2 j b = T j b) ∧ (∀ i_ : Nat, T_2 (1000 + i_) (T_2 201 (T_2 180 o)) = T (1000 + i_) (T 201 (T 180 o))) ∧ (∀ i_ : Nat, T_2 (1000 + i_) (T_2 201 (T_2 182 o)) = T (1000 + i_) (T 201 (T 182 o))) ∧ (∀ i_ : Nat, T_2 (1000 + i_) (T_2 201 (T_2 183 o)) = T (1000 + i_) (T 201 (T 183 o))) ∧ v_2 40 = v_0 40 ∧ v_2 41 = v_0 41 ∧ v_2 42 = v_0 42 ∧ v_2 43 = v_0 43 ∧ v_2 44 = v_0 44 ∧ v_2 300 = v_0 300 ∧ v_2 160 = v_0 160 ∧ v_2 45 = v_0 45 ∧ v_2 140 = v_0 140 ∧ v_2 141 = v_0 141 ∧ v_2 142 = v_0 142 ∧ v_2 143 = v_0 143 ∧ v_2 144 = v_0 144 ∧ v_2 145 = v_0 145 ∧ v_2 146 = v_0 146 ∧ v_2 188 = v_0 188 ∧ v_2 189 = v_0 189 ∧ v_2 301 = v_0 301 ∧ T_2 184 o = T 184 o ∧ ((z_0 = -1 ∧ (v_s < 0 ∨ 2 < v_s ∨ 24 ≤ v_0 202 (T 181 o)) ∧ v_2 202 (T 181 o) = v_0 202 (T 181 o) ∧ (∀ i_ : Nat, T_2 (1000 + i_) (T_2 201 (T_2 181 o)) = T (1000 + i_) (T 201 (T 181 o))) ∧ v_2 25 = v_0 25 ∧ v_2 20 = v_0 20 ∧ v_2 21 = v_0 21 ∧ v_2 22 = v_0 22 ∧ v_2 23 = v_0 23 ∧ v_2 24 = v_0 24 ∧ v_2 302 = v_0 302) ∨ (z_0 = v_0 202 (T 181 o) ∧ (0 ≤ v_s ∧ v_s ≤ 2 ∧ v_0 202 (T 181 o) < 24) ∧ v_2 202 (T 181 o) = v_0 202 (T 181 o) + 1 ∧ ∃ q_ : Nat, sz ≤ q_ ∧ (∀ i_ : Nat, (i_ : Int) < v_0 202 (T 181 o) → T_2 (1000 + i_) (T_2 201 (T_2 181 o)) = T (1000 + i_) (T 201 (T 181 o))) ∧ T_2 (1000 + (v_0 202 (T 181 o)).toNat) (T_2 201 (T_2 181 o)) = q_ + 1 ∧ (∀ y_ : Nat, y_ ≠ q_ → v_2 25 y_ = v_0 25 y_) ∧ v_2 25 q_ = -1 ∧ (∀ y_ : Nat, y_ ≠ q_ → v_2 20 y_ = v_0 20 y_ ∧ v_2 21 y_ = v_0 21 y_ ∧ v_2 22 y_ = v_0 22 y_ ∧ v_2 23 y_ = v_0 23 y_ ∧ v_2 24 y_ = v_0 24 y_) ∧ v_2 20 q_ = v_s ∧ v_2 21 q_ = v_v ∧ v_2 22 q_ = 0 ∧ v_2 23 q_ = -1 ∧ v_2 24 q_ = 0 ∧ (∀ b_ i_ : Nat, b_ < sz → v_2 302 (pr b_ i_) = v_0 302 (pr b_ i_)) ∧ (∀ j_ : Int, 0 ≤ j_ → j_ < 200 → gC_ (v_2 302) (T_2 26 q_) j_ = -2))))) := by
  refine KA.ofi (by decide) (Nat.le_of_ble_eq_true rfl) hO ?_
  intro p e s m below meth c ls ar QW A0 H locs E hK hZ hA hAc hsz hszH_ hnm hw hlo_ hl hret
  have hl : lv_has ls 3 [(0, .ref o), (1, .int (J v_s)), (2, .int (J v_v))] := hl
  have hT : WT T := hw.1.2.1
  have hoT_ : OW T T s.heap.size := OW.rf T _
  have hC_ : ∀ b, b < sz → T 0 b ≠ 10 → T 0 b ≠ 24 → T 0 b ≠ 26 → b ≠ o → ∀ j, j ≠ 197 → T j b = T j b := fun _ _ _ _ _ _ _ _ => rfl
  have tl180_ : T 0 (T 180 o) = 10 := wt_180 hT t_o
  have tx180_ : T 0 (T 201 (T 180 o)) = 24 ∨ T 0 (T 201 (T 180 o)) = 26 := (wt10 hT tl180_).1
  have B180_ : ∀ j, j ≠ 197 → T j (T 180 o) = T j (T 180 o) := fun _ _ => rfl
  have A180_ : ∀ j, j ≠ 197 → T j (T 201 (T 180 o)) = T j (T 201 (T 180 o)) := fun _ _ => rfl
  have tl181_ : T 0 (T 181 o) = 10 := wt_181 hT t_o
  have tx181_ : T 0 (T 201 (T 181 o)) = 24 ∨ T 0 (T 201 (T 181 o)) = 26 := (wt10 hT tl181_).1
  have B181_ : ∀ j, j ≠ 197 → T j (T 181 o) = T j (T 181 o) := fun _ _ => rfl
  have A181_ : ∀ j, j ≠ 197 → T j (T 201 (T 181 o)) = T j (T 201 (T 181 o)) := fun _ _ => rfl
  have tl182_ : T 0 (T 182 o) = 10 := wt_182 hT t_o
  have tx182_ : T 0 (T 201 (T 182 o)) = 24 ∨ T 0 (T 201 (T 182 o)) = 26 := (wt10 hT tl182_).1
  have B182_ : ∀ j, j ≠ 197 → T j (T 182 o) = T j (T 182 o) := fun _ _ => rfl
  have A182_ : ∀ j, j ≠ 197 → T j (T 201 (T 182 o)) = T j (T 201 (T 182 o)) := fun _ _ => rfl
  have tl183_ : T 0 (T 183 o) = 10 := wt_183 hT t_o
  have tx183_ : T 0 (T 201 (T 183 o)) = 24 ∨ T 0 (T 201 (T 183 o)) = 26 := (wt10 hT tl183_).1
  have B183_ : ∀ j, j ≠ 197 → T j (T 183 o) = T j (T 183 o) := fun _ _ => rfl
  have A183_ : ∀ j, j ≠ 197 → T j (T 201 (T 183 o)) = T j (T 201 (T 183 o)) := fun _ _ => rfl
  have hwI_ := hw
  refine j_iload_n E 1 rfl dX9_line_0 rfl (lv_at hl 1 rfl) ?_
  refine j_if_lt E 4 21 rfl r_v_s dX9_line_1 (by decide) (fun cc1_ => ?_) (fun cc1_ => ?_)
  · refine j_iconst E 22 rfl dX9_line_21 ?_
    exact hret 22 ((-1)) T _ _ _ ls _ _ hw hoT_ (rr (by decide)) (⟨t_o, ⟨rfl, rfl, rfl, rfl, rfl⟩, rfl, rfl, rfl, rfl, rfl, rfl, rfl, rfl, hC_, (fun _ => rfl), (fun _ => rfl), (fun _ => rfl), rfl, rfl, rfl, rfl, rfl, rfl, rfl, rfl, rfl, rfl, rfl, rfl, rfl, rfl, rfl, rfl, rfl, rfl, rfl, Or.inl ⟨rfl, by omega, rfl, fun _ => rfl, rfl, rfl, rfl, rfl, rfl, rfl, rfl⟩⟩) (Nat.le_of_ble_eq_true rfl) (Nat.le_of_ble_eq_true rfl) dX9_line_22
  · refine j_iload_n E 5 rfl dX9_line_4 rfl (lv_at hl 1 rfl) ?_
    refine j_iconst E 6 rfl dX9_line_5 ?_
    refine j_icmp_ge E 9 21 rfl r_v_s (rr (by decide)) dX9_line_6 (by decide) (fun cc2_ => ?_) (fun cc2_ => ?_)
    · refine j_iconst E 22 rfl dX9_line_21 ?_
      exact hret 22 ((-1)) T _ _ _ ls _ _ hw hoT_ (rr (by decide)) (⟨t_o, ⟨rfl, rfl, rfl, rfl, rfl⟩, rfl, rfl, rfl, rfl, rfl, rfl, rfl, rfl, hC_, (fun _ => rfl), (fun _ => rfl), (fun _ => rfl), rfl, rfl, rfl, rfl, rfl, rfl, rfl, rfl, rfl, rfl, rfl, rfl, rfl, rfl, rfl, rfl, rfl, rfl, rfl, Or.inl ⟨rfl, by omega, rfl, fun _ => rfl, rfl, rfl, rfl, rfl, rfl, rfl, rfl⟩⟩) (Nat.le_of_ble_eq_true rfl) (Nat.le_of_ble_eq_true rfl) dX9_line_22
    · refine j_aload_n E 10 rfl dX9_line_9 rfl (lv_at hl 0 rfl) ?_
      refine g_181 E hK hw fl_X9_16 t_o 13 rfl dX9_line_10 ?_
      refine kV_i E (c_Jx4a65c_size_8abf5 l D cy T (v_0) (T 181 o)  (wt_181 hT t_o)  ) mt_Jx4a65c_size_8abf5 ml_X9_80 hK hw (cw_rc10 hK hw.1 (wt_181 hT t_o)) hA ⟨Nat.le_of_ble_eq_true rfl, Nat.le_of_ble_eq_true rfl⟩ ⟨Nat.le_of_ble_eq_true rfl, Nat.le_of_ble_eq_true rfl⟩ (As := []) (rest := []) rfl rfl hl.1 (Nat.le_of_ble_eq_true rfl) 16 rfl dX9_line_13 (fun zz3_ v_3 H locs rr3_ hq3_ hw => ?_)
      obtain ⟨ev3_, hh3_⟩ := hq3_
      rw [ev3_] at hw; clear ev3_
      replace hh3_ : zz3_ = ((v_0 202) ((T 181 o))) ∧ 0 ≤ zz3_ := hh3_
      refine j_bipush E 18 rfl dX9_line_16 (by decide) ?_
      refine j_icmp_lt E 21 23 rfl rr3_ (rr (by decide)) dX9_line_18 (by decide) (fun cc4_ => ?_) (fun cc4_ => ?_)
      · refine j_aload_n E 24 rfl dX9_line_23 rfl (lv_at hl 0 rfl) ?_
        refine g_181 E hK hw fl_X9_16 t_o 27 rfl dX9_line_24 ?_
        have hw0_ := hw
        refine n_obj1 E hK hw hA cl_X9_167 (Nat.le_of_ble_eq_true rfl) (Nat.le_of_ble_eq_true rfl) 30 rfl dX9_line_27 (fun q5_ T5_ H hge5_ hx5_ ho5_ tq5_ hw => ?_)
        have fq5_ : s.heap.size ≤ q5_ := Nat.le_trans hw0_.2.2.1 hge5_
        have fz_ : sz ≤ q5_ := by have := fq5_; omega
        have hw : WK D cy T5_ (upV (upV (upV (upV (upV (upV v_0 20 (upB (v_0 20) q5_ 0)) 21 (upB (v_0 21) q5_ 0)) 22 (upB (v_0 22) q5_ 0)) 23 (upB (v_0 23) q5_ 0)) 24 (upB (v_0 24) q5_ 0)) 25 (upB (v_0 25) q5_ 0)) A0 s.heap H locs := hw
        have hT5_ : WT T5_ := hw.1.2.1
        have hO5_ : ∀ x, ow T5_ x → κ 2 2 ≤ x := fun x h => hAc x (hw.2.1 x h)
        have hoT_ : OW T T5_ s.heap.size := OW.tr hw0_.2.2.1 hoT_ ho5_
        have hC_ : ∀ b, b < sz → T 0 b ≠ 10 → T 0 b ≠ 24 → T 0 b ≠ 26 → b ≠ o → ∀ j, j ≠ 197 → T5_ j b = T j b := fun b_ h1_ h2_ h3_ h4_ h5_ j_ h6_ => (hx5_ b_ (by have := hw0_.2.2.1; have := hge5_; omega) j_).trans (hC_ b_ h1_ h2_ h3_ h4_ h5_ j_ h6_)
        have B180n_ : ∀ j_, j_ ≠ 197 → T5_ j_ (T 180 o) = T j_ (T 180 o) := fun j_ hj_ => (hx5_ (T 180 o) (Nat.ne_of_lt (Nat.lt_of_lt_of_le (cw_lt hw0_.1 ((B180_ 0 (by decide)).trans tl180_) (fun _ _ _ => ⟨_, rfl⟩)) hge5_)) j_).trans (B180_ j_ hj_)
        have A180n_ : ∀ j_, j_ ≠ 197 → T5_ j_ (T 201 (T 180 o)) = T j_ (T 201 (T 180 o)) := fun j_ hj_ => (hx5_ (T 201 (T 180 o)) (Nat.ne_of_lt (Nat.lt_of_lt_of_le (cw_ltq hw0_.1 (by rw [A180_ 0 (by decide)]; exact tx180_)) hge5_)) j_).trans (A180_ j_ hj_)
        have B181n_ : ∀ j_, j_ ≠ 197 → T5_ j_ (T 181 o) = T j_ (T 181 o) := fun j_ hj_ => (hx5_ (T 181 o) (Nat.ne_of_lt (Nat.lt_of_lt_of_le (cw_lt hw0_.1 ((B181_ 0 (by decide)).trans tl181_) (fun _ _ _ => ⟨_, rfl⟩)) hge5_)) j_).trans (B181_ j_ hj_)
        have A181n_ : ∀ j_, j_ ≠ 197 → T5_ j_ (T 201 (T 181 o)) = T j_ (T 201 (T 181 o)) := fun j_ hj_ => (hx5_ (T 201 (T 181 o)) (Nat.ne_of_lt (Nat.lt_of_lt_of_le (cw_ltq hw0_.1 (by rw [A181_ 0 (by decide)]; exact tx181_)) hge5_)) j_).trans (A181_ j_ hj_)
        have B182n_ : ∀ j_, j_ ≠ 197 → T5_ j_ (T 182 o) = T j_ (T 182 o) := fun j_ hj_ => (hx5_ (T 182 o) (Nat.ne_of_lt (Nat.lt_of_lt_of_le (cw_lt hw0_.1 ((B182_ 0 (by decide)).trans tl182_) (fun _ _ _ => ⟨_, rfl⟩)) hge5_)) j_).trans (B182_ j_ hj_)
        have A182n_ : ∀ j_, j_ ≠ 197 → T5_ j_ (T 201 (T 182 o)) = T j_ (T 201 (T 182 o)) := fun j_ hj_ => (hx5_ (T 201 (T 182 o)) (Nat.ne_of_lt (Nat.lt_of_lt_of_le (cw_ltq hw0_.1 (by rw [A182_ 0 (by decide)]; exact tx182_)) hge5_)) j_).trans (A182_ j_ hj_)
        have B183n_ : ∀ j_, j_ ≠ 197 → T5_ j_ (T 183 o) = T j_ (T 183 o) := fun j_ hj_ => (hx5_ (T 183 o) (Nat.ne_of_lt (Nat.lt_of_lt_of_le (cw_lt hw0_.1 ((B183_ 0 (by decide)).trans tl183_) (fun _ _ _ => ⟨_, rfl⟩)) hge5_)) j_).trans (B183_ j_ hj_)
        have A183n_ : ∀ j_, j_ ≠ 197 → T5_ j_ (T 201 (T 183 o)) = T j_ (T 201 (T 183 o)) := fun j_ hj_ => (hx5_ (T 201 (T 183 o)) (Nat.ne_of_lt (Nat.lt_of_lt_of_le (cw_ltq hw0_.1 (by rw [A183_ 0 (by decide)]; exact tx183_)) hge5_)) j_).trans (A183_ j_ hj_)
        have B180_ := B180n_
        have A180_ := A180n_
        have B181_ := B181n_
        have A181_ := A181n_
        have B182_ := B182n_
        have A182_ := A182n_
        have B183_ := B183n_
        have A183_ := A183n_
        have u6_ : T5_ 0 o = 9 := (hx5_ o (Nat.ne_of_lt (Nat.lt_of_lt_of_le (cw_lt hw0_.1 t_o (fun _ _ _ => ⟨_, rfl⟩)) hge5_)) 0).trans t_o
        have u7_ : T5_ 0 (T 181 o) = 10 := (hx5_ (T 181 o) (Nat.ne_of_lt (Nat.lt_of_lt_of_le (cw_lt hw0_.1 (wt_181 hT t_o) (fun _ _ _ => ⟨_, rfl⟩)) hge5_)) 0).trans (wt_181 hT t_o)
        have u8_ : T5_ 2 (T 181 o) = 1 := (hx5_ (T 181 o) (Nat.ne_of_lt (Nat.lt_of_lt_of_le (cw_lt hw0_.1 (wt_181 hT t_o) (fun _ _ _ => ⟨_, rfl⟩)) hge5_)) 2).trans (we_181 hT t_o)
        have u9_ : T5_ 180 o = T 180 o := (hx5_ o (Nat.ne_of_lt (Nat.lt_of_lt_of_le (cw_lt hw0_.1 t_o (fun _ _ _ => ⟨_, rfl⟩)) hge5_)) 180).trans rfl
        have u10_ : T5_ 181 o = T 181 o := (hx5_ o (Nat.ne_of_lt (Nat.lt_of_lt_of_le (cw_lt hw0_.1 t_o (fun _ _ _ => ⟨_, rfl⟩)) hge5_)) 181).trans rfl
        have u11_ : T5_ 182 o = T 182 o := (hx5_ o (Nat.ne_of_lt (Nat.lt_of_lt_of_le (cw_lt hw0_.1 t_o (fun _ _ _ => ⟨_, rfl⟩)) hge5_)) 182).trans rfl
        have u12_ : T5_ 183 o = T 183 o := (hx5_ o (Nat.ne_of_lt (Nat.lt_of_lt_of_le (cw_lt hw0_.1 t_o (fun _ _ _ => ⟨_, rfl⟩)) hge5_)) 183).trans rfl
        have u13_ : T5_ 185 o = T 185 o := (hx5_ o (Nat.ne_of_lt (Nat.lt_of_lt_of_le (cw_lt hw0_.1 t_o (fun _ _ _ => ⟨_, rfl⟩)) hge5_)) 185).trans rfl
        have u14_ : T5_ 184 o = T 184 o := (hx5_ o (Nat.ne_of_lt (Nat.lt_of_lt_of_le (cw_lt hw0_.1 t_o (fun _ _ _ => ⟨_, rfl⟩)) hge5_)) 184).trans rfl
        refine j_dup E 31 rfl dX9_line_30 rfl ?_
        refine j_iload_n E 32 rfl dX9_line_31 rfl (lv_at hl 1 rfl) ?_
        refine j_iload_n E 33 rfl dX9_line_32 rfl (lv_at hl 2 rfl) ?_
        have hw0i_ : sz ≤ H.size := by have := hw.2.2.1; omega
        have hw0_ := hw
        refine aI_v E (n_X0_init_n2 l D cy κ T5_ (upV (upV (upV (upV (upV (upV v_0 20 (upB (v_0 20) q5_ 0)) 21 (upB (v_0 21) q5_ 0)) 22 (upB (v_0 22) q5_ 0)) 23 (upB (v_0 23) q5_ 0)) 24 (upB (v_0 24) q5_ 0)) 25 (upB (v_0 25) q5_ 0)) q5_ v_s v_v H.size  hO5_ tq5_ r_v_s r_v_v (show v_v = 0 ∨ v_v = 1 from by first | omega | (simp only [upB_same]; omega))) mi_X0_init ml_X9_169 hK hZ hAc hw hA ⟨(Nat.le_of_ble_eq_true rfl), (Nat.le_of_ble_eq_true rfl)⟩ ⟨(Nat.le_of_ble_eq_true rfl), (Nat.le_of_ble_eq_true rfl)⟩ (As := [.int (J v_s), .int (J v_v)]) (rest := [.ref q5_, .ref (T 181 o)]) rfl rfl hl.1 (Nat.le_of_ble_eq_true rfl) 36 rfl dX9_line_33 (fun T15_ v_15 H locs hge15_ ho15_ hq15_ hw => ?_)
        obtain ⟨y20_15, y21_15, y22_15, y23_15, y24_15, y25_15, y302_15, ev15_, hh15_⟩ := hq15_
        rw [ev15_] at hw; clear ev15_
        obtain ⟨hx15_, tq15_, hv25_15_, hv20_15_, hv21_15_, hv22_15_, hv23_15_, hv24_15_, hfb_15_, hvo_15_⟩ := hh15_
        have hT15_ : WT T15_ := hw.1.2.1
        have hO15_ : ∀ x, ow T15_ x → κ 2 2 ≤ x := fun x h => hAc x (hw.2.1 x h)
        have hoT_ : OW T T15_ s.heap.size := OW.tr hw0_.2.2.1 hoT_ ho15_
        have hC_ : ∀ b, b < sz → T 0 b ≠ 10 → T 0 b ≠ 24 → T 0 b ≠ 26 → b ≠ o → ∀ j, j ≠ 197 → T15_ j b = T j b := fun b_ h1_ h2_ h3_ h4_ h5_ j_ h6_ => (hx15_ b_ (by have := hw0_.2.2.1; omega) (by have := fq5_; omega) j_).trans (hC_ b_ h1_ h2_ h3_ h4_ h5_ j_ h6_)
        have B180n_ : ∀ j_, j_ ≠ 197 → T15_ j_ (T 180 o) = T j_ (T 180 o) := fun j_ hj_ => (hx15_ (T 180 o) (cw_lt hw0_.1 ((B180_ 0 (by decide)).trans tl180_) (fun _ _ _ => ⟨_, rfl⟩)) (ty_ne ((B180_ 0 (by decide)).trans tl180_) tq5_ (by decide)) j_).trans (B180_ j_ hj_)
        have A180n_ : ∀ j_, j_ ≠ 197 → T15_ j_ (T 201 (T 180 o)) = T j_ (T 201 (T 180 o)) := fun j_ hj_ => (hx15_ (T 201 (T 180 o)) (cw_ltq hw0_.1 (by rw [A180_ 0 (by decide)]; exact tx180_)) (ty_neq (by rw [A180_ 0 (by decide)]; exact tx180_) tq5_ (by decide) (by decide)) j_).trans (A180_ j_ hj_)
        have B181n_ : ∀ j_, j_ ≠ 197 → T15_ j_ (T 181 o) = T j_ (T 181 o) := fun j_ hj_ => (hx15_ (T 181 o) (cw_lt hw0_.1 ((B181_ 0 (by decide)).trans tl181_) (fun _ _ _ => ⟨_, rfl⟩)) (ty_ne ((B181_ 0 (by decide)).trans tl181_) tq5_ (by decide)) j_).trans (B181_ j_ hj_)
        have A181n_ : ∀ j_, j_ ≠ 197 → T15_ j_ (T 201 (T 181 o)) = T j_ (T 201 (T 181 o)) := fun j_ hj_ => (hx15_ (T 201 (T 181 o)) (cw_ltq hw0_.1 (by rw [A181_ 0 (by decide)]; exact tx181_)) (ty_neq (by rw [A181_ 0 (by decide)]; exact tx181_) tq5_ (by decide) (by decide)) j_).trans (A181_ j_ hj_)
        have B182n_ : ∀ j_, j_ ≠ 197 → T15_ j_ (T 182 o) = T j_ (T 182 o) := fun j_ hj_ => (hx15_ (T 182 o) (cw_lt hw0_.1 ((B182_ 0 (by decide)).trans tl182_) (fun _ _ _ => ⟨_, rfl⟩)) (ty_ne ((B182_ 0 (by decide)).trans tl182_) tq5_ (by decide)) j_).trans (B182_ j_ hj_)
        have A182n_ : ∀ j_, j_ ≠ 197 → T15_ j_ (T 201 (T 182 o)) = T j_ (T 201 (T 182 o)) := fun j_ hj_ => (hx15_ (T 201 (T 182 o)) (cw_ltq hw0_.1 (by rw [A182_ 0 (by decide)]; exact tx182_)) (ty_neq (by rw [A182_ 0 (by decide)]; exact tx182_) tq5_ (by decide) (by decide)) j_).trans (A182_ j_ hj_)
        have B183n_ : ∀ j_, j_ ≠ 197 → T15_ j_ (T 183 o) = T j_ (T 183 o) := fun j_ hj_ => (hx15_ (T 183 o) (cw_lt hw0_.1 ((B183_ 0 (by decide)).trans tl183_) (fun _ _ _ => ⟨_, rfl⟩)) (ty_ne ((B183_ 0 (by decide)).trans tl183_) tq5_ (by decide)) j_).trans (B183_ j_ hj_)
        have A183n_ : ∀ j_, j_ ≠ 197 → T15_ j_ (T 201 (T 183 o)) = T j_ (T 201 (T 183 o)) := fun j_ hj_ => (hx15_ (T 201 (T 183 o)) (cw_ltq hw0_.1 (by rw [A183_ 0 (by decide)]; exact tx183_)) (ty_neq (by rw [A183_ 0 (by decide)]; exact tx183_) tq5_ (by decide) (by decide)) j_).trans (A183_ j_ hj_)
        have B180_ := B180n_
        have A180_ := A180n_
        have B181_ := B181n_
        have A181_ := A181n_
        have B182_ := B182n_
        have A182_ := A182n_
        have B183_ := B183n_
        have A183_ := A183n_
        have u16_ : T15_ 0 o = 9 := (hx15_ o (cw_lt hw0_.1 u6_ (fun _ _ _ => ⟨_, rfl⟩)) (ty_ne u6_ tq5_ (by decide)) 0).trans u6_
        have u17_ : T15_ 0 (T 181 o) = 10 := (hx15_ (T 181 o) (cw_lt hw0_.1 u7_ (fun _ _ _ => ⟨_, rfl⟩)) (ty_ne u7_ tq5_ (by decide)) 0).trans u7_
        have u18_ : T15_ 2 (T 181 o) = 1 := (hx15_ (T 181 o) (cw_lt hw0_.1 u7_ (fun _ _ _ => ⟨_, rfl⟩)) (ty_ne u7_ tq5_ (by decide)) 2).trans u8_
        have u19_ : T15_ 180 o = T 180 o := (hx15_ o (cw_lt hw0_.1 u6_ (fun _ _ _ => ⟨_, rfl⟩)) (ty_ne u6_ tq5_ (by decide)) 180).trans u9_
        have u20_ : T15_ 181 o = T 181 o := (hx15_ o (cw_lt hw0_.1 u6_ (fun _ _ _ => ⟨_, rfl⟩)) (ty_ne u6_ tq5_ (by decide)) 181).trans u10_
        have u21_ : T15_ 182 o = T 182 o := (hx15_ o (cw_lt hw0_.1 u6_ (fun _ _ _ => ⟨_, rfl⟩)) (ty_ne u6_ tq5_ (by decide)) 182).trans u11_
        have u22_ : T15_ 183 o = T 183 o := (hx15_ o (cw_lt hw0_.1 u6_ (fun _ _ _ => ⟨_, rfl⟩)) (ty_ne u6_ tq5_ (by decide)) 183).trans u12_
        have u23_ : T15_ 185 o = T 185 o := (hx15_ o (cw_lt hw0_.1 u6_ (fun _ _ _ => ⟨_, rfl⟩)) (ty_ne u6_ tq5_ (by decide)) 185).trans u13_
        have u24_ : T15_ 184 o = T 184 o := (hx15_ o (cw_lt hw0_.1 u6_ (fun _ _ _ => ⟨_, rfl⟩)) (ty_ne u6_ tq5_ (by decide)) 184).trans u14_
        have hw25_ : y25_15 = upB (upB (v_0 25) q5_ 0) q5_ (-1) := hv25_15_
        have hw20_ : y20_15 = upB (upB (v_0 20) q5_ 0) q5_ v_s := hv20_15_
        have hw21_ : y21_15 = upB (upB (v_0 21) q5_ 0) q5_ v_v := hv21_15_
        have hw22_ : y22_15 = upB (upB (v_0 22) q5_ 0) q5_ 0 := hv22_15_
        have hw23_ : y23_15 = upB (upB (v_0 23) q5_ 0) q5_ (-1) := hv23_15_
        have hw24_ : y24_15 = upB (upB (v_0 24) q5_ 0) q5_ 0 := hv24_15_
        have fb_ := hfb_15_
        have vo_ := hvo_15_
        have hw0_ := hw
        refine aV_i E (n_Jx4a65c_add_9ea2d_n2 l D cy κ T15_ (upV (upV (upV (upV (upV (upV (upV (upV (upV (upV (upV (upV (upV v_0 20 (upB (v_0 20) q5_ 0)) 21 (upB (v_0 21) q5_ 0)) 22 (upB (v_0 22) q5_ 0)) 23 (upB (v_0 23) q5_ 0)) 24 (upB (v_0 24) q5_ 0)) 25 (upB (v_0 25) q5_ 0)) 20 y20_15) 21 y21_15) 22 y22_15) 23 y23_15) 24 y24_15) 25 y25_15) 302 y302_15) (T 181 o) q5_ H.size  hO15_ u17_  (tq15_.trans u18_.symm) (fun x_ h_ => hp0 x_ ((hoT_ x_).2 h_)) (show ((v_0 202) ((T 181 o))) ≤ 200 from by omega)) mt_Jx4a65c_add_9ea2d ml_X9_89 hK hZ hAc hw (cw_rc10 hK hw.1 u17_) hA ⟨(Nat.le_of_ble_eq_true rfl), (Nat.le_of_ble_eq_true rfl)⟩ ⟨(Nat.le_of_ble_eq_true rfl), (Nat.le_of_ble_eq_true rfl)⟩ (As := [.ref q5_]) (rest := []) rfl rfl hl.1 (Nat.le_of_ble_eq_true rfl) 39 rfl dX9_line_36 (fun zz25_ T25_ v_25 H locs rr25_ hge25_ ho25_ hq25_ hw => ?_)
        obtain ⟨y200_25, y202_25, ev25_, hh25_⟩ := hq25_
        rw [ev25_] at hw; clear ev25_
        obtain ⟨hy25_, hx25_, hz25_, hl25_, hel25_, hnw25_⟩ := hh25_
        have hy25_ : y202_25 = upB (v_0 202) (T 181 o) ((v_0 202) (T 181 o) + 1) := hy25_
        have hT25_ : WT T25_ := hw.1.2.1
        have hO25_ : ∀ x, ow T25_ x → κ 2 2 ≤ x := fun x h => hAc x (hw.2.1 x h)
        have hoT_ : OW T T25_ s.heap.size := OW.tr hw0_.2.2.1 hoT_ ho25_
        have hC_ : ∀ b, b < sz → T 0 b ≠ 10 → T 0 b ≠ 24 → T 0 b ≠ 26 → b ≠ o → ∀ j, j ≠ 197 → T25_ j b = T j b := fun b_ h1_ h2_ h3_ h4_ h5_ j_ h6_ => (hx25_ b_ (by have := hw0_.2.2.1; omega) (fun e_ => h2_ ((hC_ b_ h1_ h2_ h3_ h4_ h5_ 0 (by decide)).symm.trans (by rw [e_]; exact u17_))) (fun h_ => absurd ((hC_ b_ h1_ h2_ h3_ h4_ h5_ 0 (by decide)).symm.trans h_) h3_) j_).trans (hC_ b_ h1_ h2_ h3_ h4_ h5_ j_ h6_)
        have B180n_ : ∀ j_, j_ ≠ 197 → T25_ j_ (T 180 o) = T j_ (T 180 o) := fun j_ hj_ => (hx25_ (T 180 o) (cw_lt hw0_.1 ((B180_ 0 (by decide)).trans tl180_) (fun _ _ _ => ⟨_, rfl⟩)) ((ls_ne hT t_o).1) (fun h_ => absurd (((B180_ 0 (by decide)).trans tl180_).symm.trans h_) (by decide)) j_).trans (B180_ j_ hj_)
        have A180n_ : ∀ j_, j_ ≠ 197 → T25_ j_ (T 201 (T 180 o)) = T j_ (T 201 (T 180 o)) := fun j_ hj_ => (hx25_ (T 201 (T 180 o)) (cw_ltq hw0_.1 (by rw [A180_ 0 (by decide)]; exact tx180_)) (ty_neq (by rw [A180_ 0 (by decide)]; exact tx180_) u17_ (by decide) (by decide)) (fun h_ => by rw [B181_ 201 (by decide)]; exact own_ne hT tl180_ tl181_ ((ls_ne hT t_o).1) ((A180_ 0 (by decide)).symm.trans h_)) j_).trans (A180_ j_ hj_)
        have B182n_ : ∀ j_, j_ ≠ 197 → T25_ j_ (T 182 o) = T j_ (T 182 o) := fun j_ hj_ => (hx25_ (T 182 o) (cw_lt hw0_.1 ((B182_ 0 (by decide)).trans tl182_) (fun _ _ _ => ⟨_, rfl⟩)) ((ls_ne hT t_o).2.2.2.2.2.2.2.1) (fun h_ => absurd (((B182_ 0 (by decide)).trans tl182_).symm.trans h_) (by decide)) j_).trans (B182_ j_ hj_)
        have A182n_ : ∀ j_, j_ ≠ 197 → T25_ j_ (T 201 (T 182 o)) = T j_ (T 201 (T 182 o)) := fun j_ hj_ => (hx25_ (T 201 (T 182 o)) (cw_ltq hw0_.1 (by rw [A182_ 0 (by decide)]; exact tx182_)) (ty_neq (by rw [A182_ 0 (by decide)]; exact tx182_) u17_ (by decide) (by decide)) (fun h_ => by rw [B181_ 201 (by decide)]; exact own_ne hT tl182_ tl181_ ((ls_ne hT t_o).2.2.2.2.2.2.2.1) ((A182_ 0 (by decide)).symm.trans h_)) j_).trans (A182_ j_ hj_)
        have B183n_ : ∀ j_, j_ ≠ 197 → T25_ j_ (T 183 o) = T j_ (T 183 o) := fun j_ hj_ => (hx25_ (T 183 o) (cw_lt hw0_.1 ((B183_ 0 (by decide)).trans tl183_) (fun _ _ _ => ⟨_, rfl⟩)) ((ls_ne hT t_o).2.2.2.2.2.2.2.2.2.2.1) (fun h_ => absurd (((B183_ 0 (by decide)).trans tl183_).symm.trans h_) (by decide)) j_).trans (B183_ j_ hj_)
        have A183n_ : ∀ j_, j_ ≠ 197 → T25_ j_ (T 201 (T 183 o)) = T j_ (T 201 (T 183 o)) := fun j_ hj_ => (hx25_ (T 201 (T 183 o)) (cw_ltq hw0_.1 (by rw [A183_ 0 (by decide)]; exact tx183_)) (ty_neq (by rw [A183_ 0 (by decide)]; exact tx183_) u17_ (by decide) (by decide)) (fun h_ => by rw [B181_ 201 (by decide)]; exact own_ne hT tl183_ tl181_ ((ls_ne hT t_o).2.2.2.2.2.2.2.2.2.2.1) ((A183_ 0 (by decide)).symm.trans h_)) j_).trans (A183_ j_ hj_)
        have B180_ := B180n_
        have A180_ := A180n_
        have B182_ := B182n_
        have A182_ := A182n_
        have B183_ := B183n_
        have A183_ := A183n_
        have u26_ : T25_ 0 o = 9 := (hx25_ o (cw_lt hw0_.1 u16_ (fun _ _ _ => ⟨_, rfl⟩)) (ty_ne u16_ u17_ (by decide)) (fun h_ => absurd (u16_.symm.trans h_) (by decide)) 0).trans u16_
        have u27_ : T25_ 180 o = T 180 o := (hx25_ o (cw_lt hw0_.1 u16_ (fun _ _ _ => ⟨_, rfl⟩)) (ty_ne u16_ u17_ (by decide)) (fun h_ => absurd (u16_.symm.trans h_) (by decide)) 180).trans u19_
        have u28_ : T25_ 181 o = T 181 o := (hx25_ o (cw_lt hw0_.1 u16_ (fun _ _ _ => ⟨_, rfl⟩)) (ty_ne u16_ u17_ (by decide)) (fun h_ => absurd (u16_.symm.trans h_) (by decide)) 181).trans u20_
        have u29_ : T25_ 182 o = T 182 o := (hx25_ o (cw_lt hw0_.1 u16_ (fun _ _ _ => ⟨_, rfl⟩)) (ty_ne u16_ u17_ (by decide)) (fun h_ => absurd (u16_.symm.trans h_) (by decide)) 182).trans u21_
        have u30_ : T25_ 183 o = T 183 o := (hx25_ o (cw_lt hw0_.1 u16_ (fun _ _ _ => ⟨_, rfl⟩)) (ty_ne u16_ u17_ (by decide)) (fun h_ => absurd (u16_.symm.trans h_) (by decide)) 183).trans u22_
        have u31_ : T25_ 185 o = T 185 o := (hx25_ o (cw_lt hw0_.1 u16_ (fun _ _ _ => ⟨_, rfl⟩)) (ty_ne u16_ u17_ (by decide)) (fun h_ => absurd (u16_.symm.trans h_) (by decide)) 185).trans u23_
        have u32_ : T25_ 184 o = T 184 o := (hx25_ o (cw_lt hw0_.1 u16_ (fun _ _ _ => ⟨_, rfl⟩)) (ty_ne u16_ u17_ (by decide)) (fun h_ => absurd (u16_.symm.trans h_) (by decide)) 184).trans u24_
        have vo_ : ∀ j_ : Int, 0 ≤ j_ → j_ < 200 → gC_ (y302_15) (T25_ 26 q5_) j_ = -2 := by rw [(hx25_ q5_ (cw_lt hw0_.1 tq15_ (fun _ _ _ => ⟨_, rfl⟩)) (ty_ne tq15_ u17_ (by decide)) (fun h_ => absurd (tq15_.symm.trans h_) (by decide)) 26)]; exact vo_
        refine j_pop E 40 rfl dX9_line_39 rfl ?_
        refine j_aload_n E 41 rfl dX9_line_40 rfl (lv_at hl 0 rfl) ?_
        refine g_181 E hK hw fl_X9_16 u26_ 44 rfl dX9_line_41 ?_
        refine kV_i E (c_Jx4a65c_size_8abf5 l D cy T25_ (upV (upV (upV (upV (upV (upV (upV (upV (upV (upV (upV (upV (upV (upV (upV v_0 20 (upB (v_0 20) q5_ 0)) 21 (upB (v_0 21) q5_ 0)) 22 (upB (v_0 22) q5_ 0)) 23 (upB (v_0 23) q5_ 0)) 24 (upB (v_0 24) q5_ 0)) 25 (upB (v_0 25) q5_ 0)) 20 y20_15) 21 y21_15) 22 y22_15) 23 y23_15) 24 y24_15) 25 y25_15) 302 y302_15) 200 y200_25) 202 y202_25) (T25_ 181 o)  (wt_181 hT25_ u26_)  ) mt_Jx4a65c_size_8abf5 ml_X9_80 hK hw (cw_rc10 hK hw.1 (wt_181 hT25_ u26_)) hA ⟨Nat.le_of_ble_eq_true rfl, Nat.le_of_ble_eq_true rfl⟩ ⟨Nat.le_of_ble_eq_true rfl, Nat.le_of_ble_eq_true rfl⟩ (As := []) (rest := []) rfl rfl hl.1 (Nat.le_of_ble_eq_true rfl) 47 rfl dX9_line_44 (fun zz33_ v_33 H locs rr33_ hq33_ hw => ?_)
        obtain ⟨ev33_, hh33_⟩ := hq33_
        rw [ev33_] at hw; clear ev33_
        replace hh33_ : zz33_ = (y202_25 ((T25_ 181 o))) ∧ 0 ≤ zz33_ := hh33_
        have hs2_ := hh33_.1
        rw [u28_, hy25_, upB_same] at hs2_
        refine j_iconst E 48 rfl dX9_line_47 ?_
        refine j_isub E 49 rfl dX9_line_48 ?_
        exact hret 49 (zz33_ - 1) T25_ _ _ _ ls _ _ hw hoT_ (rr (by omega)) (⟨u26_, ⟨u27_, u28_, u29_, u30_, u31_⟩, rfl, rfl, rfl, rfl, rfl, (by show y202_25 (T 180 o) = v_0 202 (T 180 o); rw [hy25_]; exact upB_ne ((ls_ne hT t_o).1)), (by show y202_25 (T 182 o) = v_0 202 (T 182 o); rw [hy25_]; exact upB_ne ((ls_ne hT t_o).2.2.2.2.2.2.2.1)), (by show y202_25 (T 183 o) = v_0 202 (T 183 o); rw [hy25_]; exact upB_ne ((ls_ne hT t_o).2.2.2.2.2.2.2.2.2.2.1)), hC_, (fun i_ => by rw [u27_, B180_ 201 (by decide), A180_ (1000 + i_) (by omega)]), (fun i_ => by rw [u29_, B182_ 201 (by decide), A182_ (1000 + i_) (by omega)]), (fun i_ => by rw [u30_, B183_ 201 (by decide), A183_ (1000 + i_) (by omega)]), rfl, rfl, rfl, rfl, rfl, rfl, rfl, rfl, rfl, rfl, rfl, rfl, rfl, rfl, rfl, rfl, rfl, rfl, u32_, Or.inr ⟨by omega, by omega, (by show y202_25 (T 181 o) = v_0 202 (T 181 o) + 1; rw [hy25_]; exact upB_same _ _ _), q5_, fz_, fun i_ h_ => by rw [u28_]; exact (hel25_ i_ h_).trans (by rw [B181_ 201 (by decide), A181_ (1000 + i_) (by omega)]), by rw [u28_]; exact hnw25_, fun y_ h_ => (by show y25_15 y_ = v_0 25 y_; rw [hw25_]; exact (upB_ne h_).trans (upB_ne h_)), (by show y25_15 q5_ = _; rw [hw25_]; exact upB_same _ _ _), fun y_ h_ => ⟨(by show y20_15 y_ = v_0 20 y_; rw [hw20_]; exact (upB_ne h_).trans (upB_ne h_)), (by show y21_15 y_ = v_0 21 y_; rw [hw21_]; exact (upB_ne h_).trans (upB_ne h_)), (by show y22_15 y_ = v_0 22 y_; rw [hw22_]; exact (upB_ne h_).trans (upB_ne h_)), (by show y23_15 y_ = v_0 23 y_; rw [hw23_]; exact (upB_ne h_).trans (upB_ne h_)), (by show y24_15 y_ = v_0 24 y_; rw [hw24_]; exact (upB_ne h_).trans (upB_ne h_))⟩, (by show y20_15 q5_ = _; rw [hw20_]; exact upB_same _ _ _), (by show y21_15 q5_ = _; rw [hw21_]; exact upB_same _ _ _), (by show y22_15 q5_ = _; rw [hw22_]; exact upB_same _ _ _), (by show y23_15 q5_ = _; rw [hw23_]; exact upB_same _ _ _), (by show y24_15 q5_ = _; rw [hw24_]; exact upB_same _ _ _), fun b_ i_ h_ => fb_ b_ i_ (by have := hw0i_; omega), vo_⟩⟩) (Nat.le_of_ble_eq_true rfl) (Nat.le_of_ble_eq_true rfl) dX9_line_49
      · refine j_iconst E 22 rfl dX9_line_21 ?_
        exact hret 22 ((-1)) T _ _ _ ls _ _ hw hoT_ (rr (by decide)) (⟨t_o, ⟨rfl, rfl, rfl, rfl, rfl⟩, rfl, rfl, rfl, rfl, rfl, rfl, rfl, rfl, hC_, (fun _ => rfl), (fun _ => rfl), (fun _ => rfl), rfl, rfl, rfl, rfl, rfl, rfl, rfl, rfl, rfl, rfl, rfl, rfl, rfl, rfl, rfl, rfl, rfl, rfl, rfl, Or.inl ⟨rfl, by omega, rfl, fun _ => rfl, rfl, rfl, rfl, rfl, rfl, rfl, rfl⟩⟩) (Nat.le_of_ble_eq_true rfl) (Nat.le_of_ble_eq_true rfl) dX9_line_22
set_option maxHeartbeats 4000000 in
set_option maxRecDepth 100000 in
theorem n_X9_suit (l : Launch) (D : va_G) (cy : Nat → ClassId) (κ T : Nat → Nat → Nat) (v_0 : Nat → Nat → Int) (o : Nat) (v_p : Int) (v_q : Int) (v_l : Int) (v_h : Int) (v_w : Int) (v_d : Int) (sz : Nat) (S1_ : Int → List Int) (S2_ : Int → List Int) (S3_ : Int → List Int) (hO : ∀ x, ow T x → κ 2 2 ≤ x) (t_o : T 0 o = 9) (r_v_p : inR v_p) (r_v_q : inR v_q) (r_v_l : inR v_l) (r_v_h : inR v_h) (r_v_w : inR v_w) (r_v_d : inR v_d) (hp0 : ∀ x, T 0 x = 26 → x = κ 2 0) (hp1 : Wd_ T (v_0 300) o (v_0 202 (T 182 o)) S1_ S2_ S3_) (hp2 : v_0 202 (T 181 o) ≤ 24) (hp3 : 0 ≤ v_0 187 o ∧ v_0 187 o ≤ 199) (hp4 : (v_0 202 (T 180 o)) ≤ 24) : KA l D cy κ T yX9_suit cX9_suit 10 (some .int) 8 2 500 [.ref o, .int (J v_p), .int (J v_q), .int (J v_l), .int (J v_h), .int (J v_w), .int (J v_d)] v_0 sz (AI (fun (z_0 : Int) (T_2 : Nat → Nat → Nat) (v_2 : Nat → Nat → Int) => (T_2 0 o = 9 ∧ (T_2 180 o = T 180 o ∧ T_2 181 o = T 181 o ∧ T_2 182 o = T 182 o ∧ T_2 183 o = T 183 o ∧ T_2 185 o = T 185 o) ∧ v_2 186 o = v_0 186 o ∧ v_2 187 o = v_0 187 o ∧ v_2 190 o = v_0 190 o ∧ v_2 191 o = v_0 191 o ∧ v_2 303 = v_0 303 ∧ v_2 202 (T 180 o) = v_0 202 (T 180 o) ∧ v_2 202 (T 181 o) = v_0 202 (T 181 o) ∧ v_2 202 (T 182 o) = v_0 202 (T 182 o) ∧ (∀ b, b < sz → T 0 b ≠ 10 → T 0 b ≠ 24 → T 0 b ≠ 26 → b ≠ o → ∀ j, j ≠ 197 → T_2 j b = T j b) ∧ (∀ i_ : Nat, T_2 (1000 + i_) (T_2 201 (T_2 180 o)) = T (1000 + i_) (T 201 (T 180 o))) ∧ (∀ i_ : Nat, T_2 (1000 + i_) (T_2 201 (T_2 181 o)) = T (1000 + i_) (T 201 (T 181 o))) ∧ (∀ i_ : Nat, T_2 (1000 + i_) (T_2 201 (T_2 182 o)) = T (1000 + i_) (T 201 (T 182 o))) ∧ v_2 40 = v_0 40 ∧ v_2 41 = v_0 41 ∧ v_2 42 = v_0 42 ∧ v_2 43 = v_0 43 ∧ v_2 44 = v_0 44 ∧ v_2 25 = v_0 25 ∧ v_2 302 = v_0 302 ∧ v_2 160 = v_0 160 ∧ v_2 20 = v_0 20 ∧ v_2 21 = v_0 21 ∧ v_2 22 = v_0 22 ∧ v_2 23 = v_0 23 ∧ v_2 24 = v_0 24 ∧ v_2 45 = v_0 45 ∧ v_2 188 = v_0 188 ∧ v_2 189 = v_0 189 ∧ v_2 301 = v_0 301 ∧ T_2 184 o = T 184 o ∧ ((z_0 = -1 ∧ ¬ ((0 ≤ v_p ∧ v_p < (v_0 202 (T 180 o)) ∧ (v_0 43 ((pe_ T 180 o v_p))) = -1) ∧ (0 ≤ v_q ∧ v_q < (v_0 202 (T 180 o)) ∧ (v_0 43 ((pe_ T 180 o v_q))) = -1) ∧ ¬ v_p = v_q ∧ (0 ≤ v_l ∧ v_l < (v_0 202 (T 181 o))) ∧ (v_0 202 (T 183 o)) < 100 ∧ (0 ≤ v_d ∧ v_d ≤ (v_0 187 o)) ∧ (v_0 42 ((pe_ T 180 o v_p))) ≤ v_d ∧ (v_0 42 ((pe_ T 180 o v_q))) ≤ v_d ∧ (0 ≤ v_h ∧ v_h ≤ 99) ∧ (0 ≤ v_w ∧ v_w ≤ 9) ∧ -99 ≤ (w32_ (v_d - (v_0 42 ((pe_ T 180 o v_q))))) ∧ (w32_ (v_d - (v_0 42 ((pe_ T 180 o v_q))))) ≤ 299) ∧ v_2 202 (T 183 o) = v_0 202 (T 183 o) ∧ (∀ i_ : Nat, T_2 (1000 + i_) (T_2 201 (T_2 183 o)) = T (1000 + i_) (T 201 (T 183 o))) ∧ v_2 140 = v_0 140 ∧ v_2 141 = v_0 141 ∧ v_2 142 = v_0 142 ∧ v_2 143 = v_0 143 ∧ v_2 144 = v_0 144 ∧ v_2 145 = v_0 145 ∧ v_2 146 = v_0 146) ∨ (z_0 = v_0 202 (T 183 o) ∧ ((0 ≤ v_p ∧ v_p < (v_0 202 (T 180 o)) ∧ (v_0 43 ((pe_ T 180 o v_p))) = -1) ∧ (0 ≤ v_q ∧ v_q < (v_0 202 (T 180 o)) ∧ (v_0 43 ((pe_ T 180 o v_q))) = -1) ∧ ¬ v_p = v_q ∧ (0 ≤ v_l ∧ v_l < (v_0 202 (T 181 o))) ∧ (v_0 202 (T 183 o)) < 100 ∧ (0 ≤ v_d ∧ v_d ≤ (v_0 187 o)) ∧ (v_0 42 ((pe_ T 180 o v_p))) ≤ v_d ∧ (v_0 42 ((pe_ T 180 o v_q))) ≤ v_d ∧ (0 ≤ v_h ∧ v_h ≤ 99) ∧ (0 ≤ v_w ∧ v_w ≤ 9) ∧ -99 ≤ (w32_ (v_d - (v_0 42 ((pe_ T 180 o v_q))))) ∧ (w32_ (v_d - (v_0 42 ((pe_ T 180 o v_q))))) ≤ 299) ∧ v_2 202 (T 183 o) = v_0 202 (T 183 o) + 1 ∧ ∃ q_ : Nat, sz ≤ q_ ∧ (∀ i_ : Nat, (i_ : Int) < v_0 202 (T 183 o) → T_2 (1000 + i_) (T_2 201 (T_2 183 o)) = T (1000 + i_) (T 201 (T 183 o))) ∧ T_2 (1000 + (v_0 202 (T 183 o)).toNat) (T_2 201 (T_2 183 o)) = q_ + 1 ∧ (∀ y_ : Nat, y_ ≠ q_ → v_2 140 y_ = v_0 140 y_ ∧ v_2 141 y_ = v_0 141 y_ ∧ v_2 142 y_ = v_0 142 y_ ∧ v_2 143 y_ = v_0 143 y_ ∧ v_2 144 y_ = v_0 144 y_ ∧ v_2 145 y_ = v_0 145 y_ ∧ v_2 146 y_ = v_0 146 y_) ∧ v_2 140 q_ = v_p ∧ v_2 141 q_ = v_q ∧ v_2 142 q_ = v_l ∧ v_2 144 q_ = (v_0 187 o) ∧ v_2 146 q_ = 0 ∧ (∃ kn_ g_, ((kn_ = 1 ∧ (v_0 41 ((pe_ T 180 o v_p))) = (v_0 41 ((pe_ T 180 o v_q)))) ∨ (kn_ = 0 ∧ ¬ (v_0 41 ((pe_ T 180 o v_p))) = (v_0 41 ((pe_ T 180 o v_q))))) ∧ v_2 143 q_ = g_ v_l ∧ Owc_ (fun y_ w_ => ∃ x_ z_, ELn_ T 181 o (y_).toNat = x_ + 1 ∧ Lw_ ((v_0 23 x_)) (gC_ (v_0 302) (T 26 x_)) ((v_0 187 o) - 1) z_ ∧ w_ = nrm_ (v_0 202 (T 182 o)) z_) (fcf_ v_h v_w ((v_0 187 o) - v_d) kn_ (w32_ (v_d - (v_0 42 ((pe_ T 180 o v_q)))))) g_ (v_l + 1) S1_ S2_ S3_) ∧ Bs_ (v_2 145 q_) (fun r_ => ¬ r_ = v_p ∧ (v_0 43 ((pe_ T 180 o r_))) = -1 ∧ (v_0 41 ((pe_ T 180 o r_))) = (v_0 41 ((pe_ T 180 o v_p)))) (v_0 202 (T 180 o))))) ∧ KdA_ T sz [100, 101, 102] (v_0 300) (v_2 300))) := by
  refine KA.ofi (by decide) (Nat.le_of_ble_eq_true rfl) hO ?_
  intro p e s m below meth c ls ar QW A0 H locs E hK hZ hA hAc hsz hszH_ hnm hw hlo_ hl hret
  have hl : lv_has ls 10 [(0, .ref o), (1, .int (J v_p)), (2, .int (J v_q)), (3, .int (J v_l)), (4, .int (J v_h)), (5, .int (J v_w)), (6, .int (J v_d))] := hl
  have hT : WT T := hw.1.2.1
  have hoT_ : OW T T s.heap.size := OW.rf T _
  have hC_ : ∀ b, b < sz → T 0 b ≠ 10 → T 0 b ≠ 24 → T 0 b ≠ 26 → b ≠ o → ∀ j, j ≠ 197 → T j b = T j b := fun _ _ _ _ _ _ _ _ => rfl
  have tl180_ : T 0 (T 180 o) = 10 := wt_180 hT t_o
  have tx180_ : T 0 (T 201 (T 180 o)) = 24 ∨ T 0 (T 201 (T 180 o)) = 26 := (wt10 hT tl180_).1
  have B180_ : ∀ j, j ≠ 197 → T j (T 180 o) = T j (T 180 o) := fun _ _ => rfl
  have A180_ : ∀ j, j ≠ 197 → T j (T 201 (T 180 o)) = T j (T 201 (T 180 o)) := fun _ _ => rfl
  have tl181_ : T 0 (T 181 o) = 10 := wt_181 hT t_o
  have tx181_ : T 0 (T 201 (T 181 o)) = 24 ∨ T 0 (T 201 (T 181 o)) = 26 := (wt10 hT tl181_).1
  have B181_ : ∀ j, j ≠ 197 → T j (T 181 o) = T j (T 181 o) := fun _ _ => rfl
  have A181_ : ∀ j, j ≠ 197 → T j (T 201 (T 181 o)) = T j (T 201 (T 181 o)) := fun _ _ => rfl
  have tl182_ : T 0 (T 182 o) = 10 := wt_182 hT t_o
  have tx182_ : T 0 (T 201 (T 182 o)) = 24 ∨ T 0 (T 201 (T 182 o)) = 26 := (wt10 hT tl182_).1
  have B182_ : ∀ j, j ≠ 197 → T j (T 182 o) = T j (T 182 o) := fun _ _ => rfl
  have A182_ : ∀ j, j ≠ 197 → T j (T 201 (T 182 o)) = T j (T 201 (T 182 o)) := fun _ _ => rfl
  have tl183_ : T 0 (T 183 o) = 10 := wt_183 hT t_o
  have tx183_ : T 0 (T 201 (T 183 o)) = 24 ∨ T 0 (T 201 (T 183 o)) = 26 := (wt10 hT tl183_).1
  have B183_ : ∀ j, j ≠ 197 → T j (T 183 o) = T j (T 183 o) := fun _ _ => rfl
  have A183_ : ∀ j, j ≠ 197 → T j (T 201 (T 183 o)) = T j (T 201 (T 183 o)) := fun _ _ => rfl
  have hwI_ := hw
  refine j_aload_n E 1 rfl dX9_suit_0 rfl (lv_at hl 0 rfl) ?_
  refine j_iload_n E 2 rfl dX9_suit_1 rfl (lv_at hl 1 rfl) ?_
  refine kV_r E (c_X9_livingAt l D cy T (v_0) o v_p  t_o r_v_p ) mt_X9_livingAt ml_X9_93 hK hw (cw_rc9 hK hw.1 t_o) hA ⟨Nat.le_of_ble_eq_true rfl, Nat.le_of_ble_eq_true rfl⟩ ⟨Nat.le_of_ble_eq_true rfl, Nat.le_of_ble_eq_true rfl⟩ (As := [.int (J v_p)]) (rest := []) rfl rfl hl.1 (Nat.le_of_ble_eq_true rfl) 5 rfl dX9_suit_2 (fun oo1_ v_1 H locs hq1_ hw => ?_)
  obtain ⟨ev1_, hh1_⟩ := hq1_
  rw [ev1_] at hw; clear ev1_
  obtain ⟨tt1_, hh1_⟩ := hh1_
  replace hh1_ : (oo1_ = none → ((v_p < 0 ∨ ((v_0 202) (T 180 o)) ≤ v_p) ∨ ∃ y_, T (1000 + (v_p).toNat) (T 201 (T 180 o)) = y_ + 1 ∧ ¬ ((v_0 43) y_) = -1)) ∧ (∀ y_, oo1_ = some y_ → 0 ≤ v_p ∧ v_p < ((v_0 202) (T 180 o)) ∧ T (1000 + (v_p).toNat) (T 201 (T 180 o)) = y_ + 1 ∧ ((v_0 43) y_) = -1) := hh1_
  cases oo1_ with
  | none =>
    first | have hn1_ := hh1_.1 rfl | have hs1_ := hh1_.2 _ rfl
    try (have hg1_ := pe_of (show ELn_ T 180 o (Int.toNat v_p) = _ + 1 from hs1_.2.2.1))
    refine j_astoreN E 7 rfl [(7, .null), (0, .ref o), (1, .int (J v_p)), (2, .int (J v_q)), (3, .int (J v_l)), (4, .int (J v_h)), (5, .int (J v_w)), (6, .int (J v_d))] dX9_suit_5 hl (by decide) rfl (fun ls hl => ?_)
    refine j_aload_n E 8 rfl dX9_suit_7 rfl (lv_at hl 1 rfl) ?_
    refine j_iload_n E 9 rfl dX9_suit_8 rfl (lv_at hl 3 rfl) ?_
    refine kV_r E (c_X9_livingAt l D cy T (v_0) o v_q  t_o r_v_q ) mt_X9_livingAt ml_X9_93 hK hw (cw_rc9 hK hw.1 t_o) hA ⟨Nat.le_of_ble_eq_true rfl, Nat.le_of_ble_eq_true rfl⟩ ⟨Nat.le_of_ble_eq_true rfl, Nat.le_of_ble_eq_true rfl⟩ (As := [.int (J v_q)]) (rest := []) rfl rfl hl.1 (Nat.le_of_ble_eq_true rfl) 12 rfl dX9_suit_9 (fun oo2_ v_2 H locs hq2_ hw => ?_)
    obtain ⟨ev2_, hh2_⟩ := hq2_
    rw [ev2_] at hw; clear ev2_
    obtain ⟨tt2_, hh2_⟩ := hh2_
    replace hh2_ : (oo2_ = none → ((v_q < 0 ∨ ((v_0 202) (T 180 o)) ≤ v_q) ∨ ∃ y_, T (1000 + (v_q).toNat) (T 201 (T 180 o)) = y_ + 1 ∧ ¬ ((v_0 43) y_) = -1)) ∧ (∀ y_, oo2_ = some y_ → 0 ≤ v_q ∧ v_q < ((v_0 202) (T 180 o)) ∧ T (1000 + (v_q).toNat) (T 201 (T 180 o)) = y_ + 1 ∧ ((v_0 43) y_) = -1) := hh2_
    cases oo2_ with
    | none =>
      first | have hn2_ := hh2_.1 rfl | have hs2_ := hh2_.2 _ rfl
      try (have hg2_ := pe_of (show ELn_ T 180 o (Int.toNat v_q) = _ + 1 from hs2_.2.2.1))
      refine j_astoreN E 14 rfl [(8, .null), (7, .null), (0, .ref o), (1, .int (J v_p)), (2, .int (J v_q)), (3, .int (J v_l)), (4, .int (J v_h)), (5, .int (J v_w)), (6, .int (J v_d))] dX9_suit_12 hl (by decide) rfl (fun ls hl => ?_)
      refine j_aloadN E 16 rfl dX9_suit_14 (lv_at hl 1 rfl) ?_
      refine j_ifnullN E 49 dX9_suit_16 (by decide) ?_
      refine j_iconst E 50 rfl dX9_suit_49 ?_
      exact hret 50 ((-1)) T _ _ _ ls _ _ hw hoT_ (rr (by decide)) (⟨⟨t_o, ⟨rfl, rfl, rfl, rfl, rfl⟩, rfl, rfl, rfl, rfl, rfl, rfl, rfl, rfl, hC_, (fun _ => rfl), (fun _ => rfl), (fun _ => rfl), rfl, rfl, rfl, rfl, rfl, rfl, rfl, rfl, rfl, rfl, rfl, rfl, rfl, rfl, rfl, rfl, rfl, rfl, Or.inl ⟨rfl, (fun q_ => by first | exact lv_no hn1_ q_.1 | exact lv_no hn2_ q_.2.1 | (have a_ := q_.2.2; rw [← ag_] at a_; have b_ := (tf_.elim (fun u_ => absurd u_.1 (by omega)) id).2.1; omega) | (have a_ := q_.2.2; rw [hg1_, hg2_] at a_; omega)), rfl, fun _ => rfl, rfl, rfl, rfl, rfl, rfl, rfl, rfl⟩⟩, KdA_rf⟩) (Nat.le_of_ble_eq_true rfl) (Nat.le_of_ble_eq_true rfl) dX9_suit_50
    | some xx2_ =>
      have te2_ := tt2_ xx2_ rfl
      have tr_ := te2_
      first | have hn2_ := hh2_.1 rfl | have hs2_ := hh2_.2 _ rfl
      try (have hg2_ := pe_of (show ELn_ T 180 o (Int.toNat v_q) = _ + 1 from hs2_.2.2.1))
      refine j_astore E 14 rfl [(8, .ref xx2_), (7, .null), (0, .ref o), (1, .int (J v_p)), (2, .int (J v_q)), (3, .int (J v_l)), (4, .int (J v_h)), (5, .int (J v_w)), (6, .int (J v_d))] dX9_suit_12 hl (by decide) rfl (fun ls hl => ?_)
      refine j_aloadN E 16 rfl dX9_suit_14 (lv_at hl 1 rfl) ?_
      refine j_ifnullN E 49 dX9_suit_16 (by decide) ?_
      refine j_iconst E 50 rfl dX9_suit_49 ?_
      exact hret 50 ((-1)) T _ _ _ ls _ _ hw hoT_ (rr (by decide)) (⟨⟨t_o, ⟨rfl, rfl, rfl, rfl, rfl⟩, rfl, rfl, rfl, rfl, rfl, rfl, rfl, rfl, hC_, (fun _ => rfl), (fun _ => rfl), (fun _ => rfl), rfl, rfl, rfl, rfl, rfl, rfl, rfl, rfl, rfl, rfl, rfl, rfl, rfl, rfl, rfl, rfl, rfl, rfl, Or.inl ⟨rfl, (fun q_ => by first | exact lv_no hn1_ q_.1 | exact lv_no hn2_ q_.2.1 | (have a_ := q_.2.2; rw [← ag_] at a_; have b_ := (tf_.elim (fun u_ => absurd u_.1 (by omega)) id).2.1; omega) | (have a_ := q_.2.2; rw [hg1_, hg2_] at a_; omega)), rfl, fun _ => rfl, rfl, rfl, rfl, rfl, rfl, rfl, rfl⟩⟩, KdA_rf⟩) (Nat.le_of_ble_eq_true rfl) (Nat.le_of_ble_eq_true rfl) dX9_suit_50
  | some xx1_ =>
    have te1_ := tt1_ xx1_ rfl
    have tr_ := te1_
    first | have hn1_ := hh1_.1 rfl | have hs1_ := hh1_.2 _ rfl
    try (have hg1_ := pe_of (show ELn_ T 180 o (Int.toNat v_p) = _ + 1 from hs1_.2.2.1))
    refine j_astore E 7 rfl [(7, .ref xx1_), (0, .ref o), (1, .int (J v_p)), (2, .int (J v_q)), (3, .int (J v_l)), (4, .int (J v_h)), (5, .int (J v_w)), (6, .int (J v_d))] dX9_suit_5 hl (by decide) rfl (fun ls hl => ?_)
    refine j_aload_n E 8 rfl dX9_suit_7 rfl (lv_at hl 1 rfl) ?_
    refine j_iload_n E 9 rfl dX9_suit_8 rfl (lv_at hl 3 rfl) ?_
    refine kV_r E (c_X9_livingAt l D cy T (v_0) o v_q  t_o r_v_q ) mt_X9_livingAt ml_X9_93 hK hw (cw_rc9 hK hw.1 t_o) hA ⟨Nat.le_of_ble_eq_true rfl, Nat.le_of_ble_eq_true rfl⟩ ⟨Nat.le_of_ble_eq_true rfl, Nat.le_of_ble_eq_true rfl⟩ (As := [.int (J v_q)]) (rest := []) rfl rfl hl.1 (Nat.le_of_ble_eq_true rfl) 12 rfl dX9_suit_9 (fun oo3_ v_3 H locs hq3_ hw => ?_)
    obtain ⟨ev3_, hh3_⟩ := hq3_
    rw [ev3_] at hw; clear ev3_
    obtain ⟨tt3_, hh3_⟩ := hh3_
    replace hh3_ : (oo3_ = none → ((v_q < 0 ∨ ((v_0 202) (T 180 o)) ≤ v_q) ∨ ∃ y_, T (1000 + (v_q).toNat) (T 201 (T 180 o)) = y_ + 1 ∧ ¬ ((v_0 43) y_) = -1)) ∧ (∀ y_, oo3_ = some y_ → 0 ≤ v_q ∧ v_q < ((v_0 202) (T 180 o)) ∧ T (1000 + (v_q).toNat) (T 201 (T 180 o)) = y_ + 1 ∧ ((v_0 43) y_) = -1) := hh3_
    cases oo3_ with
    | none =>
      first | have hn2_ := hh3_.1 rfl | have hs2_ := hh3_.2 _ rfl
      try (have hg2_ := pe_of (show ELn_ T 180 o (Int.toNat v_q) = _ + 1 from hs2_.2.2.1))
      refine j_astoreN E 14 rfl [(8, .null), (7, .ref xx1_), (0, .ref o), (1, .int (J v_p)), (2, .int (J v_q)), (3, .int (J v_l)), (4, .int (J v_h)), (5, .int (J v_w)), (6, .int (J v_d))] dX9_suit_12 hl (by decide) rfl (fun ls hl => ?_)
      refine j_aload E 16 rfl dX9_suit_14 (lv_at hl 1 rfl) ?_
      refine j_ifnullR E 19 rfl dX9_suit_16 ?_
      refine j_aloadN E 21 rfl dX9_suit_19 (lv_at hl 0 rfl) ?_
      refine j_ifnullN E 49 dX9_suit_21 (by decide) ?_
      refine j_iconst E 50 rfl dX9_suit_49 ?_
      exact hret 50 ((-1)) T _ _ _ ls _ _ hw hoT_ (rr (by decide)) (⟨⟨t_o, ⟨rfl, rfl, rfl, rfl, rfl⟩, rfl, rfl, rfl, rfl, rfl, rfl, rfl, rfl, hC_, (fun _ => rfl), (fun _ => rfl), (fun _ => rfl), rfl, rfl, rfl, rfl, rfl, rfl, rfl, rfl, rfl, rfl, rfl, rfl, rfl, rfl, rfl, rfl, rfl, rfl, Or.inl ⟨rfl, (fun q_ => by first | exact lv_no hn1_ q_.1 | exact lv_no hn2_ q_.2.1 | (have a_ := q_.2.2; rw [← ag_] at a_; have b_ := (tf_.elim (fun u_ => absurd u_.1 (by omega)) id).2.1; omega) | (have a_ := q_.2.2; rw [hg1_, hg2_] at a_; omega)), rfl, fun _ => rfl, rfl, rfl, rfl, rfl, rfl, rfl, rfl⟩⟩, KdA_rf⟩) (Nat.le_of_ble_eq_true rfl) (Nat.le_of_ble_eq_true rfl) dX9_suit_50
    | some xx3_ =>
      have te3_ := tt3_ xx3_ rfl
      have tr_ := te3_
      first | have hn2_ := hh3_.1 rfl | have hs2_ := hh3_.2 _ rfl
      try (have hg2_ := pe_of (show ELn_ T 180 o (Int.toNat v_q) = _ + 1 from hs2_.2.2.1))
      refine j_astore E 14 rfl [(8, .ref xx3_), (7, .ref xx1_), (0, .ref o), (1, .int (J v_p)), (2, .int (J v_q)), (3, .int (J v_l)), (4, .int (J v_h)), (5, .int (J v_w)), (6, .int (J v_d))] dX9_suit_12 hl (by decide) rfl (fun ls hl => ?_)
      refine j_aload E 16 rfl dX9_suit_14 (lv_at hl 1 rfl) ?_
      refine j_ifnullR E 19 rfl dX9_suit_16 ?_
      refine j_aload E 21 rfl dX9_suit_19 (lv_at hl 0 rfl) ?_
      refine j_ifnullR E 24 rfl dX9_suit_21 ?_
      refine j_iload_n E 25 rfl dX9_suit_24 rfl (lv_at hl 3 rfl) ?_
      refine j_iload_n E 26 rfl dX9_suit_25 rfl (lv_at hl 4 rfl) ?_
      refine j_icmp_eq E 29 49 rfl r_v_p r_v_q dX9_suit_26 (by decide) (fun cc4_ => ?_) (fun cc4_ => ?_)
      · refine j_iconst E 50 rfl dX9_suit_49 ?_
        exact hret 50 ((-1)) T _ _ _ ls _ _ hw hoT_ (rr (by decide)) (⟨⟨t_o, ⟨rfl, rfl, rfl, rfl, rfl⟩, rfl, rfl, rfl, rfl, rfl, rfl, rfl, rfl, hC_, (fun _ => rfl), (fun _ => rfl), (fun _ => rfl), rfl, rfl, rfl, rfl, rfl, rfl, rfl, rfl, rfl, rfl, rfl, rfl, rfl, rfl, rfl, rfl, rfl, rfl, Or.inl ⟨rfl, (fun q_ => by first | exact lv_no hn1_ q_.1 | exact lv_no hn2_ q_.2.1 | (have a_ := q_.2.2; rw [← ag_] at a_; have b_ := (tf_.elim (fun u_ => absurd u_.1 (by omega)) id).2.1; omega) | (have a_ := q_.2.2; rw [hg1_, hg2_] at a_; omega)), rfl, fun _ => rfl, rfl, rfl, rfl, rfl, rfl, rfl, rfl⟩⟩, KdA_rf⟩) (Nat.le_of_ble_eq_true rfl) (Nat.le_of_ble_eq_true rfl) dX9_suit_50
      · refine j_aload_n E 30 rfl dX9_suit_29 rfl (lv_at hl 2 rfl) ?_
        refine j_iload_n E 31 rfl dX9_suit_30 rfl (lv_at hl 5 rfl) ?_
        refine kV_i E (c_X9_isLine l D cy T (v_0) o v_l  t_o r_v_l ) mt_X9_isLine ml_X9_172 hK hw (cw_rc9 hK hw.1 t_o) hA ⟨Nat.le_of_ble_eq_true rfl, Nat.le_of_ble_eq_true rfl⟩ ⟨Nat.le_of_ble_eq_true rfl, Nat.le_of_ble_eq_true rfl⟩ (As := [.int (J v_l)]) (rest := []) rfl rfl hl.1 (Nat.le_of_ble_eq_true rfl) 34 rfl dX9_suit_31 (fun zz5_ v_5 H locs rr5_ hq5_ hw => ?_)
        obtain ⟨ev5_, hh5_⟩ := hq5_
        rw [ev5_] at hw; clear ev5_
        replace hh5_ : (zz5_ = 1 ∧ 0 ≤ v_l ∧ v_l < ((v_0 202) (T 181 o))) ∨ (zz5_ = 0 ∧ (v_l < 0 ∨ ((v_0 202) (T 181 o)) ≤ v_l)) := hh5_
        refine j_if_eq E 37 49 rfl rr5_ dX9_suit_34 (by decide) (fun cc6_ => ?_) (fun cc6_ => ?_)
        · refine j_iconst E 50 rfl dX9_suit_49 ?_
          exact hret 50 ((-1)) T _ _ _ ls _ _ hw hoT_ (rr (by decide)) (⟨⟨t_o, ⟨rfl, rfl, rfl, rfl, rfl⟩, rfl, rfl, rfl, rfl, rfl, rfl, rfl, rfl, hC_, (fun _ => rfl), (fun _ => rfl), (fun _ => rfl), rfl, rfl, rfl, rfl, rfl, rfl, rfl, rfl, rfl, rfl, rfl, rfl, rfl, rfl, rfl, rfl, rfl, rfl, Or.inl ⟨rfl, (fun q_ => by first | exact lv_no hn1_ q_.1 | exact lv_no hn2_ q_.2.1 | (have a_ := q_.2.2; rw [← ag_] at a_; have b_ := (tf_.elim (fun u_ => absurd u_.1 (by omega)) id).2.1; omega) | (have a_ := q_.2.2; rw [hg1_, hg2_] at a_; omega)), rfl, fun _ => rfl, rfl, rfl, rfl, rfl, rfl, rfl, rfl⟩⟩, KdA_rf⟩) (Nat.le_of_ble_eq_true rfl) (Nat.le_of_ble_eq_true rfl) dX9_suit_50
        · refine j_aload_n E 38 rfl dX9_suit_37 rfl (lv_at hl 2 rfl) ?_
          refine g_183 E hK hw fl_X9_22 t_o 41 rfl dX9_suit_38 ?_
          refine kV_i E (c_Jx4a65c_size_8abf5 l D cy T (v_0) (T 183 o)  (wt_183 hT t_o)  ) mt_Jx4a65c_size_8abf5 ml_X9_80 hK hw (cw_rc10 hK hw.1 (wt_183 hT t_o)) hA ⟨Nat.le_of_ble_eq_true rfl, Nat.le_of_ble_eq_true rfl⟩ ⟨Nat.le_of_ble_eq_true rfl, Nat.le_of_ble_eq_true rfl⟩ (As := []) (rest := []) rfl rfl hl.1 (Nat.le_of_ble_eq_true rfl) 44 rfl dX9_suit_41 (fun zz7_ v_7 H locs rr7_ hq7_ hw => ?_)
          obtain ⟨ev7_, hh7_⟩ := hq7_
          rw [ev7_] at hw; clear ev7_
          replace hh7_ : zz7_ = ((v_0 202) ((T 183 o))) ∧ 0 ≤ zz7_ := hh7_
          refine j_bipush E 46 rfl dX9_suit_44 (by decide) ?_
          refine j_icmp_lt E 49 51 rfl rr7_ (rr (by decide)) dX9_suit_46 (by decide) (fun cc8_ => ?_) (fun cc8_ => ?_)
          · refine j_iload E 53 rfl dX9_suit_51 (lv_at hl 8 rfl) ?_
            refine j_if_lt E 56 85 rfl r_v_d dX9_suit_53 (by decide) (fun cc9_ => ?_) (fun cc9_ => ?_)
            · refine j_iconst E 86 rfl dX9_suit_85 ?_
              exact hret 86 ((-1)) T _ _ _ ls _ _ hw hoT_ (rr (by decide)) (⟨⟨t_o, ⟨rfl, rfl, rfl, rfl, rfl⟩, rfl, rfl, rfl, rfl, rfl, rfl, rfl, rfl, hC_, (fun _ => rfl), (fun _ => rfl), (fun _ => rfl), rfl, rfl, rfl, rfl, rfl, rfl, rfl, rfl, rfl, rfl, rfl, rfl, rfl, rfl, rfl, rfl, rfl, rfl, Or.inl ⟨rfl, (fun q_ => by first | exact lv_no hn1_ q_.1 | exact lv_no hn2_ q_.2.1 | (have a_ := q_.2.2; rw [← ag_] at a_; have b_ := (tf_.elim (fun u_ => absurd u_.1 (by omega)) id).2.1; omega) | (have a_ := q_.2.2; rw [hg1_, hg2_] at a_; omega)), rfl, fun _ => rfl, rfl, rfl, rfl, rfl, rfl, rfl, rfl⟩⟩, KdA_rf⟩) (Nat.le_of_ble_eq_true rfl) (Nat.le_of_ble_eq_true rfl) dX9_suit_86
            · refine j_iload E 58 rfl dX9_suit_56 (lv_at hl 8 rfl) ?_
              refine j_aload_n E 59 rfl dX9_suit_58 rfl (lv_at hl 2 rfl) ?_
              refine g_187 E hK hw fl_X9_37 t_o (v_0 187 o) rfl 62 rfl dX9_suit_59 (fun rr10_ => ?_)
              refine j_icmp_gt E 65 85 rfl r_v_d rr10_ dX9_suit_62 (by decide) (fun cc11_ => ?_) (fun cc11_ => ?_)
              · refine j_iconst E 86 rfl dX9_suit_85 ?_
                exact hret 86 ((-1)) T _ _ _ ls _ _ hw hoT_ (rr (by decide)) (⟨⟨t_o, ⟨rfl, rfl, rfl, rfl, rfl⟩, rfl, rfl, rfl, rfl, rfl, rfl, rfl, rfl, hC_, (fun _ => rfl), (fun _ => rfl), (fun _ => rfl), rfl, rfl, rfl, rfl, rfl, rfl, rfl, rfl, rfl, rfl, rfl, rfl, rfl, rfl, rfl, rfl, rfl, rfl, Or.inl ⟨rfl, (fun q_ => by first | exact lv_no hn1_ q_.1 | exact lv_no hn2_ q_.2.1 | (have a_ := q_.2.2; rw [← ag_] at a_; have b_ := (tf_.elim (fun u_ => absurd u_.1 (by omega)) id).2.1; omega) | (have a_ := q_.2.2; rw [hg1_, hg2_] at a_; omega)), rfl, fun _ => rfl, rfl, rfl, rfl, rfl, rfl, rfl, rfl⟩⟩, KdA_rf⟩) (Nat.le_of_ble_eq_true rfl) (Nat.le_of_ble_eq_true rfl) dX9_suit_86
              · refine j_iload E 67 rfl dX9_suit_65 (lv_at hl 8 rfl) ?_
                refine j_aload E 69 rfl dX9_suit_67 (lv_at hl 1 rfl) ?_
                refine g_42 E hK hw fl_X9_113 te1_ (v_0 42 xx1_) rfl 72 rfl dX9_suit_69 (fun rr12_ => ?_)
                refine j_icmp_lt E 75 85 rfl r_v_d rr12_ dX9_suit_72 (by decide) (fun cc13_ => ?_) (fun cc13_ => ?_)
                · refine j_iconst E 86 rfl dX9_suit_85 ?_
                  exact hret 86 ((-1)) T _ _ _ ls _ _ hw hoT_ (rr (by decide)) (⟨⟨t_o, ⟨rfl, rfl, rfl, rfl, rfl⟩, rfl, rfl, rfl, rfl, rfl, rfl, rfl, rfl, hC_, (fun _ => rfl), (fun _ => rfl), (fun _ => rfl), rfl, rfl, rfl, rfl, rfl, rfl, rfl, rfl, rfl, rfl, rfl, rfl, rfl, rfl, rfl, rfl, rfl, rfl, Or.inl ⟨rfl, (fun q_ => by first | exact lv_no hn1_ q_.1 | exact lv_no hn2_ q_.2.1 | (have a_ := q_.2.2; rw [← ag_] at a_; have b_ := (tf_.elim (fun u_ => absurd u_.1 (by omega)) id).2.1; omega) | (have a_ := q_.2.2; rw [hg1_, hg2_] at a_; omega)), rfl, fun _ => rfl, rfl, rfl, rfl, rfl, rfl, rfl, rfl⟩⟩, KdA_rf⟩) (Nat.le_of_ble_eq_true rfl) (Nat.le_of_ble_eq_true rfl) dX9_suit_86
                · refine j_iload E 77 rfl dX9_suit_75 (lv_at hl 8 rfl) ?_
                  refine j_aload E 79 rfl dX9_suit_77 (lv_at hl 0 rfl) ?_
                  refine g_42 E hK hw fl_X9_113 te3_ (v_0 42 xx3_) rfl 82 rfl dX9_suit_79 (fun rr14_ => ?_)
                  refine j_icmp_ge E 85 87 rfl r_v_d rr14_ dX9_suit_82 (by decide) (fun cc15_ => ?_) (fun cc15_ => ?_)
                  · refine j_aload E 89 rfl dX9_suit_87 (lv_at hl 1 rfl) ?_
                    refine g_41 E hK hw fl_X9_110 te1_ (v_0 41 xx1_) rfl 92 rfl dX9_suit_89 (fun rr16_ => ?_)
                    refine j_aload E 94 rfl dX9_suit_92 (lv_at hl 0 rfl) ?_
                    refine g_41 E hK hw fl_X9_110 te3_ (v_0 41 xx3_) rfl 97 rfl dX9_suit_94 (fun rr17_ => ?_)
                    refine j_icmp_ne E 100 104 rfl rr16_ rr17_ dX9_suit_97 (by decide) (fun cc18_ => ?_) (fun cc18_ => ?_)
                    · refine j_iconst E 105 rfl dX9_suit_104 ?_
                      refine j_istore E 107 rfl [(9, .int (J 0)), (8, .ref xx3_), (7, .ref xx1_), (0, .ref o), (1, .int (J v_p)), (2, .int (J v_q)), (3, .int (J v_l)), (4, .int (J v_h)), (5, .int (J v_w)), (6, .int (J v_d))] dX9_suit_105 hl (by decide) rfl (fun ls hl => ?_)
                      refine j_aload_n E 108 rfl dX9_suit_107 rfl (lv_at hl 3 rfl) ?_
                      refine g_193 E hK hw fl_X9_62 t_o 111 rfl dX9_suit_108 ?_
                      refine j_iload E 113 rfl dX9_suit_111 (lv_at hl 7 rfl) ?_
                      refine j_iload E 115 rfl dX9_suit_113 (lv_at hl 8 rfl) ?_
                      refine j_aload_n E 116 rfl dX9_suit_115 rfl (lv_at hl 3 rfl) ?_
                      refine g_187 E hK hw fl_X9_37 t_o (v_0 187 o) rfl 119 rfl dX9_suit_116 (fun _ => ?_)
                      refine j_iload E 121 rfl dX9_suit_119 (lv_at hl 9 rfl) ?_
                      refine j_isub E 122 rfl dX9_suit_121 ?_
                      refine j_iload E 124 rfl dX9_suit_122 (lv_at hl 0 rfl) ?_
                      refine j_iload E 126 rfl dX9_suit_124 (lv_at hl 9 rfl) ?_
                      refine j_aload E 128 rfl dX9_suit_126 (lv_at hl 1 rfl) ?_
                      refine g_42 E hK hw fl_X9_113 te3_ (v_0 42 xx3_) rfl 131 rfl dX9_suit_128 (fun _ => ?_)
                      refine j_isub E 132 rfl dX9_suit_131 ?_
                      refine j_norm (fun zz19_ rr19_ ee19_ => ?_)
                      have ag_ : zz19_ = w32_ (v_d - (v_0 42 ((pe_ T 180 o v_q)))) := by rw [hg2_]; exact w32_of rr19_ ee19_
                      refine kV_i E (c_X4_takeFacts l D cy T (v_0) (T 193 o) v_h v_w ((v_0 187 o) - v_d) 0 zz19_  (wt_193 hT t_o) r_v_h r_v_w (rr (by omega)) (rr (by decide)) rr19_ ) mt_X4_takeFacts ml_X9_292 hK hw (cw_rc5 hK hw.1 (wt_193 hT t_o)) hA ⟨Nat.le_of_ble_eq_true rfl, Nat.le_of_ble_eq_true rfl⟩ ⟨Nat.le_of_ble_eq_true rfl, Nat.le_of_ble_eq_true rfl⟩ (As := [.int (J v_h), .int (J v_w), .int (J ((v_0 187 o) - v_d)), .int (J 0), .int (J zz19_)]) (rest := []) rfl rfl hl.1 (Nat.le_of_ble_eq_true rfl) 135 rfl dX9_suit_132 (fun zz20_ v_20 H locs rr20_ hq20_ hw => ?_)
                      obtain ⟨y300_20, ev20_, hh20_⟩ := hq20_
                      rw [ev20_] at hw; clear ev20_
                      obtain ⟨hh20_, kf20_⟩ := hh20_
                      have kd21_ : KdA_ T sz [100, 101, 102] (v_0 300) (y300_20) := KdA_tr KdA_rf (KdA_kc kf20_ (by decide) (fun b_ h1_ h2_ => ((C20_ hC_ t_o (by decide)) b_ h1_ h2_).2))
                      replace hh20_ : (zz20_ = 1 ∧ (0 ≤ v_h ∧ v_h ≤ 99 ∧ 0 ≤ v_w ∧ v_w ≤ 9 ∧ 0 ≤ ((v_0 187 o) - v_d) ∧ ((v_0 187 o) - v_d) ≤ 299 ∧ 0 ≤ (0 : Int) ∧ (0 : Int) ≤ 1 ∧ -99 ≤ zz19_ ∧ zz19_ ≤ 299) ∧ Fc_ (y300_20) (T 100 (T 193 o)) v_h v_w ((v_0 187 o) - v_d) (0 : Int) zz19_ ∧ Ro_ (v_0 300) (y300_20) (T 100 (T 193 o))) ∨ (zz20_ = 0 ∧ ¬ (0 ≤ v_h ∧ v_h ≤ 99 ∧ 0 ≤ v_w ∧ v_w ≤ 9 ∧ 0 ≤ ((v_0 187 o) - v_d) ∧ ((v_0 187 o) - v_d) ≤ 299 ∧ 0 ≤ (0 : Int) ∧ (0 : Int) ≤ 1 ∧ -99 ≤ zz19_ ∧ zz19_ ≤ 299) ∧ (y300_20) = (v_0 300)) := hh20_
                      have tf_ := hh20_
                      clear hh20_
                      refine j_if_ne E 138 140 rfl rr20_ dX9_suit_135 (by decide) (fun cc22_ => ?_) (fun cc22_ => ?_)
                      · have tf1_ := tf_.elim id (fun q_ => absurd q_.1 (by omega))
                        have fq_ := fc_fcf tf1_.2.2.1
                        have fc_ := tf1_.2.1
                        have sc_ : ((0 ≤ v_p ∧ v_p < (v_0 202 (T 180 o)) ∧ (v_0 43 ((pe_ T 180 o v_p))) = -1) ∧ (0 ≤ v_q ∧ v_q < (v_0 202 (T 180 o)) ∧ (v_0 43 ((pe_ T 180 o v_q))) = -1) ∧ ¬ v_p = v_q ∧ (0 ≤ v_l ∧ v_l < (v_0 202 (T 181 o))) ∧ (v_0 202 (T 183 o)) < 100 ∧ (0 ≤ v_d ∧ v_d ≤ (v_0 187 o)) ∧ (v_0 42 ((pe_ T 180 o v_p))) ≤ v_d ∧ (v_0 42 ((pe_ T 180 o v_q))) ≤ v_d ∧ (0 ≤ v_h ∧ v_h ≤ 99) ∧ (0 ≤ v_w ∧ v_w ≤ 9) ∧ -99 ≤ (w32_ (v_d - (v_0 42 ((pe_ T 180 o v_q))))) ∧ (w32_ (v_d - (v_0 42 ((pe_ T 180 o v_q))))) ≤ 299) := ⟨lv_yes hs1_, lv_yes hs2_, by omega, by omega, by omega, by omega, by rw [hg1_]; omega, by rw [hg2_]; omega, by omega, by omega, by rw [← ag_]; omega, by rw [← ag_]; omega⟩
                        refine j_aload_n E 141 rfl dX9_suit_140 rfl (lv_at hl 3 rfl) ?_
                        refine g_183 E hK hw fl_X9_22 t_o 144 rfl dX9_suit_141 ?_
                        have hw0_ := hw
                        refine n_obj7 E hK hw hA cl_X9_131 (Nat.le_of_ble_eq_true rfl) (Nat.le_of_ble_eq_true rfl) 147 rfl dX9_suit_144 (fun q23_ T23_ H hge23_ hx23_ ho23_ tq23_ hw => ?_)
                        have fq23_ : s.heap.size ≤ q23_ := Nat.le_trans hw0_.2.2.1 hge23_
                        have fz_ : sz ≤ q23_ := by have := fq23_; omega
                        have hw : WK D cy T23_ (upV (upV (upV (upV (upV (upV (upV (upV v_0 300 y300_20) 140 (upB (v_0 140) q23_ 0)) 141 (upB (v_0 141) q23_ 0)) 142 (upB (v_0 142) q23_ 0)) 143 (upB (v_0 143) q23_ 0)) 144 (upB (v_0 144) q23_ 0)) 145 (upB (v_0 145) q23_ 0)) 146 (upB (v_0 146) q23_ 0)) A0 s.heap H locs := hw
                        have hT23_ : WT T23_ := hw.1.2.1
                        have hO23_ : ∀ x, ow T23_ x → κ 2 2 ≤ x := fun x h => hAc x (hw.2.1 x h)
                        have hoT_ : OW T T23_ s.heap.size := OW.tr hw0_.2.2.1 hoT_ ho23_
                        have hC_ : ∀ b, b < sz → T 0 b ≠ 10 → T 0 b ≠ 24 → T 0 b ≠ 26 → b ≠ o → ∀ j, j ≠ 197 → T23_ j b = T j b := fun b_ h1_ h2_ h3_ h4_ h5_ j_ h6_ => (hx23_ b_ (by have := hw0_.2.2.1; have := hge23_; omega) j_).trans (hC_ b_ h1_ h2_ h3_ h4_ h5_ j_ h6_)
                        have B180n_ : ∀ j_, j_ ≠ 197 → T23_ j_ (T 180 o) = T j_ (T 180 o) := fun j_ hj_ => (hx23_ (T 180 o) (Nat.ne_of_lt (Nat.lt_of_lt_of_le (cw_lt hw0_.1 ((B180_ 0 (by decide)).trans tl180_) (fun _ _ _ => ⟨_, rfl⟩)) hge23_)) j_).trans (B180_ j_ hj_)
                        have A180n_ : ∀ j_, j_ ≠ 197 → T23_ j_ (T 201 (T 180 o)) = T j_ (T 201 (T 180 o)) := fun j_ hj_ => (hx23_ (T 201 (T 180 o)) (Nat.ne_of_lt (Nat.lt_of_lt_of_le (cw_ltq hw0_.1 (by rw [A180_ 0 (by decide)]; exact tx180_)) hge23_)) j_).trans (A180_ j_ hj_)
                        have B181n_ : ∀ j_, j_ ≠ 197 → T23_ j_ (T 181 o) = T j_ (T 181 o) := fun j_ hj_ => (hx23_ (T 181 o) (Nat.ne_of_lt (Nat.lt_of_lt_of_le (cw_lt hw0_.1 ((B181_ 0 (by decide)).trans tl181_) (fun _ _ _ => ⟨_, rfl⟩)) hge23_)) j_).trans (B181_ j_ hj_)
                        have A181n_ : ∀ j_, j_ ≠ 197 → T23_ j_ (T 201 (T 181 o)) = T j_ (T 201 (T 181 o)) := fun j_ hj_ => (hx23_ (T 201 (T 181 o)) (Nat.ne_of_lt (Nat.lt_of_lt_of_le (cw_ltq hw0_.1 (by rw [A181_ 0 (by decide)]; exact tx181_)) hge23_)) j_).trans (A181_ j_ hj_)
                        have B182n_ : ∀ j_, j_ ≠ 197 → T23_ j_ (T 182 o) = T j_ (T 182 o) := fun j_ hj_ => (hx23_ (T 182 o) (Nat.ne_of_lt (Nat.lt_of_lt_of_le (cw_lt hw0_.1 ((B182_ 0 (by decide)).trans tl182_) (fun _ _ _ => ⟨_, rfl⟩)) hge23_)) j_).trans (B182_ j_ hj_)
                        have A182n_ : ∀ j_, j_ ≠ 197 → T23_ j_ (T 201 (T 182 o)) = T j_ (T 201 (T 182 o)) := fun j_ hj_ => (hx23_ (T 201 (T 182 o)) (Nat.ne_of_lt (Nat.lt_of_lt_of_le (cw_ltq hw0_.1 (by rw [A182_ 0 (by decide)]; exact tx182_)) hge23_)) j_).trans (A182_ j_ hj_)
                        have B183n_ : ∀ j_, j_ ≠ 197 → T23_ j_ (T 183 o) = T j_ (T 183 o) := fun j_ hj_ => (hx23_ (T 183 o) (Nat.ne_of_lt (Nat.lt_of_lt_of_le (cw_lt hw0_.1 ((B183_ 0 (by decide)).trans tl183_) (fun _ _ _ => ⟨_, rfl⟩)) hge23_)) j_).trans (B183_ j_ hj_)
                        have A183n_ : ∀ j_, j_ ≠ 197 → T23_ j_ (T 201 (T 183 o)) = T j_ (T 201 (T 183 o)) := fun j_ hj_ => (hx23_ (T 201 (T 183 o)) (Nat.ne_of_lt (Nat.lt_of_lt_of_le (cw_ltq hw0_.1 (by rw [A183_ 0 (by decide)]; exact tx183_)) hge23_)) j_).trans (A183_ j_ hj_)
                        have B180_ := B180n_
                        have A180_ := A180n_
                        have B181_ := B181n_
                        have A181_ := A181n_
                        have B182_ := B182n_
                        have A182_ := A182n_
                        have B183_ := B183n_
                        have A183_ := A183n_
                        have u24_ : T23_ 0 o = 9 := (hx23_ o (Nat.ne_of_lt (Nat.lt_of_lt_of_le (cw_lt hw0_.1 t_o (fun _ _ _ => ⟨_, rfl⟩)) hge23_)) 0).trans t_o
                        have u25_ : T23_ 0 (T 193 o) = 5 := (hx23_ (T 193 o) (Nat.ne_of_lt (Nat.lt_of_lt_of_le (cw_lt hw0_.1 (wt_193 hT t_o) (fun _ _ _ => ⟨_, rfl⟩)) hge23_)) 0).trans (wt_193 hT t_o)
                        have u26_ : T23_ 0 xx1_ = 2 := (hx23_ xx1_ (Nat.ne_of_lt (Nat.lt_of_lt_of_le (cw_lt hw0_.1 te1_ (fun _ _ _ => ⟨_, rfl⟩)) hge23_)) 0).trans te1_
                        have u27_ : T23_ 0 xx3_ = 2 := (hx23_ xx3_ (Nat.ne_of_lt (Nat.lt_of_lt_of_le (cw_lt hw0_.1 te3_ (fun _ _ _ => ⟨_, rfl⟩)) hge23_)) 0).trans te3_
                        have u28_ : T23_ 0 (T 183 o) = 10 := (hx23_ (T 183 o) (Nat.ne_of_lt (Nat.lt_of_lt_of_le (cw_lt hw0_.1 (wt_183 hT t_o) (fun _ _ _ => ⟨_, rfl⟩)) hge23_)) 0).trans (wt_183 hT t_o)
                        have u29_ : T23_ 2 (T 183 o) = 7 := (hx23_ (T 183 o) (Nat.ne_of_lt (Nat.lt_of_lt_of_le (cw_lt hw0_.1 (wt_183 hT t_o) (fun _ _ _ => ⟨_, rfl⟩)) hge23_)) 2).trans (we_183 hT t_o)
                        have u30_ : T23_ 180 o = T 180 o := (hx23_ o (Nat.ne_of_lt (Nat.lt_of_lt_of_le (cw_lt hw0_.1 t_o (fun _ _ _ => ⟨_, rfl⟩)) hge23_)) 180).trans rfl
                        have u31_ : T23_ 181 o = T 181 o := (hx23_ o (Nat.ne_of_lt (Nat.lt_of_lt_of_le (cw_lt hw0_.1 t_o (fun _ _ _ => ⟨_, rfl⟩)) hge23_)) 181).trans rfl
                        have u32_ : T23_ 182 o = T 182 o := (hx23_ o (Nat.ne_of_lt (Nat.lt_of_lt_of_le (cw_lt hw0_.1 t_o (fun _ _ _ => ⟨_, rfl⟩)) hge23_)) 182).trans rfl
                        have u33_ : T23_ 183 o = T 183 o := (hx23_ o (Nat.ne_of_lt (Nat.lt_of_lt_of_le (cw_lt hw0_.1 t_o (fun _ _ _ => ⟨_, rfl⟩)) hge23_)) 183).trans rfl
                        have u34_ : T23_ 185 o = T 185 o := (hx23_ o (Nat.ne_of_lt (Nat.lt_of_lt_of_le (cw_lt hw0_.1 t_o (fun _ _ _ => ⟨_, rfl⟩)) hge23_)) 185).trans rfl
                        have u35_ : T23_ 193 o = T 193 o := (hx23_ o (Nat.ne_of_lt (Nat.lt_of_lt_of_le (cw_lt hw0_.1 t_o (fun _ _ _ => ⟨_, rfl⟩)) hge23_)) 193).trans rfl
                        have u36_ : T23_ 100 (T 193 o) = T 100 (T 193 o) := (hx23_ (T 193 o) (Nat.ne_of_lt (Nat.lt_of_lt_of_le (cw_lt hw0_.1 (wt_193 hT t_o) (fun _ _ _ => ⟨_, rfl⟩)) hge23_)) 100).trans rfl
                        have u37_ : T23_ 184 o = T 184 o := (hx23_ o (Nat.ne_of_lt (Nat.lt_of_lt_of_le (cw_lt hw0_.1 t_o (fun _ _ _ => ⟨_, rfl⟩)) hge23_)) 184).trans rfl
                        refine j_dup E 148 rfl dX9_suit_147 rfl ?_
                        refine j_iload_n E 149 rfl dX9_suit_148 rfl (lv_at hl 4 rfl) ?_
                        refine j_iload_n E 150 rfl dX9_suit_149 rfl (lv_at hl 5 rfl) ?_
                        refine j_iload_n E 151 rfl dX9_suit_150 rfl (lv_at hl 6 rfl) ?_
                        refine j_aload_n E 152 rfl dX9_suit_151 rfl (lv_at hl 3 rfl) ?_
                        refine j_iload_n E 153 rfl dX9_suit_152 rfl (lv_at hl 6 rfl) ?_
                        refine j_aload_n E 154 rfl dX9_suit_153 rfl (lv_at hl 3 rfl) ?_
                        refine g_187 E hK hw fl_X9_37 u24_ (v_0 187 o) rfl 157 rfl dX9_suit_154 (fun _ => ?_)
                        refine j_iconst E 158 rfl dX9_suit_157 ?_
                        refine j_isub E 159 rfl dX9_suit_158 ?_
                        refine kV_i E (c_X9_reckonByLaw l D cy T23_ (upV (upV (upV (upV (upV (upV (upV (upV v_0 300 y300_20) 140 (upB (v_0 140) q23_ 0)) 141 (upB (v_0 141) q23_ 0)) 142 (upB (v_0 142) q23_ 0)) 143 (upB (v_0 143) q23_ 0)) 144 (upB (v_0 144) q23_ 0)) 145 (upB (v_0 145) q23_ 0)) 146 (upB (v_0 146) q23_ 0)) o v_l ((v_0 187 o) - 1) (fcf_ v_h v_w ((v_0 187 o) - v_d) (0 : Int) (w32_ (v_d - (v_0 42 ((pe_ T 180 o v_q)))))) S1_ S2_ S3_ u24_ r_v_l (rr (by omega)) (show Wd_ T23_ (y300_20) o ((v_0 202) (T23_ 182 o)) S1_ S2_ S3_ from by rw [u32_]; exact wd_mv hp1 (fun i_ _ => by show T23_ _ (T23_ 201 (T23_ 182 o)) = _; rw [u32_, B182_ 201 (by decide), A182_ (1000 + i_) (by omega)]; rfl) (wd_ho hwI_.1 t_o hszH_ hC_ kd21_ (by decide))) (show 0 ≤ v_l from by omega) (show ((v_0 202) (T23_ 181 o)) ≤ 24 from by rw [u31_]; omega) (show ∀ i_, 0 ≤ i_ → i_ ≤ 4 → gC_ (y300_20) (T23_ 100 (T23_ 193 o)) i_ = ((fcf_ v_h v_w ((v_0 187 o) - v_d) (0 : Int) (w32_ (v_d - (v_0 42 ((pe_ T 180 o v_q))))))) i_ from fun i_ h1_ h2_ => by rw [u35_, u36_, ← ag_]; exact fq_ i_ h1_ h2_) (show 0 ≤ v_l ∧ v_l < ((v_0 202) (T23_ 181 o)) from by rw [u31_]; omega) (show ((v_0 187 o) - 1) < 200 from by omega)) mt_X9_reckonByLaw ml_X9_296 hK hw (cw_rc9 hK hw.1 u24_) hA ⟨Nat.le_of_ble_eq_true rfl, Nat.le_of_ble_eq_true rfl⟩ ⟨Nat.le_of_ble_eq_true rfl, Nat.le_of_ble_eq_true rfl⟩ (As := [.int (J v_l), .int (J ((v_0 187 o) - 1))]) (rest := [.int (J v_l), .int (J v_q), .int (J v_p), .ref q23_, .ref q23_, .ref (T 183 o)]) rfl rfl hl.1 (Nat.le_of_ble_eq_true rfl) 162 rfl dX9_suit_159 (fun zz38_ v_38 H locs rr38_ hq38_ hw => ?_)
                        obtain ⟨y103_38, y300_38, ev38_, hh38_⟩ := hq38_
                        rw [ev38_] at hw; clear ev38_
                        obtain ⟨hh38_, kf38_⟩ := hh38_
                        have kd39_ : KdA_ T sz [100, 101, 102] (v_0 300) (y300_38) := KdA_tr kd21_ (KdA_kc kf38_ (by decide) (fun b_ h1_ h2_ => ((C20_ hC_ t_o (by decide)) b_ h1_ h2_).2))
                        replace hh38_ : (∃ g_ : Int → Int, zz38_ = g_ v_l ∧ Owc_ (fun y_ w_ => ∃ x_ z_, ELn_ T23_ 181 o (y_).toNat = x_ + 1 ∧ Lw_ (((v_0 23) x_)) (gC_ (v_0 302) (T23_ 26 x_)) ((v_0 187 o) - 1) z_ ∧ w_ = nrm_ ((v_0 202) (T23_ 182 o)) z_) ((fcf_ v_h v_w ((v_0 187 o) - v_d) (0 : Int) (w32_ (v_d - (v_0 42 ((pe_ T 180 o v_q))))))) g_ (v_l + 1) S1_ S2_ S3_) ∧ (∀ b_, b_ ≠ (T23_ 101 (T23_ 193 o)) → b_ ≠ (T23_ 102 (T23_ 193 o)) → ∀ i_, (y300_38) (pr b_ i_) = (y300_20) (pr b_ i_)) := hh38_
                        obtain ⟨⟨g_, ez_, ow0_⟩, fr9_⟩ := hh38_
                        have ow1_ := wsl_c hwI_.1 t_o hszH_ hC_ (fun i_ => by show T23_ _ (T23_ 201 (T23_ 181 o)) = _; rw [u31_, B181_ 201 (by decide), A181_ (1000 + i_) (by omega)]; rfl) ow0_ (by omega) (by rw [u32_])
                        refine j_aload_n E 163 rfl dX9_suit_162 rfl (lv_at hl 3 rfl) ?_
                        refine g_187 E hK hw fl_X9_37 u24_ (v_0 187 o) rfl 166 rfl dX9_suit_163 (fun _ => ?_)
                        refine j_aload_n E 167 rfl dX9_suit_166 rfl (lv_at hl 3 rfl) ?_
                        refine j_iload_n E 168 rfl dX9_suit_167 rfl (lv_at hl 4 rfl) ?_
                        refine j_aload E 170 rfl dX9_suit_168 (lv_at hl 2 rfl) ?_
                        refine g_41 E hK hw fl_X9_110 u26_ (v_0 41 xx1_) rfl 173 rfl dX9_suit_170 (fun _ => ?_)
                        refine kV_i E (c_X9_livingKinOf l D cy T23_ (upV (upV (upV (upV (upV (upV (upV (upV (upV (upV v_0 300 y300_20) 140 (upB (v_0 140) q23_ 0)) 141 (upB (v_0 141) q23_ 0)) 142 (upB (v_0 142) q23_ 0)) 143 (upB (v_0 143) q23_ 0)) 144 (upB (v_0 144) q23_ 0)) 145 (upB (v_0 145) q23_ 0)) 146 (upB (v_0 146) q23_ 0)) 103 y103_38) 300 y300_38) o v_p (v_0 41 xx1_)  u24_ r_v_p rr16_ (show ((v_0 202) (T23_ 180 o)) ≤ 24 from by rw [u30_]; omega)) mt_X9_livingKinOf ml_X9_313 hK hw (cw_rc9 hK hw.1 u24_) hA ⟨Nat.le_of_ble_eq_true rfl, Nat.le_of_ble_eq_true rfl⟩ ⟨Nat.le_of_ble_eq_true rfl, Nat.le_of_ble_eq_true rfl⟩ (As := [.int (J v_p), .int (J (v_0 41 xx1_))]) (rest := [.int (J (v_0 187 o)), .int (J zz38_), .int (J v_l), .int (J v_q), .int (J v_p), .ref q23_, .ref q23_, .ref (T 183 o)]) rfl rfl hl.1 (Nat.le_of_ble_eq_true rfl) 176 rfl dX9_suit_173 (fun zz40_ v_40 H locs rr40_ hq40_ hw => ?_)
                        obtain ⟨ev40_, hh40_⟩ := hq40_
                        rw [ev40_] at hw; clear ev40_
                        replace hh40_ : Bs_ zz40_ (fun r_ => ¬ r_ = v_p ∧ ((v_0 43) ((pe_ T23_ 180 o r_))) = -1 ∧ ((v_0 41) ((pe_ T23_ 180 o r_))) = (v_0 41 xx1_)) ((v_0 202) (T23_ 180 o)) := hh40_
                        have pe0_ : ∀ r_ : Int, pe_ T23_ 180 o r_ = pe_ T 180 o r_ := fun r_ => congrArg (fun a_ : Nat => a_ - 1) (show ELn_ T23_ 180 o r_.toNat = ELn_ T 180 o r_.toNat from by show T23_ _ (T23_ 201 (T23_ 180 o)) = _; rw [u30_, B180_ 201 (by decide), A180_ (1000 + r_.toNat) (by omega)]; rfl)
                        have bs_ : Bs_ zz40_ (fun r_ => ¬ r_ = v_p ∧ (v_0 43 ((pe_ T 180 o r_))) = -1 ∧ (v_0 41 ((pe_ T 180 o r_))) = (v_0 41 ((pe_ T 180 o v_p)))) (v_0 202 (T 180 o)) := Bs_mv hh40_ (by rw [u30_]) (fun r_ _ _ => by show (_ ∧ (v_0 43 ((pe_ T23_ 180 o r_))) = -1 ∧ (v_0 41 ((pe_ T23_ 180 o r_))) = _) ↔ _; rw [pe0_, hg1_])
                        have hw0_ := hw
                        refine aI_v E (n_X6_init_n2 l D cy κ T23_ (upV (upV (upV (upV (upV (upV (upV (upV (upV (upV v_0 300 y300_20) 140 (upB (v_0 140) q23_ 0)) 141 (upB (v_0 141) q23_ 0)) 142 (upB (v_0 142) q23_ 0)) 143 (upB (v_0 143) q23_ 0)) 144 (upB (v_0 144) q23_ 0)) 145 (upB (v_0 145) q23_ 0)) 146 (upB (v_0 146) q23_ 0)) 103 y103_38) 300 y300_38) q23_ v_p v_q v_l zz38_ (v_0 187 o) zz40_ H.size  hO23_ tq23_ r_v_p r_v_q r_v_l rr38_ rr10_ rr40_ ) mi_X6_init ml_X9_316 hK hZ hAc hw hA ⟨(Nat.le_of_ble_eq_true rfl), (Nat.le_of_ble_eq_true rfl)⟩ ⟨(Nat.le_of_ble_eq_true rfl), (Nat.le_of_ble_eq_true rfl)⟩ (As := [.int (J v_p), .int (J v_q), .int (J v_l), .int (J zz38_), .int (J (v_0 187 o)), .int (J zz40_)]) (rest := [.ref q23_, .ref (T 183 o)]) rfl rfl hl.1 (Nat.le_of_ble_eq_true rfl) 179 rfl dX9_suit_176 (fun T41_ v_41 H locs hge41_ ho41_ hq41_ hw => ?_)
                        obtain ⟨y140_41, y141_41, y142_41, y143_41, y144_41, y145_41, y146_41, ev41_, hh41_⟩ := hq41_
                        rw [ev41_] at hw; clear ev41_
                        obtain ⟨hx41_, tq41_, hv140_41_, hv141_41_, hv142_41_, hv143_41_, hv144_41_, hv145_41_, hv146_41_⟩ := hh41_
                        have hT41_ : WT T41_ := hw.1.2.1
                        have hO41_ : ∀ x, ow T41_ x → κ 2 2 ≤ x := fun x h => hAc x (hw.2.1 x h)
                        have hoT_ : OW T T41_ s.heap.size := OW.tr hw0_.2.2.1 hoT_ ho41_
                        have hC_ : ∀ b, b < sz → T 0 b ≠ 10 → T 0 b ≠ 24 → T 0 b ≠ 26 → b ≠ o → ∀ j, j ≠ 197 → T41_ j b = T j b := fun b_ h1_ h2_ h3_ h4_ h5_ j_ h6_ => (hx41_ b_ (by have := hw0_.2.2.1; omega) (by have := fq23_; omega) j_).trans (hC_ b_ h1_ h2_ h3_ h4_ h5_ j_ h6_)
                        have B180n_ : ∀ j_, j_ ≠ 197 → T41_ j_ (T 180 o) = T j_ (T 180 o) := fun j_ hj_ => (hx41_ (T 180 o) (cw_lt hw0_.1 ((B180_ 0 (by decide)).trans tl180_) (fun _ _ _ => ⟨_, rfl⟩)) (ty_ne ((B180_ 0 (by decide)).trans tl180_) tq23_ (by decide)) j_).trans (B180_ j_ hj_)
                        have A180n_ : ∀ j_, j_ ≠ 197 → T41_ j_ (T 201 (T 180 o)) = T j_ (T 201 (T 180 o)) := fun j_ hj_ => (hx41_ (T 201 (T 180 o)) (cw_ltq hw0_.1 (by rw [A180_ 0 (by decide)]; exact tx180_)) (ty_neq (by rw [A180_ 0 (by decide)]; exact tx180_) tq23_ (by decide) (by decide)) j_).trans (A180_ j_ hj_)
                        have B181n_ : ∀ j_, j_ ≠ 197 → T41_ j_ (T 181 o) = T j_ (T 181 o) := fun j_ hj_ => (hx41_ (T 181 o) (cw_lt hw0_.1 ((B181_ 0 (by decide)).trans tl181_) (fun _ _ _ => ⟨_, rfl⟩)) (ty_ne ((B181_ 0 (by decide)).trans tl181_) tq23_ (by decide)) j_).trans (B181_ j_ hj_)
                        have A181n_ : ∀ j_, j_ ≠ 197 → T41_ j_ (T 201 (T 181 o)) = T j_ (T 201 (T 181 o)) := fun j_ hj_ => (hx41_ (T 201 (T 181 o)) (cw_ltq hw0_.1 (by rw [A181_ 0 (by decide)]; exact tx181_)) (ty_neq (by rw [A181_ 0 (by decide)]; exact tx181_) tq23_ (by decide) (by decide)) j_).trans (A181_ j_ hj_)
                        have B182n_ : ∀ j_, j_ ≠ 197 → T41_ j_ (T 182 o) = T j_ (T 182 o) := fun j_ hj_ => (hx41_ (T 182 o) (cw_lt hw0_.1 ((B182_ 0 (by decide)).trans tl182_) (fun _ _ _ => ⟨_, rfl⟩)) (ty_ne ((B182_ 0 (by decide)).trans tl182_) tq23_ (by decide)) j_).trans (B182_ j_ hj_)
                        have A182n_ : ∀ j_, j_ ≠ 197 → T41_ j_ (T 201 (T 182 o)) = T j_ (T 201 (T 182 o)) := fun j_ hj_ => (hx41_ (T 201 (T 182 o)) (cw_ltq hw0_.1 (by rw [A182_ 0 (by decide)]; exact tx182_)) (ty_neq (by rw [A182_ 0 (by decide)]; exact tx182_) tq23_ (by decide) (by decide)) j_).trans (A182_ j_ hj_)
                        have B183n_ : ∀ j_, j_ ≠ 197 → T41_ j_ (T 183 o) = T j_ (T 183 o) := fun j_ hj_ => (hx41_ (T 183 o) (cw_lt hw0_.1 ((B183_ 0 (by decide)).trans tl183_) (fun _ _ _ => ⟨_, rfl⟩)) (ty_ne ((B183_ 0 (by decide)).trans tl183_) tq23_ (by decide)) j_).trans (B183_ j_ hj_)
                        have A183n_ : ∀ j_, j_ ≠ 197 → T41_ j_ (T 201 (T 183 o)) = T j_ (T 201 (T 183 o)) := fun j_ hj_ => (hx41_ (T 201 (T 183 o)) (cw_ltq hw0_.1 (by rw [A183_ 0 (by decide)]; exact tx183_)) (ty_neq (by rw [A183_ 0 (by decide)]; exact tx183_) tq23_ (by decide) (by decide)) j_).trans (A183_ j_ hj_)
                        have B180_ := B180n_
                        have A180_ := A180n_
                        have B181_ := B181n_
                        have A181_ := A181n_
                        have B182_ := B182n_
                        have A182_ := A182n_
                        have B183_ := B183n_
                        have A183_ := A183n_
                        have u42_ : T41_ 0 o = 9 := (hx41_ o (cw_lt hw0_.1 u24_ (fun _ _ _ => ⟨_, rfl⟩)) (ty_ne u24_ tq23_ (by decide)) 0).trans u24_
                        have u43_ : T41_ 0 (T 193 o) = 5 := (hx41_ (T 193 o) (cw_lt hw0_.1 u25_ (fun _ _ _ => ⟨_, rfl⟩)) (ty_ne u25_ tq23_ (by decide)) 0).trans u25_
                        have u44_ : T41_ 0 xx1_ = 2 := (hx41_ xx1_ (cw_lt hw0_.1 u26_ (fun _ _ _ => ⟨_, rfl⟩)) (ty_ne u26_ tq23_ (by decide)) 0).trans u26_
                        have u45_ : T41_ 0 xx3_ = 2 := (hx41_ xx3_ (cw_lt hw0_.1 u27_ (fun _ _ _ => ⟨_, rfl⟩)) (ty_ne u27_ tq23_ (by decide)) 0).trans u27_
                        have u46_ : T41_ 0 (T 183 o) = 10 := (hx41_ (T 183 o) (cw_lt hw0_.1 u28_ (fun _ _ _ => ⟨_, rfl⟩)) (ty_ne u28_ tq23_ (by decide)) 0).trans u28_
                        have u47_ : T41_ 2 (T 183 o) = 7 := (hx41_ (T 183 o) (cw_lt hw0_.1 u28_ (fun _ _ _ => ⟨_, rfl⟩)) (ty_ne u28_ tq23_ (by decide)) 2).trans u29_
                        have u48_ : T41_ 180 o = T 180 o := (hx41_ o (cw_lt hw0_.1 u24_ (fun _ _ _ => ⟨_, rfl⟩)) (ty_ne u24_ tq23_ (by decide)) 180).trans u30_
                        have u49_ : T41_ 181 o = T 181 o := (hx41_ o (cw_lt hw0_.1 u24_ (fun _ _ _ => ⟨_, rfl⟩)) (ty_ne u24_ tq23_ (by decide)) 181).trans u31_
                        have u50_ : T41_ 182 o = T 182 o := (hx41_ o (cw_lt hw0_.1 u24_ (fun _ _ _ => ⟨_, rfl⟩)) (ty_ne u24_ tq23_ (by decide)) 182).trans u32_
                        have u51_ : T41_ 183 o = T 183 o := (hx41_ o (cw_lt hw0_.1 u24_ (fun _ _ _ => ⟨_, rfl⟩)) (ty_ne u24_ tq23_ (by decide)) 183).trans u33_
                        have u52_ : T41_ 185 o = T 185 o := (hx41_ o (cw_lt hw0_.1 u24_ (fun _ _ _ => ⟨_, rfl⟩)) (ty_ne u24_ tq23_ (by decide)) 185).trans u34_
                        have u53_ : T41_ 193 o = T 193 o := (hx41_ o (cw_lt hw0_.1 u24_ (fun _ _ _ => ⟨_, rfl⟩)) (ty_ne u24_ tq23_ (by decide)) 193).trans u35_
                        have u54_ : T41_ 100 (T 193 o) = T 100 (T 193 o) := (hx41_ (T 193 o) (cw_lt hw0_.1 u25_ (fun _ _ _ => ⟨_, rfl⟩)) (ty_ne u25_ tq23_ (by decide)) 100).trans u36_
                        have u55_ : T41_ 184 o = T 184 o := (hx41_ o (cw_lt hw0_.1 u24_ (fun _ _ _ => ⟨_, rfl⟩)) (ty_ne u24_ tq23_ (by decide)) 184).trans u37_
                        have hw140_ : y140_41 = upB (upB (v_0 140) q23_ 0) q23_ v_p := hv140_41_
                        have hw141_ : y141_41 = upB (upB (v_0 141) q23_ 0) q23_ v_q := hv141_41_
                        have hw142_ : y142_41 = upB (upB (v_0 142) q23_ 0) q23_ v_l := hv142_41_
                        have hw143_ : y143_41 = upB (upB (v_0 143) q23_ 0) q23_ zz38_ := hv143_41_
                        have hw144_ : y144_41 = upB (upB (v_0 144) q23_ 0) q23_ (v_0 187 o) := hv144_41_
                        have hw145_ : y145_41 = upB (upB (v_0 145) q23_ 0) q23_ zz40_ := hv145_41_
                        have hw146_ : y146_41 = upB (upB (v_0 146) q23_ 0) q23_ 0 := hv146_41_
                        have hw0_ := hw
                        refine aV_i E (n_Jx4a65c_add_9ea2d_n2 l D cy κ T41_ (upV (upV (upV (upV (upV (upV (upV (upV (upV (upV (upV (upV (upV (upV (upV (upV (upV v_0 300 y300_20) 140 (upB (v_0 140) q23_ 0)) 141 (upB (v_0 141) q23_ 0)) 142 (upB (v_0 142) q23_ 0)) 143 (upB (v_0 143) q23_ 0)) 144 (upB (v_0 144) q23_ 0)) 145 (upB (v_0 145) q23_ 0)) 146 (upB (v_0 146) q23_ 0)) 103 y103_38) 300 y300_38) 140 y140_41) 141 y141_41) 142 y142_41) 143 y143_41) 144 y144_41) 145 y145_41) 146 y146_41) (T 183 o) q23_ H.size  hO41_ u46_  (tq41_.trans u47_.symm) (fun x_ h_ => hp0 x_ ((hoT_ x_).2 h_)) (show ((v_0 202) ((T 183 o))) ≤ 200 from by omega)) mt_Jx4a65c_add_9ea2d ml_X9_89 hK hZ hAc hw (cw_rc10 hK hw.1 u46_) hA ⟨(Nat.le_of_ble_eq_true rfl), (Nat.le_of_ble_eq_true rfl)⟩ ⟨(Nat.le_of_ble_eq_true rfl), (Nat.le_of_ble_eq_true rfl)⟩ (As := [.ref q23_]) (rest := []) rfl rfl hl.1 (Nat.le_of_ble_eq_true rfl) 182 rfl dX9_suit_179 (fun zz56_ T56_ v_56 H locs rr56_ hge56_ ho56_ hq56_ hw => ?_)
                        obtain ⟨y200_56, y202_56, ev56_, hh56_⟩ := hq56_
                        rw [ev56_] at hw; clear ev56_
                        obtain ⟨hy56_, hx56_, hz56_, hl56_, hel56_, hnw56_⟩ := hh56_
                        have hy56_ : y202_56 = upB (v_0 202) (T 183 o) ((v_0 202) (T 183 o) + 1) := hy56_
                        have hT56_ : WT T56_ := hw.1.2.1
                        have hO56_ : ∀ x, ow T56_ x → κ 2 2 ≤ x := fun x h => hAc x (hw.2.1 x h)
                        have hoT_ : OW T T56_ s.heap.size := OW.tr hw0_.2.2.1 hoT_ ho56_
                        have hC_ : ∀ b, b < sz → T 0 b ≠ 10 → T 0 b ≠ 24 → T 0 b ≠ 26 → b ≠ o → ∀ j, j ≠ 197 → T56_ j b = T j b := fun b_ h1_ h2_ h3_ h4_ h5_ j_ h6_ => (hx56_ b_ (by have := hw0_.2.2.1; omega) (fun e_ => h2_ ((hC_ b_ h1_ h2_ h3_ h4_ h5_ 0 (by decide)).symm.trans (by rw [e_]; exact u46_))) (fun h_ => absurd ((hC_ b_ h1_ h2_ h3_ h4_ h5_ 0 (by decide)).symm.trans h_) h3_) j_).trans (hC_ b_ h1_ h2_ h3_ h4_ h5_ j_ h6_)
                        have B180n_ : ∀ j_, j_ ≠ 197 → T56_ j_ (T 180 o) = T j_ (T 180 o) := fun j_ hj_ => (hx56_ (T 180 o) (cw_lt hw0_.1 ((B180_ 0 (by decide)).trans tl180_) (fun _ _ _ => ⟨_, rfl⟩)) ((ls_ne hT t_o).2.2.1) (fun h_ => absurd (((B180_ 0 (by decide)).trans tl180_).symm.trans h_) (by decide)) j_).trans (B180_ j_ hj_)
                        have A180n_ : ∀ j_, j_ ≠ 197 → T56_ j_ (T 201 (T 180 o)) = T j_ (T 201 (T 180 o)) := fun j_ hj_ => (hx56_ (T 201 (T 180 o)) (cw_ltq hw0_.1 (by rw [A180_ 0 (by decide)]; exact tx180_)) (ty_neq (by rw [A180_ 0 (by decide)]; exact tx180_) u46_ (by decide) (by decide)) (fun h_ => by rw [B183_ 201 (by decide)]; exact own_ne hT tl180_ tl183_ ((ls_ne hT t_o).2.2.1) ((A180_ 0 (by decide)).symm.trans h_)) j_).trans (A180_ j_ hj_)
                        have B181n_ : ∀ j_, j_ ≠ 197 → T56_ j_ (T 181 o) = T j_ (T 181 o) := fun j_ hj_ => (hx56_ (T 181 o) (cw_lt hw0_.1 ((B181_ 0 (by decide)).trans tl181_) (fun _ _ _ => ⟨_, rfl⟩)) ((ls_ne hT t_o).2.2.2.2.2.1) (fun h_ => absurd (((B181_ 0 (by decide)).trans tl181_).symm.trans h_) (by decide)) j_).trans (B181_ j_ hj_)
                        have A181n_ : ∀ j_, j_ ≠ 197 → T56_ j_ (T 201 (T 181 o)) = T j_ (T 201 (T 181 o)) := fun j_ hj_ => (hx56_ (T 201 (T 181 o)) (cw_ltq hw0_.1 (by rw [A181_ 0 (by decide)]; exact tx181_)) (ty_neq (by rw [A181_ 0 (by decide)]; exact tx181_) u46_ (by decide) (by decide)) (fun h_ => by rw [B183_ 201 (by decide)]; exact own_ne hT tl181_ tl183_ ((ls_ne hT t_o).2.2.2.2.2.1) ((A181_ 0 (by decide)).symm.trans h_)) j_).trans (A181_ j_ hj_)
                        have B182n_ : ∀ j_, j_ ≠ 197 → T56_ j_ (T 182 o) = T j_ (T 182 o) := fun j_ hj_ => (hx56_ (T 182 o) (cw_lt hw0_.1 ((B182_ 0 (by decide)).trans tl182_) (fun _ _ _ => ⟨_, rfl⟩)) ((ls_ne hT t_o).2.2.2.2.2.2.2.2.1) (fun h_ => absurd (((B182_ 0 (by decide)).trans tl182_).symm.trans h_) (by decide)) j_).trans (B182_ j_ hj_)
                        have A182n_ : ∀ j_, j_ ≠ 197 → T56_ j_ (T 201 (T 182 o)) = T j_ (T 201 (T 182 o)) := fun j_ hj_ => (hx56_ (T 201 (T 182 o)) (cw_ltq hw0_.1 (by rw [A182_ 0 (by decide)]; exact tx182_)) (ty_neq (by rw [A182_ 0 (by decide)]; exact tx182_) u46_ (by decide) (by decide)) (fun h_ => by rw [B183_ 201 (by decide)]; exact own_ne hT tl182_ tl183_ ((ls_ne hT t_o).2.2.2.2.2.2.2.2.1) ((A182_ 0 (by decide)).symm.trans h_)) j_).trans (A182_ j_ hj_)
                        have B180_ := B180n_
                        have A180_ := A180n_
                        have B181_ := B181n_
                        have A181_ := A181n_
                        have B182_ := B182n_
                        have A182_ := A182n_
                        have u57_ : T56_ 0 o = 9 := (hx56_ o (cw_lt hw0_.1 u42_ (fun _ _ _ => ⟨_, rfl⟩)) (ty_ne u42_ u46_ (by decide)) (fun h_ => absurd (u42_.symm.trans h_) (by decide)) 0).trans u42_
                        have u58_ : T56_ 0 (T 193 o) = 5 := (hx56_ (T 193 o) (cw_lt hw0_.1 u43_ (fun _ _ _ => ⟨_, rfl⟩)) (ty_ne u43_ u46_ (by decide)) (fun h_ => absurd (u43_.symm.trans h_) (by decide)) 0).trans u43_
                        have u59_ : T56_ 0 xx1_ = 2 := (hx56_ xx1_ (cw_lt hw0_.1 u44_ (fun _ _ _ => ⟨_, rfl⟩)) (ty_ne u44_ u46_ (by decide)) (fun h_ => absurd (u44_.symm.trans h_) (by decide)) 0).trans u44_
                        have u60_ : T56_ 0 xx3_ = 2 := (hx56_ xx3_ (cw_lt hw0_.1 u45_ (fun _ _ _ => ⟨_, rfl⟩)) (ty_ne u45_ u46_ (by decide)) (fun h_ => absurd (u45_.symm.trans h_) (by decide)) 0).trans u45_
                        have u61_ : T56_ 180 o = T 180 o := (hx56_ o (cw_lt hw0_.1 u42_ (fun _ _ _ => ⟨_, rfl⟩)) (ty_ne u42_ u46_ (by decide)) (fun h_ => absurd (u42_.symm.trans h_) (by decide)) 180).trans u48_
                        have u62_ : T56_ 181 o = T 181 o := (hx56_ o (cw_lt hw0_.1 u42_ (fun _ _ _ => ⟨_, rfl⟩)) (ty_ne u42_ u46_ (by decide)) (fun h_ => absurd (u42_.symm.trans h_) (by decide)) 181).trans u49_
                        have u63_ : T56_ 182 o = T 182 o := (hx56_ o (cw_lt hw0_.1 u42_ (fun _ _ _ => ⟨_, rfl⟩)) (ty_ne u42_ u46_ (by decide)) (fun h_ => absurd (u42_.symm.trans h_) (by decide)) 182).trans u50_
                        have u64_ : T56_ 183 o = T 183 o := (hx56_ o (cw_lt hw0_.1 u42_ (fun _ _ _ => ⟨_, rfl⟩)) (ty_ne u42_ u46_ (by decide)) (fun h_ => absurd (u42_.symm.trans h_) (by decide)) 183).trans u51_
                        have u65_ : T56_ 185 o = T 185 o := (hx56_ o (cw_lt hw0_.1 u42_ (fun _ _ _ => ⟨_, rfl⟩)) (ty_ne u42_ u46_ (by decide)) (fun h_ => absurd (u42_.symm.trans h_) (by decide)) 185).trans u52_
                        have u66_ : T56_ 193 o = T 193 o := (hx56_ o (cw_lt hw0_.1 u42_ (fun _ _ _ => ⟨_, rfl⟩)) (ty_ne u42_ u46_ (by decide)) (fun h_ => absurd (u42_.symm.trans h_) (by decide)) 193).trans u53_
                        have u67_ : T56_ 100 (T 193 o) = T 100 (T 193 o) := (hx56_ (T 193 o) (cw_lt hw0_.1 u43_ (fun _ _ _ => ⟨_, rfl⟩)) (ty_ne u43_ u46_ (by decide)) (fun h_ => absurd (u43_.symm.trans h_) (by decide)) 100).trans u54_
                        have u68_ : T56_ 184 o = T 184 o := (hx56_ o (cw_lt hw0_.1 u42_ (fun _ _ _ => ⟨_, rfl⟩)) (ty_ne u42_ u46_ (by decide)) (fun h_ => absurd (u42_.symm.trans h_) (by decide)) 184).trans u55_
                        refine j_pop E 183 rfl dX9_suit_182 rfl ?_
                        refine j_aload_n E 184 rfl dX9_suit_183 rfl (lv_at hl 3 rfl) ?_
                        refine g_183 E hK hw fl_X9_22 u57_ 187 rfl dX9_suit_184 ?_
                        refine kV_i E (c_Jx4a65c_size_8abf5 l D cy T56_ (upV (upV (upV (upV (upV (upV (upV (upV (upV (upV (upV (upV (upV (upV (upV (upV (upV (upV (upV v_0 300 y300_20) 140 (upB (v_0 140) q23_ 0)) 141 (upB (v_0 141) q23_ 0)) 142 (upB (v_0 142) q23_ 0)) 143 (upB (v_0 143) q23_ 0)) 144 (upB (v_0 144) q23_ 0)) 145 (upB (v_0 145) q23_ 0)) 146 (upB (v_0 146) q23_ 0)) 103 y103_38) 300 y300_38) 140 y140_41) 141 y141_41) 142 y142_41) 143 y143_41) 144 y144_41) 145 y145_41) 146 y146_41) 200 y200_56) 202 y202_56) (T56_ 183 o)  (wt_183 hT56_ u57_)  ) mt_Jx4a65c_size_8abf5 ml_X9_80 hK hw (cw_rc10 hK hw.1 (wt_183 hT56_ u57_)) hA ⟨Nat.le_of_ble_eq_true rfl, Nat.le_of_ble_eq_true rfl⟩ ⟨Nat.le_of_ble_eq_true rfl, Nat.le_of_ble_eq_true rfl⟩ (As := []) (rest := []) rfl rfl hl.1 (Nat.le_of_ble_eq_true rfl) 190 rfl dX9_suit_187 (fun zz69_ v_69 H locs rr69_ hq69_ hw => ?_)
                        obtain ⟨ev69_, hh69_⟩ := hq69_
                        rw [ev69_] at hw; clear ev69_
                        replace hh69_ : zz69_ = (y202_56 ((T56_ 183 o))) ∧ 0 ≤ zz69_ := hh69_
                        have hs2_ := hh69_.1
                        rw [u64_, hy56_, upB_same] at hs2_
                        refine j_iconst E 191 rfl dX9_suit_190 ?_
                        refine j_isub E 192 rfl dX9_suit_191 ?_
                        exact hret 192 (zz69_ - 1) T56_ _ _ _ ls _ _ hw hoT_ (rr (by omega)) (⟨⟨u57_, ⟨u61_, u62_, u63_, u64_, u65_⟩, rfl, rfl, rfl, rfl, rfl, (by show y202_56 (T 180 o) = v_0 202 (T 180 o); rw [hy56_]; exact upB_ne ((ls_ne hT t_o).2.2.1)), (by show y202_56 (T 181 o) = v_0 202 (T 181 o); rw [hy56_]; exact upB_ne ((ls_ne hT t_o).2.2.2.2.2.1)), (by show y202_56 (T 182 o) = v_0 202 (T 182 o); rw [hy56_]; exact upB_ne ((ls_ne hT t_o).2.2.2.2.2.2.2.2.1)), hC_, (fun i_ => by rw [u61_, B180_ 201 (by decide), A180_ (1000 + i_) (by omega)]), (fun i_ => by rw [u62_, B181_ 201 (by decide), A181_ (1000 + i_) (by omega)]), (fun i_ => by rw [u63_, B182_ 201 (by decide), A182_ (1000 + i_) (by omega)]), rfl, rfl, rfl, rfl, rfl, rfl, rfl, rfl, rfl, rfl, rfl, rfl, rfl, rfl, rfl, rfl, rfl, u68_, Or.inr ⟨by omega, sc_, (by show y202_56 (T 183 o) = v_0 202 (T 183 o) + 1; rw [hy56_]; exact upB_same _ _ _), q23_, fz_, fun i_ h_ => by rw [u64_]; exact (hel56_ i_ h_).trans (by rw [B183_ 201 (by decide), A183_ (1000 + i_) (by omega)]), by rw [u64_]; exact hnw56_, fun y_ h_ => ⟨(by show y140_41 y_ = v_0 140 y_; rw [hw140_]; exact (upB_ne h_).trans (upB_ne h_)), (by show y141_41 y_ = v_0 141 y_; rw [hw141_]; exact (upB_ne h_).trans (upB_ne h_)), (by show y142_41 y_ = v_0 142 y_; rw [hw142_]; exact (upB_ne h_).trans (upB_ne h_)), (by show y143_41 y_ = v_0 143 y_; rw [hw143_]; exact (upB_ne h_).trans (upB_ne h_)), (by show y144_41 y_ = v_0 144 y_; rw [hw144_]; exact (upB_ne h_).trans (upB_ne h_)), (by show y145_41 y_ = v_0 145 y_; rw [hw145_]; exact (upB_ne h_).trans (upB_ne h_)), (by show y146_41 y_ = v_0 146 y_; rw [hw146_]; exact (upB_ne h_).trans (upB_ne h_))⟩, (by show y140_41 q23_ = _; rw [hw140_]; exact upB_same _ _ _), (by show y141_41 q23_ = _; rw [hw141_]; exact upB_same _ _ _), (by show y142_41 q23_ = _; rw [hw142_]; exact upB_same _ _ _), (by show y144_41 q23_ = _; rw [hw144_]; exact upB_same _ _ _), (by show y146_41 q23_ = _; rw [hw146_]; exact upB_same _ _ _), ⟨(0 : Int), g_, (by rw [hg1_, hg2_]; omega), (by show y143_41 q23_ = _; rw [hw143_]; exact (upB_same _ _ _).trans ez_), ow1_⟩, (by show Bs_ (y145_41 q23_) _ _; rw [hw145_]; rw [upB_same]; exact bs_)⟩⟩, kd39_⟩) (Nat.le_of_ble_eq_true rfl) (Nat.le_of_ble_eq_true rfl) dX9_suit_192
                      · refine j_iconst E 139 rfl dX9_suit_138 ?_
                        exact hret 139 ((-1)) T _ _ _ ls _ _ hw hoT_ (rr (by decide)) (⟨⟨t_o, ⟨rfl, rfl, rfl, rfl, rfl⟩, rfl, rfl, rfl, rfl, rfl, rfl, rfl, rfl, hC_, (fun _ => rfl), (fun _ => rfl), (fun _ => rfl), rfl, rfl, rfl, rfl, rfl, rfl, rfl, rfl, rfl, rfl, rfl, rfl, rfl, rfl, rfl, rfl, rfl, rfl, Or.inl ⟨rfl, (fun q_ => by first | exact lv_no hn1_ q_.1 | exact lv_no hn2_ q_.2.1 | (have a_ := q_.2.2; rw [← ag_] at a_; have b_ := (tf_.elim (fun u_ => absurd u_.1 (by omega)) id).2.1; omega) | (have a_ := q_.2.2; rw [hg1_, hg2_] at a_; omega)), rfl, fun _ => rfl, rfl, rfl, rfl, rfl, rfl, rfl, rfl⟩⟩, kd21_⟩) (Nat.le_of_ble_eq_true rfl) (Nat.le_of_ble_eq_true rfl) dX9_suit_139
                    · refine j_iconst E 101 rfl dX9_suit_100 ?_
                      refine j_goto E 105 dX9_suit_101 (by decide) ?_
                      refine j_istore E 107 rfl [(9, .int (J 1)), (8, .ref xx3_), (7, .ref xx1_), (0, .ref o), (1, .int (J v_p)), (2, .int (J v_q)), (3, .int (J v_l)), (4, .int (J v_h)), (5, .int (J v_w)), (6, .int (J v_d))] dX9_suit_105 hl (by decide) rfl (fun ls hl => ?_)
                      refine j_aload_n E 108 rfl dX9_suit_107 rfl (lv_at hl 3 rfl) ?_
                      refine g_193 E hK hw fl_X9_62 t_o 111 rfl dX9_suit_108 ?_
                      refine j_iload E 113 rfl dX9_suit_111 (lv_at hl 7 rfl) ?_
                      refine j_iload E 115 rfl dX9_suit_113 (lv_at hl 8 rfl) ?_
                      refine j_aload_n E 116 rfl dX9_suit_115 rfl (lv_at hl 3 rfl) ?_
                      refine g_187 E hK hw fl_X9_37 t_o (v_0 187 o) rfl 119 rfl dX9_suit_116 (fun _ => ?_)
                      refine j_iload E 121 rfl dX9_suit_119 (lv_at hl 9 rfl) ?_
                      refine j_isub E 122 rfl dX9_suit_121 ?_
                      refine j_iload E 124 rfl dX9_suit_122 (lv_at hl 0 rfl) ?_
                      refine j_iload E 126 rfl dX9_suit_124 (lv_at hl 9 rfl) ?_
                      refine j_aload E 128 rfl dX9_suit_126 (lv_at hl 1 rfl) ?_
                      refine g_42 E hK hw fl_X9_113 te3_ (v_0 42 xx3_) rfl 131 rfl dX9_suit_128 (fun _ => ?_)
                      refine j_isub E 132 rfl dX9_suit_131 ?_
                      refine j_norm (fun zz70_ rr70_ ee70_ => ?_)
                      have ag_ : zz70_ = w32_ (v_d - (v_0 42 ((pe_ T 180 o v_q)))) := by rw [hg2_]; exact w32_of rr70_ ee70_
                      refine kV_i E (c_X4_takeFacts l D cy T (v_0) (T 193 o) v_h v_w ((v_0 187 o) - v_d) 1 zz70_  (wt_193 hT t_o) r_v_h r_v_w (rr (by omega)) (rr (by decide)) rr70_ ) mt_X4_takeFacts ml_X9_292 hK hw (cw_rc5 hK hw.1 (wt_193 hT t_o)) hA ⟨Nat.le_of_ble_eq_true rfl, Nat.le_of_ble_eq_true rfl⟩ ⟨Nat.le_of_ble_eq_true rfl, Nat.le_of_ble_eq_true rfl⟩ (As := [.int (J v_h), .int (J v_w), .int (J ((v_0 187 o) - v_d)), .int (J 1), .int (J zz70_)]) (rest := []) rfl rfl hl.1 (Nat.le_of_ble_eq_true rfl) 135 rfl dX9_suit_132 (fun zz71_ v_71 H locs rr71_ hq71_ hw => ?_)
                      obtain ⟨y300_71, ev71_, hh71_⟩ := hq71_
                      rw [ev71_] at hw; clear ev71_
                      obtain ⟨hh71_, kf71_⟩ := hh71_
                      have kd72_ : KdA_ T sz [100, 101, 102] (v_0 300) (y300_71) := KdA_tr KdA_rf (KdA_kc kf71_ (by decide) (fun b_ h1_ h2_ => ((C20_ hC_ t_o (by decide)) b_ h1_ h2_).2))
                      replace hh71_ : (zz71_ = 1 ∧ (0 ≤ v_h ∧ v_h ≤ 99 ∧ 0 ≤ v_w ∧ v_w ≤ 9 ∧ 0 ≤ ((v_0 187 o) - v_d) ∧ ((v_0 187 o) - v_d) ≤ 299 ∧ 0 ≤ (1 : Int) ∧ (1 : Int) ≤ 1 ∧ -99 ≤ zz70_ ∧ zz70_ ≤ 299) ∧ Fc_ (y300_71) (T 100 (T 193 o)) v_h v_w ((v_0 187 o) - v_d) (1 : Int) zz70_ ∧ Ro_ (v_0 300) (y300_71) (T 100 (T 193 o))) ∨ (zz71_ = 0 ∧ ¬ (0 ≤ v_h ∧ v_h ≤ 99 ∧ 0 ≤ v_w ∧ v_w ≤ 9 ∧ 0 ≤ ((v_0 187 o) - v_d) ∧ ((v_0 187 o) - v_d) ≤ 299 ∧ 0 ≤ (1 : Int) ∧ (1 : Int) ≤ 1 ∧ -99 ≤ zz70_ ∧ zz70_ ≤ 299) ∧ (y300_71) = (v_0 300)) := hh71_
                      have tf_ := hh71_
                      clear hh71_
                      refine j_if_ne E 138 140 rfl rr71_ dX9_suit_135 (by decide) (fun cc73_ => ?_) (fun cc73_ => ?_)
                      · have tf1_ := tf_.elim id (fun q_ => absurd q_.1 (by omega))
                        have fq_ := fc_fcf tf1_.2.2.1
                        have fc_ := tf1_.2.1
                        have sc_ : ((0 ≤ v_p ∧ v_p < (v_0 202 (T 180 o)) ∧ (v_0 43 ((pe_ T 180 o v_p))) = -1) ∧ (0 ≤ v_q ∧ v_q < (v_0 202 (T 180 o)) ∧ (v_0 43 ((pe_ T 180 o v_q))) = -1) ∧ ¬ v_p = v_q ∧ (0 ≤ v_l ∧ v_l < (v_0 202 (T 181 o))) ∧ (v_0 202 (T 183 o)) < 100 ∧ (0 ≤ v_d ∧ v_d ≤ (v_0 187 o)) ∧ (v_0 42 ((pe_ T 180 o v_p))) ≤ v_d ∧ (v_0 42 ((pe_ T 180 o v_q))) ≤ v_d ∧ (0 ≤ v_h ∧ v_h ≤ 99) ∧ (0 ≤ v_w ∧ v_w ≤ 9) ∧ -99 ≤ (w32_ (v_d - (v_0 42 ((pe_ T 180 o v_q))))) ∧ (w32_ (v_d - (v_0 42 ((pe_ T 180 o v_q))))) ≤ 299) := ⟨lv_yes hs1_, lv_yes hs2_, by omega, by omega, by omega, by omega, by rw [hg1_]; omega, by rw [hg2_]; omega, by omega, by omega, by rw [← ag_]; omega, by rw [← ag_]; omega⟩
                        refine j_aload_n E 141 rfl dX9_suit_140 rfl (lv_at hl 3 rfl) ?_
                        refine g_183 E hK hw fl_X9_22 t_o 144 rfl dX9_suit_141 ?_
                        have hw0_ := hw
                        refine n_obj7 E hK hw hA cl_X9_131 (Nat.le_of_ble_eq_true rfl) (Nat.le_of_ble_eq_true rfl) 147 rfl dX9_suit_144 (fun q74_ T74_ H hge74_ hx74_ ho74_ tq74_ hw => ?_)
                        have fq74_ : s.heap.size ≤ q74_ := Nat.le_trans hw0_.2.2.1 hge74_
                        have fz_ : sz ≤ q74_ := by have := fq74_; omega
                        have hw : WK D cy T74_ (upV (upV (upV (upV (upV (upV (upV (upV v_0 300 y300_71) 140 (upB (v_0 140) q74_ 0)) 141 (upB (v_0 141) q74_ 0)) 142 (upB (v_0 142) q74_ 0)) 143 (upB (v_0 143) q74_ 0)) 144 (upB (v_0 144) q74_ 0)) 145 (upB (v_0 145) q74_ 0)) 146 (upB (v_0 146) q74_ 0)) A0 s.heap H locs := hw
                        have hT74_ : WT T74_ := hw.1.2.1
                        have hO74_ : ∀ x, ow T74_ x → κ 2 2 ≤ x := fun x h => hAc x (hw.2.1 x h)
                        have hoT_ : OW T T74_ s.heap.size := OW.tr hw0_.2.2.1 hoT_ ho74_
                        have hC_ : ∀ b, b < sz → T 0 b ≠ 10 → T 0 b ≠ 24 → T 0 b ≠ 26 → b ≠ o → ∀ j, j ≠ 197 → T74_ j b = T j b := fun b_ h1_ h2_ h3_ h4_ h5_ j_ h6_ => (hx74_ b_ (by have := hw0_.2.2.1; have := hge74_; omega) j_).trans (hC_ b_ h1_ h2_ h3_ h4_ h5_ j_ h6_)
                        have B180n_ : ∀ j_, j_ ≠ 197 → T74_ j_ (T 180 o) = T j_ (T 180 o) := fun j_ hj_ => (hx74_ (T 180 o) (Nat.ne_of_lt (Nat.lt_of_lt_of_le (cw_lt hw0_.1 ((B180_ 0 (by decide)).trans tl180_) (fun _ _ _ => ⟨_, rfl⟩)) hge74_)) j_).trans (B180_ j_ hj_)
                        have A180n_ : ∀ j_, j_ ≠ 197 → T74_ j_ (T 201 (T 180 o)) = T j_ (T 201 (T 180 o)) := fun j_ hj_ => (hx74_ (T 201 (T 180 o)) (Nat.ne_of_lt (Nat.lt_of_lt_of_le (cw_ltq hw0_.1 (by rw [A180_ 0 (by decide)]; exact tx180_)) hge74_)) j_).trans (A180_ j_ hj_)
                        have B181n_ : ∀ j_, j_ ≠ 197 → T74_ j_ (T 181 o) = T j_ (T 181 o) := fun j_ hj_ => (hx74_ (T 181 o) (Nat.ne_of_lt (Nat.lt_of_lt_of_le (cw_lt hw0_.1 ((B181_ 0 (by decide)).trans tl181_) (fun _ _ _ => ⟨_, rfl⟩)) hge74_)) j_).trans (B181_ j_ hj_)
                        have A181n_ : ∀ j_, j_ ≠ 197 → T74_ j_ (T 201 (T 181 o)) = T j_ (T 201 (T 181 o)) := fun j_ hj_ => (hx74_ (T 201 (T 181 o)) (Nat.ne_of_lt (Nat.lt_of_lt_of_le (cw_ltq hw0_.1 (by rw [A181_ 0 (by decide)]; exact tx181_)) hge74_)) j_).trans (A181_ j_ hj_)
                        have B182n_ : ∀ j_, j_ ≠ 197 → T74_ j_ (T 182 o) = T j_ (T 182 o) := fun j_ hj_ => (hx74_ (T 182 o) (Nat.ne_of_lt (Nat.lt_of_lt_of_le (cw_lt hw0_.1 ((B182_ 0 (by decide)).trans tl182_) (fun _ _ _ => ⟨_, rfl⟩)) hge74_)) j_).trans (B182_ j_ hj_)
                        have A182n_ : ∀ j_, j_ ≠ 197 → T74_ j_ (T 201 (T 182 o)) = T j_ (T 201 (T 182 o)) := fun j_ hj_ => (hx74_ (T 201 (T 182 o)) (Nat.ne_of_lt (Nat.lt_of_lt_of_le (cw_ltq hw0_.1 (by rw [A182_ 0 (by decide)]; exact tx182_)) hge74_)) j_).trans (A182_ j_ hj_)
                        have B183n_ : ∀ j_, j_ ≠ 197 → T74_ j_ (T 183 o) = T j_ (T 183 o) := fun j_ hj_ => (hx74_ (T 183 o) (Nat.ne_of_lt (Nat.lt_of_lt_of_le (cw_lt hw0_.1 ((B183_ 0 (by decide)).trans tl183_) (fun _ _ _ => ⟨_, rfl⟩)) hge74_)) j_).trans (B183_ j_ hj_)
                        have A183n_ : ∀ j_, j_ ≠ 197 → T74_ j_ (T 201 (T 183 o)) = T j_ (T 201 (T 183 o)) := fun j_ hj_ => (hx74_ (T 201 (T 183 o)) (Nat.ne_of_lt (Nat.lt_of_lt_of_le (cw_ltq hw0_.1 (by rw [A183_ 0 (by decide)]; exact tx183_)) hge74_)) j_).trans (A183_ j_ hj_)
                        have B180_ := B180n_
                        have A180_ := A180n_
                        have B181_ := B181n_
                        have A181_ := A181n_
                        have B182_ := B182n_
                        have A182_ := A182n_
                        have B183_ := B183n_
                        have A183_ := A183n_
                        have u75_ : T74_ 0 o = 9 := (hx74_ o (Nat.ne_of_lt (Nat.lt_of_lt_of_le (cw_lt hw0_.1 t_o (fun _ _ _ => ⟨_, rfl⟩)) hge74_)) 0).trans t_o
                        have u76_ : T74_ 0 (T 193 o) = 5 := (hx74_ (T 193 o) (Nat.ne_of_lt (Nat.lt_of_lt_of_le (cw_lt hw0_.1 (wt_193 hT t_o) (fun _ _ _ => ⟨_, rfl⟩)) hge74_)) 0).trans (wt_193 hT t_o)
                        have u77_ : T74_ 0 xx1_ = 2 := (hx74_ xx1_ (Nat.ne_of_lt (Nat.lt_of_lt_of_le (cw_lt hw0_.1 te1_ (fun _ _ _ => ⟨_, rfl⟩)) hge74_)) 0).trans te1_
                        have u78_ : T74_ 0 xx3_ = 2 := (hx74_ xx3_ (Nat.ne_of_lt (Nat.lt_of_lt_of_le (cw_lt hw0_.1 te3_ (fun _ _ _ => ⟨_, rfl⟩)) hge74_)) 0).trans te3_
                        have u79_ : T74_ 0 (T 183 o) = 10 := (hx74_ (T 183 o) (Nat.ne_of_lt (Nat.lt_of_lt_of_le (cw_lt hw0_.1 (wt_183 hT t_o) (fun _ _ _ => ⟨_, rfl⟩)) hge74_)) 0).trans (wt_183 hT t_o)
                        have u80_ : T74_ 2 (T 183 o) = 7 := (hx74_ (T 183 o) (Nat.ne_of_lt (Nat.lt_of_lt_of_le (cw_lt hw0_.1 (wt_183 hT t_o) (fun _ _ _ => ⟨_, rfl⟩)) hge74_)) 2).trans (we_183 hT t_o)
                        have u81_ : T74_ 180 o = T 180 o := (hx74_ o (Nat.ne_of_lt (Nat.lt_of_lt_of_le (cw_lt hw0_.1 t_o (fun _ _ _ => ⟨_, rfl⟩)) hge74_)) 180).trans rfl
                        have u82_ : T74_ 181 o = T 181 o := (hx74_ o (Nat.ne_of_lt (Nat.lt_of_lt_of_le (cw_lt hw0_.1 t_o (fun _ _ _ => ⟨_, rfl⟩)) hge74_)) 181).trans rfl
                        have u83_ : T74_ 182 o = T 182 o := (hx74_ o (Nat.ne_of_lt (Nat.lt_of_lt_of_le (cw_lt hw0_.1 t_o (fun _ _ _ => ⟨_, rfl⟩)) hge74_)) 182).trans rfl
                        have u84_ : T74_ 183 o = T 183 o := (hx74_ o (Nat.ne_of_lt (Nat.lt_of_lt_of_le (cw_lt hw0_.1 t_o (fun _ _ _ => ⟨_, rfl⟩)) hge74_)) 183).trans rfl
                        have u85_ : T74_ 185 o = T 185 o := (hx74_ o (Nat.ne_of_lt (Nat.lt_of_lt_of_le (cw_lt hw0_.1 t_o (fun _ _ _ => ⟨_, rfl⟩)) hge74_)) 185).trans rfl
                        have u86_ : T74_ 193 o = T 193 o := (hx74_ o (Nat.ne_of_lt (Nat.lt_of_lt_of_le (cw_lt hw0_.1 t_o (fun _ _ _ => ⟨_, rfl⟩)) hge74_)) 193).trans rfl
                        have u87_ : T74_ 100 (T 193 o) = T 100 (T 193 o) := (hx74_ (T 193 o) (Nat.ne_of_lt (Nat.lt_of_lt_of_le (cw_lt hw0_.1 (wt_193 hT t_o) (fun _ _ _ => ⟨_, rfl⟩)) hge74_)) 100).trans rfl
                        have u88_ : T74_ 184 o = T 184 o := (hx74_ o (Nat.ne_of_lt (Nat.lt_of_lt_of_le (cw_lt hw0_.1 t_o (fun _ _ _ => ⟨_, rfl⟩)) hge74_)) 184).trans rfl
                        refine j_dup E 148 rfl dX9_suit_147 rfl ?_
                        refine j_iload_n E 149 rfl dX9_suit_148 rfl (lv_at hl 4 rfl) ?_
                        refine j_iload_n E 150 rfl dX9_suit_149 rfl (lv_at hl 5 rfl) ?_
                        refine j_iload_n E 151 rfl dX9_suit_150 rfl (lv_at hl 6 rfl) ?_
                        refine j_aload_n E 152 rfl dX9_suit_151 rfl (lv_at hl 3 rfl) ?_
                        refine j_iload_n E 153 rfl dX9_suit_152 rfl (lv_at hl 6 rfl) ?_
                        refine j_aload_n E 154 rfl dX9_suit_153 rfl (lv_at hl 3 rfl) ?_
                        refine g_187 E hK hw fl_X9_37 u75_ (v_0 187 o) rfl 157 rfl dX9_suit_154 (fun _ => ?_)
                        refine j_iconst E 158 rfl dX9_suit_157 ?_
                        refine j_isub E 159 rfl dX9_suit_158 ?_
                        refine kV_i E (c_X9_reckonByLaw l D cy T74_ (upV (upV (upV (upV (upV (upV (upV (upV v_0 300 y300_71) 140 (upB (v_0 140) q74_ 0)) 141 (upB (v_0 141) q74_ 0)) 142 (upB (v_0 142) q74_ 0)) 143 (upB (v_0 143) q74_ 0)) 144 (upB (v_0 144) q74_ 0)) 145 (upB (v_0 145) q74_ 0)) 146 (upB (v_0 146) q74_ 0)) o v_l ((v_0 187 o) - 1) (fcf_ v_h v_w ((v_0 187 o) - v_d) (1 : Int) (w32_ (v_d - (v_0 42 ((pe_ T 180 o v_q)))))) S1_ S2_ S3_ u75_ r_v_l (rr (by omega)) (show Wd_ T74_ (y300_71) o ((v_0 202) (T74_ 182 o)) S1_ S2_ S3_ from by rw [u83_]; exact wd_mv hp1 (fun i_ _ => by show T74_ _ (T74_ 201 (T74_ 182 o)) = _; rw [u83_, B182_ 201 (by decide), A182_ (1000 + i_) (by omega)]; rfl) (wd_ho hwI_.1 t_o hszH_ hC_ kd72_ (by decide))) (show 0 ≤ v_l from by omega) (show ((v_0 202) (T74_ 181 o)) ≤ 24 from by rw [u82_]; omega) (show ∀ i_, 0 ≤ i_ → i_ ≤ 4 → gC_ (y300_71) (T74_ 100 (T74_ 193 o)) i_ = ((fcf_ v_h v_w ((v_0 187 o) - v_d) (1 : Int) (w32_ (v_d - (v_0 42 ((pe_ T 180 o v_q))))))) i_ from fun i_ h1_ h2_ => by rw [u86_, u87_, ← ag_]; exact fq_ i_ h1_ h2_) (show 0 ≤ v_l ∧ v_l < ((v_0 202) (T74_ 181 o)) from by rw [u82_]; omega) (show ((v_0 187 o) - 1) < 200 from by omega)) mt_X9_reckonByLaw ml_X9_296 hK hw (cw_rc9 hK hw.1 u75_) hA ⟨Nat.le_of_ble_eq_true rfl, Nat.le_of_ble_eq_true rfl⟩ ⟨Nat.le_of_ble_eq_true rfl, Nat.le_of_ble_eq_true rfl⟩ (As := [.int (J v_l), .int (J ((v_0 187 o) - 1))]) (rest := [.int (J v_l), .int (J v_q), .int (J v_p), .ref q74_, .ref q74_, .ref (T 183 o)]) rfl rfl hl.1 (Nat.le_of_ble_eq_true rfl) 162 rfl dX9_suit_159 (fun zz89_ v_89 H locs rr89_ hq89_ hw => ?_)
                        obtain ⟨y103_89, y300_89, ev89_, hh89_⟩ := hq89_
                        rw [ev89_] at hw; clear ev89_
                        obtain ⟨hh89_, kf89_⟩ := hh89_
                        have kd90_ : KdA_ T sz [100, 101, 102] (v_0 300) (y300_89) := KdA_tr kd72_ (KdA_kc kf89_ (by decide) (fun b_ h1_ h2_ => ((C20_ hC_ t_o (by decide)) b_ h1_ h2_).2))
                        replace hh89_ : (∃ g_ : Int → Int, zz89_ = g_ v_l ∧ Owc_ (fun y_ w_ => ∃ x_ z_, ELn_ T74_ 181 o (y_).toNat = x_ + 1 ∧ Lw_ (((v_0 23) x_)) (gC_ (v_0 302) (T74_ 26 x_)) ((v_0 187 o) - 1) z_ ∧ w_ = nrm_ ((v_0 202) (T74_ 182 o)) z_) ((fcf_ v_h v_w ((v_0 187 o) - v_d) (1 : Int) (w32_ (v_d - (v_0 42 ((pe_ T 180 o v_q))))))) g_ (v_l + 1) S1_ S2_ S3_) ∧ (∀ b_, b_ ≠ (T74_ 101 (T74_ 193 o)) → b_ ≠ (T74_ 102 (T74_ 193 o)) → ∀ i_, (y300_89) (pr b_ i_) = (y300_71) (pr b_ i_)) := hh89_
                        obtain ⟨⟨g_, ez_, ow0_⟩, fr9_⟩ := hh89_
                        have ow1_ := wsl_c hwI_.1 t_o hszH_ hC_ (fun i_ => by show T74_ _ (T74_ 201 (T74_ 181 o)) = _; rw [u82_, B181_ 201 (by decide), A181_ (1000 + i_) (by omega)]; rfl) ow0_ (by omega) (by rw [u83_])
                        refine j_aload_n E 163 rfl dX9_suit_162 rfl (lv_at hl 3 rfl) ?_
                        refine g_187 E hK hw fl_X9_37 u75_ (v_0 187 o) rfl 166 rfl dX9_suit_163 (fun _ => ?_)
                        refine j_aload_n E 167 rfl dX9_suit_166 rfl (lv_at hl 3 rfl) ?_
                        refine j_iload_n E 168 rfl dX9_suit_167 rfl (lv_at hl 4 rfl) ?_
                        refine j_aload E 170 rfl dX9_suit_168 (lv_at hl 2 rfl) ?_
                        refine g_41 E hK hw fl_X9_110 u77_ (v_0 41 xx1_) rfl 173 rfl dX9_suit_170 (fun _ => ?_)
                        refine kV_i E (c_X9_livingKinOf l D cy T74_ (upV (upV (upV (upV (upV (upV (upV (upV (upV (upV v_0 300 y300_71) 140 (upB (v_0 140) q74_ 0)) 141 (upB (v_0 141) q74_ 0)) 142 (upB (v_0 142) q74_ 0)) 143 (upB (v_0 143) q74_ 0)) 144 (upB (v_0 144) q74_ 0)) 145 (upB (v_0 145) q74_ 0)) 146 (upB (v_0 146) q74_ 0)) 103 y103_89) 300 y300_89) o v_p (v_0 41 xx1_)  u75_ r_v_p rr16_ (show ((v_0 202) (T74_ 180 o)) ≤ 24 from by rw [u81_]; omega)) mt_X9_livingKinOf ml_X9_313 hK hw (cw_rc9 hK hw.1 u75_) hA ⟨Nat.le_of_ble_eq_true rfl, Nat.le_of_ble_eq_true rfl⟩ ⟨Nat.le_of_ble_eq_true rfl, Nat.le_of_ble_eq_true rfl⟩ (As := [.int (J v_p), .int (J (v_0 41 xx1_))]) (rest := [.int (J (v_0 187 o)), .int (J zz89_), .int (J v_l), .int (J v_q), .int (J v_p), .ref q74_, .ref q74_, .ref (T 183 o)]) rfl rfl hl.1 (Nat.le_of_ble_eq_true rfl) 176 rfl dX9_suit_173 (fun zz91_ v_91 H locs rr91_ hq91_ hw => ?_)
                        obtain ⟨ev91_, hh91_⟩ := hq91_
                        rw [ev91_] at hw; clear ev91_
                        replace hh91_ : Bs_ zz91_ (fun r_ => ¬ r_ = v_p ∧ ((v_0 43) ((pe_ T74_ 180 o r_))) = -1 ∧ ((v_0 41) ((pe_ T74_ 180 o r_))) = (v_0 41 xx1_)) ((v_0 202) (T74_ 180 o)) := hh91_
                        have pe0_ : ∀ r_ : Int, pe_ T74_ 180 o r_ = pe_ T 180 o r_ := fun r_ => congrArg (fun a_ : Nat => a_ - 1) (show ELn_ T74_ 180 o r_.toNat = ELn_ T 180 o r_.toNat from by show T74_ _ (T74_ 201 (T74_ 180 o)) = _; rw [u81_, B180_ 201 (by decide), A180_ (1000 + r_.toNat) (by omega)]; rfl)
                        have bs_ : Bs_ zz91_ (fun r_ => ¬ r_ = v_p ∧ (v_0 43 ((pe_ T 180 o r_))) = -1 ∧ (v_0 41 ((pe_ T 180 o r_))) = (v_0 41 ((pe_ T 180 o v_p)))) (v_0 202 (T 180 o)) := Bs_mv hh91_ (by rw [u81_]) (fun r_ _ _ => by show (_ ∧ (v_0 43 ((pe_ T74_ 180 o r_))) = -1 ∧ (v_0 41 ((pe_ T74_ 180 o r_))) = _) ↔ _; rw [pe0_, hg1_])
                        have hw0_ := hw
                        refine aI_v E (n_X6_init_n2 l D cy κ T74_ (upV (upV (upV (upV (upV (upV (upV (upV (upV (upV v_0 300 y300_71) 140 (upB (v_0 140) q74_ 0)) 141 (upB (v_0 141) q74_ 0)) 142 (upB (v_0 142) q74_ 0)) 143 (upB (v_0 143) q74_ 0)) 144 (upB (v_0 144) q74_ 0)) 145 (upB (v_0 145) q74_ 0)) 146 (upB (v_0 146) q74_ 0)) 103 y103_89) 300 y300_89) q74_ v_p v_q v_l zz89_ (v_0 187 o) zz91_ H.size  hO74_ tq74_ r_v_p r_v_q r_v_l rr89_ rr10_ rr91_ ) mi_X6_init ml_X9_316 hK hZ hAc hw hA ⟨(Nat.le_of_ble_eq_true rfl), (Nat.le_of_ble_eq_true rfl)⟩ ⟨(Nat.le_of_ble_eq_true rfl), (Nat.le_of_ble_eq_true rfl)⟩ (As := [.int (J v_p), .int (J v_q), .int (J v_l), .int (J zz89_), .int (J (v_0 187 o)), .int (J zz91_)]) (rest := [.ref q74_, .ref (T 183 o)]) rfl rfl hl.1 (Nat.le_of_ble_eq_true rfl) 179 rfl dX9_suit_176 (fun T92_ v_92 H locs hge92_ ho92_ hq92_ hw => ?_)
                        obtain ⟨y140_92, y141_92, y142_92, y143_92, y144_92, y145_92, y146_92, ev92_, hh92_⟩ := hq92_
                        rw [ev92_] at hw; clear ev92_
                        obtain ⟨hx92_, tq92_, hv140_92_, hv141_92_, hv142_92_, hv143_92_, hv144_92_, hv145_92_, hv146_92_⟩ := hh92_
                        have hT92_ : WT T92_ := hw.1.2.1
                        have hO92_ : ∀ x, ow T92_ x → κ 2 2 ≤ x := fun x h => hAc x (hw.2.1 x h)
                        have hoT_ : OW T T92_ s.heap.size := OW.tr hw0_.2.2.1 hoT_ ho92_
                        have hC_ : ∀ b, b < sz → T 0 b ≠ 10 → T 0 b ≠ 24 → T 0 b ≠ 26 → b ≠ o → ∀ j, j ≠ 197 → T92_ j b = T j b := fun b_ h1_ h2_ h3_ h4_ h5_ j_ h6_ => (hx92_ b_ (by have := hw0_.2.2.1; omega) (by have := fq74_; omega) j_).trans (hC_ b_ h1_ h2_ h3_ h4_ h5_ j_ h6_)
                        have B180n_ : ∀ j_, j_ ≠ 197 → T92_ j_ (T 180 o) = T j_ (T 180 o) := fun j_ hj_ => (hx92_ (T 180 o) (cw_lt hw0_.1 ((B180_ 0 (by decide)).trans tl180_) (fun _ _ _ => ⟨_, rfl⟩)) (ty_ne ((B180_ 0 (by decide)).trans tl180_) tq74_ (by decide)) j_).trans (B180_ j_ hj_)
                        have A180n_ : ∀ j_, j_ ≠ 197 → T92_ j_ (T 201 (T 180 o)) = T j_ (T 201 (T 180 o)) := fun j_ hj_ => (hx92_ (T 201 (T 180 o)) (cw_ltq hw0_.1 (by rw [A180_ 0 (by decide)]; exact tx180_)) (ty_neq (by rw [A180_ 0 (by decide)]; exact tx180_) tq74_ (by decide) (by decide)) j_).trans (A180_ j_ hj_)
                        have B181n_ : ∀ j_, j_ ≠ 197 → T92_ j_ (T 181 o) = T j_ (T 181 o) := fun j_ hj_ => (hx92_ (T 181 o) (cw_lt hw0_.1 ((B181_ 0 (by decide)).trans tl181_) (fun _ _ _ => ⟨_, rfl⟩)) (ty_ne ((B181_ 0 (by decide)).trans tl181_) tq74_ (by decide)) j_).trans (B181_ j_ hj_)
                        have A181n_ : ∀ j_, j_ ≠ 197 → T92_ j_ (T 201 (T 181 o)) = T j_ (T 201 (T 181 o)) := fun j_ hj_ => (hx92_ (T 201 (T 181 o)) (cw_ltq hw0_.1 (by rw [A181_ 0 (by decide)]; exact tx181_)) (ty_neq (by rw [A181_ 0 (by decide)]; exact tx181_) tq74_ (by decide) (by decide)) j_).trans (A181_ j_ hj_)
                        have B182n_ : ∀ j_, j_ ≠ 197 → T92_ j_ (T 182 o) = T j_ (T 182 o) := fun j_ hj_ => (hx92_ (T 182 o) (cw_lt hw0_.1 ((B182_ 0 (by decide)).trans tl182_) (fun _ _ _ => ⟨_, rfl⟩)) (ty_ne ((B182_ 0 (by decide)).trans tl182_) tq74_ (by decide)) j_).trans (B182_ j_ hj_)
                        have A182n_ : ∀ j_, j_ ≠ 197 → T92_ j_ (T 201 (T 182 o)) = T j_ (T 201 (T 182 o)) := fun j_ hj_ => (hx92_ (T 201 (T 182 o)) (cw_ltq hw0_.1 (by rw [A182_ 0 (by decide)]; exact tx182_)) (ty_neq (by rw [A182_ 0 (by decide)]; exact tx182_) tq74_ (by decide) (by decide)) j_).trans (A182_ j_ hj_)
                        have B183n_ : ∀ j_, j_ ≠ 197 → T92_ j_ (T 183 o) = T j_ (T 183 o) := fun j_ hj_ => (hx92_ (T 183 o) (cw_lt hw0_.1 ((B183_ 0 (by decide)).trans tl183_) (fun _ _ _ => ⟨_, rfl⟩)) (ty_ne ((B183_ 0 (by decide)).trans tl183_) tq74_ (by decide)) j_).trans (B183_ j_ hj_)
                        have A183n_ : ∀ j_, j_ ≠ 197 → T92_ j_ (T 201 (T 183 o)) = T j_ (T 201 (T 183 o)) := fun j_ hj_ => (hx92_ (T 201 (T 183 o)) (cw_ltq hw0_.1 (by rw [A183_ 0 (by decide)]; exact tx183_)) (ty_neq (by rw [A183_ 0 (by decide)]; exact tx183_) tq74_ (by decide) (by decide)) j_).trans (A183_ j_ hj_)
                        have B180_ := B180n_
                        have A180_ := A180n_
                        have B181_ := B181n_
                        have A181_ := A181n_
                        have B182_ := B182n_
                        have A182_ := A182n_
                        have B183_ := B183n_
                        have A183_ := A183n_
                        have u93_ : T92_ 0 o = 9 := (hx92_ o (cw_lt hw0_.1 u75_ (fun _ _ _ => ⟨_, rfl⟩)) (ty_ne u75_ tq74_ (by decide)) 0).trans u75_
                        have u94_ : T92_ 0 (T 193 o) = 5 := (hx92_ (T 193 o) (cw_lt hw0_.1 u76_ (fun _ _ _ => ⟨_, rfl⟩)) (ty_ne u76_ tq74_ (by decide)) 0).trans u76_
                        have u95_ : T92_ 0 xx1_ = 2 := (hx92_ xx1_ (cw_lt hw0_.1 u77_ (fun _ _ _ => ⟨_, rfl⟩)) (ty_ne u77_ tq74_ (by decide)) 0).trans u77_
                        have u96_ : T92_ 0 xx3_ = 2 := (hx92_ xx3_ (cw_lt hw0_.1 u78_ (fun _ _ _ => ⟨_, rfl⟩)) (ty_ne u78_ tq74_ (by decide)) 0).trans u78_
                        have u97_ : T92_ 0 (T 183 o) = 10 := (hx92_ (T 183 o) (cw_lt hw0_.1 u79_ (fun _ _ _ => ⟨_, rfl⟩)) (ty_ne u79_ tq74_ (by decide)) 0).trans u79_
                        have u98_ : T92_ 2 (T 183 o) = 7 := (hx92_ (T 183 o) (cw_lt hw0_.1 u79_ (fun _ _ _ => ⟨_, rfl⟩)) (ty_ne u79_ tq74_ (by decide)) 2).trans u80_
                        have u99_ : T92_ 180 o = T 180 o := (hx92_ o (cw_lt hw0_.1 u75_ (fun _ _ _ => ⟨_, rfl⟩)) (ty_ne u75_ tq74_ (by decide)) 180).trans u81_
                        have u100_ : T92_ 181 o = T 181 o := (hx92_ o (cw_lt hw0_.1 u75_ (fun _ _ _ => ⟨_, rfl⟩)) (ty_ne u75_ tq74_ (by decide)) 181).trans u82_
                        have u101_ : T92_ 182 o = T 182 o := (hx92_ o (cw_lt hw0_.1 u75_ (fun _ _ _ => ⟨_, rfl⟩)) (ty_ne u75_ tq74_ (by decide)) 182).trans u83_
                        have u102_ : T92_ 183 o = T 183 o := (hx92_ o (cw_lt hw0_.1 u75_ (fun _ _ _ => ⟨_, rfl⟩)) (ty_ne u75_ tq74_ (by decide)) 183).trans u84_
                        have u103_ : T92_ 185 o = T 185 o := (hx92_ o (cw_lt hw0_.1 u75_ (fun _ _ _ => ⟨_, rfl⟩)) (ty_ne u75_ tq74_ (by decide)) 185).trans u85_
                        have u104_ : T92_ 193 o = T 193 o := (hx92_ o (cw_lt hw0_.1 u75_ (fun _ _ _ => ⟨_, rfl⟩)) (ty_ne u75_ tq74_ (by decide)) 193).trans u86_
                        have u105_ : T92_ 100 (T 193 o) = T 100 (T 193 o) := (hx92_ (T 193 o) (cw_lt hw0_.1 u76_ (fun _ _ _ => ⟨_, rfl⟩)) (ty_ne u76_ tq74_ (by decide)) 100).trans u87_
                        have u106_ : T92_ 184 o = T 184 o := (hx92_ o (cw_lt hw0_.1 u75_ (fun _ _ _ => ⟨_, rfl⟩)) (ty_ne u75_ tq74_ (by decide)) 184).trans u88_
                        have hw140_ : y140_92 = upB (upB (v_0 140) q74_ 0) q74_ v_p := hv140_92_
                        have hw141_ : y141_92 = upB (upB (v_0 141) q74_ 0) q74_ v_q := hv141_92_
                        have hw142_ : y142_92 = upB (upB (v_0 142) q74_ 0) q74_ v_l := hv142_92_
                        have hw143_ : y143_92 = upB (upB (v_0 143) q74_ 0) q74_ zz89_ := hv143_92_
                        have hw144_ : y144_92 = upB (upB (v_0 144) q74_ 0) q74_ (v_0 187 o) := hv144_92_
                        have hw145_ : y145_92 = upB (upB (v_0 145) q74_ 0) q74_ zz91_ := hv145_92_
                        have hw146_ : y146_92 = upB (upB (v_0 146) q74_ 0) q74_ 0 := hv146_92_
                        have hw0_ := hw
                        refine aV_i E (n_Jx4a65c_add_9ea2d_n2 l D cy κ T92_ (upV (upV (upV (upV (upV (upV (upV (upV (upV (upV (upV (upV (upV (upV (upV (upV (upV v_0 300 y300_71) 140 (upB (v_0 140) q74_ 0)) 141 (upB (v_0 141) q74_ 0)) 142 (upB (v_0 142) q74_ 0)) 143 (upB (v_0 143) q74_ 0)) 144 (upB (v_0 144) q74_ 0)) 145 (upB (v_0 145) q74_ 0)) 146 (upB (v_0 146) q74_ 0)) 103 y103_89) 300 y300_89) 140 y140_92) 141 y141_92) 142 y142_92) 143 y143_92) 144 y144_92) 145 y145_92) 146 y146_92) (T 183 o) q74_ H.size  hO92_ u97_  (tq92_.trans u98_.symm) (fun x_ h_ => hp0 x_ ((hoT_ x_).2 h_)) (show ((v_0 202) ((T 183 o))) ≤ 200 from by omega)) mt_Jx4a65c_add_9ea2d ml_X9_89 hK hZ hAc hw (cw_rc10 hK hw.1 u97_) hA ⟨(Nat.le_of_ble_eq_true rfl), (Nat.le_of_ble_eq_true rfl)⟩ ⟨(Nat.le_of_ble_eq_true rfl), (Nat.le_of_ble_eq_true rfl)⟩ (As := [.ref q74_]) (rest := []) rfl rfl hl.1 (Nat.le_of_ble_eq_true rfl) 182 rfl dX9_suit_179 (fun zz107_ T107_ v_107 H locs rr107_ hge107_ ho107_ hq107_ hw => ?_)
                        obtain ⟨y200_107, y202_107, ev107_, hh107_⟩ := hq107_
                        rw [ev107_] at hw; clear ev107_
                        obtain ⟨hy107_, hx107_, hz107_, hl107_, hel107_, hnw107_⟩ := hh107_
                        have hy107_ : y202_107 = upB (v_0 202) (T 183 o) ((v_0 202) (T 183 o) + 1) := hy107_
                        have hT107_ : WT T107_ := hw.1.2.1
                        have hO107_ : ∀ x, ow T107_ x → κ 2 2 ≤ x := fun x h => hAc x (hw.2.1 x h)
                        have hoT_ : OW T T107_ s.heap.size := OW.tr hw0_.2.2.1 hoT_ ho107_
                        have hC_ : ∀ b, b < sz → T 0 b ≠ 10 → T 0 b ≠ 24 → T 0 b ≠ 26 → b ≠ o → ∀ j, j ≠ 197 → T107_ j b = T j b := fun b_ h1_ h2_ h3_ h4_ h5_ j_ h6_ => (hx107_ b_ (by have := hw0_.2.2.1; omega) (fun e_ => h2_ ((hC_ b_ h1_ h2_ h3_ h4_ h5_ 0 (by decide)).symm.trans (by rw [e_]; exact u97_))) (fun h_ => absurd ((hC_ b_ h1_ h2_ h3_ h4_ h5_ 0 (by decide)).symm.trans h_) h3_) j_).trans (hC_ b_ h1_ h2_ h3_ h4_ h5_ j_ h6_)
                        have B180n_ : ∀ j_, j_ ≠ 197 → T107_ j_ (T 180 o) = T j_ (T 180 o) := fun j_ hj_ => (hx107_ (T 180 o) (cw_lt hw0_.1 ((B180_ 0 (by decide)).trans tl180_) (fun _ _ _ => ⟨_, rfl⟩)) ((ls_ne hT t_o).2.2.1) (fun h_ => absurd (((B180_ 0 (by decide)).trans tl180_).symm.trans h_) (by decide)) j_).trans (B180_ j_ hj_)
                        have A180n_ : ∀ j_, j_ ≠ 197 → T107_ j_ (T 201 (T 180 o)) = T j_ (T 201 (T 180 o)) := fun j_ hj_ => (hx107_ (T 201 (T 180 o)) (cw_ltq hw0_.1 (by rw [A180_ 0 (by decide)]; exact tx180_)) (ty_neq (by rw [A180_ 0 (by decide)]; exact tx180_) u97_ (by decide) (by decide)) (fun h_ => by rw [B183_ 201 (by decide)]; exact own_ne hT tl180_ tl183_ ((ls_ne hT t_o).2.2.1) ((A180_ 0 (by decide)).symm.trans h_)) j_).trans (A180_ j_ hj_)
                        have B181n_ : ∀ j_, j_ ≠ 197 → T107_ j_ (T 181 o) = T j_ (T 181 o) := fun j_ hj_ => (hx107_ (T 181 o) (cw_lt hw0_.1 ((B181_ 0 (by decide)).trans tl181_) (fun _ _ _ => ⟨_, rfl⟩)) ((ls_ne hT t_o).2.2.2.2.2.1) (fun h_ => absurd (((B181_ 0 (by decide)).trans tl181_).symm.trans h_) (by decide)) j_).trans (B181_ j_ hj_)
                        have A181n_ : ∀ j_, j_ ≠ 197 → T107_ j_ (T 201 (T 181 o)) = T j_ (T 201 (T 181 o)) := fun j_ hj_ => (hx107_ (T 201 (T 181 o)) (cw_ltq hw0_.1 (by rw [A181_ 0 (by decide)]; exact tx181_)) (ty_neq (by rw [A181_ 0 (by decide)]; exact tx181_) u97_ (by decide) (by decide)) (fun h_ => by rw [B183_ 201 (by decide)]; exact own_ne hT tl181_ tl183_ ((ls_ne hT t_o).2.2.2.2.2.1) ((A181_ 0 (by decide)).symm.trans h_)) j_).trans (A181_ j_ hj_)
                        have B182n_ : ∀ j_, j_ ≠ 197 → T107_ j_ (T 182 o) = T j_ (T 182 o) := fun j_ hj_ => (hx107_ (T 182 o) (cw_lt hw0_.1 ((B182_ 0 (by decide)).trans tl182_) (fun _ _ _ => ⟨_, rfl⟩)) ((ls_ne hT t_o).2.2.2.2.2.2.2.2.1) (fun h_ => absurd (((B182_ 0 (by decide)).trans tl182_).symm.trans h_) (by decide)) j_).trans (B182_ j_ hj_)
                        have A182n_ : ∀ j_, j_ ≠ 197 → T107_ j_ (T 201 (T 182 o)) = T j_ (T 201 (T 182 o)) := fun j_ hj_ => (hx107_ (T 201 (T 182 o)) (cw_ltq hw0_.1 (by rw [A182_ 0 (by decide)]; exact tx182_)) (ty_neq (by rw [A182_ 0 (by decide)]; exact tx182_) u97_ (by decide) (by decide)) (fun h_ => by rw [B183_ 201 (by decide)]; exact own_ne hT tl182_ tl183_ ((ls_ne hT t_o).2.2.2.2.2.2.2.2.1) ((A182_ 0 (by decide)).symm.trans h_)) j_).trans (A182_ j_ hj_)
                        have B180_ := B180n_
                        have A180_ := A180n_
                        have B181_ := B181n_
                        have A181_ := A181n_
                        have B182_ := B182n_
                        have A182_ := A182n_
                        have u108_ : T107_ 0 o = 9 := (hx107_ o (cw_lt hw0_.1 u93_ (fun _ _ _ => ⟨_, rfl⟩)) (ty_ne u93_ u97_ (by decide)) (fun h_ => absurd (u93_.symm.trans h_) (by decide)) 0).trans u93_
                        have u109_ : T107_ 0 (T 193 o) = 5 := (hx107_ (T 193 o) (cw_lt hw0_.1 u94_ (fun _ _ _ => ⟨_, rfl⟩)) (ty_ne u94_ u97_ (by decide)) (fun h_ => absurd (u94_.symm.trans h_) (by decide)) 0).trans u94_
                        have u110_ : T107_ 0 xx1_ = 2 := (hx107_ xx1_ (cw_lt hw0_.1 u95_ (fun _ _ _ => ⟨_, rfl⟩)) (ty_ne u95_ u97_ (by decide)) (fun h_ => absurd (u95_.symm.trans h_) (by decide)) 0).trans u95_
                        have u111_ : T107_ 0 xx3_ = 2 := (hx107_ xx3_ (cw_lt hw0_.1 u96_ (fun _ _ _ => ⟨_, rfl⟩)) (ty_ne u96_ u97_ (by decide)) (fun h_ => absurd (u96_.symm.trans h_) (by decide)) 0).trans u96_
                        have u112_ : T107_ 180 o = T 180 o := (hx107_ o (cw_lt hw0_.1 u93_ (fun _ _ _ => ⟨_, rfl⟩)) (ty_ne u93_ u97_ (by decide)) (fun h_ => absurd (u93_.symm.trans h_) (by decide)) 180).trans u99_
                        have u113_ : T107_ 181 o = T 181 o := (hx107_ o (cw_lt hw0_.1 u93_ (fun _ _ _ => ⟨_, rfl⟩)) (ty_ne u93_ u97_ (by decide)) (fun h_ => absurd (u93_.symm.trans h_) (by decide)) 181).trans u100_
                        have u114_ : T107_ 182 o = T 182 o := (hx107_ o (cw_lt hw0_.1 u93_ (fun _ _ _ => ⟨_, rfl⟩)) (ty_ne u93_ u97_ (by decide)) (fun h_ => absurd (u93_.symm.trans h_) (by decide)) 182).trans u101_
                        have u115_ : T107_ 183 o = T 183 o := (hx107_ o (cw_lt hw0_.1 u93_ (fun _ _ _ => ⟨_, rfl⟩)) (ty_ne u93_ u97_ (by decide)) (fun h_ => absurd (u93_.symm.trans h_) (by decide)) 183).trans u102_
                        have u116_ : T107_ 185 o = T 185 o := (hx107_ o (cw_lt hw0_.1 u93_ (fun _ _ _ => ⟨_, rfl⟩)) (ty_ne u93_ u97_ (by decide)) (fun h_ => absurd (u93_.symm.trans h_) (by decide)) 185).trans u103_
                        have u117_ : T107_ 193 o = T 193 o := (hx107_ o (cw_lt hw0_.1 u93_ (fun _ _ _ => ⟨_, rfl⟩)) (ty_ne u93_ u97_ (by decide)) (fun h_ => absurd (u93_.symm.trans h_) (by decide)) 193).trans u104_
                        have u118_ : T107_ 100 (T 193 o) = T 100 (T 193 o) := (hx107_ (T 193 o) (cw_lt hw0_.1 u94_ (fun _ _ _ => ⟨_, rfl⟩)) (ty_ne u94_ u97_ (by decide)) (fun h_ => absurd (u94_.symm.trans h_) (by decide)) 100).trans u105_
                        have u119_ : T107_ 184 o = T 184 o := (hx107_ o (cw_lt hw0_.1 u93_ (fun _ _ _ => ⟨_, rfl⟩)) (ty_ne u93_ u97_ (by decide)) (fun h_ => absurd (u93_.symm.trans h_) (by decide)) 184).trans u106_
                        refine j_pop E 183 rfl dX9_suit_182 rfl ?_
                        refine j_aload_n E 184 rfl dX9_suit_183 rfl (lv_at hl 3 rfl) ?_
                        refine g_183 E hK hw fl_X9_22 u108_ 187 rfl dX9_suit_184 ?_
                        refine kV_i E (c_Jx4a65c_size_8abf5 l D cy T107_ (upV (upV (upV (upV (upV (upV (upV (upV (upV (upV (upV (upV (upV (upV (upV (upV (upV (upV (upV v_0 300 y300_71) 140 (upB (v_0 140) q74_ 0)) 141 (upB (v_0 141) q74_ 0)) 142 (upB (v_0 142) q74_ 0)) 143 (upB (v_0 143) q74_ 0)) 144 (upB (v_0 144) q74_ 0)) 145 (upB (v_0 145) q74_ 0)) 146 (upB (v_0 146) q74_ 0)) 103 y103_89) 300 y300_89) 140 y140_92) 141 y141_92) 142 y142_92) 143 y143_92) 144 y144_92) 145 y145_92) 146 y146_92) 200 y200_107) 202 y202_107) (T107_ 183 o)  (wt_183 hT107_ u108_)  ) mt_Jx4a65c_size_8abf5 ml_X9_80 hK hw (cw_rc10 hK hw.1 (wt_183 hT107_ u108_)) hA ⟨Nat.le_of_ble_eq_true rfl, Nat.le_of_ble_eq_true rfl⟩ ⟨Nat.le_of_ble_eq_true rfl, Nat.le_of_ble_eq_true rfl⟩ (As := []) (rest := []) rfl rfl hl.1 (Nat.le_of_ble_eq_true rfl) 190 rfl dX9_suit_187 (fun zz120_ v_120 H locs rr120_ hq120_ hw => ?_)
                        obtain ⟨ev120_, hh120_⟩ := hq120_
                        rw [ev120_] at hw; clear ev120_
                        replace hh120_ : zz120_ = (y202_107 ((T107_ 183 o))) ∧ 0 ≤ zz120_ := hh120_
                        have hs2_ := hh120_.1
                        rw [u115_, hy107_, upB_same] at hs2_
                        refine j_iconst E 191 rfl dX9_suit_190 ?_
                        refine j_isub E 192 rfl dX9_suit_191 ?_
                        exact hret 192 (zz120_ - 1) T107_ _ _ _ ls _ _ hw hoT_ (rr (by omega)) (⟨⟨u108_, ⟨u112_, u113_, u114_, u115_, u116_⟩, rfl, rfl, rfl, rfl, rfl, (by show y202_107 (T 180 o) = v_0 202 (T 180 o); rw [hy107_]; exact upB_ne ((ls_ne hT t_o).2.2.1)), (by show y202_107 (T 181 o) = v_0 202 (T 181 o); rw [hy107_]; exact upB_ne ((ls_ne hT t_o).2.2.2.2.2.1)), (by show y202_107 (T 182 o) = v_0 202 (T 182 o); rw [hy107_]; exact upB_ne ((ls_ne hT t_o).2.2.2.2.2.2.2.2.1)), hC_, (fun i_ => by rw [u112_, B180_ 201 (by decide), A180_ (1000 + i_) (by omega)]), (fun i_ => by rw [u113_, B181_ 201 (by decide), A181_ (1000 + i_) (by omega)]), (fun i_ => by rw [u114_, B182_ 201 (by decide), A182_ (1000 + i_) (by omega)]), rfl, rfl, rfl, rfl, rfl, rfl, rfl, rfl, rfl, rfl, rfl, rfl, rfl, rfl, rfl, rfl, rfl, u119_, Or.inr ⟨by omega, sc_, (by show y202_107 (T 183 o) = v_0 202 (T 183 o) + 1; rw [hy107_]; exact upB_same _ _ _), q74_, fz_, fun i_ h_ => by rw [u115_]; exact (hel107_ i_ h_).trans (by rw [B183_ 201 (by decide), A183_ (1000 + i_) (by omega)]), by rw [u115_]; exact hnw107_, fun y_ h_ => ⟨(by show y140_92 y_ = v_0 140 y_; rw [hw140_]; exact (upB_ne h_).trans (upB_ne h_)), (by show y141_92 y_ = v_0 141 y_; rw [hw141_]; exact (upB_ne h_).trans (upB_ne h_)), (by show y142_92 y_ = v_0 142 y_; rw [hw142_]; exact (upB_ne h_).trans (upB_ne h_)), (by show y143_92 y_ = v_0 143 y_; rw [hw143_]; exact (upB_ne h_).trans (upB_ne h_)), (by show y144_92 y_ = v_0 144 y_; rw [hw144_]; exact (upB_ne h_).trans (upB_ne h_)), (by show y145_92 y_ = v_0 145 y_; rw [hw145_]; exact (upB_ne h_).trans (upB_ne h_)), (by show y146_92 y_ = v_0 146 y_; rw [hw146_]; exact (upB_ne h_).trans (upB_ne h_))⟩, (by show y140_92 q74_ = _; rw [hw140_]; exact upB_same _ _ _), (by show y141_92 q74_ = _; rw [hw141_]; exact upB_same _ _ _), (by show y142_92 q74_ = _; rw [hw142_]; exact upB_same _ _ _), (by show y144_92 q74_ = _; rw [hw144_]; exact upB_same _ _ _), (by show y146_92 q74_ = _; rw [hw146_]; exact upB_same _ _ _), ⟨(1 : Int), g_, (by rw [hg1_, hg2_]; omega), (by show y143_92 q74_ = _; rw [hw143_]; exact (upB_same _ _ _).trans ez_), ow1_⟩, (by show Bs_ (y145_92 q74_) _ _; rw [hw145_]; rw [upB_same]; exact bs_)⟩⟩, kd90_⟩) (Nat.le_of_ble_eq_true rfl) (Nat.le_of_ble_eq_true rfl) dX9_suit_192
                      · refine j_iconst E 139 rfl dX9_suit_138 ?_
                        exact hret 139 ((-1)) T _ _ _ ls _ _ hw hoT_ (rr (by decide)) (⟨⟨t_o, ⟨rfl, rfl, rfl, rfl, rfl⟩, rfl, rfl, rfl, rfl, rfl, rfl, rfl, rfl, hC_, (fun _ => rfl), (fun _ => rfl), (fun _ => rfl), rfl, rfl, rfl, rfl, rfl, rfl, rfl, rfl, rfl, rfl, rfl, rfl, rfl, rfl, rfl, rfl, rfl, rfl, Or.inl ⟨rfl, (fun q_ => by first | exact lv_no hn1_ q_.1 | exact lv_no hn2_ q_.2.1 | (have a_ := q_.2.2; rw [← ag_] at a_; have b_ := (tf_.elim (fun u_ => absurd u_.1 (by omega)) id).2.1; omega) | (have a_ := q_.2.2; rw [hg1_, hg2_] at a_; omega)), rfl, fun _ => rfl, rfl, rfl, rfl, rfl, rfl, rfl, rfl⟩⟩, kd72_⟩) (Nat.le_of_ble_eq_true rfl) (Nat.le_of_ble_eq_true rfl) dX9_suit_139
                  · refine j_iconst E 86 rfl dX9_suit_85 ?_
                    exact hret 86 ((-1)) T _ _ _ ls _ _ hw hoT_ (rr (by decide)) (⟨⟨t_o, ⟨rfl, rfl, rfl, rfl, rfl⟩, rfl, rfl, rfl, rfl, rfl, rfl, rfl, rfl, hC_, (fun _ => rfl), (fun _ => rfl), (fun _ => rfl), rfl, rfl, rfl, rfl, rfl, rfl, rfl, rfl, rfl, rfl, rfl, rfl, rfl, rfl, rfl, rfl, rfl, rfl, Or.inl ⟨rfl, (fun q_ => by first | exact lv_no hn1_ q_.1 | exact lv_no hn2_ q_.2.1 | (have a_ := q_.2.2; rw [← ag_] at a_; have b_ := (tf_.elim (fun u_ => absurd u_.1 (by omega)) id).2.1; omega) | (have a_ := q_.2.2; rw [hg1_, hg2_] at a_; omega)), rfl, fun _ => rfl, rfl, rfl, rfl, rfl, rfl, rfl, rfl⟩⟩, KdA_rf⟩) (Nat.le_of_ble_eq_true rfl) (Nat.le_of_ble_eq_true rfl) dX9_suit_86
          · refine j_iconst E 50 rfl dX9_suit_49 ?_
            exact hret 50 ((-1)) T _ _ _ ls _ _ hw hoT_ (rr (by decide)) (⟨⟨t_o, ⟨rfl, rfl, rfl, rfl, rfl⟩, rfl, rfl, rfl, rfl, rfl, rfl, rfl, rfl, hC_, (fun _ => rfl), (fun _ => rfl), (fun _ => rfl), rfl, rfl, rfl, rfl, rfl, rfl, rfl, rfl, rfl, rfl, rfl, rfl, rfl, rfl, rfl, rfl, rfl, rfl, Or.inl ⟨rfl, (fun q_ => by first | exact lv_no hn1_ q_.1 | exact lv_no hn2_ q_.2.1 | (have a_ := q_.2.2; rw [← ag_] at a_; have b_ := (tf_.elim (fun u_ => absurd u_.1 (by omega)) id).2.1; omega) | (have a_ := q_.2.2; rw [hg1_, hg2_] at a_; omega)), rfl, fun _ => rfl, rfl, rfl, rfl, rfl, rfl, rfl, rfl⟩⟩, KdA_rf⟩) (Nat.le_of_ble_eq_true rfl) (Nat.le_of_ble_eq_true rfl) dX9_suit_50
set_option maxHeartbeats 4000000 in
set_option maxRecDepth 100000 in
theorem n_X9_wording (l : Launch) (D : va_G) (cy : Nat → ClassId) (κ T : Nat → Nat → Nat) (v_0 : Nat → Nat → Int) (o : Nat) (sz : Nat) (hO : ∀ x, ow T x → κ 2 2 ≤ x) (t_o : T 0 o = 9) (hp0 : ∀ x, T 0 x = 26 → x = κ 2 0) (hp1 : 0 ≤ v_0 186 o ∧ v_0 186 o ≤ 400) : KA l D cy κ T yX9_wording cX9_wording 2 (some .int) 24 5 1300 [.ref o] v_0 sz (AI (fun (z_0 : Int) (T_2 : Nat → Nat → Nat) (v_2 : Nat → Nat → Int) => (T_2 0 o = 9 ∧ (T_2 180 o = T 180 o ∧ T_2 181 o = T 181 o ∧ T_2 182 o = T 182 o ∧ T_2 183 o = T 183 o ∧ T_2 185 o = T 185 o) ∧ v_2 186 o = 0 ∧ v_2 187 o = v_0 187 o ∧ v_2 303 = v_0 303 ∧ v_2 202 (T 180 o) = v_0 202 (T 180 o) ∧ v_2 202 (T 181 o) = v_0 202 (T 181 o) ∧ v_2 202 (T 183 o) = v_0 202 (T 183 o) ∧ (∀ b, b < sz → T 0 b ≠ 10 → T 0 b ≠ 24 → T 0 b ≠ 26 → b ≠ o → ∀ j, j ≠ 197 → T_2 j b = T j b) ∧ (∀ i_ : Nat, T_2 (1000 + i_) (T_2 201 (T_2 180 o)) = T (1000 + i_) (T 201 (T 180 o))) ∧ (∀ i_ : Nat, T_2 (1000 + i_) (T_2 201 (T_2 181 o)) = T (1000 + i_) (T 201 (T 181 o))) ∧ (∀ i_ : Nat, T_2 (1000 + i_) (T_2 201 (T_2 183 o)) = T (1000 + i_) (T 201 (T 183 o))) ∧ v_2 40 = v_0 40 ∧ v_2 41 = v_0 41 ∧ v_2 42 = v_0 42 ∧ v_2 43 = v_0 43 ∧ v_2 44 = v_0 44 ∧ v_2 25 = v_0 25 ∧ v_2 302 = v_0 302 ∧ v_2 20 = v_0 20 ∧ v_2 21 = v_0 21 ∧ v_2 22 = v_0 22 ∧ v_2 23 = v_0 23 ∧ v_2 24 = v_0 24 ∧ v_2 45 = v_0 45 ∧ v_2 140 = v_0 140 ∧ v_2 141 = v_0 141 ∧ v_2 142 = v_0 142 ∧ v_2 143 = v_0 143 ∧ v_2 144 = v_0 144 ∧ v_2 145 = v_0 145 ∧ v_2 146 = v_0 146 ∧ v_2 188 = v_0 188 ∧ v_2 189 = v_0 189 ∧ v_2 301 = v_0 301 ∧ T_2 184 o = T 184 o ∧ (Wc_ (gC_ (v_0 303) (T 185 o)) (v_0 186 o) (v_0 202 (T 182 o)) (v_2 202 (T 182 o)) z_0 (v_2 190 o) (v_2 191 o) ((∀ i_ : Nat, T_2 (1000 + i_) (T_2 201 (T_2 182 o)) = T (1000 + i_) (T 201 (T 182 o))) ∧ v_2 160 = v_0 160) (fun K_ V_ cnt_ a1_ a2_ a3_ => ∃ q_ : Nat, sz ≤ q_ ∧ (∀ i_ : Nat, (i_ : Int) < v_0 202 (T 182 o) → T_2 (1000 + i_) (T_2 201 (T_2 182 o)) = T (1000 + i_) (T 201 (T 182 o))) ∧ T_2 (1000 + (v_0 202 (T 182 o)).toNat) (T_2 201 (T_2 182 o)) = q_ + 1 ∧ T_2 0 q_ = 8 ∧ (∀ y_ : Nat, y_ ≠ q_ → v_2 160 y_ = v_0 160 y_) ∧ Wq_ T_2 (v_2 300) (v_2 160) q_ (v_0 202 (T 182 o)) cnt_ K_ V_ a1_ a2_ a3_))) ∧ KdA_ T sz [85, 120, 121, 122] (v_0 300) (v_2 300))) := by
  refine KA.ofi (by decide) (Nat.le_of_ble_eq_true rfl) hO ?_
  intro p e s m below meth c ls ar QW A0 H locs E hK hZ hA hAc hsz hszH_ hnm hw hlo_ hl hret
  have hl : lv_has ls 2 [(0, .ref o)] := hl
  have hT : WT T := hw.1.2.1
  have hoT_ : OW T T s.heap.size := OW.rf T _
  have hC_ : ∀ b, b < sz → T 0 b ≠ 10 → T 0 b ≠ 24 → T 0 b ≠ 26 → b ≠ o → ∀ j, j ≠ 197 → T j b = T j b := fun _ _ _ _ _ _ _ _ => rfl
  have tl180_ : T 0 (T 180 o) = 10 := wt_180 hT t_o
  have tx180_ : T 0 (T 201 (T 180 o)) = 24 ∨ T 0 (T 201 (T 180 o)) = 26 := (wt10 hT tl180_).1
  have B180_ : ∀ j, j ≠ 197 → T j (T 180 o) = T j (T 180 o) := fun _ _ => rfl
  have A180_ : ∀ j, j ≠ 197 → T j (T 201 (T 180 o)) = T j (T 201 (T 180 o)) := fun _ _ => rfl
  have tl181_ : T 0 (T 181 o) = 10 := wt_181 hT t_o
  have tx181_ : T 0 (T 201 (T 181 o)) = 24 ∨ T 0 (T 201 (T 181 o)) = 26 := (wt10 hT tl181_).1
  have B181_ : ∀ j, j ≠ 197 → T j (T 181 o) = T j (T 181 o) := fun _ _ => rfl
  have A181_ : ∀ j, j ≠ 197 → T j (T 201 (T 181 o)) = T j (T 201 (T 181 o)) := fun _ _ => rfl
  have tl182_ : T 0 (T 182 o) = 10 := wt_182 hT t_o
  have tx182_ : T 0 (T 201 (T 182 o)) = 24 ∨ T 0 (T 201 (T 182 o)) = 26 := (wt10 hT tl182_).1
  have B182_ : ∀ j, j ≠ 197 → T j (T 182 o) = T j (T 182 o) := fun _ _ => rfl
  have A182_ : ∀ j, j ≠ 197 → T j (T 201 (T 182 o)) = T j (T 201 (T 182 o)) := fun _ _ => rfl
  have tl183_ : T 0 (T 183 o) = 10 := wt_183 hT t_o
  have tx183_ : T 0 (T 201 (T 183 o)) = 24 ∨ T 0 (T 201 (T 183 o)) = 26 := (wt10 hT tl183_).1
  have B183_ : ∀ j, j ≠ 197 → T j (T 183 o) = T j (T 183 o) := fun _ _ => rfl
  have A183_ : ∀ j, j ≠ 197 → T j (T 201 (T 183 o)) = T j (T 201 (T 183 o)) := fun _ _ => rfl
  have hwI_ := hw
  have ltr_ : T 85 (T 192 o) < sz := hszH_ ▸ cw_lt hw.1 (wt_85 hT (wt_192 hT t_o)) (fun _ _ _ => ⟨_, rfl⟩)
  refine j_aload_n E 1 rfl dX9_wording_0 rfl (lv_at hl 0 rfl) ?_
  refine g_186 E hK hw fl_X9_33 t_o (v_0 186 o) rfl 4 rfl dX9_wording_1 (fun rr1_ => ?_)
  refine j_istore_n E 5 rfl [(1, .int (J (v_0 186 o))), (0, .ref o)] dX9_wording_4 rfl hl (by decide) rfl (fun ls hl => ?_)
  refine j_aload_n E 6 rfl dX9_wording_5 rfl (lv_at hl 1 rfl) ?_
  refine j_iconst E 7 rfl dX9_wording_6 ?_
  refine p_186 E hK hw fl_X9_33 t_o (rr (by decide)) 10 rfl dX9_wording_7 (fun H locs hw => ?_)
  have hw : WK D cy T (upV v_0 186 (upB (v_0 186) o 0)) A0 s.heap H locs := hw
  refine j_aload_n E 11 rfl dX9_wording_10 rfl (lv_at hl 1 rfl) ?_
  refine j_iconst E 12 rfl dX9_wording_11 ?_
  refine p_190 E hK hw fl_X9_46 t_o (rr (by decide)) 15 rfl dX9_wording_12 (fun H locs hw => ?_)
  have hw : WK D cy T (upV (upV v_0 186 (upB (v_0 186) o 0)) 190 (upB (v_0 190) o 0)) A0 s.heap H locs := hw
  refine j_aload_n E 16 rfl dX9_wording_15 rfl (lv_at hl 1 rfl) ?_
  refine j_iconst E 17 rfl dX9_wording_16 ?_
  refine p_191 E hK hw fl_X9_49 t_o (rr (by decide)) 20 rfl dX9_wording_17 (fun H locs hw => ?_)
  have hw : WK D cy T (upV (upV (upV v_0 186 (upB (v_0 186) o 0)) 190 (upB (v_0 190) o 0)) 191 (upB (v_0 191) o ((-1)))) A0 s.heap H locs := hw
  refine j_aload_n E 21 rfl dX9_wording_20 rfl (lv_at hl 1 rfl) ?_
  refine g_182 E hK hw fl_X9_19 t_o 24 rfl dX9_wording_21 ?_
  refine kV_i E (c_Jx4a65c_size_8abf5 l D cy T (upV (upV (upV v_0 186 (upB (v_0 186) o 0)) 190 (upB (v_0 190) o 0)) 191 (upB (v_0 191) o ((-1)))) (T 182 o)  (wt_182 hT t_o)  ) mt_Jx4a65c_size_8abf5 ml_X9_80 hK hw (cw_rc10 hK hw.1 (wt_182 hT t_o)) hA ⟨Nat.le_of_ble_eq_true rfl, Nat.le_of_ble_eq_true rfl⟩ ⟨Nat.le_of_ble_eq_true rfl, Nat.le_of_ble_eq_true rfl⟩ (As := []) (rest := []) rfl rfl hl.1 (Nat.le_of_ble_eq_true rfl) 27 rfl dX9_wording_24 (fun zz5_ v_5 H locs rr5_ hq5_ hw => ?_)
  obtain ⟨ev5_, hh5_⟩ := hq5_
  rw [ev5_] at hw; clear ev5_
  replace hh5_ : zz5_ = ((v_0 202) ((T 182 o))) ∧ 0 ≤ zz5_ := hh5_
  refine j_bipush E 29 rfl dX9_wording_27 (by decide) ?_
  refine j_icmp_lt E 32 34 rfl rr5_ (rr (by decide)) dX9_wording_29 (by decide) (fun cc6_ => ?_) (fun cc6_ => ?_)
  · refine j_aload_n E 35 rfl dX9_wording_34 rfl (lv_at hl 1 rfl) ?_
    refine g_192 E hK hw fl_X9_55 t_o 38 rfl dX9_wording_35 ?_
    refine j_aload_n E 39 rfl dX9_wording_38 rfl (lv_at hl 1 rfl) ?_
    refine g_185 E hK hw fl_X9_29 t_o 42 rfl dX9_wording_39 ?_
    have ln7_ := wl_185 hT t_o
    refine j_iload_n E 43 rfl dX9_wording_42 rfl (lv_at hl 0 rfl) ?_
    refine zV_i E (c_X3_read l D cy T (upV (upV (upV v_0 186 (upB (v_0 186) o 0)) 190 (upB (v_0 190) o 0)) 191 (upB (v_0 191) o ((-1)))) κ (T 192 o) (T 185 o) (v_0 186 o)  hO (wt_192 hT t_o) (wt_185 hT t_o) rr1_ (show 0 ≤ (v_0 186 o) ∧ (v_0 186 o) ≤ (T 1 (T 185 o) : Int) ∧ (T 1 (T 185 o) : Int) ≤ 400 from by omega)) mt_X3_read ml_X9_146 hK hZ hAc hw (cw_rc4 hK hw.1 (wt_192 hT t_o)) hA ⟨Nat.le_of_ble_eq_true rfl, Nat.le_of_ble_eq_true rfl⟩ ⟨Nat.le_of_ble_eq_true rfl, Nat.le_of_ble_eq_true rfl⟩ (As := [.ref (T 185 o), .int (J (v_0 186 o))]) (rest := []) rfl rfl hl.1 (Nat.le_of_ble_eq_true rfl) 46 rfl dX9_wording_43 (fun zz8_ v_8 H locs rr8_ hq8_ hw => ?_)
    obtain ⟨y80_8, y81_8, y83_8, y84_8, y86_8, y123_8, y124_8, y300_8, ev8_, hh8_⟩ := hq8_
    rw [ev8_] at hw; clear ev8_
    obtain ⟨hh8_, kf8_⟩ := hh8_
    have kd9_ : KdA_ T sz [85, 120, 121, 122] (v_0 300) (y300_8) := KdA_tr KdA_rf (KdA_kc kf8_ (by decide) (fun b_ h1_ h2_ => ((C20_ hC_ t_o (by decide)) b_ h1_ h2_).2))
    replace hh8_ : (0 ≤ (y86_8 ((T 192 o))) ∧ (y86_8 ((T 192 o))) ≤ 400) ∧ (0 ≤ (y123_8 (T 82 (T 192 o))) ∧ (y123_8 (T 82 (T 192 o))) ≤ 400) ∧ ∃ K_ V_ P_ Q_ : Int → Int, Strm_ (gC_ (v_0 303) (T 185 o)) (v_0 186 o) K_ V_ P_ Q_ ∧ ((zz8_ = 1 ∧ (y80_8 ((T 192 o))) = 0 ∧ (y81_8 ((T 192 o))) = -1 ∧ RK_ (y300_8) (T 120 (T 82 (T 192 o))) (T 121 (T 82 (T 192 o))) ((y123_8 (T 82 (T 192 o)))) K_ V_ ∧ ∃ (jn_ : Int) (s1_ s2_ s3_ : List Int), 0 ≤ jn_ ∧ Ra_ K_ V_ 9 jn_ [s3_, s2_, s1_] ∧ lL_ (gC_ (y300_8) (T 85 (T 192 o))) 0 ((y86_8 ((T 192 o)))) = s1_ ++ (wh_ s2_ ++ ul_ s3_) ∧ K_ jn_ = 1) ∨ (zz8_ = 0 ∧ (1 ≤ (y80_8 ((T 192 o))) ∧ (y80_8 ((T 192 o))) ≤ 3) ∧ ∃ jn_ : Int, (y81_8 ((T 192 o))) = P_ jn_ ∧ Rf_ K_ V_ ((y80_8 ((T 192 o)))) jn_)) := hh8_
    obtain ⟨rc_, cn_, K_, V_, P_, Q_, sm_, rd_⟩ := hh8_
    have yr_ := rc_
    refine j_if_ne E 49 73 rfl rr8_ dX9_wording_46 (by decide) (fun cc10_ => ?_) (fun cc10_ => ?_)
    · rcases rd_ with ⟨q1_, fk_, fp_, rk_, jn_, a1_, a2_, a3_, j0_, ra_, ll_, kj_⟩ | ⟨q1_, q2_⟩
      rotate_left
      · exact absurd q1_ (by omega)
      have cj_ := rk_cj rk_ j0_ ra_ kj_
      refine j_aload_n E 74 rfl dX9_wording_73 rfl (lv_at hl 1 rfl) ?_
      refine g_182 E hK hw fl_X9_19 t_o 77 rfl dX9_wording_74 ?_
      have hw0_ := hw
      refine n_obj8 E hK hw hA cl_X9_152 (Nat.le_of_ble_eq_true rfl) (Nat.le_of_ble_eq_true rfl) 80 rfl dX9_wording_77 (fun q11_ T11_ H hge11_ hx11_ ho11_ tq11_ hw => ?_)
      have fq11_ : s.heap.size ≤ q11_ := Nat.le_trans hw0_.2.2.1 hge11_
      have fz_ : sz ≤ q11_ := by have := fq11_; omega
      have hw : WK D cy T11_ (upV (upV (upV (upV (upV (upV (upV (upV (upV (upV (upV (upV v_0 186 (upB (v_0 186) o 0)) 190 (upB (v_0 190) o 0)) 191 (upB (v_0 191) o ((-1)))) 80 y80_8) 81 y81_8) 83 y83_8) 84 y84_8) 86 y86_8) 123 y123_8) 124 y124_8) 300 y300_8) 160 (upB (v_0 160) q11_ 0)) A0 s.heap H locs := hw
      have hT11_ : WT T11_ := hw.1.2.1
      have hO11_ : ∀ x, ow T11_ x → κ 2 2 ≤ x := fun x h => hAc x (hw.2.1 x h)
      have hoT_ : OW T T11_ s.heap.size := OW.tr hw0_.2.2.1 hoT_ ho11_
      have hC_ : ∀ b, b < sz → T 0 b ≠ 10 → T 0 b ≠ 24 → T 0 b ≠ 26 → b ≠ o → ∀ j, j ≠ 197 → T11_ j b = T j b := fun b_ h1_ h2_ h3_ h4_ h5_ j_ h6_ => (hx11_ b_ (by have := hw0_.2.2.1; have := hge11_; omega) j_).trans (hC_ b_ h1_ h2_ h3_ h4_ h5_ j_ h6_)
      have B180n_ : ∀ j_, j_ ≠ 197 → T11_ j_ (T 180 o) = T j_ (T 180 o) := fun j_ hj_ => (hx11_ (T 180 o) (Nat.ne_of_lt (Nat.lt_of_lt_of_le (cw_lt hw0_.1 ((B180_ 0 (by decide)).trans tl180_) (fun _ _ _ => ⟨_, rfl⟩)) hge11_)) j_).trans (B180_ j_ hj_)
      have A180n_ : ∀ j_, j_ ≠ 197 → T11_ j_ (T 201 (T 180 o)) = T j_ (T 201 (T 180 o)) := fun j_ hj_ => (hx11_ (T 201 (T 180 o)) (Nat.ne_of_lt (Nat.lt_of_lt_of_le (cw_ltq hw0_.1 (by rw [A180_ 0 (by decide)]; exact tx180_)) hge11_)) j_).trans (A180_ j_ hj_)
      have B181n_ : ∀ j_, j_ ≠ 197 → T11_ j_ (T 181 o) = T j_ (T 181 o) := fun j_ hj_ => (hx11_ (T 181 o) (Nat.ne_of_lt (Nat.lt_of_lt_of_le (cw_lt hw0_.1 ((B181_ 0 (by decide)).trans tl181_) (fun _ _ _ => ⟨_, rfl⟩)) hge11_)) j_).trans (B181_ j_ hj_)
      have A181n_ : ∀ j_, j_ ≠ 197 → T11_ j_ (T 201 (T 181 o)) = T j_ (T 201 (T 181 o)) := fun j_ hj_ => (hx11_ (T 201 (T 181 o)) (Nat.ne_of_lt (Nat.lt_of_lt_of_le (cw_ltq hw0_.1 (by rw [A181_ 0 (by decide)]; exact tx181_)) hge11_)) j_).trans (A181_ j_ hj_)
      have B182n_ : ∀ j_, j_ ≠ 197 → T11_ j_ (T 182 o) = T j_ (T 182 o) := fun j_ hj_ => (hx11_ (T 182 o) (Nat.ne_of_lt (Nat.lt_of_lt_of_le (cw_lt hw0_.1 ((B182_ 0 (by decide)).trans tl182_) (fun _ _ _ => ⟨_, rfl⟩)) hge11_)) j_).trans (B182_ j_ hj_)
      have A182n_ : ∀ j_, j_ ≠ 197 → T11_ j_ (T 201 (T 182 o)) = T j_ (T 201 (T 182 o)) := fun j_ hj_ => (hx11_ (T 201 (T 182 o)) (Nat.ne_of_lt (Nat.lt_of_lt_of_le (cw_ltq hw0_.1 (by rw [A182_ 0 (by decide)]; exact tx182_)) hge11_)) j_).trans (A182_ j_ hj_)
      have B183n_ : ∀ j_, j_ ≠ 197 → T11_ j_ (T 183 o) = T j_ (T 183 o) := fun j_ hj_ => (hx11_ (T 183 o) (Nat.ne_of_lt (Nat.lt_of_lt_of_le (cw_lt hw0_.1 ((B183_ 0 (by decide)).trans tl183_) (fun _ _ _ => ⟨_, rfl⟩)) hge11_)) j_).trans (B183_ j_ hj_)
      have A183n_ : ∀ j_, j_ ≠ 197 → T11_ j_ (T 201 (T 183 o)) = T j_ (T 201 (T 183 o)) := fun j_ hj_ => (hx11_ (T 201 (T 183 o)) (Nat.ne_of_lt (Nat.lt_of_lt_of_le (cw_ltq hw0_.1 (by rw [A183_ 0 (by decide)]; exact tx183_)) hge11_)) j_).trans (A183_ j_ hj_)
      have B180_ := B180n_
      have A180_ := A180n_
      have B181_ := B181n_
      have A181_ := A181n_
      have B182_ := B182n_
      have A182_ := A182n_
      have B183_ := B183n_
      have A183_ := A183n_
      have u12_ : T11_ 0 o = 9 := (hx11_ o (Nat.ne_of_lt (Nat.lt_of_lt_of_le (cw_lt hw0_.1 t_o (fun _ _ _ => ⟨_, rfl⟩)) hge11_)) 0).trans t_o
      have u13_ : T11_ 0 (T 192 o) = 4 := (hx11_ (T 192 o) (Nat.ne_of_lt (Nat.lt_of_lt_of_le (cw_lt hw0_.1 (wt_192 hT t_o) (fun _ _ _ => ⟨_, rfl⟩)) hge11_)) 0).trans (wt_192 hT t_o)
      have u14_ : T11_ 0 (T 82 (T 192 o)) = 6 := (hx11_ (T 82 (T 192 o)) (Nat.ne_of_lt (Nat.lt_of_lt_of_le (cw_lt hw0_.1 (wt_82 hT (wt_192 hT t_o)) (fun _ _ _ => ⟨_, rfl⟩)) hge11_)) 0).trans (wt_82 hT (wt_192 hT t_o))
      have u15_ : T11_ 0 (T 182 o) = 10 := (hx11_ (T 182 o) (Nat.ne_of_lt (Nat.lt_of_lt_of_le (cw_lt hw0_.1 (wt_182 hT t_o) (fun _ _ _ => ⟨_, rfl⟩)) hge11_)) 0).trans (wt_182 hT t_o)
      have u16_ : T11_ 2 (T 182 o) = 8 := (hx11_ (T 182 o) (Nat.ne_of_lt (Nat.lt_of_lt_of_le (cw_lt hw0_.1 (wt_182 hT t_o) (fun _ _ _ => ⟨_, rfl⟩)) hge11_)) 2).trans (we_182 hT t_o)
      have u17_ : T11_ 180 o = T 180 o := (hx11_ o (Nat.ne_of_lt (Nat.lt_of_lt_of_le (cw_lt hw0_.1 t_o (fun _ _ _ => ⟨_, rfl⟩)) hge11_)) 180).trans rfl
      have u18_ : T11_ 181 o = T 181 o := (hx11_ o (Nat.ne_of_lt (Nat.lt_of_lt_of_le (cw_lt hw0_.1 t_o (fun _ _ _ => ⟨_, rfl⟩)) hge11_)) 181).trans rfl
      have u19_ : T11_ 182 o = T 182 o := (hx11_ o (Nat.ne_of_lt (Nat.lt_of_lt_of_le (cw_lt hw0_.1 t_o (fun _ _ _ => ⟨_, rfl⟩)) hge11_)) 182).trans rfl
      have u20_ : T11_ 183 o = T 183 o := (hx11_ o (Nat.ne_of_lt (Nat.lt_of_lt_of_le (cw_lt hw0_.1 t_o (fun _ _ _ => ⟨_, rfl⟩)) hge11_)) 183).trans rfl
      have u21_ : T11_ 185 o = T 185 o := (hx11_ o (Nat.ne_of_lt (Nat.lt_of_lt_of_le (cw_lt hw0_.1 t_o (fun _ _ _ => ⟨_, rfl⟩)) hge11_)) 185).trans rfl
      have u22_ : T11_ 192 o = T 192 o := (hx11_ o (Nat.ne_of_lt (Nat.lt_of_lt_of_le (cw_lt hw0_.1 t_o (fun _ _ _ => ⟨_, rfl⟩)) hge11_)) 192).trans rfl
      have u23_ : T11_ 82 (T 192 o) = T 82 (T 192 o) := (hx11_ (T 192 o) (Nat.ne_of_lt (Nat.lt_of_lt_of_le (cw_lt hw0_.1 (wt_192 hT t_o) (fun _ _ _ => ⟨_, rfl⟩)) hge11_)) 82).trans rfl
      have u24_ : T11_ 85 (T 192 o) = T 85 (T 192 o) := (hx11_ (T 192 o) (Nat.ne_of_lt (Nat.lt_of_lt_of_le (cw_lt hw0_.1 (wt_192 hT t_o) (fun _ _ _ => ⟨_, rfl⟩)) hge11_)) 85).trans rfl
      have u25_ : T11_ 120 (T 82 (T 192 o)) = T 120 (T 82 (T 192 o)) := (hx11_ (T 82 (T 192 o)) (Nat.ne_of_lt (Nat.lt_of_lt_of_le (cw_lt hw0_.1 (wt_82 hT (wt_192 hT t_o)) (fun _ _ _ => ⟨_, rfl⟩)) hge11_)) 120).trans rfl
      have u26_ : T11_ 121 (T 82 (T 192 o)) = T 121 (T 82 (T 192 o)) := (hx11_ (T 82 (T 192 o)) (Nat.ne_of_lt (Nat.lt_of_lt_of_le (cw_lt hw0_.1 (wt_82 hT (wt_192 hT t_o)) (fun _ _ _ => ⟨_, rfl⟩)) hge11_)) 121).trans rfl
      have u27_ : T11_ 184 o = T 184 o := (hx11_ o (Nat.ne_of_lt (Nat.lt_of_lt_of_le (cw_lt hw0_.1 t_o (fun _ _ _ => ⟨_, rfl⟩)) hge11_)) 184).trans rfl
      refine j_dup E 81 rfl dX9_wording_80 rfl ?_
      refine j_aload_n E 82 rfl dX9_wording_81 rfl (lv_at hl 1 rfl) ?_
      refine g_182 E hK hw fl_X9_19 u12_ 85 rfl dX9_wording_82 ?_
      refine kV_i E (c_Jx4a65c_size_8abf5 l D cy T11_ (upV (upV (upV (upV (upV (upV (upV (upV (upV (upV (upV (upV v_0 186 (upB (v_0 186) o 0)) 190 (upB (v_0 190) o 0)) 191 (upB (v_0 191) o ((-1)))) 80 y80_8) 81 y81_8) 83 y83_8) 84 y84_8) 86 y86_8) 123 y123_8) 124 y124_8) 300 y300_8) 160 (upB (v_0 160) q11_ 0)) (T11_ 182 o)  (wt_182 hT11_ u12_)  ) mt_Jx4a65c_size_8abf5 ml_X9_80 hK hw (cw_rc10 hK hw.1 (wt_182 hT11_ u12_)) hA ⟨Nat.le_of_ble_eq_true rfl, Nat.le_of_ble_eq_true rfl⟩ ⟨Nat.le_of_ble_eq_true rfl, Nat.le_of_ble_eq_true rfl⟩ (As := []) (rest := [.ref q11_, .ref q11_, .ref (T 182 o)]) rfl rfl hl.1 (Nat.le_of_ble_eq_true rfl) 88 rfl dX9_wording_85 (fun zz28_ v_28 H locs rr28_ hq28_ hw => ?_)
      obtain ⟨ev28_, hh28_⟩ := hq28_
      rw [ev28_] at hw; clear ev28_
      replace hh28_ : zz28_ = ((v_0 202) ((T11_ 182 o))) ∧ 0 ≤ zz28_ := hh28_
      have hs40_ : zz28_ ≤ 40 := by have h_ := hh28_.1; rw [u19_] at h_; omega
      have hzn_ : zz28_ = v_0 202 (T 182 o) := by have h_ := hh28_.1; rw [u19_] at h_; exact h_
      refine j_aload_n E 89 rfl dX9_wording_88 rfl (lv_at hl 1 rfl) ?_
      refine g_192 E hK hw fl_X9_55 u12_ 92 rfl dX9_wording_89 ?_
      have hw0_ := hw
      refine aV_n E (n_X3_copyOfTokens l D cy κ T11_ (upV (upV (upV (upV (upV (upV (upV (upV (upV (upV (upV (upV v_0 186 (upB (v_0 186) o 0)) 190 (upB (v_0 190) o 0)) 191 (upB (v_0 191) o ((-1)))) 80 y80_8) 81 y81_8) 83 y83_8) 84 y84_8) 86 y86_8) 123 y123_8) 124 y124_8) 300 y300_8) 160 (upB (v_0 160) q11_ 0)) (T11_ 192 o) H.size (300 * q11_ + 161) hO11_ (wt_192 hT11_ u12_)  (show 0 ≤ (y123_8 (T11_ 82 (T11_ 192 o))) ∧ (y123_8 (T11_ 82 (T11_ 192 o))) ≤ 400 from by rw [u22_, u23_]; omega) (show ∀ i_ : Int, 0 ≤ i_ → i_ < (y123_8 (T11_ 82 (T11_ 192 o))) → gC_ (y300_8) (T11_ 120 (T11_ 82 (T11_ 192 o))) i_ ≤ 312 from by rw [u22_, u23_, u25_]; exact fun i_ h1_ h2_ => by rw [(rk_.1 i_ h1_ h2_).1]; exact Strm_kb sm_ h1_)) mt_X3_copyOfTokens ml_X9_154 hK hZ hAc hw (cw_rc4 hK hw.1 (wt_192 hT11_ u12_)) hA ⟨(Nat.le_of_ble_eq_true rfl), (Nat.le_of_ble_eq_true rfl)⟩ ⟨(Nat.le_of_ble_eq_true rfl), (Nat.le_of_ble_eq_true rfl)⟩ (As := []) (rest := [.int (J zz28_), .ref q11_, .ref q11_, .ref (T 182 o)]) rfl rfl hl.1 (Nat.le_of_ble_eq_true rfl) 95 rfl dX9_wording_92 (fun xx29_ T29_ v_29 H locs hge29_ ho29_ hq29_ hw => ?_)
      obtain ⟨y300_29, ev29_, hh29_⟩ := hq29_
      rw [ev29_] at hw; clear ev29_
      obtain ⟨hh29_, kf29_⟩ := hh29_
      have kd30_ : KdA_ T sz [85, 120, 121, 122] (v_0 300) (y300_29) := KdA_tr kd9_ (KdA_ka kf29_ (by have := hw0_.2.2.1; omega) (by decide) (C20_ hC_ t_o (by decide)))
      obtain ⟨hx29_, tq29_, tl29_, tw29_, hs29_, yc29_, yo29_⟩ := hh29_
      have tatl_ := tl29_
      have tayc_ := yc29_
      have tayo_ := yo29_
      have tahs_ := hs29_
      have takf_ := kf29_
      rw [u22_, u23_] at tatl_ tayc_
      rw [u25_, u26_] at tayc_
      have f1_ : ∀ i_, y300_29 (pr (T 85 (T 192 o)) i_) = y300_8 (pr (T 85 (T 192 o)) i_) := fun i_ => takf_ _ (by have := ltr_; have := hw0_.2.2.1; omega) (((C20_ hC_ t_o (by decide)) _ ltr_ (wt_85 hT (wt_192 hT t_o))).1) (fun h_ => by cases h_) i_
      have hT29_ : WT T29_ := hw.1.2.1
      have hO29_ : ∀ x, ow T29_ x → κ 2 2 ≤ x := fun x h => hAc x (hw.2.1 x h)
      have hoT_ : OW T T29_ s.heap.size := OW.tr hw0_.2.2.1 hoT_ ho29_
      have hC_ : ∀ b, b < sz → T 0 b ≠ 10 → T 0 b ≠ 24 → T 0 b ≠ 26 → b ≠ o → ∀ j, j ≠ 197 → T29_ j b = T j b := fun b_ h1_ h2_ h3_ h4_ h5_ j_ h6_ => (hx29_ b_ (by have := hw0_.2.2.1; omega) j_).trans (hC_ b_ h1_ h2_ h3_ h4_ h5_ j_ h6_)
      have B180n_ : ∀ j_, j_ ≠ 197 → T29_ j_ (T 180 o) = T j_ (T 180 o) := fun j_ hj_ => (hx29_ (T 180 o) (cw_lt hw0_.1 ((B180_ 0 (by decide)).trans tl180_) (fun _ _ _ => ⟨_, rfl⟩)) j_).trans (B180_ j_ hj_)
      have A180n_ : ∀ j_, j_ ≠ 197 → T29_ j_ (T 201 (T 180 o)) = T j_ (T 201 (T 180 o)) := fun j_ hj_ => (hx29_ (T 201 (T 180 o)) (cw_ltq hw0_.1 (by rw [A180_ 0 (by decide)]; exact tx180_)) j_).trans (A180_ j_ hj_)
      have B181n_ : ∀ j_, j_ ≠ 197 → T29_ j_ (T 181 o) = T j_ (T 181 o) := fun j_ hj_ => (hx29_ (T 181 o) (cw_lt hw0_.1 ((B181_ 0 (by decide)).trans tl181_) (fun _ _ _ => ⟨_, rfl⟩)) j_).trans (B181_ j_ hj_)
      have A181n_ : ∀ j_, j_ ≠ 197 → T29_ j_ (T 201 (T 181 o)) = T j_ (T 201 (T 181 o)) := fun j_ hj_ => (hx29_ (T 201 (T 181 o)) (cw_ltq hw0_.1 (by rw [A181_ 0 (by decide)]; exact tx181_)) j_).trans (A181_ j_ hj_)
      have B182n_ : ∀ j_, j_ ≠ 197 → T29_ j_ (T 182 o) = T j_ (T 182 o) := fun j_ hj_ => (hx29_ (T 182 o) (cw_lt hw0_.1 ((B182_ 0 (by decide)).trans tl182_) (fun _ _ _ => ⟨_, rfl⟩)) j_).trans (B182_ j_ hj_)
      have A182n_ : ∀ j_, j_ ≠ 197 → T29_ j_ (T 201 (T 182 o)) = T j_ (T 201 (T 182 o)) := fun j_ hj_ => (hx29_ (T 201 (T 182 o)) (cw_ltq hw0_.1 (by rw [A182_ 0 (by decide)]; exact tx182_)) j_).trans (A182_ j_ hj_)
      have B183n_ : ∀ j_, j_ ≠ 197 → T29_ j_ (T 183 o) = T j_ (T 183 o) := fun j_ hj_ => (hx29_ (T 183 o) (cw_lt hw0_.1 ((B183_ 0 (by decide)).trans tl183_) (fun _ _ _ => ⟨_, rfl⟩)) j_).trans (B183_ j_ hj_)
      have A183n_ : ∀ j_, j_ ≠ 197 → T29_ j_ (T 201 (T 183 o)) = T j_ (T 201 (T 183 o)) := fun j_ hj_ => (hx29_ (T 201 (T 183 o)) (cw_ltq hw0_.1 (by rw [A183_ 0 (by decide)]; exact tx183_)) j_).trans (A183_ j_ hj_)
      have B180_ := B180n_
      have A180_ := A180n_
      have B181_ := B181n_
      have A181_ := A181n_
      have B182_ := B182n_
      have A182_ := A182n_
      have B183_ := B183n_
      have A183_ := A183n_
      have u31_ : T29_ 0 o = 9 := (hx29_ o (cw_lt hw0_.1 u12_ (fun _ _ _ => ⟨_, rfl⟩)) 0).trans u12_
      have u32_ : T29_ 0 (T 192 o) = 4 := (hx29_ (T 192 o) (cw_lt hw0_.1 u13_ (fun _ _ _ => ⟨_, rfl⟩)) 0).trans u13_
      have u33_ : T29_ 0 (T 82 (T 192 o)) = 6 := (hx29_ (T 82 (T 192 o)) (cw_lt hw0_.1 u14_ (fun _ _ _ => ⟨_, rfl⟩)) 0).trans u14_
      have u34_ : T29_ 0 (T 182 o) = 10 := (hx29_ (T 182 o) (cw_lt hw0_.1 u15_ (fun _ _ _ => ⟨_, rfl⟩)) 0).trans u15_
      have u35_ : T29_ 0 q11_ = 108 := (hx29_ q11_ (cw_lt hw0_.1 tq11_ (fun _ _ _ => ⟨_, rfl⟩)) 0).trans tq11_
      have u36_ : T29_ 2 (T 182 o) = 8 := (hx29_ (T 182 o) (cw_lt hw0_.1 u15_ (fun _ _ _ => ⟨_, rfl⟩)) 2).trans u16_
      have u37_ : T29_ 180 o = T 180 o := (hx29_ o (cw_lt hw0_.1 u12_ (fun _ _ _ => ⟨_, rfl⟩)) 180).trans u17_
      have u38_ : T29_ 181 o = T 181 o := (hx29_ o (cw_lt hw0_.1 u12_ (fun _ _ _ => ⟨_, rfl⟩)) 181).trans u18_
      have u39_ : T29_ 182 o = T 182 o := (hx29_ o (cw_lt hw0_.1 u12_ (fun _ _ _ => ⟨_, rfl⟩)) 182).trans u19_
      have u40_ : T29_ 183 o = T 183 o := (hx29_ o (cw_lt hw0_.1 u12_ (fun _ _ _ => ⟨_, rfl⟩)) 183).trans u20_
      have u41_ : T29_ 185 o = T 185 o := (hx29_ o (cw_lt hw0_.1 u12_ (fun _ _ _ => ⟨_, rfl⟩)) 185).trans u21_
      have u42_ : T29_ 192 o = T 192 o := (hx29_ o (cw_lt hw0_.1 u12_ (fun _ _ _ => ⟨_, rfl⟩)) 192).trans u22_
      have u43_ : T29_ 82 (T 192 o) = T 82 (T 192 o) := (hx29_ (T 192 o) (cw_lt hw0_.1 u13_ (fun _ _ _ => ⟨_, rfl⟩)) 82).trans u23_
      have u44_ : T29_ 85 (T 192 o) = T 85 (T 192 o) := (hx29_ (T 192 o) (cw_lt hw0_.1 u13_ (fun _ _ _ => ⟨_, rfl⟩)) 85).trans u24_
      have u45_ : T29_ 120 (T 82 (T 192 o)) = T 120 (T 82 (T 192 o)) := (hx29_ (T 82 (T 192 o)) (cw_lt hw0_.1 u14_ (fun _ _ _ => ⟨_, rfl⟩)) 120).trans u25_
      have u46_ : T29_ 121 (T 82 (T 192 o)) = T 121 (T 82 (T 192 o)) := (hx29_ (T 82 (T 192 o)) (cw_lt hw0_.1 u14_ (fun _ _ _ => ⟨_, rfl⟩)) 121).trans u26_
      have u47_ : T29_ 184 o = T 184 o := (hx29_ o (cw_lt hw0_.1 u12_ (fun _ _ _ => ⟨_, rfl⟩)) 184).trans u27_
      have fx29_ : s.heap.size ≤ xx29_ := Nat.le_trans hw0_.2.2.1 hs29_
      refine j_aload_n E 96 rfl dX9_wording_95 rfl (lv_at hl 1 rfl) ?_
      refine g_192 E hK hw fl_X9_55 u31_ 99 rfl dX9_wording_96 ?_
      have hw0_ := hw
      refine aV_n E (n_X3_copyOfCode l D cy κ T29_ (upV (upV (upV (upV (upV (upV (upV (upV (upV (upV (upV (upV (upV v_0 186 (upB (v_0 186) o 0)) 190 (upB (v_0 190) o 0)) 191 (upB (v_0 191) o ((-1)))) 80 y80_8) 81 y81_8) 83 y83_8) 84 y84_8) 86 y86_8) 123 y123_8) 124 y124_8) 300 y300_8) 160 (upB (v_0 160) q11_ 0)) 300 y300_29) (T29_ 192 o) H.size (300 * q11_ + 162) hO29_ (wt_192 hT29_ u31_)  (show 0 ≤ (y86_8 ((T29_ 192 o))) ∧ (y86_8 ((T29_ 192 o))) ≤ 400 from by rw [u42_]; omega)) mt_X3_copyOfCode ml_X9_158 hK hZ hAc hw (cw_rc4 hK hw.1 (wt_192 hT29_ u31_)) hA ⟨(Nat.le_of_ble_eq_true rfl), (Nat.le_of_ble_eq_true rfl)⟩ ⟨(Nat.le_of_ble_eq_true rfl), (Nat.le_of_ble_eq_true rfl)⟩ (As := []) (rest := [.ref xx29_, .int (J zz28_), .ref q11_, .ref q11_, .ref (T 182 o)]) rfl rfl hl.1 (Nat.le_of_ble_eq_true rfl) 102 rfl dX9_wording_99 (fun xx48_ T48_ v_48 H locs hge48_ ho48_ hq48_ hw => ?_)
      obtain ⟨y300_48, ev48_, hh48_⟩ := hq48_
      rw [ev48_] at hw; clear ev48_
      obtain ⟨hh48_, kf48_⟩ := hh48_
      have kd49_ : KdA_ T sz [85, 120, 121, 122] (v_0 300) (y300_48) := KdA_tr kd30_ (KdA_ka kf48_ (by have := hw0_.2.2.1; omega) (by decide) (C20_ hC_ t_o (by decide)))
      obtain ⟨hx48_, tq48_, tl48_, tw48_, hs48_, yc48_, yo48_⟩ := hh48_
      have cbtl_ := tl48_
      have cbyc_ := yc48_
      have cbyo_ := yo48_
      have cbhs_ := hs48_
      have cbkf_ := kf48_
      rw [u42_] at cbtl_ cbyc_
      rw [u44_] at cbyc_
      have f2_ : ∀ i_, y300_48 (pr xx29_ i_) = y300_29 (pr xx29_ i_) := fun i_ => cbkf_ xx29_ (cw_lt hw0_.1 tq29_ (fun _ _ _ => ⟨_, rfl⟩)) tq29_ (fun h_ => by cases h_) i_
      have hT48_ : WT T48_ := hw.1.2.1
      have hO48_ : ∀ x, ow T48_ x → κ 2 2 ≤ x := fun x h => hAc x (hw.2.1 x h)
      have hoT_ : OW T T48_ s.heap.size := OW.tr hw0_.2.2.1 hoT_ ho48_
      have hC_ : ∀ b, b < sz → T 0 b ≠ 10 → T 0 b ≠ 24 → T 0 b ≠ 26 → b ≠ o → ∀ j, j ≠ 197 → T48_ j b = T j b := fun b_ h1_ h2_ h3_ h4_ h5_ j_ h6_ => (hx48_ b_ (by have := hw0_.2.2.1; omega) j_).trans (hC_ b_ h1_ h2_ h3_ h4_ h5_ j_ h6_)
      have B180n_ : ∀ j_, j_ ≠ 197 → T48_ j_ (T 180 o) = T j_ (T 180 o) := fun j_ hj_ => (hx48_ (T 180 o) (cw_lt hw0_.1 ((B180_ 0 (by decide)).trans tl180_) (fun _ _ _ => ⟨_, rfl⟩)) j_).trans (B180_ j_ hj_)
      have A180n_ : ∀ j_, j_ ≠ 197 → T48_ j_ (T 201 (T 180 o)) = T j_ (T 201 (T 180 o)) := fun j_ hj_ => (hx48_ (T 201 (T 180 o)) (cw_ltq hw0_.1 (by rw [A180_ 0 (by decide)]; exact tx180_)) j_).trans (A180_ j_ hj_)
      have B181n_ : ∀ j_, j_ ≠ 197 → T48_ j_ (T 181 o) = T j_ (T 181 o) := fun j_ hj_ => (hx48_ (T 181 o) (cw_lt hw0_.1 ((B181_ 0 (by decide)).trans tl181_) (fun _ _ _ => ⟨_, rfl⟩)) j_).trans (B181_ j_ hj_)
      have A181n_ : ∀ j_, j_ ≠ 197 → T48_ j_ (T 201 (T 181 o)) = T j_ (T 201 (T 181 o)) := fun j_ hj_ => (hx48_ (T 201 (T 181 o)) (cw_ltq hw0_.1 (by rw [A181_ 0 (by decide)]; exact tx181_)) j_).trans (A181_ j_ hj_)
      have B182n_ : ∀ j_, j_ ≠ 197 → T48_ j_ (T 182 o) = T j_ (T 182 o) := fun j_ hj_ => (hx48_ (T 182 o) (cw_lt hw0_.1 ((B182_ 0 (by decide)).trans tl182_) (fun _ _ _ => ⟨_, rfl⟩)) j_).trans (B182_ j_ hj_)
      have A182n_ : ∀ j_, j_ ≠ 197 → T48_ j_ (T 201 (T 182 o)) = T j_ (T 201 (T 182 o)) := fun j_ hj_ => (hx48_ (T 201 (T 182 o)) (cw_ltq hw0_.1 (by rw [A182_ 0 (by decide)]; exact tx182_)) j_).trans (A182_ j_ hj_)
      have B183n_ : ∀ j_, j_ ≠ 197 → T48_ j_ (T 183 o) = T j_ (T 183 o) := fun j_ hj_ => (hx48_ (T 183 o) (cw_lt hw0_.1 ((B183_ 0 (by decide)).trans tl183_) (fun _ _ _ => ⟨_, rfl⟩)) j_).trans (B183_ j_ hj_)
      have A183n_ : ∀ j_, j_ ≠ 197 → T48_ j_ (T 201 (T 183 o)) = T j_ (T 201 (T 183 o)) := fun j_ hj_ => (hx48_ (T 201 (T 183 o)) (cw_ltq hw0_.1 (by rw [A183_ 0 (by decide)]; exact tx183_)) j_).trans (A183_ j_ hj_)
      have B180_ := B180n_
      have A180_ := A180n_
      have B181_ := B181n_
      have A181_ := A181n_
      have B182_ := B182n_
      have A182_ := A182n_
      have B183_ := B183n_
      have A183_ := A183n_
      have u50_ : T48_ 0 o = 9 := (hx48_ o (cw_lt hw0_.1 u31_ (fun _ _ _ => ⟨_, rfl⟩)) 0).trans u31_
      have u51_ : T48_ 0 (T 192 o) = 4 := (hx48_ (T 192 o) (cw_lt hw0_.1 u32_ (fun _ _ _ => ⟨_, rfl⟩)) 0).trans u32_
      have u52_ : T48_ 0 (T 82 (T 192 o)) = 6 := (hx48_ (T 82 (T 192 o)) (cw_lt hw0_.1 u33_ (fun _ _ _ => ⟨_, rfl⟩)) 0).trans u33_
      have u53_ : T48_ 0 (T 182 o) = 10 := (hx48_ (T 182 o) (cw_lt hw0_.1 u34_ (fun _ _ _ => ⟨_, rfl⟩)) 0).trans u34_
      have u54_ : T48_ 0 q11_ = 108 := (hx48_ q11_ (cw_lt hw0_.1 u35_ (fun _ _ _ => ⟨_, rfl⟩)) 0).trans u35_
      have u55_ : T48_ 0 xx29_ = 20 := (hx48_ xx29_ (cw_lt hw0_.1 tq29_ (fun _ _ _ => ⟨_, rfl⟩)) 0).trans tq29_
      have u56_ : T48_ 1 xx29_ = ((y123_8) (T 82 (T 192 o))).toNat := (hx48_ xx29_ (cw_lt hw0_.1 tq29_ (fun _ _ _ => ⟨_, rfl⟩)) 1).trans tatl_
      have u57_ : T48_ 3 xx29_ = 300 * q11_ + 161 := (hx48_ xx29_ (cw_lt hw0_.1 tq29_ (fun _ _ _ => ⟨_, rfl⟩)) 3).trans tw29_
      have u58_ : T48_ 2 (T 182 o) = 8 := (hx48_ (T 182 o) (cw_lt hw0_.1 u34_ (fun _ _ _ => ⟨_, rfl⟩)) 2).trans u36_
      have u59_ : T48_ 180 o = T 180 o := (hx48_ o (cw_lt hw0_.1 u31_ (fun _ _ _ => ⟨_, rfl⟩)) 180).trans u37_
      have u60_ : T48_ 181 o = T 181 o := (hx48_ o (cw_lt hw0_.1 u31_ (fun _ _ _ => ⟨_, rfl⟩)) 181).trans u38_
      have u61_ : T48_ 182 o = T 182 o := (hx48_ o (cw_lt hw0_.1 u31_ (fun _ _ _ => ⟨_, rfl⟩)) 182).trans u39_
      have u62_ : T48_ 183 o = T 183 o := (hx48_ o (cw_lt hw0_.1 u31_ (fun _ _ _ => ⟨_, rfl⟩)) 183).trans u40_
      have u63_ : T48_ 185 o = T 185 o := (hx48_ o (cw_lt hw0_.1 u31_ (fun _ _ _ => ⟨_, rfl⟩)) 185).trans u41_
      have u64_ : T48_ 192 o = T 192 o := (hx48_ o (cw_lt hw0_.1 u31_ (fun _ _ _ => ⟨_, rfl⟩)) 192).trans u42_
      have u65_ : T48_ 82 (T 192 o) = T 82 (T 192 o) := (hx48_ (T 192 o) (cw_lt hw0_.1 u32_ (fun _ _ _ => ⟨_, rfl⟩)) 82).trans u43_
      have u66_ : T48_ 85 (T 192 o) = T 85 (T 192 o) := (hx48_ (T 192 o) (cw_lt hw0_.1 u32_ (fun _ _ _ => ⟨_, rfl⟩)) 85).trans u44_
      have u67_ : T48_ 120 (T 82 (T 192 o)) = T 120 (T 82 (T 192 o)) := (hx48_ (T 82 (T 192 o)) (cw_lt hw0_.1 u33_ (fun _ _ _ => ⟨_, rfl⟩)) 120).trans u45_
      have u68_ : T48_ 121 (T 82 (T 192 o)) = T 121 (T 82 (T 192 o)) := (hx48_ (T 82 (T 192 o)) (cw_lt hw0_.1 u33_ (fun _ _ _ => ⟨_, rfl⟩)) 121).trans u46_
      have u69_ : T48_ 184 o = T 184 o := (hx48_ o (cw_lt hw0_.1 u31_ (fun _ _ _ => ⟨_, rfl⟩)) 184).trans u47_
      have fx48_ : s.heap.size ≤ xx48_ := Nat.le_trans hw0_.2.2.1 hs48_
      have hw0_ := hw
      refine aI_v E (n_X7_init l D cy κ T48_ (upV (upV (upV (upV (upV (upV (upV (upV (upV (upV (upV (upV (upV (upV v_0 186 (upB (v_0 186) o 0)) 190 (upB (v_0 190) o 0)) 191 (upB (v_0 191) o ((-1)))) 80 y80_8) 81 y81_8) 83 y83_8) 84 y84_8) 86 y86_8) 123 y123_8) 124 y124_8) 300 y300_8) 160 (upB (v_0 160) q11_ 0)) 300 y300_29) 300 y300_48) q11_ zz28_ xx29_ xx48_ H.size  hO48_ u54_ rr28_ u55_ tq48_ (show 0 ≤ zz28_ ∧ zz28_ ≤ 40 from by omega) u57_ tw48_) mi_X7_init ml_X9_161 hK hZ hAc hw hA ⟨(Nat.le_of_ble_eq_true rfl), (Nat.le_of_ble_eq_true rfl)⟩ ⟨(Nat.le_of_ble_eq_true rfl), (Nat.le_of_ble_eq_true rfl)⟩ (As := [.int (J zz28_), .ref xx29_, .ref xx48_]) (rest := [.ref q11_, .ref (T 182 o)]) rfl rfl hl.1 (Nat.le_of_ble_eq_true rfl) 105 rfl dX9_wording_102 (fun T70_ v_70 H locs hge70_ ho70_ hq70_ hw => ?_)
      obtain ⟨y160_70, y300_70, ev70_, hh70_⟩ := hq70_
      rw [ev70_] at hw; clear ev70_
      obtain ⟨hh70_, kf70_⟩ := hh70_
      have kd71_ : KdA_ T sz [85, 120, 121, 122] (v_0 300) (y300_70) := KdA_tr kd49_ (KdA_ka kf70_ (by have := hw0_.2.2.1; omega) (by decide) (C20_ hC_ t_o (by decide)))
      have f3_ : ∀ i_, y300_70 (pr xx29_ i_) = y300_48 (pr xx29_ i_) := fun i_ => kf70_ xx29_ (cw_lt hw0_.1 u55_ (fun _ _ _ => ⟨_, rfl⟩)) u55_ (fun h_ => by cases h_) i_
      have f4_ : ∀ i_, y300_70 (pr xx48_ i_) = y300_48 (pr xx48_ i_) := fun i_ => kf70_ xx48_ (cw_lt hw0_.1 tq48_ (fun _ _ _ => ⟨_, rfl⟩)) tq48_ (fun h_ => by cases h_) i_
      obtain ⟨hx70_, tq70_, wt70_, wc70_, wl70_, wd70_, wn70_⟩ := hh70_
      have hT70_ : WT T70_ := hw.1.2.1
      have hO70_ : ∀ x, ow T70_ x → κ 2 2 ≤ x := fun x h => hAc x (hw.2.1 x h)
      have hoT_ : OW T T70_ s.heap.size := OW.tr hw0_.2.2.1 hoT_ ho70_
      have hC_ : ∀ b, b < sz → T 0 b ≠ 10 → T 0 b ≠ 24 → T 0 b ≠ 26 → b ≠ o → ∀ j, j ≠ 197 → T70_ j b = T j b := fun b_ h1_ h2_ h3_ h4_ h5_ j_ h6_ => (hx70_ b_ (by have := hw0_.2.2.1; omega) (by have := fq11_; omega) j_).trans (hC_ b_ h1_ h2_ h3_ h4_ h5_ j_ h6_)
      have B180n_ : ∀ j_, j_ ≠ 197 → T70_ j_ (T 180 o) = T j_ (T 180 o) := fun j_ hj_ => (hx70_ (T 180 o) (cw_lt hw0_.1 ((B180_ 0 (by decide)).trans tl180_) (fun _ _ _ => ⟨_, rfl⟩)) (ty_ne ((B180_ 0 (by decide)).trans tl180_) u54_ (by decide)) j_).trans (B180_ j_ hj_)
      have A180n_ : ∀ j_, j_ ≠ 197 → T70_ j_ (T 201 (T 180 o)) = T j_ (T 201 (T 180 o)) := fun j_ hj_ => (hx70_ (T 201 (T 180 o)) (cw_ltq hw0_.1 (by rw [A180_ 0 (by decide)]; exact tx180_)) (ty_neq (by rw [A180_ 0 (by decide)]; exact tx180_) u54_ (by decide) (by decide)) j_).trans (A180_ j_ hj_)
      have B181n_ : ∀ j_, j_ ≠ 197 → T70_ j_ (T 181 o) = T j_ (T 181 o) := fun j_ hj_ => (hx70_ (T 181 o) (cw_lt hw0_.1 ((B181_ 0 (by decide)).trans tl181_) (fun _ _ _ => ⟨_, rfl⟩)) (ty_ne ((B181_ 0 (by decide)).trans tl181_) u54_ (by decide)) j_).trans (B181_ j_ hj_)
      have A181n_ : ∀ j_, j_ ≠ 197 → T70_ j_ (T 201 (T 181 o)) = T j_ (T 201 (T 181 o)) := fun j_ hj_ => (hx70_ (T 201 (T 181 o)) (cw_ltq hw0_.1 (by rw [A181_ 0 (by decide)]; exact tx181_)) (ty_neq (by rw [A181_ 0 (by decide)]; exact tx181_) u54_ (by decide) (by decide)) j_).trans (A181_ j_ hj_)
      have B182n_ : ∀ j_, j_ ≠ 197 → T70_ j_ (T 182 o) = T j_ (T 182 o) := fun j_ hj_ => (hx70_ (T 182 o) (cw_lt hw0_.1 ((B182_ 0 (by decide)).trans tl182_) (fun _ _ _ => ⟨_, rfl⟩)) (ty_ne ((B182_ 0 (by decide)).trans tl182_) u54_ (by decide)) j_).trans (B182_ j_ hj_)
      have A182n_ : ∀ j_, j_ ≠ 197 → T70_ j_ (T 201 (T 182 o)) = T j_ (T 201 (T 182 o)) := fun j_ hj_ => (hx70_ (T 201 (T 182 o)) (cw_ltq hw0_.1 (by rw [A182_ 0 (by decide)]; exact tx182_)) (ty_neq (by rw [A182_ 0 (by decide)]; exact tx182_) u54_ (by decide) (by decide)) j_).trans (A182_ j_ hj_)
      have B183n_ : ∀ j_, j_ ≠ 197 → T70_ j_ (T 183 o) = T j_ (T 183 o) := fun j_ hj_ => (hx70_ (T 183 o) (cw_lt hw0_.1 ((B183_ 0 (by decide)).trans tl183_) (fun _ _ _ => ⟨_, rfl⟩)) (ty_ne ((B183_ 0 (by decide)).trans tl183_) u54_ (by decide)) j_).trans (B183_ j_ hj_)
      have A183n_ : ∀ j_, j_ ≠ 197 → T70_ j_ (T 201 (T 183 o)) = T j_ (T 201 (T 183 o)) := fun j_ hj_ => (hx70_ (T 201 (T 183 o)) (cw_ltq hw0_.1 (by rw [A183_ 0 (by decide)]; exact tx183_)) (ty_neq (by rw [A183_ 0 (by decide)]; exact tx183_) u54_ (by decide) (by decide)) j_).trans (A183_ j_ hj_)
      have B180_ := B180n_
      have A180_ := A180n_
      have B181_ := B181n_
      have A181_ := A181n_
      have B182_ := B182n_
      have A182_ := A182n_
      have B183_ := B183n_
      have A183_ := A183n_
      have u72_ : T70_ 0 o = 9 := (hx70_ o (cw_lt hw0_.1 u50_ (fun _ _ _ => ⟨_, rfl⟩)) (ty_ne u50_ u54_ (by decide)) 0).trans u50_
      have u73_ : T70_ 0 (T 192 o) = 4 := (hx70_ (T 192 o) (cw_lt hw0_.1 u51_ (fun _ _ _ => ⟨_, rfl⟩)) (ty_ne u51_ u54_ (by decide)) 0).trans u51_
      have u74_ : T70_ 0 (T 82 (T 192 o)) = 6 := (hx70_ (T 82 (T 192 o)) (cw_lt hw0_.1 u52_ (fun _ _ _ => ⟨_, rfl⟩)) (ty_ne u52_ u54_ (by decide)) 0).trans u52_
      have u75_ : T70_ 0 (T 182 o) = 10 := (hx70_ (T 182 o) (cw_lt hw0_.1 u53_ (fun _ _ _ => ⟨_, rfl⟩)) (ty_ne u53_ u54_ (by decide)) 0).trans u53_
      have u76_ : T70_ 2 (T 182 o) = 8 := (hx70_ (T 182 o) (cw_lt hw0_.1 u53_ (fun _ _ _ => ⟨_, rfl⟩)) (ty_ne u53_ u54_ (by decide)) 2).trans u58_
      have u77_ : T70_ 180 o = T 180 o := (hx70_ o (cw_lt hw0_.1 u50_ (fun _ _ _ => ⟨_, rfl⟩)) (ty_ne u50_ u54_ (by decide)) 180).trans u59_
      have u78_ : T70_ 181 o = T 181 o := (hx70_ o (cw_lt hw0_.1 u50_ (fun _ _ _ => ⟨_, rfl⟩)) (ty_ne u50_ u54_ (by decide)) 181).trans u60_
      have u79_ : T70_ 182 o = T 182 o := (hx70_ o (cw_lt hw0_.1 u50_ (fun _ _ _ => ⟨_, rfl⟩)) (ty_ne u50_ u54_ (by decide)) 182).trans u61_
      have u80_ : T70_ 183 o = T 183 o := (hx70_ o (cw_lt hw0_.1 u50_ (fun _ _ _ => ⟨_, rfl⟩)) (ty_ne u50_ u54_ (by decide)) 183).trans u62_
      have u81_ : T70_ 185 o = T 185 o := (hx70_ o (cw_lt hw0_.1 u50_ (fun _ _ _ => ⟨_, rfl⟩)) (ty_ne u50_ u54_ (by decide)) 185).trans u63_
      have u82_ : T70_ 192 o = T 192 o := (hx70_ o (cw_lt hw0_.1 u50_ (fun _ _ _ => ⟨_, rfl⟩)) (ty_ne u50_ u54_ (by decide)) 192).trans u64_
      have u83_ : T70_ 82 (T 192 o) = T 82 (T 192 o) := (hx70_ (T 192 o) (cw_lt hw0_.1 u51_ (fun _ _ _ => ⟨_, rfl⟩)) (ty_ne u51_ u54_ (by decide)) 82).trans u65_
      have u84_ : T70_ 85 (T 192 o) = T 85 (T 192 o) := (hx70_ (T 192 o) (cw_lt hw0_.1 u51_ (fun _ _ _ => ⟨_, rfl⟩)) (ty_ne u51_ u54_ (by decide)) 85).trans u66_
      have u85_ : T70_ 120 (T 82 (T 192 o)) = T 120 (T 82 (T 192 o)) := (hx70_ (T 82 (T 192 o)) (cw_lt hw0_.1 u52_ (fun _ _ _ => ⟨_, rfl⟩)) (ty_ne u52_ u54_ (by decide)) 120).trans u67_
      have u86_ : T70_ 121 (T 82 (T 192 o)) = T 121 (T 82 (T 192 o)) := (hx70_ (T 82 (T 192 o)) (cw_lt hw0_.1 u52_ (fun _ _ _ => ⟨_, rfl⟩)) (ty_ne u52_ u54_ (by decide)) 121).trans u68_
      have u87_ : T70_ 184 o = T 184 o := (hx70_ o (cw_lt hw0_.1 u50_ (fun _ _ _ => ⟨_, rfl⟩)) (ty_ne u50_ u54_ (by decide)) 184).trans u69_
      have hw160_ : y160_70 = upB (upB (v_0 160) q11_ 0) q11_ zz28_ := wn70_
      have wq0_ : Wq_ T70_ (y300_70) (y160_70) q11_ zz28_ jn_ K_ V_ a1_ a2_ a3_ := wq_mk ll_ rk_ cj_ tayc_ cbyc_ f1_ f2_ f3_ f4_ ((hx70_ xx29_ (cw_lt hw0_.1 u55_ (fun _ _ _ => ⟨_, rfl⟩)) (ty_ne u55_ u54_ (by decide)) 1).trans u56_) ((hx70_ xx48_ (cw_lt hw0_.1 tq48_ (fun _ _ _ => ⟨_, rfl⟩)) (ty_ne tq48_ u54_ (by decide)) 1).trans cbtl_) (by omega) (by omega) wt70_ wc70_ wl70_ (by omega) wd70_ (by rw [hw160_]; exact upB_same _ _ _)
      have tw0_ := tq70_
      have hw0_ := hw
      refine aV_i E (n_Jx4a65c_add_9ea2d_n2 l D cy κ T70_ (upV (upV (upV (upV (upV (upV (upV (upV (upV (upV (upV (upV (upV (upV (upV (upV v_0 186 (upB (v_0 186) o 0)) 190 (upB (v_0 190) o 0)) 191 (upB (v_0 191) o ((-1)))) 80 y80_8) 81 y81_8) 83 y83_8) 84 y84_8) 86 y86_8) 123 y123_8) 124 y124_8) 300 y300_8) 160 (upB (v_0 160) q11_ 0)) 300 y300_29) 300 y300_48) 160 y160_70) 300 y300_70) (T 182 o) q11_ H.size  hO70_ u75_  (tq70_.trans u76_.symm) (fun x_ h_ => hp0 x_ ((hoT_ x_).2 h_)) (show ((v_0 202) ((T 182 o))) ≤ 200 from by omega)) mt_Jx4a65c_add_9ea2d ml_X9_89 hK hZ hAc hw (cw_rc10 hK hw.1 u75_) hA ⟨(Nat.le_of_ble_eq_true rfl), (Nat.le_of_ble_eq_true rfl)⟩ ⟨(Nat.le_of_ble_eq_true rfl), (Nat.le_of_ble_eq_true rfl)⟩ (As := [.ref q11_]) (rest := []) rfl rfl hl.1 (Nat.le_of_ble_eq_true rfl) 108 rfl dX9_wording_105 (fun zz88_ T88_ v_88 H locs rr88_ hge88_ ho88_ hq88_ hw => ?_)
      obtain ⟨y200_88, y202_88, ev88_, hh88_⟩ := hq88_
      rw [ev88_] at hw; clear ev88_
      obtain ⟨hy88_, hx88_, hz88_, hl88_, hel88_, hnw88_⟩ := hh88_
      have hy88_ : y202_88 = upB (v_0 202) (T 182 o) ((v_0 202) (T 182 o) + 1) := hy88_
      have hT88_ : WT T88_ := hw.1.2.1
      have hO88_ : ∀ x, ow T88_ x → κ 2 2 ≤ x := fun x h => hAc x (hw.2.1 x h)
      have hoT_ : OW T T88_ s.heap.size := OW.tr hw0_.2.2.1 hoT_ ho88_
      have hC_ : ∀ b, b < sz → T 0 b ≠ 10 → T 0 b ≠ 24 → T 0 b ≠ 26 → b ≠ o → ∀ j, j ≠ 197 → T88_ j b = T j b := fun b_ h1_ h2_ h3_ h4_ h5_ j_ h6_ => (hx88_ b_ (by have := hw0_.2.2.1; omega) (fun e_ => h2_ ((hC_ b_ h1_ h2_ h3_ h4_ h5_ 0 (by decide)).symm.trans (by rw [e_]; exact u75_))) (fun h_ => absurd ((hC_ b_ h1_ h2_ h3_ h4_ h5_ 0 (by decide)).symm.trans h_) h3_) j_).trans (hC_ b_ h1_ h2_ h3_ h4_ h5_ j_ h6_)
      have B180n_ : ∀ j_, j_ ≠ 197 → T88_ j_ (T 180 o) = T j_ (T 180 o) := fun j_ hj_ => (hx88_ (T 180 o) (cw_lt hw0_.1 ((B180_ 0 (by decide)).trans tl180_) (fun _ _ _ => ⟨_, rfl⟩)) ((ls_ne hT t_o).2.1) (fun h_ => absurd (((B180_ 0 (by decide)).trans tl180_).symm.trans h_) (by decide)) j_).trans (B180_ j_ hj_)
      have A180n_ : ∀ j_, j_ ≠ 197 → T88_ j_ (T 201 (T 180 o)) = T j_ (T 201 (T 180 o)) := fun j_ hj_ => (hx88_ (T 201 (T 180 o)) (cw_ltq hw0_.1 (by rw [A180_ 0 (by decide)]; exact tx180_)) (ty_neq (by rw [A180_ 0 (by decide)]; exact tx180_) u75_ (by decide) (by decide)) (fun h_ => by rw [B182_ 201 (by decide)]; exact own_ne hT tl180_ tl182_ ((ls_ne hT t_o).2.1) ((A180_ 0 (by decide)).symm.trans h_)) j_).trans (A180_ j_ hj_)
      have B181n_ : ∀ j_, j_ ≠ 197 → T88_ j_ (T 181 o) = T j_ (T 181 o) := fun j_ hj_ => (hx88_ (T 181 o) (cw_lt hw0_.1 ((B181_ 0 (by decide)).trans tl181_) (fun _ _ _ => ⟨_, rfl⟩)) ((ls_ne hT t_o).2.2.2.2.1) (fun h_ => absurd (((B181_ 0 (by decide)).trans tl181_).symm.trans h_) (by decide)) j_).trans (B181_ j_ hj_)
      have A181n_ : ∀ j_, j_ ≠ 197 → T88_ j_ (T 201 (T 181 o)) = T j_ (T 201 (T 181 o)) := fun j_ hj_ => (hx88_ (T 201 (T 181 o)) (cw_ltq hw0_.1 (by rw [A181_ 0 (by decide)]; exact tx181_)) (ty_neq (by rw [A181_ 0 (by decide)]; exact tx181_) u75_ (by decide) (by decide)) (fun h_ => by rw [B182_ 201 (by decide)]; exact own_ne hT tl181_ tl182_ ((ls_ne hT t_o).2.2.2.2.1) ((A181_ 0 (by decide)).symm.trans h_)) j_).trans (A181_ j_ hj_)
      have B183n_ : ∀ j_, j_ ≠ 197 → T88_ j_ (T 183 o) = T j_ (T 183 o) := fun j_ hj_ => (hx88_ (T 183 o) (cw_lt hw0_.1 ((B183_ 0 (by decide)).trans tl183_) (fun _ _ _ => ⟨_, rfl⟩)) ((ls_ne hT t_o).2.2.2.2.2.2.2.2.2.2.2) (fun h_ => absurd (((B183_ 0 (by decide)).trans tl183_).symm.trans h_) (by decide)) j_).trans (B183_ j_ hj_)
      have A183n_ : ∀ j_, j_ ≠ 197 → T88_ j_ (T 201 (T 183 o)) = T j_ (T 201 (T 183 o)) := fun j_ hj_ => (hx88_ (T 201 (T 183 o)) (cw_ltq hw0_.1 (by rw [A183_ 0 (by decide)]; exact tx183_)) (ty_neq (by rw [A183_ 0 (by decide)]; exact tx183_) u75_ (by decide) (by decide)) (fun h_ => by rw [B182_ 201 (by decide)]; exact own_ne hT tl183_ tl182_ ((ls_ne hT t_o).2.2.2.2.2.2.2.2.2.2.2) ((A183_ 0 (by decide)).symm.trans h_)) j_).trans (A183_ j_ hj_)
      have B180_ := B180n_
      have A180_ := A180n_
      have B181_ := B181n_
      have A181_ := A181n_
      have B183_ := B183n_
      have A183_ := A183n_
      have u89_ : T88_ 0 o = 9 := (hx88_ o (cw_lt hw0_.1 u72_ (fun _ _ _ => ⟨_, rfl⟩)) (ty_ne u72_ u75_ (by decide)) (fun h_ => absurd (u72_.symm.trans h_) (by decide)) 0).trans u72_
      have u90_ : T88_ 0 (T 192 o) = 4 := (hx88_ (T 192 o) (cw_lt hw0_.1 u73_ (fun _ _ _ => ⟨_, rfl⟩)) (ty_ne u73_ u75_ (by decide)) (fun h_ => absurd (u73_.symm.trans h_) (by decide)) 0).trans u73_
      have u91_ : T88_ 0 (T 82 (T 192 o)) = 6 := (hx88_ (T 82 (T 192 o)) (cw_lt hw0_.1 u74_ (fun _ _ _ => ⟨_, rfl⟩)) (ty_ne u74_ u75_ (by decide)) (fun h_ => absurd (u74_.symm.trans h_) (by decide)) 0).trans u74_
      have u92_ : T88_ 180 o = T 180 o := (hx88_ o (cw_lt hw0_.1 u72_ (fun _ _ _ => ⟨_, rfl⟩)) (ty_ne u72_ u75_ (by decide)) (fun h_ => absurd (u72_.symm.trans h_) (by decide)) 180).trans u77_
      have u93_ : T88_ 181 o = T 181 o := (hx88_ o (cw_lt hw0_.1 u72_ (fun _ _ _ => ⟨_, rfl⟩)) (ty_ne u72_ u75_ (by decide)) (fun h_ => absurd (u72_.symm.trans h_) (by decide)) 181).trans u78_
      have u94_ : T88_ 182 o = T 182 o := (hx88_ o (cw_lt hw0_.1 u72_ (fun _ _ _ => ⟨_, rfl⟩)) (ty_ne u72_ u75_ (by decide)) (fun h_ => absurd (u72_.symm.trans h_) (by decide)) 182).trans u79_
      have u95_ : T88_ 183 o = T 183 o := (hx88_ o (cw_lt hw0_.1 u72_ (fun _ _ _ => ⟨_, rfl⟩)) (ty_ne u72_ u75_ (by decide)) (fun h_ => absurd (u72_.symm.trans h_) (by decide)) 183).trans u80_
      have u96_ : T88_ 185 o = T 185 o := (hx88_ o (cw_lt hw0_.1 u72_ (fun _ _ _ => ⟨_, rfl⟩)) (ty_ne u72_ u75_ (by decide)) (fun h_ => absurd (u72_.symm.trans h_) (by decide)) 185).trans u81_
      have u97_ : T88_ 192 o = T 192 o := (hx88_ o (cw_lt hw0_.1 u72_ (fun _ _ _ => ⟨_, rfl⟩)) (ty_ne u72_ u75_ (by decide)) (fun h_ => absurd (u72_.symm.trans h_) (by decide)) 192).trans u82_
      have u98_ : T88_ 82 (T 192 o) = T 82 (T 192 o) := (hx88_ (T 192 o) (cw_lt hw0_.1 u73_ (fun _ _ _ => ⟨_, rfl⟩)) (ty_ne u73_ u75_ (by decide)) (fun h_ => absurd (u73_.symm.trans h_) (by decide)) 82).trans u83_
      have u99_ : T88_ 85 (T 192 o) = T 85 (T 192 o) := (hx88_ (T 192 o) (cw_lt hw0_.1 u73_ (fun _ _ _ => ⟨_, rfl⟩)) (ty_ne u73_ u75_ (by decide)) (fun h_ => absurd (u73_.symm.trans h_) (by decide)) 85).trans u84_
      have u100_ : T88_ 120 (T 82 (T 192 o)) = T 120 (T 82 (T 192 o)) := (hx88_ (T 82 (T 192 o)) (cw_lt hw0_.1 u74_ (fun _ _ _ => ⟨_, rfl⟩)) (ty_ne u74_ u75_ (by decide)) (fun h_ => absurd (u74_.symm.trans h_) (by decide)) 120).trans u85_
      have u101_ : T88_ 121 (T 82 (T 192 o)) = T 121 (T 82 (T 192 o)) := (hx88_ (T 82 (T 192 o)) (cw_lt hw0_.1 u74_ (fun _ _ _ => ⟨_, rfl⟩)) (ty_ne u74_ u75_ (by decide)) (fun h_ => absurd (u74_.symm.trans h_) (by decide)) 121).trans u86_
      have u102_ : T88_ 184 o = T 184 o := (hx88_ o (cw_lt hw0_.1 u72_ (fun _ _ _ => ⟨_, rfl⟩)) (ty_ne u72_ u75_ (by decide)) (fun h_ => absurd (u72_.symm.trans h_) (by decide)) 184).trans u87_
      have tz161_ : T70_ 0 (T70_ 161 q11_) = 20 := wt_161 hT70_ tw0_
      have tz162_ : T70_ 0 (T70_ 162 q11_) = 20 := wt_162 hT70_ tw0_
      have tz163_ : T70_ 0 (T70_ 163 q11_) = 20 := wt_163 hT70_ tw0_
      have wq_ : Wq_ T88_ (y300_70) (y160_70) q11_ (v_0 202 (T 182 o)) jn_ K_ V_ a1_ a2_ a3_ := by rw [← hzn_]; exact Wq_mv wq0_ (hx88_ q11_ (cw_lt hw0_.1 tw0_ (fun _ _ _ => ⟨_, rfl⟩)) (ty_ne tw0_ u75_ (by decide)) (fun h_ => absurd (tw0_.symm.trans h_) (by decide))) ((hx88_ (T70_ 161 q11_) (cw_lt hw0_.1 tz161_ (fun _ _ _ => ⟨_, rfl⟩)) (ty_ne tz161_ u75_ (by decide)) (fun h_ => absurd (tz161_.symm.trans h_) (by decide))) 1) ((hx88_ (T70_ 162 q11_) (cw_lt hw0_.1 tz162_ (fun _ _ _ => ⟨_, rfl⟩)) (ty_ne tz162_ u75_ (by decide)) (fun h_ => absurd (tz162_.symm.trans h_) (by decide))) 1) ((hx88_ (T70_ 163 q11_) (cw_lt hw0_.1 tz163_ (fun _ _ _ => ⟨_, rfl⟩)) (ty_ne tz163_ u75_ (by decide)) (fun h_ => absurd (tz163_.symm.trans h_) (by decide))) 1) rfl
      have tw_ : T88_ 0 q11_ = 8 := (hx88_ q11_ (cw_lt hw0_.1 tw0_ (fun _ _ _ => ⟨_, rfl⟩)) (ty_ne tw0_ u75_ (by decide)) (fun h_ => absurd (tw0_.symm.trans h_) (by decide))) 0 |>.trans tw0_
      refine j_pop E 109 rfl dX9_wording_108 rfl ?_
      refine j_aload_n E 110 rfl dX9_wording_109 rfl (lv_at hl 1 rfl) ?_
      refine g_182 E hK hw fl_X9_19 u89_ 113 rfl dX9_wording_110 ?_
      refine kV_i E (c_Jx4a65c_size_8abf5 l D cy T88_ (upV (upV (upV (upV (upV (upV (upV (upV (upV (upV (upV (upV (upV (upV (upV (upV (upV (upV v_0 186 (upB (v_0 186) o 0)) 190 (upB (v_0 190) o 0)) 191 (upB (v_0 191) o ((-1)))) 80 y80_8) 81 y81_8) 83 y83_8) 84 y84_8) 86 y86_8) 123 y123_8) 124 y124_8) 300 y300_8) 160 (upB (v_0 160) q11_ 0)) 300 y300_29) 300 y300_48) 160 y160_70) 300 y300_70) 200 y200_88) 202 y202_88) (T88_ 182 o)  (wt_182 hT88_ u89_)  ) mt_Jx4a65c_size_8abf5 ml_X9_80 hK hw (cw_rc10 hK hw.1 (wt_182 hT88_ u89_)) hA ⟨Nat.le_of_ble_eq_true rfl, Nat.le_of_ble_eq_true rfl⟩ ⟨Nat.le_of_ble_eq_true rfl, Nat.le_of_ble_eq_true rfl⟩ (As := []) (rest := []) rfl rfl hl.1 (Nat.le_of_ble_eq_true rfl) 116 rfl dX9_wording_113 (fun zz103_ v_103 H locs rr103_ hq103_ hw => ?_)
      obtain ⟨ev103_, hh103_⟩ := hq103_
      rw [ev103_] at hw; clear ev103_
      replace hh103_ : zz103_ = (y202_88 ((T88_ 182 o))) ∧ 0 ≤ zz103_ := hh103_
      have hs2_ := hh103_.1
      rw [u94_, hy88_, upB_same] at hs2_
      refine j_iconst E 117 rfl dX9_wording_116 ?_
      refine j_isub E 118 rfl dX9_wording_117 ?_
      exact hret 118 (zz103_ - 1) T88_ _ _ _ ls _ _ hw hoT_ (rr (by omega)) (⟨⟨u89_, ⟨u92_, u93_, u94_, u95_, u96_⟩, upB_same _ _ _, rfl, rfl, (by show y202_88 (T 180 o) = v_0 202 (T 180 o); rw [hy88_]; exact upB_ne ((ls_ne hT t_o).2.1)), (by show y202_88 (T 181 o) = v_0 202 (T 181 o); rw [hy88_]; exact upB_ne ((ls_ne hT t_o).2.2.2.2.1)), (by show y202_88 (T 183 o) = v_0 202 (T 183 o); rw [hy88_]; exact upB_ne ((ls_ne hT t_o).2.2.2.2.2.2.2.2.2.2.2)), hC_, (fun i_ => by rw [u92_, B180_ 201 (by decide), A180_ (1000 + i_) (by omega)]), (fun i_ => by rw [u93_, B181_ 201 (by decide), A181_ (1000 + i_) (by omega)]), (fun i_ => by rw [u95_, B183_ 201 (by decide), A183_ (1000 + i_) (by omega)]), rfl, rfl, rfl, rfl, rfl, rfl, rfl, rfl, rfl, rfl, rfl, rfl, rfl, rfl, rfl, rfl, rfl, rfl, rfl, rfl, rfl, rfl, rfl, u102_, show Wc_ _ _ _ _ _ _ _ _ _ from Or.inr ⟨by omega, K_, V_, P_, Q_, sm_, Or.inl ⟨by omega, (by show y202_88 (T 182 o) = v_0 202 (T 182 o) + 1; rw [hy88_]; exact upB_same _ _ _), upB_same _ _ _, upB_same _ _ _, jn_, a1_, a2_, a3_, j0_, ra_, q11_, fz_, fun i_ h_ => by rw [u94_]; exact (hel88_ i_ h_).trans (by rw [B182_ 201 (by decide), A182_ (1000 + i_) (by omega)]), by rw [u94_]; exact hnw88_, tw_, fun y_ h_ => (by show y160_70 y_ = v_0 160 y_; rw [hw160_]; exact (upB_ne h_).trans (upB_ne h_)), wq_⟩⟩⟩, kd71_⟩) (Nat.le_of_ble_eq_true rfl) (Nat.le_of_ble_eq_true rfl) dX9_wording_118
    · rcases rd_ with ⟨q1_, q2_⟩ | ⟨q1_, fk_, jn_, pl_, rf_⟩
      · exact absurd q1_ (by omega)
      refine j_aload_n E 50 rfl dX9_wording_49 rfl (lv_at hl 1 rfl) ?_
      refine j_aload_n E 51 rfl dX9_wording_50 rfl (lv_at hl 1 rfl) ?_
      refine g_192 E hK hw fl_X9_55 t_o 54 rfl dX9_wording_51 ?_
      refine g_80 E hK hw fl_X9_150 (wt_192 hT t_o) (y80_8 (T 192 o)) rfl 57 rfl dX9_wording_54 (fun rr104_ => ?_)
      refine p_190 E hK hw fl_X9_46 t_o rr104_ 60 rfl dX9_wording_57 (fun H locs hw => ?_)
      have hw : WK D cy T (upV (upV (upV (upV (upV (upV (upV (upV (upV (upV (upV (upV v_0 186 (upB (v_0 186) o 0)) 190 (upB (v_0 190) o 0)) 191 (upB (v_0 191) o ((-1)))) 80 y80_8) 81 y81_8) 83 y83_8) 84 y84_8) 86 y86_8) 123 y123_8) 124 y124_8) 300 y300_8) 190 (upB (upB (v_0 190) o 0) o (y80_8 (T 192 o)))) A0 s.heap H locs := hw
      refine j_aload_n E 61 rfl dX9_wording_60 rfl (lv_at hl 1 rfl) ?_
      refine j_aload_n E 62 rfl dX9_wording_61 rfl (lv_at hl 1 rfl) ?_
      refine g_192 E hK hw fl_X9_55 t_o 65 rfl dX9_wording_62 ?_
      refine g_81 E hK hw fl_X9_151 (wt_192 hT t_o) (y81_8 (T 192 o)) rfl 68 rfl dX9_wording_65 (fun rr106_ => ?_)
      refine p_191 E hK hw fl_X9_49 t_o rr106_ 71 rfl dX9_wording_68 (fun H locs hw => ?_)
      have hw : WK D cy T (upV (upV (upV (upV (upV (upV (upV (upV (upV (upV (upV (upV (upV v_0 186 (upB (v_0 186) o 0)) 190 (upB (v_0 190) o 0)) 191 (upB (v_0 191) o ((-1)))) 80 y80_8) 81 y81_8) 83 y83_8) 84 y84_8) 86 y86_8) 123 y123_8) 124 y124_8) 300 y300_8) 190 (upB (upB (v_0 190) o 0) o (y80_8 (T 192 o)))) 191 (upB (upB (v_0 191) o ((-1))) o (y81_8 (T 192 o)))) A0 s.heap H locs := hw
      refine j_iconst E 72 rfl dX9_wording_71 ?_
      exact hret 72 ((-1)) T _ _ _ ls _ _ hw hoT_ (rr (by decide)) (⟨⟨t_o, ⟨rfl, rfl, rfl, rfl, rfl⟩, upB_same _ _ _, rfl, rfl, rfl, rfl, rfl, hC_, (fun _ => rfl), (fun _ => rfl), (fun _ => rfl), rfl, rfl, rfl, rfl, rfl, rfl, rfl, rfl, rfl, rfl, rfl, rfl, rfl, rfl, rfl, rfl, rfl, rfl, rfl, rfl, rfl, rfl, rfl, rfl, show Wc_ _ _ _ _ _ _ _ _ _ from Or.inr ⟨by omega, K_, V_, P_, Q_, sm_, Or.inr ⟨rfl, rfl, le13_ (upB_same _ _ _) fk_, ⟨jn_, (upB_same _ _ _).trans pl_, rf_e (upB_same _ _ _) rf_⟩, fun _ => rfl, rfl⟩⟩⟩, kd9_⟩) (Nat.le_of_ble_eq_true rfl) (Nat.le_of_ble_eq_true rfl) dX9_wording_72
  · refine j_iconst E 33 rfl dX9_wording_32 ?_
    exact hret 33 ((-1)) T _ _ _ ls _ _ hw hoT_ (rr (by decide)) (⟨⟨t_o, ⟨rfl, rfl, rfl, rfl, rfl⟩, upB_same _ _ _, rfl, rfl, rfl, rfl, rfl, hC_, (fun _ => rfl), (fun _ => rfl), (fun _ => rfl), rfl, rfl, rfl, rfl, rfl, rfl, rfl, rfl, rfl, rfl, rfl, rfl, rfl, rfl, rfl, rfl, rfl, rfl, rfl, rfl, rfl, rfl, rfl, rfl, show Wc_ _ _ _ _ _ _ _ _ _ from Or.inl ⟨by omega, rfl, upB_same _ _ _, upB_same _ _ _, rfl, fun _ => rfl, rfl⟩⟩, KdA_rf⟩) (Nat.le_of_ble_eq_true rfl) (Nat.le_of_ble_eq_true rfl) dX9_wording_33
