/-! ===== tokens of wordings on both sides ===== -/
def tv_ (k x : Int) : Prop := (k = 3 ∧ 0 ≤ x ∧ x ≤ 9999) ∨ (301 ≤ k ∧ k ≤ 312) ∨ (40 ≤ k ∧ k ≤ 62)
theorem te_v (k x : Int) : (k = 3 → te_ k x = 1000 + x) ∧ (¬ k = 3 → 301 ≤ k → te_ k x = k - 301) ∧ (¬ k = 3 → ¬ 301 ≤ k → te_ k x = 100 + k) := by
  unfold te_
  exact ⟨fun h => if_pos h, fun h h2 => by rw [if_neg h, if_pos h2], fun h h2 => by rw [if_neg h, if_neg h2]⟩
theorem tv_pt {k x k2 x2 : Int} (h : tv_ k x) (h2 : tv_ k2 x2) : (tc_ k x = tc_ k2 x2 ↔ te_ k x = te_ k2 x2) := by
  unfold tv_ at h h2
  have a1 := te_v k x
  have a2 := te_v k2 x2
  by_cases e1 : k = 3 <;> by_cases e2 : k2 = 3
  · rw [tc_3 e1, tc_3 e2, a1.1 e1, a2.1 e2]; omega
  · rw [tc_3 e1, tc_n e2, a1.1 e1]
    by_cases e3 : 301 ≤ k2
    · rw [a2.2.1 e2 e3]; omega
    · rw [a2.2.2 e2 e3]; omega
  · rw [tc_n e1, tc_3 e2, a2.1 e2]
    by_cases e3 : 301 ≤ k
    · rw [a1.2.1 e1 e3]; omega
    · rw [a1.2.2 e1 e3]; omega
  · rw [tc_n e1, tc_n e2]
    by_cases e3 : 301 ≤ k <;> by_cases e4 : 301 ≤ k2
    · rw [a1.2.1 e1 e3, a2.2.1 e2 e4]; omega
    · rw [a1.2.1 e1 e3, a2.2.2 e2 e4]; omega
    · rw [a1.2.2 e1 e3, a2.2.1 e2 e4]; omega
    · rw [a1.2.2 e1 e3, a2.2.2 e2 e4]; omega
theorem tv_of {g : Int → Int} {n a k x p e : Int} (h : Lx_ g n a k x p e) (h1 : ¬ k = 1) (h2 : ¬ k = 2) : tv_ k x := by
  unfold tv_
  rcases h.2.2 with q | q
  · exact absurd q.2.1 h1
  · rcases (Lt_kind q.2).2 with r | r | r | r
    · exact absurd r h2
    · exact Or.inl ⟨r, Lt_num q.2 r⟩
    · exact Or.inr (Or.inl r)
    · unfold isSg_ at r
      exact Or.inr (Or.inr (by omega))
def RTm (n : Nat → Int) (f : Nat → Int → Int) (KK VV : Int → Int → Int) (cn : Int → Int) : Prop := (∀ w, 0 ≤ w → w < n 29 → f 31 w = cn w ∧ (∀ i, 0 ≤ i → i < cn w → f 30 (400 * w + i) = te_ (KK w i) (VV w i) ∧ tv_ (KK w i) (VV w i))) ∧ Fk_ (f 61) (f 30) (f 31) (n 29)
def RT (T : Nat → Nat → Nat) (v : Nat → Nat → Int) (x : Nat) (n : Nat → Int) (f : Nat → Int → Int) : Prop := ∃ (KK VV : Int → Int → Int) (cn : Int → Int), Wt_ T (v 300) (v 160) x (v 202 (T 182 x)) KK VV cn ∧ RTm n f KK VV cn
theorem cD_tkd {n : Nat → Int} {f : Nat → Int → Int} {KK VV : Int → Int → Int} {cn : Int → Int} {w u : Int} (h : RTm n f KK VV cn) (hw : 0 ≤ w ∧ w < n 29) (hu : 0 ≤ u ∧ u < n 29) : cD_ KK VV cn w u = tkd_ (f 30) (f 31) w u := by
  obtain ⟨a1, a2⟩ := h.1 w hw.1 hw.2
  obtain ⟨b1, b2⟩ := h.1 u hu.1 hu.2
  unfold cD_ tkd_
  rw [a1, b1]
  refine Ld_pt _ _ (fun k l hk hl => ?_)
  have a3 := a2 (k : Int) (by omega) (by omega)
  have b3 := b2 (l : Int) (by omega) (by omega)
  show tc_ (KK w k) (VV w k) = tc_ (KK u l) (VV u l) ↔ f 30 (400 * w + k) = f 30 (400 * u + l)
  rw [a3.1, b3.1]
  exact tv_pt a3.2 b3.2
theorem RT_far {T : Nat → Nat → Nat} {v : Nat → Nat → Int} {x : Nat} {n : Nat → Int} {f : Nat → Int → Int} {KK VV : Int → Int → Int} {cn : Int → Int} {w u z1 z2 : Int} (hM : RTm n f KK VV cn) (ha : v 202 (T 182 x) = n 29) (hc : (((0 ≤ w ∧ w < v 202 (T 182 x)) ∧ (0 ≤ u ∧ u < v 202 (T 182 x))) ∧ z1 = cD_ KK VV cn w u) ∨ (¬ ((0 ≤ w ∧ w < v 202 (T 182 x)) ∧ (0 ≤ u ∧ u < v 202 (T 182 x))) ∧ z1 = -1)) (hm : (z2 = -1 ∧ ¬ ((0 ≤ w ∧ w < n 29) ∧ (0 ≤ u ∧ u < n 29))) ∨ (((0 ≤ w ∧ w < n 29) ∧ (0 ≤ u ∧ u < n 29)) ∧ z2 = tkd_ (f 30) (f 31) w u)) : z1 = z2 := by
  rw [ha] at hc
  rcases hc with ⟨c1, c2⟩ | ⟨c1, c2⟩
  · rcases hm with ⟨m1, m2⟩ | ⟨m1, m2⟩
    · exact absurd c1 m2
    · rw [c2, m2]; exact cD_tkd hM c1.1 c1.2
  · rcases hm with ⟨m1, m2⟩ | ⟨m1, m2⟩
    · omega
    · exact absurd m1 c1
theorem RTm_same {n n2 : Nat → Int} {f f2 : Nat → Int → Int} {KK VV : Int → Int → Int} {cn : Int → Int} (h : RTm n f KK VV cn) (g29 : n2 29 = n 29) (g30 : f2 30 = f 30) (g31 : f2 31 = f 31) (hF : Fk_ (f2 61) (f 30) (f 31) (n 29)) : RTm n2 f2 KK VV cn := by
  refine ⟨fun w h0 h1 => ?_, by rw [g29, g30, g31]; exact hF⟩
  rw [g30, g31]
  exact h.1 w h0 (by omega)
theorem RT_same {T2 : Nat → Nat → Nat} {v2 : Nat → Nat → Int} {x : Nat} {n n2 : Nat → Int} {f f2 : Nat → Int → Int} {KK VV : Int → Int → Int} {cn : Int → Int} (hm : RTm n f KK VV cn) (hc : Wt_ T2 (v2 300) (v2 160) x (v2 202 (T2 182 x)) KK VV cn) (g29 : n2 29 = n 29) (g30 : f2 30 = f 30) (g31 : f2 31 = f 31) (hF : Fk_ (f2 61) (f 30) (f 31) (n 29)) : RT T2 v2 x n2 f2 := ⟨KK, VV, cn, hc, RTm_same hm g29 g30 g31 hF⟩
theorem wt1_mv {T T2 : Nat → Nat → Nat} {y y2 num num2 : Nat → Int} {KK VV : Int → Int → Int} {cn : Int → Int} {w : Int} {a : Nat} (h : Wt1_ T y num KK VV cn w a) (e1 : T2 161 a = T 161 a) (e3 : T2 163 a = T 163 a) (l1 : T2 1 (T 161 a) = T 1 (T 161 a)) (l3 : T2 1 (T 163 a) = T 1 (T 163 a)) (r1 : ∀ i, y2 (pr (T 161 a) i) = y (pr (T 161 a) i)) (r3 : ∀ i, y2 (pr (T 163 a) i) = y (pr (T 163 a) i)) (en : num2 a = num a) : Wt1_ T2 y2 num2 KK VV cn w a := by
  unfold Wt1_ at h ⊢
  rw [e1, e3, l1, l3, en, gC_fr r1, gC_fr r3]
  exact h
theorem wt_kd {D : va_G} {cy : Nat → ClassId} {H : Heap} {T : Nat → Nat → Nat} {v : Nat → Nat → Int} {x : Nat} {ks : List Nat} {y2 num2 : Nat → Int} {s : Int} {KK VV : Int → Int → Int} {cn : Int → Int} (hw : WC D cy T v H) (hx : T 0 x = 9) (hk : Kd_ T ks (v 300) y2) (h1 : 161 ∉ ks) (h3 : 163 ∉ ks) (hn : num2 = v 160) (hs : s = v 202 (T 182 x)) (h : Wt_ T (v 300) (v 160) x (v 202 (T 182 x)) KK VV cn) : Wt_ T y2 num2 x s KK VV cn := by
  rw [hs, hn]
  intro w h0 hl a ha
  have ta := wl_ty hw (wt_182 hw.2.1 hx) (we_182 hw.2.1 hx) ha h0 hl
  exact wt1_mv (h w h0 hl a ha) rfl rfl rfl rfl (fun i => hk _ (by rw [wok (wo_161 hw.2.1 ta) (by decide)]; exact h1) i) (fun i => hk _ (by rw [wok (wo_163 hw.2.1 ta) (by decide)]; exact h3) i) rfl
theorem wt_ho {D : va_G} {cy : Nat → ClassId} {H : Heap} {T T2 : Nat → Nat → Nat} {v : Nat → Nat → Int} {x sz : Nat} {ks : List Nat} {y2 : Nat → Int} (hw : WC D cy T v H) (hx : T 0 x = 9) (hsz : H.size = sz) (hC : (∀ b, b < sz → T 0 b ≠ 10 → T 0 b ≠ 24 → T 0 b ≠ 26 → b ≠ x → ∀ j, j ≠ 197 → T2 j b = T j b)) (hk : KdA_ T sz ks (v 300) y2) (h1 : 161 ∉ ks) (h3 : 163 ∉ ks) : ∀ (a : Nat) (w : Int), 0 ≤ w → w < v 202 (T 182 x) → ELn_ T 182 x w.toNat = a + 1 → (a < sz ∧ T2 161 a = T 161 a ∧ T2 163 a = T 163 a) ∧ (T2 1 (T 161 a) = T 1 (T 161 a) ∧ T2 1 (T 163 a) = T 1 (T 163 a)) ∧ (∀ i, y2 (pr (T 161 a) i) = v 300 (pr (T 161 a) i)) ∧ (∀ i, y2 (pr (T 163 a) i) = v 300 (pr (T 163 a) i)) := by
  intro a w h0 hl ha
  have ta : T 0 a = 8 := wl_ty hw (wt_182 hw.2.1 hx) (we_182 hw.2.1 hx) ha h0 hl
  have r1 : T 0 (T 161 a) = 20 := wt_161 hw.2.1 ta
  have r3 : T 0 (T 163 a) = 20 := wt_163 hw.2.1 ta
  have la : a < sz := hsz ▸ cw_lt hw ta (fun _ _ _ => ⟨_, rfl⟩)
  have l1 : T 161 a < sz := hsz ▸ cw_lt hw r1 (fun _ _ _ => ⟨_, rfl⟩)
  have l3 : T 163 a < sz := hsz ▸ cw_lt hw r3 (fun _ _ _ => ⟨_, rfl⟩)
  have na : a ≠ x := fun e => by rw [e, hx] at ta; cases ta
  have n1 : T 161 a ≠ x := fun e => by rw [e, hx] at r1; cases r1
  have n3 : T 163 a ≠ x := fun e => by rw [e, hx] at r3; cases r3
  refine ⟨⟨la, hC a la (by omega) (by omega) (by omega) na 161 (by decide), hC a la (by omega) (by omega) (by omega) na 163 (by decide)⟩, ⟨hC _ l1 (by omega) (by omega) (by omega) n1 1 (by decide), hC _ l3 (by omega) (by omega) (by omega) n3 1 (by decide)⟩, fun i => hk _ l1 r1 ?_ i, fun i => hk _ l3 r3 ?_ i⟩
  · rw [wok (wo_161 hw.2.1 ta) (by decide)]
    exact h1
  · rw [wok (wo_163 hw.2.1 ta) (by decide)]
    exact h3
theorem wt_mk {D : va_G} {cy : Nat → ClassId} {H : Heap} {T T2 : Nat → Nat → Nat} {v : Nat → Nat → Int} {x sz : Nat} {ks : List Nat} {y2 num2 : Nat → Int} {s : Int} {KK VV : Int → Int → Int} {cn : Int → Int} (hw : WC D cy T v H) (hx : T 0 x = 9) (hsz : H.size = sz) (hC : (∀ b, b < sz → T 0 b ≠ 10 → T 0 b ≠ 24 → T 0 b ≠ 26 → b ≠ x → ∀ j, j ≠ 197 → T2 j b = T j b)) (hk : KdA_ T sz ks (v 300) y2) (h1 : 161 ∉ ks) (h3 : 163 ∉ ks) (he : ∀ i : Nat, ELn_ T2 182 x i = ELn_ T 182 x i) (hn : num2 = v 160) (hs : s = v 202 (T 182 x)) (h : Wt_ T (v 300) (v 160) x (v 202 (T 182 x)) KK VV cn) : Wt_ T2 y2 num2 x s KK VV cn := by
  rw [hs, hn]
  intro w h0 hl a ha
  rw [he] at ha
  obtain ⟨⟨-, e1, e3⟩, ⟨l1, l3⟩, r1, r3⟩ := wt_ho hw hx hsz hC hk h1 h3 a w h0 hl ha
  exact wt1_mv (h w h0 hl a ha) e1 e3 l1 l3 r1 r3 rfl
theorem cD_nw {m : Int} {K V : Int → Int} {c : Int} {KK VV : Int → Int → Int} {cn : Int → Int} {w j : Int} (hw : ¬ w = m) (hj : ¬ j = m) : cD_ (nw_ m K KK) (nw_ m V VV) (nw_ m c cn) w j = cD_ KK VV cn w j := by
  unfold cD_ cT_
  rw [nw_n hw, nw_n hw, nw_n hw, nw_n hj, nw_n hj, nw_n hj]
theorem RT_wor {D : va_G} {cy : Nat → ClassId} {H : Heap} {T T2 : Nat → Nat → Nat} {v v2 : Nat → Nat → Int} {x : Nat} {n n2 : Nat → Int} {f f2 : Nat → Int → Int} {K V P Q g : Int → Int} {nn : Int} {sz : Nat} {ks : List Nat} {z1 z2 X29 s2 k2 p2 : Int} {G30 G31 : Int → Int} {KK VV : Int → Int → Int} {cn : Int → Int} {C1 C2 C3 : Prop} {sg : List (List Int)} (hw : WC D cy T v H) (hx : T 0 x = 9) (hsz : H.size = sz) (hC : (∀ b, b < sz → T 0 b ≠ 10 → T 0 b ≠ 24 → T 0 b ≠ 26 → b ≠ x → ∀ j, j ≠ 197 → T2 j b = T j b)) (hk : KdA_ T sz ks (v 300) (v2 300)) (h1 : 161 ∉ ks) (h3 : 163 ∉ ks) (hW : Wt_ T (v 300) (v 160) x (v 202 (T 182 x)) KK VV cn) (hM : RTm n f KK VV cn) (ha : v 202 (T 182 x) = n 29) (h29 : 0 ≤ n 29) (hst : n 29 < 32 → Strm_ g nn K V P Q) (hz : z1 = z2) (hs : v2 202 (T2 182 x) = s2) (g29 : n2 29 = X29) (g30 : f2 30 = G30) (g31 : f2 31 = G31) (g61 : f2 61 = f 61)
    (hc : Wx_ K V P (v 202 (T 182 x)) s2 z1 k2 p2 ((∀ i : Nat, ELn_ T2 182 x i = ELn_ T 182 x i) ∧ v2 160 = v 160) (fun K_ V_ cnt_ a1_ a2_ a3_ => ∃ q_ : Nat, sz ≤ q_ ∧ (∀ i : Nat, (i : Int) < v 202 (T 182 x) → ELn_ T2 182 x i = ELn_ T 182 x i) ∧ ELn_ T2 182 x (v 202 (T 182 x)).toNat = q_ + 1 ∧ T2 0 q_ = 8 ∧ (∀ y_ : Nat, y_ ≠ q_ → v2 160 y_ = v 160 y_) ∧ Wq_ T2 (v2 300) (v2 160) q_ (v 202 (T 182 x)) cnt_ K_ V_ a1_ a2_ a3_))
    (hm : (z2 = -1 ∧ X29 = n 29 ∧ C1) ∨ (z2 = n 29 ∧ X29 = n 29 + 1 ∧ n 29 < 32 ∧ C2 ∧ C3 ∧ ∃ jn : Int, 0 ≤ jn ∧ Ra_ K V 9 jn sg ∧ (∀ i, 0 ≤ i → i < jn → ¬ K i = 1 ∧ ¬ K i = 2) ∧ G31 (n 29) = jn ∧ ∀ i, 0 ≤ i → i < jn → G30 (400 * n 29 + i) = te_ (K i) (V i)))
    (kf : Kf_ (f 31) (f 30) G31 G30 (n 29)) (tok : ∀ w, 0 ≤ w → w < n2 29 → 0 ≤ f2 31 w ∧ f2 31 w ≤ 400) : RT T2 v2 x n2 f2 := by
  subst g30 g31
  have ho := wt_ho hw hx hsz hC hk h1 h3
  have tk : ∀ w, 0 ≤ w → w < n2 29 → w < n 29 → f2 31 w = f 31 w ∧ ∀ i, 0 ≤ i → i < f 31 w → f2 30 (400 * w + i) = f 30 (400 * w + i) := fun w h0 h2 h4 => by
    have q := tok w h0 h2
    have e := kf.1 w (by omega)
    exact ⟨e, fun i i0 i1 => kf.2 _ (by omega)⟩
  have old : ∀ w, 0 ≤ w → w < n2 29 → w < n 29 → f2 31 w = cn w ∧ (∀ i, 0 ≤ i → i < cn w → f2 30 (400 * w + i) = te_ (KK w i) (VV w i) ∧ tv_ (KK w i) (VV w i)) := fun w h0 h2 h4 => by
    obtain ⟨a1, a2⟩ := hM.1 w h0 h4
    obtain ⟨b1, b2⟩ := tk w h0 h2 h4
    refine ⟨b1.trans a1, fun i i0 i1 => ?_⟩
    rw [b2 i i0 (by omega)]
    exact a2 i i0 i1
  have far : n 29 ≤ n2 29 → Fk_ (f2 61) (f2 30) (f2 31) (n2 29) := fun hle w u w0 w1 u0 u1 => by
    rw [g61]
    rcases hM.2 w u w0 w1 u0 u1 with q | ⟨q1, q2, q3⟩
    · exact Or.inl q
    · refine Or.inr ⟨by omega, by omega, ?_⟩
      obtain ⟨a1, a2⟩ := tk w w0 (by omega) q1
      obtain ⟨b1, b2⟩ := tk u u0 (by omega) q2
      have t1 := tok w w0 (by omega)
      have t2 := tok u u0 (by omega)
      rw [q3]
      unfold tkd_
      rw [a1, b1]
      congr 1
      exact (Ld_cg _ _ (fun k hk => a2 k (by omega) (by omega)) (fun k hk => b2 k (by omega) (by omega))).symm
  have same : (∀ i : Nat, ELn_ T2 182 x i = ELn_ T 182 x i) ∧ v2 160 = v 160 → s2 = v 202 (T 182 x) → X29 = n 29 → RT T2 v2 x n2 f2 := fun he e1 e2 => ⟨KK, VV, cn, wt_mk hw hx hsz hC hk h1 h3 he.1 he.2 (by rw [hs, e1]) hW, fun w h0 hl => old w h0 hl (by omega), far (by omega)⟩
  rcases hm with ⟨m1, m2, -⟩ | ⟨m1, m2, m3, -, -, jm, mj, m6, m7, m8, m9⟩
  · rcases hc with ⟨c1, c2, c3, c4, c5, c6⟩ | ⟨c1, ⟨c2, c3, -⟩ | ⟨c2, c3, -, -, c6⟩⟩
    · exact same c6 c5 m2
    · exfalso; omega
    · exact same c6 c3 m2
  · rcases hc with ⟨c1, c2, -⟩ | ⟨c1, ⟨c2, c3, -, -, jc, a1, a2, a3, cj, c6, q, hq, he, hq1, -, hq3, hq2⟩ | ⟨c2, -⟩⟩
    · exfalso; omega
    · have ej := (rd_same c6 m6).1
      obtain ⟨-, w1, w2, w3, w4, w5⟩ := hq2
      have tn := tok (n 29) h29 (by omega)
      refine ⟨nw_ (n 29) K KK, nw_ (n 29) V VV, nw_ (n 29) jc cn, fun w h0 hl a ha2 => ?_, fun w h0 hl => ?_, far (by omega)⟩
      · by_cases e : w = n 29
        · subst e
          have ea : a = q := by
            rw [ha] at hq1
            rw [hq1] at ha2
            omega
          rw [ea]
          rw [ha] at w3 w4 w5
          refine ⟨w5, ⟨by rw [nw_e]; exact w1, by rw [nw_e]; exact cj, by rw [nw_e]; omega⟩, fun i i0 i1 => ?_, w3, fun j j0 j1 => Or.inl (w4 j j0 j1)⟩
          rw [nw_e] at i1
          unfold cT_
          rw [nw_e, nw_e]
          exact w2 i i0 i1
        · have hl2 : w < v 202 (T 182 x) := by rw [hs, c3] at hl; omega
          rw [he w.toNat (by omega)] at ha2
          obtain ⟨⟨la, e1, e3⟩, ⟨l1, l3⟩, r1, r3⟩ := ho a w h0 hl2 ha2
          have q1 := wt1_mv (num2 := v2 160) (hW w h0 hl2 a ha2) e1 e3 l1 l3 r1 r3 (hq3 a (by omega))
          obtain ⟨p1, p2, p3, p4, p5⟩ := q1
          refine ⟨p1, by rw [nw_n e]; exact p2, fun i i0 i1 => ?_, p4, fun j j0 j1 => ?_⟩
          · rw [nw_n e] at i1
            unfold cT_
            rw [nw_n e, nw_n e]
            exact p3 i i0 i1
          · rw [cD_nw e (by omega)]
            exact p5 j j0 j1
      · by_cases e : w = n 29
        · subst e
          refine ⟨by rw [nw_e]; omega, fun i i0 i1 => ?_⟩
          rw [nw_e] at i1
          rw [nw_e, nw_e]
          have m10 := m7 i i0 (by omega)
          exact ⟨m9 i i0 (by omega), tv_of ((hst m3).2 i i0) m10.1 m10.2⟩
        · rw [nw_n e, nw_n e, nw_n e]
          exact old w h0 hl (by omega)
    · exfalso; omega
