
def Ra_ (K V : Int → Int) (m : Nat) (j : Int) (sg : List (List Int)) : Prop := Rch_ K V (0, 0, 0, [], [], []) (m, 0, j, [], [], sg)
def Rf_ (K V : Int → Int) (k j : Int) : Prop := Rch_ K V (0, 0, 0, [], [], []) (ft_ k.toNat j)
section Read
variable {K V : Int → Int} {j j2 k : Int} {sg sg2 : List (List Int)} {o o2 : List Int}
theorem s3_nil : S3_ [] := ⟨show ¬ (0 : Int) = 42 by omega, show ¬ ((0 : Int) = 43 ∨ (0 : Int) = 45) by omega⟩
theorem rd_f0 (h : ¬ K 0 = 301) : Rf_ K V 1 0 := Rch_st (s0_bad h)
theorem rd_f1 (h : K 0 = 301) (hs : Mh_ S3_ K V (0 + 1) k j o) (ho : o = []) : Rf_ K V k j := by
  subst ho
  exact Rch_tr (Rch_st (s0_mk h)) (hs 0 [] [] s3_nil)
theorem rd_3 (h : K 0 = 301) (hs : Mg_ S3_ K V (0 + 1) j o o2) (ho : o = []) (hn : N4_ K j) : Ra_ K V 3 j [o2] := by
  subst ho
  exact Rch_sn (Rch_tr (Rch_st (s0_mk h)) (hs 0 [] [] s3_nil)) (sP_end0 s3_nil.1 s3_nil.2 hn)
theorem rd_6w (h : Ra_ K V 3 j sg) (hk : K j = 302) (h4 : M4_ K V (j + 1) j2 o) (hn : NA_ K j2) : Ra_ K V 6 j2 (o :: sg) := Rch_sn (Rch_tr (Rch_sn h (s3_wh hk)) (h4 302 sg (Or.inl rfl))) (sC_when hn.1 hn.2)
theorem rd_6f (h : Ra_ K V 3 j sg) (hk : K j = 302) (h4 : Mh4_ K V (j + 1) k j2) : Rf_ K V k j2 := Rch_tr (Rch_sn h (s3_wh hk)) (h4 302 sg (Or.inl rfl))
theorem rd_6n (h : Ra_ K V 3 j sg) (hk : ¬ K j = 302) : Ra_ K V 6 j ([] :: sg) := Rch_sn h (s3_no hk)
theorem rd_7w (h : Ra_ K V 6 j sg) (hk : K j = 303) (h4 : M4_ K V (j + 1) j2 o) (hn : NA_ K j2) : Ra_ K V 7 j2 (o :: sg) := Rch_sn (Rch_tr (Rch_sn h (s6_un hk)) (h4 303 sg (Or.inr rfl))) (sC_unl hn.1 hn.2)
theorem rd_7f (h : Ra_ K V 6 j sg) (hk : K j = 303) (h4 : Mh4_ K V (j + 1) k j2) : Rf_ K V k j2 := Rch_tr (Rch_sn h (s6_un hk)) (h4 303 sg (Or.inr rfl))
theorem rd_7n (h : Ra_ K V 6 j sg) (hk : ¬ K j = 303) : Ra_ K V 7 j ([] :: sg) := Rch_sn h (s6_no hk)
theorem rd_8 (h : Ra_ K V 7 j sg) (hk : K j = 59) : Ra_ K V 8 (j + 1) sg := Rch_sn h (s7_ok hk)
theorem rd_8f (h : Ra_ K V 7 j sg) (hk : ¬ K j = 59) : Rf_ K V 1 j := Rch_sn h (s7_no hk)
theorem rd_9 (h : Ra_ K V 8 j sg) (hk : K j = 1) : Ra_ K V 9 j sg := Rch_sn h (s8_ok hk)
theorem rd_9f (h : Ra_ K V 8 j sg) (hk : ¬ K j = 1) : Rf_ K V 1 j := Rch_sn h (s8_no hk)
theorem rd_pas (h : Ra_ K V 9 j sg) : ∀ i, 0 ≤ i → i < j → ¬ K i = 1 ∧ ¬ K i = 2 := by
  obtain ⟨n, hn⟩ := h
  have q := itr_ok (K := K) (V := V) n (0, 0, 0, [], [], []) (by rw [hn]; exact Nat.le_refl 9)
  rw [hn] at q
  exact q.2
theorem rd_same (h : Ra_ K V 9 j sg) (h2 : Ra_ K V 9 j2 sg2) : j = j2 ∧ sg = sg2 := by
  have q := Rch_det h h2 ac_fix ac_fix
  have q1 := congrArg (fun s : MS_ => s.2.2.1) q
  have q2 := congrArg (fun s : MS_ => s.2.2.2.2.2) q
  exact ⟨q1, q2⟩
theorem rd_det {k2 : Int} (h : Rf_ K V k j) (h2 : Rf_ K V k2 j2) (hk : 1 ≤ k) (hk2 : 1 ≤ k2) : k = k2 ∧ j = j2 := by
  have q := Rch_det h h2 (ft_fix (by omega)) (ft_fix (by omega))
  unfold ft_ at q
  have q1 := congrArg Prod.fst q
  have q2 := congrArg (fun s : MS_ => s.2.2.1) q
  simp only at q1 q2
  exact ⟨by omega, q2⟩
theorem rd_dif (h : Rf_ K V k j) (h2 : Ra_ K V 9 j2 sg) (hk : 1 ≤ k) : False := by
  have q := Rch_det h h2 (ft_fix (by omega)) ac_fix
  unfold ft_ at q
  have q1 := congrArg Prod.fst q
  simp only at q1
  omega
end Read
theorem rd_tok {K V P Q tf tk : Int → Int} {sg : List (List Int)} {a f t v w j : Int} (h : Ra_ K V 9 j sg) (hr : Rt_ K V P Q a f t v (tkw_ tf tk w) j) (ht : t = 0) : (∀ i, 0 ≤ i → i < j → ¬ K i = 1 ∧ ¬ K i = 2) ∧ tk w = j ∧ ∀ i, 0 ≤ i → i < j → tf (400 * w + i) = te_ (K i) (V i) := by
  have q := rd_pas h
  have q2 := (hr.2.2.2.2.2.2 q).1 (by omega)
  exact ⟨q, q2.1, q2.2⟩
theorem Seg_fr {a b a2 b2 : Int → Int} {lo hi e m : Int} (h : Seg_ a b lo hi e) (f : Fr_ a b a2 b2 m) (hm : hi ≤ m) : Seg_ a2 b2 lo hi e := by
  obtain ⟨d, d0, d1, ds⟩ := h
  refine ⟨d, d0, d1, fun k k1 k2 => ?_⟩
  have h3 := ds k k1 k2
  have h4 := f k (by omega)
  have h5 := f (k - 1) (by omega)
  refine ⟨h3.1, ?_⟩
  have h6 := h3.2
  unfold Stp_ at h6 ⊢
  rw [h4.1, h4.2, h5.1, h5.2]
  exact h6
theorem CodW_fr {a b a2 b2 : Int → Int} {x y z i w : Int} (h : CodW_ a b x y z i) (f : Fr_ a b a2 b2 (400 * w)) (hi : i < w) : CodW_ a2 b2 x y z i := by
  obtain ⟨h0, ⟨e1, s1⟩, ⟨e2, s2⟩, ⟨e3, s3⟩⟩ := h
  exact ⟨h0, ⟨e1, Seg_fr s1 f (by omega)⟩, ⟨e2, Seg_fr s2 f (by omega)⟩, ⟨e3, Seg_fr s3 f (by omega)⟩⟩
theorem Cod_fr {op ar su wh un op2 ar2 su2 wh2 un2 : Int → Int} {w : Int} (h : Cod_ op ar su wh un w) (f : Fr_ op ar op2 ar2 (400 * w)) (g : ∀ i, i ≠ w → su2 i = su i ∧ wh2 i = wh i ∧ un2 i = un i) : Cod_ op2 ar2 su2 wh2 un2 w := fun i h1 h2 => by
  have hg := g i (by omega)
  rw [hg.1, hg.2.1, hg.2.2]
  exact CodW_fr (h i h1 h2) f h2
theorem Cod_grow {op ar su wh un : Int → Int} {w : Int} (h : Cod_ op ar su wh un w) (g : CodW_ op ar (su w) (wh w) (un w) w) : Cod_ op ar su wh un (w + 1) := fun i h1 h2 => by
  by_cases e : i = w
  · rw [e]; exact g
  · exact h i h1 (by omega)
theorem Tok_fr {t t2 : Int → Int} {w : Int} (h : Tok_ t w) (g : ∀ i, i ≠ w → t2 i = t i) : Tok_ t2 w := fun i h1 h2 => by rw [g i (by omega)]; exact h i h1 h2
theorem Tok_grow {t : Int → Int} {w : Int} (h : Tok_ t w) (g : 0 ≤ t w ∧ t w ≤ 400) : Tok_ t (w + 1) := fun i h1 h2 => by
  by_cases e : i = w
  · rw [e]; exact g
  · exact h i h1 (by omega)
theorem Str_mono {st wo : Int → Int} {w : Int} (h : Str_ st wo w) : Str_ st wo (w + 1) := fun i hi => by have := h i hi; omega
theorem Said_mono {sa : Int → Int} {li w : Int} (h : Said_ sa li w) : Said_ sa li (w + 1) := fun i h1 h2 => by have := h i h1 h2; omega
theorem Book_mono {bo : Int → Int} {li w : Int} (h : Book_ bo li w) : Book_ bo li (w + 1) := fun i h1 h2 => by have := h i h1 h2; omega
theorem CodW_of {op ar : Int → Int} {x y z w : Int} (h : 0 ≤ x ∧ x ≤ y ∧ y ≤ z ∧ z ≤ 400) (s1 : ∃ e, Pz_ op ar (400 * w + 0) (400 * w + x) e) (s2 : ∃ e, Pz_ op ar (400 * w + x) (400 * w + y) e) (s3 : ∃ e, Pz_ op ar (400 * w + y) (400 * w + z) e) : CodW_ op ar x y z w := ⟨h, s1.elim fun e p => ⟨e, p.1⟩, s2.elim fun e p => ⟨e, p.1⟩, s3.elim fun e p => ⟨e, p.1⟩⟩
theorem Px_fr {a b a2 b2 : Int → Int} {lo hi m : Int} (h : ∃ e, Pz_ a b lo hi e) (f : Fr_ a b a2 b2 m) (hm : hi ≤ m) : ∃ e, Pz_ a2 b2 lo hi e := h.elim fun e p => ⟨e, Pz_fr p f hm⟩

set_option maxHeartbeats 4000000 in
set_option maxRecDepth 100000 in
theorem c_X10_reads (l : Launch) (D : va_G) (cy : Nat → ClassId) (q : Nat → Nat) (n_0 : Nat → Int) (f_0 : Nat → Int → Int) (K_ : Int → Int) (V_ : Int → Int) (P_ : Int → Int) (Q_ : Int → Int) (hp0 : 0 ≤ (n_0 29) ∧ (n_0 29) < 32) (hp1 : 0 ≤ (n_0 23) ∧ (n_0 23) ≤ 400) (hp2 : Wds_ (f_0 28)) (hp3 : (n_0 23) = (n_0 23)) (hp4 : (n_0 23) = (n_0 23)) (hp5 : Strm_ (f_0 22) (n_0 23) K_ V_ P_ Q_) (hp6 : (n_0 23) = (n_0 23)) (hp7 : Tap_ (f_0 22)) : MC l D cy q yX10_reads cX10_reads 1 (some .int) 8 [] n_0 f_0 (PI (fun (z_0 : Int) (n_2 : Nat → Int) (f_2 : Nat → Int → Int) => ∃ (x24_2 : Int) (x25_2 : Int) (x26_2 : Int) (x27_2 : Int) (x37_2 : Int) (x38_2 : Int) (x40_2 : Int) (x41_2 : Int) (x42_2 : Int) (y30_2 : Int → Int) (y31_2 : Int → Int) (y32_2 : Int → Int) (y33_2 : Int → Int) (y39_2 : Int → Int) (y34_2 : Int → Int) (y35_2 : Int → Int) (y36_2 : Int → Int) , n_2 = upN (upN (upN (upN (upN (upN (upN (upN (upN n_0 24 x24_2) 25 x25_2) 26 x26_2) 27 x27_2) 37 x37_2) 38 x38_2) 40 x40_2) 41 x41_2) 42 x42_2 ∧ f_2 = upF (upF (upF (upF (upF (upF (upF (upF f_0 30 y30_2) 31 y31_2) 32 y32_2) 33 y33_2) 34 y34_2) 35 y35_2) 36 y36_2) 39 y39_2 ∧ ((z_0 = -1 ∧ (Fr_ (f_0 32) (f_0 33) (y32_2) (y33_2) (400 * (n_0 29)) ∧ Kf_ (f_0 31) (f_0 30) (y31_2) (y30_2) (n_0 29) ∧ (0 ≤ (y31_2 ((n_0 29))) ∧ (y31_2 ((n_0 29))) ≤ 400) ∧ (∀ i, i ≠ (n_0 29) → (y34_2 i) = (f_0 34 i) ∧ (y35_2 i) = (f_0 35 i) ∧ (y36_2 i) = (f_0 36 i))) ∧ (∃ jn_ : Int, (x42_2) = P_ jn_ ∧ (1 ≤ (x41_2) ∧ (x41_2) ≤ 3) ∧ Rf_ K_ V_ (x41_2) jn_)) ∨ (z_0 = 0 ∧ (Fr_ (f_0 32) (f_0 33) (y32_2) (y33_2) (400 * (n_0 29)) ∧ Kf_ (f_0 31) (f_0 30) (y31_2) (y30_2) (n_0 29) ∧ (0 ≤ (y31_2 ((n_0 29))) ∧ (y31_2 ((n_0 29))) ≤ 400) ∧ (∀ i, i ≠ (n_0 29) → (y34_2 i) = (f_0 34 i) ∧ (y35_2 i) = (f_0 35 i) ∧ (y36_2 i) = (f_0 36 i))) ∧ CodW_ (y32_2) (y33_2) ((y34_2 ((n_0 29)))) ((y35_2 ((n_0 29)))) ((y36_2 ((n_0 29)))) (n_0 29) ∧ ∃ jn_ : Int, 0 ≤ jn_ ∧ Ra_ K_ V_ 9 jn_ [cL_ (y32_2) (y33_2) (400 * (n_0 29) + (y35_2 ((n_0 29)))) (400 * (n_0 29) + (y36_2 ((n_0 29)))), cL_ (y32_2) (y33_2) (400 * (n_0 29) + (y34_2 ((n_0 29)))) (400 * (n_0 29) + (y35_2 ((n_0 29)))), cL_ (y32_2) (y33_2) (400 * (n_0 29) + 0) (400 * (n_0 29) + (y34_2 ((n_0 29))))] ∧ (∀ i, 0 ≤ i → i < jn_ → ¬ K_ i = 1 ∧ ¬ K_ i = 2) ∧ (y31_2 ((n_0 29))) = jn_ ∧ ∀ i, 0 ≤ i → i < jn_ → (y30_2 (400 * (n_0 29) + i)) = te_ (K_ i) (V_ i))))) := by
  refine MC.ofi rfl (Nat.le_of_ble_eq_true rfl) ?_
  intro p e s m below meth c ls ar QW A0 H0 H locs E hK hA hw hl hret
  have hl : lv_has ls 1 [(0, .ref (q 0))] := hl
  refine j_aload_n E 1 rfl dX10_reads_0 rfl (lv_at hl 0 rfl) ?_
  refine j_iconst E 2 rfl dX10_reads_1 ?_
  refine m_put_24 E hK hw (rr (by decide)) 5 rfl dX10_reads_2 (fun H locs hw => ?_)
  have hw : WM D cy q (upN n_0 24 0) (f_0) A0 H0 H locs := hw
  refine j_aload_n E 6 rfl dX10_reads_5 rfl (lv_at hl 0 rfl) ?_
  refine j_iconst E 7 rfl dX10_reads_6 ?_
  refine m_put_37 E hK hw (rr (by decide)) 10 rfl dX10_reads_7 (fun H locs hw => ?_)
  have hw : WM D cy q (upN (upN n_0 24 0) 37 0) (f_0) A0 H0 H locs := hw
  refine j_aload_n E 11 rfl dX10_reads_10 rfl (lv_at hl 0 rfl) ?_
  refine j_iconst E 12 rfl dX10_reads_11 ?_
  refine m_put_38 E hK hw (rr (by decide)) 15 rfl dX10_reads_12 (fun H locs hw => ?_)
  have hw : WM D cy q (upN (upN (upN n_0 24 0) 37 0) 38 0) (f_0) A0 H0 H locs := hw
  refine j_aload_n E 16 rfl dX10_reads_15 rfl (lv_at hl 0 rfl) ?_
  refine m_ag_31 E hK hw 19 rfl dX10_reads_16 ?_
  refine j_aload_n E 20 rfl dX10_reads_19 rfl (lv_at hl 0 rfl) ?_
  refine m_get_29 E hK hw (n_0 29) rfl 23 rfl dX10_reads_20 (fun rr4_ => ?_)
  refine j_iconst E 24 rfl dX10_reads_23 ?_
  refine m_st_31 E hK hw (by omega) (rr (by decide)) 25 rfl dX10_reads_24 (fun H locs hw => ?_)
  have hw : WM D cy q (upN (upN (upN n_0 24 0) 37 0) 38 0) (upF f_0 31 (upA (f_0 31) (n_0 29) 0)) A0 H0 H locs := hw
  refine j_aload_n E 26 rfl dX10_reads_25 rfl (lv_at hl 0 rfl) ?_
  have tz_ : (upA (f_0 31) (n_0 29) 0 (n_0 29)) = 0 := upA_same _ _ _
  refine m_callv E (c_X10_next l D cy q (upN (upN (upN n_0 24 0) 37 0) 38 0) (upF f_0 31 (upA (f_0 31) (n_0 29) 0))    (show 0 ≤ (n_0 29) ∧ (n_0 29) < 32 from by omega) (show 0 ≤ (n_0 23) ∧ (n_0 23) ≤ 400 from by omega) (show Wds_ (f_0 28) from hp2) (show 0 ≤ (0 : Int) ∧ (0 : Int) ≤ (n_0 23) from by omega) (show 0 ≤ (upA (f_0 31) (n_0 29) 0 ((n_0 29))) ∧ (upA (f_0 31) (n_0 29) 0 ((n_0 29))) ≤ (0 : Int) from by omega) (show Tap_ (f_0 22) from hp7)) rfl mt_X10_next ml_X10_269 hK hw hA ⟨Nat.le_of_ble_eq_true rfl, Nat.le_of_ble_eq_true rfl⟩ (As := []) (rest := []) rfl rfl hl.1 (Nat.le_of_ble_eq_true rfl) 29 rfl dX10_reads_26 (fun n_6 f_6 H locs hq6_ hw => ?_)
  obtain ⟨x24_6, x25_6, x26_6, x27_6, y30_6, y31_6, en6_, ef6_, hq6_⟩ := hq6_
  rw [en6_, ef6_] at hw; clear en6_ ef6_
  have hw : WM D cy q (upN (upN (upN (upN (upN (upN n_0 24 x24_6) 25 x25_6) 26 x26_6) 27 x27_6) 37 0) 38 0) (upF (upF f_0 30 y30_6) 31 y31_6) A0 H0 H locs := hw
  have rx24_6 : inR x24_6 := mRn_24 hw.1.2.2.1
  have rx25_6 : inR x25_6 := mRn_25 hw.1.2.2.1
  have rx26_6 : inR x26_6 := mRn_26 hw.1.2.2.1
  have rx27_6 : inR x27_6 := mRn_27 hw.1.2.2.1
  have hh6_ : (0 ≤ (x25_6) ∧ (x25_6) ≤ (x24_6) ∧ (x24_6) ≤ (n_0 23)) ∧ (0 ≤ (y31_6 ((n_0 29))) ∧ (y31_6 ((n_0 29))) ≤ (x24_6)) ∧ (0 ≤ (x26_6) ∧ (x26_6) ≤ 4) ∧ (¬ (x26_6) = 0 → (x25_6) < (x24_6)) ∧ ((x26_6) = 3 → 0 ≤ (x27_6) ∧ (x27_6) ≤ 9999) ∧ (0 : Int) ≤ (x25_6) ∧ Kf_ (upA (f_0 31) (n_0 29) 0) (f_0 30) (y31_6) (y30_6) (n_0 29) ∧ (((x26_6) ≤ 1 ∧ (y30_6) = (f_0 30) ∧ (y31_6) = (upA (f_0 31) (n_0 29) 0)) ∨ (2 ≤ (x26_6) ∧ (y30_6) = upA (f_0 30) (400 * (n_0 29) + (upA (f_0 31) (n_0 29) 0 ((n_0 29)))) (te_ (kd_ (x26_6) (x27_6)) (x27_6)) ∧ (y31_6) = upA (upA (f_0 31) (n_0 29) 0) (n_0 29) ((upA (f_0 31) (n_0 29) 0 ((n_0 29))) + 1))) ∧ Lx_ (f_0 22) (n_0 23) (0 : Int) (kd_ (x26_6) (x27_6)) (x27_6) (x25_6) (x24_6) ∧ Tv_ (x26_6) (x27_6) := hq6_
  clear hq6_
  have k1_ : Kf_ (f_0 31) (f_0 30) (y31_6) (y30_6) (n_0 29) := tk_tr ⟨fun i_ h_ => upA_ne h_, fun _ _ => rfl⟩ hh6_.2.2.2.2.2.2.1
  have r0_ := rt_of (j := 0) hp5 (by omega) (by rw [hp5.1]; exact hh6_.2.2.2.2.2.2.2.2.1) rfl hh6_.2.2.2.2.2.2.2.2.2 (fun e1_ e2_ e3_ => Tp_0 hh6_.2.2.2.2.2.2.2.1 tz_ e1_ e2_ e3_)
  have r0k := r0_.1
  refine j_aload_n E 30 rfl dX10_reads_29 rfl (lv_at hl 0 rfl) ?_
  refine j_iconst E 31 rfl dX10_reads_30 ?_
  refine m_callp (po := fun z_0 => (z_0 = 1 ∧ (x26_6) = 2 ∧ (x27_6) = (0 : Int)) ∨ (z_0 = 0 ∧ ¬ ((x26_6) = 2 ∧ (x27_6) = (0 : Int)))) E (c_X10_isWord l D cy q (upN (upN (upN (upN (upN (upN n_0 24 x24_6) 25 x25_6) 26 x26_6) 27 x27_6) 37 0) 38 0) (upF (upF f_0 30 y30_6) 31 y31_6) 0  (rr (by decide)) ) rfl mt_X10_isWord ml_X10_259 hK hw hA ⟨Nat.le_of_ble_eq_true rfl, Nat.le_of_ble_eq_true rfl⟩ (As := [.int (J 0)]) (rest := []) rfl rfl hl.1 (Nat.le_of_ble_eq_true rfl) 34 rfl dX10_reads_31 (fun zz7_ H locs rr7_ hq7_ hw => ?_)
  have hh7_ : (zz7_ = 1 ∧ (x26_6) = 2 ∧ (x27_6) = (0 : Int)) ∨ (zz7_ = 0 ∧ ¬ ((x26_6) = 2 ∧ (x27_6) = (0 : Int))) := hq7_
  clear hq7_
  rcases hh7_ with ⟨ee7_, hh7_⟩ | ⟨ee7_, hh7_⟩
  · subst ee7_
    have wm_ := hh7_
    clear hh7_
    refine j_if_ne E 37 43 rfl (rr (by decide)) dX10_reads_34 (by decide) (fun _ => ?_) (fun cc8_ => absurd cc8_ (by decide))
    refine j_aload_n E 44 rfl dX10_reads_43 rfl (lv_at hl 0 rfl) ?_
    refine m_callv E (c_X10_next l D cy q (upN (upN (upN (upN (upN (upN n_0 24 x24_6) 25 x25_6) 26 x26_6) 27 x27_6) 37 0) 38 0) (upF (upF f_0 30 y30_6) 31 y31_6)    (show 0 ≤ (n_0 29) ∧ (n_0 29) < 32 from by omega) (show 0 ≤ (n_0 23) ∧ (n_0 23) ≤ 400 from by omega) (show Wds_ (f_0 28) from hp2) (show 0 ≤ (x24_6) ∧ (x24_6) ≤ (n_0 23) from by omega) (show 0 ≤ (y31_6 ((n_0 29))) ∧ (y31_6 ((n_0 29))) ≤ (x24_6) from by omega) (show Tap_ (f_0 22) from hp7)) rfl mt_X10_next ml_X10_269 hK hw hA ⟨Nat.le_of_ble_eq_true rfl, Nat.le_of_ble_eq_true rfl⟩ (As := []) (rest := []) rfl rfl hl.1 (Nat.le_of_ble_eq_true rfl) 47 rfl dX10_reads_44 (fun n_9 f_9 H locs hq9_ hw => ?_)
    obtain ⟨x24_9, x25_9, x26_9, x27_9, y30_9, y31_9, en9_, ef9_, hq9_⟩ := hq9_
    rw [en9_, ef9_] at hw; clear en9_ ef9_
    have hw : WM D cy q (upN (upN (upN (upN (upN (upN n_0 24 x24_9) 25 x25_9) 26 x26_9) 27 x27_9) 37 0) 38 0) (upF (upF f_0 30 y30_9) 31 y31_9) A0 H0 H locs := hw
    have rx24_9 : inR x24_9 := mRn_24 hw.1.2.2.1
    have rx25_9 : inR x25_9 := mRn_25 hw.1.2.2.1
    have rx26_9 : inR x26_9 := mRn_26 hw.1.2.2.1
    have rx27_9 : inR x27_9 := mRn_27 hw.1.2.2.1
    have hh9_ : (0 ≤ (x25_9) ∧ (x25_9) ≤ (x24_9) ∧ (x24_9) ≤ (n_0 23)) ∧ (0 ≤ (y31_9 ((n_0 29))) ∧ (y31_9 ((n_0 29))) ≤ (x24_9)) ∧ (0 ≤ (x26_9) ∧ (x26_9) ≤ 4) ∧ (¬ (x26_9) = 0 → (x25_9) < (x24_9)) ∧ ((x26_9) = 3 → 0 ≤ (x27_9) ∧ (x27_9) ≤ 9999) ∧ (x24_6) ≤ (x25_9) ∧ Kf_ (y31_6) (y30_6) (y31_9) (y30_9) (n_0 29) ∧ (((x26_9) ≤ 1 ∧ (y30_9) = (y30_6) ∧ (y31_9) = (y31_6)) ∨ (2 ≤ (x26_9) ∧ (y30_9) = upA (y30_6) (400 * (n_0 29) + (y31_6 ((n_0 29)))) (te_ (kd_ (x26_9) (x27_9)) (x27_9)) ∧ (y31_9) = upA (y31_6) (n_0 29) ((y31_6 ((n_0 29))) + 1))) ∧ Lx_ (f_0 22) (n_0 23) (x24_6) (kd_ (x26_9) (x27_9)) (x27_9) (x25_9) (x24_9) ∧ Tv_ (x26_9) (x27_9) := hq9_
    clear hq9_
    have k2_ := tk_tr k1_ hh9_.2.2.2.2.2.2.1
    have kq_ := hh9_.2.2.2.2.2.2.1
    have r1_ := rt_nx hp5 r0_ hh9_.2.2.2.2.2.2.2.2.1 rfl hh9_.2.2.2.2.2.2.2.2.2 hh9_.2.2.2.2.2.2.2.1
    refine j_aload_n E 48 rfl dX10_reads_47 rfl (lv_at hl 0 rfl) ?_
    refine m_calli E (c_X10_readSum l D cy q (upN (upN (upN (upN (upN (upN n_0 24 x24_9) 25 x25_9) 26 x26_9) 27 x27_9) 37 0) 38 0) (upF (upF f_0 30 y30_9) 31 y31_9)  0 0 0 K_ V_ P_ Q_ (0 + 1)  (show 0 ≤ (n_0 29) ∧ (n_0 29) < 32 from by omega) (show 0 ≤ (n_0 23) ∧ (n_0 23) ≤ 400 from by omega) (show Wds_ (f_0 28) from hp2) (show 0 ≤ (0 : Int) ∧ (0 ≤ (x25_9) ∧ (x25_9) ≤ (x24_9) ∧ (x24_9) ≤ (n_0 23)) ∧ (0 ≤ (y31_9 ((n_0 29))) ∧ (y31_9 ((n_0 29))) ≤ (x24_9)) ∧ (0 ≤ (x26_9) ∧ (x26_9) ≤ 4) ∧ (¬ (x26_9) = 0 → (x25_9) < (x24_9)) ∧ ((x26_9) = 3 → 0 ≤ (x27_9) ∧ (x27_9) ≤ 9999) ∧ (0 ≤ (0 : Int) ∧ (0 : Int) ≤ (0 : Int)) ∧ (0 : Int) + (0 : Int) ≤ (x25_9) from by omega) (show Pz_ (f_0 32) (f_0 33) (400 * (n_0 29) + (0 : Int)) (400 * (n_0 29) + (0 : Int)) (0 : Int) from Pz_0) (show Strm_ (f_0 22) (n_0 23) K_ V_ P_ Q_ from hp5) (show Rt_ K_ V_ P_ Q_ (x24_9) (x25_9) (x26_9) (x27_9) (tkw_ (y30_9) (y31_9) (n_0 29)) (0 + 1) from r1_) (show Tap_ (f_0 22) from hp7)) rfl mt_X10_readSum ml_X10_282 hK hw hA ⟨Nat.le_of_ble_eq_true rfl, Nat.le_of_ble_eq_true rfl⟩ (As := []) (rest := []) rfl rfl hl.1 (Nat.le_of_ble_eq_true rfl) 51 rfl dX10_reads_48 (fun zz10_ n_10 f_10 H locs rr10_ hq10_ hw => ?_)
    obtain ⟨x24_10, x25_10, x26_10, x27_10, x37_10, x41_10, x42_10, y30_10, y31_10, y32_10, y33_10, en10_, ef10_, hq10_⟩ := hq10_
    rw [en10_, ef10_] at hw; clear en10_ ef10_
    have hw : WM D cy q (upN (upN (upN (upN (upN (upN (upN (upN n_0 24 x24_10) 25 x25_10) 26 x26_10) 27 x27_10) 37 x37_10) 38 0) 41 x41_10) 42 x42_10) (upF (upF (upF (upF f_0 30 y30_10) 31 y31_10) 32 y32_10) 33 y33_10) A0 H0 H locs := hw
    have rx24_10 : inR x24_10 := mRn_24 hw.1.2.2.1
    have rx25_10 : inR x25_10 := mRn_25 hw.1.2.2.1
    have rx26_10 : inR x26_10 := mRn_26 hw.1.2.2.1
    have rx27_10 : inR x27_10 := mRn_27 hw.1.2.2.1
    have rx37_10 : inR x37_10 := mRn_37 hw.1.2.2.1
    have rx41_10 : inR x41_10 := mRn_41 hw.1.2.2.1
    have rx42_10 : inR x42_10 := mRn_42 hw.1.2.2.1
    have hh10_ : (zz10_ = -1 ∧ Fr_ (f_0 32) (f_0 33) (y32_10) (y33_10) (400 * (n_0 29) + (0 : Int)) ∧ Kf_ (y31_9) (y30_9) (y31_10) (y30_10) (n_0 29) ∧ (0 ≤ (y31_10 ((n_0 29))) ∧ (y31_10 ((n_0 29))) ≤ 400) ∧ (∃ jn_ : Int, (x42_10) = P_ jn_ ∧ (1 ≤ (x41_10) ∧ (x41_10) ≤ 3) ∧ Mh_ S3_ K_ V_ (0 + 1) (x41_10) jn_ (cL_ (f_0 32) (f_0 33) (400 * (n_0 29) + (0 : Int)) (400 * (n_0 29) + (0 : Int))))) ∨ (zz10_ = 0 ∧ Fr_ (f_0 32) (f_0 33) (y32_10) (y33_10) (400 * (n_0 29) + (0 : Int)) ∧ Kf_ (y31_9) (y30_9) (y31_10) (y30_10) (n_0 29) ∧ (0 ≤ (y31_10 ((n_0 29))) ∧ (y31_10 ((n_0 29))) ≤ 400) ∧ ((0 ≤ (x25_10) ∧ (x25_10) ≤ (x24_10) ∧ (x24_10) ≤ (n_0 23)) ∧ (0 ≤ (y31_10 ((n_0 29))) ∧ (y31_10 ((n_0 29))) ≤ (x24_10)) ∧ (0 ≤ (x26_10) ∧ (x26_10) ≤ 4) ∧ (¬ (x26_10) = 0 → (x25_10) < (x24_10)) ∧ ((x26_10) = 3 → 0 ≤ (x27_10) ∧ (x27_10) ≤ 9999) ∧ (0 ≤ (0 : Int) ∧ (0 : Int) ≤ (x37_10)) ∧ (x37_10) + (0 : Int) ≤ (x25_10)) ∧ (x25_9) < (x25_10) ∧ (0 : Int) ≤ (x37_10) ∧ Pz_ (y32_10) (y33_10) (400 * (n_0 29) + (0 : Int)) (400 * (n_0 29) + (x37_10)) ((0 : Int) + 1) ∧ (∃ jn_ : Int, (0 + 1) < jn_ ∧ Rt_ K_ V_ P_ Q_ (x24_10) (x25_10) (x26_10) (x27_10) (tkw_ (y30_10) (y31_10) (n_0 29)) jn_ ∧ N4_ K_ jn_ ∧ Mg_ S3_ K_ V_ (0 + 1) jn_ (cL_ (f_0 32) (f_0 33) (400 * (n_0 29) + (0 : Int)) (400 * (n_0 29) + (0 : Int))) (cL_ (y32_10) (y33_10) (400 * (n_0 29) + (0 : Int)) (400 * (n_0 29) + (x37_10))))) := hq10_
    clear hq10_
    rcases hh10_ with ⟨ee10_, hh10_⟩ | ⟨ee10_, hh10_⟩
    · subst ee10_
      have hx_ := hh10_
      clear hh10_
      obtain ⟨jn_, fa_, fb_, fc_⟩ := hx_.2.2.2
      refine j_iconst E 52 rfl dX10_reads_51 ?_
      refine j_icmp_ne E 55 57 rfl (rr (by decide)) (rr (by decide)) dX10_reads_52 (by decide) (fun cc11_ => absurd cc11_ (by decide)) (fun _ => ?_)
      refine j_iconst E 56 rfl dX10_reads_55 ?_
      exact hret 56 ((-1)) (upN (upN (upN (upN (upN (upN (upN (upN (upN n_0 24 x24_10) 25 x25_10) 26 x26_10) 27 x27_10) 37 x37_10) 38 0) 40 (n_0 40)) 41 x41_10) 42 x42_10) (upF (upF (upF (upF (upF (upF (upF (upF f_0 30 y30_10) 31 y31_10) 32 y32_10) 33 y33_10) 34 (f_0 34)) 35 (f_0 35)) 36 (f_0 36)) 39 (f_0 39)) _ _ ls hw (rr (by decide)) ⟨x24_10, x25_10, x26_10, x27_10, x37_10, 0, (n_0 40), x41_10, x42_10, y30_10, y31_10, y32_10, y33_10, (f_0 39), (f_0 34), (f_0 35), (f_0 36), rfl, rfl, Or.inl ⟨rfl, ⟨Fr_tr Fr_rf hx_.1 (by omega), tk_tr k2_ hx_.2.1, hx_.2.2.1, fun i_ h_ => ⟨by first | rfl | exact upA_ne h_, by first | rfl | exact upA_ne h_, by first | rfl | exact upA_ne h_⟩⟩, jn_, fa_, fb_, rd_f1 (rt_w r0_ wm_ (by decide)) fc_ (cL_0 (by omega))⟩⟩ dX10_reads_56
    · subst ee10_
      have h0_ := hh10_
      clear hh10_
      obtain ⟨js_, ja_, rs_, jc_⟩ := h0_.2.2.2.2.2.2.2
      have m3_ := rd_3 (V := V_) (rt_w r0_ wm_ (by decide)) jc_.2 (cL_0 (by omega)) jc_.1
      have k3_ := tk_tr k2_ h0_.2.1
      have fA_ : Fr_ (f_0 32) (f_0 33) (y32_10) (y33_10) (400 * n_0 29) := Fr_tr Fr_rf h0_.1 (by omega)
      obtain ⟨mm1_, hm1_⟩ : ∃ x_ : Int, x_ = (x37_10) := ⟨_, rfl⟩
      have t1_ : ∃ e_, Pz_ (y32_10) (y33_10) (400 * n_0 29 + 0) (400 * n_0 29 + mm1_) e_ := ⟨_, by rw [hm1_]; exact h0_.2.2.2.2.2.2.1⟩
      have m3_ : Ra_ K_ V_ 3 js_ [(cL_ (y32_10) (y33_10) (400 * n_0 29 + 0) (400 * n_0 29 + mm1_))] := by rw [hm1_]; exact m3_
      refine j_iconst E 52 rfl dX10_reads_51 ?_
      refine j_icmp_ne E 55 57 rfl (rr (by decide)) (rr (by decide)) dX10_reads_52 (by decide) (fun _ => ?_) (fun cc12_ => absurd cc12_ (by decide))
      refine j_aload_n E 58 rfl dX10_reads_57 rfl (lv_at hl 0 rfl) ?_
      refine m_ag_34 E hK hw 61 rfl dX10_reads_58 ?_
      refine j_aload_n E 62 rfl dX10_reads_61 rfl (lv_at hl 0 rfl) ?_
      refine m_get_29 E hK hw (n_0 29) rfl 65 rfl dX10_reads_62 (fun _ => ?_)
      refine j_aload_n E 66 rfl dX10_reads_65 rfl (lv_at hl 0 rfl) ?_
      refine m_get_37 E hK hw x37_10 rfl 69 rfl dX10_reads_66 (fun _ => ?_)
      refine m_st_34 E hK hw (by omega) rx37_10 70 rfl dX10_reads_69 (fun H locs hw => ?_)
      have hw : WM D cy q (upN (upN (upN (upN (upN (upN (upN (upN n_0 24 x24_10) 25 x25_10) 26 x26_10) 27 x27_10) 37 x37_10) 38 0) 41 x41_10) 42 x42_10) (upF (upF (upF (upF (upF f_0 30 y30_10) 31 y31_10) 32 y32_10) 33 y33_10) 34 (upA (f_0 34) (n_0 29) x37_10)) A0 H0 H locs := hw
      refine j_aload_n E 71 rfl dX10_reads_70 rfl (lv_at hl 0 rfl) ?_
      refine j_iconst E 72 rfl dX10_reads_71 ?_
      refine m_callp (po := fun z_0 => (z_0 = 1 ∧ (x26_10) = 2 ∧ (x27_10) = (1 : Int)) ∨ (z_0 = 0 ∧ ¬ ((x26_10) = 2 ∧ (x27_10) = (1 : Int)))) E (c_X10_isWord l D cy q (upN (upN (upN (upN (upN (upN (upN (upN n_0 24 x24_10) 25 x25_10) 26 x26_10) 27 x27_10) 37 x37_10) 38 0) 41 x41_10) 42 x42_10) (upF (upF (upF (upF (upF f_0 30 y30_10) 31 y31_10) 32 y32_10) 33 y33_10) 34 (upA (f_0 34) (n_0 29) x37_10)) 1  (rr (by decide)) ) rfl mt_X10_isWord ml_X10_259 hK hw hA ⟨Nat.le_of_ble_eq_true rfl, Nat.le_of_ble_eq_true rfl⟩ (As := [.int (J 1)]) (rest := []) rfl rfl hl.1 (Nat.le_of_ble_eq_true rfl) 75 rfl dX10_reads_72 (fun zz14_ H locs rr14_ hq14_ hw => ?_)
      have hh14_ : (zz14_ = 1 ∧ (x26_10) = 2 ∧ (x27_10) = (1 : Int)) ∨ (zz14_ = 0 ∧ ¬ ((x26_10) = 2 ∧ (x27_10) = (1 : Int))) := hq14_
      clear hq14_
      rcases hh14_ with ⟨ee14_, hh14_⟩ | ⟨ee14_, hh14_⟩
      · subst ee14_
        have ww_ := hh14_
        clear hh14_
        refine j_if_eq E 78 92 rfl (rr (by decide)) dX10_reads_75 (by decide) (fun cc15_ => absurd cc15_ (by decide)) (fun _ => ?_)
        refine j_aload_n E 79 rfl dX10_reads_78 rfl (lv_at hl 0 rfl) ?_
        refine m_callv E (c_X10_next l D cy q (upN (upN (upN (upN (upN (upN (upN (upN n_0 24 x24_10) 25 x25_10) 26 x26_10) 27 x27_10) 37 x37_10) 38 0) 41 x41_10) 42 x42_10) (upF (upF (upF (upF (upF f_0 30 y30_10) 31 y31_10) 32 y32_10) 33 y33_10) 34 (upA (f_0 34) (n_0 29) x37_10))    (show 0 ≤ (n_0 29) ∧ (n_0 29) < 32 from by omega) (show 0 ≤ (n_0 23) ∧ (n_0 23) ≤ 400 from by omega) (show Wds_ (f_0 28) from hp2) (show 0 ≤ (x24_10) ∧ (x24_10) ≤ (n_0 23) from by omega) (show 0 ≤ (y31_10 ((n_0 29))) ∧ (y31_10 ((n_0 29))) ≤ (x24_10) from by omega) (show Tap_ (f_0 22) from hp7)) rfl mt_X10_next ml_X10_269 hK hw hA ⟨Nat.le_of_ble_eq_true rfl, Nat.le_of_ble_eq_true rfl⟩ (As := []) (rest := []) rfl rfl hl.1 (Nat.le_of_ble_eq_true rfl) 82 rfl dX10_reads_79 (fun n_16 f_16 H locs hq16_ hw => ?_)
        obtain ⟨x24_16, x25_16, x26_16, x27_16, y30_16, y31_16, en16_, ef16_, hq16_⟩ := hq16_
        rw [en16_, ef16_] at hw; clear en16_ ef16_
        have hw : WM D cy q (upN (upN (upN (upN (upN (upN (upN (upN n_0 24 x24_16) 25 x25_16) 26 x26_16) 27 x27_16) 37 x37_10) 38 0) 41 x41_10) 42 x42_10) (upF (upF (upF (upF (upF f_0 30 y30_16) 31 y31_16) 32 y32_10) 33 y33_10) 34 (upA (f_0 34) (n_0 29) x37_10)) A0 H0 H locs := hw
        have rx24_16 : inR x24_16 := mRn_24 hw.1.2.2.1
        have rx25_16 : inR x25_16 := mRn_25 hw.1.2.2.1
        have rx26_16 : inR x26_16 := mRn_26 hw.1.2.2.1
        have rx27_16 : inR x27_16 := mRn_27 hw.1.2.2.1
        have hh16_ : (0 ≤ (x25_16) ∧ (x25_16) ≤ (x24_16) ∧ (x24_16) ≤ (n_0 23)) ∧ (0 ≤ (y31_16 ((n_0 29))) ∧ (y31_16 ((n_0 29))) ≤ (x24_16)) ∧ (0 ≤ (x26_16) ∧ (x26_16) ≤ 4) ∧ (¬ (x26_16) = 0 → (x25_16) < (x24_16)) ∧ ((x26_16) = 3 → 0 ≤ (x27_16) ∧ (x27_16) ≤ 9999) ∧ (x24_10) ≤ (x25_16) ∧ Kf_ (y31_10) (y30_10) (y31_16) (y30_16) (n_0 29) ∧ (((x26_16) ≤ 1 ∧ (y30_16) = (y30_10) ∧ (y31_16) = (y31_10)) ∨ (2 ≤ (x26_16) ∧ (y30_16) = upA (y30_10) (400 * (n_0 29) + (y31_10 ((n_0 29)))) (te_ (kd_ (x26_16) (x27_16)) (x27_16)) ∧ (y31_16) = upA (y31_10) (n_0 29) ((y31_10 ((n_0 29))) + 1))) ∧ Lx_ (f_0 22) (n_0 23) (x24_10) (kd_ (x26_16) (x27_16)) (x27_16) (x25_16) (x24_16) ∧ Tv_ (x26_16) (x27_16) := hq16_
        clear hq16_
        have k4_ := tk_tr k3_ hh16_.2.2.2.2.2.2.1
        have kq_ := hh16_.2.2.2.2.2.2.1
        have rw_ := rt_nx hp5 rs_ hh16_.2.2.2.2.2.2.2.2.1 rfl hh16_.2.2.2.2.2.2.2.2.2 hh16_.2.2.2.2.2.2.2.1
        refine j_aload_n E 83 rfl dX10_reads_82 rfl (lv_at hl 0 rfl) ?_
        refine m_calli E (c_X10_readAny l D cy q (upN (upN (upN (upN (upN (upN (upN (upN n_0 24 x24_16) 25 x25_16) 26 x26_16) 27 x27_16) 37 x37_10) 38 0) 41 x41_10) 42 x42_10) (upF (upF (upF (upF (upF f_0 30 y30_16) 31 y31_16) 32 y32_10) 33 y33_10) 34 (upA (f_0 34) (n_0 29) x37_10))  K_ V_ P_ Q_ (js_ + 1)  (show 0 ≤ (n_0 29) ∧ (n_0 29) < 32 from by omega) (show 0 ≤ (n_0 23) ∧ (n_0 23) ≤ 400 from by omega) (show Wds_ (f_0 28) from hp2) (show (0 ≤ (x25_16) ∧ (x25_16) ≤ (x24_16) ∧ (x24_16) ≤ (n_0 23)) ∧ (0 ≤ (y31_16 ((n_0 29))) ∧ (y31_16 ((n_0 29))) ≤ (x24_16)) ∧ (0 ≤ (x26_16) ∧ (x26_16) ≤ 4) ∧ (¬ (x26_16) = 0 → (x25_16) < (x24_16)) ∧ ((x26_16) = 3 → 0 ≤ (x27_16) ∧ (x27_16) ≤ 9999) ∧ (0 ≤ (x37_10) ∧ (x37_10) ≤ (x25_16)) from by omega) (show (0 : Int) = 0 from by omega) (show Strm_ (f_0 22) (n_0 23) K_ V_ P_ Q_ from hp5) (show Rt_ K_ V_ P_ Q_ (x24_16) (x25_16) (x26_16) (x27_16) (tkw_ (y30_16) (y31_16) (n_0 29)) (js_ + 1) from rw_) (show Tap_ (f_0 22) from hp7)) rfl mt_X10_readAny ml_X10_300 hK hw hA ⟨Nat.le_of_ble_eq_true rfl, Nat.le_of_ble_eq_true rfl⟩ (As := []) (rest := []) rfl rfl hl.1 (Nat.le_of_ble_eq_true rfl) 86 rfl dX10_reads_83 (fun zz17_ n_17 f_17 H locs rr17_ hq17_ hw => ?_)
        obtain ⟨x24_17, x25_17, x26_17, x27_17, x37_17, x38_17, x40_17, x41_17, x42_17, y30_17, y31_17, y32_17, y33_17, y39_17, en17_, ef17_, hq17_⟩ := hq17_
        rw [en17_, ef17_] at hw; clear en17_ ef17_
        have hw : WM D cy q (upN (upN (upN (upN (upN (upN (upN (upN (upN n_0 24 x24_17) 25 x25_17) 26 x26_17) 27 x27_17) 37 x37_17) 38 x38_17) 40 x40_17) 41 x41_17) 42 x42_17) (upF (upF (upF (upF (upF (upF f_0 30 y30_17) 31 y31_17) 32 y32_17) 33 y33_17) 34 (upA (f_0 34) (n_0 29) x37_10)) 39 y39_17) A0 H0 H locs := hw
        have rx24_17 : inR x24_17 := mRn_24 hw.1.2.2.1
        have rx25_17 : inR x25_17 := mRn_25 hw.1.2.2.1
        have rx26_17 : inR x26_17 := mRn_26 hw.1.2.2.1
        have rx27_17 : inR x27_17 := mRn_27 hw.1.2.2.1
        have rx37_17 : inR x37_17 := mRn_37 hw.1.2.2.1
        have rx38_17 : inR x38_17 := mRn_38 hw.1.2.2.1
        have rx40_17 : inR x40_17 := mRn_40 hw.1.2.2.1
        have rx41_17 : inR x41_17 := mRn_41 hw.1.2.2.1
        have rx42_17 : inR x42_17 := mRn_42 hw.1.2.2.1
        have hh17_ : (zz17_ = -1 ∧ Fr_ (y32_10) (y33_10) (y32_17) (y33_17) (400 * (n_0 29) + (x37_10)) ∧ Kf_ (y31_16) (y30_16) (y31_17) (y30_17) (n_0 29) ∧ (0 ≤ (y31_17 ((n_0 29))) ∧ (y31_17 ((n_0 29))) ≤ 400) ∧ (∃ jn_ : Int, (x42_17) = P_ jn_ ∧ (1 ≤ (x41_17) ∧ (x41_17) ≤ 3) ∧ Mh4_ K_ V_ (js_ + 1) (x41_17) jn_)) ∨ (zz17_ = 0 ∧ Fr_ (y32_10) (y33_10) (y32_17) (y33_17) (400 * (n_0 29) + (x37_10)) ∧ Kf_ (y31_16) (y30_16) (y31_17) (y30_17) (n_0 29) ∧ (0 ≤ (y31_17 ((n_0 29))) ∧ (y31_17 ((n_0 29))) ≤ 400) ∧ ((0 ≤ (x25_17) ∧ (x25_17) ≤ (x24_17) ∧ (x24_17) ≤ (n_0 23)) ∧ (0 ≤ (y31_17 ((n_0 29))) ∧ (y31_17 ((n_0 29))) ≤ (x24_17)) ∧ (0 ≤ (x26_17) ∧ (x26_17) ≤ 4) ∧ (¬ (x26_17) = 0 → (x25_17) < (x24_17)) ∧ ((x26_17) = 3 → 0 ≤ (x27_17) ∧ (x27_17) ≤ 9999) ∧ (0 ≤ (x37_17) ∧ (x37_17) ≤ (x25_17))) ∧ ((x25_16) ≤ (x25_17) ∧ (x37_10) ≤ (x37_17)) ∧ (x38_17) = 0 ∧ (∃ e_, Pz_ (y32_17) (y33_17) (400 * (n_0 29) + (x37_10)) (400 * (n_0 29) + (x37_17)) e_) ∧ (∃ jn_ : Int, (js_ + 1) ≤ jn_ ∧ Rt_ K_ V_ P_ Q_ (x24_17) (x25_17) (x26_17) (x27_17) (tkw_ (y30_17) (y31_17) (n_0 29)) jn_ ∧ NA_ K_ jn_ ∧ M4_ K_ V_ (js_ + 1) jn_ (cL_ (y32_17) (y33_17) (400 * (n_0 29) + (x37_10)) (400 * (n_0 29) + (x37_17))))) := hq17_
        clear hq17_
        rcases hh17_ with ⟨ee17_, hh17_⟩ | ⟨ee17_, hh17_⟩
        · subst ee17_
          have hx1_ := hh17_
          clear hh17_
          obtain ⟨jn1_, fa1_, fb1_, fc1_⟩ := hx1_.2.2.2
          refine j_iconst E 87 rfl dX10_reads_86 ?_
          refine j_icmp_ne E 90 92 rfl (rr (by decide)) (rr (by decide)) dX10_reads_87 (by decide) (fun cc18_ => absurd cc18_ (by decide)) (fun _ => ?_)
          refine j_iconst E 91 rfl dX10_reads_90 ?_
          exact hret 91 ((-1)) (upN (upN (upN (upN (upN (upN (upN (upN (upN n_0 24 x24_17) 25 x25_17) 26 x26_17) 27 x27_17) 37 x37_17) 38 x38_17) 40 x40_17) 41 x41_17) 42 x42_17) (upF (upF (upF (upF (upF (upF (upF (upF f_0 30 y30_17) 31 y31_17) 32 y32_17) 33 y33_17) 34 (upA (f_0 34) (n_0 29) x37_10)) 35 (f_0 35)) 36 (f_0 36)) 39 y39_17) _ _ ls hw (rr (by decide)) ⟨x24_17, x25_17, x26_17, x27_17, x37_17, x38_17, x40_17, x41_17, x42_17, y30_17, y31_17, y32_17, y33_17, y39_17, (upA (f_0 34) (n_0 29) x37_10), (f_0 35), (f_0 36), rfl, rfl, Or.inl ⟨rfl, ⟨Fr_tr fA_ hx1_.1 (by omega), tk_tr k4_ hx1_.2.1, hx1_.2.2.1, fun i_ h_ => ⟨by first | rfl | exact upA_ne h_, by first | rfl | exact upA_ne h_, by first | rfl | exact upA_ne h_⟩⟩, jn1_, fa1_, fb1_, rd_6f m3_ (rt_w rs_ ww_ (by decide)) fc1_⟩⟩ dX10_reads_91
        · subst ee17_
          have h1_ := hh17_
          clear hh17_
          obtain ⟨ju_, jua_, ru_, jn_, jm_⟩ := h1_.2.2.2.2.2.2.2
          have m6_ : Ra_ K_ V_ 6 ju_ [(cL_ (y32_17) (y33_17) (400 * n_0 29 + mm1_) (400 * n_0 29 + (x37_17))), (cL_ (y32_17) (y33_17) (400 * n_0 29 + 0) (400 * n_0 29 + mm1_))] := by have q_ := rd_6w m3_ (rt_w rs_ ww_ (by decide)) jm_ jn_; rw [cL_fr (lo := 400 * n_0 29 + 0) (hi := 400 * n_0 29 + mm1_) h1_.1 (by omega)]; rw [hm1_] at q_ ⊢; exact q_
          have k5_ := tk_tr k4_ h1_.2.1
          have fB_ : Fr_ (f_0 32) (f_0 33) (y32_17) (y33_17) (400 * n_0 29) := Fr_tr fA_ h1_.1 (by omega)
          have u1_ : ∃ e_, Pz_ (y32_17) (y33_17) (400 * n_0 29 + 0) (400 * n_0 29 + mm1_) e_ := Px_fr t1_ h1_.1 (by omega)
          have u2_ : ∃ e_, Pz_ (y32_17) (y33_17) (400 * n_0 29 + mm1_) (400 * n_0 29 + (x37_17)) e_ := by rw [hm1_]; exact h1_.2.2.2.2.2.2.1
          refine j_iconst E 87 rfl dX10_reads_86 ?_
          refine j_icmp_ne E 90 92 rfl (rr (by decide)) (rr (by decide)) dX10_reads_87 (by decide) (fun _ => ?_) (fun cc19_ => absurd cc19_ (by decide))
          obtain ⟨mm2_, hm2_⟩ : ∃ x_ : Int, x_ = (x37_17) := ⟨_, rfl⟩
          have u2_ : ∃ e_, Pz_ (y32_17) (y33_17) (400 * n_0 29 + mm1_) (400 * n_0 29 + mm2_) e_ := by rw [hm2_]; exact u2_
          have m6_ : Ra_ K_ V_ 6 ju_ [(cL_ (y32_17) (y33_17) (400 * n_0 29 + mm1_) (400 * n_0 29 + mm2_)), (cL_ (y32_17) (y33_17) (400 * n_0 29 + 0) (400 * n_0 29 + mm1_))] := by rw [hm2_]; exact m6_
          refine j_aload_n E 93 rfl dX10_reads_92 rfl (lv_at hl 0 rfl) ?_
          refine m_ag_35 E hK hw 96 rfl dX10_reads_93 ?_
          refine j_aload_n E 97 rfl dX10_reads_96 rfl (lv_at hl 0 rfl) ?_
          refine m_get_29 E hK hw (n_0 29) rfl 100 rfl dX10_reads_97 (fun _ => ?_)
          refine j_aload_n E 101 rfl dX10_reads_100 rfl (lv_at hl 0 rfl) ?_
          refine m_get_37 E hK hw x37_17 rfl 104 rfl dX10_reads_101 (fun _ => ?_)
          refine m_st_35 E hK hw (by omega) rx37_17 105 rfl dX10_reads_104 (fun H locs hw => ?_)
          have hw : WM D cy q (upN (upN (upN (upN (upN (upN (upN (upN (upN n_0 24 x24_17) 25 x25_17) 26 x26_17) 27 x27_17) 37 x37_17) 38 x38_17) 40 x40_17) 41 x41_17) 42 x42_17) (upF (upF (upF (upF (upF (upF (upF f_0 30 y30_17) 31 y31_17) 32 y32_17) 33 y33_17) 34 (upA (f_0 34) (n_0 29) x37_10)) 35 (upA (f_0 35) (n_0 29) x37_17)) 39 y39_17) A0 H0 H locs := hw
          refine j_aload_n E 106 rfl dX10_reads_105 rfl (lv_at hl 0 rfl) ?_
          refine j_iconst E 107 rfl dX10_reads_106 ?_
          refine m_callp (po := fun z_0 => (z_0 = 1 ∧ (x26_17) = 2 ∧ (x27_17) = (2 : Int)) ∨ (z_0 = 0 ∧ ¬ ((x26_17) = 2 ∧ (x27_17) = (2 : Int)))) E (c_X10_isWord l D cy q (upN (upN (upN (upN (upN (upN (upN (upN (upN n_0 24 x24_17) 25 x25_17) 26 x26_17) 27 x27_17) 37 x37_17) 38 x38_17) 40 x40_17) 41 x41_17) 42 x42_17) (upF (upF (upF (upF (upF (upF (upF f_0 30 y30_17) 31 y31_17) 32 y32_17) 33 y33_17) 34 (upA (f_0 34) (n_0 29) x37_10)) 35 (upA (f_0 35) (n_0 29) x37_17)) 39 y39_17) 2  (rr (by decide)) ) rfl mt_X10_isWord ml_X10_259 hK hw hA ⟨Nat.le_of_ble_eq_true rfl, Nat.le_of_ble_eq_true rfl⟩ (As := [.int (J 2)]) (rest := []) rfl rfl hl.1 (Nat.le_of_ble_eq_true rfl) 110 rfl dX10_reads_107 (fun zz21_ H locs rr21_ hq21_ hw => ?_)
          have hh21_ : (zz21_ = 1 ∧ (x26_17) = 2 ∧ (x27_17) = (2 : Int)) ∨ (zz21_ = 0 ∧ ¬ ((x26_17) = 2 ∧ (x27_17) = (2 : Int))) := hq21_
          clear hq21_
          rcases hh21_ with ⟨ee21_, hh21_⟩ | ⟨ee21_, hh21_⟩
          · subst ee21_
            have wu_ := hh21_
            clear hh21_
            refine j_if_eq E 113 127 rfl (rr (by decide)) dX10_reads_110 (by decide) (fun cc22_ => absurd cc22_ (by decide)) (fun _ => ?_)
            refine j_aload_n E 114 rfl dX10_reads_113 rfl (lv_at hl 0 rfl) ?_
            refine m_callv E (c_X10_next l D cy q (upN (upN (upN (upN (upN (upN (upN (upN (upN n_0 24 x24_17) 25 x25_17) 26 x26_17) 27 x27_17) 37 x37_17) 38 x38_17) 40 x40_17) 41 x41_17) 42 x42_17) (upF (upF (upF (upF (upF (upF (upF f_0 30 y30_17) 31 y31_17) 32 y32_17) 33 y33_17) 34 (upA (f_0 34) (n_0 29) x37_10)) 35 (upA (f_0 35) (n_0 29) x37_17)) 39 y39_17)    (show 0 ≤ (n_0 29) ∧ (n_0 29) < 32 from by omega) (show 0 ≤ (n_0 23) ∧ (n_0 23) ≤ 400 from by omega) (show Wds_ (f_0 28) from hp2) (show 0 ≤ (x24_17) ∧ (x24_17) ≤ (n_0 23) from by omega) (show 0 ≤ (y31_17 ((n_0 29))) ∧ (y31_17 ((n_0 29))) ≤ (x24_17) from by omega) (show Tap_ (f_0 22) from hp7)) rfl mt_X10_next ml_X10_269 hK hw hA ⟨Nat.le_of_ble_eq_true rfl, Nat.le_of_ble_eq_true rfl⟩ (As := []) (rest := []) rfl rfl hl.1 (Nat.le_of_ble_eq_true rfl) 117 rfl dX10_reads_114 (fun n_23 f_23 H locs hq23_ hw => ?_)
            obtain ⟨x24_23, x25_23, x26_23, x27_23, y30_23, y31_23, en23_, ef23_, hq23_⟩ := hq23_
            rw [en23_, ef23_] at hw; clear en23_ ef23_
            have hw : WM D cy q (upN (upN (upN (upN (upN (upN (upN (upN (upN n_0 24 x24_23) 25 x25_23) 26 x26_23) 27 x27_23) 37 x37_17) 38 x38_17) 40 x40_17) 41 x41_17) 42 x42_17) (upF (upF (upF (upF (upF (upF (upF f_0 30 y30_23) 31 y31_23) 32 y32_17) 33 y33_17) 34 (upA (f_0 34) (n_0 29) x37_10)) 35 (upA (f_0 35) (n_0 29) x37_17)) 39 y39_17) A0 H0 H locs := hw
            have rx24_23 : inR x24_23 := mRn_24 hw.1.2.2.1
            have rx25_23 : inR x25_23 := mRn_25 hw.1.2.2.1
            have rx26_23 : inR x26_23 := mRn_26 hw.1.2.2.1
            have rx27_23 : inR x27_23 := mRn_27 hw.1.2.2.1
            have hh23_ : (0 ≤ (x25_23) ∧ (x25_23) ≤ (x24_23) ∧ (x24_23) ≤ (n_0 23)) ∧ (0 ≤ (y31_23 ((n_0 29))) ∧ (y31_23 ((n_0 29))) ≤ (x24_23)) ∧ (0 ≤ (x26_23) ∧ (x26_23) ≤ 4) ∧ (¬ (x26_23) = 0 → (x25_23) < (x24_23)) ∧ ((x26_23) = 3 → 0 ≤ (x27_23) ∧ (x27_23) ≤ 9999) ∧ (x24_17) ≤ (x25_23) ∧ Kf_ (y31_17) (y30_17) (y31_23) (y30_23) (n_0 29) ∧ (((x26_23) ≤ 1 ∧ (y30_23) = (y30_17) ∧ (y31_23) = (y31_17)) ∨ (2 ≤ (x26_23) ∧ (y30_23) = upA (y30_17) (400 * (n_0 29) + (y31_17 ((n_0 29)))) (te_ (kd_ (x26_23) (x27_23)) (x27_23)) ∧ (y31_23) = upA (y31_17) (n_0 29) ((y31_17 ((n_0 29))) + 1))) ∧ Lx_ (f_0 22) (n_0 23) (x24_17) (kd_ (x26_23) (x27_23)) (x27_23) (x25_23) (x24_23) ∧ Tv_ (x26_23) (x27_23) := hq23_
            clear hq23_
            have k6_ := tk_tr k5_ hh23_.2.2.2.2.2.2.1
            have kq_ := hh23_.2.2.2.2.2.2.1
            have rx_ := rt_nx hp5 ru_ hh23_.2.2.2.2.2.2.2.2.1 rfl hh23_.2.2.2.2.2.2.2.2.2 hh23_.2.2.2.2.2.2.2.1
            refine j_aload_n E 118 rfl dX10_reads_117 rfl (lv_at hl 0 rfl) ?_
            refine m_calli E (c_X10_readAny l D cy q (upN (upN (upN (upN (upN (upN (upN (upN (upN n_0 24 x24_23) 25 x25_23) 26 x26_23) 27 x27_23) 37 x37_17) 38 x38_17) 40 x40_17) 41 x41_17) 42 x42_17) (upF (upF (upF (upF (upF (upF (upF f_0 30 y30_23) 31 y31_23) 32 y32_17) 33 y33_17) 34 (upA (f_0 34) (n_0 29) x37_10)) 35 (upA (f_0 35) (n_0 29) x37_17)) 39 y39_17)  K_ V_ P_ Q_ (ju_ + 1)  (show 0 ≤ (n_0 29) ∧ (n_0 29) < 32 from by omega) (show 0 ≤ (n_0 23) ∧ (n_0 23) ≤ 400 from by omega) (show Wds_ (f_0 28) from hp2) (show (0 ≤ (x25_23) ∧ (x25_23) ≤ (x24_23) ∧ (x24_23) ≤ (n_0 23)) ∧ (0 ≤ (y31_23 ((n_0 29))) ∧ (y31_23 ((n_0 29))) ≤ (x24_23)) ∧ (0 ≤ (x26_23) ∧ (x26_23) ≤ 4) ∧ (¬ (x26_23) = 0 → (x25_23) < (x24_23)) ∧ ((x26_23) = 3 → 0 ≤ (x27_23) ∧ (x27_23) ≤ 9999) ∧ (0 ≤ (x37_17) ∧ (x37_17) ≤ (x25_23)) from by omega) (show (x38_17) = 0 from by omega) (show Strm_ (f_0 22) (n_0 23) K_ V_ P_ Q_ from hp5) (show Rt_ K_ V_ P_ Q_ (x24_23) (x25_23) (x26_23) (x27_23) (tkw_ (y30_23) (y31_23) (n_0 29)) (ju_ + 1) from rx_) (show Tap_ (f_0 22) from hp7)) rfl mt_X10_readAny ml_X10_300 hK hw hA ⟨Nat.le_of_ble_eq_true rfl, Nat.le_of_ble_eq_true rfl⟩ (As := []) (rest := []) rfl rfl hl.1 (Nat.le_of_ble_eq_true rfl) 121 rfl dX10_reads_118 (fun zz24_ n_24 f_24 H locs rr24_ hq24_ hw => ?_)
            obtain ⟨x24_24, x25_24, x26_24, x27_24, x37_24, x38_24, x40_24, x41_24, x42_24, y30_24, y31_24, y32_24, y33_24, y39_24, en24_, ef24_, hq24_⟩ := hq24_
            rw [en24_, ef24_] at hw; clear en24_ ef24_
            have hw : WM D cy q (upN (upN (upN (upN (upN (upN (upN (upN (upN n_0 24 x24_24) 25 x25_24) 26 x26_24) 27 x27_24) 37 x37_24) 38 x38_24) 40 x40_24) 41 x41_24) 42 x42_24) (upF (upF (upF (upF (upF (upF (upF f_0 30 y30_24) 31 y31_24) 32 y32_24) 33 y33_24) 34 (upA (f_0 34) (n_0 29) x37_10)) 35 (upA (f_0 35) (n_0 29) x37_17)) 39 y39_24) A0 H0 H locs := hw
            have rx24_24 : inR x24_24 := mRn_24 hw.1.2.2.1
            have rx25_24 : inR x25_24 := mRn_25 hw.1.2.2.1
            have rx26_24 : inR x26_24 := mRn_26 hw.1.2.2.1
            have rx27_24 : inR x27_24 := mRn_27 hw.1.2.2.1
            have rx37_24 : inR x37_24 := mRn_37 hw.1.2.2.1
            have rx38_24 : inR x38_24 := mRn_38 hw.1.2.2.1
            have rx40_24 : inR x40_24 := mRn_40 hw.1.2.2.1
            have rx41_24 : inR x41_24 := mRn_41 hw.1.2.2.1
            have rx42_24 : inR x42_24 := mRn_42 hw.1.2.2.1
            have hh24_ : (zz24_ = -1 ∧ Fr_ (y32_17) (y33_17) (y32_24) (y33_24) (400 * (n_0 29) + (x37_17)) ∧ Kf_ (y31_23) (y30_23) (y31_24) (y30_24) (n_0 29) ∧ (0 ≤ (y31_24 ((n_0 29))) ∧ (y31_24 ((n_0 29))) ≤ 400) ∧ (∃ jn_ : Int, (x42_24) = P_ jn_ ∧ (1 ≤ (x41_24) ∧ (x41_24) ≤ 3) ∧ Mh4_ K_ V_ (ju_ + 1) (x41_24) jn_)) ∨ (zz24_ = 0 ∧ Fr_ (y32_17) (y33_17) (y32_24) (y33_24) (400 * (n_0 29) + (x37_17)) ∧ Kf_ (y31_23) (y30_23) (y31_24) (y30_24) (n_0 29) ∧ (0 ≤ (y31_24 ((n_0 29))) ∧ (y31_24 ((n_0 29))) ≤ 400) ∧ ((0 ≤ (x25_24) ∧ (x25_24) ≤ (x24_24) ∧ (x24_24) ≤ (n_0 23)) ∧ (0 ≤ (y31_24 ((n_0 29))) ∧ (y31_24 ((n_0 29))) ≤ (x24_24)) ∧ (0 ≤ (x26_24) ∧ (x26_24) ≤ 4) ∧ (¬ (x26_24) = 0 → (x25_24) < (x24_24)) ∧ ((x26_24) = 3 → 0 ≤ (x27_24) ∧ (x27_24) ≤ 9999) ∧ (0 ≤ (x37_24) ∧ (x37_24) ≤ (x25_24))) ∧ ((x25_23) ≤ (x25_24) ∧ (x37_17) ≤ (x37_24)) ∧ (x38_24) = 0 ∧ (∃ e_, Pz_ (y32_24) (y33_24) (400 * (n_0 29) + (x37_17)) (400 * (n_0 29) + (x37_24)) e_) ∧ (∃ jn_ : Int, (ju_ + 1) ≤ jn_ ∧ Rt_ K_ V_ P_ Q_ (x24_24) (x25_24) (x26_24) (x27_24) (tkw_ (y30_24) (y31_24) (n_0 29)) jn_ ∧ NA_ K_ jn_ ∧ M4_ K_ V_ (ju_ + 1) jn_ (cL_ (y32_24) (y33_24) (400 * (n_0 29) + (x37_17)) (400 * (n_0 29) + (x37_24))))) := hq24_
            clear hq24_
            rcases hh24_ with ⟨ee24_, hh24_⟩ | ⟨ee24_, hh24_⟩
            · subst ee24_
              have hx2_ := hh24_
              clear hh24_
              obtain ⟨jn2_, fa2_, fb2_, fc2_⟩ := hx2_.2.2.2
              refine j_iconst E 122 rfl dX10_reads_121 ?_
              refine j_icmp_ne E 125 127 rfl (rr (by decide)) (rr (by decide)) dX10_reads_122 (by decide) (fun cc25_ => absurd cc25_ (by decide)) (fun _ => ?_)
              refine j_iconst E 126 rfl dX10_reads_125 ?_
              exact hret 126 ((-1)) (upN (upN (upN (upN (upN (upN (upN (upN (upN n_0 24 x24_24) 25 x25_24) 26 x26_24) 27 x27_24) 37 x37_24) 38 x38_24) 40 x40_24) 41 x41_24) 42 x42_24) (upF (upF (upF (upF (upF (upF (upF (upF f_0 30 y30_24) 31 y31_24) 32 y32_24) 33 y33_24) 34 (upA (f_0 34) (n_0 29) x37_10)) 35 (upA (f_0 35) (n_0 29) x37_17)) 36 (f_0 36)) 39 y39_24) _ _ ls hw (rr (by decide)) ⟨x24_24, x25_24, x26_24, x27_24, x37_24, x38_24, x40_24, x41_24, x42_24, y30_24, y31_24, y32_24, y33_24, y39_24, (upA (f_0 34) (n_0 29) x37_10), (upA (f_0 35) (n_0 29) x37_17), (f_0 36), rfl, rfl, Or.inl ⟨rfl, ⟨Fr_tr fB_ hx2_.1 (by omega), tk_tr k6_ hx2_.2.1, hx2_.2.2.1, fun i_ h_ => ⟨by first | rfl | exact upA_ne h_, by first | rfl | exact upA_ne h_, by first | rfl | exact upA_ne h_⟩⟩, jn2_, fa2_, fb2_, rd_7f m6_ (rt_w ru_ wu_ (by decide)) fc2_⟩⟩ dX10_reads_126
            · subst ee24_
              have h2_ := hh24_
              clear hh24_
              obtain ⟨jy_, jya_, ry_, jn3_, jm3_⟩ := h2_.2.2.2.2.2.2.2
              have m7_ : Ra_ K_ V_ 7 jy_ [(cL_ (y32_24) (y33_24) (400 * n_0 29 + mm2_) (400 * n_0 29 + (x37_24))), (cL_ (y32_24) (y33_24) (400 * n_0 29 + mm1_) (400 * n_0 29 + mm2_)), (cL_ (y32_24) (y33_24) (400 * n_0 29 + 0) (400 * n_0 29 + mm1_))] := by have q_ := rd_7w m6_ (rt_w ru_ wu_ (by decide)) jm3_ jn3_; rw [cL_fr (lo := 400 * n_0 29 + mm1_) (hi := 400 * n_0 29 + mm2_) h2_.1 (by omega), cL_fr (lo := 400 * n_0 29 + 0) (hi := 400 * n_0 29 + mm1_) h2_.1 (by omega)]; rw [hm2_] at q_ ⊢; exact q_
              have k7_ := tk_tr k6_ h2_.2.1
              have fC_ : Fr_ (f_0 32) (f_0 33) (y32_24) (y33_24) (400 * n_0 29) := Fr_tr fB_ h2_.1 (by omega)
              have v1_ : ∃ e_, Pz_ (y32_24) (y33_24) (400 * n_0 29 + 0) (400 * n_0 29 + mm1_) e_ := Px_fr u1_ h2_.1 (by omega)
              have v2_ : ∃ e_, Pz_ (y32_24) (y33_24) (400 * n_0 29 + mm1_) (400 * n_0 29 + mm2_) e_ := Px_fr u2_ h2_.1 (by omega)
              have v3_ : ∃ e_, Pz_ (y32_24) (y33_24) (400 * n_0 29 + mm2_) (400 * n_0 29 + (x37_24)) e_ := by rw [hm2_]; exact h2_.2.2.2.2.2.2.1
              refine j_iconst E 122 rfl dX10_reads_121 ?_
              refine j_icmp_ne E 125 127 rfl (rr (by decide)) (rr (by decide)) dX10_reads_122 (by decide) (fun _ => ?_) (fun cc26_ => absurd cc26_ (by decide))
              refine j_aload_n E 128 rfl dX10_reads_127 rfl (lv_at hl 0 rfl) ?_
              refine m_ag_36 E hK hw 131 rfl dX10_reads_128 ?_
              refine j_aload_n E 132 rfl dX10_reads_131 rfl (lv_at hl 0 rfl) ?_
              refine m_get_29 E hK hw (n_0 29) rfl 135 rfl dX10_reads_132 (fun _ => ?_)
              refine j_aload_n E 136 rfl dX10_reads_135 rfl (lv_at hl 0 rfl) ?_
              refine m_get_37 E hK hw x37_24 rfl 139 rfl dX10_reads_136 (fun _ => ?_)
              refine m_st_36 E hK hw (by omega) rx37_24 140 rfl dX10_reads_139 (fun H locs hw => ?_)
              have hw : WM D cy q (upN (upN (upN (upN (upN (upN (upN (upN (upN n_0 24 x24_24) 25 x25_24) 26 x26_24) 27 x27_24) 37 x37_24) 38 x38_24) 40 x40_24) 41 x41_24) 42 x42_24) (upF (upF (upF (upF (upF (upF (upF (upF f_0 30 y30_24) 31 y31_24) 32 y32_24) 33 y33_24) 34 (upA (f_0 34) (n_0 29) x37_10)) 35 (upA (f_0 35) (n_0 29) x37_17)) 36 (upA (f_0 36) (n_0 29) x37_24)) 39 y39_24) A0 H0 H locs := hw
              refine j_aload_n E 141 rfl dX10_reads_140 rfl (lv_at hl 0 rfl) ?_
              refine j_bipush E 143 rfl dX10_reads_141 (by decide) ?_
              refine m_callp (po := fun z_0 => (z_0 = 1 ∧ (x26_24) = 4 ∧ (x27_24) = (59 : Int)) ∨ (z_0 = 0 ∧ ¬ ((x26_24) = 4 ∧ (x27_24) = (59 : Int)))) E (c_X10_isSign l D cy q (upN (upN (upN (upN (upN (upN (upN (upN (upN n_0 24 x24_24) 25 x25_24) 26 x26_24) 27 x27_24) 37 x37_24) 38 x38_24) 40 x40_24) 41 x41_24) 42 x42_24) (upF (upF (upF (upF (upF (upF (upF (upF f_0 30 y30_24) 31 y31_24) 32 y32_24) 33 y33_24) 34 (upA (f_0 34) (n_0 29) x37_10)) 35 (upA (f_0 35) (n_0 29) x37_17)) 36 (upA (f_0 36) (n_0 29) x37_24)) 39 y39_24) 59  (rr (by decide)) ) rfl mt_X10_isSign ml_X10_276 hK hw hA ⟨Nat.le_of_ble_eq_true rfl, Nat.le_of_ble_eq_true rfl⟩ (As := [.int (J 59)]) (rest := []) rfl rfl hl.1 (Nat.le_of_ble_eq_true rfl) 146 rfl dX10_reads_143 (fun zz28_ H locs rr28_ hq28_ hw => ?_)
              have hh28_ : (zz28_ = 1 ∧ (x26_24) = 4 ∧ (x27_24) = (59 : Int)) ∨ (zz28_ = 0 ∧ ¬ ((x26_24) = 4 ∧ (x27_24) = (59 : Int))) := hq28_
              clear hq28_
              rcases hh28_ with ⟨ee28_, hh28_⟩ | ⟨ee28_, hh28_⟩
              · subst ee28_
                have ss_ := hh28_
                clear hh28_
                refine j_if_ne E 149 155 rfl (rr (by decide)) dX10_reads_146 (by decide) (fun _ => ?_) (fun cc29_ => absurd cc29_ (by decide))
                refine j_aload_n E 156 rfl dX10_reads_155 rfl (lv_at hl 0 rfl) ?_
                refine m_callv E (c_X10_next l D cy q (upN (upN (upN (upN (upN (upN (upN (upN (upN n_0 24 x24_24) 25 x25_24) 26 x26_24) 27 x27_24) 37 x37_24) 38 x38_24) 40 x40_24) 41 x41_24) 42 x42_24) (upF (upF (upF (upF (upF (upF (upF (upF f_0 30 y30_24) 31 y31_24) 32 y32_24) 33 y33_24) 34 (upA (f_0 34) (n_0 29) x37_10)) 35 (upA (f_0 35) (n_0 29) x37_17)) 36 (upA (f_0 36) (n_0 29) x37_24)) 39 y39_24)    (show 0 ≤ (n_0 29) ∧ (n_0 29) < 32 from by omega) (show 0 ≤ (n_0 23) ∧ (n_0 23) ≤ 400 from by omega) (show Wds_ (f_0 28) from hp2) (show 0 ≤ (x24_24) ∧ (x24_24) ≤ (n_0 23) from by omega) (show 0 ≤ (y31_24 ((n_0 29))) ∧ (y31_24 ((n_0 29))) ≤ (x24_24) from by omega) (show Tap_ (f_0 22) from hp7)) rfl mt_X10_next ml_X10_269 hK hw hA ⟨Nat.le_of_ble_eq_true rfl, Nat.le_of_ble_eq_true rfl⟩ (As := []) (rest := []) rfl rfl hl.1 (Nat.le_of_ble_eq_true rfl) 159 rfl dX10_reads_156 (fun n_30 f_30 H locs hq30_ hw => ?_)
                obtain ⟨x24_30, x25_30, x26_30, x27_30, y30_30, y31_30, en30_, ef30_, hq30_⟩ := hq30_
                rw [en30_, ef30_] at hw; clear en30_ ef30_
                have hw : WM D cy q (upN (upN (upN (upN (upN (upN (upN (upN (upN n_0 24 x24_30) 25 x25_30) 26 x26_30) 27 x27_30) 37 x37_24) 38 x38_24) 40 x40_24) 41 x41_24) 42 x42_24) (upF (upF (upF (upF (upF (upF (upF (upF f_0 30 y30_30) 31 y31_30) 32 y32_24) 33 y33_24) 34 (upA (f_0 34) (n_0 29) x37_10)) 35 (upA (f_0 35) (n_0 29) x37_17)) 36 (upA (f_0 36) (n_0 29) x37_24)) 39 y39_24) A0 H0 H locs := hw
                have rx24_30 : inR x24_30 := mRn_24 hw.1.2.2.1
                have rx25_30 : inR x25_30 := mRn_25 hw.1.2.2.1
                have rx26_30 : inR x26_30 := mRn_26 hw.1.2.2.1
                have rx27_30 : inR x27_30 := mRn_27 hw.1.2.2.1
                have hh30_ : (0 ≤ (x25_30) ∧ (x25_30) ≤ (x24_30) ∧ (x24_30) ≤ (n_0 23)) ∧ (0 ≤ (y31_30 ((n_0 29))) ∧ (y31_30 ((n_0 29))) ≤ (x24_30)) ∧ (0 ≤ (x26_30) ∧ (x26_30) ≤ 4) ∧ (¬ (x26_30) = 0 → (x25_30) < (x24_30)) ∧ ((x26_30) = 3 → 0 ≤ (x27_30) ∧ (x27_30) ≤ 9999) ∧ (x24_24) ≤ (x25_30) ∧ Kf_ (y31_24) (y30_24) (y31_30) (y30_30) (n_0 29) ∧ (((x26_30) ≤ 1 ∧ (y30_30) = (y30_24) ∧ (y31_30) = (y31_24)) ∨ (2 ≤ (x26_30) ∧ (y30_30) = upA (y30_24) (400 * (n_0 29) + (y31_24 ((n_0 29)))) (te_ (kd_ (x26_30) (x27_30)) (x27_30)) ∧ (y31_30) = upA (y31_24) (n_0 29) ((y31_24 ((n_0 29))) + 1))) ∧ Lx_ (f_0 22) (n_0 23) (x24_24) (kd_ (x26_30) (x27_30)) (x27_30) (x25_30) (x24_30) ∧ Tv_ (x26_30) (x27_30) := hq30_
                clear hq30_
                have k8_ := tk_tr k7_ hh30_.2.2.2.2.2.2.1
                have kq_ := hh30_.2.2.2.2.2.2.1
                have rz_ := rt_nx hp5 ry_ hh30_.2.2.2.2.2.2.2.2.1 rfl hh30_.2.2.2.2.2.2.2.2.2 hh30_.2.2.2.2.2.2.2.1
                refine j_aload_n E 160 rfl dX10_reads_159 rfl (lv_at hl 0 rfl) ?_
                refine m_get_26 E hK hw x26_30 rfl 163 rfl dX10_reads_160 (fun _ => ?_)
                refine j_if_ne E 166 170 rfl rx26_30 dX10_reads_163 (by decide) (fun cc31_ => ?_) (fun cc31_ => ?_)
                · refine j_aload_n E 171 rfl dX10_reads_170 rfl (lv_at hl 0 rfl) ?_
                  refine j_iconst E 172 rfl dX10_reads_171 ?_
                  refine m_calli E (c_X10_fails l D cy q (upN (upN (upN (upN (upN (upN (upN (upN (upN n_0 24 x24_30) 25 x25_30) 26 x26_30) 27 x27_30) 37 x37_24) 38 x38_24) 40 x40_24) 41 x41_24) 42 x42_24) (upF (upF (upF (upF (upF (upF (upF (upF f_0 30 y30_30) 31 y31_30) 32 y32_24) 33 y33_24) 34 (upA (f_0 34) (n_0 29) x37_10)) 35 (upA (f_0 35) (n_0 29) x37_17)) 36 (upA (f_0 36) (n_0 29) x37_24)) 39 y39_24) 1  (rr (by decide)) ) rfl mt_X10_fails ml_X10_262 hK hw hA ⟨Nat.le_of_ble_eq_true rfl, Nat.le_of_ble_eq_true rfl⟩ (As := [.int (J 1)]) (rest := []) rfl rfl hl.1 (Nat.le_of_ble_eq_true rfl) 175 rfl dX10_reads_172 (fun zz32_ n_32 f_32 H locs rr32_ hq32_ hw => ?_)
                  obtain ⟨x41_32, x42_32, en32_, ef32_, hq32_⟩ := hq32_
                  rw [en32_, ef32_] at hw; clear en32_ ef32_
                  have hw : WM D cy q (upN (upN (upN (upN (upN (upN (upN (upN (upN n_0 24 x24_30) 25 x25_30) 26 x26_30) 27 x27_30) 37 x37_24) 38 x38_24) 40 x40_24) 41 x41_32) 42 x42_32) (upF (upF (upF (upF (upF (upF (upF (upF f_0 30 y30_30) 31 y31_30) 32 y32_24) 33 y33_24) 34 (upA (f_0 34) (n_0 29) x37_10)) 35 (upA (f_0 35) (n_0 29) x37_17)) 36 (upA (f_0 36) (n_0 29) x37_24)) 39 y39_24) A0 H0 H locs := hw
                  have rx41_32 : inR x41_32 := mRn_41 hw.1.2.2.1
                  have rx42_32 : inR x42_32 := mRn_42 hw.1.2.2.1
                  have hh32_ : zz32_ = -1 ∧ (x41_32) = (1 : Int) ∧ (x42_32) = (x25_30) := hq32_
                  clear hq32_
                  have hq_ := hh32_
                  clear hh32_
                  exact hret 175 zz32_ (upN (upN (upN (upN (upN (upN (upN (upN (upN n_0 24 x24_30) 25 x25_30) 26 x26_30) 27 x27_30) 37 x37_24) 38 x38_24) 40 x40_24) 41 x41_32) 42 x42_32) (upF (upF (upF (upF (upF (upF (upF (upF f_0 30 y30_30) 31 y31_30) 32 y32_24) 33 y33_24) 34 (upA (f_0 34) (n_0 29) x37_10)) 35 (upA (f_0 35) (n_0 29) x37_17)) 36 (upA (f_0 36) (n_0 29) x37_24)) 39 y39_24) _ _ ls hw rr32_ ⟨x24_30, x25_30, x26_30, x27_30, x37_24, x38_24, x40_24, x41_32, x42_32, y30_30, y31_30, y32_24, y33_24, y39_24, (upA (f_0 34) (n_0 29) x37_10), (upA (f_0 35) (n_0 29) x37_17), (upA (f_0 36) (n_0 29) x37_24), rfl, rfl, by first | exact Or.inr ⟨rfl, ⟨fC_, k8_, by omega, fun i_ h_ => ⟨by first | rfl | exact upA_ne h_, by first | rfl | exact upA_ne h_, by first | rfl | exact upA_ne h_⟩⟩, by rw [upA_same, upA_same, upA_same]; exact CodW_of (by omega) (by rw [hm1_] at v1_; exact v1_) (by rw [hm1_, hm2_] at v2_; exact v2_) (by rw [hm2_] at v3_; exact v3_), _, rz_.1, by rw [upA_same, upA_same, upA_same]; have q_ := rd_9 (rd_8 m7_ (rt_s ry_ ss_)) (rt_e rz_ (by omega)); rw [hm1_, hm2_] at q_; exact q_, rd_tok (rd_9 (rd_8 m7_ (rt_s ry_ ss_)) (rt_e rz_ (by omega))) rz_ (by omega)⟩ | exact Or.inl ⟨by omega, ⟨fC_, k8_, by omega, fun i_ h_ => ⟨by first | rfl | exact upA_ne h_, by first | rfl | exact upA_ne h_, by first | rfl | exact upA_ne h_⟩⟩, _, by rw [hq_.2.2]; exact rz_.2.2.1, by omega, by rw [hq_.2.1]; exact rd_9f (rd_8 m7_ (rt_s ry_ ss_)) (rt_ne rz_ (by omega))⟩⟩ dX10_reads_175
                · refine j_iconst E 167 rfl dX10_reads_166 ?_
                  refine j_goto E 175 dX10_reads_167 (by decide) ?_
                  exact hret 175 0 (upN (upN (upN (upN (upN (upN (upN (upN (upN n_0 24 x24_30) 25 x25_30) 26 x26_30) 27 x27_30) 37 x37_24) 38 x38_24) 40 x40_24) 41 x41_24) 42 x42_24) (upF (upF (upF (upF (upF (upF (upF (upF f_0 30 y30_30) 31 y31_30) 32 y32_24) 33 y33_24) 34 (upA (f_0 34) (n_0 29) x37_10)) 35 (upA (f_0 35) (n_0 29) x37_17)) 36 (upA (f_0 36) (n_0 29) x37_24)) 39 y39_24) _ _ ls hw (rr (by decide)) ⟨x24_30, x25_30, x26_30, x27_30, x37_24, x38_24, x40_24, x41_24, x42_24, y30_30, y31_30, y32_24, y33_24, y39_24, (upA (f_0 34) (n_0 29) x37_10), (upA (f_0 35) (n_0 29) x37_17), (upA (f_0 36) (n_0 29) x37_24), rfl, rfl, by first | exact Or.inr ⟨rfl, ⟨fC_, k8_, by omega, fun i_ h_ => ⟨by first | rfl | exact upA_ne h_, by first | rfl | exact upA_ne h_, by first | rfl | exact upA_ne h_⟩⟩, by rw [upA_same, upA_same, upA_same]; exact CodW_of (by omega) (by rw [hm1_] at v1_; exact v1_) (by rw [hm1_, hm2_] at v2_; exact v2_) (by rw [hm2_] at v3_; exact v3_), _, rz_.1, by rw [upA_same, upA_same, upA_same]; have q_ := rd_9 (rd_8 m7_ (rt_s ry_ ss_)) (rt_e rz_ (by omega)); rw [hm1_, hm2_] at q_; exact q_, rd_tok (rd_9 (rd_8 m7_ (rt_s ry_ ss_)) (rt_e rz_ (by omega))) rz_ (by omega)⟩ | exact Or.inl ⟨by omega, ⟨fC_, k8_, by omega, fun i_ h_ => ⟨by first | rfl | exact upA_ne h_, by first | rfl | exact upA_ne h_, by first | rfl | exact upA_ne h_⟩⟩, _, by rw [hq_.2.2]; exact rz_.2.2.1, by omega, by rw [hq_.2.1]; exact rd_9f (rd_8 m7_ (rt_s ry_ ss_)) (rt_ne rz_ (by omega))⟩⟩ dX10_reads_175
              · subst ee28_
                have ss_ := hh28_
                clear hh28_
                refine j_if_ne E 149 155 rfl (rr (by decide)) dX10_reads_146 (by decide) (fun cc33_ => absurd cc33_ (by decide)) (fun _ => ?_)
                refine j_aload_n E 150 rfl dX10_reads_149 rfl (lv_at hl 0 rfl) ?_
                refine j_iconst E 151 rfl dX10_reads_150 ?_
                refine m_calli E (c_X10_fails l D cy q (upN (upN (upN (upN (upN (upN (upN (upN (upN n_0 24 x24_24) 25 x25_24) 26 x26_24) 27 x27_24) 37 x37_24) 38 x38_24) 40 x40_24) 41 x41_24) 42 x42_24) (upF (upF (upF (upF (upF (upF (upF (upF f_0 30 y30_24) 31 y31_24) 32 y32_24) 33 y33_24) 34 (upA (f_0 34) (n_0 29) x37_10)) 35 (upA (f_0 35) (n_0 29) x37_17)) 36 (upA (f_0 36) (n_0 29) x37_24)) 39 y39_24) 1  (rr (by decide)) ) rfl mt_X10_fails ml_X10_262 hK hw hA ⟨Nat.le_of_ble_eq_true rfl, Nat.le_of_ble_eq_true rfl⟩ (As := [.int (J 1)]) (rest := []) rfl rfl hl.1 (Nat.le_of_ble_eq_true rfl) 154 rfl dX10_reads_151 (fun zz34_ n_34 f_34 H locs rr34_ hq34_ hw => ?_)
                obtain ⟨x41_34, x42_34, en34_, ef34_, hq34_⟩ := hq34_
                rw [en34_, ef34_] at hw; clear en34_ ef34_
                have hw : WM D cy q (upN (upN (upN (upN (upN (upN (upN (upN (upN n_0 24 x24_24) 25 x25_24) 26 x26_24) 27 x27_24) 37 x37_24) 38 x38_24) 40 x40_24) 41 x41_34) 42 x42_34) (upF (upF (upF (upF (upF (upF (upF (upF f_0 30 y30_24) 31 y31_24) 32 y32_24) 33 y33_24) 34 (upA (f_0 34) (n_0 29) x37_10)) 35 (upA (f_0 35) (n_0 29) x37_17)) 36 (upA (f_0 36) (n_0 29) x37_24)) 39 y39_24) A0 H0 H locs := hw
                have rx41_34 : inR x41_34 := mRn_41 hw.1.2.2.1
                have rx42_34 : inR x42_34 := mRn_42 hw.1.2.2.1
                have hh34_ : zz34_ = -1 ∧ (x41_34) = (1 : Int) ∧ (x42_34) = (x25_24) := hq34_
                clear hq34_
                have hq_ := hh34_
                clear hh34_
                exact hret 154 zz34_ (upN (upN (upN (upN (upN (upN (upN (upN (upN n_0 24 x24_24) 25 x25_24) 26 x26_24) 27 x27_24) 37 x37_24) 38 x38_24) 40 x40_24) 41 x41_34) 42 x42_34) (upF (upF (upF (upF (upF (upF (upF (upF f_0 30 y30_24) 31 y31_24) 32 y32_24) 33 y33_24) 34 (upA (f_0 34) (n_0 29) x37_10)) 35 (upA (f_0 35) (n_0 29) x37_17)) 36 (upA (f_0 36) (n_0 29) x37_24)) 39 y39_24) _ _ ls hw rr34_ ⟨x24_24, x25_24, x26_24, x27_24, x37_24, x38_24, x40_24, x41_34, x42_34, y30_24, y31_24, y32_24, y33_24, y39_24, (upA (f_0 34) (n_0 29) x37_10), (upA (f_0 35) (n_0 29) x37_17), (upA (f_0 36) (n_0 29) x37_24), rfl, rfl, Or.inl ⟨by omega, ⟨fC_, k7_, by omega, fun i_ h_ => ⟨by first | rfl | exact upA_ne h_, by first | rfl | exact upA_ne h_, by first | rfl | exact upA_ne h_⟩⟩, jy_, by rw [hq_.2.2]; exact ry_.2.2.1, by omega, by rw [hq_.2.1]; exact rd_8f m7_ (rt_ns ry_ ss_ (by decide))⟩⟩ dX10_reads_154
          · subst ee21_
            have wu_ := hh21_
            clear hh21_
            obtain ⟨jy_, ry_, m7_⟩ : ∃ jy_ : Int, Rt_ K_ V_ P_ Q_ (x24_17) (x25_17) (x26_17) (x27_17) (tkw_ (y30_17) (y31_17) (n_0 29)) jy_ ∧ Ra_ K_ V_ 7 jy_ [(cL_ (y32_17) (y33_17) (400 * n_0 29 + mm2_) (400 * n_0 29 + (x37_17))), (cL_ (y32_17) (y33_17) (400 * n_0 29 + mm1_) (400 * n_0 29 + mm2_)), (cL_ (y32_17) (y33_17) (400 * n_0 29 + 0) (400 * n_0 29 + mm1_))] := ⟨ju_, ru_, by rw [cL_0 (show 400 * n_0 29 + mm2_ = 400 * n_0 29 + (x37_17) by omega)]; exact rd_7n m6_ (rt_nw ru_ wu_ (by decide))⟩
            have k7_ := k5_
            have fC_ := fB_
            have v1_ := u1_
            have v2_ := u2_
            have v3_ : ∃ e_, Pz_ (y32_17) (y33_17) (400 * n_0 29 + mm2_) (400 * n_0 29 + (x37_17)) e_ := ⟨0, by rw [hm2_]; exact Pz_0⟩
            refine j_if_eq E 113 127 rfl (rr (by decide)) dX10_reads_110 (by decide) (fun _ => ?_) (fun cc35_ => absurd cc35_ (by decide))
            refine j_aload_n E 128 rfl dX10_reads_127 rfl (lv_at hl 0 rfl) ?_
            refine m_ag_36 E hK hw 131 rfl dX10_reads_128 ?_
            refine j_aload_n E 132 rfl dX10_reads_131 rfl (lv_at hl 0 rfl) ?_
            refine m_get_29 E hK hw (n_0 29) rfl 135 rfl dX10_reads_132 (fun _ => ?_)
            refine j_aload_n E 136 rfl dX10_reads_135 rfl (lv_at hl 0 rfl) ?_
            refine m_get_37 E hK hw x37_17 rfl 139 rfl dX10_reads_136 (fun _ => ?_)
            refine m_st_36 E hK hw (by omega) rx37_17 140 rfl dX10_reads_139 (fun H locs hw => ?_)
            have hw : WM D cy q (upN (upN (upN (upN (upN (upN (upN (upN (upN n_0 24 x24_17) 25 x25_17) 26 x26_17) 27 x27_17) 37 x37_17) 38 x38_17) 40 x40_17) 41 x41_17) 42 x42_17) (upF (upF (upF (upF (upF (upF (upF (upF f_0 30 y30_17) 31 y31_17) 32 y32_17) 33 y33_17) 34 (upA (f_0 34) (n_0 29) x37_10)) 35 (upA (f_0 35) (n_0 29) x37_17)) 36 (upA (f_0 36) (n_0 29) x37_17)) 39 y39_17) A0 H0 H locs := hw
            refine j_aload_n E 141 rfl dX10_reads_140 rfl (lv_at hl 0 rfl) ?_
            refine j_bipush E 143 rfl dX10_reads_141 (by decide) ?_
            refine m_callp (po := fun z_0 => (z_0 = 1 ∧ (x26_17) = 4 ∧ (x27_17) = (59 : Int)) ∨ (z_0 = 0 ∧ ¬ ((x26_17) = 4 ∧ (x27_17) = (59 : Int)))) E (c_X10_isSign l D cy q (upN (upN (upN (upN (upN (upN (upN (upN (upN n_0 24 x24_17) 25 x25_17) 26 x26_17) 27 x27_17) 37 x37_17) 38 x38_17) 40 x40_17) 41 x41_17) 42 x42_17) (upF (upF (upF (upF (upF (upF (upF (upF f_0 30 y30_17) 31 y31_17) 32 y32_17) 33 y33_17) 34 (upA (f_0 34) (n_0 29) x37_10)) 35 (upA (f_0 35) (n_0 29) x37_17)) 36 (upA (f_0 36) (n_0 29) x37_17)) 39 y39_17) 59  (rr (by decide)) ) rfl mt_X10_isSign ml_X10_276 hK hw hA ⟨Nat.le_of_ble_eq_true rfl, Nat.le_of_ble_eq_true rfl⟩ (As := [.int (J 59)]) (rest := []) rfl rfl hl.1 (Nat.le_of_ble_eq_true rfl) 146 rfl dX10_reads_143 (fun zz37_ H locs rr37_ hq37_ hw => ?_)
            have hh37_ : (zz37_ = 1 ∧ (x26_17) = 4 ∧ (x27_17) = (59 : Int)) ∨ (zz37_ = 0 ∧ ¬ ((x26_17) = 4 ∧ (x27_17) = (59 : Int))) := hq37_
            clear hq37_
            rcases hh37_ with ⟨ee37_, hh37_⟩ | ⟨ee37_, hh37_⟩
            · subst ee37_
              have ss_ := hh37_
              clear hh37_
              refine j_if_ne E 149 155 rfl (rr (by decide)) dX10_reads_146 (by decide) (fun _ => ?_) (fun cc38_ => absurd cc38_ (by decide))
              refine j_aload_n E 156 rfl dX10_reads_155 rfl (lv_at hl 0 rfl) ?_
              refine m_callv E (c_X10_next l D cy q (upN (upN (upN (upN (upN (upN (upN (upN (upN n_0 24 x24_17) 25 x25_17) 26 x26_17) 27 x27_17) 37 x37_17) 38 x38_17) 40 x40_17) 41 x41_17) 42 x42_17) (upF (upF (upF (upF (upF (upF (upF (upF f_0 30 y30_17) 31 y31_17) 32 y32_17) 33 y33_17) 34 (upA (f_0 34) (n_0 29) x37_10)) 35 (upA (f_0 35) (n_0 29) x37_17)) 36 (upA (f_0 36) (n_0 29) x37_17)) 39 y39_17)    (show 0 ≤ (n_0 29) ∧ (n_0 29) < 32 from by omega) (show 0 ≤ (n_0 23) ∧ (n_0 23) ≤ 400 from by omega) (show Wds_ (f_0 28) from hp2) (show 0 ≤ (x24_17) ∧ (x24_17) ≤ (n_0 23) from by omega) (show 0 ≤ (y31_17 ((n_0 29))) ∧ (y31_17 ((n_0 29))) ≤ (x24_17) from by omega) (show Tap_ (f_0 22) from hp7)) rfl mt_X10_next ml_X10_269 hK hw hA ⟨Nat.le_of_ble_eq_true rfl, Nat.le_of_ble_eq_true rfl⟩ (As := []) (rest := []) rfl rfl hl.1 (Nat.le_of_ble_eq_true rfl) 159 rfl dX10_reads_156 (fun n_39 f_39 H locs hq39_ hw => ?_)
              obtain ⟨x24_39, x25_39, x26_39, x27_39, y30_39, y31_39, en39_, ef39_, hq39_⟩ := hq39_
              rw [en39_, ef39_] at hw; clear en39_ ef39_
              have hw : WM D cy q (upN (upN (upN (upN (upN (upN (upN (upN (upN n_0 24 x24_39) 25 x25_39) 26 x26_39) 27 x27_39) 37 x37_17) 38 x38_17) 40 x40_17) 41 x41_17) 42 x42_17) (upF (upF (upF (upF (upF (upF (upF (upF f_0 30 y30_39) 31 y31_39) 32 y32_17) 33 y33_17) 34 (upA (f_0 34) (n_0 29) x37_10)) 35 (upA (f_0 35) (n_0 29) x37_17)) 36 (upA (f_0 36) (n_0 29) x37_17)) 39 y39_17) A0 H0 H locs := hw
              have rx24_39 : inR x24_39 := mRn_24 hw.1.2.2.1
              have rx25_39 : inR x25_39 := mRn_25 hw.1.2.2.1
              have rx26_39 : inR x26_39 := mRn_26 hw.1.2.2.1
              have rx27_39 : inR x27_39 := mRn_27 hw.1.2.2.1
              have hh39_ : (0 ≤ (x25_39) ∧ (x25_39) ≤ (x24_39) ∧ (x24_39) ≤ (n_0 23)) ∧ (0 ≤ (y31_39 ((n_0 29))) ∧ (y31_39 ((n_0 29))) ≤ (x24_39)) ∧ (0 ≤ (x26_39) ∧ (x26_39) ≤ 4) ∧ (¬ (x26_39) = 0 → (x25_39) < (x24_39)) ∧ ((x26_39) = 3 → 0 ≤ (x27_39) ∧ (x27_39) ≤ 9999) ∧ (x24_17) ≤ (x25_39) ∧ Kf_ (y31_17) (y30_17) (y31_39) (y30_39) (n_0 29) ∧ (((x26_39) ≤ 1 ∧ (y30_39) = (y30_17) ∧ (y31_39) = (y31_17)) ∨ (2 ≤ (x26_39) ∧ (y30_39) = upA (y30_17) (400 * (n_0 29) + (y31_17 ((n_0 29)))) (te_ (kd_ (x26_39) (x27_39)) (x27_39)) ∧ (y31_39) = upA (y31_17) (n_0 29) ((y31_17 ((n_0 29))) + 1))) ∧ Lx_ (f_0 22) (n_0 23) (x24_17) (kd_ (x26_39) (x27_39)) (x27_39) (x25_39) (x24_39) ∧ Tv_ (x26_39) (x27_39) := hq39_
              clear hq39_
              have k8_ := tk_tr k7_ hh39_.2.2.2.2.2.2.1
              have kq_ := hh39_.2.2.2.2.2.2.1
              have rz_ := rt_nx hp5 ry_ hh39_.2.2.2.2.2.2.2.2.1 rfl hh39_.2.2.2.2.2.2.2.2.2 hh39_.2.2.2.2.2.2.2.1
              refine j_aload_n E 160 rfl dX10_reads_159 rfl (lv_at hl 0 rfl) ?_
              refine m_get_26 E hK hw x26_39 rfl 163 rfl dX10_reads_160 (fun _ => ?_)
              refine j_if_ne E 166 170 rfl rx26_39 dX10_reads_163 (by decide) (fun cc40_ => ?_) (fun cc40_ => ?_)
              · refine j_aload_n E 171 rfl dX10_reads_170 rfl (lv_at hl 0 rfl) ?_
                refine j_iconst E 172 rfl dX10_reads_171 ?_
                refine m_calli E (c_X10_fails l D cy q (upN (upN (upN (upN (upN (upN (upN (upN (upN n_0 24 x24_39) 25 x25_39) 26 x26_39) 27 x27_39) 37 x37_17) 38 x38_17) 40 x40_17) 41 x41_17) 42 x42_17) (upF (upF (upF (upF (upF (upF (upF (upF f_0 30 y30_39) 31 y31_39) 32 y32_17) 33 y33_17) 34 (upA (f_0 34) (n_0 29) x37_10)) 35 (upA (f_0 35) (n_0 29) x37_17)) 36 (upA (f_0 36) (n_0 29) x37_17)) 39 y39_17) 1  (rr (by decide)) ) rfl mt_X10_fails ml_X10_262 hK hw hA ⟨Nat.le_of_ble_eq_true rfl, Nat.le_of_ble_eq_true rfl⟩ (As := [.int (J 1)]) (rest := []) rfl rfl hl.1 (Nat.le_of_ble_eq_true rfl) 175 rfl dX10_reads_172 (fun zz41_ n_41 f_41 H locs rr41_ hq41_ hw => ?_)
                obtain ⟨x41_41, x42_41, en41_, ef41_, hq41_⟩ := hq41_
                rw [en41_, ef41_] at hw; clear en41_ ef41_
                have hw : WM D cy q (upN (upN (upN (upN (upN (upN (upN (upN (upN n_0 24 x24_39) 25 x25_39) 26 x26_39) 27 x27_39) 37 x37_17) 38 x38_17) 40 x40_17) 41 x41_41) 42 x42_41) (upF (upF (upF (upF (upF (upF (upF (upF f_0 30 y30_39) 31 y31_39) 32 y32_17) 33 y33_17) 34 (upA (f_0 34) (n_0 29) x37_10)) 35 (upA (f_0 35) (n_0 29) x37_17)) 36 (upA (f_0 36) (n_0 29) x37_17)) 39 y39_17) A0 H0 H locs := hw
                have rx41_41 : inR x41_41 := mRn_41 hw.1.2.2.1
                have rx42_41 : inR x42_41 := mRn_42 hw.1.2.2.1
                have hh41_ : zz41_ = -1 ∧ (x41_41) = (1 : Int) ∧ (x42_41) = (x25_39) := hq41_
                clear hq41_
                have hq_ := hh41_
                clear hh41_
                exact hret 175 zz41_ (upN (upN (upN (upN (upN (upN (upN (upN (upN n_0 24 x24_39) 25 x25_39) 26 x26_39) 27 x27_39) 37 x37_17) 38 x38_17) 40 x40_17) 41 x41_41) 42 x42_41) (upF (upF (upF (upF (upF (upF (upF (upF f_0 30 y30_39) 31 y31_39) 32 y32_17) 33 y33_17) 34 (upA (f_0 34) (n_0 29) x37_10)) 35 (upA (f_0 35) (n_0 29) x37_17)) 36 (upA (f_0 36) (n_0 29) x37_17)) 39 y39_17) _ _ ls hw rr41_ ⟨x24_39, x25_39, x26_39, x27_39, x37_17, x38_17, x40_17, x41_41, x42_41, y30_39, y31_39, y32_17, y33_17, y39_17, (upA (f_0 34) (n_0 29) x37_10), (upA (f_0 35) (n_0 29) x37_17), (upA (f_0 36) (n_0 29) x37_17), rfl, rfl, by first | exact Or.inr ⟨rfl, ⟨fC_, k8_, by omega, fun i_ h_ => ⟨by first | rfl | exact upA_ne h_, by first | rfl | exact upA_ne h_, by first | rfl | exact upA_ne h_⟩⟩, by rw [upA_same, upA_same, upA_same]; exact CodW_of (by omega) (by rw [hm1_] at v1_; exact v1_) (by rw [hm1_, hm2_] at v2_; exact v2_) (by rw [hm2_] at v3_; exact v3_), _, rz_.1, by rw [upA_same, upA_same, upA_same]; have q_ := rd_9 (rd_8 m7_ (rt_s ry_ ss_)) (rt_e rz_ (by omega)); rw [hm1_, hm2_] at q_; exact q_, rd_tok (rd_9 (rd_8 m7_ (rt_s ry_ ss_)) (rt_e rz_ (by omega))) rz_ (by omega)⟩ | exact Or.inl ⟨by omega, ⟨fC_, k8_, by omega, fun i_ h_ => ⟨by first | rfl | exact upA_ne h_, by first | rfl | exact upA_ne h_, by first | rfl | exact upA_ne h_⟩⟩, _, by rw [hq_.2.2]; exact rz_.2.2.1, by omega, by rw [hq_.2.1]; exact rd_9f (rd_8 m7_ (rt_s ry_ ss_)) (rt_ne rz_ (by omega))⟩⟩ dX10_reads_175
              · refine j_iconst E 167 rfl dX10_reads_166 ?_
                refine j_goto E 175 dX10_reads_167 (by decide) ?_
                exact hret 175 0 (upN (upN (upN (upN (upN (upN (upN (upN (upN n_0 24 x24_39) 25 x25_39) 26 x26_39) 27 x27_39) 37 x37_17) 38 x38_17) 40 x40_17) 41 x41_17) 42 x42_17) (upF (upF (upF (upF (upF (upF (upF (upF f_0 30 y30_39) 31 y31_39) 32 y32_17) 33 y33_17) 34 (upA (f_0 34) (n_0 29) x37_10)) 35 (upA (f_0 35) (n_0 29) x37_17)) 36 (upA (f_0 36) (n_0 29) x37_17)) 39 y39_17) _ _ ls hw (rr (by decide)) ⟨x24_39, x25_39, x26_39, x27_39, x37_17, x38_17, x40_17, x41_17, x42_17, y30_39, y31_39, y32_17, y33_17, y39_17, (upA (f_0 34) (n_0 29) x37_10), (upA (f_0 35) (n_0 29) x37_17), (upA (f_0 36) (n_0 29) x37_17), rfl, rfl, by first | exact Or.inr ⟨rfl, ⟨fC_, k8_, by omega, fun i_ h_ => ⟨by first | rfl | exact upA_ne h_, by first | rfl | exact upA_ne h_, by first | rfl | exact upA_ne h_⟩⟩, by rw [upA_same, upA_same, upA_same]; exact CodW_of (by omega) (by rw [hm1_] at v1_; exact v1_) (by rw [hm1_, hm2_] at v2_; exact v2_) (by rw [hm2_] at v3_; exact v3_), _, rz_.1, by rw [upA_same, upA_same, upA_same]; have q_ := rd_9 (rd_8 m7_ (rt_s ry_ ss_)) (rt_e rz_ (by omega)); rw [hm1_, hm2_] at q_; exact q_, rd_tok (rd_9 (rd_8 m7_ (rt_s ry_ ss_)) (rt_e rz_ (by omega))) rz_ (by omega)⟩ | exact Or.inl ⟨by omega, ⟨fC_, k8_, by omega, fun i_ h_ => ⟨by first | rfl | exact upA_ne h_, by first | rfl | exact upA_ne h_, by first | rfl | exact upA_ne h_⟩⟩, _, by rw [hq_.2.2]; exact rz_.2.2.1, by omega, by rw [hq_.2.1]; exact rd_9f (rd_8 m7_ (rt_s ry_ ss_)) (rt_ne rz_ (by omega))⟩⟩ dX10_reads_175
            · subst ee37_
              have ss_ := hh37_
              clear hh37_
              refine j_if_ne E 149 155 rfl (rr (by decide)) dX10_reads_146 (by decide) (fun cc42_ => absurd cc42_ (by decide)) (fun _ => ?_)
              refine j_aload_n E 150 rfl dX10_reads_149 rfl (lv_at hl 0 rfl) ?_
              refine j_iconst E 151 rfl dX10_reads_150 ?_
              refine m_calli E (c_X10_fails l D cy q (upN (upN (upN (upN (upN (upN (upN (upN (upN n_0 24 x24_17) 25 x25_17) 26 x26_17) 27 x27_17) 37 x37_17) 38 x38_17) 40 x40_17) 41 x41_17) 42 x42_17) (upF (upF (upF (upF (upF (upF (upF (upF f_0 30 y30_17) 31 y31_17) 32 y32_17) 33 y33_17) 34 (upA (f_0 34) (n_0 29) x37_10)) 35 (upA (f_0 35) (n_0 29) x37_17)) 36 (upA (f_0 36) (n_0 29) x37_17)) 39 y39_17) 1  (rr (by decide)) ) rfl mt_X10_fails ml_X10_262 hK hw hA ⟨Nat.le_of_ble_eq_true rfl, Nat.le_of_ble_eq_true rfl⟩ (As := [.int (J 1)]) (rest := []) rfl rfl hl.1 (Nat.le_of_ble_eq_true rfl) 154 rfl dX10_reads_151 (fun zz43_ n_43 f_43 H locs rr43_ hq43_ hw => ?_)
              obtain ⟨x41_43, x42_43, en43_, ef43_, hq43_⟩ := hq43_
              rw [en43_, ef43_] at hw; clear en43_ ef43_
              have hw : WM D cy q (upN (upN (upN (upN (upN (upN (upN (upN (upN n_0 24 x24_17) 25 x25_17) 26 x26_17) 27 x27_17) 37 x37_17) 38 x38_17) 40 x40_17) 41 x41_43) 42 x42_43) (upF (upF (upF (upF (upF (upF (upF (upF f_0 30 y30_17) 31 y31_17) 32 y32_17) 33 y33_17) 34 (upA (f_0 34) (n_0 29) x37_10)) 35 (upA (f_0 35) (n_0 29) x37_17)) 36 (upA (f_0 36) (n_0 29) x37_17)) 39 y39_17) A0 H0 H locs := hw
              have rx41_43 : inR x41_43 := mRn_41 hw.1.2.2.1
              have rx42_43 : inR x42_43 := mRn_42 hw.1.2.2.1
              have hh43_ : zz43_ = -1 ∧ (x41_43) = (1 : Int) ∧ (x42_43) = (x25_17) := hq43_
              clear hq43_
              have hq_ := hh43_
              clear hh43_
              exact hret 154 zz43_ (upN (upN (upN (upN (upN (upN (upN (upN (upN n_0 24 x24_17) 25 x25_17) 26 x26_17) 27 x27_17) 37 x37_17) 38 x38_17) 40 x40_17) 41 x41_43) 42 x42_43) (upF (upF (upF (upF (upF (upF (upF (upF f_0 30 y30_17) 31 y31_17) 32 y32_17) 33 y33_17) 34 (upA (f_0 34) (n_0 29) x37_10)) 35 (upA (f_0 35) (n_0 29) x37_17)) 36 (upA (f_0 36) (n_0 29) x37_17)) 39 y39_17) _ _ ls hw rr43_ ⟨x24_17, x25_17, x26_17, x27_17, x37_17, x38_17, x40_17, x41_43, x42_43, y30_17, y31_17, y32_17, y33_17, y39_17, (upA (f_0 34) (n_0 29) x37_10), (upA (f_0 35) (n_0 29) x37_17), (upA (f_0 36) (n_0 29) x37_17), rfl, rfl, Or.inl ⟨by omega, ⟨fC_, k7_, by omega, fun i_ h_ => ⟨by first | rfl | exact upA_ne h_, by first | rfl | exact upA_ne h_, by first | rfl | exact upA_ne h_⟩⟩, jy_, by rw [hq_.2.2]; exact ry_.2.2.1, by omega, by rw [hq_.2.1]; exact rd_8f m7_ (rt_ns ry_ ss_ (by decide))⟩⟩ dX10_reads_154
      · subst ee14_
        have ww_ := hh14_
        clear hh14_
        obtain ⟨ju_, ru_, m6_⟩ : ∃ ju_ : Int, Rt_ K_ V_ P_ Q_ (x24_10) (x25_10) (x26_10) (x27_10) (tkw_ (y30_10) (y31_10) (n_0 29)) ju_ ∧ Ra_ K_ V_ 6 ju_ [(cL_ (y32_10) (y33_10) (400 * n_0 29 + mm1_) (400 * n_0 29 + (x37_10))), (cL_ (y32_10) (y33_10) (400 * n_0 29 + 0) (400 * n_0 29 + mm1_))] := ⟨js_, rs_, by rw [cL_0 (show 400 * n_0 29 + mm1_ = 400 * n_0 29 + (x37_10) by omega)]; exact rd_6n m3_ (rt_nw rs_ ww_ (by decide))⟩
        have k5_ := k3_
        have fB_ := fA_
        have u1_ := t1_
        have u2_ : ∃ e_, Pz_ (y32_10) (y33_10) (400 * n_0 29 + mm1_) (400 * n_0 29 + (x37_10)) e_ := ⟨0, by rw [hm1_]; exact Pz_0⟩
        refine j_if_eq E 78 92 rfl (rr (by decide)) dX10_reads_75 (by decide) (fun _ => ?_) (fun cc44_ => absurd cc44_ (by decide))
        obtain ⟨mm2_, hm2_⟩ : ∃ x_ : Int, x_ = (x37_10) := ⟨_, rfl⟩
        have u2_ : ∃ e_, Pz_ (y32_10) (y33_10) (400 * n_0 29 + mm1_) (400 * n_0 29 + mm2_) e_ := by rw [hm2_]; exact u2_
        have m6_ : Ra_ K_ V_ 6 ju_ [(cL_ (y32_10) (y33_10) (400 * n_0 29 + mm1_) (400 * n_0 29 + mm2_)), (cL_ (y32_10) (y33_10) (400 * n_0 29 + 0) (400 * n_0 29 + mm1_))] := by rw [hm2_]; exact m6_
        refine j_aload_n E 93 rfl dX10_reads_92 rfl (lv_at hl 0 rfl) ?_
        refine m_ag_35 E hK hw 96 rfl dX10_reads_93 ?_
        refine j_aload_n E 97 rfl dX10_reads_96 rfl (lv_at hl 0 rfl) ?_
        refine m_get_29 E hK hw (n_0 29) rfl 100 rfl dX10_reads_97 (fun _ => ?_)
        refine j_aload_n E 101 rfl dX10_reads_100 rfl (lv_at hl 0 rfl) ?_
        refine m_get_37 E hK hw x37_10 rfl 104 rfl dX10_reads_101 (fun _ => ?_)
        refine m_st_35 E hK hw (by omega) rx37_10 105 rfl dX10_reads_104 (fun H locs hw => ?_)
        have hw : WM D cy q (upN (upN (upN (upN (upN (upN (upN (upN n_0 24 x24_10) 25 x25_10) 26 x26_10) 27 x27_10) 37 x37_10) 38 0) 41 x41_10) 42 x42_10) (upF (upF (upF (upF (upF (upF f_0 30 y30_10) 31 y31_10) 32 y32_10) 33 y33_10) 34 (upA (f_0 34) (n_0 29) x37_10)) 35 (upA (f_0 35) (n_0 29) x37_10)) A0 H0 H locs := hw
        refine j_aload_n E 106 rfl dX10_reads_105 rfl (lv_at hl 0 rfl) ?_
        refine j_iconst E 107 rfl dX10_reads_106 ?_
        refine m_callp (po := fun z_0 => (z_0 = 1 ∧ (x26_10) = 2 ∧ (x27_10) = (2 : Int)) ∨ (z_0 = 0 ∧ ¬ ((x26_10) = 2 ∧ (x27_10) = (2 : Int)))) E (c_X10_isWord l D cy q (upN (upN (upN (upN (upN (upN (upN (upN n_0 24 x24_10) 25 x25_10) 26 x26_10) 27 x27_10) 37 x37_10) 38 0) 41 x41_10) 42 x42_10) (upF (upF (upF (upF (upF (upF f_0 30 y30_10) 31 y31_10) 32 y32_10) 33 y33_10) 34 (upA (f_0 34) (n_0 29) x37_10)) 35 (upA (f_0 35) (n_0 29) x37_10)) 2  (rr (by decide)) ) rfl mt_X10_isWord ml_X10_259 hK hw hA ⟨Nat.le_of_ble_eq_true rfl, Nat.le_of_ble_eq_true rfl⟩ (As := [.int (J 2)]) (rest := []) rfl rfl hl.1 (Nat.le_of_ble_eq_true rfl) 110 rfl dX10_reads_107 (fun zz46_ H locs rr46_ hq46_ hw => ?_)
        have hh46_ : (zz46_ = 1 ∧ (x26_10) = 2 ∧ (x27_10) = (2 : Int)) ∨ (zz46_ = 0 ∧ ¬ ((x26_10) = 2 ∧ (x27_10) = (2 : Int))) := hq46_
        clear hq46_
        rcases hh46_ with ⟨ee46_, hh46_⟩ | ⟨ee46_, hh46_⟩
        · subst ee46_
          have wu_ := hh46_
          clear hh46_
          refine j_if_eq E 113 127 rfl (rr (by decide)) dX10_reads_110 (by decide) (fun cc47_ => absurd cc47_ (by decide)) (fun _ => ?_)
          refine j_aload_n E 114 rfl dX10_reads_113 rfl (lv_at hl 0 rfl) ?_
          refine m_callv E (c_X10_next l D cy q (upN (upN (upN (upN (upN (upN (upN (upN n_0 24 x24_10) 25 x25_10) 26 x26_10) 27 x27_10) 37 x37_10) 38 0) 41 x41_10) 42 x42_10) (upF (upF (upF (upF (upF (upF f_0 30 y30_10) 31 y31_10) 32 y32_10) 33 y33_10) 34 (upA (f_0 34) (n_0 29) x37_10)) 35 (upA (f_0 35) (n_0 29) x37_10))    (show 0 ≤ (n_0 29) ∧ (n_0 29) < 32 from by omega) (show 0 ≤ (n_0 23) ∧ (n_0 23) ≤ 400 from by omega) (show Wds_ (f_0 28) from hp2) (show 0 ≤ (x24_10) ∧ (x24_10) ≤ (n_0 23) from by omega) (show 0 ≤ (y31_10 ((n_0 29))) ∧ (y31_10 ((n_0 29))) ≤ (x24_10) from by omega) (show Tap_ (f_0 22) from hp7)) rfl mt_X10_next ml_X10_269 hK hw hA ⟨Nat.le_of_ble_eq_true rfl, Nat.le_of_ble_eq_true rfl⟩ (As := []) (rest := []) rfl rfl hl.1 (Nat.le_of_ble_eq_true rfl) 117 rfl dX10_reads_114 (fun n_48 f_48 H locs hq48_ hw => ?_)
          obtain ⟨x24_48, x25_48, x26_48, x27_48, y30_48, y31_48, en48_, ef48_, hq48_⟩ := hq48_
          rw [en48_, ef48_] at hw; clear en48_ ef48_
          have hw : WM D cy q (upN (upN (upN (upN (upN (upN (upN (upN n_0 24 x24_48) 25 x25_48) 26 x26_48) 27 x27_48) 37 x37_10) 38 0) 41 x41_10) 42 x42_10) (upF (upF (upF (upF (upF (upF f_0 30 y30_48) 31 y31_48) 32 y32_10) 33 y33_10) 34 (upA (f_0 34) (n_0 29) x37_10)) 35 (upA (f_0 35) (n_0 29) x37_10)) A0 H0 H locs := hw
          have rx24_48 : inR x24_48 := mRn_24 hw.1.2.2.1
          have rx25_48 : inR x25_48 := mRn_25 hw.1.2.2.1
          have rx26_48 : inR x26_48 := mRn_26 hw.1.2.2.1
          have rx27_48 : inR x27_48 := mRn_27 hw.1.2.2.1
          have hh48_ : (0 ≤ (x25_48) ∧ (x25_48) ≤ (x24_48) ∧ (x24_48) ≤ (n_0 23)) ∧ (0 ≤ (y31_48 ((n_0 29))) ∧ (y31_48 ((n_0 29))) ≤ (x24_48)) ∧ (0 ≤ (x26_48) ∧ (x26_48) ≤ 4) ∧ (¬ (x26_48) = 0 → (x25_48) < (x24_48)) ∧ ((x26_48) = 3 → 0 ≤ (x27_48) ∧ (x27_48) ≤ 9999) ∧ (x24_10) ≤ (x25_48) ∧ Kf_ (y31_10) (y30_10) (y31_48) (y30_48) (n_0 29) ∧ (((x26_48) ≤ 1 ∧ (y30_48) = (y30_10) ∧ (y31_48) = (y31_10)) ∨ (2 ≤ (x26_48) ∧ (y30_48) = upA (y30_10) (400 * (n_0 29) + (y31_10 ((n_0 29)))) (te_ (kd_ (x26_48) (x27_48)) (x27_48)) ∧ (y31_48) = upA (y31_10) (n_0 29) ((y31_10 ((n_0 29))) + 1))) ∧ Lx_ (f_0 22) (n_0 23) (x24_10) (kd_ (x26_48) (x27_48)) (x27_48) (x25_48) (x24_48) ∧ Tv_ (x26_48) (x27_48) := hq48_
          clear hq48_
          have k6_ := tk_tr k5_ hh48_.2.2.2.2.2.2.1
          have kq_ := hh48_.2.2.2.2.2.2.1
          have rx_ := rt_nx hp5 ru_ hh48_.2.2.2.2.2.2.2.2.1 rfl hh48_.2.2.2.2.2.2.2.2.2 hh48_.2.2.2.2.2.2.2.1
          refine j_aload_n E 118 rfl dX10_reads_117 rfl (lv_at hl 0 rfl) ?_
          refine m_calli E (c_X10_readAny l D cy q (upN (upN (upN (upN (upN (upN (upN (upN n_0 24 x24_48) 25 x25_48) 26 x26_48) 27 x27_48) 37 x37_10) 38 0) 41 x41_10) 42 x42_10) (upF (upF (upF (upF (upF (upF f_0 30 y30_48) 31 y31_48) 32 y32_10) 33 y33_10) 34 (upA (f_0 34) (n_0 29) x37_10)) 35 (upA (f_0 35) (n_0 29) x37_10))  K_ V_ P_ Q_ (ju_ + 1)  (show 0 ≤ (n_0 29) ∧ (n_0 29) < 32 from by omega) (show 0 ≤ (n_0 23) ∧ (n_0 23) ≤ 400 from by omega) (show Wds_ (f_0 28) from hp2) (show (0 ≤ (x25_48) ∧ (x25_48) ≤ (x24_48) ∧ (x24_48) ≤ (n_0 23)) ∧ (0 ≤ (y31_48 ((n_0 29))) ∧ (y31_48 ((n_0 29))) ≤ (x24_48)) ∧ (0 ≤ (x26_48) ∧ (x26_48) ≤ 4) ∧ (¬ (x26_48) = 0 → (x25_48) < (x24_48)) ∧ ((x26_48) = 3 → 0 ≤ (x27_48) ∧ (x27_48) ≤ 9999) ∧ (0 ≤ (x37_10) ∧ (x37_10) ≤ (x25_48)) from by omega) (show (0 : Int) = 0 from by omega) (show Strm_ (f_0 22) (n_0 23) K_ V_ P_ Q_ from hp5) (show Rt_ K_ V_ P_ Q_ (x24_48) (x25_48) (x26_48) (x27_48) (tkw_ (y30_48) (y31_48) (n_0 29)) (ju_ + 1) from rx_) (show Tap_ (f_0 22) from hp7)) rfl mt_X10_readAny ml_X10_300 hK hw hA ⟨Nat.le_of_ble_eq_true rfl, Nat.le_of_ble_eq_true rfl⟩ (As := []) (rest := []) rfl rfl hl.1 (Nat.le_of_ble_eq_true rfl) 121 rfl dX10_reads_118 (fun zz49_ n_49 f_49 H locs rr49_ hq49_ hw => ?_)
          obtain ⟨x24_49, x25_49, x26_49, x27_49, x37_49, x38_49, x40_49, x41_49, x42_49, y30_49, y31_49, y32_49, y33_49, y39_49, en49_, ef49_, hq49_⟩ := hq49_
          rw [en49_, ef49_] at hw; clear en49_ ef49_
          have hw : WM D cy q (upN (upN (upN (upN (upN (upN (upN (upN (upN n_0 24 x24_49) 25 x25_49) 26 x26_49) 27 x27_49) 37 x37_49) 38 x38_49) 40 x40_49) 41 x41_49) 42 x42_49) (upF (upF (upF (upF (upF (upF (upF f_0 30 y30_49) 31 y31_49) 32 y32_49) 33 y33_49) 34 (upA (f_0 34) (n_0 29) x37_10)) 35 (upA (f_0 35) (n_0 29) x37_10)) 39 y39_49) A0 H0 H locs := hw
          have rx24_49 : inR x24_49 := mRn_24 hw.1.2.2.1
          have rx25_49 : inR x25_49 := mRn_25 hw.1.2.2.1
          have rx26_49 : inR x26_49 := mRn_26 hw.1.2.2.1
          have rx27_49 : inR x27_49 := mRn_27 hw.1.2.2.1
          have rx37_49 : inR x37_49 := mRn_37 hw.1.2.2.1
          have rx38_49 : inR x38_49 := mRn_38 hw.1.2.2.1
          have rx40_49 : inR x40_49 := mRn_40 hw.1.2.2.1
          have rx41_49 : inR x41_49 := mRn_41 hw.1.2.2.1
          have rx42_49 : inR x42_49 := mRn_42 hw.1.2.2.1
          have hh49_ : (zz49_ = -1 ∧ Fr_ (y32_10) (y33_10) (y32_49) (y33_49) (400 * (n_0 29) + (x37_10)) ∧ Kf_ (y31_48) (y30_48) (y31_49) (y30_49) (n_0 29) ∧ (0 ≤ (y31_49 ((n_0 29))) ∧ (y31_49 ((n_0 29))) ≤ 400) ∧ (∃ jn_ : Int, (x42_49) = P_ jn_ ∧ (1 ≤ (x41_49) ∧ (x41_49) ≤ 3) ∧ Mh4_ K_ V_ (ju_ + 1) (x41_49) jn_)) ∨ (zz49_ = 0 ∧ Fr_ (y32_10) (y33_10) (y32_49) (y33_49) (400 * (n_0 29) + (x37_10)) ∧ Kf_ (y31_48) (y30_48) (y31_49) (y30_49) (n_0 29) ∧ (0 ≤ (y31_49 ((n_0 29))) ∧ (y31_49 ((n_0 29))) ≤ 400) ∧ ((0 ≤ (x25_49) ∧ (x25_49) ≤ (x24_49) ∧ (x24_49) ≤ (n_0 23)) ∧ (0 ≤ (y31_49 ((n_0 29))) ∧ (y31_49 ((n_0 29))) ≤ (x24_49)) ∧ (0 ≤ (x26_49) ∧ (x26_49) ≤ 4) ∧ (¬ (x26_49) = 0 → (x25_49) < (x24_49)) ∧ ((x26_49) = 3 → 0 ≤ (x27_49) ∧ (x27_49) ≤ 9999) ∧ (0 ≤ (x37_49) ∧ (x37_49) ≤ (x25_49))) ∧ ((x25_48) ≤ (x25_49) ∧ (x37_10) ≤ (x37_49)) ∧ (x38_49) = 0 ∧ (∃ e_, Pz_ (y32_49) (y33_49) (400 * (n_0 29) + (x37_10)) (400 * (n_0 29) + (x37_49)) e_) ∧ (∃ jn_ : Int, (ju_ + 1) ≤ jn_ ∧ Rt_ K_ V_ P_ Q_ (x24_49) (x25_49) (x26_49) (x27_49) (tkw_ (y30_49) (y31_49) (n_0 29)) jn_ ∧ NA_ K_ jn_ ∧ M4_ K_ V_ (ju_ + 1) jn_ (cL_ (y32_49) (y33_49) (400 * (n_0 29) + (x37_10)) (400 * (n_0 29) + (x37_49))))) := hq49_
          clear hq49_
          rcases hh49_ with ⟨ee49_, hh49_⟩ | ⟨ee49_, hh49_⟩
          · subst ee49_
            have hx2_ := hh49_
            clear hh49_
            obtain ⟨jn2_, fa2_, fb2_, fc2_⟩ := hx2_.2.2.2
            refine j_iconst E 122 rfl dX10_reads_121 ?_
            refine j_icmp_ne E 125 127 rfl (rr (by decide)) (rr (by decide)) dX10_reads_122 (by decide) (fun cc50_ => absurd cc50_ (by decide)) (fun _ => ?_)
            refine j_iconst E 126 rfl dX10_reads_125 ?_
            exact hret 126 ((-1)) (upN (upN (upN (upN (upN (upN (upN (upN (upN n_0 24 x24_49) 25 x25_49) 26 x26_49) 27 x27_49) 37 x37_49) 38 x38_49) 40 x40_49) 41 x41_49) 42 x42_49) (upF (upF (upF (upF (upF (upF (upF (upF f_0 30 y30_49) 31 y31_49) 32 y32_49) 33 y33_49) 34 (upA (f_0 34) (n_0 29) x37_10)) 35 (upA (f_0 35) (n_0 29) x37_10)) 36 (f_0 36)) 39 y39_49) _ _ ls hw (rr (by decide)) ⟨x24_49, x25_49, x26_49, x27_49, x37_49, x38_49, x40_49, x41_49, x42_49, y30_49, y31_49, y32_49, y33_49, y39_49, (upA (f_0 34) (n_0 29) x37_10), (upA (f_0 35) (n_0 29) x37_10), (f_0 36), rfl, rfl, Or.inl ⟨rfl, ⟨Fr_tr fB_ hx2_.1 (by omega), tk_tr k6_ hx2_.2.1, hx2_.2.2.1, fun i_ h_ => ⟨by first | rfl | exact upA_ne h_, by first | rfl | exact upA_ne h_, by first | rfl | exact upA_ne h_⟩⟩, jn2_, fa2_, fb2_, rd_7f m6_ (rt_w ru_ wu_ (by decide)) fc2_⟩⟩ dX10_reads_126
          · subst ee49_
            have h2_ := hh49_
            clear hh49_
            obtain ⟨jy_, jya_, ry_, jn3_, jm3_⟩ := h2_.2.2.2.2.2.2.2
            have m7_ : Ra_ K_ V_ 7 jy_ [(cL_ (y32_49) (y33_49) (400 * n_0 29 + mm2_) (400 * n_0 29 + (x37_49))), (cL_ (y32_49) (y33_49) (400 * n_0 29 + mm1_) (400 * n_0 29 + mm2_)), (cL_ (y32_49) (y33_49) (400 * n_0 29 + 0) (400 * n_0 29 + mm1_))] := by have q_ := rd_7w m6_ (rt_w ru_ wu_ (by decide)) jm3_ jn3_; rw [cL_fr (lo := 400 * n_0 29 + mm1_) (hi := 400 * n_0 29 + mm2_) h2_.1 (by omega), cL_fr (lo := 400 * n_0 29 + 0) (hi := 400 * n_0 29 + mm1_) h2_.1 (by omega)]; rw [hm2_] at q_ ⊢; exact q_
            have k7_ := tk_tr k6_ h2_.2.1
            have fC_ : Fr_ (f_0 32) (f_0 33) (y32_49) (y33_49) (400 * n_0 29) := Fr_tr fB_ h2_.1 (by omega)
            have v1_ : ∃ e_, Pz_ (y32_49) (y33_49) (400 * n_0 29 + 0) (400 * n_0 29 + mm1_) e_ := Px_fr u1_ h2_.1 (by omega)
            have v2_ : ∃ e_, Pz_ (y32_49) (y33_49) (400 * n_0 29 + mm1_) (400 * n_0 29 + mm2_) e_ := Px_fr u2_ h2_.1 (by omega)
            have v3_ : ∃ e_, Pz_ (y32_49) (y33_49) (400 * n_0 29 + mm2_) (400 * n_0 29 + (x37_49)) e_ := by rw [hm2_]; exact h2_.2.2.2.2.2.2.1
            refine j_iconst E 122 rfl dX10_reads_121 ?_
            refine j_icmp_ne E 125 127 rfl (rr (by decide)) (rr (by decide)) dX10_reads_122 (by decide) (fun _ => ?_) (fun cc51_ => absurd cc51_ (by decide))
            refine j_aload_n E 128 rfl dX10_reads_127 rfl (lv_at hl 0 rfl) ?_
            refine m_ag_36 E hK hw 131 rfl dX10_reads_128 ?_
            refine j_aload_n E 132 rfl dX10_reads_131 rfl (lv_at hl 0 rfl) ?_
            refine m_get_29 E hK hw (n_0 29) rfl 135 rfl dX10_reads_132 (fun _ => ?_)
            refine j_aload_n E 136 rfl dX10_reads_135 rfl (lv_at hl 0 rfl) ?_
            refine m_get_37 E hK hw x37_49 rfl 139 rfl dX10_reads_136 (fun _ => ?_)
            refine m_st_36 E hK hw (by omega) rx37_49 140 rfl dX10_reads_139 (fun H locs hw => ?_)
            have hw : WM D cy q (upN (upN (upN (upN (upN (upN (upN (upN (upN n_0 24 x24_49) 25 x25_49) 26 x26_49) 27 x27_49) 37 x37_49) 38 x38_49) 40 x40_49) 41 x41_49) 42 x42_49) (upF (upF (upF (upF (upF (upF (upF (upF f_0 30 y30_49) 31 y31_49) 32 y32_49) 33 y33_49) 34 (upA (f_0 34) (n_0 29) x37_10)) 35 (upA (f_0 35) (n_0 29) x37_10)) 36 (upA (f_0 36) (n_0 29) x37_49)) 39 y39_49) A0 H0 H locs := hw
            refine j_aload_n E 141 rfl dX10_reads_140 rfl (lv_at hl 0 rfl) ?_
            refine j_bipush E 143 rfl dX10_reads_141 (by decide) ?_
            refine m_callp (po := fun z_0 => (z_0 = 1 ∧ (x26_49) = 4 ∧ (x27_49) = (59 : Int)) ∨ (z_0 = 0 ∧ ¬ ((x26_49) = 4 ∧ (x27_49) = (59 : Int)))) E (c_X10_isSign l D cy q (upN (upN (upN (upN (upN (upN (upN (upN (upN n_0 24 x24_49) 25 x25_49) 26 x26_49) 27 x27_49) 37 x37_49) 38 x38_49) 40 x40_49) 41 x41_49) 42 x42_49) (upF (upF (upF (upF (upF (upF (upF (upF f_0 30 y30_49) 31 y31_49) 32 y32_49) 33 y33_49) 34 (upA (f_0 34) (n_0 29) x37_10)) 35 (upA (f_0 35) (n_0 29) x37_10)) 36 (upA (f_0 36) (n_0 29) x37_49)) 39 y39_49) 59  (rr (by decide)) ) rfl mt_X10_isSign ml_X10_276 hK hw hA ⟨Nat.le_of_ble_eq_true rfl, Nat.le_of_ble_eq_true rfl⟩ (As := [.int (J 59)]) (rest := []) rfl rfl hl.1 (Nat.le_of_ble_eq_true rfl) 146 rfl dX10_reads_143 (fun zz53_ H locs rr53_ hq53_ hw => ?_)
            have hh53_ : (zz53_ = 1 ∧ (x26_49) = 4 ∧ (x27_49) = (59 : Int)) ∨ (zz53_ = 0 ∧ ¬ ((x26_49) = 4 ∧ (x27_49) = (59 : Int))) := hq53_
            clear hq53_
            rcases hh53_ with ⟨ee53_, hh53_⟩ | ⟨ee53_, hh53_⟩
            · subst ee53_
              have ss_ := hh53_
              clear hh53_
              refine j_if_ne E 149 155 rfl (rr (by decide)) dX10_reads_146 (by decide) (fun _ => ?_) (fun cc54_ => absurd cc54_ (by decide))
              refine j_aload_n E 156 rfl dX10_reads_155 rfl (lv_at hl 0 rfl) ?_
              refine m_callv E (c_X10_next l D cy q (upN (upN (upN (upN (upN (upN (upN (upN (upN n_0 24 x24_49) 25 x25_49) 26 x26_49) 27 x27_49) 37 x37_49) 38 x38_49) 40 x40_49) 41 x41_49) 42 x42_49) (upF (upF (upF (upF (upF (upF (upF (upF f_0 30 y30_49) 31 y31_49) 32 y32_49) 33 y33_49) 34 (upA (f_0 34) (n_0 29) x37_10)) 35 (upA (f_0 35) (n_0 29) x37_10)) 36 (upA (f_0 36) (n_0 29) x37_49)) 39 y39_49)    (show 0 ≤ (n_0 29) ∧ (n_0 29) < 32 from by omega) (show 0 ≤ (n_0 23) ∧ (n_0 23) ≤ 400 from by omega) (show Wds_ (f_0 28) from hp2) (show 0 ≤ (x24_49) ∧ (x24_49) ≤ (n_0 23) from by omega) (show 0 ≤ (y31_49 ((n_0 29))) ∧ (y31_49 ((n_0 29))) ≤ (x24_49) from by omega) (show Tap_ (f_0 22) from hp7)) rfl mt_X10_next ml_X10_269 hK hw hA ⟨Nat.le_of_ble_eq_true rfl, Nat.le_of_ble_eq_true rfl⟩ (As := []) (rest := []) rfl rfl hl.1 (Nat.le_of_ble_eq_true rfl) 159 rfl dX10_reads_156 (fun n_55 f_55 H locs hq55_ hw => ?_)
              obtain ⟨x24_55, x25_55, x26_55, x27_55, y30_55, y31_55, en55_, ef55_, hq55_⟩ := hq55_
              rw [en55_, ef55_] at hw; clear en55_ ef55_
              have hw : WM D cy q (upN (upN (upN (upN (upN (upN (upN (upN (upN n_0 24 x24_55) 25 x25_55) 26 x26_55) 27 x27_55) 37 x37_49) 38 x38_49) 40 x40_49) 41 x41_49) 42 x42_49) (upF (upF (upF (upF (upF (upF (upF (upF f_0 30 y30_55) 31 y31_55) 32 y32_49) 33 y33_49) 34 (upA (f_0 34) (n_0 29) x37_10)) 35 (upA (f_0 35) (n_0 29) x37_10)) 36 (upA (f_0 36) (n_0 29) x37_49)) 39 y39_49) A0 H0 H locs := hw
              have rx24_55 : inR x24_55 := mRn_24 hw.1.2.2.1
              have rx25_55 : inR x25_55 := mRn_25 hw.1.2.2.1
              have rx26_55 : inR x26_55 := mRn_26 hw.1.2.2.1
              have rx27_55 : inR x27_55 := mRn_27 hw.1.2.2.1
              have hh55_ : (0 ≤ (x25_55) ∧ (x25_55) ≤ (x24_55) ∧ (x24_55) ≤ (n_0 23)) ∧ (0 ≤ (y31_55 ((n_0 29))) ∧ (y31_55 ((n_0 29))) ≤ (x24_55)) ∧ (0 ≤ (x26_55) ∧ (x26_55) ≤ 4) ∧ (¬ (x26_55) = 0 → (x25_55) < (x24_55)) ∧ ((x26_55) = 3 → 0 ≤ (x27_55) ∧ (x27_55) ≤ 9999) ∧ (x24_49) ≤ (x25_55) ∧ Kf_ (y31_49) (y30_49) (y31_55) (y30_55) (n_0 29) ∧ (((x26_55) ≤ 1 ∧ (y30_55) = (y30_49) ∧ (y31_55) = (y31_49)) ∨ (2 ≤ (x26_55) ∧ (y30_55) = upA (y30_49) (400 * (n_0 29) + (y31_49 ((n_0 29)))) (te_ (kd_ (x26_55) (x27_55)) (x27_55)) ∧ (y31_55) = upA (y31_49) (n_0 29) ((y31_49 ((n_0 29))) + 1))) ∧ Lx_ (f_0 22) (n_0 23) (x24_49) (kd_ (x26_55) (x27_55)) (x27_55) (x25_55) (x24_55) ∧ Tv_ (x26_55) (x27_55) := hq55_
              clear hq55_
              have k8_ := tk_tr k7_ hh55_.2.2.2.2.2.2.1
              have kq_ := hh55_.2.2.2.2.2.2.1
              have rz_ := rt_nx hp5 ry_ hh55_.2.2.2.2.2.2.2.2.1 rfl hh55_.2.2.2.2.2.2.2.2.2 hh55_.2.2.2.2.2.2.2.1
              refine j_aload_n E 160 rfl dX10_reads_159 rfl (lv_at hl 0 rfl) ?_
              refine m_get_26 E hK hw x26_55 rfl 163 rfl dX10_reads_160 (fun _ => ?_)
              refine j_if_ne E 166 170 rfl rx26_55 dX10_reads_163 (by decide) (fun cc56_ => ?_) (fun cc56_ => ?_)
              · refine j_aload_n E 171 rfl dX10_reads_170 rfl (lv_at hl 0 rfl) ?_
                refine j_iconst E 172 rfl dX10_reads_171 ?_
                refine m_calli E (c_X10_fails l D cy q (upN (upN (upN (upN (upN (upN (upN (upN (upN n_0 24 x24_55) 25 x25_55) 26 x26_55) 27 x27_55) 37 x37_49) 38 x38_49) 40 x40_49) 41 x41_49) 42 x42_49) (upF (upF (upF (upF (upF (upF (upF (upF f_0 30 y30_55) 31 y31_55) 32 y32_49) 33 y33_49) 34 (upA (f_0 34) (n_0 29) x37_10)) 35 (upA (f_0 35) (n_0 29) x37_10)) 36 (upA (f_0 36) (n_0 29) x37_49)) 39 y39_49) 1  (rr (by decide)) ) rfl mt_X10_fails ml_X10_262 hK hw hA ⟨Nat.le_of_ble_eq_true rfl, Nat.le_of_ble_eq_true rfl⟩ (As := [.int (J 1)]) (rest := []) rfl rfl hl.1 (Nat.le_of_ble_eq_true rfl) 175 rfl dX10_reads_172 (fun zz57_ n_57 f_57 H locs rr57_ hq57_ hw => ?_)
                obtain ⟨x41_57, x42_57, en57_, ef57_, hq57_⟩ := hq57_
                rw [en57_, ef57_] at hw; clear en57_ ef57_
                have hw : WM D cy q (upN (upN (upN (upN (upN (upN (upN (upN (upN n_0 24 x24_55) 25 x25_55) 26 x26_55) 27 x27_55) 37 x37_49) 38 x38_49) 40 x40_49) 41 x41_57) 42 x42_57) (upF (upF (upF (upF (upF (upF (upF (upF f_0 30 y30_55) 31 y31_55) 32 y32_49) 33 y33_49) 34 (upA (f_0 34) (n_0 29) x37_10)) 35 (upA (f_0 35) (n_0 29) x37_10)) 36 (upA (f_0 36) (n_0 29) x37_49)) 39 y39_49) A0 H0 H locs := hw
                have rx41_57 : inR x41_57 := mRn_41 hw.1.2.2.1
                have rx42_57 : inR x42_57 := mRn_42 hw.1.2.2.1
                have hh57_ : zz57_ = -1 ∧ (x41_57) = (1 : Int) ∧ (x42_57) = (x25_55) := hq57_
                clear hq57_
                have hq_ := hh57_
                clear hh57_
                exact hret 175 zz57_ (upN (upN (upN (upN (upN (upN (upN (upN (upN n_0 24 x24_55) 25 x25_55) 26 x26_55) 27 x27_55) 37 x37_49) 38 x38_49) 40 x40_49) 41 x41_57) 42 x42_57) (upF (upF (upF (upF (upF (upF (upF (upF f_0 30 y30_55) 31 y31_55) 32 y32_49) 33 y33_49) 34 (upA (f_0 34) (n_0 29) x37_10)) 35 (upA (f_0 35) (n_0 29) x37_10)) 36 (upA (f_0 36) (n_0 29) x37_49)) 39 y39_49) _ _ ls hw rr57_ ⟨x24_55, x25_55, x26_55, x27_55, x37_49, x38_49, x40_49, x41_57, x42_57, y30_55, y31_55, y32_49, y33_49, y39_49, (upA (f_0 34) (n_0 29) x37_10), (upA (f_0 35) (n_0 29) x37_10), (upA (f_0 36) (n_0 29) x37_49), rfl, rfl, by first | exact Or.inr ⟨rfl, ⟨fC_, k8_, by omega, fun i_ h_ => ⟨by first | rfl | exact upA_ne h_, by first | rfl | exact upA_ne h_, by first | rfl | exact upA_ne h_⟩⟩, by rw [upA_same, upA_same, upA_same]; exact CodW_of (by omega) (by rw [hm1_] at v1_; exact v1_) (by rw [hm1_, hm2_] at v2_; exact v2_) (by rw [hm2_] at v3_; exact v3_), _, rz_.1, by rw [upA_same, upA_same, upA_same]; have q_ := rd_9 (rd_8 m7_ (rt_s ry_ ss_)) (rt_e rz_ (by omega)); rw [hm1_, hm2_] at q_; exact q_, rd_tok (rd_9 (rd_8 m7_ (rt_s ry_ ss_)) (rt_e rz_ (by omega))) rz_ (by omega)⟩ | exact Or.inl ⟨by omega, ⟨fC_, k8_, by omega, fun i_ h_ => ⟨by first | rfl | exact upA_ne h_, by first | rfl | exact upA_ne h_, by first | rfl | exact upA_ne h_⟩⟩, _, by rw [hq_.2.2]; exact rz_.2.2.1, by omega, by rw [hq_.2.1]; exact rd_9f (rd_8 m7_ (rt_s ry_ ss_)) (rt_ne rz_ (by omega))⟩⟩ dX10_reads_175
              · refine j_iconst E 167 rfl dX10_reads_166 ?_
                refine j_goto E 175 dX10_reads_167 (by decide) ?_
                exact hret 175 0 (upN (upN (upN (upN (upN (upN (upN (upN (upN n_0 24 x24_55) 25 x25_55) 26 x26_55) 27 x27_55) 37 x37_49) 38 x38_49) 40 x40_49) 41 x41_49) 42 x42_49) (upF (upF (upF (upF (upF (upF (upF (upF f_0 30 y30_55) 31 y31_55) 32 y32_49) 33 y33_49) 34 (upA (f_0 34) (n_0 29) x37_10)) 35 (upA (f_0 35) (n_0 29) x37_10)) 36 (upA (f_0 36) (n_0 29) x37_49)) 39 y39_49) _ _ ls hw (rr (by decide)) ⟨x24_55, x25_55, x26_55, x27_55, x37_49, x38_49, x40_49, x41_49, x42_49, y30_55, y31_55, y32_49, y33_49, y39_49, (upA (f_0 34) (n_0 29) x37_10), (upA (f_0 35) (n_0 29) x37_10), (upA (f_0 36) (n_0 29) x37_49), rfl, rfl, by first | exact Or.inr ⟨rfl, ⟨fC_, k8_, by omega, fun i_ h_ => ⟨by first | rfl | exact upA_ne h_, by first | rfl | exact upA_ne h_, by first | rfl | exact upA_ne h_⟩⟩, by rw [upA_same, upA_same, upA_same]; exact CodW_of (by omega) (by rw [hm1_] at v1_; exact v1_) (by rw [hm1_, hm2_] at v2_; exact v2_) (by rw [hm2_] at v3_; exact v3_), _, rz_.1, by rw [upA_same, upA_same, upA_same]; have q_ := rd_9 (rd_8 m7_ (rt_s ry_ ss_)) (rt_e rz_ (by omega)); rw [hm1_, hm2_] at q_; exact q_, rd_tok (rd_9 (rd_8 m7_ (rt_s ry_ ss_)) (rt_e rz_ (by omega))) rz_ (by omega)⟩ | exact Or.inl ⟨by omega, ⟨fC_, k8_, by omega, fun i_ h_ => ⟨by first | rfl | exact upA_ne h_, by first | rfl | exact upA_ne h_, by first | rfl | exact upA_ne h_⟩⟩, _, by rw [hq_.2.2]; exact rz_.2.2.1, by omega, by rw [hq_.2.1]; exact rd_9f (rd_8 m7_ (rt_s ry_ ss_)) (rt_ne rz_ (by omega))⟩⟩ dX10_reads_175
            · subst ee53_
              have ss_ := hh53_
              clear hh53_
              refine j_if_ne E 149 155 rfl (rr (by decide)) dX10_reads_146 (by decide) (fun cc58_ => absurd cc58_ (by decide)) (fun _ => ?_)
              refine j_aload_n E 150 rfl dX10_reads_149 rfl (lv_at hl 0 rfl) ?_
              refine j_iconst E 151 rfl dX10_reads_150 ?_
              refine m_calli E (c_X10_fails l D cy q (upN (upN (upN (upN (upN (upN (upN (upN (upN n_0 24 x24_49) 25 x25_49) 26 x26_49) 27 x27_49) 37 x37_49) 38 x38_49) 40 x40_49) 41 x41_49) 42 x42_49) (upF (upF (upF (upF (upF (upF (upF (upF f_0 30 y30_49) 31 y31_49) 32 y32_49) 33 y33_49) 34 (upA (f_0 34) (n_0 29) x37_10)) 35 (upA (f_0 35) (n_0 29) x37_10)) 36 (upA (f_0 36) (n_0 29) x37_49)) 39 y39_49) 1  (rr (by decide)) ) rfl mt_X10_fails ml_X10_262 hK hw hA ⟨Nat.le_of_ble_eq_true rfl, Nat.le_of_ble_eq_true rfl⟩ (As := [.int (J 1)]) (rest := []) rfl rfl hl.1 (Nat.le_of_ble_eq_true rfl) 154 rfl dX10_reads_151 (fun zz59_ n_59 f_59 H locs rr59_ hq59_ hw => ?_)
              obtain ⟨x41_59, x42_59, en59_, ef59_, hq59_⟩ := hq59_
              rw [en59_, ef59_] at hw; clear en59_ ef59_
              have hw : WM D cy q (upN (upN (upN (upN (upN (upN (upN (upN (upN n_0 24 x24_49) 25 x25_49) 26 x26_49) 27 x27_49) 37 x37_49) 38 x38_49) 40 x40_49) 41 x41_59) 42 x42_59) (upF (upF (upF (upF (upF (upF (upF (upF f_0 30 y30_49) 31 y31_49) 32 y32_49) 33 y33_49) 34 (upA (f_0 34) (n_0 29) x37_10)) 35 (upA (f_0 35) (n_0 29) x37_10)) 36 (upA (f_0 36) (n_0 29) x37_49)) 39 y39_49) A0 H0 H locs := hw
              have rx41_59 : inR x41_59 := mRn_41 hw.1.2.2.1
              have rx42_59 : inR x42_59 := mRn_42 hw.1.2.2.1
              have hh59_ : zz59_ = -1 ∧ (x41_59) = (1 : Int) ∧ (x42_59) = (x25_49) := hq59_
              clear hq59_
              have hq_ := hh59_
              clear hh59_
              exact hret 154 zz59_ (upN (upN (upN (upN (upN (upN (upN (upN (upN n_0 24 x24_49) 25 x25_49) 26 x26_49) 27 x27_49) 37 x37_49) 38 x38_49) 40 x40_49) 41 x41_59) 42 x42_59) (upF (upF (upF (upF (upF (upF (upF (upF f_0 30 y30_49) 31 y31_49) 32 y32_49) 33 y33_49) 34 (upA (f_0 34) (n_0 29) x37_10)) 35 (upA (f_0 35) (n_0 29) x37_10)) 36 (upA (f_0 36) (n_0 29) x37_49)) 39 y39_49) _ _ ls hw rr59_ ⟨x24_49, x25_49, x26_49, x27_49, x37_49, x38_49, x40_49, x41_59, x42_59, y30_49, y31_49, y32_49, y33_49, y39_49, (upA (f_0 34) (n_0 29) x37_10), (upA (f_0 35) (n_0 29) x37_10), (upA (f_0 36) (n_0 29) x37_49), rfl, rfl, Or.inl ⟨by omega, ⟨fC_, k7_, by omega, fun i_ h_ => ⟨by first | rfl | exact upA_ne h_, by first | rfl | exact upA_ne h_, by first | rfl | exact upA_ne h_⟩⟩, jy_, by rw [hq_.2.2]; exact ry_.2.2.1, by omega, by rw [hq_.2.1]; exact rd_8f m7_ (rt_ns ry_ ss_ (by decide))⟩⟩ dX10_reads_154
        · subst ee46_
          have wu_ := hh46_
          clear hh46_
          obtain ⟨jy_, ry_, m7_⟩ : ∃ jy_ : Int, Rt_ K_ V_ P_ Q_ (x24_10) (x25_10) (x26_10) (x27_10) (tkw_ (y30_10) (y31_10) (n_0 29)) jy_ ∧ Ra_ K_ V_ 7 jy_ [(cL_ (y32_10) (y33_10) (400 * n_0 29 + mm2_) (400 * n_0 29 + (x37_10))), (cL_ (y32_10) (y33_10) (400 * n_0 29 + mm1_) (400 * n_0 29 + mm2_)), (cL_ (y32_10) (y33_10) (400 * n_0 29 + 0) (400 * n_0 29 + mm1_))] := ⟨ju_, ru_, by rw [cL_0 (show 400 * n_0 29 + mm2_ = 400 * n_0 29 + (x37_10) by omega)]; exact rd_7n m6_ (rt_nw ru_ wu_ (by decide))⟩
          have k7_ := k5_
          have fC_ := fB_
          have v1_ := u1_
          have v2_ := u2_
          have v3_ : ∃ e_, Pz_ (y32_10) (y33_10) (400 * n_0 29 + mm2_) (400 * n_0 29 + (x37_10)) e_ := ⟨0, by rw [hm2_]; exact Pz_0⟩
          refine j_if_eq E 113 127 rfl (rr (by decide)) dX10_reads_110 (by decide) (fun _ => ?_) (fun cc60_ => absurd cc60_ (by decide))
          refine j_aload_n E 128 rfl dX10_reads_127 rfl (lv_at hl 0 rfl) ?_
          refine m_ag_36 E hK hw 131 rfl dX10_reads_128 ?_
          refine j_aload_n E 132 rfl dX10_reads_131 rfl (lv_at hl 0 rfl) ?_
          refine m_get_29 E hK hw (n_0 29) rfl 135 rfl dX10_reads_132 (fun _ => ?_)
          refine j_aload_n E 136 rfl dX10_reads_135 rfl (lv_at hl 0 rfl) ?_
          refine m_get_37 E hK hw x37_10 rfl 139 rfl dX10_reads_136 (fun _ => ?_)
          refine m_st_36 E hK hw (by omega) rx37_10 140 rfl dX10_reads_139 (fun H locs hw => ?_)
          have hw : WM D cy q (upN (upN (upN (upN (upN (upN (upN (upN n_0 24 x24_10) 25 x25_10) 26 x26_10) 27 x27_10) 37 x37_10) 38 0) 41 x41_10) 42 x42_10) (upF (upF (upF (upF (upF (upF (upF f_0 30 y30_10) 31 y31_10) 32 y32_10) 33 y33_10) 34 (upA (f_0 34) (n_0 29) x37_10)) 35 (upA (f_0 35) (n_0 29) x37_10)) 36 (upA (f_0 36) (n_0 29) x37_10)) A0 H0 H locs := hw
          refine j_aload_n E 141 rfl dX10_reads_140 rfl (lv_at hl 0 rfl) ?_
          refine j_bipush E 143 rfl dX10_reads_141 (by decide) ?_
          refine m_callp (po := fun z_0 => (z_0 = 1 ∧ (x26_10) = 4 ∧ (x27_10) = (59 : Int)) ∨ (z_0 = 0 ∧ ¬ ((x26_10) = 4 ∧ (x27_10) = (59 : Int)))) E (c_X10_isSign l D cy q (upN (upN (upN (upN (upN (upN (upN (upN n_0 24 x24_10) 25 x25_10) 26 x26_10) 27 x27_10) 37 x37_10) 38 0) 41 x41_10) 42 x42_10) (upF (upF (upF (upF (upF (upF (upF f_0 30 y30_10) 31 y31_10) 32 y32_10) 33 y33_10) 34 (upA (f_0 34) (n_0 29) x37_10)) 35 (upA (f_0 35) (n_0 29) x37_10)) 36 (upA (f_0 36) (n_0 29) x37_10)) 59  (rr (by decide)) ) rfl mt_X10_isSign ml_X10_276 hK hw hA ⟨Nat.le_of_ble_eq_true rfl, Nat.le_of_ble_eq_true rfl⟩ (As := [.int (J 59)]) (rest := []) rfl rfl hl.1 (Nat.le_of_ble_eq_true rfl) 146 rfl dX10_reads_143 (fun zz62_ H locs rr62_ hq62_ hw => ?_)
          have hh62_ : (zz62_ = 1 ∧ (x26_10) = 4 ∧ (x27_10) = (59 : Int)) ∨ (zz62_ = 0 ∧ ¬ ((x26_10) = 4 ∧ (x27_10) = (59 : Int))) := hq62_
          clear hq62_
          rcases hh62_ with ⟨ee62_, hh62_⟩ | ⟨ee62_, hh62_⟩
          · subst ee62_
            have ss_ := hh62_
            clear hh62_
            refine j_if_ne E 149 155 rfl (rr (by decide)) dX10_reads_146 (by decide) (fun _ => ?_) (fun cc63_ => absurd cc63_ (by decide))
            refine j_aload_n E 156 rfl dX10_reads_155 rfl (lv_at hl 0 rfl) ?_
            refine m_callv E (c_X10_next l D cy q (upN (upN (upN (upN (upN (upN (upN (upN n_0 24 x24_10) 25 x25_10) 26 x26_10) 27 x27_10) 37 x37_10) 38 0) 41 x41_10) 42 x42_10) (upF (upF (upF (upF (upF (upF (upF f_0 30 y30_10) 31 y31_10) 32 y32_10) 33 y33_10) 34 (upA (f_0 34) (n_0 29) x37_10)) 35 (upA (f_0 35) (n_0 29) x37_10)) 36 (upA (f_0 36) (n_0 29) x37_10))    (show 0 ≤ (n_0 29) ∧ (n_0 29) < 32 from by omega) (show 0 ≤ (n_0 23) ∧ (n_0 23) ≤ 400 from by omega) (show Wds_ (f_0 28) from hp2) (show 0 ≤ (x24_10) ∧ (x24_10) ≤ (n_0 23) from by omega) (show 0 ≤ (y31_10 ((n_0 29))) ∧ (y31_10 ((n_0 29))) ≤ (x24_10) from by omega) (show Tap_ (f_0 22) from hp7)) rfl mt_X10_next ml_X10_269 hK hw hA ⟨Nat.le_of_ble_eq_true rfl, Nat.le_of_ble_eq_true rfl⟩ (As := []) (rest := []) rfl rfl hl.1 (Nat.le_of_ble_eq_true rfl) 159 rfl dX10_reads_156 (fun n_64 f_64 H locs hq64_ hw => ?_)
            obtain ⟨x24_64, x25_64, x26_64, x27_64, y30_64, y31_64, en64_, ef64_, hq64_⟩ := hq64_
            rw [en64_, ef64_] at hw; clear en64_ ef64_
            have hw : WM D cy q (upN (upN (upN (upN (upN (upN (upN (upN n_0 24 x24_64) 25 x25_64) 26 x26_64) 27 x27_64) 37 x37_10) 38 0) 41 x41_10) 42 x42_10) (upF (upF (upF (upF (upF (upF (upF f_0 30 y30_64) 31 y31_64) 32 y32_10) 33 y33_10) 34 (upA (f_0 34) (n_0 29) x37_10)) 35 (upA (f_0 35) (n_0 29) x37_10)) 36 (upA (f_0 36) (n_0 29) x37_10)) A0 H0 H locs := hw
            have rx24_64 : inR x24_64 := mRn_24 hw.1.2.2.1
            have rx25_64 : inR x25_64 := mRn_25 hw.1.2.2.1
            have rx26_64 : inR x26_64 := mRn_26 hw.1.2.2.1
            have rx27_64 : inR x27_64 := mRn_27 hw.1.2.2.1
            have hh64_ : (0 ≤ (x25_64) ∧ (x25_64) ≤ (x24_64) ∧ (x24_64) ≤ (n_0 23)) ∧ (0 ≤ (y31_64 ((n_0 29))) ∧ (y31_64 ((n_0 29))) ≤ (x24_64)) ∧ (0 ≤ (x26_64) ∧ (x26_64) ≤ 4) ∧ (¬ (x26_64) = 0 → (x25_64) < (x24_64)) ∧ ((x26_64) = 3 → 0 ≤ (x27_64) ∧ (x27_64) ≤ 9999) ∧ (x24_10) ≤ (x25_64) ∧ Kf_ (y31_10) (y30_10) (y31_64) (y30_64) (n_0 29) ∧ (((x26_64) ≤ 1 ∧ (y30_64) = (y30_10) ∧ (y31_64) = (y31_10)) ∨ (2 ≤ (x26_64) ∧ (y30_64) = upA (y30_10) (400 * (n_0 29) + (y31_10 ((n_0 29)))) (te_ (kd_ (x26_64) (x27_64)) (x27_64)) ∧ (y31_64) = upA (y31_10) (n_0 29) ((y31_10 ((n_0 29))) + 1))) ∧ Lx_ (f_0 22) (n_0 23) (x24_10) (kd_ (x26_64) (x27_64)) (x27_64) (x25_64) (x24_64) ∧ Tv_ (x26_64) (x27_64) := hq64_
            clear hq64_
            have k8_ := tk_tr k7_ hh64_.2.2.2.2.2.2.1
            have kq_ := hh64_.2.2.2.2.2.2.1
            have rz_ := rt_nx hp5 ry_ hh64_.2.2.2.2.2.2.2.2.1 rfl hh64_.2.2.2.2.2.2.2.2.2 hh64_.2.2.2.2.2.2.2.1
            refine j_aload_n E 160 rfl dX10_reads_159 rfl (lv_at hl 0 rfl) ?_
            refine m_get_26 E hK hw x26_64 rfl 163 rfl dX10_reads_160 (fun _ => ?_)
            refine j_if_ne E 166 170 rfl rx26_64 dX10_reads_163 (by decide) (fun cc65_ => ?_) (fun cc65_ => ?_)
            · refine j_aload_n E 171 rfl dX10_reads_170 rfl (lv_at hl 0 rfl) ?_
              refine j_iconst E 172 rfl dX10_reads_171 ?_
              refine m_calli E (c_X10_fails l D cy q (upN (upN (upN (upN (upN (upN (upN (upN n_0 24 x24_64) 25 x25_64) 26 x26_64) 27 x27_64) 37 x37_10) 38 0) 41 x41_10) 42 x42_10) (upF (upF (upF (upF (upF (upF (upF f_0 30 y30_64) 31 y31_64) 32 y32_10) 33 y33_10) 34 (upA (f_0 34) (n_0 29) x37_10)) 35 (upA (f_0 35) (n_0 29) x37_10)) 36 (upA (f_0 36) (n_0 29) x37_10)) 1  (rr (by decide)) ) rfl mt_X10_fails ml_X10_262 hK hw hA ⟨Nat.le_of_ble_eq_true rfl, Nat.le_of_ble_eq_true rfl⟩ (As := [.int (J 1)]) (rest := []) rfl rfl hl.1 (Nat.le_of_ble_eq_true rfl) 175 rfl dX10_reads_172 (fun zz66_ n_66 f_66 H locs rr66_ hq66_ hw => ?_)
              obtain ⟨x41_66, x42_66, en66_, ef66_, hq66_⟩ := hq66_
              rw [en66_, ef66_] at hw; clear en66_ ef66_
              have hw : WM D cy q (upN (upN (upN (upN (upN (upN (upN (upN n_0 24 x24_64) 25 x25_64) 26 x26_64) 27 x27_64) 37 x37_10) 38 0) 41 x41_66) 42 x42_66) (upF (upF (upF (upF (upF (upF (upF f_0 30 y30_64) 31 y31_64) 32 y32_10) 33 y33_10) 34 (upA (f_0 34) (n_0 29) x37_10)) 35 (upA (f_0 35) (n_0 29) x37_10)) 36 (upA (f_0 36) (n_0 29) x37_10)) A0 H0 H locs := hw
              have rx41_66 : inR x41_66 := mRn_41 hw.1.2.2.1
              have rx42_66 : inR x42_66 := mRn_42 hw.1.2.2.1
              have hh66_ : zz66_ = -1 ∧ (x41_66) = (1 : Int) ∧ (x42_66) = (x25_64) := hq66_
              clear hq66_
              have hq_ := hh66_
              clear hh66_
              exact hret 175 zz66_ (upN (upN (upN (upN (upN (upN (upN (upN (upN n_0 24 x24_64) 25 x25_64) 26 x26_64) 27 x27_64) 37 x37_10) 38 0) 40 (n_0 40)) 41 x41_66) 42 x42_66) (upF (upF (upF (upF (upF (upF (upF (upF f_0 30 y30_64) 31 y31_64) 32 y32_10) 33 y33_10) 34 (upA (f_0 34) (n_0 29) x37_10)) 35 (upA (f_0 35) (n_0 29) x37_10)) 36 (upA (f_0 36) (n_0 29) x37_10)) 39 (f_0 39)) _ _ ls hw rr66_ ⟨x24_64, x25_64, x26_64, x27_64, x37_10, 0, (n_0 40), x41_66, x42_66, y30_64, y31_64, y32_10, y33_10, (f_0 39), (upA (f_0 34) (n_0 29) x37_10), (upA (f_0 35) (n_0 29) x37_10), (upA (f_0 36) (n_0 29) x37_10), rfl, rfl, by first | exact Or.inr ⟨rfl, ⟨fC_, k8_, by omega, fun i_ h_ => ⟨by first | rfl | exact upA_ne h_, by first | rfl | exact upA_ne h_, by first | rfl | exact upA_ne h_⟩⟩, by rw [upA_same, upA_same, upA_same]; exact CodW_of (by omega) (by rw [hm1_] at v1_; exact v1_) (by rw [hm1_, hm2_] at v2_; exact v2_) (by rw [hm2_] at v3_; exact v3_), _, rz_.1, by rw [upA_same, upA_same, upA_same]; have q_ := rd_9 (rd_8 m7_ (rt_s ry_ ss_)) (rt_e rz_ (by omega)); rw [hm1_, hm2_] at q_; exact q_, rd_tok (rd_9 (rd_8 m7_ (rt_s ry_ ss_)) (rt_e rz_ (by omega))) rz_ (by omega)⟩ | exact Or.inl ⟨by omega, ⟨fC_, k8_, by omega, fun i_ h_ => ⟨by first | rfl | exact upA_ne h_, by first | rfl | exact upA_ne h_, by first | rfl | exact upA_ne h_⟩⟩, _, by rw [hq_.2.2]; exact rz_.2.2.1, by omega, by rw [hq_.2.1]; exact rd_9f (rd_8 m7_ (rt_s ry_ ss_)) (rt_ne rz_ (by omega))⟩⟩ dX10_reads_175
            · refine j_iconst E 167 rfl dX10_reads_166 ?_
              refine j_goto E 175 dX10_reads_167 (by decide) ?_
              exact hret 175 0 (upN (upN (upN (upN (upN (upN (upN (upN (upN n_0 24 x24_64) 25 x25_64) 26 x26_64) 27 x27_64) 37 x37_10) 38 0) 40 (n_0 40)) 41 x41_10) 42 x42_10) (upF (upF (upF (upF (upF (upF (upF (upF f_0 30 y30_64) 31 y31_64) 32 y32_10) 33 y33_10) 34 (upA (f_0 34) (n_0 29) x37_10)) 35 (upA (f_0 35) (n_0 29) x37_10)) 36 (upA (f_0 36) (n_0 29) x37_10)) 39 (f_0 39)) _ _ ls hw (rr (by decide)) ⟨x24_64, x25_64, x26_64, x27_64, x37_10, 0, (n_0 40), x41_10, x42_10, y30_64, y31_64, y32_10, y33_10, (f_0 39), (upA (f_0 34) (n_0 29) x37_10), (upA (f_0 35) (n_0 29) x37_10), (upA (f_0 36) (n_0 29) x37_10), rfl, rfl, by first | exact Or.inr ⟨rfl, ⟨fC_, k8_, by omega, fun i_ h_ => ⟨by first | rfl | exact upA_ne h_, by first | rfl | exact upA_ne h_, by first | rfl | exact upA_ne h_⟩⟩, by rw [upA_same, upA_same, upA_same]; exact CodW_of (by omega) (by rw [hm1_] at v1_; exact v1_) (by rw [hm1_, hm2_] at v2_; exact v2_) (by rw [hm2_] at v3_; exact v3_), _, rz_.1, by rw [upA_same, upA_same, upA_same]; have q_ := rd_9 (rd_8 m7_ (rt_s ry_ ss_)) (rt_e rz_ (by omega)); rw [hm1_, hm2_] at q_; exact q_, rd_tok (rd_9 (rd_8 m7_ (rt_s ry_ ss_)) (rt_e rz_ (by omega))) rz_ (by omega)⟩ | exact Or.inl ⟨by omega, ⟨fC_, k8_, by omega, fun i_ h_ => ⟨by first | rfl | exact upA_ne h_, by first | rfl | exact upA_ne h_, by first | rfl | exact upA_ne h_⟩⟩, _, by rw [hq_.2.2]; exact rz_.2.2.1, by omega, by rw [hq_.2.1]; exact rd_9f (rd_8 m7_ (rt_s ry_ ss_)) (rt_ne rz_ (by omega))⟩⟩ dX10_reads_175
          · subst ee62_
            have ss_ := hh62_
            clear hh62_
            refine j_if_ne E 149 155 rfl (rr (by decide)) dX10_reads_146 (by decide) (fun cc67_ => absurd cc67_ (by decide)) (fun _ => ?_)
            refine j_aload_n E 150 rfl dX10_reads_149 rfl (lv_at hl 0 rfl) ?_
            refine j_iconst E 151 rfl dX10_reads_150 ?_
            refine m_calli E (c_X10_fails l D cy q (upN (upN (upN (upN (upN (upN (upN (upN n_0 24 x24_10) 25 x25_10) 26 x26_10) 27 x27_10) 37 x37_10) 38 0) 41 x41_10) 42 x42_10) (upF (upF (upF (upF (upF (upF (upF f_0 30 y30_10) 31 y31_10) 32 y32_10) 33 y33_10) 34 (upA (f_0 34) (n_0 29) x37_10)) 35 (upA (f_0 35) (n_0 29) x37_10)) 36 (upA (f_0 36) (n_0 29) x37_10)) 1  (rr (by decide)) ) rfl mt_X10_fails ml_X10_262 hK hw hA ⟨Nat.le_of_ble_eq_true rfl, Nat.le_of_ble_eq_true rfl⟩ (As := [.int (J 1)]) (rest := []) rfl rfl hl.1 (Nat.le_of_ble_eq_true rfl) 154 rfl dX10_reads_151 (fun zz68_ n_68 f_68 H locs rr68_ hq68_ hw => ?_)
            obtain ⟨x41_68, x42_68, en68_, ef68_, hq68_⟩ := hq68_
            rw [en68_, ef68_] at hw; clear en68_ ef68_
            have hw : WM D cy q (upN (upN (upN (upN (upN (upN (upN (upN n_0 24 x24_10) 25 x25_10) 26 x26_10) 27 x27_10) 37 x37_10) 38 0) 41 x41_68) 42 x42_68) (upF (upF (upF (upF (upF (upF (upF f_0 30 y30_10) 31 y31_10) 32 y32_10) 33 y33_10) 34 (upA (f_0 34) (n_0 29) x37_10)) 35 (upA (f_0 35) (n_0 29) x37_10)) 36 (upA (f_0 36) (n_0 29) x37_10)) A0 H0 H locs := hw
            have rx41_68 : inR x41_68 := mRn_41 hw.1.2.2.1
            have rx42_68 : inR x42_68 := mRn_42 hw.1.2.2.1
            have hh68_ : zz68_ = -1 ∧ (x41_68) = (1 : Int) ∧ (x42_68) = (x25_10) := hq68_
            clear hq68_
            have hq_ := hh68_
            clear hh68_
            exact hret 154 zz68_ (upN (upN (upN (upN (upN (upN (upN (upN (upN n_0 24 x24_10) 25 x25_10) 26 x26_10) 27 x27_10) 37 x37_10) 38 0) 40 (n_0 40)) 41 x41_68) 42 x42_68) (upF (upF (upF (upF (upF (upF (upF (upF f_0 30 y30_10) 31 y31_10) 32 y32_10) 33 y33_10) 34 (upA (f_0 34) (n_0 29) x37_10)) 35 (upA (f_0 35) (n_0 29) x37_10)) 36 (upA (f_0 36) (n_0 29) x37_10)) 39 (f_0 39)) _ _ ls hw rr68_ ⟨x24_10, x25_10, x26_10, x27_10, x37_10, 0, (n_0 40), x41_68, x42_68, y30_10, y31_10, y32_10, y33_10, (f_0 39), (upA (f_0 34) (n_0 29) x37_10), (upA (f_0 35) (n_0 29) x37_10), (upA (f_0 36) (n_0 29) x37_10), rfl, rfl, Or.inl ⟨by omega, ⟨fC_, k7_, by omega, fun i_ h_ => ⟨by first | rfl | exact upA_ne h_, by first | rfl | exact upA_ne h_, by first | rfl | exact upA_ne h_⟩⟩, jy_, by rw [hq_.2.2]; exact ry_.2.2.1, by omega, by rw [hq_.2.1]; exact rd_8f m7_ (rt_ns ry_ ss_ (by decide))⟩⟩ dX10_reads_154
  · subst ee7_
    have wm_ := hh7_
    clear hh7_
    refine j_if_ne E 37 43 rfl (rr (by decide)) dX10_reads_34 (by decide) (fun cc69_ => absurd cc69_ (by decide)) (fun _ => ?_)
    refine j_aload_n E 38 rfl dX10_reads_37 rfl (lv_at hl 0 rfl) ?_
    refine j_iconst E 39 rfl dX10_reads_38 ?_
    refine m_calli E (c_X10_fails l D cy q (upN (upN (upN (upN (upN (upN n_0 24 x24_6) 25 x25_6) 26 x26_6) 27 x27_6) 37 0) 38 0) (upF (upF f_0 30 y30_6) 31 y31_6) 1  (rr (by decide)) ) rfl mt_X10_fails ml_X10_262 hK hw hA ⟨Nat.le_of_ble_eq_true rfl, Nat.le_of_ble_eq_true rfl⟩ (As := [.int (J 1)]) (rest := []) rfl rfl hl.1 (Nat.le_of_ble_eq_true rfl) 42 rfl dX10_reads_39 (fun zz70_ n_70 f_70 H locs rr70_ hq70_ hw => ?_)
    obtain ⟨x41_70, x42_70, en70_, ef70_, hq70_⟩ := hq70_
    rw [en70_, ef70_] at hw; clear en70_ ef70_
    have hw : WM D cy q (upN (upN (upN (upN (upN (upN (upN (upN n_0 24 x24_6) 25 x25_6) 26 x26_6) 27 x27_6) 37 0) 38 0) 41 x41_70) 42 x42_70) (upF (upF f_0 30 y30_6) 31 y31_6) A0 H0 H locs := hw
    have rx41_70 : inR x41_70 := mRn_41 hw.1.2.2.1
    have rx42_70 : inR x42_70 := mRn_42 hw.1.2.2.1
    have hh70_ : zz70_ = -1 ∧ (x41_70) = (1 : Int) ∧ (x42_70) = (x25_6) := hq70_
    clear hq70_
    have hq_ := hh70_
    clear hh70_
    exact hret 42 zz70_ (upN (upN (upN (upN (upN (upN (upN (upN (upN n_0 24 x24_6) 25 x25_6) 26 x26_6) 27 x27_6) 37 0) 38 0) 40 (n_0 40)) 41 x41_70) 42 x42_70) (upF (upF (upF (upF (upF (upF (upF (upF f_0 30 y30_6) 31 y31_6) 32 (f_0 32)) 33 (f_0 33)) 34 (f_0 34)) 35 (f_0 35)) 36 (f_0 36)) 39 (f_0 39)) _ _ ls hw rr70_ ⟨x24_6, x25_6, x26_6, x27_6, 0, 0, (n_0 40), x41_70, x42_70, y30_6, y31_6, (f_0 32), (f_0 33), (f_0 39), (f_0 34), (f_0 35), (f_0 36), rfl, rfl, Or.inl ⟨by omega, ⟨Fr_rf, k1_, by omega, fun i_ h_ => ⟨by first | rfl | exact upA_ne h_, by first | rfl | exact upA_ne h_, by first | rfl | exact upA_ne h_⟩⟩, 0, by rw [hq_.2.2]; exact r0_.2.2.1, by omega, by rw [hq_.2.1]; exact rd_f0 (rt_nw r0_ wm_ (by decide))⟩⟩ dX10_reads_42
set_option maxHeartbeats 4000000 in
set_option maxRecDepth 100000 in
theorem c_X10_wording (l : Launch) (D : va_G) (cy : Nat → ClassId) (q : Nat → Nat) (n_0 : Nat → Int) (f_0 : Nat → Int → Int) (K_ : Int → Int) (V_ : Int → Int) (P_ : Int → Int) (Q_ : Int → Int) (hp0 : MI (n_0) (f_0)) (hp1 : (n_0 29) < 32 → Strm_ (f_0 22) (n_0 23) K_ V_ P_ Q_) : MC l D cy q yX10_wording cX10_wording 2 (some .int) 9 [] n_0 f_0 (PI (fun (z_0 : Int) (n_2 : Nat → Int) (f_2 : Nat → Int → Int) => ∃ (x0_2 : Int) (x24_2 : Int) (x25_2 : Int) (x26_2 : Int) (x27_2 : Int) (x37_2 : Int) (x38_2 : Int) (x40_2 : Int) (x41_2 : Int) (x42_2 : Int) (x23_2 : Int) (x29_2 : Int) (x43_2 : Int) (x44_2 : Int) (y30_2 : Int → Int) (y31_2 : Int → Int) (y32_2 : Int → Int) (y33_2 : Int → Int) (y39_2 : Int → Int) (y34_2 : Int → Int) (y35_2 : Int → Int) (y36_2 : Int → Int) , n_2 = upN (upN (upN (upN (upN (upN (upN (upN (upN (upN (upN (upN (upN (upN n_0 0 x0_2) 23 x23_2) 24 x24_2) 25 x25_2) 26 x26_2) 27 x27_2) 29 x29_2) 37 x37_2) 38 x38_2) 40 x40_2) 41 x41_2) 42 x42_2) 43 x43_2) 44 x44_2 ∧ f_2 = upF (upF (upF (upF (upF (upF (upF (upF f_0 30 y30_2) 31 y31_2) 32 y32_2) 33 y33_2) 34 y34_2) 35 y35_2) 36 y36_2) 39 y39_2 ∧ (MI (upN (upN (upN (upN (upN (upN (upN (upN (upN (upN (upN (upN (upN (upN n_0 0 x0_2) 23 x23_2) 24 x24_2) 25 x25_2) 26 x26_2) 27 x27_2) 29 x29_2) 37 x37_2) 38 x38_2) 40 x40_2) 41 x41_2) 42 x42_2) 43 x43_2) 44 x44_2) (upF (upF (upF (upF (upF (upF (upF (upF f_0 30 y30_2) 31 y31_2) 32 y32_2) 33 y33_2) 34 y34_2) 35 y35_2) 36 y36_2) 39 y39_2) ∧ ((x23_2) = 0 ∧ ((z_0 = -1 ∧ (x29_2) = (n_0 29) ∧ (((n_0 29) = 32 ∧ (x43_2) = 0 ∧ (x44_2) = -1) ∨ ((n_0 29) < 32 ∧ ∃ jn_ : Int, (x44_2) = P_ jn_ ∧ (1 ≤ (x43_2) ∧ (x43_2) ≤ 3) ∧ Rf_ K_ V_ (x43_2) jn_))) ∨ (z_0 = (n_0 29) ∧ (x29_2) = (n_0 29) + 1 ∧ (n_0 29) < 32 ∧ (x43_2) = 0 ∧ (x44_2) = -1 ∧ ∃ jn_ : Int, 0 ≤ jn_ ∧ Ra_ K_ V_ 9 jn_ [cL_ (y32_2) (y33_2) (400 * (n_0 29) + (y35_2 ((n_0 29)))) (400 * (n_0 29) + (y36_2 ((n_0 29)))), cL_ (y32_2) (y33_2) (400 * (n_0 29) + (y34_2 ((n_0 29)))) (400 * (n_0 29) + (y35_2 ((n_0 29)))), cL_ (y32_2) (y33_2) (400 * (n_0 29) + 0) (400 * (n_0 29) + (y34_2 ((n_0 29))))] ∧ (∀ i, 0 ≤ i → i < jn_ → ¬ K_ i = 1 ∧ ¬ K_ i = 2) ∧ (y31_2 ((n_0 29))) = jn_ ∧ ∀ i, 0 ≤ i → i < jn_ → (y30_2 (400 * (n_0 29) + i)) = te_ (K_ i) (V_ i))) ∧ Fr_ (f_0 32) (f_0 33) (y32_2) (y33_2) (400 * (n_0 29)) ∧ Kf_ (f_0 31) (f_0 30) (y31_2) (y30_2) (n_0 29) ∧ (∀ i, i ≠ (n_0 29) → (y34_2 i) = (f_0 34 i) ∧ (y35_2 i) = (f_0 35 i) ∧ (y36_2 i) = (f_0 36 i)))))) := by
  refine MC.ofi rfl (Nat.le_of_ble_eq_true rfl) ?_
  intro p e s m below meth c ls ar QW A0 H0 H locs E hK hA hw hl hret
  have hl : lv_has ls 2 [(0, .ref (q 0))] := hl
  have hp0_ := hp0
  obtain ⟨i_now, i_persons, i_lines, i_wordings, i_taped, i_suits, i_spk, i_fam, i_str, i_said, i_book, i_wds, i_tok, i_cod, i_far, i_tap, i_qua, i_sil, i_stz, i_way⟩ := hp0_
  refine j_aload_n E 1 rfl dX10_wording_0 rfl (lv_at hl 0 rfl) ?_
  refine j_iconst E 2 rfl dX10_wording_1 ?_
  refine m_put_0 E hK hw (rr (by decide)) 5 rfl dX10_wording_2 (fun H locs hw => ?_)
  have hw : WM D cy q (upN n_0 0 0) (f_0) A0 H0 H locs := hw
  refine j_aload_n E 6 rfl dX10_wording_5 rfl (lv_at hl 0 rfl) ?_
  refine j_iconst E 7 rfl dX10_wording_6 ?_
  refine m_put_43 E hK hw (rr (by decide)) 10 rfl dX10_wording_7 (fun H locs hw => ?_)
  have hw : WM D cy q (upN (upN n_0 0 0) 43 0) (f_0) A0 H0 H locs := hw
  refine j_aload_n E 11 rfl dX10_wording_10 rfl (lv_at hl 0 rfl) ?_
  refine j_iconst E 12 rfl dX10_wording_11 ?_
  refine m_put_44 E hK hw (rr (by decide)) 15 rfl dX10_wording_12 (fun H locs hw => ?_)
  have hw : WM D cy q (upN (upN (upN n_0 0 0) 43 0) 44 ((-1))) (f_0) A0 H0 H locs := hw
  refine j_aload_n E 16 rfl dX10_wording_15 rfl (lv_at hl 0 rfl) ?_
  refine m_get_29 E hK hw (n_0 29) rfl 19 rfl dX10_wording_16 (fun rr4_ => ?_)
  refine j_bipush E 21 rfl dX10_wording_19 (by decide) ?_
  refine j_icmp_ge E 24 35 rfl rr4_ (rr (by decide)) dX10_wording_21 (by decide) (fun cc5_ => ?_) (fun cc5_ => ?_)
  · refine j_iconst E 36 rfl dX10_wording_35 ?_
    refine j_istore_n E 37 rfl [(1, .int (J 0)), (0, .ref (q 0))] dX10_wording_36 rfl hl (by decide) rfl (fun ls hl => ?_)
    refine j_aload_n E 38 rfl dX10_wording_37 rfl (lv_at hl 1 rfl) ?_
    refine j_iconst E 39 rfl dX10_wording_38 ?_
    refine m_put_23 E hK hw (rr (by decide)) 42 rfl dX10_wording_39 (fun H locs hw => ?_)
    have hw : WM D cy q (upN (upN (upN (upN n_0 0 0) 23 0) 43 0) 44 ((-1))) (f_0) A0 H0 H locs := hw
    refine j_iload_n E 43 rfl dX10_wording_42 rfl (lv_at hl 0 rfl) ?_
    refine j_if_eq E 46 63 rfl (rr (by decide)) dX10_wording_43 (by decide) (fun _ => ?_) (fun cc7_ => absurd cc7_ (by decide))
    refine j_aload_n E 64 rfl dX10_wording_63 rfl (lv_at hl 1 rfl) ?_
    refine m_get_29 E hK hw (n_0 29) rfl 67 rfl dX10_wording_64 (fun _ => ?_)
    refine j_bipush E 69 rfl dX10_wording_67 (by decide) ?_
    refine j_icmp_ge E 72 88 rfl rr4_ (rr (by decide)) dX10_wording_69 (by decide) (fun cc8_ => ?_) (fun cc8_ => ?_)
    · refine j_iconst E 89 rfl dX10_wording_88 ?_
      exact hret 89 ((-1)) (upN (upN (upN (upN (upN (upN (upN (upN (upN (upN (upN (upN (upN (upN n_0 0 0) 23 0) 24 (n_0 24)) 25 (n_0 25)) 26 (n_0 26)) 27 (n_0 27)) 29 (n_0 29)) 37 (n_0 37)) 38 (n_0 38)) 40 (n_0 40)) 41 (n_0 41)) 42 (n_0 42)) 43 0) 44 ((-1))) (upF (upF (upF (upF (upF (upF (upF (upF f_0 30 (f_0 30)) 31 (f_0 31)) 32 (f_0 32)) 33 (f_0 33)) 34 (f_0 34)) 35 (f_0 35)) 36 (f_0 36)) 39 (f_0 39)) _ _ ls hw (rr (by decide)) ⟨0, (n_0 24), (n_0 25), (n_0 26), (n_0 27), (n_0 37), (n_0 38), (n_0 40), (n_0 41), (n_0 42), 0, (n_0 29), 0, ((-1)), (f_0 30), (f_0 31), (f_0 32), (f_0 33), (f_0 39), (f_0 34), (f_0 35), (f_0 36), rfl, rfl, ⟨⟨i_now, i_persons, i_lines, i_wordings, (show 0 ≤ (0 : Int) ∧ (0 : Int) ≤ 400 from by omega), i_suits, i_spk, i_fam, i_str, i_said, i_book, i_wds, (show Tok_ (f_0 31) (n_0 29) from by first | exact i_tok | exact Tok_fr i_tok hb_.1), (show Cod_ (f_0 32) (f_0 33) (f_0 34) (f_0 35) (f_0 36) (n_0 29) from by first | exact i_cod | exact Cod_fr i_cod ha_ hd_), i_far, i_tap, i_qua, i_sil, i_stz, i_way⟩, ⟨rfl, Or.inl ⟨rfl, rfl, by first | exact Or.inr ⟨by omega, hx_.2⟩ | exact Or.inl ⟨by omega, rfl, rfl⟩ | (exfalso; omega)⟩, by first | exact ⟨ha_, hb_, hd_⟩ | exact ⟨Fr_rf, Kf_rf, fun _ _ => ⟨rfl, rfl, rfl⟩⟩⟩⟩⟩ dX10_wording_89
    · refine j_aload_n E 73 rfl dX10_wording_72 rfl (lv_at hl 1 rfl) ?_
      refine j_aload_n E 74 rfl dX10_wording_73 rfl (lv_at hl 1 rfl) ?_
      refine m_get_41 E hK hw (n_0 41) rfl 77 rfl dX10_wording_74 (fun rr9_ => ?_)
      refine m_put_43 E hK hw rr9_ 80 rfl dX10_wording_77 (fun H locs hw => ?_)
      have hw : WM D cy q (upN (upN (upN (upN n_0 0 0) 23 0) 43 (n_0 41)) 44 ((-1))) (f_0) A0 H0 H locs := hw
      refine j_aload_n E 81 rfl dX10_wording_80 rfl (lv_at hl 1 rfl) ?_
      refine j_aload_n E 82 rfl dX10_wording_81 rfl (lv_at hl 1 rfl) ?_
      refine m_get_42 E hK hw (n_0 42) rfl 85 rfl dX10_wording_82 (fun rr11_ => ?_)
      refine m_put_44 E hK hw rr11_ 88 rfl dX10_wording_85 (fun H locs hw => ?_)
      have hw : WM D cy q (upN (upN (upN (upN n_0 0 0) 23 0) 43 (n_0 41)) 44 (n_0 42)) (f_0) A0 H0 H locs := hw
      refine j_iconst E 89 rfl dX10_wording_88 ?_
      exact hret 89 ((-1)) (upN (upN (upN (upN (upN (upN (upN (upN (upN (upN (upN (upN (upN (upN n_0 0 0) 23 0) 24 (n_0 24)) 25 (n_0 25)) 26 (n_0 26)) 27 (n_0 27)) 29 (n_0 29)) 37 (n_0 37)) 38 (n_0 38)) 40 (n_0 40)) 41 (n_0 41)) 42 (n_0 42)) 43 (n_0 41)) 44 (n_0 42)) (upF (upF (upF (upF (upF (upF (upF (upF f_0 30 (f_0 30)) 31 (f_0 31)) 32 (f_0 32)) 33 (f_0 33)) 34 (f_0 34)) 35 (f_0 35)) 36 (f_0 36)) 39 (f_0 39)) _ _ ls hw (rr (by decide)) ⟨0, (n_0 24), (n_0 25), (n_0 26), (n_0 27), (n_0 37), (n_0 38), (n_0 40), (n_0 41), (n_0 42), 0, (n_0 29), (n_0 41), (n_0 42), (f_0 30), (f_0 31), (f_0 32), (f_0 33), (f_0 39), (f_0 34), (f_0 35), (f_0 36), rfl, rfl, ⟨⟨i_now, i_persons, i_lines, i_wordings, (show 0 ≤ (0 : Int) ∧ (0 : Int) ≤ 400 from by omega), i_suits, i_spk, i_fam, i_str, i_said, i_book, i_wds, (show Tok_ (f_0 31) (n_0 29) from by first | exact i_tok | exact Tok_fr i_tok hb_.1), (show Cod_ (f_0 32) (f_0 33) (f_0 34) (f_0 35) (f_0 36) (n_0 29) from by first | exact i_cod | exact Cod_fr i_cod ha_ hd_), i_far, i_tap, i_qua, i_sil, i_stz, i_way⟩, ⟨rfl, Or.inl ⟨rfl, rfl, by first | exact Or.inr ⟨by omega, hx_.2⟩ | exact Or.inl ⟨by omega, rfl, rfl⟩ | (exfalso; omega)⟩, by first | exact ⟨ha_, hb_, hd_⟩ | exact ⟨Fr_rf, Kf_rf, fun _ _ => ⟨rfl, rfl, rfl⟩⟩⟩⟩⟩ dX10_wording_89
  · refine j_aload_n E 25 rfl dX10_wording_24 rfl (lv_at hl 0 rfl) ?_
    refine m_calli E (c_X10_reads l D cy q (upN (upN (upN n_0 0 0) 43 0) 44 ((-1))) (f_0)  K_ V_ P_ Q_  (show 0 ≤ (n_0 29) ∧ (n_0 29) < 32 from by omega) (show 0 ≤ (n_0 23) ∧ (n_0 23) ≤ 400 from by omega) (show Wds_ (f_0 28) from i_wds) (show (n_0 23) = (n_0 23) from rfl) (show (n_0 23) = (n_0 23) from rfl) (show Strm_ (f_0 22) (n_0 23) K_ V_ P_ Q_ from hp1 (by omega)) (show (n_0 23) = (n_0 23) from rfl) (show Tap_ (f_0 22) from i_tap)) rfl mt_X10_reads ml_X10_306 hK hw hA ⟨Nat.le_of_ble_eq_true rfl, Nat.le_of_ble_eq_true rfl⟩ (As := []) (rest := []) rfl rfl hl.1 (Nat.le_of_ble_eq_true rfl) 28 rfl dX10_wording_25 (fun zz13_ n_13 f_13 H locs rr13_ hq13_ hw => ?_)
    obtain ⟨x24_13, x25_13, x26_13, x27_13, x37_13, x38_13, x40_13, x41_13, x42_13, y30_13, y31_13, y32_13, y33_13, y39_13, y34_13, y35_13, y36_13, en13_, ef13_, hq13_⟩ := hq13_
    rw [en13_, ef13_] at hw; clear en13_ ef13_
    have hw : WM D cy q (upN (upN (upN (upN (upN (upN (upN (upN (upN (upN (upN (upN n_0 0 0) 24 x24_13) 25 x25_13) 26 x26_13) 27 x27_13) 37 x37_13) 38 x38_13) 40 x40_13) 41 x41_13) 42 x42_13) 43 0) 44 ((-1))) (upF (upF (upF (upF (upF (upF (upF (upF f_0 30 y30_13) 31 y31_13) 32 y32_13) 33 y33_13) 34 y34_13) 35 y35_13) 36 y36_13) 39 y39_13) A0 H0 H locs := hw
    have rx24_13 : inR x24_13 := mRn_24 hw.1.2.2.1
    have rx25_13 : inR x25_13 := mRn_25 hw.1.2.2.1
    have rx26_13 : inR x26_13 := mRn_26 hw.1.2.2.1
    have rx27_13 : inR x27_13 := mRn_27 hw.1.2.2.1
    have rx37_13 : inR x37_13 := mRn_37 hw.1.2.2.1
    have rx38_13 : inR x38_13 := mRn_38 hw.1.2.2.1
    have rx40_13 : inR x40_13 := mRn_40 hw.1.2.2.1
    have rx41_13 : inR x41_13 := mRn_41 hw.1.2.2.1
    have rx42_13 : inR x42_13 := mRn_42 hw.1.2.2.1
    have hh13_ : (zz13_ = -1 ∧ (Fr_ (f_0 32) (f_0 33) (y32_13) (y33_13) (400 * (n_0 29)) ∧ Kf_ (f_0 31) (f_0 30) (y31_13) (y30_13) (n_0 29) ∧ (0 ≤ (y31_13 ((n_0 29))) ∧ (y31_13 ((n_0 29))) ≤ 400) ∧ (∀ i, i ≠ (n_0 29) → (y34_13 i) = (f_0 34 i) ∧ (y35_13 i) = (f_0 35 i) ∧ (y36_13 i) = (f_0 36 i))) ∧ (∃ jn_ : Int, (x42_13) = P_ jn_ ∧ (1 ≤ (x41_13) ∧ (x41_13) ≤ 3) ∧ Rf_ K_ V_ (x41_13) jn_)) ∨ (zz13_ = 0 ∧ (Fr_ (f_0 32) (f_0 33) (y32_13) (y33_13) (400 * (n_0 29)) ∧ Kf_ (f_0 31) (f_0 30) (y31_13) (y30_13) (n_0 29) ∧ (0 ≤ (y31_13 ((n_0 29))) ∧ (y31_13 ((n_0 29))) ≤ 400) ∧ (∀ i, i ≠ (n_0 29) → (y34_13 i) = (f_0 34 i) ∧ (y35_13 i) = (f_0 35 i) ∧ (y36_13 i) = (f_0 36 i))) ∧ CodW_ (y32_13) (y33_13) ((y34_13 ((n_0 29)))) ((y35_13 ((n_0 29)))) ((y36_13 ((n_0 29)))) (n_0 29) ∧ ∃ jn_ : Int, 0 ≤ jn_ ∧ Ra_ K_ V_ 9 jn_ [cL_ (y32_13) (y33_13) (400 * (n_0 29) + (y35_13 ((n_0 29)))) (400 * (n_0 29) + (y36_13 ((n_0 29)))), cL_ (y32_13) (y33_13) (400 * (n_0 29) + (y34_13 ((n_0 29)))) (400 * (n_0 29) + (y35_13 ((n_0 29)))), cL_ (y32_13) (y33_13) (400 * (n_0 29) + 0) (400 * (n_0 29) + (y34_13 ((n_0 29))))] ∧ (∀ i, 0 ≤ i → i < jn_ → ¬ K_ i = 1 ∧ ¬ K_ i = 2) ∧ (y31_13 ((n_0 29))) = jn_ ∧ ∀ i, 0 ≤ i → i < jn_ → (y30_13 (400 * (n_0 29) + i)) = te_ (K_ i) (V_ i)) := hq13_
    clear hq13_
    rcases hh13_ with ⟨ee13_, hh13_⟩ | ⟨ee13_, hh13_⟩
    · subst ee13_
      have hx_ := hh13_
      clear hh13_
      obtain ⟨ha_, hb_, hc_, hd_⟩ := hx_.1
      refine j_if_ne E 31 35 rfl (rr (by decide)) dX10_wording_28 (by decide) (fun _ => ?_) (fun cc14_ => absurd cc14_ (by decide))
      refine j_iconst E 36 rfl dX10_wording_35 ?_
      refine j_istore_n E 37 rfl [(1, .int (J 0)), (0, .ref (q 0))] dX10_wording_36 rfl hl (by decide) rfl (fun ls hl => ?_)
      refine j_aload_n E 38 rfl dX10_wording_37 rfl (lv_at hl 1 rfl) ?_
      refine j_iconst E 39 rfl dX10_wording_38 ?_
      refine m_put_23 E hK hw (rr (by decide)) 42 rfl dX10_wording_39 (fun H locs hw => ?_)
      have hw : WM D cy q (upN (upN (upN (upN (upN (upN (upN (upN (upN (upN (upN (upN (upN n_0 0 0) 23 0) 24 x24_13) 25 x25_13) 26 x26_13) 27 x27_13) 37 x37_13) 38 x38_13) 40 x40_13) 41 x41_13) 42 x42_13) 43 0) 44 ((-1))) (upF (upF (upF (upF (upF (upF (upF (upF f_0 30 y30_13) 31 y31_13) 32 y32_13) 33 y33_13) 34 y34_13) 35 y35_13) 36 y36_13) 39 y39_13) A0 H0 H locs := hw
      refine j_iload_n E 43 rfl dX10_wording_42 rfl (lv_at hl 0 rfl) ?_
      refine j_if_eq E 46 63 rfl (rr (by decide)) dX10_wording_43 (by decide) (fun _ => ?_) (fun cc16_ => absurd cc16_ (by decide))
      refine j_aload_n E 64 rfl dX10_wording_63 rfl (lv_at hl 1 rfl) ?_
      refine m_get_29 E hK hw (n_0 29) rfl 67 rfl dX10_wording_64 (fun _ => ?_)
      refine j_bipush E 69 rfl dX10_wording_67 (by decide) ?_
      refine j_icmp_ge E 72 88 rfl rr4_ (rr (by decide)) dX10_wording_69 (by decide) (fun cc17_ => ?_) (fun cc17_ => ?_)
      · refine j_iconst E 89 rfl dX10_wording_88 ?_
        exact hret 89 ((-1)) (upN (upN (upN (upN (upN (upN (upN (upN (upN (upN (upN (upN (upN (upN n_0 0 0) 23 0) 24 x24_13) 25 x25_13) 26 x26_13) 27 x27_13) 29 (n_0 29)) 37 x37_13) 38 x38_13) 40 x40_13) 41 x41_13) 42 x42_13) 43 0) 44 ((-1))) (upF (upF (upF (upF (upF (upF (upF (upF f_0 30 y30_13) 31 y31_13) 32 y32_13) 33 y33_13) 34 y34_13) 35 y35_13) 36 y36_13) 39 y39_13) _ _ ls hw (rr (by decide)) ⟨0, x24_13, x25_13, x26_13, x27_13, x37_13, x38_13, x40_13, x41_13, x42_13, 0, (n_0 29), 0, ((-1)), y30_13, y31_13, y32_13, y33_13, y39_13, y34_13, y35_13, y36_13, rfl, rfl, ⟨⟨i_now, i_persons, i_lines, i_wordings, (show 0 ≤ (0 : Int) ∧ (0 : Int) ≤ 400 from by omega), i_suits, i_spk, i_fam, i_str, i_said, i_book, i_wds, (show Tok_ (y31_13) (n_0 29) from by first | exact i_tok | exact Tok_fr i_tok hb_.1), (show Cod_ (y32_13) (y33_13) (y34_13) (y35_13) (y36_13) (n_0 29) from by first | exact i_cod | exact Cod_fr i_cod ha_ hd_), i_far, i_tap, i_qua, i_sil, i_stz, i_way⟩, ⟨rfl, Or.inl ⟨rfl, rfl, by first | exact Or.inr ⟨by omega, hx_.2⟩ | exact Or.inl ⟨by omega, rfl, rfl⟩ | (exfalso; omega)⟩, by first | exact ⟨ha_, hb_, hd_⟩ | exact ⟨Fr_rf, Kf_rf, fun _ _ => ⟨rfl, rfl, rfl⟩⟩⟩⟩⟩ dX10_wording_89
      · refine j_aload_n E 73 rfl dX10_wording_72 rfl (lv_at hl 1 rfl) ?_
        refine j_aload_n E 74 rfl dX10_wording_73 rfl (lv_at hl 1 rfl) ?_
        refine m_get_41 E hK hw x41_13 rfl 77 rfl dX10_wording_74 (fun _ => ?_)
        refine m_put_43 E hK hw rx41_13 80 rfl dX10_wording_77 (fun H locs hw => ?_)
        have hw : WM D cy q (upN (upN (upN (upN (upN (upN (upN (upN (upN (upN (upN (upN (upN n_0 0 0) 23 0) 24 x24_13) 25 x25_13) 26 x26_13) 27 x27_13) 37 x37_13) 38 x38_13) 40 x40_13) 41 x41_13) 42 x42_13) 43 x41_13) 44 ((-1))) (upF (upF (upF (upF (upF (upF (upF (upF f_0 30 y30_13) 31 y31_13) 32 y32_13) 33 y33_13) 34 y34_13) 35 y35_13) 36 y36_13) 39 y39_13) A0 H0 H locs := hw
        refine j_aload_n E 81 rfl dX10_wording_80 rfl (lv_at hl 1 rfl) ?_
        refine j_aload_n E 82 rfl dX10_wording_81 rfl (lv_at hl 1 rfl) ?_
        refine m_get_42 E hK hw x42_13 rfl 85 rfl dX10_wording_82 (fun _ => ?_)
        refine m_put_44 E hK hw rx42_13 88 rfl dX10_wording_85 (fun H locs hw => ?_)
        have hw : WM D cy q (upN (upN (upN (upN (upN (upN (upN (upN (upN (upN (upN (upN (upN n_0 0 0) 23 0) 24 x24_13) 25 x25_13) 26 x26_13) 27 x27_13) 37 x37_13) 38 x38_13) 40 x40_13) 41 x41_13) 42 x42_13) 43 x41_13) 44 x42_13) (upF (upF (upF (upF (upF (upF (upF (upF f_0 30 y30_13) 31 y31_13) 32 y32_13) 33 y33_13) 34 y34_13) 35 y35_13) 36 y36_13) 39 y39_13) A0 H0 H locs := hw
        refine j_iconst E 89 rfl dX10_wording_88 ?_
        exact hret 89 ((-1)) (upN (upN (upN (upN (upN (upN (upN (upN (upN (upN (upN (upN (upN (upN n_0 0 0) 23 0) 24 x24_13) 25 x25_13) 26 x26_13) 27 x27_13) 29 (n_0 29)) 37 x37_13) 38 x38_13) 40 x40_13) 41 x41_13) 42 x42_13) 43 x41_13) 44 x42_13) (upF (upF (upF (upF (upF (upF (upF (upF f_0 30 y30_13) 31 y31_13) 32 y32_13) 33 y33_13) 34 y34_13) 35 y35_13) 36 y36_13) 39 y39_13) _ _ ls hw (rr (by decide)) ⟨0, x24_13, x25_13, x26_13, x27_13, x37_13, x38_13, x40_13, x41_13, x42_13, 0, (n_0 29), x41_13, x42_13, y30_13, y31_13, y32_13, y33_13, y39_13, y34_13, y35_13, y36_13, rfl, rfl, ⟨⟨i_now, i_persons, i_lines, i_wordings, (show 0 ≤ (0 : Int) ∧ (0 : Int) ≤ 400 from by omega), i_suits, i_spk, i_fam, i_str, i_said, i_book, i_wds, (show Tok_ (y31_13) (n_0 29) from by first | exact i_tok | exact Tok_fr i_tok hb_.1), (show Cod_ (y32_13) (y33_13) (y34_13) (y35_13) (y36_13) (n_0 29) from by first | exact i_cod | exact Cod_fr i_cod ha_ hd_), i_far, i_tap, i_qua, i_sil, i_stz, i_way⟩, ⟨rfl, Or.inl ⟨rfl, rfl, by first | exact Or.inr ⟨by omega, hx_.2⟩ | exact Or.inl ⟨by omega, rfl, rfl⟩ | (exfalso; omega)⟩, by first | exact ⟨ha_, hb_, hd_⟩ | exact ⟨Fr_rf, Kf_rf, fun _ _ => ⟨rfl, rfl, rfl⟩⟩⟩⟩⟩ dX10_wording_89
    · subst ee13_
      have hx_ := hh13_
      clear hh13_
      obtain ⟨ha_, hb_, hc_, hd_⟩ := hx_.1
      refine j_if_ne E 31 35 rfl (rr (by decide)) dX10_wording_28 (by decide) (fun cc20_ => absurd cc20_ (by decide)) (fun _ => ?_)
      refine j_iconst E 32 rfl dX10_wording_31 ?_
      refine j_goto E 36 dX10_wording_32 (by decide) ?_
      refine j_istore_n E 37 rfl [(1, .int (J 1)), (0, .ref (q 0))] dX10_wording_36 rfl hl (by decide) rfl (fun ls hl => ?_)
      refine j_aload_n E 38 rfl dX10_wording_37 rfl (lv_at hl 1 rfl) ?_
      refine j_iconst E 39 rfl dX10_wording_38 ?_
      refine m_put_23 E hK hw (rr (by decide)) 42 rfl dX10_wording_39 (fun H locs hw => ?_)
      have hw : WM D cy q (upN (upN (upN (upN (upN (upN (upN (upN (upN (upN (upN (upN (upN n_0 0 0) 23 0) 24 x24_13) 25 x25_13) 26 x26_13) 27 x27_13) 37 x37_13) 38 x38_13) 40 x40_13) 41 x41_13) 42 x42_13) 43 0) 44 ((-1))) (upF (upF (upF (upF (upF (upF (upF (upF f_0 30 y30_13) 31 y31_13) 32 y32_13) 33 y33_13) 34 y34_13) 35 y35_13) 36 y36_13) 39 y39_13) A0 H0 H locs := hw
      refine j_iload_n E 43 rfl dX10_wording_42 rfl (lv_at hl 0 rfl) ?_
      refine j_if_eq E 46 63 rfl (rr (by decide)) dX10_wording_43 (by decide) (fun cc22_ => absurd cc22_ (by decide)) (fun _ => ?_)
      refine j_aload_n E 47 rfl dX10_wording_46 rfl (lv_at hl 1 rfl) ?_
      refine j_aload_n E 48 rfl dX10_wording_47 rfl (lv_at hl 1 rfl) ?_
      refine m_get_29 E hK hw (n_0 29) rfl 51 rfl dX10_wording_48 (fun _ => ?_)
      refine j_iconst E 52 rfl dX10_wording_51 ?_
      refine j_iadd E 53 rfl dX10_wording_52 ?_
      refine m_put_29 E hK hw (rr (by omega)) 56 rfl dX10_wording_53 (fun H locs hw => ?_)
      have hw : WM D cy q (upN (upN (upN (upN (upN (upN (upN (upN (upN (upN (upN (upN (upN (upN n_0 0 0) 23 0) 24 x24_13) 25 x25_13) 26 x26_13) 27 x27_13) 29 ((n_0 29) + 1)) 37 x37_13) 38 x38_13) 40 x40_13) 41 x41_13) 42 x42_13) 43 0) 44 ((-1))) (upF (upF (upF (upF (upF (upF (upF (upF f_0 30 y30_13) 31 y31_13) 32 y32_13) 33 y33_13) 34 y34_13) 35 y35_13) 36 y36_13) 39 y39_13) A0 H0 H locs := hw
      refine j_aload_n E 57 rfl dX10_wording_56 rfl (lv_at hl 1 rfl) ?_
      refine m_get_29 E hK hw ((n_0 29) + 1) rfl 60 rfl dX10_wording_57 (fun rr24_ => ?_)
      refine j_iconst E 61 rfl dX10_wording_60 ?_
      refine j_isub E 62 rfl dX10_wording_61 ?_
      exact hret 62 (((n_0 29) + 1) - 1) (upN (upN (upN (upN (upN (upN (upN (upN (upN (upN (upN (upN (upN (upN n_0 0 0) 23 0) 24 x24_13) 25 x25_13) 26 x26_13) 27 x27_13) 29 ((n_0 29) + 1)) 37 x37_13) 38 x38_13) 40 x40_13) 41 x41_13) 42 x42_13) 43 0) 44 ((-1))) (upF (upF (upF (upF (upF (upF (upF (upF f_0 30 y30_13) 31 y31_13) 32 y32_13) 33 y33_13) 34 y34_13) 35 y35_13) 36 y36_13) 39 y39_13) _ _ ls hw (rr (by omega)) ⟨0, x24_13, x25_13, x26_13, x27_13, x37_13, x38_13, x40_13, x41_13, x42_13, 0, ((n_0 29) + 1), 0, ((-1)), y30_13, y31_13, y32_13, y33_13, y39_13, y34_13, y35_13, y36_13, rfl, rfl, ⟨⟨i_now, i_persons, i_lines, (show 0 ≤ ((n_0 29) + 1) ∧ ((n_0 29) + 1) ≤ 32 from by omega), (show 0 ≤ (0 : Int) ∧ (0 : Int) ≤ 400 from by omega), i_suits, i_spk, i_fam, (show Str_ (f_0 19) (f_0 20) ((n_0 29) + 1) from Str_mono i_str), (show Said_ (f_0 18) (n_0 12) ((n_0 29) + 1) from Said_mono i_said), (show Book_ (f_0 67) (n_0 12) ((n_0 29) + 1) from Book_mono i_book), i_wds, (show Tok_ (y31_13) ((n_0 29) + 1) from Tok_grow (Tok_fr i_tok hb_.1) hc_), (show Cod_ (y32_13) (y33_13) (y34_13) (y35_13) (y36_13) ((n_0 29) + 1) from Cod_grow (Cod_fr i_cod ha_ hd_) hx_.2.1), i_far, i_tap, i_qua, i_sil, i_stz, i_way⟩, ⟨rfl, Or.inr ⟨by omega, rfl, by omega, rfl, rfl, hx_.2.2⟩, ha_, hb_, hd_⟩⟩⟩ dX10_wording_62
