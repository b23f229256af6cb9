
def NA_ (K : Int → Int) (j : Int) : Prop := ¬ K j = 305 ∧ ¬ K j = 304
def M4_ (K V : Int → Int) (j jn : Int) (o : List Int) : Prop := ∀ (cl : Int) (sg : List (List Int)), cl = 302 ∨ cl = 303 → Rch_ K V (4, 0, j, [cl], [], sg) (5, 0, jn, [cl], o, sg)
def Mh4_ (K V : Int → Int) (j k jn : Int) : Prop := ∀ (cl : Int) (sg : List (List Int)), cl = 302 ∨ cl = 303 → Rch_ K V (4, 0, j, [cl], [], sg) (ft_ k.toNat jn)
def Mi_ (K V pe : Int → Int) (j np : Int) (m : Nat) (jj : Int) (o : List Int) : Prop := ∀ (cl : Int) (sg : List (List Int)), cl = 302 ∨ cl = 303 → Rch_ K V (4, 0, j, [cl], [], sg) (m, 0, jj, pL_ pe np ++ [cl], o, sg)
def Mj_ (K V pe : Int → Int) (j np gd jj : Int) (o : List Int) : Prop := (gd = 1 → Mi_ K V pe j np 4 jj o) ∧ (gd = 0 → Mi_ K V pe j np 5 jj o)
theorem Mj_1 {K V pe : Int → Int} {j np gd jj : Int} {o : List Int} (h : Mj_ K V pe j np gd jj o) (e : gd = 1) : Mi_ K V pe j np 4 jj o := h.1 e
theorem Mj_0 {K V pe : Int → Int} {j np gd jj : Int} {o : List Int} (h : Mj_ K V pe j np gd jj o) (e : gd = 0) : Mi_ K V pe j np 5 jj o := h.2 e
theorem Mj_a {K V pe : Int → Int} {j np gd jj : Int} {o : List Int} (e : gd = 1) (h : Mi_ K V pe j np 4 jj o) : Mj_ K V pe j np gd jj o := ⟨fun _ => h, fun q => absurd (q.symm.trans e) (by decide)⟩
theorem Mj_b {K V pe : Int → Int} {j np gd jj : Int} {o : List Int} (e : gd = 0) (h : Mi_ K V pe j np 5 jj o) : Mj_ K V pe j np gd jj o := ⟨fun q => absurd (e.symm.trans q) (by decide), fun _ => h⟩
section Cond4
variable {K V pe : Int → Int} {j np jj j3 k w op bk x : Int} {o o2 : List Int}
theorem Mi_0 (ho : o = []) : Mi_ K V pe j 0 4 j o := fun cl sg _ => by rw [ho, pL_0]; exact Rch_rf _
theorem pL_hd {cl : Int} (hc : cl = 302 ∨ cl = 303) (h : np = 0 ∨ (0 < np ∧ pe (np - 1) = w)) : (pL_ pe np ++ [cl]).headD 0 = cl ∨ (pL_ pe np ++ [cl]).headD 0 = md_ w := by
  rcases h with h | ⟨h, h2⟩
  · subst h; exact Or.inl rfl
  · rw [pL_nx h, h2]; exact Or.inr rfl
theorem pL_S3 {cl : Int} (hc : cl = 302 ∨ cl = 303) (h0 : 0 ≤ np) (h : np = 0 ∨ pe (np - 1) = 10 ∨ pe (np - 1) = 11 ∨ pe (np - 1) = 12 ∨ pe (np - 1) = 13) : S3_ (pL_ pe np ++ [cl]) := by
  have key : ∀ y : Int, y = 302 ∨ y = 303 ∨ y = 306 ∨ y = 305 ∨ y = 304 ∨ y = 13 → (pL_ pe np ++ [cl]).headD 0 = y → S3_ (pL_ pe np ++ [cl]) := fun y hy e => by
    unfold S3_
    rw [e]
    omega
  by_cases e0 : np = 0
  · subst e0; exact key cl (by omega) rfl
  · have q : (pL_ pe np ++ [cl]).headD 0 = md_ (pe (np - 1)) := by rw [pL_nx (by omega)]; rfl
    rcases h with h | h | h | h | h
    · exact absurd h e0
    · exact key 306 (by omega) (q.trans (by rw [h]; rfl))
    · exact key 305 (by omega) (q.trans (by rw [h]; rfl))
    · exact key 304 (by omega) (q.trans (by rw [h]; rfl))
    · exact key 13 (by omega) (q.trans (by rw [h]; rfl))
theorem Mi_push (h : Mi_ K V pe j np 4 jj o) (h0 : 0 ≤ np) (hp : Pk_ pe np op bk x) (ho : op < 8) (hk : (K jj = 306 ∧ w = 10) ∨ (K jj = 40 ∧ w = 13)) : Mi_ K V (upA pe np w) j (np + 1) 4 (jj + 1) o := fun cl sg hc => by
  have q := h cl sg hc
  have hop := Pk_opn hc hp
  rw [pL_push h0, List.cons_append]
  rcases hk with ⟨a, rfl⟩ | ⟨a, rfl⟩
  · exact Rch_sn q (sD_not a (by omega))
  · exact Rch_sn q (sD_opn a (by omega))
theorem Mi_deep (h : Mi_ K V pe j np 4 jj o) (hp : Pk_ pe np op bk x) (ho : op = 8) (hk : K jj = 306 ∨ K jj = 40) : Mh4_ K V j 3 jj := fun cl sg hc => Rch_sn (h cl sg hc) (sD_deep hk (by have := Pk_opn hc hp; omega))
theorem Mi_cmp (h : Mi_ K V pe j np 4 jj o) (h0 : 0 ≤ np) (hcl : np = 0 ∨ pe (np - 1) = 10 ∨ pe (np - 1) = 11 ∨ pe (np - 1) = 12 ∨ pe (np - 1) = 13) (hk : ¬ (K jj = 306 ∨ K jj = 40)) (h5 : M5_ K V jj j3 o o2) : Mi_ K V pe j np 5 j3 o2 := fun cl sg hc => Rch_tr (Rch_sn (h cl sg hc) (sD_cmp hk)) (h5 _ _ (pL_S3 hc h0 hcl))
theorem Mi_cmf (h : Mi_ K V pe j np 4 jj o) (h0 : 0 ≤ np) (hcl : np = 0 ∨ pe (np - 1) = 10 ∨ pe (np - 1) = 11 ∨ pe (np - 1) = 12 ∨ pe (np - 1) = 13) (hk : ¬ (K jj = 306 ∨ K jj = 40)) (h5 : Mh5_ K V jj k j3 o) : Mh4_ K V j k j3 := fun cl sg hc => Rch_tr (Rch_sn (h cl sg hc) (sD_cmp hk)) (h5 _ _ (pL_S3 hc h0 hcl))
theorem Mi_set {np2 : Int} (h : Mi_ K V pe j np 5 jj o) (hq : Mq_ K V pe jj np np2 o o2) : Mi_ K V pe j np2 5 jj o2 := fun cl sg hc => Rch_tr (h cl sg hc) (hq _ _)
theorem pL_h2 {cl : Int} (hc : cl = 302 ∨ cl = 303) (h0 : 0 ≤ np) (h : np = 0 ∨ pe (np - 1) = 13 ∨ pe (np - 1) = 12) : ¬ ((pL_ pe np ++ [cl]).headD 0 = 306 ∨ (pL_ pe np ++ [cl]).headD 0 = 305) := by
  by_cases e0 : np = 0
  · subst e0
    show ¬ (cl = 306 ∨ cl = 305)
    omega
  · rw [pL_nx (by omega)]
    show ¬ (md_ (pe (np - 1)) = 306 ∨ md_ (pe (np - 1)) = 305)
    rcases h with h | h | h
    · exact absurd h e0
    · rw [h, md_13]; omega
    · rw [h, md_12]; omega
theorem pL_h3 {cl : Int} (hc : cl = 302 ∨ cl = 303) (h0 : 0 ≤ np) (h : np = 0 ∨ pe (np - 1) = 13) : ¬ (pL_ pe np ++ [cl]).headD 0 = 304 := by
  by_cases e0 : np = 0
  · subst e0
    show ¬ cl = 304
    omega
  · rw [pL_nx (by omega)]
    show ¬ md_ (pe (np - 1)) = 304
    rcases h with h | h
    · exact absurd h e0
    · rw [h, md_13]; omega
theorem Mi_and (h : Mi_ K V pe j np 5 jj o) (h0 : 0 ≤ np) (ht : np = 0 ∨ pe (np - 1) = 13 ∨ pe (np - 1) = 12) (hk : K jj = 305) : Mi_ K V (upA pe np 11) j (np + 1) 4 (jj + 1) o := fun cl sg hc => by
  rw [pL_push h0, List.cons_append]
  exact Rch_sn (h cl sg hc) (sC_and (pL_h2 hc h0 ht) hk)
theorem Mi_or (h : Mi_ K V pe j np 5 jj o) (h0 : 0 ≤ np) (ht : np = 0 ∨ pe (np - 1) = 13) (hk : K jj = 304) : Mi_ K V (upA pe np 12) j (np + 1) 4 (jj + 1) o := fun cl sg hc => by
  rw [pL_push h0, List.cons_append]
  exact Rch_sn (h cl sg hc) (sC_or (pL_h2 hc h0 (ht.elim Or.inl (fun q => Or.inr (Or.inl q)))) (pL_h3 hc h0 ht) hk)
theorem Mi_cls (h : Mi_ K V pe j np 5 jj o) (h0 : 0 < np) (ht : pe (np - 1) = 13) (hk : K jj = 41) : Mi_ K V pe j (np - 1) 5 (jj + 1) o := fun cl sg hc => by
  have q := h cl sg hc
  rw [pL_nx h0, ht, md_13, List.cons_append] at q
  exact Rch_sn q (sC_cls hk)
theorem Mi_clf (h : Mi_ K V pe j np 5 jj o) (h0 : 0 < np) (ht : pe (np - 1) = 13) (hk : ¬ K jj = 41) (h2 : ¬ K jj = 305) (h3 : ¬ K jj = 304) : Mh4_ K V j 1 jj := fun cl sg hc => by
  have q := h cl sg hc
  rw [pL_nx h0, ht, md_13, List.cons_append] at q
  exact Rch_sn q (sC_cls1 hk h2 h3)
theorem Mi_end (h : Mi_ K V pe j np 5 jj o) (h0 : np = 0) : M4_ K V j jj o := by
  subst h0
  exact fun cl sg hc => h cl sg hc
end Cond4
theorem Pk_cls {pe : Int → Int} {np op bk e : Int} (h : Pk_ pe np op bk e) : np = 0 ∨ pe (np - 1) = 10 ∨ pe (np - 1) = 11 ∨ pe (np - 1) = 12 ∨ pe (np - 1) = 13 := by
  by_cases e0 : np = 0
  · exact Or.inl e0
  · have hb := Pk_nn h
    rcases Pk_pop h (by omega) with q | q | q | q
    · exact Or.inr (Or.inl q.1)
    · exact Or.inr (Or.inr (Or.inr (Or.inr q.1)))
    · exact Or.inr (Or.inr (Or.inr (Or.inl q.1)))
    · exact Or.inr (Or.inr (Or.inl q.1))
theorem st_top {pe : Int → Int} {np np2 : Int} (hk : np2 = 0 ∨ pe (np2 - 1) = 10 ∨ pe (np2 - 1) = 11 ∨ pe (np2 - 1) = 12 ∨ pe (np2 - 1) = 13) (h10 : np = 0 ∨ ¬ pe (np - 1) = 10) (tr : np2 = np ∨ np2 = 0 ∨ (11 : Int) = 10 ∨ pe (np2 - 1) = 13 ∨ ((11 : Int) = 11 ∧ pe (np2 - 1) = 12)) (hn : np2 = 0 ∨ ¬ pe (np2 - 1) = 11) : np2 = 0 ∨ pe (np2 - 1) = 13 ∨ pe (np2 - 1) = 12 := by
  rcases tr with q | q | q | q | q
  · subst q; omega
  · exact Or.inl q
  · omega
  · exact Or.inr (Or.inl q)
  · exact Or.inr (Or.inr q.2)
theorem st_top2 {pe : Int → Int} {np np2 : Int} (h1 : np = 0 ∨ pe (np - 1) = 13 ∨ pe (np - 1) = 12) (tr : np2 = np ∨ np2 = 0 ∨ (12 : Int) = 10 ∨ pe (np2 - 1) = 13 ∨ ((12 : Int) = 11 ∧ pe (np2 - 1) = 12)) (hn : np2 = 0 ∨ ¬ pe (np2 - 1) = 12) : np2 = 0 ∨ pe (np2 - 1) = 13 := by
  rcases tr with q | q | q | q | q
  · subst q; omega
  · exact Or.inl q
  · omega
  · exact Or.inr q
  · omega
theorem Pk_no13 {pe : Int → Int} {np op bk e : Int} (h : Pk_ pe np op bk e) (hb : bk = 0) (ht : np = 0 ∨ pe (np - 1) = 13) : np = 0 := by
  by_cases e0 : np = 0
  · exact e0
  · have hq := Pk_nn h
    rcases Pk_pop h (by omega) with q | q | q | q <;> (exfalso; omega)
theorem Pk_pop13 {pe : Int → Int} {np op bk e : Int} (h : Pk_ pe np op bk e) (hb : ¬ bk = 0) (ht : np = 0 ∨ pe (np - 1) = 13) : 0 < np ∧ pe (np - 1) = 13 ∧ Pk_ pe (np - 1) (op - 1) (bk - 1) e := by
  by_cases e0 : np = 0
  · subst e0; exact absurd (Pk_z h).2.2 hb
  · have hq := Pk_nn h
    refine ⟨by omega, by omega, ?_⟩
    rcases Pk_pop h (by omega) with q | q | q | q
    · exfalso; omega
    · exact q.2.1
    · exfalso; omega
    · exfalso; omega
theorem Pk_gc {pe : Int → Int} {np op bk e : Int} (h : Pk_ pe np op bk e) : bk ≤ op := by
  obtain ⟨h0, c, b, g, hz, hn, hs⟩ := h
  have key : ∀ k : Nat, (k : Int) ≤ np → g k ≤ c k := by
    intro k
    induction k with
    | zero => intro _; have e : ((0 : Nat) : Int) = 0 := rfl; rw [e]; omega
    | succ k ih =>
      intro hk
      have hq := hs k (by omega) (by omega)
      unfold Pq_ at hq
      have hi := ih (by omega)
      have e : ((k + 1 : Nat) : Int) = (k : Int) + 1 := by omega
      rw [e]
      omega
  have hk := key np.toNat (by omega)
  rw [Int.toNat_of_nonneg h0] at hk
  omega
theorem Pk_eq {pe : Int → Int} {np op bk e e2 : Int} (h : Pk_ pe np op bk e) (q : e2 = e) : Pk_ pe np op bk e2 := by rw [q]; exact h

set_option maxHeartbeats 60000000 in
set_option maxRecDepth 100000 in
theorem c_X10_readAny (l : Launch) (D : va_G) (cy : Nat → ClassId) (q : Nat → Nat) (n_0 : Nat → Int) (f_0 : Nat → Int → Int) (K_ : Int → Int) (V_ : Int → Int) (P_ : Int → Int) (Q_ : Int → Int) (j_ : Int) (hp0 : 0 ≤ (n_0 29) ∧ (n_0 29) < 32) (hp1 : 0 ≤ (n_0 23) ∧ (n_0 23) ≤ 400) (hp2 : Wds_ (f_0 28)) (hp3 : (0 ≤ (n_0 25) ∧ (n_0 25) ≤ (n_0 24) ∧ (n_0 24) ≤ (n_0 23)) ∧ (0 ≤ (f_0 31 ((n_0 29))) ∧ (f_0 31 ((n_0 29))) ≤ (n_0 24)) ∧ (0 ≤ (n_0 26) ∧ (n_0 26) ≤ 4) ∧ (¬ (n_0 26) = 0 → (n_0 25) < (n_0 24)) ∧ ((n_0 26) = 3 → 0 ≤ (n_0 27) ∧ (n_0 27) ≤ 9999) ∧ (0 ≤ (n_0 37) ∧ (n_0 37) ≤ (n_0 25))) (hp4 : (n_0 38) = 0) (hp5 : Strm_ (f_0 22) (n_0 23) K_ V_ P_ Q_) (hp6 : Rt_ K_ V_ P_ Q_ (n_0 24) (n_0 25) (n_0 26) (n_0 27) (tkw_ (f_0 30) (f_0 31) (n_0 29)) j_) (hp7 : Tap_ (f_0 22)) : MC l D cy q yX10_readAny cX10_readAny 4 (some .int) 7 [] n_0 f_0 (PI (fun (z_0 : Int) (n_2 : Nat → Int) (f_2 : Nat → Int → Int) => ∃ (x24_2 : Int) (x25_2 : Int) (x26_2 : Int) (x27_2 : Int) (x37_2 : Int) (x38_2 : Int) (x40_2 : Int) (x41_2 : Int) (x42_2 : Int) (y30_2 : Int → Int) (y31_2 : Int → Int) (y32_2 : Int → Int) (y33_2 : Int → Int) (y39_2 : Int → Int) , n_2 = upN (upN (upN (upN (upN (upN (upN (upN (upN n_0 24 x24_2) 25 x25_2) 26 x26_2) 27 x27_2) 37 x37_2) 38 x38_2) 40 x40_2) 41 x41_2) 42 x42_2 ∧ f_2 = upF (upF (upF (upF (upF f_0 30 y30_2) 31 y31_2) 32 y32_2) 33 y33_2) 39 y39_2 ∧ ((z_0 = -1 ∧ Fr_ (f_0 32) (f_0 33) (y32_2) (y33_2) (400 * (n_0 29) + (n_0 37)) ∧ Kf_ (f_0 31) (f_0 30) (y31_2) (y30_2) (n_0 29) ∧ (0 ≤ (y31_2 ((n_0 29))) ∧ (y31_2 ((n_0 29))) ≤ 400) ∧ (∃ jn_ : Int, (x42_2) = P_ jn_ ∧ (1 ≤ (x41_2) ∧ (x41_2) ≤ 3) ∧ Mh4_ K_ V_ j_ (x41_2) jn_)) ∨ (z_0 = 0 ∧ Fr_ (f_0 32) (f_0 33) (y32_2) (y33_2) (400 * (n_0 29) + (n_0 37)) ∧ Kf_ (f_0 31) (f_0 30) (y31_2) (y30_2) (n_0 29) ∧ (0 ≤ (y31_2 ((n_0 29))) ∧ (y31_2 ((n_0 29))) ≤ 400) ∧ ((0 ≤ (x25_2) ∧ (x25_2) ≤ (x24_2) ∧ (x24_2) ≤ (n_0 23)) ∧ (0 ≤ (y31_2 ((n_0 29))) ∧ (y31_2 ((n_0 29))) ≤ (x24_2)) ∧ (0 ≤ (x26_2) ∧ (x26_2) ≤ 4) ∧ (¬ (x26_2) = 0 → (x25_2) < (x24_2)) ∧ ((x26_2) = 3 → 0 ≤ (x27_2) ∧ (x27_2) ≤ 9999) ∧ (0 ≤ (x37_2) ∧ (x37_2) ≤ (x25_2))) ∧ ((n_0 25) ≤ (x25_2) ∧ (n_0 37) ≤ (x37_2)) ∧ (x38_2) = 0 ∧ (∃ e_, Pz_ (y32_2) (y33_2) (400 * (n_0 29) + (n_0 37)) (400 * (n_0 29) + (x37_2)) e_) ∧ (∃ jn_ : Int, j_ ≤ jn_ ∧ Rt_ K_ V_ P_ Q_ (x24_2) (x25_2) (x26_2) (x27_2) (tkw_ (y30_2) (y31_2) (n_0 29)) jn_ ∧ NA_ K_ jn_ ∧ M4_ K_ V_ j_ jn_ (cL_ (y32_2) (y33_2) (400 * (n_0 29) + (n_0 37)) (400 * (n_0 29) + (x37_2)))))))) := by
  refine MC.ofi rfl (Nat.le_of_ble_eq_true rfl) ?_
  intro p e s m below meth c ls ar QW A0 H0 H locs E hK hA hw hl hret
  have hl : lv_has ls 4 [(0, .ref (q 0))] := hl
  have j0_ := hp6.1
  refine j_iconst E 1 rfl dX10_readAny_0 ?_
  refine j_istore_n E 2 rfl [(1, .int (J 0)), (0, .ref (q 0))] dX10_readAny_1 rfl hl (by decide) rfl (fun ls hl => ?_)
  refine j_aload_n E 3 rfl dX10_readAny_2 rfl (lv_at hl 1 rfl) ?_
  refine j_iconst E 4 rfl dX10_readAny_3 ?_
  refine m_put_40 E hK hw (rr (by decide)) 7 rfl dX10_readAny_4 (fun H locs hw => ?_)
  have hw : WM D cy q (upN n_0 40 0) (f_0) A0 H0 H locs := hw
  refine j_iconst E 8 rfl dX10_readAny_7 ?_
  refine j_istore_n E 9 rfl [(2, .int (J 1)), (1, .int (J 0)), (0, .ref (q 0))] dX10_readAny_8 rfl hl (by decide) rfl (fun ls hl => ?_)
  have L9_2 : ∀ (k9 : Nat) (gb gd : Int) (x24_c9 : Int) (x25_c9 : Int) (x26_c9 : Int) (x27_c9 : Int) (x37_c9 : Int) (x38_c9 : Int) (x40_c9 : Int) (x41_c9 : Int) (x42_c9 : Int) (y30_c9 : Int → Int) (y31_c9 : Int → Int) (y32_c9 : Int → Int) (y33_c9 : Int → Int) (y39_c9 : Int → Int) (H : Heap) (locs : List Loc) (ls : Array Slot), inR gb → inR gd → (((0 ≤ (x25_c9) ∧ (x25_c9) ≤ (x24_c9) ∧ (x24_c9) ≤ (n_0 23)) ∧ (0 ≤ (y31_c9 ((n_0 29))) ∧ (y31_c9 ((n_0 29))) ≤ (x24_c9)) ∧ (0 ≤ (x26_c9) ∧ (x26_c9) ≤ 4) ∧ (¬ (x26_c9) = 0 → (x25_c9) < (x24_c9)) ∧ ((x26_c9) = 3 → 0 ≤ (x27_c9) ∧ (x27_c9) ≤ 9999)) ∧ (n_0 37 ≤ (x37_c9) ∧ (x37_c9) + (x40_c9) ≤ (x25_c9) ∧ n_0 25 ≤ (x25_c9) ∧ (x38_c9) ≤ 8 ∧ (gd = 0 ∨ gd = 1)) ∧ Fr_ (f_0 32) (f_0 33) (y32_c9) (y33_c9) (400 * n_0 29 + n_0 37) ∧ Kf_ (f_0 31) (f_0 30) (y31_c9) (y30_c9) (n_0 29) ∧ (gd = 0 → (x40_c9) = 0 ∨ ¬ (y39_c9 ((x40_c9) - 1)) = 10) ∧ (∃ e_, Pz_ (y32_c9) (y33_c9) (400 * n_0 29 + n_0 37) (400 * n_0 29 + (x37_c9)) e_ ∧ Pk_ (y39_c9) (x40_c9) (x38_c9) gb (e_ - 1 + gd)) ∧ (∃ jj_ : Int, j_ ≤ jj_ ∧ Rt_ K_ V_ P_ Q_ (x24_c9) (x25_c9) (x26_c9) (x27_c9) (tkw_ (y30_c9) (y31_c9) (n_0 29)) jj_ ∧ Mj_ K_ V_ (y39_c9) j_ (x40_c9) gd jj_ (cL_ (y32_c9) (y33_c9) (400 * n_0 29 + n_0 37) (400 * n_0 29 + (x37_c9))))) → ((n_0 23) + 1 - (x25_c9)) < (k9 : Int) → WM D cy q (upN (upN (upN (upN (upN (upN (upN (upN (upN n_0 24 x24_c9) 25 x25_c9) 26 x26_c9) 27 x27_c9) 37 x37_c9) 38 x38_c9) 40 x40_c9) 41 x41_c9) 42 x42_c9) (upF (upF (upF (upF (upF f_0 30 y30_c9) 31 y31_c9) 32 y32_c9) 33 y33_c9) 39 y39_c9) A0 H0 H locs → lv_has ls 4 [(0, .ref (q 0)), (1, .int (J gb)), (2, .int (J gd))] → W p l e (rmd 7 0 0) s m ar below meth c H locs 0 0 QW (F0 m 9 ls []) := by
    intro k9
    induction k9 with
    | zero =>
      intro gb gd x24_c9 x25_c9 x26_c9 x27_c9 x37_c9 x38_c9 x40_c9 x41_c9 x42_c9 y30_c9 y31_c9 y32_c9 y33_c9 y39_c9 H locs ls r_gb r_gd iv9 ms9 hw hl
      obtain ⟨is_, ib_, if_, ik_, it_, ⟨ez_, iz_, ip_⟩, jj_, jl_, jr_, im_⟩ := iv9; have in_ := Pk_nn ip_; exfalso; omega
    | succ k9 ih9 =>
      intro gb gd x24_c9 x25_c9 x26_c9 x27_c9 x37_c9 x38_c9 x40_c9 x41_c9 x42_c9 y30_c9 y31_c9 y32_c9 y33_c9 y39_c9 H locs ls r_gb r_gd iv9 ms9 hw hl
      obtain ⟨is_, ib_, if_, ik_, it_, ⟨ez_, iz_, ip_⟩, jj_, jl_, jr_, im_⟩ := iv9
      have in_ := Pk_nn ip_
      have ig_ := Pk_gc ip_
      have hb_ := iz_.2
      have rx24_c9 : inR x24_c9 := mRn_24 hw.1.2.2.1
      have rx25_c9 : inR x25_c9 := mRn_25 hw.1.2.2.1
      have rx26_c9 : inR x26_c9 := mRn_26 hw.1.2.2.1
      have rx27_c9 : inR x27_c9 := mRn_27 hw.1.2.2.1
      have rx37_c9 : inR x37_c9 := mRn_37 hw.1.2.2.1
      have rx38_c9 : inR x38_c9 := mRn_38 hw.1.2.2.1
      have rx40_c9 : inR x40_c9 := mRn_40 hw.1.2.2.1
      have rx41_c9 : inR x41_c9 := mRn_41 hw.1.2.2.1
      have rx42_c9 : inR x42_c9 := mRn_42 hw.1.2.2.1
      refine j_iload_n E 10 rfl dX10_readAny_9 rfl (lv_at hl 2 rfl) ?_
      refine j_if_eq E 13 108 rfl r_gd dX10_readAny_10 (by decide) (fun cc4_ => ?_) (fun cc4_ => ?_)
      · refine j_aload_n E 109 rfl dX10_readAny_108 rfl (lv_at hl 0 rfl) ?_
        refine j_iconst E 110 rfl dX10_readAny_109 ?_
        refine m_callp (po := fun z_0 => (z_0 = 1 ∧ (x26_c9) = 2 ∧ (x27_c9) = (4 : Int)) ∨ (z_0 = 0 ∧ ¬ ((x26_c9) = 2 ∧ (x27_c9) = (4 : Int)))) E (c_X10_isWord l D cy q (upN (upN (upN (upN (upN (upN (upN (upN (upN n_0 24 x24_c9) 25 x25_c9) 26 x26_c9) 27 x27_c9) 37 x37_c9) 38 x38_c9) 40 x40_c9) 41 x41_c9) 42 x42_c9) (upF (upF (upF (upF (upF f_0 30 y30_c9) 31 y31_c9) 32 y32_c9) 33 y33_c9) 39 y39_c9) 4  (rr (by decide)) ) rfl mt_X10_isWord ml_X10_259 hK hw hA ⟨Nat.le_of_ble_eq_true rfl, Nat.le_of_ble_eq_true rfl⟩ (As := [.int (J 4)]) (rest := []) rfl rfl hl.1 (Nat.le_of_ble_eq_true rfl) 113 rfl dX10_readAny_110 (fun zz5_ H locs rr5_ hq5_ hw => ?_)
        have hh5_ : (zz5_ = 1 ∧ (x26_c9) = 2 ∧ (x27_c9) = (4 : Int)) ∨ (zz5_ = 0 ∧ ¬ ((x26_c9) = 2 ∧ (x27_c9) = (4 : Int))) := hq5_
        clear hq5_
        rcases hh5_ with ⟨ee5_, hh5_⟩ | ⟨ee5_, hh5_⟩
        · subst ee5_
          have wa_ := hh5_
          clear hh5_
          refine j_if_eq E 116 137 rfl (rr (by decide)) dX10_readAny_113 (by decide) (fun cc6_ => absurd cc6_ (by decide)) (fun _ => ?_)
          refine j_aload_n E 117 rfl dX10_readAny_116 rfl (lv_at hl 0 rfl) ?_
          refine j_bipush E 119 rfl dX10_readAny_117 (by decide) ?_
          refine m_callv E (c_X10_settles l D cy q (upN (upN (upN (upN (upN (upN (upN (upN (upN n_0 24 x24_c9) 25 x25_c9) 26 x26_c9) 27 x27_c9) 37 x37_c9) 38 x38_c9) 40 x40_c9) 41 x41_c9) 42 x42_c9) (upF (upF (upF (upF (upF f_0 30 y30_c9) 31 y31_c9) 32 y32_c9) 33 y33_c9) 39 y39_c9) 11 (n_0 37) ez_ gb K_ V_ jj_ (rr (by decide)) (show 0 ≤ (n_0 29) ∧ (n_0 29) < 32 from by omega) (show ((11 : Int) : Int) = 10 ∨ ((11 : Int) : Int) = 11 ∨ ((11 : Int) : Int) = 12 from by omega) (show 0 ≤ (n_0 37) ∧ (n_0 37) ≤ (x37_c9) ∧ (x37_c9) + (x40_c9) ≤ 400 ∧ (x38_c9) ≤ 8 from by omega) (show Pz_ (y32_c9) (y33_c9) (400 * (n_0 29) + (n_0 37)) (400 * (n_0 29) + (x37_c9)) ez_ from iz_) (show Pk_ (y39_c9) (x40_c9) (x38_c9) gb (ez_ - 1) from Pk_eq ip_ (by omega)) (show ((11 : Int) : Int) = 12 → ¬ K_ jj_ = 305 from fun h9_ => absurd h9_ (by decide))) rfl mt_X10_settles ml_X10_297 hK hw hA ⟨Nat.le_of_ble_eq_true rfl, Nat.le_of_ble_eq_true rfl⟩ (As := [.int (J 11)]) (rest := []) rfl rfl hl.1 (Nat.le_of_ble_eq_true rfl) 122 rfl dX10_readAny_119 (fun n_7 f_7 H locs hq7_ hw => ?_)
          obtain ⟨x40_7, x37_7, x38_7, y32_7, y33_7, en7_, ef7_, hq7_⟩ := hq7_
          rw [en7_, ef7_] at hw; clear en7_ ef7_
          have hw : WM D cy q (upN (upN (upN (upN (upN (upN (upN (upN (upN n_0 24 x24_c9) 25 x25_c9) 26 x26_c9) 27 x27_c9) 37 x37_7) 38 x38_7) 40 x40_7) 41 x41_c9) 42 x42_c9) (upF (upF (upF (upF (upF f_0 30 y30_c9) 31 y31_c9) 32 y32_7) 33 y33_7) 39 y39_c9) A0 H0 H locs := hw
          have rx40_7 : inR x40_7 := mRn_40 hw.1.2.2.1
          have rx37_7 : inR x37_7 := mRn_37 hw.1.2.2.1
          have rx38_7 : inR x38_7 := mRn_38 hw.1.2.2.1
          have hh7_ : Fr_ (y32_c9) (y33_c9) (y32_7) (y33_7) (400 * (n_0 29) + (x37_c9)) ∧ ((x37_7) + (x40_7) = (x37_c9) + (x40_c9) ∧ 0 ≤ (x40_7) ∧ (x40_7) ≤ (x40_c9) ∧ (x38_7) ≤ (x38_c9) ∧ (x37_c9) ≤ (x37_7)) ∧ ((x40_7) = (x40_c9) ∨ (x40_7) = 0 ∨ ((11 : Int) : Int) = 10 ∨ (y39_c9 ((x40_7) - 1)) = 13 ∨ (((11 : Int) : Int) = 11 ∧ (y39_c9 ((x40_7) - 1)) = 12)) ∧ ((x40_7) = 0 ∨ ¬ (y39_c9 ((x40_7) - 1)) = (11 : Int)) ∧ (∃ e_, Pz_ (y32_7) (y33_7) (400 * (n_0 29) + (n_0 37)) (400 * (n_0 29) + (x37_7)) e_ ∧ Pk_ (y39_c9) (x40_7) (x38_7) gb (e_ - 1)) ∧ Mq_ K_ V_ (y39_c9) jj_ (x40_c9) (x40_7) (cL_ (y32_c9) (y33_c9) (400 * (n_0 29) + (n_0 37)) (400 * (n_0 29) + (x37_c9))) (cL_ (y32_7) (y33_7) (400 * (n_0 29) + (n_0 37)) (400 * (n_0 29) + (x37_7))) := hq7_
          clear hq7_
          obtain ⟨fr3_, ar3_, tp3_, nt3_, ⟨e3_, z3_, p3_⟩, mq3_⟩ := hh7_
          have mi3_ := Mi_set (Mj_0 im_ (by omega)) mq3_
          have nn3_ := Pk_nn p3_
          have bb3_ := z3_.2
          have c3_ := st_top (Pk_cls p3_) (it_ (by omega)) tp3_ nt3_
          clear tp3_ nt3_
          refine j_aload_n E 123 rfl dX10_readAny_122 rfl (lv_at hl 0 rfl) ?_
          refine j_bipush E 125 rfl dX10_readAny_123 (by decide) ?_
          refine m_callv E (c_X10_waits l D cy q (upN (upN (upN (upN (upN (upN (upN (upN (upN n_0 24 x24_c9) 25 x25_c9) 26 x26_c9) 27 x27_c9) 37 x37_7) 38 x38_7) 40 x40_7) 41 x41_c9) 42 x42_c9) (upF (upF (upF (upF (upF f_0 30 y30_c9) 31 y31_c9) 32 y32_7) 33 y33_7) 39 y39_c9) 11  (rr (by decide)) (show 0 ≤ (x40_7) ∧ (x40_7) < 40 from by omega)) rfl mt_X10_waits ml_X10_291 hK hw hA ⟨Nat.le_of_ble_eq_true rfl, Nat.le_of_ble_eq_true rfl⟩ (As := [.int (J 11)]) (rest := []) rfl rfl hl.1 (Nat.le_of_ble_eq_true rfl) 128 rfl dX10_readAny_125 (fun n_8 f_8 H locs hq8_ hw => ?_)
          obtain ⟨x40_8, y39_8, en8_, ef8_, hq8_⟩ := hq8_
          rw [en8_, ef8_] at hw; clear en8_ ef8_
          have hw : WM D cy q (upN (upN (upN (upN (upN (upN (upN (upN (upN n_0 24 x24_c9) 25 x25_c9) 26 x26_c9) 27 x27_c9) 37 x37_7) 38 x38_7) 40 x40_8) 41 x41_c9) 42 x42_c9) (upF (upF (upF (upF (upF f_0 30 y30_c9) 31 y31_c9) 32 y32_7) 33 y33_7) 39 y39_8) A0 H0 H locs := hw
          have rx40_8 : inR x40_8 := mRn_40 hw.1.2.2.1
          have hh8_ : (y39_8) = upA (y39_c9) (x40_7) (11 : Int) ∧ (x40_8) = (x40_7) + 1 := hq8_
          clear hq8_
          have hw_ := hh8_
          clear hh8_
          refine j_aload_n E 129 rfl dX10_readAny_128 rfl (lv_at hl 0 rfl) ?_
          refine m_callv E (c_X10_next l D cy q (upN (upN (upN (upN (upN (upN (upN (upN (upN n_0 24 x24_c9) 25 x25_c9) 26 x26_c9) 27 x27_c9) 37 x37_7) 38 x38_7) 40 x40_8) 41 x41_c9) 42 x42_c9) (upF (upF (upF (upF (upF f_0 30 y30_c9) 31 y31_c9) 32 y32_7) 33 y33_7) 39 y39_8)    (show 0 ≤ (n_0 29) ∧ (n_0 29) < 32 from by omega) (show 0 ≤ (n_0 23) ∧ (n_0 23) ≤ 400 from by omega) (show Wds_ (f_0 28) from hp2) (show 0 ≤ (x24_c9) ∧ (x24_c9) ≤ (n_0 23) from by omega) (show 0 ≤ (y31_c9 ((n_0 29))) ∧ (y31_c9 ((n_0 29))) ≤ (x24_c9) from by omega) (show Tap_ (f_0 22) from hp7)) rfl mt_X10_next ml_X10_269 hK hw hA ⟨Nat.le_of_ble_eq_true rfl, Nat.le_of_ble_eq_true rfl⟩ (As := []) (rest := []) rfl rfl hl.1 (Nat.le_of_ble_eq_true rfl) 132 rfl dX10_readAny_129 (fun n_9 f_9 H locs hq9_ hw => ?_)
          obtain ⟨x24_9, x25_9, x26_9, x27_9, y30_9, y31_9, en9_, ef9_, hq9_⟩ := hq9_
          rw [en9_, ef9_] at hw; clear en9_ ef9_
          have hw : WM D cy q (upN (upN (upN (upN (upN (upN (upN (upN (upN n_0 24 x24_9) 25 x25_9) 26 x26_9) 27 x27_9) 37 x37_7) 38 x38_7) 40 x40_8) 41 x41_c9) 42 x42_c9) (upF (upF (upF (upF (upF f_0 30 y30_9) 31 y31_9) 32 y32_7) 33 y33_7) 39 y39_8) A0 H0 H locs := hw
          have rx24_9 : inR x24_9 := mRn_24 hw.1.2.2.1
          have rx25_9 : inR x25_9 := mRn_25 hw.1.2.2.1
          have rx26_9 : inR x26_9 := mRn_26 hw.1.2.2.1
          have rx27_9 : inR x27_9 := mRn_27 hw.1.2.2.1
          have hh9_ : (0 ≤ (x25_9) ∧ (x25_9) ≤ (x24_9) ∧ (x24_9) ≤ (n_0 23)) ∧ (0 ≤ (y31_9 ((n_0 29))) ∧ (y31_9 ((n_0 29))) ≤ (x24_9)) ∧ (0 ≤ (x26_9) ∧ (x26_9) ≤ 4) ∧ (¬ (x26_9) = 0 → (x25_9) < (x24_9)) ∧ ((x26_9) = 3 → 0 ≤ (x27_9) ∧ (x27_9) ≤ 9999) ∧ (x24_c9) ≤ (x25_9) ∧ Kf_ (y31_c9) (y30_c9) (y31_9) (y30_9) (n_0 29) ∧ (((x26_9) ≤ 1 ∧ (y30_9) = (y30_c9) ∧ (y31_9) = (y31_c9)) ∨ (2 ≤ (x26_9) ∧ (y30_9) = upA (y30_c9) (400 * (n_0 29) + (y31_c9 ((n_0 29)))) (te_ (kd_ (x26_9) (x27_9)) (x27_9)) ∧ (y31_9) = upA (y31_c9) (n_0 29) ((y31_c9 ((n_0 29))) + 1))) ∧ Lx_ (f_0 22) (n_0 23) (x24_c9) (kd_ (x26_9) (x27_9)) (x27_9) (x25_9) (x24_9) ∧ Tv_ (x26_9) (x27_9) := hq9_
          clear hq9_
          have hk_ := hh9_.2.2.2.2.2.2.1
          have rn_ := rt_nx hp5 jr_ hh9_.2.2.2.2.2.2.2.2.1 rfl hh9_.2.2.2.2.2.2.2.2.2 hh9_.2.2.2.2.2.2.2.1
          refine j_iconst E 133 rfl dX10_readAny_132 ?_
          refine j_istore_n E 134 rfl [(2, .int (J 1)), (0, .ref (q 0)), (1, .int (J gb))] dX10_readAny_133 rfl hl (by decide) rfl (fun ls hl => ?_)
          refine j_goto E 9 dX10_readAny_134 (by decide) ?_
          exact ih9 gb 1 x24_9 x25_9 x26_9 x27_9 x37_7 x38_7 x40_8 x41_c9 x42_c9 y30_9 y31_9 y32_7 y33_7 y39_8 H locs ls r_gb (rr (by decide)) (⟨by omega, by omega, Fr_tr if_ fr3_ (by omega), tk_tr ik_ hk_, fun h_ => absurd h_ (by omega), ⟨e3_, z3_, by rw [hw_.1, hw_.2]; exact Pk_push p3_ (by omega)⟩, jj_ + 1, by omega, rn_, Mj_a (by omega) (by rw [hw_.1, hw_.2]; exact Mi_and mi3_ (by omega) c3_ (rt_w (k := 305) jr_ wa_ (by decide)))⟩) (by omega) hw (lv_sub hl [1, 2, 0] rfl)
        · subst ee5_
          have wa_ := hh5_
          clear hh5_
          refine j_if_eq E 116 137 rfl (rr (by decide)) dX10_readAny_113 (by decide) (fun _ => ?_) (fun cc10_ => absurd cc10_ (by decide))
          refine j_aload_n E 138 rfl dX10_readAny_137 rfl (lv_at hl 0 rfl) ?_
          refine j_iconst E 139 rfl dX10_readAny_138 ?_
          refine m_callp (po := fun z_0 => (z_0 = 1 ∧ (x26_c9) = 2 ∧ (x27_c9) = (3 : Int)) ∨ (z_0 = 0 ∧ ¬ ((x26_c9) = 2 ∧ (x27_c9) = (3 : Int)))) E (c_X10_isWord l D cy q (upN (upN (upN (upN (upN (upN (upN (upN (upN n_0 24 x24_c9) 25 x25_c9) 26 x26_c9) 27 x27_c9) 37 x37_c9) 38 x38_c9) 40 x40_c9) 41 x41_c9) 42 x42_c9) (upF (upF (upF (upF (upF f_0 30 y30_c9) 31 y31_c9) 32 y32_c9) 33 y33_c9) 39 y39_c9) 3  (rr (by decide)) ) rfl mt_X10_isWord ml_X10_259 hK hw hA ⟨Nat.le_of_ble_eq_true rfl, Nat.le_of_ble_eq_true rfl⟩ (As := [.int (J 3)]) (rest := []) rfl rfl hl.1 (Nat.le_of_ble_eq_true rfl) 142 rfl dX10_readAny_139 (fun zz11_ H locs rr11_ hq11_ hw => ?_)
          have hh11_ : (zz11_ = 1 ∧ (x26_c9) = 2 ∧ (x27_c9) = (3 : Int)) ∨ (zz11_ = 0 ∧ ¬ ((x26_c9) = 2 ∧ (x27_c9) = (3 : Int))) := hq11_
          clear hq11_
          rcases hh11_ with ⟨ee11_, hh11_⟩ | ⟨ee11_, hh11_⟩
          · subst ee11_
            have wo_ := hh11_
            clear hh11_
            refine j_if_eq E 145 172 rfl (rr (by decide)) dX10_readAny_142 (by decide) (fun cc12_ => absurd cc12_ (by decide)) (fun _ => ?_)
            refine j_aload_n E 146 rfl dX10_readAny_145 rfl (lv_at hl 0 rfl) ?_
            refine j_bipush E 148 rfl dX10_readAny_146 (by decide) ?_
            refine m_callv E (c_X10_settles l D cy q (upN (upN (upN (upN (upN (upN (upN (upN (upN n_0 24 x24_c9) 25 x25_c9) 26 x26_c9) 27 x27_c9) 37 x37_c9) 38 x38_c9) 40 x40_c9) 41 x41_c9) 42 x42_c9) (upF (upF (upF (upF (upF f_0 30 y30_c9) 31 y31_c9) 32 y32_c9) 33 y33_c9) 39 y39_c9) 11 (n_0 37) ez_ gb K_ V_ jj_ (rr (by decide)) (show 0 ≤ (n_0 29) ∧ (n_0 29) < 32 from by omega) (show ((11 : Int) : Int) = 10 ∨ ((11 : Int) : Int) = 11 ∨ ((11 : Int) : Int) = 12 from by omega) (show 0 ≤ (n_0 37) ∧ (n_0 37) ≤ (x37_c9) ∧ (x37_c9) + (x40_c9) ≤ 400 ∧ (x38_c9) ≤ 8 from by omega) (show Pz_ (y32_c9) (y33_c9) (400 * (n_0 29) + (n_0 37)) (400 * (n_0 29) + (x37_c9)) ez_ from iz_) (show Pk_ (y39_c9) (x40_c9) (x38_c9) gb (ez_ - 1) from Pk_eq ip_ (by omega)) (show ((11 : Int) : Int) = 12 → ¬ K_ jj_ = 305 from fun h9_ => absurd h9_ (by decide))) rfl mt_X10_settles ml_X10_297 hK hw hA ⟨Nat.le_of_ble_eq_true rfl, Nat.le_of_ble_eq_true rfl⟩ (As := [.int (J 11)]) (rest := []) rfl rfl hl.1 (Nat.le_of_ble_eq_true rfl) 151 rfl dX10_readAny_148 (fun n_13 f_13 H locs hq13_ hw => ?_)
            obtain ⟨x40_13, x37_13, x38_13, y32_13, y33_13, en13_, ef13_, hq13_⟩ := hq13_
            rw [en13_, ef13_] at hw; clear en13_ ef13_
            have hw : WM D cy q (upN (upN (upN (upN (upN (upN (upN (upN (upN n_0 24 x24_c9) 25 x25_c9) 26 x26_c9) 27 x27_c9) 37 x37_13) 38 x38_13) 40 x40_13) 41 x41_c9) 42 x42_c9) (upF (upF (upF (upF (upF f_0 30 y30_c9) 31 y31_c9) 32 y32_13) 33 y33_13) 39 y39_c9) A0 H0 H locs := hw
            have rx40_13 : inR x40_13 := mRn_40 hw.1.2.2.1
            have rx37_13 : inR x37_13 := mRn_37 hw.1.2.2.1
            have rx38_13 : inR x38_13 := mRn_38 hw.1.2.2.1
            have hh13_ : Fr_ (y32_c9) (y33_c9) (y32_13) (y33_13) (400 * (n_0 29) + (x37_c9)) ∧ ((x37_13) + (x40_13) = (x37_c9) + (x40_c9) ∧ 0 ≤ (x40_13) ∧ (x40_13) ≤ (x40_c9) ∧ (x38_13) ≤ (x38_c9) ∧ (x37_c9) ≤ (x37_13)) ∧ ((x40_13) = (x40_c9) ∨ (x40_13) = 0 ∨ ((11 : Int) : Int) = 10 ∨ (y39_c9 ((x40_13) - 1)) = 13 ∨ (((11 : Int) : Int) = 11 ∧ (y39_c9 ((x40_13) - 1)) = 12)) ∧ ((x40_13) = 0 ∨ ¬ (y39_c9 ((x40_13) - 1)) = (11 : Int)) ∧ (∃ e_, Pz_ (y32_13) (y33_13) (400 * (n_0 29) + (n_0 37)) (400 * (n_0 29) + (x37_13)) e_ ∧ Pk_ (y39_c9) (x40_13) (x38_13) gb (e_ - 1)) ∧ Mq_ K_ V_ (y39_c9) jj_ (x40_c9) (x40_13) (cL_ (y32_c9) (y33_c9) (400 * (n_0 29) + (n_0 37)) (400 * (n_0 29) + (x37_c9))) (cL_ (y32_13) (y33_13) (400 * (n_0 29) + (n_0 37)) (400 * (n_0 29) + (x37_13))) := hq13_
            clear hq13_
            obtain ⟨fr3_, ar3_, tp3_, nt3_, ⟨e3_, z3_, p3_⟩, mq3_⟩ := hh13_
            have mi3_ := Mi_set (Mj_0 im_ (by omega)) mq3_
            have nn3_ := Pk_nn p3_
            have bb3_ := z3_.2
            have c3_ := st_top (Pk_cls p3_) (it_ (by omega)) tp3_ nt3_
            clear tp3_ nt3_
            refine j_aload_n E 152 rfl dX10_readAny_151 rfl (lv_at hl 0 rfl) ?_
            refine j_bipush E 154 rfl dX10_readAny_152 (by decide) ?_
            refine m_callv E (c_X10_settles l D cy q (upN (upN (upN (upN (upN (upN (upN (upN (upN n_0 24 x24_c9) 25 x25_c9) 26 x26_c9) 27 x27_c9) 37 x37_13) 38 x38_13) 40 x40_13) 41 x41_c9) 42 x42_c9) (upF (upF (upF (upF (upF f_0 30 y30_c9) 31 y31_c9) 32 y32_13) 33 y33_13) 39 y39_c9) 12 (n_0 37) e3_ gb K_ V_ jj_ (rr (by decide)) (show 0 ≤ (n_0 29) ∧ (n_0 29) < 32 from by omega) (show ((12 : Int) : Int) = 10 ∨ ((12 : Int) : Int) = 11 ∨ ((12 : Int) : Int) = 12 from by omega) (show 0 ≤ (n_0 37) ∧ (n_0 37) ≤ (x37_13) ∧ (x37_13) + (x40_13) ≤ 400 ∧ (x38_13) ≤ 8 from by omega) (show Pz_ (y32_13) (y33_13) (400 * (n_0 29) + (n_0 37)) (400 * (n_0 29) + (x37_13)) e3_ from z3_) (show Pk_ (y39_c9) (x40_13) (x38_13) gb (e3_ - 1) from p3_) (show ((12 : Int) : Int) = 12 → ¬ K_ jj_ = 305 from fun _ => (rt_nw (k := 305) jr_ wa_ (by decide)))) rfl mt_X10_settles ml_X10_297 hK hw hA ⟨Nat.le_of_ble_eq_true rfl, Nat.le_of_ble_eq_true rfl⟩ (As := [.int (J 12)]) (rest := []) rfl rfl hl.1 (Nat.le_of_ble_eq_true rfl) 157 rfl dX10_readAny_154 (fun n_14 f_14 H locs hq14_ hw => ?_)
            obtain ⟨x40_14, x37_14, x38_14, y32_14, y33_14, en14_, ef14_, hq14_⟩ := hq14_
            rw [en14_, ef14_] at hw; clear en14_ ef14_
            have hw : WM D cy q (upN (upN (upN (upN (upN (upN (upN (upN (upN n_0 24 x24_c9) 25 x25_c9) 26 x26_c9) 27 x27_c9) 37 x37_14) 38 x38_14) 40 x40_14) 41 x41_c9) 42 x42_c9) (upF (upF (upF (upF (upF f_0 30 y30_c9) 31 y31_c9) 32 y32_14) 33 y33_14) 39 y39_c9) A0 H0 H locs := hw
            have rx40_14 : inR x40_14 := mRn_40 hw.1.2.2.1
            have rx37_14 : inR x37_14 := mRn_37 hw.1.2.2.1
            have rx38_14 : inR x38_14 := mRn_38 hw.1.2.2.1
            have hh14_ : Fr_ (y32_13) (y33_13) (y32_14) (y33_14) (400 * (n_0 29) + (x37_13)) ∧ ((x37_14) + (x40_14) = (x37_13) + (x40_13) ∧ 0 ≤ (x40_14) ∧ (x40_14) ≤ (x40_13) ∧ (x38_14) ≤ (x38_13) ∧ (x37_13) ≤ (x37_14)) ∧ ((x40_14) = (x40_13) ∨ (x40_14) = 0 ∨ ((12 : Int) : Int) = 10 ∨ (y39_c9 ((x40_14) - 1)) = 13 ∨ (((12 : Int) : Int) = 11 ∧ (y39_c9 ((x40_14) - 1)) = 12)) ∧ ((x40_14) = 0 ∨ ¬ (y39_c9 ((x40_14) - 1)) = (12 : Int)) ∧ (∃ e_, Pz_ (y32_14) (y33_14) (400 * (n_0 29) + (n_0 37)) (400 * (n_0 29) + (x37_14)) e_ ∧ Pk_ (y39_c9) (x40_14) (x38_14) gb (e_ - 1)) ∧ Mq_ K_ V_ (y39_c9) jj_ (x40_13) (x40_14) (cL_ (y32_13) (y33_13) (400 * (n_0 29) + (n_0 37)) (400 * (n_0 29) + (x37_13))) (cL_ (y32_14) (y33_14) (400 * (n_0 29) + (n_0 37)) (400 * (n_0 29) + (x37_14))) := hq14_
            clear hq14_
            obtain ⟨fr4_, ar4_, tp4_, nt4_, ⟨e4_, z4_, p4_⟩, mq4_⟩ := hh14_
            have mi4_ := Mi_set mi3_ mq4_
            have nn4_ := Pk_nn p4_
            have bb4_ := z4_.2
            have c4_ := st_top2 c3_ tp4_ nt4_
            clear c3_
            clear tp4_ nt4_
            refine j_aload_n E 158 rfl dX10_readAny_157 rfl (lv_at hl 0 rfl) ?_
            refine j_bipush E 160 rfl dX10_readAny_158 (by decide) ?_
            refine m_callv E (c_X10_waits l D cy q (upN (upN (upN (upN (upN (upN (upN (upN (upN n_0 24 x24_c9) 25 x25_c9) 26 x26_c9) 27 x27_c9) 37 x37_14) 38 x38_14) 40 x40_14) 41 x41_c9) 42 x42_c9) (upF (upF (upF (upF (upF f_0 30 y30_c9) 31 y31_c9) 32 y32_14) 33 y33_14) 39 y39_c9) 12  (rr (by decide)) (show 0 ≤ (x40_14) ∧ (x40_14) < 40 from by omega)) rfl mt_X10_waits ml_X10_291 hK hw hA ⟨Nat.le_of_ble_eq_true rfl, Nat.le_of_ble_eq_true rfl⟩ (As := [.int (J 12)]) (rest := []) rfl rfl hl.1 (Nat.le_of_ble_eq_true rfl) 163 rfl dX10_readAny_160 (fun n_15 f_15 H locs hq15_ hw => ?_)
            obtain ⟨x40_15, y39_15, en15_, ef15_, hq15_⟩ := hq15_
            rw [en15_, ef15_] at hw; clear en15_ ef15_
            have hw : WM D cy q (upN (upN (upN (upN (upN (upN (upN (upN (upN n_0 24 x24_c9) 25 x25_c9) 26 x26_c9) 27 x27_c9) 37 x37_14) 38 x38_14) 40 x40_15) 41 x41_c9) 42 x42_c9) (upF (upF (upF (upF (upF f_0 30 y30_c9) 31 y31_c9) 32 y32_14) 33 y33_14) 39 y39_15) A0 H0 H locs := hw
            have rx40_15 : inR x40_15 := mRn_40 hw.1.2.2.1
            have hh15_ : (y39_15) = upA (y39_c9) (x40_14) (12 : Int) ∧ (x40_15) = (x40_14) + 1 := hq15_
            clear hq15_
            have hw_ := hh15_
            clear hh15_
            refine j_aload_n E 164 rfl dX10_readAny_163 rfl (lv_at hl 0 rfl) ?_
            refine m_callv E (c_X10_next l D cy q (upN (upN (upN (upN (upN (upN (upN (upN (upN n_0 24 x24_c9) 25 x25_c9) 26 x26_c9) 27 x27_c9) 37 x37_14) 38 x38_14) 40 x40_15) 41 x41_c9) 42 x42_c9) (upF (upF (upF (upF (upF f_0 30 y30_c9) 31 y31_c9) 32 y32_14) 33 y33_14) 39 y39_15)    (show 0 ≤ (n_0 29) ∧ (n_0 29) < 32 from by omega) (show 0 ≤ (n_0 23) ∧ (n_0 23) ≤ 400 from by omega) (show Wds_ (f_0 28) from hp2) (show 0 ≤ (x24_c9) ∧ (x24_c9) ≤ (n_0 23) from by omega) (show 0 ≤ (y31_c9 ((n_0 29))) ∧ (y31_c9 ((n_0 29))) ≤ (x24_c9) from by omega) (show Tap_ (f_0 22) from hp7)) rfl mt_X10_next ml_X10_269 hK hw hA ⟨Nat.le_of_ble_eq_true rfl, Nat.le_of_ble_eq_true rfl⟩ (As := []) (rest := []) rfl rfl hl.1 (Nat.le_of_ble_eq_true rfl) 167 rfl dX10_readAny_164 (fun n_16 f_16 H locs hq16_ hw => ?_)
            obtain ⟨x24_16, x25_16, x26_16, x27_16, y30_16, y31_16, en16_, ef16_, hq16_⟩ := hq16_
            rw [en16_, ef16_] at hw; clear en16_ ef16_
            have hw : WM D cy q (upN (upN (upN (upN (upN (upN (upN (upN (upN n_0 24 x24_16) 25 x25_16) 26 x26_16) 27 x27_16) 37 x37_14) 38 x38_14) 40 x40_15) 41 x41_c9) 42 x42_c9) (upF (upF (upF (upF (upF f_0 30 y30_16) 31 y31_16) 32 y32_14) 33 y33_14) 39 y39_15) A0 H0 H locs := hw
            have rx24_16 : inR x24_16 := mRn_24 hw.1.2.2.1
            have rx25_16 : inR x25_16 := mRn_25 hw.1.2.2.1
            have rx26_16 : inR x26_16 := mRn_26 hw.1.2.2.1
            have rx27_16 : inR x27_16 := mRn_27 hw.1.2.2.1
            have hh16_ : (0 ≤ (x25_16) ∧ (x25_16) ≤ (x24_16) ∧ (x24_16) ≤ (n_0 23)) ∧ (0 ≤ (y31_16 ((n_0 29))) ∧ (y31_16 ((n_0 29))) ≤ (x24_16)) ∧ (0 ≤ (x26_16) ∧ (x26_16) ≤ 4) ∧ (¬ (x26_16) = 0 → (x25_16) < (x24_16)) ∧ ((x26_16) = 3 → 0 ≤ (x27_16) ∧ (x27_16) ≤ 9999) ∧ (x24_c9) ≤ (x25_16) ∧ Kf_ (y31_c9) (y30_c9) (y31_16) (y30_16) (n_0 29) ∧ (((x26_16) ≤ 1 ∧ (y30_16) = (y30_c9) ∧ (y31_16) = (y31_c9)) ∨ (2 ≤ (x26_16) ∧ (y30_16) = upA (y30_c9) (400 * (n_0 29) + (y31_c9 ((n_0 29)))) (te_ (kd_ (x26_16) (x27_16)) (x27_16)) ∧ (y31_16) = upA (y31_c9) (n_0 29) ((y31_c9 ((n_0 29))) + 1))) ∧ Lx_ (f_0 22) (n_0 23) (x24_c9) (kd_ (x26_16) (x27_16)) (x27_16) (x25_16) (x24_16) ∧ Tv_ (x26_16) (x27_16) := hq16_
            clear hq16_
            have hk_ := hh16_.2.2.2.2.2.2.1
            have rn_ := rt_nx hp5 jr_ hh16_.2.2.2.2.2.2.2.2.1 rfl hh16_.2.2.2.2.2.2.2.2.2 hh16_.2.2.2.2.2.2.2.1
            refine j_iconst E 168 rfl dX10_readAny_167 ?_
            refine j_istore_n E 169 rfl [(2, .int (J 1)), (0, .ref (q 0)), (1, .int (J gb))] dX10_readAny_168 rfl hl (by decide) rfl (fun ls hl => ?_)
            refine j_goto E 9 dX10_readAny_169 (by decide) ?_
            exact ih9 gb 1 x24_16 x25_16 x26_16 x27_16 x37_14 x38_14 x40_15 x41_c9 x42_c9 y30_16 y31_16 y32_14 y33_14 y39_15 H locs ls r_gb (rr (by decide)) (⟨by omega, by omega, Fr_tr (Fr_tr if_ fr3_ (by omega)) fr4_ (by omega), tk_tr ik_ hk_, fun h_ => absurd h_ (by omega), ⟨e4_, z4_, by rw [hw_.1, hw_.2]; exact Pk_push p4_ (by omega)⟩, jj_ + 1, by omega, rn_, Mj_a (by omega) (by rw [hw_.1, hw_.2]; exact Mi_or mi4_ (by omega) c4_ (rt_w (k := 304) jr_ wo_ (by decide)))⟩) (by omega) hw (lv_sub hl [1, 2, 0] rfl)
          · subst ee11_
            have wo_ := hh11_
            clear hh11_
            refine j_if_eq E 145 172 rfl (rr (by decide)) dX10_readAny_142 (by decide) (fun _ => ?_) (fun cc17_ => absurd cc17_ (by decide))
            refine j_aload_n E 173 rfl dX10_readAny_172 rfl (lv_at hl 0 rfl) ?_
            refine j_bipush E 175 rfl dX10_readAny_173 (by decide) ?_
            refine m_callv E (c_X10_settles l D cy q (upN (upN (upN (upN (upN (upN (upN (upN (upN n_0 24 x24_c9) 25 x25_c9) 26 x26_c9) 27 x27_c9) 37 x37_c9) 38 x38_c9) 40 x40_c9) 41 x41_c9) 42 x42_c9) (upF (upF (upF (upF (upF f_0 30 y30_c9) 31 y31_c9) 32 y32_c9) 33 y33_c9) 39 y39_c9) 11 (n_0 37) ez_ gb K_ V_ jj_ (rr (by decide)) (show 0 ≤ (n_0 29) ∧ (n_0 29) < 32 from by omega) (show ((11 : Int) : Int) = 10 ∨ ((11 : Int) : Int) = 11 ∨ ((11 : Int) : Int) = 12 from by omega) (show 0 ≤ (n_0 37) ∧ (n_0 37) ≤ (x37_c9) ∧ (x37_c9) + (x40_c9) ≤ 400 ∧ (x38_c9) ≤ 8 from by omega) (show Pz_ (y32_c9) (y33_c9) (400 * (n_0 29) + (n_0 37)) (400 * (n_0 29) + (x37_c9)) ez_ from iz_) (show Pk_ (y39_c9) (x40_c9) (x38_c9) gb (ez_ - 1) from Pk_eq ip_ (by omega)) (show ((11 : Int) : Int) = 12 → ¬ K_ jj_ = 305 from fun h9_ => absurd h9_ (by decide))) rfl mt_X10_settles ml_X10_297 hK hw hA ⟨Nat.le_of_ble_eq_true rfl, Nat.le_of_ble_eq_true rfl⟩ (As := [.int (J 11)]) (rest := []) rfl rfl hl.1 (Nat.le_of_ble_eq_true rfl) 178 rfl dX10_readAny_175 (fun n_18 f_18 H locs hq18_ hw => ?_)
            obtain ⟨x40_18, x37_18, x38_18, y32_18, y33_18, en18_, ef18_, hq18_⟩ := hq18_
            rw [en18_, ef18_] at hw; clear en18_ ef18_
            have hw : WM D cy q (upN (upN (upN (upN (upN (upN (upN (upN (upN n_0 24 x24_c9) 25 x25_c9) 26 x26_c9) 27 x27_c9) 37 x37_18) 38 x38_18) 40 x40_18) 41 x41_c9) 42 x42_c9) (upF (upF (upF (upF (upF f_0 30 y30_c9) 31 y31_c9) 32 y32_18) 33 y33_18) 39 y39_c9) A0 H0 H locs := hw
            have rx40_18 : inR x40_18 := mRn_40 hw.1.2.2.1
            have rx37_18 : inR x37_18 := mRn_37 hw.1.2.2.1
            have rx38_18 : inR x38_18 := mRn_38 hw.1.2.2.1
            have hh18_ : Fr_ (y32_c9) (y33_c9) (y32_18) (y33_18) (400 * (n_0 29) + (x37_c9)) ∧ ((x37_18) + (x40_18) = (x37_c9) + (x40_c9) ∧ 0 ≤ (x40_18) ∧ (x40_18) ≤ (x40_c9) ∧ (x38_18) ≤ (x38_c9) ∧ (x37_c9) ≤ (x37_18)) ∧ ((x40_18) = (x40_c9) ∨ (x40_18) = 0 ∨ ((11 : Int) : Int) = 10 ∨ (y39_c9 ((x40_18) - 1)) = 13 ∨ (((11 : Int) : Int) = 11 ∧ (y39_c9 ((x40_18) - 1)) = 12)) ∧ ((x40_18) = 0 ∨ ¬ (y39_c9 ((x40_18) - 1)) = (11 : Int)) ∧ (∃ e_, Pz_ (y32_18) (y33_18) (400 * (n_0 29) + (n_0 37)) (400 * (n_0 29) + (x37_18)) e_ ∧ Pk_ (y39_c9) (x40_18) (x38_18) gb (e_ - 1)) ∧ Mq_ K_ V_ (y39_c9) jj_ (x40_c9) (x40_18) (cL_ (y32_c9) (y33_c9) (400 * (n_0 29) + (n_0 37)) (400 * (n_0 29) + (x37_c9))) (cL_ (y32_18) (y33_18) (400 * (n_0 29) + (n_0 37)) (400 * (n_0 29) + (x37_18))) := hq18_
            clear hq18_
            obtain ⟨fr3_, ar3_, tp3_, nt3_, ⟨e3_, z3_, p3_⟩, mq3_⟩ := hh18_
            have mi3_ := Mi_set (Mj_0 im_ (by omega)) mq3_
            have nn3_ := Pk_nn p3_
            have bb3_ := z3_.2
            have c3_ := st_top (Pk_cls p3_) (it_ (by omega)) tp3_ nt3_
            clear tp3_ nt3_
            refine j_aload_n E 179 rfl dX10_readAny_178 rfl (lv_at hl 0 rfl) ?_
            refine j_bipush E 181 rfl dX10_readAny_179 (by decide) ?_
            refine m_callv E (c_X10_settles l D cy q (upN (upN (upN (upN (upN (upN (upN (upN (upN n_0 24 x24_c9) 25 x25_c9) 26 x26_c9) 27 x27_c9) 37 x37_18) 38 x38_18) 40 x40_18) 41 x41_c9) 42 x42_c9) (upF (upF (upF (upF (upF f_0 30 y30_c9) 31 y31_c9) 32 y32_18) 33 y33_18) 39 y39_c9) 12 (n_0 37) e3_ gb K_ V_ jj_ (rr (by decide)) (show 0 ≤ (n_0 29) ∧ (n_0 29) < 32 from by omega) (show ((12 : Int) : Int) = 10 ∨ ((12 : Int) : Int) = 11 ∨ ((12 : Int) : Int) = 12 from by omega) (show 0 ≤ (n_0 37) ∧ (n_0 37) ≤ (x37_18) ∧ (x37_18) + (x40_18) ≤ 400 ∧ (x38_18) ≤ 8 from by omega) (show Pz_ (y32_18) (y33_18) (400 * (n_0 29) + (n_0 37)) (400 * (n_0 29) + (x37_18)) e3_ from z3_) (show Pk_ (y39_c9) (x40_18) (x38_18) gb (e3_ - 1) from p3_) (show ((12 : Int) : Int) = 12 → ¬ K_ jj_ = 305 from fun _ => (rt_nw (k := 305) jr_ wa_ (by decide)))) rfl mt_X10_settles ml_X10_297 hK hw hA ⟨Nat.le_of_ble_eq_true rfl, Nat.le_of_ble_eq_true rfl⟩ (As := [.int (J 12)]) (rest := []) rfl rfl hl.1 (Nat.le_of_ble_eq_true rfl) 184 rfl dX10_readAny_181 (fun n_19 f_19 H locs hq19_ hw => ?_)
            obtain ⟨x40_19, x37_19, x38_19, y32_19, y33_19, en19_, ef19_, hq19_⟩ := hq19_
            rw [en19_, ef19_] at hw; clear en19_ ef19_
            have hw : WM D cy q (upN (upN (upN (upN (upN (upN (upN (upN (upN n_0 24 x24_c9) 25 x25_c9) 26 x26_c9) 27 x27_c9) 37 x37_19) 38 x38_19) 40 x40_19) 41 x41_c9) 42 x42_c9) (upF (upF (upF (upF (upF f_0 30 y30_c9) 31 y31_c9) 32 y32_19) 33 y33_19) 39 y39_c9) A0 H0 H locs := hw
            have rx40_19 : inR x40_19 := mRn_40 hw.1.2.2.1
            have rx37_19 : inR x37_19 := mRn_37 hw.1.2.2.1
            have rx38_19 : inR x38_19 := mRn_38 hw.1.2.2.1
            have hh19_ : Fr_ (y32_18) (y33_18) (y32_19) (y33_19) (400 * (n_0 29) + (x37_18)) ∧ ((x37_19) + (x40_19) = (x37_18) + (x40_18) ∧ 0 ≤ (x40_19) ∧ (x40_19) ≤ (x40_18) ∧ (x38_19) ≤ (x38_18) ∧ (x37_18) ≤ (x37_19)) ∧ ((x40_19) = (x40_18) ∨ (x40_19) = 0 ∨ ((12 : Int) : Int) = 10 ∨ (y39_c9 ((x40_19) - 1)) = 13 ∨ (((12 : Int) : Int) = 11 ∧ (y39_c9 ((x40_19) - 1)) = 12)) ∧ ((x40_19) = 0 ∨ ¬ (y39_c9 ((x40_19) - 1)) = (12 : Int)) ∧ (∃ e_, Pz_ (y32_19) (y33_19) (400 * (n_0 29) + (n_0 37)) (400 * (n_0 29) + (x37_19)) e_ ∧ Pk_ (y39_c9) (x40_19) (x38_19) gb (e_ - 1)) ∧ Mq_ K_ V_ (y39_c9) jj_ (x40_18) (x40_19) (cL_ (y32_18) (y33_18) (400 * (n_0 29) + (n_0 37)) (400 * (n_0 29) + (x37_18))) (cL_ (y32_19) (y33_19) (400 * (n_0 29) + (n_0 37)) (400 * (n_0 29) + (x37_19))) := hq19_
            clear hq19_
            obtain ⟨fr4_, ar4_, tp4_, nt4_, ⟨e4_, z4_, p4_⟩, mq4_⟩ := hh19_
            have mi4_ := Mi_set mi3_ mq4_
            have nn4_ := Pk_nn p4_
            have bb4_ := z4_.2
            have c4_ := st_top2 c3_ tp4_ nt4_
            clear c3_
            clear tp4_ nt4_
            refine j_iload_n E 185 rfl dX10_readAny_184 rfl (lv_at hl 1 rfl) ?_
            refine j_if_ne E 188 190 rfl r_gb dX10_readAny_185 (by decide) (fun cc20_ => ?_) (fun cc20_ => ?_)
            · have p13_ := Pk_pop13 p4_ (by omega) c4_
              refine j_aload_n E 191 rfl dX10_readAny_190 rfl (lv_at hl 0 rfl) ?_
              refine j_bipush E 193 rfl dX10_readAny_191 (by decide) ?_
              refine m_callp (po := fun z_0 => (z_0 = 1 ∧ (x26_c9) = 4 ∧ (x27_c9) = (41 : Int)) ∨ (z_0 = 0 ∧ ¬ ((x26_c9) = 4 ∧ (x27_c9) = (41 : Int)))) E (c_X10_isSign l D cy q (upN (upN (upN (upN (upN (upN (upN (upN (upN n_0 24 x24_c9) 25 x25_c9) 26 x26_c9) 27 x27_c9) 37 x37_19) 38 x38_19) 40 x40_19) 41 x41_c9) 42 x42_c9) (upF (upF (upF (upF (upF f_0 30 y30_c9) 31 y31_c9) 32 y32_19) 33 y33_19) 39 y39_c9) 41  (rr (by decide)) ) rfl mt_X10_isSign ml_X10_276 hK hw hA ⟨Nat.le_of_ble_eq_true rfl, Nat.le_of_ble_eq_true rfl⟩ (As := [.int (J 41)]) (rest := []) rfl rfl hl.1 (Nat.le_of_ble_eq_true rfl) 196 rfl dX10_readAny_193 (fun zz21_ H locs rr21_ hq21_ hw => ?_)
              have hh21_ : (zz21_ = 1 ∧ (x26_c9) = 4 ∧ (x27_c9) = (41 : Int)) ∨ (zz21_ = 0 ∧ ¬ ((x26_c9) = 4 ∧ (x27_c9) = (41 : Int))) := hq21_
              clear hq21_
              rcases hh21_ with ⟨ee21_, hh21_⟩ | ⟨ee21_, hh21_⟩
              · subst ee21_
                have s41_ := hh21_
                clear hh21_
                refine j_if_ne E 199 205 rfl (rr (by decide)) dX10_readAny_196 (by decide) (fun _ => ?_) (fun cc22_ => absurd cc22_ (by decide))
                refine j_aload_n E 206 rfl dX10_readAny_205 rfl (lv_at hl 0 rfl) ?_
                refine j_aload_n E 207 rfl dX10_readAny_206 rfl (lv_at hl 0 rfl) ?_
                refine m_get_40 E hK hw x40_19 rfl 210 rfl dX10_readAny_207 (fun _ => ?_)
                refine j_iconst E 211 rfl dX10_readAny_210 ?_
                refine j_isub E 212 rfl dX10_readAny_211 ?_
                refine m_put_40 E hK hw (rr (by omega)) 215 rfl dX10_readAny_212 (fun H locs hw => ?_)
                have hw : WM D cy q (upN (upN (upN (upN (upN (upN (upN (upN (upN n_0 24 x24_c9) 25 x25_c9) 26 x26_c9) 27 x27_c9) 37 x37_19) 38 x38_19) 40 (x40_19 - 1)) 41 x41_c9) 42 x42_c9) (upF (upF (upF (upF (upF f_0 30 y30_c9) 31 y31_c9) 32 y32_19) 33 y33_19) 39 y39_c9) A0 H0 H locs := hw
                refine j_iload_n E 216 rfl dX10_readAny_215 rfl (lv_at hl 1 rfl) ?_
                refine j_iconst E 217 rfl dX10_readAny_216 ?_
                refine j_isub E 218 rfl dX10_readAny_217 ?_
                refine j_istore_n E 219 rfl [(1, .int (J (gb - 1))), (0, .ref (q 0)), (2, .int (J gd))] dX10_readAny_218 rfl hl (by decide) rfl (fun ls hl => ?_)
                refine j_aload_n E 220 rfl dX10_readAny_219 rfl (lv_at hl 1 rfl) ?_
                refine j_aload_n E 221 rfl dX10_readAny_220 rfl (lv_at hl 1 rfl) ?_
                refine m_get_38 E hK hw x38_19 rfl 224 rfl dX10_readAny_221 (fun _ => ?_)
                refine j_iconst E 225 rfl dX10_readAny_224 ?_
                refine j_isub E 226 rfl dX10_readAny_225 ?_
                refine m_put_38 E hK hw (rr (by omega)) 229 rfl dX10_readAny_226 (fun H locs hw => ?_)
                have hw : WM D cy q (upN (upN (upN (upN (upN (upN (upN (upN (upN n_0 24 x24_c9) 25 x25_c9) 26 x26_c9) 27 x27_c9) 37 x37_19) 38 (x38_19 - 1)) 40 (x40_19 - 1)) 41 x41_c9) 42 x42_c9) (upF (upF (upF (upF (upF f_0 30 y30_c9) 31 y31_c9) 32 y32_19) 33 y33_19) 39 y39_c9) A0 H0 H locs := hw
                refine j_aload_n E 230 rfl dX10_readAny_229 rfl (lv_at hl 1 rfl) ?_
                refine j_bipush E 232 rfl dX10_readAny_230 (by decide) ?_
                refine m_callv E (c_X10_settles l D cy q (upN (upN (upN (upN (upN (upN (upN (upN (upN n_0 24 x24_c9) 25 x25_c9) 26 x26_c9) 27 x27_c9) 37 x37_19) 38 (x38_19 - 1)) 40 (x40_19 - 1)) 41 x41_c9) 42 x42_c9) (upF (upF (upF (upF (upF f_0 30 y30_c9) 31 y31_c9) 32 y32_19) 33 y33_19) 39 y39_c9) 10 (n_0 37) e4_ ((gb - 1)) K_ V_ (jj_ + 1) (rr (by decide)) (show 0 ≤ (n_0 29) ∧ (n_0 29) < 32 from by omega) (show ((10 : Int) : Int) = 10 ∨ ((10 : Int) : Int) = 11 ∨ ((10 : Int) : Int) = 12 from by omega) (show 0 ≤ (n_0 37) ∧ (n_0 37) ≤ (x37_19) ∧ (x37_19) + (x40_19 - 1) ≤ 400 ∧ (x38_19 - 1) ≤ 8 from by omega) (show Pz_ (y32_19) (y33_19) (400 * (n_0 29) + (n_0 37)) (400 * (n_0 29) + (x37_19)) e4_ from z4_) (show Pk_ (y39_c9) (x40_19 - 1) (x38_19 - 1) ((gb - 1)) (e4_ - 1) from p13_.2.2) (show ((10 : Int) : Int) = 12 → ¬ K_ (jj_ + 1) = 305 from fun h9_ => absurd h9_ (by decide))) rfl mt_X10_settles ml_X10_297 hK hw hA ⟨Nat.le_of_ble_eq_true rfl, Nat.le_of_ble_eq_true rfl⟩ (As := [.int (J 10)]) (rest := []) rfl rfl hl.1 (Nat.le_of_ble_eq_true rfl) 235 rfl dX10_readAny_232 (fun n_25 f_25 H locs hq25_ hw => ?_)
                obtain ⟨x40_25, x37_25, x38_25, y32_25, y33_25, en25_, ef25_, hq25_⟩ := hq25_
                rw [en25_, ef25_] at hw; clear en25_ ef25_
                have hw : WM D cy q (upN (upN (upN (upN (upN (upN (upN (upN (upN n_0 24 x24_c9) 25 x25_c9) 26 x26_c9) 27 x27_c9) 37 x37_25) 38 x38_25) 40 x40_25) 41 x41_c9) 42 x42_c9) (upF (upF (upF (upF (upF f_0 30 y30_c9) 31 y31_c9) 32 y32_25) 33 y33_25) 39 y39_c9) A0 H0 H locs := hw
                have rx40_25 : inR x40_25 := mRn_40 hw.1.2.2.1
                have rx37_25 : inR x37_25 := mRn_37 hw.1.2.2.1
                have rx38_25 : inR x38_25 := mRn_38 hw.1.2.2.1
                have hh25_ : Fr_ (y32_19) (y33_19) (y32_25) (y33_25) (400 * (n_0 29) + (x37_19)) ∧ ((x37_25) + (x40_25) = (x37_19) + (x40_19 - 1) ∧ 0 ≤ (x40_25) ∧ (x40_25) ≤ (x40_19 - 1) ∧ (x38_25) ≤ (x38_19 - 1) ∧ (x37_19) ≤ (x37_25)) ∧ ((x40_25) = (x40_19 - 1) ∨ (x40_25) = 0 ∨ ((10 : Int) : Int) = 10 ∨ (y39_c9 ((x40_25) - 1)) = 13 ∨ (((10 : Int) : Int) = 11 ∧ (y39_c9 ((x40_25) - 1)) = 12)) ∧ ((x40_25) = 0 ∨ ¬ (y39_c9 ((x40_25) - 1)) = (10 : Int)) ∧ (∃ e_, Pz_ (y32_25) (y33_25) (400 * (n_0 29) + (n_0 37)) (400 * (n_0 29) + (x37_25)) e_ ∧ Pk_ (y39_c9) (x40_25) (x38_25) ((gb - 1)) (e_ - 1)) ∧ Mq_ K_ V_ (y39_c9) (jj_ + 1) (x40_19 - 1) (x40_25) (cL_ (y32_19) (y33_19) (400 * (n_0 29) + (n_0 37)) (400 * (n_0 29) + (x37_19))) (cL_ (y32_25) (y33_25) (400 * (n_0 29) + (n_0 37)) (400 * (n_0 29) + (x37_25))) := hq25_
                clear hq25_
                obtain ⟨fr5_, ar5_, tp5_, nt5_, ⟨e5_, z5_, p5_⟩, mq5_⟩ := hh25_
                have mi5_ := Mi_set (Mi_cls mi4_ (by omega) p13_.2.1 (rt_s (k := 41) jr_ s41_)) mq5_
                have nn5_ := Pk_nn p5_
                have bb5_ := z5_.2
                clear tp5_
                refine j_aload_n E 236 rfl dX10_readAny_235 rfl (lv_at hl 1 rfl) ?_
                refine m_callv E (c_X10_next l D cy q (upN (upN (upN (upN (upN (upN (upN (upN (upN n_0 24 x24_c9) 25 x25_c9) 26 x26_c9) 27 x27_c9) 37 x37_25) 38 x38_25) 40 x40_25) 41 x41_c9) 42 x42_c9) (upF (upF (upF (upF (upF f_0 30 y30_c9) 31 y31_c9) 32 y32_25) 33 y33_25) 39 y39_c9)    (show 0 ≤ (n_0 29) ∧ (n_0 29) < 32 from by omega) (show 0 ≤ (n_0 23) ∧ (n_0 23) ≤ 400 from by omega) (show Wds_ (f_0 28) from hp2) (show 0 ≤ (x24_c9) ∧ (x24_c9) ≤ (n_0 23) from by omega) (show 0 ≤ (y31_c9 ((n_0 29))) ∧ (y31_c9 ((n_0 29))) ≤ (x24_c9) from by omega) (show Tap_ (f_0 22) from hp7)) rfl mt_X10_next ml_X10_269 hK hw hA ⟨Nat.le_of_ble_eq_true rfl, Nat.le_of_ble_eq_true rfl⟩ (As := []) (rest := []) rfl rfl hl.1 (Nat.le_of_ble_eq_true rfl) 239 rfl dX10_readAny_236 (fun n_26 f_26 H locs hq26_ hw => ?_)
                obtain ⟨x24_26, x25_26, x26_26, x27_26, y30_26, y31_26, en26_, ef26_, hq26_⟩ := hq26_
                rw [en26_, ef26_] at hw; clear en26_ ef26_
                have hw : WM D cy q (upN (upN (upN (upN (upN (upN (upN (upN (upN n_0 24 x24_26) 25 x25_26) 26 x26_26) 27 x27_26) 37 x37_25) 38 x38_25) 40 x40_25) 41 x41_c9) 42 x42_c9) (upF (upF (upF (upF (upF f_0 30 y30_26) 31 y31_26) 32 y32_25) 33 y33_25) 39 y39_c9) A0 H0 H locs := hw
                have rx24_26 : inR x24_26 := mRn_24 hw.1.2.2.1
                have rx25_26 : inR x25_26 := mRn_25 hw.1.2.2.1
                have rx26_26 : inR x26_26 := mRn_26 hw.1.2.2.1
                have rx27_26 : inR x27_26 := mRn_27 hw.1.2.2.1
                have hh26_ : (0 ≤ (x25_26) ∧ (x25_26) ≤ (x24_26) ∧ (x24_26) ≤ (n_0 23)) ∧ (0 ≤ (y31_26 ((n_0 29))) ∧ (y31_26 ((n_0 29))) ≤ (x24_26)) ∧ (0 ≤ (x26_26) ∧ (x26_26) ≤ 4) ∧ (¬ (x26_26) = 0 → (x25_26) < (x24_26)) ∧ ((x26_26) = 3 → 0 ≤ (x27_26) ∧ (x27_26) ≤ 9999) ∧ (x24_c9) ≤ (x25_26) ∧ Kf_ (y31_c9) (y30_c9) (y31_26) (y30_26) (n_0 29) ∧ (((x26_26) ≤ 1 ∧ (y30_26) = (y30_c9) ∧ (y31_26) = (y31_c9)) ∨ (2 ≤ (x26_26) ∧ (y30_26) = upA (y30_c9) (400 * (n_0 29) + (y31_c9 ((n_0 29)))) (te_ (kd_ (x26_26) (x27_26)) (x27_26)) ∧ (y31_26) = upA (y31_c9) (n_0 29) ((y31_c9 ((n_0 29))) + 1))) ∧ Lx_ (f_0 22) (n_0 23) (x24_c9) (kd_ (x26_26) (x27_26)) (x27_26) (x25_26) (x24_26) ∧ Tv_ (x26_26) (x27_26) := hq26_
                clear hq26_
                have hk_ := hh26_.2.2.2.2.2.2.1
                have rn_ := rt_nx hp5 jr_ hh26_.2.2.2.2.2.2.2.2.1 rfl hh26_.2.2.2.2.2.2.2.2.2 hh26_.2.2.2.2.2.2.2.1
                refine j_goto E 9 dX10_readAny_239 (by decide) ?_
                exact ih9 (gb - 1) gd x24_26 x25_26 x26_26 x27_26 x37_25 x38_25 x40_25 x41_c9 x42_c9 y30_26 y31_26 y32_25 y33_25 y39_c9 H locs ls (rr (by omega)) r_gd (⟨by omega, by omega, Fr_tr (Fr_tr (Fr_tr if_ fr3_ (by omega)) fr4_ (by omega)) fr5_ (by omega), tk_tr ik_ hk_, fun _ => nt5_, ⟨e5_, z5_, Pk_eq p5_ (by omega)⟩, jj_ + 1, by omega, rn_, Mj_b (by omega) mi5_⟩) (by omega) hw (lv_sub hl [1, 0, 2] rfl)
              · subst ee21_
                have s41_ := hh21_
                clear hh21_
                refine j_if_ne E 199 205 rfl (rr (by decide)) dX10_readAny_196 (by decide) (fun cc27_ => absurd cc27_ (by decide)) (fun _ => ?_)
                refine j_aload_n E 200 rfl dX10_readAny_199 rfl (lv_at hl 0 rfl) ?_
                refine j_iconst E 201 rfl dX10_readAny_200 ?_
                refine m_calli E (c_X10_fails l D cy q (upN (upN (upN (upN (upN (upN (upN (upN (upN n_0 24 x24_c9) 25 x25_c9) 26 x26_c9) 27 x27_c9) 37 x37_19) 38 x38_19) 40 x40_19) 41 x41_c9) 42 x42_c9) (upF (upF (upF (upF (upF f_0 30 y30_c9) 31 y31_c9) 32 y32_19) 33 y33_19) 39 y39_c9) 1  (rr (by decide)) ) rfl mt_X10_fails ml_X10_262 hK hw hA ⟨Nat.le_of_ble_eq_true rfl, Nat.le_of_ble_eq_true rfl⟩ (As := [.int (J 1)]) (rest := []) rfl rfl hl.1 (Nat.le_of_ble_eq_true rfl) 204 rfl dX10_readAny_201 (fun zz28_ n_28 f_28 H locs rr28_ hq28_ hw => ?_)
                obtain ⟨x41_28, x42_28, en28_, ef28_, hq28_⟩ := hq28_
                rw [en28_, ef28_] at hw; clear en28_ ef28_
                have hw : WM D cy q (upN (upN (upN (upN (upN (upN (upN (upN (upN n_0 24 x24_c9) 25 x25_c9) 26 x26_c9) 27 x27_c9) 37 x37_19) 38 x38_19) 40 x40_19) 41 x41_28) 42 x42_28) (upF (upF (upF (upF (upF f_0 30 y30_c9) 31 y31_c9) 32 y32_19) 33 y33_19) 39 y39_c9) A0 H0 H locs := hw
                have rx41_28 : inR x41_28 := mRn_41 hw.1.2.2.1
                have rx42_28 : inR x42_28 := mRn_42 hw.1.2.2.1
                have hh28_ : zz28_ = -1 ∧ (x41_28) = (1 : Int) ∧ (x42_28) = (x25_c9) := hq28_
                clear hq28_
                have hq_ := hh28_
                clear hh28_
                exact hret 204 zz28_ (upN (upN (upN (upN (upN (upN (upN (upN (upN n_0 24 x24_c9) 25 x25_c9) 26 x26_c9) 27 x27_c9) 37 x37_19) 38 x38_19) 40 x40_19) 41 x41_28) 42 x42_28) (upF (upF (upF (upF (upF f_0 30 y30_c9) 31 y31_c9) 32 y32_19) 33 y33_19) 39 y39_c9) _ _ ls hw rr28_ ⟨x24_c9, x25_c9, x26_c9, x27_c9, x37_19, x38_19, x40_19, x41_28, x42_28, y30_c9, y31_c9, y32_19, y33_19, y39_c9, rfl, rfl, Or.inl ⟨by omega, Fr_tr (Fr_tr if_ fr3_ (by omega)) fr4_ (by omega), ik_, by omega, jj_, by rw [hq_.2.2]; exact jr_.2.2.1, by omega, by rw [hq_.2.1]; exact Mi_clf mi4_ (by omega) p13_.2.1 (rt_ns (k := 41) jr_ s41_ (by decide)) (rt_nw (k := 305) jr_ wa_ (by decide)) (rt_nw (k := 304) jr_ wo_ (by decide))⟩⟩ dX10_readAny_204
            · have g0_ : (x40_19) = 0 := Pk_no13 p4_ (by omega) c4_
              rw [g0_] at p4_
              have zz4_ := Pk_z p4_
              refine j_iconst E 189 rfl dX10_readAny_188 ?_
              exact hret 189 0 (upN (upN (upN (upN (upN (upN (upN (upN (upN n_0 24 x24_c9) 25 x25_c9) 26 x26_c9) 27 x27_c9) 37 x37_19) 38 x38_19) 40 x40_19) 41 x41_c9) 42 x42_c9) (upF (upF (upF (upF (upF f_0 30 y30_c9) 31 y31_c9) 32 y32_19) 33 y33_19) 39 y39_c9) _ _ ls hw (rr (by decide)) ⟨x24_c9, x25_c9, x26_c9, x27_c9, x37_19, x38_19, x40_19, x41_c9, x42_c9, y30_c9, y31_c9, y32_19, y33_19, y39_c9, rfl, rfl, Or.inr ⟨rfl, Fr_tr (Fr_tr if_ fr3_ (by omega)) fr4_ (by omega), ik_, by omega, by omega, by omega, by omega, ⟨e4_, z4_⟩, jj_, jl_, jr_, ⟨(rt_nw (k := 305) jr_ wa_ (by decide)), (rt_nw (k := 304) jr_ wo_ (by decide))⟩, Mi_end mi4_ g0_⟩⟩ dX10_readAny_189
      · refine j_aload_n E 14 rfl dX10_readAny_13 rfl (lv_at hl 0 rfl) ?_
        refine j_iconst E 15 rfl dX10_readAny_14 ?_
        refine m_callp (po := fun z_0 => (z_0 = 1 ∧ (x26_c9) = 2 ∧ (x27_c9) = (5 : Int)) ∨ (z_0 = 0 ∧ ¬ ((x26_c9) = 2 ∧ (x27_c9) = (5 : Int)))) E (c_X10_isWord l D cy q (upN (upN (upN (upN (upN (upN (upN (upN (upN n_0 24 x24_c9) 25 x25_c9) 26 x26_c9) 27 x27_c9) 37 x37_c9) 38 x38_c9) 40 x40_c9) 41 x41_c9) 42 x42_c9) (upF (upF (upF (upF (upF f_0 30 y30_c9) 31 y31_c9) 32 y32_c9) 33 y33_c9) 39 y39_c9) 5  (rr (by decide)) ) rfl mt_X10_isWord ml_X10_259 hK hw hA ⟨Nat.le_of_ble_eq_true rfl, Nat.le_of_ble_eq_true rfl⟩ (As := [.int (J 5)]) (rest := []) rfl rfl hl.1 (Nat.le_of_ble_eq_true rfl) 18 rfl dX10_readAny_15 (fun zz29_ H locs rr29_ hq29_ hw => ?_)
        have hh29_ : (zz29_ = 1 ∧ (x26_c9) = 2 ∧ (x27_c9) = (5 : Int)) ∨ (zz29_ = 0 ∧ ¬ ((x26_c9) = 2 ∧ (x27_c9) = (5 : Int))) := hq29_
        clear hq29_
        rcases hh29_ with ⟨ee29_, hh29_⟩ | ⟨ee29_, hh29_⟩
        · subst ee29_
          have w5_ := hh29_
          clear hh29_
          refine j_istore_n E 19 rfl [(3, .int (J 1)), (0, .ref (q 0)), (1, .int (J gb)), (2, .int (J gd))] dX10_readAny_18 rfl hl (by decide) rfl (fun ls hl => ?_)
          refine j_iload_n E 20 rfl dX10_readAny_19 rfl (lv_at hl 0 rfl) ?_
          refine j_if_ne E 23 32 rfl (rr (by decide)) dX10_readAny_20 (by decide) (fun _ => ?_) (fun cc30_ => absurd cc30_ (by decide))
          refine j_aload_n E 33 rfl dX10_readAny_32 rfl (lv_at hl 1 rfl) ?_
          refine m_get_38 E hK hw x38_c9 rfl 36 rfl dX10_readAny_33 (fun _ => ?_)
          refine j_bipush E 38 rfl dX10_readAny_36 (by decide) ?_
          refine j_icmp_ne E 41 47 rfl rx38_c9 (rr (by decide)) dX10_readAny_38 (by decide) (fun cc31_ => ?_) (fun cc31_ => ?_)
          · refine j_aload_n E 48 rfl dX10_readAny_47 rfl (lv_at hl 1 rfl) ?_
            refine j_aload_n E 49 rfl dX10_readAny_48 rfl (lv_at hl 1 rfl) ?_
            refine m_get_38 E hK hw x38_c9 rfl 52 rfl dX10_readAny_49 (fun _ => ?_)
            refine j_iconst E 53 rfl dX10_readAny_52 ?_
            refine j_iadd E 54 rfl dX10_readAny_53 ?_
            refine m_put_38 E hK hw (rr (by omega)) 57 rfl dX10_readAny_54 (fun H locs hw => ?_)
            have hw : WM D cy q (upN (upN (upN (upN (upN (upN (upN (upN (upN n_0 24 x24_c9) 25 x25_c9) 26 x26_c9) 27 x27_c9) 37 x37_c9) 38 (x38_c9 + 1)) 40 x40_c9) 41 x41_c9) 42 x42_c9) (upF (upF (upF (upF (upF f_0 30 y30_c9) 31 y31_c9) 32 y32_c9) 33 y33_c9) 39 y39_c9) A0 H0 H locs := hw
            refine j_iload_n E 58 rfl dX10_readAny_57 rfl (lv_at hl 0 rfl) ?_
            refine j_if_ne E 61 65 rfl (rr (by decide)) dX10_readAny_58 (by decide) (fun _ => ?_) (fun cc33_ => absurd cc33_ (by decide))
            refine j_aload_n E 66 rfl dX10_readAny_65 rfl (lv_at hl 1 rfl) ?_
            refine j_iload_n E 67 rfl dX10_readAny_66 rfl (lv_at hl 0 rfl) ?_
            refine j_if_eq E 70 75 rfl (rr (by decide)) dX10_readAny_67 (by decide) (fun cc34_ => absurd cc34_ (by decide)) (fun _ => ?_)
            refine j_bipush E 72 rfl dX10_readAny_70 (by decide) ?_
            refine j_goto E 77 dX10_readAny_72 (by decide) ?_
            refine m_callv E (c_X10_waits l D cy q (upN (upN (upN (upN (upN (upN (upN (upN (upN n_0 24 x24_c9) 25 x25_c9) 26 x26_c9) 27 x27_c9) 37 x37_c9) 38 (x38_c9 + 1)) 40 x40_c9) 41 x41_c9) 42 x42_c9) (upF (upF (upF (upF (upF f_0 30 y30_c9) 31 y31_c9) 32 y32_c9) 33 y33_c9) 39 y39_c9) 10  (rr (by decide)) (show 0 ≤ (x40_c9) ∧ (x40_c9) < 40 from by omega)) rfl mt_X10_waits ml_X10_291 hK hw hA ⟨Nat.le_of_ble_eq_true rfl, Nat.le_of_ble_eq_true rfl⟩ (As := [.int (J 10)]) (rest := []) rfl rfl hl.1 (Nat.le_of_ble_eq_true rfl) 80 rfl dX10_readAny_77 (fun n_35 f_35 H locs hq35_ hw => ?_)
            obtain ⟨x40_35, y39_35, en35_, ef35_, hq35_⟩ := hq35_
            rw [en35_, ef35_] at hw; clear en35_ ef35_
            have hw : WM D cy q (upN (upN (upN (upN (upN (upN (upN (upN (upN n_0 24 x24_c9) 25 x25_c9) 26 x26_c9) 27 x27_c9) 37 x37_c9) 38 (x38_c9 + 1)) 40 x40_35) 41 x41_c9) 42 x42_c9) (upF (upF (upF (upF (upF f_0 30 y30_c9) 31 y31_c9) 32 y32_c9) 33 y33_c9) 39 y39_35) A0 H0 H locs := hw
            have rx40_35 : inR x40_35 := mRn_40 hw.1.2.2.1
            have hh35_ : (y39_35) = upA (y39_c9) (x40_c9) (10 : Int) ∧ (x40_35) = (x40_c9) + 1 := hq35_
            clear hq35_
            have hw_ := hh35_
            clear hh35_
            refine j_aload_n E 81 rfl dX10_readAny_80 rfl (lv_at hl 1 rfl) ?_
            refine m_callv E (c_X10_next l D cy q (upN (upN (upN (upN (upN (upN (upN (upN (upN n_0 24 x24_c9) 25 x25_c9) 26 x26_c9) 27 x27_c9) 37 x37_c9) 38 (x38_c9 + 1)) 40 x40_35) 41 x41_c9) 42 x42_c9) (upF (upF (upF (upF (upF f_0 30 y30_c9) 31 y31_c9) 32 y32_c9) 33 y33_c9) 39 y39_35)    (show 0 ≤ (n_0 29) ∧ (n_0 29) < 32 from by omega) (show 0 ≤ (n_0 23) ∧ (n_0 23) ≤ 400 from by omega) (show Wds_ (f_0 28) from hp2) (show 0 ≤ (x24_c9) ∧ (x24_c9) ≤ (n_0 23) from by omega) (show 0 ≤ (y31_c9 ((n_0 29))) ∧ (y31_c9 ((n_0 29))) ≤ (x24_c9) from by omega) (show Tap_ (f_0 22) from hp7)) rfl mt_X10_next ml_X10_269 hK hw hA ⟨Nat.le_of_ble_eq_true rfl, Nat.le_of_ble_eq_true rfl⟩ (As := []) (rest := []) rfl rfl hl.1 (Nat.le_of_ble_eq_true rfl) 84 rfl dX10_readAny_81 (fun n_36 f_36 H locs hq36_ hw => ?_)
            obtain ⟨x24_36, x25_36, x26_36, x27_36, y30_36, y31_36, en36_, ef36_, hq36_⟩ := hq36_
            rw [en36_, ef36_] at hw; clear en36_ ef36_
            have hw : WM D cy q (upN (upN (upN (upN (upN (upN (upN (upN (upN n_0 24 x24_36) 25 x25_36) 26 x26_36) 27 x27_36) 37 x37_c9) 38 (x38_c9 + 1)) 40 x40_35) 41 x41_c9) 42 x42_c9) (upF (upF (upF (upF (upF f_0 30 y30_36) 31 y31_36) 32 y32_c9) 33 y33_c9) 39 y39_35) A0 H0 H locs := hw
            have rx24_36 : inR x24_36 := mRn_24 hw.1.2.2.1
            have rx25_36 : inR x25_36 := mRn_25 hw.1.2.2.1
            have rx26_36 : inR x26_36 := mRn_26 hw.1.2.2.1
            have rx27_36 : inR x27_36 := mRn_27 hw.1.2.2.1
            have hh36_ : (0 ≤ (x25_36) ∧ (x25_36) ≤ (x24_36) ∧ (x24_36) ≤ (n_0 23)) ∧ (0 ≤ (y31_36 ((n_0 29))) ∧ (y31_36 ((n_0 29))) ≤ (x24_36)) ∧ (0 ≤ (x26_36) ∧ (x26_36) ≤ 4) ∧ (¬ (x26_36) = 0 → (x25_36) < (x24_36)) ∧ ((x26_36) = 3 → 0 ≤ (x27_36) ∧ (x27_36) ≤ 9999) ∧ (x24_c9) ≤ (x25_36) ∧ Kf_ (y31_c9) (y30_c9) (y31_36) (y30_36) (n_0 29) ∧ (((x26_36) ≤ 1 ∧ (y30_36) = (y30_c9) ∧ (y31_36) = (y31_c9)) ∨ (2 ≤ (x26_36) ∧ (y30_36) = upA (y30_c9) (400 * (n_0 29) + (y31_c9 ((n_0 29)))) (te_ (kd_ (x26_36) (x27_36)) (x27_36)) ∧ (y31_36) = upA (y31_c9) (n_0 29) ((y31_c9 ((n_0 29))) + 1))) ∧ Lx_ (f_0 22) (n_0 23) (x24_c9) (kd_ (x26_36) (x27_36)) (x27_36) (x25_36) (x24_36) ∧ Tv_ (x26_36) (x27_36) := hq36_
            clear hq36_
            have hk_ := hh36_.2.2.2.2.2.2.1
            have rn_ := rt_nx hp5 jr_ hh36_.2.2.2.2.2.2.2.2.1 rfl hh36_.2.2.2.2.2.2.2.2.2 hh36_.2.2.2.2.2.2.2.1
            refine j_goto E 9 dX10_readAny_84 (by decide) ?_
            exact ih9 gb gd x24_36 x25_36 x26_36 x27_36 x37_c9 (x38_c9 + 1) x40_35 x41_c9 x42_c9 y30_36 y31_36 y32_c9 y33_c9 y39_35 H locs ls r_gb r_gd (⟨by omega, by omega, if_, tk_tr ik_ hk_, fun h_ => absurd h_ (by omega), ⟨ez_, iz_, by rw [hw_.1, hw_.2]; exact Pk_push ip_ (by omega)⟩, jj_ + 1, by omega, rn_, Mj_a (by omega) (by rw [hw_.1, hw_.2]; exact Mi_push (Mj_1 im_ (by omega)) (by omega) ip_ (by omega) (by first | exact Or.inl ⟨(rt_w (k := 306) jr_ w5_ (by decide)), rfl⟩ | exact Or.inr ⟨(rt_s (k := 40) jr_ s40_), rfl⟩))⟩) (by omega) hw (lv_sub hl [1, 2, 3] rfl)
          · refine j_aload_n E 42 rfl dX10_readAny_41 rfl (lv_at hl 1 rfl) ?_
            refine j_iconst E 43 rfl dX10_readAny_42 ?_
            refine m_calli E (c_X10_fails l D cy q (upN (upN (upN (upN (upN (upN (upN (upN (upN n_0 24 x24_c9) 25 x25_c9) 26 x26_c9) 27 x27_c9) 37 x37_c9) 38 x38_c9) 40 x40_c9) 41 x41_c9) 42 x42_c9) (upF (upF (upF (upF (upF f_0 30 y30_c9) 31 y31_c9) 32 y32_c9) 33 y33_c9) 39 y39_c9) 3  (rr (by decide)) ) rfl mt_X10_fails ml_X10_262 hK hw hA ⟨Nat.le_of_ble_eq_true rfl, Nat.le_of_ble_eq_true rfl⟩ (As := [.int (J 3)]) (rest := []) rfl rfl hl.1 (Nat.le_of_ble_eq_true rfl) 46 rfl dX10_readAny_43 (fun zz37_ n_37 f_37 H locs rr37_ hq37_ hw => ?_)
            obtain ⟨x41_37, x42_37, en37_, ef37_, hq37_⟩ := hq37_
            rw [en37_, ef37_] at hw; clear en37_ ef37_
            have hw : WM D cy q (upN (upN (upN (upN (upN (upN (upN (upN (upN n_0 24 x24_c9) 25 x25_c9) 26 x26_c9) 27 x27_c9) 37 x37_c9) 38 x38_c9) 40 x40_c9) 41 x41_37) 42 x42_37) (upF (upF (upF (upF (upF f_0 30 y30_c9) 31 y31_c9) 32 y32_c9) 33 y33_c9) 39 y39_c9) A0 H0 H locs := hw
            have rx41_37 : inR x41_37 := mRn_41 hw.1.2.2.1
            have rx42_37 : inR x42_37 := mRn_42 hw.1.2.2.1
            have hh37_ : zz37_ = -1 ∧ (x41_37) = (3 : Int) ∧ (x42_37) = (x25_c9) := hq37_
            clear hq37_
            have hq_ := hh37_
            clear hh37_
            exact hret 46 zz37_ (upN (upN (upN (upN (upN (upN (upN (upN (upN n_0 24 x24_c9) 25 x25_c9) 26 x26_c9) 27 x27_c9) 37 x37_c9) 38 x38_c9) 40 x40_c9) 41 x41_37) 42 x42_37) (upF (upF (upF (upF (upF f_0 30 y30_c9) 31 y31_c9) 32 y32_c9) 33 y33_c9) 39 y39_c9) _ _ ls hw rr37_ ⟨x24_c9, x25_c9, x26_c9, x27_c9, x37_c9, x38_c9, x40_c9, x41_37, x42_37, y30_c9, y31_c9, y32_c9, y33_c9, y39_c9, rfl, rfl, Or.inl ⟨by omega, if_, ik_, by omega, jj_, by rw [hq_.2.2]; exact jr_.2.2.1, by omega, by rw [hq_.2.1]; exact Mi_deep (Mj_1 im_ (by omega)) ip_ (by omega) (by first | exact Or.inl (rt_w (k := 306) jr_ w5_ (by decide)) | exact Or.inr (rt_s (k := 40) jr_ s40_))⟩⟩ dX10_readAny_46
        · subst ee29_
          have w5_ := hh29_
          clear hh29_
          refine j_istore_n E 19 rfl [(3, .int (J 0)), (0, .ref (q 0)), (1, .int (J gb)), (2, .int (J gd))] dX10_readAny_18 rfl hl (by decide) rfl (fun ls hl => ?_)
          refine j_iload_n E 20 rfl dX10_readAny_19 rfl (lv_at hl 0 rfl) ?_
          refine j_if_ne E 23 32 rfl (rr (by decide)) dX10_readAny_20 (by decide) (fun cc38_ => absurd cc38_ (by decide)) (fun _ => ?_)
          refine j_aload_n E 24 rfl dX10_readAny_23 rfl (lv_at hl 1 rfl) ?_
          refine j_bipush E 26 rfl dX10_readAny_24 (by decide) ?_
          refine m_callp (po := fun z_0 => (z_0 = 1 ∧ (x26_c9) = 4 ∧ (x27_c9) = (40 : Int)) ∨ (z_0 = 0 ∧ ¬ ((x26_c9) = 4 ∧ (x27_c9) = (40 : Int)))) E (c_X10_isSign l D cy q (upN (upN (upN (upN (upN (upN (upN (upN (upN n_0 24 x24_c9) 25 x25_c9) 26 x26_c9) 27 x27_c9) 37 x37_c9) 38 x38_c9) 40 x40_c9) 41 x41_c9) 42 x42_c9) (upF (upF (upF (upF (upF f_0 30 y30_c9) 31 y31_c9) 32 y32_c9) 33 y33_c9) 39 y39_c9) 40  (rr (by decide)) ) rfl mt_X10_isSign ml_X10_276 hK hw hA ⟨Nat.le_of_ble_eq_true rfl, Nat.le_of_ble_eq_true rfl⟩ (As := [.int (J 40)]) (rest := []) rfl rfl hl.1 (Nat.le_of_ble_eq_true rfl) 29 rfl dX10_readAny_26 (fun zz39_ H locs rr39_ hq39_ hw => ?_)
          have hh39_ : (zz39_ = 1 ∧ (x26_c9) = 4 ∧ (x27_c9) = (40 : Int)) ∨ (zz39_ = 0 ∧ ¬ ((x26_c9) = 4 ∧ (x27_c9) = (40 : Int))) := hq39_
          clear hq39_
          rcases hh39_ with ⟨ee39_, hh39_⟩ | ⟨ee39_, hh39_⟩
          · subst ee39_
            have s40_ := hh39_
            clear hh39_
            refine j_if_eq E 32 87 rfl (rr (by decide)) dX10_readAny_29 (by decide) (fun cc40_ => absurd cc40_ (by decide)) (fun _ => ?_)
            refine j_aload_n E 33 rfl dX10_readAny_32 rfl (lv_at hl 1 rfl) ?_
            refine m_get_38 E hK hw x38_c9 rfl 36 rfl dX10_readAny_33 (fun _ => ?_)
            refine j_bipush E 38 rfl dX10_readAny_36 (by decide) ?_
            refine j_icmp_ne E 41 47 rfl rx38_c9 (rr (by decide)) dX10_readAny_38 (by decide) (fun cc41_ => ?_) (fun cc41_ => ?_)
            · refine j_aload_n E 48 rfl dX10_readAny_47 rfl (lv_at hl 1 rfl) ?_
              refine j_aload_n E 49 rfl dX10_readAny_48 rfl (lv_at hl 1 rfl) ?_
              refine m_get_38 E hK hw x38_c9 rfl 52 rfl dX10_readAny_49 (fun _ => ?_)
              refine j_iconst E 53 rfl dX10_readAny_52 ?_
              refine j_iadd E 54 rfl dX10_readAny_53 ?_
              refine m_put_38 E hK hw (rr (by omega)) 57 rfl dX10_readAny_54 (fun H locs hw => ?_)
              have hw : WM D cy q (upN (upN (upN (upN (upN (upN (upN (upN (upN n_0 24 x24_c9) 25 x25_c9) 26 x26_c9) 27 x27_c9) 37 x37_c9) 38 (x38_c9 + 1)) 40 x40_c9) 41 x41_c9) 42 x42_c9) (upF (upF (upF (upF (upF f_0 30 y30_c9) 31 y31_c9) 32 y32_c9) 33 y33_c9) 39 y39_c9) A0 H0 H locs := hw
              refine j_iload_n E 58 rfl dX10_readAny_57 rfl (lv_at hl 0 rfl) ?_
              refine j_if_ne E 61 65 rfl (rr (by decide)) dX10_readAny_58 (by decide) (fun cc43_ => absurd cc43_ (by decide)) (fun _ => ?_)
              refine j_iload_n E 62 rfl dX10_readAny_61 rfl (lv_at hl 2 rfl) ?_
              refine j_iconst E 63 rfl dX10_readAny_62 ?_
              refine j_iadd E 64 rfl dX10_readAny_63 ?_
              refine j_istore_n E 65 rfl [(1, .int (J (gb + 1))), (3, .int (J 0)), (0, .ref (q 0)), (2, .int (J gd))] dX10_readAny_64 rfl hl (by decide) rfl (fun ls hl => ?_)
              refine j_aload_n E 66 rfl dX10_readAny_65 rfl (lv_at hl 2 rfl) ?_
              refine j_iload_n E 67 rfl dX10_readAny_66 rfl (lv_at hl 1 rfl) ?_
              refine j_if_eq E 70 75 rfl (rr (by decide)) dX10_readAny_67 (by decide) (fun _ => ?_) (fun cc44_ => absurd cc44_ (by decide))
              refine j_bipush E 77 rfl dX10_readAny_75 (by decide) ?_
              refine m_callv E (c_X10_waits l D cy q (upN (upN (upN (upN (upN (upN (upN (upN (upN n_0 24 x24_c9) 25 x25_c9) 26 x26_c9) 27 x27_c9) 37 x37_c9) 38 (x38_c9 + 1)) 40 x40_c9) 41 x41_c9) 42 x42_c9) (upF (upF (upF (upF (upF f_0 30 y30_c9) 31 y31_c9) 32 y32_c9) 33 y33_c9) 39 y39_c9) 13  (rr (by decide)) (show 0 ≤ (x40_c9) ∧ (x40_c9) < 40 from by omega)) rfl mt_X10_waits ml_X10_291 hK hw hA ⟨Nat.le_of_ble_eq_true rfl, Nat.le_of_ble_eq_true rfl⟩ (As := [.int (J 13)]) (rest := []) rfl rfl hl.1 (Nat.le_of_ble_eq_true rfl) 80 rfl dX10_readAny_77 (fun n_45 f_45 H locs hq45_ hw => ?_)
              obtain ⟨x40_45, y39_45, en45_, ef45_, hq45_⟩ := hq45_
              rw [en45_, ef45_] at hw; clear en45_ ef45_
              have hw : WM D cy q (upN (upN (upN (upN (upN (upN (upN (upN (upN n_0 24 x24_c9) 25 x25_c9) 26 x26_c9) 27 x27_c9) 37 x37_c9) 38 (x38_c9 + 1)) 40 x40_45) 41 x41_c9) 42 x42_c9) (upF (upF (upF (upF (upF f_0 30 y30_c9) 31 y31_c9) 32 y32_c9) 33 y33_c9) 39 y39_45) A0 H0 H locs := hw
              have rx40_45 : inR x40_45 := mRn_40 hw.1.2.2.1
              have hh45_ : (y39_45) = upA (y39_c9) (x40_c9) (13 : Int) ∧ (x40_45) = (x40_c9) + 1 := hq45_
              clear hq45_
              have hw_ := hh45_
              clear hh45_
              refine j_aload_n E 81 rfl dX10_readAny_80 rfl (lv_at hl 2 rfl) ?_
              refine m_callv E (c_X10_next l D cy q (upN (upN (upN (upN (upN (upN (upN (upN (upN n_0 24 x24_c9) 25 x25_c9) 26 x26_c9) 27 x27_c9) 37 x37_c9) 38 (x38_c9 + 1)) 40 x40_45) 41 x41_c9) 42 x42_c9) (upF (upF (upF (upF (upF f_0 30 y30_c9) 31 y31_c9) 32 y32_c9) 33 y33_c9) 39 y39_45)    (show 0 ≤ (n_0 29) ∧ (n_0 29) < 32 from by omega) (show 0 ≤ (n_0 23) ∧ (n_0 23) ≤ 400 from by omega) (show Wds_ (f_0 28) from hp2) (show 0 ≤ (x24_c9) ∧ (x24_c9) ≤ (n_0 23) from by omega) (show 0 ≤ (y31_c9 ((n_0 29))) ∧ (y31_c9 ((n_0 29))) ≤ (x24_c9) from by omega) (show Tap_ (f_0 22) from hp7)) rfl mt_X10_next ml_X10_269 hK hw hA ⟨Nat.le_of_ble_eq_true rfl, Nat.le_of_ble_eq_true rfl⟩ (As := []) (rest := []) rfl rfl hl.1 (Nat.le_of_ble_eq_true rfl) 84 rfl dX10_readAny_81 (fun n_46 f_46 H locs hq46_ hw => ?_)
              obtain ⟨x24_46, x25_46, x26_46, x27_46, y30_46, y31_46, en46_, ef46_, hq46_⟩ := hq46_
              rw [en46_, ef46_] at hw; clear en46_ ef46_
              have hw : WM D cy q (upN (upN (upN (upN (upN (upN (upN (upN (upN n_0 24 x24_46) 25 x25_46) 26 x26_46) 27 x27_46) 37 x37_c9) 38 (x38_c9 + 1)) 40 x40_45) 41 x41_c9) 42 x42_c9) (upF (upF (upF (upF (upF f_0 30 y30_46) 31 y31_46) 32 y32_c9) 33 y33_c9) 39 y39_45) A0 H0 H locs := hw
              have rx24_46 : inR x24_46 := mRn_24 hw.1.2.2.1
              have rx25_46 : inR x25_46 := mRn_25 hw.1.2.2.1
              have rx26_46 : inR x26_46 := mRn_26 hw.1.2.2.1
              have rx27_46 : inR x27_46 := mRn_27 hw.1.2.2.1
              have hh46_ : (0 ≤ (x25_46) ∧ (x25_46) ≤ (x24_46) ∧ (x24_46) ≤ (n_0 23)) ∧ (0 ≤ (y31_46 ((n_0 29))) ∧ (y31_46 ((n_0 29))) ≤ (x24_46)) ∧ (0 ≤ (x26_46) ∧ (x26_46) ≤ 4) ∧ (¬ (x26_46) = 0 → (x25_46) < (x24_46)) ∧ ((x26_46) = 3 → 0 ≤ (x27_46) ∧ (x27_46) ≤ 9999) ∧ (x24_c9) ≤ (x25_46) ∧ Kf_ (y31_c9) (y30_c9) (y31_46) (y30_46) (n_0 29) ∧ (((x26_46) ≤ 1 ∧ (y30_46) = (y30_c9) ∧ (y31_46) = (y31_c9)) ∨ (2 ≤ (x26_46) ∧ (y30_46) = upA (y30_c9) (400 * (n_0 29) + (y31_c9 ((n_0 29)))) (te_ (kd_ (x26_46) (x27_46)) (x27_46)) ∧ (y31_46) = upA (y31_c9) (n_0 29) ((y31_c9 ((n_0 29))) + 1))) ∧ Lx_ (f_0 22) (n_0 23) (x24_c9) (kd_ (x26_46) (x27_46)) (x27_46) (x25_46) (x24_46) ∧ Tv_ (x26_46) (x27_46) := hq46_
              clear hq46_
              have hk_ := hh46_.2.2.2.2.2.2.1
              have rn_ := rt_nx hp5 jr_ hh46_.2.2.2.2.2.2.2.2.1 rfl hh46_.2.2.2.2.2.2.2.2.2 hh46_.2.2.2.2.2.2.2.1
              refine j_goto E 9 dX10_readAny_84 (by decide) ?_
              exact ih9 (gb + 1) gd x24_46 x25_46 x26_46 x27_46 x37_c9 (x38_c9 + 1) x40_45 x41_c9 x42_c9 y30_46 y31_46 y32_c9 y33_c9 y39_45 H locs ls (rr (by omega)) r_gd (⟨by omega, by omega, if_, tk_tr ik_ hk_, fun h_ => absurd h_ (by omega), ⟨ez_, iz_, by rw [hw_.1, hw_.2]; exact Pk_push ip_ (by omega)⟩, jj_ + 1, by omega, rn_, Mj_a (by omega) (by rw [hw_.1, hw_.2]; exact Mi_push (Mj_1 im_ (by omega)) (by omega) ip_ (by omega) (by first | exact Or.inl ⟨(rt_w (k := 306) jr_ w5_ (by decide)), rfl⟩ | exact Or.inr ⟨(rt_s (k := 40) jr_ s40_), rfl⟩))⟩) (by omega) hw (lv_sub hl [2, 0, 3] rfl)
            · refine j_aload_n E 42 rfl dX10_readAny_41 rfl (lv_at hl 1 rfl) ?_
              refine j_iconst E 43 rfl dX10_readAny_42 ?_
              refine m_calli E (c_X10_fails l D cy q (upN (upN (upN (upN (upN (upN (upN (upN (upN n_0 24 x24_c9) 25 x25_c9) 26 x26_c9) 27 x27_c9) 37 x37_c9) 38 x38_c9) 40 x40_c9) 41 x41_c9) 42 x42_c9) (upF (upF (upF (upF (upF f_0 30 y30_c9) 31 y31_c9) 32 y32_c9) 33 y33_c9) 39 y39_c9) 3  (rr (by decide)) ) rfl mt_X10_fails ml_X10_262 hK hw hA ⟨Nat.le_of_ble_eq_true rfl, Nat.le_of_ble_eq_true rfl⟩ (As := [.int (J 3)]) (rest := []) rfl rfl hl.1 (Nat.le_of_ble_eq_true rfl) 46 rfl dX10_readAny_43 (fun zz47_ n_47 f_47 H locs rr47_ hq47_ hw => ?_)
              obtain ⟨x41_47, x42_47, en47_, ef47_, hq47_⟩ := hq47_
              rw [en47_, ef47_] at hw; clear en47_ ef47_
              have hw : WM D cy q (upN (upN (upN (upN (upN (upN (upN (upN (upN n_0 24 x24_c9) 25 x25_c9) 26 x26_c9) 27 x27_c9) 37 x37_c9) 38 x38_c9) 40 x40_c9) 41 x41_47) 42 x42_47) (upF (upF (upF (upF (upF f_0 30 y30_c9) 31 y31_c9) 32 y32_c9) 33 y33_c9) 39 y39_c9) A0 H0 H locs := hw
              have rx41_47 : inR x41_47 := mRn_41 hw.1.2.2.1
              have rx42_47 : inR x42_47 := mRn_42 hw.1.2.2.1
              have hh47_ : zz47_ = -1 ∧ (x41_47) = (3 : Int) ∧ (x42_47) = (x25_c9) := hq47_
              clear hq47_
              have hq_ := hh47_
              clear hh47_
              exact hret 46 zz47_ (upN (upN (upN (upN (upN (upN (upN (upN (upN n_0 24 x24_c9) 25 x25_c9) 26 x26_c9) 27 x27_c9) 37 x37_c9) 38 x38_c9) 40 x40_c9) 41 x41_47) 42 x42_47) (upF (upF (upF (upF (upF f_0 30 y30_c9) 31 y31_c9) 32 y32_c9) 33 y33_c9) 39 y39_c9) _ _ ls hw rr47_ ⟨x24_c9, x25_c9, x26_c9, x27_c9, x37_c9, x38_c9, x40_c9, x41_47, x42_47, y30_c9, y31_c9, y32_c9, y33_c9, y39_c9, rfl, rfl, Or.inl ⟨by omega, if_, ik_, by omega, jj_, by rw [hq_.2.2]; exact jr_.2.2.1, by omega, by rw [hq_.2.1]; exact Mi_deep (Mj_1 im_ (by omega)) ip_ (by omega) (by first | exact Or.inl (rt_w (k := 306) jr_ w5_ (by decide)) | exact Or.inr (rt_s (k := 40) jr_ s40_))⟩⟩ dX10_readAny_46
          · subst ee39_
            have s40_ := hh39_
            clear hh39_
            refine j_if_eq E 32 87 rfl (rr (by decide)) dX10_readAny_29 (by decide) (fun _ => ?_) (fun cc48_ => absurd cc48_ (by decide))
            refine j_aload_n E 88 rfl dX10_readAny_87 rfl (lv_at hl 1 rfl) ?_
            refine m_calli E (c_X10_readCompared l D cy q (upN (upN (upN (upN (upN (upN (upN (upN (upN n_0 24 x24_c9) 25 x25_c9) 26 x26_c9) 27 x27_c9) 37 x37_c9) 38 x38_c9) 40 x40_c9) 41 x41_c9) 42 x42_c9) (upF (upF (upF (upF (upF f_0 30 y30_c9) 31 y31_c9) 32 y32_c9) 33 y33_c9) 39 y39_c9)  ((x40_c9)) (n_0 37) ez_ K_ V_ P_ Q_ jj_  (show 0 ≤ (n_0 29) ∧ (n_0 29) < 32 from by omega) (show 0 ≤ (n_0 23) ∧ (n_0 23) ≤ 400 from by omega) (show Wds_ (f_0 28) from hp2) (show 0 ≤ ((x40_c9)) ∧ (0 ≤ (x25_c9) ∧ (x25_c9) ≤ (x24_c9) ∧ (x24_c9) ≤ (n_0 23)) ∧ (0 ≤ (y31_c9 ((n_0 29))) ∧ (y31_c9 ((n_0 29))) ≤ (x24_c9)) ∧ (0 ≤ (x26_c9) ∧ (x26_c9) ≤ 4) ∧ (¬ (x26_c9) = 0 → (x25_c9) < (x24_c9)) ∧ ((x26_c9) = 3 → 0 ≤ (x27_c9) ∧ (x27_c9) ≤ 9999) ∧ (0 ≤ (n_0 37) ∧ (n_0 37) ≤ (x37_c9)) ∧ (x37_c9) + ((x40_c9)) ≤ (x25_c9) from by omega) (show Pz_ (y32_c9) (y33_c9) (400 * (n_0 29) + (n_0 37)) (400 * (n_0 29) + (x37_c9)) ez_ from iz_) (show Strm_ (f_0 22) (n_0 23) K_ V_ P_ Q_ from hp5) (show Rt_ K_ V_ P_ Q_ (x24_c9) (x25_c9) (x26_c9) (x27_c9) (tkw_ (y30_c9) (y31_c9) (n_0 29)) jj_ from jr_) (show Tap_ (f_0 22) from hp7)) rfl mt_X10_readCompared ml_X10_294 hK hw hA ⟨Nat.le_of_ble_eq_true rfl, Nat.le_of_ble_eq_true rfl⟩ (As := []) (rest := []) rfl rfl hl.1 (Nat.le_of_ble_eq_true rfl) 91 rfl dX10_readAny_88 (fun zz49_ n_49 f_49 H locs rr49_ hq49_ hw => ?_)
            obtain ⟨x24_49, x25_49, x26_49, x27_49, x37_49, x41_49, x42_49, y30_49, y31_49, y32_49, y33_49, en49_, ef49_, hq49_⟩ := hq49_
            rw [en49_, ef49_] at hw; clear en49_ ef49_
            have hw : WM D cy q (upN (upN (upN (upN (upN (upN (upN (upN (upN n_0 24 x24_49) 25 x25_49) 26 x26_49) 27 x27_49) 37 x37_49) 38 x38_c9) 40 x40_c9) 41 x41_49) 42 x42_49) (upF (upF (upF (upF (upF f_0 30 y30_49) 31 y31_49) 32 y32_49) 33 y33_49) 39 y39_c9) A0 H0 H locs := hw
            have rx24_49 : inR x24_49 := mRn_24 hw.1.2.2.1
            have rx25_49 : inR x25_49 := mRn_25 hw.1.2.2.1
            have rx26_49 : inR x26_49 := mRn_26 hw.1.2.2.1
            have rx27_49 : inR x27_49 := mRn_27 hw.1.2.2.1
            have rx37_49 : inR x37_49 := mRn_37 hw.1.2.2.1
            have rx41_49 : inR x41_49 := mRn_41 hw.1.2.2.1
            have rx42_49 : inR x42_49 := mRn_42 hw.1.2.2.1
            have hh49_ : (zz49_ = -1 ∧ Fr_ (y32_c9) (y33_c9) (y32_49) (y33_49) (400 * (n_0 29) + (x37_c9)) ∧ Kf_ (y31_c9) (y30_c9) (y31_49) (y30_49) (n_0 29) ∧ (0 ≤ (y31_49 ((n_0 29))) ∧ (y31_49 ((n_0 29))) ≤ 400) ∧ (∃ jn_ : Int, (x42_49) = P_ jn_ ∧ (1 ≤ (x41_49) ∧ (x41_49) ≤ 3) ∧ Mh5_ K_ V_ jj_ (x41_49) jn_ (cL_ (y32_c9) (y33_c9) (400 * (n_0 29) + (n_0 37)) (400 * (n_0 29) + (x37_c9))))) ∨ (zz49_ = 0 ∧ Fr_ (y32_c9) (y33_c9) (y32_49) (y33_49) (400 * (n_0 29) + (x37_c9)) ∧ Kf_ (y31_c9) (y30_c9) (y31_49) (y30_49) (n_0 29) ∧ (0 ≤ (y31_49 ((n_0 29))) ∧ (y31_49 ((n_0 29))) ≤ 400) ∧ ((0 ≤ (x25_49) ∧ (x25_49) ≤ (x24_49) ∧ (x24_49) ≤ (n_0 23)) ∧ (0 ≤ (y31_49 ((n_0 29))) ∧ (y31_49 ((n_0 29))) ≤ (x24_49)) ∧ (0 ≤ (x26_49) ∧ (x26_49) ≤ 4) ∧ (¬ (x26_49) = 0 → (x25_49) < (x24_49)) ∧ ((x26_49) = 3 → 0 ≤ (x27_49) ∧ (x27_49) ≤ 9999) ∧ (0 ≤ (n_0 37) ∧ (n_0 37) ≤ (x37_49)) ∧ (x37_49) + ((x40_c9)) ≤ (x25_49)) ∧ (x25_c9) < (x25_49) ∧ (x37_c9) ≤ (x37_49) ∧ Pz_ (y32_49) (y33_49) (400 * (n_0 29) + (n_0 37)) (400 * (n_0 29) + (x37_49)) (ez_ + 1) ∧ (∃ jn_ : Int, jj_ < jn_ ∧ Rt_ K_ V_ P_ Q_ (x24_49) (x25_49) (x26_49) (x27_49) (tkw_ (y30_49) (y31_49) (n_0 29)) jn_ ∧ M5_ K_ V_ jj_ jn_ (cL_ (y32_c9) (y33_c9) (400 * (n_0 29) + (n_0 37)) (400 * (n_0 29) + (x37_c9))) (cL_ (y32_49) (y33_49) (400 * (n_0 29) + (n_0 37)) (400 * (n_0 29) + (x37_49))))) := hq49_
            clear hq49_
            rcases hh49_ with ⟨ee49_, hh49_⟩ | ⟨ee49_, hh49_⟩
            · subst ee49_
              have hx_ := hh49_
              clear hh49_
              obtain ⟨jn2_, ga_, gb_, gc_⟩ := hx_.2.2.2
              refine j_iconst E 92 rfl dX10_readAny_91 ?_
              refine j_icmp_ne E 95 97 rfl (rr (by decide)) (rr (by decide)) dX10_readAny_92 (by decide) (fun cc50_ => absurd cc50_ (by decide)) (fun _ => ?_)
              refine j_iconst E 96 rfl dX10_readAny_95 ?_
              exact hret 96 ((-1)) (upN (upN (upN (upN (upN (upN (upN (upN (upN n_0 24 x24_49) 25 x25_49) 26 x26_49) 27 x27_49) 37 x37_49) 38 x38_c9) 40 x40_c9) 41 x41_49) 42 x42_49) (upF (upF (upF (upF (upF f_0 30 y30_49) 31 y31_49) 32 y32_49) 33 y33_49) 39 y39_c9) _ _ ls hw (rr (by decide)) ⟨x24_49, x25_49, x26_49, x27_49, x37_49, x38_c9, x40_c9, x41_49, x42_49, y30_49, y31_49, y32_49, y33_49, y39_c9, rfl, rfl, Or.inl ⟨rfl, Fr_tr if_ hx_.1 (by omega), tk_tr ik_ hx_.2.1, hx_.2.2.1, jn2_, ga_, gb_, Mi_cmf (Mj_1 im_ (by omega)) (by omega) (Pk_cls ip_) (fun q_ => q_.elim (rt_nw (k := 306) jr_ w5_ (by decide)) (rt_ns (k := 40) jr_ s40_ (by decide))) gc_⟩⟩ dX10_readAny_96
            · subst ee49_
              have h2_ := hh49_
              clear hh49_
              have hb2_ := (h2_.2.2.2.2.2.2.1).2
              obtain ⟨jn2_, ka_, kb_, kc_⟩ := h2_.2.2.2.2.2.2.2
              have mc_ := Mi_cmp (Mj_1 im_ (by omega)) (by omega) (Pk_cls ip_) (fun q_ => q_.elim (rt_nw (k := 306) jr_ w5_ (by decide)) (rt_ns (k := 40) jr_ s40_ (by decide))) kc_
              refine j_iconst E 92 rfl dX10_readAny_91 ?_
              refine j_icmp_ne E 95 97 rfl (rr (by decide)) (rr (by decide)) dX10_readAny_92 (by decide) (fun _ => ?_) (fun cc51_ => absurd cc51_ (by decide))
              refine j_aload_n E 98 rfl dX10_readAny_97 rfl (lv_at hl 1 rfl) ?_
              refine j_bipush E 100 rfl dX10_readAny_98 (by decide) ?_
              refine m_callv E (c_X10_settles l D cy q (upN (upN (upN (upN (upN (upN (upN (upN (upN n_0 24 x24_49) 25 x25_49) 26 x26_49) 27 x27_49) 37 x37_49) 38 x38_c9) 40 x40_c9) 41 x41_49) 42 x42_49) (upF (upF (upF (upF (upF f_0 30 y30_49) 31 y31_49) 32 y32_49) 33 y33_49) 39 y39_c9) 10 (n_0 37) (ez_ + 1) gb K_ V_ jn2_ (rr (by decide)) (show 0 ≤ (n_0 29) ∧ (n_0 29) < 32 from by omega) (show ((10 : Int) : Int) = 10 ∨ ((10 : Int) : Int) = 11 ∨ ((10 : Int) : Int) = 12 from by omega) (show 0 ≤ (n_0 37) ∧ (n_0 37) ≤ (x37_49) ∧ (x37_49) + (x40_c9) ≤ 400 ∧ (x38_c9) ≤ 8 from by omega) (show Pz_ (y32_49) (y33_49) (400 * (n_0 29) + (n_0 37)) (400 * (n_0 29) + (x37_49)) (ez_ + 1) from h2_.2.2.2.2.2.2.1) (show Pk_ (y39_c9) (x40_c9) (x38_c9) gb ((ez_ + 1) - 1) from Pk_eq ip_ (by omega)) (show ((10 : Int) : Int) = 12 → ¬ K_ jn2_ = 305 from fun h9_ => absurd h9_ (by decide))) rfl mt_X10_settles ml_X10_297 hK hw hA ⟨Nat.le_of_ble_eq_true rfl, Nat.le_of_ble_eq_true rfl⟩ (As := [.int (J 10)]) (rest := []) rfl rfl hl.1 (Nat.le_of_ble_eq_true rfl) 103 rfl dX10_readAny_100 (fun n_52 f_52 H locs hq52_ hw => ?_)
              obtain ⟨x40_52, x37_52, x38_52, y32_52, y33_52, en52_, ef52_, hq52_⟩ := hq52_
              rw [en52_, ef52_] at hw; clear en52_ ef52_
              have hw : WM D cy q (upN (upN (upN (upN (upN (upN (upN (upN (upN n_0 24 x24_49) 25 x25_49) 26 x26_49) 27 x27_49) 37 x37_52) 38 x38_52) 40 x40_52) 41 x41_49) 42 x42_49) (upF (upF (upF (upF (upF f_0 30 y30_49) 31 y31_49) 32 y32_52) 33 y33_52) 39 y39_c9) A0 H0 H locs := hw
              have rx40_52 : inR x40_52 := mRn_40 hw.1.2.2.1
              have rx37_52 : inR x37_52 := mRn_37 hw.1.2.2.1
              have rx38_52 : inR x38_52 := mRn_38 hw.1.2.2.1
              have hh52_ : Fr_ (y32_49) (y33_49) (y32_52) (y33_52) (400 * (n_0 29) + (x37_49)) ∧ ((x37_52) + (x40_52) = (x37_49) + (x40_c9) ∧ 0 ≤ (x40_52) ∧ (x40_52) ≤ (x40_c9) ∧ (x38_52) ≤ (x38_c9) ∧ (x37_49) ≤ (x37_52)) ∧ ((x40_52) = (x40_c9) ∨ (x40_52) = 0 ∨ ((10 : Int) : Int) = 10 ∨ (y39_c9 ((x40_52) - 1)) = 13 ∨ (((10 : Int) : Int) = 11 ∧ (y39_c9 ((x40_52) - 1)) = 12)) ∧ ((x40_52) = 0 ∨ ¬ (y39_c9 ((x40_52) - 1)) = (10 : Int)) ∧ (∃ e_, Pz_ (y32_52) (y33_52) (400 * (n_0 29) + (n_0 37)) (400 * (n_0 29) + (x37_52)) e_ ∧ Pk_ (y39_c9) (x40_52) (x38_52) gb (e_ - 1)) ∧ Mq_ K_ V_ (y39_c9) jn2_ (x40_c9) (x40_52) (cL_ (y32_49) (y33_49) (400 * (n_0 29) + (n_0 37)) (400 * (n_0 29) + (x37_49))) (cL_ (y32_52) (y33_52) (400 * (n_0 29) + (n_0 37)) (400 * (n_0 29) + (x37_52))) := hq52_
              clear hq52_
              obtain ⟨fr6_, ar6_, tp6_, nt6_, ⟨e6_, z6_, p6_⟩, mq6_⟩ := hh52_
              have mi6_ := Mi_set mc_ mq6_
              have nn6_ := Pk_nn p6_
              have bb6_ := z6_.2
              clear tp6_
              refine j_iconst E 104 rfl dX10_readAny_103 ?_
              refine j_istore_n E 105 rfl [(2, .int (J 0)), (3, .int (J 0)), (0, .ref (q 0)), (1, .int (J gb))] dX10_readAny_104 rfl hl (by decide) rfl (fun ls hl => ?_)
              refine j_goto E 9 dX10_readAny_105 (by decide) ?_
              exact ih9 gb 0 x24_49 x25_49 x26_49 x27_49 x37_52 x38_52 x40_52 x41_49 x42_49 y30_49 y31_49 y32_52 y33_52 y39_c9 H locs ls r_gb (rr (by decide)) (⟨by omega, by omega, Fr_tr (Fr_tr if_ h2_.1 (by omega)) fr6_ (by omega), tk_tr ik_ h2_.2.1, fun _ => nt6_, ⟨e6_, z6_, Pk_eq p6_ (by omega)⟩, jn2_, by omega, kb_, Mj_b (by omega) mi6_⟩) (by omega) hw (lv_sub hl [2, 3, 0] rfl)
  exact L9_2 _ 0 1 (n_0 24) (n_0 25) (n_0 26) (n_0 27) (n_0 37) (n_0 38) 0 (n_0 41) (n_0 42) (f_0 30) (f_0 31) (f_0 32) (f_0 33) (f_0 39) H locs ls (rr (by decide)) (rr (by decide)) (⟨by omega, by omega, Fr_rf, Kf_rf, fun h_ => absurd h_ (by omega), ⟨0, Pz_0, by rw [hp4]; exact Pk_eq Pk_0 (by omega)⟩, j_, by omega, hp6, Mj_a (by omega) (Mi_0 (cL_0 rfl))⟩) (mk_lt _) hw (lv_sub hl [2, 1, 0] rfl)
