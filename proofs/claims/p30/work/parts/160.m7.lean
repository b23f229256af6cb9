
def S2_ (st : List Int) : Prop := ¬ st.headD 0 = 42
def S3_ (st : List Int) : Prop := ¬ st.headD 0 = 42 ∧ ¬ (st.headD 0 = 43 ∨ st.headD 0 = 45)
def T1_ (_ : List Int) : Prop := True
def N2_ (K : Int → Int) (j : Int) : Prop := ¬ K j = 42 ∧ ¬ K j = 47
def N4_ (K : Int → Int) (j : Int) : Prop := ¬ K j = 42 ∧ ¬ K j = 47 ∧ ¬ K j = 43 ∧ ¬ K j = 45
def Mg_ (S : List Int → Prop) (K V : Int → Int) (j j2 : Int) (o o2 : List Int) : Prop := ∀ (c : Nat) (st : List Int) (sg : List (List Int)), S st → Rch_ K V (1, c, j, st, o, sg) (2, c, j2, st, o2, sg)
def Mh_ (S : List Int → Prop) (K V : Int → Int) (j k j2 : Int) (o : List Int) : Prop := ∀ (c : Nat) (st : List Int) (sg : List (List Int)), S st → Rch_ K V (1, c, j, st, o, sg) (ft_ k.toNat j2)
def M5_ (K V : Int → Int) (j j2 : Int) (o o2 : List Int) : Prop := ∀ (st : List Int) (sg : List (List Int)), S3_ st → Rch_ K V (1, 1, j, st, o, sg) (5, 0, j2, st, o2, sg)
def Mh5_ (K V : Int → Int) (j k j2 : Int) (o : List Int) : Prop := ∀ (st : List Int) (sg : List (List Int)), S3_ st → Rch_ K V (1, 1, j, st, o, sg) (ft_ k.toNat j2)
section Mach
variable {K V P Q : Int → Int} {j jj j3 k w x : Int} {o o1 o2 o3 : List Int}
theorem mU_line (h : K j = 312) (h2 : K (j + 1) = 3) (h3 : V (j + 1) < 24) (hv : V (j + 1) = x) (ho : o2 = o ++ [cd_ 2 x]) : Mg_ T1_ K V j (j + 2) o o2 := fun _ _ _ _ => by
  rw [ho, cd_2, ← hv]
  exact Rch_st (sU_line h h2 h3)
theorem mU_line1 (h : K j = 312) (h2 : ¬ K (j + 1) = 3) : Mh_ T1_ K V j 1 (j + 1) o := fun _ _ _ _ => Rch_st (sU_line1 h h2)
theorem mU_line2 (h : K j = 312) (h2 : K (j + 1) = 3) (h3 : 24 ≤ V (j + 1)) : Mh_ T1_ K V j 2 (j + 1) o := fun _ _ _ _ => Rch_st (sU_line2 h h2 h3)
theorem mU_fact (h : 307 ≤ K j ∧ K j ≤ 311) (hv : K j = 307 + x) (ho : o2 = o ++ [cd_ 1 x]) : Mg_ T1_ K V j (j + 1) o o2 := fun _ _ _ _ => by
  rw [ho, cd_1, ← hv]
  exact Rch_st (sU_fact h)
theorem mU_num (h : K j = 3) (hv : V j = x) (ho : o2 = o ++ [cd_ 0 x]) : Mg_ T1_ K V j (j + 1) o o2 := fun _ _ _ _ => by
  rw [ho, cd_0, ← hv]
  exact Rch_st (sU_num h)
theorem mU_bad (h : ¬ K j = 312) (h2 : ¬ (307 ≤ K j ∧ K j ≤ 311)) (h3 : ¬ K j = 3) : Mh_ T1_ K V j 1 j o := fun _ _ _ _ => Rch_st (sU_bad h h2 h3)
theorem mP_of (h : Mg_ T1_ K V j jj o o2) : Mg_ S2_ K V j jj o o2 := fun c st sg _ => h c st sg trivial
theorem mPf_of (h : Mh_ T1_ K V j k jj o) : Mh_ S2_ K V j k jj o := fun c st sg _ => h c st sg trivial
theorem mS_of (h : Mg_ S2_ K V j jj o o2) : Mg_ S3_ K V j jj o o2 := fun c st sg hs => h c st sg hs.1
theorem mSf_of (h : Mh_ S2_ K V j k jj o) : Mh_ S3_ K V j k jj o := fun c st sg hs => h c st sg hs.1
theorem mP_mul (h : Mg_ S2_ K V j jj o o1) (hk : K jj = 42) (hu : Mg_ T1_ K V (jj + 1) j3 o1 o2) (ho : o3 = o2 ++ [cd_ 5 0]) : Mg_ S2_ K V j j3 o o3 := fun c st sg hs => by
  rw [ho, cd_5]
  exact Rch_sn (Rch_tr (Rch_sn (h c st sg hs) (sP_mul hs hk)) (hu c (42 :: st) sg trivial)) sP_pop42
theorem mP_div (h : Mg_ S2_ K V j jj o o1) (hk : K jj = 47) (h2 : K (jj + 1) = 3) (h3 : ¬ V (jj + 1) = 0) (hv : V (jj + 1) = x) (ho : o2 = o1 ++ [cd_ 0 x]) (ho3 : o3 = o2 ++ [cd_ 6 0]) : Mg_ S2_ K V j (jj + 2) o o3 := fun c st sg hs => by
  have r := Rch_sn (h c st sg hs) (sP_div hs hk h2 h3)
  rw [ho3, ho, cd_6, cd_0, ← hv, List.append_assoc]
  exact r
theorem mPf_mul (h : Mg_ S2_ K V j jj o o1) (hk : K jj = 42) (hu : Mh_ T1_ K V (jj + 1) k j3 o1) : Mh_ S2_ K V j k j3 o := fun c st sg hs => Rch_tr (Rch_sn (h c st sg hs) (sP_mul hs hk)) (hu c (42 :: st) sg trivial)
theorem mPf_d1 (h : Mg_ S2_ K V j jj o o1) (hk : K jj = 47) (h2 : ¬ K (jj + 1) = 3) : Mh_ S2_ K V j 1 (jj + 1) o := fun c st sg hs => Rch_sn (h c st sg hs) (sP_div1 hs hk h2)
theorem mPf_d2 (h : Mg_ S2_ K V j jj o o1) (hk : K jj = 47) (h2 : K (jj + 1) = 3) (h3 : V (jj + 1) = 0) : Mh_ S2_ K V j 2 (jj + 1) o := fun c st sg hs => Rch_sn (h c st sg hs) (sP_div2 hs hk h2 h3)
theorem mS_add (h : Mg_ S3_ K V j jj o o1) (hk : K jj = 43 ∨ K jj = 45) (hp : Mg_ S2_ K V (jj + 1) j3 o1 o2) (h1 : N2_ K j3) (ho : o3 = o2 ++ [cd_ w 0]) (hw : (K jj = 43 ∧ w = 3) ∨ (K jj = 45 ∧ w = 4)) : Mg_ S3_ K V j j3 o o3 := fun c st sg hs => by
  have e : cd_ w 0 = -(K jj) := by
    rcases hw with ⟨a, rfl⟩ | ⟨a, rfl⟩
    · rw [cd_3, a]
    · rw [cd_4, a]
  rw [ho, e]
  exact Rch_sn (Rch_tr (Rch_sn (h c st sg hs) (sP_add hs.1 hs.2 hk)) (hp c (K jj :: st) sg (show ¬ K jj = 42 by omega))) (sP_popw hk h1.1 h1.2)
theorem mSf_add (h : Mg_ S3_ K V j jj o o1) (hk : K jj = 43 ∨ K jj = 45) (hp : Mh_ S2_ K V (jj + 1) k j3 o1) : Mh_ S3_ K V j k j3 o := fun c st sg hs => Rch_tr (Rch_sn (h c st sg hs) (sP_add hs.1 hs.2 hk)) (hp c (K jj :: st) sg (show ¬ K jj = 42 by omega))
theorem m5_ok (h : Mg_ S3_ K V j jj o o1) (hk : K jj = 60 ∨ K jj = 61 ∨ K jj = 62) (h2 : Mg_ S3_ K V (jj + 1) j3 o1 o2) (hn : N4_ K j3) (ho : o3 = o2 ++ [-(K jj)]) : M5_ K V j j3 o o3 := fun st sg hs => by
  rw [ho]
  exact Rch_sn (Rch_tr (Rch_sn (h 1 st sg hs) (sP_end1 hs.1 hs.2 hk)) (h2 2 (K jj :: st) sg (show ¬ K jj = 42 ∧ ¬ (K jj = 43 ∨ K jj = 45) by omega))) (sP_end2 hk hn)
theorem cd_cm (hw : (K jj = 60 ∧ w = 7) ∨ (K jj = 61 ∧ w = 8) ∨ (K jj = 62 ∧ w = 9)) (ho : o3 = o2 ++ [cd_ w 0]) : o3 = o2 ++ [-(K jj)] := by
  have e : cd_ w 0 = -(K jj) := by
    rcases hw with ⟨a, rfl⟩ | ⟨a, rfl⟩ | ⟨a, rfl⟩
    · rw [cd_7, a]
    · rw [cd_8, a]
    · rw [cd_9, a]
  rw [ho, e]
theorem m5_f1 (h : Mh_ S3_ K V j k jj o) : Mh5_ K V j k jj o := fun st sg hs => h 1 st sg hs
theorem m5_f2 (h : Mg_ S3_ K V j jj o o1) (hn : N4_ K jj) (hk : ¬ (K jj = 60 ∨ K jj = 61 ∨ K jj = 62)) : Mh5_ K V j 1 jj o := fun st sg hs => Rch_sn (h 1 st sg hs) (sP_bad1 hs.1 hs.2 hn hk)
theorem m5_f3 (h : Mg_ S3_ K V j jj o o1) (hk : K jj = 60 ∨ K jj = 61 ∨ K jj = 62) (h2 : Mh_ S3_ K V (jj + 1) k j3 o1) : Mh5_ K V j k j3 o := fun st sg hs => Rch_tr (Rch_sn (h 1 st sg hs) (sP_end1 hs.1 hs.2 hk)) (h2 2 (K jj :: st) sg (show ¬ K jj = 42 ∧ ¬ (K jj = 43 ∨ K jj = 45) by omega))
theorem rt_nx {g tf tk tf2 tk2 : Int → Int} {n a f t v a2 f2 t2 v2 wo : Int} (hS : Strm_ g n K V P Q) (hr : Rt_ K V P Q a f t v (tkw_ tf tk wo) j) (hl : Lx_ g n a k v2 f2 a2) (hk : k = kd_ t2 v2) (ht : Tv_ t2 v2) (hT : (t2 ≤ 1 ∧ tf2 = tf ∧ tk2 = tk) ∨ (2 ≤ t2 ∧ tf2 = upA tf (400 * wo + tk wo) (te_ (kd_ t2 v2) v2) ∧ tk2 = upA tk wo (tk wo + 1))) : Rt_ K V P Q a2 f2 t2 v2 (tkw_ tf2 tk2 wo) (j + 1) := rt_of hS (by have := hr.1; omega) (by rw [← hr.2.1]; exact hl) hk ht (fun e1 e2 e3 => Tp_nx (t0 := t) hT hr.2.2.2.2.2.2 hr.1 (fun q => by have := rt_k hr; omega) e1 e2 e3)
end Mach
def Pz_ (op ar : Int → Int) (lo hi e : Int) : Prop := Seg_ op ar lo hi e ∧ 0 ≤ e ∧ e ≤ hi - lo
def Fr_ (op ar op2 ar2 : Int → Int) (m : Int) : Prop := ∀ k, k < m → op2 k = op k ∧ ar2 k = ar k
theorem Fr_rf {op ar : Int → Int} {m : Int} : Fr_ op ar op ar m := fun _ _ => ⟨rfl, rfl⟩
theorem Fr_tr {a b a2 b2 a3 b3 : Int → Int} {m m2 : Int} (h : Fr_ a b a2 b2 m) (h2 : Fr_ a2 b2 a3 b3 m2) (e : m ≤ m2) : Fr_ a b a3 b3 m := fun k hk => by
  have h3 := h k hk
  have h4 := h2 k (by omega)
  exact ⟨h4.1.trans h3.1, h4.2.trans h3.2⟩
theorem Fr_up {a b : Int → Int} {m i x y : Int} (e : m ≤ i) : Fr_ a b (upA a i x) (upA b i y) m := fun k hk => ⟨upA_ne (by omega), upA_ne (by omega)⟩
theorem Pz_0 {op ar : Int → Int} {lo : Int} : Pz_ op ar lo lo 0 := ⟨⟨fun _ => 0, rfl, rfl, fun k h1 h2 => absurd h2 (by omega)⟩, by omega, by omega⟩
theorem Pz_fr {a b a2 b2 : Int → Int} {lo hi e m : Int} (h : Pz_ a b lo hi e) (f : Fr_ a b a2 b2 m) (hm : hi ≤ m) : Pz_ a2 b2 lo hi e := by
  obtain ⟨⟨d, d0, d1, ds⟩, h2⟩ := h
  refine ⟨⟨d, d0, d1, fun k k1 k2 => ?_⟩, h2⟩
  have h3 := ds k k1 k2
  have h4 := f k (by omega)
  have h5 := f (k - 1) (by omega)
  refine ⟨h3.1, ?_⟩
  have h6 := h3.2
  unfold Stp_ at h6 ⊢
  rw [h4.1, h4.2, h5.1, h5.2]
  exact h6
/-- one more step at the end -/
theorem Pz_ext {a b : Int → Int} {lo hi e e2 x y : Int} (h : Pz_ a b lo hi e) (hl : lo ≤ hi) (he : 0 ≤ e2 ∧ e2 ≤ hi + 1 - lo)
    (hs : (x = 0 ∧ (0 ≤ y ∧ y ≤ 9999) ∧ e2 = e + 1) ∨ (x = 1 ∧ (0 ≤ y ∧ y < 5) ∧ e2 = e + 1) ∨ (x = 2 ∧ (0 ≤ y ∧ y < 24) ∧ e2 = e + 1) ∨ (x = 10 ∧ 1 ≤ e ∧ e2 = e) ∨ ((3 ≤ x ∧ x ≤ 12 ∧ x ≠ 10) ∧ 2 ≤ e ∧ e2 = e - 1 ∧ (x = 6 → lo < hi ∧ a (hi - 1) = 0 ∧ b (hi - 1) ≠ 0))) : Pz_ (upA a hi x) (upA b hi y) lo (hi + 1) e2 := by
  obtain ⟨⟨d, d0, d1, ds⟩, h2⟩ := h
  refine ⟨⟨upA d (hi + 1) e2, ?_, upA_same _ _ _, fun k k1 k2 => ?_⟩, he⟩
  · rw [upA_ne (by omega)]; exact d0
  · by_cases ek : k = hi
    · subst ek
      rw [upA_ne (show k ≠ k + 1 by omega), d1]
      refine ⟨⟨by omega, by omega⟩, ?_⟩
      unfold Stp_
      rw [upA_same, upA_same, upA_same, upA_ne (show k ≠ k + 1 by omega), d1, upA_ne (show k - 1 ≠ k by omega), upA_ne (show k - 1 ≠ k by omega)]
      exact hs
    · have h3 := ds k k1 (by omega)
      rw [upA_ne (show k ≠ hi + 1 by omega)]
      refine ⟨h3.1, ?_⟩
      have h6 := h3.2
      unfold Stp_ at h6 ⊢
      rw [upA_ne (show k ≠ hi by omega), upA_ne (show k ≠ hi by omega), upA_ne (show k ≠ hi + 1 by omega), upA_ne (show k + 1 ≠ hi + 1 by omega), upA_ne (show k - 1 ≠ hi by omega), upA_ne (show k - 1 ≠ hi by omega)]
      exact h6
theorem cL_fr {a b a2 b2 : Int → Int} {lo hi m : Int} (f : Fr_ a b a2 b2 m) (hm : hi ≤ m) : cL_ a2 b2 lo hi = cL_ a b lo hi := cs_cg (fun i q => f _ (by omega))

set_option maxHeartbeats 4000000 in
set_option maxRecDepth 100000 in
theorem c_X10_readUnit (l : Launch) (D : va_G) (cy : Nat → ClassId) (q : Nat → Nat) (n_0 : Nat → Int) (f_0 : Nat → Int → Int) (dl_ : Int) (lo_ : Int) (el_ : Int) (K_ : Int → Int) (V_ : Int → Int) (P_ : Int → Int) (Q_ : Int → Int) (j_ : Int) (hp0 : 0 ≤ (n_0 29) ∧ (n_0 29) < 32) (hp1 : 0 ≤ (n_0 23) ∧ (n_0 23) ≤ 400) (hp2 : Wds_ (f_0 28)) (hp3 : 0 ≤ dl_ ∧ (0 ≤ (n_0 25) ∧ (n_0 25) ≤ (n_0 24) ∧ (n_0 24) ≤ (n_0 23)) ∧ (0 ≤ (f_0 31 ((n_0 29))) ∧ (f_0 31 ((n_0 29))) ≤ (n_0 24)) ∧ (0 ≤ (n_0 26) ∧ (n_0 26) ≤ 4) ∧ (¬ (n_0 26) = 0 → (n_0 25) < (n_0 24)) ∧ ((n_0 26) = 3 → 0 ≤ (n_0 27) ∧ (n_0 27) ≤ 9999) ∧ (0 ≤ lo_ ∧ lo_ ≤ (n_0 37)) ∧ (n_0 37) + dl_ ≤ (n_0 25)) (hp4 : Pz_ (f_0 32) (f_0 33) (400 * (n_0 29) + lo_) (400 * (n_0 29) + (n_0 37)) el_) (hp5 : Strm_ (f_0 22) (n_0 23) K_ V_ P_ Q_) (hp6 : Rt_ K_ V_ P_ Q_ (n_0 24) (n_0 25) (n_0 26) (n_0 27) (tkw_ (f_0 30) (f_0 31) (n_0 29)) j_) (hp7 : Tap_ (f_0 22)) : MC l D cy q yX10_readUnit cX10_readUnit 4 (some .int) 3 [] n_0 f_0 (PI (fun (z_0 : Int) (n_2 : Nat → Int) (f_2 : Nat → Int → Int) => ∃ (x24_2 : Int) (x25_2 : Int) (x26_2 : Int) (x27_2 : Int) (x37_2 : Int) (x41_2 : Int) (x42_2 : Int) (y30_2 : Int → Int) (y31_2 : Int → Int) (y32_2 : Int → Int) (y33_2 : Int → Int) , n_2 = upN (upN (upN (upN (upN (upN (upN n_0 24 x24_2) 25 x25_2) 26 x26_2) 27 x27_2) 37 x37_2) 41 x41_2) 42 x42_2 ∧ f_2 = upF (upF (upF (upF f_0 30 y30_2) 31 y31_2) 32 y32_2) 33 y33_2 ∧ ((z_0 = -1 ∧ Fr_ (f_0 32) (f_0 33) (y32_2) (y33_2) (400 * (n_0 29) + (n_0 37)) ∧ Kf_ (f_0 31) (f_0 30) (y31_2) (y30_2) (n_0 29) ∧ (0 ≤ (y31_2 ((n_0 29))) ∧ (y31_2 ((n_0 29))) ≤ 400) ∧ (∃ jn_ : Int, (x42_2) = P_ jn_ ∧ (1 ≤ (x41_2) ∧ (x41_2) ≤ 3) ∧ Mh_ T1_ K_ V_ j_ (x41_2) jn_ (cL_ (f_0 32) (f_0 33) (400 * (n_0 29) + lo_) (400 * (n_0 29) + (n_0 37))) ∧ ¬ (n_0 26) = 3)) ∨ (z_0 = 0 ∧ Fr_ (f_0 32) (f_0 33) (y32_2) (y33_2) (400 * (n_0 29) + (n_0 37)) ∧ Kf_ (f_0 31) (f_0 30) (y31_2) (y30_2) (n_0 29) ∧ (0 ≤ (y31_2 ((n_0 29))) ∧ (y31_2 ((n_0 29))) ≤ 400) ∧ ((0 ≤ (x25_2) ∧ (x25_2) ≤ (x24_2) ∧ (x24_2) ≤ (n_0 23)) ∧ (0 ≤ (y31_2 ((n_0 29))) ∧ (y31_2 ((n_0 29))) ≤ (x24_2)) ∧ (0 ≤ (x26_2) ∧ (x26_2) ≤ 4) ∧ (¬ (x26_2) = 0 → (x25_2) < (x24_2)) ∧ ((x26_2) = 3 → 0 ≤ (x27_2) ∧ (x27_2) ≤ 9999) ∧ (0 ≤ lo_ ∧ lo_ ≤ (x37_2)) ∧ (x37_2) + dl_ ≤ (x25_2)) ∧ (n_0 25) < (x25_2) ∧ (n_0 37) ≤ (x37_2) ∧ Pz_ (y32_2) (y33_2) (400 * (n_0 29) + lo_) (400 * (n_0 29) + (x37_2)) (el_ + 1) ∧ (∃ jn_ : Int, j_ < jn_ ∧ Rt_ K_ V_ P_ Q_ (x24_2) (x25_2) (x26_2) (x27_2) (tkw_ (y30_2) (y31_2) (n_0 29)) jn_ ∧ ((n_0 26) = 3 → jn_ = j_ + 1) ∧ Mg_ T1_ K_ V_ j_ jn_ (cL_ (f_0 32) (f_0 33) (400 * (n_0 29) + lo_) (400 * (n_0 29) + (n_0 37))) (cL_ (y32_2) (y33_2) (400 * (n_0 29) + lo_) (400 * (n_0 29) + (x37_2)))) ∧ ((n_0 26) = 3 → (x37_2) = (n_0 37) + 1 ∧ (y32_2 (400 * (n_0 29) + (n_0 37))) = 0 ∧ (y33_2 (400 * (n_0 29) + (n_0 37))) = (n_0 27) ∧ (cL_ (y32_2) (y33_2) (400 * (n_0 29) + lo_) (400 * (n_0 29) + (x37_2))) = (cL_ (f_0 32) (f_0 33) (400 * (n_0 29) + lo_) (400 * (n_0 29) + (n_0 37))) ++ [cd_ 0 (n_0 27)]))))) := by
  refine MC.ofi rfl (Nat.le_of_ble_eq_true rfl) ?_
  intro p e s m below meth c ls ar QW A0 H0 H locs E hK hA hw hl hret
  have hl : lv_has ls 4 [(0, .ref (q 0))] := hl
  have hb_ : 0 ≤ el_ ∧ el_ ≤ 400 * n_0 29 + n_0 37 - (400 * n_0 29 + lo_) := hp4.2
  have j0_ := hp6.1
  have L58_1 : ∀ (gl ga : Int) (H : Heap) (locs : List Loc) (ls : Array Slot), inR gl → inR ga → (((gl = 1 ∧ (n_0 26) = 2 ∧ (n_0 27) = 11) ∨ (gl = 0 ∧ ¬ ((n_0 26) = 2 ∧ (n_0 27) = 11))) ∧ ((ga = 1 ∧ (n_0 26) = 2 ∧ 6 ≤ (n_0 27) ∧ (n_0 27) ≤ 10) ∨ (ga = 0 ∧ ¬ ((n_0 26) = 2 ∧ 6 ≤ (n_0 27) ∧ (n_0 27) ≤ 10))) ∧ (gl = 1 ∨ ga = 1 ∨ (n_0 26) = 3)) → WM D cy q (n_0) (f_0) A0 H0 H locs → lv_has ls 4 [(0, .ref (q 0)), (1, .int (J gl)), (2, .int (J ga))] → W p l e (rmd 3 0 0) s m ar below meth c H locs 0 0 QW (F0 m 58 ls []) := by
    intro gl ga H locs ls r_gl r_ga iv58 hw hl
    refine j_aload_n E 59 rfl dX10_readUnit_58 rfl (lv_at hl 0 rfl) ?_
    refine m_get_27 E hK hw (n_0 27) rfl 62 rfl dX10_readUnit_59 (fun rr3_ => ?_)
    refine j_istore_n E 63 rfl [(3, .int (J (n_0 27))), (0, .ref (q 0)), (1, .int (J gl)), (2, .int (J ga))] dX10_readUnit_62 rfl hl (by decide) rfl (fun ls hl => ?_)
    refine j_iload_n E 64 rfl dX10_readUnit_63 rfl (lv_at hl 2 rfl) ?_
    refine j_if_ne E 67 98 rfl r_gl dX10_readUnit_64 (by decide) (fun cc4_ => ?_) (fun cc4_ => ?_)
    · refine j_aload_n E 99 rfl dX10_readUnit_98 rfl (lv_at hl 1 rfl) ?_
      refine m_callv E (c_X10_next l D cy q (n_0) (f_0)    (show 0 ≤ (n_0 29) ∧ (n_0 29) < 32 from by omega) (show 0 ≤ (n_0 23) ∧ (n_0 23) ≤ 400 from by omega) (show Wds_ (f_0 28) from hp2) (show 0 ≤ (n_0 24) ∧ (n_0 24) ≤ (n_0 23) from by omega) (show 0 ≤ (f_0 31 ((n_0 29))) ∧ (f_0 31 ((n_0 29))) ≤ (n_0 24) from by omega) (show Tap_ (f_0 22) from hp7)) rfl mt_X10_next ml_X10_269 hK hw hA ⟨Nat.le_of_ble_eq_true rfl, Nat.le_of_ble_eq_true rfl⟩ (As := []) (rest := []) rfl rfl hl.1 (Nat.le_of_ble_eq_true rfl) 102 rfl dX10_readUnit_99 (fun n_5 f_5 H locs hq5_ hw => ?_)
      obtain ⟨x24_5, x25_5, x26_5, x27_5, y30_5, y31_5, en5_, ef5_, hq5_⟩ := hq5_
      rw [en5_, ef5_] at hw; clear en5_ ef5_
      have hw : WM D cy q (upN (upN (upN (upN n_0 24 x24_5) 25 x25_5) 26 x26_5) 27 x27_5) (upF (upF f_0 30 y30_5) 31 y31_5) A0 H0 H locs := hw
      have rx24_5 : inR x24_5 := mRn_24 hw.1.2.2.1
      have rx25_5 : inR x25_5 := mRn_25 hw.1.2.2.1
      have rx26_5 : inR x26_5 := mRn_26 hw.1.2.2.1
      have rx27_5 : inR x27_5 := mRn_27 hw.1.2.2.1
      have hh5_ : (0 ≤ (x25_5) ∧ (x25_5) ≤ (x24_5) ∧ (x24_5) ≤ (n_0 23)) ∧ (0 ≤ (y31_5 ((n_0 29))) ∧ (y31_5 ((n_0 29))) ≤ (x24_5)) ∧ (0 ≤ (x26_5) ∧ (x26_5) ≤ 4) ∧ (¬ (x26_5) = 0 → (x25_5) < (x24_5)) ∧ ((x26_5) = 3 → 0 ≤ (x27_5) ∧ (x27_5) ≤ 9999) ∧ (n_0 24) ≤ (x25_5) ∧ Kf_ (f_0 31) (f_0 30) (y31_5) (y30_5) (n_0 29) ∧ (((x26_5) ≤ 1 ∧ (y30_5) = (f_0 30) ∧ (y31_5) = (f_0 31)) ∨ (2 ≤ (x26_5) ∧ (y30_5) = upA (f_0 30) (400 * (n_0 29) + (f_0 31 ((n_0 29)))) (te_ (kd_ (x26_5) (x27_5)) (x27_5)) ∧ (y31_5) = upA (f_0 31) (n_0 29) ((f_0 31 ((n_0 29))) + 1))) ∧ Lx_ (f_0 22) (n_0 23) (n_0 24) (kd_ (x26_5) (x27_5)) (x27_5) (x25_5) (x24_5) ∧ Tv_ (x26_5) (x27_5) := hq5_
      clear hq5_
      have hj_ := hh5_.2.2.2.2.2.2.1
      have rn_ := rt_nx hp5 hp6 hh5_.2.2.2.2.2.2.2.2.1 rfl hh5_.2.2.2.2.2.2.2.2.2 hh5_.2.2.2.2.2.2.2.1
      refine j_aload_n E 103 rfl dX10_readUnit_102 rfl (lv_at hl 1 rfl) ?_
      refine m_get_26 E hK hw x26_5 rfl 106 rfl dX10_readUnit_103 (fun _ => ?_)
      refine j_iconst E 107 rfl dX10_readUnit_106 ?_
      refine j_icmp_eq E 110 116 rfl rx26_5 (rr (by decide)) dX10_readUnit_107 (by decide) (fun cc6_ => ?_) (fun cc6_ => ?_)
      · refine j_aload_n E 117 rfl dX10_readUnit_116 rfl (lv_at hl 1 rfl) ?_
        refine m_get_27 E hK hw x27_5 rfl 120 rfl dX10_readUnit_117 (fun _ => ?_)
        refine j_bipush E 122 rfl dX10_readUnit_120 (by decide) ?_
        refine j_icmp_lt E 125 131 rfl rx27_5 (rr (by decide)) dX10_readUnit_122 (by decide) (fun cc7_ => ?_) (fun cc7_ => ?_)
        · refine j_aload_n E 132 rfl dX10_readUnit_131 rfl (lv_at hl 1 rfl) ?_
          refine j_iconst E 133 rfl dX10_readUnit_132 ?_
          refine j_aload_n E 134 rfl dX10_readUnit_133 rfl (lv_at hl 1 rfl) ?_
          refine m_get_27 E hK hw x27_5 rfl 137 rfl dX10_readUnit_134 (fun _ => ?_)
          refine m_callv E (c_X10_emits l D cy q (upN (upN (upN (upN n_0 24 x24_5) 25 x25_5) 26 x26_5) 27 x27_5) (upF (upF f_0 30 y30_5) 31 y31_5) 2 x27_5  (rr (by decide)) rx27_5 (show 0 ≤ (n_0 29) ∧ (n_0 29) < 32 from by omega) (show 0 ≤ (n_0 37) ∧ (n_0 37) ≤ 399 from by omega)) rfl mt_X10_emits ml_X10_265 hK hw hA ⟨Nat.le_of_ble_eq_true rfl, Nat.le_of_ble_eq_true rfl⟩ (As := [.int (J 2), .int (J x27_5)]) (rest := []) rfl rfl hl.1 (Nat.le_of_ble_eq_true rfl) 140 rfl dX10_readUnit_137 (fun n_8 f_8 H locs hq8_ hw => ?_)
          obtain ⟨x37_8, y32_8, y33_8, en8_, ef8_, hq8_⟩ := hq8_
          rw [en8_, ef8_] at hw; clear en8_ ef8_
          have hw : WM D cy q (upN (upN (upN (upN (upN n_0 24 x24_5) 25 x25_5) 26 x26_5) 27 x27_5) 37 x37_8) (upF (upF (upF (upF f_0 30 y30_5) 31 y31_5) 32 y32_8) 33 y33_8) A0 H0 H locs := hw
          have rx37_8 : inR x37_8 := mRn_37 hw.1.2.2.1
          have hh8_ : (y32_8) = upA (f_0 32) (400 * (n_0 29) + (n_0 37)) (2 : Int) ∧ (y33_8) = upA (f_0 33) (400 * (n_0 29) + (n_0 37)) x27_5 ∧ (x37_8) = (n_0 37) + 1 := hq8_
          clear hq8_
          have hm_ : (x37_8) = n_0 37 + 1 := hh8_.2.2
          have hz_ : Pz_ (y32_8) (y33_8) (400 * n_0 29 + lo_) (400 * n_0 29 + (x37_8)) (el_ + 1) := by rw [hh8_.1, hh8_.2.1, show 400 * n_0 29 + (x37_8) = 400 * n_0 29 + n_0 37 + 1 by omega]; exact Pz_ext hp4 (by omega) (by omega) (Or.inr (Or.inr (Or.inl ⟨by omega, by omega, by omega⟩)))
          have hf_ : Fr_ (f_0 32) (f_0 33) (y32_8) (y33_8) (400 * n_0 29 + n_0 37) := by rw [hh8_.1, hh8_.2.1]; exact Fr_up (by omega)
          have hc_ : cL_ (y32_8) (y33_8) (400 * n_0 29 + lo_) (400 * n_0 29 + (x37_8)) = cL_ (f_0 32) (f_0 33) (400 * n_0 29 + lo_) (400 * n_0 29 + n_0 37) ++ [cd_ (2 : Int) x27_5] := by rw [hh8_.1, hh8_.2.1, show 400 * n_0 29 + (x37_8) = 400 * n_0 29 + n_0 37 + 1 by omega]; exact cL_ext (by omega)
          refine j_aload_n E 141 rfl dX10_readUnit_140 rfl (lv_at hl 1 rfl) ?_
          refine m_callv E (c_X10_next l D cy q (upN (upN (upN (upN (upN n_0 24 x24_5) 25 x25_5) 26 x26_5) 27 x27_5) 37 x37_8) (upF (upF (upF (upF f_0 30 y30_5) 31 y31_5) 32 y32_8) 33 y33_8)    (show 0 ≤ (n_0 29) ∧ (n_0 29) < 32 from by omega) (show 0 ≤ (n_0 23) ∧ (n_0 23) ≤ 400 from by omega) (show Wds_ (f_0 28) from hp2) (show 0 ≤ (x24_5) ∧ (x24_5) ≤ (n_0 23) from by omega) (show 0 ≤ (y31_5 ((n_0 29))) ∧ (y31_5 ((n_0 29))) ≤ (x24_5) from by omega) (show Tap_ (f_0 22) from hp7)) rfl mt_X10_next ml_X10_269 hK hw hA ⟨Nat.le_of_ble_eq_true rfl, Nat.le_of_ble_eq_true rfl⟩ (As := []) (rest := []) rfl rfl hl.1 (Nat.le_of_ble_eq_true rfl) 144 rfl dX10_readUnit_141 (fun n_9 f_9 H locs hq9_ hw => ?_)
          obtain ⟨x24_9, x25_9, x26_9, x27_9, y30_9, y31_9, en9_, ef9_, hq9_⟩ := hq9_
          rw [en9_, ef9_] at hw; clear en9_ ef9_
          have hw : WM D cy q (upN (upN (upN (upN (upN n_0 24 x24_9) 25 x25_9) 26 x26_9) 27 x27_9) 37 x37_8) (upF (upF (upF (upF f_0 30 y30_9) 31 y31_9) 32 y32_8) 33 y33_8) A0 H0 H locs := hw
          have rx24_9 : inR x24_9 := mRn_24 hw.1.2.2.1
          have rx25_9 : inR x25_9 := mRn_25 hw.1.2.2.1
          have rx26_9 : inR x26_9 := mRn_26 hw.1.2.2.1
          have rx27_9 : inR x27_9 := mRn_27 hw.1.2.2.1
          have hh9_ : (0 ≤ (x25_9) ∧ (x25_9) ≤ (x24_9) ∧ (x24_9) ≤ (n_0 23)) ∧ (0 ≤ (y31_9 ((n_0 29))) ∧ (y31_9 ((n_0 29))) ≤ (x24_9)) ∧ (0 ≤ (x26_9) ∧ (x26_9) ≤ 4) ∧ (¬ (x26_9) = 0 → (x25_9) < (x24_9)) ∧ ((x26_9) = 3 → 0 ≤ (x27_9) ∧ (x27_9) ≤ 9999) ∧ (x24_5) ≤ (x25_9) ∧ Kf_ (y31_5) (y30_5) (y31_9) (y30_9) (n_0 29) ∧ (((x26_9) ≤ 1 ∧ (y30_9) = (y30_5) ∧ (y31_9) = (y31_5)) ∨ (2 ≤ (x26_9) ∧ (y30_9) = upA (y30_5) (400 * (n_0 29) + (y31_5 ((n_0 29)))) (te_ (kd_ (x26_9) (x27_9)) (x27_9)) ∧ (y31_9) = upA (y31_5) (n_0 29) ((y31_5 ((n_0 29))) + 1))) ∧ Lx_ (f_0 22) (n_0 23) (x24_5) (kd_ (x26_9) (x27_9)) (x27_9) (x25_9) (x24_9) ∧ Tv_ (x26_9) (x27_9) := hq9_
          clear hq9_
          have hk_ := hh9_.2.2.2.2.2.2.1
          have rm_ := rt_nx hp5 rn_ hh9_.2.2.2.2.2.2.2.2.1 rfl hh9_.2.2.2.2.2.2.2.2.2 hh9_.2.2.2.2.2.2.2.1
          refine j_iconst E 145 rfl dX10_readUnit_144 ?_
          exact hret 145 0 (upN (upN (upN (upN (upN (upN (upN n_0 24 x24_9) 25 x25_9) 26 x26_9) 27 x27_9) 37 x37_8) 41 (n_0 41)) 42 (n_0 42)) (upF (upF (upF (upF f_0 30 y30_9) 31 y31_9) 32 y32_8) 33 y33_8) _ _ ls hw (rr (by decide)) ⟨x24_9, x25_9, x26_9, x27_9, x37_8, (n_0 41), (n_0 42), y30_9, y31_9, y32_8, y33_8, rfl, rfl, Or.inr ⟨rfl, hf_, tk_tr hj_ hk_, by omega, by omega, by omega, by omega, hz_, ⟨j_ + 1 + 1, by omega, rm_, fun h3_ => absurd h3_ (by omega), by rw [show j_ + 1 + 1 = j_ + 2 by omega]; exact mU_line (by have q0_ := rt_k hp6; omega) (by have q0_ := rt_k rn_; omega) (by have q0_ := rt_k rn_; omega) (by have q0_ := rt_k rn_; omega) hc_⟩, fun h3_ => absurd h3_ (by omega)⟩⟩ dX10_readUnit_145
        · refine j_aload_n E 126 rfl dX10_readUnit_125 rfl (lv_at hl 1 rfl) ?_
          refine j_iconst E 127 rfl dX10_readUnit_126 ?_
          refine m_calli E (c_X10_fails l D cy q (upN (upN (upN (upN n_0 24 x24_5) 25 x25_5) 26 x26_5) 27 x27_5) (upF (upF f_0 30 y30_5) 31 y31_5) 2  (rr (by decide)) ) rfl mt_X10_fails ml_X10_262 hK hw hA ⟨Nat.le_of_ble_eq_true rfl, Nat.le_of_ble_eq_true rfl⟩ (As := [.int (J 2)]) (rest := []) rfl rfl hl.1 (Nat.le_of_ble_eq_true rfl) 130 rfl dX10_readUnit_127 (fun zz10_ n_10 f_10 H locs rr10_ hq10_ hw => ?_)
          obtain ⟨x41_10, x42_10, en10_, ef10_, hq10_⟩ := hq10_
          rw [en10_, ef10_] at hw; clear en10_ ef10_
          have hw : WM D cy q (upN (upN (upN (upN (upN (upN n_0 24 x24_5) 25 x25_5) 26 x26_5) 27 x27_5) 41 x41_10) 42 x42_10) (upF (upF f_0 30 y30_5) 31 y31_5) A0 H0 H locs := hw
          have rx41_10 : inR x41_10 := mRn_41 hw.1.2.2.1
          have rx42_10 : inR x42_10 := mRn_42 hw.1.2.2.1
          have hh10_ : zz10_ = -1 ∧ (x41_10) = (2 : Int) ∧ (x42_10) = (x25_5) := hq10_
          clear hq10_
          have hq_ := hh10_
          clear hh10_
          exact hret 130 zz10_ (upN (upN (upN (upN (upN (upN (upN n_0 24 x24_5) 25 x25_5) 26 x26_5) 27 x27_5) 37 (n_0 37)) 41 x41_10) 42 x42_10) (upF (upF (upF (upF f_0 30 y30_5) 31 y31_5) 32 (f_0 32)) 33 (f_0 33)) _ _ ls hw rr10_ ⟨x24_5, x25_5, x26_5, x27_5, (n_0 37), x41_10, x42_10, y30_5, y31_5, (f_0 32), (f_0 33), rfl, rfl, Or.inl ⟨by omega, Fr_rf, hj_, by omega, j_ + 1, by rw [hq_.2.2]; exact rn_.2.2.1, by omega, by rw [hq_.2.1]; exact mU_line2 (by have q0_ := rt_k hp6; omega) (by have q0_ := rt_k rn_; omega) (by have q0_ := rt_k rn_; omega), by omega⟩⟩ dX10_readUnit_130
      · refine j_aload_n E 111 rfl dX10_readUnit_110 rfl (lv_at hl 1 rfl) ?_
        refine j_iconst E 112 rfl dX10_readUnit_111 ?_
        refine m_calli E (c_X10_fails l D cy q (upN (upN (upN (upN n_0 24 x24_5) 25 x25_5) 26 x26_5) 27 x27_5) (upF (upF f_0 30 y30_5) 31 y31_5) 1  (rr (by decide)) ) rfl mt_X10_fails ml_X10_262 hK hw hA ⟨Nat.le_of_ble_eq_true rfl, Nat.le_of_ble_eq_true rfl⟩ (As := [.int (J 1)]) (rest := []) rfl rfl hl.1 (Nat.le_of_ble_eq_true rfl) 115 rfl dX10_readUnit_112 (fun zz11_ n_11 f_11 H locs rr11_ hq11_ hw => ?_)
        obtain ⟨x41_11, x42_11, en11_, ef11_, hq11_⟩ := hq11_
        rw [en11_, ef11_] at hw; clear en11_ ef11_
        have hw : WM D cy q (upN (upN (upN (upN (upN (upN n_0 24 x24_5) 25 x25_5) 26 x26_5) 27 x27_5) 41 x41_11) 42 x42_11) (upF (upF f_0 30 y30_5) 31 y31_5) A0 H0 H locs := hw
        have rx41_11 : inR x41_11 := mRn_41 hw.1.2.2.1
        have rx42_11 : inR x42_11 := mRn_42 hw.1.2.2.1
        have hh11_ : zz11_ = -1 ∧ (x41_11) = (1 : Int) ∧ (x42_11) = (x25_5) := hq11_
        clear hq11_
        have hq_ := hh11_
        clear hh11_
        exact hret 115 zz11_ (upN (upN (upN (upN (upN (upN (upN n_0 24 x24_5) 25 x25_5) 26 x26_5) 27 x27_5) 37 (n_0 37)) 41 x41_11) 42 x42_11) (upF (upF (upF (upF f_0 30 y30_5) 31 y31_5) 32 (f_0 32)) 33 (f_0 33)) _ _ ls hw rr11_ ⟨x24_5, x25_5, x26_5, x27_5, (n_0 37), x41_11, x42_11, y30_5, y31_5, (f_0 32), (f_0 33), rfl, rfl, Or.inl ⟨by omega, Fr_rf, hj_, by omega, j_ + 1, by rw [hq_.2.2]; exact rn_.2.2.1, by omega, by rw [hq_.2.1]; exact mU_line1 (by have q0_ := rt_k hp6; omega) (by have q0_ := rt_k rn_; omega), by omega⟩⟩ dX10_readUnit_115
    · refine j_aload_n E 68 rfl dX10_readUnit_67 rfl (lv_at hl 1 rfl) ?_
      refine j_iload_n E 69 rfl dX10_readUnit_68 rfl (lv_at hl 3 rfl) ?_
      refine j_if_eq E 72 76 rfl r_ga dX10_readUnit_69 (by decide) (fun cc12_ => ?_) (fun cc12_ => ?_)
      · refine j_iconst E 77 rfl dX10_readUnit_76 ?_
        refine j_iload_n E 78 rfl dX10_readUnit_77 rfl (lv_at hl 3 rfl) ?_
        refine j_if_eq E 81 88 rfl r_ga dX10_readUnit_78 (by decide) (fun cc13_ => ?_) (fun cc13_ => ?_)
        · refine j_iload_n E 89 rfl dX10_readUnit_88 rfl (lv_at hl 0 rfl) ?_
          refine m_callv E (c_X10_emits l D cy q (n_0) (f_0) 0 (n_0 27)  (rr (by decide)) rr3_ (show 0 ≤ (n_0 29) ∧ (n_0 29) < 32 from by omega) (show 0 ≤ (n_0 37) ∧ (n_0 37) ≤ 399 from by omega)) rfl mt_X10_emits ml_X10_265 hK hw hA ⟨Nat.le_of_ble_eq_true rfl, Nat.le_of_ble_eq_true rfl⟩ (As := [.int (J 0), .int (J (n_0 27))]) (rest := []) rfl rfl hl.1 (Nat.le_of_ble_eq_true rfl) 92 rfl dX10_readUnit_89 (fun n_14 f_14 H locs hq14_ hw => ?_)
          obtain ⟨x37_14, y32_14, y33_14, en14_, ef14_, hq14_⟩ := hq14_
          rw [en14_, ef14_] at hw; clear en14_ ef14_
          have hw : WM D cy q (upN n_0 37 x37_14) (upF (upF f_0 32 y32_14) 33 y33_14) A0 H0 H locs := hw
          have rx37_14 : inR x37_14 := mRn_37 hw.1.2.2.1
          have hh14_ : (y32_14) = upA (f_0 32) (400 * (n_0 29) + (n_0 37)) (0 : Int) ∧ (y33_14) = upA (f_0 33) (400 * (n_0 29) + (n_0 37)) (n_0 27) ∧ (x37_14) = (n_0 37) + 1 := hq14_
          clear hq14_
          have hm_ : (x37_14) = n_0 37 + 1 := hh14_.2.2
          have hz_ : Pz_ (y32_14) (y33_14) (400 * n_0 29 + lo_) (400 * n_0 29 + (x37_14)) (el_ + 1) := by rw [hh14_.1, hh14_.2.1, show 400 * n_0 29 + (x37_14) = 400 * n_0 29 + n_0 37 + 1 by omega]; exact Pz_ext hp4 (by omega) (by omega) (by first | exact Or.inl ⟨by omega, by omega, by omega⟩ | exact Or.inr (Or.inl ⟨by omega, by omega, by omega⟩) | (exfalso; omega))
          have hf_ : Fr_ (f_0 32) (f_0 33) (y32_14) (y33_14) (400 * n_0 29 + n_0 37) := by rw [hh14_.1, hh14_.2.1]; exact Fr_up (by omega)
          have hc_ : cL_ (y32_14) (y33_14) (400 * n_0 29 + lo_) (400 * n_0 29 + (x37_14)) = cL_ (f_0 32) (f_0 33) (400 * n_0 29 + lo_) (400 * n_0 29 + n_0 37) ++ [cd_ (0 : Int) (n_0 27)] := by rw [hh14_.1, hh14_.2.1, show 400 * n_0 29 + (x37_14) = 400 * n_0 29 + n_0 37 + 1 by omega]; exact cL_ext (by omega)
          have ho_ : (y32_14 (400 * n_0 29 + n_0 37)) = (0 : Int) ∧ (y33_14 (400 * n_0 29 + n_0 37)) = (n_0 27) := by rw [hh14_.1, hh14_.2.1]; exact ⟨upA_same _ _ _, upA_same _ _ _⟩
          refine j_aload_n E 93 rfl dX10_readUnit_92 rfl (lv_at hl 1 rfl) ?_
          refine m_callv E (c_X10_next l D cy q (upN n_0 37 x37_14) (upF (upF f_0 32 y32_14) 33 y33_14)    (show 0 ≤ (n_0 29) ∧ (n_0 29) < 32 from by omega) (show 0 ≤ (n_0 23) ∧ (n_0 23) ≤ 400 from by omega) (show Wds_ (f_0 28) from hp2) (show 0 ≤ (n_0 24) ∧ (n_0 24) ≤ (n_0 23) from by omega) (show 0 ≤ (f_0 31 ((n_0 29))) ∧ (f_0 31 ((n_0 29))) ≤ (n_0 24) from by omega) (show Tap_ (f_0 22) from hp7)) rfl mt_X10_next ml_X10_269 hK hw hA ⟨Nat.le_of_ble_eq_true rfl, Nat.le_of_ble_eq_true rfl⟩ (As := []) (rest := []) rfl rfl hl.1 (Nat.le_of_ble_eq_true rfl) 96 rfl dX10_readUnit_93 (fun n_15 f_15 H locs hq15_ hw => ?_)
          obtain ⟨x24_15, x25_15, x26_15, x27_15, y30_15, y31_15, en15_, ef15_, hq15_⟩ := hq15_
          rw [en15_, ef15_] at hw; clear en15_ ef15_
          have hw : WM D cy q (upN (upN (upN (upN (upN n_0 24 x24_15) 25 x25_15) 26 x26_15) 27 x27_15) 37 x37_14) (upF (upF (upF (upF f_0 30 y30_15) 31 y31_15) 32 y32_14) 33 y33_14) A0 H0 H locs := hw
          have rx24_15 : inR x24_15 := mRn_24 hw.1.2.2.1
          have rx25_15 : inR x25_15 := mRn_25 hw.1.2.2.1
          have rx26_15 : inR x26_15 := mRn_26 hw.1.2.2.1
          have rx27_15 : inR x27_15 := mRn_27 hw.1.2.2.1
          have hh15_ : (0 ≤ (x25_15) ∧ (x25_15) ≤ (x24_15) ∧ (x24_15) ≤ (n_0 23)) ∧ (0 ≤ (y31_15 ((n_0 29))) ∧ (y31_15 ((n_0 29))) ≤ (x24_15)) ∧ (0 ≤ (x26_15) ∧ (x26_15) ≤ 4) ∧ (¬ (x26_15) = 0 → (x25_15) < (x24_15)) ∧ ((x26_15) = 3 → 0 ≤ (x27_15) ∧ (x27_15) ≤ 9999) ∧ (n_0 24) ≤ (x25_15) ∧ Kf_ (f_0 31) (f_0 30) (y31_15) (y30_15) (n_0 29) ∧ (((x26_15) ≤ 1 ∧ (y30_15) = (f_0 30) ∧ (y31_15) = (f_0 31)) ∨ (2 ≤ (x26_15) ∧ (y30_15) = upA (f_0 30) (400 * (n_0 29) + (f_0 31 ((n_0 29)))) (te_ (kd_ (x26_15) (x27_15)) (x27_15)) ∧ (y31_15) = upA (f_0 31) (n_0 29) ((f_0 31 ((n_0 29))) + 1))) ∧ Lx_ (f_0 22) (n_0 23) (n_0 24) (kd_ (x26_15) (x27_15)) (x27_15) (x25_15) (x24_15) ∧ Tv_ (x26_15) (x27_15) := hq15_
          clear hq15_
          have hk_ := hh15_.2.2.2.2.2.2.1
          have rn_ := rt_nx hp5 hp6 hh15_.2.2.2.2.2.2.2.2.1 rfl hh15_.2.2.2.2.2.2.2.2.2 hh15_.2.2.2.2.2.2.2.1
          refine j_iconst E 97 rfl dX10_readUnit_96 ?_
          exact hret 97 0 (upN (upN (upN (upN (upN (upN (upN n_0 24 x24_15) 25 x25_15) 26 x26_15) 27 x27_15) 37 x37_14) 41 (n_0 41)) 42 (n_0 42)) (upF (upF (upF (upF f_0 30 y30_15) 31 y31_15) 32 y32_14) 33 y33_14) _ _ ls hw (rr (by decide)) ⟨x24_15, x25_15, x26_15, x27_15, x37_14, (n_0 41), (n_0 42), y30_15, y31_15, y32_14, y33_14, rfl, rfl, Or.inr ⟨rfl, hf_, hk_, by omega, by omega, by omega, by omega, hz_, ⟨j_ + 1, by omega, rn_, fun _ => rfl, by first | exact mU_num (by have q0_ := rt_k hp6; omega) (by have q0_ := rt_k hp6; omega) hc_ | exact mU_fact (by have q0_ := rt_k hp6; omega) (by have q0_ := rt_k hp6; omega) hc_⟩, fun h3_ => ⟨by omega, by omega, by omega, by first | exact hc_ | (exfalso; omega)⟩⟩⟩ dX10_readUnit_97
        · refine j_iload_n E 82 rfl dX10_readUnit_81 rfl (lv_at hl 0 rfl) ?_
          refine j_bipush E 84 rfl dX10_readUnit_82 (by decide) ?_
          refine j_isub E 85 rfl dX10_readUnit_84 ?_
          refine j_goto E 89 dX10_readUnit_85 (by decide) ?_
          refine m_callv E (c_X10_emits l D cy q (n_0) (f_0) 0 ((n_0 27) - 6)  (rr (by decide)) (rr (by omega)) (show 0 ≤ (n_0 29) ∧ (n_0 29) < 32 from by omega) (show 0 ≤ (n_0 37) ∧ (n_0 37) ≤ 399 from by omega)) rfl mt_X10_emits ml_X10_265 hK hw hA ⟨Nat.le_of_ble_eq_true rfl, Nat.le_of_ble_eq_true rfl⟩ (As := [.int (J 0), .int (J ((n_0 27) - 6))]) (rest := []) rfl rfl hl.1 (Nat.le_of_ble_eq_true rfl) 92 rfl dX10_readUnit_89 (fun n_16 f_16 H locs hq16_ hw => ?_)
          obtain ⟨x37_16, y32_16, y33_16, en16_, ef16_, hq16_⟩ := hq16_
          rw [en16_, ef16_] at hw; clear en16_ ef16_
          have hw : WM D cy q (upN n_0 37 x37_16) (upF (upF f_0 32 y32_16) 33 y33_16) A0 H0 H locs := hw
          have rx37_16 : inR x37_16 := mRn_37 hw.1.2.2.1
          have hh16_ : (y32_16) = upA (f_0 32) (400 * (n_0 29) + (n_0 37)) (0 : Int) ∧ (y33_16) = upA (f_0 33) (400 * (n_0 29) + (n_0 37)) ((n_0 27) - 6) ∧ (x37_16) = (n_0 37) + 1 := hq16_
          clear hq16_
          have hm_ : (x37_16) = n_0 37 + 1 := hh16_.2.2
          have hz_ : Pz_ (y32_16) (y33_16) (400 * n_0 29 + lo_) (400 * n_0 29 + (x37_16)) (el_ + 1) := by rw [hh16_.1, hh16_.2.1, show 400 * n_0 29 + (x37_16) = 400 * n_0 29 + n_0 37 + 1 by omega]; exact Pz_ext hp4 (by omega) (by omega) (by first | exact Or.inl ⟨by omega, by omega, by omega⟩ | exact Or.inr (Or.inl ⟨by omega, by omega, by omega⟩) | (exfalso; omega))
          have hf_ : Fr_ (f_0 32) (f_0 33) (y32_16) (y33_16) (400 * n_0 29 + n_0 37) := by rw [hh16_.1, hh16_.2.1]; exact Fr_up (by omega)
          have hc_ : cL_ (y32_16) (y33_16) (400 * n_0 29 + lo_) (400 * n_0 29 + (x37_16)) = cL_ (f_0 32) (f_0 33) (400 * n_0 29 + lo_) (400 * n_0 29 + n_0 37) ++ [cd_ (0 : Int) ((n_0 27) - 6)] := by rw [hh16_.1, hh16_.2.1, show 400 * n_0 29 + (x37_16) = 400 * n_0 29 + n_0 37 + 1 by omega]; exact cL_ext (by omega)
          have ho_ : (y32_16 (400 * n_0 29 + n_0 37)) = (0 : Int) ∧ (y33_16 (400 * n_0 29 + n_0 37)) = ((n_0 27) - 6) := by rw [hh16_.1, hh16_.2.1]; exact ⟨upA_same _ _ _, upA_same _ _ _⟩
          refine j_aload_n E 93 rfl dX10_readUnit_92 rfl (lv_at hl 1 rfl) ?_
          refine m_callv E (c_X10_next l D cy q (upN n_0 37 x37_16) (upF (upF f_0 32 y32_16) 33 y33_16)    (show 0 ≤ (n_0 29) ∧ (n_0 29) < 32 from by omega) (show 0 ≤ (n_0 23) ∧ (n_0 23) ≤ 400 from by omega) (show Wds_ (f_0 28) from hp2) (show 0 ≤ (n_0 24) ∧ (n_0 24) ≤ (n_0 23) from by omega) (show 0 ≤ (f_0 31 ((n_0 29))) ∧ (f_0 31 ((n_0 29))) ≤ (n_0 24) from by omega) (show Tap_ (f_0 22) from hp7)) rfl mt_X10_next ml_X10_269 hK hw hA ⟨Nat.le_of_ble_eq_true rfl, Nat.le_of_ble_eq_true rfl⟩ (As := []) (rest := []) rfl rfl hl.1 (Nat.le_of_ble_eq_true rfl) 96 rfl dX10_readUnit_93 (fun n_17 f_17 H locs hq17_ hw => ?_)
          obtain ⟨x24_17, x25_17, x26_17, x27_17, y30_17, y31_17, en17_, ef17_, hq17_⟩ := hq17_
          rw [en17_, ef17_] at hw; clear en17_ ef17_
          have hw : WM D cy q (upN (upN (upN (upN (upN n_0 24 x24_17) 25 x25_17) 26 x26_17) 27 x27_17) 37 x37_16) (upF (upF (upF (upF f_0 30 y30_17) 31 y31_17) 32 y32_16) 33 y33_16) A0 H0 H locs := hw
          have rx24_17 : inR x24_17 := mRn_24 hw.1.2.2.1
          have rx25_17 : inR x25_17 := mRn_25 hw.1.2.2.1
          have rx26_17 : inR x26_17 := mRn_26 hw.1.2.2.1
          have rx27_17 : inR x27_17 := mRn_27 hw.1.2.2.1
          have hh17_ : (0 ≤ (x25_17) ∧ (x25_17) ≤ (x24_17) ∧ (x24_17) ≤ (n_0 23)) ∧ (0 ≤ (y31_17 ((n_0 29))) ∧ (y31_17 ((n_0 29))) ≤ (x24_17)) ∧ (0 ≤ (x26_17) ∧ (x26_17) ≤ 4) ∧ (¬ (x26_17) = 0 → (x25_17) < (x24_17)) ∧ ((x26_17) = 3 → 0 ≤ (x27_17) ∧ (x27_17) ≤ 9999) ∧ (n_0 24) ≤ (x25_17) ∧ Kf_ (f_0 31) (f_0 30) (y31_17) (y30_17) (n_0 29) ∧ (((x26_17) ≤ 1 ∧ (y30_17) = (f_0 30) ∧ (y31_17) = (f_0 31)) ∨ (2 ≤ (x26_17) ∧ (y30_17) = upA (f_0 30) (400 * (n_0 29) + (f_0 31 ((n_0 29)))) (te_ (kd_ (x26_17) (x27_17)) (x27_17)) ∧ (y31_17) = upA (f_0 31) (n_0 29) ((f_0 31 ((n_0 29))) + 1))) ∧ Lx_ (f_0 22) (n_0 23) (n_0 24) (kd_ (x26_17) (x27_17)) (x27_17) (x25_17) (x24_17) ∧ Tv_ (x26_17) (x27_17) := hq17_
          clear hq17_
          have hk_ := hh17_.2.2.2.2.2.2.1
          have rn_ := rt_nx hp5 hp6 hh17_.2.2.2.2.2.2.2.2.1 rfl hh17_.2.2.2.2.2.2.2.2.2 hh17_.2.2.2.2.2.2.2.1
          refine j_iconst E 97 rfl dX10_readUnit_96 ?_
          exact hret 97 0 (upN (upN (upN (upN (upN (upN (upN n_0 24 x24_17) 25 x25_17) 26 x26_17) 27 x27_17) 37 x37_16) 41 (n_0 41)) 42 (n_0 42)) (upF (upF (upF (upF f_0 30 y30_17) 31 y31_17) 32 y32_16) 33 y33_16) _ _ ls hw (rr (by decide)) ⟨x24_17, x25_17, x26_17, x27_17, x37_16, (n_0 41), (n_0 42), y30_17, y31_17, y32_16, y33_16, rfl, rfl, Or.inr ⟨rfl, hf_, hk_, by omega, by omega, by omega, by omega, hz_, ⟨j_ + 1, by omega, rn_, fun _ => rfl, by first | exact mU_num (by have q0_ := rt_k hp6; omega) (by have q0_ := rt_k hp6; omega) hc_ | exact mU_fact (by have q0_ := rt_k hp6; omega) (by have q0_ := rt_k hp6; omega) hc_⟩, fun h3_ => ⟨by omega, by omega, by omega, by first | exact hc_ | (exfalso; omega)⟩⟩⟩ dX10_readUnit_97
      · refine j_iconst E 73 rfl dX10_readUnit_72 ?_
        refine j_goto E 77 dX10_readUnit_73 (by decide) ?_
        refine j_iload_n E 78 rfl dX10_readUnit_77 rfl (lv_at hl 3 rfl) ?_
        refine j_if_eq E 81 88 rfl r_ga dX10_readUnit_78 (by decide) (fun cc18_ => ?_) (fun cc18_ => ?_)
        · refine j_iload_n E 89 rfl dX10_readUnit_88 rfl (lv_at hl 0 rfl) ?_
          refine m_callv E (c_X10_emits l D cy q (n_0) (f_0) 1 (n_0 27)  (rr (by decide)) rr3_ (show 0 ≤ (n_0 29) ∧ (n_0 29) < 32 from by omega) (show 0 ≤ (n_0 37) ∧ (n_0 37) ≤ 399 from by omega)) rfl mt_X10_emits ml_X10_265 hK hw hA ⟨Nat.le_of_ble_eq_true rfl, Nat.le_of_ble_eq_true rfl⟩ (As := [.int (J 1), .int (J (n_0 27))]) (rest := []) rfl rfl hl.1 (Nat.le_of_ble_eq_true rfl) 92 rfl dX10_readUnit_89 (fun n_19 f_19 H locs hq19_ hw => ?_)
          obtain ⟨x37_19, y32_19, y33_19, en19_, ef19_, hq19_⟩ := hq19_
          rw [en19_, ef19_] at hw; clear en19_ ef19_
          have hw : WM D cy q (upN n_0 37 x37_19) (upF (upF f_0 32 y32_19) 33 y33_19) A0 H0 H locs := hw
          have rx37_19 : inR x37_19 := mRn_37 hw.1.2.2.1
          have hh19_ : (y32_19) = upA (f_0 32) (400 * (n_0 29) + (n_0 37)) (1 : Int) ∧ (y33_19) = upA (f_0 33) (400 * (n_0 29) + (n_0 37)) (n_0 27) ∧ (x37_19) = (n_0 37) + 1 := hq19_
          clear hq19_
          have hm_ : (x37_19) = n_0 37 + 1 := hh19_.2.2
          have hz_ : Pz_ (y32_19) (y33_19) (400 * n_0 29 + lo_) (400 * n_0 29 + (x37_19)) (el_ + 1) := by rw [hh19_.1, hh19_.2.1, show 400 * n_0 29 + (x37_19) = 400 * n_0 29 + n_0 37 + 1 by omega]; exact Pz_ext hp4 (by omega) (by omega) (by first | exact Or.inl ⟨by omega, by omega, by omega⟩ | exact Or.inr (Or.inl ⟨by omega, by omega, by omega⟩) | (exfalso; omega))
          have hf_ : Fr_ (f_0 32) (f_0 33) (y32_19) (y33_19) (400 * n_0 29 + n_0 37) := by rw [hh19_.1, hh19_.2.1]; exact Fr_up (by omega)
          have hc_ : cL_ (y32_19) (y33_19) (400 * n_0 29 + lo_) (400 * n_0 29 + (x37_19)) = cL_ (f_0 32) (f_0 33) (400 * n_0 29 + lo_) (400 * n_0 29 + n_0 37) ++ [cd_ (1 : Int) (n_0 27)] := by rw [hh19_.1, hh19_.2.1, show 400 * n_0 29 + (x37_19) = 400 * n_0 29 + n_0 37 + 1 by omega]; exact cL_ext (by omega)
          have ho_ : (y32_19 (400 * n_0 29 + n_0 37)) = (1 : Int) ∧ (y33_19 (400 * n_0 29 + n_0 37)) = (n_0 27) := by rw [hh19_.1, hh19_.2.1]; exact ⟨upA_same _ _ _, upA_same _ _ _⟩
          refine j_aload_n E 93 rfl dX10_readUnit_92 rfl (lv_at hl 1 rfl) ?_
          refine m_callv E (c_X10_next l D cy q (upN n_0 37 x37_19) (upF (upF f_0 32 y32_19) 33 y33_19)    (show 0 ≤ (n_0 29) ∧ (n_0 29) < 32 from by omega) (show 0 ≤ (n_0 23) ∧ (n_0 23) ≤ 400 from by omega) (show Wds_ (f_0 28) from hp2) (show 0 ≤ (n_0 24) ∧ (n_0 24) ≤ (n_0 23) from by omega) (show 0 ≤ (f_0 31 ((n_0 29))) ∧ (f_0 31 ((n_0 29))) ≤ (n_0 24) from by omega) (show Tap_ (f_0 22) from hp7)) rfl mt_X10_next ml_X10_269 hK hw hA ⟨Nat.le_of_ble_eq_true rfl, Nat.le_of_ble_eq_true rfl⟩ (As := []) (rest := []) rfl rfl hl.1 (Nat.le_of_ble_eq_true rfl) 96 rfl dX10_readUnit_93 (fun n_20 f_20 H locs hq20_ hw => ?_)
          obtain ⟨x24_20, x25_20, x26_20, x27_20, y30_20, y31_20, en20_, ef20_, hq20_⟩ := hq20_
          rw [en20_, ef20_] at hw; clear en20_ ef20_
          have hw : WM D cy q (upN (upN (upN (upN (upN n_0 24 x24_20) 25 x25_20) 26 x26_20) 27 x27_20) 37 x37_19) (upF (upF (upF (upF f_0 30 y30_20) 31 y31_20) 32 y32_19) 33 y33_19) A0 H0 H locs := hw
          have rx24_20 : inR x24_20 := mRn_24 hw.1.2.2.1
          have rx25_20 : inR x25_20 := mRn_25 hw.1.2.2.1
          have rx26_20 : inR x26_20 := mRn_26 hw.1.2.2.1
          have rx27_20 : inR x27_20 := mRn_27 hw.1.2.2.1
          have hh20_ : (0 ≤ (x25_20) ∧ (x25_20) ≤ (x24_20) ∧ (x24_20) ≤ (n_0 23)) ∧ (0 ≤ (y31_20 ((n_0 29))) ∧ (y31_20 ((n_0 29))) ≤ (x24_20)) ∧ (0 ≤ (x26_20) ∧ (x26_20) ≤ 4) ∧ (¬ (x26_20) = 0 → (x25_20) < (x24_20)) ∧ ((x26_20) = 3 → 0 ≤ (x27_20) ∧ (x27_20) ≤ 9999) ∧ (n_0 24) ≤ (x25_20) ∧ Kf_ (f_0 31) (f_0 30) (y31_20) (y30_20) (n_0 29) ∧ (((x26_20) ≤ 1 ∧ (y30_20) = (f_0 30) ∧ (y31_20) = (f_0 31)) ∨ (2 ≤ (x26_20) ∧ (y30_20) = upA (f_0 30) (400 * (n_0 29) + (f_0 31 ((n_0 29)))) (te_ (kd_ (x26_20) (x27_20)) (x27_20)) ∧ (y31_20) = upA (f_0 31) (n_0 29) ((f_0 31 ((n_0 29))) + 1))) ∧ Lx_ (f_0 22) (n_0 23) (n_0 24) (kd_ (x26_20) (x27_20)) (x27_20) (x25_20) (x24_20) ∧ Tv_ (x26_20) (x27_20) := hq20_
          clear hq20_
          have hk_ := hh20_.2.2.2.2.2.2.1
          have rn_ := rt_nx hp5 hp6 hh20_.2.2.2.2.2.2.2.2.1 rfl hh20_.2.2.2.2.2.2.2.2.2 hh20_.2.2.2.2.2.2.2.1
          refine j_iconst E 97 rfl dX10_readUnit_96 ?_
          exact hret 97 0 (upN (upN (upN (upN (upN (upN (upN n_0 24 x24_20) 25 x25_20) 26 x26_20) 27 x27_20) 37 x37_19) 41 (n_0 41)) 42 (n_0 42)) (upF (upF (upF (upF f_0 30 y30_20) 31 y31_20) 32 y32_19) 33 y33_19) _ _ ls hw (rr (by decide)) ⟨x24_20, x25_20, x26_20, x27_20, x37_19, (n_0 41), (n_0 42), y30_20, y31_20, y32_19, y33_19, rfl, rfl, Or.inr ⟨rfl, hf_, hk_, by omega, by omega, by omega, by omega, hz_, ⟨j_ + 1, by omega, rn_, fun _ => rfl, by first | exact mU_num (by have q0_ := rt_k hp6; omega) (by have q0_ := rt_k hp6; omega) hc_ | exact mU_fact (by have q0_ := rt_k hp6; omega) (by have q0_ := rt_k hp6; omega) hc_⟩, fun h3_ => ⟨by omega, by omega, by omega, by first | exact hc_ | (exfalso; omega)⟩⟩⟩ dX10_readUnit_97
        · refine j_iload_n E 82 rfl dX10_readUnit_81 rfl (lv_at hl 0 rfl) ?_
          refine j_bipush E 84 rfl dX10_readUnit_82 (by decide) ?_
          refine j_isub E 85 rfl dX10_readUnit_84 ?_
          refine j_goto E 89 dX10_readUnit_85 (by decide) ?_
          refine m_callv E (c_X10_emits l D cy q (n_0) (f_0) 1 ((n_0 27) - 6)  (rr (by decide)) (rr (by omega)) (show 0 ≤ (n_0 29) ∧ (n_0 29) < 32 from by omega) (show 0 ≤ (n_0 37) ∧ (n_0 37) ≤ 399 from by omega)) rfl mt_X10_emits ml_X10_265 hK hw hA ⟨Nat.le_of_ble_eq_true rfl, Nat.le_of_ble_eq_true rfl⟩ (As := [.int (J 1), .int (J ((n_0 27) - 6))]) (rest := []) rfl rfl hl.1 (Nat.le_of_ble_eq_true rfl) 92 rfl dX10_readUnit_89 (fun n_21 f_21 H locs hq21_ hw => ?_)
          obtain ⟨x37_21, y32_21, y33_21, en21_, ef21_, hq21_⟩ := hq21_
          rw [en21_, ef21_] at hw; clear en21_ ef21_
          have hw : WM D cy q (upN n_0 37 x37_21) (upF (upF f_0 32 y32_21) 33 y33_21) A0 H0 H locs := hw
          have rx37_21 : inR x37_21 := mRn_37 hw.1.2.2.1
          have hh21_ : (y32_21) = upA (f_0 32) (400 * (n_0 29) + (n_0 37)) (1 : Int) ∧ (y33_21) = upA (f_0 33) (400 * (n_0 29) + (n_0 37)) ((n_0 27) - 6) ∧ (x37_21) = (n_0 37) + 1 := hq21_
          clear hq21_
          have hm_ : (x37_21) = n_0 37 + 1 := hh21_.2.2
          have hz_ : Pz_ (y32_21) (y33_21) (400 * n_0 29 + lo_) (400 * n_0 29 + (x37_21)) (el_ + 1) := by rw [hh21_.1, hh21_.2.1, show 400 * n_0 29 + (x37_21) = 400 * n_0 29 + n_0 37 + 1 by omega]; exact Pz_ext hp4 (by omega) (by omega) (by first | exact Or.inl ⟨by omega, by omega, by omega⟩ | exact Or.inr (Or.inl ⟨by omega, by omega, by omega⟩) | (exfalso; omega))
          have hf_ : Fr_ (f_0 32) (f_0 33) (y32_21) (y33_21) (400 * n_0 29 + n_0 37) := by rw [hh21_.1, hh21_.2.1]; exact Fr_up (by omega)
          have hc_ : cL_ (y32_21) (y33_21) (400 * n_0 29 + lo_) (400 * n_0 29 + (x37_21)) = cL_ (f_0 32) (f_0 33) (400 * n_0 29 + lo_) (400 * n_0 29 + n_0 37) ++ [cd_ (1 : Int) ((n_0 27) - 6)] := by rw [hh21_.1, hh21_.2.1, show 400 * n_0 29 + (x37_21) = 400 * n_0 29 + n_0 37 + 1 by omega]; exact cL_ext (by omega)
          have ho_ : (y32_21 (400 * n_0 29 + n_0 37)) = (1 : Int) ∧ (y33_21 (400 * n_0 29 + n_0 37)) = ((n_0 27) - 6) := by rw [hh21_.1, hh21_.2.1]; exact ⟨upA_same _ _ _, upA_same _ _ _⟩
          refine j_aload_n E 93 rfl dX10_readUnit_92 rfl (lv_at hl 1 rfl) ?_
          refine m_callv E (c_X10_next l D cy q (upN n_0 37 x37_21) (upF (upF f_0 32 y32_21) 33 y33_21)    (show 0 ≤ (n_0 29) ∧ (n_0 29) < 32 from by omega) (show 0 ≤ (n_0 23) ∧ (n_0 23) ≤ 400 from by omega) (show Wds_ (f_0 28) from hp2) (show 0 ≤ (n_0 24) ∧ (n_0 24) ≤ (n_0 23) from by omega) (show 0 ≤ (f_0 31 ((n_0 29))) ∧ (f_0 31 ((n_0 29))) ≤ (n_0 24) from by omega) (show Tap_ (f_0 22) from hp7)) rfl mt_X10_next ml_X10_269 hK hw hA ⟨Nat.le_of_ble_eq_true rfl, Nat.le_of_ble_eq_true rfl⟩ (As := []) (rest := []) rfl rfl hl.1 (Nat.le_of_ble_eq_true rfl) 96 rfl dX10_readUnit_93 (fun n_22 f_22 H locs hq22_ hw => ?_)
          obtain ⟨x24_22, x25_22, x26_22, x27_22, y30_22, y31_22, en22_, ef22_, hq22_⟩ := hq22_
          rw [en22_, ef22_] at hw; clear en22_ ef22_
          have hw : WM D cy q (upN (upN (upN (upN (upN n_0 24 x24_22) 25 x25_22) 26 x26_22) 27 x27_22) 37 x37_21) (upF (upF (upF (upF f_0 30 y30_22) 31 y31_22) 32 y32_21) 33 y33_21) A0 H0 H locs := hw
          have rx24_22 : inR x24_22 := mRn_24 hw.1.2.2.1
          have rx25_22 : inR x25_22 := mRn_25 hw.1.2.2.1
          have rx26_22 : inR x26_22 := mRn_26 hw.1.2.2.1
          have rx27_22 : inR x27_22 := mRn_27 hw.1.2.2.1
          have hh22_ : (0 ≤ (x25_22) ∧ (x25_22) ≤ (x24_22) ∧ (x24_22) ≤ (n_0 23)) ∧ (0 ≤ (y31_22 ((n_0 29))) ∧ (y31_22 ((n_0 29))) ≤ (x24_22)) ∧ (0 ≤ (x26_22) ∧ (x26_22) ≤ 4) ∧ (¬ (x26_22) = 0 → (x25_22) < (x24_22)) ∧ ((x26_22) = 3 → 0 ≤ (x27_22) ∧ (x27_22) ≤ 9999) ∧ (n_0 24) ≤ (x25_22) ∧ Kf_ (f_0 31) (f_0 30) (y31_22) (y30_22) (n_0 29) ∧ (((x26_22) ≤ 1 ∧ (y30_22) = (f_0 30) ∧ (y31_22) = (f_0 31)) ∨ (2 ≤ (x26_22) ∧ (y30_22) = upA (f_0 30) (400 * (n_0 29) + (f_0 31 ((n_0 29)))) (te_ (kd_ (x26_22) (x27_22)) (x27_22)) ∧ (y31_22) = upA (f_0 31) (n_0 29) ((f_0 31 ((n_0 29))) + 1))) ∧ Lx_ (f_0 22) (n_0 23) (n_0 24) (kd_ (x26_22) (x27_22)) (x27_22) (x25_22) (x24_22) ∧ Tv_ (x26_22) (x27_22) := hq22_
          clear hq22_
          have hk_ := hh22_.2.2.2.2.2.2.1
          have rn_ := rt_nx hp5 hp6 hh22_.2.2.2.2.2.2.2.2.1 rfl hh22_.2.2.2.2.2.2.2.2.2 hh22_.2.2.2.2.2.2.2.1
          refine j_iconst E 97 rfl dX10_readUnit_96 ?_
          exact hret 97 0 (upN (upN (upN (upN (upN (upN (upN n_0 24 x24_22) 25 x25_22) 26 x26_22) 27 x27_22) 37 x37_21) 41 (n_0 41)) 42 (n_0 42)) (upF (upF (upF (upF f_0 30 y30_22) 31 y31_22) 32 y32_21) 33 y33_21) _ _ ls hw (rr (by decide)) ⟨x24_22, x25_22, x26_22, x27_22, x37_21, (n_0 41), (n_0 42), y30_22, y31_22, y32_21, y33_21, rfl, rfl, Or.inr ⟨rfl, hf_, hk_, by omega, by omega, by omega, by omega, hz_, ⟨j_ + 1, by omega, rn_, fun _ => rfl, by first | exact mU_num (by have q0_ := rt_k hp6; omega) (by have q0_ := rt_k hp6; omega) hc_ | exact mU_fact (by have q0_ := rt_k hp6; omega) (by have q0_ := rt_k hp6; omega) hc_⟩, fun h3_ => ⟨by omega, by omega, by omega, by first | exact hc_ | (exfalso; omega)⟩⟩⟩ dX10_readUnit_97
  refine j_aload_n E 1 rfl dX10_readUnit_0 rfl (lv_at hl 0 rfl) ?_
  refine j_bipush E 3 rfl dX10_readUnit_1 (by decide) ?_
  refine m_callp (po := fun z_0 => (z_0 = 1 ∧ (n_0 26) = 2 ∧ (n_0 27) = (11 : Int)) ∨ (z_0 = 0 ∧ ¬ ((n_0 26) = 2 ∧ (n_0 27) = (11 : Int)))) E (c_X10_isWord l D cy q (n_0) (f_0) 11  (rr (by decide)) ) rfl mt_X10_isWord ml_X10_259 hK hw hA ⟨Nat.le_of_ble_eq_true rfl, Nat.le_of_ble_eq_true rfl⟩ (As := [.int (J 11)]) (rest := []) rfl rfl hl.1 (Nat.le_of_ble_eq_true rfl) 6 rfl dX10_readUnit_3 (fun zz23_ H locs rr23_ hq23_ hw => ?_)
  have hh23_ : (zz23_ = 1 ∧ (n_0 26) = 2 ∧ (n_0 27) = (11 : Int)) ∨ (zz23_ = 0 ∧ ¬ ((n_0 26) = 2 ∧ (n_0 27) = (11 : Int))) := hq23_
  clear hq23_
  refine j_istore_n E 7 rfl [(1, .int (J zz23_)), (0, .ref (q 0))] dX10_readUnit_6 rfl hl (by decide) rfl (fun ls hl => ?_)
  refine j_aload_n E 8 rfl dX10_readUnit_7 rfl (lv_at hl 1 rfl) ?_
  refine m_get_26 E hK hw (n_0 26) rfl 11 rfl dX10_readUnit_8 (fun rr24_ => ?_)
  refine j_iconst E 12 rfl dX10_readUnit_11 ?_
  refine j_icmp_ne E 15 34 rfl rr24_ (rr (by decide)) dX10_readUnit_12 (by decide) (fun cc25_ => ?_) (fun cc25_ => ?_)
  · refine j_iconst E 35 rfl dX10_readUnit_34 ?_
    refine j_istore_n E 36 rfl [(2, .int (J 0)), (1, .int (J zz23_)), (0, .ref (q 0))] dX10_readUnit_35 rfl hl (by decide) rfl (fun ls hl => ?_)
    refine j_iload_n E 37 rfl dX10_readUnit_36 rfl (lv_at hl 1 rfl) ?_
    refine j_if_ne E 40 58 rfl rr23_ dX10_readUnit_37 (by decide) (fun cc26_ => ?_) (fun cc26_ => ?_)
    · exact L58_1 zz23_ 0 H locs ls rr23_ (rr (by decide)) (by omega) hw (lv_sub hl [2, 1, 0] rfl)
    · refine j_iload_n E 41 rfl dX10_readUnit_40 rfl (lv_at hl 0 rfl) ?_
      refine j_if_ne E 44 58 rfl (rr (by decide)) dX10_readUnit_41 (by decide) (fun cc27_ => absurd cc27_ (by decide)) (fun _ => ?_)
      refine j_aload_n E 45 rfl dX10_readUnit_44 rfl (lv_at hl 2 rfl) ?_
      refine m_get_26 E hK hw (n_0 26) rfl 48 rfl dX10_readUnit_45 (fun _ => ?_)
      refine j_iconst E 49 rfl dX10_readUnit_48 ?_
      refine j_icmp_eq E 52 58 rfl rr24_ (rr (by decide)) dX10_readUnit_49 (by decide) (fun cc28_ => ?_) (fun cc28_ => ?_)
      · exact L58_1 zz23_ 0 H locs ls rr23_ (rr (by decide)) (by omega) hw (lv_sub hl [2, 1, 0] rfl)
      · refine j_aload_n E 53 rfl dX10_readUnit_52 rfl (lv_at hl 2 rfl) ?_
        refine j_iconst E 54 rfl dX10_readUnit_53 ?_
        refine m_calli E (c_X10_fails l D cy q (n_0) (f_0) 1  (rr (by decide)) ) rfl mt_X10_fails ml_X10_262 hK hw hA ⟨Nat.le_of_ble_eq_true rfl, Nat.le_of_ble_eq_true rfl⟩ (As := [.int (J 1)]) (rest := []) rfl rfl hl.1 (Nat.le_of_ble_eq_true rfl) 57 rfl dX10_readUnit_54 (fun zz29_ n_29 f_29 H locs rr29_ hq29_ hw => ?_)
        obtain ⟨x41_29, x42_29, en29_, ef29_, hq29_⟩ := hq29_
        rw [en29_, ef29_] at hw; clear en29_ ef29_
        have hw : WM D cy q (upN (upN n_0 41 x41_29) 42 x42_29) (f_0) A0 H0 H locs := hw
        have rx41_29 : inR x41_29 := mRn_41 hw.1.2.2.1
        have rx42_29 : inR x42_29 := mRn_42 hw.1.2.2.1
        have hh29_ : zz29_ = -1 ∧ (x41_29) = (1 : Int) ∧ (x42_29) = (n_0 25) := hq29_
        clear hq29_
        have hq_ := hh29_
        clear hh29_
        exact hret 57 zz29_ (upN (upN (upN (upN (upN (upN (upN n_0 24 (n_0 24)) 25 (n_0 25)) 26 (n_0 26)) 27 (n_0 27)) 37 (n_0 37)) 41 x41_29) 42 x42_29) (upF (upF (upF (upF f_0 30 (f_0 30)) 31 (f_0 31)) 32 (f_0 32)) 33 (f_0 33)) _ _ ls hw rr29_ ⟨(n_0 24), (n_0 25), (n_0 26), (n_0 27), (n_0 37), x41_29, x42_29, (f_0 30), (f_0 31), (f_0 32), (f_0 33), rfl, rfl, Or.inl ⟨by omega, Fr_rf, Kf_rf, by omega, j_, by rw [hq_.2.2]; exact hp6.2.2.1, by omega, by rw [hq_.2.1]; exact mU_bad (by have q0_ := rt_k hp6; omega) (by have q0_ := rt_k hp6; omega) (by have q0_ := rt_k hp6; omega), by omega⟩⟩ dX10_readUnit_57
  · refine j_aload_n E 16 rfl dX10_readUnit_15 rfl (lv_at hl 1 rfl) ?_
    refine j_aload_n E 17 rfl dX10_readUnit_16 rfl (lv_at hl 1 rfl) ?_
    refine m_get_27 E hK hw (n_0 27) rfl 20 rfl dX10_readUnit_17 (fun rr30_ => ?_)
    refine j_bipush E 22 rfl dX10_readUnit_20 (by decide) ?_
    refine j_bipush E 24 rfl dX10_readUnit_22 (by decide) ?_
    refine m_callp (po := fun z_0 => (z_0 = 1 ∧ (6 : Int) ≤ (n_0 27) ∧ (n_0 27) ≤ (10 : Int)) ∨ (z_0 = 0 ∧ ((n_0 27) < (6 : Int) ∨ (10 : Int) < (n_0 27)))) E (c_X10_isIn l D cy q (n_0) (f_0) (n_0 27) 6 10  rr30_ (rr (by decide)) (rr (by decide)) ) rfl mt_X10_isIn ml_X10_169 hK hw hA ⟨Nat.le_of_ble_eq_true rfl, Nat.le_of_ble_eq_true rfl⟩ (As := [.int (J (n_0 27)), .int (J 6), .int (J 10)]) (rest := []) rfl rfl hl.1 (Nat.le_of_ble_eq_true rfl) 27 rfl dX10_readUnit_24 (fun zz31_ H locs rr31_ hq31_ hw => ?_)
    have hh31_ : (zz31_ = 1 ∧ (6 : Int) ≤ (n_0 27) ∧ (n_0 27) ≤ (10 : Int)) ∨ (zz31_ = 0 ∧ ((n_0 27) < (6 : Int) ∨ (10 : Int) < (n_0 27))) := hq31_
    clear hq31_
    rcases hh31_ with ⟨ee31_, hh31_⟩ | ⟨ee31_, hh31_⟩
    · subst ee31_
      refine j_if_eq E 30 34 rfl (rr (by decide)) dX10_readUnit_27 (by decide) (fun cc32_ => absurd cc32_ (by decide)) (fun _ => ?_)
      refine j_iconst E 31 rfl dX10_readUnit_30 ?_
      refine j_goto E 35 dX10_readUnit_31 (by decide) ?_
      refine j_istore_n E 36 rfl [(2, .int (J 1)), (1, .int (J zz23_)), (0, .ref (q 0))] dX10_readUnit_35 rfl hl (by decide) rfl (fun ls hl => ?_)
      refine j_iload_n E 37 rfl dX10_readUnit_36 rfl (lv_at hl 1 rfl) ?_
      refine j_if_ne E 40 58 rfl rr23_ dX10_readUnit_37 (by decide) (fun cc33_ => ?_) (fun cc33_ => ?_)
      · exact L58_1 zz23_ 1 H locs ls rr23_ (rr (by decide)) (by omega) hw (lv_sub hl [2, 1, 0] rfl)
      · refine j_iload_n E 41 rfl dX10_readUnit_40 rfl (lv_at hl 0 rfl) ?_
        refine j_if_ne E 44 58 rfl (rr (by decide)) dX10_readUnit_41 (by decide) (fun _ => ?_) (fun cc34_ => absurd cc34_ (by decide))
        exact L58_1 zz23_ 1 H locs ls rr23_ (rr (by decide)) (by omega) hw (lv_sub hl [2, 1, 0] rfl)
    · subst ee31_
      refine j_if_eq E 30 34 rfl (rr (by decide)) dX10_readUnit_27 (by decide) (fun _ => ?_) (fun cc35_ => absurd cc35_ (by decide))
      refine j_iconst E 35 rfl dX10_readUnit_34 ?_
      refine j_istore_n E 36 rfl [(2, .int (J 0)), (1, .int (J zz23_)), (0, .ref (q 0))] dX10_readUnit_35 rfl hl (by decide) rfl (fun ls hl => ?_)
      refine j_iload_n E 37 rfl dX10_readUnit_36 rfl (lv_at hl 1 rfl) ?_
      refine j_if_ne E 40 58 rfl rr23_ dX10_readUnit_37 (by decide) (fun cc36_ => ?_) (fun cc36_ => ?_)
      · exact L58_1 zz23_ 0 H locs ls rr23_ (rr (by decide)) (by omega) hw (lv_sub hl [2, 1, 0] rfl)
      · refine j_iload_n E 41 rfl dX10_readUnit_40 rfl (lv_at hl 0 rfl) ?_
        refine j_if_ne E 44 58 rfl (rr (by decide)) dX10_readUnit_41 (by decide) (fun cc37_ => absurd cc37_ (by decide)) (fun _ => ?_)
        refine j_aload_n E 45 rfl dX10_readUnit_44 rfl (lv_at hl 2 rfl) ?_
        refine m_get_26 E hK hw (n_0 26) rfl 48 rfl dX10_readUnit_45 (fun _ => ?_)
        refine j_iconst E 49 rfl dX10_readUnit_48 ?_
        refine j_icmp_eq E 52 58 rfl rr24_ (rr (by decide)) dX10_readUnit_49 (by decide) (fun cc38_ => ?_) (fun cc38_ => ?_)
        · exact L58_1 zz23_ 0 H locs ls rr23_ (rr (by decide)) (by omega) hw (lv_sub hl [2, 1, 0] rfl)
        · refine j_aload_n E 53 rfl dX10_readUnit_52 rfl (lv_at hl 2 rfl) ?_
          refine j_iconst E 54 rfl dX10_readUnit_53 ?_
          refine m_calli E (c_X10_fails l D cy q (n_0) (f_0) 1  (rr (by decide)) ) rfl mt_X10_fails ml_X10_262 hK hw hA ⟨Nat.le_of_ble_eq_true rfl, Nat.le_of_ble_eq_true rfl⟩ (As := [.int (J 1)]) (rest := []) rfl rfl hl.1 (Nat.le_of_ble_eq_true rfl) 57 rfl dX10_readUnit_54 (fun zz39_ n_39 f_39 H locs rr39_ hq39_ hw => ?_)
          obtain ⟨x41_39, x42_39, en39_, ef39_, hq39_⟩ := hq39_
          rw [en39_, ef39_] at hw; clear en39_ ef39_
          have hw : WM D cy q (upN (upN n_0 41 x41_39) 42 x42_39) (f_0) A0 H0 H locs := hw
          have rx41_39 : inR x41_39 := mRn_41 hw.1.2.2.1
          have rx42_39 : inR x42_39 := mRn_42 hw.1.2.2.1
          have hh39_ : zz39_ = -1 ∧ (x41_39) = (1 : Int) ∧ (x42_39) = (n_0 25) := hq39_
          clear hq39_
          have hq_ := hh39_
          clear hh39_
          exact hret 57 zz39_ (upN (upN (upN (upN (upN (upN (upN n_0 24 (n_0 24)) 25 (n_0 25)) 26 (n_0 26)) 27 (n_0 27)) 37 (n_0 37)) 41 x41_39) 42 x42_39) (upF (upF (upF (upF f_0 30 (f_0 30)) 31 (f_0 31)) 32 (f_0 32)) 33 (f_0 33)) _ _ ls hw rr39_ ⟨(n_0 24), (n_0 25), (n_0 26), (n_0 27), (n_0 37), x41_39, x42_39, (f_0 30), (f_0 31), (f_0 32), (f_0 33), rfl, rfl, Or.inl ⟨by omega, Fr_rf, Kf_rf, by omega, j_, by rw [hq_.2.2]; exact hp6.2.2.1, by omega, by rw [hq_.2.1]; exact mU_bad (by have q0_ := rt_k hp6; omega) (by have q0_ := rt_k hp6; omega) (by have q0_ := rt_k hp6; omega), by omega⟩⟩ dX10_readUnit_57
set_option maxHeartbeats 4000000 in
set_option maxRecDepth 100000 in
theorem c_X10_readProduct (l : Launch) (D : va_G) (cy : Nat → ClassId) (q : Nat → Nat) (n_0 : Nat → Int) (f_0 : Nat → Int → Int) (dl_ : Int) (lo_ : Int) (el_ : Int) (K_ : Int → Int) (V_ : Int → Int) (P_ : Int → Int) (Q_ : Int → Int) (j_ : Int) (hp0 : 0 ≤ (n_0 29) ∧ (n_0 29) < 32) (hp1 : 0 ≤ (n_0 23) ∧ (n_0 23) ≤ 400) (hp2 : Wds_ (f_0 28)) (hp3 : 0 ≤ dl_ ∧ (0 ≤ (n_0 25) ∧ (n_0 25) ≤ (n_0 24) ∧ (n_0 24) ≤ (n_0 23)) ∧ (0 ≤ (f_0 31 ((n_0 29))) ∧ (f_0 31 ((n_0 29))) ≤ (n_0 24)) ∧ (0 ≤ (n_0 26) ∧ (n_0 26) ≤ 4) ∧ (¬ (n_0 26) = 0 → (n_0 25) < (n_0 24)) ∧ ((n_0 26) = 3 → 0 ≤ (n_0 27) ∧ (n_0 27) ≤ 9999) ∧ (0 ≤ lo_ ∧ lo_ ≤ (n_0 37)) ∧ (n_0 37) + dl_ ≤ (n_0 25)) (hp4 : Pz_ (f_0 32) (f_0 33) (400 * (n_0 29) + lo_) (400 * (n_0 29) + (n_0 37)) el_) (hp5 : Strm_ (f_0 22) (n_0 23) K_ V_ P_ Q_) (hp6 : Rt_ K_ V_ P_ Q_ (n_0 24) (n_0 25) (n_0 26) (n_0 27) (tkw_ (f_0 30) (f_0 31) (n_0 29)) j_) (hp7 : Tap_ (f_0 22)) : MC l D cy q yX10_readProduct cX10_readProduct 2 (some .int) 4 [] n_0 f_0 (PI (fun (z_0 : Int) (n_2 : Nat → Int) (f_2 : Nat → Int → Int) => ∃ (x24_2 : Int) (x25_2 : Int) (x26_2 : Int) (x27_2 : Int) (x37_2 : Int) (x41_2 : Int) (x42_2 : Int) (y30_2 : Int → Int) (y31_2 : Int → Int) (y32_2 : Int → Int) (y33_2 : Int → Int) , n_2 = upN (upN (upN (upN (upN (upN (upN n_0 24 x24_2) 25 x25_2) 26 x26_2) 27 x27_2) 37 x37_2) 41 x41_2) 42 x42_2 ∧ f_2 = upF (upF (upF (upF f_0 30 y30_2) 31 y31_2) 32 y32_2) 33 y33_2 ∧ ((z_0 = -1 ∧ Fr_ (f_0 32) (f_0 33) (y32_2) (y33_2) (400 * (n_0 29) + (n_0 37)) ∧ Kf_ (f_0 31) (f_0 30) (y31_2) (y30_2) (n_0 29) ∧ (0 ≤ (y31_2 ((n_0 29))) ∧ (y31_2 ((n_0 29))) ≤ 400) ∧ (∃ jn_ : Int, (x42_2) = P_ jn_ ∧ (1 ≤ (x41_2) ∧ (x41_2) ≤ 3) ∧ Mh_ S2_ K_ V_ j_ (x41_2) jn_ (cL_ (f_0 32) (f_0 33) (400 * (n_0 29) + lo_) (400 * (n_0 29) + (n_0 37))))) ∨ (z_0 = 0 ∧ Fr_ (f_0 32) (f_0 33) (y32_2) (y33_2) (400 * (n_0 29) + (n_0 37)) ∧ Kf_ (f_0 31) (f_0 30) (y31_2) (y30_2) (n_0 29) ∧ (0 ≤ (y31_2 ((n_0 29))) ∧ (y31_2 ((n_0 29))) ≤ 400) ∧ ((0 ≤ (x25_2) ∧ (x25_2) ≤ (x24_2) ∧ (x24_2) ≤ (n_0 23)) ∧ (0 ≤ (y31_2 ((n_0 29))) ∧ (y31_2 ((n_0 29))) ≤ (x24_2)) ∧ (0 ≤ (x26_2) ∧ (x26_2) ≤ 4) ∧ (¬ (x26_2) = 0 → (x25_2) < (x24_2)) ∧ ((x26_2) = 3 → 0 ≤ (x27_2) ∧ (x27_2) ≤ 9999) ∧ (0 ≤ lo_ ∧ lo_ ≤ (x37_2)) ∧ (x37_2) + dl_ ≤ (x25_2)) ∧ (n_0 25) < (x25_2) ∧ (n_0 37) ≤ (x37_2) ∧ Pz_ (y32_2) (y33_2) (400 * (n_0 29) + lo_) (400 * (n_0 29) + (x37_2)) (el_ + 1) ∧ (∃ jn_ : Int, j_ < jn_ ∧ Rt_ K_ V_ P_ Q_ (x24_2) (x25_2) (x26_2) (x27_2) (tkw_ (y30_2) (y31_2) (n_0 29)) jn_ ∧ N2_ K_ jn_ ∧ Mg_ S2_ K_ V_ j_ jn_ (cL_ (f_0 32) (f_0 33) (400 * (n_0 29) + lo_) (400 * (n_0 29) + (n_0 37))) (cL_ (y32_2) (y33_2) (400 * (n_0 29) + lo_) (400 * (n_0 29) + (x37_2)))))))) := by
  refine MC.ofi rfl (Nat.le_of_ble_eq_true rfl) ?_
  intro p e s m below meth c ls ar QW A0 H0 H locs E hK hA hw hl hret
  have hl : lv_has ls 2 [(0, .ref (q 0))] := hl
  have hb_ : 0 ≤ el_ ∧ el_ ≤ 400 * n_0 29 + n_0 37 - (400 * n_0 29 + lo_) := hp4.2
  have j0_ := hp6.1
  refine j_aload_n E 1 rfl dX10_readProduct_0 rfl (lv_at hl 0 rfl) ?_
  refine m_calli E (c_X10_readUnit l D cy q (n_0) (f_0)  dl_ lo_ el_ K_ V_ P_ Q_ j_  (show 0 ≤ (n_0 29) ∧ (n_0 29) < 32 from by omega) (show 0 ≤ (n_0 23) ∧ (n_0 23) ≤ 400 from by omega) (show Wds_ (f_0 28) from hp2) (show 0 ≤ dl_ ∧ (0 ≤ (n_0 25) ∧ (n_0 25) ≤ (n_0 24) ∧ (n_0 24) ≤ (n_0 23)) ∧ (0 ≤ (f_0 31 ((n_0 29))) ∧ (f_0 31 ((n_0 29))) ≤ (n_0 24)) ∧ (0 ≤ (n_0 26) ∧ (n_0 26) ≤ 4) ∧ (¬ (n_0 26) = 0 → (n_0 25) < (n_0 24)) ∧ ((n_0 26) = 3 → 0 ≤ (n_0 27) ∧ (n_0 27) ≤ 9999) ∧ (0 ≤ lo_ ∧ lo_ ≤ (n_0 37)) ∧ (n_0 37) + dl_ ≤ (n_0 25) from by omega) (show Pz_ (f_0 32) (f_0 33) (400 * (n_0 29) + lo_) (400 * (n_0 29) + (n_0 37)) el_ from hp4) (show Strm_ (f_0 22) (n_0 23) K_ V_ P_ Q_ from hp5) (show Rt_ K_ V_ P_ Q_ (n_0 24) (n_0 25) (n_0 26) (n_0 27) (tkw_ (f_0 30) (f_0 31) (n_0 29)) j_ from hp6) (show Tap_ (f_0 22) from hp7)) rfl mt_X10_readUnit ml_X10_272 hK hw hA ⟨Nat.le_of_ble_eq_true rfl, Nat.le_of_ble_eq_true rfl⟩ (As := []) (rest := []) rfl rfl hl.1 (Nat.le_of_ble_eq_true rfl) 4 rfl dX10_readProduct_1 (fun zz1_ n_1 f_1 H locs rr1_ hq1_ hw => ?_)
  obtain ⟨x24_1, x25_1, x26_1, x27_1, x37_1, x41_1, x42_1, y30_1, y31_1, y32_1, y33_1, en1_, ef1_, hq1_⟩ := hq1_
  rw [en1_, ef1_] at hw; clear en1_ ef1_
  have hw : WM D cy q (upN (upN (upN (upN (upN (upN (upN n_0 24 x24_1) 25 x25_1) 26 x26_1) 27 x27_1) 37 x37_1) 41 x41_1) 42 x42_1) (upF (upF (upF (upF f_0 30 y30_1) 31 y31_1) 32 y32_1) 33 y33_1) A0 H0 H locs := hw
  have rx24_1 : inR x24_1 := mRn_24 hw.1.2.2.1
  have rx25_1 : inR x25_1 := mRn_25 hw.1.2.2.1
  have rx26_1 : inR x26_1 := mRn_26 hw.1.2.2.1
  have rx27_1 : inR x27_1 := mRn_27 hw.1.2.2.1
  have rx37_1 : inR x37_1 := mRn_37 hw.1.2.2.1
  have rx41_1 : inR x41_1 := mRn_41 hw.1.2.2.1
  have rx42_1 : inR x42_1 := mRn_42 hw.1.2.2.1
  have hh1_ : (zz1_ = -1 ∧ Fr_ (f_0 32) (f_0 33) (y32_1) (y33_1) (400 * (n_0 29) + (n_0 37)) ∧ Kf_ (f_0 31) (f_0 30) (y31_1) (y30_1) (n_0 29) ∧ (0 ≤ (y31_1 ((n_0 29))) ∧ (y31_1 ((n_0 29))) ≤ 400) ∧ (∃ jn_ : Int, (x42_1) = P_ jn_ ∧ (1 ≤ (x41_1) ∧ (x41_1) ≤ 3) ∧ Mh_ T1_ K_ V_ j_ (x41_1) jn_ (cL_ (f_0 32) (f_0 33) (400 * (n_0 29) + lo_) (400 * (n_0 29) + (n_0 37))) ∧ ¬ (n_0 26) = 3)) ∨ (zz1_ = 0 ∧ Fr_ (f_0 32) (f_0 33) (y32_1) (y33_1) (400 * (n_0 29) + (n_0 37)) ∧ Kf_ (f_0 31) (f_0 30) (y31_1) (y30_1) (n_0 29) ∧ (0 ≤ (y31_1 ((n_0 29))) ∧ (y31_1 ((n_0 29))) ≤ 400) ∧ ((0 ≤ (x25_1) ∧ (x25_1) ≤ (x24_1) ∧ (x24_1) ≤ (n_0 23)) ∧ (0 ≤ (y31_1 ((n_0 29))) ∧ (y31_1 ((n_0 29))) ≤ (x24_1)) ∧ (0 ≤ (x26_1) ∧ (x26_1) ≤ 4) ∧ (¬ (x26_1) = 0 → (x25_1) < (x24_1)) ∧ ((x26_1) = 3 → 0 ≤ (x27_1) ∧ (x27_1) ≤ 9999) ∧ (0 ≤ lo_ ∧ lo_ ≤ (x37_1)) ∧ (x37_1) + dl_ ≤ (x25_1)) ∧ (n_0 25) < (x25_1) ∧ (n_0 37) ≤ (x37_1) ∧ Pz_ (y32_1) (y33_1) (400 * (n_0 29) + lo_) (400 * (n_0 29) + (x37_1)) (el_ + 1) ∧ (∃ jn_ : Int, j_ < jn_ ∧ Rt_ K_ V_ P_ Q_ (x24_1) (x25_1) (x26_1) (x27_1) (tkw_ (y30_1) (y31_1) (n_0 29)) jn_ ∧ ((n_0 26) = 3 → jn_ = j_ + 1) ∧ Mg_ T1_ K_ V_ j_ jn_ (cL_ (f_0 32) (f_0 33) (400 * (n_0 29) + lo_) (400 * (n_0 29) + (n_0 37))) (cL_ (y32_1) (y33_1) (400 * (n_0 29) + lo_) (400 * (n_0 29) + (x37_1)))) ∧ ((n_0 26) = 3 → (x37_1) = (n_0 37) + 1 ∧ (y32_1 (400 * (n_0 29) + (n_0 37))) = 0 ∧ (y33_1 (400 * (n_0 29) + (n_0 37))) = (n_0 27) ∧ (cL_ (y32_1) (y33_1) (400 * (n_0 29) + lo_) (400 * (n_0 29) + (x37_1))) = (cL_ (f_0 32) (f_0 33) (400 * (n_0 29) + lo_) (400 * (n_0 29) + (n_0 37))) ++ [cd_ 0 (n_0 27)])) := hq1_
  clear hq1_
  rcases hh1_ with ⟨ee1_, hh1_⟩ | ⟨ee1_, hh1_⟩
  · subst ee1_
    have hx_ := hh1_
    obtain ⟨jn_, fa_, fb_, fc_⟩ := hx_.2.2.2
    clear hh1_
    refine j_iconst E 5 rfl dX10_readProduct_4 ?_
    refine j_icmp_ne E 8 10 rfl (rr (by decide)) (rr (by decide)) dX10_readProduct_5 (by decide) (fun cc2_ => absurd cc2_ (by decide)) (fun _ => ?_)
    refine j_iconst E 9 rfl dX10_readProduct_8 ?_
    exact hret 9 ((-1)) (upN (upN (upN (upN (upN (upN (upN n_0 24 x24_1) 25 x25_1) 26 x26_1) 27 x27_1) 37 x37_1) 41 x41_1) 42 x42_1) (upF (upF (upF (upF f_0 30 y30_1) 31 y31_1) 32 y32_1) 33 y33_1) _ _ ls hw (rr (by decide)) ⟨x24_1, x25_1, x26_1, x27_1, x37_1, x41_1, x42_1, y30_1, y31_1, y32_1, y33_1, rfl, rfl, Or.inl ⟨rfl, hx_.1, hx_.2.1, hx_.2.2.1, jn_, fa_, fb_, mPf_of fc_.1⟩⟩ dX10_readProduct_9
  · subst ee1_
    have h0_ := hh1_
    clear hh1_
    obtain ⟨jn_, ja_, jb_, jc_⟩ := h0_.2.2.2.2.2.2.2.1
    have mg0_ : ∃ jj_ : Int, j_ < jj_ ∧ Rt_ K_ V_ P_ Q_ (x24_1) (x25_1) (x26_1) (x27_1) (tkw_ (y30_1) (y31_1) (n_0 29)) jj_ ∧ Mg_ S2_ K_ V_ j_ jj_ (cL_ (f_0 32) (f_0 33) (400 * n_0 29 + lo_) (400 * n_0 29 + n_0 37)) (cL_ (y32_1) (y33_1) (400 * n_0 29 + lo_) (400 * n_0 29 + (x37_1))) := ⟨jn_, ja_, jb_, mP_of jc_.2⟩
    refine j_iconst E 5 rfl dX10_readProduct_4 ?_
    refine j_icmp_ne E 8 10 rfl (rr (by decide)) (rr (by decide)) dX10_readProduct_5 (by decide) (fun _ => ?_) (fun cc3_ => absurd cc3_ (by decide))
    have L10_4 : ∀ (k10 : Nat) (x24_c10 : Int) (x25_c10 : Int) (x26_c10 : Int) (x27_c10 : Int) (x37_c10 : Int) (x41_c10 : Int) (x42_c10 : Int) (y30_c10 : Int → Int) (y31_c10 : Int → Int) (y32_c10 : Int → Int) (y33_c10 : Int → Int) (H : Heap) (locs : List Loc) (ls : Array Slot), (((0 ≤ (x25_c10) ∧ (x25_c10) ≤ (x24_c10) ∧ (x24_c10) ≤ (n_0 23)) ∧ (0 ≤ (y31_c10 ((n_0 29))) ∧ (y31_c10 ((n_0 29))) ≤ (x24_c10)) ∧ (0 ≤ (x26_c10) ∧ (x26_c10) ≤ 4) ∧ (¬ (x26_c10) = 0 → (x25_c10) < (x24_c10)) ∧ ((x26_c10) = 3 → 0 ≤ (x27_c10) ∧ (x27_c10) ≤ 9999) ∧ (0 ≤ lo_ ∧ lo_ ≤ (x37_c10)) ∧ (x37_c10) + dl_ ≤ (x25_c10)) ∧ (n_0 25 < (x25_c10) ∧ n_0 37 ≤ (x37_c10)) ∧ Pz_ (y32_c10) (y33_c10) (400 * (n_0 29) + lo_) (400 * (n_0 29) + (x37_c10)) (el_ + 1) ∧ Fr_ (f_0 32) (f_0 33) (y32_c10) (y33_c10) (400 * n_0 29 + n_0 37) ∧ Kf_ (f_0 31) (f_0 30) (y31_c10) (y30_c10) (n_0 29) ∧ (∃ jj_ : Int, j_ < jj_ ∧ Rt_ K_ V_ P_ Q_ (x24_c10) (x25_c10) (x26_c10) (x27_c10) (tkw_ (y30_c10) (y31_c10) (n_0 29)) jj_ ∧ Mg_ S2_ K_ V_ j_ jj_ (cL_ (f_0 32) (f_0 33) (400 * n_0 29 + lo_) (400 * n_0 29 + n_0 37)) (cL_ (y32_c10) (y33_c10) (400 * n_0 29 + lo_) (400 * n_0 29 + (x37_c10))))) → ((n_0 23) + 1 - (x25_c10)) < (k10 : Int) → WM D cy q (upN (upN (upN (upN (upN (upN (upN n_0 24 x24_c10) 25 x25_c10) 26 x26_c10) 27 x27_c10) 37 x37_c10) 41 x41_c10) 42 x42_c10) (upF (upF (upF (upF f_0 30 y30_c10) 31 y31_c10) 32 y32_c10) 33 y33_c10) A0 H0 H locs → lv_has ls 2 [(0, .ref (q 0))] → W p l e (rmd 4 0 0) s m ar below meth c H locs 0 0 QW (F0 m 10 ls []) := by
      intro k10
      induction k10 with
      | zero =>
        intro x24_c10 x25_c10 x26_c10 x27_c10 x37_c10 x41_c10 x42_c10 y30_c10 y31_c10 y32_c10 y33_c10 H locs ls iv10 ms10 hw hl
        exfalso; obtain ⟨ia_, ib_, ic_, id_, ie_, jj_, jl_, jr_, jm_⟩ := iv10; omega
      | succ k10 ih10 =>
        intro x24_c10 x25_c10 x26_c10 x27_c10 x37_c10 x41_c10 x42_c10 y30_c10 y31_c10 y32_c10 y33_c10 H locs ls iv10 ms10 hw hl
        obtain ⟨ia_, ib_, ic_, id_, ie_, jj_, jl_, jr_, jm_⟩ := iv10
        have rx24_c10 : inR x24_c10 := mRn_24 hw.1.2.2.1
        have rx25_c10 : inR x25_c10 := mRn_25 hw.1.2.2.1
        have rx26_c10 : inR x26_c10 := mRn_26 hw.1.2.2.1
        have rx27_c10 : inR x27_c10 := mRn_27 hw.1.2.2.1
        have rx37_c10 : inR x37_c10 := mRn_37 hw.1.2.2.1
        have rx41_c10 : inR x41_c10 := mRn_41 hw.1.2.2.1
        have rx42_c10 : inR x42_c10 := mRn_42 hw.1.2.2.1
        have L28_6 : ∀ (H : Heap) (locs : List Loc) (ls : Array Slot), ((x26_c10) = 4 ∧ ((x27_c10) = 42 ∨ (x27_c10) = 47)) → WM D cy q (upN (upN (upN (upN (upN (upN (upN n_0 24 x24_c10) 25 x25_c10) 26 x26_c10) 27 x27_c10) 37 x37_c10) 41 x41_c10) 42 x42_c10) (upF (upF (upF (upF f_0 30 y30_c10) 31 y31_c10) 32 y32_c10) 33 y33_c10) A0 H0 H locs → lv_has ls 2 [(0, .ref (q 0))] → W p l e (rmd 4 0 0) s m ar below meth c H locs 0 0 QW (F0 m 28 ls []) := by
          intro H locs ls iv28 hw hl
          refine j_aload_n E 29 rfl dX10_readProduct_28 rfl (lv_at hl 0 rfl) ?_
          refine j_bipush E 31 rfl dX10_readProduct_29 (by decide) ?_
          refine m_callp (po := fun z_0 => (z_0 = 1 ∧ (x26_c10) = 4 ∧ (x27_c10) = (42 : Int)) ∨ (z_0 = 0 ∧ ¬ ((x26_c10) = 4 ∧ (x27_c10) = (42 : Int)))) E (c_X10_isSign l D cy q (upN (upN (upN (upN (upN (upN (upN n_0 24 x24_c10) 25 x25_c10) 26 x26_c10) 27 x27_c10) 37 x37_c10) 41 x41_c10) 42 x42_c10) (upF (upF (upF (upF f_0 30 y30_c10) 31 y31_c10) 32 y32_c10) 33 y33_c10) 42  (rr (by decide)) ) rfl mt_X10_isSign ml_X10_276 hK hw hA ⟨Nat.le_of_ble_eq_true rfl, Nat.le_of_ble_eq_true rfl⟩ (As := [.int (J 42)]) (rest := []) rfl rfl hl.1 (Nat.le_of_ble_eq_true rfl) 34 rfl dX10_readProduct_31 (fun zz8_ H locs rr8_ hq8_ hw => ?_)
          have hh8_ : (zz8_ = 1 ∧ (x26_c10) = 4 ∧ (x27_c10) = (42 : Int)) ∨ (zz8_ = 0 ∧ ¬ ((x26_c10) = 4 ∧ (x27_c10) = (42 : Int))) := hq8_
          clear hq8_
          rcases hh8_ with ⟨ee8_, hh8_⟩ | ⟨ee8_, hh8_⟩
          · subst ee8_
            refine j_istore_n E 35 rfl [(1, .int (J 1)), (0, .ref (q 0))] dX10_readProduct_34 rfl hl (by decide) rfl (fun ls hl => ?_)
            refine j_aload_n E 36 rfl dX10_readProduct_35 rfl (lv_at hl 1 rfl) ?_
            refine m_callv E (c_X10_next l D cy q (upN (upN (upN (upN (upN (upN (upN n_0 24 x24_c10) 25 x25_c10) 26 x26_c10) 27 x27_c10) 37 x37_c10) 41 x41_c10) 42 x42_c10) (upF (upF (upF (upF f_0 30 y30_c10) 31 y31_c10) 32 y32_c10) 33 y33_c10)    (show 0 ≤ (n_0 29) ∧ (n_0 29) < 32 from by omega) (show 0 ≤ (n_0 23) ∧ (n_0 23) ≤ 400 from by omega) (show Wds_ (f_0 28) from hp2) (show 0 ≤ (x24_c10) ∧ (x24_c10) ≤ (n_0 23) from by omega) (show 0 ≤ (y31_c10 ((n_0 29))) ∧ (y31_c10 ((n_0 29))) ≤ (x24_c10) from by omega) (show Tap_ (f_0 22) from hp7)) rfl mt_X10_next ml_X10_269 hK hw hA ⟨Nat.le_of_ble_eq_true rfl, Nat.le_of_ble_eq_true rfl⟩ (As := []) (rest := []) rfl rfl hl.1 (Nat.le_of_ble_eq_true rfl) 39 rfl dX10_readProduct_36 (fun n_9 f_9 H locs hq9_ hw => ?_)
            obtain ⟨x24_9, x25_9, x26_9, x27_9, y30_9, y31_9, en9_, ef9_, hq9_⟩ := hq9_
            rw [en9_, ef9_] at hw; clear en9_ ef9_
            have hw : WM D cy q (upN (upN (upN (upN (upN (upN (upN n_0 24 x24_9) 25 x25_9) 26 x26_9) 27 x27_9) 37 x37_c10) 41 x41_c10) 42 x42_c10) (upF (upF (upF (upF f_0 30 y30_9) 31 y31_9) 32 y32_c10) 33 y33_c10) A0 H0 H locs := hw
            have rx24_9 : inR x24_9 := mRn_24 hw.1.2.2.1
            have rx25_9 : inR x25_9 := mRn_25 hw.1.2.2.1
            have rx26_9 : inR x26_9 := mRn_26 hw.1.2.2.1
            have rx27_9 : inR x27_9 := mRn_27 hw.1.2.2.1
            have hh9_ : (0 ≤ (x25_9) ∧ (x25_9) ≤ (x24_9) ∧ (x24_9) ≤ (n_0 23)) ∧ (0 ≤ (y31_9 ((n_0 29))) ∧ (y31_9 ((n_0 29))) ≤ (x24_9)) ∧ (0 ≤ (x26_9) ∧ (x26_9) ≤ 4) ∧ (¬ (x26_9) = 0 → (x25_9) < (x24_9)) ∧ ((x26_9) = 3 → 0 ≤ (x27_9) ∧ (x27_9) ≤ 9999) ∧ (x24_c10) ≤ (x25_9) ∧ Kf_ (y31_c10) (y30_c10) (y31_9) (y30_9) (n_0 29) ∧ (((x26_9) ≤ 1 ∧ (y30_9) = (y30_c10) ∧ (y31_9) = (y31_c10)) ∨ (2 ≤ (x26_9) ∧ (y30_9) = upA (y30_c10) (400 * (n_0 29) + (y31_c10 ((n_0 29)))) (te_ (kd_ (x26_9) (x27_9)) (x27_9)) ∧ (y31_9) = upA (y31_c10) (n_0 29) ((y31_c10 ((n_0 29))) + 1))) ∧ Lx_ (f_0 22) (n_0 23) (x24_c10) (kd_ (x26_9) (x27_9)) (x27_9) (x25_9) (x24_9) ∧ Tv_ (x26_9) (x27_9) := hq9_
            clear hq9_
            have hk_ := hh9_.2.2.2.2.2.2.1
            have rn_ := rt_nx hp5 jr_ hh9_.2.2.2.2.2.2.2.2.1 rfl hh9_.2.2.2.2.2.2.2.2.2 hh9_.2.2.2.2.2.2.2.1
            refine j_iload_n E 40 rfl dX10_readProduct_39 rfl (lv_at hl 0 rfl) ?_
            refine j_if_ne E 43 57 rfl (rr (by decide)) dX10_readProduct_40 (by decide) (fun _ => ?_) (fun cc10_ => absurd cc10_ (by decide))
            refine j_iload_n E 58 rfl dX10_readProduct_57 rfl (lv_at hl 0 rfl) ?_
            refine j_if_ne E 61 74 rfl (rr (by decide)) dX10_readProduct_58 (by decide) (fun _ => ?_) (fun cc11_ => absurd cc11_ (by decide))
            refine j_aload_n E 75 rfl dX10_readProduct_74 rfl (lv_at hl 1 rfl) ?_
            refine m_calli E (c_X10_readUnit l D cy q (upN (upN (upN (upN (upN (upN (upN n_0 24 x24_9) 25 x25_9) 26 x26_9) 27 x27_9) 37 x37_c10) 41 x41_c10) 42 x42_c10) (upF (upF (upF (upF f_0 30 y30_9) 31 y31_9) 32 y32_c10) 33 y33_c10)  (dl_ + 1) lo_ (el_ + 1) K_ V_ P_ Q_ (jj_ + 1)  (show 0 ≤ (n_0 29) ∧ (n_0 29) < 32 from by omega) (show 0 ≤ (n_0 23) ∧ (n_0 23) ≤ 400 from by omega) (show Wds_ (f_0 28) from hp2) (show 0 ≤ (dl_ + 1) ∧ (0 ≤ (x25_9) ∧ (x25_9) ≤ (x24_9) ∧ (x24_9) ≤ (n_0 23)) ∧ (0 ≤ (y31_9 ((n_0 29))) ∧ (y31_9 ((n_0 29))) ≤ (x24_9)) ∧ (0 ≤ (x26_9) ∧ (x26_9) ≤ 4) ∧ (¬ (x26_9) = 0 → (x25_9) < (x24_9)) ∧ ((x26_9) = 3 → 0 ≤ (x27_9) ∧ (x27_9) ≤ 9999) ∧ (0 ≤ lo_ ∧ lo_ ≤ (x37_c10)) ∧ (x37_c10) + (dl_ + 1) ≤ (x25_9) from by omega) (show Pz_ (y32_c10) (y33_c10) (400 * (n_0 29) + lo_) (400 * (n_0 29) + (x37_c10)) (el_ + 1) from ic_) (show Strm_ (f_0 22) (n_0 23) K_ V_ P_ Q_ from hp5) (show Rt_ K_ V_ P_ Q_ (x24_9) (x25_9) (x26_9) (x27_9) (tkw_ (y30_9) (y31_9) (n_0 29)) (jj_ + 1) from rn_) (show Tap_ (f_0 22) from hp7)) rfl mt_X10_readUnit ml_X10_272 hK hw hA ⟨Nat.le_of_ble_eq_true rfl, Nat.le_of_ble_eq_true rfl⟩ (As := []) (rest := []) rfl rfl hl.1 (Nat.le_of_ble_eq_true rfl) 78 rfl dX10_readProduct_75 (fun zz12_ n_12 f_12 H locs rr12_ hq12_ hw => ?_)
            obtain ⟨x24_12, x25_12, x26_12, x27_12, x37_12, x41_12, x42_12, y30_12, y31_12, y32_12, y33_12, en12_, ef12_, hq12_⟩ := hq12_
            rw [en12_, ef12_] at hw; clear en12_ ef12_
            have hw : WM D cy q (upN (upN (upN (upN (upN (upN (upN n_0 24 x24_12) 25 x25_12) 26 x26_12) 27 x27_12) 37 x37_12) 41 x41_12) 42 x42_12) (upF (upF (upF (upF f_0 30 y30_12) 31 y31_12) 32 y32_12) 33 y33_12) A0 H0 H locs := hw
            have rx24_12 : inR x24_12 := mRn_24 hw.1.2.2.1
            have rx25_12 : inR x25_12 := mRn_25 hw.1.2.2.1
            have rx26_12 : inR x26_12 := mRn_26 hw.1.2.2.1
            have rx27_12 : inR x27_12 := mRn_27 hw.1.2.2.1
            have rx37_12 : inR x37_12 := mRn_37 hw.1.2.2.1
            have rx41_12 : inR x41_12 := mRn_41 hw.1.2.2.1
            have rx42_12 : inR x42_12 := mRn_42 hw.1.2.2.1
            have hh12_ : (zz12_ = -1 ∧ Fr_ (y32_c10) (y33_c10) (y32_12) (y33_12) (400 * (n_0 29) + (x37_c10)) ∧ Kf_ (y31_9) (y30_9) (y31_12) (y30_12) (n_0 29) ∧ (0 ≤ (y31_12 ((n_0 29))) ∧ (y31_12 ((n_0 29))) ≤ 400) ∧ (∃ jn_ : Int, (x42_12) = P_ jn_ ∧ (1 ≤ (x41_12) ∧ (x41_12) ≤ 3) ∧ Mh_ T1_ K_ V_ (jj_ + 1) (x41_12) jn_ (cL_ (y32_c10) (y33_c10) (400 * (n_0 29) + lo_) (400 * (n_0 29) + (x37_c10))) ∧ ¬ (x26_9) = 3)) ∨ (zz12_ = 0 ∧ Fr_ (y32_c10) (y33_c10) (y32_12) (y33_12) (400 * (n_0 29) + (x37_c10)) ∧ Kf_ (y31_9) (y30_9) (y31_12) (y30_12) (n_0 29) ∧ (0 ≤ (y31_12 ((n_0 29))) ∧ (y31_12 ((n_0 29))) ≤ 400) ∧ ((0 ≤ (x25_12) ∧ (x25_12) ≤ (x24_12) ∧ (x24_12) ≤ (n_0 23)) ∧ (0 ≤ (y31_12 ((n_0 29))) ∧ (y31_12 ((n_0 29))) ≤ (x24_12)) ∧ (0 ≤ (x26_12) ∧ (x26_12) ≤ 4) ∧ (¬ (x26_12) = 0 → (x25_12) < (x24_12)) ∧ ((x26_12) = 3 → 0 ≤ (x27_12) ∧ (x27_12) ≤ 9999) ∧ (0 ≤ lo_ ∧ lo_ ≤ (x37_12)) ∧ (x37_12) + (dl_ + 1) ≤ (x25_12)) ∧ (x25_9) < (x25_12) ∧ (x37_c10) ≤ (x37_12) ∧ Pz_ (y32_12) (y33_12) (400 * (n_0 29) + lo_) (400 * (n_0 29) + (x37_12)) ((el_ + 1) + 1) ∧ (∃ jn_ : Int, (jj_ + 1) < jn_ ∧ Rt_ K_ V_ P_ Q_ (x24_12) (x25_12) (x26_12) (x27_12) (tkw_ (y30_12) (y31_12) (n_0 29)) jn_ ∧ ((x26_9) = 3 → jn_ = (jj_ + 1) + 1) ∧ Mg_ T1_ K_ V_ (jj_ + 1) jn_ (cL_ (y32_c10) (y33_c10) (400 * (n_0 29) + lo_) (400 * (n_0 29) + (x37_c10))) (cL_ (y32_12) (y33_12) (400 * (n_0 29) + lo_) (400 * (n_0 29) + (x37_12)))) ∧ ((x26_9) = 3 → (x37_12) = (x37_c10) + 1 ∧ (y32_12 (400 * (n_0 29) + (x37_c10))) = 0 ∧ (y33_12 (400 * (n_0 29) + (x37_c10))) = (x27_9) ∧ (cL_ (y32_12) (y33_12) (400 * (n_0 29) + lo_) (400 * (n_0 29) + (x37_12))) = (cL_ (y32_c10) (y33_c10) (400 * (n_0 29) + lo_) (400 * (n_0 29) + (x37_c10))) ++ [cd_ 0 (x27_9)])) := hq12_
            clear hq12_
            rcases hh12_ with ⟨ee12_, hh12_⟩ | ⟨ee12_, hh12_⟩
            · subst ee12_
              have hx2_ := hh12_
              obtain ⟨jn2_, ga_, gb_, gc_⟩ := hx2_.2.2.2
              clear hh12_
              refine j_iconst E 79 rfl dX10_readProduct_78 ?_
              refine j_icmp_ne E 82 84 rfl (rr (by decide)) (rr (by decide)) dX10_readProduct_79 (by decide) (fun cc13_ => absurd cc13_ (by decide)) (fun _ => ?_)
              refine j_iconst E 83 rfl dX10_readProduct_82 ?_
              exact hret 83 ((-1)) (upN (upN (upN (upN (upN (upN (upN n_0 24 x24_12) 25 x25_12) 26 x26_12) 27 x27_12) 37 x37_12) 41 x41_12) 42 x42_12) (upF (upF (upF (upF f_0 30 y30_12) 31 y31_12) 32 y32_12) 33 y33_12) _ _ ls hw (rr (by decide)) ⟨x24_12, x25_12, x26_12, x27_12, x37_12, x41_12, x42_12, y30_12, y31_12, y32_12, y33_12, rfl, rfl, Or.inl ⟨rfl, Fr_tr id_ hx2_.1 (by omega), tk_tr ie_ (tk_tr hk_ hx2_.2.1), hx2_.2.2.1, jn2_, ga_, gb_, by first | exact mPf_mul jm_ (by have q0_ := rt_k jr_; omega) gc_.1 | exact absurd (by omega) gc_.2⟩⟩ dX10_readProduct_83
            · subst ee12_
              have h2_ := hh12_
              clear hh12_
              have hb2_ := (h2_.2.2.2.2.2.2.1).2
              obtain ⟨jn2_, ka_, kb_, kc_⟩ := h2_.2.2.2.2.2.2.2.1
              refine j_iconst E 79 rfl dX10_readProduct_78 ?_
              refine j_icmp_ne E 82 84 rfl (rr (by decide)) (rr (by decide)) dX10_readProduct_79 (by decide) (fun _ => ?_) (fun cc14_ => absurd cc14_ (by decide))
              refine j_aload_n E 85 rfl dX10_readProduct_84 rfl (lv_at hl 1 rfl) ?_
              refine j_iload_n E 86 rfl dX10_readProduct_85 rfl (lv_at hl 0 rfl) ?_
              refine j_if_eq E 89 93 rfl (rr (by decide)) dX10_readProduct_86 (by decide) (fun cc15_ => absurd cc15_ (by decide)) (fun _ => ?_)
              refine j_iconst E 90 rfl dX10_readProduct_89 ?_
              refine j_goto E 95 dX10_readProduct_90 (by decide) ?_
              refine j_iconst E 96 rfl dX10_readProduct_95 ?_
              have h6_ : (1 : Int) = 0 → 400 * n_0 29 + lo_ < 400 * n_0 29 + (x37_12) ∧ (y32_12 (400 * n_0 29 + (x37_12) - 1)) = 0 ∧ ¬ (y33_12 (400 * n_0 29 + (x37_12) - 1)) = 0 := fun hs_ => by
                have h7_ := h2_.2.2.2.2.2.2.2.2 (by omega)
                rw [show 400 * n_0 29 + (x37_12) - 1 = 400 * n_0 29 + x37_c10 by omega]
                exact ⟨by omega, h7_.2.1, by omega⟩
              refine m_callv E (c_X10_emits l D cy q (upN (upN (upN (upN (upN (upN (upN n_0 24 x24_12) 25 x25_12) 26 x26_12) 27 x27_12) 37 x37_12) 41 x41_12) 42 x42_12) (upF (upF (upF (upF f_0 30 y30_12) 31 y31_12) 32 y32_12) 33 y33_12) 5 0  (rr (by decide)) (rr (by decide)) (show 0 ≤ (n_0 29) ∧ (n_0 29) < 32 from by omega) (show 0 ≤ (x37_12) ∧ (x37_12) ≤ 399 from by omega)) rfl mt_X10_emits ml_X10_265 hK hw hA ⟨Nat.le_of_ble_eq_true rfl, Nat.le_of_ble_eq_true rfl⟩ (As := [.int (J 5), .int (J 0)]) (rest := []) rfl rfl hl.1 (Nat.le_of_ble_eq_true rfl) 99 rfl dX10_readProduct_96 (fun n_16 f_16 H locs hq16_ hw => ?_)
              obtain ⟨x37_16, y32_16, y33_16, en16_, ef16_, hq16_⟩ := hq16_
              rw [en16_, ef16_] at hw; clear en16_ ef16_
              have hw : WM D cy q (upN (upN (upN (upN (upN (upN (upN n_0 24 x24_12) 25 x25_12) 26 x26_12) 27 x27_12) 37 x37_16) 41 x41_12) 42 x42_12) (upF (upF (upF (upF f_0 30 y30_12) 31 y31_12) 32 y32_16) 33 y33_16) A0 H0 H locs := hw
              have rx37_16 : inR x37_16 := mRn_37 hw.1.2.2.1
              have hh16_ : (y32_16) = upA (y32_12) (400 * (n_0 29) + (x37_12)) (5 : Int) ∧ (y33_16) = upA (y33_12) (400 * (n_0 29) + (x37_12)) (0 : Int) ∧ (x37_16) = (x37_12) + 1 := hq16_
              clear hq16_
              have hm_ : (x37_16) = (x37_12) + 1 := hh16_.2.2
              have hz_ : Pz_ (y32_16) (y33_16) (400 * n_0 29 + lo_) (400 * n_0 29 + (x37_16)) (el_ + 1) := by rw [hh16_.1, hh16_.2.1, show 400 * n_0 29 + (x37_16) = 400 * n_0 29 + (x37_12) + 1 by omega]; exact Pz_ext h2_.2.2.2.2.2.2.1 (by omega) (by omega) (Or.inr (Or.inr (Or.inr (Or.inr ⟨by omega, by omega, by omega, fun h9_ => by first | (exfalso; omega) | exact h6_ (by omega)⟩))))
              have hf_ : Fr_ (y32_12) (y33_12) (y32_16) (y33_16) (400 * n_0 29 + (x37_12)) := by rw [hh16_.1, hh16_.2.1]; exact Fr_up (by omega)
              have hc_ : cL_ (y32_16) (y33_16) (400 * n_0 29 + lo_) (400 * n_0 29 + (x37_16)) = cL_ (y32_12) (y33_12) (400 * n_0 29 + lo_) (400 * n_0 29 + (x37_12)) ++ [cd_ (5 : Int) (0 : Int)] := by rw [hh16_.1, hh16_.2.1, show 400 * n_0 29 + (x37_16) = 400 * n_0 29 + (x37_12) + 1 by omega]; exact cL_ext (by omega)
              refine j_goto E 10 dX10_readProduct_99 (by decide) ?_
              exact ih10  x24_12 x25_12 x26_12 x27_12 x37_16 x41_12 x42_12 y30_12 y31_12 y32_16 y33_16 H locs ls  (⟨by omega, by omega, hz_, Fr_tr id_ (Fr_tr h2_.1 hf_ (by omega)) (by omega), tk_tr ie_ (tk_tr hk_ h2_.2.1), jn2_, by omega, kb_, by first | exact mP_mul jm_ (by have q0_ := rt_k jr_; omega) kc_.2 hc_ | (rw [show jn2_ = jj_ + 2 by have := kc_.1 (by omega); omega]; exact mP_div jm_ (by have q0_ := rt_k jr_; omega) (by have q0_ := rt_k rn_; omega) (by have q0_ := rt_k rn_; omega) (by have q0_ := rt_k rn_; omega) (h2_.2.2.2.2.2.2.2.2 (by omega)).2.2.2 hc_)⟩) (by omega) hw (lv_sub hl [1] rfl)
          · subst ee8_
            refine j_istore_n E 35 rfl [(1, .int (J 0)), (0, .ref (q 0))] dX10_readProduct_34 rfl hl (by decide) rfl (fun ls hl => ?_)
            refine j_aload_n E 36 rfl dX10_readProduct_35 rfl (lv_at hl 1 rfl) ?_
            refine m_callv E (c_X10_next l D cy q (upN (upN (upN (upN (upN (upN (upN n_0 24 x24_c10) 25 x25_c10) 26 x26_c10) 27 x27_c10) 37 x37_c10) 41 x41_c10) 42 x42_c10) (upF (upF (upF (upF f_0 30 y30_c10) 31 y31_c10) 32 y32_c10) 33 y33_c10)    (show 0 ≤ (n_0 29) ∧ (n_0 29) < 32 from by omega) (show 0 ≤ (n_0 23) ∧ (n_0 23) ≤ 400 from by omega) (show Wds_ (f_0 28) from hp2) (show 0 ≤ (x24_c10) ∧ (x24_c10) ≤ (n_0 23) from by omega) (show 0 ≤ (y31_c10 ((n_0 29))) ∧ (y31_c10 ((n_0 29))) ≤ (x24_c10) from by omega) (show Tap_ (f_0 22) from hp7)) rfl mt_X10_next ml_X10_269 hK hw hA ⟨Nat.le_of_ble_eq_true rfl, Nat.le_of_ble_eq_true rfl⟩ (As := []) (rest := []) rfl rfl hl.1 (Nat.le_of_ble_eq_true rfl) 39 rfl dX10_readProduct_36 (fun n_17 f_17 H locs hq17_ hw => ?_)
            obtain ⟨x24_17, x25_17, x26_17, x27_17, y30_17, y31_17, en17_, ef17_, hq17_⟩ := hq17_
            rw [en17_, ef17_] at hw; clear en17_ ef17_
            have hw : WM D cy q (upN (upN (upN (upN (upN (upN (upN n_0 24 x24_17) 25 x25_17) 26 x26_17) 27 x27_17) 37 x37_c10) 41 x41_c10) 42 x42_c10) (upF (upF (upF (upF f_0 30 y30_17) 31 y31_17) 32 y32_c10) 33 y33_c10) A0 H0 H locs := hw
            have rx24_17 : inR x24_17 := mRn_24 hw.1.2.2.1
            have rx25_17 : inR x25_17 := mRn_25 hw.1.2.2.1
            have rx26_17 : inR x26_17 := mRn_26 hw.1.2.2.1
            have rx27_17 : inR x27_17 := mRn_27 hw.1.2.2.1
            have hh17_ : (0 ≤ (x25_17) ∧ (x25_17) ≤ (x24_17) ∧ (x24_17) ≤ (n_0 23)) ∧ (0 ≤ (y31_17 ((n_0 29))) ∧ (y31_17 ((n_0 29))) ≤ (x24_17)) ∧ (0 ≤ (x26_17) ∧ (x26_17) ≤ 4) ∧ (¬ (x26_17) = 0 → (x25_17) < (x24_17)) ∧ ((x26_17) = 3 → 0 ≤ (x27_17) ∧ (x27_17) ≤ 9999) ∧ (x24_c10) ≤ (x25_17) ∧ Kf_ (y31_c10) (y30_c10) (y31_17) (y30_17) (n_0 29) ∧ (((x26_17) ≤ 1 ∧ (y30_17) = (y30_c10) ∧ (y31_17) = (y31_c10)) ∨ (2 ≤ (x26_17) ∧ (y30_17) = upA (y30_c10) (400 * (n_0 29) + (y31_c10 ((n_0 29)))) (te_ (kd_ (x26_17) (x27_17)) (x27_17)) ∧ (y31_17) = upA (y31_c10) (n_0 29) ((y31_c10 ((n_0 29))) + 1))) ∧ Lx_ (f_0 22) (n_0 23) (x24_c10) (kd_ (x26_17) (x27_17)) (x27_17) (x25_17) (x24_17) ∧ Tv_ (x26_17) (x27_17) := hq17_
            clear hq17_
            have hk_ := hh17_.2.2.2.2.2.2.1
            have rn_ := rt_nx hp5 jr_ hh17_.2.2.2.2.2.2.2.2.1 rfl hh17_.2.2.2.2.2.2.2.2.2 hh17_.2.2.2.2.2.2.2.1
            refine j_iload_n E 40 rfl dX10_readProduct_39 rfl (lv_at hl 0 rfl) ?_
            refine j_if_ne E 43 57 rfl (rr (by decide)) dX10_readProduct_40 (by decide) (fun cc18_ => absurd cc18_ (by decide)) (fun _ => ?_)
            refine j_aload_n E 44 rfl dX10_readProduct_43 rfl (lv_at hl 1 rfl) ?_
            refine m_get_26 E hK hw x26_17 rfl 47 rfl dX10_readProduct_44 (fun _ => ?_)
            refine j_iconst E 48 rfl dX10_readProduct_47 ?_
            refine j_icmp_eq E 51 57 rfl rx26_17 (rr (by decide)) dX10_readProduct_48 (by decide) (fun cc19_ => ?_) (fun cc19_ => ?_)
            · refine j_iload_n E 58 rfl dX10_readProduct_57 rfl (lv_at hl 0 rfl) ?_
              refine j_if_ne E 61 74 rfl (rr (by decide)) dX10_readProduct_58 (by decide) (fun cc20_ => absurd cc20_ (by decide)) (fun _ => ?_)
              refine j_aload_n E 62 rfl dX10_readProduct_61 rfl (lv_at hl 1 rfl) ?_
              refine m_get_27 E hK hw x27_17 rfl 65 rfl dX10_readProduct_62 (fun _ => ?_)
              refine j_if_ne E 68 74 rfl rx27_17 dX10_readProduct_65 (by decide) (fun cc21_ => ?_) (fun cc21_ => ?_)
              · refine j_aload_n E 75 rfl dX10_readProduct_74 rfl (lv_at hl 1 rfl) ?_
                refine m_calli E (c_X10_readUnit l D cy q (upN (upN (upN (upN (upN (upN (upN n_0 24 x24_17) 25 x25_17) 26 x26_17) 27 x27_17) 37 x37_c10) 41 x41_c10) 42 x42_c10) (upF (upF (upF (upF f_0 30 y30_17) 31 y31_17) 32 y32_c10) 33 y33_c10)  (dl_ + 1) lo_ (el_ + 1) K_ V_ P_ Q_ (jj_ + 1)  (show 0 ≤ (n_0 29) ∧ (n_0 29) < 32 from by omega) (show 0 ≤ (n_0 23) ∧ (n_0 23) ≤ 400 from by omega) (show Wds_ (f_0 28) from hp2) (show 0 ≤ (dl_ + 1) ∧ (0 ≤ (x25_17) ∧ (x25_17) ≤ (x24_17) ∧ (x24_17) ≤ (n_0 23)) ∧ (0 ≤ (y31_17 ((n_0 29))) ∧ (y31_17 ((n_0 29))) ≤ (x24_17)) ∧ (0 ≤ (x26_17) ∧ (x26_17) ≤ 4) ∧ (¬ (x26_17) = 0 → (x25_17) < (x24_17)) ∧ ((x26_17) = 3 → 0 ≤ (x27_17) ∧ (x27_17) ≤ 9999) ∧ (0 ≤ lo_ ∧ lo_ ≤ (x37_c10)) ∧ (x37_c10) + (dl_ + 1) ≤ (x25_17) from by omega) (show Pz_ (y32_c10) (y33_c10) (400 * (n_0 29) + lo_) (400 * (n_0 29) + (x37_c10)) (el_ + 1) from ic_) (show Strm_ (f_0 22) (n_0 23) K_ V_ P_ Q_ from hp5) (show Rt_ K_ V_ P_ Q_ (x24_17) (x25_17) (x26_17) (x27_17) (tkw_ (y30_17) (y31_17) (n_0 29)) (jj_ + 1) from rn_) (show Tap_ (f_0 22) from hp7)) rfl mt_X10_readUnit ml_X10_272 hK hw hA ⟨Nat.le_of_ble_eq_true rfl, Nat.le_of_ble_eq_true rfl⟩ (As := []) (rest := []) rfl rfl hl.1 (Nat.le_of_ble_eq_true rfl) 78 rfl dX10_readProduct_75 (fun zz22_ n_22 f_22 H locs rr22_ hq22_ hw => ?_)
                obtain ⟨x24_22, x25_22, x26_22, x27_22, x37_22, x41_22, x42_22, y30_22, y31_22, y32_22, y33_22, en22_, ef22_, hq22_⟩ := hq22_
                rw [en22_, ef22_] at hw; clear en22_ ef22_
                have hw : WM D cy q (upN (upN (upN (upN (upN (upN (upN n_0 24 x24_22) 25 x25_22) 26 x26_22) 27 x27_22) 37 x37_22) 41 x41_22) 42 x42_22) (upF (upF (upF (upF f_0 30 y30_22) 31 y31_22) 32 y32_22) 33 y33_22) A0 H0 H locs := hw
                have rx24_22 : inR x24_22 := mRn_24 hw.1.2.2.1
                have rx25_22 : inR x25_22 := mRn_25 hw.1.2.2.1
                have rx26_22 : inR x26_22 := mRn_26 hw.1.2.2.1
                have rx27_22 : inR x27_22 := mRn_27 hw.1.2.2.1
                have rx37_22 : inR x37_22 := mRn_37 hw.1.2.2.1
                have rx41_22 : inR x41_22 := mRn_41 hw.1.2.2.1
                have rx42_22 : inR x42_22 := mRn_42 hw.1.2.2.1
                have hh22_ : (zz22_ = -1 ∧ Fr_ (y32_c10) (y33_c10) (y32_22) (y33_22) (400 * (n_0 29) + (x37_c10)) ∧ Kf_ (y31_17) (y30_17) (y31_22) (y30_22) (n_0 29) ∧ (0 ≤ (y31_22 ((n_0 29))) ∧ (y31_22 ((n_0 29))) ≤ 400) ∧ (∃ jn_ : Int, (x42_22) = P_ jn_ ∧ (1 ≤ (x41_22) ∧ (x41_22) ≤ 3) ∧ Mh_ T1_ K_ V_ (jj_ + 1) (x41_22) jn_ (cL_ (y32_c10) (y33_c10) (400 * (n_0 29) + lo_) (400 * (n_0 29) + (x37_c10))) ∧ ¬ (x26_17) = 3)) ∨ (zz22_ = 0 ∧ Fr_ (y32_c10) (y33_c10) (y32_22) (y33_22) (400 * (n_0 29) + (x37_c10)) ∧ Kf_ (y31_17) (y30_17) (y31_22) (y30_22) (n_0 29) ∧ (0 ≤ (y31_22 ((n_0 29))) ∧ (y31_22 ((n_0 29))) ≤ 400) ∧ ((0 ≤ (x25_22) ∧ (x25_22) ≤ (x24_22) ∧ (x24_22) ≤ (n_0 23)) ∧ (0 ≤ (y31_22 ((n_0 29))) ∧ (y31_22 ((n_0 29))) ≤ (x24_22)) ∧ (0 ≤ (x26_22) ∧ (x26_22) ≤ 4) ∧ (¬ (x26_22) = 0 → (x25_22) < (x24_22)) ∧ ((x26_22) = 3 → 0 ≤ (x27_22) ∧ (x27_22) ≤ 9999) ∧ (0 ≤ lo_ ∧ lo_ ≤ (x37_22)) ∧ (x37_22) + (dl_ + 1) ≤ (x25_22)) ∧ (x25_17) < (x25_22) ∧ (x37_c10) ≤ (x37_22) ∧ Pz_ (y32_22) (y33_22) (400 * (n_0 29) + lo_) (400 * (n_0 29) + (x37_22)) ((el_ + 1) + 1) ∧ (∃ jn_ : Int, (jj_ + 1) < jn_ ∧ Rt_ K_ V_ P_ Q_ (x24_22) (x25_22) (x26_22) (x27_22) (tkw_ (y30_22) (y31_22) (n_0 29)) jn_ ∧ ((x26_17) = 3 → jn_ = (jj_ + 1) + 1) ∧ Mg_ T1_ K_ V_ (jj_ + 1) jn_ (cL_ (y32_c10) (y33_c10) (400 * (n_0 29) + lo_) (400 * (n_0 29) + (x37_c10))) (cL_ (y32_22) (y33_22) (400 * (n_0 29) + lo_) (400 * (n_0 29) + (x37_22)))) ∧ ((x26_17) = 3 → (x37_22) = (x37_c10) + 1 ∧ (y32_22 (400 * (n_0 29) + (x37_c10))) = 0 ∧ (y33_22 (400 * (n_0 29) + (x37_c10))) = (x27_17) ∧ (cL_ (y32_22) (y33_22) (400 * (n_0 29) + lo_) (400 * (n_0 29) + (x37_22))) = (cL_ (y32_c10) (y33_c10) (400 * (n_0 29) + lo_) (400 * (n_0 29) + (x37_c10))) ++ [cd_ 0 (x27_17)])) := hq22_
                clear hq22_
                rcases hh22_ with ⟨ee22_, hh22_⟩ | ⟨ee22_, hh22_⟩
                · subst ee22_
                  have hx2_ := hh22_
                  obtain ⟨jn2_, ga_, gb_, gc_⟩ := hx2_.2.2.2
                  clear hh22_
                  refine j_iconst E 79 rfl dX10_readProduct_78 ?_
                  refine j_icmp_ne E 82 84 rfl (rr (by decide)) (rr (by decide)) dX10_readProduct_79 (by decide) (fun cc23_ => absurd cc23_ (by decide)) (fun _ => ?_)
                  refine j_iconst E 83 rfl dX10_readProduct_82 ?_
                  exact hret 83 ((-1)) (upN (upN (upN (upN (upN (upN (upN n_0 24 x24_22) 25 x25_22) 26 x26_22) 27 x27_22) 37 x37_22) 41 x41_22) 42 x42_22) (upF (upF (upF (upF f_0 30 y30_22) 31 y31_22) 32 y32_22) 33 y33_22) _ _ ls hw (rr (by decide)) ⟨x24_22, x25_22, x26_22, x27_22, x37_22, x41_22, x42_22, y30_22, y31_22, y32_22, y33_22, rfl, rfl, Or.inl ⟨rfl, Fr_tr id_ hx2_.1 (by omega), tk_tr ie_ (tk_tr hk_ hx2_.2.1), hx2_.2.2.1, jn2_, ga_, gb_, by first | exact mPf_mul jm_ (by have q0_ := rt_k jr_; omega) gc_.1 | exact absurd (by omega) gc_.2⟩⟩ dX10_readProduct_83
                · subst ee22_
                  have h2_ := hh22_
                  clear hh22_
                  have hb2_ := (h2_.2.2.2.2.2.2.1).2
                  obtain ⟨jn2_, ka_, kb_, kc_⟩ := h2_.2.2.2.2.2.2.2.1
                  refine j_iconst E 79 rfl dX10_readProduct_78 ?_
                  refine j_icmp_ne E 82 84 rfl (rr (by decide)) (rr (by decide)) dX10_readProduct_79 (by decide) (fun _ => ?_) (fun cc24_ => absurd cc24_ (by decide))
                  refine j_aload_n E 85 rfl dX10_readProduct_84 rfl (lv_at hl 1 rfl) ?_
                  refine j_iload_n E 86 rfl dX10_readProduct_85 rfl (lv_at hl 0 rfl) ?_
                  refine j_if_eq E 89 93 rfl (rr (by decide)) dX10_readProduct_86 (by decide) (fun _ => ?_) (fun cc25_ => absurd cc25_ (by decide))
                  refine j_bipush E 95 rfl dX10_readProduct_93 (by decide) ?_
                  refine j_iconst E 96 rfl dX10_readProduct_95 ?_
                  have h6_ : (0 : Int) = 0 → 400 * n_0 29 + lo_ < 400 * n_0 29 + (x37_22) ∧ (y32_22 (400 * n_0 29 + (x37_22) - 1)) = 0 ∧ ¬ (y33_22 (400 * n_0 29 + (x37_22) - 1)) = 0 := fun hs_ => by
                    have h7_ := h2_.2.2.2.2.2.2.2.2 (by omega)
                    rw [show 400 * n_0 29 + (x37_22) - 1 = 400 * n_0 29 + x37_c10 by omega]
                    exact ⟨by omega, h7_.2.1, by omega⟩
                  refine m_callv E (c_X10_emits l D cy q (upN (upN (upN (upN (upN (upN (upN n_0 24 x24_22) 25 x25_22) 26 x26_22) 27 x27_22) 37 x37_22) 41 x41_22) 42 x42_22) (upF (upF (upF (upF f_0 30 y30_22) 31 y31_22) 32 y32_22) 33 y33_22) 6 0  (rr (by decide)) (rr (by decide)) (show 0 ≤ (n_0 29) ∧ (n_0 29) < 32 from by omega) (show 0 ≤ (x37_22) ∧ (x37_22) ≤ 399 from by omega)) rfl mt_X10_emits ml_X10_265 hK hw hA ⟨Nat.le_of_ble_eq_true rfl, Nat.le_of_ble_eq_true rfl⟩ (As := [.int (J 6), .int (J 0)]) (rest := []) rfl rfl hl.1 (Nat.le_of_ble_eq_true rfl) 99 rfl dX10_readProduct_96 (fun n_26 f_26 H locs hq26_ hw => ?_)
                  obtain ⟨x37_26, y32_26, y33_26, en26_, ef26_, hq26_⟩ := hq26_
                  rw [en26_, ef26_] at hw; clear en26_ ef26_
                  have hw : WM D cy q (upN (upN (upN (upN (upN (upN (upN n_0 24 x24_22) 25 x25_22) 26 x26_22) 27 x27_22) 37 x37_26) 41 x41_22) 42 x42_22) (upF (upF (upF (upF f_0 30 y30_22) 31 y31_22) 32 y32_26) 33 y33_26) A0 H0 H locs := hw
                  have rx37_26 : inR x37_26 := mRn_37 hw.1.2.2.1
                  have hh26_ : (y32_26) = upA (y32_22) (400 * (n_0 29) + (x37_22)) (6 : Int) ∧ (y33_26) = upA (y33_22) (400 * (n_0 29) + (x37_22)) (0 : Int) ∧ (x37_26) = (x37_22) + 1 := hq26_
                  clear hq26_
                  have hm_ : (x37_26) = (x37_22) + 1 := hh26_.2.2
                  have hz_ : Pz_ (y32_26) (y33_26) (400 * n_0 29 + lo_) (400 * n_0 29 + (x37_26)) (el_ + 1) := by rw [hh26_.1, hh26_.2.1, show 400 * n_0 29 + (x37_26) = 400 * n_0 29 + (x37_22) + 1 by omega]; exact Pz_ext h2_.2.2.2.2.2.2.1 (by omega) (by omega) (Or.inr (Or.inr (Or.inr (Or.inr ⟨by omega, by omega, by omega, fun h9_ => by first | (exfalso; omega) | exact h6_ (by omega)⟩))))
                  have hf_ : Fr_ (y32_22) (y33_22) (y32_26) (y33_26) (400 * n_0 29 + (x37_22)) := by rw [hh26_.1, hh26_.2.1]; exact Fr_up (by omega)
                  have hc_ : cL_ (y32_26) (y33_26) (400 * n_0 29 + lo_) (400 * n_0 29 + (x37_26)) = cL_ (y32_22) (y33_22) (400 * n_0 29 + lo_) (400 * n_0 29 + (x37_22)) ++ [cd_ (6 : Int) (0 : Int)] := by rw [hh26_.1, hh26_.2.1, show 400 * n_0 29 + (x37_26) = 400 * n_0 29 + (x37_22) + 1 by omega]; exact cL_ext (by omega)
                  refine j_goto E 10 dX10_readProduct_99 (by decide) ?_
                  exact ih10  x24_22 x25_22 x26_22 x27_22 x37_26 x41_22 x42_22 y30_22 y31_22 y32_26 y33_26 H locs ls  (⟨by omega, by omega, hz_, Fr_tr id_ (Fr_tr h2_.1 hf_ (by omega)) (by omega), tk_tr ie_ (tk_tr hk_ h2_.2.1), jn2_, by omega, kb_, by first | exact mP_mul jm_ (by have q0_ := rt_k jr_; omega) kc_.2 hc_ | (rw [show jn2_ = jj_ + 2 by have := kc_.1 (by omega); omega]; exact mP_div jm_ (by have q0_ := rt_k jr_; omega) (by have q0_ := rt_k rn_; omega) (by have q0_ := rt_k rn_; omega) (by have q0_ := rt_k rn_; omega) (h2_.2.2.2.2.2.2.2.2 (by omega)).2.2.2 hc_)⟩) (by omega) hw (lv_sub hl [1] rfl)
              · refine j_aload_n E 69 rfl dX10_readProduct_68 rfl (lv_at hl 1 rfl) ?_
                refine j_iconst E 70 rfl dX10_readProduct_69 ?_
                refine m_calli E (c_X10_fails l D cy q (upN (upN (upN (upN (upN (upN (upN n_0 24 x24_17) 25 x25_17) 26 x26_17) 27 x27_17) 37 x37_c10) 41 x41_c10) 42 x42_c10) (upF (upF (upF (upF f_0 30 y30_17) 31 y31_17) 32 y32_c10) 33 y33_c10) 2  (rr (by decide)) ) rfl mt_X10_fails ml_X10_262 hK hw hA ⟨Nat.le_of_ble_eq_true rfl, Nat.le_of_ble_eq_true rfl⟩ (As := [.int (J 2)]) (rest := []) rfl rfl hl.1 (Nat.le_of_ble_eq_true rfl) 73 rfl dX10_readProduct_70 (fun zz27_ n_27 f_27 H locs rr27_ hq27_ hw => ?_)
                obtain ⟨x41_27, x42_27, en27_, ef27_, hq27_⟩ := hq27_
                rw [en27_, ef27_] at hw; clear en27_ ef27_
                have hw : WM D cy q (upN (upN (upN (upN (upN (upN (upN n_0 24 x24_17) 25 x25_17) 26 x26_17) 27 x27_17) 37 x37_c10) 41 x41_27) 42 x42_27) (upF (upF (upF (upF f_0 30 y30_17) 31 y31_17) 32 y32_c10) 33 y33_c10) A0 H0 H locs := hw
                have rx41_27 : inR x41_27 := mRn_41 hw.1.2.2.1
                have rx42_27 : inR x42_27 := mRn_42 hw.1.2.2.1
                have hh27_ : zz27_ = -1 ∧ (x41_27) = (2 : Int) ∧ (x42_27) = (x25_17) := hq27_
                clear hq27_
                have hq_ := hh27_
                clear hh27_
                exact hret 73 zz27_ (upN (upN (upN (upN (upN (upN (upN n_0 24 x24_17) 25 x25_17) 26 x26_17) 27 x27_17) 37 x37_c10) 41 x41_27) 42 x42_27) (upF (upF (upF (upF f_0 30 y30_17) 31 y31_17) 32 y32_c10) 33 y33_c10) _ _ ls hw rr27_ ⟨x24_17, x25_17, x26_17, x27_17, x37_c10, x41_27, x42_27, y30_17, y31_17, y32_c10, y33_c10, rfl, rfl, Or.inl ⟨by omega, id_, tk_tr ie_ hk_, by omega, jj_ + 1, by rw [hq_.2.2]; exact rn_.2.2.1, by omega, by rw [hq_.2.1]; exact mPf_d2 jm_ (by have q0_ := rt_k jr_; omega) (by have q0_ := rt_k rn_; omega) (by have q0_ := rt_k rn_; omega)⟩⟩ dX10_readProduct_73
            · refine j_aload_n E 52 rfl dX10_readProduct_51 rfl (lv_at hl 1 rfl) ?_
              refine j_iconst E 53 rfl dX10_readProduct_52 ?_
              refine m_calli E (c_X10_fails l D cy q (upN (upN (upN (upN (upN (upN (upN n_0 24 x24_17) 25 x25_17) 26 x26_17) 27 x27_17) 37 x37_c10) 41 x41_c10) 42 x42_c10) (upF (upF (upF (upF f_0 30 y30_17) 31 y31_17) 32 y32_c10) 33 y33_c10) 1  (rr (by decide)) ) rfl mt_X10_fails ml_X10_262 hK hw hA ⟨Nat.le_of_ble_eq_true rfl, Nat.le_of_ble_eq_true rfl⟩ (As := [.int (J 1)]) (rest := []) rfl rfl hl.1 (Nat.le_of_ble_eq_true rfl) 56 rfl dX10_readProduct_53 (fun zz28_ n_28 f_28 H locs rr28_ hq28_ hw => ?_)
              obtain ⟨x41_28, x42_28, en28_, ef28_, hq28_⟩ := hq28_
              rw [en28_, ef28_] at hw; clear en28_ ef28_
              have hw : WM D cy q (upN (upN (upN (upN (upN (upN (upN n_0 24 x24_17) 25 x25_17) 26 x26_17) 27 x27_17) 37 x37_c10) 41 x41_28) 42 x42_28) (upF (upF (upF (upF f_0 30 y30_17) 31 y31_17) 32 y32_c10) 33 y33_c10) A0 H0 H locs := hw
              have rx41_28 : inR x41_28 := mRn_41 hw.1.2.2.1
              have rx42_28 : inR x42_28 := mRn_42 hw.1.2.2.1
              have hh28_ : zz28_ = -1 ∧ (x41_28) = (1 : Int) ∧ (x42_28) = (x25_17) := hq28_
              clear hq28_
              have hq_ := hh28_
              clear hh28_
              exact hret 56 zz28_ (upN (upN (upN (upN (upN (upN (upN n_0 24 x24_17) 25 x25_17) 26 x26_17) 27 x27_17) 37 x37_c10) 41 x41_28) 42 x42_28) (upF (upF (upF (upF f_0 30 y30_17) 31 y31_17) 32 y32_c10) 33 y33_c10) _ _ ls hw rr28_ ⟨x24_17, x25_17, x26_17, x27_17, x37_c10, x41_28, x42_28, y30_17, y31_17, y32_c10, y33_c10, rfl, rfl, Or.inl ⟨by omega, id_, tk_tr ie_ hk_, by omega, jj_ + 1, by rw [hq_.2.2]; exact rn_.2.2.1, by omega, by rw [hq_.2.1]; exact mPf_d1 jm_ (by have q0_ := rt_k jr_; omega) (by have q0_ := rt_k rn_; omega)⟩⟩ dX10_readProduct_56
        refine j_aload_n E 11 rfl dX10_readProduct_10 rfl (lv_at hl 0 rfl) ?_
        refine j_bipush E 13 rfl dX10_readProduct_11 (by decide) ?_
        refine m_callp (po := fun z_0 => (z_0 = 1 ∧ (x26_c10) = 4 ∧ (x27_c10) = (42 : Int)) ∨ (z_0 = 0 ∧ ¬ ((x26_c10) = 4 ∧ (x27_c10) = (42 : Int)))) E (c_X10_isSign l D cy q (upN (upN (upN (upN (upN (upN (upN n_0 24 x24_c10) 25 x25_c10) 26 x26_c10) 27 x27_c10) 37 x37_c10) 41 x41_c10) 42 x42_c10) (upF (upF (upF (upF f_0 30 y30_c10) 31 y31_c10) 32 y32_c10) 33 y33_c10) 42  (rr (by decide)) ) rfl mt_X10_isSign ml_X10_276 hK hw hA ⟨Nat.le_of_ble_eq_true rfl, Nat.le_of_ble_eq_true rfl⟩ (As := [.int (J 42)]) (rest := []) rfl rfl hl.1 (Nat.le_of_ble_eq_true rfl) 16 rfl dX10_readProduct_13 (fun zz29_ H locs rr29_ hq29_ hw => ?_)
        have hh29_ : (zz29_ = 1 ∧ (x26_c10) = 4 ∧ (x27_c10) = (42 : Int)) ∨ (zz29_ = 0 ∧ ¬ ((x26_c10) = 4 ∧ (x27_c10) = (42 : Int))) := hq29_
        clear hq29_
        rcases hh29_ with ⟨ee29_, hh29_⟩ | ⟨ee29_, hh29_⟩
        · subst ee29_
          refine j_if_ne E 19 28 rfl (rr (by decide)) dX10_readProduct_16 (by decide) (fun _ => ?_) (fun cc30_ => absurd cc30_ (by decide))
          exact L28_6  H locs ls  (by omega) hw (lv_sub hl [0] rfl)
        · subst ee29_
          refine j_if_ne E 19 28 rfl (rr (by decide)) dX10_readProduct_16 (by decide) (fun cc31_ => absurd cc31_ (by decide)) (fun _ => ?_)
          refine j_aload_n E 20 rfl dX10_readProduct_19 rfl (lv_at hl 0 rfl) ?_
          refine j_bipush E 22 rfl dX10_readProduct_20 (by decide) ?_
          refine m_callp (po := fun z_0 => (z_0 = 1 ∧ (x26_c10) = 4 ∧ (x27_c10) = (47 : Int)) ∨ (z_0 = 0 ∧ ¬ ((x26_c10) = 4 ∧ (x27_c10) = (47 : Int)))) E (c_X10_isSign l D cy q (upN (upN (upN (upN (upN (upN (upN n_0 24 x24_c10) 25 x25_c10) 26 x26_c10) 27 x27_c10) 37 x37_c10) 41 x41_c10) 42 x42_c10) (upF (upF (upF (upF f_0 30 y30_c10) 31 y31_c10) 32 y32_c10) 33 y33_c10) 47  (rr (by decide)) ) rfl mt_X10_isSign ml_X10_276 hK hw hA ⟨Nat.le_of_ble_eq_true rfl, Nat.le_of_ble_eq_true rfl⟩ (As := [.int (J 47)]) (rest := []) rfl rfl hl.1 (Nat.le_of_ble_eq_true rfl) 25 rfl dX10_readProduct_22 (fun zz32_ H locs rr32_ hq32_ hw => ?_)
          have hh32_ : (zz32_ = 1 ∧ (x26_c10) = 4 ∧ (x27_c10) = (47 : Int)) ∨ (zz32_ = 0 ∧ ¬ ((x26_c10) = 4 ∧ (x27_c10) = (47 : Int))) := hq32_
          clear hq32_
          rcases hh32_ with ⟨ee32_, hh32_⟩ | ⟨ee32_, hh32_⟩
          · subst ee32_
            refine j_if_eq E 28 102 rfl (rr (by decide)) dX10_readProduct_25 (by decide) (fun cc33_ => absurd cc33_ (by decide)) (fun _ => ?_)
            exact L28_6  H locs ls  (by omega) hw (lv_sub hl [0] rfl)
          · subst ee32_
            refine j_if_eq E 28 102 rfl (rr (by decide)) dX10_readProduct_25 (by decide) (fun _ => ?_) (fun cc34_ => absurd cc34_ (by decide))
            refine j_iconst E 103 rfl dX10_readProduct_102 ?_
            exact hret 103 0 (upN (upN (upN (upN (upN (upN (upN n_0 24 x24_c10) 25 x25_c10) 26 x26_c10) 27 x27_c10) 37 x37_c10) 41 x41_c10) 42 x42_c10) (upF (upF (upF (upF f_0 30 y30_c10) 31 y31_c10) 32 y32_c10) 33 y33_c10) _ _ ls hw (rr (by decide)) ⟨x24_c10, x25_c10, x26_c10, x27_c10, x37_c10, x41_c10, x42_c10, y30_c10, y31_c10, y32_c10, y33_c10, rfl, rfl, Or.inr ⟨rfl, id_, ie_, by omega, by omega, by omega, by omega, ic_, jj_, jl_, jr_, ⟨(by have q0_ := rt_k jr_; omega), (by have q0_ := rt_k jr_; omega)⟩, jm_⟩⟩ dX10_readProduct_103
    exact L10_4 _  x24_1 x25_1 x26_1 x27_1 x37_1 x41_1 x42_1 y30_1 y31_1 y32_1 y33_1 H locs ls  (⟨by omega, by omega, h0_.2.2.2.2.2.2.1, h0_.1, h0_.2.1, mg0_⟩) (mk_lt _) hw (lv_sub hl [0] rfl)
set_option maxHeartbeats 4000000 in
set_option maxRecDepth 100000 in
theorem c_X10_readSum (l : Launch) (D : va_G) (cy : Nat → ClassId) (q : Nat → Nat) (n_0 : Nat → Int) (f_0 : Nat → Int → Int) (dl_ : Int) (lo_ : Int) (el_ : Int) (K_ : Int → Int) (V_ : Int → Int) (P_ : Int → Int) (Q_ : Int → Int) (j_ : Int) (hp0 : 0 ≤ (n_0 29) ∧ (n_0 29) < 32) (hp1 : 0 ≤ (n_0 23) ∧ (n_0 23) ≤ 400) (hp2 : Wds_ (f_0 28)) (hp3 : 0 ≤ dl_ ∧ (0 ≤ (n_0 25) ∧ (n_0 25) ≤ (n_0 24) ∧ (n_0 24) ≤ (n_0 23)) ∧ (0 ≤ (f_0 31 ((n_0 29))) ∧ (f_0 31 ((n_0 29))) ≤ (n_0 24)) ∧ (0 ≤ (n_0 26) ∧ (n_0 26) ≤ 4) ∧ (¬ (n_0 26) = 0 → (n_0 25) < (n_0 24)) ∧ ((n_0 26) = 3 → 0 ≤ (n_0 27) ∧ (n_0 27) ≤ 9999) ∧ (0 ≤ lo_ ∧ lo_ ≤ (n_0 37)) ∧ (n_0 37) + dl_ ≤ (n_0 25)) (hp4 : Pz_ (f_0 32) (f_0 33) (400 * (n_0 29) + lo_) (400 * (n_0 29) + (n_0 37)) el_) (hp5 : Strm_ (f_0 22) (n_0 23) K_ V_ P_ Q_) (hp6 : Rt_ K_ V_ P_ Q_ (n_0 24) (n_0 25) (n_0 26) (n_0 27) (tkw_ (f_0 30) (f_0 31) (n_0 29)) j_) (hp7 : Tap_ (f_0 22)) : MC l D cy q yX10_readSum cX10_readSum 2 (some .int) 5 [] n_0 f_0 (PI (fun (z_0 : Int) (n_2 : Nat → Int) (f_2 : Nat → Int → Int) => ∃ (x24_2 : Int) (x25_2 : Int) (x26_2 : Int) (x27_2 : Int) (x37_2 : Int) (x41_2 : Int) (x42_2 : Int) (y30_2 : Int → Int) (y31_2 : Int → Int) (y32_2 : Int → Int) (y33_2 : Int → Int) , n_2 = upN (upN (upN (upN (upN (upN (upN n_0 24 x24_2) 25 x25_2) 26 x26_2) 27 x27_2) 37 x37_2) 41 x41_2) 42 x42_2 ∧ f_2 = upF (upF (upF (upF f_0 30 y30_2) 31 y31_2) 32 y32_2) 33 y33_2 ∧ ((z_0 = -1 ∧ Fr_ (f_0 32) (f_0 33) (y32_2) (y33_2) (400 * (n_0 29) + (n_0 37)) ∧ Kf_ (f_0 31) (f_0 30) (y31_2) (y30_2) (n_0 29) ∧ (0 ≤ (y31_2 ((n_0 29))) ∧ (y31_2 ((n_0 29))) ≤ 400) ∧ (∃ jn_ : Int, (x42_2) = P_ jn_ ∧ (1 ≤ (x41_2) ∧ (x41_2) ≤ 3) ∧ Mh_ S3_ K_ V_ j_ (x41_2) jn_ (cL_ (f_0 32) (f_0 33) (400 * (n_0 29) + lo_) (400 * (n_0 29) + (n_0 37))))) ∨ (z_0 = 0 ∧ Fr_ (f_0 32) (f_0 33) (y32_2) (y33_2) (400 * (n_0 29) + (n_0 37)) ∧ Kf_ (f_0 31) (f_0 30) (y31_2) (y30_2) (n_0 29) ∧ (0 ≤ (y31_2 ((n_0 29))) ∧ (y31_2 ((n_0 29))) ≤ 400) ∧ ((0 ≤ (x25_2) ∧ (x25_2) ≤ (x24_2) ∧ (x24_2) ≤ (n_0 23)) ∧ (0 ≤ (y31_2 ((n_0 29))) ∧ (y31_2 ((n_0 29))) ≤ (x24_2)) ∧ (0 ≤ (x26_2) ∧ (x26_2) ≤ 4) ∧ (¬ (x26_2) = 0 → (x25_2) < (x24_2)) ∧ ((x26_2) = 3 → 0 ≤ (x27_2) ∧ (x27_2) ≤ 9999) ∧ (0 ≤ lo_ ∧ lo_ ≤ (x37_2)) ∧ (x37_2) + dl_ ≤ (x25_2)) ∧ (n_0 25) < (x25_2) ∧ (n_0 37) ≤ (x37_2) ∧ Pz_ (y32_2) (y33_2) (400 * (n_0 29) + lo_) (400 * (n_0 29) + (x37_2)) (el_ + 1) ∧ (∃ jn_ : Int, j_ < jn_ ∧ Rt_ K_ V_ P_ Q_ (x24_2) (x25_2) (x26_2) (x27_2) (tkw_ (y30_2) (y31_2) (n_0 29)) jn_ ∧ N4_ K_ jn_ ∧ Mg_ S3_ K_ V_ j_ jn_ (cL_ (f_0 32) (f_0 33) (400 * (n_0 29) + lo_) (400 * (n_0 29) + (n_0 37))) (cL_ (y32_2) (y33_2) (400 * (n_0 29) + lo_) (400 * (n_0 29) + (x37_2)))))))) := by
  refine MC.ofi rfl (Nat.le_of_ble_eq_true rfl) ?_
  intro p e s m below meth c ls ar QW A0 H0 H locs E hK hA hw hl hret
  have hl : lv_has ls 2 [(0, .ref (q 0))] := hl
  have hb_ : 0 ≤ el_ ∧ el_ ≤ 400 * n_0 29 + n_0 37 - (400 * n_0 29 + lo_) := hp4.2
  have j0_ := hp6.1
  refine j_aload_n E 1 rfl dX10_readSum_0 rfl (lv_at hl 0 rfl) ?_
  refine m_calli E (c_X10_readProduct l D cy q (n_0) (f_0)  dl_ lo_ el_ K_ V_ P_ Q_ j_  (show 0 ≤ (n_0 29) ∧ (n_0 29) < 32 from by omega) (show 0 ≤ (n_0 23) ∧ (n_0 23) ≤ 400 from by omega) (show Wds_ (f_0 28) from hp2) (show 0 ≤ dl_ ∧ (0 ≤ (n_0 25) ∧ (n_0 25) ≤ (n_0 24) ∧ (n_0 24) ≤ (n_0 23)) ∧ (0 ≤ (f_0 31 ((n_0 29))) ∧ (f_0 31 ((n_0 29))) ≤ (n_0 24)) ∧ (0 ≤ (n_0 26) ∧ (n_0 26) ≤ 4) ∧ (¬ (n_0 26) = 0 → (n_0 25) < (n_0 24)) ∧ ((n_0 26) = 3 → 0 ≤ (n_0 27) ∧ (n_0 27) ≤ 9999) ∧ (0 ≤ lo_ ∧ lo_ ≤ (n_0 37)) ∧ (n_0 37) + dl_ ≤ (n_0 25) from by omega) (show Pz_ (f_0 32) (f_0 33) (400 * (n_0 29) + lo_) (400 * (n_0 29) + (n_0 37)) el_ from hp4) (show Strm_ (f_0 22) (n_0 23) K_ V_ P_ Q_ from hp5) (show Rt_ K_ V_ P_ Q_ (n_0 24) (n_0 25) (n_0 26) (n_0 27) (tkw_ (f_0 30) (f_0 31) (n_0 29)) j_ from hp6) (show Tap_ (f_0 22) from hp7)) rfl mt_X10_readProduct ml_X10_279 hK hw hA ⟨Nat.le_of_ble_eq_true rfl, Nat.le_of_ble_eq_true rfl⟩ (As := []) (rest := []) rfl rfl hl.1 (Nat.le_of_ble_eq_true rfl) 4 rfl dX10_readSum_1 (fun zz1_ n_1 f_1 H locs rr1_ hq1_ hw => ?_)
  obtain ⟨x24_1, x25_1, x26_1, x27_1, x37_1, x41_1, x42_1, y30_1, y31_1, y32_1, y33_1, en1_, ef1_, hq1_⟩ := hq1_
  rw [en1_, ef1_] at hw; clear en1_ ef1_
  have hw : WM D cy q (upN (upN (upN (upN (upN (upN (upN n_0 24 x24_1) 25 x25_1) 26 x26_1) 27 x27_1) 37 x37_1) 41 x41_1) 42 x42_1) (upF (upF (upF (upF f_0 30 y30_1) 31 y31_1) 32 y32_1) 33 y33_1) A0 H0 H locs := hw
  have rx24_1 : inR x24_1 := mRn_24 hw.1.2.2.1
  have rx25_1 : inR x25_1 := mRn_25 hw.1.2.2.1
  have rx26_1 : inR x26_1 := mRn_26 hw.1.2.2.1
  have rx27_1 : inR x27_1 := mRn_27 hw.1.2.2.1
  have rx37_1 : inR x37_1 := mRn_37 hw.1.2.2.1
  have rx41_1 : inR x41_1 := mRn_41 hw.1.2.2.1
  have rx42_1 : inR x42_1 := mRn_42 hw.1.2.2.1
  have hh1_ : (zz1_ = -1 ∧ Fr_ (f_0 32) (f_0 33) (y32_1) (y33_1) (400 * (n_0 29) + (n_0 37)) ∧ Kf_ (f_0 31) (f_0 30) (y31_1) (y30_1) (n_0 29) ∧ (0 ≤ (y31_1 ((n_0 29))) ∧ (y31_1 ((n_0 29))) ≤ 400) ∧ (∃ jn_ : Int, (x42_1) = P_ jn_ ∧ (1 ≤ (x41_1) ∧ (x41_1) ≤ 3) ∧ Mh_ S2_ K_ V_ j_ (x41_1) jn_ (cL_ (f_0 32) (f_0 33) (400 * (n_0 29) + lo_) (400 * (n_0 29) + (n_0 37))))) ∨ (zz1_ = 0 ∧ Fr_ (f_0 32) (f_0 33) (y32_1) (y33_1) (400 * (n_0 29) + (n_0 37)) ∧ Kf_ (f_0 31) (f_0 30) (y31_1) (y30_1) (n_0 29) ∧ (0 ≤ (y31_1 ((n_0 29))) ∧ (y31_1 ((n_0 29))) ≤ 400) ∧ ((0 ≤ (x25_1) ∧ (x25_1) ≤ (x24_1) ∧ (x24_1) ≤ (n_0 23)) ∧ (0 ≤ (y31_1 ((n_0 29))) ∧ (y31_1 ((n_0 29))) ≤ (x24_1)) ∧ (0 ≤ (x26_1) ∧ (x26_1) ≤ 4) ∧ (¬ (x26_1) = 0 → (x25_1) < (x24_1)) ∧ ((x26_1) = 3 → 0 ≤ (x27_1) ∧ (x27_1) ≤ 9999) ∧ (0 ≤ lo_ ∧ lo_ ≤ (x37_1)) ∧ (x37_1) + dl_ ≤ (x25_1)) ∧ (n_0 25) < (x25_1) ∧ (n_0 37) ≤ (x37_1) ∧ Pz_ (y32_1) (y33_1) (400 * (n_0 29) + lo_) (400 * (n_0 29) + (x37_1)) (el_ + 1) ∧ (∃ jn_ : Int, j_ < jn_ ∧ Rt_ K_ V_ P_ Q_ (x24_1) (x25_1) (x26_1) (x27_1) (tkw_ (y30_1) (y31_1) (n_0 29)) jn_ ∧ N2_ K_ jn_ ∧ Mg_ S2_ K_ V_ j_ jn_ (cL_ (f_0 32) (f_0 33) (400 * (n_0 29) + lo_) (400 * (n_0 29) + (n_0 37))) (cL_ (y32_1) (y33_1) (400 * (n_0 29) + lo_) (400 * (n_0 29) + (x37_1))))) := hq1_
  clear hq1_
  rcases hh1_ with ⟨ee1_, hh1_⟩ | ⟨ee1_, hh1_⟩
  · subst ee1_
    have hx_ := hh1_
    obtain ⟨jn_, fa_, fb_, fc_⟩ := hx_.2.2.2
    clear hh1_
    refine j_iconst E 5 rfl dX10_readSum_4 ?_
    refine j_icmp_ne E 8 10 rfl (rr (by decide)) (rr (by decide)) dX10_readSum_5 (by decide) (fun cc2_ => absurd cc2_ (by decide)) (fun _ => ?_)
    refine j_iconst E 9 rfl dX10_readSum_8 ?_
    exact hret 9 ((-1)) (upN (upN (upN (upN (upN (upN (upN n_0 24 x24_1) 25 x25_1) 26 x26_1) 27 x27_1) 37 x37_1) 41 x41_1) 42 x42_1) (upF (upF (upF (upF f_0 30 y30_1) 31 y31_1) 32 y32_1) 33 y33_1) _ _ ls hw (rr (by decide)) ⟨x24_1, x25_1, x26_1, x27_1, x37_1, x41_1, x42_1, y30_1, y31_1, y32_1, y33_1, rfl, rfl, Or.inl ⟨rfl, hx_.1, hx_.2.1, hx_.2.2.1, jn_, fa_, fb_, mSf_of fc_⟩⟩ dX10_readSum_9
  · subst ee1_
    have h0_ := hh1_
    clear hh1_
    obtain ⟨jn_, ja_, jb_, jc_⟩ := h0_.2.2.2.2.2.2.2
    have mg0_ : ∃ jj_ : Int, j_ < jj_ ∧ Rt_ K_ V_ P_ Q_ (x24_1) (x25_1) (x26_1) (x27_1) (tkw_ (y30_1) (y31_1) (n_0 29)) jj_ ∧ N2_ K_ jj_ ∧ Mg_ S3_ K_ V_ j_ jj_ (cL_ (f_0 32) (f_0 33) (400 * n_0 29 + lo_) (400 * n_0 29 + n_0 37)) (cL_ (y32_1) (y33_1) (400 * n_0 29 + lo_) (400 * n_0 29 + (x37_1))) := ⟨jn_, ja_, jb_, jc_.1, mS_of jc_.2⟩
    refine j_iconst E 5 rfl dX10_readSum_4 ?_
    refine j_icmp_ne E 8 10 rfl (rr (by decide)) (rr (by decide)) dX10_readSum_5 (by decide) (fun _ => ?_) (fun cc3_ => absurd cc3_ (by decide))
    have L10_4 : ∀ (k10 : Nat) (x24_c10 : Int) (x25_c10 : Int) (x26_c10 : Int) (x27_c10 : Int) (x37_c10 : Int) (x41_c10 : Int) (x42_c10 : Int) (y30_c10 : Int → Int) (y31_c10 : Int → Int) (y32_c10 : Int → Int) (y33_c10 : Int → Int) (H : Heap) (locs : List Loc) (ls : Array Slot), (((0 ≤ (x25_c10) ∧ (x25_c10) ≤ (x24_c10) ∧ (x24_c10) ≤ (n_0 23)) ∧ (0 ≤ (y31_c10 ((n_0 29))) ∧ (y31_c10 ((n_0 29))) ≤ (x24_c10)) ∧ (0 ≤ (x26_c10) ∧ (x26_c10) ≤ 4) ∧ (¬ (x26_c10) = 0 → (x25_c10) < (x24_c10)) ∧ ((x26_c10) = 3 → 0 ≤ (x27_c10) ∧ (x27_c10) ≤ 9999) ∧ (0 ≤ lo_ ∧ lo_ ≤ (x37_c10)) ∧ (x37_c10) + dl_ ≤ (x25_c10)) ∧ (n_0 25 < (x25_c10) ∧ n_0 37 ≤ (x37_c10)) ∧ Pz_ (y32_c10) (y33_c10) (400 * (n_0 29) + lo_) (400 * (n_0 29) + (x37_c10)) (el_ + 1) ∧ Fr_ (f_0 32) (f_0 33) (y32_c10) (y33_c10) (400 * n_0 29 + n_0 37) ∧ Kf_ (f_0 31) (f_0 30) (y31_c10) (y30_c10) (n_0 29) ∧ (∃ jj_ : Int, j_ < jj_ ∧ Rt_ K_ V_ P_ Q_ (x24_c10) (x25_c10) (x26_c10) (x27_c10) (tkw_ (y30_c10) (y31_c10) (n_0 29)) jj_ ∧ N2_ K_ jj_ ∧ Mg_ S3_ K_ V_ j_ jj_ (cL_ (f_0 32) (f_0 33) (400 * n_0 29 + lo_) (400 * n_0 29 + n_0 37)) (cL_ (y32_c10) (y33_c10) (400 * n_0 29 + lo_) (400 * n_0 29 + (x37_c10))))) → ((n_0 23) + 1 - (x25_c10)) < (k10 : Int) → WM D cy q (upN (upN (upN (upN (upN (upN (upN n_0 24 x24_c10) 25 x25_c10) 26 x26_c10) 27 x27_c10) 37 x37_c10) 41 x41_c10) 42 x42_c10) (upF (upF (upF (upF f_0 30 y30_c10) 31 y31_c10) 32 y32_c10) 33 y33_c10) A0 H0 H locs → lv_has ls 2 [(0, .ref (q 0))] → W p l e (rmd 5 0 0) s m ar below meth c H locs 0 0 QW (F0 m 10 ls []) := by
      intro k10
      induction k10 with
      | zero =>
        intro x24_c10 x25_c10 x26_c10 x27_c10 x37_c10 x41_c10 x42_c10 y30_c10 y31_c10 y32_c10 y33_c10 H locs ls iv10 ms10 hw hl
        exfalso; obtain ⟨ia_, ib_, ic_, id_, ie_, jj_, jl_, jr_, jm_⟩ := iv10; omega
      | succ k10 ih10 =>
        intro x24_c10 x25_c10 x26_c10 x27_c10 x37_c10 x41_c10 x42_c10 y30_c10 y31_c10 y32_c10 y33_c10 H locs ls iv10 ms10 hw hl
        obtain ⟨ia_, ib_, ic_, id_, ie_, jj_, jl_, jr_, jm_⟩ := iv10
        have rx24_c10 : inR x24_c10 := mRn_24 hw.1.2.2.1
        have rx25_c10 : inR x25_c10 := mRn_25 hw.1.2.2.1
        have rx26_c10 : inR x26_c10 := mRn_26 hw.1.2.2.1
        have rx27_c10 : inR x27_c10 := mRn_27 hw.1.2.2.1
        have rx37_c10 : inR x37_c10 := mRn_37 hw.1.2.2.1
        have rx41_c10 : inR x41_c10 := mRn_41 hw.1.2.2.1
        have rx42_c10 : inR x42_c10 := mRn_42 hw.1.2.2.1
        have L42_6 : ∀ (gw : Int) (H : Heap) (locs : List Loc) (ls : Array Slot), inR gw → (((gw = 3 ∧ (x27_c10) = 43) ∨ (gw = 4 ∧ (x27_c10) = 45)) ∧ (x26_c10) = 4) → WM D cy q (upN (upN (upN (upN (upN (upN (upN n_0 24 x24_c10) 25 x25_c10) 26 x26_c10) 27 x27_c10) 37 x37_c10) 41 x41_c10) 42 x42_c10) (upF (upF (upF (upF f_0 30 y30_c10) 31 y31_c10) 32 y32_c10) 33 y33_c10) A0 H0 H locs → lv_has ls 2 [(0, .ref (q 0))] → W p l e (rmd 5 0 0) s m ar below meth c H locs 0 0 QW (F0 m 42 ls [.int (J gw)]) := by
          intro gw H locs ls r_gw iv42 hw hl
          have kw_ : (K_ jj_ = 43 ∧ gw = 3) ∨ (K_ jj_ = 45 ∧ gw = 4) := by have q0_ := rt_k jr_; omega
          refine j_istore_n E 43 rfl [(1, .int (J gw)), (0, .ref (q 0))] dX10_readSum_42 rfl hl (by decide) rfl (fun ls hl => ?_)
          refine j_aload_n E 44 rfl dX10_readSum_43 rfl (lv_at hl 1 rfl) ?_
          refine m_callv E (c_X10_next l D cy q (upN (upN (upN (upN (upN (upN (upN n_0 24 x24_c10) 25 x25_c10) 26 x26_c10) 27 x27_c10) 37 x37_c10) 41 x41_c10) 42 x42_c10) (upF (upF (upF (upF f_0 30 y30_c10) 31 y31_c10) 32 y32_c10) 33 y33_c10)    (show 0 ≤ (n_0 29) ∧ (n_0 29) < 32 from by omega) (show 0 ≤ (n_0 23) ∧ (n_0 23) ≤ 400 from by omega) (show Wds_ (f_0 28) from hp2) (show 0 ≤ (x24_c10) ∧ (x24_c10) ≤ (n_0 23) from by omega) (show 0 ≤ (y31_c10 ((n_0 29))) ∧ (y31_c10 ((n_0 29))) ≤ (x24_c10) from by omega) (show Tap_ (f_0 22) from hp7)) rfl mt_X10_next ml_X10_269 hK hw hA ⟨Nat.le_of_ble_eq_true rfl, Nat.le_of_ble_eq_true rfl⟩ (As := []) (rest := []) rfl rfl hl.1 (Nat.le_of_ble_eq_true rfl) 47 rfl dX10_readSum_44 (fun n_8 f_8 H locs hq8_ hw => ?_)
          obtain ⟨x24_8, x25_8, x26_8, x27_8, y30_8, y31_8, en8_, ef8_, hq8_⟩ := hq8_
          rw [en8_, ef8_] at hw; clear en8_ ef8_
          have hw : WM D cy q (upN (upN (upN (upN (upN (upN (upN n_0 24 x24_8) 25 x25_8) 26 x26_8) 27 x27_8) 37 x37_c10) 41 x41_c10) 42 x42_c10) (upF (upF (upF (upF f_0 30 y30_8) 31 y31_8) 32 y32_c10) 33 y33_c10) A0 H0 H locs := hw
          have rx24_8 : inR x24_8 := mRn_24 hw.1.2.2.1
          have rx25_8 : inR x25_8 := mRn_25 hw.1.2.2.1
          have rx26_8 : inR x26_8 := mRn_26 hw.1.2.2.1
          have rx27_8 : inR x27_8 := mRn_27 hw.1.2.2.1
          have hh8_ : (0 ≤ (x25_8) ∧ (x25_8) ≤ (x24_8) ∧ (x24_8) ≤ (n_0 23)) ∧ (0 ≤ (y31_8 ((n_0 29))) ∧ (y31_8 ((n_0 29))) ≤ (x24_8)) ∧ (0 ≤ (x26_8) ∧ (x26_8) ≤ 4) ∧ (¬ (x26_8) = 0 → (x25_8) < (x24_8)) ∧ ((x26_8) = 3 → 0 ≤ (x27_8) ∧ (x27_8) ≤ 9999) ∧ (x24_c10) ≤ (x25_8) ∧ Kf_ (y31_c10) (y30_c10) (y31_8) (y30_8) (n_0 29) ∧ (((x26_8) ≤ 1 ∧ (y30_8) = (y30_c10) ∧ (y31_8) = (y31_c10)) ∨ (2 ≤ (x26_8) ∧ (y30_8) = upA (y30_c10) (400 * (n_0 29) + (y31_c10 ((n_0 29)))) (te_ (kd_ (x26_8) (x27_8)) (x27_8)) ∧ (y31_8) = upA (y31_c10) (n_0 29) ((y31_c10 ((n_0 29))) + 1))) ∧ Lx_ (f_0 22) (n_0 23) (x24_c10) (kd_ (x26_8) (x27_8)) (x27_8) (x25_8) (x24_8) ∧ Tv_ (x26_8) (x27_8) := hq8_
          clear hq8_
          have hk_ := hh8_.2.2.2.2.2.2.1
          have rn_ := rt_nx hp5 jr_ hh8_.2.2.2.2.2.2.2.2.1 rfl hh8_.2.2.2.2.2.2.2.2.2 hh8_.2.2.2.2.2.2.2.1
          refine j_aload_n E 48 rfl dX10_readSum_47 rfl (lv_at hl 1 rfl) ?_
          refine m_calli E (c_X10_readProduct l D cy q (upN (upN (upN (upN (upN (upN (upN n_0 24 x24_8) 25 x25_8) 26 x26_8) 27 x27_8) 37 x37_c10) 41 x41_c10) 42 x42_c10) (upF (upF (upF (upF f_0 30 y30_8) 31 y31_8) 32 y32_c10) 33 y33_c10)  (dl_ + 1) lo_ (el_ + 1) K_ V_ P_ Q_ (jj_ + 1)  (show 0 ≤ (n_0 29) ∧ (n_0 29) < 32 from by omega) (show 0 ≤ (n_0 23) ∧ (n_0 23) ≤ 400 from by omega) (show Wds_ (f_0 28) from hp2) (show 0 ≤ (dl_ + 1) ∧ (0 ≤ (x25_8) ∧ (x25_8) ≤ (x24_8) ∧ (x24_8) ≤ (n_0 23)) ∧ (0 ≤ (y31_8 ((n_0 29))) ∧ (y31_8 ((n_0 29))) ≤ (x24_8)) ∧ (0 ≤ (x26_8) ∧ (x26_8) ≤ 4) ∧ (¬ (x26_8) = 0 → (x25_8) < (x24_8)) ∧ ((x26_8) = 3 → 0 ≤ (x27_8) ∧ (x27_8) ≤ 9999) ∧ (0 ≤ lo_ ∧ lo_ ≤ (x37_c10)) ∧ (x37_c10) + (dl_ + 1) ≤ (x25_8) from by omega) (show Pz_ (y32_c10) (y33_c10) (400 * (n_0 29) + lo_) (400 * (n_0 29) + (x37_c10)) (el_ + 1) from ic_) (show Strm_ (f_0 22) (n_0 23) K_ V_ P_ Q_ from hp5) (show Rt_ K_ V_ P_ Q_ (x24_8) (x25_8) (x26_8) (x27_8) (tkw_ (y30_8) (y31_8) (n_0 29)) (jj_ + 1) from rn_) (show Tap_ (f_0 22) from hp7)) rfl mt_X10_readProduct ml_X10_279 hK hw hA ⟨Nat.le_of_ble_eq_true rfl, Nat.le_of_ble_eq_true rfl⟩ (As := []) (rest := []) rfl rfl hl.1 (Nat.le_of_ble_eq_true rfl) 51 rfl dX10_readSum_48 (fun zz9_ n_9 f_9 H locs rr9_ hq9_ hw => ?_)
          obtain ⟨x24_9, x25_9, x26_9, x27_9, x37_9, x41_9, x42_9, y30_9, y31_9, y32_9, y33_9, en9_, ef9_, hq9_⟩ := hq9_
          rw [en9_, ef9_] at hw; clear en9_ ef9_
          have hw : WM D cy q (upN (upN (upN (upN (upN (upN (upN n_0 24 x24_9) 25 x25_9) 26 x26_9) 27 x27_9) 37 x37_9) 41 x41_9) 42 x42_9) (upF (upF (upF (upF f_0 30 y30_9) 31 y31_9) 32 y32_9) 33 y33_9) A0 H0 H locs := hw
          have rx24_9 : inR x24_9 := mRn_24 hw.1.2.2.1
          have rx25_9 : inR x25_9 := mRn_25 hw.1.2.2.1
          have rx26_9 : inR x26_9 := mRn_26 hw.1.2.2.1
          have rx27_9 : inR x27_9 := mRn_27 hw.1.2.2.1
          have rx37_9 : inR x37_9 := mRn_37 hw.1.2.2.1
          have rx41_9 : inR x41_9 := mRn_41 hw.1.2.2.1
          have rx42_9 : inR x42_9 := mRn_42 hw.1.2.2.1
          have hh9_ : (zz9_ = -1 ∧ Fr_ (y32_c10) (y33_c10) (y32_9) (y33_9) (400 * (n_0 29) + (x37_c10)) ∧ Kf_ (y31_8) (y30_8) (y31_9) (y30_9) (n_0 29) ∧ (0 ≤ (y31_9 ((n_0 29))) ∧ (y31_9 ((n_0 29))) ≤ 400) ∧ (∃ jn_ : Int, (x42_9) = P_ jn_ ∧ (1 ≤ (x41_9) ∧ (x41_9) ≤ 3) ∧ Mh_ S2_ K_ V_ (jj_ + 1) (x41_9) jn_ (cL_ (y32_c10) (y33_c10) (400 * (n_0 29) + lo_) (400 * (n_0 29) + (x37_c10))))) ∨ (zz9_ = 0 ∧ Fr_ (y32_c10) (y33_c10) (y32_9) (y33_9) (400 * (n_0 29) + (x37_c10)) ∧ Kf_ (y31_8) (y30_8) (y31_9) (y30_9) (n_0 29) ∧ (0 ≤ (y31_9 ((n_0 29))) ∧ (y31_9 ((n_0 29))) ≤ 400) ∧ ((0 ≤ (x25_9) ∧ (x25_9) ≤ (x24_9) ∧ (x24_9) ≤ (n_0 23)) ∧ (0 ≤ (y31_9 ((n_0 29))) ∧ (y31_9 ((n_0 29))) ≤ (x24_9)) ∧ (0 ≤ (x26_9) ∧ (x26_9) ≤ 4) ∧ (¬ (x26_9) = 0 → (x25_9) < (x24_9)) ∧ ((x26_9) = 3 → 0 ≤ (x27_9) ∧ (x27_9) ≤ 9999) ∧ (0 ≤ lo_ ∧ lo_ ≤ (x37_9)) ∧ (x37_9) + (dl_ + 1) ≤ (x25_9)) ∧ (x25_8) < (x25_9) ∧ (x37_c10) ≤ (x37_9) ∧ Pz_ (y32_9) (y33_9) (400 * (n_0 29) + lo_) (400 * (n_0 29) + (x37_9)) ((el_ + 1) + 1) ∧ (∃ jn_ : Int, (jj_ + 1) < jn_ ∧ Rt_ K_ V_ P_ Q_ (x24_9) (x25_9) (x26_9) (x27_9) (tkw_ (y30_9) (y31_9) (n_0 29)) jn_ ∧ N2_ K_ jn_ ∧ Mg_ S2_ K_ V_ (jj_ + 1) jn_ (cL_ (y32_c10) (y33_c10) (400 * (n_0 29) + lo_) (400 * (n_0 29) + (x37_c10))) (cL_ (y32_9) (y33_9) (400 * (n_0 29) + lo_) (400 * (n_0 29) + (x37_9))))) := hq9_
          clear hq9_
          rcases hh9_ with ⟨ee9_, hh9_⟩ | ⟨ee9_, hh9_⟩
          · subst ee9_
            have hx2_ := hh9_
            obtain ⟨jn2_, ga_, gb_, gc_⟩ := hx2_.2.2.2
            clear hh9_
            refine j_iconst E 52 rfl dX10_readSum_51 ?_
            refine j_icmp_ne E 55 57 rfl (rr (by decide)) (rr (by decide)) dX10_readSum_52 (by decide) (fun cc10_ => absurd cc10_ (by decide)) (fun _ => ?_)
            refine j_iconst E 56 rfl dX10_readSum_55 ?_
            exact hret 56 ((-1)) (upN (upN (upN (upN (upN (upN (upN n_0 24 x24_9) 25 x25_9) 26 x26_9) 27 x27_9) 37 x37_9) 41 x41_9) 42 x42_9) (upF (upF (upF (upF f_0 30 y30_9) 31 y31_9) 32 y32_9) 33 y33_9) _ _ ls hw (rr (by decide)) ⟨x24_9, x25_9, x26_9, x27_9, x37_9, x41_9, x42_9, y30_9, y31_9, y32_9, y33_9, rfl, rfl, Or.inl ⟨rfl, Fr_tr id_ hx2_.1 (by omega), tk_tr ie_ (tk_tr hk_ hx2_.2.1), hx2_.2.2.1, jn2_, ga_, gb_, mSf_add jm_.2 (by have q0_ := rt_k jr_; omega) gc_⟩⟩ dX10_readSum_56
          · subst ee9_
            have h2_ := hh9_
            clear hh9_
            have hb2_ := (h2_.2.2.2.2.2.2.1).2
            obtain ⟨jn2_, ka_, kb_, kc_⟩ := h2_.2.2.2.2.2.2.2
            refine j_iconst E 52 rfl dX10_readSum_51 ?_
            refine j_icmp_ne E 55 57 rfl (rr (by decide)) (rr (by decide)) dX10_readSum_52 (by decide) (fun _ => ?_) (fun cc11_ => absurd cc11_ (by decide))
            refine j_aload_n E 58 rfl dX10_readSum_57 rfl (lv_at hl 1 rfl) ?_
            refine j_iload_n E 59 rfl dX10_readSum_58 rfl (lv_at hl 0 rfl) ?_
            refine j_iconst E 60 rfl dX10_readSum_59 ?_
            refine m_callv E (c_X10_emits l D cy q (upN (upN (upN (upN (upN (upN (upN n_0 24 x24_9) 25 x25_9) 26 x26_9) 27 x27_9) 37 x37_9) 41 x41_9) 42 x42_9) (upF (upF (upF (upF f_0 30 y30_9) 31 y31_9) 32 y32_9) 33 y33_9) gw 0  r_gw (rr (by decide)) (show 0 ≤ (n_0 29) ∧ (n_0 29) < 32 from by omega) (show 0 ≤ (x37_9) ∧ (x37_9) ≤ 399 from by omega)) rfl mt_X10_emits ml_X10_265 hK hw hA ⟨Nat.le_of_ble_eq_true rfl, Nat.le_of_ble_eq_true rfl⟩ (As := [.int (J gw), .int (J 0)]) (rest := []) rfl rfl hl.1 (Nat.le_of_ble_eq_true rfl) 63 rfl dX10_readSum_60 (fun n_12 f_12 H locs hq12_ hw => ?_)
            obtain ⟨x37_12, y32_12, y33_12, en12_, ef12_, hq12_⟩ := hq12_
            rw [en12_, ef12_] at hw; clear en12_ ef12_
            have hw : WM D cy q (upN (upN (upN (upN (upN (upN (upN n_0 24 x24_9) 25 x25_9) 26 x26_9) 27 x27_9) 37 x37_12) 41 x41_9) 42 x42_9) (upF (upF (upF (upF f_0 30 y30_9) 31 y31_9) 32 y32_12) 33 y33_12) A0 H0 H locs := hw
            have rx37_12 : inR x37_12 := mRn_37 hw.1.2.2.1
            have hh12_ : (y32_12) = upA (y32_9) (400 * (n_0 29) + (x37_9)) gw ∧ (y33_12) = upA (y33_9) (400 * (n_0 29) + (x37_9)) (0 : Int) ∧ (x37_12) = (x37_9) + 1 := hq12_
            clear hq12_
            have hm_ : (x37_12) = (x37_9) + 1 := hh12_.2.2
            have hz_ : Pz_ (y32_12) (y33_12) (400 * n_0 29 + lo_) (400 * n_0 29 + (x37_12)) (el_ + 1) := by rw [hh12_.1, hh12_.2.1, show 400 * n_0 29 + (x37_12) = 400 * n_0 29 + (x37_9) + 1 by omega]; exact Pz_ext h2_.2.2.2.2.2.2.1 (by omega) (by omega) (Or.inr (Or.inr (Or.inr (Or.inr ⟨by omega, by omega, by omega, fun h9_ => by first | (exfalso; omega) | exact h6_ (by omega)⟩))))
            have hf_ : Fr_ (y32_9) (y33_9) (y32_12) (y33_12) (400 * n_0 29 + (x37_9)) := by rw [hh12_.1, hh12_.2.1]; exact Fr_up (by omega)
            have hc_ : cL_ (y32_12) (y33_12) (400 * n_0 29 + lo_) (400 * n_0 29 + (x37_12)) = cL_ (y32_9) (y33_9) (400 * n_0 29 + lo_) (400 * n_0 29 + (x37_9)) ++ [cd_ gw (0 : Int)] := by rw [hh12_.1, hh12_.2.1, show 400 * n_0 29 + (x37_12) = 400 * n_0 29 + (x37_9) + 1 by omega]; exact cL_ext (by omega)
            refine j_goto E 10 dX10_readSum_63 (by decide) ?_
            exact ih10  x24_9 x25_9 x26_9 x27_9 x37_12 x41_9 x42_9 y30_9 y31_9 y32_12 y33_12 H locs ls  (⟨by omega, by omega, hz_, Fr_tr id_ (Fr_tr h2_.1 hf_ (by omega)) (by omega), tk_tr ie_ (tk_tr hk_ h2_.2.1), jn2_, by omega, kb_, kc_.1, mS_add jm_.2 (by have q0_ := rt_k jr_; omega) kc_.2 kc_.1 hc_ kw_⟩) (by omega) hw (lv_sub hl [1] rfl)
        have L28_13 : ∀ (H : Heap) (locs : List Loc) (ls : Array Slot), ((x26_c10) = 4 ∧ ((x27_c10) = 43 ∨ (x27_c10) = 45)) → WM D cy q (upN (upN (upN (upN (upN (upN (upN n_0 24 x24_c10) 25 x25_c10) 26 x26_c10) 27 x27_c10) 37 x37_c10) 41 x41_c10) 42 x42_c10) (upF (upF (upF (upF f_0 30 y30_c10) 31 y31_c10) 32 y32_c10) 33 y33_c10) A0 H0 H locs → lv_has ls 2 [(0, .ref (q 0))] → W p l e (rmd 5 0 0) s m ar below meth c H locs 0 0 QW (F0 m 28 ls []) := by
          intro H locs ls iv28 hw hl
          refine j_aload_n E 29 rfl dX10_readSum_28 rfl (lv_at hl 0 rfl) ?_
          refine m_get_27 E hK hw x27_c10 rfl 32 rfl dX10_readSum_29 (fun _ => ?_)
          refine j_bipush E 34 rfl dX10_readSum_32 (by decide) ?_
          refine j_icmp_ne E 37 41 rfl rx27_c10 (rr (by decide)) dX10_readSum_34 (by decide) (fun cc15_ => ?_) (fun cc15_ => ?_)
          · refine j_iconst E 42 rfl dX10_readSum_41 ?_
            exact L42_6 4 H locs ls (rr (by decide)) (by omega) hw (lv_sub hl [0] rfl)
          · refine j_iconst E 38 rfl dX10_readSum_37 ?_
            refine j_goto E 42 dX10_readSum_38 (by decide) ?_
            exact L42_6 3 H locs ls (rr (by decide)) (by omega) hw (lv_sub hl [0] rfl)
        refine j_aload_n E 11 rfl dX10_readSum_10 rfl (lv_at hl 0 rfl) ?_
        refine j_bipush E 13 rfl dX10_readSum_11 (by decide) ?_
        refine m_callp (po := fun z_0 => (z_0 = 1 ∧ (x26_c10) = 4 ∧ (x27_c10) = (43 : Int)) ∨ (z_0 = 0 ∧ ¬ ((x26_c10) = 4 ∧ (x27_c10) = (43 : Int)))) E (c_X10_isSign l D cy q (upN (upN (upN (upN (upN (upN (upN n_0 24 x24_c10) 25 x25_c10) 26 x26_c10) 27 x27_c10) 37 x37_c10) 41 x41_c10) 42 x42_c10) (upF (upF (upF (upF f_0 30 y30_c10) 31 y31_c10) 32 y32_c10) 33 y33_c10) 43  (rr (by decide)) ) rfl mt_X10_isSign ml_X10_276 hK hw hA ⟨Nat.le_of_ble_eq_true rfl, Nat.le_of_ble_eq_true rfl⟩ (As := [.int (J 43)]) (rest := []) rfl rfl hl.1 (Nat.le_of_ble_eq_true rfl) 16 rfl dX10_readSum_13 (fun zz16_ H locs rr16_ hq16_ hw => ?_)
        have hh16_ : (zz16_ = 1 ∧ (x26_c10) = 4 ∧ (x27_c10) = (43 : Int)) ∨ (zz16_ = 0 ∧ ¬ ((x26_c10) = 4 ∧ (x27_c10) = (43 : Int))) := hq16_
        clear hq16_
        rcases hh16_ with ⟨ee16_, hh16_⟩ | ⟨ee16_, hh16_⟩
        · subst ee16_
          refine j_if_ne E 19 28 rfl (rr (by decide)) dX10_readSum_16 (by decide) (fun _ => ?_) (fun cc17_ => absurd cc17_ (by decide))
          exact L28_13  H locs ls  (by omega) hw (lv_sub hl [0] rfl)
        · subst ee16_
          refine j_if_ne E 19 28 rfl (rr (by decide)) dX10_readSum_16 (by decide) (fun cc18_ => absurd cc18_ (by decide)) (fun _ => ?_)
          refine j_aload_n E 20 rfl dX10_readSum_19 rfl (lv_at hl 0 rfl) ?_
          refine j_bipush E 22 rfl dX10_readSum_20 (by decide) ?_
          refine m_callp (po := fun z_0 => (z_0 = 1 ∧ (x26_c10) = 4 ∧ (x27_c10) = (45 : Int)) ∨ (z_0 = 0 ∧ ¬ ((x26_c10) = 4 ∧ (x27_c10) = (45 : Int)))) E (c_X10_isSign l D cy q (upN (upN (upN (upN (upN (upN (upN n_0 24 x24_c10) 25 x25_c10) 26 x26_c10) 27 x27_c10) 37 x37_c10) 41 x41_c10) 42 x42_c10) (upF (upF (upF (upF f_0 30 y30_c10) 31 y31_c10) 32 y32_c10) 33 y33_c10) 45  (rr (by decide)) ) rfl mt_X10_isSign ml_X10_276 hK hw hA ⟨Nat.le_of_ble_eq_true rfl, Nat.le_of_ble_eq_true rfl⟩ (As := [.int (J 45)]) (rest := []) rfl rfl hl.1 (Nat.le_of_ble_eq_true rfl) 25 rfl dX10_readSum_22 (fun zz19_ H locs rr19_ hq19_ hw => ?_)
          have hh19_ : (zz19_ = 1 ∧ (x26_c10) = 4 ∧ (x27_c10) = (45 : Int)) ∨ (zz19_ = 0 ∧ ¬ ((x26_c10) = 4 ∧ (x27_c10) = (45 : Int))) := hq19_
          clear hq19_
          rcases hh19_ with ⟨ee19_, hh19_⟩ | ⟨ee19_, hh19_⟩
          · subst ee19_
            refine j_if_eq E 28 66 rfl (rr (by decide)) dX10_readSum_25 (by decide) (fun cc20_ => absurd cc20_ (by decide)) (fun _ => ?_)
            exact L28_13  H locs ls  (by omega) hw (lv_sub hl [0] rfl)
          · subst ee19_
            refine j_if_eq E 28 66 rfl (rr (by decide)) dX10_readSum_25 (by decide) (fun _ => ?_) (fun cc21_ => absurd cc21_ (by decide))
            refine j_iconst E 67 rfl dX10_readSum_66 ?_
            exact hret 67 0 (upN (upN (upN (upN (upN (upN (upN n_0 24 x24_c10) 25 x25_c10) 26 x26_c10) 27 x27_c10) 37 x37_c10) 41 x41_c10) 42 x42_c10) (upF (upF (upF (upF f_0 30 y30_c10) 31 y31_c10) 32 y32_c10) 33 y33_c10) _ _ ls hw (rr (by decide)) ⟨x24_c10, x25_c10, x26_c10, x27_c10, x37_c10, x41_c10, x42_c10, y30_c10, y31_c10, y32_c10, y33_c10, rfl, rfl, Or.inr ⟨rfl, id_, ie_, by omega, by omega, by omega, by omega, ic_, jj_, jl_, jr_, ⟨jm_.1.1, jm_.1.2, (by have q0_ := rt_k jr_; omega), (by have q0_ := rt_k jr_; omega)⟩, jm_.2⟩⟩ dX10_readSum_67
    exact L10_4 _  x24_1 x25_1 x26_1 x27_1 x37_1 x41_1 x42_1 y30_1 y31_1 y32_1 y33_1 H locs ls  (⟨by omega, by omega, h0_.2.2.2.2.2.2.1, h0_.1, h0_.2.1, mg0_⟩) (mk_lt _) hw (lv_sub hl [0] rfl)
set_option maxHeartbeats 4000000 in
set_option maxRecDepth 100000 in
theorem c_X10_readCompared (l : Launch) (D : va_G) (cy : Nat → ClassId) (q : Nat → Nat) (n_0 : Nat → Int) (f_0 : Nat → Int → Int) (dl_ : Int) (lo_ : Int) (el_ : Int) (K_ : Int → Int) (V_ : Int → Int) (P_ : Int → Int) (Q_ : Int → Int) (j_ : Int) (hp0 : 0 ≤ (n_0 29) ∧ (n_0 29) < 32) (hp1 : 0 ≤ (n_0 23) ∧ (n_0 23) ≤ 400) (hp2 : Wds_ (f_0 28)) (hp3 : 0 ≤ dl_ ∧ (0 ≤ (n_0 25) ∧ (n_0 25) ≤ (n_0 24) ∧ (n_0 24) ≤ (n_0 23)) ∧ (0 ≤ (f_0 31 ((n_0 29))) ∧ (f_0 31 ((n_0 29))) ≤ (n_0 24)) ∧ (0 ≤ (n_0 26) ∧ (n_0 26) ≤ 4) ∧ (¬ (n_0 26) = 0 → (n_0 25) < (n_0 24)) ∧ ((n_0 26) = 3 → 0 ≤ (n_0 27) ∧ (n_0 27) ≤ 9999) ∧ (0 ≤ lo_ ∧ lo_ ≤ (n_0 37)) ∧ (n_0 37) + dl_ ≤ (n_0 25)) (hp4 : Pz_ (f_0 32) (f_0 33) (400 * (n_0 29) + lo_) (400 * (n_0 29) + (n_0 37)) el_) (hp5 : Strm_ (f_0 22) (n_0 23) K_ V_ P_ Q_) (hp6 : Rt_ K_ V_ P_ Q_ (n_0 24) (n_0 25) (n_0 26) (n_0 27) (tkw_ (f_0 30) (f_0 31) (n_0 29)) j_) (hp7 : Tap_ (f_0 22)) : MC l D cy q yX10_readCompared cX10_readCompared 2 (some .int) 6 [] n_0 f_0 (PI (fun (z_0 : Int) (n_2 : Nat → Int) (f_2 : Nat → Int → Int) => ∃ (x24_2 : Int) (x25_2 : Int) (x26_2 : Int) (x27_2 : Int) (x37_2 : Int) (x41_2 : Int) (x42_2 : Int) (y30_2 : Int → Int) (y31_2 : Int → Int) (y32_2 : Int → Int) (y33_2 : Int → Int) , n_2 = upN (upN (upN (upN (upN (upN (upN n_0 24 x24_2) 25 x25_2) 26 x26_2) 27 x27_2) 37 x37_2) 41 x41_2) 42 x42_2 ∧ f_2 = upF (upF (upF (upF f_0 30 y30_2) 31 y31_2) 32 y32_2) 33 y33_2 ∧ ((z_0 = -1 ∧ Fr_ (f_0 32) (f_0 33) (y32_2) (y33_2) (400 * (n_0 29) + (n_0 37)) ∧ Kf_ (f_0 31) (f_0 30) (y31_2) (y30_2) (n_0 29) ∧ (0 ≤ (y31_2 ((n_0 29))) ∧ (y31_2 ((n_0 29))) ≤ 400) ∧ (∃ jn_ : Int, (x42_2) = P_ jn_ ∧ (1 ≤ (x41_2) ∧ (x41_2) ≤ 3) ∧ Mh5_ K_ V_ j_ (x41_2) jn_ (cL_ (f_0 32) (f_0 33) (400 * (n_0 29) + lo_) (400 * (n_0 29) + (n_0 37))))) ∨ (z_0 = 0 ∧ Fr_ (f_0 32) (f_0 33) (y32_2) (y33_2) (400 * (n_0 29) + (n_0 37)) ∧ Kf_ (f_0 31) (f_0 30) (y31_2) (y30_2) (n_0 29) ∧ (0 ≤ (y31_2 ((n_0 29))) ∧ (y31_2 ((n_0 29))) ≤ 400) ∧ ((0 ≤ (x25_2) ∧ (x25_2) ≤ (x24_2) ∧ (x24_2) ≤ (n_0 23)) ∧ (0 ≤ (y31_2 ((n_0 29))) ∧ (y31_2 ((n_0 29))) ≤ (x24_2)) ∧ (0 ≤ (x26_2) ∧ (x26_2) ≤ 4) ∧ (¬ (x26_2) = 0 → (x25_2) < (x24_2)) ∧ ((x26_2) = 3 → 0 ≤ (x27_2) ∧ (x27_2) ≤ 9999) ∧ (0 ≤ lo_ ∧ lo_ ≤ (x37_2)) ∧ (x37_2) + dl_ ≤ (x25_2)) ∧ (n_0 25) < (x25_2) ∧ (n_0 37) ≤ (x37_2) ∧ Pz_ (y32_2) (y33_2) (400 * (n_0 29) + lo_) (400 * (n_0 29) + (x37_2)) (el_ + 1) ∧ (∃ jn_ : Int, j_ < jn_ ∧ Rt_ K_ V_ P_ Q_ (x24_2) (x25_2) (x26_2) (x27_2) (tkw_ (y30_2) (y31_2) (n_0 29)) jn_ ∧ M5_ K_ V_ j_ jn_ (cL_ (f_0 32) (f_0 33) (400 * (n_0 29) + lo_) (400 * (n_0 29) + (n_0 37))) (cL_ (y32_2) (y33_2) (400 * (n_0 29) + lo_) (400 * (n_0 29) + (x37_2)))))))) := by
  refine MC.ofi rfl (Nat.le_of_ble_eq_true rfl) ?_
  intro p e s m below meth c ls ar QW A0 H0 H locs E hK hA hw hl hret
  have hl : lv_has ls 2 [(0, .ref (q 0))] := hl
  have hb_ : 0 ≤ el_ ∧ el_ ≤ 400 * n_0 29 + n_0 37 - (400 * n_0 29 + lo_) := hp4.2
  have j0_ := hp6.1
  refine j_aload_n E 1 rfl dX10_readCompared_0 rfl (lv_at hl 0 rfl) ?_
  refine m_calli E (c_X10_readSum l D cy q (n_0) (f_0)  dl_ lo_ el_ K_ V_ P_ Q_ j_  (show 0 ≤ (n_0 29) ∧ (n_0 29) < 32 from by omega) (show 0 ≤ (n_0 23) ∧ (n_0 23) ≤ 400 from by omega) (show Wds_ (f_0 28) from hp2) (show 0 ≤ dl_ ∧ (0 ≤ (n_0 25) ∧ (n_0 25) ≤ (n_0 24) ∧ (n_0 24) ≤ (n_0 23)) ∧ (0 ≤ (f_0 31 ((n_0 29))) ∧ (f_0 31 ((n_0 29))) ≤ (n_0 24)) ∧ (0 ≤ (n_0 26) ∧ (n_0 26) ≤ 4) ∧ (¬ (n_0 26) = 0 → (n_0 25) < (n_0 24)) ∧ ((n_0 26) = 3 → 0 ≤ (n_0 27) ∧ (n_0 27) ≤ 9999) ∧ (0 ≤ lo_ ∧ lo_ ≤ (n_0 37)) ∧ (n_0 37) + dl_ ≤ (n_0 25) from by omega) (show Pz_ (f_0 32) (f_0 33) (400 * (n_0 29) + lo_) (400 * (n_0 29) + (n_0 37)) el_ from hp4) (show Strm_ (f_0 22) (n_0 23) K_ V_ P_ Q_ from hp5) (show Rt_ K_ V_ P_ Q_ (n_0 24) (n_0 25) (n_0 26) (n_0 27) (tkw_ (f_0 30) (f_0 31) (n_0 29)) j_ from hp6) (show Tap_ (f_0 22) from hp7)) rfl mt_X10_readSum ml_X10_282 hK hw hA ⟨Nat.le_of_ble_eq_true rfl, Nat.le_of_ble_eq_true rfl⟩ (As := []) (rest := []) rfl rfl hl.1 (Nat.le_of_ble_eq_true rfl) 4 rfl dX10_readCompared_1 (fun zz1_ n_1 f_1 H locs rr1_ hq1_ hw => ?_)
  obtain ⟨x24_1, x25_1, x26_1, x27_1, x37_1, x41_1, x42_1, y30_1, y31_1, y32_1, y33_1, en1_, ef1_, hq1_⟩ := hq1_
  rw [en1_, ef1_] at hw; clear en1_ ef1_
  have hw : WM D cy q (upN (upN (upN (upN (upN (upN (upN n_0 24 x24_1) 25 x25_1) 26 x26_1) 27 x27_1) 37 x37_1) 41 x41_1) 42 x42_1) (upF (upF (upF (upF f_0 30 y30_1) 31 y31_1) 32 y32_1) 33 y33_1) A0 H0 H locs := hw
  have rx24_1 : inR x24_1 := mRn_24 hw.1.2.2.1
  have rx25_1 : inR x25_1 := mRn_25 hw.1.2.2.1
  have rx26_1 : inR x26_1 := mRn_26 hw.1.2.2.1
  have rx27_1 : inR x27_1 := mRn_27 hw.1.2.2.1
  have rx37_1 : inR x37_1 := mRn_37 hw.1.2.2.1
  have rx41_1 : inR x41_1 := mRn_41 hw.1.2.2.1
  have rx42_1 : inR x42_1 := mRn_42 hw.1.2.2.1
  have hh1_ : (zz1_ = -1 ∧ Fr_ (f_0 32) (f_0 33) (y32_1) (y33_1) (400 * (n_0 29) + (n_0 37)) ∧ Kf_ (f_0 31) (f_0 30) (y31_1) (y30_1) (n_0 29) ∧ (0 ≤ (y31_1 ((n_0 29))) ∧ (y31_1 ((n_0 29))) ≤ 400) ∧ (∃ jn_ : Int, (x42_1) = P_ jn_ ∧ (1 ≤ (x41_1) ∧ (x41_1) ≤ 3) ∧ Mh_ S3_ K_ V_ j_ (x41_1) jn_ (cL_ (f_0 32) (f_0 33) (400 * (n_0 29) + lo_) (400 * (n_0 29) + (n_0 37))))) ∨ (zz1_ = 0 ∧ Fr_ (f_0 32) (f_0 33) (y32_1) (y33_1) (400 * (n_0 29) + (n_0 37)) ∧ Kf_ (f_0 31) (f_0 30) (y31_1) (y30_1) (n_0 29) ∧ (0 ≤ (y31_1 ((n_0 29))) ∧ (y31_1 ((n_0 29))) ≤ 400) ∧ ((0 ≤ (x25_1) ∧ (x25_1) ≤ (x24_1) ∧ (x24_1) ≤ (n_0 23)) ∧ (0 ≤ (y31_1 ((n_0 29))) ∧ (y31_1 ((n_0 29))) ≤ (x24_1)) ∧ (0 ≤ (x26_1) ∧ (x26_1) ≤ 4) ∧ (¬ (x26_1) = 0 → (x25_1) < (x24_1)) ∧ ((x26_1) = 3 → 0 ≤ (x27_1) ∧ (x27_1) ≤ 9999) ∧ (0 ≤ lo_ ∧ lo_ ≤ (x37_1)) ∧ (x37_1) + dl_ ≤ (x25_1)) ∧ (n_0 25) < (x25_1) ∧ (n_0 37) ≤ (x37_1) ∧ Pz_ (y32_1) (y33_1) (400 * (n_0 29) + lo_) (400 * (n_0 29) + (x37_1)) (el_ + 1) ∧ (∃ jn_ : Int, j_ < jn_ ∧ Rt_ K_ V_ P_ Q_ (x24_1) (x25_1) (x26_1) (x27_1) (tkw_ (y30_1) (y31_1) (n_0 29)) jn_ ∧ N4_ K_ jn_ ∧ Mg_ S3_ K_ V_ j_ jn_ (cL_ (f_0 32) (f_0 33) (400 * (n_0 29) + lo_) (400 * (n_0 29) + (n_0 37))) (cL_ (y32_1) (y33_1) (400 * (n_0 29) + lo_) (400 * (n_0 29) + (x37_1))))) := hq1_
  clear hq1_
  rcases hh1_ with ⟨ee1_, hh1_⟩ | ⟨ee1_, hh1_⟩
  · subst ee1_
    have hx_ := hh1_
    obtain ⟨jn_, fa_, fb_, fc_⟩ := hx_.2.2.2
    clear hh1_
    refine j_iconst E 5 rfl dX10_readCompared_4 ?_
    refine j_icmp_ne E 8 10 rfl (rr (by decide)) (rr (by decide)) dX10_readCompared_5 (by decide) (fun cc2_ => absurd cc2_ (by decide)) (fun _ => ?_)
    refine j_iconst E 9 rfl dX10_readCompared_8 ?_
    exact hret 9 ((-1)) (upN (upN (upN (upN (upN (upN (upN n_0 24 x24_1) 25 x25_1) 26 x26_1) 27 x27_1) 37 x37_1) 41 x41_1) 42 x42_1) (upF (upF (upF (upF f_0 30 y30_1) 31 y31_1) 32 y32_1) 33 y33_1) _ _ ls hw (rr (by decide)) ⟨x24_1, x25_1, x26_1, x27_1, x37_1, x41_1, x42_1, y30_1, y31_1, y32_1, y33_1, rfl, rfl, Or.inl ⟨rfl, hx_.1, hx_.2.1, hx_.2.2.1, jn_, fa_, fb_, m5_f1 fc_⟩⟩ dX10_readCompared_9
  · subst ee1_
    have h0_ := hh1_
    clear hh1_
    have hb1_ := (h0_.2.2.2.2.2.2.1).2
    obtain ⟨js_, ja_, jb_, jc_⟩ := h0_.2.2.2.2.2.2.2
    refine j_iconst E 5 rfl dX10_readCompared_4 ?_
    refine j_icmp_ne E 8 10 rfl (rr (by decide)) (rr (by decide)) dX10_readCompared_5 (by decide) (fun _ => ?_) (fun cc3_ => absurd cc3_ (by decide))
    have L73_4 : ∀ (gw : Int) (H : Heap) (locs : List Loc) (ls : Array Slot), inR gw → (((gw = 7 ∧ (x27_1) = 60) ∨ (gw = 8 ∧ (x27_1) = 61) ∨ (gw = 9 ∧ (x27_1) = 62)) ∧ (x26_1) = 4) → WM D cy q (upN (upN (upN (upN (upN (upN (upN n_0 24 x24_1) 25 x25_1) 26 x26_1) 27 x27_1) 37 x37_1) 41 x41_1) 42 x42_1) (upF (upF (upF (upF f_0 30 y30_1) 31 y31_1) 32 y32_1) 33 y33_1) A0 H0 H locs → lv_has ls 2 [(0, .ref (q 0))] → W p l e (rmd 6 0 0) s m ar below meth c H locs 0 0 QW (F0 m 73 ls [.int (J gw)]) := by
      intro gw H locs ls r_gw iv73 hw hl
      have kw_ : (K_ js_ = 60 ∧ gw = 7) ∨ (K_ js_ = 61 ∧ gw = 8) ∨ (K_ js_ = 62 ∧ gw = 9) := by have q0_ := rt_k jb_; omega
      refine j_istore_n E 74 rfl [(1, .int (J gw)), (0, .ref (q 0))] dX10_readCompared_73 rfl hl (by decide) rfl (fun ls hl => ?_)
      refine j_aload_n E 75 rfl dX10_readCompared_74 rfl (lv_at hl 1 rfl) ?_
      refine m_callv E (c_X10_next l D cy q (upN (upN (upN (upN (upN (upN (upN n_0 24 x24_1) 25 x25_1) 26 x26_1) 27 x27_1) 37 x37_1) 41 x41_1) 42 x42_1) (upF (upF (upF (upF f_0 30 y30_1) 31 y31_1) 32 y32_1) 33 y33_1)    (show 0 ≤ (n_0 29) ∧ (n_0 29) < 32 from by omega) (show 0 ≤ (n_0 23) ∧ (n_0 23) ≤ 400 from by omega) (show Wds_ (f_0 28) from hp2) (show 0 ≤ (x24_1) ∧ (x24_1) ≤ (n_0 23) from by omega) (show 0 ≤ (y31_1 ((n_0 29))) ∧ (y31_1 ((n_0 29))) ≤ (x24_1) from by omega) (show Tap_ (f_0 22) from hp7)) rfl mt_X10_next ml_X10_269 hK hw hA ⟨Nat.le_of_ble_eq_true rfl, Nat.le_of_ble_eq_true rfl⟩ (As := []) (rest := []) rfl rfl hl.1 (Nat.le_of_ble_eq_true rfl) 78 rfl dX10_readCompared_75 (fun n_6 f_6 H locs hq6_ hw => ?_)
      obtain ⟨x24_6, x25_6, x26_6, x27_6, y30_6, y31_6, en6_, ef6_, hq6_⟩ := hq6_
      rw [en6_, ef6_] at hw; clear en6_ ef6_
      have hw : WM D cy q (upN (upN (upN (upN (upN (upN (upN n_0 24 x24_6) 25 x25_6) 26 x26_6) 27 x27_6) 37 x37_1) 41 x41_1) 42 x42_1) (upF (upF (upF (upF f_0 30 y30_6) 31 y31_6) 32 y32_1) 33 y33_1) A0 H0 H locs := hw
      have rx24_6 : inR x24_6 := mRn_24 hw.1.2.2.1
      have rx25_6 : inR x25_6 := mRn_25 hw.1.2.2.1
      have rx26_6 : inR x26_6 := mRn_26 hw.1.2.2.1
      have rx27_6 : inR x27_6 := mRn_27 hw.1.2.2.1
      have hh6_ : (0 ≤ (x25_6) ∧ (x25_6) ≤ (x24_6) ∧ (x24_6) ≤ (n_0 23)) ∧ (0 ≤ (y31_6 ((n_0 29))) ∧ (y31_6 ((n_0 29))) ≤ (x24_6)) ∧ (0 ≤ (x26_6) ∧ (x26_6) ≤ 4) ∧ (¬ (x26_6) = 0 → (x25_6) < (x24_6)) ∧ ((x26_6) = 3 → 0 ≤ (x27_6) ∧ (x27_6) ≤ 9999) ∧ (x24_1) ≤ (x25_6) ∧ Kf_ (y31_1) (y30_1) (y31_6) (y30_6) (n_0 29) ∧ (((x26_6) ≤ 1 ∧ (y30_6) = (y30_1) ∧ (y31_6) = (y31_1)) ∨ (2 ≤ (x26_6) ∧ (y30_6) = upA (y30_1) (400 * (n_0 29) + (y31_1 ((n_0 29)))) (te_ (kd_ (x26_6) (x27_6)) (x27_6)) ∧ (y31_6) = upA (y31_1) (n_0 29) ((y31_1 ((n_0 29))) + 1))) ∧ Lx_ (f_0 22) (n_0 23) (x24_1) (kd_ (x26_6) (x27_6)) (x27_6) (x25_6) (x24_6) ∧ Tv_ (x26_6) (x27_6) := hq6_
      clear hq6_
      have hk_ := hh6_.2.2.2.2.2.2.1
      have rn_ := rt_nx hp5 jb_ hh6_.2.2.2.2.2.2.2.2.1 rfl hh6_.2.2.2.2.2.2.2.2.2 hh6_.2.2.2.2.2.2.2.1
      refine j_aload_n E 79 rfl dX10_readCompared_78 rfl (lv_at hl 1 rfl) ?_
      refine m_calli E (c_X10_readSum l D cy q (upN (upN (upN (upN (upN (upN (upN n_0 24 x24_6) 25 x25_6) 26 x26_6) 27 x27_6) 37 x37_1) 41 x41_1) 42 x42_1) (upF (upF (upF (upF f_0 30 y30_6) 31 y31_6) 32 y32_1) 33 y33_1)  (dl_ + 1) lo_ (el_ + 1) K_ V_ P_ Q_ (js_ + 1)  (show 0 ≤ (n_0 29) ∧ (n_0 29) < 32 from by omega) (show 0 ≤ (n_0 23) ∧ (n_0 23) ≤ 400 from by omega) (show Wds_ (f_0 28) from hp2) (show 0 ≤ (dl_ + 1) ∧ (0 ≤ (x25_6) ∧ (x25_6) ≤ (x24_6) ∧ (x24_6) ≤ (n_0 23)) ∧ (0 ≤ (y31_6 ((n_0 29))) ∧ (y31_6 ((n_0 29))) ≤ (x24_6)) ∧ (0 ≤ (x26_6) ∧ (x26_6) ≤ 4) ∧ (¬ (x26_6) = 0 → (x25_6) < (x24_6)) ∧ ((x26_6) = 3 → 0 ≤ (x27_6) ∧ (x27_6) ≤ 9999) ∧ (0 ≤ lo_ ∧ lo_ ≤ (x37_1)) ∧ (x37_1) + (dl_ + 1) ≤ (x25_6) from by omega) (show Pz_ (y32_1) (y33_1) (400 * (n_0 29) + lo_) (400 * (n_0 29) + (x37_1)) (el_ + 1) from h0_.2.2.2.2.2.2.1) (show Strm_ (f_0 22) (n_0 23) K_ V_ P_ Q_ from hp5) (show Rt_ K_ V_ P_ Q_ (x24_6) (x25_6) (x26_6) (x27_6) (tkw_ (y30_6) (y31_6) (n_0 29)) (js_ + 1) from rn_) (show Tap_ (f_0 22) from hp7)) rfl mt_X10_readSum ml_X10_282 hK hw hA ⟨Nat.le_of_ble_eq_true rfl, Nat.le_of_ble_eq_true rfl⟩ (As := []) (rest := []) rfl rfl hl.1 (Nat.le_of_ble_eq_true rfl) 82 rfl dX10_readCompared_79 (fun zz7_ n_7 f_7 H locs rr7_ hq7_ hw => ?_)
      obtain ⟨x24_7, x25_7, x26_7, x27_7, x37_7, x41_7, x42_7, y30_7, y31_7, y32_7, y33_7, en7_, ef7_, hq7_⟩ := hq7_
      rw [en7_, ef7_] at hw; clear en7_ ef7_
      have hw : WM D cy q (upN (upN (upN (upN (upN (upN (upN n_0 24 x24_7) 25 x25_7) 26 x26_7) 27 x27_7) 37 x37_7) 41 x41_7) 42 x42_7) (upF (upF (upF (upF f_0 30 y30_7) 31 y31_7) 32 y32_7) 33 y33_7) A0 H0 H locs := hw
      have rx24_7 : inR x24_7 := mRn_24 hw.1.2.2.1
      have rx25_7 : inR x25_7 := mRn_25 hw.1.2.2.1
      have rx26_7 : inR x26_7 := mRn_26 hw.1.2.2.1
      have rx27_7 : inR x27_7 := mRn_27 hw.1.2.2.1
      have rx37_7 : inR x37_7 := mRn_37 hw.1.2.2.1
      have rx41_7 : inR x41_7 := mRn_41 hw.1.2.2.1
      have rx42_7 : inR x42_7 := mRn_42 hw.1.2.2.1
      have hh7_ : (zz7_ = -1 ∧ Fr_ (y32_1) (y33_1) (y32_7) (y33_7) (400 * (n_0 29) + (x37_1)) ∧ Kf_ (y31_6) (y30_6) (y31_7) (y30_7) (n_0 29) ∧ (0 ≤ (y31_7 ((n_0 29))) ∧ (y31_7 ((n_0 29))) ≤ 400) ∧ (∃ jn_ : Int, (x42_7) = P_ jn_ ∧ (1 ≤ (x41_7) ∧ (x41_7) ≤ 3) ∧ Mh_ S3_ K_ V_ (js_ + 1) (x41_7) jn_ (cL_ (y32_1) (y33_1) (400 * (n_0 29) + lo_) (400 * (n_0 29) + (x37_1))))) ∨ (zz7_ = 0 ∧ Fr_ (y32_1) (y33_1) (y32_7) (y33_7) (400 * (n_0 29) + (x37_1)) ∧ Kf_ (y31_6) (y30_6) (y31_7) (y30_7) (n_0 29) ∧ (0 ≤ (y31_7 ((n_0 29))) ∧ (y31_7 ((n_0 29))) ≤ 400) ∧ ((0 ≤ (x25_7) ∧ (x25_7) ≤ (x24_7) ∧ (x24_7) ≤ (n_0 23)) ∧ (0 ≤ (y31_7 ((n_0 29))) ∧ (y31_7 ((n_0 29))) ≤ (x24_7)) ∧ (0 ≤ (x26_7) ∧ (x26_7) ≤ 4) ∧ (¬ (x26_7) = 0 → (x25_7) < (x24_7)) ∧ ((x26_7) = 3 → 0 ≤ (x27_7) ∧ (x27_7) ≤ 9999) ∧ (0 ≤ lo_ ∧ lo_ ≤ (x37_7)) ∧ (x37_7) + (dl_ + 1) ≤ (x25_7)) ∧ (x25_6) < (x25_7) ∧ (x37_1) ≤ (x37_7) ∧ Pz_ (y32_7) (y33_7) (400 * (n_0 29) + lo_) (400 * (n_0 29) + (x37_7)) ((el_ + 1) + 1) ∧ (∃ jn_ : Int, (js_ + 1) < jn_ ∧ Rt_ K_ V_ P_ Q_ (x24_7) (x25_7) (x26_7) (x27_7) (tkw_ (y30_7) (y31_7) (n_0 29)) jn_ ∧ N4_ K_ jn_ ∧ Mg_ S3_ K_ V_ (js_ + 1) jn_ (cL_ (y32_1) (y33_1) (400 * (n_0 29) + lo_) (400 * (n_0 29) + (x37_1))) (cL_ (y32_7) (y33_7) (400 * (n_0 29) + lo_) (400 * (n_0 29) + (x37_7))))) := hq7_
      clear hq7_
      rcases hh7_ with ⟨ee7_, hh7_⟩ | ⟨ee7_, hh7_⟩
      · subst ee7_
        have hx2_ := hh7_
        obtain ⟨jn2_, ga_, gb_, gc_⟩ := hx2_.2.2.2
        clear hh7_
        refine j_iconst E 83 rfl dX10_readCompared_82 ?_
        refine j_icmp_ne E 86 88 rfl (rr (by decide)) (rr (by decide)) dX10_readCompared_83 (by decide) (fun cc8_ => absurd cc8_ (by decide)) (fun _ => ?_)
        refine j_iconst E 87 rfl dX10_readCompared_86 ?_
        exact hret 87 ((-1)) (upN (upN (upN (upN (upN (upN (upN n_0 24 x24_7) 25 x25_7) 26 x26_7) 27 x27_7) 37 x37_7) 41 x41_7) 42 x42_7) (upF (upF (upF (upF f_0 30 y30_7) 31 y31_7) 32 y32_7) 33 y33_7) _ _ ls hw (rr (by decide)) ⟨x24_7, x25_7, x26_7, x27_7, x37_7, x41_7, x42_7, y30_7, y31_7, y32_7, y33_7, rfl, rfl, Or.inl ⟨rfl, Fr_tr h0_.1 hx2_.1 (by omega), tk_tr h0_.2.1 (tk_tr hk_ hx2_.2.1), hx2_.2.2.1, jn2_, ga_, gb_, m5_f3 jc_.2 (by have q0_ := rt_k jb_; omega) gc_⟩⟩ dX10_readCompared_87
      · subst ee7_
        have h2_ := hh7_
        clear hh7_
        have hb2_ := (h2_.2.2.2.2.2.2.1).2
        obtain ⟨jn2_, ka_, kb_, kc_⟩ := h2_.2.2.2.2.2.2.2
        refine j_iconst E 83 rfl dX10_readCompared_82 ?_
        refine j_icmp_ne E 86 88 rfl (rr (by decide)) (rr (by decide)) dX10_readCompared_83 (by decide) (fun _ => ?_) (fun cc9_ => absurd cc9_ (by decide))
        refine j_aload_n E 89 rfl dX10_readCompared_88 rfl (lv_at hl 1 rfl) ?_
        refine j_iload_n E 90 rfl dX10_readCompared_89 rfl (lv_at hl 0 rfl) ?_
        refine j_iconst E 91 rfl dX10_readCompared_90 ?_
        refine m_callv E (c_X10_emits l D cy q (upN (upN (upN (upN (upN (upN (upN n_0 24 x24_7) 25 x25_7) 26 x26_7) 27 x27_7) 37 x37_7) 41 x41_7) 42 x42_7) (upF (upF (upF (upF f_0 30 y30_7) 31 y31_7) 32 y32_7) 33 y33_7) gw 0  r_gw (rr (by decide)) (show 0 ≤ (n_0 29) ∧ (n_0 29) < 32 from by omega) (show 0 ≤ (x37_7) ∧ (x37_7) ≤ 399 from by omega)) rfl mt_X10_emits ml_X10_265 hK hw hA ⟨Nat.le_of_ble_eq_true rfl, Nat.le_of_ble_eq_true rfl⟩ (As := [.int (J gw), .int (J 0)]) (rest := []) rfl rfl hl.1 (Nat.le_of_ble_eq_true rfl) 94 rfl dX10_readCompared_91 (fun n_10 f_10 H locs hq10_ hw => ?_)
        obtain ⟨x37_10, y32_10, y33_10, en10_, ef10_, hq10_⟩ := hq10_
        rw [en10_, ef10_] at hw; clear en10_ ef10_
        have hw : WM D cy q (upN (upN (upN (upN (upN (upN (upN n_0 24 x24_7) 25 x25_7) 26 x26_7) 27 x27_7) 37 x37_10) 41 x41_7) 42 x42_7) (upF (upF (upF (upF f_0 30 y30_7) 31 y31_7) 32 y32_10) 33 y33_10) A0 H0 H locs := hw
        have rx37_10 : inR x37_10 := mRn_37 hw.1.2.2.1
        have hh10_ : (y32_10) = upA (y32_7) (400 * (n_0 29) + (x37_7)) gw ∧ (y33_10) = upA (y33_7) (400 * (n_0 29) + (x37_7)) (0 : Int) ∧ (x37_10) = (x37_7) + 1 := hq10_
        clear hq10_
        have hm_ : (x37_10) = (x37_7) + 1 := hh10_.2.2
        have hz_ : Pz_ (y32_10) (y33_10) (400 * n_0 29 + lo_) (400 * n_0 29 + (x37_10)) (el_ + 1) := by rw [hh10_.1, hh10_.2.1, show 400 * n_0 29 + (x37_10) = 400 * n_0 29 + (x37_7) + 1 by omega]; exact Pz_ext h2_.2.2.2.2.2.2.1 (by omega) (by omega) (Or.inr (Or.inr (Or.inr (Or.inr ⟨by omega, by omega, by omega, fun h9_ => by first | (exfalso; omega) | exact h6_ (by omega)⟩))))
        have hf_ : Fr_ (y32_7) (y33_7) (y32_10) (y33_10) (400 * n_0 29 + (x37_7)) := by rw [hh10_.1, hh10_.2.1]; exact Fr_up (by omega)
        have hc_ : cL_ (y32_10) (y33_10) (400 * n_0 29 + lo_) (400 * n_0 29 + (x37_10)) = cL_ (y32_7) (y33_7) (400 * n_0 29 + lo_) (400 * n_0 29 + (x37_7)) ++ [cd_ gw (0 : Int)] := by rw [hh10_.1, hh10_.2.1, show 400 * n_0 29 + (x37_10) = 400 * n_0 29 + (x37_7) + 1 by omega]; exact cL_ext (by omega)
        refine j_iconst E 95 rfl dX10_readCompared_94 ?_
        exact hret 95 0 (upN (upN (upN (upN (upN (upN (upN n_0 24 x24_7) 25 x25_7) 26 x26_7) 27 x27_7) 37 x37_10) 41 x41_7) 42 x42_7) (upF (upF (upF (upF f_0 30 y30_7) 31 y31_7) 32 y32_10) 33 y33_10) _ _ ls hw (rr (by decide)) ⟨x24_7, x25_7, x26_7, x27_7, x37_10, x41_7, x42_7, y30_7, y31_7, y32_10, y33_10, rfl, rfl, Or.inr ⟨rfl, Fr_tr h0_.1 (Fr_tr h2_.1 hf_ (by omega)) (by omega), tk_tr h0_.2.1 (tk_tr hk_ h2_.2.1), by omega, by omega, by omega, by omega, hz_, jn2_, by omega, kb_, m5_ok jc_.2 (by have q0_ := rt_k jb_; omega) kc_.2 kc_.1 (cd_cm kw_ hc_)⟩⟩ dX10_readCompared_95
    have L43_11 : ∀ (H : Heap) (locs : List Loc) (ls : Array Slot), ((x26_1) = 4 ∧ ((x27_1) = 60 ∨ (x27_1) = 61 ∨ (x27_1) = 62)) → WM D cy q (upN (upN (upN (upN (upN (upN (upN n_0 24 x24_1) 25 x25_1) 26 x26_1) 27 x27_1) 37 x37_1) 41 x41_1) 42 x42_1) (upF (upF (upF (upF f_0 30 y30_1) 31 y31_1) 32 y32_1) 33 y33_1) A0 H0 H locs → lv_has ls 2 [(0, .ref (q 0))] → W p l e (rmd 6 0 0) s m ar below meth c H locs 0 0 QW (F0 m 43 ls []) := by
      intro H locs ls iv43 hw hl
      refine j_aload_n E 44 rfl dX10_readCompared_43 rfl (lv_at hl 0 rfl) ?_
      refine m_get_27 E hK hw x27_1 rfl 47 rfl dX10_readCompared_44 (fun _ => ?_)
      refine j_bipush E 49 rfl dX10_readCompared_47 (by decide) ?_
      refine j_icmp_ne E 52 57 rfl rx27_1 (rr (by decide)) dX10_readCompared_49 (by decide) (fun cc13_ => ?_) (fun cc13_ => ?_)
      · refine j_aload_n E 58 rfl dX10_readCompared_57 rfl (lv_at hl 0 rfl) ?_
        refine m_get_27 E hK hw x27_1 rfl 61 rfl dX10_readCompared_58 (fun _ => ?_)
        refine j_bipush E 63 rfl dX10_readCompared_61 (by decide) ?_
        refine j_icmp_ne E 66 71 rfl rx27_1 (rr (by decide)) dX10_readCompared_63 (by decide) (fun cc14_ => ?_) (fun cc14_ => ?_)
        · refine j_bipush E 73 rfl dX10_readCompared_71 (by decide) ?_
          exact L73_4 9 H locs ls (rr (by decide)) (by omega) hw (lv_sub hl [0] rfl)
        · refine j_bipush E 68 rfl dX10_readCompared_66 (by decide) ?_
          refine j_goto E 73 dX10_readCompared_68 (by decide) ?_
          exact L73_4 8 H locs ls (rr (by decide)) (by omega) hw (lv_sub hl [0] rfl)
      · refine j_bipush E 54 rfl dX10_readCompared_52 (by decide) ?_
        refine j_goto E 73 dX10_readCompared_54 (by decide) ?_
        exact L73_4 7 H locs ls (rr (by decide)) (by omega) hw (lv_sub hl [0] rfl)
    refine j_aload_n E 11 rfl dX10_readCompared_10 rfl (lv_at hl 0 rfl) ?_
    refine j_bipush E 13 rfl dX10_readCompared_11 (by decide) ?_
    refine m_callp (po := fun z_0 => (z_0 = 1 ∧ (x26_1) = 4 ∧ (x27_1) = (60 : Int)) ∨ (z_0 = 0 ∧ ¬ ((x26_1) = 4 ∧ (x27_1) = (60 : Int)))) E (c_X10_isSign l D cy q (upN (upN (upN (upN (upN (upN (upN n_0 24 x24_1) 25 x25_1) 26 x26_1) 27 x27_1) 37 x37_1) 41 x41_1) 42 x42_1) (upF (upF (upF (upF f_0 30 y30_1) 31 y31_1) 32 y32_1) 33 y33_1) 60  (rr (by decide)) ) rfl mt_X10_isSign ml_X10_276 hK hw hA ⟨Nat.le_of_ble_eq_true rfl, Nat.le_of_ble_eq_true rfl⟩ (As := [.int (J 60)]) (rest := []) rfl rfl hl.1 (Nat.le_of_ble_eq_true rfl) 16 rfl dX10_readCompared_13 (fun zz15_ H locs rr15_ hq15_ hw => ?_)
    have hh15_ : (zz15_ = 1 ∧ (x26_1) = 4 ∧ (x27_1) = (60 : Int)) ∨ (zz15_ = 0 ∧ ¬ ((x26_1) = 4 ∧ (x27_1) = (60 : Int))) := hq15_
    clear hq15_
    rcases hh15_ with ⟨ee15_, hh15_⟩ | ⟨ee15_, hh15_⟩
    · subst ee15_
      refine j_if_ne E 19 43 rfl (rr (by decide)) dX10_readCompared_16 (by decide) (fun _ => ?_) (fun cc16_ => absurd cc16_ (by decide))
      exact L43_11  H locs ls  (by omega) hw (lv_sub hl [0] rfl)
    · subst ee15_
      refine j_if_ne E 19 43 rfl (rr (by decide)) dX10_readCompared_16 (by decide) (fun cc17_ => absurd cc17_ (by decide)) (fun _ => ?_)
      refine j_aload_n E 20 rfl dX10_readCompared_19 rfl (lv_at hl 0 rfl) ?_
      refine j_bipush E 22 rfl dX10_readCompared_20 (by decide) ?_
      refine m_callp (po := fun z_0 => (z_0 = 1 ∧ (x26_1) = 4 ∧ (x27_1) = (61 : Int)) ∨ (z_0 = 0 ∧ ¬ ((x26_1) = 4 ∧ (x27_1) = (61 : Int)))) E (c_X10_isSign l D cy q (upN (upN (upN (upN (upN (upN (upN n_0 24 x24_1) 25 x25_1) 26 x26_1) 27 x27_1) 37 x37_1) 41 x41_1) 42 x42_1) (upF (upF (upF (upF f_0 30 y30_1) 31 y31_1) 32 y32_1) 33 y33_1) 61  (rr (by decide)) ) rfl mt_X10_isSign ml_X10_276 hK hw hA ⟨Nat.le_of_ble_eq_true rfl, Nat.le_of_ble_eq_true rfl⟩ (As := [.int (J 61)]) (rest := []) rfl rfl hl.1 (Nat.le_of_ble_eq_true rfl) 25 rfl dX10_readCompared_22 (fun zz18_ H locs rr18_ hq18_ hw => ?_)
      have hh18_ : (zz18_ = 1 ∧ (x26_1) = 4 ∧ (x27_1) = (61 : Int)) ∨ (zz18_ = 0 ∧ ¬ ((x26_1) = 4 ∧ (x27_1) = (61 : Int))) := hq18_
      clear hq18_
      rcases hh18_ with ⟨ee18_, hh18_⟩ | ⟨ee18_, hh18_⟩
      · subst ee18_
        refine j_if_ne E 28 43 rfl (rr (by decide)) dX10_readCompared_25 (by decide) (fun _ => ?_) (fun cc19_ => absurd cc19_ (by decide))
        exact L43_11  H locs ls  (by omega) hw (lv_sub hl [0] rfl)
      · subst ee18_
        refine j_if_ne E 28 43 rfl (rr (by decide)) dX10_readCompared_25 (by decide) (fun cc20_ => absurd cc20_ (by decide)) (fun _ => ?_)
        refine j_aload_n E 29 rfl dX10_readCompared_28 rfl (lv_at hl 0 rfl) ?_
        refine j_bipush E 31 rfl dX10_readCompared_29 (by decide) ?_
        refine m_callp (po := fun z_0 => (z_0 = 1 ∧ (x26_1) = 4 ∧ (x27_1) = (62 : Int)) ∨ (z_0 = 0 ∧ ¬ ((x26_1) = 4 ∧ (x27_1) = (62 : Int)))) E (c_X10_isSign l D cy q (upN (upN (upN (upN (upN (upN (upN n_0 24 x24_1) 25 x25_1) 26 x26_1) 27 x27_1) 37 x37_1) 41 x41_1) 42 x42_1) (upF (upF (upF (upF f_0 30 y30_1) 31 y31_1) 32 y32_1) 33 y33_1) 62  (rr (by decide)) ) rfl mt_X10_isSign ml_X10_276 hK hw hA ⟨Nat.le_of_ble_eq_true rfl, Nat.le_of_ble_eq_true rfl⟩ (As := [.int (J 62)]) (rest := []) rfl rfl hl.1 (Nat.le_of_ble_eq_true rfl) 34 rfl dX10_readCompared_31 (fun zz21_ H locs rr21_ hq21_ hw => ?_)
        have hh21_ : (zz21_ = 1 ∧ (x26_1) = 4 ∧ (x27_1) = (62 : Int)) ∨ (zz21_ = 0 ∧ ¬ ((x26_1) = 4 ∧ (x27_1) = (62 : Int))) := hq21_
        clear hq21_
        rcases hh21_ with ⟨ee21_, hh21_⟩ | ⟨ee21_, hh21_⟩
        · subst ee21_
          refine j_if_ne E 37 43 rfl (rr (by decide)) dX10_readCompared_34 (by decide) (fun _ => ?_) (fun cc22_ => absurd cc22_ (by decide))
          exact L43_11  H locs ls  (by omega) hw (lv_sub hl [0] rfl)
        · subst ee21_
          refine j_if_ne E 37 43 rfl (rr (by decide)) dX10_readCompared_34 (by decide) (fun cc23_ => absurd cc23_ (by decide)) (fun _ => ?_)
          refine j_aload_n E 38 rfl dX10_readCompared_37 rfl (lv_at hl 0 rfl) ?_
          refine j_iconst E 39 rfl dX10_readCompared_38 ?_
          refine m_calli E (c_X10_fails l D cy q (upN (upN (upN (upN (upN (upN (upN n_0 24 x24_1) 25 x25_1) 26 x26_1) 27 x27_1) 37 x37_1) 41 x41_1) 42 x42_1) (upF (upF (upF (upF f_0 30 y30_1) 31 y31_1) 32 y32_1) 33 y33_1) 1  (rr (by decide)) ) rfl mt_X10_fails ml_X10_262 hK hw hA ⟨Nat.le_of_ble_eq_true rfl, Nat.le_of_ble_eq_true rfl⟩ (As := [.int (J 1)]) (rest := []) rfl rfl hl.1 (Nat.le_of_ble_eq_true rfl) 42 rfl dX10_readCompared_39 (fun zz24_ n_24 f_24 H locs rr24_ hq24_ hw => ?_)
          obtain ⟨x41_24, x42_24, en24_, ef24_, hq24_⟩ := hq24_
          rw [en24_, ef24_] at hw; clear en24_ ef24_
          have hw : WM D cy q (upN (upN (upN (upN (upN (upN (upN n_0 24 x24_1) 25 x25_1) 26 x26_1) 27 x27_1) 37 x37_1) 41 x41_24) 42 x42_24) (upF (upF (upF (upF f_0 30 y30_1) 31 y31_1) 32 y32_1) 33 y33_1) A0 H0 H locs := hw
          have rx41_24 : inR x41_24 := mRn_41 hw.1.2.2.1
          have rx42_24 : inR x42_24 := mRn_42 hw.1.2.2.1
          have hh24_ : zz24_ = -1 ∧ (x41_24) = (1 : Int) ∧ (x42_24) = (x25_1) := hq24_
          clear hq24_
          have hq_ := hh24_
          clear hh24_
          exact hret 42 zz24_ (upN (upN (upN (upN (upN (upN (upN n_0 24 x24_1) 25 x25_1) 26 x26_1) 27 x27_1) 37 x37_1) 41 x41_24) 42 x42_24) (upF (upF (upF (upF f_0 30 y30_1) 31 y31_1) 32 y32_1) 33 y33_1) _ _ ls hw rr24_ ⟨x24_1, x25_1, x26_1, x27_1, x37_1, x41_24, x42_24, y30_1, y31_1, y32_1, y33_1, rfl, rfl, Or.inl ⟨by omega, h0_.1, h0_.2.1, h0_.2.2.1, js_, by rw [hq_.2.2]; exact jb_.2.2.1, by omega, by rw [hq_.2.1]; exact m5_f2 jc_.2 jc_.1 (by have q0_ := rt_k jb_; omega)⟩⟩ dX10_readCompared_42
