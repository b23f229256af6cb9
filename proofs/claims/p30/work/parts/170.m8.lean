
section RtF
variable {K V P Q : Int → Int} {X : Int × (Int → Int)} {a f t v j w k : Int}
theorem rt_w (h : Rt_ K V P Q a f t v X j) (e : t = 2 ∧ v = w) (hk : k = 301 + w) : K j = k := by have q := rt_k h; omega
theorem rt_nw (h : Rt_ K V P Q a f t v X j) (e : ¬ (t = 2 ∧ v = w)) (hk : k = 301 + w ∧ 301 ≤ k) : ¬ K j = k := by have q := rt_k h; omega
theorem rt_s (h : Rt_ K V P Q a f t v X j) (e : t = 4 ∧ v = k) : K j = k := by have q := rt_k h; omega
theorem rt_ns (h : Rt_ K V P Q a f t v X j) (e : ¬ (t = 4 ∧ v = k)) (hk : 40 ≤ k ∧ k ≤ 62) : ¬ K j = k := by have q := rt_k h; omega
theorem rt_e (h : Rt_ K V P Q a f t v X j) (e : t = 0) : K j = 1 := by have q := rt_k h; omega
theorem rt_ne (h : Rt_ K V P Q a f t v X j) (e : ¬ t = 0) : ¬ K j = 1 := by have q := rt_k h; omega
end RtF
def md_ (w : Int) : Int := if w = 10 then 306 else if w = 11 then 305 else if w = 12 then 304 else 13
def pl_ (pe : Int → Int) : Nat → List Int
  | 0 => []
  | n + 1 => md_ (pe (n : Int)) :: pl_ pe n
def pL_ (pe : Int → Int) (np : Int) : List Int := pl_ pe np.toNat
theorem pL_0 {pe : Int → Int} : pL_ pe 0 = [] := rfl
theorem pL_nx {pe : Int → Int} {np : Int} (h : 0 < np) : pL_ pe np = md_ (pe (np - 1)) :: pL_ pe (np - 1) := by
  unfold pL_
  rw [show np.toNat = (np - 1).toNat + 1 by omega, pl_, show (((np - 1).toNat : Nat) : Int) = np - 1 by omega]
theorem pl_cg {pe pe2 : Int → Int} : ∀ {n : Nat}, (∀ i : Nat, i < n → pe2 (i : Int) = pe (i : Int)) → pl_ pe2 n = pl_ pe n
  | 0, _ => rfl
  | n + 1, h => by rw [pl_, pl_, h n (by omega), pl_cg (fun i hi => h i (by omega))]
theorem pL_push {pe : Int → Int} {np w : Int} (h : 0 ≤ np) : pL_ (upA pe np w) (np + 1) = md_ w :: pL_ pe np := by
  rw [pL_nx (by omega), show np + 1 - 1 = np by omega, upA_same]
  congr 1
  exact pl_cg (fun i hi => upA_ne (by omega))
theorem md_10 : md_ 10 = 306 := rfl
theorem md_11 : md_ 11 = 305 := rfl
theorem md_12 : md_ 12 = 304 := rfl
theorem md_13 : md_ 13 = 13 := rfl
def Mq_ (K V pe : Int → Int) (j np np2 : Int) (o o2 : List Int) : Prop := ∀ (r : List Int) (sg : List (List Int)), Rch_ K V (5, 0, j, pL_ pe np ++ r, o, sg) (5, 0, j, pL_ pe np2 ++ r, o2, sg)
theorem Mq_rf {K V pe : Int → Int} {j np : Int} {o : List Int} : Mq_ K V pe j np np o o := fun r sg => Rch_rf _
theorem Mq_st {K V pe : Int → Int} {j np np2 w : Int} {o o2 o3 : List Int} (h : Mq_ K V pe j np np2 o o2) (h0 : 0 < np2) (hw : pe (np2 - 1) = w) (hk : w = 10 ∨ w = 11 ∨ (w = 12 ∧ ¬ K j = 305)) (ho : o3 = o2 ++ [cd_ w 0]) : Mq_ K V pe j np (np2 - 1) o o3 := fun r sg => by
  have q := h r sg
  rw [pL_nx h0, hw, List.cons_append] at q
  rw [ho]
  rcases hk with rfl | rfl | ⟨rfl, hk⟩
  · rw [cd_10]; exact Rch_sn q (sC_pop (Or.inl rfl))
  · rw [cd_11]; exact Rch_sn q (sC_pop (Or.inr rfl))
  · rw [cd_12]; exact Rch_sn q (sC_popo hk)
def Pq_ (pe c b g : Int → Int) (i : Int) : Prop := (0 ≤ c i ∧ 0 ≤ b i ∧ 0 ≤ g i) ∧ ((pe i = 10 ∧ c (i + 1) = c i + 1 ∧ b (i + 1) = b i ∧ g (i + 1) = g i ∧ i + 1 ≤ 3 * c (i + 1)) ∨ (pe i = 13 ∧ c (i + 1) = c i + 1 ∧ b (i + 1) = b i ∧ g (i + 1) = g i + 1 ∧ i + 1 ≤ 3 * c (i + 1)) ∨ (pe i = 12 ∧ c (i + 1) = c i ∧ b (i + 1) = b i + 1 ∧ g (i + 1) = g i ∧ i + 1 ≤ 3 * c (i + 1) + 1 ∧ (i = 0 ∨ pe (i - 1) = 13)) ∨ (pe i = 11 ∧ c (i + 1) = c i ∧ b (i + 1) = b i + 1 ∧ g (i + 1) = g i ∧ i + 1 ≤ 3 * c (i + 1) + 2 ∧ (i = 0 ∨ pe (i - 1) = 13 ∨ pe (i - 1) = 12)))
theorem Pk_opn0 {pe c b g : Int → Int} {cl : Int} (hc : cl = 302 ∨ cl = 303) (h0 : c 0 = 0) : ∀ {n : Nat}, (∀ i, 0 ≤ i → i < (n : Int) → Pq_ pe c b g i) → opn_ (pl_ pe n ++ [cl]) = c (n : Int)
  | 0, _ => by
    show opn_ [] + (if cl = 306 ∨ cl = 13 then 1 else 0) = c 0
    rw [if_neg (by omega), h0]
    rfl
  | n + 1, hs => by
    have ih := Pk_opn0 hc h0 (n := n) (fun i h1 h2 => hs i h1 (by omega))
    have hq := hs (n : Int) (by omega) (by omega)
    unfold Pq_ at hq
    have e : ((n + 1 : Nat) : Int) = (n : Int) + 1 := by omega
    rw [e, pl_]
    show opn_ (pl_ pe n ++ [cl]) + (if md_ (pe (n : Int)) = 306 ∨ md_ (pe (n : Int)) = 13 then 1 else 0) = _
    rw [ih]
    rcases hq.2 with q | q | q | q
    · rw [q.1, md_10, if_pos (Or.inl rfl)]; omega
    · rw [q.1, md_13, if_pos (Or.inr rfl)]; omega
    · rw [q.1, md_12, if_neg (by omega)]; omega
    · rw [q.1, md_11, if_neg (by omega)]; omega
def Pk_ (pe : Int → Int) (np op bk e : Int) : Prop := 0 ≤ np ∧ ∃ c b g : Int → Int, (c 0 = 0 ∧ b 0 = 0 ∧ g 0 = 0) ∧ (c np = op ∧ b np = e ∧ g np = bk) ∧ ∀ i, 0 ≤ i → i < np → Pq_ pe c b g i
theorem Pk_opn {pe : Int → Int} {np op bk e cl : Int} (hc : cl = 302 ∨ cl = 303) (h : Pk_ pe np op bk e) : opn_ (pL_ pe np ++ [cl]) = op := by
  obtain ⟨h0, c, b, g, hz, hn, hs⟩ := h
  have q := Pk_opn0 (b := b) (g := g) hc hz.1 (n := np.toNat) (fun i h1 h2 => hs i h1 (by omega))
  rw [Int.toNat_of_nonneg h0] at q
  exact q.trans hn.1
theorem Pk_0 {pe : Int → Int} : Pk_ pe 0 0 0 0 := ⟨by omega, fun _ => 0, fun _ => 0, fun _ => 0, ⟨rfl, rfl, rfl⟩, ⟨rfl, rfl, rfl⟩, fun i h1 h2 => absurd h2 (by omega)⟩
theorem Pk_z {pe : Int → Int} {op bk e : Int} (h : Pk_ pe 0 op bk e) : op = 0 ∧ e = 0 ∧ bk = 0 := by
  obtain ⟨h0, c, b, g, hz, hn, hs⟩ := h
  exact ⟨by omega, by omega, by omega⟩
theorem Pk_nn {pe : Int → Int} {np op bk e : Int} (h : Pk_ pe np op bk e) : 0 ≤ np ∧ 0 ≤ op ∧ 0 ≤ e ∧ 0 ≤ bk ∧ np ≤ 3 * op + 2 := by
  obtain ⟨h0, c, b, g, hz, hn, hs⟩ := h
  by_cases e0 : np = 0
  · subst e0; exact ⟨by omega, by omega, by omega, by omega, by omega⟩
  · have hq := hs (np - 1) (by omega) (by omega)
    unfold Pq_ at hq
    rw [show np - 1 + 1 = np by omega] at hq
    exact ⟨by omega, by omega, by omega, by omega, by omega⟩
theorem Pk_pop {pe : Int → Int} {np op bk e : Int} (h : Pk_ pe np op bk e) (hp : 0 < np) : (pe (np - 1) = 10 ∧ Pk_ pe (np - 1) (op - 1) bk e) ∨ (pe (np - 1) = 13 ∧ Pk_ pe (np - 1) (op - 1) (bk - 1) e ∧ 1 ≤ bk) ∨ (pe (np - 1) = 12 ∧ Pk_ pe (np - 1) op bk (e - 1) ∧ 1 ≤ e ∧ (np - 1 = 0 ∨ pe (np - 1 - 1) = 13)) ∨ (pe (np - 1) = 11 ∧ Pk_ pe (np - 1) op bk (e - 1) ∧ 1 ≤ e ∧ (np - 1 = 0 ∨ pe (np - 1 - 1) = 13 ∨ pe (np - 1 - 1) = 12)) := by
  obtain ⟨h0, c, b, g, hz, hn, hs⟩ := h
  have hq := hs (np - 1) (by omega) (by omega)
  unfold Pq_ at hq
  rw [show np - 1 + 1 = np by omega] at hq
  have key : Pk_ pe (np - 1) (c (np - 1)) (g (np - 1)) (b (np - 1)) := ⟨by omega, c, b, g, hz, ⟨rfl, rfl, rfl⟩, fun i h1 h2 => hs i h1 (by omega)⟩
  rcases hq.2 with q | q | q | q
  · left; refine ⟨q.1, ?_⟩; rw [show op - 1 = c (np - 1) by omega, show bk = g (np - 1) by omega, show e = b (np - 1) by omega]; exact key
  · right; left; refine ⟨q.1, ?_, by omega⟩; rw [show op - 1 = c (np - 1) by omega, show bk - 1 = g (np - 1) by omega, show e = b (np - 1) by omega]; exact key
  · right; right; left; refine ⟨q.1, ?_, by omega, q.2.2.2.2.2⟩; rw [show op = c (np - 1) by omega, show bk = g (np - 1) by omega, show e - 1 = b (np - 1) by omega]; exact key
  · right; right; right; refine ⟨q.1, ?_, by omega, q.2.2.2.2.2⟩; rw [show op = c (np - 1) by omega, show bk = g (np - 1) by omega, show e - 1 = b (np - 1) by omega]; exact key
theorem Pk_push {pe : Int → Int} {np op bk e op2 bk2 e2 w : Int} (h : Pk_ pe np op bk e) (hw : (w = 10 ∧ op2 = op + 1 ∧ bk2 = bk ∧ e2 = e) ∨ (w = 13 ∧ op2 = op + 1 ∧ bk2 = bk + 1 ∧ e2 = e) ∨ (w = 12 ∧ op2 = op ∧ bk2 = bk ∧ e2 = e + 1 ∧ (np = 0 ∨ pe (np - 1) = 13)) ∨ (w = 11 ∧ op2 = op ∧ bk2 = bk ∧ e2 = e + 1 ∧ (np = 0 ∨ pe (np - 1) = 13 ∨ pe (np - 1) = 12))) : Pk_ (upA pe np w) (np + 1) op2 bk2 e2 := by
  have hb := Pk_nn h
  have ht : (np = 0 ∨ pe (np - 1) = 13) → np ≤ 3 * op := by
    intro q
    rcases q with q | q
    · omega
    · by_cases e0 : np = 0
      · omega
      · obtain ⟨h0, c, b, g, hz, hn, hs⟩ := h
        have hq := hs (np - 1) (by omega) (by omega)
        unfold Pq_ at hq
        rw [show np - 1 + 1 = np by omega] at hq
        omega
  have ht2 : pe (np - 1) = 12 → 0 < np → np ≤ 3 * op + 1 := by
    intro q q2
    obtain ⟨h0, c, b, g, hz, hn, hs⟩ := h
    have hq := hs (np - 1) (by omega) (by omega)
    unfold Pq_ at hq
    rw [show np - 1 + 1 = np by omega] at hq
    omega
  obtain ⟨h0, c, b, g, hz, hn, hs⟩ := h
  refine ⟨by omega, upA c (np + 1) op2, upA b (np + 1) e2, upA g (np + 1) bk2, ?_, ⟨upA_same _ _ _, upA_same _ _ _, upA_same _ _ _⟩, fun i h1 h2 => ?_⟩
  · rw [upA_ne (by omega), upA_ne (by omega), upA_ne (by omega)]; exact hz
  · by_cases ei : i = np
    · subst ei
      unfold Pq_
      rw [upA_same, upA_same, upA_same, upA_same, upA_ne (show i ≠ i + 1 by omega), upA_ne (show i ≠ i + 1 by omega), upA_ne (show i ≠ i + 1 by omega), upA_ne (show i - 1 ≠ i by omega), hn.1, hn.2.1, hn.2.2]
      refine ⟨⟨by omega, by omega, by omega⟩, ?_⟩
      rcases hw with q | q | q | q
      · left; exact ⟨by omega, by omega, by omega, by omega, by omega⟩
      · right; left; exact ⟨by omega, by omega, by omega, by omega, by omega⟩
      · right; right; left; have := ht q.2.2.2.2; exact ⟨by omega, by omega, by omega, by omega, by omega, q.2.2.2.2⟩
      · right; right; right
        have h3 := q.2.2.2.2
        refine ⟨by omega, by omega, by omega, by omega, ?_, h3⟩
        rcases h3 with h3 | h3 | h3
        · omega
        · have := ht (Or.inr h3); omega
        · by_cases e0 : i = 0
          · omega
          · have := ht2 h3 (by omega); omega
    · have hq := hs i h1 (by omega)
      unfold Pq_ at hq ⊢
      rw [upA_ne (show i ≠ np by omega), upA_ne (show i - 1 ≠ np by omega), upA_ne (show i ≠ np + 1 by omega), upA_ne (show i ≠ np + 1 by omega), upA_ne (show i ≠ np + 1 by omega), upA_ne (show i + 1 ≠ np + 1 by omega), upA_ne (show i + 1 ≠ np + 1 by omega), upA_ne (show i + 1 ≠ np + 1 by omega)]
      exact hq

set_option maxHeartbeats 4000000 in
set_option maxRecDepth 100000 in
theorem c_X10_waits (l : Launch) (D : va_G) (cy : Nat → ClassId) (q : Nat → Nat) (n_0 : Nat → Int) (f_0 : Nat → Int → Int) (v_what : Int) (r_v_what : inR v_what) (hp0 : 0 ≤ (n_0 40) ∧ (n_0 40) < 40) : MC l D cy q yX10_waits cX10_waits 2 none 0 [.int (J v_what)] n_0 f_0 (PV (fun (n_2 : Nat → Int) (f_2 : Nat → Int → Int) => ∃ (x40_2 : Int) (y39_2 : Int → Int) , n_2 = upN n_0 40 x40_2 ∧ f_2 = upF f_0 39 y39_2 ∧ ((y39_2) = upA (f_0 39) (n_0 40) v_what ∧ (x40_2) = (n_0 40) + 1))) := by
  refine MC.ofv rfl (Nat.le_of_ble_eq_true rfl) ?_
  intro p e s m below meth c ls ar QW A0 H0 H locs E hK hA hw hl hret
  have hl : lv_has ls 2 [(0, .ref (q 0)), (1, .int (J v_what))] := hl
  refine j_aload_n E 1 rfl dX10_waits_0 rfl (lv_at hl 0 rfl) ?_
  refine m_ag_39 E hK hw 4 rfl dX10_waits_1 ?_
  refine j_aload_n E 5 rfl dX10_waits_4 rfl (lv_at hl 0 rfl) ?_
  refine m_get_40 E hK hw (n_0 40) rfl 8 rfl dX10_waits_5 (fun rr1_ => ?_)
  refine j_iload_n E 9 rfl dX10_waits_8 rfl (lv_at hl 1 rfl) ?_
  refine m_st_39 E hK hw (by omega) r_v_what 10 rfl dX10_waits_9 (fun H locs hw => ?_)
  have hw : WM D cy q (n_0) (upF f_0 39 (upA (f_0 39) (n_0 40) v_what)) A0 H0 H locs := hw
  refine j_aload_n E 11 rfl dX10_waits_10 rfl (lv_at hl 0 rfl) ?_
  refine j_aload_n E 12 rfl dX10_waits_11 rfl (lv_at hl 0 rfl) ?_
  refine m_get_40 E hK hw (n_0 40) rfl 15 rfl dX10_waits_12 (fun _ => ?_)
  refine j_iconst E 16 rfl dX10_waits_15 ?_
  refine j_iadd E 17 rfl dX10_waits_16 ?_
  refine m_put_40 E hK hw (rr (by omega)) 20 rfl dX10_waits_17 (fun H locs hw => ?_)
  have hw : WM D cy q (upN n_0 40 ((n_0 40) + 1)) (upF f_0 39 (upA (f_0 39) (n_0 40) v_what)) A0 H0 H locs := hw
  exact hret 20 (upN n_0 40 ((n_0 40) + 1)) (upF f_0 39 (upA (f_0 39) (n_0 40) v_what)) _ _ ls hw ⟨((n_0 40) + 1), (upA (f_0 39) (n_0 40) v_what), rfl, rfl, ⟨rfl, rfl⟩⟩ dX10_waits_20
set_option maxHeartbeats 4000000 in
set_option maxRecDepth 100000 in
theorem c_X10_settles (l : Launch) (D : va_G) (cy : Nat → ClassId) (q : Nat → Nat) (n_0 : Nat → Int) (f_0 : Nat → Int → Int) (v_what : Int) (lo_ : Int) (el_ : Int) (bk_ : Int) (K_ : Int → Int) (V_ : Int → Int) (j_ : Int) (r_v_what : inR v_what) (hp0 : 0 ≤ (n_0 29) ∧ (n_0 29) < 32) (hp1 : (v_what : Int) = 10 ∨ (v_what : Int) = 11 ∨ (v_what : Int) = 12) (hp2 : 0 ≤ lo_ ∧ lo_ ≤ (n_0 37) ∧ (n_0 37) + (n_0 40) ≤ 400 ∧ (n_0 38) ≤ 8) (hp3 : Pz_ (f_0 32) (f_0 33) (400 * (n_0 29) + lo_) (400 * (n_0 29) + (n_0 37)) el_) (hp4 : Pk_ (f_0 39) (n_0 40) (n_0 38) bk_ (el_ - 1)) (hp5 : (v_what : Int) = 12 → ¬ K_ j_ = 305) : MC l D cy q yX10_settles cX10_settles 2 none 1 [.int (J v_what)] n_0 f_0 (PV (fun (n_2 : Nat → Int) (f_2 : Nat → Int → Int) => ∃ (x40_2 : Int) (x37_2 : Int) (x38_2 : Int) (y32_2 : Int → Int) (y33_2 : Int → Int) , n_2 = upN (upN (upN n_0 37 x37_2) 38 x38_2) 40 x40_2 ∧ f_2 = upF (upF f_0 32 y32_2) 33 y33_2 ∧ (Fr_ (f_0 32) (f_0 33) (y32_2) (y33_2) (400 * (n_0 29) + (n_0 37)) ∧ ((x37_2) + (x40_2) = (n_0 37) + (n_0 40) ∧ 0 ≤ (x40_2) ∧ (x40_2) ≤ (n_0 40) ∧ (x38_2) ≤ (n_0 38) ∧ (n_0 37) ≤ (x37_2)) ∧ ((x40_2) = (n_0 40) ∨ (x40_2) = 0 ∨ (v_what : Int) = 10 ∨ (f_0 39 ((x40_2) - 1)) = 13 ∨ ((v_what : Int) = 11 ∧ (f_0 39 ((x40_2) - 1)) = 12)) ∧ ((x40_2) = 0 ∨ ¬ (f_0 39 ((x40_2) - 1)) = v_what) ∧ (∃ e_, Pz_ (y32_2) (y33_2) (400 * (n_0 29) + lo_) (400 * (n_0 29) + (x37_2)) e_ ∧ Pk_ (f_0 39) (x40_2) (x38_2) bk_ (e_ - 1)) ∧ Mq_ K_ V_ (f_0 39) j_ (n_0 40) (x40_2) (cL_ (f_0 32) (f_0 33) (400 * (n_0 29) + lo_) (400 * (n_0 29) + (n_0 37))) (cL_ (y32_2) (y33_2) (400 * (n_0 29) + lo_) (400 * (n_0 29) + (x37_2)))))) := by
  refine MC.ofv rfl (Nat.le_of_ble_eq_true rfl) ?_
  intro p e s m below meth c ls ar QW A0 H0 H locs E hK hA hw hl hret
  have hl : lv_has ls 2 [(0, .ref (q 0)), (1, .int (J v_what))] := hl
  have L0_1 : ∀ (k0 : Nat) (x40_c0 : Int) (x37_c0 : Int) (x38_c0 : Int) (y32_c0 : Int → Int) (y33_c0 : Int → Int) (H : Heap) (locs : List Loc) (ls : Array Slot), (Fr_ (f_0 32) (f_0 33) (y32_c0) (y33_c0) (400 * n_0 29 + n_0 37) ∧ ((x37_c0) + (x40_c0) = n_0 37 + n_0 40 ∧ 0 ≤ (x40_c0) ∧ (x40_c0) ≤ n_0 40 ∧ n_0 37 ≤ (x37_c0) ∧ (x38_c0) ≤ n_0 38) ∧ ((x40_c0) = n_0 40 ∨ (x40_c0) = 0 ∨ v_what = 10 ∨ f_0 39 ((x40_c0) - 1) = 13 ∨ (v_what = 11 ∧ f_0 39 ((x40_c0) - 1) = 12)) ∧ (∃ e_, Pz_ (y32_c0) (y33_c0) (400 * n_0 29 + lo_) (400 * n_0 29 + (x37_c0)) e_ ∧ Pk_ (f_0 39) (x40_c0) (x38_c0) bk_ (e_ - 1)) ∧ Mq_ K_ V_ (f_0 39) j_ (n_0 40) (x40_c0) (cL_ (f_0 32) (f_0 33) (400 * n_0 29 + lo_) (400 * n_0 29 + n_0 37)) (cL_ (y32_c0) (y33_c0) (400 * n_0 29 + lo_) (400 * n_0 29 + (x37_c0)))) → ((x40_c0)) < (k0 : Int) → WM D cy q (upN (upN (upN n_0 37 x37_c0) 38 x38_c0) 40 x40_c0) (upF (upF f_0 32 y32_c0) 33 y33_c0) A0 H0 H locs → lv_has ls 2 [(0, .ref (q 0)), (1, .int (J v_what))] → W p l e (rmd 1 0 0) s m ar below meth c H locs 0 0 QW (F0 m 0 ls []) := by
    intro k0
    induction k0 with
    | zero =>
      intro x40_c0 x37_c0 x38_c0 y32_c0 y33_c0 H locs ls iv0 ms0 hw hl
      obtain ⟨if_, ib_, it_, ⟨ez_, iz_, ik_⟩, iq_⟩ := iv0; exfalso; omega
    | succ k0 ih0 =>
      intro x40_c0 x37_c0 x38_c0 y32_c0 y33_c0 H locs ls iv0 ms0 hw hl
      obtain ⟨if_, ib_, it_, ⟨ez_, iz_, ik_⟩, iq_⟩ := iv0
      have in_ := Pk_nn ik_
      have hb_ := iz_.2
      have rx40_c0 : inR x40_c0 := mRn_40 hw.1.2.2.1
      have rx37_c0 : inR x37_c0 := mRn_37 hw.1.2.2.1
      have rx38_c0 : inR x38_c0 := mRn_38 hw.1.2.2.1
      refine j_aload_n E 1 rfl dX10_settles_0 rfl (lv_at hl 0 rfl) ?_
      refine m_get_40 E hK hw x40_c0 rfl 4 rfl dX10_settles_1 (fun _ => ?_)
      refine j_if_le E 7 57 rfl rx40_c0 dX10_settles_4 (by decide) (fun cc3_ => ?_) (fun cc3_ => ?_)
      · exact hret 57 (upN (upN (upN n_0 37 x37_c0) 38 x38_c0) 40 x40_c0) (upF (upF f_0 32 y32_c0) 33 y33_c0) _ _ ls hw ⟨x40_c0, x37_c0, x38_c0, y32_c0, y33_c0, rfl, rfl, ⟨if_, by omega, it_, by omega, ⟨ez_, iz_, ik_⟩, iq_⟩⟩ dX10_settles_57
      · refine j_aload_n E 8 rfl dX10_settles_7 rfl (lv_at hl 0 rfl) ?_
        refine m_ag_39 E hK hw 11 rfl dX10_settles_8 ?_
        refine j_aload_n E 12 rfl dX10_settles_11 rfl (lv_at hl 0 rfl) ?_
        refine m_get_40 E hK hw x40_c0 rfl 15 rfl dX10_settles_12 (fun _ => ?_)
        refine j_iconst E 16 rfl dX10_settles_15 ?_
        refine j_isub E 17 rfl dX10_settles_16 ?_
        refine m_ld_39 E hK hw (f_0 39 (x40_c0 - 1)) rfl (by omega) 18 rfl dX10_settles_17 (fun rr4_ => ?_)
        refine j_iload_n E 19 rfl dX10_settles_18 rfl (lv_at hl 1 rfl) ?_
        refine j_icmp_ne E 22 57 rfl rr4_ r_v_what dX10_settles_19 (by decide) (fun cc5_ => ?_) (fun cc5_ => ?_)
        · exact hret 57 (upN (upN (upN n_0 37 x37_c0) 38 x38_c0) 40 x40_c0) (upF (upF f_0 32 y32_c0) 33 y33_c0) _ _ ls hw ⟨x40_c0, x37_c0, x38_c0, y32_c0, y33_c0, rfl, rfl, ⟨if_, by omega, it_, by omega, ⟨ez_, iz_, ik_⟩, iq_⟩⟩ dX10_settles_57
        · have hp_ := Pk_pop ik_ (by omega)
          refine j_aload_n E 23 rfl dX10_settles_22 rfl (lv_at hl 0 rfl) ?_
          refine j_aload_n E 24 rfl dX10_settles_23 rfl (lv_at hl 0 rfl) ?_
          refine m_get_40 E hK hw x40_c0 rfl 27 rfl dX10_settles_24 (fun _ => ?_)
          refine j_iconst E 28 rfl dX10_settles_27 ?_
          refine j_isub E 29 rfl dX10_settles_28 ?_
          refine m_put_40 E hK hw (rr (by omega)) 32 rfl dX10_settles_29 (fun H locs hw => ?_)
          have hw : WM D cy q (upN (upN (upN n_0 37 x37_c0) 38 x38_c0) 40 (x40_c0 - 1)) (upF (upF f_0 32 y32_c0) 33 y33_c0) A0 H0 H locs := hw
          refine j_aload_n E 33 rfl dX10_settles_32 rfl (lv_at hl 0 rfl) ?_
          refine j_iload_n E 34 rfl dX10_settles_33 rfl (lv_at hl 1 rfl) ?_
          refine j_iconst E 35 rfl dX10_settles_34 ?_
          refine m_callv E (c_X10_emits l D cy q (upN (upN (upN n_0 37 x37_c0) 38 x38_c0) 40 (x40_c0 - 1)) (upF (upF f_0 32 y32_c0) 33 y33_c0) v_what 0  r_v_what (rr (by decide)) (show 0 ≤ (n_0 29) ∧ (n_0 29) < 32 from by omega) (show 0 ≤ (x37_c0) ∧ (x37_c0) ≤ 399 from by omega)) rfl mt_X10_emits ml_X10_265 hK hw hA ⟨Nat.le_of_ble_eq_true rfl, Nat.le_of_ble_eq_true rfl⟩ (As := [.int (J v_what), .int (J 0)]) (rest := []) rfl rfl hl.1 (Nat.le_of_ble_eq_true rfl) 38 rfl dX10_settles_35 (fun n_7 f_7 H locs hq7_ hw => ?_)
          obtain ⟨x37_7, y32_7, y33_7, en7_, ef7_, hq7_⟩ := hq7_
          rw [en7_, ef7_] at hw; clear en7_ ef7_
          have hw : WM D cy q (upN (upN (upN n_0 37 x37_7) 38 x38_c0) 40 (x40_c0 - 1)) (upF (upF f_0 32 y32_7) 33 y33_7) A0 H0 H locs := hw
          have rx37_7 : inR x37_7 := mRn_37 hw.1.2.2.1
          have hh7_ : (y32_7) = upA (y32_c0) (400 * (n_0 29) + (x37_c0)) v_what ∧ (y33_7) = upA (y33_c0) (400 * (n_0 29) + (x37_c0)) (0 : Int) ∧ (x37_7) = (x37_c0) + 1 := hq7_
          clear hq7_
          have hm_ : (x37_7) = (x37_c0) + 1 := hh7_.2.2
          have hf_ : Fr_ (y32_c0) (y33_c0) (y32_7) (y33_7) (400 * n_0 29 + (x37_c0)) := by rw [hh7_.1, hh7_.2.1]; exact Fr_up (by omega)
          have hc_ : cL_ (y32_7) (y33_7) (400 * n_0 29 + lo_) (400 * n_0 29 + (x37_7)) = cL_ (y32_c0) (y33_c0) (400 * n_0 29 + lo_) (400 * n_0 29 + (x37_c0)) ++ [cd_ v_what 0] := by rw [hh7_.1, hh7_.2.1, show 400 * n_0 29 + (x37_7) = 400 * n_0 29 + (x37_c0) + 1 by omega]; exact cL_ext (by omega)
          have hx_ : ∃ e_, Pz_ (y32_7) (y33_7) (400 * n_0 29 + lo_) (400 * n_0 29 + (x37_7)) e_ ∧ Pk_ (f_0 39) (x40_c0 - 1) (if v_what = 10 then (x38_c0) - 1 else (x38_c0)) bk_ (e_ - 1) := by
            rw [hh7_.1, hh7_.2.1, show 400 * n_0 29 + (x37_7) = 400 * n_0 29 + (x37_c0) + 1 by omega]
            rcases hp_ with q_ | q_ | q_ | q_
            · refine ⟨ez_, Pz_ext iz_ (by omega) (by omega) (by omega), ?_⟩; rw [if_pos (by omega)]; exact q_.2
            · exfalso; omega
            · refine ⟨ez_ - 1, Pz_ext iz_ (by omega) (by omega) (by omega), ?_⟩; rw [if_neg (by omega)]; exact q_.2.1
            · refine ⟨ez_ - 1, Pz_ext iz_ (by omega) (by omega) (by omega), ?_⟩; rw [if_neg (by omega)]; exact q_.2.1
          refine j_iload_n E 39 rfl dX10_settles_38 rfl (lv_at hl 1 rfl) ?_
          refine j_bipush E 41 rfl dX10_settles_39 (by decide) ?_
          refine j_icmp_ne E 44 0 rfl r_v_what (rr (by decide)) dX10_settles_41 (by decide) (fun cc8_ => ?_) (fun cc8_ => ?_)
          · exact ih0  (x40_c0 - 1) x37_7 x38_c0 y32_7 y33_7 H locs ls  (⟨Fr_tr if_ hf_ (by omega), by omega, by omega, by obtain ⟨e2_, a_, b_⟩ := hx_; exact ⟨e2_, a_, by first | (rw [if_pos (by omega)] at b_; exact b_) | (rw [if_neg (by omega)] at b_; exact b_)⟩, Mq_st (w := v_what) iq_ (by omega) (by omega) (by omega) hc_⟩) (by omega) hw (lv_sub hl [0, 1] rfl)
          · refine j_aload_n E 45 rfl dX10_settles_44 rfl (lv_at hl 0 rfl) ?_
            refine j_aload_n E 46 rfl dX10_settles_45 rfl (lv_at hl 0 rfl) ?_
            refine m_get_38 E hK hw x38_c0 rfl 49 rfl dX10_settles_46 (fun _ => ?_)
            refine j_iconst E 50 rfl dX10_settles_49 ?_
            refine j_isub E 51 rfl dX10_settles_50 ?_
            refine m_put_38 E hK hw (rr (by omega)) 54 rfl dX10_settles_51 (fun H locs hw => ?_)
            have hw : WM D cy q (upN (upN (upN n_0 37 x37_7) 38 (x38_c0 - 1)) 40 (x40_c0 - 1)) (upF (upF f_0 32 y32_7) 33 y33_7) A0 H0 H locs := hw
            refine j_goto E 0 dX10_settles_54 (by decide) ?_
            exact ih0  (x40_c0 - 1) x37_7 (x38_c0 - 1) y32_7 y33_7 H locs ls  (⟨Fr_tr if_ hf_ (by omega), by omega, by omega, by obtain ⟨e2_, a_, b_⟩ := hx_; exact ⟨e2_, a_, by first | (rw [if_pos (by omega)] at b_; exact b_) | (rw [if_neg (by omega)] at b_; exact b_)⟩, Mq_st (w := v_what) iq_ (by omega) (by omega) (by omega) hc_⟩) (by omega) hw (lv_sub hl [0, 1] rfl)
  exact L0_1 _  (n_0 40) (n_0 37) (n_0 38) (f_0 32) (f_0 33) H locs ls  (⟨Fr_rf, by have := Pk_nn hp4; omega, Or.inl rfl, ⟨el_, hp3, hp4⟩, Mq_rf⟩) (mk_lt _) hw (lv_sub hl [0, 1] rfl)
