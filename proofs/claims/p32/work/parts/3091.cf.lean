/-! ===== a summer, the class's side ===== -/
theorem He_of {pr ho : Prop} {yr w s o f s2 o2 f2 : Int} (h : pr) (q : He_ True ho yr w s o f s2 o2 f2) : He_ pr ho yr w s o f s2 o2 f2 := by
  rw [eq_true h]
  exact q
theorem Stw_rg {N : Int} {S : Int → Prop} {wo qu : Int → Int} {way sp z : Int} (h : Stw_ N S wo qu way sp z) : z = -1 ∨ (0 ≤ z ∧ z < 32) := h.elim (fun q => Or.inl q.1) (fun q => Or.inr q.1)
theorem Stw_no {N : Int} {S : Int → Prop} {wo qu : Int → Int} {way sp z : Int} (h : Stw_ N S wo qu way sp z) (e : z = -1) : ∀ p, 0 ≤ p → p < N → ¬ S p := h.elim (fun q => q.2) (fun q => absurd q.1 (by omega))
theorem spk_rg {c : Prop} {w W : Int} (h : c → 0 ≤ w ∧ w < W) : spk_ c w = -1 ∨ (0 ≤ spk_ c w ∧ spk_ c w < W) := by
  by_cases q : c
  · rw [spk_t q]; exact Or.inr (h q)
  · exact Or.inl (spk_f q)
theorem Nm_he {pr ho : Prop} {yr w s o f s2 o2 f2 : Int} (h : (0 ≤ s ∧ s ≤ 9) ∧ (s ≤ 0 → o = -1 ∧ f = -1) ∧ (0 < s → 0 ≤ o ∧ o < 32)) (hw : 0 ≤ w ∧ w < 32) (he : He_ pr ho yr w s o f s2 o2 f2) : (0 ≤ s2 ∧ s2 ≤ 9) ∧ (s2 ≤ 0 → o2 = -1 ∧ f2 = -1) ∧ (0 < s2 → 0 ≤ o2 ∧ o2 < 32) := by
  rcases he with ⟨-, a2, a3, a4⟩ | ⟨-, a2, a3, a4, a5, a6⟩ | ⟨-, a2, a3, a4⟩
  · rcases a4 with ⟨-, -, c3, c4⟩ | ⟨-, c2, c3⟩
    · exact ⟨by omega, fun q => by omega, fun q => by omega⟩
    · exact ⟨by omega, fun q => by omega, fun q => by omega⟩
  · exact ⟨by omega, fun q => by omega, fun q => by omega⟩
  · rw [a2, a3, a4]; exact h
theorem Nm_fd {li : Prop} {s o f s2 o2 f2 : Int} (h : (0 ≤ s ∧ s ≤ 9) ∧ (s ≤ 0 → o = -1 ∧ f = -1) ∧ (0 < s → 0 ≤ o ∧ o < 32)) (he : Fd_ li s o f s2 o2 f2) : (0 ≤ s2 ∧ s2 ≤ 9) ∧ (s2 ≤ 0 → o2 = -1 ∧ f2 = -1) ∧ (0 < s2 → 0 ≤ o2 ∧ o2 < 32) := by
  rcases he with ⟨-, a2, a3, a4, a5⟩ | ⟨-, a2, a3, a4, a5⟩ | ⟨-, a2, a3, a4⟩
  · exact ⟨by omega, fun q => by omega, fun q => by omega⟩
  · exact ⟨by omega, fun q => by omega, fun q => by omega⟩
  · rw [a2, a3, a4]; exact h
theorem Ec_00 {N l : Int} {F : Int → Int → Int → Int → Int → Int → Int → Prop} {V V1 : Nat → Int → Int → Int} (hl : 0 ≤ l ∧ l < 24) (e : ∀ p j : Int, 0 ≤ p → p < N → V1 0 p j = V 0 p j ∧ V1 1 p j = V 1 p j ∧ V1 2 p j = V 2 p j) : Ec_ N l 0 F V V1 := ⟨fun p h0 h1 => absurd h1 (by omega), fun p p0 p1 p2 => e p l p2 p1, fun p j p0 p1 _ _ _ => e p j p0 p1⟩
theorem nm_cal {G : Nat → Int → Int} {N L M way sp now k z : Int} {Pr : Int → Prop} {V U : Nat → Int → Int → Int} {C D : Nat → Int → Int} (h : Nm_ N V) (hN : 0 ≤ N) (hc : Cal_ G (KM_ N L M way sp) now Pr k V C U D z) (hk : 0 ≤ k ∧ k < 24) (f1 : ∀ p j : Int, 0 ≤ p → p < N → 0 ≤ j → j < 24 → ¬ j = k → U 0 p j = V 0 p j ∧ U 1 p j = V 1 p j ∧ U 2 p j = V 2 p j) : Nm_ N U := fun p j p0 p1 j0 j1 => by
  by_cases e : j = k
  · subst e
    have hp := h p j p0 p1 j0 j1
    rcases hc with ⟨-, -, -, -, -, -, a6⟩ | ⟨-, -, w, w0, sw, -, -, -, -, a7⟩
    · obtain ⟨e1, e2, e3⟩ := a6 p p0 p1
      rw [e1, e2, e3]; exact hp
    · have hn : ((N.toNat : Nat) : Int) = N := by omega
      have wr : 0 ≤ w ∧ w < 32 := Sw_rg (n := N.toNat) (W := 32) sw (spk_rg (fun ⟨a, b, _, d⟩ => (h sp j a b j0 j1).2.2 d)) (by omega) (fun q q0 q1 qs => (h q j q0 (by omega) j0 j1).2.2 qs.2)
      exact Nm_he hp wr (a7 p p0 p1)
  · obtain ⟨e1, e2, e3⟩ := f1 p j p0 p1 j0 j1 e
    rw [e1, e2, e3]
    exact h p j p0 p1 j0 j1
theorem nm_ec {N l : Int} {Q : Int → Prop} {V V2 : Nat → Int → Int → Int} (h : Nm_ N V) (he : Ec_ N l N (fun p s o f s2 o2 f2 => Fd_ (Q p) s o f s2 o2 f2) V V2) : Nm_ N V2 := fun p j p0 p1 j0 j1 => by
  have hp := h p j p0 p1 j0 j1
  by_cases e : j = l
  · subst e
    exact Nm_fd hp (he.1 p p0 p1)
  · obtain ⟨e1, e2, e3⟩ := he.2.2 p j p0 p1 j0 j1 e
    rw [e1, e2, e3]; exact hp
theorem hb_up {g z z1 k : Int} (h : ∀ p, k ≤ p → p < 32 → bt_ g p.toNat = false) (e1 : J z1 = J 1 <<< (J k &&& 31)) (e2 : J z = J g ||| J z1) (hk : 0 ≤ k ∧ k < 32) : bt_ z k.toNat = true ∧ (∀ l, 0 ≤ l → l < k → (bt_ z l.toNat = true ↔ bt_ g l.toNat = true)) ∧ (∀ p, k + 1 ≤ p → p < 32 → bt_ z p.toNat = false) := by
  refine ⟨?_, fun l l0 l1 => ?_, fun p p0 p1 => ?_⟩
  · rw [bt_set e1 e2 hk k.toNat (by omega)]
    simp
  · rw [bt_set e1 e2 hk l.toNat (by omega), show decide (l.toNat = k.toNat) = false from decide_eq_false (by omega)]
    simp
  · rw [bt_set e1 e2 hk p.toNat (by omega), h p (by omega) p1, show decide (p.toNat = k.toNat) = false from decide_eq_false (by omega)]
    rfl
/-- the lines below k are called, those from k to L are as they were, of those behind the persons' rows -/
def Lq_ (G : Nat → Int → Int) (K : Nat → Int) (now : Int) (Pr : Int → Prop) (V : Nat → Int → Int → Int) (C : Nat → Int → Int) (U : Nat → Int → Int → Int) (D : Nat → Int → Int) (sd : Int → Prop) (k : Int) : Prop := (∀ l, 0 ≤ l → l < k → ∃ z, Cc_ G K now Pr l V C U D z ∧ ((z = 0 ∧ ¬ sd l) ∨ (z = 1 ∧ sd l))) ∧ (∀ l, k ≤ l → l < K 1 → Sc_ K V C U D l) ∧ (∀ l, K 1 ≤ l → l < 24 → Sme_ K V U l)
section Lq
variable {G : Nat → Int → Int} {K : Nat → Int} {now : Int} {V U V2 : Nat → Int → Int → Int} {C D C2 : Nat → Int → Int} {Pr Pr2 : Int → Prop} {k : Int}
theorem Lq_0 {sd : Int → Prop} : Lq_ G K now Pr V C V C sd 0 := ⟨fun l h0 h1 => absurd h1 (by omega), fun _ _ _ => Sc_rf, fun _ _ _ _ _ _ => ⟨rfl, rfl, rfl⟩⟩
theorem Lq_pr {sd : Int → Prop} (h : Lq_ G K now Pr V C U D sd k) (hP : ∀ p, 0 ≤ p → p < K 0 → (Pr p ↔ Pr2 p)) : Lq_ G K now Pr2 V C U D sd k := by
  refine ⟨fun l l0 l1 => ?_, h.2⟩
  obtain ⟨z, a, b⟩ := h.1 l l0 l1
  refine ⟨z, ?_, b⟩
  rcases a with ⟨a1, a2, a3⟩ | a
  · exact Or.inl ⟨a1, a2, Cal_pr a3 hP⟩
  · exact Or.inr a
theorem Sm_oq {sd : Int → Prop} (h : Lq_ G K now (prs_ G K C now) V C U D sd (K 1)) (hf : Lf_ G K now sd U V2 (K 1)) (hK : 0 ≤ K 1 ∧ K 1 ≤ 24) (ha : ∀ p, 0 ≤ p → p < K 0 → C2 3 p = 0) (hD : ∀ l, 0 ≤ l → l < K 1 → C2 0 l = D 0 l ∧ C2 1 l = D 1 l ∧ C2 2 l = D 2 l) : Sm_ G K now V C V2 C2 := by
  refine ⟨⟨U, fun l l0 l1 => ?_⟩, fun l l0 l1 => Sme_tr (h.2.2 l l0 l1) (hf.2.1 l l0 l1), ha⟩
  obtain ⟨z, a, b⟩ := h.1 l l0 l1
  refine ⟨z, Cc_out a ⟨fun _ _ _ => ⟨rfl, rfl, rfl⟩, fun _ _ _ => rfl, (hD l l0 l1).1, (hD l l0 l1).2.1, (hD l l0 l1).2.2⟩, hf.2.2 l l0 (by omega), ?_⟩
  rcases hf.1 l l0 l1 with ⟨f1, f2, f3⟩ | ⟨f1, f2⟩
  · rcases b with ⟨b1, b2⟩ | ⟨b1, b2⟩
    · exact Or.inl ⟨b1, f2, f3⟩
    · exact absurd b2 f1
  · refine Or.inr ⟨fun q => f1 ⟨?_, q.2⟩, f2⟩
    rcases b with ⟨b1, b2⟩ | ⟨b1, b2⟩
    · exact b2
    · exfalso; have := q.1; omega
end Lq
section Cls
variable {T : Nat → Nat → Nat} {x n : Nat} {N L M way sp now k l z w : Int} {Pr : Int → Prop} {y40 y41 y42 y43 y20 y21 yz y141 y143 y146 y144 y22 y23 y24 y44 z22 z23 z24 z44 y yb y2 yb2 : Nat → Int} {G : Nat → Int → Int} {V0 U0 : Nat → Int → Int → Int} {C0 : Nat → Int → Int} {sd sd2 : Int → Prop}
theorem cal_cs (hn : pe_ T 181 x k = n) (h0 : 0 ≤ now) (hv : ∀ p j : Int, 0 ≤ p → p < N → (VC_ T x y2 yb) 0 p j = (VC_ T x y yb) 0 p j ∧ (VC_ T x y2 yb) 1 p j = (VC_ T x y yb) 1 p j ∧ (VC_ T x y2 yb) 2 p j = (VC_ T x y yb) 2 p j) (hS : ∀ p, 0 ≤ p → p < N → ¬ (Pr p ∧ 0 < gC_ y (T 47 (pe_ T 180 x p)) k)) (eb : yb2 = upB yb (pr (T 26 n) now.toNat) (-1)) (e22 : z22 = upB y22 n (y22 n + 1)) (e23 : (3 ≤ y22 n + 1 ∧ z23 = upB y23 n now) ∨ (y22 n + 1 < 3 ∧ z23 = y23)) : Cal_ G (KM_ N L M way sp) now Pr k (VC_ T x y yb) (CC_ T x y22 y23 y24 y44) (VC_ T x y2 yb2) (CC_ T x z22 z23 y24 y44) 0 := by
  refine Or.inl ⟨rfl, hS, ?_, ?_, rfl, fun t t0 t1 => ?_, fun p p0 p1 => hv p k p0 p1⟩
  · show z22 (pe_ T 181 x k) = y22 (pe_ T 181 x k) + 1
    rw [hn, e22, upB_same]
  · show (3 ≤ y22 (pe_ T 181 x k) + 1 ∧ z23 (pe_ T 181 x k) = now) ∨ (y22 (pe_ T 181 x k) + 1 < 3 ∧ z23 (pe_ T 181 x k) = y23 (pe_ T 181 x k))
    rw [hn]
    rcases e23 with ⟨a, b⟩ | ⟨a, b⟩
    · exact Or.inl ⟨a, by rw [b, upB_same]⟩
    · exact Or.inr ⟨a, by rw [b]⟩
  · show gC_ yb2 (T 26 (pe_ T 181 x k)) t = upA (fun t => gC_ yb (T 26 (pe_ T 181 x k)) t) now (-1) t
    rw [hn, eb]
    by_cases e : t = now
    · rw [e, gC_us, upA_same]
    · rw [gC_ui h0 t0 e, upA_ne e]
theorem cal_cy (hn : pe_ T 181 x k = n) (h0 : 0 ≤ now) (hS : Stw_ N (fun p => Pr p ∧ 0 < gC_ y (T 47 (pe_ T 180 x p)) k) (fun p => gC_ y (T 46 (pe_ T 180 x p)) k) (fun p => y40 (pe_ T 180 x p)) way (spk_ (0 ≤ sp ∧ sp < N ∧ Pr sp ∧ 0 < gC_ y (T 47 (pe_ T 180 x sp)) k) (gC_ y (T 46 (pe_ T 180 x sp)) k)) w) (hw : ¬ w = -1) (eb : yb2 = upB yb (pr (T 26 n) now.toNat) w) (e22 : z22 = upB y22 n 0) (e24 : z24 = upB y24 n (w32_ (y24 n + 1))) (he : ∀ p, 0 ≤ p → p < N → He_ (Pr p) (¬ gC_ yz (T 184 x) (y41 (pe_ T 180 x p)) = 0) (w32_ (now - y42 (pe_ T 180 x p))) w (VC_ T x y yb 0 p k) (VC_ T x y yb 1 p k) (VC_ T x y yb 2 p k) (VC_ T x y2 yb 0 p k) (VC_ T x y2 yb 1 p k) (VC_ T x y2 yb 2 p k)) : Cal_ (GC_ T x y40 y41 y42 y43 y20 y21 yz y141 y143 y146 y144) (KM_ N L M way sp) now Pr k (VC_ T x y yb) (CC_ T x y22 y23 y24 y44) (VC_ T x y2 yb2) (CC_ T x z22 y23 z24 y44) 1 := by
  rcases hS with ⟨a, -⟩ | ⟨w0, ex, sw⟩
  · exact absurd a hw
  · refine Or.inr ⟨rfl, ex, w, w0.1, sw, ?_, rfl, ?_, fun t t0 t1 => ?_, he⟩
    · show z22 (pe_ T 181 x k) = 0
      rw [hn, e22, upB_same]
    · show z24 (pe_ T 181 x k) = w32_ (y24 (pe_ T 181 x k) + 1)
      rw [hn, e24, upB_same]
    · show gC_ yb2 (T 26 (pe_ T 181 x k)) t = upA (fun t => gC_ yb (T 26 (pe_ T 181 x k)) t) now w t
      rw [hn, eb]
      by_cases e : t = now
      · rw [e, gC_us, upA_same]
      · rw [gC_ui h0 t0 e, upA_ne e]
theorem cl_fr {D : va_G} {cy : Nat → ClassId} {v : Nat → Nat → Int} {H : Heap} (hw : WC D cy T v H) (hx : T 0 x = 9) (hij : Ij_ T 181 x (v 202 (T 181 x))) (h24 : v 202 (T 181 x) ≤ 24) (hk : 0 ≤ k ∧ k < v 202 (T 181 x)) (hn : pe_ T 181 x k = n) (f1 : (∀ p j : Int, 0 ≤ p → p < N → 0 ≤ j → j < 24 → ¬ j = k → (VC_ T x y2 yb2) 0 p j = (VC_ T x y yb) 0 p j ∧ (VC_ T x y2 yb2) 1 p j = (VC_ T x y yb) 1 p j ∧ (VC_ T x y2 yb2) 2 p j = (VC_ T x y yb) 2 p j)) (f2 : ∀ b : Nat, b ≠ n → z22 b = y22 b ∧ z23 b = y23 b ∧ z24 b = y24 b) (f3 : ∀ b i : Nat, b ≠ T 26 n → yb2 (pr b i) = yb (pr b i)) : ∀ l : Int, 0 ≤ l → l < v 202 (T 181 x) → ¬ l = k → Sc_ (KM_ N L M way sp) (VC_ T x y yb) (CC_ T x y22 y23 y24 y44) (VC_ T x y2 yb2) (CC_ T x z22 z23 z24 y44) l := by
  intro l l0 l1 ln
  have ne : pe_ T 181 x l ≠ n := by
    rw [← hn]
    exact pe_ne hij (el_ex hw (wt_181 hw.2.1 hx)) l0 l1 hk.1 hk.2 ln
  have t1 := pe1 hw hx l0 l1
  have t2 := pe1 hw hx hk.1 hk.2
  rw [hn] at t2
  obtain ⟨e1, e2, e3⟩ := f2 _ ne
  refine ⟨fun p p0 p1 => f1 p l p0 p1 l0 (by omega) ln, fun t t0 t1' => ?_, e1, e2, e3⟩
  exact f3 (T 26 (pe_ T 181 x l)) t.toNat (fun e => by
    have o1 := wo_26 hw.2.1 t1
    have o2 := wo_26 hw.2.1 t2
    rw [e] at o1
    omega)
theorem si_cal (h : ∀ l, 0 ≤ l → l < L → y23 (pe_ T 181 x l) = -1 → 0 ≤ y22 (pe_ T 181 x l) ∧ y22 (pe_ T 181 x l) ≤ 2) (hn : 0 ≤ now) (hc : Cal_ G (KM_ N L M way sp) now Pr k V0 (CC_ T x y22 y23 y24 y44) U0 (CC_ T x z22 z23 z24 y44) z) (fr : ∀ l : Int, 0 ≤ l → l < L → ¬ l = k → Sc_ (KM_ N L M way sp) V0 (CC_ T x y22 y23 y24 y44) U0 (CC_ T x z22 z23 z24 y44) l) : ∀ l, 0 ≤ l → l < L → z23 (pe_ T 181 x l) = -1 → 0 ≤ z22 (pe_ T 181 x l) ∧ z22 (pe_ T 181 x l) ≤ 2 := by
  intro l l0 l1 hd
  by_cases e : l = k
  · subst e
    have q := h l l0 l1
    rcases hc with ⟨-, -, a2, a3, -⟩ | ⟨-, -, w, -, -, a3, -⟩
    · have a2 : z22 (pe_ T 181 x l) = y22 (pe_ T 181 x l) + 1 := a2
      have a3 : (3 ≤ y22 (pe_ T 181 x l) + 1 ∧ z23 (pe_ T 181 x l) = now) ∨ (y22 (pe_ T 181 x l) + 1 < 3 ∧ z23 (pe_ T 181 x l) = y23 (pe_ T 181 x l)) := a3
      omega
    · have a3 : z22 (pe_ T 181 x l) = 0 := a3
      omega
  · have s := fr l l0 l1 e
    have s1 : z22 (pe_ T 181 x l) = y22 (pe_ T 181 x l) := s.2.2.1
    have s2 : z23 (pe_ T 181 x l) = y23 (pe_ T 181 x l) := s.2.2.2.1
    have q := h l l0 l1
    omega
theorem lq_m (h : Lq_ (GC_ T x y40 y41 y42 y43 y20 y21 yz y141 y143 y146 y144) (KM_ N L M way sp) now Pr V0 C0 (VC_ T x y yb) (CC_ T x y22 y23 y24 y44) sd k) (hk : 0 ≤ k ∧ k < L) (h24 : L ≤ 24) (hg : y20 (pe_ T 181 x k) = now % 3) (hd : y23 (pe_ T 181 x k) = -1) (hc : Cal_ (GC_ T x y40 y41 y42 y43 y20 y21 yz y141 y143 y146 y144) (KM_ N L M way sp) now Pr k (VC_ T x y yb) (CC_ T x y22 y23 y24 y44) (VC_ T x y2 yb2) (CC_ T x z22 z23 z24 y44) z) (f1 : (∀ p j : Int, 0 ≤ p → p < N → 0 ≤ j → j < 24 → ¬ j = k → (VC_ T x y2 yb2) 0 p j = (VC_ T x y yb) 0 p j ∧ (VC_ T x y2 yb2) 1 p j = (VC_ T x y yb) 1 p j ∧ (VC_ T x y2 yb2) 2 p j = (VC_ T x y yb) 2 p j)) (fr : ∀ l : Int, 0 ≤ l → l < L → ¬ l = k → Sc_ (KM_ N L M way sp) (VC_ T x y yb) (CC_ T x y22 y23 y24 y44) (VC_ T x y2 yb2) (CC_ T x z22 z23 z24 y44) l) (hz : (z = 0 ∧ ¬ sd2 k) ∨ (z = 1 ∧ sd2 k)) (hsd : ∀ l, 0 ≤ l → l < k → (sd2 l ↔ sd l)) : Lq_ (GC_ T x y40 y41 y42 y43 y20 y21 yz y141 y143 y146 y144) (KM_ N L M way sp) now Pr V0 C0 (VC_ T x y2 yb2) (CC_ T x z22 z23 z24 y44) sd2 (k + 1) := by
  refine ⟨fun l l0 l1 => ?_, fun l l0 l1 => Sc_tr (h.2.1 l (by omega) l1) (fr l (by omega) l1 (by omega)), fun l (l0 : L ≤ l) l1 => Sme_tr (h.2.2 l l0 l1) (fun p p0 p1 => f1 p l p0 p1 (by omega) l1 (by omega))⟩
  by_cases e : l = k
  · subst e
    have s := h.2.1 l (Int.le_refl l) hk.2
    exact ⟨z, Or.inl ⟨hg, s.2.2.2.1.symm.trans hd, Cal_in hc s⟩, hz⟩
  · obtain ⟨z', a, b⟩ := h.1 l l0 (by omega)
    refine ⟨z', Cc_out a (fr l l0 (by omega) e), ?_⟩
    rw [hsd l l0 (by omega)]
    exact b
theorem lq_n (h : Lq_ (GC_ T x y40 y41 y42 y43 y20 y21 yz y141 y143 y146 y144) (KM_ N L M way sp) now Pr V0 C0 (VC_ T x y yb) (CC_ T x y22 y23 y24 y44) sd k) (hk : 0 ≤ k ∧ k < L) (hn : ¬ (y20 (pe_ T 181 x k) = now % 3 ∧ y23 (pe_ T 181 x k) = -1)) (hz : ¬ sd k) : Lq_ (GC_ T x y40 y41 y42 y43 y20 y21 yz y141 y143 y146 y144) (KM_ N L M way sp) now Pr V0 C0 (VC_ T x y yb) (CC_ T x y22 y23 y24 y44) sd (k + 1) := by
  refine ⟨fun l l0 l1 => ?_, fun l l0 l1 => h.2.1 l (by omega) l1, h.2.2⟩
  by_cases e : l = k
  · subst e
    have s := h.2.1 l (Int.le_refl l) hk.2
    exact ⟨0, Or.inr ⟨fun q => hn ⟨q.1, s.2.2.2.1.trans q.2⟩, rfl, s.2.2, s.2.1, s.1⟩, Or.inl ⟨rfl, hz⟩⟩
  · exact h.1 l l0 (by omega)
theorem lf_c (h : Lf_ (GC_ T x y40 y41 y42 y43 y20 y21 yz y141 y143 y146 y144) (KM_ N L M way sp) now sd U0 (VC_ T x y yb) k) (hk : 0 ≤ k ∧ k < 24) (hs : ¬ sd k) (hv : y21 (pe_ T 181 x k) = 0 ∨ now % 3 = 2) (he : Ec_ N k N (fun p s o f s2 o2 f2 => Fd_ (y43 (pe_ T 180 x p) = -1) s o f s2 o2 f2) (VC_ T x y yb) (VC_ T x y2 yb)) : Lf_ (GC_ T x y40 y41 y42 y43 y20 y21 yz y141 y143 y146 y144) (KM_ N L M way sp) now sd U0 (VC_ T x y2 yb) (k + 1) := Lf_st h hk (fun l l0 l1 ln p p0 p1 => he.2.2 p l p0 p1 l0 l1 ln) (fun _ _ _ _ _ _ => rfl) (Or.inl ⟨⟨hs, hv⟩, fun p p0 p1 => he.1 p p0 p1⟩)
theorem lf_n (h : Lf_ (GC_ T x y40 y41 y42 y43 y20 y21 yz y141 y143 y146 y144) (KM_ N L M way sp) now sd U0 (VC_ T x y yb) k) (hk : 0 ≤ k ∧ k < 24) (hn : ¬ (¬ sd k ∧ (y21 (pe_ T 181 x k) = 0 ∨ now % 3 = 2))) : Lf_ (GC_ T x y40 y41 y42 y43 y20 y21 yz y141 y143 y146 y144) (KM_ N L M way sp) now sd U0 (VC_ T x y yb) (k + 1) := Lf_st h hk (fun _ _ _ _ _ _ _ => ⟨rfl, rfl, rfl⟩) (fun _ _ _ _ _ _ => rfl) (Or.inr ⟨hn, fun _ _ _ => ⟨rfl, rfl, rfl⟩⟩)
end Cls
