/-! ===== level d: the relation ===== -/
def D1_ (T : Nat → Nat → Nat) (v : Nat → Nat → Int) (x : Nat) (n : Nat → Int) (f : Nat → Int → Int) : Prop := ∀ p l : Int, 0 ≤ p → p < n 2 → 0 ≤ l → l < 24 → gC_ (v 300) (T 47 (pe_ T 180 x p)) l = f 19 (24 * p + l) ∧ gC_ (v 300) (T 46 (pe_ T 180 x p)) l = nz_ (f 19 (24 * p + l)) (f 20 (24 * p + l)) ∧ gC_ (v 300) (T 48 (pe_ T 180 x p)) l = nz_ (f 19 (24 * p + l)) (f 21 (24 * p + l))
def D2_ (T : Nat → Nat → Nat) (v : Nat → Nat → Int) (x : Nat) (n : Nat → Int) (f : Nat → Int → Int) : Prop := ∀ l t : Int, 0 ≤ l → l < n 12 → 0 ≤ t → t < 200 → gC_ (v 302) (T 26 (pe_ T 181 x l)) t = f 18 (200 * l + t)
def D3_ (T : Nat → Nat → Nat) (v : Nat → Nat → Int) (x : Nat) (n : Nat → Int) (f : Nat → Int → Int) : Prop := ∀ l : Int, 0 ≤ l → l < n 12 → v 20 (pe_ T 181 x l) = f 13 l ∧ v 21 (pe_ T 181 x l) = f 14 l ∧ v 22 (pe_ T 181 x l) = f 15 l ∧ v 23 (pe_ T 181 x l) = f 16 l ∧ v 24 (pe_ T 181 x l) = f 17 l
def D5_ (T : Nat → Nat → Nat) (v : Nat → Nat → Int) (x : Nat) (n : Nat → Int) (f : Nat → Int → Int) : Prop := ∀ k : Int, 0 ≤ k → k ≤ 7 → gC_ (v 301) (T 184 x) k = f 9 k
def D6_ (T : Nat → Nat → Nat) (v : Nat → Nat → Int) (x : Nat) (n : Nat → Int) (f : Nat → Int → Int) : Prop := v 202 (T 183 x) = n 48 ∧ Ij_ T 183 x (n 48) ∧ ∀ i : Int, 0 ≤ i → i < n 48 → v 141 (pe_ T 183 x i) = f 50 i ∧ v 143 (pe_ T 183 x i) = f 52 i ∧ v 146 (pe_ T 183 x i) = f 54 i ∧ v 144 (pe_ T 183 x i) = f 53 i ∧ v 140 (pe_ T 183 x i) = f 49 i ∧ v 142 (pe_ T 183 x i) = f 51 i
def D7_ (T : Nat → Nat → Nat) (v : Nat → Nat → Int) (x : Nat) (n : Nat → Int) (f : Nat → Int → Int) : Prop := ∀ p : Int, 0 ≤ p → p < n 2 → v 45 (pe_ T 180 x p) = f 8 p
def D8_ (T : Nat → Nat → Nat) (v : Nat → Nat → Int) (x : Nat) (n : Nat → Int) (f : Nat → Int → Int) : Prop := v 188 x = n 10 ∧ v 189 x = n 11
def D9_ (T : Nat → Nat → Nat) (v : Nat → Nat → Int) (x : Nat) (n : Nat → Int) (f : Nat → Int → Int) : Prop := ∀ i r : Int, 0 ≤ i → i < n 48 → 0 ≤ r → r < 24 → Ptq_ (v 143 (pe_ T 183 x i)) (cn_ (v 145 (pe_ T 183 x i))) (v 140 (pe_ T 183 x i)) (fun i_ => bt_ (v 145 (pe_ T 183 x i)) (Int.toNat i_) = true) r (f 55 (24 * i + r))
def RD (T : Nat → Nat → Nat) (v : Nat → Nat → Int) (x : Nat) (n : Nat → Int) (f : Nat → Int → Int) : Prop := D1_ T v x n f ∧ D2_ T v x n f ∧ D3_ T v x n f ∧ D5_ T v x n f ∧ D6_ T v x n f ∧ D7_ T v x n f ∧ D8_ T v x n f ∧ D9_ T v x n f
/-- what a call leaves as it was -/
def Cx_ (D : va_G) (cy : Nat → ClassId) (H : Heap) (T T2 : Nat → Nat → Nat) (v : Nat → Nat → Int) (x : Nat) (n : Nat → Int) : Prop := WC D cy T v H ∧ T 0 x = 9 ∧ v 202 (T 180 x) = n 2 ∧ v 202 (T 181 x) = n 12 ∧ v 202 (T 183 x) = n 48 ∧ (∀ b, b < H.size → T 0 b ≠ 10 → T 0 b ≠ 24 → T 0 b ≠ 26 → b ≠ x → ∀ j, j ≠ 197 → T2 j b = T j b) ∧ (∀ i : Nat, (i : Int) < n 2 → ELn_ T2 180 x i = ELn_ T 180 x i) ∧ (∀ i : Nat, (i : Int) < n 12 → ELn_ T2 181 x i = ELn_ T 181 x i) ∧ (∀ i : Nat, (i : Int) < n 48 → ELn_ T2 183 x i = ELn_ T 183 x i)
section Rd
variable {D : va_G} {cy : Nat → ClassId} {H : Heap} {T T2 : Nat → Nat → Nat} {v v2 : Nat → Nat → Int} {x : Nat} {n n2 : Nat → Int} {f f2 : Nat → Int → Int} {ks : List Nat}
theorem pe_mk {k : Nat} {N p : Int} (he : ∀ i : Nat, (i : Int) < N → ELn_ T2 k x i = ELn_ T k x i) (p0 : 0 ≤ p) (p1 : p < N) : pe_ T2 k x p = pe_ T k x p := by
  unfold pe_
  rw [he p.toNat (by omega)]
theorem Cx_rf (hw : WC D cy T v H) (hx : T 0 x = 9) (h0 : v 202 (T 180 x) = n 2) (h1 : v 202 (T 181 x) = n 12) (h3 : v 202 (T 183 x) = n 48) : Cx_ D cy H T T v x n := ⟨hw, hx, h0, h1, h3, fun _ _ _ _ _ _ _ _ => rfl, fun _ _ => rfl, fun _ _ => rfl, fun _ _ => rfl⟩
theorem KdA_k {sz : Nat} {y y2 : Nat → Int} (h : Kd_ T ks y y2) : KdA_ T sz ks y y2 := fun b _ _ hb i => h b hb i
theorem pr_row {y2 : Nat → Int} {p : Int} (c : Cx_ D cy H T T2 v x n) (hk : KdA_ T H.size ks (v 300) y2) (nk : 46 ∉ ks ∧ 47 ∉ ks ∧ 48 ∉ ks) (p0 : 0 ≤ p) (p1 : p < n 2) : gC_ y2 (T2 47 (pe_ T2 180 x p)) = gC_ (v 300) (T 47 (pe_ T 180 x p)) ∧ gC_ y2 (T2 46 (pe_ T2 180 x p)) = gC_ (v 300) (T 46 (pe_ T 180 x p)) ∧ gC_ y2 (T2 48 (pe_ T2 180 x p)) = gC_ (v 300) (T 48 (pe_ T 180 x p)) := by
  obtain ⟨hw, hx, s0, s1, s3, hC, h0, h1, h3⟩ := c
  have e := pe_mk h0 p0 p1
  have t := pe2 hw hx p0 (show p < v 202 (T 180 x) by omega)
  have hT := hw.2.1
  have la : (pe_ T 180 x p) < H.size := cw_lt hw t (fun _ _ _ => ⟨_, rfl⟩)
  have na : (pe_ T 180 x p) ≠ x := fun q => by rw [q, hx] at t; cases t
  have key : ∀ k : Nat, k ≠ 197 → T 0 (T k (pe_ T 180 x p)) = 20 → T 3 (T k (pe_ T 180 x p)) % 300 = k → k ∉ ks → gC_ y2 (T2 k (pe_ T2 180 x p)) = gC_ (v 300) (T k (pe_ T 180 x p)) := fun k h197 t20 o3 hn => by
    rw [e, hC _ la (by omega) (by omega) (by omega) na k h197]
    have lb : T k (pe_ T 180 x p) < H.size := cw_lt hw t20 (fun _ _ _ => ⟨_, rfl⟩)
    exact funext fun j => hk _ lb t20 (by rw [o3]; exact hn) j.toNat
  exact ⟨key 47 (by decide) (wt_47 hT t) (wok (wo_47 hT t) (by decide)) nk.2.1, key 46 (by decide) (wt_46 hT t) (wok (wo_46 hT t) (by decide)) nk.1, key 48 (by decide) (wt_48 hT t) (wok (wo_48 hT t) (by decide)) nk.2.2⟩
theorem ln_row {l : Int} (c : Cx_ D cy H T T2 v x n) (l0 : 0 ≤ l) (l1 : l < n 12) : pe_ T2 181 x l = (pe_ T 181 x l) ∧ T2 26 (pe_ T2 181 x l) = T 26 (pe_ T 181 x l) := by
  obtain ⟨hw, hx, s0, s1, s3, hC, h0, h1, h3⟩ := c
  have e := pe_mk h1 l0 l1
  have t := pe1 hw hx l0 (show l < v 202 (T 181 x) by omega)
  have la : (pe_ T 181 x l) < H.size := cw_lt hw t (fun _ _ _ => ⟨_, rfl⟩)
  have na : (pe_ T 181 x l) ≠ x := fun q => by rw [q, hx] at t; cases t
  refine ⟨e, ?_⟩
  rw [e, hC _ la (by omega) (by omega) (by omega) na 26 (by decide)]
theorem D1_mk (c : Cx_ D cy H T T2 v x n) (hk : KdA_ T H.size ks (v 300) (v2 300)) (nk : 46 ∉ ks ∧ 47 ∉ ks ∧ 48 ∉ ks) (e2 : n2 2 = n 2) (g19 : f2 19 = f 19) (g20 : f2 20 = f 20) (g21 : f2 21 = f 21) (h : D1_ T v x n f) : D1_ T2 v2 x n2 f2 := fun p l p0 p1 l0 l1 => by
  rw [e2] at p1
  obtain ⟨a, b, d⟩ := pr_row c hk nk p0 p1
  rw [a, b, d, g19, g20, g21]
  exact h p l p0 p1 l0 l1
theorem D2_mk (c : Cx_ D cy H T T2 v x n) (r : v2 302 = v 302) (e12 : n2 12 = n 12) (g : f2 18 = f 18) (h : D2_ T v x n f) : D2_ T2 v2 x n2 f2 := fun l t l0 l1 t0 t1 => by
  rw [e12] at l1
  rw [(ln_row c l0 l1).2, r, g]
  exact h l t l0 l1 t0 t1
theorem D3_mk (c : Cx_ D cy H T T2 v x n) (r20 : v2 20 = v 20) (r21 : v2 21 = v 21) (r22 : v2 22 = v 22) (r23 : v2 23 = v 23) (r24 : v2 24 = v 24) (e12 : n2 12 = n 12) (g13 : f2 13 = f 13) (g14 : f2 14 = f 14) (g15 : f2 15 = f 15) (g16 : f2 16 = f 16) (g17 : f2 17 = f 17) (h : D3_ T v x n f) : D3_ T2 v2 x n2 f2 := fun l l0 l1 => by
  rw [e12] at l1
  rw [(ln_row c l0 l1).1, r20, r21, r22, r23, r24, g13, g14, g15, g16, g17]
  exact h l l0 l1
theorem D5_mk (e : T2 184 x = T 184 x) (r : v2 301 = v 301) (g : f2 9 = f 9) (h : D5_ T v x n f) : D5_ T2 v2 x n2 f2 := fun k k0 k1 => by
  rw [e, r, g]
  exact h k k0 k1
theorem D6_mk (c : Cx_ D cy H T T2 v x n) (z : v2 202 (T2 183 x) = v 202 (T 183 x)) (r140 : v2 140 = v 140) (r141 : v2 141 = v 141) (r142 : v2 142 = v 142) (r143 : v2 143 = v 143) (r144 : v2 144 = v 144) (r146 : v2 146 = v 146) (e48 : n2 48 = n 48) (g49 : f2 49 = f 49) (g50 : f2 50 = f 50) (g51 : f2 51 = f 51) (g52 : f2 52 = f 52) (g53 : f2 53 = f 53) (g54 : f2 54 = f 54) (h : D6_ T v x n f) : D6_ T2 v2 x n2 f2 := by
  have he := c.2.2.2.2.2.2.2.2
  refine ⟨by rw [z, e48]; exact h.1, fun i j i1 j1 e => ?_, fun i i0 i1 => ?_⟩
  · rw [e48] at i1 j1
    rw [he i i1, he j j1] at e
    exact h.2.1 i j i1 j1 e
  · rw [e48] at i1
    rw [pe_mk he i0 i1, r140, r141, r142, r143, r144, r146, g49, g50, g51, g52, g53, g54]
    exact h.2.2 i i0 i1
theorem D7_mk (c : Cx_ D cy H T T2 v x n) (r : v2 45 = v 45) (e2 : n2 2 = n 2) (g : f2 8 = f 8) (h : D7_ T v x n f) : D7_ T2 v2 x n2 f2 := fun p p0 p1 => by
  rw [e2] at p1
  rw [pe_mk c.2.2.2.2.2.2.1 p0 p1, r, g]
  exact h p p0 p1
theorem D9_mk (c : Cx_ D cy H T T2 v x n) (r140 : v2 140 = v 140) (r143 : v2 143 = v 143) (r145 : v2 145 = v 145) (e48 : n2 48 = n 48) (g55 : f2 55 = f 55) (h : D9_ T v x n f) : D9_ T2 v2 x n2 f2 := fun i r i0 i1 r0 r1 => by
  rw [e48] at i1
  rw [pe_mk c.2.2.2.2.2.2.2.2 i0 i1, r140, r143, r145, g55]
  exact h i r i0 i1 r0 r1
theorem D8_mk (r188 : v2 188 x = v 188 x) (r189 : v2 189 x = v 189 x) (e10 : n2 10 = n 10) (e11 : n2 11 = n 11) (h : D8_ T v x n f) : D8_ T2 v2 x n2 f2 := ⟨by rw [r188, e10]; exact h.1, by rw [r189, e11]; exact h.2⟩
/-! the views agree -/
theorem r2_pe (hw : WC D cy T v H) (hx : T 0 x = 9) (hs : v 202 (T 180 x) = n 2) (h : R2 T v x n f) {p : Int} (p0 : 0 ≤ p) (p1 : p < n 2) : v 40 (pe_ T 180 x p) = f 3 p ∧ v 41 (pe_ T 180 x p) = f 4 p ∧ v 42 (pe_ T 180 x p) = f 5 p ∧ v 43 (pe_ T 180 x p) = f 6 p ∧ v 44 (pe_ T 180 x p) = f 7 p := by
  obtain ⟨y, hy⟩ := el_ex hw (wt_180 hw.2.1 hx) p p0 (by omega)
  rw [pe_of hy]
  exact R2_at h p0 p1 hy
theorem r2_ij (h : R2 T v x n f) (hs : v 202 (T 180 x) = n 2) : Ij_ T 180 x (v 202 (T 180 x)) := fun i j hi hj e => h.1 i j (by omega) (by omega) e
theorem rbk_ij (h : RBk T v x n f) (hs : v 202 (T 181 x) = n 12) : Ij_ T 181 x (v 202 (T 181 x)) := fun i j hi hj e => h.1 i j (by omega) (by omega) e
theorem rbk_pe (hw : WC D cy T v H) (hx : T 0 x = 9) (hs : v 202 (T 181 x) = n 12) (h : RBk T v x n f) {l : Int} (l0 : 0 ≤ l) (l1 : l < n 12) : v 25 (pe_ T 181 x l) = f 67 l := by
  obtain ⟨y, hy⟩ := el_ex hw (wt_181 hw.2.1 hx) l l0 (by omega)
  rw [pe_of hy]
  exact RBk_at h l0 l1 hy
theorem rd_ag (hw : WC D cy T v H) (hx : T 0 x = 9) (hs : v 202 (T 180 x) = n 2) (h2 : R2 T v x n f) (hf : Fam_ (f 4)) (h : RD T v x n f) : Ag_ (KM_ (n 2) (n 12) (n 48) (n 11) (n 10)) (GM_ (f 3) (f 4) (f 5) (f 6) (f 13) (f 14) (f 9) (f 50) (f 52) (f 54) (f 53)) (GC_ T x (v 40) (v 41) (v 42) (v 43) (v 20) (v 21) (v 301) (v 141) (v 143) (v 146) (v 144)) := by
  obtain ⟨d1, d2, d3, d5, d6, d7, d8⟩ := h
  refine ⟨fun p p0 (p1 : p < n 2) => ?_, fun l l0 (l1 : l < n 12) => ?_, fun k k0 k1 => ?_, fun i i0 (i1 : i < n 48) => ?_⟩
  · obtain ⟨a, b, c, d, -⟩ := r2_pe hw hx hs h2 p0 p1
    exact ⟨⟨a.symm, b.symm, c.symm, d.symm⟩, hf p⟩
  · obtain ⟨a, b, -⟩ := d3 l l0 l1
    refine ⟨a.symm, ?_⟩
    show f 14 l = 0 ↔ v 21 (pe_ T 181 x l) = 0
    rw [b]
  · show f 9 k = 0 ↔ gC_ (v 301) (T 184 x) k = 0
    rw [d5 k k0 k1]
  · obtain ⟨a, b, c, d, -⟩ := d6.2.2 i i0 i1
    exact ⟨a.symm, b.symm, c.symm, d.symm⟩
theorem rd_av (h : RD T v x n f) : Av_ (KM_ (n 2) (n 12) (n 48) (n 11) (n 10)) (VM_ (f 19) (f 20) (f 21) (f 18)) (VC_ T x (v 300) (v 302)) := by
  obtain ⟨d1, d2, -⟩ := h
  refine ⟨fun p l p0 (p1 : p < n 2) l0 l1 => ?_, fun l t l0 (l1 : l < n 12) t0 t1 => (d2 l t l0 l1 t0 t1).symm⟩
  obtain ⟨a, b, c⟩ := d1 p l p0 p1 l0 l1
  exact ⟨a.symm, b.symm, c.symm⟩
theorem rd_ac (hw : WC D cy T v H) (hx : T 0 x = 9) (hs : v 202 (T 180 x) = n 2) (h2 : R2 T v x n f) (h : RD T v x n f) : Ac_ (KM_ (n 2) (n 12) (n 48) (n 11) (n 10)) (CM_ (f 15) (f 16) (f 17) (f 7)) (CC_ T x (v 22) (v 23) (v 24) (v 44)) := by
  obtain ⟨-, -, d3, -⟩ := h
  refine ⟨fun l l0 (l1 : l < n 12) => ?_, fun p p0 (p1 : p < n 2) => ?_⟩
  · obtain ⟨-, -, a, b, c⟩ := d3 l l0 l1
    exact ⟨a.symm, b.symm, c.symm⟩
  · exact (r2_pe hw hx hs h2 p0 p1).2.2.2.2.symm
theorem rd_kc (hs : v 202 (T 180 x) = n 2) (hl : v 202 (T 181 x) = n 12) (h : RD T v x n f) : (KM_ (v 202 (T 180 x)) (v 202 (T 181 x)) (v 202 (T 183 x)) (v 189 x) (v 188 x)) = (KM_ (n 2) (n 12) (n 48) (n 11) (n 10)) := by
  rw [hs, hl, h.2.2.2.2.1.1, h.2.2.2.2.2.2.1.1, h.2.2.2.2.2.2.1.2]
/-! what the class's contracts ask -/
theorem rd_nm (h : RD T v x n f) (hS : Str_ (f 19) (f 20) (n 29)) (hz : Stz_ (f 19) (n 2) (n 12)) (h29 : n 29 ≤ 32) (hs : v 202 (T 180 x) = n 2) : Nm_ (v 202 (T 180 x)) (VC_ T x (v 300) (v 302)) := fun p l p0 p1 l0 l1 => by
  obtain ⟨a, b, c⟩ := h.1 p l p0 (by omega) l0 l1
  have q := hz.1 (24 * p + l)
  show (0 ≤ gC_ (v 300) (T 47 (pe_ T 180 x p)) l ∧ gC_ (v 300) (T 47 (pe_ T 180 x p)) l ≤ 9) ∧ (gC_ (v 300) (T 47 (pe_ T 180 x p)) l ≤ 0 → gC_ (v 300) (T 46 (pe_ T 180 x p)) l = -1 ∧ gC_ (v 300) (T 48 (pe_ T 180 x p)) l = -1) ∧ (0 < gC_ (v 300) (T 47 (pe_ T 180 x p)) l → 0 ≤ gC_ (v 300) (T 46 (pe_ T 180 x p)) l ∧ gC_ (v 300) (T 46 (pe_ T 180 x p)) l < 32)
  rw [a, b, c]
  refine ⟨q, fun e => ⟨nz_f e, nz_f e⟩, fun e => ?_⟩
  rw [nz_t e]
  have r := hS _ e
  omega
theorem rd_qu (hw : WC D cy T v H) (hx : T 0 x = 9) (hs : v 202 (T 180 x) = n 2) (h2 : R2 T v x n f) (hq : Qua_ (f 3)) : ∀ p, 0 ≤ p → p < v 202 (T 180 x) → 0 ≤ v 40 (pe_ T 180 x p) ∧ v 40 (pe_ T 180 x p) ≤ 3 := fun p p0 p1 => by
  rw [(r2_pe hw hx hs h2 p0 (by omega)).1]
  exact hq p
theorem rd_fa (hw : WC D cy T v H) (hx : T 0 x = 9) (hs : v 202 (T 180 x) = n 2) (h2 : R2 T v x n f) (hq : Fam_ (f 4)) : ∀ p, 0 ≤ p → p < v 202 (T 180 x) → 0 ≤ v 41 (pe_ T 180 x p) ∧ v 41 (pe_ T 180 x p) < 8 := fun p p0 p1 => by
  rw [(r2_pe hw hx hs h2 p0 (by omega)).2.1]
  have := hq p
  omega
theorem rd_si (h : RD T v x n f) (hl : v 202 (T 181 x) = n 12) (hq : Sil_ (f 15) (f 16) (f 17) (n 12)) : ∀ l, 0 ≤ l → l < v 202 (T 181 x) → v 23 (pe_ T 181 x l) = -1 → 0 ≤ v 22 (pe_ T 181 x l) ∧ v 22 (pe_ T 181 x l) ≤ 2 := fun l l0 l1 hd => by
  obtain ⟨-, -, a, b, -⟩ := h.2.2.1 l l0 (by omega)
  rw [a]
  rw [b] at hd
  exact hq.1 l l0 (by omega) hd
/-! summers -/
theorem RD_sum {k : Int} {y300 y302 y22 y23 y24 y44 : Nat → Int} {G19 G20 G21 G18 G15 G16 G17 G7 : Int → Int} (hw : WC D cy T v H) (hx : T 0 x = 9) (hs : v 202 (T 180 x) = n 2) (hl : v 202 (T 181 x) = n 12) (hnow : v 187 x = n 1) (h24 : n 12 ≤ 24) (h2 : R2 T v x n f) (hf : Fam_ (f 4)) (h : RD T v x n f) (e2 : n2 2 = n 2) (e12 : n2 12 = n 12)
    (r300 : v2 300 = y300) (r302 : v2 302 = y302) (r20 : v2 20 = v 20) (r21 : v2 21 = v 21) (r22 : v2 22 = y22) (r23 : v2 23 = y23) (r24 : v2 24 = y24) (g13 : f2 13 = f 13) (g14 : f2 14 = f 14) (g15 : f2 15 = G15) (g16 : f2 16 = G16) (g17 : f2 17 = G17) (g18 : f2 18 = G18) (g19 : f2 19 = G19) (g20 : f2 20 = G20) (g21 : f2 21 = G21)
    (hc : ((k < 1 ∨ 20 < k ∨ 199 < v 187 x + k) ∧ y300 = v 300 ∧ y302 = v 302 ∧ y22 = v 22 ∧ y23 = v 23 ∧ y24 = v 24) ∨ ((1 ≤ k ∧ k ≤ 20 ∧ v 187 x + k ≤ 199) ∧ Sn_ (GC_ T x (v 40) (v 41) (v 42) (v 43) (v 20) (v 21) (v 301) (v 141) (v 143) (v 146) (v 144)) (KM_ (v 202 (T 180 x)) (v 202 (T 181 x)) (v 202 (T 183 x)) (v 189 x) (v 188 x)) (v 187 x) (VC_ T x (v 300) (v 302)) (CC_ T x (v 22) (v 23) (v 24) (v 44)) k.toNat (VC_ T x y300 y302) (CC_ T x y22 y23 y24 y44)))
    (hm : ((k < 1 ∨ 20 < k ∨ 199 < n 1 + k) ∧ VM_ G19 G20 G21 G18 = (VM_ (f 19) (f 20) (f 21) (f 18)) ∧ CM_ G15 G16 G17 G7 = (CM_ (f 15) (f 16) (f 17) (f 7))) ∨ ((1 ≤ k ∧ k ≤ 20 ∧ n 1 + k ≤ 199) ∧ Sn_ (GM_ (f 3) (f 4) (f 5) (f 6) (f 13) (f 14) (f 9) (f 50) (f 52) (f 54) (f 53)) (KM_ (n 2) (n 12) (n 48) (n 11) (n 10)) (n 1) (VM_ (f 19) (f 20) (f 21) (f 18)) (CM_ (f 15) (f 16) (f 17) (f 7)) k.toNat (VM_ G19 G20 G21 G18) (CM_ G15 G16 G17 G7))) : D1_ T v2 x n2 f2 ∧ D2_ T v2 x n2 f2 ∧ D3_ T v2 x n2 f2 := by
  have key : Av_ (KM_ (n 2) (n 12) (n 48) (n 11) (n 10)) (VM_ G19 G20 G21 G18) (VC_ T x y300 y302) ∧ (∀ l, 0 ≤ l → l < n 12 → G15 l = y22 (pe_ T 181 x l) ∧ G16 l = y23 (pe_ T 181 x l) ∧ G17 l = y24 (pe_ T 181 x l)) := by
    rcases hc with ⟨c1, c2, c3, c4, c5, c6⟩ | ⟨c1, c2⟩
    · rcases hm with ⟨m1, m2, m3⟩ | ⟨m1, m2⟩
      · have a := rd_ac hw hx hs h2 h
        rw [m2, c2, c3, c4, c5, c6]
        refine ⟨rd_av h, fun l l0 l1 => ?_⟩
        have q := a.1 l l0 l1
        rw [← m3] at q
        exact q
      · exfalso; omega
    · rcases hm with ⟨m1, m2, m3⟩ | ⟨m1, m2⟩
      · exfalso; omega
      · rw [rd_kc hs hl h, hnow] at c2
        have q := Sn_det (K := (KM_ (n 2) (n 12) (n 48) (n 11) (n 10))) h24 (rd_ag hw hx hs h2 hf h) (rd_av h) (rd_ac hw hx hs h2 h) k.toNat m2 c2
        exact ⟨q.1, fun l l0 l1 => q.2.1 l l0 l1⟩
  obtain ⟨⟨ka, kb⟩, kc⟩ := key
  refine ⟨fun p l p0 p1 l0 l1 => ?_, fun l t l0 l1 t0 t1 => ?_, fun l l0 l1 => ?_⟩
  · rw [e2] at p1
    obtain ⟨a, b, c⟩ := ka p l p0 p1 l0 l1
    rw [r300, g19, g20, g21]
    exact ⟨a.symm, b.symm, c.symm⟩
  · rw [e12] at l1
    rw [r302, g18]
    exact (kb l t l0 l1 t0 t1).symm
  · rw [e12] at l1
    obtain ⟨a, b, -⟩ := h.2.2.1 l l0 l1
    obtain ⟨c, d, e⟩ := kc l l0 l1
    rw [r20, r21, r22, r23, r24, g13, g14, g15, g16, g17]
    exact ⟨a, b, c.symm, d.symm, e.symm⟩
/-! know, teach -/
theorem D1_get {p l w s o : Int} {y : Nat → Int} {G19 G20 G21 : Int → Int} (hw : WC D cy T v H) (hx : T 0 x = 9) (hs : v 202 (T 180 x) = n 2) (hi : Ij_ T 180 x (v 202 (T 180 x))) (p0 : 0 ≤ p) (p1 : p < n 2) (l0 : 0 ≤ l) (l1 : l < 24) (hp : 0 < s) (e2 : n2 2 = n 2) (r : v2 300 = y) (ey : y = upB (upB (upB (v 300) (pr (T 46 (pe_ T 180 x p)) l.toNat) w) (pr (T 47 (pe_ T 180 x p)) l.toNat) s) (pr (T 48 (pe_ T 180 x p)) l.toNat) o) (g19 : f2 19 = G19) (g20 : f2 20 = G20) (g21 : f2 21 = G21) (eg : G19 = upA (f 19) (24 * p + l) s ∧ G20 = upA (f 20) (24 * p + l) w ∧ G21 = upA (f 21) (24 * p + l) o) (h : D1_ T v x n f) : D1_ T v2 x n2 f2 := fun q j q0 q1 j0 j1 => by
  rw [e2] at q1
  rw [r, g19, g20, g21, eg.1, eg.2.1, eg.2.2]
  by_cases e : q = p ∧ j = l
  · obtain ⟨e1, e3⟩ := e
    subst e1
    subst e3
    have t := pe2 hw hx q0 (show q < v 202 (T 180 x) by omega)
    obtain ⟨a, b, c⟩ := p3_v hw.2.1 t ey
    rw [a, b, c, upA_same, upA_same, upA_same, nz_t hp, nz_t hp]
    exact ⟨rfl, rfl, rfl⟩
  · have c := p3_col (yb := v 302) hw hx hi p0 (show p < v 202 (T 180 x) by omega) l0 (y := v 300) (y2 := y) (by rw [ey]; exact P3_3) q j q0 (by omega) j0 e
    obtain ⟨a, b, d⟩ := c
    have a : gC_ y (T 47 (pe_ T 180 x q)) j = gC_ (v 300) (T 47 (pe_ T 180 x q)) j := a
    have b : gC_ y (T 46 (pe_ T 180 x q)) j = gC_ (v 300) (T 46 (pe_ T 180 x q)) j := b
    have d : gC_ y (T 48 (pe_ T 180 x q)) j = gC_ (v 300) (T 48 (pe_ T 180 x q)) j := d
    have ne : 24 * q + j ≠ 24 * p + l := fun z => e ⟨by omega, by omega⟩
    rw [a, b, d, upA_ne ne, upA_ne ne, upA_ne ne]
    exact h q j q0 q1 j0 j1
theorem D1_sm {y : Nat → Int} {G19 G20 G21 : Int → Int} (e2 : n2 2 = n 2) (r : v2 300 = y) (ey : y = v 300) (g19 : f2 19 = G19) (g20 : f2 20 = G20) (g21 : f2 21 = G21) (eg : G19 = f 19 ∧ G20 = f 20 ∧ G21 = f 21) (h : D1_ T v x n f) : D1_ T v2 x n2 f2 := fun q j q0 q1 j0 j1 => by
  rw [e2] at q1
  rw [r, ey, g19, g20, g21, eg.1, eg.2.1, eg.2.2]
  exact h q j q0 q1 j0 j1
theorem lv_iff (hw : WC D cy T v H) (hx : T 0 x = 9) (hs : v 202 (T 180 x) = n 2) (h2 : R2 T v x n f) {p : Int} : (0 ≤ p ∧ p < v 202 (T 180 x) ∧ v 43 (pe_ T 180 x p) = -1) ↔ (0 ≤ p ∧ p < n 2 ∧ f 6 p = -1) := by
  constructor
  · rintro ⟨a, b, c⟩
    have q := (r2_pe hw hx hs h2 a (by omega)).2.2.2.1
    exact ⟨a, by omega, by omega⟩
  · rintro ⟨a, b, c⟩
    have q := (r2_pe hw hx hs h2 a b).2.2.2.1
    exact ⟨a, by omega, by omega⟩
theorem RD_know {p l w s z1 z2 : Int} {y : Nat → Int} {G19 G20 G21 : Int → Int} (hw : WC D cy T v H) (hx : T 0 x = 9) (hs : v 202 (T 180 x) = n 2) (hl : v 202 (T 181 x) = n 12) (h29 : v 202 (T 182 x) = n 29) (h24 : n 12 ≤ 24) (h2 : R2 T v x n f) (e2 : n2 2 = n 2) (r : v2 300 = y) (g19 : f2 19 = G19) (g20 : f2 20 = G20) (g21 : f2 21 = G21)
    (hc : (z1 = 1 ∧ ((0 ≤ p ∧ p < v 202 (T 180 x) ∧ v 43 (pe_ T 180 x p) = -1) ∧ (0 ≤ l ∧ l < v 202 (T 181 x)) ∧ (0 ≤ w ∧ w < v 202 (T 182 x)) ∧ (1 ≤ s ∧ s ≤ 9)) ∧ y = upB (upB (upB (v 300) (pr (T 46 (pe_ T 180 x p)) (Int.toNat l)) w) (pr (T 47 (pe_ T 180 x p)) (Int.toNat l)) s) (pr (T 48 (pe_ T 180 x p)) (Int.toNat l)) (-1)) ∨ (z1 = 0 ∧ ¬ ((0 ≤ p ∧ p < v 202 (T 180 x) ∧ v 43 (pe_ T 180 x p) = -1) ∧ (0 ≤ l ∧ l < v 202 (T 181 x)) ∧ (0 ≤ w ∧ w < v 202 (T 182 x)) ∧ (1 ≤ s ∧ s ≤ 9)) ∧ y = v 300))
    (hm : (z2 = 1 ∧ ((0 ≤ p ∧ p < n 2 ∧ f 6 p = -1) ∧ (0 ≤ l ∧ l < n 12) ∧ (0 ≤ w ∧ w < n 29) ∧ (1 ≤ s ∧ s ≤ 9)) ∧ (G19 = upA (f 19) (24 * p + l) s ∧ G20 = upA (f 20) (24 * p + l) w ∧ G21 = upA (f 21) (24 * p + l) (-1))) ∨ (z2 = 0 ∧ ¬ ((0 ≤ p ∧ p < n 2 ∧ f 6 p = -1) ∧ (0 ≤ l ∧ l < n 12) ∧ (0 ≤ w ∧ w < n 29) ∧ (1 ≤ s ∧ s ≤ 9)) ∧ (G19 = f 19 ∧ G20 = f 20 ∧ G21 = f 21))) (h : D1_ T v x n f) : z1 = z2 ∧ D1_ T v2 x n2 f2 := by
  have lv := lv_iff hw hx hs h2 (p := p)
  have iff : ((0 ≤ p ∧ p < v 202 (T 180 x) ∧ v 43 (pe_ T 180 x p) = -1) ∧ (0 ≤ l ∧ l < v 202 (T 181 x)) ∧ (0 ≤ w ∧ w < v 202 (T 182 x)) ∧ (1 ≤ s ∧ s ≤ 9)) ↔ ((0 ≤ p ∧ p < n 2 ∧ f 6 p = -1) ∧ (0 ≤ l ∧ l < n 12) ∧ (0 ≤ w ∧ w < n 29) ∧ (1 ≤ s ∧ s ≤ 9)) := by rw [lv, hl, h29]
  rcases hc with ⟨c1, c2, c3⟩ | ⟨c1, c2, c3⟩ <;> rcases hm with ⟨m1, m2, m3⟩ | ⟨m1, m2, m3⟩
  · exact ⟨by omega, D1_get hw hx hs (r2_ij h2 hs) m2.1.1 m2.1.2.1 m2.2.1.1 (by omega) (by omega) e2 r c3 g19 g20 g21 m3 h⟩
  · exact absurd (iff.1 c2) m2
  · exact absurd (iff.2 m2) c2
  · exact ⟨by omega, D1_sm e2 r c3 g19 g20 g21 m3 h⟩
theorem RD_teach {p q l z1 z2 : Int} {y y45 : Nat → Int} {G19 G20 G21 G8 : Int → Int} (hw : WC D cy T v H) (hx : T 0 x = 9) (hs : v 202 (T 180 x) = n 2) (hl : v 202 (T 181 x) = n 12) (hnow : v 187 x = n 1) (h24 : n 12 ≤ 24) (h2 : R2 T v x n f) (e2 : n2 2 = n 2) (r : v2 300 = y) (r45 : v2 45 = y45) (g19 : f2 19 = G19) (g20 : f2 20 = G20) (g21 : f2 21 = G21) (g8 : f2 8 = G8)
    (hc : (z1 = 1 ∧ ((0 ≤ p ∧ p < v 202 (T 180 x) ∧ v 43 (pe_ T 180 x p) = -1) ∧ (0 ≤ q ∧ q < v 202 (T 180 x) ∧ v 43 (pe_ T 180 x q) = -1) ∧ (0 ≤ l ∧ l < v 202 (T 181 x)) ∧ 0 < gC_ (v 300) (T 47 (pe_ T 180 x p)) l ∧ ¬ 0 < gC_ (v 300) (T 47 (pe_ T 180 x q)) l ∧ ¬ v 45 (pe_ T 180 x q) = v 187 x) ∧ y = upB (upB (upB (v 300) (pr (T 46 (pe_ T 180 x q)) (Int.toNat l)) (gC_ (v 300) (T 46 (pe_ T 180 x p)) l)) (pr (T 47 (pe_ T 180 x q)) (Int.toNat l)) 4) (pr (T 48 (pe_ T 180 x q)) (Int.toNat l)) p ∧ y45 = upB (v 45) (pe_ T 180 x q) (v 187 x)) ∨ (z1 = 0 ∧ ¬ ((0 ≤ p ∧ p < v 202 (T 180 x) ∧ v 43 (pe_ T 180 x p) = -1) ∧ (0 ≤ q ∧ q < v 202 (T 180 x) ∧ v 43 (pe_ T 180 x q) = -1) ∧ (0 ≤ l ∧ l < v 202 (T 181 x)) ∧ 0 < gC_ (v 300) (T 47 (pe_ T 180 x p)) l ∧ ¬ 0 < gC_ (v 300) (T 47 (pe_ T 180 x q)) l ∧ ¬ v 45 (pe_ T 180 x q) = v 187 x) ∧ y = v 300 ∧ y45 = v 45))
    (hm : (z2 = 1 ∧ ((0 ≤ p ∧ p < n 2 ∧ f 6 p = -1) ∧ (0 ≤ q ∧ q < n 2 ∧ f 6 q = -1) ∧ ¬ p = q ∧ (0 ≤ l ∧ l < n 12) ∧ 0 < f 19 (24 * p + l) ∧ ¬ 0 < f 19 (24 * q + l) ∧ ¬ f 8 q = n 1) ∧ (G19 = upA (f 19) (24 * q + l) 4 ∧ G20 = upA (f 20) (24 * q + l) (f 20 (24 * p + l)) ∧ G21 = upA (f 21) (24 * q + l) p) ∧ G8 = upA (f 8) q (n 1)) ∨ (z2 = 0 ∧ ¬ ((0 ≤ p ∧ p < n 2 ∧ f 6 p = -1) ∧ (0 ≤ q ∧ q < n 2 ∧ f 6 q = -1) ∧ ¬ p = q ∧ (0 ≤ l ∧ l < n 12) ∧ 0 < f 19 (24 * p + l) ∧ ¬ 0 < f 19 (24 * q + l) ∧ ¬ f 8 q = n 1) ∧ (G19 = f 19 ∧ G20 = f 20 ∧ G21 = f 21) ∧ G8 = f 8)) (h : D1_ T v x n f) (h7 : D7_ T v x n f) : z1 = z2 ∧ D1_ T v2 x n2 f2 ∧ D7_ T v2 x n2 f2 := by
  have lp := lv_iff hw hx hs h2 (p := p)
  have lq := lv_iff hw hx hs h2 (p := q)
  have iff : ((0 ≤ p ∧ p < v 202 (T 180 x) ∧ v 43 (pe_ T 180 x p) = -1) ∧ (0 ≤ q ∧ q < v 202 (T 180 x) ∧ v 43 (pe_ T 180 x q) = -1) ∧ (0 ≤ l ∧ l < v 202 (T 181 x)) ∧ 0 < gC_ (v 300) (T 47 (pe_ T 180 x p)) l ∧ ¬ 0 < gC_ (v 300) (T 47 (pe_ T 180 x q)) l ∧ ¬ v 45 (pe_ T 180 x q) = v 187 x) ↔ ((0 ≤ p ∧ p < n 2 ∧ f 6 p = -1) ∧ (0 ≤ q ∧ q < n 2 ∧ f 6 q = -1) ∧ ¬ p = q ∧ (0 ≤ l ∧ l < n 12) ∧ 0 < f 19 (24 * p + l) ∧ ¬ 0 < f 19 (24 * q + l) ∧ ¬ f 8 q = n 1) := by
    constructor
    · rintro ⟨a, b, c, d, e, g⟩
      have ap := lp.1 a
      have aq := lq.1 b
      have hp := (h p l a.1 (by omega) c.1 (by omega)).1
      have hq := (h q l b.1 (by omega) c.1 (by omega)).1
      have ht := h7 q b.1 (by omega)
      exact ⟨ap, aq, fun z => by subst z; omega, by omega, by omega, by omega, by omega⟩
    · rintro ⟨a, b, -, c, d, e, g⟩
      have hp := (h p l a.1 a.2.1 c.1 (by omega)).1
      have hq := (h q l b.1 b.2.1 c.1 (by omega)).1
      have ht := h7 q b.1 b.2.1
      exact ⟨lp.2 a, lq.2 b, by omega, by omega, by omega, by omega⟩
  rcases hc with ⟨c1, c2, c3, c4⟩ | ⟨c1, c2, c3, c4⟩ <;> rcases hm with ⟨m1, m2, m3, m4⟩ | ⟨m1, m2, m3, m4⟩
  · obtain ⟨ma, mb, mc, md, me, mf, mg⟩ := m2
    have hp := (h p l ma.1 ma.2.1 md.1 (by omega)).2.1
    rw [nz_t me] at hp
    rw [hp] at c3
    refine ⟨by omega, D1_get hw hx hs (r2_ij h2 hs) mb.1 mb.2.1 md.1 (by omega) (by decide) e2 r c3 g19 g20 g21 m3 h, fun k k0 k1 => ?_⟩
    rw [e2] at k1
    rw [r45, g8, c4, m4, hnow]
    by_cases e : k = q
    · rw [e, upB_same, upA_same]
    · rw [upB_ne (pe_ne (r2_ij h2 hs) (el_ex hw (wt_180 hw.2.1 hx)) k0 (by omega) mb.1 (by omega) e), upA_ne e]
      exact h7 k k0 k1
  · exact absurd (iff.1 c2) m2
  · exact absurd (iff.2 m2) c2
  · refine ⟨by omega, D1_sm e2 r c3 g19 g20 g21 m3 h, fun k k0 k1 => ?_⟩
    rw [e2] at k1
    rw [r45, g8, c4, m4]
    exact h7 k k0 k1
/-! holds, way, speaker, pay -/
theorem D5_hold {fa is z1 z2 : Int} {y : Nat → Int} {G : Int → Int} (hc : (z1 = 1 ∧ (0 ≤ fa ∧ fa < 8) ∧ y = upB (v 301) (pr (T 184 x) (Int.toNat fa)) is) ∨ (z1 = 0 ∧ (fa < 0 ∨ 8 ≤ fa) ∧ y = v 301)) (hm : (z2 = 1 ∧ (0 ≤ fa ∧ fa ≤ 7) ∧ G = upA (f 9) fa is) ∨ (z2 = 0 ∧ (fa < 0 ∨ 7 < fa) ∧ G = f 9)) (r : v2 301 = y) (g : f2 9 = G) (h : D5_ T v x n f) : D5_ T v2 x n2 f2 := fun k k0 k1 => by
  rw [r, g]
  rcases hc with ⟨-, c2, c3⟩ | ⟨-, c2, c3⟩ <;> rcases hm with ⟨-, m2, m3⟩ | ⟨-, m2, m3⟩
  · rw [c3, m3]
    by_cases e : k = fa
    · rw [e, gC_us, upA_same]
    · rw [gC_ui c2.1 k0 e, upA_ne e]
      exact h k k0 k1
  · exfalso; omega
  · exfalso; omega
  · rw [c3, m3]
    exact h k k0 k1
theorem D6_pay {i z1 z2 : Int} {y : Nat → Int} {G : Int → Int} (hw : WC D cy T v H) (hx : T 0 x = 9) (hc : (z1 = 0 ∧ y = v 146 ∧ ((i < 0 ∨ v 202 (T 183 x) ≤ i) ∨ ∃ y_, T (1000 + i.toNat) (T 201 (T 183 x)) = y_ + 1 ∧ ¬ v 146 y_ = 0)) ∨ (z1 = 1 ∧ ∃ y_, (0 ≤ i ∧ i < v 202 (T 183 x) ∧ T (1000 + i.toNat) (T 201 (T 183 x)) = y_ + 1) ∧ v 146 y_ = 0 ∧ y = upB (v 146) y_ 1)) (hm : (z2 = 0 ∧ G = f 54 ∧ (i < 0 ∨ n 48 ≤ i ∨ ¬ f 54 i = 0)) ∨ (z2 = 1 ∧ (0 ≤ i ∧ i < n 48) ∧ f 54 i = 0 ∧ G = upA (f 54) i 1)) (hz : v2 202 (T 183 x) = v 202 (T 183 x)) (e48 : n2 48 = n 48) (r146 : v2 146 = y) (g54 : f2 54 = G) (r140 : v2 140 = v 140) (r141 : v2 141 = v 141) (r142 : v2 142 = v 142) (r143 : v2 143 = v 143) (r144 : v2 144 = v 144) (g49 : f2 49 = f 49) (g50 : f2 50 = f 50) (g51 : f2 51 = f 51) (g52 : f2 52 = f 52) (g53 : f2 53 = f 53) (h : D6_ T v x n f) : z1 = z2 ∧ D6_ T v2 x n2 f2 := by
  obtain ⟨h1, h2, h3⟩ := h
  have fin : (∀ j, 0 ≤ j → j < n 48 → y (pe_ T 183 x j) = G j) → D6_ T v2 x n2 f2 := fun q => by
    refine ⟨by rw [hz, e48]; exact h1, fun a b ha hb e => h2 a b (by omega) (by omega) e, fun j j0 j1 => ?_⟩
    rw [e48] at j1
    obtain ⟨a, b, c, d, e, g⟩ := h3 j j0 j1
    rw [r140, r141, r142, r143, r144, r146, g49, g50, g51, g52, g53, g54]
    exact ⟨a, b, q j j0 j1, d, e, g⟩
  rcases hc with ⟨c1, c2, c3⟩ | ⟨c1, a, ⟨c2, c3, c4⟩, c5, c6⟩ <;> rcases hm with ⟨m1, m2, m3⟩ | ⟨m1, m2, m3, m4⟩
  · refine ⟨by omega, fin (fun j j0 j1 => ?_)⟩
    rw [c2, m2]
    exact (h3 j j0 j1).2.2.1
  · exfalso
    rcases c3 with c3 | ⟨b, c3, c4⟩
    · omega
    · have q := (h3 i m2.1 m2.2).2.2.1
      rw [pe_of (show ELn_ T 183 x i.toNat = b + 1 from c3)] at q
      omega
  · exfalso
    have q := (h3 i c2 (by omega)).2.2.1
    rw [pe_of (show ELn_ T 183 x i.toNat = a + 1 from c4)] at q
    omega
  · refine ⟨by omega, fin (fun j j0 j1 => ?_)⟩
    rw [c6, m4]
    have ea := pe_of (show ELn_ T 183 x i.toNat = a + 1 from c4)
    by_cases e : j = i
    · rw [e, ea, upB_same, upA_same]
    · rw [upA_ne e, upB_ne (by rw [← ea]; exact pe_ne (n := n 48) h2 (fun q q0 q1 => el_ex hw (wt_183 hw.2.1 hx) q q0 (by omega)) j0 j1 m2.1 m2.2 e)]
      exact (h3 j j0 j1).2.2.1
theorem D8_way {a z1 z2 X11 Y : Int} (r188 : v2 188 x = v 188 x) (r189 : v2 189 x = Y) (e10 : n2 10 = n 10) (e11 : n2 11 = X11) (hc : (z1 = 1 ∧ (0 ≤ a ∧ a ≤ 2) ∧ Y = a) ∨ (z1 = 0 ∧ (a < 0 ∨ 2 < a) ∧ Y = v 189 x)) (hm : (z2 = 1 ∧ (0 ≤ a ∧ a ≤ 2) ∧ X11 = a) ∨ (z2 = 0 ∧ (a < 0 ∨ 2 < a) ∧ X11 = n 11)) (h : D8_ T v x n f) : D8_ T2 v2 x n2 f2 := by
  obtain ⟨h1, h2⟩ := h
  exact ⟨by rw [r188, e10]; exact h1, by rw [r189, e11]; omega⟩
theorem D8_spk {p z1 z2 X10 Y : Int} (hs : v 202 (T 180 x) = n 2) (h2 : R2 T v x n f) (r188 : v2 188 x = Y) (r189 : v2 189 x = v 189 x) (e10 : n2 10 = X10) (e11 : n2 11 = n 11) (hc : (z1 = 0 ∧ ¬ p = -1 ∧ ((p < 0 ∨ v 202 (T 180 x) ≤ p) ∨ ∃ y, T (1000 + p.toNat) (T 201 (T 180 x)) = y + 1 ∧ ¬ v 43 y = -1) ∧ Y = v 188 x) ∨ (z1 = 1 ∧ (p = -1 ∨ ∃ y, 0 ≤ p ∧ p < v 202 (T 180 x) ∧ T (1000 + p.toNat) (T 201 (T 180 x)) = y + 1 ∧ v 43 y = -1) ∧ Y = p)) (hm : (z2 = 0 ∧ (¬ p = -1 ∧ ¬ (0 ≤ p ∧ p < n 2 ∧ f 6 p = -1)) ∧ X10 = n 10) ∨ (z2 = 1 ∧ (p = -1 ∨ (0 ≤ p ∧ p < n 2 ∧ f 6 p = -1)) ∧ X10 = p)) (h : D8_ T v x n f) : D8_ T2 v2 x n2 f2 := by
  obtain ⟨h1, h9⟩ := h
  refine ⟨?_, by rw [r189, e11]; exact h9⟩
  rw [r188, e10]
  rcases hc with ⟨c1, c2, c3, c4⟩ | ⟨c1, c2, c4⟩ <;> rcases hm with ⟨m1, ⟨m2, m3⟩, m4⟩ | ⟨m1, m2, m4⟩
  · omega
  · exact absurd m2 (fun q => q.elim (fun e => c2 e) (liv_no h2 hs c3))
  · exact absurd c2 (fun q => q.elim (fun e => m2 e) (fun ⟨y, hy⟩ => m3 (liv_yes h2 hs hy)))
  · omega
end Rd
