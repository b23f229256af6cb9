
def pw_ (j : Int) : Int := if j = 0 then 1 else if j = 1 then 4 else if j = 2 then 16 else 64
def pq_ (j : Int) : Int := if j = 0 then 1 else if j = 1 then 4 else if j = 2 then 16 else if j = 3 then 64 else 256
def qd_ (v j : Int) : Int := v / pw_ j % 4
theorem pw_cs {j : Int} (h : 0 ≤ j ∧ j < 4) : (j = 0 ∧ pw_ j = 1) ∨ (j = 1 ∧ pw_ j = 4) ∨ (j = 2 ∧ pw_ j = 16) ∨ (j = 3 ∧ pw_ j = 64) := by
  rcases (show j = 0 ∨ j = 1 ∨ j = 2 ∨ j = 3 by omega) with rfl | rfl | rfl | rfl <;> decide
theorem qd_ge {v j : Int} (hj : 0 ≤ j ∧ j < 4) (hv : 0 ≤ v) (h : ¬ qd_ v j = 0) : pw_ j ≤ v := by
  unfold qd_ at h
  rcases pw_cs hj with ⟨_, e⟩ | ⟨_, e⟩ | ⟨_, e⟩ | ⟨_, e⟩ <;> rw [e] at h ⊢ <;> omega
theorem sh_l4 : ∀ j : Fin 4, J 1 <<< (J (2 * (j.val : Int)) &&& 31) = J (4 ^ j.val) := by decide +kernel
theorem sh_l {j z : Int} (e : J z = J 1 <<< (J (2 * j) &&& 31)) (hj : 0 ≤ j ∧ j < 4) (r : inR z) : z = pw_ j := by
  have h := sh_l4 ⟨j.toNat, by omega⟩
  have hn : ((j.toNat : Nat) : Int) = j := by omega
  simp only [hn] at h
  rw [h] at e
  rcases (show j = 0 ∨ j = 1 ∨ j = 2 ∨ j = 3 by omega) with rfl | rfl | rfl | rfl <;> exact (J_inj r (rr (by decide))).mp e
theorem sh_q4 : ∀ j : Fin 4, ∀ a : Fin 256, (J (a.val : Int) >>> (J (2 * (j.val : Int)) &&& 31)) &&& J 3 = J (((a.val / 4 ^ j.val) % 4 : Nat) : Int) := by decide +kernel
theorem sh_q {v j z1 z2 : Int} (e1 : J z1 = J v >>> (J (2 * j) &&& 31)) (e2 : J z2 = J z1 &&& J 3) (hv : 0 ≤ v ∧ v < 256) (hj : 0 ≤ j ∧ j < 4) (r : inR z2) : z2 = qd_ v j := by
  have h := sh_q4 ⟨j.toNat, by omega⟩ ⟨v.toNat, by omega⟩
  have hn : ((j.toNat : Nat) : Int) = j := by omega
  have hm : ((v.toNat : Nat) : Int) = v := by omega
  simp only [hn, hm] at h
  rw [e1, h] at e2
  have h2 := (J_inj r (rr (by omega))).mp e2
  rw [h2]
  unfold qd_
  rcases (show j = 0 ∨ j = 1 ∨ j = 2 ∨ j = 3 by omega) with rfl | rfl | rfl | rfl
  · show (((v.toNat / 4 ^ (0 : Int).toNat) % 4 : Nat) : Int) = v / pw_ 0 % 4
    rw [show (4 : Nat) ^ (0 : Int).toNat = 1 by decide, show pw_ 0 = 1 by decide]; omega
  · rw [show (4 : Nat) ^ (1 : Int).toNat = 4 by decide, show pw_ 1 = 4 by decide]; omega
  · rw [show (4 : Nat) ^ (2 : Int).toNat = 16 by decide, show pw_ 2 = 16 by decide]; omega
  · rw [show (4 : Nat) ^ (3 : Int).toNat = 64 by decide, show pw_ 3 = 64 by decide]; omega
theorem lk_4 : ∀ j : Fin 4, ∀ a : Fin 64, ∀ d : Fin 4, a.val < 4 ^ j.val → (J (a.val : Int) ||| (J (d.val : Int) <<< (J (2 * (j.val : Int)) &&& 31))) = J ((a.val + d.val * 4 ^ j.val : Nat) : Int) := by decide +kernel
theorem lk_or {g d j z1 z2 : Int} (e1 : J z1 = J d <<< (J (2 * j) &&& 31)) (e2 : J z2 = J g ||| J z1) (hj : 0 ≤ j ∧ j < 4) (hd : 0 ≤ d ∧ d < 4) (hg : 0 ≤ g ∧ g < pq_ j) (r : inR z2) : 0 ≤ z2 ∧ z2 < pq_ (j + 1) := by
  have hn : ((j.toNat : Nat) : Int) = j := by omega
  have hm : ((g.toNat : Nat) : Int) = g := by omega
  have hk : ((d.toNat : Nat) : Int) = d := by omega
  have hgb : g < 64 := by
    rcases (show j = 0 ∨ j = 1 ∨ j = 2 ∨ j = 3 by omega) with q | q | q | q <;> rw [q] at hg <;> (have e0 : pq_ 0 = 1 := by decide) <;> (have e1 : pq_ 1 = 4 := by decide) <;> (have e2 : pq_ 2 = 16 := by decide) <;> (have e3 : pq_ 3 = 64 := by decide) <;> omega
  have hgp : g.toNat < 4 ^ j.toNat := by
    rcases (show j = 0 ∨ j = 1 ∨ j = 2 ∨ j = 3 by omega) with q | q | q | q <;> rw [q] at hg ⊢
    · have e : pq_ 0 = 1 := by decide
      have e2 : (4 : Nat) ^ (0 : Int).toNat = 1 := by decide
      omega
    · have e : pq_ 1 = 4 := by decide
      have e2 : (4 : Nat) ^ (1 : Int).toNat = 4 := by decide
      omega
    · have e : pq_ 2 = 16 := by decide
      have e2 : (4 : Nat) ^ (2 : Int).toNat = 16 := by decide
      omega
    · have e : pq_ 3 = 64 := by decide
      have e2 : (4 : Nat) ^ (3 : Int).toNat = 64 := by decide
      omega
  have h := lk_4 ⟨j.toNat, by omega⟩ ⟨g.toNat, by omega⟩ ⟨d.toNat, by omega⟩ hgp
  simp only [hn, hm, hk] at h
  rw [e1, h] at e2
  rcases (show j = 0 ∨ j = 1 ∨ j = 2 ∨ j = 3 by omega) with q | q | q | q <;> subst q
  · have e : pq_ 0 = 1 := by decide
    have e5 : pq_ (0 + 1) = 4 := by decide
    rw [show (4 : Nat) ^ (0 : Int).toNat = 1 by decide] at e2
    have h2 := (J_inj r (rr (by omega))).mp e2
    omega
  · have e : pq_ 1 = 4 := by decide
    have e5 : pq_ (1 + 1) = 16 := by decide
    rw [show (4 : Nat) ^ (1 : Int).toNat = 4 by decide] at e2
    have h2 := (J_inj r (rr (by omega))).mp e2
    omega
  · have e : pq_ 2 = 16 := by decide
    have e5 : pq_ (2 + 1) = 64 := by decide
    rw [show (4 : Nat) ^ (2 : Int).toNat = 16 by decide] at e2
    have h2 := (J_inj r (rr (by omega))).mp e2
    omega
  · have e : pq_ 3 = 64 := by decide
    have e5 : pq_ (3 + 1) = 256 := by decide
    rw [show (4 : Nat) ^ (3 : Int).toNat = 64 by decide] at e2
    have h2 := (J_inj r (rr (by omega))).mp e2
    omega
theorem pq_le {j : Int} (h : 0 ≤ j ∧ j ≤ 4) : pq_ j ≤ 256 := by
  rcases (show j = 0 ∨ j = 1 ∨ j = 2 ∨ j = 3 ∨ j = 4 by omega) with rfl | rfl | rfl | rfl | rfl <;> decide
def TCr_ (ps : Int) (di st qu : Int → Int) (p x z : Int) : Prop := (z = 1 ∧ ∃ r, 0 ≤ r ∧ r < ps ∧ di r = -1 ∧ 0 < st (24 * r + x) ∧ qu r = qu p) ∨ (z = 3 ∧ ∀ r, 0 ≤ r → r < ps → ¬ (di r = -1 ∧ 0 < st (24 * r + x) ∧ qu r = qu p))
theorem TCr_det {ps : Int} {di st qu : Int → Int} {p x y z : Int} (h : TCr_ ps di st qu p x y) (h2 : TCr_ ps di st qu p x z) : y = z := by
  rcases h with ⟨a, r, h⟩ | ⟨a, h⟩ <;> rcases h2 with ⟨b, r2, k⟩ | ⟨b, k⟩
  · omega
  · exact absurd h.2.2 (k r h.1 h.2.1)
  · exact absurd k.2.2 (h r2 k.1 k.2.1)
  · omega
theorem TCr_rg {ps : Int} {di st qu : Int → Int} {p x z : Int} (h : TCr_ ps di st qu p x z) : 1 ≤ z ∧ z ≤ 3 := by
  rcases h with ⟨a, _⟩ | ⟨a, _⟩ <;> omega
theorem tc_step {P : Int → Prop} {g : Int} (h : ∀ r, 0 ≤ r → r < g → P r) (hg : P g) : ∀ r, 0 ≤ r → r < g + 1 → P r := fun r h1 h2 => by
  by_cases e : r = g
  · rw [e]; exact hg
  · exact h r h1 (by omega)
def Bad_ (ps : Int) (di st pl : Int → Int) (p v j : Int) : Prop := ¬ (0 ≤ p ∧ p < ps ∧ di p = -1) ∨ 0 < st (24 * p + pl j) ∨ qd_ v j = 0
def CBr_ (ps : Int) (di st qu pl LC : Int → Int) (p v j z : Int) : Prop := (Bad_ ps di st pl p v j ∧ z = 1000000) ∨ (¬ Bad_ ps di st pl p v j ∧ ∃ t, TCr_ ps di st qu p (pl j) t ∧ z = t + LC (256 * (p + 1) + v - pw_ j) ∧ pw_ j ≤ v)
theorem CBr_det {ps : Int} {di st qu pl LC : Int → Int} {p v j y z : Int} (h : CBr_ ps di st qu pl LC p v j y) (h2 : CBr_ ps di st qu pl LC p v j z) : y = z := by
  rcases h with ⟨a, h⟩ | ⟨a, t, h⟩ <;> rcases h2 with ⟨b, k⟩ | ⟨b, t2, k⟩
  · omega
  · exact absurd a b
  · exact absurd b a
  · have := TCr_det h.1 k.1; omega
theorem cb_some {ps : Int} {di st qu pl LC : Int → Int} {p v j z : Int} (h : CBr_ ps di st qu pl LC p v j z) (hz : z < 1000000) : pw_ j ≤ v ∧ LC (256 * (p + 1) + v - pw_ j) < 1000000 := by
  rcases h with ⟨a, h⟩ | ⟨a, t, h⟩
  · omega
  · have := TCr_rg h.1; exact ⟨h.2.2, by omega⟩
def DPc_ (ps : Int) (di st qu pl LC : Int → Int) (k p v : Int) : Prop := LC (256 * p + v) = 1000000 ∨ LC (256 * p + v) = LC (256 * (p + 1) + v) ∨ ∃ j, 0 ≤ j ∧ j < k ∧ CBr_ ps di st qu pl LC p v j (LC (256 * p + v))
theorem dp_none {ps : Int} {di st qu pl LC : Int → Int} {k p v : Int} (h : DPc_ ps di st qu pl LC k p v) (hl : LC (256 * p + v) < 1000000) (hn : ∀ j, 0 ≤ j → j < k → ∀ z, CBr_ ps di st qu pl LC p v j z → z ≠ LC (256 * p + v)) : LC (256 * (p + 1) + v) < 1000000 := by
  rcases h with h | h | ⟨j, h1, h2, h3⟩
  · omega
  · omega
  · exact absurd rfl (hn j h1 h2 _ h3)
theorem CBr_up {ps : Int} {di st qu pl LC : Int → Int} {p v j z i x : Int} (h : CBr_ ps di st qu pl LC p v j z) (hv : 0 ≤ v ∧ v < 256) (hj : 0 ≤ j ∧ j < 4) (hi : i < 256 * (p + 1)) : CBr_ ps di st qu pl (upA LC i x) p v j z := by
  rcases h with h | ⟨a, t, h⟩
  · exact Or.inl h
  · refine Or.inr ⟨a, t, h.1, ?_, h.2.2⟩
    rw [upA_ne (by omega)]
    exact h.2.1
theorem DPc_up {ps : Int} {di st qu pl LC : Int → Int} {k p v i x : Int} (h : DPc_ ps di st qu pl LC k p v) (hv : 0 ≤ v ∧ v < 256) (hk : k ≤ 4) (hi : i < 256 * (p + 1)) (hn : i ≠ 256 * p + v) : DPc_ ps di st qu pl (upA LC i x) k p v := by
  unfold DPc_
  rw [upA_ne (show 256 * p + v ≠ i by omega), upA_ne (show 256 * (p + 1) + v ≠ i by omega)]
  rcases h with h | h | ⟨j, h1, h2, h3⟩
  · exact Or.inl h
  · exact Or.inr (Or.inl h)
  · exact Or.inr (Or.inr ⟨j, h1, h2, CBr_up h3 hv (by omega) hi⟩)
def Lr_ (LC : Int → Int) (lo hi : Int) : Prop := ∀ i, lo ≤ i → i < hi → 0 ≤ LC i ∧ LC i ≤ 1000000

set_option maxHeartbeats 4000000 in
set_option maxRecDepth 100000 in
theorem c2_X10_teachCost (l : Launch) (D : va_G) (cy : Nat → ClassId) (q : Nat → Nat) (n_0 : Nat → Int) (f_0 : Nat → Int → Int) (v_p v_x : Int) (r_v_p : inR v_p) (r_v_x : inR v_x) (hp0 : (n_0 2) ≤ 24) (hp1 : 0 ≤ v_p ∧ v_p < 24) (hp2 : 0 ≤ v_x ∧ v_x < 24) : MC l D cy q yX10_teachCost cX10_teachCost 4 (some .int) 2 [.int (J v_p), .int (J v_x)] n_0 f_0 (PI (fun (z_0 : Int) (n_2 : Nat → Int) (f_2 : Nat → Int → Int) => (n_2 = n_0 ∧ f_2 = f_0) ∧ (TCr_ (n_0 2) (f_0 6) (f_0 19) (f_0 3) v_p v_x z_0))) := by
  refine MC.ofi rfl (Nat.le_of_ble_eq_true rfl) ?_
  intro p e s m below meth c ls ar QW A0 H0 H locs E hK hA hw hl hret
  have hl : lv_has ls 4 [(0, .ref (q 0)), (1, .int (J v_p)), (2, .int (J v_x))] := hl
  refine j_iconst E 1 rfl dX10_teachCost_0 ?_
  refine j_istore_n E 2 rfl [(3, .int (J 0)), (0, .ref (q 0)), (1, .int (J v_p)), (2, .int (J v_x))] dX10_teachCost_1 rfl hl (by decide) rfl (fun ls hl => ?_)
  have L2_1 : ∀ (k2 : Nat) (gq : Int) (H : Heap) (locs : List Loc) (ls : Array Slot), inR gq → (0 ≤ gq ∧ gq ≤ 24 ∧ ∀ r, 0 ≤ r → r < gq → ¬ ((f_0 6 r) = -1 ∧ 0 < (f_0 19 (24 * r + v_x)) ∧ (f_0 3 r) = (f_0 3 v_p))) → (24 - gq) < (k2 : Int) → WM D cy q (n_0) (f_0) A0 H0 H locs → lv_has ls 4 [(0, .ref (q 0)), (1, .int (J v_p)), (2, .int (J v_x)), (3, .int (J gq))] → W p l e (rmd 2 0 0) s m ar below meth c H locs 0 0 QW (F0 m 2 ls []) := by
    intro k2
    induction k2 with
    | zero =>
      intro gq H locs ls r_gq iv2 ms2 hw hl
      exfalso; omega
    | succ k2 ih2 =>
      intro gq H locs ls r_gq iv2 ms2 hw hl
      refine j_iload_n E 3 rfl dX10_teachCost_2 rfl (lv_at hl 3 rfl) ?_
      refine j_aload_n E 4 rfl dX10_teachCost_3 rfl (lv_at hl 0 rfl) ?_
      refine m_get_2 E hK hw (n_0 2) rfl 7 rfl dX10_teachCost_4 (fun rr3_ => ?_)
      refine j_icmp_ge E 10 50 rfl r_gq rr3_ dX10_teachCost_7 (by decide) (fun cc4_ => ?_) (fun cc4_ => ?_)
      · refine j_iconst E 51 rfl dX10_teachCost_50 ?_
        exact hret 51 3 (n_0) (f_0) _ _ ls hw (rr (by decide)) ⟨⟨rfl, rfl⟩, Or.inr ⟨rfl, fun r h1 h2 => iv2.2.2 r h1 (by omega)⟩⟩ dX10_teachCost_51
      · refine j_aload_n E 11 rfl dX10_teachCost_10 rfl (lv_at hl 0 rfl) ?_
        refine j_iload_n E 12 rfl dX10_teachCost_11 rfl (lv_at hl 3 rfl) ?_
        refine m_callp (po := fun z_0 => (z_0 = 1 ∧ 0 ≤ gq ∧ gq < (n_0 2) ∧ (f_0 6 gq) = -1) ∨ (z_0 = 0 ∧ ¬ (0 ≤ gq ∧ gq < (n_0 2) ∧ (f_0 6 gq) = -1))) E (c_X10_isLiving l D cy q (n_0) (f_0) gq  r_gq (show (n_0 2) ≤ 24 from by omega)) rfl mt_X10_isLiving ml_X10_176 hK hw hA ⟨Nat.le_of_ble_eq_true rfl, Nat.le_of_ble_eq_true rfl⟩ (As := [.int (J gq)]) (rest := []) rfl rfl hl.1 (Nat.le_of_ble_eq_true rfl) 15 rfl dX10_teachCost_12 (fun zz5_ H locs rr5_ hq5_ hw => ?_)
        have hh5_ : (zz5_ = 1 ∧ 0 ≤ gq ∧ gq < (n_0 2) ∧ (f_0 6 gq) = -1) ∨ (zz5_ = 0 ∧ ¬ (0 ≤ gq ∧ gq < (n_0 2) ∧ (f_0 6 gq) = -1)) := hq5_
        clear hq5_
        rcases hh5_ with ⟨ee5_, hh5_⟩ | ⟨ee5_, hh5_⟩
        · subst ee5_
          refine j_if_eq E 18 44 rfl (rr (by decide)) dX10_teachCost_15 (by decide) (fun cc6_ => absurd cc6_ (by decide)) (fun _ => ?_)
          refine j_aload_n E 19 rfl dX10_teachCost_18 rfl (lv_at hl 0 rfl) ?_
          refine j_iload_n E 20 rfl dX10_teachCost_19 rfl (lv_at hl 3 rfl) ?_
          refine j_iload_n E 21 rfl dX10_teachCost_20 rfl (lv_at hl 2 rfl) ?_
          refine m_callp (po := fun z_0 => (z_0 = 1 ∧ 0 < (f_0 19 (24 * gq + v_x))) ∨ (z_0 = 0 ∧ ¬ (0 < (f_0 19 (24 * gq + v_x))))) E (c_X10_hasLine l D cy q (n_0) (f_0) gq v_x  r_gq r_v_x (show 0 ≤ gq ∧ gq < 24 from by omega) (show 0 ≤ v_x ∧ v_x < 24 from by omega)) rfl mt_X10_hasLine ml_X10_198 hK hw hA ⟨Nat.le_of_ble_eq_true rfl, Nat.le_of_ble_eq_true rfl⟩ (As := [.int (J gq), .int (J v_x)]) (rest := []) rfl rfl hl.1 (Nat.le_of_ble_eq_true rfl) 24 rfl dX10_teachCost_21 (fun zz7_ H locs rr7_ hq7_ hw => ?_)
          have hh7_ : (zz7_ = 1 ∧ 0 < (f_0 19 (24 * gq + v_x))) ∨ (zz7_ = 0 ∧ ¬ (0 < (f_0 19 (24 * gq + v_x)))) := hq7_
          clear hq7_
          rcases hh7_ with ⟨ee7_, hh7_⟩ | ⟨ee7_, hh7_⟩
          · subst ee7_
            refine j_if_eq E 27 44 rfl (rr (by decide)) dX10_teachCost_24 (by decide) (fun cc8_ => absurd cc8_ (by decide)) (fun _ => ?_)
            refine j_aload_n E 28 rfl dX10_teachCost_27 rfl (lv_at hl 0 rfl) ?_
            refine m_ag_3 E hK hw 31 rfl dX10_teachCost_28 ?_
            refine j_iload_n E 32 rfl dX10_teachCost_31 rfl (lv_at hl 3 rfl) ?_
            refine m_ld_3 E hK hw (f_0 3 gq) rfl (by omega) 33 rfl dX10_teachCost_32 (fun rr9_ => ?_)
            refine j_aload_n E 34 rfl dX10_teachCost_33 rfl (lv_at hl 0 rfl) ?_
            refine m_ag_3 E hK hw 37 rfl dX10_teachCost_34 ?_
            refine j_iload_n E 38 rfl dX10_teachCost_37 rfl (lv_at hl 1 rfl) ?_
            refine m_ld_3 E hK hw (f_0 3 v_p) rfl (by omega) 39 rfl dX10_teachCost_38 (fun rr10_ => ?_)
            refine j_icmp_ne E 42 44 rfl rr9_ rr10_ dX10_teachCost_39 (by decide) (fun cc11_ => ?_) (fun cc11_ => ?_)
            · refine j_iinc E 47 rfl [(3, .int (J (gq + 1))), (0, .ref (q 0)), (1, .int (J v_p)), (2, .int (J v_x))] dX10_teachCost_44 hl (kk := 3) rfl (by decide) rfl (fun ls hl => ?_)
              refine j_goto E 2 dX10_teachCost_47 (by decide) ?_
              exact ih2 (gq + 1) H locs ls (rr (by omega)) (⟨by omega, by omega, tc_step (P := fun r => ¬ ((f_0 6 r) = -1 ∧ 0 < (f_0 19 (24 * r + v_x)) ∧ (f_0 3 r) = (f_0 3 v_p))) iv2.2.2 (fun h_ => by omega)⟩) (by omega) hw (lv_sub hl [1, 2, 3, 0] rfl)
            · refine j_iconst E 43 rfl dX10_teachCost_42 ?_
              exact hret 43 1 (n_0) (f_0) _ _ ls hw (rr (by decide)) ⟨⟨rfl, rfl⟩, Or.inl ⟨rfl, gq, by omega, by omega, by omega, by omega, by omega⟩⟩ dX10_teachCost_43
          · subst ee7_
            refine j_if_eq E 27 44 rfl (rr (by decide)) dX10_teachCost_24 (by decide) (fun _ => ?_) (fun cc12_ => absurd cc12_ (by decide))
            refine j_iinc E 47 rfl [(3, .int (J (gq + 1))), (0, .ref (q 0)), (1, .int (J v_p)), (2, .int (J v_x))] dX10_teachCost_44 hl (kk := 3) rfl (by decide) rfl (fun ls hl => ?_)
            refine j_goto E 2 dX10_teachCost_47 (by decide) ?_
            exact ih2 (gq + 1) H locs ls (rr (by omega)) (⟨by omega, by omega, tc_step (P := fun r => ¬ ((f_0 6 r) = -1 ∧ 0 < (f_0 19 (24 * r + v_x)) ∧ (f_0 3 r) = (f_0 3 v_p))) iv2.2.2 (fun h_ => by omega)⟩) (by omega) hw (lv_sub hl [1, 2, 3, 0] rfl)
        · subst ee5_
          refine j_if_eq E 18 44 rfl (rr (by decide)) dX10_teachCost_15 (by decide) (fun _ => ?_) (fun cc13_ => absurd cc13_ (by decide))
          refine j_iinc E 47 rfl [(3, .int (J (gq + 1))), (0, .ref (q 0)), (1, .int (J v_p)), (2, .int (J v_x))] dX10_teachCost_44 hl (kk := 3) rfl (by decide) rfl (fun ls hl => ?_)
          refine j_goto E 2 dX10_teachCost_47 (by decide) ?_
          exact ih2 (gq + 1) H locs ls (rr (by omega)) (⟨by omega, by omega, tc_step (P := fun r => ¬ ((f_0 6 r) = -1 ∧ 0 < (f_0 19 (24 * r + v_x)) ∧ (f_0 3 r) = (f_0 3 v_p))) iv2.2.2 (fun h_ => by omega)⟩) (by omega) hw (lv_sub hl [1, 2, 3, 0] rfl)
  exact L2_1 _ 0 H locs ls (rr (by decide)) (⟨by omega, by omega, fun r h1 h2 => absurd h2 (by omega)⟩) (mk_lt _) hw (lv_sub hl [1, 2, 3, 0] rfl)
set_option maxHeartbeats 4000000 in
set_option maxRecDepth 100000 in
theorem c_X10_costBy (l : Launch) (D : va_G) (cy : Nat → ClassId) (q : Nat → Nat) (n_0 : Nat → Int) (f_0 : Nat → Int → Int) (v_p v_v v_j : Int) (r_v_p : inR v_p) (r_v_v : inR v_v) (r_v_j : inR v_j) (hp0 : (n_0 2) ≤ 24) (hp1 : 0 ≤ v_p ∧ v_p < 24) (hp2 : 0 ≤ v_v ∧ v_v < 256) (hp3 : -1 ≤ v_j ∧ v_j < (n_0 65)) (hp4 : (0 ≤ (n_0 65) ∧ (n_0 65) ≤ 4 ∧ ∀ i, 0 ≤ i → i < (n_0 65) → 0 ≤ (f_0 64 i) ∧ (f_0 64 i) < 24)) (hp5 : Lr_ (f_0 66) (256 * (v_p + 1)) (256 * (v_p + 1) + 256)) : MC l D cy q yX10_costBy cX10_costBy 4 (some .int) 3 [.int (J v_p), .int (J v_v), .int (J v_j)] n_0 f_0 (PI (fun (z_0 : Int) (n_2 : Nat → Int) (f_2 : Nat → Int → Int) => (n_2 = n_0 ∧ f_2 = f_0) ∧ ((0 ≤ z_0 ∧ z_0 ≤ 1000003) ∧ ((v_j = -1 ∧ z_0 = (f_0 66 (256 * (v_p + 1) + v_v))) ∨ (¬ v_j = -1 ∧ CBr_ (n_0 2) (f_0 6) (f_0 19) (f_0 3) (f_0 64) (f_0 66) v_p v_v v_j z_0))))) := by
  refine MC.ofi rfl (Nat.le_of_ble_eq_true rfl) ?_
  intro p e s m below meth c ls ar QW A0 H0 H locs E hK hA hw hl hret
  have hl : lv_has ls 4 [(0, .ref (q 0)), (1, .int (J v_p)), (2, .int (J v_v)), (3, .int (J v_j))] := hl
  refine j_iload_n E 1 rfl dX10_costBy_0 rfl (lv_at hl 3 rfl) ?_
  refine j_iconst E 2 rfl dX10_costBy_1 ?_
  refine j_icmp_ne E 5 20 rfl r_v_j (rr (by decide)) dX10_costBy_2 (by decide) (fun cc1_ => ?_) (fun cc1_ => ?_)
  · refine j_aload_n E 21 rfl dX10_costBy_20 rfl (lv_at hl 0 rfl) ?_
    refine j_iload_n E 22 rfl dX10_costBy_21 rfl (lv_at hl 1 rfl) ?_
    refine m_callp (po := fun z_0 => (z_0 = 1 ∧ 0 ≤ v_p ∧ v_p < (n_0 2) ∧ (f_0 6 v_p) = -1) ∨ (z_0 = 0 ∧ ¬ (0 ≤ v_p ∧ v_p < (n_0 2) ∧ (f_0 6 v_p) = -1))) E (c_X10_isLiving l D cy q (n_0) (f_0) v_p  r_v_p (show (n_0 2) ≤ 24 from by omega)) rfl mt_X10_isLiving ml_X10_176 hK hw hA ⟨Nat.le_of_ble_eq_true rfl, Nat.le_of_ble_eq_true rfl⟩ (As := [.int (J v_p)]) (rest := []) rfl rfl hl.1 (Nat.le_of_ble_eq_true rfl) 25 rfl dX10_costBy_22 (fun zz2_ H locs rr2_ hq2_ hw => ?_)
    have hh2_ : (zz2_ = 1 ∧ 0 ≤ v_p ∧ v_p < (n_0 2) ∧ (f_0 6 v_p) = -1) ∨ (zz2_ = 0 ∧ ¬ (0 ≤ v_p ∧ v_p < (n_0 2) ∧ (f_0 6 v_p) = -1)) := hq2_
    clear hq2_
    rcases hh2_ with ⟨ee2_, hh2_⟩ | ⟨ee2_, hh2_⟩
    · subst ee2_
      refine j_if_eq E 28 52 rfl (rr (by decide)) dX10_costBy_25 (by decide) (fun cc3_ => absurd cc3_ (by decide)) (fun _ => ?_)
      refine j_aload_n E 29 rfl dX10_costBy_28 rfl (lv_at hl 0 rfl) ?_
      refine j_iload_n E 30 rfl dX10_costBy_29 rfl (lv_at hl 1 rfl) ?_
      refine j_aload_n E 31 rfl dX10_costBy_30 rfl (lv_at hl 0 rfl) ?_
      refine m_ag_64 E hK hw 34 rfl dX10_costBy_31 ?_
      refine j_iload_n E 35 rfl dX10_costBy_34 rfl (lv_at hl 3 rfl) ?_
      refine m_ld_64 E hK hw (f_0 64 v_j) rfl (by omega) 36 rfl dX10_costBy_35 (fun rr4_ => ?_)
      have hl_ := hp4.2.2 v_j (by omega) (by omega)
      refine m_callp (po := fun z_0 => (z_0 = 1 ∧ 0 < (f_0 19 (24 * v_p + (f_0 64 v_j)))) ∨ (z_0 = 0 ∧ ¬ (0 < (f_0 19 (24 * v_p + (f_0 64 v_j)))))) E (c_X10_hasLine l D cy q (n_0) (f_0) v_p (f_0 64 v_j)  r_v_p rr4_ (show 0 ≤ v_p ∧ v_p < 24 from by omega) (show 0 ≤ (f_0 64 v_j) ∧ (f_0 64 v_j) < 24 from by omega)) rfl mt_X10_hasLine ml_X10_198 hK hw hA ⟨Nat.le_of_ble_eq_true rfl, Nat.le_of_ble_eq_true rfl⟩ (As := [.int (J v_p), .int (J (f_0 64 v_j))]) (rest := []) rfl rfl hl.1 (Nat.le_of_ble_eq_true rfl) 39 rfl dX10_costBy_36 (fun zz5_ H locs rr5_ hq5_ hw => ?_)
      have hh5_ : (zz5_ = 1 ∧ 0 < (f_0 19 (24 * v_p + (f_0 64 v_j)))) ∨ (zz5_ = 0 ∧ ¬ (0 < (f_0 19 (24 * v_p + (f_0 64 v_j))))) := hq5_
      clear hq5_
      rcases hh5_ with ⟨ee5_, hh5_⟩ | ⟨ee5_, hh5_⟩
      · subst ee5_
        refine j_if_ne E 42 52 rfl (rr (by decide)) dX10_costBy_39 (by decide) (fun _ => ?_) (fun cc6_ => absurd cc6_ (by decide))
        refine j_ldcw (z := 1000000) E 55 rfl (gT_c7 (List.mem_of_getElem? (i := 162) (by decide +kernel)) (by decide +kernel)) dX10_costBy_52 ?_
        exact hret 55 1000000 (n_0) (f_0) _ _ ls hw (rr (by decide)) ⟨⟨rfl, rfl⟩, ⟨by omega, Or.inr ⟨by omega, Or.inl ⟨by unfold Bad_; omega, rfl⟩⟩⟩⟩ dX10_costBy_55
      · subst ee5_
        refine j_if_ne E 42 52 rfl (rr (by decide)) dX10_costBy_39 (by decide) (fun cc7_ => absurd cc7_ (by decide)) (fun _ => ?_)
        refine j_iload_n E 43 rfl dX10_costBy_42 rfl (lv_at hl 2 rfl) ?_
        refine j_iconst E 44 rfl dX10_costBy_43 ?_
        refine j_iload_n E 45 rfl dX10_costBy_44 rfl (lv_at hl 3 rfl) ?_
        refine j_imul E 46 rfl dX10_costBy_45 ?_
        refine j_ishr E 47 rfl dX10_costBy_46 (fun zz8_ rr8_ ee8_ => ?_)
        have es_ := ee8_
        refine j_iconst E 48 rfl dX10_costBy_47 ?_
        refine j_iand E 49 rfl dX10_costBy_48 (fun zz9_ rr9_ ee9_ => ?_)
        have hq_ := sh_q es_ ee9_ (by omega) (by omega) rr9_
        refine j_if_ne E 52 56 rfl rr9_ dX10_costBy_49 (by decide) (fun cc10_ => ?_) (fun cc10_ => ?_)
        · refine j_aload_n E 57 rfl dX10_costBy_56 rfl (lv_at hl 0 rfl) ?_
          refine j_iload_n E 58 rfl dX10_costBy_57 rfl (lv_at hl 1 rfl) ?_
          refine j_aload_n E 59 rfl dX10_costBy_58 rfl (lv_at hl 0 rfl) ?_
          refine m_ag_64 E hK hw 62 rfl dX10_costBy_59 ?_
          refine j_iload_n E 63 rfl dX10_costBy_62 rfl (lv_at hl 3 rfl) ?_
          refine m_ld_64 E hK hw (f_0 64 v_j) rfl (by omega) 64 rfl dX10_costBy_63 (fun _ => ?_)
          have hl_ := hp4.2.2 v_j (by omega) (by omega)
          refine m_callp (po := fun z_0 => TCr_ (n_0 2) (f_0 6) (f_0 19) (f_0 3) v_p (f_0 64 v_j) z_0) E (c2_X10_teachCost l D cy q (n_0) (f_0) v_p (f_0 64 v_j)  r_v_p rr4_ (show (n_0 2) ≤ 24 from by omega) (show 0 ≤ v_p ∧ v_p < 24 from by omega) (show 0 ≤ (f_0 64 v_j) ∧ (f_0 64 v_j) < 24 from by omega)) rfl mt_X10_teachCost ml_X10_383 hK hw hA ⟨Nat.le_of_ble_eq_true rfl, Nat.le_of_ble_eq_true rfl⟩ (As := [.int (J v_p), .int (J (f_0 64 v_j))]) (rest := []) rfl rfl hl.1 (Nat.le_of_ble_eq_true rfl) 67 rfl dX10_costBy_64 (fun zz11_ H locs rr11_ hq11_ hw => ?_)
          have hh11_ : TCr_ (n_0 2) (f_0 6) (f_0 19) (f_0 3) v_p (f_0 64 v_j) zz11_ := hq11_
          clear hq11_
          have ht_ := hh11_
          clear hh11_
          have hr_ := TCr_rg ht_
          refine j_aload_n E 68 rfl dX10_costBy_67 rfl (lv_at hl 0 rfl) ?_
          refine m_ag_66 E hK hw 71 rfl dX10_costBy_68 ?_
          refine j_sipush E 74 rfl dX10_costBy_71 (by decide) ?_
          refine j_iload_n E 75 rfl dX10_costBy_74 rfl (lv_at hl 1 rfl) ?_
          refine j_iconst E 76 rfl dX10_costBy_75 ?_
          refine j_iadd E 77 rfl dX10_costBy_76 ?_
          refine j_imul E 78 rfl dX10_costBy_77 ?_
          refine j_iload_n E 79 rfl dX10_costBy_78 rfl (lv_at hl 2 rfl) ?_
          refine j_iadd E 80 rfl dX10_costBy_79 ?_
          refine j_iconst E 81 rfl dX10_costBy_80 ?_
          refine j_iconst E 82 rfl dX10_costBy_81 ?_
          refine j_iload_n E 83 rfl dX10_costBy_82 rfl (lv_at hl 3 rfl) ?_
          refine j_imul E 84 rfl dX10_costBy_83 ?_
          refine j_ishl E 85 rfl dX10_costBy_84 (fun zz12_ rr12_ ee12_ => ?_)
          have hs_ := sh_l ee12_ (by omega) rr12_
          have hg_ := qd_ge (v := v_v) (j := v_j) (by omega) (by omega) (by omega)
          have hw_ := pw_cs (j := v_j) (by omega)
          refine j_isub E 86 rfl dX10_costBy_85 ?_
          refine m_ld_66 E hK hw (f_0 66 (((256 * (v_p + 1)) + v_v) - zz12_)) rfl (by omega) 87 rfl dX10_costBy_86 (fun rr13_ => ?_)
          have hc_ := hp5 (((256 * (v_p + 1)) + v_v) - zz12_) (by omega) (by omega)
          refine j_iadd E 88 rfl dX10_costBy_87 ?_
          exact hret 88 (zz11_ + (f_0 66 (((256 * (v_p + 1)) + v_v) - zz12_))) (n_0) (f_0) _ _ ls hw (rr (by omega)) ⟨⟨rfl, rfl⟩, ⟨by omega, Or.inr ⟨by omega, Or.inr ⟨by unfold Bad_; omega, _, ht_, by rw [hs_], hg_⟩⟩⟩⟩ dX10_costBy_88
        · refine j_ldcw (z := 1000000) E 55 rfl (gT_c7 (List.mem_of_getElem? (i := 162) (by decide +kernel)) (by decide +kernel)) dX10_costBy_52 ?_
          exact hret 55 1000000 (n_0) (f_0) _ _ ls hw (rr (by decide)) ⟨⟨rfl, rfl⟩, ⟨by omega, Or.inr ⟨by omega, Or.inl ⟨by unfold Bad_; omega, rfl⟩⟩⟩⟩ dX10_costBy_55
    · subst ee2_
      refine j_if_eq E 28 52 rfl (rr (by decide)) dX10_costBy_25 (by decide) (fun _ => ?_) (fun cc14_ => absurd cc14_ (by decide))
      refine j_ldcw (z := 1000000) E 55 rfl (gT_c7 (List.mem_of_getElem? (i := 162) (by decide +kernel)) (by decide +kernel)) dX10_costBy_52 ?_
      exact hret 55 1000000 (n_0) (f_0) _ _ ls hw (rr (by decide)) ⟨⟨rfl, rfl⟩, ⟨by omega, Or.inr ⟨by omega, Or.inl ⟨by unfold Bad_; omega, rfl⟩⟩⟩⟩ dX10_costBy_55
  · refine j_aload_n E 6 rfl dX10_costBy_5 rfl (lv_at hl 0 rfl) ?_
    refine m_ag_66 E hK hw 9 rfl dX10_costBy_6 ?_
    refine j_sipush E 12 rfl dX10_costBy_9 (by decide) ?_
    refine j_iload_n E 13 rfl dX10_costBy_12 rfl (lv_at hl 1 rfl) ?_
    refine j_iconst E 14 rfl dX10_costBy_13 ?_
    refine j_iadd E 15 rfl dX10_costBy_14 ?_
    refine j_imul E 16 rfl dX10_costBy_15 ?_
    refine j_iload_n E 17 rfl dX10_costBy_16 rfl (lv_at hl 2 rfl) ?_
    refine j_iadd E 18 rfl dX10_costBy_17 ?_
    refine m_ld_66 E hK hw (f_0 66 ((256 * (v_p + 1)) + v_v)) rfl (by omega) 19 rfl dX10_costBy_18 (fun rr15_ => ?_)
    have hc_ := hp5 ((256 * (v_p + 1)) + v_v) (by omega) (by omega)
    exact hret 19 (f_0 66 ((256 * (v_p + 1)) + v_v)) (n_0) (f_0) _ _ ls hw rr15_ ⟨⟨rfl, rfl⟩, ⟨by omega, Or.inl ⟨by omega, rfl⟩⟩⟩ dX10_costBy_19
set_option maxHeartbeats 4000000 in
set_option maxRecDepth 100000 in
theorem c_X10_lacksNow (l : Launch) (D : va_G) (cy : Nat → ClassId) (q : Nat → Nat) (n_0 : Nat → Int) (f_0 : Nat → Int → Int) (v_m : Int) (r_v_m : inR v_m) (hp0 : (n_0 2) ≤ 24) (hp1 : 1 ≤ v_m ∧ v_m ≤ 3) (hp2 : (0 ≤ (n_0 65) ∧ (n_0 65) ≤ 4 ∧ ∀ i, 0 ≤ i → i < (n_0 65) → 0 ≤ (f_0 64 i) ∧ (f_0 64 i) < 24)) : MC l D cy q yX10_lacksNow cX10_lacksNow 5 (some .int) 3 [.int (J v_m)] n_0 f_0 (PI (fun (z_0 : Int) (n_2 : Nat → Int) (f_2 : Nat → Int → Int) => (n_2 = n_0 ∧ f_2 = f_0) ∧ (z_0 = -1 ∨ (0 ≤ z_0 ∧ z_0 < 256)))) := by
  refine MC.ofi rfl (Nat.le_of_ble_eq_true rfl) ?_
  intro p e s m below meth c ls ar QW A0 H0 H locs E hK hA hw hl hret
  have hl : lv_has ls 5 [(0, .ref (q 0)), (1, .int (J v_m))] := hl
  refine j_iconst E 1 rfl dX10_lacksNow_0 ?_
  refine j_istore_n E 2 rfl [(2, .int (J 0)), (0, .ref (q 0)), (1, .int (J v_m))] dX10_lacksNow_1 rfl hl (by decide) rfl (fun ls hl => ?_)
  refine j_iconst E 3 rfl dX10_lacksNow_2 ?_
  refine j_istore_n E 4 rfl [(3, .int (J 0)), (2, .int (J 0)), (0, .ref (q 0)), (1, .int (J v_m))] dX10_lacksNow_3 rfl hl (by decide) rfl (fun ls hl => ?_)
  have L4_1 : ∀ (k4 : Nat) (gl gj : Int) (H : Heap) (locs : List Loc) (ls : Array Slot), inR gl → inR gj → (0 ≤ gj ∧ gj ≤ (n_0 65) ∧ 0 ≤ gl ∧ gl < pq_ gj) → ((n_0 65) - gj) < (k4 : Int) → WM D cy q (n_0) (f_0) A0 H0 H locs → lv_has ls 5 [(0, .ref (q 0)), (1, .int (J v_m)), (2, .int (J gl)), (3, .int (J gj))] → W p l e (rmd 3 0 0) s m ar below meth c H locs 0 0 QW (F0 m 4 ls []) := by
    intro k4
    induction k4 with
    | zero =>
      intro gl gj H locs ls r_gl r_gj iv4 ms4 hw hl
      exfalso; omega
    | succ k4 ih4 =>
      intro gl gj H locs ls r_gl r_gj iv4 ms4 hw hl
      refine j_iload_n E 5 rfl dX10_lacksNow_4 rfl (lv_at hl 3 rfl) ?_
      refine j_aload_n E 6 rfl dX10_lacksNow_5 rfl (lv_at hl 0 rfl) ?_
      refine m_get_65 E hK hw (n_0 65) rfl 9 rfl dX10_lacksNow_6 (fun rr3_ => ?_)
      refine j_icmp_ge E 12 58 rfl r_gj rr3_ dX10_lacksNow_9 (by decide) (fun cc4_ => ?_) (fun cc4_ => ?_)
      · refine j_iload_n E 59 rfl dX10_lacksNow_58 rfl (lv_at hl 2 rfl) ?_
        exact hret 59 gl (n_0) (f_0) _ _ ls hw r_gl ⟨⟨rfl, rfl⟩, Or.inr ⟨by omega, by have := pq_le (j := gj) (by omega); omega⟩⟩ dX10_lacksNow_59
      · refine j_aload_n E 13 rfl dX10_lacksNow_12 rfl (lv_at hl 0 rfl) ?_
        refine j_aload_n E 14 rfl dX10_lacksNow_13 rfl (lv_at hl 0 rfl) ?_
        refine m_ag_64 E hK hw 17 rfl dX10_lacksNow_14 ?_
        refine j_iload_n E 18 rfl dX10_lacksNow_17 rfl (lv_at hl 3 rfl) ?_
        refine m_ld_64 E hK hw (f_0 64 gj) rfl (by omega) 19 rfl dX10_lacksNow_18 (fun rr5_ => ?_)
        have hl_ := hp2.2.2 gj (by omega) (by omega)
        refine m_callp (po := fun z_0 => (0 ≤ z_0 ∧ z_0 ≤ 24) ∧ z_0 = nq_ (fun p_ => (f_0 6 p_) = -1 ∧ 0 < (f_0 19 (24 * p_ + (f_0 64 gj)))) ((n_0 2)).toNat) E (c_X10_livingWith l D cy q (n_0) (f_0) (f_0 64 gj)  rr5_ (show (n_0 2) ≤ 24 from by omega) (show 0 ≤ (f_0 64 gj) ∧ (f_0 64 gj) < 24 from by omega)) rfl mt_X10_livingWith ml_X10_202 hK hw hA ⟨Nat.le_of_ble_eq_true rfl, Nat.le_of_ble_eq_true rfl⟩ (As := [.int (J (f_0 64 gj))]) (rest := []) rfl rfl hl.1 (Nat.le_of_ble_eq_true rfl) 22 rfl dX10_lacksNow_19 (fun zz6_ H locs rr6_ hq6_ hw => ?_)
        have hh6_ : (0 ≤ zz6_ ∧ zz6_ ≤ 24) ∧ zz6_ = nq_ (fun p_ => (f_0 6 p_) = -1 ∧ 0 < (f_0 19 (24 * p_ + (f_0 64 gj)))) ((n_0 2)).toNat := hq6_
        clear hq6_
        refine j_istore E 24 rfl [(4, .int (J zz6_)), (0, .ref (q 0)), (1, .int (J v_m)), (2, .int (J gl)), (3, .int (J gj))] dX10_lacksNow_22 hl (by decide) rfl (fun ls hl => ?_)
        refine j_iload E 26 rfl dX10_lacksNow_24 (lv_at hl 0 rfl) ?_
        refine j_if_ne E 29 31 rfl rr6_ dX10_lacksNow_26 (by decide) (fun cc7_ => ?_) (fun cc7_ => ?_)
        · refine j_iload_n E 32 rfl dX10_lacksNow_31 rfl (lv_at hl 3 rfl) ?_
          refine j_iload E 34 rfl dX10_lacksNow_32 (lv_at hl 0 rfl) ?_
          refine j_iload_n E 35 rfl dX10_lacksNow_34 rfl (lv_at hl 2 rfl) ?_
          refine j_icmp_ge E 38 45 rfl rr6_ r_v_m dX10_lacksNow_35 (by decide) (fun cc8_ => ?_) (fun cc8_ => ?_)
          · refine j_iconst E 46 rfl dX10_lacksNow_45 ?_
            refine j_iconst E 47 rfl dX10_lacksNow_46 ?_
            refine j_iload_n E 48 rfl dX10_lacksNow_47 rfl (lv_at hl 4 rfl) ?_
            refine j_imul E 49 rfl dX10_lacksNow_48 ?_
            refine j_ishl E 50 rfl dX10_lacksNow_49 (fun zz9_ rr9_ ee9_ => ?_)
            have es_ := ee9_
            refine j_ior E 51 rfl dX10_lacksNow_50 (fun zz10_ rr10_ ee10_ => ?_)
            have ho_ := lk_or es_ ee10_ (by omega) (by omega) (by omega) rr10_
            refine j_istore_n E 52 rfl [(2, .int (J zz10_)), (4, .int (J zz6_)), (0, .ref (q 0)), (1, .int (J v_m)), (3, .int (J gj))] dX10_lacksNow_51 rfl hl (by decide) rfl (fun ls hl => ?_)
            refine j_iinc E 55 rfl [(3, .int (J (gj + 1))), (2, .int (J zz10_)), (4, .int (J zz6_)), (0, .ref (q 0)), (1, .int (J v_m))] dX10_lacksNow_52 hl (kk := 4) rfl (by decide) rfl (fun ls hl => ?_)
            refine j_goto E 4 dX10_lacksNow_55 (by decide) ?_
            exact ih4 zz10_ (gj + 1) H locs ls rr10_ (rr (by omega)) (⟨by omega, by omega, ho_.1, ho_.2⟩) (by omega) hw (lv_sub hl [3, 4, 1, 0] rfl)
          · refine j_iload_n E 39 rfl dX10_lacksNow_38 rfl (lv_at hl 2 rfl) ?_
            refine j_iload E 41 rfl dX10_lacksNow_39 (lv_at hl 0 rfl) ?_
            refine j_isub E 42 rfl dX10_lacksNow_41 ?_
            refine j_goto E 46 dX10_lacksNow_42 (by decide) ?_
            refine j_iconst E 47 rfl dX10_lacksNow_46 ?_
            refine j_iload_n E 48 rfl dX10_lacksNow_47 rfl (lv_at hl 4 rfl) ?_
            refine j_imul E 49 rfl dX10_lacksNow_48 ?_
            refine j_ishl E 50 rfl dX10_lacksNow_49 (fun zz11_ rr11_ ee11_ => ?_)
            have es_ := ee11_
            refine j_ior E 51 rfl dX10_lacksNow_50 (fun zz12_ rr12_ ee12_ => ?_)
            have ho_ := lk_or es_ ee12_ (by omega) (by omega) (by omega) rr12_
            refine j_istore_n E 52 rfl [(2, .int (J zz12_)), (4, .int (J zz6_)), (0, .ref (q 0)), (1, .int (J v_m)), (3, .int (J gj))] dX10_lacksNow_51 rfl hl (by decide) rfl (fun ls hl => ?_)
            refine j_iinc E 55 rfl [(3, .int (J (gj + 1))), (2, .int (J zz12_)), (4, .int (J zz6_)), (0, .ref (q 0)), (1, .int (J v_m))] dX10_lacksNow_52 hl (kk := 4) rfl (by decide) rfl (fun ls hl => ?_)
            refine j_goto E 4 dX10_lacksNow_55 (by decide) ?_
            exact ih4 zz12_ (gj + 1) H locs ls rr12_ (rr (by omega)) (⟨by omega, by omega, ho_.1, ho_.2⟩) (by omega) hw (lv_sub hl [3, 4, 1, 0] rfl)
        · refine j_iconst E 30 rfl dX10_lacksNow_29 ?_
          exact hret 30 ((-1)) (n_0) (f_0) _ _ ls hw (rr (by decide)) ⟨⟨rfl, rfl⟩, Or.inl rfl⟩ dX10_lacksNow_30
  exact L4_1 _ 0 0 H locs ls (rr (by decide)) (rr (by decide)) (⟨by omega, by omega, by omega, by decide⟩) (mk_lt _) hw (lv_sub hl [2, 3, 1, 0] rfl)
set_option maxHeartbeats 4000000 in
set_option maxRecDepth 100000 in
theorem c_X10_taughtBy (l : Launch) (D : va_G) (cy : Nat → ClassId) (q : Nat → Nat) (n_0 : Nat → Int) (f_0 : Nat → Int → Int) (v_asked v_first : Int) (r_v_asked : inR v_asked) (r_v_first : inR v_first) (hp0 : (n_0 2) ≤ 24) (hp1 : 0 ≤ v_asked ∧ v_asked < (n_0 2)) (hp2 : 0 ≤ v_first ∧ v_first < 256) (hp3 : (0 ≤ (n_0 65) ∧ (n_0 65) ≤ 4 ∧ ∀ i, 0 ≤ i → i < (n_0 65) → 0 ≤ (f_0 64 i) ∧ (f_0 64 i) < 24)) (hp4 : Lr_ (f_0 66) 0 (256 * ((n_0 2) + 1))) (hp5 : (∀ p_, 0 ≤ p_ → p_ < (n_0 2) → ∀ v_, 0 ≤ v_ → v_ < 256 → DPc_ (n_0 2) (f_0 6) (f_0 19) (f_0 3) (f_0 64) (f_0 66) (n_0 65) p_ v_)) (hp6 : (f_0 66 v_first) < 1000000) : MC l D cy q yX10_taughtBy cX10_taughtBy 7 (some .int) 4 [.int (J v_asked), .int (J v_first)] n_0 f_0 (PI (fun (z_0 : Int) (n_2 : Nat → Int) (f_2 : Nat → Int → Int) => (n_2 = n_0 ∧ f_2 = f_0) ∧ (True))) := by
  refine MC.ofi rfl (Nat.le_of_ble_eq_true rfl) ?_
  intro p e s m below meth c ls ar QW A0 H0 H locs E hK hA hw hl hret
  have hl : lv_has ls 7 [(0, .ref (q 0)), (1, .int (J v_asked)), (2, .int (J v_first))] := hl
  refine j_iload_n E 1 rfl dX10_taughtBy_0 rfl (lv_at hl 2 rfl) ?_
  refine j_istore_n E 2 rfl [(3, .int (J v_first)), (0, .ref (q 0)), (1, .int (J v_asked)), (2, .int (J v_first))] dX10_taughtBy_1 rfl hl (by decide) rfl (fun ls hl => ?_)
  refine j_iconst E 3 rfl dX10_taughtBy_2 ?_
  refine j_istore E 5 rfl [(4, .int (J ((-1)))), (3, .int (J v_first)), (0, .ref (q 0)), (1, .int (J v_asked)), (2, .int (J v_first))] dX10_taughtBy_3 hl (by decide) rfl (fun ls hl => ?_)
  refine j_iconst E 6 rfl dX10_taughtBy_5 ?_
  refine j_istore E 8 rfl [(5, .int (J 0)), (4, .int (J ((-1)))), (3, .int (J v_first)), (0, .ref (q 0)), (1, .int (J v_asked)), (2, .int (J v_first))] dX10_taughtBy_6 hl (by decide) rfl (fun ls hl => ?_)
  have L8_1 : ∀ (k8 : Nat) (gl gt gp : Int) (H : Heap) (locs : List Loc) (ls : Array Slot), inR gl → inR gt → inR gp → ((0 ≤ gp ∧ gp ≤ v_asked + 1) ∧ (0 ≤ gl ∧ gl < 256) ∧ (f_0 66 (256 * gp + gl)) < 1000000) → (v_asked + 1 - gp) < (k8 : Int) → WM D cy q (n_0) (f_0) A0 H0 H locs → lv_has ls 7 [(0, .ref (q 0)), (1, .int (J v_asked)), (2, .int (J v_first)), (3, .int (J gl)), (4, .int (J gt)), (5, .int (J gp))] → W p l e (rmd 4 0 0) s m ar below meth c H locs 0 0 QW (F0 m 8 ls []) := by
    intro k8
    induction k8 with
    | zero =>
      intro gl gt gp H locs ls r_gl r_gt r_gp iv8 ms8 hw hl
      exfalso; omega
    | succ k8 ih8 =>
      intro gl gt gp H locs ls r_gl r_gt r_gp iv8 ms8 hw hl
      refine j_iload E 10 rfl dX10_taughtBy_8 (lv_at hl 5 rfl) ?_
      refine j_iload_n E 11 rfl dX10_taughtBy_10 rfl (lv_at hl 1 rfl) ?_
      refine j_icmp_gt E 14 106 rfl r_gp r_v_asked dX10_taughtBy_11 (by decide) (fun cc3_ => ?_) (fun cc3_ => ?_)
      · refine j_iload E 108 rfl dX10_taughtBy_106 (lv_at hl 4 rfl) ?_
        exact hret 108 gt (n_0) (f_0) _ _ ls hw r_gt ⟨⟨rfl, rfl⟩, trivial⟩ dX10_taughtBy_108
      · refine j_iconst E 15 rfl dX10_taughtBy_14 ?_
        refine j_istore E 17 rfl [(6, .int (J 0)), (0, .ref (q 0)), (1, .int (J v_asked)), (2, .int (J v_first)), (3, .int (J gl)), (4, .int (J gt)), (5, .int (J gp))] dX10_taughtBy_15 hl (by decide) rfl (fun ls hl => ?_)
        have L17_4 : ∀ (k17 : Nat) (gj : Int) (H : Heap) (locs : List Loc) (ls : Array Slot), inR gj → (0 ≤ gj ∧ gj ≤ (n_0 65) ∧ ∀ j_, 0 ≤ j_ → j_ < gj → ∀ z_, CBr_ (n_0 2) (f_0 6) (f_0 19) (f_0 3) (f_0 64) (f_0 66) gp gl j_ z_ → z_ ≠ (f_0 66 (256 * gp + gl))) → ((n_0 65) - gj) < (k17 : Int) → WM D cy q (n_0) (f_0) A0 H0 H locs → lv_has ls 7 [(0, .ref (q 0)), (1, .int (J v_asked)), (2, .int (J v_first)), (3, .int (J gl)), (4, .int (J gt)), (5, .int (J gp)), (6, .int (J gj))] → W p l e (rmd 4 0 0) s m ar below meth c H locs 0 0 QW (F0 m 17 ls []) := by
          intro k17
          induction k17 with
          | zero =>
            intro gj H locs ls r_gj iv17 ms17 hw hl
            exfalso; omega
          | succ k17 ih17 =>
            intro gj H locs ls r_gj iv17 ms17 hw hl
            refine j_iload E 19 rfl dX10_taughtBy_17 (lv_at hl 6 rfl) ?_
            refine j_aload_n E 20 rfl dX10_taughtBy_19 rfl (lv_at hl 0 rfl) ?_
            refine m_get_65 E hK hw (n_0 65) rfl 23 rfl dX10_taughtBy_20 (fun rr6_ => ?_)
            refine j_icmp_ge E 26 60 rfl r_gj rr6_ dX10_taughtBy_23 (by decide) (fun cc7_ => ?_) (fun cc7_ => ?_)
            · refine j_iload E 62 rfl dX10_taughtBy_60 (lv_at hl 6 rfl) ?_
              refine j_aload_n E 63 rfl dX10_taughtBy_62 rfl (lv_at hl 0 rfl) ?_
              refine m_get_65 E hK hw (n_0 65) rfl 66 rfl dX10_taughtBy_63 (fun _ => ?_)
              refine j_icmp_ge E 69 79 rfl r_gj rr6_ dX10_taughtBy_66 (by decide) (fun cc8_ => ?_) (fun cc8_ => ?_)
              · refine j_iconst E 80 rfl dX10_taughtBy_79 ?_
                refine j_istore E 82 rfl [(4, .int (J ((-1)))), (0, .ref (q 0)), (1, .int (J v_asked)), (2, .int (J v_first)), (3, .int (J gl)), (5, .int (J gp)), (6, .int (J gj))] dX10_taughtBy_80 hl (by decide) rfl (fun ls hl => ?_)
                refine j_iload E 84 rfl dX10_taughtBy_82 (lv_at hl 6 rfl) ?_
                refine j_aload_n E 85 rfl dX10_taughtBy_84 rfl (lv_at hl 1 rfl) ?_
                refine m_get_65 E hK hw (n_0 65) rfl 88 rfl dX10_taughtBy_85 (fun _ => ?_)
                refine j_icmp_ge E 91 100 rfl r_gj rr6_ dX10_taughtBy_88 (by decide) (fun cc9_ => ?_) (fun cc9_ => ?_)
                · refine j_iinc E 103 rfl [(5, .int (J (gp + 1))), (4, .int (J ((-1)))), (0, .ref (q 0)), (1, .int (J v_asked)), (2, .int (J v_first)), (3, .int (J gl)), (6, .int (J gj))] dX10_taughtBy_100 hl (kk := 5) rfl (by decide) rfl (fun ls hl => ?_)
                  refine j_goto E 8 dX10_taughtBy_103 (by decide) ?_
                  exact ih8 gl ((-1)) (gp + 1) H locs ls r_gl (rr (by decide)) (rr (by omega)) (by first | exact ⟨by omega, by have q_ := (cb_some hcb_ (by omega)).1; omega, by have q_ := (cb_some hcb_ (by omega)).2; rw [← hs_, Int.add_sub_assoc] at q_; exact q_⟩ | exact ⟨by omega, by omega, dp_none (hp5 gp (by omega) (by omega) gl (by omega) (by omega)) iv8.2.2 (fun j h1 h2 => iv17.2.2 j h1 (by omega))⟩ | exact ⟨by omega, by omega, by exfalso; omega⟩) (by omega) hw (lv_sub hl [2, 3, 4, 5, 1, 0] rfl)
                · refine j_iload_n E 92 rfl dX10_taughtBy_91 rfl (lv_at hl 4 rfl) ?_
                  refine j_iconst E 93 rfl dX10_taughtBy_92 ?_
                  refine j_iconst E 94 rfl dX10_taughtBy_93 ?_
                  refine j_iload E 96 rfl dX10_taughtBy_94 (lv_at hl 6 rfl) ?_
                  refine j_imul E 97 rfl dX10_taughtBy_96 ?_
                  refine j_ishl E 98 rfl dX10_taughtBy_97 (fun zz10_ rr10_ ee10_ => ?_)
                  have hs_ := sh_l ee10_ (by omega) rr10_
                  have hw_ := pw_cs (j := gj) (by omega)
                  refine j_isub E 99 rfl dX10_taughtBy_98 ?_
                  refine j_istore_n E 100 rfl [(3, .int (J (gl - zz10_))), (4, .int (J ((-1)))), (0, .ref (q 0)), (1, .int (J v_asked)), (2, .int (J v_first)), (5, .int (J gp)), (6, .int (J gj))] dX10_taughtBy_99 rfl hl (by decide) rfl (fun ls hl => ?_)
                  refine j_iinc E 103 rfl [(5, .int (J (gp + 1))), (3, .int (J (gl - zz10_))), (4, .int (J ((-1)))), (0, .ref (q 0)), (1, .int (J v_asked)), (2, .int (J v_first)), (6, .int (J gj))] dX10_taughtBy_100 hl (kk := 5) rfl (by decide) rfl (fun ls hl => ?_)
                  refine j_goto E 8 dX10_taughtBy_103 (by decide) ?_
                  exact ih8 (gl - zz10_) ((-1)) (gp + 1) H locs ls (rr (by omega)) (rr (by decide)) (rr (by omega)) (by first | exact ⟨by omega, by have q_ := (cb_some hcb_ (by omega)).1; omega, by have q_ := (cb_some hcb_ (by omega)).2; rw [← hs_, Int.add_sub_assoc] at q_; exact q_⟩ | exact ⟨by omega, by omega, dp_none (hp5 gp (by omega) (by omega) gl (by omega) (by omega)) iv8.2.2 (fun j h1 h2 => iv17.2.2 j h1 (by omega))⟩ | exact ⟨by omega, by omega, by exfalso; omega⟩) (by omega) hw (lv_sub hl [3, 4, 5, 1, 2, 0] rfl)
              · refine j_aload_n E 70 rfl dX10_taughtBy_69 rfl (lv_at hl 0 rfl) ?_
                refine m_ag_64 E hK hw 73 rfl dX10_taughtBy_70 ?_
                refine j_iload E 75 rfl dX10_taughtBy_73 (lv_at hl 6 rfl) ?_
                refine m_ld_64 E hK hw (f_0 64 gj) rfl (by omega) 76 rfl dX10_taughtBy_75 (fun rr11_ => ?_)
                refine j_goto E 80 dX10_taughtBy_76 (by decide) ?_
                refine j_istore E 82 rfl [(4, .int (J (f_0 64 gj))), (0, .ref (q 0)), (1, .int (J v_asked)), (2, .int (J v_first)), (3, .int (J gl)), (5, .int (J gp)), (6, .int (J gj))] dX10_taughtBy_80 hl (by decide) rfl (fun ls hl => ?_)
                refine j_iload E 84 rfl dX10_taughtBy_82 (lv_at hl 6 rfl) ?_
                refine j_aload_n E 85 rfl dX10_taughtBy_84 rfl (lv_at hl 1 rfl) ?_
                refine m_get_65 E hK hw (n_0 65) rfl 88 rfl dX10_taughtBy_85 (fun _ => ?_)
                refine j_icmp_ge E 91 100 rfl r_gj rr6_ dX10_taughtBy_88 (by decide) (fun cc12_ => ?_) (fun cc12_ => ?_)
                · refine j_iinc E 103 rfl [(5, .int (J (gp + 1))), (4, .int (J (f_0 64 gj))), (0, .ref (q 0)), (1, .int (J v_asked)), (2, .int (J v_first)), (3, .int (J gl)), (6, .int (J gj))] dX10_taughtBy_100 hl (kk := 5) rfl (by decide) rfl (fun ls hl => ?_)
                  refine j_goto E 8 dX10_taughtBy_103 (by decide) ?_
                  exact ih8 gl (f_0 64 gj) (gp + 1) H locs ls r_gl rr11_ (rr (by omega)) (by first | exact ⟨by omega, by have q_ := (cb_some hcb_ (by omega)).1; omega, by have q_ := (cb_some hcb_ (by omega)).2; rw [← hs_, Int.add_sub_assoc] at q_; exact q_⟩ | exact ⟨by omega, by omega, dp_none (hp5 gp (by omega) (by omega) gl (by omega) (by omega)) iv8.2.2 (fun j h1 h2 => iv17.2.2 j h1 (by omega))⟩ | exact ⟨by omega, by omega, by exfalso; omega⟩) (by omega) hw (lv_sub hl [2, 3, 4, 5, 1, 0] rfl)
                · refine j_iload_n E 92 rfl dX10_taughtBy_91 rfl (lv_at hl 4 rfl) ?_
                  refine j_iconst E 93 rfl dX10_taughtBy_92 ?_
                  refine j_iconst E 94 rfl dX10_taughtBy_93 ?_
                  refine j_iload E 96 rfl dX10_taughtBy_94 (lv_at hl 6 rfl) ?_
                  refine j_imul E 97 rfl dX10_taughtBy_96 ?_
                  refine j_ishl E 98 rfl dX10_taughtBy_97 (fun zz13_ rr13_ ee13_ => ?_)
                  have hs_ := sh_l ee13_ (by omega) rr13_
                  have hw_ := pw_cs (j := gj) (by omega)
                  refine j_isub E 99 rfl dX10_taughtBy_98 ?_
                  refine j_istore_n E 100 rfl [(3, .int (J (gl - zz13_))), (4, .int (J (f_0 64 gj))), (0, .ref (q 0)), (1, .int (J v_asked)), (2, .int (J v_first)), (5, .int (J gp)), (6, .int (J gj))] dX10_taughtBy_99 rfl hl (by decide) rfl (fun ls hl => ?_)
                  refine j_iinc E 103 rfl [(5, .int (J (gp + 1))), (3, .int (J (gl - zz13_))), (4, .int (J (f_0 64 gj))), (0, .ref (q 0)), (1, .int (J v_asked)), (2, .int (J v_first)), (6, .int (J gj))] dX10_taughtBy_100 hl (kk := 5) rfl (by decide) rfl (fun ls hl => ?_)
                  refine j_goto E 8 dX10_taughtBy_103 (by decide) ?_
                  exact ih8 (gl - zz13_) (f_0 64 gj) (gp + 1) H locs ls (rr (by omega)) rr11_ (rr (by omega)) (by first | exact ⟨by omega, by have q_ := (cb_some hcb_ (by omega)).1; omega, by have q_ := (cb_some hcb_ (by omega)).2; rw [← hs_, Int.add_sub_assoc] at q_; exact q_⟩ | exact ⟨by omega, by omega, dp_none (hp5 gp (by omega) (by omega) gl (by omega) (by omega)) iv8.2.2 (fun j h1 h2 => iv17.2.2 j h1 (by omega))⟩ | exact ⟨by omega, by omega, by exfalso; omega⟩) (by omega) hw (lv_sub hl [3, 4, 5, 1, 2, 0] rfl)
            · refine j_aload_n E 27 rfl dX10_taughtBy_26 rfl (lv_at hl 0 rfl) ?_
              refine j_iload E 29 rfl dX10_taughtBy_27 (lv_at hl 5 rfl) ?_
              refine j_iload_n E 30 rfl dX10_taughtBy_29 rfl (lv_at hl 3 rfl) ?_
              refine j_iload E 32 rfl dX10_taughtBy_30 (lv_at hl 6 rfl) ?_
              refine m_callp (po := fun z_0 => (0 ≤ z_0 ∧ z_0 ≤ 1000003) ∧ ((gj = -1 ∧ z_0 = (f_0 66 (256 * (gp + 1) + gl))) ∨ (¬ gj = -1 ∧ CBr_ (n_0 2) (f_0 6) (f_0 19) (f_0 3) (f_0 64) (f_0 66) gp gl gj z_0))) E (c_X10_costBy l D cy q (n_0) (f_0) gp gl gj  r_gp r_gl r_gj (show (n_0 2) ≤ 24 from by omega) (show 0 ≤ gp ∧ gp < 24 from by omega) (show 0 ≤ gl ∧ gl < 256 from by omega) (show -1 ≤ gj ∧ gj < (n_0 65) from by omega) (show (0 ≤ (n_0 65) ∧ (n_0 65) ≤ 4 ∧ ∀ i, 0 ≤ i → i < (n_0 65) → 0 ≤ (f_0 64 i) ∧ (f_0 64 i) < 24) from hp3) (show Lr_ (f_0 66) (256 * (gp + 1)) (256 * (gp + 1) + 256) from fun i_ h1 h2 => hp4 i_ (by omega) (by omega))) rfl mt_X10_costBy ml_X10_392 hK hw hA ⟨Nat.le_of_ble_eq_true rfl, Nat.le_of_ble_eq_true rfl⟩ (As := [.int (J gp), .int (J gl), .int (J gj)]) (rest := []) rfl rfl hl.1 (Nat.le_of_ble_eq_true rfl) 35 rfl dX10_taughtBy_32 (fun zz14_ H locs rr14_ hq14_ hw => ?_)
              have hh14_ : (0 ≤ zz14_ ∧ zz14_ ≤ 1000003) ∧ ((gj = -1 ∧ zz14_ = (f_0 66 (256 * (gp + 1) + gl))) ∨ (¬ gj = -1 ∧ CBr_ (n_0 2) (f_0 6) (f_0 19) (f_0 3) (f_0 64) (f_0 66) gp gl gj zz14_)) := hq14_
              clear hq14_
              have hcb_ : CBr_ (n_0 2) (f_0 6) (f_0 19) (f_0 3) (f_0 64) (f_0 66) gp gl gj zz14_ := hh14_.2.elim (fun h => absurd h.1 (by omega)) (fun h => h.2)
              refine j_aload_n E 36 rfl dX10_taughtBy_35 rfl (lv_at hl 0 rfl) ?_
              refine m_ag_66 E hK hw 39 rfl dX10_taughtBy_36 ?_
              refine j_sipush E 42 rfl dX10_taughtBy_39 (by decide) ?_
              refine j_iload E 44 rfl dX10_taughtBy_42 (lv_at hl 5 rfl) ?_
              refine j_imul E 45 rfl dX10_taughtBy_44 ?_
              refine j_iload_n E 46 rfl dX10_taughtBy_45 rfl (lv_at hl 3 rfl) ?_
              refine j_iadd E 47 rfl dX10_taughtBy_46 ?_
              refine m_ld_66 E hK hw (f_0 66 ((256 * gp) + gl)) rfl (by omega) 48 rfl dX10_taughtBy_47 (fun rr15_ => ?_)
              refine j_icmp_eq E 51 60 rfl rr14_ rr15_ dX10_taughtBy_48 (by decide) (fun cc16_ => ?_) (fun cc16_ => ?_)
              · refine j_iload E 62 rfl dX10_taughtBy_60 (lv_at hl 6 rfl) ?_
                refine j_aload_n E 63 rfl dX10_taughtBy_62 rfl (lv_at hl 0 rfl) ?_
                refine m_get_65 E hK hw (n_0 65) rfl 66 rfl dX10_taughtBy_63 (fun _ => ?_)
                refine j_icmp_ge E 69 79 rfl r_gj rr6_ dX10_taughtBy_66 (by decide) (fun cc17_ => ?_) (fun cc17_ => ?_)
                · refine j_iconst E 80 rfl dX10_taughtBy_79 ?_
                  refine j_istore E 82 rfl [(4, .int (J ((-1)))), (0, .ref (q 0)), (1, .int (J v_asked)), (2, .int (J v_first)), (3, .int (J gl)), (5, .int (J gp)), (6, .int (J gj))] dX10_taughtBy_80 hl (by decide) rfl (fun ls hl => ?_)
                  refine j_iload E 84 rfl dX10_taughtBy_82 (lv_at hl 6 rfl) ?_
                  refine j_aload_n E 85 rfl dX10_taughtBy_84 rfl (lv_at hl 1 rfl) ?_
                  refine m_get_65 E hK hw (n_0 65) rfl 88 rfl dX10_taughtBy_85 (fun _ => ?_)
                  refine j_icmp_ge E 91 100 rfl r_gj rr6_ dX10_taughtBy_88 (by decide) (fun cc18_ => ?_) (fun cc18_ => ?_)
                  · refine j_iinc E 103 rfl [(5, .int (J (gp + 1))), (4, .int (J ((-1)))), (0, .ref (q 0)), (1, .int (J v_asked)), (2, .int (J v_first)), (3, .int (J gl)), (6, .int (J gj))] dX10_taughtBy_100 hl (kk := 5) rfl (by decide) rfl (fun ls hl => ?_)
                    refine j_goto E 8 dX10_taughtBy_103 (by decide) ?_
                    exact ih8 gl ((-1)) (gp + 1) H locs ls r_gl (rr (by decide)) (rr (by omega)) (by first | exact ⟨by omega, by have q_ := (cb_some hcb_ (by omega)).1; omega, by have q_ := (cb_some hcb_ (by omega)).2; rw [← hs_, Int.add_sub_assoc] at q_; exact q_⟩ | exact ⟨by omega, by omega, dp_none (hp5 gp (by omega) (by omega) gl (by omega) (by omega)) iv8.2.2 (fun j h1 h2 => iv17.2.2 j h1 (by omega))⟩ | exact ⟨by omega, by omega, by exfalso; omega⟩) (by omega) hw (lv_sub hl [2, 3, 4, 5, 1, 0] rfl)
                  · refine j_iload_n E 92 rfl dX10_taughtBy_91 rfl (lv_at hl 4 rfl) ?_
                    refine j_iconst E 93 rfl dX10_taughtBy_92 ?_
                    refine j_iconst E 94 rfl dX10_taughtBy_93 ?_
                    refine j_iload E 96 rfl dX10_taughtBy_94 (lv_at hl 6 rfl) ?_
                    refine j_imul E 97 rfl dX10_taughtBy_96 ?_
                    refine j_ishl E 98 rfl dX10_taughtBy_97 (fun zz19_ rr19_ ee19_ => ?_)
                    have hs_ := sh_l ee19_ (by omega) rr19_
                    have hw_ := pw_cs (j := gj) (by omega)
                    refine j_isub E 99 rfl dX10_taughtBy_98 ?_
                    refine j_istore_n E 100 rfl [(3, .int (J (gl - zz19_))), (4, .int (J ((-1)))), (0, .ref (q 0)), (1, .int (J v_asked)), (2, .int (J v_first)), (5, .int (J gp)), (6, .int (J gj))] dX10_taughtBy_99 rfl hl (by decide) rfl (fun ls hl => ?_)
                    refine j_iinc E 103 rfl [(5, .int (J (gp + 1))), (3, .int (J (gl - zz19_))), (4, .int (J ((-1)))), (0, .ref (q 0)), (1, .int (J v_asked)), (2, .int (J v_first)), (6, .int (J gj))] dX10_taughtBy_100 hl (kk := 5) rfl (by decide) rfl (fun ls hl => ?_)
                    refine j_goto E 8 dX10_taughtBy_103 (by decide) ?_
                    exact ih8 (gl - zz19_) ((-1)) (gp + 1) H locs ls (rr (by omega)) (rr (by decide)) (rr (by omega)) (by first | exact ⟨by omega, by have q_ := (cb_some hcb_ (by omega)).1; omega, by have q_ := (cb_some hcb_ (by omega)).2; rw [← hs_, Int.add_sub_assoc] at q_; exact q_⟩ | exact ⟨by omega, by omega, dp_none (hp5 gp (by omega) (by omega) gl (by omega) (by omega)) iv8.2.2 (fun j h1 h2 => iv17.2.2 j h1 (by omega))⟩ | exact ⟨by omega, by omega, by exfalso; omega⟩) (by omega) hw (lv_sub hl [3, 4, 5, 1, 2, 0] rfl)
                · refine j_aload_n E 70 rfl dX10_taughtBy_69 rfl (lv_at hl 0 rfl) ?_
                  refine m_ag_64 E hK hw 73 rfl dX10_taughtBy_70 ?_
                  refine j_iload E 75 rfl dX10_taughtBy_73 (lv_at hl 6 rfl) ?_
                  refine m_ld_64 E hK hw (f_0 64 gj) rfl (by omega) 76 rfl dX10_taughtBy_75 (fun rr20_ => ?_)
                  refine j_goto E 80 dX10_taughtBy_76 (by decide) ?_
                  refine j_istore E 82 rfl [(4, .int (J (f_0 64 gj))), (0, .ref (q 0)), (1, .int (J v_asked)), (2, .int (J v_first)), (3, .int (J gl)), (5, .int (J gp)), (6, .int (J gj))] dX10_taughtBy_80 hl (by decide) rfl (fun ls hl => ?_)
                  refine j_iload E 84 rfl dX10_taughtBy_82 (lv_at hl 6 rfl) ?_
                  refine j_aload_n E 85 rfl dX10_taughtBy_84 rfl (lv_at hl 1 rfl) ?_
                  refine m_get_65 E hK hw (n_0 65) rfl 88 rfl dX10_taughtBy_85 (fun _ => ?_)
                  refine j_icmp_ge E 91 100 rfl r_gj rr6_ dX10_taughtBy_88 (by decide) (fun cc21_ => ?_) (fun cc21_ => ?_)
                  · refine j_iinc E 103 rfl [(5, .int (J (gp + 1))), (4, .int (J (f_0 64 gj))), (0, .ref (q 0)), (1, .int (J v_asked)), (2, .int (J v_first)), (3, .int (J gl)), (6, .int (J gj))] dX10_taughtBy_100 hl (kk := 5) rfl (by decide) rfl (fun ls hl => ?_)
                    refine j_goto E 8 dX10_taughtBy_103 (by decide) ?_
                    exact ih8 gl (f_0 64 gj) (gp + 1) H locs ls r_gl rr20_ (rr (by omega)) (by first | exact ⟨by omega, by have q_ := (cb_some hcb_ (by omega)).1; omega, by have q_ := (cb_some hcb_ (by omega)).2; rw [← hs_, Int.add_sub_assoc] at q_; exact q_⟩ | exact ⟨by omega, by omega, dp_none (hp5 gp (by omega) (by omega) gl (by omega) (by omega)) iv8.2.2 (fun j h1 h2 => iv17.2.2 j h1 (by omega))⟩ | exact ⟨by omega, by omega, by exfalso; omega⟩) (by omega) hw (lv_sub hl [2, 3, 4, 5, 1, 0] rfl)
                  · refine j_iload_n E 92 rfl dX10_taughtBy_91 rfl (lv_at hl 4 rfl) ?_
                    refine j_iconst E 93 rfl dX10_taughtBy_92 ?_
                    refine j_iconst E 94 rfl dX10_taughtBy_93 ?_
                    refine j_iload E 96 rfl dX10_taughtBy_94 (lv_at hl 6 rfl) ?_
                    refine j_imul E 97 rfl dX10_taughtBy_96 ?_
                    refine j_ishl E 98 rfl dX10_taughtBy_97 (fun zz22_ rr22_ ee22_ => ?_)
                    have hs_ := sh_l ee22_ (by omega) rr22_
                    have hw_ := pw_cs (j := gj) (by omega)
                    refine j_isub E 99 rfl dX10_taughtBy_98 ?_
                    refine j_istore_n E 100 rfl [(3, .int (J (gl - zz22_))), (4, .int (J (f_0 64 gj))), (0, .ref (q 0)), (1, .int (J v_asked)), (2, .int (J v_first)), (5, .int (J gp)), (6, .int (J gj))] dX10_taughtBy_99 rfl hl (by decide) rfl (fun ls hl => ?_)
                    refine j_iinc E 103 rfl [(5, .int (J (gp + 1))), (3, .int (J (gl - zz22_))), (4, .int (J (f_0 64 gj))), (0, .ref (q 0)), (1, .int (J v_asked)), (2, .int (J v_first)), (6, .int (J gj))] dX10_taughtBy_100 hl (kk := 5) rfl (by decide) rfl (fun ls hl => ?_)
                    refine j_goto E 8 dX10_taughtBy_103 (by decide) ?_
                    exact ih8 (gl - zz22_) (f_0 64 gj) (gp + 1) H locs ls (rr (by omega)) rr20_ (rr (by omega)) (by first | exact ⟨by omega, by have q_ := (cb_some hcb_ (by omega)).1; omega, by have q_ := (cb_some hcb_ (by omega)).2; rw [← hs_, Int.add_sub_assoc] at q_; exact q_⟩ | exact ⟨by omega, by omega, dp_none (hp5 gp (by omega) (by omega) gl (by omega) (by omega)) iv8.2.2 (fun j h1 h2 => iv17.2.2 j h1 (by omega))⟩ | exact ⟨by omega, by omega, by exfalso; omega⟩) (by omega) hw (lv_sub hl [3, 4, 5, 1, 2, 0] rfl)
              · refine j_iload E 53 rfl dX10_taughtBy_51 (lv_at hl 6 rfl) ?_
                refine j_iconst E 54 rfl dX10_taughtBy_53 ?_
                refine j_iadd E 55 rfl dX10_taughtBy_54 ?_
                refine j_istore E 57 rfl [(6, .int (J (gj + 1))), (0, .ref (q 0)), (1, .int (J v_asked)), (2, .int (J v_first)), (3, .int (J gl)), (4, .int (J gt)), (5, .int (J gp))] dX10_taughtBy_55 hl (by decide) rfl (fun ls hl => ?_)
                refine j_goto E 17 dX10_taughtBy_57 (by decide) ?_
                exact ih17 (gj + 1) H locs ls (rr (by omega)) (⟨by omega, by omega, tc_step (P := fun j_ => ∀ z_, CBr_ (n_0 2) (f_0 6) (f_0 19) (f_0 3) (f_0 64) (f_0 66) gp gl j_ z_ → z_ ≠ (f_0 66 (256 * gp + gl))) iv17.2.2 (fun z_ h_ => by rw [CBr_det h_ hcb_]; assumption)⟩) (by omega) hw (lv_sub hl [1, 2, 3, 4, 5, 6, 0] rfl)
        exact L17_4 _ 0 H locs ls (rr (by decide)) (⟨by omega, by omega, fun j_ h1 h2 => absurd h2 (by omega)⟩) (mk_lt _) hw (lv_sub hl [1, 2, 3, 4, 5, 6, 0] rfl)
  exact L8_1 _ v_first ((-1)) 0 H locs ls r_v_first (rr (by decide)) (rr (by decide)) (⟨by omega, by omega, by rw [show (256 : Int) * 0 + v_first = v_first by omega]; exact hp6⟩) (mk_lt _) hw (lv_sub hl [3, 4, 5, 2, 1, 0] rfl)
