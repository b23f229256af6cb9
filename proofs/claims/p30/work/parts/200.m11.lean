
def ct_ (p : Nat → Bool) : Nat → Nat
  | 0 => 0
  | n + 1 => ct_ p n + (if p n then 1 else 0)
theorem ct_step (p : Nat → Bool) (m : Nat) : ∀ n, ct_ p m ≤ ct_ p (m + n)
  | 0 => Nat.le_refl _
  | n + 1 => Nat.le_trans (ct_step p m n) (Nat.le_add_right _ _)
theorem ct_mono (p : Nat → Bool) {m n : Nat} (h : m ≤ n) : ct_ p m ≤ ct_ p n := by
  have := ct_step p m (n - m)
  rwa [show m + (n - m) = n by omega] at this
theorem ct_cong {p r : Nat → Bool} : ∀ {n : Nat}, (∀ k, k < n → p k = r k) → ct_ p n = ct_ r n
  | 0, _ => rfl
  | n + 1, h => by rw [ct_, ct_, ct_cong (fun k hk => h k (by omega)), h n (by omega)]
theorem ct_sub {p r : Nat → Bool} : ∀ {n : Nat}, (∀ k, k < n → p k = true → r k = true) → ct_ p n ≤ ct_ r n
  | 0, _ => Nat.le_refl _
  | n + 1, h => by
    have h1 := ct_sub (n := n) (p := p) (r := r) (fun k hk => h k (by omega))
    have h2 := h n (by omega)
    rw [ct_, ct_]
    cases hp : p n with
    | false => simp; omega
    | true => rw [h2 hp]; simp; omega
theorem ct_shift (p : Nat → Bool) : ∀ n, ct_ p (n + 1) = (if p 0 then 1 else 0) + ct_ (fun i => p (i + 1)) n
  | 0 => by simp [ct_]
  | n + 1 => by rw [ct_, ct_shift p n, ct_]; omega
theorem ct_pos {p : Nat → Bool} : ∀ {n : Nat}, 0 < ct_ p n → ∃ k, k < n ∧ p k = true
  | 0, h => absurd h (Nat.lt_irrefl 0)
  | n + 1, h => by
    cases hp : p n with
    | true => exact ⟨n, by omega, hp⟩
    | false =>
      rw [ct_, hp] at h
      obtain ⟨k, hk, hq⟩ := ct_pos (p := p) (n := n) (by simpa using h)
      exact ⟨k, by omega, hq⟩
theorem ct_one {p r : Nat → Bool} {i : Nat} (hi : p i = false) (hr : r i = true) (hs : ∀ k, k ≠ i → r k = p k) : ∀ {n : Nat}, i < n → ct_ r n = ct_ p n + 1
  | 0, h => absurd h (Nat.not_lt_zero i)
  | n + 1, h => by
    rw [ct_, ct_]
    by_cases e : i = n
    · subst e
      rw [hi, hr, ct_cong (fun k hk => hs k (by omega))]
      simp
    · have := ct_one hi hr hs (n := n) (by omega)
      rw [hs n (fun q => e q.symm), this]
      omega
theorem pp_ct : ∀ k n, pp_ k n = ct_ (fun i => n.testBit i) k
  | 0, _ => rfl
  | k + 1, n => by
    rw [pp_, ct_shift, pp_ct k (n / 2)]
    have e1 : ct_ (fun i => n.testBit (i + 1)) k = ct_ (fun i => (n / 2).testBit i) k := ct_cong (fun i _ => Nat.testBit_succ n i)
    have e2 : (if n.testBit 0 then 1 else 0) = n % 2 := by
      rw [Nat.testBit_zero]
      rcases Nat.mod_two_eq_zero_or_one n with m | m <;> simp [m]
    rw [e1, e2]
theorem cn_ct (z : Int) : cn_ z = (ct_ (bt_ z) 32 : Int) := by unfold cn_; rw [pp_ct]; rfl
def tb_ (g : Int → Int) (i : Nat) : Bool := decide (g i ≠ 0)
def Tr_ (g : Int → Int) (set n f : Int) : Prop := (ct_ (tb_ g) 32 : Int) = n ∧ (∀ i : Int, 0 ≤ i → i < 32 → g i ≠ 0 → bt_ set i.toNat = true) ∧ g f ≠ 0
theorem Tr_pick {g : Int → Int} {set n f : Int} (h : Tr_ g set n f) (hn : n < cn_ set) : ∃ w : Int, 0 ≤ w ∧ w < 32 ∧ bt_ set w.toNat = true ∧ g w = 0 := by
  rw [cn_ct] at hn
  have h1 := h.1
  have : ¬ ∀ k, k < 32 → bt_ set k = true → tb_ g k = true := fun q => by
    have := ct_sub (n := 32) q
    omega
  have h2 : ∃ k : Nat, k < 32 ∧ bt_ set k = true ∧ tb_ g k = false := by
    refine Classical.byContradiction fun q => this fun k hk hb => ?_
    cases ht : tb_ g k with
    | true => rfl
    | false => exact absurd ⟨k, hk, hb, ht⟩ q
  obtain ⟨k, hk, hb, ht⟩ := h2
  refine ⟨(k : Int), by omega, by omega, by simpa using hb, ?_⟩
  unfold tb_ at ht
  simpa using ht
theorem Tr_add {g : Int → Int} {set n f w : Int} (h : Tr_ g set n f) (hw : 0 ≤ w ∧ w < 32) (hb : bt_ set w.toNat = true) (hg : g w = 0) : Tr_ (upA g w 1) set (n + 1) f := by
  have hwn : ((w.toNat : Nat) : Int) = w := by omega
  refine ⟨?_, fun i h1 h2 h3 => ?_, ?_⟩
  · have h1 := ct_one (p := tb_ g) (r := tb_ (upA g w 1)) (i := w.toNat) (by unfold tb_; rw [hwn, hg]; decide) (by unfold tb_; rw [hwn, upA_same]; decide) (fun k hk => by unfold tb_; rw [upA_ne (by omega)]) (n := 32) (by omega)
    rw [h1]
    have := h.1
    omega
  · by_cases e : i = w
    · rw [e]; exact hb
    · rw [upA_ne e] at h3; exact h.2.1 i h1 h2 h3
  · by_cases e : f = w
    · rw [e, upA_same]; decide
    · rw [upA_ne e]; exact h.2.2
theorem Tr_first {g : Int → Int} {set f : Int} (z : ∀ j, 0 ≤ j → j < 32 → g j = 0) (hf : 0 ≤ f ∧ f < 32) (hb : bt_ set f.toNat = true) : Tr_ (upA g f 1) set 1 f := by
  have h0 : ∀ n : Nat, n ≤ 32 → ct_ (tb_ g) n = 0 := by
    intro n
    induction n with
    | zero => intro _; rfl
    | succ n ih =>
      intro hn
      rw [ct_, ih (by omega)]
      have : tb_ g n = false := by unfold tb_; rw [z n (by omega) (by omega)]; decide
      rw [this]; rfl
  have hfn : ((f.toNat : Nat) : Int) = f := by omega
  refine ⟨?_, fun i h1 h2 h3 => ?_, ?_⟩
  · have h1 := ct_one (p := tb_ g) (r := tb_ (upA g f 1)) (i := f.toNat) (by unfold tb_; rw [hfn, z f hf.1 hf.2]; decide) (by unfold tb_; rw [hfn, upA_same]; decide) (fun k hk => by unfold tb_; rw [upA_ne (by omega)]) (n := 32) (by omega)
    rw [h1, h0 32 (Nat.le_refl 32)]
    rfl
  · by_cases e : i = f
    · rw [e]; exact hb
    · rw [upA_ne e, z i h1 h2] at h3; exact absurd rfl h3
  · rw [upA_same]; decide
theorem cn_pos {z : Int} (h : 0 < cn_ z) : ∃ i : Int, 0 ≤ i ∧ i < 32 ∧ bt_ z i.toNat = true := by
  rw [cn_ct] at h
  obtain ⟨k, hk, hq⟩ := ct_pos (p := bt_ z) (n := 32) (by omega)
  exact ⟨(k : Int), by omega, by omega, by simpa using hq⟩
theorem bt_ne {set a b : Int} (ha : bt_ set a.toNat = false) (hb : bt_ set b.toNat = true) : a ≠ b := fun e => by rw [e, hb] at ha; cases ha

set_option maxHeartbeats 4000000 in
set_option maxRecDepth 100000 in
theorem c_X10_areWordings (l : Launch) (D : va_G) (cy : Nat → ClassId) (q : Nat → Nat) (n_0 : Nat → Int) (f_0 : Nat → Int → Int) (v_set : Int) (r_v_set : inR v_set) (hp0 : 0 ≤ (n_0 29) ∧ (n_0 29) ≤ 32) : MC l D cy q yX10_areWordings cX10_areWordings 2 (some .boolean) 0 [.int (J v_set)] n_0 f_0 (PI (fun (z_0 : Int) (n_2 : Nat → Int) (f_2 : Nat → Int → Int) => (n_2 = n_0 ∧ f_2 = f_0) ∧ ((z_0 = 1 ∧ Bz_ v_set (n_0 29)) ∨ (z_0 = 0 ∧ ¬ Bz_ v_set (n_0 29))))) := by
  refine MC.ofz rfl (Nat.le_of_ble_eq_true rfl) ?_
  intro p e s m below meth c ls ar QW A0 H0 H locs E hK hA hw hl hret
  have hl : lv_has ls 2 [(0, .ref (q 0)), (1, .int (J v_set))] := hl
  refine j_aload_n E 1 rfl dX10_areWordings_0 rfl (lv_at hl 0 rfl) ?_
  refine m_get_29 E hK hw (n_0 29) rfl 4 rfl dX10_areWordings_1 (fun rr1_ => ?_)
  refine j_bipush E 6 rfl dX10_areWordings_4 (by decide) ?_
  refine j_icmp_eq E 9 22 rfl rr1_ (rr (by decide)) dX10_areWordings_6 (by decide) (fun cc2_ => ?_) (fun cc2_ => ?_)
  · refine j_iconst E 23 rfl dX10_areWordings_22 ?_
    refine j_goto E 27 dX10_areWordings_23 (by decide) ?_
    exact hret 27 1 (n_0) (f_0) _ _ ls hw (Or.inr rfl) ⟨⟨rfl, rfl⟩, by first | exact Or.inl ⟨rfl, fun i h1 h2 h0 => absurd h1 (by omega)⟩ | exact Or.inl ⟨rfl, sh_zero es_ (by assumption) (by omega)⟩ | exact Or.inr ⟨rfl, fun b_ => absurd (bz_pos r_v_set b_ (by omega)) (by omega)⟩ | exact Or.inr ⟨rfl, sz_ne es_ r_v_set rs_ (by assumption) (by omega)⟩⟩ dX10_areWordings_27
  · refine j_iload_n E 10 rfl dX10_areWordings_9 rfl (lv_at hl 1 rfl) ?_
    refine j_aload_n E 11 rfl dX10_areWordings_10 rfl (lv_at hl 0 rfl) ?_
    refine m_get_29 E hK hw (n_0 29) rfl 14 rfl dX10_areWordings_11 (fun _ => ?_)
    refine j_ishr E 15 rfl dX10_areWordings_14 (fun zz3_ rr3_ ee3_ => ?_)
    have es_ := ee3_
    have rs_ := rr3_
    refine j_if_ne E 18 26 rfl rr3_ dX10_areWordings_15 (by decide) (fun cc4_ => ?_) (fun cc4_ => ?_)
    · refine j_iconst E 27 rfl dX10_areWordings_26 ?_
      exact hret 27 0 (n_0) (f_0) _ _ ls hw (Or.inl rfl) ⟨⟨rfl, rfl⟩, by first | exact Or.inl ⟨rfl, fun i h1 h2 h0 => absurd h1 (by omega)⟩ | exact Or.inl ⟨rfl, sh_zero es_ (by assumption) (by omega)⟩ | exact Or.inr ⟨rfl, fun b_ => absurd (bz_pos r_v_set b_ (by omega)) (by omega)⟩ | exact Or.inr ⟨rfl, sz_ne es_ r_v_set rs_ (by assumption) (by omega)⟩⟩ dX10_areWordings_27
    · refine j_iload_n E 19 rfl dX10_areWordings_18 rfl (lv_at hl 1 rfl) ?_
      refine j_if_lt E 22 26 rfl r_v_set dX10_areWordings_19 (by decide) (fun cc5_ => ?_) (fun cc5_ => ?_)
      · refine j_iconst E 27 rfl dX10_areWordings_26 ?_
        exact hret 27 0 (n_0) (f_0) _ _ ls hw (Or.inl rfl) ⟨⟨rfl, rfl⟩, by first | exact Or.inl ⟨rfl, fun i h1 h2 h0 => absurd h1 (by omega)⟩ | exact Or.inl ⟨rfl, sh_zero es_ (by assumption) (by omega)⟩ | exact Or.inr ⟨rfl, fun b_ => absurd (bz_pos r_v_set b_ (by omega)) (by omega)⟩ | exact Or.inr ⟨rfl, sz_ne es_ r_v_set rs_ (by assumption) (by omega)⟩⟩ dX10_areWordings_27
      · refine j_iconst E 23 rfl dX10_areWordings_22 ?_
        refine j_goto E 27 dX10_areWordings_23 (by decide) ?_
        exact hret 27 1 (n_0) (f_0) _ _ ls hw (Or.inr rfl) ⟨⟨rfl, rfl⟩, by first | exact Or.inl ⟨rfl, fun i h1 h2 h0 => absurd h1 (by omega)⟩ | exact Or.inl ⟨rfl, sh_zero es_ (by assumption) (by omega)⟩ | exact Or.inr ⟨rfl, fun b_ => absurd (bz_pos r_v_set b_ (by omega)) (by omega)⟩ | exact Or.inr ⟨rfl, sz_ne es_ r_v_set rs_ (by assumption) (by omega)⟩⟩ dX10_areWordings_27
set_option maxHeartbeats 40000000 in
set_option maxRecDepth 100000 in
theorem c_X10_tree (l : Launch) (D : va_G) (cy : Nat → ClassId) (q : Nat → Nat) (n_0 : Nat → Int) (f_0 : Nat → Int → Int) (v_set v_what : Int) (r_v_set : inR v_set) (r_v_what : inR v_what) (hp0 : MI (n_0) (f_0)) : MC l D cy q yX10_tree cX10_tree 11 (some .int) 2 [.int (J v_set), .int (J v_what)] n_0 f_0 (PI (fun (z_0 : Int) (n_2 : Nat → Int) (f_2 : Nat → Int → Int) => ∃ (x0_2 : Int) (y62_2 : Int → Int) (y63_2 : Int → Int) (y61_2 : Int → Int) (y59_2 : Int → Int) (y60_2 : Int → Int) , n_2 = upN n_0 0 x0_2 ∧ f_2 = upF (upF (upF (upF (upF f_0 59 y59_2) 60 y60_2) 61 y61_2) 62 y62_2) 63 y63_2 ∧ (MI (upN n_0 0 x0_2) (upF (upF (upF (upF (upF f_0 59 y59_2) 60 y60_2) 61 y61_2) 62 y62_2) 63 y63_2) ∧ (True)))) := by
  refine MC.ofi rfl (Nat.le_of_ble_eq_true rfl) ?_
  intro p e s m below meth c ls ar QW A0 H0 H locs E hK hA hw hl hret
  have hl : lv_has ls 11 [(0, .ref (q 0)), (1, .int (J v_set)), (2, .int (J v_what))] := hl
  have hp0_ := hp0
  obtain ⟨i_now, i_persons, i_lines, i_wordings, i_taped, i_suits, i_spk, i_fam, i_str, i_said, i_book, i_wds, i_tok, i_cod, i_far, i_tap, i_qua, i_sil, i_stz, i_way⟩ := hp0_
  refine j_aload_n E 1 rfl dX10_tree_0 rfl (lv_at hl 0 rfl) ?_
  refine j_iconst E 2 rfl dX10_tree_1 ?_
  refine m_put_0 E hK hw (rr (by decide)) 5 rfl dX10_tree_2 (fun H locs hw => ?_)
  have hw : WM D cy q (upN n_0 0 0) (f_0) A0 H0 H locs := hw
  refine j_aload_n E 6 rfl dX10_tree_5 rfl (lv_at hl 0 rfl) ?_
  refine j_iload_n E 7 rfl dX10_tree_6 rfl (lv_at hl 1 rfl) ?_
  refine m_callp (po := fun z_0 => (z_0 = 1 ∧ Bz_ v_set (n_0 29)) ∨ (z_0 = 0 ∧ ¬ Bz_ v_set (n_0 29))) E (c_X10_areWordings l D cy q (upN n_0 0 0) (f_0) v_set  r_v_set (show 0 ≤ (n_0 29) ∧ (n_0 29) ≤ 32 from by omega)) rfl mt_X10_areWordings ml_X10_373 hK hw hA ⟨Nat.le_of_ble_eq_true rfl, Nat.le_of_ble_eq_true rfl⟩ (As := [.int (J v_set)]) (rest := []) rfl rfl hl.1 (Nat.le_of_ble_eq_true rfl) 10 rfl dX10_tree_7 (fun zz2_ H locs rr2_ hq2_ hw => ?_)
  have hh2_ : (zz2_ = 1 ∧ Bz_ v_set (n_0 29)) ∨ (zz2_ = 0 ∧ ¬ Bz_ v_set (n_0 29)) := hq2_
  clear hq2_
  rcases hh2_ with ⟨ee2_, hh2_⟩ | ⟨ee2_, hh2_⟩
  · subst ee2_
    have hB_ := hh2_
    clear hh2_
    refine j_if_eq E 13 28 rfl (rr (by decide)) dX10_tree_10 (by decide) (fun cc3_ => absurd cc3_ (by decide)) (fun _ => ?_)
    refine j_aload_n E 14 rfl dX10_tree_13 rfl (lv_at hl 0 rfl) ?_
    refine j_aload_n E 15 rfl dX10_tree_14 rfl (lv_at hl 0 rfl) ?_
    refine j_iload_n E 16 rfl dX10_tree_15 rfl (lv_at hl 1 rfl) ?_
    refine m_callp (po := fun z_0 => z_0 = cn_ v_set ∧ 0 ≤ z_0 ∧ z_0 ≤ 32) E (c_X10_ones l D cy q (upN n_0 0 0) (f_0) v_set  r_v_set ) rfl mt_X10_ones ml_X10_376 hK hw hA ⟨Nat.le_of_ble_eq_true rfl, Nat.le_of_ble_eq_true rfl⟩ (As := [.int (J v_set)]) (rest := [.ref (q 0)]) rfl rfl hl.1 (Nat.le_of_ble_eq_true rfl) 19 rfl dX10_tree_16 (fun zz4_ H locs rr4_ hq4_ hw => ?_)
    have hh4_ : zz4_ = cn_ v_set ∧ 0 ≤ zz4_ ∧ zz4_ ≤ 32 := hq4_
    clear hq4_
    refine j_iconst E 20 rfl dX10_tree_19 ?_
    refine j_bipush E 22 rfl dX10_tree_20 (by decide) ?_
    refine m_callp (po := fun z_0 => (z_0 = 1 ∧ (2 : Int) ≤ zz4_ ∧ zz4_ ≤ (8 : Int)) ∨ (z_0 = 0 ∧ (zz4_ < (2 : Int) ∨ (8 : Int) < zz4_))) E (c_X10_isIn l D cy q (upN n_0 0 0) (f_0) zz4_ 2 8  rr4_ (rr (by decide)) (rr (by decide)) ) rfl mt_X10_isIn ml_X10_169 hK hw hA ⟨Nat.le_of_ble_eq_true rfl, Nat.le_of_ble_eq_true rfl⟩ (As := [.int (J zz4_), .int (J 2), .int (J 8)]) (rest := []) rfl rfl hl.1 (Nat.le_of_ble_eq_true rfl) 25 rfl dX10_tree_22 (fun zz5_ H locs rr5_ hq5_ hw => ?_)
    have hh5_ : (zz5_ = 1 ∧ (2 : Int) ≤ zz4_ ∧ zz4_ ≤ (8 : Int)) ∨ (zz5_ = 0 ∧ (zz4_ < (2 : Int) ∨ (8 : Int) < zz4_)) := hq5_
    clear hq5_
    rcases hh5_ with ⟨ee5_, hh5_⟩ | ⟨ee5_, hh5_⟩
    · subst ee5_
      refine j_if_ne E 28 30 rfl (rr (by decide)) dX10_tree_25 (by decide) (fun _ => ?_) (fun cc6_ => absurd cc6_ (by decide))
      have L59_7 : ∀ (H : Heap) (locs : List Loc) (ls : Array Slot), (v_what = 0 ∨ (10 ≤ v_what ∧ v_what ≤ 41)) → WM D cy q (upN n_0 0 0) (f_0) A0 H0 H locs → lv_has ls 11 [(0, .ref (q 0)), (1, .int (J v_set)), (2, .int (J v_what))] → W p l e (rmd 2 0 0) s m ar below meth c H locs 0 0 QW (F0 m 59 ls []) := by
        intro H locs ls iv59 hw hl
        obtain ⟨i0_, i1_, i2_, i3_⟩ := cn_pos (z := v_set) (by omega)
        refine j_iconst E 60 rfl dX10_tree_59 ?_
        refine j_istore_n E 61 rfl [(3, .int (J 0)), (0, .ref (q 0)), (1, .int (J v_set)), (2, .int (J v_what))] dX10_tree_60 rfl hl (by decide) rfl (fun ls hl => ?_)
        have L61_9 : ∀ (k61 : Nat) (gf : Int) (H : Heap) (locs : List Loc) (ls : Array Slot), inR gf → (0 ≤ gf ∧ gf ≤ i0_) → (i0_ - gf) < (k61 : Int) → WM D cy q (upN n_0 0 0) (f_0) A0 H0 H locs → lv_has ls 11 [(0, .ref (q 0)), (1, .int (J v_set)), (2, .int (J v_what)), (3, .int (J gf))] → W p l e (rmd 2 0 0) s m ar below meth c H locs 0 0 QW (F0 m 61 ls []) := by
          intro k61
          induction k61 with
          | zero =>
            intro gf H locs ls r_gf iv61 ms61 hw hl
            exfalso; omega
          | succ k61 ih61 =>
            intro gf H locs ls r_gf iv61 ms61 hw hl
            refine j_iload_n E 62 rfl dX10_tree_61 rfl (lv_at hl 1 rfl) ?_
            refine j_iload_n E 63 rfl dX10_tree_62 rfl (lv_at hl 3 rfl) ?_
            refine j_ishr E 64 rfl dX10_tree_63 (fun zz11_ rr11_ ee11_ => ?_)
            have es_ := ee11_
            refine j_iconst E 65 rfl dX10_tree_64 ?_
            refine j_iand E 66 rfl dX10_tree_65 (fun zz12_ rr12_ ee12_ => ?_)
            have hs_ := sh_bit es_ ee12_ (by omega) rr12_
            refine j_if_ne E 69 76 rfl rr12_ dX10_tree_66 (by decide) (fun cc13_ => ?_) (fun cc13_ => ?_)
            · have hb_ : bt_ v_set gf.toNat = true := hs_.elim (fun h => absurd h.1 (by omega)) (fun h => h.2)
              have gw_ := bt_lt hB_ hb_ (by omega) (by omega)
              refine j_iconst E 77 rfl dX10_tree_76 ?_
              refine j_istore E 79 rfl [(4, .int (J 0)), (0, .ref (q 0)), (1, .int (J v_set)), (2, .int (J v_what)), (3, .int (J gf))] dX10_tree_77 hl (by decide) rfl (fun ls hl => ?_)
              have L79_14 : ∀ (k79 : Nat) (gi : Int) (y62_c79 : Int → Int) (H : Heap) (locs : List Loc) (ls : Array Slot), inR gi → (0 ≤ gi ∧ gi ≤ 32 ∧ ∀ j, 0 ≤ j → j < gi → (y62_c79 j) = 0) → (32 - gi) < (k79 : Int) → WM D cy q (upN n_0 0 0) (upF f_0 62 y62_c79) A0 H0 H locs → lv_has ls 11 [(0, .ref (q 0)), (1, .int (J v_set)), (2, .int (J v_what)), (3, .int (J gf)), (4, .int (J gi))] → W p l e (rmd 2 0 0) s m ar below meth c H locs 0 0 QW (F0 m 79 ls []) := by
                intro k79
                induction k79 with
                | zero =>
                  intro gi y62_c79 H locs ls r_gi iv79 ms79 hw hl
                  exfalso; omega
                | succ k79 ih79 =>
                  intro gi y62_c79 H locs ls r_gi iv79 ms79 hw hl
                  refine j_iload E 81 rfl dX10_tree_79 (lv_at hl 4 rfl) ?_
                  refine j_bipush E 83 rfl dX10_tree_81 (by decide) ?_
                  refine j_icmp_ge E 86 100 rfl r_gi (rr (by decide)) dX10_tree_83 (by decide) (fun cc16_ => ?_) (fun cc16_ => ?_)
                  · refine j_aload_n E 101 rfl dX10_tree_100 rfl (lv_at hl 0 rfl) ?_
                    refine m_ag_62 E hK hw 104 rfl dX10_tree_101 ?_
                    refine j_iload_n E 105 rfl dX10_tree_104 rfl (lv_at hl 3 rfl) ?_
                    refine j_iconst E 106 rfl dX10_tree_105 ?_
                    refine m_st_62 E hK hw (by omega) (rr (by decide)) (Or.inr rfl) 107 rfl dX10_tree_106 (fun H locs hw => ?_)
                    have hw : WM D cy q (upN n_0 0 0) (upF f_0 62 (upA (y62_c79) gf 1)) A0 H0 H locs := hw
                    refine j_aload_n E 108 rfl dX10_tree_107 rfl (lv_at hl 0 rfl) ?_
                    refine m_ag_63 E hK hw 111 rfl dX10_tree_108 ?_
                    refine j_iload_n E 112 rfl dX10_tree_111 rfl (lv_at hl 3 rfl) ?_
                    refine j_iconst E 113 rfl dX10_tree_112 ?_
                    refine m_st_63 E hK hw (by omega) (rr (by decide)) 114 rfl dX10_tree_113 (fun H locs hw => ?_)
                    have hw : WM D cy q (upN n_0 0 0) (upF (upF f_0 62 (upA (y62_c79) gf 1)) 63 (upA (f_0 63) gf ((-1)))) A0 H0 H locs := hw
                    refine j_iconst E 115 rfl dX10_tree_114 ?_
                    refine j_istore E 117 rfl [(4, .int (J 0)), (0, .ref (q 0)), (1, .int (J v_set)), (2, .int (J v_what)), (3, .int (J gf))] dX10_tree_115 hl (by decide) rfl (fun ls hl => ?_)
                    refine j_iconst E 118 rfl dX10_tree_117 ?_
                    refine j_istore E 120 rfl [(5, .int (J 1)), (4, .int (J 0)), (0, .ref (q 0)), (1, .int (J v_set)), (2, .int (J v_what)), (3, .int (J gf))] dX10_tree_118 hl (by decide) rfl (fun ls hl => ?_)
                    have L120_19 : ∀ (k120 : Nat) (gc gn : Int) (y62_c120 : Int → Int) (y63_c120 : Int → Int) (y61_c120 : Int → Int) (y59_c120 : Int → Int) (y60_c120 : Int → Int) (H : Heap) (locs : List Loc) (ls : Array Slot), inR gc → inR gn → ((1 ≤ gn ∧ gn ≤ cn_ v_set) ∧ Tr_ (y62_c120) v_set gn gf ∧ Far_ (y61_c120)) → (cn_ v_set - gn) < (k120 : Int) → WM D cy q (upN n_0 0 0) (upF (upF (upF (upF (upF f_0 59 y59_c120) 60 y60_c120) 61 y61_c120) 62 y62_c120) 63 y63_c120) A0 H0 H locs → lv_has ls 11 [(0, .ref (q 0)), (1, .int (J v_set)), (2, .int (J v_what)), (3, .int (J gf)), (4, .int (J gc)), (5, .int (J gn))] → W p l e (rmd 2 0 0) s m ar below meth c H locs 0 0 QW (F0 m 120 ls []) := by
                      intro k120
                      induction k120 with
                      | zero =>
                        intro gc gn y62_c120 y63_c120 y61_c120 y59_c120 y60_c120 H locs ls r_gc r_gn iv120 ms120 hw hl
                        exfalso; omega
                      | succ k120 ih120 =>
                        intro gc gn y62_c120 y63_c120 y61_c120 y59_c120 y60_c120 H locs ls r_gc r_gn iv120 ms120 hw hl
                        refine j_iload E 122 rfl dX10_tree_120 (lv_at hl 5 rfl) ?_
                        refine j_aload_n E 123 rfl dX10_tree_122 rfl (lv_at hl 0 rfl) ?_
                        refine j_iload_n E 124 rfl dX10_tree_123 rfl (lv_at hl 1 rfl) ?_
                        refine m_callp (po := fun z_0 => z_0 = cn_ v_set ∧ 0 ≤ z_0 ∧ z_0 ≤ 32) E (c_X10_ones l D cy q (upN n_0 0 0) (upF (upF (upF (upF (upF f_0 59 y59_c120) 60 y60_c120) 61 y61_c120) 62 y62_c120) 63 y63_c120) v_set  r_v_set ) rfl mt_X10_ones ml_X10_376 hK hw hA ⟨Nat.le_of_ble_eq_true rfl, Nat.le_of_ble_eq_true rfl⟩ (As := [.int (J v_set)]) (rest := [.int (J gn)]) rfl rfl hl.1 (Nat.le_of_ble_eq_true rfl) 127 rfl dX10_tree_124 (fun zz21_ H locs rr21_ hq21_ hw => ?_)
                        have hh21_ : zz21_ = cn_ v_set ∧ 0 ≤ zz21_ ∧ zz21_ ≤ 32 := hq21_
                        clear hq21_
                        refine j_icmp_ge E 130 273 rfl r_gn rr21_ dX10_tree_127 (by decide) (fun cc22_ => ?_) (fun cc22_ => ?_)
                        · refine j_iload_n E 274 rfl dX10_tree_273 rfl (lv_at hl 2 rfl) ?_
                          refine j_if_ne E 277 282 rfl r_v_what dX10_tree_274 (by decide) (fun cc23_ => ?_) (fun cc23_ => ?_)
                          · refine j_aload_n E 283 rfl dX10_tree_282 rfl (lv_at hl 0 rfl) ?_
                            refine m_ag_63 E hK hw 286 rfl dX10_tree_283 ?_
                            refine j_iload_n E 287 rfl dX10_tree_286 rfl (lv_at hl 2 rfl) ?_
                            refine j_bipush E 289 rfl dX10_tree_287 (by decide) ?_
                            refine j_isub E 290 rfl dX10_tree_289 ?_
                            refine m_ld_63 E hK hw (y63_c120 (v_what - 10)) rfl (by omega) 291 rfl dX10_tree_290 (fun rr24_ => ?_)
                            exact hret 291 (y63_c120 (v_what - 10)) (upN n_0 0 0) (upF (upF (upF (upF (upF f_0 59 y59_c120) 60 y60_c120) 61 y61_c120) 62 y62_c120) 63 y63_c120) _ _ ls hw rr24_ ⟨0, y62_c120, y63_c120, y61_c120, y59_c120, y60_c120, rfl, rfl, ⟨⟨i_now, i_persons, i_lines, i_wordings, i_taped, i_suits, i_spk, i_fam, i_str, i_said, i_book, i_wds, i_tok, i_cod, (show Far_ (y61_c120) from by first | exact i_far | exact iv120.2.2), i_tap, i_qua, i_sil, i_stz, i_way⟩, trivial⟩⟩ dX10_tree_291
                          · refine j_iload E 279 rfl dX10_tree_277 (lv_at hl 4 rfl) ?_
                            refine j_goto E 291 dX10_tree_279 (by decide) ?_
                            exact hret 291 gc (upN n_0 0 0) (upF (upF (upF (upF (upF f_0 59 y59_c120) 60 y60_c120) 61 y61_c120) 62 y62_c120) 63 y63_c120) _ _ ls hw r_gc ⟨0, y62_c120, y63_c120, y61_c120, y59_c120, y60_c120, rfl, rfl, ⟨⟨i_now, i_persons, i_lines, i_wordings, i_taped, i_suits, i_spk, i_fam, i_str, i_said, i_book, i_wds, i_tok, i_cod, (show Far_ (y61_c120) from by first | exact i_far | exact iv120.2.2), i_tap, i_qua, i_sil, i_stz, i_way⟩, trivial⟩⟩ dX10_tree_291
                        · obtain ⟨w0_, w1_, w2_, w3_, w4_⟩ := Tr_pick iv120.2.1 (by omega)
                          have w5_ := bt_lt hB_ w3_ w1_ w2_
                          refine j_iconst E 131 rfl dX10_tree_130 ?_
                          refine j_istore E 133 rfl [(6, .int (J ((-1)))), (0, .ref (q 0)), (1, .int (J v_set)), (2, .int (J v_what)), (3, .int (J gf)), (4, .int (J gc)), (5, .int (J gn))] dX10_tree_131 hl (by decide) rfl (fun ls hl => ?_)
                          refine j_iconst E 134 rfl dX10_tree_133 ?_
                          refine j_istore E 136 rfl [(7, .int (J ((-1)))), (6, .int (J ((-1)))), (0, .ref (q 0)), (1, .int (J v_set)), (2, .int (J v_what)), (3, .int (J gf)), (4, .int (J gc)), (5, .int (J gn))] dX10_tree_134 hl (by decide) rfl (fun ls hl => ?_)
                          refine j_ldcw (z := 1000000) E 139 rfl (gT_c7 (List.mem_of_getElem? (i := 162) (by decide +kernel)) (by decide +kernel)) dX10_tree_136 ?_
                          refine j_istore E 141 rfl [(8, .int (J 1000000)), (7, .int (J ((-1)))), (6, .int (J ((-1)))), (0, .ref (q 0)), (1, .int (J v_set)), (2, .int (J v_what)), (3, .int (J gf)), (4, .int (J gc)), (5, .int (J gn))] dX10_tree_139 hl (by decide) rfl (fun ls hl => ?_)
                          refine j_iconst E 142 rfl dX10_tree_141 ?_
                          refine j_istore E 144 rfl [(9, .int (J 0)), (8, .int (J 1000000)), (7, .int (J ((-1)))), (6, .int (J ((-1)))), (0, .ref (q 0)), (1, .int (J v_set)), (2, .int (J v_what)), (3, .int (J gf)), (4, .int (J gc)), (5, .int (J gn))] dX10_tree_142 hl (by decide) rfl (fun ls hl => ?_)
                          have L144_25 : ∀ (k144 : Nat) (gb gv gd gw : Int) (y61_c144 : Int → Int) (y59_c144 : Int → Int) (y60_c144 : Int → Int) (H : Heap) (locs : List Loc) (ls : Array Slot), inR gb → inR gv → inR gd → inR gw → ((0 ≤ gw ∧ gw ≤ 32) ∧ Far_ (y61_c144) ∧ ((gb = -1 ∧ gd = 1000000 ∧ gw ≤ w0_) ∨ ((0 ≤ gb ∧ gb < (n_0 29) ∧ bt_ v_set (gb).toNat = true ∧ y62_c120 gb = 0) ∧ 0 ≤ gd ∧ gd ≤ 1000000))) → (32 - gw) < (k144 : Int) → WM D cy q (upN n_0 0 0) (upF (upF (upF (upF (upF f_0 59 y59_c144) 60 y60_c144) 61 y61_c144) 62 y62_c120) 63 y63_c120) A0 H0 H locs → lv_has ls 11 [(0, .ref (q 0)), (1, .int (J v_set)), (2, .int (J v_what)), (3, .int (J gf)), (4, .int (J gc)), (5, .int (J gn)), (6, .int (J gb)), (7, .int (J gv)), (8, .int (J gd)), (9, .int (J gw))] → W p l e (rmd 2 0 0) s m ar below meth c H locs 0 0 QW (F0 m 144 ls []) := by
                            intro k144
                            induction k144 with
                            | zero =>
                              intro gb gv gd gw y61_c144 y59_c144 y60_c144 H locs ls r_gb r_gv r_gd r_gw iv144 ms144 hw hl
                              exfalso; omega
                            | succ k144 ih144 =>
                              intro gb gv gd gw y61_c144 y59_c144 y60_c144 H locs ls r_gb r_gv r_gd r_gw iv144 ms144 hw hl
                              refine j_iload E 146 rfl dX10_tree_144 (lv_at hl 9 rfl) ?_
                              refine j_aload_n E 147 rfl dX10_tree_146 rfl (lv_at hl 0 rfl) ?_
                              refine m_get_29 E hK hw (n_0 29) rfl 150 rfl dX10_tree_147 (fun rr27_ => ?_)
                              refine j_icmp_ge E 153 243 rfl r_gw rr27_ dX10_tree_150 (by decide) (fun cc28_ => ?_) (fun cc28_ => ?_)
                              · have iv144v_ : (0 ≤ gb ∧ gb < (n_0 29) ∧ bt_ v_set (gb).toNat = true ∧ y62_c120 gb = 0) := by rcases iv144.2.2 with q_ | q_; exact absurd q_.2.2 (by omega); exact q_.1
                                refine j_aload_n E 244 rfl dX10_tree_243 rfl (lv_at hl 0 rfl) ?_
                                refine m_ag_62 E hK hw 247 rfl dX10_tree_244 ?_
                                refine j_iload E 249 rfl dX10_tree_247 (lv_at hl 6 rfl) ?_
                                refine j_iconst E 250 rfl dX10_tree_249 ?_
                                refine m_st_62 E hK hw (by omega) (rr (by decide)) (Or.inr rfl) 251 rfl dX10_tree_250 (fun H locs hw => ?_)
                                have hw : WM D cy q (upN n_0 0 0) (upF (upF (upF (upF (upF f_0 59 y59_c144) 60 y60_c144) 61 y61_c144) 62 (upA (y62_c120) gb 1)) 63 y63_c120) A0 H0 H locs := hw
                                refine j_aload_n E 252 rfl dX10_tree_251 rfl (lv_at hl 0 rfl) ?_
                                refine m_ag_63 E hK hw 255 rfl dX10_tree_252 ?_
                                refine j_iload E 257 rfl dX10_tree_255 (lv_at hl 6 rfl) ?_
                                refine j_iload E 259 rfl dX10_tree_257 (lv_at hl 7 rfl) ?_
                                refine m_st_63 E hK hw (by omega) r_gv 260 rfl dX10_tree_259 (fun H locs hw => ?_)
                                have hw : WM D cy q (upN n_0 0 0) (upF (upF (upF (upF (upF f_0 59 y59_c144) 60 y60_c144) 61 y61_c144) 62 (upA (y62_c120) gb 1)) 63 (upA (y63_c120) gb gv)) A0 H0 H locs := hw
                                refine j_iload E 262 rfl dX10_tree_260 (lv_at hl 4 rfl) ?_
                                refine j_iload E 264 rfl dX10_tree_262 (lv_at hl 8 rfl) ?_
                                refine j_iadd E 265 rfl dX10_tree_264 ?_
                                refine j_norm (fun zz31_ rr31_ ee31_ => ?_)
                                refine j_istore E 267 rfl [(4, .int (J zz31_)), (0, .ref (q 0)), (1, .int (J v_set)), (2, .int (J v_what)), (3, .int (J gf)), (5, .int (J gn)), (6, .int (J gb)), (7, .int (J gv)), (8, .int (J gd)), (9, .int (J gw))] dX10_tree_265 hl (by decide) rfl (fun ls hl => ?_)
                                refine j_iinc E 270 rfl [(5, .int (J (gn + 1))), (4, .int (J zz31_)), (0, .ref (q 0)), (1, .int (J v_set)), (2, .int (J v_what)), (3, .int (J gf)), (6, .int (J gb)), (7, .int (J gv)), (8, .int (J gd)), (9, .int (J gw))] dX10_tree_267 hl (kk := 5) rfl (by decide) rfl (fun ls hl => ?_)
                                refine j_goto E 120 dX10_tree_270 (by decide) ?_
                                exact ih120 zz31_ (gn + 1) (upA (y62_c120) gb 1) (upA (y63_c120) gb gv) y61_c144 y59_c144 y60_c144 H locs ls rr31_ (rr (by omega)) (⟨by omega, Tr_add iv120.2.1 (by omega) iv144v_.2.2.1 iv144v_.2.2.2, iv144.2.1⟩) (by omega) hw (lv_sub hl [2, 3, 4, 5, 1, 0] rfl)
                              · refine j_iload_n E 154 rfl dX10_tree_153 rfl (lv_at hl 1 rfl) ?_
                                refine j_iload E 156 rfl dX10_tree_154 (lv_at hl 9 rfl) ?_
                                refine j_ishr E 157 rfl dX10_tree_156 (fun zz32_ rr32_ ee32_ => ?_)
                                have eq_ := ee32_
                                refine j_iconst E 158 rfl dX10_tree_157 ?_
                                refine j_iand E 159 rfl dX10_tree_158 (fun zz33_ rr33_ ee33_ => ?_)
                                have hq_ := sh_bit eq_ ee33_ (by omega) rr33_
                                refine j_if_eq E 162 237 rfl rr33_ dX10_tree_159 (by decide) (fun cc34_ => ?_) (fun cc34_ => ?_)
                                · refine j_iinc E 240 rfl [(9, .int (J (gw + 1))), (0, .ref (q 0)), (1, .int (J v_set)), (2, .int (J v_what)), (3, .int (J gf)), (4, .int (J gc)), (5, .int (J gn)), (6, .int (J gb)), (7, .int (J gv)), (8, .int (J gd))] dX10_tree_237 hl (kk := 9) rfl (by decide) rfl (fun ls hl => ?_)
                                  refine j_goto E 144 dX10_tree_240 (by decide) ?_
                                  exact ih144 gb gv gd (gw + 1) y61_c144 y59_c144 y60_c144 H locs ls r_gb r_gv r_gd (rr (by omega)) (by first | exact ⟨by omega, iv178.2.1, Or.inr (by rcases iv178.2.2 with q_ | q_; exact absurd q_.2.2 (by omega); exact q_)⟩ | exact ⟨by omega, iv144.2.1, by rcases iv144.2.2 with q_ | q_; exact Or.inl ⟨q_.1, q_.2.1, by first | (have n1_ := bt_ne (hq_.elim (fun h => h.2) (fun h => absurd h.1 (by omega))) w3_; omega) | (have n2_ : gw ≠ w0_ := fun e_ => absurd w4_ (by rw [← e_]; assumption); omega)⟩; exact Or.inr q_⟩) (by omega) hw (lv_sub hl [1, 2, 3, 4, 5, 6, 7, 8, 9, 0] rfl)
                                · refine j_aload_n E 163 rfl dX10_tree_162 rfl (lv_at hl 0 rfl) ?_
                                  refine m_ag_62 E hK hw 166 rfl dX10_tree_163 ?_
                                  refine j_iload E 168 rfl dX10_tree_166 (lv_at hl 9 rfl) ?_
                                  refine m_ld_62 E hK hw (y62_c120 gw) rfl (by omega) 169 rfl dX10_tree_168 (fun rr35_ => ?_)
                                  refine j_if_eq E 172 175 rfl rr35_ dX10_tree_169 (by decide) (fun cc36_ => ?_) (fun cc36_ => ?_)
                                  · refine j_iconst E 176 rfl dX10_tree_175 ?_
                                    refine j_istore E 178 rfl [(10, .int (J 0)), (0, .ref (q 0)), (1, .int (J v_set)), (2, .int (J v_what)), (3, .int (J gf)), (4, .int (J gc)), (5, .int (J gn)), (6, .int (J gb)), (7, .int (J gv)), (8, .int (J gd)), (9, .int (J gw))] dX10_tree_176 hl (by decide) rfl (fun ls hl => ?_)
                                    have L178_37 : ∀ (k178 : Nat) (gb2 gv2 gd2 gu : Int) (y61_c178 : Int → Int) (y59_c178 : Int → Int) (y60_c178 : Int → Int) (H : Heap) (locs : List Loc) (ls : Array Slot), inR gb2 → inR gv2 → inR gd2 → inR gu → ((0 ≤ gu ∧ gu ≤ 32) ∧ Far_ (y61_c178) ∧ ((gb2 = -1 ∧ gd2 = 1000000 ∧ gu ≤ gf) ∨ ((0 ≤ gb2 ∧ gb2 < (n_0 29) ∧ bt_ v_set (gb2).toNat = true ∧ y62_c120 gb2 = 0) ∧ 0 ≤ gd2 ∧ gd2 ≤ 1000000))) → (32 - gu) < (k178 : Int) → WM D cy q (upN n_0 0 0) (upF (upF (upF (upF (upF f_0 59 y59_c178) 60 y60_c178) 61 y61_c178) 62 y62_c120) 63 y63_c120) A0 H0 H locs → lv_has ls 11 [(0, .ref (q 0)), (1, .int (J v_set)), (2, .int (J v_what)), (3, .int (J gf)), (4, .int (J gc)), (5, .int (J gn)), (6, .int (J gb2)), (7, .int (J gv2)), (8, .int (J gd2)), (9, .int (J gw)), (10, .int (J gu))] → W p l e (rmd 2 0 0) s m ar below meth c H locs 0 0 QW (F0 m 178 ls []) := by
                                      intro k178
                                      induction k178 with
                                      | zero =>
                                        intro gb2 gv2 gd2 gu y61_c178 y59_c178 y60_c178 H locs ls r_gb2 r_gv2 r_gd2 r_gu iv178 ms178 hw hl
                                        exfalso; omega
                                      | succ k178 ih178 =>
                                        intro gb2 gv2 gd2 gu y61_c178 y59_c178 y60_c178 H locs ls r_gb2 r_gv2 r_gd2 r_gu iv178 ms178 hw hl
                                        refine j_iload E 180 rfl dX10_tree_178 (lv_at hl 10 rfl) ?_
                                        refine j_aload_n E 181 rfl dX10_tree_180 rfl (lv_at hl 0 rfl) ?_
                                        refine m_get_29 E hK hw (n_0 29) rfl 184 rfl dX10_tree_181 (fun _ => ?_)
                                        refine j_icmp_ge E 187 237 rfl r_gu rr27_ dX10_tree_184 (by decide) (fun cc39_ => ?_) (fun cc39_ => ?_)
                                        · refine j_iinc E 240 rfl [(9, .int (J (gw + 1))), (0, .ref (q 0)), (1, .int (J v_set)), (2, .int (J v_what)), (3, .int (J gf)), (4, .int (J gc)), (5, .int (J gn)), (6, .int (J gb2)), (7, .int (J gv2)), (8, .int (J gd2)), (10, .int (J gu))] dX10_tree_237 hl (kk := 9) rfl (by decide) rfl (fun ls hl => ?_)
                                          refine j_goto E 144 dX10_tree_240 (by decide) ?_
                                          exact ih144 gb2 gv2 gd2 (gw + 1) y61_c178 y59_c178 y60_c178 H locs ls r_gb2 r_gv2 r_gd2 (rr (by omega)) (by first | exact ⟨by omega, iv178.2.1, Or.inr (by rcases iv178.2.2 with q_ | q_; exact absurd q_.2.2 (by omega); exact q_)⟩ | exact ⟨by omega, iv144.2.1, by rcases iv144.2.2 with q_ | q_; exact Or.inl ⟨q_.1, q_.2.1, by first | (have n1_ := bt_ne (hq_.elim (fun h => h.2) (fun h => absurd h.1 (by omega))) w3_; omega) | (have n2_ : gw ≠ w0_ := fun e_ => absurd w4_ (by rw [← e_]; assumption); omega)⟩; exact Or.inr q_⟩) (by omega) hw (lv_sub hl [1, 2, 3, 4, 5, 6, 7, 8, 9, 0] rfl)
                                        · refine j_aload_n E 188 rfl dX10_tree_187 rfl (lv_at hl 0 rfl) ?_
                                          refine m_ag_62 E hK hw 191 rfl dX10_tree_188 ?_
                                          refine j_iload E 193 rfl dX10_tree_191 (lv_at hl 10 rfl) ?_
                                          refine m_ld_62 E hK hw (y62_c120 gu) rfl (by omega) 194 rfl dX10_tree_193 (fun rr40_ => ?_)
                                          refine j_if_eq E 197 231 rfl rr40_ dX10_tree_194 (by decide) (fun cc41_ => ?_) (fun cc41_ => ?_)
                                          · refine j_iinc E 234 rfl [(10, .int (J (gu + 1))), (0, .ref (q 0)), (1, .int (J v_set)), (2, .int (J v_what)), (3, .int (J gf)), (4, .int (J gc)), (5, .int (J gn)), (6, .int (J gb2)), (7, .int (J gv2)), (8, .int (J gd2)), (9, .int (J gw))] dX10_tree_231 hl (kk := 10) rfl (by decide) rfl (fun ls hl => ?_)
                                            refine j_goto E 178 dX10_tree_234 (by decide) ?_
                                            exact ih178 gb2 gv2 gd2 (gu + 1) y61_c178 y59_c178 y60_c178 H locs ls r_gb2 r_gv2 r_gd2 (rr (by omega)) (by first | exact ⟨by omega, hF_, Or.inr ⟨⟨by omega, by omega, hq_.elim (fun h => absurd h.1 (by omega)) (fun h => h.2), by assumption⟩, by omega, by omega⟩⟩ | exact ⟨by omega, hF_, by rcases iv178.2.2 with q_ | q_; exact absurd q_.2.1 (by omega); exact Or.inr q_⟩ | exact ⟨by omega, iv178.2.1, by rcases iv178.2.2 with q_ | q_; exact Or.inl ⟨q_.1, q_.2.1, by have n3_ : gu ≠ gf := fun e_ => iv120.2.1.2.2 (by rw [← e_]; assumption); omega⟩; exact Or.inr q_⟩) (by omega) hw (lv_sub hl [1, 2, 3, 4, 5, 6, 7, 8, 9, 10, 0] rfl)
                                          · refine j_aload_n E 198 rfl dX10_tree_197 rfl (lv_at hl 0 rfl) ?_
                                            refine j_iload E 200 rfl dX10_tree_198 (lv_at hl 10 rfl) ?_
                                            refine j_iload E 202 rfl dX10_tree_200 (lv_at hl 9 rfl) ?_
                                            have t1_ := i_tok gu (by omega) (by omega)
                                            have t2_ := i_tok gw (by omega) (by omega)
                                            refine m_calli E (c_X10_farBetween l D cy q (upN n_0 0 0) (upF (upF (upF (upF (upF f_0 59 y59_c178) 60 y60_c178) 61 y61_c178) 62 y62_c120) 63 y63_c120) gu gw  r_gu r_gw (show 0 ≤ gu ∧ gu < 32 from by omega) (show 0 ≤ gw ∧ gw < 32 from by omega) (show Far_ (y61_c178) from iv178.2.1) (show 0 ≤ (f_0 31 gu) ∧ (f_0 31 gu) ≤ 400 from t1_) (show 0 ≤ (f_0 31 gw) ∧ (f_0 31 gw) ≤ 400 from t2_)) rfl mt_X10_farBetween ml_X10_370 hK hw hA ⟨Nat.le_of_ble_eq_true rfl, Nat.le_of_ble_eq_true rfl⟩ (As := [.int (J gu), .int (J gw)]) (rest := []) rfl rfl hl.1 (Nat.le_of_ble_eq_true rfl) 205 rfl dX10_tree_202 (fun zz42_ n_42 f_42 H locs rr42_ hq42_ hw => ?_)
                                            obtain ⟨y61_42, y59_42, y60_42, en42_, ef42_, hq42_⟩ := hq42_
                                            rw [en42_, ef42_] at hw; clear en42_ ef42_
                                            have hw : WM D cy q (upN n_0 0 0) (upF (upF (upF (upF (upF f_0 59 y59_42) 60 y60_42) 61 y61_42) 62 y62_c120) 63 y63_c120) A0 H0 H locs := hw
                                            have hh42_ : Far_ (y61_42) ∧ 0 ≤ zz42_ ∧ zz42_ ≤ 800 := hq42_
                                            clear hq42_
                                            have hF_ := hh42_.1
                                            refine j_iload E 207 rfl dX10_tree_205 (lv_at hl 8 rfl) ?_
                                            refine j_icmp_lt E 210 213 rfl rr42_ r_gd2 dX10_tree_207 (by decide) (fun cc43_ => ?_) (fun cc43_ => ?_)
                                            · refine j_iload E 215 rfl dX10_tree_213 (lv_at hl 9 rfl) ?_
                                              refine j_istore E 217 rfl [(6, .int (J gw)), (0, .ref (q 0)), (1, .int (J v_set)), (2, .int (J v_what)), (3, .int (J gf)), (4, .int (J gc)), (5, .int (J gn)), (7, .int (J gv2)), (8, .int (J gd2)), (9, .int (J gw)), (10, .int (J gu))] dX10_tree_215 hl (by decide) rfl (fun ls hl => ?_)
                                              refine j_iload E 219 rfl dX10_tree_217 (lv_at hl 10 rfl) ?_
                                              refine j_istore E 221 rfl [(7, .int (J gu)), (6, .int (J gw)), (0, .ref (q 0)), (1, .int (J v_set)), (2, .int (J v_what)), (3, .int (J gf)), (4, .int (J gc)), (5, .int (J gn)), (8, .int (J gd2)), (9, .int (J gw)), (10, .int (J gu))] dX10_tree_219 hl (by decide) rfl (fun ls hl => ?_)
                                              refine j_aload_n E 222 rfl dX10_tree_221 rfl (lv_at hl 2 rfl) ?_
                                              refine j_iload E 224 rfl dX10_tree_222 (lv_at hl 10 rfl) ?_
                                              refine j_iload E 226 rfl dX10_tree_224 (lv_at hl 9 rfl) ?_
                                              have t1_ := i_tok gu (by omega) (by omega)
                                              have t2_ := i_tok gw (by omega) (by omega)
                                              refine m_calli E (c_X10_farBetween l D cy q (upN n_0 0 0) (upF (upF (upF (upF (upF f_0 59 y59_42) 60 y60_42) 61 y61_42) 62 y62_c120) 63 y63_c120) gu gw  r_gu r_gw (show 0 ≤ gu ∧ gu < 32 from by omega) (show 0 ≤ gw ∧ gw < 32 from by omega) (show Far_ (y61_42) from hF_) (show 0 ≤ (f_0 31 gu) ∧ (f_0 31 gu) ≤ 400 from t1_) (show 0 ≤ (f_0 31 gw) ∧ (f_0 31 gw) ≤ 400 from t2_)) rfl mt_X10_farBetween ml_X10_370 hK hw hA ⟨Nat.le_of_ble_eq_true rfl, Nat.le_of_ble_eq_true rfl⟩ (As := [.int (J gu), .int (J gw)]) (rest := []) rfl rfl hl.1 (Nat.le_of_ble_eq_true rfl) 229 rfl dX10_tree_226 (fun zz44_ n_44 f_44 H locs rr44_ hq44_ hw => ?_)
                                              obtain ⟨y61_44, y59_44, y60_44, en44_, ef44_, hq44_⟩ := hq44_
                                              rw [en44_, ef44_] at hw; clear en44_ ef44_
                                              have hw : WM D cy q (upN n_0 0 0) (upF (upF (upF (upF (upF f_0 59 y59_44) 60 y60_44) 61 y61_44) 62 y62_c120) 63 y63_c120) A0 H0 H locs := hw
                                              have hh44_ : Far_ (y61_44) ∧ 0 ≤ zz44_ ∧ zz44_ ≤ 800 := hq44_
                                              clear hq44_
                                              have hF_ := hh44_.1
                                              refine j_istore E 231 rfl [(8, .int (J zz44_)), (7, .int (J gu)), (6, .int (J gw)), (0, .ref (q 0)), (1, .int (J v_set)), (2, .int (J v_what)), (3, .int (J gf)), (4, .int (J gc)), (5, .int (J gn)), (9, .int (J gw)), (10, .int (J gu))] dX10_tree_229 hl (by decide) rfl (fun ls hl => ?_)
                                              refine j_iinc E 234 rfl [(10, .int (J (gu + 1))), (8, .int (J zz44_)), (7, .int (J gu)), (6, .int (J gw)), (0, .ref (q 0)), (1, .int (J v_set)), (2, .int (J v_what)), (3, .int (J gf)), (4, .int (J gc)), (5, .int (J gn)), (9, .int (J gw))] dX10_tree_231 hl (kk := 10) rfl (by decide) rfl (fun ls hl => ?_)
                                              refine j_goto E 178 dX10_tree_234 (by decide) ?_
                                              exact ih178 gw gu zz44_ (gu + 1) y61_44 y59_44 y60_44 H locs ls r_gw r_gu rr44_ (rr (by omega)) (by first | exact ⟨by omega, hF_, Or.inr ⟨⟨by omega, by omega, hq_.elim (fun h => absurd h.1 (by omega)) (fun h => h.2), by assumption⟩, by omega, by omega⟩⟩ | exact ⟨by omega, hF_, by rcases iv178.2.2 with q_ | q_; exact absurd q_.2.1 (by omega); exact Or.inr q_⟩ | exact ⟨by omega, iv178.2.1, by rcases iv178.2.2 with q_ | q_; exact Or.inl ⟨q_.1, q_.2.1, by have n3_ : gu ≠ gf := fun e_ => iv120.2.1.2.2 (by rw [← e_]; assumption); omega⟩; exact Or.inr q_⟩) (by omega) hw (lv_sub hl [4, 5, 6, 7, 8, 9, 3, 2, 1, 10, 0] rfl)
                                            · refine j_goto E 231 dX10_tree_210 (by decide) ?_
                                              refine j_iinc E 234 rfl [(10, .int (J (gu + 1))), (0, .ref (q 0)), (1, .int (J v_set)), (2, .int (J v_what)), (3, .int (J gf)), (4, .int (J gc)), (5, .int (J gn)), (6, .int (J gb2)), (7, .int (J gv2)), (8, .int (J gd2)), (9, .int (J gw))] dX10_tree_231 hl (kk := 10) rfl (by decide) rfl (fun ls hl => ?_)
                                              refine j_goto E 178 dX10_tree_234 (by decide) ?_
                                              exact ih178 gb2 gv2 gd2 (gu + 1) y61_42 y59_42 y60_42 H locs ls r_gb2 r_gv2 r_gd2 (rr (by omega)) (by first | exact ⟨by omega, hF_, Or.inr ⟨⟨by omega, by omega, hq_.elim (fun h => absurd h.1 (by omega)) (fun h => h.2), by assumption⟩, by omega, by omega⟩⟩ | exact ⟨by omega, hF_, by rcases iv178.2.2 with q_ | q_; exact absurd q_.2.1 (by omega); exact Or.inr q_⟩ | exact ⟨by omega, iv178.2.1, by rcases iv178.2.2 with q_ | q_; exact Or.inl ⟨q_.1, q_.2.1, by have n3_ : gu ≠ gf := fun e_ => iv120.2.1.2.2 (by rw [← e_]; assumption); omega⟩; exact Or.inr q_⟩) (by omega) hw (lv_sub hl [1, 2, 3, 4, 5, 6, 7, 8, 9, 10, 0] rfl)
                                    exact L178_37 _ gb gv gd 0 y61_c144 y59_c144 y60_c144 H locs ls r_gb r_gv r_gd (rr (by decide)) (⟨by omega, iv144.2.1, by rcases iv144.2.2 with q_ | q_; exact Or.inl ⟨q_.1, q_.2.1, by omega⟩; exact Or.inr q_⟩) (mk_lt _) hw (lv_sub hl [1, 2, 3, 4, 5, 6, 7, 8, 9, 10, 0] rfl)
                                  · refine j_goto E 237 dX10_tree_172 (by decide) ?_
                                    refine j_iinc E 240 rfl [(9, .int (J (gw + 1))), (0, .ref (q 0)), (1, .int (J v_set)), (2, .int (J v_what)), (3, .int (J gf)), (4, .int (J gc)), (5, .int (J gn)), (6, .int (J gb)), (7, .int (J gv)), (8, .int (J gd))] dX10_tree_237 hl (kk := 9) rfl (by decide) rfl (fun ls hl => ?_)
                                    refine j_goto E 144 dX10_tree_240 (by decide) ?_
                                    exact ih144 gb gv gd (gw + 1) y61_c144 y59_c144 y60_c144 H locs ls r_gb r_gv r_gd (rr (by omega)) (by first | exact ⟨by omega, iv178.2.1, Or.inr (by rcases iv178.2.2 with q_ | q_; exact absurd q_.2.2 (by omega); exact q_)⟩ | exact ⟨by omega, iv144.2.1, by rcases iv144.2.2 with q_ | q_; exact Or.inl ⟨q_.1, q_.2.1, by first | (have n1_ := bt_ne (hq_.elim (fun h => h.2) (fun h => absurd h.1 (by omega))) w3_; omega) | (have n2_ : gw ≠ w0_ := fun e_ => absurd w4_ (by rw [← e_]; assumption); omega)⟩; exact Or.inr q_⟩) (by omega) hw (lv_sub hl [1, 2, 3, 4, 5, 6, 7, 8, 9, 0] rfl)
                          exact L144_25 _ ((-1)) ((-1)) 1000000 0 y61_c120 y59_c120 y60_c120 H locs ls (rr (by decide)) (rr (by decide)) (rr (by decide)) (rr (by decide)) (⟨by omega, iv120.2.2, Or.inl ⟨rfl, rfl, by omega⟩⟩) (mk_lt _) hw (lv_sub hl [4, 5, 6, 7, 8, 9, 3, 2, 1, 0] rfl)
                    exact L120_19 _ 0 1 (upA (y62_c79) gf 1) (upA (f_0 63) gf ((-1))) (f_0 61) (f_0 59) (f_0 60) H locs ls (rr (by decide)) (rr (by decide)) (⟨by omega, Tr_first (fun j h1 h2 => iv79.2.2 j h1 (by omega)) (by omega) hb_, i_far⟩) (mk_lt _) hw (lv_sub hl [2, 3, 4, 5, 1, 0] rfl)
                  · refine j_aload_n E 87 rfl dX10_tree_86 rfl (lv_at hl 0 rfl) ?_
                    refine m_ag_62 E hK hw 90 rfl dX10_tree_87 ?_
                    refine j_iload E 92 rfl dX10_tree_90 (lv_at hl 4 rfl) ?_
                    refine j_iconst E 93 rfl dX10_tree_92 ?_
                    refine m_st_62 E hK hw (by omega) (rr (by decide)) (Or.inl rfl) 94 rfl dX10_tree_93 (fun H locs hw => ?_)
                    have hw : WM D cy q (upN n_0 0 0) (upF f_0 62 (upA (y62_c79) gi 0)) A0 H0 H locs := hw
                    refine j_iinc E 97 rfl [(4, .int (J (gi + 1))), (0, .ref (q 0)), (1, .int (J v_set)), (2, .int (J v_what)), (3, .int (J gf))] dX10_tree_94 hl (kk := 4) rfl (by decide) rfl (fun ls hl => ?_)
                    refine j_goto E 79 dX10_tree_97 (by decide) ?_
                    exact ih79 (gi + 1) (upA (y62_c79) gi 0) H locs ls (rr (by omega)) (⟨by omega, by omega, z0_step iv79.2.2⟩) (by omega) hw (lv_sub hl [1, 2, 3, 4, 0] rfl)
              exact L79_14 _ 0 (f_0 62) H locs ls (rr (by decide)) (⟨by omega, by omega, fun j h1 h2 => absurd h2 (by omega)⟩) (mk_lt _) hw (lv_sub hl [1, 2, 3, 4, 0] rfl)
            · refine j_iload_n E 70 rfl dX10_tree_69 rfl (lv_at hl 3 rfl) ?_
              refine j_iconst E 71 rfl dX10_tree_70 ?_
              refine j_iadd E 72 rfl dX10_tree_71 ?_
              refine j_istore_n E 73 rfl [(3, .int (J (gf + 1))), (0, .ref (q 0)), (1, .int (J v_set)), (2, .int (J v_what))] dX10_tree_72 rfl hl (by decide) rfl (fun ls hl => ?_)
              refine j_goto E 61 dX10_tree_73 (by decide) ?_
              exact ih61 (gf + 1) H locs ls (rr (by omega)) (⟨by omega, by have n0_ := bt_ne (hs_.elim (fun h => h.2) (fun h => absurd h.1 (by omega))) i3_; omega⟩) (by omega) hw (lv_sub hl [1, 2, 3, 0] rfl)
        exact L61_9 _ 0 H locs ls (rr (by decide)) (by omega) (mk_lt _) hw (lv_sub hl [1, 2, 3, 0] rfl)
      refine j_iload_n E 31 rfl dX10_tree_30 rfl (lv_at hl 2 rfl) ?_
      refine j_if_eq E 34 59 rfl r_v_what dX10_tree_31 (by decide) (fun cc46_ => ?_) (fun cc46_ => ?_)
      · exact L59_7  H locs ls  (by omega) hw (lv_sub hl [0, 1, 2] rfl)
      · refine j_aload_n E 35 rfl dX10_tree_34 rfl (lv_at hl 0 rfl) ?_
        refine j_iload_n E 36 rfl dX10_tree_35 rfl (lv_at hl 2 rfl) ?_
        refine j_bipush E 38 rfl dX10_tree_36 (by decide) ?_
        refine j_bipush E 40 rfl dX10_tree_38 (by decide) ?_
        refine m_callp (po := fun z_0 => (z_0 = 1 ∧ (10 : Int) ≤ v_what ∧ v_what ≤ (41 : Int)) ∨ (z_0 = 0 ∧ (v_what < (10 : Int) ∨ (41 : Int) < v_what))) E (c_X10_isIn l D cy q (upN n_0 0 0) (f_0) v_what 10 41  r_v_what (rr (by decide)) (rr (by decide)) ) rfl mt_X10_isIn ml_X10_169 hK hw hA ⟨Nat.le_of_ble_eq_true rfl, Nat.le_of_ble_eq_true rfl⟩ (As := [.int (J v_what), .int (J 10), .int (J 41)]) (rest := []) rfl rfl hl.1 (Nat.le_of_ble_eq_true rfl) 43 rfl dX10_tree_40 (fun zz47_ H locs rr47_ hq47_ hw => ?_)
        have hh47_ : (zz47_ = 1 ∧ (10 : Int) ≤ v_what ∧ v_what ≤ (41 : Int)) ∨ (zz47_ = 0 ∧ (v_what < (10 : Int) ∨ (41 : Int) < v_what)) := hq47_
        clear hq47_
        rcases hh47_ with ⟨ee47_, hh47_⟩ | ⟨ee47_, hh47_⟩
        · subst ee47_
          refine j_if_eq E 46 57 rfl (rr (by decide)) dX10_tree_43 (by decide) (fun cc48_ => absurd cc48_ (by decide)) (fun _ => ?_)
          refine j_iload_n E 47 rfl dX10_tree_46 rfl (lv_at hl 1 rfl) ?_
          refine j_iload_n E 48 rfl dX10_tree_47 rfl (lv_at hl 2 rfl) ?_
          refine j_bipush E 50 rfl dX10_tree_48 (by decide) ?_
          refine j_isub E 51 rfl dX10_tree_50 ?_
          refine j_ishr E 52 rfl dX10_tree_51 (fun zz49_ rr49_ ee49_ => ?_)
          refine j_iconst E 53 rfl dX10_tree_52 ?_
          refine j_iand E 54 rfl dX10_tree_53 (fun zz50_ rr50_ ee50_ => ?_)
          refine j_if_ne E 57 59 rfl rr50_ dX10_tree_54 (by decide) (fun cc51_ => ?_) (fun cc51_ => ?_)
          · exact L59_7  H locs ls  (by omega) hw (lv_sub hl [0, 1, 2] rfl)
          · refine j_iconst E 58 rfl dX10_tree_57 ?_
            exact hret 58 ((-1)) (upN n_0 0 0) (upF (upF (upF (upF (upF f_0 59 (f_0 59)) 60 (f_0 60)) 61 (f_0 61)) 62 (f_0 62)) 63 (f_0 63)) _ _ ls hw (rr (by decide)) ⟨0, (f_0 62), (f_0 63), (f_0 61), (f_0 59), (f_0 60), rfl, rfl, ⟨⟨i_now, i_persons, i_lines, i_wordings, i_taped, i_suits, i_spk, i_fam, i_str, i_said, i_book, i_wds, i_tok, i_cod, (show Far_ (f_0 61) from by first | exact i_far | exact iv120.2.2), i_tap, i_qua, i_sil, i_stz, i_way⟩, trivial⟩⟩ dX10_tree_58
        · subst ee47_
          refine j_if_eq E 46 57 rfl (rr (by decide)) dX10_tree_43 (by decide) (fun _ => ?_) (fun cc52_ => absurd cc52_ (by decide))
          refine j_iconst E 58 rfl dX10_tree_57 ?_
          exact hret 58 ((-1)) (upN n_0 0 0) (upF (upF (upF (upF (upF f_0 59 (f_0 59)) 60 (f_0 60)) 61 (f_0 61)) 62 (f_0 62)) 63 (f_0 63)) _ _ ls hw (rr (by decide)) ⟨0, (f_0 62), (f_0 63), (f_0 61), (f_0 59), (f_0 60), rfl, rfl, ⟨⟨i_now, i_persons, i_lines, i_wordings, i_taped, i_suits, i_spk, i_fam, i_str, i_said, i_book, i_wds, i_tok, i_cod, (show Far_ (f_0 61) from by first | exact i_far | exact iv120.2.2), i_tap, i_qua, i_sil, i_stz, i_way⟩, trivial⟩⟩ dX10_tree_58
    · subst ee5_
      refine j_if_ne E 28 30 rfl (rr (by decide)) dX10_tree_25 (by decide) (fun cc53_ => absurd cc53_ (by decide)) (fun _ => ?_)
      refine j_iconst E 29 rfl dX10_tree_28 ?_
      exact hret 29 ((-1)) (upN n_0 0 0) (upF (upF (upF (upF (upF f_0 59 (f_0 59)) 60 (f_0 60)) 61 (f_0 61)) 62 (f_0 62)) 63 (f_0 63)) _ _ ls hw (rr (by decide)) ⟨0, (f_0 62), (f_0 63), (f_0 61), (f_0 59), (f_0 60), rfl, rfl, ⟨⟨i_now, i_persons, i_lines, i_wordings, i_taped, i_suits, i_spk, i_fam, i_str, i_said, i_book, i_wds, i_tok, i_cod, (show Far_ (f_0 61) from by first | exact i_far | exact iv120.2.2), i_tap, i_qua, i_sil, i_stz, i_way⟩, trivial⟩⟩ dX10_tree_29
  · subst ee2_
    refine j_if_eq E 13 28 rfl (rr (by decide)) dX10_tree_10 (by decide) (fun _ => ?_) (fun cc54_ => absurd cc54_ (by decide))
    refine j_iconst E 29 rfl dX10_tree_28 ?_
    exact hret 29 ((-1)) (upN n_0 0 0) (upF (upF (upF (upF (upF f_0 59 (f_0 59)) 60 (f_0 60)) 61 (f_0 61)) 62 (f_0 62)) 63 (f_0 63)) _ _ ls hw (rr (by decide)) ⟨0, (f_0 62), (f_0 63), (f_0 61), (f_0 59), (f_0 60), rfl, rfl, ⟨⟨i_now, i_persons, i_lines, i_wordings, i_taped, i_suits, i_spk, i_fam, i_str, i_said, i_book, i_wds, i_tok, i_cod, (show Far_ (f_0 61) from by first | exact i_far | exact iv120.2.2), i_tap, i_qua, i_sil, i_stz, i_way⟩, trivial⟩⟩ dX10_tree_29
