
theorem fcf_up {g : Int → Int} {a b c d e : Int} : ∀ i, 0 ≤ i → i ≤ 4 → upA (upA (upA (upA (upA g 0 a) 1 b) 2 c) 3 d) 4 e i = fcf_ a b c d e i := by
  intro i h0 h4
  unfold fcf_
  have q : i = 0 ∨ i = 1 ∨ i = 2 ∨ i = 3 ∨ i = 4 := by omega
  rcases q with rfl | rfl | rfl | rfl | rfl <;> rfl
theorem sk_fin {g : Int → Int} {q q2 : List Int} {c n : Int} (h : Sk_ g q ∧ c + 1 = (q.length : Int)) (e : q2 = q) (hn : n = c + 1) : Sk_ g q2 ∧ n = (q2.length : Int) := by
  subst e
  exact ⟨h.1, by omega⟩
theorem wv_ {F O g : Int → Int} {l z : Int} {s : List Int} {b : Bool} (h : Sk_ g (ers_ F O l s []) ∧ z = g 0) (ty : Tyr_ 23 s [] [b]) : z = vl_ F O l s := by
  rw [(vl_of ty).2] at h
  exact h.2.trans h.1.1
theorem cL_ne {op ar : Int → Int} {lo hi : Int} (h : lo < hi) : cL_ op ar lo hi ≠ [] := by
  unfold cL_
  rw [show (hi - lo).toNat = (hi - lo - 1).toNat + 1 by omega, cs_]
  exact List.append_ne_nil_of_right_ne_nil _ (by simp)
def ow1_ (F O : Int → Int) (l w : Int) (s1 s2 s3 : List Int) : Int := if w = -1 then 0 else own_ F O l s1 s2 s3
theorem ow1_n {F O : Int → Int} {l w : Int} {s1 s2 s3 : List Int} (h : w = -1) : ow1_ F O l w s1 s2 s3 = 0 := if_pos h
theorem ow1_s {F O : Int → Int} {l w : Int} {s1 s2 s3 : List Int} (h : ¬ w = -1) : ow1_ F O l w s1 s2 s3 = own_ F O l s1 s2 s3 := if_neg h
theorem ow1_cg {F O O2 : Int → Int} {l w : Int} {s1 s2 s3 : List Int} (h : ∀ n, 0 ≤ n → n < l → O2 n = O n) : ow1_ F O2 l w s1 s2 s3 = ow1_ F O l w s1 s2 s3 := by
  unfold ow1_
  rw [own_cg h]
theorem ow1_cF {F F2 O : Int → Int} {l w : Int} {s1 s2 s3 : List Int} (h : ∀ i, 0 ≤ i → i ≤ 4 → F2 i = F i) : ow1_ F2 O l w s1 s2 s3 = ow1_ F O l w s1 s2 s3 := by
  unfold ow1_
  rw [own_cF h]
theorem own_wh0 {F O : Int → Int} {l : Int} {s1 s2 s3 : List Int} (h : s2 ≠ []) (h2 : vl_ F O l s2 = 0) : own_ F O l s1 s2 s3 = 0 := if_pos (Or.inl ⟨h, h2⟩)
theorem own_un0 {F O : Int → Int} {l : Int} {s1 s2 s3 : List Int} (h : s3 ≠ []) (h2 : ¬ vl_ F O l s3 = 0) : own_ F O l s1 s2 s3 = 0 := if_pos (Or.inr ⟨h, h2⟩)
theorem own_val {F O : Int → Int} {l : Int} {s1 s2 s3 : List Int} (h : s2 = [] ∨ ¬ vl_ F O l s2 = 0) (h2 : s3 = [] ∨ vl_ F O l s3 = 0) : own_ F O l s1 s2 s3 = cl4_ (vl_ F O l s1) := if_neg (fun q => q.elim (fun q => h.elim q.1 (fun r => r q.2)) (fun q => h2.elim q.1 q.2))
theorem ob_step {F O : Int → Int} {S1 S2 S3 : Int → List Int} {W : Int → Int → Prop} {g z : Int} (h : ∀ y, 0 ≤ y → y < g → ∃ w, W y w ∧ -1 ≤ w ∧ O y = ow1_ F O y w (S1 w) (S2 w) (S3 w)) (h0 : 0 ≤ g) (hz : ∃ w, W g w ∧ -1 ≤ w ∧ z = ow1_ F O g w (S1 w) (S2 w) (S3 w)) : ∀ y, 0 ≤ y → y < g + 1 → ∃ w, W y w ∧ -1 ≤ w ∧ upA O g z y = ow1_ F (upA O g z) y w (S1 w) (S2 w) (S3 w) := by
  intro y h1 h2
  have c : ∀ n, 0 ≤ n → n < y → upA O g z n = O n := fun n _ hn => upA_ne (by omega)
  by_cases e : y = g
  · subst e
    obtain ⟨w, a, b, q⟩ := hz
    exact ⟨w, a, b, by rw [upA_same, ow1_cg c]; exact q⟩
  · obtain ⟨w, a, b, q⟩ := h y h1 (by omega)
    exact ⟨w, a, b, by rw [upA_ne e, ow1_cg c]; exact q⟩

set_option maxHeartbeats 4000000 in
set_option maxRecDepth 100000 in
theorem c_X10_know (l : Launch) (D : va_G) (cy : Nat → ClassId) (q : Nat → Nat) (n_0 : Nat → Int) (f_0 : Nat → Int → Int) (v_p v_x v_w v_by : Int) (r_v_p : inR v_p) (r_v_x : inR v_x) (r_v_w : inR v_w) (r_v_by : inR v_by) (hp0 : MI (n_0) (f_0)) : MC l D cy q yX10_know cX10_know 5 (some .boolean) 2 [.int (J v_p), .int (J v_x), .int (J v_w), .int (J v_by)] n_0 f_0 (PI (fun (z_0 : Int) (n_2 : Nat → Int) (f_2 : Nat → Int → Int) => ∃ (x0_2 : Int) (y19_2 : Int → Int) (y20_2 : Int → Int) (y21_2 : Int → Int) , n_2 = upN n_0 0 x0_2 ∧ f_2 = upF (upF (upF f_0 19 y19_2) 20 y20_2) 21 y21_2 ∧ (MI (upN n_0 0 x0_2) (upF (upF (upF f_0 19 y19_2) 20 y20_2) 21 y21_2) ∧ ((z_0 = 1 ∧ ((0 ≤ v_p ∧ v_p < (n_0 2) ∧ (f_0 6 v_p) = -1) ∧ (0 ≤ v_x ∧ v_x < (n_0 12)) ∧ (0 ≤ v_w ∧ v_w < (n_0 29)) ∧ (1 ≤ v_by ∧ v_by ≤ 9)) ∧ ((y19_2) = upA (f_0 19) (24 * v_p + v_x) v_by ∧ (y20_2) = upA (f_0 20) (24 * v_p + v_x) v_w ∧ (y21_2) = upA (f_0 21) (24 * v_p + v_x) (-1))) ∨ (z_0 = 0 ∧ ¬ ((0 ≤ v_p ∧ v_p < (n_0 2) ∧ (f_0 6 v_p) = -1) ∧ (0 ≤ v_x ∧ v_x < (n_0 12)) ∧ (0 ≤ v_w ∧ v_w < (n_0 29)) ∧ (1 ≤ v_by ∧ v_by ≤ 9)) ∧ ((y19_2) = (f_0 19) ∧ (y20_2) = (f_0 20) ∧ (y21_2) = (f_0 21))))))) := by
  refine MC.ofz rfl (Nat.le_of_ble_eq_true rfl) ?_
  intro p e s m below meth c ls ar QW A0 H0 H locs E hK hA hw hl hret
  have hl : lv_has ls 5 [(0, .ref (q 0)), (1, .int (J v_p)), (2, .int (J v_x)), (3, .int (J v_w)), (4, .int (J v_by))] := hl
  have hp0_ := hp0
  obtain ⟨i_now, i_persons, i_lines, i_wordings, i_taped, i_suits, i_spk, i_fam, i_str, i_said, i_book, i_wds, i_tok, i_cod, i_far, i_tap, i_qua, i_sil, i_stz, i_way⟩ := hp0_
  refine j_aload_n E 1 rfl dX10_know_0 rfl (lv_at hl 0 rfl) ?_
  refine j_iconst E 2 rfl dX10_know_1 ?_
  refine m_put_0 E hK hw (rr (by decide)) 5 rfl dX10_know_2 (fun H locs hw => ?_)
  have hw : WM D cy q (upN n_0 0 0) (f_0) A0 H0 H locs := hw
  refine j_aload_n E 6 rfl dX10_know_5 rfl (lv_at hl 0 rfl) ?_
  refine j_iload_n E 7 rfl dX10_know_6 rfl (lv_at hl 1 rfl) ?_
  refine m_callp (po := fun z_0 => (z_0 = 1 ∧ 0 ≤ v_p ∧ v_p < (n_0 2) ∧ (f_0 6 v_p) = -1) ∨ (z_0 = 0 ∧ ¬ (0 ≤ v_p ∧ v_p < (n_0 2) ∧ (f_0 6 v_p) = -1))) E (c_X10_isLiving l D cy q (upN n_0 0 0) (f_0) v_p  r_v_p (show (n_0 2) ≤ 24 from by omega)) rfl mt_X10_isLiving ml_X10_176 hK hw hA ⟨Nat.le_of_ble_eq_true rfl, Nat.le_of_ble_eq_true rfl⟩ (As := [.int (J v_p)]) (rest := []) rfl rfl hl.1 (Nat.le_of_ble_eq_true rfl) 10 rfl dX10_know_7 (fun zz2_ H locs rr2_ hq2_ hw => ?_)
  have hh2_ : (zz2_ = 1 ∧ 0 ≤ v_p ∧ v_p < (n_0 2) ∧ (f_0 6 v_p) = -1) ∨ (zz2_ = 0 ∧ ¬ (0 ≤ v_p ∧ v_p < (n_0 2) ∧ (f_0 6 v_p) = -1)) := hq2_
  clear hq2_
  rcases hh2_ with ⟨ee2_, hh2_⟩ | ⟨ee2_, hh2_⟩
  · subst ee2_
    refine j_if_eq E 13 41 rfl (rr (by decide)) dX10_know_10 (by decide) (fun cc3_ => absurd cc3_ (by decide)) (fun _ => ?_)
    refine j_aload_n E 14 rfl dX10_know_13 rfl (lv_at hl 0 rfl) ?_
    refine j_iload_n E 15 rfl dX10_know_14 rfl (lv_at hl 2 rfl) ?_
    refine m_callp (po := fun z_0 => (z_0 = 1 ∧ 0 ≤ v_x ∧ v_x < (n_0 12)) ∨ (z_0 = 0 ∧ (v_x < 0 ∨ (n_0 12) ≤ v_x))) E (c_X10_isLine l D cy q (upN n_0 0 0) (f_0) v_x  r_v_x ) rfl mt_X10_isLine ml_X10_188 hK hw hA ⟨Nat.le_of_ble_eq_true rfl, Nat.le_of_ble_eq_true rfl⟩ (As := [.int (J v_x)]) (rest := []) rfl rfl hl.1 (Nat.le_of_ble_eq_true rfl) 18 rfl dX10_know_15 (fun zz4_ H locs rr4_ hq4_ hw => ?_)
    have hh4_ : (zz4_ = 1 ∧ 0 ≤ v_x ∧ v_x < (n_0 12)) ∨ (zz4_ = 0 ∧ (v_x < 0 ∨ (n_0 12) ≤ v_x)) := hq4_
    clear hq4_
    rcases hh4_ with ⟨ee4_, hh4_⟩ | ⟨ee4_, hh4_⟩
    · subst ee4_
      refine j_if_eq E 21 41 rfl (rr (by decide)) dX10_know_18 (by decide) (fun cc5_ => absurd cc5_ (by decide)) (fun _ => ?_)
      refine j_aload_n E 22 rfl dX10_know_21 rfl (lv_at hl 0 rfl) ?_
      refine j_iload_n E 23 rfl dX10_know_22 rfl (lv_at hl 3 rfl) ?_
      refine m_callp (po := fun z_0 => (z_0 = 1 ∧ 0 ≤ v_w ∧ v_w < (n_0 29)) ∨ (z_0 = 0 ∧ (v_w < 0 ∨ (n_0 29) ≤ v_w))) E (c_X10_isWording l D cy q (upN n_0 0 0) (f_0) v_w  r_v_w ) rfl mt_X10_isWording ml_X10_191 hK hw hA ⟨Nat.le_of_ble_eq_true rfl, Nat.le_of_ble_eq_true rfl⟩ (As := [.int (J v_w)]) (rest := []) rfl rfl hl.1 (Nat.le_of_ble_eq_true rfl) 26 rfl dX10_know_23 (fun zz6_ H locs rr6_ hq6_ hw => ?_)
      have hh6_ : (zz6_ = 1 ∧ 0 ≤ v_w ∧ v_w < (n_0 29)) ∨ (zz6_ = 0 ∧ (v_w < 0 ∨ (n_0 29) ≤ v_w)) := hq6_
      clear hq6_
      rcases hh6_ with ⟨ee6_, hh6_⟩ | ⟨ee6_, hh6_⟩
      · subst ee6_
        refine j_if_eq E 29 41 rfl (rr (by decide)) dX10_know_26 (by decide) (fun cc7_ => absurd cc7_ (by decide)) (fun _ => ?_)
        refine j_aload_n E 30 rfl dX10_know_29 rfl (lv_at hl 0 rfl) ?_
        refine j_iload E 32 rfl dX10_know_30 (lv_at hl 4 rfl) ?_
        refine j_iconst E 33 rfl dX10_know_32 ?_
        refine j_bipush E 35 rfl dX10_know_33 (by decide) ?_
        refine m_callp (po := fun z_0 => (z_0 = 1 ∧ (1 : Int) ≤ v_by ∧ v_by ≤ (9 : Int)) ∨ (z_0 = 0 ∧ (v_by < (1 : Int) ∨ (9 : Int) < v_by))) E (c_X10_isIn l D cy q (upN n_0 0 0) (f_0) v_by 1 9  r_v_by (rr (by decide)) (rr (by decide)) ) rfl mt_X10_isIn ml_X10_169 hK hw hA ⟨Nat.le_of_ble_eq_true rfl, Nat.le_of_ble_eq_true rfl⟩ (As := [.int (J v_by), .int (J 1), .int (J 9)]) (rest := []) rfl rfl hl.1 (Nat.le_of_ble_eq_true rfl) 38 rfl dX10_know_35 (fun zz8_ H locs rr8_ hq8_ hw => ?_)
        have hh8_ : (zz8_ = 1 ∧ (1 : Int) ≤ v_by ∧ v_by ≤ (9 : Int)) ∨ (zz8_ = 0 ∧ (v_by < (1 : Int) ∨ (9 : Int) < v_by)) := hq8_
        clear hq8_
        rcases hh8_ with ⟨ee8_, hh8_⟩ | ⟨ee8_, hh8_⟩
        · subst ee8_
          refine j_if_ne E 41 43 rfl (rr (by decide)) dX10_know_38 (by decide) (fun _ => ?_) (fun cc9_ => absurd cc9_ (by decide))
          refine j_aload_n E 44 rfl dX10_know_43 rfl (lv_at hl 0 rfl) ?_
          refine j_iload_n E 45 rfl dX10_know_44 rfl (lv_at hl 1 rfl) ?_
          refine j_iload_n E 46 rfl dX10_know_45 rfl (lv_at hl 2 rfl) ?_
          refine j_iload_n E 47 rfl dX10_know_46 rfl (lv_at hl 3 rfl) ?_
          refine j_iload E 49 rfl dX10_know_47 (lv_at hl 4 rfl) ?_
          refine j_iconst E 50 rfl dX10_know_49 ?_
          refine m_callv E (c_X10_gets l D cy q (upN n_0 0 0) (f_0) v_p v_x v_w v_by ((-1))  r_v_p r_v_x r_v_w r_v_by (rr (by decide)) (show 0 ≤ v_p ∧ v_p < 24 from by omega) (show 0 ≤ v_x ∧ v_x < 24 from by omega)) rfl mt_X10_gets ml_X10_194 hK hw hA ⟨Nat.le_of_ble_eq_true rfl, Nat.le_of_ble_eq_true rfl⟩ (As := [.int (J v_p), .int (J v_x), .int (J v_w), .int (J v_by), .int (J ((-1)))]) (rest := []) rfl rfl hl.1 (Nat.le_of_ble_eq_true rfl) 53 rfl dX10_know_50 (fun n_10 f_10 H locs hq10_ hw => ?_)
          obtain ⟨y19_10, y20_10, y21_10, en10_, ef10_, hq10_⟩ := hq10_
          rw [en10_, ef10_] at hw; clear en10_ ef10_
          have hw : WM D cy q (upN n_0 0 0) (upF (upF (upF f_0 19 y19_10) 20 y20_10) 21 y21_10) A0 H0 H locs := hw
          have hh10_ : (y19_10) = upA (f_0 19) (24 * v_p + v_x) v_by ∧ (y20_10) = upA (f_0 20) (24 * v_p + v_x) v_w ∧ (y21_10) = upA (f_0 21) (24 * v_p + v_x) (-1 : Int) := hq10_
          clear hq10_
          have hu_ : Str_ (y19_10) (y20_10) (n_0 29) := by rw [hh10_.1, hh10_.2.1]; exact Str_upW (Str_up2 i_str) (by omega)
          have hz_ : Stz_ (y19_10) (n_0 2) (n_0 12) := by rw [hh10_.1]; exact Stz_up i_stz (by omega) (by omega) (by omega)
          have hg_ := hh10_
          clear hh10_
          refine j_iconst E 54 rfl dX10_know_53 ?_
          exact hret 54 1 (upN n_0 0 0) (upF (upF (upF f_0 19 y19_10) 20 y20_10) 21 y21_10) _ _ ls hw (Or.inr rfl) ⟨0, y19_10, y20_10, y21_10, rfl, rfl, ⟨⟨i_now, i_persons, i_lines, i_wordings, i_taped, i_suits, i_spk, i_fam, (show Str_ (y19_10) (y20_10) (n_0 29) from hu_), i_said, i_book, i_wds, i_tok, i_cod, i_far, i_tap, i_qua, i_sil, (show Stz_ (y19_10) (n_0 2) (n_0 12) from hz_), i_way⟩, Or.inl ⟨rfl, by omega, hg_⟩⟩⟩ dX10_know_54
        · subst ee8_
          refine j_if_ne E 41 43 rfl (rr (by decide)) dX10_know_38 (by decide) (fun cc11_ => absurd cc11_ (by decide)) (fun _ => ?_)
          refine j_iconst E 42 rfl dX10_know_41 ?_
          exact hret 42 0 (upN n_0 0 0) (upF (upF (upF f_0 19 (f_0 19)) 20 (f_0 20)) 21 (f_0 21)) _ _ ls hw (Or.inl rfl) ⟨0, (f_0 19), (f_0 20), (f_0 21), rfl, rfl, ⟨⟨i_now, i_persons, i_lines, i_wordings, i_taped, i_suits, i_spk, i_fam, i_str, i_said, i_book, i_wds, i_tok, i_cod, i_far, i_tap, i_qua, i_sil, i_stz, i_way⟩, Or.inr ⟨rfl, by omega, rfl, rfl, rfl⟩⟩⟩ dX10_know_42
      · subst ee6_
        refine j_if_eq E 29 41 rfl (rr (by decide)) dX10_know_26 (by decide) (fun _ => ?_) (fun cc12_ => absurd cc12_ (by decide))
        refine j_iconst E 42 rfl dX10_know_41 ?_
        exact hret 42 0 (upN n_0 0 0) (upF (upF (upF f_0 19 (f_0 19)) 20 (f_0 20)) 21 (f_0 21)) _ _ ls hw (Or.inl rfl) ⟨0, (f_0 19), (f_0 20), (f_0 21), rfl, rfl, ⟨⟨i_now, i_persons, i_lines, i_wordings, i_taped, i_suits, i_spk, i_fam, i_str, i_said, i_book, i_wds, i_tok, i_cod, i_far, i_tap, i_qua, i_sil, i_stz, i_way⟩, Or.inr ⟨rfl, by omega, rfl, rfl, rfl⟩⟩⟩ dX10_know_42
    · subst ee4_
      refine j_if_eq E 21 41 rfl (rr (by decide)) dX10_know_18 (by decide) (fun _ => ?_) (fun cc13_ => absurd cc13_ (by decide))
      refine j_iconst E 42 rfl dX10_know_41 ?_
      exact hret 42 0 (upN n_0 0 0) (upF (upF (upF f_0 19 (f_0 19)) 20 (f_0 20)) 21 (f_0 21)) _ _ ls hw (Or.inl rfl) ⟨0, (f_0 19), (f_0 20), (f_0 21), rfl, rfl, ⟨⟨i_now, i_persons, i_lines, i_wordings, i_taped, i_suits, i_spk, i_fam, i_str, i_said, i_book, i_wds, i_tok, i_cod, i_far, i_tap, i_qua, i_sil, i_stz, i_way⟩, Or.inr ⟨rfl, by omega, rfl, rfl, rfl⟩⟩⟩ dX10_know_42
  · subst ee2_
    refine j_if_eq E 13 41 rfl (rr (by decide)) dX10_know_10 (by decide) (fun _ => ?_) (fun cc14_ => absurd cc14_ (by decide))
    refine j_iconst E 42 rfl dX10_know_41 ?_
    exact hret 42 0 (upN n_0 0 0) (upF (upF (upF f_0 19 (f_0 19)) 20 (f_0 20)) 21 (f_0 21)) _ _ ls hw (Or.inl rfl) ⟨0, (f_0 19), (f_0 20), (f_0 21), rfl, rfl, ⟨⟨i_now, i_persons, i_lines, i_wordings, i_taped, i_suits, i_spk, i_fam, i_str, i_said, i_book, i_wds, i_tok, i_cod, i_far, i_tap, i_qua, i_sil, i_stz, i_way⟩, Or.inr ⟨rfl, by omega, rfl, rfl, rfl⟩⟩⟩ dX10_know_42
set_option maxHeartbeats 4000000 in
set_option maxRecDepth 100000 in
theorem c_X10_teach (l : Launch) (D : va_G) (cy : Nat → ClassId) (q : Nat → Nat) (n_0 : Nat → Int) (f_0 : Nat → Int → Int) (v_p v_r v_x : Int) (r_v_p : inR v_p) (r_v_r : inR v_r) (r_v_x : inR v_x) (hp0 : MI (n_0) (f_0)) : MC l D cy q yX10_teach cX10_teach 4 (some .boolean) 2 [.int (J v_p), .int (J v_r), .int (J v_x)] n_0 f_0 (PI (fun (z_0 : Int) (n_2 : Nat → Int) (f_2 : Nat → Int → Int) => ∃ (x0_2 : Int) (y19_2 : Int → Int) (y20_2 : Int → Int) (y21_2 : Int → Int) (y8_2 : Int → Int) , n_2 = upN n_0 0 x0_2 ∧ f_2 = upF (upF (upF (upF f_0 8 y8_2) 19 y19_2) 20 y20_2) 21 y21_2 ∧ (MI (upN n_0 0 x0_2) (upF (upF (upF (upF f_0 8 y8_2) 19 y19_2) 20 y20_2) 21 y21_2) ∧ ((z_0 = 1 ∧ ((0 ≤ v_p ∧ v_p < (n_0 2) ∧ (f_0 6 v_p) = -1) ∧ (0 ≤ v_r ∧ v_r < (n_0 2) ∧ (f_0 6 v_r) = -1) ∧ ¬ v_p = v_r ∧ (0 ≤ v_x ∧ v_x < (n_0 12)) ∧ 0 < (f_0 19 (24 * v_p + v_x)) ∧ ¬ 0 < (f_0 19 (24 * v_r + v_x)) ∧ ¬ (f_0 8 v_r) = (n_0 1)) ∧ ((y19_2) = upA (f_0 19) (24 * v_r + v_x) 4 ∧ (y20_2) = upA (f_0 20) (24 * v_r + v_x) (f_0 20 (24 * v_p + v_x)) ∧ (y21_2) = upA (f_0 21) (24 * v_r + v_x) v_p) ∧ (y8_2) = upA (f_0 8) v_r (n_0 1)) ∨ (z_0 = 0 ∧ ¬ ((0 ≤ v_p ∧ v_p < (n_0 2) ∧ (f_0 6 v_p) = -1) ∧ (0 ≤ v_r ∧ v_r < (n_0 2) ∧ (f_0 6 v_r) = -1) ∧ ¬ v_p = v_r ∧ (0 ≤ v_x ∧ v_x < (n_0 12)) ∧ 0 < (f_0 19 (24 * v_p + v_x)) ∧ ¬ 0 < (f_0 19 (24 * v_r + v_x)) ∧ ¬ (f_0 8 v_r) = (n_0 1)) ∧ ((y19_2) = (f_0 19) ∧ (y20_2) = (f_0 20) ∧ (y21_2) = (f_0 21)) ∧ (y8_2) = (f_0 8)))))) := by
  refine MC.ofz rfl (Nat.le_of_ble_eq_true rfl) ?_
  intro p e s m below meth c ls ar QW A0 H0 H locs E hK hA hw hl hret
  have hl : lv_has ls 4 [(0, .ref (q 0)), (1, .int (J v_p)), (2, .int (J v_r)), (3, .int (J v_x))] := hl
  have hp0_ := hp0
  obtain ⟨i_now, i_persons, i_lines, i_wordings, i_taped, i_suits, i_spk, i_fam, i_str, i_said, i_book, i_wds, i_tok, i_cod, i_far, i_tap, i_qua, i_sil, i_stz, i_way⟩ := hp0_
  refine j_aload_n E 1 rfl dX10_teach_0 rfl (lv_at hl 0 rfl) ?_
  refine j_iconst E 2 rfl dX10_teach_1 ?_
  refine m_put_0 E hK hw (rr (by decide)) 5 rfl dX10_teach_2 (fun H locs hw => ?_)
  have hw : WM D cy q (upN n_0 0 0) (f_0) A0 H0 H locs := hw
  refine j_aload_n E 6 rfl dX10_teach_5 rfl (lv_at hl 0 rfl) ?_
  refine j_iload_n E 7 rfl dX10_teach_6 rfl (lv_at hl 1 rfl) ?_
  refine m_callp (po := fun z_0 => (z_0 = 1 ∧ 0 ≤ v_p ∧ v_p < (n_0 2) ∧ (f_0 6 v_p) = -1) ∨ (z_0 = 0 ∧ ¬ (0 ≤ v_p ∧ v_p < (n_0 2) ∧ (f_0 6 v_p) = -1))) E (c_X10_isLiving l D cy q (upN n_0 0 0) (f_0) v_p  r_v_p (show (n_0 2) ≤ 24 from by omega)) rfl mt_X10_isLiving ml_X10_176 hK hw hA ⟨Nat.le_of_ble_eq_true rfl, Nat.le_of_ble_eq_true rfl⟩ (As := [.int (J v_p)]) (rest := []) rfl rfl hl.1 (Nat.le_of_ble_eq_true rfl) 10 rfl dX10_teach_7 (fun zz2_ H locs rr2_ hq2_ hw => ?_)
  have hh2_ : (zz2_ = 1 ∧ 0 ≤ v_p ∧ v_p < (n_0 2) ∧ (f_0 6 v_p) = -1) ∨ (zz2_ = 0 ∧ ¬ (0 ≤ v_p ∧ v_p < (n_0 2) ∧ (f_0 6 v_p) = -1)) := hq2_
  clear hq2_
  rcases hh2_ with ⟨ee2_, hh2_⟩ | ⟨ee2_, hh2_⟩
  · subst ee2_
    refine j_if_eq E 13 65 rfl (rr (by decide)) dX10_teach_10 (by decide) (fun cc3_ => absurd cc3_ (by decide)) (fun _ => ?_)
    refine j_aload_n E 14 rfl dX10_teach_13 rfl (lv_at hl 0 rfl) ?_
    refine j_iload_n E 15 rfl dX10_teach_14 rfl (lv_at hl 2 rfl) ?_
    refine m_callp (po := fun z_0 => (z_0 = 1 ∧ 0 ≤ v_r ∧ v_r < (n_0 2) ∧ (f_0 6 v_r) = -1) ∨ (z_0 = 0 ∧ ¬ (0 ≤ v_r ∧ v_r < (n_0 2) ∧ (f_0 6 v_r) = -1))) E (c_X10_isLiving l D cy q (upN n_0 0 0) (f_0) v_r  r_v_r (show (n_0 2) ≤ 24 from by omega)) rfl mt_X10_isLiving ml_X10_176 hK hw hA ⟨Nat.le_of_ble_eq_true rfl, Nat.le_of_ble_eq_true rfl⟩ (As := [.int (J v_r)]) (rest := []) rfl rfl hl.1 (Nat.le_of_ble_eq_true rfl) 18 rfl dX10_teach_15 (fun zz4_ H locs rr4_ hq4_ hw => ?_)
    have hh4_ : (zz4_ = 1 ∧ 0 ≤ v_r ∧ v_r < (n_0 2) ∧ (f_0 6 v_r) = -1) ∨ (zz4_ = 0 ∧ ¬ (0 ≤ v_r ∧ v_r < (n_0 2) ∧ (f_0 6 v_r) = -1)) := hq4_
    clear hq4_
    rcases hh4_ with ⟨ee4_, hh4_⟩ | ⟨ee4_, hh4_⟩
    · subst ee4_
      refine j_if_eq E 21 65 rfl (rr (by decide)) dX10_teach_18 (by decide) (fun cc5_ => absurd cc5_ (by decide)) (fun _ => ?_)
      refine j_iload_n E 22 rfl dX10_teach_21 rfl (lv_at hl 1 rfl) ?_
      refine j_iload_n E 23 rfl dX10_teach_22 rfl (lv_at hl 2 rfl) ?_
      refine j_icmp_eq E 26 65 rfl r_v_p r_v_r dX10_teach_23 (by decide) (fun cc6_ => ?_) (fun cc6_ => ?_)
      · refine j_iconst E 66 rfl dX10_teach_65 ?_
        exact hret 66 0 (upN n_0 0 0) (upF (upF (upF (upF f_0 8 (f_0 8)) 19 (f_0 19)) 20 (f_0 20)) 21 (f_0 21)) _ _ ls hw (Or.inl rfl) ⟨0, (f_0 19), (f_0 20), (f_0 21), (f_0 8), rfl, rfl, ⟨⟨i_now, i_persons, i_lines, i_wordings, i_taped, i_suits, i_spk, i_fam, i_str, i_said, i_book, i_wds, i_tok, i_cod, i_far, i_tap, i_qua, i_sil, i_stz, i_way⟩, Or.inr ⟨rfl, by omega, ⟨rfl, rfl, rfl⟩, rfl⟩⟩⟩ dX10_teach_66
      · refine j_aload_n E 27 rfl dX10_teach_26 rfl (lv_at hl 0 rfl) ?_
        refine j_iload_n E 28 rfl dX10_teach_27 rfl (lv_at hl 3 rfl) ?_
        refine m_callp (po := fun z_0 => (z_0 = 1 ∧ 0 ≤ v_x ∧ v_x < (n_0 12)) ∨ (z_0 = 0 ∧ (v_x < 0 ∨ (n_0 12) ≤ v_x))) E (c_X10_isLine l D cy q (upN n_0 0 0) (f_0) v_x  r_v_x ) rfl mt_X10_isLine ml_X10_188 hK hw hA ⟨Nat.le_of_ble_eq_true rfl, Nat.le_of_ble_eq_true rfl⟩ (As := [.int (J v_x)]) (rest := []) rfl rfl hl.1 (Nat.le_of_ble_eq_true rfl) 31 rfl dX10_teach_28 (fun zz7_ H locs rr7_ hq7_ hw => ?_)
        have hh7_ : (zz7_ = 1 ∧ 0 ≤ v_x ∧ v_x < (n_0 12)) ∨ (zz7_ = 0 ∧ (v_x < 0 ∨ (n_0 12) ≤ v_x)) := hq7_
        clear hq7_
        rcases hh7_ with ⟨ee7_, hh7_⟩ | ⟨ee7_, hh7_⟩
        · subst ee7_
          refine j_if_eq E 34 65 rfl (rr (by decide)) dX10_teach_31 (by decide) (fun cc8_ => absurd cc8_ (by decide)) (fun _ => ?_)
          refine j_aload_n E 35 rfl dX10_teach_34 rfl (lv_at hl 0 rfl) ?_
          refine j_iload_n E 36 rfl dX10_teach_35 rfl (lv_at hl 1 rfl) ?_
          refine j_iload_n E 37 rfl dX10_teach_36 rfl (lv_at hl 3 rfl) ?_
          refine m_callp (po := fun z_0 => (z_0 = 1 ∧ 0 < (f_0 19 (24 * v_p + v_x))) ∨ (z_0 = 0 ∧ ¬ (0 < (f_0 19 (24 * v_p + v_x))))) E (c_X10_hasLine l D cy q (upN n_0 0 0) (f_0) v_p v_x  r_v_p r_v_x (show 0 ≤ v_p ∧ v_p < 24 from by omega) (show 0 ≤ v_x ∧ v_x < 24 from by omega)) rfl mt_X10_hasLine ml_X10_198 hK hw hA ⟨Nat.le_of_ble_eq_true rfl, Nat.le_of_ble_eq_true rfl⟩ (As := [.int (J v_p), .int (J v_x)]) (rest := []) rfl rfl hl.1 (Nat.le_of_ble_eq_true rfl) 40 rfl dX10_teach_37 (fun zz9_ H locs rr9_ hq9_ hw => ?_)
          have hh9_ : (zz9_ = 1 ∧ 0 < (f_0 19 (24 * v_p + v_x))) ∨ (zz9_ = 0 ∧ ¬ (0 < (f_0 19 (24 * v_p + v_x)))) := hq9_
          clear hq9_
          rcases hh9_ with ⟨ee9_, hh9_⟩ | ⟨ee9_, hh9_⟩
          · subst ee9_
            refine j_if_eq E 43 65 rfl (rr (by decide)) dX10_teach_40 (by decide) (fun cc10_ => absurd cc10_ (by decide)) (fun _ => ?_)
            refine j_aload_n E 44 rfl dX10_teach_43 rfl (lv_at hl 0 rfl) ?_
            refine j_iload_n E 45 rfl dX10_teach_44 rfl (lv_at hl 2 rfl) ?_
            refine j_iload_n E 46 rfl dX10_teach_45 rfl (lv_at hl 3 rfl) ?_
            refine m_callp (po := fun z_0 => (z_0 = 1 ∧ 0 < (f_0 19 (24 * v_r + v_x))) ∨ (z_0 = 0 ∧ ¬ (0 < (f_0 19 (24 * v_r + v_x))))) E (c_X10_hasLine l D cy q (upN n_0 0 0) (f_0) v_r v_x  r_v_r r_v_x (show 0 ≤ v_r ∧ v_r < 24 from by omega) (show 0 ≤ v_x ∧ v_x < 24 from by omega)) rfl mt_X10_hasLine ml_X10_198 hK hw hA ⟨Nat.le_of_ble_eq_true rfl, Nat.le_of_ble_eq_true rfl⟩ (As := [.int (J v_r), .int (J v_x)]) (rest := []) rfl rfl hl.1 (Nat.le_of_ble_eq_true rfl) 49 rfl dX10_teach_46 (fun zz11_ H locs rr11_ hq11_ hw => ?_)
            have hh11_ : (zz11_ = 1 ∧ 0 < (f_0 19 (24 * v_r + v_x))) ∨ (zz11_ = 0 ∧ ¬ (0 < (f_0 19 (24 * v_r + v_x)))) := hq11_
            clear hq11_
            rcases hh11_ with ⟨ee11_, hh11_⟩ | ⟨ee11_, hh11_⟩
            · subst ee11_
              refine j_if_ne E 52 65 rfl (rr (by decide)) dX10_teach_49 (by decide) (fun _ => ?_) (fun cc12_ => absurd cc12_ (by decide))
              refine j_iconst E 66 rfl dX10_teach_65 ?_
              exact hret 66 0 (upN n_0 0 0) (upF (upF (upF (upF f_0 8 (f_0 8)) 19 (f_0 19)) 20 (f_0 20)) 21 (f_0 21)) _ _ ls hw (Or.inl rfl) ⟨0, (f_0 19), (f_0 20), (f_0 21), (f_0 8), rfl, rfl, ⟨⟨i_now, i_persons, i_lines, i_wordings, i_taped, i_suits, i_spk, i_fam, i_str, i_said, i_book, i_wds, i_tok, i_cod, i_far, i_tap, i_qua, i_sil, i_stz, i_way⟩, Or.inr ⟨rfl, by omega, ⟨rfl, rfl, rfl⟩, rfl⟩⟩⟩ dX10_teach_66
            · subst ee11_
              refine j_if_ne E 52 65 rfl (rr (by decide)) dX10_teach_49 (by decide) (fun cc13_ => absurd cc13_ (by decide)) (fun _ => ?_)
              refine j_aload_n E 53 rfl dX10_teach_52 rfl (lv_at hl 0 rfl) ?_
              refine m_ag_8 E hK hw 56 rfl dX10_teach_53 ?_
              refine j_iload_n E 57 rfl dX10_teach_56 rfl (lv_at hl 2 rfl) ?_
              refine m_ld_8 E hK hw (f_0 8 v_r) rfl (by omega) 58 rfl dX10_teach_57 (fun rr14_ => ?_)
              refine j_aload_n E 59 rfl dX10_teach_58 rfl (lv_at hl 0 rfl) ?_
              refine m_get_1 E hK hw (n_0 1) rfl 62 rfl dX10_teach_59 (fun rr15_ => ?_)
              refine j_icmp_ne E 65 67 rfl rr14_ rr15_ dX10_teach_62 (by decide) (fun cc16_ => ?_) (fun cc16_ => ?_)
              · refine j_aload_n E 68 rfl dX10_teach_67 rfl (lv_at hl 0 rfl) ?_
                refine j_iload_n E 69 rfl dX10_teach_68 rfl (lv_at hl 2 rfl) ?_
                refine j_iload_n E 70 rfl dX10_teach_69 rfl (lv_at hl 3 rfl) ?_
                refine j_aload_n E 71 rfl dX10_teach_70 rfl (lv_at hl 0 rfl) ?_
                refine m_ag_20 E hK hw 74 rfl dX10_teach_71 ?_
                refine j_bipush E 76 rfl dX10_teach_74 (by decide) ?_
                refine j_iload_n E 77 rfl dX10_teach_76 rfl (lv_at hl 1 rfl) ?_
                refine j_imul E 78 rfl dX10_teach_77 ?_
                refine j_iload_n E 79 rfl dX10_teach_78 rfl (lv_at hl 3 rfl) ?_
                refine j_iadd E 80 rfl dX10_teach_79 ?_
                refine m_ld_20 E hK hw (f_0 20 ((24 * v_p) + v_x)) rfl (by omega) 81 rfl dX10_teach_80 (fun rr17_ => ?_)
                refine j_iconst E 82 rfl dX10_teach_81 ?_
                refine j_iload_n E 83 rfl dX10_teach_82 rfl (lv_at hl 1 rfl) ?_
                have hs_ := i_str (24 * v_p + v_x) (by omega)
                refine m_callv E (c_X10_gets l D cy q (upN n_0 0 0) (f_0) v_r v_x (f_0 20 ((24 * v_p) + v_x)) 4 v_p  r_v_r r_v_x rr17_ (rr (by decide)) r_v_p (show 0 ≤ v_r ∧ v_r < 24 from by omega) (show 0 ≤ v_x ∧ v_x < 24 from by omega)) rfl mt_X10_gets ml_X10_194 hK hw hA ⟨Nat.le_of_ble_eq_true rfl, Nat.le_of_ble_eq_true rfl⟩ (As := [.int (J v_r), .int (J v_x), .int (J (f_0 20 ((24 * v_p) + v_x))), .int (J 4), .int (J v_p)]) (rest := []) rfl rfl hl.1 (Nat.le_of_ble_eq_true rfl) 86 rfl dX10_teach_83 (fun n_18 f_18 H locs hq18_ hw => ?_)
                obtain ⟨y19_18, y20_18, y21_18, en18_, ef18_, hq18_⟩ := hq18_
                rw [en18_, ef18_] at hw; clear en18_ ef18_
                have hw : WM D cy q (upN n_0 0 0) (upF (upF (upF f_0 19 y19_18) 20 y20_18) 21 y21_18) A0 H0 H locs := hw
                have hh18_ : (y19_18) = upA (f_0 19) (24 * v_r + v_x) (4 : Int) ∧ (y20_18) = upA (f_0 20) (24 * v_r + v_x) (f_0 20 ((24 * v_p) + v_x)) ∧ (y21_18) = upA (f_0 21) (24 * v_r + v_x) v_p := hq18_
                clear hq18_
                have hu_ : Str_ (y19_18) (y20_18) (n_0 29) := by rw [hh18_.1, hh18_.2.1]; exact Str_upW (Str_up2 i_str) (by omega)
                have hz_ : Stz_ (y19_18) (n_0 2) (n_0 12) := by rw [hh18_.1]; exact Stz_up i_stz (by omega) (by omega) (by omega)
                have hg_ := hh18_
                clear hh18_
                refine j_aload_n E 87 rfl dX10_teach_86 rfl (lv_at hl 0 rfl) ?_
                refine m_ag_8 E hK hw 90 rfl dX10_teach_87 ?_
                refine j_iload_n E 91 rfl dX10_teach_90 rfl (lv_at hl 2 rfl) ?_
                refine j_aload_n E 92 rfl dX10_teach_91 rfl (lv_at hl 0 rfl) ?_
                refine m_get_1 E hK hw (n_0 1) rfl 95 rfl dX10_teach_92 (fun _ => ?_)
                refine m_st_8 E hK hw (by omega) rr15_ 96 rfl dX10_teach_95 (fun H locs hw => ?_)
                have hw : WM D cy q (upN n_0 0 0) (upF (upF (upF (upF f_0 8 (upA (f_0 8) v_r (n_0 1))) 19 y19_18) 20 y20_18) 21 y21_18) A0 H0 H locs := hw
                refine j_iconst E 97 rfl dX10_teach_96 ?_
                exact hret 97 1 (upN n_0 0 0) (upF (upF (upF (upF f_0 8 (upA (f_0 8) v_r (n_0 1))) 19 y19_18) 20 y20_18) 21 y21_18) _ _ ls hw (Or.inr rfl) ⟨0, y19_18, y20_18, y21_18, (upA (f_0 8) v_r (n_0 1)), rfl, rfl, ⟨⟨i_now, i_persons, i_lines, i_wordings, i_taped, i_suits, i_spk, i_fam, (show Str_ (y19_18) (y20_18) (n_0 29) from hu_), i_said, i_book, i_wds, i_tok, i_cod, i_far, i_tap, i_qua, i_sil, (show Stz_ (y19_18) (n_0 2) (n_0 12) from hz_), i_way⟩, Or.inl ⟨rfl, by omega, hg_, rfl⟩⟩⟩ dX10_teach_97
              · refine j_iconst E 66 rfl dX10_teach_65 ?_
                exact hret 66 0 (upN n_0 0 0) (upF (upF (upF (upF f_0 8 (f_0 8)) 19 (f_0 19)) 20 (f_0 20)) 21 (f_0 21)) _ _ ls hw (Or.inl rfl) ⟨0, (f_0 19), (f_0 20), (f_0 21), (f_0 8), rfl, rfl, ⟨⟨i_now, i_persons, i_lines, i_wordings, i_taped, i_suits, i_spk, i_fam, i_str, i_said, i_book, i_wds, i_tok, i_cod, i_far, i_tap, i_qua, i_sil, i_stz, i_way⟩, Or.inr ⟨rfl, by omega, ⟨rfl, rfl, rfl⟩, rfl⟩⟩⟩ dX10_teach_66
          · subst ee9_
            refine j_if_eq E 43 65 rfl (rr (by decide)) dX10_teach_40 (by decide) (fun _ => ?_) (fun cc20_ => absurd cc20_ (by decide))
            refine j_iconst E 66 rfl dX10_teach_65 ?_
            exact hret 66 0 (upN n_0 0 0) (upF (upF (upF (upF f_0 8 (f_0 8)) 19 (f_0 19)) 20 (f_0 20)) 21 (f_0 21)) _ _ ls hw (Or.inl rfl) ⟨0, (f_0 19), (f_0 20), (f_0 21), (f_0 8), rfl, rfl, ⟨⟨i_now, i_persons, i_lines, i_wordings, i_taped, i_suits, i_spk, i_fam, i_str, i_said, i_book, i_wds, i_tok, i_cod, i_far, i_tap, i_qua, i_sil, i_stz, i_way⟩, Or.inr ⟨rfl, by omega, ⟨rfl, rfl, rfl⟩, rfl⟩⟩⟩ dX10_teach_66
        · subst ee7_
          refine j_if_eq E 34 65 rfl (rr (by decide)) dX10_teach_31 (by decide) (fun _ => ?_) (fun cc21_ => absurd cc21_ (by decide))
          refine j_iconst E 66 rfl dX10_teach_65 ?_
          exact hret 66 0 (upN n_0 0 0) (upF (upF (upF (upF f_0 8 (f_0 8)) 19 (f_0 19)) 20 (f_0 20)) 21 (f_0 21)) _ _ ls hw (Or.inl rfl) ⟨0, (f_0 19), (f_0 20), (f_0 21), (f_0 8), rfl, rfl, ⟨⟨i_now, i_persons, i_lines, i_wordings, i_taped, i_suits, i_spk, i_fam, i_str, i_said, i_book, i_wds, i_tok, i_cod, i_far, i_tap, i_qua, i_sil, i_stz, i_way⟩, Or.inr ⟨rfl, by omega, ⟨rfl, rfl, rfl⟩, rfl⟩⟩⟩ dX10_teach_66
    · subst ee4_
      refine j_if_eq E 21 65 rfl (rr (by decide)) dX10_teach_18 (by decide) (fun _ => ?_) (fun cc22_ => absurd cc22_ (by decide))
      refine j_iconst E 66 rfl dX10_teach_65 ?_
      exact hret 66 0 (upN n_0 0 0) (upF (upF (upF (upF f_0 8 (f_0 8)) 19 (f_0 19)) 20 (f_0 20)) 21 (f_0 21)) _ _ ls hw (Or.inl rfl) ⟨0, (f_0 19), (f_0 20), (f_0 21), (f_0 8), rfl, rfl, ⟨⟨i_now, i_persons, i_lines, i_wordings, i_taped, i_suits, i_spk, i_fam, i_str, i_said, i_book, i_wds, i_tok, i_cod, i_far, i_tap, i_qua, i_sil, i_stz, i_way⟩, Or.inr ⟨rfl, by omega, ⟨rfl, rfl, rfl⟩, rfl⟩⟩⟩ dX10_teach_66
  · subst ee2_
    refine j_if_eq E 13 65 rfl (rr (by decide)) dX10_teach_10 (by decide) (fun _ => ?_) (fun cc23_ => absurd cc23_ (by decide))
    refine j_iconst E 66 rfl dX10_teach_65 ?_
    exact hret 66 0 (upN n_0 0 0) (upF (upF (upF (upF f_0 8 (f_0 8)) 19 (f_0 19)) 20 (f_0 20)) 21 (f_0 21)) _ _ ls hw (Or.inl rfl) ⟨0, (f_0 19), (f_0 20), (f_0 21), (f_0 8), rfl, rfl, ⟨⟨i_now, i_persons, i_lines, i_wordings, i_taped, i_suits, i_spk, i_fam, i_str, i_said, i_book, i_wds, i_tok, i_cod, i_far, i_tap, i_qua, i_sil, i_stz, i_way⟩, Or.inr ⟨rfl, by omega, ⟨rfl, rfl, rfl⟩, rfl⟩⟩⟩ dX10_teach_66
set_option maxHeartbeats 4000000 in
set_option maxRecDepth 100000 in
theorem c_X10_look (l : Launch) (D : va_G) (cy : Nat → ClassId) (q : Nat → Nat) (n_0 : Nat → Int) (f_0 : Nat → Int → Int) (v_what : Int) (r_v_what : inR v_what) (hp0 : MI (n_0) (f_0)) : MC l D cy q yX10_look cX10_look 4 (some .int) 3 [.int (J v_what)] n_0 f_0 (PI (fun (z_0 : Int) (n_2 : Nat → Int) (f_2 : Nat → Int → Int) => ∃ (x0_2 : Int) , n_2 = upN n_0 0 x0_2 ∧ f_2 = f_0 ∧ (MI (upN n_0 0 x0_2) (f_0) ∧ (Lk_ v_what (n_0 1) (n_0 2) (nq_ (fun p_ => (f_0 6 p_) = -1) ((n_0 2)).toNat) (n_0 12) (nq_ (fun l_ => ¬ (f_0 16 l_) = -1) ((n_0 12)).toNat) (n_0 29) (n_0 48) (n_0 10) (n_0 11) (nq_ (fun p_ => (f_0 6 p_) = -1 ∧ Ou_ (n_0 48) (f_0 50) (f_0 52) (f_0 54) (f_0 53) (n_0 1) p_) ((n_0 2)).toNat) (nq_ (fun l_ => ¬ (f_0 67 l_) = -1) ((n_0 12)).toNat) z_0)))) := by
  refine MC.ofi rfl (Nat.le_of_ble_eq_true rfl) ?_
  intro p e s m below meth c ls ar QW A0 H0 H locs E hK hA hw hl hret
  have hl : lv_has ls 4 [(0, .ref (q 0)), (1, .int (J v_what))] := hl
  have hp0_ := hp0
  obtain ⟨i_now, i_persons, i_lines, i_wordings, i_taped, i_suits, i_spk, i_fam, i_str, i_said, i_book, i_wds, i_tok, i_cod, i_far, i_tap, i_qua, i_sil, i_stz, i_way⟩ := hp0_
  refine j_aload_n E 1 rfl dX10_look_0 rfl (lv_at hl 0 rfl) ?_
  refine j_iconst E 2 rfl dX10_look_1 ?_
  refine m_put_0 E hK hw (rr (by decide)) 5 rfl dX10_look_2 (fun H locs hw => ?_)
  have hw : WM D cy q (upN n_0 0 0) (f_0) A0 H0 H locs := hw
  refine j_iconst E 6 rfl dX10_look_5 ?_
  refine j_istore_n E 7 rfl [(2, .int (J 0)), (0, .ref (q 0)), (1, .int (J v_what))] dX10_look_6 rfl hl (by decide) rfl (fun ls hl => ?_)
  refine j_iload_n E 8 rfl dX10_look_7 rfl (lv_at hl 2 rfl) ?_
  refine j_if_ne E 11 16 rfl r_v_what dX10_look_8 (by decide) (fun cc2_ => ?_) (fun cc2_ => ?_)
  · refine j_iload_n E 17 rfl dX10_look_16 rfl (lv_at hl 2 rfl) ?_
    refine j_iconst E 18 rfl dX10_look_17 ?_
    refine j_icmp_ne E 21 26 rfl r_v_what (rr (by decide)) dX10_look_18 (by decide) (fun cc3_ => ?_) (fun cc3_ => ?_)
    · refine j_iload_n E 27 rfl dX10_look_26 rfl (lv_at hl 2 rfl) ?_
      refine j_iconst E 28 rfl dX10_look_27 ?_
      refine j_icmp_ne E 31 36 rfl r_v_what (rr (by decide)) dX10_look_28 (by decide) (fun cc4_ => ?_) (fun cc4_ => ?_)
      · refine j_iload_n E 37 rfl dX10_look_36 rfl (lv_at hl 2 rfl) ?_
        refine j_iconst E 38 rfl dX10_look_37 ?_
        refine j_icmp_ne E 41 46 rfl r_v_what (rr (by decide)) dX10_look_38 (by decide) (fun cc5_ => ?_) (fun cc5_ => ?_)
        · refine j_iload_n E 47 rfl dX10_look_46 rfl (lv_at hl 2 rfl) ?_
          refine j_bipush E 49 rfl dX10_look_47 (by decide) ?_
          refine j_icmp_ne E 52 57 rfl r_v_what (rr (by decide)) dX10_look_49 (by decide) (fun cc6_ => ?_) (fun cc6_ => ?_)
          · refine j_iload_n E 58 rfl dX10_look_57 rfl (lv_at hl 2 rfl) ?_
            refine j_bipush E 60 rfl dX10_look_58 (by decide) ?_
            refine j_icmp_ne E 63 68 rfl r_v_what (rr (by decide)) dX10_look_60 (by decide) (fun cc7_ => ?_) (fun cc7_ => ?_)
            · refine j_iload_n E 69 rfl dX10_look_68 rfl (lv_at hl 2 rfl) ?_
              refine j_bipush E 71 rfl dX10_look_69 (by decide) ?_
              refine j_icmp_ne E 74 79 rfl r_v_what (rr (by decide)) dX10_look_71 (by decide) (fun cc8_ => ?_) (fun cc8_ => ?_)
              · have L92_9 : ∀ (k92 : Nat) (gc gi : Int) (H : Heap) (locs : List Loc) (ls : Array Slot), inR gc → inR gi → (0 ≤ gi ∧ gi ≤ 24 ∧ (0 ≤ gc ∧ gc ≤ gi) ∧ gi ≤ (n_0 12) ∧ ((v_what = 4 ∧ gc = nq_ (fun l_ => ¬ (f_0 16 l_) = -1) (gi).toNat) ∨ (v_what = 10 ∧ gc = nq_ (fun l_ => ¬ (f_0 67 l_) = -1) (gi).toNat))) → (24 - gi) < (k92 : Int) → WM D cy q (upN n_0 0 0) (f_0) A0 H0 H locs → lv_has ls 4 [(0, .ref (q 0)), (1, .int (J v_what)), (2, .int (J gc)), (3, .int (J gi))] → W p l e (rmd 3 0 0) s m ar below meth c H locs 0 0 QW (F0 m 92 ls []) := by
                  intro k92
                  induction k92 with
                  | zero =>
                    intro gc gi H locs ls r_gc r_gi iv92 ms92 hw hl
                    exfalso; omega
                  | succ k92 ih92 =>
                    intro gc gi H locs ls r_gc r_gi iv92 ms92 hw hl
                    refine j_iload_n E 93 rfl dX10_look_92 rfl (lv_at hl 3 rfl) ?_
                    refine j_aload_n E 94 rfl dX10_look_93 rfl (lv_at hl 0 rfl) ?_
                    refine m_get_12 E hK hw (n_0 12) rfl 97 rfl dX10_look_94 (fun rr11_ => ?_)
                    refine j_icmp_ge E 100 138 rfl r_gi rr11_ dX10_look_97 (by decide) (fun cc12_ => ?_) (fun cc12_ => ?_)
                    · refine j_iload_n E 139 rfl dX10_look_138 rfl (lv_at hl 2 rfl) ?_
                      exact hret 139 gc (upN n_0 0 0) (f_0) _ _ ls hw r_gc ⟨0, rfl, rfl, ⟨⟨i_now, i_persons, i_lines, i_wordings, i_taped, i_suits, i_spk, i_fam, i_str, i_said, i_book, i_wds, i_tok, i_cod, i_far, i_tap, i_qua, i_sil, i_stz, i_way⟩, (by rw [show ((n_0 12)).toNat = (gi).toNat by omega]; rcases iv92.2.2.2.2 with ⟨q1_, q2_⟩ | ⟨q1_, q2_⟩; exact Or.inr (Or.inr (Or.inr (Or.inr (Or.inl ⟨by omega, q2_⟩)))); exact Or.inr (Or.inr (Or.inr (Or.inr (Or.inr (Or.inr (Or.inr (Or.inr (Or.inr (Or.inr (Or.inl ⟨by omega, q2_⟩)))))))))))⟩⟩ dX10_look_139
                    · refine j_iload_n E 101 rfl dX10_look_100 rfl (lv_at hl 1 rfl) ?_
                      refine j_iconst E 102 rfl dX10_look_101 ?_
                      refine j_icmp_ne E 105 118 rfl r_v_what (rr (by decide)) dX10_look_102 (by decide) (fun cc13_ => ?_) (fun cc13_ => ?_)
                      · refine j_aload_n E 119 rfl dX10_look_118 rfl (lv_at hl 0 rfl) ?_
                        refine m_ag_67 E hK hw 122 rfl dX10_look_119 ?_
                        refine j_iload_n E 123 rfl dX10_look_122 rfl (lv_at hl 3 rfl) ?_
                        refine m_ld_67 E hK hw (f_0 67 gi) rfl (by omega) 124 rfl dX10_look_123 (fun rr14_ => ?_)
                        refine j_iconst E 125 rfl dX10_look_124 ?_
                        refine j_icmp_eq E 128 132 rfl rr14_ (rr (by decide)) dX10_look_125 (by decide) (fun cc15_ => ?_) (fun cc15_ => ?_)
                        · refine j_iinc E 135 rfl [(3, .int (J (gi + 1))), (0, .ref (q 0)), (1, .int (J v_what)), (2, .int (J gc))] dX10_look_132 hl (kk := 3) rfl (by decide) rfl (fun ls hl => ?_)
                          refine j_goto E 92 dX10_look_135 (by decide) ?_
                          exact ih92 gc (gi + 1) H locs ls r_gc (rr (by omega)) (⟨by omega, by omega, by omega, by omega, (by rcases iv92.2.2.2.2 with ⟨q1_, q2_⟩ | ⟨q1_, q2_⟩; (first | exact Or.inl ⟨q1_, nq_y q2_ (by omega) (show ¬ (f_0 16 gi) = -1 from by omega)⟩ | exact Or.inl ⟨q1_, nq_n q2_ (by omega) (show ¬ ¬ (f_0 16 gi) = -1 from by omega)⟩ | (exfalso; omega)); (first | exact Or.inr ⟨q1_, nq_y q2_ (by omega) (show ¬ (f_0 67 gi) = -1 from by omega)⟩ | exact Or.inr ⟨q1_, nq_n q2_ (by omega) (show ¬ ¬ (f_0 67 gi) = -1 from by omega)⟩ | (exfalso; omega)))⟩) (by omega) hw (lv_sub hl [1, 2, 3, 0] rfl)
                        · refine j_iload_n E 129 rfl dX10_look_128 rfl (lv_at hl 2 rfl) ?_
                          refine j_iconst E 130 rfl dX10_look_129 ?_
                          refine j_iadd E 131 rfl dX10_look_130 ?_
                          refine j_istore_n E 132 rfl [(2, .int (J (gc + 1))), (0, .ref (q 0)), (1, .int (J v_what)), (3, .int (J gi))] dX10_look_131 rfl hl (by decide) rfl (fun ls hl => ?_)
                          refine j_iinc E 135 rfl [(3, .int (J (gi + 1))), (2, .int (J (gc + 1))), (0, .ref (q 0)), (1, .int (J v_what))] dX10_look_132 hl (kk := 3) rfl (by decide) rfl (fun ls hl => ?_)
                          refine j_goto E 92 dX10_look_135 (by decide) ?_
                          exact ih92 (gc + 1) (gi + 1) H locs ls (rr (by omega)) (rr (by omega)) (⟨by omega, by omega, by omega, by omega, (by rcases iv92.2.2.2.2 with ⟨q1_, q2_⟩ | ⟨q1_, q2_⟩; (first | exact Or.inl ⟨q1_, nq_y q2_ (by omega) (show ¬ (f_0 16 gi) = -1 from by omega)⟩ | exact Or.inl ⟨q1_, nq_n q2_ (by omega) (show ¬ ¬ (f_0 16 gi) = -1 from by omega)⟩ | (exfalso; omega)); (first | exact Or.inr ⟨q1_, nq_y q2_ (by omega) (show ¬ (f_0 67 gi) = -1 from by omega)⟩ | exact Or.inr ⟨q1_, nq_n q2_ (by omega) (show ¬ ¬ (f_0 67 gi) = -1 from by omega)⟩ | (exfalso; omega)))⟩) (by omega) hw (lv_sub hl [2, 3, 1, 0] rfl)
                      · refine j_aload_n E 106 rfl dX10_look_105 rfl (lv_at hl 0 rfl) ?_
                        refine m_ag_16 E hK hw 109 rfl dX10_look_106 ?_
                        refine j_iload_n E 110 rfl dX10_look_109 rfl (lv_at hl 3 rfl) ?_
                        refine m_ld_16 E hK hw (f_0 16 gi) rfl (by omega) 111 rfl dX10_look_110 (fun rr16_ => ?_)
                        refine j_iconst E 112 rfl dX10_look_111 ?_
                        refine j_icmp_eq E 115 132 rfl rr16_ (rr (by decide)) dX10_look_112 (by decide) (fun cc17_ => ?_) (fun cc17_ => ?_)
                        · refine j_iinc E 135 rfl [(3, .int (J (gi + 1))), (0, .ref (q 0)), (1, .int (J v_what)), (2, .int (J gc))] dX10_look_132 hl (kk := 3) rfl (by decide) rfl (fun ls hl => ?_)
                          refine j_goto E 92 dX10_look_135 (by decide) ?_
                          exact ih92 gc (gi + 1) H locs ls r_gc (rr (by omega)) (⟨by omega, by omega, by omega, by omega, (by rcases iv92.2.2.2.2 with ⟨q1_, q2_⟩ | ⟨q1_, q2_⟩; (first | exact Or.inl ⟨q1_, nq_y q2_ (by omega) (show ¬ (f_0 16 gi) = -1 from by omega)⟩ | exact Or.inl ⟨q1_, nq_n q2_ (by omega) (show ¬ ¬ (f_0 16 gi) = -1 from by omega)⟩ | (exfalso; omega)); (first | exact Or.inr ⟨q1_, nq_y q2_ (by omega) (show ¬ (f_0 67 gi) = -1 from by omega)⟩ | exact Or.inr ⟨q1_, nq_n q2_ (by omega) (show ¬ ¬ (f_0 67 gi) = -1 from by omega)⟩ | (exfalso; omega)))⟩) (by omega) hw (lv_sub hl [1, 2, 3, 0] rfl)
                        · refine j_goto E 128 dX10_look_115 (by decide) ?_
                          refine j_iload_n E 129 rfl dX10_look_128 rfl (lv_at hl 2 rfl) ?_
                          refine j_iconst E 130 rfl dX10_look_129 ?_
                          refine j_iadd E 131 rfl dX10_look_130 ?_
                          refine j_istore_n E 132 rfl [(2, .int (J (gc + 1))), (0, .ref (q 0)), (1, .int (J v_what)), (3, .int (J gi))] dX10_look_131 rfl hl (by decide) rfl (fun ls hl => ?_)
                          refine j_iinc E 135 rfl [(3, .int (J (gi + 1))), (2, .int (J (gc + 1))), (0, .ref (q 0)), (1, .int (J v_what))] dX10_look_132 hl (kk := 3) rfl (by decide) rfl (fun ls hl => ?_)
                          refine j_goto E 92 dX10_look_135 (by decide) ?_
                          exact ih92 (gc + 1) (gi + 1) H locs ls (rr (by omega)) (rr (by omega)) (⟨by omega, by omega, by omega, by omega, (by rcases iv92.2.2.2.2 with ⟨q1_, q2_⟩ | ⟨q1_, q2_⟩; (first | exact Or.inl ⟨q1_, nq_y q2_ (by omega) (show ¬ (f_0 16 gi) = -1 from by omega)⟩ | exact Or.inl ⟨q1_, nq_n q2_ (by omega) (show ¬ ¬ (f_0 16 gi) = -1 from by omega)⟩ | (exfalso; omega)); (first | exact Or.inr ⟨q1_, nq_y q2_ (by omega) (show ¬ (f_0 67 gi) = -1 from by omega)⟩ | exact Or.inr ⟨q1_, nq_n q2_ (by omega) (show ¬ ¬ (f_0 67 gi) = -1 from by omega)⟩ | (exfalso; omega)))⟩) (by omega) hw (lv_sub hl [2, 3, 1, 0] rfl)
                refine j_iload_n E 80 rfl dX10_look_79 rfl (lv_at hl 2 rfl) ?_
                refine j_iconst E 81 rfl dX10_look_80 ?_
                refine j_icmp_eq E 84 90 rfl r_v_what (rr (by decide)) dX10_look_81 (by decide) (fun cc18_ => ?_) (fun cc18_ => ?_)
                · refine j_iconst E 91 rfl dX10_look_90 ?_
                  refine j_istore_n E 92 rfl [(3, .int (J 0)), (2, .int (J 0)), (0, .ref (q 0)), (1, .int (J v_what))] dX10_look_91 rfl hl (by decide) rfl (fun ls hl => ?_)
                  exact L92_9 _ 0 0 H locs ls (rr (by decide)) (rr (by decide)) (⟨by omega, by omega, by omega, by omega, by first | exact Or.inl ⟨by omega, nq_0⟩ | exact Or.inr ⟨by omega, nq_0⟩⟩) (mk_lt _) hw (lv_sub hl [2, 3, 1, 0] rfl)
                · refine j_iload_n E 85 rfl dX10_look_84 rfl (lv_at hl 2 rfl) ?_
                  refine j_bipush E 87 rfl dX10_look_85 (by decide) ?_
                  refine j_icmp_ne E 90 140 rfl r_v_what (rr (by decide)) dX10_look_87 (by decide) (fun cc19_ => ?_) (fun cc19_ => ?_)
                  · have L156_20 : ∀ (k156 : Nat) (gd gj : Int) (H : Heap) (locs : List Loc) (ls : Array Slot), inR gd → inR gj → (0 ≤ gj ∧ gj ≤ 24 ∧ (0 ≤ gd ∧ gd ≤ gj) ∧ gj ≤ (n_0 2) ∧ ((v_what = 2 ∧ gd = nq_ (fun p_ => (f_0 6 p_) = -1) (gj).toNat) ∨ (v_what = 9 ∧ gd = nq_ (fun p_ => (f_0 6 p_) = -1 ∧ Ou_ (n_0 48) (f_0 50) (f_0 52) (f_0 54) (f_0 53) (n_0 1) p_) (gj).toNat))) → (24 - gj) < (k156 : Int) → WM D cy q (upN n_0 0 0) (f_0) A0 H0 H locs → lv_has ls 4 [(0, .ref (q 0)), (1, .int (J v_what)), (2, .int (J gd)), (3, .int (J gj))] → W p l e (rmd 3 0 0) s m ar below meth c H locs 0 0 QW (F0 m 156 ls []) := by
                      intro k156
                      induction k156 with
                      | zero =>
                        intro gd gj H locs ls r_gd r_gj iv156 ms156 hw hl
                        exfalso; omega
                      | succ k156 ih156 =>
                        intro gd gj H locs ls r_gd r_gj iv156 ms156 hw hl
                        refine j_iload_n E 157 rfl dX10_look_156 rfl (lv_at hl 3 rfl) ?_
                        refine j_aload_n E 158 rfl dX10_look_157 rfl (lv_at hl 0 rfl) ?_
                        refine m_get_2 E hK hw (n_0 2) rfl 161 rfl dX10_look_158 (fun rr22_ => ?_)
                        refine j_icmp_ge E 164 198 rfl r_gj rr22_ dX10_look_161 (by decide) (fun cc23_ => ?_) (fun cc23_ => ?_)
                        · refine j_iload_n E 199 rfl dX10_look_198 rfl (lv_at hl 2 rfl) ?_
                          exact hret 199 gd (upN n_0 0 0) (f_0) _ _ ls hw r_gd ⟨0, rfl, rfl, ⟨⟨i_now, i_persons, i_lines, i_wordings, i_taped, i_suits, i_spk, i_fam, i_str, i_said, i_book, i_wds, i_tok, i_cod, i_far, i_tap, i_qua, i_sil, i_stz, i_way⟩, (by rw [show ((n_0 2)).toNat = (gj).toNat by omega]; rcases iv156.2.2.2.2 with ⟨q1_, q2_⟩ | ⟨q1_, q2_⟩; exact Or.inr (Or.inr (Or.inl ⟨by omega, q2_⟩)); exact Or.inr (Or.inr (Or.inr (Or.inr (Or.inr (Or.inr (Or.inr (Or.inr (Or.inr (Or.inl ⟨by omega, q2_⟩))))))))))⟩⟩ dX10_look_199
                        · refine j_iload_n E 165 rfl dX10_look_164 rfl (lv_at hl 1 rfl) ?_
                          refine j_iconst E 166 rfl dX10_look_165 ?_
                          refine j_icmp_ne E 169 180 rfl r_v_what (rr (by decide)) dX10_look_166 (by decide) (fun cc24_ => ?_) (fun cc24_ => ?_)
                          · refine j_aload_n E 181 rfl dX10_look_180 rfl (lv_at hl 0 rfl) ?_
                            refine j_iload_n E 182 rfl dX10_look_181 rfl (lv_at hl 3 rfl) ?_
                            refine m_callp (po := fun z_0 => (z_0 = 1 ∧ (0 ≤ gj ∧ gj < (n_0 2) ∧ (f_0 6 gj) = -1) ∧ Ou_ (n_0 48) (f_0 50) (f_0 52) (f_0 54) (f_0 53) (n_0 1) gj) ∨ (z_0 = 0 ∧ ¬ ((0 ≤ gj ∧ gj < (n_0 2) ∧ (f_0 6 gj) = -1) ∧ Ou_ (n_0 48) (f_0 50) (f_0 52) (f_0 54) (f_0 53) (n_0 1) gj))) E (c_X10_isOutlaw l D cy q (upN n_0 0 0) (f_0) gj  r_gj (show (n_0 2) ≤ 24 from by omega) (show 0 ≤ (n_0 1) ∧ (n_0 1) ≤ 199 from by omega) (show 0 ≤ (n_0 48) ∧ (n_0 48) ≤ 100 from by omega)) rfl mt_X10_isOutlaw ml_X10_182 hK hw hA ⟨Nat.le_of_ble_eq_true rfl, Nat.le_of_ble_eq_true rfl⟩ (As := [.int (J gj)]) (rest := []) rfl rfl hl.1 (Nat.le_of_ble_eq_true rfl) 185 rfl dX10_look_182 (fun zz25_ H locs rr25_ hq25_ hw => ?_)
                            have hh25_ : (zz25_ = 1 ∧ (0 ≤ gj ∧ gj < (n_0 2) ∧ (f_0 6 gj) = -1) ∧ Ou_ (n_0 48) (f_0 50) (f_0 52) (f_0 54) (f_0 53) (n_0 1) gj) ∨ (zz25_ = 0 ∧ ¬ ((0 ≤ gj ∧ gj < (n_0 2) ∧ (f_0 6 gj) = -1) ∧ Ou_ (n_0 48) (f_0 50) (f_0 52) (f_0 54) (f_0 53) (n_0 1) gj)) := hq25_
                            clear hq25_
                            rcases hh25_ with ⟨ee25_, hh25_⟩ | ⟨ee25_, hh25_⟩
                            · subst ee25_
                              have ho_ := hh25_
                              clear hh25_
                              refine j_if_eq E 188 192 rfl (rr (by decide)) dX10_look_185 (by decide) (fun cc26_ => absurd cc26_ (by decide)) (fun _ => ?_)
                              refine j_iload_n E 189 rfl dX10_look_188 rfl (lv_at hl 2 rfl) ?_
                              refine j_iconst E 190 rfl dX10_look_189 ?_
                              refine j_iadd E 191 rfl dX10_look_190 ?_
                              refine j_istore_n E 192 rfl [(2, .int (J (gd + 1))), (0, .ref (q 0)), (1, .int (J v_what)), (3, .int (J gj))] dX10_look_191 rfl hl (by decide) rfl (fun ls hl => ?_)
                              refine j_iinc E 195 rfl [(3, .int (J (gj + 1))), (2, .int (J (gd + 1))), (0, .ref (q 0)), (1, .int (J v_what))] dX10_look_192 hl (kk := 3) rfl (by decide) rfl (fun ls hl => ?_)
                              refine j_goto E 156 dX10_look_195 (by decide) ?_
                              exact ih156 (gd + 1) (gj + 1) H locs ls (rr (by omega)) (rr (by omega)) (⟨by omega, by omega, by omega, by omega, (by rcases iv156.2.2.2.2 with ⟨q1_, q2_⟩ | ⟨q1_, q2_⟩; (first | exact Or.inl ⟨q1_, nq_y q2_ (by omega) hl_.2.2⟩ | exact Or.inl ⟨q1_, nq_n q2_ (by omega) (fun q_ => hn_ ⟨by omega, by omega, q_⟩)⟩ | (exfalso; omega)); (first | exact Or.inr ⟨q1_, nq_y q2_ (by omega) ⟨ho_.1.2.2, ho_.2⟩⟩ | exact Or.inr ⟨q1_, nq_n q2_ (by omega) (fun q_ => hno_ ⟨⟨by omega, by omega, q_.1⟩, q_.2⟩)⟩ | (exfalso; omega)))⟩) (by omega) hw (lv_sub hl [2, 3, 1, 0] rfl)
                            · subst ee25_
                              have hno_ := hh25_
                              clear hh25_
                              refine j_if_eq E 188 192 rfl (rr (by decide)) dX10_look_185 (by decide) (fun _ => ?_) (fun cc27_ => absurd cc27_ (by decide))
                              refine j_iinc E 195 rfl [(3, .int (J (gj + 1))), (0, .ref (q 0)), (1, .int (J v_what)), (2, .int (J gd))] dX10_look_192 hl (kk := 3) rfl (by decide) rfl (fun ls hl => ?_)
                              refine j_goto E 156 dX10_look_195 (by decide) ?_
                              exact ih156 gd (gj + 1) H locs ls r_gd (rr (by omega)) (⟨by omega, by omega, by omega, by omega, (by rcases iv156.2.2.2.2 with ⟨q1_, q2_⟩ | ⟨q1_, q2_⟩; (first | exact Or.inl ⟨q1_, nq_y q2_ (by omega) hl_.2.2⟩ | exact Or.inl ⟨q1_, nq_n q2_ (by omega) (fun q_ => hn_ ⟨by omega, by omega, q_⟩)⟩ | (exfalso; omega)); (first | exact Or.inr ⟨q1_, nq_y q2_ (by omega) ⟨ho_.1.2.2, ho_.2⟩⟩ | exact Or.inr ⟨q1_, nq_n q2_ (by omega) (fun q_ => hno_ ⟨⟨by omega, by omega, q_.1⟩, q_.2⟩)⟩ | (exfalso; omega)))⟩) (by omega) hw (lv_sub hl [1, 2, 3, 0] rfl)
                          · refine j_aload_n E 170 rfl dX10_look_169 rfl (lv_at hl 0 rfl) ?_
                            refine j_iload_n E 171 rfl dX10_look_170 rfl (lv_at hl 3 rfl) ?_
                            refine m_callp (po := fun z_0 => (z_0 = 1 ∧ 0 ≤ gj ∧ gj < (n_0 2) ∧ (f_0 6 gj) = -1) ∨ (z_0 = 0 ∧ ¬ (0 ≤ gj ∧ gj < (n_0 2) ∧ (f_0 6 gj) = -1))) E (c_X10_isLiving l D cy q (upN n_0 0 0) (f_0) gj  r_gj (show (n_0 2) ≤ 24 from by omega)) rfl mt_X10_isLiving ml_X10_176 hK hw hA ⟨Nat.le_of_ble_eq_true rfl, Nat.le_of_ble_eq_true rfl⟩ (As := [.int (J gj)]) (rest := []) rfl rfl hl.1 (Nat.le_of_ble_eq_true rfl) 174 rfl dX10_look_171 (fun zz28_ H locs rr28_ hq28_ hw => ?_)
                            have hh28_ : (zz28_ = 1 ∧ 0 ≤ gj ∧ gj < (n_0 2) ∧ (f_0 6 gj) = -1) ∨ (zz28_ = 0 ∧ ¬ (0 ≤ gj ∧ gj < (n_0 2) ∧ (f_0 6 gj) = -1)) := hq28_
                            clear hq28_
                            rcases hh28_ with ⟨ee28_, hh28_⟩ | ⟨ee28_, hh28_⟩
                            · subst ee28_
                              have hl_ := hh28_
                              clear hh28_
                              refine j_if_eq E 177 192 rfl (rr (by decide)) dX10_look_174 (by decide) (fun cc29_ => absurd cc29_ (by decide)) (fun _ => ?_)
                              refine j_goto E 188 dX10_look_177 (by decide) ?_
                              refine j_iload_n E 189 rfl dX10_look_188 rfl (lv_at hl 2 rfl) ?_
                              refine j_iconst E 190 rfl dX10_look_189 ?_
                              refine j_iadd E 191 rfl dX10_look_190 ?_
                              refine j_istore_n E 192 rfl [(2, .int (J (gd + 1))), (0, .ref (q 0)), (1, .int (J v_what)), (3, .int (J gj))] dX10_look_191 rfl hl (by decide) rfl (fun ls hl => ?_)
                              refine j_iinc E 195 rfl [(3, .int (J (gj + 1))), (2, .int (J (gd + 1))), (0, .ref (q 0)), (1, .int (J v_what))] dX10_look_192 hl (kk := 3) rfl (by decide) rfl (fun ls hl => ?_)
                              refine j_goto E 156 dX10_look_195 (by decide) ?_
                              exact ih156 (gd + 1) (gj + 1) H locs ls (rr (by omega)) (rr (by omega)) (⟨by omega, by omega, by omega, by omega, (by rcases iv156.2.2.2.2 with ⟨q1_, q2_⟩ | ⟨q1_, q2_⟩; (first | exact Or.inl ⟨q1_, nq_y q2_ (by omega) hl_.2.2⟩ | exact Or.inl ⟨q1_, nq_n q2_ (by omega) (fun q_ => hn_ ⟨by omega, by omega, q_⟩)⟩ | (exfalso; omega)); (first | exact Or.inr ⟨q1_, nq_y q2_ (by omega) ⟨ho_.1.2.2, ho_.2⟩⟩ | exact Or.inr ⟨q1_, nq_n q2_ (by omega) (fun q_ => hno_ ⟨⟨by omega, by omega, q_.1⟩, q_.2⟩)⟩ | (exfalso; omega)))⟩) (by omega) hw (lv_sub hl [2, 3, 1, 0] rfl)
                            · subst ee28_
                              have hn_ := hh28_
                              clear hh28_
                              refine j_if_eq E 177 192 rfl (rr (by decide)) dX10_look_174 (by decide) (fun _ => ?_) (fun cc30_ => absurd cc30_ (by decide))
                              refine j_iinc E 195 rfl [(3, .int (J (gj + 1))), (0, .ref (q 0)), (1, .int (J v_what)), (2, .int (J gd))] dX10_look_192 hl (kk := 3) rfl (by decide) rfl (fun ls hl => ?_)
                              refine j_goto E 156 dX10_look_195 (by decide) ?_
                              exact ih156 gd (gj + 1) H locs ls r_gd (rr (by omega)) (⟨by omega, by omega, by omega, by omega, (by rcases iv156.2.2.2.2 with ⟨q1_, q2_⟩ | ⟨q1_, q2_⟩; (first | exact Or.inl ⟨q1_, nq_y q2_ (by omega) hl_.2.2⟩ | exact Or.inl ⟨q1_, nq_n q2_ (by omega) (fun q_ => hn_ ⟨by omega, by omega, q_⟩)⟩ | (exfalso; omega)); (first | exact Or.inr ⟨q1_, nq_y q2_ (by omega) ⟨ho_.1.2.2, ho_.2⟩⟩ | exact Or.inr ⟨q1_, nq_n q2_ (by omega) (fun q_ => hno_ ⟨⟨by omega, by omega, q_.1⟩, q_.2⟩)⟩ | (exfalso; omega)))⟩) (by omega) hw (lv_sub hl [1, 2, 3, 0] rfl)
                    refine j_iload_n E 141 rfl dX10_look_140 rfl (lv_at hl 2 rfl) ?_
                    refine j_iconst E 142 rfl dX10_look_141 ?_
                    refine j_icmp_eq E 145 154 rfl r_v_what (rr (by decide)) dX10_look_142 (by decide) (fun cc31_ => ?_) (fun cc31_ => ?_)
                    · refine j_iconst E 155 rfl dX10_look_154 ?_
                      refine j_istore_n E 156 rfl [(3, .int (J 0)), (2, .int (J 0)), (0, .ref (q 0)), (1, .int (J v_what))] dX10_look_155 rfl hl (by decide) rfl (fun ls hl => ?_)
                      exact L156_20 _ 0 0 H locs ls (rr (by decide)) (rr (by decide)) (⟨by omega, by omega, by omega, by omega, by first | exact Or.inl ⟨by omega, nq_0⟩ | exact Or.inr ⟨by omega, nq_0⟩⟩) (mk_lt _) hw (lv_sub hl [2, 3, 1, 0] rfl)
                    · refine j_iload_n E 146 rfl dX10_look_145 rfl (lv_at hl 2 rfl) ?_
                      refine j_bipush E 148 rfl dX10_look_146 (by decide) ?_
                      refine j_icmp_eq E 151 154 rfl r_v_what (rr (by decide)) dX10_look_148 (by decide) (fun cc32_ => ?_) (fun cc32_ => ?_)
                      · refine j_iconst E 155 rfl dX10_look_154 ?_
                        refine j_istore_n E 156 rfl [(3, .int (J 0)), (2, .int (J 0)), (0, .ref (q 0)), (1, .int (J v_what))] dX10_look_155 rfl hl (by decide) rfl (fun ls hl => ?_)
                        exact L156_20 _ 0 0 H locs ls (rr (by decide)) (rr (by decide)) (⟨by omega, by omega, by omega, by omega, by first | exact Or.inl ⟨by omega, nq_0⟩ | exact Or.inr ⟨by omega, nq_0⟩⟩) (mk_lt _) hw (lv_sub hl [2, 3, 1, 0] rfl)
                      · refine j_bipush E 153 rfl dX10_look_151 (by decide) ?_
                        exact hret 153 ((-2)) (upN n_0 0 0) (f_0) _ _ ls hw (rr (by decide)) ⟨0, rfl, rfl, ⟨⟨i_now, i_persons, i_lines, i_wordings, i_taped, i_suits, i_spk, i_fam, i_str, i_said, i_book, i_wds, i_tok, i_cod, i_far, i_tap, i_qua, i_sil, i_stz, i_way⟩, Or.inr (Or.inr (Or.inr (Or.inr (Or.inr (Or.inr (Or.inr (Or.inr (Or.inr (Or.inr (Or.inr (⟨by omega, rfl⟩)))))))))))⟩⟩ dX10_look_153
                  · refine j_iconst E 91 rfl dX10_look_90 ?_
                    refine j_istore_n E 92 rfl [(3, .int (J 0)), (2, .int (J 0)), (0, .ref (q 0)), (1, .int (J v_what))] dX10_look_91 rfl hl (by decide) rfl (fun ls hl => ?_)
                    exact L92_9 _ 0 0 H locs ls (rr (by decide)) (rr (by decide)) (⟨by omega, by omega, by omega, by omega, by first | exact Or.inl ⟨by omega, nq_0⟩ | exact Or.inr ⟨by omega, nq_0⟩⟩) (mk_lt _) hw (lv_sub hl [2, 3, 1, 0] rfl)
              · refine j_aload_n E 75 rfl dX10_look_74 rfl (lv_at hl 1 rfl) ?_
                refine m_get_11 E hK hw (n_0 11) rfl 78 rfl dX10_look_75 (fun rr33_ => ?_)
                exact hret 78 (n_0 11) (upN n_0 0 0) (f_0) _ _ ls hw rr33_ ⟨0, rfl, rfl, ⟨⟨i_now, i_persons, i_lines, i_wordings, i_taped, i_suits, i_spk, i_fam, i_str, i_said, i_book, i_wds, i_tok, i_cod, i_far, i_tap, i_qua, i_sil, i_stz, i_way⟩, Or.inr (Or.inr (Or.inr (Or.inr (Or.inr (Or.inr (Or.inr (Or.inr (Or.inl ⟨by omega, rfl⟩))))))))⟩⟩ dX10_look_78
            · refine j_aload_n E 64 rfl dX10_look_63 rfl (lv_at hl 1 rfl) ?_
              refine m_get_10 E hK hw (n_0 10) rfl 67 rfl dX10_look_64 (fun rr34_ => ?_)
              exact hret 67 (n_0 10) (upN n_0 0 0) (f_0) _ _ ls hw rr34_ ⟨0, rfl, rfl, ⟨⟨i_now, i_persons, i_lines, i_wordings, i_taped, i_suits, i_spk, i_fam, i_str, i_said, i_book, i_wds, i_tok, i_cod, i_far, i_tap, i_qua, i_sil, i_stz, i_way⟩, Or.inr (Or.inr (Or.inr (Or.inr (Or.inr (Or.inr (Or.inr (Or.inl ⟨by omega, rfl⟩)))))))⟩⟩ dX10_look_67
          · refine j_aload_n E 53 rfl dX10_look_52 rfl (lv_at hl 1 rfl) ?_
            refine m_get_48 E hK hw (n_0 48) rfl 56 rfl dX10_look_53 (fun rr35_ => ?_)
            exact hret 56 (n_0 48) (upN n_0 0 0) (f_0) _ _ ls hw rr35_ ⟨0, rfl, rfl, ⟨⟨i_now, i_persons, i_lines, i_wordings, i_taped, i_suits, i_spk, i_fam, i_str, i_said, i_book, i_wds, i_tok, i_cod, i_far, i_tap, i_qua, i_sil, i_stz, i_way⟩, Or.inr (Or.inr (Or.inr (Or.inr (Or.inr (Or.inr (Or.inl ⟨by omega, rfl⟩))))))⟩⟩ dX10_look_56
        · refine j_aload_n E 42 rfl dX10_look_41 rfl (lv_at hl 1 rfl) ?_
          refine m_get_29 E hK hw (n_0 29) rfl 45 rfl dX10_look_42 (fun rr36_ => ?_)
          exact hret 45 (n_0 29) (upN n_0 0 0) (f_0) _ _ ls hw rr36_ ⟨0, rfl, rfl, ⟨⟨i_now, i_persons, i_lines, i_wordings, i_taped, i_suits, i_spk, i_fam, i_str, i_said, i_book, i_wds, i_tok, i_cod, i_far, i_tap, i_qua, i_sil, i_stz, i_way⟩, Or.inr (Or.inr (Or.inr (Or.inr (Or.inr (Or.inl ⟨by omega, rfl⟩)))))⟩⟩ dX10_look_45
      · refine j_aload_n E 32 rfl dX10_look_31 rfl (lv_at hl 1 rfl) ?_
        refine m_get_12 E hK hw (n_0 12) rfl 35 rfl dX10_look_32 (fun rr37_ => ?_)
        exact hret 35 (n_0 12) (upN n_0 0 0) (f_0) _ _ ls hw rr37_ ⟨0, rfl, rfl, ⟨⟨i_now, i_persons, i_lines, i_wordings, i_taped, i_suits, i_spk, i_fam, i_str, i_said, i_book, i_wds, i_tok, i_cod, i_far, i_tap, i_qua, i_sil, i_stz, i_way⟩, Or.inr (Or.inr (Or.inr (Or.inl ⟨by omega, rfl⟩)))⟩⟩ dX10_look_35
    · refine j_aload_n E 22 rfl dX10_look_21 rfl (lv_at hl 1 rfl) ?_
      refine m_get_2 E hK hw (n_0 2) rfl 25 rfl dX10_look_22 (fun rr38_ => ?_)
      exact hret 25 (n_0 2) (upN n_0 0 0) (f_0) _ _ ls hw rr38_ ⟨0, rfl, rfl, ⟨⟨i_now, i_persons, i_lines, i_wordings, i_taped, i_suits, i_spk, i_fam, i_str, i_said, i_book, i_wds, i_tok, i_cod, i_far, i_tap, i_qua, i_sil, i_stz, i_way⟩, Or.inr (Or.inl ⟨by omega, rfl⟩)⟩⟩ dX10_look_25
  · refine j_aload_n E 12 rfl dX10_look_11 rfl (lv_at hl 1 rfl) ?_
    refine m_get_1 E hK hw (n_0 1) rfl 15 rfl dX10_look_12 (fun rr39_ => ?_)
    exact hret 15 (n_0 1) (upN n_0 0 0) (f_0) _ _ ls hw rr39_ ⟨0, rfl, rfl, ⟨⟨i_now, i_persons, i_lines, i_wordings, i_taped, i_suits, i_spk, i_fam, i_str, i_said, i_book, i_wds, i_tok, i_cod, i_far, i_tap, i_qua, i_sil, i_stz, i_way⟩, Or.inl ⟨by omega, rfl⟩⟩⟩ dX10_look_15
set_option maxHeartbeats 4000000 in
set_option maxRecDepth 100000 in
theorem c_X10_summers (l : Launch) (D : va_G) (cy : Nat → ClassId) (q : Nat → Nat) (n_0 : Nat → Int) (f_0 : Nat → Int → Int) (v_k : Int) (r_v_k : inR v_k) (hp0 : MI (n_0) (f_0)) (hp1 : Fut_ (f_0 18) (n_0 1) (n_0 12)) : MC l D cy q yX10_summers cX10_summers 3 (some .int) 7 [.int (J v_k)] n_0 f_0 (PI (fun (z_0 : Int) (n_2 : Nat → Int) (f_2 : Nat → Int → Int) => ∃ (x0_2 : Int) (x1_2 : Int) (y57_2 : Int → Int) (y58_2 : Int → Int) (y18_2 : Int → Int) (y15_2 : Int → Int) (y17_2 : Int → Int) (y19_2 : Int → Int) (y20_2 : Int → Int) (y21_2 : Int → Int) (y16_2 : Int → Int) (y56_2 : Int → Int) (y7_2 : Int → Int) , n_2 = upN (upN n_0 0 x0_2) 1 x1_2 ∧ f_2 = upF (upF (upF (upF (upF (upF (upF (upF (upF (upF (upF f_0 7 y7_2) 15 y15_2) 16 y16_2) 17 y17_2) 18 y18_2) 19 y19_2) 20 y20_2) 21 y21_2) 56 y56_2) 57 y57_2) 58 y58_2 ∧ (MI (upN (upN n_0 0 x0_2) 1 x1_2) (upF (upF (upF (upF (upF (upF (upF (upF (upF (upF (upF f_0 7 y7_2) 15 y15_2) 16 y16_2) 17 y17_2) 18 y18_2) 19 y19_2) 20 y20_2) 21 y21_2) 56 y56_2) 57 y57_2) 58 y58_2) ∧ ((z_0 = -1 ∧ (v_k < 1 ∨ 20 < v_k ∨ 199 < (n_0 1) + v_k) ∧ (x1_2) = (n_0 1) ∧ (y7_2) = (f_0 7) ∧ (VM_ (y19_2) (y20_2) (y21_2) (y18_2)) = (VM_ (f_0 19) (f_0 20) (f_0 21) (f_0 18)) ∧ (CM_ (y15_2) (y16_2) (y17_2) (y7_2)) = (CM_ (f_0 15) (f_0 16) (f_0 17) (f_0 7)) ∧ (y18_2) = (f_0 18)) ∨ (z_0 = (x1_2) ∧ (1 ≤ v_k ∧ v_k ≤ 20 ∧ (n_0 1) + v_k ≤ 199) ∧ (x1_2) = (n_0 1) + v_k ∧ ((∀ j, 0 ≤ j → j < (n_0 2) → (y7_2 j) = 0) ∧ (∀ j, (n_0 2) ≤ j → (y7_2 j) = (f_0 7 j))) ∧ Fut_ (y18_2) (x1_2) (n_0 12) ∧ Sn_ (GM_ (f_0 3) (f_0 4) (f_0 5) (f_0 6) (f_0 13) (f_0 14) (f_0 9) (f_0 50) (f_0 52) (f_0 54) (f_0 53)) (KM_ (n_0 2) (n_0 12) (n_0 48) (n_0 11) (n_0 10)) (n_0 1) (VM_ (f_0 19) (f_0 20) (f_0 21) (f_0 18)) (CM_ (f_0 15) (f_0 16) (f_0 17) (f_0 7)) (v_k).toNat (VM_ (y19_2) (y20_2) (y21_2) (y18_2)) (CM_ (y15_2) (y16_2) (y17_2) (y7_2))))))) := by
  refine MC.ofi rfl (Nat.le_of_ble_eq_true rfl) ?_
  intro p e s m below meth c ls ar QW A0 H0 H locs E hK hA hw hl hret
  have hl : lv_has ls 3 [(0, .ref (q 0)), (1, .int (J v_k))] := hl
  have hp0_ := hp0
  obtain ⟨i_now, i_persons, i_lines, i_wordings, i_taped, i_suits, i_spk, i_fam, i_str, i_said, i_book, i_wds, i_tok, i_cod, i_far, i_tap, i_qua, i_sil, i_stz, i_way⟩ := hp0_
  refine j_aload_n E 1 rfl dX10_summers_0 rfl (lv_at hl 0 rfl) ?_
  refine j_iconst E 2 rfl dX10_summers_1 ?_
  refine m_put_0 E hK hw (rr (by decide)) 5 rfl dX10_summers_2 (fun H locs hw => ?_)
  have hw : WM D cy q (upN n_0 0 0) (f_0) A0 H0 H locs := hw
  refine j_aload_n E 6 rfl dX10_summers_5 rfl (lv_at hl 0 rfl) ?_
  refine j_iload_n E 7 rfl dX10_summers_6 rfl (lv_at hl 1 rfl) ?_
  refine j_iconst E 8 rfl dX10_summers_7 ?_
  refine j_bipush E 10 rfl dX10_summers_8 (by decide) ?_
  refine m_callp (po := fun z_0 => (z_0 = 1 ∧ (1 : Int) ≤ v_k ∧ v_k ≤ (20 : Int)) ∨ (z_0 = 0 ∧ (v_k < (1 : Int) ∨ (20 : Int) < v_k))) E (c_X10_isIn l D cy q (upN n_0 0 0) (f_0) v_k 1 20  r_v_k (rr (by decide)) (rr (by decide)) ) rfl mt_X10_isIn ml_X10_169 hK hw hA ⟨Nat.le_of_ble_eq_true rfl, Nat.le_of_ble_eq_true rfl⟩ (As := [.int (J v_k), .int (J 1), .int (J 20)]) (rest := []) rfl rfl hl.1 (Nat.le_of_ble_eq_true rfl) 13 rfl dX10_summers_10 (fun zz2_ H locs rr2_ hq2_ hw => ?_)
  have hh2_ : (zz2_ = 1 ∧ (1 : Int) ≤ v_k ∧ v_k ≤ (20 : Int)) ∨ (zz2_ = 0 ∧ (v_k < (1 : Int) ∨ (20 : Int) < v_k)) := hq2_
  clear hq2_
  rcases hh2_ with ⟨ee2_, hh2_⟩ | ⟨ee2_, hh2_⟩
  · subst ee2_
    refine j_if_eq E 16 28 rfl (rr (by decide)) dX10_summers_13 (by decide) (fun cc3_ => absurd cc3_ (by decide)) (fun _ => ?_)
    refine j_aload_n E 17 rfl dX10_summers_16 rfl (lv_at hl 0 rfl) ?_
    refine m_get_1 E hK hw (n_0 1) rfl 20 rfl dX10_summers_17 (fun rr4_ => ?_)
    refine j_iload_n E 21 rfl dX10_summers_20 rfl (lv_at hl 1 rfl) ?_
    refine j_iadd E 22 rfl dX10_summers_21 ?_
    refine j_sipush E 25 rfl dX10_summers_22 (by decide) ?_
    refine j_icmp_lt E 28 30 rfl (rr (by omega)) (rr (by decide)) dX10_summers_25 (by decide) (fun cc5_ => ?_) (fun cc5_ => ?_)
    · refine j_iconst E 31 rfl dX10_summers_30 ?_
      refine j_istore_n E 32 rfl [(2, .int (J 0)), (0, .ref (q 0)), (1, .int (J v_k))] dX10_summers_31 rfl hl (by decide) rfl (fun ls hl => ?_)
      have L32_6 : ∀ (k32 : Nat) (gi : Int) (x1_c32 : Int) (y57_c32 : Int → Int) (y58_c32 : Int → Int) (y18_c32 : Int → Int) (y15_c32 : Int → Int) (y17_c32 : Int → Int) (y19_c32 : Int → Int) (y20_c32 : Int → Int) (y21_c32 : Int → Int) (y16_c32 : Int → Int) (y56_c32 : Int → Int) (y7_c32 : Int → Int) (H : Heap) (locs : List Loc) (ls : Array Slot), inR gi → (0 ≤ gi ∧ gi ≤ v_k ∧ MI (upN (upN n_0 0 0) 1 x1_c32) (upF (upF (upF (upF (upF (upF (upF (upF (upF (upF (upF f_0 7 y7_c32) 15 y15_c32) 16 y16_c32) 17 y17_c32) 18 y18_c32) 19 y19_c32) 20 y20_c32) 21 y21_c32) 56 y56_c32) 57 y57_c32) 58 y58_c32) ∧ (x1_c32) = n_0 1 + gi ∧ (0 < gi → ∀ j, 0 ≤ j → j < n_0 2 → (y7_c32 j) = 0) ∧ (∀ j, n_0 2 ≤ j → (y7_c32 j) = f_0 7 j) ∧ Fut_ (y18_c32) (x1_c32) (n_0 12) ∧ Sn_ (GM_ (f_0 3) (f_0 4) (f_0 5) (f_0 6) (f_0 13) (f_0 14) (f_0 9) (f_0 50) (f_0 52) (f_0 54) (f_0 53)) (KM_ (n_0 2) (n_0 12) (n_0 48) (n_0 11) (n_0 10)) (n_0 1) (VM_ (f_0 19) (f_0 20) (f_0 21) (f_0 18)) (CM_ (f_0 15) (f_0 16) (f_0 17) (f_0 7)) gi.toNat (VM_ (y19_c32) (y20_c32) (y21_c32) (y18_c32)) (CM_ (y15_c32) (y16_c32) (y17_c32) (y7_c32))) → (v_k - gi) < (k32 : Int) → WM D cy q (upN (upN n_0 0 0) 1 x1_c32) (upF (upF (upF (upF (upF (upF (upF (upF (upF (upF (upF f_0 7 y7_c32) 15 y15_c32) 16 y16_c32) 17 y17_c32) 18 y18_c32) 19 y19_c32) 20 y20_c32) 21 y21_c32) 56 y56_c32) 57 y57_c32) 58 y58_c32) A0 H0 H locs → lv_has ls 3 [(0, .ref (q 0)), (1, .int (J v_k)), (2, .int (J gi))] → W p l e (rmd 7 0 0) s m ar below meth c H locs 0 0 QW (F0 m 32 ls []) := by
        intro k32
        induction k32 with
        | zero =>
          intro gi x1_c32 y57_c32 y58_c32 y18_c32 y15_c32 y17_c32 y19_c32 y20_c32 y21_c32 y16_c32 y56_c32 y7_c32 H locs ls r_gi iv32 ms32 hw hl
          exfalso; omega
        | succ k32 ih32 =>
          intro gi x1_c32 y57_c32 y58_c32 y18_c32 y15_c32 y17_c32 y19_c32 y20_c32 y21_c32 y16_c32 y56_c32 y7_c32 H locs ls r_gi iv32 ms32 hw hl
          have rx1_c32 : inR x1_c32 := mRn_1 hw.1.2.2.1
          refine j_iload_n E 33 rfl dX10_summers_32 rfl (lv_at hl 2 rfl) ?_
          refine j_iload_n E 34 rfl dX10_summers_33 rfl (lv_at hl 1 rfl) ?_
          refine j_icmp_ge E 37 47 rfl r_gi r_v_k dX10_summers_34 (by decide) (fun cc8_ => ?_) (fun cc8_ => ?_)
          · refine j_aload_n E 48 rfl dX10_summers_47 rfl (lv_at hl 0 rfl) ?_
            refine m_get_1 E hK hw x1_c32 rfl 51 rfl dX10_summers_48 (fun _ => ?_)
            exact hret 51 x1_c32 (upN (upN n_0 0 0) 1 x1_c32) (upF (upF (upF (upF (upF (upF (upF (upF (upF (upF (upF f_0 7 y7_c32) 15 y15_c32) 16 y16_c32) 17 y17_c32) 18 y18_c32) 19 y19_c32) 20 y20_c32) 21 y21_c32) 56 y56_c32) 57 y57_c32) 58 y58_c32) _ _ ls hw rx1_c32 ⟨0, x1_c32, y57_c32, y58_c32, y18_c32, y15_c32, y17_c32, y19_c32, y20_c32, y21_c32, y16_c32, y56_c32, y7_c32, rfl, rfl, ⟨iv32.2.2.1, Or.inr ⟨rfl, by omega, by omega, ⟨iv32.2.2.2.2.1 (by omega), iv32.2.2.2.2.2.1⟩, iv32.2.2.2.2.2.2.1, by rw [show v_k = gi by omega]; exact iv32.2.2.2.2.2.2.2⟩⟩⟩ dX10_summers_51
          · refine j_aload_n E 38 rfl dX10_summers_37 rfl (lv_at hl 0 rfl) ?_
            refine m_callv E (c_X10_goes l D cy q (upN (upN n_0 0 0) 1 x1_c32) (upF (upF (upF (upF (upF (upF (upF (upF (upF (upF (upF f_0 7 y7_c32) 15 y15_c32) 16 y16_c32) 17 y17_c32) 18 y18_c32) 19 y19_c32) 20 y20_c32) 21 y21_c32) 56 y56_c32) 57 y57_c32) 58 y58_c32)    (show MI (upN (upN n_0 0 0) 1 x1_c32) (upF (upF (upF (upF (upF (upF (upF (upF (upF (upF (upF f_0 7 y7_c32) 15 y15_c32) 16 y16_c32) 17 y17_c32) 18 y18_c32) 19 y19_c32) 20 y20_c32) 21 y21_c32) 56 y56_c32) 57 y57_c32) 58 y58_c32) from iv32.2.2.1) (show (x1_c32) ≤ 198 from by omega) (show Fut_ (y18_c32) (x1_c32) (n_0 12) from iv32.2.2.2.2.2.2.1)) rfl mt_X10_goes ml_X10_364 hK hw hA ⟨Nat.le_of_ble_eq_true rfl, Nat.le_of_ble_eq_true rfl⟩ (As := []) (rest := []) rfl rfl hl.1 (Nat.le_of_ble_eq_true rfl) 41 rfl dX10_summers_38 (fun n_9 f_9 H locs hq9_ hw => ?_)
            obtain ⟨x1_9, y57_9, y58_9, y18_9, y15_9, y17_9, y19_9, y20_9, y21_9, y16_9, y56_9, y7_9, en9_, ef9_, hq9_⟩ := hq9_
            rw [en9_, ef9_] at hw; clear en9_ ef9_
            have hw : WM D cy q (upN (upN n_0 0 0) 1 x1_9) (upF (upF (upF (upF (upF (upF (upF (upF (upF (upF (upF f_0 7 y7_9) 15 y15_9) 16 y16_9) 17 y17_9) 18 y18_9) 19 y19_9) 20 y20_9) 21 y21_9) 56 y56_9) 57 y57_9) 58 y58_9) A0 H0 H locs := hw
            have rx1_9 : inR x1_9 := mRn_1 hw.1.2.2.1
            have hh9_ : MI (upN (upN n_0 0 0) 1 x1_9) (upF (upF (upF (upF (upF (upF (upF (upF (upF (upF (upF f_0 7 y7_9) 15 y15_9) 16 y16_9) 17 y17_9) 18 y18_9) 19 y19_9) 20 y20_9) 21 y21_9) 56 y56_9) 57 y57_9) 58 y58_9) ∧ (x1_9) = (x1_c32) + 1 ∧ ((∀ j, 0 ≤ j → j < (n_0 2) → (y7_9 j) = 0) ∧ (∀ j, (n_0 2) ≤ j → (y7_9 j) = (y7_c32 j))) ∧ Fut_ (y18_9) (x1_9) (n_0 12) ∧ Sm_ (GM_ (f_0 3) (f_0 4) (f_0 5) (f_0 6) (f_0 13) (f_0 14) (f_0 9) (f_0 50) (f_0 52) (f_0 54) (f_0 53)) (KM_ (n_0 2) (n_0 12) (n_0 48) (n_0 11) (n_0 10)) (x1_c32) (VM_ (y19_c32) (y20_c32) (y21_c32) (y18_c32)) (CM_ (y15_c32) (y16_c32) (y17_c32) (y7_c32)) (VM_ (y19_9) (y20_9) (y21_9) (y18_9)) (CM_ (y15_9) (y16_9) (y17_9) (y7_9)) := hq9_
            clear hq9_
            have ht_ := hh9_
            clear hh9_
            refine j_iinc E 44 rfl [(2, .int (J (gi + 1))), (0, .ref (q 0)), (1, .int (J v_k))] dX10_summers_41 hl (kk := 2) rfl (by decide) rfl (fun ls hl => ?_)
            refine j_goto E 32 dX10_summers_44 (by decide) ?_
            exact ih32 (gi + 1) x1_9 y57_9 y58_9 y18_9 y15_9 y17_9 y19_9 y20_9 y21_9 y16_9 y56_9 y7_9 H locs ls (rr (by omega)) (⟨by omega, by omega, ht_.1, by omega, fun _ => ht_.2.2.1.1, fun j_ h_ => (ht_.2.2.1.2 j_ h_).trans (iv32.2.2.2.2.2.1 j_ h_), ht_.2.2.2.1, Sn_st iv32.2.2.2.2.2.2.2 (by omega) ht_.2.2.2.2 (by omega)⟩) (by omega) hw (lv_sub hl [1, 2, 0] rfl)
      exact L32_6 _ 0 (n_0 1) (f_0 57) (f_0 58) (f_0 18) (f_0 15) (f_0 17) (f_0 19) (f_0 20) (f_0 21) (f_0 16) (f_0 56) (f_0 7) H locs ls (rr (by decide)) (⟨by omega, by omega, hp0, by omega, fun h_ => absurd h_ (by omega), fun _ _ => rfl, hp1, Sn_0⟩) (mk_lt _) hw (lv_sub hl [1, 2, 0] rfl)
    · refine j_iconst E 29 rfl dX10_summers_28 ?_
      exact hret 29 ((-1)) (upN (upN n_0 0 0) 1 (n_0 1)) (upF (upF (upF (upF (upF (upF (upF (upF (upF (upF (upF f_0 7 (f_0 7)) 15 (f_0 15)) 16 (f_0 16)) 17 (f_0 17)) 18 (f_0 18)) 19 (f_0 19)) 20 (f_0 20)) 21 (f_0 21)) 56 (f_0 56)) 57 (f_0 57)) 58 (f_0 58)) _ _ ls hw (rr (by decide)) ⟨0, (n_0 1), (f_0 57), (f_0 58), (f_0 18), (f_0 15), (f_0 17), (f_0 19), (f_0 20), (f_0 21), (f_0 16), (f_0 56), (f_0 7), rfl, rfl, ⟨hp0, Or.inl ⟨rfl, by omega, rfl, rfl, rfl, rfl, rfl⟩⟩⟩ dX10_summers_29
  · subst ee2_
    refine j_if_eq E 16 28 rfl (rr (by decide)) dX10_summers_13 (by decide) (fun _ => ?_) (fun cc10_ => absurd cc10_ (by decide))
    refine j_iconst E 29 rfl dX10_summers_28 ?_
    exact hret 29 ((-1)) (upN (upN n_0 0 0) 1 (n_0 1)) (upF (upF (upF (upF (upF (upF (upF (upF (upF (upF (upF f_0 7 (f_0 7)) 15 (f_0 15)) 16 (f_0 16)) 17 (f_0 17)) 18 (f_0 18)) 19 (f_0 19)) 20 (f_0 20)) 21 (f_0 21)) 56 (f_0 56)) 57 (f_0 57)) 58 (f_0 58)) _ _ ls hw (rr (by decide)) ⟨0, (n_0 1), (f_0 57), (f_0 58), (f_0 18), (f_0 15), (f_0 17), (f_0 19), (f_0 20), (f_0 21), (f_0 16), (f_0 56), (f_0 7), rfl, rfl, ⟨hp0, Or.inl ⟨rfl, by omega, rfl, rfl, rfl, rfl, rfl⟩⟩⟩ dX10_summers_29
set_option maxHeartbeats 4000000 in
set_option maxRecDepth 100000 in
theorem c_X10_unlike (l : Launch) (D : va_G) (cy : Nat → ClassId) (q : Nat → Nat) (n_0 : Nat → Int) (f_0 : Nat → Int → Int) (v_x : Int) (r_v_x : inR v_x) (hp0 : 0 ≤ (n_0 2) ∧ (n_0 2) ≤ 24) (hp1 : 0 ≤ v_x ∧ v_x < 24) (hp2 : Str_ (f_0 19) (f_0 20) (n_0 29)) (hp3 : (n_0 29) ≤ 32) : MC l D cy q yX10_unlike cX10_unlike 5 (some .int) 2 [.int (J v_x)] n_0 f_0 (PI (fun (z_0 : Int) (n_2 : Nat → Int) (f_2 : Nat → Int → Int) => (n_2 = n_0 ∧ f_2 = f_0) ∧ (∃ g_, Bq_ g_ (Us_ (fun p_ => (f_0 6 p_) = -1 ∧ 0 < (f_0 19 (24 * p_ + v_x))) (fun p_ => (f_0 20 (24 * p_ + v_x))) (n_0 2)) ∧ z_0 = cn_ g_))) := by
  refine MC.ofi rfl (Nat.le_of_ble_eq_true rfl) ?_
  intro p e s m below meth c ls ar QW A0 H0 H locs E hK hA hw hl hret
  have hl : lv_has ls 5 [(0, .ref (q 0)), (1, .int (J v_x))] := hl
  refine j_iconst E 1 rfl dX10_unlike_0 ?_
  refine j_istore_n E 2 rfl [(2, .int (J 0)), (0, .ref (q 0)), (1, .int (J v_x))] dX10_unlike_1 rfl hl (by decide) rfl (fun ls hl => ?_)
  refine j_iconst E 3 rfl dX10_unlike_2 ?_
  refine j_istore_n E 4 rfl [(3, .int (J 0)), (2, .int (J 0)), (0, .ref (q 0)), (1, .int (J v_x))] dX10_unlike_3 rfl hl (by decide) rfl (fun ls hl => ?_)
  refine j_iconst E 5 rfl dX10_unlike_4 ?_
  refine j_istore E 7 rfl [(4, .int (J 0)), (3, .int (J 0)), (2, .int (J 0)), (0, .ref (q 0)), (1, .int (J v_x))] dX10_unlike_5 hl (by decide) rfl (fun ls hl => ?_)
  have L7_1 : ∀ (k7 : Nat) (gs gi : Int) (H : Heap) (locs : List Loc) (ls : Array Slot), inR gs → inR gi → (0 ≤ gi ∧ gi ≤ 24 ∧ gi ≤ (n_0 2) ∧ Bq_ gs (Us_ (fun p_ => (f_0 6 p_) = -1 ∧ 0 < (f_0 19 (24 * p_ + v_x))) (fun p_ => (f_0 20 (24 * p_ + v_x))) gi)) → (24 - gi) < (k7 : Int) → WM D cy q (n_0) (f_0) A0 H0 H locs → lv_has ls 5 [(0, .ref (q 0)), (1, .int (J v_x)), (2, .int (J gs)), (3, .int (J 0)), (4, .int (J gi))] → W p l e (rmd 2 0 0) s m ar below meth c H locs 0 0 QW (F0 m 7 ls []) := by
    intro k7
    induction k7 with
    | zero =>
      intro gs gi H locs ls r_gs r_gi iv7 ms7 hw hl
      exfalso; omega
    | succ k7 ih7 =>
      intro gs gi H locs ls r_gs r_gi iv7 ms7 hw hl
      refine j_iload E 9 rfl dX10_unlike_7 (lv_at hl 4 rfl) ?_
      refine j_aload_n E 10 rfl dX10_unlike_9 rfl (lv_at hl 0 rfl) ?_
      refine m_get_2 E hK hw (n_0 2) rfl 13 rfl dX10_unlike_10 (fun rr3_ => ?_)
      refine j_icmp_ge E 16 58 rfl r_gi rr3_ dX10_unlike_13 (by decide) (fun cc4_ => ?_) (fun cc4_ => ?_)
      · refine j_iload_n E 59 rfl dX10_unlike_58 rfl (lv_at hl 2 rfl) ?_
        refine j_istore E 61 rfl [(4, .int (J gs)), (0, .ref (q 0)), (1, .int (J v_x)), (2, .int (J gs)), (3, .int (J 0))] dX10_unlike_59 hl (by decide) rfl (fun ls hl => ?_)
        have L61_5 : ∀ (k61 : Nat) (gc gv : Int) (H : Heap) (locs : List Loc) (ls : Array Slot), inR gc → inR gv → (0 ≤ gc ∧ gc + cn_ gv = cn_ gs) → (cn_ gv) < (k61 : Int) → WM D cy q (n_0) (f_0) A0 H0 H locs → lv_has ls 5 [(0, .ref (q 0)), (1, .int (J v_x)), (3, .int (J gc)), (4, .int (J gv))] → W p l e (rmd 2 0 0) s m ar below meth c H locs 0 0 QW (F0 m 61 ls []) := by
          intro k61
          induction k61 with
          | zero =>
            intro gc gv H locs ls r_gc r_gv iv61 ms61 hw hl
            exfalso; have := cn_nn gv; omega
          | succ k61 ih61 =>
            intro gc gv H locs ls r_gc r_gv iv61 ms61 hw hl
            have b1_ := cn_nn gv
            have b2_ := cn_le gs
            refine j_iload E 63 rfl dX10_unlike_61 (lv_at hl 3 rfl) ?_
            refine j_if_eq E 66 82 rfl r_gv dX10_unlike_63 (by decide) (fun cc7_ => ?_) (fun cc7_ => ?_)
            · have hz_ : cn_ gv = 0 := by rw [show gv = 0 by assumption]; exact cn_0
              refine j_iload_n E 83 rfl dX10_unlike_82 rfl (lv_at hl 2 rfl) ?_
              exact hret 83 gc (n_0) (f_0) _ _ ls hw r_gc ⟨⟨rfl, rfl⟩, ⟨gs, by rw [show (n_0 2) = gi by omega]; exact iv7.2.2.2, by omega⟩⟩ dX10_unlike_83
            · refine j_iload_n E 67 rfl dX10_unlike_66 rfl (lv_at hl 2 rfl) ?_
              refine j_iconst E 68 rfl dX10_unlike_67 ?_
              refine j_iadd E 69 rfl dX10_unlike_68 ?_
              refine j_istore_n E 70 rfl [(3, .int (J (gc + 1))), (0, .ref (q 0)), (1, .int (J v_x)), (4, .int (J gv))] dX10_unlike_69 rfl hl (by decide) rfl (fun ls hl => ?_)
              refine j_iload E 72 rfl dX10_unlike_70 (lv_at hl 3 rfl) ?_
              refine j_iload E 74 rfl dX10_unlike_72 (lv_at hl 3 rfl) ?_
              refine j_iconst E 75 rfl dX10_unlike_74 ?_
              refine j_isub E 76 rfl dX10_unlike_75 ?_
              refine j_iand E 77 rfl dX10_unlike_76 (fun zz8_ rr8_ ee8_ => ?_)
              have hu_ := cn_and ee8_ (by omega)
              refine j_istore E 79 rfl [(4, .int (J zz8_)), (3, .int (J (gc + 1))), (0, .ref (q 0)), (1, .int (J v_x))] dX10_unlike_77 hl (by decide) rfl (fun ls hl => ?_)
              refine j_goto E 61 dX10_unlike_79 (by decide) ?_
              exact ih61 (gc + 1) zz8_ H locs ls (rr (by omega)) rr8_ (⟨by omega, by omega⟩) (by omega) hw (lv_sub hl [2, 3, 1, 0] rfl)
        exact L61_5 _ 0 gs H locs ls (rr (by decide)) r_gs (⟨by omega, by omega⟩) (mk_lt _) hw (lv_sub hl [1, 2, 4, 0] rfl)
      · refine j_aload_n E 17 rfl dX10_unlike_16 rfl (lv_at hl 0 rfl) ?_
        refine j_iload E 19 rfl dX10_unlike_17 (lv_at hl 4 rfl) ?_
        refine m_callp (po := fun z_0 => (z_0 = 1 ∧ 0 ≤ gi ∧ gi < (n_0 2) ∧ (f_0 6 gi) = -1) ∨ (z_0 = 0 ∧ ¬ (0 ≤ gi ∧ gi < (n_0 2) ∧ (f_0 6 gi) = -1))) E (c_X10_isLiving l D cy q (n_0) (f_0) gi  r_gi (show (n_0 2) ≤ 24 from by omega)) rfl mt_X10_isLiving ml_X10_176 hK hw hA ⟨Nat.le_of_ble_eq_true rfl, Nat.le_of_ble_eq_true rfl⟩ (As := [.int (J gi)]) (rest := []) rfl rfl hl.1 (Nat.le_of_ble_eq_true rfl) 22 rfl dX10_unlike_19 (fun zz9_ H locs rr9_ hq9_ hw => ?_)
        have hh9_ : (zz9_ = 1 ∧ 0 ≤ gi ∧ gi < (n_0 2) ∧ (f_0 6 gi) = -1) ∨ (zz9_ = 0 ∧ ¬ (0 ≤ gi ∧ gi < (n_0 2) ∧ (f_0 6 gi) = -1)) := hq9_
        clear hq9_
        rcases hh9_ with ⟨ee9_, hh9_⟩ | ⟨ee9_, hh9_⟩
        · subst ee9_
          have hl_ := hh9_
          clear hh9_
          refine j_if_eq E 25 52 rfl (rr (by decide)) dX10_unlike_22 (by decide) (fun cc10_ => absurd cc10_ (by decide)) (fun _ => ?_)
          refine j_aload_n E 26 rfl dX10_unlike_25 rfl (lv_at hl 0 rfl) ?_
          refine j_iload E 28 rfl dX10_unlike_26 (lv_at hl 4 rfl) ?_
          refine j_iload_n E 29 rfl dX10_unlike_28 rfl (lv_at hl 1 rfl) ?_
          refine m_callp (po := fun z_0 => (z_0 = 1 ∧ 0 < (f_0 19 (24 * gi + v_x))) ∨ (z_0 = 0 ∧ ¬ (0 < (f_0 19 (24 * gi + v_x))))) E (c_X10_hasLine l D cy q (n_0) (f_0) gi v_x  r_gi r_v_x (show 0 ≤ gi ∧ gi < 24 from by omega) (show 0 ≤ v_x ∧ v_x < 24 from by omega)) rfl mt_X10_hasLine ml_X10_198 hK hw hA ⟨Nat.le_of_ble_eq_true rfl, Nat.le_of_ble_eq_true rfl⟩ (As := [.int (J gi), .int (J v_x)]) (rest := []) rfl rfl hl.1 (Nat.le_of_ble_eq_true rfl) 32 rfl dX10_unlike_29 (fun zz11_ H locs rr11_ hq11_ hw => ?_)
          have hh11_ : (zz11_ = 1 ∧ 0 < (f_0 19 (24 * gi + v_x))) ∨ (zz11_ = 0 ∧ ¬ (0 < (f_0 19 (24 * gi + v_x)))) := hq11_
          clear hq11_
          rcases hh11_ with ⟨ee11_, hh11_⟩ | ⟨ee11_, hh11_⟩
          · subst ee11_
            have hh_ := hh11_
            clear hh11_
            refine j_if_eq E 35 52 rfl (rr (by decide)) dX10_unlike_32 (by decide) (fun cc12_ => absurd cc12_ (by decide)) (fun _ => ?_)
            refine j_iload_n E 36 rfl dX10_unlike_35 rfl (lv_at hl 2 rfl) ?_
            refine j_iconst E 37 rfl dX10_unlike_36 ?_
            refine j_aload_n E 38 rfl dX10_unlike_37 rfl (lv_at hl 0 rfl) ?_
            refine m_ag_20 E hK hw 41 rfl dX10_unlike_38 ?_
            refine j_bipush E 43 rfl dX10_unlike_41 (by decide) ?_
            refine j_iload E 45 rfl dX10_unlike_43 (lv_at hl 4 rfl) ?_
            refine j_imul E 46 rfl dX10_unlike_45 ?_
            refine j_iload_n E 47 rfl dX10_unlike_46 rfl (lv_at hl 1 rfl) ?_
            refine j_iadd E 48 rfl dX10_unlike_47 ?_
            refine m_ld_20 E hK hw (f_0 20 ((24 * gi) + v_x)) rfl (by omega) 49 rfl dX10_unlike_48 (fun rr13_ => ?_)
            have ws_ := hp2 (24 * gi + v_x) hh_
            refine j_ishl E 50 rfl dX10_unlike_49 (fun zz14_ rr14_ ee14_ => ?_)
            have e1_ := ee14_
            refine j_ior E 51 rfl dX10_unlike_50 (fun zz15_ rr15_ ee15_ => ?_)
            have e2_ := ee15_
            refine j_istore_n E 52 rfl [(2, .int (J zz15_)), (0, .ref (q 0)), (1, .int (J v_x)), (3, .int (J 0)), (4, .int (J gi))] dX10_unlike_51 rfl hl (by decide) rfl (fun ls hl => ?_)
            refine j_iinc E 55 rfl [(4, .int (J (gi + 1))), (2, .int (J zz15_)), (0, .ref (q 0)), (1, .int (J v_x)), (3, .int (J 0))] dX10_unlike_52 hl (kk := 4) rfl (by decide) rfl (fun ls hl => ?_)
            refine j_goto E 7 dX10_unlike_55 (by decide) ?_
            exact ih7 zz15_ (gi + 1) H locs ls rr15_ (rr (by omega)) (⟨by omega, by omega, by omega, by first | exact Bq_up iv7.2.2.2 e1_ e2_ (by omega) (fun i_ _ _ => Us_y (by omega) ⟨hl_.2.2, hh_⟩ rfl i_) | exact Bq_cg iv7.2.2.2 (fun i_ _ _ => Us_n (fun q_ => hn_ ⟨by omega, by omega, q_.1⟩) i_) | exact Bq_cg iv7.2.2.2 (fun i_ _ _ => Us_n (fun q_ => hk_ q_.2) i_)⟩) (by omega) hw (lv_sub hl [2, 3, 1, 4, 0] rfl)
          · subst ee11_
            have hk_ := hh11_
            clear hh11_
            refine j_if_eq E 35 52 rfl (rr (by decide)) dX10_unlike_32 (by decide) (fun _ => ?_) (fun cc16_ => absurd cc16_ (by decide))
            refine j_iinc E 55 rfl [(4, .int (J (gi + 1))), (0, .ref (q 0)), (1, .int (J v_x)), (2, .int (J gs)), (3, .int (J 0))] dX10_unlike_52 hl (kk := 4) rfl (by decide) rfl (fun ls hl => ?_)
            refine j_goto E 7 dX10_unlike_55 (by decide) ?_
            exact ih7 gs (gi + 1) H locs ls r_gs (rr (by omega)) (⟨by omega, by omega, by omega, by first | exact Bq_up iv7.2.2.2 e1_ e2_ (by omega) (fun i_ _ _ => Us_y (by omega) ⟨hl_.2.2, hh_⟩ rfl i_) | exact Bq_cg iv7.2.2.2 (fun i_ _ _ => Us_n (fun q_ => hn_ ⟨by omega, by omega, q_.1⟩) i_) | exact Bq_cg iv7.2.2.2 (fun i_ _ _ => Us_n (fun q_ => hk_ q_.2) i_)⟩) (by omega) hw (lv_sub hl [1, 2, 3, 4, 0] rfl)
        · subst ee9_
          have hn_ := hh9_
          clear hh9_
          refine j_if_eq E 25 52 rfl (rr (by decide)) dX10_unlike_22 (by decide) (fun _ => ?_) (fun cc17_ => absurd cc17_ (by decide))
          refine j_iinc E 55 rfl [(4, .int (J (gi + 1))), (0, .ref (q 0)), (1, .int (J v_x)), (2, .int (J gs)), (3, .int (J 0))] dX10_unlike_52 hl (kk := 4) rfl (by decide) rfl (fun ls hl => ?_)
          refine j_goto E 7 dX10_unlike_55 (by decide) ?_
          exact ih7 gs (gi + 1) H locs ls r_gs (rr (by omega)) (⟨by omega, by omega, by omega, by first | exact Bq_up iv7.2.2.2 e1_ e2_ (by omega) (fun i_ _ _ => Us_y (by omega) ⟨hl_.2.2, hh_⟩ rfl i_) | exact Bq_cg iv7.2.2.2 (fun i_ _ _ => Us_n (fun q_ => hn_ ⟨by omega, by omega, q_.1⟩) i_) | exact Bq_cg iv7.2.2.2 (fun i_ _ _ => Us_n (fun q_ => hk_ q_.2) i_)⟩) (by omega) hw (lv_sub hl [1, 2, 3, 4, 0] rfl)
  exact L7_1 _ 0 0 H locs ls (rr (by decide)) (rr (by decide)) (⟨by omega, by omega, by omega, Bq_0 (fun i_ _ _ => Us_0 i_)⟩) (mk_lt _) hw (lv_sub hl [3, 4, 2, 1, 0] rfl)
set_option maxHeartbeats 4000000 in
set_option maxRecDepth 100000 in
theorem c_X10_lineOf (l : Launch) (D : va_G) (cy : Nat → ClassId) (q : Nat → Nat) (n_0 : Nat → Int) (f_0 : Nat → Int → Int) (v_x v_what : Int) (r_v_x : inR v_x) (r_v_what : inR v_what) (hp0 : MI (n_0) (f_0)) : MC l D cy q yX10_lineOf cX10_lineOf 3 (some .int) 3 [.int (J v_x), .int (J v_what)] n_0 f_0 (PI (fun (z_0 : Int) (n_2 : Nat → Int) (f_2 : Nat → Int → Int) => ∃ (x0_2 : Int) , n_2 = upN n_0 0 x0_2 ∧ f_2 = f_0 ∧ (MI (upN n_0 0 x0_2) (f_0) ∧ ((¬ (0 ≤ v_x ∧ v_x < (n_0 12)) ∧ z_0 = -1) ∨ ((0 ≤ v_x ∧ v_x < (n_0 12)) ∧ Lo_ v_what ((f_0 13 v_x)) ((f_0 14 v_x)) ((f_0 15 v_x)) ((f_0 16 v_x)) (nq_ (fun p_ => (f_0 6 p_) = -1 ∧ 0 < (f_0 19 (24 * p_ + v_x))) ((n_0 2)).toNat) (Us_ (fun p_ => (f_0 6 p_) = -1 ∧ 0 < (f_0 19 (24 * p_ + v_x))) (fun p_ => (f_0 20 (24 * p_ + v_x))) (n_0 2)) ((f_0 17 v_x)) z_0))))) := by
  refine MC.ofi rfl (Nat.le_of_ble_eq_true rfl) ?_
  intro p e s m below meth c ls ar QW A0 H0 H locs E hK hA hw hl hret
  have hl : lv_has ls 3 [(0, .ref (q 0)), (1, .int (J v_x)), (2, .int (J v_what))] := hl
  have hp0_ := hp0
  obtain ⟨i_now, i_persons, i_lines, i_wordings, i_taped, i_suits, i_spk, i_fam, i_str, i_said, i_book, i_wds, i_tok, i_cod, i_far, i_tap, i_qua, i_sil, i_stz, i_way⟩ := hp0_
  refine j_aload_n E 1 rfl dX10_lineOf_0 rfl (lv_at hl 0 rfl) ?_
  refine j_iconst E 2 rfl dX10_lineOf_1 ?_
  refine m_put_0 E hK hw (rr (by decide)) 5 rfl dX10_lineOf_2 (fun H locs hw => ?_)
  have hw : WM D cy q (upN n_0 0 0) (f_0) A0 H0 H locs := hw
  refine j_aload_n E 6 rfl dX10_lineOf_5 rfl (lv_at hl 0 rfl) ?_
  refine j_iload_n E 7 rfl dX10_lineOf_6 rfl (lv_at hl 1 rfl) ?_
  refine m_callp (po := fun z_0 => (z_0 = 1 ∧ 0 ≤ v_x ∧ v_x < (n_0 12)) ∨ (z_0 = 0 ∧ (v_x < 0 ∨ (n_0 12) ≤ v_x))) E (c_X10_isLine l D cy q (upN n_0 0 0) (f_0) v_x  r_v_x ) rfl mt_X10_isLine ml_X10_188 hK hw hA ⟨Nat.le_of_ble_eq_true rfl, Nat.le_of_ble_eq_true rfl⟩ (As := [.int (J v_x)]) (rest := []) rfl rfl hl.1 (Nat.le_of_ble_eq_true rfl) 10 rfl dX10_lineOf_7 (fun zz2_ H locs rr2_ hq2_ hw => ?_)
  have hh2_ : (zz2_ = 1 ∧ 0 ≤ v_x ∧ v_x < (n_0 12)) ∨ (zz2_ = 0 ∧ (v_x < 0 ∨ (n_0 12) ≤ v_x)) := hq2_
  clear hq2_
  rcases hh2_ with ⟨ee2_, hh2_⟩ | ⟨ee2_, hh2_⟩
  · subst ee2_
    refine j_if_ne E 13 15 rfl (rr (by decide)) dX10_lineOf_10 (by decide) (fun _ => ?_) (fun cc3_ => absurd cc3_ (by decide))
    refine j_iload_n E 16 rfl dX10_lineOf_15 rfl (lv_at hl 2 rfl) ?_
    refine j_if_ne E 19 26 rfl r_v_what dX10_lineOf_16 (by decide) (fun cc4_ => ?_) (fun cc4_ => ?_)
    · refine j_iload_n E 27 rfl dX10_lineOf_26 rfl (lv_at hl 2 rfl) ?_
      refine j_iconst E 28 rfl dX10_lineOf_27 ?_
      refine j_icmp_ne E 31 46 rfl r_v_what (rr (by decide)) dX10_lineOf_28 (by decide) (fun cc5_ => ?_) (fun cc5_ => ?_)
      · refine j_iload_n E 47 rfl dX10_lineOf_46 rfl (lv_at hl 2 rfl) ?_
        refine j_iconst E 48 rfl dX10_lineOf_47 ?_
        refine j_icmp_ne E 51 58 rfl r_v_what (rr (by decide)) dX10_lineOf_48 (by decide) (fun cc6_ => ?_) (fun cc6_ => ?_)
        · refine j_iload_n E 59 rfl dX10_lineOf_58 rfl (lv_at hl 2 rfl) ?_
          refine j_iconst E 60 rfl dX10_lineOf_59 ?_
          refine j_icmp_ne E 63 70 rfl r_v_what (rr (by decide)) dX10_lineOf_60 (by decide) (fun cc7_ => ?_) (fun cc7_ => ?_)
          · refine j_iload_n E 71 rfl dX10_lineOf_70 rfl (lv_at hl 2 rfl) ?_
            refine j_iconst E 72 rfl dX10_lineOf_71 ?_
            refine j_icmp_ne E 75 81 rfl r_v_what (rr (by decide)) dX10_lineOf_72 (by decide) (fun cc8_ => ?_) (fun cc8_ => ?_)
            · refine j_iload_n E 82 rfl dX10_lineOf_81 rfl (lv_at hl 2 rfl) ?_
              refine j_iconst E 83 rfl dX10_lineOf_82 ?_
              refine j_icmp_ne E 86 92 rfl r_v_what (rr (by decide)) dX10_lineOf_83 (by decide) (fun cc9_ => ?_) (fun cc9_ => ?_)
              · refine j_iload_n E 93 rfl dX10_lineOf_92 rfl (lv_at hl 2 rfl) ?_
                refine j_bipush E 95 rfl dX10_lineOf_93 (by decide) ?_
                refine j_icmp_ne E 98 107 rfl r_v_what (rr (by decide)) dX10_lineOf_95 (by decide) (fun cc10_ => ?_) (fun cc10_ => ?_)
                · refine j_iconst E 108 rfl dX10_lineOf_107 ?_
                  exact hret 108 ((-1)) (upN n_0 0 0) (f_0) _ _ ls hw (rr (by decide)) ⟨0, rfl, rfl, ⟨⟨i_now, i_persons, i_lines, i_wordings, i_taped, i_suits, i_spk, i_fam, i_str, i_said, i_book, i_wds, i_tok, i_cod, i_far, i_tap, i_qua, i_sil, i_stz, i_way⟩, by first | exact Or.inr ⟨by omega, Or.inr (Or.inr (Or.inr (Or.inr (Or.inr (Or.inr (Or.inl ⟨by omega, rfl⟩))))))⟩ | exact Or.inr ⟨by omega, Or.inr (Or.inr (Or.inr (Or.inr (Or.inr (Or.inr (Or.inr (⟨by omega, rfl⟩)))))))⟩⟩⟩ dX10_lineOf_108
                · refine j_aload_n E 99 rfl dX10_lineOf_98 rfl (lv_at hl 0 rfl) ?_
                  refine m_ag_17 E hK hw 102 rfl dX10_lineOf_99 ?_
                  refine j_iload_n E 103 rfl dX10_lineOf_102 rfl (lv_at hl 1 rfl) ?_
                  refine m_ld_17 E hK hw (f_0 17 v_x) rfl (by omega) 104 rfl dX10_lineOf_103 (fun rr11_ => ?_)
                  refine j_goto E 108 dX10_lineOf_104 (by decide) ?_
                  exact hret 108 (f_0 17 v_x) (upN n_0 0 0) (f_0) _ _ ls hw rr11_ ⟨0, rfl, rfl, ⟨⟨i_now, i_persons, i_lines, i_wordings, i_taped, i_suits, i_spk, i_fam, i_str, i_said, i_book, i_wds, i_tok, i_cod, i_far, i_tap, i_qua, i_sil, i_stz, i_way⟩, by first | exact Or.inr ⟨by omega, Or.inr (Or.inr (Or.inr (Or.inr (Or.inr (Or.inr (Or.inl ⟨by omega, rfl⟩))))))⟩ | exact Or.inr ⟨by omega, Or.inr (Or.inr (Or.inr (Or.inr (Or.inr (Or.inr (Or.inr (⟨by omega, rfl⟩)))))))⟩⟩⟩ dX10_lineOf_108
              · refine j_aload_n E 87 rfl dX10_lineOf_86 rfl (lv_at hl 0 rfl) ?_
                refine j_iload_n E 88 rfl dX10_lineOf_87 rfl (lv_at hl 1 rfl) ?_
                refine m_callp (po := fun z_0 => ∃ g_, Bq_ g_ (Us_ (fun p_ => (f_0 6 p_) = -1 ∧ 0 < (f_0 19 (24 * p_ + v_x))) (fun p_ => (f_0 20 (24 * p_ + v_x))) (n_0 2)) ∧ z_0 = cn_ g_) E (c_X10_unlike l D cy q (upN n_0 0 0) (f_0) v_x  r_v_x (show 0 ≤ (n_0 2) ∧ (n_0 2) ≤ 24 from by omega) (show 0 ≤ v_x ∧ v_x < 24 from by omega) (show Str_ (f_0 19) (f_0 20) (n_0 29) from i_str) (show (n_0 29) ≤ 32 from by omega)) rfl mt_X10_unlike ml_X10_206 hK hw hA ⟨Nat.le_of_ble_eq_true rfl, Nat.le_of_ble_eq_true rfl⟩ (As := [.int (J v_x)]) (rest := []) rfl rfl hl.1 (Nat.le_of_ble_eq_true rfl) 91 rfl dX10_lineOf_88 (fun zz12_ H locs rr12_ hq12_ hw => ?_)
                have hh12_ : ∃ g_, Bq_ g_ (Us_ (fun p_ => (f_0 6 p_) = -1 ∧ 0 < (f_0 19 (24 * p_ + v_x))) (fun p_ => (f_0 20 (24 * p_ + v_x))) (n_0 2)) ∧ zz12_ = cn_ g_ := hq12_
                clear hq12_
                have uk_ := hh12_
                clear hh12_
                exact hret 91 zz12_ (upN n_0 0 0) (f_0) _ _ ls hw rr12_ ⟨0, rfl, rfl, ⟨⟨i_now, i_persons, i_lines, i_wordings, i_taped, i_suits, i_spk, i_fam, i_str, i_said, i_book, i_wds, i_tok, i_cod, i_far, i_tap, i_qua, i_sil, i_stz, i_way⟩, Or.inr ⟨by omega, Or.inr (Or.inr (Or.inr (Or.inr (Or.inr (Or.inl ⟨by omega, uk_⟩)))))⟩⟩⟩ dX10_lineOf_91
            · refine j_aload_n E 76 rfl dX10_lineOf_75 rfl (lv_at hl 0 rfl) ?_
              refine j_iload_n E 77 rfl dX10_lineOf_76 rfl (lv_at hl 1 rfl) ?_
              refine m_callp (po := fun z_0 => (0 ≤ z_0 ∧ z_0 ≤ 24) ∧ z_0 = nq_ (fun p_ => (f_0 6 p_) = -1 ∧ 0 < (f_0 19 (24 * p_ + v_x))) ((n_0 2)).toNat) E (c_X10_livingWith l D cy q (upN n_0 0 0) (f_0) v_x  r_v_x (show (n_0 2) ≤ 24 from by omega) (show 0 ≤ v_x ∧ v_x < 24 from by omega)) rfl mt_X10_livingWith ml_X10_202 hK hw hA ⟨Nat.le_of_ble_eq_true rfl, Nat.le_of_ble_eq_true rfl⟩ (As := [.int (J v_x)]) (rest := []) rfl rfl hl.1 (Nat.le_of_ble_eq_true rfl) 80 rfl dX10_lineOf_77 (fun zz13_ H locs rr13_ hq13_ hw => ?_)
              have hh13_ : (0 ≤ zz13_ ∧ zz13_ ≤ 24) ∧ zz13_ = nq_ (fun p_ => (f_0 6 p_) = -1 ∧ 0 < (f_0 19 (24 * p_ + v_x))) ((n_0 2)).toNat := hq13_
              clear hq13_
              have lw_ := hh13_.2
              exact hret 80 zz13_ (upN n_0 0 0) (f_0) _ _ ls hw rr13_ ⟨0, rfl, rfl, ⟨⟨i_now, i_persons, i_lines, i_wordings, i_taped, i_suits, i_spk, i_fam, i_str, i_said, i_book, i_wds, i_tok, i_cod, i_far, i_tap, i_qua, i_sil, i_stz, i_way⟩, Or.inr ⟨by omega, Or.inr (Or.inr (Or.inr (Or.inr (Or.inl ⟨by omega, lw_⟩))))⟩⟩⟩ dX10_lineOf_80
          · refine j_aload_n E 64 rfl dX10_lineOf_63 rfl (lv_at hl 0 rfl) ?_
            refine m_ag_16 E hK hw 67 rfl dX10_lineOf_64 ?_
            refine j_iload_n E 68 rfl dX10_lineOf_67 rfl (lv_at hl 1 rfl) ?_
            refine m_ld_16 E hK hw (f_0 16 v_x) rfl (by omega) 69 rfl dX10_lineOf_68 (fun rr14_ => ?_)
            exact hret 69 (f_0 16 v_x) (upN n_0 0 0) (f_0) _ _ ls hw rr14_ ⟨0, rfl, rfl, ⟨⟨i_now, i_persons, i_lines, i_wordings, i_taped, i_suits, i_spk, i_fam, i_str, i_said, i_book, i_wds, i_tok, i_cod, i_far, i_tap, i_qua, i_sil, i_stz, i_way⟩, Or.inr ⟨by omega, Or.inr (Or.inr (Or.inr (Or.inl ⟨by omega, rfl⟩)))⟩⟩⟩ dX10_lineOf_69
        · refine j_aload_n E 52 rfl dX10_lineOf_51 rfl (lv_at hl 0 rfl) ?_
          refine m_ag_15 E hK hw 55 rfl dX10_lineOf_52 ?_
          refine j_iload_n E 56 rfl dX10_lineOf_55 rfl (lv_at hl 1 rfl) ?_
          refine m_ld_15 E hK hw (f_0 15 v_x) rfl (by omega) 57 rfl dX10_lineOf_56 (fun rr15_ => ?_)
          exact hret 57 (f_0 15 v_x) (upN n_0 0 0) (f_0) _ _ ls hw rr15_ ⟨0, rfl, rfl, ⟨⟨i_now, i_persons, i_lines, i_wordings, i_taped, i_suits, i_spk, i_fam, i_str, i_said, i_book, i_wds, i_tok, i_cod, i_far, i_tap, i_qua, i_sil, i_stz, i_way⟩, Or.inr ⟨by omega, Or.inr (Or.inr (Or.inl ⟨by omega, rfl⟩))⟩⟩⟩ dX10_lineOf_57
      · refine j_aload_n E 32 rfl dX10_lineOf_31 rfl (lv_at hl 0 rfl) ?_
        refine m_ag_14 E hK hw 35 rfl dX10_lineOf_32 ?_
        refine j_iload_n E 36 rfl dX10_lineOf_35 rfl (lv_at hl 1 rfl) ?_
        refine m_ld_14 E hK hw (f_0 14 v_x) rfl (by omega) 37 rfl dX10_lineOf_36 (fun rr16_ => ?_)
        refine j_if_eq E 40 44 rfl rr16_ dX10_lineOf_37 (by decide) (fun cc17_ => ?_) (fun cc17_ => ?_)
        · refine j_iconst E 45 rfl dX10_lineOf_44 ?_
          exact hret 45 0 (upN n_0 0 0) (f_0) _ _ ls hw (rr (by decide)) ⟨0, rfl, rfl, ⟨⟨i_now, i_persons, i_lines, i_wordings, i_taped, i_suits, i_spk, i_fam, i_str, i_said, i_book, i_wds, i_tok, i_cod, i_far, i_tap, i_qua, i_sil, i_stz, i_way⟩, by first | exact Or.inr ⟨by omega, Or.inr (Or.inl ⟨by omega, Or.inl ⟨rfl, by omega⟩⟩)⟩ | exact Or.inr ⟨by omega, Or.inr (Or.inl ⟨by omega, Or.inr ⟨rfl, by omega⟩⟩)⟩⟩⟩ dX10_lineOf_45
        · refine j_iconst E 41 rfl dX10_lineOf_40 ?_
          refine j_goto E 45 dX10_lineOf_41 (by decide) ?_
          exact hret 45 1 (upN n_0 0 0) (f_0) _ _ ls hw (rr (by decide)) ⟨0, rfl, rfl, ⟨⟨i_now, i_persons, i_lines, i_wordings, i_taped, i_suits, i_spk, i_fam, i_str, i_said, i_book, i_wds, i_tok, i_cod, i_far, i_tap, i_qua, i_sil, i_stz, i_way⟩, by first | exact Or.inr ⟨by omega, Or.inr (Or.inl ⟨by omega, Or.inl ⟨rfl, by omega⟩⟩)⟩ | exact Or.inr ⟨by omega, Or.inr (Or.inl ⟨by omega, Or.inr ⟨rfl, by omega⟩⟩)⟩⟩⟩ dX10_lineOf_45
    · refine j_aload_n E 20 rfl dX10_lineOf_19 rfl (lv_at hl 0 rfl) ?_
      refine m_ag_13 E hK hw 23 rfl dX10_lineOf_20 ?_
      refine j_iload_n E 24 rfl dX10_lineOf_23 rfl (lv_at hl 1 rfl) ?_
      refine m_ld_13 E hK hw (f_0 13 v_x) rfl (by omega) 25 rfl dX10_lineOf_24 (fun rr18_ => ?_)
      exact hret 25 (f_0 13 v_x) (upN n_0 0 0) (f_0) _ _ ls hw rr18_ ⟨0, rfl, rfl, ⟨⟨i_now, i_persons, i_lines, i_wordings, i_taped, i_suits, i_spk, i_fam, i_str, i_said, i_book, i_wds, i_tok, i_cod, i_far, i_tap, i_qua, i_sil, i_stz, i_way⟩, Or.inr ⟨by omega, Or.inl ⟨by omega, rfl⟩⟩⟩⟩ dX10_lineOf_25
  · subst ee2_
    refine j_if_ne E 13 15 rfl (rr (by decide)) dX10_lineOf_10 (by decide) (fun cc19_ => absurd cc19_ (by decide)) (fun _ => ?_)
    refine j_iconst E 14 rfl dX10_lineOf_13 ?_
    exact hret 14 ((-1)) (upN n_0 0 0) (f_0) _ _ ls hw (rr (by decide)) ⟨0, rfl, rfl, ⟨⟨i_now, i_persons, i_lines, i_wordings, i_taped, i_suits, i_spk, i_fam, i_str, i_said, i_book, i_wds, i_tok, i_cod, i_far, i_tap, i_qua, i_sil, i_stz, i_way⟩, Or.inl ⟨by omega, rfl⟩⟩⟩ dX10_lineOf_14
set_option maxHeartbeats 4000000 in
set_option maxRecDepth 100000 in
theorem c_X10_takesFacts (l : Launch) (D : va_G) (cy : Nat → ClassId) (q : Nat → Nat) (n_0 : Nat → Int) (f_0 : Nat → Int → Int) (v_harm v_witnesses v_years v_kin v_age : Int) (r_v_harm : inR v_harm) (r_v_witnesses : inR v_witnesses) (r_v_years : inR v_years) (r_v_kin : inR v_kin) (r_v_age : inR v_age) : MC l D cy q yX10_takesFacts cX10_takesFacts 6 (some .boolean) 2 [.int (J v_harm), .int (J v_witnesses), .int (J v_years), .int (J v_kin), .int (J v_age)] n_0 f_0 (PI (fun (z_0 : Int) (n_2 : Nat → Int) (f_2 : Nat → Int → Int) => ∃ (y45_2 : Int → Int) , n_2 = n_0 ∧ f_2 = upF f_0 45 y45_2 ∧ ((z_0 = 1 ∧ (0 ≤ v_harm ∧ v_harm ≤ 99 ∧ 0 ≤ v_witnesses ∧ v_witnesses ≤ 9 ∧ 0 ≤ v_years ∧ v_years ≤ 299 ∧ 0 ≤ v_kin ∧ v_kin ≤ 1 ∧ -99 ≤ v_age ∧ v_age ≤ 299) ∧ ∀ i, 0 ≤ i → i ≤ 4 → (y45_2 i) = fcf_ v_harm v_witnesses v_years v_kin v_age i) ∨ (z_0 = 0 ∧ ¬ (0 ≤ v_harm ∧ v_harm ≤ 99 ∧ 0 ≤ v_witnesses ∧ v_witnesses ≤ 9 ∧ 0 ≤ v_years ∧ v_years ≤ 299 ∧ 0 ≤ v_kin ∧ v_kin ≤ 1 ∧ -99 ≤ v_age ∧ v_age ≤ 299) ∧ (y45_2) = (f_0 45))))) := by
  refine MC.ofz rfl (Nat.le_of_ble_eq_true rfl) ?_
  intro p e s m below meth c ls ar QW A0 H0 H locs E hK hA hw hl hret
  have hl : lv_has ls 6 [(0, .ref (q 0)), (1, .int (J v_harm)), (2, .int (J v_witnesses)), (3, .int (J v_years)), (4, .int (J v_kin)), (5, .int (J v_age))] := hl
  refine j_aload_n E 1 rfl dX10_takesFacts_0 rfl (lv_at hl 0 rfl) ?_
  refine j_iload_n E 2 rfl dX10_takesFacts_1 rfl (lv_at hl 1 rfl) ?_
  refine j_bipush E 4 rfl dX10_takesFacts_2 (by decide) ?_
  refine m_callp (po := fun z_0 => (z_0 = 1 ∧ 0 ≤ v_harm ∧ v_harm ≤ (99 : Int)) ∨ (z_0 = 0 ∧ (v_harm < 0 ∨ (99 : Int) < v_harm))) E (c_X10_isFact l D cy q (n_0) (f_0) v_harm 99  r_v_harm (rr (by decide)) ) rfl mt_X10_isFact ml_X10_320 hK hw hA ⟨Nat.le_of_ble_eq_true rfl, Nat.le_of_ble_eq_true rfl⟩ (As := [.int (J v_harm), .int (J 99)]) (rest := []) rfl rfl hl.1 (Nat.le_of_ble_eq_true rfl) 7 rfl dX10_takesFacts_4 (fun zz1_ H locs rr1_ hq1_ hw => ?_)
  have hh1_ : (zz1_ = 1 ∧ 0 ≤ v_harm ∧ v_harm ≤ (99 : Int)) ∨ (zz1_ = 0 ∧ (v_harm < 0 ∨ (99 : Int) < v_harm)) := hq1_
  clear hq1_
  rcases hh1_ with ⟨ee1_, hh1_⟩ | ⟨ee1_, hh1_⟩
  · subst ee1_
    refine j_if_eq E 10 55 rfl (rr (by decide)) dX10_takesFacts_7 (by decide) (fun cc2_ => absurd cc2_ (by decide)) (fun _ => ?_)
    refine j_aload_n E 11 rfl dX10_takesFacts_10 rfl (lv_at hl 0 rfl) ?_
    refine j_iload_n E 12 rfl dX10_takesFacts_11 rfl (lv_at hl 2 rfl) ?_
    refine j_bipush E 14 rfl dX10_takesFacts_12 (by decide) ?_
    refine m_callp (po := fun z_0 => (z_0 = 1 ∧ 0 ≤ v_witnesses ∧ v_witnesses ≤ (9 : Int)) ∨ (z_0 = 0 ∧ (v_witnesses < 0 ∨ (9 : Int) < v_witnesses))) E (c_X10_isFact l D cy q (n_0) (f_0) v_witnesses 9  r_v_witnesses (rr (by decide)) ) rfl mt_X10_isFact ml_X10_320 hK hw hA ⟨Nat.le_of_ble_eq_true rfl, Nat.le_of_ble_eq_true rfl⟩ (As := [.int (J v_witnesses), .int (J 9)]) (rest := []) rfl rfl hl.1 (Nat.le_of_ble_eq_true rfl) 17 rfl dX10_takesFacts_14 (fun zz3_ H locs rr3_ hq3_ hw => ?_)
    have hh3_ : (zz3_ = 1 ∧ 0 ≤ v_witnesses ∧ v_witnesses ≤ (9 : Int)) ∨ (zz3_ = 0 ∧ (v_witnesses < 0 ∨ (9 : Int) < v_witnesses)) := hq3_
    clear hq3_
    rcases hh3_ with ⟨ee3_, hh3_⟩ | ⟨ee3_, hh3_⟩
    · subst ee3_
      refine j_if_eq E 20 55 rfl (rr (by decide)) dX10_takesFacts_17 (by decide) (fun cc4_ => absurd cc4_ (by decide)) (fun _ => ?_)
      refine j_aload_n E 21 rfl dX10_takesFacts_20 rfl (lv_at hl 0 rfl) ?_
      refine j_iload_n E 22 rfl dX10_takesFacts_21 rfl (lv_at hl 3 rfl) ?_
      refine j_sipush E 25 rfl dX10_takesFacts_22 (by decide) ?_
      refine m_callp (po := fun z_0 => (z_0 = 1 ∧ 0 ≤ v_years ∧ v_years ≤ (299 : Int)) ∨ (z_0 = 0 ∧ (v_years < 0 ∨ (299 : Int) < v_years))) E (c_X10_isFact l D cy q (n_0) (f_0) v_years 299  r_v_years (rr (by decide)) ) rfl mt_X10_isFact ml_X10_320 hK hw hA ⟨Nat.le_of_ble_eq_true rfl, Nat.le_of_ble_eq_true rfl⟩ (As := [.int (J v_years), .int (J 299)]) (rest := []) rfl rfl hl.1 (Nat.le_of_ble_eq_true rfl) 28 rfl dX10_takesFacts_25 (fun zz5_ H locs rr5_ hq5_ hw => ?_)
      have hh5_ : (zz5_ = 1 ∧ 0 ≤ v_years ∧ v_years ≤ (299 : Int)) ∨ (zz5_ = 0 ∧ (v_years < 0 ∨ (299 : Int) < v_years)) := hq5_
      clear hq5_
      rcases hh5_ with ⟨ee5_, hh5_⟩ | ⟨ee5_, hh5_⟩
      · subst ee5_
        refine j_if_eq E 31 55 rfl (rr (by decide)) dX10_takesFacts_28 (by decide) (fun cc6_ => absurd cc6_ (by decide)) (fun _ => ?_)
        refine j_aload_n E 32 rfl dX10_takesFacts_31 rfl (lv_at hl 0 rfl) ?_
        refine j_iload E 34 rfl dX10_takesFacts_32 (lv_at hl 4 rfl) ?_
        refine j_iconst E 35 rfl dX10_takesFacts_34 ?_
        refine m_callp (po := fun z_0 => (z_0 = 1 ∧ 0 ≤ v_kin ∧ v_kin ≤ (1 : Int)) ∨ (z_0 = 0 ∧ (v_kin < 0 ∨ (1 : Int) < v_kin))) E (c_X10_isFact l D cy q (n_0) (f_0) v_kin 1  r_v_kin (rr (by decide)) ) rfl mt_X10_isFact ml_X10_320 hK hw hA ⟨Nat.le_of_ble_eq_true rfl, Nat.le_of_ble_eq_true rfl⟩ (As := [.int (J v_kin), .int (J 1)]) (rest := []) rfl rfl hl.1 (Nat.le_of_ble_eq_true rfl) 38 rfl dX10_takesFacts_35 (fun zz7_ H locs rr7_ hq7_ hw => ?_)
        have hh7_ : (zz7_ = 1 ∧ 0 ≤ v_kin ∧ v_kin ≤ (1 : Int)) ∨ (zz7_ = 0 ∧ (v_kin < 0 ∨ (1 : Int) < v_kin)) := hq7_
        clear hq7_
        rcases hh7_ with ⟨ee7_, hh7_⟩ | ⟨ee7_, hh7_⟩
        · subst ee7_
          refine j_if_eq E 41 55 rfl (rr (by decide)) dX10_takesFacts_38 (by decide) (fun cc8_ => absurd cc8_ (by decide)) (fun _ => ?_)
          refine j_aload_n E 42 rfl dX10_takesFacts_41 rfl (lv_at hl 0 rfl) ?_
          refine j_iload E 44 rfl dX10_takesFacts_42 (lv_at hl 5 rfl) ?_
          refine j_bipush E 46 rfl dX10_takesFacts_44 (by decide) ?_
          refine j_sipush E 49 rfl dX10_takesFacts_46 (by decide) ?_
          refine m_callp (po := fun z_0 => (z_0 = 1 ∧ (-99 : Int) ≤ v_age ∧ v_age ≤ (299 : Int)) ∨ (z_0 = 0 ∧ (v_age < (-99 : Int) ∨ (299 : Int) < v_age))) E (c_X10_isIn l D cy q (n_0) (f_0) v_age ((-99)) 299  r_v_age (rr (by decide)) (rr (by decide)) ) rfl mt_X10_isIn ml_X10_169 hK hw hA ⟨Nat.le_of_ble_eq_true rfl, Nat.le_of_ble_eq_true rfl⟩ (As := [.int (J v_age), .int (J ((-99))), .int (J 299)]) (rest := []) rfl rfl hl.1 (Nat.le_of_ble_eq_true rfl) 52 rfl dX10_takesFacts_49 (fun zz9_ H locs rr9_ hq9_ hw => ?_)
          have hh9_ : (zz9_ = 1 ∧ (-99 : Int) ≤ v_age ∧ v_age ≤ (299 : Int)) ∨ (zz9_ = 0 ∧ (v_age < (-99 : Int) ∨ (299 : Int) < v_age)) := hq9_
          clear hq9_
          rcases hh9_ with ⟨ee9_, hh9_⟩ | ⟨ee9_, hh9_⟩
          · subst ee9_
            refine j_if_ne E 55 57 rfl (rr (by decide)) dX10_takesFacts_52 (by decide) (fun _ => ?_) (fun cc10_ => absurd cc10_ (by decide))
            refine j_aload_n E 58 rfl dX10_takesFacts_57 rfl (lv_at hl 0 rfl) ?_
            refine m_ag_45 E hK hw 61 rfl dX10_takesFacts_58 ?_
            refine j_iconst E 62 rfl dX10_takesFacts_61 ?_
            refine j_iload_n E 63 rfl dX10_takesFacts_62 rfl (lv_at hl 1 rfl) ?_
            refine m_st_45 E hK hw (by omega) r_v_harm 64 rfl dX10_takesFacts_63 (fun H locs hw => ?_)
            have hw : WM D cy q (n_0) (upF f_0 45 (upA (f_0 45) 0 v_harm)) A0 H0 H locs := hw
            refine j_aload_n E 65 rfl dX10_takesFacts_64 rfl (lv_at hl 0 rfl) ?_
            refine m_ag_45 E hK hw 68 rfl dX10_takesFacts_65 ?_
            refine j_iconst E 69 rfl dX10_takesFacts_68 ?_
            refine j_iload_n E 70 rfl dX10_takesFacts_69 rfl (lv_at hl 2 rfl) ?_
            refine m_st_45 E hK hw (by omega) r_v_witnesses 71 rfl dX10_takesFacts_70 (fun H locs hw => ?_)
            have hw : WM D cy q (n_0) (upF f_0 45 (upA (upA (f_0 45) 0 v_harm) 1 v_witnesses)) A0 H0 H locs := hw
            refine j_aload_n E 72 rfl dX10_takesFacts_71 rfl (lv_at hl 0 rfl) ?_
            refine m_ag_45 E hK hw 75 rfl dX10_takesFacts_72 ?_
            refine j_iconst E 76 rfl dX10_takesFacts_75 ?_
            refine j_iload_n E 77 rfl dX10_takesFacts_76 rfl (lv_at hl 3 rfl) ?_
            refine m_st_45 E hK hw (by omega) r_v_years 78 rfl dX10_takesFacts_77 (fun H locs hw => ?_)
            have hw : WM D cy q (n_0) (upF f_0 45 (upA (upA (upA (f_0 45) 0 v_harm) 1 v_witnesses) 2 v_years)) A0 H0 H locs := hw
            refine j_aload_n E 79 rfl dX10_takesFacts_78 rfl (lv_at hl 0 rfl) ?_
            refine m_ag_45 E hK hw 82 rfl dX10_takesFacts_79 ?_
            refine j_iconst E 83 rfl dX10_takesFacts_82 ?_
            refine j_iload E 85 rfl dX10_takesFacts_83 (lv_at hl 4 rfl) ?_
            refine m_st_45 E hK hw (by omega) r_v_kin 86 rfl dX10_takesFacts_85 (fun H locs hw => ?_)
            have hw : WM D cy q (n_0) (upF f_0 45 (upA (upA (upA (upA (f_0 45) 0 v_harm) 1 v_witnesses) 2 v_years) 3 v_kin)) A0 H0 H locs := hw
            refine j_aload_n E 87 rfl dX10_takesFacts_86 rfl (lv_at hl 0 rfl) ?_
            refine m_ag_45 E hK hw 90 rfl dX10_takesFacts_87 ?_
            refine j_iconst E 91 rfl dX10_takesFacts_90 ?_
            refine j_iload E 93 rfl dX10_takesFacts_91 (lv_at hl 5 rfl) ?_
            refine m_st_45 E hK hw (by omega) r_v_age 94 rfl dX10_takesFacts_93 (fun H locs hw => ?_)
            have hw : WM D cy q (n_0) (upF f_0 45 (upA (upA (upA (upA (upA (f_0 45) 0 v_harm) 1 v_witnesses) 2 v_years) 3 v_kin) 4 v_age)) A0 H0 H locs := hw
            refine j_iconst E 95 rfl dX10_takesFacts_94 ?_
            exact hret 95 1 (n_0) (upF f_0 45 (upA (upA (upA (upA (upA (f_0 45) 0 v_harm) 1 v_witnesses) 2 v_years) 3 v_kin) 4 v_age)) _ _ ls hw (Or.inr rfl) ⟨(upA (upA (upA (upA (upA (f_0 45) 0 v_harm) 1 v_witnesses) 2 v_years) 3 v_kin) 4 v_age), rfl, rfl, Or.inl ⟨rfl, by omega, fcf_up⟩⟩ dX10_takesFacts_95
          · subst ee9_
            refine j_if_ne E 55 57 rfl (rr (by decide)) dX10_takesFacts_52 (by decide) (fun cc16_ => absurd cc16_ (by decide)) (fun _ => ?_)
            refine j_iconst E 56 rfl dX10_takesFacts_55 ?_
            exact hret 56 0 (n_0) (upF f_0 45 (f_0 45)) _ _ ls hw (Or.inl rfl) ⟨(f_0 45), rfl, rfl, Or.inr ⟨rfl, by omega, rfl⟩⟩ dX10_takesFacts_56
        · subst ee7_
          refine j_if_eq E 41 55 rfl (rr (by decide)) dX10_takesFacts_38 (by decide) (fun _ => ?_) (fun cc17_ => absurd cc17_ (by decide))
          refine j_iconst E 56 rfl dX10_takesFacts_55 ?_
          exact hret 56 0 (n_0) (upF f_0 45 (f_0 45)) _ _ ls hw (Or.inl rfl) ⟨(f_0 45), rfl, rfl, Or.inr ⟨rfl, by omega, rfl⟩⟩ dX10_takesFacts_56
      · subst ee5_
        refine j_if_eq E 31 55 rfl (rr (by decide)) dX10_takesFacts_28 (by decide) (fun _ => ?_) (fun cc18_ => absurd cc18_ (by decide))
        refine j_iconst E 56 rfl dX10_takesFacts_55 ?_
        exact hret 56 0 (n_0) (upF f_0 45 (f_0 45)) _ _ ls hw (Or.inl rfl) ⟨(f_0 45), rfl, rfl, Or.inr ⟨rfl, by omega, rfl⟩⟩ dX10_takesFacts_56
    · subst ee3_
      refine j_if_eq E 20 55 rfl (rr (by decide)) dX10_takesFacts_17 (by decide) (fun _ => ?_) (fun cc19_ => absurd cc19_ (by decide))
      refine j_iconst E 56 rfl dX10_takesFacts_55 ?_
      exact hret 56 0 (n_0) (upF f_0 45 (f_0 45)) _ _ ls hw (Or.inl rfl) ⟨(f_0 45), rfl, rfl, Or.inr ⟨rfl, by omega, rfl⟩⟩ dX10_takesFacts_56
  · subst ee1_
    refine j_if_eq E 10 55 rfl (rr (by decide)) dX10_takesFacts_7 (by decide) (fun _ => ?_) (fun cc20_ => absurd cc20_ (by decide))
    refine j_iconst E 56 rfl dX10_takesFacts_55 ?_
    exact hret 56 0 (n_0) (upF f_0 45 (f_0 45)) _ _ ls hw (Or.inl rfl) ⟨(f_0 45), rfl, rfl, Or.inr ⟨rfl, by omega, rfl⟩⟩ dX10_takesFacts_56
set_option maxHeartbeats 4000000 in
set_option maxRecDepth 100000 in
theorem c_X10_twoOf (l : Launch) (D : va_G) (cy : Nat → ClassId) (q : Nat → Nat) (n_0 : Nat → Int) (f_0 : Nat → Int → Int) (v_what v_x v_y : Int) (r_v_what : inR v_what) (r_v_x : inR v_x) (r_v_y : inR v_y) (hp0 : v_what = 6 → v_y ≠ 0) (hp1 : 3 ≤ v_what ∧ v_what ≤ 12 ∧ v_what ≠ 10) : MC l D cy q yX10_twoOf cX10_twoOf 4 (some .int) 0 [.int (J v_what), .int (J v_x), .int (J v_y)] n_0 f_0 (PI (fun (z_0 : Int) (n_2 : Nat → Int) (f_2 : Nat → Int → Int) => (n_2 = n_0 ∧ f_2 = f_0) ∧ (z_0 = tw_ (-(cd_ v_what 0)) v_x v_y))) := by
  refine MC.ofi rfl (Nat.le_of_ble_eq_true rfl) ?_
  intro p e s m below meth c ls ar QW A0 H0 H locs E hK hA hw hl hret
  have hl : lv_has ls 4 [(0, .ref (q 0)), (1, .int (J v_what)), (2, .int (J v_x)), (3, .int (J v_y))] := hl
  refine j_iload_n E 1 rfl dX10_twoOf_0 rfl (lv_at hl 1 rfl) ?_
  refine j_iconst E 2 rfl dX10_twoOf_1 ?_
  refine j_icmp_ne E 5 9 rfl r_v_what (rr (by decide)) dX10_twoOf_2 (by decide) (fun cc1_ => ?_) (fun cc1_ => ?_)
  · refine j_iload_n E 10 rfl dX10_twoOf_9 rfl (lv_at hl 1 rfl) ?_
    refine j_iconst E 11 rfl dX10_twoOf_10 ?_
    refine j_icmp_ne E 14 18 rfl r_v_what (rr (by decide)) dX10_twoOf_11 (by decide) (fun cc2_ => ?_) (fun cc2_ => ?_)
    · refine j_iload_n E 19 rfl dX10_twoOf_18 rfl (lv_at hl 1 rfl) ?_
      refine j_iconst E 20 rfl dX10_twoOf_19 ?_
      refine j_icmp_ne E 23 27 rfl r_v_what (rr (by decide)) dX10_twoOf_20 (by decide) (fun cc3_ => ?_) (fun cc3_ => ?_)
      · refine j_iload_n E 28 rfl dX10_twoOf_27 rfl (lv_at hl 1 rfl) ?_
        refine j_bipush E 30 rfl dX10_twoOf_28 (by decide) ?_
        refine j_icmp_ne E 33 37 rfl r_v_what (rr (by decide)) dX10_twoOf_30 (by decide) (fun cc4_ => ?_) (fun cc4_ => ?_)
        · refine j_iload_n E 38 rfl dX10_twoOf_37 rfl (lv_at hl 1 rfl) ?_
          refine j_bipush E 40 rfl dX10_twoOf_38 (by decide) ?_
          refine j_icmp_ne E 43 54 rfl r_v_what (rr (by decide)) dX10_twoOf_40 (by decide) (fun cc5_ => ?_) (fun cc5_ => ?_)
          · refine j_iload_n E 55 rfl dX10_twoOf_54 rfl (lv_at hl 1 rfl) ?_
            refine j_bipush E 57 rfl dX10_twoOf_55 (by decide) ?_
            refine j_icmp_ne E 60 71 rfl r_v_what (rr (by decide)) dX10_twoOf_57 (by decide) (fun cc6_ => ?_) (fun cc6_ => ?_)
            · refine j_iload_n E 72 rfl dX10_twoOf_71 rfl (lv_at hl 1 rfl) ?_
              refine j_bipush E 74 rfl dX10_twoOf_72 (by decide) ?_
              refine j_icmp_ne E 77 88 rfl r_v_what (rr (by decide)) dX10_twoOf_74 (by decide) (fun cc7_ => ?_) (fun cc7_ => ?_)
              · refine j_iload_n E 89 rfl dX10_twoOf_88 rfl (lv_at hl 1 rfl) ?_
                refine j_bipush E 91 rfl dX10_twoOf_89 (by decide) ?_
                refine j_icmp_ne E 94 100 rfl r_v_what (rr (by decide)) dX10_twoOf_91 (by decide) (fun cc8_ => ?_) (fun cc8_ => ?_)
                · refine j_iload_n E 101 rfl dX10_twoOf_100 rfl (lv_at hl 2 rfl) ?_
                  refine j_iload_n E 102 rfl dX10_twoOf_101 rfl (lv_at hl 3 rfl) ?_
                  refine j_iadd E 103 rfl dX10_twoOf_102 ?_
                  refine j_norm (fun zz9_ rr9_ ee9_ => ?_)
                  have en_ := ee9_
                  have rn_ := rr9_
                  refine j_if_le E 106 110 rfl rr9_ dX10_twoOf_103 (by decide) (fun cc10_ => ?_) (fun cc10_ => ?_)
                  · refine j_iconst E 111 rfl dX10_twoOf_110 ?_
                    exact hret 111 0 (n_0) (f_0) _ _ ls hw (rr (by decide)) ⟨⟨rfl, rfl⟩, by first | (rw [tw_11 (by omega)]; exact w32_of rn_ en_) | (rw [tw_12 (by omega), ← w32_of rn_ en_]; first | exact (if_pos (by omega)).symm | exact (if_neg (by omega)).symm)⟩ dX10_twoOf_111
                  · refine j_iconst E 107 rfl dX10_twoOf_106 ?_
                    refine j_goto E 111 dX10_twoOf_107 (by decide) ?_
                    exact hret 111 1 (n_0) (f_0) _ _ ls hw (rr (by decide)) ⟨⟨rfl, rfl⟩, by first | (rw [tw_11 (by omega)]; exact w32_of rn_ en_) | (rw [tw_12 (by omega), ← w32_of rn_ en_]; first | exact (if_pos (by omega)).symm | exact (if_neg (by omega)).symm)⟩ dX10_twoOf_111
                · refine j_iload_n E 95 rfl dX10_twoOf_94 rfl (lv_at hl 2 rfl) ?_
                  refine j_iload_n E 96 rfl dX10_twoOf_95 rfl (lv_at hl 3 rfl) ?_
                  refine j_imul E 97 rfl dX10_twoOf_96 ?_
                  refine j_norm (fun zz11_ rr11_ ee11_ => ?_)
                  have en_ := ee11_
                  have rn_ := rr11_
                  refine j_goto E 111 dX10_twoOf_97 (by decide) ?_
                  exact hret 111 zz11_ (n_0) (f_0) _ _ ls hw rr11_ ⟨⟨rfl, rfl⟩, by first | (rw [tw_11 (by omega)]; exact w32_of rn_ en_) | (rw [tw_12 (by omega), ← w32_of rn_ en_]; first | exact (if_pos (by omega)).symm | exact (if_neg (by omega)).symm)⟩ dX10_twoOf_111
              · refine j_iload_n E 78 rfl dX10_twoOf_77 rfl (lv_at hl 2 rfl) ?_
                refine j_iload_n E 79 rfl dX10_twoOf_78 rfl (lv_at hl 3 rfl) ?_
                refine j_icmp_le E 82 86 rfl r_v_x r_v_y dX10_twoOf_79 (by decide) (fun cc12_ => ?_) (fun cc12_ => ?_)
                · refine j_iconst E 87 rfl dX10_twoOf_86 ?_
                  exact hret 87 0 (n_0) (f_0) _ _ ls hw (rr (by decide)) ⟨⟨rfl, rfl⟩, by rw [tw_9 (by omega)]; first | exact (if_pos (by omega)).symm | exact (if_neg (by omega)).symm⟩ dX10_twoOf_87
                · refine j_iconst E 83 rfl dX10_twoOf_82 ?_
                  refine j_goto E 87 dX10_twoOf_83 (by decide) ?_
                  exact hret 87 1 (n_0) (f_0) _ _ ls hw (rr (by decide)) ⟨⟨rfl, rfl⟩, by rw [tw_9 (by omega)]; first | exact (if_pos (by omega)).symm | exact (if_neg (by omega)).symm⟩ dX10_twoOf_87
            · refine j_iload_n E 61 rfl dX10_twoOf_60 rfl (lv_at hl 2 rfl) ?_
              refine j_iload_n E 62 rfl dX10_twoOf_61 rfl (lv_at hl 3 rfl) ?_
              refine j_icmp_ne E 65 69 rfl r_v_x r_v_y dX10_twoOf_62 (by decide) (fun cc13_ => ?_) (fun cc13_ => ?_)
              · refine j_iconst E 70 rfl dX10_twoOf_69 ?_
                exact hret 70 0 (n_0) (f_0) _ _ ls hw (rr (by decide)) ⟨⟨rfl, rfl⟩, by rw [tw_8 (by omega)]; first | exact (if_pos (by omega)).symm | exact (if_neg (by omega)).symm⟩ dX10_twoOf_70
              · refine j_iconst E 66 rfl dX10_twoOf_65 ?_
                refine j_goto E 70 dX10_twoOf_66 (by decide) ?_
                exact hret 70 1 (n_0) (f_0) _ _ ls hw (rr (by decide)) ⟨⟨rfl, rfl⟩, by rw [tw_8 (by omega)]; first | exact (if_pos (by omega)).symm | exact (if_neg (by omega)).symm⟩ dX10_twoOf_70
          · refine j_iload_n E 44 rfl dX10_twoOf_43 rfl (lv_at hl 2 rfl) ?_
            refine j_iload_n E 45 rfl dX10_twoOf_44 rfl (lv_at hl 3 rfl) ?_
            refine j_icmp_ge E 48 52 rfl r_v_x r_v_y dX10_twoOf_45 (by decide) (fun cc14_ => ?_) (fun cc14_ => ?_)
            · refine j_iconst E 53 rfl dX10_twoOf_52 ?_
              exact hret 53 0 (n_0) (f_0) _ _ ls hw (rr (by decide)) ⟨⟨rfl, rfl⟩, by rw [tw_7 (by omega)]; first | exact (if_pos (by omega)).symm | exact (if_neg (by omega)).symm⟩ dX10_twoOf_53
            · refine j_iconst E 49 rfl dX10_twoOf_48 ?_
              refine j_goto E 53 dX10_twoOf_49 (by decide) ?_
              exact hret 53 1 (n_0) (f_0) _ _ ls hw (rr (by decide)) ⟨⟨rfl, rfl⟩, by rw [tw_7 (by omega)]; first | exact (if_pos (by omega)).symm | exact (if_neg (by omega)).symm⟩ dX10_twoOf_53
        · refine j_iload_n E 34 rfl dX10_twoOf_33 rfl (lv_at hl 2 rfl) ?_
          refine j_iload_n E 35 rfl dX10_twoOf_34 rfl (lv_at hl 3 rfl) ?_
          refine j_idiv E 36 rfl dX10_twoOf_35 (fun h => absurd ((J_inj r_v_y inR0).mp (h.trans J_0.symm)) (by omega)) (fun zz15_ rr15_ ee15_ => ?_)
          have en_ := ee15_
          have rn_ := rr15_
          exact hret 36 zz15_ (n_0) (f_0) _ _ ls hw rr15_ ⟨⟨rfl, rfl⟩, by rw [tw_6 (by omega) (hp0 (by omega))]; exact eq_of_J rn_ en_⟩ dX10_twoOf_36
      · refine j_iload_n E 24 rfl dX10_twoOf_23 rfl (lv_at hl 2 rfl) ?_
        refine j_iload_n E 25 rfl dX10_twoOf_24 rfl (lv_at hl 3 rfl) ?_
        refine j_imul E 26 rfl dX10_twoOf_25 ?_
        refine j_norm (fun zz16_ rr16_ ee16_ => ?_)
        have en_ := ee16_
        have rn_ := rr16_
        exact hret 26 zz16_ (n_0) (f_0) _ _ ls hw rr16_ ⟨⟨rfl, rfl⟩, by rw [tw_5 (by omega)]; exact w32_of rn_ en_⟩ dX10_twoOf_26
    · refine j_iload_n E 15 rfl dX10_twoOf_14 rfl (lv_at hl 2 rfl) ?_
      refine j_iload_n E 16 rfl dX10_twoOf_15 rfl (lv_at hl 3 rfl) ?_
      refine j_isub E 17 rfl dX10_twoOf_16 ?_
      refine j_norm (fun zz17_ rr17_ ee17_ => ?_)
      have en_ := ee17_
      have rn_ := rr17_
      exact hret 17 zz17_ (n_0) (f_0) _ _ ls hw rr17_ ⟨⟨rfl, rfl⟩, by rw [tw_4 (by omega)]; exact w32_of rn_ en_⟩ dX10_twoOf_17
  · refine j_iload_n E 6 rfl dX10_twoOf_5 rfl (lv_at hl 2 rfl) ?_
    refine j_iload_n E 7 rfl dX10_twoOf_6 rfl (lv_at hl 3 rfl) ?_
    refine j_iadd E 8 rfl dX10_twoOf_7 ?_
    refine j_norm (fun zz18_ rr18_ ee18_ => ?_)
    have en_ := ee18_
    have rn_ := rr18_
    exact hret 8 zz18_ (n_0) (f_0) _ _ ls hw rr18_ ⟨⟨rfl, rfl⟩, by rw [tw_3 (by omega)]; exact w32_of rn_ en_⟩ dX10_twoOf_8
set_option maxHeartbeats 4000000 in
set_option maxRecDepth 100000 in
theorem c_X10_worth (l : Launch) (D : va_G) (cy : Nat → ClassId) (q : Nat → Nat) (n_0 : Nat → Int) (f_0 : Nat → Int → Int) (v_w v_begin v_end v_x : Int) (r_v_w : inR v_w) (r_v_begin : inR v_begin) (r_v_end : inR v_end) (r_v_x : inR v_x) (hp0 : 0 ≤ v_w ∧ v_w < 32) (hp1 : 0 ≤ v_begin ∧ v_begin ≤ v_end ∧ v_end ≤ 400) (hp2 : ∃ e_, Seg_ (f_0 32) (f_0 33) (400 * v_w + v_begin) (400 * v_w + v_end) e_) : MC l D cy q yX10_worth cX10_worth 7 (some .int) 1 [.int (J v_w), .int (J v_begin), .int (J v_end), .int (J v_x)] n_0 f_0 (PI (fun (z_0 : Int) (n_2 : Nat → Int) (f_2 : Nat → Int → Int) => ∃ (y47_2 : Int → Int) , n_2 = n_0 ∧ f_2 = upF f_0 47 y47_2 ∧ (Sk_ (y47_2) (ers_ (f_0 45) (f_0 46) v_x (cL_ (f_0 32) (f_0 33) (400 * v_w + v_begin) (400 * v_w + v_end)) []) ∧ z_0 = (y47_2 0)))) := by
  refine MC.ofi rfl (Nat.le_of_ble_eq_true rfl) ?_
  intro p e s m below meth c ls ar QW A0 H0 H locs E hK hA hw hl hret
  have hl : lv_has ls 7 [(0, .ref (q 0)), (1, .int (J v_w)), (2, .int (J v_begin)), (3, .int (J v_end)), (4, .int (J v_x))] := hl
  obtain ⟨e_, dd, d0_, de_, dS_⟩ := hp2
  refine j_iconst E 1 rfl dX10_worth_0 ?_
  refine j_istore E 3 rfl [(5, .int (J 0)), (0, .ref (q 0)), (1, .int (J v_w)), (2, .int (J v_begin)), (3, .int (J v_end)), (4, .int (J v_x))] dX10_worth_1 hl (by decide) rfl (fun ls hl => ?_)
  refine j_sipush E 6 rfl dX10_worth_3 (by decide) ?_
  refine j_iload_n E 7 rfl dX10_worth_6 rfl (lv_at hl 2 rfl) ?_
  refine j_imul E 8 rfl dX10_worth_7 ?_
  refine j_iload_n E 9 rfl dX10_worth_8 rfl (lv_at hl 3 rfl) ?_
  refine j_iadd E 10 rfl dX10_worth_9 ?_
  refine j_istore E 12 rfl [(6, .int (J ((400 * v_w) + v_begin))), (5, .int (J 0)), (0, .ref (q 0)), (1, .int (J v_w)), (2, .int (J v_begin)), (3, .int (J v_end)), (4, .int (J v_x))] dX10_worth_10 hl (by decide) rfl (fun ls hl => ?_)
  have L12_1 : ∀ (k12 : Nat) (gn gk : Int) (y47_c12 : Int → Int) (H : Heap) (locs : List Loc) (ls : Array Slot), inR gn → inR gk → (400 * v_w + v_begin ≤ gk ∧ gk ≤ 400 * v_w + v_end ∧ gn = dd gk ∧ (0 ≤ gn ∧ gn ≤ gk - (400 * v_w + v_begin)) ∧ (400 * v_w + v_begin < gk → (f_0 32 (gk - 1)) = 0 → (y47_c12 (gn - 1)) = (f_0 33 (gk - 1))) ∧ Sk_ (y47_c12) (ers_ (f_0 45) (f_0 46) v_x (cL_ (f_0 32) (f_0 33) (400 * v_w + v_begin) gk) []) ∧ gn = ((ers_ (f_0 45) (f_0 46) v_x (cL_ (f_0 32) (f_0 33) (400 * v_w + v_begin) gk) []).length : Int)) → (400 * v_w + v_end - gk) < (k12 : Int) → WM D cy q (n_0) (upF f_0 47 y47_c12) A0 H0 H locs → lv_has ls 7 [(0, .ref (q 0)), (1, .int (J v_w)), (2, .int (J v_begin)), (3, .int (J v_end)), (4, .int (J v_x)), (5, .int (J gn)), (6, .int (J gk))] → W p l e (rmd 1 0 0) s m ar below meth c H locs 0 0 QW (F0 m 12 ls []) := by
    intro k12
    induction k12 with
    | zero =>
      intro gn gk y47_c12 H locs ls r_gn r_gk iv12 ms12 hw hl
      exfalso; omega
    | succ k12 ih12 =>
      intro gn gk y47_c12 H locs ls r_gn r_gk iv12 ms12 hw hl
      refine j_iload E 14 rfl dX10_worth_12 (lv_at hl 6 rfl) ?_
      refine j_sipush E 17 rfl dX10_worth_14 (by decide) ?_
      refine j_iload_n E 18 rfl dX10_worth_17 rfl (lv_at hl 1 rfl) ?_
      refine j_imul E 19 rfl dX10_worth_18 ?_
      refine j_iload_n E 20 rfl dX10_worth_19 rfl (lv_at hl 3 rfl) ?_
      refine j_iadd E 21 rfl dX10_worth_20 ?_
      refine j_icmp_ge E 24 208 rfl r_gk (rr (by omega)) dX10_worth_21 (by decide) (fun cc3_ => ?_) (fun cc3_ => ?_)
      · refine j_aload_n E 209 rfl dX10_worth_208 rfl (lv_at hl 0 rfl) ?_
        refine m_ag_47 E hK hw 212 rfl dX10_worth_209 ?_
        refine j_iconst E 213 rfl dX10_worth_212 ?_
        refine m_ld_47 E hK hw (y47_c12 0) rfl (by omega) 214 rfl dX10_worth_213 (fun rr4_ => ?_)
        exact hret 214 (y47_c12 0) (n_0) (upF f_0 47 y47_c12) _ _ ls hw rr4_ ⟨y47_c12, rfl, rfl, ⟨by rw [show 400 * v_w + v_end = gk by omega]; exact iv12.2.2.2.2.2.1, rfl⟩⟩ dX10_worth_214
      · have hk_ := dS_ gk (by omega) (by omega)
        unfold Stp_ at hk_
        refine j_aload_n E 25 rfl dX10_worth_24 rfl (lv_at hl 0 rfl) ?_
        refine m_ag_32 E hK hw 28 rfl dX10_worth_25 ?_
        refine j_iload E 30 rfl dX10_worth_28 (lv_at hl 6 rfl) ?_
        refine m_ld_32 E hK hw (f_0 32 gk) rfl (by omega) 31 rfl dX10_worth_30 (fun rr5_ => ?_)
        refine j_iconst E 32 rfl dX10_worth_31 ?_
        refine j_icmp_gt E 35 125 rfl rr5_ (rr (by decide)) dX10_worth_32 (by decide) (fun cc6_ => ?_) (fun cc6_ => ?_)
        · refine j_aload_n E 126 rfl dX10_worth_125 rfl (lv_at hl 0 rfl) ?_
          refine m_ag_32 E hK hw 129 rfl dX10_worth_126 ?_
          refine j_iload E 131 rfl dX10_worth_129 (lv_at hl 6 rfl) ?_
          refine m_ld_32 E hK hw (f_0 32 gk) rfl (by omega) 132 rfl dX10_worth_131 (fun _ => ?_)
          refine j_bipush E 134 rfl dX10_worth_132 (by decide) ?_
          refine j_icmp_ne E 137 160 rfl rr5_ (rr (by decide)) dX10_worth_134 (by decide) (fun cc7_ => ?_) (fun cc7_ => ?_)
          · refine j_iload E 162 rfl dX10_worth_160 (lv_at hl 5 rfl) ?_
            refine j_iconst E 163 rfl dX10_worth_162 ?_
            refine j_isub E 164 rfl dX10_worth_163 ?_
            refine j_istore E 166 rfl [(5, .int (J (gn - 1))), (0, .ref (q 0)), (1, .int (J v_w)), (2, .int (J v_begin)), (3, .int (J v_end)), (4, .int (J v_x)), (6, .int (J gk))] dX10_worth_164 hl (by decide) rfl (fun ls hl => ?_)
            refine j_aload_n E 167 rfl dX10_worth_166 rfl (lv_at hl 1 rfl) ?_
            refine m_ag_47 E hK hw 170 rfl dX10_worth_167 ?_
            refine j_iload E 172 rfl dX10_worth_170 (lv_at hl 0 rfl) ?_
            refine j_iconst E 173 rfl dX10_worth_172 ?_
            refine j_isub E 174 rfl dX10_worth_173 ?_
            refine j_aload_n E 175 rfl dX10_worth_174 rfl (lv_at hl 1 rfl) ?_
            refine j_aload_n E 176 rfl dX10_worth_175 rfl (lv_at hl 1 rfl) ?_
            refine m_ag_32 E hK hw 179 rfl dX10_worth_176 ?_
            refine j_iload E 181 rfl dX10_worth_179 (lv_at hl 6 rfl) ?_
            refine m_ld_32 E hK hw (f_0 32 gk) rfl (by omega) 182 rfl dX10_worth_181 (fun _ => ?_)
            refine j_aload_n E 183 rfl dX10_worth_182 rfl (lv_at hl 1 rfl) ?_
            refine m_ag_47 E hK hw 186 rfl dX10_worth_183 ?_
            refine j_iload E 188 rfl dX10_worth_186 (lv_at hl 0 rfl) ?_
            refine j_iconst E 189 rfl dX10_worth_188 ?_
            refine j_isub E 190 rfl dX10_worth_189 ?_
            refine m_ld_47 E hK hw (y47_c12 ((gn - 1) - 1)) rfl (by omega) 191 rfl dX10_worth_190 (fun rr8_ => ?_)
            refine j_aload_n E 192 rfl dX10_worth_191 rfl (lv_at hl 1 rfl) ?_
            refine m_ag_47 E hK hw 195 rfl dX10_worth_192 ?_
            refine j_iload E 197 rfl dX10_worth_195 (lv_at hl 0 rfl) ?_
            refine m_ld_47 E hK hw (y47_c12 (gn - 1)) rfl (by omega) 198 rfl dX10_worth_197 (fun rr9_ => ?_)
            have hy_ : (f_0 32 gk) = 6 → (y47_c12 (gn - 1)) ≠ 0 := fun h_ => by
              have h1_ : 400 * v_w + v_begin < gk ∧ (f_0 32 (gk - 1)) = 0 ∧ (f_0 33 (gk - 1)) ≠ 0 := by omega
              rw [iv12.2.2.2.2.1 h1_.1 h1_.2.1]; exact h1_.2.2
            refine m_callp (po := fun z_0 => z_0 = tw_ (-(cd_ (f_0 32 gk) 0)) (y47_c12 ((gn - 1) - 1)) (y47_c12 (gn - 1))) E (c_X10_twoOf l D cy q (n_0) (upF f_0 47 y47_c12) (f_0 32 gk) (y47_c12 ((gn - 1) - 1)) (y47_c12 (gn - 1))  rr5_ rr8_ rr9_ (show (f_0 32 gk) = 6 → (y47_c12 (gn - 1)) ≠ 0 from hy_) (show 3 ≤ (f_0 32 gk) ∧ (f_0 32 gk) ≤ 12 ∧ (f_0 32 gk) ≠ 10 from by omega)) rfl mt_X10_twoOf ml_X10_309 hK hw hA ⟨Nat.le_of_ble_eq_true rfl, Nat.le_of_ble_eq_true rfl⟩ (As := [.int (J (f_0 32 gk)), .int (J (y47_c12 ((gn - 1) - 1))), .int (J (y47_c12 (gn - 1)))]) (rest := [.int (J ((gn - 1) - 1)), .ref (q 47)]) rfl rfl hl.1 (Nat.le_of_ble_eq_true rfl) 201 rfl dX10_worth_198 (fun zz10_ H locs rr10_ hq10_ hw => ?_)
            have hh10_ : zz10_ = tw_ (-(cd_ (f_0 32 gk) 0)) (y47_c12 ((gn - 1) - 1)) (y47_c12 (gn - 1)) := hq10_
            clear hq10_
            have th_ := hh10_
            clear hh10_
            refine m_st_47 E hK hw (by omega) rr10_ 202 rfl dX10_worth_201 (fun H locs hw => ?_)
            have hw : WM D cy q (n_0) (upF f_0 47 (upA (y47_c12) ((gn - 1) - 1) zz10_)) A0 H0 H locs := hw
            refine j_iinc E 205 rfl [(6, .int (J (gk + 1))), (5, .int (J (gn - 1))), (0, .ref (q 0)), (1, .int (J v_w)), (2, .int (J v_begin)), (3, .int (J v_end)), (4, .int (J v_x))] dX10_worth_202 hl (kk := 6) rfl (by decide) rfl (fun ls hl => ?_)
            refine j_goto E 12 dX10_worth_205 (by decide) ?_
            exact ih12 (gn - 1) (gk + 1) (upA (y47_c12) ((gn - 1) - 1) zz10_) H locs ls (rr (by omega)) (rr (by omega)) (⟨by omega, by omega, by omega, by omega, fun h1_ h2_ => by first | (exfalso; rw [show gk + 1 - 1 = gk by omega] at h2_; omega) | (rw [show gk + 1 - 1 = gk by omega, show gn + 1 - 1 = gn by omega]; exact upA_same _ _ _), by first | exact sk_fin (er_put (er_0 (by omega) (by omega)) iv12.2.2.2.2.2.1 iv12.2.2.2.2.2.2) (er_nx (by omega)) (by omega) | exact sk_fin (er_put (er_1 (by omega) (by omega)) iv12.2.2.2.2.2.1 iv12.2.2.2.2.2.2) (er_nx (by omega)) (by omega) | exact sk_fin (er_put (er_2 (by omega) (by omega) (by omega)) iv12.2.2.2.2.2.1 iv12.2.2.2.2.2.2) (er_nx (by omega)) (by omega) | exact sk_fin (er_put (er_20 (by omega) (by omega) (by omega)) iv12.2.2.2.2.2.1 iv12.2.2.2.2.2.2) (er_nx (by omega)) (by omega) | exact sk_fin (er_put (by rw [er_10 (by omega), (Sk_top iv12.2.2.2.2.2.1 iv12.2.2.2.2.2.2 (by omega)).1, ← w32_of rn_ en_]) (Sk_tl iv12.2.2.2.2.2.1) (Sk_top iv12.2.2.2.2.2.1 iv12.2.2.2.2.2.2 (by omega)).2) (er_nx (by omega)) (by omega) | exact sk_fin (er_put (by rw [er_3 (by omega), (Sk_top iv12.2.2.2.2.2.1 iv12.2.2.2.2.2.2 (by omega)).1, (Sk_top (Sk_tl iv12.2.2.2.2.2.1) (Sk_top iv12.2.2.2.2.2.1 iv12.2.2.2.2.2.2 (by omega)).2 (by omega)).1, ← th_]) (Sk_tl (Sk_tl iv12.2.2.2.2.2.1)) (Sk_top (Sk_tl iv12.2.2.2.2.2.1) (Sk_top iv12.2.2.2.2.2.1 iv12.2.2.2.2.2.2 (by omega)).2 (by omega)).2) (er_nx (by omega)) (by omega)⟩) (by omega) hw (lv_sub hl [2, 3, 4, 5, 6, 1, 0] rfl)
          · refine j_aload_n E 138 rfl dX10_worth_137 rfl (lv_at hl 0 rfl) ?_
            refine m_ag_47 E hK hw 141 rfl dX10_worth_138 ?_
            refine j_iload E 143 rfl dX10_worth_141 (lv_at hl 5 rfl) ?_
            refine j_iconst E 144 rfl dX10_worth_143 ?_
            refine j_isub E 145 rfl dX10_worth_144 ?_
            refine j_iconst E 146 rfl dX10_worth_145 ?_
            refine j_aload_n E 147 rfl dX10_worth_146 rfl (lv_at hl 0 rfl) ?_
            refine m_ag_47 E hK hw 150 rfl dX10_worth_147 ?_
            refine j_iload E 152 rfl dX10_worth_150 (lv_at hl 5 rfl) ?_
            refine j_iconst E 153 rfl dX10_worth_152 ?_
            refine j_isub E 154 rfl dX10_worth_153 ?_
            refine m_ld_47 E hK hw (y47_c12 (gn - 1)) rfl (by omega) 155 rfl dX10_worth_154 (fun rr12_ => ?_)
            refine j_isub E 156 rfl dX10_worth_155 ?_
            refine j_norm (fun zz13_ rr13_ ee13_ => ?_)
            have en_ := ee13_
            have rn_ := rr13_
            refine m_st_47 E hK hw (by omega) rr13_ 157 rfl dX10_worth_156 (fun H locs hw => ?_)
            have hw : WM D cy q (n_0) (upF f_0 47 (upA (y47_c12) (gn - 1) zz13_)) A0 H0 H locs := hw
            refine j_goto E 202 dX10_worth_157 (by decide) ?_
            refine j_iinc E 205 rfl [(6, .int (J (gk + 1))), (0, .ref (q 0)), (1, .int (J v_w)), (2, .int (J v_begin)), (3, .int (J v_end)), (4, .int (J v_x)), (5, .int (J gn))] dX10_worth_202 hl (kk := 6) rfl (by decide) rfl (fun ls hl => ?_)
            refine j_goto E 12 dX10_worth_205 (by decide) ?_
            exact ih12 gn (gk + 1) (upA (y47_c12) (gn - 1) zz13_) H locs ls r_gn (rr (by omega)) (⟨by omega, by omega, by omega, by omega, fun h1_ h2_ => by first | (exfalso; rw [show gk + 1 - 1 = gk by omega] at h2_; omega) | (rw [show gk + 1 - 1 = gk by omega, show gn + 1 - 1 = gn by omega]; exact upA_same _ _ _), by first | exact sk_fin (er_put (er_0 (by omega) (by omega)) iv12.2.2.2.2.2.1 iv12.2.2.2.2.2.2) (er_nx (by omega)) (by omega) | exact sk_fin (er_put (er_1 (by omega) (by omega)) iv12.2.2.2.2.2.1 iv12.2.2.2.2.2.2) (er_nx (by omega)) (by omega) | exact sk_fin (er_put (er_2 (by omega) (by omega) (by omega)) iv12.2.2.2.2.2.1 iv12.2.2.2.2.2.2) (er_nx (by omega)) (by omega) | exact sk_fin (er_put (er_20 (by omega) (by omega) (by omega)) iv12.2.2.2.2.2.1 iv12.2.2.2.2.2.2) (er_nx (by omega)) (by omega) | exact sk_fin (er_put (by rw [er_10 (by omega), (Sk_top iv12.2.2.2.2.2.1 iv12.2.2.2.2.2.2 (by omega)).1, ← w32_of rn_ en_]) (Sk_tl iv12.2.2.2.2.2.1) (Sk_top iv12.2.2.2.2.2.1 iv12.2.2.2.2.2.2 (by omega)).2) (er_nx (by omega)) (by omega) | exact sk_fin (er_put (by rw [er_3 (by omega), (Sk_top iv12.2.2.2.2.2.1 iv12.2.2.2.2.2.2 (by omega)).1, (Sk_top (Sk_tl iv12.2.2.2.2.2.1) (Sk_top iv12.2.2.2.2.2.1 iv12.2.2.2.2.2.2 (by omega)).2 (by omega)).1, ← th_]) (Sk_tl (Sk_tl iv12.2.2.2.2.2.1)) (Sk_top (Sk_tl iv12.2.2.2.2.2.1) (Sk_top iv12.2.2.2.2.2.1 iv12.2.2.2.2.2.2 (by omega)).2 (by omega)).2) (er_nx (by omega)) (by omega)⟩) (by omega) hw (lv_sub hl [1, 2, 3, 4, 5, 6, 0] rfl)
        · refine j_aload_n E 36 rfl dX10_worth_35 rfl (lv_at hl 0 rfl) ?_
          refine m_ag_47 E hK hw 39 rfl dX10_worth_36 ?_
          refine j_iload E 41 rfl dX10_worth_39 (lv_at hl 5 rfl) ?_
          refine j_aload_n E 42 rfl dX10_worth_41 rfl (lv_at hl 0 rfl) ?_
          refine m_ag_32 E hK hw 45 rfl dX10_worth_42 ?_
          refine j_iload E 47 rfl dX10_worth_45 (lv_at hl 6 rfl) ?_
          refine m_ld_32 E hK hw (f_0 32 gk) rfl (by omega) 48 rfl dX10_worth_47 (fun _ => ?_)
          refine j_if_ne E 51 61 rfl rr5_ dX10_worth_48 (by decide) (fun cc15_ => ?_) (fun cc15_ => ?_)
          · refine j_aload_n E 62 rfl dX10_worth_61 rfl (lv_at hl 0 rfl) ?_
            refine m_ag_32 E hK hw 65 rfl dX10_worth_62 ?_
            refine j_iload E 67 rfl dX10_worth_65 (lv_at hl 6 rfl) ?_
            refine m_ld_32 E hK hw (f_0 32 gk) rfl (by omega) 68 rfl dX10_worth_67 (fun _ => ?_)
            refine j_iconst E 69 rfl dX10_worth_68 ?_
            refine j_icmp_ne E 72 87 rfl rr5_ (rr (by decide)) dX10_worth_69 (by decide) (fun cc16_ => ?_) (fun cc16_ => ?_)
            · refine j_aload_n E 88 rfl dX10_worth_87 rfl (lv_at hl 0 rfl) ?_
              refine m_ag_33 E hK hw 91 rfl dX10_worth_88 ?_
              refine j_iload E 93 rfl dX10_worth_91 (lv_at hl 6 rfl) ?_
              refine m_ld_33 E hK hw (f_0 33 gk) rfl (by omega) 94 rfl dX10_worth_93 (fun rr17_ => ?_)
              refine j_iload E 96 rfl dX10_worth_94 (lv_at hl 4 rfl) ?_
              refine j_icmp_ge E 99 114 rfl rr17_ r_v_x dX10_worth_96 (by decide) (fun cc18_ => ?_) (fun cc18_ => ?_)
              · refine j_iconst E 115 rfl dX10_worth_114 ?_
                refine m_st_47 E hK hw (by omega) (rr (by decide)) 116 rfl dX10_worth_115 (fun H locs hw => ?_)
                have hw : WM D cy q (n_0) (upF f_0 47 (upA (y47_c12) gn 0)) A0 H0 H locs := hw
                refine j_iload E 118 rfl dX10_worth_116 (lv_at hl 5 rfl) ?_
                refine j_iconst E 119 rfl dX10_worth_118 ?_
                refine j_iadd E 120 rfl dX10_worth_119 ?_
                refine j_istore E 122 rfl [(5, .int (J (gn + 1))), (0, .ref (q 0)), (1, .int (J v_w)), (2, .int (J v_begin)), (3, .int (J v_end)), (4, .int (J v_x)), (6, .int (J gk))] dX10_worth_120 hl (by decide) rfl (fun ls hl => ?_)
                refine j_goto E 202 dX10_worth_122 (by decide) ?_
                refine j_iinc E 205 rfl [(6, .int (J (gk + 1))), (5, .int (J (gn + 1))), (0, .ref (q 0)), (1, .int (J v_w)), (2, .int (J v_begin)), (3, .int (J v_end)), (4, .int (J v_x))] dX10_worth_202 hl (kk := 6) rfl (by decide) rfl (fun ls hl => ?_)
                refine j_goto E 12 dX10_worth_205 (by decide) ?_
                exact ih12 (gn + 1) (gk + 1) (upA (y47_c12) gn 0) H locs ls (rr (by omega)) (rr (by omega)) (⟨by omega, by omega, by omega, by omega, fun h1_ h2_ => by first | (exfalso; rw [show gk + 1 - 1 = gk by omega] at h2_; omega) | (rw [show gk + 1 - 1 = gk by omega, show gn + 1 - 1 = gn by omega]; exact upA_same _ _ _), by first | exact sk_fin (er_put (er_0 (by omega) (by omega)) iv12.2.2.2.2.2.1 iv12.2.2.2.2.2.2) (er_nx (by omega)) (by omega) | exact sk_fin (er_put (er_1 (by omega) (by omega)) iv12.2.2.2.2.2.1 iv12.2.2.2.2.2.2) (er_nx (by omega)) (by omega) | exact sk_fin (er_put (er_2 (by omega) (by omega) (by omega)) iv12.2.2.2.2.2.1 iv12.2.2.2.2.2.2) (er_nx (by omega)) (by omega) | exact sk_fin (er_put (er_20 (by omega) (by omega) (by omega)) iv12.2.2.2.2.2.1 iv12.2.2.2.2.2.2) (er_nx (by omega)) (by omega) | exact sk_fin (er_put (by rw [er_10 (by omega), (Sk_top iv12.2.2.2.2.2.1 iv12.2.2.2.2.2.2 (by omega)).1, ← w32_of rn_ en_]) (Sk_tl iv12.2.2.2.2.2.1) (Sk_top iv12.2.2.2.2.2.1 iv12.2.2.2.2.2.2 (by omega)).2) (er_nx (by omega)) (by omega) | exact sk_fin (er_put (by rw [er_3 (by omega), (Sk_top iv12.2.2.2.2.2.1 iv12.2.2.2.2.2.2 (by omega)).1, (Sk_top (Sk_tl iv12.2.2.2.2.2.1) (Sk_top iv12.2.2.2.2.2.1 iv12.2.2.2.2.2.2 (by omega)).2 (by omega)).1, ← th_]) (Sk_tl (Sk_tl iv12.2.2.2.2.2.1)) (Sk_top (Sk_tl iv12.2.2.2.2.2.1) (Sk_top iv12.2.2.2.2.2.1 iv12.2.2.2.2.2.2 (by omega)).2 (by omega)).2) (er_nx (by omega)) (by omega)⟩) (by omega) hw (lv_sub hl [2, 3, 4, 5, 6, 1, 0] rfl)
              · refine j_aload_n E 100 rfl dX10_worth_99 rfl (lv_at hl 0 rfl) ?_
                refine m_ag_46 E hK hw 103 rfl dX10_worth_100 ?_
                refine j_aload_n E 104 rfl dX10_worth_103 rfl (lv_at hl 0 rfl) ?_
                refine m_ag_33 E hK hw 107 rfl dX10_worth_104 ?_
                refine j_iload E 109 rfl dX10_worth_107 (lv_at hl 6 rfl) ?_
                refine m_ld_33 E hK hw (f_0 33 gk) rfl (by omega) 110 rfl dX10_worth_109 (fun _ => ?_)
                refine m_ld_46 E hK hw (f_0 46 (f_0 33 gk)) rfl (by omega) 111 rfl dX10_worth_110 (fun rr20_ => ?_)
                refine j_goto E 115 dX10_worth_111 (by decide) ?_
                refine m_st_47 E hK hw (by omega) rr20_ 116 rfl dX10_worth_115 (fun H locs hw => ?_)
                have hw : WM D cy q (n_0) (upF f_0 47 (upA (y47_c12) gn (f_0 46 (f_0 33 gk)))) A0 H0 H locs := hw
                refine j_iload E 118 rfl dX10_worth_116 (lv_at hl 5 rfl) ?_
                refine j_iconst E 119 rfl dX10_worth_118 ?_
                refine j_iadd E 120 rfl dX10_worth_119 ?_
                refine j_istore E 122 rfl [(5, .int (J (gn + 1))), (0, .ref (q 0)), (1, .int (J v_w)), (2, .int (J v_begin)), (3, .int (J v_end)), (4, .int (J v_x)), (6, .int (J gk))] dX10_worth_120 hl (by decide) rfl (fun ls hl => ?_)
                refine j_goto E 202 dX10_worth_122 (by decide) ?_
                refine j_iinc E 205 rfl [(6, .int (J (gk + 1))), (5, .int (J (gn + 1))), (0, .ref (q 0)), (1, .int (J v_w)), (2, .int (J v_begin)), (3, .int (J v_end)), (4, .int (J v_x))] dX10_worth_202 hl (kk := 6) rfl (by decide) rfl (fun ls hl => ?_)
                refine j_goto E 12 dX10_worth_205 (by decide) ?_
                exact ih12 (gn + 1) (gk + 1) (upA (y47_c12) gn (f_0 46 (f_0 33 gk))) H locs ls (rr (by omega)) (rr (by omega)) (⟨by omega, by omega, by omega, by omega, fun h1_ h2_ => by first | (exfalso; rw [show gk + 1 - 1 = gk by omega] at h2_; omega) | (rw [show gk + 1 - 1 = gk by omega, show gn + 1 - 1 = gn by omega]; exact upA_same _ _ _), by first | exact sk_fin (er_put (er_0 (by omega) (by omega)) iv12.2.2.2.2.2.1 iv12.2.2.2.2.2.2) (er_nx (by omega)) (by omega) | exact sk_fin (er_put (er_1 (by omega) (by omega)) iv12.2.2.2.2.2.1 iv12.2.2.2.2.2.2) (er_nx (by omega)) (by omega) | exact sk_fin (er_put (er_2 (by omega) (by omega) (by omega)) iv12.2.2.2.2.2.1 iv12.2.2.2.2.2.2) (er_nx (by omega)) (by omega) | exact sk_fin (er_put (er_20 (by omega) (by omega) (by omega)) iv12.2.2.2.2.2.1 iv12.2.2.2.2.2.2) (er_nx (by omega)) (by omega) | exact sk_fin (er_put (by rw [er_10 (by omega), (Sk_top iv12.2.2.2.2.2.1 iv12.2.2.2.2.2.2 (by omega)).1, ← w32_of rn_ en_]) (Sk_tl iv12.2.2.2.2.2.1) (Sk_top iv12.2.2.2.2.2.1 iv12.2.2.2.2.2.2 (by omega)).2) (er_nx (by omega)) (by omega) | exact sk_fin (er_put (by rw [er_3 (by omega), (Sk_top iv12.2.2.2.2.2.1 iv12.2.2.2.2.2.2 (by omega)).1, (Sk_top (Sk_tl iv12.2.2.2.2.2.1) (Sk_top iv12.2.2.2.2.2.1 iv12.2.2.2.2.2.2 (by omega)).2 (by omega)).1, ← th_]) (Sk_tl (Sk_tl iv12.2.2.2.2.2.1)) (Sk_top (Sk_tl iv12.2.2.2.2.2.1) (Sk_top iv12.2.2.2.2.2.1 iv12.2.2.2.2.2.2 (by omega)).2 (by omega)).2) (er_nx (by omega)) (by omega)⟩) (by omega) hw (lv_sub hl [2, 3, 4, 5, 6, 1, 0] rfl)
            · refine j_aload_n E 73 rfl dX10_worth_72 rfl (lv_at hl 0 rfl) ?_
              refine m_ag_45 E hK hw 76 rfl dX10_worth_73 ?_
              refine j_aload_n E 77 rfl dX10_worth_76 rfl (lv_at hl 0 rfl) ?_
              refine m_ag_33 E hK hw 80 rfl dX10_worth_77 ?_
              refine j_iload E 82 rfl dX10_worth_80 (lv_at hl 6 rfl) ?_
              refine m_ld_33 E hK hw (f_0 33 gk) rfl (by omega) 83 rfl dX10_worth_82 (fun rr22_ => ?_)
              refine m_ld_45 E hK hw (f_0 45 (f_0 33 gk)) rfl (by omega) 84 rfl dX10_worth_83 (fun rr23_ => ?_)
              refine j_goto E 115 dX10_worth_84 (by decide) ?_
              refine m_st_47 E hK hw (by omega) rr23_ 116 rfl dX10_worth_115 (fun H locs hw => ?_)
              have hw : WM D cy q (n_0) (upF f_0 47 (upA (y47_c12) gn (f_0 45 (f_0 33 gk)))) A0 H0 H locs := hw
              refine j_iload E 118 rfl dX10_worth_116 (lv_at hl 5 rfl) ?_
              refine j_iconst E 119 rfl dX10_worth_118 ?_
              refine j_iadd E 120 rfl dX10_worth_119 ?_
              refine j_istore E 122 rfl [(5, .int (J (gn + 1))), (0, .ref (q 0)), (1, .int (J v_w)), (2, .int (J v_begin)), (3, .int (J v_end)), (4, .int (J v_x)), (6, .int (J gk))] dX10_worth_120 hl (by decide) rfl (fun ls hl => ?_)
              refine j_goto E 202 dX10_worth_122 (by decide) ?_
              refine j_iinc E 205 rfl [(6, .int (J (gk + 1))), (5, .int (J (gn + 1))), (0, .ref (q 0)), (1, .int (J v_w)), (2, .int (J v_begin)), (3, .int (J v_end)), (4, .int (J v_x))] dX10_worth_202 hl (kk := 6) rfl (by decide) rfl (fun ls hl => ?_)
              refine j_goto E 12 dX10_worth_205 (by decide) ?_
              exact ih12 (gn + 1) (gk + 1) (upA (y47_c12) gn (f_0 45 (f_0 33 gk))) H locs ls (rr (by omega)) (rr (by omega)) (⟨by omega, by omega, by omega, by omega, fun h1_ h2_ => by first | (exfalso; rw [show gk + 1 - 1 = gk by omega] at h2_; omega) | (rw [show gk + 1 - 1 = gk by omega, show gn + 1 - 1 = gn by omega]; exact upA_same _ _ _), by first | exact sk_fin (er_put (er_0 (by omega) (by omega)) iv12.2.2.2.2.2.1 iv12.2.2.2.2.2.2) (er_nx (by omega)) (by omega) | exact sk_fin (er_put (er_1 (by omega) (by omega)) iv12.2.2.2.2.2.1 iv12.2.2.2.2.2.2) (er_nx (by omega)) (by omega) | exact sk_fin (er_put (er_2 (by omega) (by omega) (by omega)) iv12.2.2.2.2.2.1 iv12.2.2.2.2.2.2) (er_nx (by omega)) (by omega) | exact sk_fin (er_put (er_20 (by omega) (by omega) (by omega)) iv12.2.2.2.2.2.1 iv12.2.2.2.2.2.2) (er_nx (by omega)) (by omega) | exact sk_fin (er_put (by rw [er_10 (by omega), (Sk_top iv12.2.2.2.2.2.1 iv12.2.2.2.2.2.2 (by omega)).1, ← w32_of rn_ en_]) (Sk_tl iv12.2.2.2.2.2.1) (Sk_top iv12.2.2.2.2.2.1 iv12.2.2.2.2.2.2 (by omega)).2) (er_nx (by omega)) (by omega) | exact sk_fin (er_put (by rw [er_3 (by omega), (Sk_top iv12.2.2.2.2.2.1 iv12.2.2.2.2.2.2 (by omega)).1, (Sk_top (Sk_tl iv12.2.2.2.2.2.1) (Sk_top iv12.2.2.2.2.2.1 iv12.2.2.2.2.2.2 (by omega)).2 (by omega)).1, ← th_]) (Sk_tl (Sk_tl iv12.2.2.2.2.2.1)) (Sk_top (Sk_tl iv12.2.2.2.2.2.1) (Sk_top iv12.2.2.2.2.2.1 iv12.2.2.2.2.2.2 (by omega)).2 (by omega)).2) (er_nx (by omega)) (by omega)⟩) (by omega) hw (lv_sub hl [2, 3, 4, 5, 6, 1, 0] rfl)
          · refine j_aload_n E 52 rfl dX10_worth_51 rfl (lv_at hl 0 rfl) ?_
            refine m_ag_33 E hK hw 55 rfl dX10_worth_52 ?_
            refine j_iload E 57 rfl dX10_worth_55 (lv_at hl 6 rfl) ?_
            refine m_ld_33 E hK hw (f_0 33 gk) rfl (by omega) 58 rfl dX10_worth_57 (fun rr25_ => ?_)
            refine j_goto E 115 dX10_worth_58 (by decide) ?_
            refine m_st_47 E hK hw (by omega) rr25_ 116 rfl dX10_worth_115 (fun H locs hw => ?_)
            have hw : WM D cy q (n_0) (upF f_0 47 (upA (y47_c12) gn (f_0 33 gk))) A0 H0 H locs := hw
            refine j_iload E 118 rfl dX10_worth_116 (lv_at hl 5 rfl) ?_
            refine j_iconst E 119 rfl dX10_worth_118 ?_
            refine j_iadd E 120 rfl dX10_worth_119 ?_
            refine j_istore E 122 rfl [(5, .int (J (gn + 1))), (0, .ref (q 0)), (1, .int (J v_w)), (2, .int (J v_begin)), (3, .int (J v_end)), (4, .int (J v_x)), (6, .int (J gk))] dX10_worth_120 hl (by decide) rfl (fun ls hl => ?_)
            refine j_goto E 202 dX10_worth_122 (by decide) ?_
            refine j_iinc E 205 rfl [(6, .int (J (gk + 1))), (5, .int (J (gn + 1))), (0, .ref (q 0)), (1, .int (J v_w)), (2, .int (J v_begin)), (3, .int (J v_end)), (4, .int (J v_x))] dX10_worth_202 hl (kk := 6) rfl (by decide) rfl (fun ls hl => ?_)
            refine j_goto E 12 dX10_worth_205 (by decide) ?_
            exact ih12 (gn + 1) (gk + 1) (upA (y47_c12) gn (f_0 33 gk)) H locs ls (rr (by omega)) (rr (by omega)) (⟨by omega, by omega, by omega, by omega, fun h1_ h2_ => by first | (exfalso; rw [show gk + 1 - 1 = gk by omega] at h2_; omega) | (rw [show gk + 1 - 1 = gk by omega, show gn + 1 - 1 = gn by omega]; exact upA_same _ _ _), by first | exact sk_fin (er_put (er_0 (by omega) (by omega)) iv12.2.2.2.2.2.1 iv12.2.2.2.2.2.2) (er_nx (by omega)) (by omega) | exact sk_fin (er_put (er_1 (by omega) (by omega)) iv12.2.2.2.2.2.1 iv12.2.2.2.2.2.2) (er_nx (by omega)) (by omega) | exact sk_fin (er_put (er_2 (by omega) (by omega) (by omega)) iv12.2.2.2.2.2.1 iv12.2.2.2.2.2.2) (er_nx (by omega)) (by omega) | exact sk_fin (er_put (er_20 (by omega) (by omega) (by omega)) iv12.2.2.2.2.2.1 iv12.2.2.2.2.2.2) (er_nx (by omega)) (by omega) | exact sk_fin (er_put (by rw [er_10 (by omega), (Sk_top iv12.2.2.2.2.2.1 iv12.2.2.2.2.2.2 (by omega)).1, ← w32_of rn_ en_]) (Sk_tl iv12.2.2.2.2.2.1) (Sk_top iv12.2.2.2.2.2.1 iv12.2.2.2.2.2.2 (by omega)).2) (er_nx (by omega)) (by omega) | exact sk_fin (er_put (by rw [er_3 (by omega), (Sk_top iv12.2.2.2.2.2.1 iv12.2.2.2.2.2.2 (by omega)).1, (Sk_top (Sk_tl iv12.2.2.2.2.2.1) (Sk_top iv12.2.2.2.2.2.1 iv12.2.2.2.2.2.2 (by omega)).2 (by omega)).1, ← th_]) (Sk_tl (Sk_tl iv12.2.2.2.2.2.1)) (Sk_top (Sk_tl iv12.2.2.2.2.2.1) (Sk_top iv12.2.2.2.2.2.1 iv12.2.2.2.2.2.2 (by omega)).2 (by omega)).2) (er_nx (by omega)) (by omega)⟩) (by omega) hw (lv_sub hl [2, 3, 4, 5, 6, 1, 0] rfl)
  exact L12_1 _ 0 ((400 * v_w) + v_begin) (f_0 47) H locs ls (rr (by decide)) (rr (by omega)) (⟨by omega, by omega, d0_.symm, by omega, fun h => absurd h (by omega), by rw [cL_0 rfl]; exact trivial, by rw [cL_0 rfl]; rfl⟩) (mk_lt _) hw (lv_sub hl [2, 3, 4, 5, 6, 1, 0] rfl)
set_option maxHeartbeats 4000000 in
set_option maxRecDepth 100000 in
theorem c_X10_owedIn (l : Launch) (D : va_G) (cy : Nat → ClassId) (q : Nat → Nat) (n_0 : Nat → Int) (f_0 : Nat → Int → Int) (v_w v_x : Int) (s1_ : List Int) (s2_ : List Int) (s3_ : List Int) (r_v_w : inR v_w) (r_v_x : inR v_x) (hp0 : -1 ≤ v_w ∧ v_w < (n_0 29)) (hp1 : 0 ≤ (n_0 29) ∧ (n_0 29) ≤ 32) (hp2 : Cod_ (f_0 32) (f_0 33) (f_0 34) (f_0 35) (f_0 36) (n_0 29)) (hp3 : ¬ v_w = -1 → (cL_ (f_0 32) (f_0 33) (400 * v_w + 0) (400 * v_w + (f_0 34 v_w)) = s1_ ∧ cL_ (f_0 32) (f_0 33) (400 * v_w + (f_0 34 v_w)) (400 * v_w + (f_0 35 v_w)) = s2_ ∧ cL_ (f_0 32) (f_0 33) (400 * v_w + (f_0 35 v_w)) (400 * v_w + (f_0 36 v_w)) = s3_ ∧ TyN_ s1_ ∧ TyB_ s2_ ∧ TyB_ s3_)) : MC l D cy q yX10_owedIn cX10_owedIn 4 (some .int) 2 [.int (J v_w), .int (J v_x)] n_0 f_0 (PI (fun (z_0 : Int) (n_2 : Nat → Int) (f_2 : Nat → Int → Int) => ∃ (y47_2 : Int → Int) , n_2 = n_0 ∧ f_2 = upF f_0 47 y47_2 ∧ (z_0 = ow1_ (f_0 45) (f_0 46) v_x v_w s1_ s2_ s3_))) := by
  refine MC.ofi rfl (Nat.le_of_ble_eq_true rfl) ?_
  intro p e s m below meth c ls ar QW A0 H0 H locs E hK hA hw hl hret
  have hl : lv_has ls 4 [(0, .ref (q 0)), (1, .int (J v_w)), (2, .int (J v_x))] := hl
  refine j_iload_n E 1 rfl dX10_owedIn_0 rfl (lv_at hl 1 rfl) ?_
  refine j_iconst E 2 rfl dX10_owedIn_1 ?_
  refine j_icmp_ne E 5 7 rfl r_v_w (rr (by decide)) dX10_owedIn_2 (by decide) (fun cc1_ => ?_) (fun cc1_ => ?_)
  · obtain ⟨hb_, g1_, g2_, g3_⟩ := hp2 v_w (by omega) (by omega)
    obtain ⟨e1_, e2_, e3_, t1_, t2_, t3_⟩ := hp3 (by omega)
    have wn_ : ¬ v_w = -1 := by omega
    refine j_aload_n E 8 rfl dX10_owedIn_7 rfl (lv_at hl 0 rfl) ?_
    refine m_ag_35 E hK hw 11 rfl dX10_owedIn_8 ?_
    refine j_iload_n E 12 rfl dX10_owedIn_11 rfl (lv_at hl 1 rfl) ?_
    refine m_ld_35 E hK hw (f_0 35 v_w) rfl (by omega) 13 rfl dX10_owedIn_12 (fun rr2_ => ?_)
    refine j_aload_n E 14 rfl dX10_owedIn_13 rfl (lv_at hl 0 rfl) ?_
    refine m_ag_34 E hK hw 17 rfl dX10_owedIn_14 ?_
    refine j_iload_n E 18 rfl dX10_owedIn_17 rfl (lv_at hl 1 rfl) ?_
    refine m_ld_34 E hK hw (f_0 34 v_w) rfl (by omega) 19 rfl dX10_owedIn_18 (fun rr3_ => ?_)
    refine j_icmp_le E 22 45 rfl rr2_ rr3_ dX10_owedIn_19 (by decide) (fun cc4_ => ?_) (fun cc4_ => ?_)
    · refine j_aload_n E 46 rfl dX10_owedIn_45 rfl (lv_at hl 0 rfl) ?_
      refine m_ag_36 E hK hw 49 rfl dX10_owedIn_46 ?_
      refine j_iload_n E 50 rfl dX10_owedIn_49 rfl (lv_at hl 1 rfl) ?_
      refine m_ld_36 E hK hw (f_0 36 v_w) rfl (by omega) 51 rfl dX10_owedIn_50 (fun rr5_ => ?_)
      refine j_aload_n E 52 rfl dX10_owedIn_51 rfl (lv_at hl 0 rfl) ?_
      refine m_ag_35 E hK hw 55 rfl dX10_owedIn_52 ?_
      refine j_iload_n E 56 rfl dX10_owedIn_55 rfl (lv_at hl 1 rfl) ?_
      refine m_ld_35 E hK hw (f_0 35 v_w) rfl (by omega) 57 rfl dX10_owedIn_56 (fun _ => ?_)
      refine j_icmp_le E 60 83 rfl rr5_ rr2_ dX10_owedIn_57 (by decide) (fun cc6_ => ?_) (fun cc6_ => ?_)
      · refine j_aload_n E 84 rfl dX10_owedIn_83 rfl (lv_at hl 0 rfl) ?_
        refine j_iload_n E 85 rfl dX10_owedIn_84 rfl (lv_at hl 1 rfl) ?_
        refine j_iconst E 86 rfl dX10_owedIn_85 ?_
        refine j_aload_n E 87 rfl dX10_owedIn_86 rfl (lv_at hl 0 rfl) ?_
        refine m_ag_34 E hK hw 90 rfl dX10_owedIn_87 ?_
        refine j_iload_n E 91 rfl dX10_owedIn_90 rfl (lv_at hl 1 rfl) ?_
        refine m_ld_34 E hK hw (f_0 34 v_w) rfl (by omega) 92 rfl dX10_owedIn_91 (fun _ => ?_)
        refine j_iload_n E 93 rfl dX10_owedIn_92 rfl (lv_at hl 2 rfl) ?_
        refine m_calli E (c_X10_worth l D cy q (n_0) (f_0) v_w 0 (f_0 34 v_w) v_x  r_v_w (rr (by decide)) rr3_ r_v_x (show 0 ≤ v_w ∧ v_w < 32 from by omega) (show 0 ≤ (0 : Int) ∧ (0 : Int) ≤ (f_0 34 v_w) ∧ (f_0 34 v_w) ≤ 400 from by omega) (show ∃ e_, Seg_ (f_0 32) (f_0 33) (400 * v_w + (0 : Int)) (400 * v_w + (f_0 34 v_w)) e_ from g1_)) rfl mt_X10_worth ml_X10_313 hK hw hA ⟨Nat.le_of_ble_eq_true rfl, Nat.le_of_ble_eq_true rfl⟩ (As := [.int (J v_w), .int (J 0), .int (J (f_0 34 v_w)), .int (J v_x)]) (rest := []) rfl rfl hl.1 (Nat.le_of_ble_eq_true rfl) 96 rfl dX10_owedIn_93 (fun zz7_ n_7 f_7 H locs rr7_ hq7_ hw => ?_)
        obtain ⟨y47_7, en7_, ef7_, hq7_⟩ := hq7_
        rw [en7_, ef7_] at hw; clear en7_ ef7_
        have hw : WM D cy q (n_0) (upF f_0 47 y47_7) A0 H0 H locs := hw
        have hh7_ : Sk_ (y47_7) (ers_ (f_0 45) (f_0 46) v_x (cL_ (f_0 32) (f_0 33) (400 * v_w + (0 : Int)) (400 * v_w + (f_0 34 v_w))) []) ∧ zz7_ = (y47_7 0) := hq7_
        clear hq7_
        have h1_ := hh7_
        clear hh7_
        rw [e1_] at h1_
        have v1_ := wv_ h1_ t1_
        refine j_istore_n E 97 rfl [(3, .int (J zz7_)), (0, .ref (q 0)), (1, .int (J v_w)), (2, .int (J v_x))] dX10_owedIn_96 rfl hl (by decide) rfl (fun ls hl => ?_)
        refine j_iload_n E 98 rfl dX10_owedIn_97 rfl (lv_at hl 0 rfl) ?_
        refine j_if_ge E 101 105 rfl rr7_ dX10_owedIn_98 (by decide) (fun cc8_ => ?_) (fun cc8_ => ?_)
        · refine j_iload_n E 106 rfl dX10_owedIn_105 rfl (lv_at hl 0 rfl) ?_
          refine j_sipush E 109 rfl dX10_owedIn_106 (by decide) ?_
          refine j_icmp_le E 112 118 rfl rr7_ (rr (by decide)) dX10_owedIn_109 (by decide) (fun cc9_ => ?_) (fun cc9_ => ?_)
          · refine j_iload_n E 119 rfl dX10_owedIn_118 rfl (lv_at hl 0 rfl) ?_
            exact hret 119 zz7_ (n_0) (upF f_0 47 y47_7) _ _ ls hw rr7_ ⟨y47_7, rfl, rfl, by rw [ow1_s wn_, own_val (by first | exact Or.inl (e2_.symm.trans (cL_0 (by omega))) | exact Or.inr (by omega)) (by first | exact Or.inl (e3_.symm.trans (cL_0 (by omega))) | exact Or.inr (by omega)), ← v1_]; unfold cl4_; (repeat' split) <;> omega⟩ dX10_owedIn_119
          · refine j_sipush E 115 rfl dX10_owedIn_112 (by decide) ?_
            refine j_goto E 119 dX10_owedIn_115 (by decide) ?_
            exact hret 119 9999 (n_0) (upF f_0 47 y47_7) _ _ ls hw (rr (by decide)) ⟨y47_7, rfl, rfl, by rw [ow1_s wn_, own_val (by first | exact Or.inl (e2_.symm.trans (cL_0 (by omega))) | exact Or.inr (by omega)) (by first | exact Or.inl (e3_.symm.trans (cL_0 (by omega))) | exact Or.inr (by omega)), ← v1_]; unfold cl4_; (repeat' split) <;> omega⟩ dX10_owedIn_119
        · refine j_iconst E 102 rfl dX10_owedIn_101 ?_
          refine j_goto E 119 dX10_owedIn_102 (by decide) ?_
          exact hret 119 0 (n_0) (upF f_0 47 y47_7) _ _ ls hw (rr (by decide)) ⟨y47_7, rfl, rfl, by rw [ow1_s wn_, own_val (by first | exact Or.inl (e2_.symm.trans (cL_0 (by omega))) | exact Or.inr (by omega)) (by first | exact Or.inl (e3_.symm.trans (cL_0 (by omega))) | exact Or.inr (by omega)), ← v1_]; unfold cl4_; (repeat' split) <;> omega⟩ dX10_owedIn_119
      · refine j_aload_n E 61 rfl dX10_owedIn_60 rfl (lv_at hl 0 rfl) ?_
        refine j_iload_n E 62 rfl dX10_owedIn_61 rfl (lv_at hl 1 rfl) ?_
        refine j_aload_n E 63 rfl dX10_owedIn_62 rfl (lv_at hl 0 rfl) ?_
        refine m_ag_35 E hK hw 66 rfl dX10_owedIn_63 ?_
        refine j_iload_n E 67 rfl dX10_owedIn_66 rfl (lv_at hl 1 rfl) ?_
        refine m_ld_35 E hK hw (f_0 35 v_w) rfl (by omega) 68 rfl dX10_owedIn_67 (fun _ => ?_)
        refine j_aload_n E 69 rfl dX10_owedIn_68 rfl (lv_at hl 0 rfl) ?_
        refine m_ag_36 E hK hw 72 rfl dX10_owedIn_69 ?_
        refine j_iload_n E 73 rfl dX10_owedIn_72 rfl (lv_at hl 1 rfl) ?_
        refine m_ld_36 E hK hw (f_0 36 v_w) rfl (by omega) 74 rfl dX10_owedIn_73 (fun _ => ?_)
        refine j_iload_n E 75 rfl dX10_owedIn_74 rfl (lv_at hl 2 rfl) ?_
        refine m_calli E (c_X10_worth l D cy q (n_0) (f_0) v_w (f_0 35 v_w) (f_0 36 v_w) v_x  r_v_w rr2_ rr5_ r_v_x (show 0 ≤ v_w ∧ v_w < 32 from by omega) (show 0 ≤ (f_0 35 v_w) ∧ (f_0 35 v_w) ≤ (f_0 36 v_w) ∧ (f_0 36 v_w) ≤ 400 from by omega) (show ∃ e_, Seg_ (f_0 32) (f_0 33) (400 * v_w + (f_0 35 v_w)) (400 * v_w + (f_0 36 v_w)) e_ from g3_)) rfl mt_X10_worth ml_X10_313 hK hw hA ⟨Nat.le_of_ble_eq_true rfl, Nat.le_of_ble_eq_true rfl⟩ (As := [.int (J v_w), .int (J (f_0 35 v_w)), .int (J (f_0 36 v_w)), .int (J v_x)]) (rest := []) rfl rfl hl.1 (Nat.le_of_ble_eq_true rfl) 78 rfl dX10_owedIn_75 (fun zz10_ n_10 f_10 H locs rr10_ hq10_ hw => ?_)
        obtain ⟨y47_10, en10_, ef10_, hq10_⟩ := hq10_
        rw [en10_, ef10_] at hw; clear en10_ ef10_
        have hw : WM D cy q (n_0) (upF f_0 47 y47_10) A0 H0 H locs := hw
        have hh10_ : Sk_ (y47_10) (ers_ (f_0 45) (f_0 46) v_x (cL_ (f_0 32) (f_0 33) (400 * v_w + (f_0 35 v_w)) (400 * v_w + (f_0 36 v_w))) []) ∧ zz10_ = (y47_10 0) := hq10_
        clear hq10_
        have h3_ := hh10_
        clear hh10_
        rw [e3_] at h3_
        have n3_ : s3_ ≠ [] := by rw [← e3_]; exact cL_ne (by omega)
        have v3_ := wv_ h3_ (t3_.elim (fun q_ => absurd q_ n3_) id)
        refine j_if_eq E 81 83 rfl rr10_ dX10_owedIn_78 (by decide) (fun cc11_ => ?_) (fun cc11_ => ?_)
        · refine j_aload_n E 84 rfl dX10_owedIn_83 rfl (lv_at hl 0 rfl) ?_
          refine j_iload_n E 85 rfl dX10_owedIn_84 rfl (lv_at hl 1 rfl) ?_
          refine j_iconst E 86 rfl dX10_owedIn_85 ?_
          refine j_aload_n E 87 rfl dX10_owedIn_86 rfl (lv_at hl 0 rfl) ?_
          refine m_ag_34 E hK hw 90 rfl dX10_owedIn_87 ?_
          refine j_iload_n E 91 rfl dX10_owedIn_90 rfl (lv_at hl 1 rfl) ?_
          refine m_ld_34 E hK hw (f_0 34 v_w) rfl (by omega) 92 rfl dX10_owedIn_91 (fun _ => ?_)
          refine j_iload_n E 93 rfl dX10_owedIn_92 rfl (lv_at hl 2 rfl) ?_
          refine m_calli E (c_X10_worth l D cy q (n_0) (upF f_0 47 y47_10) v_w 0 (f_0 34 v_w) v_x  r_v_w (rr (by decide)) rr3_ r_v_x (show 0 ≤ v_w ∧ v_w < 32 from by omega) (show 0 ≤ (0 : Int) ∧ (0 : Int) ≤ (f_0 34 v_w) ∧ (f_0 34 v_w) ≤ 400 from by omega) (show ∃ e_, Seg_ (f_0 32) (f_0 33) (400 * v_w + (0 : Int)) (400 * v_w + (f_0 34 v_w)) e_ from g1_)) rfl mt_X10_worth ml_X10_313 hK hw hA ⟨Nat.le_of_ble_eq_true rfl, Nat.le_of_ble_eq_true rfl⟩ (As := [.int (J v_w), .int (J 0), .int (J (f_0 34 v_w)), .int (J v_x)]) (rest := []) rfl rfl hl.1 (Nat.le_of_ble_eq_true rfl) 96 rfl dX10_owedIn_93 (fun zz12_ n_12 f_12 H locs rr12_ hq12_ hw => ?_)
          obtain ⟨y47_12, en12_, ef12_, hq12_⟩ := hq12_
          rw [en12_, ef12_] at hw; clear en12_ ef12_
          have hw : WM D cy q (n_0) (upF f_0 47 y47_12) A0 H0 H locs := hw
          have hh12_ : Sk_ (y47_12) (ers_ (f_0 45) (f_0 46) v_x (cL_ (f_0 32) (f_0 33) (400 * v_w + (0 : Int)) (400 * v_w + (f_0 34 v_w))) []) ∧ zz12_ = (y47_12 0) := hq12_
          clear hq12_
          have h1_ := hh12_
          clear hh12_
          rw [e1_] at h1_
          have v1_ := wv_ h1_ t1_
          refine j_istore_n E 97 rfl [(3, .int (J zz12_)), (0, .ref (q 0)), (1, .int (J v_w)), (2, .int (J v_x))] dX10_owedIn_96 rfl hl (by decide) rfl (fun ls hl => ?_)
          refine j_iload_n E 98 rfl dX10_owedIn_97 rfl (lv_at hl 0 rfl) ?_
          refine j_if_ge E 101 105 rfl rr12_ dX10_owedIn_98 (by decide) (fun cc13_ => ?_) (fun cc13_ => ?_)
          · refine j_iload_n E 106 rfl dX10_owedIn_105 rfl (lv_at hl 0 rfl) ?_
            refine j_sipush E 109 rfl dX10_owedIn_106 (by decide) ?_
            refine j_icmp_le E 112 118 rfl rr12_ (rr (by decide)) dX10_owedIn_109 (by decide) (fun cc14_ => ?_) (fun cc14_ => ?_)
            · refine j_iload_n E 119 rfl dX10_owedIn_118 rfl (lv_at hl 0 rfl) ?_
              exact hret 119 zz12_ (n_0) (upF f_0 47 y47_12) _ _ ls hw rr12_ ⟨y47_12, rfl, rfl, by rw [ow1_s wn_, own_val (by first | exact Or.inl (e2_.symm.trans (cL_0 (by omega))) | exact Or.inr (by omega)) (by first | exact Or.inl (e3_.symm.trans (cL_0 (by omega))) | exact Or.inr (by omega)), ← v1_]; unfold cl4_; (repeat' split) <;> omega⟩ dX10_owedIn_119
            · refine j_sipush E 115 rfl dX10_owedIn_112 (by decide) ?_
              refine j_goto E 119 dX10_owedIn_115 (by decide) ?_
              exact hret 119 9999 (n_0) (upF f_0 47 y47_12) _ _ ls hw (rr (by decide)) ⟨y47_12, rfl, rfl, by rw [ow1_s wn_, own_val (by first | exact Or.inl (e2_.symm.trans (cL_0 (by omega))) | exact Or.inr (by omega)) (by first | exact Or.inl (e3_.symm.trans (cL_0 (by omega))) | exact Or.inr (by omega)), ← v1_]; unfold cl4_; (repeat' split) <;> omega⟩ dX10_owedIn_119
          · refine j_iconst E 102 rfl dX10_owedIn_101 ?_
            refine j_goto E 119 dX10_owedIn_102 (by decide) ?_
            exact hret 119 0 (n_0) (upF f_0 47 y47_12) _ _ ls hw (rr (by decide)) ⟨y47_12, rfl, rfl, by rw [ow1_s wn_, own_val (by first | exact Or.inl (e2_.symm.trans (cL_0 (by omega))) | exact Or.inr (by omega)) (by first | exact Or.inl (e3_.symm.trans (cL_0 (by omega))) | exact Or.inr (by omega)), ← v1_]; unfold cl4_; (repeat' split) <;> omega⟩ dX10_owedIn_119
        · refine j_iconst E 82 rfl dX10_owedIn_81 ?_
          exact hret 82 0 (n_0) (upF f_0 47 y47_10) _ _ ls hw (rr (by decide)) ⟨y47_10, rfl, rfl, by rw [ow1_s wn_]; exact (own_un0 n3_ (by omega)).symm⟩ dX10_owedIn_82
    · refine j_aload_n E 23 rfl dX10_owedIn_22 rfl (lv_at hl 0 rfl) ?_
      refine j_iload_n E 24 rfl dX10_owedIn_23 rfl (lv_at hl 1 rfl) ?_
      refine j_aload_n E 25 rfl dX10_owedIn_24 rfl (lv_at hl 0 rfl) ?_
      refine m_ag_34 E hK hw 28 rfl dX10_owedIn_25 ?_
      refine j_iload_n E 29 rfl dX10_owedIn_28 rfl (lv_at hl 1 rfl) ?_
      refine m_ld_34 E hK hw (f_0 34 v_w) rfl (by omega) 30 rfl dX10_owedIn_29 (fun _ => ?_)
      refine j_aload_n E 31 rfl dX10_owedIn_30 rfl (lv_at hl 0 rfl) ?_
      refine m_ag_35 E hK hw 34 rfl dX10_owedIn_31 ?_
      refine j_iload_n E 35 rfl dX10_owedIn_34 rfl (lv_at hl 1 rfl) ?_
      refine m_ld_35 E hK hw (f_0 35 v_w) rfl (by omega) 36 rfl dX10_owedIn_35 (fun _ => ?_)
      refine j_iload_n E 37 rfl dX10_owedIn_36 rfl (lv_at hl 2 rfl) ?_
      refine m_calli E (c_X10_worth l D cy q (n_0) (f_0) v_w (f_0 34 v_w) (f_0 35 v_w) v_x  r_v_w rr3_ rr2_ r_v_x (show 0 ≤ v_w ∧ v_w < 32 from by omega) (show 0 ≤ (f_0 34 v_w) ∧ (f_0 34 v_w) ≤ (f_0 35 v_w) ∧ (f_0 35 v_w) ≤ 400 from by omega) (show ∃ e_, Seg_ (f_0 32) (f_0 33) (400 * v_w + (f_0 34 v_w)) (400 * v_w + (f_0 35 v_w)) e_ from g2_)) rfl mt_X10_worth ml_X10_313 hK hw hA ⟨Nat.le_of_ble_eq_true rfl, Nat.le_of_ble_eq_true rfl⟩ (As := [.int (J v_w), .int (J (f_0 34 v_w)), .int (J (f_0 35 v_w)), .int (J v_x)]) (rest := []) rfl rfl hl.1 (Nat.le_of_ble_eq_true rfl) 40 rfl dX10_owedIn_37 (fun zz15_ n_15 f_15 H locs rr15_ hq15_ hw => ?_)
      obtain ⟨y47_15, en15_, ef15_, hq15_⟩ := hq15_
      rw [en15_, ef15_] at hw; clear en15_ ef15_
      have hw : WM D cy q (n_0) (upF f_0 47 y47_15) A0 H0 H locs := hw
      have hh15_ : Sk_ (y47_15) (ers_ (f_0 45) (f_0 46) v_x (cL_ (f_0 32) (f_0 33) (400 * v_w + (f_0 34 v_w)) (400 * v_w + (f_0 35 v_w))) []) ∧ zz15_ = (y47_15 0) := hq15_
      clear hq15_
      have h2_ := hh15_
      clear hh15_
      rw [e2_] at h2_
      have n2_ : s2_ ≠ [] := by rw [← e2_]; exact cL_ne (by omega)
      have v2_ := wv_ h2_ (t2_.elim (fun q_ => absurd q_ n2_) id)
      refine j_if_ne E 43 45 rfl rr15_ dX10_owedIn_40 (by decide) (fun cc16_ => ?_) (fun cc16_ => ?_)
      · refine j_aload_n E 46 rfl dX10_owedIn_45 rfl (lv_at hl 0 rfl) ?_
        refine m_ag_36 E hK hw 49 rfl dX10_owedIn_46 ?_
        refine j_iload_n E 50 rfl dX10_owedIn_49 rfl (lv_at hl 1 rfl) ?_
        refine m_ld_36 E hK hw (f_0 36 v_w) rfl (by omega) 51 rfl dX10_owedIn_50 (fun rr17_ => ?_)
        refine j_aload_n E 52 rfl dX10_owedIn_51 rfl (lv_at hl 0 rfl) ?_
        refine m_ag_35 E hK hw 55 rfl dX10_owedIn_52 ?_
        refine j_iload_n E 56 rfl dX10_owedIn_55 rfl (lv_at hl 1 rfl) ?_
        refine m_ld_35 E hK hw (f_0 35 v_w) rfl (by omega) 57 rfl dX10_owedIn_56 (fun _ => ?_)
        refine j_icmp_le E 60 83 rfl rr17_ rr2_ dX10_owedIn_57 (by decide) (fun cc18_ => ?_) (fun cc18_ => ?_)
        · refine j_aload_n E 84 rfl dX10_owedIn_83 rfl (lv_at hl 0 rfl) ?_
          refine j_iload_n E 85 rfl dX10_owedIn_84 rfl (lv_at hl 1 rfl) ?_
          refine j_iconst E 86 rfl dX10_owedIn_85 ?_
          refine j_aload_n E 87 rfl dX10_owedIn_86 rfl (lv_at hl 0 rfl) ?_
          refine m_ag_34 E hK hw 90 rfl dX10_owedIn_87 ?_
          refine j_iload_n E 91 rfl dX10_owedIn_90 rfl (lv_at hl 1 rfl) ?_
          refine m_ld_34 E hK hw (f_0 34 v_w) rfl (by omega) 92 rfl dX10_owedIn_91 (fun _ => ?_)
          refine j_iload_n E 93 rfl dX10_owedIn_92 rfl (lv_at hl 2 rfl) ?_
          refine m_calli E (c_X10_worth l D cy q (n_0) (upF f_0 47 y47_15) v_w 0 (f_0 34 v_w) v_x  r_v_w (rr (by decide)) rr3_ r_v_x (show 0 ≤ v_w ∧ v_w < 32 from by omega) (show 0 ≤ (0 : Int) ∧ (0 : Int) ≤ (f_0 34 v_w) ∧ (f_0 34 v_w) ≤ 400 from by omega) (show ∃ e_, Seg_ (f_0 32) (f_0 33) (400 * v_w + (0 : Int)) (400 * v_w + (f_0 34 v_w)) e_ from g1_)) rfl mt_X10_worth ml_X10_313 hK hw hA ⟨Nat.le_of_ble_eq_true rfl, Nat.le_of_ble_eq_true rfl⟩ (As := [.int (J v_w), .int (J 0), .int (J (f_0 34 v_w)), .int (J v_x)]) (rest := []) rfl rfl hl.1 (Nat.le_of_ble_eq_true rfl) 96 rfl dX10_owedIn_93 (fun zz19_ n_19 f_19 H locs rr19_ hq19_ hw => ?_)
          obtain ⟨y47_19, en19_, ef19_, hq19_⟩ := hq19_
          rw [en19_, ef19_] at hw; clear en19_ ef19_
          have hw : WM D cy q (n_0) (upF f_0 47 y47_19) A0 H0 H locs := hw
          have hh19_ : Sk_ (y47_19) (ers_ (f_0 45) (f_0 46) v_x (cL_ (f_0 32) (f_0 33) (400 * v_w + (0 : Int)) (400 * v_w + (f_0 34 v_w))) []) ∧ zz19_ = (y47_19 0) := hq19_
          clear hq19_
          have h1_ := hh19_
          clear hh19_
          rw [e1_] at h1_
          have v1_ := wv_ h1_ t1_
          refine j_istore_n E 97 rfl [(3, .int (J zz19_)), (0, .ref (q 0)), (1, .int (J v_w)), (2, .int (J v_x))] dX10_owedIn_96 rfl hl (by decide) rfl (fun ls hl => ?_)
          refine j_iload_n E 98 rfl dX10_owedIn_97 rfl (lv_at hl 0 rfl) ?_
          refine j_if_ge E 101 105 rfl rr19_ dX10_owedIn_98 (by decide) (fun cc20_ => ?_) (fun cc20_ => ?_)
          · refine j_iload_n E 106 rfl dX10_owedIn_105 rfl (lv_at hl 0 rfl) ?_
            refine j_sipush E 109 rfl dX10_owedIn_106 (by decide) ?_
            refine j_icmp_le E 112 118 rfl rr19_ (rr (by decide)) dX10_owedIn_109 (by decide) (fun cc21_ => ?_) (fun cc21_ => ?_)
            · refine j_iload_n E 119 rfl dX10_owedIn_118 rfl (lv_at hl 0 rfl) ?_
              exact hret 119 zz19_ (n_0) (upF f_0 47 y47_19) _ _ ls hw rr19_ ⟨y47_19, rfl, rfl, by rw [ow1_s wn_, own_val (by first | exact Or.inl (e2_.symm.trans (cL_0 (by omega))) | exact Or.inr (by omega)) (by first | exact Or.inl (e3_.symm.trans (cL_0 (by omega))) | exact Or.inr (by omega)), ← v1_]; unfold cl4_; (repeat' split) <;> omega⟩ dX10_owedIn_119
            · refine j_sipush E 115 rfl dX10_owedIn_112 (by decide) ?_
              refine j_goto E 119 dX10_owedIn_115 (by decide) ?_
              exact hret 119 9999 (n_0) (upF f_0 47 y47_19) _ _ ls hw (rr (by decide)) ⟨y47_19, rfl, rfl, by rw [ow1_s wn_, own_val (by first | exact Or.inl (e2_.symm.trans (cL_0 (by omega))) | exact Or.inr (by omega)) (by first | exact Or.inl (e3_.symm.trans (cL_0 (by omega))) | exact Or.inr (by omega)), ← v1_]; unfold cl4_; (repeat' split) <;> omega⟩ dX10_owedIn_119
          · refine j_iconst E 102 rfl dX10_owedIn_101 ?_
            refine j_goto E 119 dX10_owedIn_102 (by decide) ?_
            exact hret 119 0 (n_0) (upF f_0 47 y47_19) _ _ ls hw (rr (by decide)) ⟨y47_19, rfl, rfl, by rw [ow1_s wn_, own_val (by first | exact Or.inl (e2_.symm.trans (cL_0 (by omega))) | exact Or.inr (by omega)) (by first | exact Or.inl (e3_.symm.trans (cL_0 (by omega))) | exact Or.inr (by omega)), ← v1_]; unfold cl4_; (repeat' split) <;> omega⟩ dX10_owedIn_119
        · refine j_aload_n E 61 rfl dX10_owedIn_60 rfl (lv_at hl 0 rfl) ?_
          refine j_iload_n E 62 rfl dX10_owedIn_61 rfl (lv_at hl 1 rfl) ?_
          refine j_aload_n E 63 rfl dX10_owedIn_62 rfl (lv_at hl 0 rfl) ?_
          refine m_ag_35 E hK hw 66 rfl dX10_owedIn_63 ?_
          refine j_iload_n E 67 rfl dX10_owedIn_66 rfl (lv_at hl 1 rfl) ?_
          refine m_ld_35 E hK hw (f_0 35 v_w) rfl (by omega) 68 rfl dX10_owedIn_67 (fun _ => ?_)
          refine j_aload_n E 69 rfl dX10_owedIn_68 rfl (lv_at hl 0 rfl) ?_
          refine m_ag_36 E hK hw 72 rfl dX10_owedIn_69 ?_
          refine j_iload_n E 73 rfl dX10_owedIn_72 rfl (lv_at hl 1 rfl) ?_
          refine m_ld_36 E hK hw (f_0 36 v_w) rfl (by omega) 74 rfl dX10_owedIn_73 (fun _ => ?_)
          refine j_iload_n E 75 rfl dX10_owedIn_74 rfl (lv_at hl 2 rfl) ?_
          refine m_calli E (c_X10_worth l D cy q (n_0) (upF f_0 47 y47_15) v_w (f_0 35 v_w) (f_0 36 v_w) v_x  r_v_w rr2_ rr17_ r_v_x (show 0 ≤ v_w ∧ v_w < 32 from by omega) (show 0 ≤ (f_0 35 v_w) ∧ (f_0 35 v_w) ≤ (f_0 36 v_w) ∧ (f_0 36 v_w) ≤ 400 from by omega) (show ∃ e_, Seg_ (f_0 32) (f_0 33) (400 * v_w + (f_0 35 v_w)) (400 * v_w + (f_0 36 v_w)) e_ from g3_)) rfl mt_X10_worth ml_X10_313 hK hw hA ⟨Nat.le_of_ble_eq_true rfl, Nat.le_of_ble_eq_true rfl⟩ (As := [.int (J v_w), .int (J (f_0 35 v_w)), .int (J (f_0 36 v_w)), .int (J v_x)]) (rest := []) rfl rfl hl.1 (Nat.le_of_ble_eq_true rfl) 78 rfl dX10_owedIn_75 (fun zz22_ n_22 f_22 H locs rr22_ hq22_ hw => ?_)
          obtain ⟨y47_22, en22_, ef22_, hq22_⟩ := hq22_
          rw [en22_, ef22_] at hw; clear en22_ ef22_
          have hw : WM D cy q (n_0) (upF f_0 47 y47_22) A0 H0 H locs := hw
          have hh22_ : Sk_ (y47_22) (ers_ (f_0 45) (f_0 46) v_x (cL_ (f_0 32) (f_0 33) (400 * v_w + (f_0 35 v_w)) (400 * v_w + (f_0 36 v_w))) []) ∧ zz22_ = (y47_22 0) := hq22_
          clear hq22_
          have h3_ := hh22_
          clear hh22_
          rw [e3_] at h3_
          have n3_ : s3_ ≠ [] := by rw [← e3_]; exact cL_ne (by omega)
          have v3_ := wv_ h3_ (t3_.elim (fun q_ => absurd q_ n3_) id)
          refine j_if_eq E 81 83 rfl rr22_ dX10_owedIn_78 (by decide) (fun cc23_ => ?_) (fun cc23_ => ?_)
          · refine j_aload_n E 84 rfl dX10_owedIn_83 rfl (lv_at hl 0 rfl) ?_
            refine j_iload_n E 85 rfl dX10_owedIn_84 rfl (lv_at hl 1 rfl) ?_
            refine j_iconst E 86 rfl dX10_owedIn_85 ?_
            refine j_aload_n E 87 rfl dX10_owedIn_86 rfl (lv_at hl 0 rfl) ?_
            refine m_ag_34 E hK hw 90 rfl dX10_owedIn_87 ?_
            refine j_iload_n E 91 rfl dX10_owedIn_90 rfl (lv_at hl 1 rfl) ?_
            refine m_ld_34 E hK hw (f_0 34 v_w) rfl (by omega) 92 rfl dX10_owedIn_91 (fun _ => ?_)
            refine j_iload_n E 93 rfl dX10_owedIn_92 rfl (lv_at hl 2 rfl) ?_
            refine m_calli E (c_X10_worth l D cy q (n_0) (upF f_0 47 y47_22) v_w 0 (f_0 34 v_w) v_x  r_v_w (rr (by decide)) rr3_ r_v_x (show 0 ≤ v_w ∧ v_w < 32 from by omega) (show 0 ≤ (0 : Int) ∧ (0 : Int) ≤ (f_0 34 v_w) ∧ (f_0 34 v_w) ≤ 400 from by omega) (show ∃ e_, Seg_ (f_0 32) (f_0 33) (400 * v_w + (0 : Int)) (400 * v_w + (f_0 34 v_w)) e_ from g1_)) rfl mt_X10_worth ml_X10_313 hK hw hA ⟨Nat.le_of_ble_eq_true rfl, Nat.le_of_ble_eq_true rfl⟩ (As := [.int (J v_w), .int (J 0), .int (J (f_0 34 v_w)), .int (J v_x)]) (rest := []) rfl rfl hl.1 (Nat.le_of_ble_eq_true rfl) 96 rfl dX10_owedIn_93 (fun zz24_ n_24 f_24 H locs rr24_ hq24_ hw => ?_)
            obtain ⟨y47_24, en24_, ef24_, hq24_⟩ := hq24_
            rw [en24_, ef24_] at hw; clear en24_ ef24_
            have hw : WM D cy q (n_0) (upF f_0 47 y47_24) A0 H0 H locs := hw
            have hh24_ : Sk_ (y47_24) (ers_ (f_0 45) (f_0 46) v_x (cL_ (f_0 32) (f_0 33) (400 * v_w + (0 : Int)) (400 * v_w + (f_0 34 v_w))) []) ∧ zz24_ = (y47_24 0) := hq24_
            clear hq24_
            have h1_ := hh24_
            clear hh24_
            rw [e1_] at h1_
            have v1_ := wv_ h1_ t1_
            refine j_istore_n E 97 rfl [(3, .int (J zz24_)), (0, .ref (q 0)), (1, .int (J v_w)), (2, .int (J v_x))] dX10_owedIn_96 rfl hl (by decide) rfl (fun ls hl => ?_)
            refine j_iload_n E 98 rfl dX10_owedIn_97 rfl (lv_at hl 0 rfl) ?_
            refine j_if_ge E 101 105 rfl rr24_ dX10_owedIn_98 (by decide) (fun cc25_ => ?_) (fun cc25_ => ?_)
            · refine j_iload_n E 106 rfl dX10_owedIn_105 rfl (lv_at hl 0 rfl) ?_
              refine j_sipush E 109 rfl dX10_owedIn_106 (by decide) ?_
              refine j_icmp_le E 112 118 rfl rr24_ (rr (by decide)) dX10_owedIn_109 (by decide) (fun cc26_ => ?_) (fun cc26_ => ?_)
              · refine j_iload_n E 119 rfl dX10_owedIn_118 rfl (lv_at hl 0 rfl) ?_
                exact hret 119 zz24_ (n_0) (upF f_0 47 y47_24) _ _ ls hw rr24_ ⟨y47_24, rfl, rfl, by rw [ow1_s wn_, own_val (by first | exact Or.inl (e2_.symm.trans (cL_0 (by omega))) | exact Or.inr (by omega)) (by first | exact Or.inl (e3_.symm.trans (cL_0 (by omega))) | exact Or.inr (by omega)), ← v1_]; unfold cl4_; (repeat' split) <;> omega⟩ dX10_owedIn_119
              · refine j_sipush E 115 rfl dX10_owedIn_112 (by decide) ?_
                refine j_goto E 119 dX10_owedIn_115 (by decide) ?_
                exact hret 119 9999 (n_0) (upF f_0 47 y47_24) _ _ ls hw (rr (by decide)) ⟨y47_24, rfl, rfl, by rw [ow1_s wn_, own_val (by first | exact Or.inl (e2_.symm.trans (cL_0 (by omega))) | exact Or.inr (by omega)) (by first | exact Or.inl (e3_.symm.trans (cL_0 (by omega))) | exact Or.inr (by omega)), ← v1_]; unfold cl4_; (repeat' split) <;> omega⟩ dX10_owedIn_119
            · refine j_iconst E 102 rfl dX10_owedIn_101 ?_
              refine j_goto E 119 dX10_owedIn_102 (by decide) ?_
              exact hret 119 0 (n_0) (upF f_0 47 y47_24) _ _ ls hw (rr (by decide)) ⟨y47_24, rfl, rfl, by rw [ow1_s wn_, own_val (by first | exact Or.inl (e2_.symm.trans (cL_0 (by omega))) | exact Or.inr (by omega)) (by first | exact Or.inl (e3_.symm.trans (cL_0 (by omega))) | exact Or.inr (by omega)), ← v1_]; unfold cl4_; (repeat' split) <;> omega⟩ dX10_owedIn_119
          · refine j_iconst E 82 rfl dX10_owedIn_81 ?_
            exact hret 82 0 (n_0) (upF f_0 47 y47_22) _ _ ls hw (rr (by decide)) ⟨y47_22, rfl, rfl, by rw [ow1_s wn_]; exact (own_un0 n3_ (by omega)).symm⟩ dX10_owedIn_82
      · refine j_iconst E 44 rfl dX10_owedIn_43 ?_
        exact hret 44 0 (n_0) (upF f_0 47 y47_15) _ _ ls hw (rr (by decide)) ⟨y47_15, rfl, rfl, by rw [ow1_s wn_]; exact (own_wh0 n2_ (by omega)).symm⟩ dX10_owedIn_44
  · refine j_iconst E 6 rfl dX10_owedIn_5 ?_
    exact hret 6 0 (n_0) (upF f_0 47 (f_0 47)) _ _ ls hw (rr (by decide)) ⟨(f_0 47), rfl, rfl, (ow1_n (by omega)).symm⟩ dX10_owedIn_6
set_option maxHeartbeats 4000000 in
set_option maxRecDepth 100000 in
theorem c_X10_owedBy (l : Launch) (D : va_G) (cy : Nat → ClassId) (q : Nat → Nat) (n_0 : Nat → Int) (f_0 : Nat → Int → Int) (v_x v_k v_byBook : Int) (S1_ : Int → List Int) (S2_ : Int → List Int) (S3_ : Int → List Int) (r_v_x : inR v_x) (r_v_k : inR v_k) (r_v_byBook : inR v_byBook) (hp0 : 0 ≤ v_x ∧ v_x < (n_0 12)) (hp1 : v_k < 200) (hp2 : 0 ≤ (n_0 29) ∧ (n_0 29) ≤ 32) (hp3 : 0 ≤ (n_0 12) ∧ (n_0 12) ≤ 24) (hp4 : Said_ (f_0 18) (n_0 12) (n_0 29)) (hp5 : Book_ (f_0 67) (n_0 12) (n_0 29)) (hp6 : Cod_ (f_0 32) (f_0 33) (f_0 34) (f_0 35) (f_0 36) (n_0 29)) (hp7 : ∀ w_, 0 ≤ w_ → w_ < (n_0 29) → (cL_ (f_0 32) (f_0 33) (400 * w_ + 0) (400 * w_ + (f_0 34 w_)) = (S1_ w_) ∧ cL_ (f_0 32) (f_0 33) (400 * w_ + (f_0 34 w_)) (400 * w_ + (f_0 35 w_)) = (S2_ w_) ∧ cL_ (f_0 32) (f_0 33) (400 * w_ + (f_0 35 w_)) (400 * w_ + (f_0 36 w_)) = (S3_ w_) ∧ TyN_ (S1_ w_) ∧ TyB_ (S2_ w_) ∧ TyB_ (S3_ w_))) : MC l D cy q yX10_owedBy cX10_owedBy 5 (some .int) 3 [.int (J v_x), .int (J v_k), .int (J v_byBook)] n_0 f_0 (PI (fun (z_0 : Int) (n_2 : Nat → Int) (f_2 : Nat → Int → Int) => ∃ (y46_2 : Int → Int) (y47_2 : Int → Int) , n_2 = n_0 ∧ f_2 = upF (upF f_0 46 y46_2) 47 y47_2 ∧ ((∀ y_, 0 ≤ y_ → y_ ≤ v_x → ∃ w_, ((¬ v_byBook = 0 ∧ w_ = (f_0 67 y_)) ∨ (v_byBook = 0 ∧ Lw_ ((f_0 16 y_)) (fun t_ => (f_0 18 (200 * y_ + t_))) v_k w_)) ∧ -1 ≤ w_ ∧ (y46_2 y_) = ow1_ (f_0 45) (y46_2) y_ w_ (S1_ w_) (S2_ w_) (S3_ w_)) ∧ z_0 = (y46_2 v_x)))) := by
  refine MC.ofi rfl (Nat.le_of_ble_eq_true rfl) ?_
  intro p e s m below meth c ls ar QW A0 H0 H locs E hK hA hw hl hret
  have hl : lv_has ls 5 [(0, .ref (q 0)), (1, .int (J v_x)), (2, .int (J v_k)), (3, .int (J v_byBook))] := hl
  refine j_iconst E 1 rfl dX10_owedBy_0 ?_
  refine j_istore E 3 rfl [(4, .int (J 0)), (0, .ref (q 0)), (1, .int (J v_x)), (2, .int (J v_k)), (3, .int (J v_byBook))] dX10_owedBy_1 hl (by decide) rfl (fun ls hl => ?_)
  have L3_1 : ∀ (k3 : Nat) (gx : Int) (y46_c3 : Int → Int) (y47_c3 : Int → Int) (H : Heap) (locs : List Loc) (ls : Array Slot), inR gx → ((0 ≤ gx ∧ gx ≤ v_x + 1) ∧ ∀ y_, 0 ≤ y_ → y_ < gx → ∃ w_, ((¬ v_byBook = 0 ∧ w_ = (f_0 67 y_)) ∨ (v_byBook = 0 ∧ Lw_ ((f_0 16 y_)) (fun t_ => (f_0 18 (200 * y_ + t_))) v_k w_)) ∧ -1 ≤ w_ ∧ (y46_c3 y_) = ow1_ (f_0 45) (y46_c3) y_ w_ (S1_ w_) (S2_ w_) (S3_ w_)) → (v_x + 1 - gx) < (k3 : Int) → WM D cy q (n_0) (upF (upF f_0 46 y46_c3) 47 y47_c3) A0 H0 H locs → lv_has ls 5 [(0, .ref (q 0)), (1, .int (J v_x)), (2, .int (J v_k)), (3, .int (J v_byBook)), (4, .int (J gx))] → W p l e (rmd 3 0 0) s m ar below meth c H locs 0 0 QW (F0 m 3 ls []) := by
    intro k3
    induction k3 with
    | zero =>
      intro gx y46_c3 y47_c3 H locs ls r_gx iv3 ms3 hw hl
      exfalso; omega
    | succ k3 ih3 =>
      intro gx y46_c3 y47_c3 H locs ls r_gx iv3 ms3 hw hl
      refine j_iload E 5 rfl dX10_owedBy_3 (lv_at hl 4 rfl) ?_
      refine j_iload_n E 6 rfl dX10_owedBy_5 rfl (lv_at hl 1 rfl) ?_
      refine j_icmp_gt E 9 49 rfl r_gx r_v_x dX10_owedBy_6 (by decide) (fun cc3_ => ?_) (fun cc3_ => ?_)
      · refine j_aload_n E 50 rfl dX10_owedBy_49 rfl (lv_at hl 0 rfl) ?_
        refine m_ag_46 E hK hw 53 rfl dX10_owedBy_50 ?_
        refine j_iload_n E 54 rfl dX10_owedBy_53 rfl (lv_at hl 1 rfl) ?_
        refine m_ld_46 E hK hw (y46_c3 v_x) rfl (by omega) 55 rfl dX10_owedBy_54 (fun rr4_ => ?_)
        exact hret 55 (y46_c3 v_x) (n_0) (upF (upF f_0 46 y46_c3) 47 y47_c3) _ _ ls hw rr4_ ⟨y46_c3, y47_c3, rfl, rfl, ⟨fun y_ h1_ h2_ => iv3.2 y_ h1_ (by omega), rfl⟩⟩ dX10_owedBy_55
      · refine j_aload_n E 10 rfl dX10_owedBy_9 rfl (lv_at hl 0 rfl) ?_
        refine m_ag_46 E hK hw 13 rfl dX10_owedBy_10 ?_
        refine j_iload E 15 rfl dX10_owedBy_13 (lv_at hl 4 rfl) ?_
        refine j_aload_n E 16 rfl dX10_owedBy_15 rfl (lv_at hl 0 rfl) ?_
        refine j_iload_n E 17 rfl dX10_owedBy_16 rfl (lv_at hl 3 rfl) ?_
        refine j_if_eq E 20 30 rfl r_v_byBook dX10_owedBy_17 (by decide) (fun cc5_ => ?_) (fun cc5_ => ?_)
        · refine j_aload_n E 31 rfl dX10_owedBy_30 rfl (lv_at hl 0 rfl) ?_
          refine j_iload E 33 rfl dX10_owedBy_31 (lv_at hl 4 rfl) ?_
          refine j_iload_n E 34 rfl dX10_owedBy_33 rfl (lv_at hl 2 rfl) ?_
          refine m_callp (po := fun z_0 => Lw_ ((f_0 16 gx)) (fun t_ => (f_0 18 (200 * gx + t_))) v_k z_0) E (c_X10_lawOf l D cy q (n_0) (upF (upF f_0 46 y46_c3) 47 y47_c3) gx v_k  r_gx r_v_k (show 0 ≤ gx ∧ gx < 24 from by omega) (show v_k < 200 from by omega)) rfl mt_X10_lawOf ml_X10_209 hK hw hA ⟨Nat.le_of_ble_eq_true rfl, Nat.le_of_ble_eq_true rfl⟩ (As := [.int (J gx), .int (J v_k)]) (rest := [.ref (q 0), .int (J gx), .ref (q 46)]) rfl rfl hl.1 (Nat.le_of_ble_eq_true rfl) 37 rfl dX10_owedBy_34 (fun zz6_ H locs rr6_ hq6_ hw => ?_)
          have hh6_ : Lw_ ((f_0 16 gx)) (fun t_ => (f_0 18 (200 * gx + t_))) v_k zz6_ := hq6_
          clear hq6_
          have ws_ : (¬ v_byBook = 0 ∧ zz6_ = (f_0 67 gx)) ∨ (v_byBook = 0 ∧ Lw_ ((f_0 16 gx)) (fun t_ => (f_0 18 (200 * gx + t_))) v_k zz6_) := Or.inr ⟨by omega, hh6_⟩
          have hw_ : -1 ≤ zz6_ ∧ zz6_ < (n_0 29) := Lw_rg hh6_ (by omega) (fun t_ q1_ q2_ => hp4 (200 * gx + t_) (by omega) (by omega))
          refine j_iload E 39 rfl dX10_owedBy_37 (lv_at hl 4 rfl) ?_
          refine m_calli E (c_X10_owedIn l D cy q (n_0) (upF (upF f_0 46 y46_c3) 47 y47_c3) zz6_ gx (S1_ zz6_) (S2_ zz6_) (S3_ zz6_) rr6_ r_gx (show -1 ≤ zz6_ ∧ zz6_ < (n_0 29) from hw_) (show 0 ≤ (n_0 29) ∧ (n_0 29) ≤ 32 from by omega) (show Cod_ (f_0 32) (f_0 33) (f_0 34) (f_0 35) (f_0 36) (n_0 29) from hp6) (show ¬ zz6_ = -1 → (cL_ (f_0 32) (f_0 33) (400 * zz6_ + 0) (400 * zz6_ + (f_0 34 zz6_)) = (S1_ zz6_) ∧ cL_ (f_0 32) (f_0 33) (400 * zz6_ + (f_0 34 zz6_)) (400 * zz6_ + (f_0 35 zz6_)) = (S2_ zz6_) ∧ cL_ (f_0 32) (f_0 33) (400 * zz6_ + (f_0 35 zz6_)) (400 * zz6_ + (f_0 36 zz6_)) = (S3_ zz6_) ∧ TyN_ (S1_ zz6_) ∧ TyB_ (S2_ zz6_) ∧ TyB_ (S3_ zz6_)) from fun q_ => hp7 _ (by omega) (by omega))) rfl mt_X10_owedIn ml_X10_317 hK hw hA ⟨Nat.le_of_ble_eq_true rfl, Nat.le_of_ble_eq_true rfl⟩ (As := [.int (J zz6_), .int (J gx)]) (rest := [.int (J gx), .ref (q 46)]) rfl rfl hl.1 (Nat.le_of_ble_eq_true rfl) 42 rfl dX10_owedBy_39 (fun zz7_ n_7 f_7 H locs rr7_ hq7_ hw => ?_)
          obtain ⟨y47_7, en7_, ef7_, hq7_⟩ := hq7_
          rw [en7_, ef7_] at hw; clear en7_ ef7_
          have hw : WM D cy q (n_0) (upF (upF f_0 46 y46_c3) 47 y47_7) A0 H0 H locs := hw
          have hh7_ : zz7_ = ow1_ (f_0 45) (y46_c3) gx zz6_ (S1_ zz6_) (S2_ zz6_) (S3_ zz6_) := hq7_
          clear hq7_
          have ho_ := hh7_
          clear hh7_
          refine m_st_46 E hK hw (by omega) rr7_ 43 rfl dX10_owedBy_42 (fun H locs hw => ?_)
          have hw : WM D cy q (n_0) (upF (upF f_0 46 (upA (y46_c3) gx zz7_)) 47 y47_7) A0 H0 H locs := hw
          refine j_iinc E 46 rfl [(4, .int (J (gx + 1))), (0, .ref (q 0)), (1, .int (J v_x)), (2, .int (J v_k)), (3, .int (J v_byBook))] dX10_owedBy_43 hl (kk := 4) rfl (by decide) rfl (fun ls hl => ?_)
          refine j_goto E 3 dX10_owedBy_46 (by decide) ?_
          exact ih3 (gx + 1) (upA (y46_c3) gx zz7_) y47_7 H locs ls (rr (by omega)) (⟨by omega, ob_step iv3.2 (by omega) ⟨_, ws_, hw_.1, ho_⟩⟩) (by omega) hw (lv_sub hl [1, 2, 3, 4, 0] rfl)
        · refine j_aload_n E 21 rfl dX10_owedBy_20 rfl (lv_at hl 0 rfl) ?_
          refine m_ag_67 E hK hw 24 rfl dX10_owedBy_21 ?_
          refine j_iload E 26 rfl dX10_owedBy_24 (lv_at hl 4 rfl) ?_
          refine m_ld_67 E hK hw (f_0 67 gx) rfl (by omega) 27 rfl dX10_owedBy_26 (fun rr9_ => ?_)
          have hw_ := hp5 gx (by omega) (by omega)
          have ws_ : (¬ v_byBook = 0 ∧ (f_0 67 gx) = (f_0 67 gx)) ∨ (v_byBook = 0 ∧ Lw_ ((f_0 16 gx)) (fun t_ => (f_0 18 (200 * gx + t_))) v_k (f_0 67 gx)) := Or.inl ⟨by omega, rfl⟩
          refine j_goto E 37 dX10_owedBy_27 (by decide) ?_
          refine j_iload E 39 rfl dX10_owedBy_37 (lv_at hl 4 rfl) ?_
          refine m_calli E (c_X10_owedIn l D cy q (n_0) (upF (upF f_0 46 y46_c3) 47 y47_c3) (f_0 67 gx) gx (S1_ (f_0 67 gx)) (S2_ (f_0 67 gx)) (S3_ (f_0 67 gx)) rr9_ r_gx (show -1 ≤ (f_0 67 gx) ∧ (f_0 67 gx) < (n_0 29) from hw_) (show 0 ≤ (n_0 29) ∧ (n_0 29) ≤ 32 from by omega) (show Cod_ (f_0 32) (f_0 33) (f_0 34) (f_0 35) (f_0 36) (n_0 29) from hp6) (show ¬ (f_0 67 gx) = -1 → (cL_ (f_0 32) (f_0 33) (400 * (f_0 67 gx) + 0) (400 * (f_0 67 gx) + (f_0 34 ((f_0 67 gx)))) = (S1_ (f_0 67 gx)) ∧ cL_ (f_0 32) (f_0 33) (400 * (f_0 67 gx) + (f_0 34 ((f_0 67 gx)))) (400 * (f_0 67 gx) + (f_0 35 ((f_0 67 gx)))) = (S2_ (f_0 67 gx)) ∧ cL_ (f_0 32) (f_0 33) (400 * (f_0 67 gx) + (f_0 35 ((f_0 67 gx)))) (400 * (f_0 67 gx) + (f_0 36 ((f_0 67 gx)))) = (S3_ (f_0 67 gx)) ∧ TyN_ (S1_ (f_0 67 gx)) ∧ TyB_ (S2_ (f_0 67 gx)) ∧ TyB_ (S3_ (f_0 67 gx))) from fun q_ => hp7 _ (by omega) (by omega))) rfl mt_X10_owedIn ml_X10_317 hK hw hA ⟨Nat.le_of_ble_eq_true rfl, Nat.le_of_ble_eq_true rfl⟩ (As := [.int (J (f_0 67 gx)), .int (J gx)]) (rest := [.int (J gx), .ref (q 46)]) rfl rfl hl.1 (Nat.le_of_ble_eq_true rfl) 42 rfl dX10_owedBy_39 (fun zz10_ n_10 f_10 H locs rr10_ hq10_ hw => ?_)
          obtain ⟨y47_10, en10_, ef10_, hq10_⟩ := hq10_
          rw [en10_, ef10_] at hw; clear en10_ ef10_
          have hw : WM D cy q (n_0) (upF (upF f_0 46 y46_c3) 47 y47_10) A0 H0 H locs := hw
          have hh10_ : zz10_ = ow1_ (f_0 45) (y46_c3) gx (f_0 67 gx) (S1_ (f_0 67 gx)) (S2_ (f_0 67 gx)) (S3_ (f_0 67 gx)) := hq10_
          clear hq10_
          have ho_ := hh10_
          clear hh10_
          refine m_st_46 E hK hw (by omega) rr10_ 43 rfl dX10_owedBy_42 (fun H locs hw => ?_)
          have hw : WM D cy q (n_0) (upF (upF f_0 46 (upA (y46_c3) gx zz10_)) 47 y47_10) A0 H0 H locs := hw
          refine j_iinc E 46 rfl [(4, .int (J (gx + 1))), (0, .ref (q 0)), (1, .int (J v_x)), (2, .int (J v_k)), (3, .int (J v_byBook))] dX10_owedBy_43 hl (kk := 4) rfl (by decide) rfl (fun ls hl => ?_)
          refine j_goto E 3 dX10_owedBy_46 (by decide) ?_
          exact ih3 (gx + 1) (upA (y46_c3) gx zz10_) y47_10 H locs ls (rr (by omega)) (⟨by omega, ob_step iv3.2 (by omega) ⟨_, ws_, hw_.1, ho_⟩⟩) (by omega) hw (lv_sub hl [1, 2, 3, 4, 0] rfl)
  exact L3_1 _ 0 (f_0 46) (f_0 47) H locs ls (rr (by decide)) (⟨by omega, fun y_ h1_ h2_ => absurd h2_ (by omega)⟩) (mk_lt _) hw (lv_sub hl [1, 2, 3, 4, 0] rfl)
set_option maxHeartbeats 4000000 in
set_option maxRecDepth 100000 in
theorem c_X10_owed (l : Launch) (D : va_G) (cy : Nat → ClassId) (q : Nat → Nat) (n_0 : Nat → Int) (f_0 : Nat → Int → Int) (v_x v_k v_harm v_witnesses v_years v_kin v_age : Int) (S1_ : Int → List Int) (S2_ : Int → List Int) (S3_ : Int → List Int) (r_v_x : inR v_x) (r_v_k : inR v_k) (r_v_harm : inR v_harm) (r_v_witnesses : inR v_witnesses) (r_v_years : inR v_years) (r_v_kin : inR v_kin) (r_v_age : inR v_age) (hp0 : MI (n_0) (f_0)) (hp1 : ∀ w_, 0 ≤ w_ → w_ < (n_0 29) → (cL_ (f_0 32) (f_0 33) (400 * w_ + 0) (400 * w_ + (f_0 34 w_)) = (S1_ w_) ∧ cL_ (f_0 32) (f_0 33) (400 * w_ + (f_0 34 w_)) (400 * w_ + (f_0 35 w_)) = (S2_ w_) ∧ cL_ (f_0 32) (f_0 33) (400 * w_ + (f_0 35 w_)) (400 * w_ + (f_0 36 w_)) = (S3_ w_) ∧ TyN_ (S1_ w_) ∧ TyB_ (S2_ w_) ∧ TyB_ (S3_ w_))) : MC l D cy q yX10_owed cX10_owed 8 (some .int) 4 [.int (J v_x), .int (J v_k), .int (J v_harm), .int (J v_witnesses), .int (J v_years), .int (J v_kin), .int (J v_age)] n_0 f_0 (PI (fun (z_0 : Int) (n_2 : Nat → Int) (f_2 : Nat → Int → Int) => ∃ (x0_2 : Int) (y45_2 : Int → Int) (y46_2 : Int → Int) (y47_2 : Int → Int) , n_2 = upN n_0 0 x0_2 ∧ f_2 = upF (upF (upF f_0 45 y45_2) 46 y46_2) 47 y47_2 ∧ (MI (upN n_0 0 x0_2) (upF (upF (upF f_0 45 y45_2) 46 y46_2) 47 y47_2) ∧ ((z_0 = -1 ∧ ¬ ((0 ≤ v_x ∧ v_x < (n_0 12)) ∧ (0 ≤ v_k ∧ v_k < (n_0 1)) ∧ (0 ≤ v_harm ∧ v_harm ≤ 99 ∧ 0 ≤ v_witnesses ∧ v_witnesses ≤ 9 ∧ 0 ≤ v_years ∧ v_years ≤ 299 ∧ 0 ≤ v_kin ∧ v_kin ≤ 1 ∧ -99 ≤ v_age ∧ v_age ≤ 299))) ∨ (((0 ≤ v_x ∧ v_x < (n_0 12)) ∧ (0 ≤ v_k ∧ v_k < (n_0 1)) ∧ (0 ≤ v_harm ∧ v_harm ≤ 99 ∧ 0 ≤ v_witnesses ∧ v_witnesses ≤ 9 ∧ 0 ≤ v_years ∧ v_years ≤ 299 ∧ 0 ≤ v_kin ∧ v_kin ≤ 1 ∧ -99 ≤ v_age ∧ v_age ≤ 299)) ∧ ∃ g_ : Int → Int, z_0 = g_ v_x ∧ ∀ y_, 0 ≤ y_ → y_ ≤ v_x → ∃ w_, Lw_ ((f_0 16 y_)) (fun t_ => (f_0 18 (200 * y_ + t_))) v_k w_ ∧ -1 ≤ w_ ∧ g_ y_ = ow1_ (fcf_ v_harm v_witnesses v_years v_kin v_age) g_ y_ w_ (S1_ w_) (S2_ w_) (S3_ w_)))))) := by
  refine MC.ofi rfl (Nat.le_of_ble_eq_true rfl) ?_
  intro p e s m below meth c ls ar QW A0 H0 H locs E hK hA hw hl hret
  have hl : lv_has ls 8 [(0, .ref (q 0)), (1, .int (J v_x)), (2, .int (J v_k)), (3, .int (J v_harm)), (4, .int (J v_witnesses)), (5, .int (J v_years)), (6, .int (J v_kin)), (7, .int (J v_age))] := hl
  have hp0_ := hp0
  obtain ⟨i_now, i_persons, i_lines, i_wordings, i_taped, i_suits, i_spk, i_fam, i_str, i_said, i_book, i_wds, i_tok, i_cod, i_far, i_tap, i_qua, i_sil, i_stz, i_way⟩ := hp0_
  refine j_aload_n E 1 rfl dX10_owed_0 rfl (lv_at hl 0 rfl) ?_
  refine j_iconst E 2 rfl dX10_owed_1 ?_
  refine m_put_0 E hK hw (rr (by decide)) 5 rfl dX10_owed_2 (fun H locs hw => ?_)
  have hw : WM D cy q (upN n_0 0 0) (f_0) A0 H0 H locs := hw
  refine j_aload_n E 6 rfl dX10_owed_5 rfl (lv_at hl 0 rfl) ?_
  refine j_iload_n E 7 rfl dX10_owed_6 rfl (lv_at hl 1 rfl) ?_
  refine m_callp (po := fun z_0 => (z_0 = 1 ∧ 0 ≤ v_x ∧ v_x < (n_0 12)) ∨ (z_0 = 0 ∧ (v_x < 0 ∨ (n_0 12) ≤ v_x))) E (c_X10_isLine l D cy q (upN n_0 0 0) (f_0) v_x  r_v_x ) rfl mt_X10_isLine ml_X10_188 hK hw hA ⟨Nat.le_of_ble_eq_true rfl, Nat.le_of_ble_eq_true rfl⟩ (As := [.int (J v_x)]) (rest := []) rfl rfl hl.1 (Nat.le_of_ble_eq_true rfl) 10 rfl dX10_owed_7 (fun zz2_ H locs rr2_ hq2_ hw => ?_)
  have hh2_ : (zz2_ = 1 ∧ 0 ≤ v_x ∧ v_x < (n_0 12)) ∨ (zz2_ = 0 ∧ (v_x < 0 ∨ (n_0 12) ≤ v_x)) := hq2_
  clear hq2_
  rcases hh2_ with ⟨ee2_, hh2_⟩ | ⟨ee2_, hh2_⟩
  · subst ee2_
    refine j_if_eq E 13 44 rfl (rr (by decide)) dX10_owed_10 (by decide) (fun cc3_ => absurd cc3_ (by decide)) (fun _ => ?_)
    refine j_aload_n E 14 rfl dX10_owed_13 rfl (lv_at hl 0 rfl) ?_
    refine j_iload_n E 15 rfl dX10_owed_14 rfl (lv_at hl 2 rfl) ?_
    refine j_iconst E 16 rfl dX10_owed_15 ?_
    refine j_aload_n E 17 rfl dX10_owed_16 rfl (lv_at hl 0 rfl) ?_
    refine m_get_1 E hK hw (n_0 1) rfl 20 rfl dX10_owed_17 (fun rr4_ => ?_)
    refine j_iconst E 21 rfl dX10_owed_20 ?_
    refine j_isub E 22 rfl dX10_owed_21 ?_
    refine m_callp (po := fun z_0 => (z_0 = 1 ∧ (0 : Int) ≤ v_k ∧ v_k ≤ ((n_0 1) - 1)) ∨ (z_0 = 0 ∧ (v_k < (0 : Int) ∨ ((n_0 1) - 1) < v_k))) E (c_X10_isIn l D cy q (upN n_0 0 0) (f_0) v_k 0 ((n_0 1) - 1)  r_v_k (rr (by decide)) (rr (by omega)) ) rfl mt_X10_isIn ml_X10_169 hK hw hA ⟨Nat.le_of_ble_eq_true rfl, Nat.le_of_ble_eq_true rfl⟩ (As := [.int (J v_k), .int (J 0), .int (J ((n_0 1) - 1))]) (rest := []) rfl rfl hl.1 (Nat.le_of_ble_eq_true rfl) 25 rfl dX10_owed_22 (fun zz5_ H locs rr5_ hq5_ hw => ?_)
    have hh5_ : (zz5_ = 1 ∧ (0 : Int) ≤ v_k ∧ v_k ≤ ((n_0 1) - 1)) ∨ (zz5_ = 0 ∧ (v_k < (0 : Int) ∨ ((n_0 1) - 1) < v_k)) := hq5_
    clear hq5_
    rcases hh5_ with ⟨ee5_, hh5_⟩ | ⟨ee5_, hh5_⟩
    · subst ee5_
      refine j_if_eq E 28 44 rfl (rr (by decide)) dX10_owed_25 (by decide) (fun cc6_ => absurd cc6_ (by decide)) (fun _ => ?_)
      refine j_aload_n E 29 rfl dX10_owed_28 rfl (lv_at hl 0 rfl) ?_
      refine j_iload_n E 30 rfl dX10_owed_29 rfl (lv_at hl 3 rfl) ?_
      refine j_iload E 32 rfl dX10_owed_30 (lv_at hl 4 rfl) ?_
      refine j_iload E 34 rfl dX10_owed_32 (lv_at hl 5 rfl) ?_
      refine j_iload E 36 rfl dX10_owed_34 (lv_at hl 6 rfl) ?_
      refine j_iload E 38 rfl dX10_owed_36 (lv_at hl 7 rfl) ?_
      refine m_calli E (c_X10_takesFacts l D cy q (upN n_0 0 0) (f_0) v_harm v_witnesses v_years v_kin v_age  r_v_harm r_v_witnesses r_v_years r_v_kin r_v_age ) rfl mt_X10_takesFacts ml_X10_323 hK hw hA ⟨Nat.le_of_ble_eq_true rfl, Nat.le_of_ble_eq_true rfl⟩ (As := [.int (J v_harm), .int (J v_witnesses), .int (J v_years), .int (J v_kin), .int (J v_age)]) (rest := []) rfl rfl hl.1 (Nat.le_of_ble_eq_true rfl) 41 rfl dX10_owed_38 (fun zz7_ n_7 f_7 H locs rr7_ hq7_ hw => ?_)
      obtain ⟨y45_7, en7_, ef7_, hq7_⟩ := hq7_
      rw [en7_, ef7_] at hw; clear en7_ ef7_
      have hw : WM D cy q (upN n_0 0 0) (upF f_0 45 y45_7) A0 H0 H locs := hw
      have hh7_ : (zz7_ = 1 ∧ (0 ≤ v_harm ∧ v_harm ≤ 99 ∧ 0 ≤ v_witnesses ∧ v_witnesses ≤ 9 ∧ 0 ≤ v_years ∧ v_years ≤ 299 ∧ 0 ≤ v_kin ∧ v_kin ≤ 1 ∧ -99 ≤ v_age ∧ v_age ≤ 299) ∧ ∀ i, 0 ≤ i → i ≤ 4 → (y45_7 i) = fcf_ v_harm v_witnesses v_years v_kin v_age i) ∨ (zz7_ = 0 ∧ ¬ (0 ≤ v_harm ∧ v_harm ≤ 99 ∧ 0 ≤ v_witnesses ∧ v_witnesses ≤ 9 ∧ 0 ≤ v_years ∧ v_years ≤ 299 ∧ 0 ≤ v_kin ∧ v_kin ≤ 1 ∧ -99 ≤ v_age ∧ v_age ≤ 299) ∧ (y45_7) = (f_0 45)) := hq7_
      clear hq7_
      rcases hh7_ with ⟨ee7_, hh7_⟩ | ⟨ee7_, hh7_⟩
      · subst ee7_
        have fa_ := hh7_
        clear hh7_
        refine j_if_ne E 44 46 rfl (rr (by decide)) dX10_owed_41 (by decide) (fun _ => ?_) (fun cc8_ => absurd cc8_ (by decide))
        refine j_aload_n E 47 rfl dX10_owed_46 rfl (lv_at hl 0 rfl) ?_
        refine j_iload_n E 48 rfl dX10_owed_47 rfl (lv_at hl 1 rfl) ?_
        refine j_iload_n E 49 rfl dX10_owed_48 rfl (lv_at hl 2 rfl) ?_
        refine j_iconst E 50 rfl dX10_owed_49 ?_
        refine m_calli E (c_X10_owedBy l D cy q (upN n_0 0 0) (upF f_0 45 y45_7) v_x v_k 0 S1_ S2_ S3_ r_v_x r_v_k (rr (by decide)) (show 0 ≤ v_x ∧ v_x < (n_0 12) from by omega) (show v_k < 200 from by omega) (show 0 ≤ (n_0 29) ∧ (n_0 29) ≤ 32 from by omega) (show 0 ≤ (n_0 12) ∧ (n_0 12) ≤ 24 from by omega) (show Said_ (f_0 18) (n_0 12) (n_0 29) from i_said) (show Book_ (f_0 67) (n_0 12) (n_0 29) from i_book) (show Cod_ (f_0 32) (f_0 33) (f_0 34) (f_0 35) (f_0 36) (n_0 29) from i_cod) (show ∀ w_, 0 ≤ w_ → w_ < (n_0 29) → (cL_ (f_0 32) (f_0 33) (400 * w_ + 0) (400 * w_ + (f_0 34 w_)) = (S1_ w_) ∧ cL_ (f_0 32) (f_0 33) (400 * w_ + (f_0 34 w_)) (400 * w_ + (f_0 35 w_)) = (S2_ w_) ∧ cL_ (f_0 32) (f_0 33) (400 * w_ + (f_0 35 w_)) (400 * w_ + (f_0 36 w_)) = (S3_ w_) ∧ TyN_ (S1_ w_) ∧ TyB_ (S2_ w_) ∧ TyB_ (S3_ w_)) from hp1)) rfl mt_X10_owedBy ml_X10_327 hK hw hA ⟨Nat.le_of_ble_eq_true rfl, Nat.le_of_ble_eq_true rfl⟩ (As := [.int (J v_x), .int (J v_k), .int (J 0)]) (rest := []) rfl rfl hl.1 (Nat.le_of_ble_eq_true rfl) 53 rfl dX10_owed_50 (fun zz9_ n_9 f_9 H locs rr9_ hq9_ hw => ?_)
        obtain ⟨y46_9, y47_9, en9_, ef9_, hq9_⟩ := hq9_
        rw [en9_, ef9_] at hw; clear en9_ ef9_
        have hw : WM D cy q (upN n_0 0 0) (upF (upF (upF f_0 45 y45_7) 46 y46_9) 47 y47_9) A0 H0 H locs := hw
        have hh9_ : (∀ y_, 0 ≤ y_ → y_ ≤ v_x → ∃ w_, ((¬ (0 : Int) = 0 ∧ w_ = (f_0 67 y_)) ∨ ((0 : Int) = 0 ∧ Lw_ ((f_0 16 y_)) (fun t_ => (f_0 18 (200 * y_ + t_))) v_k w_)) ∧ -1 ≤ w_ ∧ (y46_9 y_) = ow1_ (y45_7) (y46_9) y_ w_ (S1_ w_) (S2_ w_) (S3_ w_)) ∧ zz9_ = (y46_9 v_x) := hq9_
        clear hq9_
        have ob_ := hh9_
        clear hh9_
        exact hret 53 zz9_ (upN n_0 0 0) (upF (upF (upF f_0 45 y45_7) 46 y46_9) 47 y47_9) _ _ ls hw rr9_ ⟨0, y45_7, y46_9, y47_9, rfl, rfl, ⟨⟨i_now, i_persons, i_lines, i_wordings, i_taped, i_suits, i_spk, i_fam, i_str, i_said, i_book, i_wds, i_tok, i_cod, i_far, i_tap, i_qua, i_sil, i_stz, i_way⟩, Or.inr ⟨by omega, ⟨_, ob_.2, fun y_ h1_ h2_ => by obtain ⟨w_, a_, b_, c_⟩ := ob_.1 y_ h1_ h2_; exact ⟨w_, (a_.elim (fun q_ => absurd rfl q_.1) (fun q_ => q_.2)), b_, by rw [ow1_cF fa_.2] at c_; exact c_⟩⟩⟩⟩⟩ dX10_owed_53
      · subst ee7_
        have fn_ := hh7_
        clear hh7_
        refine j_if_ne E 44 46 rfl (rr (by decide)) dX10_owed_41 (by decide) (fun cc10_ => absurd cc10_ (by decide)) (fun _ => ?_)
        refine j_iconst E 45 rfl dX10_owed_44 ?_
        exact hret 45 ((-1)) (upN n_0 0 0) (upF (upF (upF f_0 45 y45_7) 46 (f_0 46)) 47 (f_0 47)) _ _ ls hw (rr (by decide)) ⟨0, y45_7, (f_0 46), (f_0 47), rfl, rfl, ⟨⟨i_now, i_persons, i_lines, i_wordings, i_taped, i_suits, i_spk, i_fam, i_str, i_said, i_book, i_wds, i_tok, i_cod, i_far, i_tap, i_qua, i_sil, i_stz, i_way⟩, Or.inl ⟨rfl, by omega⟩⟩⟩ dX10_owed_45
    · subst ee5_
      refine j_if_eq E 28 44 rfl (rr (by decide)) dX10_owed_25 (by decide) (fun _ => ?_) (fun cc11_ => absurd cc11_ (by decide))
      refine j_iconst E 45 rfl dX10_owed_44 ?_
      exact hret 45 ((-1)) (upN n_0 0 0) (upF (upF (upF f_0 45 (f_0 45)) 46 (f_0 46)) 47 (f_0 47)) _ _ ls hw (rr (by decide)) ⟨0, (f_0 45), (f_0 46), (f_0 47), rfl, rfl, ⟨⟨i_now, i_persons, i_lines, i_wordings, i_taped, i_suits, i_spk, i_fam, i_str, i_said, i_book, i_wds, i_tok, i_cod, i_far, i_tap, i_qua, i_sil, i_stz, i_way⟩, Or.inl ⟨rfl, by omega⟩⟩⟩ dX10_owed_45
  · subst ee2_
    refine j_if_eq E 13 44 rfl (rr (by decide)) dX10_owed_10 (by decide) (fun _ => ?_) (fun cc12_ => absurd cc12_ (by decide))
    refine j_iconst E 45 rfl dX10_owed_44 ?_
    exact hret 45 ((-1)) (upN n_0 0 0) (upF (upF (upF f_0 45 (f_0 45)) 46 (f_0 46)) 47 (f_0 47)) _ _ ls hw (rr (by decide)) ⟨0, (f_0 45), (f_0 46), (f_0 47), rfl, rfl, ⟨⟨i_now, i_persons, i_lines, i_wordings, i_taped, i_suits, i_spk, i_fam, i_str, i_said, i_book, i_wds, i_tok, i_cod, i_far, i_tap, i_qua, i_sil, i_stz, i_way⟩, Or.inl ⟨rfl, by omega⟩⟩⟩ dX10_owed_45
set_option maxHeartbeats 4000000 in
set_option maxRecDepth 100000 in
theorem c_X10_byBook (l : Launch) (D : va_G) (cy : Nat → ClassId) (q : Nat → Nat) (n_0 : Nat → Int) (f_0 : Nat → Int → Int) (v_x v_harm v_witnesses v_years v_kin v_age : Int) (S1_ : Int → List Int) (S2_ : Int → List Int) (S3_ : Int → List Int) (r_v_x : inR v_x) (r_v_harm : inR v_harm) (r_v_witnesses : inR v_witnesses) (r_v_years : inR v_years) (r_v_kin : inR v_kin) (r_v_age : inR v_age) (hp0 : MI (n_0) (f_0)) (hp1 : ∀ w_, 0 ≤ w_ → w_ < (n_0 29) → (cL_ (f_0 32) (f_0 33) (400 * w_ + 0) (400 * w_ + (f_0 34 w_)) = (S1_ w_) ∧ cL_ (f_0 32) (f_0 33) (400 * w_ + (f_0 34 w_)) (400 * w_ + (f_0 35 w_)) = (S2_ w_) ∧ cL_ (f_0 32) (f_0 33) (400 * w_ + (f_0 35 w_)) (400 * w_ + (f_0 36 w_)) = (S3_ w_) ∧ TyN_ (S1_ w_) ∧ TyB_ (S2_ w_) ∧ TyB_ (S3_ w_))) : MC l D cy q yX10_byBook cX10_byBook 7 (some .int) 4 [.int (J v_x), .int (J v_harm), .int (J v_witnesses), .int (J v_years), .int (J v_kin), .int (J v_age)] n_0 f_0 (PI (fun (z_0 : Int) (n_2 : Nat → Int) (f_2 : Nat → Int → Int) => ∃ (x0_2 : Int) (y45_2 : Int → Int) (y46_2 : Int → Int) (y47_2 : Int → Int) , n_2 = upN n_0 0 x0_2 ∧ f_2 = upF (upF (upF f_0 45 y45_2) 46 y46_2) 47 y47_2 ∧ (MI (upN n_0 0 x0_2) (upF (upF (upF f_0 45 y45_2) 46 y46_2) 47 y47_2) ∧ ((z_0 = -1 ∧ ¬ ((0 ≤ v_x ∧ v_x < (n_0 12)) ∧ (0 ≤ v_harm ∧ v_harm ≤ 99 ∧ 0 ≤ v_witnesses ∧ v_witnesses ≤ 9 ∧ 0 ≤ v_years ∧ v_years ≤ 299 ∧ 0 ≤ v_kin ∧ v_kin ≤ 1 ∧ -99 ≤ v_age ∧ v_age ≤ 299))) ∨ (((0 ≤ v_x ∧ v_x < (n_0 12)) ∧ (0 ≤ v_harm ∧ v_harm ≤ 99 ∧ 0 ≤ v_witnesses ∧ v_witnesses ≤ 9 ∧ 0 ≤ v_years ∧ v_years ≤ 299 ∧ 0 ≤ v_kin ∧ v_kin ≤ 1 ∧ -99 ≤ v_age ∧ v_age ≤ 299)) ∧ ∃ g_ : Int → Int, z_0 = g_ v_x ∧ ∀ y_, 0 ≤ y_ → y_ ≤ v_x → ∃ w_, w_ = (f_0 67 y_) ∧ -1 ≤ w_ ∧ g_ y_ = ow1_ (fcf_ v_harm v_witnesses v_years v_kin v_age) g_ y_ w_ (S1_ w_) (S2_ w_) (S3_ w_)))))) := by
  refine MC.ofi rfl (Nat.le_of_ble_eq_true rfl) ?_
  intro p e s m below meth c ls ar QW A0 H0 H locs E hK hA hw hl hret
  have hl : lv_has ls 7 [(0, .ref (q 0)), (1, .int (J v_x)), (2, .int (J v_harm)), (3, .int (J v_witnesses)), (4, .int (J v_years)), (5, .int (J v_kin)), (6, .int (J v_age))] := hl
  have hp0_ := hp0
  obtain ⟨i_now, i_persons, i_lines, i_wordings, i_taped, i_suits, i_spk, i_fam, i_str, i_said, i_book, i_wds, i_tok, i_cod, i_far, i_tap, i_qua, i_sil, i_stz, i_way⟩ := hp0_
  refine j_aload_n E 1 rfl dX10_byBook_0 rfl (lv_at hl 0 rfl) ?_
  refine j_iconst E 2 rfl dX10_byBook_1 ?_
  refine m_put_0 E hK hw (rr (by decide)) 5 rfl dX10_byBook_2 (fun H locs hw => ?_)
  have hw : WM D cy q (upN n_0 0 0) (f_0) A0 H0 H locs := hw
  refine j_aload_n E 6 rfl dX10_byBook_5 rfl (lv_at hl 0 rfl) ?_
  refine j_iload_n E 7 rfl dX10_byBook_6 rfl (lv_at hl 1 rfl) ?_
  refine m_callp (po := fun z_0 => (z_0 = 1 ∧ 0 ≤ v_x ∧ v_x < (n_0 12)) ∨ (z_0 = 0 ∧ (v_x < 0 ∨ (n_0 12) ≤ v_x))) E (c_X10_isLine l D cy q (upN n_0 0 0) (f_0) v_x  r_v_x ) rfl mt_X10_isLine ml_X10_188 hK hw hA ⟨Nat.le_of_ble_eq_true rfl, Nat.le_of_ble_eq_true rfl⟩ (As := [.int (J v_x)]) (rest := []) rfl rfl hl.1 (Nat.le_of_ble_eq_true rfl) 10 rfl dX10_byBook_7 (fun zz2_ H locs rr2_ hq2_ hw => ?_)
  have hh2_ : (zz2_ = 1 ∧ 0 ≤ v_x ∧ v_x < (n_0 12)) ∨ (zz2_ = 0 ∧ (v_x < 0 ∨ (n_0 12) ≤ v_x)) := hq2_
  clear hq2_
  rcases hh2_ with ⟨ee2_, hh2_⟩ | ⟨ee2_, hh2_⟩
  · subst ee2_
    refine j_if_eq E 13 28 rfl (rr (by decide)) dX10_byBook_10 (by decide) (fun cc3_ => absurd cc3_ (by decide)) (fun _ => ?_)
    refine j_aload_n E 14 rfl dX10_byBook_13 rfl (lv_at hl 0 rfl) ?_
    refine j_iload_n E 15 rfl dX10_byBook_14 rfl (lv_at hl 2 rfl) ?_
    refine j_iload_n E 16 rfl dX10_byBook_15 rfl (lv_at hl 3 rfl) ?_
    refine j_iload E 18 rfl dX10_byBook_16 (lv_at hl 4 rfl) ?_
    refine j_iload E 20 rfl dX10_byBook_18 (lv_at hl 5 rfl) ?_
    refine j_iload E 22 rfl dX10_byBook_20 (lv_at hl 6 rfl) ?_
    refine m_calli E (c_X10_takesFacts l D cy q (upN n_0 0 0) (f_0) v_harm v_witnesses v_years v_kin v_age  r_v_harm r_v_witnesses r_v_years r_v_kin r_v_age ) rfl mt_X10_takesFacts ml_X10_323 hK hw hA ⟨Nat.le_of_ble_eq_true rfl, Nat.le_of_ble_eq_true rfl⟩ (As := [.int (J v_harm), .int (J v_witnesses), .int (J v_years), .int (J v_kin), .int (J v_age)]) (rest := []) rfl rfl hl.1 (Nat.le_of_ble_eq_true rfl) 25 rfl dX10_byBook_22 (fun zz4_ n_4 f_4 H locs rr4_ hq4_ hw => ?_)
    obtain ⟨y45_4, en4_, ef4_, hq4_⟩ := hq4_
    rw [en4_, ef4_] at hw; clear en4_ ef4_
    have hw : WM D cy q (upN n_0 0 0) (upF f_0 45 y45_4) A0 H0 H locs := hw
    have hh4_ : (zz4_ = 1 ∧ (0 ≤ v_harm ∧ v_harm ≤ 99 ∧ 0 ≤ v_witnesses ∧ v_witnesses ≤ 9 ∧ 0 ≤ v_years ∧ v_years ≤ 299 ∧ 0 ≤ v_kin ∧ v_kin ≤ 1 ∧ -99 ≤ v_age ∧ v_age ≤ 299) ∧ ∀ i, 0 ≤ i → i ≤ 4 → (y45_4 i) = fcf_ v_harm v_witnesses v_years v_kin v_age i) ∨ (zz4_ = 0 ∧ ¬ (0 ≤ v_harm ∧ v_harm ≤ 99 ∧ 0 ≤ v_witnesses ∧ v_witnesses ≤ 9 ∧ 0 ≤ v_years ∧ v_years ≤ 299 ∧ 0 ≤ v_kin ∧ v_kin ≤ 1 ∧ -99 ≤ v_age ∧ v_age ≤ 299) ∧ (y45_4) = (f_0 45)) := hq4_
    clear hq4_
    rcases hh4_ with ⟨ee4_, hh4_⟩ | ⟨ee4_, hh4_⟩
    · subst ee4_
      have fa_ := hh4_
      clear hh4_
      refine j_if_ne E 28 30 rfl (rr (by decide)) dX10_byBook_25 (by decide) (fun _ => ?_) (fun cc5_ => absurd cc5_ (by decide))
      refine j_aload_n E 31 rfl dX10_byBook_30 rfl (lv_at hl 0 rfl) ?_
      refine j_iload_n E 32 rfl dX10_byBook_31 rfl (lv_at hl 1 rfl) ?_
      refine j_iconst E 33 rfl dX10_byBook_32 ?_
      refine j_iconst E 34 rfl dX10_byBook_33 ?_
      refine m_calli E (c_X10_owedBy l D cy q (upN n_0 0 0) (upF f_0 45 y45_4) v_x 0 1 S1_ S2_ S3_ r_v_x (rr (by decide)) (rr (by decide)) (show 0 ≤ v_x ∧ v_x < (n_0 12) from by omega) (show (0 : Int) < 200 from by omega) (show 0 ≤ (n_0 29) ∧ (n_0 29) ≤ 32 from by omega) (show 0 ≤ (n_0 12) ∧ (n_0 12) ≤ 24 from by omega) (show Said_ (f_0 18) (n_0 12) (n_0 29) from i_said) (show Book_ (f_0 67) (n_0 12) (n_0 29) from i_book) (show Cod_ (f_0 32) (f_0 33) (f_0 34) (f_0 35) (f_0 36) (n_0 29) from i_cod) (show ∀ w_, 0 ≤ w_ → w_ < (n_0 29) → (cL_ (f_0 32) (f_0 33) (400 * w_ + 0) (400 * w_ + (f_0 34 w_)) = (S1_ w_) ∧ cL_ (f_0 32) (f_0 33) (400 * w_ + (f_0 34 w_)) (400 * w_ + (f_0 35 w_)) = (S2_ w_) ∧ cL_ (f_0 32) (f_0 33) (400 * w_ + (f_0 35 w_)) (400 * w_ + (f_0 36 w_)) = (S3_ w_) ∧ TyN_ (S1_ w_) ∧ TyB_ (S2_ w_) ∧ TyB_ (S3_ w_)) from hp1)) rfl mt_X10_owedBy ml_X10_327 hK hw hA ⟨Nat.le_of_ble_eq_true rfl, Nat.le_of_ble_eq_true rfl⟩ (As := [.int (J v_x), .int (J 0), .int (J 1)]) (rest := []) rfl rfl hl.1 (Nat.le_of_ble_eq_true rfl) 37 rfl dX10_byBook_34 (fun zz6_ n_6 f_6 H locs rr6_ hq6_ hw => ?_)
      obtain ⟨y46_6, y47_6, en6_, ef6_, hq6_⟩ := hq6_
      rw [en6_, ef6_] at hw; clear en6_ ef6_
      have hw : WM D cy q (upN n_0 0 0) (upF (upF (upF f_0 45 y45_4) 46 y46_6) 47 y47_6) A0 H0 H locs := hw
      have hh6_ : (∀ y_, 0 ≤ y_ → y_ ≤ v_x → ∃ w_, ((¬ (1 : Int) = 0 ∧ w_ = (f_0 67 y_)) ∨ ((1 : Int) = 0 ∧ Lw_ ((f_0 16 y_)) (fun t_ => (f_0 18 (200 * y_ + t_))) (0 : Int) w_)) ∧ -1 ≤ w_ ∧ (y46_6 y_) = ow1_ (y45_4) (y46_6) y_ w_ (S1_ w_) (S2_ w_) (S3_ w_)) ∧ zz6_ = (y46_6 v_x) := hq6_
      clear hq6_
      have ob_ := hh6_
      clear hh6_
      exact hret 37 zz6_ (upN n_0 0 0) (upF (upF (upF f_0 45 y45_4) 46 y46_6) 47 y47_6) _ _ ls hw rr6_ ⟨0, y45_4, y46_6, y47_6, rfl, rfl, ⟨⟨i_now, i_persons, i_lines, i_wordings, i_taped, i_suits, i_spk, i_fam, i_str, i_said, i_book, i_wds, i_tok, i_cod, i_far, i_tap, i_qua, i_sil, i_stz, i_way⟩, Or.inr ⟨by omega, ⟨_, ob_.2, fun y_ h1_ h2_ => by obtain ⟨w_, a_, b_, c_⟩ := ob_.1 y_ h1_ h2_; exact ⟨w_, (a_.elim (fun q_ => q_.2) (fun q_ => absurd q_.1 (by decide))), b_, by rw [ow1_cF fa_.2] at c_; exact c_⟩⟩⟩⟩⟩ dX10_byBook_37
    · subst ee4_
      have fn_ := hh4_
      clear hh4_
      refine j_if_ne E 28 30 rfl (rr (by decide)) dX10_byBook_25 (by decide) (fun cc7_ => absurd cc7_ (by decide)) (fun _ => ?_)
      refine j_iconst E 29 rfl dX10_byBook_28 ?_
      exact hret 29 ((-1)) (upN n_0 0 0) (upF (upF (upF f_0 45 y45_4) 46 (f_0 46)) 47 (f_0 47)) _ _ ls hw (rr (by decide)) ⟨0, y45_4, (f_0 46), (f_0 47), rfl, rfl, ⟨⟨i_now, i_persons, i_lines, i_wordings, i_taped, i_suits, i_spk, i_fam, i_str, i_said, i_book, i_wds, i_tok, i_cod, i_far, i_tap, i_qua, i_sil, i_stz, i_way⟩, Or.inl ⟨rfl, by omega⟩⟩⟩ dX10_byBook_29
  · subst ee2_
    refine j_if_eq E 13 28 rfl (rr (by decide)) dX10_byBook_10 (by decide) (fun _ => ?_) (fun cc8_ => absurd cc8_ (by decide))
    refine j_iconst E 29 rfl dX10_byBook_28 ?_
    exact hret 29 ((-1)) (upN n_0 0 0) (upF (upF (upF f_0 45 (f_0 45)) 46 (f_0 46)) 47 (f_0 47)) _ _ ls hw (rr (by decide)) ⟨0, (f_0 45), (f_0 46), (f_0 47), rfl, rfl, ⟨⟨i_now, i_persons, i_lines, i_wordings, i_taped, i_suits, i_spk, i_fam, i_str, i_said, i_book, i_wds, i_tok, i_cod, i_far, i_tap, i_qua, i_sil, i_stz, i_way⟩, Or.inl ⟨rfl, by omega⟩⟩⟩ dX10_byBook_29
set_option maxHeartbeats 4000000 in
set_option maxRecDepth 100000 in
theorem c_X10_suit (l : Launch) (D : va_G) (cy : Nat → ClassId) (q : Nat → Nat) (n_0 : Nat → Int) (f_0 : Nat → Int → Int) (v_p v_r v_x v_harm v_witnesses v_deed : Int) (S1_ : Int → List Int) (S2_ : Int → List Int) (S3_ : Int → List Int) (r_v_p : inR v_p) (r_v_r : inR v_r) (r_v_x : inR v_x) (r_v_harm : inR v_harm) (r_v_witnesses : inR v_witnesses) (r_v_deed : inR v_deed) (hp0 : MI (n_0) (f_0)) (hp1 : ∀ w_, 0 ≤ w_ → w_ < (n_0 29) → (cL_ (f_0 32) (f_0 33) (400 * w_ + 0) (400 * w_ + (f_0 34 w_)) = (S1_ w_) ∧ cL_ (f_0 32) (f_0 33) (400 * w_ + (f_0 34 w_)) (400 * w_ + (f_0 35 w_)) = (S2_ w_) ∧ cL_ (f_0 32) (f_0 33) (400 * w_ + (f_0 35 w_)) (400 * w_ + (f_0 36 w_)) = (S3_ w_) ∧ TyN_ (S1_ w_) ∧ TyB_ (S2_ w_) ∧ TyB_ (S3_ w_))) : MC l D cy q yX10_suit cX10_suit 11 (some .int) 4 [.int (J v_p), .int (J v_r), .int (J v_x), .int (J v_harm), .int (J v_witnesses), .int (J v_deed)] n_0 f_0 (PI (fun (z_0 : Int) (n_2 : Nat → Int) (f_2 : Nat → Int → Int) => ∃ (x0_2 : Int) (x48_2 : Int) (y45_2 : Int → Int) (y46_2 : Int → Int) (y47_2 : Int → Int) (y49_2 : Int → Int) (y50_2 : Int → Int) (y51_2 : Int → Int) (y52_2 : Int → Int) (y53_2 : Int → Int) (y54_2 : Int → Int) (y55_2 : Int → Int) , n_2 = upN (upN n_0 0 x0_2) 48 x48_2 ∧ f_2 = upF (upF (upF (upF (upF (upF (upF (upF (upF (upF f_0 45 y45_2) 46 y46_2) 47 y47_2) 49 y49_2) 50 y50_2) 51 y51_2) 52 y52_2) 53 y53_2) 54 y54_2) 55 y55_2 ∧ (MI (upN (upN n_0 0 x0_2) 48 x48_2) (upF (upF (upF (upF (upF (upF (upF (upF (upF (upF f_0 45 y45_2) 46 y46_2) 47 y47_2) 49 y49_2) 50 y50_2) 51 y51_2) 52 y52_2) 53 y53_2) 54 y54_2) 55 y55_2) ∧ ((z_0 = -1 ∧ ¬ ((0 ≤ v_p ∧ v_p < (n_0 2) ∧ (f_0 6 v_p) = -1) ∧ (0 ≤ v_r ∧ v_r < (n_0 2) ∧ (f_0 6 v_r) = -1) ∧ ¬ v_p = v_r ∧ (0 ≤ v_x ∧ v_x < (n_0 12)) ∧ (n_0 48) < 100 ∧ (0 ≤ v_deed ∧ v_deed ≤ (n_0 1)) ∧ (f_0 5 v_p) ≤ v_deed ∧ (f_0 5 v_r) ≤ v_deed ∧ (0 ≤ v_harm ∧ v_harm ≤ 99) ∧ (0 ≤ v_witnesses ∧ v_witnesses ≤ 9) ∧ -99 ≤ (w32_ (v_deed - (f_0 5 v_r))) ∧ (w32_ (v_deed - (f_0 5 v_r))) ≤ 299) ∧ (x48_2) = (n_0 48) ∧ (y49_2) = (f_0 49) ∧ (y50_2) = (f_0 50) ∧ (y51_2) = (f_0 51) ∧ (y52_2) = (f_0 52) ∧ (y53_2) = (f_0 53) ∧ (y54_2) = (f_0 54) ∧ (y55_2) = (f_0 55)) ∨ (z_0 = (n_0 48) ∧ ((0 ≤ v_p ∧ v_p < (n_0 2) ∧ (f_0 6 v_p) = -1) ∧ (0 ≤ v_r ∧ v_r < (n_0 2) ∧ (f_0 6 v_r) = -1) ∧ ¬ v_p = v_r ∧ (0 ≤ v_x ∧ v_x < (n_0 12)) ∧ (n_0 48) < 100 ∧ (0 ≤ v_deed ∧ v_deed ≤ (n_0 1)) ∧ (f_0 5 v_p) ≤ v_deed ∧ (f_0 5 v_r) ≤ v_deed ∧ (0 ≤ v_harm ∧ v_harm ≤ 99) ∧ (0 ≤ v_witnesses ∧ v_witnesses ≤ 9) ∧ -99 ≤ (w32_ (v_deed - (f_0 5 v_r))) ∧ (w32_ (v_deed - (f_0 5 v_r))) ≤ 299) ∧ (x48_2) = (n_0 48) + 1 ∧ (y49_2) = upA (f_0 49) (n_0 48) v_p ∧ (y50_2) = upA (f_0 50) (n_0 48) v_r ∧ (y51_2) = upA (f_0 51) (n_0 48) v_x ∧ (y53_2) = upA (f_0 53) (n_0 48) (n_0 1) ∧ (y54_2) = upA (f_0 54) (n_0 48) 0 ∧ ∃ m_ : Int, (y52_2) = upA (f_0 52) (n_0 48) m_ ∧ (∃ kn_ : Int, ∃ g_ : Int → Int, ((kn_ = 1 ∧ (f_0 4 v_p) = (f_0 4 v_r)) ∨ (kn_ = 0 ∧ ¬ (f_0 4 v_p) = (f_0 4 v_r))) ∧ m_ = g_ v_x ∧ ∀ y_, 0 ≤ y_ → y_ ≤ v_x → ∃ w_, Lw_ ((f_0 16 y_)) (fun t_ => (f_0 18 (200 * y_ + t_))) ((n_0 1) - 1) w_ ∧ -1 ≤ w_ ∧ g_ y_ = ow1_ (fcf_ v_harm v_witnesses ((n_0 1) - v_deed) kn_ (w32_ (v_deed - (f_0 5 v_r)))) g_ y_ w_ (S1_ w_) (S2_ w_) (S3_ w_)) ∧ (∀ j_, j_ < 24 * (n_0 48) → (y55_2 j_) = (f_0 55 j_)) ∧ ∀ r_, 0 ≤ r_ → r_ < 24 → Ptq_ m_ (nq_ (fun r_ => ¬ r_ = v_p ∧ (0 ≤ r_ ∧ r_ < (n_0 2) ∧ (f_0 6 r_) = -1) ∧ (f_0 4 v_p) = (f_0 4 r_)) ((n_0 2)).toNat) v_p (fun r_ => ¬ r_ = v_p ∧ (0 ≤ r_ ∧ r_ < (n_0 2) ∧ (f_0 6 r_) = -1) ∧ (f_0 4 v_p) = (f_0 4 r_)) r_ ((y55_2 (24 * (n_0 48) + r_)))))))) := by
  refine MC.ofi rfl (Nat.le_of_ble_eq_true rfl) ?_
  intro p e s m below meth c ls ar QW A0 H0 H locs E hK hA hw hl hret
  have hl : lv_has ls 11 [(0, .ref (q 0)), (1, .int (J v_p)), (2, .int (J v_r)), (3, .int (J v_x)), (4, .int (J v_harm)), (5, .int (J v_witnesses)), (6, .int (J v_deed))] := hl
  have hp0_ := hp0
  obtain ⟨i_now, i_persons, i_lines, i_wordings, i_taped, i_suits, i_spk, i_fam, i_str, i_said, i_book, i_wds, i_tok, i_cod, i_far, i_tap, i_qua, i_sil, i_stz, i_way⟩ := hp0_
  refine j_aload_n E 1 rfl dX10_suit_0 rfl (lv_at hl 0 rfl) ?_
  refine j_iconst E 2 rfl dX10_suit_1 ?_
  refine m_put_0 E hK hw (rr (by decide)) 5 rfl dX10_suit_2 (fun H locs hw => ?_)
  have hw : WM D cy q (upN n_0 0 0) (f_0) A0 H0 H locs := hw
  refine j_aload_n E 6 rfl dX10_suit_5 rfl (lv_at hl 0 rfl) ?_
  refine j_iload_n E 7 rfl dX10_suit_6 rfl (lv_at hl 1 rfl) ?_
  refine m_callp (po := fun z_0 => (z_0 = 1 ∧ 0 ≤ v_p ∧ v_p < (n_0 2) ∧ (f_0 6 v_p) = -1) ∨ (z_0 = 0 ∧ ¬ (0 ≤ v_p ∧ v_p < (n_0 2) ∧ (f_0 6 v_p) = -1))) E (c_X10_isLiving l D cy q (upN n_0 0 0) (f_0) v_p  r_v_p (show (n_0 2) ≤ 24 from by omega)) rfl mt_X10_isLiving ml_X10_176 hK hw hA ⟨Nat.le_of_ble_eq_true rfl, Nat.le_of_ble_eq_true rfl⟩ (As := [.int (J v_p)]) (rest := []) rfl rfl hl.1 (Nat.le_of_ble_eq_true rfl) 10 rfl dX10_suit_7 (fun zz2_ H locs rr2_ hq2_ hw => ?_)
  have hh2_ : (zz2_ = 1 ∧ 0 ≤ v_p ∧ v_p < (n_0 2) ∧ (f_0 6 v_p) = -1) ∨ (zz2_ = 0 ∧ ¬ (0 ≤ v_p ∧ v_p < (n_0 2) ∧ (f_0 6 v_p) = -1)) := hq2_
  clear hq2_
  rcases hh2_ with ⟨ee2_, hh2_⟩ | ⟨ee2_, hh2_⟩
  · subst ee2_
    have lp_ := hh2_
    clear hh2_
    refine j_if_eq E 13 79 rfl (rr (by decide)) dX10_suit_10 (by decide) (fun cc3_ => absurd cc3_ (by decide)) (fun _ => ?_)
    refine j_aload_n E 14 rfl dX10_suit_13 rfl (lv_at hl 0 rfl) ?_
    refine j_iload_n E 15 rfl dX10_suit_14 rfl (lv_at hl 2 rfl) ?_
    refine m_callp (po := fun z_0 => (z_0 = 1 ∧ 0 ≤ v_r ∧ v_r < (n_0 2) ∧ (f_0 6 v_r) = -1) ∨ (z_0 = 0 ∧ ¬ (0 ≤ v_r ∧ v_r < (n_0 2) ∧ (f_0 6 v_r) = -1))) E (c_X10_isLiving l D cy q (upN n_0 0 0) (f_0) v_r  r_v_r (show (n_0 2) ≤ 24 from by omega)) rfl mt_X10_isLiving ml_X10_176 hK hw hA ⟨Nat.le_of_ble_eq_true rfl, Nat.le_of_ble_eq_true rfl⟩ (As := [.int (J v_r)]) (rest := []) rfl rfl hl.1 (Nat.le_of_ble_eq_true rfl) 18 rfl dX10_suit_15 (fun zz4_ H locs rr4_ hq4_ hw => ?_)
    have hh4_ : (zz4_ = 1 ∧ 0 ≤ v_r ∧ v_r < (n_0 2) ∧ (f_0 6 v_r) = -1) ∨ (zz4_ = 0 ∧ ¬ (0 ≤ v_r ∧ v_r < (n_0 2) ∧ (f_0 6 v_r) = -1)) := hq4_
    clear hq4_
    rcases hh4_ with ⟨ee4_, hh4_⟩ | ⟨ee4_, hh4_⟩
    · subst ee4_
      have lr_ := hh4_
      clear hh4_
      refine j_if_eq E 21 79 rfl (rr (by decide)) dX10_suit_18 (by decide) (fun cc5_ => absurd cc5_ (by decide)) (fun _ => ?_)
      refine j_iload_n E 22 rfl dX10_suit_21 rfl (lv_at hl 1 rfl) ?_
      refine j_iload_n E 23 rfl dX10_suit_22 rfl (lv_at hl 2 rfl) ?_
      refine j_icmp_eq E 26 79 rfl r_v_p r_v_r dX10_suit_23 (by decide) (fun cc6_ => ?_) (fun cc6_ => ?_)
      · refine j_iconst E 80 rfl dX10_suit_79 ?_
        exact hret 80 ((-1)) (upN (upN n_0 0 0) 48 (n_0 48)) (upF (upF (upF (upF (upF (upF (upF (upF (upF (upF f_0 45 (f_0 45)) 46 (f_0 46)) 47 (f_0 47)) 49 (f_0 49)) 50 (f_0 50)) 51 (f_0 51)) 52 (f_0 52)) 53 (f_0 53)) 54 (f_0 54)) 55 (f_0 55)) _ _ ls hw (rr (by decide)) ⟨0, (n_0 48), (f_0 45), (f_0 46), (f_0 47), (f_0 49), (f_0 50), (f_0 51), (f_0 52), (f_0 53), (f_0 54), (f_0 55), rfl, rfl, ⟨⟨i_now, i_persons, i_lines, i_wordings, i_taped, i_suits, i_spk, i_fam, i_str, i_said, i_book, i_wds, i_tok, i_cod, i_far, i_tap, i_qua, i_sil, i_stz, i_way⟩, Or.inl ⟨rfl, (fun q_ => by first | exact np_ q_.1 | exact nr_ q_.2.1 | (have a_ := q_.2.2; omega)), rfl, rfl, rfl, rfl, rfl, rfl, rfl, rfl⟩⟩⟩ dX10_suit_80
      · refine j_aload_n E 27 rfl dX10_suit_26 rfl (lv_at hl 0 rfl) ?_
        refine j_iload_n E 28 rfl dX10_suit_27 rfl (lv_at hl 3 rfl) ?_
        refine m_callp (po := fun z_0 => (z_0 = 1 ∧ 0 ≤ v_x ∧ v_x < (n_0 12)) ∨ (z_0 = 0 ∧ (v_x < 0 ∨ (n_0 12) ≤ v_x))) E (c_X10_isLine l D cy q (upN n_0 0 0) (f_0) v_x  r_v_x ) rfl mt_X10_isLine ml_X10_188 hK hw hA ⟨Nat.le_of_ble_eq_true rfl, Nat.le_of_ble_eq_true rfl⟩ (As := [.int (J v_x)]) (rest := []) rfl rfl hl.1 (Nat.le_of_ble_eq_true rfl) 31 rfl dX10_suit_28 (fun zz7_ H locs rr7_ hq7_ hw => ?_)
        have hh7_ : (zz7_ = 1 ∧ 0 ≤ v_x ∧ v_x < (n_0 12)) ∨ (zz7_ = 0 ∧ (v_x < 0 ∨ (n_0 12) ≤ v_x)) := hq7_
        clear hq7_
        rcases hh7_ with ⟨ee7_, hh7_⟩ | ⟨ee7_, hh7_⟩
        · subst ee7_
          refine j_if_eq E 34 79 rfl (rr (by decide)) dX10_suit_31 (by decide) (fun cc8_ => absurd cc8_ (by decide)) (fun _ => ?_)
          refine j_aload_n E 35 rfl dX10_suit_34 rfl (lv_at hl 0 rfl) ?_
          refine j_iload E 37 rfl dX10_suit_35 (lv_at hl 6 rfl) ?_
          refine j_iconst E 38 rfl dX10_suit_37 ?_
          refine j_aload_n E 39 rfl dX10_suit_38 rfl (lv_at hl 0 rfl) ?_
          refine m_get_1 E hK hw (n_0 1) rfl 42 rfl dX10_suit_39 (fun rr9_ => ?_)
          refine m_callp (po := fun z_0 => (z_0 = 1 ∧ (0 : Int) ≤ v_deed ∧ v_deed ≤ (n_0 1)) ∨ (z_0 = 0 ∧ (v_deed < (0 : Int) ∨ (n_0 1) < v_deed))) E (c_X10_isIn l D cy q (upN n_0 0 0) (f_0) v_deed 0 (n_0 1)  r_v_deed (rr (by decide)) rr9_ ) rfl mt_X10_isIn ml_X10_169 hK hw hA ⟨Nat.le_of_ble_eq_true rfl, Nat.le_of_ble_eq_true rfl⟩ (As := [.int (J v_deed), .int (J 0), .int (J (n_0 1))]) (rest := []) rfl rfl hl.1 (Nat.le_of_ble_eq_true rfl) 45 rfl dX10_suit_42 (fun zz10_ H locs rr10_ hq10_ hw => ?_)
          have hh10_ : (zz10_ = 1 ∧ (0 : Int) ≤ v_deed ∧ v_deed ≤ (n_0 1)) ∨ (zz10_ = 0 ∧ (v_deed < (0 : Int) ∨ (n_0 1) < v_deed)) := hq10_
          clear hq10_
          rcases hh10_ with ⟨ee10_, hh10_⟩ | ⟨ee10_, hh10_⟩
          · subst ee10_
            refine j_if_eq E 48 79 rfl (rr (by decide)) dX10_suit_45 (by decide) (fun cc11_ => absurd cc11_ (by decide)) (fun _ => ?_)
            refine j_aload_n E 49 rfl dX10_suit_48 rfl (lv_at hl 0 rfl) ?_
            refine m_ag_5 E hK hw 52 rfl dX10_suit_49 ?_
            refine j_iload_n E 53 rfl dX10_suit_52 rfl (lv_at hl 1 rfl) ?_
            refine m_ld_5 E hK hw (f_0 5 v_p) rfl (by omega) 54 rfl dX10_suit_53 (fun rr12_ => ?_)
            refine j_iload E 56 rfl dX10_suit_54 (lv_at hl 6 rfl) ?_
            refine j_icmp_gt E 59 79 rfl rr12_ r_v_deed dX10_suit_56 (by decide) (fun cc13_ => ?_) (fun cc13_ => ?_)
            · refine j_iconst E 80 rfl dX10_suit_79 ?_
              exact hret 80 ((-1)) (upN (upN n_0 0 0) 48 (n_0 48)) (upF (upF (upF (upF (upF (upF (upF (upF (upF (upF f_0 45 (f_0 45)) 46 (f_0 46)) 47 (f_0 47)) 49 (f_0 49)) 50 (f_0 50)) 51 (f_0 51)) 52 (f_0 52)) 53 (f_0 53)) 54 (f_0 54)) 55 (f_0 55)) _ _ ls hw (rr (by decide)) ⟨0, (n_0 48), (f_0 45), (f_0 46), (f_0 47), (f_0 49), (f_0 50), (f_0 51), (f_0 52), (f_0 53), (f_0 54), (f_0 55), rfl, rfl, ⟨⟨i_now, i_persons, i_lines, i_wordings, i_taped, i_suits, i_spk, i_fam, i_str, i_said, i_book, i_wds, i_tok, i_cod, i_far, i_tap, i_qua, i_sil, i_stz, i_way⟩, Or.inl ⟨rfl, (fun q_ => by first | exact np_ q_.1 | exact nr_ q_.2.1 | (have a_ := q_.2.2; omega)), rfl, rfl, rfl, rfl, rfl, rfl, rfl, rfl⟩⟩⟩ dX10_suit_80
            · refine j_aload_n E 60 rfl dX10_suit_59 rfl (lv_at hl 0 rfl) ?_
              refine m_ag_5 E hK hw 63 rfl dX10_suit_60 ?_
              refine j_iload_n E 64 rfl dX10_suit_63 rfl (lv_at hl 2 rfl) ?_
              refine m_ld_5 E hK hw (f_0 5 v_r) rfl (by omega) 65 rfl dX10_suit_64 (fun rr14_ => ?_)
              refine j_iload E 67 rfl dX10_suit_65 (lv_at hl 6 rfl) ?_
              refine j_icmp_gt E 70 79 rfl rr14_ r_v_deed dX10_suit_67 (by decide) (fun cc15_ => ?_) (fun cc15_ => ?_)
              · refine j_iconst E 80 rfl dX10_suit_79 ?_
                exact hret 80 ((-1)) (upN (upN n_0 0 0) 48 (n_0 48)) (upF (upF (upF (upF (upF (upF (upF (upF (upF (upF f_0 45 (f_0 45)) 46 (f_0 46)) 47 (f_0 47)) 49 (f_0 49)) 50 (f_0 50)) 51 (f_0 51)) 52 (f_0 52)) 53 (f_0 53)) 54 (f_0 54)) 55 (f_0 55)) _ _ ls hw (rr (by decide)) ⟨0, (n_0 48), (f_0 45), (f_0 46), (f_0 47), (f_0 49), (f_0 50), (f_0 51), (f_0 52), (f_0 53), (f_0 54), (f_0 55), rfl, rfl, ⟨⟨i_now, i_persons, i_lines, i_wordings, i_taped, i_suits, i_spk, i_fam, i_str, i_said, i_book, i_wds, i_tok, i_cod, i_far, i_tap, i_qua, i_sil, i_stz, i_way⟩, Or.inl ⟨rfl, (fun q_ => by first | exact np_ q_.1 | exact nr_ q_.2.1 | (have a_ := q_.2.2; omega)), rfl, rfl, rfl, rfl, rfl, rfl, rfl, rfl⟩⟩⟩ dX10_suit_80
              · refine j_aload_n E 71 rfl dX10_suit_70 rfl (lv_at hl 0 rfl) ?_
                refine m_get_48 E hK hw (n_0 48) rfl 74 rfl dX10_suit_71 (fun rr16_ => ?_)
                refine j_bipush E 76 rfl dX10_suit_74 (by decide) ?_
                refine j_icmp_ne E 79 81 rfl rr16_ (rr (by decide)) dX10_suit_76 (by decide) (fun cc17_ => ?_) (fun cc17_ => ?_)
                · refine j_aload_n E 82 rfl dX10_suit_81 rfl (lv_at hl 0 rfl) ?_
                  refine j_iload E 84 rfl dX10_suit_82 (lv_at hl 4 rfl) ?_
                  refine j_iload E 86 rfl dX10_suit_84 (lv_at hl 5 rfl) ?_
                  refine j_aload_n E 87 rfl dX10_suit_86 rfl (lv_at hl 0 rfl) ?_
                  refine m_get_1 E hK hw (n_0 1) rfl 90 rfl dX10_suit_87 (fun _ => ?_)
                  refine j_iload E 92 rfl dX10_suit_90 (lv_at hl 6 rfl) ?_
                  refine j_isub E 93 rfl dX10_suit_92 ?_
                  refine j_aload_n E 94 rfl dX10_suit_93 rfl (lv_at hl 0 rfl) ?_
                  refine j_iload_n E 95 rfl dX10_suit_94 rfl (lv_at hl 1 rfl) ?_
                  refine j_iload_n E 96 rfl dX10_suit_95 rfl (lv_at hl 2 rfl) ?_
                  refine m_callp (po := fun z_0 => (z_0 = 1 ∧ (f_0 4 v_p) = (f_0 4 v_r)) ∨ (z_0 = 0 ∧ ¬ (f_0 4 v_p) = (f_0 4 v_r))) E (c_X10_isKin l D cy q (upN n_0 0 0) (f_0) v_p v_r  r_v_p r_v_r (show 0 ≤ v_p ∧ v_p < 24 from by omega) (show 0 ≤ v_r ∧ v_r < 24 from by omega)) rfl mt_X10_isKin ml_X10_334 hK hw hA ⟨Nat.le_of_ble_eq_true rfl, Nat.le_of_ble_eq_true rfl⟩ (As := [.int (J v_p), .int (J v_r)]) (rest := [.int (J ((n_0 1) - v_deed)), .int (J v_witnesses), .int (J v_harm), .ref (q 0)]) rfl rfl hl.1 (Nat.le_of_ble_eq_true rfl) 99 rfl dX10_suit_96 (fun zz18_ H locs rr18_ hq18_ hw => ?_)
                  have hh18_ : (zz18_ = 1 ∧ (f_0 4 v_p) = (f_0 4 v_r)) ∨ (zz18_ = 0 ∧ ¬ (f_0 4 v_p) = (f_0 4 v_r)) := hq18_
                  clear hq18_
                  rcases hh18_ with ⟨ee18_, hh18_⟩ | ⟨ee18_, hh18_⟩
                  · subst ee18_
                    have kp_ := hh18_
                    clear hh18_
                    refine j_if_eq E 102 106 rfl (rr (by decide)) dX10_suit_99 (by decide) (fun cc19_ => absurd cc19_ (by decide)) (fun _ => ?_)
                    refine j_iconst E 103 rfl dX10_suit_102 ?_
                    refine j_goto E 107 dX10_suit_103 (by decide) ?_
                    refine j_iload E 109 rfl dX10_suit_107 (lv_at hl 6 rfl) ?_
                    refine j_aload_n E 110 rfl dX10_suit_109 rfl (lv_at hl 0 rfl) ?_
                    refine m_ag_5 E hK hw 113 rfl dX10_suit_110 ?_
                    refine j_iload_n E 114 rfl dX10_suit_113 rfl (lv_at hl 2 rfl) ?_
                    refine m_ld_5 E hK hw (f_0 5 v_r) rfl (by omega) 115 rfl dX10_suit_114 (fun _ => ?_)
                    refine j_isub E 116 rfl dX10_suit_115 ?_
                    refine j_norm (fun zz20_ rr20_ ee20_ => ?_)
                    have ag_ : zz20_ = w32_ (v_deed - (f_0 5 v_r)) := w32_of rr20_ ee20_
                    refine m_calli E (c_X10_takesFacts l D cy q (upN n_0 0 0) (f_0) v_harm v_witnesses ((n_0 1) - v_deed) 1 zz20_  r_v_harm r_v_witnesses (rr (by omega)) (rr (by decide)) rr20_ ) rfl mt_X10_takesFacts ml_X10_323 hK hw hA ⟨Nat.le_of_ble_eq_true rfl, Nat.le_of_ble_eq_true rfl⟩ (As := [.int (J v_harm), .int (J v_witnesses), .int (J ((n_0 1) - v_deed)), .int (J 1), .int (J zz20_)]) (rest := []) rfl rfl hl.1 (Nat.le_of_ble_eq_true rfl) 119 rfl dX10_suit_116 (fun zz21_ n_21 f_21 H locs rr21_ hq21_ hw => ?_)
                    obtain ⟨y45_21, en21_, ef21_, hq21_⟩ := hq21_
                    rw [en21_, ef21_] at hw; clear en21_ ef21_
                    have hw : WM D cy q (upN n_0 0 0) (upF f_0 45 y45_21) A0 H0 H locs := hw
                    have hh21_ : (zz21_ = 1 ∧ (0 ≤ v_harm ∧ v_harm ≤ 99 ∧ 0 ≤ v_witnesses ∧ v_witnesses ≤ 9 ∧ 0 ≤ ((n_0 1) - v_deed) ∧ ((n_0 1) - v_deed) ≤ 299 ∧ 0 ≤ (1 : Int) ∧ (1 : Int) ≤ 1 ∧ -99 ≤ zz20_ ∧ zz20_ ≤ 299) ∧ ∀ i, 0 ≤ i → i ≤ 4 → (y45_21 i) = fcf_ v_harm v_witnesses ((n_0 1) - v_deed) (1 : Int) zz20_ i) ∨ (zz21_ = 0 ∧ ¬ (0 ≤ v_harm ∧ v_harm ≤ 99 ∧ 0 ≤ v_witnesses ∧ v_witnesses ≤ 9 ∧ 0 ≤ ((n_0 1) - v_deed) ∧ ((n_0 1) - v_deed) ≤ 299 ∧ 0 ≤ (1 : Int) ∧ (1 : Int) ≤ 1 ∧ -99 ≤ zz20_ ∧ zz20_ ≤ 299) ∧ (y45_21) = (f_0 45)) := hq21_
                    clear hq21_
                    rcases hh21_ with ⟨ee21_, hh21_⟩ | ⟨ee21_, hh21_⟩
                    · subst ee21_
                      have fa_ := hh21_
                      clear hh21_
                      refine j_if_ne E 122 124 rfl (rr (by decide)) dX10_suit_119 (by decide) (fun _ => ?_) (fun cc22_ => absurd cc22_ (by decide))
                      refine j_aload_n E 125 rfl dX10_suit_124 rfl (lv_at hl 0 rfl) ?_
                      refine j_iload_n E 126 rfl dX10_suit_125 rfl (lv_at hl 3 rfl) ?_
                      refine j_aload_n E 127 rfl dX10_suit_126 rfl (lv_at hl 0 rfl) ?_
                      refine m_get_1 E hK hw (n_0 1) rfl 130 rfl dX10_suit_127 (fun _ => ?_)
                      refine j_iconst E 131 rfl dX10_suit_130 ?_
                      refine j_isub E 132 rfl dX10_suit_131 ?_
                      refine j_iconst E 133 rfl dX10_suit_132 ?_
                      refine m_calli E (c_X10_owedBy l D cy q (upN n_0 0 0) (upF f_0 45 y45_21) v_x ((n_0 1) - 1) 0 S1_ S2_ S3_ r_v_x (rr (by omega)) (rr (by decide)) (show 0 ≤ v_x ∧ v_x < (n_0 12) from by omega) (show ((n_0 1) - 1) < 200 from by omega) (show 0 ≤ (n_0 29) ∧ (n_0 29) ≤ 32 from by omega) (show 0 ≤ (n_0 12) ∧ (n_0 12) ≤ 24 from by omega) (show Said_ (f_0 18) (n_0 12) (n_0 29) from i_said) (show Book_ (f_0 67) (n_0 12) (n_0 29) from i_book) (show Cod_ (f_0 32) (f_0 33) (f_0 34) (f_0 35) (f_0 36) (n_0 29) from i_cod) (show ∀ w_, 0 ≤ w_ → w_ < (n_0 29) → (cL_ (f_0 32) (f_0 33) (400 * w_ + 0) (400 * w_ + (f_0 34 w_)) = (S1_ w_) ∧ cL_ (f_0 32) (f_0 33) (400 * w_ + (f_0 34 w_)) (400 * w_ + (f_0 35 w_)) = (S2_ w_) ∧ cL_ (f_0 32) (f_0 33) (400 * w_ + (f_0 35 w_)) (400 * w_ + (f_0 36 w_)) = (S3_ w_) ∧ TyN_ (S1_ w_) ∧ TyB_ (S2_ w_) ∧ TyB_ (S3_ w_)) from hp1)) rfl mt_X10_owedBy ml_X10_327 hK hw hA ⟨Nat.le_of_ble_eq_true rfl, Nat.le_of_ble_eq_true rfl⟩ (As := [.int (J v_x), .int (J ((n_0 1) - 1)), .int (J 0)]) (rest := []) rfl rfl hl.1 (Nat.le_of_ble_eq_true rfl) 136 rfl dX10_suit_133 (fun zz23_ n_23 f_23 H locs rr23_ hq23_ hw => ?_)
                      obtain ⟨y46_23, y47_23, en23_, ef23_, hq23_⟩ := hq23_
                      rw [en23_, ef23_] at hw; clear en23_ ef23_
                      have hw : WM D cy q (upN n_0 0 0) (upF (upF (upF f_0 45 y45_21) 46 y46_23) 47 y47_23) A0 H0 H locs := hw
                      have hh23_ : (∀ y_, 0 ≤ y_ → y_ ≤ v_x → ∃ w_, ((¬ (0 : Int) = 0 ∧ w_ = (f_0 67 y_)) ∨ ((0 : Int) = 0 ∧ Lw_ ((f_0 16 y_)) (fun t_ => (f_0 18 (200 * y_ + t_))) ((n_0 1) - 1) w_)) ∧ -1 ≤ w_ ∧ (y46_23 y_) = ow1_ (y45_21) (y46_23) y_ w_ (S1_ w_) (S2_ w_) (S3_ w_)) ∧ zz23_ = (y46_23 v_x) := hq23_
                      clear hq23_
                      have ob_ := hh23_
                      clear hh23_
                      refine j_istore E 138 rfl [(7, .int (J zz23_)), (0, .ref (q 0)), (1, .int (J v_p)), (2, .int (J v_r)), (3, .int (J v_x)), (4, .int (J v_harm)), (5, .int (J v_witnesses)), (6, .int (J v_deed))] dX10_suit_136 hl (by decide) rfl (fun ls hl => ?_)
                      refine j_aload_n E 139 rfl dX10_suit_138 rfl (lv_at hl 1 rfl) ?_
                      refine m_ag_49 E hK hw 142 rfl dX10_suit_139 ?_
                      refine j_aload_n E 143 rfl dX10_suit_142 rfl (lv_at hl 1 rfl) ?_
                      refine m_get_48 E hK hw (n_0 48) rfl 146 rfl dX10_suit_143 (fun _ => ?_)
                      refine j_iload_n E 147 rfl dX10_suit_146 rfl (lv_at hl 2 rfl) ?_
                      refine m_st_49 E hK hw (by omega) r_v_p 148 rfl dX10_suit_147 (fun H locs hw => ?_)
                      have hw : WM D cy q (upN n_0 0 0) (upF (upF (upF (upF f_0 45 y45_21) 46 y46_23) 47 y47_23) 49 (upA (f_0 49) (n_0 48) v_p)) A0 H0 H locs := hw
                      refine j_aload_n E 149 rfl dX10_suit_148 rfl (lv_at hl 1 rfl) ?_
                      refine m_ag_50 E hK hw 152 rfl dX10_suit_149 ?_
                      refine j_aload_n E 153 rfl dX10_suit_152 rfl (lv_at hl 1 rfl) ?_
                      refine m_get_48 E hK hw (n_0 48) rfl 156 rfl dX10_suit_153 (fun _ => ?_)
                      refine j_iload_n E 157 rfl dX10_suit_156 rfl (lv_at hl 3 rfl) ?_
                      refine m_st_50 E hK hw (by omega) r_v_r 158 rfl dX10_suit_157 (fun H locs hw => ?_)
                      have hw : WM D cy q (upN n_0 0 0) (upF (upF (upF (upF (upF f_0 45 y45_21) 46 y46_23) 47 y47_23) 49 (upA (f_0 49) (n_0 48) v_p)) 50 (upA (f_0 50) (n_0 48) v_r)) A0 H0 H locs := hw
                      refine j_aload_n E 159 rfl dX10_suit_158 rfl (lv_at hl 1 rfl) ?_
                      refine m_ag_51 E hK hw 162 rfl dX10_suit_159 ?_
                      refine j_aload_n E 163 rfl dX10_suit_162 rfl (lv_at hl 1 rfl) ?_
                      refine m_get_48 E hK hw (n_0 48) rfl 166 rfl dX10_suit_163 (fun _ => ?_)
                      refine j_iload_n E 167 rfl dX10_suit_166 rfl (lv_at hl 4 rfl) ?_
                      refine m_st_51 E hK hw (by omega) r_v_x 168 rfl dX10_suit_167 (fun H locs hw => ?_)
                      have hw : WM D cy q (upN n_0 0 0) (upF (upF (upF (upF (upF (upF f_0 45 y45_21) 46 y46_23) 47 y47_23) 49 (upA (f_0 49) (n_0 48) v_p)) 50 (upA (f_0 50) (n_0 48) v_r)) 51 (upA (f_0 51) (n_0 48) v_x)) A0 H0 H locs := hw
                      refine j_aload_n E 169 rfl dX10_suit_168 rfl (lv_at hl 1 rfl) ?_
                      refine m_ag_52 E hK hw 172 rfl dX10_suit_169 ?_
                      refine j_aload_n E 173 rfl dX10_suit_172 rfl (lv_at hl 1 rfl) ?_
                      refine m_get_48 E hK hw (n_0 48) rfl 176 rfl dX10_suit_173 (fun _ => ?_)
                      refine j_iload E 178 rfl dX10_suit_176 (lv_at hl 0 rfl) ?_
                      refine m_st_52 E hK hw (by omega) rr23_ 179 rfl dX10_suit_178 (fun H locs hw => ?_)
                      have hw : WM D cy q (upN n_0 0 0) (upF (upF (upF (upF (upF (upF (upF f_0 45 y45_21) 46 y46_23) 47 y47_23) 49 (upA (f_0 49) (n_0 48) v_p)) 50 (upA (f_0 50) (n_0 48) v_r)) 51 (upA (f_0 51) (n_0 48) v_x)) 52 (upA (f_0 52) (n_0 48) zz23_)) A0 H0 H locs := hw
                      refine j_aload_n E 180 rfl dX10_suit_179 rfl (lv_at hl 1 rfl) ?_
                      refine m_ag_53 E hK hw 183 rfl dX10_suit_180 ?_
                      refine j_aload_n E 184 rfl dX10_suit_183 rfl (lv_at hl 1 rfl) ?_
                      refine m_get_48 E hK hw (n_0 48) rfl 187 rfl dX10_suit_184 (fun _ => ?_)
                      refine j_aload_n E 188 rfl dX10_suit_187 rfl (lv_at hl 1 rfl) ?_
                      refine m_get_1 E hK hw (n_0 1) rfl 191 rfl dX10_suit_188 (fun _ => ?_)
                      refine m_st_53 E hK hw (by omega) rr9_ 192 rfl dX10_suit_191 (fun H locs hw => ?_)
                      have hw : WM D cy q (upN n_0 0 0) (upF (upF (upF (upF (upF (upF (upF (upF f_0 45 y45_21) 46 y46_23) 47 y47_23) 49 (upA (f_0 49) (n_0 48) v_p)) 50 (upA (f_0 50) (n_0 48) v_r)) 51 (upA (f_0 51) (n_0 48) v_x)) 52 (upA (f_0 52) (n_0 48) zz23_)) 53 (upA (f_0 53) (n_0 48) (n_0 1))) A0 H0 H locs := hw
                      refine j_aload_n E 193 rfl dX10_suit_192 rfl (lv_at hl 1 rfl) ?_
                      refine m_ag_54 E hK hw 196 rfl dX10_suit_193 ?_
                      refine j_aload_n E 197 rfl dX10_suit_196 rfl (lv_at hl 1 rfl) ?_
                      refine m_get_48 E hK hw (n_0 48) rfl 200 rfl dX10_suit_197 (fun _ => ?_)
                      refine j_iconst E 201 rfl dX10_suit_200 ?_
                      refine m_st_54 E hK hw (by omega) (rr (by decide)) (Or.inl rfl) 202 rfl dX10_suit_201 (fun H locs hw => ?_)
                      have hw : WM D cy q (upN n_0 0 0) (upF (upF (upF (upF (upF (upF (upF (upF (upF f_0 45 y45_21) 46 y46_23) 47 y47_23) 49 (upA (f_0 49) (n_0 48) v_p)) 50 (upA (f_0 50) (n_0 48) v_r)) 51 (upA (f_0 51) (n_0 48) v_x)) 52 (upA (f_0 52) (n_0 48) zz23_)) 53 (upA (f_0 53) (n_0 48) (n_0 1))) 54 (upA (f_0 54) (n_0 48) 0)) A0 H0 H locs := hw
                      refine j_iconst E 203 rfl dX10_suit_202 ?_
                      refine j_istore E 205 rfl [(8, .int (J 0)), (7, .int (J zz23_)), (0, .ref (q 0)), (1, .int (J v_p)), (2, .int (J v_r)), (3, .int (J v_x)), (4, .int (J v_harm)), (5, .int (J v_witnesses)), (6, .int (J v_deed))] dX10_suit_203 hl (by decide) rfl (fun ls hl => ?_)
                      refine j_iconst E 206 rfl dX10_suit_205 ?_
                      refine j_istore E 208 rfl [(9, .int (J 0)), (8, .int (J 0)), (7, .int (J zz23_)), (0, .ref (q 0)), (1, .int (J v_p)), (2, .int (J v_r)), (3, .int (J v_x)), (4, .int (J v_harm)), (5, .int (J v_witnesses)), (6, .int (J v_deed))] dX10_suit_206 hl (by decide) rfl (fun ls hl => ?_)
                      have L208_30 : ∀ (k208 : Nat) (gc gr : Int) (H : Heap) (locs : List Loc) (ls : Array Slot), inR gc → inR gr → ((0 ≤ gr ∧ gr ≤ 24 ∧ 0 ≤ gc ∧ gc ≤ gr ∧ (gr ≤ (n_0 2) ∨ gr = 0)) ∧ gc = nq_ (fun r_ => ¬ r_ = v_p ∧ (0 ≤ r_ ∧ r_ < (n_0 2) ∧ (f_0 6 r_) = -1) ∧ (f_0 4 v_p) = (f_0 4 r_)) (gr).toNat) → (24 - gr) < (k208 : Int) → WM D cy q (upN n_0 0 0) (upF (upF (upF (upF (upF (upF (upF (upF (upF f_0 45 y45_21) 46 y46_23) 47 y47_23) 49 (upA (f_0 49) (n_0 48) v_p)) 50 (upA (f_0 50) (n_0 48) v_r)) 51 (upA (f_0 51) (n_0 48) v_x)) 52 (upA (f_0 52) (n_0 48) zz23_)) 53 (upA (f_0 53) (n_0 48) (n_0 1))) 54 (upA (f_0 54) (n_0 48) 0)) A0 H0 H locs → lv_has ls 11 [(0, .ref (q 0)), (1, .int (J v_p)), (2, .int (J v_r)), (3, .int (J v_x)), (4, .int (J v_harm)), (5, .int (J v_witnesses)), (6, .int (J v_deed)), (7, .int (J zz23_)), (8, .int (J gc)), (9, .int (J gr))] → W p l e (rmd 4 0 0) s m ar below meth c H locs 0 0 QW (F0 m 208 ls []) := by
                        intro k208
                        induction k208 with
                        | zero =>
                          intro gc gr H locs ls r_gc r_gr iv208 ms208 hw hl
                          exfalso; omega
                        | succ k208 ih208 =>
                          intro gc gr H locs ls r_gc r_gr iv208 ms208 hw hl
                          refine j_iload E 210 rfl dX10_suit_208 (lv_at hl 9 rfl) ?_
                          refine j_aload_n E 211 rfl dX10_suit_210 rfl (lv_at hl 0 rfl) ?_
                          refine m_get_2 E hK hw (n_0 2) rfl 214 rfl dX10_suit_211 (fun rr32_ => ?_)
                          refine j_icmp_ge E 217 254 rfl r_gr rr32_ dX10_suit_214 (by decide) (fun cc33_ => ?_) (fun cc33_ => ?_)
                          · have co_ : gc = nq_ (fun r_ => ¬ r_ = v_p ∧ (0 ≤ r_ ∧ r_ < (n_0 2) ∧ (f_0 6 r_) = -1) ∧ (f_0 4 v_p) = (f_0 4 r_)) ((n_0 2)).toNat := by rw [show ((n_0 2)).toNat = (gr).toNat by omega]; exact iv208.2
                            refine j_iload E 256 rfl dX10_suit_254 (lv_at hl 8 rfl) ?_
                            refine j_if_ne E 259 263 rfl r_gc dX10_suit_256 (by decide) (fun cc34_ => ?_) (fun cc34_ => ?_)
                            · refine j_iload E 265 rfl dX10_suit_263 (lv_at hl 7 rfl) ?_
                              refine j_iconst E 266 rfl dX10_suit_265 ?_
                              refine j_idiv E 267 rfl dX10_suit_266 (by decide +kernel) (fun zz35_ rr35_ ee35_ => ?_)
                              have e1_ := ee35_
                              have r1_ := rr35_
                              refine j_iload E 269 rfl dX10_suit_267 (lv_at hl 8 rfl) ?_
                              refine j_idiv E 270 rfl dX10_suit_269 (fun h => absurd ((J_inj r_gc inR0).mp (h.trans J_0.symm)) (by omega)) (fun zz36_ rr36_ ee36_ => ?_)
                              have e2_ := ee36_
                              have r2_ := rr36_
                              refine j_istore E 272 rfl [(9, .int (J zz36_)), (0, .ref (q 0)), (1, .int (J v_p)), (2, .int (J v_r)), (3, .int (J v_x)), (4, .int (J v_harm)), (5, .int (J v_witnesses)), (6, .int (J v_deed)), (7, .int (J zz23_)), (8, .int (J gc))] dX10_suit_270 hl (by decide) rfl (fun ls hl => ?_)
                              refine j_iconst E 273 rfl dX10_suit_272 ?_
                              refine j_istore E 275 rfl [(10, .int (J 0)), (9, .int (J zz36_)), (0, .ref (q 0)), (1, .int (J v_p)), (2, .int (J v_r)), (3, .int (J v_x)), (4, .int (J v_harm)), (5, .int (J v_witnesses)), (6, .int (J v_deed)), (7, .int (J zz23_)), (8, .int (J gc))] dX10_suit_273 hl (by decide) rfl (fun ls hl => ?_)
                              have L275_37 : ∀ (k275 : Nat) (gq ge : Int) (y55_c275 : Int → Int) (H : Heap) (locs : List Loc) (ls : Array Slot), inR gq → inR ge → ((0 ≤ gq ∧ gq ≤ 24) ∧ ge = ea_ zz23_ gc ∧ (∀ j_, j_ < 24 * (n_0 48) → (y55_c275 j_) = (f_0 55 j_)) ∧ ∀ r_, 0 ≤ r_ → r_ < gq → Pv_ ge (fun r_ => ¬ r_ = v_p ∧ (0 ≤ r_ ∧ r_ < (n_0 2) ∧ (f_0 6 r_) = -1) ∧ (f_0 4 v_p) = (f_0 4 r_)) r_ ((y55_c275 (24 * (n_0 48) + r_)))) → (24 - gq) < (k275 : Int) → WM D cy q (upN n_0 0 0) (upF (upF (upF (upF (upF (upF (upF (upF (upF (upF f_0 45 y45_21) 46 y46_23) 47 y47_23) 49 (upA (f_0 49) (n_0 48) v_p)) 50 (upA (f_0 50) (n_0 48) v_r)) 51 (upA (f_0 51) (n_0 48) v_x)) 52 (upA (f_0 52) (n_0 48) zz23_)) 53 (upA (f_0 53) (n_0 48) (n_0 1))) 54 (upA (f_0 54) (n_0 48) 0)) 55 y55_c275) A0 H0 H locs → lv_has ls 11 [(0, .ref (q 0)), (1, .int (J v_p)), (2, .int (J v_r)), (3, .int (J v_x)), (4, .int (J v_harm)), (5, .int (J v_witnesses)), (6, .int (J v_deed)), (7, .int (J zz23_)), (8, .int (J gc)), (9, .int (J ge)), (10, .int (J gq))] → W p l e (rmd 4 0 0) s m ar below meth c H locs 0 0 QW (F0 m 275 ls []) := by
                                intro k275
                                induction k275 with
                                | zero =>
                                  intro gq ge y55_c275 H locs ls r_gq r_ge iv275 ms275 hw hl
                                  exfalso; omega
                                | succ k275 ih275 =>
                                  intro gq ge y55_c275 H locs ls r_gq r_ge iv275 ms275 hw hl
                                  refine j_iload E 277 rfl dX10_suit_275 (lv_at hl 10 rfl) ?_
                                  refine j_bipush E 279 rfl dX10_suit_277 (by decide) ?_
                                  refine j_icmp_ge E 282 334 rfl r_gq (rr (by decide)) dX10_suit_279 (by decide) (fun cc39_ => ?_) (fun cc39_ => ?_)
                                  · refine j_aload_n E 335 rfl dX10_suit_334 rfl (lv_at hl 0 rfl) ?_
                                    refine m_ag_55 E hK hw 338 rfl dX10_suit_335 ?_
                                    refine j_bipush E 340 rfl dX10_suit_338 (by decide) ?_
                                    refine j_aload_n E 341 rfl dX10_suit_340 rfl (lv_at hl 0 rfl) ?_
                                    refine m_get_48 E hK hw (n_0 48) rfl 344 rfl dX10_suit_341 (fun _ => ?_)
                                    refine j_imul E 345 rfl dX10_suit_344 ?_
                                    refine j_iload_n E 346 rfl dX10_suit_345 rfl (lv_at hl 1 rfl) ?_
                                    refine j_iadd E 347 rfl dX10_suit_346 ?_
                                    refine j_iload E 349 rfl dX10_suit_347 (lv_at hl 7 rfl) ?_
                                    refine j_iload E 351 rfl dX10_suit_349 (lv_at hl 9 rfl) ?_
                                    refine j_iload E 353 rfl dX10_suit_351 (lv_at hl 8 rfl) ?_
                                    refine j_imul E 354 rfl dX10_suit_353 ?_
                                    refine j_isub E 355 rfl dX10_suit_354 ?_
                                    refine j_norm (fun zz40_ rr40_ ee40_ => ?_)
                                    have pv_ : zz40_ = w32_ (zz23_ - ge * gc) := w32_of rr40_ ee40_
                                    refine m_st_55 E hK hw (by omega) rr40_ 356 rfl dX10_suit_355 (fun H locs hw => ?_)
                                    have hw : WM D cy q (upN n_0 0 0) (upF (upF (upF (upF (upF (upF (upF (upF (upF (upF f_0 45 y45_21) 46 y46_23) 47 y47_23) 49 (upA (f_0 49) (n_0 48) v_p)) 50 (upA (f_0 50) (n_0 48) v_r)) 51 (upA (f_0 51) (n_0 48) v_x)) 52 (upA (f_0 52) (n_0 48) zz23_)) 53 (upA (f_0 53) (n_0 48) (n_0 1))) 54 (upA (f_0 54) (n_0 48) 0)) 55 (upA (y55_c275) ((24 * (n_0 48)) + v_p) zz40_)) A0 H0 H locs := hw
                                    refine j_aload_n E 357 rfl dX10_suit_356 rfl (lv_at hl 0 rfl) ?_
                                    refine j_aload_n E 358 rfl dX10_suit_357 rfl (lv_at hl 0 rfl) ?_
                                    refine m_get_48 E hK hw (n_0 48) rfl 361 rfl dX10_suit_358 (fun _ => ?_)
                                    refine j_iconst E 362 rfl dX10_suit_361 ?_
                                    refine j_iadd E 363 rfl dX10_suit_362 ?_
                                    refine m_put_48 E hK hw (rr (by omega)) 366 rfl dX10_suit_363 (fun H locs hw => ?_)
                                    have hw : WM D cy q (upN (upN n_0 0 0) 48 ((n_0 48) + 1)) (upF (upF (upF (upF (upF (upF (upF (upF (upF (upF f_0 45 y45_21) 46 y46_23) 47 y47_23) 49 (upA (f_0 49) (n_0 48) v_p)) 50 (upA (f_0 50) (n_0 48) v_r)) 51 (upA (f_0 51) (n_0 48) v_x)) 52 (upA (f_0 52) (n_0 48) zz23_)) 53 (upA (f_0 53) (n_0 48) (n_0 1))) 54 (upA (f_0 54) (n_0 48) 0)) 55 (upA (y55_c275) ((24 * (n_0 48)) + v_p) zz40_)) A0 H0 H locs := hw
                                    refine j_aload_n E 367 rfl dX10_suit_366 rfl (lv_at hl 0 rfl) ?_
                                    refine m_get_48 E hK hw ((n_0 48) + 1) rfl 370 rfl dX10_suit_367 (fun rr43_ => ?_)
                                    refine j_iconst E 371 rfl dX10_suit_370 ?_
                                    refine j_isub E 372 rfl dX10_suit_371 ?_
                                    exact hret 372 (((n_0 48) + 1) - 1) (upN (upN n_0 0 0) 48 ((n_0 48) + 1)) (upF (upF (upF (upF (upF (upF (upF (upF (upF (upF f_0 45 y45_21) 46 y46_23) 47 y47_23) 49 (upA (f_0 49) (n_0 48) v_p)) 50 (upA (f_0 50) (n_0 48) v_r)) 51 (upA (f_0 51) (n_0 48) v_x)) 52 (upA (f_0 52) (n_0 48) zz23_)) 53 (upA (f_0 53) (n_0 48) (n_0 1))) 54 (upA (f_0 54) (n_0 48) 0)) 55 (upA (y55_c275) ((24 * (n_0 48)) + v_p) zz40_)) _ _ ls hw (rr (by omega)) ⟨0, ((n_0 48) + 1), y45_21, y46_23, y47_23, (upA (f_0 49) (n_0 48) v_p), (upA (f_0 50) (n_0 48) v_r), (upA (f_0 51) (n_0 48) v_x), (upA (f_0 52) (n_0 48) zz23_), (upA (f_0 53) (n_0 48) (n_0 1)), (upA (f_0 54) (n_0 48) 0), (upA (y55_c275) ((24 * (n_0 48)) + v_p) zz40_), rfl, rfl, ⟨⟨i_now, i_persons, i_lines, i_wordings, i_taped, (show 0 ≤ ((n_0 48) + 1) ∧ ((n_0 48) + 1) ≤ 100 from by omega), i_spk, i_fam, i_str, i_said, i_book, i_wds, i_tok, i_cod, i_far, i_tap, i_qua, i_sil, i_stz, i_way⟩, Or.inr ⟨by omega, ⟨lp_, lr_, by omega, by omega, by omega, by omega, by omega, by omega, by omega, by omega, by rw [← ag_]; omega, by rw [← ag_]; omega⟩, rfl, rfl, rfl, rfl, rfl, rfl, zz23_, rfl, (by first | exact ⟨1, _, Or.inl ⟨rfl, kp_⟩, ob_.2, fun y_ h1_ h2_ => by obtain ⟨w_, a_, b_, c_⟩ := ob_.1 y_ h1_ h2_; exact ⟨w_, a_.elim (fun q_ => absurd rfl q_.1) (fun q_ => q_.2), b_, by rw [ow1_cF fa_.2, ag_] at c_; exact c_⟩⟩ | exact ⟨0, _, Or.inr ⟨rfl, kp_⟩, ob_.2, fun y_ h1_ h2_ => by obtain ⟨w_, a_, b_, c_⟩ := ob_.1 y_ h1_ h2_; exact ⟨w_, a_.elim (fun q_ => absurd rfl q_.1) (fun q_ => q_.2), b_, by rw [ow1_cF fa_.2, ag_] at c_; exact c_⟩⟩), fun j_ h_ => (upA_ne (by omega)).trans (iv275.2.2.1 j_ h_), fun r_ h1_ h2_ => by by_cases e_ : r_ = v_p; (rw [e_, upA_same]; exact Ptq_p co_ iv275.2.1 pv_); (rw [upA_ne (by omega)]; exact Ptq_o e_ (iv275.2.1.trans (by rw [co_])) (iv275.2.2.2 r_ h1_ (by omega)))⟩⟩⟩ dX10_suit_372
                                  · refine j_aload_n E 283 rfl dX10_suit_282 rfl (lv_at hl 0 rfl) ?_
                                    refine m_ag_55 E hK hw 286 rfl dX10_suit_283 ?_
                                    refine j_bipush E 288 rfl dX10_suit_286 (by decide) ?_
                                    refine j_aload_n E 289 rfl dX10_suit_288 rfl (lv_at hl 0 rfl) ?_
                                    refine m_get_48 E hK hw (n_0 48) rfl 292 rfl dX10_suit_289 (fun _ => ?_)
                                    refine j_imul E 293 rfl dX10_suit_292 ?_
                                    refine j_iload E 295 rfl dX10_suit_293 (lv_at hl 10 rfl) ?_
                                    refine j_iadd E 296 rfl dX10_suit_295 ?_
                                    refine j_iload E 298 rfl dX10_suit_296 (lv_at hl 10 rfl) ?_
                                    refine j_iload_n E 299 rfl dX10_suit_298 rfl (lv_at hl 1 rfl) ?_
                                    refine j_icmp_eq E 302 326 rfl r_gq r_v_p dX10_suit_299 (by decide) (fun cc44_ => ?_) (fun cc44_ => ?_)
                                    · refine j_iconst E 327 rfl dX10_suit_326 ?_
                                      refine m_st_55 E hK hw (by omega) (rr (by decide)) 328 rfl dX10_suit_327 (fun H locs hw => ?_)
                                      have hw : WM D cy q (upN n_0 0 0) (upF (upF (upF (upF (upF (upF (upF (upF (upF (upF f_0 45 y45_21) 46 y46_23) 47 y47_23) 49 (upA (f_0 49) (n_0 48) v_p)) 50 (upA (f_0 50) (n_0 48) v_r)) 51 (upA (f_0 51) (n_0 48) v_x)) 52 (upA (f_0 52) (n_0 48) zz23_)) 53 (upA (f_0 53) (n_0 48) (n_0 1))) 54 (upA (f_0 54) (n_0 48) 0)) 55 (upA (y55_c275) ((24 * (n_0 48)) + gq) 0)) A0 H0 H locs := hw
                                      refine j_iinc E 331 rfl [(10, .int (J (gq + 1))), (0, .ref (q 0)), (1, .int (J v_p)), (2, .int (J v_r)), (3, .int (J v_x)), (4, .int (J v_harm)), (5, .int (J v_witnesses)), (6, .int (J v_deed)), (7, .int (J zz23_)), (8, .int (J gc)), (9, .int (J ge))] dX10_suit_328 hl (kk := 10) rfl (by decide) rfl (fun ls hl => ?_)
                                      refine j_goto E 275 dX10_suit_331 (by decide) ?_
                                      exact ih275 (gq + 1) ge (upA (y55_c275) ((24 * (n_0 48)) + gq) 0) H locs ls (rr (by omega)) r_ge (⟨by omega, iv275.2.1, fun j_ h_ => (upA_ne (by omega)).trans (iv275.2.2.1 j_ h_), fun r_ h1_ h2_ => by by_cases e_ : r_ = gq; (rw [e_, upA_same]; first | exact Or.inl ⟨⟨by omega, kl_, kk_⟩, rfl⟩ | exact Or.inr ⟨fun q_ => by first | exact q_.1 (by omega) | exact kn_ q_.2.1 | exact nk_ q_.2.2, rfl⟩); (rw [upA_ne (by omega)]; exact iv275.2.2.2 r_ h1_ (by omega))⟩) (by omega) hw (lv_sub hl [1, 2, 3, 4, 5, 6, 7, 8, 9, 10, 0] rfl)
                                    · refine j_aload_n E 303 rfl dX10_suit_302 rfl (lv_at hl 0 rfl) ?_
                                      refine j_iload E 305 rfl dX10_suit_303 (lv_at hl 10 rfl) ?_
                                      refine m_callp (po := fun z_0 => (z_0 = 1 ∧ 0 ≤ gq ∧ gq < (n_0 2) ∧ (f_0 6 gq) = -1) ∨ (z_0 = 0 ∧ ¬ (0 ≤ gq ∧ gq < (n_0 2) ∧ (f_0 6 gq) = -1))) E (c_X10_isLiving l D cy q (upN n_0 0 0) (upF (upF (upF (upF (upF (upF (upF (upF (upF (upF f_0 45 y45_21) 46 y46_23) 47 y47_23) 49 (upA (f_0 49) (n_0 48) v_p)) 50 (upA (f_0 50) (n_0 48) v_r)) 51 (upA (f_0 51) (n_0 48) v_x)) 52 (upA (f_0 52) (n_0 48) zz23_)) 53 (upA (f_0 53) (n_0 48) (n_0 1))) 54 (upA (f_0 54) (n_0 48) 0)) 55 y55_c275) gq  r_gq (show (n_0 2) ≤ 24 from by omega)) rfl mt_X10_isLiving ml_X10_176 hK hw hA ⟨Nat.le_of_ble_eq_true rfl, Nat.le_of_ble_eq_true rfl⟩ (As := [.int (J gq)]) (rest := [.int (J ((24 * (n_0 48)) + gq)), .ref (q 55)]) rfl rfl hl.1 (Nat.le_of_ble_eq_true rfl) 308 rfl dX10_suit_305 (fun zz46_ H locs rr46_ hq46_ hw => ?_)
                                      have hh46_ : (zz46_ = 1 ∧ 0 ≤ gq ∧ gq < (n_0 2) ∧ (f_0 6 gq) = -1) ∨ (zz46_ = 0 ∧ ¬ (0 ≤ gq ∧ gq < (n_0 2) ∧ (f_0 6 gq) = -1)) := hq46_
                                      clear hq46_
                                      rcases hh46_ with ⟨ee46_, hh46_⟩ | ⟨ee46_, hh46_⟩
                                      · subst ee46_
                                        have kl_ := hh46_
                                        clear hh46_
                                        refine j_if_eq E 311 326 rfl (rr (by decide)) dX10_suit_308 (by decide) (fun cc47_ => absurd cc47_ (by decide)) (fun _ => ?_)
                                        refine j_aload_n E 312 rfl dX10_suit_311 rfl (lv_at hl 0 rfl) ?_
                                        refine j_iload_n E 313 rfl dX10_suit_312 rfl (lv_at hl 1 rfl) ?_
                                        refine j_iload E 315 rfl dX10_suit_313 (lv_at hl 10 rfl) ?_
                                        refine m_callp (po := fun z_0 => (z_0 = 1 ∧ (f_0 4 v_p) = (f_0 4 gq)) ∨ (z_0 = 0 ∧ ¬ (f_0 4 v_p) = (f_0 4 gq))) E (c_X10_isKin l D cy q (upN n_0 0 0) (upF (upF (upF (upF (upF (upF (upF (upF (upF (upF f_0 45 y45_21) 46 y46_23) 47 y47_23) 49 (upA (f_0 49) (n_0 48) v_p)) 50 (upA (f_0 50) (n_0 48) v_r)) 51 (upA (f_0 51) (n_0 48) v_x)) 52 (upA (f_0 52) (n_0 48) zz23_)) 53 (upA (f_0 53) (n_0 48) (n_0 1))) 54 (upA (f_0 54) (n_0 48) 0)) 55 y55_c275) v_p gq  r_v_p r_gq (show 0 ≤ v_p ∧ v_p < 24 from by omega) (show 0 ≤ gq ∧ gq < 24 from by omega)) rfl mt_X10_isKin ml_X10_334 hK hw hA ⟨Nat.le_of_ble_eq_true rfl, Nat.le_of_ble_eq_true rfl⟩ (As := [.int (J v_p), .int (J gq)]) (rest := [.int (J ((24 * (n_0 48)) + gq)), .ref (q 55)]) rfl rfl hl.1 (Nat.le_of_ble_eq_true rfl) 318 rfl dX10_suit_315 (fun zz48_ H locs rr48_ hq48_ hw => ?_)
                                        have hh48_ : (zz48_ = 1 ∧ (f_0 4 v_p) = (f_0 4 gq)) ∨ (zz48_ = 0 ∧ ¬ (f_0 4 v_p) = (f_0 4 gq)) := hq48_
                                        clear hq48_
                                        rcases hh48_ with ⟨ee48_, hh48_⟩ | ⟨ee48_, hh48_⟩
                                        · subst ee48_
                                          have kk_ := hh48_
                                          clear hh48_
                                          refine j_if_eq E 321 326 rfl (rr (by decide)) dX10_suit_318 (by decide) (fun cc49_ => absurd cc49_ (by decide)) (fun _ => ?_)
                                          refine j_iload E 323 rfl dX10_suit_321 (lv_at hl 9 rfl) ?_
                                          refine j_goto E 327 dX10_suit_323 (by decide) ?_
                                          refine m_st_55 E hK hw (by omega) r_ge 328 rfl dX10_suit_327 (fun H locs hw => ?_)
                                          have hw : WM D cy q (upN n_0 0 0) (upF (upF (upF (upF (upF (upF (upF (upF (upF (upF f_0 45 y45_21) 46 y46_23) 47 y47_23) 49 (upA (f_0 49) (n_0 48) v_p)) 50 (upA (f_0 50) (n_0 48) v_r)) 51 (upA (f_0 51) (n_0 48) v_x)) 52 (upA (f_0 52) (n_0 48) zz23_)) 53 (upA (f_0 53) (n_0 48) (n_0 1))) 54 (upA (f_0 54) (n_0 48) 0)) 55 (upA (y55_c275) ((24 * (n_0 48)) + gq) ge)) A0 H0 H locs := hw
                                          refine j_iinc E 331 rfl [(10, .int (J (gq + 1))), (0, .ref (q 0)), (1, .int (J v_p)), (2, .int (J v_r)), (3, .int (J v_x)), (4, .int (J v_harm)), (5, .int (J v_witnesses)), (6, .int (J v_deed)), (7, .int (J zz23_)), (8, .int (J gc)), (9, .int (J ge))] dX10_suit_328 hl (kk := 10) rfl (by decide) rfl (fun ls hl => ?_)
                                          refine j_goto E 275 dX10_suit_331 (by decide) ?_
                                          exact ih275 (gq + 1) ge (upA (y55_c275) ((24 * (n_0 48)) + gq) ge) H locs ls (rr (by omega)) r_ge (⟨by omega, iv275.2.1, fun j_ h_ => (upA_ne (by omega)).trans (iv275.2.2.1 j_ h_), fun r_ h1_ h2_ => by by_cases e_ : r_ = gq; (rw [e_, upA_same]; first | exact Or.inl ⟨⟨by omega, kl_, kk_⟩, rfl⟩ | exact Or.inr ⟨fun q_ => by first | exact q_.1 (by omega) | exact kn_ q_.2.1 | exact nk_ q_.2.2, rfl⟩); (rw [upA_ne (by omega)]; exact iv275.2.2.2 r_ h1_ (by omega))⟩) (by omega) hw (lv_sub hl [1, 2, 3, 4, 5, 6, 7, 8, 9, 10, 0] rfl)
                                        · subst ee48_
                                          have nk_ := hh48_
                                          clear hh48_
                                          refine j_if_eq E 321 326 rfl (rr (by decide)) dX10_suit_318 (by decide) (fun _ => ?_) (fun cc51_ => absurd cc51_ (by decide))
                                          refine j_iconst E 327 rfl dX10_suit_326 ?_
                                          refine m_st_55 E hK hw (by omega) (rr (by decide)) 328 rfl dX10_suit_327 (fun H locs hw => ?_)
                                          have hw : WM D cy q (upN n_0 0 0) (upF (upF (upF (upF (upF (upF (upF (upF (upF (upF f_0 45 y45_21) 46 y46_23) 47 y47_23) 49 (upA (f_0 49) (n_0 48) v_p)) 50 (upA (f_0 50) (n_0 48) v_r)) 51 (upA (f_0 51) (n_0 48) v_x)) 52 (upA (f_0 52) (n_0 48) zz23_)) 53 (upA (f_0 53) (n_0 48) (n_0 1))) 54 (upA (f_0 54) (n_0 48) 0)) 55 (upA (y55_c275) ((24 * (n_0 48)) + gq) 0)) A0 H0 H locs := hw
                                          refine j_iinc E 331 rfl [(10, .int (J (gq + 1))), (0, .ref (q 0)), (1, .int (J v_p)), (2, .int (J v_r)), (3, .int (J v_x)), (4, .int (J v_harm)), (5, .int (J v_witnesses)), (6, .int (J v_deed)), (7, .int (J zz23_)), (8, .int (J gc)), (9, .int (J ge))] dX10_suit_328 hl (kk := 10) rfl (by decide) rfl (fun ls hl => ?_)
                                          refine j_goto E 275 dX10_suit_331 (by decide) ?_
                                          exact ih275 (gq + 1) ge (upA (y55_c275) ((24 * (n_0 48)) + gq) 0) H locs ls (rr (by omega)) r_ge (⟨by omega, iv275.2.1, fun j_ h_ => (upA_ne (by omega)).trans (iv275.2.2.1 j_ h_), fun r_ h1_ h2_ => by by_cases e_ : r_ = gq; (rw [e_, upA_same]; first | exact Or.inl ⟨⟨by omega, kl_, kk_⟩, rfl⟩ | exact Or.inr ⟨fun q_ => by first | exact q_.1 (by omega) | exact kn_ q_.2.1 | exact nk_ q_.2.2, rfl⟩); (rw [upA_ne (by omega)]; exact iv275.2.2.2 r_ h1_ (by omega))⟩) (by omega) hw (lv_sub hl [1, 2, 3, 4, 5, 6, 7, 8, 9, 10, 0] rfl)
                                      · subst ee46_
                                        have kn_ := hh46_
                                        clear hh46_
                                        refine j_if_eq E 311 326 rfl (rr (by decide)) dX10_suit_308 (by decide) (fun _ => ?_) (fun cc53_ => absurd cc53_ (by decide))
                                        refine j_iconst E 327 rfl dX10_suit_326 ?_
                                        refine m_st_55 E hK hw (by omega) (rr (by decide)) 328 rfl dX10_suit_327 (fun H locs hw => ?_)
                                        have hw : WM D cy q (upN n_0 0 0) (upF (upF (upF (upF (upF (upF (upF (upF (upF (upF f_0 45 y45_21) 46 y46_23) 47 y47_23) 49 (upA (f_0 49) (n_0 48) v_p)) 50 (upA (f_0 50) (n_0 48) v_r)) 51 (upA (f_0 51) (n_0 48) v_x)) 52 (upA (f_0 52) (n_0 48) zz23_)) 53 (upA (f_0 53) (n_0 48) (n_0 1))) 54 (upA (f_0 54) (n_0 48) 0)) 55 (upA (y55_c275) ((24 * (n_0 48)) + gq) 0)) A0 H0 H locs := hw
                                        refine j_iinc E 331 rfl [(10, .int (J (gq + 1))), (0, .ref (q 0)), (1, .int (J v_p)), (2, .int (J v_r)), (3, .int (J v_x)), (4, .int (J v_harm)), (5, .int (J v_witnesses)), (6, .int (J v_deed)), (7, .int (J zz23_)), (8, .int (J gc)), (9, .int (J ge))] dX10_suit_328 hl (kk := 10) rfl (by decide) rfl (fun ls hl => ?_)
                                        refine j_goto E 275 dX10_suit_331 (by decide) ?_
                                        exact ih275 (gq + 1) ge (upA (y55_c275) ((24 * (n_0 48)) + gq) 0) H locs ls (rr (by omega)) r_ge (⟨by omega, iv275.2.1, fun j_ h_ => (upA_ne (by omega)).trans (iv275.2.2.1 j_ h_), fun r_ h1_ h2_ => by by_cases e_ : r_ = gq; (rw [e_, upA_same]; first | exact Or.inl ⟨⟨by omega, kl_, kk_⟩, rfl⟩ | exact Or.inr ⟨fun q_ => by first | exact q_.1 (by omega) | exact kn_ q_.2.1 | exact nk_ q_.2.2, rfl⟩); (rw [upA_ne (by omega)]; exact iv275.2.2.2 r_ h1_ (by omega))⟩) (by omega) hw (lv_sub hl [1, 2, 3, 4, 5, 6, 7, 8, 9, 10, 0] rfl)
                              exact L275_37 _ 0 zz36_ (f_0 55) H locs ls (rr (by decide)) rr36_ (⟨by omega, by first | exact (ea_0 (by omega)).symm | exact ea_n (by omega) r1_ e1_ r2_ e2_, fun _ _ => rfl, fun r_ h1_ h2_ => absurd h2_ (by omega)⟩) (mk_lt _) hw (lv_sub hl [2, 3, 4, 5, 6, 7, 8, 9, 10, 1, 0] rfl)
                            · refine j_iconst E 260 rfl dX10_suit_259 ?_
                              refine j_goto E 270 dX10_suit_260 (by decide) ?_
                              refine j_istore E 272 rfl [(9, .int (J 0)), (0, .ref (q 0)), (1, .int (J v_p)), (2, .int (J v_r)), (3, .int (J v_x)), (4, .int (J v_harm)), (5, .int (J v_witnesses)), (6, .int (J v_deed)), (7, .int (J zz23_)), (8, .int (J gc))] dX10_suit_270 hl (by decide) rfl (fun ls hl => ?_)
                              refine j_iconst E 273 rfl dX10_suit_272 ?_
                              refine j_istore E 275 rfl [(10, .int (J 0)), (9, .int (J 0)), (0, .ref (q 0)), (1, .int (J v_p)), (2, .int (J v_r)), (3, .int (J v_x)), (4, .int (J v_harm)), (5, .int (J v_witnesses)), (6, .int (J v_deed)), (7, .int (J zz23_)), (8, .int (J gc))] dX10_suit_273 hl (by decide) rfl (fun ls hl => ?_)
                              have L275_55 : ∀ (k275 : Nat) (gq ge : Int) (y55_c275 : Int → Int) (H : Heap) (locs : List Loc) (ls : Array Slot), inR gq → inR ge → ((0 ≤ gq ∧ gq ≤ 24) ∧ ge = ea_ zz23_ gc ∧ (∀ j_, j_ < 24 * (n_0 48) → (y55_c275 j_) = (f_0 55 j_)) ∧ ∀ r_, 0 ≤ r_ → r_ < gq → Pv_ ge (fun r_ => ¬ r_ = v_p ∧ (0 ≤ r_ ∧ r_ < (n_0 2) ∧ (f_0 6 r_) = -1) ∧ (f_0 4 v_p) = (f_0 4 r_)) r_ ((y55_c275 (24 * (n_0 48) + r_)))) → (24 - gq) < (k275 : Int) → WM D cy q (upN n_0 0 0) (upF (upF (upF (upF (upF (upF (upF (upF (upF (upF f_0 45 y45_21) 46 y46_23) 47 y47_23) 49 (upA (f_0 49) (n_0 48) v_p)) 50 (upA (f_0 50) (n_0 48) v_r)) 51 (upA (f_0 51) (n_0 48) v_x)) 52 (upA (f_0 52) (n_0 48) zz23_)) 53 (upA (f_0 53) (n_0 48) (n_0 1))) 54 (upA (f_0 54) (n_0 48) 0)) 55 y55_c275) A0 H0 H locs → lv_has ls 11 [(0, .ref (q 0)), (1, .int (J v_p)), (2, .int (J v_r)), (3, .int (J v_x)), (4, .int (J v_harm)), (5, .int (J v_witnesses)), (6, .int (J v_deed)), (7, .int (J zz23_)), (8, .int (J gc)), (9, .int (J ge)), (10, .int (J gq))] → W p l e (rmd 4 0 0) s m ar below meth c H locs 0 0 QW (F0 m 275 ls []) := by
                                intro k275
                                induction k275 with
                                | zero =>
                                  intro gq ge y55_c275 H locs ls r_gq r_ge iv275 ms275 hw hl
                                  exfalso; omega
                                | succ k275 ih275 =>
                                  intro gq ge y55_c275 H locs ls r_gq r_ge iv275 ms275 hw hl
                                  refine j_iload E 277 rfl dX10_suit_275 (lv_at hl 10 rfl) ?_
                                  refine j_bipush E 279 rfl dX10_suit_277 (by decide) ?_
                                  refine j_icmp_ge E 282 334 rfl r_gq (rr (by decide)) dX10_suit_279 (by decide) (fun cc57_ => ?_) (fun cc57_ => ?_)
                                  · refine j_aload_n E 335 rfl dX10_suit_334 rfl (lv_at hl 0 rfl) ?_
                                    refine m_ag_55 E hK hw 338 rfl dX10_suit_335 ?_
                                    refine j_bipush E 340 rfl dX10_suit_338 (by decide) ?_
                                    refine j_aload_n E 341 rfl dX10_suit_340 rfl (lv_at hl 0 rfl) ?_
                                    refine m_get_48 E hK hw (n_0 48) rfl 344 rfl dX10_suit_341 (fun _ => ?_)
                                    refine j_imul E 345 rfl dX10_suit_344 ?_
                                    refine j_iload_n E 346 rfl dX10_suit_345 rfl (lv_at hl 1 rfl) ?_
                                    refine j_iadd E 347 rfl dX10_suit_346 ?_
                                    refine j_iload E 349 rfl dX10_suit_347 (lv_at hl 7 rfl) ?_
                                    refine j_iload E 351 rfl dX10_suit_349 (lv_at hl 9 rfl) ?_
                                    refine j_iload E 353 rfl dX10_suit_351 (lv_at hl 8 rfl) ?_
                                    refine j_imul E 354 rfl dX10_suit_353 ?_
                                    refine j_isub E 355 rfl dX10_suit_354 ?_
                                    refine j_norm (fun zz58_ rr58_ ee58_ => ?_)
                                    have pv_ : zz58_ = w32_ (zz23_ - ge * gc) := w32_of rr58_ ee58_
                                    refine m_st_55 E hK hw (by omega) rr58_ 356 rfl dX10_suit_355 (fun H locs hw => ?_)
                                    have hw : WM D cy q (upN n_0 0 0) (upF (upF (upF (upF (upF (upF (upF (upF (upF (upF f_0 45 y45_21) 46 y46_23) 47 y47_23) 49 (upA (f_0 49) (n_0 48) v_p)) 50 (upA (f_0 50) (n_0 48) v_r)) 51 (upA (f_0 51) (n_0 48) v_x)) 52 (upA (f_0 52) (n_0 48) zz23_)) 53 (upA (f_0 53) (n_0 48) (n_0 1))) 54 (upA (f_0 54) (n_0 48) 0)) 55 (upA (y55_c275) ((24 * (n_0 48)) + v_p) zz58_)) A0 H0 H locs := hw
                                    refine j_aload_n E 357 rfl dX10_suit_356 rfl (lv_at hl 0 rfl) ?_
                                    refine j_aload_n E 358 rfl dX10_suit_357 rfl (lv_at hl 0 rfl) ?_
                                    refine m_get_48 E hK hw (n_0 48) rfl 361 rfl dX10_suit_358 (fun _ => ?_)
                                    refine j_iconst E 362 rfl dX10_suit_361 ?_
                                    refine j_iadd E 363 rfl dX10_suit_362 ?_
                                    refine m_put_48 E hK hw (rr (by omega)) 366 rfl dX10_suit_363 (fun H locs hw => ?_)
                                    have hw : WM D cy q (upN (upN n_0 0 0) 48 ((n_0 48) + 1)) (upF (upF (upF (upF (upF (upF (upF (upF (upF (upF f_0 45 y45_21) 46 y46_23) 47 y47_23) 49 (upA (f_0 49) (n_0 48) v_p)) 50 (upA (f_0 50) (n_0 48) v_r)) 51 (upA (f_0 51) (n_0 48) v_x)) 52 (upA (f_0 52) (n_0 48) zz23_)) 53 (upA (f_0 53) (n_0 48) (n_0 1))) 54 (upA (f_0 54) (n_0 48) 0)) 55 (upA (y55_c275) ((24 * (n_0 48)) + v_p) zz58_)) A0 H0 H locs := hw
                                    refine j_aload_n E 367 rfl dX10_suit_366 rfl (lv_at hl 0 rfl) ?_
                                    refine m_get_48 E hK hw ((n_0 48) + 1) rfl 370 rfl dX10_suit_367 (fun rr61_ => ?_)
                                    refine j_iconst E 371 rfl dX10_suit_370 ?_
                                    refine j_isub E 372 rfl dX10_suit_371 ?_
                                    exact hret 372 (((n_0 48) + 1) - 1) (upN (upN n_0 0 0) 48 ((n_0 48) + 1)) (upF (upF (upF (upF (upF (upF (upF (upF (upF (upF f_0 45 y45_21) 46 y46_23) 47 y47_23) 49 (upA (f_0 49) (n_0 48) v_p)) 50 (upA (f_0 50) (n_0 48) v_r)) 51 (upA (f_0 51) (n_0 48) v_x)) 52 (upA (f_0 52) (n_0 48) zz23_)) 53 (upA (f_0 53) (n_0 48) (n_0 1))) 54 (upA (f_0 54) (n_0 48) 0)) 55 (upA (y55_c275) ((24 * (n_0 48)) + v_p) zz58_)) _ _ ls hw (rr (by omega)) ⟨0, ((n_0 48) + 1), y45_21, y46_23, y47_23, (upA (f_0 49) (n_0 48) v_p), (upA (f_0 50) (n_0 48) v_r), (upA (f_0 51) (n_0 48) v_x), (upA (f_0 52) (n_0 48) zz23_), (upA (f_0 53) (n_0 48) (n_0 1)), (upA (f_0 54) (n_0 48) 0), (upA (y55_c275) ((24 * (n_0 48)) + v_p) zz58_), rfl, rfl, ⟨⟨i_now, i_persons, i_lines, i_wordings, i_taped, (show 0 ≤ ((n_0 48) + 1) ∧ ((n_0 48) + 1) ≤ 100 from by omega), i_spk, i_fam, i_str, i_said, i_book, i_wds, i_tok, i_cod, i_far, i_tap, i_qua, i_sil, i_stz, i_way⟩, Or.inr ⟨by omega, ⟨lp_, lr_, by omega, by omega, by omega, by omega, by omega, by omega, by omega, by omega, by rw [← ag_]; omega, by rw [← ag_]; omega⟩, rfl, rfl, rfl, rfl, rfl, rfl, zz23_, rfl, (by first | exact ⟨1, _, Or.inl ⟨rfl, kp_⟩, ob_.2, fun y_ h1_ h2_ => by obtain ⟨w_, a_, b_, c_⟩ := ob_.1 y_ h1_ h2_; exact ⟨w_, a_.elim (fun q_ => absurd rfl q_.1) (fun q_ => q_.2), b_, by rw [ow1_cF fa_.2, ag_] at c_; exact c_⟩⟩ | exact ⟨0, _, Or.inr ⟨rfl, kp_⟩, ob_.2, fun y_ h1_ h2_ => by obtain ⟨w_, a_, b_, c_⟩ := ob_.1 y_ h1_ h2_; exact ⟨w_, a_.elim (fun q_ => absurd rfl q_.1) (fun q_ => q_.2), b_, by rw [ow1_cF fa_.2, ag_] at c_; exact c_⟩⟩), fun j_ h_ => (upA_ne (by omega)).trans (iv275.2.2.1 j_ h_), fun r_ h1_ h2_ => by by_cases e_ : r_ = v_p; (rw [e_, upA_same]; exact Ptq_p co_ iv275.2.1 pv_); (rw [upA_ne (by omega)]; exact Ptq_o e_ (iv275.2.1.trans (by rw [co_])) (iv275.2.2.2 r_ h1_ (by omega)))⟩⟩⟩ dX10_suit_372
                                  · refine j_aload_n E 283 rfl dX10_suit_282 rfl (lv_at hl 0 rfl) ?_
                                    refine m_ag_55 E hK hw 286 rfl dX10_suit_283 ?_
                                    refine j_bipush E 288 rfl dX10_suit_286 (by decide) ?_
                                    refine j_aload_n E 289 rfl dX10_suit_288 rfl (lv_at hl 0 rfl) ?_
                                    refine m_get_48 E hK hw (n_0 48) rfl 292 rfl dX10_suit_289 (fun _ => ?_)
                                    refine j_imul E 293 rfl dX10_suit_292 ?_
                                    refine j_iload E 295 rfl dX10_suit_293 (lv_at hl 10 rfl) ?_
                                    refine j_iadd E 296 rfl dX10_suit_295 ?_
                                    refine j_iload E 298 rfl dX10_suit_296 (lv_at hl 10 rfl) ?_
                                    refine j_iload_n E 299 rfl dX10_suit_298 rfl (lv_at hl 1 rfl) ?_
                                    refine j_icmp_eq E 302 326 rfl r_gq r_v_p dX10_suit_299 (by decide) (fun cc62_ => ?_) (fun cc62_ => ?_)
                                    · refine j_iconst E 327 rfl dX10_suit_326 ?_
                                      refine m_st_55 E hK hw (by omega) (rr (by decide)) 328 rfl dX10_suit_327 (fun H locs hw => ?_)
                                      have hw : WM D cy q (upN n_0 0 0) (upF (upF (upF (upF (upF (upF (upF (upF (upF (upF f_0 45 y45_21) 46 y46_23) 47 y47_23) 49 (upA (f_0 49) (n_0 48) v_p)) 50 (upA (f_0 50) (n_0 48) v_r)) 51 (upA (f_0 51) (n_0 48) v_x)) 52 (upA (f_0 52) (n_0 48) zz23_)) 53 (upA (f_0 53) (n_0 48) (n_0 1))) 54 (upA (f_0 54) (n_0 48) 0)) 55 (upA (y55_c275) ((24 * (n_0 48)) + gq) 0)) A0 H0 H locs := hw
                                      refine j_iinc E 331 rfl [(10, .int (J (gq + 1))), (0, .ref (q 0)), (1, .int (J v_p)), (2, .int (J v_r)), (3, .int (J v_x)), (4, .int (J v_harm)), (5, .int (J v_witnesses)), (6, .int (J v_deed)), (7, .int (J zz23_)), (8, .int (J gc)), (9, .int (J ge))] dX10_suit_328 hl (kk := 10) rfl (by decide) rfl (fun ls hl => ?_)
                                      refine j_goto E 275 dX10_suit_331 (by decide) ?_
                                      exact ih275 (gq + 1) ge (upA (y55_c275) ((24 * (n_0 48)) + gq) 0) H locs ls (rr (by omega)) r_ge (⟨by omega, iv275.2.1, fun j_ h_ => (upA_ne (by omega)).trans (iv275.2.2.1 j_ h_), fun r_ h1_ h2_ => by by_cases e_ : r_ = gq; (rw [e_, upA_same]; first | exact Or.inl ⟨⟨by omega, kl_, kk_⟩, rfl⟩ | exact Or.inr ⟨fun q_ => by first | exact q_.1 (by omega) | exact kn_ q_.2.1 | exact nk_ q_.2.2, rfl⟩); (rw [upA_ne (by omega)]; exact iv275.2.2.2 r_ h1_ (by omega))⟩) (by omega) hw (lv_sub hl [1, 2, 3, 4, 5, 6, 7, 8, 9, 10, 0] rfl)
                                    · refine j_aload_n E 303 rfl dX10_suit_302 rfl (lv_at hl 0 rfl) ?_
                                      refine j_iload E 305 rfl dX10_suit_303 (lv_at hl 10 rfl) ?_
                                      refine m_callp (po := fun z_0 => (z_0 = 1 ∧ 0 ≤ gq ∧ gq < (n_0 2) ∧ (f_0 6 gq) = -1) ∨ (z_0 = 0 ∧ ¬ (0 ≤ gq ∧ gq < (n_0 2) ∧ (f_0 6 gq) = -1))) E (c_X10_isLiving l D cy q (upN n_0 0 0) (upF (upF (upF (upF (upF (upF (upF (upF (upF (upF f_0 45 y45_21) 46 y46_23) 47 y47_23) 49 (upA (f_0 49) (n_0 48) v_p)) 50 (upA (f_0 50) (n_0 48) v_r)) 51 (upA (f_0 51) (n_0 48) v_x)) 52 (upA (f_0 52) (n_0 48) zz23_)) 53 (upA (f_0 53) (n_0 48) (n_0 1))) 54 (upA (f_0 54) (n_0 48) 0)) 55 y55_c275) gq  r_gq (show (n_0 2) ≤ 24 from by omega)) rfl mt_X10_isLiving ml_X10_176 hK hw hA ⟨Nat.le_of_ble_eq_true rfl, Nat.le_of_ble_eq_true rfl⟩ (As := [.int (J gq)]) (rest := [.int (J ((24 * (n_0 48)) + gq)), .ref (q 55)]) rfl rfl hl.1 (Nat.le_of_ble_eq_true rfl) 308 rfl dX10_suit_305 (fun zz64_ H locs rr64_ hq64_ hw => ?_)
                                      have hh64_ : (zz64_ = 1 ∧ 0 ≤ gq ∧ gq < (n_0 2) ∧ (f_0 6 gq) = -1) ∨ (zz64_ = 0 ∧ ¬ (0 ≤ gq ∧ gq < (n_0 2) ∧ (f_0 6 gq) = -1)) := hq64_
                                      clear hq64_
                                      rcases hh64_ with ⟨ee64_, hh64_⟩ | ⟨ee64_, hh64_⟩
                                      · subst ee64_
                                        have kl_ := hh64_
                                        clear hh64_
                                        refine j_if_eq E 311 326 rfl (rr (by decide)) dX10_suit_308 (by decide) (fun cc65_ => absurd cc65_ (by decide)) (fun _ => ?_)
                                        refine j_aload_n E 312 rfl dX10_suit_311 rfl (lv_at hl 0 rfl) ?_
                                        refine j_iload_n E 313 rfl dX10_suit_312 rfl (lv_at hl 1 rfl) ?_
                                        refine j_iload E 315 rfl dX10_suit_313 (lv_at hl 10 rfl) ?_
                                        refine m_callp (po := fun z_0 => (z_0 = 1 ∧ (f_0 4 v_p) = (f_0 4 gq)) ∨ (z_0 = 0 ∧ ¬ (f_0 4 v_p) = (f_0 4 gq))) E (c_X10_isKin l D cy q (upN n_0 0 0) (upF (upF (upF (upF (upF (upF (upF (upF (upF (upF f_0 45 y45_21) 46 y46_23) 47 y47_23) 49 (upA (f_0 49) (n_0 48) v_p)) 50 (upA (f_0 50) (n_0 48) v_r)) 51 (upA (f_0 51) (n_0 48) v_x)) 52 (upA (f_0 52) (n_0 48) zz23_)) 53 (upA (f_0 53) (n_0 48) (n_0 1))) 54 (upA (f_0 54) (n_0 48) 0)) 55 y55_c275) v_p gq  r_v_p r_gq (show 0 ≤ v_p ∧ v_p < 24 from by omega) (show 0 ≤ gq ∧ gq < 24 from by omega)) rfl mt_X10_isKin ml_X10_334 hK hw hA ⟨Nat.le_of_ble_eq_true rfl, Nat.le_of_ble_eq_true rfl⟩ (As := [.int (J v_p), .int (J gq)]) (rest := [.int (J ((24 * (n_0 48)) + gq)), .ref (q 55)]) rfl rfl hl.1 (Nat.le_of_ble_eq_true rfl) 318 rfl dX10_suit_315 (fun zz66_ H locs rr66_ hq66_ hw => ?_)
                                        have hh66_ : (zz66_ = 1 ∧ (f_0 4 v_p) = (f_0 4 gq)) ∨ (zz66_ = 0 ∧ ¬ (f_0 4 v_p) = (f_0 4 gq)) := hq66_
                                        clear hq66_
                                        rcases hh66_ with ⟨ee66_, hh66_⟩ | ⟨ee66_, hh66_⟩
                                        · subst ee66_
                                          have kk_ := hh66_
                                          clear hh66_
                                          refine j_if_eq E 321 326 rfl (rr (by decide)) dX10_suit_318 (by decide) (fun cc67_ => absurd cc67_ (by decide)) (fun _ => ?_)
                                          refine j_iload E 323 rfl dX10_suit_321 (lv_at hl 9 rfl) ?_
                                          refine j_goto E 327 dX10_suit_323 (by decide) ?_
                                          refine m_st_55 E hK hw (by omega) r_ge 328 rfl dX10_suit_327 (fun H locs hw => ?_)
                                          have hw : WM D cy q (upN n_0 0 0) (upF (upF (upF (upF (upF (upF (upF (upF (upF (upF f_0 45 y45_21) 46 y46_23) 47 y47_23) 49 (upA (f_0 49) (n_0 48) v_p)) 50 (upA (f_0 50) (n_0 48) v_r)) 51 (upA (f_0 51) (n_0 48) v_x)) 52 (upA (f_0 52) (n_0 48) zz23_)) 53 (upA (f_0 53) (n_0 48) (n_0 1))) 54 (upA (f_0 54) (n_0 48) 0)) 55 (upA (y55_c275) ((24 * (n_0 48)) + gq) ge)) A0 H0 H locs := hw
                                          refine j_iinc E 331 rfl [(10, .int (J (gq + 1))), (0, .ref (q 0)), (1, .int (J v_p)), (2, .int (J v_r)), (3, .int (J v_x)), (4, .int (J v_harm)), (5, .int (J v_witnesses)), (6, .int (J v_deed)), (7, .int (J zz23_)), (8, .int (J gc)), (9, .int (J ge))] dX10_suit_328 hl (kk := 10) rfl (by decide) rfl (fun ls hl => ?_)
                                          refine j_goto E 275 dX10_suit_331 (by decide) ?_
                                          exact ih275 (gq + 1) ge (upA (y55_c275) ((24 * (n_0 48)) + gq) ge) H locs ls (rr (by omega)) r_ge (⟨by omega, iv275.2.1, fun j_ h_ => (upA_ne (by omega)).trans (iv275.2.2.1 j_ h_), fun r_ h1_ h2_ => by by_cases e_ : r_ = gq; (rw [e_, upA_same]; first | exact Or.inl ⟨⟨by omega, kl_, kk_⟩, rfl⟩ | exact Or.inr ⟨fun q_ => by first | exact q_.1 (by omega) | exact kn_ q_.2.1 | exact nk_ q_.2.2, rfl⟩); (rw [upA_ne (by omega)]; exact iv275.2.2.2 r_ h1_ (by omega))⟩) (by omega) hw (lv_sub hl [1, 2, 3, 4, 5, 6, 7, 8, 9, 10, 0] rfl)
                                        · subst ee66_
                                          have nk_ := hh66_
                                          clear hh66_
                                          refine j_if_eq E 321 326 rfl (rr (by decide)) dX10_suit_318 (by decide) (fun _ => ?_) (fun cc69_ => absurd cc69_ (by decide))
                                          refine j_iconst E 327 rfl dX10_suit_326 ?_
                                          refine m_st_55 E hK hw (by omega) (rr (by decide)) 328 rfl dX10_suit_327 (fun H locs hw => ?_)
                                          have hw : WM D cy q (upN n_0 0 0) (upF (upF (upF (upF (upF (upF (upF (upF (upF (upF f_0 45 y45_21) 46 y46_23) 47 y47_23) 49 (upA (f_0 49) (n_0 48) v_p)) 50 (upA (f_0 50) (n_0 48) v_r)) 51 (upA (f_0 51) (n_0 48) v_x)) 52 (upA (f_0 52) (n_0 48) zz23_)) 53 (upA (f_0 53) (n_0 48) (n_0 1))) 54 (upA (f_0 54) (n_0 48) 0)) 55 (upA (y55_c275) ((24 * (n_0 48)) + gq) 0)) A0 H0 H locs := hw
                                          refine j_iinc E 331 rfl [(10, .int (J (gq + 1))), (0, .ref (q 0)), (1, .int (J v_p)), (2, .int (J v_r)), (3, .int (J v_x)), (4, .int (J v_harm)), (5, .int (J v_witnesses)), (6, .int (J v_deed)), (7, .int (J zz23_)), (8, .int (J gc)), (9, .int (J ge))] dX10_suit_328 hl (kk := 10) rfl (by decide) rfl (fun ls hl => ?_)
                                          refine j_goto E 275 dX10_suit_331 (by decide) ?_
                                          exact ih275 (gq + 1) ge (upA (y55_c275) ((24 * (n_0 48)) + gq) 0) H locs ls (rr (by omega)) r_ge (⟨by omega, iv275.2.1, fun j_ h_ => (upA_ne (by omega)).trans (iv275.2.2.1 j_ h_), fun r_ h1_ h2_ => by by_cases e_ : r_ = gq; (rw [e_, upA_same]; first | exact Or.inl ⟨⟨by omega, kl_, kk_⟩, rfl⟩ | exact Or.inr ⟨fun q_ => by first | exact q_.1 (by omega) | exact kn_ q_.2.1 | exact nk_ q_.2.2, rfl⟩); (rw [upA_ne (by omega)]; exact iv275.2.2.2 r_ h1_ (by omega))⟩) (by omega) hw (lv_sub hl [1, 2, 3, 4, 5, 6, 7, 8, 9, 10, 0] rfl)
                                      · subst ee64_
                                        have kn_ := hh64_
                                        clear hh64_
                                        refine j_if_eq E 311 326 rfl (rr (by decide)) dX10_suit_308 (by decide) (fun _ => ?_) (fun cc71_ => absurd cc71_ (by decide))
                                        refine j_iconst E 327 rfl dX10_suit_326 ?_
                                        refine m_st_55 E hK hw (by omega) (rr (by decide)) 328 rfl dX10_suit_327 (fun H locs hw => ?_)
                                        have hw : WM D cy q (upN n_0 0 0) (upF (upF (upF (upF (upF (upF (upF (upF (upF (upF f_0 45 y45_21) 46 y46_23) 47 y47_23) 49 (upA (f_0 49) (n_0 48) v_p)) 50 (upA (f_0 50) (n_0 48) v_r)) 51 (upA (f_0 51) (n_0 48) v_x)) 52 (upA (f_0 52) (n_0 48) zz23_)) 53 (upA (f_0 53) (n_0 48) (n_0 1))) 54 (upA (f_0 54) (n_0 48) 0)) 55 (upA (y55_c275) ((24 * (n_0 48)) + gq) 0)) A0 H0 H locs := hw
                                        refine j_iinc E 331 rfl [(10, .int (J (gq + 1))), (0, .ref (q 0)), (1, .int (J v_p)), (2, .int (J v_r)), (3, .int (J v_x)), (4, .int (J v_harm)), (5, .int (J v_witnesses)), (6, .int (J v_deed)), (7, .int (J zz23_)), (8, .int (J gc)), (9, .int (J ge))] dX10_suit_328 hl (kk := 10) rfl (by decide) rfl (fun ls hl => ?_)
                                        refine j_goto E 275 dX10_suit_331 (by decide) ?_
                                        exact ih275 (gq + 1) ge (upA (y55_c275) ((24 * (n_0 48)) + gq) 0) H locs ls (rr (by omega)) r_ge (⟨by omega, iv275.2.1, fun j_ h_ => (upA_ne (by omega)).trans (iv275.2.2.1 j_ h_), fun r_ h1_ h2_ => by by_cases e_ : r_ = gq; (rw [e_, upA_same]; first | exact Or.inl ⟨⟨by omega, kl_, kk_⟩, rfl⟩ | exact Or.inr ⟨fun q_ => by first | exact q_.1 (by omega) | exact kn_ q_.2.1 | exact nk_ q_.2.2, rfl⟩); (rw [upA_ne (by omega)]; exact iv275.2.2.2 r_ h1_ (by omega))⟩) (by omega) hw (lv_sub hl [1, 2, 3, 4, 5, 6, 7, 8, 9, 10, 0] rfl)
                              exact L275_55 _ 0 0 (f_0 55) H locs ls (rr (by decide)) (rr (by decide)) (⟨by omega, by first | exact (ea_0 (by omega)).symm | exact ea_n (by omega) r1_ e1_ r2_ e2_, fun _ _ => rfl, fun r_ h1_ h2_ => absurd h2_ (by omega)⟩) (mk_lt _) hw (lv_sub hl [2, 3, 4, 5, 6, 7, 8, 9, 10, 1, 0] rfl)
                          · refine j_iload E 219 rfl dX10_suit_217 (lv_at hl 9 rfl) ?_
                            refine j_iload_n E 220 rfl dX10_suit_219 rfl (lv_at hl 1 rfl) ?_
                            refine j_icmp_eq E 223 248 rfl r_gr r_v_p dX10_suit_220 (by decide) (fun cc73_ => ?_) (fun cc73_ => ?_)
                            · refine j_iinc E 251 rfl [(9, .int (J (gr + 1))), (0, .ref (q 0)), (1, .int (J v_p)), (2, .int (J v_r)), (3, .int (J v_x)), (4, .int (J v_harm)), (5, .int (J v_witnesses)), (6, .int (J v_deed)), (7, .int (J zz23_)), (8, .int (J gc))] dX10_suit_248 hl (kk := 9) rfl (by decide) rfl (fun ls hl => ?_)
                              refine j_goto E 208 dX10_suit_251 (by decide) ?_
                              exact ih208 gc (gr + 1) H locs ls r_gc (rr (by omega)) (⟨by omega, by first | exact nq_y iv208.2 (by omega) ⟨by omega, kl_, kk_⟩ | exact nq_n iv208.2 (by omega) (fun q_ => by first | exact q_.1 (by omega) | exact kn_ q_.2.1 | exact nk_ q_.2.2)⟩) (by omega) hw (lv_sub hl [1, 2, 3, 4, 5, 6, 7, 8, 9, 0] rfl)
                            · refine j_aload_n E 224 rfl dX10_suit_223 rfl (lv_at hl 0 rfl) ?_
                              refine j_iload E 226 rfl dX10_suit_224 (lv_at hl 9 rfl) ?_
                              refine m_callp (po := fun z_0 => (z_0 = 1 ∧ 0 ≤ gr ∧ gr < (n_0 2) ∧ (f_0 6 gr) = -1) ∨ (z_0 = 0 ∧ ¬ (0 ≤ gr ∧ gr < (n_0 2) ∧ (f_0 6 gr) = -1))) E (c_X10_isLiving l D cy q (upN n_0 0 0) (upF (upF (upF (upF (upF (upF (upF (upF (upF f_0 45 y45_21) 46 y46_23) 47 y47_23) 49 (upA (f_0 49) (n_0 48) v_p)) 50 (upA (f_0 50) (n_0 48) v_r)) 51 (upA (f_0 51) (n_0 48) v_x)) 52 (upA (f_0 52) (n_0 48) zz23_)) 53 (upA (f_0 53) (n_0 48) (n_0 1))) 54 (upA (f_0 54) (n_0 48) 0)) gr  r_gr (show (n_0 2) ≤ 24 from by omega)) rfl mt_X10_isLiving ml_X10_176 hK hw hA ⟨Nat.le_of_ble_eq_true rfl, Nat.le_of_ble_eq_true rfl⟩ (As := [.int (J gr)]) (rest := []) rfl rfl hl.1 (Nat.le_of_ble_eq_true rfl) 229 rfl dX10_suit_226 (fun zz74_ H locs rr74_ hq74_ hw => ?_)
                              have hh74_ : (zz74_ = 1 ∧ 0 ≤ gr ∧ gr < (n_0 2) ∧ (f_0 6 gr) = -1) ∨ (zz74_ = 0 ∧ ¬ (0 ≤ gr ∧ gr < (n_0 2) ∧ (f_0 6 gr) = -1)) := hq74_
                              clear hq74_
                              rcases hh74_ with ⟨ee74_, hh74_⟩ | ⟨ee74_, hh74_⟩
                              · subst ee74_
                                have kl_ := hh74_
                                clear hh74_
                                refine j_if_eq E 232 248 rfl (rr (by decide)) dX10_suit_229 (by decide) (fun cc75_ => absurd cc75_ (by decide)) (fun _ => ?_)
                                refine j_aload_n E 233 rfl dX10_suit_232 rfl (lv_at hl 0 rfl) ?_
                                refine j_iload_n E 234 rfl dX10_suit_233 rfl (lv_at hl 1 rfl) ?_
                                refine j_iload E 236 rfl dX10_suit_234 (lv_at hl 9 rfl) ?_
                                refine m_callp (po := fun z_0 => (z_0 = 1 ∧ (f_0 4 v_p) = (f_0 4 gr)) ∨ (z_0 = 0 ∧ ¬ (f_0 4 v_p) = (f_0 4 gr))) E (c_X10_isKin l D cy q (upN n_0 0 0) (upF (upF (upF (upF (upF (upF (upF (upF (upF f_0 45 y45_21) 46 y46_23) 47 y47_23) 49 (upA (f_0 49) (n_0 48) v_p)) 50 (upA (f_0 50) (n_0 48) v_r)) 51 (upA (f_0 51) (n_0 48) v_x)) 52 (upA (f_0 52) (n_0 48) zz23_)) 53 (upA (f_0 53) (n_0 48) (n_0 1))) 54 (upA (f_0 54) (n_0 48) 0)) v_p gr  r_v_p r_gr (show 0 ≤ v_p ∧ v_p < 24 from by omega) (show 0 ≤ gr ∧ gr < 24 from by omega)) rfl mt_X10_isKin ml_X10_334 hK hw hA ⟨Nat.le_of_ble_eq_true rfl, Nat.le_of_ble_eq_true rfl⟩ (As := [.int (J v_p), .int (J gr)]) (rest := []) rfl rfl hl.1 (Nat.le_of_ble_eq_true rfl) 239 rfl dX10_suit_236 (fun zz76_ H locs rr76_ hq76_ hw => ?_)
                                have hh76_ : (zz76_ = 1 ∧ (f_0 4 v_p) = (f_0 4 gr)) ∨ (zz76_ = 0 ∧ ¬ (f_0 4 v_p) = (f_0 4 gr)) := hq76_
                                clear hq76_
                                rcases hh76_ with ⟨ee76_, hh76_⟩ | ⟨ee76_, hh76_⟩
                                · subst ee76_
                                  have kk_ := hh76_
                                  clear hh76_
                                  refine j_if_eq E 242 248 rfl (rr (by decide)) dX10_suit_239 (by decide) (fun cc77_ => absurd cc77_ (by decide)) (fun _ => ?_)
                                  refine j_iload E 244 rfl dX10_suit_242 (lv_at hl 8 rfl) ?_
                                  refine j_iconst E 245 rfl dX10_suit_244 ?_
                                  refine j_iadd E 246 rfl dX10_suit_245 ?_
                                  refine j_istore E 248 rfl [(8, .int (J (gc + 1))), (0, .ref (q 0)), (1, .int (J v_p)), (2, .int (J v_r)), (3, .int (J v_x)), (4, .int (J v_harm)), (5, .int (J v_witnesses)), (6, .int (J v_deed)), (7, .int (J zz23_)), (9, .int (J gr))] dX10_suit_246 hl (by decide) rfl (fun ls hl => ?_)
                                  refine j_iinc E 251 rfl [(9, .int (J (gr + 1))), (8, .int (J (gc + 1))), (0, .ref (q 0)), (1, .int (J v_p)), (2, .int (J v_r)), (3, .int (J v_x)), (4, .int (J v_harm)), (5, .int (J v_witnesses)), (6, .int (J v_deed)), (7, .int (J zz23_))] dX10_suit_248 hl (kk := 9) rfl (by decide) rfl (fun ls hl => ?_)
                                  refine j_goto E 208 dX10_suit_251 (by decide) ?_
                                  exact ih208 (gc + 1) (gr + 1) H locs ls (rr (by omega)) (rr (by omega)) (⟨by omega, by first | exact nq_y iv208.2 (by omega) ⟨by omega, kl_, kk_⟩ | exact nq_n iv208.2 (by omega) (fun q_ => by first | exact q_.1 (by omega) | exact kn_ q_.2.1 | exact nk_ q_.2.2)⟩) (by omega) hw (lv_sub hl [2, 3, 4, 5, 6, 7, 8, 9, 1, 0] rfl)
                                · subst ee76_
                                  have nk_ := hh76_
                                  clear hh76_
                                  refine j_if_eq E 242 248 rfl (rr (by decide)) dX10_suit_239 (by decide) (fun _ => ?_) (fun cc78_ => absurd cc78_ (by decide))
                                  refine j_iinc E 251 rfl [(9, .int (J (gr + 1))), (0, .ref (q 0)), (1, .int (J v_p)), (2, .int (J v_r)), (3, .int (J v_x)), (4, .int (J v_harm)), (5, .int (J v_witnesses)), (6, .int (J v_deed)), (7, .int (J zz23_)), (8, .int (J gc))] dX10_suit_248 hl (kk := 9) rfl (by decide) rfl (fun ls hl => ?_)
                                  refine j_goto E 208 dX10_suit_251 (by decide) ?_
                                  exact ih208 gc (gr + 1) H locs ls r_gc (rr (by omega)) (⟨by omega, by first | exact nq_y iv208.2 (by omega) ⟨by omega, kl_, kk_⟩ | exact nq_n iv208.2 (by omega) (fun q_ => by first | exact q_.1 (by omega) | exact kn_ q_.2.1 | exact nk_ q_.2.2)⟩) (by omega) hw (lv_sub hl [1, 2, 3, 4, 5, 6, 7, 8, 9, 0] rfl)
                              · subst ee74_
                                have kn_ := hh74_
                                clear hh74_
                                refine j_if_eq E 232 248 rfl (rr (by decide)) dX10_suit_229 (by decide) (fun _ => ?_) (fun cc79_ => absurd cc79_ (by decide))
                                refine j_iinc E 251 rfl [(9, .int (J (gr + 1))), (0, .ref (q 0)), (1, .int (J v_p)), (2, .int (J v_r)), (3, .int (J v_x)), (4, .int (J v_harm)), (5, .int (J v_witnesses)), (6, .int (J v_deed)), (7, .int (J zz23_)), (8, .int (J gc))] dX10_suit_248 hl (kk := 9) rfl (by decide) rfl (fun ls hl => ?_)
                                refine j_goto E 208 dX10_suit_251 (by decide) ?_
                                exact ih208 gc (gr + 1) H locs ls r_gc (rr (by omega)) (⟨by omega, by first | exact nq_y iv208.2 (by omega) ⟨by omega, kl_, kk_⟩ | exact nq_n iv208.2 (by omega) (fun q_ => by first | exact q_.1 (by omega) | exact kn_ q_.2.1 | exact nk_ q_.2.2)⟩) (by omega) hw (lv_sub hl [1, 2, 3, 4, 5, 6, 7, 8, 9, 0] rfl)
                      exact L208_30 _ 0 0 H locs ls (rr (by decide)) (rr (by decide)) (⟨by omega, nq_0⟩) (mk_lt _) hw (lv_sub hl [3, 4, 5, 6, 7, 8, 9, 2, 1, 0] rfl)
                    · subst ee21_
                      have fn_ := hh21_
                      clear hh21_
                      refine j_if_ne E 122 124 rfl (rr (by decide)) dX10_suit_119 (by decide) (fun cc80_ => absurd cc80_ (by decide)) (fun _ => ?_)
                      refine j_iconst E 123 rfl dX10_suit_122 ?_
                      exact hret 123 ((-1)) (upN (upN n_0 0 0) 48 (n_0 48)) (upF (upF (upF (upF (upF (upF (upF (upF (upF (upF f_0 45 y45_21) 46 (f_0 46)) 47 (f_0 47)) 49 (f_0 49)) 50 (f_0 50)) 51 (f_0 51)) 52 (f_0 52)) 53 (f_0 53)) 54 (f_0 54)) 55 (f_0 55)) _ _ ls hw (rr (by decide)) ⟨0, (n_0 48), y45_21, (f_0 46), (f_0 47), (f_0 49), (f_0 50), (f_0 51), (f_0 52), (f_0 53), (f_0 54), (f_0 55), rfl, rfl, ⟨⟨i_now, i_persons, i_lines, i_wordings, i_taped, i_suits, i_spk, i_fam, i_str, i_said, i_book, i_wds, i_tok, i_cod, i_far, i_tap, i_qua, i_sil, i_stz, i_way⟩, Or.inl ⟨rfl, (fun q_ => by have a_ := q_.2.2; rw [← ag_] at a_; have b_ := fn_.1; omega), rfl, rfl, rfl, rfl, rfl, rfl, rfl, rfl⟩⟩⟩ dX10_suit_123
                  · subst ee18_
                    have kp_ := hh18_
                    clear hh18_
                    refine j_if_eq E 102 106 rfl (rr (by decide)) dX10_suit_99 (by decide) (fun _ => ?_) (fun cc81_ => absurd cc81_ (by decide))
                    refine j_iconst E 107 rfl dX10_suit_106 ?_
                    refine j_iload E 109 rfl dX10_suit_107 (lv_at hl 6 rfl) ?_
                    refine j_aload_n E 110 rfl dX10_suit_109 rfl (lv_at hl 0 rfl) ?_
                    refine m_ag_5 E hK hw 113 rfl dX10_suit_110 ?_
                    refine j_iload_n E 114 rfl dX10_suit_113 rfl (lv_at hl 2 rfl) ?_
                    refine m_ld_5 E hK hw (f_0 5 v_r) rfl (by omega) 115 rfl dX10_suit_114 (fun _ => ?_)
                    refine j_isub E 116 rfl dX10_suit_115 ?_
                    refine j_norm (fun zz82_ rr82_ ee82_ => ?_)
                    have ag_ : zz82_ = w32_ (v_deed - (f_0 5 v_r)) := w32_of rr82_ ee82_
                    refine m_calli E (c_X10_takesFacts l D cy q (upN n_0 0 0) (f_0) v_harm v_witnesses ((n_0 1) - v_deed) 0 zz82_  r_v_harm r_v_witnesses (rr (by omega)) (rr (by decide)) rr82_ ) rfl mt_X10_takesFacts ml_X10_323 hK hw hA ⟨Nat.le_of_ble_eq_true rfl, Nat.le_of_ble_eq_true rfl⟩ (As := [.int (J v_harm), .int (J v_witnesses), .int (J ((n_0 1) - v_deed)), .int (J 0), .int (J zz82_)]) (rest := []) rfl rfl hl.1 (Nat.le_of_ble_eq_true rfl) 119 rfl dX10_suit_116 (fun zz83_ n_83 f_83 H locs rr83_ hq83_ hw => ?_)
                    obtain ⟨y45_83, en83_, ef83_, hq83_⟩ := hq83_
                    rw [en83_, ef83_] at hw; clear en83_ ef83_
                    have hw : WM D cy q (upN n_0 0 0) (upF f_0 45 y45_83) A0 H0 H locs := hw
                    have hh83_ : (zz83_ = 1 ∧ (0 ≤ v_harm ∧ v_harm ≤ 99 ∧ 0 ≤ v_witnesses ∧ v_witnesses ≤ 9 ∧ 0 ≤ ((n_0 1) - v_deed) ∧ ((n_0 1) - v_deed) ≤ 299 ∧ 0 ≤ (0 : Int) ∧ (0 : Int) ≤ 1 ∧ -99 ≤ zz82_ ∧ zz82_ ≤ 299) ∧ ∀ i, 0 ≤ i → i ≤ 4 → (y45_83 i) = fcf_ v_harm v_witnesses ((n_0 1) - v_deed) (0 : Int) zz82_ i) ∨ (zz83_ = 0 ∧ ¬ (0 ≤ v_harm ∧ v_harm ≤ 99 ∧ 0 ≤ v_witnesses ∧ v_witnesses ≤ 9 ∧ 0 ≤ ((n_0 1) - v_deed) ∧ ((n_0 1) - v_deed) ≤ 299 ∧ 0 ≤ (0 : Int) ∧ (0 : Int) ≤ 1 ∧ -99 ≤ zz82_ ∧ zz82_ ≤ 299) ∧ (y45_83) = (f_0 45)) := hq83_
                    clear hq83_
                    rcases hh83_ with ⟨ee83_, hh83_⟩ | ⟨ee83_, hh83_⟩
                    · subst ee83_
                      have fa_ := hh83_
                      clear hh83_
                      refine j_if_ne E 122 124 rfl (rr (by decide)) dX10_suit_119 (by decide) (fun _ => ?_) (fun cc84_ => absurd cc84_ (by decide))
                      refine j_aload_n E 125 rfl dX10_suit_124 rfl (lv_at hl 0 rfl) ?_
                      refine j_iload_n E 126 rfl dX10_suit_125 rfl (lv_at hl 3 rfl) ?_
                      refine j_aload_n E 127 rfl dX10_suit_126 rfl (lv_at hl 0 rfl) ?_
                      refine m_get_1 E hK hw (n_0 1) rfl 130 rfl dX10_suit_127 (fun _ => ?_)
                      refine j_iconst E 131 rfl dX10_suit_130 ?_
                      refine j_isub E 132 rfl dX10_suit_131 ?_
                      refine j_iconst E 133 rfl dX10_suit_132 ?_
                      refine m_calli E (c_X10_owedBy l D cy q (upN n_0 0 0) (upF f_0 45 y45_83) v_x ((n_0 1) - 1) 0 S1_ S2_ S3_ r_v_x (rr (by omega)) (rr (by decide)) (show 0 ≤ v_x ∧ v_x < (n_0 12) from by omega) (show ((n_0 1) - 1) < 200 from by omega) (show 0 ≤ (n_0 29) ∧ (n_0 29) ≤ 32 from by omega) (show 0 ≤ (n_0 12) ∧ (n_0 12) ≤ 24 from by omega) (show Said_ (f_0 18) (n_0 12) (n_0 29) from i_said) (show Book_ (f_0 67) (n_0 12) (n_0 29) from i_book) (show Cod_ (f_0 32) (f_0 33) (f_0 34) (f_0 35) (f_0 36) (n_0 29) from i_cod) (show ∀ w_, 0 ≤ w_ → w_ < (n_0 29) → (cL_ (f_0 32) (f_0 33) (400 * w_ + 0) (400 * w_ + (f_0 34 w_)) = (S1_ w_) ∧ cL_ (f_0 32) (f_0 33) (400 * w_ + (f_0 34 w_)) (400 * w_ + (f_0 35 w_)) = (S2_ w_) ∧ cL_ (f_0 32) (f_0 33) (400 * w_ + (f_0 35 w_)) (400 * w_ + (f_0 36 w_)) = (S3_ w_) ∧ TyN_ (S1_ w_) ∧ TyB_ (S2_ w_) ∧ TyB_ (S3_ w_)) from hp1)) rfl mt_X10_owedBy ml_X10_327 hK hw hA ⟨Nat.le_of_ble_eq_true rfl, Nat.le_of_ble_eq_true rfl⟩ (As := [.int (J v_x), .int (J ((n_0 1) - 1)), .int (J 0)]) (rest := []) rfl rfl hl.1 (Nat.le_of_ble_eq_true rfl) 136 rfl dX10_suit_133 (fun zz85_ n_85 f_85 H locs rr85_ hq85_ hw => ?_)
                      obtain ⟨y46_85, y47_85, en85_, ef85_, hq85_⟩ := hq85_
                      rw [en85_, ef85_] at hw; clear en85_ ef85_
                      have hw : WM D cy q (upN n_0 0 0) (upF (upF (upF f_0 45 y45_83) 46 y46_85) 47 y47_85) A0 H0 H locs := hw
                      have hh85_ : (∀ y_, 0 ≤ y_ → y_ ≤ v_x → ∃ w_, ((¬ (0 : Int) = 0 ∧ w_ = (f_0 67 y_)) ∨ ((0 : Int) = 0 ∧ Lw_ ((f_0 16 y_)) (fun t_ => (f_0 18 (200 * y_ + t_))) ((n_0 1) - 1) w_)) ∧ -1 ≤ w_ ∧ (y46_85 y_) = ow1_ (y45_83) (y46_85) y_ w_ (S1_ w_) (S2_ w_) (S3_ w_)) ∧ zz85_ = (y46_85 v_x) := hq85_
                      clear hq85_
                      have ob_ := hh85_
                      clear hh85_
                      refine j_istore E 138 rfl [(7, .int (J zz85_)), (0, .ref (q 0)), (1, .int (J v_p)), (2, .int (J v_r)), (3, .int (J v_x)), (4, .int (J v_harm)), (5, .int (J v_witnesses)), (6, .int (J v_deed))] dX10_suit_136 hl (by decide) rfl (fun ls hl => ?_)
                      refine j_aload_n E 139 rfl dX10_suit_138 rfl (lv_at hl 1 rfl) ?_
                      refine m_ag_49 E hK hw 142 rfl dX10_suit_139 ?_
                      refine j_aload_n E 143 rfl dX10_suit_142 rfl (lv_at hl 1 rfl) ?_
                      refine m_get_48 E hK hw (n_0 48) rfl 146 rfl dX10_suit_143 (fun _ => ?_)
                      refine j_iload_n E 147 rfl dX10_suit_146 rfl (lv_at hl 2 rfl) ?_
                      refine m_st_49 E hK hw (by omega) r_v_p 148 rfl dX10_suit_147 (fun H locs hw => ?_)
                      have hw : WM D cy q (upN n_0 0 0) (upF (upF (upF (upF f_0 45 y45_83) 46 y46_85) 47 y47_85) 49 (upA (f_0 49) (n_0 48) v_p)) A0 H0 H locs := hw
                      refine j_aload_n E 149 rfl dX10_suit_148 rfl (lv_at hl 1 rfl) ?_
                      refine m_ag_50 E hK hw 152 rfl dX10_suit_149 ?_
                      refine j_aload_n E 153 rfl dX10_suit_152 rfl (lv_at hl 1 rfl) ?_
                      refine m_get_48 E hK hw (n_0 48) rfl 156 rfl dX10_suit_153 (fun _ => ?_)
                      refine j_iload_n E 157 rfl dX10_suit_156 rfl (lv_at hl 3 rfl) ?_
                      refine m_st_50 E hK hw (by omega) r_v_r 158 rfl dX10_suit_157 (fun H locs hw => ?_)
                      have hw : WM D cy q (upN n_0 0 0) (upF (upF (upF (upF (upF f_0 45 y45_83) 46 y46_85) 47 y47_85) 49 (upA (f_0 49) (n_0 48) v_p)) 50 (upA (f_0 50) (n_0 48) v_r)) A0 H0 H locs := hw
                      refine j_aload_n E 159 rfl dX10_suit_158 rfl (lv_at hl 1 rfl) ?_
                      refine m_ag_51 E hK hw 162 rfl dX10_suit_159 ?_
                      refine j_aload_n E 163 rfl dX10_suit_162 rfl (lv_at hl 1 rfl) ?_
                      refine m_get_48 E hK hw (n_0 48) rfl 166 rfl dX10_suit_163 (fun _ => ?_)
                      refine j_iload_n E 167 rfl dX10_suit_166 rfl (lv_at hl 4 rfl) ?_
                      refine m_st_51 E hK hw (by omega) r_v_x 168 rfl dX10_suit_167 (fun H locs hw => ?_)
                      have hw : WM D cy q (upN n_0 0 0) (upF (upF (upF (upF (upF (upF f_0 45 y45_83) 46 y46_85) 47 y47_85) 49 (upA (f_0 49) (n_0 48) v_p)) 50 (upA (f_0 50) (n_0 48) v_r)) 51 (upA (f_0 51) (n_0 48) v_x)) A0 H0 H locs := hw
                      refine j_aload_n E 169 rfl dX10_suit_168 rfl (lv_at hl 1 rfl) ?_
                      refine m_ag_52 E hK hw 172 rfl dX10_suit_169 ?_
                      refine j_aload_n E 173 rfl dX10_suit_172 rfl (lv_at hl 1 rfl) ?_
                      refine m_get_48 E hK hw (n_0 48) rfl 176 rfl dX10_suit_173 (fun _ => ?_)
                      refine j_iload E 178 rfl dX10_suit_176 (lv_at hl 0 rfl) ?_
                      refine m_st_52 E hK hw (by omega) rr85_ 179 rfl dX10_suit_178 (fun H locs hw => ?_)
                      have hw : WM D cy q (upN n_0 0 0) (upF (upF (upF (upF (upF (upF (upF f_0 45 y45_83) 46 y46_85) 47 y47_85) 49 (upA (f_0 49) (n_0 48) v_p)) 50 (upA (f_0 50) (n_0 48) v_r)) 51 (upA (f_0 51) (n_0 48) v_x)) 52 (upA (f_0 52) (n_0 48) zz85_)) A0 H0 H locs := hw
                      refine j_aload_n E 180 rfl dX10_suit_179 rfl (lv_at hl 1 rfl) ?_
                      refine m_ag_53 E hK hw 183 rfl dX10_suit_180 ?_
                      refine j_aload_n E 184 rfl dX10_suit_183 rfl (lv_at hl 1 rfl) ?_
                      refine m_get_48 E hK hw (n_0 48) rfl 187 rfl dX10_suit_184 (fun _ => ?_)
                      refine j_aload_n E 188 rfl dX10_suit_187 rfl (lv_at hl 1 rfl) ?_
                      refine m_get_1 E hK hw (n_0 1) rfl 191 rfl dX10_suit_188 (fun _ => ?_)
                      refine m_st_53 E hK hw (by omega) rr9_ 192 rfl dX10_suit_191 (fun H locs hw => ?_)
                      have hw : WM D cy q (upN n_0 0 0) (upF (upF (upF (upF (upF (upF (upF (upF f_0 45 y45_83) 46 y46_85) 47 y47_85) 49 (upA (f_0 49) (n_0 48) v_p)) 50 (upA (f_0 50) (n_0 48) v_r)) 51 (upA (f_0 51) (n_0 48) v_x)) 52 (upA (f_0 52) (n_0 48) zz85_)) 53 (upA (f_0 53) (n_0 48) (n_0 1))) A0 H0 H locs := hw
                      refine j_aload_n E 193 rfl dX10_suit_192 rfl (lv_at hl 1 rfl) ?_
                      refine m_ag_54 E hK hw 196 rfl dX10_suit_193 ?_
                      refine j_aload_n E 197 rfl dX10_suit_196 rfl (lv_at hl 1 rfl) ?_
                      refine m_get_48 E hK hw (n_0 48) rfl 200 rfl dX10_suit_197 (fun _ => ?_)
                      refine j_iconst E 201 rfl dX10_suit_200 ?_
                      refine m_st_54 E hK hw (by omega) (rr (by decide)) (Or.inl rfl) 202 rfl dX10_suit_201 (fun H locs hw => ?_)
                      have hw : WM D cy q (upN n_0 0 0) (upF (upF (upF (upF (upF (upF (upF (upF (upF f_0 45 y45_83) 46 y46_85) 47 y47_85) 49 (upA (f_0 49) (n_0 48) v_p)) 50 (upA (f_0 50) (n_0 48) v_r)) 51 (upA (f_0 51) (n_0 48) v_x)) 52 (upA (f_0 52) (n_0 48) zz85_)) 53 (upA (f_0 53) (n_0 48) (n_0 1))) 54 (upA (f_0 54) (n_0 48) 0)) A0 H0 H locs := hw
                      refine j_iconst E 203 rfl dX10_suit_202 ?_
                      refine j_istore E 205 rfl [(8, .int (J 0)), (7, .int (J zz85_)), (0, .ref (q 0)), (1, .int (J v_p)), (2, .int (J v_r)), (3, .int (J v_x)), (4, .int (J v_harm)), (5, .int (J v_witnesses)), (6, .int (J v_deed))] dX10_suit_203 hl (by decide) rfl (fun ls hl => ?_)
                      refine j_iconst E 206 rfl dX10_suit_205 ?_
                      refine j_istore E 208 rfl [(9, .int (J 0)), (8, .int (J 0)), (7, .int (J zz85_)), (0, .ref (q 0)), (1, .int (J v_p)), (2, .int (J v_r)), (3, .int (J v_x)), (4, .int (J v_harm)), (5, .int (J v_witnesses)), (6, .int (J v_deed))] dX10_suit_206 hl (by decide) rfl (fun ls hl => ?_)
                      have L208_92 : ∀ (k208 : Nat) (gc gr : Int) (H : Heap) (locs : List Loc) (ls : Array Slot), inR gc → inR gr → ((0 ≤ gr ∧ gr ≤ 24 ∧ 0 ≤ gc ∧ gc ≤ gr ∧ (gr ≤ (n_0 2) ∨ gr = 0)) ∧ gc = nq_ (fun r_ => ¬ r_ = v_p ∧ (0 ≤ r_ ∧ r_ < (n_0 2) ∧ (f_0 6 r_) = -1) ∧ (f_0 4 v_p) = (f_0 4 r_)) (gr).toNat) → (24 - gr) < (k208 : Int) → WM D cy q (upN n_0 0 0) (upF (upF (upF (upF (upF (upF (upF (upF (upF f_0 45 y45_83) 46 y46_85) 47 y47_85) 49 (upA (f_0 49) (n_0 48) v_p)) 50 (upA (f_0 50) (n_0 48) v_r)) 51 (upA (f_0 51) (n_0 48) v_x)) 52 (upA (f_0 52) (n_0 48) zz85_)) 53 (upA (f_0 53) (n_0 48) (n_0 1))) 54 (upA (f_0 54) (n_0 48) 0)) A0 H0 H locs → lv_has ls 11 [(0, .ref (q 0)), (1, .int (J v_p)), (2, .int (J v_r)), (3, .int (J v_x)), (4, .int (J v_harm)), (5, .int (J v_witnesses)), (6, .int (J v_deed)), (7, .int (J zz85_)), (8, .int (J gc)), (9, .int (J gr))] → W p l e (rmd 4 0 0) s m ar below meth c H locs 0 0 QW (F0 m 208 ls []) := by
                        intro k208
                        induction k208 with
                        | zero =>
                          intro gc gr H locs ls r_gc r_gr iv208 ms208 hw hl
                          exfalso; omega
                        | succ k208 ih208 =>
                          intro gc gr H locs ls r_gc r_gr iv208 ms208 hw hl
                          refine j_iload E 210 rfl dX10_suit_208 (lv_at hl 9 rfl) ?_
                          refine j_aload_n E 211 rfl dX10_suit_210 rfl (lv_at hl 0 rfl) ?_
                          refine m_get_2 E hK hw (n_0 2) rfl 214 rfl dX10_suit_211 (fun rr94_ => ?_)
                          refine j_icmp_ge E 217 254 rfl r_gr rr94_ dX10_suit_214 (by decide) (fun cc95_ => ?_) (fun cc95_ => ?_)
                          · have co_ : gc = nq_ (fun r_ => ¬ r_ = v_p ∧ (0 ≤ r_ ∧ r_ < (n_0 2) ∧ (f_0 6 r_) = -1) ∧ (f_0 4 v_p) = (f_0 4 r_)) ((n_0 2)).toNat := by rw [show ((n_0 2)).toNat = (gr).toNat by omega]; exact iv208.2
                            refine j_iload E 256 rfl dX10_suit_254 (lv_at hl 8 rfl) ?_
                            refine j_if_ne E 259 263 rfl r_gc dX10_suit_256 (by decide) (fun cc96_ => ?_) (fun cc96_ => ?_)
                            · refine j_iload E 265 rfl dX10_suit_263 (lv_at hl 7 rfl) ?_
                              refine j_iconst E 266 rfl dX10_suit_265 ?_
                              refine j_idiv E 267 rfl dX10_suit_266 (by decide +kernel) (fun zz97_ rr97_ ee97_ => ?_)
                              have e1_ := ee97_
                              have r1_ := rr97_
                              refine j_iload E 269 rfl dX10_suit_267 (lv_at hl 8 rfl) ?_
                              refine j_idiv E 270 rfl dX10_suit_269 (fun h => absurd ((J_inj r_gc inR0).mp (h.trans J_0.symm)) (by omega)) (fun zz98_ rr98_ ee98_ => ?_)
                              have e2_ := ee98_
                              have r2_ := rr98_
                              refine j_istore E 272 rfl [(9, .int (J zz98_)), (0, .ref (q 0)), (1, .int (J v_p)), (2, .int (J v_r)), (3, .int (J v_x)), (4, .int (J v_harm)), (5, .int (J v_witnesses)), (6, .int (J v_deed)), (7, .int (J zz85_)), (8, .int (J gc))] dX10_suit_270 hl (by decide) rfl (fun ls hl => ?_)
                              refine j_iconst E 273 rfl dX10_suit_272 ?_
                              refine j_istore E 275 rfl [(10, .int (J 0)), (9, .int (J zz98_)), (0, .ref (q 0)), (1, .int (J v_p)), (2, .int (J v_r)), (3, .int (J v_x)), (4, .int (J v_harm)), (5, .int (J v_witnesses)), (6, .int (J v_deed)), (7, .int (J zz85_)), (8, .int (J gc))] dX10_suit_273 hl (by decide) rfl (fun ls hl => ?_)
                              have L275_99 : ∀ (k275 : Nat) (gq ge : Int) (y55_c275 : Int → Int) (H : Heap) (locs : List Loc) (ls : Array Slot), inR gq → inR ge → ((0 ≤ gq ∧ gq ≤ 24) ∧ ge = ea_ zz85_ gc ∧ (∀ j_, j_ < 24 * (n_0 48) → (y55_c275 j_) = (f_0 55 j_)) ∧ ∀ r_, 0 ≤ r_ → r_ < gq → Pv_ ge (fun r_ => ¬ r_ = v_p ∧ (0 ≤ r_ ∧ r_ < (n_0 2) ∧ (f_0 6 r_) = -1) ∧ (f_0 4 v_p) = (f_0 4 r_)) r_ ((y55_c275 (24 * (n_0 48) + r_)))) → (24 - gq) < (k275 : Int) → WM D cy q (upN n_0 0 0) (upF (upF (upF (upF (upF (upF (upF (upF (upF (upF f_0 45 y45_83) 46 y46_85) 47 y47_85) 49 (upA (f_0 49) (n_0 48) v_p)) 50 (upA (f_0 50) (n_0 48) v_r)) 51 (upA (f_0 51) (n_0 48) v_x)) 52 (upA (f_0 52) (n_0 48) zz85_)) 53 (upA (f_0 53) (n_0 48) (n_0 1))) 54 (upA (f_0 54) (n_0 48) 0)) 55 y55_c275) A0 H0 H locs → lv_has ls 11 [(0, .ref (q 0)), (1, .int (J v_p)), (2, .int (J v_r)), (3, .int (J v_x)), (4, .int (J v_harm)), (5, .int (J v_witnesses)), (6, .int (J v_deed)), (7, .int (J zz85_)), (8, .int (J gc)), (9, .int (J ge)), (10, .int (J gq))] → W p l e (rmd 4 0 0) s m ar below meth c H locs 0 0 QW (F0 m 275 ls []) := by
                                intro k275
                                induction k275 with
                                | zero =>
                                  intro gq ge y55_c275 H locs ls r_gq r_ge iv275 ms275 hw hl
                                  exfalso; omega
                                | succ k275 ih275 =>
                                  intro gq ge y55_c275 H locs ls r_gq r_ge iv275 ms275 hw hl
                                  refine j_iload E 277 rfl dX10_suit_275 (lv_at hl 10 rfl) ?_
                                  refine j_bipush E 279 rfl dX10_suit_277 (by decide) ?_
                                  refine j_icmp_ge E 282 334 rfl r_gq (rr (by decide)) dX10_suit_279 (by decide) (fun cc101_ => ?_) (fun cc101_ => ?_)
                                  · refine j_aload_n E 335 rfl dX10_suit_334 rfl (lv_at hl 0 rfl) ?_
                                    refine m_ag_55 E hK hw 338 rfl dX10_suit_335 ?_
                                    refine j_bipush E 340 rfl dX10_suit_338 (by decide) ?_
                                    refine j_aload_n E 341 rfl dX10_suit_340 rfl (lv_at hl 0 rfl) ?_
                                    refine m_get_48 E hK hw (n_0 48) rfl 344 rfl dX10_suit_341 (fun _ => ?_)
                                    refine j_imul E 345 rfl dX10_suit_344 ?_
                                    refine j_iload_n E 346 rfl dX10_suit_345 rfl (lv_at hl 1 rfl) ?_
                                    refine j_iadd E 347 rfl dX10_suit_346 ?_
                                    refine j_iload E 349 rfl dX10_suit_347 (lv_at hl 7 rfl) ?_
                                    refine j_iload E 351 rfl dX10_suit_349 (lv_at hl 9 rfl) ?_
                                    refine j_iload E 353 rfl dX10_suit_351 (lv_at hl 8 rfl) ?_
                                    refine j_imul E 354 rfl dX10_suit_353 ?_
                                    refine j_isub E 355 rfl dX10_suit_354 ?_
                                    refine j_norm (fun zz102_ rr102_ ee102_ => ?_)
                                    have pv_ : zz102_ = w32_ (zz85_ - ge * gc) := w32_of rr102_ ee102_
                                    refine m_st_55 E hK hw (by omega) rr102_ 356 rfl dX10_suit_355 (fun H locs hw => ?_)
                                    have hw : WM D cy q (upN n_0 0 0) (upF (upF (upF (upF (upF (upF (upF (upF (upF (upF f_0 45 y45_83) 46 y46_85) 47 y47_85) 49 (upA (f_0 49) (n_0 48) v_p)) 50 (upA (f_0 50) (n_0 48) v_r)) 51 (upA (f_0 51) (n_0 48) v_x)) 52 (upA (f_0 52) (n_0 48) zz85_)) 53 (upA (f_0 53) (n_0 48) (n_0 1))) 54 (upA (f_0 54) (n_0 48) 0)) 55 (upA (y55_c275) ((24 * (n_0 48)) + v_p) zz102_)) A0 H0 H locs := hw
                                    refine j_aload_n E 357 rfl dX10_suit_356 rfl (lv_at hl 0 rfl) ?_
                                    refine j_aload_n E 358 rfl dX10_suit_357 rfl (lv_at hl 0 rfl) ?_
                                    refine m_get_48 E hK hw (n_0 48) rfl 361 rfl dX10_suit_358 (fun _ => ?_)
                                    refine j_iconst E 362 rfl dX10_suit_361 ?_
                                    refine j_iadd E 363 rfl dX10_suit_362 ?_
                                    refine m_put_48 E hK hw (rr (by omega)) 366 rfl dX10_suit_363 (fun H locs hw => ?_)
                                    have hw : WM D cy q (upN (upN n_0 0 0) 48 ((n_0 48) + 1)) (upF (upF (upF (upF (upF (upF (upF (upF (upF (upF f_0 45 y45_83) 46 y46_85) 47 y47_85) 49 (upA (f_0 49) (n_0 48) v_p)) 50 (upA (f_0 50) (n_0 48) v_r)) 51 (upA (f_0 51) (n_0 48) v_x)) 52 (upA (f_0 52) (n_0 48) zz85_)) 53 (upA (f_0 53) (n_0 48) (n_0 1))) 54 (upA (f_0 54) (n_0 48) 0)) 55 (upA (y55_c275) ((24 * (n_0 48)) + v_p) zz102_)) A0 H0 H locs := hw
                                    refine j_aload_n E 367 rfl dX10_suit_366 rfl (lv_at hl 0 rfl) ?_
                                    refine m_get_48 E hK hw ((n_0 48) + 1) rfl 370 rfl dX10_suit_367 (fun rr105_ => ?_)
                                    refine j_iconst E 371 rfl dX10_suit_370 ?_
                                    refine j_isub E 372 rfl dX10_suit_371 ?_
                                    exact hret 372 (((n_0 48) + 1) - 1) (upN (upN n_0 0 0) 48 ((n_0 48) + 1)) (upF (upF (upF (upF (upF (upF (upF (upF (upF (upF f_0 45 y45_83) 46 y46_85) 47 y47_85) 49 (upA (f_0 49) (n_0 48) v_p)) 50 (upA (f_0 50) (n_0 48) v_r)) 51 (upA (f_0 51) (n_0 48) v_x)) 52 (upA (f_0 52) (n_0 48) zz85_)) 53 (upA (f_0 53) (n_0 48) (n_0 1))) 54 (upA (f_0 54) (n_0 48) 0)) 55 (upA (y55_c275) ((24 * (n_0 48)) + v_p) zz102_)) _ _ ls hw (rr (by omega)) ⟨0, ((n_0 48) + 1), y45_83, y46_85, y47_85, (upA (f_0 49) (n_0 48) v_p), (upA (f_0 50) (n_0 48) v_r), (upA (f_0 51) (n_0 48) v_x), (upA (f_0 52) (n_0 48) zz85_), (upA (f_0 53) (n_0 48) (n_0 1)), (upA (f_0 54) (n_0 48) 0), (upA (y55_c275) ((24 * (n_0 48)) + v_p) zz102_), rfl, rfl, ⟨⟨i_now, i_persons, i_lines, i_wordings, i_taped, (show 0 ≤ ((n_0 48) + 1) ∧ ((n_0 48) + 1) ≤ 100 from by omega), i_spk, i_fam, i_str, i_said, i_book, i_wds, i_tok, i_cod, i_far, i_tap, i_qua, i_sil, i_stz, i_way⟩, Or.inr ⟨by omega, ⟨lp_, lr_, by omega, by omega, by omega, by omega, by omega, by omega, by omega, by omega, by rw [← ag_]; omega, by rw [← ag_]; omega⟩, rfl, rfl, rfl, rfl, rfl, rfl, zz85_, rfl, (by first | exact ⟨1, _, Or.inl ⟨rfl, kp_⟩, ob_.2, fun y_ h1_ h2_ => by obtain ⟨w_, a_, b_, c_⟩ := ob_.1 y_ h1_ h2_; exact ⟨w_, a_.elim (fun q_ => absurd rfl q_.1) (fun q_ => q_.2), b_, by rw [ow1_cF fa_.2, ag_] at c_; exact c_⟩⟩ | exact ⟨0, _, Or.inr ⟨rfl, kp_⟩, ob_.2, fun y_ h1_ h2_ => by obtain ⟨w_, a_, b_, c_⟩ := ob_.1 y_ h1_ h2_; exact ⟨w_, a_.elim (fun q_ => absurd rfl q_.1) (fun q_ => q_.2), b_, by rw [ow1_cF fa_.2, ag_] at c_; exact c_⟩⟩), fun j_ h_ => (upA_ne (by omega)).trans (iv275.2.2.1 j_ h_), fun r_ h1_ h2_ => by by_cases e_ : r_ = v_p; (rw [e_, upA_same]; exact Ptq_p co_ iv275.2.1 pv_); (rw [upA_ne (by omega)]; exact Ptq_o e_ (iv275.2.1.trans (by rw [co_])) (iv275.2.2.2 r_ h1_ (by omega)))⟩⟩⟩ dX10_suit_372
                                  · refine j_aload_n E 283 rfl dX10_suit_282 rfl (lv_at hl 0 rfl) ?_
                                    refine m_ag_55 E hK hw 286 rfl dX10_suit_283 ?_
                                    refine j_bipush E 288 rfl dX10_suit_286 (by decide) ?_
                                    refine j_aload_n E 289 rfl dX10_suit_288 rfl (lv_at hl 0 rfl) ?_
                                    refine m_get_48 E hK hw (n_0 48) rfl 292 rfl dX10_suit_289 (fun _ => ?_)
                                    refine j_imul E 293 rfl dX10_suit_292 ?_
                                    refine j_iload E 295 rfl dX10_suit_293 (lv_at hl 10 rfl) ?_
                                    refine j_iadd E 296 rfl dX10_suit_295 ?_
                                    refine j_iload E 298 rfl dX10_suit_296 (lv_at hl 10 rfl) ?_
                                    refine j_iload_n E 299 rfl dX10_suit_298 rfl (lv_at hl 1 rfl) ?_
                                    refine j_icmp_eq E 302 326 rfl r_gq r_v_p dX10_suit_299 (by decide) (fun cc106_ => ?_) (fun cc106_ => ?_)
                                    · refine j_iconst E 327 rfl dX10_suit_326 ?_
                                      refine m_st_55 E hK hw (by omega) (rr (by decide)) 328 rfl dX10_suit_327 (fun H locs hw => ?_)
                                      have hw : WM D cy q (upN n_0 0 0) (upF (upF (upF (upF (upF (upF (upF (upF (upF (upF f_0 45 y45_83) 46 y46_85) 47 y47_85) 49 (upA (f_0 49) (n_0 48) v_p)) 50 (upA (f_0 50) (n_0 48) v_r)) 51 (upA (f_0 51) (n_0 48) v_x)) 52 (upA (f_0 52) (n_0 48) zz85_)) 53 (upA (f_0 53) (n_0 48) (n_0 1))) 54 (upA (f_0 54) (n_0 48) 0)) 55 (upA (y55_c275) ((24 * (n_0 48)) + gq) 0)) A0 H0 H locs := hw
                                      refine j_iinc E 331 rfl [(10, .int (J (gq + 1))), (0, .ref (q 0)), (1, .int (J v_p)), (2, .int (J v_r)), (3, .int (J v_x)), (4, .int (J v_harm)), (5, .int (J v_witnesses)), (6, .int (J v_deed)), (7, .int (J zz85_)), (8, .int (J gc)), (9, .int (J ge))] dX10_suit_328 hl (kk := 10) rfl (by decide) rfl (fun ls hl => ?_)
                                      refine j_goto E 275 dX10_suit_331 (by decide) ?_
                                      exact ih275 (gq + 1) ge (upA (y55_c275) ((24 * (n_0 48)) + gq) 0) H locs ls (rr (by omega)) r_ge (⟨by omega, iv275.2.1, fun j_ h_ => (upA_ne (by omega)).trans (iv275.2.2.1 j_ h_), fun r_ h1_ h2_ => by by_cases e_ : r_ = gq; (rw [e_, upA_same]; first | exact Or.inl ⟨⟨by omega, kl_, kk_⟩, rfl⟩ | exact Or.inr ⟨fun q_ => by first | exact q_.1 (by omega) | exact kn_ q_.2.1 | exact nk_ q_.2.2, rfl⟩); (rw [upA_ne (by omega)]; exact iv275.2.2.2 r_ h1_ (by omega))⟩) (by omega) hw (lv_sub hl [1, 2, 3, 4, 5, 6, 7, 8, 9, 10, 0] rfl)
                                    · refine j_aload_n E 303 rfl dX10_suit_302 rfl (lv_at hl 0 rfl) ?_
                                      refine j_iload E 305 rfl dX10_suit_303 (lv_at hl 10 rfl) ?_
                                      refine m_callp (po := fun z_0 => (z_0 = 1 ∧ 0 ≤ gq ∧ gq < (n_0 2) ∧ (f_0 6 gq) = -1) ∨ (z_0 = 0 ∧ ¬ (0 ≤ gq ∧ gq < (n_0 2) ∧ (f_0 6 gq) = -1))) E (c_X10_isLiving l D cy q (upN n_0 0 0) (upF (upF (upF (upF (upF (upF (upF (upF (upF (upF f_0 45 y45_83) 46 y46_85) 47 y47_85) 49 (upA (f_0 49) (n_0 48) v_p)) 50 (upA (f_0 50) (n_0 48) v_r)) 51 (upA (f_0 51) (n_0 48) v_x)) 52 (upA (f_0 52) (n_0 48) zz85_)) 53 (upA (f_0 53) (n_0 48) (n_0 1))) 54 (upA (f_0 54) (n_0 48) 0)) 55 y55_c275) gq  r_gq (show (n_0 2) ≤ 24 from by omega)) rfl mt_X10_isLiving ml_X10_176 hK hw hA ⟨Nat.le_of_ble_eq_true rfl, Nat.le_of_ble_eq_true rfl⟩ (As := [.int (J gq)]) (rest := [.int (J ((24 * (n_0 48)) + gq)), .ref (q 55)]) rfl rfl hl.1 (Nat.le_of_ble_eq_true rfl) 308 rfl dX10_suit_305 (fun zz108_ H locs rr108_ hq108_ hw => ?_)
                                      have hh108_ : (zz108_ = 1 ∧ 0 ≤ gq ∧ gq < (n_0 2) ∧ (f_0 6 gq) = -1) ∨ (zz108_ = 0 ∧ ¬ (0 ≤ gq ∧ gq < (n_0 2) ∧ (f_0 6 gq) = -1)) := hq108_
                                      clear hq108_
                                      rcases hh108_ with ⟨ee108_, hh108_⟩ | ⟨ee108_, hh108_⟩
                                      · subst ee108_
                                        have kl_ := hh108_
                                        clear hh108_
                                        refine j_if_eq E 311 326 rfl (rr (by decide)) dX10_suit_308 (by decide) (fun cc109_ => absurd cc109_ (by decide)) (fun _ => ?_)
                                        refine j_aload_n E 312 rfl dX10_suit_311 rfl (lv_at hl 0 rfl) ?_
                                        refine j_iload_n E 313 rfl dX10_suit_312 rfl (lv_at hl 1 rfl) ?_
                                        refine j_iload E 315 rfl dX10_suit_313 (lv_at hl 10 rfl) ?_
                                        refine m_callp (po := fun z_0 => (z_0 = 1 ∧ (f_0 4 v_p) = (f_0 4 gq)) ∨ (z_0 = 0 ∧ ¬ (f_0 4 v_p) = (f_0 4 gq))) E (c_X10_isKin l D cy q (upN n_0 0 0) (upF (upF (upF (upF (upF (upF (upF (upF (upF (upF f_0 45 y45_83) 46 y46_85) 47 y47_85) 49 (upA (f_0 49) (n_0 48) v_p)) 50 (upA (f_0 50) (n_0 48) v_r)) 51 (upA (f_0 51) (n_0 48) v_x)) 52 (upA (f_0 52) (n_0 48) zz85_)) 53 (upA (f_0 53) (n_0 48) (n_0 1))) 54 (upA (f_0 54) (n_0 48) 0)) 55 y55_c275) v_p gq  r_v_p r_gq (show 0 ≤ v_p ∧ v_p < 24 from by omega) (show 0 ≤ gq ∧ gq < 24 from by omega)) rfl mt_X10_isKin ml_X10_334 hK hw hA ⟨Nat.le_of_ble_eq_true rfl, Nat.le_of_ble_eq_true rfl⟩ (As := [.int (J v_p), .int (J gq)]) (rest := [.int (J ((24 * (n_0 48)) + gq)), .ref (q 55)]) rfl rfl hl.1 (Nat.le_of_ble_eq_true rfl) 318 rfl dX10_suit_315 (fun zz110_ H locs rr110_ hq110_ hw => ?_)
                                        have hh110_ : (zz110_ = 1 ∧ (f_0 4 v_p) = (f_0 4 gq)) ∨ (zz110_ = 0 ∧ ¬ (f_0 4 v_p) = (f_0 4 gq)) := hq110_
                                        clear hq110_
                                        rcases hh110_ with ⟨ee110_, hh110_⟩ | ⟨ee110_, hh110_⟩
                                        · subst ee110_
                                          have kk_ := hh110_
                                          clear hh110_
                                          refine j_if_eq E 321 326 rfl (rr (by decide)) dX10_suit_318 (by decide) (fun cc111_ => absurd cc111_ (by decide)) (fun _ => ?_)
                                          refine j_iload E 323 rfl dX10_suit_321 (lv_at hl 9 rfl) ?_
                                          refine j_goto E 327 dX10_suit_323 (by decide) ?_
                                          refine m_st_55 E hK hw (by omega) r_ge 328 rfl dX10_suit_327 (fun H locs hw => ?_)
                                          have hw : WM D cy q (upN n_0 0 0) (upF (upF (upF (upF (upF (upF (upF (upF (upF (upF f_0 45 y45_83) 46 y46_85) 47 y47_85) 49 (upA (f_0 49) (n_0 48) v_p)) 50 (upA (f_0 50) (n_0 48) v_r)) 51 (upA (f_0 51) (n_0 48) v_x)) 52 (upA (f_0 52) (n_0 48) zz85_)) 53 (upA (f_0 53) (n_0 48) (n_0 1))) 54 (upA (f_0 54) (n_0 48) 0)) 55 (upA (y55_c275) ((24 * (n_0 48)) + gq) ge)) A0 H0 H locs := hw
                                          refine j_iinc E 331 rfl [(10, .int (J (gq + 1))), (0, .ref (q 0)), (1, .int (J v_p)), (2, .int (J v_r)), (3, .int (J v_x)), (4, .int (J v_harm)), (5, .int (J v_witnesses)), (6, .int (J v_deed)), (7, .int (J zz85_)), (8, .int (J gc)), (9, .int (J ge))] dX10_suit_328 hl (kk := 10) rfl (by decide) rfl (fun ls hl => ?_)
                                          refine j_goto E 275 dX10_suit_331 (by decide) ?_
                                          exact ih275 (gq + 1) ge (upA (y55_c275) ((24 * (n_0 48)) + gq) ge) H locs ls (rr (by omega)) r_ge (⟨by omega, iv275.2.1, fun j_ h_ => (upA_ne (by omega)).trans (iv275.2.2.1 j_ h_), fun r_ h1_ h2_ => by by_cases e_ : r_ = gq; (rw [e_, upA_same]; first | exact Or.inl ⟨⟨by omega, kl_, kk_⟩, rfl⟩ | exact Or.inr ⟨fun q_ => by first | exact q_.1 (by omega) | exact kn_ q_.2.1 | exact nk_ q_.2.2, rfl⟩); (rw [upA_ne (by omega)]; exact iv275.2.2.2 r_ h1_ (by omega))⟩) (by omega) hw (lv_sub hl [1, 2, 3, 4, 5, 6, 7, 8, 9, 10, 0] rfl)
                                        · subst ee110_
                                          have nk_ := hh110_
                                          clear hh110_
                                          refine j_if_eq E 321 326 rfl (rr (by decide)) dX10_suit_318 (by decide) (fun _ => ?_) (fun cc113_ => absurd cc113_ (by decide))
                                          refine j_iconst E 327 rfl dX10_suit_326 ?_
                                          refine m_st_55 E hK hw (by omega) (rr (by decide)) 328 rfl dX10_suit_327 (fun H locs hw => ?_)
                                          have hw : WM D cy q (upN n_0 0 0) (upF (upF (upF (upF (upF (upF (upF (upF (upF (upF f_0 45 y45_83) 46 y46_85) 47 y47_85) 49 (upA (f_0 49) (n_0 48) v_p)) 50 (upA (f_0 50) (n_0 48) v_r)) 51 (upA (f_0 51) (n_0 48) v_x)) 52 (upA (f_0 52) (n_0 48) zz85_)) 53 (upA (f_0 53) (n_0 48) (n_0 1))) 54 (upA (f_0 54) (n_0 48) 0)) 55 (upA (y55_c275) ((24 * (n_0 48)) + gq) 0)) A0 H0 H locs := hw
                                          refine j_iinc E 331 rfl [(10, .int (J (gq + 1))), (0, .ref (q 0)), (1, .int (J v_p)), (2, .int (J v_r)), (3, .int (J v_x)), (4, .int (J v_harm)), (5, .int (J v_witnesses)), (6, .int (J v_deed)), (7, .int (J zz85_)), (8, .int (J gc)), (9, .int (J ge))] dX10_suit_328 hl (kk := 10) rfl (by decide) rfl (fun ls hl => ?_)
                                          refine j_goto E 275 dX10_suit_331 (by decide) ?_
                                          exact ih275 (gq + 1) ge (upA (y55_c275) ((24 * (n_0 48)) + gq) 0) H locs ls (rr (by omega)) r_ge (⟨by omega, iv275.2.1, fun j_ h_ => (upA_ne (by omega)).trans (iv275.2.2.1 j_ h_), fun r_ h1_ h2_ => by by_cases e_ : r_ = gq; (rw [e_, upA_same]; first | exact Or.inl ⟨⟨by omega, kl_, kk_⟩, rfl⟩ | exact Or.inr ⟨fun q_ => by first | exact q_.1 (by omega) | exact kn_ q_.2.1 | exact nk_ q_.2.2, rfl⟩); (rw [upA_ne (by omega)]; exact iv275.2.2.2 r_ h1_ (by omega))⟩) (by omega) hw (lv_sub hl [1, 2, 3, 4, 5, 6, 7, 8, 9, 10, 0] rfl)
                                      · subst ee108_
                                        have kn_ := hh108_
                                        clear hh108_
                                        refine j_if_eq E 311 326 rfl (rr (by decide)) dX10_suit_308 (by decide) (fun _ => ?_) (fun cc115_ => absurd cc115_ (by decide))
                                        refine j_iconst E 327 rfl dX10_suit_326 ?_
                                        refine m_st_55 E hK hw (by omega) (rr (by decide)) 328 rfl dX10_suit_327 (fun H locs hw => ?_)
                                        have hw : WM D cy q (upN n_0 0 0) (upF (upF (upF (upF (upF (upF (upF (upF (upF (upF f_0 45 y45_83) 46 y46_85) 47 y47_85) 49 (upA (f_0 49) (n_0 48) v_p)) 50 (upA (f_0 50) (n_0 48) v_r)) 51 (upA (f_0 51) (n_0 48) v_x)) 52 (upA (f_0 52) (n_0 48) zz85_)) 53 (upA (f_0 53) (n_0 48) (n_0 1))) 54 (upA (f_0 54) (n_0 48) 0)) 55 (upA (y55_c275) ((24 * (n_0 48)) + gq) 0)) A0 H0 H locs := hw
                                        refine j_iinc E 331 rfl [(10, .int (J (gq + 1))), (0, .ref (q 0)), (1, .int (J v_p)), (2, .int (J v_r)), (3, .int (J v_x)), (4, .int (J v_harm)), (5, .int (J v_witnesses)), (6, .int (J v_deed)), (7, .int (J zz85_)), (8, .int (J gc)), (9, .int (J ge))] dX10_suit_328 hl (kk := 10) rfl (by decide) rfl (fun ls hl => ?_)
                                        refine j_goto E 275 dX10_suit_331 (by decide) ?_
                                        exact ih275 (gq + 1) ge (upA (y55_c275) ((24 * (n_0 48)) + gq) 0) H locs ls (rr (by omega)) r_ge (⟨by omega, iv275.2.1, fun j_ h_ => (upA_ne (by omega)).trans (iv275.2.2.1 j_ h_), fun r_ h1_ h2_ => by by_cases e_ : r_ = gq; (rw [e_, upA_same]; first | exact Or.inl ⟨⟨by omega, kl_, kk_⟩, rfl⟩ | exact Or.inr ⟨fun q_ => by first | exact q_.1 (by omega) | exact kn_ q_.2.1 | exact nk_ q_.2.2, rfl⟩); (rw [upA_ne (by omega)]; exact iv275.2.2.2 r_ h1_ (by omega))⟩) (by omega) hw (lv_sub hl [1, 2, 3, 4, 5, 6, 7, 8, 9, 10, 0] rfl)
                              exact L275_99 _ 0 zz98_ (f_0 55) H locs ls (rr (by decide)) rr98_ (⟨by omega, by first | exact (ea_0 (by omega)).symm | exact ea_n (by omega) r1_ e1_ r2_ e2_, fun _ _ => rfl, fun r_ h1_ h2_ => absurd h2_ (by omega)⟩) (mk_lt _) hw (lv_sub hl [2, 3, 4, 5, 6, 7, 8, 9, 10, 1, 0] rfl)
                            · refine j_iconst E 260 rfl dX10_suit_259 ?_
                              refine j_goto E 270 dX10_suit_260 (by decide) ?_
                              refine j_istore E 272 rfl [(9, .int (J 0)), (0, .ref (q 0)), (1, .int (J v_p)), (2, .int (J v_r)), (3, .int (J v_x)), (4, .int (J v_harm)), (5, .int (J v_witnesses)), (6, .int (J v_deed)), (7, .int (J zz85_)), (8, .int (J gc))] dX10_suit_270 hl (by decide) rfl (fun ls hl => ?_)
                              refine j_iconst E 273 rfl dX10_suit_272 ?_
                              refine j_istore E 275 rfl [(10, .int (J 0)), (9, .int (J 0)), (0, .ref (q 0)), (1, .int (J v_p)), (2, .int (J v_r)), (3, .int (J v_x)), (4, .int (J v_harm)), (5, .int (J v_witnesses)), (6, .int (J v_deed)), (7, .int (J zz85_)), (8, .int (J gc))] dX10_suit_273 hl (by decide) rfl (fun ls hl => ?_)
                              have L275_117 : ∀ (k275 : Nat) (gq ge : Int) (y55_c275 : Int → Int) (H : Heap) (locs : List Loc) (ls : Array Slot), inR gq → inR ge → ((0 ≤ gq ∧ gq ≤ 24) ∧ ge = ea_ zz85_ gc ∧ (∀ j_, j_ < 24 * (n_0 48) → (y55_c275 j_) = (f_0 55 j_)) ∧ ∀ r_, 0 ≤ r_ → r_ < gq → Pv_ ge (fun r_ => ¬ r_ = v_p ∧ (0 ≤ r_ ∧ r_ < (n_0 2) ∧ (f_0 6 r_) = -1) ∧ (f_0 4 v_p) = (f_0 4 r_)) r_ ((y55_c275 (24 * (n_0 48) + r_)))) → (24 - gq) < (k275 : Int) → WM D cy q (upN n_0 0 0) (upF (upF (upF (upF (upF (upF (upF (upF (upF (upF f_0 45 y45_83) 46 y46_85) 47 y47_85) 49 (upA (f_0 49) (n_0 48) v_p)) 50 (upA (f_0 50) (n_0 48) v_r)) 51 (upA (f_0 51) (n_0 48) v_x)) 52 (upA (f_0 52) (n_0 48) zz85_)) 53 (upA (f_0 53) (n_0 48) (n_0 1))) 54 (upA (f_0 54) (n_0 48) 0)) 55 y55_c275) A0 H0 H locs → lv_has ls 11 [(0, .ref (q 0)), (1, .int (J v_p)), (2, .int (J v_r)), (3, .int (J v_x)), (4, .int (J v_harm)), (5, .int (J v_witnesses)), (6, .int (J v_deed)), (7, .int (J zz85_)), (8, .int (J gc)), (9, .int (J ge)), (10, .int (J gq))] → W p l e (rmd 4 0 0) s m ar below meth c H locs 0 0 QW (F0 m 275 ls []) := by
                                intro k275
                                induction k275 with
                                | zero =>
                                  intro gq ge y55_c275 H locs ls r_gq r_ge iv275 ms275 hw hl
                                  exfalso; omega
                                | succ k275 ih275 =>
                                  intro gq ge y55_c275 H locs ls r_gq r_ge iv275 ms275 hw hl
                                  refine j_iload E 277 rfl dX10_suit_275 (lv_at hl 10 rfl) ?_
                                  refine j_bipush E 279 rfl dX10_suit_277 (by decide) ?_
                                  refine j_icmp_ge E 282 334 rfl r_gq (rr (by decide)) dX10_suit_279 (by decide) (fun cc119_ => ?_) (fun cc119_ => ?_)
                                  · refine j_aload_n E 335 rfl dX10_suit_334 rfl (lv_at hl 0 rfl) ?_
                                    refine m_ag_55 E hK hw 338 rfl dX10_suit_335 ?_
                                    refine j_bipush E 340 rfl dX10_suit_338 (by decide) ?_
                                    refine j_aload_n E 341 rfl dX10_suit_340 rfl (lv_at hl 0 rfl) ?_
                                    refine m_get_48 E hK hw (n_0 48) rfl 344 rfl dX10_suit_341 (fun _ => ?_)
                                    refine j_imul E 345 rfl dX10_suit_344 ?_
                                    refine j_iload_n E 346 rfl dX10_suit_345 rfl (lv_at hl 1 rfl) ?_
                                    refine j_iadd E 347 rfl dX10_suit_346 ?_
                                    refine j_iload E 349 rfl dX10_suit_347 (lv_at hl 7 rfl) ?_
                                    refine j_iload E 351 rfl dX10_suit_349 (lv_at hl 9 rfl) ?_
                                    refine j_iload E 353 rfl dX10_suit_351 (lv_at hl 8 rfl) ?_
                                    refine j_imul E 354 rfl dX10_suit_353 ?_
                                    refine j_isub E 355 rfl dX10_suit_354 ?_
                                    refine j_norm (fun zz120_ rr120_ ee120_ => ?_)
                                    have pv_ : zz120_ = w32_ (zz85_ - ge * gc) := w32_of rr120_ ee120_
                                    refine m_st_55 E hK hw (by omega) rr120_ 356 rfl dX10_suit_355 (fun H locs hw => ?_)
                                    have hw : WM D cy q (upN n_0 0 0) (upF (upF (upF (upF (upF (upF (upF (upF (upF (upF f_0 45 y45_83) 46 y46_85) 47 y47_85) 49 (upA (f_0 49) (n_0 48) v_p)) 50 (upA (f_0 50) (n_0 48) v_r)) 51 (upA (f_0 51) (n_0 48) v_x)) 52 (upA (f_0 52) (n_0 48) zz85_)) 53 (upA (f_0 53) (n_0 48) (n_0 1))) 54 (upA (f_0 54) (n_0 48) 0)) 55 (upA (y55_c275) ((24 * (n_0 48)) + v_p) zz120_)) A0 H0 H locs := hw
                                    refine j_aload_n E 357 rfl dX10_suit_356 rfl (lv_at hl 0 rfl) ?_
                                    refine j_aload_n E 358 rfl dX10_suit_357 rfl (lv_at hl 0 rfl) ?_
                                    refine m_get_48 E hK hw (n_0 48) rfl 361 rfl dX10_suit_358 (fun _ => ?_)
                                    refine j_iconst E 362 rfl dX10_suit_361 ?_
                                    refine j_iadd E 363 rfl dX10_suit_362 ?_
                                    refine m_put_48 E hK hw (rr (by omega)) 366 rfl dX10_suit_363 (fun H locs hw => ?_)
                                    have hw : WM D cy q (upN (upN n_0 0 0) 48 ((n_0 48) + 1)) (upF (upF (upF (upF (upF (upF (upF (upF (upF (upF f_0 45 y45_83) 46 y46_85) 47 y47_85) 49 (upA (f_0 49) (n_0 48) v_p)) 50 (upA (f_0 50) (n_0 48) v_r)) 51 (upA (f_0 51) (n_0 48) v_x)) 52 (upA (f_0 52) (n_0 48) zz85_)) 53 (upA (f_0 53) (n_0 48) (n_0 1))) 54 (upA (f_0 54) (n_0 48) 0)) 55 (upA (y55_c275) ((24 * (n_0 48)) + v_p) zz120_)) A0 H0 H locs := hw
                                    refine j_aload_n E 367 rfl dX10_suit_366 rfl (lv_at hl 0 rfl) ?_
                                    refine m_get_48 E hK hw ((n_0 48) + 1) rfl 370 rfl dX10_suit_367 (fun rr123_ => ?_)
                                    refine j_iconst E 371 rfl dX10_suit_370 ?_
                                    refine j_isub E 372 rfl dX10_suit_371 ?_
                                    exact hret 372 (((n_0 48) + 1) - 1) (upN (upN n_0 0 0) 48 ((n_0 48) + 1)) (upF (upF (upF (upF (upF (upF (upF (upF (upF (upF f_0 45 y45_83) 46 y46_85) 47 y47_85) 49 (upA (f_0 49) (n_0 48) v_p)) 50 (upA (f_0 50) (n_0 48) v_r)) 51 (upA (f_0 51) (n_0 48) v_x)) 52 (upA (f_0 52) (n_0 48) zz85_)) 53 (upA (f_0 53) (n_0 48) (n_0 1))) 54 (upA (f_0 54) (n_0 48) 0)) 55 (upA (y55_c275) ((24 * (n_0 48)) + v_p) zz120_)) _ _ ls hw (rr (by omega)) ⟨0, ((n_0 48) + 1), y45_83, y46_85, y47_85, (upA (f_0 49) (n_0 48) v_p), (upA (f_0 50) (n_0 48) v_r), (upA (f_0 51) (n_0 48) v_x), (upA (f_0 52) (n_0 48) zz85_), (upA (f_0 53) (n_0 48) (n_0 1)), (upA (f_0 54) (n_0 48) 0), (upA (y55_c275) ((24 * (n_0 48)) + v_p) zz120_), rfl, rfl, ⟨⟨i_now, i_persons, i_lines, i_wordings, i_taped, (show 0 ≤ ((n_0 48) + 1) ∧ ((n_0 48) + 1) ≤ 100 from by omega), i_spk, i_fam, i_str, i_said, i_book, i_wds, i_tok, i_cod, i_far, i_tap, i_qua, i_sil, i_stz, i_way⟩, Or.inr ⟨by omega, ⟨lp_, lr_, by omega, by omega, by omega, by omega, by omega, by omega, by omega, by omega, by rw [← ag_]; omega, by rw [← ag_]; omega⟩, rfl, rfl, rfl, rfl, rfl, rfl, zz85_, rfl, (by first | exact ⟨1, _, Or.inl ⟨rfl, kp_⟩, ob_.2, fun y_ h1_ h2_ => by obtain ⟨w_, a_, b_, c_⟩ := ob_.1 y_ h1_ h2_; exact ⟨w_, a_.elim (fun q_ => absurd rfl q_.1) (fun q_ => q_.2), b_, by rw [ow1_cF fa_.2, ag_] at c_; exact c_⟩⟩ | exact ⟨0, _, Or.inr ⟨rfl, kp_⟩, ob_.2, fun y_ h1_ h2_ => by obtain ⟨w_, a_, b_, c_⟩ := ob_.1 y_ h1_ h2_; exact ⟨w_, a_.elim (fun q_ => absurd rfl q_.1) (fun q_ => q_.2), b_, by rw [ow1_cF fa_.2, ag_] at c_; exact c_⟩⟩), fun j_ h_ => (upA_ne (by omega)).trans (iv275.2.2.1 j_ h_), fun r_ h1_ h2_ => by by_cases e_ : r_ = v_p; (rw [e_, upA_same]; exact Ptq_p co_ iv275.2.1 pv_); (rw [upA_ne (by omega)]; exact Ptq_o e_ (iv275.2.1.trans (by rw [co_])) (iv275.2.2.2 r_ h1_ (by omega)))⟩⟩⟩ dX10_suit_372
                                  · refine j_aload_n E 283 rfl dX10_suit_282 rfl (lv_at hl 0 rfl) ?_
                                    refine m_ag_55 E hK hw 286 rfl dX10_suit_283 ?_
                                    refine j_bipush E 288 rfl dX10_suit_286 (by decide) ?_
                                    refine j_aload_n E 289 rfl dX10_suit_288 rfl (lv_at hl 0 rfl) ?_
                                    refine m_get_48 E hK hw (n_0 48) rfl 292 rfl dX10_suit_289 (fun _ => ?_)
                                    refine j_imul E 293 rfl dX10_suit_292 ?_
                                    refine j_iload E 295 rfl dX10_suit_293 (lv_at hl 10 rfl) ?_
                                    refine j_iadd E 296 rfl dX10_suit_295 ?_
                                    refine j_iload E 298 rfl dX10_suit_296 (lv_at hl 10 rfl) ?_
                                    refine j_iload_n E 299 rfl dX10_suit_298 rfl (lv_at hl 1 rfl) ?_
                                    refine j_icmp_eq E 302 326 rfl r_gq r_v_p dX10_suit_299 (by decide) (fun cc124_ => ?_) (fun cc124_ => ?_)
                                    · refine j_iconst E 327 rfl dX10_suit_326 ?_
                                      refine m_st_55 E hK hw (by omega) (rr (by decide)) 328 rfl dX10_suit_327 (fun H locs hw => ?_)
                                      have hw : WM D cy q (upN n_0 0 0) (upF (upF (upF (upF (upF (upF (upF (upF (upF (upF f_0 45 y45_83) 46 y46_85) 47 y47_85) 49 (upA (f_0 49) (n_0 48) v_p)) 50 (upA (f_0 50) (n_0 48) v_r)) 51 (upA (f_0 51) (n_0 48) v_x)) 52 (upA (f_0 52) (n_0 48) zz85_)) 53 (upA (f_0 53) (n_0 48) (n_0 1))) 54 (upA (f_0 54) (n_0 48) 0)) 55 (upA (y55_c275) ((24 * (n_0 48)) + gq) 0)) A0 H0 H locs := hw
                                      refine j_iinc E 331 rfl [(10, .int (J (gq + 1))), (0, .ref (q 0)), (1, .int (J v_p)), (2, .int (J v_r)), (3, .int (J v_x)), (4, .int (J v_harm)), (5, .int (J v_witnesses)), (6, .int (J v_deed)), (7, .int (J zz85_)), (8, .int (J gc)), (9, .int (J ge))] dX10_suit_328 hl (kk := 10) rfl (by decide) rfl (fun ls hl => ?_)
                                      refine j_goto E 275 dX10_suit_331 (by decide) ?_
                                      exact ih275 (gq + 1) ge (upA (y55_c275) ((24 * (n_0 48)) + gq) 0) H locs ls (rr (by omega)) r_ge (⟨by omega, iv275.2.1, fun j_ h_ => (upA_ne (by omega)).trans (iv275.2.2.1 j_ h_), fun r_ h1_ h2_ => by by_cases e_ : r_ = gq; (rw [e_, upA_same]; first | exact Or.inl ⟨⟨by omega, kl_, kk_⟩, rfl⟩ | exact Or.inr ⟨fun q_ => by first | exact q_.1 (by omega) | exact kn_ q_.2.1 | exact nk_ q_.2.2, rfl⟩); (rw [upA_ne (by omega)]; exact iv275.2.2.2 r_ h1_ (by omega))⟩) (by omega) hw (lv_sub hl [1, 2, 3, 4, 5, 6, 7, 8, 9, 10, 0] rfl)
                                    · refine j_aload_n E 303 rfl dX10_suit_302 rfl (lv_at hl 0 rfl) ?_
                                      refine j_iload E 305 rfl dX10_suit_303 (lv_at hl 10 rfl) ?_
                                      refine m_callp (po := fun z_0 => (z_0 = 1 ∧ 0 ≤ gq ∧ gq < (n_0 2) ∧ (f_0 6 gq) = -1) ∨ (z_0 = 0 ∧ ¬ (0 ≤ gq ∧ gq < (n_0 2) ∧ (f_0 6 gq) = -1))) E (c_X10_isLiving l D cy q (upN n_0 0 0) (upF (upF (upF (upF (upF (upF (upF (upF (upF (upF f_0 45 y45_83) 46 y46_85) 47 y47_85) 49 (upA (f_0 49) (n_0 48) v_p)) 50 (upA (f_0 50) (n_0 48) v_r)) 51 (upA (f_0 51) (n_0 48) v_x)) 52 (upA (f_0 52) (n_0 48) zz85_)) 53 (upA (f_0 53) (n_0 48) (n_0 1))) 54 (upA (f_0 54) (n_0 48) 0)) 55 y55_c275) gq  r_gq (show (n_0 2) ≤ 24 from by omega)) rfl mt_X10_isLiving ml_X10_176 hK hw hA ⟨Nat.le_of_ble_eq_true rfl, Nat.le_of_ble_eq_true rfl⟩ (As := [.int (J gq)]) (rest := [.int (J ((24 * (n_0 48)) + gq)), .ref (q 55)]) rfl rfl hl.1 (Nat.le_of_ble_eq_true rfl) 308 rfl dX10_suit_305 (fun zz126_ H locs rr126_ hq126_ hw => ?_)
                                      have hh126_ : (zz126_ = 1 ∧ 0 ≤ gq ∧ gq < (n_0 2) ∧ (f_0 6 gq) = -1) ∨ (zz126_ = 0 ∧ ¬ (0 ≤ gq ∧ gq < (n_0 2) ∧ (f_0 6 gq) = -1)) := hq126_
                                      clear hq126_
                                      rcases hh126_ with ⟨ee126_, hh126_⟩ | ⟨ee126_, hh126_⟩
                                      · subst ee126_
                                        have kl_ := hh126_
                                        clear hh126_
                                        refine j_if_eq E 311 326 rfl (rr (by decide)) dX10_suit_308 (by decide) (fun cc127_ => absurd cc127_ (by decide)) (fun _ => ?_)
                                        refine j_aload_n E 312 rfl dX10_suit_311 rfl (lv_at hl 0 rfl) ?_
                                        refine j_iload_n E 313 rfl dX10_suit_312 rfl (lv_at hl 1 rfl) ?_
                                        refine j_iload E 315 rfl dX10_suit_313 (lv_at hl 10 rfl) ?_
                                        refine m_callp (po := fun z_0 => (z_0 = 1 ∧ (f_0 4 v_p) = (f_0 4 gq)) ∨ (z_0 = 0 ∧ ¬ (f_0 4 v_p) = (f_0 4 gq))) E (c_X10_isKin l D cy q (upN n_0 0 0) (upF (upF (upF (upF (upF (upF (upF (upF (upF (upF f_0 45 y45_83) 46 y46_85) 47 y47_85) 49 (upA (f_0 49) (n_0 48) v_p)) 50 (upA (f_0 50) (n_0 48) v_r)) 51 (upA (f_0 51) (n_0 48) v_x)) 52 (upA (f_0 52) (n_0 48) zz85_)) 53 (upA (f_0 53) (n_0 48) (n_0 1))) 54 (upA (f_0 54) (n_0 48) 0)) 55 y55_c275) v_p gq  r_v_p r_gq (show 0 ≤ v_p ∧ v_p < 24 from by omega) (show 0 ≤ gq ∧ gq < 24 from by omega)) rfl mt_X10_isKin ml_X10_334 hK hw hA ⟨Nat.le_of_ble_eq_true rfl, Nat.le_of_ble_eq_true rfl⟩ (As := [.int (J v_p), .int (J gq)]) (rest := [.int (J ((24 * (n_0 48)) + gq)), .ref (q 55)]) rfl rfl hl.1 (Nat.le_of_ble_eq_true rfl) 318 rfl dX10_suit_315 (fun zz128_ H locs rr128_ hq128_ hw => ?_)
                                        have hh128_ : (zz128_ = 1 ∧ (f_0 4 v_p) = (f_0 4 gq)) ∨ (zz128_ = 0 ∧ ¬ (f_0 4 v_p) = (f_0 4 gq)) := hq128_
                                        clear hq128_
                                        rcases hh128_ with ⟨ee128_, hh128_⟩ | ⟨ee128_, hh128_⟩
                                        · subst ee128_
                                          have kk_ := hh128_
                                          clear hh128_
                                          refine j_if_eq E 321 326 rfl (rr (by decide)) dX10_suit_318 (by decide) (fun cc129_ => absurd cc129_ (by decide)) (fun _ => ?_)
                                          refine j_iload E 323 rfl dX10_suit_321 (lv_at hl 9 rfl) ?_
                                          refine j_goto E 327 dX10_suit_323 (by decide) ?_
                                          refine m_st_55 E hK hw (by omega) r_ge 328 rfl dX10_suit_327 (fun H locs hw => ?_)
                                          have hw : WM D cy q (upN n_0 0 0) (upF (upF (upF (upF (upF (upF (upF (upF (upF (upF f_0 45 y45_83) 46 y46_85) 47 y47_85) 49 (upA (f_0 49) (n_0 48) v_p)) 50 (upA (f_0 50) (n_0 48) v_r)) 51 (upA (f_0 51) (n_0 48) v_x)) 52 (upA (f_0 52) (n_0 48) zz85_)) 53 (upA (f_0 53) (n_0 48) (n_0 1))) 54 (upA (f_0 54) (n_0 48) 0)) 55 (upA (y55_c275) ((24 * (n_0 48)) + gq) ge)) A0 H0 H locs := hw
                                          refine j_iinc E 331 rfl [(10, .int (J (gq + 1))), (0, .ref (q 0)), (1, .int (J v_p)), (2, .int (J v_r)), (3, .int (J v_x)), (4, .int (J v_harm)), (5, .int (J v_witnesses)), (6, .int (J v_deed)), (7, .int (J zz85_)), (8, .int (J gc)), (9, .int (J ge))] dX10_suit_328 hl (kk := 10) rfl (by decide) rfl (fun ls hl => ?_)
                                          refine j_goto E 275 dX10_suit_331 (by decide) ?_
                                          exact ih275 (gq + 1) ge (upA (y55_c275) ((24 * (n_0 48)) + gq) ge) H locs ls (rr (by omega)) r_ge (⟨by omega, iv275.2.1, fun j_ h_ => (upA_ne (by omega)).trans (iv275.2.2.1 j_ h_), fun r_ h1_ h2_ => by by_cases e_ : r_ = gq; (rw [e_, upA_same]; first | exact Or.inl ⟨⟨by omega, kl_, kk_⟩, rfl⟩ | exact Or.inr ⟨fun q_ => by first | exact q_.1 (by omega) | exact kn_ q_.2.1 | exact nk_ q_.2.2, rfl⟩); (rw [upA_ne (by omega)]; exact iv275.2.2.2 r_ h1_ (by omega))⟩) (by omega) hw (lv_sub hl [1, 2, 3, 4, 5, 6, 7, 8, 9, 10, 0] rfl)
                                        · subst ee128_
                                          have nk_ := hh128_
                                          clear hh128_
                                          refine j_if_eq E 321 326 rfl (rr (by decide)) dX10_suit_318 (by decide) (fun _ => ?_) (fun cc131_ => absurd cc131_ (by decide))
                                          refine j_iconst E 327 rfl dX10_suit_326 ?_
                                          refine m_st_55 E hK hw (by omega) (rr (by decide)) 328 rfl dX10_suit_327 (fun H locs hw => ?_)
                                          have hw : WM D cy q (upN n_0 0 0) (upF (upF (upF (upF (upF (upF (upF (upF (upF (upF f_0 45 y45_83) 46 y46_85) 47 y47_85) 49 (upA (f_0 49) (n_0 48) v_p)) 50 (upA (f_0 50) (n_0 48) v_r)) 51 (upA (f_0 51) (n_0 48) v_x)) 52 (upA (f_0 52) (n_0 48) zz85_)) 53 (upA (f_0 53) (n_0 48) (n_0 1))) 54 (upA (f_0 54) (n_0 48) 0)) 55 (upA (y55_c275) ((24 * (n_0 48)) + gq) 0)) A0 H0 H locs := hw
                                          refine j_iinc E 331 rfl [(10, .int (J (gq + 1))), (0, .ref (q 0)), (1, .int (J v_p)), (2, .int (J v_r)), (3, .int (J v_x)), (4, .int (J v_harm)), (5, .int (J v_witnesses)), (6, .int (J v_deed)), (7, .int (J zz85_)), (8, .int (J gc)), (9, .int (J ge))] dX10_suit_328 hl (kk := 10) rfl (by decide) rfl (fun ls hl => ?_)
                                          refine j_goto E 275 dX10_suit_331 (by decide) ?_
                                          exact ih275 (gq + 1) ge (upA (y55_c275) ((24 * (n_0 48)) + gq) 0) H locs ls (rr (by omega)) r_ge (⟨by omega, iv275.2.1, fun j_ h_ => (upA_ne (by omega)).trans (iv275.2.2.1 j_ h_), fun r_ h1_ h2_ => by by_cases e_ : r_ = gq; (rw [e_, upA_same]; first | exact Or.inl ⟨⟨by omega, kl_, kk_⟩, rfl⟩ | exact Or.inr ⟨fun q_ => by first | exact q_.1 (by omega) | exact kn_ q_.2.1 | exact nk_ q_.2.2, rfl⟩); (rw [upA_ne (by omega)]; exact iv275.2.2.2 r_ h1_ (by omega))⟩) (by omega) hw (lv_sub hl [1, 2, 3, 4, 5, 6, 7, 8, 9, 10, 0] rfl)
                                      · subst ee126_
                                        have kn_ := hh126_
                                        clear hh126_
                                        refine j_if_eq E 311 326 rfl (rr (by decide)) dX10_suit_308 (by decide) (fun _ => ?_) (fun cc133_ => absurd cc133_ (by decide))
                                        refine j_iconst E 327 rfl dX10_suit_326 ?_
                                        refine m_st_55 E hK hw (by omega) (rr (by decide)) 328 rfl dX10_suit_327 (fun H locs hw => ?_)
                                        have hw : WM D cy q (upN n_0 0 0) (upF (upF (upF (upF (upF (upF (upF (upF (upF (upF f_0 45 y45_83) 46 y46_85) 47 y47_85) 49 (upA (f_0 49) (n_0 48) v_p)) 50 (upA (f_0 50) (n_0 48) v_r)) 51 (upA (f_0 51) (n_0 48) v_x)) 52 (upA (f_0 52) (n_0 48) zz85_)) 53 (upA (f_0 53) (n_0 48) (n_0 1))) 54 (upA (f_0 54) (n_0 48) 0)) 55 (upA (y55_c275) ((24 * (n_0 48)) + gq) 0)) A0 H0 H locs := hw
                                        refine j_iinc E 331 rfl [(10, .int (J (gq + 1))), (0, .ref (q 0)), (1, .int (J v_p)), (2, .int (J v_r)), (3, .int (J v_x)), (4, .int (J v_harm)), (5, .int (J v_witnesses)), (6, .int (J v_deed)), (7, .int (J zz85_)), (8, .int (J gc)), (9, .int (J ge))] dX10_suit_328 hl (kk := 10) rfl (by decide) rfl (fun ls hl => ?_)
                                        refine j_goto E 275 dX10_suit_331 (by decide) ?_
                                        exact ih275 (gq + 1) ge (upA (y55_c275) ((24 * (n_0 48)) + gq) 0) H locs ls (rr (by omega)) r_ge (⟨by omega, iv275.2.1, fun j_ h_ => (upA_ne (by omega)).trans (iv275.2.2.1 j_ h_), fun r_ h1_ h2_ => by by_cases e_ : r_ = gq; (rw [e_, upA_same]; first | exact Or.inl ⟨⟨by omega, kl_, kk_⟩, rfl⟩ | exact Or.inr ⟨fun q_ => by first | exact q_.1 (by omega) | exact kn_ q_.2.1 | exact nk_ q_.2.2, rfl⟩); (rw [upA_ne (by omega)]; exact iv275.2.2.2 r_ h1_ (by omega))⟩) (by omega) hw (lv_sub hl [1, 2, 3, 4, 5, 6, 7, 8, 9, 10, 0] rfl)
                              exact L275_117 _ 0 0 (f_0 55) H locs ls (rr (by decide)) (rr (by decide)) (⟨by omega, by first | exact (ea_0 (by omega)).symm | exact ea_n (by omega) r1_ e1_ r2_ e2_, fun _ _ => rfl, fun r_ h1_ h2_ => absurd h2_ (by omega)⟩) (mk_lt _) hw (lv_sub hl [2, 3, 4, 5, 6, 7, 8, 9, 10, 1, 0] rfl)
                          · refine j_iload E 219 rfl dX10_suit_217 (lv_at hl 9 rfl) ?_
                            refine j_iload_n E 220 rfl dX10_suit_219 rfl (lv_at hl 1 rfl) ?_
                            refine j_icmp_eq E 223 248 rfl r_gr r_v_p dX10_suit_220 (by decide) (fun cc135_ => ?_) (fun cc135_ => ?_)
                            · refine j_iinc E 251 rfl [(9, .int (J (gr + 1))), (0, .ref (q 0)), (1, .int (J v_p)), (2, .int (J v_r)), (3, .int (J v_x)), (4, .int (J v_harm)), (5, .int (J v_witnesses)), (6, .int (J v_deed)), (7, .int (J zz85_)), (8, .int (J gc))] dX10_suit_248 hl (kk := 9) rfl (by decide) rfl (fun ls hl => ?_)
                              refine j_goto E 208 dX10_suit_251 (by decide) ?_
                              exact ih208 gc (gr + 1) H locs ls r_gc (rr (by omega)) (⟨by omega, by first | exact nq_y iv208.2 (by omega) ⟨by omega, kl_, kk_⟩ | exact nq_n iv208.2 (by omega) (fun q_ => by first | exact q_.1 (by omega) | exact kn_ q_.2.1 | exact nk_ q_.2.2)⟩) (by omega) hw (lv_sub hl [1, 2, 3, 4, 5, 6, 7, 8, 9, 0] rfl)
                            · refine j_aload_n E 224 rfl dX10_suit_223 rfl (lv_at hl 0 rfl) ?_
                              refine j_iload E 226 rfl dX10_suit_224 (lv_at hl 9 rfl) ?_
                              refine m_callp (po := fun z_0 => (z_0 = 1 ∧ 0 ≤ gr ∧ gr < (n_0 2) ∧ (f_0 6 gr) = -1) ∨ (z_0 = 0 ∧ ¬ (0 ≤ gr ∧ gr < (n_0 2) ∧ (f_0 6 gr) = -1))) E (c_X10_isLiving l D cy q (upN n_0 0 0) (upF (upF (upF (upF (upF (upF (upF (upF (upF f_0 45 y45_83) 46 y46_85) 47 y47_85) 49 (upA (f_0 49) (n_0 48) v_p)) 50 (upA (f_0 50) (n_0 48) v_r)) 51 (upA (f_0 51) (n_0 48) v_x)) 52 (upA (f_0 52) (n_0 48) zz85_)) 53 (upA (f_0 53) (n_0 48) (n_0 1))) 54 (upA (f_0 54) (n_0 48) 0)) gr  r_gr (show (n_0 2) ≤ 24 from by omega)) rfl mt_X10_isLiving ml_X10_176 hK hw hA ⟨Nat.le_of_ble_eq_true rfl, Nat.le_of_ble_eq_true rfl⟩ (As := [.int (J gr)]) (rest := []) rfl rfl hl.1 (Nat.le_of_ble_eq_true rfl) 229 rfl dX10_suit_226 (fun zz136_ H locs rr136_ hq136_ hw => ?_)
                              have hh136_ : (zz136_ = 1 ∧ 0 ≤ gr ∧ gr < (n_0 2) ∧ (f_0 6 gr) = -1) ∨ (zz136_ = 0 ∧ ¬ (0 ≤ gr ∧ gr < (n_0 2) ∧ (f_0 6 gr) = -1)) := hq136_
                              clear hq136_
                              rcases hh136_ with ⟨ee136_, hh136_⟩ | ⟨ee136_, hh136_⟩
                              · subst ee136_
                                have kl_ := hh136_
                                clear hh136_
                                refine j_if_eq E 232 248 rfl (rr (by decide)) dX10_suit_229 (by decide) (fun cc137_ => absurd cc137_ (by decide)) (fun _ => ?_)
                                refine j_aload_n E 233 rfl dX10_suit_232 rfl (lv_at hl 0 rfl) ?_
                                refine j_iload_n E 234 rfl dX10_suit_233 rfl (lv_at hl 1 rfl) ?_
                                refine j_iload E 236 rfl dX10_suit_234 (lv_at hl 9 rfl) ?_
                                refine m_callp (po := fun z_0 => (z_0 = 1 ∧ (f_0 4 v_p) = (f_0 4 gr)) ∨ (z_0 = 0 ∧ ¬ (f_0 4 v_p) = (f_0 4 gr))) E (c_X10_isKin l D cy q (upN n_0 0 0) (upF (upF (upF (upF (upF (upF (upF (upF (upF f_0 45 y45_83) 46 y46_85) 47 y47_85) 49 (upA (f_0 49) (n_0 48) v_p)) 50 (upA (f_0 50) (n_0 48) v_r)) 51 (upA (f_0 51) (n_0 48) v_x)) 52 (upA (f_0 52) (n_0 48) zz85_)) 53 (upA (f_0 53) (n_0 48) (n_0 1))) 54 (upA (f_0 54) (n_0 48) 0)) v_p gr  r_v_p r_gr (show 0 ≤ v_p ∧ v_p < 24 from by omega) (show 0 ≤ gr ∧ gr < 24 from by omega)) rfl mt_X10_isKin ml_X10_334 hK hw hA ⟨Nat.le_of_ble_eq_true rfl, Nat.le_of_ble_eq_true rfl⟩ (As := [.int (J v_p), .int (J gr)]) (rest := []) rfl rfl hl.1 (Nat.le_of_ble_eq_true rfl) 239 rfl dX10_suit_236 (fun zz138_ H locs rr138_ hq138_ hw => ?_)
                                have hh138_ : (zz138_ = 1 ∧ (f_0 4 v_p) = (f_0 4 gr)) ∨ (zz138_ = 0 ∧ ¬ (f_0 4 v_p) = (f_0 4 gr)) := hq138_
                                clear hq138_
                                rcases hh138_ with ⟨ee138_, hh138_⟩ | ⟨ee138_, hh138_⟩
                                · subst ee138_
                                  have kk_ := hh138_
                                  clear hh138_
                                  refine j_if_eq E 242 248 rfl (rr (by decide)) dX10_suit_239 (by decide) (fun cc139_ => absurd cc139_ (by decide)) (fun _ => ?_)
                                  refine j_iload E 244 rfl dX10_suit_242 (lv_at hl 8 rfl) ?_
                                  refine j_iconst E 245 rfl dX10_suit_244 ?_
                                  refine j_iadd E 246 rfl dX10_suit_245 ?_
                                  refine j_istore E 248 rfl [(8, .int (J (gc + 1))), (0, .ref (q 0)), (1, .int (J v_p)), (2, .int (J v_r)), (3, .int (J v_x)), (4, .int (J v_harm)), (5, .int (J v_witnesses)), (6, .int (J v_deed)), (7, .int (J zz85_)), (9, .int (J gr))] dX10_suit_246 hl (by decide) rfl (fun ls hl => ?_)
                                  refine j_iinc E 251 rfl [(9, .int (J (gr + 1))), (8, .int (J (gc + 1))), (0, .ref (q 0)), (1, .int (J v_p)), (2, .int (J v_r)), (3, .int (J v_x)), (4, .int (J v_harm)), (5, .int (J v_witnesses)), (6, .int (J v_deed)), (7, .int (J zz85_))] dX10_suit_248 hl (kk := 9) rfl (by decide) rfl (fun ls hl => ?_)
                                  refine j_goto E 208 dX10_suit_251 (by decide) ?_
                                  exact ih208 (gc + 1) (gr + 1) H locs ls (rr (by omega)) (rr (by omega)) (⟨by omega, by first | exact nq_y iv208.2 (by omega) ⟨by omega, kl_, kk_⟩ | exact nq_n iv208.2 (by omega) (fun q_ => by first | exact q_.1 (by omega) | exact kn_ q_.2.1 | exact nk_ q_.2.2)⟩) (by omega) hw (lv_sub hl [2, 3, 4, 5, 6, 7, 8, 9, 1, 0] rfl)
                                · subst ee138_
                                  have nk_ := hh138_
                                  clear hh138_
                                  refine j_if_eq E 242 248 rfl (rr (by decide)) dX10_suit_239 (by decide) (fun _ => ?_) (fun cc140_ => absurd cc140_ (by decide))
                                  refine j_iinc E 251 rfl [(9, .int (J (gr + 1))), (0, .ref (q 0)), (1, .int (J v_p)), (2, .int (J v_r)), (3, .int (J v_x)), (4, .int (J v_harm)), (5, .int (J v_witnesses)), (6, .int (J v_deed)), (7, .int (J zz85_)), (8, .int (J gc))] dX10_suit_248 hl (kk := 9) rfl (by decide) rfl (fun ls hl => ?_)
                                  refine j_goto E 208 dX10_suit_251 (by decide) ?_
                                  exact ih208 gc (gr + 1) H locs ls r_gc (rr (by omega)) (⟨by omega, by first | exact nq_y iv208.2 (by omega) ⟨by omega, kl_, kk_⟩ | exact nq_n iv208.2 (by omega) (fun q_ => by first | exact q_.1 (by omega) | exact kn_ q_.2.1 | exact nk_ q_.2.2)⟩) (by omega) hw (lv_sub hl [1, 2, 3, 4, 5, 6, 7, 8, 9, 0] rfl)
                              · subst ee136_
                                have kn_ := hh136_
                                clear hh136_
                                refine j_if_eq E 232 248 rfl (rr (by decide)) dX10_suit_229 (by decide) (fun _ => ?_) (fun cc141_ => absurd cc141_ (by decide))
                                refine j_iinc E 251 rfl [(9, .int (J (gr + 1))), (0, .ref (q 0)), (1, .int (J v_p)), (2, .int (J v_r)), (3, .int (J v_x)), (4, .int (J v_harm)), (5, .int (J v_witnesses)), (6, .int (J v_deed)), (7, .int (J zz85_)), (8, .int (J gc))] dX10_suit_248 hl (kk := 9) rfl (by decide) rfl (fun ls hl => ?_)
                                refine j_goto E 208 dX10_suit_251 (by decide) ?_
                                exact ih208 gc (gr + 1) H locs ls r_gc (rr (by omega)) (⟨by omega, by first | exact nq_y iv208.2 (by omega) ⟨by omega, kl_, kk_⟩ | exact nq_n iv208.2 (by omega) (fun q_ => by first | exact q_.1 (by omega) | exact kn_ q_.2.1 | exact nk_ q_.2.2)⟩) (by omega) hw (lv_sub hl [1, 2, 3, 4, 5, 6, 7, 8, 9, 0] rfl)
                      exact L208_92 _ 0 0 H locs ls (rr (by decide)) (rr (by decide)) (⟨by omega, nq_0⟩) (mk_lt _) hw (lv_sub hl [3, 4, 5, 6, 7, 8, 9, 2, 1, 0] rfl)
                    · subst ee83_
                      have fn_ := hh83_
                      clear hh83_
                      refine j_if_ne E 122 124 rfl (rr (by decide)) dX10_suit_119 (by decide) (fun cc142_ => absurd cc142_ (by decide)) (fun _ => ?_)
                      refine j_iconst E 123 rfl dX10_suit_122 ?_
                      exact hret 123 ((-1)) (upN (upN n_0 0 0) 48 (n_0 48)) (upF (upF (upF (upF (upF (upF (upF (upF (upF (upF f_0 45 y45_83) 46 (f_0 46)) 47 (f_0 47)) 49 (f_0 49)) 50 (f_0 50)) 51 (f_0 51)) 52 (f_0 52)) 53 (f_0 53)) 54 (f_0 54)) 55 (f_0 55)) _ _ ls hw (rr (by decide)) ⟨0, (n_0 48), y45_83, (f_0 46), (f_0 47), (f_0 49), (f_0 50), (f_0 51), (f_0 52), (f_0 53), (f_0 54), (f_0 55), rfl, rfl, ⟨⟨i_now, i_persons, i_lines, i_wordings, i_taped, i_suits, i_spk, i_fam, i_str, i_said, i_book, i_wds, i_tok, i_cod, i_far, i_tap, i_qua, i_sil, i_stz, i_way⟩, Or.inl ⟨rfl, (fun q_ => by have a_ := q_.2.2; rw [← ag_] at a_; have b_ := fn_.1; omega), rfl, rfl, rfl, rfl, rfl, rfl, rfl, rfl⟩⟩⟩ dX10_suit_123
                · refine j_iconst E 80 rfl dX10_suit_79 ?_
                  exact hret 80 ((-1)) (upN (upN n_0 0 0) 48 (n_0 48)) (upF (upF (upF (upF (upF (upF (upF (upF (upF (upF f_0 45 (f_0 45)) 46 (f_0 46)) 47 (f_0 47)) 49 (f_0 49)) 50 (f_0 50)) 51 (f_0 51)) 52 (f_0 52)) 53 (f_0 53)) 54 (f_0 54)) 55 (f_0 55)) _ _ ls hw (rr (by decide)) ⟨0, (n_0 48), (f_0 45), (f_0 46), (f_0 47), (f_0 49), (f_0 50), (f_0 51), (f_0 52), (f_0 53), (f_0 54), (f_0 55), rfl, rfl, ⟨⟨i_now, i_persons, i_lines, i_wordings, i_taped, i_suits, i_spk, i_fam, i_str, i_said, i_book, i_wds, i_tok, i_cod, i_far, i_tap, i_qua, i_sil, i_stz, i_way⟩, Or.inl ⟨rfl, (fun q_ => by first | exact np_ q_.1 | exact nr_ q_.2.1 | (have a_ := q_.2.2; omega)), rfl, rfl, rfl, rfl, rfl, rfl, rfl, rfl⟩⟩⟩ dX10_suit_80
          · subst ee10_
            refine j_if_eq E 48 79 rfl (rr (by decide)) dX10_suit_45 (by decide) (fun _ => ?_) (fun cc143_ => absurd cc143_ (by decide))
            refine j_iconst E 80 rfl dX10_suit_79 ?_
            exact hret 80 ((-1)) (upN (upN n_0 0 0) 48 (n_0 48)) (upF (upF (upF (upF (upF (upF (upF (upF (upF (upF f_0 45 (f_0 45)) 46 (f_0 46)) 47 (f_0 47)) 49 (f_0 49)) 50 (f_0 50)) 51 (f_0 51)) 52 (f_0 52)) 53 (f_0 53)) 54 (f_0 54)) 55 (f_0 55)) _ _ ls hw (rr (by decide)) ⟨0, (n_0 48), (f_0 45), (f_0 46), (f_0 47), (f_0 49), (f_0 50), (f_0 51), (f_0 52), (f_0 53), (f_0 54), (f_0 55), rfl, rfl, ⟨⟨i_now, i_persons, i_lines, i_wordings, i_taped, i_suits, i_spk, i_fam, i_str, i_said, i_book, i_wds, i_tok, i_cod, i_far, i_tap, i_qua, i_sil, i_stz, i_way⟩, Or.inl ⟨rfl, (fun q_ => by first | exact np_ q_.1 | exact nr_ q_.2.1 | (have a_ := q_.2.2; omega)), rfl, rfl, rfl, rfl, rfl, rfl, rfl, rfl⟩⟩⟩ dX10_suit_80
        · subst ee7_
          refine j_if_eq E 34 79 rfl (rr (by decide)) dX10_suit_31 (by decide) (fun _ => ?_) (fun cc144_ => absurd cc144_ (by decide))
          refine j_iconst E 80 rfl dX10_suit_79 ?_
          exact hret 80 ((-1)) (upN (upN n_0 0 0) 48 (n_0 48)) (upF (upF (upF (upF (upF (upF (upF (upF (upF (upF f_0 45 (f_0 45)) 46 (f_0 46)) 47 (f_0 47)) 49 (f_0 49)) 50 (f_0 50)) 51 (f_0 51)) 52 (f_0 52)) 53 (f_0 53)) 54 (f_0 54)) 55 (f_0 55)) _ _ ls hw (rr (by decide)) ⟨0, (n_0 48), (f_0 45), (f_0 46), (f_0 47), (f_0 49), (f_0 50), (f_0 51), (f_0 52), (f_0 53), (f_0 54), (f_0 55), rfl, rfl, ⟨⟨i_now, i_persons, i_lines, i_wordings, i_taped, i_suits, i_spk, i_fam, i_str, i_said, i_book, i_wds, i_tok, i_cod, i_far, i_tap, i_qua, i_sil, i_stz, i_way⟩, Or.inl ⟨rfl, (fun q_ => by first | exact np_ q_.1 | exact nr_ q_.2.1 | (have a_ := q_.2.2; omega)), rfl, rfl, rfl, rfl, rfl, rfl, rfl, rfl⟩⟩⟩ dX10_suit_80
    · subst ee4_
      have nr_ := hh4_
      clear hh4_
      refine j_if_eq E 21 79 rfl (rr (by decide)) dX10_suit_18 (by decide) (fun _ => ?_) (fun cc145_ => absurd cc145_ (by decide))
      refine j_iconst E 80 rfl dX10_suit_79 ?_
      exact hret 80 ((-1)) (upN (upN n_0 0 0) 48 (n_0 48)) (upF (upF (upF (upF (upF (upF (upF (upF (upF (upF f_0 45 (f_0 45)) 46 (f_0 46)) 47 (f_0 47)) 49 (f_0 49)) 50 (f_0 50)) 51 (f_0 51)) 52 (f_0 52)) 53 (f_0 53)) 54 (f_0 54)) 55 (f_0 55)) _ _ ls hw (rr (by decide)) ⟨0, (n_0 48), (f_0 45), (f_0 46), (f_0 47), (f_0 49), (f_0 50), (f_0 51), (f_0 52), (f_0 53), (f_0 54), (f_0 55), rfl, rfl, ⟨⟨i_now, i_persons, i_lines, i_wordings, i_taped, i_suits, i_spk, i_fam, i_str, i_said, i_book, i_wds, i_tok, i_cod, i_far, i_tap, i_qua, i_sil, i_stz, i_way⟩, Or.inl ⟨rfl, (fun q_ => by first | exact np_ q_.1 | exact nr_ q_.2.1 | (have a_ := q_.2.2; omega)), rfl, rfl, rfl, rfl, rfl, rfl, rfl, rfl⟩⟩⟩ dX10_suit_80
  · subst ee2_
    have np_ := hh2_
    clear hh2_
    refine j_if_eq E 13 79 rfl (rr (by decide)) dX10_suit_10 (by decide) (fun _ => ?_) (fun cc146_ => absurd cc146_ (by decide))
    refine j_iconst E 80 rfl dX10_suit_79 ?_
    exact hret 80 ((-1)) (upN (upN n_0 0 0) 48 (n_0 48)) (upF (upF (upF (upF (upF (upF (upF (upF (upF (upF f_0 45 (f_0 45)) 46 (f_0 46)) 47 (f_0 47)) 49 (f_0 49)) 50 (f_0 50)) 51 (f_0 51)) 52 (f_0 52)) 53 (f_0 53)) 54 (f_0 54)) 55 (f_0 55)) _ _ ls hw (rr (by decide)) ⟨0, (n_0 48), (f_0 45), (f_0 46), (f_0 47), (f_0 49), (f_0 50), (f_0 51), (f_0 52), (f_0 53), (f_0 54), (f_0 55), rfl, rfl, ⟨⟨i_now, i_persons, i_lines, i_wordings, i_taped, i_suits, i_spk, i_fam, i_str, i_said, i_book, i_wds, i_tok, i_cod, i_far, i_tap, i_qua, i_sil, i_stz, i_way⟩, Or.inl ⟨rfl, (fun q_ => by first | exact np_ q_.1 | exact nr_ q_.2.1 | (have a_ := q_.2.2; omega)), rfl, rfl, rfl, rfl, rfl, rfl, rfl, rfl⟩⟩⟩ dX10_suit_80
