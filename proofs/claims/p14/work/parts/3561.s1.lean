theorem aw_up {g : Int → Int} {p : Int} (h : ∀ j, 0 ≤ j → j < p → g j = 0) : ∀ j, 0 ≤ j → j < p + 1 → upA g p 0 j = 0 := by
  intro j h1 h2
  unfold upA
  split
  · rfl
  · exact h j h1 (by omega)
theorem aw_dn {g g0 : Int → Int} {p : Int} (h : ∀ j, p ≤ j → g j = g0 j) : ∀ j, p + 1 ≤ j → upA g p 0 j = g0 j := by
  intro j h1
  rw [upA_ne (by omega)]
  exact h j (by omega)
set_option maxHeartbeats 4000000 in
set_option maxRecDepth 100000 in
theorem c3_X10_line (l : Launch) (D : va_G) (cy : Nat → ClassId) (q : Nat → Nat) (n_0 : Nat → Int) (f_0 : Nat → Int → Int) (v_section v_verse : Int) (r_v_section : inR v_section) (r_v_verse : inR v_verse) (hp0 : MI (n_0) (f_0)) (hp1 : v_verse = 0 ∨ v_verse = 1) : MC l D cy q yX10_line cX10_line 4 (some .int) 1 [.int (J v_section), .int (J v_verse)] n_0 f_0 (PI (fun (z_0 : Int) (n_2 : Nat → Int) (f_2 : Nat → Int → Int) => ∃ (x0_2 : Int) (x12_2 : Int) (y13_2 : Int → Int) (y14_2 : Int → Int) (y16_2 : Int → Int) (y67_2 : Int → Int) (y18_2 : Int → Int) , n_2 = upN (upN n_0 0 x0_2) 12 x12_2 ∧ f_2 = upF (upF (upF (upF (upF f_0 13 y13_2) 14 y14_2) 16 y16_2) 18 y18_2) 67 y67_2 ∧ (MI (upN (upN n_0 0 x0_2) 12 x12_2) (upF (upF (upF (upF (upF f_0 13 y13_2) 14 y14_2) 16 y16_2) 18 y18_2) 67 y67_2) ∧ ((z_0 = -1 ∧ (v_section < 0 ∨ 2 < v_section ∨ (n_0 12) = 24) ∧ (x12_2) = (n_0 12)) ∨ (z_0 = (n_0 12) ∧ 0 ≤ v_section ∧ v_section ≤ 2 ∧ (n_0 12) < 24 ∧ (x12_2) = (n_0 12) + 1))))) := by
  refine MC.ofi rfl (Nat.le_of_ble_eq_true rfl) ?_
  intro p e s m below meth c ls ar QW A0 H0 H locs E hK hA hw hl hret
  have hl : lv_has ls 4 [(0, .ref (q 0)), (1, .int (J v_section)), (2, .int (J v_verse))] := hl
  have hp0_ := hp0
  obtain ⟨i_now, i_persons, i_lines, i_wordings, i_taped, i_suits, i_spk, i_fam, i_str, i_said, i_book, i_wds, i_tok, i_cod, i_far, i_tap⟩ := hp0_
  refine j_aload_n E 1 rfl dX10_line_0 rfl (lv_at hl 0 rfl) ?_
  refine j_iconst E 2 rfl dX10_line_1 ?_
  refine m_put_0 E hK hw (rr (by decide)) 5 rfl dX10_line_2 (fun H locs hw => ?_)
  have hw : WM D cy q (upN n_0 0 0) (f_0) A0 H0 H locs := hw
  refine j_aload_n E 6 rfl dX10_line_5 rfl (lv_at hl 0 rfl) ?_
  refine j_iload_n E 7 rfl dX10_line_6 rfl (lv_at hl 1 rfl) ?_
  refine j_iconst E 8 rfl dX10_line_7 ?_
  refine j_iconst E 9 rfl dX10_line_8 ?_
  refine m_callp (po := fun z_0 => (z_0 = 1 ∧ (0 : Int) ≤ v_section ∧ v_section ≤ (2 : Int)) ∨ (z_0 = 0 ∧ (v_section < (0 : Int) ∨ (2 : Int) < v_section))) E (c_X10_isIn l D cy q (upN n_0 0 0) (f_0) v_section 0 2  r_v_section (rr (by decide)) (rr (by decide)) ) rfl mt_X10_isIn ml_X10_169 hK hw hA ⟨Nat.le_of_ble_eq_true rfl, Nat.le_of_ble_eq_true rfl⟩ (As := [.int (J v_section), .int (J 0), .int (J 2)]) (rest := []) rfl rfl hl.1 (Nat.le_of_ble_eq_true rfl) 12 rfl dX10_line_9 (fun zz2_ H locs rr2_ hq2_ hw => ?_)
  have hh2_ : (zz2_ = 1 ∧ (0 : Int) ≤ v_section ∧ v_section ≤ (2 : Int)) ∨ (zz2_ = 0 ∧ (v_section < (0 : Int) ∨ (2 : Int) < v_section)) := hq2_
  clear hq2_
  rcases hh2_ with ⟨ee2_, hh2_⟩ | ⟨ee2_, hh2_⟩
  · subst ee2_
    refine j_if_eq E 15 24 rfl (rr (by decide)) dX10_line_12 (by decide) (fun cc3_ => absurd cc3_ (by decide)) (fun _ => ?_)
    refine j_aload_n E 16 rfl dX10_line_15 rfl (lv_at hl 0 rfl) ?_
    refine m_get_12 E hK hw (n_0 12) rfl 19 rfl dX10_line_16 (fun rr4_ => ?_)
    refine j_bipush E 21 rfl dX10_line_19 (by decide) ?_
    refine j_icmp_ne E 24 26 rfl rr4_ (rr (by decide)) dX10_line_21 (by decide) (fun cc5_ => ?_) (fun cc5_ => ?_)
    · refine j_aload_n E 27 rfl dX10_line_26 rfl (lv_at hl 0 rfl) ?_
      refine m_ag_13 E hK hw 30 rfl dX10_line_27 ?_
      refine j_aload_n E 31 rfl dX10_line_30 rfl (lv_at hl 0 rfl) ?_
      refine m_get_12 E hK hw (n_0 12) rfl 34 rfl dX10_line_31 (fun _ => ?_)
      refine j_iload_n E 35 rfl dX10_line_34 rfl (lv_at hl 1 rfl) ?_
      refine m_st_13 E hK hw (by omega) r_v_section 36 rfl dX10_line_35 (fun H locs hw => ?_)
      have hw : WM D cy q (upN n_0 0 0) (upF f_0 13 (upA (f_0 13) (n_0 12) v_section)) A0 H0 H locs := hw
      refine j_aload_n E 37 rfl dX10_line_36 rfl (lv_at hl 0 rfl) ?_
      refine m_ag_14 E hK hw 40 rfl dX10_line_37 ?_
      refine j_aload_n E 41 rfl dX10_line_40 rfl (lv_at hl 0 rfl) ?_
      refine m_get_12 E hK hw (n_0 12) rfl 44 rfl dX10_line_41 (fun _ => ?_)
      refine j_iload_n E 45 rfl dX10_line_44 rfl (lv_at hl 2 rfl) ?_
      refine m_st_14 E hK hw (by omega) r_v_verse (by omega) 46 rfl dX10_line_45 (fun H locs hw => ?_)
      have hw : WM D cy q (upN n_0 0 0) (upF (upF f_0 13 (upA (f_0 13) (n_0 12) v_section)) 14 (upA (f_0 14) (n_0 12) v_verse)) A0 H0 H locs := hw
      refine j_aload_n E 47 rfl dX10_line_46 rfl (lv_at hl 0 rfl) ?_
      refine m_ag_16 E hK hw 50 rfl dX10_line_47 ?_
      refine j_aload_n E 51 rfl dX10_line_50 rfl (lv_at hl 0 rfl) ?_
      refine m_get_12 E hK hw (n_0 12) rfl 54 rfl dX10_line_51 (fun _ => ?_)
      refine j_iconst E 55 rfl dX10_line_54 ?_
      refine m_st_16 E hK hw (by omega) (rr (by decide)) 56 rfl dX10_line_55 (fun H locs hw => ?_)
      have hw : WM D cy q (upN n_0 0 0) (upF (upF (upF f_0 13 (upA (f_0 13) (n_0 12) v_section)) 14 (upA (f_0 14) (n_0 12) v_verse)) 16 (upA (f_0 16) (n_0 12) ((-1)))) A0 H0 H locs := hw
      refine j_aload_n E 57 rfl dX10_line_56 rfl (lv_at hl 0 rfl) ?_
      refine m_ag_67 E hK hw 60 rfl dX10_line_57 ?_
      refine j_aload_n E 61 rfl dX10_line_60 rfl (lv_at hl 0 rfl) ?_
      refine m_get_12 E hK hw (n_0 12) rfl 64 rfl dX10_line_61 (fun _ => ?_)
      refine j_iconst E 65 rfl dX10_line_64 ?_
      refine m_st_67 E hK hw (by omega) (rr (by decide)) 66 rfl dX10_line_65 (fun H locs hw => ?_)
      have hw : WM D cy q (upN n_0 0 0) (upF (upF (upF (upF f_0 13 (upA (f_0 13) (n_0 12) v_section)) 14 (upA (f_0 14) (n_0 12) v_verse)) 16 (upA (f_0 16) (n_0 12) ((-1)))) 67 (upA (f_0 67) (n_0 12) ((-1)))) A0 H0 H locs := hw
      refine j_iconst E 67 rfl dX10_line_66 ?_
      refine j_istore_n E 68 rfl [(3, .int (J 0)), (0, .ref (q 0)), (1, .int (J v_section)), (2, .int (J v_verse))] dX10_line_67 rfl hl (by decide) rfl (fun ls hl => ?_)
      have L68_10 : ∀ (k68 : Nat) (gk : Int) (y18_c68 : Int → Int) (H : Heap) (locs : List Loc) (ls : Array Slot), inR gk → (0 ≤ gk ∧ gk ≤ 200 ∧ ∀ j, 0 ≤ j → j < 200 * (n_0 12) + gk → (y18_c68 j) < (n_0 29)) → (200 - gk) < (k68 : Int) → WM D cy q (upN n_0 0 0) (upF (upF (upF (upF (upF f_0 13 (upA (f_0 13) (n_0 12) v_section)) 14 (upA (f_0 14) (n_0 12) v_verse)) 16 (upA (f_0 16) (n_0 12) ((-1)))) 18 y18_c68) 67 (upA (f_0 67) (n_0 12) ((-1)))) A0 H0 H locs → lv_has ls 4 [(0, .ref (q 0)), (1, .int (J v_section)), (2, .int (J v_verse)), (3, .int (J gk))] → W p l e (rmd 1 0 0) s m ar below meth c H locs 0 0 QW (F0 m 68 ls []) := by
        intro k68
        induction k68 with
        | zero =>
          intro gk y18_c68 H locs ls r_gk iv68 ms68 hw hl
          exfalso; omega
        | succ k68 ih68 =>
          intro gk y18_c68 H locs ls r_gk iv68 ms68 hw hl
          refine j_iload_n E 69 rfl dX10_line_68 rfl (lv_at hl 3 rfl) ?_
          refine j_sipush E 72 rfl dX10_line_69 (by decide) ?_
          refine j_icmp_ge E 75 98 rfl r_gk (rr (by decide)) dX10_line_72 (by decide) (fun cc12_ => ?_) (fun cc12_ => ?_)
          · refine j_aload_n E 99 rfl dX10_line_98 rfl (lv_at hl 0 rfl) ?_
            refine j_aload_n E 100 rfl dX10_line_99 rfl (lv_at hl 0 rfl) ?_
            refine m_get_12 E hK hw (n_0 12) rfl 103 rfl dX10_line_100 (fun _ => ?_)
            refine j_iconst E 104 rfl dX10_line_103 ?_
            refine j_iadd E 105 rfl dX10_line_104 ?_
            refine m_put_12 E hK hw (rr (by omega)) 108 rfl dX10_line_105 (fun H locs hw => ?_)
            have hw : WM D cy q (upN (upN n_0 0 0) 12 ((n_0 12) + 1)) (upF (upF (upF (upF (upF f_0 13 (upA (f_0 13) (n_0 12) v_section)) 14 (upA (f_0 14) (n_0 12) v_verse)) 16 (upA (f_0 16) (n_0 12) ((-1)))) 18 y18_c68) 67 (upA (f_0 67) (n_0 12) ((-1)))) A0 H0 H locs := hw
            refine j_aload_n E 109 rfl dX10_line_108 rfl (lv_at hl 0 rfl) ?_
            refine m_get_12 E hK hw ((n_0 12) + 1) rfl 112 rfl dX10_line_109 (fun rr14_ => ?_)
            refine j_iconst E 113 rfl dX10_line_112 ?_
            refine j_isub E 114 rfl dX10_line_113 ?_
            exact hret 114 (((n_0 12) + 1) - 1) (upN (upN n_0 0 0) 12 ((n_0 12) + 1)) (upF (upF (upF (upF (upF f_0 13 (upA (f_0 13) (n_0 12) v_section)) 14 (upA (f_0 14) (n_0 12) v_verse)) 16 (upA (f_0 16) (n_0 12) ((-1)))) 18 y18_c68) 67 (upA (f_0 67) (n_0 12) ((-1)))) _ _ ls hw (rr (by omega)) ⟨0, ((n_0 12) + 1), (upA (f_0 13) (n_0 12) v_section), (upA (f_0 14) (n_0 12) v_verse), (upA (f_0 16) (n_0 12) ((-1))), (upA (f_0 67) (n_0 12) ((-1))), y18_c68, rfl, rfl, ⟨⟨i_now, i_persons, (show 0 ≤ ((n_0 12) + 1) ∧ ((n_0 12) + 1) ≤ 24 from by omega), i_wordings, i_taped, i_suits, i_spk, i_fam, i_str, (show Said_ (y18_c68) ((n_0 12) + 1) (n_0 29) from (fun j h1 h2 => iv68.2.2 j h1 (by have h3 : j < 200 * (n_0 12 + 1) := h2; omega))), (show Book_ (upA (f_0 67) (n_0 12) ((-1))) ((n_0 12) + 1) (n_0 29) from Book_grow i_book (by omega)), i_wds, i_tok, i_cod, i_far, i_tap⟩, by omega⟩⟩ dX10_line_114
          · refine j_aload_n E 76 rfl dX10_line_75 rfl (lv_at hl 0 rfl) ?_
            refine m_ag_18 E hK hw 79 rfl dX10_line_76 ?_
            refine j_sipush E 82 rfl dX10_line_79 (by decide) ?_
            refine j_aload_n E 83 rfl dX10_line_82 rfl (lv_at hl 0 rfl) ?_
            refine m_get_12 E hK hw (n_0 12) rfl 86 rfl dX10_line_83 (fun _ => ?_)
            refine j_imul E 87 rfl dX10_line_86 ?_
            refine j_iload_n E 88 rfl dX10_line_87 rfl (lv_at hl 3 rfl) ?_
            refine j_iadd E 89 rfl dX10_line_88 ?_
            refine j_bipush E 91 rfl dX10_line_89 (by decide) ?_
            refine m_st_18 E hK hw (by omega) (rr (by decide)) 92 rfl dX10_line_91 (fun H locs hw => ?_)
            have hw : WM D cy q (upN n_0 0 0) (upF (upF (upF (upF (upF f_0 13 (upA (f_0 13) (n_0 12) v_section)) 14 (upA (f_0 14) (n_0 12) v_verse)) 16 (upA (f_0 16) (n_0 12) ((-1)))) 18 (upA (y18_c68) ((200 * (n_0 12)) + gk) ((-2)))) 67 (upA (f_0 67) (n_0 12) ((-1)))) A0 H0 H locs := hw
            refine j_iinc E 95 rfl [(3, .int (J (gk + 1))), (0, .ref (q 0)), (1, .int (J v_section)), (2, .int (J v_verse))] dX10_line_92 hl (kk := 3) rfl (by decide) rfl (fun ls hl => ?_)
            refine j_goto E 68 dX10_line_95 (by decide) ?_
            exact ih68 (gk + 1) (upA (y18_c68) ((200 * (n_0 12)) + gk) ((-2))) H locs ls (rr (by omega)) (⟨by omega, by omega, sd_step iv68.2.2 (by omega)⟩) (by omega) hw (lv_sub hl [1, 2, 3, 0] rfl)
      exact L68_10 _ 0 (f_0 18) H locs ls (rr (by decide)) (⟨by omega, by omega, fun j h1 h2 => i_said j h1 (by omega)⟩) (mk_lt _) hw (lv_sub hl [1, 2, 3, 0] rfl)
    · refine j_iconst E 25 rfl dX10_line_24 ?_
      exact hret 25 ((-1)) (upN (upN n_0 0 0) 12 (n_0 12)) (upF (upF (upF (upF (upF f_0 13 (f_0 13)) 14 (f_0 14)) 16 (f_0 16)) 18 (f_0 18)) 67 (f_0 67)) _ _ ls hw (rr (by decide)) ⟨0, (n_0 12), (f_0 13), (f_0 14), (f_0 16), (f_0 67), (f_0 18), rfl, rfl, ⟨⟨i_now, i_persons, i_lines, i_wordings, i_taped, i_suits, i_spk, i_fam, i_str, i_said, i_book, i_wds, i_tok, i_cod, i_far, i_tap⟩, by omega⟩⟩ dX10_line_25
  · subst ee2_
    refine j_if_eq E 15 24 rfl (rr (by decide)) dX10_line_12 (by decide) (fun _ => ?_) (fun cc16_ => absurd cc16_ (by decide))
    refine j_iconst E 25 rfl dX10_line_24 ?_
    exact hret 25 ((-1)) (upN (upN n_0 0 0) 12 (n_0 12)) (upF (upF (upF (upF (upF f_0 13 (f_0 13)) 14 (f_0 14)) 16 (f_0 16)) 18 (f_0 18)) 67 (f_0 67)) _ _ ls hw (rr (by decide)) ⟨0, (n_0 12), (f_0 13), (f_0 14), (f_0 16), (f_0 67), (f_0 18), rfl, rfl, ⟨⟨i_now, i_persons, i_lines, i_wordings, i_taped, i_suits, i_spk, i_fam, i_str, i_said, i_book, i_wds, i_tok, i_cod, i_far, i_tap⟩, by omega⟩⟩ dX10_line_25
set_option maxHeartbeats 4000000 in
set_option maxRecDepth 100000 in
theorem c3_X10_know (l : Launch) (D : va_G) (cy : Nat → ClassId) (q : Nat → Nat) (n_0 : Nat → Int) (f_0 : Nat → Int → Int) (v_p v_x v_w v_by : Int) (r_v_p : inR v_p) (r_v_x : inR v_x) (r_v_w : inR v_w) (r_v_by : inR v_by) (hp0 : MI (n_0) (f_0)) : MC l D cy q yX10_know cX10_know 5 (some .boolean) 2 [.int (J v_p), .int (J v_x), .int (J v_w), .int (J v_by)] n_0 f_0 (PI (fun (z_0 : Int) (n_2 : Nat → Int) (f_2 : Nat → Int → Int) => ∃ (x0_2 : Int) (y19_2 : Int → Int) (y20_2 : Int → Int) (y21_2 : Int → Int) , n_2 = upN n_0 0 x0_2 ∧ f_2 = upF (upF (upF f_0 19 y19_2) 20 y20_2) 21 y21_2 ∧ (MI (upN n_0 0 x0_2) (upF (upF (upF f_0 19 y19_2) 20 y20_2) 21 y21_2) ∧ ((z_0 = 1 ∧ (0 ≤ v_p ∧ v_p < (n_0 2) ∧ (f_0 6 v_p) = -1) ∧ (0 ≤ v_x ∧ v_x < (n_0 12)) ∧ (0 ≤ v_w ∧ v_w < (n_0 29)) ∧ (1 ≤ v_by ∧ v_by ≤ 9)) ∨ (z_0 = 0 ∧ ¬ ((0 ≤ v_p ∧ v_p < (n_0 2) ∧ (f_0 6 v_p) = -1) ∧ (0 ≤ v_x ∧ v_x < (n_0 12)) ∧ (0 ≤ v_w ∧ v_w < (n_0 29)) ∧ (1 ≤ v_by ∧ v_by ≤ 9))))))) := by
  refine MC.ofz rfl (Nat.le_of_ble_eq_true rfl) ?_
  intro p e s m below meth c ls ar QW A0 H0 H locs E hK hA hw hl hret
  have hl : lv_has ls 5 [(0, .ref (q 0)), (1, .int (J v_p)), (2, .int (J v_x)), (3, .int (J v_w)), (4, .int (J v_by))] := hl
  have hp0_ := hp0
  obtain ⟨i_now, i_persons, i_lines, i_wordings, i_taped, i_suits, i_spk, i_fam, i_str, i_said, i_book, i_wds, i_tok, i_cod, i_far, i_tap⟩ := hp0_
  refine j_aload_n E 1 rfl dX10_know_0 rfl (lv_at hl 0 rfl) ?_
  refine j_iconst E 2 rfl dX10_know_1 ?_
  refine m_put_0 E hK hw (rr (by decide)) 5 rfl dX10_know_2 (fun H locs hw => ?_)
  have hw : WM D cy q (upN n_0 0 0) (f_0) A0 H0 H locs := hw
  refine j_aload_n E 6 rfl dX10_know_5 rfl (lv_at hl 0 rfl) ?_
  refine j_iload_n E 7 rfl dX10_know_6 rfl (lv_at hl 1 rfl) ?_
  refine m_callp (po := fun z_0 => (z_0 = 1 ∧ 0 ≤ v_p ∧ v_p < (n_0 2) ∧ (f_0 6 v_p) = -1) ∨ (z_0 = 0 ∧ ¬ (0 ≤ v_p ∧ v_p < (n_0 2) ∧ (f_0 6 v_p) = -1))) E (c_X10_isLiving l D cy q (upN n_0 0 0) (f_0) v_p  r_v_p (show (n_0 2) ≤ 24 from by omega)) rfl mt_X10_isLiving ml_X10_176 hK hw hA ⟨Nat.le_of_ble_eq_true rfl, Nat.le_of_ble_eq_true rfl⟩ (As := [.int (J v_p)]) (rest := []) rfl rfl hl.1 (Nat.le_of_ble_eq_true rfl) 10 rfl dX10_know_7 (fun zz2_ H locs rr2_ hq2_ hw => ?_)
  have hh2_ : (zz2_ = 1 ∧ 0 ≤ v_p ∧ v_p < (n_0 2) ∧ (f_0 6 v_p) = -1) ∨ (zz2_ = 0 ∧ ¬ (0 ≤ v_p ∧ v_p < (n_0 2) ∧ (f_0 6 v_p) = -1)) := hq2_
  clear hq2_
  rcases hh2_ with ⟨ee2_, hh2_⟩ | ⟨ee2_, hh2_⟩
  · subst ee2_
    refine j_if_eq E 13 41 rfl (rr (by decide)) dX10_know_10 (by decide) (fun cc3_ => absurd cc3_ (by decide)) (fun _ => ?_)
    refine j_aload_n E 14 rfl dX10_know_13 rfl (lv_at hl 0 rfl) ?_
    refine j_iload_n E 15 rfl dX10_know_14 rfl (lv_at hl 2 rfl) ?_
    refine m_callp (po := fun z_0 => (z_0 = 1 ∧ 0 ≤ v_x ∧ v_x < (n_0 12)) ∨ (z_0 = 0 ∧ (v_x < 0 ∨ (n_0 12) ≤ v_x))) E (c_X10_isLine l D cy q (upN n_0 0 0) (f_0) v_x  r_v_x ) rfl mt_X10_isLine ml_X10_188 hK hw hA ⟨Nat.le_of_ble_eq_true rfl, Nat.le_of_ble_eq_true rfl⟩ (As := [.int (J v_x)]) (rest := []) rfl rfl hl.1 (Nat.le_of_ble_eq_true rfl) 18 rfl dX10_know_15 (fun zz4_ H locs rr4_ hq4_ hw => ?_)
    have hh4_ : (zz4_ = 1 ∧ 0 ≤ v_x ∧ v_x < (n_0 12)) ∨ (zz4_ = 0 ∧ (v_x < 0 ∨ (n_0 12) ≤ v_x)) := hq4_
    clear hq4_
    rcases hh4_ with ⟨ee4_, hh4_⟩ | ⟨ee4_, hh4_⟩
    · subst ee4_
      refine j_if_eq E 21 41 rfl (rr (by decide)) dX10_know_18 (by decide) (fun cc5_ => absurd cc5_ (by decide)) (fun _ => ?_)
      refine j_aload_n E 22 rfl dX10_know_21 rfl (lv_at hl 0 rfl) ?_
      refine j_iload_n E 23 rfl dX10_know_22 rfl (lv_at hl 3 rfl) ?_
      refine m_callp (po := fun z_0 => (z_0 = 1 ∧ 0 ≤ v_w ∧ v_w < (n_0 29)) ∨ (z_0 = 0 ∧ (v_w < 0 ∨ (n_0 29) ≤ v_w))) E (c_X10_isWording l D cy q (upN n_0 0 0) (f_0) v_w  r_v_w ) rfl mt_X10_isWording ml_X10_191 hK hw hA ⟨Nat.le_of_ble_eq_true rfl, Nat.le_of_ble_eq_true rfl⟩ (As := [.int (J v_w)]) (rest := []) rfl rfl hl.1 (Nat.le_of_ble_eq_true rfl) 26 rfl dX10_know_23 (fun zz6_ H locs rr6_ hq6_ hw => ?_)
      have hh6_ : (zz6_ = 1 ∧ 0 ≤ v_w ∧ v_w < (n_0 29)) ∨ (zz6_ = 0 ∧ (v_w < 0 ∨ (n_0 29) ≤ v_w)) := hq6_
      clear hq6_
      rcases hh6_ with ⟨ee6_, hh6_⟩ | ⟨ee6_, hh6_⟩
      · subst ee6_
        refine j_if_eq E 29 41 rfl (rr (by decide)) dX10_know_26 (by decide) (fun cc7_ => absurd cc7_ (by decide)) (fun _ => ?_)
        refine j_aload_n E 30 rfl dX10_know_29 rfl (lv_at hl 0 rfl) ?_
        refine j_iload E 32 rfl dX10_know_30 (lv_at hl 4 rfl) ?_
        refine j_iconst E 33 rfl dX10_know_32 ?_
        refine j_bipush E 35 rfl dX10_know_33 (by decide) ?_
        refine m_callp (po := fun z_0 => (z_0 = 1 ∧ (1 : Int) ≤ v_by ∧ v_by ≤ (9 : Int)) ∨ (z_0 = 0 ∧ (v_by < (1 : Int) ∨ (9 : Int) < v_by))) E (c_X10_isIn l D cy q (upN n_0 0 0) (f_0) v_by 1 9  r_v_by (rr (by decide)) (rr (by decide)) ) rfl mt_X10_isIn ml_X10_169 hK hw hA ⟨Nat.le_of_ble_eq_true rfl, Nat.le_of_ble_eq_true rfl⟩ (As := [.int (J v_by), .int (J 1), .int (J 9)]) (rest := []) rfl rfl hl.1 (Nat.le_of_ble_eq_true rfl) 38 rfl dX10_know_35 (fun zz8_ H locs rr8_ hq8_ hw => ?_)
        have hh8_ : (zz8_ = 1 ∧ (1 : Int) ≤ v_by ∧ v_by ≤ (9 : Int)) ∨ (zz8_ = 0 ∧ (v_by < (1 : Int) ∨ (9 : Int) < v_by)) := hq8_
        clear hq8_
        rcases hh8_ with ⟨ee8_, hh8_⟩ | ⟨ee8_, hh8_⟩
        · subst ee8_
          refine j_if_ne E 41 43 rfl (rr (by decide)) dX10_know_38 (by decide) (fun _ => ?_) (fun cc9_ => absurd cc9_ (by decide))
          refine j_aload_n E 44 rfl dX10_know_43 rfl (lv_at hl 0 rfl) ?_
          refine j_iload_n E 45 rfl dX10_know_44 rfl (lv_at hl 1 rfl) ?_
          refine j_iload_n E 46 rfl dX10_know_45 rfl (lv_at hl 2 rfl) ?_
          refine j_iload_n E 47 rfl dX10_know_46 rfl (lv_at hl 3 rfl) ?_
          refine j_iload E 49 rfl dX10_know_47 (lv_at hl 4 rfl) ?_
          refine j_iconst E 50 rfl dX10_know_49 ?_
          refine m_callv E (c_X10_gets l D cy q (upN n_0 0 0) (f_0) v_p v_x v_w v_by ((-1))  r_v_p r_v_x r_v_w r_v_by (rr (by decide)) (show 0 ≤ v_p ∧ v_p < 24 from by omega) (show 0 ≤ v_x ∧ v_x < 24 from by omega)) rfl mt_X10_gets ml_X10_194 hK hw hA ⟨Nat.le_of_ble_eq_true rfl, Nat.le_of_ble_eq_true rfl⟩ (As := [.int (J v_p), .int (J v_x), .int (J v_w), .int (J v_by), .int (J ((-1)))]) (rest := []) rfl rfl hl.1 (Nat.le_of_ble_eq_true rfl) 53 rfl dX10_know_50 (fun n_10 f_10 H locs hq10_ hw => ?_)
          obtain ⟨y19_10, y20_10, y21_10, en10_, ef10_, hq10_⟩ := hq10_
          rw [en10_, ef10_] at hw; clear en10_ ef10_
          have hw : WM D cy q (upN n_0 0 0) (upF (upF (upF f_0 19 y19_10) 20 y20_10) 21 y21_10) A0 H0 H locs := hw
          have hh10_ : (y19_10) = upA (f_0 19) (24 * v_p + v_x) v_by ∧ (y20_10) = upA (f_0 20) (24 * v_p + v_x) v_w ∧ (y21_10) = upA (f_0 21) (24 * v_p + v_x) (-1 : Int) := hq10_
          clear hq10_
          have hu_ : Str_ (y19_10) (y20_10) (n_0 29) := by rw [hh10_.1, hh10_.2.1]; exact Str_upW (Str_up2 i_str) (by omega)
          refine j_iconst E 54 rfl dX10_know_53 ?_
          exact hret 54 1 (upN n_0 0 0) (upF (upF (upF f_0 19 y19_10) 20 y20_10) 21 y21_10) _ _ ls hw (Or.inr rfl) ⟨0, y19_10, y20_10, y21_10, rfl, rfl, ⟨⟨i_now, i_persons, i_lines, i_wordings, i_taped, i_suits, i_spk, i_fam, (show Str_ (y19_10) (y20_10) (n_0 29) from hu_), i_said, i_book, i_wds, i_tok, i_cod, i_far, i_tap⟩, by omega⟩⟩ dX10_know_54
        · subst ee8_
          refine j_if_ne E 41 43 rfl (rr (by decide)) dX10_know_38 (by decide) (fun cc11_ => absurd cc11_ (by decide)) (fun _ => ?_)
          refine j_iconst E 42 rfl dX10_know_41 ?_
          exact hret 42 0 (upN n_0 0 0) (upF (upF (upF f_0 19 (f_0 19)) 20 (f_0 20)) 21 (f_0 21)) _ _ ls hw (Or.inl rfl) ⟨0, (f_0 19), (f_0 20), (f_0 21), rfl, rfl, ⟨⟨i_now, i_persons, i_lines, i_wordings, i_taped, i_suits, i_spk, i_fam, i_str, i_said, i_book, i_wds, i_tok, i_cod, i_far, i_tap⟩, by omega⟩⟩ dX10_know_42
      · subst ee6_
        refine j_if_eq E 29 41 rfl (rr (by decide)) dX10_know_26 (by decide) (fun _ => ?_) (fun cc12_ => absurd cc12_ (by decide))
        refine j_iconst E 42 rfl dX10_know_41 ?_
        exact hret 42 0 (upN n_0 0 0) (upF (upF (upF f_0 19 (f_0 19)) 20 (f_0 20)) 21 (f_0 21)) _ _ ls hw (Or.inl rfl) ⟨0, (f_0 19), (f_0 20), (f_0 21), rfl, rfl, ⟨⟨i_now, i_persons, i_lines, i_wordings, i_taped, i_suits, i_spk, i_fam, i_str, i_said, i_book, i_wds, i_tok, i_cod, i_far, i_tap⟩, by omega⟩⟩ dX10_know_42
    · subst ee4_
      refine j_if_eq E 21 41 rfl (rr (by decide)) dX10_know_18 (by decide) (fun _ => ?_) (fun cc13_ => absurd cc13_ (by decide))
      refine j_iconst E 42 rfl dX10_know_41 ?_
      exact hret 42 0 (upN n_0 0 0) (upF (upF (upF f_0 19 (f_0 19)) 20 (f_0 20)) 21 (f_0 21)) _ _ ls hw (Or.inl rfl) ⟨0, (f_0 19), (f_0 20), (f_0 21), rfl, rfl, ⟨⟨i_now, i_persons, i_lines, i_wordings, i_taped, i_suits, i_spk, i_fam, i_str, i_said, i_book, i_wds, i_tok, i_cod, i_far, i_tap⟩, by omega⟩⟩ dX10_know_42
  · subst ee2_
    refine j_if_eq E 13 41 rfl (rr (by decide)) dX10_know_10 (by decide) (fun _ => ?_) (fun cc14_ => absurd cc14_ (by decide))
    refine j_iconst E 42 rfl dX10_know_41 ?_
    exact hret 42 0 (upN n_0 0 0) (upF (upF (upF f_0 19 (f_0 19)) 20 (f_0 20)) 21 (f_0 21)) _ _ ls hw (Or.inl rfl) ⟨0, (f_0 19), (f_0 20), (f_0 21), rfl, rfl, ⟨⟨i_now, i_persons, i_lines, i_wordings, i_taped, i_suits, i_spk, i_fam, i_str, i_said, i_book, i_wds, i_tok, i_cod, i_far, i_tap⟩, by omega⟩⟩ dX10_know_42
set_option maxHeartbeats 4000000 in
set_option maxRecDepth 100000 in
theorem c3_X10_book (l : Launch) (D : va_G) (cy : Nat → ClassId) (q : Nat → Nat) (n_0 : Nat → Int) (f_0 : Nat → Int → Int) (v_x v_w : Int) (r_v_x : inR v_x) (r_v_w : inR v_w) (hp0 : MI (n_0) (f_0)) : MC l D cy q yX10_book cX10_book 3 (some .boolean) 1 [.int (J v_x), .int (J v_w)] n_0 f_0 (PI (fun (z_0 : Int) (n_2 : Nat → Int) (f_2 : Nat → Int → Int) => ∃ (x0_2 : Int) (y67_2 : Int → Int) , n_2 = upN n_0 0 x0_2 ∧ f_2 = upF f_0 67 y67_2 ∧ (MI (upN n_0 0 x0_2) (upF f_0 67 y67_2) ∧ ((z_0 = 1 ∧ (0 ≤ v_x ∧ v_x < (n_0 12)) ∧ (v_w = -1 ∨ (0 ≤ v_w ∧ v_w < (n_0 29)))) ∨ (z_0 = 0 ∧ ¬ ((0 ≤ v_x ∧ v_x < (n_0 12)) ∧ (v_w = -1 ∨ (0 ≤ v_w ∧ v_w < (n_0 29))))))))) := by
  refine MC.ofz rfl (Nat.le_of_ble_eq_true rfl) ?_
  intro p e s m below meth c ls ar QW A0 H0 H locs E hK hA hw hl hret
  have hl : lv_has ls 3 [(0, .ref (q 0)), (1, .int (J v_x)), (2, .int (J v_w))] := hl
  have hp0_ := hp0
  obtain ⟨i_now, i_persons, i_lines, i_wordings, i_taped, i_suits, i_spk, i_fam, i_str, i_said, i_book, i_wds, i_tok, i_cod, i_far, i_tap⟩ := hp0_
  refine j_aload_n E 1 rfl dX10_book_0 rfl (lv_at hl 0 rfl) ?_
  refine j_iconst E 2 rfl dX10_book_1 ?_
  refine m_put_0 E hK hw (rr (by decide)) 5 rfl dX10_book_2 (fun H locs hw => ?_)
  have hw : WM D cy q (upN n_0 0 0) (f_0) A0 H0 H locs := hw
  refine j_aload_n E 6 rfl dX10_book_5 rfl (lv_at hl 0 rfl) ?_
  refine j_iload_n E 7 rfl dX10_book_6 rfl (lv_at hl 1 rfl) ?_
  refine m_callp (po := fun z_0 => (z_0 = 1 ∧ 0 ≤ v_x ∧ v_x < (n_0 12)) ∨ (z_0 = 0 ∧ (v_x < 0 ∨ (n_0 12) ≤ v_x))) E (c_X10_isLine l D cy q (upN n_0 0 0) (f_0) v_x  r_v_x ) rfl mt_X10_isLine ml_X10_188 hK hw hA ⟨Nat.le_of_ble_eq_true rfl, Nat.le_of_ble_eq_true rfl⟩ (As := [.int (J v_x)]) (rest := []) rfl rfl hl.1 (Nat.le_of_ble_eq_true rfl) 10 rfl dX10_book_7 (fun zz2_ H locs rr2_ hq2_ hw => ?_)
  have hh2_ : (zz2_ = 1 ∧ 0 ≤ v_x ∧ v_x < (n_0 12)) ∨ (zz2_ = 0 ∧ (v_x < 0 ∨ (n_0 12) ≤ v_x)) := hq2_
  clear hq2_
  rcases hh2_ with ⟨ee2_, hh2_⟩ | ⟨ee2_, hh2_⟩
  · subst ee2_
    refine j_if_eq E 13 26 rfl (rr (by decide)) dX10_book_10 (by decide) (fun cc3_ => absurd cc3_ (by decide)) (fun _ => ?_)
    refine j_iload_n E 14 rfl dX10_book_13 rfl (lv_at hl 2 rfl) ?_
    refine j_iconst E 15 rfl dX10_book_14 ?_
    refine j_icmp_eq E 18 28 rfl r_v_w (rr (by decide)) dX10_book_15 (by decide) (fun cc4_ => ?_) (fun cc4_ => ?_)
    · refine j_aload_n E 29 rfl dX10_book_28 rfl (lv_at hl 0 rfl) ?_
      refine m_ag_67 E hK hw 32 rfl dX10_book_29 ?_
      refine j_iload_n E 33 rfl dX10_book_32 rfl (lv_at hl 1 rfl) ?_
      refine j_iload_n E 34 rfl dX10_book_33 rfl (lv_at hl 2 rfl) ?_
      refine m_st_67 E hK hw (by omega) r_v_w 35 rfl dX10_book_34 (fun H locs hw => ?_)
      have hw : WM D cy q (upN n_0 0 0) (upF f_0 67 (upA (f_0 67) v_x v_w)) A0 H0 H locs := hw
      refine j_iconst E 36 rfl dX10_book_35 ?_
      exact hret 36 1 (upN n_0 0 0) (upF f_0 67 (upA (f_0 67) v_x v_w)) _ _ ls hw (Or.inr rfl) ⟨0, (upA (f_0 67) v_x v_w), rfl, rfl, ⟨⟨i_now, i_persons, i_lines, i_wordings, i_taped, i_suits, i_spk, i_fam, i_str, i_said, (show Book_ (upA (f_0 67) v_x v_w) (n_0 12) (n_0 29) from by first | exact i_book | exact Book_up i_book (by omega)), i_wds, i_tok, i_cod, i_far, i_tap⟩, by omega⟩⟩ dX10_book_36
    · refine j_aload_n E 19 rfl dX10_book_18 rfl (lv_at hl 0 rfl) ?_
      refine j_iload_n E 20 rfl dX10_book_19 rfl (lv_at hl 2 rfl) ?_
      refine m_callp (po := fun z_0 => (z_0 = 1 ∧ 0 ≤ v_w ∧ v_w < (n_0 29)) ∨ (z_0 = 0 ∧ (v_w < 0 ∨ (n_0 29) ≤ v_w))) E (c_X10_isWording l D cy q (upN n_0 0 0) (f_0) v_w  r_v_w ) rfl mt_X10_isWording ml_X10_191 hK hw hA ⟨Nat.le_of_ble_eq_true rfl, Nat.le_of_ble_eq_true rfl⟩ (As := [.int (J v_w)]) (rest := []) rfl rfl hl.1 (Nat.le_of_ble_eq_true rfl) 23 rfl dX10_book_20 (fun zz6_ H locs rr6_ hq6_ hw => ?_)
      have hh6_ : (zz6_ = 1 ∧ 0 ≤ v_w ∧ v_w < (n_0 29)) ∨ (zz6_ = 0 ∧ (v_w < 0 ∨ (n_0 29) ≤ v_w)) := hq6_
      clear hq6_
      rcases hh6_ with ⟨ee6_, hh6_⟩ | ⟨ee6_, hh6_⟩
      · subst ee6_
        refine j_if_ne E 26 28 rfl (rr (by decide)) dX10_book_23 (by decide) (fun _ => ?_) (fun cc7_ => absurd cc7_ (by decide))
        refine j_aload_n E 29 rfl dX10_book_28 rfl (lv_at hl 0 rfl) ?_
        refine m_ag_67 E hK hw 32 rfl dX10_book_29 ?_
        refine j_iload_n E 33 rfl dX10_book_32 rfl (lv_at hl 1 rfl) ?_
        refine j_iload_n E 34 rfl dX10_book_33 rfl (lv_at hl 2 rfl) ?_
        refine m_st_67 E hK hw (by omega) r_v_w 35 rfl dX10_book_34 (fun H locs hw => ?_)
        have hw : WM D cy q (upN n_0 0 0) (upF f_0 67 (upA (f_0 67) v_x v_w)) A0 H0 H locs := hw
        refine j_iconst E 36 rfl dX10_book_35 ?_
        exact hret 36 1 (upN n_0 0 0) (upF f_0 67 (upA (f_0 67) v_x v_w)) _ _ ls hw (Or.inr rfl) ⟨0, (upA (f_0 67) v_x v_w), rfl, rfl, ⟨⟨i_now, i_persons, i_lines, i_wordings, i_taped, i_suits, i_spk, i_fam, i_str, i_said, (show Book_ (upA (f_0 67) v_x v_w) (n_0 12) (n_0 29) from by first | exact i_book | exact Book_up i_book (by omega)), i_wds, i_tok, i_cod, i_far, i_tap⟩, by omega⟩⟩ dX10_book_36
      · subst ee6_
        refine j_if_ne E 26 28 rfl (rr (by decide)) dX10_book_23 (by decide) (fun cc9_ => absurd cc9_ (by decide)) (fun _ => ?_)
        refine j_iconst E 27 rfl dX10_book_26 ?_
        exact hret 27 0 (upN n_0 0 0) (upF f_0 67 (f_0 67)) _ _ ls hw (Or.inl rfl) ⟨0, (f_0 67), rfl, rfl, ⟨⟨i_now, i_persons, i_lines, i_wordings, i_taped, i_suits, i_spk, i_fam, i_str, i_said, (show Book_ (f_0 67) (n_0 12) (n_0 29) from by first | exact i_book | exact Book_up i_book (by omega)), i_wds, i_tok, i_cod, i_far, i_tap⟩, by omega⟩⟩ dX10_book_27
  · subst ee2_
    refine j_if_eq E 13 26 rfl (rr (by decide)) dX10_book_10 (by decide) (fun _ => ?_) (fun cc10_ => absurd cc10_ (by decide))
    refine j_iconst E 27 rfl dX10_book_26 ?_
    exact hret 27 0 (upN n_0 0 0) (upF f_0 67 (f_0 67)) _ _ ls hw (Or.inl rfl) ⟨0, (f_0 67), rfl, rfl, ⟨⟨i_now, i_persons, i_lines, i_wordings, i_taped, i_suits, i_spk, i_fam, i_str, i_said, (show Book_ (f_0 67) (n_0 12) (n_0 29) from by first | exact i_book | exact Book_up i_book (by omega)), i_wds, i_tok, i_cod, i_far, i_tap⟩, by omega⟩⟩ dX10_book_27
set_option maxHeartbeats 4000000 in
set_option maxRecDepth 100000 in
theorem c3_X10_fault (l : Launch) (D : va_G) (cy : Nat → ClassId) (q : Nat → Nat) (n_0 : Nat → Int) (f_0 : Nat → Int → Int) (v_what : Int) (r_v_what : inR v_what) (hp0 : MI (n_0) (f_0)) : MC l D cy q yX10_fault cX10_fault 2 (some .int) 0 [.int (J v_what)] n_0 f_0 (PI (fun (z_0 : Int) (n_2 : Nat → Int) (f_2 : Nat → Int → Int) => ∃ (x0_2 : Int) , n_2 = upN n_0 0 x0_2 ∧ f_2 = f_0 ∧ (MI (upN n_0 0 x0_2) (f_0) ∧ ((v_what = 0 ∧ z_0 = (n_0 43)) ∨ (v_what = 1 ∧ z_0 = (n_0 44)) ∨ (¬ v_what = 0 ∧ ¬ v_what = 1 ∧ z_0 = -1))))) := by
  refine MC.ofi rfl (Nat.le_of_ble_eq_true rfl) ?_
  intro p e s m below meth c ls ar QW A0 H0 H locs E hK hA hw hl hret
  have hl : lv_has ls 2 [(0, .ref (q 0)), (1, .int (J v_what))] := hl
  have hp0_ := hp0
  obtain ⟨i_now, i_persons, i_lines, i_wordings, i_taped, i_suits, i_spk, i_fam, i_str, i_said, i_book, i_wds, i_tok, i_cod, i_far, i_tap⟩ := hp0_
  refine j_aload_n E 1 rfl dX10_fault_0 rfl (lv_at hl 0 rfl) ?_
  refine j_iconst E 2 rfl dX10_fault_1 ?_
  refine m_put_0 E hK hw (rr (by decide)) 5 rfl dX10_fault_2 (fun H locs hw => ?_)
  have hw : WM D cy q (upN n_0 0 0) (f_0) A0 H0 H locs := hw
  refine j_iload_n E 6 rfl dX10_fault_5 rfl (lv_at hl 1 rfl) ?_
  refine j_if_ne E 9 16 rfl r_v_what dX10_fault_6 (by decide) (fun cc2_ => ?_) (fun cc2_ => ?_)
  · refine j_iload_n E 17 rfl dX10_fault_16 rfl (lv_at hl 1 rfl) ?_
    refine j_iconst E 18 rfl dX10_fault_17 ?_
    refine j_icmp_ne E 21 28 rfl r_v_what (rr (by decide)) dX10_fault_18 (by decide) (fun cc3_ => ?_) (fun cc3_ => ?_)
    · refine j_iconst E 29 rfl dX10_fault_28 ?_
      exact hret 29 ((-1)) (upN n_0 0 0) (f_0) _ _ ls hw (rr (by decide)) ⟨0, rfl, rfl, ⟨⟨i_now, i_persons, i_lines, i_wordings, i_taped, i_suits, i_spk, i_fam, i_str, i_said, i_book, i_wds, i_tok, i_cod, i_far, i_tap⟩, by omega⟩⟩ dX10_fault_29
    · refine j_aload_n E 22 rfl dX10_fault_21 rfl (lv_at hl 0 rfl) ?_
      refine m_get_44 E hK hw (n_0 44) rfl 25 rfl dX10_fault_22 (fun rr4_ => ?_)
      refine j_goto E 29 dX10_fault_25 (by decide) ?_
      exact hret 29 (n_0 44) (upN n_0 0 0) (f_0) _ _ ls hw rr4_ ⟨0, rfl, rfl, ⟨⟨i_now, i_persons, i_lines, i_wordings, i_taped, i_suits, i_spk, i_fam, i_str, i_said, i_book, i_wds, i_tok, i_cod, i_far, i_tap⟩, by omega⟩⟩ dX10_fault_29
  · refine j_aload_n E 10 rfl dX10_fault_9 rfl (lv_at hl 0 rfl) ?_
    refine m_get_43 E hK hw (n_0 43) rfl 13 rfl dX10_fault_10 (fun rr5_ => ?_)
    refine j_goto E 29 dX10_fault_13 (by decide) ?_
    exact hret 29 (n_0 43) (upN n_0 0 0) (f_0) _ _ ls hw rr5_ ⟨0, rfl, rfl, ⟨⟨i_now, i_persons, i_lines, i_wordings, i_taped, i_suits, i_spk, i_fam, i_str, i_said, i_book, i_wds, i_tok, i_cod, i_far, i_tap⟩, by omega⟩⟩ dX10_fault_29
set_option maxHeartbeats 4000000 in
set_option maxRecDepth 100000 in
theorem c3_X10_dies (l : Launch) (D : va_G) (cy : Nat → ClassId) (q : Nat → Nat) (n_0 : Nat → Int) (f_0 : Nat → Int → Int) (v_p : Int) (r_v_p : inR v_p) (hp0 : MI (n_0) (f_0)) : MC l D cy q yX10_dies cX10_dies 2 (some .boolean) 2 [.int (J v_p)] n_0 f_0 (PI (fun (z_0 : Int) (n_2 : Nat → Int) (f_2 : Nat → Int → Int) => ∃ (x0_2 : Int) (y6_2 : Int → Int) , n_2 = upN n_0 0 x0_2 ∧ f_2 = upF f_0 6 y6_2 ∧ (MI (upN n_0 0 x0_2) (upF f_0 6 y6_2) ∧ ((z_0 = 0 ∧ (y6_2) = (f_0 6) ∧ ¬ (0 ≤ v_p ∧ v_p < (n_0 2) ∧ (f_0 6 v_p) = -1)) ∨ (z_0 = 1 ∧ (0 ≤ v_p ∧ v_p < (n_0 2) ∧ (f_0 6 v_p) = -1) ∧ (y6_2) = upA (f_0 6) v_p (n_0 1)))))) := by
  refine MC.ofz rfl (Nat.le_of_ble_eq_true rfl) ?_
  intro p e s m below meth c ls ar QW A0 H0 H locs E hK hA hw hl hret
  have hl : lv_has ls 2 [(0, .ref (q 0)), (1, .int (J v_p))] := hl
  have hp0_ := hp0
  obtain ⟨i_now, i_persons, i_lines, i_wordings, i_taped, i_suits, i_spk, i_fam, i_str, i_said, i_book, i_wds, i_tok, i_cod, i_far, i_tap⟩ := hp0_
  refine j_aload_n E 1 rfl dX10_dies_0 rfl (lv_at hl 0 rfl) ?_
  refine j_iconst E 2 rfl dX10_dies_1 ?_
  refine m_put_0 E hK hw (rr (by decide)) 5 rfl dX10_dies_2 (fun H locs hw => ?_)
  have hw : WM D cy q (upN n_0 0 0) (f_0) A0 H0 H locs := hw
  refine j_aload_n E 6 rfl dX10_dies_5 rfl (lv_at hl 0 rfl) ?_
  refine j_iload_n E 7 rfl dX10_dies_6 rfl (lv_at hl 1 rfl) ?_
  refine m_callp (po := fun z_0 => (z_0 = 1 ∧ 0 ≤ v_p ∧ v_p < (n_0 2) ∧ (f_0 6 v_p) = -1) ∨ (z_0 = 0 ∧ ¬ (0 ≤ v_p ∧ v_p < (n_0 2) ∧ (f_0 6 v_p) = -1))) E (c_X10_isLiving l D cy q (upN n_0 0 0) (f_0) v_p  r_v_p (show (n_0 2) ≤ 24 from by omega)) rfl mt_X10_isLiving ml_X10_176 hK hw hA ⟨Nat.le_of_ble_eq_true rfl, Nat.le_of_ble_eq_true rfl⟩ (As := [.int (J v_p)]) (rest := []) rfl rfl hl.1 (Nat.le_of_ble_eq_true rfl) 10 rfl dX10_dies_7 (fun zz2_ H locs rr2_ hq2_ hw => ?_)
  have hh2_ : (zz2_ = 1 ∧ 0 ≤ v_p ∧ v_p < (n_0 2) ∧ (f_0 6 v_p) = -1) ∨ (zz2_ = 0 ∧ ¬ (0 ≤ v_p ∧ v_p < (n_0 2) ∧ (f_0 6 v_p) = -1)) := hq2_
  clear hq2_
  rcases hh2_ with ⟨ee2_, hh2_⟩ | ⟨ee2_, hh2_⟩
  · subst ee2_
    refine j_if_ne E 13 15 rfl (rr (by decide)) dX10_dies_10 (by decide) (fun _ => ?_) (fun cc3_ => absurd cc3_ (by decide))
    refine j_aload_n E 16 rfl dX10_dies_15 rfl (lv_at hl 0 rfl) ?_
    refine m_ag_6 E hK hw 19 rfl dX10_dies_16 ?_
    refine j_iload_n E 20 rfl dX10_dies_19 rfl (lv_at hl 1 rfl) ?_
    refine j_aload_n E 21 rfl dX10_dies_20 rfl (lv_at hl 0 rfl) ?_
    refine m_get_1 E hK hw (n_0 1) rfl 24 rfl dX10_dies_21 (fun rr4_ => ?_)
    refine m_st_6 E hK hw (by omega) rr4_ 25 rfl dX10_dies_24 (fun H locs hw => ?_)
    have hw : WM D cy q (upN n_0 0 0) (upF f_0 6 (upA (f_0 6) v_p (n_0 1))) A0 H0 H locs := hw
    refine j_iconst E 26 rfl dX10_dies_25 ?_
    exact hret 26 1 (upN n_0 0 0) (upF f_0 6 (upA (f_0 6) v_p (n_0 1))) _ _ ls hw (Or.inr rfl) ⟨0, (upA (f_0 6) v_p (n_0 1)), rfl, rfl, ⟨⟨i_now, i_persons, i_lines, i_wordings, i_taped, i_suits, i_spk, i_fam, i_str, i_said, i_book, i_wds, i_tok, i_cod, i_far, i_tap⟩, by first | exact Or.inl ⟨rfl, rfl, by assumption⟩ | exact Or.inr ⟨rfl, by assumption, rfl⟩⟩⟩ dX10_dies_26
  · subst ee2_
    refine j_if_ne E 13 15 rfl (rr (by decide)) dX10_dies_10 (by decide) (fun cc6_ => absurd cc6_ (by decide)) (fun _ => ?_)
    refine j_iconst E 14 rfl dX10_dies_13 ?_
    exact hret 14 0 (upN n_0 0 0) (upF f_0 6 (f_0 6)) _ _ ls hw (Or.inl rfl) ⟨0, (f_0 6), rfl, rfl, ⟨⟨i_now, i_persons, i_lines, i_wordings, i_taped, i_suits, i_spk, i_fam, i_str, i_said, i_book, i_wds, i_tok, i_cod, i_far, i_tap⟩, by first | exact Or.inl ⟨rfl, rfl, by assumption⟩ | exact Or.inr ⟨rfl, by assumption, rfl⟩⟩⟩ dX10_dies_14
set_option maxHeartbeats 4000000 in
set_option maxRecDepth 100000 in
theorem c3_X10_away (l : Launch) (D : va_G) (cy : Nat → ClassId) (q : Nat → Nat) (n_0 : Nat → Int) (f_0 : Nat → Int → Int) (v_p : Int) (r_v_p : inR v_p) (hp0 : MI (n_0) (f_0)) : MC l D cy q yX10_away cX10_away 2 (some .boolean) 2 [.int (J v_p)] n_0 f_0 (PI (fun (z_0 : Int) (n_2 : Nat → Int) (f_2 : Nat → Int → Int) => ∃ (x0_2 : Int) (y7_2 : Int → Int) , n_2 = upN n_0 0 x0_2 ∧ f_2 = upF f_0 7 y7_2 ∧ (MI (upN n_0 0 x0_2) (upF f_0 7 y7_2) ∧ ((z_0 = 0 ∧ (y7_2) = (f_0 7) ∧ (¬ (0 ≤ v_p ∧ v_p < (n_0 2) ∧ (f_0 6 v_p) = -1) ∨ ¬ (f_0 7 v_p) = 0)) ∨ (z_0 = 1 ∧ (0 ≤ v_p ∧ v_p < (n_0 2) ∧ (f_0 6 v_p) = -1) ∧ (f_0 7 v_p) = 0 ∧ (y7_2) = upA (f_0 7) v_p 1))))) := by
  refine MC.ofz rfl (Nat.le_of_ble_eq_true rfl) ?_
  intro p e s m below meth c ls ar QW A0 H0 H locs E hK hA hw hl hret
  have hl : lv_has ls 2 [(0, .ref (q 0)), (1, .int (J v_p))] := hl
  have hp0_ := hp0
  obtain ⟨i_now, i_persons, i_lines, i_wordings, i_taped, i_suits, i_spk, i_fam, i_str, i_said, i_book, i_wds, i_tok, i_cod, i_far, i_tap⟩ := hp0_
  refine j_aload_n E 1 rfl dX10_away_0 rfl (lv_at hl 0 rfl) ?_
  refine j_iconst E 2 rfl dX10_away_1 ?_
  refine m_put_0 E hK hw (rr (by decide)) 5 rfl dX10_away_2 (fun H locs hw => ?_)
  have hw : WM D cy q (upN n_0 0 0) (f_0) A0 H0 H locs := hw
  refine j_aload_n E 6 rfl dX10_away_5 rfl (lv_at hl 0 rfl) ?_
  refine j_iload_n E 7 rfl dX10_away_6 rfl (lv_at hl 1 rfl) ?_
  refine m_callp (po := fun z_0 => (z_0 = 1 ∧ 0 ≤ v_p ∧ v_p < (n_0 2) ∧ (f_0 6 v_p) = -1) ∨ (z_0 = 0 ∧ ¬ (0 ≤ v_p ∧ v_p < (n_0 2) ∧ (f_0 6 v_p) = -1))) E (c_X10_isLiving l D cy q (upN n_0 0 0) (f_0) v_p  r_v_p (show (n_0 2) ≤ 24 from by omega)) rfl mt_X10_isLiving ml_X10_176 hK hw hA ⟨Nat.le_of_ble_eq_true rfl, Nat.le_of_ble_eq_true rfl⟩ (As := [.int (J v_p)]) (rest := []) rfl rfl hl.1 (Nat.le_of_ble_eq_true rfl) 10 rfl dX10_away_7 (fun zz2_ H locs rr2_ hq2_ hw => ?_)
  have hh2_ : (zz2_ = 1 ∧ 0 ≤ v_p ∧ v_p < (n_0 2) ∧ (f_0 6 v_p) = -1) ∨ (zz2_ = 0 ∧ ¬ (0 ≤ v_p ∧ v_p < (n_0 2) ∧ (f_0 6 v_p) = -1)) := hq2_
  clear hq2_
  rcases hh2_ with ⟨ee2_, hh2_⟩ | ⟨ee2_, hh2_⟩
  · subst ee2_
    refine j_if_eq E 13 22 rfl (rr (by decide)) dX10_away_10 (by decide) (fun cc3_ => absurd cc3_ (by decide)) (fun _ => ?_)
    refine j_aload_n E 14 rfl dX10_away_13 rfl (lv_at hl 0 rfl) ?_
    refine m_ag_7 E hK hw 17 rfl dX10_away_14 ?_
    refine j_iload_n E 18 rfl dX10_away_17 rfl (lv_at hl 1 rfl) ?_
    refine m_ld_7 E hK hw (f_0 7 v_p) rfl (by omega) 19 rfl dX10_away_18 (fun rr4_ => ?_)
    refine j_if_eq E 22 24 rfl rr4_ dX10_away_19 (by decide) (fun cc5_ => ?_) (fun cc5_ => ?_)
    · refine j_aload_n E 25 rfl dX10_away_24 rfl (lv_at hl 0 rfl) ?_
      refine m_ag_7 E hK hw 28 rfl dX10_away_25 ?_
      refine j_iload_n E 29 rfl dX10_away_28 rfl (lv_at hl 1 rfl) ?_
      refine j_iconst E 30 rfl dX10_away_29 ?_
      refine m_st_7 E hK hw (by omega) (rr (by decide)) (Or.inr rfl) 31 rfl dX10_away_30 (fun H locs hw => ?_)
      have hw : WM D cy q (upN n_0 0 0) (upF f_0 7 (upA (f_0 7) v_p 1)) A0 H0 H locs := hw
      refine j_iconst E 32 rfl dX10_away_31 ?_
      exact hret 32 1 (upN n_0 0 0) (upF f_0 7 (upA (f_0 7) v_p 1)) _ _ ls hw (Or.inr rfl) ⟨0, (upA (f_0 7) v_p 1), rfl, rfl, ⟨⟨i_now, i_persons, i_lines, i_wordings, i_taped, i_suits, i_spk, i_fam, i_str, i_said, i_book, i_wds, i_tok, i_cod, i_far, i_tap⟩, by first | exact Or.inl ⟨rfl, rfl, Or.inl (by assumption)⟩ | exact Or.inl ⟨rfl, rfl, Or.inr (by omega)⟩ | exact Or.inr ⟨rfl, by assumption, by omega, rfl⟩⟩⟩ dX10_away_32
    · refine j_iconst E 23 rfl dX10_away_22 ?_
      exact hret 23 0 (upN n_0 0 0) (upF f_0 7 (f_0 7)) _ _ ls hw (Or.inl rfl) ⟨0, (f_0 7), rfl, rfl, ⟨⟨i_now, i_persons, i_lines, i_wordings, i_taped, i_suits, i_spk, i_fam, i_str, i_said, i_book, i_wds, i_tok, i_cod, i_far, i_tap⟩, by first | exact Or.inl ⟨rfl, rfl, Or.inl (by assumption)⟩ | exact Or.inl ⟨rfl, rfl, Or.inr (by omega)⟩ | exact Or.inr ⟨rfl, by assumption, by omega, rfl⟩⟩⟩ dX10_away_23
  · subst ee2_
    refine j_if_eq E 13 22 rfl (rr (by decide)) dX10_away_10 (by decide) (fun _ => ?_) (fun cc7_ => absurd cc7_ (by decide))
    refine j_iconst E 23 rfl dX10_away_22 ?_
    exact hret 23 0 (upN n_0 0 0) (upF f_0 7 (f_0 7)) _ _ ls hw (Or.inl rfl) ⟨0, (f_0 7), rfl, rfl, ⟨⟨i_now, i_persons, i_lines, i_wordings, i_taped, i_suits, i_spk, i_fam, i_str, i_said, i_book, i_wds, i_tok, i_cod, i_far, i_tap⟩, by first | exact Or.inl ⟨rfl, rfl, Or.inl (by assumption)⟩ | exact Or.inl ⟨rfl, rfl, Or.inr (by omega)⟩ | exact Or.inr ⟨rfl, by assumption, by omega, rfl⟩⟩⟩ dX10_away_23
set_option maxHeartbeats 4000000 in
set_option maxRecDepth 100000 in
theorem c3_X10_person (l : Launch) (D : va_G) (cy : Nat → ClassId) (q : Nat → Nat) (n_0 : Nat → Int) (f_0 : Nat → Int → Int) (v_quarter v_family v_born : Int) (r_v_quarter : inR v_quarter) (r_v_family : inR v_family) (r_v_born : inR v_born) (hp0 : MI (n_0) (f_0)) : MC l D cy q yX10_person cX10_person 4 (some .int) 1 [.int (J v_quarter), .int (J v_family), .int (J v_born)] n_0 f_0 (PI (fun (z_0 : Int) (n_2 : Nat → Int) (f_2 : Nat → Int → Int) => ∃ (x0_2 : Int) (x2_2 : Int) (y3_2 : Int → Int) (y4_2 : Int → Int) (y5_2 : Int → Int) (y6_2 : Int → Int) (y8_2 : Int → Int) , n_2 = upN (upN n_0 0 x0_2) 2 x2_2 ∧ f_2 = upF (upF (upF (upF (upF f_0 3 y3_2) 4 y4_2) 5 y5_2) 6 y6_2) 8 y8_2 ∧ (MI (upN (upN n_0 0 x0_2) 2 x2_2) (upF (upF (upF (upF (upF f_0 3 y3_2) 4 y4_2) 5 y5_2) 6 y6_2) 8 y8_2) ∧ ((z_0 = -1 ∧ (v_quarter < 0 ∨ 3 < v_quarter ∨ v_family < 0 ∨ 7 < v_family ∨ v_born < -90 ∨ (n_0 1) < v_born ∨ (n_0 2) = 24) ∧ (x2_2) = (n_0 2) ∧ (y3_2) = (f_0 3) ∧ (y4_2) = (f_0 4) ∧ (y5_2) = (f_0 5) ∧ (y6_2) = (f_0 6)) ∨ (z_0 = (n_0 2) ∧ (0 ≤ v_quarter ∧ v_quarter ≤ 3 ∧ 0 ≤ v_family ∧ v_family ≤ 7 ∧ -90 ≤ v_born ∧ v_born ≤ (n_0 1) ∧ (n_0 2) < 24) ∧ (x2_2) = (n_0 2) + 1 ∧ (y3_2) = upA (f_0 3) (n_0 2) v_quarter ∧ (y4_2) = upA (f_0 4) (n_0 2) v_family ∧ (y5_2) = upA (f_0 5) (n_0 2) v_born ∧ (y6_2) = upA (f_0 6) (n_0 2) (-1)))))) := by
  refine MC.ofi rfl (Nat.le_of_ble_eq_true rfl) ?_
  intro p e s m below meth c ls ar QW A0 H0 H locs E hK hA hw hl hret
  have hl : lv_has ls 4 [(0, .ref (q 0)), (1, .int (J v_quarter)), (2, .int (J v_family)), (3, .int (J v_born))] := hl
  have hp0_ := hp0
  obtain ⟨i_now, i_persons, i_lines, i_wordings, i_taped, i_suits, i_spk, i_fam, i_str, i_said, i_book, i_wds, i_tok, i_cod, i_far, i_tap⟩ := hp0_
  refine j_aload_n E 1 rfl dX10_person_0 rfl (lv_at hl 0 rfl) ?_
  refine j_iconst E 2 rfl dX10_person_1 ?_
  refine m_put_0 E hK hw (rr (by decide)) 5 rfl dX10_person_2 (fun H locs hw => ?_)
  have hw : WM D cy q (upN n_0 0 0) (f_0) A0 H0 H locs := hw
  refine j_aload_n E 6 rfl dX10_person_5 rfl (lv_at hl 0 rfl) ?_
  refine j_iload_n E 7 rfl dX10_person_6 rfl (lv_at hl 1 rfl) ?_
  refine j_iconst E 8 rfl dX10_person_7 ?_
  refine j_iconst E 9 rfl dX10_person_8 ?_
  refine m_callp (po := fun z_0 => (z_0 = 1 ∧ (0 : Int) ≤ v_quarter ∧ v_quarter ≤ (3 : Int)) ∨ (z_0 = 0 ∧ (v_quarter < (0 : Int) ∨ (3 : Int) < v_quarter))) E (c_X10_isIn l D cy q (upN n_0 0 0) (f_0) v_quarter 0 3  r_v_quarter (rr (by decide)) (rr (by decide)) ) rfl mt_X10_isIn ml_X10_169 hK hw hA ⟨Nat.le_of_ble_eq_true rfl, Nat.le_of_ble_eq_true rfl⟩ (As := [.int (J v_quarter), .int (J 0), .int (J 3)]) (rest := []) rfl rfl hl.1 (Nat.le_of_ble_eq_true rfl) 12 rfl dX10_person_9 (fun zz2_ H locs rr2_ hq2_ hw => ?_)
  have hh2_ : (zz2_ = 1 ∧ (0 : Int) ≤ v_quarter ∧ v_quarter ≤ (3 : Int)) ∨ (zz2_ = 0 ∧ (v_quarter < (0 : Int) ∨ (3 : Int) < v_quarter)) := hq2_
  clear hq2_
  rcases hh2_ with ⟨ee2_, hh2_⟩ | ⟨ee2_, hh2_⟩
  · subst ee2_
    refine j_if_eq E 15 49 rfl (rr (by decide)) dX10_person_12 (by decide) (fun cc3_ => absurd cc3_ (by decide)) (fun _ => ?_)
    refine j_aload_n E 16 rfl dX10_person_15 rfl (lv_at hl 0 rfl) ?_
    refine j_iload_n E 17 rfl dX10_person_16 rfl (lv_at hl 2 rfl) ?_
    refine j_iconst E 18 rfl dX10_person_17 ?_
    refine j_bipush E 20 rfl dX10_person_18 (by decide) ?_
    refine m_callp (po := fun z_0 => (z_0 = 1 ∧ (0 : Int) ≤ v_family ∧ v_family ≤ (7 : Int)) ∨ (z_0 = 0 ∧ (v_family < (0 : Int) ∨ (7 : Int) < v_family))) E (c_X10_isIn l D cy q (upN n_0 0 0) (f_0) v_family 0 7  r_v_family (rr (by decide)) (rr (by decide)) ) rfl mt_X10_isIn ml_X10_169 hK hw hA ⟨Nat.le_of_ble_eq_true rfl, Nat.le_of_ble_eq_true rfl⟩ (As := [.int (J v_family), .int (J 0), .int (J 7)]) (rest := []) rfl rfl hl.1 (Nat.le_of_ble_eq_true rfl) 23 rfl dX10_person_20 (fun zz4_ H locs rr4_ hq4_ hw => ?_)
    have hh4_ : (zz4_ = 1 ∧ (0 : Int) ≤ v_family ∧ v_family ≤ (7 : Int)) ∨ (zz4_ = 0 ∧ (v_family < (0 : Int) ∨ (7 : Int) < v_family)) := hq4_
    clear hq4_
    rcases hh4_ with ⟨ee4_, hh4_⟩ | ⟨ee4_, hh4_⟩
    · subst ee4_
      refine j_if_eq E 26 49 rfl (rr (by decide)) dX10_person_23 (by decide) (fun cc5_ => absurd cc5_ (by decide)) (fun _ => ?_)
      refine j_aload_n E 27 rfl dX10_person_26 rfl (lv_at hl 0 rfl) ?_
      refine j_iload_n E 28 rfl dX10_person_27 rfl (lv_at hl 3 rfl) ?_
      refine j_bipush E 30 rfl dX10_person_28 (by decide) ?_
      refine j_aload_n E 31 rfl dX10_person_30 rfl (lv_at hl 0 rfl) ?_
      refine m_get_1 E hK hw (n_0 1) rfl 34 rfl dX10_person_31 (fun rr6_ => ?_)
      refine m_callp (po := fun z_0 => (z_0 = 1 ∧ (-90 : Int) ≤ v_born ∧ v_born ≤ (n_0 1)) ∨ (z_0 = 0 ∧ (v_born < (-90 : Int) ∨ (n_0 1) < v_born))) E (c_X10_isIn l D cy q (upN n_0 0 0) (f_0) v_born ((-90)) (n_0 1)  r_v_born (rr (by decide)) rr6_ ) rfl mt_X10_isIn ml_X10_169 hK hw hA ⟨Nat.le_of_ble_eq_true rfl, Nat.le_of_ble_eq_true rfl⟩ (As := [.int (J v_born), .int (J ((-90))), .int (J (n_0 1))]) (rest := []) rfl rfl hl.1 (Nat.le_of_ble_eq_true rfl) 37 rfl dX10_person_34 (fun zz7_ H locs rr7_ hq7_ hw => ?_)
      have hh7_ : (zz7_ = 1 ∧ (-90 : Int) ≤ v_born ∧ v_born ≤ (n_0 1)) ∨ (zz7_ = 0 ∧ (v_born < (-90 : Int) ∨ (n_0 1) < v_born)) := hq7_
      clear hq7_
      rcases hh7_ with ⟨ee7_, hh7_⟩ | ⟨ee7_, hh7_⟩
      · subst ee7_
        refine j_if_eq E 40 49 rfl (rr (by decide)) dX10_person_37 (by decide) (fun cc8_ => absurd cc8_ (by decide)) (fun _ => ?_)
        refine j_aload_n E 41 rfl dX10_person_40 rfl (lv_at hl 0 rfl) ?_
        refine m_get_2 E hK hw (n_0 2) rfl 44 rfl dX10_person_41 (fun rr9_ => ?_)
        refine j_bipush E 46 rfl dX10_person_44 (by decide) ?_
        refine j_icmp_ne E 49 51 rfl rr9_ (rr (by decide)) dX10_person_46 (by decide) (fun cc10_ => ?_) (fun cc10_ => ?_)
        · refine j_aload_n E 52 rfl dX10_person_51 rfl (lv_at hl 0 rfl) ?_
          refine m_ag_3 E hK hw 55 rfl dX10_person_52 ?_
          refine j_aload_n E 56 rfl dX10_person_55 rfl (lv_at hl 0 rfl) ?_
          refine m_get_2 E hK hw (n_0 2) rfl 59 rfl dX10_person_56 (fun _ => ?_)
          refine j_iload_n E 60 rfl dX10_person_59 rfl (lv_at hl 1 rfl) ?_
          refine m_st_3 E hK hw (by omega) r_v_quarter 61 rfl dX10_person_60 (fun H locs hw => ?_)
          have hw : WM D cy q (upN n_0 0 0) (upF f_0 3 (upA (f_0 3) (n_0 2) v_quarter)) A0 H0 H locs := hw
          refine j_aload_n E 62 rfl dX10_person_61 rfl (lv_at hl 0 rfl) ?_
          refine m_ag_4 E hK hw 65 rfl dX10_person_62 ?_
          refine j_aload_n E 66 rfl dX10_person_65 rfl (lv_at hl 0 rfl) ?_
          refine m_get_2 E hK hw (n_0 2) rfl 69 rfl dX10_person_66 (fun _ => ?_)
          refine j_iload_n E 70 rfl dX10_person_69 rfl (lv_at hl 2 rfl) ?_
          refine m_st_4 E hK hw (by omega) r_v_family 71 rfl dX10_person_70 (fun H locs hw => ?_)
          have hw : WM D cy q (upN n_0 0 0) (upF (upF f_0 3 (upA (f_0 3) (n_0 2) v_quarter)) 4 (upA (f_0 4) (n_0 2) v_family)) A0 H0 H locs := hw
          refine j_aload_n E 72 rfl dX10_person_71 rfl (lv_at hl 0 rfl) ?_
          refine m_ag_5 E hK hw 75 rfl dX10_person_72 ?_
          refine j_aload_n E 76 rfl dX10_person_75 rfl (lv_at hl 0 rfl) ?_
          refine m_get_2 E hK hw (n_0 2) rfl 79 rfl dX10_person_76 (fun _ => ?_)
          refine j_iload_n E 80 rfl dX10_person_79 rfl (lv_at hl 3 rfl) ?_
          refine m_st_5 E hK hw (by omega) r_v_born 81 rfl dX10_person_80 (fun H locs hw => ?_)
          have hw : WM D cy q (upN n_0 0 0) (upF (upF (upF f_0 3 (upA (f_0 3) (n_0 2) v_quarter)) 4 (upA (f_0 4) (n_0 2) v_family)) 5 (upA (f_0 5) (n_0 2) v_born)) A0 H0 H locs := hw
          refine j_aload_n E 82 rfl dX10_person_81 rfl (lv_at hl 0 rfl) ?_
          refine m_ag_6 E hK hw 85 rfl dX10_person_82 ?_
          refine j_aload_n E 86 rfl dX10_person_85 rfl (lv_at hl 0 rfl) ?_
          refine m_get_2 E hK hw (n_0 2) rfl 89 rfl dX10_person_86 (fun _ => ?_)
          refine j_iconst E 90 rfl dX10_person_89 ?_
          refine m_st_6 E hK hw (by omega) (rr (by decide)) 91 rfl dX10_person_90 (fun H locs hw => ?_)
          have hw : WM D cy q (upN n_0 0 0) (upF (upF (upF (upF f_0 3 (upA (f_0 3) (n_0 2) v_quarter)) 4 (upA (f_0 4) (n_0 2) v_family)) 5 (upA (f_0 5) (n_0 2) v_born)) 6 (upA (f_0 6) (n_0 2) ((-1)))) A0 H0 H locs := hw
          refine j_aload_n E 92 rfl dX10_person_91 rfl (lv_at hl 0 rfl) ?_
          refine m_ag_8 E hK hw 95 rfl dX10_person_92 ?_
          refine j_aload_n E 96 rfl dX10_person_95 rfl (lv_at hl 0 rfl) ?_
          refine m_get_2 E hK hw (n_0 2) rfl 99 rfl dX10_person_96 (fun _ => ?_)
          refine j_iconst E 100 rfl dX10_person_99 ?_
          refine m_st_8 E hK hw (by omega) (rr (by decide)) 101 rfl dX10_person_100 (fun H locs hw => ?_)
          have hw : WM D cy q (upN n_0 0 0) (upF (upF (upF (upF (upF f_0 3 (upA (f_0 3) (n_0 2) v_quarter)) 4 (upA (f_0 4) (n_0 2) v_family)) 5 (upA (f_0 5) (n_0 2) v_born)) 6 (upA (f_0 6) (n_0 2) ((-1)))) 8 (upA (f_0 8) (n_0 2) ((-1)))) A0 H0 H locs := hw
          refine j_aload_n E 102 rfl dX10_person_101 rfl (lv_at hl 0 rfl) ?_
          refine j_aload_n E 103 rfl dX10_person_102 rfl (lv_at hl 0 rfl) ?_
          refine m_get_2 E hK hw (n_0 2) rfl 106 rfl dX10_person_103 (fun _ => ?_)
          refine j_iconst E 107 rfl dX10_person_106 ?_
          refine j_iadd E 108 rfl dX10_person_107 ?_
          refine m_put_2 E hK hw (rr (by omega)) 111 rfl dX10_person_108 (fun H locs hw => ?_)
          have hw : WM D cy q (upN (upN n_0 0 0) 2 ((n_0 2) + 1)) (upF (upF (upF (upF (upF f_0 3 (upA (f_0 3) (n_0 2) v_quarter)) 4 (upA (f_0 4) (n_0 2) v_family)) 5 (upA (f_0 5) (n_0 2) v_born)) 6 (upA (f_0 6) (n_0 2) ((-1)))) 8 (upA (f_0 8) (n_0 2) ((-1)))) A0 H0 H locs := hw
          refine j_aload_n E 112 rfl dX10_person_111 rfl (lv_at hl 0 rfl) ?_
          refine m_get_2 E hK hw ((n_0 2) + 1) rfl 115 rfl dX10_person_112 (fun rr17_ => ?_)
          refine j_iconst E 116 rfl dX10_person_115 ?_
          refine j_isub E 117 rfl dX10_person_116 ?_
          exact hret 117 (((n_0 2) + 1) - 1) (upN (upN n_0 0 0) 2 ((n_0 2) + 1)) (upF (upF (upF (upF (upF f_0 3 (upA (f_0 3) (n_0 2) v_quarter)) 4 (upA (f_0 4) (n_0 2) v_family)) 5 (upA (f_0 5) (n_0 2) v_born)) 6 (upA (f_0 6) (n_0 2) ((-1)))) 8 (upA (f_0 8) (n_0 2) ((-1)))) _ _ ls hw (rr (by omega)) ⟨0, ((n_0 2) + 1), (upA (f_0 3) (n_0 2) v_quarter), (upA (f_0 4) (n_0 2) v_family), (upA (f_0 5) (n_0 2) v_born), (upA (f_0 6) (n_0 2) ((-1))), (upA (f_0 8) (n_0 2) ((-1))), rfl, rfl, ⟨⟨i_now, (show 0 ≤ ((n_0 2) + 1) ∧ ((n_0 2) + 1) ≤ 24 from by omega), i_lines, i_wordings, i_taped, i_suits, i_spk, (show Fam_ (upA (f_0 4) (n_0 2) v_family) from Fam_up i_fam (by omega)), i_str, i_said, i_book, i_wds, i_tok, i_cod, i_far, i_tap⟩, Or.inr ⟨by omega, by omega, rfl, rfl, rfl, rfl, rfl⟩⟩⟩ dX10_person_117
        · refine j_iconst E 50 rfl dX10_person_49 ?_
          exact hret 50 ((-1)) (upN (upN n_0 0 0) 2 (n_0 2)) (upF (upF (upF (upF (upF f_0 3 (f_0 3)) 4 (f_0 4)) 5 (f_0 5)) 6 (f_0 6)) 8 (f_0 8)) _ _ ls hw (rr (by decide)) ⟨0, (n_0 2), (f_0 3), (f_0 4), (f_0 5), (f_0 6), (f_0 8), rfl, rfl, ⟨⟨i_now, i_persons, i_lines, i_wordings, i_taped, i_suits, i_spk, i_fam, i_str, i_said, i_book, i_wds, i_tok, i_cod, i_far, i_tap⟩, Or.inl ⟨rfl, by omega, rfl, rfl, rfl, rfl, rfl⟩⟩⟩ dX10_person_50
      · subst ee7_
        refine j_if_eq E 40 49 rfl (rr (by decide)) dX10_person_37 (by decide) (fun _ => ?_) (fun cc18_ => absurd cc18_ (by decide))
        refine j_iconst E 50 rfl dX10_person_49 ?_
        exact hret 50 ((-1)) (upN (upN n_0 0 0) 2 (n_0 2)) (upF (upF (upF (upF (upF f_0 3 (f_0 3)) 4 (f_0 4)) 5 (f_0 5)) 6 (f_0 6)) 8 (f_0 8)) _ _ ls hw (rr (by decide)) ⟨0, (n_0 2), (f_0 3), (f_0 4), (f_0 5), (f_0 6), (f_0 8), rfl, rfl, ⟨⟨i_now, i_persons, i_lines, i_wordings, i_taped, i_suits, i_spk, i_fam, i_str, i_said, i_book, i_wds, i_tok, i_cod, i_far, i_tap⟩, Or.inl ⟨rfl, by omega, rfl, rfl, rfl, rfl, rfl⟩⟩⟩ dX10_person_50
    · subst ee4_
      refine j_if_eq E 26 49 rfl (rr (by decide)) dX10_person_23 (by decide) (fun _ => ?_) (fun cc19_ => absurd cc19_ (by decide))
      refine j_iconst E 50 rfl dX10_person_49 ?_
      exact hret 50 ((-1)) (upN (upN n_0 0 0) 2 (n_0 2)) (upF (upF (upF (upF (upF f_0 3 (f_0 3)) 4 (f_0 4)) 5 (f_0 5)) 6 (f_0 6)) 8 (f_0 8)) _ _ ls hw (rr (by decide)) ⟨0, (n_0 2), (f_0 3), (f_0 4), (f_0 5), (f_0 6), (f_0 8), rfl, rfl, ⟨⟨i_now, i_persons, i_lines, i_wordings, i_taped, i_suits, i_spk, i_fam, i_str, i_said, i_book, i_wds, i_tok, i_cod, i_far, i_tap⟩, Or.inl ⟨rfl, by omega, rfl, rfl, rfl, rfl, rfl⟩⟩⟩ dX10_person_50
  · subst ee2_
    refine j_if_eq E 15 49 rfl (rr (by decide)) dX10_person_12 (by decide) (fun _ => ?_) (fun cc20_ => absurd cc20_ (by decide))
    refine j_iconst E 50 rfl dX10_person_49 ?_
    exact hret 50 ((-1)) (upN (upN n_0 0 0) 2 (n_0 2)) (upF (upF (upF (upF (upF f_0 3 (f_0 3)) 4 (f_0 4)) 5 (f_0 5)) 6 (f_0 6)) 8 (f_0 8)) _ _ ls hw (rr (by decide)) ⟨0, (n_0 2), (f_0 3), (f_0 4), (f_0 5), (f_0 6), (f_0 8), rfl, rfl, ⟨⟨i_now, i_persons, i_lines, i_wordings, i_taped, i_suits, i_spk, i_fam, i_str, i_said, i_book, i_wds, i_tok, i_cod, i_far, i_tap⟩, Or.inl ⟨rfl, by omega, rfl, rfl, rfl, rfl, rfl⟩⟩⟩ dX10_person_50
set_option maxHeartbeats 4000000 in
set_option maxRecDepth 100000 in
theorem c3_X10_goes (l : Launch) (D : va_G) (cy : Nat → ClassId) (q : Nat → Nat) (n_0 : Nat → Int) (f_0 : Nat → Int → Int) (hp0 : MI (n_0) (f_0)) (hp1 : (n_0 1) ≤ 198) : MC l D cy q yX10_goes cX10_goes 2 none 6 [] n_0 f_0 (PV (fun (n_2 : Nat → Int) (f_2 : Nat → Int → Int) => ∃ (x1_2 : Int) (y57_2 : Int → Int) (y58_2 : Int → Int) (y18_2 : Int → Int) (y15_2 : Int → Int) (y17_2 : Int → Int) (y19_2 : Int → Int) (y20_2 : Int → Int) (y21_2 : Int → Int) (y16_2 : Int → Int) (y56_2 : Int → Int) (y7_2 : Int → Int) , n_2 = upN n_0 1 x1_2 ∧ f_2 = upF (upF (upF (upF (upF (upF (upF (upF (upF (upF (upF f_0 7 y7_2) 15 y15_2) 16 y16_2) 17 y17_2) 18 y18_2) 19 y19_2) 20 y20_2) 21 y21_2) 56 y56_2) 57 y57_2) 58 y58_2 ∧ (MI (upN n_0 1 x1_2) (upF (upF (upF (upF (upF (upF (upF (upF (upF (upF (upF f_0 7 y7_2) 15 y15_2) 16 y16_2) 17 y17_2) 18 y18_2) 19 y19_2) 20 y20_2) 21 y21_2) 56 y56_2) 57 y57_2) 58 y58_2) ∧ (x1_2) = (n_0 1) + 1 ∧ (∀ j, 0 ≤ j → j < (n_0 2) → (y7_2 j) = 0) ∧ (∀ j, (n_0 2) ≤ j → (y7_2 j) = (f_0 7 j))))) := by
  refine MC.ofv rfl (Nat.le_of_ble_eq_true rfl) ?_
  intro p e s m below meth c ls ar QW A0 H0 H locs E hK hA hw hl hret
  have hl : lv_has ls 2 [(0, .ref (q 0))] := hl
  have hp0_ := hp0
  obtain ⟨i_now, i_persons, i_lines, i_wordings, i_taped, i_suits, i_spk, i_fam, i_str, i_said, i_book, i_wds, i_tok, i_cod, i_far, i_tap⟩ := hp0_
  refine j_aload_n E 1 rfl dX10_goes_0 rfl (lv_at hl 0 rfl) ?_
  refine m_callv E (c_X10_takesPresent l D cy q (n_0) (f_0)    (show (n_0 2) ≤ 24 from by omega) (show 0 ≤ (n_0 1) ∧ (n_0 1) ≤ 199 from by omega) (show 0 ≤ (n_0 48) ∧ (n_0 48) ≤ 100 from by omega)) rfl mt_X10_takesPresent ml_X10_355 hK hw hA ⟨Nat.le_of_ble_eq_true rfl, Nat.le_of_ble_eq_true rfl⟩ (As := []) (rest := []) rfl rfl hl.1 (Nat.le_of_ble_eq_true rfl) 4 rfl dX10_goes_1 (fun n_1 f_1 H locs hq1_ hw => ?_)
  obtain ⟨y56_1, en1_, ef1_, hq1_⟩ := hq1_
  rw [en1_, ef1_] at hw; clear en1_ ef1_
  have hw : WM D cy q (n_0) (upF f_0 56 y56_1) A0 H0 H locs := hw
  have hh1_ : True := hq1_
  clear hq1_
  refine j_iconst E 5 rfl dX10_goes_4 ?_
  refine j_istore_n E 6 rfl [(1, .int (J 0)), (0, .ref (q 0))] dX10_goes_5 rfl hl (by decide) rfl (fun ls hl => ?_)
  have L6_2 : ∀ (k6 : Nat) (gl : Int) (y57_c6 : Int → Int) (y58_c6 : Int → Int) (y18_c6 : Int → Int) (y15_c6 : Int → Int) (y17_c6 : Int → Int) (y19_c6 : Int → Int) (y20_c6 : Int → Int) (y21_c6 : Int → Int) (y16_c6 : Int → Int) (y56_c6 : Int → Int) (H : Heap) (locs : List Loc) (ls : Array Slot), inR gl → (0 ≤ gl ∧ gl ≤ 24 ∧ MI (n_0) (upF (upF (upF (upF (upF (upF (upF (upF (upF (upF f_0 15 y15_c6) 16 y16_c6) 17 y17_c6) 18 y18_c6) 19 y19_c6) 20 y20_c6) 21 y21_c6) 56 y56_c6) 57 y57_c6) 58 y58_c6)) → (24 - gl) < (k6 : Int) → WM D cy q (n_0) (upF (upF (upF (upF (upF (upF (upF (upF (upF (upF f_0 15 y15_c6) 16 y16_c6) 17 y17_c6) 18 y18_c6) 19 y19_c6) 20 y20_c6) 21 y21_c6) 56 y56_c6) 57 y57_c6) 58 y58_c6) A0 H0 H locs → lv_has ls 2 [(0, .ref (q 0)), (1, .int (J gl))] → W p l e (rmd 6 0 0) s m ar below meth c H locs 0 0 QW (F0 m 6 ls []) := by
    intro k6
    induction k6 with
    | zero =>
      intro gl y57_c6 y58_c6 y18_c6 y15_c6 y17_c6 y19_c6 y20_c6 y21_c6 y16_c6 y56_c6 H locs ls r_gl iv6 ms6 hw hl
      exfalso; omega
    | succ k6 ih6 =>
      intro gl y57_c6 y58_c6 y18_c6 y15_c6 y17_c6 y19_c6 y20_c6 y21_c6 y16_c6 y56_c6 H locs ls r_gl iv6 ms6 hw hl
      refine j_iload_n E 7 rfl dX10_goes_6 rfl (lv_at hl 1 rfl) ?_
      refine j_aload_n E 8 rfl dX10_goes_7 rfl (lv_at hl 0 rfl) ?_
      refine m_get_12 E hK hw (n_0 12) rfl 11 rfl dX10_goes_8 (fun rr4_ => ?_)
      refine j_icmp_ge E 14 50 rfl r_gl rr4_ dX10_goes_11 (by decide) (fun cc5_ => ?_) (fun cc5_ => ?_)
      · refine j_iconst E 51 rfl dX10_goes_50 ?_
        refine j_istore_n E 52 rfl [(1, .int (J 0)), (0, .ref (q 0))] dX10_goes_51 rfl hl (by decide) rfl (fun ls hl => ?_)
        have L52_6 : ∀ (k52 : Nat) (gk : Int) (y19_c52 : Int → Int) (H : Heap) (locs : List Loc) (ls : Array Slot), inR gk → (0 ≤ gk ∧ gk ≤ 24 ∧ MI (n_0) (upF (upF (upF (upF (upF (upF (upF (upF (upF (upF f_0 15 y15_c6) 16 y16_c6) 17 y17_c6) 18 y18_c6) 19 y19_c52) 20 y20_c6) 21 y21_c6) 56 y56_c6) 57 y57_c6) 58 y58_c6)) → (24 - gk) < (k52 : Int) → WM D cy q (n_0) (upF (upF (upF (upF (upF (upF (upF (upF (upF (upF f_0 15 y15_c6) 16 y16_c6) 17 y17_c6) 18 y18_c6) 19 y19_c52) 20 y20_c6) 21 y21_c6) 56 y56_c6) 57 y57_c6) 58 y58_c6) A0 H0 H locs → lv_has ls 2 [(0, .ref (q 0)), (1, .int (J gk))] → W p l e (rmd 6 0 0) s m ar below meth c H locs 0 0 QW (F0 m 52 ls []) := by
          intro k52
          induction k52 with
          | zero =>
            intro gk y19_c52 H locs ls r_gk iv52 ms52 hw hl
            exfalso; omega
          | succ k52 ih52 =>
            intro gk y19_c52 H locs ls r_gk iv52 ms52 hw hl
            refine j_iload_n E 53 rfl dX10_goes_52 rfl (lv_at hl 1 rfl) ?_
            refine j_aload_n E 54 rfl dX10_goes_53 rfl (lv_at hl 0 rfl) ?_
            refine m_get_12 E hK hw (n_0 12) rfl 57 rfl dX10_goes_54 (fun _ => ?_)
            refine j_icmp_ge E 60 71 rfl r_gk rr4_ dX10_goes_57 (by decide) (fun cc8_ => ?_) (fun cc8_ => ?_)
            · refine j_iconst E 72 rfl dX10_goes_71 ?_
              refine j_istore_n E 73 rfl [(1, .int (J 0)), (0, .ref (q 0))] dX10_goes_72 rfl hl (by decide) rfl (fun ls hl => ?_)
              have L73_9 : ∀ (k73 : Nat) (gp : Int) (y7_c73 : Int → Int) (H : Heap) (locs : List Loc) (ls : Array Slot), inR gp → (0 ≤ gp ∧ gp ≤ 24 ∧ (gp ≤ (n_0 2) ∨ gp = 0) ∧ (∀ j, 0 ≤ j → j < gp → (y7_c73 j) = 0) ∧ (∀ j, gp ≤ j → (y7_c73 j) = f_0 7 j)) → (24 - gp) < (k73 : Int) → WM D cy q (n_0) (upF (upF (upF (upF (upF (upF (upF (upF (upF (upF (upF f_0 7 y7_c73) 15 y15_c6) 16 y16_c6) 17 y17_c6) 18 y18_c6) 19 y19_c52) 20 y20_c6) 21 y21_c6) 56 y56_c6) 57 y57_c6) 58 y58_c6) A0 H0 H locs → lv_has ls 2 [(0, .ref (q 0)), (1, .int (J gp))] → W p l e (rmd 6 0 0) s m ar below meth c H locs 0 0 QW (F0 m 73 ls []) := by
                intro k73
                induction k73 with
                | zero =>
                  intro gp y7_c73 H locs ls r_gp iv73 ms73 hw hl
                  exfalso; omega
                | succ k73 ih73 =>
                  intro gp y7_c73 H locs ls r_gp iv73 ms73 hw hl
                  refine j_iload_n E 74 rfl dX10_goes_73 rfl (lv_at hl 1 rfl) ?_
                  refine j_aload_n E 75 rfl dX10_goes_74 rfl (lv_at hl 0 rfl) ?_
                  refine m_get_2 E hK hw (n_0 2) rfl 78 rfl dX10_goes_75 (fun rr11_ => ?_)
                  refine j_icmp_ge E 81 94 rfl r_gp rr11_ dX10_goes_78 (by decide) (fun cc12_ => ?_) (fun cc12_ => ?_)
                  · obtain ⟨j_now, j_persons, j_lines, j_wordings, j_taped, j_suits, j_spk, j_fam, j_str, j_said, j_book, j_wds, j_tok, j_cod, j_far, j_tap⟩ := iv52.2.2
                    refine j_aload_n E 95 rfl dX10_goes_94 rfl (lv_at hl 0 rfl) ?_
                    refine j_aload_n E 96 rfl dX10_goes_95 rfl (lv_at hl 0 rfl) ?_
                    refine m_get_1 E hK hw (n_0 1) rfl 99 rfl dX10_goes_96 (fun rr13_ => ?_)
                    refine j_iconst E 100 rfl dX10_goes_99 ?_
                    refine j_iadd E 101 rfl dX10_goes_100 ?_
                    refine m_put_1 E hK hw (rr (by omega)) 104 rfl dX10_goes_101 (fun H locs hw => ?_)
                    have hw : WM D cy q (upN n_0 1 ((n_0 1) + 1)) (upF (upF (upF (upF (upF (upF (upF (upF (upF (upF (upF f_0 7 y7_c73) 15 y15_c6) 16 y16_c6) 17 y17_c6) 18 y18_c6) 19 y19_c52) 20 y20_c6) 21 y21_c6) 56 y56_c6) 57 y57_c6) 58 y58_c6) A0 H0 H locs := hw
                    exact hret 104 (upN n_0 1 ((n_0 1) + 1)) (upF (upF (upF (upF (upF (upF (upF (upF (upF (upF (upF f_0 7 y7_c73) 15 y15_c6) 16 y16_c6) 17 y17_c6) 18 y18_c6) 19 y19_c52) 20 y20_c6) 21 y21_c6) 56 y56_c6) 57 y57_c6) 58 y58_c6) _ _ ls hw ⟨((n_0 1) + 1), y57_c6, y58_c6, y18_c6, y15_c6, y17_c6, y19_c52, y20_c6, y21_c6, y16_c6, y56_c6, y7_c73, rfl, rfl, ⟨⟨(show 0 ≤ ((n_0 1) + 1) ∧ ((n_0 1) + 1) ≤ 199 from by omega), j_persons, j_lines, j_wordings, j_taped, j_suits, j_spk, j_fam, j_str, j_said, j_book, j_wds, j_tok, j_cod, j_far, j_tap⟩, rfl, fun j_ h1_ h2_ => iv73.2.2.2.1 j_ h1_ (by omega), fun j_ h1_ => iv73.2.2.2.2 j_ (by omega)⟩⟩ dX10_goes_104
                  · refine j_aload_n E 82 rfl dX10_goes_81 rfl (lv_at hl 0 rfl) ?_
                    refine m_ag_7 E hK hw 85 rfl dX10_goes_82 ?_
                    refine j_iload_n E 86 rfl dX10_goes_85 rfl (lv_at hl 1 rfl) ?_
                    refine j_iconst E 87 rfl dX10_goes_86 ?_
                    refine m_st_7 E hK hw (by omega) (rr (by decide)) (Or.inl rfl) 88 rfl dX10_goes_87 (fun H locs hw => ?_)
                    have hw : WM D cy q (n_0) (upF (upF (upF (upF (upF (upF (upF (upF (upF (upF (upF f_0 7 (upA (y7_c73) gp 0)) 15 y15_c6) 16 y16_c6) 17 y17_c6) 18 y18_c6) 19 y19_c52) 20 y20_c6) 21 y21_c6) 56 y56_c6) 57 y57_c6) 58 y58_c6) A0 H0 H locs := hw
                    refine j_iinc E 91 rfl [(1, .int (J (gp + 1))), (0, .ref (q 0))] dX10_goes_88 hl (kk := 1) rfl (by decide) rfl (fun ls hl => ?_)
                    refine j_goto E 73 dX10_goes_91 (by decide) ?_
                    exact ih73 (gp + 1) (upA (y7_c73) gp 0) H locs ls (rr (by omega)) (⟨by omega, by omega, by omega, aw_up iv73.2.2.2.1, aw_dn iv73.2.2.2.2⟩) (by omega) hw (lv_sub hl [1, 0] rfl)
              exact L73_9 _ 0 (f_0 7) H locs ls (rr (by decide)) (⟨by omega, by omega, by omega, fun j_ h1_ h2_ => absurd h2_ (by omega), fun j_ _ => rfl⟩) (mk_lt _) hw (lv_sub hl [1, 0] rfl)
            · refine j_aload_n E 61 rfl dX10_goes_60 rfl (lv_at hl 0 rfl) ?_
              refine j_iload_n E 62 rfl dX10_goes_61 rfl (lv_at hl 1 rfl) ?_
              refine m_callv E (c_X10_fades l D cy q (n_0) (upF (upF (upF (upF (upF (upF (upF (upF (upF (upF f_0 15 y15_c6) 16 y16_c6) 17 y17_c6) 18 y18_c6) 19 y19_c52) 20 y20_c6) 21 y21_c6) 56 y56_c6) 57 y57_c6) 58 y58_c6) gk  r_gk (show MI (n_0) (upF (upF (upF (upF (upF (upF (upF (upF (upF (upF f_0 15 y15_c6) 16 y16_c6) 17 y17_c6) 18 y18_c6) 19 y19_c52) 20 y20_c6) 21 y21_c6) 56 y56_c6) 57 y57_c6) 58 y58_c6) from iv52.2.2) (show 0 ≤ gk ∧ gk < (n_0 12) from by omega)) rfl mt_X10_fades ml_X10_361 hK hw hA ⟨Nat.le_of_ble_eq_true rfl, Nat.le_of_ble_eq_true rfl⟩ (As := [.int (J gk)]) (rest := []) rfl rfl hl.1 (Nat.le_of_ble_eq_true rfl) 65 rfl dX10_goes_62 (fun n_16 f_16 H locs hq16_ hw => ?_)
              obtain ⟨y19_16, en16_, ef16_, hq16_⟩ := hq16_
              rw [en16_, ef16_] at hw; clear en16_ ef16_
              have hw : WM D cy q (n_0) (upF (upF (upF (upF (upF (upF (upF (upF (upF (upF f_0 15 y15_c6) 16 y16_c6) 17 y17_c6) 18 y18_c6) 19 y19_16) 20 y20_c6) 21 y21_c6) 56 y56_c6) 57 y57_c6) 58 y58_c6) A0 H0 H locs := hw
              have hh16_ : MI (n_0) (upF (upF (upF (upF (upF (upF (upF (upF (upF (upF f_0 15 y15_c6) 16 y16_c6) 17 y17_c6) 18 y18_c6) 19 y19_16) 20 y20_c6) 21 y21_c6) 56 y56_c6) 57 y57_c6) 58 y58_c6) := hq16_
              clear hq16_
              have ht_ := hh16_
              refine j_iinc E 68 rfl [(1, .int (J (gk + 1))), (0, .ref (q 0))] dX10_goes_65 hl (kk := 1) rfl (by decide) rfl (fun ls hl => ?_)
              refine j_goto E 52 dX10_goes_68 (by decide) ?_
              exact ih52 (gk + 1) y19_16 H locs ls (rr (by omega)) (⟨by omega, by omega, ht_⟩) (by omega) hw (lv_sub hl [1, 0] rfl)
        exact L52_6 _ 0 y19_c6 H locs ls (rr (by decide)) (⟨by omega, by omega, iv6.2.2⟩) (mk_lt _) hw (lv_sub hl [1, 0] rfl)
      · refine j_aload_n E 15 rfl dX10_goes_14 rfl (lv_at hl 0 rfl) ?_
        refine m_ag_16 E hK hw 18 rfl dX10_goes_15 ?_
        refine j_iload_n E 19 rfl dX10_goes_18 rfl (lv_at hl 1 rfl) ?_
        refine m_ld_16 E hK hw (y16_c6 gl) rfl (by omega) 20 rfl dX10_goes_19 (fun rr17_ => ?_)
        refine j_iconst E 21 rfl dX10_goes_20 ?_
        refine j_icmp_ne E 24 44 rfl rr17_ (rr (by decide)) dX10_goes_21 (by decide) (fun cc18_ => ?_) (fun cc18_ => ?_)
        · refine j_iinc E 47 rfl [(1, .int (J (gl + 1))), (0, .ref (q 0))] dX10_goes_44 hl (kk := 1) rfl (by decide) rfl (fun ls hl => ?_)
          refine j_goto E 6 dX10_goes_47 (by decide) ?_
          exact ih6 (gl + 1) y57_c6 y58_c6 y18_c6 y15_c6 y17_c6 y19_c6 y20_c6 y21_c6 y16_c6 y56_c6 H locs ls (rr (by omega)) (⟨by omega, by omega, by first | exact iv6.2.2 | exact ht_⟩) (by omega) hw (lv_sub hl [1, 0] rfl)
        · refine j_aload_n E 25 rfl dX10_goes_24 rfl (lv_at hl 0 rfl) ?_
          refine m_ag_13 E hK hw 28 rfl dX10_goes_25 ?_
          refine j_iload_n E 29 rfl dX10_goes_28 rfl (lv_at hl 1 rfl) ?_
          refine m_ld_13 E hK hw (f_0 13 gl) rfl (by omega) 30 rfl dX10_goes_29 (fun rr19_ => ?_)
          refine j_aload_n E 31 rfl dX10_goes_30 rfl (lv_at hl 0 rfl) ?_
          refine m_get_1 E hK hw (n_0 1) rfl 34 rfl dX10_goes_31 (fun rr20_ => ?_)
          refine j_iconst E 35 rfl dX10_goes_34 ?_
          refine j_irem E 36 rfl dX10_goes_35 (by decide +kernel) (fun zz21_ rr21_ ee21_ => ?_)
          refine j_icmp_ne E 39 44 rfl rr19_ rr21_ dX10_goes_36 (by decide) (fun cc22_ => ?_) (fun cc22_ => ?_)
          · refine j_iinc E 47 rfl [(1, .int (J (gl + 1))), (0, .ref (q 0))] dX10_goes_44 hl (kk := 1) rfl (by decide) rfl (fun ls hl => ?_)
            refine j_goto E 6 dX10_goes_47 (by decide) ?_
            exact ih6 (gl + 1) y57_c6 y58_c6 y18_c6 y15_c6 y17_c6 y19_c6 y20_c6 y21_c6 y16_c6 y56_c6 H locs ls (rr (by omega)) (⟨by omega, by omega, by first | exact iv6.2.2 | exact ht_⟩) (by omega) hw (lv_sub hl [1, 0] rfl)
          · refine j_aload_n E 40 rfl dX10_goes_39 rfl (lv_at hl 0 rfl) ?_
            refine j_iload_n E 41 rfl dX10_goes_40 rfl (lv_at hl 1 rfl) ?_
            refine m_callv E (c_X10_tries l D cy q (n_0) (upF (upF (upF (upF (upF (upF (upF (upF (upF (upF f_0 15 y15_c6) 16 y16_c6) 17 y17_c6) 18 y18_c6) 19 y19_c6) 20 y20_c6) 21 y21_c6) 56 y56_c6) 57 y57_c6) 58 y58_c6) gl  r_gl (show MI (n_0) (upF (upF (upF (upF (upF (upF (upF (upF (upF (upF f_0 15 y15_c6) 16 y16_c6) 17 y17_c6) 18 y18_c6) 19 y19_c6) 20 y20_c6) 21 y21_c6) 56 y56_c6) 57 y57_c6) 58 y58_c6) from iv6.2.2) (show 0 ≤ gl ∧ gl < (n_0 12) from by omega)) rfl mt_X10_tries ml_X10_358 hK hw hA ⟨Nat.le_of_ble_eq_true rfl, Nat.le_of_ble_eq_true rfl⟩ (As := [.int (J gl)]) (rest := []) rfl rfl hl.1 (Nat.le_of_ble_eq_true rfl) 44 rfl dX10_goes_41 (fun n_23 f_23 H locs hq23_ hw => ?_)
            obtain ⟨y57_23, y58_23, y18_23, y15_23, y17_23, y19_23, y20_23, y21_23, y16_23, en23_, ef23_, hq23_⟩ := hq23_
            rw [en23_, ef23_] at hw; clear en23_ ef23_
            have hw : WM D cy q (n_0) (upF (upF (upF (upF (upF (upF (upF (upF (upF (upF f_0 15 y15_23) 16 y16_23) 17 y17_23) 18 y18_23) 19 y19_23) 20 y20_23) 21 y21_23) 56 y56_c6) 57 y57_23) 58 y58_23) A0 H0 H locs := hw
            have hh23_ : MI (n_0) (upF (upF (upF (upF (upF (upF (upF (upF (upF (upF f_0 15 y15_23) 16 y16_23) 17 y17_23) 18 y18_23) 19 y19_23) 20 y20_23) 21 y21_23) 56 y56_c6) 57 y57_23) 58 y58_23) := hq23_
            clear hq23_
            have ht_ := hh23_
            refine j_iinc E 47 rfl [(1, .int (J (gl + 1))), (0, .ref (q 0))] dX10_goes_44 hl (kk := 1) rfl (by decide) rfl (fun ls hl => ?_)
            refine j_goto E 6 dX10_goes_47 (by decide) ?_
            exact ih6 (gl + 1) y57_23 y58_23 y18_23 y15_23 y17_23 y19_23 y20_23 y21_23 y16_23 y56_c6 H locs ls (rr (by omega)) (⟨by omega, by omega, by first | exact iv6.2.2 | exact ht_⟩) (by omega) hw (lv_sub hl [1, 0] rfl)
  exact L6_2 _ 0 (f_0 57) (f_0 58) (f_0 18) (f_0 15) (f_0 17) (f_0 19) (f_0 20) (f_0 21) (f_0 16) y56_1 H locs ls (rr (by decide)) (⟨by omega, by omega, hp0⟩) (mk_lt _) hw (lv_sub hl [1, 0] rfl)
set_option maxHeartbeats 4000000 in
set_option maxRecDepth 100000 in
theorem c3_X10_summers (l : Launch) (D : va_G) (cy : Nat → ClassId) (q : Nat → Nat) (n_0 : Nat → Int) (f_0 : Nat → Int → Int) (v_k : Int) (r_v_k : inR v_k) (hp0 : MI (n_0) (f_0)) : MC l D cy q yX10_summers cX10_summers 3 (some .int) 7 [.int (J v_k)] n_0 f_0 (PI (fun (z_0 : Int) (n_2 : Nat → Int) (f_2 : Nat → Int → Int) => ∃ (x0_2 : Int) (x1_2 : Int) (y57_2 : Int → Int) (y58_2 : Int → Int) (y18_2 : Int → Int) (y15_2 : Int → Int) (y17_2 : Int → Int) (y19_2 : Int → Int) (y20_2 : Int → Int) (y21_2 : Int → Int) (y16_2 : Int → Int) (y56_2 : Int → Int) (y7_2 : Int → Int) , n_2 = upN (upN n_0 0 x0_2) 1 x1_2 ∧ f_2 = upF (upF (upF (upF (upF (upF (upF (upF (upF (upF (upF f_0 7 y7_2) 15 y15_2) 16 y16_2) 17 y17_2) 18 y18_2) 19 y19_2) 20 y20_2) 21 y21_2) 56 y56_2) 57 y57_2) 58 y58_2 ∧ (MI (upN (upN n_0 0 x0_2) 1 x1_2) (upF (upF (upF (upF (upF (upF (upF (upF (upF (upF (upF f_0 7 y7_2) 15 y15_2) 16 y16_2) 17 y17_2) 18 y18_2) 19 y19_2) 20 y20_2) 21 y21_2) 56 y56_2) 57 y57_2) 58 y58_2) ∧ ((z_0 = -1 ∧ (v_k < 1 ∨ 20 < v_k ∨ 199 < (n_0 1) + v_k) ∧ (x1_2) = (n_0 1) ∧ (y7_2) = (f_0 7)) ∨ (z_0 = (x1_2) ∧ (1 ≤ v_k ∧ v_k ≤ 20 ∧ (n_0 1) + v_k ≤ 199) ∧ (x1_2) = (n_0 1) + v_k ∧ (∀ j, 0 ≤ j → j < (n_0 2) → (y7_2 j) = 0) ∧ (∀ j, (n_0 2) ≤ j → (y7_2 j) = (f_0 7 j))))))) := by
  refine MC.ofi rfl (Nat.le_of_ble_eq_true rfl) ?_
  intro p e s m below meth c ls ar QW A0 H0 H locs E hK hA hw hl hret
  have hl : lv_has ls 3 [(0, .ref (q 0)), (1, .int (J v_k))] := hl
  have hp0_ := hp0
  obtain ⟨i_now, i_persons, i_lines, i_wordings, i_taped, i_suits, i_spk, i_fam, i_str, i_said, i_book, i_wds, i_tok, i_cod, i_far, i_tap⟩ := hp0_
  refine j_aload_n E 1 rfl dX10_summers_0 rfl (lv_at hl 0 rfl) ?_
  refine j_iconst E 2 rfl dX10_summers_1 ?_
  refine m_put_0 E hK hw (rr (by decide)) 5 rfl dX10_summers_2 (fun H locs hw => ?_)
  have hw : WM D cy q (upN n_0 0 0) (f_0) A0 H0 H locs := hw
  refine j_aload_n E 6 rfl dX10_summers_5 rfl (lv_at hl 0 rfl) ?_
  refine j_iload_n E 7 rfl dX10_summers_6 rfl (lv_at hl 1 rfl) ?_
  refine j_iconst E 8 rfl dX10_summers_7 ?_
  refine j_bipush E 10 rfl dX10_summers_8 (by decide) ?_
  refine m_callp (po := fun z_0 => (z_0 = 1 ∧ (1 : Int) ≤ v_k ∧ v_k ≤ (20 : Int)) ∨ (z_0 = 0 ∧ (v_k < (1 : Int) ∨ (20 : Int) < v_k))) E (c_X10_isIn l D cy q (upN n_0 0 0) (f_0) v_k 1 20  r_v_k (rr (by decide)) (rr (by decide)) ) rfl mt_X10_isIn ml_X10_169 hK hw hA ⟨Nat.le_of_ble_eq_true rfl, Nat.le_of_ble_eq_true rfl⟩ (As := [.int (J v_k), .int (J 1), .int (J 20)]) (rest := []) rfl rfl hl.1 (Nat.le_of_ble_eq_true rfl) 13 rfl dX10_summers_10 (fun zz2_ H locs rr2_ hq2_ hw => ?_)
  have hh2_ : (zz2_ = 1 ∧ (1 : Int) ≤ v_k ∧ v_k ≤ (20 : Int)) ∨ (zz2_ = 0 ∧ (v_k < (1 : Int) ∨ (20 : Int) < v_k)) := hq2_
  clear hq2_
  rcases hh2_ with ⟨ee2_, hh2_⟩ | ⟨ee2_, hh2_⟩
  · subst ee2_
    refine j_if_eq E 16 28 rfl (rr (by decide)) dX10_summers_13 (by decide) (fun cc3_ => absurd cc3_ (by decide)) (fun _ => ?_)
    refine j_aload_n E 17 rfl dX10_summers_16 rfl (lv_at hl 0 rfl) ?_
    refine m_get_1 E hK hw (n_0 1) rfl 20 rfl dX10_summers_17 (fun rr4_ => ?_)
    refine j_iload_n E 21 rfl dX10_summers_20 rfl (lv_at hl 1 rfl) ?_
    refine j_iadd E 22 rfl dX10_summers_21 ?_
    refine j_sipush E 25 rfl dX10_summers_22 (by decide) ?_
    refine j_icmp_lt E 28 30 rfl (rr (by omega)) (rr (by decide)) dX10_summers_25 (by decide) (fun cc5_ => ?_) (fun cc5_ => ?_)
    · refine j_iconst E 31 rfl dX10_summers_30 ?_
      refine j_istore_n E 32 rfl [(2, .int (J 0)), (0, .ref (q 0)), (1, .int (J v_k))] dX10_summers_31 rfl hl (by decide) rfl (fun ls hl => ?_)
      have L32_6 : ∀ (k32 : Nat) (gi : Int) (x1_c32 : Int) (y57_c32 : Int → Int) (y58_c32 : Int → Int) (y18_c32 : Int → Int) (y15_c32 : Int → Int) (y17_c32 : Int → Int) (y19_c32 : Int → Int) (y20_c32 : Int → Int) (y21_c32 : Int → Int) (y16_c32 : Int → Int) (y56_c32 : Int → Int) (y7_c32 : Int → Int) (H : Heap) (locs : List Loc) (ls : Array Slot), inR gi → (0 ≤ gi ∧ gi ≤ v_k ∧ MI (upN (upN n_0 0 0) 1 x1_c32) (upF (upF (upF (upF (upF (upF (upF (upF (upF (upF (upF f_0 7 y7_c32) 15 y15_c32) 16 y16_c32) 17 y17_c32) 18 y18_c32) 19 y19_c32) 20 y20_c32) 21 y21_c32) 56 y56_c32) 57 y57_c32) 58 y58_c32) ∧ (x1_c32) = n_0 1 + gi ∧ (0 < gi → ∀ j, 0 ≤ j → j < n_0 2 → (y7_c32 j) = 0) ∧ (∀ j, n_0 2 ≤ j → (y7_c32 j) = f_0 7 j)) → (v_k - gi) < (k32 : Int) → WM D cy q (upN (upN n_0 0 0) 1 x1_c32) (upF (upF (upF (upF (upF (upF (upF (upF (upF (upF (upF f_0 7 y7_c32) 15 y15_c32) 16 y16_c32) 17 y17_c32) 18 y18_c32) 19 y19_c32) 20 y20_c32) 21 y21_c32) 56 y56_c32) 57 y57_c32) 58 y58_c32) A0 H0 H locs → lv_has ls 3 [(0, .ref (q 0)), (1, .int (J v_k)), (2, .int (J gi))] → W p l e (rmd 7 0 0) s m ar below meth c H locs 0 0 QW (F0 m 32 ls []) := by
        intro k32
        induction k32 with
        | zero =>
          intro gi x1_c32 y57_c32 y58_c32 y18_c32 y15_c32 y17_c32 y19_c32 y20_c32 y21_c32 y16_c32 y56_c32 y7_c32 H locs ls r_gi iv32 ms32 hw hl
          exfalso; omega
        | succ k32 ih32 =>
          intro gi x1_c32 y57_c32 y58_c32 y18_c32 y15_c32 y17_c32 y19_c32 y20_c32 y21_c32 y16_c32 y56_c32 y7_c32 H locs ls r_gi iv32 ms32 hw hl
          have rx1_c32 : inR x1_c32 := mRn_1 hw.1.2.2.1
          refine j_iload_n E 33 rfl dX10_summers_32 rfl (lv_at hl 2 rfl) ?_
          refine j_iload_n E 34 rfl dX10_summers_33 rfl (lv_at hl 1 rfl) ?_
          refine j_icmp_ge E 37 47 rfl r_gi r_v_k dX10_summers_34 (by decide) (fun cc8_ => ?_) (fun cc8_ => ?_)
          · refine j_aload_n E 48 rfl dX10_summers_47 rfl (lv_at hl 0 rfl) ?_
            refine m_get_1 E hK hw x1_c32 rfl 51 rfl dX10_summers_48 (fun _ => ?_)
            exact hret 51 x1_c32 (upN (upN n_0 0 0) 1 x1_c32) (upF (upF (upF (upF (upF (upF (upF (upF (upF (upF (upF f_0 7 y7_c32) 15 y15_c32) 16 y16_c32) 17 y17_c32) 18 y18_c32) 19 y19_c32) 20 y20_c32) 21 y21_c32) 56 y56_c32) 57 y57_c32) 58 y58_c32) _ _ ls hw rx1_c32 ⟨0, x1_c32, y57_c32, y58_c32, y18_c32, y15_c32, y17_c32, y19_c32, y20_c32, y21_c32, y16_c32, y56_c32, y7_c32, rfl, rfl, ⟨iv32.2.2.1, Or.inr ⟨rfl, by omega, by omega, iv32.2.2.2.2.1 (by omega), iv32.2.2.2.2.2⟩⟩⟩ dX10_summers_51
          · refine j_aload_n E 38 rfl dX10_summers_37 rfl (lv_at hl 0 rfl) ?_
            refine m_callv E (c3_X10_goes l D cy q (upN (upN n_0 0 0) 1 x1_c32) (upF (upF (upF (upF (upF (upF (upF (upF (upF (upF (upF f_0 7 y7_c32) 15 y15_c32) 16 y16_c32) 17 y17_c32) 18 y18_c32) 19 y19_c32) 20 y20_c32) 21 y21_c32) 56 y56_c32) 57 y57_c32) 58 y58_c32)    (show MI (upN (upN n_0 0 0) 1 x1_c32) (upF (upF (upF (upF (upF (upF (upF (upF (upF (upF (upF f_0 7 y7_c32) 15 y15_c32) 16 y16_c32) 17 y17_c32) 18 y18_c32) 19 y19_c32) 20 y20_c32) 21 y21_c32) 56 y56_c32) 57 y57_c32) 58 y58_c32) from iv32.2.2.1) (show (x1_c32) ≤ 198 from by omega)) rfl mt_X10_goes ml_X10_364 hK hw hA ⟨Nat.le_of_ble_eq_true rfl, Nat.le_of_ble_eq_true rfl⟩ (As := []) (rest := []) rfl rfl hl.1 (Nat.le_of_ble_eq_true rfl) 41 rfl dX10_summers_38 (fun n_9 f_9 H locs hq9_ hw => ?_)
            obtain ⟨x1_9, y57_9, y58_9, y18_9, y15_9, y17_9, y19_9, y20_9, y21_9, y16_9, y56_9, y7_9, en9_, ef9_, hq9_⟩ := hq9_
            rw [en9_, ef9_] at hw; clear en9_ ef9_
            have hw : WM D cy q (upN (upN n_0 0 0) 1 x1_9) (upF (upF (upF (upF (upF (upF (upF (upF (upF (upF (upF f_0 7 y7_9) 15 y15_9) 16 y16_9) 17 y17_9) 18 y18_9) 19 y19_9) 20 y20_9) 21 y21_9) 56 y56_9) 57 y57_9) 58 y58_9) A0 H0 H locs := hw
            have rx1_9 : inR x1_9 := mRn_1 hw.1.2.2.1
            have hh9_ : MI (upN (upN n_0 0 0) 1 x1_9) (upF (upF (upF (upF (upF (upF (upF (upF (upF (upF (upF f_0 7 y7_9) 15 y15_9) 16 y16_9) 17 y17_9) 18 y18_9) 19 y19_9) 20 y20_9) 21 y21_9) 56 y56_9) 57 y57_9) 58 y58_9) ∧ (x1_9) = (x1_c32) + 1 ∧ (∀ j, 0 ≤ j → j < (n_0 2) → (y7_9 j) = 0) ∧ (∀ j, (n_0 2) ≤ j → (y7_9 j) = (y7_c32 j)) := hq9_
            clear hq9_
            have ht_ := hh9_
            refine j_iinc E 44 rfl [(2, .int (J (gi + 1))), (0, .ref (q 0)), (1, .int (J v_k))] dX10_summers_41 hl (kk := 2) rfl (by decide) rfl (fun ls hl => ?_)
            refine j_goto E 32 dX10_summers_44 (by decide) ?_
            exact ih32 (gi + 1) x1_9 y57_9 y58_9 y18_9 y15_9 y17_9 y19_9 y20_9 y21_9 y16_9 y56_9 y7_9 H locs ls (rr (by omega)) (⟨by omega, by omega, ht_.1, by omega, fun _ => ht_.2.2.1, fun j_ h_ => (ht_.2.2.2 j_ h_).trans (iv32.2.2.2.2.2 j_ h_)⟩) (by omega) hw (lv_sub hl [1, 2, 0] rfl)
      exact L32_6 _ 0 (n_0 1) (f_0 57) (f_0 58) (f_0 18) (f_0 15) (f_0 17) (f_0 19) (f_0 20) (f_0 21) (f_0 16) (f_0 56) (f_0 7) H locs ls (rr (by decide)) (⟨by omega, by omega, hp0, by omega, fun h_ => absurd h_ (by omega), fun _ _ => rfl⟩) (mk_lt _) hw (lv_sub hl [1, 2, 0] rfl)
    · refine j_iconst E 29 rfl dX10_summers_28 ?_
      exact hret 29 ((-1)) (upN (upN n_0 0 0) 1 (n_0 1)) (upF (upF (upF (upF (upF (upF (upF (upF (upF (upF (upF f_0 7 (f_0 7)) 15 (f_0 15)) 16 (f_0 16)) 17 (f_0 17)) 18 (f_0 18)) 19 (f_0 19)) 20 (f_0 20)) 21 (f_0 21)) 56 (f_0 56)) 57 (f_0 57)) 58 (f_0 58)) _ _ ls hw (rr (by decide)) ⟨0, (n_0 1), (f_0 57), (f_0 58), (f_0 18), (f_0 15), (f_0 17), (f_0 19), (f_0 20), (f_0 21), (f_0 16), (f_0 56), (f_0 7), rfl, rfl, ⟨hp0, Or.inl ⟨rfl, by omega, rfl, rfl⟩⟩⟩ dX10_summers_29
  · subst ee2_
    refine j_if_eq E 16 28 rfl (rr (by decide)) dX10_summers_13 (by decide) (fun _ => ?_) (fun cc10_ => absurd cc10_ (by decide))
    refine j_iconst E 29 rfl dX10_summers_28 ?_
    exact hret 29 ((-1)) (upN (upN n_0 0 0) 1 (n_0 1)) (upF (upF (upF (upF (upF (upF (upF (upF (upF (upF (upF f_0 7 (f_0 7)) 15 (f_0 15)) 16 (f_0 16)) 17 (f_0 17)) 18 (f_0 18)) 19 (f_0 19)) 20 (f_0 20)) 21 (f_0 21)) 56 (f_0 56)) 57 (f_0 57)) 58 (f_0 58)) _ _ ls hw (rr (by decide)) ⟨0, (n_0 1), (f_0 57), (f_0 58), (f_0 18), (f_0 15), (f_0 17), (f_0 19), (f_0 20), (f_0 21), (f_0 16), (f_0 56), (f_0 7), rfl, rfl, ⟨hp0, Or.inl ⟨rfl, by omega, rfl, rfl⟩⟩⟩ dX10_summers_29
