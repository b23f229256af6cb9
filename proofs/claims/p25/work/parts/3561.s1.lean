set_option maxHeartbeats 4000000 in
set_option maxRecDepth 100000 in
theorem c2_X10_person (l : Launch) (D : va_G) (cy : Nat → ClassId) (q : Nat → Nat) (n_0 : Nat → Int) (f_0 : Nat → Int → Int) (v_quarter v_family v_born : Int) (r_v_quarter : inR v_quarter) (r_v_family : inR v_family) (r_v_born : inR v_born) (hp0 : MI (n_0) (f_0)) : MC l D cy q yX10_person cX10_person 4 (some .int) 1 [.int (J v_quarter), .int (J v_family), .int (J v_born)] n_0 f_0 (PI (fun (z_0 : Int) (n_2 : Nat → Int) (f_2 : Nat → Int → Int) => ∃ (x0_2 : Int) (x2_2 : Int) (y3_2 : Int → Int) (y4_2 : Int → Int) (y5_2 : Int → Int) (y6_2 : Int → Int) (y8_2 : Int → Int) , n_2 = upN (upN n_0 0 x0_2) 2 x2_2 ∧ f_2 = upF (upF (upF (upF (upF f_0 3 y3_2) 4 y4_2) 5 y5_2) 6 y6_2) 8 y8_2 ∧ (MI (upN (upN n_0 0 x0_2) 2 x2_2) (upF (upF (upF (upF (upF f_0 3 y3_2) 4 y4_2) 5 y5_2) 6 y6_2) 8 y8_2) ∧ ((z_0 = -1 ∧ (v_quarter < 0 ∨ 3 < v_quarter ∨ v_family < 0 ∨ 7 < v_family ∨ v_born < -90 ∨ (n_0 1) < v_born ∨ (n_0 2) = 24) ∧ (x2_2) = (n_0 2)) ∨ (z_0 = (n_0 2) ∧ 0 ≤ v_quarter ∧ v_quarter ≤ 3 ∧ 0 ≤ v_family ∧ v_family ≤ 7 ∧ -90 ≤ v_born ∧ v_born ≤ (n_0 1) ∧ (n_0 2) < 24 ∧ (x2_2) = (n_0 2) + 1))))) := by
  refine MC.ofi rfl (Nat.le_of_ble_eq_true rfl) ?_
  intro p e s m below meth c ls ar QW A0 H0 H locs E hK hA hw hl hret
  have hl : lv_has ls 4 [(0, .ref (q 0)), (1, .int (J v_quarter)), (2, .int (J v_family)), (3, .int (J v_born))] := hl
  have hp0_ := hp0
  obtain ⟨i_now, i_persons, i_lines, i_wordings, i_taped, i_suits, i_spk, i_fam, i_str, i_said, i_book, i_wds, i_tok, i_cod, i_far⟩ := hp0_
  refine j_aload_n E 1 rfl dX10_person_0 rfl (lv_at hl 0 rfl) ?_
  refine j_iconst E 2 rfl dX10_person_1 ?_
  refine m_put_0 E hK hw (rr (by decide)) 5 rfl dX10_person_2 (fun H locs hw => ?_)
  have hw : WM D cy q (upN n_0 0 0) (f_0) A0 H0 H locs := hw
  refine j_aload_n E 6 rfl dX10_person_5 rfl (lv_at hl 0 rfl) ?_
  refine j_iload_n E 7 rfl dX10_person_6 rfl (lv_at hl 1 rfl) ?_
  refine j_iconst E 8 rfl dX10_person_7 ?_
  refine j_iconst E 9 rfl dX10_person_8 ?_
  refine m_callp (po := fun z_0 => (z_0 = 1 ∧ (0 : Int) ≤ v_quarter ∧ v_quarter ≤ (3 : Int)) ∨ (z_0 = 0 ∧ (v_quarter < (0 : Int) ∨ (3 : Int) < v_quarter))) E (c_X10_isIn l D cy q (upN n_0 0 0) (f_0) v_quarter 0 3  r_v_quarter (rr (by decide)) (rr (by decide)) ) rfl mt_X10_isIn ml_X10_169 hK hw hA ⟨Nat.le_of_ble_eq_true rfl, Nat.le_of_ble_eq_true rfl⟩ (As := [.int (J v_quarter), .int (J 0), .int (J 3)]) (rest := []) rfl rfl hl.1 (Nat.le_of_ble_eq_true rfl) 12 rfl dX10_person_9 (fun zz2_ H locs rr2_ hq2_ hw => ?_)
  have hh2_ : (zz2_ = 1 ∧ (0 : Int) ≤ v_quarter ∧ v_quarter ≤ (3 : Int)) ∨ (zz2_ = 0 ∧ (v_quarter < (0 : Int) ∨ (3 : Int) < v_quarter)) := hq2_
  clear hq2_
  rcases hh2_ with ⟨ee2_, hh2_⟩ | ⟨ee2_, hh2_⟩
  · subst ee2_
    refine j_if_eq E 15 49 rfl (rr (by decide)) dX10_person_12 (by decide) (fun cc3_ => absurd cc3_ (by decide)) (fun _ => ?_)
    refine j_aload_n E 16 rfl dX10_person_15 rfl (lv_at hl 0 rfl) ?_
    refine j_iload_n E 17 rfl dX10_person_16 rfl (lv_at hl 2 rfl) ?_
    refine j_iconst E 18 rfl dX10_person_17 ?_
    refine j_bipush E 20 rfl dX10_person_18 (by decide) ?_
    refine m_callp (po := fun z_0 => (z_0 = 1 ∧ (0 : Int) ≤ v_family ∧ v_family ≤ (7 : Int)) ∨ (z_0 = 0 ∧ (v_family < (0 : Int) ∨ (7 : Int) < v_family))) E (c_X10_isIn l D cy q (upN n_0 0 0) (f_0) v_family 0 7  r_v_family (rr (by decide)) (rr (by decide)) ) rfl mt_X10_isIn ml_X10_169 hK hw hA ⟨Nat.le_of_ble_eq_true rfl, Nat.le_of_ble_eq_true rfl⟩ (As := [.int (J v_family), .int (J 0), .int (J 7)]) (rest := []) rfl rfl hl.1 (Nat.le_of_ble_eq_true rfl) 23 rfl dX10_person_20 (fun zz4_ H locs rr4_ hq4_ hw => ?_)
    have hh4_ : (zz4_ = 1 ∧ (0 : Int) ≤ v_family ∧ v_family ≤ (7 : Int)) ∨ (zz4_ = 0 ∧ (v_family < (0 : Int) ∨ (7 : Int) < v_family)) := hq4_
    clear hq4_
    rcases hh4_ with ⟨ee4_, hh4_⟩ | ⟨ee4_, hh4_⟩
    · subst ee4_
      refine j_if_eq E 26 49 rfl (rr (by decide)) dX10_person_23 (by decide) (fun cc5_ => absurd cc5_ (by decide)) (fun _ => ?_)
      refine j_aload_n E 27 rfl dX10_person_26 rfl (lv_at hl 0 rfl) ?_
      refine j_iload_n E 28 rfl dX10_person_27 rfl (lv_at hl 3 rfl) ?_
      refine j_bipush E 30 rfl dX10_person_28 (by decide) ?_
      refine j_aload_n E 31 rfl dX10_person_30 rfl (lv_at hl 0 rfl) ?_
      refine m_get_1 E hK hw (n_0 1) rfl 34 rfl dX10_person_31 (fun rr6_ => ?_)
      refine m_callp (po := fun z_0 => (z_0 = 1 ∧ (-90 : Int) ≤ v_born ∧ v_born ≤ (n_0 1)) ∨ (z_0 = 0 ∧ (v_born < (-90 : Int) ∨ (n_0 1) < v_born))) E (c_X10_isIn l D cy q (upN n_0 0 0) (f_0) v_born ((-90)) (n_0 1)  r_v_born (rr (by decide)) rr6_ ) rfl mt_X10_isIn ml_X10_169 hK hw hA ⟨Nat.le_of_ble_eq_true rfl, Nat.le_of_ble_eq_true rfl⟩ (As := [.int (J v_born), .int (J ((-90))), .int (J (n_0 1))]) (rest := []) rfl rfl hl.1 (Nat.le_of_ble_eq_true rfl) 37 rfl dX10_person_34 (fun zz7_ H locs rr7_ hq7_ hw => ?_)
      have hh7_ : (zz7_ = 1 ∧ (-90 : Int) ≤ v_born ∧ v_born ≤ (n_0 1)) ∨ (zz7_ = 0 ∧ (v_born < (-90 : Int) ∨ (n_0 1) < v_born)) := hq7_
      clear hq7_
      rcases hh7_ with ⟨ee7_, hh7_⟩ | ⟨ee7_, hh7_⟩
      · subst ee7_
        refine j_if_eq E 40 49 rfl (rr (by decide)) dX10_person_37 (by decide) (fun cc8_ => absurd cc8_ (by decide)) (fun _ => ?_)
        refine j_aload_n E 41 rfl dX10_person_40 rfl (lv_at hl 0 rfl) ?_
        refine m_get_2 E hK hw (n_0 2) rfl 44 rfl dX10_person_41 (fun rr9_ => ?_)
        refine j_bipush E 46 rfl dX10_person_44 (by decide) ?_
        refine j_icmp_ne E 49 51 rfl rr9_ (rr (by decide)) dX10_person_46 (by decide) (fun cc10_ => ?_) (fun cc10_ => ?_)
        · refine j_aload_n E 52 rfl dX10_person_51 rfl (lv_at hl 0 rfl) ?_
          refine m_ag_3 E hK hw 55 rfl dX10_person_52 ?_
          refine j_aload_n E 56 rfl dX10_person_55 rfl (lv_at hl 0 rfl) ?_
          refine m_get_2 E hK hw (n_0 2) rfl 59 rfl dX10_person_56 (fun _ => ?_)
          refine j_iload_n E 60 rfl dX10_person_59 rfl (lv_at hl 1 rfl) ?_
          refine m_st_3 E hK hw (by omega) r_v_quarter 61 rfl dX10_person_60 (fun H locs hw => ?_)
          have hw : WM D cy q (upN n_0 0 0) (upF f_0 3 (upA (f_0 3) (n_0 2) v_quarter)) A0 H0 H locs := hw
          refine j_aload_n E 62 rfl dX10_person_61 rfl (lv_at hl 0 rfl) ?_
          refine m_ag_4 E hK hw 65 rfl dX10_person_62 ?_
          refine j_aload_n E 66 rfl dX10_person_65 rfl (lv_at hl 0 rfl) ?_
          refine m_get_2 E hK hw (n_0 2) rfl 69 rfl dX10_person_66 (fun _ => ?_)
          refine j_iload_n E 70 rfl dX10_person_69 rfl (lv_at hl 2 rfl) ?_
          refine m_st_4 E hK hw (by omega) r_v_family 71 rfl dX10_person_70 (fun H locs hw => ?_)
          have hw : WM D cy q (upN n_0 0 0) (upF (upF f_0 3 (upA (f_0 3) (n_0 2) v_quarter)) 4 (upA (f_0 4) (n_0 2) v_family)) A0 H0 H locs := hw
          refine j_aload_n E 72 rfl dX10_person_71 rfl (lv_at hl 0 rfl) ?_
          refine m_ag_5 E hK hw 75 rfl dX10_person_72 ?_
          refine j_aload_n E 76 rfl dX10_person_75 rfl (lv_at hl 0 rfl) ?_
          refine m_get_2 E hK hw (n_0 2) rfl 79 rfl dX10_person_76 (fun _ => ?_)
          refine j_iload_n E 80 rfl dX10_person_79 rfl (lv_at hl 3 rfl) ?_
          refine m_st_5 E hK hw (by omega) r_v_born 81 rfl dX10_person_80 (fun H locs hw => ?_)
          have hw : WM D cy q (upN n_0 0 0) (upF (upF (upF f_0 3 (upA (f_0 3) (n_0 2) v_quarter)) 4 (upA (f_0 4) (n_0 2) v_family)) 5 (upA (f_0 5) (n_0 2) v_born)) A0 H0 H locs := hw
          refine j_aload_n E 82 rfl dX10_person_81 rfl (lv_at hl 0 rfl) ?_
          refine m_ag_6 E hK hw 85 rfl dX10_person_82 ?_
          refine j_aload_n E 86 rfl dX10_person_85 rfl (lv_at hl 0 rfl) ?_
          refine m_get_2 E hK hw (n_0 2) rfl 89 rfl dX10_person_86 (fun _ => ?_)
          refine j_iconst E 90 rfl dX10_person_89 ?_
          refine m_st_6 E hK hw (by omega) (rr (by decide)) 91 rfl dX10_person_90 (fun H locs hw => ?_)
          have hw : WM D cy q (upN n_0 0 0) (upF (upF (upF (upF f_0 3 (upA (f_0 3) (n_0 2) v_quarter)) 4 (upA (f_0 4) (n_0 2) v_family)) 5 (upA (f_0 5) (n_0 2) v_born)) 6 (upA (f_0 6) (n_0 2) ((-1)))) A0 H0 H locs := hw
          refine j_aload_n E 92 rfl dX10_person_91 rfl (lv_at hl 0 rfl) ?_
          refine m_ag_8 E hK hw 95 rfl dX10_person_92 ?_
          refine j_aload_n E 96 rfl dX10_person_95 rfl (lv_at hl 0 rfl) ?_
          refine m_get_2 E hK hw (n_0 2) rfl 99 rfl dX10_person_96 (fun _ => ?_)
          refine j_iconst E 100 rfl dX10_person_99 ?_
          refine m_st_8 E hK hw (by omega) (rr (by decide)) 101 rfl dX10_person_100 (fun H locs hw => ?_)
          have hw : WM D cy q (upN n_0 0 0) (upF (upF (upF (upF (upF f_0 3 (upA (f_0 3) (n_0 2) v_quarter)) 4 (upA (f_0 4) (n_0 2) v_family)) 5 (upA (f_0 5) (n_0 2) v_born)) 6 (upA (f_0 6) (n_0 2) ((-1)))) 8 (upA (f_0 8) (n_0 2) ((-1)))) A0 H0 H locs := hw
          refine j_aload_n E 102 rfl dX10_person_101 rfl (lv_at hl 0 rfl) ?_
          refine j_aload_n E 103 rfl dX10_person_102 rfl (lv_at hl 0 rfl) ?_
          refine m_get_2 E hK hw (n_0 2) rfl 106 rfl dX10_person_103 (fun _ => ?_)
          refine j_iconst E 107 rfl dX10_person_106 ?_
          refine j_iadd E 108 rfl dX10_person_107 ?_
          refine m_put_2 E hK hw (rr (by omega)) 111 rfl dX10_person_108 (fun H locs hw => ?_)
          have hw : WM D cy q (upN (upN n_0 0 0) 2 ((n_0 2) + 1)) (upF (upF (upF (upF (upF f_0 3 (upA (f_0 3) (n_0 2) v_quarter)) 4 (upA (f_0 4) (n_0 2) v_family)) 5 (upA (f_0 5) (n_0 2) v_born)) 6 (upA (f_0 6) (n_0 2) ((-1)))) 8 (upA (f_0 8) (n_0 2) ((-1)))) A0 H0 H locs := hw
          refine j_aload_n E 112 rfl dX10_person_111 rfl (lv_at hl 0 rfl) ?_
          refine m_get_2 E hK hw ((n_0 2) + 1) rfl 115 rfl dX10_person_112 (fun rr17_ => ?_)
          refine j_iconst E 116 rfl dX10_person_115 ?_
          refine j_isub E 117 rfl dX10_person_116 ?_
          exact hret 117 (((n_0 2) + 1) - 1) (upN (upN n_0 0 0) 2 ((n_0 2) + 1)) (upF (upF (upF (upF (upF f_0 3 (upA (f_0 3) (n_0 2) v_quarter)) 4 (upA (f_0 4) (n_0 2) v_family)) 5 (upA (f_0 5) (n_0 2) v_born)) 6 (upA (f_0 6) (n_0 2) ((-1)))) 8 (upA (f_0 8) (n_0 2) ((-1)))) _ _ ls hw (rr (by omega)) ⟨0, ((n_0 2) + 1), (upA (f_0 3) (n_0 2) v_quarter), (upA (f_0 4) (n_0 2) v_family), (upA (f_0 5) (n_0 2) v_born), (upA (f_0 6) (n_0 2) ((-1))), (upA (f_0 8) (n_0 2) ((-1))), rfl, rfl, ⟨⟨i_now, (show 0 ≤ ((n_0 2) + 1) ∧ ((n_0 2) + 1) ≤ 24 from by omega), i_lines, i_wordings, i_taped, i_suits, i_spk, (show Fam_ (upA (f_0 4) (n_0 2) v_family) from Fam_up i_fam (by omega)), i_str, i_said, i_book, i_wds, i_tok, i_cod, i_far⟩, by omega⟩⟩ dX10_person_117
        · refine j_iconst E 50 rfl dX10_person_49 ?_
          exact hret 50 ((-1)) (upN (upN n_0 0 0) 2 (n_0 2)) (upF (upF (upF (upF (upF f_0 3 (f_0 3)) 4 (f_0 4)) 5 (f_0 5)) 6 (f_0 6)) 8 (f_0 8)) _ _ ls hw (rr (by decide)) ⟨0, (n_0 2), (f_0 3), (f_0 4), (f_0 5), (f_0 6), (f_0 8), rfl, rfl, ⟨⟨i_now, i_persons, i_lines, i_wordings, i_taped, i_suits, i_spk, i_fam, i_str, i_said, i_book, i_wds, i_tok, i_cod, i_far⟩, by omega⟩⟩ dX10_person_50
      · subst ee7_
        refine j_if_eq E 40 49 rfl (rr (by decide)) dX10_person_37 (by decide) (fun _ => ?_) (fun cc18_ => absurd cc18_ (by decide))
        refine j_iconst E 50 rfl dX10_person_49 ?_
        exact hret 50 ((-1)) (upN (upN n_0 0 0) 2 (n_0 2)) (upF (upF (upF (upF (upF f_0 3 (f_0 3)) 4 (f_0 4)) 5 (f_0 5)) 6 (f_0 6)) 8 (f_0 8)) _ _ ls hw (rr (by decide)) ⟨0, (n_0 2), (f_0 3), (f_0 4), (f_0 5), (f_0 6), (f_0 8), rfl, rfl, ⟨⟨i_now, i_persons, i_lines, i_wordings, i_taped, i_suits, i_spk, i_fam, i_str, i_said, i_book, i_wds, i_tok, i_cod, i_far⟩, by omega⟩⟩ dX10_person_50
    · subst ee4_
      refine j_if_eq E 26 49 rfl (rr (by decide)) dX10_person_23 (by decide) (fun _ => ?_) (fun cc19_ => absurd cc19_ (by decide))
      refine j_iconst E 50 rfl dX10_person_49 ?_
      exact hret 50 ((-1)) (upN (upN n_0 0 0) 2 (n_0 2)) (upF (upF (upF (upF (upF f_0 3 (f_0 3)) 4 (f_0 4)) 5 (f_0 5)) 6 (f_0 6)) 8 (f_0 8)) _ _ ls hw (rr (by decide)) ⟨0, (n_0 2), (f_0 3), (f_0 4), (f_0 5), (f_0 6), (f_0 8), rfl, rfl, ⟨⟨i_now, i_persons, i_lines, i_wordings, i_taped, i_suits, i_spk, i_fam, i_str, i_said, i_book, i_wds, i_tok, i_cod, i_far⟩, by omega⟩⟩ dX10_person_50
  · subst ee2_
    refine j_if_eq E 15 49 rfl (rr (by decide)) dX10_person_12 (by decide) (fun _ => ?_) (fun cc20_ => absurd cc20_ (by decide))
    refine j_iconst E 50 rfl dX10_person_49 ?_
    exact hret 50 ((-1)) (upN (upN n_0 0 0) 2 (n_0 2)) (upF (upF (upF (upF (upF f_0 3 (f_0 3)) 4 (f_0 4)) 5 (f_0 5)) 6 (f_0 6)) 8 (f_0 8)) _ _ ls hw (rr (by decide)) ⟨0, (n_0 2), (f_0 3), (f_0 4), (f_0 5), (f_0 6), (f_0 8), rfl, rfl, ⟨⟨i_now, i_persons, i_lines, i_wordings, i_taped, i_suits, i_spk, i_fam, i_str, i_said, i_book, i_wds, i_tok, i_cod, i_far⟩, by omega⟩⟩ dX10_person_50
set_option maxHeartbeats 4000000 in
set_option maxRecDepth 100000 in
theorem c2_X10_line (l : Launch) (D : va_G) (cy : Nat → ClassId) (q : Nat → Nat) (n_0 : Nat → Int) (f_0 : Nat → Int → Int) (v_section v_verse : Int) (r_v_section : inR v_section) (r_v_verse : inR v_verse) (hp0 : MI (n_0) (f_0)) (hp1 : v_verse = 0 ∨ v_verse = 1) : MC l D cy q yX10_line cX10_line 4 (some .int) 1 [.int (J v_section), .int (J v_verse)] n_0 f_0 (PI (fun (z_0 : Int) (n_2 : Nat → Int) (f_2 : Nat → Int → Int) => ∃ (x0_2 : Int) (x12_2 : Int) (y13_2 : Int → Int) (y14_2 : Int → Int) (y16_2 : Int → Int) (y67_2 : Int → Int) (y18_2 : Int → Int) , n_2 = upN (upN n_0 0 x0_2) 12 x12_2 ∧ f_2 = upF (upF (upF (upF (upF f_0 13 y13_2) 14 y14_2) 16 y16_2) 18 y18_2) 67 y67_2 ∧ (MI (upN (upN n_0 0 x0_2) 12 x12_2) (upF (upF (upF (upF (upF f_0 13 y13_2) 14 y14_2) 16 y16_2) 18 y18_2) 67 y67_2) ∧ ((z_0 = -1 ∧ (v_section < 0 ∨ 2 < v_section ∨ (n_0 12) = 24) ∧ (x12_2) = (n_0 12)) ∨ (z_0 = (n_0 12) ∧ 0 ≤ v_section ∧ v_section ≤ 2 ∧ (n_0 12) < 24 ∧ (x12_2) = (n_0 12) + 1))))) := by
  refine MC.ofi rfl (Nat.le_of_ble_eq_true rfl) ?_
  intro p e s m below meth c ls ar QW A0 H0 H locs E hK hA hw hl hret
  have hl : lv_has ls 4 [(0, .ref (q 0)), (1, .int (J v_section)), (2, .int (J v_verse))] := hl
  have hp0_ := hp0
  obtain ⟨i_now, i_persons, i_lines, i_wordings, i_taped, i_suits, i_spk, i_fam, i_str, i_said, i_book, i_wds, i_tok, i_cod, i_far⟩ := hp0_
  refine j_aload_n E 1 rfl dX10_line_0 rfl (lv_at hl 0 rfl) ?_
  refine j_iconst E 2 rfl dX10_line_1 ?_
  refine m_put_0 E hK hw (rr (by decide)) 5 rfl dX10_line_2 (fun H locs hw => ?_)
  have hw : WM D cy q (upN n_0 0 0) (f_0) A0 H0 H locs := hw
  refine j_aload_n E 6 rfl dX10_line_5 rfl (lv_at hl 0 rfl) ?_
  refine j_iload_n E 7 rfl dX10_line_6 rfl (lv_at hl 1 rfl) ?_
  refine j_iconst E 8 rfl dX10_line_7 ?_
  refine j_iconst E 9 rfl dX10_line_8 ?_
  refine m_callp (po := fun z_0 => (z_0 = 1 ∧ (0 : Int) ≤ v_section ∧ v_section ≤ (2 : Int)) ∨ (z_0 = 0 ∧ (v_section < (0 : Int) ∨ (2 : Int) < v_section))) E (c_X10_isIn l D cy q (upN n_0 0 0) (f_0) v_section 0 2  r_v_section (rr (by decide)) (rr (by decide)) ) rfl mt_X10_isIn ml_X10_169 hK hw hA ⟨Nat.le_of_ble_eq_true rfl, Nat.le_of_ble_eq_true rfl⟩ (As := [.int (J v_section), .int (J 0), .int (J 2)]) (rest := []) rfl rfl hl.1 (Nat.le_of_ble_eq_true rfl) 12 rfl dX10_line_9 (fun zz2_ H locs rr2_ hq2_ hw => ?_)
  have hh2_ : (zz2_ = 1 ∧ (0 : Int) ≤ v_section ∧ v_section ≤ (2 : Int)) ∨ (zz2_ = 0 ∧ (v_section < (0 : Int) ∨ (2 : Int) < v_section)) := hq2_
  clear hq2_
  rcases hh2_ with ⟨ee2_, hh2_⟩ | ⟨ee2_, hh2_⟩
  · subst ee2_
    refine j_if_eq E 15 24 rfl (rr (by decide)) dX10_line_12 (by decide) (fun cc3_ => absurd cc3_ (by decide)) (fun _ => ?_)
    refine j_aload_n E 16 rfl dX10_line_15 rfl (lv_at hl 0 rfl) ?_
    refine m_get_12 E hK hw (n_0 12) rfl 19 rfl dX10_line_16 (fun rr4_ => ?_)
    refine j_bipush E 21 rfl dX10_line_19 (by decide) ?_
    refine j_icmp_ne E 24 26 rfl rr4_ (rr (by decide)) dX10_line_21 (by decide) (fun cc5_ => ?_) (fun cc5_ => ?_)
    · refine j_aload_n E 27 rfl dX10_line_26 rfl (lv_at hl 0 rfl) ?_
      refine m_ag_13 E hK hw 30 rfl dX10_line_27 ?_
      refine j_aload_n E 31 rfl dX10_line_30 rfl (lv_at hl 0 rfl) ?_
      refine m_get_12 E hK hw (n_0 12) rfl 34 rfl dX10_line_31 (fun _ => ?_)
      refine j_iload_n E 35 rfl dX10_line_34 rfl (lv_at hl 1 rfl) ?_
      refine m_st_13 E hK hw (by omega) r_v_section 36 rfl dX10_line_35 (fun H locs hw => ?_)
      have hw : WM D cy q (upN n_0 0 0) (upF f_0 13 (upA (f_0 13) (n_0 12) v_section)) A0 H0 H locs := hw
      refine j_aload_n E 37 rfl dX10_line_36 rfl (lv_at hl 0 rfl) ?_
      refine m_ag_14 E hK hw 40 rfl dX10_line_37 ?_
      refine j_aload_n E 41 rfl dX10_line_40 rfl (lv_at hl 0 rfl) ?_
      refine m_get_12 E hK hw (n_0 12) rfl 44 rfl dX10_line_41 (fun _ => ?_)
      refine j_iload_n E 45 rfl dX10_line_44 rfl (lv_at hl 2 rfl) ?_
      refine m_st_14 E hK hw (by omega) r_v_verse (by omega) 46 rfl dX10_line_45 (fun H locs hw => ?_)
      have hw : WM D cy q (upN n_0 0 0) (upF (upF f_0 13 (upA (f_0 13) (n_0 12) v_section)) 14 (upA (f_0 14) (n_0 12) v_verse)) A0 H0 H locs := hw
      refine j_aload_n E 47 rfl dX10_line_46 rfl (lv_at hl 0 rfl) ?_
      refine m_ag_16 E hK hw 50 rfl dX10_line_47 ?_
      refine j_aload_n E 51 rfl dX10_line_50 rfl (lv_at hl 0 rfl) ?_
      refine m_get_12 E hK hw (n_0 12) rfl 54 rfl dX10_line_51 (fun _ => ?_)
      refine j_iconst E 55 rfl dX10_line_54 ?_
      refine m_st_16 E hK hw (by omega) (rr (by decide)) 56 rfl dX10_line_55 (fun H locs hw => ?_)
      have hw : WM D cy q (upN n_0 0 0) (upF (upF (upF f_0 13 (upA (f_0 13) (n_0 12) v_section)) 14 (upA (f_0 14) (n_0 12) v_verse)) 16 (upA (f_0 16) (n_0 12) ((-1)))) A0 H0 H locs := hw
      refine j_aload_n E 57 rfl dX10_line_56 rfl (lv_at hl 0 rfl) ?_
      refine m_ag_67 E hK hw 60 rfl dX10_line_57 ?_
      refine j_aload_n E 61 rfl dX10_line_60 rfl (lv_at hl 0 rfl) ?_
      refine m_get_12 E hK hw (n_0 12) rfl 64 rfl dX10_line_61 (fun _ => ?_)
      refine j_iconst E 65 rfl dX10_line_64 ?_
      refine m_st_67 E hK hw (by omega) (rr (by decide)) 66 rfl dX10_line_65 (fun H locs hw => ?_)
      have hw : WM D cy q (upN n_0 0 0) (upF (upF (upF (upF f_0 13 (upA (f_0 13) (n_0 12) v_section)) 14 (upA (f_0 14) (n_0 12) v_verse)) 16 (upA (f_0 16) (n_0 12) ((-1)))) 67 (upA (f_0 67) (n_0 12) ((-1)))) A0 H0 H locs := hw
      refine j_iconst E 67 rfl dX10_line_66 ?_
      refine j_istore_n E 68 rfl [(3, .int (J 0)), (0, .ref (q 0)), (1, .int (J v_section)), (2, .int (J v_verse))] dX10_line_67 rfl hl (by decide) rfl (fun ls hl => ?_)
      have L68_10 : ∀ (k68 : Nat) (gk : Int) (y18_c68 : Int → Int) (H : Heap) (locs : List Loc) (ls : Array Slot), inR gk → (0 ≤ gk ∧ gk ≤ 200 ∧ ∀ j, 0 ≤ j → j < 200 * (n_0 12) + gk → (y18_c68 j) < (n_0 29)) → (200 - gk) < (k68 : Int) → WM D cy q (upN n_0 0 0) (upF (upF (upF (upF (upF f_0 13 (upA (f_0 13) (n_0 12) v_section)) 14 (upA (f_0 14) (n_0 12) v_verse)) 16 (upA (f_0 16) (n_0 12) ((-1)))) 18 y18_c68) 67 (upA (f_0 67) (n_0 12) ((-1)))) A0 H0 H locs → lv_has ls 4 [(0, .ref (q 0)), (1, .int (J v_section)), (2, .int (J v_verse)), (3, .int (J gk))] → W p l e (rmd 1 0 0) s m ar below meth c H locs 0 0 QW (F0 m 68 ls []) := by
        intro k68
        induction k68 with
        | zero =>
          intro gk y18_c68 H locs ls r_gk iv68 ms68 hw hl
          exfalso; omega
        | succ k68 ih68 =>
          intro gk y18_c68 H locs ls r_gk iv68 ms68 hw hl
          refine j_iload_n E 69 rfl dX10_line_68 rfl (lv_at hl 3 rfl) ?_
          refine j_sipush E 72 rfl dX10_line_69 (by decide) ?_
          refine j_icmp_ge E 75 98 rfl r_gk (rr (by decide)) dX10_line_72 (by decide) (fun cc12_ => ?_) (fun cc12_ => ?_)
          · refine j_aload_n E 99 rfl dX10_line_98 rfl (lv_at hl 0 rfl) ?_
            refine j_aload_n E 100 rfl dX10_line_99 rfl (lv_at hl 0 rfl) ?_
            refine m_get_12 E hK hw (n_0 12) rfl 103 rfl dX10_line_100 (fun _ => ?_)
            refine j_iconst E 104 rfl dX10_line_103 ?_
            refine j_iadd E 105 rfl dX10_line_104 ?_
            refine m_put_12 E hK hw (rr (by omega)) 108 rfl dX10_line_105 (fun H locs hw => ?_)
            have hw : WM D cy q (upN (upN n_0 0 0) 12 ((n_0 12) + 1)) (upF (upF (upF (upF (upF f_0 13 (upA (f_0 13) (n_0 12) v_section)) 14 (upA (f_0 14) (n_0 12) v_verse)) 16 (upA (f_0 16) (n_0 12) ((-1)))) 18 y18_c68) 67 (upA (f_0 67) (n_0 12) ((-1)))) A0 H0 H locs := hw
            refine j_aload_n E 109 rfl dX10_line_108 rfl (lv_at hl 0 rfl) ?_
            refine m_get_12 E hK hw ((n_0 12) + 1) rfl 112 rfl dX10_line_109 (fun rr14_ => ?_)
            refine j_iconst E 113 rfl dX10_line_112 ?_
            refine j_isub E 114 rfl dX10_line_113 ?_
            exact hret 114 (((n_0 12) + 1) - 1) (upN (upN n_0 0 0) 12 ((n_0 12) + 1)) (upF (upF (upF (upF (upF f_0 13 (upA (f_0 13) (n_0 12) v_section)) 14 (upA (f_0 14) (n_0 12) v_verse)) 16 (upA (f_0 16) (n_0 12) ((-1)))) 18 y18_c68) 67 (upA (f_0 67) (n_0 12) ((-1)))) _ _ ls hw (rr (by omega)) ⟨0, ((n_0 12) + 1), (upA (f_0 13) (n_0 12) v_section), (upA (f_0 14) (n_0 12) v_verse), (upA (f_0 16) (n_0 12) ((-1))), (upA (f_0 67) (n_0 12) ((-1))), y18_c68, rfl, rfl, ⟨⟨i_now, i_persons, (show 0 ≤ ((n_0 12) + 1) ∧ ((n_0 12) + 1) ≤ 24 from by omega), i_wordings, i_taped, i_suits, i_spk, i_fam, i_str, (show Said_ (y18_c68) ((n_0 12) + 1) (n_0 29) from (fun j h1 h2 => iv68.2.2 j h1 (by have h3 : j < 200 * (n_0 12 + 1) := h2; omega))), (show Book_ (upA (f_0 67) (n_0 12) ((-1))) ((n_0 12) + 1) (n_0 29) from Book_grow i_book (by omega)), i_wds, i_tok, i_cod, i_far⟩, by omega⟩⟩ dX10_line_114
          · refine j_aload_n E 76 rfl dX10_line_75 rfl (lv_at hl 0 rfl) ?_
            refine m_ag_18 E hK hw 79 rfl dX10_line_76 ?_
            refine j_sipush E 82 rfl dX10_line_79 (by decide) ?_
            refine j_aload_n E 83 rfl dX10_line_82 rfl (lv_at hl 0 rfl) ?_
            refine m_get_12 E hK hw (n_0 12) rfl 86 rfl dX10_line_83 (fun _ => ?_)
            refine j_imul E 87 rfl dX10_line_86 ?_
            refine j_iload_n E 88 rfl dX10_line_87 rfl (lv_at hl 3 rfl) ?_
            refine j_iadd E 89 rfl dX10_line_88 ?_
            refine j_bipush E 91 rfl dX10_line_89 (by decide) ?_
            refine m_st_18 E hK hw (by omega) (rr (by decide)) 92 rfl dX10_line_91 (fun H locs hw => ?_)
            have hw : WM D cy q (upN n_0 0 0) (upF (upF (upF (upF (upF f_0 13 (upA (f_0 13) (n_0 12) v_section)) 14 (upA (f_0 14) (n_0 12) v_verse)) 16 (upA (f_0 16) (n_0 12) ((-1)))) 18 (upA (y18_c68) ((200 * (n_0 12)) + gk) ((-2)))) 67 (upA (f_0 67) (n_0 12) ((-1)))) A0 H0 H locs := hw
            refine j_iinc E 95 rfl [(3, .int (J (gk + 1))), (0, .ref (q 0)), (1, .int (J v_section)), (2, .int (J v_verse))] dX10_line_92 hl (kk := 3) rfl (by decide) rfl (fun ls hl => ?_)
            refine j_goto E 68 dX10_line_95 (by decide) ?_
            exact ih68 (gk + 1) (upA (y18_c68) ((200 * (n_0 12)) + gk) ((-2))) H locs ls (rr (by omega)) (⟨by omega, by omega, sd_step iv68.2.2 (by omega)⟩) (by omega) hw (lv_sub hl [1, 2, 3, 0] rfl)
      exact L68_10 _ 0 (f_0 18) H locs ls (rr (by decide)) (⟨by omega, by omega, fun j h1 h2 => i_said j h1 (by omega)⟩) (mk_lt _) hw (lv_sub hl [1, 2, 3, 0] rfl)
    · refine j_iconst E 25 rfl dX10_line_24 ?_
      exact hret 25 ((-1)) (upN (upN n_0 0 0) 12 (n_0 12)) (upF (upF (upF (upF (upF f_0 13 (f_0 13)) 14 (f_0 14)) 16 (f_0 16)) 18 (f_0 18)) 67 (f_0 67)) _ _ ls hw (rr (by decide)) ⟨0, (n_0 12), (f_0 13), (f_0 14), (f_0 16), (f_0 67), (f_0 18), rfl, rfl, ⟨⟨i_now, i_persons, i_lines, i_wordings, i_taped, i_suits, i_spk, i_fam, i_str, i_said, i_book, i_wds, i_tok, i_cod, i_far⟩, by omega⟩⟩ dX10_line_25
  · subst ee2_
    refine j_if_eq E 15 24 rfl (rr (by decide)) dX10_line_12 (by decide) (fun _ => ?_) (fun cc16_ => absurd cc16_ (by decide))
    refine j_iconst E 25 rfl dX10_line_24 ?_
    exact hret 25 ((-1)) (upN (upN n_0 0 0) 12 (n_0 12)) (upF (upF (upF (upF (upF f_0 13 (f_0 13)) 14 (f_0 14)) 16 (f_0 16)) 18 (f_0 18)) 67 (f_0 67)) _ _ ls hw (rr (by decide)) ⟨0, (n_0 12), (f_0 13), (f_0 14), (f_0 16), (f_0 67), (f_0 18), rfl, rfl, ⟨⟨i_now, i_persons, i_lines, i_wordings, i_taped, i_suits, i_spk, i_fam, i_str, i_said, i_book, i_wds, i_tok, i_cod, i_far⟩, by omega⟩⟩ dX10_line_25
