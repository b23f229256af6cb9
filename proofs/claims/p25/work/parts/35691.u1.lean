set_option maxHeartbeats 4000000 in
set_option maxRecDepth 100000 in
theorem c4_X10_takesFacts (l : Launch) (D : va_G) (cy : Nat → ClassId) (q : Nat → Nat) (n_0 : Nat → Int) (f_0 : Nat → Int → Int) (v_harm v_witnesses v_years v_kin v_age : Int) (r_v_harm : inR v_harm) (r_v_witnesses : inR v_witnesses) (r_v_years : inR v_years) (r_v_kin : inR v_kin) (r_v_age : inR v_age) : MC l D cy q yX10_takesFacts cX10_takesFacts 6 (some .boolean) 2 [.int (J v_harm), .int (J v_witnesses), .int (J v_years), .int (J v_kin), .int (J v_age)] n_0 f_0 (PI (fun (z_0 : Int) (n_2 : Nat → Int) (f_2 : Nat → Int → Int) => ∃ (y45_2 : Int → Int) , n_2 = n_0 ∧ f_2 = upF f_0 45 y45_2 ∧ ((z_0 = 1 ∧ 0 ≤ v_harm ∧ v_harm ≤ 99 ∧ 0 ≤ v_witnesses ∧ v_witnesses ≤ 9 ∧ 0 ≤ v_years ∧ v_years ≤ 299 ∧ 0 ≤ v_kin ∧ v_kin ≤ 1 ∧ -99 ≤ v_age ∧ v_age ≤ 299) ∨ (z_0 = 0 ∧ ¬ (0 ≤ v_harm ∧ v_harm ≤ 99 ∧ 0 ≤ v_witnesses ∧ v_witnesses ≤ 9 ∧ 0 ≤ v_years ∧ v_years ≤ 299 ∧ 0 ≤ v_kin ∧ v_kin ≤ 1 ∧ -99 ≤ v_age ∧ v_age ≤ 299))))) := by
  refine MC.ofz rfl (Nat.le_of_ble_eq_true rfl) ?_
  intro p e s m below meth c ls ar QW A0 H0 H locs E hK hA hw hl hret
  have hl : lv_has ls 6 [(0, .ref (q 0)), (1, .int (J v_harm)), (2, .int (J v_witnesses)), (3, .int (J v_years)), (4, .int (J v_kin)), (5, .int (J v_age))] := hl
  refine j_aload_n E 1 rfl dX10_takesFacts_0 rfl (lv_at hl 0 rfl) ?_
  refine j_iload_n E 2 rfl dX10_takesFacts_1 rfl (lv_at hl 1 rfl) ?_
  refine j_bipush E 4 rfl dX10_takesFacts_2 (by decide) ?_
  refine m_callp (po := fun z_0 => (z_0 = 1 ∧ 0 ≤ v_harm ∧ v_harm ≤ (99 : Int)) ∨ (z_0 = 0 ∧ (v_harm < 0 ∨ (99 : Int) < v_harm))) E (c_X10_isFact l D cy q (n_0) (f_0) v_harm 99  r_v_harm (rr (by decide)) ) rfl mt_X10_isFact ml_X10_320 hK hw hA ⟨Nat.le_of_ble_eq_true rfl, Nat.le_of_ble_eq_true rfl⟩ (As := [.int (J v_harm), .int (J 99)]) (rest := []) rfl rfl hl.1 (Nat.le_of_ble_eq_true rfl) 7 rfl dX10_takesFacts_4 (fun zz1_ H locs rr1_ hq1_ hw => ?_)
  have hh1_ : (zz1_ = 1 ∧ 0 ≤ v_harm ∧ v_harm ≤ (99 : Int)) ∨ (zz1_ = 0 ∧ (v_harm < 0 ∨ (99 : Int) < v_harm)) := hq1_
  clear hq1_
  rcases hh1_ with ⟨ee1_, hh1_⟩ | ⟨ee1_, hh1_⟩
  · subst ee1_
    refine j_if_eq E 10 55 rfl (rr (by decide)) dX10_takesFacts_7 (by decide) (fun cc2_ => absurd cc2_ (by decide)) (fun _ => ?_)
    refine j_aload_n E 11 rfl dX10_takesFacts_10 rfl (lv_at hl 0 rfl) ?_
    refine j_iload_n E 12 rfl dX10_takesFacts_11 rfl (lv_at hl 2 rfl) ?_
    refine j_bipush E 14 rfl dX10_takesFacts_12 (by decide) ?_
    refine m_callp (po := fun z_0 => (z_0 = 1 ∧ 0 ≤ v_witnesses ∧ v_witnesses ≤ (9 : Int)) ∨ (z_0 = 0 ∧ (v_witnesses < 0 ∨ (9 : Int) < v_witnesses))) E (c_X10_isFact l D cy q (n_0) (f_0) v_witnesses 9  r_v_witnesses (rr (by decide)) ) rfl mt_X10_isFact ml_X10_320 hK hw hA ⟨Nat.le_of_ble_eq_true rfl, Nat.le_of_ble_eq_true rfl⟩ (As := [.int (J v_witnesses), .int (J 9)]) (rest := []) rfl rfl hl.1 (Nat.le_of_ble_eq_true rfl) 17 rfl dX10_takesFacts_14 (fun zz3_ H locs rr3_ hq3_ hw => ?_)
    have hh3_ : (zz3_ = 1 ∧ 0 ≤ v_witnesses ∧ v_witnesses ≤ (9 : Int)) ∨ (zz3_ = 0 ∧ (v_witnesses < 0 ∨ (9 : Int) < v_witnesses)) := hq3_
    clear hq3_
    rcases hh3_ with ⟨ee3_, hh3_⟩ | ⟨ee3_, hh3_⟩
    · subst ee3_
      refine j_if_eq E 20 55 rfl (rr (by decide)) dX10_takesFacts_17 (by decide) (fun cc4_ => absurd cc4_ (by decide)) (fun _ => ?_)
      refine j_aload_n E 21 rfl dX10_takesFacts_20 rfl (lv_at hl 0 rfl) ?_
      refine j_iload_n E 22 rfl dX10_takesFacts_21 rfl (lv_at hl 3 rfl) ?_
      refine j_sipush E 25 rfl dX10_takesFacts_22 (by decide) ?_
      refine m_callp (po := fun z_0 => (z_0 = 1 ∧ 0 ≤ v_years ∧ v_years ≤ (299 : Int)) ∨ (z_0 = 0 ∧ (v_years < 0 ∨ (299 : Int) < v_years))) E (c_X10_isFact l D cy q (n_0) (f_0) v_years 299  r_v_years (rr (by decide)) ) rfl mt_X10_isFact ml_X10_320 hK hw hA ⟨Nat.le_of_ble_eq_true rfl, Nat.le_of_ble_eq_true rfl⟩ (As := [.int (J v_years), .int (J 299)]) (rest := []) rfl rfl hl.1 (Nat.le_of_ble_eq_true rfl) 28 rfl dX10_takesFacts_25 (fun zz5_ H locs rr5_ hq5_ hw => ?_)
      have hh5_ : (zz5_ = 1 ∧ 0 ≤ v_years ∧ v_years ≤ (299 : Int)) ∨ (zz5_ = 0 ∧ (v_years < 0 ∨ (299 : Int) < v_years)) := hq5_
      clear hq5_
      rcases hh5_ with ⟨ee5_, hh5_⟩ | ⟨ee5_, hh5_⟩
      · subst ee5_
        refine j_if_eq E 31 55 rfl (rr (by decide)) dX10_takesFacts_28 (by decide) (fun cc6_ => absurd cc6_ (by decide)) (fun _ => ?_)
        refine j_aload_n E 32 rfl dX10_takesFacts_31 rfl (lv_at hl 0 rfl) ?_
        refine j_iload E 34 rfl dX10_takesFacts_32 (lv_at hl 4 rfl) ?_
        refine j_iconst E 35 rfl dX10_takesFacts_34 ?_
        refine m_callp (po := fun z_0 => (z_0 = 1 ∧ 0 ≤ v_kin ∧ v_kin ≤ (1 : Int)) ∨ (z_0 = 0 ∧ (v_kin < 0 ∨ (1 : Int) < v_kin))) E (c_X10_isFact l D cy q (n_0) (f_0) v_kin 1  r_v_kin (rr (by decide)) ) rfl mt_X10_isFact ml_X10_320 hK hw hA ⟨Nat.le_of_ble_eq_true rfl, Nat.le_of_ble_eq_true rfl⟩ (As := [.int (J v_kin), .int (J 1)]) (rest := []) rfl rfl hl.1 (Nat.le_of_ble_eq_true rfl) 38 rfl dX10_takesFacts_35 (fun zz7_ H locs rr7_ hq7_ hw => ?_)
        have hh7_ : (zz7_ = 1 ∧ 0 ≤ v_kin ∧ v_kin ≤ (1 : Int)) ∨ (zz7_ = 0 ∧ (v_kin < 0 ∨ (1 : Int) < v_kin)) := hq7_
        clear hq7_
        rcases hh7_ with ⟨ee7_, hh7_⟩ | ⟨ee7_, hh7_⟩
        · subst ee7_
          refine j_if_eq E 41 55 rfl (rr (by decide)) dX10_takesFacts_38 (by decide) (fun cc8_ => absurd cc8_ (by decide)) (fun _ => ?_)
          refine j_aload_n E 42 rfl dX10_takesFacts_41 rfl (lv_at hl 0 rfl) ?_
          refine j_iload E 44 rfl dX10_takesFacts_42 (lv_at hl 5 rfl) ?_
          refine j_bipush E 46 rfl dX10_takesFacts_44 (by decide) ?_
          refine j_sipush E 49 rfl dX10_takesFacts_46 (by decide) ?_
          refine m_callp (po := fun z_0 => (z_0 = 1 ∧ (-99 : Int) ≤ v_age ∧ v_age ≤ (299 : Int)) ∨ (z_0 = 0 ∧ (v_age < (-99 : Int) ∨ (299 : Int) < v_age))) E (c_X10_isIn l D cy q (n_0) (f_0) v_age ((-99)) 299  r_v_age (rr (by decide)) (rr (by decide)) ) rfl mt_X10_isIn ml_X10_169 hK hw hA ⟨Nat.le_of_ble_eq_true rfl, Nat.le_of_ble_eq_true rfl⟩ (As := [.int (J v_age), .int (J ((-99))), .int (J 299)]) (rest := []) rfl rfl hl.1 (Nat.le_of_ble_eq_true rfl) 52 rfl dX10_takesFacts_49 (fun zz9_ H locs rr9_ hq9_ hw => ?_)
          have hh9_ : (zz9_ = 1 ∧ (-99 : Int) ≤ v_age ∧ v_age ≤ (299 : Int)) ∨ (zz9_ = 0 ∧ (v_age < (-99 : Int) ∨ (299 : Int) < v_age)) := hq9_
          clear hq9_
          rcases hh9_ with ⟨ee9_, hh9_⟩ | ⟨ee9_, hh9_⟩
          · subst ee9_
            refine j_if_ne E 55 57 rfl (rr (by decide)) dX10_takesFacts_52 (by decide) (fun _ => ?_) (fun cc10_ => absurd cc10_ (by decide))
            refine j_aload_n E 58 rfl dX10_takesFacts_57 rfl (lv_at hl 0 rfl) ?_
            refine m_ag_45 E hK hw 61 rfl dX10_takesFacts_58 ?_
            refine j_iconst E 62 rfl dX10_takesFacts_61 ?_
            refine j_iload_n E 63 rfl dX10_takesFacts_62 rfl (lv_at hl 1 rfl) ?_
            refine m_st_45 E hK hw (by omega) r_v_harm 64 rfl dX10_takesFacts_63 (fun H locs hw => ?_)
            have hw : WM D cy q (n_0) (upF f_0 45 (upA (f_0 45) 0 v_harm)) A0 H0 H locs := hw
            refine j_aload_n E 65 rfl dX10_takesFacts_64 rfl (lv_at hl 0 rfl) ?_
            refine m_ag_45 E hK hw 68 rfl dX10_takesFacts_65 ?_
            refine j_iconst E 69 rfl dX10_takesFacts_68 ?_
            refine j_iload_n E 70 rfl dX10_takesFacts_69 rfl (lv_at hl 2 rfl) ?_
            refine m_st_45 E hK hw (by omega) r_v_witnesses 71 rfl dX10_takesFacts_70 (fun H locs hw => ?_)
            have hw : WM D cy q (n_0) (upF f_0 45 (upA (upA (f_0 45) 0 v_harm) 1 v_witnesses)) A0 H0 H locs := hw
            refine j_aload_n E 72 rfl dX10_takesFacts_71 rfl (lv_at hl 0 rfl) ?_
            refine m_ag_45 E hK hw 75 rfl dX10_takesFacts_72 ?_
            refine j_iconst E 76 rfl dX10_takesFacts_75 ?_
            refine j_iload_n E 77 rfl dX10_takesFacts_76 rfl (lv_at hl 3 rfl) ?_
            refine m_st_45 E hK hw (by omega) r_v_years 78 rfl dX10_takesFacts_77 (fun H locs hw => ?_)
            have hw : WM D cy q (n_0) (upF f_0 45 (upA (upA (upA (f_0 45) 0 v_harm) 1 v_witnesses) 2 v_years)) A0 H0 H locs := hw
            refine j_aload_n E 79 rfl dX10_takesFacts_78 rfl (lv_at hl 0 rfl) ?_
            refine m_ag_45 E hK hw 82 rfl dX10_takesFacts_79 ?_
            refine j_iconst E 83 rfl dX10_takesFacts_82 ?_
            refine j_iload E 85 rfl dX10_takesFacts_83 (lv_at hl 4 rfl) ?_
            refine m_st_45 E hK hw (by omega) r_v_kin 86 rfl dX10_takesFacts_85 (fun H locs hw => ?_)
            have hw : WM D cy q (n_0) (upF f_0 45 (upA (upA (upA (upA (f_0 45) 0 v_harm) 1 v_witnesses) 2 v_years) 3 v_kin)) A0 H0 H locs := hw
            refine j_aload_n E 87 rfl dX10_takesFacts_86 rfl (lv_at hl 0 rfl) ?_
            refine m_ag_45 E hK hw 90 rfl dX10_takesFacts_87 ?_
            refine j_iconst E 91 rfl dX10_takesFacts_90 ?_
            refine j_iload E 93 rfl dX10_takesFacts_91 (lv_at hl 5 rfl) ?_
            refine m_st_45 E hK hw (by omega) r_v_age 94 rfl dX10_takesFacts_93 (fun H locs hw => ?_)
            have hw : WM D cy q (n_0) (upF f_0 45 (upA (upA (upA (upA (upA (f_0 45) 0 v_harm) 1 v_witnesses) 2 v_years) 3 v_kin) 4 v_age)) A0 H0 H locs := hw
            refine j_iconst E 95 rfl dX10_takesFacts_94 ?_
            exact hret 95 1 (n_0) (upF f_0 45 (upA (upA (upA (upA (upA (f_0 45) 0 v_harm) 1 v_witnesses) 2 v_years) 3 v_kin) 4 v_age)) _ _ ls hw (Or.inr rfl) ⟨(upA (upA (upA (upA (upA (f_0 45) 0 v_harm) 1 v_witnesses) 2 v_years) 3 v_kin) 4 v_age), rfl, rfl, by omega⟩ dX10_takesFacts_95
          · subst ee9_
            refine j_if_ne E 55 57 rfl (rr (by decide)) dX10_takesFacts_52 (by decide) (fun cc16_ => absurd cc16_ (by decide)) (fun _ => ?_)
            refine j_iconst E 56 rfl dX10_takesFacts_55 ?_
            exact hret 56 0 (n_0) (upF f_0 45 (f_0 45)) _ _ ls hw (Or.inl rfl) ⟨(f_0 45), rfl, rfl, by omega⟩ dX10_takesFacts_56
        · subst ee7_
          refine j_if_eq E 41 55 rfl (rr (by decide)) dX10_takesFacts_38 (by decide) (fun _ => ?_) (fun cc17_ => absurd cc17_ (by decide))
          refine j_iconst E 56 rfl dX10_takesFacts_55 ?_
          exact hret 56 0 (n_0) (upF f_0 45 (f_0 45)) _ _ ls hw (Or.inl rfl) ⟨(f_0 45), rfl, rfl, by omega⟩ dX10_takesFacts_56
      · subst ee5_
        refine j_if_eq E 31 55 rfl (rr (by decide)) dX10_takesFacts_28 (by decide) (fun _ => ?_) (fun cc18_ => absurd cc18_ (by decide))
        refine j_iconst E 56 rfl dX10_takesFacts_55 ?_
        exact hret 56 0 (n_0) (upF f_0 45 (f_0 45)) _ _ ls hw (Or.inl rfl) ⟨(f_0 45), rfl, rfl, by omega⟩ dX10_takesFacts_56
    · subst ee3_
      refine j_if_eq E 20 55 rfl (rr (by decide)) dX10_takesFacts_17 (by decide) (fun _ => ?_) (fun cc19_ => absurd cc19_ (by decide))
      refine j_iconst E 56 rfl dX10_takesFacts_55 ?_
      exact hret 56 0 (n_0) (upF f_0 45 (f_0 45)) _ _ ls hw (Or.inl rfl) ⟨(f_0 45), rfl, rfl, by omega⟩ dX10_takesFacts_56
  · subst ee1_
    refine j_if_eq E 10 55 rfl (rr (by decide)) dX10_takesFacts_7 (by decide) (fun _ => ?_) (fun cc20_ => absurd cc20_ (by decide))
    refine j_iconst E 56 rfl dX10_takesFacts_55 ?_
    exact hret 56 0 (n_0) (upF f_0 45 (f_0 45)) _ _ ls hw (Or.inl rfl) ⟨(f_0 45), rfl, rfl, by omega⟩ dX10_takesFacts_56
set_option maxHeartbeats 4000000 in
set_option maxRecDepth 100000 in
theorem c4_X10_suit (l : Launch) (D : va_G) (cy : Nat → ClassId) (q : Nat → Nat) (n_0 : Nat → Int) (f_0 : Nat → Int → Int) (v_p v_r v_x v_harm v_witnesses v_deed : Int) (r_v_p : inR v_p) (r_v_r : inR v_r) (r_v_x : inR v_x) (r_v_harm : inR v_harm) (r_v_witnesses : inR v_witnesses) (r_v_deed : inR v_deed) (hp0 : MI (n_0) (f_0)) (hp1 : ∀ j, 0 ≤ j → j < (n_0 2) → -90 ≤ (f_0 5 j)) : MC l D cy q yX10_suit cX10_suit 11 (some .int) 4 [.int (J v_p), .int (J v_r), .int (J v_x), .int (J v_harm), .int (J v_witnesses), .int (J v_deed)] n_0 f_0 (PI (fun (z_0 : Int) (n_2 : Nat → Int) (f_2 : Nat → Int → Int) => ∃ (x0_2 : Int) (x48_2 : Int) (y45_2 : Int → Int) (y46_2 : Int → Int) (y47_2 : Int → Int) (y49_2 : Int → Int) (y50_2 : Int → Int) (y51_2 : Int → Int) (y52_2 : Int → Int) (y53_2 : Int → Int) (y54_2 : Int → Int) (y55_2 : Int → Int) , n_2 = upN (upN n_0 0 x0_2) 48 x48_2 ∧ f_2 = upF (upF (upF (upF (upF (upF (upF (upF (upF (upF f_0 45 y45_2) 46 y46_2) 47 y47_2) 49 y49_2) 50 y50_2) 51 y51_2) 52 y52_2) 53 y53_2) 54 y54_2) 55 y55_2 ∧ (MI (upN (upN n_0 0 x0_2) 48 x48_2) (upF (upF (upF (upF (upF (upF (upF (upF (upF (upF f_0 45 y45_2) 46 y46_2) 47 y47_2) 49 y49_2) 50 y50_2) 51 y51_2) 52 y52_2) 53 y53_2) 54 y54_2) 55 y55_2) ∧ ((z_0 = -1 ∧ (¬ (0 ≤ v_p ∧ v_p < (n_0 2) ∧ (f_0 6 v_p) = -1) ∨ ¬ (0 ≤ v_r ∧ v_r < (n_0 2) ∧ (f_0 6 v_r) = -1) ∨ v_p = v_r ∨ v_x < 0 ∨ (n_0 12) ≤ v_x ∨ v_deed < 0 ∨ (n_0 1) < v_deed ∨ v_deed < (f_0 5 v_p) ∨ v_deed < (f_0 5 v_r) ∨ (n_0 48) = 100 ∨ ¬ (0 ≤ v_harm ∧ v_harm ≤ 99 ∧ 0 ≤ v_witnesses ∧ v_witnesses ≤ 9 ∧ (n_0 1) - v_deed ≤ 299 ∧ -99 ≤ v_deed - (f_0 5 v_r) ∧ v_deed - (f_0 5 v_r) ≤ 299)) ∧ (x48_2) = (n_0 48) ∧ (y54_2) = (f_0 54)) ∨ (z_0 = (n_0 48) ∧ ((0 ≤ v_p ∧ v_p < (n_0 2) ∧ (f_0 6 v_p) = -1) ∧ (0 ≤ v_r ∧ v_r < (n_0 2) ∧ (f_0 6 v_r) = -1) ∧ ¬ v_p = v_r ∧ 0 ≤ v_x ∧ v_x < (n_0 12) ∧ 0 ≤ v_deed ∧ v_deed ≤ (n_0 1) ∧ (f_0 5 v_p) ≤ v_deed ∧ (f_0 5 v_r) ≤ v_deed ∧ (n_0 48) < 100 ∧ 0 ≤ v_harm ∧ v_harm ≤ 99 ∧ 0 ≤ v_witnesses ∧ v_witnesses ≤ 9 ∧ (n_0 1) - v_deed ≤ 299 ∧ -99 ≤ v_deed - (f_0 5 v_r) ∧ v_deed - (f_0 5 v_r) ≤ 299) ∧ (x48_2) = (n_0 48) + 1 ∧ (y54_2) = upA (f_0 54) (n_0 48) 0))))) := by
  refine MC.ofi rfl (Nat.le_of_ble_eq_true rfl) ?_
  intro p e s m below meth c ls ar QW A0 H0 H locs E hK hA hw hl hret
  have hl : lv_has ls 11 [(0, .ref (q 0)), (1, .int (J v_p)), (2, .int (J v_r)), (3, .int (J v_x)), (4, .int (J v_harm)), (5, .int (J v_witnesses)), (6, .int (J v_deed))] := hl
  have hp0_ := hp0
  obtain ⟨i_now, i_persons, i_lines, i_wordings, i_taped, i_suits, i_spk, i_fam, i_str, i_said, i_book, i_wds, i_tok, i_cod, i_far⟩ := hp0_
  refine j_aload_n E 1 rfl dX10_suit_0 rfl (lv_at hl 0 rfl) ?_
  refine j_iconst E 2 rfl dX10_suit_1 ?_
  refine m_put_0 E hK hw (rr (by decide)) 5 rfl dX10_suit_2 (fun H locs hw => ?_)
  have hw : WM D cy q (upN n_0 0 0) (f_0) A0 H0 H locs := hw
  refine j_aload_n E 6 rfl dX10_suit_5 rfl (lv_at hl 0 rfl) ?_
  refine j_iload_n E 7 rfl dX10_suit_6 rfl (lv_at hl 1 rfl) ?_
  refine m_callp (po := fun z_0 => (z_0 = 1 ∧ 0 ≤ v_p ∧ v_p < (n_0 2) ∧ (f_0 6 v_p) = -1) ∨ (z_0 = 0 ∧ ¬ (0 ≤ v_p ∧ v_p < (n_0 2) ∧ (f_0 6 v_p) = -1))) E (c_X10_isLiving l D cy q (upN n_0 0 0) (f_0) v_p  r_v_p (show (n_0 2) ≤ 24 from by omega)) rfl mt_X10_isLiving ml_X10_176 hK hw hA ⟨Nat.le_of_ble_eq_true rfl, Nat.le_of_ble_eq_true rfl⟩ (As := [.int (J v_p)]) (rest := []) rfl rfl hl.1 (Nat.le_of_ble_eq_true rfl) 10 rfl dX10_suit_7 (fun zz2_ H locs rr2_ hq2_ hw => ?_)
  have hh2_ : (zz2_ = 1 ∧ 0 ≤ v_p ∧ v_p < (n_0 2) ∧ (f_0 6 v_p) = -1) ∨ (zz2_ = 0 ∧ ¬ (0 ≤ v_p ∧ v_p < (n_0 2) ∧ (f_0 6 v_p) = -1)) := hq2_
  clear hq2_
  rcases hh2_ with ⟨ee2_, hh2_⟩ | ⟨ee2_, hh2_⟩
  · subst ee2_
    refine j_if_eq E 13 79 rfl (rr (by decide)) dX10_suit_10 (by decide) (fun cc3_ => absurd cc3_ (by decide)) (fun _ => ?_)
    refine j_aload_n E 14 rfl dX10_suit_13 rfl (lv_at hl 0 rfl) ?_
    refine j_iload_n E 15 rfl dX10_suit_14 rfl (lv_at hl 2 rfl) ?_
    refine m_callp (po := fun z_0 => (z_0 = 1 ∧ 0 ≤ v_r ∧ v_r < (n_0 2) ∧ (f_0 6 v_r) = -1) ∨ (z_0 = 0 ∧ ¬ (0 ≤ v_r ∧ v_r < (n_0 2) ∧ (f_0 6 v_r) = -1))) E (c_X10_isLiving l D cy q (upN n_0 0 0) (f_0) v_r  r_v_r (show (n_0 2) ≤ 24 from by omega)) rfl mt_X10_isLiving ml_X10_176 hK hw hA ⟨Nat.le_of_ble_eq_true rfl, Nat.le_of_ble_eq_true rfl⟩ (As := [.int (J v_r)]) (rest := []) rfl rfl hl.1 (Nat.le_of_ble_eq_true rfl) 18 rfl dX10_suit_15 (fun zz4_ H locs rr4_ hq4_ hw => ?_)
    have hh4_ : (zz4_ = 1 ∧ 0 ≤ v_r ∧ v_r < (n_0 2) ∧ (f_0 6 v_r) = -1) ∨ (zz4_ = 0 ∧ ¬ (0 ≤ v_r ∧ v_r < (n_0 2) ∧ (f_0 6 v_r) = -1)) := hq4_
    clear hq4_
    rcases hh4_ with ⟨ee4_, hh4_⟩ | ⟨ee4_, hh4_⟩
    · subst ee4_
      refine j_if_eq E 21 79 rfl (rr (by decide)) dX10_suit_18 (by decide) (fun cc5_ => absurd cc5_ (by decide)) (fun _ => ?_)
      refine j_iload_n E 22 rfl dX10_suit_21 rfl (lv_at hl 1 rfl) ?_
      refine j_iload_n E 23 rfl dX10_suit_22 rfl (lv_at hl 2 rfl) ?_
      refine j_icmp_eq E 26 79 rfl r_v_p r_v_r dX10_suit_23 (by decide) (fun cc6_ => ?_) (fun cc6_ => ?_)
      · refine j_iconst E 80 rfl dX10_suit_79 ?_
        exact hret 80 ((-1)) (upN (upN n_0 0 0) 48 (n_0 48)) (upF (upF (upF (upF (upF (upF (upF (upF (upF (upF f_0 45 (f_0 45)) 46 (f_0 46)) 47 (f_0 47)) 49 (f_0 49)) 50 (f_0 50)) 51 (f_0 51)) 52 (f_0 52)) 53 (f_0 53)) 54 (f_0 54)) 55 (f_0 55)) _ _ ls hw (rr (by decide)) ⟨0, (n_0 48), (f_0 45), (f_0 46), (f_0 47), (f_0 49), (f_0 50), (f_0 51), (f_0 52), (f_0 53), (f_0 54), (f_0 55), rfl, rfl, ⟨⟨i_now, i_persons, i_lines, i_wordings, i_taped, (show 0 ≤ (n_0 48) ∧ (n_0 48) ≤ 100 from by omega), i_spk, i_fam, i_str, i_said, i_book, i_wds, i_tok, i_cod, i_far⟩, Or.inl ⟨rfl, by omega, rfl, rfl⟩⟩⟩ dX10_suit_80
      · refine j_aload_n E 27 rfl dX10_suit_26 rfl (lv_at hl 0 rfl) ?_
        refine j_iload_n E 28 rfl dX10_suit_27 rfl (lv_at hl 3 rfl) ?_
        refine m_callp (po := fun z_0 => (z_0 = 1 ∧ 0 ≤ v_x ∧ v_x < (n_0 12)) ∨ (z_0 = 0 ∧ (v_x < 0 ∨ (n_0 12) ≤ v_x))) E (c_X10_isLine l D cy q (upN n_0 0 0) (f_0) v_x  r_v_x ) rfl mt_X10_isLine ml_X10_188 hK hw hA ⟨Nat.le_of_ble_eq_true rfl, Nat.le_of_ble_eq_true rfl⟩ (As := [.int (J v_x)]) (rest := []) rfl rfl hl.1 (Nat.le_of_ble_eq_true rfl) 31 rfl dX10_suit_28 (fun zz7_ H locs rr7_ hq7_ hw => ?_)
        have hh7_ : (zz7_ = 1 ∧ 0 ≤ v_x ∧ v_x < (n_0 12)) ∨ (zz7_ = 0 ∧ (v_x < 0 ∨ (n_0 12) ≤ v_x)) := hq7_
        clear hq7_
        rcases hh7_ with ⟨ee7_, hh7_⟩ | ⟨ee7_, hh7_⟩
        · subst ee7_
          refine j_if_eq E 34 79 rfl (rr (by decide)) dX10_suit_31 (by decide) (fun cc8_ => absurd cc8_ (by decide)) (fun _ => ?_)
          refine j_aload_n E 35 rfl dX10_suit_34 rfl (lv_at hl 0 rfl) ?_
          refine j_iload E 37 rfl dX10_suit_35 (lv_at hl 6 rfl) ?_
          refine j_iconst E 38 rfl dX10_suit_37 ?_
          refine j_aload_n E 39 rfl dX10_suit_38 rfl (lv_at hl 0 rfl) ?_
          refine m_get_1 E hK hw (n_0 1) rfl 42 rfl dX10_suit_39 (fun rr9_ => ?_)
          refine m_callp (po := fun z_0 => (z_0 = 1 ∧ (0 : Int) ≤ v_deed ∧ v_deed ≤ (n_0 1)) ∨ (z_0 = 0 ∧ (v_deed < (0 : Int) ∨ (n_0 1) < v_deed))) E (c_X10_isIn l D cy q (upN n_0 0 0) (f_0) v_deed 0 (n_0 1)  r_v_deed (rr (by decide)) rr9_ ) rfl mt_X10_isIn ml_X10_169 hK hw hA ⟨Nat.le_of_ble_eq_true rfl, Nat.le_of_ble_eq_true rfl⟩ (As := [.int (J v_deed), .int (J 0), .int (J (n_0 1))]) (rest := []) rfl rfl hl.1 (Nat.le_of_ble_eq_true rfl) 45 rfl dX10_suit_42 (fun zz10_ H locs rr10_ hq10_ hw => ?_)
          have hh10_ : (zz10_ = 1 ∧ (0 : Int) ≤ v_deed ∧ v_deed ≤ (n_0 1)) ∨ (zz10_ = 0 ∧ (v_deed < (0 : Int) ∨ (n_0 1) < v_deed)) := hq10_
          clear hq10_
          rcases hh10_ with ⟨ee10_, hh10_⟩ | ⟨ee10_, hh10_⟩
          · subst ee10_
            refine j_if_eq E 48 79 rfl (rr (by decide)) dX10_suit_45 (by decide) (fun cc11_ => absurd cc11_ (by decide)) (fun _ => ?_)
            refine j_aload_n E 49 rfl dX10_suit_48 rfl (lv_at hl 0 rfl) ?_
            refine m_ag_5 E hK hw 52 rfl dX10_suit_49 ?_
            refine j_iload_n E 53 rfl dX10_suit_52 rfl (lv_at hl 1 rfl) ?_
            refine m_ld_5 E hK hw (f_0 5 v_p) rfl (by omega) 54 rfl dX10_suit_53 (fun rr12_ => ?_)
            refine j_iload E 56 rfl dX10_suit_54 (lv_at hl 6 rfl) ?_
            refine j_icmp_gt E 59 79 rfl rr12_ r_v_deed dX10_suit_56 (by decide) (fun cc13_ => ?_) (fun cc13_ => ?_)
            · refine j_iconst E 80 rfl dX10_suit_79 ?_
              exact hret 80 ((-1)) (upN (upN n_0 0 0) 48 (n_0 48)) (upF (upF (upF (upF (upF (upF (upF (upF (upF (upF f_0 45 (f_0 45)) 46 (f_0 46)) 47 (f_0 47)) 49 (f_0 49)) 50 (f_0 50)) 51 (f_0 51)) 52 (f_0 52)) 53 (f_0 53)) 54 (f_0 54)) 55 (f_0 55)) _ _ ls hw (rr (by decide)) ⟨0, (n_0 48), (f_0 45), (f_0 46), (f_0 47), (f_0 49), (f_0 50), (f_0 51), (f_0 52), (f_0 53), (f_0 54), (f_0 55), rfl, rfl, ⟨⟨i_now, i_persons, i_lines, i_wordings, i_taped, (show 0 ≤ (n_0 48) ∧ (n_0 48) ≤ 100 from by omega), i_spk, i_fam, i_str, i_said, i_book, i_wds, i_tok, i_cod, i_far⟩, Or.inl ⟨rfl, by omega, rfl, rfl⟩⟩⟩ dX10_suit_80
            · refine j_aload_n E 60 rfl dX10_suit_59 rfl (lv_at hl 0 rfl) ?_
              refine m_ag_5 E hK hw 63 rfl dX10_suit_60 ?_
              refine j_iload_n E 64 rfl dX10_suit_63 rfl (lv_at hl 2 rfl) ?_
              refine m_ld_5 E hK hw (f_0 5 v_r) rfl (by omega) 65 rfl dX10_suit_64 (fun rr14_ => ?_)
              refine j_iload E 67 rfl dX10_suit_65 (lv_at hl 6 rfl) ?_
              refine j_icmp_gt E 70 79 rfl rr14_ r_v_deed dX10_suit_67 (by decide) (fun cc15_ => ?_) (fun cc15_ => ?_)
              · refine j_iconst E 80 rfl dX10_suit_79 ?_
                exact hret 80 ((-1)) (upN (upN n_0 0 0) 48 (n_0 48)) (upF (upF (upF (upF (upF (upF (upF (upF (upF (upF f_0 45 (f_0 45)) 46 (f_0 46)) 47 (f_0 47)) 49 (f_0 49)) 50 (f_0 50)) 51 (f_0 51)) 52 (f_0 52)) 53 (f_0 53)) 54 (f_0 54)) 55 (f_0 55)) _ _ ls hw (rr (by decide)) ⟨0, (n_0 48), (f_0 45), (f_0 46), (f_0 47), (f_0 49), (f_0 50), (f_0 51), (f_0 52), (f_0 53), (f_0 54), (f_0 55), rfl, rfl, ⟨⟨i_now, i_persons, i_lines, i_wordings, i_taped, (show 0 ≤ (n_0 48) ∧ (n_0 48) ≤ 100 from by omega), i_spk, i_fam, i_str, i_said, i_book, i_wds, i_tok, i_cod, i_far⟩, Or.inl ⟨rfl, by omega, rfl, rfl⟩⟩⟩ dX10_suit_80
              · refine j_aload_n E 71 rfl dX10_suit_70 rfl (lv_at hl 0 rfl) ?_
                refine m_get_48 E hK hw (n_0 48) rfl 74 rfl dX10_suit_71 (fun rr16_ => ?_)
                refine j_bipush E 76 rfl dX10_suit_74 (by decide) ?_
                refine j_icmp_ne E 79 81 rfl rr16_ (rr (by decide)) dX10_suit_76 (by decide) (fun cc17_ => ?_) (fun cc17_ => ?_)
                · have hb_ := hp1 v_r (by omega) (by omega)
                  refine j_aload_n E 82 rfl dX10_suit_81 rfl (lv_at hl 0 rfl) ?_
                  refine j_iload E 84 rfl dX10_suit_82 (lv_at hl 4 rfl) ?_
                  refine j_iload E 86 rfl dX10_suit_84 (lv_at hl 5 rfl) ?_
                  refine j_aload_n E 87 rfl dX10_suit_86 rfl (lv_at hl 0 rfl) ?_
                  refine m_get_1 E hK hw (n_0 1) rfl 90 rfl dX10_suit_87 (fun _ => ?_)
                  refine j_iload E 92 rfl dX10_suit_90 (lv_at hl 6 rfl) ?_
                  refine j_isub E 93 rfl dX10_suit_92 ?_
                  refine j_aload_n E 94 rfl dX10_suit_93 rfl (lv_at hl 0 rfl) ?_
                  refine j_iload_n E 95 rfl dX10_suit_94 rfl (lv_at hl 1 rfl) ?_
                  refine j_iload_n E 96 rfl dX10_suit_95 rfl (lv_at hl 2 rfl) ?_
                  refine m_callp (po := fun z_0 => (z_0 = 1 ∧ (f_0 4 v_p) = (f_0 4 v_r)) ∨ (z_0 = 0 ∧ ¬ (f_0 4 v_p) = (f_0 4 v_r))) E (c_X10_isKin l D cy q (upN n_0 0 0) (f_0) v_p v_r  r_v_p r_v_r (show 0 ≤ v_p ∧ v_p < 24 from by omega) (show 0 ≤ v_r ∧ v_r < 24 from by omega)) rfl mt_X10_isKin ml_X10_334 hK hw hA ⟨Nat.le_of_ble_eq_true rfl, Nat.le_of_ble_eq_true rfl⟩ (As := [.int (J v_p), .int (J v_r)]) (rest := [.int (J ((n_0 1) - v_deed)), .int (J v_witnesses), .int (J v_harm), .ref (q 0)]) rfl rfl hl.1 (Nat.le_of_ble_eq_true rfl) 99 rfl dX10_suit_96 (fun zz18_ H locs rr18_ hq18_ hw => ?_)
                  have hh18_ : (zz18_ = 1 ∧ (f_0 4 v_p) = (f_0 4 v_r)) ∨ (zz18_ = 0 ∧ ¬ (f_0 4 v_p) = (f_0 4 v_r)) := hq18_
                  clear hq18_
                  rcases hh18_ with ⟨ee18_, hh18_⟩ | ⟨ee18_, hh18_⟩
                  · subst ee18_
                    refine j_if_eq E 102 106 rfl (rr (by decide)) dX10_suit_99 (by decide) (fun cc19_ => absurd cc19_ (by decide)) (fun _ => ?_)
                    refine j_iconst E 103 rfl dX10_suit_102 ?_
                    refine j_goto E 107 dX10_suit_103 (by decide) ?_
                    refine j_iload E 109 rfl dX10_suit_107 (lv_at hl 6 rfl) ?_
                    refine j_aload_n E 110 rfl dX10_suit_109 rfl (lv_at hl 0 rfl) ?_
                    refine m_ag_5 E hK hw 113 rfl dX10_suit_110 ?_
                    refine j_iload_n E 114 rfl dX10_suit_113 rfl (lv_at hl 2 rfl) ?_
                    refine m_ld_5 E hK hw (f_0 5 v_r) rfl (by omega) 115 rfl dX10_suit_114 (fun _ => ?_)
                    refine j_isub E 116 rfl dX10_suit_115 ?_
                    refine m_calli E (c4_X10_takesFacts l D cy q (upN n_0 0 0) (f_0) v_harm v_witnesses ((n_0 1) - v_deed) 1 (v_deed - (f_0 5 v_r))  r_v_harm r_v_witnesses (rr (by omega)) (rr (by decide)) (rr (by omega)) ) rfl mt_X10_takesFacts ml_X10_323 hK hw hA ⟨Nat.le_of_ble_eq_true rfl, Nat.le_of_ble_eq_true rfl⟩ (As := [.int (J v_harm), .int (J v_witnesses), .int (J ((n_0 1) - v_deed)), .int (J 1), .int (J (v_deed - (f_0 5 v_r)))]) (rest := []) rfl rfl hl.1 (Nat.le_of_ble_eq_true rfl) 119 rfl dX10_suit_116 (fun zz20_ n_20 f_20 H locs rr20_ hq20_ hw => ?_)
                    obtain ⟨y45_20, en20_, ef20_, hq20_⟩ := hq20_
                    rw [en20_, ef20_] at hw; clear en20_ ef20_
                    have hw : WM D cy q (upN n_0 0 0) (upF f_0 45 y45_20) A0 H0 H locs := hw
                    have hh20_ : (zz20_ = 1 ∧ 0 ≤ v_harm ∧ v_harm ≤ 99 ∧ 0 ≤ v_witnesses ∧ v_witnesses ≤ 9 ∧ 0 ≤ ((n_0 1) - v_deed) ∧ ((n_0 1) - v_deed) ≤ 299 ∧ 0 ≤ (1 : Int) ∧ (1 : Int) ≤ 1 ∧ -99 ≤ (v_deed - (f_0 5 v_r)) ∧ (v_deed - (f_0 5 v_r)) ≤ 299) ∨ (zz20_ = 0 ∧ ¬ (0 ≤ v_harm ∧ v_harm ≤ 99 ∧ 0 ≤ v_witnesses ∧ v_witnesses ≤ 9 ∧ 0 ≤ ((n_0 1) - v_deed) ∧ ((n_0 1) - v_deed) ≤ 299 ∧ 0 ≤ (1 : Int) ∧ (1 : Int) ≤ 1 ∧ -99 ≤ (v_deed - (f_0 5 v_r)) ∧ (v_deed - (f_0 5 v_r)) ≤ 299)) := hq20_
                    clear hq20_
                    rcases hh20_ with ⟨ee20_, hh20_⟩ | ⟨ee20_, hh20_⟩
                    · subst ee20_
                      refine j_if_ne E 122 124 rfl (rr (by decide)) dX10_suit_119 (by decide) (fun _ => ?_) (fun cc21_ => absurd cc21_ (by decide))
                      refine j_aload_n E 125 rfl dX10_suit_124 rfl (lv_at hl 0 rfl) ?_
                      refine j_iload_n E 126 rfl dX10_suit_125 rfl (lv_at hl 3 rfl) ?_
                      refine j_aload_n E 127 rfl dX10_suit_126 rfl (lv_at hl 0 rfl) ?_
                      refine m_get_1 E hK hw (n_0 1) rfl 130 rfl dX10_suit_127 (fun _ => ?_)
                      refine j_iconst E 131 rfl dX10_suit_130 ?_
                      refine j_isub E 132 rfl dX10_suit_131 ?_
                      refine j_iconst E 133 rfl dX10_suit_132 ?_
                      refine m_calli E (c_X10_owedBy l D cy q (upN n_0 0 0) (upF f_0 45 y45_20) v_x ((n_0 1) - 1) 0  r_v_x (rr (by omega)) (rr (by decide)) (show 0 ≤ v_x ∧ v_x < (n_0 12) from by omega) (show ((n_0 1) - 1) < 200 from by omega) (show 0 ≤ (n_0 29) ∧ (n_0 29) ≤ 32 from by omega) (show 0 ≤ (n_0 12) ∧ (n_0 12) ≤ 24 from by omega) (show Said_ (f_0 18) (n_0 12) (n_0 29) from i_said) (show Book_ (f_0 67) (n_0 12) (n_0 29) from i_book) (show Cod_ (f_0 32) (f_0 33) (f_0 34) (f_0 35) (f_0 36) (n_0 29) from i_cod)) rfl mt_X10_owedBy ml_X10_327 hK hw hA ⟨Nat.le_of_ble_eq_true rfl, Nat.le_of_ble_eq_true rfl⟩ (As := [.int (J v_x), .int (J ((n_0 1) - 1)), .int (J 0)]) (rest := []) rfl rfl hl.1 (Nat.le_of_ble_eq_true rfl) 136 rfl dX10_suit_133 (fun zz22_ n_22 f_22 H locs rr22_ hq22_ hw => ?_)
                      obtain ⟨y46_22, y47_22, en22_, ef22_, hq22_⟩ := hq22_
                      rw [en22_, ef22_] at hw; clear en22_ ef22_
                      have hw : WM D cy q (upN n_0 0 0) (upF (upF (upF f_0 45 y45_20) 46 y46_22) 47 y47_22) A0 H0 H locs := hw
                      have hh22_ : True := hq22_
                      clear hq22_
                      refine j_istore E 138 rfl [(7, .int (J zz22_)), (0, .ref (q 0)), (1, .int (J v_p)), (2, .int (J v_r)), (3, .int (J v_x)), (4, .int (J v_harm)), (5, .int (J v_witnesses)), (6, .int (J v_deed))] dX10_suit_136 hl (by decide) rfl (fun ls hl => ?_)
                      refine j_aload_n E 139 rfl dX10_suit_138 rfl (lv_at hl 1 rfl) ?_
                      refine m_ag_49 E hK hw 142 rfl dX10_suit_139 ?_
                      refine j_aload_n E 143 rfl dX10_suit_142 rfl (lv_at hl 1 rfl) ?_
                      refine m_get_48 E hK hw (n_0 48) rfl 146 rfl dX10_suit_143 (fun _ => ?_)
                      refine j_iload_n E 147 rfl dX10_suit_146 rfl (lv_at hl 2 rfl) ?_
                      refine m_st_49 E hK hw (by omega) r_v_p 148 rfl dX10_suit_147 (fun H locs hw => ?_)
                      have hw : WM D cy q (upN n_0 0 0) (upF (upF (upF (upF f_0 45 y45_20) 46 y46_22) 47 y47_22) 49 (upA (f_0 49) (n_0 48) v_p)) A0 H0 H locs := hw
                      refine j_aload_n E 149 rfl dX10_suit_148 rfl (lv_at hl 1 rfl) ?_
                      refine m_ag_50 E hK hw 152 rfl dX10_suit_149 ?_
                      refine j_aload_n E 153 rfl dX10_suit_152 rfl (lv_at hl 1 rfl) ?_
                      refine m_get_48 E hK hw (n_0 48) rfl 156 rfl dX10_suit_153 (fun _ => ?_)
                      refine j_iload_n E 157 rfl dX10_suit_156 rfl (lv_at hl 3 rfl) ?_
                      refine m_st_50 E hK hw (by omega) r_v_r 158 rfl dX10_suit_157 (fun H locs hw => ?_)
                      have hw : WM D cy q (upN n_0 0 0) (upF (upF (upF (upF (upF f_0 45 y45_20) 46 y46_22) 47 y47_22) 49 (upA (f_0 49) (n_0 48) v_p)) 50 (upA (f_0 50) (n_0 48) v_r)) A0 H0 H locs := hw
                      refine j_aload_n E 159 rfl dX10_suit_158 rfl (lv_at hl 1 rfl) ?_
                      refine m_ag_51 E hK hw 162 rfl dX10_suit_159 ?_
                      refine j_aload_n E 163 rfl dX10_suit_162 rfl (lv_at hl 1 rfl) ?_
                      refine m_get_48 E hK hw (n_0 48) rfl 166 rfl dX10_suit_163 (fun _ => ?_)
                      refine j_iload_n E 167 rfl dX10_suit_166 rfl (lv_at hl 4 rfl) ?_
                      refine m_st_51 E hK hw (by omega) r_v_x 168 rfl dX10_suit_167 (fun H locs hw => ?_)
                      have hw : WM D cy q (upN n_0 0 0) (upF (upF (upF (upF (upF (upF f_0 45 y45_20) 46 y46_22) 47 y47_22) 49 (upA (f_0 49) (n_0 48) v_p)) 50 (upA (f_0 50) (n_0 48) v_r)) 51 (upA (f_0 51) (n_0 48) v_x)) A0 H0 H locs := hw
                      refine j_aload_n E 169 rfl dX10_suit_168 rfl (lv_at hl 1 rfl) ?_
                      refine m_ag_52 E hK hw 172 rfl dX10_suit_169 ?_
                      refine j_aload_n E 173 rfl dX10_suit_172 rfl (lv_at hl 1 rfl) ?_
                      refine m_get_48 E hK hw (n_0 48) rfl 176 rfl dX10_suit_173 (fun _ => ?_)
                      refine j_iload E 178 rfl dX10_suit_176 (lv_at hl 0 rfl) ?_
                      refine m_st_52 E hK hw (by omega) rr22_ 179 rfl dX10_suit_178 (fun H locs hw => ?_)
                      have hw : WM D cy q (upN n_0 0 0) (upF (upF (upF (upF (upF (upF (upF f_0 45 y45_20) 46 y46_22) 47 y47_22) 49 (upA (f_0 49) (n_0 48) v_p)) 50 (upA (f_0 50) (n_0 48) v_r)) 51 (upA (f_0 51) (n_0 48) v_x)) 52 (upA (f_0 52) (n_0 48) zz22_)) A0 H0 H locs := hw
                      refine j_aload_n E 180 rfl dX10_suit_179 rfl (lv_at hl 1 rfl) ?_
                      refine m_ag_53 E hK hw 183 rfl dX10_suit_180 ?_
                      refine j_aload_n E 184 rfl dX10_suit_183 rfl (lv_at hl 1 rfl) ?_
                      refine m_get_48 E hK hw (n_0 48) rfl 187 rfl dX10_suit_184 (fun _ => ?_)
                      refine j_aload_n E 188 rfl dX10_suit_187 rfl (lv_at hl 1 rfl) ?_
                      refine m_get_1 E hK hw (n_0 1) rfl 191 rfl dX10_suit_188 (fun _ => ?_)
                      refine m_st_53 E hK hw (by omega) rr9_ 192 rfl dX10_suit_191 (fun H locs hw => ?_)
                      have hw : WM D cy q (upN n_0 0 0) (upF (upF (upF (upF (upF (upF (upF (upF f_0 45 y45_20) 46 y46_22) 47 y47_22) 49 (upA (f_0 49) (n_0 48) v_p)) 50 (upA (f_0 50) (n_0 48) v_r)) 51 (upA (f_0 51) (n_0 48) v_x)) 52 (upA (f_0 52) (n_0 48) zz22_)) 53 (upA (f_0 53) (n_0 48) (n_0 1))) A0 H0 H locs := hw
                      refine j_aload_n E 193 rfl dX10_suit_192 rfl (lv_at hl 1 rfl) ?_
                      refine m_ag_54 E hK hw 196 rfl dX10_suit_193 ?_
                      refine j_aload_n E 197 rfl dX10_suit_196 rfl (lv_at hl 1 rfl) ?_
                      refine m_get_48 E hK hw (n_0 48) rfl 200 rfl dX10_suit_197 (fun _ => ?_)
                      refine j_iconst E 201 rfl dX10_suit_200 ?_
                      refine m_st_54 E hK hw (by omega) (rr (by decide)) (Or.inl rfl) 202 rfl dX10_suit_201 (fun H locs hw => ?_)
                      have hw : WM D cy q (upN n_0 0 0) (upF (upF (upF (upF (upF (upF (upF (upF (upF f_0 45 y45_20) 46 y46_22) 47 y47_22) 49 (upA (f_0 49) (n_0 48) v_p)) 50 (upA (f_0 50) (n_0 48) v_r)) 51 (upA (f_0 51) (n_0 48) v_x)) 52 (upA (f_0 52) (n_0 48) zz22_)) 53 (upA (f_0 53) (n_0 48) (n_0 1))) 54 (upA (f_0 54) (n_0 48) 0)) A0 H0 H locs := hw
                      refine j_iconst E 203 rfl dX10_suit_202 ?_
                      refine j_istore E 205 rfl [(8, .int (J 0)), (7, .int (J zz22_)), (0, .ref (q 0)), (1, .int (J v_p)), (2, .int (J v_r)), (3, .int (J v_x)), (4, .int (J v_harm)), (5, .int (J v_witnesses)), (6, .int (J v_deed))] dX10_suit_203 hl (by decide) rfl (fun ls hl => ?_)
                      refine j_iconst E 206 rfl dX10_suit_205 ?_
                      refine j_istore E 208 rfl [(9, .int (J 0)), (8, .int (J 0)), (7, .int (J zz22_)), (0, .ref (q 0)), (1, .int (J v_p)), (2, .int (J v_r)), (3, .int (J v_x)), (4, .int (J v_harm)), (5, .int (J v_witnesses)), (6, .int (J v_deed))] dX10_suit_206 hl (by decide) rfl (fun ls hl => ?_)
                      have L208_29 : ∀ (k208 : Nat) (gc gr : Int) (H : Heap) (locs : List Loc) (ls : Array Slot), inR gc → inR gr → (0 ≤ gr ∧ gr ≤ 24 ∧ 0 ≤ gc ∧ gc ≤ gr) → (24 - gr) < (k208 : Int) → WM D cy q (upN n_0 0 0) (upF (upF (upF (upF (upF (upF (upF (upF (upF f_0 45 y45_20) 46 y46_22) 47 y47_22) 49 (upA (f_0 49) (n_0 48) v_p)) 50 (upA (f_0 50) (n_0 48) v_r)) 51 (upA (f_0 51) (n_0 48) v_x)) 52 (upA (f_0 52) (n_0 48) zz22_)) 53 (upA (f_0 53) (n_0 48) (n_0 1))) 54 (upA (f_0 54) (n_0 48) 0)) A0 H0 H locs → lv_has ls 11 [(0, .ref (q 0)), (1, .int (J v_p)), (2, .int (J v_r)), (3, .int (J v_x)), (4, .int (J v_harm)), (5, .int (J v_witnesses)), (6, .int (J v_deed)), (7, .int (J zz22_)), (8, .int (J gc)), (9, .int (J gr))] → W p l e (rmd 4 0 0) s m ar below meth c H locs 0 0 QW (F0 m 208 ls []) := by
                        intro k208
                        induction k208 with
                        | zero =>
                          intro gc gr H locs ls r_gc r_gr iv208 ms208 hw hl
                          exfalso; omega
                        | succ k208 ih208 =>
                          intro gc gr H locs ls r_gc r_gr iv208 ms208 hw hl
                          refine j_iload E 210 rfl dX10_suit_208 (lv_at hl 9 rfl) ?_
                          refine j_aload_n E 211 rfl dX10_suit_210 rfl (lv_at hl 0 rfl) ?_
                          refine m_get_2 E hK hw (n_0 2) rfl 214 rfl dX10_suit_211 (fun rr31_ => ?_)
                          refine j_icmp_ge E 217 254 rfl r_gr rr31_ dX10_suit_214 (by decide) (fun cc32_ => ?_) (fun cc32_ => ?_)
                          · refine j_iload E 256 rfl dX10_suit_254 (lv_at hl 8 rfl) ?_
                            refine j_if_ne E 259 263 rfl r_gc dX10_suit_256 (by decide) (fun cc33_ => ?_) (fun cc33_ => ?_)
                            · refine j_iload E 265 rfl dX10_suit_263 (lv_at hl 7 rfl) ?_
                              refine j_iconst E 266 rfl dX10_suit_265 ?_
                              refine j_idiv E 267 rfl dX10_suit_266 (by decide +kernel) (fun zz34_ rr34_ ee34_ => ?_)
                              refine j_iload E 269 rfl dX10_suit_267 (lv_at hl 8 rfl) ?_
                              refine j_idiv E 270 rfl dX10_suit_269 (fun h => absurd ((J_inj r_gc inR0).mp (h.trans J_0.symm)) (by omega)) (fun zz35_ rr35_ ee35_ => ?_)
                              refine j_istore E 272 rfl [(9, .int (J zz35_)), (0, .ref (q 0)), (1, .int (J v_p)), (2, .int (J v_r)), (3, .int (J v_x)), (4, .int (J v_harm)), (5, .int (J v_witnesses)), (6, .int (J v_deed)), (7, .int (J zz22_)), (8, .int (J gc))] dX10_suit_270 hl (by decide) rfl (fun ls hl => ?_)
                              refine j_iconst E 273 rfl dX10_suit_272 ?_
                              refine j_istore E 275 rfl [(10, .int (J 0)), (9, .int (J zz35_)), (0, .ref (q 0)), (1, .int (J v_p)), (2, .int (J v_r)), (3, .int (J v_x)), (4, .int (J v_harm)), (5, .int (J v_witnesses)), (6, .int (J v_deed)), (7, .int (J zz22_)), (8, .int (J gc))] dX10_suit_273 hl (by decide) rfl (fun ls hl => ?_)
                              have L275_36 : ∀ (k275 : Nat) (gq : Int) (y55_c275 : Int → Int) (H : Heap) (locs : List Loc) (ls : Array Slot), inR gq → (0 ≤ gq ∧ gq ≤ 24) → (24 - gq) < (k275 : Int) → WM D cy q (upN n_0 0 0) (upF (upF (upF (upF (upF (upF (upF (upF (upF (upF f_0 45 y45_20) 46 y46_22) 47 y47_22) 49 (upA (f_0 49) (n_0 48) v_p)) 50 (upA (f_0 50) (n_0 48) v_r)) 51 (upA (f_0 51) (n_0 48) v_x)) 52 (upA (f_0 52) (n_0 48) zz22_)) 53 (upA (f_0 53) (n_0 48) (n_0 1))) 54 (upA (f_0 54) (n_0 48) 0)) 55 y55_c275) A0 H0 H locs → lv_has ls 11 [(0, .ref (q 0)), (1, .int (J v_p)), (2, .int (J v_r)), (3, .int (J v_x)), (4, .int (J v_harm)), (5, .int (J v_witnesses)), (6, .int (J v_deed)), (7, .int (J zz22_)), (8, .int (J gc)), (9, .int (J zz35_)), (10, .int (J gq))] → W p l e (rmd 4 0 0) s m ar below meth c H locs 0 0 QW (F0 m 275 ls []) := by
                                intro k275
                                induction k275 with
                                | zero =>
                                  intro gq y55_c275 H locs ls r_gq iv275 ms275 hw hl
                                  exfalso; omega
                                | succ k275 ih275 =>
                                  intro gq y55_c275 H locs ls r_gq iv275 ms275 hw hl
                                  refine j_iload E 277 rfl dX10_suit_275 (lv_at hl 10 rfl) ?_
                                  refine j_bipush E 279 rfl dX10_suit_277 (by decide) ?_
                                  refine j_icmp_ge E 282 334 rfl r_gq (rr (by decide)) dX10_suit_279 (by decide) (fun cc38_ => ?_) (fun cc38_ => ?_)
                                  · refine j_aload_n E 335 rfl dX10_suit_334 rfl (lv_at hl 0 rfl) ?_
                                    refine m_ag_55 E hK hw 338 rfl dX10_suit_335 ?_
                                    refine j_bipush E 340 rfl dX10_suit_338 (by decide) ?_
                                    refine j_aload_n E 341 rfl dX10_suit_340 rfl (lv_at hl 0 rfl) ?_
                                    refine m_get_48 E hK hw (n_0 48) rfl 344 rfl dX10_suit_341 (fun _ => ?_)
                                    refine j_imul E 345 rfl dX10_suit_344 ?_
                                    refine j_iload_n E 346 rfl dX10_suit_345 rfl (lv_at hl 1 rfl) ?_
                                    refine j_iadd E 347 rfl dX10_suit_346 ?_
                                    refine j_iload E 349 rfl dX10_suit_347 (lv_at hl 7 rfl) ?_
                                    refine j_iload E 351 rfl dX10_suit_349 (lv_at hl 9 rfl) ?_
                                    refine j_iload E 353 rfl dX10_suit_351 (lv_at hl 8 rfl) ?_
                                    refine j_imul E 354 rfl dX10_suit_353 ?_
                                    refine j_isub E 355 rfl dX10_suit_354 ?_
                                    refine j_norm (fun zz39_ rr39_ ee39_ => ?_)
                                    refine m_st_55 E hK hw (by omega) rr39_ 356 rfl dX10_suit_355 (fun H locs hw => ?_)
                                    have hw : WM D cy q (upN n_0 0 0) (upF (upF (upF (upF (upF (upF (upF (upF (upF (upF f_0 45 y45_20) 46 y46_22) 47 y47_22) 49 (upA (f_0 49) (n_0 48) v_p)) 50 (upA (f_0 50) (n_0 48) v_r)) 51 (upA (f_0 51) (n_0 48) v_x)) 52 (upA (f_0 52) (n_0 48) zz22_)) 53 (upA (f_0 53) (n_0 48) (n_0 1))) 54 (upA (f_0 54) (n_0 48) 0)) 55 (upA (y55_c275) ((24 * (n_0 48)) + v_p) zz39_)) A0 H0 H locs := hw
                                    refine j_aload_n E 357 rfl dX10_suit_356 rfl (lv_at hl 0 rfl) ?_
                                    refine j_aload_n E 358 rfl dX10_suit_357 rfl (lv_at hl 0 rfl) ?_
                                    refine m_get_48 E hK hw (n_0 48) rfl 361 rfl dX10_suit_358 (fun _ => ?_)
                                    refine j_iconst E 362 rfl dX10_suit_361 ?_
                                    refine j_iadd E 363 rfl dX10_suit_362 ?_
                                    refine m_put_48 E hK hw (rr (by omega)) 366 rfl dX10_suit_363 (fun H locs hw => ?_)
                                    have hw : WM D cy q (upN (upN n_0 0 0) 48 ((n_0 48) + 1)) (upF (upF (upF (upF (upF (upF (upF (upF (upF (upF f_0 45 y45_20) 46 y46_22) 47 y47_22) 49 (upA (f_0 49) (n_0 48) v_p)) 50 (upA (f_0 50) (n_0 48) v_r)) 51 (upA (f_0 51) (n_0 48) v_x)) 52 (upA (f_0 52) (n_0 48) zz22_)) 53 (upA (f_0 53) (n_0 48) (n_0 1))) 54 (upA (f_0 54) (n_0 48) 0)) 55 (upA (y55_c275) ((24 * (n_0 48)) + v_p) zz39_)) A0 H0 H locs := hw
                                    refine j_aload_n E 367 rfl dX10_suit_366 rfl (lv_at hl 0 rfl) ?_
                                    refine m_get_48 E hK hw ((n_0 48) + 1) rfl 370 rfl dX10_suit_367 (fun rr42_ => ?_)
                                    refine j_iconst E 371 rfl dX10_suit_370 ?_
                                    refine j_isub E 372 rfl dX10_suit_371 ?_
                                    exact hret 372 (((n_0 48) + 1) - 1) (upN (upN n_0 0 0) 48 ((n_0 48) + 1)) (upF (upF (upF (upF (upF (upF (upF (upF (upF (upF f_0 45 y45_20) 46 y46_22) 47 y47_22) 49 (upA (f_0 49) (n_0 48) v_p)) 50 (upA (f_0 50) (n_0 48) v_r)) 51 (upA (f_0 51) (n_0 48) v_x)) 52 (upA (f_0 52) (n_0 48) zz22_)) 53 (upA (f_0 53) (n_0 48) (n_0 1))) 54 (upA (f_0 54) (n_0 48) 0)) 55 (upA (y55_c275) ((24 * (n_0 48)) + v_p) zz39_)) _ _ ls hw (rr (by omega)) ⟨0, ((n_0 48) + 1), y45_20, y46_22, y47_22, (upA (f_0 49) (n_0 48) v_p), (upA (f_0 50) (n_0 48) v_r), (upA (f_0 51) (n_0 48) v_x), (upA (f_0 52) (n_0 48) zz22_), (upA (f_0 53) (n_0 48) (n_0 1)), (upA (f_0 54) (n_0 48) 0), (upA (y55_c275) ((24 * (n_0 48)) + v_p) zz39_), rfl, rfl, ⟨⟨i_now, i_persons, i_lines, i_wordings, i_taped, (show 0 ≤ ((n_0 48) + 1) ∧ ((n_0 48) + 1) ≤ 100 from by omega), i_spk, i_fam, i_str, i_said, i_book, i_wds, i_tok, i_cod, i_far⟩, Or.inr ⟨by omega, by omega, rfl, rfl⟩⟩⟩ dX10_suit_372
                                  · refine j_aload_n E 283 rfl dX10_suit_282 rfl (lv_at hl 0 rfl) ?_
                                    refine m_ag_55 E hK hw 286 rfl dX10_suit_283 ?_
                                    refine j_bipush E 288 rfl dX10_suit_286 (by decide) ?_
                                    refine j_aload_n E 289 rfl dX10_suit_288 rfl (lv_at hl 0 rfl) ?_
                                    refine m_get_48 E hK hw (n_0 48) rfl 292 rfl dX10_suit_289 (fun _ => ?_)
                                    refine j_imul E 293 rfl dX10_suit_292 ?_
                                    refine j_iload E 295 rfl dX10_suit_293 (lv_at hl 10 rfl) ?_
                                    refine j_iadd E 296 rfl dX10_suit_295 ?_
                                    refine j_iload E 298 rfl dX10_suit_296 (lv_at hl 10 rfl) ?_
                                    refine j_iload_n E 299 rfl dX10_suit_298 rfl (lv_at hl 1 rfl) ?_
                                    refine j_icmp_eq E 302 326 rfl r_gq r_v_p dX10_suit_299 (by decide) (fun cc43_ => ?_) (fun cc43_ => ?_)
                                    · refine j_iconst E 327 rfl dX10_suit_326 ?_
                                      refine m_st_55 E hK hw (by omega) (rr (by decide)) 328 rfl dX10_suit_327 (fun H locs hw => ?_)
                                      have hw : WM D cy q (upN n_0 0 0) (upF (upF (upF (upF (upF (upF (upF (upF (upF (upF f_0 45 y45_20) 46 y46_22) 47 y47_22) 49 (upA (f_0 49) (n_0 48) v_p)) 50 (upA (f_0 50) (n_0 48) v_r)) 51 (upA (f_0 51) (n_0 48) v_x)) 52 (upA (f_0 52) (n_0 48) zz22_)) 53 (upA (f_0 53) (n_0 48) (n_0 1))) 54 (upA (f_0 54) (n_0 48) 0)) 55 (upA (y55_c275) ((24 * (n_0 48)) + gq) 0)) A0 H0 H locs := hw
                                      refine j_iinc E 331 rfl [(10, .int (J (gq + 1))), (0, .ref (q 0)), (1, .int (J v_p)), (2, .int (J v_r)), (3, .int (J v_x)), (4, .int (J v_harm)), (5, .int (J v_witnesses)), (6, .int (J v_deed)), (7, .int (J zz22_)), (8, .int (J gc)), (9, .int (J zz35_))] dX10_suit_328 hl (kk := 10) rfl (by decide) rfl (fun ls hl => ?_)
                                      refine j_goto E 275 dX10_suit_331 (by decide) ?_
                                      exact ih275 (gq + 1) (upA (y55_c275) ((24 * (n_0 48)) + gq) 0) H locs ls (rr (by omega)) (by omega) (by omega) hw (lv_sub hl [1, 2, 3, 4, 5, 6, 7, 8, 9, 10, 0] rfl)
                                    · refine j_aload_n E 303 rfl dX10_suit_302 rfl (lv_at hl 0 rfl) ?_
                                      refine j_iload E 305 rfl dX10_suit_303 (lv_at hl 10 rfl) ?_
                                      refine m_callp (po := fun z_0 => (z_0 = 1 ∧ 0 ≤ gq ∧ gq < (n_0 2) ∧ (f_0 6 gq) = -1) ∨ (z_0 = 0 ∧ ¬ (0 ≤ gq ∧ gq < (n_0 2) ∧ (f_0 6 gq) = -1))) E (c_X10_isLiving l D cy q (upN n_0 0 0) (upF (upF (upF (upF (upF (upF (upF (upF (upF (upF f_0 45 y45_20) 46 y46_22) 47 y47_22) 49 (upA (f_0 49) (n_0 48) v_p)) 50 (upA (f_0 50) (n_0 48) v_r)) 51 (upA (f_0 51) (n_0 48) v_x)) 52 (upA (f_0 52) (n_0 48) zz22_)) 53 (upA (f_0 53) (n_0 48) (n_0 1))) 54 (upA (f_0 54) (n_0 48) 0)) 55 y55_c275) gq  r_gq (show (n_0 2) ≤ 24 from by omega)) rfl mt_X10_isLiving ml_X10_176 hK hw hA ⟨Nat.le_of_ble_eq_true rfl, Nat.le_of_ble_eq_true rfl⟩ (As := [.int (J gq)]) (rest := [.int (J ((24 * (n_0 48)) + gq)), .ref (q 55)]) rfl rfl hl.1 (Nat.le_of_ble_eq_true rfl) 308 rfl dX10_suit_305 (fun zz45_ H locs rr45_ hq45_ hw => ?_)
                                      have hh45_ : (zz45_ = 1 ∧ 0 ≤ gq ∧ gq < (n_0 2) ∧ (f_0 6 gq) = -1) ∨ (zz45_ = 0 ∧ ¬ (0 ≤ gq ∧ gq < (n_0 2) ∧ (f_0 6 gq) = -1)) := hq45_
                                      clear hq45_
                                      rcases hh45_ with ⟨ee45_, hh45_⟩ | ⟨ee45_, hh45_⟩
                                      · subst ee45_
                                        refine j_if_eq E 311 326 rfl (rr (by decide)) dX10_suit_308 (by decide) (fun cc46_ => absurd cc46_ (by decide)) (fun _ => ?_)
                                        refine j_aload_n E 312 rfl dX10_suit_311 rfl (lv_at hl 0 rfl) ?_
                                        refine j_iload_n E 313 rfl dX10_suit_312 rfl (lv_at hl 1 rfl) ?_
                                        refine j_iload E 315 rfl dX10_suit_313 (lv_at hl 10 rfl) ?_
                                        refine m_callp (po := fun z_0 => (z_0 = 1 ∧ (f_0 4 v_p) = (f_0 4 gq)) ∨ (z_0 = 0 ∧ ¬ (f_0 4 v_p) = (f_0 4 gq))) E (c_X10_isKin l D cy q (upN n_0 0 0) (upF (upF (upF (upF (upF (upF (upF (upF (upF (upF f_0 45 y45_20) 46 y46_22) 47 y47_22) 49 (upA (f_0 49) (n_0 48) v_p)) 50 (upA (f_0 50) (n_0 48) v_r)) 51 (upA (f_0 51) (n_0 48) v_x)) 52 (upA (f_0 52) (n_0 48) zz22_)) 53 (upA (f_0 53) (n_0 48) (n_0 1))) 54 (upA (f_0 54) (n_0 48) 0)) 55 y55_c275) v_p gq  r_v_p r_gq (show 0 ≤ v_p ∧ v_p < 24 from by omega) (show 0 ≤ gq ∧ gq < 24 from by omega)) rfl mt_X10_isKin ml_X10_334 hK hw hA ⟨Nat.le_of_ble_eq_true rfl, Nat.le_of_ble_eq_true rfl⟩ (As := [.int (J v_p), .int (J gq)]) (rest := [.int (J ((24 * (n_0 48)) + gq)), .ref (q 55)]) rfl rfl hl.1 (Nat.le_of_ble_eq_true rfl) 318 rfl dX10_suit_315 (fun zz47_ H locs rr47_ hq47_ hw => ?_)
                                        have hh47_ : (zz47_ = 1 ∧ (f_0 4 v_p) = (f_0 4 gq)) ∨ (zz47_ = 0 ∧ ¬ (f_0 4 v_p) = (f_0 4 gq)) := hq47_
                                        clear hq47_
                                        rcases hh47_ with ⟨ee47_, hh47_⟩ | ⟨ee47_, hh47_⟩
                                        · subst ee47_
                                          refine j_if_eq E 321 326 rfl (rr (by decide)) dX10_suit_318 (by decide) (fun cc48_ => absurd cc48_ (by decide)) (fun _ => ?_)
                                          refine j_iload E 323 rfl dX10_suit_321 (lv_at hl 9 rfl) ?_
                                          refine j_goto E 327 dX10_suit_323 (by decide) ?_
                                          refine m_st_55 E hK hw (by omega) rr35_ 328 rfl dX10_suit_327 (fun H locs hw => ?_)
                                          have hw : WM D cy q (upN n_0 0 0) (upF (upF (upF (upF (upF (upF (upF (upF (upF (upF f_0 45 y45_20) 46 y46_22) 47 y47_22) 49 (upA (f_0 49) (n_0 48) v_p)) 50 (upA (f_0 50) (n_0 48) v_r)) 51 (upA (f_0 51) (n_0 48) v_x)) 52 (upA (f_0 52) (n_0 48) zz22_)) 53 (upA (f_0 53) (n_0 48) (n_0 1))) 54 (upA (f_0 54) (n_0 48) 0)) 55 (upA (y55_c275) ((24 * (n_0 48)) + gq) zz35_)) A0 H0 H locs := hw
                                          refine j_iinc E 331 rfl [(10, .int (J (gq + 1))), (0, .ref (q 0)), (1, .int (J v_p)), (2, .int (J v_r)), (3, .int (J v_x)), (4, .int (J v_harm)), (5, .int (J v_witnesses)), (6, .int (J v_deed)), (7, .int (J zz22_)), (8, .int (J gc)), (9, .int (J zz35_))] dX10_suit_328 hl (kk := 10) rfl (by decide) rfl (fun ls hl => ?_)
                                          refine j_goto E 275 dX10_suit_331 (by decide) ?_
                                          exact ih275 (gq + 1) (upA (y55_c275) ((24 * (n_0 48)) + gq) zz35_) H locs ls (rr (by omega)) (by omega) (by omega) hw (lv_sub hl [1, 2, 3, 4, 5, 6, 7, 8, 9, 10, 0] rfl)
                                        · subst ee47_
                                          refine j_if_eq E 321 326 rfl (rr (by decide)) dX10_suit_318 (by decide) (fun _ => ?_) (fun cc50_ => absurd cc50_ (by decide))
                                          refine j_iconst E 327 rfl dX10_suit_326 ?_
                                          refine m_st_55 E hK hw (by omega) (rr (by decide)) 328 rfl dX10_suit_327 (fun H locs hw => ?_)
                                          have hw : WM D cy q (upN n_0 0 0) (upF (upF (upF (upF (upF (upF (upF (upF (upF (upF f_0 45 y45_20) 46 y46_22) 47 y47_22) 49 (upA (f_0 49) (n_0 48) v_p)) 50 (upA (f_0 50) (n_0 48) v_r)) 51 (upA (f_0 51) (n_0 48) v_x)) 52 (upA (f_0 52) (n_0 48) zz22_)) 53 (upA (f_0 53) (n_0 48) (n_0 1))) 54 (upA (f_0 54) (n_0 48) 0)) 55 (upA (y55_c275) ((24 * (n_0 48)) + gq) 0)) A0 H0 H locs := hw
                                          refine j_iinc E 331 rfl [(10, .int (J (gq + 1))), (0, .ref (q 0)), (1, .int (J v_p)), (2, .int (J v_r)), (3, .int (J v_x)), (4, .int (J v_harm)), (5, .int (J v_witnesses)), (6, .int (J v_deed)), (7, .int (J zz22_)), (8, .int (J gc)), (9, .int (J zz35_))] dX10_suit_328 hl (kk := 10) rfl (by decide) rfl (fun ls hl => ?_)
                                          refine j_goto E 275 dX10_suit_331 (by decide) ?_
                                          exact ih275 (gq + 1) (upA (y55_c275) ((24 * (n_0 48)) + gq) 0) H locs ls (rr (by omega)) (by omega) (by omega) hw (lv_sub hl [1, 2, 3, 4, 5, 6, 7, 8, 9, 10, 0] rfl)
                                      · subst ee45_
                                        refine j_if_eq E 311 326 rfl (rr (by decide)) dX10_suit_308 (by decide) (fun _ => ?_) (fun cc52_ => absurd cc52_ (by decide))
                                        refine j_iconst E 327 rfl dX10_suit_326 ?_
                                        refine m_st_55 E hK hw (by omega) (rr (by decide)) 328 rfl dX10_suit_327 (fun H locs hw => ?_)
                                        have hw : WM D cy q (upN n_0 0 0) (upF (upF (upF (upF (upF (upF (upF (upF (upF (upF f_0 45 y45_20) 46 y46_22) 47 y47_22) 49 (upA (f_0 49) (n_0 48) v_p)) 50 (upA (f_0 50) (n_0 48) v_r)) 51 (upA (f_0 51) (n_0 48) v_x)) 52 (upA (f_0 52) (n_0 48) zz22_)) 53 (upA (f_0 53) (n_0 48) (n_0 1))) 54 (upA (f_0 54) (n_0 48) 0)) 55 (upA (y55_c275) ((24 * (n_0 48)) + gq) 0)) A0 H0 H locs := hw
                                        refine j_iinc E 331 rfl [(10, .int (J (gq + 1))), (0, .ref (q 0)), (1, .int (J v_p)), (2, .int (J v_r)), (3, .int (J v_x)), (4, .int (J v_harm)), (5, .int (J v_witnesses)), (6, .int (J v_deed)), (7, .int (J zz22_)), (8, .int (J gc)), (9, .int (J zz35_))] dX10_suit_328 hl (kk := 10) rfl (by decide) rfl (fun ls hl => ?_)
                                        refine j_goto E 275 dX10_suit_331 (by decide) ?_
                                        exact ih275 (gq + 1) (upA (y55_c275) ((24 * (n_0 48)) + gq) 0) H locs ls (rr (by omega)) (by omega) (by omega) hw (lv_sub hl [1, 2, 3, 4, 5, 6, 7, 8, 9, 10, 0] rfl)
                              exact L275_36 _ 0 (f_0 55) H locs ls (rr (by decide)) (by omega) (mk_lt _) hw (lv_sub hl [2, 3, 4, 5, 6, 7, 8, 9, 10, 1, 0] rfl)
                            · refine j_iconst E 260 rfl dX10_suit_259 ?_
                              refine j_goto E 270 dX10_suit_260 (by decide) ?_
                              refine j_istore E 272 rfl [(9, .int (J 0)), (0, .ref (q 0)), (1, .int (J v_p)), (2, .int (J v_r)), (3, .int (J v_x)), (4, .int (J v_harm)), (5, .int (J v_witnesses)), (6, .int (J v_deed)), (7, .int (J zz22_)), (8, .int (J gc))] dX10_suit_270 hl (by decide) rfl (fun ls hl => ?_)
                              refine j_iconst E 273 rfl dX10_suit_272 ?_
                              refine j_istore E 275 rfl [(10, .int (J 0)), (9, .int (J 0)), (0, .ref (q 0)), (1, .int (J v_p)), (2, .int (J v_r)), (3, .int (J v_x)), (4, .int (J v_harm)), (5, .int (J v_witnesses)), (6, .int (J v_deed)), (7, .int (J zz22_)), (8, .int (J gc))] dX10_suit_273 hl (by decide) rfl (fun ls hl => ?_)
                              have L275_54 : ∀ (k275 : Nat) (gq : Int) (y55_c275 : Int → Int) (H : Heap) (locs : List Loc) (ls : Array Slot), inR gq → (0 ≤ gq ∧ gq ≤ 24) → (24 - gq) < (k275 : Int) → WM D cy q (upN n_0 0 0) (upF (upF (upF (upF (upF (upF (upF (upF (upF (upF f_0 45 y45_20) 46 y46_22) 47 y47_22) 49 (upA (f_0 49) (n_0 48) v_p)) 50 (upA (f_0 50) (n_0 48) v_r)) 51 (upA (f_0 51) (n_0 48) v_x)) 52 (upA (f_0 52) (n_0 48) zz22_)) 53 (upA (f_0 53) (n_0 48) (n_0 1))) 54 (upA (f_0 54) (n_0 48) 0)) 55 y55_c275) A0 H0 H locs → lv_has ls 11 [(0, .ref (q 0)), (1, .int (J v_p)), (2, .int (J v_r)), (3, .int (J v_x)), (4, .int (J v_harm)), (5, .int (J v_witnesses)), (6, .int (J v_deed)), (7, .int (J zz22_)), (8, .int (J gc)), (9, .int (J 0)), (10, .int (J gq))] → W p l e (rmd 4 0 0) s m ar below meth c H locs 0 0 QW (F0 m 275 ls []) := by
                                intro k275
                                induction k275 with
                                | zero =>
                                  intro gq y55_c275 H locs ls r_gq iv275 ms275 hw hl
                                  exfalso; omega
                                | succ k275 ih275 =>
                                  intro gq y55_c275 H locs ls r_gq iv275 ms275 hw hl
                                  refine j_iload E 277 rfl dX10_suit_275 (lv_at hl 10 rfl) ?_
                                  refine j_bipush E 279 rfl dX10_suit_277 (by decide) ?_
                                  refine j_icmp_ge E 282 334 rfl r_gq (rr (by decide)) dX10_suit_279 (by decide) (fun cc56_ => ?_) (fun cc56_ => ?_)
                                  · refine j_aload_n E 335 rfl dX10_suit_334 rfl (lv_at hl 0 rfl) ?_
                                    refine m_ag_55 E hK hw 338 rfl dX10_suit_335 ?_
                                    refine j_bipush E 340 rfl dX10_suit_338 (by decide) ?_
                                    refine j_aload_n E 341 rfl dX10_suit_340 rfl (lv_at hl 0 rfl) ?_
                                    refine m_get_48 E hK hw (n_0 48) rfl 344 rfl dX10_suit_341 (fun _ => ?_)
                                    refine j_imul E 345 rfl dX10_suit_344 ?_
                                    refine j_iload_n E 346 rfl dX10_suit_345 rfl (lv_at hl 1 rfl) ?_
                                    refine j_iadd E 347 rfl dX10_suit_346 ?_
                                    refine j_iload E 349 rfl dX10_suit_347 (lv_at hl 7 rfl) ?_
                                    refine j_iload E 351 rfl dX10_suit_349 (lv_at hl 9 rfl) ?_
                                    refine j_iload E 353 rfl dX10_suit_351 (lv_at hl 8 rfl) ?_
                                    refine j_imul E 354 rfl dX10_suit_353 ?_
                                    refine j_isub E 355 rfl dX10_suit_354 ?_
                                    refine j_norm (fun zz57_ rr57_ ee57_ => ?_)
                                    refine m_st_55 E hK hw (by omega) rr57_ 356 rfl dX10_suit_355 (fun H locs hw => ?_)
                                    have hw : WM D cy q (upN n_0 0 0) (upF (upF (upF (upF (upF (upF (upF (upF (upF (upF f_0 45 y45_20) 46 y46_22) 47 y47_22) 49 (upA (f_0 49) (n_0 48) v_p)) 50 (upA (f_0 50) (n_0 48) v_r)) 51 (upA (f_0 51) (n_0 48) v_x)) 52 (upA (f_0 52) (n_0 48) zz22_)) 53 (upA (f_0 53) (n_0 48) (n_0 1))) 54 (upA (f_0 54) (n_0 48) 0)) 55 (upA (y55_c275) ((24 * (n_0 48)) + v_p) zz57_)) A0 H0 H locs := hw
                                    refine j_aload_n E 357 rfl dX10_suit_356 rfl (lv_at hl 0 rfl) ?_
                                    refine j_aload_n E 358 rfl dX10_suit_357 rfl (lv_at hl 0 rfl) ?_
                                    refine m_get_48 E hK hw (n_0 48) rfl 361 rfl dX10_suit_358 (fun _ => ?_)
                                    refine j_iconst E 362 rfl dX10_suit_361 ?_
                                    refine j_iadd E 363 rfl dX10_suit_362 ?_
                                    refine m_put_48 E hK hw (rr (by omega)) 366 rfl dX10_suit_363 (fun H locs hw => ?_)
                                    have hw : WM D cy q (upN (upN n_0 0 0) 48 ((n_0 48) + 1)) (upF (upF (upF (upF (upF (upF (upF (upF (upF (upF f_0 45 y45_20) 46 y46_22) 47 y47_22) 49 (upA (f_0 49) (n_0 48) v_p)) 50 (upA (f_0 50) (n_0 48) v_r)) 51 (upA (f_0 51) (n_0 48) v_x)) 52 (upA (f_0 52) (n_0 48) zz22_)) 53 (upA (f_0 53) (n_0 48) (n_0 1))) 54 (upA (f_0 54) (n_0 48) 0)) 55 (upA (y55_c275) ((24 * (n_0 48)) + v_p) zz57_)) A0 H0 H locs := hw
                                    refine j_aload_n E 367 rfl dX10_suit_366 rfl (lv_at hl 0 rfl) ?_
                                    refine m_get_48 E hK hw ((n_0 48) + 1) rfl 370 rfl dX10_suit_367 (fun rr60_ => ?_)
                                    refine j_iconst E 371 rfl dX10_suit_370 ?_
                                    refine j_isub E 372 rfl dX10_suit_371 ?_
                                    exact hret 372 (((n_0 48) + 1) - 1) (upN (upN n_0 0 0) 48 ((n_0 48) + 1)) (upF (upF (upF (upF (upF (upF (upF (upF (upF (upF f_0 45 y45_20) 46 y46_22) 47 y47_22) 49 (upA (f_0 49) (n_0 48) v_p)) 50 (upA (f_0 50) (n_0 48) v_r)) 51 (upA (f_0 51) (n_0 48) v_x)) 52 (upA (f_0 52) (n_0 48) zz22_)) 53 (upA (f_0 53) (n_0 48) (n_0 1))) 54 (upA (f_0 54) (n_0 48) 0)) 55 (upA (y55_c275) ((24 * (n_0 48)) + v_p) zz57_)) _ _ ls hw (rr (by omega)) ⟨0, ((n_0 48) + 1), y45_20, y46_22, y47_22, (upA (f_0 49) (n_0 48) v_p), (upA (f_0 50) (n_0 48) v_r), (upA (f_0 51) (n_0 48) v_x), (upA (f_0 52) (n_0 48) zz22_), (upA (f_0 53) (n_0 48) (n_0 1)), (upA (f_0 54) (n_0 48) 0), (upA (y55_c275) ((24 * (n_0 48)) + v_p) zz57_), rfl, rfl, ⟨⟨i_now, i_persons, i_lines, i_wordings, i_taped, (show 0 ≤ ((n_0 48) + 1) ∧ ((n_0 48) + 1) ≤ 100 from by omega), i_spk, i_fam, i_str, i_said, i_book, i_wds, i_tok, i_cod, i_far⟩, Or.inr ⟨by omega, by omega, rfl, rfl⟩⟩⟩ dX10_suit_372
                                  · refine j_aload_n E 283 rfl dX10_suit_282 rfl (lv_at hl 0 rfl) ?_
                                    refine m_ag_55 E hK hw 286 rfl dX10_suit_283 ?_
                                    refine j_bipush E 288 rfl dX10_suit_286 (by decide) ?_
                                    refine j_aload_n E 289 rfl dX10_suit_288 rfl (lv_at hl 0 rfl) ?_
                                    refine m_get_48 E hK hw (n_0 48) rfl 292 rfl dX10_suit_289 (fun _ => ?_)
                                    refine j_imul E 293 rfl dX10_suit_292 ?_
                                    refine j_iload E 295 rfl dX10_suit_293 (lv_at hl 10 rfl) ?_
                                    refine j_iadd E 296 rfl dX10_suit_295 ?_
                                    refine j_iload E 298 rfl dX10_suit_296 (lv_at hl 10 rfl) ?_
                                    refine j_iload_n E 299 rfl dX10_suit_298 rfl (lv_at hl 1 rfl) ?_
                                    refine j_icmp_eq E 302 326 rfl r_gq r_v_p dX10_suit_299 (by decide) (fun cc61_ => ?_) (fun cc61_ => ?_)
                                    · refine j_iconst E 327 rfl dX10_suit_326 ?_
                                      refine m_st_55 E hK hw (by omega) (rr (by decide)) 328 rfl dX10_suit_327 (fun H locs hw => ?_)
                                      have hw : WM D cy q (upN n_0 0 0) (upF (upF (upF (upF (upF (upF (upF (upF (upF (upF f_0 45 y45_20) 46 y46_22) 47 y47_22) 49 (upA (f_0 49) (n_0 48) v_p)) 50 (upA (f_0 50) (n_0 48) v_r)) 51 (upA (f_0 51) (n_0 48) v_x)) 52 (upA (f_0 52) (n_0 48) zz22_)) 53 (upA (f_0 53) (n_0 48) (n_0 1))) 54 (upA (f_0 54) (n_0 48) 0)) 55 (upA (y55_c275) ((24 * (n_0 48)) + gq) 0)) A0 H0 H locs := hw
                                      refine j_iinc E 331 rfl [(10, .int (J (gq + 1))), (0, .ref (q 0)), (1, .int (J v_p)), (2, .int (J v_r)), (3, .int (J v_x)), (4, .int (J v_harm)), (5, .int (J v_witnesses)), (6, .int (J v_deed)), (7, .int (J zz22_)), (8, .int (J gc)), (9, .int (J 0))] dX10_suit_328 hl (kk := 10) rfl (by decide) rfl (fun ls hl => ?_)
                                      refine j_goto E 275 dX10_suit_331 (by decide) ?_
                                      exact ih275 (gq + 1) (upA (y55_c275) ((24 * (n_0 48)) + gq) 0) H locs ls (rr (by omega)) (by omega) (by omega) hw (lv_sub hl [1, 2, 3, 4, 5, 6, 7, 8, 9, 10, 0] rfl)
                                    · refine j_aload_n E 303 rfl dX10_suit_302 rfl (lv_at hl 0 rfl) ?_
                                      refine j_iload E 305 rfl dX10_suit_303 (lv_at hl 10 rfl) ?_
                                      refine m_callp (po := fun z_0 => (z_0 = 1 ∧ 0 ≤ gq ∧ gq < (n_0 2) ∧ (f_0 6 gq) = -1) ∨ (z_0 = 0 ∧ ¬ (0 ≤ gq ∧ gq < (n_0 2) ∧ (f_0 6 gq) = -1))) E (c_X10_isLiving l D cy q (upN n_0 0 0) (upF (upF (upF (upF (upF (upF (upF (upF (upF (upF f_0 45 y45_20) 46 y46_22) 47 y47_22) 49 (upA (f_0 49) (n_0 48) v_p)) 50 (upA (f_0 50) (n_0 48) v_r)) 51 (upA (f_0 51) (n_0 48) v_x)) 52 (upA (f_0 52) (n_0 48) zz22_)) 53 (upA (f_0 53) (n_0 48) (n_0 1))) 54 (upA (f_0 54) (n_0 48) 0)) 55 y55_c275) gq  r_gq (show (n_0 2) ≤ 24 from by omega)) rfl mt_X10_isLiving ml_X10_176 hK hw hA ⟨Nat.le_of_ble_eq_true rfl, Nat.le_of_ble_eq_true rfl⟩ (As := [.int (J gq)]) (rest := [.int (J ((24 * (n_0 48)) + gq)), .ref (q 55)]) rfl rfl hl.1 (Nat.le_of_ble_eq_true rfl) 308 rfl dX10_suit_305 (fun zz63_ H locs rr63_ hq63_ hw => ?_)
                                      have hh63_ : (zz63_ = 1 ∧ 0 ≤ gq ∧ gq < (n_0 2) ∧ (f_0 6 gq) = -1) ∨ (zz63_ = 0 ∧ ¬ (0 ≤ gq ∧ gq < (n_0 2) ∧ (f_0 6 gq) = -1)) := hq63_
                                      clear hq63_
                                      rcases hh63_ with ⟨ee63_, hh63_⟩ | ⟨ee63_, hh63_⟩
                                      · subst ee63_
                                        refine j_if_eq E 311 326 rfl (rr (by decide)) dX10_suit_308 (by decide) (fun cc64_ => absurd cc64_ (by decide)) (fun _ => ?_)
                                        refine j_aload_n E 312 rfl dX10_suit_311 rfl (lv_at hl 0 rfl) ?_
                                        refine j_iload_n E 313 rfl dX10_suit_312 rfl (lv_at hl 1 rfl) ?_
                                        refine j_iload E 315 rfl dX10_suit_313 (lv_at hl 10 rfl) ?_
                                        refine m_callp (po := fun z_0 => (z_0 = 1 ∧ (f_0 4 v_p) = (f_0 4 gq)) ∨ (z_0 = 0 ∧ ¬ (f_0 4 v_p) = (f_0 4 gq))) E (c_X10_isKin l D cy q (upN n_0 0 0) (upF (upF (upF (upF (upF (upF (upF (upF (upF (upF f_0 45 y45_20) 46 y46_22) 47 y47_22) 49 (upA (f_0 49) (n_0 48) v_p)) 50 (upA (f_0 50) (n_0 48) v_r)) 51 (upA (f_0 51) (n_0 48) v_x)) 52 (upA (f_0 52) (n_0 48) zz22_)) 53 (upA (f_0 53) (n_0 48) (n_0 1))) 54 (upA (f_0 54) (n_0 48) 0)) 55 y55_c275) v_p gq  r_v_p r_gq (show 0 ≤ v_p ∧ v_p < 24 from by omega) (show 0 ≤ gq ∧ gq < 24 from by omega)) rfl mt_X10_isKin ml_X10_334 hK hw hA ⟨Nat.le_of_ble_eq_true rfl, Nat.le_of_ble_eq_true rfl⟩ (As := [.int (J v_p), .int (J gq)]) (rest := [.int (J ((24 * (n_0 48)) + gq)), .ref (q 55)]) rfl rfl hl.1 (Nat.le_of_ble_eq_true rfl) 318 rfl dX10_suit_315 (fun zz65_ H locs rr65_ hq65_ hw => ?_)
                                        have hh65_ : (zz65_ = 1 ∧ (f_0 4 v_p) = (f_0 4 gq)) ∨ (zz65_ = 0 ∧ ¬ (f_0 4 v_p) = (f_0 4 gq)) := hq65_
                                        clear hq65_
                                        rcases hh65_ with ⟨ee65_, hh65_⟩ | ⟨ee65_, hh65_⟩
                                        · subst ee65_
                                          refine j_if_eq E 321 326 rfl (rr (by decide)) dX10_suit_318 (by decide) (fun cc66_ => absurd cc66_ (by decide)) (fun _ => ?_)
                                          refine j_iload E 323 rfl dX10_suit_321 (lv_at hl 9 rfl) ?_
                                          refine j_goto E 327 dX10_suit_323 (by decide) ?_
                                          refine m_st_55 E hK hw (by omega) (rr (by decide)) 328 rfl dX10_suit_327 (fun H locs hw => ?_)
                                          have hw : WM D cy q (upN n_0 0 0) (upF (upF (upF (upF (upF (upF (upF (upF (upF (upF f_0 45 y45_20) 46 y46_22) 47 y47_22) 49 (upA (f_0 49) (n_0 48) v_p)) 50 (upA (f_0 50) (n_0 48) v_r)) 51 (upA (f_0 51) (n_0 48) v_x)) 52 (upA (f_0 52) (n_0 48) zz22_)) 53 (upA (f_0 53) (n_0 48) (n_0 1))) 54 (upA (f_0 54) (n_0 48) 0)) 55 (upA (y55_c275) ((24 * (n_0 48)) + gq) 0)) A0 H0 H locs := hw
                                          refine j_iinc E 331 rfl [(10, .int (J (gq + 1))), (0, .ref (q 0)), (1, .int (J v_p)), (2, .int (J v_r)), (3, .int (J v_x)), (4, .int (J v_harm)), (5, .int (J v_witnesses)), (6, .int (J v_deed)), (7, .int (J zz22_)), (8, .int (J gc)), (9, .int (J 0))] dX10_suit_328 hl (kk := 10) rfl (by decide) rfl (fun ls hl => ?_)
                                          refine j_goto E 275 dX10_suit_331 (by decide) ?_
                                          exact ih275 (gq + 1) (upA (y55_c275) ((24 * (n_0 48)) + gq) 0) H locs ls (rr (by omega)) (by omega) (by omega) hw (lv_sub hl [1, 2, 3, 4, 5, 6, 7, 8, 9, 10, 0] rfl)
                                        · subst ee65_
                                          refine j_if_eq E 321 326 rfl (rr (by decide)) dX10_suit_318 (by decide) (fun _ => ?_) (fun cc68_ => absurd cc68_ (by decide))
                                          refine j_iconst E 327 rfl dX10_suit_326 ?_
                                          refine m_st_55 E hK hw (by omega) (rr (by decide)) 328 rfl dX10_suit_327 (fun H locs hw => ?_)
                                          have hw : WM D cy q (upN n_0 0 0) (upF (upF (upF (upF (upF (upF (upF (upF (upF (upF f_0 45 y45_20) 46 y46_22) 47 y47_22) 49 (upA (f_0 49) (n_0 48) v_p)) 50 (upA (f_0 50) (n_0 48) v_r)) 51 (upA (f_0 51) (n_0 48) v_x)) 52 (upA (f_0 52) (n_0 48) zz22_)) 53 (upA (f_0 53) (n_0 48) (n_0 1))) 54 (upA (f_0 54) (n_0 48) 0)) 55 (upA (y55_c275) ((24 * (n_0 48)) + gq) 0)) A0 H0 H locs := hw
                                          refine j_iinc E 331 rfl [(10, .int (J (gq + 1))), (0, .ref (q 0)), (1, .int (J v_p)), (2, .int (J v_r)), (3, .int (J v_x)), (4, .int (J v_harm)), (5, .int (J v_witnesses)), (6, .int (J v_deed)), (7, .int (J zz22_)), (8, .int (J gc)), (9, .int (J 0))] dX10_suit_328 hl (kk := 10) rfl (by decide) rfl (fun ls hl => ?_)
                                          refine j_goto E 275 dX10_suit_331 (by decide) ?_
                                          exact ih275 (gq + 1) (upA (y55_c275) ((24 * (n_0 48)) + gq) 0) H locs ls (rr (by omega)) (by omega) (by omega) hw (lv_sub hl [1, 2, 3, 4, 5, 6, 7, 8, 9, 10, 0] rfl)
                                      · subst ee63_
                                        refine j_if_eq E 311 326 rfl (rr (by decide)) dX10_suit_308 (by decide) (fun _ => ?_) (fun cc70_ => absurd cc70_ (by decide))
                                        refine j_iconst E 327 rfl dX10_suit_326 ?_
                                        refine m_st_55 E hK hw (by omega) (rr (by decide)) 328 rfl dX10_suit_327 (fun H locs hw => ?_)
                                        have hw : WM D cy q (upN n_0 0 0) (upF (upF (upF (upF (upF (upF (upF (upF (upF (upF f_0 45 y45_20) 46 y46_22) 47 y47_22) 49 (upA (f_0 49) (n_0 48) v_p)) 50 (upA (f_0 50) (n_0 48) v_r)) 51 (upA (f_0 51) (n_0 48) v_x)) 52 (upA (f_0 52) (n_0 48) zz22_)) 53 (upA (f_0 53) (n_0 48) (n_0 1))) 54 (upA (f_0 54) (n_0 48) 0)) 55 (upA (y55_c275) ((24 * (n_0 48)) + gq) 0)) A0 H0 H locs := hw
                                        refine j_iinc E 331 rfl [(10, .int (J (gq + 1))), (0, .ref (q 0)), (1, .int (J v_p)), (2, .int (J v_r)), (3, .int (J v_x)), (4, .int (J v_harm)), (5, .int (J v_witnesses)), (6, .int (J v_deed)), (7, .int (J zz22_)), (8, .int (J gc)), (9, .int (J 0))] dX10_suit_328 hl (kk := 10) rfl (by decide) rfl (fun ls hl => ?_)
                                        refine j_goto E 275 dX10_suit_331 (by decide) ?_
                                        exact ih275 (gq + 1) (upA (y55_c275) ((24 * (n_0 48)) + gq) 0) H locs ls (rr (by omega)) (by omega) (by omega) hw (lv_sub hl [1, 2, 3, 4, 5, 6, 7, 8, 9, 10, 0] rfl)
                              exact L275_54 _ 0 (f_0 55) H locs ls (rr (by decide)) (by omega) (mk_lt _) hw (lv_sub hl [2, 3, 4, 5, 6, 7, 8, 9, 10, 1, 0] rfl)
                          · refine j_iload E 219 rfl dX10_suit_217 (lv_at hl 9 rfl) ?_
                            refine j_iload_n E 220 rfl dX10_suit_219 rfl (lv_at hl 1 rfl) ?_
                            refine j_icmp_eq E 223 248 rfl r_gr r_v_p dX10_suit_220 (by decide) (fun cc72_ => ?_) (fun cc72_ => ?_)
                            · refine j_iinc E 251 rfl [(9, .int (J (gr + 1))), (0, .ref (q 0)), (1, .int (J v_p)), (2, .int (J v_r)), (3, .int (J v_x)), (4, .int (J v_harm)), (5, .int (J v_witnesses)), (6, .int (J v_deed)), (7, .int (J zz22_)), (8, .int (J gc))] dX10_suit_248 hl (kk := 9) rfl (by decide) rfl (fun ls hl => ?_)
                              refine j_goto E 208 dX10_suit_251 (by decide) ?_
                              exact ih208 gc (gr + 1) H locs ls r_gc (rr (by omega)) (by omega) (by omega) hw (lv_sub hl [1, 2, 3, 4, 5, 6, 7, 8, 9, 0] rfl)
                            · refine j_aload_n E 224 rfl dX10_suit_223 rfl (lv_at hl 0 rfl) ?_
                              refine j_iload E 226 rfl dX10_suit_224 (lv_at hl 9 rfl) ?_
                              refine m_callp (po := fun z_0 => (z_0 = 1 ∧ 0 ≤ gr ∧ gr < (n_0 2) ∧ (f_0 6 gr) = -1) ∨ (z_0 = 0 ∧ ¬ (0 ≤ gr ∧ gr < (n_0 2) ∧ (f_0 6 gr) = -1))) E (c_X10_isLiving l D cy q (upN n_0 0 0) (upF (upF (upF (upF (upF (upF (upF (upF (upF f_0 45 y45_20) 46 y46_22) 47 y47_22) 49 (upA (f_0 49) (n_0 48) v_p)) 50 (upA (f_0 50) (n_0 48) v_r)) 51 (upA (f_0 51) (n_0 48) v_x)) 52 (upA (f_0 52) (n_0 48) zz22_)) 53 (upA (f_0 53) (n_0 48) (n_0 1))) 54 (upA (f_0 54) (n_0 48) 0)) gr  r_gr (show (n_0 2) ≤ 24 from by omega)) rfl mt_X10_isLiving ml_X10_176 hK hw hA ⟨Nat.le_of_ble_eq_true rfl, Nat.le_of_ble_eq_true rfl⟩ (As := [.int (J gr)]) (rest := []) rfl rfl hl.1 (Nat.le_of_ble_eq_true rfl) 229 rfl dX10_suit_226 (fun zz73_ H locs rr73_ hq73_ hw => ?_)
                              have hh73_ : (zz73_ = 1 ∧ 0 ≤ gr ∧ gr < (n_0 2) ∧ (f_0 6 gr) = -1) ∨ (zz73_ = 0 ∧ ¬ (0 ≤ gr ∧ gr < (n_0 2) ∧ (f_0 6 gr) = -1)) := hq73_
                              clear hq73_
                              rcases hh73_ with ⟨ee73_, hh73_⟩ | ⟨ee73_, hh73_⟩
                              · subst ee73_
                                refine j_if_eq E 232 248 rfl (rr (by decide)) dX10_suit_229 (by decide) (fun cc74_ => absurd cc74_ (by decide)) (fun _ => ?_)
                                refine j_aload_n E 233 rfl dX10_suit_232 rfl (lv_at hl 0 rfl) ?_
                                refine j_iload_n E 234 rfl dX10_suit_233 rfl (lv_at hl 1 rfl) ?_
                                refine j_iload E 236 rfl dX10_suit_234 (lv_at hl 9 rfl) ?_
                                refine m_callp (po := fun z_0 => (z_0 = 1 ∧ (f_0 4 v_p) = (f_0 4 gr)) ∨ (z_0 = 0 ∧ ¬ (f_0 4 v_p) = (f_0 4 gr))) E (c_X10_isKin l D cy q (upN n_0 0 0) (upF (upF (upF (upF (upF (upF (upF (upF (upF f_0 45 y45_20) 46 y46_22) 47 y47_22) 49 (upA (f_0 49) (n_0 48) v_p)) 50 (upA (f_0 50) (n_0 48) v_r)) 51 (upA (f_0 51) (n_0 48) v_x)) 52 (upA (f_0 52) (n_0 48) zz22_)) 53 (upA (f_0 53) (n_0 48) (n_0 1))) 54 (upA (f_0 54) (n_0 48) 0)) v_p gr  r_v_p r_gr (show 0 ≤ v_p ∧ v_p < 24 from by omega) (show 0 ≤ gr ∧ gr < 24 from by omega)) rfl mt_X10_isKin ml_X10_334 hK hw hA ⟨Nat.le_of_ble_eq_true rfl, Nat.le_of_ble_eq_true rfl⟩ (As := [.int (J v_p), .int (J gr)]) (rest := []) rfl rfl hl.1 (Nat.le_of_ble_eq_true rfl) 239 rfl dX10_suit_236 (fun zz75_ H locs rr75_ hq75_ hw => ?_)
                                have hh75_ : (zz75_ = 1 ∧ (f_0 4 v_p) = (f_0 4 gr)) ∨ (zz75_ = 0 ∧ ¬ (f_0 4 v_p) = (f_0 4 gr)) := hq75_
                                clear hq75_
                                rcases hh75_ with ⟨ee75_, hh75_⟩ | ⟨ee75_, hh75_⟩
                                · subst ee75_
                                  refine j_if_eq E 242 248 rfl (rr (by decide)) dX10_suit_239 (by decide) (fun cc76_ => absurd cc76_ (by decide)) (fun _ => ?_)
                                  refine j_iload E 244 rfl dX10_suit_242 (lv_at hl 8 rfl) ?_
                                  refine j_iconst E 245 rfl dX10_suit_244 ?_
                                  refine j_iadd E 246 rfl dX10_suit_245 ?_
                                  refine j_istore E 248 rfl [(8, .int (J (gc + 1))), (0, .ref (q 0)), (1, .int (J v_p)), (2, .int (J v_r)), (3, .int (J v_x)), (4, .int (J v_harm)), (5, .int (J v_witnesses)), (6, .int (J v_deed)), (7, .int (J zz22_)), (9, .int (J gr))] dX10_suit_246 hl (by decide) rfl (fun ls hl => ?_)
                                  refine j_iinc E 251 rfl [(9, .int (J (gr + 1))), (8, .int (J (gc + 1))), (0, .ref (q 0)), (1, .int (J v_p)), (2, .int (J v_r)), (3, .int (J v_x)), (4, .int (J v_harm)), (5, .int (J v_witnesses)), (6, .int (J v_deed)), (7, .int (J zz22_))] dX10_suit_248 hl (kk := 9) rfl (by decide) rfl (fun ls hl => ?_)
                                  refine j_goto E 208 dX10_suit_251 (by decide) ?_
                                  exact ih208 (gc + 1) (gr + 1) H locs ls (rr (by omega)) (rr (by omega)) (by omega) (by omega) hw (lv_sub hl [2, 3, 4, 5, 6, 7, 8, 9, 1, 0] rfl)
                                · subst ee75_
                                  refine j_if_eq E 242 248 rfl (rr (by decide)) dX10_suit_239 (by decide) (fun _ => ?_) (fun cc77_ => absurd cc77_ (by decide))
                                  refine j_iinc E 251 rfl [(9, .int (J (gr + 1))), (0, .ref (q 0)), (1, .int (J v_p)), (2, .int (J v_r)), (3, .int (J v_x)), (4, .int (J v_harm)), (5, .int (J v_witnesses)), (6, .int (J v_deed)), (7, .int (J zz22_)), (8, .int (J gc))] dX10_suit_248 hl (kk := 9) rfl (by decide) rfl (fun ls hl => ?_)
                                  refine j_goto E 208 dX10_suit_251 (by decide) ?_
                                  exact ih208 gc (gr + 1) H locs ls r_gc (rr (by omega)) (by omega) (by omega) hw (lv_sub hl [1, 2, 3, 4, 5, 6, 7, 8, 9, 0] rfl)
                              · subst ee73_
                                refine j_if_eq E 232 248 rfl (rr (by decide)) dX10_suit_229 (by decide) (fun _ => ?_) (fun cc78_ => absurd cc78_ (by decide))
                                refine j_iinc E 251 rfl [(9, .int (J (gr + 1))), (0, .ref (q 0)), (1, .int (J v_p)), (2, .int (J v_r)), (3, .int (J v_x)), (4, .int (J v_harm)), (5, .int (J v_witnesses)), (6, .int (J v_deed)), (7, .int (J zz22_)), (8, .int (J gc))] dX10_suit_248 hl (kk := 9) rfl (by decide) rfl (fun ls hl => ?_)
                                refine j_goto E 208 dX10_suit_251 (by decide) ?_
                                exact ih208 gc (gr + 1) H locs ls r_gc (rr (by omega)) (by omega) (by omega) hw (lv_sub hl [1, 2, 3, 4, 5, 6, 7, 8, 9, 0] rfl)
                      exact L208_29 _ 0 0 H locs ls (rr (by decide)) (rr (by decide)) (by omega) (mk_lt _) hw (lv_sub hl [3, 4, 5, 6, 7, 8, 9, 2, 1, 0] rfl)
                    · subst ee20_
                      refine j_if_ne E 122 124 rfl (rr (by decide)) dX10_suit_119 (by decide) (fun cc79_ => absurd cc79_ (by decide)) (fun _ => ?_)
                      refine j_iconst E 123 rfl dX10_suit_122 ?_
                      exact hret 123 ((-1)) (upN (upN n_0 0 0) 48 (n_0 48)) (upF (upF (upF (upF (upF (upF (upF (upF (upF (upF f_0 45 y45_20) 46 (f_0 46)) 47 (f_0 47)) 49 (f_0 49)) 50 (f_0 50)) 51 (f_0 51)) 52 (f_0 52)) 53 (f_0 53)) 54 (f_0 54)) 55 (f_0 55)) _ _ ls hw (rr (by decide)) ⟨0, (n_0 48), y45_20, (f_0 46), (f_0 47), (f_0 49), (f_0 50), (f_0 51), (f_0 52), (f_0 53), (f_0 54), (f_0 55), rfl, rfl, ⟨⟨i_now, i_persons, i_lines, i_wordings, i_taped, (show 0 ≤ (n_0 48) ∧ (n_0 48) ≤ 100 from by omega), i_spk, i_fam, i_str, i_said, i_book, i_wds, i_tok, i_cod, i_far⟩, Or.inl ⟨rfl, by omega, rfl, rfl⟩⟩⟩ dX10_suit_123
                  · subst ee18_
                    refine j_if_eq E 102 106 rfl (rr (by decide)) dX10_suit_99 (by decide) (fun _ => ?_) (fun cc80_ => absurd cc80_ (by decide))
                    refine j_iconst E 107 rfl dX10_suit_106 ?_
                    refine j_iload E 109 rfl dX10_suit_107 (lv_at hl 6 rfl) ?_
                    refine j_aload_n E 110 rfl dX10_suit_109 rfl (lv_at hl 0 rfl) ?_
                    refine m_ag_5 E hK hw 113 rfl dX10_suit_110 ?_
                    refine j_iload_n E 114 rfl dX10_suit_113 rfl (lv_at hl 2 rfl) ?_
                    refine m_ld_5 E hK hw (f_0 5 v_r) rfl (by omega) 115 rfl dX10_suit_114 (fun _ => ?_)
                    refine j_isub E 116 rfl dX10_suit_115 ?_
                    refine m_calli E (c4_X10_takesFacts l D cy q (upN n_0 0 0) (f_0) v_harm v_witnesses ((n_0 1) - v_deed) 0 (v_deed - (f_0 5 v_r))  r_v_harm r_v_witnesses (rr (by omega)) (rr (by decide)) (rr (by omega)) ) rfl mt_X10_takesFacts ml_X10_323 hK hw hA ⟨Nat.le_of_ble_eq_true rfl, Nat.le_of_ble_eq_true rfl⟩ (As := [.int (J v_harm), .int (J v_witnesses), .int (J ((n_0 1) - v_deed)), .int (J 0), .int (J (v_deed - (f_0 5 v_r)))]) (rest := []) rfl rfl hl.1 (Nat.le_of_ble_eq_true rfl) 119 rfl dX10_suit_116 (fun zz81_ n_81 f_81 H locs rr81_ hq81_ hw => ?_)
                    obtain ⟨y45_81, en81_, ef81_, hq81_⟩ := hq81_
                    rw [en81_, ef81_] at hw; clear en81_ ef81_
                    have hw : WM D cy q (upN n_0 0 0) (upF f_0 45 y45_81) A0 H0 H locs := hw
                    have hh81_ : (zz81_ = 1 ∧ 0 ≤ v_harm ∧ v_harm ≤ 99 ∧ 0 ≤ v_witnesses ∧ v_witnesses ≤ 9 ∧ 0 ≤ ((n_0 1) - v_deed) ∧ ((n_0 1) - v_deed) ≤ 299 ∧ 0 ≤ (0 : Int) ∧ (0 : Int) ≤ 1 ∧ -99 ≤ (v_deed - (f_0 5 v_r)) ∧ (v_deed - (f_0 5 v_r)) ≤ 299) ∨ (zz81_ = 0 ∧ ¬ (0 ≤ v_harm ∧ v_harm ≤ 99 ∧ 0 ≤ v_witnesses ∧ v_witnesses ≤ 9 ∧ 0 ≤ ((n_0 1) - v_deed) ∧ ((n_0 1) - v_deed) ≤ 299 ∧ 0 ≤ (0 : Int) ∧ (0 : Int) ≤ 1 ∧ -99 ≤ (v_deed - (f_0 5 v_r)) ∧ (v_deed - (f_0 5 v_r)) ≤ 299)) := hq81_
                    clear hq81_
                    rcases hh81_ with ⟨ee81_, hh81_⟩ | ⟨ee81_, hh81_⟩
                    · subst ee81_
                      refine j_if_ne E 122 124 rfl (rr (by decide)) dX10_suit_119 (by decide) (fun _ => ?_) (fun cc82_ => absurd cc82_ (by decide))
                      refine j_aload_n E 125 rfl dX10_suit_124 rfl (lv_at hl 0 rfl) ?_
                      refine j_iload_n E 126 rfl dX10_suit_125 rfl (lv_at hl 3 rfl) ?_
                      refine j_aload_n E 127 rfl dX10_suit_126 rfl (lv_at hl 0 rfl) ?_
                      refine m_get_1 E hK hw (n_0 1) rfl 130 rfl dX10_suit_127 (fun _ => ?_)
                      refine j_iconst E 131 rfl dX10_suit_130 ?_
                      refine j_isub E 132 rfl dX10_suit_131 ?_
                      refine j_iconst E 133 rfl dX10_suit_132 ?_
                      refine m_calli E (c_X10_owedBy l D cy q (upN n_0 0 0) (upF f_0 45 y45_81) v_x ((n_0 1) - 1) 0  r_v_x (rr (by omega)) (rr (by decide)) (show 0 ≤ v_x ∧ v_x < (n_0 12) from by omega) (show ((n_0 1) - 1) < 200 from by omega) (show 0 ≤ (n_0 29) ∧ (n_0 29) ≤ 32 from by omega) (show 0 ≤ (n_0 12) ∧ (n_0 12) ≤ 24 from by omega) (show Said_ (f_0 18) (n_0 12) (n_0 29) from i_said) (show Book_ (f_0 67) (n_0 12) (n_0 29) from i_book) (show Cod_ (f_0 32) (f_0 33) (f_0 34) (f_0 35) (f_0 36) (n_0 29) from i_cod)) rfl mt_X10_owedBy ml_X10_327 hK hw hA ⟨Nat.le_of_ble_eq_true rfl, Nat.le_of_ble_eq_true rfl⟩ (As := [.int (J v_x), .int (J ((n_0 1) - 1)), .int (J 0)]) (rest := []) rfl rfl hl.1 (Nat.le_of_ble_eq_true rfl) 136 rfl dX10_suit_133 (fun zz83_ n_83 f_83 H locs rr83_ hq83_ hw => ?_)
                      obtain ⟨y46_83, y47_83, en83_, ef83_, hq83_⟩ := hq83_
                      rw [en83_, ef83_] at hw; clear en83_ ef83_
                      have hw : WM D cy q (upN n_0 0 0) (upF (upF (upF f_0 45 y45_81) 46 y46_83) 47 y47_83) A0 H0 H locs := hw
                      have hh83_ : True := hq83_
                      clear hq83_
                      refine j_istore E 138 rfl [(7, .int (J zz83_)), (0, .ref (q 0)), (1, .int (J v_p)), (2, .int (J v_r)), (3, .int (J v_x)), (4, .int (J v_harm)), (5, .int (J v_witnesses)), (6, .int (J v_deed))] dX10_suit_136 hl (by decide) rfl (fun ls hl => ?_)
                      refine j_aload_n E 139 rfl dX10_suit_138 rfl (lv_at hl 1 rfl) ?_
                      refine m_ag_49 E hK hw 142 rfl dX10_suit_139 ?_
                      refine j_aload_n E 143 rfl dX10_suit_142 rfl (lv_at hl 1 rfl) ?_
                      refine m_get_48 E hK hw (n_0 48) rfl 146 rfl dX10_suit_143 (fun _ => ?_)
                      refine j_iload_n E 147 rfl dX10_suit_146 rfl (lv_at hl 2 rfl) ?_
                      refine m_st_49 E hK hw (by omega) r_v_p 148 rfl dX10_suit_147 (fun H locs hw => ?_)
                      have hw : WM D cy q (upN n_0 0 0) (upF (upF (upF (upF f_0 45 y45_81) 46 y46_83) 47 y47_83) 49 (upA (f_0 49) (n_0 48) v_p)) A0 H0 H locs := hw
                      refine j_aload_n E 149 rfl dX10_suit_148 rfl (lv_at hl 1 rfl) ?_
                      refine m_ag_50 E hK hw 152 rfl dX10_suit_149 ?_
                      refine j_aload_n E 153 rfl dX10_suit_152 rfl (lv_at hl 1 rfl) ?_
                      refine m_get_48 E hK hw (n_0 48) rfl 156 rfl dX10_suit_153 (fun _ => ?_)
                      refine j_iload_n E 157 rfl dX10_suit_156 rfl (lv_at hl 3 rfl) ?_
                      refine m_st_50 E hK hw (by omega) r_v_r 158 rfl dX10_suit_157 (fun H locs hw => ?_)
                      have hw : WM D cy q (upN n_0 0 0) (upF (upF (upF (upF (upF f_0 45 y45_81) 46 y46_83) 47 y47_83) 49 (upA (f_0 49) (n_0 48) v_p)) 50 (upA (f_0 50) (n_0 48) v_r)) A0 H0 H locs := hw
                      refine j_aload_n E 159 rfl dX10_suit_158 rfl (lv_at hl 1 rfl) ?_
                      refine m_ag_51 E hK hw 162 rfl dX10_suit_159 ?_
                      refine j_aload_n E 163 rfl dX10_suit_162 rfl (lv_at hl 1 rfl) ?_
                      refine m_get_48 E hK hw (n_0 48) rfl 166 rfl dX10_suit_163 (fun _ => ?_)
                      refine j_iload_n E 167 rfl dX10_suit_166 rfl (lv_at hl 4 rfl) ?_
                      refine m_st_51 E hK hw (by omega) r_v_x 168 rfl dX10_suit_167 (fun H locs hw => ?_)
                      have hw : WM D cy q (upN n_0 0 0) (upF (upF (upF (upF (upF (upF f_0 45 y45_81) 46 y46_83) 47 y47_83) 49 (upA (f_0 49) (n_0 48) v_p)) 50 (upA (f_0 50) (n_0 48) v_r)) 51 (upA (f_0 51) (n_0 48) v_x)) A0 H0 H locs := hw
                      refine j_aload_n E 169 rfl dX10_suit_168 rfl (lv_at hl 1 rfl) ?_
                      refine m_ag_52 E hK hw 172 rfl dX10_suit_169 ?_
                      refine j_aload_n E 173 rfl dX10_suit_172 rfl (lv_at hl 1 rfl) ?_
                      refine m_get_48 E hK hw (n_0 48) rfl 176 rfl dX10_suit_173 (fun _ => ?_)
                      refine j_iload E 178 rfl dX10_suit_176 (lv_at hl 0 rfl) ?_
                      refine m_st_52 E hK hw (by omega) rr83_ 179 rfl dX10_suit_178 (fun H locs hw => ?_)
                      have hw : WM D cy q (upN n_0 0 0) (upF (upF (upF (upF (upF (upF (upF f_0 45 y45_81) 46 y46_83) 47 y47_83) 49 (upA (f_0 49) (n_0 48) v_p)) 50 (upA (f_0 50) (n_0 48) v_r)) 51 (upA (f_0 51) (n_0 48) v_x)) 52 (upA (f_0 52) (n_0 48) zz83_)) A0 H0 H locs := hw
                      refine j_aload_n E 180 rfl dX10_suit_179 rfl (lv_at hl 1 rfl) ?_
                      refine m_ag_53 E hK hw 183 rfl dX10_suit_180 ?_
                      refine j_aload_n E 184 rfl dX10_suit_183 rfl (lv_at hl 1 rfl) ?_
                      refine m_get_48 E hK hw (n_0 48) rfl 187 rfl dX10_suit_184 (fun _ => ?_)
                      refine j_aload_n E 188 rfl dX10_suit_187 rfl (lv_at hl 1 rfl) ?_
                      refine m_get_1 E hK hw (n_0 1) rfl 191 rfl dX10_suit_188 (fun _ => ?_)
                      refine m_st_53 E hK hw (by omega) rr9_ 192 rfl dX10_suit_191 (fun H locs hw => ?_)
                      have hw : WM D cy q (upN n_0 0 0) (upF (upF (upF (upF (upF (upF (upF (upF f_0 45 y45_81) 46 y46_83) 47 y47_83) 49 (upA (f_0 49) (n_0 48) v_p)) 50 (upA (f_0 50) (n_0 48) v_r)) 51 (upA (f_0 51) (n_0 48) v_x)) 52 (upA (f_0 52) (n_0 48) zz83_)) 53 (upA (f_0 53) (n_0 48) (n_0 1))) A0 H0 H locs := hw
                      refine j_aload_n E 193 rfl dX10_suit_192 rfl (lv_at hl 1 rfl) ?_
                      refine m_ag_54 E hK hw 196 rfl dX10_suit_193 ?_
                      refine j_aload_n E 197 rfl dX10_suit_196 rfl (lv_at hl 1 rfl) ?_
                      refine m_get_48 E hK hw (n_0 48) rfl 200 rfl dX10_suit_197 (fun _ => ?_)
                      refine j_iconst E 201 rfl dX10_suit_200 ?_
                      refine m_st_54 E hK hw (by omega) (rr (by decide)) (Or.inl rfl) 202 rfl dX10_suit_201 (fun H locs hw => ?_)
                      have hw : WM D cy q (upN n_0 0 0) (upF (upF (upF (upF (upF (upF (upF (upF (upF f_0 45 y45_81) 46 y46_83) 47 y47_83) 49 (upA (f_0 49) (n_0 48) v_p)) 50 (upA (f_0 50) (n_0 48) v_r)) 51 (upA (f_0 51) (n_0 48) v_x)) 52 (upA (f_0 52) (n_0 48) zz83_)) 53 (upA (f_0 53) (n_0 48) (n_0 1))) 54 (upA (f_0 54) (n_0 48) 0)) A0 H0 H locs := hw
                      refine j_iconst E 203 rfl dX10_suit_202 ?_
                      refine j_istore E 205 rfl [(8, .int (J 0)), (7, .int (J zz83_)), (0, .ref (q 0)), (1, .int (J v_p)), (2, .int (J v_r)), (3, .int (J v_x)), (4, .int (J v_harm)), (5, .int (J v_witnesses)), (6, .int (J v_deed))] dX10_suit_203 hl (by decide) rfl (fun ls hl => ?_)
                      refine j_iconst E 206 rfl dX10_suit_205 ?_
                      refine j_istore E 208 rfl [(9, .int (J 0)), (8, .int (J 0)), (7, .int (J zz83_)), (0, .ref (q 0)), (1, .int (J v_p)), (2, .int (J v_r)), (3, .int (J v_x)), (4, .int (J v_harm)), (5, .int (J v_witnesses)), (6, .int (J v_deed))] dX10_suit_206 hl (by decide) rfl (fun ls hl => ?_)
                      have L208_90 : ∀ (k208 : Nat) (gc gr : Int) (H : Heap) (locs : List Loc) (ls : Array Slot), inR gc → inR gr → (0 ≤ gr ∧ gr ≤ 24 ∧ 0 ≤ gc ∧ gc ≤ gr) → (24 - gr) < (k208 : Int) → WM D cy q (upN n_0 0 0) (upF (upF (upF (upF (upF (upF (upF (upF (upF f_0 45 y45_81) 46 y46_83) 47 y47_83) 49 (upA (f_0 49) (n_0 48) v_p)) 50 (upA (f_0 50) (n_0 48) v_r)) 51 (upA (f_0 51) (n_0 48) v_x)) 52 (upA (f_0 52) (n_0 48) zz83_)) 53 (upA (f_0 53) (n_0 48) (n_0 1))) 54 (upA (f_0 54) (n_0 48) 0)) A0 H0 H locs → lv_has ls 11 [(0, .ref (q 0)), (1, .int (J v_p)), (2, .int (J v_r)), (3, .int (J v_x)), (4, .int (J v_harm)), (5, .int (J v_witnesses)), (6, .int (J v_deed)), (7, .int (J zz83_)), (8, .int (J gc)), (9, .int (J gr))] → W p l e (rmd 4 0 0) s m ar below meth c H locs 0 0 QW (F0 m 208 ls []) := by
                        intro k208
                        induction k208 with
                        | zero =>
                          intro gc gr H locs ls r_gc r_gr iv208 ms208 hw hl
                          exfalso; omega
                        | succ k208 ih208 =>
                          intro gc gr H locs ls r_gc r_gr iv208 ms208 hw hl
                          refine j_iload E 210 rfl dX10_suit_208 (lv_at hl 9 rfl) ?_
                          refine j_aload_n E 211 rfl dX10_suit_210 rfl (lv_at hl 0 rfl) ?_
                          refine m_get_2 E hK hw (n_0 2) rfl 214 rfl dX10_suit_211 (fun rr92_ => ?_)
                          refine j_icmp_ge E 217 254 rfl r_gr rr92_ dX10_suit_214 (by decide) (fun cc93_ => ?_) (fun cc93_ => ?_)
                          · refine j_iload E 256 rfl dX10_suit_254 (lv_at hl 8 rfl) ?_
                            refine j_if_ne E 259 263 rfl r_gc dX10_suit_256 (by decide) (fun cc94_ => ?_) (fun cc94_ => ?_)
                            · refine j_iload E 265 rfl dX10_suit_263 (lv_at hl 7 rfl) ?_
                              refine j_iconst E 266 rfl dX10_suit_265 ?_
                              refine j_idiv E 267 rfl dX10_suit_266 (by decide +kernel) (fun zz95_ rr95_ ee95_ => ?_)
                              refine j_iload E 269 rfl dX10_suit_267 (lv_at hl 8 rfl) ?_
                              refine j_idiv E 270 rfl dX10_suit_269 (fun h => absurd ((J_inj r_gc inR0).mp (h.trans J_0.symm)) (by omega)) (fun zz96_ rr96_ ee96_ => ?_)
                              refine j_istore E 272 rfl [(9, .int (J zz96_)), (0, .ref (q 0)), (1, .int (J v_p)), (2, .int (J v_r)), (3, .int (J v_x)), (4, .int (J v_harm)), (5, .int (J v_witnesses)), (6, .int (J v_deed)), (7, .int (J zz83_)), (8, .int (J gc))] dX10_suit_270 hl (by decide) rfl (fun ls hl => ?_)
                              refine j_iconst E 273 rfl dX10_suit_272 ?_
                              refine j_istore E 275 rfl [(10, .int (J 0)), (9, .int (J zz96_)), (0, .ref (q 0)), (1, .int (J v_p)), (2, .int (J v_r)), (3, .int (J v_x)), (4, .int (J v_harm)), (5, .int (J v_witnesses)), (6, .int (J v_deed)), (7, .int (J zz83_)), (8, .int (J gc))] dX10_suit_273 hl (by decide) rfl (fun ls hl => ?_)
                              have L275_97 : ∀ (k275 : Nat) (gq : Int) (y55_c275 : Int → Int) (H : Heap) (locs : List Loc) (ls : Array Slot), inR gq → (0 ≤ gq ∧ gq ≤ 24) → (24 - gq) < (k275 : Int) → WM D cy q (upN n_0 0 0) (upF (upF (upF (upF (upF (upF (upF (upF (upF (upF f_0 45 y45_81) 46 y46_83) 47 y47_83) 49 (upA (f_0 49) (n_0 48) v_p)) 50 (upA (f_0 50) (n_0 48) v_r)) 51 (upA (f_0 51) (n_0 48) v_x)) 52 (upA (f_0 52) (n_0 48) zz83_)) 53 (upA (f_0 53) (n_0 48) (n_0 1))) 54 (upA (f_0 54) (n_0 48) 0)) 55 y55_c275) A0 H0 H locs → lv_has ls 11 [(0, .ref (q 0)), (1, .int (J v_p)), (2, .int (J v_r)), (3, .int (J v_x)), (4, .int (J v_harm)), (5, .int (J v_witnesses)), (6, .int (J v_deed)), (7, .int (J zz83_)), (8, .int (J gc)), (9, .int (J zz96_)), (10, .int (J gq))] → W p l e (rmd 4 0 0) s m ar below meth c H locs 0 0 QW (F0 m 275 ls []) := by
                                intro k275
                                induction k275 with
                                | zero =>
                                  intro gq y55_c275 H locs ls r_gq iv275 ms275 hw hl
                                  exfalso; omega
                                | succ k275 ih275 =>
                                  intro gq y55_c275 H locs ls r_gq iv275 ms275 hw hl
                                  refine j_iload E 277 rfl dX10_suit_275 (lv_at hl 10 rfl) ?_
                                  refine j_bipush E 279 rfl dX10_suit_277 (by decide) ?_
                                  refine j_icmp_ge E 282 334 rfl r_gq (rr (by decide)) dX10_suit_279 (by decide) (fun cc99_ => ?_) (fun cc99_ => ?_)
                                  · refine j_aload_n E 335 rfl dX10_suit_334 rfl (lv_at hl 0 rfl) ?_
                                    refine m_ag_55 E hK hw 338 rfl dX10_suit_335 ?_
                                    refine j_bipush E 340 rfl dX10_suit_338 (by decide) ?_
                                    refine j_aload_n E 341 rfl dX10_suit_340 rfl (lv_at hl 0 rfl) ?_
                                    refine m_get_48 E hK hw (n_0 48) rfl 344 rfl dX10_suit_341 (fun _ => ?_)
                                    refine j_imul E 345 rfl dX10_suit_344 ?_
                                    refine j_iload_n E 346 rfl dX10_suit_345 rfl (lv_at hl 1 rfl) ?_
                                    refine j_iadd E 347 rfl dX10_suit_346 ?_
                                    refine j_iload E 349 rfl dX10_suit_347 (lv_at hl 7 rfl) ?_
                                    refine j_iload E 351 rfl dX10_suit_349 (lv_at hl 9 rfl) ?_
                                    refine j_iload E 353 rfl dX10_suit_351 (lv_at hl 8 rfl) ?_
                                    refine j_imul E 354 rfl dX10_suit_353 ?_
                                    refine j_isub E 355 rfl dX10_suit_354 ?_
                                    refine j_norm (fun zz100_ rr100_ ee100_ => ?_)
                                    refine m_st_55 E hK hw (by omega) rr100_ 356 rfl dX10_suit_355 (fun H locs hw => ?_)
                                    have hw : WM D cy q (upN n_0 0 0) (upF (upF (upF (upF (upF (upF (upF (upF (upF (upF f_0 45 y45_81) 46 y46_83) 47 y47_83) 49 (upA (f_0 49) (n_0 48) v_p)) 50 (upA (f_0 50) (n_0 48) v_r)) 51 (upA (f_0 51) (n_0 48) v_x)) 52 (upA (f_0 52) (n_0 48) zz83_)) 53 (upA (f_0 53) (n_0 48) (n_0 1))) 54 (upA (f_0 54) (n_0 48) 0)) 55 (upA (y55_c275) ((24 * (n_0 48)) + v_p) zz100_)) A0 H0 H locs := hw
                                    refine j_aload_n E 357 rfl dX10_suit_356 rfl (lv_at hl 0 rfl) ?_
                                    refine j_aload_n E 358 rfl dX10_suit_357 rfl (lv_at hl 0 rfl) ?_
                                    refine m_get_48 E hK hw (n_0 48) rfl 361 rfl dX10_suit_358 (fun _ => ?_)
                                    refine j_iconst E 362 rfl dX10_suit_361 ?_
                                    refine j_iadd E 363 rfl dX10_suit_362 ?_
                                    refine m_put_48 E hK hw (rr (by omega)) 366 rfl dX10_suit_363 (fun H locs hw => ?_)
                                    have hw : WM D cy q (upN (upN n_0 0 0) 48 ((n_0 48) + 1)) (upF (upF (upF (upF (upF (upF (upF (upF (upF (upF f_0 45 y45_81) 46 y46_83) 47 y47_83) 49 (upA (f_0 49) (n_0 48) v_p)) 50 (upA (f_0 50) (n_0 48) v_r)) 51 (upA (f_0 51) (n_0 48) v_x)) 52 (upA (f_0 52) (n_0 48) zz83_)) 53 (upA (f_0 53) (n_0 48) (n_0 1))) 54 (upA (f_0 54) (n_0 48) 0)) 55 (upA (y55_c275) ((24 * (n_0 48)) + v_p) zz100_)) A0 H0 H locs := hw
                                    refine j_aload_n E 367 rfl dX10_suit_366 rfl (lv_at hl 0 rfl) ?_
                                    refine m_get_48 E hK hw ((n_0 48) + 1) rfl 370 rfl dX10_suit_367 (fun rr103_ => ?_)
                                    refine j_iconst E 371 rfl dX10_suit_370 ?_
                                    refine j_isub E 372 rfl dX10_suit_371 ?_
                                    exact hret 372 (((n_0 48) + 1) - 1) (upN (upN n_0 0 0) 48 ((n_0 48) + 1)) (upF (upF (upF (upF (upF (upF (upF (upF (upF (upF f_0 45 y45_81) 46 y46_83) 47 y47_83) 49 (upA (f_0 49) (n_0 48) v_p)) 50 (upA (f_0 50) (n_0 48) v_r)) 51 (upA (f_0 51) (n_0 48) v_x)) 52 (upA (f_0 52) (n_0 48) zz83_)) 53 (upA (f_0 53) (n_0 48) (n_0 1))) 54 (upA (f_0 54) (n_0 48) 0)) 55 (upA (y55_c275) ((24 * (n_0 48)) + v_p) zz100_)) _ _ ls hw (rr (by omega)) ⟨0, ((n_0 48) + 1), y45_81, y46_83, y47_83, (upA (f_0 49) (n_0 48) v_p), (upA (f_0 50) (n_0 48) v_r), (upA (f_0 51) (n_0 48) v_x), (upA (f_0 52) (n_0 48) zz83_), (upA (f_0 53) (n_0 48) (n_0 1)), (upA (f_0 54) (n_0 48) 0), (upA (y55_c275) ((24 * (n_0 48)) + v_p) zz100_), rfl, rfl, ⟨⟨i_now, i_persons, i_lines, i_wordings, i_taped, (show 0 ≤ ((n_0 48) + 1) ∧ ((n_0 48) + 1) ≤ 100 from by omega), i_spk, i_fam, i_str, i_said, i_book, i_wds, i_tok, i_cod, i_far⟩, Or.inr ⟨by omega, by omega, rfl, rfl⟩⟩⟩ dX10_suit_372
                                  · refine j_aload_n E 283 rfl dX10_suit_282 rfl (lv_at hl 0 rfl) ?_
                                    refine m_ag_55 E hK hw 286 rfl dX10_suit_283 ?_
                                    refine j_bipush E 288 rfl dX10_suit_286 (by decide) ?_
                                    refine j_aload_n E 289 rfl dX10_suit_288 rfl (lv_at hl 0 rfl) ?_
                                    refine m_get_48 E hK hw (n_0 48) rfl 292 rfl dX10_suit_289 (fun _ => ?_)
                                    refine j_imul E 293 rfl dX10_suit_292 ?_
                                    refine j_iload E 295 rfl dX10_suit_293 (lv_at hl 10 rfl) ?_
                                    refine j_iadd E 296 rfl dX10_suit_295 ?_
                                    refine j_iload E 298 rfl dX10_suit_296 (lv_at hl 10 rfl) ?_
                                    refine j_iload_n E 299 rfl dX10_suit_298 rfl (lv_at hl 1 rfl) ?_
                                    refine j_icmp_eq E 302 326 rfl r_gq r_v_p dX10_suit_299 (by decide) (fun cc104_ => ?_) (fun cc104_ => ?_)
                                    · refine j_iconst E 327 rfl dX10_suit_326 ?_
                                      refine m_st_55 E hK hw (by omega) (rr (by decide)) 328 rfl dX10_suit_327 (fun H locs hw => ?_)
                                      have hw : WM D cy q (upN n_0 0 0) (upF (upF (upF (upF (upF (upF (upF (upF (upF (upF f_0 45 y45_81) 46 y46_83) 47 y47_83) 49 (upA (f_0 49) (n_0 48) v_p)) 50 (upA (f_0 50) (n_0 48) v_r)) 51 (upA (f_0 51) (n_0 48) v_x)) 52 (upA (f_0 52) (n_0 48) zz83_)) 53 (upA (f_0 53) (n_0 48) (n_0 1))) 54 (upA (f_0 54) (n_0 48) 0)) 55 (upA (y55_c275) ((24 * (n_0 48)) + gq) 0)) A0 H0 H locs := hw
                                      refine j_iinc E 331 rfl [(10, .int (J (gq + 1))), (0, .ref (q 0)), (1, .int (J v_p)), (2, .int (J v_r)), (3, .int (J v_x)), (4, .int (J v_harm)), (5, .int (J v_witnesses)), (6, .int (J v_deed)), (7, .int (J zz83_)), (8, .int (J gc)), (9, .int (J zz96_))] dX10_suit_328 hl (kk := 10) rfl (by decide) rfl (fun ls hl => ?_)
                                      refine j_goto E 275 dX10_suit_331 (by decide) ?_
                                      exact ih275 (gq + 1) (upA (y55_c275) ((24 * (n_0 48)) + gq) 0) H locs ls (rr (by omega)) (by omega) (by omega) hw (lv_sub hl [1, 2, 3, 4, 5, 6, 7, 8, 9, 10, 0] rfl)
                                    · refine j_aload_n E 303 rfl dX10_suit_302 rfl (lv_at hl 0 rfl) ?_
                                      refine j_iload E 305 rfl dX10_suit_303 (lv_at hl 10 rfl) ?_
                                      refine m_callp (po := fun z_0 => (z_0 = 1 ∧ 0 ≤ gq ∧ gq < (n_0 2) ∧ (f_0 6 gq) = -1) ∨ (z_0 = 0 ∧ ¬ (0 ≤ gq ∧ gq < (n_0 2) ∧ (f_0 6 gq) = -1))) E (c_X10_isLiving l D cy q (upN n_0 0 0) (upF (upF (upF (upF (upF (upF (upF (upF (upF (upF f_0 45 y45_81) 46 y46_83) 47 y47_83) 49 (upA (f_0 49) (n_0 48) v_p)) 50 (upA (f_0 50) (n_0 48) v_r)) 51 (upA (f_0 51) (n_0 48) v_x)) 52 (upA (f_0 52) (n_0 48) zz83_)) 53 (upA (f_0 53) (n_0 48) (n_0 1))) 54 (upA (f_0 54) (n_0 48) 0)) 55 y55_c275) gq  r_gq (show (n_0 2) ≤ 24 from by omega)) rfl mt_X10_isLiving ml_X10_176 hK hw hA ⟨Nat.le_of_ble_eq_true rfl, Nat.le_of_ble_eq_true rfl⟩ (As := [.int (J gq)]) (rest := [.int (J ((24 * (n_0 48)) + gq)), .ref (q 55)]) rfl rfl hl.1 (Nat.le_of_ble_eq_true rfl) 308 rfl dX10_suit_305 (fun zz106_ H locs rr106_ hq106_ hw => ?_)
                                      have hh106_ : (zz106_ = 1 ∧ 0 ≤ gq ∧ gq < (n_0 2) ∧ (f_0 6 gq) = -1) ∨ (zz106_ = 0 ∧ ¬ (0 ≤ gq ∧ gq < (n_0 2) ∧ (f_0 6 gq) = -1)) := hq106_
                                      clear hq106_
                                      rcases hh106_ with ⟨ee106_, hh106_⟩ | ⟨ee106_, hh106_⟩
                                      · subst ee106_
                                        refine j_if_eq E 311 326 rfl (rr (by decide)) dX10_suit_308 (by decide) (fun cc107_ => absurd cc107_ (by decide)) (fun _ => ?_)
                                        refine j_aload_n E 312 rfl dX10_suit_311 rfl (lv_at hl 0 rfl) ?_
                                        refine j_iload_n E 313 rfl dX10_suit_312 rfl (lv_at hl 1 rfl) ?_
                                        refine j_iload E 315 rfl dX10_suit_313 (lv_at hl 10 rfl) ?_
                                        refine m_callp (po := fun z_0 => (z_0 = 1 ∧ (f_0 4 v_p) = (f_0 4 gq)) ∨ (z_0 = 0 ∧ ¬ (f_0 4 v_p) = (f_0 4 gq))) E (c_X10_isKin l D cy q (upN n_0 0 0) (upF (upF (upF (upF (upF (upF (upF (upF (upF (upF f_0 45 y45_81) 46 y46_83) 47 y47_83) 49 (upA (f_0 49) (n_0 48) v_p)) 50 (upA (f_0 50) (n_0 48) v_r)) 51 (upA (f_0 51) (n_0 48) v_x)) 52 (upA (f_0 52) (n_0 48) zz83_)) 53 (upA (f_0 53) (n_0 48) (n_0 1))) 54 (upA (f_0 54) (n_0 48) 0)) 55 y55_c275) v_p gq  r_v_p r_gq (show 0 ≤ v_p ∧ v_p < 24 from by omega) (show 0 ≤ gq ∧ gq < 24 from by omega)) rfl mt_X10_isKin ml_X10_334 hK hw hA ⟨Nat.le_of_ble_eq_true rfl, Nat.le_of_ble_eq_true rfl⟩ (As := [.int (J v_p), .int (J gq)]) (rest := [.int (J ((24 * (n_0 48)) + gq)), .ref (q 55)]) rfl rfl hl.1 (Nat.le_of_ble_eq_true rfl) 318 rfl dX10_suit_315 (fun zz108_ H locs rr108_ hq108_ hw => ?_)
                                        have hh108_ : (zz108_ = 1 ∧ (f_0 4 v_p) = (f_0 4 gq)) ∨ (zz108_ = 0 ∧ ¬ (f_0 4 v_p) = (f_0 4 gq)) := hq108_
                                        clear hq108_
                                        rcases hh108_ with ⟨ee108_, hh108_⟩ | ⟨ee108_, hh108_⟩
                                        · subst ee108_
                                          refine j_if_eq E 321 326 rfl (rr (by decide)) dX10_suit_318 (by decide) (fun cc109_ => absurd cc109_ (by decide)) (fun _ => ?_)
                                          refine j_iload E 323 rfl dX10_suit_321 (lv_at hl 9 rfl) ?_
                                          refine j_goto E 327 dX10_suit_323 (by decide) ?_
                                          refine m_st_55 E hK hw (by omega) rr96_ 328 rfl dX10_suit_327 (fun H locs hw => ?_)
                                          have hw : WM D cy q (upN n_0 0 0) (upF (upF (upF (upF (upF (upF (upF (upF (upF (upF f_0 45 y45_81) 46 y46_83) 47 y47_83) 49 (upA (f_0 49) (n_0 48) v_p)) 50 (upA (f_0 50) (n_0 48) v_r)) 51 (upA (f_0 51) (n_0 48) v_x)) 52 (upA (f_0 52) (n_0 48) zz83_)) 53 (upA (f_0 53) (n_0 48) (n_0 1))) 54 (upA (f_0 54) (n_0 48) 0)) 55 (upA (y55_c275) ((24 * (n_0 48)) + gq) zz96_)) A0 H0 H locs := hw
                                          refine j_iinc E 331 rfl [(10, .int (J (gq + 1))), (0, .ref (q 0)), (1, .int (J v_p)), (2, .int (J v_r)), (3, .int (J v_x)), (4, .int (J v_harm)), (5, .int (J v_witnesses)), (6, .int (J v_deed)), (7, .int (J zz83_)), (8, .int (J gc)), (9, .int (J zz96_))] dX10_suit_328 hl (kk := 10) rfl (by decide) rfl (fun ls hl => ?_)
                                          refine j_goto E 275 dX10_suit_331 (by decide) ?_
                                          exact ih275 (gq + 1) (upA (y55_c275) ((24 * (n_0 48)) + gq) zz96_) H locs ls (rr (by omega)) (by omega) (by omega) hw (lv_sub hl [1, 2, 3, 4, 5, 6, 7, 8, 9, 10, 0] rfl)
                                        · subst ee108_
                                          refine j_if_eq E 321 326 rfl (rr (by decide)) dX10_suit_318 (by decide) (fun _ => ?_) (fun cc111_ => absurd cc111_ (by decide))
                                          refine j_iconst E 327 rfl dX10_suit_326 ?_
                                          refine m_st_55 E hK hw (by omega) (rr (by decide)) 328 rfl dX10_suit_327 (fun H locs hw => ?_)
                                          have hw : WM D cy q (upN n_0 0 0) (upF (upF (upF (upF (upF (upF (upF (upF (upF (upF f_0 45 y45_81) 46 y46_83) 47 y47_83) 49 (upA (f_0 49) (n_0 48) v_p)) 50 (upA (f_0 50) (n_0 48) v_r)) 51 (upA (f_0 51) (n_0 48) v_x)) 52 (upA (f_0 52) (n_0 48) zz83_)) 53 (upA (f_0 53) (n_0 48) (n_0 1))) 54 (upA (f_0 54) (n_0 48) 0)) 55 (upA (y55_c275) ((24 * (n_0 48)) + gq) 0)) A0 H0 H locs := hw
                                          refine j_iinc E 331 rfl [(10, .int (J (gq + 1))), (0, .ref (q 0)), (1, .int (J v_p)), (2, .int (J v_r)), (3, .int (J v_x)), (4, .int (J v_harm)), (5, .int (J v_witnesses)), (6, .int (J v_deed)), (7, .int (J zz83_)), (8, .int (J gc)), (9, .int (J zz96_))] dX10_suit_328 hl (kk := 10) rfl (by decide) rfl (fun ls hl => ?_)
                                          refine j_goto E 275 dX10_suit_331 (by decide) ?_
                                          exact ih275 (gq + 1) (upA (y55_c275) ((24 * (n_0 48)) + gq) 0) H locs ls (rr (by omega)) (by omega) (by omega) hw (lv_sub hl [1, 2, 3, 4, 5, 6, 7, 8, 9, 10, 0] rfl)
                                      · subst ee106_
                                        refine j_if_eq E 311 326 rfl (rr (by decide)) dX10_suit_308 (by decide) (fun _ => ?_) (fun cc113_ => absurd cc113_ (by decide))
                                        refine j_iconst E 327 rfl dX10_suit_326 ?_
                                        refine m_st_55 E hK hw (by omega) (rr (by decide)) 328 rfl dX10_suit_327 (fun H locs hw => ?_)
                                        have hw : WM D cy q (upN n_0 0 0) (upF (upF (upF (upF (upF (upF (upF (upF (upF (upF f_0 45 y45_81) 46 y46_83) 47 y47_83) 49 (upA (f_0 49) (n_0 48) v_p)) 50 (upA (f_0 50) (n_0 48) v_r)) 51 (upA (f_0 51) (n_0 48) v_x)) 52 (upA (f_0 52) (n_0 48) zz83_)) 53 (upA (f_0 53) (n_0 48) (n_0 1))) 54 (upA (f_0 54) (n_0 48) 0)) 55 (upA (y55_c275) ((24 * (n_0 48)) + gq) 0)) A0 H0 H locs := hw
                                        refine j_iinc E 331 rfl [(10, .int (J (gq + 1))), (0, .ref (q 0)), (1, .int (J v_p)), (2, .int (J v_r)), (3, .int (J v_x)), (4, .int (J v_harm)), (5, .int (J v_witnesses)), (6, .int (J v_deed)), (7, .int (J zz83_)), (8, .int (J gc)), (9, .int (J zz96_))] dX10_suit_328 hl (kk := 10) rfl (by decide) rfl (fun ls hl => ?_)
                                        refine j_goto E 275 dX10_suit_331 (by decide) ?_
                                        exact ih275 (gq + 1) (upA (y55_c275) ((24 * (n_0 48)) + gq) 0) H locs ls (rr (by omega)) (by omega) (by omega) hw (lv_sub hl [1, 2, 3, 4, 5, 6, 7, 8, 9, 10, 0] rfl)
                              exact L275_97 _ 0 (f_0 55) H locs ls (rr (by decide)) (by omega) (mk_lt _) hw (lv_sub hl [2, 3, 4, 5, 6, 7, 8, 9, 10, 1, 0] rfl)
                            · refine j_iconst E 260 rfl dX10_suit_259 ?_
                              refine j_goto E 270 dX10_suit_260 (by decide) ?_
                              refine j_istore E 272 rfl [(9, .int (J 0)), (0, .ref (q 0)), (1, .int (J v_p)), (2, .int (J v_r)), (3, .int (J v_x)), (4, .int (J v_harm)), (5, .int (J v_witnesses)), (6, .int (J v_deed)), (7, .int (J zz83_)), (8, .int (J gc))] dX10_suit_270 hl (by decide) rfl (fun ls hl => ?_)
                              refine j_iconst E 273 rfl dX10_suit_272 ?_
                              refine j_istore E 275 rfl [(10, .int (J 0)), (9, .int (J 0)), (0, .ref (q 0)), (1, .int (J v_p)), (2, .int (J v_r)), (3, .int (J v_x)), (4, .int (J v_harm)), (5, .int (J v_witnesses)), (6, .int (J v_deed)), (7, .int (J zz83_)), (8, .int (J gc))] dX10_suit_273 hl (by decide) rfl (fun ls hl => ?_)
                              have L275_115 : ∀ (k275 : Nat) (gq : Int) (y55_c275 : Int → Int) (H : Heap) (locs : List Loc) (ls : Array Slot), inR gq → (0 ≤ gq ∧ gq ≤ 24) → (24 - gq) < (k275 : Int) → WM D cy q (upN n_0 0 0) (upF (upF (upF (upF (upF (upF (upF (upF (upF (upF f_0 45 y45_81) 46 y46_83) 47 y47_83) 49 (upA (f_0 49) (n_0 48) v_p)) 50 (upA (f_0 50) (n_0 48) v_r)) 51 (upA (f_0 51) (n_0 48) v_x)) 52 (upA (f_0 52) (n_0 48) zz83_)) 53 (upA (f_0 53) (n_0 48) (n_0 1))) 54 (upA (f_0 54) (n_0 48) 0)) 55 y55_c275) A0 H0 H locs → lv_has ls 11 [(0, .ref (q 0)), (1, .int (J v_p)), (2, .int (J v_r)), (3, .int (J v_x)), (4, .int (J v_harm)), (5, .int (J v_witnesses)), (6, .int (J v_deed)), (7, .int (J zz83_)), (8, .int (J gc)), (9, .int (J 0)), (10, .int (J gq))] → W p l e (rmd 4 0 0) s m ar below meth c H locs 0 0 QW (F0 m 275 ls []) := by
                                intro k275
                                induction k275 with
                                | zero =>
                                  intro gq y55_c275 H locs ls r_gq iv275 ms275 hw hl
                                  exfalso; omega
                                | succ k275 ih275 =>
                                  intro gq y55_c275 H locs ls r_gq iv275 ms275 hw hl
                                  refine j_iload E 277 rfl dX10_suit_275 (lv_at hl 10 rfl) ?_
                                  refine j_bipush E 279 rfl dX10_suit_277 (by decide) ?_
                                  refine j_icmp_ge E 282 334 rfl r_gq (rr (by decide)) dX10_suit_279 (by decide) (fun cc117_ => ?_) (fun cc117_ => ?_)
                                  · refine j_aload_n E 335 rfl dX10_suit_334 rfl (lv_at hl 0 rfl) ?_
                                    refine m_ag_55 E hK hw 338 rfl dX10_suit_335 ?_
                                    refine j_bipush E 340 rfl dX10_suit_338 (by decide) ?_
                                    refine j_aload_n E 341 rfl dX10_suit_340 rfl (lv_at hl 0 rfl) ?_
                                    refine m_get_48 E hK hw (n_0 48) rfl 344 rfl dX10_suit_341 (fun _ => ?_)
                                    refine j_imul E 345 rfl dX10_suit_344 ?_
                                    refine j_iload_n E 346 rfl dX10_suit_345 rfl (lv_at hl 1 rfl) ?_
                                    refine j_iadd E 347 rfl dX10_suit_346 ?_
                                    refine j_iload E 349 rfl dX10_suit_347 (lv_at hl 7 rfl) ?_
                                    refine j_iload E 351 rfl dX10_suit_349 (lv_at hl 9 rfl) ?_
                                    refine j_iload E 353 rfl dX10_suit_351 (lv_at hl 8 rfl) ?_
                                    refine j_imul E 354 rfl dX10_suit_353 ?_
                                    refine j_isub E 355 rfl dX10_suit_354 ?_
                                    refine j_norm (fun zz118_ rr118_ ee118_ => ?_)
                                    refine m_st_55 E hK hw (by omega) rr118_ 356 rfl dX10_suit_355 (fun H locs hw => ?_)
                                    have hw : WM D cy q (upN n_0 0 0) (upF (upF (upF (upF (upF (upF (upF (upF (upF (upF f_0 45 y45_81) 46 y46_83) 47 y47_83) 49 (upA (f_0 49) (n_0 48) v_p)) 50 (upA (f_0 50) (n_0 48) v_r)) 51 (upA (f_0 51) (n_0 48) v_x)) 52 (upA (f_0 52) (n_0 48) zz83_)) 53 (upA (f_0 53) (n_0 48) (n_0 1))) 54 (upA (f_0 54) (n_0 48) 0)) 55 (upA (y55_c275) ((24 * (n_0 48)) + v_p) zz118_)) A0 H0 H locs := hw
                                    refine j_aload_n E 357 rfl dX10_suit_356 rfl (lv_at hl 0 rfl) ?_
                                    refine j_aload_n E 358 rfl dX10_suit_357 rfl (lv_at hl 0 rfl) ?_
                                    refine m_get_48 E hK hw (n_0 48) rfl 361 rfl dX10_suit_358 (fun _ => ?_)
                                    refine j_iconst E 362 rfl dX10_suit_361 ?_
                                    refine j_iadd E 363 rfl dX10_suit_362 ?_
                                    refine m_put_48 E hK hw (rr (by omega)) 366 rfl dX10_suit_363 (fun H locs hw => ?_)
                                    have hw : WM D cy q (upN (upN n_0 0 0) 48 ((n_0 48) + 1)) (upF (upF (upF (upF (upF (upF (upF (upF (upF (upF f_0 45 y45_81) 46 y46_83) 47 y47_83) 49 (upA (f_0 49) (n_0 48) v_p)) 50 (upA (f_0 50) (n_0 48) v_r)) 51 (upA (f_0 51) (n_0 48) v_x)) 52 (upA (f_0 52) (n_0 48) zz83_)) 53 (upA (f_0 53) (n_0 48) (n_0 1))) 54 (upA (f_0 54) (n_0 48) 0)) 55 (upA (y55_c275) ((24 * (n_0 48)) + v_p) zz118_)) A0 H0 H locs := hw
                                    refine j_aload_n E 367 rfl dX10_suit_366 rfl (lv_at hl 0 rfl) ?_
                                    refine m_get_48 E hK hw ((n_0 48) + 1) rfl 370 rfl dX10_suit_367 (fun rr121_ => ?_)
                                    refine j_iconst E 371 rfl dX10_suit_370 ?_
                                    refine j_isub E 372 rfl dX10_suit_371 ?_
                                    exact hret 372 (((n_0 48) + 1) - 1) (upN (upN n_0 0 0) 48 ((n_0 48) + 1)) (upF (upF (upF (upF (upF (upF (upF (upF (upF (upF f_0 45 y45_81) 46 y46_83) 47 y47_83) 49 (upA (f_0 49) (n_0 48) v_p)) 50 (upA (f_0 50) (n_0 48) v_r)) 51 (upA (f_0 51) (n_0 48) v_x)) 52 (upA (f_0 52) (n_0 48) zz83_)) 53 (upA (f_0 53) (n_0 48) (n_0 1))) 54 (upA (f_0 54) (n_0 48) 0)) 55 (upA (y55_c275) ((24 * (n_0 48)) + v_p) zz118_)) _ _ ls hw (rr (by omega)) ⟨0, ((n_0 48) + 1), y45_81, y46_83, y47_83, (upA (f_0 49) (n_0 48) v_p), (upA (f_0 50) (n_0 48) v_r), (upA (f_0 51) (n_0 48) v_x), (upA (f_0 52) (n_0 48) zz83_), (upA (f_0 53) (n_0 48) (n_0 1)), (upA (f_0 54) (n_0 48) 0), (upA (y55_c275) ((24 * (n_0 48)) + v_p) zz118_), rfl, rfl, ⟨⟨i_now, i_persons, i_lines, i_wordings, i_taped, (show 0 ≤ ((n_0 48) + 1) ∧ ((n_0 48) + 1) ≤ 100 from by omega), i_spk, i_fam, i_str, i_said, i_book, i_wds, i_tok, i_cod, i_far⟩, Or.inr ⟨by omega, by omega, rfl, rfl⟩⟩⟩ dX10_suit_372
                                  · refine j_aload_n E 283 rfl dX10_suit_282 rfl (lv_at hl 0 rfl) ?_
                                    refine m_ag_55 E hK hw 286 rfl dX10_suit_283 ?_
                                    refine j_bipush E 288 rfl dX10_suit_286 (by decide) ?_
                                    refine j_aload_n E 289 rfl dX10_suit_288 rfl (lv_at hl 0 rfl) ?_
                                    refine m_get_48 E hK hw (n_0 48) rfl 292 rfl dX10_suit_289 (fun _ => ?_)
                                    refine j_imul E 293 rfl dX10_suit_292 ?_
                                    refine j_iload E 295 rfl dX10_suit_293 (lv_at hl 10 rfl) ?_
                                    refine j_iadd E 296 rfl dX10_suit_295 ?_
                                    refine j_iload E 298 rfl dX10_suit_296 (lv_at hl 10 rfl) ?_
                                    refine j_iload_n E 299 rfl dX10_suit_298 rfl (lv_at hl 1 rfl) ?_
                                    refine j_icmp_eq E 302 326 rfl r_gq r_v_p dX10_suit_299 (by decide) (fun cc122_ => ?_) (fun cc122_ => ?_)
                                    · refine j_iconst E 327 rfl dX10_suit_326 ?_
                                      refine m_st_55 E hK hw (by omega) (rr (by decide)) 328 rfl dX10_suit_327 (fun H locs hw => ?_)
                                      have hw : WM D cy q (upN n_0 0 0) (upF (upF (upF (upF (upF (upF (upF (upF (upF (upF f_0 45 y45_81) 46 y46_83) 47 y47_83) 49 (upA (f_0 49) (n_0 48) v_p)) 50 (upA (f_0 50) (n_0 48) v_r)) 51 (upA (f_0 51) (n_0 48) v_x)) 52 (upA (f_0 52) (n_0 48) zz83_)) 53 (upA (f_0 53) (n_0 48) (n_0 1))) 54 (upA (f_0 54) (n_0 48) 0)) 55 (upA (y55_c275) ((24 * (n_0 48)) + gq) 0)) A0 H0 H locs := hw
                                      refine j_iinc E 331 rfl [(10, .int (J (gq + 1))), (0, .ref (q 0)), (1, .int (J v_p)), (2, .int (J v_r)), (3, .int (J v_x)), (4, .int (J v_harm)), (5, .int (J v_witnesses)), (6, .int (J v_deed)), (7, .int (J zz83_)), (8, .int (J gc)), (9, .int (J 0))] dX10_suit_328 hl (kk := 10) rfl (by decide) rfl (fun ls hl => ?_)
                                      refine j_goto E 275 dX10_suit_331 (by decide) ?_
                                      exact ih275 (gq + 1) (upA (y55_c275) ((24 * (n_0 48)) + gq) 0) H locs ls (rr (by omega)) (by omega) (by omega) hw (lv_sub hl [1, 2, 3, 4, 5, 6, 7, 8, 9, 10, 0] rfl)
                                    · refine j_aload_n E 303 rfl dX10_suit_302 rfl (lv_at hl 0 rfl) ?_
                                      refine j_iload E 305 rfl dX10_suit_303 (lv_at hl 10 rfl) ?_
                                      refine m_callp (po := fun z_0 => (z_0 = 1 ∧ 0 ≤ gq ∧ gq < (n_0 2) ∧ (f_0 6 gq) = -1) ∨ (z_0 = 0 ∧ ¬ (0 ≤ gq ∧ gq < (n_0 2) ∧ (f_0 6 gq) = -1))) E (c_X10_isLiving l D cy q (upN n_0 0 0) (upF (upF (upF (upF (upF (upF (upF (upF (upF (upF f_0 45 y45_81) 46 y46_83) 47 y47_83) 49 (upA (f_0 49) (n_0 48) v_p)) 50 (upA (f_0 50) (n_0 48) v_r)) 51 (upA (f_0 51) (n_0 48) v_x)) 52 (upA (f_0 52) (n_0 48) zz83_)) 53 (upA (f_0 53) (n_0 48) (n_0 1))) 54 (upA (f_0 54) (n_0 48) 0)) 55 y55_c275) gq  r_gq (show (n_0 2) ≤ 24 from by omega)) rfl mt_X10_isLiving ml_X10_176 hK hw hA ⟨Nat.le_of_ble_eq_true rfl, Nat.le_of_ble_eq_true rfl⟩ (As := [.int (J gq)]) (rest := [.int (J ((24 * (n_0 48)) + gq)), .ref (q 55)]) rfl rfl hl.1 (Nat.le_of_ble_eq_true rfl) 308 rfl dX10_suit_305 (fun zz124_ H locs rr124_ hq124_ hw => ?_)
                                      have hh124_ : (zz124_ = 1 ∧ 0 ≤ gq ∧ gq < (n_0 2) ∧ (f_0 6 gq) = -1) ∨ (zz124_ = 0 ∧ ¬ (0 ≤ gq ∧ gq < (n_0 2) ∧ (f_0 6 gq) = -1)) := hq124_
                                      clear hq124_
                                      rcases hh124_ with ⟨ee124_, hh124_⟩ | ⟨ee124_, hh124_⟩
                                      · subst ee124_
                                        refine j_if_eq E 311 326 rfl (rr (by decide)) dX10_suit_308 (by decide) (fun cc125_ => absurd cc125_ (by decide)) (fun _ => ?_)
                                        refine j_aload_n E 312 rfl dX10_suit_311 rfl (lv_at hl 0 rfl) ?_
                                        refine j_iload_n E 313 rfl dX10_suit_312 rfl (lv_at hl 1 rfl) ?_
                                        refine j_iload E 315 rfl dX10_suit_313 (lv_at hl 10 rfl) ?_
                                        refine m_callp (po := fun z_0 => (z_0 = 1 ∧ (f_0 4 v_p) = (f_0 4 gq)) ∨ (z_0 = 0 ∧ ¬ (f_0 4 v_p) = (f_0 4 gq))) E (c_X10_isKin l D cy q (upN n_0 0 0) (upF (upF (upF (upF (upF (upF (upF (upF (upF (upF f_0 45 y45_81) 46 y46_83) 47 y47_83) 49 (upA (f_0 49) (n_0 48) v_p)) 50 (upA (f_0 50) (n_0 48) v_r)) 51 (upA (f_0 51) (n_0 48) v_x)) 52 (upA (f_0 52) (n_0 48) zz83_)) 53 (upA (f_0 53) (n_0 48) (n_0 1))) 54 (upA (f_0 54) (n_0 48) 0)) 55 y55_c275) v_p gq  r_v_p r_gq (show 0 ≤ v_p ∧ v_p < 24 from by omega) (show 0 ≤ gq ∧ gq < 24 from by omega)) rfl mt_X10_isKin ml_X10_334 hK hw hA ⟨Nat.le_of_ble_eq_true rfl, Nat.le_of_ble_eq_true rfl⟩ (As := [.int (J v_p), .int (J gq)]) (rest := [.int (J ((24 * (n_0 48)) + gq)), .ref (q 55)]) rfl rfl hl.1 (Nat.le_of_ble_eq_true rfl) 318 rfl dX10_suit_315 (fun zz126_ H locs rr126_ hq126_ hw => ?_)
                                        have hh126_ : (zz126_ = 1 ∧ (f_0 4 v_p) = (f_0 4 gq)) ∨ (zz126_ = 0 ∧ ¬ (f_0 4 v_p) = (f_0 4 gq)) := hq126_
                                        clear hq126_
                                        rcases hh126_ with ⟨ee126_, hh126_⟩ | ⟨ee126_, hh126_⟩
                                        · subst ee126_
                                          refine j_if_eq E 321 326 rfl (rr (by decide)) dX10_suit_318 (by decide) (fun cc127_ => absurd cc127_ (by decide)) (fun _ => ?_)
                                          refine j_iload E 323 rfl dX10_suit_321 (lv_at hl 9 rfl) ?_
                                          refine j_goto E 327 dX10_suit_323 (by decide) ?_
                                          refine m_st_55 E hK hw (by omega) (rr (by decide)) 328 rfl dX10_suit_327 (fun H locs hw => ?_)
                                          have hw : WM D cy q (upN n_0 0 0) (upF (upF (upF (upF (upF (upF (upF (upF (upF (upF f_0 45 y45_81) 46 y46_83) 47 y47_83) 49 (upA (f_0 49) (n_0 48) v_p)) 50 (upA (f_0 50) (n_0 48) v_r)) 51 (upA (f_0 51) (n_0 48) v_x)) 52 (upA (f_0 52) (n_0 48) zz83_)) 53 (upA (f_0 53) (n_0 48) (n_0 1))) 54 (upA (f_0 54) (n_0 48) 0)) 55 (upA (y55_c275) ((24 * (n_0 48)) + gq) 0)) A0 H0 H locs := hw
                                          refine j_iinc E 331 rfl [(10, .int (J (gq + 1))), (0, .ref (q 0)), (1, .int (J v_p)), (2, .int (J v_r)), (3, .int (J v_x)), (4, .int (J v_harm)), (5, .int (J v_witnesses)), (6, .int (J v_deed)), (7, .int (J zz83_)), (8, .int (J gc)), (9, .int (J 0))] dX10_suit_328 hl (kk := 10) rfl (by decide) rfl (fun ls hl => ?_)
                                          refine j_goto E 275 dX10_suit_331 (by decide) ?_
                                          exact ih275 (gq + 1) (upA (y55_c275) ((24 * (n_0 48)) + gq) 0) H locs ls (rr (by omega)) (by omega) (by omega) hw (lv_sub hl [1, 2, 3, 4, 5, 6, 7, 8, 9, 10, 0] rfl)
                                        · subst ee126_
                                          refine j_if_eq E 321 326 rfl (rr (by decide)) dX10_suit_318 (by decide) (fun _ => ?_) (fun cc129_ => absurd cc129_ (by decide))
                                          refine j_iconst E 327 rfl dX10_suit_326 ?_
                                          refine m_st_55 E hK hw (by omega) (rr (by decide)) 328 rfl dX10_suit_327 (fun H locs hw => ?_)
                                          have hw : WM D cy q (upN n_0 0 0) (upF (upF (upF (upF (upF (upF (upF (upF (upF (upF f_0 45 y45_81) 46 y46_83) 47 y47_83) 49 (upA (f_0 49) (n_0 48) v_p)) 50 (upA (f_0 50) (n_0 48) v_r)) 51 (upA (f_0 51) (n_0 48) v_x)) 52 (upA (f_0 52) (n_0 48) zz83_)) 53 (upA (f_0 53) (n_0 48) (n_0 1))) 54 (upA (f_0 54) (n_0 48) 0)) 55 (upA (y55_c275) ((24 * (n_0 48)) + gq) 0)) A0 H0 H locs := hw
                                          refine j_iinc E 331 rfl [(10, .int (J (gq + 1))), (0, .ref (q 0)), (1, .int (J v_p)), (2, .int (J v_r)), (3, .int (J v_x)), (4, .int (J v_harm)), (5, .int (J v_witnesses)), (6, .int (J v_deed)), (7, .int (J zz83_)), (8, .int (J gc)), (9, .int (J 0))] dX10_suit_328 hl (kk := 10) rfl (by decide) rfl (fun ls hl => ?_)
                                          refine j_goto E 275 dX10_suit_331 (by decide) ?_
                                          exact ih275 (gq + 1) (upA (y55_c275) ((24 * (n_0 48)) + gq) 0) H locs ls (rr (by omega)) (by omega) (by omega) hw (lv_sub hl [1, 2, 3, 4, 5, 6, 7, 8, 9, 10, 0] rfl)
                                      · subst ee124_
                                        refine j_if_eq E 311 326 rfl (rr (by decide)) dX10_suit_308 (by decide) (fun _ => ?_) (fun cc131_ => absurd cc131_ (by decide))
                                        refine j_iconst E 327 rfl dX10_suit_326 ?_
                                        refine m_st_55 E hK hw (by omega) (rr (by decide)) 328 rfl dX10_suit_327 (fun H locs hw => ?_)
                                        have hw : WM D cy q (upN n_0 0 0) (upF (upF (upF (upF (upF (upF (upF (upF (upF (upF f_0 45 y45_81) 46 y46_83) 47 y47_83) 49 (upA (f_0 49) (n_0 48) v_p)) 50 (upA (f_0 50) (n_0 48) v_r)) 51 (upA (f_0 51) (n_0 48) v_x)) 52 (upA (f_0 52) (n_0 48) zz83_)) 53 (upA (f_0 53) (n_0 48) (n_0 1))) 54 (upA (f_0 54) (n_0 48) 0)) 55 (upA (y55_c275) ((24 * (n_0 48)) + gq) 0)) A0 H0 H locs := hw
                                        refine j_iinc E 331 rfl [(10, .int (J (gq + 1))), (0, .ref (q 0)), (1, .int (J v_p)), (2, .int (J v_r)), (3, .int (J v_x)), (4, .int (J v_harm)), (5, .int (J v_witnesses)), (6, .int (J v_deed)), (7, .int (J zz83_)), (8, .int (J gc)), (9, .int (J 0))] dX10_suit_328 hl (kk := 10) rfl (by decide) rfl (fun ls hl => ?_)
                                        refine j_goto E 275 dX10_suit_331 (by decide) ?_
                                        exact ih275 (gq + 1) (upA (y55_c275) ((24 * (n_0 48)) + gq) 0) H locs ls (rr (by omega)) (by omega) (by omega) hw (lv_sub hl [1, 2, 3, 4, 5, 6, 7, 8, 9, 10, 0] rfl)
                              exact L275_115 _ 0 (f_0 55) H locs ls (rr (by decide)) (by omega) (mk_lt _) hw (lv_sub hl [2, 3, 4, 5, 6, 7, 8, 9, 10, 1, 0] rfl)
                          · refine j_iload E 219 rfl dX10_suit_217 (lv_at hl 9 rfl) ?_
                            refine j_iload_n E 220 rfl dX10_suit_219 rfl (lv_at hl 1 rfl) ?_
                            refine j_icmp_eq E 223 248 rfl r_gr r_v_p dX10_suit_220 (by decide) (fun cc133_ => ?_) (fun cc133_ => ?_)
                            · refine j_iinc E 251 rfl [(9, .int (J (gr + 1))), (0, .ref (q 0)), (1, .int (J v_p)), (2, .int (J v_r)), (3, .int (J v_x)), (4, .int (J v_harm)), (5, .int (J v_witnesses)), (6, .int (J v_deed)), (7, .int (J zz83_)), (8, .int (J gc))] dX10_suit_248 hl (kk := 9) rfl (by decide) rfl (fun ls hl => ?_)
                              refine j_goto E 208 dX10_suit_251 (by decide) ?_
                              exact ih208 gc (gr + 1) H locs ls r_gc (rr (by omega)) (by omega) (by omega) hw (lv_sub hl [1, 2, 3, 4, 5, 6, 7, 8, 9, 0] rfl)
                            · refine j_aload_n E 224 rfl dX10_suit_223 rfl (lv_at hl 0 rfl) ?_
                              refine j_iload E 226 rfl dX10_suit_224 (lv_at hl 9 rfl) ?_
                              refine m_callp (po := fun z_0 => (z_0 = 1 ∧ 0 ≤ gr ∧ gr < (n_0 2) ∧ (f_0 6 gr) = -1) ∨ (z_0 = 0 ∧ ¬ (0 ≤ gr ∧ gr < (n_0 2) ∧ (f_0 6 gr) = -1))) E (c_X10_isLiving l D cy q (upN n_0 0 0) (upF (upF (upF (upF (upF (upF (upF (upF (upF f_0 45 y45_81) 46 y46_83) 47 y47_83) 49 (upA (f_0 49) (n_0 48) v_p)) 50 (upA (f_0 50) (n_0 48) v_r)) 51 (upA (f_0 51) (n_0 48) v_x)) 52 (upA (f_0 52) (n_0 48) zz83_)) 53 (upA (f_0 53) (n_0 48) (n_0 1))) 54 (upA (f_0 54) (n_0 48) 0)) gr  r_gr (show (n_0 2) ≤ 24 from by omega)) rfl mt_X10_isLiving ml_X10_176 hK hw hA ⟨Nat.le_of_ble_eq_true rfl, Nat.le_of_ble_eq_true rfl⟩ (As := [.int (J gr)]) (rest := []) rfl rfl hl.1 (Nat.le_of_ble_eq_true rfl) 229 rfl dX10_suit_226 (fun zz134_ H locs rr134_ hq134_ hw => ?_)
                              have hh134_ : (zz134_ = 1 ∧ 0 ≤ gr ∧ gr < (n_0 2) ∧ (f_0 6 gr) = -1) ∨ (zz134_ = 0 ∧ ¬ (0 ≤ gr ∧ gr < (n_0 2) ∧ (f_0 6 gr) = -1)) := hq134_
                              clear hq134_
                              rcases hh134_ with ⟨ee134_, hh134_⟩ | ⟨ee134_, hh134_⟩
                              · subst ee134_
                                refine j_if_eq E 232 248 rfl (rr (by decide)) dX10_suit_229 (by decide) (fun cc135_ => absurd cc135_ (by decide)) (fun _ => ?_)
                                refine j_aload_n E 233 rfl dX10_suit_232 rfl (lv_at hl 0 rfl) ?_
                                refine j_iload_n E 234 rfl dX10_suit_233 rfl (lv_at hl 1 rfl) ?_
                                refine j_iload E 236 rfl dX10_suit_234 (lv_at hl 9 rfl) ?_
                                refine m_callp (po := fun z_0 => (z_0 = 1 ∧ (f_0 4 v_p) = (f_0 4 gr)) ∨ (z_0 = 0 ∧ ¬ (f_0 4 v_p) = (f_0 4 gr))) E (c_X10_isKin l D cy q (upN n_0 0 0) (upF (upF (upF (upF (upF (upF (upF (upF (upF f_0 45 y45_81) 46 y46_83) 47 y47_83) 49 (upA (f_0 49) (n_0 48) v_p)) 50 (upA (f_0 50) (n_0 48) v_r)) 51 (upA (f_0 51) (n_0 48) v_x)) 52 (upA (f_0 52) (n_0 48) zz83_)) 53 (upA (f_0 53) (n_0 48) (n_0 1))) 54 (upA (f_0 54) (n_0 48) 0)) v_p gr  r_v_p r_gr (show 0 ≤ v_p ∧ v_p < 24 from by omega) (show 0 ≤ gr ∧ gr < 24 from by omega)) rfl mt_X10_isKin ml_X10_334 hK hw hA ⟨Nat.le_of_ble_eq_true rfl, Nat.le_of_ble_eq_true rfl⟩ (As := [.int (J v_p), .int (J gr)]) (rest := []) rfl rfl hl.1 (Nat.le_of_ble_eq_true rfl) 239 rfl dX10_suit_236 (fun zz136_ H locs rr136_ hq136_ hw => ?_)
                                have hh136_ : (zz136_ = 1 ∧ (f_0 4 v_p) = (f_0 4 gr)) ∨ (zz136_ = 0 ∧ ¬ (f_0 4 v_p) = (f_0 4 gr)) := hq136_
                                clear hq136_
                                rcases hh136_ with ⟨ee136_, hh136_⟩ | ⟨ee136_, hh136_⟩
                                · subst ee136_
                                  refine j_if_eq E 242 248 rfl (rr (by decide)) dX10_suit_239 (by decide) (fun cc137_ => absurd cc137_ (by decide)) (fun _ => ?_)
                                  refine j_iload E 244 rfl dX10_suit_242 (lv_at hl 8 rfl) ?_
                                  refine j_iconst E 245 rfl dX10_suit_244 ?_
                                  refine j_iadd E 246 rfl dX10_suit_245 ?_
                                  refine j_istore E 248 rfl [(8, .int (J (gc + 1))), (0, .ref (q 0)), (1, .int (J v_p)), (2, .int (J v_r)), (3, .int (J v_x)), (4, .int (J v_harm)), (5, .int (J v_witnesses)), (6, .int (J v_deed)), (7, .int (J zz83_)), (9, .int (J gr))] dX10_suit_246 hl (by decide) rfl (fun ls hl => ?_)
                                  refine j_iinc E 251 rfl [(9, .int (J (gr + 1))), (8, .int (J (gc + 1))), (0, .ref (q 0)), (1, .int (J v_p)), (2, .int (J v_r)), (3, .int (J v_x)), (4, .int (J v_harm)), (5, .int (J v_witnesses)), (6, .int (J v_deed)), (7, .int (J zz83_))] dX10_suit_248 hl (kk := 9) rfl (by decide) rfl (fun ls hl => ?_)
                                  refine j_goto E 208 dX10_suit_251 (by decide) ?_
                                  exact ih208 (gc + 1) (gr + 1) H locs ls (rr (by omega)) (rr (by omega)) (by omega) (by omega) hw (lv_sub hl [2, 3, 4, 5, 6, 7, 8, 9, 1, 0] rfl)
                                · subst ee136_
                                  refine j_if_eq E 242 248 rfl (rr (by decide)) dX10_suit_239 (by decide) (fun _ => ?_) (fun cc138_ => absurd cc138_ (by decide))
                                  refine j_iinc E 251 rfl [(9, .int (J (gr + 1))), (0, .ref (q 0)), (1, .int (J v_p)), (2, .int (J v_r)), (3, .int (J v_x)), (4, .int (J v_harm)), (5, .int (J v_witnesses)), (6, .int (J v_deed)), (7, .int (J zz83_)), (8, .int (J gc))] dX10_suit_248 hl (kk := 9) rfl (by decide) rfl (fun ls hl => ?_)
                                  refine j_goto E 208 dX10_suit_251 (by decide) ?_
                                  exact ih208 gc (gr + 1) H locs ls r_gc (rr (by omega)) (by omega) (by omega) hw (lv_sub hl [1, 2, 3, 4, 5, 6, 7, 8, 9, 0] rfl)
                              · subst ee134_
                                refine j_if_eq E 232 248 rfl (rr (by decide)) dX10_suit_229 (by decide) (fun _ => ?_) (fun cc139_ => absurd cc139_ (by decide))
                                refine j_iinc E 251 rfl [(9, .int (J (gr + 1))), (0, .ref (q 0)), (1, .int (J v_p)), (2, .int (J v_r)), (3, .int (J v_x)), (4, .int (J v_harm)), (5, .int (J v_witnesses)), (6, .int (J v_deed)), (7, .int (J zz83_)), (8, .int (J gc))] dX10_suit_248 hl (kk := 9) rfl (by decide) rfl (fun ls hl => ?_)
                                refine j_goto E 208 dX10_suit_251 (by decide) ?_
                                exact ih208 gc (gr + 1) H locs ls r_gc (rr (by omega)) (by omega) (by omega) hw (lv_sub hl [1, 2, 3, 4, 5, 6, 7, 8, 9, 0] rfl)
                      exact L208_90 _ 0 0 H locs ls (rr (by decide)) (rr (by decide)) (by omega) (mk_lt _) hw (lv_sub hl [3, 4, 5, 6, 7, 8, 9, 2, 1, 0] rfl)
                    · subst ee81_
                      refine j_if_ne E 122 124 rfl (rr (by decide)) dX10_suit_119 (by decide) (fun cc140_ => absurd cc140_ (by decide)) (fun _ => ?_)
                      refine j_iconst E 123 rfl dX10_suit_122 ?_
                      exact hret 123 ((-1)) (upN (upN n_0 0 0) 48 (n_0 48)) (upF (upF (upF (upF (upF (upF (upF (upF (upF (upF f_0 45 y45_81) 46 (f_0 46)) 47 (f_0 47)) 49 (f_0 49)) 50 (f_0 50)) 51 (f_0 51)) 52 (f_0 52)) 53 (f_0 53)) 54 (f_0 54)) 55 (f_0 55)) _ _ ls hw (rr (by decide)) ⟨0, (n_0 48), y45_81, (f_0 46), (f_0 47), (f_0 49), (f_0 50), (f_0 51), (f_0 52), (f_0 53), (f_0 54), (f_0 55), rfl, rfl, ⟨⟨i_now, i_persons, i_lines, i_wordings, i_taped, (show 0 ≤ (n_0 48) ∧ (n_0 48) ≤ 100 from by omega), i_spk, i_fam, i_str, i_said, i_book, i_wds, i_tok, i_cod, i_far⟩, Or.inl ⟨rfl, by omega, rfl, rfl⟩⟩⟩ dX10_suit_123
                · refine j_iconst E 80 rfl dX10_suit_79 ?_
                  exact hret 80 ((-1)) (upN (upN n_0 0 0) 48 (n_0 48)) (upF (upF (upF (upF (upF (upF (upF (upF (upF (upF f_0 45 (f_0 45)) 46 (f_0 46)) 47 (f_0 47)) 49 (f_0 49)) 50 (f_0 50)) 51 (f_0 51)) 52 (f_0 52)) 53 (f_0 53)) 54 (f_0 54)) 55 (f_0 55)) _ _ ls hw (rr (by decide)) ⟨0, (n_0 48), (f_0 45), (f_0 46), (f_0 47), (f_0 49), (f_0 50), (f_0 51), (f_0 52), (f_0 53), (f_0 54), (f_0 55), rfl, rfl, ⟨⟨i_now, i_persons, i_lines, i_wordings, i_taped, (show 0 ≤ (n_0 48) ∧ (n_0 48) ≤ 100 from by omega), i_spk, i_fam, i_str, i_said, i_book, i_wds, i_tok, i_cod, i_far⟩, Or.inl ⟨rfl, by omega, rfl, rfl⟩⟩⟩ dX10_suit_80
          · subst ee10_
            refine j_if_eq E 48 79 rfl (rr (by decide)) dX10_suit_45 (by decide) (fun _ => ?_) (fun cc141_ => absurd cc141_ (by decide))
            refine j_iconst E 80 rfl dX10_suit_79 ?_
            exact hret 80 ((-1)) (upN (upN n_0 0 0) 48 (n_0 48)) (upF (upF (upF (upF (upF (upF (upF (upF (upF (upF f_0 45 (f_0 45)) 46 (f_0 46)) 47 (f_0 47)) 49 (f_0 49)) 50 (f_0 50)) 51 (f_0 51)) 52 (f_0 52)) 53 (f_0 53)) 54 (f_0 54)) 55 (f_0 55)) _ _ ls hw (rr (by decide)) ⟨0, (n_0 48), (f_0 45), (f_0 46), (f_0 47), (f_0 49), (f_0 50), (f_0 51), (f_0 52), (f_0 53), (f_0 54), (f_0 55), rfl, rfl, ⟨⟨i_now, i_persons, i_lines, i_wordings, i_taped, (show 0 ≤ (n_0 48) ∧ (n_0 48) ≤ 100 from by omega), i_spk, i_fam, i_str, i_said, i_book, i_wds, i_tok, i_cod, i_far⟩, Or.inl ⟨rfl, by omega, rfl, rfl⟩⟩⟩ dX10_suit_80
        · subst ee7_
          refine j_if_eq E 34 79 rfl (rr (by decide)) dX10_suit_31 (by decide) (fun _ => ?_) (fun cc142_ => absurd cc142_ (by decide))
          refine j_iconst E 80 rfl dX10_suit_79 ?_
          exact hret 80 ((-1)) (upN (upN n_0 0 0) 48 (n_0 48)) (upF (upF (upF (upF (upF (upF (upF (upF (upF (upF f_0 45 (f_0 45)) 46 (f_0 46)) 47 (f_0 47)) 49 (f_0 49)) 50 (f_0 50)) 51 (f_0 51)) 52 (f_0 52)) 53 (f_0 53)) 54 (f_0 54)) 55 (f_0 55)) _ _ ls hw (rr (by decide)) ⟨0, (n_0 48), (f_0 45), (f_0 46), (f_0 47), (f_0 49), (f_0 50), (f_0 51), (f_0 52), (f_0 53), (f_0 54), (f_0 55), rfl, rfl, ⟨⟨i_now, i_persons, i_lines, i_wordings, i_taped, (show 0 ≤ (n_0 48) ∧ (n_0 48) ≤ 100 from by omega), i_spk, i_fam, i_str, i_said, i_book, i_wds, i_tok, i_cod, i_far⟩, Or.inl ⟨rfl, by omega, rfl, rfl⟩⟩⟩ dX10_suit_80
    · subst ee4_
      refine j_if_eq E 21 79 rfl (rr (by decide)) dX10_suit_18 (by decide) (fun _ => ?_) (fun cc143_ => absurd cc143_ (by decide))
      refine j_iconst E 80 rfl dX10_suit_79 ?_
      exact hret 80 ((-1)) (upN (upN n_0 0 0) 48 (n_0 48)) (upF (upF (upF (upF (upF (upF (upF (upF (upF (upF f_0 45 (f_0 45)) 46 (f_0 46)) 47 (f_0 47)) 49 (f_0 49)) 50 (f_0 50)) 51 (f_0 51)) 52 (f_0 52)) 53 (f_0 53)) 54 (f_0 54)) 55 (f_0 55)) _ _ ls hw (rr (by decide)) ⟨0, (n_0 48), (f_0 45), (f_0 46), (f_0 47), (f_0 49), (f_0 50), (f_0 51), (f_0 52), (f_0 53), (f_0 54), (f_0 55), rfl, rfl, ⟨⟨i_now, i_persons, i_lines, i_wordings, i_taped, (show 0 ≤ (n_0 48) ∧ (n_0 48) ≤ 100 from by omega), i_spk, i_fam, i_str, i_said, i_book, i_wds, i_tok, i_cod, i_far⟩, Or.inl ⟨rfl, by omega, rfl, rfl⟩⟩⟩ dX10_suit_80
  · subst ee2_
    refine j_if_eq E 13 79 rfl (rr (by decide)) dX10_suit_10 (by decide) (fun _ => ?_) (fun cc144_ => absurd cc144_ (by decide))
    refine j_iconst E 80 rfl dX10_suit_79 ?_
    exact hret 80 ((-1)) (upN (upN n_0 0 0) 48 (n_0 48)) (upF (upF (upF (upF (upF (upF (upF (upF (upF (upF f_0 45 (f_0 45)) 46 (f_0 46)) 47 (f_0 47)) 49 (f_0 49)) 50 (f_0 50)) 51 (f_0 51)) 52 (f_0 52)) 53 (f_0 53)) 54 (f_0 54)) 55 (f_0 55)) _ _ ls hw (rr (by decide)) ⟨0, (n_0 48), (f_0 45), (f_0 46), (f_0 47), (f_0 49), (f_0 50), (f_0 51), (f_0 52), (f_0 53), (f_0 54), (f_0 55), rfl, rfl, ⟨⟨i_now, i_persons, i_lines, i_wordings, i_taped, (show 0 ≤ (n_0 48) ∧ (n_0 48) ≤ 100 from by omega), i_spk, i_fam, i_str, i_said, i_book, i_wds, i_tok, i_cod, i_far⟩, Or.inl ⟨rfl, by omega, rfl, rfl⟩⟩⟩ dX10_suit_80
