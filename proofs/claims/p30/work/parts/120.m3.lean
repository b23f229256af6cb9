
def by_ (v s : Int) : Int := (J v >>> (J s &&& 31) &&& J 255).toInt
theorem by_rg (v s : Int) : 0 ≤ by_ v s ∧ by_ v s ≤ 255 := by
  have h1 : (J v >>> (J s &&& 31) &&& J 255).toBitVec.toNat ≤ 255 := by
    rw [Int32.toBitVec_and, BitVec.toNat_and]
    exact Nat.le_trans Nat.and_le_right (by decide +kernel)
  have h3 : by_ v s = (J v >>> (J s &&& 31) &&& J 255).toBitVec.toInt := rfl
  rw [h3, BitVec.toInt_eq_toNat_of_lt (by omega)]
  omega
theorem by_of {v s z1 z2 : Int} (e1 : J z1 = J v >>> (J s &&& 31)) (e2 : J z2 = J z1 &&& J 255) (r : inR z2) : z2 = by_ v s ∧ 0 ≤ z2 ∧ z2 ≤ 255 := by
  have h : z2 = by_ v s := by
    have h2 := J_toInt r
    rw [e2, e1] at h2
    exact h2.symm
  have := by_rg v s
  exact ⟨h, by omega, by omega⟩
theorem Tap_up {g : Int → Int} {i z : Int} (h : Tap_ g) (hz : 0 ≤ z ∧ z ≤ 255) : Tap_ (upA g i z) := fun j => by
  unfold upA
  split
  · exact hz
  · exact h j
theorem by_st {g : Int → Int} {v t0 t z : Int} (h : ∀ j, t0 ≤ j → j < t → g j = by_ v (24 - 8 * (j - t0))) (hz : z = by_ v (24 - 8 * (t - t0))) : ∀ j, t0 ≤ j → j < t + 1 → upA g t z j = by_ v (24 - 8 * (j - t0)) := fun j h1 h2 => by
  by_cases e : j = t
  · rw [e, upA_same]; exact hz
  · rw [upA_ne e]; exact h j h1 (by omega)
theorem by_ot {g g0 : Int → Int} {t0 t z : Int} (h : ∀ j, j < t0 ∨ t ≤ j → g j = g0 j) (h0 : t0 ≤ t) : ∀ j, j < t0 ∨ t + 1 ≤ j → upA g t z j = g0 j := fun j hj => by
  rw [upA_ne (by omega)]
  exact h j (by omega)
theorem Fam_up {g : Int → Int} {i z : Int} (h : Fam_ g) (hz : 0 ≤ z ∧ z ≤ 7) : Fam_ (upA g i z) := fun j => by
  unfold upA
  split
  · exact hz
  · exact h j
theorem sd_step {sa : Int → Int} {li w k : Int} (h : ∀ j, 0 ≤ j → j < 200 * li + k → sa j < w) (hw : 0 ≤ w) : ∀ j, 0 ≤ j → j < 200 * li + (k + 1) → upA sa (200 * li + k) (-2) j < w := fun j h1 h2 => by
  unfold upA
  split
  · omega
  · exact h j h1 (by omega)
theorem sd_new {sa : Int → Int} {L k : Int} (h : ∀ t, 0 ≤ t → t < k → sa (200 * L + t) = -2) : ∀ t, 0 ≤ t → t < k + 1 → upA sa (200 * L + k) (-2) (200 * L + t) = -2 := fun t h1 h2 => by
  by_cases e : t = k
  · rw [e, upA_same]
  · rw [upA_ne (by omega)]; exact h t h1 (by omega)
theorem Book_grow {bo : Int → Int} {li w : Int} (h : Book_ bo li w) (hw : 0 ≤ w) : Book_ (upA bo li (-1)) (li + 1) w := fun j h1 h2 => by
  unfold upA
  split
  · exact ⟨by omega, by omega⟩
  · exact h j h1 (by omega)
theorem Book_up {bo : Int → Int} {li w i z : Int} (h : Book_ bo li w) (hz : -1 ≤ z ∧ z < w) : Book_ (upA bo i z) li w := fun j h1 h2 => by
  unfold upA
  split
  · exact hz
  · exact h j h1 h2

set_option maxHeartbeats 4000000 in
set_option maxRecDepth 100000 in
theorem c_X10_person (l : Launch) (D : va_G) (cy : Nat → ClassId) (q : Nat → Nat) (n_0 : Nat → Int) (f_0 : Nat → Int → Int) (v_quarter v_family v_born : Int) (r_v_quarter : inR v_quarter) (r_v_family : inR v_family) (r_v_born : inR v_born) (hp0 : MI (n_0) (f_0)) : MC l D cy q yX10_person cX10_person 4 (some .int) 1 [.int (J v_quarter), .int (J v_family), .int (J v_born)] n_0 f_0 (PI (fun (z_0 : Int) (n_2 : Nat → Int) (f_2 : Nat → Int → Int) => ∃ (x0_2 : Int) (x2_2 : Int) (y3_2 : Int → Int) (y4_2 : Int → Int) (y5_2 : Int → Int) (y6_2 : Int → Int) (y8_2 : Int → Int) , n_2 = upN (upN n_0 0 x0_2) 2 x2_2 ∧ f_2 = upF (upF (upF (upF (upF f_0 3 y3_2) 4 y4_2) 5 y5_2) 6 y6_2) 8 y8_2 ∧ (MI (upN (upN n_0 0 x0_2) 2 x2_2) (upF (upF (upF (upF (upF f_0 3 y3_2) 4 y4_2) 5 y5_2) 6 y6_2) 8 y8_2) ∧ ((z_0 = -1 ∧ (v_quarter < 0 ∨ 3 < v_quarter ∨ v_family < 0 ∨ 7 < v_family ∨ v_born < -90 ∨ (n_0 1) < v_born ∨ (n_0 2) = 24) ∧ (x2_2) = (n_0 2) ∧ (y3_2) = (f_0 3) ∧ (y4_2) = (f_0 4) ∧ (y5_2) = (f_0 5) ∧ (y6_2) = (f_0 6) ∧ (y8_2) = (f_0 8)) ∨ (z_0 = (n_0 2) ∧ (0 ≤ v_quarter ∧ v_quarter ≤ 3 ∧ 0 ≤ v_family ∧ v_family ≤ 7 ∧ -90 ≤ v_born ∧ v_born ≤ (n_0 1) ∧ (n_0 2) < 24) ∧ (x2_2) = (n_0 2) + 1 ∧ (y3_2) = upA (f_0 3) (n_0 2) v_quarter ∧ (y4_2) = upA (f_0 4) (n_0 2) v_family ∧ (y5_2) = upA (f_0 5) (n_0 2) v_born ∧ (y6_2) = upA (f_0 6) (n_0 2) (-1) ∧ (y8_2) = upA (f_0 8) (n_0 2) (-1)))))) := by
  refine MC.ofi rfl (Nat.le_of_ble_eq_true rfl) ?_
  intro p e s m below meth c ls ar QW A0 H0 H locs E hK hA hw hl hret
  have hl : lv_has ls 4 [(0, .ref (q 0)), (1, .int (J v_quarter)), (2, .int (J v_family)), (3, .int (J v_born))] := hl
  have hp0_ := hp0
  obtain ⟨i_now, i_persons, i_lines, i_wordings, i_taped, i_suits, i_spk, i_fam, i_str, i_said, i_book, i_wds, i_tok, i_cod, i_far, i_tap, i_qua, i_sil, i_stz, i_way⟩ := hp0_
  refine j_aload_n E 1 rfl dX10_person_0 rfl (lv_at hl 0 rfl) ?_
  refine j_iconst E 2 rfl dX10_person_1 ?_
  refine m_put_0 E hK hw (rr (by decide)) 5 rfl dX10_person_2 (fun H locs hw => ?_)
  have hw : WM D cy q (upN n_0 0 0) (f_0) A0 H0 H locs := hw
  refine j_aload_n E 6 rfl dX10_person_5 rfl (lv_at hl 0 rfl) ?_
  refine j_iload_n E 7 rfl dX10_person_6 rfl (lv_at hl 1 rfl) ?_
  refine j_iconst E 8 rfl dX10_person_7 ?_
  refine j_iconst E 9 rfl dX10_person_8 ?_
  refine m_callp (po := fun z_0 => (z_0 = 1 ∧ (0 : Int) ≤ v_quarter ∧ v_quarter ≤ (3 : Int)) ∨ (z_0 = 0 ∧ (v_quarter < (0 : Int) ∨ (3 : Int) < v_quarter))) E (c_X10_isIn l D cy q (upN n_0 0 0) (f_0) v_quarter 0 3  r_v_quarter (rr (by decide)) (rr (by decide)) ) rfl mt_X10_isIn ml_X10_169 hK hw hA ⟨Nat.le_of_ble_eq_true rfl, Nat.le_of_ble_eq_true rfl⟩ (As := [.int (J v_quarter), .int (J 0), .int (J 3)]) (rest := []) rfl rfl hl.1 (Nat.le_of_ble_eq_true rfl) 12 rfl dX10_person_9 (fun zz2_ H locs rr2_ hq2_ hw => ?_)
  have hh2_ : (zz2_ = 1 ∧ (0 : Int) ≤ v_quarter ∧ v_quarter ≤ (3 : Int)) ∨ (zz2_ = 0 ∧ (v_quarter < (0 : Int) ∨ (3 : Int) < v_quarter)) := hq2_
  clear hq2_
  rcases hh2_ with ⟨ee2_, hh2_⟩ | ⟨ee2_, hh2_⟩
  · subst ee2_
    refine j_if_eq E 15 49 rfl (rr (by decide)) dX10_person_12 (by decide) (fun cc3_ => absurd cc3_ (by decide)) (fun _ => ?_)
    refine j_aload_n E 16 rfl dX10_person_15 rfl (lv_at hl 0 rfl) ?_
    refine j_iload_n E 17 rfl dX10_person_16 rfl (lv_at hl 2 rfl) ?_
    refine j_iconst E 18 rfl dX10_person_17 ?_
    refine j_bipush E 20 rfl dX10_person_18 (by decide) ?_
    refine m_callp (po := fun z_0 => (z_0 = 1 ∧ (0 : Int) ≤ v_family ∧ v_family ≤ (7 : Int)) ∨ (z_0 = 0 ∧ (v_family < (0 : Int) ∨ (7 : Int) < v_family))) E (c_X10_isIn l D cy q (upN n_0 0 0) (f_0) v_family 0 7  r_v_family (rr (by decide)) (rr (by decide)) ) rfl mt_X10_isIn ml_X10_169 hK hw hA ⟨Nat.le_of_ble_eq_true rfl, Nat.le_of_ble_eq_true rfl⟩ (As := [.int (J v_family), .int (J 0), .int (J 7)]) (rest := []) rfl rfl hl.1 (Nat.le_of_ble_eq_true rfl) 23 rfl dX10_person_20 (fun zz4_ H locs rr4_ hq4_ hw => ?_)
    have hh4_ : (zz4_ = 1 ∧ (0 : Int) ≤ v_family ∧ v_family ≤ (7 : Int)) ∨ (zz4_ = 0 ∧ (v_family < (0 : Int) ∨ (7 : Int) < v_family)) := hq4_
    clear hq4_
    rcases hh4_ with ⟨ee4_, hh4_⟩ | ⟨ee4_, hh4_⟩
    · subst ee4_
      refine j_if_eq E 26 49 rfl (rr (by decide)) dX10_person_23 (by decide) (fun cc5_ => absurd cc5_ (by decide)) (fun _ => ?_)
      refine j_aload_n E 27 rfl dX10_person_26 rfl (lv_at hl 0 rfl) ?_
      refine j_iload_n E 28 rfl dX10_person_27 rfl (lv_at hl 3 rfl) ?_
      refine j_bipush E 30 rfl dX10_person_28 (by decide) ?_
      refine j_aload_n E 31 rfl dX10_person_30 rfl (lv_at hl 0 rfl) ?_
      refine m_get_1 E hK hw (n_0 1) rfl 34 rfl dX10_person_31 (fun rr6_ => ?_)
      refine m_callp (po := fun z_0 => (z_0 = 1 ∧ (-90 : Int) ≤ v_born ∧ v_born ≤ (n_0 1)) ∨ (z_0 = 0 ∧ (v_born < (-90 : Int) ∨ (n_0 1) < v_born))) E (c_X10_isIn l D cy q (upN n_0 0 0) (f_0) v_born ((-90)) (n_0 1)  r_v_born (rr (by decide)) rr6_ ) rfl mt_X10_isIn ml_X10_169 hK hw hA ⟨Nat.le_of_ble_eq_true rfl, Nat.le_of_ble_eq_true rfl⟩ (As := [.int (J v_born), .int (J ((-90))), .int (J (n_0 1))]) (rest := []) rfl rfl hl.1 (Nat.le_of_ble_eq_true rfl) 37 rfl dX10_person_34 (fun zz7_ H locs rr7_ hq7_ hw => ?_)
      have hh7_ : (zz7_ = 1 ∧ (-90 : Int) ≤ v_born ∧ v_born ≤ (n_0 1)) ∨ (zz7_ = 0 ∧ (v_born < (-90 : Int) ∨ (n_0 1) < v_born)) := hq7_
      clear hq7_
      rcases hh7_ with ⟨ee7_, hh7_⟩ | ⟨ee7_, hh7_⟩
      · subst ee7_
        refine j_if_eq E 40 49 rfl (rr (by decide)) dX10_person_37 (by decide) (fun cc8_ => absurd cc8_ (by decide)) (fun _ => ?_)
        refine j_aload_n E 41 rfl dX10_person_40 rfl (lv_at hl 0 rfl) ?_
        refine m_get_2 E hK hw (n_0 2) rfl 44 rfl dX10_person_41 (fun rr9_ => ?_)
        refine j_bipush E 46 rfl dX10_person_44 (by decide) ?_
        refine j_icmp_ne E 49 51 rfl rr9_ (rr (by decide)) dX10_person_46 (by decide) (fun cc10_ => ?_) (fun cc10_ => ?_)
        · refine j_aload_n E 52 rfl dX10_person_51 rfl (lv_at hl 0 rfl) ?_
          refine m_ag_3 E hK hw 55 rfl dX10_person_52 ?_
          refine j_aload_n E 56 rfl dX10_person_55 rfl (lv_at hl 0 rfl) ?_
          refine m_get_2 E hK hw (n_0 2) rfl 59 rfl dX10_person_56 (fun _ => ?_)
          refine j_iload_n E 60 rfl dX10_person_59 rfl (lv_at hl 1 rfl) ?_
          refine m_st_3 E hK hw (by omega) r_v_quarter 61 rfl dX10_person_60 (fun H locs hw => ?_)
          have hw : WM D cy q (upN n_0 0 0) (upF f_0 3 (upA (f_0 3) (n_0 2) v_quarter)) A0 H0 H locs := hw
          refine j_aload_n E 62 rfl dX10_person_61 rfl (lv_at hl 0 rfl) ?_
          refine m_ag_4 E hK hw 65 rfl dX10_person_62 ?_
          refine j_aload_n E 66 rfl dX10_person_65 rfl (lv_at hl 0 rfl) ?_
          refine m_get_2 E hK hw (n_0 2) rfl 69 rfl dX10_person_66 (fun _ => ?_)
          refine j_iload_n E 70 rfl dX10_person_69 rfl (lv_at hl 2 rfl) ?_
          refine m_st_4 E hK hw (by omega) r_v_family 71 rfl dX10_person_70 (fun H locs hw => ?_)
          have hw : WM D cy q (upN n_0 0 0) (upF (upF f_0 3 (upA (f_0 3) (n_0 2) v_quarter)) 4 (upA (f_0 4) (n_0 2) v_family)) A0 H0 H locs := hw
          refine j_aload_n E 72 rfl dX10_person_71 rfl (lv_at hl 0 rfl) ?_
          refine m_ag_5 E hK hw 75 rfl dX10_person_72 ?_
          refine j_aload_n E 76 rfl dX10_person_75 rfl (lv_at hl 0 rfl) ?_
          refine m_get_2 E hK hw (n_0 2) rfl 79 rfl dX10_person_76 (fun _ => ?_)
          refine j_iload_n E 80 rfl dX10_person_79 rfl (lv_at hl 3 rfl) ?_
          refine m_st_5 E hK hw (by omega) r_v_born 81 rfl dX10_person_80 (fun H locs hw => ?_)
          have hw : WM D cy q (upN n_0 0 0) (upF (upF (upF f_0 3 (upA (f_0 3) (n_0 2) v_quarter)) 4 (upA (f_0 4) (n_0 2) v_family)) 5 (upA (f_0 5) (n_0 2) v_born)) A0 H0 H locs := hw
          refine j_aload_n E 82 rfl dX10_person_81 rfl (lv_at hl 0 rfl) ?_
          refine m_ag_6 E hK hw 85 rfl dX10_person_82 ?_
          refine j_aload_n E 86 rfl dX10_person_85 rfl (lv_at hl 0 rfl) ?_
          refine m_get_2 E hK hw (n_0 2) rfl 89 rfl dX10_person_86 (fun _ => ?_)
          refine j_iconst E 90 rfl dX10_person_89 ?_
          refine m_st_6 E hK hw (by omega) (rr (by decide)) 91 rfl dX10_person_90 (fun H locs hw => ?_)
          have hw : WM D cy q (upN n_0 0 0) (upF (upF (upF (upF f_0 3 (upA (f_0 3) (n_0 2) v_quarter)) 4 (upA (f_0 4) (n_0 2) v_family)) 5 (upA (f_0 5) (n_0 2) v_born)) 6 (upA (f_0 6) (n_0 2) ((-1)))) A0 H0 H locs := hw
          refine j_aload_n E 92 rfl dX10_person_91 rfl (lv_at hl 0 rfl) ?_
          refine m_ag_8 E hK hw 95 rfl dX10_person_92 ?_
          refine j_aload_n E 96 rfl dX10_person_95 rfl (lv_at hl 0 rfl) ?_
          refine m_get_2 E hK hw (n_0 2) rfl 99 rfl dX10_person_96 (fun _ => ?_)
          refine j_iconst E 100 rfl dX10_person_99 ?_
          refine m_st_8 E hK hw (by omega) (rr (by decide)) 101 rfl dX10_person_100 (fun H locs hw => ?_)
          have hw : WM D cy q (upN n_0 0 0) (upF (upF (upF (upF (upF f_0 3 (upA (f_0 3) (n_0 2) v_quarter)) 4 (upA (f_0 4) (n_0 2) v_family)) 5 (upA (f_0 5) (n_0 2) v_born)) 6 (upA (f_0 6) (n_0 2) ((-1)))) 8 (upA (f_0 8) (n_0 2) ((-1)))) A0 H0 H locs := hw
          refine j_aload_n E 102 rfl dX10_person_101 rfl (lv_at hl 0 rfl) ?_
          refine j_aload_n E 103 rfl dX10_person_102 rfl (lv_at hl 0 rfl) ?_
          refine m_get_2 E hK hw (n_0 2) rfl 106 rfl dX10_person_103 (fun _ => ?_)
          refine j_iconst E 107 rfl dX10_person_106 ?_
          refine j_iadd E 108 rfl dX10_person_107 ?_
          refine m_put_2 E hK hw (rr (by omega)) 111 rfl dX10_person_108 (fun H locs hw => ?_)
          have hw : WM D cy q (upN (upN n_0 0 0) 2 ((n_0 2) + 1)) (upF (upF (upF (upF (upF f_0 3 (upA (f_0 3) (n_0 2) v_quarter)) 4 (upA (f_0 4) (n_0 2) v_family)) 5 (upA (f_0 5) (n_0 2) v_born)) 6 (upA (f_0 6) (n_0 2) ((-1)))) 8 (upA (f_0 8) (n_0 2) ((-1)))) A0 H0 H locs := hw
          refine j_aload_n E 112 rfl dX10_person_111 rfl (lv_at hl 0 rfl) ?_
          refine m_get_2 E hK hw ((n_0 2) + 1) rfl 115 rfl dX10_person_112 (fun rr17_ => ?_)
          refine j_iconst E 116 rfl dX10_person_115 ?_
          refine j_isub E 117 rfl dX10_person_116 ?_
          exact hret 117 (((n_0 2) + 1) - 1) (upN (upN n_0 0 0) 2 ((n_0 2) + 1)) (upF (upF (upF (upF (upF f_0 3 (upA (f_0 3) (n_0 2) v_quarter)) 4 (upA (f_0 4) (n_0 2) v_family)) 5 (upA (f_0 5) (n_0 2) v_born)) 6 (upA (f_0 6) (n_0 2) ((-1)))) 8 (upA (f_0 8) (n_0 2) ((-1)))) _ _ ls hw (rr (by omega)) ⟨0, ((n_0 2) + 1), (upA (f_0 3) (n_0 2) v_quarter), (upA (f_0 4) (n_0 2) v_family), (upA (f_0 5) (n_0 2) v_born), (upA (f_0 6) (n_0 2) ((-1))), (upA (f_0 8) (n_0 2) ((-1))), rfl, rfl, ⟨⟨i_now, (show 0 ≤ ((n_0 2) + 1) ∧ ((n_0 2) + 1) ≤ 24 from by omega), i_lines, i_wordings, i_taped, i_suits, i_spk, (show Fam_ (upA (f_0 4) (n_0 2) v_family) from Fam_up i_fam (by omega)), i_str, i_said, i_book, i_wds, i_tok, i_cod, i_far, i_tap, (show Qua_ (upA (f_0 3) (n_0 2) v_quarter) from Qua_up i_qua (by omega)), i_sil, (show Stz_ (f_0 19) ((n_0 2) + 1) (n_0 12) from Stz_mono i_stz (by omega) (by omega)), i_way⟩, Or.inr ⟨by omega, by omega, rfl, rfl, rfl, rfl, rfl, rfl⟩⟩⟩ dX10_person_117
        · refine j_iconst E 50 rfl dX10_person_49 ?_
          exact hret 50 ((-1)) (upN (upN n_0 0 0) 2 (n_0 2)) (upF (upF (upF (upF (upF f_0 3 (f_0 3)) 4 (f_0 4)) 5 (f_0 5)) 6 (f_0 6)) 8 (f_0 8)) _ _ ls hw (rr (by decide)) ⟨0, (n_0 2), (f_0 3), (f_0 4), (f_0 5), (f_0 6), (f_0 8), rfl, rfl, ⟨⟨i_now, i_persons, i_lines, i_wordings, i_taped, i_suits, i_spk, i_fam, i_str, i_said, i_book, i_wds, i_tok, i_cod, i_far, i_tap, i_qua, i_sil, i_stz, i_way⟩, Or.inl ⟨rfl, by omega, rfl, rfl, rfl, rfl, rfl, rfl⟩⟩⟩ dX10_person_50
      · subst ee7_
        refine j_if_eq E 40 49 rfl (rr (by decide)) dX10_person_37 (by decide) (fun _ => ?_) (fun cc18_ => absurd cc18_ (by decide))
        refine j_iconst E 50 rfl dX10_person_49 ?_
        exact hret 50 ((-1)) (upN (upN n_0 0 0) 2 (n_0 2)) (upF (upF (upF (upF (upF f_0 3 (f_0 3)) 4 (f_0 4)) 5 (f_0 5)) 6 (f_0 6)) 8 (f_0 8)) _ _ ls hw (rr (by decide)) ⟨0, (n_0 2), (f_0 3), (f_0 4), (f_0 5), (f_0 6), (f_0 8), rfl, rfl, ⟨⟨i_now, i_persons, i_lines, i_wordings, i_taped, i_suits, i_spk, i_fam, i_str, i_said, i_book, i_wds, i_tok, i_cod, i_far, i_tap, i_qua, i_sil, i_stz, i_way⟩, Or.inl ⟨rfl, by omega, rfl, rfl, rfl, rfl, rfl, rfl⟩⟩⟩ dX10_person_50
    · subst ee4_
      refine j_if_eq E 26 49 rfl (rr (by decide)) dX10_person_23 (by decide) (fun _ => ?_) (fun cc19_ => absurd cc19_ (by decide))
      refine j_iconst E 50 rfl dX10_person_49 ?_
      exact hret 50 ((-1)) (upN (upN n_0 0 0) 2 (n_0 2)) (upF (upF (upF (upF (upF f_0 3 (f_0 3)) 4 (f_0 4)) 5 (f_0 5)) 6 (f_0 6)) 8 (f_0 8)) _ _ ls hw (rr (by decide)) ⟨0, (n_0 2), (f_0 3), (f_0 4), (f_0 5), (f_0 6), (f_0 8), rfl, rfl, ⟨⟨i_now, i_persons, i_lines, i_wordings, i_taped, i_suits, i_spk, i_fam, i_str, i_said, i_book, i_wds, i_tok, i_cod, i_far, i_tap, i_qua, i_sil, i_stz, i_way⟩, Or.inl ⟨rfl, by omega, rfl, rfl, rfl, rfl, rfl, rfl⟩⟩⟩ dX10_person_50
  · subst ee2_
    refine j_if_eq E 15 49 rfl (rr (by decide)) dX10_person_12 (by decide) (fun _ => ?_) (fun cc20_ => absurd cc20_ (by decide))
    refine j_iconst E 50 rfl dX10_person_49 ?_
    exact hret 50 ((-1)) (upN (upN n_0 0 0) 2 (n_0 2)) (upF (upF (upF (upF (upF f_0 3 (f_0 3)) 4 (f_0 4)) 5 (f_0 5)) 6 (f_0 6)) 8 (f_0 8)) _ _ ls hw (rr (by decide)) ⟨0, (n_0 2), (f_0 3), (f_0 4), (f_0 5), (f_0 6), (f_0 8), rfl, rfl, ⟨⟨i_now, i_persons, i_lines, i_wordings, i_taped, i_suits, i_spk, i_fam, i_str, i_said, i_book, i_wds, i_tok, i_cod, i_far, i_tap, i_qua, i_sil, i_stz, i_way⟩, Or.inl ⟨rfl, by omega, rfl, rfl, rfl, rfl, rfl, rfl⟩⟩⟩ dX10_person_50
set_option maxHeartbeats 4000000 in
set_option maxRecDepth 100000 in
theorem c_X10_dies (l : Launch) (D : va_G) (cy : Nat → ClassId) (q : Nat → Nat) (n_0 : Nat → Int) (f_0 : Nat → Int → Int) (v_p : Int) (r_v_p : inR v_p) (hp0 : MI (n_0) (f_0)) : MC l D cy q yX10_dies cX10_dies 2 (some .boolean) 2 [.int (J v_p)] n_0 f_0 (PI (fun (z_0 : Int) (n_2 : Nat → Int) (f_2 : Nat → Int → Int) => ∃ (x0_2 : Int) (y6_2 : Int → Int) , n_2 = upN n_0 0 x0_2 ∧ f_2 = upF f_0 6 y6_2 ∧ (MI (upN n_0 0 x0_2) (upF f_0 6 y6_2) ∧ ((z_0 = 0 ∧ (y6_2) = (f_0 6) ∧ ¬ (0 ≤ v_p ∧ v_p < (n_0 2) ∧ (f_0 6 v_p) = -1)) ∨ (z_0 = 1 ∧ (0 ≤ v_p ∧ v_p < (n_0 2) ∧ (f_0 6 v_p) = -1) ∧ (y6_2) = upA (f_0 6) v_p (n_0 1)))))) := by
  refine MC.ofz rfl (Nat.le_of_ble_eq_true rfl) ?_
  intro p e s m below meth c ls ar QW A0 H0 H locs E hK hA hw hl hret
  have hl : lv_has ls 2 [(0, .ref (q 0)), (1, .int (J v_p))] := hl
  have hp0_ := hp0
  obtain ⟨i_now, i_persons, i_lines, i_wordings, i_taped, i_suits, i_spk, i_fam, i_str, i_said, i_book, i_wds, i_tok, i_cod, i_far, i_tap, i_qua, i_sil, i_stz, i_way⟩ := hp0_
  refine j_aload_n E 1 rfl dX10_dies_0 rfl (lv_at hl 0 rfl) ?_
  refine j_iconst E 2 rfl dX10_dies_1 ?_
  refine m_put_0 E hK hw (rr (by decide)) 5 rfl dX10_dies_2 (fun H locs hw => ?_)
  have hw : WM D cy q (upN n_0 0 0) (f_0) A0 H0 H locs := hw
  refine j_aload_n E 6 rfl dX10_dies_5 rfl (lv_at hl 0 rfl) ?_
  refine j_iload_n E 7 rfl dX10_dies_6 rfl (lv_at hl 1 rfl) ?_
  refine m_callp (po := fun z_0 => (z_0 = 1 ∧ 0 ≤ v_p ∧ v_p < (n_0 2) ∧ (f_0 6 v_p) = -1) ∨ (z_0 = 0 ∧ ¬ (0 ≤ v_p ∧ v_p < (n_0 2) ∧ (f_0 6 v_p) = -1))) E (c_X10_isLiving l D cy q (upN n_0 0 0) (f_0) v_p  r_v_p (show (n_0 2) ≤ 24 from by omega)) rfl mt_X10_isLiving ml_X10_176 hK hw hA ⟨Nat.le_of_ble_eq_true rfl, Nat.le_of_ble_eq_true rfl⟩ (As := [.int (J v_p)]) (rest := []) rfl rfl hl.1 (Nat.le_of_ble_eq_true rfl) 10 rfl dX10_dies_7 (fun zz2_ H locs rr2_ hq2_ hw => ?_)
  have hh2_ : (zz2_ = 1 ∧ 0 ≤ v_p ∧ v_p < (n_0 2) ∧ (f_0 6 v_p) = -1) ∨ (zz2_ = 0 ∧ ¬ (0 ≤ v_p ∧ v_p < (n_0 2) ∧ (f_0 6 v_p) = -1)) := hq2_
  clear hq2_
  rcases hh2_ with ⟨ee2_, hh2_⟩ | ⟨ee2_, hh2_⟩
  · subst ee2_
    refine j_if_ne E 13 15 rfl (rr (by decide)) dX10_dies_10 (by decide) (fun _ => ?_) (fun cc3_ => absurd cc3_ (by decide))
    refine j_aload_n E 16 rfl dX10_dies_15 rfl (lv_at hl 0 rfl) ?_
    refine m_ag_6 E hK hw 19 rfl dX10_dies_16 ?_
    refine j_iload_n E 20 rfl dX10_dies_19 rfl (lv_at hl 1 rfl) ?_
    refine j_aload_n E 21 rfl dX10_dies_20 rfl (lv_at hl 0 rfl) ?_
    refine m_get_1 E hK hw (n_0 1) rfl 24 rfl dX10_dies_21 (fun rr4_ => ?_)
    refine m_st_6 E hK hw (by omega) rr4_ 25 rfl dX10_dies_24 (fun H locs hw => ?_)
    have hw : WM D cy q (upN n_0 0 0) (upF f_0 6 (upA (f_0 6) v_p (n_0 1))) A0 H0 H locs := hw
    refine j_iconst E 26 rfl dX10_dies_25 ?_
    exact hret 26 1 (upN n_0 0 0) (upF f_0 6 (upA (f_0 6) v_p (n_0 1))) _ _ ls hw (Or.inr rfl) ⟨0, (upA (f_0 6) v_p (n_0 1)), rfl, rfl, ⟨⟨i_now, i_persons, i_lines, i_wordings, i_taped, i_suits, i_spk, i_fam, i_str, i_said, i_book, i_wds, i_tok, i_cod, i_far, i_tap, i_qua, i_sil, i_stz, i_way⟩, by first | exact Or.inl ⟨rfl, rfl, by assumption⟩ | exact Or.inr ⟨rfl, by assumption, rfl⟩⟩⟩ dX10_dies_26
  · subst ee2_
    refine j_if_ne E 13 15 rfl (rr (by decide)) dX10_dies_10 (by decide) (fun cc6_ => absurd cc6_ (by decide)) (fun _ => ?_)
    refine j_iconst E 14 rfl dX10_dies_13 ?_
    exact hret 14 0 (upN n_0 0 0) (upF f_0 6 (f_0 6)) _ _ ls hw (Or.inl rfl) ⟨0, (f_0 6), rfl, rfl, ⟨⟨i_now, i_persons, i_lines, i_wordings, i_taped, i_suits, i_spk, i_fam, i_str, i_said, i_book, i_wds, i_tok, i_cod, i_far, i_tap, i_qua, i_sil, i_stz, i_way⟩, by first | exact Or.inl ⟨rfl, rfl, by assumption⟩ | exact Or.inr ⟨rfl, by assumption, rfl⟩⟩⟩ dX10_dies_14
set_option maxHeartbeats 4000000 in
set_option maxRecDepth 100000 in
theorem c_X10_holds (l : Launch) (D : va_G) (cy : Nat → ClassId) (q : Nat → Nat) (n_0 : Nat → Int) (f_0 : Nat → Int → Int) (v_family v_is : Int) (r_v_family : inR v_family) (r_v_is : inR v_is) (hp0 : MI (n_0) (f_0)) (hp1 : v_is = 0 ∨ v_is = 1) : MC l D cy q yX10_holds cX10_holds 3 (some .boolean) 1 [.int (J v_family), .int (J v_is)] n_0 f_0 (PI (fun (z_0 : Int) (n_2 : Nat → Int) (f_2 : Nat → Int → Int) => ∃ (x0_2 : Int) (y9_2 : Int → Int) , n_2 = upN n_0 0 x0_2 ∧ f_2 = upF f_0 9 y9_2 ∧ (MI (upN n_0 0 x0_2) (upF f_0 9 y9_2) ∧ ((z_0 = 1 ∧ (0 ≤ v_family ∧ v_family ≤ 7) ∧ (y9_2) = upA (f_0 9) v_family v_is) ∨ (z_0 = 0 ∧ (v_family < 0 ∨ 7 < v_family) ∧ (y9_2) = (f_0 9)))))) := by
  refine MC.ofz rfl (Nat.le_of_ble_eq_true rfl) ?_
  intro p e s m below meth c ls ar QW A0 H0 H locs E hK hA hw hl hret
  have hl : lv_has ls 3 [(0, .ref (q 0)), (1, .int (J v_family)), (2, .int (J v_is))] := hl
  have hp0_ := hp0
  obtain ⟨i_now, i_persons, i_lines, i_wordings, i_taped, i_suits, i_spk, i_fam, i_str, i_said, i_book, i_wds, i_tok, i_cod, i_far, i_tap, i_qua, i_sil, i_stz, i_way⟩ := hp0_
  refine j_aload_n E 1 rfl dX10_holds_0 rfl (lv_at hl 0 rfl) ?_
  refine j_iconst E 2 rfl dX10_holds_1 ?_
  refine m_put_0 E hK hw (rr (by decide)) 5 rfl dX10_holds_2 (fun H locs hw => ?_)
  have hw : WM D cy q (upN n_0 0 0) (f_0) A0 H0 H locs := hw
  refine j_aload_n E 6 rfl dX10_holds_5 rfl (lv_at hl 0 rfl) ?_
  refine j_iload_n E 7 rfl dX10_holds_6 rfl (lv_at hl 1 rfl) ?_
  refine j_iconst E 8 rfl dX10_holds_7 ?_
  refine j_bipush E 10 rfl dX10_holds_8 (by decide) ?_
  refine m_callp (po := fun z_0 => (z_0 = 1 ∧ (0 : Int) ≤ v_family ∧ v_family ≤ (7 : Int)) ∨ (z_0 = 0 ∧ (v_family < (0 : Int) ∨ (7 : Int) < v_family))) E (c_X10_isIn l D cy q (upN n_0 0 0) (f_0) v_family 0 7  r_v_family (rr (by decide)) (rr (by decide)) ) rfl mt_X10_isIn ml_X10_169 hK hw hA ⟨Nat.le_of_ble_eq_true rfl, Nat.le_of_ble_eq_true rfl⟩ (As := [.int (J v_family), .int (J 0), .int (J 7)]) (rest := []) rfl rfl hl.1 (Nat.le_of_ble_eq_true rfl) 13 rfl dX10_holds_10 (fun zz2_ H locs rr2_ hq2_ hw => ?_)
  have hh2_ : (zz2_ = 1 ∧ (0 : Int) ≤ v_family ∧ v_family ≤ (7 : Int)) ∨ (zz2_ = 0 ∧ (v_family < (0 : Int) ∨ (7 : Int) < v_family)) := hq2_
  clear hq2_
  rcases hh2_ with ⟨ee2_, hh2_⟩ | ⟨ee2_, hh2_⟩
  · subst ee2_
    refine j_if_ne E 16 18 rfl (rr (by decide)) dX10_holds_13 (by decide) (fun _ => ?_) (fun cc3_ => absurd cc3_ (by decide))
    refine j_aload_n E 19 rfl dX10_holds_18 rfl (lv_at hl 0 rfl) ?_
    refine m_ag_9 E hK hw 22 rfl dX10_holds_19 ?_
    refine j_iload_n E 23 rfl dX10_holds_22 rfl (lv_at hl 1 rfl) ?_
    refine j_iload_n E 24 rfl dX10_holds_23 rfl (lv_at hl 2 rfl) ?_
    refine m_st_9 E hK hw (by omega) r_v_is (by omega) 25 rfl dX10_holds_24 (fun H locs hw => ?_)
    have hw : WM D cy q (upN n_0 0 0) (upF f_0 9 (upA (f_0 9) v_family v_is)) A0 H0 H locs := hw
    refine j_iconst E 26 rfl dX10_holds_25 ?_
    exact hret 26 1 (upN n_0 0 0) (upF f_0 9 (upA (f_0 9) v_family v_is)) _ _ ls hw (Or.inr rfl) ⟨0, (upA (f_0 9) v_family v_is), rfl, rfl, ⟨⟨i_now, i_persons, i_lines, i_wordings, i_taped, i_suits, i_spk, i_fam, i_str, i_said, i_book, i_wds, i_tok, i_cod, i_far, i_tap, i_qua, i_sil, i_stz, i_way⟩, by first | exact Or.inl ⟨rfl, by omega, rfl⟩ | exact Or.inr ⟨rfl, by omega, rfl⟩⟩⟩ dX10_holds_26
  · subst ee2_
    refine j_if_ne E 16 18 rfl (rr (by decide)) dX10_holds_13 (by decide) (fun cc5_ => absurd cc5_ (by decide)) (fun _ => ?_)
    refine j_iconst E 17 rfl dX10_holds_16 ?_
    exact hret 17 0 (upN n_0 0 0) (upF f_0 9 (f_0 9)) _ _ ls hw (Or.inl rfl) ⟨0, (f_0 9), rfl, rfl, ⟨⟨i_now, i_persons, i_lines, i_wordings, i_taped, i_suits, i_spk, i_fam, i_str, i_said, i_book, i_wds, i_tok, i_cod, i_far, i_tap, i_qua, i_sil, i_stz, i_way⟩, by first | exact Or.inl ⟨rfl, by omega, rfl⟩ | exact Or.inr ⟨rfl, by omega, rfl⟩⟩⟩ dX10_holds_17
set_option maxHeartbeats 4000000 in
set_option maxRecDepth 100000 in
theorem c_X10_away (l : Launch) (D : va_G) (cy : Nat → ClassId) (q : Nat → Nat) (n_0 : Nat → Int) (f_0 : Nat → Int → Int) (v_p : Int) (r_v_p : inR v_p) (hp0 : MI (n_0) (f_0)) : MC l D cy q yX10_away cX10_away 2 (some .boolean) 2 [.int (J v_p)] n_0 f_0 (PI (fun (z_0 : Int) (n_2 : Nat → Int) (f_2 : Nat → Int → Int) => ∃ (x0_2 : Int) (y7_2 : Int → Int) , n_2 = upN n_0 0 x0_2 ∧ f_2 = upF f_0 7 y7_2 ∧ (MI (upN n_0 0 x0_2) (upF f_0 7 y7_2) ∧ ((z_0 = 0 ∧ (y7_2) = (f_0 7) ∧ (¬ (0 ≤ v_p ∧ v_p < (n_0 2) ∧ (f_0 6 v_p) = -1) ∨ ¬ (f_0 7 v_p) = 0)) ∨ (z_0 = 1 ∧ (0 ≤ v_p ∧ v_p < (n_0 2) ∧ (f_0 6 v_p) = -1) ∧ (f_0 7 v_p) = 0 ∧ (y7_2) = upA (f_0 7) v_p 1))))) := by
  refine MC.ofz rfl (Nat.le_of_ble_eq_true rfl) ?_
  intro p e s m below meth c ls ar QW A0 H0 H locs E hK hA hw hl hret
  have hl : lv_has ls 2 [(0, .ref (q 0)), (1, .int (J v_p))] := hl
  have hp0_ := hp0
  obtain ⟨i_now, i_persons, i_lines, i_wordings, i_taped, i_suits, i_spk, i_fam, i_str, i_said, i_book, i_wds, i_tok, i_cod, i_far, i_tap, i_qua, i_sil, i_stz, i_way⟩ := hp0_
  refine j_aload_n E 1 rfl dX10_away_0 rfl (lv_at hl 0 rfl) ?_
  refine j_iconst E 2 rfl dX10_away_1 ?_
  refine m_put_0 E hK hw (rr (by decide)) 5 rfl dX10_away_2 (fun H locs hw => ?_)
  have hw : WM D cy q (upN n_0 0 0) (f_0) A0 H0 H locs := hw
  refine j_aload_n E 6 rfl dX10_away_5 rfl (lv_at hl 0 rfl) ?_
  refine j_iload_n E 7 rfl dX10_away_6 rfl (lv_at hl 1 rfl) ?_
  refine m_callp (po := fun z_0 => (z_0 = 1 ∧ 0 ≤ v_p ∧ v_p < (n_0 2) ∧ (f_0 6 v_p) = -1) ∨ (z_0 = 0 ∧ ¬ (0 ≤ v_p ∧ v_p < (n_0 2) ∧ (f_0 6 v_p) = -1))) E (c_X10_isLiving l D cy q (upN n_0 0 0) (f_0) v_p  r_v_p (show (n_0 2) ≤ 24 from by omega)) rfl mt_X10_isLiving ml_X10_176 hK hw hA ⟨Nat.le_of_ble_eq_true rfl, Nat.le_of_ble_eq_true rfl⟩ (As := [.int (J v_p)]) (rest := []) rfl rfl hl.1 (Nat.le_of_ble_eq_true rfl) 10 rfl dX10_away_7 (fun zz2_ H locs rr2_ hq2_ hw => ?_)
  have hh2_ : (zz2_ = 1 ∧ 0 ≤ v_p ∧ v_p < (n_0 2) ∧ (f_0 6 v_p) = -1) ∨ (zz2_ = 0 ∧ ¬ (0 ≤ v_p ∧ v_p < (n_0 2) ∧ (f_0 6 v_p) = -1)) := hq2_
  clear hq2_
  rcases hh2_ with ⟨ee2_, hh2_⟩ | ⟨ee2_, hh2_⟩
  · subst ee2_
    refine j_if_eq E 13 22 rfl (rr (by decide)) dX10_away_10 (by decide) (fun cc3_ => absurd cc3_ (by decide)) (fun _ => ?_)
    refine j_aload_n E 14 rfl dX10_away_13 rfl (lv_at hl 0 rfl) ?_
    refine m_ag_7 E hK hw 17 rfl dX10_away_14 ?_
    refine j_iload_n E 18 rfl dX10_away_17 rfl (lv_at hl 1 rfl) ?_
    refine m_ld_7 E hK hw (f_0 7 v_p) rfl (by omega) 19 rfl dX10_away_18 (fun rr4_ => ?_)
    refine j_if_eq E 22 24 rfl rr4_ dX10_away_19 (by decide) (fun cc5_ => ?_) (fun cc5_ => ?_)
    · refine j_aload_n E 25 rfl dX10_away_24 rfl (lv_at hl 0 rfl) ?_
      refine m_ag_7 E hK hw 28 rfl dX10_away_25 ?_
      refine j_iload_n E 29 rfl dX10_away_28 rfl (lv_at hl 1 rfl) ?_
      refine j_iconst E 30 rfl dX10_away_29 ?_
      refine m_st_7 E hK hw (by omega) (rr (by decide)) (Or.inr rfl) 31 rfl dX10_away_30 (fun H locs hw => ?_)
      have hw : WM D cy q (upN n_0 0 0) (upF f_0 7 (upA (f_0 7) v_p 1)) A0 H0 H locs := hw
      refine j_iconst E 32 rfl dX10_away_31 ?_
      exact hret 32 1 (upN n_0 0 0) (upF f_0 7 (upA (f_0 7) v_p 1)) _ _ ls hw (Or.inr rfl) ⟨0, (upA (f_0 7) v_p 1), rfl, rfl, ⟨⟨i_now, i_persons, i_lines, i_wordings, i_taped, i_suits, i_spk, i_fam, i_str, i_said, i_book, i_wds, i_tok, i_cod, i_far, i_tap, i_qua, i_sil, i_stz, i_way⟩, by first | exact Or.inl ⟨rfl, rfl, Or.inl (by assumption)⟩ | exact Or.inl ⟨rfl, rfl, Or.inr (by omega)⟩ | exact Or.inr ⟨rfl, by assumption, by omega, rfl⟩⟩⟩ dX10_away_32
    · refine j_iconst E 23 rfl dX10_away_22 ?_
      exact hret 23 0 (upN n_0 0 0) (upF f_0 7 (f_0 7)) _ _ ls hw (Or.inl rfl) ⟨0, (f_0 7), rfl, rfl, ⟨⟨i_now, i_persons, i_lines, i_wordings, i_taped, i_suits, i_spk, i_fam, i_str, i_said, i_book, i_wds, i_tok, i_cod, i_far, i_tap, i_qua, i_sil, i_stz, i_way⟩, by first | exact Or.inl ⟨rfl, rfl, Or.inl (by assumption)⟩ | exact Or.inl ⟨rfl, rfl, Or.inr (by omega)⟩ | exact Or.inr ⟨rfl, by assumption, by omega, rfl⟩⟩⟩ dX10_away_23
  · subst ee2_
    refine j_if_eq E 13 22 rfl (rr (by decide)) dX10_away_10 (by decide) (fun _ => ?_) (fun cc7_ => absurd cc7_ (by decide))
    refine j_iconst E 23 rfl dX10_away_22 ?_
    exact hret 23 0 (upN n_0 0 0) (upF f_0 7 (f_0 7)) _ _ ls hw (Or.inl rfl) ⟨0, (f_0 7), rfl, rfl, ⟨⟨i_now, i_persons, i_lines, i_wordings, i_taped, i_suits, i_spk, i_fam, i_str, i_said, i_book, i_wds, i_tok, i_cod, i_far, i_tap, i_qua, i_sil, i_stz, i_way⟩, by first | exact Or.inl ⟨rfl, rfl, Or.inl (by assumption)⟩ | exact Or.inl ⟨rfl, rfl, Or.inr (by omega)⟩ | exact Or.inr ⟨rfl, by assumption, by omega, rfl⟩⟩⟩ dX10_away_23
set_option maxHeartbeats 4000000 in
set_option maxRecDepth 100000 in
theorem c_X10_speaker (l : Launch) (D : va_G) (cy : Nat → ClassId) (q : Nat → Nat) (n_0 : Nat → Int) (f_0 : Nat → Int → Int) (v_p : Int) (r_v_p : inR v_p) (hp0 : MI (n_0) (f_0)) : MC l D cy q yX10_speaker cX10_speaker 2 (some .boolean) 2 [.int (J v_p)] n_0 f_0 (PI (fun (z_0 : Int) (n_2 : Nat → Int) (f_2 : Nat → Int → Int) => ∃ (x0_2 : Int) (x10_2 : Int) , n_2 = upN (upN n_0 0 x0_2) 10 x10_2 ∧ f_2 = f_0 ∧ (MI (upN (upN n_0 0 x0_2) 10 x10_2) (f_0) ∧ ((z_0 = 0 ∧ (¬ v_p = -1 ∧ ¬ (0 ≤ v_p ∧ v_p < (n_0 2) ∧ (f_0 6 v_p) = -1)) ∧ (x10_2) = (n_0 10)) ∨ (z_0 = 1 ∧ (v_p = -1 ∨ (0 ≤ v_p ∧ v_p < (n_0 2) ∧ (f_0 6 v_p) = -1)) ∧ (x10_2) = v_p))))) := by
  refine MC.ofz rfl (Nat.le_of_ble_eq_true rfl) ?_
  intro p e s m below meth c ls ar QW A0 H0 H locs E hK hA hw hl hret
  have hl : lv_has ls 2 [(0, .ref (q 0)), (1, .int (J v_p))] := hl
  have hp0_ := hp0
  obtain ⟨i_now, i_persons, i_lines, i_wordings, i_taped, i_suits, i_spk, i_fam, i_str, i_said, i_book, i_wds, i_tok, i_cod, i_far, i_tap, i_qua, i_sil, i_stz, i_way⟩ := hp0_
  refine j_aload_n E 1 rfl dX10_speaker_0 rfl (lv_at hl 0 rfl) ?_
  refine j_iconst E 2 rfl dX10_speaker_1 ?_
  refine m_put_0 E hK hw (rr (by decide)) 5 rfl dX10_speaker_2 (fun H locs hw => ?_)
  have hw : WM D cy q (upN n_0 0 0) (f_0) A0 H0 H locs := hw
  refine j_iload_n E 6 rfl dX10_speaker_5 rfl (lv_at hl 1 rfl) ?_
  refine j_iconst E 7 rfl dX10_speaker_6 ?_
  refine j_icmp_eq E 10 20 rfl r_v_p (rr (by decide)) dX10_speaker_7 (by decide) (fun cc2_ => ?_) (fun cc2_ => ?_)
  · refine j_aload_n E 21 rfl dX10_speaker_20 rfl (lv_at hl 0 rfl) ?_
    refine j_iload_n E 22 rfl dX10_speaker_21 rfl (lv_at hl 1 rfl) ?_
    refine m_put_10 E hK hw r_v_p 25 rfl dX10_speaker_22 (fun H locs hw => ?_)
    have hw : WM D cy q (upN (upN n_0 0 0) 10 v_p) (f_0) A0 H0 H locs := hw
    refine j_iconst E 26 rfl dX10_speaker_25 ?_
    exact hret 26 1 (upN (upN n_0 0 0) 10 v_p) (f_0) _ _ ls hw (Or.inr rfl) ⟨0, v_p, rfl, rfl, ⟨⟨i_now, i_persons, i_lines, i_wordings, i_taped, i_suits, (show -1 ≤ (v_p) ∧ (v_p) < 24 from by omega), i_fam, i_str, i_said, i_book, i_wds, i_tok, i_cod, i_far, i_tap, i_qua, i_sil, i_stz, i_way⟩, by first | exact Or.inl ⟨rfl, by omega, rfl⟩ | exact Or.inr ⟨rfl, by omega, rfl⟩⟩⟩ dX10_speaker_26
  · refine j_aload_n E 11 rfl dX10_speaker_10 rfl (lv_at hl 0 rfl) ?_
    refine j_iload_n E 12 rfl dX10_speaker_11 rfl (lv_at hl 1 rfl) ?_
    refine m_callp (po := fun z_0 => (z_0 = 1 ∧ 0 ≤ v_p ∧ v_p < (n_0 2) ∧ (f_0 6 v_p) = -1) ∨ (z_0 = 0 ∧ ¬ (0 ≤ v_p ∧ v_p < (n_0 2) ∧ (f_0 6 v_p) = -1))) E (c_X10_isLiving l D cy q (upN n_0 0 0) (f_0) v_p  r_v_p (show (n_0 2) ≤ 24 from by omega)) rfl mt_X10_isLiving ml_X10_176 hK hw hA ⟨Nat.le_of_ble_eq_true rfl, Nat.le_of_ble_eq_true rfl⟩ (As := [.int (J v_p)]) (rest := []) rfl rfl hl.1 (Nat.le_of_ble_eq_true rfl) 15 rfl dX10_speaker_12 (fun zz4_ H locs rr4_ hq4_ hw => ?_)
    have hh4_ : (zz4_ = 1 ∧ 0 ≤ v_p ∧ v_p < (n_0 2) ∧ (f_0 6 v_p) = -1) ∨ (zz4_ = 0 ∧ ¬ (0 ≤ v_p ∧ v_p < (n_0 2) ∧ (f_0 6 v_p) = -1)) := hq4_
    clear hq4_
    rcases hh4_ with ⟨ee4_, hh4_⟩ | ⟨ee4_, hh4_⟩
    · subst ee4_
      refine j_if_ne E 18 20 rfl (rr (by decide)) dX10_speaker_15 (by decide) (fun _ => ?_) (fun cc5_ => absurd cc5_ (by decide))
      refine j_aload_n E 21 rfl dX10_speaker_20 rfl (lv_at hl 0 rfl) ?_
      refine j_iload_n E 22 rfl dX10_speaker_21 rfl (lv_at hl 1 rfl) ?_
      refine m_put_10 E hK hw r_v_p 25 rfl dX10_speaker_22 (fun H locs hw => ?_)
      have hw : WM D cy q (upN (upN n_0 0 0) 10 v_p) (f_0) A0 H0 H locs := hw
      refine j_iconst E 26 rfl dX10_speaker_25 ?_
      exact hret 26 1 (upN (upN n_0 0 0) 10 v_p) (f_0) _ _ ls hw (Or.inr rfl) ⟨0, v_p, rfl, rfl, ⟨⟨i_now, i_persons, i_lines, i_wordings, i_taped, i_suits, (show -1 ≤ (v_p) ∧ (v_p) < 24 from by omega), i_fam, i_str, i_said, i_book, i_wds, i_tok, i_cod, i_far, i_tap, i_qua, i_sil, i_stz, i_way⟩, by first | exact Or.inl ⟨rfl, by omega, rfl⟩ | exact Or.inr ⟨rfl, by omega, rfl⟩⟩⟩ dX10_speaker_26
    · subst ee4_
      refine j_if_ne E 18 20 rfl (rr (by decide)) dX10_speaker_15 (by decide) (fun cc7_ => absurd cc7_ (by decide)) (fun _ => ?_)
      refine j_iconst E 19 rfl dX10_speaker_18 ?_
      exact hret 19 0 (upN (upN n_0 0 0) 10 (n_0 10)) (f_0) _ _ ls hw (Or.inl rfl) ⟨0, (n_0 10), rfl, rfl, ⟨⟨i_now, i_persons, i_lines, i_wordings, i_taped, i_suits, (show -1 ≤ (n_0 10) ∧ (n_0 10) < 24 from by omega), i_fam, i_str, i_said, i_book, i_wds, i_tok, i_cod, i_far, i_tap, i_qua, i_sil, i_stz, i_way⟩, by first | exact Or.inl ⟨rfl, by omega, rfl⟩ | exact Or.inr ⟨rfl, by omega, rfl⟩⟩⟩ dX10_speaker_19
set_option maxHeartbeats 4000000 in
set_option maxRecDepth 100000 in
theorem c_X10_way (l : Launch) (D : va_G) (cy : Nat → ClassId) (q : Nat → Nat) (n_0 : Nat → Int) (f_0 : Nat → Int → Int) (v_v : Int) (r_v_v : inR v_v) (hp0 : MI (n_0) (f_0)) : MC l D cy q yX10_way cX10_way 2 (some .boolean) 1 [.int (J v_v)] n_0 f_0 (PI (fun (z_0 : Int) (n_2 : Nat → Int) (f_2 : Nat → Int → Int) => ∃ (x0_2 : Int) (x11_2 : Int) , n_2 = upN (upN n_0 0 x0_2) 11 x11_2 ∧ f_2 = f_0 ∧ (MI (upN (upN n_0 0 x0_2) 11 x11_2) (f_0) ∧ ((z_0 = 1 ∧ (0 ≤ v_v ∧ v_v ≤ 2) ∧ (x11_2) = v_v) ∨ (z_0 = 0 ∧ (v_v < 0 ∨ 2 < v_v) ∧ (x11_2) = (n_0 11)))))) := by
  refine MC.ofz rfl (Nat.le_of_ble_eq_true rfl) ?_
  intro p e s m below meth c ls ar QW A0 H0 H locs E hK hA hw hl hret
  have hl : lv_has ls 2 [(0, .ref (q 0)), (1, .int (J v_v))] := hl
  have hp0_ := hp0
  obtain ⟨i_now, i_persons, i_lines, i_wordings, i_taped, i_suits, i_spk, i_fam, i_str, i_said, i_book, i_wds, i_tok, i_cod, i_far, i_tap, i_qua, i_sil, i_stz, i_way⟩ := hp0_
  refine j_aload_n E 1 rfl dX10_way_0 rfl (lv_at hl 0 rfl) ?_
  refine j_iconst E 2 rfl dX10_way_1 ?_
  refine m_put_0 E hK hw (rr (by decide)) 5 rfl dX10_way_2 (fun H locs hw => ?_)
  have hw : WM D cy q (upN n_0 0 0) (f_0) A0 H0 H locs := hw
  refine j_aload_n E 6 rfl dX10_way_5 rfl (lv_at hl 0 rfl) ?_
  refine j_iload_n E 7 rfl dX10_way_6 rfl (lv_at hl 1 rfl) ?_
  refine j_iconst E 8 rfl dX10_way_7 ?_
  refine j_iconst E 9 rfl dX10_way_8 ?_
  refine m_callp (po := fun z_0 => (z_0 = 1 ∧ (0 : Int) ≤ v_v ∧ v_v ≤ (2 : Int)) ∨ (z_0 = 0 ∧ (v_v < (0 : Int) ∨ (2 : Int) < v_v))) E (c_X10_isIn l D cy q (upN n_0 0 0) (f_0) v_v 0 2  r_v_v (rr (by decide)) (rr (by decide)) ) rfl mt_X10_isIn ml_X10_169 hK hw hA ⟨Nat.le_of_ble_eq_true rfl, Nat.le_of_ble_eq_true rfl⟩ (As := [.int (J v_v), .int (J 0), .int (J 2)]) (rest := []) rfl rfl hl.1 (Nat.le_of_ble_eq_true rfl) 12 rfl dX10_way_9 (fun zz2_ H locs rr2_ hq2_ hw => ?_)
  have hh2_ : (zz2_ = 1 ∧ (0 : Int) ≤ v_v ∧ v_v ≤ (2 : Int)) ∨ (zz2_ = 0 ∧ (v_v < (0 : Int) ∨ (2 : Int) < v_v)) := hq2_
  clear hq2_
  rcases hh2_ with ⟨ee2_, hh2_⟩ | ⟨ee2_, hh2_⟩
  · subst ee2_
    refine j_if_ne E 15 17 rfl (rr (by decide)) dX10_way_12 (by decide) (fun _ => ?_) (fun cc3_ => absurd cc3_ (by decide))
    refine j_aload_n E 18 rfl dX10_way_17 rfl (lv_at hl 0 rfl) ?_
    refine j_iload_n E 19 rfl dX10_way_18 rfl (lv_at hl 1 rfl) ?_
    refine m_put_11 E hK hw r_v_v 22 rfl dX10_way_19 (fun H locs hw => ?_)
    have hw : WM D cy q (upN (upN n_0 0 0) 11 v_v) (f_0) A0 H0 H locs := hw
    refine j_iconst E 23 rfl dX10_way_22 ?_
    exact hret 23 1 (upN (upN n_0 0 0) 11 v_v) (f_0) _ _ ls hw (Or.inr rfl) ⟨0, v_v, rfl, rfl, ⟨⟨i_now, i_persons, i_lines, i_wordings, i_taped, i_suits, i_spk, i_fam, i_str, i_said, i_book, i_wds, i_tok, i_cod, i_far, i_tap, i_qua, i_sil, i_stz, (show 0 ≤ (v_v) ∧ (v_v) ≤ 2 from by omega)⟩, by omega⟩⟩ dX10_way_23
  · subst ee2_
    refine j_if_ne E 15 17 rfl (rr (by decide)) dX10_way_12 (by decide) (fun cc5_ => absurd cc5_ (by decide)) (fun _ => ?_)
    refine j_iconst E 16 rfl dX10_way_15 ?_
    exact hret 16 0 (upN (upN n_0 0 0) 11 (n_0 11)) (f_0) _ _ ls hw (Or.inl rfl) ⟨0, (n_0 11), rfl, rfl, ⟨⟨i_now, i_persons, i_lines, i_wordings, i_taped, i_suits, i_spk, i_fam, i_str, i_said, i_book, i_wds, i_tok, i_cod, i_far, i_tap, i_qua, i_sil, i_stz, (show 0 ≤ (n_0 11) ∧ (n_0 11) ≤ 2 from by omega)⟩, by omega⟩⟩ dX10_way_16
set_option maxHeartbeats 4000000 in
set_option maxRecDepth 100000 in
theorem c_X10_of (l : Launch) (D : va_G) (cy : Nat → ClassId) (q : Nat → Nat) (n_0 : Nat → Int) (f_0 : Nat → Int → Int) (v_p v_what : Int) (r_v_p : inR v_p) (r_v_what : inR v_what) (hp0 : MI (n_0) (f_0)) : MC l D cy q yX10_of cX10_of 5 (some .int) 3 [.int (J v_p), .int (J v_what)] n_0 f_0 (PI (fun (z_0 : Int) (n_2 : Nat → Int) (f_2 : Nat → Int → Int) => ∃ (x0_2 : Int) , n_2 = upN n_0 0 x0_2 ∧ f_2 = f_0 ∧ (MI (upN n_0 0 x0_2) (f_0) ∧ ((¬ (0 ≤ v_p ∧ v_p < (n_0 2)) ∧ z_0 = -100) ∨ ((0 ≤ v_p ∧ v_p < (n_0 2)) ∧ Of_ v_what ((f_0 3 v_p)) ((f_0 4 v_p)) ((f_0 5 v_p)) ((f_0 6 v_p)) ((f_0 6 v_p) = -1 ∧ Ou_ (n_0 48) (f_0 50) (f_0 52) (f_0 54) (f_0 53) (n_0 1) v_p) (nq_ (fun l_ => 0 < (f_0 19 (24 * v_p + l_))) 24) ((f_0 7 v_p)) z_0))))) := by
  refine MC.ofi rfl (Nat.le_of_ble_eq_true rfl) ?_
  intro p e s m below meth c ls ar QW A0 H0 H locs E hK hA hw hl hret
  have hl : lv_has ls 5 [(0, .ref (q 0)), (1, .int (J v_p)), (2, .int (J v_what))] := hl
  have hp0_ := hp0
  obtain ⟨i_now, i_persons, i_lines, i_wordings, i_taped, i_suits, i_spk, i_fam, i_str, i_said, i_book, i_wds, i_tok, i_cod, i_far, i_tap, i_qua, i_sil, i_stz, i_way⟩ := hp0_
  refine j_aload_n E 1 rfl dX10_of_0 rfl (lv_at hl 0 rfl) ?_
  refine j_iconst E 2 rfl dX10_of_1 ?_
  refine m_put_0 E hK hw (rr (by decide)) 5 rfl dX10_of_2 (fun H locs hw => ?_)
  have hw : WM D cy q (upN n_0 0 0) (f_0) A0 H0 H locs := hw
  refine j_aload_n E 6 rfl dX10_of_5 rfl (lv_at hl 0 rfl) ?_
  refine j_iload_n E 7 rfl dX10_of_6 rfl (lv_at hl 1 rfl) ?_
  refine m_callp (po := fun z_0 => (z_0 = 1 ∧ 0 ≤ v_p ∧ v_p < (n_0 2)) ∨ (z_0 = 0 ∧ (v_p < 0 ∨ (n_0 2) ≤ v_p))) E (c_X10_isPerson l D cy q (upN n_0 0 0) (f_0) v_p  r_v_p ) rfl mt_X10_isPerson ml_X10_165 hK hw hA ⟨Nat.le_of_ble_eq_true rfl, Nat.le_of_ble_eq_true rfl⟩ (As := [.int (J v_p)]) (rest := []) rfl rfl hl.1 (Nat.le_of_ble_eq_true rfl) 10 rfl dX10_of_7 (fun zz2_ H locs rr2_ hq2_ hw => ?_)
  have hh2_ : (zz2_ = 1 ∧ 0 ≤ v_p ∧ v_p < (n_0 2)) ∨ (zz2_ = 0 ∧ (v_p < 0 ∨ (n_0 2) ≤ v_p)) := hq2_
  clear hq2_
  rcases hh2_ with ⟨ee2_, hh2_⟩ | ⟨ee2_, hh2_⟩
  · subst ee2_
    refine j_if_ne E 13 16 rfl (rr (by decide)) dX10_of_10 (by decide) (fun _ => ?_) (fun cc3_ => absurd cc3_ (by decide))
    refine j_iload_n E 17 rfl dX10_of_16 rfl (lv_at hl 2 rfl) ?_
    refine j_if_ne E 20 27 rfl r_v_what dX10_of_17 (by decide) (fun cc4_ => ?_) (fun cc4_ => ?_)
    · refine j_iload_n E 28 rfl dX10_of_27 rfl (lv_at hl 2 rfl) ?_
      refine j_iconst E 29 rfl dX10_of_28 ?_
      refine j_icmp_ne E 32 39 rfl r_v_what (rr (by decide)) dX10_of_29 (by decide) (fun cc5_ => ?_) (fun cc5_ => ?_)
      · refine j_iload_n E 40 rfl dX10_of_39 rfl (lv_at hl 2 rfl) ?_
        refine j_iconst E 41 rfl dX10_of_40 ?_
        refine j_icmp_ne E 44 51 rfl r_v_what (rr (by decide)) dX10_of_41 (by decide) (fun cc6_ => ?_) (fun cc6_ => ?_)
        · refine j_iload_n E 52 rfl dX10_of_51 rfl (lv_at hl 2 rfl) ?_
          refine j_iconst E 53 rfl dX10_of_52 ?_
          refine j_icmp_ne E 56 63 rfl r_v_what (rr (by decide)) dX10_of_53 (by decide) (fun cc7_ => ?_) (fun cc7_ => ?_)
          · refine j_iload_n E 64 rfl dX10_of_63 rfl (lv_at hl 2 rfl) ?_
            refine j_iconst E 65 rfl dX10_of_64 ?_
            refine j_icmp_ne E 68 82 rfl r_v_what (rr (by decide)) dX10_of_65 (by decide) (fun cc8_ => ?_) (fun cc8_ => ?_)
            · refine j_iload_n E 83 rfl dX10_of_82 rfl (lv_at hl 2 rfl) ?_
              refine j_iconst E 84 rfl dX10_of_83 ?_
              refine j_icmp_ne E 87 128 rfl r_v_what (rr (by decide)) dX10_of_84 (by decide) (fun cc9_ => ?_) (fun cc9_ => ?_)
              · refine j_iload_n E 129 rfl dX10_of_128 rfl (lv_at hl 2 rfl) ?_
                refine j_bipush E 131 rfl dX10_of_129 (by decide) ?_
                refine j_icmp_ne E 134 151 rfl r_v_what (rr (by decide)) dX10_of_131 (by decide) (fun cc10_ => ?_) (fun cc10_ => ?_)
                · refine j_bipush E 153 rfl dX10_of_151 (by decide) ?_
                  exact hret 153 ((-100)) (upN n_0 0 0) (f_0) _ _ ls hw (rr (by decide)) ⟨0, rfl, rfl, ⟨⟨i_now, i_persons, i_lines, i_wordings, i_taped, i_suits, i_spk, i_fam, i_str, i_said, i_book, i_wds, i_tok, i_cod, i_far, i_tap, i_qua, i_sil, i_stz, i_way⟩, by first | exact Or.inr ⟨by omega, Or.inr (Or.inr (Or.inr (Or.inr (Or.inr (Or.inr (Or.inl ⟨by omega, Or.inl ⟨rfl, by omega⟩⟩))))))⟩ | exact Or.inr ⟨by omega, Or.inr (Or.inr (Or.inr (Or.inr (Or.inr (Or.inr (Or.inl ⟨by omega, Or.inr ⟨rfl, by omega⟩⟩))))))⟩ | exact Or.inr ⟨by omega, Or.inr (Or.inr (Or.inr (Or.inr (Or.inr (Or.inr (Or.inr (⟨by omega, rfl⟩)))))))⟩⟩⟩ dX10_of_153
                · refine j_aload_n E 135 rfl dX10_of_134 rfl (lv_at hl 0 rfl) ?_
                  refine m_ag_7 E hK hw 138 rfl dX10_of_135 ?_
                  refine j_iload_n E 139 rfl dX10_of_138 rfl (lv_at hl 1 rfl) ?_
                  refine m_ld_7 E hK hw (f_0 7 v_p) rfl (by omega) 140 rfl dX10_of_139 (fun rr11_ => ?_)
                  refine j_if_eq E 143 147 rfl rr11_ dX10_of_140 (by decide) (fun cc12_ => ?_) (fun cc12_ => ?_)
                  · refine j_iconst E 148 rfl dX10_of_147 ?_
                    refine j_goto E 153 dX10_of_148 (by decide) ?_
                    exact hret 153 0 (upN n_0 0 0) (f_0) _ _ ls hw (rr (by decide)) ⟨0, rfl, rfl, ⟨⟨i_now, i_persons, i_lines, i_wordings, i_taped, i_suits, i_spk, i_fam, i_str, i_said, i_book, i_wds, i_tok, i_cod, i_far, i_tap, i_qua, i_sil, i_stz, i_way⟩, by first | exact Or.inr ⟨by omega, Or.inr (Or.inr (Or.inr (Or.inr (Or.inr (Or.inr (Or.inl ⟨by omega, Or.inl ⟨rfl, by omega⟩⟩))))))⟩ | exact Or.inr ⟨by omega, Or.inr (Or.inr (Or.inr (Or.inr (Or.inr (Or.inr (Or.inl ⟨by omega, Or.inr ⟨rfl, by omega⟩⟩))))))⟩ | exact Or.inr ⟨by omega, Or.inr (Or.inr (Or.inr (Or.inr (Or.inr (Or.inr (Or.inr (⟨by omega, rfl⟩)))))))⟩⟩⟩ dX10_of_153
                  · refine j_iconst E 144 rfl dX10_of_143 ?_
                    refine j_goto E 153 dX10_of_144 (by decide) ?_
                    exact hret 153 1 (upN n_0 0 0) (f_0) _ _ ls hw (rr (by decide)) ⟨0, rfl, rfl, ⟨⟨i_now, i_persons, i_lines, i_wordings, i_taped, i_suits, i_spk, i_fam, i_str, i_said, i_book, i_wds, i_tok, i_cod, i_far, i_tap, i_qua, i_sil, i_stz, i_way⟩, by first | exact Or.inr ⟨by omega, Or.inr (Or.inr (Or.inr (Or.inr (Or.inr (Or.inr (Or.inl ⟨by omega, Or.inl ⟨rfl, by omega⟩⟩))))))⟩ | exact Or.inr ⟨by omega, Or.inr (Or.inr (Or.inr (Or.inr (Or.inr (Or.inr (Or.inl ⟨by omega, Or.inr ⟨rfl, by omega⟩⟩))))))⟩ | exact Or.inr ⟨by omega, Or.inr (Or.inr (Or.inr (Or.inr (Or.inr (Or.inr (Or.inr (⟨by omega, rfl⟩)))))))⟩⟩⟩ dX10_of_153
              · refine j_iconst E 88 rfl dX10_of_87 ?_
                refine j_istore_n E 89 rfl [(3, .int (J 0)), (0, .ref (q 0)), (1, .int (J v_p)), (2, .int (J v_what))] dX10_of_88 rfl hl (by decide) rfl (fun ls hl => ?_)
                refine j_iconst E 90 rfl dX10_of_89 ?_
                refine j_istore E 92 rfl [(4, .int (J 0)), (3, .int (J 0)), (0, .ref (q 0)), (1, .int (J v_p)), (2, .int (J v_what))] dX10_of_90 hl (by decide) rfl (fun ls hl => ?_)
                have L92_13 : ∀ (k92 : Nat) (gc gi : Int) (H : Heap) (locs : List Loc) (ls : Array Slot), inR gc → inR gi → (0 ≤ gi ∧ gi ≤ 24 ∧ (0 ≤ gc ∧ gc ≤ gi) ∧ gi ≤ (n_0 12) ∧ gc = nq_ (fun l_ => 0 < (f_0 19 (24 * v_p + l_))) (gi).toNat) → (24 - gi) < (k92 : Int) → WM D cy q (upN n_0 0 0) (f_0) A0 H0 H locs → lv_has ls 5 [(0, .ref (q 0)), (1, .int (J v_p)), (2, .int (J v_what)), (3, .int (J gc)), (4, .int (J gi))] → W p l e (rmd 3 0 0) s m ar below meth c H locs 0 0 QW (F0 m 92 ls []) := by
                  intro k92
                  induction k92 with
                  | zero =>
                    intro gc gi H locs ls r_gc r_gi iv92 ms92 hw hl
                    exfalso; omega
                  | succ k92 ih92 =>
                    intro gc gi H locs ls r_gc r_gi iv92 ms92 hw hl
                    refine j_iload E 94 rfl dX10_of_92 (lv_at hl 4 rfl) ?_
                    refine j_aload_n E 95 rfl dX10_of_94 rfl (lv_at hl 0 rfl) ?_
                    refine m_get_12 E hK hw (n_0 12) rfl 98 rfl dX10_of_95 (fun rr15_ => ?_)
                    refine j_icmp_ge E 101 126 rfl r_gi rr15_ dX10_of_98 (by decide) (fun cc16_ => ?_) (fun cc16_ => ?_)
                    · refine j_iload_n E 127 rfl dX10_of_126 rfl (lv_at hl 3 rfl) ?_
                      exact hret 127 gc (upN n_0 0 0) (f_0) _ _ ls hw r_gc ⟨0, rfl, rfl, ⟨⟨i_now, i_persons, i_lines, i_wordings, i_taped, i_suits, i_spk, i_fam, i_str, i_said, i_book, i_wds, i_tok, i_cod, i_far, i_tap, i_qua, i_sil, i_stz, i_way⟩, Or.inr ⟨by omega, Or.inr (Or.inr (Or.inr (Or.inr (Or.inr (Or.inl ⟨by omega, by rw [nq_tl2 (L := (n_0 12)) (by omega) 24 (fun l_ h1_ h2_ => by show ¬ 0 < (f_0 19 (24 * v_p + l_)); have q_ := i_stz.2 v_p l_ (by omega) (by omega) (by omega) (Or.inr h1_); omega) (by omega), show ((n_0 12)).toNat = (gi).toNat by omega]; exact iv92.2.2.2.2⟩)))))⟩⟩⟩ dX10_of_127
                    · refine j_aload_n E 102 rfl dX10_of_101 rfl (lv_at hl 0 rfl) ?_
                      refine m_ag_19 E hK hw 105 rfl dX10_of_102 ?_
                      refine j_bipush E 107 rfl dX10_of_105 (by decide) ?_
                      refine j_iload_n E 108 rfl dX10_of_107 rfl (lv_at hl 1 rfl) ?_
                      refine j_imul E 109 rfl dX10_of_108 ?_
                      refine j_iload E 111 rfl dX10_of_109 (lv_at hl 4 rfl) ?_
                      refine j_iadd E 112 rfl dX10_of_111 ?_
                      refine m_ld_19 E hK hw (f_0 19 ((24 * v_p) + gi)) rfl (by omega) 113 rfl dX10_of_112 (fun rr17_ => ?_)
                      refine j_if_le E 116 120 rfl rr17_ dX10_of_113 (by decide) (fun cc18_ => ?_) (fun cc18_ => ?_)
                      · refine j_iinc E 123 rfl [(4, .int (J (gi + 1))), (0, .ref (q 0)), (1, .int (J v_p)), (2, .int (J v_what)), (3, .int (J gc))] dX10_of_120 hl (kk := 4) rfl (by decide) rfl (fun ls hl => ?_)
                        refine j_goto E 92 dX10_of_123 (by decide) ?_
                        exact ih92 gc (gi + 1) H locs ls r_gc (rr (by omega)) (⟨by omega, by omega, by omega, by omega, by first | exact nq_y iv92.2.2.2.2 (by omega) (show 0 < (f_0 19 (24 * v_p + gi)) from by omega) | exact nq_n iv92.2.2.2.2 (by omega) (show ¬ 0 < (f_0 19 (24 * v_p + gi)) from by omega)⟩) (by omega) hw (lv_sub hl [1, 2, 3, 4, 0] rfl)
                      · refine j_iload_n E 117 rfl dX10_of_116 rfl (lv_at hl 3 rfl) ?_
                        refine j_iconst E 118 rfl dX10_of_117 ?_
                        refine j_iadd E 119 rfl dX10_of_118 ?_
                        refine j_istore_n E 120 rfl [(3, .int (J (gc + 1))), (0, .ref (q 0)), (1, .int (J v_p)), (2, .int (J v_what)), (4, .int (J gi))] dX10_of_119 rfl hl (by decide) rfl (fun ls hl => ?_)
                        refine j_iinc E 123 rfl [(4, .int (J (gi + 1))), (3, .int (J (gc + 1))), (0, .ref (q 0)), (1, .int (J v_p)), (2, .int (J v_what))] dX10_of_120 hl (kk := 4) rfl (by decide) rfl (fun ls hl => ?_)
                        refine j_goto E 92 dX10_of_123 (by decide) ?_
                        exact ih92 (gc + 1) (gi + 1) H locs ls (rr (by omega)) (rr (by omega)) (⟨by omega, by omega, by omega, by omega, by first | exact nq_y iv92.2.2.2.2 (by omega) (show 0 < (f_0 19 (24 * v_p + gi)) from by omega) | exact nq_n iv92.2.2.2.2 (by omega) (show ¬ 0 < (f_0 19 (24 * v_p + gi)) from by omega)⟩) (by omega) hw (lv_sub hl [2, 3, 4, 1, 0] rfl)
                exact L92_13 _ 0 0 H locs ls (rr (by decide)) (rr (by decide)) (⟨by omega, by omega, by omega, by omega, nq_0⟩) (mk_lt _) hw (lv_sub hl [2, 3, 4, 1, 0] rfl)
            · refine j_aload_n E 69 rfl dX10_of_68 rfl (lv_at hl 0 rfl) ?_
              refine j_iload_n E 70 rfl dX10_of_69 rfl (lv_at hl 1 rfl) ?_
              refine m_callp (po := fun z_0 => (z_0 = 1 ∧ (0 ≤ v_p ∧ v_p < (n_0 2) ∧ (f_0 6 v_p) = -1) ∧ Ou_ (n_0 48) (f_0 50) (f_0 52) (f_0 54) (f_0 53) (n_0 1) v_p) ∨ (z_0 = 0 ∧ ¬ ((0 ≤ v_p ∧ v_p < (n_0 2) ∧ (f_0 6 v_p) = -1) ∧ Ou_ (n_0 48) (f_0 50) (f_0 52) (f_0 54) (f_0 53) (n_0 1) v_p))) E (c_X10_isOutlaw l D cy q (upN n_0 0 0) (f_0) v_p  r_v_p (show (n_0 2) ≤ 24 from by omega) (show 0 ≤ (n_0 1) ∧ (n_0 1) ≤ 199 from by omega) (show 0 ≤ (n_0 48) ∧ (n_0 48) ≤ 100 from by omega)) rfl mt_X10_isOutlaw ml_X10_182 hK hw hA ⟨Nat.le_of_ble_eq_true rfl, Nat.le_of_ble_eq_true rfl⟩ (As := [.int (J v_p)]) (rest := []) rfl rfl hl.1 (Nat.le_of_ble_eq_true rfl) 73 rfl dX10_of_70 (fun zz19_ H locs rr19_ hq19_ hw => ?_)
              have hh19_ : (zz19_ = 1 ∧ (0 ≤ v_p ∧ v_p < (n_0 2) ∧ (f_0 6 v_p) = -1) ∧ Ou_ (n_0 48) (f_0 50) (f_0 52) (f_0 54) (f_0 53) (n_0 1) v_p) ∨ (zz19_ = 0 ∧ ¬ ((0 ≤ v_p ∧ v_p < (n_0 2) ∧ (f_0 6 v_p) = -1) ∧ Ou_ (n_0 48) (f_0 50) (f_0 52) (f_0 54) (f_0 53) (n_0 1) v_p)) := hq19_
              clear hq19_
              rcases hh19_ with ⟨ee19_, hh19_⟩ | ⟨ee19_, hh19_⟩
              · subst ee19_
                have ou_ := hh19_
                clear hh19_
                refine j_if_eq E 76 80 rfl (rr (by decide)) dX10_of_73 (by decide) (fun cc20_ => absurd cc20_ (by decide)) (fun _ => ?_)
                refine j_iconst E 77 rfl dX10_of_76 ?_
                refine j_goto E 81 dX10_of_77 (by decide) ?_
                exact hret 81 1 (upN n_0 0 0) (f_0) _ _ ls hw (rr (by decide)) ⟨0, rfl, rfl, ⟨⟨i_now, i_persons, i_lines, i_wordings, i_taped, i_suits, i_spk, i_fam, i_str, i_said, i_book, i_wds, i_tok, i_cod, i_far, i_tap, i_qua, i_sil, i_stz, i_way⟩, Or.inr ⟨by omega, Or.inr (Or.inr (Or.inr (Or.inr (Or.inl ⟨by omega, by first | exact Or.inl ⟨rfl, ou_.1.2.2, ou_.2⟩ | exact Or.inr ⟨rfl, fun q_ => no_ ⟨⟨by omega, by omega, q_.1⟩, q_.2⟩⟩⟩))))⟩⟩⟩ dX10_of_81
              · subst ee19_
                have no_ := hh19_
                clear hh19_
                refine j_if_eq E 76 80 rfl (rr (by decide)) dX10_of_73 (by decide) (fun _ => ?_) (fun cc21_ => absurd cc21_ (by decide))
                refine j_iconst E 81 rfl dX10_of_80 ?_
                exact hret 81 0 (upN n_0 0 0) (f_0) _ _ ls hw (rr (by decide)) ⟨0, rfl, rfl, ⟨⟨i_now, i_persons, i_lines, i_wordings, i_taped, i_suits, i_spk, i_fam, i_str, i_said, i_book, i_wds, i_tok, i_cod, i_far, i_tap, i_qua, i_sil, i_stz, i_way⟩, Or.inr ⟨by omega, Or.inr (Or.inr (Or.inr (Or.inr (Or.inl ⟨by omega, by first | exact Or.inl ⟨rfl, ou_.1.2.2, ou_.2⟩ | exact Or.inr ⟨rfl, fun q_ => no_ ⟨⟨by omega, by omega, q_.1⟩, q_.2⟩⟩⟩))))⟩⟩⟩ dX10_of_81
          · refine j_aload_n E 57 rfl dX10_of_56 rfl (lv_at hl 0 rfl) ?_
            refine m_ag_6 E hK hw 60 rfl dX10_of_57 ?_
            refine j_iload_n E 61 rfl dX10_of_60 rfl (lv_at hl 1 rfl) ?_
            refine m_ld_6 E hK hw (f_0 6 v_p) rfl (by omega) 62 rfl dX10_of_61 (fun rr22_ => ?_)
            exact hret 62 (f_0 6 v_p) (upN n_0 0 0) (f_0) _ _ ls hw rr22_ ⟨0, rfl, rfl, ⟨⟨i_now, i_persons, i_lines, i_wordings, i_taped, i_suits, i_spk, i_fam, i_str, i_said, i_book, i_wds, i_tok, i_cod, i_far, i_tap, i_qua, i_sil, i_stz, i_way⟩, Or.inr ⟨by omega, Or.inr (Or.inr (Or.inr (Or.inl ⟨by omega, rfl⟩)))⟩⟩⟩ dX10_of_62
        · refine j_aload_n E 45 rfl dX10_of_44 rfl (lv_at hl 0 rfl) ?_
          refine m_ag_5 E hK hw 48 rfl dX10_of_45 ?_
          refine j_iload_n E 49 rfl dX10_of_48 rfl (lv_at hl 1 rfl) ?_
          refine m_ld_5 E hK hw (f_0 5 v_p) rfl (by omega) 50 rfl dX10_of_49 (fun rr23_ => ?_)
          exact hret 50 (f_0 5 v_p) (upN n_0 0 0) (f_0) _ _ ls hw rr23_ ⟨0, rfl, rfl, ⟨⟨i_now, i_persons, i_lines, i_wordings, i_taped, i_suits, i_spk, i_fam, i_str, i_said, i_book, i_wds, i_tok, i_cod, i_far, i_tap, i_qua, i_sil, i_stz, i_way⟩, Or.inr ⟨by omega, Or.inr (Or.inr (Or.inl ⟨by omega, rfl⟩))⟩⟩⟩ dX10_of_50
      · refine j_aload_n E 33 rfl dX10_of_32 rfl (lv_at hl 0 rfl) ?_
        refine m_ag_4 E hK hw 36 rfl dX10_of_33 ?_
        refine j_iload_n E 37 rfl dX10_of_36 rfl (lv_at hl 1 rfl) ?_
        refine m_ld_4 E hK hw (f_0 4 v_p) rfl (by omega) 38 rfl dX10_of_37 (fun rr24_ => ?_)
        exact hret 38 (f_0 4 v_p) (upN n_0 0 0) (f_0) _ _ ls hw rr24_ ⟨0, rfl, rfl, ⟨⟨i_now, i_persons, i_lines, i_wordings, i_taped, i_suits, i_spk, i_fam, i_str, i_said, i_book, i_wds, i_tok, i_cod, i_far, i_tap, i_qua, i_sil, i_stz, i_way⟩, Or.inr ⟨by omega, Or.inr (Or.inl ⟨by omega, rfl⟩)⟩⟩⟩ dX10_of_38
    · refine j_aload_n E 21 rfl dX10_of_20 rfl (lv_at hl 0 rfl) ?_
      refine m_ag_3 E hK hw 24 rfl dX10_of_21 ?_
      refine j_iload_n E 25 rfl dX10_of_24 rfl (lv_at hl 1 rfl) ?_
      refine m_ld_3 E hK hw (f_0 3 v_p) rfl (by omega) 26 rfl dX10_of_25 (fun rr25_ => ?_)
      exact hret 26 (f_0 3 v_p) (upN n_0 0 0) (f_0) _ _ ls hw rr25_ ⟨0, rfl, rfl, ⟨⟨i_now, i_persons, i_lines, i_wordings, i_taped, i_suits, i_spk, i_fam, i_str, i_said, i_book, i_wds, i_tok, i_cod, i_far, i_tap, i_qua, i_sil, i_stz, i_way⟩, Or.inr ⟨by omega, Or.inl ⟨by omega, rfl⟩⟩⟩⟩ dX10_of_26
  · subst ee2_
    refine j_if_ne E 13 16 rfl (rr (by decide)) dX10_of_10 (by decide) (fun cc26_ => absurd cc26_ (by decide)) (fun _ => ?_)
    refine j_bipush E 15 rfl dX10_of_13 (by decide) ?_
    exact hret 15 ((-100)) (upN n_0 0 0) (f_0) _ _ ls hw (rr (by decide)) ⟨0, rfl, rfl, ⟨⟨i_now, i_persons, i_lines, i_wordings, i_taped, i_suits, i_spk, i_fam, i_str, i_said, i_book, i_wds, i_tok, i_cod, i_far, i_tap, i_qua, i_sil, i_stz, i_way⟩, Or.inl ⟨by omega, rfl⟩⟩⟩ dX10_of_15
set_option maxHeartbeats 4000000 in
set_option maxRecDepth 100000 in
theorem c_X10_line (l : Launch) (D : va_G) (cy : Nat → ClassId) (q : Nat → Nat) (n_0 : Nat → Int) (f_0 : Nat → Int → Int) (v_section v_verse : Int) (r_v_section : inR v_section) (r_v_verse : inR v_verse) (hp0 : MI (n_0) (f_0)) (hp1 : v_verse = 0 ∨ v_verse = 1) : MC l D cy q yX10_line cX10_line 4 (some .int) 1 [.int (J v_section), .int (J v_verse)] n_0 f_0 (PI (fun (z_0 : Int) (n_2 : Nat → Int) (f_2 : Nat → Int → Int) => ∃ (x0_2 : Int) (x12_2 : Int) (y13_2 : Int → Int) (y14_2 : Int → Int) (y16_2 : Int → Int) (y67_2 : Int → Int) (y18_2 : Int → Int) , n_2 = upN (upN n_0 0 x0_2) 12 x12_2 ∧ f_2 = upF (upF (upF (upF (upF f_0 13 y13_2) 14 y14_2) 16 y16_2) 18 y18_2) 67 y67_2 ∧ (MI (upN (upN n_0 0 x0_2) 12 x12_2) (upF (upF (upF (upF (upF f_0 13 y13_2) 14 y14_2) 16 y16_2) 18 y18_2) 67 y67_2) ∧ ((z_0 = -1 ∧ (v_section < 0 ∨ 2 < v_section ∨ (n_0 12) = 24) ∧ (x12_2) = (n_0 12) ∧ (y67_2) = (f_0 67) ∧ (y18_2) = (f_0 18) ∧ (y13_2) = (f_0 13) ∧ (y14_2) = (f_0 14) ∧ (y16_2) = (f_0 16)) ∨ (z_0 = (n_0 12) ∧ (0 ≤ v_section ∧ v_section ≤ 2 ∧ (n_0 12) < 24) ∧ (x12_2) = (n_0 12) + 1 ∧ (y67_2) = upA (f_0 67) (n_0 12) (-1) ∧ ((∀ t_, 0 ≤ t_ → t_ < 200 → (y18_2 (200 * (n_0 12) + t_)) = -2) ∧ (∀ i_, i_ < 200 * (n_0 12) → (y18_2 i_) = (f_0 18 i_))) ∧ (y13_2) = upA (f_0 13) (n_0 12) v_section ∧ (y14_2) = upA (f_0 14) (n_0 12) v_verse ∧ (y16_2) = upA (f_0 16) (n_0 12) (-1)))))) := by
  refine MC.ofi rfl (Nat.le_of_ble_eq_true rfl) ?_
  intro p e s m below meth c ls ar QW A0 H0 H locs E hK hA hw hl hret
  have hl : lv_has ls 4 [(0, .ref (q 0)), (1, .int (J v_section)), (2, .int (J v_verse))] := hl
  have hp0_ := hp0
  obtain ⟨i_now, i_persons, i_lines, i_wordings, i_taped, i_suits, i_spk, i_fam, i_str, i_said, i_book, i_wds, i_tok, i_cod, i_far, i_tap, i_qua, i_sil, i_stz, i_way⟩ := hp0_
  refine j_aload_n E 1 rfl dX10_line_0 rfl (lv_at hl 0 rfl) ?_
  refine j_iconst E 2 rfl dX10_line_1 ?_
  refine m_put_0 E hK hw (rr (by decide)) 5 rfl dX10_line_2 (fun H locs hw => ?_)
  have hw : WM D cy q (upN n_0 0 0) (f_0) A0 H0 H locs := hw
  refine j_aload_n E 6 rfl dX10_line_5 rfl (lv_at hl 0 rfl) ?_
  refine j_iload_n E 7 rfl dX10_line_6 rfl (lv_at hl 1 rfl) ?_
  refine j_iconst E 8 rfl dX10_line_7 ?_
  refine j_iconst E 9 rfl dX10_line_8 ?_
  refine m_callp (po := fun z_0 => (z_0 = 1 ∧ (0 : Int) ≤ v_section ∧ v_section ≤ (2 : Int)) ∨ (z_0 = 0 ∧ (v_section < (0 : Int) ∨ (2 : Int) < v_section))) E (c_X10_isIn l D cy q (upN n_0 0 0) (f_0) v_section 0 2  r_v_section (rr (by decide)) (rr (by decide)) ) rfl mt_X10_isIn ml_X10_169 hK hw hA ⟨Nat.le_of_ble_eq_true rfl, Nat.le_of_ble_eq_true rfl⟩ (As := [.int (J v_section), .int (J 0), .int (J 2)]) (rest := []) rfl rfl hl.1 (Nat.le_of_ble_eq_true rfl) 12 rfl dX10_line_9 (fun zz2_ H locs rr2_ hq2_ hw => ?_)
  have hh2_ : (zz2_ = 1 ∧ (0 : Int) ≤ v_section ∧ v_section ≤ (2 : Int)) ∨ (zz2_ = 0 ∧ (v_section < (0 : Int) ∨ (2 : Int) < v_section)) := hq2_
  clear hq2_
  rcases hh2_ with ⟨ee2_, hh2_⟩ | ⟨ee2_, hh2_⟩
  · subst ee2_
    refine j_if_eq E 15 24 rfl (rr (by decide)) dX10_line_12 (by decide) (fun cc3_ => absurd cc3_ (by decide)) (fun _ => ?_)
    refine j_aload_n E 16 rfl dX10_line_15 rfl (lv_at hl 0 rfl) ?_
    refine m_get_12 E hK hw (n_0 12) rfl 19 rfl dX10_line_16 (fun rr4_ => ?_)
    refine j_bipush E 21 rfl dX10_line_19 (by decide) ?_
    refine j_icmp_ne E 24 26 rfl rr4_ (rr (by decide)) dX10_line_21 (by decide) (fun cc5_ => ?_) (fun cc5_ => ?_)
    · refine j_aload_n E 27 rfl dX10_line_26 rfl (lv_at hl 0 rfl) ?_
      refine m_ag_13 E hK hw 30 rfl dX10_line_27 ?_
      refine j_aload_n E 31 rfl dX10_line_30 rfl (lv_at hl 0 rfl) ?_
      refine m_get_12 E hK hw (n_0 12) rfl 34 rfl dX10_line_31 (fun _ => ?_)
      refine j_iload_n E 35 rfl dX10_line_34 rfl (lv_at hl 1 rfl) ?_
      refine m_st_13 E hK hw (by omega) r_v_section 36 rfl dX10_line_35 (fun H locs hw => ?_)
      have hw : WM D cy q (upN n_0 0 0) (upF f_0 13 (upA (f_0 13) (n_0 12) v_section)) A0 H0 H locs := hw
      refine j_aload_n E 37 rfl dX10_line_36 rfl (lv_at hl 0 rfl) ?_
      refine m_ag_14 E hK hw 40 rfl dX10_line_37 ?_
      refine j_aload_n E 41 rfl dX10_line_40 rfl (lv_at hl 0 rfl) ?_
      refine m_get_12 E hK hw (n_0 12) rfl 44 rfl dX10_line_41 (fun _ => ?_)
      refine j_iload_n E 45 rfl dX10_line_44 rfl (lv_at hl 2 rfl) ?_
      refine m_st_14 E hK hw (by omega) r_v_verse (by omega) 46 rfl dX10_line_45 (fun H locs hw => ?_)
      have hw : WM D cy q (upN n_0 0 0) (upF (upF f_0 13 (upA (f_0 13) (n_0 12) v_section)) 14 (upA (f_0 14) (n_0 12) v_verse)) A0 H0 H locs := hw
      refine j_aload_n E 47 rfl dX10_line_46 rfl (lv_at hl 0 rfl) ?_
      refine m_ag_16 E hK hw 50 rfl dX10_line_47 ?_
      refine j_aload_n E 51 rfl dX10_line_50 rfl (lv_at hl 0 rfl) ?_
      refine m_get_12 E hK hw (n_0 12) rfl 54 rfl dX10_line_51 (fun _ => ?_)
      refine j_iconst E 55 rfl dX10_line_54 ?_
      refine m_st_16 E hK hw (by omega) (rr (by decide)) 56 rfl dX10_line_55 (fun H locs hw => ?_)
      have hw : WM D cy q (upN n_0 0 0) (upF (upF (upF f_0 13 (upA (f_0 13) (n_0 12) v_section)) 14 (upA (f_0 14) (n_0 12) v_verse)) 16 (upA (f_0 16) (n_0 12) ((-1)))) A0 H0 H locs := hw
      refine j_aload_n E 57 rfl dX10_line_56 rfl (lv_at hl 0 rfl) ?_
      refine m_ag_67 E hK hw 60 rfl dX10_line_57 ?_
      refine j_aload_n E 61 rfl dX10_line_60 rfl (lv_at hl 0 rfl) ?_
      refine m_get_12 E hK hw (n_0 12) rfl 64 rfl dX10_line_61 (fun _ => ?_)
      refine j_iconst E 65 rfl dX10_line_64 ?_
      refine m_st_67 E hK hw (by omega) (rr (by decide)) 66 rfl dX10_line_65 (fun H locs hw => ?_)
      have hw : WM D cy q (upN n_0 0 0) (upF (upF (upF (upF f_0 13 (upA (f_0 13) (n_0 12) v_section)) 14 (upA (f_0 14) (n_0 12) v_verse)) 16 (upA (f_0 16) (n_0 12) ((-1)))) 67 (upA (f_0 67) (n_0 12) ((-1)))) A0 H0 H locs := hw
      refine j_iconst E 67 rfl dX10_line_66 ?_
      refine j_istore_n E 68 rfl [(3, .int (J 0)), (0, .ref (q 0)), (1, .int (J v_section)), (2, .int (J v_verse))] dX10_line_67 rfl hl (by decide) rfl (fun ls hl => ?_)
      have L68_10 : ∀ (k68 : Nat) (gk : Int) (y18_c68 : Int → Int) (H : Heap) (locs : List Loc) (ls : Array Slot), inR gk → (0 ≤ gk ∧ gk ≤ 200 ∧ (∀ j, 0 ≤ j → j < 200 * (n_0 12) + gk → (y18_c68 j) < (n_0 29)) ∧ (∀ t_, 0 ≤ t_ → t_ < gk → (y18_c68 (200 * (n_0 12) + t_)) = -2) ∧ (∀ i_, i_ < 200 * (n_0 12) → (y18_c68 i_) = f_0 18 i_)) → (200 - gk) < (k68 : Int) → WM D cy q (upN n_0 0 0) (upF (upF (upF (upF (upF f_0 13 (upA (f_0 13) (n_0 12) v_section)) 14 (upA (f_0 14) (n_0 12) v_verse)) 16 (upA (f_0 16) (n_0 12) ((-1)))) 18 y18_c68) 67 (upA (f_0 67) (n_0 12) ((-1)))) A0 H0 H locs → lv_has ls 4 [(0, .ref (q 0)), (1, .int (J v_section)), (2, .int (J v_verse)), (3, .int (J gk))] → W p l e (rmd 1 0 0) s m ar below meth c H locs 0 0 QW (F0 m 68 ls []) := by
        intro k68
        induction k68 with
        | zero =>
          intro gk y18_c68 H locs ls r_gk iv68 ms68 hw hl
          exfalso; omega
        | succ k68 ih68 =>
          intro gk y18_c68 H locs ls r_gk iv68 ms68 hw hl
          refine j_iload_n E 69 rfl dX10_line_68 rfl (lv_at hl 3 rfl) ?_
          refine j_sipush E 72 rfl dX10_line_69 (by decide) ?_
          refine j_icmp_ge E 75 98 rfl r_gk (rr (by decide)) dX10_line_72 (by decide) (fun cc12_ => ?_) (fun cc12_ => ?_)
          · refine j_aload_n E 99 rfl dX10_line_98 rfl (lv_at hl 0 rfl) ?_
            refine j_aload_n E 100 rfl dX10_line_99 rfl (lv_at hl 0 rfl) ?_
            refine m_get_12 E hK hw (n_0 12) rfl 103 rfl dX10_line_100 (fun _ => ?_)
            refine j_iconst E 104 rfl dX10_line_103 ?_
            refine j_iadd E 105 rfl dX10_line_104 ?_
            refine m_put_12 E hK hw (rr (by omega)) 108 rfl dX10_line_105 (fun H locs hw => ?_)
            have hw : WM D cy q (upN (upN n_0 0 0) 12 ((n_0 12) + 1)) (upF (upF (upF (upF (upF f_0 13 (upA (f_0 13) (n_0 12) v_section)) 14 (upA (f_0 14) (n_0 12) v_verse)) 16 (upA (f_0 16) (n_0 12) ((-1)))) 18 y18_c68) 67 (upA (f_0 67) (n_0 12) ((-1)))) A0 H0 H locs := hw
            refine j_aload_n E 109 rfl dX10_line_108 rfl (lv_at hl 0 rfl) ?_
            refine m_get_12 E hK hw ((n_0 12) + 1) rfl 112 rfl dX10_line_109 (fun rr14_ => ?_)
            refine j_iconst E 113 rfl dX10_line_112 ?_
            refine j_isub E 114 rfl dX10_line_113 ?_
            exact hret 114 (((n_0 12) + 1) - 1) (upN (upN n_0 0 0) 12 ((n_0 12) + 1)) (upF (upF (upF (upF (upF f_0 13 (upA (f_0 13) (n_0 12) v_section)) 14 (upA (f_0 14) (n_0 12) v_verse)) 16 (upA (f_0 16) (n_0 12) ((-1)))) 18 y18_c68) 67 (upA (f_0 67) (n_0 12) ((-1)))) _ _ ls hw (rr (by omega)) ⟨0, ((n_0 12) + 1), (upA (f_0 13) (n_0 12) v_section), (upA (f_0 14) (n_0 12) v_verse), (upA (f_0 16) (n_0 12) ((-1))), (upA (f_0 67) (n_0 12) ((-1))), y18_c68, rfl, rfl, ⟨⟨i_now, i_persons, (show 0 ≤ ((n_0 12) + 1) ∧ ((n_0 12) + 1) ≤ 24 from by omega), i_wordings, i_taped, i_suits, i_spk, i_fam, i_str, (show Said_ (y18_c68) ((n_0 12) + 1) (n_0 29) from (fun j h1 h2 => iv68.2.2.1 j h1 (by have h3 : j < 200 * (n_0 12 + 1) := h2; omega))), (show Book_ (upA (f_0 67) (n_0 12) ((-1))) ((n_0 12) + 1) (n_0 29) from Book_grow i_book (by omega)), i_wds, i_tok, i_cod, i_far, i_tap, i_qua, (show Sil_ (f_0 15) (upA (f_0 16) (n_0 12) ((-1))) (f_0 17) ((n_0 12) + 1) from Sil_new i_sil), (show Stz_ (f_0 19) (n_0 2) ((n_0 12) + 1) from Stz_mono i_stz (by omega) (by omega)), i_way⟩, Or.inr ⟨by omega, by omega, rfl, rfl, ⟨fun t_ h1_ h2_ => iv68.2.2.2.1 t_ h1_ (by omega), iv68.2.2.2.2⟩, rfl, rfl, rfl⟩⟩⟩ dX10_line_114
          · refine j_aload_n E 76 rfl dX10_line_75 rfl (lv_at hl 0 rfl) ?_
            refine m_ag_18 E hK hw 79 rfl dX10_line_76 ?_
            refine j_sipush E 82 rfl dX10_line_79 (by decide) ?_
            refine j_aload_n E 83 rfl dX10_line_82 rfl (lv_at hl 0 rfl) ?_
            refine m_get_12 E hK hw (n_0 12) rfl 86 rfl dX10_line_83 (fun _ => ?_)
            refine j_imul E 87 rfl dX10_line_86 ?_
            refine j_iload_n E 88 rfl dX10_line_87 rfl (lv_at hl 3 rfl) ?_
            refine j_iadd E 89 rfl dX10_line_88 ?_
            refine j_bipush E 91 rfl dX10_line_89 (by decide) ?_
            refine m_st_18 E hK hw (by omega) (rr (by decide)) 92 rfl dX10_line_91 (fun H locs hw => ?_)
            have hw : WM D cy q (upN n_0 0 0) (upF (upF (upF (upF (upF f_0 13 (upA (f_0 13) (n_0 12) v_section)) 14 (upA (f_0 14) (n_0 12) v_verse)) 16 (upA (f_0 16) (n_0 12) ((-1)))) 18 (upA (y18_c68) ((200 * (n_0 12)) + gk) ((-2)))) 67 (upA (f_0 67) (n_0 12) ((-1)))) A0 H0 H locs := hw
            refine j_iinc E 95 rfl [(3, .int (J (gk + 1))), (0, .ref (q 0)), (1, .int (J v_section)), (2, .int (J v_verse))] dX10_line_92 hl (kk := 3) rfl (by decide) rfl (fun ls hl => ?_)
            refine j_goto E 68 dX10_line_95 (by decide) ?_
            exact ih68 (gk + 1) (upA (y18_c68) ((200 * (n_0 12)) + gk) ((-2))) H locs ls (rr (by omega)) (⟨by omega, by omega, sd_step iv68.2.2.1 (by omega), sd_new iv68.2.2.2.1, fun i_ h_ => (upA_ne (by omega)).trans (iv68.2.2.2.2 i_ h_)⟩) (by omega) hw (lv_sub hl [1, 2, 3, 0] rfl)
      exact L68_10 _ 0 (f_0 18) H locs ls (rr (by decide)) (⟨by omega, by omega, fun j h1 h2 => i_said j h1 (by omega), fun t_ h1_ h2_ => absurd h2_ (by omega), fun _ _ => rfl⟩) (mk_lt _) hw (lv_sub hl [1, 2, 3, 0] rfl)
    · refine j_iconst E 25 rfl dX10_line_24 ?_
      exact hret 25 ((-1)) (upN (upN n_0 0 0) 12 (n_0 12)) (upF (upF (upF (upF (upF f_0 13 (f_0 13)) 14 (f_0 14)) 16 (f_0 16)) 18 (f_0 18)) 67 (f_0 67)) _ _ ls hw (rr (by decide)) ⟨0, (n_0 12), (f_0 13), (f_0 14), (f_0 16), (f_0 67), (f_0 18), rfl, rfl, ⟨⟨i_now, i_persons, i_lines, i_wordings, i_taped, i_suits, i_spk, i_fam, i_str, i_said, i_book, i_wds, i_tok, i_cod, i_far, i_tap, i_qua, i_sil, i_stz, i_way⟩, Or.inl ⟨rfl, by omega, rfl, rfl, rfl, rfl, rfl, rfl⟩⟩⟩ dX10_line_25
  · subst ee2_
    refine j_if_eq E 15 24 rfl (rr (by decide)) dX10_line_12 (by decide) (fun _ => ?_) (fun cc16_ => absurd cc16_ (by decide))
    refine j_iconst E 25 rfl dX10_line_24 ?_
    exact hret 25 ((-1)) (upN (upN n_0 0 0) 12 (n_0 12)) (upF (upF (upF (upF (upF f_0 13 (f_0 13)) 14 (f_0 14)) 16 (f_0 16)) 18 (f_0 18)) 67 (f_0 67)) _ _ ls hw (rr (by decide)) ⟨0, (n_0 12), (f_0 13), (f_0 14), (f_0 16), (f_0 67), (f_0 18), rfl, rfl, ⟨⟨i_now, i_persons, i_lines, i_wordings, i_taped, i_suits, i_spk, i_fam, i_str, i_said, i_book, i_wds, i_tok, i_cod, i_far, i_tap, i_qua, i_sil, i_stz, i_way⟩, Or.inl ⟨rfl, by omega, rfl, rfl, rfl, rfl, rfl, rfl⟩⟩⟩ dX10_line_25
set_option maxHeartbeats 4000000 in
set_option maxRecDepth 100000 in
theorem c_X10_has (l : Launch) (D : va_G) (cy : Nat → ClassId) (q : Nat → Nat) (n_0 : Nat → Int) (f_0 : Nat → Int → Int) (v_p v_x v_what : Int) (r_v_p : inR v_p) (r_v_x : inR v_x) (r_v_what : inR v_what) (hp0 : MI (n_0) (f_0)) : MC l D cy q yX10_has cX10_has 5 (some .int) 1 [.int (J v_p), .int (J v_x), .int (J v_what)] n_0 f_0 (PI (fun (z_0 : Int) (n_2 : Nat → Int) (f_2 : Nat → Int → Int) => ∃ (x0_2 : Int) , n_2 = upN n_0 0 x0_2 ∧ f_2 = f_0 ∧ (MI (upN n_0 0 x0_2) (f_0) ∧ ((z_0 = -1 ∧ ¬ ((0 ≤ v_p ∧ v_p < (n_0 2)) ∧ (0 ≤ v_x ∧ v_x < (n_0 12)) ∧ (0 ≤ v_what ∧ v_what ≤ 2))) ∨ (((0 ≤ v_p ∧ v_p < (n_0 2)) ∧ (0 ≤ v_x ∧ v_x < (n_0 12)) ∧ (0 ≤ v_what ∧ v_what ≤ 2)) ∧ ((v_what = 0 ∧ z_0 = nz_ (f_0 19 ((24 * v_p + v_x))) (f_0 20 ((24 * v_p + v_x)))) ∨ (v_what = 1 ∧ z_0 = (f_0 19 ((24 * v_p + v_x)))) ∨ (v_what = 2 ∧ z_0 = nz_ (f_0 19 ((24 * v_p + v_x))) (f_0 21 ((24 * v_p + v_x)))))))))) := by
  refine MC.ofi rfl (Nat.le_of_ble_eq_true rfl) ?_
  intro p e s m below meth c ls ar QW A0 H0 H locs E hK hA hw hl hret
  have hl : lv_has ls 5 [(0, .ref (q 0)), (1, .int (J v_p)), (2, .int (J v_x)), (3, .int (J v_what))] := hl
  have hp0_ := hp0
  obtain ⟨i_now, i_persons, i_lines, i_wordings, i_taped, i_suits, i_spk, i_fam, i_str, i_said, i_book, i_wds, i_tok, i_cod, i_far, i_tap, i_qua, i_sil, i_stz, i_way⟩ := hp0_
  refine j_aload_n E 1 rfl dX10_has_0 rfl (lv_at hl 0 rfl) ?_
  refine j_iconst E 2 rfl dX10_has_1 ?_
  refine m_put_0 E hK hw (rr (by decide)) 5 rfl dX10_has_2 (fun H locs hw => ?_)
  have hw : WM D cy q (upN n_0 0 0) (f_0) A0 H0 H locs := hw
  refine j_aload_n E 6 rfl dX10_has_5 rfl (lv_at hl 0 rfl) ?_
  refine j_iload_n E 7 rfl dX10_has_6 rfl (lv_at hl 1 rfl) ?_
  refine m_callp (po := fun z_0 => (z_0 = 1 ∧ 0 ≤ v_p ∧ v_p < (n_0 2)) ∨ (z_0 = 0 ∧ (v_p < 0 ∨ (n_0 2) ≤ v_p))) E (c_X10_isPerson l D cy q (upN n_0 0 0) (f_0) v_p  r_v_p ) rfl mt_X10_isPerson ml_X10_165 hK hw hA ⟨Nat.le_of_ble_eq_true rfl, Nat.le_of_ble_eq_true rfl⟩ (As := [.int (J v_p)]) (rest := []) rfl rfl hl.1 (Nat.le_of_ble_eq_true rfl) 10 rfl dX10_has_7 (fun zz2_ H locs rr2_ hq2_ hw => ?_)
  have hh2_ : (zz2_ = 1 ∧ 0 ≤ v_p ∧ v_p < (n_0 2)) ∨ (zz2_ = 0 ∧ (v_p < 0 ∨ (n_0 2) ≤ v_p)) := hq2_
  clear hq2_
  rcases hh2_ with ⟨ee2_, hh2_⟩ | ⟨ee2_, hh2_⟩
  · subst ee2_
    refine j_if_eq E 13 31 rfl (rr (by decide)) dX10_has_10 (by decide) (fun cc3_ => absurd cc3_ (by decide)) (fun _ => ?_)
    refine j_aload_n E 14 rfl dX10_has_13 rfl (lv_at hl 0 rfl) ?_
    refine j_iload_n E 15 rfl dX10_has_14 rfl (lv_at hl 2 rfl) ?_
    refine m_callp (po := fun z_0 => (z_0 = 1 ∧ 0 ≤ v_x ∧ v_x < (n_0 12)) ∨ (z_0 = 0 ∧ (v_x < 0 ∨ (n_0 12) ≤ v_x))) E (c_X10_isLine l D cy q (upN n_0 0 0) (f_0) v_x  r_v_x ) rfl mt_X10_isLine ml_X10_188 hK hw hA ⟨Nat.le_of_ble_eq_true rfl, Nat.le_of_ble_eq_true rfl⟩ (As := [.int (J v_x)]) (rest := []) rfl rfl hl.1 (Nat.le_of_ble_eq_true rfl) 18 rfl dX10_has_15 (fun zz4_ H locs rr4_ hq4_ hw => ?_)
    have hh4_ : (zz4_ = 1 ∧ 0 ≤ v_x ∧ v_x < (n_0 12)) ∨ (zz4_ = 0 ∧ (v_x < 0 ∨ (n_0 12) ≤ v_x)) := hq4_
    clear hq4_
    rcases hh4_ with ⟨ee4_, hh4_⟩ | ⟨ee4_, hh4_⟩
    · subst ee4_
      refine j_if_eq E 21 31 rfl (rr (by decide)) dX10_has_18 (by decide) (fun cc5_ => absurd cc5_ (by decide)) (fun _ => ?_)
      refine j_aload_n E 22 rfl dX10_has_21 rfl (lv_at hl 0 rfl) ?_
      refine j_iload_n E 23 rfl dX10_has_22 rfl (lv_at hl 3 rfl) ?_
      refine j_iconst E 24 rfl dX10_has_23 ?_
      refine j_iconst E 25 rfl dX10_has_24 ?_
      refine m_callp (po := fun z_0 => (z_0 = 1 ∧ (0 : Int) ≤ v_what ∧ v_what ≤ (2 : Int)) ∨ (z_0 = 0 ∧ (v_what < (0 : Int) ∨ (2 : Int) < v_what))) E (c_X10_isIn l D cy q (upN n_0 0 0) (f_0) v_what 0 2  r_v_what (rr (by decide)) (rr (by decide)) ) rfl mt_X10_isIn ml_X10_169 hK hw hA ⟨Nat.le_of_ble_eq_true rfl, Nat.le_of_ble_eq_true rfl⟩ (As := [.int (J v_what), .int (J 0), .int (J 2)]) (rest := []) rfl rfl hl.1 (Nat.le_of_ble_eq_true rfl) 28 rfl dX10_has_25 (fun zz6_ H locs rr6_ hq6_ hw => ?_)
      have hh6_ : (zz6_ = 1 ∧ (0 : Int) ≤ v_what ∧ v_what ≤ (2 : Int)) ∨ (zz6_ = 0 ∧ (v_what < (0 : Int) ∨ (2 : Int) < v_what)) := hq6_
      clear hq6_
      rcases hh6_ with ⟨ee6_, hh6_⟩ | ⟨ee6_, hh6_⟩
      · subst ee6_
        refine j_if_ne E 31 33 rfl (rr (by decide)) dX10_has_28 (by decide) (fun _ => ?_) (fun cc7_ => absurd cc7_ (by decide))
        refine j_bipush E 35 rfl dX10_has_33 (by decide) ?_
        refine j_iload_n E 36 rfl dX10_has_35 rfl (lv_at hl 1 rfl) ?_
        refine j_imul E 37 rfl dX10_has_36 ?_
        refine j_iload_n E 38 rfl dX10_has_37 rfl (lv_at hl 2 rfl) ?_
        refine j_iadd E 39 rfl dX10_has_38 ?_
        refine j_istore E 41 rfl [(4, .int (J ((24 * v_p) + v_x))), (0, .ref (q 0)), (1, .int (J v_p)), (2, .int (J v_x)), (3, .int (J v_what))] dX10_has_39 hl (by decide) rfl (fun ls hl => ?_)
        have s0_ := i_stz.1 (24 * v_p + v_x)
        refine j_aload_n E 42 rfl dX10_has_41 rfl (lv_at hl 1 rfl) ?_
        refine m_ag_19 E hK hw 45 rfl dX10_has_42 ?_
        refine j_iload E 47 rfl dX10_has_45 (lv_at hl 0 rfl) ?_
        refine m_ld_19 E hK hw (f_0 19 ((24 * v_p) + v_x)) rfl (by omega) 48 rfl dX10_has_47 (fun rr8_ => ?_)
        refine j_if_ne E 51 62 rfl rr8_ dX10_has_48 (by decide) (fun cc9_ => ?_) (fun cc9_ => ?_)
        · refine j_iload_n E 63 rfl dX10_has_62 rfl (lv_at hl 4 rfl) ?_
          refine j_if_ne E 66 76 rfl r_v_what dX10_has_63 (by decide) (fun cc10_ => ?_) (fun cc10_ => ?_)
          · refine j_iload_n E 77 rfl dX10_has_76 rfl (lv_at hl 4 rfl) ?_
            refine j_iconst E 78 rfl dX10_has_77 ?_
            refine j_icmp_ne E 81 91 rfl r_v_what (rr (by decide)) dX10_has_78 (by decide) (fun cc11_ => ?_) (fun cc11_ => ?_)
            · refine j_aload_n E 92 rfl dX10_has_91 rfl (lv_at hl 1 rfl) ?_
              refine m_ag_21 E hK hw 95 rfl dX10_has_92 ?_
              refine j_iload E 97 rfl dX10_has_95 (lv_at hl 0 rfl) ?_
              refine m_ld_21 E hK hw (f_0 21 ((24 * v_p) + v_x)) rfl (by omega) 98 rfl dX10_has_97 (fun rr12_ => ?_)
              exact hret 98 (f_0 21 ((24 * v_p) + v_x)) (upN n_0 0 0) (f_0) _ _ ls hw rr12_ ⟨0, rfl, rfl, ⟨⟨i_now, i_persons, i_lines, i_wordings, i_taped, i_suits, i_spk, i_fam, i_str, i_said, i_book, i_wds, i_tok, i_cod, i_far, i_tap, i_qua, i_sil, i_stz, i_way⟩, by first | exact Or.inr ⟨by omega, Or.inl ⟨by omega, (nz_t (by omega)).symm⟩⟩ | exact Or.inr ⟨by omega, Or.inr (Or.inl ⟨by omega, rfl⟩)⟩ | exact Or.inr ⟨by omega, Or.inr (Or.inr ⟨by omega, (nz_t (by omega)).symm⟩)⟩⟩⟩ dX10_has_98
            · refine j_aload_n E 82 rfl dX10_has_81 rfl (lv_at hl 1 rfl) ?_
              refine m_ag_19 E hK hw 85 rfl dX10_has_82 ?_
              refine j_iload E 87 rfl dX10_has_85 (lv_at hl 0 rfl) ?_
              refine m_ld_19 E hK hw (f_0 19 ((24 * v_p) + v_x)) rfl (by omega) 88 rfl dX10_has_87 (fun _ => ?_)
              refine j_goto E 98 dX10_has_88 (by decide) ?_
              exact hret 98 (f_0 19 ((24 * v_p) + v_x)) (upN n_0 0 0) (f_0) _ _ ls hw rr8_ ⟨0, rfl, rfl, ⟨⟨i_now, i_persons, i_lines, i_wordings, i_taped, i_suits, i_spk, i_fam, i_str, i_said, i_book, i_wds, i_tok, i_cod, i_far, i_tap, i_qua, i_sil, i_stz, i_way⟩, by first | exact Or.inr ⟨by omega, Or.inl ⟨by omega, (nz_t (by omega)).symm⟩⟩ | exact Or.inr ⟨by omega, Or.inr (Or.inl ⟨by omega, rfl⟩)⟩ | exact Or.inr ⟨by omega, Or.inr (Or.inr ⟨by omega, (nz_t (by omega)).symm⟩)⟩⟩⟩ dX10_has_98
          · refine j_aload_n E 67 rfl dX10_has_66 rfl (lv_at hl 1 rfl) ?_
            refine m_ag_20 E hK hw 70 rfl dX10_has_67 ?_
            refine j_iload E 72 rfl dX10_has_70 (lv_at hl 0 rfl) ?_
            refine m_ld_20 E hK hw (f_0 20 ((24 * v_p) + v_x)) rfl (by omega) 73 rfl dX10_has_72 (fun rr13_ => ?_)
            refine j_goto E 98 dX10_has_73 (by decide) ?_
            exact hret 98 (f_0 20 ((24 * v_p) + v_x)) (upN n_0 0 0) (f_0) _ _ ls hw rr13_ ⟨0, rfl, rfl, ⟨⟨i_now, i_persons, i_lines, i_wordings, i_taped, i_suits, i_spk, i_fam, i_str, i_said, i_book, i_wds, i_tok, i_cod, i_far, i_tap, i_qua, i_sil, i_stz, i_way⟩, by first | exact Or.inr ⟨by omega, Or.inl ⟨by omega, (nz_t (by omega)).symm⟩⟩ | exact Or.inr ⟨by omega, Or.inr (Or.inl ⟨by omega, rfl⟩)⟩ | exact Or.inr ⟨by omega, Or.inr (Or.inr ⟨by omega, (nz_t (by omega)).symm⟩)⟩⟩⟩ dX10_has_98
        · refine j_iload_n E 52 rfl dX10_has_51 rfl (lv_at hl 4 rfl) ?_
          refine j_iconst E 53 rfl dX10_has_52 ?_
          refine j_icmp_ne E 56 60 rfl r_v_what (rr (by decide)) dX10_has_53 (by decide) (fun cc14_ => ?_) (fun cc14_ => ?_)
          · refine j_iconst E 61 rfl dX10_has_60 ?_
            exact hret 61 ((-1)) (upN n_0 0 0) (f_0) _ _ ls hw (rr (by decide)) ⟨0, rfl, rfl, ⟨⟨i_now, i_persons, i_lines, i_wordings, i_taped, i_suits, i_spk, i_fam, i_str, i_said, i_book, i_wds, i_tok, i_cod, i_far, i_tap, i_qua, i_sil, i_stz, i_way⟩, by first | exact Or.inr ⟨by omega, Or.inr (Or.inl ⟨by omega, by omega⟩)⟩ | exact Or.inr ⟨by omega, by by_cases q_ : v_what = 0; exact Or.inl ⟨q_, (nz_f (by omega)).symm⟩; exact Or.inr (Or.inr ⟨by omega, (nz_f (by omega)).symm⟩)⟩⟩⟩ dX10_has_61
          · refine j_iconst E 57 rfl dX10_has_56 ?_
            refine j_goto E 61 dX10_has_57 (by decide) ?_
            exact hret 61 0 (upN n_0 0 0) (f_0) _ _ ls hw (rr (by decide)) ⟨0, rfl, rfl, ⟨⟨i_now, i_persons, i_lines, i_wordings, i_taped, i_suits, i_spk, i_fam, i_str, i_said, i_book, i_wds, i_tok, i_cod, i_far, i_tap, i_qua, i_sil, i_stz, i_way⟩, by first | exact Or.inr ⟨by omega, Or.inr (Or.inl ⟨by omega, by omega⟩)⟩ | exact Or.inr ⟨by omega, by by_cases q_ : v_what = 0; exact Or.inl ⟨q_, (nz_f (by omega)).symm⟩; exact Or.inr (Or.inr ⟨by omega, (nz_f (by omega)).symm⟩)⟩⟩⟩ dX10_has_61
      · subst ee6_
        refine j_if_ne E 31 33 rfl (rr (by decide)) dX10_has_28 (by decide) (fun cc15_ => absurd cc15_ (by decide)) (fun _ => ?_)
        refine j_iconst E 32 rfl dX10_has_31 ?_
        exact hret 32 ((-1)) (upN n_0 0 0) (f_0) _ _ ls hw (rr (by decide)) ⟨0, rfl, rfl, ⟨⟨i_now, i_persons, i_lines, i_wordings, i_taped, i_suits, i_spk, i_fam, i_str, i_said, i_book, i_wds, i_tok, i_cod, i_far, i_tap, i_qua, i_sil, i_stz, i_way⟩, Or.inl ⟨rfl, by omega⟩⟩⟩ dX10_has_32
    · subst ee4_
      refine j_if_eq E 21 31 rfl (rr (by decide)) dX10_has_18 (by decide) (fun _ => ?_) (fun cc16_ => absurd cc16_ (by decide))
      refine j_iconst E 32 rfl dX10_has_31 ?_
      exact hret 32 ((-1)) (upN n_0 0 0) (f_0) _ _ ls hw (rr (by decide)) ⟨0, rfl, rfl, ⟨⟨i_now, i_persons, i_lines, i_wordings, i_taped, i_suits, i_spk, i_fam, i_str, i_said, i_book, i_wds, i_tok, i_cod, i_far, i_tap, i_qua, i_sil, i_stz, i_way⟩, Or.inl ⟨rfl, by omega⟩⟩⟩ dX10_has_32
  · subst ee2_
    refine j_if_eq E 13 31 rfl (rr (by decide)) dX10_has_10 (by decide) (fun _ => ?_) (fun cc17_ => absurd cc17_ (by decide))
    refine j_iconst E 32 rfl dX10_has_31 ?_
    exact hret 32 ((-1)) (upN n_0 0 0) (f_0) _ _ ls hw (rr (by decide)) ⟨0, rfl, rfl, ⟨⟨i_now, i_persons, i_lines, i_wordings, i_taped, i_suits, i_spk, i_fam, i_str, i_said, i_book, i_wds, i_tok, i_cod, i_far, i_tap, i_qua, i_sil, i_stz, i_way⟩, Or.inl ⟨rfl, by omega⟩⟩⟩ dX10_has_32
set_option maxHeartbeats 4000000 in
set_option maxRecDepth 100000 in
theorem c_X10_said (l : Launch) (D : va_G) (cy : Nat → ClassId) (q : Nat → Nat) (n_0 : Nat → Int) (f_0 : Nat → Int → Int) (v_x v_k : Int) (r_v_x : inR v_x) (r_v_k : inR v_k) (hp0 : MI (n_0) (f_0)) : MC l D cy q yX10_said cX10_said 3 (some .int) 1 [.int (J v_x), .int (J v_k)] n_0 f_0 (PI (fun (z_0 : Int) (n_2 : Nat → Int) (f_2 : Nat → Int → Int) => ∃ (x0_2 : Int) , n_2 = upN n_0 0 x0_2 ∧ f_2 = f_0 ∧ (MI (upN n_0 0 x0_2) (f_0) ∧ ((z_0 = -2 ∧ ¬ ((0 ≤ v_x ∧ v_x < (n_0 12)) ∧ (0 ≤ v_k ∧ v_k < (n_0 1)))) ∨ (((0 ≤ v_x ∧ v_x < (n_0 12)) ∧ (0 ≤ v_k ∧ v_k < (n_0 1))) ∧ z_0 = (f_0 18 (200 * v_x + v_k))))))) := by
  refine MC.ofi rfl (Nat.le_of_ble_eq_true rfl) ?_
  intro p e s m below meth c ls ar QW A0 H0 H locs E hK hA hw hl hret
  have hl : lv_has ls 3 [(0, .ref (q 0)), (1, .int (J v_x)), (2, .int (J v_k))] := hl
  have hp0_ := hp0
  obtain ⟨i_now, i_persons, i_lines, i_wordings, i_taped, i_suits, i_spk, i_fam, i_str, i_said, i_book, i_wds, i_tok, i_cod, i_far, i_tap, i_qua, i_sil, i_stz, i_way⟩ := hp0_
  refine j_aload_n E 1 rfl dX10_said_0 rfl (lv_at hl 0 rfl) ?_
  refine j_iconst E 2 rfl dX10_said_1 ?_
  refine m_put_0 E hK hw (rr (by decide)) 5 rfl dX10_said_2 (fun H locs hw => ?_)
  have hw : WM D cy q (upN n_0 0 0) (f_0) A0 H0 H locs := hw
  refine j_aload_n E 6 rfl dX10_said_5 rfl (lv_at hl 0 rfl) ?_
  refine j_iload_n E 7 rfl dX10_said_6 rfl (lv_at hl 1 rfl) ?_
  refine m_callp (po := fun z_0 => (z_0 = 1 ∧ 0 ≤ v_x ∧ v_x < (n_0 12)) ∨ (z_0 = 0 ∧ (v_x < 0 ∨ (n_0 12) ≤ v_x))) E (c_X10_isLine l D cy q (upN n_0 0 0) (f_0) v_x  r_v_x ) rfl mt_X10_isLine ml_X10_188 hK hw hA ⟨Nat.le_of_ble_eq_true rfl, Nat.le_of_ble_eq_true rfl⟩ (As := [.int (J v_x)]) (rest := []) rfl rfl hl.1 (Nat.le_of_ble_eq_true rfl) 10 rfl dX10_said_7 (fun zz2_ H locs rr2_ hq2_ hw => ?_)
  have hh2_ : (zz2_ = 1 ∧ 0 ≤ v_x ∧ v_x < (n_0 12)) ∨ (zz2_ = 0 ∧ (v_x < 0 ∨ (n_0 12) ≤ v_x)) := hq2_
  clear hq2_
  rcases hh2_ with ⟨ee2_, hh2_⟩ | ⟨ee2_, hh2_⟩
  · subst ee2_
    refine j_if_eq E 13 43 rfl (rr (by decide)) dX10_said_10 (by decide) (fun cc3_ => absurd cc3_ (by decide)) (fun _ => ?_)
    refine j_aload_n E 14 rfl dX10_said_13 rfl (lv_at hl 0 rfl) ?_
    refine j_iload_n E 15 rfl dX10_said_14 rfl (lv_at hl 2 rfl) ?_
    refine j_iconst E 16 rfl dX10_said_15 ?_
    refine j_aload_n E 17 rfl dX10_said_16 rfl (lv_at hl 0 rfl) ?_
    refine m_get_1 E hK hw (n_0 1) rfl 20 rfl dX10_said_17 (fun rr4_ => ?_)
    refine j_iconst E 21 rfl dX10_said_20 ?_
    refine j_isub E 22 rfl dX10_said_21 ?_
    refine m_callp (po := fun z_0 => (z_0 = 1 ∧ (0 : Int) ≤ v_k ∧ v_k ≤ ((n_0 1) - 1)) ∨ (z_0 = 0 ∧ (v_k < (0 : Int) ∨ ((n_0 1) - 1) < v_k))) E (c_X10_isIn l D cy q (upN n_0 0 0) (f_0) v_k 0 ((n_0 1) - 1)  r_v_k (rr (by decide)) (rr (by omega)) ) rfl mt_X10_isIn ml_X10_169 hK hw hA ⟨Nat.le_of_ble_eq_true rfl, Nat.le_of_ble_eq_true rfl⟩ (As := [.int (J v_k), .int (J 0), .int (J ((n_0 1) - 1))]) (rest := []) rfl rfl hl.1 (Nat.le_of_ble_eq_true rfl) 25 rfl dX10_said_22 (fun zz5_ H locs rr5_ hq5_ hw => ?_)
    have hh5_ : (zz5_ = 1 ∧ (0 : Int) ≤ v_k ∧ v_k ≤ ((n_0 1) - 1)) ∨ (zz5_ = 0 ∧ (v_k < (0 : Int) ∨ ((n_0 1) - 1) < v_k)) := hq5_
    clear hq5_
    rcases hh5_ with ⟨ee5_, hh5_⟩ | ⟨ee5_, hh5_⟩
    · subst ee5_
      refine j_if_eq E 28 43 rfl (rr (by decide)) dX10_said_25 (by decide) (fun cc6_ => absurd cc6_ (by decide)) (fun _ => ?_)
      refine j_aload_n E 29 rfl dX10_said_28 rfl (lv_at hl 0 rfl) ?_
      refine m_ag_18 E hK hw 32 rfl dX10_said_29 ?_
      refine j_sipush E 35 rfl dX10_said_32 (by decide) ?_
      refine j_iload_n E 36 rfl dX10_said_35 rfl (lv_at hl 1 rfl) ?_
      refine j_imul E 37 rfl dX10_said_36 ?_
      refine j_iload_n E 38 rfl dX10_said_37 rfl (lv_at hl 2 rfl) ?_
      refine j_iadd E 39 rfl dX10_said_38 ?_
      refine m_ld_18 E hK hw (f_0 18 ((200 * v_x) + v_k)) rfl (by omega) 40 rfl dX10_said_39 (fun rr7_ => ?_)
      refine j_goto E 45 dX10_said_40 (by decide) ?_
      exact hret 45 (f_0 18 ((200 * v_x) + v_k)) (upN n_0 0 0) (f_0) _ _ ls hw rr7_ ⟨0, rfl, rfl, ⟨⟨i_now, i_persons, i_lines, i_wordings, i_taped, i_suits, i_spk, i_fam, i_str, i_said, i_book, i_wds, i_tok, i_cod, i_far, i_tap, i_qua, i_sil, i_stz, i_way⟩, by first | exact Or.inl ⟨rfl, by omega⟩ | exact Or.inr ⟨by omega, rfl⟩⟩⟩ dX10_said_45
    · subst ee5_
      refine j_if_eq E 28 43 rfl (rr (by decide)) dX10_said_25 (by decide) (fun _ => ?_) (fun cc8_ => absurd cc8_ (by decide))
      refine j_bipush E 45 rfl dX10_said_43 (by decide) ?_
      exact hret 45 ((-2)) (upN n_0 0 0) (f_0) _ _ ls hw (rr (by decide)) ⟨0, rfl, rfl, ⟨⟨i_now, i_persons, i_lines, i_wordings, i_taped, i_suits, i_spk, i_fam, i_str, i_said, i_book, i_wds, i_tok, i_cod, i_far, i_tap, i_qua, i_sil, i_stz, i_way⟩, by first | exact Or.inl ⟨rfl, by omega⟩ | exact Or.inr ⟨by omega, rfl⟩⟩⟩ dX10_said_45
  · subst ee2_
    refine j_if_eq E 13 43 rfl (rr (by decide)) dX10_said_10 (by decide) (fun _ => ?_) (fun cc9_ => absurd cc9_ (by decide))
    refine j_bipush E 45 rfl dX10_said_43 (by decide) ?_
    exact hret 45 ((-2)) (upN n_0 0 0) (f_0) _ _ ls hw (rr (by decide)) ⟨0, rfl, rfl, ⟨⟨i_now, i_persons, i_lines, i_wordings, i_taped, i_suits, i_spk, i_fam, i_str, i_said, i_book, i_wds, i_tok, i_cod, i_far, i_tap, i_qua, i_sil, i_stz, i_way⟩, by first | exact Or.inl ⟨rfl, by omega⟩ | exact Or.inr ⟨by omega, rfl⟩⟩⟩ dX10_said_45
set_option maxHeartbeats 4000000 in
set_option maxRecDepth 100000 in
theorem c_X10_stood (l : Launch) (D : va_G) (cy : Nat → ClassId) (q : Nat → Nat) (n_0 : Nat → Int) (f_0 : Nat → Int → Int) (v_x v_k : Int) (r_v_x : inR v_x) (r_v_k : inR v_k) (hp0 : MI (n_0) (f_0)) : MC l D cy q yX10_stood cX10_stood 3 (some .int) 1 [.int (J v_x), .int (J v_k)] n_0 f_0 (PI (fun (z_0 : Int) (n_2 : Nat → Int) (f_2 : Nat → Int → Int) => ∃ (x0_2 : Int) , n_2 = upN n_0 0 x0_2 ∧ f_2 = f_0 ∧ (MI (upN n_0 0 x0_2) (f_0) ∧ ((z_0 = -1 ∧ ¬ ((0 ≤ v_x ∧ v_x < (n_0 12)) ∧ (0 ≤ v_k ∧ v_k < (n_0 1)))) ∨ (((0 ≤ v_x ∧ v_x < (n_0 12)) ∧ (0 ≤ v_k ∧ v_k < (n_0 1))) ∧ Lw_ ((f_0 16 v_x)) (fun t_ => (f_0 18 (200 * v_x + t_))) v_k z_0))))) := by
  refine MC.ofi rfl (Nat.le_of_ble_eq_true rfl) ?_
  intro p e s m below meth c ls ar QW A0 H0 H locs E hK hA hw hl hret
  have hl : lv_has ls 3 [(0, .ref (q 0)), (1, .int (J v_x)), (2, .int (J v_k))] := hl
  have hp0_ := hp0
  obtain ⟨i_now, i_persons, i_lines, i_wordings, i_taped, i_suits, i_spk, i_fam, i_str, i_said, i_book, i_wds, i_tok, i_cod, i_far, i_tap, i_qua, i_sil, i_stz, i_way⟩ := hp0_
  refine j_aload_n E 1 rfl dX10_stood_0 rfl (lv_at hl 0 rfl) ?_
  refine j_iconst E 2 rfl dX10_stood_1 ?_
  refine m_put_0 E hK hw (rr (by decide)) 5 rfl dX10_stood_2 (fun H locs hw => ?_)
  have hw : WM D cy q (upN n_0 0 0) (f_0) A0 H0 H locs := hw
  refine j_aload_n E 6 rfl dX10_stood_5 rfl (lv_at hl 0 rfl) ?_
  refine j_iload_n E 7 rfl dX10_stood_6 rfl (lv_at hl 1 rfl) ?_
  refine m_callp (po := fun z_0 => (z_0 = 1 ∧ 0 ≤ v_x ∧ v_x < (n_0 12)) ∨ (z_0 = 0 ∧ (v_x < 0 ∨ (n_0 12) ≤ v_x))) E (c_X10_isLine l D cy q (upN n_0 0 0) (f_0) v_x  r_v_x ) rfl mt_X10_isLine ml_X10_188 hK hw hA ⟨Nat.le_of_ble_eq_true rfl, Nat.le_of_ble_eq_true rfl⟩ (As := [.int (J v_x)]) (rest := []) rfl rfl hl.1 (Nat.le_of_ble_eq_true rfl) 10 rfl dX10_stood_7 (fun zz2_ H locs rr2_ hq2_ hw => ?_)
  have hh2_ : (zz2_ = 1 ∧ 0 ≤ v_x ∧ v_x < (n_0 12)) ∨ (zz2_ = 0 ∧ (v_x < 0 ∨ (n_0 12) ≤ v_x)) := hq2_
  clear hq2_
  rcases hh2_ with ⟨ee2_, hh2_⟩ | ⟨ee2_, hh2_⟩
  · subst ee2_
    refine j_if_eq E 13 37 rfl (rr (by decide)) dX10_stood_10 (by decide) (fun cc3_ => absurd cc3_ (by decide)) (fun _ => ?_)
    refine j_aload_n E 14 rfl dX10_stood_13 rfl (lv_at hl 0 rfl) ?_
    refine j_iload_n E 15 rfl dX10_stood_14 rfl (lv_at hl 2 rfl) ?_
    refine j_iconst E 16 rfl dX10_stood_15 ?_
    refine j_aload_n E 17 rfl dX10_stood_16 rfl (lv_at hl 0 rfl) ?_
    refine m_get_1 E hK hw (n_0 1) rfl 20 rfl dX10_stood_17 (fun rr4_ => ?_)
    refine j_iconst E 21 rfl dX10_stood_20 ?_
    refine j_isub E 22 rfl dX10_stood_21 ?_
    refine m_callp (po := fun z_0 => (z_0 = 1 ∧ (0 : Int) ≤ v_k ∧ v_k ≤ ((n_0 1) - 1)) ∨ (z_0 = 0 ∧ (v_k < (0 : Int) ∨ ((n_0 1) - 1) < v_k))) E (c_X10_isIn l D cy q (upN n_0 0 0) (f_0) v_k 0 ((n_0 1) - 1)  r_v_k (rr (by decide)) (rr (by omega)) ) rfl mt_X10_isIn ml_X10_169 hK hw hA ⟨Nat.le_of_ble_eq_true rfl, Nat.le_of_ble_eq_true rfl⟩ (As := [.int (J v_k), .int (J 0), .int (J ((n_0 1) - 1))]) (rest := []) rfl rfl hl.1 (Nat.le_of_ble_eq_true rfl) 25 rfl dX10_stood_22 (fun zz5_ H locs rr5_ hq5_ hw => ?_)
    have hh5_ : (zz5_ = 1 ∧ (0 : Int) ≤ v_k ∧ v_k ≤ ((n_0 1) - 1)) ∨ (zz5_ = 0 ∧ (v_k < (0 : Int) ∨ ((n_0 1) - 1) < v_k)) := hq5_
    clear hq5_
    rcases hh5_ with ⟨ee5_, hh5_⟩ | ⟨ee5_, hh5_⟩
    · subst ee5_
      refine j_if_eq E 28 37 rfl (rr (by decide)) dX10_stood_25 (by decide) (fun cc6_ => absurd cc6_ (by decide)) (fun _ => ?_)
      refine j_aload_n E 29 rfl dX10_stood_28 rfl (lv_at hl 0 rfl) ?_
      refine j_iload_n E 30 rfl dX10_stood_29 rfl (lv_at hl 1 rfl) ?_
      refine j_iload_n E 31 rfl dX10_stood_30 rfl (lv_at hl 2 rfl) ?_
      refine m_callp (po := fun z_0 => Lw_ ((f_0 16 v_x)) (fun t_ => (f_0 18 (200 * v_x + t_))) v_k z_0) E (c_X10_lawOf l D cy q (upN n_0 0 0) (f_0) v_x v_k  r_v_x r_v_k (show 0 ≤ v_x ∧ v_x < 24 from by omega) (show v_k < 200 from by omega)) rfl mt_X10_lawOf ml_X10_209 hK hw hA ⟨Nat.le_of_ble_eq_true rfl, Nat.le_of_ble_eq_true rfl⟩ (As := [.int (J v_x), .int (J v_k)]) (rest := []) rfl rfl hl.1 (Nat.le_of_ble_eq_true rfl) 34 rfl dX10_stood_31 (fun zz7_ H locs rr7_ hq7_ hw => ?_)
      have hh7_ : Lw_ ((f_0 16 v_x)) (fun t_ => (f_0 18 (200 * v_x + t_))) v_k zz7_ := hq7_
      clear hq7_
      have lw_ := hh7_
      clear hh7_
      refine j_goto E 38 dX10_stood_34 (by decide) ?_
      exact hret 38 zz7_ (upN n_0 0 0) (f_0) _ _ ls hw rr7_ ⟨0, rfl, rfl, ⟨⟨i_now, i_persons, i_lines, i_wordings, i_taped, i_suits, i_spk, i_fam, i_str, i_said, i_book, i_wds, i_tok, i_cod, i_far, i_tap, i_qua, i_sil, i_stz, i_way⟩, by first | exact Or.inr ⟨by omega, lw_⟩ | exact Or.inl ⟨rfl, by omega⟩⟩⟩ dX10_stood_38
    · subst ee5_
      refine j_if_eq E 28 37 rfl (rr (by decide)) dX10_stood_25 (by decide) (fun _ => ?_) (fun cc8_ => absurd cc8_ (by decide))
      refine j_iconst E 38 rfl dX10_stood_37 ?_
      exact hret 38 ((-1)) (upN n_0 0 0) (f_0) _ _ ls hw (rr (by decide)) ⟨0, rfl, rfl, ⟨⟨i_now, i_persons, i_lines, i_wordings, i_taped, i_suits, i_spk, i_fam, i_str, i_said, i_book, i_wds, i_tok, i_cod, i_far, i_tap, i_qua, i_sil, i_stz, i_way⟩, by first | exact Or.inr ⟨by omega, lw_⟩ | exact Or.inl ⟨rfl, by omega⟩⟩⟩ dX10_stood_38
  · subst ee2_
    refine j_if_eq E 13 37 rfl (rr (by decide)) dX10_stood_10 (by decide) (fun _ => ?_) (fun cc9_ => absurd cc9_ (by decide))
    refine j_iconst E 38 rfl dX10_stood_37 ?_
    exact hret 38 ((-1)) (upN n_0 0 0) (f_0) _ _ ls hw (rr (by decide)) ⟨0, rfl, rfl, ⟨⟨i_now, i_persons, i_lines, i_wordings, i_taped, i_suits, i_spk, i_fam, i_str, i_said, i_book, i_wds, i_tok, i_cod, i_far, i_tap, i_qua, i_sil, i_stz, i_way⟩, by first | exact Or.inr ⟨by omega, lw_⟩ | exact Or.inl ⟨rfl, by omega⟩⟩⟩ dX10_stood_38
set_option maxHeartbeats 4000000 in
set_option maxRecDepth 100000 in
theorem c_X10_puts (l : Launch) (D : va_G) (cy : Nat → ClassId) (q : Nat → Nat) (n_0 : Nat → Int) (f_0 : Nat → Int → Int) (v_v : Int) (r_v_v : inR v_v) (hp0 : 0 ≤ (n_0 23) ∧ (n_0 23) ≤ 396) (hp1 : Tap_ (f_0 22)) : MC l D cy q yX10_puts cX10_puts 3 none 0 [.int (J v_v)] n_0 f_0 (PV (fun (n_2 : Nat → Int) (f_2 : Nat → Int → Int) => ∃ (x23_2 : Int) (y22_2 : Int → Int) , n_2 = upN n_0 23 x23_2 ∧ f_2 = upF f_0 22 y22_2 ∧ ((x23_2) = (n_0 23) + 4 ∧ Tap_ (y22_2) ∧ (∀ j_, (n_0 23) ≤ j_ → j_ < (n_0 23) + 4 → (y22_2 j_) = by_ v_v (24 - 8 * (j_ - (n_0 23)))) ∧ (∀ j_, j_ < (n_0 23) ∨ (n_0 23) + 4 ≤ j_ → (y22_2 j_) = (f_0 22 j_))))) := by
  refine MC.ofv rfl (Nat.le_of_ble_eq_true rfl) ?_
  intro p e s m below meth c ls ar QW A0 H0 H locs E hK hA hw hl hret
  have hl : lv_has ls 3 [(0, .ref (q 0)), (1, .int (J v_v))] := hl
  refine j_bipush E 2 rfl dX10_puts_0 (by decide) ?_
  refine j_istore_n E 3 rfl [(2, .int (J 24)), (0, .ref (q 0)), (1, .int (J v_v))] dX10_puts_2 rfl hl (by decide) rfl (fun ls hl => ?_)
  have L3_1 : ∀ (k3 : Nat) (gz : Int) (x23_c3 : Int) (y22_c3 : Int → Int) (H : Heap) (locs : List Loc) (ls : Array Slot), inR gz → ((0 ≤ (x23_c3) ∧ (x23_c3) ≤ 400 ∧ 8 * ((x23_c3) - n_0 23) = 24 - gz ∧ -8 ≤ gz ∧ gz ≤ 24) ∧ Tap_ (y22_c3) ∧ (∀ j_, n_0 23 ≤ j_ → j_ < (x23_c3) → (y22_c3 j_) = by_ v_v (24 - 8 * (j_ - n_0 23))) ∧ (∀ j_, j_ < n_0 23 ∨ (x23_c3) ≤ j_ → (y22_c3 j_) = f_0 22 j_)) → (gz + 8) < (k3 : Int) → WM D cy q (upN n_0 23 x23_c3) (upF f_0 22 y22_c3) A0 H0 H locs → lv_has ls 3 [(0, .ref (q 0)), (1, .int (J v_v)), (2, .int (J gz))] → W p l e (rmd 0 0 0) s m ar below meth c H locs 0 0 QW (F0 m 3 ls []) := by
    intro k3
    induction k3 with
    | zero =>
      intro gz x23_c3 y22_c3 H locs ls r_gz iv3 ms3 hw hl
      exfalso; omega
    | succ k3 ih3 =>
      intro gz x23_c3 y22_c3 H locs ls r_gz iv3 ms3 hw hl
      have rx23_c3 : inR x23_c3 := mRn_23 hw.1.2.2.1
      refine j_iload_n E 4 rfl dX10_puts_3 rfl (lv_at hl 2 rfl) ?_
      refine j_if_lt E 7 39 rfl r_gz dX10_puts_4 (by decide) (fun cc3_ => ?_) (fun cc3_ => ?_)
      · exact hret 39 (upN n_0 23 x23_c3) (upF f_0 22 y22_c3) _ _ ls hw ⟨x23_c3, y22_c3, rfl, rfl, ⟨by omega, iv3.2.1, fun j_ h1_ h2_ => iv3.2.2.1 j_ h1_ (by omega), fun j_ h_ => iv3.2.2.2 j_ (by omega)⟩⟩ dX10_puts_39
      · refine j_aload_n E 8 rfl dX10_puts_7 rfl (lv_at hl 0 rfl) ?_
        refine m_ag_22 E hK hw 11 rfl dX10_puts_8 ?_
        refine j_aload_n E 12 rfl dX10_puts_11 rfl (lv_at hl 0 rfl) ?_
        refine m_get_23 E hK hw x23_c3 rfl 15 rfl dX10_puts_12 (fun _ => ?_)
        refine j_iload_n E 16 rfl dX10_puts_15 rfl (lv_at hl 1 rfl) ?_
        refine j_iload_n E 17 rfl dX10_puts_16 rfl (lv_at hl 2 rfl) ?_
        refine j_ishr E 18 rfl dX10_puts_17 (fun zz4_ rr4_ ee4_ => ?_)
        have e1_ := ee4_
        refine j_sipush E 21 rfl dX10_puts_18 (by decide) ?_
        refine j_iand E 22 rfl dX10_puts_21 (fun zz5_ rr5_ ee5_ => ?_)
        have hb_ := by_of e1_ ee5_ rr5_
        refine m_st_22 E hK hw (by omega) rr5_ 23 rfl dX10_puts_22 (fun H locs hw => ?_)
        have hw : WM D cy q (upN n_0 23 x23_c3) (upF f_0 22 (upA (y22_c3) x23_c3 zz5_)) A0 H0 H locs := hw
        refine j_aload_n E 24 rfl dX10_puts_23 rfl (lv_at hl 0 rfl) ?_
        refine j_aload_n E 25 rfl dX10_puts_24 rfl (lv_at hl 0 rfl) ?_
        refine m_get_23 E hK hw x23_c3 rfl 28 rfl dX10_puts_25 (fun _ => ?_)
        refine j_iconst E 29 rfl dX10_puts_28 ?_
        refine j_iadd E 30 rfl dX10_puts_29 ?_
        refine m_put_23 E hK hw (rr (by omega)) 33 rfl dX10_puts_30 (fun H locs hw => ?_)
        have hw : WM D cy q (upN n_0 23 (x23_c3 + 1)) (upF f_0 22 (upA (y22_c3) x23_c3 zz5_)) A0 H0 H locs := hw
        refine j_iinc E 36 rfl [(2, .int (J (gz + (-8)))), (0, .ref (q 0)), (1, .int (J v_v))] dX10_puts_33 hl (kk := 2) rfl (by decide) rfl (fun ls hl => ?_)
        refine j_goto E 3 dX10_puts_36 (by decide) ?_
        exact ih3 (gz + (-8)) (x23_c3 + 1) (upA (y22_c3) x23_c3 zz5_) H locs ls (rr (by omega)) (⟨by omega, Tap_up iv3.2.1 hb_.2, by_st iv3.2.2.1 (by rw [hb_.1, show 24 - 8 * (x23_c3 - n_0 23) = gz by omega]), by_ot iv3.2.2.2 (by omega)⟩) (by omega) hw (lv_sub hl [1, 2, 0] rfl)
  exact L3_1 _ 24 (n_0 23) (f_0 22) H locs ls (rr (by decide)) (⟨by omega, hp1, fun j_ h1_ h2_ => absurd h2_ (by omega), fun j_ _ => rfl⟩) (mk_lt _) hw (lv_sub hl [1, 2, 0] rfl)
set_option maxHeartbeats 4000000 in
set_option maxRecDepth 100000 in
theorem c_X10_feed (l : Launch) (D : va_G) (cy : Nat → ClassId) (q : Nat → Nat) (n_0 : Nat → Int) (f_0 : Nat → Int → Int) (v_a v_b v_c v_d v_e : Int) (r_v_a : inR v_a) (r_v_b : inR v_b) (r_v_c : inR v_c) (r_v_d : inR v_d) (r_v_e : inR v_e) (hp0 : MI (n_0) (f_0)) : MC l D cy q yX10_feed cX10_feed 6 (some .int) 1 [.int (J v_a), .int (J v_b), .int (J v_c), .int (J v_d), .int (J v_e)] n_0 f_0 (PI (fun (z_0 : Int) (n_2 : Nat → Int) (f_2 : Nat → Int → Int) => ∃ (x0_2 : Int) (x23_2 : Int) (y22_2 : Int → Int) , n_2 = upN (upN n_0 0 x0_2) 23 x23_2 ∧ f_2 = upF f_0 22 y22_2 ∧ (MI (upN (upN n_0 0 x0_2) 23 x23_2) (upF f_0 22 y22_2) ∧ ((z_0 = -1 ∧ 380 < (n_0 23) ∧ (x23_2) = (n_0 23) ∧ (y22_2) = (f_0 22)) ∨ (z_0 = (x23_2) ∧ (n_0 23) ≤ 380 ∧ (x23_2) = (n_0 23) + 20 ∧ (∀ j_, (n_0 23) + 0 ≤ j_ → j_ < (n_0 23) + 4 → (y22_2 j_) = by_ v_a (24 - 8 * (j_ - (n_0 23) - 0))) ∧ (∀ j_, (n_0 23) + 4 ≤ j_ → j_ < (n_0 23) + 8 → (y22_2 j_) = by_ v_b (24 - 8 * (j_ - (n_0 23) - 4))) ∧ (∀ j_, (n_0 23) + 8 ≤ j_ → j_ < (n_0 23) + 12 → (y22_2 j_) = by_ v_c (24 - 8 * (j_ - (n_0 23) - 8))) ∧ (∀ j_, (n_0 23) + 12 ≤ j_ → j_ < (n_0 23) + 16 → (y22_2 j_) = by_ v_d (24 - 8 * (j_ - (n_0 23) - 12))) ∧ (∀ j_, (n_0 23) + 16 ≤ j_ → j_ < (n_0 23) + 20 → (y22_2 j_) = by_ v_e (24 - 8 * (j_ - (n_0 23) - 16))) ∧ (∀ j_, j_ < (n_0 23) → (y22_2 j_) = (f_0 22 j_))))))) := by
  refine MC.ofi rfl (Nat.le_of_ble_eq_true rfl) ?_
  intro p e s m below meth c ls ar QW A0 H0 H locs E hK hA hw hl hret
  have hl : lv_has ls 6 [(0, .ref (q 0)), (1, .int (J v_a)), (2, .int (J v_b)), (3, .int (J v_c)), (4, .int (J v_d)), (5, .int (J v_e))] := hl
  have hp0_ := hp0
  obtain ⟨i_now, i_persons, i_lines, i_wordings, i_taped, i_suits, i_spk, i_fam, i_str, i_said, i_book, i_wds, i_tok, i_cod, i_far, i_tap, i_qua, i_sil, i_stz, i_way⟩ := hp0_
  refine j_aload_n E 1 rfl dX10_feed_0 rfl (lv_at hl 0 rfl) ?_
  refine j_iconst E 2 rfl dX10_feed_1 ?_
  refine m_put_0 E hK hw (rr (by decide)) 5 rfl dX10_feed_2 (fun H locs hw => ?_)
  have hw : WM D cy q (upN n_0 0 0) (f_0) A0 H0 H locs := hw
  refine j_aload_n E 6 rfl dX10_feed_5 rfl (lv_at hl 0 rfl) ?_
  refine m_get_23 E hK hw (n_0 23) rfl 9 rfl dX10_feed_6 (fun rr2_ => ?_)
  refine j_sipush E 12 rfl dX10_feed_9 (by decide) ?_
  refine j_icmp_le E 15 17 rfl rr2_ (rr (by decide)) dX10_feed_12 (by decide) (fun cc3_ => ?_) (fun cc3_ => ?_)
  · refine j_aload_n E 18 rfl dX10_feed_17 rfl (lv_at hl 0 rfl) ?_
    refine j_iload_n E 19 rfl dX10_feed_18 rfl (lv_at hl 1 rfl) ?_
    refine m_callv E (c_X10_puts l D cy q (upN n_0 0 0) (f_0) v_a  r_v_a (show 0 ≤ (n_0 23) ∧ (n_0 23) ≤ 396 from by omega) (show Tap_ (f_0 22) from i_tap)) rfl mt_X10_puts ml_X10_216 hK hw hA ⟨Nat.le_of_ble_eq_true rfl, Nat.le_of_ble_eq_true rfl⟩ (As := [.int (J v_a)]) (rest := []) rfl rfl hl.1 (Nat.le_of_ble_eq_true rfl) 22 rfl dX10_feed_19 (fun n_4 f_4 H locs hq4_ hw => ?_)
    obtain ⟨x23_4, y22_4, en4_, ef4_, hq4_⟩ := hq4_
    rw [en4_, ef4_] at hw; clear en4_ ef4_
    have hw : WM D cy q (upN (upN n_0 0 0) 23 x23_4) (upF f_0 22 y22_4) A0 H0 H locs := hw
    have rx23_4 : inR x23_4 := mRn_23 hw.1.2.2.1
    have hh4_ : (x23_4) = (n_0 23) + 4 ∧ Tap_ (y22_4) ∧ (∀ j_, (n_0 23) ≤ j_ → j_ < (n_0 23) + 4 → (y22_4 j_) = by_ v_a (24 - 8 * (j_ - (n_0 23)))) ∧ (∀ j_, j_ < (n_0 23) ∨ (n_0 23) + 4 ≤ j_ → (y22_4 j_) = (f_0 22 j_)) := hq4_
    clear hq4_
    have p1_ := hh4_
    clear hh4_
    refine j_aload_n E 23 rfl dX10_feed_22 rfl (lv_at hl 0 rfl) ?_
    refine j_iload_n E 24 rfl dX10_feed_23 rfl (lv_at hl 2 rfl) ?_
    refine m_callv E (c_X10_puts l D cy q (upN (upN n_0 0 0) 23 x23_4) (upF f_0 22 y22_4) v_b  r_v_b (show 0 ≤ (x23_4) ∧ (x23_4) ≤ 396 from by omega) (show Tap_ (y22_4) from p1_.2.1)) rfl mt_X10_puts ml_X10_216 hK hw hA ⟨Nat.le_of_ble_eq_true rfl, Nat.le_of_ble_eq_true rfl⟩ (As := [.int (J v_b)]) (rest := []) rfl rfl hl.1 (Nat.le_of_ble_eq_true rfl) 27 rfl dX10_feed_24 (fun n_5 f_5 H locs hq5_ hw => ?_)
    obtain ⟨x23_5, y22_5, en5_, ef5_, hq5_⟩ := hq5_
    rw [en5_, ef5_] at hw; clear en5_ ef5_
    have hw : WM D cy q (upN (upN n_0 0 0) 23 x23_5) (upF f_0 22 y22_5) A0 H0 H locs := hw
    have rx23_5 : inR x23_5 := mRn_23 hw.1.2.2.1
    have hh5_ : (x23_5) = (x23_4) + 4 ∧ Tap_ (y22_5) ∧ (∀ j_, (x23_4) ≤ j_ → j_ < (x23_4) + 4 → (y22_5 j_) = by_ v_b (24 - 8 * (j_ - (x23_4)))) ∧ (∀ j_, j_ < (x23_4) ∨ (x23_4) + 4 ≤ j_ → (y22_5 j_) = (y22_4 j_)) := hq5_
    clear hq5_
    have p2_ := hh5_
    clear hh5_
    refine j_aload_n E 28 rfl dX10_feed_27 rfl (lv_at hl 0 rfl) ?_
    refine j_iload_n E 29 rfl dX10_feed_28 rfl (lv_at hl 3 rfl) ?_
    refine m_callv E (c_X10_puts l D cy q (upN (upN n_0 0 0) 23 x23_5) (upF f_0 22 y22_5) v_c  r_v_c (show 0 ≤ (x23_5) ∧ (x23_5) ≤ 396 from by omega) (show Tap_ (y22_5) from p2_.2.1)) rfl mt_X10_puts ml_X10_216 hK hw hA ⟨Nat.le_of_ble_eq_true rfl, Nat.le_of_ble_eq_true rfl⟩ (As := [.int (J v_c)]) (rest := []) rfl rfl hl.1 (Nat.le_of_ble_eq_true rfl) 32 rfl dX10_feed_29 (fun n_6 f_6 H locs hq6_ hw => ?_)
    obtain ⟨x23_6, y22_6, en6_, ef6_, hq6_⟩ := hq6_
    rw [en6_, ef6_] at hw; clear en6_ ef6_
    have hw : WM D cy q (upN (upN n_0 0 0) 23 x23_6) (upF f_0 22 y22_6) A0 H0 H locs := hw
    have rx23_6 : inR x23_6 := mRn_23 hw.1.2.2.1
    have hh6_ : (x23_6) = (x23_5) + 4 ∧ Tap_ (y22_6) ∧ (∀ j_, (x23_5) ≤ j_ → j_ < (x23_5) + 4 → (y22_6 j_) = by_ v_c (24 - 8 * (j_ - (x23_5)))) ∧ (∀ j_, j_ < (x23_5) ∨ (x23_5) + 4 ≤ j_ → (y22_6 j_) = (y22_5 j_)) := hq6_
    clear hq6_
    have p3_ := hh6_
    clear hh6_
    refine j_aload_n E 33 rfl dX10_feed_32 rfl (lv_at hl 0 rfl) ?_
    refine j_iload E 35 rfl dX10_feed_33 (lv_at hl 4 rfl) ?_
    refine m_callv E (c_X10_puts l D cy q (upN (upN n_0 0 0) 23 x23_6) (upF f_0 22 y22_6) v_d  r_v_d (show 0 ≤ (x23_6) ∧ (x23_6) ≤ 396 from by omega) (show Tap_ (y22_6) from p3_.2.1)) rfl mt_X10_puts ml_X10_216 hK hw hA ⟨Nat.le_of_ble_eq_true rfl, Nat.le_of_ble_eq_true rfl⟩ (As := [.int (J v_d)]) (rest := []) rfl rfl hl.1 (Nat.le_of_ble_eq_true rfl) 38 rfl dX10_feed_35 (fun n_7 f_7 H locs hq7_ hw => ?_)
    obtain ⟨x23_7, y22_7, en7_, ef7_, hq7_⟩ := hq7_
    rw [en7_, ef7_] at hw; clear en7_ ef7_
    have hw : WM D cy q (upN (upN n_0 0 0) 23 x23_7) (upF f_0 22 y22_7) A0 H0 H locs := hw
    have rx23_7 : inR x23_7 := mRn_23 hw.1.2.2.1
    have hh7_ : (x23_7) = (x23_6) + 4 ∧ Tap_ (y22_7) ∧ (∀ j_, (x23_6) ≤ j_ → j_ < (x23_6) + 4 → (y22_7 j_) = by_ v_d (24 - 8 * (j_ - (x23_6)))) ∧ (∀ j_, j_ < (x23_6) ∨ (x23_6) + 4 ≤ j_ → (y22_7 j_) = (y22_6 j_)) := hq7_
    clear hq7_
    have p4_ := hh7_
    clear hh7_
    refine j_aload_n E 39 rfl dX10_feed_38 rfl (lv_at hl 0 rfl) ?_
    refine j_iload E 41 rfl dX10_feed_39 (lv_at hl 5 rfl) ?_
    refine m_callv E (c_X10_puts l D cy q (upN (upN n_0 0 0) 23 x23_7) (upF f_0 22 y22_7) v_e  r_v_e (show 0 ≤ (x23_7) ∧ (x23_7) ≤ 396 from by omega) (show Tap_ (y22_7) from p4_.2.1)) rfl mt_X10_puts ml_X10_216 hK hw hA ⟨Nat.le_of_ble_eq_true rfl, Nat.le_of_ble_eq_true rfl⟩ (As := [.int (J v_e)]) (rest := []) rfl rfl hl.1 (Nat.le_of_ble_eq_true rfl) 44 rfl dX10_feed_41 (fun n_8 f_8 H locs hq8_ hw => ?_)
    obtain ⟨x23_8, y22_8, en8_, ef8_, hq8_⟩ := hq8_
    rw [en8_, ef8_] at hw; clear en8_ ef8_
    have hw : WM D cy q (upN (upN n_0 0 0) 23 x23_8) (upF f_0 22 y22_8) A0 H0 H locs := hw
    have rx23_8 : inR x23_8 := mRn_23 hw.1.2.2.1
    have hh8_ : (x23_8) = (x23_7) + 4 ∧ Tap_ (y22_8) ∧ (∀ j_, (x23_7) ≤ j_ → j_ < (x23_7) + 4 → (y22_8 j_) = by_ v_e (24 - 8 * (j_ - (x23_7)))) ∧ (∀ j_, j_ < (x23_7) ∨ (x23_7) + 4 ≤ j_ → (y22_8 j_) = (y22_7 j_)) := hq8_
    clear hq8_
    have p5_ := hh8_
    clear hh8_
    refine j_aload_n E 45 rfl dX10_feed_44 rfl (lv_at hl 0 rfl) ?_
    refine m_get_23 E hK hw x23_8 rfl 48 rfl dX10_feed_45 (fun _ => ?_)
    exact hret 48 x23_8 (upN (upN n_0 0 0) 23 x23_8) (upF f_0 22 y22_8) _ _ ls hw rx23_8 ⟨0, x23_8, y22_8, rfl, rfl, ⟨⟨i_now, i_persons, i_lines, i_wordings, (show 0 ≤ (x23_8) ∧ (x23_8) ≤ 400 from by omega), i_suits, i_spk, i_fam, i_str, i_said, i_book, i_wds, i_tok, i_cod, i_far, (show Tap_ (y22_8) from p5_.2.1), i_qua, i_sil, i_stz, i_way⟩, Or.inr ⟨rfl, by omega, by omega, fun j_ h1_ h2_ => (p5_.2.2.2 j_ (by omega)).trans ((p4_.2.2.2 j_ (by omega)).trans ((p3_.2.2.2 j_ (by omega)).trans ((p2_.2.2.2 j_ (by omega)).trans ((p1_.2.2.1 j_ (by omega) (by omega)).trans (by congr 1; omega))))), fun j_ h1_ h2_ => (p5_.2.2.2 j_ (by omega)).trans ((p4_.2.2.2 j_ (by omega)).trans ((p3_.2.2.2 j_ (by omega)).trans ((p2_.2.2.1 j_ (by omega) (by omega)).trans (by congr 1; omega)))), fun j_ h1_ h2_ => (p5_.2.2.2 j_ (by omega)).trans ((p4_.2.2.2 j_ (by omega)).trans ((p3_.2.2.1 j_ (by omega) (by omega)).trans (by congr 1; omega))), fun j_ h1_ h2_ => (p5_.2.2.2 j_ (by omega)).trans ((p4_.2.2.1 j_ (by omega) (by omega)).trans (by congr 1; omega)), fun j_ h1_ h2_ => (p5_.2.2.1 j_ (by omega) (by omega)).trans (by congr 1; omega), fun j_ h1_ => (p5_.2.2.2 j_ (by omega)).trans ((p4_.2.2.2 j_ (by omega)).trans ((p3_.2.2.2 j_ (by omega)).trans ((p2_.2.2.2 j_ (by omega)).trans ((p1_.2.2.2 j_ (by omega)).trans (rfl)))))⟩⟩⟩ dX10_feed_48
  · refine j_iconst E 16 rfl dX10_feed_15 ?_
    exact hret 16 ((-1)) (upN (upN n_0 0 0) 23 (n_0 23)) (upF f_0 22 (f_0 22)) _ _ ls hw (rr (by decide)) ⟨0, (n_0 23), (f_0 22), rfl, rfl, ⟨⟨i_now, i_persons, i_lines, i_wordings, i_taped, i_suits, i_spk, i_fam, i_str, i_said, i_book, i_wds, i_tok, i_cod, i_far, i_tap, i_qua, i_sil, i_stz, i_way⟩, Or.inl ⟨rfl, by omega, rfl, rfl⟩⟩⟩ dX10_feed_16
set_option maxHeartbeats 4000000 in
set_option maxRecDepth 100000 in
theorem c_X10_end (l : Launch) (D : va_G) (cy : Nat → ClassId) (q : Nat → Nat) (n_0 : Nat → Int) (f_0 : Nat → Int → Int) (v_k : Int) (r_v_k : inR v_k) (hp0 : MI (n_0) (f_0)) : MC l D cy q yX10_end cX10_end 2 (some .boolean) 1 [.int (J v_k)] n_0 f_0 (PI (fun (z_0 : Int) (n_2 : Nat → Int) (f_2 : Nat → Int → Int) => ∃ (x0_2 : Int) (x23_2 : Int) , n_2 = upN (upN n_0 0 x0_2) 23 x23_2 ∧ f_2 = f_0 ∧ (MI (upN (upN n_0 0 x0_2) 23 x23_2) (f_0) ∧ ((z_0 = 1 ∧ 0 ≤ v_k ∧ v_k ≤ (n_0 23) ∧ (x23_2) = v_k) ∨ (z_0 = 0 ∧ (v_k < 0 ∨ (n_0 23) < v_k) ∧ (x23_2) = (n_0 23)))))) := by
  refine MC.ofz rfl (Nat.le_of_ble_eq_true rfl) ?_
  intro p e s m below meth c ls ar QW A0 H0 H locs E hK hA hw hl hret
  have hl : lv_has ls 2 [(0, .ref (q 0)), (1, .int (J v_k))] := hl
  have hp0_ := hp0
  obtain ⟨i_now, i_persons, i_lines, i_wordings, i_taped, i_suits, i_spk, i_fam, i_str, i_said, i_book, i_wds, i_tok, i_cod, i_far, i_tap, i_qua, i_sil, i_stz, i_way⟩ := hp0_
  refine j_aload_n E 1 rfl dX10_end_0 rfl (lv_at hl 0 rfl) ?_
  refine j_iconst E 2 rfl dX10_end_1 ?_
  refine m_put_0 E hK hw (rr (by decide)) 5 rfl dX10_end_2 (fun H locs hw => ?_)
  have hw : WM D cy q (upN n_0 0 0) (f_0) A0 H0 H locs := hw
  refine j_aload_n E 6 rfl dX10_end_5 rfl (lv_at hl 0 rfl) ?_
  refine j_iload_n E 7 rfl dX10_end_6 rfl (lv_at hl 1 rfl) ?_
  refine j_iconst E 8 rfl dX10_end_7 ?_
  refine j_aload_n E 9 rfl dX10_end_8 rfl (lv_at hl 0 rfl) ?_
  refine m_get_23 E hK hw (n_0 23) rfl 12 rfl dX10_end_9 (fun rr2_ => ?_)
  refine m_callp (po := fun z_0 => (z_0 = 1 ∧ (0 : Int) ≤ v_k ∧ v_k ≤ (n_0 23)) ∨ (z_0 = 0 ∧ (v_k < (0 : Int) ∨ (n_0 23) < v_k))) E (c_X10_isIn l D cy q (upN n_0 0 0) (f_0) v_k 0 (n_0 23)  r_v_k (rr (by decide)) rr2_ ) rfl mt_X10_isIn ml_X10_169 hK hw hA ⟨Nat.le_of_ble_eq_true rfl, Nat.le_of_ble_eq_true rfl⟩ (As := [.int (J v_k), .int (J 0), .int (J (n_0 23))]) (rest := []) rfl rfl hl.1 (Nat.le_of_ble_eq_true rfl) 15 rfl dX10_end_12 (fun zz3_ H locs rr3_ hq3_ hw => ?_)
  have hh3_ : (zz3_ = 1 ∧ (0 : Int) ≤ v_k ∧ v_k ≤ (n_0 23)) ∨ (zz3_ = 0 ∧ (v_k < (0 : Int) ∨ (n_0 23) < v_k)) := hq3_
  clear hq3_
  rcases hh3_ with ⟨ee3_, hh3_⟩ | ⟨ee3_, hh3_⟩
  · subst ee3_
    refine j_if_ne E 18 20 rfl (rr (by decide)) dX10_end_15 (by decide) (fun _ => ?_) (fun cc4_ => absurd cc4_ (by decide))
    refine j_aload_n E 21 rfl dX10_end_20 rfl (lv_at hl 0 rfl) ?_
    refine j_iload_n E 22 rfl dX10_end_21 rfl (lv_at hl 1 rfl) ?_
    refine m_put_23 E hK hw r_v_k 25 rfl dX10_end_22 (fun H locs hw => ?_)
    have hw : WM D cy q (upN (upN n_0 0 0) 23 v_k) (f_0) A0 H0 H locs := hw
    refine j_iconst E 26 rfl dX10_end_25 ?_
    exact hret 26 1 (upN (upN n_0 0 0) 23 v_k) (f_0) _ _ ls hw (Or.inr rfl) ⟨0, v_k, rfl, rfl, ⟨⟨i_now, i_persons, i_lines, i_wordings, (show 0 ≤ (v_k) ∧ (v_k) ≤ 400 from by omega), i_suits, i_spk, i_fam, i_str, i_said, i_book, i_wds, i_tok, i_cod, i_far, i_tap, i_qua, i_sil, i_stz, i_way⟩, by omega⟩⟩ dX10_end_26
  · subst ee3_
    refine j_if_ne E 18 20 rfl (rr (by decide)) dX10_end_15 (by decide) (fun cc6_ => absurd cc6_ (by decide)) (fun _ => ?_)
    refine j_iconst E 19 rfl dX10_end_18 ?_
    exact hret 19 0 (upN (upN n_0 0 0) 23 (n_0 23)) (f_0) _ _ ls hw (Or.inl rfl) ⟨0, (n_0 23), rfl, rfl, ⟨⟨i_now, i_persons, i_lines, i_wordings, (show 0 ≤ (n_0 23) ∧ (n_0 23) ≤ 400 from by omega), i_suits, i_spk, i_fam, i_str, i_said, i_book, i_wds, i_tok, i_cod, i_far, i_tap, i_qua, i_sil, i_stz, i_way⟩, by omega⟩⟩ dX10_end_19
set_option maxHeartbeats 4000000 in
set_option maxRecDepth 100000 in
theorem c_X10_fault (l : Launch) (D : va_G) (cy : Nat → ClassId) (q : Nat → Nat) (n_0 : Nat → Int) (f_0 : Nat → Int → Int) (v_what : Int) (r_v_what : inR v_what) (hp0 : MI (n_0) (f_0)) : MC l D cy q yX10_fault cX10_fault 2 (some .int) 0 [.int (J v_what)] n_0 f_0 (PI (fun (z_0 : Int) (n_2 : Nat → Int) (f_2 : Nat → Int → Int) => ∃ (x0_2 : Int) , n_2 = upN n_0 0 x0_2 ∧ f_2 = f_0 ∧ (MI (upN n_0 0 x0_2) (f_0) ∧ ((v_what = 0 ∧ z_0 = (n_0 43)) ∨ (v_what = 1 ∧ z_0 = (n_0 44)) ∨ (¬ v_what = 0 ∧ ¬ v_what = 1 ∧ z_0 = -1))))) := by
  refine MC.ofi rfl (Nat.le_of_ble_eq_true rfl) ?_
  intro p e s m below meth c ls ar QW A0 H0 H locs E hK hA hw hl hret
  have hl : lv_has ls 2 [(0, .ref (q 0)), (1, .int (J v_what))] := hl
  have hp0_ := hp0
  obtain ⟨i_now, i_persons, i_lines, i_wordings, i_taped, i_suits, i_spk, i_fam, i_str, i_said, i_book, i_wds, i_tok, i_cod, i_far, i_tap, i_qua, i_sil, i_stz, i_way⟩ := hp0_
  refine j_aload_n E 1 rfl dX10_fault_0 rfl (lv_at hl 0 rfl) ?_
  refine j_iconst E 2 rfl dX10_fault_1 ?_
  refine m_put_0 E hK hw (rr (by decide)) 5 rfl dX10_fault_2 (fun H locs hw => ?_)
  have hw : WM D cy q (upN n_0 0 0) (f_0) A0 H0 H locs := hw
  refine j_iload_n E 6 rfl dX10_fault_5 rfl (lv_at hl 1 rfl) ?_
  refine j_if_ne E 9 16 rfl r_v_what dX10_fault_6 (by decide) (fun cc2_ => ?_) (fun cc2_ => ?_)
  · refine j_iload_n E 17 rfl dX10_fault_16 rfl (lv_at hl 1 rfl) ?_
    refine j_iconst E 18 rfl dX10_fault_17 ?_
    refine j_icmp_ne E 21 28 rfl r_v_what (rr (by decide)) dX10_fault_18 (by decide) (fun cc3_ => ?_) (fun cc3_ => ?_)
    · refine j_iconst E 29 rfl dX10_fault_28 ?_
      exact hret 29 ((-1)) (upN n_0 0 0) (f_0) _ _ ls hw (rr (by decide)) ⟨0, rfl, rfl, ⟨⟨i_now, i_persons, i_lines, i_wordings, i_taped, i_suits, i_spk, i_fam, i_str, i_said, i_book, i_wds, i_tok, i_cod, i_far, i_tap, i_qua, i_sil, i_stz, i_way⟩, by omega⟩⟩ dX10_fault_29
    · refine j_aload_n E 22 rfl dX10_fault_21 rfl (lv_at hl 0 rfl) ?_
      refine m_get_44 E hK hw (n_0 44) rfl 25 rfl dX10_fault_22 (fun rr4_ => ?_)
      refine j_goto E 29 dX10_fault_25 (by decide) ?_
      exact hret 29 (n_0 44) (upN n_0 0 0) (f_0) _ _ ls hw rr4_ ⟨0, rfl, rfl, ⟨⟨i_now, i_persons, i_lines, i_wordings, i_taped, i_suits, i_spk, i_fam, i_str, i_said, i_book, i_wds, i_tok, i_cod, i_far, i_tap, i_qua, i_sil, i_stz, i_way⟩, by omega⟩⟩ dX10_fault_29
  · refine j_aload_n E 10 rfl dX10_fault_9 rfl (lv_at hl 0 rfl) ?_
    refine m_get_43 E hK hw (n_0 43) rfl 13 rfl dX10_fault_10 (fun rr5_ => ?_)
    refine j_goto E 29 dX10_fault_13 (by decide) ?_
    exact hret 29 (n_0 43) (upN n_0 0 0) (f_0) _ _ ls hw rr5_ ⟨0, rfl, rfl, ⟨⟨i_now, i_persons, i_lines, i_wordings, i_taped, i_suits, i_spk, i_fam, i_str, i_said, i_book, i_wds, i_tok, i_cod, i_far, i_tap, i_qua, i_sil, i_stz, i_way⟩, by omega⟩⟩ dX10_fault_29
set_option maxHeartbeats 4000000 in
set_option maxRecDepth 100000 in
theorem c_X10_suitOf (l : Launch) (D : va_G) (cy : Nat → ClassId) (q : Nat → Nat) (n_0 : Nat → Int) (f_0 : Nat → Int → Int) (v_i v_what : Int) (r_v_i : inR v_i) (r_v_what : inR v_what) (hp0 : MI (n_0) (f_0)) : MC l D cy q yX10_suitOf cX10_suitOf 3 (some .int) 1 [.int (J v_i), .int (J v_what)] n_0 f_0 (PI (fun (z_0 : Int) (n_2 : Nat → Int) (f_2 : Nat → Int → Int) => ∃ (x0_2 : Int) , n_2 = upN n_0 0 x0_2 ∧ f_2 = f_0 ∧ (MI (upN n_0 0 x0_2) (f_0) ∧ ((¬ (0 ≤ v_i ∧ v_i < (n_0 48)) ∧ z_0 = -1) ∨ ((0 ≤ v_i ∧ v_i < (n_0 48)) ∧ Sf_ v_what ((f_0 49 v_i)) ((f_0 50 v_i)) ((f_0 51 v_i)) ((f_0 52 v_i)) ((f_0 53 v_i)) ((f_0 54 v_i)) (n_0 2) (fun r_ z_ => z_ = (f_0 55 (24 * v_i + r_))) z_0))))) := by
  refine MC.ofi rfl (Nat.le_of_ble_eq_true rfl) ?_
  intro p e s m below meth c ls ar QW A0 H0 H locs E hK hA hw hl hret
  have hl : lv_has ls 3 [(0, .ref (q 0)), (1, .int (J v_i)), (2, .int (J v_what))] := hl
  have hp0_ := hp0
  obtain ⟨i_now, i_persons, i_lines, i_wordings, i_taped, i_suits, i_spk, i_fam, i_str, i_said, i_book, i_wds, i_tok, i_cod, i_far, i_tap, i_qua, i_sil, i_stz, i_way⟩ := hp0_
  refine j_aload_n E 1 rfl dX10_suitOf_0 rfl (lv_at hl 0 rfl) ?_
  refine j_iconst E 2 rfl dX10_suitOf_1 ?_
  refine m_put_0 E hK hw (rr (by decide)) 5 rfl dX10_suitOf_2 (fun H locs hw => ?_)
  have hw : WM D cy q (upN n_0 0 0) (f_0) A0 H0 H locs := hw
  refine j_aload_n E 6 rfl dX10_suitOf_5 rfl (lv_at hl 0 rfl) ?_
  refine j_iload_n E 7 rfl dX10_suitOf_6 rfl (lv_at hl 1 rfl) ?_
  refine j_iconst E 8 rfl dX10_suitOf_7 ?_
  refine j_aload_n E 9 rfl dX10_suitOf_8 rfl (lv_at hl 0 rfl) ?_
  refine m_get_48 E hK hw (n_0 48) rfl 12 rfl dX10_suitOf_9 (fun rr2_ => ?_)
  refine j_iconst E 13 rfl dX10_suitOf_12 ?_
  refine j_isub E 14 rfl dX10_suitOf_13 ?_
  refine m_callp (po := fun z_0 => (z_0 = 1 ∧ (0 : Int) ≤ v_i ∧ v_i ≤ ((n_0 48) - 1)) ∨ (z_0 = 0 ∧ (v_i < (0 : Int) ∨ ((n_0 48) - 1) < v_i))) E (c_X10_isIn l D cy q (upN n_0 0 0) (f_0) v_i 0 ((n_0 48) - 1)  r_v_i (rr (by decide)) (rr (by omega)) ) rfl mt_X10_isIn ml_X10_169 hK hw hA ⟨Nat.le_of_ble_eq_true rfl, Nat.le_of_ble_eq_true rfl⟩ (As := [.int (J v_i), .int (J 0), .int (J ((n_0 48) - 1))]) (rest := []) rfl rfl hl.1 (Nat.le_of_ble_eq_true rfl) 17 rfl dX10_suitOf_14 (fun zz3_ H locs rr3_ hq3_ hw => ?_)
  have hh3_ : (zz3_ = 1 ∧ (0 : Int) ≤ v_i ∧ v_i ≤ ((n_0 48) - 1)) ∨ (zz3_ = 0 ∧ (v_i < (0 : Int) ∨ ((n_0 48) - 1) < v_i)) := hq3_
  clear hq3_
  rcases hh3_ with ⟨ee3_, hh3_⟩ | ⟨ee3_, hh3_⟩
  · subst ee3_
    refine j_if_ne E 20 22 rfl (rr (by decide)) dX10_suitOf_17 (by decide) (fun _ => ?_) (fun cc4_ => absurd cc4_ (by decide))
    refine j_iload_n E 23 rfl dX10_suitOf_22 rfl (lv_at hl 2 rfl) ?_
    refine j_if_ne E 26 33 rfl r_v_what dX10_suitOf_23 (by decide) (fun cc5_ => ?_) (fun cc5_ => ?_)
    · refine j_iload_n E 34 rfl dX10_suitOf_33 rfl (lv_at hl 2 rfl) ?_
      refine j_iconst E 35 rfl dX10_suitOf_34 ?_
      refine j_icmp_ne E 38 45 rfl r_v_what (rr (by decide)) dX10_suitOf_35 (by decide) (fun cc6_ => ?_) (fun cc6_ => ?_)
      · refine j_iload_n E 46 rfl dX10_suitOf_45 rfl (lv_at hl 2 rfl) ?_
        refine j_iconst E 47 rfl dX10_suitOf_46 ?_
        refine j_icmp_ne E 50 57 rfl r_v_what (rr (by decide)) dX10_suitOf_47 (by decide) (fun cc7_ => ?_) (fun cc7_ => ?_)
        · refine j_iload_n E 58 rfl dX10_suitOf_57 rfl (lv_at hl 2 rfl) ?_
          refine j_iconst E 59 rfl dX10_suitOf_58 ?_
          refine j_icmp_ne E 62 69 rfl r_v_what (rr (by decide)) dX10_suitOf_59 (by decide) (fun cc8_ => ?_) (fun cc8_ => ?_)
          · refine j_iload_n E 70 rfl dX10_suitOf_69 rfl (lv_at hl 2 rfl) ?_
            refine j_iconst E 71 rfl dX10_suitOf_70 ?_
            refine j_icmp_ne E 74 81 rfl r_v_what (rr (by decide)) dX10_suitOf_71 (by decide) (fun cc9_ => ?_) (fun cc9_ => ?_)
            · refine j_iload_n E 82 rfl dX10_suitOf_81 rfl (lv_at hl 2 rfl) ?_
              refine j_iconst E 83 rfl dX10_suitOf_82 ?_
              refine j_icmp_ne E 86 101 rfl r_v_what (rr (by decide)) dX10_suitOf_83 (by decide) (fun cc10_ => ?_) (fun cc10_ => ?_)
              · refine j_aload_n E 102 rfl dX10_suitOf_101 rfl (lv_at hl 0 rfl) ?_
                refine j_iload_n E 103 rfl dX10_suitOf_102 rfl (lv_at hl 2 rfl) ?_
                refine j_bipush E 105 rfl dX10_suitOf_103 (by decide) ?_
                refine j_bipush E 107 rfl dX10_suitOf_105 (by decide) ?_
                refine j_aload_n E 108 rfl dX10_suitOf_107 rfl (lv_at hl 0 rfl) ?_
                refine m_get_2 E hK hw (n_0 2) rfl 111 rfl dX10_suitOf_108 (fun rr11_ => ?_)
                refine j_iadd E 112 rfl dX10_suitOf_111 ?_
                refine m_callp (po := fun z_0 => (z_0 = 1 ∧ (10 : Int) ≤ v_what ∧ v_what ≤ (9 + (n_0 2))) ∨ (z_0 = 0 ∧ (v_what < (10 : Int) ∨ (9 + (n_0 2)) < v_what))) E (c_X10_isIn l D cy q (upN n_0 0 0) (f_0) v_what 10 (9 + (n_0 2))  r_v_what (rr (by decide)) (rr (by omega)) ) rfl mt_X10_isIn ml_X10_169 hK hw hA ⟨Nat.le_of_ble_eq_true rfl, Nat.le_of_ble_eq_true rfl⟩ (As := [.int (J v_what), .int (J 10), .int (J (9 + (n_0 2)))]) (rest := []) rfl rfl hl.1 (Nat.le_of_ble_eq_true rfl) 115 rfl dX10_suitOf_112 (fun zz12_ H locs rr12_ hq12_ hw => ?_)
                have hh12_ : (zz12_ = 1 ∧ (10 : Int) ≤ v_what ∧ v_what ≤ (9 + (n_0 2))) ∨ (zz12_ = 0 ∧ (v_what < (10 : Int) ∨ (9 + (n_0 2)) < v_what)) := hq12_
                clear hq12_
                rcases hh12_ with ⟨ee12_, hh12_⟩ | ⟨ee12_, hh12_⟩
                · subst ee12_
                  refine j_if_eq E 118 135 rfl (rr (by decide)) dX10_suitOf_115 (by decide) (fun cc13_ => absurd cc13_ (by decide)) (fun _ => ?_)
                  refine j_aload_n E 119 rfl dX10_suitOf_118 rfl (lv_at hl 0 rfl) ?_
                  refine m_ag_55 E hK hw 122 rfl dX10_suitOf_119 ?_
                  refine j_bipush E 124 rfl dX10_suitOf_122 (by decide) ?_
                  refine j_iload_n E 125 rfl dX10_suitOf_124 rfl (lv_at hl 1 rfl) ?_
                  refine j_imul E 126 rfl dX10_suitOf_125 ?_
                  refine j_iload_n E 127 rfl dX10_suitOf_126 rfl (lv_at hl 2 rfl) ?_
                  refine j_iadd E 128 rfl dX10_suitOf_127 ?_
                  refine j_bipush E 130 rfl dX10_suitOf_128 (by decide) ?_
                  refine j_isub E 131 rfl dX10_suitOf_130 ?_
                  refine m_ld_55 E hK hw (f_0 55 (((24 * v_i) + v_what) - 10)) rfl (by omega) 132 rfl dX10_suitOf_131 (fun rr14_ => ?_)
                  refine j_goto E 136 dX10_suitOf_132 (by decide) ?_
                  exact hret 136 (f_0 55 (((24 * v_i) + v_what) - 10)) (upN n_0 0 0) (f_0) _ _ ls hw rr14_ ⟨0, rfl, rfl, ⟨⟨i_now, i_persons, i_lines, i_wordings, i_taped, i_suits, i_spk, i_fam, i_str, i_said, i_book, i_wds, i_tok, i_cod, i_far, i_tap, i_qua, i_sil, i_stz, i_way⟩, by first | exact Or.inr ⟨by omega, Or.inr (Or.inr (Or.inr (Or.inr (Or.inr (Or.inr (Or.inl ⟨by omega, by show _ = _; exact congrArg _ (by omega)⟩))))))⟩ | exact Or.inr ⟨by omega, Or.inr (Or.inr (Or.inr (Or.inr (Or.inr (Or.inr (Or.inr (⟨by omega, rfl⟩)))))))⟩⟩⟩ dX10_suitOf_136
                · subst ee12_
                  refine j_if_eq E 118 135 rfl (rr (by decide)) dX10_suitOf_115 (by decide) (fun _ => ?_) (fun cc15_ => absurd cc15_ (by decide))
                  refine j_iconst E 136 rfl dX10_suitOf_135 ?_
                  exact hret 136 ((-1)) (upN n_0 0 0) (f_0) _ _ ls hw (rr (by decide)) ⟨0, rfl, rfl, ⟨⟨i_now, i_persons, i_lines, i_wordings, i_taped, i_suits, i_spk, i_fam, i_str, i_said, i_book, i_wds, i_tok, i_cod, i_far, i_tap, i_qua, i_sil, i_stz, i_way⟩, by first | exact Or.inr ⟨by omega, Or.inr (Or.inr (Or.inr (Or.inr (Or.inr (Or.inr (Or.inl ⟨by omega, by show _ = _; exact congrArg _ (by omega)⟩))))))⟩ | exact Or.inr ⟨by omega, Or.inr (Or.inr (Or.inr (Or.inr (Or.inr (Or.inr (Or.inr (⟨by omega, rfl⟩)))))))⟩⟩⟩ dX10_suitOf_136
              · refine j_aload_n E 87 rfl dX10_suitOf_86 rfl (lv_at hl 0 rfl) ?_
                refine m_ag_54 E hK hw 90 rfl dX10_suitOf_87 ?_
                refine j_iload_n E 91 rfl dX10_suitOf_90 rfl (lv_at hl 1 rfl) ?_
                refine m_ld_54 E hK hw (f_0 54 v_i) rfl (by omega) 92 rfl dX10_suitOf_91 (fun rr16_ => ?_)
                refine j_if_eq E 95 99 rfl rr16_ dX10_suitOf_92 (by decide) (fun cc17_ => ?_) (fun cc17_ => ?_)
                · refine j_iconst E 100 rfl dX10_suitOf_99 ?_
                  exact hret 100 0 (upN n_0 0 0) (f_0) _ _ ls hw (rr (by decide)) ⟨0, rfl, rfl, ⟨⟨i_now, i_persons, i_lines, i_wordings, i_taped, i_suits, i_spk, i_fam, i_str, i_said, i_book, i_wds, i_tok, i_cod, i_far, i_tap, i_qua, i_sil, i_stz, i_way⟩, by first | exact Or.inr ⟨by omega, Or.inr (Or.inr (Or.inr (Or.inr (Or.inr (Or.inl ⟨by omega, Or.inl ⟨rfl, by omega⟩⟩)))))⟩ | exact Or.inr ⟨by omega, Or.inr (Or.inr (Or.inr (Or.inr (Or.inr (Or.inl ⟨by omega, Or.inr ⟨rfl, by omega⟩⟩)))))⟩⟩⟩ dX10_suitOf_100
                · refine j_iconst E 96 rfl dX10_suitOf_95 ?_
                  refine j_goto E 100 dX10_suitOf_96 (by decide) ?_
                  exact hret 100 1 (upN n_0 0 0) (f_0) _ _ ls hw (rr (by decide)) ⟨0, rfl, rfl, ⟨⟨i_now, i_persons, i_lines, i_wordings, i_taped, i_suits, i_spk, i_fam, i_str, i_said, i_book, i_wds, i_tok, i_cod, i_far, i_tap, i_qua, i_sil, i_stz, i_way⟩, by first | exact Or.inr ⟨by omega, Or.inr (Or.inr (Or.inr (Or.inr (Or.inr (Or.inl ⟨by omega, Or.inl ⟨rfl, by omega⟩⟩)))))⟩ | exact Or.inr ⟨by omega, Or.inr (Or.inr (Or.inr (Or.inr (Or.inr (Or.inl ⟨by omega, Or.inr ⟨rfl, by omega⟩⟩)))))⟩⟩⟩ dX10_suitOf_100
            · refine j_aload_n E 75 rfl dX10_suitOf_74 rfl (lv_at hl 0 rfl) ?_
              refine m_ag_53 E hK hw 78 rfl dX10_suitOf_75 ?_
              refine j_iload_n E 79 rfl dX10_suitOf_78 rfl (lv_at hl 1 rfl) ?_
              refine m_ld_53 E hK hw (f_0 53 v_i) rfl (by omega) 80 rfl dX10_suitOf_79 (fun rr18_ => ?_)
              exact hret 80 (f_0 53 v_i) (upN n_0 0 0) (f_0) _ _ ls hw rr18_ ⟨0, rfl, rfl, ⟨⟨i_now, i_persons, i_lines, i_wordings, i_taped, i_suits, i_spk, i_fam, i_str, i_said, i_book, i_wds, i_tok, i_cod, i_far, i_tap, i_qua, i_sil, i_stz, i_way⟩, Or.inr ⟨by omega, Or.inr (Or.inr (Or.inr (Or.inr (Or.inl ⟨by omega, rfl⟩))))⟩⟩⟩ dX10_suitOf_80
          · refine j_aload_n E 63 rfl dX10_suitOf_62 rfl (lv_at hl 0 rfl) ?_
            refine m_ag_52 E hK hw 66 rfl dX10_suitOf_63 ?_
            refine j_iload_n E 67 rfl dX10_suitOf_66 rfl (lv_at hl 1 rfl) ?_
            refine m_ld_52 E hK hw (f_0 52 v_i) rfl (by omega) 68 rfl dX10_suitOf_67 (fun rr19_ => ?_)
            exact hret 68 (f_0 52 v_i) (upN n_0 0 0) (f_0) _ _ ls hw rr19_ ⟨0, rfl, rfl, ⟨⟨i_now, i_persons, i_lines, i_wordings, i_taped, i_suits, i_spk, i_fam, i_str, i_said, i_book, i_wds, i_tok, i_cod, i_far, i_tap, i_qua, i_sil, i_stz, i_way⟩, Or.inr ⟨by omega, Or.inr (Or.inr (Or.inr (Or.inl ⟨by omega, rfl⟩)))⟩⟩⟩ dX10_suitOf_68
        · refine j_aload_n E 51 rfl dX10_suitOf_50 rfl (lv_at hl 0 rfl) ?_
          refine m_ag_51 E hK hw 54 rfl dX10_suitOf_51 ?_
          refine j_iload_n E 55 rfl dX10_suitOf_54 rfl (lv_at hl 1 rfl) ?_
          refine m_ld_51 E hK hw (f_0 51 v_i) rfl (by omega) 56 rfl dX10_suitOf_55 (fun rr20_ => ?_)
          exact hret 56 (f_0 51 v_i) (upN n_0 0 0) (f_0) _ _ ls hw rr20_ ⟨0, rfl, rfl, ⟨⟨i_now, i_persons, i_lines, i_wordings, i_taped, i_suits, i_spk, i_fam, i_str, i_said, i_book, i_wds, i_tok, i_cod, i_far, i_tap, i_qua, i_sil, i_stz, i_way⟩, Or.inr ⟨by omega, Or.inr (Or.inr (Or.inl ⟨by omega, rfl⟩))⟩⟩⟩ dX10_suitOf_56
      · refine j_aload_n E 39 rfl dX10_suitOf_38 rfl (lv_at hl 0 rfl) ?_
        refine m_ag_50 E hK hw 42 rfl dX10_suitOf_39 ?_
        refine j_iload_n E 43 rfl dX10_suitOf_42 rfl (lv_at hl 1 rfl) ?_
        refine m_ld_50 E hK hw (f_0 50 v_i) rfl (by omega) 44 rfl dX10_suitOf_43 (fun rr21_ => ?_)
        exact hret 44 (f_0 50 v_i) (upN n_0 0 0) (f_0) _ _ ls hw rr21_ ⟨0, rfl, rfl, ⟨⟨i_now, i_persons, i_lines, i_wordings, i_taped, i_suits, i_spk, i_fam, i_str, i_said, i_book, i_wds, i_tok, i_cod, i_far, i_tap, i_qua, i_sil, i_stz, i_way⟩, Or.inr ⟨by omega, Or.inr (Or.inl ⟨by omega, rfl⟩)⟩⟩⟩ dX10_suitOf_44
    · refine j_aload_n E 27 rfl dX10_suitOf_26 rfl (lv_at hl 0 rfl) ?_
      refine m_ag_49 E hK hw 30 rfl dX10_suitOf_27 ?_
      refine j_iload_n E 31 rfl dX10_suitOf_30 rfl (lv_at hl 1 rfl) ?_
      refine m_ld_49 E hK hw (f_0 49 v_i) rfl (by omega) 32 rfl dX10_suitOf_31 (fun rr22_ => ?_)
      exact hret 32 (f_0 49 v_i) (upN n_0 0 0) (f_0) _ _ ls hw rr22_ ⟨0, rfl, rfl, ⟨⟨i_now, i_persons, i_lines, i_wordings, i_taped, i_suits, i_spk, i_fam, i_str, i_said, i_book, i_wds, i_tok, i_cod, i_far, i_tap, i_qua, i_sil, i_stz, i_way⟩, Or.inr ⟨by omega, Or.inl ⟨by omega, rfl⟩⟩⟩⟩ dX10_suitOf_32
  · subst ee3_
    refine j_if_ne E 20 22 rfl (rr (by decide)) dX10_suitOf_17 (by decide) (fun cc23_ => absurd cc23_ (by decide)) (fun _ => ?_)
    refine j_iconst E 21 rfl dX10_suitOf_20 ?_
    exact hret 21 ((-1)) (upN n_0 0 0) (f_0) _ _ ls hw (rr (by decide)) ⟨0, rfl, rfl, ⟨⟨i_now, i_persons, i_lines, i_wordings, i_taped, i_suits, i_spk, i_fam, i_str, i_said, i_book, i_wds, i_tok, i_cod, i_far, i_tap, i_qua, i_sil, i_stz, i_way⟩, Or.inl ⟨by omega, rfl⟩⟩⟩ dX10_suitOf_21
set_option maxHeartbeats 4000000 in
set_option maxRecDepth 100000 in
theorem c_X10_pay (l : Launch) (D : va_G) (cy : Nat → ClassId) (q : Nat → Nat) (n_0 : Nat → Int) (f_0 : Nat → Int → Int) (v_i : Int) (r_v_i : inR v_i) (hp0 : MI (n_0) (f_0)) : MC l D cy q yX10_pay cX10_pay 2 (some .boolean) 1 [.int (J v_i)] n_0 f_0 (PI (fun (z_0 : Int) (n_2 : Nat → Int) (f_2 : Nat → Int → Int) => ∃ (x0_2 : Int) (y54_2 : Int → Int) , n_2 = upN n_0 0 x0_2 ∧ f_2 = upF f_0 54 y54_2 ∧ (MI (upN n_0 0 x0_2) (upF f_0 54 y54_2) ∧ ((z_0 = 0 ∧ (y54_2) = (f_0 54) ∧ (v_i < 0 ∨ (n_0 48) ≤ v_i ∨ ¬ (f_0 54 v_i) = 0)) ∨ (z_0 = 1 ∧ (0 ≤ v_i ∧ v_i < (n_0 48)) ∧ (f_0 54 v_i) = 0 ∧ (y54_2) = upA (f_0 54) v_i 1))))) := by
  refine MC.ofz rfl (Nat.le_of_ble_eq_true rfl) ?_
  intro p e s m below meth c ls ar QW A0 H0 H locs E hK hA hw hl hret
  have hl : lv_has ls 2 [(0, .ref (q 0)), (1, .int (J v_i))] := hl
  have hp0_ := hp0
  obtain ⟨i_now, i_persons, i_lines, i_wordings, i_taped, i_suits, i_spk, i_fam, i_str, i_said, i_book, i_wds, i_tok, i_cod, i_far, i_tap, i_qua, i_sil, i_stz, i_way⟩ := hp0_
  refine j_aload_n E 1 rfl dX10_pay_0 rfl (lv_at hl 0 rfl) ?_
  refine j_iconst E 2 rfl dX10_pay_1 ?_
  refine m_put_0 E hK hw (rr (by decide)) 5 rfl dX10_pay_2 (fun H locs hw => ?_)
  have hw : WM D cy q (upN n_0 0 0) (f_0) A0 H0 H locs := hw
  refine j_aload_n E 6 rfl dX10_pay_5 rfl (lv_at hl 0 rfl) ?_
  refine j_iload_n E 7 rfl dX10_pay_6 rfl (lv_at hl 1 rfl) ?_
  refine j_iconst E 8 rfl dX10_pay_7 ?_
  refine j_aload_n E 9 rfl dX10_pay_8 rfl (lv_at hl 0 rfl) ?_
  refine m_get_48 E hK hw (n_0 48) rfl 12 rfl dX10_pay_9 (fun rr2_ => ?_)
  refine j_iconst E 13 rfl dX10_pay_12 ?_
  refine j_isub E 14 rfl dX10_pay_13 ?_
  refine m_callp (po := fun z_0 => (z_0 = 1 ∧ (0 : Int) ≤ v_i ∧ v_i ≤ ((n_0 48) - 1)) ∨ (z_0 = 0 ∧ (v_i < (0 : Int) ∨ ((n_0 48) - 1) < v_i))) E (c_X10_isIn l D cy q (upN n_0 0 0) (f_0) v_i 0 ((n_0 48) - 1)  r_v_i (rr (by decide)) (rr (by omega)) ) rfl mt_X10_isIn ml_X10_169 hK hw hA ⟨Nat.le_of_ble_eq_true rfl, Nat.le_of_ble_eq_true rfl⟩ (As := [.int (J v_i), .int (J 0), .int (J ((n_0 48) - 1))]) (rest := []) rfl rfl hl.1 (Nat.le_of_ble_eq_true rfl) 17 rfl dX10_pay_14 (fun zz3_ H locs rr3_ hq3_ hw => ?_)
  have hh3_ : (zz3_ = 1 ∧ (0 : Int) ≤ v_i ∧ v_i ≤ ((n_0 48) - 1)) ∨ (zz3_ = 0 ∧ (v_i < (0 : Int) ∨ ((n_0 48) - 1) < v_i)) := hq3_
  clear hq3_
  rcases hh3_ with ⟨ee3_, hh3_⟩ | ⟨ee3_, hh3_⟩
  · subst ee3_
    refine j_if_eq E 20 29 rfl (rr (by decide)) dX10_pay_17 (by decide) (fun cc4_ => absurd cc4_ (by decide)) (fun _ => ?_)
    refine j_aload_n E 21 rfl dX10_pay_20 rfl (lv_at hl 0 rfl) ?_
    refine m_ag_54 E hK hw 24 rfl dX10_pay_21 ?_
    refine j_iload_n E 25 rfl dX10_pay_24 rfl (lv_at hl 1 rfl) ?_
    refine m_ld_54 E hK hw (f_0 54 v_i) rfl (by omega) 26 rfl dX10_pay_25 (fun rr5_ => ?_)
    refine j_if_eq E 29 31 rfl rr5_ dX10_pay_26 (by decide) (fun cc6_ => ?_) (fun cc6_ => ?_)
    · refine j_aload_n E 32 rfl dX10_pay_31 rfl (lv_at hl 0 rfl) ?_
      refine m_ag_54 E hK hw 35 rfl dX10_pay_32 ?_
      refine j_iload_n E 36 rfl dX10_pay_35 rfl (lv_at hl 1 rfl) ?_
      refine j_iconst E 37 rfl dX10_pay_36 ?_
      refine m_st_54 E hK hw (by omega) (rr (by decide)) (Or.inr rfl) 38 rfl dX10_pay_37 (fun H locs hw => ?_)
      have hw : WM D cy q (upN n_0 0 0) (upF f_0 54 (upA (f_0 54) v_i 1)) A0 H0 H locs := hw
      refine j_iconst E 39 rfl dX10_pay_38 ?_
      exact hret 39 1 (upN n_0 0 0) (upF f_0 54 (upA (f_0 54) v_i 1)) _ _ ls hw (Or.inr rfl) ⟨0, (upA (f_0 54) v_i 1), rfl, rfl, ⟨⟨i_now, i_persons, i_lines, i_wordings, i_taped, i_suits, i_spk, i_fam, i_str, i_said, i_book, i_wds, i_tok, i_cod, i_far, i_tap, i_qua, i_sil, i_stz, i_way⟩, by first | exact Or.inl ⟨rfl, rfl, by omega⟩ | exact Or.inr ⟨rfl, by omega, by omega, rfl⟩⟩⟩ dX10_pay_39
    · refine j_iconst E 30 rfl dX10_pay_29 ?_
      exact hret 30 0 (upN n_0 0 0) (upF f_0 54 (f_0 54)) _ _ ls hw (Or.inl rfl) ⟨0, (f_0 54), rfl, rfl, ⟨⟨i_now, i_persons, i_lines, i_wordings, i_taped, i_suits, i_spk, i_fam, i_str, i_said, i_book, i_wds, i_tok, i_cod, i_far, i_tap, i_qua, i_sil, i_stz, i_way⟩, by first | exact Or.inl ⟨rfl, rfl, by omega⟩ | exact Or.inr ⟨rfl, by omega, by omega, rfl⟩⟩⟩ dX10_pay_30
  · subst ee3_
    refine j_if_eq E 20 29 rfl (rr (by decide)) dX10_pay_17 (by decide) (fun _ => ?_) (fun cc8_ => absurd cc8_ (by decide))
    refine j_iconst E 30 rfl dX10_pay_29 ?_
    exact hret 30 0 (upN n_0 0 0) (upF f_0 54 (f_0 54)) _ _ ls hw (Or.inl rfl) ⟨0, (f_0 54), rfl, rfl, ⟨⟨i_now, i_persons, i_lines, i_wordings, i_taped, i_suits, i_spk, i_fam, i_str, i_said, i_book, i_wds, i_tok, i_cod, i_far, i_tap, i_qua, i_sil, i_stz, i_way⟩, by first | exact Or.inl ⟨rfl, rfl, by omega⟩ | exact Or.inr ⟨rfl, by omega, by omega, rfl⟩⟩⟩ dX10_pay_30
set_option maxHeartbeats 4000000 in
set_option maxRecDepth 100000 in
theorem c_X10_book (l : Launch) (D : va_G) (cy : Nat → ClassId) (q : Nat → Nat) (n_0 : Nat → Int) (f_0 : Nat → Int → Int) (v_x v_w : Int) (r_v_x : inR v_x) (r_v_w : inR v_w) (hp0 : MI (n_0) (f_0)) : MC l D cy q yX10_book cX10_book 3 (some .boolean) 1 [.int (J v_x), .int (J v_w)] n_0 f_0 (PI (fun (z_0 : Int) (n_2 : Nat → Int) (f_2 : Nat → Int → Int) => ∃ (x0_2 : Int) (y67_2 : Int → Int) , n_2 = upN n_0 0 x0_2 ∧ f_2 = upF f_0 67 y67_2 ∧ (MI (upN n_0 0 x0_2) (upF f_0 67 y67_2) ∧ ((z_0 = 1 ∧ ((0 ≤ v_x ∧ v_x < (n_0 12)) ∧ (v_w = -1 ∨ (0 ≤ v_w ∧ v_w < (n_0 29)))) ∧ (y67_2) = upA (f_0 67) v_x v_w) ∨ (z_0 = 0 ∧ ¬ ((0 ≤ v_x ∧ v_x < (n_0 12)) ∧ (v_w = -1 ∨ (0 ≤ v_w ∧ v_w < (n_0 29)))) ∧ (y67_2) = (f_0 67)))))) := by
  refine MC.ofz rfl (Nat.le_of_ble_eq_true rfl) ?_
  intro p e s m below meth c ls ar QW A0 H0 H locs E hK hA hw hl hret
  have hl : lv_has ls 3 [(0, .ref (q 0)), (1, .int (J v_x)), (2, .int (J v_w))] := hl
  have hp0_ := hp0
  obtain ⟨i_now, i_persons, i_lines, i_wordings, i_taped, i_suits, i_spk, i_fam, i_str, i_said, i_book, i_wds, i_tok, i_cod, i_far, i_tap, i_qua, i_sil, i_stz, i_way⟩ := hp0_
  refine j_aload_n E 1 rfl dX10_book_0 rfl (lv_at hl 0 rfl) ?_
  refine j_iconst E 2 rfl dX10_book_1 ?_
  refine m_put_0 E hK hw (rr (by decide)) 5 rfl dX10_book_2 (fun H locs hw => ?_)
  have hw : WM D cy q (upN n_0 0 0) (f_0) A0 H0 H locs := hw
  refine j_aload_n E 6 rfl dX10_book_5 rfl (lv_at hl 0 rfl) ?_
  refine j_iload_n E 7 rfl dX10_book_6 rfl (lv_at hl 1 rfl) ?_
  refine m_callp (po := fun z_0 => (z_0 = 1 ∧ 0 ≤ v_x ∧ v_x < (n_0 12)) ∨ (z_0 = 0 ∧ (v_x < 0 ∨ (n_0 12) ≤ v_x))) E (c_X10_isLine l D cy q (upN n_0 0 0) (f_0) v_x  r_v_x ) rfl mt_X10_isLine ml_X10_188 hK hw hA ⟨Nat.le_of_ble_eq_true rfl, Nat.le_of_ble_eq_true rfl⟩ (As := [.int (J v_x)]) (rest := []) rfl rfl hl.1 (Nat.le_of_ble_eq_true rfl) 10 rfl dX10_book_7 (fun zz2_ H locs rr2_ hq2_ hw => ?_)
  have hh2_ : (zz2_ = 1 ∧ 0 ≤ v_x ∧ v_x < (n_0 12)) ∨ (zz2_ = 0 ∧ (v_x < 0 ∨ (n_0 12) ≤ v_x)) := hq2_
  clear hq2_
  rcases hh2_ with ⟨ee2_, hh2_⟩ | ⟨ee2_, hh2_⟩
  · subst ee2_
    refine j_if_eq E 13 26 rfl (rr (by decide)) dX10_book_10 (by decide) (fun cc3_ => absurd cc3_ (by decide)) (fun _ => ?_)
    refine j_iload_n E 14 rfl dX10_book_13 rfl (lv_at hl 2 rfl) ?_
    refine j_iconst E 15 rfl dX10_book_14 ?_
    refine j_icmp_eq E 18 28 rfl r_v_w (rr (by decide)) dX10_book_15 (by decide) (fun cc4_ => ?_) (fun cc4_ => ?_)
    · refine j_aload_n E 29 rfl dX10_book_28 rfl (lv_at hl 0 rfl) ?_
      refine m_ag_67 E hK hw 32 rfl dX10_book_29 ?_
      refine j_iload_n E 33 rfl dX10_book_32 rfl (lv_at hl 1 rfl) ?_
      refine j_iload_n E 34 rfl dX10_book_33 rfl (lv_at hl 2 rfl) ?_
      refine m_st_67 E hK hw (by omega) r_v_w 35 rfl dX10_book_34 (fun H locs hw => ?_)
      have hw : WM D cy q (upN n_0 0 0) (upF f_0 67 (upA (f_0 67) v_x v_w)) A0 H0 H locs := hw
      refine j_iconst E 36 rfl dX10_book_35 ?_
      exact hret 36 1 (upN n_0 0 0) (upF f_0 67 (upA (f_0 67) v_x v_w)) _ _ ls hw (Or.inr rfl) ⟨0, (upA (f_0 67) v_x v_w), rfl, rfl, ⟨⟨i_now, i_persons, i_lines, i_wordings, i_taped, i_suits, i_spk, i_fam, i_str, i_said, (show Book_ (upA (f_0 67) v_x v_w) (n_0 12) (n_0 29) from by first | exact i_book | exact Book_up i_book (by omega)), i_wds, i_tok, i_cod, i_far, i_tap, i_qua, i_sil, i_stz, i_way⟩, by first | exact Or.inl ⟨rfl, by omega, rfl⟩ | exact Or.inr ⟨rfl, by omega, rfl⟩⟩⟩ dX10_book_36
    · refine j_aload_n E 19 rfl dX10_book_18 rfl (lv_at hl 0 rfl) ?_
      refine j_iload_n E 20 rfl dX10_book_19 rfl (lv_at hl 2 rfl) ?_
      refine m_callp (po := fun z_0 => (z_0 = 1 ∧ 0 ≤ v_w ∧ v_w < (n_0 29)) ∨ (z_0 = 0 ∧ (v_w < 0 ∨ (n_0 29) ≤ v_w))) E (c_X10_isWording l D cy q (upN n_0 0 0) (f_0) v_w  r_v_w ) rfl mt_X10_isWording ml_X10_191 hK hw hA ⟨Nat.le_of_ble_eq_true rfl, Nat.le_of_ble_eq_true rfl⟩ (As := [.int (J v_w)]) (rest := []) rfl rfl hl.1 (Nat.le_of_ble_eq_true rfl) 23 rfl dX10_book_20 (fun zz6_ H locs rr6_ hq6_ hw => ?_)
      have hh6_ : (zz6_ = 1 ∧ 0 ≤ v_w ∧ v_w < (n_0 29)) ∨ (zz6_ = 0 ∧ (v_w < 0 ∨ (n_0 29) ≤ v_w)) := hq6_
      clear hq6_
      rcases hh6_ with ⟨ee6_, hh6_⟩ | ⟨ee6_, hh6_⟩
      · subst ee6_
        refine j_if_ne E 26 28 rfl (rr (by decide)) dX10_book_23 (by decide) (fun _ => ?_) (fun cc7_ => absurd cc7_ (by decide))
        refine j_aload_n E 29 rfl dX10_book_28 rfl (lv_at hl 0 rfl) ?_
        refine m_ag_67 E hK hw 32 rfl dX10_book_29 ?_
        refine j_iload_n E 33 rfl dX10_book_32 rfl (lv_at hl 1 rfl) ?_
        refine j_iload_n E 34 rfl dX10_book_33 rfl (lv_at hl 2 rfl) ?_
        refine m_st_67 E hK hw (by omega) r_v_w 35 rfl dX10_book_34 (fun H locs hw => ?_)
        have hw : WM D cy q (upN n_0 0 0) (upF f_0 67 (upA (f_0 67) v_x v_w)) A0 H0 H locs := hw
        refine j_iconst E 36 rfl dX10_book_35 ?_
        exact hret 36 1 (upN n_0 0 0) (upF f_0 67 (upA (f_0 67) v_x v_w)) _ _ ls hw (Or.inr rfl) ⟨0, (upA (f_0 67) v_x v_w), rfl, rfl, ⟨⟨i_now, i_persons, i_lines, i_wordings, i_taped, i_suits, i_spk, i_fam, i_str, i_said, (show Book_ (upA (f_0 67) v_x v_w) (n_0 12) (n_0 29) from by first | exact i_book | exact Book_up i_book (by omega)), i_wds, i_tok, i_cod, i_far, i_tap, i_qua, i_sil, i_stz, i_way⟩, by first | exact Or.inl ⟨rfl, by omega, rfl⟩ | exact Or.inr ⟨rfl, by omega, rfl⟩⟩⟩ dX10_book_36
      · subst ee6_
        refine j_if_ne E 26 28 rfl (rr (by decide)) dX10_book_23 (by decide) (fun cc9_ => absurd cc9_ (by decide)) (fun _ => ?_)
        refine j_iconst E 27 rfl dX10_book_26 ?_
        exact hret 27 0 (upN n_0 0 0) (upF f_0 67 (f_0 67)) _ _ ls hw (Or.inl rfl) ⟨0, (f_0 67), rfl, rfl, ⟨⟨i_now, i_persons, i_lines, i_wordings, i_taped, i_suits, i_spk, i_fam, i_str, i_said, (show Book_ (f_0 67) (n_0 12) (n_0 29) from by first | exact i_book | exact Book_up i_book (by omega)), i_wds, i_tok, i_cod, i_far, i_tap, i_qua, i_sil, i_stz, i_way⟩, by first | exact Or.inl ⟨rfl, by omega, rfl⟩ | exact Or.inr ⟨rfl, by omega, rfl⟩⟩⟩ dX10_book_27
  · subst ee2_
    refine j_if_eq E 13 26 rfl (rr (by decide)) dX10_book_10 (by decide) (fun _ => ?_) (fun cc10_ => absurd cc10_ (by decide))
    refine j_iconst E 27 rfl dX10_book_26 ?_
    exact hret 27 0 (upN n_0 0 0) (upF f_0 67 (f_0 67)) _ _ ls hw (Or.inl rfl) ⟨0, (f_0 67), rfl, rfl, ⟨⟨i_now, i_persons, i_lines, i_wordings, i_taped, i_suits, i_spk, i_fam, i_str, i_said, (show Book_ (f_0 67) (n_0 12) (n_0 29) from by first | exact i_book | exact Book_up i_book (by omega)), i_wds, i_tok, i_cod, i_far, i_tap, i_qua, i_sil, i_stz, i_way⟩, by first | exact Or.inl ⟨rfl, by omega, rfl⟩ | exact Or.inr ⟨rfl, by omega, rfl⟩⟩⟩ dX10_book_27
set_option maxHeartbeats 4000000 in
set_option maxRecDepth 100000 in
theorem c_X10_wrong (l : Launch) (D : va_G) (cy : Nat → ClassId) (q : Nat → Nat) (n_0 : Nat → Int) (f_0 : Nat → Int → Int) (hp0 : MI (n_0) (f_0)) : MC l D cy q yX10_wrong cX10_wrong 3 (some .int) 1 [] n_0 f_0 (PI (fun (z_0 : Int) (n_2 : Nat → Int) (f_2 : Nat → Int → Int) => ∃ (x0_2 : Int) , n_2 = upN n_0 0 x0_2 ∧ f_2 = f_0 ∧ (MI (upN n_0 0 x0_2) (f_0) ∧ (Bq_ z_0 (fun i_ => i_ < (n_0 12) ∧ (Wr_ ((f_0 67 i_)) ((f_0 16 i_)) (fun t_ => (f_0 18 (200 * i_ + t_))) ((n_0 1) - 1))))))) := by
  refine MC.ofi rfl (Nat.le_of_ble_eq_true rfl) ?_
  intro p e s m below meth c ls ar QW A0 H0 H locs E hK hA hw hl hret
  have hl : lv_has ls 3 [(0, .ref (q 0))] := hl
  have hp0_ := hp0
  obtain ⟨i_now, i_persons, i_lines, i_wordings, i_taped, i_suits, i_spk, i_fam, i_str, i_said, i_book, i_wds, i_tok, i_cod, i_far, i_tap, i_qua, i_sil, i_stz, i_way⟩ := hp0_
  refine j_aload_n E 1 rfl dX10_wrong_0 rfl (lv_at hl 0 rfl) ?_
  refine j_iconst E 2 rfl dX10_wrong_1 ?_
  refine m_put_0 E hK hw (rr (by decide)) 5 rfl dX10_wrong_2 (fun H locs hw => ?_)
  have hw : WM D cy q (upN n_0 0 0) (f_0) A0 H0 H locs := hw
  refine j_iconst E 6 rfl dX10_wrong_5 ?_
  refine j_istore_n E 7 rfl [(1, .int (J 0)), (0, .ref (q 0))] dX10_wrong_6 rfl hl (by decide) rfl (fun ls hl => ?_)
  refine j_iconst E 8 rfl dX10_wrong_7 ?_
  refine j_istore_n E 9 rfl [(2, .int (J 0)), (1, .int (J 0)), (0, .ref (q 0))] dX10_wrong_8 rfl hl (by decide) rfl (fun ls hl => ?_)
  have L9_2 : ∀ (k9 : Nat) (gs gx : Int) (H : Heap) (locs : List Loc) (ls : Array Slot), inR gs → inR gx → (0 ≤ gx ∧ gx ≤ 24 ∧ gx ≤ (n_0 12) ∧ Bq_ gs (fun i_ => i_ < gx ∧ (Wr_ ((f_0 67 i_)) ((f_0 16 i_)) (fun t_ => (f_0 18 (200 * i_ + t_))) ((n_0 1) - 1)))) → (24 - gx) < (k9 : Int) → WM D cy q (upN n_0 0 0) (f_0) A0 H0 H locs → lv_has ls 3 [(0, .ref (q 0)), (1, .int (J gs)), (2, .int (J gx))] → W p l e (rmd 1 0 0) s m ar below meth c H locs 0 0 QW (F0 m 9 ls []) := by
    intro k9
    induction k9 with
    | zero =>
      intro gs gx H locs ls r_gs r_gx iv9 ms9 hw hl
      exfalso; omega
    | succ k9 ih9 =>
      intro gs gx H locs ls r_gs r_gx iv9 ms9 hw hl
      refine j_iload_n E 10 rfl dX10_wrong_9 rfl (lv_at hl 2 rfl) ?_
      refine j_aload_n E 11 rfl dX10_wrong_10 rfl (lv_at hl 0 rfl) ?_
      refine m_get_12 E hK hw (n_0 12) rfl 14 rfl dX10_wrong_11 (fun rr4_ => ?_)
      refine j_icmp_ge E 17 59 rfl r_gx rr4_ dX10_wrong_14 (by decide) (fun cc5_ => ?_) (fun cc5_ => ?_)
      · refine j_iload_n E 60 rfl dX10_wrong_59 rfl (lv_at hl 1 rfl) ?_
        exact hret 60 gs (upN n_0 0 0) (f_0) _ _ ls hw r_gs ⟨0, rfl, rfl, ⟨⟨i_now, i_persons, i_lines, i_wordings, i_taped, i_suits, i_spk, i_fam, i_str, i_said, i_book, i_wds, i_tok, i_cod, i_far, i_tap, i_qua, i_sil, i_stz, i_way⟩, by rw [show (n_0 12) = gx by omega]; exact iv9.2.2.2⟩⟩ dX10_wrong_60
      · refine j_aload_n E 18 rfl dX10_wrong_17 rfl (lv_at hl 0 rfl) ?_
        refine m_ag_67 E hK hw 21 rfl dX10_wrong_18 ?_
        refine j_iload_n E 22 rfl dX10_wrong_21 rfl (lv_at hl 2 rfl) ?_
        refine m_ld_67 E hK hw (f_0 67 gx) rfl (by omega) 23 rfl dX10_wrong_22 (fun rr6_ => ?_)
        refine j_iconst E 24 rfl dX10_wrong_23 ?_
        refine j_icmp_eq E 27 53 rfl rr6_ (rr (by decide)) dX10_wrong_24 (by decide) (fun cc7_ => ?_) (fun cc7_ => ?_)
        · refine j_iinc E 56 rfl [(2, .int (J (gx + 1))), (0, .ref (q 0)), (1, .int (J gs))] dX10_wrong_53 hl (kk := 2) rfl (by decide) rfl (fun ls hl => ?_)
          refine j_goto E 9 dX10_wrong_56 (by decide) ?_
          exact ih9 gs (gx + 1) H locs ls r_gs (rr (by omega)) (⟨by omega, by omega, by omega, by first | exact Bq_up iv9.2.2.2 e1_ e2_ (by omega) (fun i_ h1_ h2_ => ⟨fun q_ => by by_cases e_ : i_ = gx; exact Or.inr e_; exact Or.inl ⟨by have := q_.1; omega, q_.2⟩, fun q_ => q_.elim (fun u_ => ⟨by have := u_.1; omega, u_.2⟩) (fun u_ => by rw [u_]; exact ⟨by omega, by omega, _, lw_, by omega⟩)⟩) | exact Bq_cg iv9.2.2.2 (fun i_ h1_ h2_ => ⟨fun q_ => ⟨by have := q_.1; omega, q_.2⟩, fun q_ => ⟨by by_cases e_ : i_ = gx; (exfalso; obtain ⟨-, a_, z_, b_, c_⟩ := q_; rw [e_] at a_ b_ c_; first | omega | (have d_ := Lw_det b_ lw_; omega)); (have := q_.1; omega), q_.2⟩⟩)⟩) (by omega) hw (lv_sub hl [1, 2, 0] rfl)
        · refine j_aload_n E 28 rfl dX10_wrong_27 rfl (lv_at hl 0 rfl) ?_
          refine m_ag_67 E hK hw 31 rfl dX10_wrong_28 ?_
          refine j_iload_n E 32 rfl dX10_wrong_31 rfl (lv_at hl 2 rfl) ?_
          refine m_ld_67 E hK hw (f_0 67 gx) rfl (by omega) 33 rfl dX10_wrong_32 (fun _ => ?_)
          refine j_aload_n E 34 rfl dX10_wrong_33 rfl (lv_at hl 0 rfl) ?_
          refine j_iload_n E 35 rfl dX10_wrong_34 rfl (lv_at hl 2 rfl) ?_
          refine j_aload_n E 36 rfl dX10_wrong_35 rfl (lv_at hl 0 rfl) ?_
          refine m_get_1 E hK hw (n_0 1) rfl 39 rfl dX10_wrong_36 (fun rr8_ => ?_)
          refine j_iconst E 40 rfl dX10_wrong_39 ?_
          refine j_isub E 41 rfl dX10_wrong_40 ?_
          refine m_callp (po := fun z_0 => Lw_ ((f_0 16 gx)) (fun t_ => (f_0 18 (200 * gx + t_))) ((n_0 1) - 1) z_0) E (c_X10_lawOf l D cy q (upN n_0 0 0) (f_0) gx ((n_0 1) - 1)  r_gx (rr (by omega)) (show 0 ≤ gx ∧ gx < 24 from by omega) (show ((n_0 1) - 1) < 200 from by omega)) rfl mt_X10_lawOf ml_X10_209 hK hw hA ⟨Nat.le_of_ble_eq_true rfl, Nat.le_of_ble_eq_true rfl⟩ (As := [.int (J gx), .int (J ((n_0 1) - 1))]) (rest := [.int (J (f_0 67 gx))]) rfl rfl hl.1 (Nat.le_of_ble_eq_true rfl) 44 rfl dX10_wrong_41 (fun zz9_ H locs rr9_ hq9_ hw => ?_)
          have hh9_ : Lw_ ((f_0 16 gx)) (fun t_ => (f_0 18 (200 * gx + t_))) ((n_0 1) - 1) zz9_ := hq9_
          clear hq9_
          have lw_ := hh9_
          clear hh9_
          refine j_icmp_eq E 47 53 rfl rr6_ rr9_ dX10_wrong_44 (by decide) (fun cc10_ => ?_) (fun cc10_ => ?_)
          · refine j_iinc E 56 rfl [(2, .int (J (gx + 1))), (0, .ref (q 0)), (1, .int (J gs))] dX10_wrong_53 hl (kk := 2) rfl (by decide) rfl (fun ls hl => ?_)
            refine j_goto E 9 dX10_wrong_56 (by decide) ?_
            exact ih9 gs (gx + 1) H locs ls r_gs (rr (by omega)) (⟨by omega, by omega, by omega, by first | exact Bq_up iv9.2.2.2 e1_ e2_ (by omega) (fun i_ h1_ h2_ => ⟨fun q_ => by by_cases e_ : i_ = gx; exact Or.inr e_; exact Or.inl ⟨by have := q_.1; omega, q_.2⟩, fun q_ => q_.elim (fun u_ => ⟨by have := u_.1; omega, u_.2⟩) (fun u_ => by rw [u_]; exact ⟨by omega, by omega, _, lw_, by omega⟩)⟩) | exact Bq_cg iv9.2.2.2 (fun i_ h1_ h2_ => ⟨fun q_ => ⟨by have := q_.1; omega, q_.2⟩, fun q_ => ⟨by by_cases e_ : i_ = gx; (exfalso; obtain ⟨-, a_, z_, b_, c_⟩ := q_; rw [e_] at a_ b_ c_; first | omega | (have d_ := Lw_det b_ lw_; omega)); (have := q_.1; omega), q_.2⟩⟩)⟩) (by omega) hw (lv_sub hl [1, 2, 0] rfl)
          · refine j_iload_n E 48 rfl dX10_wrong_47 rfl (lv_at hl 1 rfl) ?_
            refine j_iconst E 49 rfl dX10_wrong_48 ?_
            refine j_iload_n E 50 rfl dX10_wrong_49 rfl (lv_at hl 2 rfl) ?_
            refine j_ishl E 51 rfl dX10_wrong_50 (fun zz11_ rr11_ ee11_ => ?_)
            have e1_ := ee11_
            refine j_ior E 52 rfl dX10_wrong_51 (fun zz12_ rr12_ ee12_ => ?_)
            have e2_ := ee12_
            refine j_istore_n E 53 rfl [(1, .int (J zz12_)), (0, .ref (q 0)), (2, .int (J gx))] dX10_wrong_52 rfl hl (by decide) rfl (fun ls hl => ?_)
            refine j_iinc E 56 rfl [(2, .int (J (gx + 1))), (1, .int (J zz12_)), (0, .ref (q 0))] dX10_wrong_53 hl (kk := 2) rfl (by decide) rfl (fun ls hl => ?_)
            refine j_goto E 9 dX10_wrong_56 (by decide) ?_
            exact ih9 zz12_ (gx + 1) H locs ls rr12_ (rr (by omega)) (⟨by omega, by omega, by omega, by first | exact Bq_up iv9.2.2.2 e1_ e2_ (by omega) (fun i_ h1_ h2_ => ⟨fun q_ => by by_cases e_ : i_ = gx; exact Or.inr e_; exact Or.inl ⟨by have := q_.1; omega, q_.2⟩, fun q_ => q_.elim (fun u_ => ⟨by have := u_.1; omega, u_.2⟩) (fun u_ => by rw [u_]; exact ⟨by omega, by omega, _, lw_, by omega⟩)⟩) | exact Bq_cg iv9.2.2.2 (fun i_ h1_ h2_ => ⟨fun q_ => ⟨by have := q_.1; omega, q_.2⟩, fun q_ => ⟨by by_cases e_ : i_ = gx; (exfalso; obtain ⟨-, a_, z_, b_, c_⟩ := q_; rw [e_] at a_ b_ c_; first | omega | (have d_ := Lw_det b_ lw_; omega)); (have := q_.1; omega), q_.2⟩⟩)⟩) (by omega) hw (lv_sub hl [2, 1, 0] rfl)
  exact L9_2 _ 0 0 H locs ls (rr (by decide)) (rr (by decide)) (⟨by omega, by omega, by omega, Bq_0 (fun i_ h1_ h2_ q_ => by have := q_.1; omega)⟩) (mk_lt _) hw (lv_sub hl [2, 1, 0] rfl)
