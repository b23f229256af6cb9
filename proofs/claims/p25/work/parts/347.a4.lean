set_option maxHeartbeats 4000000 in
set_option maxRecDepth 100000 in
theorem n_X9_person (l : Launch) (D : va_G) (cy : Nat → ClassId) (κ T : Nat → Nat → Nat) (v_0 : Nat → Nat → Int) (o : Nat) (v_q : Int) (v_f : Int) (v_b : Int) (sz : Nat) (hO : ∀ x, ow T x → κ 2 2 ≤ x) (t_o : T 0 o = 9) (r_v_q : inR v_q) (r_v_f : inR v_f) (r_v_b : inR v_b) (hp0 : ∀ x, T 0 x = 26 → x = κ 2 0) : KA l D cy κ T yX9_person cX9_person 5 (some .int) 8 5 500 [.ref o, .int (J v_q), .int (J v_f), .int (J v_b)] v_0 sz (AI (fun (z_0 : Int) (T_2 : Nat → Nat → Nat) (v_2 : Nat → Nat → Int) => T_2 0 o = 9)) := by
  refine KA.ofi (by decide) (Nat.le_of_ble_eq_true rfl) hO ?_
  intro p e s m below meth c ls ar QW A0 H locs E hK hZ hA hAc hsz hnm hw hlo_ hl hret
  have hl : lv_has ls 5 [(0, .ref o), (1, .int (J v_q)), (2, .int (J v_f)), (3, .int (J v_b))] := hl
  have hT : WT T := hw.1.2.1
  have hoT_ : OW T T s.heap.size := OW.rf T _
  have L24_1 : ∀ (s0_24 : Int) (H : Heap) (locs : List Loc) (ls : Array Slot), inR s0_24 → (True) → WK D cy T (v_0) A0 s.heap H locs → lv_has ls 5 [(0, .ref o), (1, .int (J v_q)), (2, .int (J v_f)), (3, .int (J v_b))] → W p l e (rmd 8 5 500) s m ar below meth c H locs 0 0 QW (F0 m 24 ls [.int (J s0_24)]) := by
    intro s0_24 H locs ls r_s0_24 iv24 hw hl
    refine j_istore E 26 rfl [(4, .int (J s0_24)), (0, .ref o), (1, .int (J v_q)), (2, .int (J v_f)), (3, .int (J v_b))] dX9_person_24 hl (by decide) rfl (fun ls hl => ?_)
    refine j_iload E 28 rfl dX9_person_26 (lv_at hl 0 rfl) ?_
    refine j_if_eq E 31 57 rfl r_s0_24 dX9_person_28 (by decide) (fun cc3_ => ?_) (fun cc3_ => ?_)
    · refine j_iconst E 58 rfl dX9_person_57 ?_
      exact hret 58 ((-1)) T _ _ _ ls _ _ hw hoT_ (rr (by decide)) (t_o) (Nat.le_of_ble_eq_true rfl) (Nat.le_of_ble_eq_true rfl) dX9_person_58
    · refine j_iload_n E 32 rfl dX9_person_31 rfl (lv_at hl 4 rfl) ?_
      refine j_bipush E 34 rfl dX9_person_32 (by decide) ?_
      refine j_icmp_lt E 37 57 rfl r_v_b (rr (by decide)) dX9_person_34 (by decide) (fun cc4_ => ?_) (fun cc4_ => ?_)
      · refine j_iconst E 58 rfl dX9_person_57 ?_
        exact hret 58 ((-1)) T _ _ _ ls _ _ hw hoT_ (rr (by decide)) (t_o) (Nat.le_of_ble_eq_true rfl) (Nat.le_of_ble_eq_true rfl) dX9_person_58
      · refine j_iload_n E 38 rfl dX9_person_37 rfl (lv_at hl 4 rfl) ?_
        refine j_aload_n E 39 rfl dX9_person_38 rfl (lv_at hl 1 rfl) ?_
        refine g_187 E hK hw fl_X9_37 t_o (v_0 187 o) rfl 42 rfl dX9_person_39 (fun rr5_ => ?_)
        refine j_icmp_gt E 45 57 rfl r_v_b rr5_ dX9_person_42 (by decide) (fun cc6_ => ?_) (fun cc6_ => ?_)
        · refine j_iconst E 58 rfl dX9_person_57 ?_
          exact hret 58 ((-1)) T _ _ _ ls _ _ hw hoT_ (rr (by decide)) (t_o) (Nat.le_of_ble_eq_true rfl) (Nat.le_of_ble_eq_true rfl) dX9_person_58
        · refine j_aload_n E 46 rfl dX9_person_45 rfl (lv_at hl 1 rfl) ?_
          refine g_180 E hK hw fl_X9_12 t_o 49 rfl dX9_person_46 ?_
          refine kV_i E (c_Jx4a65c_size_8abf5 l D cy T (v_0) (T 180 o)  (wt_180 hT t_o)  ) mt_Jx4a65c_size_8abf5 ml_X9_80 hK hw (cw_rc10 hK hw.1 (wt_180 hT t_o)) hA ⟨Nat.le_of_ble_eq_true rfl, Nat.le_of_ble_eq_true rfl⟩ ⟨Nat.le_of_ble_eq_true rfl, Nat.le_of_ble_eq_true rfl⟩ (As := []) (rest := []) rfl rfl hl.1 (Nat.le_of_ble_eq_true rfl) 52 rfl dX9_person_49 (fun zz7_ v_7 H locs rr7_ hq7_ hw => ?_)
          obtain ⟨ev7_, hh7_⟩ := hq7_
          rw [ev7_] at hw; clear ev7_
          have hh7_ : zz7_ = ((v_0 202) ((T 180 o))) ∧ 0 ≤ zz7_ := hh7_
          refine j_bipush E 54 rfl dX9_person_52 (by decide) ?_
          refine j_icmp_lt E 57 59 rfl rr7_ (rr (by decide)) dX9_person_54 (by decide) (fun cc8_ => ?_) (fun cc8_ => ?_)
          · refine j_aload_n E 60 rfl dX9_person_59 rfl (lv_at hl 1 rfl) ?_
            refine g_180 E hK hw fl_X9_12 t_o 63 rfl dX9_person_60 ?_
            have hw0_ := hw
            refine n_obj2 E hK hw hA cl_X9_84 (Nat.le_of_ble_eq_true rfl) (Nat.le_of_ble_eq_true rfl) 66 rfl dX9_person_63 (fun q9_ T9_ H hge9_ hx9_ ho9_ tq9_ hw => ?_)
            have fq9_ : s.heap.size ≤ q9_ := Nat.le_trans hw0_.2.2.1 hge9_
            have hw : WK D cy T9_ (upV (upV (upV (upV (upV (upV v_0 40 (upB (v_0 40) q9_ 0)) 41 (upB (v_0 41) q9_ 0)) 42 (upB (v_0 42) q9_ 0)) 43 (upB (v_0 43) q9_ 0)) 44 (upB (v_0 44) q9_ 0)) 45 (upB (v_0 45) q9_ 0)) A0 s.heap H locs := hw
            have hT9_ : WT T9_ := hw.1.2.1
            have hO9_ : ∀ x, ow T9_ x → κ 2 2 ≤ x := fun x h => hAc x (hw.2.1 x h)
            have hoT_ : OW T T9_ s.heap.size := OW.tr hw0_.2.2.1 hoT_ ho9_
            have u10_ : T9_ 0 o = 9 := (hx9_ o (Nat.ne_of_lt (Nat.lt_of_lt_of_le (cw_lt hw0_.1 t_o (fun _ _ _ => ⟨_, rfl⟩)) hge9_)) 0).trans t_o
            have u11_ : T9_ 0 (T 180 o) = 10 := (hx9_ (T 180 o) (Nat.ne_of_lt (Nat.lt_of_lt_of_le (cw_lt hw0_.1 (wt_180 hT t_o) (fun _ _ _ => ⟨_, rfl⟩)) hge9_)) 0).trans (wt_180 hT t_o)
            have u12_ : T9_ 2 (T 180 o) = 2 := (hx9_ (T 180 o) (Nat.ne_of_lt (Nat.lt_of_lt_of_le (cw_lt hw0_.1 (wt_180 hT t_o) (fun _ _ _ => ⟨_, rfl⟩)) hge9_)) 2).trans (we_180 hT t_o)
            refine j_dup E 67 rfl dX9_person_66 rfl ?_
            refine j_iload_n E 68 rfl dX9_person_67 rfl (lv_at hl 2 rfl) ?_
            refine j_iload_n E 69 rfl dX9_person_68 rfl (lv_at hl 3 rfl) ?_
            refine j_iload_n E 70 rfl dX9_person_69 rfl (lv_at hl 4 rfl) ?_
            have hw0_ := hw
            refine aI_v E (n_X1_init l D cy κ T9_ (upV (upV (upV (upV (upV (upV v_0 40 (upB (v_0 40) q9_ 0)) 41 (upB (v_0 41) q9_ 0)) 42 (upB (v_0 42) q9_ 0)) 43 (upB (v_0 43) q9_ 0)) 44 (upB (v_0 44) q9_ 0)) 45 (upB (v_0 45) q9_ 0)) q9_ v_q v_f v_b H.size  hO9_ tq9_ r_v_q r_v_f r_v_b ) mi_X1_init ml_X9_86 hK hZ hAc hw hA ⟨(Nat.le_of_ble_eq_true rfl), (Nat.le_of_ble_eq_true rfl)⟩ ⟨(Nat.le_of_ble_eq_true rfl), (Nat.le_of_ble_eq_true rfl)⟩ (As := [.int (J v_q), .int (J v_f), .int (J v_b)]) (rest := [.ref q9_, .ref (T 180 o)]) rfl rfl hl.1 (Nat.le_of_ble_eq_true rfl) 73 rfl dX9_person_70 (fun T13_ v_13 H locs hge13_ ho13_ hq13_ hw => ?_)
            obtain ⟨y40_13, y41_13, y42_13, y43_13, y44_13, y45_13, ev13_, hh13_⟩ := hq13_
            rw [ev13_] at hw; clear ev13_
            obtain ⟨hx13_, tq13_⟩ := hh13_
            have hT13_ : WT T13_ := hw.1.2.1
            have hO13_ : ∀ x, ow T13_ x → κ 2 2 ≤ x := fun x h => hAc x (hw.2.1 x h)
            have hoT_ : OW T T13_ s.heap.size := OW.tr hw0_.2.2.1 hoT_ ho13_
            have u14_ : T13_ 0 o = 9 := (hx13_ o (cw_lt hw0_.1 u10_ (fun _ _ _ => ⟨_, rfl⟩)) (ty_ne u10_ tq9_ (by decide)) 0).trans u10_
            have u15_ : T13_ 0 (T 180 o) = 10 := (hx13_ (T 180 o) (cw_lt hw0_.1 u11_ (fun _ _ _ => ⟨_, rfl⟩)) (ty_ne u11_ tq9_ (by decide)) 0).trans u11_
            have u16_ : T13_ 2 (T 180 o) = 2 := (hx13_ (T 180 o) (cw_lt hw0_.1 u11_ (fun _ _ _ => ⟨_, rfl⟩)) (ty_ne u11_ tq9_ (by decide)) 2).trans u12_
            have hw0_ := hw
            refine aV_i E (n_Jx4a65c_add_9ea2d l D cy κ T13_ (upV (upV (upV (upV (upV (upV (upV (upV (upV (upV (upV (upV v_0 40 (upB (v_0 40) q9_ 0)) 41 (upB (v_0 41) q9_ 0)) 42 (upB (v_0 42) q9_ 0)) 43 (upB (v_0 43) q9_ 0)) 44 (upB (v_0 44) q9_ 0)) 45 (upB (v_0 45) q9_ 0)) 40 y40_13) 41 y41_13) 42 y42_13) 43 y43_13) 44 y44_13) 45 y45_13) (T 180 o) q9_ H.size  hO13_ u15_  (tq13_.trans u16_.symm) (fun x_ h_ => hp0 x_ ((hoT_ x_).2 h_)) (show ((v_0 202) ((T 180 o))) ≤ 200 from by omega)) mt_Jx4a65c_add_9ea2d ml_X9_89 hK hZ hAc hw (cw_rc10 hK hw.1 u15_) hA ⟨(Nat.le_of_ble_eq_true rfl), (Nat.le_of_ble_eq_true rfl)⟩ ⟨(Nat.le_of_ble_eq_true rfl), (Nat.le_of_ble_eq_true rfl)⟩ (As := [.ref q9_]) (rest := []) rfl rfl hl.1 (Nat.le_of_ble_eq_true rfl) 76 rfl dX9_person_73 (fun zz17_ T17_ v_17 H locs rr17_ hge17_ ho17_ hq17_ hw => ?_)
            obtain ⟨y200_17, y202_17, ev17_, hh17_⟩ := hq17_
            rw [ev17_] at hw; clear ev17_
            obtain ⟨hy17_, hx17_, hz17_, hl17_⟩ := hh17_
            have hT17_ : WT T17_ := hw.1.2.1
            have hO17_ : ∀ x, ow T17_ x → κ 2 2 ≤ x := fun x h => hAc x (hw.2.1 x h)
            have hoT_ : OW T T17_ s.heap.size := OW.tr hw0_.2.2.1 hoT_ ho17_
            have u18_ : T17_ 0 o = 9 := (hx17_ o (cw_lt hw0_.1 u14_ (fun _ _ _ => ⟨_, rfl⟩)) (ty_ne u14_ u15_ (by decide)) (by rw [u14_]; decide) 0).trans u14_
            refine j_pop E 77 rfl dX9_person_76 rfl ?_
            refine j_aload_n E 78 rfl dX9_person_77 rfl (lv_at hl 1 rfl) ?_
            refine g_180 E hK hw fl_X9_12 u18_ 81 rfl dX9_person_78 ?_
            refine kV_i E (c_Jx4a65c_size_8abf5 l D cy T17_ (upV (upV (upV (upV (upV (upV (upV (upV (upV (upV (upV (upV (upV (upV v_0 40 (upB (v_0 40) q9_ 0)) 41 (upB (v_0 41) q9_ 0)) 42 (upB (v_0 42) q9_ 0)) 43 (upB (v_0 43) q9_ 0)) 44 (upB (v_0 44) q9_ 0)) 45 (upB (v_0 45) q9_ 0)) 40 y40_13) 41 y41_13) 42 y42_13) 43 y43_13) 44 y44_13) 45 y45_13) 200 y200_17) 202 y202_17) (T17_ 180 o)  (wt_180 hT17_ u18_)  ) mt_Jx4a65c_size_8abf5 ml_X9_80 hK hw (cw_rc10 hK hw.1 (wt_180 hT17_ u18_)) hA ⟨Nat.le_of_ble_eq_true rfl, Nat.le_of_ble_eq_true rfl⟩ ⟨Nat.le_of_ble_eq_true rfl, Nat.le_of_ble_eq_true rfl⟩ (As := []) (rest := []) rfl rfl hl.1 (Nat.le_of_ble_eq_true rfl) 84 rfl dX9_person_81 (fun zz19_ v_19 H locs rr19_ hq19_ hw => ?_)
            obtain ⟨ev19_, hh19_⟩ := hq19_
            rw [ev19_] at hw; clear ev19_
            have hh19_ : zz19_ = (y202_17 ((T17_ 180 o))) ∧ 0 ≤ zz19_ := hh19_
            refine j_iconst E 85 rfl dX9_person_84 ?_
            refine j_isub E 86 rfl dX9_person_85 ?_
            refine j_norm (fun zz20_ rr20_ ee20_ => ?_)
            exact hret 86 zz20_ T17_ _ _ _ ls _ _ hw hoT_ rr20_ (u18_) (Nat.le_of_ble_eq_true rfl) (Nat.le_of_ble_eq_true rfl) dX9_person_86
          · refine j_iconst E 58 rfl dX9_person_57 ?_
            exact hret 58 ((-1)) T _ _ _ ls _ _ hw hoT_ (rr (by decide)) (t_o) (Nat.le_of_ble_eq_true rfl) (Nat.le_of_ble_eq_true rfl) dX9_person_58
  refine j_iload_n E 1 rfl dX9_person_0 rfl (lv_at hl 1 rfl) ?_
  refine j_if_lt E 4 23 rfl r_v_q dX9_person_1 (by decide) (fun cc21_ => ?_) (fun cc21_ => ?_)
  · refine j_iconst E 24 rfl dX9_person_23 ?_
    exact L24_1 0  H locs ls (rr (by decide)) (trivial) hw (lv_sub hl [0, 1, 2, 3] rfl)
  · refine j_iload_n E 5 rfl dX9_person_4 rfl (lv_at hl 1 rfl) ?_
    refine j_iconst E 6 rfl dX9_person_5 ?_
    refine j_icmp_ge E 9 23 rfl r_v_q (rr (by decide)) dX9_person_6 (by decide) (fun cc22_ => ?_) (fun cc22_ => ?_)
    · refine j_iconst E 24 rfl dX9_person_23 ?_
      exact L24_1 0  H locs ls (rr (by decide)) (trivial) hw (lv_sub hl [0, 1, 2, 3] rfl)
    · refine j_iload_n E 10 rfl dX9_person_9 rfl (lv_at hl 2 rfl) ?_
      refine j_if_lt E 13 23 rfl r_v_f dX9_person_10 (by decide) (fun cc23_ => ?_) (fun cc23_ => ?_)
      · refine j_iconst E 24 rfl dX9_person_23 ?_
        exact L24_1 0  H locs ls (rr (by decide)) (trivial) hw (lv_sub hl [0, 1, 2, 3] rfl)
      · refine j_iload_n E 14 rfl dX9_person_13 rfl (lv_at hl 2 rfl) ?_
        refine j_bipush E 16 rfl dX9_person_14 (by decide) ?_
        refine j_icmp_ge E 19 23 rfl r_v_f (rr (by decide)) dX9_person_16 (by decide) (fun cc24_ => ?_) (fun cc24_ => ?_)
        · refine j_iconst E 24 rfl dX9_person_23 ?_
          exact L24_1 0  H locs ls (rr (by decide)) (trivial) hw (lv_sub hl [0, 1, 2, 3] rfl)
        · refine j_iconst E 20 rfl dX9_person_19 ?_
          refine j_goto E 24 dX9_person_20 (by decide) ?_
          exact L24_1 1  H locs ls (rr (by decide)) (trivial) hw (lv_sub hl [0, 1, 2, 3] rfl)
set_option maxHeartbeats 4000000 in
set_option maxRecDepth 100000 in
theorem n_X9_line (l : Launch) (D : va_G) (cy : Nat → ClassId) (κ T : Nat → Nat → Nat) (v_0 : Nat → Nat → Int) (o : Nat) (v_s : Int) (v_v : Int) (sz : Nat) (hO : ∀ x, ow T x → κ 2 2 ≤ x) (t_o : T 0 o = 9) (r_v_s : inR v_s) (r_v_v : inR v_v) (hp0 : ∀ x, T 0 x = 26 → x = κ 2 0) (hp1 : v_v = 0 ∨ v_v = 1) : KA l D cy κ T yX9_line cX9_line 3 (some .int) 8 3 700 [.ref o, .int (J v_s), .int (J v_v)] v_0 sz (AI (fun (z_0 : Int) (T_2 : Nat → Nat → Nat) (v_2 : Nat → Nat → Int) => T_2 0 o = 9)) := by
  refine KA.ofi (by decide) (Nat.le_of_ble_eq_true rfl) hO ?_
  intro p e s m below meth c ls ar QW A0 H locs E hK hZ hA hAc hsz hnm hw hlo_ hl hret
  have hl : lv_has ls 3 [(0, .ref o), (1, .int (J v_s)), (2, .int (J v_v))] := hl
  have hT : WT T := hw.1.2.1
  have hoT_ : OW T T s.heap.size := OW.rf T _
  refine j_iload_n E 1 rfl dX9_line_0 rfl (lv_at hl 1 rfl) ?_
  refine j_if_lt E 4 21 rfl r_v_s dX9_line_1 (by decide) (fun cc1_ => ?_) (fun cc1_ => ?_)
  · refine j_iconst E 22 rfl dX9_line_21 ?_
    exact hret 22 ((-1)) T _ _ _ ls _ _ hw hoT_ (rr (by decide)) (t_o) (Nat.le_of_ble_eq_true rfl) (Nat.le_of_ble_eq_true rfl) dX9_line_22
  · refine j_iload_n E 5 rfl dX9_line_4 rfl (lv_at hl 1 rfl) ?_
    refine j_iconst E 6 rfl dX9_line_5 ?_
    refine j_icmp_ge E 9 21 rfl r_v_s (rr (by decide)) dX9_line_6 (by decide) (fun cc2_ => ?_) (fun cc2_ => ?_)
    · refine j_iconst E 22 rfl dX9_line_21 ?_
      exact hret 22 ((-1)) T _ _ _ ls _ _ hw hoT_ (rr (by decide)) (t_o) (Nat.le_of_ble_eq_true rfl) (Nat.le_of_ble_eq_true rfl) dX9_line_22
    · refine j_aload_n E 10 rfl dX9_line_9 rfl (lv_at hl 0 rfl) ?_
      refine g_181 E hK hw fl_X9_16 t_o 13 rfl dX9_line_10 ?_
      refine kV_i E (c_Jx4a65c_size_8abf5 l D cy T (v_0) (T 181 o)  (wt_181 hT t_o)  ) mt_Jx4a65c_size_8abf5 ml_X9_80 hK hw (cw_rc10 hK hw.1 (wt_181 hT t_o)) hA ⟨Nat.le_of_ble_eq_true rfl, Nat.le_of_ble_eq_true rfl⟩ ⟨Nat.le_of_ble_eq_true rfl, Nat.le_of_ble_eq_true rfl⟩ (As := []) (rest := []) rfl rfl hl.1 (Nat.le_of_ble_eq_true rfl) 16 rfl dX9_line_13 (fun zz3_ v_3 H locs rr3_ hq3_ hw => ?_)
      obtain ⟨ev3_, hh3_⟩ := hq3_
      rw [ev3_] at hw; clear ev3_
      have hh3_ : zz3_ = ((v_0 202) ((T 181 o))) ∧ 0 ≤ zz3_ := hh3_
      refine j_bipush E 18 rfl dX9_line_16 (by decide) ?_
      refine j_icmp_lt E 21 23 rfl rr3_ (rr (by decide)) dX9_line_18 (by decide) (fun cc4_ => ?_) (fun cc4_ => ?_)
      · refine j_aload_n E 24 rfl dX9_line_23 rfl (lv_at hl 0 rfl) ?_
        refine g_181 E hK hw fl_X9_16 t_o 27 rfl dX9_line_24 ?_
        have hw0_ := hw
        refine n_obj1 E hK hw hA cl_X9_167 (Nat.le_of_ble_eq_true rfl) (Nat.le_of_ble_eq_true rfl) 30 rfl dX9_line_27 (fun q5_ T5_ H hge5_ hx5_ ho5_ tq5_ hw => ?_)
        have fq5_ : s.heap.size ≤ q5_ := Nat.le_trans hw0_.2.2.1 hge5_
        have hw : WK D cy T5_ (upV (upV (upV (upV (upV (upV v_0 20 (upB (v_0 20) q5_ 0)) 21 (upB (v_0 21) q5_ 0)) 22 (upB (v_0 22) q5_ 0)) 23 (upB (v_0 23) q5_ 0)) 24 (upB (v_0 24) q5_ 0)) 25 (upB (v_0 25) q5_ 0)) A0 s.heap H locs := hw
        have hT5_ : WT T5_ := hw.1.2.1
        have hO5_ : ∀ x, ow T5_ x → κ 2 2 ≤ x := fun x h => hAc x (hw.2.1 x h)
        have hoT_ : OW T T5_ s.heap.size := OW.tr hw0_.2.2.1 hoT_ ho5_
        have u6_ : T5_ 0 o = 9 := (hx5_ o (Nat.ne_of_lt (Nat.lt_of_lt_of_le (cw_lt hw0_.1 t_o (fun _ _ _ => ⟨_, rfl⟩)) hge5_)) 0).trans t_o
        have u7_ : T5_ 0 (T 181 o) = 10 := (hx5_ (T 181 o) (Nat.ne_of_lt (Nat.lt_of_lt_of_le (cw_lt hw0_.1 (wt_181 hT t_o) (fun _ _ _ => ⟨_, rfl⟩)) hge5_)) 0).trans (wt_181 hT t_o)
        have u8_ : T5_ 2 (T 181 o) = 1 := (hx5_ (T 181 o) (Nat.ne_of_lt (Nat.lt_of_lt_of_le (cw_lt hw0_.1 (wt_181 hT t_o) (fun _ _ _ => ⟨_, rfl⟩)) hge5_)) 2).trans (we_181 hT t_o)
        refine j_dup E 31 rfl dX9_line_30 rfl ?_
        refine j_iload_n E 32 rfl dX9_line_31 rfl (lv_at hl 1 rfl) ?_
        refine j_iload_n E 33 rfl dX9_line_32 rfl (lv_at hl 2 rfl) ?_
        have hw0_ := hw
        refine aI_v E (n_X0_init l D cy κ T5_ (upV (upV (upV (upV (upV (upV v_0 20 (upB (v_0 20) q5_ 0)) 21 (upB (v_0 21) q5_ 0)) 22 (upB (v_0 22) q5_ 0)) 23 (upB (v_0 23) q5_ 0)) 24 (upB (v_0 24) q5_ 0)) 25 (upB (v_0 25) q5_ 0)) q5_ v_s v_v H.size  hO5_ tq5_ r_v_s r_v_v (show v_v = 0 ∨ v_v = 1 from by first | omega | (simp only [upB_same]; omega))) mi_X0_init ml_X9_169 hK hZ hAc hw hA ⟨(Nat.le_of_ble_eq_true rfl), (Nat.le_of_ble_eq_true rfl)⟩ ⟨(Nat.le_of_ble_eq_true rfl), (Nat.le_of_ble_eq_true rfl)⟩ (As := [.int (J v_s), .int (J v_v)]) (rest := [.ref q5_, .ref (T 181 o)]) rfl rfl hl.1 (Nat.le_of_ble_eq_true rfl) 36 rfl dX9_line_33 (fun T9_ v_9 H locs hge9_ ho9_ hq9_ hw => ?_)
        obtain ⟨y20_9, y21_9, y22_9, y23_9, y24_9, y25_9, ev9_, hh9_⟩ := hq9_
        rw [ev9_] at hw; clear ev9_
        obtain ⟨hx9_, tq9_⟩ := hh9_
        have hT9_ : WT T9_ := hw.1.2.1
        have hO9_ : ∀ x, ow T9_ x → κ 2 2 ≤ x := fun x h => hAc x (hw.2.1 x h)
        have hoT_ : OW T T9_ s.heap.size := OW.tr hw0_.2.2.1 hoT_ ho9_
        have u10_ : T9_ 0 o = 9 := (hx9_ o (cw_lt hw0_.1 u6_ (fun _ _ _ => ⟨_, rfl⟩)) (ty_ne u6_ tq5_ (by decide)) 0).trans u6_
        have u11_ : T9_ 0 (T 181 o) = 10 := (hx9_ (T 181 o) (cw_lt hw0_.1 u7_ (fun _ _ _ => ⟨_, rfl⟩)) (ty_ne u7_ tq5_ (by decide)) 0).trans u7_
        have u12_ : T9_ 2 (T 181 o) = 1 := (hx9_ (T 181 o) (cw_lt hw0_.1 u7_ (fun _ _ _ => ⟨_, rfl⟩)) (ty_ne u7_ tq5_ (by decide)) 2).trans u8_
        have hw0_ := hw
        refine aV_i E (n_Jx4a65c_add_9ea2d l D cy κ T9_ (upV (upV (upV (upV (upV (upV (upV (upV (upV (upV (upV (upV v_0 20 (upB (v_0 20) q5_ 0)) 21 (upB (v_0 21) q5_ 0)) 22 (upB (v_0 22) q5_ 0)) 23 (upB (v_0 23) q5_ 0)) 24 (upB (v_0 24) q5_ 0)) 25 (upB (v_0 25) q5_ 0)) 20 y20_9) 21 y21_9) 22 y22_9) 23 y23_9) 24 y24_9) 25 y25_9) (T 181 o) q5_ H.size  hO9_ u11_  (tq9_.trans u12_.symm) (fun x_ h_ => hp0 x_ ((hoT_ x_).2 h_)) (show ((v_0 202) ((T 181 o))) ≤ 200 from by omega)) mt_Jx4a65c_add_9ea2d ml_X9_89 hK hZ hAc hw (cw_rc10 hK hw.1 u11_) hA ⟨(Nat.le_of_ble_eq_true rfl), (Nat.le_of_ble_eq_true rfl)⟩ ⟨(Nat.le_of_ble_eq_true rfl), (Nat.le_of_ble_eq_true rfl)⟩ (As := [.ref q5_]) (rest := []) rfl rfl hl.1 (Nat.le_of_ble_eq_true rfl) 39 rfl dX9_line_36 (fun zz13_ T13_ v_13 H locs rr13_ hge13_ ho13_ hq13_ hw => ?_)
        obtain ⟨y200_13, y202_13, ev13_, hh13_⟩ := hq13_
        rw [ev13_] at hw; clear ev13_
        obtain ⟨hy13_, hx13_, hz13_, hl13_⟩ := hh13_
        have hT13_ : WT T13_ := hw.1.2.1
        have hO13_ : ∀ x, ow T13_ x → κ 2 2 ≤ x := fun x h => hAc x (hw.2.1 x h)
        have hoT_ : OW T T13_ s.heap.size := OW.tr hw0_.2.2.1 hoT_ ho13_
        have u14_ : T13_ 0 o = 9 := (hx13_ o (cw_lt hw0_.1 u10_ (fun _ _ _ => ⟨_, rfl⟩)) (ty_ne u10_ u11_ (by decide)) (by rw [u10_]; decide) 0).trans u10_
        refine j_pop E 40 rfl dX9_line_39 rfl ?_
        refine j_aload_n E 41 rfl dX9_line_40 rfl (lv_at hl 0 rfl) ?_
        refine g_181 E hK hw fl_X9_16 u14_ 44 rfl dX9_line_41 ?_
        refine kV_i E (c_Jx4a65c_size_8abf5 l D cy T13_ (upV (upV (upV (upV (upV (upV (upV (upV (upV (upV (upV (upV (upV (upV v_0 20 (upB (v_0 20) q5_ 0)) 21 (upB (v_0 21) q5_ 0)) 22 (upB (v_0 22) q5_ 0)) 23 (upB (v_0 23) q5_ 0)) 24 (upB (v_0 24) q5_ 0)) 25 (upB (v_0 25) q5_ 0)) 20 y20_9) 21 y21_9) 22 y22_9) 23 y23_9) 24 y24_9) 25 y25_9) 200 y200_13) 202 y202_13) (T13_ 181 o)  (wt_181 hT13_ u14_)  ) mt_Jx4a65c_size_8abf5 ml_X9_80 hK hw (cw_rc10 hK hw.1 (wt_181 hT13_ u14_)) hA ⟨Nat.le_of_ble_eq_true rfl, Nat.le_of_ble_eq_true rfl⟩ ⟨Nat.le_of_ble_eq_true rfl, Nat.le_of_ble_eq_true rfl⟩ (As := []) (rest := []) rfl rfl hl.1 (Nat.le_of_ble_eq_true rfl) 47 rfl dX9_line_44 (fun zz15_ v_15 H locs rr15_ hq15_ hw => ?_)
        obtain ⟨ev15_, hh15_⟩ := hq15_
        rw [ev15_] at hw; clear ev15_
        have hh15_ : zz15_ = (y202_13 ((T13_ 181 o))) ∧ 0 ≤ zz15_ := hh15_
        refine j_iconst E 48 rfl dX9_line_47 ?_
        refine j_isub E 49 rfl dX9_line_48 ?_
        refine j_norm (fun zz16_ rr16_ ee16_ => ?_)
        exact hret 49 zz16_ T13_ _ _ _ ls _ _ hw hoT_ rr16_ (u14_) (Nat.le_of_ble_eq_true rfl) (Nat.le_of_ble_eq_true rfl) dX9_line_49
      · refine j_iconst E 22 rfl dX9_line_21 ?_
        exact hret 22 ((-1)) T _ _ _ ls _ _ hw hoT_ (rr (by decide)) (t_o) (Nat.le_of_ble_eq_true rfl) (Nat.le_of_ble_eq_true rfl) dX9_line_22
set_option maxHeartbeats 4000000 in
set_option maxRecDepth 100000 in
theorem n_X9_wording (l : Launch) (D : va_G) (cy : Nat → ClassId) (κ T : Nat → Nat → Nat) (v_0 : Nat → Nat → Int) (o : Nat) (sz : Nat) (hO : ∀ x, ow T x → κ 2 2 ≤ x) (t_o : T 0 o = 9) (hp0 : ∀ x, T 0 x = 26 → x = κ 2 0) : KA l D cy κ T yX9_wording cX9_wording 2 (some .int) 24 5 1300 [.ref o] v_0 sz (AI (fun (z_0 : Int) (T_2 : Nat → Nat → Nat) (v_2 : Nat → Nat → Int) => T_2 0 o = 9)) := by
  refine KA.ofi (by decide) (Nat.le_of_ble_eq_true rfl) hO ?_
  intro p e s m below meth c ls ar QW A0 H locs E hK hZ hA hAc hsz hnm hw hlo_ hl hret
  have hl : lv_has ls 2 [(0, .ref o)] := hl
  have hT : WT T := hw.1.2.1
  have hoT_ : OW T T s.heap.size := OW.rf T _
  refine j_aload_n E 1 rfl dX9_wording_0 rfl (lv_at hl 0 rfl) ?_
  refine g_186 E hK hw fl_X9_33 t_o (v_0 186 o) rfl 4 rfl dX9_wording_1 (fun rr1_ => ?_)
  refine j_istore_n E 5 rfl [(1, .int (J (v_0 186 o))), (0, .ref o)] dX9_wording_4 rfl hl (by decide) rfl (fun ls hl => ?_)
  refine j_aload_n E 6 rfl dX9_wording_5 rfl (lv_at hl 1 rfl) ?_
  refine j_iconst E 7 rfl dX9_wording_6 ?_
  refine p_186 E hK hw fl_X9_33 t_o (rr (by decide)) 10 rfl dX9_wording_7 (fun H locs hw => ?_)
  have hw : WK D cy T (upV v_0 186 (upB (v_0 186) o 0)) A0 s.heap H locs := hw
  refine j_aload_n E 11 rfl dX9_wording_10 rfl (lv_at hl 1 rfl) ?_
  refine j_iconst E 12 rfl dX9_wording_11 ?_
  refine p_190 E hK hw fl_X9_46 t_o (rr (by decide)) 15 rfl dX9_wording_12 (fun H locs hw => ?_)
  have hw : WK D cy T (upV (upV v_0 186 (upB (v_0 186) o 0)) 190 (upB (v_0 190) o 0)) A0 s.heap H locs := hw
  refine j_aload_n E 16 rfl dX9_wording_15 rfl (lv_at hl 1 rfl) ?_
  refine j_iconst E 17 rfl dX9_wording_16 ?_
  refine p_191 E hK hw fl_X9_49 t_o (rr (by decide)) 20 rfl dX9_wording_17 (fun H locs hw => ?_)
  have hw : WK D cy T (upV (upV (upV v_0 186 (upB (v_0 186) o 0)) 190 (upB (v_0 190) o 0)) 191 (upB (v_0 191) o ((-1)))) A0 s.heap H locs := hw
  refine j_aload_n E 21 rfl dX9_wording_20 rfl (lv_at hl 1 rfl) ?_
  refine g_182 E hK hw fl_X9_19 t_o 24 rfl dX9_wording_21 ?_
  refine kV_i E (c_Jx4a65c_size_8abf5 l D cy T (upV (upV (upV v_0 186 (upB (v_0 186) o 0)) 190 (upB (v_0 190) o 0)) 191 (upB (v_0 191) o ((-1)))) (T 182 o)  (wt_182 hT t_o)  ) mt_Jx4a65c_size_8abf5 ml_X9_80 hK hw (cw_rc10 hK hw.1 (wt_182 hT t_o)) hA ⟨Nat.le_of_ble_eq_true rfl, Nat.le_of_ble_eq_true rfl⟩ ⟨Nat.le_of_ble_eq_true rfl, Nat.le_of_ble_eq_true rfl⟩ (As := []) (rest := []) rfl rfl hl.1 (Nat.le_of_ble_eq_true rfl) 27 rfl dX9_wording_24 (fun zz5_ v_5 H locs rr5_ hq5_ hw => ?_)
  obtain ⟨ev5_, hh5_⟩ := hq5_
  rw [ev5_] at hw; clear ev5_
  have hh5_ : zz5_ = ((v_0 202) ((T 182 o))) ∧ 0 ≤ zz5_ := hh5_
  refine j_bipush E 29 rfl dX9_wording_27 (by decide) ?_
  refine j_icmp_lt E 32 34 rfl rr5_ (rr (by decide)) dX9_wording_29 (by decide) (fun cc6_ => ?_) (fun cc6_ => ?_)
  · refine j_aload_n E 35 rfl dX9_wording_34 rfl (lv_at hl 1 rfl) ?_
    refine g_192 E hK hw fl_X9_55 t_o 38 rfl dX9_wording_35 ?_
    refine j_aload_n E 39 rfl dX9_wording_38 rfl (lv_at hl 1 rfl) ?_
    refine g_185 E hK hw fl_X9_29 t_o 42 rfl dX9_wording_39 ?_
    have ln7_ := wl_185 hT t_o
    refine j_iload_n E 43 rfl dX9_wording_42 rfl (lv_at hl 0 rfl) ?_
    refine zV_i E (c_X3_read l D cy T (upV (upV (upV v_0 186 (upB (v_0 186) o 0)) 190 (upB (v_0 190) o 0)) 191 (upB (v_0 191) o ((-1)))) κ (T 192 o) (T 185 o) (v_0 186 o)  hO (wt_192 hT t_o) (wt_185 hT t_o) rr1_ ) mt_X3_read ml_X9_146 hK hZ hAc hw (cw_rc4 hK hw.1 (wt_192 hT t_o)) hA ⟨Nat.le_of_ble_eq_true rfl, Nat.le_of_ble_eq_true rfl⟩ ⟨Nat.le_of_ble_eq_true rfl, Nat.le_of_ble_eq_true rfl⟩ (As := [.ref (T 185 o), .int (J (v_0 186 o))]) (rest := []) rfl rfl hl.1 (Nat.le_of_ble_eq_true rfl) 46 rfl dX9_wording_43 (fun zz8_ v_8 H locs rr8_ hq8_ hw => ?_)
    obtain ⟨y80_8, y81_8, y83_8, y84_8, y86_8, y123_8, y124_8, ev8_, hh8_⟩ := hq8_
    rw [ev8_] at hw; clear ev8_
    have hh8_ : 0 ≤ (y86_8 ((T 192 o))) ∧ (y86_8 ((T 192 o))) ≤ 400 ∧ 0 ≤ (y123_8 (T 82 (T 192 o))) ∧ (y123_8 (T 82 (T 192 o))) ≤ 400 := hh8_
    refine j_if_ne E 49 73 rfl rr8_ dX9_wording_46 (by decide) (fun cc9_ => ?_) (fun cc9_ => ?_)
    · refine j_aload_n E 74 rfl dX9_wording_73 rfl (lv_at hl 1 rfl) ?_
      refine g_182 E hK hw fl_X9_19 t_o 77 rfl dX9_wording_74 ?_
      have hw0_ := hw
      refine n_obj8 E hK hw hA cl_X9_152 (Nat.le_of_ble_eq_true rfl) (Nat.le_of_ble_eq_true rfl) 80 rfl dX9_wording_77 (fun q10_ T10_ H hge10_ hx10_ ho10_ tq10_ hw => ?_)
      have fq10_ : s.heap.size ≤ q10_ := Nat.le_trans hw0_.2.2.1 hge10_
      have hw : WK D cy T10_ (upV (upV (upV (upV (upV (upV (upV (upV (upV (upV (upV v_0 186 (upB (v_0 186) o 0)) 190 (upB (v_0 190) o 0)) 191 (upB (v_0 191) o ((-1)))) 80 y80_8) 81 y81_8) 83 y83_8) 84 y84_8) 86 y86_8) 123 y123_8) 124 y124_8) 160 (upB (v_0 160) q10_ 0)) A0 s.heap H locs := hw
      have hT10_ : WT T10_ := hw.1.2.1
      have hO10_ : ∀ x, ow T10_ x → κ 2 2 ≤ x := fun x h => hAc x (hw.2.1 x h)
      have hoT_ : OW T T10_ s.heap.size := OW.tr hw0_.2.2.1 hoT_ ho10_
      have u11_ : T10_ 0 o = 9 := (hx10_ o (Nat.ne_of_lt (Nat.lt_of_lt_of_le (cw_lt hw0_.1 t_o (fun _ _ _ => ⟨_, rfl⟩)) hge10_)) 0).trans t_o
      have u12_ : T10_ 0 (T 192 o) = 4 := (hx10_ (T 192 o) (Nat.ne_of_lt (Nat.lt_of_lt_of_le (cw_lt hw0_.1 (wt_192 hT t_o) (fun _ _ _ => ⟨_, rfl⟩)) hge10_)) 0).trans (wt_192 hT t_o)
      have u13_ : T10_ 0 (T 182 o) = 10 := (hx10_ (T 182 o) (Nat.ne_of_lt (Nat.lt_of_lt_of_le (cw_lt hw0_.1 (wt_182 hT t_o) (fun _ _ _ => ⟨_, rfl⟩)) hge10_)) 0).trans (wt_182 hT t_o)
      have u14_ : T10_ 2 (T 182 o) = 8 := (hx10_ (T 182 o) (Nat.ne_of_lt (Nat.lt_of_lt_of_le (cw_lt hw0_.1 (wt_182 hT t_o) (fun _ _ _ => ⟨_, rfl⟩)) hge10_)) 2).trans (we_182 hT t_o)
      have u15_ : T10_ 192 o = T 192 o := (hx10_ o (Nat.ne_of_lt (Nat.lt_of_lt_of_le (cw_lt hw0_.1 t_o (fun _ _ _ => ⟨_, rfl⟩)) hge10_)) 192).trans rfl
      have u16_ : T10_ 182 o = T 182 o := (hx10_ o (Nat.ne_of_lt (Nat.lt_of_lt_of_le (cw_lt hw0_.1 t_o (fun _ _ _ => ⟨_, rfl⟩)) hge10_)) 182).trans rfl
      have u17_ : T10_ 82 (T 192 o) = T 82 (T 192 o) := (hx10_ (T 192 o) (Nat.ne_of_lt (Nat.lt_of_lt_of_le (cw_lt hw0_.1 (wt_192 hT t_o) (fun _ _ _ => ⟨_, rfl⟩)) hge10_)) 82).trans rfl
      refine j_dup E 81 rfl dX9_wording_80 rfl ?_
      refine j_aload_n E 82 rfl dX9_wording_81 rfl (lv_at hl 1 rfl) ?_
      refine g_182 E hK hw fl_X9_19 u11_ 85 rfl dX9_wording_82 ?_
      refine kV_i E (c_Jx4a65c_size_8abf5 l D cy T10_ (upV (upV (upV (upV (upV (upV (upV (upV (upV (upV (upV v_0 186 (upB (v_0 186) o 0)) 190 (upB (v_0 190) o 0)) 191 (upB (v_0 191) o ((-1)))) 80 y80_8) 81 y81_8) 83 y83_8) 84 y84_8) 86 y86_8) 123 y123_8) 124 y124_8) 160 (upB (v_0 160) q10_ 0)) (T10_ 182 o)  (wt_182 hT10_ u11_)  ) mt_Jx4a65c_size_8abf5 ml_X9_80 hK hw (cw_rc10 hK hw.1 (wt_182 hT10_ u11_)) hA ⟨Nat.le_of_ble_eq_true rfl, Nat.le_of_ble_eq_true rfl⟩ ⟨Nat.le_of_ble_eq_true rfl, Nat.le_of_ble_eq_true rfl⟩ (As := []) (rest := [.ref q10_, .ref q10_, .ref (T 182 o)]) rfl rfl hl.1 (Nat.le_of_ble_eq_true rfl) 88 rfl dX9_wording_85 (fun zz18_ v_18 H locs rr18_ hq18_ hw => ?_)
      obtain ⟨ev18_, hh18_⟩ := hq18_
      rw [ev18_] at hw; clear ev18_
      have hh18_ : zz18_ = ((v_0 202) ((T10_ 182 o))) ∧ 0 ≤ zz18_ := hh18_
      have hs40_ : zz18_ ≤ 40 := by have h_ := hh18_.1; rw [u16_] at h_; omega
      refine j_aload_n E 89 rfl dX9_wording_88 rfl (lv_at hl 1 rfl) ?_
      refine g_192 E hK hw fl_X9_55 u11_ 92 rfl dX9_wording_89 ?_
      have hw0_ := hw
      refine aV_n E (n_X3_copyOfTokens l D cy κ T10_ (upV (upV (upV (upV (upV (upV (upV (upV (upV (upV (upV v_0 186 (upB (v_0 186) o 0)) 190 (upB (v_0 190) o 0)) 191 (upB (v_0 191) o ((-1)))) 80 y80_8) 81 y81_8) 83 y83_8) 84 y84_8) 86 y86_8) 123 y123_8) 124 y124_8) 160 (upB (v_0 160) q10_ 0)) (T10_ 192 o) H.size  hO10_ (wt_192 hT10_ u11_)  (show (y123_8 (T10_ 82 (T10_ 192 o))) ≤ 400 from by rw [u15_, u17_]; omega)) mt_X3_copyOfTokens ml_X9_154 hK hZ hAc hw (cw_rc4 hK hw.1 (wt_192 hT10_ u11_)) hA ⟨(Nat.le_of_ble_eq_true rfl), (Nat.le_of_ble_eq_true rfl)⟩ ⟨(Nat.le_of_ble_eq_true rfl), (Nat.le_of_ble_eq_true rfl)⟩ (As := []) (rest := [.int (J zz18_), .ref q10_, .ref q10_, .ref (T 182 o)]) rfl rfl hl.1 (Nat.le_of_ble_eq_true rfl) 95 rfl dX9_wording_92 (fun xx19_ T19_ v_19 H locs hge19_ ho19_ hq19_ hw => ?_)
      obtain ⟨ev19_, hh19_⟩ := hq19_
      rw [ev19_] at hw; clear ev19_
      obtain ⟨hx19_, tq19_⟩ := hh19_
      have hT19_ : WT T19_ := hw.1.2.1
      have hO19_ : ∀ x, ow T19_ x → κ 2 2 ≤ x := fun x h => hAc x (hw.2.1 x h)
      have hoT_ : OW T T19_ s.heap.size := OW.tr hw0_.2.2.1 hoT_ ho19_
      have u20_ : T19_ 0 o = 9 := (hx19_ o (cw_lt hw0_.1 u11_ (fun _ _ _ => ⟨_, rfl⟩)) 0).trans u11_
      have u21_ : T19_ 0 (T 192 o) = 4 := (hx19_ (T 192 o) (cw_lt hw0_.1 u12_ (fun _ _ _ => ⟨_, rfl⟩)) 0).trans u12_
      have u22_ : T19_ 0 (T 182 o) = 10 := (hx19_ (T 182 o) (cw_lt hw0_.1 u13_ (fun _ _ _ => ⟨_, rfl⟩)) 0).trans u13_
      have u23_ : T19_ 0 q10_ = 108 := (hx19_ q10_ (cw_lt hw0_.1 tq10_ (fun _ _ _ => ⟨_, rfl⟩)) 0).trans tq10_
      have u24_ : T19_ 2 (T 182 o) = 8 := (hx19_ (T 182 o) (cw_lt hw0_.1 u13_ (fun _ _ _ => ⟨_, rfl⟩)) 2).trans u14_
      have u25_ : T19_ 192 o = T 192 o := (hx19_ o (cw_lt hw0_.1 u11_ (fun _ _ _ => ⟨_, rfl⟩)) 192).trans u15_
      have u26_ : T19_ 182 o = T 182 o := (hx19_ o (cw_lt hw0_.1 u11_ (fun _ _ _ => ⟨_, rfl⟩)) 182).trans u16_
      have u27_ : T19_ 82 (T 192 o) = T 82 (T 192 o) := (hx19_ (T 192 o) (cw_lt hw0_.1 u12_ (fun _ _ _ => ⟨_, rfl⟩)) 82).trans u17_
      refine j_aload_n E 96 rfl dX9_wording_95 rfl (lv_at hl 1 rfl) ?_
      refine g_192 E hK hw fl_X9_55 u20_ 99 rfl dX9_wording_96 ?_
      have hw0_ := hw
      refine aV_n E (n_X3_copyOfCode l D cy κ T19_ (upV (upV (upV (upV (upV (upV (upV (upV (upV (upV (upV v_0 186 (upB (v_0 186) o 0)) 190 (upB (v_0 190) o 0)) 191 (upB (v_0 191) o ((-1)))) 80 y80_8) 81 y81_8) 83 y83_8) 84 y84_8) 86 y86_8) 123 y123_8) 124 y124_8) 160 (upB (v_0 160) q10_ 0)) (T19_ 192 o) H.size  hO19_ (wt_192 hT19_ u20_)  (show (y86_8 ((T19_ 192 o))) ≤ 400 from by rw [u25_]; omega)) mt_X3_copyOfCode ml_X9_158 hK hZ hAc hw (cw_rc4 hK hw.1 (wt_192 hT19_ u20_)) hA ⟨(Nat.le_of_ble_eq_true rfl), (Nat.le_of_ble_eq_true rfl)⟩ ⟨(Nat.le_of_ble_eq_true rfl), (Nat.le_of_ble_eq_true rfl)⟩ (As := []) (rest := [.ref xx19_, .int (J zz18_), .ref q10_, .ref q10_, .ref (T 182 o)]) rfl rfl hl.1 (Nat.le_of_ble_eq_true rfl) 102 rfl dX9_wording_99 (fun xx28_ T28_ v_28 H locs hge28_ ho28_ hq28_ hw => ?_)
      obtain ⟨ev28_, hh28_⟩ := hq28_
      rw [ev28_] at hw; clear ev28_
      obtain ⟨hx28_, tq28_⟩ := hh28_
      have hT28_ : WT T28_ := hw.1.2.1
      have hO28_ : ∀ x, ow T28_ x → κ 2 2 ≤ x := fun x h => hAc x (hw.2.1 x h)
      have hoT_ : OW T T28_ s.heap.size := OW.tr hw0_.2.2.1 hoT_ ho28_
      have u29_ : T28_ 0 o = 9 := (hx28_ o (cw_lt hw0_.1 u20_ (fun _ _ _ => ⟨_, rfl⟩)) 0).trans u20_
      have u30_ : T28_ 0 (T 192 o) = 4 := (hx28_ (T 192 o) (cw_lt hw0_.1 u21_ (fun _ _ _ => ⟨_, rfl⟩)) 0).trans u21_
      have u31_ : T28_ 0 (T 182 o) = 10 := (hx28_ (T 182 o) (cw_lt hw0_.1 u22_ (fun _ _ _ => ⟨_, rfl⟩)) 0).trans u22_
      have u32_ : T28_ 0 q10_ = 108 := (hx28_ q10_ (cw_lt hw0_.1 u23_ (fun _ _ _ => ⟨_, rfl⟩)) 0).trans u23_
      have u33_ : T28_ 0 xx19_ = 20 := (hx28_ xx19_ (cw_lt hw0_.1 tq19_ (fun _ _ _ => ⟨_, rfl⟩)) 0).trans tq19_
      have u34_ : T28_ 2 (T 182 o) = 8 := (hx28_ (T 182 o) (cw_lt hw0_.1 u22_ (fun _ _ _ => ⟨_, rfl⟩)) 2).trans u24_
      have u35_ : T28_ 192 o = T 192 o := (hx28_ o (cw_lt hw0_.1 u20_ (fun _ _ _ => ⟨_, rfl⟩)) 192).trans u25_
      have u36_ : T28_ 182 o = T 182 o := (hx28_ o (cw_lt hw0_.1 u20_ (fun _ _ _ => ⟨_, rfl⟩)) 182).trans u26_
      have u37_ : T28_ 82 (T 192 o) = T 82 (T 192 o) := (hx28_ (T 192 o) (cw_lt hw0_.1 u21_ (fun _ _ _ => ⟨_, rfl⟩)) 82).trans u27_
      have hw0_ := hw
      refine aI_v E (n_X7_init l D cy κ T28_ (upV (upV (upV (upV (upV (upV (upV (upV (upV (upV (upV v_0 186 (upB (v_0 186) o 0)) 190 (upB (v_0 190) o 0)) 191 (upB (v_0 191) o ((-1)))) 80 y80_8) 81 y81_8) 83 y83_8) 84 y84_8) 86 y86_8) 123 y123_8) 124 y124_8) 160 (upB (v_0 160) q10_ 0)) q10_ zz18_ xx19_ xx28_ H.size  hO28_ u32_ rr18_ u33_ tq28_ (show zz18_ ≤ 40 from by first | omega | (simp only [upB_same]; omega))) mi_X7_init ml_X9_161 hK hZ hAc hw hA ⟨(Nat.le_of_ble_eq_true rfl), (Nat.le_of_ble_eq_true rfl)⟩ ⟨(Nat.le_of_ble_eq_true rfl), (Nat.le_of_ble_eq_true rfl)⟩ (As := [.int (J zz18_), .ref xx19_, .ref xx28_]) (rest := [.ref q10_, .ref (T 182 o)]) rfl rfl hl.1 (Nat.le_of_ble_eq_true rfl) 105 rfl dX9_wording_102 (fun T38_ v_38 H locs hge38_ ho38_ hq38_ hw => ?_)
      obtain ⟨y160_38, ev38_, hh38_⟩ := hq38_
      rw [ev38_] at hw; clear ev38_
      obtain ⟨hx38_, tq38_⟩ := hh38_
      have hT38_ : WT T38_ := hw.1.2.1
      have hO38_ : ∀ x, ow T38_ x → κ 2 2 ≤ x := fun x h => hAc x (hw.2.1 x h)
      have hoT_ : OW T T38_ s.heap.size := OW.tr hw0_.2.2.1 hoT_ ho38_
      have u39_ : T38_ 0 o = 9 := (hx38_ o (cw_lt hw0_.1 u29_ (fun _ _ _ => ⟨_, rfl⟩)) (ty_ne u29_ u32_ (by decide)) 0).trans u29_
      have u40_ : T38_ 0 (T 192 o) = 4 := (hx38_ (T 192 o) (cw_lt hw0_.1 u30_ (fun _ _ _ => ⟨_, rfl⟩)) (ty_ne u30_ u32_ (by decide)) 0).trans u30_
      have u41_ : T38_ 0 (T 182 o) = 10 := (hx38_ (T 182 o) (cw_lt hw0_.1 u31_ (fun _ _ _ => ⟨_, rfl⟩)) (ty_ne u31_ u32_ (by decide)) 0).trans u31_
      have u42_ : T38_ 2 (T 182 o) = 8 := (hx38_ (T 182 o) (cw_lt hw0_.1 u31_ (fun _ _ _ => ⟨_, rfl⟩)) (ty_ne u31_ u32_ (by decide)) 2).trans u34_
      have u43_ : T38_ 192 o = T 192 o := (hx38_ o (cw_lt hw0_.1 u29_ (fun _ _ _ => ⟨_, rfl⟩)) (ty_ne u29_ u32_ (by decide)) 192).trans u35_
      have u44_ : T38_ 182 o = T 182 o := (hx38_ o (cw_lt hw0_.1 u29_ (fun _ _ _ => ⟨_, rfl⟩)) (ty_ne u29_ u32_ (by decide)) 182).trans u36_
      have u45_ : T38_ 82 (T 192 o) = T 82 (T 192 o) := (hx38_ (T 192 o) (cw_lt hw0_.1 u30_ (fun _ _ _ => ⟨_, rfl⟩)) (ty_ne u30_ u32_ (by decide)) 82).trans u37_
      have hw0_ := hw
      refine aV_i E (n_Jx4a65c_add_9ea2d l D cy κ T38_ (upV (upV (upV (upV (upV (upV (upV (upV (upV (upV (upV (upV v_0 186 (upB (v_0 186) o 0)) 190 (upB (v_0 190) o 0)) 191 (upB (v_0 191) o ((-1)))) 80 y80_8) 81 y81_8) 83 y83_8) 84 y84_8) 86 y86_8) 123 y123_8) 124 y124_8) 160 (upB (v_0 160) q10_ 0)) 160 y160_38) (T 182 o) q10_ H.size  hO38_ u41_  (tq38_.trans u42_.symm) (fun x_ h_ => hp0 x_ ((hoT_ x_).2 h_)) (show ((v_0 202) ((T 182 o))) ≤ 200 from by omega)) mt_Jx4a65c_add_9ea2d ml_X9_89 hK hZ hAc hw (cw_rc10 hK hw.1 u41_) hA ⟨(Nat.le_of_ble_eq_true rfl), (Nat.le_of_ble_eq_true rfl)⟩ ⟨(Nat.le_of_ble_eq_true rfl), (Nat.le_of_ble_eq_true rfl)⟩ (As := [.ref q10_]) (rest := []) rfl rfl hl.1 (Nat.le_of_ble_eq_true rfl) 108 rfl dX9_wording_105 (fun zz46_ T46_ v_46 H locs rr46_ hge46_ ho46_ hq46_ hw => ?_)
      obtain ⟨y200_46, y202_46, ev46_, hh46_⟩ := hq46_
      rw [ev46_] at hw; clear ev46_
      obtain ⟨hy46_, hx46_, hz46_, hl46_⟩ := hh46_
      have hT46_ : WT T46_ := hw.1.2.1
      have hO46_ : ∀ x, ow T46_ x → κ 2 2 ≤ x := fun x h => hAc x (hw.2.1 x h)
      have hoT_ : OW T T46_ s.heap.size := OW.tr hw0_.2.2.1 hoT_ ho46_
      have u47_ : T46_ 0 o = 9 := (hx46_ o (cw_lt hw0_.1 u39_ (fun _ _ _ => ⟨_, rfl⟩)) (ty_ne u39_ u41_ (by decide)) (by rw [u39_]; decide) 0).trans u39_
      have u48_ : T46_ 0 (T 192 o) = 4 := (hx46_ (T 192 o) (cw_lt hw0_.1 u40_ (fun _ _ _ => ⟨_, rfl⟩)) (ty_ne u40_ u41_ (by decide)) (by rw [u40_]; decide) 0).trans u40_
      have u49_ : T46_ 192 o = T 192 o := (hx46_ o (cw_lt hw0_.1 u39_ (fun _ _ _ => ⟨_, rfl⟩)) (ty_ne u39_ u41_ (by decide)) (by rw [u39_]; decide) 192).trans u43_
      have u50_ : T46_ 182 o = T 182 o := (hx46_ o (cw_lt hw0_.1 u39_ (fun _ _ _ => ⟨_, rfl⟩)) (ty_ne u39_ u41_ (by decide)) (by rw [u39_]; decide) 182).trans u44_
      have u51_ : T46_ 82 (T 192 o) = T 82 (T 192 o) := (hx46_ (T 192 o) (cw_lt hw0_.1 u40_ (fun _ _ _ => ⟨_, rfl⟩)) (ty_ne u40_ u41_ (by decide)) (by rw [u40_]; decide) 82).trans u45_
      refine j_pop E 109 rfl dX9_wording_108 rfl ?_
      refine j_aload_n E 110 rfl dX9_wording_109 rfl (lv_at hl 1 rfl) ?_
      refine g_182 E hK hw fl_X9_19 u47_ 113 rfl dX9_wording_110 ?_
      refine kV_i E (c_Jx4a65c_size_8abf5 l D cy T46_ (upV (upV (upV (upV (upV (upV (upV (upV (upV (upV (upV (upV (upV (upV v_0 186 (upB (v_0 186) o 0)) 190 (upB (v_0 190) o 0)) 191 (upB (v_0 191) o ((-1)))) 80 y80_8) 81 y81_8) 83 y83_8) 84 y84_8) 86 y86_8) 123 y123_8) 124 y124_8) 160 (upB (v_0 160) q10_ 0)) 160 y160_38) 200 y200_46) 202 y202_46) (T46_ 182 o)  (wt_182 hT46_ u47_)  ) mt_Jx4a65c_size_8abf5 ml_X9_80 hK hw (cw_rc10 hK hw.1 (wt_182 hT46_ u47_)) hA ⟨Nat.le_of_ble_eq_true rfl, Nat.le_of_ble_eq_true rfl⟩ ⟨Nat.le_of_ble_eq_true rfl, Nat.le_of_ble_eq_true rfl⟩ (As := []) (rest := []) rfl rfl hl.1 (Nat.le_of_ble_eq_true rfl) 116 rfl dX9_wording_113 (fun zz52_ v_52 H locs rr52_ hq52_ hw => ?_)
      obtain ⟨ev52_, hh52_⟩ := hq52_
      rw [ev52_] at hw; clear ev52_
      have hh52_ : zz52_ = (y202_46 ((T46_ 182 o))) ∧ 0 ≤ zz52_ := hh52_
      refine j_iconst E 117 rfl dX9_wording_116 ?_
      refine j_isub E 118 rfl dX9_wording_117 ?_
      refine j_norm (fun zz53_ rr53_ ee53_ => ?_)
      exact hret 118 zz53_ T46_ _ _ _ ls _ _ hw hoT_ rr53_ (u47_) (Nat.le_of_ble_eq_true rfl) (Nat.le_of_ble_eq_true rfl) dX9_wording_118
    · refine j_aload_n E 50 rfl dX9_wording_49 rfl (lv_at hl 1 rfl) ?_
      refine j_aload_n E 51 rfl dX9_wording_50 rfl (lv_at hl 1 rfl) ?_
      refine g_192 E hK hw fl_X9_55 t_o 54 rfl dX9_wording_51 ?_
      refine g_80 E hK hw fl_X9_150 (wt_192 hT t_o) (y80_8 (T 192 o)) rfl 57 rfl dX9_wording_54 (fun rr54_ => ?_)
      refine p_190 E hK hw fl_X9_46 t_o rr54_ 60 rfl dX9_wording_57 (fun H locs hw => ?_)
      have hw : WK D cy T (upV (upV (upV (upV (upV (upV (upV (upV (upV (upV (upV v_0 186 (upB (v_0 186) o 0)) 190 (upB (v_0 190) o 0)) 191 (upB (v_0 191) o ((-1)))) 80 y80_8) 81 y81_8) 83 y83_8) 84 y84_8) 86 y86_8) 123 y123_8) 124 y124_8) 190 (upB (upB (v_0 190) o 0) o (y80_8 (T 192 o)))) A0 s.heap H locs := hw
      refine j_aload_n E 61 rfl dX9_wording_60 rfl (lv_at hl 1 rfl) ?_
      refine j_aload_n E 62 rfl dX9_wording_61 rfl (lv_at hl 1 rfl) ?_
      refine g_192 E hK hw fl_X9_55 t_o 65 rfl dX9_wording_62 ?_
      refine g_81 E hK hw fl_X9_151 (wt_192 hT t_o) (y81_8 (T 192 o)) rfl 68 rfl dX9_wording_65 (fun rr56_ => ?_)
      refine p_191 E hK hw fl_X9_49 t_o rr56_ 71 rfl dX9_wording_68 (fun H locs hw => ?_)
      have hw : WK D cy T (upV (upV (upV (upV (upV (upV (upV (upV (upV (upV (upV (upV v_0 186 (upB (v_0 186) o 0)) 190 (upB (v_0 190) o 0)) 191 (upB (v_0 191) o ((-1)))) 80 y80_8) 81 y81_8) 83 y83_8) 84 y84_8) 86 y86_8) 123 y123_8) 124 y124_8) 190 (upB (upB (v_0 190) o 0) o (y80_8 (T 192 o)))) 191 (upB (upB (v_0 191) o ((-1))) o (y81_8 (T 192 o)))) A0 s.heap H locs := hw
      refine j_iconst E 72 rfl dX9_wording_71 ?_
      exact hret 72 ((-1)) T _ _ _ ls _ _ hw hoT_ (rr (by decide)) (t_o) (Nat.le_of_ble_eq_true rfl) (Nat.le_of_ble_eq_true rfl) dX9_wording_72
  · refine j_iconst E 33 rfl dX9_wording_32 ?_
    exact hret 33 ((-1)) T _ _ _ ls _ _ hw hoT_ (rr (by decide)) (t_o) (Nat.le_of_ble_eq_true rfl) (Nat.le_of_ble_eq_true rfl) dX9_wording_33
set_option maxHeartbeats 4000000 in
set_option maxRecDepth 100000 in
theorem n_X9_suit (l : Launch) (D : va_G) (cy : Nat → ClassId) (κ T : Nat → Nat → Nat) (v_0 : Nat → Nat → Int) (o : Nat) (v_p : Int) (v_q : Int) (v_l : Int) (v_h : Int) (v_w : Int) (v_d : Int) (sz : Nat) (hO : ∀ x, ow T x → κ 2 2 ≤ x) (t_o : T 0 o = 9) (r_v_p : inR v_p) (r_v_q : inR v_q) (r_v_l : inR v_l) (r_v_h : inR v_h) (r_v_w : inR v_w) (r_v_d : inR v_d) (hp0 : ∀ x, T 0 x = 26 → x = κ 2 0) : KA l D cy κ T yX9_suit cX9_suit 10 (some .int) 8 2 500 [.ref o, .int (J v_p), .int (J v_q), .int (J v_l), .int (J v_h), .int (J v_w), .int (J v_d)] v_0 sz (AI (fun (z_0 : Int) (T_2 : Nat → Nat → Nat) (v_2 : Nat → Nat → Int) => T_2 0 o = 9)) := by
  refine KA.ofi (by decide) (Nat.le_of_ble_eq_true rfl) hO ?_
  intro p e s m below meth c ls ar QW A0 H locs E hK hZ hA hAc hsz hnm hw hlo_ hl hret
  have hl : lv_has ls 10 [(0, .ref o), (1, .int (J v_p)), (2, .int (J v_q)), (3, .int (J v_l)), (4, .int (J v_h)), (5, .int (J v_w)), (6, .int (J v_d))] := hl
  have hT : WT T := hw.1.2.1
  have hoT_ : OW T T s.heap.size := OW.rf T _
  refine j_aload_n E 1 rfl dX9_suit_0 rfl (lv_at hl 0 rfl) ?_
  refine j_iload_n E 2 rfl dX9_suit_1 rfl (lv_at hl 1 rfl) ?_
  refine kV_r E (c_X9_livingAt l D cy T (v_0) o v_p  t_o r_v_p ) mt_X9_livingAt ml_X9_93 hK hw (cw_rc9 hK hw.1 t_o) hA ⟨Nat.le_of_ble_eq_true rfl, Nat.le_of_ble_eq_true rfl⟩ ⟨Nat.le_of_ble_eq_true rfl, Nat.le_of_ble_eq_true rfl⟩ (As := [.int (J v_p)]) (rest := []) rfl rfl hl.1 (Nat.le_of_ble_eq_true rfl) 5 rfl dX9_suit_2 (fun oo1_ v_1 H locs hq1_ hw => ?_)
  obtain ⟨ev1_, hh1_⟩ := hq1_
  rw [ev1_] at hw; clear ev1_
  obtain ⟨tt1_, hh1_⟩ := hh1_
  cases oo1_ with
  | none =>
    refine j_astoreN E 7 rfl [(7, .null), (0, .ref o), (1, .int (J v_p)), (2, .int (J v_q)), (3, .int (J v_l)), (4, .int (J v_h)), (5, .int (J v_w)), (6, .int (J v_d))] dX9_suit_5 hl (by decide) rfl (fun ls hl => ?_)
    refine j_aload_n E 8 rfl dX9_suit_7 rfl (lv_at hl 1 rfl) ?_
    refine j_iload_n E 9 rfl dX9_suit_8 rfl (lv_at hl 3 rfl) ?_
    refine kV_r E (c_X9_livingAt l D cy T (v_0) o v_q  t_o r_v_q ) mt_X9_livingAt ml_X9_93 hK hw (cw_rc9 hK hw.1 t_o) hA ⟨Nat.le_of_ble_eq_true rfl, Nat.le_of_ble_eq_true rfl⟩ ⟨Nat.le_of_ble_eq_true rfl, Nat.le_of_ble_eq_true rfl⟩ (As := [.int (J v_q)]) (rest := []) rfl rfl hl.1 (Nat.le_of_ble_eq_true rfl) 12 rfl dX9_suit_9 (fun oo2_ v_2 H locs hq2_ hw => ?_)
    obtain ⟨ev2_, hh2_⟩ := hq2_
    rw [ev2_] at hw; clear ev2_
    obtain ⟨tt2_, hh2_⟩ := hh2_
    cases oo2_ with
    | none =>
      refine j_astoreN E 14 rfl [(8, .null), (7, .null), (0, .ref o), (1, .int (J v_p)), (2, .int (J v_q)), (3, .int (J v_l)), (4, .int (J v_h)), (5, .int (J v_w)), (6, .int (J v_d))] dX9_suit_12 hl (by decide) rfl (fun ls hl => ?_)
      refine j_aloadN E 16 rfl dX9_suit_14 (lv_at hl 1 rfl) ?_
      refine j_ifnullN E 49 dX9_suit_16 (by decide) ?_
      refine j_iconst E 50 rfl dX9_suit_49 ?_
      exact hret 50 ((-1)) T _ _ _ ls _ _ hw hoT_ (rr (by decide)) (t_o) (Nat.le_of_ble_eq_true rfl) (Nat.le_of_ble_eq_true rfl) dX9_suit_50
    | some xx2_ =>
      have te2_ := tt2_ xx2_ rfl
      refine j_astore E 14 rfl [(8, .ref xx2_), (7, .null), (0, .ref o), (1, .int (J v_p)), (2, .int (J v_q)), (3, .int (J v_l)), (4, .int (J v_h)), (5, .int (J v_w)), (6, .int (J v_d))] dX9_suit_12 hl (by decide) rfl (fun ls hl => ?_)
      refine j_aloadN E 16 rfl dX9_suit_14 (lv_at hl 1 rfl) ?_
      refine j_ifnullN E 49 dX9_suit_16 (by decide) ?_
      refine j_iconst E 50 rfl dX9_suit_49 ?_
      exact hret 50 ((-1)) T _ _ _ ls _ _ hw hoT_ (rr (by decide)) (t_o) (Nat.le_of_ble_eq_true rfl) (Nat.le_of_ble_eq_true rfl) dX9_suit_50
  | some xx1_ =>
    have te1_ := tt1_ xx1_ rfl
    refine j_astore E 7 rfl [(7, .ref xx1_), (0, .ref o), (1, .int (J v_p)), (2, .int (J v_q)), (3, .int (J v_l)), (4, .int (J v_h)), (5, .int (J v_w)), (6, .int (J v_d))] dX9_suit_5 hl (by decide) rfl (fun ls hl => ?_)
    refine j_aload_n E 8 rfl dX9_suit_7 rfl (lv_at hl 1 rfl) ?_
    refine j_iload_n E 9 rfl dX9_suit_8 rfl (lv_at hl 3 rfl) ?_
    refine kV_r E (c_X9_livingAt l D cy T (v_0) o v_q  t_o r_v_q ) mt_X9_livingAt ml_X9_93 hK hw (cw_rc9 hK hw.1 t_o) hA ⟨Nat.le_of_ble_eq_true rfl, Nat.le_of_ble_eq_true rfl⟩ ⟨Nat.le_of_ble_eq_true rfl, Nat.le_of_ble_eq_true rfl⟩ (As := [.int (J v_q)]) (rest := []) rfl rfl hl.1 (Nat.le_of_ble_eq_true rfl) 12 rfl dX9_suit_9 (fun oo3_ v_3 H locs hq3_ hw => ?_)
    obtain ⟨ev3_, hh3_⟩ := hq3_
    rw [ev3_] at hw; clear ev3_
    obtain ⟨tt3_, hh3_⟩ := hh3_
    cases oo3_ with
    | none =>
      refine j_astoreN E 14 rfl [(8, .null), (7, .ref xx1_), (0, .ref o), (1, .int (J v_p)), (2, .int (J v_q)), (3, .int (J v_l)), (4, .int (J v_h)), (5, .int (J v_w)), (6, .int (J v_d))] dX9_suit_12 hl (by decide) rfl (fun ls hl => ?_)
      refine j_aload E 16 rfl dX9_suit_14 (lv_at hl 1 rfl) ?_
      refine j_ifnullR E 19 rfl dX9_suit_16 ?_
      refine j_aloadN E 21 rfl dX9_suit_19 (lv_at hl 0 rfl) ?_
      refine j_ifnullN E 49 dX9_suit_21 (by decide) ?_
      refine j_iconst E 50 rfl dX9_suit_49 ?_
      exact hret 50 ((-1)) T _ _ _ ls _ _ hw hoT_ (rr (by decide)) (t_o) (Nat.le_of_ble_eq_true rfl) (Nat.le_of_ble_eq_true rfl) dX9_suit_50
    | some xx3_ =>
      have te3_ := tt3_ xx3_ rfl
      refine j_astore E 14 rfl [(8, .ref xx3_), (7, .ref xx1_), (0, .ref o), (1, .int (J v_p)), (2, .int (J v_q)), (3, .int (J v_l)), (4, .int (J v_h)), (5, .int (J v_w)), (6, .int (J v_d))] dX9_suit_12 hl (by decide) rfl (fun ls hl => ?_)
      refine j_aload E 16 rfl dX9_suit_14 (lv_at hl 1 rfl) ?_
      refine j_ifnullR E 19 rfl dX9_suit_16 ?_
      refine j_aload E 21 rfl dX9_suit_19 (lv_at hl 0 rfl) ?_
      refine j_ifnullR E 24 rfl dX9_suit_21 ?_
      refine j_iload_n E 25 rfl dX9_suit_24 rfl (lv_at hl 3 rfl) ?_
      refine j_iload_n E 26 rfl dX9_suit_25 rfl (lv_at hl 4 rfl) ?_
      refine j_icmp_eq E 29 49 rfl r_v_p r_v_q dX9_suit_26 (by decide) (fun cc4_ => ?_) (fun cc4_ => ?_)
      · refine j_iconst E 50 rfl dX9_suit_49 ?_
        exact hret 50 ((-1)) T _ _ _ ls _ _ hw hoT_ (rr (by decide)) (t_o) (Nat.le_of_ble_eq_true rfl) (Nat.le_of_ble_eq_true rfl) dX9_suit_50
      · refine j_aload_n E 30 rfl dX9_suit_29 rfl (lv_at hl 2 rfl) ?_
        refine j_iload_n E 31 rfl dX9_suit_30 rfl (lv_at hl 5 rfl) ?_
        refine kV_i E (c_X9_isLine l D cy T (v_0) o v_l  t_o r_v_l ) mt_X9_isLine ml_X9_172 hK hw (cw_rc9 hK hw.1 t_o) hA ⟨Nat.le_of_ble_eq_true rfl, Nat.le_of_ble_eq_true rfl⟩ ⟨Nat.le_of_ble_eq_true rfl, Nat.le_of_ble_eq_true rfl⟩ (As := [.int (J v_l)]) (rest := []) rfl rfl hl.1 (Nat.le_of_ble_eq_true rfl) 34 rfl dX9_suit_31 (fun zz5_ v_5 H locs rr5_ hq5_ hw => ?_)
        obtain ⟨ev5_, hh5_⟩ := hq5_
        rw [ev5_] at hw; clear ev5_
        have hh5_ : zz5_ ≠ 0 → 0 ≤ v_l ∧ v_l < ((v_0 202) (T 181 o)) := hh5_
        refine j_if_eq E 37 49 rfl rr5_ dX9_suit_34 (by decide) (fun cc6_ => ?_) (fun cc6_ => ?_)
        · refine j_iconst E 50 rfl dX9_suit_49 ?_
          exact hret 50 ((-1)) T _ _ _ ls _ _ hw hoT_ (rr (by decide)) (t_o) (Nat.le_of_ble_eq_true rfl) (Nat.le_of_ble_eq_true rfl) dX9_suit_50
        · refine j_aload_n E 38 rfl dX9_suit_37 rfl (lv_at hl 2 rfl) ?_
          refine g_183 E hK hw fl_X9_22 t_o 41 rfl dX9_suit_38 ?_
          refine kV_i E (c_Jx4a65c_size_8abf5 l D cy T (v_0) (T 183 o)  (wt_183 hT t_o)  ) mt_Jx4a65c_size_8abf5 ml_X9_80 hK hw (cw_rc10 hK hw.1 (wt_183 hT t_o)) hA ⟨Nat.le_of_ble_eq_true rfl, Nat.le_of_ble_eq_true rfl⟩ ⟨Nat.le_of_ble_eq_true rfl, Nat.le_of_ble_eq_true rfl⟩ (As := []) (rest := []) rfl rfl hl.1 (Nat.le_of_ble_eq_true rfl) 44 rfl dX9_suit_41 (fun zz7_ v_7 H locs rr7_ hq7_ hw => ?_)
          obtain ⟨ev7_, hh7_⟩ := hq7_
          rw [ev7_] at hw; clear ev7_
          have hh7_ : zz7_ = ((v_0 202) ((T 183 o))) ∧ 0 ≤ zz7_ := hh7_
          refine j_bipush E 46 rfl dX9_suit_44 (by decide) ?_
          refine j_icmp_lt E 49 51 rfl rr7_ (rr (by decide)) dX9_suit_46 (by decide) (fun cc8_ => ?_) (fun cc8_ => ?_)
          · refine j_iload E 53 rfl dX9_suit_51 (lv_at hl 8 rfl) ?_
            refine j_if_lt E 56 85 rfl r_v_d dX9_suit_53 (by decide) (fun cc9_ => ?_) (fun cc9_ => ?_)
            · refine j_iconst E 86 rfl dX9_suit_85 ?_
              exact hret 86 ((-1)) T _ _ _ ls _ _ hw hoT_ (rr (by decide)) (t_o) (Nat.le_of_ble_eq_true rfl) (Nat.le_of_ble_eq_true rfl) dX9_suit_86
            · refine j_iload E 58 rfl dX9_suit_56 (lv_at hl 8 rfl) ?_
              refine j_aload_n E 59 rfl dX9_suit_58 rfl (lv_at hl 2 rfl) ?_
              refine g_187 E hK hw fl_X9_37 t_o (v_0 187 o) rfl 62 rfl dX9_suit_59 (fun rr10_ => ?_)
              refine j_icmp_gt E 65 85 rfl r_v_d rr10_ dX9_suit_62 (by decide) (fun cc11_ => ?_) (fun cc11_ => ?_)
              · refine j_iconst E 86 rfl dX9_suit_85 ?_
                exact hret 86 ((-1)) T _ _ _ ls _ _ hw hoT_ (rr (by decide)) (t_o) (Nat.le_of_ble_eq_true rfl) (Nat.le_of_ble_eq_true rfl) dX9_suit_86
              · refine j_iload E 67 rfl dX9_suit_65 (lv_at hl 8 rfl) ?_
                refine j_aload E 69 rfl dX9_suit_67 (lv_at hl 1 rfl) ?_
                refine g_42 E hK hw fl_X9_113 te1_ (v_0 42 xx1_) rfl 72 rfl dX9_suit_69 (fun rr12_ => ?_)
                refine j_icmp_lt E 75 85 rfl r_v_d rr12_ dX9_suit_72 (by decide) (fun cc13_ => ?_) (fun cc13_ => ?_)
                · refine j_iconst E 86 rfl dX9_suit_85 ?_
                  exact hret 86 ((-1)) T _ _ _ ls _ _ hw hoT_ (rr (by decide)) (t_o) (Nat.le_of_ble_eq_true rfl) (Nat.le_of_ble_eq_true rfl) dX9_suit_86
                · refine j_iload E 77 rfl dX9_suit_75 (lv_at hl 8 rfl) ?_
                  refine j_aload E 79 rfl dX9_suit_77 (lv_at hl 0 rfl) ?_
                  refine g_42 E hK hw fl_X9_113 te3_ (v_0 42 xx3_) rfl 82 rfl dX9_suit_79 (fun rr14_ => ?_)
                  refine j_icmp_ge E 85 87 rfl r_v_d rr14_ dX9_suit_82 (by decide) (fun cc15_ => ?_) (fun cc15_ => ?_)
                  · refine j_aload E 89 rfl dX9_suit_87 (lv_at hl 1 rfl) ?_
                    refine g_41 E hK hw fl_X9_110 te1_ (v_0 41 xx1_) rfl 92 rfl dX9_suit_89 (fun rr16_ => ?_)
                    refine j_aload E 94 rfl dX9_suit_92 (lv_at hl 0 rfl) ?_
                    refine g_41 E hK hw fl_X9_110 te3_ (v_0 41 xx3_) rfl 97 rfl dX9_suit_94 (fun rr17_ => ?_)
                    refine j_icmp_ne E 100 104 rfl rr16_ rr17_ dX9_suit_97 (by decide) (fun cc18_ => ?_) (fun cc18_ => ?_)
                    · refine j_iconst E 105 rfl dX9_suit_104 ?_
                      refine j_istore E 107 rfl [(9, .int (J 0)), (8, .ref xx3_), (7, .ref xx1_), (0, .ref o), (1, .int (J v_p)), (2, .int (J v_q)), (3, .int (J v_l)), (4, .int (J v_h)), (5, .int (J v_w)), (6, .int (J v_d))] dX9_suit_105 hl (by decide) rfl (fun ls hl => ?_)
                      refine j_aload_n E 108 rfl dX9_suit_107 rfl (lv_at hl 3 rfl) ?_
                      refine g_193 E hK hw fl_X9_62 t_o 111 rfl dX9_suit_108 ?_
                      refine j_iload E 113 rfl dX9_suit_111 (lv_at hl 7 rfl) ?_
                      refine j_iload E 115 rfl dX9_suit_113 (lv_at hl 8 rfl) ?_
                      refine j_aload_n E 116 rfl dX9_suit_115 rfl (lv_at hl 3 rfl) ?_
                      refine g_187 E hK hw fl_X9_37 t_o (v_0 187 o) rfl 119 rfl dX9_suit_116 (fun _ => ?_)
                      refine j_iload E 121 rfl dX9_suit_119 (lv_at hl 9 rfl) ?_
                      refine j_isub E 122 rfl dX9_suit_121 ?_
                      refine j_norm (fun zz19_ rr19_ ee19_ => ?_)
                      refine j_iload E 124 rfl dX9_suit_122 (lv_at hl 0 rfl) ?_
                      refine j_iload E 126 rfl dX9_suit_124 (lv_at hl 9 rfl) ?_
                      refine j_aload E 128 rfl dX9_suit_126 (lv_at hl 1 rfl) ?_
                      refine g_42 E hK hw fl_X9_113 te3_ (v_0 42 xx3_) rfl 131 rfl dX9_suit_128 (fun _ => ?_)
                      refine j_isub E 132 rfl dX9_suit_131 ?_
                      refine j_norm (fun zz20_ rr20_ ee20_ => ?_)
                      refine kV_i E (c_X4_takeFacts l D cy T (v_0) (T 193 o) v_h v_w zz19_ 0 zz20_  (wt_193 hT t_o) r_v_h r_v_w rr19_ (rr (by decide)) rr20_ ) mt_X4_takeFacts ml_X9_292 hK hw (cw_rc5 hK hw.1 (wt_193 hT t_o)) hA ⟨Nat.le_of_ble_eq_true rfl, Nat.le_of_ble_eq_true rfl⟩ ⟨Nat.le_of_ble_eq_true rfl, Nat.le_of_ble_eq_true rfl⟩ (As := [.int (J v_h), .int (J v_w), .int (J zz19_), .int (J 0), .int (J zz20_)]) (rest := []) rfl rfl hl.1 (Nat.le_of_ble_eq_true rfl) 135 rfl dX9_suit_132 (fun zz21_ v_21 H locs rr21_ hq21_ hw => ?_)
                      obtain ⟨ev21_, hh21_⟩ := hq21_
                      rw [ev21_] at hw; clear ev21_
                      refine j_if_ne E 138 140 rfl rr21_ dX9_suit_135 (by decide) (fun cc22_ => ?_) (fun cc22_ => ?_)
                      · refine j_aload_n E 141 rfl dX9_suit_140 rfl (lv_at hl 3 rfl) ?_
                        refine g_183 E hK hw fl_X9_22 t_o 144 rfl dX9_suit_141 ?_
                        have hw0_ := hw
                        refine n_obj7 E hK hw hA cl_X9_131 (Nat.le_of_ble_eq_true rfl) (Nat.le_of_ble_eq_true rfl) 147 rfl dX9_suit_144 (fun q23_ T23_ H hge23_ hx23_ ho23_ tq23_ hw => ?_)
                        have fq23_ : s.heap.size ≤ q23_ := Nat.le_trans hw0_.2.2.1 hge23_
                        have hw : WK D cy T23_ (upV (upV (upV (upV (upV (upV (upV v_0 140 (upB (v_0 140) q23_ 0)) 141 (upB (v_0 141) q23_ 0)) 142 (upB (v_0 142) q23_ 0)) 143 (upB (v_0 143) q23_ 0)) 144 (upB (v_0 144) q23_ 0)) 145 (upB (v_0 145) q23_ 0)) 146 (upB (v_0 146) q23_ 0)) A0 s.heap H locs := hw
                        have hT23_ : WT T23_ := hw.1.2.1
                        have hO23_ : ∀ x, ow T23_ x → κ 2 2 ≤ x := fun x h => hAc x (hw.2.1 x h)
                        have hoT_ : OW T T23_ s.heap.size := OW.tr hw0_.2.2.1 hoT_ ho23_
                        have u24_ : T23_ 0 o = 9 := (hx23_ o (Nat.ne_of_lt (Nat.lt_of_lt_of_le (cw_lt hw0_.1 t_o (fun _ _ _ => ⟨_, rfl⟩)) hge23_)) 0).trans t_o
                        have u25_ : T23_ 0 xx1_ = 2 := (hx23_ xx1_ (Nat.ne_of_lt (Nat.lt_of_lt_of_le (cw_lt hw0_.1 te1_ (fun _ _ _ => ⟨_, rfl⟩)) hge23_)) 0).trans te1_
                        have u26_ : T23_ 0 xx3_ = 2 := (hx23_ xx3_ (Nat.ne_of_lt (Nat.lt_of_lt_of_le (cw_lt hw0_.1 te3_ (fun _ _ _ => ⟨_, rfl⟩)) hge23_)) 0).trans te3_
                        have u27_ : T23_ 0 (T 183 o) = 10 := (hx23_ (T 183 o) (Nat.ne_of_lt (Nat.lt_of_lt_of_le (cw_lt hw0_.1 (wt_183 hT t_o) (fun _ _ _ => ⟨_, rfl⟩)) hge23_)) 0).trans (wt_183 hT t_o)
                        have u28_ : T23_ 2 (T 183 o) = 7 := (hx23_ (T 183 o) (Nat.ne_of_lt (Nat.lt_of_lt_of_le (cw_lt hw0_.1 (wt_183 hT t_o) (fun _ _ _ => ⟨_, rfl⟩)) hge23_)) 2).trans (we_183 hT t_o)
                        refine j_dup E 148 rfl dX9_suit_147 rfl ?_
                        refine j_iload_n E 149 rfl dX9_suit_148 rfl (lv_at hl 4 rfl) ?_
                        refine j_iload_n E 150 rfl dX9_suit_149 rfl (lv_at hl 5 rfl) ?_
                        refine j_iload_n E 151 rfl dX9_suit_150 rfl (lv_at hl 6 rfl) ?_
                        refine j_aload_n E 152 rfl dX9_suit_151 rfl (lv_at hl 3 rfl) ?_
                        refine j_iload_n E 153 rfl dX9_suit_152 rfl (lv_at hl 6 rfl) ?_
                        refine j_aload_n E 154 rfl dX9_suit_153 rfl (lv_at hl 3 rfl) ?_
                        refine g_187 E hK hw fl_X9_37 u24_ (v_0 187 o) rfl 157 rfl dX9_suit_154 (fun _ => ?_)
                        refine j_iconst E 158 rfl dX9_suit_157 ?_
                        refine j_isub E 159 rfl dX9_suit_158 ?_
                        refine j_norm (fun zz29_ rr29_ ee29_ => ?_)
                        refine kV_i E (c_X9_reckonByLaw l D cy T23_ (upV (upV (upV (upV (upV (upV (upV v_0 140 (upB (v_0 140) q23_ 0)) 141 (upB (v_0 141) q23_ 0)) 142 (upB (v_0 142) q23_ 0)) 143 (upB (v_0 143) q23_ 0)) 144 (upB (v_0 144) q23_ 0)) 145 (upB (v_0 145) q23_ 0)) 146 (upB (v_0 146) q23_ 0)) o v_l zz29_  u24_ r_v_l rr29_ ) mt_X9_reckonByLaw ml_X9_296 hK hw (cw_rc9 hK hw.1 u24_) hA ⟨Nat.le_of_ble_eq_true rfl, Nat.le_of_ble_eq_true rfl⟩ ⟨Nat.le_of_ble_eq_true rfl, Nat.le_of_ble_eq_true rfl⟩ (As := [.int (J v_l), .int (J zz29_)]) (rest := [.int (J v_l), .int (J v_q), .int (J v_p), .ref q23_, .ref q23_, .ref (T 183 o)]) rfl rfl hl.1 (Nat.le_of_ble_eq_true rfl) 162 rfl dX9_suit_159 (fun zz30_ v_30 H locs rr30_ hq30_ hw => ?_)
                        obtain ⟨y103_30, ev30_, hh30_⟩ := hq30_
                        rw [ev30_] at hw; clear ev30_
                        refine j_aload_n E 163 rfl dX9_suit_162 rfl (lv_at hl 3 rfl) ?_
                        refine g_187 E hK hw fl_X9_37 u24_ (v_0 187 o) rfl 166 rfl dX9_suit_163 (fun _ => ?_)
                        refine j_aload_n E 167 rfl dX9_suit_166 rfl (lv_at hl 3 rfl) ?_
                        refine j_iload_n E 168 rfl dX9_suit_167 rfl (lv_at hl 4 rfl) ?_
                        refine j_aload E 170 rfl dX9_suit_168 (lv_at hl 2 rfl) ?_
                        refine g_41 E hK hw fl_X9_110 u25_ (v_0 41 xx1_) rfl 173 rfl dX9_suit_170 (fun _ => ?_)
                        refine kV_i E (c_X9_livingKinOf l D cy T23_ (upV (upV (upV (upV (upV (upV (upV (upV v_0 140 (upB (v_0 140) q23_ 0)) 141 (upB (v_0 141) q23_ 0)) 142 (upB (v_0 142) q23_ 0)) 143 (upB (v_0 143) q23_ 0)) 144 (upB (v_0 144) q23_ 0)) 145 (upB (v_0 145) q23_ 0)) 146 (upB (v_0 146) q23_ 0)) 103 y103_30) o v_p (v_0 41 xx1_)  u24_ r_v_p rr16_ ) mt_X9_livingKinOf ml_X9_313 hK hw (cw_rc9 hK hw.1 u24_) hA ⟨Nat.le_of_ble_eq_true rfl, Nat.le_of_ble_eq_true rfl⟩ ⟨Nat.le_of_ble_eq_true rfl, Nat.le_of_ble_eq_true rfl⟩ (As := [.int (J v_p), .int (J (v_0 41 xx1_))]) (rest := [.int (J (v_0 187 o)), .int (J zz30_), .int (J v_l), .int (J v_q), .int (J v_p), .ref q23_, .ref q23_, .ref (T 183 o)]) rfl rfl hl.1 (Nat.le_of_ble_eq_true rfl) 176 rfl dX9_suit_173 (fun zz31_ v_31 H locs rr31_ hq31_ hw => ?_)
                        obtain ⟨ev31_, hh31_⟩ := hq31_
                        rw [ev31_] at hw; clear ev31_
                        have hw0_ := hw
                        refine aI_v E (n_X6_init l D cy κ T23_ (upV (upV (upV (upV (upV (upV (upV (upV v_0 140 (upB (v_0 140) q23_ 0)) 141 (upB (v_0 141) q23_ 0)) 142 (upB (v_0 142) q23_ 0)) 143 (upB (v_0 143) q23_ 0)) 144 (upB (v_0 144) q23_ 0)) 145 (upB (v_0 145) q23_ 0)) 146 (upB (v_0 146) q23_ 0)) 103 y103_30) q23_ v_p v_q v_l zz30_ (v_0 187 o) zz31_ H.size  hO23_ tq23_ r_v_p r_v_q r_v_l rr30_ rr10_ rr31_ ) mi_X6_init ml_X9_316 hK hZ hAc hw hA ⟨(Nat.le_of_ble_eq_true rfl), (Nat.le_of_ble_eq_true rfl)⟩ ⟨(Nat.le_of_ble_eq_true rfl), (Nat.le_of_ble_eq_true rfl)⟩ (As := [.int (J v_p), .int (J v_q), .int (J v_l), .int (J zz30_), .int (J (v_0 187 o)), .int (J zz31_)]) (rest := [.ref q23_, .ref (T 183 o)]) rfl rfl hl.1 (Nat.le_of_ble_eq_true rfl) 179 rfl dX9_suit_176 (fun T32_ v_32 H locs hge32_ ho32_ hq32_ hw => ?_)
                        obtain ⟨y140_32, y141_32, y142_32, y143_32, y144_32, y145_32, y146_32, ev32_, hh32_⟩ := hq32_
                        rw [ev32_] at hw; clear ev32_
                        obtain ⟨hx32_, tq32_⟩ := hh32_
                        have hT32_ : WT T32_ := hw.1.2.1
                        have hO32_ : ∀ x, ow T32_ x → κ 2 2 ≤ x := fun x h => hAc x (hw.2.1 x h)
                        have hoT_ : OW T T32_ s.heap.size := OW.tr hw0_.2.2.1 hoT_ ho32_
                        have u33_ : T32_ 0 o = 9 := (hx32_ o (cw_lt hw0_.1 u24_ (fun _ _ _ => ⟨_, rfl⟩)) (ty_ne u24_ tq23_ (by decide)) 0).trans u24_
                        have u34_ : T32_ 0 xx1_ = 2 := (hx32_ xx1_ (cw_lt hw0_.1 u25_ (fun _ _ _ => ⟨_, rfl⟩)) (ty_ne u25_ tq23_ (by decide)) 0).trans u25_
                        have u35_ : T32_ 0 xx3_ = 2 := (hx32_ xx3_ (cw_lt hw0_.1 u26_ (fun _ _ _ => ⟨_, rfl⟩)) (ty_ne u26_ tq23_ (by decide)) 0).trans u26_
                        have u36_ : T32_ 0 (T 183 o) = 10 := (hx32_ (T 183 o) (cw_lt hw0_.1 u27_ (fun _ _ _ => ⟨_, rfl⟩)) (ty_ne u27_ tq23_ (by decide)) 0).trans u27_
                        have u37_ : T32_ 2 (T 183 o) = 7 := (hx32_ (T 183 o) (cw_lt hw0_.1 u27_ (fun _ _ _ => ⟨_, rfl⟩)) (ty_ne u27_ tq23_ (by decide)) 2).trans u28_
                        have hw0_ := hw
                        refine aV_i E (n_Jx4a65c_add_9ea2d l D cy κ T32_ (upV (upV (upV (upV (upV (upV (upV (upV (upV (upV (upV (upV (upV (upV (upV v_0 140 (upB (v_0 140) q23_ 0)) 141 (upB (v_0 141) q23_ 0)) 142 (upB (v_0 142) q23_ 0)) 143 (upB (v_0 143) q23_ 0)) 144 (upB (v_0 144) q23_ 0)) 145 (upB (v_0 145) q23_ 0)) 146 (upB (v_0 146) q23_ 0)) 103 y103_30) 140 y140_32) 141 y141_32) 142 y142_32) 143 y143_32) 144 y144_32) 145 y145_32) 146 y146_32) (T 183 o) q23_ H.size  hO32_ u36_  (tq32_.trans u37_.symm) (fun x_ h_ => hp0 x_ ((hoT_ x_).2 h_)) (show ((v_0 202) ((T 183 o))) ≤ 200 from by omega)) mt_Jx4a65c_add_9ea2d ml_X9_89 hK hZ hAc hw (cw_rc10 hK hw.1 u36_) hA ⟨(Nat.le_of_ble_eq_true rfl), (Nat.le_of_ble_eq_true rfl)⟩ ⟨(Nat.le_of_ble_eq_true rfl), (Nat.le_of_ble_eq_true rfl)⟩ (As := [.ref q23_]) (rest := []) rfl rfl hl.1 (Nat.le_of_ble_eq_true rfl) 182 rfl dX9_suit_179 (fun zz38_ T38_ v_38 H locs rr38_ hge38_ ho38_ hq38_ hw => ?_)
                        obtain ⟨y200_38, y202_38, ev38_, hh38_⟩ := hq38_
                        rw [ev38_] at hw; clear ev38_
                        obtain ⟨hy38_, hx38_, hz38_, hl38_⟩ := hh38_
                        have hT38_ : WT T38_ := hw.1.2.1
                        have hO38_ : ∀ x, ow T38_ x → κ 2 2 ≤ x := fun x h => hAc x (hw.2.1 x h)
                        have hoT_ : OW T T38_ s.heap.size := OW.tr hw0_.2.2.1 hoT_ ho38_
                        have u39_ : T38_ 0 o = 9 := (hx38_ o (cw_lt hw0_.1 u33_ (fun _ _ _ => ⟨_, rfl⟩)) (ty_ne u33_ u36_ (by decide)) (by rw [u33_]; decide) 0).trans u33_
                        have u40_ : T38_ 0 xx1_ = 2 := (hx38_ xx1_ (cw_lt hw0_.1 u34_ (fun _ _ _ => ⟨_, rfl⟩)) (ty_ne u34_ u36_ (by decide)) (by rw [u34_]; decide) 0).trans u34_
                        have u41_ : T38_ 0 xx3_ = 2 := (hx38_ xx3_ (cw_lt hw0_.1 u35_ (fun _ _ _ => ⟨_, rfl⟩)) (ty_ne u35_ u36_ (by decide)) (by rw [u35_]; decide) 0).trans u35_
                        refine j_pop E 183 rfl dX9_suit_182 rfl ?_
                        refine j_aload_n E 184 rfl dX9_suit_183 rfl (lv_at hl 3 rfl) ?_
                        refine g_183 E hK hw fl_X9_22 u39_ 187 rfl dX9_suit_184 ?_
                        refine kV_i E (c_Jx4a65c_size_8abf5 l D cy T38_ (upV (upV (upV (upV (upV (upV (upV (upV (upV (upV (upV (upV (upV (upV (upV (upV (upV v_0 140 (upB (v_0 140) q23_ 0)) 141 (upB (v_0 141) q23_ 0)) 142 (upB (v_0 142) q23_ 0)) 143 (upB (v_0 143) q23_ 0)) 144 (upB (v_0 144) q23_ 0)) 145 (upB (v_0 145) q23_ 0)) 146 (upB (v_0 146) q23_ 0)) 103 y103_30) 140 y140_32) 141 y141_32) 142 y142_32) 143 y143_32) 144 y144_32) 145 y145_32) 146 y146_32) 200 y200_38) 202 y202_38) (T38_ 183 o)  (wt_183 hT38_ u39_)  ) mt_Jx4a65c_size_8abf5 ml_X9_80 hK hw (cw_rc10 hK hw.1 (wt_183 hT38_ u39_)) hA ⟨Nat.le_of_ble_eq_true rfl, Nat.le_of_ble_eq_true rfl⟩ ⟨Nat.le_of_ble_eq_true rfl, Nat.le_of_ble_eq_true rfl⟩ (As := []) (rest := []) rfl rfl hl.1 (Nat.le_of_ble_eq_true rfl) 190 rfl dX9_suit_187 (fun zz42_ v_42 H locs rr42_ hq42_ hw => ?_)
                        obtain ⟨ev42_, hh42_⟩ := hq42_
                        rw [ev42_] at hw; clear ev42_
                        have hh42_ : zz42_ = (y202_38 ((T38_ 183 o))) ∧ 0 ≤ zz42_ := hh42_
                        refine j_iconst E 191 rfl dX9_suit_190 ?_
                        refine j_isub E 192 rfl dX9_suit_191 ?_
                        refine j_norm (fun zz43_ rr43_ ee43_ => ?_)
                        exact hret 192 zz43_ T38_ _ _ _ ls _ _ hw hoT_ rr43_ (u39_) (Nat.le_of_ble_eq_true rfl) (Nat.le_of_ble_eq_true rfl) dX9_suit_192
                      · refine j_iconst E 139 rfl dX9_suit_138 ?_
                        exact hret 139 ((-1)) T _ _ _ ls _ _ hw hoT_ (rr (by decide)) (t_o) (Nat.le_of_ble_eq_true rfl) (Nat.le_of_ble_eq_true rfl) dX9_suit_139
                    · refine j_iconst E 101 rfl dX9_suit_100 ?_
                      refine j_goto E 105 dX9_suit_101 (by decide) ?_
                      refine j_istore E 107 rfl [(9, .int (J 1)), (8, .ref xx3_), (7, .ref xx1_), (0, .ref o), (1, .int (J v_p)), (2, .int (J v_q)), (3, .int (J v_l)), (4, .int (J v_h)), (5, .int (J v_w)), (6, .int (J v_d))] dX9_suit_105 hl (by decide) rfl (fun ls hl => ?_)
                      refine j_aload_n E 108 rfl dX9_suit_107 rfl (lv_at hl 3 rfl) ?_
                      refine g_193 E hK hw fl_X9_62 t_o 111 rfl dX9_suit_108 ?_
                      refine j_iload E 113 rfl dX9_suit_111 (lv_at hl 7 rfl) ?_
                      refine j_iload E 115 rfl dX9_suit_113 (lv_at hl 8 rfl) ?_
                      refine j_aload_n E 116 rfl dX9_suit_115 rfl (lv_at hl 3 rfl) ?_
                      refine g_187 E hK hw fl_X9_37 t_o (v_0 187 o) rfl 119 rfl dX9_suit_116 (fun _ => ?_)
                      refine j_iload E 121 rfl dX9_suit_119 (lv_at hl 9 rfl) ?_
                      refine j_isub E 122 rfl dX9_suit_121 ?_
                      refine j_norm (fun zz44_ rr44_ ee44_ => ?_)
                      refine j_iload E 124 rfl dX9_suit_122 (lv_at hl 0 rfl) ?_
                      refine j_iload E 126 rfl dX9_suit_124 (lv_at hl 9 rfl) ?_
                      refine j_aload E 128 rfl dX9_suit_126 (lv_at hl 1 rfl) ?_
                      refine g_42 E hK hw fl_X9_113 te3_ (v_0 42 xx3_) rfl 131 rfl dX9_suit_128 (fun _ => ?_)
                      refine j_isub E 132 rfl dX9_suit_131 ?_
                      refine j_norm (fun zz45_ rr45_ ee45_ => ?_)
                      refine kV_i E (c_X4_takeFacts l D cy T (v_0) (T 193 o) v_h v_w zz44_ 1 zz45_  (wt_193 hT t_o) r_v_h r_v_w rr44_ (rr (by decide)) rr45_ ) mt_X4_takeFacts ml_X9_292 hK hw (cw_rc5 hK hw.1 (wt_193 hT t_o)) hA ⟨Nat.le_of_ble_eq_true rfl, Nat.le_of_ble_eq_true rfl⟩ ⟨Nat.le_of_ble_eq_true rfl, Nat.le_of_ble_eq_true rfl⟩ (As := [.int (J v_h), .int (J v_w), .int (J zz44_), .int (J 1), .int (J zz45_)]) (rest := []) rfl rfl hl.1 (Nat.le_of_ble_eq_true rfl) 135 rfl dX9_suit_132 (fun zz46_ v_46 H locs rr46_ hq46_ hw => ?_)
                      obtain ⟨ev46_, hh46_⟩ := hq46_
                      rw [ev46_] at hw; clear ev46_
                      refine j_if_ne E 138 140 rfl rr46_ dX9_suit_135 (by decide) (fun cc47_ => ?_) (fun cc47_ => ?_)
                      · refine j_aload_n E 141 rfl dX9_suit_140 rfl (lv_at hl 3 rfl) ?_
                        refine g_183 E hK hw fl_X9_22 t_o 144 rfl dX9_suit_141 ?_
                        have hw0_ := hw
                        refine n_obj7 E hK hw hA cl_X9_131 (Nat.le_of_ble_eq_true rfl) (Nat.le_of_ble_eq_true rfl) 147 rfl dX9_suit_144 (fun q48_ T48_ H hge48_ hx48_ ho48_ tq48_ hw => ?_)
                        have fq48_ : s.heap.size ≤ q48_ := Nat.le_trans hw0_.2.2.1 hge48_
                        have hw : WK D cy T48_ (upV (upV (upV (upV (upV (upV (upV v_0 140 (upB (v_0 140) q48_ 0)) 141 (upB (v_0 141) q48_ 0)) 142 (upB (v_0 142) q48_ 0)) 143 (upB (v_0 143) q48_ 0)) 144 (upB (v_0 144) q48_ 0)) 145 (upB (v_0 145) q48_ 0)) 146 (upB (v_0 146) q48_ 0)) A0 s.heap H locs := hw
                        have hT48_ : WT T48_ := hw.1.2.1
                        have hO48_ : ∀ x, ow T48_ x → κ 2 2 ≤ x := fun x h => hAc x (hw.2.1 x h)
                        have hoT_ : OW T T48_ s.heap.size := OW.tr hw0_.2.2.1 hoT_ ho48_
                        have u49_ : T48_ 0 o = 9 := (hx48_ o (Nat.ne_of_lt (Nat.lt_of_lt_of_le (cw_lt hw0_.1 t_o (fun _ _ _ => ⟨_, rfl⟩)) hge48_)) 0).trans t_o
                        have u50_ : T48_ 0 xx1_ = 2 := (hx48_ xx1_ (Nat.ne_of_lt (Nat.lt_of_lt_of_le (cw_lt hw0_.1 te1_ (fun _ _ _ => ⟨_, rfl⟩)) hge48_)) 0).trans te1_
                        have u51_ : T48_ 0 xx3_ = 2 := (hx48_ xx3_ (Nat.ne_of_lt (Nat.lt_of_lt_of_le (cw_lt hw0_.1 te3_ (fun _ _ _ => ⟨_, rfl⟩)) hge48_)) 0).trans te3_
                        have u52_ : T48_ 0 (T 183 o) = 10 := (hx48_ (T 183 o) (Nat.ne_of_lt (Nat.lt_of_lt_of_le (cw_lt hw0_.1 (wt_183 hT t_o) (fun _ _ _ => ⟨_, rfl⟩)) hge48_)) 0).trans (wt_183 hT t_o)
                        have u53_ : T48_ 2 (T 183 o) = 7 := (hx48_ (T 183 o) (Nat.ne_of_lt (Nat.lt_of_lt_of_le (cw_lt hw0_.1 (wt_183 hT t_o) (fun _ _ _ => ⟨_, rfl⟩)) hge48_)) 2).trans (we_183 hT t_o)
                        refine j_dup E 148 rfl dX9_suit_147 rfl ?_
                        refine j_iload_n E 149 rfl dX9_suit_148 rfl (lv_at hl 4 rfl) ?_
                        refine j_iload_n E 150 rfl dX9_suit_149 rfl (lv_at hl 5 rfl) ?_
                        refine j_iload_n E 151 rfl dX9_suit_150 rfl (lv_at hl 6 rfl) ?_
                        refine j_aload_n E 152 rfl dX9_suit_151 rfl (lv_at hl 3 rfl) ?_
                        refine j_iload_n E 153 rfl dX9_suit_152 rfl (lv_at hl 6 rfl) ?_
                        refine j_aload_n E 154 rfl dX9_suit_153 rfl (lv_at hl 3 rfl) ?_
                        refine g_187 E hK hw fl_X9_37 u49_ (v_0 187 o) rfl 157 rfl dX9_suit_154 (fun _ => ?_)
                        refine j_iconst E 158 rfl dX9_suit_157 ?_
                        refine j_isub E 159 rfl dX9_suit_158 ?_
                        refine j_norm (fun zz54_ rr54_ ee54_ => ?_)
                        refine kV_i E (c_X9_reckonByLaw l D cy T48_ (upV (upV (upV (upV (upV (upV (upV v_0 140 (upB (v_0 140) q48_ 0)) 141 (upB (v_0 141) q48_ 0)) 142 (upB (v_0 142) q48_ 0)) 143 (upB (v_0 143) q48_ 0)) 144 (upB (v_0 144) q48_ 0)) 145 (upB (v_0 145) q48_ 0)) 146 (upB (v_0 146) q48_ 0)) o v_l zz54_  u49_ r_v_l rr54_ ) mt_X9_reckonByLaw ml_X9_296 hK hw (cw_rc9 hK hw.1 u49_) hA ⟨Nat.le_of_ble_eq_true rfl, Nat.le_of_ble_eq_true rfl⟩ ⟨Nat.le_of_ble_eq_true rfl, Nat.le_of_ble_eq_true rfl⟩ (As := [.int (J v_l), .int (J zz54_)]) (rest := [.int (J v_l), .int (J v_q), .int (J v_p), .ref q48_, .ref q48_, .ref (T 183 o)]) rfl rfl hl.1 (Nat.le_of_ble_eq_true rfl) 162 rfl dX9_suit_159 (fun zz55_ v_55 H locs rr55_ hq55_ hw => ?_)
                        obtain ⟨y103_55, ev55_, hh55_⟩ := hq55_
                        rw [ev55_] at hw; clear ev55_
                        refine j_aload_n E 163 rfl dX9_suit_162 rfl (lv_at hl 3 rfl) ?_
                        refine g_187 E hK hw fl_X9_37 u49_ (v_0 187 o) rfl 166 rfl dX9_suit_163 (fun _ => ?_)
                        refine j_aload_n E 167 rfl dX9_suit_166 rfl (lv_at hl 3 rfl) ?_
                        refine j_iload_n E 168 rfl dX9_suit_167 rfl (lv_at hl 4 rfl) ?_
                        refine j_aload E 170 rfl dX9_suit_168 (lv_at hl 2 rfl) ?_
                        refine g_41 E hK hw fl_X9_110 u50_ (v_0 41 xx1_) rfl 173 rfl dX9_suit_170 (fun _ => ?_)
                        refine kV_i E (c_X9_livingKinOf l D cy T48_ (upV (upV (upV (upV (upV (upV (upV (upV v_0 140 (upB (v_0 140) q48_ 0)) 141 (upB (v_0 141) q48_ 0)) 142 (upB (v_0 142) q48_ 0)) 143 (upB (v_0 143) q48_ 0)) 144 (upB (v_0 144) q48_ 0)) 145 (upB (v_0 145) q48_ 0)) 146 (upB (v_0 146) q48_ 0)) 103 y103_55) o v_p (v_0 41 xx1_)  u49_ r_v_p rr16_ ) mt_X9_livingKinOf ml_X9_313 hK hw (cw_rc9 hK hw.1 u49_) hA ⟨Nat.le_of_ble_eq_true rfl, Nat.le_of_ble_eq_true rfl⟩ ⟨Nat.le_of_ble_eq_true rfl, Nat.le_of_ble_eq_true rfl⟩ (As := [.int (J v_p), .int (J (v_0 41 xx1_))]) (rest := [.int (J (v_0 187 o)), .int (J zz55_), .int (J v_l), .int (J v_q), .int (J v_p), .ref q48_, .ref q48_, .ref (T 183 o)]) rfl rfl hl.1 (Nat.le_of_ble_eq_true rfl) 176 rfl dX9_suit_173 (fun zz56_ v_56 H locs rr56_ hq56_ hw => ?_)
                        obtain ⟨ev56_, hh56_⟩ := hq56_
                        rw [ev56_] at hw; clear ev56_
                        have hw0_ := hw
                        refine aI_v E (n_X6_init l D cy κ T48_ (upV (upV (upV (upV (upV (upV (upV (upV v_0 140 (upB (v_0 140) q48_ 0)) 141 (upB (v_0 141) q48_ 0)) 142 (upB (v_0 142) q48_ 0)) 143 (upB (v_0 143) q48_ 0)) 144 (upB (v_0 144) q48_ 0)) 145 (upB (v_0 145) q48_ 0)) 146 (upB (v_0 146) q48_ 0)) 103 y103_55) q48_ v_p v_q v_l zz55_ (v_0 187 o) zz56_ H.size  hO48_ tq48_ r_v_p r_v_q r_v_l rr55_ rr10_ rr56_ ) mi_X6_init ml_X9_316 hK hZ hAc hw hA ⟨(Nat.le_of_ble_eq_true rfl), (Nat.le_of_ble_eq_true rfl)⟩ ⟨(Nat.le_of_ble_eq_true rfl), (Nat.le_of_ble_eq_true rfl)⟩ (As := [.int (J v_p), .int (J v_q), .int (J v_l), .int (J zz55_), .int (J (v_0 187 o)), .int (J zz56_)]) (rest := [.ref q48_, .ref (T 183 o)]) rfl rfl hl.1 (Nat.le_of_ble_eq_true rfl) 179 rfl dX9_suit_176 (fun T57_ v_57 H locs hge57_ ho57_ hq57_ hw => ?_)
                        obtain ⟨y140_57, y141_57, y142_57, y143_57, y144_57, y145_57, y146_57, ev57_, hh57_⟩ := hq57_
                        rw [ev57_] at hw; clear ev57_
                        obtain ⟨hx57_, tq57_⟩ := hh57_
                        have hT57_ : WT T57_ := hw.1.2.1
                        have hO57_ : ∀ x, ow T57_ x → κ 2 2 ≤ x := fun x h => hAc x (hw.2.1 x h)
                        have hoT_ : OW T T57_ s.heap.size := OW.tr hw0_.2.2.1 hoT_ ho57_
                        have u58_ : T57_ 0 o = 9 := (hx57_ o (cw_lt hw0_.1 u49_ (fun _ _ _ => ⟨_, rfl⟩)) (ty_ne u49_ tq48_ (by decide)) 0).trans u49_
                        have u59_ : T57_ 0 xx1_ = 2 := (hx57_ xx1_ (cw_lt hw0_.1 u50_ (fun _ _ _ => ⟨_, rfl⟩)) (ty_ne u50_ tq48_ (by decide)) 0).trans u50_
                        have u60_ : T57_ 0 xx3_ = 2 := (hx57_ xx3_ (cw_lt hw0_.1 u51_ (fun _ _ _ => ⟨_, rfl⟩)) (ty_ne u51_ tq48_ (by decide)) 0).trans u51_
                        have u61_ : T57_ 0 (T 183 o) = 10 := (hx57_ (T 183 o) (cw_lt hw0_.1 u52_ (fun _ _ _ => ⟨_, rfl⟩)) (ty_ne u52_ tq48_ (by decide)) 0).trans u52_
                        have u62_ : T57_ 2 (T 183 o) = 7 := (hx57_ (T 183 o) (cw_lt hw0_.1 u52_ (fun _ _ _ => ⟨_, rfl⟩)) (ty_ne u52_ tq48_ (by decide)) 2).trans u53_
                        have hw0_ := hw
                        refine aV_i E (n_Jx4a65c_add_9ea2d l D cy κ T57_ (upV (upV (upV (upV (upV (upV (upV (upV (upV (upV (upV (upV (upV (upV (upV v_0 140 (upB (v_0 140) q48_ 0)) 141 (upB (v_0 141) q48_ 0)) 142 (upB (v_0 142) q48_ 0)) 143 (upB (v_0 143) q48_ 0)) 144 (upB (v_0 144) q48_ 0)) 145 (upB (v_0 145) q48_ 0)) 146 (upB (v_0 146) q48_ 0)) 103 y103_55) 140 y140_57) 141 y141_57) 142 y142_57) 143 y143_57) 144 y144_57) 145 y145_57) 146 y146_57) (T 183 o) q48_ H.size  hO57_ u61_  (tq57_.trans u62_.symm) (fun x_ h_ => hp0 x_ ((hoT_ x_).2 h_)) (show ((v_0 202) ((T 183 o))) ≤ 200 from by omega)) mt_Jx4a65c_add_9ea2d ml_X9_89 hK hZ hAc hw (cw_rc10 hK hw.1 u61_) hA ⟨(Nat.le_of_ble_eq_true rfl), (Nat.le_of_ble_eq_true rfl)⟩ ⟨(Nat.le_of_ble_eq_true rfl), (Nat.le_of_ble_eq_true rfl)⟩ (As := [.ref q48_]) (rest := []) rfl rfl hl.1 (Nat.le_of_ble_eq_true rfl) 182 rfl dX9_suit_179 (fun zz63_ T63_ v_63 H locs rr63_ hge63_ ho63_ hq63_ hw => ?_)
                        obtain ⟨y200_63, y202_63, ev63_, hh63_⟩ := hq63_
                        rw [ev63_] at hw; clear ev63_
                        obtain ⟨hy63_, hx63_, hz63_, hl63_⟩ := hh63_
                        have hT63_ : WT T63_ := hw.1.2.1
                        have hO63_ : ∀ x, ow T63_ x → κ 2 2 ≤ x := fun x h => hAc x (hw.2.1 x h)
                        have hoT_ : OW T T63_ s.heap.size := OW.tr hw0_.2.2.1 hoT_ ho63_
                        have u64_ : T63_ 0 o = 9 := (hx63_ o (cw_lt hw0_.1 u58_ (fun _ _ _ => ⟨_, rfl⟩)) (ty_ne u58_ u61_ (by decide)) (by rw [u58_]; decide) 0).trans u58_
                        have u65_ : T63_ 0 xx1_ = 2 := (hx63_ xx1_ (cw_lt hw0_.1 u59_ (fun _ _ _ => ⟨_, rfl⟩)) (ty_ne u59_ u61_ (by decide)) (by rw [u59_]; decide) 0).trans u59_
                        have u66_ : T63_ 0 xx3_ = 2 := (hx63_ xx3_ (cw_lt hw0_.1 u60_ (fun _ _ _ => ⟨_, rfl⟩)) (ty_ne u60_ u61_ (by decide)) (by rw [u60_]; decide) 0).trans u60_
                        refine j_pop E 183 rfl dX9_suit_182 rfl ?_
                        refine j_aload_n E 184 rfl dX9_suit_183 rfl (lv_at hl 3 rfl) ?_
                        refine g_183 E hK hw fl_X9_22 u64_ 187 rfl dX9_suit_184 ?_
                        refine kV_i E (c_Jx4a65c_size_8abf5 l D cy T63_ (upV (upV (upV (upV (upV (upV (upV (upV (upV (upV (upV (upV (upV (upV (upV (upV (upV v_0 140 (upB (v_0 140) q48_ 0)) 141 (upB (v_0 141) q48_ 0)) 142 (upB (v_0 142) q48_ 0)) 143 (upB (v_0 143) q48_ 0)) 144 (upB (v_0 144) q48_ 0)) 145 (upB (v_0 145) q48_ 0)) 146 (upB (v_0 146) q48_ 0)) 103 y103_55) 140 y140_57) 141 y141_57) 142 y142_57) 143 y143_57) 144 y144_57) 145 y145_57) 146 y146_57) 200 y200_63) 202 y202_63) (T63_ 183 o)  (wt_183 hT63_ u64_)  ) mt_Jx4a65c_size_8abf5 ml_X9_80 hK hw (cw_rc10 hK hw.1 (wt_183 hT63_ u64_)) hA ⟨Nat.le_of_ble_eq_true rfl, Nat.le_of_ble_eq_true rfl⟩ ⟨Nat.le_of_ble_eq_true rfl, Nat.le_of_ble_eq_true rfl⟩ (As := []) (rest := []) rfl rfl hl.1 (Nat.le_of_ble_eq_true rfl) 190 rfl dX9_suit_187 (fun zz67_ v_67 H locs rr67_ hq67_ hw => ?_)
                        obtain ⟨ev67_, hh67_⟩ := hq67_
                        rw [ev67_] at hw; clear ev67_
                        have hh67_ : zz67_ = (y202_63 ((T63_ 183 o))) ∧ 0 ≤ zz67_ := hh67_
                        refine j_iconst E 191 rfl dX9_suit_190 ?_
                        refine j_isub E 192 rfl dX9_suit_191 ?_
                        refine j_norm (fun zz68_ rr68_ ee68_ => ?_)
                        exact hret 192 zz68_ T63_ _ _ _ ls _ _ hw hoT_ rr68_ (u64_) (Nat.le_of_ble_eq_true rfl) (Nat.le_of_ble_eq_true rfl) dX9_suit_192
                      · refine j_iconst E 139 rfl dX9_suit_138 ?_
                        exact hret 139 ((-1)) T _ _ _ ls _ _ hw hoT_ (rr (by decide)) (t_o) (Nat.le_of_ble_eq_true rfl) (Nat.le_of_ble_eq_true rfl) dX9_suit_139
                  · refine j_iconst E 86 rfl dX9_suit_85 ?_
                    exact hret 86 ((-1)) T _ _ _ ls _ _ hw hoT_ (rr (by decide)) (t_o) (Nat.le_of_ble_eq_true rfl) (Nat.le_of_ble_eq_true rfl) dX9_suit_86
          · refine j_iconst E 50 rfl dX9_suit_49 ?_
            exact hret 50 ((-1)) T _ _ _ ls _ _ hw hoT_ (rr (by decide)) (t_o) (Nat.le_of_ble_eq_true rfl) (Nat.le_of_ble_eq_true rfl) dX9_suit_50
