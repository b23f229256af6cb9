set_option maxHeartbeats 4000000 in
set_option maxRecDepth 100000 in
theorem c_X9_personsOf (l : Launch) (D : va_G) (cy : Nat → ClassId) (T : Nat → Nat → Nat) (v_0 : Nat → Nat → Int) (o : Nat) (v_q : Int) (t_o : T 0 o = 9) (r_v_q : inR v_q) : KC l D cy T yX9_personsOf cX9_personsOf 4 (some .int) 4 [.ref o, .int (J v_q)] v_0 (KI (fun (z_0 : Int) (v_2 : Nat → Nat → Int) => v_2 = v_0 ∧ (True))) := by
  refine KC.ofi (by decide) (Nat.le_of_ble_eq_true rfl) ?_
  intro p e s m below meth c ls ar QW A0 H0 H locs E hK hA hw hl hret
  have hl : lv_has ls 4 [(0, .ref o), (1, .int (J v_q))] := hl
  have hT : WT T := hw.1.2.1
  refine j_iconst E 1 rfl dX9_personsOf_0 ?_
  refine j_istore_n E 2 rfl [(2, .int (J 0)), (0, .ref o), (1, .int (J v_q))] dX9_personsOf_1 rfl hl (by decide) rfl (fun ls hl => ?_)
  refine j_iconst E 3 rfl dX9_personsOf_2 ?_
  refine j_istore_n E 4 rfl [(3, .int (J 0)), (2, .int (J 0)), (0, .ref o), (1, .int (J v_q))] dX9_personsOf_3 rfl hl (by decide) rfl (fun ls hl => ?_)
  have L4_1 : ∀ (k4 : Nat) (l2_4 l3_4 : Int) (H : Heap) (locs : List Loc) (ls : Array Slot), inR l2_4 → inR l3_4 → (0 ≤ l3_4) → ((v_0 202 (T 180 o)) - l3_4).toNat < k4 → WK D cy T (v_0) A0 H0 H locs → lv_has ls 4 [(0, .ref o), (1, .int (J v_q)), (2, .int (J l2_4)), (3, .int (J l3_4))] → W p l e (rmd 4 0 0) s m ar below meth c H locs 0 0 QW (F0 m 4 ls []) := by
    intro k4
    induction k4 with
    | zero =>
      intro l2_4 l3_4 H locs ls r_l2_4 r_l3_4 iv4 ms4 hw hl
      exact absurd ms4 (Nat.not_lt_zero _)
    | succ k4 ih4 =>
      intro l2_4 l3_4 H locs ls r_l2_4 r_l3_4 iv4 ms4 hw hl
      refine j_iload_n E 5 rfl dX9_personsOf_4 rfl (lv_at hl 3 rfl) ?_
      refine j_aload_n E 6 rfl dX9_personsOf_5 rfl (lv_at hl 0 rfl) ?_
      refine g_180 E hK hw fl_X9_12 t_o 9 rfl dX9_personsOf_6 ?_
      refine kV_i E (c_Jx4a65c_size_8abf5 l D cy T (v_0) (T 180 o)  (wt_180 hT t_o)  ) mt_Jx4a65c_size_8abf5 ml_X9_80 hK hw (cw_rc10 hK hw.1 (wt_180 hT t_o)) hA ⟨Nat.le_of_ble_eq_true rfl, Nat.le_of_ble_eq_true rfl⟩ ⟨Nat.le_of_ble_eq_true rfl, Nat.le_of_ble_eq_true rfl⟩ (As := []) (rest := [.int (J l3_4)]) rfl rfl hl.1 (Nat.le_of_ble_eq_true rfl) 12 rfl dX9_personsOf_9 (fun zz3_ v_3 H locs rr3_ hq3_ hw => ?_)
      obtain ⟨ev3_, hh3_⟩ := hq3_
      rw [ev3_] at hw; clear ev3_
      replace hh3_ : zz3_ = ((v_0 202) ((T 180 o))) ∧ 0 ≤ zz3_ := hh3_
      refine j_icmp_ge E 15 45 rfl r_l3_4 rr3_ dX9_personsOf_12 (by decide) (fun cc4_ => ?_) (fun cc4_ => ?_)
      · refine j_iload_n E 46 rfl dX9_personsOf_45 rfl (lv_at hl 2 rfl) ?_
        exact hret 46 l2_4 (v_0) _ _ ls hw r_l2_4 ⟨rfl, trivial⟩ dX9_personsOf_46
      · refine j_aload_n E 16 rfl dX9_personsOf_15 rfl (lv_at hl 0 rfl) ?_
        refine g_180 E hK hw fl_X9_12 t_o 19 rfl dX9_personsOf_16 ?_
        refine j_iload_n E 20 rfl dX9_personsOf_19 rfl (lv_at hl 3 rfl) ?_
        refine kV_n E (c_Jx4a65c_get_915e3 l D cy T (v_0) (T 180 o) l3_4  (wt_180 hT t_o) r_l3_4 (show 0 ≤ l3_4 ∧ l3_4 < ((v_0 202) ((T 180 o))) from by omega)) mt_Jx4a65c_get_915e3 ml_X9_123 hK hw (cw_rc10 hK hw.1 (wt_180 hT t_o)) hA ⟨Nat.le_of_ble_eq_true rfl, Nat.le_of_ble_eq_true rfl⟩ ⟨Nat.le_of_ble_eq_true rfl, Nat.le_of_ble_eq_true rfl⟩ (As := [.int (J l3_4)]) (rest := []) rfl rfl hl.1 (Nat.le_of_ble_eq_true rfl) 23 rfl dX9_personsOf_20 (fun xx5_ v_5 H locs hq5_ hw => ?_)
        obtain ⟨ev5_, hh5_⟩ := hq5_
        rw [ev5_] at hw; clear ev5_
        replace hh5_ : dcd (T (1000 + (l3_4).toNat) (T 201 (T 180 o))) = some xx5_ ∧ T 0 xx5_ = T 2 (T 180 o) := hh5_
        have te5_ : T 0 xx5_ = 2 := hh5_.2.trans (we_180 hT t_o)
        have tg_ := te5_
        refine k_cast2 E hK hw cl_X9_84 te5_ 26 rfl dX9_personsOf_23 ?_
        refine g_40 E hK hw fl_X9_107 te5_ (v_0 40 xx5_) rfl 29 rfl dX9_personsOf_26 (fun rr6_ => ?_)
        refine j_iload_n E 30 rfl dX9_personsOf_29 rfl (lv_at hl 1 rfl) ?_
        refine j_icmp_ne E 33 39 rfl rr6_ r_v_q dX9_personsOf_30 (by decide) (fun cc7_ => ?_) (fun cc7_ => ?_)
        · refine j_iinc E 42 rfl [(3, .int (J (l3_4 + 1))), (0, .ref o), (1, .int (J v_q)), (2, .int (J l2_4))] dX9_personsOf_39 hl (kk := 3) rfl (by decide) rfl (fun ls hl => ?_)
          refine j_goto E 4 dX9_personsOf_42 (by decide) ?_
          exact ih4 l2_4 (l3_4 + 1)  H locs ls r_l2_4 (rr (by omega)) (by omega) (by omega) hw (lv_sub hl [1, 2, 3, 0] rfl)
        · refine j_iload_n E 34 rfl dX9_personsOf_33 rfl (lv_at hl 2 rfl) ?_
          refine j_iconst E 35 rfl dX9_personsOf_34 ?_
          refine j_iload_n E 36 rfl dX9_personsOf_35 rfl (lv_at hl 3 rfl) ?_
          refine j_ishl E 37 rfl dX9_personsOf_36 (fun zz8_ rr8_ ee8_ => ?_)
          refine j_ior E 38 rfl dX9_personsOf_37 (fun zz9_ rr9_ ee9_ => ?_)
          refine j_istore_n E 39 rfl [(2, .int (J zz9_)), (0, .ref o), (1, .int (J v_q)), (3, .int (J l3_4))] dX9_personsOf_38 rfl hl (by decide) rfl (fun ls hl => ?_)
          refine j_iinc E 42 rfl [(3, .int (J (l3_4 + 1))), (2, .int (J zz9_)), (0, .ref o), (1, .int (J v_q))] dX9_personsOf_39 hl (kk := 3) rfl (by decide) rfl (fun ls hl => ?_)
          refine j_goto E 4 dX9_personsOf_42 (by decide) ?_
          exact ih4 zz9_ (l3_4 + 1)  H locs ls rr9_ (rr (by omega)) (by omega) (by omega) hw (lv_sub hl [2, 3, 1, 0] rfl)
  exact L4_1 _ 0 0  H locs ls (rr (by decide)) (rr (by decide)) (by omega) (Nat.lt_succ_self _) hw (lv_sub hl [2, 3, 1, 0] rfl)
set_option maxHeartbeats 4000000 in
set_option maxRecDepth 100000 in
theorem c_X9_mostOf (l : Launch) (D : va_G) (cy : Nat → ClassId) (T : Nat → Nat → Nat) (v_0 : Nat → Nat → Int) (a_c : Nat) (v_f : Int) (t_c : T 0 a_c = 20) (r_v_f : inR v_f) : KC l D cy T yX9_mostOf cX9_mostOf 5 (some .int) 1 [.ref a_c, .int (J v_f)] v_0 (KI (fun (z_0 : Int) (v_2 : Nat → Nat → Int) => v_2 = v_0 ∧ (True))) := by
  refine KC.ofi (by decide) (Nat.le_of_ble_eq_true rfl) ?_
  intro p e s m below meth c ls ar QW A0 H0 H locs E hK hA hw hl hret
  have hl : lv_has ls 5 [(0, .ref a_c), (1, .int (J v_f))] := hl
  have hT : WT T := hw.1.2.1
  refine j_iconst E 1 rfl dX9_mostOf_0 ?_
  refine j_istore_n E 2 rfl [(2, .int (J ((-1)))), (0, .ref a_c), (1, .int (J v_f))] dX9_mostOf_1 rfl hl (by decide) rfl (fun ls hl => ?_)
  refine j_iconst E 3 rfl dX9_mostOf_2 ?_
  refine j_istore_n E 4 rfl [(3, .int (J 0)), (2, .int (J ((-1)))), (0, .ref a_c), (1, .int (J v_f))] dX9_mostOf_3 rfl hl (by decide) rfl (fun ls hl => ?_)
  refine j_iconst E 5 rfl dX9_mostOf_4 ?_
  refine j_istore E 7 rfl [(4, .int (J 0)), (3, .int (J 0)), (2, .int (J ((-1)))), (0, .ref a_c), (1, .int (J v_f))] dX9_mostOf_5 hl (by decide) rfl (fun ls hl => ?_)
  have L7_1 : ∀ (k7 : Nat) (l2_7 l3_7 l4_7 : Int) (H : Heap) (locs : List Loc) (ls : Array Slot), inR l2_7 → inR l3_7 → inR l4_7 → (0 ≤ l4_7) → ((T 1 a_c : Int) - l4_7).toNat < k7 → WK D cy T (v_0) A0 H0 H locs → lv_has ls 5 [(0, .ref a_c), (1, .int (J v_f)), (2, .int (J l2_7)), (3, .int (J l3_7)), (4, .int (J l4_7))] → W p l e (rmd 1 0 0) s m ar below meth c H locs 0 0 QW (F0 m 7 ls []) := by
    intro k7
    induction k7 with
    | zero =>
      intro l2_7 l3_7 l4_7 H locs ls r_l2_7 r_l3_7 r_l4_7 iv7 ms7 hw hl
      exact absurd ms7 (Nat.not_lt_zero _)
    | succ k7 ih7 =>
      intro l2_7 l3_7 l4_7 H locs ls r_l2_7 r_l3_7 r_l4_7 iv7 ms7 hw hl
      refine j_iload E 9 rfl dX9_mostOf_7 (lv_at hl 4 rfl) ?_
      refine j_aload_n E 10 rfl dX9_mostOf_9 rfl (lv_at hl 0 rfl) ?_
      refine a_ln20 E hK hw t_c 11 rfl dX9_mostOf_10 (fun rr3_ => ?_)
      refine j_icmp_ge E 14 36 rfl r_l4_7 rr3_ dX9_mostOf_11 (by decide) (fun cc4_ => ?_) (fun cc4_ => ?_)
      · refine j_iload_n E 37 rfl dX9_mostOf_36 rfl (lv_at hl 1 rfl) ?_
        refine j_if_lt E 40 61 rfl r_v_f dX9_mostOf_37 (by decide) (fun cc5_ => ?_) (fun cc5_ => ?_)
        · refine j_iconst E 62 rfl dX9_mostOf_61 ?_
          refine j_istore E 64 rfl [(4, .int (J 0)), (0, .ref a_c), (1, .int (J v_f)), (2, .int (J l2_7)), (3, .int (J l3_7))] dX9_mostOf_62 hl (by decide) rfl (fun ls hl => ?_)
          refine j_iload E 66 rfl dX9_mostOf_64 (lv_at hl 0 rfl) ?_
          refine j_if_eq E 69 73 rfl (rr (by decide)) dX9_mostOf_66 (by decide) (fun _ => ?_) (fun cc6_ => absurd cc6_ (by decide))
          refine j_iload_n E 74 rfl dX9_mostOf_73 rfl (lv_at hl 3 rfl) ?_
          exact hret 74 l2_7 (v_0) _ _ ls hw r_l2_7 ⟨rfl, trivial⟩ dX9_mostOf_74
        · refine j_iload_n E 41 rfl dX9_mostOf_40 rfl (lv_at hl 1 rfl) ?_
          refine j_aload_n E 42 rfl dX9_mostOf_41 rfl (lv_at hl 0 rfl) ?_
          refine a_ln20 E hK hw t_c 43 rfl dX9_mostOf_42 (fun _ => ?_)
          refine j_icmp_ge E 46 61 rfl r_v_f rr3_ dX9_mostOf_43 (by decide) (fun cc7_ => ?_) (fun cc7_ => ?_)
          · refine j_iconst E 62 rfl dX9_mostOf_61 ?_
            refine j_istore E 64 rfl [(4, .int (J 0)), (0, .ref a_c), (1, .int (J v_f)), (2, .int (J l2_7)), (3, .int (J l3_7))] dX9_mostOf_62 hl (by decide) rfl (fun ls hl => ?_)
            refine j_iload E 66 rfl dX9_mostOf_64 (lv_at hl 0 rfl) ?_
            refine j_if_eq E 69 73 rfl (rr (by decide)) dX9_mostOf_66 (by decide) (fun _ => ?_) (fun cc8_ => absurd cc8_ (by decide))
            refine j_iload_n E 74 rfl dX9_mostOf_73 rfl (lv_at hl 3 rfl) ?_
            exact hret 74 l2_7 (v_0) _ _ ls hw r_l2_7 ⟨rfl, trivial⟩ dX9_mostOf_74
          · refine j_iload_n E 47 rfl dX9_mostOf_46 rfl (lv_at hl 3 rfl) ?_
            refine j_if_le E 50 61 rfl r_l3_7 dX9_mostOf_47 (by decide) (fun cc9_ => ?_) (fun cc9_ => ?_)
            · refine j_iconst E 62 rfl dX9_mostOf_61 ?_
              refine j_istore E 64 rfl [(4, .int (J 0)), (0, .ref a_c), (1, .int (J v_f)), (2, .int (J l2_7)), (3, .int (J l3_7))] dX9_mostOf_62 hl (by decide) rfl (fun ls hl => ?_)
              refine j_iload E 66 rfl dX9_mostOf_64 (lv_at hl 0 rfl) ?_
              refine j_if_eq E 69 73 rfl (rr (by decide)) dX9_mostOf_66 (by decide) (fun _ => ?_) (fun cc10_ => absurd cc10_ (by decide))
              refine j_iload_n E 74 rfl dX9_mostOf_73 rfl (lv_at hl 3 rfl) ?_
              exact hret 74 l2_7 (v_0) _ _ ls hw r_l2_7 ⟨rfl, trivial⟩ dX9_mostOf_74
            · refine j_aload_n E 51 rfl dX9_mostOf_50 rfl (lv_at hl 0 rfl) ?_
              refine j_iload_n E 52 rfl dX9_mostOf_51 rfl (lv_at hl 1 rfl) ?_
              refine a_ld20 E hK hw t_c (by omega) 53 rfl dX9_mostOf_52 (fun zz11_ he11_ rr11_ => ?_)
              refine j_iload_n E 54 rfl dX9_mostOf_53 rfl (lv_at hl 3 rfl) ?_
              refine j_icmp_ne E 57 61 rfl rr11_ r_l3_7 dX9_mostOf_54 (by decide) (fun cc12_ => ?_) (fun cc12_ => ?_)
              · refine j_iconst E 62 rfl dX9_mostOf_61 ?_
                refine j_istore E 64 rfl [(4, .int (J 0)), (0, .ref a_c), (1, .int (J v_f)), (2, .int (J l2_7)), (3, .int (J l3_7))] dX9_mostOf_62 hl (by decide) rfl (fun ls hl => ?_)
                refine j_iload E 66 rfl dX9_mostOf_64 (lv_at hl 0 rfl) ?_
                refine j_if_eq E 69 73 rfl (rr (by decide)) dX9_mostOf_66 (by decide) (fun _ => ?_) (fun cc13_ => absurd cc13_ (by decide))
                refine j_iload_n E 74 rfl dX9_mostOf_73 rfl (lv_at hl 3 rfl) ?_
                exact hret 74 l2_7 (v_0) _ _ ls hw r_l2_7 ⟨rfl, trivial⟩ dX9_mostOf_74
              · refine j_iconst E 58 rfl dX9_mostOf_57 ?_
                refine j_goto E 62 dX9_mostOf_58 (by decide) ?_
                refine j_istore E 64 rfl [(4, .int (J 1)), (0, .ref a_c), (1, .int (J v_f)), (2, .int (J l2_7)), (3, .int (J l3_7))] dX9_mostOf_62 hl (by decide) rfl (fun ls hl => ?_)
                refine j_iload E 66 rfl dX9_mostOf_64 (lv_at hl 0 rfl) ?_
                refine j_if_eq E 69 73 rfl (rr (by decide)) dX9_mostOf_66 (by decide) (fun cc14_ => absurd cc14_ (by decide)) (fun _ => ?_)
                refine j_iload_n E 70 rfl dX9_mostOf_69 rfl (lv_at hl 2 rfl) ?_
                refine j_goto E 74 dX9_mostOf_70 (by decide) ?_
                exact hret 74 v_f (v_0) _ _ ls hw r_v_f ⟨rfl, trivial⟩ dX9_mostOf_74
      · refine j_aload_n E 15 rfl dX9_mostOf_14 rfl (lv_at hl 0 rfl) ?_
        refine j_iload E 17 rfl dX9_mostOf_15 (lv_at hl 4 rfl) ?_
        refine a_ld20 E hK hw t_c (by omega) 18 rfl dX9_mostOf_17 (fun zz15_ he15_ rr15_ => ?_)
        refine j_iload_n E 19 rfl dX9_mostOf_18 rfl (lv_at hl 3 rfl) ?_
        refine j_icmp_le E 22 30 rfl rr15_ r_l3_7 dX9_mostOf_19 (by decide) (fun cc16_ => ?_) (fun cc16_ => ?_)
        · refine j_iinc E 33 rfl [(4, .int (J (l4_7 + 1))), (0, .ref a_c), (1, .int (J v_f)), (2, .int (J l2_7)), (3, .int (J l3_7))] dX9_mostOf_30 hl (kk := 4) rfl (by decide) rfl (fun ls hl => ?_)
          refine j_goto E 7 dX9_mostOf_33 (by decide) ?_
          exact ih7 l2_7 l3_7 (l4_7 + 1)  H locs ls r_l2_7 r_l3_7 (rr (by omega)) (by omega) (by omega) hw (lv_sub hl [1, 2, 3, 4, 0] rfl)
        · refine j_aload_n E 23 rfl dX9_mostOf_22 rfl (lv_at hl 0 rfl) ?_
          refine j_iload E 25 rfl dX9_mostOf_23 (lv_at hl 4 rfl) ?_
          refine a_ld20 E hK hw t_c (by omega) 26 rfl dX9_mostOf_25 (fun zz17_ he17_ rr17_ => ?_)
          refine j_istore_n E 27 rfl [(3, .int (J zz17_)), (0, .ref a_c), (1, .int (J v_f)), (2, .int (J l2_7)), (4, .int (J l4_7))] dX9_mostOf_26 rfl hl (by decide) rfl (fun ls hl => ?_)
          refine j_iload E 29 rfl dX9_mostOf_27 (lv_at hl 4 rfl) ?_
          refine j_istore_n E 30 rfl [(2, .int (J l4_7)), (3, .int (J zz17_)), (0, .ref a_c), (1, .int (J v_f)), (4, .int (J l4_7))] dX9_mostOf_29 rfl hl (by decide) rfl (fun ls hl => ?_)
          refine j_iinc E 33 rfl [(4, .int (J (l4_7 + 1))), (2, .int (J l4_7)), (3, .int (J zz17_)), (0, .ref a_c), (1, .int (J v_f))] dX9_mostOf_30 hl (kk := 4) rfl (by decide) rfl (fun ls hl => ?_)
          refine j_goto E 7 dX9_mostOf_33 (by decide) ?_
          exact ih7 l4_7 zz17_ (l4_7 + 1)  H locs ls r_l4_7 rr17_ (rr (by omega)) (by omega) (by omega) hw (lv_sub hl [3, 4, 1, 2, 0] rfl)
  exact L7_1 _ ((-1)) 0 0  H locs ls (rr (by decide)) (rr (by decide)) (rr (by decide)) (by omega) (Nat.lt_succ_self _) hw (lv_sub hl [3, 4, 2, 1, 0] rfl)
set_option maxHeartbeats 4000000 in
set_option maxRecDepth 100000 in
theorem c_X9_speakersWording (l : Launch) (D : va_G) (cy : Nat → ClassId) (T : Nat → Nat → Nat) (v_0 : Nat → Nat → Int) (o : Nat) (v_l : Int) (v_p : Int) (t_o : T 0 o = 9) (r_v_l : inR v_l) (r_v_p : inR v_p) : KC l D cy T yX9_speakersWording cX9_speakersWording 5 (some .int) 5 [.ref o, .int (J v_l), .int (J v_p)] v_0 (KI (fun (z_0 : Int) (v_2 : Nat → Nat → Int) => v_2 = v_0 ∧ (True))) := by
  refine KC.ofi (by decide) (Nat.le_of_ble_eq_true rfl) ?_
  intro p e s m below meth c ls ar QW A0 H0 H locs E hK hA hw hl hret
  have hl : lv_has ls 5 [(0, .ref o), (1, .int (J v_l)), (2, .int (J v_p))] := hl
  have hT : WT T := hw.1.2.1
  refine j_aload_n E 1 rfl dX9_speakersWording_0 rfl (lv_at hl 0 rfl) ?_
  refine j_aload_n E 2 rfl dX9_speakersWording_1 rfl (lv_at hl 0 rfl) ?_
  refine g_188 E hK hw fl_X9_40 t_o (v_0 188 o) rfl 5 rfl dX9_speakersWording_2 (fun rr1_ => ?_)
  refine kV_r E (c_X9_personAt l D cy T (v_0) o (v_0 188 o)  t_o rr1_ ) mt_X9_personAt ml_X9_104 hK hw (cw_rc9 hK hw.1 t_o) hA ⟨Nat.le_of_ble_eq_true rfl, Nat.le_of_ble_eq_true rfl⟩ ⟨Nat.le_of_ble_eq_true rfl, Nat.le_of_ble_eq_true rfl⟩ (As := [.int (J (v_0 188 o))]) (rest := []) rfl rfl hl.1 (Nat.le_of_ble_eq_true rfl) 8 rfl dX9_speakersWording_5 (fun oo2_ v_2 H locs hq2_ hw => ?_)
  obtain ⟨ev2_, hh2_⟩ := hq2_
  rw [ev2_] at hw; clear ev2_
  obtain ⟨tt2_, hh2_⟩ := hh2_
  replace hh2_ : (oo2_ = none → ((v_0 188 o) < 0 ∨ ((v_0 202) (T 180 o)) ≤ (v_0 188 o))) ∧ (∀ y_, oo2_ = some y_ → 0 ≤ (v_0 188 o) ∧ (v_0 188 o) < ((v_0 202) (T 180 o)) ∧ T (1000 + ((v_0 188 o)).toNat) (T 201 (T 180 o)) = y_ + 1) := hh2_
  cases oo2_ with
  | none =>
    refine j_astore_nN E 9 rfl [(3, .null), (0, .ref o), (1, .int (J v_l)), (2, .int (J v_p))] dX9_speakersWording_8 rfl hl (by decide) rfl (fun ls hl => ?_)
    refine j_aload_nN E 10 rfl dX9_speakersWording_9 rfl (lv_at hl 0 rfl) ?_
    refine j_ifnullN E 28 dX9_speakersWording_10 (by decide) ?_
    refine j_iconst E 29 rfl dX9_speakersWording_28 ?_
    refine j_istore E 31 rfl [(4, .int (J 0)), (3, .null), (0, .ref o), (1, .int (J v_l)), (2, .int (J v_p))] dX9_speakersWording_29 hl (by decide) rfl (fun ls hl => ?_)
    refine j_iload E 33 rfl dX9_speakersWording_31 (lv_at hl 0 rfl) ?_
    refine j_if_eq E 36 44 rfl (rr (by decide)) dX9_speakersWording_33 (by decide) (fun _ => ?_) (fun cc3_ => absurd cc3_ (by decide))
    refine j_iconst E 45 rfl dX9_speakersWording_44 ?_
    exact hret 45 ((-1)) (v_0) _ _ ls hw (rr (by decide)) ⟨rfl, trivial⟩ dX9_speakersWording_45
  | some xx2_ =>
    have te2_ := tt2_ xx2_ rfl
    have tr_ := te2_
    refine j_astore_n E 9 rfl [(3, .ref xx2_), (0, .ref o), (1, .int (J v_l)), (2, .int (J v_p))] dX9_speakersWording_8 rfl hl (by decide) rfl (fun ls hl => ?_)
    refine j_aload_n E 10 rfl dX9_speakersWording_9 rfl (lv_at hl 0 rfl) ?_
    refine j_ifnullR E 13 rfl dX9_speakersWording_10 ?_
    refine j_iload_n E 14 rfl dX9_speakersWording_13 rfl (lv_at hl 3 rfl) ?_
    refine j_aload_n E 15 rfl dX9_speakersWording_14 rfl (lv_at hl 1 rfl) ?_
    refine g_188 E hK hw fl_X9_40 t_o (v_0 188 o) rfl 18 rfl dX9_speakersWording_15 (fun _ => ?_)
    refine j_iushr E 19 rfl dX9_speakersWording_18 (fun zz4_ rr4_ ee4_ => ?_)
    refine j_iconst E 20 rfl dX9_speakersWording_19 ?_
    refine j_iand E 21 rfl dX9_speakersWording_20 (fun zz5_ rr5_ ee5_ => ?_)
    refine j_if_eq E 24 28 rfl rr5_ dX9_speakersWording_21 (by decide) (fun cc6_ => ?_) (fun cc6_ => ?_)
    · refine j_iconst E 29 rfl dX9_speakersWording_28 ?_
      refine j_istore E 31 rfl [(4, .int (J 0)), (3, .ref xx2_), (0, .ref o), (1, .int (J v_l)), (2, .int (J v_p))] dX9_speakersWording_29 hl (by decide) rfl (fun ls hl => ?_)
      refine j_iload E 33 rfl dX9_speakersWording_31 (lv_at hl 0 rfl) ?_
      refine j_if_eq E 36 44 rfl (rr (by decide)) dX9_speakersWording_33 (by decide) (fun _ => ?_) (fun cc7_ => absurd cc7_ (by decide))
      refine j_iconst E 45 rfl dX9_speakersWording_44 ?_
      exact hret 45 ((-1)) (v_0) _ _ ls hw (rr (by decide)) ⟨rfl, trivial⟩ dX9_speakersWording_45
    · refine j_iconst E 25 rfl dX9_speakersWording_24 ?_
      refine j_goto E 29 dX9_speakersWording_25 (by decide) ?_
      refine j_istore E 31 rfl [(4, .int (J 1)), (3, .ref xx2_), (0, .ref o), (1, .int (J v_l)), (2, .int (J v_p))] dX9_speakersWording_29 hl (by decide) rfl (fun ls hl => ?_)
      refine j_iload E 33 rfl dX9_speakersWording_31 (lv_at hl 0 rfl) ?_
      refine j_if_eq E 36 44 rfl (rr (by decide)) dX9_speakersWording_33 (by decide) (fun cc8_ => absurd cc8_ (by decide)) (fun _ => ?_)
      refine j_aload_n E 37 rfl dX9_speakersWording_36 rfl (lv_at hl 1 rfl) ?_
      refine j_iload_n E 38 rfl dX9_speakersWording_37 rfl (lv_at hl 3 rfl) ?_
      refine kV_i E (c_X1_wordingOf l D cy T (v_0) xx2_ v_l  te2_ r_v_l ) mt_X1_wordingOf ml_X9_185 hK hw (cw_rc2 hK hw.1 te2_) hA ⟨Nat.le_of_ble_eq_true rfl, Nat.le_of_ble_eq_true rfl⟩ ⟨Nat.le_of_ble_eq_true rfl, Nat.le_of_ble_eq_true rfl⟩ (As := [.int (J v_l)]) (rest := []) rfl rfl hl.1 (Nat.le_of_ble_eq_true rfl) 41 rfl dX9_speakersWording_38 (fun zz9_ v_9 H locs rr9_ hq9_ hw => ?_)
      obtain ⟨ev9_, hh9_⟩ := hq9_
      rw [ev9_] at hw; clear ev9_
      refine j_goto E 45 dX9_speakersWording_41 (by decide) ?_
      exact hret 45 zz9_ (v_0) _ _ ls hw rr9_ ⟨rfl, trivial⟩ dX9_speakersWording_45
set_option maxHeartbeats 4000000 in
set_option maxRecDepth 100000 in
theorem c_X9_countHeads (l : Launch) (D : va_G) (cy : Nat → ClassId) (T : Nat → Nat → Nat) (v_0 : Nat → Nat → Int) (o : Nat) (v_l : Int) (v_s : Int) (t_o : T 0 o = 9) (r_v_l : inR v_l) (r_v_s : inR v_s) : KC l D cy T yX9_countHeads cX9_countHeads 5 none 4 [.ref o, .int (J v_l), .int (J v_s)] v_0 (KV (fun (v_2 : Nat → Nat → Int) => ∃ (y300_2 : Nat → Int) , v_2 = upV v_0 300 y300_2 ∧ ((True) ∧ Kd_ T [194] (v_0 300) y300_2))) := by
  refine KC.ofv (by decide) (Nat.le_of_ble_eq_true rfl) ?_
  intro p e s m below meth c ls ar QW A0 H0 H locs E hK hA hw hl hret
  have hl : lv_has ls 5 [(0, .ref o), (1, .int (J v_l)), (2, .int (J v_s))] := hl
  have hT : WT T := hw.1.2.1
  refine j_aload_n E 1 rfl dX9_countHeads_0 rfl (lv_at hl 0 rfl) ?_
  refine g_194 E hK hw fl_X9_66 t_o 4 rfl dX9_countHeads_1 ?_
  have ln1_ := wl_194 hT t_o
  refine j_iconst E 5 rfl dX9_countHeads_4 ?_
  refine kS_v E (c_J7_fill_53178 l D cy T (v_0) (T 194 o) 0   (wt_194 hT t_o) (rr (by decide)) ) ms_J7_fill_53178 ml_X9_274 hK hw hA ⟨Nat.le_of_ble_eq_true rfl, Nat.le_of_ble_eq_true rfl⟩ ⟨Nat.le_of_ble_eq_true rfl, Nat.le_of_ble_eq_true rfl⟩ (As := [.ref (T 194 o), .int (J 0)]) (rest := []) rfl rfl hl.1 (Nat.le_of_ble_eq_true rfl) 8 rfl dX9_countHeads_5 (fun v_2 H locs hq2_ hw => ?_)
  obtain ⟨y300_2, ev2_, hh2_⟩ := hq2_
  rw [ev2_] at hw; clear ev2_
  have hw : WK D cy T (upV v_0 300 y300_2) A0 H0 H locs := cw_eq hw (by first | rfl | (funext j_; simp only [upV, reduceIte]; (repeat' split) <;> first | rfl | omega | (subst_vars; rfl)))
  obtain ⟨hh2_, kf2_⟩ := hh2_
  replace hh2_ : ∀ j_, 0 ≤ j_ → j_ < (T 1 (T 194 o) : Int) → gC_ (y300_2) (T 194 o) j_ = (0 : Int) := hh2_
  refine j_iconst E 9 rfl dX9_countHeads_8 ?_
  refine j_istore_n E 10 rfl [(3, .int (J 0)), (0, .ref o), (1, .int (J v_l)), (2, .int (J v_s))] dX9_countHeads_9 rfl hl (by decide) rfl (fun ls hl => ?_)
  have L10_3 : ∀ (k10 : Nat) (l3_10 : Int) (y300_c10 : Nat → Int) (H : Heap) (locs : List Loc) (ls : Array Slot), inR l3_10 → ((0 ≤ l3_10) ∧ Kd_ T [194] (v_0 300) y300_c10) → ((v_0 202 (T 180 o)) - l3_10).toNat < k10 → WK D cy T (upV v_0 300 y300_c10) A0 H0 H locs → lv_has ls 5 [(0, .ref o), (1, .int (J v_l)), (2, .int (J v_s)), (3, .int (J l3_10))] → W p l e (rmd 4 0 0) s m ar below meth c H locs 0 0 QW (F0 m 10 ls []) := by
    intro k10
    induction k10 with
    | zero =>
      intro l3_10 y300_c10 H locs ls r_l3_10 iv10 ms10 hw hl
      exact absurd ms10 (Nat.not_lt_zero _)
    | succ k10 ih10 =>
      intro l3_10 y300_c10 H locs ls r_l3_10 iv10 ms10 hw hl
      obtain ⟨iv10, ik10_⟩ := iv10
      refine j_iload_n E 11 rfl dX9_countHeads_10 rfl (lv_at hl 3 rfl) ?_
      refine j_aload_n E 12 rfl dX9_countHeads_11 rfl (lv_at hl 0 rfl) ?_
      refine g_180 E hK hw fl_X9_12 t_o 15 rfl dX9_countHeads_12 ?_
      refine kV_i E (c_Jx4a65c_size_8abf5 l D cy T (upV v_0 300 y300_c10) (T 180 o)  (wt_180 hT t_o)  ) mt_Jx4a65c_size_8abf5 ml_X9_80 hK hw (cw_rc10 hK hw.1 (wt_180 hT t_o)) hA ⟨Nat.le_of_ble_eq_true rfl, Nat.le_of_ble_eq_true rfl⟩ ⟨Nat.le_of_ble_eq_true rfl, Nat.le_of_ble_eq_true rfl⟩ (As := []) (rest := [.int (J l3_10)]) rfl rfl hl.1 (Nat.le_of_ble_eq_true rfl) 18 rfl dX9_countHeads_15 (fun zz5_ v_5 H locs rr5_ hq5_ hw => ?_)
      obtain ⟨ev5_, hh5_⟩ := hq5_
      rw [ev5_] at hw; clear ev5_
      replace hh5_ : zz5_ = ((v_0 202) ((T 180 o))) ∧ 0 ≤ zz5_ := hh5_
      refine j_icmp_ge E 21 82 rfl r_l3_10 rr5_ dX9_countHeads_18 (by decide) (fun cc6_ => ?_) (fun cc6_ => ?_)
      · exact hret 82 (upV v_0 300 y300_c10) _ _ ls hw ⟨y300_c10, rfl, ⟨trivial, ik10_⟩⟩ dX9_countHeads_82
      · refine j_iload_n E 22 rfl dX9_countHeads_21 rfl (lv_at hl 2 rfl) ?_
        refine j_iload_n E 23 rfl dX9_countHeads_22 rfl (lv_at hl 3 rfl) ?_
        refine j_iushr E 24 rfl dX9_countHeads_23 (fun zz7_ rr7_ ee7_ => ?_)
        refine j_iconst E 25 rfl dX9_countHeads_24 ?_
        refine j_iand E 26 rfl dX9_countHeads_25 (fun zz8_ rr8_ ee8_ => ?_)
        refine j_if_eq E 29 47 rfl rr8_ dX9_countHeads_26 (by decide) (fun cc9_ => ?_) (fun cc9_ => ?_)
        · refine j_iconst E 48 rfl dX9_countHeads_47 ?_
          refine j_istore E 50 rfl [(4, .int (J ((-1)))), (0, .ref o), (1, .int (J v_l)), (2, .int (J v_s)), (3, .int (J l3_10))] dX9_countHeads_48 hl (by decide) rfl (fun ls hl => ?_)
          refine j_iload E 52 rfl dX9_countHeads_50 (lv_at hl 0 rfl) ?_
          refine j_if_lt E 55 76 rfl (rr (by decide)) dX9_countHeads_52 (by decide) (fun _ => ?_) (fun cc10_ => absurd cc10_ (by decide))
          refine j_iinc E 79 rfl [(3, .int (J (l3_10 + 1))), (4, .int (J ((-1)))), (0, .ref o), (1, .int (J v_l)), (2, .int (J v_s))] dX9_countHeads_76 hl (kk := 4) rfl (by decide) rfl (fun ls hl => ?_)
          refine j_goto E 10 dX9_countHeads_79 (by decide) ?_
          exact ih10 (l3_10 + 1) y300_c10 H locs ls (rr (by omega)) (⟨by first | omega | (simp only [upB_same]; omega), ik10_⟩) (by omega) hw (lv_sub hl [2, 3, 4, 0] rfl)
        · refine j_aload_n E 30 rfl dX9_countHeads_29 rfl (lv_at hl 0 rfl) ?_
          refine g_180 E hK hw fl_X9_12 t_o 33 rfl dX9_countHeads_30 ?_
          refine j_iload_n E 34 rfl dX9_countHeads_33 rfl (lv_at hl 3 rfl) ?_
          refine kV_n E (c_Jx4a65c_get_915e3 l D cy T (upV v_0 300 y300_c10) (T 180 o) l3_10  (wt_180 hT t_o) r_l3_10 (show 0 ≤ l3_10 ∧ l3_10 < ((v_0 202) ((T 180 o))) from by omega)) mt_Jx4a65c_get_915e3 ml_X9_123 hK hw (cw_rc10 hK hw.1 (wt_180 hT t_o)) hA ⟨Nat.le_of_ble_eq_true rfl, Nat.le_of_ble_eq_true rfl⟩ ⟨Nat.le_of_ble_eq_true rfl, Nat.le_of_ble_eq_true rfl⟩ (As := [.int (J l3_10)]) (rest := []) rfl rfl hl.1 (Nat.le_of_ble_eq_true rfl) 37 rfl dX9_countHeads_34 (fun xx11_ v_11 H locs hq11_ hw => ?_)
          obtain ⟨ev11_, hh11_⟩ := hq11_
          rw [ev11_] at hw; clear ev11_
          replace hh11_ : dcd (T (1000 + (l3_10).toNat) (T 201 (T 180 o))) = some xx11_ ∧ T 0 xx11_ = T 2 (T 180 o) := hh11_
          have te11_ : T 0 xx11_ = 2 := hh11_.2.trans (we_180 hT t_o)
          have tg_ := te11_
          refine k_cast2 E hK hw cl_X9_84 te11_ 40 rfl dX9_countHeads_37 ?_
          refine j_iload_n E 41 rfl dX9_countHeads_40 rfl (lv_at hl 1 rfl) ?_
          refine kV_i E (c_X1_wordingOf l D cy T (upV v_0 300 y300_c10) xx11_ v_l  te11_ r_v_l ) mt_X1_wordingOf ml_X9_185 hK hw (cw_rc2 hK hw.1 te11_) hA ⟨Nat.le_of_ble_eq_true rfl, Nat.le_of_ble_eq_true rfl⟩ ⟨Nat.le_of_ble_eq_true rfl, Nat.le_of_ble_eq_true rfl⟩ (As := [.int (J v_l)]) (rest := []) rfl rfl hl.1 (Nat.le_of_ble_eq_true rfl) 44 rfl dX9_countHeads_41 (fun zz12_ v_12 H locs rr12_ hq12_ hw => ?_)
          obtain ⟨ev12_, hh12_⟩ := hq12_
          rw [ev12_] at hw; clear ev12_
          refine j_goto E 48 dX9_countHeads_44 (by decide) ?_
          refine j_istore E 50 rfl [(4, .int (J zz12_)), (0, .ref o), (1, .int (J v_l)), (2, .int (J v_s)), (3, .int (J l3_10))] dX9_countHeads_48 hl (by decide) rfl (fun ls hl => ?_)
          refine j_iload E 52 rfl dX9_countHeads_50 (lv_at hl 0 rfl) ?_
          refine j_if_lt E 55 76 rfl rr12_ dX9_countHeads_52 (by decide) (fun cc13_ => ?_) (fun cc13_ => ?_)
          · refine j_iinc E 79 rfl [(3, .int (J (l3_10 + 1))), (4, .int (J zz12_)), (0, .ref o), (1, .int (J v_l)), (2, .int (J v_s))] dX9_countHeads_76 hl (kk := 4) rfl (by decide) rfl (fun ls hl => ?_)
            refine j_goto E 10 dX9_countHeads_79 (by decide) ?_
            exact ih10 (l3_10 + 1) y300_c10 H locs ls (rr (by omega)) (⟨by first | omega | (simp only [upB_same]; omega), ik10_⟩) (by omega) hw (lv_sub hl [2, 3, 4, 0] rfl)
          · refine j_iload E 57 rfl dX9_countHeads_55 (lv_at hl 0 rfl) ?_
            refine j_aload_n E 58 rfl dX9_countHeads_57 rfl (lv_at hl 1 rfl) ?_
            refine g_194 E hK hw fl_X9_66 t_o 61 rfl dX9_countHeads_58 ?_
            refine a_ln20 E hK hw (wt_194 hT t_o) 62 rfl dX9_countHeads_61 (fun rr14_ => ?_)
            refine j_icmp_ge E 65 76 rfl rr12_ rr14_ dX9_countHeads_62 (by decide) (fun cc15_ => ?_) (fun cc15_ => ?_)
            · refine j_iinc E 79 rfl [(3, .int (J (l3_10 + 1))), (4, .int (J zz12_)), (0, .ref o), (1, .int (J v_l)), (2, .int (J v_s))] dX9_countHeads_76 hl (kk := 4) rfl (by decide) rfl (fun ls hl => ?_)
              refine j_goto E 10 dX9_countHeads_79 (by decide) ?_
              exact ih10 (l3_10 + 1) y300_c10 H locs ls (rr (by omega)) (⟨by first | omega | (simp only [upB_same]; omega), ik10_⟩) (by omega) hw (lv_sub hl [2, 3, 4, 0] rfl)
            · refine j_aload_n E 66 rfl dX9_countHeads_65 rfl (lv_at hl 1 rfl) ?_
              refine g_194 E hK hw fl_X9_66 t_o 69 rfl dX9_countHeads_66 ?_
              refine j_iload E 71 rfl dX9_countHeads_69 (lv_at hl 0 rfl) ?_
              refine j_dup2 E 72 rfl dX9_countHeads_71 rfl rfl ?_
              refine a_ld20 E hK hw (wt_194 hT t_o) (by omega) 73 rfl dX9_countHeads_72 (fun zz16_ he16_ rr16_ => ?_)
              refine j_iconst E 74 rfl dX9_countHeads_73 ?_
              refine j_iadd E 75 rfl dX9_countHeads_74 ?_
              refine j_norm (fun zz17_ rr17_ ee17_ => ?_)
              refine a_st20 E hK hw (wt_194 hT t_o) rr17_ (by omega) 76 rfl dX9_countHeads_75 (fun H locs hw => ?_)
              have hw : WK D cy T (upV v_0 300 (upB y300_c10 ((pr (T 194 o) (Int.toNat zz12_))) zz17_)) A0 H0 H locs := cw_eq hw (by first | rfl | (funext j_; simp only [upV, reduceIte]; (repeat' split) <;> first | rfl | omega | (subst_vars; rfl)))
              refine j_iinc E 79 rfl [(3, .int (J (l3_10 + 1))), (4, .int (J zz12_)), (0, .ref o), (1, .int (J v_l)), (2, .int (J v_s))] dX9_countHeads_76 hl (kk := 4) rfl (by decide) rfl (fun ls hl => ?_)
              refine j_goto E 10 dX9_countHeads_79 (by decide) ?_
              exact ih10 (l3_10 + 1) (upB y300_c10 ((pr (T 194 o) (Int.toNat zz12_))) zz17_) H locs ls (rr (by omega)) (⟨by first | omega | (simp only [upB_same]; omega), (Kd_tr ik10_ (Kd_up (wok (wo_194 hT t_o) (by decide)) (by decide)))⟩) (by omega) hw (lv_sub hl [2, 3, 4, 0] rfl)
  exact L10_3 _ 0 y300_2 H locs ls (rr (by decide)) (⟨by first | omega | (simp only [upB_same]; omega), (Kd_tr Kd_rf (Kd_ro kf2_ (wok (wo_194 hT t_o) (by decide)) (by decide)))⟩) (Nat.lt_succ_self _) hw (lv_sub hl [1, 2, 3, 0] rfl)
set_option maxHeartbeats 4000000 in
set_option maxRecDepth 100000 in
theorem c_X9_standingWording (l : Launch) (D : va_G) (cy : Nat → ClassId) (T : Nat → Nat → Nat) (v_0 : Nat → Nat → Int) (o : Nat) (v_l : Int) (v_p : Int) (t_o : T 0 o = 9) (r_v_l : inR v_l) (r_v_p : inR v_p) : KC l D cy T yX9_standingWording cX9_standingWording 6 (some .int) 6 [.ref o, .int (J v_l), .int (J v_p)] v_0 (KI (fun (z_0 : Int) (v_2 : Nat → Nat → Int) => ∃ (y300_2 : Nat → Int) , v_2 = upV v_0 300 y300_2 ∧ ((True) ∧ Kd_ T [194, 195] (v_0 300) y300_2))) := by
  refine KC.ofi (by decide) (Nat.le_of_ble_eq_true rfl) ?_
  intro p e s m below meth c ls ar QW A0 H0 H locs E hK hA hw hl hret
  have hl : lv_has ls 6 [(0, .ref o), (1, .int (J v_l)), (2, .int (J v_p))] := hl
  have hT : WT T := hw.1.2.1
  refine j_aload_n E 1 rfl dX9_standingWording_0 rfl (lv_at hl 0 rfl) ?_
  refine j_iload_n E 2 rfl dX9_standingWording_1 rfl (lv_at hl 1 rfl) ?_
  refine j_iload_n E 3 rfl dX9_standingWording_2 rfl (lv_at hl 2 rfl) ?_
  refine kV_i E (c_X9_speakersWording l D cy T (v_0) o v_l v_p  t_o r_v_l r_v_p ) mt_X9_speakersWording ml_X9_264 hK hw (cw_rc9 hK hw.1 t_o) hA ⟨Nat.le_of_ble_eq_true rfl, Nat.le_of_ble_eq_true rfl⟩ ⟨Nat.le_of_ble_eq_true rfl, Nat.le_of_ble_eq_true rfl⟩ (As := [.int (J v_l), .int (J v_p)]) (rest := []) rfl rfl hl.1 (Nat.le_of_ble_eq_true rfl) 6 rfl dX9_standingWording_3 (fun zz1_ v_1 H locs rr1_ hq1_ hw => ?_)
  obtain ⟨ev1_, hh1_⟩ := hq1_
  rw [ev1_] at hw; clear ev1_
  refine j_istore_n E 7 rfl [(3, .int (J zz1_)), (0, .ref o), (1, .int (J v_l)), (2, .int (J v_p))] dX9_standingWording_6 rfl hl (by decide) rfl (fun ls hl => ?_)
  refine j_aload_n E 8 rfl dX9_standingWording_7 rfl (lv_at hl 1 rfl) ?_
  refine g_189 E hK hw fl_X9_43 t_o (v_0 189 o) rfl 11 rfl dX9_standingWording_8 (fun rr2_ => ?_)
  refine j_if_ne E 14 21 rfl rr2_ dX9_standingWording_11 (by decide) (fun cc3_ => ?_) (fun cc3_ => ?_)
  · refine j_aload_n E 22 rfl dX9_standingWording_21 rfl (lv_at hl 1 rfl) ?_
    refine g_189 E hK hw fl_X9_43 t_o (v_0 189 o) rfl 25 rfl dX9_standingWording_22 (fun _ => ?_)
    refine j_iconst E 26 rfl dX9_standingWording_25 ?_
    refine j_icmp_eq E 29 44 rfl rr2_ (rr (by decide)) dX9_standingWording_26 (by decide) (fun cc4_ => ?_) (fun cc4_ => ?_)
    · refine j_aload_n E 45 rfl dX9_standingWording_44 rfl (lv_at hl 1 rfl) ?_
      refine g_195 E hK hw fl_X9_70 t_o 48 rfl dX9_standingWording_45 ?_
      have ln5_ := wl_195 hT t_o
      refine j_iconst E 49 rfl dX9_standingWording_48 ?_
      refine kS_v E (c_J7_fill_53178 l D cy T (v_0) (T 195 o) 0   (wt_195 hT t_o) (rr (by decide)) ) ms_J7_fill_53178 ml_X9_274 hK hw hA ⟨Nat.le_of_ble_eq_true rfl, Nat.le_of_ble_eq_true rfl⟩ ⟨Nat.le_of_ble_eq_true rfl, Nat.le_of_ble_eq_true rfl⟩ (As := [.ref (T 195 o), .int (J 0)]) (rest := []) rfl rfl hl.1 (Nat.le_of_ble_eq_true rfl) 52 rfl dX9_standingWording_49 (fun v_6 H locs hq6_ hw => ?_)
      obtain ⟨y300_6, ev6_, hh6_⟩ := hq6_
      rw [ev6_] at hw; clear ev6_
      have hw : WK D cy T (upV v_0 300 y300_6) A0 H0 H locs := cw_eq hw (by first | rfl | (funext j_; simp only [upV, reduceIte]; (repeat' split) <;> first | rfl | omega | (subst_vars; rfl)))
      obtain ⟨hh6_, kf6_⟩ := hh6_
      replace hh6_ : ∀ j_, 0 ≤ j_ → j_ < (T 1 (T 195 o) : Int) → gC_ (y300_6) (T 195 o) j_ = (0 : Int) := hh6_
      refine j_iconst E 53 rfl dX9_standingWording_52 ?_
      refine j_istore E 55 rfl [(4, .int (J 0)), (3, .int (J zz1_)), (0, .ref o), (1, .int (J v_l)), (2, .int (J v_p))] dX9_standingWording_53 hl (by decide) rfl (fun ls hl => ?_)
      have L55_7 : ∀ (k55 : Nat) (l4_55 : Int) (y300_c55 : Nat → Int) (H : Heap) (locs : List Loc) (ls : Array Slot), inR l4_55 → ((0 ≤ l4_55) ∧ Kd_ T [194, 195] (v_0 300) y300_c55) → (4 - l4_55).toNat < k55 → WK D cy T (upV v_0 300 y300_c55) A0 H0 H locs → lv_has ls 6 [(0, .ref o), (1, .int (J v_l)), (2, .int (J v_p)), (3, .int (J zz1_)), (4, .int (J l4_55))] → W p l e (rmd 6 0 0) s m ar below meth c H locs 0 0 QW (F0 m 55 ls []) := by
        intro k55
        induction k55 with
        | zero =>
          intro l4_55 y300_c55 H locs ls r_l4_55 iv55 ms55 hw hl
          exact absurd ms55 (Nat.not_lt_zero _)
        | succ k55 ih55 =>
          intro l4_55 y300_c55 H locs ls r_l4_55 iv55 ms55 hw hl
          obtain ⟨iv55, ik55_⟩ := iv55
          refine j_iload E 57 rfl dX9_standingWording_55 (lv_at hl 4 rfl) ?_
          refine j_iconst E 58 rfl dX9_standingWording_57 ?_
          refine j_icmp_ge E 61 116 rfl r_l4_55 (rr (by decide)) dX9_standingWording_58 (by decide) (fun cc9_ => ?_) (fun cc9_ => ?_)
          · refine j_aload_n E 117 rfl dX9_standingWording_116 rfl (lv_at hl 0 rfl) ?_
            refine g_195 E hK hw fl_X9_70 t_o 120 rfl dX9_standingWording_117 ?_
            refine j_iload_n E 121 rfl dX9_standingWording_120 rfl (lv_at hl 3 rfl) ?_
            refine kS_i E (c_X9_mostOf l D cy T (upV v_0 300 y300_c55) (T 195 o) zz1_   (wt_195 hT t_o) rr1_ ) ms_X9_mostOf ml_X9_270 hK hw hA ⟨Nat.le_of_ble_eq_true rfl, Nat.le_of_ble_eq_true rfl⟩ ⟨Nat.le_of_ble_eq_true rfl, Nat.le_of_ble_eq_true rfl⟩ (As := [.ref (T 195 o), .int (J zz1_)]) (rest := []) rfl rfl hl.1 (Nat.le_of_ble_eq_true rfl) 124 rfl dX9_standingWording_121 (fun zz10_ v_10 H locs rr10_ hq10_ hw => ?_)
            obtain ⟨ev10_, hh10_⟩ := hq10_
            rw [ev10_] at hw; clear ev10_
            exact hret 124 zz10_ (upV v_0 300 y300_c55) _ _ ls hw rr10_ ⟨y300_c55, rfl, ⟨trivial, ik55_⟩⟩ dX9_standingWording_124
          · refine j_aload_n E 62 rfl dX9_standingWording_61 rfl (lv_at hl 0 rfl) ?_
            refine j_iload_n E 63 rfl dX9_standingWording_62 rfl (lv_at hl 1 rfl) ?_
            refine j_iload_n E 64 rfl dX9_standingWording_63 rfl (lv_at hl 2 rfl) ?_
            refine j_aload_n E 65 rfl dX9_standingWording_64 rfl (lv_at hl 0 rfl) ?_
            refine j_iload E 67 rfl dX9_standingWording_65 (lv_at hl 4 rfl) ?_
            refine kV_i E (c_X9_personsOf l D cy T (upV v_0 300 y300_c55) o l4_55  t_o r_l4_55 ) mt_X9_personsOf ml_X9_280 hK hw (cw_rc9 hK hw.1 t_o) hA ⟨Nat.le_of_ble_eq_true rfl, Nat.le_of_ble_eq_true rfl⟩ ⟨Nat.le_of_ble_eq_true rfl, Nat.le_of_ble_eq_true rfl⟩ (As := [.int (J l4_55)]) (rest := [.int (J v_p), .int (J v_l), .ref o]) rfl rfl hl.1 (Nat.le_of_ble_eq_true rfl) 70 rfl dX9_standingWording_67 (fun zz11_ v_11 H locs rr11_ hq11_ hw => ?_)
            obtain ⟨ev11_, hh11_⟩ := hq11_
            rw [ev11_] at hw; clear ev11_
            refine j_iand E 71 rfl dX9_standingWording_70 (fun zz12_ rr12_ ee12_ => ?_)
            refine kV_v E (c_X9_countHeads l D cy T (upV v_0 300 y300_c55) o v_l zz12_  t_o r_v_l rr12_ ) mt_X9_countHeads ml_X9_267 hK hw (cw_rc9 hK hw.1 t_o) hA ⟨Nat.le_of_ble_eq_true rfl, Nat.le_of_ble_eq_true rfl⟩ ⟨Nat.le_of_ble_eq_true rfl, Nat.le_of_ble_eq_true rfl⟩ (As := [.int (J v_l), .int (J zz12_)]) (rest := []) rfl rfl hl.1 (Nat.le_of_ble_eq_true rfl) 74 rfl dX9_standingWording_71 (fun v_13 H locs hq13_ hw => ?_)
            obtain ⟨y300_13, ev13_, hh13_⟩ := hq13_
            rw [ev13_] at hw; clear ev13_
            have hw : WK D cy T (upV v_0 300 y300_13) A0 H0 H locs := cw_eq hw (by first | rfl | (funext j_; simp only [upV, reduceIte]; (repeat' split) <;> first | rfl | omega | (subst_vars; rfl)))
            obtain ⟨hh13_, kf13_⟩ := hh13_
            refine j_aload_n E 75 rfl dX9_standingWording_74 rfl (lv_at hl 0 rfl) ?_
            refine g_194 E hK hw fl_X9_66 t_o 78 rfl dX9_standingWording_75 ?_
            have ln14_ := wl_194 hT t_o
            refine j_iconst E 79 rfl dX9_standingWording_78 ?_
            refine kS_i E (c_X9_mostOf l D cy T (upV v_0 300 y300_13) (T 194 o) ((-1))   (wt_194 hT t_o) (rr (by decide)) ) ms_X9_mostOf ml_X9_270 hK hw hA ⟨Nat.le_of_ble_eq_true rfl, Nat.le_of_ble_eq_true rfl⟩ ⟨Nat.le_of_ble_eq_true rfl, Nat.le_of_ble_eq_true rfl⟩ (As := [.ref (T 194 o), .int (J ((-1)))]) (rest := []) rfl rfl hl.1 (Nat.le_of_ble_eq_true rfl) 82 rfl dX9_standingWording_79 (fun zz15_ v_15 H locs rr15_ hq15_ hw => ?_)
            obtain ⟨ev15_, hh15_⟩ := hq15_
            rw [ev15_] at hw; clear ev15_
            refine j_istore E 84 rfl [(5, .int (J zz15_)), (0, .ref o), (1, .int (J v_l)), (2, .int (J v_p)), (3, .int (J zz1_)), (4, .int (J l4_55))] dX9_standingWording_82 hl (by decide) rfl (fun ls hl => ?_)
            refine j_iload E 86 rfl dX9_standingWording_84 (lv_at hl 0 rfl) ?_
            refine j_if_lt E 89 110 rfl rr15_ dX9_standingWording_86 (by decide) (fun cc16_ => ?_) (fun cc16_ => ?_)
            · refine j_iinc E 113 rfl [(4, .int (J (l4_55 + 1))), (5, .int (J zz15_)), (0, .ref o), (1, .int (J v_l)), (2, .int (J v_p)), (3, .int (J zz1_))] dX9_standingWording_110 hl (kk := 5) rfl (by decide) rfl (fun ls hl => ?_)
              refine j_goto E 55 dX9_standingWording_113 (by decide) ?_
              exact ih55 (l4_55 + 1) y300_13 H locs ls (rr (by omega)) (⟨by first | omega | (simp only [upB_same]; omega), (Kd_tr ik55_ (Kd_mono kf13_ (by decide)))⟩) (by omega) hw (lv_sub hl [2, 3, 4, 5, 0] rfl)
            · refine j_iload E 91 rfl dX9_standingWording_89 (lv_at hl 0 rfl) ?_
              refine j_aload_n E 92 rfl dX9_standingWording_91 rfl (lv_at hl 1 rfl) ?_
              refine g_195 E hK hw fl_X9_70 t_o 95 rfl dX9_standingWording_92 ?_
              refine a_ln20 E hK hw (wt_195 hT t_o) 96 rfl dX9_standingWording_95 (fun rr17_ => ?_)
              refine j_icmp_ge E 99 110 rfl rr15_ rr17_ dX9_standingWording_96 (by decide) (fun cc18_ => ?_) (fun cc18_ => ?_)
              · refine j_iinc E 113 rfl [(4, .int (J (l4_55 + 1))), (5, .int (J zz15_)), (0, .ref o), (1, .int (J v_l)), (2, .int (J v_p)), (3, .int (J zz1_))] dX9_standingWording_110 hl (kk := 5) rfl (by decide) rfl (fun ls hl => ?_)
                refine j_goto E 55 dX9_standingWording_113 (by decide) ?_
                exact ih55 (l4_55 + 1) y300_13 H locs ls (rr (by omega)) (⟨by first | omega | (simp only [upB_same]; omega), (Kd_tr ik55_ (Kd_mono kf13_ (by decide)))⟩) (by omega) hw (lv_sub hl [2, 3, 4, 5, 0] rfl)
              · refine j_aload_n E 100 rfl dX9_standingWording_99 rfl (lv_at hl 1 rfl) ?_
                refine g_195 E hK hw fl_X9_70 t_o 103 rfl dX9_standingWording_100 ?_
                refine j_iload E 105 rfl dX9_standingWording_103 (lv_at hl 0 rfl) ?_
                refine j_dup2 E 106 rfl dX9_standingWording_105 rfl rfl ?_
                refine a_ld20 E hK hw (wt_195 hT t_o) (by omega) 107 rfl dX9_standingWording_106 (fun zz19_ he19_ rr19_ => ?_)
                refine j_iconst E 108 rfl dX9_standingWording_107 ?_
                refine j_iadd E 109 rfl dX9_standingWording_108 ?_
                refine j_norm (fun zz20_ rr20_ ee20_ => ?_)
                refine a_st20 E hK hw (wt_195 hT t_o) rr20_ (by omega) 110 rfl dX9_standingWording_109 (fun H locs hw => ?_)
                have hw : WK D cy T (upV v_0 300 (upB y300_13 ((pr (T 195 o) (Int.toNat zz15_))) zz20_)) A0 H0 H locs := cw_eq hw (by first | rfl | (funext j_; simp only [upV, reduceIte]; (repeat' split) <;> first | rfl | omega | (subst_vars; rfl)))
                refine j_iinc E 113 rfl [(4, .int (J (l4_55 + 1))), (5, .int (J zz15_)), (0, .ref o), (1, .int (J v_l)), (2, .int (J v_p)), (3, .int (J zz1_))] dX9_standingWording_110 hl (kk := 5) rfl (by decide) rfl (fun ls hl => ?_)
                refine j_goto E 55 dX9_standingWording_113 (by decide) ?_
                exact ih55 (l4_55 + 1) (upB y300_13 ((pr (T 195 o) (Int.toNat zz15_))) zz20_) H locs ls (rr (by omega)) (⟨by first | omega | (simp only [upB_same]; omega), (Kd_tr (Kd_tr ik55_ (Kd_mono kf13_ (by decide))) (Kd_up (wok (wo_195 hT t_o) (by decide)) (by decide)))⟩) (by omega) hw (lv_sub hl [2, 3, 4, 5, 0] rfl)
      exact L55_7 _ 0 y300_6 H locs ls (rr (by decide)) (⟨by first | omega | (simp only [upB_same]; omega), (Kd_tr Kd_rf (Kd_ro kf6_ (wok (wo_195 hT t_o) (by decide)) (by decide)))⟩) (Nat.lt_succ_self _) hw (lv_sub hl [2, 3, 4, 1, 0] rfl)
    · refine j_aload_n E 30 rfl dX9_standingWording_29 rfl (lv_at hl 1 rfl) ?_
      refine j_iload_n E 31 rfl dX9_standingWording_30 rfl (lv_at hl 2 rfl) ?_
      refine j_iload_n E 32 rfl dX9_standingWording_31 rfl (lv_at hl 3 rfl) ?_
      refine kV_v E (c_X9_countHeads l D cy T (v_0) o v_l v_p  t_o r_v_l r_v_p ) mt_X9_countHeads ml_X9_267 hK hw (cw_rc9 hK hw.1 t_o) hA ⟨Nat.le_of_ble_eq_true rfl, Nat.le_of_ble_eq_true rfl⟩ ⟨Nat.le_of_ble_eq_true rfl, Nat.le_of_ble_eq_true rfl⟩ (As := [.int (J v_l), .int (J v_p)]) (rest := []) rfl rfl hl.1 (Nat.le_of_ble_eq_true rfl) 35 rfl dX9_standingWording_32 (fun v_22 H locs hq22_ hw => ?_)
      obtain ⟨y300_22, ev22_, hh22_⟩ := hq22_
      rw [ev22_] at hw; clear ev22_
      have hw : WK D cy T (upV v_0 300 y300_22) A0 H0 H locs := cw_eq hw (by first | rfl | (funext j_; simp only [upV, reduceIte]; (repeat' split) <;> first | rfl | omega | (subst_vars; rfl)))
      obtain ⟨hh22_, kf22_⟩ := hh22_
      refine j_aload_n E 36 rfl dX9_standingWording_35 rfl (lv_at hl 1 rfl) ?_
      refine g_194 E hK hw fl_X9_66 t_o 39 rfl dX9_standingWording_36 ?_
      have ln23_ := wl_194 hT t_o
      refine j_iload_n E 40 rfl dX9_standingWording_39 rfl (lv_at hl 0 rfl) ?_
      refine kS_i E (c_X9_mostOf l D cy T (upV v_0 300 y300_22) (T 194 o) zz1_   (wt_194 hT t_o) rr1_ ) ms_X9_mostOf ml_X9_270 hK hw hA ⟨Nat.le_of_ble_eq_true rfl, Nat.le_of_ble_eq_true rfl⟩ ⟨Nat.le_of_ble_eq_true rfl, Nat.le_of_ble_eq_true rfl⟩ (As := [.ref (T 194 o), .int (J zz1_)]) (rest := []) rfl rfl hl.1 (Nat.le_of_ble_eq_true rfl) 43 rfl dX9_standingWording_40 (fun zz24_ v_24 H locs rr24_ hq24_ hw => ?_)
      obtain ⟨ev24_, hh24_⟩ := hq24_
      rw [ev24_] at hw; clear ev24_
      exact hret 43 zz24_ (upV v_0 300 y300_22) _ _ ls hw rr24_ ⟨y300_22, rfl, ⟨trivial, (Kd_tr Kd_rf (Kd_mono kf22_ (by decide)))⟩⟩ dX9_standingWording_43
  · refine j_iload_n E 15 rfl dX9_standingWording_14 rfl (lv_at hl 0 rfl) ?_
    refine j_iconst E 16 rfl dX9_standingWording_15 ?_
    refine j_icmp_eq E 19 21 rfl rr1_ (rr (by decide)) dX9_standingWording_16 (by decide) (fun cc25_ => ?_) (fun cc25_ => ?_)
    · refine j_aload_n E 22 rfl dX9_standingWording_21 rfl (lv_at hl 1 rfl) ?_
      refine g_189 E hK hw fl_X9_43 t_o (v_0 189 o) rfl 25 rfl dX9_standingWording_22 (fun _ => ?_)
      refine j_iconst E 26 rfl dX9_standingWording_25 ?_
      refine j_icmp_eq E 29 44 rfl rr2_ (rr (by decide)) dX9_standingWording_26 (by decide) (fun cc26_ => ?_) (fun cc26_ => ?_)
      · exfalso; omega
      refine j_aload_n E 30 rfl dX9_standingWording_29 rfl (lv_at hl 1 rfl) ?_
      refine j_iload_n E 31 rfl dX9_standingWording_30 rfl (lv_at hl 2 rfl) ?_
      refine j_iload_n E 32 rfl dX9_standingWording_31 rfl (lv_at hl 3 rfl) ?_
      refine kV_v E (c_X9_countHeads l D cy T (v_0) o v_l v_p  t_o r_v_l r_v_p ) mt_X9_countHeads ml_X9_267 hK hw (cw_rc9 hK hw.1 t_o) hA ⟨Nat.le_of_ble_eq_true rfl, Nat.le_of_ble_eq_true rfl⟩ ⟨Nat.le_of_ble_eq_true rfl, Nat.le_of_ble_eq_true rfl⟩ (As := [.int (J v_l), .int (J v_p)]) (rest := []) rfl rfl hl.1 (Nat.le_of_ble_eq_true rfl) 35 rfl dX9_standingWording_32 (fun v_27 H locs hq27_ hw => ?_)
      obtain ⟨y300_27, ev27_, hh27_⟩ := hq27_
      rw [ev27_] at hw; clear ev27_
      have hw : WK D cy T (upV v_0 300 y300_27) A0 H0 H locs := cw_eq hw (by first | rfl | (funext j_; simp only [upV, reduceIte]; (repeat' split) <;> first | rfl | omega | (subst_vars; rfl)))
      obtain ⟨hh27_, kf27_⟩ := hh27_
      refine j_aload_n E 36 rfl dX9_standingWording_35 rfl (lv_at hl 1 rfl) ?_
      refine g_194 E hK hw fl_X9_66 t_o 39 rfl dX9_standingWording_36 ?_
      have ln28_ := wl_194 hT t_o
      refine j_iload_n E 40 rfl dX9_standingWording_39 rfl (lv_at hl 0 rfl) ?_
      refine kS_i E (c_X9_mostOf l D cy T (upV v_0 300 y300_27) (T 194 o) zz1_   (wt_194 hT t_o) rr1_ ) ms_X9_mostOf ml_X9_270 hK hw hA ⟨Nat.le_of_ble_eq_true rfl, Nat.le_of_ble_eq_true rfl⟩ ⟨Nat.le_of_ble_eq_true rfl, Nat.le_of_ble_eq_true rfl⟩ (As := [.ref (T 194 o), .int (J zz1_)]) (rest := []) rfl rfl hl.1 (Nat.le_of_ble_eq_true rfl) 43 rfl dX9_standingWording_40 (fun zz29_ v_29 H locs rr29_ hq29_ hw => ?_)
      obtain ⟨ev29_, hh29_⟩ := hq29_
      rw [ev29_] at hw; clear ev29_
      exact hret 43 zz29_ (upV v_0 300 y300_27) _ _ ls hw rr29_ ⟨y300_27, rfl, ⟨trivial, (Kd_tr Kd_rf (Kd_mono kf27_ (by decide)))⟩⟩ dX9_standingWording_43
    · refine j_iload_n E 20 rfl dX9_standingWording_19 rfl (lv_at hl 0 rfl) ?_
      exact hret 20 zz1_ (upV v_0 300 (v_0 300)) _ _ ls (cw_eq hw (by first | rfl | (funext j_; simp only [upV, reduceIte]; (repeat' split) <;> first | rfl | omega | (subst_vars; rfl)))) rr1_ ⟨(v_0 300), rfl, ⟨trivial, Kd_rf⟩⟩ dX9_standingWording_20
set_option maxHeartbeats 4000000 in
set_option maxRecDepth 100000 in
theorem c_X9_hear (l : Launch) (D : va_G) (cy : Nat → ClassId) (T : Nat → Nat → Nat) (v_0 : Nat → Nat → Int) (o : Nat) (a_q : Nat) (v_l : Int) (v_w : Int) (t_o : T 0 o = 9) (t_q : T 0 a_q = 2) (r_v_l : inR v_l) (r_v_w : inR v_w) : KC l D cy T yX9_hear cX9_hear 5 none 3 [.ref o, .ref a_q, .int (J v_l), .int (J v_w)] v_0 (KV (fun (v_2 : Nat → Nat → Int) => ∃ (y300_2 : Nat → Int) , v_2 = upV v_0 300 y300_2 ∧ ((True) ∧ Kd_ T [46, 47, 48] (v_0 300) y300_2))) := by
  refine KC.ofv (by decide) (Nat.le_of_ble_eq_true rfl) ?_
  intro p e s m below meth c ls ar QW A0 H0 H locs E hK hA hw hl hret
  have hl : lv_has ls 5 [(0, .ref o), (1, .ref a_q), (2, .int (J v_l)), (3, .int (J v_w))] := hl
  have hT : WT T := hw.1.2.1
  refine j_aload_n E 1 rfl dX9_hear_0 rfl (lv_at hl 0 rfl) ?_
  refine g_187 E hK hw fl_X9_37 t_o (v_0 187 o) rfl 4 rfl dX9_hear_1 (fun rr1_ => ?_)
  refine j_aload_n E 5 rfl dX9_hear_4 rfl (lv_at hl 1 rfl) ?_
  refine g_42 E hK hw fl_X9_113 t_q (v_0 42 a_q) rfl 8 rfl dX9_hear_5 (fun rr2_ => ?_)
  refine j_isub E 9 rfl dX9_hear_8 ?_
  refine j_norm (fun zz3_ rr3_ ee3_ => ?_)
  refine j_istore E 11 rfl [(4, .int (J zz3_)), (0, .ref o), (1, .ref a_q), (2, .int (J v_l)), (3, .int (J v_w))] dX9_hear_9 hl (by decide) rfl (fun ls hl => ?_)
  refine j_aload_n E 12 rfl dX9_hear_11 rfl (lv_at hl 2 rfl) ?_
  refine j_iload_n E 13 rfl dX9_hear_12 rfl (lv_at hl 3 rfl) ?_
  refine kV_i E (c_X1_knows l D cy T (v_0) a_q v_l  t_q r_v_l ) mt_X1_knows ml_X9_179 hK hw (cw_rc2 hK hw.1 t_q) hA ⟨Nat.le_of_ble_eq_true rfl, Nat.le_of_ble_eq_true rfl⟩ ⟨Nat.le_of_ble_eq_true rfl, Nat.le_of_ble_eq_true rfl⟩ (As := [.int (J v_l)]) (rest := []) rfl rfl hl.1 (Nat.le_of_ble_eq_true rfl) 16 rfl dX9_hear_13 (fun zz4_ v_4 H locs rr4_ hq4_ hw => ?_)
  obtain ⟨ev4_, hh4_⟩ := hq4_
  rw [ev4_] at hw; clear ev4_
  refine j_if_eq E 19 57 rfl rr4_ dX9_hear_16 (by decide) (fun cc5_ => ?_) (fun cc5_ => ?_)
  · refine j_iload E 59 rfl dX9_hear_57 (lv_at hl 0 rfl) ?_
    refine j_bipush E 61 rfl dX9_hear_59 (by decide) ?_
    refine j_icmp_lt E 64 80 rfl rr3_ (rr (by decide)) dX9_hear_61 (by decide) (fun cc6_ => ?_) (fun cc6_ => ?_)
    · exact hret 80 (upV v_0 300 (v_0 300)) _ _ ls (cw_eq hw (by first | rfl | (funext j_; simp only [upV, reduceIte]; (repeat' split) <;> first | rfl | omega | (subst_vars; rfl)))) ⟨(v_0 300), rfl, ⟨trivial, Kd_rf⟩⟩ dX9_hear_80
    · refine j_iload E 66 rfl dX9_hear_64 (lv_at hl 0 rfl) ?_
      refine j_bipush E 68 rfl dX9_hear_66 (by decide) ?_
      refine j_icmp_gt E 71 80 rfl rr3_ (rr (by decide)) dX9_hear_68 (by decide) (fun cc7_ => ?_) (fun cc7_ => ?_)
      · exact hret 80 (upV v_0 300 (v_0 300)) _ _ ls (cw_eq hw (by first | rfl | (funext j_; simp only [upV, reduceIte]; (repeat' split) <;> first | rfl | omega | (subst_vars; rfl)))) ⟨(v_0 300), rfl, ⟨trivial, Kd_rf⟩⟩ dX9_hear_80
      · refine j_aload_n E 72 rfl dX9_hear_71 rfl (lv_at hl 2 rfl) ?_
        refine j_iload_n E 73 rfl dX9_hear_72 rfl (lv_at hl 3 rfl) ?_
        refine j_iload_n E 74 rfl dX9_hear_73 rfl (lv_at hl 4 rfl) ?_
        refine j_iconst E 75 rfl dX9_hear_74 ?_
        refine j_bipush E 77 rfl dX9_hear_75 (by decide) ?_
        refine kV_v E (c_X1_learn l D cy T (v_0) a_q v_l v_w 3 100  t_q r_v_l r_v_w (rr (by decide)) (rr (by decide)) ) mt_X1_learn ml_X9_175 hK hw (cw_rc2 hK hw.1 t_q) hA ⟨Nat.le_of_ble_eq_true rfl, Nat.le_of_ble_eq_true rfl⟩ ⟨Nat.le_of_ble_eq_true rfl, Nat.le_of_ble_eq_true rfl⟩ (As := [.int (J v_l), .int (J v_w), .int (J 3), .int (J 100)]) (rest := []) rfl rfl hl.1 (Nat.le_of_ble_eq_true rfl) 80 rfl dX9_hear_77 (fun v_8 H locs hq8_ hw => ?_)
        obtain ⟨y300_8, ev8_, hh8_⟩ := hq8_
        rw [ev8_] at hw; clear ev8_
        have hw : WK D cy T (upV v_0 300 y300_8) A0 H0 H locs := cw_eq hw (by first | rfl | (funext j_; simp only [upV, reduceIte]; (repeat' split) <;> first | rfl | omega | (subst_vars; rfl)))
        obtain ⟨hh8_, kf8_⟩ := hh8_
        exact hret 80 (upV v_0 300 y300_8) _ _ ls hw ⟨y300_8, rfl, ⟨trivial, (Kd_tr Kd_rf (Kd_mono kf8_ (by decide)))⟩⟩ dX9_hear_80
  · refine j_aload_n E 20 rfl dX9_hear_19 rfl (lv_at hl 2 rfl) ?_
    refine j_iload_n E 21 rfl dX9_hear_20 rfl (lv_at hl 3 rfl) ?_
    refine kV_v E (c_X1_strengthen l D cy T (v_0) a_q v_l  t_q r_v_l ) mt_X1_strengthen ml_X9_254 hK hw (cw_rc2 hK hw.1 t_q) hA ⟨Nat.le_of_ble_eq_true rfl, Nat.le_of_ble_eq_true rfl⟩ ⟨Nat.le_of_ble_eq_true rfl, Nat.le_of_ble_eq_true rfl⟩ (As := [.int (J v_l)]) (rest := []) rfl rfl hl.1 (Nat.le_of_ble_eq_true rfl) 24 rfl dX9_hear_21 (fun v_9 H locs hq9_ hw => ?_)
    obtain ⟨y300_9, ev9_, hh9_⟩ := hq9_
    rw [ev9_] at hw; clear ev9_
    have hw : WK D cy T (upV v_0 300 y300_9) A0 H0 H locs := cw_eq hw (by first | rfl | (funext j_; simp only [upV, reduceIte]; (repeat' split) <;> first | rfl | omega | (subst_vars; rfl)))
    obtain ⟨hh9_, kf9_⟩ := hh9_
    refine j_aload_n E 25 rfl dX9_hear_24 rfl (lv_at hl 1 rfl) ?_
    refine j_aload_n E 26 rfl dX9_hear_25 rfl (lv_at hl 2 rfl) ?_
    refine kV_i E (c_X9_isHolding l D cy T (upV v_0 300 y300_9) o a_q  t_o t_q ) mt_X9_isHolding ml_X9_257 hK hw (cw_rc9 hK hw.1 t_o) hA ⟨Nat.le_of_ble_eq_true rfl, Nat.le_of_ble_eq_true rfl⟩ ⟨Nat.le_of_ble_eq_true rfl, Nat.le_of_ble_eq_true rfl⟩ (As := [.ref a_q]) (rest := []) rfl rfl hl.1 (Nat.le_of_ble_eq_true rfl) 29 rfl dX9_hear_26 (fun zz10_ v_10 H locs rr10_ hq10_ hw => ?_)
    obtain ⟨ev10_, hh10_⟩ := hq10_
    rw [ev10_] at hw; clear ev10_
    refine j_if_ne E 32 80 rfl rr10_ dX9_hear_29 (by decide) (fun cc11_ => ?_) (fun cc11_ => ?_)
    · exact hret 80 (upV v_0 300 y300_9) _ _ ls hw ⟨y300_9, rfl, ⟨trivial, (Kd_tr Kd_rf (Kd_mono kf9_ (by decide)))⟩⟩ dX9_hear_80
    · refine j_aload_n E 33 rfl dX9_hear_32 rfl (lv_at hl 2 rfl) ?_
      refine j_iload_n E 34 rfl dX9_hear_33 rfl (lv_at hl 3 rfl) ?_
      refine kV_i E (c_X1_wordingOf l D cy T (upV v_0 300 y300_9) a_q v_l  t_q r_v_l ) mt_X1_wordingOf ml_X9_185 hK hw (cw_rc2 hK hw.1 t_q) hA ⟨Nat.le_of_ble_eq_true rfl, Nat.le_of_ble_eq_true rfl⟩ ⟨Nat.le_of_ble_eq_true rfl, Nat.le_of_ble_eq_true rfl⟩ (As := [.int (J v_l)]) (rest := []) rfl rfl hl.1 (Nat.le_of_ble_eq_true rfl) 37 rfl dX9_hear_34 (fun zz12_ v_12 H locs rr12_ hq12_ hw => ?_)
      obtain ⟨ev12_, hh12_⟩ := hq12_
      rw [ev12_] at hw; clear ev12_
      refine j_iload_n E 38 rfl dX9_hear_37 rfl (lv_at hl 4 rfl) ?_
      refine j_icmp_eq E 41 80 rfl rr12_ r_v_w dX9_hear_38 (by decide) (fun cc13_ => ?_) (fun cc13_ => ?_)
      · exact hret 80 (upV v_0 300 y300_9) _ _ ls hw ⟨y300_9, rfl, ⟨trivial, (Kd_tr Kd_rf (Kd_mono kf9_ (by decide)))⟩⟩ dX9_hear_80
      · refine j_aload_n E 42 rfl dX9_hear_41 rfl (lv_at hl 2 rfl) ?_
        refine j_iload_n E 43 rfl dX9_hear_42 rfl (lv_at hl 3 rfl) ?_
        refine j_iload_n E 44 rfl dX9_hear_43 rfl (lv_at hl 4 rfl) ?_
        refine j_aload_n E 45 rfl dX9_hear_44 rfl (lv_at hl 2 rfl) ?_
        refine j_iload_n E 46 rfl dX9_hear_45 rfl (lv_at hl 3 rfl) ?_
        refine kV_i E (c_X1_strengthOf l D cy T (upV v_0 300 y300_9) a_q v_l  t_q r_v_l ) mt_X1_strengthOf ml_X9_189 hK hw (cw_rc2 hK hw.1 t_q) hA ⟨Nat.le_of_ble_eq_true rfl, Nat.le_of_ble_eq_true rfl⟩ ⟨Nat.le_of_ble_eq_true rfl, Nat.le_of_ble_eq_true rfl⟩ (As := [.int (J v_l)]) (rest := [.int (J v_w), .int (J v_l), .ref a_q]) rfl rfl hl.1 (Nat.le_of_ble_eq_true rfl) 49 rfl dX9_hear_46 (fun zz14_ v_14 H locs rr14_ hq14_ hw => ?_)
        obtain ⟨ev14_, hh14_⟩ := hq14_
        rw [ev14_] at hw; clear ev14_
        refine j_bipush E 51 rfl dX9_hear_49 (by decide) ?_
        refine kV_v E (c_X1_learn l D cy T (upV v_0 300 y300_9) a_q v_l v_w zz14_ 100  t_q r_v_l r_v_w rr14_ (rr (by decide)) ) mt_X1_learn ml_X9_175 hK hw (cw_rc2 hK hw.1 t_q) hA ⟨Nat.le_of_ble_eq_true rfl, Nat.le_of_ble_eq_true rfl⟩ ⟨Nat.le_of_ble_eq_true rfl, Nat.le_of_ble_eq_true rfl⟩ (As := [.int (J v_l), .int (J v_w), .int (J zz14_), .int (J 100)]) (rest := []) rfl rfl hl.1 (Nat.le_of_ble_eq_true rfl) 54 rfl dX9_hear_51 (fun v_15 H locs hq15_ hw => ?_)
        obtain ⟨y300_15, ev15_, hh15_⟩ := hq15_
        rw [ev15_] at hw; clear ev15_
        have hw : WK D cy T (upV v_0 300 y300_15) A0 H0 H locs := cw_eq hw (by first | rfl | (funext j_; simp only [upV, reduceIte]; (repeat' split) <;> first | rfl | omega | (subst_vars; rfl)))
        obtain ⟨hh15_, kf15_⟩ := hh15_
        refine j_goto E 80 dX9_hear_54 (by decide) ?_
        exact hret 80 (upV v_0 300 y300_15) _ _ ls hw ⟨y300_15, rfl, ⟨trivial, (Kd_tr (Kd_tr Kd_rf (Kd_mono kf9_ (by decide))) (Kd_mono kf15_ (by decide)))⟩⟩ dX9_hear_80
set_option maxHeartbeats 4000000 in
set_option maxRecDepth 100000 in
theorem c_X9_fade (l : Launch) (D : va_G) (cy : Nat → ClassId) (T : Nat → Nat → Nat) (v_0 : Nat → Nat → Int) (o : Nat) (v_l : Int) (t_o : T 0 o = 9) (r_v_l : inR v_l) : KC l D cy T yX9_fade cX9_fade 4 none 4 [.ref o, .int (J v_l)] v_0 (KV (fun (v_2 : Nat → Nat → Int) => ∃ (y300_2 : Nat → Int) , v_2 = upV v_0 300 y300_2 ∧ ((True) ∧ Kd_ T [46, 47, 48] (v_0 300) y300_2))) := by
  refine KC.ofv (by decide) (Nat.le_of_ble_eq_true rfl) ?_
  intro p e s m below meth c ls ar QW A0 H0 H locs E hK hA hw hl hret
  have hl : lv_has ls 4 [(0, .ref o), (1, .int (J v_l))] := hl
  have hT : WT T := hw.1.2.1
  refine j_iconst E 1 rfl dX9_fade_0 ?_
  refine j_istore_n E 2 rfl [(2, .int (J 0)), (0, .ref o), (1, .int (J v_l))] dX9_fade_1 rfl hl (by decide) rfl (fun ls hl => ?_)
  have L2_1 : ∀ (k2 : Nat) (l2_2 : Int) (y300_c2 : Nat → Int) (H : Heap) (locs : List Loc) (ls : Array Slot), inR l2_2 → ((0 ≤ l2_2) ∧ Kd_ T [46, 47, 48] (v_0 300) y300_c2) → ((v_0 202 (T 180 o)) - l2_2).toNat < k2 → WK D cy T (upV v_0 300 y300_c2) A0 H0 H locs → lv_has ls 4 [(0, .ref o), (1, .int (J v_l)), (2, .int (J l2_2))] → W p l e (rmd 4 0 0) s m ar below meth c H locs 0 0 QW (F0 m 2 ls []) := by
    intro k2
    induction k2 with
    | zero =>
      intro l2_2 y300_c2 H locs ls r_l2_2 iv2 ms2 hw hl
      exact absurd ms2 (Nat.not_lt_zero _)
    | succ k2 ih2 =>
      intro l2_2 y300_c2 H locs ls r_l2_2 iv2 ms2 hw hl
      obtain ⟨iv2, ik2_⟩ := iv2
      refine j_iload_n E 3 rfl dX9_fade_2 rfl (lv_at hl 2 rfl) ?_
      refine j_aload_n E 4 rfl dX9_fade_3 rfl (lv_at hl 0 rfl) ?_
      refine g_180 E hK hw fl_X9_12 t_o 7 rfl dX9_fade_4 ?_
      refine kV_i E (c_Jx4a65c_size_8abf5 l D cy T (upV v_0 300 y300_c2) (T 180 o)  (wt_180 hT t_o)  ) mt_Jx4a65c_size_8abf5 ml_X9_80 hK hw (cw_rc10 hK hw.1 (wt_180 hT t_o)) hA ⟨Nat.le_of_ble_eq_true rfl, Nat.le_of_ble_eq_true rfl⟩ ⟨Nat.le_of_ble_eq_true rfl, Nat.le_of_ble_eq_true rfl⟩ (As := []) (rest := [.int (J l2_2)]) rfl rfl hl.1 (Nat.le_of_ble_eq_true rfl) 10 rfl dX9_fade_7 (fun zz3_ v_3 H locs rr3_ hq3_ hw => ?_)
      obtain ⟨ev3_, hh3_⟩ := hq3_
      rw [ev3_] at hw; clear ev3_
      replace hh3_ : zz3_ = ((v_0 202) ((T 180 o))) ∧ 0 ≤ zz3_ := hh3_
      refine j_icmp_ge E 13 43 rfl r_l2_2 rr3_ dX9_fade_10 (by decide) (fun cc4_ => ?_) (fun cc4_ => ?_)
      · exact hret 43 (upV v_0 300 y300_c2) _ _ ls hw ⟨y300_c2, rfl, ⟨trivial, ik2_⟩⟩ dX9_fade_43
      · refine j_aload_n E 14 rfl dX9_fade_13 rfl (lv_at hl 0 rfl) ?_
        refine g_180 E hK hw fl_X9_12 t_o 17 rfl dX9_fade_14 ?_
        refine j_iload_n E 18 rfl dX9_fade_17 rfl (lv_at hl 2 rfl) ?_
        refine kV_n E (c_Jx4a65c_get_915e3 l D cy T (upV v_0 300 y300_c2) (T 180 o) l2_2  (wt_180 hT t_o) r_l2_2 (show 0 ≤ l2_2 ∧ l2_2 < ((v_0 202) ((T 180 o))) from by omega)) mt_Jx4a65c_get_915e3 ml_X9_123 hK hw (cw_rc10 hK hw.1 (wt_180 hT t_o)) hA ⟨Nat.le_of_ble_eq_true rfl, Nat.le_of_ble_eq_true rfl⟩ ⟨Nat.le_of_ble_eq_true rfl, Nat.le_of_ble_eq_true rfl⟩ (As := [.int (J l2_2)]) (rest := []) rfl rfl hl.1 (Nat.le_of_ble_eq_true rfl) 21 rfl dX9_fade_18 (fun xx5_ v_5 H locs hq5_ hw => ?_)
        obtain ⟨ev5_, hh5_⟩ := hq5_
        rw [ev5_] at hw; clear ev5_
        replace hh5_ : dcd (T (1000 + (l2_2).toNat) (T 201 (T 180 o))) = some xx5_ ∧ T 0 xx5_ = T 2 (T 180 o) := hh5_
        have te5_ : T 0 xx5_ = 2 := hh5_.2.trans (we_180 hT t_o)
        have tg_ := te5_
        refine k_cast2 E hK hw cl_X9_84 te5_ 24 rfl dX9_fade_21 ?_
        refine j_astore_n E 25 rfl [(3, .ref xx5_), (0, .ref o), (1, .int (J v_l)), (2, .int (J l2_2))] dX9_fade_24 rfl hl (by decide) rfl (fun ls hl => ?_)
        refine j_aload_n E 26 rfl dX9_fade_25 rfl (lv_at hl 0 rfl) ?_
        refine kV_i E (c_X1_lives l D cy T (upV v_0 300 y300_c2) xx5_  te5_  ) mt_X1_lives ml_X9_127 hK hw (cw_rc2 hK hw.1 te5_) hA ⟨Nat.le_of_ble_eq_true rfl, Nat.le_of_ble_eq_true rfl⟩ ⟨Nat.le_of_ble_eq_true rfl, Nat.le_of_ble_eq_true rfl⟩ (As := []) (rest := []) rfl rfl hl.1 (Nat.le_of_ble_eq_true rfl) 29 rfl dX9_fade_26 (fun zz6_ v_6 H locs rr6_ hq6_ hw => ?_)
        obtain ⟨ev6_, hh6_⟩ := hq6_
        rw [ev6_] at hw; clear ev6_
        replace hh6_ : (zz6_ = 1 ∧ ((v_0 43) xx5_) = -1) ∨ (zz6_ = 0 ∧ ¬ ((v_0 43) xx5_) = -1) := hh6_
        refine j_if_eq E 32 37 rfl rr6_ dX9_fade_29 (by decide) (fun cc7_ => ?_) (fun cc7_ => ?_)
        · refine j_iinc E 40 rfl [(2, .int (J (l2_2 + 1))), (3, .ref xx5_), (0, .ref o), (1, .int (J v_l))] dX9_fade_37 hl (kk := 3) rfl (by decide) rfl (fun ls hl => ?_)
          refine j_goto E 2 dX9_fade_40 (by decide) ?_
          exact ih2 (l2_2 + 1) y300_c2 H locs ls (rr (by omega)) (⟨by first | omega | (simp only [upB_same]; omega), ik2_⟩) (by omega) hw (lv_sub hl [2, 3, 0] rfl)
        · refine j_aload_n E 33 rfl dX9_fade_32 rfl (lv_at hl 0 rfl) ?_
          refine j_iload_n E 34 rfl dX9_fade_33 rfl (lv_at hl 2 rfl) ?_
          refine kV_v E (c_X1_weaken l D cy T (upV v_0 300 y300_c2) xx5_ v_l  te5_ r_v_l ) mt_X1_weaken ml_X9_261 hK hw (cw_rc2 hK hw.1 te5_) hA ⟨Nat.le_of_ble_eq_true rfl, Nat.le_of_ble_eq_true rfl⟩ ⟨Nat.le_of_ble_eq_true rfl, Nat.le_of_ble_eq_true rfl⟩ (As := [.int (J v_l)]) (rest := []) rfl rfl hl.1 (Nat.le_of_ble_eq_true rfl) 37 rfl dX9_fade_34 (fun v_8 H locs hq8_ hw => ?_)
          obtain ⟨y300_8, ev8_, hh8_⟩ := hq8_
          rw [ev8_] at hw; clear ev8_
          have hw : WK D cy T (upV v_0 300 y300_8) A0 H0 H locs := cw_eq hw (by first | rfl | (funext j_; simp only [upV, reduceIte]; (repeat' split) <;> first | rfl | omega | (subst_vars; rfl)))
          obtain ⟨hh8_, kf8_⟩ := hh8_
          refine j_iinc E 40 rfl [(2, .int (J (l2_2 + 1))), (3, .ref xx5_), (0, .ref o), (1, .int (J v_l))] dX9_fade_37 hl (kk := 3) rfl (by decide) rfl (fun ls hl => ?_)
          refine j_goto E 2 dX9_fade_40 (by decide) ?_
          exact ih2 (l2_2 + 1) y300_8 H locs ls (rr (by omega)) (⟨by first | omega | (simp only [upB_same]; omega), (Kd_tr ik2_ (Kd_mono kf8_ (by decide)))⟩) (by omega) hw (lv_sub hl [2, 3, 0] rfl)
  exact L2_1 _ 0 (v_0 300) H locs ls (rr (by decide)) (⟨by first | omega | (simp only [upB_same]; omega), Kd_rf⟩) (Nat.lt_succ_self _) (cw_eq hw (by first | rfl | (funext j_; simp only [upV, reduceIte]; (repeat' split) <;> first | rfl | omega | (subst_vars; rfl)))) (lv_sub hl [1, 2, 0] rfl)
set_option maxHeartbeats 4000000 in
set_option maxRecDepth 100000 in
theorem c_X9_presentOnes (l : Launch) (D : va_G) (cy : Nat → ClassId) (T : Nat → Nat → Nat) (v_0 : Nat → Nat → Int) (o : Nat) (t_o : T 0 o = 9) : KC l D cy T yX9_presentOnes cX9_presentOnes 4 (some .int) 7 [.ref o] v_0 (KI (fun (z_0 : Int) (v_2 : Nat → Nat → Int) => v_2 = v_0 ∧ (True))) := by
  refine KC.ofi (by decide) (Nat.le_of_ble_eq_true rfl) ?_
  intro p e s m below meth c ls ar QW A0 H0 H locs E hK hA hw hl hret
  have hl : lv_has ls 4 [(0, .ref o)] := hl
  have hT : WT T := hw.1.2.1
  refine j_iconst E 1 rfl dX9_presentOnes_0 ?_
  refine j_istore_n E 2 rfl [(1, .int (J 0)), (0, .ref o)] dX9_presentOnes_1 rfl hl (by decide) rfl (fun ls hl => ?_)
  refine j_iconst E 3 rfl dX9_presentOnes_2 ?_
  refine j_istore_n E 4 rfl [(2, .int (J 0)), (1, .int (J 0)), (0, .ref o)] dX9_presentOnes_3 rfl hl (by decide) rfl (fun ls hl => ?_)
  have L4_1 : ∀ (k4 : Nat) (l1_4 l2_4 : Int) (H : Heap) (locs : List Loc) (ls : Array Slot), inR l1_4 → inR l2_4 → (0 ≤ l2_4) → ((v_0 202 (T 180 o)) - l2_4).toNat < k4 → WK D cy T (v_0) A0 H0 H locs → lv_has ls 4 [(0, .ref o), (1, .int (J l1_4)), (2, .int (J l2_4))] → W p l e (rmd 7 0 0) s m ar below meth c H locs 0 0 QW (F0 m 4 ls []) := by
    intro k4
    induction k4 with
    | zero =>
      intro l1_4 l2_4 H locs ls r_l1_4 r_l2_4 iv4 ms4 hw hl
      exact absurd ms4 (Nat.not_lt_zero _)
    | succ k4 ih4 =>
      intro l1_4 l2_4 H locs ls r_l1_4 r_l2_4 iv4 ms4 hw hl
      refine j_iload_n E 5 rfl dX9_presentOnes_4 rfl (lv_at hl 2 rfl) ?_
      refine j_aload_n E 6 rfl dX9_presentOnes_5 rfl (lv_at hl 0 rfl) ?_
      refine g_180 E hK hw fl_X9_12 t_o 9 rfl dX9_presentOnes_6 ?_
      refine kV_i E (c_Jx4a65c_size_8abf5 l D cy T (v_0) (T 180 o)  (wt_180 hT t_o)  ) mt_Jx4a65c_size_8abf5 ml_X9_80 hK hw (cw_rc10 hK hw.1 (wt_180 hT t_o)) hA ⟨Nat.le_of_ble_eq_true rfl, Nat.le_of_ble_eq_true rfl⟩ ⟨Nat.le_of_ble_eq_true rfl, Nat.le_of_ble_eq_true rfl⟩ (As := []) (rest := [.int (J l2_4)]) rfl rfl hl.1 (Nat.le_of_ble_eq_true rfl) 12 rfl dX9_presentOnes_9 (fun zz3_ v_3 H locs rr3_ hq3_ hw => ?_)
      obtain ⟨ev3_, hh3_⟩ := hq3_
      rw [ev3_] at hw; clear ev3_
      replace hh3_ : zz3_ = ((v_0 202) ((T 180 o))) ∧ 0 ≤ zz3_ := hh3_
      refine j_icmp_ge E 15 61 rfl r_l2_4 rr3_ dX9_presentOnes_12 (by decide) (fun cc4_ => ?_) (fun cc4_ => ?_)
      · refine j_iload_n E 62 rfl dX9_presentOnes_61 rfl (lv_at hl 1 rfl) ?_
        exact hret 62 l1_4 (v_0) _ _ ls hw r_l1_4 ⟨rfl, trivial⟩ dX9_presentOnes_62
      · refine j_aload_n E 16 rfl dX9_presentOnes_15 rfl (lv_at hl 0 rfl) ?_
        refine g_180 E hK hw fl_X9_12 t_o 19 rfl dX9_presentOnes_16 ?_
        refine j_iload_n E 20 rfl dX9_presentOnes_19 rfl (lv_at hl 2 rfl) ?_
        refine kV_n E (c_Jx4a65c_get_915e3 l D cy T (v_0) (T 180 o) l2_4  (wt_180 hT t_o) r_l2_4 (show 0 ≤ l2_4 ∧ l2_4 < ((v_0 202) ((T 180 o))) from by omega)) mt_Jx4a65c_get_915e3 ml_X9_123 hK hw (cw_rc10 hK hw.1 (wt_180 hT t_o)) hA ⟨Nat.le_of_ble_eq_true rfl, Nat.le_of_ble_eq_true rfl⟩ ⟨Nat.le_of_ble_eq_true rfl, Nat.le_of_ble_eq_true rfl⟩ (As := [.int (J l2_4)]) (rest := []) rfl rfl hl.1 (Nat.le_of_ble_eq_true rfl) 23 rfl dX9_presentOnes_20 (fun xx5_ v_5 H locs hq5_ hw => ?_)
        obtain ⟨ev5_, hh5_⟩ := hq5_
        rw [ev5_] at hw; clear ev5_
        replace hh5_ : dcd (T (1000 + (l2_4).toNat) (T 201 (T 180 o))) = some xx5_ ∧ T 0 xx5_ = T 2 (T 180 o) := hh5_
        have te5_ : T 0 xx5_ = 2 := hh5_.2.trans (we_180 hT t_o)
        have tg_ := te5_
        refine k_cast2 E hK hw cl_X9_84 te5_ 26 rfl dX9_presentOnes_23 ?_
        refine j_astore_n E 27 rfl [(3, .ref xx5_), (0, .ref o), (1, .int (J l1_4)), (2, .int (J l2_4))] dX9_presentOnes_26 rfl hl (by decide) rfl (fun ls hl => ?_)
        refine j_aload_n E 28 rfl dX9_presentOnes_27 rfl (lv_at hl 0 rfl) ?_
        refine kV_i E (c_X1_lives l D cy T (v_0) xx5_  te5_  ) mt_X1_lives ml_X9_127 hK hw (cw_rc2 hK hw.1 te5_) hA ⟨Nat.le_of_ble_eq_true rfl, Nat.le_of_ble_eq_true rfl⟩ ⟨Nat.le_of_ble_eq_true rfl, Nat.le_of_ble_eq_true rfl⟩ (As := []) (rest := []) rfl rfl hl.1 (Nat.le_of_ble_eq_true rfl) 31 rfl dX9_presentOnes_28 (fun zz6_ v_6 H locs rr6_ hq6_ hw => ?_)
        obtain ⟨ev6_, hh6_⟩ := hq6_
        rw [ev6_] at hw; clear ev6_
        replace hh6_ : (zz6_ = 1 ∧ ((v_0 43) xx5_) = -1) ∨ (zz6_ = 0 ∧ ¬ ((v_0 43) xx5_) = -1) := hh6_
        refine j_if_eq E 34 55 rfl rr6_ dX9_presentOnes_31 (by decide) (fun cc7_ => ?_) (fun cc7_ => ?_)
        · refine j_iinc E 58 rfl [(2, .int (J (l2_4 + 1))), (3, .ref xx5_), (0, .ref o), (1, .int (J l1_4))] dX9_presentOnes_55 hl (kk := 3) rfl (by decide) rfl (fun ls hl => ?_)
          refine j_goto E 4 dX9_presentOnes_58 (by decide) ?_
          exact ih4 l1_4 (l2_4 + 1)  H locs ls r_l1_4 (rr (by omega)) (by omega) (by omega) hw (lv_sub hl [2, 3, 0] rfl)
        · refine j_aload_n E 35 rfl dX9_presentOnes_34 rfl (lv_at hl 0 rfl) ?_
          refine g_44 E hK hw fl_X9_100 te5_ (v_0 44 xx5_) rfl 38 rfl dX9_presentOnes_35 (fun rr8_ => ?_)
          refine j_if_ne E 41 55 rfl rr8_ dX9_presentOnes_38 (by decide) (fun cc9_ => ?_) (fun cc9_ => ?_)
          · refine j_iinc E 58 rfl [(2, .int (J (l2_4 + 1))), (3, .ref xx5_), (0, .ref o), (1, .int (J l1_4))] dX9_presentOnes_55 hl (kk := 3) rfl (by decide) rfl (fun ls hl => ?_)
            refine j_goto E 4 dX9_presentOnes_58 (by decide) ?_
            exact ih4 l1_4 (l2_4 + 1)  H locs ls r_l1_4 (rr (by omega)) (by omega) (by omega) hw (lv_sub hl [2, 3, 0] rfl)
          · refine j_aload_n E 42 rfl dX9_presentOnes_41 rfl (lv_at hl 1 rfl) ?_
            refine j_iload_n E 43 rfl dX9_presentOnes_42 rfl (lv_at hl 3 rfl) ?_
            refine kV_i E (c_X9_isOutlaw l D cy T (v_0) o l2_4  t_o r_l2_4 ) mt_X9_isOutlaw ml_X9_116 hK hw (cw_rc9 hK hw.1 t_o) hA ⟨Nat.le_of_ble_eq_true rfl, Nat.le_of_ble_eq_true rfl⟩ ⟨Nat.le_of_ble_eq_true rfl, Nat.le_of_ble_eq_true rfl⟩ (As := [.int (J l2_4)]) (rest := []) rfl rfl hl.1 (Nat.le_of_ble_eq_true rfl) 46 rfl dX9_presentOnes_43 (fun zz10_ v_10 H locs rr10_ hq10_ hw => ?_)
            obtain ⟨ev10_, hh10_⟩ := hq10_
            rw [ev10_] at hw; clear ev10_
            refine j_if_ne E 49 55 rfl rr10_ dX9_presentOnes_46 (by decide) (fun cc11_ => ?_) (fun cc11_ => ?_)
            · refine j_iinc E 58 rfl [(2, .int (J (l2_4 + 1))), (3, .ref xx5_), (0, .ref o), (1, .int (J l1_4))] dX9_presentOnes_55 hl (kk := 3) rfl (by decide) rfl (fun ls hl => ?_)
              refine j_goto E 4 dX9_presentOnes_58 (by decide) ?_
              exact ih4 l1_4 (l2_4 + 1)  H locs ls r_l1_4 (rr (by omega)) (by omega) (by omega) hw (lv_sub hl [2, 3, 0] rfl)
            · refine j_iload_n E 50 rfl dX9_presentOnes_49 rfl (lv_at hl 2 rfl) ?_
              refine j_iconst E 51 rfl dX9_presentOnes_50 ?_
              refine j_iload_n E 52 rfl dX9_presentOnes_51 rfl (lv_at hl 3 rfl) ?_
              refine j_ishl E 53 rfl dX9_presentOnes_52 (fun zz12_ rr12_ ee12_ => ?_)
              refine j_ior E 54 rfl dX9_presentOnes_53 (fun zz13_ rr13_ ee13_ => ?_)
              refine j_istore_n E 55 rfl [(1, .int (J zz13_)), (3, .ref xx5_), (0, .ref o), (2, .int (J l2_4))] dX9_presentOnes_54 rfl hl (by decide) rfl (fun ls hl => ?_)
              refine j_iinc E 58 rfl [(2, .int (J (l2_4 + 1))), (1, .int (J zz13_)), (3, .ref xx5_), (0, .ref o)] dX9_presentOnes_55 hl (kk := 3) rfl (by decide) rfl (fun ls hl => ?_)
              refine j_goto E 4 dX9_presentOnes_58 (by decide) ?_
              exact ih4 zz13_ (l2_4 + 1)  H locs ls rr13_ (rr (by omega)) (by omega) (by omega) hw (lv_sub hl [3, 1, 0] rfl)
  exact L4_1 _ 0 0  H locs ls (rr (by decide)) (rr (by decide)) (by omega) (Nat.lt_succ_self _) hw (lv_sub hl [2, 1, 0] rfl)
set_option maxHeartbeats 4000000 in
set_option maxRecDepth 100000 in
theorem c_X9_callLine (l : Launch) (D : va_G) (cy : Nat → ClassId) (T : Nat → Nat → Nat) (v_0 : Nat → Nat → Int) (o : Nat) (v_l : Int) (a_n : Nat) (v_p : Int) (t_o : T 0 o = 9) (r_v_l : inR v_l) (t_n : T 0 a_n = 1) (r_v_p : inR v_p) : KC l D cy T yX9_callLine cX9_callLine 6 (some .boolean) 7 [.ref o, .int (J v_l), .ref a_n, .int (J v_p)] v_0 (KI (fun (z_0 : Int) (v_2 : Nat → Nat → Int) => ∃ (y22_2 : Nat → Int) (y23_2 : Nat → Int) (y24_2 : Nat → Int) (y300_2 : Nat → Int) (y302_2 : Nat → Int) , v_2 = upV (upV (upV (upV (upV v_0 22 y22_2) 23 y23_2) 24 y24_2) 300 y300_2) 302 y302_2 ∧ ((True) ∧ Kd_ T [46, 47, 48, 194, 195] (v_0 300) y300_2))) := by
  refine KC.ofz (by decide) (Nat.le_of_ble_eq_true rfl) ?_
  intro p e s m below meth c ls ar QW A0 H0 H locs E hK hA hw hl hret
  have hl : lv_has ls 6 [(0, .ref o), (1, .int (J v_l)), (2, .ref a_n), (3, .int (J v_p))] := hl
  have hT : WT T := hw.1.2.1
  refine j_aload_n E 1 rfl dX9_callLine_0 rfl (lv_at hl 0 rfl) ?_
  refine j_iload_n E 2 rfl dX9_callLine_1 rfl (lv_at hl 1 rfl) ?_
  refine j_iload_n E 3 rfl dX9_callLine_2 rfl (lv_at hl 3 rfl) ?_
  refine kV_i E (c_X9_standingWording l D cy T (v_0) o v_l v_p  t_o r_v_l r_v_p ) mt_X9_standingWording ml_X9_239 hK hw (cw_rc9 hK hw.1 t_o) hA ⟨Nat.le_of_ble_eq_true rfl, Nat.le_of_ble_eq_true rfl⟩ ⟨Nat.le_of_ble_eq_true rfl, Nat.le_of_ble_eq_true rfl⟩ (As := [.int (J v_l), .int (J v_p)]) (rest := []) rfl rfl hl.1 (Nat.le_of_ble_eq_true rfl) 6 rfl dX9_callLine_3 (fun zz1_ v_1 H locs rr1_ hq1_ hw => ?_)
  obtain ⟨y300_1, ev1_, hh1_⟩ := hq1_
  rw [ev1_] at hw; clear ev1_
  have hw : WK D cy T (upV v_0 300 y300_1) A0 H0 H locs := cw_eq hw (by first | rfl | (funext j_; simp only [upV, reduceIte]; (repeat' split) <;> first | rfl | omega | (subst_vars; rfl)))
  obtain ⟨hh1_, kf1_⟩ := hh1_
  refine j_istore E 8 rfl [(4, .int (J zz1_)), (0, .ref o), (1, .int (J v_l)), (2, .ref a_n), (3, .int (J v_p))] dX9_callLine_6 hl (by decide) rfl (fun ls hl => ?_)
  refine j_iload E 10 rfl dX9_callLine_8 (lv_at hl 0 rfl) ?_
  refine j_iconst E 11 rfl dX9_callLine_10 ?_
  refine j_icmp_ne E 14 24 rfl rr1_ (rr (by decide)) dX9_callLine_11 (by decide) (fun cc2_ => ?_) (fun cc2_ => ?_)
  · refine j_aload_n E 25 rfl dX9_callLine_24 rfl (lv_at hl 3 rfl) ?_
    refine j_aload_n E 26 rfl dX9_callLine_25 rfl (lv_at hl 1 rfl) ?_
    refine g_187 E hK hw fl_X9_37 t_o (v_0 187 o) rfl 29 rfl dX9_callLine_26 (fun rr3_ => ?_)
    refine j_iload E 31 rfl dX9_callLine_29 (lv_at hl 0 rfl) ?_
    refine kV_v E (c_X0_sayAloud l D cy T (upV v_0 300 y300_1) a_n (v_0 187 o) zz1_  t_n rr3_ rr1_ ) mt_X0_sayAloud ml_X9_246 hK hw (cw_rc1 hK hw.1 t_n) hA ⟨Nat.le_of_ble_eq_true rfl, Nat.le_of_ble_eq_true rfl⟩ ⟨Nat.le_of_ble_eq_true rfl, Nat.le_of_ble_eq_true rfl⟩ (As := [.int (J (v_0 187 o)), .int (J zz1_)]) (rest := []) rfl rfl hl.1 (Nat.le_of_ble_eq_true rfl) 34 rfl dX9_callLine_31 (fun v_4 H locs hq4_ hw => ?_)
    obtain ⟨y22_4, y24_4, y302_4, ev4_, hh4_⟩ := hq4_
    rw [ev4_] at hw; clear ev4_
    have hw : WK D cy T (upV (upV (upV (upV v_0 22 y22_4) 24 y24_4) 300 y300_1) 302 y302_4) A0 H0 H locs := cw_eq hw (by first | rfl | (funext j_; simp only [upV, reduceIte]; (repeat' split) <;> first | rfl | omega | (subst_vars; rfl)))
    refine j_iconst E 35 rfl dX9_callLine_34 ?_
    refine j_istore E 37 rfl [(5, .int (J 0)), (4, .int (J zz1_)), (0, .ref o), (1, .int (J v_l)), (2, .ref a_n), (3, .int (J v_p))] dX9_callLine_35 hl (by decide) rfl (fun ls hl => ?_)
    have L37_5 : ∀ (k37 : Nat) (l5_37 : Int) (y300_c37 : Nat → Int) (H : Heap) (locs : List Loc) (ls : Array Slot), inR l5_37 → ((0 ≤ l5_37) ∧ Kd_ T [46, 47, 48, 194, 195] (v_0 300) y300_c37) → ((v_0 202 (T 180 o)) - l5_37).toNat < k37 → WK D cy T (upV (upV (upV (upV v_0 22 y22_4) 24 y24_4) 300 y300_c37) 302 y302_4) A0 H0 H locs → lv_has ls 6 [(0, .ref o), (1, .int (J v_l)), (2, .ref a_n), (3, .int (J v_p)), (4, .int (J zz1_)), (5, .int (J l5_37))] → W p l e (rmd 7 0 0) s m ar below meth c H locs 0 0 QW (F0 m 37 ls []) := by
      intro k37
      induction k37 with
      | zero =>
        intro l5_37 y300_c37 H locs ls r_l5_37 iv37 ms37 hw hl
        exact absurd ms37 (Nat.not_lt_zero _)
      | succ k37 ih37 =>
        intro l5_37 y300_c37 H locs ls r_l5_37 iv37 ms37 hw hl
        obtain ⟨iv37, ik37_⟩ := iv37
        refine j_iload E 39 rfl dX9_callLine_37 (lv_at hl 5 rfl) ?_
        refine j_aload_n E 40 rfl dX9_callLine_39 rfl (lv_at hl 0 rfl) ?_
        refine g_180 E hK hw fl_X9_12 t_o 43 rfl dX9_callLine_40 ?_
        refine kV_i E (c_Jx4a65c_size_8abf5 l D cy T (upV (upV (upV (upV v_0 22 y22_4) 24 y24_4) 300 y300_c37) 302 y302_4) (T 180 o)  (wt_180 hT t_o)  ) mt_Jx4a65c_size_8abf5 ml_X9_80 hK hw (cw_rc10 hK hw.1 (wt_180 hT t_o)) hA ⟨Nat.le_of_ble_eq_true rfl, Nat.le_of_ble_eq_true rfl⟩ ⟨Nat.le_of_ble_eq_true rfl, Nat.le_of_ble_eq_true rfl⟩ (As := []) (rest := [.int (J l5_37)]) rfl rfl hl.1 (Nat.le_of_ble_eq_true rfl) 46 rfl dX9_callLine_43 (fun zz7_ v_7 H locs rr7_ hq7_ hw => ?_)
        obtain ⟨ev7_, hh7_⟩ := hq7_
        rw [ev7_] at hw; clear ev7_
        replace hh7_ : zz7_ = ((v_0 202) ((T 180 o))) ∧ 0 ≤ zz7_ := hh7_
        refine j_icmp_ge E 49 83 rfl r_l5_37 rr7_ dX9_callLine_46 (by decide) (fun cc8_ => ?_) (fun cc8_ => ?_)
        · refine j_iconst E 84 rfl dX9_callLine_83 ?_
          exact hret 84 1 (upV (upV (upV (upV (upV v_0 22 y22_4) 23 (v_0 23)) 24 y24_4) 300 y300_c37) 302 y302_4) _ _ ls (cw_eq hw (by first | rfl | (funext j_; simp only [upV, reduceIte]; (repeat' split) <;> first | rfl | omega | (subst_vars; rfl)))) (Or.inr rfl) ⟨y22_4, (v_0 23), y24_4, y300_c37, y302_4, rfl, ⟨trivial, ik37_⟩⟩ dX9_callLine_84
        · refine j_iload_n E 50 rfl dX9_callLine_49 rfl (lv_at hl 3 rfl) ?_
          refine j_iload E 52 rfl dX9_callLine_50 (lv_at hl 5 rfl) ?_
          refine j_iushr E 53 rfl dX9_callLine_52 (fun zz9_ rr9_ ee9_ => ?_)
          refine j_iconst E 54 rfl dX9_callLine_53 ?_
          refine j_iand E 55 rfl dX9_callLine_54 (fun zz10_ rr10_ ee10_ => ?_)
          refine j_if_eq E 58 77 rfl rr10_ dX9_callLine_55 (by decide) (fun cc11_ => ?_) (fun cc11_ => ?_)
          · refine j_iinc E 80 rfl [(5, .int (J (l5_37 + 1))), (0, .ref o), (1, .int (J v_l)), (2, .ref a_n), (3, .int (J v_p)), (4, .int (J zz1_))] dX9_callLine_77 hl (kk := 5) rfl (by decide) rfl (fun ls hl => ?_)
            refine j_goto E 37 dX9_callLine_80 (by decide) ?_
            exact ih37 (l5_37 + 1) y300_c37 H locs ls (rr (by omega)) (⟨by first | omega | (simp only [upB_same]; omega), ik37_⟩) (by omega) hw (lv_sub hl [1, 2, 3, 4, 5, 0] rfl)
          · refine j_aload_n E 59 rfl dX9_callLine_58 rfl (lv_at hl 0 rfl) ?_
            refine j_aload_n E 60 rfl dX9_callLine_59 rfl (lv_at hl 0 rfl) ?_
            refine g_180 E hK hw fl_X9_12 t_o 63 rfl dX9_callLine_60 ?_
            refine j_iload E 65 rfl dX9_callLine_63 (lv_at hl 5 rfl) ?_
            refine kV_n E (c_Jx4a65c_get_915e3 l D cy T (upV (upV (upV (upV v_0 22 y22_4) 24 y24_4) 300 y300_c37) 302 y302_4) (T 180 o) l5_37  (wt_180 hT t_o) r_l5_37 (show 0 ≤ l5_37 ∧ l5_37 < ((v_0 202) ((T 180 o))) from by omega)) mt_Jx4a65c_get_915e3 ml_X9_123 hK hw (cw_rc10 hK hw.1 (wt_180 hT t_o)) hA ⟨Nat.le_of_ble_eq_true rfl, Nat.le_of_ble_eq_true rfl⟩ ⟨Nat.le_of_ble_eq_true rfl, Nat.le_of_ble_eq_true rfl⟩ (As := [.int (J l5_37)]) (rest := [.ref o]) rfl rfl hl.1 (Nat.le_of_ble_eq_true rfl) 68 rfl dX9_callLine_65 (fun xx12_ v_12 H locs hq12_ hw => ?_)
            obtain ⟨ev12_, hh12_⟩ := hq12_
            rw [ev12_] at hw; clear ev12_
            replace hh12_ : dcd (T (1000 + (l5_37).toNat) (T 201 (T 180 o))) = some xx12_ ∧ T 0 xx12_ = T 2 (T 180 o) := hh12_
            have te12_ : T 0 xx12_ = 2 := hh12_.2.trans (we_180 hT t_o)
            have tg_ := te12_
            refine k_cast2 E hK hw cl_X9_84 te12_ 71 rfl dX9_callLine_68 ?_
            refine j_iload_n E 72 rfl dX9_callLine_71 rfl (lv_at hl 1 rfl) ?_
            refine j_iload E 74 rfl dX9_callLine_72 (lv_at hl 4 rfl) ?_
            refine kV_v E (c_X9_hear l D cy T (upV (upV (upV (upV v_0 22 y22_4) 24 y24_4) 300 y300_c37) 302 y302_4) o xx12_ v_l zz1_  t_o te12_ r_v_l rr1_ ) mt_X9_hear ml_X9_250 hK hw (cw_rc9 hK hw.1 t_o) hA ⟨Nat.le_of_ble_eq_true rfl, Nat.le_of_ble_eq_true rfl⟩ ⟨Nat.le_of_ble_eq_true rfl, Nat.le_of_ble_eq_true rfl⟩ (As := [.ref xx12_, .int (J v_l), .int (J zz1_)]) (rest := []) rfl rfl hl.1 (Nat.le_of_ble_eq_true rfl) 77 rfl dX9_callLine_74 (fun v_13 H locs hq13_ hw => ?_)
            obtain ⟨y300_13, ev13_, hh13_⟩ := hq13_
            rw [ev13_] at hw; clear ev13_
            have hw : WK D cy T (upV (upV (upV (upV v_0 22 y22_4) 24 y24_4) 300 y300_13) 302 y302_4) A0 H0 H locs := cw_eq hw (by first | rfl | (funext j_; simp only [upV, reduceIte]; (repeat' split) <;> first | rfl | omega | (subst_vars; rfl)))
            obtain ⟨hh13_, kf13_⟩ := hh13_
            refine j_iinc E 80 rfl [(5, .int (J (l5_37 + 1))), (0, .ref o), (1, .int (J v_l)), (2, .ref a_n), (3, .int (J v_p)), (4, .int (J zz1_))] dX9_callLine_77 hl (kk := 5) rfl (by decide) rfl (fun ls hl => ?_)
            refine j_goto E 37 dX9_callLine_80 (by decide) ?_
            exact ih37 (l5_37 + 1) y300_13 H locs ls (rr (by omega)) (⟨by first | omega | (simp only [upB_same]; omega), (Kd_tr ik37_ (Kd_mono kf13_ (by decide)))⟩) (by omega) hw (lv_sub hl [1, 2, 3, 4, 5, 0] rfl)
    exact L37_5 _ 0 y300_1 H locs ls (rr (by decide)) (⟨by first | omega | (simp only [upB_same]; omega), (Kd_tr Kd_rf (Kd_mono kf1_ (by decide)))⟩) (Nat.lt_succ_self _) hw (lv_sub hl [2, 3, 4, 5, 1, 0] rfl)
  · refine j_aload_n E 15 rfl dX9_callLine_14 rfl (lv_at hl 3 rfl) ?_
    refine j_aload_n E 16 rfl dX9_callLine_15 rfl (lv_at hl 1 rfl) ?_
    refine g_187 E hK hw fl_X9_37 t_o (v_0 187 o) rfl 19 rfl dX9_callLine_16 (fun rr14_ => ?_)
    refine kV_v E (c_X0_fallSilent l D cy T (upV v_0 300 y300_1) a_n (v_0 187 o)  t_n rr14_ ) mt_X0_fallSilent ml_X9_243 hK hw (cw_rc1 hK hw.1 t_n) hA ⟨Nat.le_of_ble_eq_true rfl, Nat.le_of_ble_eq_true rfl⟩ ⟨Nat.le_of_ble_eq_true rfl, Nat.le_of_ble_eq_true rfl⟩ (As := [.int (J (v_0 187 o))]) (rest := []) rfl rfl hl.1 (Nat.le_of_ble_eq_true rfl) 22 rfl dX9_callLine_19 (fun v_15 H locs hq15_ hw => ?_)
    obtain ⟨y22_15, y23_15, y302_15, ev15_, hh15_⟩ := hq15_
    rw [ev15_] at hw; clear ev15_
    have hw : WK D cy T (upV (upV (upV (upV v_0 22 y22_15) 23 y23_15) 300 y300_1) 302 y302_15) A0 H0 H locs := cw_eq hw (by first | rfl | (funext j_; simp only [upV, reduceIte]; (repeat' split) <;> first | rfl | omega | (subst_vars; rfl)))
    refine j_iconst E 23 rfl dX9_callLine_22 ?_
    exact hret 23 0 (upV (upV (upV (upV (upV v_0 22 y22_15) 23 y23_15) 24 (v_0 24)) 300 y300_1) 302 y302_15) _ _ ls (cw_eq hw (by first | rfl | (funext j_; simp only [upV, reduceIte]; (repeat' split) <;> first | rfl | omega | (subst_vars; rfl)))) (Or.inl rfl) ⟨y22_15, y23_15, (v_0 24), y300_1, y302_15, rfl, ⟨trivial, (Kd_tr Kd_rf (Kd_mono kf1_ (by decide)))⟩⟩ dX9_callLine_23
set_option maxHeartbeats 4000000 in
set_option maxRecDepth 100000 in
theorem c_X9_passSummer (l : Launch) (D : va_G) (cy : Nat → ClassId) (T : Nat → Nat → Nat) (v_0 : Nat → Nat → Int) (o : Nat) (t_o : T 0 o = 9) (hp0 : 0 ≤ (v_0 187 o) ∧ (v_0 187 o) ≤ 198) : KC l D cy T yX9_passSummer cX9_passSummer 5 none 8 [.ref o] v_0 (KV (fun (v_2 : Nat → Nat → Int) => ∃ (y22_2 : Nat → Int) (y23_2 : Nat → Int) (y24_2 : Nat → Int) (y44_2 : Nat → Int) (y187_2 : Nat → Int) (y300_2 : Nat → Int) (y302_2 : Nat → Int) , v_2 = upV (upV (upV (upV (upV (upV (upV v_0 22 y22_2) 23 y23_2) 24 y24_2) 44 y44_2) 187 y187_2) 300 y300_2) 302 y302_2 ∧ (((y187_2 o) = (v_0 187 o) + 1 ∧ ∀ i_ : Nat, (i_ : Int) < (v_0 202 (T 180 o)) → ∀ y_ : Nat, T (1000 + i_) (T 201 (T 180 o)) = y_ + 1 → (y44_2 y_) = 0) ∧ Kd_ T [46, 47, 48, 194, 195] (v_0 300) y300_2))) := by
  refine KC.ofv (by decide) (Nat.le_of_ble_eq_true rfl) ?_
  intro p e s m below meth c ls ar QW A0 H0 H locs E hK hA hw hl hret
  have hl : lv_has ls 5 [(0, .ref o)] := hl
  have hT : WT T := hw.1.2.1
  refine j_aload_n E 1 rfl dX9_passSummer_0 rfl (lv_at hl 0 rfl) ?_
  refine kV_i E (c_X9_presentOnes l D cy T (v_0) o  t_o  ) mt_X9_presentOnes ml_X9_229 hK hw (cw_rc9 hK hw.1 t_o) hA ⟨Nat.le_of_ble_eq_true rfl, Nat.le_of_ble_eq_true rfl⟩ ⟨Nat.le_of_ble_eq_true rfl, Nat.le_of_ble_eq_true rfl⟩ (As := []) (rest := []) rfl rfl hl.1 (Nat.le_of_ble_eq_true rfl) 4 rfl dX9_passSummer_1 (fun zz1_ v_1 H locs rr1_ hq1_ hw => ?_)
  obtain ⟨ev1_, hh1_⟩ := hq1_
  rw [ev1_] at hw; clear ev1_
  refine j_istore_n E 5 rfl [(1, .int (J zz1_)), (0, .ref o)] dX9_passSummer_4 rfl hl (by decide) rfl (fun ls hl => ?_)
  refine j_iconst E 6 rfl dX9_passSummer_5 ?_
  refine j_istore_n E 7 rfl [(2, .int (J 0)), (1, .int (J zz1_)), (0, .ref o)] dX9_passSummer_6 rfl hl (by decide) rfl (fun ls hl => ?_)
  refine j_iconst E 8 rfl dX9_passSummer_7 ?_
  refine j_istore_n E 9 rfl [(3, .int (J 0)), (2, .int (J 0)), (1, .int (J zz1_)), (0, .ref o)] dX9_passSummer_8 rfl hl (by decide) rfl (fun ls hl => ?_)
  have L9_2 : ∀ (k9 : Nat) (l2_9 l3_9 : Int) (y22_c9 : Nat → Int) (y23_c9 : Nat → Int) (y24_c9 : Nat → Int) (y300_c9 : Nat → Int) (y302_c9 : Nat → Int) (H : Heap) (locs : List Loc) (ls : Array Slot), inR l2_9 → inR l3_9 → ((0 ≤ l3_9) ∧ Kd_ T [46, 47, 48, 194, 195] (v_0 300) y300_c9) → ((v_0 202 (T 181 o)) - l3_9).toNat < k9 → WK D cy T (upV (upV (upV (upV (upV v_0 22 y22_c9) 23 y23_c9) 24 y24_c9) 300 y300_c9) 302 y302_c9) A0 H0 H locs → lv_has ls 5 [(0, .ref o), (1, .int (J zz1_)), (2, .int (J l2_9)), (3, .int (J l3_9))] → W p l e (rmd 8 0 0) s m ar below meth c H locs 0 0 QW (F0 m 9 ls []) := by
    intro k9
    induction k9 with
    | zero =>
      intro l2_9 l3_9 y22_c9 y23_c9 y24_c9 y300_c9 y302_c9 H locs ls r_l2_9 r_l3_9 iv9 ms9 hw hl
      exact absurd ms9 (Nat.not_lt_zero _)
    | succ k9 ih9 =>
      intro l2_9 l3_9 y22_c9 y23_c9 y24_c9 y300_c9 y302_c9 H locs ls r_l2_9 r_l3_9 iv9 ms9 hw hl
      obtain ⟨iv9, ik9_⟩ := iv9
      refine j_iload_n E 10 rfl dX9_passSummer_9 rfl (lv_at hl 3 rfl) ?_
      refine j_aload_n E 11 rfl dX9_passSummer_10 rfl (lv_at hl 0 rfl) ?_
      refine g_181 E hK hw fl_X9_16 t_o 14 rfl dX9_passSummer_11 ?_
      refine kV_i E (c_Jx4a65c_size_8abf5 l D cy T (upV (upV (upV (upV (upV v_0 22 y22_c9) 23 y23_c9) 24 y24_c9) 300 y300_c9) 302 y302_c9) (T 181 o)  (wt_181 hT t_o)  ) mt_Jx4a65c_size_8abf5 ml_X9_80 hK hw (cw_rc10 hK hw.1 (wt_181 hT t_o)) hA ⟨Nat.le_of_ble_eq_true rfl, Nat.le_of_ble_eq_true rfl⟩ ⟨Nat.le_of_ble_eq_true rfl, Nat.le_of_ble_eq_true rfl⟩ (As := []) (rest := [.int (J l3_9)]) rfl rfl hl.1 (Nat.le_of_ble_eq_true rfl) 17 rfl dX9_passSummer_14 (fun zz4_ v_4 H locs rr4_ hq4_ hw => ?_)
      obtain ⟨ev4_, hh4_⟩ := hq4_
      rw [ev4_] at hw; clear ev4_
      replace hh4_ : zz4_ = ((v_0 202) ((T 181 o))) ∧ 0 ≤ zz4_ := hh4_
      refine j_icmp_ge E 20 78 rfl r_l3_9 rr4_ dX9_passSummer_17 (by decide) (fun cc5_ => ?_) (fun cc5_ => ?_)
      · refine j_iconst E 79 rfl dX9_passSummer_78 ?_
        refine j_istore_n E 80 rfl [(3, .int (J 0)), (0, .ref o), (1, .int (J zz1_)), (2, .int (J l2_9))] dX9_passSummer_79 rfl hl (by decide) rfl (fun ls hl => ?_)
        have L80_6 : ∀ (k80 : Nat) (l3_80 : Int) (y300_c80 : Nat → Int) (H : Heap) (locs : List Loc) (ls : Array Slot), inR l3_80 → ((0 ≤ l3_80) ∧ Kd_ T [46, 47, 48, 194, 195] (v_0 300) y300_c80) → ((v_0 202 (T 181 o)) - l3_80).toNat < k80 → WK D cy T (upV (upV (upV (upV (upV v_0 22 y22_c9) 23 y23_c9) 24 y24_c9) 300 y300_c80) 302 y302_c9) A0 H0 H locs → lv_has ls 5 [(0, .ref o), (1, .int (J zz1_)), (2, .int (J l2_9)), (3, .int (J l3_80))] → W p l e (rmd 8 0 0) s m ar below meth c H locs 0 0 QW (F0 m 80 ls []) := by
          intro k80
          induction k80 with
          | zero =>
            intro l3_80 y300_c80 H locs ls r_l3_80 iv80 ms80 hw hl
            exact absurd ms80 (Nat.not_lt_zero _)
          | succ k80 ih80 =>
            intro l3_80 y300_c80 H locs ls r_l3_80 iv80 ms80 hw hl
            obtain ⟨iv80, ik80_⟩ := iv80
            refine j_iload_n E 81 rfl dX9_passSummer_80 rfl (lv_at hl 3 rfl) ?_
            refine j_aload_n E 82 rfl dX9_passSummer_81 rfl (lv_at hl 0 rfl) ?_
            refine g_181 E hK hw fl_X9_16 t_o 85 rfl dX9_passSummer_82 ?_
            refine kV_i E (c_Jx4a65c_size_8abf5 l D cy T (upV (upV (upV (upV (upV v_0 22 y22_c9) 23 y23_c9) 24 y24_c9) 300 y300_c80) 302 y302_c9) (T 181 o)  (wt_181 hT t_o)  ) mt_Jx4a65c_size_8abf5 ml_X9_80 hK hw (cw_rc10 hK hw.1 (wt_181 hT t_o)) hA ⟨Nat.le_of_ble_eq_true rfl, Nat.le_of_ble_eq_true rfl⟩ ⟨Nat.le_of_ble_eq_true rfl, Nat.le_of_ble_eq_true rfl⟩ (As := []) (rest := [.int (J l3_80)]) rfl rfl hl.1 (Nat.le_of_ble_eq_true rfl) 88 rfl dX9_passSummer_85 (fun zz8_ v_8 H locs rr8_ hq8_ hw => ?_)
            obtain ⟨ev8_, hh8_⟩ := hq8_
            rw [ev8_] at hw; clear ev8_
            replace hh8_ : zz8_ = ((v_0 202) ((T 181 o))) ∧ 0 ≤ zz8_ := hh8_
            refine j_icmp_ge E 91 149 rfl r_l3_80 rr8_ dX9_passSummer_88 (by decide) (fun cc9_ => ?_) (fun cc9_ => ?_)
            · refine j_iconst E 150 rfl dX9_passSummer_149 ?_
              refine j_istore_n E 151 rfl [(3, .int (J 0)), (0, .ref o), (1, .int (J zz1_)), (2, .int (J l2_9))] dX9_passSummer_150 rfl hl (by decide) rfl (fun ls hl => ?_)
              have L151_10 : ∀ (k151 : Nat) (l3_151 : Int) (y44_c151 : Nat → Int) (H : Heap) (locs : List Loc) (ls : Array Slot), inR l3_151 → (0 ≤ l3_151 ∧ ∀ i_ : Nat, (i_ : Int) < l3_151 → ∀ y_ : Nat, T (1000 + i_) (T 201 (T 180 o)) = y_ + 1 → (y44_c151 y_) = 0) → ((v_0 202 (T 180 o)) - l3_151).toNat < k151 → WK D cy T (upV (upV (upV (upV (upV (upV v_0 22 y22_c9) 23 y23_c9) 24 y24_c9) 44 y44_c151) 300 y300_c80) 302 y302_c9) A0 H0 H locs → lv_has ls 5 [(0, .ref o), (1, .int (J zz1_)), (2, .int (J l2_9)), (3, .int (J l3_151))] → W p l e (rmd 8 0 0) s m ar below meth c H locs 0 0 QW (F0 m 151 ls []) := by
                intro k151
                induction k151 with
                | zero =>
                  intro l3_151 y44_c151 H locs ls r_l3_151 iv151 ms151 hw hl
                  exact absurd ms151 (Nat.not_lt_zero _)
                | succ k151 ih151 =>
                  intro l3_151 y44_c151 H locs ls r_l3_151 iv151 ms151 hw hl
                  refine j_iload_n E 152 rfl dX9_passSummer_151 rfl (lv_at hl 3 rfl) ?_
                  refine j_aload_n E 153 rfl dX9_passSummer_152 rfl (lv_at hl 0 rfl) ?_
                  refine g_180 E hK hw fl_X9_12 t_o 156 rfl dX9_passSummer_153 ?_
                  refine kV_i E (c_Jx4a65c_size_8abf5 l D cy T (upV (upV (upV (upV (upV (upV v_0 22 y22_c9) 23 y23_c9) 24 y24_c9) 44 y44_c151) 300 y300_c80) 302 y302_c9) (T 180 o)  (wt_180 hT t_o)  ) mt_Jx4a65c_size_8abf5 ml_X9_80 hK hw (cw_rc10 hK hw.1 (wt_180 hT t_o)) hA ⟨Nat.le_of_ble_eq_true rfl, Nat.le_of_ble_eq_true rfl⟩ ⟨Nat.le_of_ble_eq_true rfl, Nat.le_of_ble_eq_true rfl⟩ (As := []) (rest := [.int (J l3_151)]) rfl rfl hl.1 (Nat.le_of_ble_eq_true rfl) 159 rfl dX9_passSummer_156 (fun zz12_ v_12 H locs rr12_ hq12_ hw => ?_)
                  obtain ⟨ev12_, hh12_⟩ := hq12_
                  rw [ev12_] at hw; clear ev12_
                  replace hh12_ : zz12_ = ((v_0 202) ((T 180 o))) ∧ 0 ≤ zz12_ := hh12_
                  refine j_icmp_ge E 162 183 rfl r_l3_151 rr12_ dX9_passSummer_159 (by decide) (fun cc13_ => ?_) (fun cc13_ => ?_)
                  · refine j_aload_n E 184 rfl dX9_passSummer_183 rfl (lv_at hl 0 rfl) ?_
                    refine j_dup E 185 rfl dX9_passSummer_184 rfl ?_
                    refine g_187 E hK hw fl_X9_37 t_o (v_0 187 o) rfl 188 rfl dX9_passSummer_185 (fun rr14_ => ?_)
                    refine j_iconst E 189 rfl dX9_passSummer_188 ?_
                    refine j_iadd E 190 rfl dX9_passSummer_189 ?_
                    refine p_187 E hK hw fl_X9_37 t_o (rr (by omega)) 193 rfl dX9_passSummer_190 (fun H locs hw => ?_)
                    have hw : WK D cy T (upV (upV (upV (upV (upV (upV (upV v_0 22 y22_c9) 23 y23_c9) 24 y24_c9) 44 y44_c151) 187 (upB (v_0 187) o ((v_0 187 o) + 1))) 300 y300_c80) 302 y302_c9) A0 H0 H locs := cw_eq hw (by first | rfl | exact (funext fun j_ => if a22_ : j_ = 22 then (by subst a22_; rfl) else if a23_ : j_ = 23 then (by subst a23_; rfl) else if a24_ : j_ = 24 then (by subst a24_; rfl) else if a44_ : j_ = 44 then (by subst a44_; rfl) else if a187_ : j_ = 187 then (by subst a187_; rfl) else if a300_ : j_ = 300 then (by subst a300_; rfl) else if a302_ : j_ = 302 then (by subst a302_; rfl) else (by simp only [upV, if_neg a22_, if_neg a23_, if_neg a24_, if_neg a44_, if_neg a187_, if_neg a300_, if_neg a302_])))
                    exact hret 193 (upV (upV (upV (upV (upV (upV (upV v_0 22 y22_c9) 23 y23_c9) 24 y24_c9) 44 y44_c151) 187 (upB (v_0 187) o ((v_0 187 o) + 1))) 300 y300_c80) 302 y302_c9) _ _ ls hw ⟨y22_c9, y23_c9, y24_c9, y44_c151, (upB (v_0 187) o ((v_0 187 o) + 1)), y300_c80, y302_c9, rfl, ⟨⟨upB_same _ _ _, fun i_ h_ => iv151.2 i_ (by omega)⟩, ik80_⟩⟩ dX9_passSummer_193
                  · refine j_aload_n E 163 rfl dX9_passSummer_162 rfl (lv_at hl 0 rfl) ?_
                    refine g_180 E hK hw fl_X9_12 t_o 166 rfl dX9_passSummer_163 ?_
                    refine j_iload_n E 167 rfl dX9_passSummer_166 rfl (lv_at hl 3 rfl) ?_
                    refine kV_n E (c_Jx4a65c_get_915e3 l D cy T (upV (upV (upV (upV (upV (upV v_0 22 y22_c9) 23 y23_c9) 24 y24_c9) 44 y44_c151) 300 y300_c80) 302 y302_c9) (T 180 o) l3_151  (wt_180 hT t_o) r_l3_151 (show 0 ≤ l3_151 ∧ l3_151 < ((v_0 202) ((T 180 o))) from by omega)) mt_Jx4a65c_get_915e3 ml_X9_123 hK hw (cw_rc10 hK hw.1 (wt_180 hT t_o)) hA ⟨Nat.le_of_ble_eq_true rfl, Nat.le_of_ble_eq_true rfl⟩ ⟨Nat.le_of_ble_eq_true rfl, Nat.le_of_ble_eq_true rfl⟩ (As := [.int (J l3_151)]) (rest := []) rfl rfl hl.1 (Nat.le_of_ble_eq_true rfl) 170 rfl dX9_passSummer_167 (fun xx16_ v_16 H locs hq16_ hw => ?_)
                    obtain ⟨ev16_, hh16_⟩ := hq16_
                    rw [ev16_] at hw; clear ev16_
                    replace hh16_ : dcd (T (1000 + (l3_151).toNat) (T 201 (T 180 o))) = some xx16_ ∧ T 0 xx16_ = T 2 (T 180 o) := hh16_
                    have te16_ : T 0 xx16_ = 2 := hh16_.2.trans (we_180 hT t_o)
                    have tg_ := te16_
                    have hg_ := hh16_.1
                    refine k_cast2 E hK hw cl_X9_84 te16_ 173 rfl dX9_passSummer_170 ?_
                    refine j_iconst E 174 rfl dX9_passSummer_173 ?_
                    refine p_44 E hK hw fl_X9_100 te16_ (rr (by decide)) (Or.inl rfl) 177 rfl dX9_passSummer_174 (fun H locs hw => ?_)
                    have hw : WK D cy T (upV (upV (upV (upV (upV (upV v_0 22 y22_c9) 23 y23_c9) 24 y24_c9) 44 (upB y44_c151 xx16_ 0)) 300 y300_c80) 302 y302_c9) A0 H0 H locs := cw_eq hw (by first | rfl | exact (funext fun j_ => if a22_ : j_ = 22 then (by subst a22_; rfl) else if a23_ : j_ = 23 then (by subst a23_; rfl) else if a24_ : j_ = 24 then (by subst a24_; rfl) else if a44_ : j_ = 44 then (by subst a44_; rfl) else if a300_ : j_ = 300 then (by subst a300_; rfl) else if a302_ : j_ = 302 then (by subst a302_; rfl) else (by simp only [upV, if_neg a22_, if_neg a23_, if_neg a24_, if_neg a44_, if_neg a300_, if_neg a302_])))
                    refine j_iinc E 180 rfl [(3, .int (J (l3_151 + 1))), (0, .ref o), (1, .int (J zz1_)), (2, .int (J l2_9))] dX9_passSummer_177 hl (kk := 3) rfl (by decide) rfl (fun ls hl => ?_)
                    refine j_goto E 151 dX9_passSummer_180 (by decide) ?_
                    exact ih151 (l3_151 + 1) (upB y44_c151 xx16_ 0) H locs ls (rr (by omega)) (⟨by omega, aw_step iv151.2 (dcd_e hg_) (by omega)⟩) (by omega) hw (lv_sub hl [1, 2, 3, 0] rfl)
              exact L151_10 _ 0 (v_0 44) H locs ls (rr (by decide)) (⟨by omega, fun i_ h_ => absurd h_ (by omega)⟩) (Nat.lt_succ_self _) (cw_eq hw (by first | rfl | exact (funext fun j_ => if a22_ : j_ = 22 then (by subst a22_; rfl) else if a23_ : j_ = 23 then (by subst a23_; rfl) else if a24_ : j_ = 24 then (by subst a24_; rfl) else if a44_ : j_ = 44 then (by subst a44_; rfl) else if a300_ : j_ = 300 then (by subst a300_; rfl) else if a302_ : j_ = 302 then (by subst a302_; rfl) else (by simp only [upV, if_neg a22_, if_neg a23_, if_neg a24_, if_neg a44_, if_neg a300_, if_neg a302_])))) (lv_sub hl [1, 2, 3, 0] rfl)
            · refine j_aload_n E 92 rfl dX9_passSummer_91 rfl (lv_at hl 0 rfl) ?_
              refine g_181 E hK hw fl_X9_16 t_o 95 rfl dX9_passSummer_92 ?_
              refine j_iload_n E 96 rfl dX9_passSummer_95 rfl (lv_at hl 3 rfl) ?_
              refine kV_n E (c_Jx4a65c_get_915e3 l D cy T (upV (upV (upV (upV (upV v_0 22 y22_c9) 23 y23_c9) 24 y24_c9) 300 y300_c80) 302 y302_c9) (T 181 o) l3_80  (wt_181 hT t_o) r_l3_80 (show 0 ≤ l3_80 ∧ l3_80 < ((v_0 202) ((T 181 o))) from by omega)) mt_Jx4a65c_get_915e3 ml_X9_123 hK hw (cw_rc10 hK hw.1 (wt_181 hT t_o)) hA ⟨Nat.le_of_ble_eq_true rfl, Nat.le_of_ble_eq_true rfl⟩ ⟨Nat.le_of_ble_eq_true rfl, Nat.le_of_ble_eq_true rfl⟩ (As := [.int (J l3_80)]) (rest := []) rfl rfl hl.1 (Nat.le_of_ble_eq_true rfl) 99 rfl dX9_passSummer_96 (fun xx18_ v_18 H locs hq18_ hw => ?_)
              obtain ⟨ev18_, hh18_⟩ := hq18_
              rw [ev18_] at hw; clear ev18_
              replace hh18_ : dcd (T (1000 + (l3_80).toNat) (T 201 (T 181 o))) = some xx18_ ∧ T 0 xx18_ = T 2 (T 181 o) := hh18_
              have te18_ : T 0 xx18_ = 1 := hh18_.2.trans (we_181 hT t_o)
              have tg_ := te18_
              refine k_cast1 E hK hw cl_X9_167 te18_ 102 rfl dX9_passSummer_99 ?_
              refine g_21 E hK hw fl_X9_202 te18_ (v_0 21 xx18_) rfl 105 rfl dX9_passSummer_102 (fun rr19_ => ?_)
              refine j_if_eq E 108 122 rfl rr19_ dX9_passSummer_105 (by decide) (fun cc20_ => ?_) (fun cc20_ => ?_)
              · refine j_iconst E 123 rfl dX9_passSummer_122 ?_
                refine j_istore E 125 rfl [(4, .int (J 0)), (0, .ref o), (1, .int (J zz1_)), (2, .int (J l2_9)), (3, .int (J l3_80))] dX9_passSummer_123 hl (by decide) rfl (fun ls hl => ?_)
                refine j_iload_n E 126 rfl dX9_passSummer_125 rfl (lv_at hl 3 rfl) ?_
                refine j_iload_n E 127 rfl dX9_passSummer_126 rfl (lv_at hl 4 rfl) ?_
                refine j_iushr E 128 rfl dX9_passSummer_127 (fun zz21_ rr21_ ee21_ => ?_)
                refine j_iconst E 129 rfl dX9_passSummer_128 ?_
                refine j_iand E 130 rfl dX9_passSummer_129 (fun zz22_ rr22_ ee22_ => ?_)
                refine j_if_ne E 133 143 rfl rr22_ dX9_passSummer_130 (by decide) (fun cc23_ => ?_) (fun cc23_ => ?_)
                · refine j_iinc E 146 rfl [(3, .int (J (l3_80 + 1))), (4, .int (J 0)), (0, .ref o), (1, .int (J zz1_)), (2, .int (J l2_9))] dX9_passSummer_143 hl (kk := 4) rfl (by decide) rfl (fun ls hl => ?_)
                  refine j_goto E 80 dX9_passSummer_146 (by decide) ?_
                  exact ih80 (l3_80 + 1) y300_c80 H locs ls (rr (by omega)) (⟨by first | omega | (simp only [upB_same]; omega), ik80_⟩) (by omega) hw (lv_sub hl [2, 3, 4, 0] rfl)
                · refine j_iload E 135 rfl dX9_passSummer_133 (lv_at hl 0 rfl) ?_
                  refine j_if_ne E 138 143 rfl (rr (by decide)) dX9_passSummer_135 (by decide) (fun cc24_ => absurd cc24_ (by decide)) (fun _ => ?_)
                  refine j_aload_n E 139 rfl dX9_passSummer_138 rfl (lv_at hl 1 rfl) ?_
                  refine j_iload_n E 140 rfl dX9_passSummer_139 rfl (lv_at hl 4 rfl) ?_
                  refine kV_v E (c_X9_fade l D cy T (upV (upV (upV (upV (upV v_0 22 y22_c9) 23 y23_c9) 24 y24_c9) 300 y300_c80) 302 y302_c9) o l3_80  t_o r_l3_80 ) mt_X9_fade ml_X9_236 hK hw (cw_rc9 hK hw.1 t_o) hA ⟨Nat.le_of_ble_eq_true rfl, Nat.le_of_ble_eq_true rfl⟩ ⟨Nat.le_of_ble_eq_true rfl, Nat.le_of_ble_eq_true rfl⟩ (As := [.int (J l3_80)]) (rest := []) rfl rfl hl.1 (Nat.le_of_ble_eq_true rfl) 143 rfl dX9_passSummer_140 (fun v_25 H locs hq25_ hw => ?_)
                  obtain ⟨y300_25, ev25_, hh25_⟩ := hq25_
                  rw [ev25_] at hw; clear ev25_
                  have hw : WK D cy T (upV (upV (upV (upV (upV v_0 22 y22_c9) 23 y23_c9) 24 y24_c9) 300 y300_25) 302 y302_c9) A0 H0 H locs := cw_eq hw (by first | rfl | (funext j_; simp only [upV, reduceIte]; (repeat' split) <;> first | rfl | omega | (subst_vars; rfl)))
                  obtain ⟨hh25_, kf25_⟩ := hh25_
                  refine j_iinc E 146 rfl [(3, .int (J (l3_80 + 1))), (4, .int (J 0)), (0, .ref o), (1, .int (J zz1_)), (2, .int (J l2_9))] dX9_passSummer_143 hl (kk := 4) rfl (by decide) rfl (fun ls hl => ?_)
                  refine j_goto E 80 dX9_passSummer_146 (by decide) ?_
                  exact ih80 (l3_80 + 1) y300_25 H locs ls (rr (by omega)) (⟨by first | omega | (simp only [upB_same]; omega), (Kd_tr ik80_ (Kd_mono kf25_ (by decide)))⟩) (by omega) hw (lv_sub hl [2, 3, 4, 0] rfl)
              · refine j_aload_n E 109 rfl dX9_passSummer_108 rfl (lv_at hl 0 rfl) ?_
                refine g_187 E hK hw fl_X9_37 t_o (v_0 187 o) rfl 112 rfl dX9_passSummer_109 (fun rr26_ => ?_)
                refine j_iconst E 113 rfl dX9_passSummer_112 ?_
                refine j_irem E 114 rfl dX9_passSummer_113 (by decide +kernel) (fun zz27_ rr27_ ee27_ => ?_)
                refine j_iconst E 115 rfl dX9_passSummer_114 ?_
                refine j_icmp_eq E 118 122 rfl rr27_ (rr (by decide)) dX9_passSummer_115 (by decide) (fun cc28_ => ?_) (fun cc28_ => ?_)
                · refine j_iconst E 123 rfl dX9_passSummer_122 ?_
                  refine j_istore E 125 rfl [(4, .int (J 0)), (0, .ref o), (1, .int (J zz1_)), (2, .int (J l2_9)), (3, .int (J l3_80))] dX9_passSummer_123 hl (by decide) rfl (fun ls hl => ?_)
                  refine j_iload_n E 126 rfl dX9_passSummer_125 rfl (lv_at hl 3 rfl) ?_
                  refine j_iload_n E 127 rfl dX9_passSummer_126 rfl (lv_at hl 4 rfl) ?_
                  refine j_iushr E 128 rfl dX9_passSummer_127 (fun zz29_ rr29_ ee29_ => ?_)
                  refine j_iconst E 129 rfl dX9_passSummer_128 ?_
                  refine j_iand E 130 rfl dX9_passSummer_129 (fun zz30_ rr30_ ee30_ => ?_)
                  refine j_if_ne E 133 143 rfl rr30_ dX9_passSummer_130 (by decide) (fun cc31_ => ?_) (fun cc31_ => ?_)
                  · refine j_iinc E 146 rfl [(3, .int (J (l3_80 + 1))), (4, .int (J 0)), (0, .ref o), (1, .int (J zz1_)), (2, .int (J l2_9))] dX9_passSummer_143 hl (kk := 4) rfl (by decide) rfl (fun ls hl => ?_)
                    refine j_goto E 80 dX9_passSummer_146 (by decide) ?_
                    exact ih80 (l3_80 + 1) y300_c80 H locs ls (rr (by omega)) (⟨by first | omega | (simp only [upB_same]; omega), ik80_⟩) (by omega) hw (lv_sub hl [2, 3, 4, 0] rfl)
                  · refine j_iload E 135 rfl dX9_passSummer_133 (lv_at hl 0 rfl) ?_
                    refine j_if_ne E 138 143 rfl (rr (by decide)) dX9_passSummer_135 (by decide) (fun cc32_ => absurd cc32_ (by decide)) (fun _ => ?_)
                    refine j_aload_n E 139 rfl dX9_passSummer_138 rfl (lv_at hl 1 rfl) ?_
                    refine j_iload_n E 140 rfl dX9_passSummer_139 rfl (lv_at hl 4 rfl) ?_
                    refine kV_v E (c_X9_fade l D cy T (upV (upV (upV (upV (upV v_0 22 y22_c9) 23 y23_c9) 24 y24_c9) 300 y300_c80) 302 y302_c9) o l3_80  t_o r_l3_80 ) mt_X9_fade ml_X9_236 hK hw (cw_rc9 hK hw.1 t_o) hA ⟨Nat.le_of_ble_eq_true rfl, Nat.le_of_ble_eq_true rfl⟩ ⟨Nat.le_of_ble_eq_true rfl, Nat.le_of_ble_eq_true rfl⟩ (As := [.int (J l3_80)]) (rest := []) rfl rfl hl.1 (Nat.le_of_ble_eq_true rfl) 143 rfl dX9_passSummer_140 (fun v_33 H locs hq33_ hw => ?_)
                    obtain ⟨y300_33, ev33_, hh33_⟩ := hq33_
                    rw [ev33_] at hw; clear ev33_
                    have hw : WK D cy T (upV (upV (upV (upV (upV v_0 22 y22_c9) 23 y23_c9) 24 y24_c9) 300 y300_33) 302 y302_c9) A0 H0 H locs := cw_eq hw (by first | rfl | (funext j_; simp only [upV, reduceIte]; (repeat' split) <;> first | rfl | omega | (subst_vars; rfl)))
                    obtain ⟨hh33_, kf33_⟩ := hh33_
                    refine j_iinc E 146 rfl [(3, .int (J (l3_80 + 1))), (4, .int (J 0)), (0, .ref o), (1, .int (J zz1_)), (2, .int (J l2_9))] dX9_passSummer_143 hl (kk := 4) rfl (by decide) rfl (fun ls hl => ?_)
                    refine j_goto E 80 dX9_passSummer_146 (by decide) ?_
                    exact ih80 (l3_80 + 1) y300_33 H locs ls (rr (by omega)) (⟨by first | omega | (simp only [upB_same]; omega), (Kd_tr ik80_ (Kd_mono kf33_ (by decide)))⟩) (by omega) hw (lv_sub hl [2, 3, 4, 0] rfl)
                · refine j_iconst E 119 rfl dX9_passSummer_118 ?_
                  refine j_goto E 123 dX9_passSummer_119 (by decide) ?_
                  refine j_istore E 125 rfl [(4, .int (J 1)), (0, .ref o), (1, .int (J zz1_)), (2, .int (J l2_9)), (3, .int (J l3_80))] dX9_passSummer_123 hl (by decide) rfl (fun ls hl => ?_)
                  refine j_iload_n E 126 rfl dX9_passSummer_125 rfl (lv_at hl 3 rfl) ?_
                  refine j_iload_n E 127 rfl dX9_passSummer_126 rfl (lv_at hl 4 rfl) ?_
                  refine j_iushr E 128 rfl dX9_passSummer_127 (fun zz34_ rr34_ ee34_ => ?_)
                  refine j_iconst E 129 rfl dX9_passSummer_128 ?_
                  refine j_iand E 130 rfl dX9_passSummer_129 (fun zz35_ rr35_ ee35_ => ?_)
                  refine j_if_ne E 133 143 rfl rr35_ dX9_passSummer_130 (by decide) (fun cc36_ => ?_) (fun cc36_ => ?_)
                  · refine j_iinc E 146 rfl [(3, .int (J (l3_80 + 1))), (4, .int (J 1)), (0, .ref o), (1, .int (J zz1_)), (2, .int (J l2_9))] dX9_passSummer_143 hl (kk := 4) rfl (by decide) rfl (fun ls hl => ?_)
                    refine j_goto E 80 dX9_passSummer_146 (by decide) ?_
                    exact ih80 (l3_80 + 1) y300_c80 H locs ls (rr (by omega)) (⟨by first | omega | (simp only [upB_same]; omega), ik80_⟩) (by omega) hw (lv_sub hl [2, 3, 4, 0] rfl)
                  · refine j_iload E 135 rfl dX9_passSummer_133 (lv_at hl 0 rfl) ?_
                    refine j_if_ne E 138 143 rfl (rr (by decide)) dX9_passSummer_135 (by decide) (fun _ => ?_) (fun cc37_ => absurd cc37_ (by decide))
                    refine j_iinc E 146 rfl [(3, .int (J (l3_80 + 1))), (4, .int (J 1)), (0, .ref o), (1, .int (J zz1_)), (2, .int (J l2_9))] dX9_passSummer_143 hl (kk := 4) rfl (by decide) rfl (fun ls hl => ?_)
                    refine j_goto E 80 dX9_passSummer_146 (by decide) ?_
                    exact ih80 (l3_80 + 1) y300_c80 H locs ls (rr (by omega)) (⟨by first | omega | (simp only [upB_same]; omega), ik80_⟩) (by omega) hw (lv_sub hl [2, 3, 4, 0] rfl)
        exact L80_6 _ 0 y300_c9 H locs ls (rr (by decide)) (⟨by first | omega | (simp only [upB_same]; omega), ik9_⟩) (Nat.lt_succ_self _) hw (lv_sub hl [1, 2, 3, 0] rfl)
      · refine j_aload_n E 21 rfl dX9_passSummer_20 rfl (lv_at hl 0 rfl) ?_
        refine g_181 E hK hw fl_X9_16 t_o 24 rfl dX9_passSummer_21 ?_
        refine j_iload_n E 25 rfl dX9_passSummer_24 rfl (lv_at hl 3 rfl) ?_
        refine kV_n E (c_Jx4a65c_get_915e3 l D cy T (upV (upV (upV (upV (upV v_0 22 y22_c9) 23 y23_c9) 24 y24_c9) 300 y300_c9) 302 y302_c9) (T 181 o) l3_9  (wt_181 hT t_o) r_l3_9 (show 0 ≤ l3_9 ∧ l3_9 < ((v_0 202) ((T 181 o))) from by omega)) mt_Jx4a65c_get_915e3 ml_X9_123 hK hw (cw_rc10 hK hw.1 (wt_181 hT t_o)) hA ⟨Nat.le_of_ble_eq_true rfl, Nat.le_of_ble_eq_true rfl⟩ ⟨Nat.le_of_ble_eq_true rfl, Nat.le_of_ble_eq_true rfl⟩ (As := [.int (J l3_9)]) (rest := []) rfl rfl hl.1 (Nat.le_of_ble_eq_true rfl) 28 rfl dX9_passSummer_25 (fun xx38_ v_38 H locs hq38_ hw => ?_)
        obtain ⟨ev38_, hh38_⟩ := hq38_
        rw [ev38_] at hw; clear ev38_
        replace hh38_ : dcd (T (1000 + (l3_9).toNat) (T 201 (T 181 o))) = some xx38_ ∧ T 0 xx38_ = T 2 (T 181 o) := hh38_
        have te38_ : T 0 xx38_ = 1 := hh38_.2.trans (we_181 hT t_o)
        have tg_ := te38_
        refine k_cast1 E hK hw cl_X9_167 te38_ 31 rfl dX9_passSummer_28 ?_
        refine j_astore E 33 rfl [(4, .ref xx38_), (0, .ref o), (1, .int (J zz1_)), (2, .int (J l2_9)), (3, .int (J l3_9))] dX9_passSummer_31 hl (by decide) rfl (fun ls hl => ?_)
        refine j_aload E 35 rfl dX9_passSummer_33 (lv_at hl 0 rfl) ?_
        refine g_20 E hK hw fl_X9_199 te38_ (v_0 20 xx38_) rfl 38 rfl dX9_passSummer_35 (fun rr39_ => ?_)
        refine j_aload_n E 39 rfl dX9_passSummer_38 rfl (lv_at hl 1 rfl) ?_
        refine g_187 E hK hw fl_X9_37 t_o (v_0 187 o) rfl 42 rfl dX9_passSummer_39 (fun rr40_ => ?_)
        refine j_iconst E 43 rfl dX9_passSummer_42 ?_
        refine j_irem E 44 rfl dX9_passSummer_43 (by decide +kernel) (fun zz41_ rr41_ ee41_ => ?_)
        refine j_icmp_ne E 47 72 rfl rr39_ rr41_ dX9_passSummer_44 (by decide) (fun cc42_ => ?_) (fun cc42_ => ?_)
        · refine j_iinc E 75 rfl [(3, .int (J (l3_9 + 1))), (4, .ref xx38_), (0, .ref o), (1, .int (J zz1_)), (2, .int (J l2_9))] dX9_passSummer_72 hl (kk := 4) rfl (by decide) rfl (fun ls hl => ?_)
          refine j_goto E 9 dX9_passSummer_75 (by decide) ?_
          exact ih9 l2_9 (l3_9 + 1) y22_c9 y23_c9 y24_c9 y300_c9 y302_c9 H locs ls r_l2_9 (rr (by omega)) (⟨by first | omega | (simp only [upB_same]; omega), ik9_⟩) (by omega) hw (lv_sub hl [2, 3, 4, 0] rfl)
        · refine j_aload E 49 rfl dX9_passSummer_47 (lv_at hl 0 rfl) ?_
          refine kV_i E (c_X0_isDead l D cy T (upV (upV (upV (upV (upV v_0 22 y22_c9) 23 y23_c9) 24 y24_c9) 300 y300_c9) 302 y302_c9) xx38_  te38_  ) mt_X0_isDead ml_X9_223 hK hw (cw_rc1 hK hw.1 te38_) hA ⟨Nat.le_of_ble_eq_true rfl, Nat.le_of_ble_eq_true rfl⟩ ⟨Nat.le_of_ble_eq_true rfl, Nat.le_of_ble_eq_true rfl⟩ (As := []) (rest := []) rfl rfl hl.1 (Nat.le_of_ble_eq_true rfl) 52 rfl dX9_passSummer_49 (fun zz43_ v_43 H locs rr43_ hq43_ hw => ?_)
          obtain ⟨ev43_, hh43_⟩ := hq43_
          rw [ev43_] at hw; clear ev43_
          replace hh43_ : (zz43_ = 1 ∧ ¬ (y23_c9 xx38_) = -1) ∨ (zz43_ = 0 ∧ (y23_c9 xx38_) = -1) := hh43_
          refine j_if_ne E 55 72 rfl rr43_ dX9_passSummer_52 (by decide) (fun cc44_ => ?_) (fun cc44_ => ?_)
          · refine j_iinc E 75 rfl [(3, .int (J (l3_9 + 1))), (4, .ref xx38_), (0, .ref o), (1, .int (J zz1_)), (2, .int (J l2_9))] dX9_passSummer_72 hl (kk := 4) rfl (by decide) rfl (fun ls hl => ?_)
            refine j_goto E 9 dX9_passSummer_75 (by decide) ?_
            exact ih9 l2_9 (l3_9 + 1) y22_c9 y23_c9 y24_c9 y300_c9 y302_c9 H locs ls r_l2_9 (rr (by omega)) (⟨by first | omega | (simp only [upB_same]; omega), ik9_⟩) (by omega) hw (lv_sub hl [2, 3, 4, 0] rfl)
          · refine j_aload_n E 56 rfl dX9_passSummer_55 rfl (lv_at hl 1 rfl) ?_
            refine j_iload_n E 57 rfl dX9_passSummer_56 rfl (lv_at hl 4 rfl) ?_
            refine j_aload E 59 rfl dX9_passSummer_57 (lv_at hl 0 rfl) ?_
            refine j_iload_n E 60 rfl dX9_passSummer_59 rfl (lv_at hl 2 rfl) ?_
            refine kV_i E (c_X9_callLine l D cy T (upV (upV (upV (upV (upV v_0 22 y22_c9) 23 y23_c9) 24 y24_c9) 300 y300_c9) 302 y302_c9) o l3_9 xx38_ zz1_  t_o r_l3_9 te38_ rr1_ ) mt_X9_callLine ml_X9_232 hK hw (cw_rc9 hK hw.1 t_o) hA ⟨Nat.le_of_ble_eq_true rfl, Nat.le_of_ble_eq_true rfl⟩ ⟨Nat.le_of_ble_eq_true rfl, Nat.le_of_ble_eq_true rfl⟩ (As := [.int (J l3_9), .ref xx38_, .int (J zz1_)]) (rest := []) rfl rfl hl.1 (Nat.le_of_ble_eq_true rfl) 63 rfl dX9_passSummer_60 (fun zz45_ v_45 H locs rr45_ hq45_ hw => ?_)
            obtain ⟨y22_45, y23_45, y24_45, y300_45, y302_45, ev45_, hh45_⟩ := hq45_
            rw [ev45_] at hw; clear ev45_
            have hw : WK D cy T (upV (upV (upV (upV (upV v_0 22 y22_45) 23 y23_45) 24 y24_45) 300 y300_45) 302 y302_45) A0 H0 H locs := cw_eq hw (by first | rfl | (funext j_; simp only [upV, reduceIte]; (repeat' split) <;> first | rfl | omega | (subst_vars; rfl)))
            obtain ⟨hh45_, kf45_⟩ := hh45_
            refine j_if_eq E 66 72 rfl rr45_ dX9_passSummer_63 (by decide) (fun cc46_ => ?_) (fun cc46_ => ?_)
            · refine j_iinc E 75 rfl [(3, .int (J (l3_9 + 1))), (4, .ref xx38_), (0, .ref o), (1, .int (J zz1_)), (2, .int (J l2_9))] dX9_passSummer_72 hl (kk := 4) rfl (by decide) rfl (fun ls hl => ?_)
              refine j_goto E 9 dX9_passSummer_75 (by decide) ?_
              exact ih9 l2_9 (l3_9 + 1) y22_45 y23_45 y24_45 y300_45 y302_45 H locs ls r_l2_9 (rr (by omega)) (⟨by first | omega | (simp only [upB_same]; omega), (Kd_tr ik9_ (Kd_mono kf45_ (by decide)))⟩) (by omega) hw (lv_sub hl [2, 3, 4, 0] rfl)
            · refine j_iload_n E 67 rfl dX9_passSummer_66 rfl (lv_at hl 3 rfl) ?_
              refine j_iconst E 68 rfl dX9_passSummer_67 ?_
              refine j_iload_n E 69 rfl dX9_passSummer_68 rfl (lv_at hl 4 rfl) ?_
              refine j_ishl E 70 rfl dX9_passSummer_69 (fun zz47_ rr47_ ee47_ => ?_)
              refine j_ior E 71 rfl dX9_passSummer_70 (fun zz48_ rr48_ ee48_ => ?_)
              refine j_istore_n E 72 rfl [(2, .int (J zz48_)), (4, .ref xx38_), (0, .ref o), (1, .int (J zz1_)), (3, .int (J l3_9))] dX9_passSummer_71 rfl hl (by decide) rfl (fun ls hl => ?_)
              refine j_iinc E 75 rfl [(3, .int (J (l3_9 + 1))), (2, .int (J zz48_)), (4, .ref xx38_), (0, .ref o), (1, .int (J zz1_))] dX9_passSummer_72 hl (kk := 4) rfl (by decide) rfl (fun ls hl => ?_)
              refine j_goto E 9 dX9_passSummer_75 (by decide) ?_
              exact ih9 zz48_ (l3_9 + 1) y22_45 y23_45 y24_45 y300_45 y302_45 H locs ls rr48_ (rr (by omega)) (⟨by first | omega | (simp only [upB_same]; omega), (Kd_tr ik9_ (Kd_mono kf45_ (by decide)))⟩) (by omega) hw (lv_sub hl [3, 4, 1, 0] rfl)
  exact L9_2 _ 0 0 (v_0 22) (v_0 23) (v_0 24) (v_0 300) (v_0 302) H locs ls (rr (by decide)) (rr (by decide)) (⟨by first | omega | (simp only [upB_same]; omega), Kd_rf⟩) (Nat.lt_succ_self _) (cw_eq hw (by first | rfl | (funext j_; simp only [upV, reduceIte]; (repeat' split) <;> first | rfl | omega | (subst_vars; rfl)))) (lv_sub hl [3, 2, 1, 0] rfl)
set_option maxHeartbeats 4000000 in
set_option maxRecDepth 100000 in
theorem c_X9_summers (l : Launch) (D : va_G) (cy : Nat → ClassId) (T : Nat → Nat → Nat) (v_0 : Nat → Nat → Int) (o : Nat) (v_n : Int) (t_o : T 0 o = 9) (r_v_n : inR v_n) (hp0 : 0 ≤ (v_0 187 o) ∧ (v_0 187 o) ≤ 199) : KC l D cy T yX9_summers cX9_summers 3 (some .int) 9 [.ref o, .int (J v_n)] v_0 (KI (fun (z_0 : Int) (v_2 : Nat → Nat → Int) => ∃ (y22_2 : Nat → Int) (y23_2 : Nat → Int) (y24_2 : Nat → Int) (y44_2 : Nat → Int) (y187_2 : Nat → Int) (y300_2 : Nat → Int) (y302_2 : Nat → Int) , v_2 = upV (upV (upV (upV (upV (upV (upV v_0 22 y22_2) 23 y23_2) 24 y24_2) 44 y44_2) 187 y187_2) 300 y300_2) 302 y302_2 ∧ (((z_0 = -1 ∧ (v_n < 1 ∨ 20 < v_n ∨ 199 < (v_0 187 o) + v_n) ∧ (y187_2 o) = (v_0 187 o) ∧ (y44_2) = (v_0 44)) ∨ (z_0 = (y187_2 o) ∧ 1 ≤ v_n ∧ v_n ≤ 20 ∧ (v_0 187 o) + v_n ≤ 199 ∧ (y187_2 o) = (v_0 187 o) + v_n ∧ ∀ i_ : Nat, (i_ : Int) < (v_0 202 (T 180 o)) → ∀ y_ : Nat, T (1000 + i_) (T 201 (T 180 o)) = y_ + 1 → (y44_2 y_) = 0)) ∧ Kd_ T [46, 47, 48, 194, 195] (v_0 300) y300_2))) := by
  refine KC.ofi (by decide) (Nat.le_of_ble_eq_true rfl) ?_
  intro p e s m below meth c ls ar QW A0 H0 H locs E hK hA hw hl hret
  have hl : lv_has ls 3 [(0, .ref o), (1, .int (J v_n))] := hl
  have hT : WT T := hw.1.2.1
  refine j_iload_n E 1 rfl dX9_summers_0 rfl (lv_at hl 1 rfl) ?_
  refine j_iconst E 2 rfl dX9_summers_1 ?_
  refine j_icmp_lt E 5 23 rfl r_v_n (rr (by decide)) dX9_summers_2 (by decide) (fun cc1_ => ?_) (fun cc1_ => ?_)
  · refine j_iconst E 24 rfl dX9_summers_23 ?_
    exact hret 24 ((-1)) (upV (upV (upV (upV (upV (upV (upV v_0 22 (v_0 22)) 23 (v_0 23)) 24 (v_0 24)) 44 (v_0 44)) 187 (v_0 187)) 300 (v_0 300)) 302 (v_0 302)) _ _ ls (cw_eq hw (by first | rfl | exact (funext fun j_ => if a22_ : j_ = 22 then (by subst a22_; rfl) else if a23_ : j_ = 23 then (by subst a23_; rfl) else if a24_ : j_ = 24 then (by subst a24_; rfl) else if a44_ : j_ = 44 then (by subst a44_; rfl) else if a187_ : j_ = 187 then (by subst a187_; rfl) else if a300_ : j_ = 300 then (by subst a300_; rfl) else if a302_ : j_ = 302 then (by subst a302_; rfl) else (by simp only [upV, if_neg a22_, if_neg a23_, if_neg a24_, if_neg a44_, if_neg a187_, if_neg a300_, if_neg a302_])))) (rr (by decide)) ⟨(v_0 22), (v_0 23), (v_0 24), (v_0 44), (v_0 187), (v_0 300), (v_0 302), rfl, ⟨Or.inl ⟨rfl, by omega, rfl, rfl⟩, Kd_rf⟩⟩ dX9_summers_24
  · refine j_iload_n E 6 rfl dX9_summers_5 rfl (lv_at hl 1 rfl) ?_
    refine j_bipush E 8 rfl dX9_summers_6 (by decide) ?_
    refine j_icmp_gt E 11 23 rfl r_v_n (rr (by decide)) dX9_summers_8 (by decide) (fun cc2_ => ?_) (fun cc2_ => ?_)
    · refine j_iconst E 24 rfl dX9_summers_23 ?_
      exact hret 24 ((-1)) (upV (upV (upV (upV (upV (upV (upV v_0 22 (v_0 22)) 23 (v_0 23)) 24 (v_0 24)) 44 (v_0 44)) 187 (v_0 187)) 300 (v_0 300)) 302 (v_0 302)) _ _ ls (cw_eq hw (by first | rfl | exact (funext fun j_ => if a22_ : j_ = 22 then (by subst a22_; rfl) else if a23_ : j_ = 23 then (by subst a23_; rfl) else if a24_ : j_ = 24 then (by subst a24_; rfl) else if a44_ : j_ = 44 then (by subst a44_; rfl) else if a187_ : j_ = 187 then (by subst a187_; rfl) else if a300_ : j_ = 300 then (by subst a300_; rfl) else if a302_ : j_ = 302 then (by subst a302_; rfl) else (by simp only [upV, if_neg a22_, if_neg a23_, if_neg a24_, if_neg a44_, if_neg a187_, if_neg a300_, if_neg a302_])))) (rr (by decide)) ⟨(v_0 22), (v_0 23), (v_0 24), (v_0 44), (v_0 187), (v_0 300), (v_0 302), rfl, ⟨Or.inl ⟨rfl, by omega, rfl, rfl⟩, Kd_rf⟩⟩ dX9_summers_24
    · refine j_aload_n E 12 rfl dX9_summers_11 rfl (lv_at hl 0 rfl) ?_
      refine g_187 E hK hw fl_X9_37 t_o (v_0 187 o) rfl 15 rfl dX9_summers_12 (fun rr3_ => ?_)
      refine j_iload_n E 16 rfl dX9_summers_15 rfl (lv_at hl 1 rfl) ?_
      refine j_iadd E 17 rfl dX9_summers_16 ?_
      refine j_sipush E 20 rfl dX9_summers_17 (by decide) ?_
      refine j_icmp_le E 23 25 rfl (rr (by omega)) (rr (by decide)) dX9_summers_20 (by decide) (fun cc4_ => ?_) (fun cc4_ => ?_)
      · refine j_iconst E 26 rfl dX9_summers_25 ?_
        refine j_istore_n E 27 rfl [(2, .int (J 0)), (0, .ref o), (1, .int (J v_n))] dX9_summers_26 rfl hl (by decide) rfl (fun ls hl => ?_)
        have L27_5 : ∀ (k27 : Nat) (l2_27 : Int) (y22_c27 : Nat → Int) (y23_c27 : Nat → Int) (y24_c27 : Nat → Int) (y44_c27 : Nat → Int) (y187_c27 : Nat → Int) (y300_c27 : Nat → Int) (y302_c27 : Nat → Int) (H : Heap) (locs : List Loc) (ls : Array Slot), inR l2_27 → (((0 ≤ l2_27 ∧ l2_27 ≤ v_n ∧ (y187_c27 o) = (v_0 187 o) + l2_27) ∧ (0 < l2_27 → ∀ i_ : Nat, (i_ : Int) < (v_0 202 (T 180 o)) → ∀ y_ : Nat, T (1000 + i_) (T 201 (T 180 o)) = y_ + 1 → (y44_c27 y_) = 0)) ∧ Kd_ T [46, 47, 48, 194, 195] (v_0 300) y300_c27) → (v_n - l2_27).toNat < k27 → WK D cy T (upV (upV (upV (upV (upV (upV (upV v_0 22 y22_c27) 23 y23_c27) 24 y24_c27) 44 y44_c27) 187 y187_c27) 300 y300_c27) 302 y302_c27) A0 H0 H locs → lv_has ls 3 [(0, .ref o), (1, .int (J v_n)), (2, .int (J l2_27))] → W p l e (rmd 9 0 0) s m ar below meth c H locs 0 0 QW (F0 m 27 ls []) := by
          intro k27
          induction k27 with
          | zero =>
            intro l2_27 y22_c27 y23_c27 y24_c27 y44_c27 y187_c27 y300_c27 y302_c27 H locs ls r_l2_27 iv27 ms27 hw hl
            exact absurd ms27 (Nat.not_lt_zero _)
          | succ k27 ih27 =>
            intro l2_27 y22_c27 y23_c27 y24_c27 y44_c27 y187_c27 y300_c27 y302_c27 H locs ls r_l2_27 iv27 ms27 hw hl
            obtain ⟨iv27, ik27_⟩ := iv27
            refine j_iload_n E 28 rfl dX9_summers_27 rfl (lv_at hl 2 rfl) ?_
            refine j_iload_n E 29 rfl dX9_summers_28 rfl (lv_at hl 1 rfl) ?_
            refine j_icmp_ge E 32 42 rfl r_l2_27 r_v_n dX9_summers_29 (by decide) (fun cc7_ => ?_) (fun cc7_ => ?_)
            · refine j_aload_n E 43 rfl dX9_summers_42 rfl (lv_at hl 0 rfl) ?_
              refine g_187 E hK hw fl_X9_37 t_o (y187_c27 o) rfl 46 rfl dX9_summers_43 (fun rr8_ => ?_)
              exact hret 46 (y187_c27 o) (upV (upV (upV (upV (upV (upV (upV v_0 22 y22_c27) 23 y23_c27) 24 y24_c27) 44 y44_c27) 187 y187_c27) 300 y300_c27) 302 y302_c27) _ _ ls hw rr8_ ⟨y22_c27, y23_c27, y24_c27, y44_c27, y187_c27, y300_c27, y302_c27, rfl, ⟨Or.inr ⟨rfl, by omega, by omega, by omega, by omega, iv27.2 (by omega)⟩, ik27_⟩⟩ dX9_summers_46
            · refine j_aload_n E 33 rfl dX9_summers_32 rfl (lv_at hl 0 rfl) ?_
              refine kV_v E (c_X9_passSummer l D cy T (upV (upV (upV (upV (upV (upV (upV v_0 22 y22_c27) 23 y23_c27) 24 y24_c27) 44 y44_c27) 187 y187_c27) 300 y300_c27) 302 y302_c27) o  t_o  (show 0 ≤ (y187_c27 o) ∧ (y187_c27 o) ≤ 198 from by omega)) mt_X9_passSummer ml_X9_226 hK hw (cw_rc9 hK hw.1 t_o) hA ⟨Nat.le_of_ble_eq_true rfl, Nat.le_of_ble_eq_true rfl⟩ ⟨Nat.le_of_ble_eq_true rfl, Nat.le_of_ble_eq_true rfl⟩ (As := []) (rest := []) rfl rfl hl.1 (Nat.le_of_ble_eq_true rfl) 36 rfl dX9_summers_33 (fun v_9 H locs hq9_ hw => ?_)
              obtain ⟨y22_9, y23_9, y24_9, y44_9, y187_9, y300_9, y302_9, ev9_, hh9_⟩ := hq9_
              rw [ev9_] at hw; clear ev9_
              have hw : WK D cy T (upV (upV (upV (upV (upV (upV (upV v_0 22 y22_9) 23 y23_9) 24 y24_9) 44 y44_9) 187 y187_9) 300 y300_9) 302 y302_9) A0 H0 H locs := cw_eq hw (by first | rfl | exact (funext fun j_ => if a22_ : j_ = 22 then (by subst a22_; rfl) else if a23_ : j_ = 23 then (by subst a23_; rfl) else if a24_ : j_ = 24 then (by subst a24_; rfl) else if a44_ : j_ = 44 then (by subst a44_; rfl) else if a187_ : j_ = 187 then (by subst a187_; rfl) else if a300_ : j_ = 300 then (by subst a300_; rfl) else if a302_ : j_ = 302 then (by subst a302_; rfl) else (by simp only [upV, if_neg a22_, if_neg a23_, if_neg a24_, if_neg a44_, if_neg a187_, if_neg a300_, if_neg a302_])))
              obtain ⟨hh9_, kf9_⟩ := hh9_
              replace hh9_ : (y187_9 o) = (y187_c27 o) + 1 ∧ ∀ i_ : Nat, (i_ : Int) < ((v_0 202) (T 180 o)) → ∀ y_ : Nat, T (1000 + i_) (T 201 (T 180 o)) = y_ + 1 → (y44_9 y_) = 0 := hh9_
              have ha_ := hh9_.2
              refine j_iinc E 39 rfl [(2, .int (J (l2_27 + 1))), (0, .ref o), (1, .int (J v_n))] dX9_summers_36 hl (kk := 2) rfl (by decide) rfl (fun ls hl => ?_)
              refine j_goto E 27 dX9_summers_39 (by decide) ?_
              exact ih27 (l2_27 + 1) y22_9 y23_9 y24_9 y44_9 y187_9 y300_9 y302_9 H locs ls (rr (by omega)) (⟨⟨by omega, fun _ => ha_⟩, (Kd_tr ik27_ (Kd_mono kf9_ (by decide)))⟩) (by omega) hw (lv_sub hl [1, 2, 0] rfl)
        exact L27_5 _ 0 (v_0 22) (v_0 23) (v_0 24) (v_0 44) (v_0 187) (v_0 300) (v_0 302) H locs ls (rr (by decide)) (⟨⟨by omega, fun h_ => absurd h_ (by omega)⟩, Kd_rf⟩) (Nat.lt_succ_self _) (cw_eq hw (by first | rfl | exact (funext fun j_ => if a22_ : j_ = 22 then (by subst a22_; rfl) else if a23_ : j_ = 23 then (by subst a23_; rfl) else if a24_ : j_ = 24 then (by subst a24_; rfl) else if a44_ : j_ = 44 then (by subst a44_; rfl) else if a187_ : j_ = 187 then (by subst a187_; rfl) else if a300_ : j_ = 300 then (by subst a300_; rfl) else if a302_ : j_ = 302 then (by subst a302_; rfl) else (by simp only [upV, if_neg a22_, if_neg a23_, if_neg a24_, if_neg a44_, if_neg a187_, if_neg a300_, if_neg a302_])))) (lv_sub hl [1, 2, 0] rfl)
      · refine j_iconst E 24 rfl dX9_summers_23 ?_
        exact hret 24 ((-1)) (upV (upV (upV (upV (upV (upV (upV v_0 22 (v_0 22)) 23 (v_0 23)) 24 (v_0 24)) 44 (v_0 44)) 187 (v_0 187)) 300 (v_0 300)) 302 (v_0 302)) _ _ ls (cw_eq hw (by first | rfl | exact (funext fun j_ => if a22_ : j_ = 22 then (by subst a22_; rfl) else if a23_ : j_ = 23 then (by subst a23_; rfl) else if a24_ : j_ = 24 then (by subst a24_; rfl) else if a44_ : j_ = 44 then (by subst a44_; rfl) else if a187_ : j_ = 187 then (by subst a187_; rfl) else if a300_ : j_ = 300 then (by subst a300_; rfl) else if a302_ : j_ = 302 then (by subst a302_; rfl) else (by simp only [upV, if_neg a22_, if_neg a23_, if_neg a24_, if_neg a44_, if_neg a187_, if_neg a300_, if_neg a302_])))) (rr (by decide)) ⟨(v_0 22), (v_0 23), (v_0 24), (v_0 44), (v_0 187), (v_0 300), (v_0 302), rfl, ⟨Or.inl ⟨rfl, by omega, rfl, rfl⟩, Kd_rf⟩⟩ dX9_summers_24
set_option maxHeartbeats 4000000 in
set_option maxRecDepth 100000 in
theorem c_X9_said (l : Launch) (D : va_G) (cy : Nat → ClassId) (T : Nat → Nat → Nat) (v_0 : Nat → Nat → Int) (o : Nat) (v_l : Int) (v_k : Int) (t_o : T 0 o = 9) (r_v_l : inR v_l) (r_v_k : inR v_k) : KC l D cy T yX9_said cX9_said 4 (some .int) 5 [.ref o, .int (J v_l), .int (J v_k)] v_0 (KI (fun (z_0 : Int) (v_2 : Nat → Nat → Int) => v_2 = v_0 ∧ (True))) := by
  refine KC.ofi (by decide) (Nat.le_of_ble_eq_true rfl) ?_
  intro p e s m below meth c ls ar QW A0 H0 H locs E hK hA hw hl hret
  have hl : lv_has ls 4 [(0, .ref o), (1, .int (J v_l)), (2, .int (J v_k))] := hl
  have hT : WT T := hw.1.2.1
  refine j_aload_n E 1 rfl dX9_said_0 rfl (lv_at hl 0 rfl) ?_
  refine j_iload_n E 2 rfl dX9_said_1 rfl (lv_at hl 1 rfl) ?_
  refine kV_r E (c_X9_lineAt l D cy T (v_0) o v_l  t_o r_v_l ) mt_X9_lineAt ml_X9_195 hK hw (cw_rc9 hK hw.1 t_o) hA ⟨Nat.le_of_ble_eq_true rfl, Nat.le_of_ble_eq_true rfl⟩ ⟨Nat.le_of_ble_eq_true rfl, Nat.le_of_ble_eq_true rfl⟩ (As := [.int (J v_l)]) (rest := []) rfl rfl hl.1 (Nat.le_of_ble_eq_true rfl) 5 rfl dX9_said_2 (fun oo1_ v_1 H locs hq1_ hw => ?_)
  obtain ⟨ev1_, hh1_⟩ := hq1_
  rw [ev1_] at hw; clear ev1_
  obtain ⟨tt1_, hh1_⟩ := hh1_
  replace hh1_ : (oo1_ = none → (v_l < 0 ∨ ((v_0 202) (T 181 o)) ≤ v_l)) ∧ (∀ y_, oo1_ = some y_ → 0 ≤ v_l ∧ v_l < ((v_0 202) (T 181 o)) ∧ T (1000 + (v_l).toNat) (T 201 (T 181 o)) = y_ + 1) := hh1_
  cases oo1_ with
  | none =>
    refine j_astore_nN E 6 rfl [(3, .null), (0, .ref o), (1, .int (J v_l)), (2, .int (J v_k))] dX9_said_5 rfl hl (by decide) rfl (fun ls hl => ?_)
    refine j_aload_nN E 7 rfl dX9_said_6 rfl (lv_at hl 0 rfl) ?_
    refine j_ifnullN E 18 dX9_said_7 (by decide) ?_
    refine j_bipush E 20 rfl dX9_said_18 (by decide) ?_
    refine j_goto E 28 dX9_said_20 (by decide) ?_
    exact hret 28 ((-2)) (v_0) _ _ ls hw (rr (by decide)) ⟨rfl, trivial⟩ dX9_said_28
  | some xx1_ =>
    have te1_ := tt1_ xx1_ rfl
    have tr_ := te1_
    refine j_astore_n E 6 rfl [(3, .ref xx1_), (0, .ref o), (1, .int (J v_l)), (2, .int (J v_k))] dX9_said_5 rfl hl (by decide) rfl (fun ls hl => ?_)
    refine j_aload_n E 7 rfl dX9_said_6 rfl (lv_at hl 0 rfl) ?_
    refine j_ifnullR E 10 rfl dX9_said_7 ?_
    refine j_aload_n E 11 rfl dX9_said_10 rfl (lv_at hl 1 rfl) ?_
    refine j_iload_n E 12 rfl dX9_said_11 rfl (lv_at hl 3 rfl) ?_
    refine kV_i E (c_X9_isPast l D cy T (v_0) o v_k  t_o r_v_k ) mt_X9_isPast ml_X9_283 hK hw (cw_rc9 hK hw.1 t_o) hA ⟨Nat.le_of_ble_eq_true rfl, Nat.le_of_ble_eq_true rfl⟩ ⟨Nat.le_of_ble_eq_true rfl, Nat.le_of_ble_eq_true rfl⟩ (As := [.int (J v_k)]) (rest := []) rfl rfl hl.1 (Nat.le_of_ble_eq_true rfl) 15 rfl dX9_said_12 (fun zz2_ v_2 H locs rr2_ hq2_ hw => ?_)
    obtain ⟨ev2_, hh2_⟩ := hq2_
    rw [ev2_] at hw; clear ev2_
    replace hh2_ : (zz2_ = 1 ∧ 0 ≤ v_k ∧ v_k < ((v_0 187) o)) ∨ (zz2_ = 0 ∧ ¬ (0 ≤ v_k ∧ v_k < ((v_0 187) o))) := hh2_
    refine j_if_ne E 18 23 rfl rr2_ dX9_said_15 (by decide) (fun cc3_ => ?_) (fun cc3_ => ?_)
    · refine j_aload_n E 24 rfl dX9_said_23 rfl (lv_at hl 0 rfl) ?_
      refine j_iload_n E 25 rfl dX9_said_24 rfl (lv_at hl 3 rfl) ?_
      refine kV_i E (c_X0_voiceIn l D cy T (v_0) xx1_ v_k  te1_ r_v_k ) mt_X0_voiceIn ml_X9_286 hK hw (cw_rc1 hK hw.1 te1_) hA ⟨Nat.le_of_ble_eq_true rfl, Nat.le_of_ble_eq_true rfl⟩ ⟨Nat.le_of_ble_eq_true rfl, Nat.le_of_ble_eq_true rfl⟩ (As := [.int (J v_k)]) (rest := []) rfl rfl hl.1 (Nat.le_of_ble_eq_true rfl) 28 rfl dX9_said_25 (fun zz4_ v_4 H locs rr4_ hq4_ hw => ?_)
      obtain ⟨ev4_, hh4_⟩ := hq4_
      rw [ev4_] at hw; clear ev4_
      exact hret 28 zz4_ (v_0) _ _ ls hw rr4_ ⟨rfl, trivial⟩ dX9_said_28
    · refine j_bipush E 20 rfl dX9_said_18 (by decide) ?_
      refine j_goto E 28 dX9_said_20 (by decide) ?_
      exact hret 28 ((-2)) (v_0) _ _ ls hw (rr (by decide)) ⟨rfl, trivial⟩ dX9_said_28
set_option maxHeartbeats 4000000 in
set_option maxRecDepth 100000 in
theorem c_X9_stood (l : Launch) (D : va_G) (cy : Nat → ClassId) (T : Nat → Nat → Nat) (v_0 : Nat → Nat → Int) (o : Nat) (v_l : Int) (v_k : Int) (t_o : T 0 o = 9) (r_v_l : inR v_l) (r_v_k : inR v_k) (hp0 : (v_0 187 o) ≤ 199) : KC l D cy T yX9_stood cX9_stood 4 (some .int) 5 [.ref o, .int (J v_l), .int (J v_k)] v_0 (KI (fun (z_0 : Int) (v_2 : Nat → Nat → Int) => v_2 = v_0 ∧ (True))) := by
  refine KC.ofi (by decide) (Nat.le_of_ble_eq_true rfl) ?_
  intro p e s m below meth c ls ar QW A0 H0 H locs E hK hA hw hl hret
  have hl : lv_has ls 4 [(0, .ref o), (1, .int (J v_l)), (2, .int (J v_k))] := hl
  have hT : WT T := hw.1.2.1
  refine j_aload_n E 1 rfl dX9_stood_0 rfl (lv_at hl 0 rfl) ?_
  refine j_iload_n E 2 rfl dX9_stood_1 rfl (lv_at hl 1 rfl) ?_
  refine kV_r E (c_X9_lineAt l D cy T (v_0) o v_l  t_o r_v_l ) mt_X9_lineAt ml_X9_195 hK hw (cw_rc9 hK hw.1 t_o) hA ⟨Nat.le_of_ble_eq_true rfl, Nat.le_of_ble_eq_true rfl⟩ ⟨Nat.le_of_ble_eq_true rfl, Nat.le_of_ble_eq_true rfl⟩ (As := [.int (J v_l)]) (rest := []) rfl rfl hl.1 (Nat.le_of_ble_eq_true rfl) 5 rfl dX9_stood_2 (fun oo1_ v_1 H locs hq1_ hw => ?_)
  obtain ⟨ev1_, hh1_⟩ := hq1_
  rw [ev1_] at hw; clear ev1_
  obtain ⟨tt1_, hh1_⟩ := hh1_
  replace hh1_ : (oo1_ = none → (v_l < 0 ∨ ((v_0 202) (T 181 o)) ≤ v_l)) ∧ (∀ y_, oo1_ = some y_ → 0 ≤ v_l ∧ v_l < ((v_0 202) (T 181 o)) ∧ T (1000 + (v_l).toNat) (T 201 (T 181 o)) = y_ + 1) := hh1_
  cases oo1_ with
  | none =>
    refine j_astore_nN E 6 rfl [(3, .null), (0, .ref o), (1, .int (J v_l)), (2, .int (J v_k))] dX9_stood_5 rfl hl (by decide) rfl (fun ls hl => ?_)
    refine j_aload_nN E 7 rfl dX9_stood_6 rfl (lv_at hl 0 rfl) ?_
    refine j_ifnullN E 18 dX9_stood_7 (by decide) ?_
    refine j_iconst E 19 rfl dX9_stood_18 ?_
    refine j_goto E 27 dX9_stood_19 (by decide) ?_
    exact hret 27 ((-1)) (v_0) _ _ ls hw (rr (by decide)) ⟨rfl, trivial⟩ dX9_stood_27
  | some xx1_ =>
    have te1_ := tt1_ xx1_ rfl
    have tr_ := te1_
    refine j_astore_n E 6 rfl [(3, .ref xx1_), (0, .ref o), (1, .int (J v_l)), (2, .int (J v_k))] dX9_stood_5 rfl hl (by decide) rfl (fun ls hl => ?_)
    refine j_aload_n E 7 rfl dX9_stood_6 rfl (lv_at hl 0 rfl) ?_
    refine j_ifnullR E 10 rfl dX9_stood_7 ?_
    refine j_aload_n E 11 rfl dX9_stood_10 rfl (lv_at hl 1 rfl) ?_
    refine j_iload_n E 12 rfl dX9_stood_11 rfl (lv_at hl 3 rfl) ?_
    refine kV_i E (c_X9_isPast l D cy T (v_0) o v_k  t_o r_v_k ) mt_X9_isPast ml_X9_283 hK hw (cw_rc9 hK hw.1 t_o) hA ⟨Nat.le_of_ble_eq_true rfl, Nat.le_of_ble_eq_true rfl⟩ ⟨Nat.le_of_ble_eq_true rfl, Nat.le_of_ble_eq_true rfl⟩ (As := [.int (J v_k)]) (rest := []) rfl rfl hl.1 (Nat.le_of_ble_eq_true rfl) 15 rfl dX9_stood_12 (fun zz2_ v_2 H locs rr2_ hq2_ hw => ?_)
    obtain ⟨ev2_, hh2_⟩ := hq2_
    rw [ev2_] at hw; clear ev2_
    replace hh2_ : (zz2_ = 1 ∧ 0 ≤ v_k ∧ v_k < ((v_0 187) o)) ∨ (zz2_ = 0 ∧ ¬ (0 ≤ v_k ∧ v_k < ((v_0 187) o))) := hh2_
    refine j_if_ne E 18 22 rfl rr2_ dX9_stood_15 (by decide) (fun cc3_ => ?_) (fun cc3_ => ?_)
    · refine j_aload_n E 23 rfl dX9_stood_22 rfl (lv_at hl 0 rfl) ?_
      refine j_iload_n E 24 rfl dX9_stood_23 rfl (lv_at hl 3 rfl) ?_
      refine kV_i E (c_X0_lawAt l D cy T (v_0) xx1_ v_k  te1_ r_v_k (show v_k < 200 from by omega)) mt_X0_lawAt ml_X9_289 hK hw (cw_rc1 hK hw.1 te1_) hA ⟨Nat.le_of_ble_eq_true rfl, Nat.le_of_ble_eq_true rfl⟩ ⟨Nat.le_of_ble_eq_true rfl, Nat.le_of_ble_eq_true rfl⟩ (As := [.int (J v_k)]) (rest := []) rfl rfl hl.1 (Nat.le_of_ble_eq_true rfl) 27 rfl dX9_stood_24 (fun zz4_ v_4 H locs rr4_ hq4_ hw => ?_)
      obtain ⟨ev4_, hh4_⟩ := hq4_
      rw [ev4_] at hw; clear ev4_
      replace hh4_ : Lw_ (((v_0 23) xx1_)) (gC_ (v_0 302) (T 26 xx1_)) v_k zz4_ := hh4_
      exact hret 27 zz4_ (v_0) _ _ ls hw rr4_ ⟨rfl, trivial⟩ dX9_stood_27
    · refine j_iconst E 19 rfl dX9_stood_18 ?_
      refine j_goto E 27 dX9_stood_19 (by decide) ?_
      exact hret 27 ((-1)) (v_0) _ _ ls hw (rr (by decide)) ⟨rfl, trivial⟩ dX9_stood_27
set_option maxHeartbeats 4000000 in
set_option maxRecDepth 100000 in
theorem c_X9_reckonByLaw (l : Launch) (D : va_G) (cy : Nat → ClassId) (T : Nat → Nat → Nat) (v_0 : Nat → Nat → Int) (o : Nat) (v_l : Int) (v_k : Int) (F_ : Int → Int) (S1_ : Int → List Int) (S2_ : Int → List Int) (S3_ : Int → List Int) (t_o : T 0 o = 9) (r_v_l : inR v_l) (r_v_k : inR v_k) (hp0 : Wd_ T (v_0 300) o (v_0 202 (T 182 o)) S1_ S2_ S3_) (hp1 : 0 ≤ v_l) (hp2 : (v_0 202 (T 181 o)) ≤ 24) (hp3 : ∀ i_, 0 ≤ i_ → i_ ≤ 4 → gC_ (v_0 300) (T 100 (T 193 o)) i_ = F_ i_) (hp4 : 0 ≤ v_l ∧ v_l < (v_0 202 (T 181 o))) (hp5 : v_k < 200) : KC l D cy T yX9_reckonByLaw cX9_reckonByLaw 4 (some .int) 5 [.ref o, .int (J v_l), .int (J v_k)] v_0 (KI (fun (z_0 : Int) (v_2 : Nat → Nat → Int) => ∃ (y103_2 : Nat → Int) (y300_2 : Nat → Int) , v_2 = upV (upV v_0 103 y103_2) 300 y300_2 ∧ (((∃ g_ : Int → Int, z_0 = g_ v_l ∧ Owc_ (fun y_ w_ => ∃ x_ z_, ELn_ T 181 o (y_).toNat = x_ + 1 ∧ Lw_ ((v_0 23 x_)) (gC_ (v_0 302) (T 26 x_)) v_k z_ ∧ w_ = nrm_ (v_0 202 (T 182 o)) z_) F_ g_ (v_l + 1) S1_ S2_ S3_) ∧ (∀ b_, b_ ≠ (T 101 (T 193 o)) → b_ ≠ (T 102 (T 193 o)) → ∀ i_, (y300_2) (pr b_ i_) = (v_0 300) (pr b_ i_))) ∧ Kd_ T [101, 102] (v_0 300) y300_2))) := by
  refine KC.ofi (by decide) (Nat.le_of_ble_eq_true rfl) ?_
  intro p e s m below meth c ls ar QW A0 H0 H locs E hK hA hw hl hret
  have hl : lv_has ls 4 [(0, .ref o), (1, .int (J v_l)), (2, .int (J v_k))] := hl
  have hT : WT T := hw.1.2.1
  have tr9_ := wt_193 hT t_o
  have n12_ : T 101 (T 193 o) ≠ T 102 (T 193 o) := ro_ne (wo_101 hT tr9_) (wo_102 hT tr9_) (by decide) (by decide) (by omega)
  have n01_ : T 100 (T 193 o) ≠ T 101 (T 193 o) := ro_ne (wo_100 hT tr9_) (wo_101 hT tr9_) (by decide) (by decide) (by omega)
  have n02_ : T 100 (T 193 o) ≠ T 102 (T 193 o) := ro_ne (wo_100 hT tr9_) (wo_102 hT tr9_) (by decide) (by decide) (by omega)
  have fq_ := hp3
  refine j_iconst E 1 rfl dX9_reckonByLaw_0 ?_
  refine j_istore_n E 2 rfl [(3, .int (J 0)), (0, .ref o), (1, .int (J v_l)), (2, .int (J v_k))] dX9_reckonByLaw_1 rfl hl (by decide) rfl (fun ls hl => ?_)
  have L2_1 : ∀ (k2 : Nat) (l3_2 : Int) (y103_c2 : Nat → Int) (y300_c2 : Nat → Int) (H : Heap) (locs : List Loc) (ls : Array Slot), inR l3_2 → (((0 ≤ l3_2 ∧ l3_2 ≤ v_l + 1) ∧ (∀ b_, b_ ≠ (T 101 (T 193 o)) → b_ ≠ (T 102 (T 193 o)) → ∀ i_, (y300_c2) (pr b_ i_) = (v_0 300) (pr b_ i_)) ∧ Owc_ (fun y_ w_ => ∃ x_ z_, ELn_ T 181 o (y_).toNat = x_ + 1 ∧ Lw_ ((v_0 23 x_)) (gC_ (v_0 302) (T 26 x_)) v_k z_ ∧ w_ = nrm_ (v_0 202 (T 182 o)) z_) F_ (gC_ (y300_c2) (T 101 (T 193 o))) l3_2 S1_ S2_ S3_) ∧ Kd_ T [101, 102] (v_0 300) y300_c2) → (v_l + 1 - l3_2).toNat < k2 → WK D cy T (upV (upV v_0 103 y103_c2) 300 y300_c2) A0 H0 H locs → lv_has ls 4 [(0, .ref o), (1, .int (J v_l)), (2, .int (J v_k)), (3, .int (J l3_2))] → W p l e (rmd 5 0 0) s m ar below meth c H locs 0 0 QW (F0 m 2 ls []) := by
    intro k2
    induction k2 with
    | zero =>
      intro l3_2 y103_c2 y300_c2 H locs ls r_l3_2 iv2 ms2 hw hl
      exact absurd ms2 (Nat.not_lt_zero _)
    | succ k2 ih2 =>
      intro l3_2 y103_c2 y300_c2 H locs ls r_l3_2 iv2 ms2 hw hl
      obtain ⟨iv2, ik2_⟩ := iv2
      refine j_iload_n E 3 rfl dX9_reckonByLaw_2 rfl (lv_at hl 3 rfl) ?_
      refine j_iload_n E 4 rfl dX9_reckonByLaw_3 rfl (lv_at hl 1 rfl) ?_
      refine j_icmp_gt E 7 51 rfl r_l3_2 r_v_l dX9_reckonByLaw_4 (by decide) (fun cc3_ => ?_) (fun cc3_ => ?_)
      · refine j_aload_n E 52 rfl dX9_reckonByLaw_51 rfl (lv_at hl 0 rfl) ?_
        refine g_193 E hK hw fl_X9_62 t_o 55 rfl dX9_reckonByLaw_52 ?_
        refine j_iload_n E 56 rfl dX9_reckonByLaw_55 rfl (lv_at hl 1 rfl) ?_
        refine kV_i E (c_X4_owedBy l D cy T (upV (upV v_0 103 y103_c2) 300 y300_c2) (T 193 o) v_l  (wt_193 hT t_o) r_v_l ) mt_X4_owedBy ml_X9_310 hK hw (cw_rc5 hK hw.1 (wt_193 hT t_o)) hA ⟨Nat.le_of_ble_eq_true rfl, Nat.le_of_ble_eq_true rfl⟩ ⟨Nat.le_of_ble_eq_true rfl, Nat.le_of_ble_eq_true rfl⟩ (As := [.int (J v_l)]) (rest := []) rfl rfl hl.1 (Nat.le_of_ble_eq_true rfl) 59 rfl dX9_reckonByLaw_56 (fun zz4_ v_4 H locs rr4_ hq4_ hw => ?_)
        obtain ⟨ev4_, hh4_⟩ := hq4_
        rw [ev4_] at hw; clear ev4_
        replace hh4_ : (0 ≤ v_l ∧ v_l < 24 ∧ zz4_ = gC_ (y300_c2) (T 101 (T 193 o)) v_l) ∨ (¬ (0 ≤ v_l ∧ v_l < 24) ∧ zz4_ = 0) := hh4_
        have ob_ := hh4_
        clear hh4_
        exact hret 59 zz4_ (upV (upV v_0 103 y103_c2) 300 y300_c2) _ _ ls hw rr4_ ⟨y103_c2, y300_c2, rfl, ⟨⟨⟨gC_ (y300_c2) (T 101 (T 193 o)), by omega, by rw [show v_l + 1 = l3_2 by omega]; exact iv2.2.2⟩, iv2.2.1⟩, ik2_⟩⟩ dX9_reckonByLaw_59
      · refine j_iload_n E 8 rfl dX9_reckonByLaw_7 rfl (lv_at hl 3 rfl) ?_
        refine j_aload_n E 9 rfl dX9_reckonByLaw_8 rfl (lv_at hl 0 rfl) ?_
        refine g_181 E hK hw fl_X9_16 t_o 12 rfl dX9_reckonByLaw_9 ?_
        refine kV_i E (c_Jx4a65c_size_8abf5 l D cy T (upV (upV v_0 103 y103_c2) 300 y300_c2) (T 181 o)  (wt_181 hT t_o)  ) mt_Jx4a65c_size_8abf5 ml_X9_80 hK hw (cw_rc10 hK hw.1 (wt_181 hT t_o)) hA ⟨Nat.le_of_ble_eq_true rfl, Nat.le_of_ble_eq_true rfl⟩ ⟨Nat.le_of_ble_eq_true rfl, Nat.le_of_ble_eq_true rfl⟩ (As := []) (rest := [.int (J l3_2)]) rfl rfl hl.1 (Nat.le_of_ble_eq_true rfl) 15 rfl dX9_reckonByLaw_12 (fun zz5_ v_5 H locs rr5_ hq5_ hw => ?_)
        obtain ⟨ev5_, hh5_⟩ := hq5_
        rw [ev5_] at hw; clear ev5_
        replace hh5_ : zz5_ = ((v_0 202) ((T 181 o))) ∧ 0 ≤ zz5_ := hh5_
        refine j_icmp_ge E 18 51 rfl r_l3_2 rr5_ dX9_reckonByLaw_15 (by decide) (fun cc6_ => ?_) (fun cc6_ => ?_)
        · refine j_aload_n E 52 rfl dX9_reckonByLaw_51 rfl (lv_at hl 0 rfl) ?_
          refine g_193 E hK hw fl_X9_62 t_o 55 rfl dX9_reckonByLaw_52 ?_
          refine j_iload_n E 56 rfl dX9_reckonByLaw_55 rfl (lv_at hl 1 rfl) ?_
          refine kV_i E (c_X4_owedBy l D cy T (upV (upV v_0 103 y103_c2) 300 y300_c2) (T 193 o) v_l  (wt_193 hT t_o) r_v_l ) mt_X4_owedBy ml_X9_310 hK hw (cw_rc5 hK hw.1 (wt_193 hT t_o)) hA ⟨Nat.le_of_ble_eq_true rfl, Nat.le_of_ble_eq_true rfl⟩ ⟨Nat.le_of_ble_eq_true rfl, Nat.le_of_ble_eq_true rfl⟩ (As := [.int (J v_l)]) (rest := []) rfl rfl hl.1 (Nat.le_of_ble_eq_true rfl) 59 rfl dX9_reckonByLaw_56 (fun zz7_ v_7 H locs rr7_ hq7_ hw => ?_)
          obtain ⟨ev7_, hh7_⟩ := hq7_
          rw [ev7_] at hw; clear ev7_
          replace hh7_ : (0 ≤ v_l ∧ v_l < 24 ∧ zz7_ = gC_ (y300_c2) (T 101 (T 193 o)) v_l) ∨ (¬ (0 ≤ v_l ∧ v_l < 24) ∧ zz7_ = 0) := hh7_
          have ob_ := hh7_
          clear hh7_
          exact hret 59 zz7_ (upV (upV v_0 103 y103_c2) 300 y300_c2) _ _ ls hw rr7_ ⟨y103_c2, y300_c2, rfl, ⟨⟨⟨gC_ (y300_c2) (T 101 (T 193 o)), by omega, by rw [show v_l + 1 = l3_2 by omega]; exact iv2.2.2⟩, iv2.2.1⟩, ik2_⟩⟩ dX9_reckonByLaw_59
        · refine j_aload_n E 19 rfl dX9_reckonByLaw_18 rfl (lv_at hl 0 rfl) ?_
          refine g_193 E hK hw fl_X9_62 t_o 22 rfl dX9_reckonByLaw_19 ?_
          refine j_iload_n E 23 rfl dX9_reckonByLaw_22 rfl (lv_at hl 3 rfl) ?_
          refine j_aload_n E 24 rfl dX9_reckonByLaw_23 rfl (lv_at hl 0 rfl) ?_
          refine j_aload_n E 25 rfl dX9_reckonByLaw_24 rfl (lv_at hl 0 rfl) ?_
          refine g_181 E hK hw fl_X9_16 t_o 28 rfl dX9_reckonByLaw_25 ?_
          refine j_iload_n E 29 rfl dX9_reckonByLaw_28 rfl (lv_at hl 3 rfl) ?_
          refine kV_n E (c_Jx4a65c_get_915e3 l D cy T (upV (upV v_0 103 y103_c2) 300 y300_c2) (T 181 o) l3_2  (wt_181 hT t_o) r_l3_2 (show 0 ≤ l3_2 ∧ l3_2 < ((v_0 202) ((T 181 o))) from by omega)) mt_Jx4a65c_get_915e3 ml_X9_123 hK hw (cw_rc10 hK hw.1 (wt_181 hT t_o)) hA ⟨Nat.le_of_ble_eq_true rfl, Nat.le_of_ble_eq_true rfl⟩ ⟨Nat.le_of_ble_eq_true rfl, Nat.le_of_ble_eq_true rfl⟩ (As := [.int (J l3_2)]) (rest := [.ref o, .int (J l3_2), .ref (T 193 o)]) rfl rfl hl.1 (Nat.le_of_ble_eq_true rfl) 32 rfl dX9_reckonByLaw_29 (fun xx8_ v_8 H locs hq8_ hw => ?_)
          obtain ⟨ev8_, hh8_⟩ := hq8_
          rw [ev8_] at hw; clear ev8_
          replace hh8_ : dcd (T (1000 + (l3_2).toNat) (T 201 (T 181 o))) = some xx8_ ∧ T 0 xx8_ = T 2 (T 181 o) := hh8_
          have te8_ : T 0 xx8_ = 1 := hh8_.2.trans (we_181 hT t_o)
          have tg_ := te8_
          have hg_ : ELn_ T 181 o (l3_2).toNat = _ + 1 := dcd_e hh8_.1
          refine k_cast1 E hK hw cl_X9_167 te8_ 35 rfl dX9_reckonByLaw_32 ?_
          refine j_iload_n E 36 rfl dX9_reckonByLaw_35 rfl (lv_at hl 2 rfl) ?_
          refine kV_i E (c_X0_lawAt l D cy T (upV (upV v_0 103 y103_c2) 300 y300_c2) xx8_ v_k  te8_ r_v_k (show v_k < 200 from by omega)) mt_X0_lawAt ml_X9_289 hK hw (cw_rc1 hK hw.1 te8_) hA ⟨Nat.le_of_ble_eq_true rfl, Nat.le_of_ble_eq_true rfl⟩ ⟨Nat.le_of_ble_eq_true rfl, Nat.le_of_ble_eq_true rfl⟩ (As := [.int (J v_k)]) (rest := [.ref o, .int (J l3_2), .ref (T 193 o)]) rfl rfl hl.1 (Nat.le_of_ble_eq_true rfl) 39 rfl dX9_reckonByLaw_36 (fun zz9_ v_9 H locs rr9_ hq9_ hw => ?_)
          obtain ⟨ev9_, hh9_⟩ := hq9_
          rw [ev9_] at hw; clear ev9_
          replace hh9_ : Lw_ (((v_0 23) xx8_)) (gC_ (v_0 302) (T 26 xx8_)) v_k zz9_ := hh9_
          have lw_ := hh9_
          clear hh9_
          obtain ⟨wb_, eb_⟩ : ∃ z_ : Int, z_ = nrm_ (v_0 202 (T 182 o)) zz9_ := ⟨_, rfl⟩
          have nb_ := nrm_rg (v_0 202 (T 182 o)) zz9_
          rw [← eb_] at nb_
          refine kV_r E (c_X9_wordingAt l D cy T (upV (upV v_0 103 y103_c2) 300 y300_c2) o zz9_  t_o rr9_ ) mt_X9_wordingAt ml_X9_302 hK hw (cw_rc9 hK hw.1 t_o) hA ⟨Nat.le_of_ble_eq_true rfl, Nat.le_of_ble_eq_true rfl⟩ ⟨Nat.le_of_ble_eq_true rfl, Nat.le_of_ble_eq_true rfl⟩ (As := [.int (J zz9_)]) (rest := [.int (J l3_2), .ref (T 193 o)]) rfl rfl hl.1 (Nat.le_of_ble_eq_true rfl) 42 rfl dX9_reckonByLaw_39 (fun oo10_ v_10 H locs hq10_ hw => ?_)
          obtain ⟨ev10_, hh10_⟩ := hq10_
          rw [ev10_] at hw; clear ev10_
          obtain ⟨tt10_, hh10_⟩ := hh10_
          replace hh10_ : (oo10_ = none → (zz9_ < 0 ∨ ((v_0 202) (T 182 o)) ≤ zz9_)) ∧ (∀ y_, oo10_ = some y_ → 0 ≤ zz9_ ∧ zz9_ < ((v_0 202) (T 182 o)) ∧ T (1000 + (zz9_).toNat) (T 201 (T 182 o)) = y_ + 1) := hh10_
          cases oo10_ with
          | none =>
            first | have hn_ := hh10_.1 rfl | have hs_ := hh10_.2 _ rfl
            try (have wz_ := nb_.1 ⟨hs_.1, hs_.2.1⟩; rw [← wz_] at hs_)
            try (have wz_ := nb_.2 (fun q_ => hn_.elim (fun q2_ => absurd q_.1 (by omega)) (fun q2_ => absurd q_.2 (by omega))))
            refine kV_v E (c_X4_reckon l D cy T (upV (upV v_0 103 y103_c2) 300 y300_c2) (T 193 o) l3_2 none (gC_ (y300_c2) (T 100 (T 193 o))) (gC_ (y300_c2) (T 101 (T 193 o))) (S1_ wb_) (S2_ wb_) (S3_ wb_) (wt_193 hT t_o) r_l3_2 (fun x h => by cases h) (show ((gC_ (y300_c2) (T 100 (T 193 o)))) = gC_ (y300_c2) (T 100 (T 193 o)) from rfl) (show ((gC_ (y300_c2) (T 101 (T 193 o)))) = gC_ (y300_c2) (T 101 (T 193 o)) from rfl) (show ∀ x_, none = some x_ → lL_ (gC_ (y300_c2) (T 162 x_)) 0 (T 1 (T 162 x_) : Int) = ((S1_ wb_)) ++ (wh_ ((S2_ wb_)) ++ ul_ ((S3_ wb_))) ∧ TyN_ ((S1_ wb_)) ∧ TyB_ ((S2_ wb_)) ∧ TyB_ ((S3_ wb_)) from fun x_ q_ => by first | (cases q_; done) | (cases q_; exact wd_at hp0 hs_.1 hs_.2.1 hs_.2.2 (fun i_ => (iv2.2.1 _ (ro_ne (wo_162 hT tr_) (wo_101 hT tr9_) (by decide) (by decide) (by omega)) (ro_ne (wo_162 hT tr_) (wo_102 hT tr9_) (by decide) (by decide) (by omega)) i_)))) (show 0 ≤ l3_2 ∧ l3_2 < 24 from by omega)) mt_X4_reckon ml_X9_306 hK hw (cw_rc5 hK hw.1 (wt_193 hT t_o)) hA ⟨Nat.le_of_ble_eq_true rfl, Nat.le_of_ble_eq_true rfl⟩ ⟨Nat.le_of_ble_eq_true rfl, Nat.le_of_ble_eq_true rfl⟩ (As := [.int (J l3_2), va_rf none]) (rest := []) rfl rfl hl.1 (Nat.le_of_ble_eq_true rfl) 45 rfl dX9_reckonByLaw_42 (fun v_11 H locs hq11_ hw => ?_)
            obtain ⟨y103_11, y300_11, ev11_, hh11_⟩ := hq11_
            rw [ev11_] at hw; clear ev11_
            have hw : WK D cy T (upV (upV v_0 103 y103_11) 300 y300_11) A0 H0 H locs := cw_eq hw (by first | rfl | (funext j_; simp only [upV, reduceIte]; (repeat' split) <;> first | rfl | omega | (subst_vars; rfl)))
            obtain ⟨hh11_, kf11_⟩ := hh11_
            replace hh11_ : Rc_ (y300_c2) (y300_11) (T 101 (T 193 o)) (T 102 (T 193 o)) l3_2 (rk_ none ((gC_ (y300_c2) (T 100 (T 193 o)))) ((gC_ (y300_c2) (T 101 (T 193 o)))) l3_2 ((S1_ wb_)) ((S2_ wb_)) ((S3_ wb_))) := hh11_
            have rc_ : Rc_ (y300_c2) (y300_11) (T 101 (T 193 o)) (T 102 (T 193 o)) l3_2 (ow1_ F_ (gC_ (y300_c2) (T 101 (T 193 o))) l3_2 wb_ (S1_ wb_) (S2_ wb_) (S3_ wb_)) := by rw [← ow1_cF (F2 := gC_ (y300_c2) (T 100 (T 193 o))) (fun i_ h1_ h2_ => (iv2.2.1 _ n01_ n02_ i_.toNat).trans (fq_ i_ h1_ h2_))]; first | (rw [ow1_n (by omega)]; exact hh11_) | (rw [ow1_s (by omega)]; exact hh11_)
            refine j_iinc E 48 rfl [(3, .int (J (l3_2 + 1))), (0, .ref o), (1, .int (J v_l)), (2, .int (J v_k))] dX9_reckonByLaw_45 hl (kk := 3) rfl (by decide) rfl (fun ls hl => ?_)
            refine j_goto E 2 dX9_reckonByLaw_48 (by decide) ?_
            exact ih2 (l3_2 + 1) y103_11 y300_11 H locs ls (rr (by omega)) (⟨⟨by omega, fun b_ h1_ h2_ i_ => (rc_.1 b_ h1_ h2_ i_).trans (iv2.2.1 b_ h1_ h2_ i_), ob_C iv2.2.2 (by omega) rc_ ⟨_, _, hg_, lw_, eb_⟩ (by omega)⟩, (Kd_tr ik2_ (Kd_mono kf11_ (by decide)))⟩) (by omega) hw (lv_sub hl [1, 2, 3, 0] rfl)
          | some xx10_ =>
            have te10_ := tt10_ xx10_ rfl
            have tr_ := te10_
            first | have hn_ := hh10_.1 rfl | have hs_ := hh10_.2 _ rfl
            try (have wz_ := nb_.1 ⟨hs_.1, hs_.2.1⟩; rw [← wz_] at hs_)
            try (have wz_ := nb_.2 (fun q_ => hn_.elim (fun q2_ => absurd q_.1 (by omega)) (fun q2_ => absurd q_.2 (by omega))))
            refine kV_v E (c_X4_reckon l D cy T (upV (upV v_0 103 y103_c2) 300 y300_c2) (T 193 o) l3_2 (some xx10_) (gC_ (y300_c2) (T 100 (T 193 o))) (gC_ (y300_c2) (T 101 (T 193 o))) (S1_ wb_) (S2_ wb_) (S3_ wb_) (wt_193 hT t_o) r_l3_2 (fun x h => by cases h; exact te10_) (show ((gC_ (y300_c2) (T 100 (T 193 o)))) = gC_ (y300_c2) (T 100 (T 193 o)) from rfl) (show ((gC_ (y300_c2) (T 101 (T 193 o)))) = gC_ (y300_c2) (T 101 (T 193 o)) from rfl) (show ∀ x_, ((some xx10_)) = some x_ → lL_ (gC_ (y300_c2) (T 162 x_)) 0 (T 1 (T 162 x_) : Int) = ((S1_ wb_)) ++ (wh_ ((S2_ wb_)) ++ ul_ ((S3_ wb_))) ∧ TyN_ ((S1_ wb_)) ∧ TyB_ ((S2_ wb_)) ∧ TyB_ ((S3_ wb_)) from fun x_ q_ => by first | (cases q_; done) | (cases q_; exact wd_at hp0 hs_.1 hs_.2.1 hs_.2.2 (fun i_ => (iv2.2.1 _ (ro_ne (wo_162 hT tr_) (wo_101 hT tr9_) (by decide) (by decide) (by omega)) (ro_ne (wo_162 hT tr_) (wo_102 hT tr9_) (by decide) (by decide) (by omega)) i_)))) (show 0 ≤ l3_2 ∧ l3_2 < 24 from by omega)) mt_X4_reckon ml_X9_306 hK hw (cw_rc5 hK hw.1 (wt_193 hT t_o)) hA ⟨Nat.le_of_ble_eq_true rfl, Nat.le_of_ble_eq_true rfl⟩ ⟨Nat.le_of_ble_eq_true rfl, Nat.le_of_ble_eq_true rfl⟩ (As := [.int (J l3_2), va_rf (some xx10_)]) (rest := []) rfl rfl hl.1 (Nat.le_of_ble_eq_true rfl) 45 rfl dX9_reckonByLaw_42 (fun v_12 H locs hq12_ hw => ?_)
            obtain ⟨y103_12, y300_12, ev12_, hh12_⟩ := hq12_
            rw [ev12_] at hw; clear ev12_
            have hw : WK D cy T (upV (upV v_0 103 y103_12) 300 y300_12) A0 H0 H locs := cw_eq hw (by first | rfl | (funext j_; simp only [upV, reduceIte]; (repeat' split) <;> first | rfl | omega | (subst_vars; rfl)))
            obtain ⟨hh12_, kf12_⟩ := hh12_
            replace hh12_ : Rc_ (y300_c2) (y300_12) (T 101 (T 193 o)) (T 102 (T 193 o)) l3_2 (rk_ ((some xx10_)) ((gC_ (y300_c2) (T 100 (T 193 o)))) ((gC_ (y300_c2) (T 101 (T 193 o)))) l3_2 ((S1_ wb_)) ((S2_ wb_)) ((S3_ wb_))) := hh12_
            have rc_ : Rc_ (y300_c2) (y300_12) (T 101 (T 193 o)) (T 102 (T 193 o)) l3_2 (ow1_ F_ (gC_ (y300_c2) (T 101 (T 193 o))) l3_2 wb_ (S1_ wb_) (S2_ wb_) (S3_ wb_)) := by rw [← ow1_cF (F2 := gC_ (y300_c2) (T 100 (T 193 o))) (fun i_ h1_ h2_ => (iv2.2.1 _ n01_ n02_ i_.toNat).trans (fq_ i_ h1_ h2_))]; first | (rw [ow1_n (by omega)]; exact hh12_) | (rw [ow1_s (by omega)]; exact hh12_)
            refine j_iinc E 48 rfl [(3, .int (J (l3_2 + 1))), (0, .ref o), (1, .int (J v_l)), (2, .int (J v_k))] dX9_reckonByLaw_45 hl (kk := 3) rfl (by decide) rfl (fun ls hl => ?_)
            refine j_goto E 2 dX9_reckonByLaw_48 (by decide) ?_
            exact ih2 (l3_2 + 1) y103_12 y300_12 H locs ls (rr (by omega)) (⟨⟨by omega, fun b_ h1_ h2_ i_ => (rc_.1 b_ h1_ h2_ i_).trans (iv2.2.1 b_ h1_ h2_ i_), ob_C iv2.2.2 (by omega) rc_ ⟨_, _, hg_, lw_, eb_⟩ (by omega)⟩, (Kd_tr ik2_ (Kd_mono kf12_ (by decide)))⟩) (by omega) hw (lv_sub hl [1, 2, 3, 0] rfl)
  exact L2_1 _ 0 (v_0 103) (v_0 300) H locs ls (rr (by decide)) (⟨⟨by omega, fun _ _ _ _ => rfl, fun y_ h1_ h2_ => absurd h2_ (by omega)⟩, Kd_rf⟩) (Nat.lt_succ_self _) (cw_eq hw (by first | rfl | (funext j_; simp only [upV, reduceIte]; (repeat' split) <;> first | rfl | omega | (subst_vars; rfl)))) (lv_sub hl [1, 2, 3, 0] rfl)
set_option maxHeartbeats 4000000 in
set_option maxRecDepth 100000 in
theorem c_X9_owed (l : Launch) (D : va_G) (cy : Nat → ClassId) (T : Nat → Nat → Nat) (v_0 : Nat → Nat → Int) (o : Nat) (v_l : Int) (v_k : Int) (v_a : Int) (v_b : Int) (v_c : Int) (v_d : Int) (v_e : Int) (S1_ : Int → List Int) (S2_ : Int → List Int) (S3_ : Int → List Int) (t_o : T 0 o = 9) (r_v_l : inR v_l) (r_v_k : inR v_k) (r_v_a : inR v_a) (r_v_b : inR v_b) (r_v_c : inR v_c) (r_v_d : inR v_d) (r_v_e : inR v_e) (hp0 : Wd_ T (v_0 300) o (v_0 202 (T 182 o)) S1_ S2_ S3_) (hp1 : (0 : Int) ≤ 0) (hp2 : (v_0 202 (T 181 o)) ≤ 24) (hp3 : (v_0 187 o) ≤ 199) : KC l D cy T yX9_owed cX9_owed 8 (some .int) 6 [.ref o, .int (J v_l), .int (J v_k), .int (J v_a), .int (J v_b), .int (J v_c), .int (J v_d), .int (J v_e)] v_0 (KI (fun (z_0 : Int) (v_2 : Nat → Nat → Int) => ∃ (y103_2 : Nat → Int) (y300_2 : Nat → Int) , v_2 = upV (upV v_0 103 y103_2) 300 y300_2 ∧ ((((z_0 = -1 ∧ ¬ ((0 ≤ v_l ∧ v_l < (v_0 202 (T 181 o))) ∧ (0 ≤ v_k ∧ v_k < (v_0 187 o)) ∧ (0 ≤ v_a ∧ v_a ≤ 99 ∧ 0 ≤ v_b ∧ v_b ≤ 9 ∧ 0 ≤ v_c ∧ v_c ≤ 299 ∧ 0 ≤ v_d ∧ v_d ≤ 1 ∧ -99 ≤ v_e ∧ v_e ≤ 299))) ∨ (((0 ≤ v_l ∧ v_l < (v_0 202 (T 181 o))) ∧ (0 ≤ v_k ∧ v_k < (v_0 187 o)) ∧ (0 ≤ v_a ∧ v_a ≤ 99 ∧ 0 ≤ v_b ∧ v_b ≤ 9 ∧ 0 ≤ v_c ∧ v_c ≤ 299 ∧ 0 ≤ v_d ∧ v_d ≤ 1 ∧ -99 ≤ v_e ∧ v_e ≤ 299)) ∧ ∃ g_ : Int → Int, z_0 = g_ v_l ∧ Owc_ (fun y_ w_ => ∃ x_ z_, ELn_ T 181 o (y_).toNat = x_ + 1 ∧ Lw_ ((v_0 23 x_)) (gC_ (v_0 302) (T 26 x_)) v_k z_ ∧ w_ = nrm_ (v_0 202 (T 182 o)) z_) (fcf_ v_a v_b v_c v_d v_e) g_ (v_l + 1) S1_ S2_ S3_)) ∧ Rz_ T (T 193 o) (v_0 300) (y300_2)) ∧ Kd_ T [100, 101, 102] (v_0 300) y300_2))) := by
  refine KC.ofi (by decide) (Nat.le_of_ble_eq_true rfl) ?_
  intro p e s m below meth c ls ar QW A0 H0 H locs E hK hA hw hl hret
  have hl : lv_has ls 8 [(0, .ref o), (1, .int (J v_l)), (2, .int (J v_k)), (3, .int (J v_a)), (4, .int (J v_b)), (5, .int (J v_c)), (6, .int (J v_d)), (7, .int (J v_e))] := hl
  have hT : WT T := hw.1.2.1
  have tr9_ := wt_193 hT t_o
  have n12_ : T 101 (T 193 o) ≠ T 102 (T 193 o) := ro_ne (wo_101 hT tr9_) (wo_102 hT tr9_) (by decide) (by decide) (by omega)
  have n01_ : T 100 (T 193 o) ≠ T 101 (T 193 o) := ro_ne (wo_100 hT tr9_) (wo_101 hT tr9_) (by decide) (by decide) (by omega)
  have n02_ : T 100 (T 193 o) ≠ T 102 (T 193 o) := ro_ne (wo_100 hT tr9_) (wo_102 hT tr9_) (by decide) (by decide) (by omega)
  refine j_aload_n E 1 rfl dX9_owed_0 rfl (lv_at hl 0 rfl) ?_
  refine j_iload_n E 2 rfl dX9_owed_1 rfl (lv_at hl 1 rfl) ?_
  refine kV_i E (c_X9_isLine l D cy T (v_0) o v_l  t_o r_v_l ) mt_X9_isLine ml_X9_172 hK hw (cw_rc9 hK hw.1 t_o) hA ⟨Nat.le_of_ble_eq_true rfl, Nat.le_of_ble_eq_true rfl⟩ ⟨Nat.le_of_ble_eq_true rfl, Nat.le_of_ble_eq_true rfl⟩ (As := [.int (J v_l)]) (rest := []) rfl rfl hl.1 (Nat.le_of_ble_eq_true rfl) 5 rfl dX9_owed_2 (fun zz1_ v_1 H locs rr1_ hq1_ hw => ?_)
  obtain ⟨ev1_, hh1_⟩ := hq1_
  rw [ev1_] at hw; clear ev1_
  replace hh1_ : (zz1_ = 1 ∧ 0 ≤ v_l ∧ v_l < ((v_0 202) (T 181 o))) ∨ (zz1_ = 0 ∧ (v_l < 0 ∨ ((v_0 202) (T 181 o)) ≤ v_l)) := hh1_
  refine j_if_eq E 8 35 rfl rr1_ dX9_owed_5 (by decide) (fun cc2_ => ?_) (fun cc2_ => ?_)
  · refine j_iconst E 36 rfl dX9_owed_35 ?_
    exact hret 36 ((-1)) (upV (upV v_0 103 (v_0 103)) 300 (v_0 300)) _ _ ls (cw_eq hw (by first | rfl | (funext j_; simp only [upV, reduceIte]; (repeat' split) <;> first | rfl | omega | (subst_vars; rfl)))) (rr (by decide)) ⟨(v_0 103), (v_0 300), rfl, ⟨⟨Or.inl ⟨rfl, by omega⟩, by first | exact Rz_rf | (rw [(tf_.elim (fun q_ => absurd q_.1 (by omega)) id).2.2]; exact Rz_rf)⟩, Kd_rf⟩⟩ dX9_owed_36
  · refine j_aload_n E 9 rfl dX9_owed_8 rfl (lv_at hl 0 rfl) ?_
    refine j_iload_n E 10 rfl dX9_owed_9 rfl (lv_at hl 2 rfl) ?_
    refine kV_i E (c_X9_isPast l D cy T (v_0) o v_k  t_o r_v_k ) mt_X9_isPast ml_X9_283 hK hw (cw_rc9 hK hw.1 t_o) hA ⟨Nat.le_of_ble_eq_true rfl, Nat.le_of_ble_eq_true rfl⟩ ⟨Nat.le_of_ble_eq_true rfl, Nat.le_of_ble_eq_true rfl⟩ (As := [.int (J v_k)]) (rest := []) rfl rfl hl.1 (Nat.le_of_ble_eq_true rfl) 13 rfl dX9_owed_10 (fun zz3_ v_3 H locs rr3_ hq3_ hw => ?_)
    obtain ⟨ev3_, hh3_⟩ := hq3_
    rw [ev3_] at hw; clear ev3_
    replace hh3_ : (zz3_ = 1 ∧ 0 ≤ v_k ∧ v_k < ((v_0 187) o)) ∨ (zz3_ = 0 ∧ ¬ (0 ≤ v_k ∧ v_k < ((v_0 187) o))) := hh3_
    refine j_if_eq E 16 35 rfl rr3_ dX9_owed_13 (by decide) (fun cc4_ => ?_) (fun cc4_ => ?_)
    · refine j_iconst E 36 rfl dX9_owed_35 ?_
      exact hret 36 ((-1)) (upV (upV v_0 103 (v_0 103)) 300 (v_0 300)) _ _ ls (cw_eq hw (by first | rfl | (funext j_; simp only [upV, reduceIte]; (repeat' split) <;> first | rfl | omega | (subst_vars; rfl)))) (rr (by decide)) ⟨(v_0 103), (v_0 300), rfl, ⟨⟨Or.inl ⟨rfl, by omega⟩, by first | exact Rz_rf | (rw [(tf_.elim (fun q_ => absurd q_.1 (by omega)) id).2.2]; exact Rz_rf)⟩, Kd_rf⟩⟩ dX9_owed_36
    · refine j_aload_n E 17 rfl dX9_owed_16 rfl (lv_at hl 0 rfl) ?_
      refine g_193 E hK hw fl_X9_62 t_o 20 rfl dX9_owed_17 ?_
      refine j_iload_n E 21 rfl dX9_owed_20 rfl (lv_at hl 3 rfl) ?_
      refine j_iload E 23 rfl dX9_owed_21 (lv_at hl 4 rfl) ?_
      refine j_iload E 25 rfl dX9_owed_23 (lv_at hl 5 rfl) ?_
      refine j_iload E 27 rfl dX9_owed_25 (lv_at hl 6 rfl) ?_
      refine j_iload E 29 rfl dX9_owed_27 (lv_at hl 7 rfl) ?_
      refine kV_i E (c_X4_takeFacts l D cy T (v_0) (T 193 o) v_a v_b v_c v_d v_e  (wt_193 hT t_o) r_v_a r_v_b r_v_c r_v_d r_v_e ) mt_X4_takeFacts ml_X9_292 hK hw (cw_rc5 hK hw.1 (wt_193 hT t_o)) hA ⟨Nat.le_of_ble_eq_true rfl, Nat.le_of_ble_eq_true rfl⟩ ⟨Nat.le_of_ble_eq_true rfl, Nat.le_of_ble_eq_true rfl⟩ (As := [.int (J v_a), .int (J v_b), .int (J v_c), .int (J v_d), .int (J v_e)]) (rest := []) rfl rfl hl.1 (Nat.le_of_ble_eq_true rfl) 32 rfl dX9_owed_29 (fun zz5_ v_5 H locs rr5_ hq5_ hw => ?_)
      obtain ⟨y300_5, ev5_, hh5_⟩ := hq5_
      rw [ev5_] at hw; clear ev5_
      have hw : WK D cy T (upV v_0 300 y300_5) A0 H0 H locs := cw_eq hw (by first | rfl | (funext j_; simp only [upV, reduceIte]; (repeat' split) <;> first | rfl | omega | (subst_vars; rfl)))
      obtain ⟨hh5_, kf5_⟩ := hh5_
      replace hh5_ : (zz5_ = 1 ∧ (0 ≤ v_a ∧ v_a ≤ 99 ∧ 0 ≤ v_b ∧ v_b ≤ 9 ∧ 0 ≤ v_c ∧ v_c ≤ 299 ∧ 0 ≤ v_d ∧ v_d ≤ 1 ∧ -99 ≤ v_e ∧ v_e ≤ 299) ∧ Fc_ (y300_5) (T 100 (T 193 o)) v_a v_b v_c v_d v_e ∧ Ro_ (v_0 300) (y300_5) (T 100 (T 193 o))) ∨ (zz5_ = 0 ∧ ¬ (0 ≤ v_a ∧ v_a ≤ 99 ∧ 0 ≤ v_b ∧ v_b ≤ 9 ∧ 0 ≤ v_c ∧ v_c ≤ 299 ∧ 0 ≤ v_d ∧ v_d ≤ 1 ∧ -99 ≤ v_e ∧ v_e ≤ 299) ∧ (y300_5) = (v_0 300)) := hh5_
      have tf_ := hh5_
      clear hh5_
      refine j_if_ne E 35 37 rfl rr5_ dX9_owed_32 (by decide) (fun cc6_ => ?_) (fun cc6_ => ?_)
      · refine j_aload_n E 38 rfl dX9_owed_37 rfl (lv_at hl 0 rfl) ?_
        refine j_iload_n E 39 rfl dX9_owed_38 rfl (lv_at hl 1 rfl) ?_
        refine j_iload_n E 40 rfl dX9_owed_39 rfl (lv_at hl 2 rfl) ?_
        have tf1_ := tf_.elim id (fun q_ => absurd q_.1 (by omega))
        have fq_ := fc_fcf tf1_.2.2.1
        have tr0_ := tf1_.2.2.2
        refine kV_i E (c_X9_reckonByLaw l D cy T (upV v_0 300 y300_5) o v_l v_k ((fcf_ v_a v_b v_c v_d v_e)) S1_ S2_ S3_ t_o r_v_l r_v_k (show Wd_ T (y300_5) o ((v_0 202) (T 182 o)) S1_ S2_ S3_ from fun w_ h1_ h2_ a_ h3_ => wd_at hp0 h1_ h2_ h3_ (fun i_ => tr0_ _ (ro_ne (wo_162 hT (wl_ty hw.1 (wt_182 hT t_o) (we_182 hT t_o) h3_ h1_ h2_)) (wo_100 hT tr9_) (by decide) (by decide) (by omega)) i_)) (show 0 ≤ v_l from by omega) (show ((v_0 202) (T 181 o)) ≤ 24 from by omega) (show ∀ i_, 0 ≤ i_ → i_ ≤ 4 → gC_ (y300_5) (T 100 (T 193 o)) i_ = (((fcf_ v_a v_b v_c v_d v_e))) i_ from fq_) (show 0 ≤ v_l ∧ v_l < ((v_0 202) (T 181 o)) from by omega) (show v_k < 200 from by omega)) mt_X9_reckonByLaw ml_X9_296 hK hw (cw_rc9 hK hw.1 t_o) hA ⟨Nat.le_of_ble_eq_true rfl, Nat.le_of_ble_eq_true rfl⟩ ⟨Nat.le_of_ble_eq_true rfl, Nat.le_of_ble_eq_true rfl⟩ (As := [.int (J v_l), .int (J v_k)]) (rest := []) rfl rfl hl.1 (Nat.le_of_ble_eq_true rfl) 43 rfl dX9_owed_40 (fun zz7_ v_7 H locs rr7_ hq7_ hw => ?_)
        obtain ⟨y103_7, y300_7, ev7_, hh7_⟩ := hq7_
        rw [ev7_] at hw; clear ev7_
        have hw : WK D cy T (upV (upV v_0 103 y103_7) 300 y300_7) A0 H0 H locs := cw_eq hw (by first | rfl | (funext j_; simp only [upV, reduceIte]; (repeat' split) <;> first | rfl | omega | (subst_vars; rfl)))
        obtain ⟨hh7_, kf7_⟩ := hh7_
        replace hh7_ : (∃ g_ : Int → Int, zz7_ = g_ v_l ∧ Owc_ (fun y_ w_ => ∃ x_ z_, ELn_ T 181 o (y_).toNat = x_ + 1 ∧ Lw_ (((v_0 23) x_)) (gC_ (v_0 302) (T 26 x_)) v_k z_ ∧ w_ = nrm_ ((v_0 202) (T 182 o)) z_) (((fcf_ v_a v_b v_c v_d v_e))) g_ (v_l + 1) S1_ S2_ S3_) ∧ (∀ b_, b_ ≠ (T 101 (T 193 o)) → b_ ≠ (T 102 (T 193 o)) → ∀ i_, (y300_7) (pr b_ i_) = (y300_5) (pr b_ i_)) := hh7_
        have rl_ := hh7_
        clear hh7_
        exact hret 43 zz7_ (upV (upV v_0 103 y103_7) 300 y300_7) _ _ ls hw rr7_ ⟨y103_7, y300_7, rfl, ⟨⟨Or.inr ⟨by omega, rl_.1⟩, fun b_ h0_ h1_ h2_ i_ => (rl_.2 b_ h1_ h2_ i_).trans (tr0_ b_ h0_ i_)⟩, (Kd_tr (Kd_tr Kd_rf (Kd_mono kf5_ (by decide))) (Kd_mono kf7_ (by decide)))⟩⟩ dX9_owed_43
      · refine j_iconst E 36 rfl dX9_owed_35 ?_
        exact hret 36 ((-1)) (upV (upV v_0 103 (v_0 103)) 300 y300_5) _ _ ls (cw_eq hw (by first | rfl | (funext j_; simp only [upV, reduceIte]; (repeat' split) <;> first | rfl | omega | (subst_vars; rfl)))) (rr (by decide)) ⟨(v_0 103), y300_5, rfl, ⟨⟨Or.inl ⟨rfl, by omega⟩, by first | exact Rz_rf | (rw [(tf_.elim (fun q_ => absurd q_.1 (by omega)) id).2.2]; exact Rz_rf)⟩, (Kd_tr Kd_rf (Kd_mono kf5_ (by decide)))⟩⟩ dX9_owed_36
set_option maxHeartbeats 4000000 in
set_option maxRecDepth 100000 in
theorem c_X9_byBook (l : Launch) (D : va_G) (cy : Nat → ClassId) (T : Nat → Nat → Nat) (v_0 : Nat → Nat → Int) (o : Nat) (v_l : Int) (v_a : Int) (v_b : Int) (v_c : Int) (v_d : Int) (v_e : Int) (S1_ : Int → List Int) (S2_ : Int → List Int) (S3_ : Int → List Int) (t_o : T 0 o = 9) (r_v_l : inR v_l) (r_v_a : inR v_a) (r_v_b : inR v_b) (r_v_c : inR v_c) (r_v_d : inR v_d) (r_v_e : inR v_e) (hp0 : Wd_ T (v_0 300) o (v_0 202 (T 182 o)) S1_ S2_ S3_) (hp1 : (0 : Int) ≤ 0) (hp2 : (v_0 202 (T 181 o)) ≤ 24) : KC l D cy T yX9_byBook cX9_byBook 8 (some .int) 5 [.ref o, .int (J v_l), .int (J v_a), .int (J v_b), .int (J v_c), .int (J v_d), .int (J v_e)] v_0 (KI (fun (z_0 : Int) (v_2 : Nat → Nat → Int) => ∃ (y103_2 : Nat → Int) (y300_2 : Nat → Int) , v_2 = upV (upV v_0 103 y103_2) 300 y300_2 ∧ ((((z_0 = -1 ∧ ¬ ((0 ≤ v_l ∧ v_l < (v_0 202 (T 181 o))) ∧ (0 ≤ v_a ∧ v_a ≤ 99 ∧ 0 ≤ v_b ∧ v_b ≤ 9 ∧ 0 ≤ v_c ∧ v_c ≤ 299 ∧ 0 ≤ v_d ∧ v_d ≤ 1 ∧ -99 ≤ v_e ∧ v_e ≤ 299))) ∨ (((0 ≤ v_l ∧ v_l < (v_0 202 (T 181 o))) ∧ (0 ≤ v_a ∧ v_a ≤ 99 ∧ 0 ≤ v_b ∧ v_b ≤ 9 ∧ 0 ≤ v_c ∧ v_c ≤ 299 ∧ 0 ≤ v_d ∧ v_d ≤ 1 ∧ -99 ≤ v_e ∧ v_e ≤ 299)) ∧ ∃ g_ : Int → Int, z_0 = g_ v_l ∧ Owc_ (fun y_ w_ => ∃ x_, ELn_ T 181 o (y_).toNat = x_ + 1 ∧ w_ = nrm_ (v_0 202 (T 182 o)) ((v_0 25 x_))) (fcf_ v_a v_b v_c v_d v_e) g_ (v_l + 1) S1_ S2_ S3_)) ∧ Rz_ T (T 193 o) (v_0 300) (y300_2)) ∧ Kd_ T [100, 101, 102] (v_0 300) y300_2))) := by
  refine KC.ofi (by decide) (Nat.le_of_ble_eq_true rfl) ?_
  intro p e s m below meth c ls ar QW A0 H0 H locs E hK hA hw hl hret
  have hl : lv_has ls 8 [(0, .ref o), (1, .int (J v_l)), (2, .int (J v_a)), (3, .int (J v_b)), (4, .int (J v_c)), (5, .int (J v_d)), (6, .int (J v_e))] := hl
  have hT : WT T := hw.1.2.1
  have tr9_ := wt_193 hT t_o
  have n12_ : T 101 (T 193 o) ≠ T 102 (T 193 o) := ro_ne (wo_101 hT tr9_) (wo_102 hT tr9_) (by decide) (by decide) (by omega)
  have n01_ : T 100 (T 193 o) ≠ T 101 (T 193 o) := ro_ne (wo_100 hT tr9_) (wo_101 hT tr9_) (by decide) (by decide) (by omega)
  have n02_ : T 100 (T 193 o) ≠ T 102 (T 193 o) := ro_ne (wo_100 hT tr9_) (wo_102 hT tr9_) (by decide) (by decide) (by omega)
  refine j_aload_n E 1 rfl dX9_byBook_0 rfl (lv_at hl 0 rfl) ?_
  refine j_iload_n E 2 rfl dX9_byBook_1 rfl (lv_at hl 1 rfl) ?_
  refine kV_i E (c_X9_isLine l D cy T (v_0) o v_l  t_o r_v_l ) mt_X9_isLine ml_X9_172 hK hw (cw_rc9 hK hw.1 t_o) hA ⟨Nat.le_of_ble_eq_true rfl, Nat.le_of_ble_eq_true rfl⟩ ⟨Nat.le_of_ble_eq_true rfl, Nat.le_of_ble_eq_true rfl⟩ (As := [.int (J v_l)]) (rest := []) rfl rfl hl.1 (Nat.le_of_ble_eq_true rfl) 5 rfl dX9_byBook_2 (fun zz1_ v_1 H locs rr1_ hq1_ hw => ?_)
  obtain ⟨ev1_, hh1_⟩ := hq1_
  rw [ev1_] at hw; clear ev1_
  replace hh1_ : (zz1_ = 1 ∧ 0 ≤ v_l ∧ v_l < ((v_0 202) (T 181 o))) ∨ (zz1_ = 0 ∧ (v_l < 0 ∨ ((v_0 202) (T 181 o)) ≤ v_l)) := hh1_
  refine j_if_eq E 8 26 rfl rr1_ dX9_byBook_5 (by decide) (fun cc2_ => ?_) (fun cc2_ => ?_)
  · refine j_iconst E 27 rfl dX9_byBook_26 ?_
    exact hret 27 ((-1)) (upV (upV v_0 103 (v_0 103)) 300 (v_0 300)) _ _ ls (cw_eq hw (by first | rfl | (funext j_; simp only [upV, reduceIte]; (repeat' split) <;> first | rfl | omega | (subst_vars; rfl)))) (rr (by decide)) ⟨(v_0 103), (v_0 300), rfl, ⟨⟨Or.inl ⟨rfl, by omega⟩, by first | exact Rz_rf | (rw [(tf_.elim (fun q_ => absurd q_.1 (by omega)) id).2.2]; exact Rz_rf)⟩, Kd_rf⟩⟩ dX9_byBook_27
  · refine j_aload_n E 9 rfl dX9_byBook_8 rfl (lv_at hl 0 rfl) ?_
    refine g_193 E hK hw fl_X9_62 t_o 12 rfl dX9_byBook_9 ?_
    refine j_iload_n E 13 rfl dX9_byBook_12 rfl (lv_at hl 2 rfl) ?_
    refine j_iload_n E 14 rfl dX9_byBook_13 rfl (lv_at hl 3 rfl) ?_
    refine j_iload E 16 rfl dX9_byBook_14 (lv_at hl 4 rfl) ?_
    refine j_iload E 18 rfl dX9_byBook_16 (lv_at hl 5 rfl) ?_
    refine j_iload E 20 rfl dX9_byBook_18 (lv_at hl 6 rfl) ?_
    refine kV_i E (c_X4_takeFacts l D cy T (v_0) (T 193 o) v_a v_b v_c v_d v_e  (wt_193 hT t_o) r_v_a r_v_b r_v_c r_v_d r_v_e ) mt_X4_takeFacts ml_X9_292 hK hw (cw_rc5 hK hw.1 (wt_193 hT t_o)) hA ⟨Nat.le_of_ble_eq_true rfl, Nat.le_of_ble_eq_true rfl⟩ ⟨Nat.le_of_ble_eq_true rfl, Nat.le_of_ble_eq_true rfl⟩ (As := [.int (J v_a), .int (J v_b), .int (J v_c), .int (J v_d), .int (J v_e)]) (rest := []) rfl rfl hl.1 (Nat.le_of_ble_eq_true rfl) 23 rfl dX9_byBook_20 (fun zz3_ v_3 H locs rr3_ hq3_ hw => ?_)
    obtain ⟨y300_3, ev3_, hh3_⟩ := hq3_
    rw [ev3_] at hw; clear ev3_
    have hw : WK D cy T (upV v_0 300 y300_3) A0 H0 H locs := cw_eq hw (by first | rfl | (funext j_; simp only [upV, reduceIte]; (repeat' split) <;> first | rfl | omega | (subst_vars; rfl)))
    obtain ⟨hh3_, kf3_⟩ := hh3_
    replace hh3_ : (zz3_ = 1 ∧ (0 ≤ v_a ∧ v_a ≤ 99 ∧ 0 ≤ v_b ∧ v_b ≤ 9 ∧ 0 ≤ v_c ∧ v_c ≤ 299 ∧ 0 ≤ v_d ∧ v_d ≤ 1 ∧ -99 ≤ v_e ∧ v_e ≤ 299) ∧ Fc_ (y300_3) (T 100 (T 193 o)) v_a v_b v_c v_d v_e ∧ Ro_ (v_0 300) (y300_3) (T 100 (T 193 o))) ∨ (zz3_ = 0 ∧ ¬ (0 ≤ v_a ∧ v_a ≤ 99 ∧ 0 ≤ v_b ∧ v_b ≤ 9 ∧ 0 ≤ v_c ∧ v_c ≤ 299 ∧ 0 ≤ v_d ∧ v_d ≤ 1 ∧ -99 ≤ v_e ∧ v_e ≤ 299) ∧ (y300_3) = (v_0 300)) := hh3_
    have tf_ := hh3_
    clear hh3_
    refine j_if_ne E 26 28 rfl rr3_ dX9_byBook_23 (by decide) (fun cc4_ => ?_) (fun cc4_ => ?_)
    · have tf1_ := tf_.elim id (fun q_ => absurd q_.1 (by omega))
      have fq_ := fc_fcf tf1_.2.2.1
      have tr0_ := tf1_.2.2.2
      refine j_iconst E 29 rfl dX9_byBook_28 ?_
      refine j_istore E 31 rfl [(7, .int (J 0)), (0, .ref o), (1, .int (J v_l)), (2, .int (J v_a)), (3, .int (J v_b)), (4, .int (J v_c)), (5, .int (J v_d)), (6, .int (J v_e))] dX9_byBook_29 hl (by decide) rfl (fun ls hl => ?_)
      have L31_5 : ∀ (k31 : Nat) (l7_31 : Int) (y103_c31 : Nat → Int) (y300_c31 : Nat → Int) (H : Heap) (locs : List Loc) (ls : Array Slot), inR l7_31 → (((0 ≤ l7_31 ∧ l7_31 ≤ v_l + 1) ∧ (∀ b_, b_ ≠ (T 101 (T 193 o)) → b_ ≠ (T 102 (T 193 o)) → ∀ i_, (y300_c31) (pr b_ i_) = (y300_3) (pr b_ i_)) ∧ Owc_ (fun y_ w_ => ∃ x_, ELn_ T 181 o (y_).toNat = x_ + 1 ∧ w_ = nrm_ (v_0 202 (T 182 o)) ((v_0 25 x_))) (fcf_ v_a v_b v_c v_d v_e) (gC_ (y300_c31) (T 101 (T 193 o))) l7_31 S1_ S2_ S3_) ∧ Kd_ T [100, 101, 102] (v_0 300) y300_c31) → (v_l + 1 - l7_31).toNat < k31 → WK D cy T (upV (upV v_0 103 y103_c31) 300 y300_c31) A0 H0 H locs → lv_has ls 8 [(0, .ref o), (1, .int (J v_l)), (2, .int (J v_a)), (3, .int (J v_b)), (4, .int (J v_c)), (5, .int (J v_d)), (6, .int (J v_e)), (7, .int (J l7_31))] → W p l e (rmd 5 0 0) s m ar below meth c H locs 0 0 QW (F0 m 31 ls []) := by
        intro k31
        induction k31 with
        | zero =>
          intro l7_31 y103_c31 y300_c31 H locs ls r_l7_31 iv31 ms31 hw hl
          exact absurd ms31 (Nat.not_lt_zero _)
        | succ k31 ih31 =>
          intro l7_31 y103_c31 y300_c31 H locs ls r_l7_31 iv31 ms31 hw hl
          obtain ⟨iv31, ik31_⟩ := iv31
          refine j_iload E 33 rfl dX9_byBook_31 (lv_at hl 7 rfl) ?_
          refine j_iload_n E 34 rfl dX9_byBook_33 rfl (lv_at hl 1 rfl) ?_
          refine j_icmp_gt E 37 83 rfl r_l7_31 r_v_l dX9_byBook_34 (by decide) (fun cc7_ => ?_) (fun cc7_ => ?_)
          · refine j_aload_n E 84 rfl dX9_byBook_83 rfl (lv_at hl 0 rfl) ?_
            refine g_193 E hK hw fl_X9_62 t_o 87 rfl dX9_byBook_84 ?_
            refine j_iload_n E 88 rfl dX9_byBook_87 rfl (lv_at hl 1 rfl) ?_
            refine kV_i E (c_X4_owedBy l D cy T (upV (upV v_0 103 y103_c31) 300 y300_c31) (T 193 o) v_l  (wt_193 hT t_o) r_v_l ) mt_X4_owedBy ml_X9_310 hK hw (cw_rc5 hK hw.1 (wt_193 hT t_o)) hA ⟨Nat.le_of_ble_eq_true rfl, Nat.le_of_ble_eq_true rfl⟩ ⟨Nat.le_of_ble_eq_true rfl, Nat.le_of_ble_eq_true rfl⟩ (As := [.int (J v_l)]) (rest := []) rfl rfl hl.1 (Nat.le_of_ble_eq_true rfl) 91 rfl dX9_byBook_88 (fun zz8_ v_8 H locs rr8_ hq8_ hw => ?_)
            obtain ⟨ev8_, hh8_⟩ := hq8_
            rw [ev8_] at hw; clear ev8_
            replace hh8_ : (0 ≤ v_l ∧ v_l < 24 ∧ zz8_ = gC_ (y300_c31) (T 101 (T 193 o)) v_l) ∨ (¬ (0 ≤ v_l ∧ v_l < 24) ∧ zz8_ = 0) := hh8_
            have ob_ := hh8_
            clear hh8_
            exact hret 91 zz8_ (upV (upV v_0 103 y103_c31) 300 y300_c31) _ _ ls hw rr8_ ⟨y103_c31, y300_c31, rfl, ⟨⟨Or.inr ⟨by omega, gC_ (y300_c31) (T 101 (T 193 o)), by omega, by rw [show v_l + 1 = l7_31 by omega]; exact iv31.2.2⟩, fun b_ h0_ h1_ h2_ i_ => (iv31.2.1 b_ h1_ h2_ i_).trans (tr0_ b_ h0_ i_)⟩, ik31_⟩⟩ dX9_byBook_91
          · refine j_iload E 39 rfl dX9_byBook_37 (lv_at hl 7 rfl) ?_
            refine j_aload_n E 40 rfl dX9_byBook_39 rfl (lv_at hl 0 rfl) ?_
            refine g_181 E hK hw fl_X9_16 t_o 43 rfl dX9_byBook_40 ?_
            refine kV_i E (c_Jx4a65c_size_8abf5 l D cy T (upV (upV v_0 103 y103_c31) 300 y300_c31) (T 181 o)  (wt_181 hT t_o)  ) mt_Jx4a65c_size_8abf5 ml_X9_80 hK hw (cw_rc10 hK hw.1 (wt_181 hT t_o)) hA ⟨Nat.le_of_ble_eq_true rfl, Nat.le_of_ble_eq_true rfl⟩ ⟨Nat.le_of_ble_eq_true rfl, Nat.le_of_ble_eq_true rfl⟩ (As := []) (rest := [.int (J l7_31)]) rfl rfl hl.1 (Nat.le_of_ble_eq_true rfl) 46 rfl dX9_byBook_43 (fun zz9_ v_9 H locs rr9_ hq9_ hw => ?_)
            obtain ⟨ev9_, hh9_⟩ := hq9_
            rw [ev9_] at hw; clear ev9_
            replace hh9_ : zz9_ = ((v_0 202) ((T 181 o))) ∧ 0 ≤ zz9_ := hh9_
            refine j_icmp_ge E 49 83 rfl r_l7_31 rr9_ dX9_byBook_46 (by decide) (fun cc10_ => ?_) (fun cc10_ => ?_)
            · refine j_aload_n E 84 rfl dX9_byBook_83 rfl (lv_at hl 0 rfl) ?_
              refine g_193 E hK hw fl_X9_62 t_o 87 rfl dX9_byBook_84 ?_
              refine j_iload_n E 88 rfl dX9_byBook_87 rfl (lv_at hl 1 rfl) ?_
              refine kV_i E (c_X4_owedBy l D cy T (upV (upV v_0 103 y103_c31) 300 y300_c31) (T 193 o) v_l  (wt_193 hT t_o) r_v_l ) mt_X4_owedBy ml_X9_310 hK hw (cw_rc5 hK hw.1 (wt_193 hT t_o)) hA ⟨Nat.le_of_ble_eq_true rfl, Nat.le_of_ble_eq_true rfl⟩ ⟨Nat.le_of_ble_eq_true rfl, Nat.le_of_ble_eq_true rfl⟩ (As := [.int (J v_l)]) (rest := []) rfl rfl hl.1 (Nat.le_of_ble_eq_true rfl) 91 rfl dX9_byBook_88 (fun zz11_ v_11 H locs rr11_ hq11_ hw => ?_)
              obtain ⟨ev11_, hh11_⟩ := hq11_
              rw [ev11_] at hw; clear ev11_
              replace hh11_ : (0 ≤ v_l ∧ v_l < 24 ∧ zz11_ = gC_ (y300_c31) (T 101 (T 193 o)) v_l) ∨ (¬ (0 ≤ v_l ∧ v_l < 24) ∧ zz11_ = 0) := hh11_
              have ob_ := hh11_
              clear hh11_
              exact hret 91 zz11_ (upV (upV v_0 103 y103_c31) 300 y300_c31) _ _ ls hw rr11_ ⟨y103_c31, y300_c31, rfl, ⟨⟨Or.inr ⟨by omega, gC_ (y300_c31) (T 101 (T 193 o)), by omega, by rw [show v_l + 1 = l7_31 by omega]; exact iv31.2.2⟩, fun b_ h0_ h1_ h2_ i_ => (iv31.2.1 b_ h1_ h2_ i_).trans (tr0_ b_ h0_ i_)⟩, ik31_⟩⟩ dX9_byBook_91
            · refine j_aload_n E 50 rfl dX9_byBook_49 rfl (lv_at hl 0 rfl) ?_
              refine g_193 E hK hw fl_X9_62 t_o 53 rfl dX9_byBook_50 ?_
              refine j_iload E 55 rfl dX9_byBook_53 (lv_at hl 7 rfl) ?_
              refine j_aload_n E 56 rfl dX9_byBook_55 rfl (lv_at hl 0 rfl) ?_
              refine j_aload_n E 57 rfl dX9_byBook_56 rfl (lv_at hl 0 rfl) ?_
              refine g_181 E hK hw fl_X9_16 t_o 60 rfl dX9_byBook_57 ?_
              refine j_iload E 62 rfl dX9_byBook_60 (lv_at hl 7 rfl) ?_
              refine kV_n E (c_Jx4a65c_get_915e3 l D cy T (upV (upV v_0 103 y103_c31) 300 y300_c31) (T 181 o) l7_31  (wt_181 hT t_o) r_l7_31 (show 0 ≤ l7_31 ∧ l7_31 < ((v_0 202) ((T 181 o))) from by omega)) mt_Jx4a65c_get_915e3 ml_X9_123 hK hw (cw_rc10 hK hw.1 (wt_181 hT t_o)) hA ⟨Nat.le_of_ble_eq_true rfl, Nat.le_of_ble_eq_true rfl⟩ ⟨Nat.le_of_ble_eq_true rfl, Nat.le_of_ble_eq_true rfl⟩ (As := [.int (J l7_31)]) (rest := [.ref o, .int (J l7_31), .ref (T 193 o)]) rfl rfl hl.1 (Nat.le_of_ble_eq_true rfl) 65 rfl dX9_byBook_62 (fun xx12_ v_12 H locs hq12_ hw => ?_)
              obtain ⟨ev12_, hh12_⟩ := hq12_
              rw [ev12_] at hw; clear ev12_
              replace hh12_ : dcd (T (1000 + (l7_31).toNat) (T 201 (T 181 o))) = some xx12_ ∧ T 0 xx12_ = T 2 (T 181 o) := hh12_
              have te12_ : T 0 xx12_ = 1 := hh12_.2.trans (we_181 hT t_o)
              have tg_ := te12_
              have hg_ : ELn_ T 181 o (l7_31).toNat = _ + 1 := dcd_e hh12_.1
              refine k_cast1 E hK hw cl_X9_167 te12_ 68 rfl dX9_byBook_65 ?_
              refine g_25 E hK hw fl_X9_299 te12_ (v_0 25 xx12_) rfl 71 rfl dX9_byBook_68 (fun rr13_ => ?_)
              obtain ⟨wb_, eb_⟩ : ∃ z_ : Int, z_ = nrm_ (v_0 202 (T 182 o)) (v_0 25 xx12_) := ⟨_, rfl⟩
              have nb_ := nrm_rg (v_0 202 (T 182 o)) (v_0 25 xx12_)
              rw [← eb_] at nb_
              refine kV_r E (c_X9_wordingAt l D cy T (upV (upV v_0 103 y103_c31) 300 y300_c31) o (v_0 25 xx12_)  t_o rr13_ ) mt_X9_wordingAt ml_X9_302 hK hw (cw_rc9 hK hw.1 t_o) hA ⟨Nat.le_of_ble_eq_true rfl, Nat.le_of_ble_eq_true rfl⟩ ⟨Nat.le_of_ble_eq_true rfl, Nat.le_of_ble_eq_true rfl⟩ (As := [.int (J (v_0 25 xx12_))]) (rest := [.int (J l7_31), .ref (T 193 o)]) rfl rfl hl.1 (Nat.le_of_ble_eq_true rfl) 74 rfl dX9_byBook_71 (fun oo14_ v_14 H locs hq14_ hw => ?_)
              obtain ⟨ev14_, hh14_⟩ := hq14_
              rw [ev14_] at hw; clear ev14_
              obtain ⟨tt14_, hh14_⟩ := hh14_
              replace hh14_ : (oo14_ = none → ((v_0 25 xx12_) < 0 ∨ ((v_0 202) (T 182 o)) ≤ (v_0 25 xx12_))) ∧ (∀ y_, oo14_ = some y_ → 0 ≤ (v_0 25 xx12_) ∧ (v_0 25 xx12_) < ((v_0 202) (T 182 o)) ∧ T (1000 + ((v_0 25 xx12_)).toNat) (T 201 (T 182 o)) = y_ + 1) := hh14_
              cases oo14_ with
              | none =>
                first | have hn_ := hh14_.1 rfl | have hs_ := hh14_.2 _ rfl
                try (have wz_ := nb_.1 ⟨hs_.1, hs_.2.1⟩; rw [← wz_] at hs_)
                try (have wz_ := nb_.2 (fun q_ => hn_.elim (fun q2_ => absurd q_.1 (by omega)) (fun q2_ => absurd q_.2 (by omega))))
                refine kV_v E (c_X4_reckon l D cy T (upV (upV v_0 103 y103_c31) 300 y300_c31) (T 193 o) l7_31 none (gC_ (y300_c31) (T 100 (T 193 o))) (gC_ (y300_c31) (T 101 (T 193 o))) (S1_ wb_) (S2_ wb_) (S3_ wb_) (wt_193 hT t_o) r_l7_31 (fun x h => by cases h) (show ((gC_ (y300_c31) (T 100 (T 193 o)))) = gC_ (y300_c31) (T 100 (T 193 o)) from rfl) (show ((gC_ (y300_c31) (T 101 (T 193 o)))) = gC_ (y300_c31) (T 101 (T 193 o)) from rfl) (show ∀ x_, none = some x_ → lL_ (gC_ (y300_c31) (T 162 x_)) 0 (T 1 (T 162 x_) : Int) = ((S1_ wb_)) ++ (wh_ ((S2_ wb_)) ++ ul_ ((S3_ wb_))) ∧ TyN_ ((S1_ wb_)) ∧ TyB_ ((S2_ wb_)) ∧ TyB_ ((S3_ wb_)) from fun x_ q_ => by first | (cases q_; done) | (cases q_; exact wd_at hp0 hs_.1 hs_.2.1 hs_.2.2 (fun i_ => (iv31.2.1 _ (ro_ne (wo_162 hT tr_) (wo_101 hT tr9_) (by decide) (by decide) (by omega)) (ro_ne (wo_162 hT tr_) (wo_102 hT tr9_) (by decide) (by decide) (by omega)) i_).trans (tr0_ _ (ro_ne (wo_162 hT tr_) (wo_100 hT tr9_) (by decide) (by decide) (by omega)) i_)))) (show 0 ≤ l7_31 ∧ l7_31 < 24 from by omega)) mt_X4_reckon ml_X9_306 hK hw (cw_rc5 hK hw.1 (wt_193 hT t_o)) hA ⟨Nat.le_of_ble_eq_true rfl, Nat.le_of_ble_eq_true rfl⟩ ⟨Nat.le_of_ble_eq_true rfl, Nat.le_of_ble_eq_true rfl⟩ (As := [.int (J l7_31), va_rf none]) (rest := []) rfl rfl hl.1 (Nat.le_of_ble_eq_true rfl) 77 rfl dX9_byBook_74 (fun v_15 H locs hq15_ hw => ?_)
                obtain ⟨y103_15, y300_15, ev15_, hh15_⟩ := hq15_
                rw [ev15_] at hw; clear ev15_
                have hw : WK D cy T (upV (upV v_0 103 y103_15) 300 y300_15) A0 H0 H locs := cw_eq hw (by first | rfl | (funext j_; simp only [upV, reduceIte]; (repeat' split) <;> first | rfl | omega | (subst_vars; rfl)))
                obtain ⟨hh15_, kf15_⟩ := hh15_
                replace hh15_ : Rc_ (y300_c31) (y300_15) (T 101 (T 193 o)) (T 102 (T 193 o)) l7_31 (rk_ none ((gC_ (y300_c31) (T 100 (T 193 o)))) ((gC_ (y300_c31) (T 101 (T 193 o)))) l7_31 ((S1_ wb_)) ((S2_ wb_)) ((S3_ wb_))) := hh15_
                have rc_ : Rc_ (y300_c31) (y300_15) (T 101 (T 193 o)) (T 102 (T 193 o)) l7_31 (ow1_ (fcf_ v_a v_b v_c v_d v_e) (gC_ (y300_c31) (T 101 (T 193 o))) l7_31 wb_ (S1_ wb_) (S2_ wb_) (S3_ wb_)) := by rw [← ow1_cF (F2 := gC_ (y300_c31) (T 100 (T 193 o))) (fun i_ h1_ h2_ => (iv31.2.1 _ n01_ n02_ i_.toNat).trans (fq_ i_ h1_ h2_))]; first | (rw [ow1_n (by omega)]; exact hh15_) | (rw [ow1_s (by omega)]; exact hh15_)
                refine j_iinc E 80 rfl [(7, .int (J (l7_31 + 1))), (0, .ref o), (1, .int (J v_l)), (2, .int (J v_a)), (3, .int (J v_b)), (4, .int (J v_c)), (5, .int (J v_d)), (6, .int (J v_e))] dX9_byBook_77 hl (kk := 7) rfl (by decide) rfl (fun ls hl => ?_)
                refine j_goto E 31 dX9_byBook_80 (by decide) ?_
                exact ih31 (l7_31 + 1) y103_15 y300_15 H locs ls (rr (by omega)) (⟨⟨by omega, fun b_ h1_ h2_ i_ => (rc_.1 b_ h1_ h2_ i_).trans (iv31.2.1 b_ h1_ h2_ i_), ob_C iv31.2.2 (by omega) rc_ ⟨_, hg_, eb_⟩ (by omega)⟩, (Kd_tr ik31_ (Kd_mono kf15_ (by decide)))⟩) (by omega) hw (lv_sub hl [1, 2, 3, 4, 5, 6, 7, 0] rfl)
              | some xx14_ =>
                have te14_ := tt14_ xx14_ rfl
                have tr_ := te14_
                first | have hn_ := hh14_.1 rfl | have hs_ := hh14_.2 _ rfl
                try (have wz_ := nb_.1 ⟨hs_.1, hs_.2.1⟩; rw [← wz_] at hs_)
                try (have wz_ := nb_.2 (fun q_ => hn_.elim (fun q2_ => absurd q_.1 (by omega)) (fun q2_ => absurd q_.2 (by omega))))
                refine kV_v E (c_X4_reckon l D cy T (upV (upV v_0 103 y103_c31) 300 y300_c31) (T 193 o) l7_31 (some xx14_) (gC_ (y300_c31) (T 100 (T 193 o))) (gC_ (y300_c31) (T 101 (T 193 o))) (S1_ wb_) (S2_ wb_) (S3_ wb_) (wt_193 hT t_o) r_l7_31 (fun x h => by cases h; exact te14_) (show ((gC_ (y300_c31) (T 100 (T 193 o)))) = gC_ (y300_c31) (T 100 (T 193 o)) from rfl) (show ((gC_ (y300_c31) (T 101 (T 193 o)))) = gC_ (y300_c31) (T 101 (T 193 o)) from rfl) (show ∀ x_, ((some xx14_)) = some x_ → lL_ (gC_ (y300_c31) (T 162 x_)) 0 (T 1 (T 162 x_) : Int) = ((S1_ wb_)) ++ (wh_ ((S2_ wb_)) ++ ul_ ((S3_ wb_))) ∧ TyN_ ((S1_ wb_)) ∧ TyB_ ((S2_ wb_)) ∧ TyB_ ((S3_ wb_)) from fun x_ q_ => by first | (cases q_; done) | (cases q_; exact wd_at hp0 hs_.1 hs_.2.1 hs_.2.2 (fun i_ => (iv31.2.1 _ (ro_ne (wo_162 hT tr_) (wo_101 hT tr9_) (by decide) (by decide) (by omega)) (ro_ne (wo_162 hT tr_) (wo_102 hT tr9_) (by decide) (by decide) (by omega)) i_).trans (tr0_ _ (ro_ne (wo_162 hT tr_) (wo_100 hT tr9_) (by decide) (by decide) (by omega)) i_)))) (show 0 ≤ l7_31 ∧ l7_31 < 24 from by omega)) mt_X4_reckon ml_X9_306 hK hw (cw_rc5 hK hw.1 (wt_193 hT t_o)) hA ⟨Nat.le_of_ble_eq_true rfl, Nat.le_of_ble_eq_true rfl⟩ ⟨Nat.le_of_ble_eq_true rfl, Nat.le_of_ble_eq_true rfl⟩ (As := [.int (J l7_31), va_rf (some xx14_)]) (rest := []) rfl rfl hl.1 (Nat.le_of_ble_eq_true rfl) 77 rfl dX9_byBook_74 (fun v_16 H locs hq16_ hw => ?_)
                obtain ⟨y103_16, y300_16, ev16_, hh16_⟩ := hq16_
                rw [ev16_] at hw; clear ev16_
                have hw : WK D cy T (upV (upV v_0 103 y103_16) 300 y300_16) A0 H0 H locs := cw_eq hw (by first | rfl | (funext j_; simp only [upV, reduceIte]; (repeat' split) <;> first | rfl | omega | (subst_vars; rfl)))
                obtain ⟨hh16_, kf16_⟩ := hh16_
                replace hh16_ : Rc_ (y300_c31) (y300_16) (T 101 (T 193 o)) (T 102 (T 193 o)) l7_31 (rk_ ((some xx14_)) ((gC_ (y300_c31) (T 100 (T 193 o)))) ((gC_ (y300_c31) (T 101 (T 193 o)))) l7_31 ((S1_ wb_)) ((S2_ wb_)) ((S3_ wb_))) := hh16_
                have rc_ : Rc_ (y300_c31) (y300_16) (T 101 (T 193 o)) (T 102 (T 193 o)) l7_31 (ow1_ (fcf_ v_a v_b v_c v_d v_e) (gC_ (y300_c31) (T 101 (T 193 o))) l7_31 wb_ (S1_ wb_) (S2_ wb_) (S3_ wb_)) := by rw [← ow1_cF (F2 := gC_ (y300_c31) (T 100 (T 193 o))) (fun i_ h1_ h2_ => (iv31.2.1 _ n01_ n02_ i_.toNat).trans (fq_ i_ h1_ h2_))]; first | (rw [ow1_n (by omega)]; exact hh16_) | (rw [ow1_s (by omega)]; exact hh16_)
                refine j_iinc E 80 rfl [(7, .int (J (l7_31 + 1))), (0, .ref o), (1, .int (J v_l)), (2, .int (J v_a)), (3, .int (J v_b)), (4, .int (J v_c)), (5, .int (J v_d)), (6, .int (J v_e))] dX9_byBook_77 hl (kk := 7) rfl (by decide) rfl (fun ls hl => ?_)
                refine j_goto E 31 dX9_byBook_80 (by decide) ?_
                exact ih31 (l7_31 + 1) y103_16 y300_16 H locs ls (rr (by omega)) (⟨⟨by omega, fun b_ h1_ h2_ i_ => (rc_.1 b_ h1_ h2_ i_).trans (iv31.2.1 b_ h1_ h2_ i_), ob_C iv31.2.2 (by omega) rc_ ⟨_, hg_, eb_⟩ (by omega)⟩, (Kd_tr ik31_ (Kd_mono kf16_ (by decide)))⟩) (by omega) hw (lv_sub hl [1, 2, 3, 4, 5, 6, 7, 0] rfl)
      exact L31_5 _ 0 (v_0 103) y300_3 H locs ls (rr (by decide)) (⟨⟨by omega, fun _ _ _ _ => rfl, fun y_ h1_ h2_ => absurd h2_ (by omega)⟩, (Kd_tr Kd_rf (Kd_mono kf3_ (by decide)))⟩) (Nat.lt_succ_self _) (cw_eq hw (by first | rfl | (funext j_; simp only [upV, reduceIte]; (repeat' split) <;> first | rfl | omega | (subst_vars; rfl)))) (lv_sub hl [1, 2, 3, 4, 5, 6, 7, 0] rfl)
    · refine j_iconst E 27 rfl dX9_byBook_26 ?_
      exact hret 27 ((-1)) (upV (upV v_0 103 (v_0 103)) 300 y300_3) _ _ ls (cw_eq hw (by first | rfl | (funext j_; simp only [upV, reduceIte]; (repeat' split) <;> first | rfl | omega | (subst_vars; rfl)))) (rr (by decide)) ⟨(v_0 103), y300_3, rfl, ⟨⟨Or.inl ⟨rfl, by omega⟩, by first | exact Rz_rf | (rw [(tf_.elim (fun q_ => absurd q_.1 (by omega)) id).2.2]; exact Rz_rf)⟩, (Kd_tr Kd_rf (Kd_mono kf3_ (by decide)))⟩⟩ dX9_byBook_27
set_option maxHeartbeats 4000000 in
set_option maxRecDepth 100000 in
theorem c_X9_suitOf (l : Launch) (D : va_G) (cy : Nat → ClassId) (T : Nat → Nat → Nat) (v_0 : Nat → Nat → Int) (o : Nat) (v_i : Int) (v_w : Int) (t_o : T 0 o = 9) (r_v_i : inR v_i) (r_v_w : inR v_w) : KC l D cy T yX9_suitOf cX9_suitOf 4 (some .int) 5 [.ref o, .int (J v_i), .int (J v_w)] v_0 (KI (fun (z_0 : Int) (v_2 : Nat → Nat → Int) => v_2 = v_0 ∧ (True))) := by
  refine KC.ofi (by decide) (Nat.le_of_ble_eq_true rfl) ?_
  intro p e s m below meth c ls ar QW A0 H0 H locs E hK hA hw hl hret
  have hl : lv_has ls 4 [(0, .ref o), (1, .int (J v_i)), (2, .int (J v_w))] := hl
  have hT : WT T := hw.1.2.1
  refine j_aload_n E 1 rfl dX9_suitOf_0 rfl (lv_at hl 0 rfl) ?_
  refine j_iload_n E 2 rfl dX9_suitOf_1 rfl (lv_at hl 1 rfl) ?_
  refine kV_r E (c_X9_suitAt l D cy T (v_0) o v_i  t_o r_v_i ) mt_X9_suitAt ml_X9_319 hK hw (cw_rc9 hK hw.1 t_o) hA ⟨Nat.le_of_ble_eq_true rfl, Nat.le_of_ble_eq_true rfl⟩ ⟨Nat.le_of_ble_eq_true rfl, Nat.le_of_ble_eq_true rfl⟩ (As := [.int (J v_i)]) (rest := []) rfl rfl hl.1 (Nat.le_of_ble_eq_true rfl) 5 rfl dX9_suitOf_2 (fun oo1_ v_1 H locs hq1_ hw => ?_)
  obtain ⟨ev1_, hh1_⟩ := hq1_
  rw [ev1_] at hw; clear ev1_
  obtain ⟨tt1_, hh1_⟩ := hh1_
  replace hh1_ : (oo1_ = none → (v_i < 0 ∨ ((v_0 202) (T 183 o)) ≤ v_i)) ∧ (∀ y_, oo1_ = some y_ → 0 ≤ v_i ∧ v_i < ((v_0 202) (T 183 o)) ∧ T (1000 + (v_i).toNat) (T 201 (T 183 o)) = y_ + 1) := hh1_
  cases oo1_ with
  | none =>
    refine j_astore_nN E 6 rfl [(3, .null), (0, .ref o), (1, .int (J v_i)), (2, .int (J v_w))] dX9_suitOf_5 rfl hl (by decide) rfl (fun ls hl => ?_)
    refine j_aload_nN E 7 rfl dX9_suitOf_6 rfl (lv_at hl 0 rfl) ?_
    refine j_ifnonnullN E 10 rfl dX9_suitOf_7 ?_
    refine j_iconst E 11 rfl dX9_suitOf_10 ?_
    exact hret 11 ((-1)) (v_0) _ _ ls hw (rr (by decide)) ⟨rfl, trivial⟩ dX9_suitOf_11
  | some xx1_ =>
    have te1_ := tt1_ xx1_ rfl
    have tr_ := te1_
    refine j_astore_n E 6 rfl [(3, .ref xx1_), (0, .ref o), (1, .int (J v_i)), (2, .int (J v_w))] dX9_suitOf_5 rfl hl (by decide) rfl (fun ls hl => ?_)
    refine j_aload_n E 7 rfl dX9_suitOf_6 rfl (lv_at hl 0 rfl) ?_
    refine j_ifnonnullR E 12 dX9_suitOf_7 (by decide) ?_
    refine j_iload_n E 13 rfl dX9_suitOf_12 rfl (lv_at hl 3 rfl) ?_
    by_cases tb2_0 : v_w = 0
    · refine j_tabIn E 52 r_v_w 0 dX9_suitOf_13 (by omega) rfl (by decide) ?_
      refine j_aload_n E 53 rfl dX9_suitOf_52 rfl (lv_at hl 0 rfl) ?_
      refine g_140 E hK hw fl_X9_323 te1_ (v_0 140 xx1_) rfl 56 rfl dX9_suitOf_53 (fun rr3_ => ?_)
      exact hret 56 (v_0 140 xx1_) (v_0) _ _ ls hw rr3_ ⟨rfl, trivial⟩ dX9_suitOf_56
    by_cases tb2_1 : v_w = 1
    · refine j_tabIn E 57 r_v_w 1 dX9_suitOf_13 (by omega) rfl (by decide) ?_
      refine j_aload_n E 58 rfl dX9_suitOf_57 rfl (lv_at hl 0 rfl) ?_
      refine g_141 E hK hw fl_X9_133 te1_ (v_0 141 xx1_) rfl 61 rfl dX9_suitOf_58 (fun rr4_ => ?_)
      exact hret 61 (v_0 141 xx1_) (v_0) _ _ ls hw rr4_ ⟨rfl, trivial⟩ dX9_suitOf_61
    by_cases tb2_2 : v_w = 2
    · refine j_tabIn E 62 r_v_w 2 dX9_suitOf_13 (by omega) rfl (by decide) ?_
      refine j_aload_n E 63 rfl dX9_suitOf_62 rfl (lv_at hl 0 rfl) ?_
      refine g_142 E hK hw fl_X9_326 te1_ (v_0 142 xx1_) rfl 66 rfl dX9_suitOf_63 (fun rr5_ => ?_)
      exact hret 66 (v_0 142 xx1_) (v_0) _ _ ls hw rr5_ ⟨rfl, trivial⟩ dX9_suitOf_66
    by_cases tb2_3 : v_w = 3
    · refine j_tabIn E 67 r_v_w 3 dX9_suitOf_13 (by omega) rfl (by decide) ?_
      refine j_aload_n E 68 rfl dX9_suitOf_67 rfl (lv_at hl 0 rfl) ?_
      refine g_143 E hK hw fl_X9_329 te1_ (v_0 143 xx1_) rfl 71 rfl dX9_suitOf_68 (fun rr6_ => ?_)
      exact hret 71 (v_0 143 xx1_) (v_0) _ _ ls hw rr6_ ⟨rfl, trivial⟩ dX9_suitOf_71
    by_cases tb2_4 : v_w = 4
    · refine j_tabIn E 72 r_v_w 4 dX9_suitOf_13 (by omega) rfl (by decide) ?_
      refine j_aload_n E 73 rfl dX9_suitOf_72 rfl (lv_at hl 0 rfl) ?_
      refine g_144 E hK hw fl_X9_139 te1_ (v_0 144 xx1_) rfl 76 rfl dX9_suitOf_73 (fun rr7_ => ?_)
      exact hret 76 (v_0 144 xx1_) (v_0) _ _ ls hw rr7_ ⟨rfl, trivial⟩ dX9_suitOf_76
    by_cases tb2_5 : v_w = 5
    · refine j_tabIn E 77 r_v_w 5 dX9_suitOf_13 (by omega) rfl (by decide) ?_
      refine j_aload_n E 78 rfl dX9_suitOf_77 rfl (lv_at hl 0 rfl) ?_
      refine g_146 E hK hw fl_X9_332 te1_ (v_0 146 xx1_) rfl 81 rfl dX9_suitOf_78 (fun rr8_ => ?_)
      refine j_if_eq E 84 88 rfl rr8_ dX9_suitOf_81 (by decide) (fun cc9_ => ?_) (fun cc9_ => ?_)
      · refine j_iconst E 89 rfl dX9_suitOf_88 ?_
        exact hret 89 0 (v_0) _ _ ls hw (rr (by decide)) ⟨rfl, trivial⟩ dX9_suitOf_89
      · refine j_iconst E 85 rfl dX9_suitOf_84 ?_
        refine j_goto E 89 dX9_suitOf_85 (by decide) ?_
        exact hret 89 1 (v_0) _ _ ls hw (rr (by decide)) ⟨rfl, trivial⟩ dX9_suitOf_89
    refine j_tabOut E 90 r_v_w dX9_suitOf_13 (by omega) (by decide) ?_
    refine j_iload_n E 91 rfl dX9_suitOf_90 rfl (lv_at hl 3 rfl) ?_
    refine j_bipush E 93 rfl dX9_suitOf_91 (by decide) ?_
    refine j_icmp_lt E 96 121 rfl r_v_w (rr (by decide)) dX9_suitOf_93 (by decide) (fun cc10_ => ?_) (fun cc10_ => ?_)
    · refine j_iconst E 122 rfl dX9_suitOf_121 ?_
      exact hret 122 ((-1)) (v_0) _ _ ls hw (rr (by decide)) ⟨rfl, trivial⟩ dX9_suitOf_122
    · refine j_iload_n E 97 rfl dX9_suitOf_96 rfl (lv_at hl 3 rfl) ?_
      refine j_bipush E 99 rfl dX9_suitOf_97 (by decide) ?_
      refine j_isub E 100 rfl dX9_suitOf_99 ?_
      refine j_norm (fun zz11_ rr11_ ee11_ => ?_)
      refine j_aload_n E 101 rfl dX9_suitOf_100 rfl (lv_at hl 1 rfl) ?_
      refine g_180 E hK hw fl_X9_12 t_o 104 rfl dX9_suitOf_101 ?_
      refine kV_i E (c_Jx4a65c_size_8abf5 l D cy T (v_0) (T 180 o)  (wt_180 hT t_o)  ) mt_Jx4a65c_size_8abf5 ml_X9_80 hK hw (cw_rc10 hK hw.1 (wt_180 hT t_o)) hA ⟨Nat.le_of_ble_eq_true rfl, Nat.le_of_ble_eq_true rfl⟩ ⟨Nat.le_of_ble_eq_true rfl, Nat.le_of_ble_eq_true rfl⟩ (As := []) (rest := [.int (J zz11_)]) rfl rfl hl.1 (Nat.le_of_ble_eq_true rfl) 107 rfl dX9_suitOf_104 (fun zz12_ v_12 H locs rr12_ hq12_ hw => ?_)
      obtain ⟨ev12_, hh12_⟩ := hq12_
      rw [ev12_] at hw; clear ev12_
      replace hh12_ : zz12_ = ((v_0 202) ((T 180 o))) ∧ 0 ≤ zz12_ := hh12_
      refine j_icmp_ge E 110 121 rfl rr11_ rr12_ dX9_suitOf_107 (by decide) (fun cc13_ => ?_) (fun cc13_ => ?_)
      · refine j_iconst E 122 rfl dX9_suitOf_121 ?_
        exact hret 122 ((-1)) (v_0) _ _ ls hw (rr (by decide)) ⟨rfl, trivial⟩ dX9_suitOf_122
      · refine j_aload_n E 111 rfl dX9_suitOf_110 rfl (lv_at hl 0 rfl) ?_
        refine j_iload_n E 112 rfl dX9_suitOf_111 rfl (lv_at hl 3 rfl) ?_
        refine j_bipush E 114 rfl dX9_suitOf_112 (by decide) ?_
        refine j_isub E 115 rfl dX9_suitOf_114 ?_
        refine j_norm (fun zz14_ rr14_ ee14_ => ?_)
        refine kV_i E (c_X6_partOf l D cy T (v_0) xx1_ zz14_  te1_ rr14_ ) mt_X6_partOf ml_X9_335 hK hw (cw_rc7 hK hw.1 te1_) hA ⟨Nat.le_of_ble_eq_true rfl, Nat.le_of_ble_eq_true rfl⟩ ⟨Nat.le_of_ble_eq_true rfl, Nat.le_of_ble_eq_true rfl⟩ (As := [.int (J zz14_)]) (rest := []) rfl rfl hl.1 (Nat.le_of_ble_eq_true rfl) 118 rfl dX9_suitOf_115 (fun zz15_ v_15 H locs rr15_ hq15_ hw => ?_)
        obtain ⟨ev15_, hh15_⟩ := hq15_
        rw [ev15_] at hw; clear ev15_
        refine j_goto E 122 dX9_suitOf_118 (by decide) ?_
        exact hret 122 zz15_ (v_0) _ _ ls hw rr15_ ⟨rfl, trivial⟩ dX9_suitOf_122
set_option maxHeartbeats 4000000 in
set_option maxRecDepth 100000 in
theorem c_X9_pay (l : Launch) (D : va_G) (cy : Nat → ClassId) (T : Nat → Nat → Nat) (v_0 : Nat → Nat → Int) (o : Nat) (v_i : Int) (t_o : T 0 o = 9) (r_v_i : inR v_i) : KC l D cy T yX9_pay cX9_pay 3 (some .boolean) 5 [.ref o, .int (J v_i)] v_0 (KI (fun (z_0 : Int) (v_2 : Nat → Nat → Int) => ∃ (y146_2 : Nat → Int) , v_2 = upV v_0 146 y146_2 ∧ ((z_0 = 0 ∧ (y146_2) = (v_0 146) ∧ ((v_i < 0 ∨ (v_0 202 (T 183 o)) ≤ v_i) ∨ ∃ y_, T (1000 + (v_i).toNat) (T 201 (T 183 o)) = y_ + 1 ∧ ¬ (v_0 146 y_) = 0)) ∨ (z_0 = 1 ∧ ∃ y_, (0 ≤ v_i ∧ v_i < (v_0 202 (T 183 o)) ∧ T (1000 + (v_i).toNat) (T 201 (T 183 o)) = y_ + 1) ∧ (v_0 146 y_) = 0 ∧ (y146_2) = upB (v_0 146) y_ 1)))) := by
  refine KC.ofz (by decide) (Nat.le_of_ble_eq_true rfl) ?_
  intro p e s m below meth c ls ar QW A0 H0 H locs E hK hA hw hl hret
  have hl : lv_has ls 3 [(0, .ref o), (1, .int (J v_i))] := hl
  have hT : WT T := hw.1.2.1
  refine j_aload_n E 1 rfl dX9_pay_0 rfl (lv_at hl 0 rfl) ?_
  refine j_iload_n E 2 rfl dX9_pay_1 rfl (lv_at hl 1 rfl) ?_
  refine kV_r E (c_X9_suitAt l D cy T (v_0) o v_i  t_o r_v_i ) mt_X9_suitAt ml_X9_319 hK hw (cw_rc9 hK hw.1 t_o) hA ⟨Nat.le_of_ble_eq_true rfl, Nat.le_of_ble_eq_true rfl⟩ ⟨Nat.le_of_ble_eq_true rfl, Nat.le_of_ble_eq_true rfl⟩ (As := [.int (J v_i)]) (rest := []) rfl rfl hl.1 (Nat.le_of_ble_eq_true rfl) 5 rfl dX9_pay_2 (fun oo1_ v_1 H locs hq1_ hw => ?_)
  obtain ⟨ev1_, hh1_⟩ := hq1_
  rw [ev1_] at hw; clear ev1_
  obtain ⟨tt1_, hh1_⟩ := hh1_
  replace hh1_ : (oo1_ = none → (v_i < 0 ∨ ((v_0 202) (T 183 o)) ≤ v_i)) ∧ (∀ y_, oo1_ = some y_ → 0 ≤ v_i ∧ v_i < ((v_0 202) (T 183 o)) ∧ T (1000 + (v_i).toNat) (T 201 (T 183 o)) = y_ + 1) := hh1_
  cases oo1_ with
  | none =>
    first | have hn_ := hh1_.1 rfl | have hs_ := hh1_.2 _ rfl
    refine j_astore_nN E 6 rfl [(2, .null), (0, .ref o), (1, .int (J v_i))] dX9_pay_5 rfl hl (by decide) rfl (fun ls hl => ?_)
    refine j_aload_nN E 7 rfl dX9_pay_6 rfl (lv_at hl 0 rfl) ?_
    refine j_ifnullN E 17 dX9_pay_7 (by decide) ?_
    refine j_iconst E 18 rfl dX9_pay_17 ?_
    exact hret 18 0 (upV v_0 146 (v_0 146)) _ _ ls (cw_eq hw (by first | rfl | (funext j_; simp only [upV, reduceIte]; (repeat' split) <;> first | rfl | omega | (subst_vars; rfl)))) (Or.inl rfl) ⟨(v_0 146), rfl, Or.inl ⟨rfl, rfl, by first | exact Or.inl hn_ | exact Or.inr ⟨_, hs_.2.2, by omega⟩⟩⟩ dX9_pay_18
  | some xx1_ =>
    have te1_ := tt1_ xx1_ rfl
    have tr_ := te1_
    first | have hn_ := hh1_.1 rfl | have hs_ := hh1_.2 _ rfl
    refine j_astore_n E 6 rfl [(2, .ref xx1_), (0, .ref o), (1, .int (J v_i))] dX9_pay_5 rfl hl (by decide) rfl (fun ls hl => ?_)
    refine j_aload_n E 7 rfl dX9_pay_6 rfl (lv_at hl 0 rfl) ?_
    refine j_ifnullR E 10 rfl dX9_pay_7 ?_
    refine j_aload_n E 11 rfl dX9_pay_10 rfl (lv_at hl 0 rfl) ?_
    refine g_146 E hK hw fl_X9_332 te1_ (v_0 146 xx1_) rfl 14 rfl dX9_pay_11 (fun rr2_ => ?_)
    refine j_if_eq E 17 19 rfl rr2_ dX9_pay_14 (by decide) (fun cc3_ => ?_) (fun cc3_ => ?_)
    · refine j_aload_n E 20 rfl dX9_pay_19 rfl (lv_at hl 0 rfl) ?_
      refine j_iconst E 21 rfl dX9_pay_20 ?_
      refine p_146 E hK hw fl_X9_332 te1_ (rr (by decide)) (Or.inr rfl) 24 rfl dX9_pay_21 (fun H locs hw => ?_)
      have hw : WK D cy T (upV v_0 146 (upB (v_0 146) xx1_ 1)) A0 H0 H locs := cw_eq hw (by first | rfl | (funext j_; simp only [upV, reduceIte]; (repeat' split) <;> first | rfl | omega | (subst_vars; rfl)))
      refine j_iconst E 25 rfl dX9_pay_24 ?_
      exact hret 25 1 (upV v_0 146 (upB (v_0 146) xx1_ 1)) _ _ ls hw (Or.inr rfl) ⟨(upB (v_0 146) xx1_ 1), rfl, Or.inr ⟨rfl, _, hs_, by omega, rfl⟩⟩ dX9_pay_25
    · refine j_iconst E 18 rfl dX9_pay_17 ?_
      exact hret 18 0 (upV v_0 146 (v_0 146)) _ _ ls (cw_eq hw (by first | rfl | (funext j_; simp only [upV, reduceIte]; (repeat' split) <;> first | rfl | omega | (subst_vars; rfl)))) (Or.inl rfl) ⟨(v_0 146), rfl, Or.inl ⟨rfl, rfl, by first | exact Or.inl hn_ | exact Or.inr ⟨_, hs_.2.2, by omega⟩⟩⟩ dX9_pay_18
set_option maxHeartbeats 4000000 in
set_option maxRecDepth 100000 in
theorem c_X9_livingKinOf (l : Launch) (D : va_G) (cy : Nat → ClassId) (T : Nat → Nat → Nat) (v_0 : Nat → Nat → Int) (o : Nat) (v_p : Int) (v_f : Int) (t_o : T 0 o = 9) (r_v_p : inR v_p) (r_v_f : inR v_f) : KC l D cy T yX9_livingKinOf cX9_livingKinOf 6 (some .int) 4 [.ref o, .int (J v_p), .int (J v_f)] v_0 (KI (fun (z_0 : Int) (v_2 : Nat → Nat → Int) => v_2 = v_0 ∧ (True))) := by
  refine KC.ofi (by decide) (Nat.le_of_ble_eq_true rfl) ?_
  intro p e s m below meth c ls ar QW A0 H0 H locs E hK hA hw hl hret
  have hl : lv_has ls 6 [(0, .ref o), (1, .int (J v_p)), (2, .int (J v_f))] := hl
  have hT : WT T := hw.1.2.1
  refine j_iconst E 1 rfl dX9_livingKinOf_0 ?_
  refine j_istore_n E 2 rfl [(3, .int (J 0)), (0, .ref o), (1, .int (J v_p)), (2, .int (J v_f))] dX9_livingKinOf_1 rfl hl (by decide) rfl (fun ls hl => ?_)
  refine j_iconst E 3 rfl dX9_livingKinOf_2 ?_
  refine j_istore E 5 rfl [(4, .int (J 0)), (3, .int (J 0)), (0, .ref o), (1, .int (J v_p)), (2, .int (J v_f))] dX9_livingKinOf_3 hl (by decide) rfl (fun ls hl => ?_)
  have L5_1 : ∀ (k5 : Nat) (l3_5 l4_5 : Int) (H : Heap) (locs : List Loc) (ls : Array Slot), inR l3_5 → inR l4_5 → (0 ≤ l4_5) → ((v_0 202 (T 180 o)) - l4_5).toNat < k5 → WK D cy T (v_0) A0 H0 H locs → lv_has ls 6 [(0, .ref o), (1, .int (J v_p)), (2, .int (J v_f)), (3, .int (J l3_5)), (4, .int (J l4_5))] → W p l e (rmd 4 0 0) s m ar below meth c H locs 0 0 QW (F0 m 5 ls []) := by
    intro k5
    induction k5 with
    | zero =>
      intro l3_5 l4_5 H locs ls r_l3_5 r_l4_5 iv5 ms5 hw hl
      exact absurd ms5 (Nat.not_lt_zero _)
    | succ k5 ih5 =>
      intro l3_5 l4_5 H locs ls r_l3_5 r_l4_5 iv5 ms5 hw hl
      refine j_iload E 7 rfl dX9_livingKinOf_5 (lv_at hl 4 rfl) ?_
      refine j_aload_n E 8 rfl dX9_livingKinOf_7 rfl (lv_at hl 0 rfl) ?_
      refine g_180 E hK hw fl_X9_12 t_o 11 rfl dX9_livingKinOf_8 ?_
      refine kV_i E (c_Jx4a65c_size_8abf5 l D cy T (v_0) (T 180 o)  (wt_180 hT t_o)  ) mt_Jx4a65c_size_8abf5 ml_X9_80 hK hw (cw_rc10 hK hw.1 (wt_180 hT t_o)) hA ⟨Nat.le_of_ble_eq_true rfl, Nat.le_of_ble_eq_true rfl⟩ ⟨Nat.le_of_ble_eq_true rfl, Nat.le_of_ble_eq_true rfl⟩ (As := []) (rest := [.int (J l4_5)]) rfl rfl hl.1 (Nat.le_of_ble_eq_true rfl) 14 rfl dX9_livingKinOf_11 (fun zz3_ v_3 H locs rr3_ hq3_ hw => ?_)
      obtain ⟨ev3_, hh3_⟩ := hq3_
      rw [ev3_] at hw; clear ev3_
      replace hh3_ : zz3_ = ((v_0 202) ((T 180 o))) ∧ 0 ≤ zz3_ := hh3_
      refine j_icmp_ge E 17 67 rfl r_l4_5 rr3_ dX9_livingKinOf_14 (by decide) (fun cc4_ => ?_) (fun cc4_ => ?_)
      · refine j_iload_n E 68 rfl dX9_livingKinOf_67 rfl (lv_at hl 3 rfl) ?_
        exact hret 68 l3_5 (v_0) _ _ ls hw r_l3_5 ⟨rfl, trivial⟩ dX9_livingKinOf_68
      · refine j_aload_n E 18 rfl dX9_livingKinOf_17 rfl (lv_at hl 0 rfl) ?_
        refine g_180 E hK hw fl_X9_12 t_o 21 rfl dX9_livingKinOf_18 ?_
        refine j_iload E 23 rfl dX9_livingKinOf_21 (lv_at hl 4 rfl) ?_
        refine kV_n E (c_Jx4a65c_get_915e3 l D cy T (v_0) (T 180 o) l4_5  (wt_180 hT t_o) r_l4_5 (show 0 ≤ l4_5 ∧ l4_5 < ((v_0 202) ((T 180 o))) from by omega)) mt_Jx4a65c_get_915e3 ml_X9_123 hK hw (cw_rc10 hK hw.1 (wt_180 hT t_o)) hA ⟨Nat.le_of_ble_eq_true rfl, Nat.le_of_ble_eq_true rfl⟩ ⟨Nat.le_of_ble_eq_true rfl, Nat.le_of_ble_eq_true rfl⟩ (As := [.int (J l4_5)]) (rest := []) rfl rfl hl.1 (Nat.le_of_ble_eq_true rfl) 26 rfl dX9_livingKinOf_23 (fun xx5_ v_5 H locs hq5_ hw => ?_)
        obtain ⟨ev5_, hh5_⟩ := hq5_
        rw [ev5_] at hw; clear ev5_
        replace hh5_ : dcd (T (1000 + (l4_5).toNat) (T 201 (T 180 o))) = some xx5_ ∧ T 0 xx5_ = T 2 (T 180 o) := hh5_
        have te5_ : T 0 xx5_ = 2 := hh5_.2.trans (we_180 hT t_o)
        have tg_ := te5_
        refine k_cast2 E hK hw cl_X9_84 te5_ 29 rfl dX9_livingKinOf_26 ?_
        refine j_astore E 31 rfl [(5, .ref xx5_), (0, .ref o), (1, .int (J v_p)), (2, .int (J v_f)), (3, .int (J l3_5)), (4, .int (J l4_5))] dX9_livingKinOf_29 hl (by decide) rfl (fun ls hl => ?_)
        refine j_iload E 33 rfl dX9_livingKinOf_31 (lv_at hl 5 rfl) ?_
        refine j_iload_n E 34 rfl dX9_livingKinOf_33 rfl (lv_at hl 2 rfl) ?_
        refine j_icmp_eq E 37 61 rfl r_l4_5 r_v_p dX9_livingKinOf_34 (by decide) (fun cc6_ => ?_) (fun cc6_ => ?_)
        · refine j_iinc E 64 rfl [(4, .int (J (l4_5 + 1))), (5, .ref xx5_), (0, .ref o), (1, .int (J v_p)), (2, .int (J v_f)), (3, .int (J l3_5))] dX9_livingKinOf_61 hl (kk := 5) rfl (by decide) rfl (fun ls hl => ?_)
          refine j_goto E 5 dX9_livingKinOf_64 (by decide) ?_
          exact ih5 l3_5 (l4_5 + 1)  H locs ls r_l3_5 (rr (by omega)) (by omega) (by omega) hw (lv_sub hl [2, 3, 4, 5, 0] rfl)
        · refine j_aload E 39 rfl dX9_livingKinOf_37 (lv_at hl 0 rfl) ?_
          refine kV_i E (c_X1_lives l D cy T (v_0) xx5_  te5_  ) mt_X1_lives ml_X9_127 hK hw (cw_rc2 hK hw.1 te5_) hA ⟨Nat.le_of_ble_eq_true rfl, Nat.le_of_ble_eq_true rfl⟩ ⟨Nat.le_of_ble_eq_true rfl, Nat.le_of_ble_eq_true rfl⟩ (As := []) (rest := []) rfl rfl hl.1 (Nat.le_of_ble_eq_true rfl) 42 rfl dX9_livingKinOf_39 (fun zz7_ v_7 H locs rr7_ hq7_ hw => ?_)
          obtain ⟨ev7_, hh7_⟩ := hq7_
          rw [ev7_] at hw; clear ev7_
          replace hh7_ : (zz7_ = 1 ∧ ((v_0 43) xx5_) = -1) ∨ (zz7_ = 0 ∧ ¬ ((v_0 43) xx5_) = -1) := hh7_
          refine j_if_eq E 45 61 rfl rr7_ dX9_livingKinOf_42 (by decide) (fun cc8_ => ?_) (fun cc8_ => ?_)
          · refine j_iinc E 64 rfl [(4, .int (J (l4_5 + 1))), (5, .ref xx5_), (0, .ref o), (1, .int (J v_p)), (2, .int (J v_f)), (3, .int (J l3_5))] dX9_livingKinOf_61 hl (kk := 5) rfl (by decide) rfl (fun ls hl => ?_)
            refine j_goto E 5 dX9_livingKinOf_64 (by decide) ?_
            exact ih5 l3_5 (l4_5 + 1)  H locs ls r_l3_5 (rr (by omega)) (by omega) (by omega) hw (lv_sub hl [2, 3, 4, 5, 0] rfl)
          · refine j_aload E 47 rfl dX9_livingKinOf_45 (lv_at hl 0 rfl) ?_
            refine g_41 E hK hw fl_X9_110 te5_ (v_0 41 xx5_) rfl 50 rfl dX9_livingKinOf_47 (fun rr9_ => ?_)
            refine j_iload_n E 51 rfl dX9_livingKinOf_50 rfl (lv_at hl 3 rfl) ?_
            refine j_icmp_ne E 54 61 rfl rr9_ r_v_f dX9_livingKinOf_51 (by decide) (fun cc10_ => ?_) (fun cc10_ => ?_)
            · refine j_iinc E 64 rfl [(4, .int (J (l4_5 + 1))), (5, .ref xx5_), (0, .ref o), (1, .int (J v_p)), (2, .int (J v_f)), (3, .int (J l3_5))] dX9_livingKinOf_61 hl (kk := 5) rfl (by decide) rfl (fun ls hl => ?_)
              refine j_goto E 5 dX9_livingKinOf_64 (by decide) ?_
              exact ih5 l3_5 (l4_5 + 1)  H locs ls r_l3_5 (rr (by omega)) (by omega) (by omega) hw (lv_sub hl [2, 3, 4, 5, 0] rfl)
            · refine j_iload_n E 55 rfl dX9_livingKinOf_54 rfl (lv_at hl 4 rfl) ?_
              refine j_iconst E 56 rfl dX9_livingKinOf_55 ?_
              refine j_iload E 58 rfl dX9_livingKinOf_56 (lv_at hl 5 rfl) ?_
              refine j_ishl E 59 rfl dX9_livingKinOf_58 (fun zz11_ rr11_ ee11_ => ?_)
              refine j_ior E 60 rfl dX9_livingKinOf_59 (fun zz12_ rr12_ ee12_ => ?_)
              refine j_istore_n E 61 rfl [(3, .int (J zz12_)), (5, .ref xx5_), (0, .ref o), (1, .int (J v_p)), (2, .int (J v_f)), (4, .int (J l4_5))] dX9_livingKinOf_60 rfl hl (by decide) rfl (fun ls hl => ?_)
              refine j_iinc E 64 rfl [(4, .int (J (l4_5 + 1))), (3, .int (J zz12_)), (5, .ref xx5_), (0, .ref o), (1, .int (J v_p)), (2, .int (J v_f))] dX9_livingKinOf_61 hl (kk := 5) rfl (by decide) rfl (fun ls hl => ?_)
              refine j_goto E 5 dX9_livingKinOf_64 (by decide) ?_
              exact ih5 zz12_ (l4_5 + 1)  H locs ls rr12_ (rr (by omega)) (by omega) (by omega) hw (lv_sub hl [3, 4, 5, 1, 0] rfl)
  exact L5_1 _ 0 0  H locs ls (rr (by decide)) (rr (by decide)) (by omega) (Nat.lt_succ_self _) hw (lv_sub hl [2, 3, 4, 1, 0] rfl)
set_option maxHeartbeats 4000000 in
set_option maxRecDepth 100000 in
theorem c_X9_distance (l : Launch) (D : va_G) (cy : Nat → ClassId) (T : Nat → Nat → Nat) (v_0 : Nat → Nat → Int) (o : Nat) (v_w : Int) (v_v : Int) (t_o : T 0 o = 9) (r_v_w : inR v_w) (r_v_v : inR v_v) : KC l D cy T yX9_distance cX9_distance 6 (some .int) 5 [.ref o, .int (J v_w), .int (J v_v)] v_0 (KI (fun (z_0 : Int) (v_2 : Nat → Nat → Int) => ∃ (y300_2 : Nat → Int) , v_2 = upV v_0 300 y300_2 ∧ ((True) ∧ Kd_ T [163, 196] (v_0 300) y300_2))) := by
  refine KC.ofi (by decide) (Nat.le_of_ble_eq_true rfl) ?_
  intro p e s m below meth c ls ar QW A0 H0 H locs E hK hA hw hl hret
  have hl : lv_has ls 6 [(0, .ref o), (1, .int (J v_w)), (2, .int (J v_v))] := hl
  have hT : WT T := hw.1.2.1
  refine j_aload_n E 1 rfl dX9_distance_0 rfl (lv_at hl 0 rfl) ?_
  refine j_iload_n E 2 rfl dX9_distance_1 rfl (lv_at hl 1 rfl) ?_
  refine j_iload_n E 3 rfl dX9_distance_2 rfl (lv_at hl 2 rfl) ?_
  refine j_max E hl.1 ml_X9_350 r_v_w r_v_v ⟨Nat.le_of_ble_eq_true rfl, Nat.le_of_ble_eq_true rfl⟩ ⟨Nat.le_of_ble_eq_true rfl, Nat.le_of_ble_eq_true rfl⟩ 6 rfl dX9_distance_3 (fun zz1_ rr1_ hh1_ => ?_)
  refine kV_r E (c_X9_wordingAt l D cy T (v_0) o zz1_  t_o rr1_ ) mt_X9_wordingAt ml_X9_302 hK hw (cw_rc9 hK hw.1 t_o) hA ⟨Nat.le_of_ble_eq_true rfl, Nat.le_of_ble_eq_true rfl⟩ ⟨Nat.le_of_ble_eq_true rfl, Nat.le_of_ble_eq_true rfl⟩ (As := [.int (J zz1_)]) (rest := []) rfl rfl hl.1 (Nat.le_of_ble_eq_true rfl) 9 rfl dX9_distance_6 (fun oo2_ v_2 H locs hq2_ hw => ?_)
  obtain ⟨ev2_, hh2_⟩ := hq2_
  rw [ev2_] at hw; clear ev2_
  obtain ⟨tt2_, hh2_⟩ := hh2_
  replace hh2_ : (oo2_ = none → (zz1_ < 0 ∨ ((v_0 202) (T 182 o)) ≤ zz1_)) ∧ (∀ y_, oo2_ = some y_ → 0 ≤ zz1_ ∧ zz1_ < ((v_0 202) (T 182 o)) ∧ T (1000 + (zz1_).toNat) (T 201 (T 182 o)) = y_ + 1) := hh2_
  cases oo2_ with
  | none =>
    refine j_astore_nN E 10 rfl [(3, .null), (0, .ref o), (1, .int (J v_w)), (2, .int (J v_v))] dX9_distance_9 rfl hl (by decide) rfl (fun ls hl => ?_)
    refine j_aload_n E 11 rfl dX9_distance_10 rfl (lv_at hl 1 rfl) ?_
    refine j_iload_n E 12 rfl dX9_distance_11 rfl (lv_at hl 2 rfl) ?_
    refine j_iload_n E 13 rfl dX9_distance_12 rfl (lv_at hl 3 rfl) ?_
    refine j_min E hl.1 ml_X9_355 r_v_w r_v_v ⟨Nat.le_of_ble_eq_true rfl, Nat.le_of_ble_eq_true rfl⟩ ⟨Nat.le_of_ble_eq_true rfl, Nat.le_of_ble_eq_true rfl⟩ 16 rfl dX9_distance_13 (fun zz3_ rr3_ hh3_ => ?_)
    refine kV_r E (c_X9_wordingAt l D cy T (v_0) o zz3_  t_o rr3_ ) mt_X9_wordingAt ml_X9_302 hK hw (cw_rc9 hK hw.1 t_o) hA ⟨Nat.le_of_ble_eq_true rfl, Nat.le_of_ble_eq_true rfl⟩ ⟨Nat.le_of_ble_eq_true rfl, Nat.le_of_ble_eq_true rfl⟩ (As := [.int (J zz3_)]) (rest := []) rfl rfl hl.1 (Nat.le_of_ble_eq_true rfl) 19 rfl dX9_distance_16 (fun oo4_ v_4 H locs hq4_ hw => ?_)
    obtain ⟨ev4_, hh4_⟩ := hq4_
    rw [ev4_] at hw; clear ev4_
    obtain ⟨tt4_, hh4_⟩ := hh4_
    replace hh4_ : (oo4_ = none → (zz3_ < 0 ∨ ((v_0 202) (T 182 o)) ≤ zz3_)) ∧ (∀ y_, oo4_ = some y_ → 0 ≤ zz3_ ∧ zz3_ < ((v_0 202) (T 182 o)) ∧ T (1000 + (zz3_).toNat) (T 201 (T 182 o)) = y_ + 1) := hh4_
    cases oo4_ with
    | none =>
      refine j_astoreN E 21 rfl [(4, .null), (3, .null), (0, .ref o), (1, .int (J v_w)), (2, .int (J v_v))] dX9_distance_19 hl (by decide) rfl (fun ls hl => ?_)
      refine j_aload_nN E 22 rfl dX9_distance_21 rfl (lv_at hl 1 rfl) ?_
      refine j_ifnullN E 35 dX9_distance_22 (by decide) ?_
      refine j_iconst E 36 rfl dX9_distance_35 ?_
      exact hret 36 0 (upV v_0 300 (v_0 300)) _ _ ls (cw_eq hw (by first | rfl | (funext j_; simp only [upV, reduceIte]; (repeat' split) <;> first | rfl | omega | (subst_vars; rfl)))) (rr (by decide)) ⟨(v_0 300), rfl, ⟨trivial, Kd_rf⟩⟩ dX9_distance_36
    | some xx4_ =>
      have te4_ := tt4_ xx4_ rfl
      have tr_ := te4_
      refine j_astore E 21 rfl [(4, .ref xx4_), (3, .null), (0, .ref o), (1, .int (J v_w)), (2, .int (J v_v))] dX9_distance_19 hl (by decide) rfl (fun ls hl => ?_)
      refine j_aload_nN E 22 rfl dX9_distance_21 rfl (lv_at hl 1 rfl) ?_
      refine j_ifnullN E 35 dX9_distance_22 (by decide) ?_
      refine j_iconst E 36 rfl dX9_distance_35 ?_
      exact hret 36 0 (upV v_0 300 (v_0 300)) _ _ ls (cw_eq hw (by first | rfl | (funext j_; simp only [upV, reduceIte]; (repeat' split) <;> first | rfl | omega | (subst_vars; rfl)))) (rr (by decide)) ⟨(v_0 300), rfl, ⟨trivial, Kd_rf⟩⟩ dX9_distance_36
  | some xx2_ =>
    have te2_ := tt2_ xx2_ rfl
    have tr_ := te2_
    refine j_astore_n E 10 rfl [(3, .ref xx2_), (0, .ref o), (1, .int (J v_w)), (2, .int (J v_v))] dX9_distance_9 rfl hl (by decide) rfl (fun ls hl => ?_)
    refine j_aload_n E 11 rfl dX9_distance_10 rfl (lv_at hl 1 rfl) ?_
    refine j_iload_n E 12 rfl dX9_distance_11 rfl (lv_at hl 2 rfl) ?_
    refine j_iload_n E 13 rfl dX9_distance_12 rfl (lv_at hl 3 rfl) ?_
    refine j_min E hl.1 ml_X9_355 r_v_w r_v_v ⟨Nat.le_of_ble_eq_true rfl, Nat.le_of_ble_eq_true rfl⟩ ⟨Nat.le_of_ble_eq_true rfl, Nat.le_of_ble_eq_true rfl⟩ 16 rfl dX9_distance_13 (fun zz5_ rr5_ hh5_ => ?_)
    refine kV_r E (c_X9_wordingAt l D cy T (v_0) o zz5_  t_o rr5_ ) mt_X9_wordingAt ml_X9_302 hK hw (cw_rc9 hK hw.1 t_o) hA ⟨Nat.le_of_ble_eq_true rfl, Nat.le_of_ble_eq_true rfl⟩ ⟨Nat.le_of_ble_eq_true rfl, Nat.le_of_ble_eq_true rfl⟩ (As := [.int (J zz5_)]) (rest := []) rfl rfl hl.1 (Nat.le_of_ble_eq_true rfl) 19 rfl dX9_distance_16 (fun oo6_ v_6 H locs hq6_ hw => ?_)
    obtain ⟨ev6_, hh6_⟩ := hq6_
    rw [ev6_] at hw; clear ev6_
    obtain ⟨tt6_, hh6_⟩ := hh6_
    replace hh6_ : (oo6_ = none → (zz5_ < 0 ∨ ((v_0 202) (T 182 o)) ≤ zz5_)) ∧ (∀ y_, oo6_ = some y_ → 0 ≤ zz5_ ∧ zz5_ < ((v_0 202) (T 182 o)) ∧ T (1000 + (zz5_).toNat) (T 201 (T 182 o)) = y_ + 1) := hh6_
    cases oo6_ with
    | none =>
      refine j_astoreN E 21 rfl [(4, .null), (3, .ref xx2_), (0, .ref o), (1, .int (J v_w)), (2, .int (J v_v))] dX9_distance_19 hl (by decide) rfl (fun ls hl => ?_)
      refine j_aload_n E 22 rfl dX9_distance_21 rfl (lv_at hl 1 rfl) ?_
      refine j_ifnullR E 25 rfl dX9_distance_22 ?_
      refine j_aloadN E 27 rfl dX9_distance_25 (lv_at hl 0 rfl) ?_
      refine j_ifnullN E 35 dX9_distance_27 (by decide) ?_
      refine j_iconst E 36 rfl dX9_distance_35 ?_
      exact hret 36 0 (upV v_0 300 (v_0 300)) _ _ ls (cw_eq hw (by first | rfl | (funext j_; simp only [upV, reduceIte]; (repeat' split) <;> first | rfl | omega | (subst_vars; rfl)))) (rr (by decide)) ⟨(v_0 300), rfl, ⟨trivial, Kd_rf⟩⟩ dX9_distance_36
    | some xx6_ =>
      have te6_ := tt6_ xx6_ rfl
      have tr_ := te6_
      refine j_astore E 21 rfl [(4, .ref xx6_), (3, .ref xx2_), (0, .ref o), (1, .int (J v_w)), (2, .int (J v_v))] dX9_distance_19 hl (by decide) rfl (fun ls hl => ?_)
      refine j_aload_n E 22 rfl dX9_distance_21 rfl (lv_at hl 1 rfl) ?_
      refine j_ifnullR E 25 rfl dX9_distance_22 ?_
      refine j_aload E 27 rfl dX9_distance_25 (lv_at hl 0 rfl) ?_
      refine j_ifnullR E 30 rfl dX9_distance_27 ?_
      refine j_iload_n E 31 rfl dX9_distance_30 rfl (lv_at hl 3 rfl) ?_
      refine j_iload_n E 32 rfl dX9_distance_31 rfl (lv_at hl 4 rfl) ?_
      refine j_icmp_ne E 35 37 rfl r_v_w r_v_v dX9_distance_32 (by decide) (fun cc7_ => ?_) (fun cc7_ => ?_)
      · refine j_aload_n E 38 rfl dX9_distance_37 rfl (lv_at hl 1 rfl) ?_
        refine j_aload E 40 rfl dX9_distance_38 (lv_at hl 0 rfl) ?_
        refine g_160 E hK hw fl_X9_358 te6_ (v_0 160 xx6_) rfl 43 rfl dX9_distance_40 (fun rr8_ => ?_)
        refine kV_i E (c_X7_distanceTo l D cy T (v_0) xx2_ (v_0 160 xx6_)  te2_ rr8_ ) mt_X7_distanceTo ml_X9_361 hK hw (cw_rc8 hK hw.1 te2_) hA ⟨Nat.le_of_ble_eq_true rfl, Nat.le_of_ble_eq_true rfl⟩ ⟨Nat.le_of_ble_eq_true rfl, Nat.le_of_ble_eq_true rfl⟩ (As := [.int (J (v_0 160 xx6_))]) (rest := []) rfl rfl hl.1 (Nat.le_of_ble_eq_true rfl) 46 rfl dX9_distance_43 (fun zz9_ v_9 H locs rr9_ hq9_ hw => ?_)
        obtain ⟨ev9_, hh9_⟩ := hq9_
        rw [ev9_] at hw; clear ev9_
        refine j_istore E 48 rfl [(5, .int (J zz9_)), (4, .ref xx6_), (3, .ref xx2_), (0, .ref o), (1, .int (J v_w)), (2, .int (J v_v))] dX9_distance_46 hl (by decide) rfl (fun ls hl => ?_)
        refine j_iload E 50 rfl dX9_distance_48 (lv_at hl 0 rfl) ?_
        refine j_iconst E 51 rfl dX9_distance_50 ?_
        refine j_icmp_ne E 54 77 rfl rr9_ (rr (by decide)) dX9_distance_51 (by decide) (fun cc10_ => ?_) (fun cc10_ => ?_)
        · refine j_iload E 79 rfl dX9_distance_77 (lv_at hl 0 rfl) ?_
          exact hret 79 zz9_ (upV v_0 300 (v_0 300)) _ _ ls (cw_eq hw (by first | rfl | (funext j_; simp only [upV, reduceIte]; (repeat' split) <;> first | rfl | omega | (subst_vars; rfl)))) rr9_ ⟨(v_0 300), rfl, ⟨trivial, Kd_rf⟩⟩ dX9_distance_79
        · refine j_aload_n E 55 rfl dX9_distance_54 rfl (lv_at hl 2 rfl) ?_
          refine j_aload E 57 rfl dX9_distance_55 (lv_at hl 1 rfl) ?_
          refine j_aload_n E 58 rfl dX9_distance_57 rfl (lv_at hl 3 rfl) ?_
          refine g_196 E hK hw fl_X9_73 t_o 61 rfl dX9_distance_58 ?_
          have ln11_ := wl_196 hT t_o
          refine kV_i E (c_X7_leastChanges l D cy T (v_0) xx2_ xx6_ (T 196 o)  te2_ te6_ (wt_196 hT t_o) ) mt_X7_leastChanges ml_X9_364 hK hw (cw_rc8 hK hw.1 te2_) hA ⟨Nat.le_of_ble_eq_true rfl, Nat.le_of_ble_eq_true rfl⟩ ⟨Nat.le_of_ble_eq_true rfl, Nat.le_of_ble_eq_true rfl⟩ (As := [.ref xx6_, .ref (T 196 o)]) (rest := []) rfl rfl hl.1 (Nat.le_of_ble_eq_true rfl) 64 rfl dX9_distance_61 (fun zz12_ v_12 H locs rr12_ hq12_ hw => ?_)
          obtain ⟨y300_12, ev12_, hh12_⟩ := hq12_
          rw [ev12_] at hw; clear ev12_
          have hw : WK D cy T (upV v_0 300 y300_12) A0 H0 H locs := cw_eq hw (by first | rfl | (funext j_; simp only [upV, reduceIte]; (repeat' split) <;> first | rfl | omega | (subst_vars; rfl)))
          obtain ⟨hh12_, kf12_⟩ := hh12_
          refine j_istore E 66 rfl [(5, .int (J zz12_)), (4, .ref xx6_), (3, .ref xx2_), (0, .ref o), (1, .int (J v_w)), (2, .int (J v_v))] dX9_distance_64 hl (by decide) rfl (fun ls hl => ?_)
          refine j_aload_n E 67 rfl dX9_distance_66 rfl (lv_at hl 2 rfl) ?_
          refine j_aload E 69 rfl dX9_distance_67 (lv_at hl 1 rfl) ?_
          refine g_160 E hK hw fl_X9_358 te6_ (v_0 160 xx6_) rfl 72 rfl dX9_distance_69 (fun _ => ?_)
          refine j_iload E 74 rfl dX9_distance_72 (lv_at hl 0 rfl) ?_
          refine kV_v E (c_X7_keepDistance l D cy T (upV v_0 300 y300_12) xx2_ (v_0 160 xx6_) zz12_  te2_ rr8_ rr12_ ) mt_X7_keepDistance ml_X9_368 hK hw (cw_rc8 hK hw.1 te2_) hA ⟨Nat.le_of_ble_eq_true rfl, Nat.le_of_ble_eq_true rfl⟩ ⟨Nat.le_of_ble_eq_true rfl, Nat.le_of_ble_eq_true rfl⟩ (As := [.int (J (v_0 160 xx6_)), .int (J zz12_)]) (rest := []) rfl rfl hl.1 (Nat.le_of_ble_eq_true rfl) 77 rfl dX9_distance_74 (fun v_13 H locs hq13_ hw => ?_)
          obtain ⟨y300_13, ev13_, hh13_⟩ := hq13_
          rw [ev13_] at hw; clear ev13_
          have hw : WK D cy T (upV v_0 300 y300_13) A0 H0 H locs := cw_eq hw (by first | rfl | (funext j_; simp only [upV, reduceIte]; (repeat' split) <;> first | rfl | omega | (subst_vars; rfl)))
          obtain ⟨hh13_, kf13_⟩ := hh13_
          refine j_iload E 79 rfl dX9_distance_77 (lv_at hl 0 rfl) ?_
          exact hret 79 zz12_ (upV v_0 300 y300_13) _ _ ls hw rr12_ ⟨y300_13, rfl, ⟨trivial, (Kd_tr (Kd_tr Kd_rf (Kd_ro kf12_ (wok (wo_196 hT t_o) (by decide)) (by decide))) (Kd_mono kf13_ (by decide)))⟩⟩ dX9_distance_79
      · refine j_iconst E 36 rfl dX9_distance_35 ?_
        exact hret 36 0 (upV v_0 300 (v_0 300)) _ _ ls (cw_eq hw (by first | rfl | (funext j_; simp only [upV, reduceIte]; (repeat' split) <;> first | rfl | omega | (subst_vars; rfl)))) (rr (by decide)) ⟨(v_0 300), rfl, ⟨trivial, Kd_rf⟩⟩ dX9_distance_36
set_option maxHeartbeats 4000000 in
set_option maxRecDepth 100000 in
theorem c_X9_far (l : Launch) (D : va_G) (cy : Nat → ClassId) (T : Nat → Nat → Nat) (v_0 : Nat → Nat → Int) (o : Nat) (v_w : Int) (v_v : Int) (t_o : T 0 o = 9) (r_v_w : inR v_w) (r_v_v : inR v_v) : KC l D cy T yX9_far cX9_far 3 (some .int) 6 [.ref o, .int (J v_w), .int (J v_v)] v_0 (KI (fun (z_0 : Int) (v_2 : Nat → Nat → Int) => ∃ (y300_2 : Nat → Int) , v_2 = upV v_0 300 y300_2 ∧ ((True) ∧ Kd_ T [163, 196] (v_0 300) y300_2))) := by
  refine KC.ofi (by decide) (Nat.le_of_ble_eq_true rfl) ?_
  intro p e s m below meth c ls ar QW A0 H0 H locs E hK hA hw hl hret
  have hl : lv_has ls 3 [(0, .ref o), (1, .int (J v_w)), (2, .int (J v_v))] := hl
  have hT : WT T := hw.1.2.1
  refine j_aload_n E 1 rfl dX9_far_0 rfl (lv_at hl 0 rfl) ?_
  refine j_iload_n E 2 rfl dX9_far_1 rfl (lv_at hl 1 rfl) ?_
  refine kV_i E (c_X9_isWording l D cy T (v_0) o v_w  t_o r_v_w ) mt_X9_isWording ml_X9_164 hK hw (cw_rc9 hK hw.1 t_o) hA ⟨Nat.le_of_ble_eq_true rfl, Nat.le_of_ble_eq_true rfl⟩ ⟨Nat.le_of_ble_eq_true rfl, Nat.le_of_ble_eq_true rfl⟩ (As := [.int (J v_w)]) (rest := []) rfl rfl hl.1 (Nat.le_of_ble_eq_true rfl) 5 rfl dX9_far_2 (fun zz1_ v_1 H locs rr1_ hq1_ hw => ?_)
  obtain ⟨ev1_, hh1_⟩ := hq1_
  rw [ev1_] at hw; clear ev1_
  replace hh1_ : (zz1_ = 1 ∧ 0 ≤ v_w ∧ v_w < ((v_0 202) (T 182 o))) ∨ (zz1_ = 0 ∧ (v_w < 0 ∨ ((v_0 202) (T 182 o)) ≤ v_w)) := hh1_
  refine j_if_eq E 8 25 rfl rr1_ dX9_far_5 (by decide) (fun cc2_ => ?_) (fun cc2_ => ?_)
  · refine j_iconst E 26 rfl dX9_far_25 ?_
    exact hret 26 ((-1)) (upV v_0 300 (v_0 300)) _ _ ls (cw_eq hw (by first | rfl | (funext j_; simp only [upV, reduceIte]; (repeat' split) <;> first | rfl | omega | (subst_vars; rfl)))) (rr (by decide)) ⟨(v_0 300), rfl, ⟨trivial, Kd_rf⟩⟩ dX9_far_26
  · refine j_aload_n E 9 rfl dX9_far_8 rfl (lv_at hl 0 rfl) ?_
    refine j_iload_n E 10 rfl dX9_far_9 rfl (lv_at hl 2 rfl) ?_
    refine kV_i E (c_X9_isWording l D cy T (v_0) o v_v  t_o r_v_v ) mt_X9_isWording ml_X9_164 hK hw (cw_rc9 hK hw.1 t_o) hA ⟨Nat.le_of_ble_eq_true rfl, Nat.le_of_ble_eq_true rfl⟩ ⟨Nat.le_of_ble_eq_true rfl, Nat.le_of_ble_eq_true rfl⟩ (As := [.int (J v_v)]) (rest := []) rfl rfl hl.1 (Nat.le_of_ble_eq_true rfl) 13 rfl dX9_far_10 (fun zz3_ v_3 H locs rr3_ hq3_ hw => ?_)
    obtain ⟨ev3_, hh3_⟩ := hq3_
    rw [ev3_] at hw; clear ev3_
    replace hh3_ : (zz3_ = 1 ∧ 0 ≤ v_v ∧ v_v < ((v_0 202) (T 182 o))) ∨ (zz3_ = 0 ∧ (v_v < 0 ∨ ((v_0 202) (T 182 o)) ≤ v_v)) := hh3_
    refine j_if_eq E 16 25 rfl rr3_ dX9_far_13 (by decide) (fun cc4_ => ?_) (fun cc4_ => ?_)
    · refine j_iconst E 26 rfl dX9_far_25 ?_
      exact hret 26 ((-1)) (upV v_0 300 (v_0 300)) _ _ ls (cw_eq hw (by first | rfl | (funext j_; simp only [upV, reduceIte]; (repeat' split) <;> first | rfl | omega | (subst_vars; rfl)))) (rr (by decide)) ⟨(v_0 300), rfl, ⟨trivial, Kd_rf⟩⟩ dX9_far_26
    · refine j_aload_n E 17 rfl dX9_far_16 rfl (lv_at hl 0 rfl) ?_
      refine j_iload_n E 18 rfl dX9_far_17 rfl (lv_at hl 1 rfl) ?_
      refine j_iload_n E 19 rfl dX9_far_18 rfl (lv_at hl 2 rfl) ?_
      refine kV_i E (c_X9_distance l D cy T (v_0) o v_w v_v  t_o r_v_w r_v_v ) mt_X9_distance ml_X9_338 hK hw (cw_rc9 hK hw.1 t_o) hA ⟨Nat.le_of_ble_eq_true rfl, Nat.le_of_ble_eq_true rfl⟩ ⟨Nat.le_of_ble_eq_true rfl, Nat.le_of_ble_eq_true rfl⟩ (As := [.int (J v_w), .int (J v_v)]) (rest := []) rfl rfl hl.1 (Nat.le_of_ble_eq_true rfl) 22 rfl dX9_far_19 (fun zz5_ v_5 H locs rr5_ hq5_ hw => ?_)
      obtain ⟨y300_5, ev5_, hh5_⟩ := hq5_
      rw [ev5_] at hw; clear ev5_
      have hw : WK D cy T (upV v_0 300 y300_5) A0 H0 H locs := cw_eq hw (by first | rfl | (funext j_; simp only [upV, reduceIte]; (repeat' split) <;> first | rfl | omega | (subst_vars; rfl)))
      obtain ⟨hh5_, kf5_⟩ := hh5_
      refine j_goto E 26 dX9_far_22 (by decide) ?_
      exact hret 26 zz5_ (upV v_0 300 y300_5) _ _ ls hw rr5_ ⟨y300_5, rfl, ⟨trivial, (Kd_tr Kd_rf (Kd_mono kf5_ (by decide)))⟩⟩ dX9_far_26
set_option maxHeartbeats 4000000 in
set_option maxRecDepth 100000 in
theorem c_X9_areWordings (l : Launch) (D : va_G) (cy : Nat → ClassId) (T : Nat → Nat → Nat) (v_0 : Nat → Nat → Int) (o : Nat) (v_s : Int) (t_o : T 0 o = 9) (r_v_s : inR v_s) : KC l D cy T yX9_areWordings cX9_areWordings 2 (some .boolean) 2 [.ref o, .int (J v_s)] v_0 (KI (fun (z_0 : Int) (v_2 : Nat → Nat → Int) => v_2 = v_0 ∧ (True))) := by
  refine KC.ofz (by decide) (Nat.le_of_ble_eq_true rfl) ?_
  intro p e s m below meth c ls ar QW A0 H0 H locs E hK hA hw hl hret
  have hl : lv_has ls 2 [(0, .ref o), (1, .int (J v_s))] := hl
  have hT : WT T := hw.1.2.1
  refine j_aload_n E 1 rfl dX9_areWordings_0 rfl (lv_at hl 0 rfl) ?_
  refine g_182 E hK hw fl_X9_19 t_o 4 rfl dX9_areWordings_1 ?_
  refine kV_i E (c_Jx4a65c_size_8abf5 l D cy T (v_0) (T 182 o)  (wt_182 hT t_o)  ) mt_Jx4a65c_size_8abf5 ml_X9_80 hK hw (cw_rc10 hK hw.1 (wt_182 hT t_o)) hA ⟨Nat.le_of_ble_eq_true rfl, Nat.le_of_ble_eq_true rfl⟩ ⟨Nat.le_of_ble_eq_true rfl, Nat.le_of_ble_eq_true rfl⟩ (As := []) (rest := []) rfl rfl hl.1 (Nat.le_of_ble_eq_true rfl) 7 rfl dX9_areWordings_4 (fun zz1_ v_1 H locs rr1_ hq1_ hw => ?_)
  obtain ⟨ev1_, hh1_⟩ := hq1_
  rw [ev1_] at hw; clear ev1_
  replace hh1_ : zz1_ = ((v_0 202) ((T 182 o))) ∧ 0 ≤ zz1_ := hh1_
  refine j_bipush E 9 rfl dX9_areWordings_7 (by decide) ?_
  refine j_icmp_ge E 12 24 rfl rr1_ (rr (by decide)) dX9_areWordings_9 (by decide) (fun cc2_ => ?_) (fun cc2_ => ?_)
  · refine j_iconst E 25 rfl dX9_areWordings_24 ?_
    refine j_goto E 29 dX9_areWordings_25 (by decide) ?_
    exact hret 29 1 (v_0) _ _ ls hw (Or.inr rfl) ⟨rfl, trivial⟩ dX9_areWordings_29
  · refine j_iload_n E 13 rfl dX9_areWordings_12 rfl (lv_at hl 1 rfl) ?_
    refine j_aload_n E 14 rfl dX9_areWordings_13 rfl (lv_at hl 0 rfl) ?_
    refine g_182 E hK hw fl_X9_19 t_o 17 rfl dX9_areWordings_14 ?_
    refine kV_i E (c_Jx4a65c_size_8abf5 l D cy T (v_0) (T 182 o)  (wt_182 hT t_o)  ) mt_Jx4a65c_size_8abf5 ml_X9_80 hK hw (cw_rc10 hK hw.1 (wt_182 hT t_o)) hA ⟨Nat.le_of_ble_eq_true rfl, Nat.le_of_ble_eq_true rfl⟩ ⟨Nat.le_of_ble_eq_true rfl, Nat.le_of_ble_eq_true rfl⟩ (As := []) (rest := [.int (J v_s)]) rfl rfl hl.1 (Nat.le_of_ble_eq_true rfl) 20 rfl dX9_areWordings_17 (fun zz3_ v_3 H locs rr3_ hq3_ hw => ?_)
    obtain ⟨ev3_, hh3_⟩ := hq3_
    rw [ev3_] at hw; clear ev3_
    replace hh3_ : zz3_ = ((v_0 202) ((T 182 o))) ∧ 0 ≤ zz3_ := hh3_
    refine j_iushr E 21 rfl dX9_areWordings_20 (fun zz4_ rr4_ ee4_ => ?_)
    refine j_if_ne E 24 28 rfl rr4_ dX9_areWordings_21 (by decide) (fun cc5_ => ?_) (fun cc5_ => ?_)
    · refine j_iconst E 29 rfl dX9_areWordings_28 ?_
      exact hret 29 0 (v_0) _ _ ls hw (Or.inl rfl) ⟨rfl, trivial⟩ dX9_areWordings_29
    · refine j_iconst E 25 rfl dX9_areWordings_24 ?_
      refine j_goto E 29 dX9_areWordings_25 (by decide) ?_
      exact hret 29 1 (v_0) _ _ ls hw (Or.inr rfl) ⟨rfl, trivial⟩ dX9_areWordings_29
set_option maxHeartbeats 4000000 in
set_option maxRecDepth 100000 in
theorem c_X9_nearestBranch (l : Launch) (D : va_G) (cy : Nat → ClassId) (T : Nat → Nat → Nat) (v_0 : Nat → Nat → Int) (o : Nat) (v_u : Int) (v_g : Int) (t_o : T 0 o = 9) (r_v_u : inR v_u) (r_v_g : inR v_g) : KC l D cy T yX9_nearestBranch cX9_nearestBranch 7 (some .int) 6 [.ref o, .int (J v_u), .int (J v_g)] v_0 (KI (fun (z_0 : Int) (v_2 : Nat → Nat → Int) => ∃ (y300_2 : Nat → Int) , v_2 = upV v_0 300 y300_2 ∧ ((True) ∧ Kd_ T [163, 196] (v_0 300) y300_2))) := by
  refine KC.ofi (by decide) (Nat.le_of_ble_eq_true rfl) ?_
  intro p e s m below meth c ls ar QW A0 H0 H locs E hK hA hw hl hret
  have hl : lv_has ls 7 [(0, .ref o), (1, .int (J v_u)), (2, .int (J v_g))] := hl
  have hT : WT T := hw.1.2.1
  refine j_sipush E 3 rfl dX9_nearestBranch_0 (by decide) ?_
  refine j_istore_n E 4 rfl [(3, .int (J 401)), (0, .ref o), (1, .int (J v_u)), (2, .int (J v_g))] dX9_nearestBranch_3 rfl hl (by decide) rfl (fun ls hl => ?_)
  refine j_iconst E 5 rfl dX9_nearestBranch_4 ?_
  refine j_istore E 7 rfl [(4, .int (J 0)), (3, .int (J 401)), (0, .ref o), (1, .int (J v_u)), (2, .int (J v_g))] dX9_nearestBranch_5 hl (by decide) rfl (fun ls hl => ?_)
  refine j_iconst E 8 rfl dX9_nearestBranch_7 ?_
  refine j_istore E 10 rfl [(5, .int (J 0)), (4, .int (J 0)), (3, .int (J 401)), (0, .ref o), (1, .int (J v_u)), (2, .int (J v_g))] dX9_nearestBranch_8 hl (by decide) rfl (fun ls hl => ?_)
  have L10_1 : ∀ (k10 : Nat) (l3_10 l4_10 l5_10 : Int) (y300_c10 : Nat → Int) (H : Heap) (locs : List Loc) (ls : Array Slot), inR l3_10 → inR l4_10 → inR l5_10 → ((0 ≤ l5_10) ∧ Kd_ T [163, 196] (v_0 300) y300_c10) → ((v_0 202 (T 182 o)) - l5_10).toNat < k10 → WK D cy T (upV v_0 300 y300_c10) A0 H0 H locs → lv_has ls 7 [(0, .ref o), (1, .int (J v_u)), (2, .int (J v_g)), (3, .int (J l3_10)), (4, .int (J l4_10)), (5, .int (J l5_10))] → W p l e (rmd 6 0 0) s m ar below meth c H locs 0 0 QW (F0 m 10 ls []) := by
    intro k10
    induction k10 with
    | zero =>
      intro l3_10 l4_10 l5_10 y300_c10 H locs ls r_l3_10 r_l4_10 r_l5_10 iv10 ms10 hw hl
      exact absurd ms10 (Nat.not_lt_zero _)
    | succ k10 ih10 =>
      intro l3_10 l4_10 l5_10 y300_c10 H locs ls r_l3_10 r_l4_10 r_l5_10 iv10 ms10 hw hl
      obtain ⟨iv10, ik10_⟩ := iv10
      refine j_iload E 12 rfl dX9_nearestBranch_10 (lv_at hl 5 rfl) ?_
      refine j_aload_n E 13 rfl dX9_nearestBranch_12 rfl (lv_at hl 0 rfl) ?_
      refine g_182 E hK hw fl_X9_19 t_o 16 rfl dX9_nearestBranch_13 ?_
      refine kV_i E (c_Jx4a65c_size_8abf5 l D cy T (upV v_0 300 y300_c10) (T 182 o)  (wt_182 hT t_o)  ) mt_Jx4a65c_size_8abf5 ml_X9_80 hK hw (cw_rc10 hK hw.1 (wt_182 hT t_o)) hA ⟨Nat.le_of_ble_eq_true rfl, Nat.le_of_ble_eq_true rfl⟩ ⟨Nat.le_of_ble_eq_true rfl, Nat.le_of_ble_eq_true rfl⟩ (As := []) (rest := [.int (J l5_10)]) rfl rfl hl.1 (Nat.le_of_ble_eq_true rfl) 19 rfl dX9_nearestBranch_16 (fun zz3_ v_3 H locs rr3_ hq3_ hw => ?_)
      obtain ⟨ev3_, hh3_⟩ := hq3_
      rw [ev3_] at hw; clear ev3_
      replace hh3_ : zz3_ = ((v_0 202) ((T 182 o))) ∧ 0 ≤ zz3_ := hh3_
      refine j_icmp_ge E 22 98 rfl r_l5_10 rr3_ dX9_nearestBranch_19 (by decide) (fun cc4_ => ?_) (fun cc4_ => ?_)
      · refine j_iload E 100 rfl dX9_nearestBranch_98 (lv_at hl 4 rfl) ?_
        exact hret 100 l4_10 (upV v_0 300 y300_c10) _ _ ls hw r_l4_10 ⟨y300_c10, rfl, ⟨trivial, ik10_⟩⟩ dX9_nearestBranch_100
      · refine j_iconst E 23 rfl dX9_nearestBranch_22 ?_
        refine j_istore E 25 rfl [(6, .int (J 0)), (0, .ref o), (1, .int (J v_u)), (2, .int (J v_g)), (3, .int (J l3_10)), (4, .int (J l4_10)), (5, .int (J l5_10))] dX9_nearestBranch_23 hl (by decide) rfl (fun ls hl => ?_)
        have L25_5 : ∀ (k25 : Nat) (l3_25 l4_25 l6_25 : Int) (y300_c25 : Nat → Int) (H : Heap) (locs : List Loc) (ls : Array Slot), inR l3_25 → inR l4_25 → inR l6_25 → ((0 ≤ l6_25) ∧ Kd_ T [163, 196] (v_0 300) y300_c25) → ((v_0 202 (T 182 o)) - l6_25).toNat < k25 → WK D cy T (upV v_0 300 y300_c25) A0 H0 H locs → lv_has ls 7 [(0, .ref o), (1, .int (J v_u)), (2, .int (J v_g)), (3, .int (J l3_25)), (4, .int (J l4_25)), (5, .int (J l5_10)), (6, .int (J l6_25))] → W p l e (rmd 6 0 0) s m ar below meth c H locs 0 0 QW (F0 m 25 ls []) := by
          intro k25
          induction k25 with
          | zero =>
            intro l3_25 l4_25 l6_25 y300_c25 H locs ls r_l3_25 r_l4_25 r_l6_25 iv25 ms25 hw hl
            exact absurd ms25 (Nat.not_lt_zero _)
          | succ k25 ih25 =>
            intro l3_25 l4_25 l6_25 y300_c25 H locs ls r_l3_25 r_l4_25 r_l6_25 iv25 ms25 hw hl
            obtain ⟨iv25, ik25_⟩ := iv25
            refine j_iload E 27 rfl dX9_nearestBranch_25 (lv_at hl 6 rfl) ?_
            refine j_aload_n E 28 rfl dX9_nearestBranch_27 rfl (lv_at hl 0 rfl) ?_
            refine g_182 E hK hw fl_X9_19 t_o 31 rfl dX9_nearestBranch_28 ?_
            refine kV_i E (c_Jx4a65c_size_8abf5 l D cy T (upV v_0 300 y300_c25) (T 182 o)  (wt_182 hT t_o)  ) mt_Jx4a65c_size_8abf5 ml_X9_80 hK hw (cw_rc10 hK hw.1 (wt_182 hT t_o)) hA ⟨Nat.le_of_ble_eq_true rfl, Nat.le_of_ble_eq_true rfl⟩ ⟨Nat.le_of_ble_eq_true rfl, Nat.le_of_ble_eq_true rfl⟩ (As := []) (rest := [.int (J l6_25)]) rfl rfl hl.1 (Nat.le_of_ble_eq_true rfl) 34 rfl dX9_nearestBranch_31 (fun zz7_ v_7 H locs rr7_ hq7_ hw => ?_)
            obtain ⟨ev7_, hh7_⟩ := hq7_
            rw [ev7_] at hw; clear ev7_
            replace hh7_ : zz7_ = ((v_0 202) ((T 182 o))) ∧ 0 ≤ zz7_ := hh7_
            refine j_icmp_ge E 37 92 rfl r_l6_25 rr7_ dX9_nearestBranch_34 (by decide) (fun cc8_ => ?_) (fun cc8_ => ?_)
            · refine j_iinc E 95 rfl [(5, .int (J (l5_10 + 1))), (0, .ref o), (1, .int (J v_u)), (2, .int (J v_g)), (3, .int (J l3_25)), (4, .int (J l4_25)), (6, .int (J l6_25))] dX9_nearestBranch_92 hl (kk := 5) rfl (by decide) rfl (fun ls hl => ?_)
              refine j_goto E 10 dX9_nearestBranch_95 (by decide) ?_
              exact ih10 l3_25 l4_25 (l5_10 + 1) y300_c25 H locs ls r_l3_25 r_l4_25 (rr (by omega)) (⟨by first | omega | (simp only [upB_same]; omega), ik25_⟩) (by omega) hw (lv_sub hl [1, 2, 3, 4, 5, 0] rfl)
            · refine j_iload_n E 38 rfl dX9_nearestBranch_37 rfl (lv_at hl 1 rfl) ?_
              refine j_iload E 40 rfl dX9_nearestBranch_38 (lv_at hl 5 rfl) ?_
              refine j_iushr E 41 rfl dX9_nearestBranch_40 (fun zz9_ rr9_ ee9_ => ?_)
              refine j_iconst E 42 rfl dX9_nearestBranch_41 ?_
              refine j_iand E 43 rfl dX9_nearestBranch_42 (fun zz10_ rr10_ ee10_ => ?_)
              refine j_if_eq E 46 86 rfl rr10_ dX9_nearestBranch_43 (by decide) (fun cc11_ => ?_) (fun cc11_ => ?_)
              · refine j_iinc E 89 rfl [(6, .int (J (l6_25 + 1))), (0, .ref o), (1, .int (J v_u)), (2, .int (J v_g)), (3, .int (J l3_25)), (4, .int (J l4_25)), (5, .int (J l5_10))] dX9_nearestBranch_86 hl (kk := 6) rfl (by decide) rfl (fun ls hl => ?_)
                refine j_goto E 25 dX9_nearestBranch_89 (by decide) ?_
                exact ih25 l3_25 l4_25 (l6_25 + 1) y300_c25 H locs ls r_l3_25 r_l4_25 (rr (by omega)) (⟨by first | omega | (simp only [upB_same]; omega), ik25_⟩) (by omega) hw (lv_sub hl [1, 2, 3, 4, 5, 6, 0] rfl)
              · refine j_iload_n E 47 rfl dX9_nearestBranch_46 rfl (lv_at hl 2 rfl) ?_
                refine j_iload E 49 rfl dX9_nearestBranch_47 (lv_at hl 6 rfl) ?_
                refine j_iushr E 50 rfl dX9_nearestBranch_49 (fun zz12_ rr12_ ee12_ => ?_)
                refine j_iconst E 51 rfl dX9_nearestBranch_50 ?_
                refine j_iand E 52 rfl dX9_nearestBranch_51 (fun zz13_ rr13_ ee13_ => ?_)
                refine j_if_eq E 55 86 rfl rr13_ dX9_nearestBranch_52 (by decide) (fun cc14_ => ?_) (fun cc14_ => ?_)
                · refine j_iinc E 89 rfl [(6, .int (J (l6_25 + 1))), (0, .ref o), (1, .int (J v_u)), (2, .int (J v_g)), (3, .int (J l3_25)), (4, .int (J l4_25)), (5, .int (J l5_10))] dX9_nearestBranch_86 hl (kk := 6) rfl (by decide) rfl (fun ls hl => ?_)
                  refine j_goto E 25 dX9_nearestBranch_89 (by decide) ?_
                  exact ih25 l3_25 l4_25 (l6_25 + 1) y300_c25 H locs ls r_l3_25 r_l4_25 (rr (by omega)) (⟨by first | omega | (simp only [upB_same]; omega), ik25_⟩) (by omega) hw (lv_sub hl [1, 2, 3, 4, 5, 6, 0] rfl)
                · refine j_aload_n E 56 rfl dX9_nearestBranch_55 rfl (lv_at hl 0 rfl) ?_
                  refine j_iload E 58 rfl dX9_nearestBranch_56 (lv_at hl 5 rfl) ?_
                  refine j_iload E 60 rfl dX9_nearestBranch_58 (lv_at hl 6 rfl) ?_
                  refine kV_i E (c_X9_distance l D cy T (upV v_0 300 y300_c25) o l5_10 l6_25  t_o r_l5_10 r_l6_25 ) mt_X9_distance ml_X9_338 hK hw (cw_rc9 hK hw.1 t_o) hA ⟨Nat.le_of_ble_eq_true rfl, Nat.le_of_ble_eq_true rfl⟩ ⟨Nat.le_of_ble_eq_true rfl, Nat.le_of_ble_eq_true rfl⟩ (As := [.int (J l5_10), .int (J l6_25)]) (rest := []) rfl rfl hl.1 (Nat.le_of_ble_eq_true rfl) 63 rfl dX9_nearestBranch_60 (fun zz15_ v_15 H locs rr15_ hq15_ hw => ?_)
                  obtain ⟨y300_15, ev15_, hh15_⟩ := hq15_
                  rw [ev15_] at hw; clear ev15_
                  have hw : WK D cy T (upV v_0 300 y300_15) A0 H0 H locs := cw_eq hw (by first | rfl | (funext j_; simp only [upV, reduceIte]; (repeat' split) <;> first | rfl | omega | (subst_vars; rfl)))
                  obtain ⟨hh15_, kf15_⟩ := hh15_
                  refine j_iload_n E 64 rfl dX9_nearestBranch_63 rfl (lv_at hl 3 rfl) ?_
                  refine j_icmp_ge E 67 86 rfl rr15_ r_l3_25 dX9_nearestBranch_64 (by decide) (fun cc16_ => ?_) (fun cc16_ => ?_)
                  · refine j_iinc E 89 rfl [(6, .int (J (l6_25 + 1))), (0, .ref o), (1, .int (J v_u)), (2, .int (J v_g)), (3, .int (J l3_25)), (4, .int (J l4_25)), (5, .int (J l5_10))] dX9_nearestBranch_86 hl (kk := 6) rfl (by decide) rfl (fun ls hl => ?_)
                    refine j_goto E 25 dX9_nearestBranch_89 (by decide) ?_
                    exact ih25 l3_25 l4_25 (l6_25 + 1) y300_15 H locs ls r_l3_25 r_l4_25 (rr (by omega)) (⟨by first | omega | (simp only [upB_same]; omega), (Kd_tr ik25_ (Kd_mono kf15_ (by decide)))⟩) (by omega) hw (lv_sub hl [1, 2, 3, 4, 5, 6, 0] rfl)
                  · refine j_aload_n E 68 rfl dX9_nearestBranch_67 rfl (lv_at hl 0 rfl) ?_
                    refine j_iload E 70 rfl dX9_nearestBranch_68 (lv_at hl 5 rfl) ?_
                    refine j_iload E 72 rfl dX9_nearestBranch_70 (lv_at hl 6 rfl) ?_
                    refine kV_i E (c_X9_distance l D cy T (upV v_0 300 y300_15) o l5_10 l6_25  t_o r_l5_10 r_l6_25 ) mt_X9_distance ml_X9_338 hK hw (cw_rc9 hK hw.1 t_o) hA ⟨Nat.le_of_ble_eq_true rfl, Nat.le_of_ble_eq_true rfl⟩ ⟨Nat.le_of_ble_eq_true rfl, Nat.le_of_ble_eq_true rfl⟩ (As := [.int (J l5_10), .int (J l6_25)]) (rest := []) rfl rfl hl.1 (Nat.le_of_ble_eq_true rfl) 75 rfl dX9_nearestBranch_72 (fun zz17_ v_17 H locs rr17_ hq17_ hw => ?_)
                    obtain ⟨y300_17, ev17_, hh17_⟩ := hq17_
                    rw [ev17_] at hw; clear ev17_
                    have hw : WK D cy T (upV v_0 300 y300_17) A0 H0 H locs := cw_eq hw (by first | rfl | (funext j_; simp only [upV, reduceIte]; (repeat' split) <;> first | rfl | omega | (subst_vars; rfl)))
                    obtain ⟨hh17_, kf17_⟩ := hh17_
                    refine j_istore_n E 76 rfl [(3, .int (J zz17_)), (0, .ref o), (1, .int (J v_u)), (2, .int (J v_g)), (4, .int (J l4_25)), (5, .int (J l5_10)), (6, .int (J l6_25))] dX9_nearestBranch_75 rfl hl (by decide) rfl (fun ls hl => ?_)
                    refine j_iload E 78 rfl dX9_nearestBranch_76 (lv_at hl 5 rfl) ?_
                    refine j_bipush E 80 rfl dX9_nearestBranch_78 (by decide) ?_
                    refine j_imul E 81 rfl dX9_nearestBranch_80 ?_
                    refine j_norm (fun zz18_ rr18_ ee18_ => ?_)
                    refine j_iload E 83 rfl dX9_nearestBranch_81 (lv_at hl 6 rfl) ?_
                    refine j_iadd E 84 rfl dX9_nearestBranch_83 ?_
                    refine j_norm (fun zz19_ rr19_ ee19_ => ?_)
                    refine j_istore E 86 rfl [(4, .int (J zz19_)), (3, .int (J zz17_)), (0, .ref o), (1, .int (J v_u)), (2, .int (J v_g)), (5, .int (J l5_10)), (6, .int (J l6_25))] dX9_nearestBranch_84 hl (by decide) rfl (fun ls hl => ?_)
                    refine j_iinc E 89 rfl [(6, .int (J (l6_25 + 1))), (4, .int (J zz19_)), (3, .int (J zz17_)), (0, .ref o), (1, .int (J v_u)), (2, .int (J v_g)), (5, .int (J l5_10))] dX9_nearestBranch_86 hl (kk := 6) rfl (by decide) rfl (fun ls hl => ?_)
                    refine j_goto E 25 dX9_nearestBranch_89 (by decide) ?_
                    exact ih25 zz17_ zz19_ (l6_25 + 1) y300_17 H locs ls rr17_ rr19_ (rr (by omega)) (⟨by first | omega | (simp only [upB_same]; omega), (Kd_tr (Kd_tr ik25_ (Kd_mono kf15_ (by decide))) (Kd_mono kf17_ (by decide)))⟩) (by omega) hw (lv_sub hl [3, 4, 5, 2, 1, 6, 0] rfl)
        exact L25_5 _ l3_10 l4_10 0 y300_c10 H locs ls r_l3_10 r_l4_10 (rr (by decide)) (⟨by first | omega | (simp only [upB_same]; omega), ik10_⟩) (Nat.lt_succ_self _) hw (lv_sub hl [1, 2, 3, 4, 5, 6, 0] rfl)
  exact L10_1 _ 401 0 0 (v_0 300) H locs ls (rr (by decide)) (rr (by decide)) (rr (by decide)) (⟨by first | omega | (simp only [upB_same]; omega), Kd_rf⟩) (Nat.lt_succ_self _) (cw_eq hw (by first | rfl | (funext j_; simp only [upV, reduceIte]; (repeat' split) <;> first | rfl | omega | (subst_vars; rfl)))) (lv_sub hl [3, 4, 5, 2, 1, 0] rfl)
set_option maxHeartbeats 4000000 in
set_option maxRecDepth 100000 in
theorem c_X9_tree (l : Launch) (D : va_G) (cy : Nat → ClassId) (T : Nat → Nat → Nat) (v_0 : Nat → Nat → Int) (o : Nat) (v_s : Int) (v_w : Int) (t_o : T 0 o = 9) (r_v_s : inR v_s) (r_v_w : inR v_w) : KC l D cy T yX9_tree cX9_tree 11 (some .int) 7 [.ref o, .int (J v_s), .int (J v_w)] v_0 (KI (fun (z_0 : Int) (v_2 : Nat → Nat → Int) => ∃ (y300_2 : Nat → Int) , v_2 = upV v_0 300 y300_2 ∧ ((True) ∧ Kd_ T [163, 196] (v_0 300) y300_2))) := by
  refine KC.ofi (by decide) (Nat.le_of_ble_eq_true rfl) ?_
  intro p e s m below meth c ls ar QW A0 H0 H locs E hK hA hw hl hret
  have hl : lv_has ls 11 [(0, .ref o), (1, .int (J v_s)), (2, .int (J v_w))] := hl
  have hT : WT T := hw.1.2.1
  refine j_iload_n E 1 rfl dX9_tree_0 rfl (lv_at hl 1 rfl) ?_
  refine kS_i E (c_J6_bitCount_0f7a4 l D cy T (v_0) v_s   r_v_s ) ms_J6_bitCount_0f7a4 ml_X9_218 hK hw hA ⟨Nat.le_of_ble_eq_true rfl, Nat.le_of_ble_eq_true rfl⟩ ⟨Nat.le_of_ble_eq_true rfl, Nat.le_of_ble_eq_true rfl⟩ (As := [.int (J v_s)]) (rest := []) rfl rfl hl.1 (Nat.le_of_ble_eq_true rfl) 4 rfl dX9_tree_1 (fun zz1_ v_1 H locs rr1_ hq1_ hw => ?_)
  obtain ⟨ev1_, hh1_⟩ := hq1_
  rw [ev1_] at hw; clear ev1_
  refine j_istore_n E 5 rfl [(3, .int (J zz1_)), (0, .ref o), (1, .int (J v_s)), (2, .int (J v_w))] dX9_tree_4 rfl hl (by decide) rfl (fun ls hl => ?_)
  have L36_2 : ∀ (s0_36 : Int) (H : Heap) (locs : List Loc) (ls : Array Slot), inR s0_36 → (True) → WK D cy T (v_0) A0 H0 H locs → lv_has ls 11 [(0, .ref o), (1, .int (J v_s)), (2, .int (J v_w)), (3, .int (J zz1_))] → W p l e (rmd 7 0 0) s m ar below meth c H locs 0 0 QW (F0 m 36 ls [.int (J s0_36)]) := by
    intro s0_36 H locs ls r_s0_36 iv36 hw hl
    refine j_istore E 38 rfl [(4, .int (J s0_36)), (0, .ref o), (1, .int (J v_s)), (2, .int (J v_w)), (3, .int (J zz1_))] dX9_tree_36 hl (by decide) rfl (fun ls hl => ?_)
    refine j_aload_n E 39 rfl dX9_tree_38 rfl (lv_at hl 1 rfl) ?_
    refine j_iload_n E 40 rfl dX9_tree_39 rfl (lv_at hl 2 rfl) ?_
    refine kV_i E (c_X9_areWordings l D cy T (v_0) o v_s  t_o r_v_s ) mt_X9_areWordings ml_X9_341 hK hw (cw_rc9 hK hw.1 t_o) hA ⟨Nat.le_of_ble_eq_true rfl, Nat.le_of_ble_eq_true rfl⟩ ⟨Nat.le_of_ble_eq_true rfl, Nat.le_of_ble_eq_true rfl⟩ (As := [.int (J v_s)]) (rest := []) rfl rfl hl.1 (Nat.le_of_ble_eq_true rfl) 43 rfl dX9_tree_40 (fun zz4_ v_4 H locs rr4_ hq4_ hw => ?_)
    obtain ⟨ev4_, hh4_⟩ := hq4_
    rw [ev4_] at hw; clear ev4_
    refine j_if_eq E 46 66 rfl rr4_ dX9_tree_43 (by decide) (fun cc5_ => ?_) (fun cc5_ => ?_)
    · refine j_iconst E 67 rfl dX9_tree_66 ?_
      exact hret 67 ((-1)) (upV v_0 300 (v_0 300)) _ _ ls (cw_eq hw (by first | rfl | (funext j_; simp only [upV, reduceIte]; (repeat' split) <;> first | rfl | omega | (subst_vars; rfl)))) (rr (by decide)) ⟨(v_0 300), rfl, ⟨trivial, Kd_rf⟩⟩ dX9_tree_67
    · refine j_iload_n E 47 rfl dX9_tree_46 rfl (lv_at hl 4 rfl) ?_
      refine j_iconst E 48 rfl dX9_tree_47 ?_
      refine j_icmp_lt E 51 66 rfl rr1_ (rr (by decide)) dX9_tree_48 (by decide) (fun cc6_ => ?_) (fun cc6_ => ?_)
      · refine j_iconst E 67 rfl dX9_tree_66 ?_
        exact hret 67 ((-1)) (upV v_0 300 (v_0 300)) _ _ ls (cw_eq hw (by first | rfl | (funext j_; simp only [upV, reduceIte]; (repeat' split) <;> first | rfl | omega | (subst_vars; rfl)))) (rr (by decide)) ⟨(v_0 300), rfl, ⟨trivial, Kd_rf⟩⟩ dX9_tree_67
      · refine j_iload_n E 52 rfl dX9_tree_51 rfl (lv_at hl 4 rfl) ?_
        refine j_bipush E 54 rfl dX9_tree_52 (by decide) ?_
        refine j_icmp_gt E 57 66 rfl rr1_ (rr (by decide)) dX9_tree_54 (by decide) (fun cc7_ => ?_) (fun cc7_ => ?_)
        · refine j_iconst E 67 rfl dX9_tree_66 ?_
          exact hret 67 ((-1)) (upV v_0 300 (v_0 300)) _ _ ls (cw_eq hw (by first | rfl | (funext j_; simp only [upV, reduceIte]; (repeat' split) <;> first | rfl | omega | (subst_vars; rfl)))) (rr (by decide)) ⟨(v_0 300), rfl, ⟨trivial, Kd_rf⟩⟩ dX9_tree_67
        · refine j_iload_n E 58 rfl dX9_tree_57 rfl (lv_at hl 3 rfl) ?_
          refine j_if_eq E 61 68 rfl r_v_w dX9_tree_58 (by decide) (fun cc8_ => ?_) (fun cc8_ => ?_)
          · refine j_iload_n E 69 rfl dX9_tree_68 rfl (lv_at hl 2 rfl) ?_
            refine kS_i E (c_J6_lowestOneBit_0f7a4 l D cy T (v_0) v_s   r_v_s ) ms_J6_lowestOneBit_0f7a4 ml_X9_344 hK hw hA ⟨Nat.le_of_ble_eq_true rfl, Nat.le_of_ble_eq_true rfl⟩ ⟨Nat.le_of_ble_eq_true rfl, Nat.le_of_ble_eq_true rfl⟩ (As := [.int (J v_s)]) (rest := []) rfl rfl hl.1 (Nat.le_of_ble_eq_true rfl) 72 rfl dX9_tree_69 (fun zz9_ v_9 H locs rr9_ hq9_ hw => ?_)
            obtain ⟨ev9_, hh9_⟩ := hq9_
            rw [ev9_] at hw; clear ev9_
            refine j_istore E 74 rfl [(5, .int (J zz9_)), (4, .int (J s0_36)), (0, .ref o), (1, .int (J v_s)), (2, .int (J v_w)), (3, .int (J zz1_))] dX9_tree_72 hl (by decide) rfl (fun ls hl => ?_)
            refine j_iconst E 75 rfl dX9_tree_74 ?_
            refine j_istore E 77 rfl [(6, .int (J 0)), (5, .int (J zz9_)), (4, .int (J s0_36)), (0, .ref o), (1, .int (J v_s)), (2, .int (J v_w)), (3, .int (J zz1_))] dX9_tree_75 hl (by decide) rfl (fun ls hl => ?_)
            refine j_iconst E 78 rfl dX9_tree_77 ?_
            refine j_istore E 80 rfl [(7, .int (J 1)), (6, .int (J 0)), (5, .int (J zz9_)), (4, .int (J s0_36)), (0, .ref o), (1, .int (J v_s)), (2, .int (J v_w)), (3, .int (J zz1_))] dX9_tree_78 hl (by decide) rfl (fun ls hl => ?_)
            have L80_10 : ∀ (k80 : Nat) (l5_80 l6_80 l7_80 : Int) (y300_c80 : Nat → Int) (H : Heap) (locs : List Loc) (ls : Array Slot), inR l5_80 → inR l6_80 → inR l7_80 → ((True) ∧ Kd_ T [163, 196] (v_0 300) y300_c80) → (zz1_ - l7_80).toNat < k80 → WK D cy T (upV v_0 300 y300_c80) A0 H0 H locs → lv_has ls 11 [(0, .ref o), (1, .int (J v_s)), (2, .int (J v_w)), (3, .int (J zz1_)), (4, .int (J s0_36)), (5, .int (J l5_80)), (6, .int (J l6_80)), (7, .int (J l7_80))] → W p l e (rmd 7 0 0) s m ar below meth c H locs 0 0 QW (F0 m 80 ls []) := by
              intro k80
              induction k80 with
              | zero =>
                intro l5_80 l6_80 l7_80 y300_c80 H locs ls r_l5_80 r_l6_80 r_l7_80 iv80 ms80 hw hl
                exact absurd ms80 (Nat.not_lt_zero _)
              | succ k80 ih80 =>
                intro l5_80 l6_80 l7_80 y300_c80 H locs ls r_l5_80 r_l6_80 r_l7_80 iv80 ms80 hw hl
                obtain ⟨iv80, ik80_⟩ := iv80
                refine j_iload E 82 rfl dX9_tree_80 (lv_at hl 7 rfl) ?_
                refine j_iload_n E 83 rfl dX9_tree_82 rfl (lv_at hl 3 rfl) ?_
                refine j_icmp_ge E 86 154 rfl r_l7_80 rr1_ dX9_tree_83 (by decide) (fun cc12_ => ?_) (fun cc12_ => ?_)
                · refine j_iload_n E 155 rfl dX9_tree_154 rfl (lv_at hl 2 rfl) ?_
                  refine j_if_ne E 158 163 rfl r_v_w dX9_tree_155 (by decide) (fun cc13_ => ?_) (fun cc13_ => ?_)
                  · refine j_iconst E 164 rfl dX9_tree_163 ?_
                    exact hret 164 ((-1)) (upV v_0 300 y300_c80) _ _ ls hw (rr (by decide)) ⟨y300_c80, rfl, ⟨trivial, ik80_⟩⟩ dX9_tree_164
                  · refine j_iload E 160 rfl dX9_tree_158 (lv_at hl 6 rfl) ?_
                    refine j_goto E 164 dX9_tree_160 (by decide) ?_
                    exact hret 164 l6_80 (upV v_0 300 y300_c80) _ _ ls hw r_l6_80 ⟨y300_c80, rfl, ⟨trivial, ik80_⟩⟩ dX9_tree_164
                · refine j_aload_n E 87 rfl dX9_tree_86 rfl (lv_at hl 0 rfl) ?_
                  refine j_iload_n E 88 rfl dX9_tree_87 rfl (lv_at hl 1 rfl) ?_
                  refine j_iload E 90 rfl dX9_tree_88 (lv_at hl 5 rfl) ?_
                  refine j_iconst E 91 rfl dX9_tree_90 ?_
                  refine j_ixor E 92 rfl dX9_tree_91 (fun zz14_ rr14_ ee14_ => ?_)
                  refine j_iand E 93 rfl dX9_tree_92 (fun zz15_ rr15_ ee15_ => ?_)
                  refine j_iload E 95 rfl dX9_tree_93 (lv_at hl 5 rfl) ?_
                  refine kV_i E (c_X9_nearestBranch l D cy T (upV v_0 300 y300_c80) o zz15_ l5_80  t_o rr15_ r_l5_80 ) mt_X9_nearestBranch ml_X9_347 hK hw (cw_rc9 hK hw.1 t_o) hA ⟨Nat.le_of_ble_eq_true rfl, Nat.le_of_ble_eq_true rfl⟩ ⟨Nat.le_of_ble_eq_true rfl, Nat.le_of_ble_eq_true rfl⟩ (As := [.int (J zz15_), .int (J l5_80)]) (rest := []) rfl rfl hl.1 (Nat.le_of_ble_eq_true rfl) 98 rfl dX9_tree_95 (fun zz16_ v_16 H locs rr16_ hq16_ hw => ?_)
                  obtain ⟨y300_16, ev16_, hh16_⟩ := hq16_
                  rw [ev16_] at hw; clear ev16_
                  have hw : WK D cy T (upV v_0 300 y300_16) A0 H0 H locs := cw_eq hw (by first | rfl | (funext j_; simp only [upV, reduceIte]; (repeat' split) <;> first | rfl | omega | (subst_vars; rfl)))
                  obtain ⟨hh16_, kf16_⟩ := hh16_
                  refine j_istore E 100 rfl [(8, .int (J zz16_)), (0, .ref o), (1, .int (J v_s)), (2, .int (J v_w)), (3, .int (J zz1_)), (4, .int (J s0_36)), (5, .int (J l5_80)), (6, .int (J l6_80)), (7, .int (J l7_80))] dX9_tree_98 hl (by decide) rfl (fun ls hl => ?_)
                  refine j_iload E 102 rfl dX9_tree_100 (lv_at hl 0 rfl) ?_
                  refine j_bipush E 104 rfl dX9_tree_102 (by decide) ?_
                  refine j_idiv E 105 rfl dX9_tree_104 (by decide +kernel) (fun zz17_ rr17_ ee17_ => ?_)
                  refine j_istore E 107 rfl [(9, .int (J zz17_)), (8, .int (J zz16_)), (0, .ref o), (1, .int (J v_s)), (2, .int (J v_w)), (3, .int (J zz1_)), (4, .int (J s0_36)), (5, .int (J l5_80)), (6, .int (J l6_80)), (7, .int (J l7_80))] dX9_tree_105 hl (by decide) rfl (fun ls hl => ?_)
                  refine j_iload E 109 rfl dX9_tree_107 (lv_at hl 1 rfl) ?_
                  refine j_bipush E 111 rfl dX9_tree_109 (by decide) ?_
                  refine j_irem E 112 rfl dX9_tree_111 (by decide +kernel) (fun zz18_ rr18_ ee18_ => ?_)
                  refine j_istore E 114 rfl [(10, .int (J zz18_)), (9, .int (J zz17_)), (8, .int (J zz16_)), (0, .ref o), (1, .int (J v_s)), (2, .int (J v_w)), (3, .int (J zz1_)), (4, .int (J s0_36)), (5, .int (J l5_80)), (6, .int (J l6_80)), (7, .int (J l7_80))] dX9_tree_112 hl (by decide) rfl (fun ls hl => ?_)
                  refine j_iload_n E 115 rfl dX9_tree_114 rfl (lv_at hl 5 rfl) ?_
                  refine j_bipush E 117 rfl dX9_tree_115 (by decide) ?_
                  refine j_iload E 119 rfl dX9_tree_117 (lv_at hl 1 rfl) ?_
                  refine j_iadd E 120 rfl dX9_tree_119 ?_
                  refine j_norm (fun zz19_ rr19_ ee19_ => ?_)
                  refine j_icmp_ne E 123 126 rfl r_v_w rr19_ dX9_tree_120 (by decide) (fun cc20_ => ?_) (fun cc20_ => ?_)
                  · refine j_iload E 128 rfl dX9_tree_126 (lv_at hl 9 rfl) ?_
                    refine j_aload_n E 129 rfl dX9_tree_128 rfl (lv_at hl 3 rfl) ?_
                    refine j_iload E 131 rfl dX9_tree_129 (lv_at hl 1 rfl) ?_
                    refine j_iload E 133 rfl dX9_tree_131 (lv_at hl 0 rfl) ?_
                    refine kV_i E (c_X9_distance l D cy T (upV v_0 300 y300_16) o zz17_ zz18_  t_o rr17_ rr18_ ) mt_X9_distance ml_X9_338 hK hw (cw_rc9 hK hw.1 t_o) hA ⟨Nat.le_of_ble_eq_true rfl, Nat.le_of_ble_eq_true rfl⟩ ⟨Nat.le_of_ble_eq_true rfl, Nat.le_of_ble_eq_true rfl⟩ (As := [.int (J zz17_), .int (J zz18_)]) (rest := [.int (J l6_80)]) rfl rfl hl.1 (Nat.le_of_ble_eq_true rfl) 136 rfl dX9_tree_133 (fun zz21_ v_21 H locs rr21_ hq21_ hw => ?_)
                    obtain ⟨y300_21, ev21_, hh21_⟩ := hq21_
                    rw [ev21_] at hw; clear ev21_
                    have hw : WK D cy T (upV v_0 300 y300_21) A0 H0 H locs := cw_eq hw (by first | rfl | (funext j_; simp only [upV, reduceIte]; (repeat' split) <;> first | rfl | omega | (subst_vars; rfl)))
                    obtain ⟨hh21_, kf21_⟩ := hh21_
                    refine j_iadd E 137 rfl dX9_tree_136 ?_
                    refine j_norm (fun zz22_ rr22_ ee22_ => ?_)
                    refine j_istore E 139 rfl [(6, .int (J zz22_)), (10, .int (J zz18_)), (9, .int (J zz17_)), (8, .int (J zz16_)), (0, .ref o), (1, .int (J v_s)), (2, .int (J v_w)), (3, .int (J zz1_)), (4, .int (J s0_36)), (5, .int (J l5_80)), (7, .int (J l7_80))] dX9_tree_137 hl (by decide) rfl (fun ls hl => ?_)
                    refine j_iload E 141 rfl dX9_tree_139 (lv_at hl 9 rfl) ?_
                    refine j_iconst E 142 rfl dX9_tree_141 ?_
                    refine j_iload E 144 rfl dX9_tree_142 (lv_at hl 2 rfl) ?_
                    refine j_ishl E 145 rfl dX9_tree_144 (fun zz23_ rr23_ ee23_ => ?_)
                    refine j_ior E 146 rfl dX9_tree_145 (fun zz24_ rr24_ ee24_ => ?_)
                    refine j_istore E 148 rfl [(5, .int (J zz24_)), (6, .int (J zz22_)), (10, .int (J zz18_)), (9, .int (J zz17_)), (8, .int (J zz16_)), (0, .ref o), (1, .int (J v_s)), (2, .int (J v_w)), (3, .int (J zz1_)), (4, .int (J s0_36)), (7, .int (J l7_80))] dX9_tree_146 hl (by decide) rfl (fun ls hl => ?_)
                    refine j_iinc E 151 rfl [(7, .int (J (l7_80 + 1))), (5, .int (J zz24_)), (6, .int (J zz22_)), (10, .int (J zz18_)), (9, .int (J zz17_)), (8, .int (J zz16_)), (0, .ref o), (1, .int (J v_s)), (2, .int (J v_w)), (3, .int (J zz1_)), (4, .int (J s0_36))] dX9_tree_148 hl (kk := 10) rfl (by decide) rfl (fun ls hl => ?_)
                    refine j_goto E 80 dX9_tree_151 (by decide) ?_
                    exact ih80 zz24_ zz22_ (l7_80 + 1) y300_21 H locs ls rr24_ rr22_ (rr (by omega)) (⟨trivial, (Kd_tr (Kd_tr ik80_ (Kd_mono kf16_ (by decide))) (Kd_mono kf21_ (by decide)))⟩) (by omega) hw (lv_sub hl [6, 7, 8, 9, 10, 1, 2, 0] rfl)
                  · refine j_iload E 125 rfl dX9_tree_123 (lv_at hl 0 rfl) ?_
                    exact hret 125 zz18_ (upV v_0 300 y300_16) _ _ ls hw rr18_ ⟨y300_16, rfl, ⟨trivial, (Kd_tr ik80_ (Kd_mono kf16_ (by decide)))⟩⟩ dX9_tree_125
            exact L80_10 _ zz9_ 0 1 (v_0 300) H locs ls rr9_ (rr (by decide)) (rr (by decide)) (⟨trivial, Kd_rf⟩) (Nat.lt_succ_self _) (cw_eq hw (by first | rfl | (funext j_; simp only [upV, reduceIte]; (repeat' split) <;> first | rfl | omega | (subst_vars; rfl)))) (lv_sub hl [4, 5, 6, 7, 3, 2, 1, 0] rfl)
          · refine j_iload E 63 rfl dX9_tree_61 (lv_at hl 0 rfl) ?_
            refine j_if_ne E 66 68 rfl r_s0_36 dX9_tree_63 (by decide) (fun cc25_ => ?_) (fun cc25_ => ?_)
            · refine j_iload_n E 69 rfl dX9_tree_68 rfl (lv_at hl 2 rfl) ?_
              refine kS_i E (c_J6_lowestOneBit_0f7a4 l D cy T (v_0) v_s   r_v_s ) ms_J6_lowestOneBit_0f7a4 ml_X9_344 hK hw hA ⟨Nat.le_of_ble_eq_true rfl, Nat.le_of_ble_eq_true rfl⟩ ⟨Nat.le_of_ble_eq_true rfl, Nat.le_of_ble_eq_true rfl⟩ (As := [.int (J v_s)]) (rest := []) rfl rfl hl.1 (Nat.le_of_ble_eq_true rfl) 72 rfl dX9_tree_69 (fun zz26_ v_26 H locs rr26_ hq26_ hw => ?_)
              obtain ⟨ev26_, hh26_⟩ := hq26_
              rw [ev26_] at hw; clear ev26_
              refine j_istore E 74 rfl [(5, .int (J zz26_)), (4, .int (J s0_36)), (0, .ref o), (1, .int (J v_s)), (2, .int (J v_w)), (3, .int (J zz1_))] dX9_tree_72 hl (by decide) rfl (fun ls hl => ?_)
              refine j_iconst E 75 rfl dX9_tree_74 ?_
              refine j_istore E 77 rfl [(6, .int (J 0)), (5, .int (J zz26_)), (4, .int (J s0_36)), (0, .ref o), (1, .int (J v_s)), (2, .int (J v_w)), (3, .int (J zz1_))] dX9_tree_75 hl (by decide) rfl (fun ls hl => ?_)
              refine j_iconst E 78 rfl dX9_tree_77 ?_
              refine j_istore E 80 rfl [(7, .int (J 1)), (6, .int (J 0)), (5, .int (J zz26_)), (4, .int (J s0_36)), (0, .ref o), (1, .int (J v_s)), (2, .int (J v_w)), (3, .int (J zz1_))] dX9_tree_78 hl (by decide) rfl (fun ls hl => ?_)
              have L80_27 : ∀ (k80 : Nat) (l5_80 l6_80 l7_80 : Int) (y300_c80 : Nat → Int) (H : Heap) (locs : List Loc) (ls : Array Slot), inR l5_80 → inR l6_80 → inR l7_80 → ((True) ∧ Kd_ T [163, 196] (v_0 300) y300_c80) → (zz1_ - l7_80).toNat < k80 → WK D cy T (upV v_0 300 y300_c80) A0 H0 H locs → lv_has ls 11 [(0, .ref o), (1, .int (J v_s)), (2, .int (J v_w)), (3, .int (J zz1_)), (4, .int (J s0_36)), (5, .int (J l5_80)), (6, .int (J l6_80)), (7, .int (J l7_80))] → W p l e (rmd 7 0 0) s m ar below meth c H locs 0 0 QW (F0 m 80 ls []) := by
                intro k80
                induction k80 with
                | zero =>
                  intro l5_80 l6_80 l7_80 y300_c80 H locs ls r_l5_80 r_l6_80 r_l7_80 iv80 ms80 hw hl
                  exact absurd ms80 (Nat.not_lt_zero _)
                | succ k80 ih80 =>
                  intro l5_80 l6_80 l7_80 y300_c80 H locs ls r_l5_80 r_l6_80 r_l7_80 iv80 ms80 hw hl
                  obtain ⟨iv80, ik80_⟩ := iv80
                  refine j_iload E 82 rfl dX9_tree_80 (lv_at hl 7 rfl) ?_
                  refine j_iload_n E 83 rfl dX9_tree_82 rfl (lv_at hl 3 rfl) ?_
                  refine j_icmp_ge E 86 154 rfl r_l7_80 rr1_ dX9_tree_83 (by decide) (fun cc29_ => ?_) (fun cc29_ => ?_)
                  · refine j_iload_n E 155 rfl dX9_tree_154 rfl (lv_at hl 2 rfl) ?_
                    refine j_if_ne E 158 163 rfl r_v_w dX9_tree_155 (by decide) (fun cc30_ => ?_) (fun cc30_ => ?_)
                    · refine j_iconst E 164 rfl dX9_tree_163 ?_
                      exact hret 164 ((-1)) (upV v_0 300 y300_c80) _ _ ls hw (rr (by decide)) ⟨y300_c80, rfl, ⟨trivial, ik80_⟩⟩ dX9_tree_164
                    · refine j_iload E 160 rfl dX9_tree_158 (lv_at hl 6 rfl) ?_
                      refine j_goto E 164 dX9_tree_160 (by decide) ?_
                      exact hret 164 l6_80 (upV v_0 300 y300_c80) _ _ ls hw r_l6_80 ⟨y300_c80, rfl, ⟨trivial, ik80_⟩⟩ dX9_tree_164
                  · refine j_aload_n E 87 rfl dX9_tree_86 rfl (lv_at hl 0 rfl) ?_
                    refine j_iload_n E 88 rfl dX9_tree_87 rfl (lv_at hl 1 rfl) ?_
                    refine j_iload E 90 rfl dX9_tree_88 (lv_at hl 5 rfl) ?_
                    refine j_iconst E 91 rfl dX9_tree_90 ?_
                    refine j_ixor E 92 rfl dX9_tree_91 (fun zz31_ rr31_ ee31_ => ?_)
                    refine j_iand E 93 rfl dX9_tree_92 (fun zz32_ rr32_ ee32_ => ?_)
                    refine j_iload E 95 rfl dX9_tree_93 (lv_at hl 5 rfl) ?_
                    refine kV_i E (c_X9_nearestBranch l D cy T (upV v_0 300 y300_c80) o zz32_ l5_80  t_o rr32_ r_l5_80 ) mt_X9_nearestBranch ml_X9_347 hK hw (cw_rc9 hK hw.1 t_o) hA ⟨Nat.le_of_ble_eq_true rfl, Nat.le_of_ble_eq_true rfl⟩ ⟨Nat.le_of_ble_eq_true rfl, Nat.le_of_ble_eq_true rfl⟩ (As := [.int (J zz32_), .int (J l5_80)]) (rest := []) rfl rfl hl.1 (Nat.le_of_ble_eq_true rfl) 98 rfl dX9_tree_95 (fun zz33_ v_33 H locs rr33_ hq33_ hw => ?_)
                    obtain ⟨y300_33, ev33_, hh33_⟩ := hq33_
                    rw [ev33_] at hw; clear ev33_
                    have hw : WK D cy T (upV v_0 300 y300_33) A0 H0 H locs := cw_eq hw (by first | rfl | (funext j_; simp only [upV, reduceIte]; (repeat' split) <;> first | rfl | omega | (subst_vars; rfl)))
                    obtain ⟨hh33_, kf33_⟩ := hh33_
                    refine j_istore E 100 rfl [(8, .int (J zz33_)), (0, .ref o), (1, .int (J v_s)), (2, .int (J v_w)), (3, .int (J zz1_)), (4, .int (J s0_36)), (5, .int (J l5_80)), (6, .int (J l6_80)), (7, .int (J l7_80))] dX9_tree_98 hl (by decide) rfl (fun ls hl => ?_)
                    refine j_iload E 102 rfl dX9_tree_100 (lv_at hl 0 rfl) ?_
                    refine j_bipush E 104 rfl dX9_tree_102 (by decide) ?_
                    refine j_idiv E 105 rfl dX9_tree_104 (by decide +kernel) (fun zz34_ rr34_ ee34_ => ?_)
                    refine j_istore E 107 rfl [(9, .int (J zz34_)), (8, .int (J zz33_)), (0, .ref o), (1, .int (J v_s)), (2, .int (J v_w)), (3, .int (J zz1_)), (4, .int (J s0_36)), (5, .int (J l5_80)), (6, .int (J l6_80)), (7, .int (J l7_80))] dX9_tree_105 hl (by decide) rfl (fun ls hl => ?_)
                    refine j_iload E 109 rfl dX9_tree_107 (lv_at hl 1 rfl) ?_
                    refine j_bipush E 111 rfl dX9_tree_109 (by decide) ?_
                    refine j_irem E 112 rfl dX9_tree_111 (by decide +kernel) (fun zz35_ rr35_ ee35_ => ?_)
                    refine j_istore E 114 rfl [(10, .int (J zz35_)), (9, .int (J zz34_)), (8, .int (J zz33_)), (0, .ref o), (1, .int (J v_s)), (2, .int (J v_w)), (3, .int (J zz1_)), (4, .int (J s0_36)), (5, .int (J l5_80)), (6, .int (J l6_80)), (7, .int (J l7_80))] dX9_tree_112 hl (by decide) rfl (fun ls hl => ?_)
                    refine j_iload_n E 115 rfl dX9_tree_114 rfl (lv_at hl 5 rfl) ?_
                    refine j_bipush E 117 rfl dX9_tree_115 (by decide) ?_
                    refine j_iload E 119 rfl dX9_tree_117 (lv_at hl 1 rfl) ?_
                    refine j_iadd E 120 rfl dX9_tree_119 ?_
                    refine j_norm (fun zz36_ rr36_ ee36_ => ?_)
                    refine j_icmp_ne E 123 126 rfl r_v_w rr36_ dX9_tree_120 (by decide) (fun cc37_ => ?_) (fun cc37_ => ?_)
                    · refine j_iload E 128 rfl dX9_tree_126 (lv_at hl 9 rfl) ?_
                      refine j_aload_n E 129 rfl dX9_tree_128 rfl (lv_at hl 3 rfl) ?_
                      refine j_iload E 131 rfl dX9_tree_129 (lv_at hl 1 rfl) ?_
                      refine j_iload E 133 rfl dX9_tree_131 (lv_at hl 0 rfl) ?_
                      refine kV_i E (c_X9_distance l D cy T (upV v_0 300 y300_33) o zz34_ zz35_  t_o rr34_ rr35_ ) mt_X9_distance ml_X9_338 hK hw (cw_rc9 hK hw.1 t_o) hA ⟨Nat.le_of_ble_eq_true rfl, Nat.le_of_ble_eq_true rfl⟩ ⟨Nat.le_of_ble_eq_true rfl, Nat.le_of_ble_eq_true rfl⟩ (As := [.int (J zz34_), .int (J zz35_)]) (rest := [.int (J l6_80)]) rfl rfl hl.1 (Nat.le_of_ble_eq_true rfl) 136 rfl dX9_tree_133 (fun zz38_ v_38 H locs rr38_ hq38_ hw => ?_)
                      obtain ⟨y300_38, ev38_, hh38_⟩ := hq38_
                      rw [ev38_] at hw; clear ev38_
                      have hw : WK D cy T (upV v_0 300 y300_38) A0 H0 H locs := cw_eq hw (by first | rfl | (funext j_; simp only [upV, reduceIte]; (repeat' split) <;> first | rfl | omega | (subst_vars; rfl)))
                      obtain ⟨hh38_, kf38_⟩ := hh38_
                      refine j_iadd E 137 rfl dX9_tree_136 ?_
                      refine j_norm (fun zz39_ rr39_ ee39_ => ?_)
                      refine j_istore E 139 rfl [(6, .int (J zz39_)), (10, .int (J zz35_)), (9, .int (J zz34_)), (8, .int (J zz33_)), (0, .ref o), (1, .int (J v_s)), (2, .int (J v_w)), (3, .int (J zz1_)), (4, .int (J s0_36)), (5, .int (J l5_80)), (7, .int (J l7_80))] dX9_tree_137 hl (by decide) rfl (fun ls hl => ?_)
                      refine j_iload E 141 rfl dX9_tree_139 (lv_at hl 9 rfl) ?_
                      refine j_iconst E 142 rfl dX9_tree_141 ?_
                      refine j_iload E 144 rfl dX9_tree_142 (lv_at hl 2 rfl) ?_
                      refine j_ishl E 145 rfl dX9_tree_144 (fun zz40_ rr40_ ee40_ => ?_)
                      refine j_ior E 146 rfl dX9_tree_145 (fun zz41_ rr41_ ee41_ => ?_)
                      refine j_istore E 148 rfl [(5, .int (J zz41_)), (6, .int (J zz39_)), (10, .int (J zz35_)), (9, .int (J zz34_)), (8, .int (J zz33_)), (0, .ref o), (1, .int (J v_s)), (2, .int (J v_w)), (3, .int (J zz1_)), (4, .int (J s0_36)), (7, .int (J l7_80))] dX9_tree_146 hl (by decide) rfl (fun ls hl => ?_)
                      refine j_iinc E 151 rfl [(7, .int (J (l7_80 + 1))), (5, .int (J zz41_)), (6, .int (J zz39_)), (10, .int (J zz35_)), (9, .int (J zz34_)), (8, .int (J zz33_)), (0, .ref o), (1, .int (J v_s)), (2, .int (J v_w)), (3, .int (J zz1_)), (4, .int (J s0_36))] dX9_tree_148 hl (kk := 10) rfl (by decide) rfl (fun ls hl => ?_)
                      refine j_goto E 80 dX9_tree_151 (by decide) ?_
                      exact ih80 zz41_ zz39_ (l7_80 + 1) y300_38 H locs ls rr41_ rr39_ (rr (by omega)) (⟨trivial, (Kd_tr (Kd_tr ik80_ (Kd_mono kf33_ (by decide))) (Kd_mono kf38_ (by decide)))⟩) (by omega) hw (lv_sub hl [6, 7, 8, 9, 10, 1, 2, 0] rfl)
                    · refine j_iload E 125 rfl dX9_tree_123 (lv_at hl 0 rfl) ?_
                      exact hret 125 zz35_ (upV v_0 300 y300_33) _ _ ls hw rr35_ ⟨y300_33, rfl, ⟨trivial, (Kd_tr ik80_ (Kd_mono kf33_ (by decide)))⟩⟩ dX9_tree_125
              exact L80_27 _ zz26_ 0 1 (v_0 300) H locs ls rr26_ (rr (by decide)) (rr (by decide)) (⟨trivial, Kd_rf⟩) (Nat.lt_succ_self _) (cw_eq hw (by first | rfl | (funext j_; simp only [upV, reduceIte]; (repeat' split) <;> first | rfl | omega | (subst_vars; rfl)))) (lv_sub hl [4, 5, 6, 7, 3, 2, 1, 0] rfl)
            · refine j_iconst E 67 rfl dX9_tree_66 ?_
              exact hret 67 ((-1)) (upV v_0 300 (v_0 300)) _ _ ls (cw_eq hw (by first | rfl | (funext j_; simp only [upV, reduceIte]; (repeat' split) <;> first | rfl | omega | (subst_vars; rfl)))) (rr (by decide)) ⟨(v_0 300), rfl, ⟨trivial, Kd_rf⟩⟩ dX9_tree_67
  refine j_iload_n E 6 rfl dX9_tree_5 rfl (lv_at hl 3 rfl) ?_
  refine j_bipush E 8 rfl dX9_tree_6 (by decide) ?_
  refine j_icmp_lt E 11 35 rfl r_v_w (rr (by decide)) dX9_tree_8 (by decide) (fun cc42_ => ?_) (fun cc42_ => ?_)
  · refine j_iconst E 36 rfl dX9_tree_35 ?_
    exact L36_2 0  H locs ls (rr (by decide)) (trivial) hw (lv_sub hl [1, 2, 3, 0] rfl)
  · refine j_iload_n E 12 rfl dX9_tree_11 rfl (lv_at hl 3 rfl) ?_
    refine j_bipush E 14 rfl dX9_tree_12 (by decide) ?_
    refine j_isub E 15 rfl dX9_tree_14 ?_
    refine j_norm (fun zz43_ rr43_ ee43_ => ?_)
    refine j_bipush E 17 rfl dX9_tree_15 (by decide) ?_
    refine j_icmp_ge E 20 35 rfl rr43_ (rr (by decide)) dX9_tree_17 (by decide) (fun cc44_ => ?_) (fun cc44_ => ?_)
    · refine j_iconst E 36 rfl dX9_tree_35 ?_
      exact L36_2 0  H locs ls (rr (by decide)) (trivial) hw (lv_sub hl [1, 2, 3, 0] rfl)
    · refine j_iload_n E 21 rfl dX9_tree_20 rfl (lv_at hl 2 rfl) ?_
      refine j_iload_n E 22 rfl dX9_tree_21 rfl (lv_at hl 3 rfl) ?_
      refine j_bipush E 24 rfl dX9_tree_22 (by decide) ?_
      refine j_isub E 25 rfl dX9_tree_24 ?_
      refine j_norm (fun zz45_ rr45_ ee45_ => ?_)
      refine j_iushr E 26 rfl dX9_tree_25 (fun zz46_ rr46_ ee46_ => ?_)
      refine j_iconst E 27 rfl dX9_tree_26 ?_
      refine j_iand E 28 rfl dX9_tree_27 (fun zz47_ rr47_ ee47_ => ?_)
      refine j_if_eq E 31 35 rfl rr47_ dX9_tree_28 (by decide) (fun cc48_ => ?_) (fun cc48_ => ?_)
      · refine j_iconst E 36 rfl dX9_tree_35 ?_
        exact L36_2 0  H locs ls (rr (by decide)) (trivial) hw (lv_sub hl [1, 2, 3, 0] rfl)
      · refine j_iconst E 32 rfl dX9_tree_31 ?_
        refine j_goto E 36 dX9_tree_32 (by decide) ?_
        exact L36_2 1  H locs ls (rr (by decide)) (trivial) hw (lv_sub hl [1, 2, 3, 0] rfl)
set_option maxHeartbeats 4000000 in
set_option maxRecDepth 100000 in
theorem c_X9_loss (l : Launch) (D : va_G) (cy : Nat → ClassId) (T : Nat → Nat → Nat) (v_0 : Nat → Nat → Int) (o : Nat) (v_s : Int) (t_o : T 0 o = 9) (r_v_s : inR v_s) : KC l D cy T yX9_loss cX9_loss 4 (some .int) 5 [.ref o, .int (J v_s)] v_0 (KI (fun (z_0 : Int) (v_2 : Nat → Nat → Int) => v_2 = v_0 ∧ (True))) := by
  refine KC.ofi (by decide) (Nat.le_of_ble_eq_true rfl) ?_
  intro p e s m below meth c ls ar QW A0 H0 H locs E hK hA hw hl hret
  have hl : lv_has ls 4 [(0, .ref o), (1, .int (J v_s))] := hl
  have hT : WT T := hw.1.2.1
  refine j_iload_n E 1 rfl dX9_loss_0 rfl (lv_at hl 1 rfl) ?_
  refine j_if_eq E 4 12 rfl r_v_s dX9_loss_1 (by decide) (fun cc1_ => ?_) (fun cc1_ => ?_)
  · refine j_iconst E 13 rfl dX9_loss_12 ?_
    exact hret 13 ((-1)) (v_0) _ _ ls hw (rr (by decide)) ⟨rfl, trivial⟩ dX9_loss_13
  · refine j_aload_n E 5 rfl dX9_loss_4 rfl (lv_at hl 0 rfl) ?_
    refine j_iload_n E 6 rfl dX9_loss_5 rfl (lv_at hl 1 rfl) ?_
    refine kV_i E (c_X9_areLines l D cy T (v_0) o v_s  t_o r_v_s ) mt_X9_areLines ml_X9_371 hK hw (cw_rc9 hK hw.1 t_o) hA ⟨Nat.le_of_ble_eq_true rfl, Nat.le_of_ble_eq_true rfl⟩ ⟨Nat.le_of_ble_eq_true rfl, Nat.le_of_ble_eq_true rfl⟩ (As := [.int (J v_s)]) (rest := []) rfl rfl hl.1 (Nat.le_of_ble_eq_true rfl) 9 rfl dX9_loss_6 (fun zz2_ v_2 H locs rr2_ hq2_ hw => ?_)
    obtain ⟨ev2_, hh2_⟩ := hq2_
    rw [ev2_] at hw; clear ev2_
    refine j_if_ne E 12 14 rfl rr2_ dX9_loss_9 (by decide) (fun cc3_ => ?_) (fun cc3_ => ?_)
    · refine j_bipush E 16 rfl dX9_loss_14 (by decide) ?_
      refine j_istore_n E 17 rfl [(2, .int (J 24)), (0, .ref o), (1, .int (J v_s))] dX9_loss_16 rfl hl (by decide) rfl (fun ls hl => ?_)
      refine j_iconst E 18 rfl dX9_loss_17 ?_
      refine j_istore_n E 19 rfl [(3, .int (J 0)), (2, .int (J 24)), (0, .ref o), (1, .int (J v_s))] dX9_loss_18 rfl hl (by decide) rfl (fun ls hl => ?_)
      have L19_4 : ∀ (k19 : Nat) (l2_19 l3_19 : Int) (H : Heap) (locs : List Loc) (ls : Array Slot), inR l2_19 → inR l3_19 → (0 ≤ l3_19) → ((v_0 202 (T 181 o)) - l3_19).toNat < k19 → WK D cy T (v_0) A0 H0 H locs → lv_has ls 4 [(0, .ref o), (1, .int (J v_s)), (2, .int (J l2_19)), (3, .int (J l3_19))] → W p l e (rmd 5 0 0) s m ar below meth c H locs 0 0 QW (F0 m 19 ls []) := by
        intro k19
        induction k19 with
        | zero =>
          intro l2_19 l3_19 H locs ls r_l2_19 r_l3_19 iv19 ms19 hw hl
          exact absurd ms19 (Nat.not_lt_zero _)
        | succ k19 ih19 =>
          intro l2_19 l3_19 H locs ls r_l2_19 r_l3_19 iv19 ms19 hw hl
          refine j_iload_n E 20 rfl dX9_loss_19 rfl (lv_at hl 3 rfl) ?_
          refine j_aload_n E 21 rfl dX9_loss_20 rfl (lv_at hl 0 rfl) ?_
          refine g_181 E hK hw fl_X9_16 t_o 24 rfl dX9_loss_21 ?_
          refine kV_i E (c_Jx4a65c_size_8abf5 l D cy T (v_0) (T 181 o)  (wt_181 hT t_o)  ) mt_Jx4a65c_size_8abf5 ml_X9_80 hK hw (cw_rc10 hK hw.1 (wt_181 hT t_o)) hA ⟨Nat.le_of_ble_eq_true rfl, Nat.le_of_ble_eq_true rfl⟩ ⟨Nat.le_of_ble_eq_true rfl, Nat.le_of_ble_eq_true rfl⟩ (As := []) (rest := [.int (J l3_19)]) rfl rfl hl.1 (Nat.le_of_ble_eq_true rfl) 27 rfl dX9_loss_24 (fun zz6_ v_6 H locs rr6_ hq6_ hw => ?_)
          obtain ⟨ev6_, hh6_⟩ := hq6_
          rw [ev6_] at hw; clear ev6_
          replace hh6_ : zz6_ = ((v_0 202) ((T 181 o))) ∧ 0 ≤ zz6_ := hh6_
          refine j_icmp_ge E 30 54 rfl r_l3_19 rr6_ dX9_loss_27 (by decide) (fun cc7_ => ?_) (fun cc7_ => ?_)
          · refine j_iload_n E 55 rfl dX9_loss_54 rfl (lv_at hl 2 rfl) ?_
            exact hret 55 l2_19 (v_0) _ _ ls hw r_l2_19 ⟨rfl, trivial⟩ dX9_loss_55
          · refine j_iload_n E 31 rfl dX9_loss_30 rfl (lv_at hl 1 rfl) ?_
            refine j_iload_n E 32 rfl dX9_loss_31 rfl (lv_at hl 3 rfl) ?_
            refine j_iushr E 33 rfl dX9_loss_32 (fun zz8_ rr8_ ee8_ => ?_)
            refine j_iconst E 34 rfl dX9_loss_33 ?_
            refine j_iand E 35 rfl dX9_loss_34 (fun zz9_ rr9_ ee9_ => ?_)
            refine j_if_eq E 38 48 rfl rr9_ dX9_loss_35 (by decide) (fun cc10_ => ?_) (fun cc10_ => ?_)
            · refine j_iinc E 51 rfl [(3, .int (J (l3_19 + 1))), (0, .ref o), (1, .int (J v_s)), (2, .int (J l2_19))] dX9_loss_48 hl (kk := 3) rfl (by decide) rfl (fun ls hl => ?_)
              refine j_goto E 19 dX9_loss_51 (by decide) ?_
              exact ih19 l2_19 (l3_19 + 1)  H locs ls r_l2_19 (rr (by omega)) (by omega) (by omega) hw (lv_sub hl [1, 2, 3, 0] rfl)
            · refine j_iload_n E 39 rfl dX9_loss_38 rfl (lv_at hl 2 rfl) ?_
              refine j_aload_n E 40 rfl dX9_loss_39 rfl (lv_at hl 0 rfl) ?_
              refine j_iload_n E 41 rfl dX9_loss_40 rfl (lv_at hl 3 rfl) ?_
              refine kV_i E (c_X9_countHolders l D cy T (v_0) o l3_19  t_o r_l3_19 ) mt_X9_countHolders ml_X9_209 hK hw (cw_rc9 hK hw.1 t_o) hA ⟨Nat.le_of_ble_eq_true rfl, Nat.le_of_ble_eq_true rfl⟩ ⟨Nat.le_of_ble_eq_true rfl, Nat.le_of_ble_eq_true rfl⟩ (As := [.int (J l3_19)]) (rest := [.int (J l2_19)]) rfl rfl hl.1 (Nat.le_of_ble_eq_true rfl) 44 rfl dX9_loss_41 (fun zz11_ v_11 H locs rr11_ hq11_ hw => ?_)
              obtain ⟨ev11_, hh11_⟩ := hq11_
              rw [ev11_] at hw; clear ev11_
              refine j_min E hl.1 ml_X9_355 r_l2_19 rr11_ ⟨Nat.le_of_ble_eq_true rfl, Nat.le_of_ble_eq_true rfl⟩ ⟨Nat.le_of_ble_eq_true rfl, Nat.le_of_ble_eq_true rfl⟩ 47 rfl dX9_loss_44 (fun zz12_ rr12_ hh12_ => ?_)
              refine j_istore_n E 48 rfl [(2, .int (J zz12_)), (0, .ref o), (1, .int (J v_s)), (3, .int (J l3_19))] dX9_loss_47 rfl hl (by decide) rfl (fun ls hl => ?_)
              refine j_iinc E 51 rfl [(3, .int (J (l3_19 + 1))), (2, .int (J zz12_)), (0, .ref o), (1, .int (J v_s))] dX9_loss_48 hl (kk := 3) rfl (by decide) rfl (fun ls hl => ?_)
              refine j_goto E 19 dX9_loss_51 (by decide) ?_
              exact ih19 zz12_ (l3_19 + 1)  H locs ls rr12_ (rr (by omega)) (by omega) (by omega) hw (lv_sub hl [2, 3, 1, 0] rfl)
      exact L19_4 _ 24 0  H locs ls (rr (by decide)) (rr (by decide)) (by omega) (Nat.lt_succ_self _) hw (lv_sub hl [2, 3, 1, 0] rfl)
    · refine j_iconst E 13 rfl dX9_loss_12 ?_
      exact hret 13 ((-1)) (v_0) _ _ ls hw (rr (by decide)) ⟨rfl, trivial⟩ dX9_loss_13
set_option maxHeartbeats 4000000 in
set_option maxRecDepth 100000 in
theorem c_X9_putPrices (l : Launch) (D : va_G) (cy : Nat → ClassId) (T : Nat → Nat → Nat) (v_0 : Nat → Nat → Int) (o : Nat) (a_b : Nat) (v_l : Int) (t_o : T 0 o = 9) (t_b : T 0 a_b = 3) (r_v_l : inR v_l) : KC l D cy T yX9_putPrices cX9_putPrices 6 none 4 [.ref o, .ref a_b, .int (J v_l)] v_0 (KV (fun (v_2 : Nat → Nat → Int) => ∃ (y300_2 : Nat → Int) , v_2 = upV v_0 300 y300_2 ∧ ((True) ∧ Kd_ T [61] (v_0 300) y300_2))) := by
  refine KC.ofv (by decide) (Nat.le_of_ble_eq_true rfl) ?_
  intro p e s m below meth c ls ar QW A0 H0 H locs E hK hA hw hl hret
  have hl : lv_has ls 6 [(0, .ref o), (1, .ref a_b), (2, .int (J v_l))] := hl
  have hT : WT T := hw.1.2.1
  refine j_iconst E 1 rfl dX9_putPrices_0 ?_
  refine j_istore_n E 2 rfl [(3, .int (J 0)), (0, .ref o), (1, .ref a_b), (2, .int (J v_l))] dX9_putPrices_1 rfl hl (by decide) rfl (fun ls hl => ?_)
  refine j_iconst E 3 rfl dX9_putPrices_2 ?_
  refine j_istore E 5 rfl [(4, .int (J 0)), (3, .int (J 0)), (0, .ref o), (1, .ref a_b), (2, .int (J v_l))] dX9_putPrices_3 hl (by decide) rfl (fun ls hl => ?_)
  have L5_1 : ∀ (k5 : Nat) (l3_5 l4_5 : Int) (H : Heap) (locs : List Loc) (ls : Array Slot), inR l3_5 → inR l4_5 → (0 ≤ l4_5) → ((v_0 202 (T 180 o)) - l4_5).toNat < k5 → WK D cy T (v_0) A0 H0 H locs → lv_has ls 6 [(0, .ref o), (1, .ref a_b), (2, .int (J v_l)), (3, .int (J l3_5)), (4, .int (J l4_5))] → W p l e (rmd 4 0 0) s m ar below meth c H locs 0 0 QW (F0 m 5 ls []) := by
    intro k5
    induction k5 with
    | zero =>
      intro l3_5 l4_5 H locs ls r_l3_5 r_l4_5 iv5 ms5 hw hl
      exact absurd ms5 (Nat.not_lt_zero _)
    | succ k5 ih5 =>
      intro l3_5 l4_5 H locs ls r_l3_5 r_l4_5 iv5 ms5 hw hl
      refine j_iload E 7 rfl dX9_putPrices_5 (lv_at hl 4 rfl) ?_
      refine j_aload_n E 8 rfl dX9_putPrices_7 rfl (lv_at hl 0 rfl) ?_
      refine g_180 E hK hw fl_X9_12 t_o 11 rfl dX9_putPrices_8 ?_
      refine kV_i E (c_Jx4a65c_size_8abf5 l D cy T (v_0) (T 180 o)  (wt_180 hT t_o)  ) mt_Jx4a65c_size_8abf5 ml_X9_80 hK hw (cw_rc10 hK hw.1 (wt_180 hT t_o)) hA ⟨Nat.le_of_ble_eq_true rfl, Nat.le_of_ble_eq_true rfl⟩ ⟨Nat.le_of_ble_eq_true rfl, Nat.le_of_ble_eq_true rfl⟩ (As := []) (rest := [.int (J l4_5)]) rfl rfl hl.1 (Nat.le_of_ble_eq_true rfl) 14 rfl dX9_putPrices_11 (fun zz3_ v_3 H locs rr3_ hq3_ hw => ?_)
      obtain ⟨ev3_, hh3_⟩ := hq3_
      rw [ev3_] at hw; clear ev3_
      replace hh3_ : zz3_ = ((v_0 202) ((T 180 o))) ∧ 0 ≤ zz3_ := hh3_
      refine j_icmp_ge E 17 64 rfl r_l4_5 rr3_ dX9_putPrices_14 (by decide) (fun cc4_ => ?_) (fun cc4_ => ?_)
      · refine j_iconst E 65 rfl dX9_putPrices_64 ?_
        refine j_istore E 67 rfl [(4, .int (J 0)), (0, .ref o), (1, .ref a_b), (2, .int (J v_l)), (3, .int (J l3_5))] dX9_putPrices_65 hl (by decide) rfl (fun ls hl => ?_)
        have L67_5 : ∀ (k67 : Nat) (l4_67 : Int) (y300_c67 : Nat → Int) (H : Heap) (locs : List Loc) (ls : Array Slot), inR l4_67 → ((0 ≤ l4_67) ∧ Kd_ T [61] (v_0 300) y300_c67) → ((v_0 202 (T 180 o)) - l4_67).toNat < k67 → WK D cy T (upV v_0 300 y300_c67) A0 H0 H locs → lv_has ls 6 [(0, .ref o), (1, .ref a_b), (2, .int (J v_l)), (3, .int (J l3_5)), (4, .int (J l4_67))] → W p l e (rmd 4 0 0) s m ar below meth c H locs 0 0 QW (F0 m 67 ls []) := by
          intro k67
          induction k67 with
          | zero =>
            intro l4_67 y300_c67 H locs ls r_l4_67 iv67 ms67 hw hl
            exact absurd ms67 (Nat.not_lt_zero _)
          | succ k67 ih67 =>
            intro l4_67 y300_c67 H locs ls r_l4_67 iv67 ms67 hw hl
            obtain ⟨iv67, ik67_⟩ := iv67
            refine j_iload E 69 rfl dX9_putPrices_67 (lv_at hl 4 rfl) ?_
            refine j_aload_n E 70 rfl dX9_putPrices_69 rfl (lv_at hl 0 rfl) ?_
            refine g_180 E hK hw fl_X9_12 t_o 73 rfl dX9_putPrices_70 ?_
            refine kV_i E (c_Jx4a65c_size_8abf5 l D cy T (upV v_0 300 y300_c67) (T 180 o)  (wt_180 hT t_o)  ) mt_Jx4a65c_size_8abf5 ml_X9_80 hK hw (cw_rc10 hK hw.1 (wt_180 hT t_o)) hA ⟨Nat.le_of_ble_eq_true rfl, Nat.le_of_ble_eq_true rfl⟩ ⟨Nat.le_of_ble_eq_true rfl, Nat.le_of_ble_eq_true rfl⟩ (As := []) (rest := [.int (J l4_67)]) rfl rfl hl.1 (Nat.le_of_ble_eq_true rfl) 76 rfl dX9_putPrices_73 (fun zz7_ v_7 H locs rr7_ hq7_ hw => ?_)
            obtain ⟨ev7_, hh7_⟩ := hq7_
            rw [ev7_] at hw; clear ev7_
            replace hh7_ : zz7_ = ((v_0 202) ((T 180 o))) ∧ 0 ≤ zz7_ := hh7_
            refine j_icmp_ge E 79 143 rfl r_l4_67 rr7_ dX9_putPrices_76 (by decide) (fun cc8_ => ?_) (fun cc8_ => ?_)
            · exact hret 143 (upV v_0 300 y300_c67) _ _ ls hw ⟨y300_c67, rfl, ⟨trivial, ik67_⟩⟩ dX9_putPrices_143
            · refine j_aload_n E 80 rfl dX9_putPrices_79 rfl (lv_at hl 0 rfl) ?_
              refine g_180 E hK hw fl_X9_12 t_o 83 rfl dX9_putPrices_80 ?_
              refine j_iload E 85 rfl dX9_putPrices_83 (lv_at hl 4 rfl) ?_
              refine kV_n E (c_Jx4a65c_get_915e3 l D cy T (upV v_0 300 y300_c67) (T 180 o) l4_67  (wt_180 hT t_o) r_l4_67 (show 0 ≤ l4_67 ∧ l4_67 < ((v_0 202) ((T 180 o))) from by omega)) mt_Jx4a65c_get_915e3 ml_X9_123 hK hw (cw_rc10 hK hw.1 (wt_180 hT t_o)) hA ⟨Nat.le_of_ble_eq_true rfl, Nat.le_of_ble_eq_true rfl⟩ ⟨Nat.le_of_ble_eq_true rfl, Nat.le_of_ble_eq_true rfl⟩ (As := [.int (J l4_67)]) (rest := []) rfl rfl hl.1 (Nat.le_of_ble_eq_true rfl) 88 rfl dX9_putPrices_85 (fun xx9_ v_9 H locs hq9_ hw => ?_)
              obtain ⟨ev9_, hh9_⟩ := hq9_
              rw [ev9_] at hw; clear ev9_
              replace hh9_ : dcd (T (1000 + (l4_67).toNat) (T 201 (T 180 o))) = some xx9_ ∧ T 0 xx9_ = T 2 (T 180 o) := hh9_
              have te9_ : T 0 xx9_ = 2 := hh9_.2.trans (we_180 hT t_o)
              have tg_ := te9_
              refine k_cast2 E hK hw cl_X9_84 te9_ 91 rfl dX9_putPrices_88 ?_
              refine j_astore E 93 rfl [(5, .ref xx9_), (0, .ref o), (1, .ref a_b), (2, .int (J v_l)), (3, .int (J l3_5)), (4, .int (J l4_67))] dX9_putPrices_91 hl (by decide) rfl (fun ls hl => ?_)
              refine j_aload E 95 rfl dX9_putPrices_93 (lv_at hl 0 rfl) ?_
              refine kV_i E (c_X1_lives l D cy T (upV v_0 300 y300_c67) xx9_  te9_  ) mt_X1_lives ml_X9_127 hK hw (cw_rc2 hK hw.1 te9_) hA ⟨Nat.le_of_ble_eq_true rfl, Nat.le_of_ble_eq_true rfl⟩ ⟨Nat.le_of_ble_eq_true rfl, Nat.le_of_ble_eq_true rfl⟩ (As := []) (rest := []) rfl rfl hl.1 (Nat.le_of_ble_eq_true rfl) 98 rfl dX9_putPrices_95 (fun zz10_ v_10 H locs rr10_ hq10_ hw => ?_)
              obtain ⟨ev10_, hh10_⟩ := hq10_
              rw [ev10_] at hw; clear ev10_
              replace hh10_ : (zz10_ = 1 ∧ ((v_0 43) xx9_) = -1) ∨ (zz10_ = 0 ∧ ¬ ((v_0 43) xx9_) = -1) := hh10_
              refine j_if_eq E 101 137 rfl rr10_ dX9_putPrices_98 (by decide) (fun cc11_ => ?_) (fun cc11_ => ?_)
              · refine j_iinc E 140 rfl [(4, .int (J (l4_67 + 1))), (5, .ref xx9_), (0, .ref o), (1, .ref a_b), (2, .int (J v_l)), (3, .int (J l3_5))] dX9_putPrices_137 hl (kk := 5) rfl (by decide) rfl (fun ls hl => ?_)
                refine j_goto E 67 dX9_putPrices_140 (by decide) ?_
                exact ih67 (l4_67 + 1) y300_c67 H locs ls (rr (by omega)) (⟨by first | omega | (simp only [upB_same]; omega), ik67_⟩) (by omega) hw (lv_sub hl [2, 3, 4, 5, 0] rfl)
              · refine j_aload E 103 rfl dX9_putPrices_101 (lv_at hl 0 rfl) ?_
                refine j_iload_n E 104 rfl dX9_putPrices_103 rfl (lv_at hl 3 rfl) ?_
                refine kV_i E (c_X1_knows l D cy T (upV v_0 300 y300_c67) xx9_ v_l  te9_ r_v_l ) mt_X1_knows ml_X9_179 hK hw (cw_rc2 hK hw.1 te9_) hA ⟨Nat.le_of_ble_eq_true rfl, Nat.le_of_ble_eq_true rfl⟩ ⟨Nat.le_of_ble_eq_true rfl, Nat.le_of_ble_eq_true rfl⟩ (As := [.int (J v_l)]) (rest := []) rfl rfl hl.1 (Nat.le_of_ble_eq_true rfl) 107 rfl dX9_putPrices_104 (fun zz12_ v_12 H locs rr12_ hq12_ hw => ?_)
                obtain ⟨ev12_, hh12_⟩ := hq12_
                rw [ev12_] at hw; clear ev12_
                refine j_if_ne E 110 137 rfl rr12_ dX9_putPrices_107 (by decide) (fun cc13_ => ?_) (fun cc13_ => ?_)
                · refine j_iinc E 140 rfl [(4, .int (J (l4_67 + 1))), (5, .ref xx9_), (0, .ref o), (1, .ref a_b), (2, .int (J v_l)), (3, .int (J l3_5))] dX9_putPrices_137 hl (kk := 5) rfl (by decide) rfl (fun ls hl => ?_)
                  refine j_goto E 67 dX9_putPrices_140 (by decide) ?_
                  exact ih67 (l4_67 + 1) y300_c67 H locs ls (rr (by omega)) (⟨by first | omega | (simp only [upB_same]; omega), ik67_⟩) (by omega) hw (lv_sub hl [2, 3, 4, 5, 0] rfl)
                · refine j_iload_n E 111 rfl dX9_putPrices_110 rfl (lv_at hl 4 rfl) ?_
                  refine j_if_eq E 114 137 rfl r_l3_5 dX9_putPrices_111 (by decide) (fun cc14_ => ?_) (fun cc14_ => ?_)
                  · refine j_iinc E 140 rfl [(4, .int (J (l4_67 + 1))), (5, .ref xx9_), (0, .ref o), (1, .ref a_b), (2, .int (J v_l)), (3, .int (J l3_5))] dX9_putPrices_137 hl (kk := 5) rfl (by decide) rfl (fun ls hl => ?_)
                    refine j_goto E 67 dX9_putPrices_140 (by decide) ?_
                    exact ih67 (l4_67 + 1) y300_c67 H locs ls (rr (by omega)) (⟨by first | omega | (simp only [upB_same]; omega), ik67_⟩) (by omega) hw (lv_sub hl [2, 3, 4, 5, 0] rfl)
                  · refine j_aload_n E 115 rfl dX9_putPrices_114 rfl (lv_at hl 2 rfl) ?_
                    refine j_iload E 117 rfl dX9_putPrices_115 (lv_at hl 5 rfl) ?_
                    refine j_iload_n E 118 rfl dX9_putPrices_117 rfl (lv_at hl 4 rfl) ?_
                    refine j_aload E 120 rfl dX9_putPrices_118 (lv_at hl 0 rfl) ?_
                    refine g_40 E hK hw fl_X9_107 te9_ (v_0 40 xx9_) rfl 123 rfl dX9_putPrices_120 (fun rr15_ => ?_)
                    refine j_iushr E 124 rfl dX9_putPrices_123 (fun zz16_ rr16_ ee16_ => ?_)
                    refine j_iconst E 125 rfl dX9_putPrices_124 ?_
                    refine j_iand E 126 rfl dX9_putPrices_125 (fun zz17_ rr17_ ee17_ => ?_)
                    refine j_if_eq E 129 133 rfl rr17_ dX9_putPrices_126 (by decide) (fun cc18_ => ?_) (fun cc18_ => ?_)
                    · refine j_iconst E 134 rfl dX9_putPrices_133 ?_
                      refine kV_v E (c_X2_putPrice l D cy T (upV v_0 300 y300_c67) a_b l4_67 3  t_b r_l4_67 (rr (by decide)) ) mt_X2_putPrice ml_X9_399 hK hw (cw_rc3 hK hw.1 t_b) hA ⟨Nat.le_of_ble_eq_true rfl, Nat.le_of_ble_eq_true rfl⟩ ⟨Nat.le_of_ble_eq_true rfl, Nat.le_of_ble_eq_true rfl⟩ (As := [.int (J l4_67), .int (J 3)]) (rest := []) rfl rfl hl.1 (Nat.le_of_ble_eq_true rfl) 137 rfl dX9_putPrices_134 (fun v_19 H locs hq19_ hw => ?_)
                      obtain ⟨y300_19, ev19_, hh19_⟩ := hq19_
                      rw [ev19_] at hw; clear ev19_
                      have hw : WK D cy T (upV v_0 300 y300_19) A0 H0 H locs := cw_eq hw (by first | rfl | (funext j_; simp only [upV, reduceIte]; (repeat' split) <;> first | rfl | omega | (subst_vars; rfl)))
                      obtain ⟨hh19_, kf19_⟩ := hh19_
                      refine j_iinc E 140 rfl [(4, .int (J (l4_67 + 1))), (5, .ref xx9_), (0, .ref o), (1, .ref a_b), (2, .int (J v_l)), (3, .int (J l3_5))] dX9_putPrices_137 hl (kk := 5) rfl (by decide) rfl (fun ls hl => ?_)
                      refine j_goto E 67 dX9_putPrices_140 (by decide) ?_
                      exact ih67 (l4_67 + 1) y300_19 H locs ls (rr (by omega)) (⟨by first | omega | (simp only [upB_same]; omega), (Kd_tr ik67_ (Kd_mono kf19_ (by decide)))⟩) (by omega) hw (lv_sub hl [2, 3, 4, 5, 0] rfl)
                    · refine j_iconst E 130 rfl dX9_putPrices_129 ?_
                      refine j_goto E 134 dX9_putPrices_130 (by decide) ?_
                      refine kV_v E (c_X2_putPrice l D cy T (upV v_0 300 y300_c67) a_b l4_67 1  t_b r_l4_67 (rr (by decide)) ) mt_X2_putPrice ml_X9_399 hK hw (cw_rc3 hK hw.1 t_b) hA ⟨Nat.le_of_ble_eq_true rfl, Nat.le_of_ble_eq_true rfl⟩ ⟨Nat.le_of_ble_eq_true rfl, Nat.le_of_ble_eq_true rfl⟩ (As := [.int (J l4_67), .int (J 1)]) (rest := []) rfl rfl hl.1 (Nat.le_of_ble_eq_true rfl) 137 rfl dX9_putPrices_134 (fun v_20 H locs hq20_ hw => ?_)
                      obtain ⟨y300_20, ev20_, hh20_⟩ := hq20_
                      rw [ev20_] at hw; clear ev20_
                      have hw : WK D cy T (upV v_0 300 y300_20) A0 H0 H locs := cw_eq hw (by first | rfl | (funext j_; simp only [upV, reduceIte]; (repeat' split) <;> first | rfl | omega | (subst_vars; rfl)))
                      obtain ⟨hh20_, kf20_⟩ := hh20_
                      refine j_iinc E 140 rfl [(4, .int (J (l4_67 + 1))), (5, .ref xx9_), (0, .ref o), (1, .ref a_b), (2, .int (J v_l)), (3, .int (J l3_5))] dX9_putPrices_137 hl (kk := 5) rfl (by decide) rfl (fun ls hl => ?_)
                      refine j_goto E 67 dX9_putPrices_140 (by decide) ?_
                      exact ih67 (l4_67 + 1) y300_20 H locs ls (rr (by omega)) (⟨by first | omega | (simp only [upB_same]; omega), (Kd_tr ik67_ (Kd_mono kf20_ (by decide)))⟩) (by omega) hw (lv_sub hl [2, 3, 4, 5, 0] rfl)
        exact L67_5 _ 0 (v_0 300) H locs ls (rr (by decide)) (⟨by first | omega | (simp only [upB_same]; omega), Kd_rf⟩) (Nat.lt_succ_self _) (cw_eq hw (by first | rfl | (funext j_; simp only [upV, reduceIte]; (repeat' split) <;> first | rfl | omega | (subst_vars; rfl)))) (lv_sub hl [1, 2, 3, 4, 0] rfl)
      · refine j_aload_n E 18 rfl dX9_putPrices_17 rfl (lv_at hl 0 rfl) ?_
        refine g_180 E hK hw fl_X9_12 t_o 21 rfl dX9_putPrices_18 ?_
        refine j_iload E 23 rfl dX9_putPrices_21 (lv_at hl 4 rfl) ?_
        refine kV_n E (c_Jx4a65c_get_915e3 l D cy T (v_0) (T 180 o) l4_5  (wt_180 hT t_o) r_l4_5 (show 0 ≤ l4_5 ∧ l4_5 < ((v_0 202) ((T 180 o))) from by omega)) mt_Jx4a65c_get_915e3 ml_X9_123 hK hw (cw_rc10 hK hw.1 (wt_180 hT t_o)) hA ⟨Nat.le_of_ble_eq_true rfl, Nat.le_of_ble_eq_true rfl⟩ ⟨Nat.le_of_ble_eq_true rfl, Nat.le_of_ble_eq_true rfl⟩ (As := [.int (J l4_5)]) (rest := []) rfl rfl hl.1 (Nat.le_of_ble_eq_true rfl) 26 rfl dX9_putPrices_23 (fun xx21_ v_21 H locs hq21_ hw => ?_)
        obtain ⟨ev21_, hh21_⟩ := hq21_
        rw [ev21_] at hw; clear ev21_
        replace hh21_ : dcd (T (1000 + (l4_5).toNat) (T 201 (T 180 o))) = some xx21_ ∧ T 0 xx21_ = T 2 (T 180 o) := hh21_
        have te21_ : T 0 xx21_ = 2 := hh21_.2.trans (we_180 hT t_o)
        have tg_ := te21_
        refine k_cast2 E hK hw cl_X9_84 te21_ 29 rfl dX9_putPrices_26 ?_
        refine j_astore E 31 rfl [(5, .ref xx21_), (0, .ref o), (1, .ref a_b), (2, .int (J v_l)), (3, .int (J l3_5)), (4, .int (J l4_5))] dX9_putPrices_29 hl (by decide) rfl (fun ls hl => ?_)
        refine j_aload E 33 rfl dX9_putPrices_31 (lv_at hl 0 rfl) ?_
        refine kV_i E (c_X1_lives l D cy T (v_0) xx21_  te21_  ) mt_X1_lives ml_X9_127 hK hw (cw_rc2 hK hw.1 te21_) hA ⟨Nat.le_of_ble_eq_true rfl, Nat.le_of_ble_eq_true rfl⟩ ⟨Nat.le_of_ble_eq_true rfl, Nat.le_of_ble_eq_true rfl⟩ (As := []) (rest := []) rfl rfl hl.1 (Nat.le_of_ble_eq_true rfl) 36 rfl dX9_putPrices_33 (fun zz22_ v_22 H locs rr22_ hq22_ hw => ?_)
        obtain ⟨ev22_, hh22_⟩ := hq22_
        rw [ev22_] at hw; clear ev22_
        replace hh22_ : (zz22_ = 1 ∧ ((v_0 43) xx21_) = -1) ∨ (zz22_ = 0 ∧ ¬ ((v_0 43) xx21_) = -1) := hh22_
        refine j_if_eq E 39 58 rfl rr22_ dX9_putPrices_36 (by decide) (fun cc23_ => ?_) (fun cc23_ => ?_)
        · refine j_iinc E 61 rfl [(4, .int (J (l4_5 + 1))), (5, .ref xx21_), (0, .ref o), (1, .ref a_b), (2, .int (J v_l)), (3, .int (J l3_5))] dX9_putPrices_58 hl (kk := 5) rfl (by decide) rfl (fun ls hl => ?_)
          refine j_goto E 5 dX9_putPrices_61 (by decide) ?_
          exact ih5 l3_5 (l4_5 + 1)  H locs ls r_l3_5 (rr (by omega)) (by omega) (by omega) hw (lv_sub hl [2, 3, 4, 5, 0] rfl)
        · refine j_aload E 41 rfl dX9_putPrices_39 (lv_at hl 0 rfl) ?_
          refine j_iload_n E 42 rfl dX9_putPrices_41 rfl (lv_at hl 3 rfl) ?_
          refine kV_i E (c_X1_knows l D cy T (v_0) xx21_ v_l  te21_ r_v_l ) mt_X1_knows ml_X9_179 hK hw (cw_rc2 hK hw.1 te21_) hA ⟨Nat.le_of_ble_eq_true rfl, Nat.le_of_ble_eq_true rfl⟩ ⟨Nat.le_of_ble_eq_true rfl, Nat.le_of_ble_eq_true rfl⟩ (As := [.int (J v_l)]) (rest := []) rfl rfl hl.1 (Nat.le_of_ble_eq_true rfl) 45 rfl dX9_putPrices_42 (fun zz24_ v_24 H locs rr24_ hq24_ hw => ?_)
          obtain ⟨ev24_, hh24_⟩ := hq24_
          rw [ev24_] at hw; clear ev24_
          refine j_if_eq E 48 58 rfl rr24_ dX9_putPrices_45 (by decide) (fun cc25_ => ?_) (fun cc25_ => ?_)
          · refine j_iinc E 61 rfl [(4, .int (J (l4_5 + 1))), (5, .ref xx21_), (0, .ref o), (1, .ref a_b), (2, .int (J v_l)), (3, .int (J l3_5))] dX9_putPrices_58 hl (kk := 5) rfl (by decide) rfl (fun ls hl => ?_)
            refine j_goto E 5 dX9_putPrices_61 (by decide) ?_
            exact ih5 l3_5 (l4_5 + 1)  H locs ls r_l3_5 (rr (by omega)) (by omega) (by omega) hw (lv_sub hl [2, 3, 4, 5, 0] rfl)
          · refine j_iload_n E 49 rfl dX9_putPrices_48 rfl (lv_at hl 4 rfl) ?_
            refine j_iconst E 50 rfl dX9_putPrices_49 ?_
            refine j_aload E 52 rfl dX9_putPrices_50 (lv_at hl 0 rfl) ?_
            refine g_40 E hK hw fl_X9_107 te21_ (v_0 40 xx21_) rfl 55 rfl dX9_putPrices_52 (fun rr26_ => ?_)
            refine j_ishl E 56 rfl dX9_putPrices_55 (fun zz27_ rr27_ ee27_ => ?_)
            refine j_ior E 57 rfl dX9_putPrices_56 (fun zz28_ rr28_ ee28_ => ?_)
            refine j_istore_n E 58 rfl [(3, .int (J zz28_)), (5, .ref xx21_), (0, .ref o), (1, .ref a_b), (2, .int (J v_l)), (4, .int (J l4_5))] dX9_putPrices_57 rfl hl (by decide) rfl (fun ls hl => ?_)
            refine j_iinc E 61 rfl [(4, .int (J (l4_5 + 1))), (3, .int (J zz28_)), (5, .ref xx21_), (0, .ref o), (1, .ref a_b), (2, .int (J v_l))] dX9_putPrices_58 hl (kk := 5) rfl (by decide) rfl (fun ls hl => ?_)
            refine j_goto E 5 dX9_putPrices_61 (by decide) ?_
            exact ih5 zz28_ (l4_5 + 1)  H locs ls rr28_ (rr (by omega)) (by omega) (by omega) hw (lv_sub hl [3, 4, 5, 1, 0] rfl)
  exact L5_1 _ 0 0  H locs ls (rr (by decide)) (rr (by decide)) (by omega) (Nat.lt_succ_self _) hw (lv_sub hl [2, 3, 4, 1, 0] rfl)
set_option maxHeartbeats 4000000 in
set_option maxRecDepth 100000 in
theorem c_X9_book (l : Launch) (D : va_G) (cy : Nat → ClassId) (T : Nat → Nat → Nat) (v_0 : Nat → Nat → Int) (o : Nat) (v_l : Int) (v_w : Int) (t_o : T 0 o = 9) (r_v_l : inR v_l) (r_v_w : inR v_w) : KC l D cy T yX9_book cX9_book 4 (some .boolean) 5 [.ref o, .int (J v_l), .int (J v_w)] v_0 (KI (fun (z_0 : Int) (v_2 : Nat → Nat → Int) => ∃ (y25_2 : Nat → Int) , v_2 = upV v_0 25 y25_2 ∧ ((z_0 = 0 ∧ (y25_2) = (v_0 25) ∧ ((v_l < 0 ∨ (v_0 202 (T 181 o)) ≤ v_l) ∨ (¬ v_w = -1 ∧ (v_w < 0 ∨ (v_0 202 (T 182 o)) ≤ v_w)))) ∨ (z_0 = 1 ∧ (0 ≤ v_l ∧ v_l < (v_0 202 (T 181 o))) ∧ (v_w = -1 ∨ (0 ≤ v_w ∧ v_w < (v_0 202 (T 182 o)))) ∧ ∃ y_, T (1000 + (v_l).toNat) (T 201 (T 181 o)) = y_ + 1 ∧ (y25_2) = upB (v_0 25) y_ v_w)))) := by
  refine KC.ofz (by decide) (Nat.le_of_ble_eq_true rfl) ?_
  intro p e s m below meth c ls ar QW A0 H0 H locs E hK hA hw hl hret
  have hl : lv_has ls 4 [(0, .ref o), (1, .int (J v_l)), (2, .int (J v_w))] := hl
  have hT : WT T := hw.1.2.1
  refine j_aload_n E 1 rfl dX9_book_0 rfl (lv_at hl 0 rfl) ?_
  refine j_iload_n E 2 rfl dX9_book_1 rfl (lv_at hl 1 rfl) ?_
  refine kV_r E (c_X9_lineAt l D cy T (v_0) o v_l  t_o r_v_l ) mt_X9_lineAt ml_X9_195 hK hw (cw_rc9 hK hw.1 t_o) hA ⟨Nat.le_of_ble_eq_true rfl, Nat.le_of_ble_eq_true rfl⟩ ⟨Nat.le_of_ble_eq_true rfl, Nat.le_of_ble_eq_true rfl⟩ (As := [.int (J v_l)]) (rest := []) rfl rfl hl.1 (Nat.le_of_ble_eq_true rfl) 5 rfl dX9_book_2 (fun oo1_ v_1 H locs hq1_ hw => ?_)
  obtain ⟨ev1_, hh1_⟩ := hq1_
  rw [ev1_] at hw; clear ev1_
  obtain ⟨tt1_, hh1_⟩ := hh1_
  replace hh1_ : (oo1_ = none → (v_l < 0 ∨ ((v_0 202) (T 181 o)) ≤ v_l)) ∧ (∀ y_, oo1_ = some y_ → 0 ≤ v_l ∧ v_l < ((v_0 202) (T 181 o)) ∧ T (1000 + (v_l).toNat) (T 201 (T 181 o)) = y_ + 1) := hh1_
  cases oo1_ with
  | none =>
    first | have hn_ := hh1_.1 rfl | have hs_ := hh1_.2 _ rfl
    refine j_astore_nN E 6 rfl [(3, .null), (0, .ref o), (1, .int (J v_l)), (2, .int (J v_w))] dX9_book_5 rfl hl (by decide) rfl (fun ls hl => ?_)
    refine j_aload_nN E 7 rfl dX9_book_6 rfl (lv_at hl 0 rfl) ?_
    refine j_ifnullN E 23 dX9_book_7 (by decide) ?_
    refine j_iconst E 24 rfl dX9_book_23 ?_
    exact hret 24 0 (upV v_0 25 (v_0 25)) _ _ ls (cw_eq hw (by first | rfl | (funext j_; simp only [upV, reduceIte]; (repeat' split) <;> first | rfl | omega | (subst_vars; rfl)))) (Or.inl rfl) ⟨(v_0 25), rfl, Or.inl ⟨rfl, rfl, by first | exact Or.inl hn_ | exact Or.inr (by omega)⟩⟩ dX9_book_24
  | some xx1_ =>
    have te1_ := tt1_ xx1_ rfl
    have tr_ := te1_
    first | have hn_ := hh1_.1 rfl | have hs_ := hh1_.2 _ rfl
    refine j_astore_n E 6 rfl [(3, .ref xx1_), (0, .ref o), (1, .int (J v_l)), (2, .int (J v_w))] dX9_book_5 rfl hl (by decide) rfl (fun ls hl => ?_)
    refine j_aload_n E 7 rfl dX9_book_6 rfl (lv_at hl 0 rfl) ?_
    refine j_ifnullR E 10 rfl dX9_book_7 ?_
    refine j_iload_n E 11 rfl dX9_book_10 rfl (lv_at hl 3 rfl) ?_
    refine j_iconst E 12 rfl dX9_book_11 ?_
    refine j_icmp_eq E 15 25 rfl r_v_w (rr (by decide)) dX9_book_12 (by decide) (fun cc2_ => ?_) (fun cc2_ => ?_)
    · refine j_aload_n E 26 rfl dX9_book_25 rfl (lv_at hl 0 rfl) ?_
      refine j_iload_n E 27 rfl dX9_book_26 rfl (lv_at hl 3 rfl) ?_
      refine p_25 E hK hw fl_X9_299 te1_ r_v_w 30 rfl dX9_book_27 (fun H locs hw => ?_)
      have hw : WK D cy T (upV v_0 25 (upB (v_0 25) xx1_ v_w)) A0 H0 H locs := cw_eq hw (by first | rfl | (funext j_; simp only [upV, reduceIte]; (repeat' split) <;> first | rfl | omega | (subst_vars; rfl)))
      refine j_iconst E 31 rfl dX9_book_30 ?_
      exact hret 31 1 (upV v_0 25 (upB (v_0 25) xx1_ v_w)) _ _ ls hw (Or.inr rfl) ⟨(upB (v_0 25) xx1_ v_w), rfl, Or.inr ⟨rfl, ⟨hs_.1, hs_.2.1⟩, by omega, _, hs_.2.2, rfl⟩⟩ dX9_book_31
    · refine j_aload_n E 16 rfl dX9_book_15 rfl (lv_at hl 1 rfl) ?_
      refine j_iload_n E 17 rfl dX9_book_16 rfl (lv_at hl 3 rfl) ?_
      refine kV_i E (c_X9_isWording l D cy T (v_0) o v_w  t_o r_v_w ) mt_X9_isWording ml_X9_164 hK hw (cw_rc9 hK hw.1 t_o) hA ⟨Nat.le_of_ble_eq_true rfl, Nat.le_of_ble_eq_true rfl⟩ ⟨Nat.le_of_ble_eq_true rfl, Nat.le_of_ble_eq_true rfl⟩ (As := [.int (J v_w)]) (rest := []) rfl rfl hl.1 (Nat.le_of_ble_eq_true rfl) 20 rfl dX9_book_17 (fun zz4_ v_4 H locs rr4_ hq4_ hw => ?_)
      obtain ⟨ev4_, hh4_⟩ := hq4_
      rw [ev4_] at hw; clear ev4_
      replace hh4_ : (zz4_ = 1 ∧ 0 ≤ v_w ∧ v_w < ((v_0 202) (T 182 o))) ∨ (zz4_ = 0 ∧ (v_w < 0 ∨ ((v_0 202) (T 182 o)) ≤ v_w)) := hh4_
      refine j_if_ne E 23 25 rfl rr4_ dX9_book_20 (by decide) (fun cc5_ => ?_) (fun cc5_ => ?_)
      · refine j_aload_n E 26 rfl dX9_book_25 rfl (lv_at hl 0 rfl) ?_
        refine j_iload_n E 27 rfl dX9_book_26 rfl (lv_at hl 3 rfl) ?_
        refine p_25 E hK hw fl_X9_299 te1_ r_v_w 30 rfl dX9_book_27 (fun H locs hw => ?_)
        have hw : WK D cy T (upV v_0 25 (upB (v_0 25) xx1_ v_w)) A0 H0 H locs := cw_eq hw (by first | rfl | (funext j_; simp only [upV, reduceIte]; (repeat' split) <;> first | rfl | omega | (subst_vars; rfl)))
        refine j_iconst E 31 rfl dX9_book_30 ?_
        exact hret 31 1 (upV v_0 25 (upB (v_0 25) xx1_ v_w)) _ _ ls hw (Or.inr rfl) ⟨(upB (v_0 25) xx1_ v_w), rfl, Or.inr ⟨rfl, ⟨hs_.1, hs_.2.1⟩, by omega, _, hs_.2.2, rfl⟩⟩ dX9_book_31
      · refine j_iconst E 24 rfl dX9_book_23 ?_
        exact hret 24 0 (upV v_0 25 (v_0 25)) _ _ ls (cw_eq hw (by first | rfl | (funext j_; simp only [upV, reduceIte]; (repeat' split) <;> first | rfl | omega | (subst_vars; rfl)))) (Or.inl rfl) ⟨(v_0 25), rfl, Or.inl ⟨rfl, rfl, by first | exact Or.inl hn_ | exact Or.inr (by omega)⟩⟩ dX9_book_24
set_option maxHeartbeats 4000000 in
set_option maxRecDepth 100000 in
theorem c_X9_wrong (l : Launch) (D : va_G) (cy : Nat → ClassId) (T : Nat → Nat → Nat) (v_0 : Nat → Nat → Int) (o : Nat) (t_o : T 0 o = 9) (hp0 : 0 ≤ (v_0 187 o) ∧ (v_0 187 o) ≤ 199) : KC l D cy T yX9_wrong cX9_wrong 4 (some .int) 4 [.ref o] v_0 (KI (fun (z_0 : Int) (v_2 : Nat → Nat → Int) => v_2 = v_0 ∧ (True))) := by
  refine KC.ofi (by decide) (Nat.le_of_ble_eq_true rfl) ?_
  intro p e s m below meth c ls ar QW A0 H0 H locs E hK hA hw hl hret
  have hl : lv_has ls 4 [(0, .ref o)] := hl
  have hT : WT T := hw.1.2.1
  refine j_iconst E 1 rfl dX9_wrong_0 ?_
  refine j_istore_n E 2 rfl [(1, .int (J 0)), (0, .ref o)] dX9_wrong_1 rfl hl (by decide) rfl (fun ls hl => ?_)
  refine j_iconst E 3 rfl dX9_wrong_2 ?_
  refine j_istore_n E 4 rfl [(2, .int (J 0)), (1, .int (J 0)), (0, .ref o)] dX9_wrong_3 rfl hl (by decide) rfl (fun ls hl => ?_)
  have L4_1 : ∀ (k4 : Nat) (l1_4 l2_4 : Int) (H : Heap) (locs : List Loc) (ls : Array Slot), inR l1_4 → inR l2_4 → (0 ≤ l2_4) → ((v_0 202 (T 181 o)) - l2_4).toNat < k4 → WK D cy T (v_0) A0 H0 H locs → lv_has ls 4 [(0, .ref o), (1, .int (J l1_4)), (2, .int (J l2_4))] → W p l e (rmd 4 0 0) s m ar below meth c H locs 0 0 QW (F0 m 4 ls []) := by
    intro k4
    induction k4 with
    | zero =>
      intro l1_4 l2_4 H locs ls r_l1_4 r_l2_4 iv4 ms4 hw hl
      exact absurd ms4 (Nat.not_lt_zero _)
    | succ k4 ih4 =>
      intro l1_4 l2_4 H locs ls r_l1_4 r_l2_4 iv4 ms4 hw hl
      refine j_iload_n E 5 rfl dX9_wrong_4 rfl (lv_at hl 2 rfl) ?_
      refine j_aload_n E 6 rfl dX9_wrong_5 rfl (lv_at hl 0 rfl) ?_
      refine g_181 E hK hw fl_X9_16 t_o 9 rfl dX9_wrong_6 ?_
      refine kV_i E (c_Jx4a65c_size_8abf5 l D cy T (v_0) (T 181 o)  (wt_181 hT t_o)  ) mt_Jx4a65c_size_8abf5 ml_X9_80 hK hw (cw_rc10 hK hw.1 (wt_181 hT t_o)) hA ⟨Nat.le_of_ble_eq_true rfl, Nat.le_of_ble_eq_true rfl⟩ ⟨Nat.le_of_ble_eq_true rfl, Nat.le_of_ble_eq_true rfl⟩ (As := []) (rest := [.int (J l2_4)]) rfl rfl hl.1 (Nat.le_of_ble_eq_true rfl) 12 rfl dX9_wrong_9 (fun zz3_ v_3 H locs rr3_ hq3_ hw => ?_)
      obtain ⟨ev3_, hh3_⟩ := hq3_
      rw [ev3_] at hw; clear ev3_
      replace hh3_ : zz3_ = ((v_0 202) ((T 181 o))) ∧ 0 ≤ zz3_ := hh3_
      refine j_icmp_ge E 15 64 rfl r_l2_4 rr3_ dX9_wrong_12 (by decide) (fun cc4_ => ?_) (fun cc4_ => ?_)
      · refine j_iload_n E 65 rfl dX9_wrong_64 rfl (lv_at hl 1 rfl) ?_
        exact hret 65 l1_4 (v_0) _ _ ls hw r_l1_4 ⟨rfl, trivial⟩ dX9_wrong_65
      · refine j_aload_n E 16 rfl dX9_wrong_15 rfl (lv_at hl 0 rfl) ?_
        refine g_181 E hK hw fl_X9_16 t_o 19 rfl dX9_wrong_16 ?_
        refine j_iload_n E 20 rfl dX9_wrong_19 rfl (lv_at hl 2 rfl) ?_
        refine kV_n E (c_Jx4a65c_get_915e3 l D cy T (v_0) (T 181 o) l2_4  (wt_181 hT t_o) r_l2_4 (show 0 ≤ l2_4 ∧ l2_4 < ((v_0 202) ((T 181 o))) from by omega)) mt_Jx4a65c_get_915e3 ml_X9_123 hK hw (cw_rc10 hK hw.1 (wt_181 hT t_o)) hA ⟨Nat.le_of_ble_eq_true rfl, Nat.le_of_ble_eq_true rfl⟩ ⟨Nat.le_of_ble_eq_true rfl, Nat.le_of_ble_eq_true rfl⟩ (As := [.int (J l2_4)]) (rest := []) rfl rfl hl.1 (Nat.le_of_ble_eq_true rfl) 23 rfl dX9_wrong_20 (fun xx5_ v_5 H locs hq5_ hw => ?_)
        obtain ⟨ev5_, hh5_⟩ := hq5_
        rw [ev5_] at hw; clear ev5_
        replace hh5_ : dcd (T (1000 + (l2_4).toNat) (T 201 (T 181 o))) = some xx5_ ∧ T 0 xx5_ = T 2 (T 181 o) := hh5_
        have te5_ : T 0 xx5_ = 1 := hh5_.2.trans (we_181 hT t_o)
        have tg_ := te5_
        refine k_cast1 E hK hw cl_X9_167 te5_ 26 rfl dX9_wrong_23 ?_
        refine j_astore_n E 27 rfl [(3, .ref xx5_), (0, .ref o), (1, .int (J l1_4)), (2, .int (J l2_4))] dX9_wrong_26 rfl hl (by decide) rfl (fun ls hl => ?_)
        refine j_aload_n E 28 rfl dX9_wrong_27 rfl (lv_at hl 0 rfl) ?_
        refine g_25 E hK hw fl_X9_299 te5_ (v_0 25 xx5_) rfl 31 rfl dX9_wrong_28 (fun rr6_ => ?_)
        refine j_iconst E 32 rfl dX9_wrong_31 ?_
        refine j_icmp_eq E 35 58 rfl rr6_ (rr (by decide)) dX9_wrong_32 (by decide) (fun cc7_ => ?_) (fun cc7_ => ?_)
        · refine j_iinc E 61 rfl [(2, .int (J (l2_4 + 1))), (3, .ref xx5_), (0, .ref o), (1, .int (J l1_4))] dX9_wrong_58 hl (kk := 3) rfl (by decide) rfl (fun ls hl => ?_)
          refine j_goto E 4 dX9_wrong_61 (by decide) ?_
          exact ih4 l1_4 (l2_4 + 1)  H locs ls r_l1_4 (rr (by omega)) (by omega) (by omega) hw (lv_sub hl [2, 3, 0] rfl)
        · refine j_aload_n E 36 rfl dX9_wrong_35 rfl (lv_at hl 0 rfl) ?_
          refine g_25 E hK hw fl_X9_299 te5_ (v_0 25 xx5_) rfl 39 rfl dX9_wrong_36 (fun _ => ?_)
          refine j_aload_n E 40 rfl dX9_wrong_39 rfl (lv_at hl 0 rfl) ?_
          refine j_aload_n E 41 rfl dX9_wrong_40 rfl (lv_at hl 1 rfl) ?_
          refine g_187 E hK hw fl_X9_37 t_o (v_0 187 o) rfl 44 rfl dX9_wrong_41 (fun rr8_ => ?_)
          refine j_iconst E 45 rfl dX9_wrong_44 ?_
          refine j_isub E 46 rfl dX9_wrong_45 ?_
          refine kV_i E (c_X0_lawAt l D cy T (v_0) xx5_ ((v_0 187 o) - 1)  te5_ (rr (by omega)) (show ((v_0 187 o) - 1) < 200 from by omega)) mt_X0_lawAt ml_X9_289 hK hw (cw_rc1 hK hw.1 te5_) hA ⟨Nat.le_of_ble_eq_true rfl, Nat.le_of_ble_eq_true rfl⟩ ⟨Nat.le_of_ble_eq_true rfl, Nat.le_of_ble_eq_true rfl⟩ (As := [.int (J ((v_0 187 o) - 1))]) (rest := [.int (J (v_0 25 xx5_))]) rfl rfl hl.1 (Nat.le_of_ble_eq_true rfl) 49 rfl dX9_wrong_46 (fun zz9_ v_9 H locs rr9_ hq9_ hw => ?_)
          obtain ⟨ev9_, hh9_⟩ := hq9_
          rw [ev9_] at hw; clear ev9_
          replace hh9_ : Lw_ (((v_0 23) xx5_)) (gC_ (v_0 302) (T 26 xx5_)) ((v_0 187 o) - 1) zz9_ := hh9_
          refine j_icmp_eq E 52 58 rfl rr6_ rr9_ dX9_wrong_49 (by decide) (fun cc10_ => ?_) (fun cc10_ => ?_)
          · refine j_iinc E 61 rfl [(2, .int (J (l2_4 + 1))), (3, .ref xx5_), (0, .ref o), (1, .int (J l1_4))] dX9_wrong_58 hl (kk := 3) rfl (by decide) rfl (fun ls hl => ?_)
            refine j_goto E 4 dX9_wrong_61 (by decide) ?_
            exact ih4 l1_4 (l2_4 + 1)  H locs ls r_l1_4 (rr (by omega)) (by omega) (by omega) hw (lv_sub hl [2, 3, 0] rfl)
          · refine j_iload_n E 53 rfl dX9_wrong_52 rfl (lv_at hl 2 rfl) ?_
            refine j_iconst E 54 rfl dX9_wrong_53 ?_
            refine j_iload_n E 55 rfl dX9_wrong_54 rfl (lv_at hl 3 rfl) ?_
            refine j_ishl E 56 rfl dX9_wrong_55 (fun zz11_ rr11_ ee11_ => ?_)
            refine j_ior E 57 rfl dX9_wrong_56 (fun zz12_ rr12_ ee12_ => ?_)
            refine j_istore_n E 58 rfl [(1, .int (J zz12_)), (3, .ref xx5_), (0, .ref o), (2, .int (J l2_4))] dX9_wrong_57 rfl hl (by decide) rfl (fun ls hl => ?_)
            refine j_iinc E 61 rfl [(2, .int (J (l2_4 + 1))), (1, .int (J zz12_)), (3, .ref xx5_), (0, .ref o)] dX9_wrong_58 hl (kk := 3) rfl (by decide) rfl (fun ls hl => ?_)
            refine j_goto E 4 dX9_wrong_61 (by decide) ?_
            exact ih4 zz12_ (l2_4 + 1)  H locs ls rr12_ (rr (by omega)) (by omega) (by omega) hw (lv_sub hl [3, 1, 0] rfl)
  exact L4_1 _ 0 0  H locs ls (rr (by decide)) (rr (by decide)) (by omega) (Nat.lt_succ_self _) hw (lv_sub hl [2, 1, 0] rfl)
set_option maxHeartbeats 4000000 in
set_option maxRecDepth 100000 in
theorem c_X9_countBooked (l : Launch) (D : va_G) (cy : Nat → ClassId) (T : Nat → Nat → Nat) (v_0 : Nat → Nat → Int) (o : Nat) (t_o : T 0 o = 9) : KC l D cy T yX9_countBooked cX9_countBooked 3 (some .int) 4 [.ref o] v_0 (KI (fun (z_0 : Int) (v_2 : Nat → Nat → Int) => v_2 = v_0 ∧ (True))) := by
  refine KC.ofi (by decide) (Nat.le_of_ble_eq_true rfl) ?_
  intro p e s m below meth c ls ar QW A0 H0 H locs E hK hA hw hl hret
  have hl : lv_has ls 3 [(0, .ref o)] := hl
  have hT : WT T := hw.1.2.1
  refine j_iconst E 1 rfl dX9_countBooked_0 ?_
  refine j_istore_n E 2 rfl [(1, .int (J 0)), (0, .ref o)] dX9_countBooked_1 rfl hl (by decide) rfl (fun ls hl => ?_)
  refine j_iconst E 3 rfl dX9_countBooked_2 ?_
  refine j_istore_n E 4 rfl [(2, .int (J 0)), (1, .int (J 0)), (0, .ref o)] dX9_countBooked_3 rfl hl (by decide) rfl (fun ls hl => ?_)
  have L4_1 : ∀ (k4 : Nat) (l1_4 l2_4 : Int) (H : Heap) (locs : List Loc) (ls : Array Slot), inR l1_4 → inR l2_4 → (0 ≤ l2_4) → ((v_0 202 (T 181 o)) - l2_4).toNat < k4 → WK D cy T (v_0) A0 H0 H locs → lv_has ls 3 [(0, .ref o), (1, .int (J l1_4)), (2, .int (J l2_4))] → W p l e (rmd 4 0 0) s m ar below meth c H locs 0 0 QW (F0 m 4 ls []) := by
    intro k4
    induction k4 with
    | zero =>
      intro l1_4 l2_4 H locs ls r_l1_4 r_l2_4 iv4 ms4 hw hl
      exact absurd ms4 (Nat.not_lt_zero _)
    | succ k4 ih4 =>
      intro l1_4 l2_4 H locs ls r_l1_4 r_l2_4 iv4 ms4 hw hl
      refine j_iload_n E 5 rfl dX9_countBooked_4 rfl (lv_at hl 2 rfl) ?_
      refine j_aload_n E 6 rfl dX9_countBooked_5 rfl (lv_at hl 0 rfl) ?_
      refine g_181 E hK hw fl_X9_16 t_o 9 rfl dX9_countBooked_6 ?_
      refine kV_i E (c_Jx4a65c_size_8abf5 l D cy T (v_0) (T 181 o)  (wt_181 hT t_o)  ) mt_Jx4a65c_size_8abf5 ml_X9_80 hK hw (cw_rc10 hK hw.1 (wt_181 hT t_o)) hA ⟨Nat.le_of_ble_eq_true rfl, Nat.le_of_ble_eq_true rfl⟩ ⟨Nat.le_of_ble_eq_true rfl, Nat.le_of_ble_eq_true rfl⟩ (As := []) (rest := [.int (J l2_4)]) rfl rfl hl.1 (Nat.le_of_ble_eq_true rfl) 12 rfl dX9_countBooked_9 (fun zz3_ v_3 H locs rr3_ hq3_ hw => ?_)
      obtain ⟨ev3_, hh3_⟩ := hq3_
      rw [ev3_] at hw; clear ev3_
      replace hh3_ : zz3_ = ((v_0 202) ((T 181 o))) ∧ 0 ≤ zz3_ := hh3_
      refine j_icmp_ge E 15 47 rfl r_l2_4 rr3_ dX9_countBooked_12 (by decide) (fun cc4_ => ?_) (fun cc4_ => ?_)
      · refine j_iload_n E 48 rfl dX9_countBooked_47 rfl (lv_at hl 1 rfl) ?_
        exact hret 48 l1_4 (v_0) _ _ ls hw r_l1_4 ⟨rfl, trivial⟩ dX9_countBooked_48
      · refine j_iload_n E 16 rfl dX9_countBooked_15 rfl (lv_at hl 1 rfl) ?_
        refine j_aload_n E 17 rfl dX9_countBooked_16 rfl (lv_at hl 0 rfl) ?_
        refine g_181 E hK hw fl_X9_16 t_o 20 rfl dX9_countBooked_17 ?_
        refine j_iload_n E 21 rfl dX9_countBooked_20 rfl (lv_at hl 2 rfl) ?_
        refine kV_n E (c_Jx4a65c_get_915e3 l D cy T (v_0) (T 181 o) l2_4  (wt_181 hT t_o) r_l2_4 (show 0 ≤ l2_4 ∧ l2_4 < ((v_0 202) ((T 181 o))) from by omega)) mt_Jx4a65c_get_915e3 ml_X9_123 hK hw (cw_rc10 hK hw.1 (wt_181 hT t_o)) hA ⟨Nat.le_of_ble_eq_true rfl, Nat.le_of_ble_eq_true rfl⟩ ⟨Nat.le_of_ble_eq_true rfl, Nat.le_of_ble_eq_true rfl⟩ (As := [.int (J l2_4)]) (rest := [.int (J l1_4)]) rfl rfl hl.1 (Nat.le_of_ble_eq_true rfl) 24 rfl dX9_countBooked_21 (fun xx5_ v_5 H locs hq5_ hw => ?_)
        obtain ⟨ev5_, hh5_⟩ := hq5_
        rw [ev5_] at hw; clear ev5_
        replace hh5_ : dcd (T (1000 + (l2_4).toNat) (T 201 (T 181 o))) = some xx5_ ∧ T 0 xx5_ = T 2 (T 181 o) := hh5_
        have te5_ : T 0 xx5_ = 1 := hh5_.2.trans (we_181 hT t_o)
        have tg_ := te5_
        refine k_cast1 E hK hw cl_X9_167 te5_ 27 rfl dX9_countBooked_24 ?_
        refine g_25 E hK hw fl_X9_299 te5_ (v_0 25 xx5_) rfl 30 rfl dX9_countBooked_27 (fun rr6_ => ?_)
        refine j_iconst E 31 rfl dX9_countBooked_30 ?_
        refine j_icmp_eq E 34 38 rfl rr6_ (rr (by decide)) dX9_countBooked_31 (by decide) (fun cc7_ => ?_) (fun cc7_ => ?_)
        · refine j_iconst E 39 rfl dX9_countBooked_38 ?_
          refine j_iadd E 40 rfl dX9_countBooked_39 ?_
          refine j_norm (fun zz8_ rr8_ ee8_ => ?_)
          refine j_istore_n E 41 rfl [(1, .int (J zz8_)), (0, .ref o), (2, .int (J l2_4))] dX9_countBooked_40 rfl hl (by decide) rfl (fun ls hl => ?_)
          refine j_iinc E 44 rfl [(2, .int (J (l2_4 + 1))), (1, .int (J zz8_)), (0, .ref o)] dX9_countBooked_41 hl (kk := 2) rfl (by decide) rfl (fun ls hl => ?_)
          refine j_goto E 4 dX9_countBooked_44 (by decide) ?_
          exact ih4 zz8_ (l2_4 + 1)  H locs ls rr8_ (rr (by omega)) (by omega) (by omega) hw (lv_sub hl [2, 1, 0] rfl)
        · refine j_iconst E 35 rfl dX9_countBooked_34 ?_
          refine j_goto E 39 dX9_countBooked_35 (by decide) ?_
          refine j_iadd E 40 rfl dX9_countBooked_39 ?_
          refine j_norm (fun zz9_ rr9_ ee9_ => ?_)
          refine j_istore_n E 41 rfl [(1, .int (J zz9_)), (0, .ref o), (2, .int (J l2_4))] dX9_countBooked_40 rfl hl (by decide) rfl (fun ls hl => ?_)
          refine j_iinc E 44 rfl [(2, .int (J (l2_4 + 1))), (1, .int (J zz9_)), (0, .ref o)] dX9_countBooked_41 hl (kk := 2) rfl (by decide) rfl (fun ls hl => ?_)
          refine j_goto E 4 dX9_countBooked_44 (by decide) ?_
          exact ih4 zz9_ (l2_4 + 1)  H locs ls rr9_ (rr (by omega)) (by omega) (by omega) hw (lv_sub hl [2, 1, 0] rfl)
  exact L4_1 _ 0 0  H locs ls (rr (by decide)) (rr (by decide)) (by omega) (Nat.lt_succ_self _) hw (lv_sub hl [2, 1, 0] rfl)
set_option maxHeartbeats 4000000 in
set_option maxRecDepth 100000 in
theorem c_X9_look (l : Launch) (D : va_G) (cy : Nat → ClassId) (T : Nat → Nat → Nat) (v_0 : Nat → Nat → Int) (o : Nat) (v_w : Int) (t_o : T 0 o = 9) (r_v_w : inR v_w) : KC l D cy T yX9_look cX9_look 2 (some .int) 8 [.ref o, .int (J v_w)] v_0 (KI (fun (z_0 : Int) (v_2 : Nat → Nat → Int) => v_2 = v_0 ∧ (True))) := by
  refine KC.ofi (by decide) (Nat.le_of_ble_eq_true rfl) ?_
  intro p e s m below meth c ls ar QW A0 H0 H locs E hK hA hw hl hret
  have hl : lv_has ls 2 [(0, .ref o), (1, .int (J v_w))] := hl
  have hT : WT T := hw.1.2.1
  refine j_iload_n E 1 rfl dX9_look_0 rfl (lv_at hl 1 rfl) ?_
  by_cases tb1_0 : v_w = 0
  · refine j_tabIn E 60 r_v_w 0 dX9_look_1 (by omega) rfl (by decide) ?_
    refine j_aload_n E 61 rfl dX9_look_60 rfl (lv_at hl 0 rfl) ?_
    refine g_187 E hK hw fl_X9_37 t_o (v_0 187 o) rfl 64 rfl dX9_look_61 (fun rr2_ => ?_)
    exact hret 64 (v_0 187 o) (v_0) _ _ ls hw rr2_ ⟨rfl, trivial⟩ dX9_look_64
  by_cases tb1_1 : v_w = 1
  · refine j_tabIn E 65 r_v_w 1 dX9_look_1 (by omega) rfl (by decide) ?_
    refine j_aload_n E 66 rfl dX9_look_65 rfl (lv_at hl 0 rfl) ?_
    refine g_180 E hK hw fl_X9_12 t_o 69 rfl dX9_look_66 ?_
    refine kV_i E (c_Jx4a65c_size_8abf5 l D cy T (v_0) (T 180 o)  (wt_180 hT t_o)  ) mt_Jx4a65c_size_8abf5 ml_X9_80 hK hw (cw_rc10 hK hw.1 (wt_180 hT t_o)) hA ⟨Nat.le_of_ble_eq_true rfl, Nat.le_of_ble_eq_true rfl⟩ ⟨Nat.le_of_ble_eq_true rfl, Nat.le_of_ble_eq_true rfl⟩ (As := []) (rest := []) rfl rfl hl.1 (Nat.le_of_ble_eq_true rfl) 72 rfl dX9_look_69 (fun zz3_ v_3 H locs rr3_ hq3_ hw => ?_)
    obtain ⟨ev3_, hh3_⟩ := hq3_
    rw [ev3_] at hw; clear ev3_
    replace hh3_ : zz3_ = ((v_0 202) ((T 180 o))) ∧ 0 ≤ zz3_ := hh3_
    exact hret 72 zz3_ (v_0) _ _ ls hw rr3_ ⟨rfl, trivial⟩ dX9_look_72
  by_cases tb1_2 : v_w = 2
  · refine j_tabIn E 73 r_v_w 2 dX9_look_1 (by omega) rfl (by decide) ?_
    refine j_aload_n E 74 rfl dX9_look_73 rfl (lv_at hl 0 rfl) ?_
    refine kV_i E (c_X9_countLiving l D cy T (v_0) o  t_o  ) mt_X9_countLiving ml_X9_402 hK hw (cw_rc9 hK hw.1 t_o) hA ⟨Nat.le_of_ble_eq_true rfl, Nat.le_of_ble_eq_true rfl⟩ ⟨Nat.le_of_ble_eq_true rfl, Nat.le_of_ble_eq_true rfl⟩ (As := []) (rest := []) rfl rfl hl.1 (Nat.le_of_ble_eq_true rfl) 77 rfl dX9_look_74 (fun zz4_ v_4 H locs rr4_ hq4_ hw => ?_)
    obtain ⟨ev4_, hh4_⟩ := hq4_
    rw [ev4_] at hw; clear ev4_
    exact hret 77 zz4_ (v_0) _ _ ls hw rr4_ ⟨rfl, trivial⟩ dX9_look_77
  by_cases tb1_3 : v_w = 3
  · refine j_tabIn E 78 r_v_w 3 dX9_look_1 (by omega) rfl (by decide) ?_
    refine j_aload_n E 79 rfl dX9_look_78 rfl (lv_at hl 0 rfl) ?_
    refine g_181 E hK hw fl_X9_16 t_o 82 rfl dX9_look_79 ?_
    refine kV_i E (c_Jx4a65c_size_8abf5 l D cy T (v_0) (T 181 o)  (wt_181 hT t_o)  ) mt_Jx4a65c_size_8abf5 ml_X9_80 hK hw (cw_rc10 hK hw.1 (wt_181 hT t_o)) hA ⟨Nat.le_of_ble_eq_true rfl, Nat.le_of_ble_eq_true rfl⟩ ⟨Nat.le_of_ble_eq_true rfl, Nat.le_of_ble_eq_true rfl⟩ (As := []) (rest := []) rfl rfl hl.1 (Nat.le_of_ble_eq_true rfl) 85 rfl dX9_look_82 (fun zz5_ v_5 H locs rr5_ hq5_ hw => ?_)
    obtain ⟨ev5_, hh5_⟩ := hq5_
    rw [ev5_] at hw; clear ev5_
    replace hh5_ : zz5_ = ((v_0 202) ((T 181 o))) ∧ 0 ≤ zz5_ := hh5_
    exact hret 85 zz5_ (v_0) _ _ ls hw rr5_ ⟨rfl, trivial⟩ dX9_look_85
  by_cases tb1_4 : v_w = 4
  · refine j_tabIn E 86 r_v_w 4 dX9_look_1 (by omega) rfl (by decide) ?_
    refine j_aload_n E 87 rfl dX9_look_86 rfl (lv_at hl 0 rfl) ?_
    refine kV_i E (c_X9_countDead l D cy T (v_0) o  t_o  ) mt_X9_countDead ml_X9_405 hK hw (cw_rc9 hK hw.1 t_o) hA ⟨Nat.le_of_ble_eq_true rfl, Nat.le_of_ble_eq_true rfl⟩ ⟨Nat.le_of_ble_eq_true rfl, Nat.le_of_ble_eq_true rfl⟩ (As := []) (rest := []) rfl rfl hl.1 (Nat.le_of_ble_eq_true rfl) 90 rfl dX9_look_87 (fun zz6_ v_6 H locs rr6_ hq6_ hw => ?_)
    obtain ⟨ev6_, hh6_⟩ := hq6_
    rw [ev6_] at hw; clear ev6_
    exact hret 90 zz6_ (v_0) _ _ ls hw rr6_ ⟨rfl, trivial⟩ dX9_look_90
  by_cases tb1_5 : v_w = 5
  · refine j_tabIn E 91 r_v_w 5 dX9_look_1 (by omega) rfl (by decide) ?_
    refine j_aload_n E 92 rfl dX9_look_91 rfl (lv_at hl 0 rfl) ?_
    refine g_182 E hK hw fl_X9_19 t_o 95 rfl dX9_look_92 ?_
    refine kV_i E (c_Jx4a65c_size_8abf5 l D cy T (v_0) (T 182 o)  (wt_182 hT t_o)  ) mt_Jx4a65c_size_8abf5 ml_X9_80 hK hw (cw_rc10 hK hw.1 (wt_182 hT t_o)) hA ⟨Nat.le_of_ble_eq_true rfl, Nat.le_of_ble_eq_true rfl⟩ ⟨Nat.le_of_ble_eq_true rfl, Nat.le_of_ble_eq_true rfl⟩ (As := []) (rest := []) rfl rfl hl.1 (Nat.le_of_ble_eq_true rfl) 98 rfl dX9_look_95 (fun zz7_ v_7 H locs rr7_ hq7_ hw => ?_)
    obtain ⟨ev7_, hh7_⟩ := hq7_
    rw [ev7_] at hw; clear ev7_
    replace hh7_ : zz7_ = ((v_0 202) ((T 182 o))) ∧ 0 ≤ zz7_ := hh7_
    exact hret 98 zz7_ (v_0) _ _ ls hw rr7_ ⟨rfl, trivial⟩ dX9_look_98
  by_cases tb1_6 : v_w = 6
  · refine j_tabIn E 99 r_v_w 6 dX9_look_1 (by omega) rfl (by decide) ?_
    refine j_aload_n E 100 rfl dX9_look_99 rfl (lv_at hl 0 rfl) ?_
    refine g_183 E hK hw fl_X9_22 t_o 103 rfl dX9_look_100 ?_
    refine kV_i E (c_Jx4a65c_size_8abf5 l D cy T (v_0) (T 183 o)  (wt_183 hT t_o)  ) mt_Jx4a65c_size_8abf5 ml_X9_80 hK hw (cw_rc10 hK hw.1 (wt_183 hT t_o)) hA ⟨Nat.le_of_ble_eq_true rfl, Nat.le_of_ble_eq_true rfl⟩ ⟨Nat.le_of_ble_eq_true rfl, Nat.le_of_ble_eq_true rfl⟩ (As := []) (rest := []) rfl rfl hl.1 (Nat.le_of_ble_eq_true rfl) 106 rfl dX9_look_103 (fun zz8_ v_8 H locs rr8_ hq8_ hw => ?_)
    obtain ⟨ev8_, hh8_⟩ := hq8_
    rw [ev8_] at hw; clear ev8_
    replace hh8_ : zz8_ = ((v_0 202) ((T 183 o))) ∧ 0 ≤ zz8_ := hh8_
    exact hret 106 zz8_ (v_0) _ _ ls hw rr8_ ⟨rfl, trivial⟩ dX9_look_106
  by_cases tb1_7 : v_w = 7
  · refine j_tabIn E 107 r_v_w 7 dX9_look_1 (by omega) rfl (by decide) ?_
    refine j_aload_n E 108 rfl dX9_look_107 rfl (lv_at hl 0 rfl) ?_
    refine g_188 E hK hw fl_X9_40 t_o (v_0 188 o) rfl 111 rfl dX9_look_108 (fun rr9_ => ?_)
    exact hret 111 (v_0 188 o) (v_0) _ _ ls hw rr9_ ⟨rfl, trivial⟩ dX9_look_111
  by_cases tb1_8 : v_w = 8
  · refine j_tabIn E 112 r_v_w 8 dX9_look_1 (by omega) rfl (by decide) ?_
    refine j_aload_n E 113 rfl dX9_look_112 rfl (lv_at hl 0 rfl) ?_
    refine g_189 E hK hw fl_X9_43 t_o (v_0 189 o) rfl 116 rfl dX9_look_113 (fun rr10_ => ?_)
    exact hret 116 (v_0 189 o) (v_0) _ _ ls hw rr10_ ⟨rfl, trivial⟩ dX9_look_116
  by_cases tb1_9 : v_w = 9
  · refine j_tabIn E 117 r_v_w 9 dX9_look_1 (by omega) rfl (by decide) ?_
    refine j_aload_n E 118 rfl dX9_look_117 rfl (lv_at hl 0 rfl) ?_
    refine kV_i E (c_X9_countOutlaws l D cy T (v_0) o  t_o  ) mt_X9_countOutlaws ml_X9_408 hK hw (cw_rc9 hK hw.1 t_o) hA ⟨Nat.le_of_ble_eq_true rfl, Nat.le_of_ble_eq_true rfl⟩ ⟨Nat.le_of_ble_eq_true rfl, Nat.le_of_ble_eq_true rfl⟩ (As := []) (rest := []) rfl rfl hl.1 (Nat.le_of_ble_eq_true rfl) 121 rfl dX9_look_118 (fun zz11_ v_11 H locs rr11_ hq11_ hw => ?_)
    obtain ⟨ev11_, hh11_⟩ := hq11_
    rw [ev11_] at hw; clear ev11_
    exact hret 121 zz11_ (v_0) _ _ ls hw rr11_ ⟨rfl, trivial⟩ dX9_look_121
  by_cases tb1_10 : v_w = 10
  · refine j_tabIn E 122 r_v_w 10 dX9_look_1 (by omega) rfl (by decide) ?_
    refine j_aload_n E 123 rfl dX9_look_122 rfl (lv_at hl 0 rfl) ?_
    refine kV_i E (c_X9_countBooked l D cy T (v_0) o  t_o  ) mt_X9_countBooked ml_X9_411 hK hw (cw_rc9 hK hw.1 t_o) hA ⟨Nat.le_of_ble_eq_true rfl, Nat.le_of_ble_eq_true rfl⟩ ⟨Nat.le_of_ble_eq_true rfl, Nat.le_of_ble_eq_true rfl⟩ (As := []) (rest := []) rfl rfl hl.1 (Nat.le_of_ble_eq_true rfl) 126 rfl dX9_look_123 (fun zz12_ v_12 H locs rr12_ hq12_ hw => ?_)
    obtain ⟨ev12_, hh12_⟩ := hq12_
    rw [ev12_] at hw; clear ev12_
    exact hret 126 zz12_ (v_0) _ _ ls hw rr12_ ⟨rfl, trivial⟩ dX9_look_126
  refine j_tabOut E 127 r_v_w dX9_look_1 (by omega) (by decide) ?_
  refine j_bipush E 129 rfl dX9_look_127 (by decide) ?_
  exact hret 129 ((-2)) (v_0) _ _ ls hw (rr (by decide)) ⟨rfl, trivial⟩ dX9_look_129
