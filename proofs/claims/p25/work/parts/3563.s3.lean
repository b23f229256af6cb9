theorem ls_ne {T : Nat → Nat → Nat} (h : WT T) {o : Nat} (ho : T 0 o = 9) : T 180 o ≠ T 181 o ∧ T 180 o ≠ T 182 o ∧ T 180 o ≠ T 183 o ∧ T 181 o ≠ T 180 o ∧ T 181 o ≠ T 182 o ∧ T 181 o ≠ T 183 o ∧ T 182 o ≠ T 180 o ∧ T 182 o ≠ T 181 o ∧ T 182 o ≠ T 183 o ∧ T 183 o ≠ T 180 o ∧ T 183 o ≠ T 181 o ∧ T 183 o ≠ T 182 o := ⟨fun e => (by have q1 := we_180 h ho; have q2 := we_181 h ho; rw [e, q2] at q1; cases q1), fun e => (by have q1 := we_180 h ho; have q2 := we_182 h ho; rw [e, q2] at q1; cases q1), fun e => (by have q1 := we_180 h ho; have q2 := we_183 h ho; rw [e, q2] at q1; cases q1), fun e => (by have q1 := we_181 h ho; have q2 := we_180 h ho; rw [e, q2] at q1; cases q1), fun e => (by have q1 := we_181 h ho; have q2 := we_182 h ho; rw [e, q2] at q1; cases q1), fun e => (by have q1 := we_181 h ho; have q2 := we_183 h ho; rw [e, q2] at q1; cases q1), fun e => (by have q1 := we_182 h ho; have q2 := we_180 h ho; rw [e, q2] at q1; cases q1), fun e => (by have q1 := we_182 h ho; have q2 := we_181 h ho; rw [e, q2] at q1; cases q1), fun e => (by have q1 := we_182 h ho; have q2 := we_183 h ho; rw [e, q2] at q1; cases q1), fun e => (by have q1 := we_183 h ho; have q2 := we_180 h ho; rw [e, q2] at q1; cases q1), fun e => (by have q1 := we_183 h ho; have q2 := we_181 h ho; rw [e, q2] at q1; cases q1), fun e => (by have q1 := we_183 h ho; have q2 := we_182 h ho; rw [e, q2] at q1; cases q1)⟩
set_option maxHeartbeats 4000000 in
set_option maxRecDepth 100000 in
theorem n_X9_person_n2 (l : Launch) (D : va_G) (cy : Nat → ClassId) (κ T : Nat → Nat → Nat) (v_0 : Nat → Nat → Int) (o : Nat) (v_q : Int) (v_f : Int) (v_b : Int) (sz : Nat) (hO : ∀ x, ow T x → κ 2 2 ≤ x) (t_o : T 0 o = 9) (r_v_q : inR v_q) (r_v_f : inR v_f) (r_v_b : inR v_b) (hp0 : ∀ x, T 0 x = 26 → x = κ 2 0) : KA l D cy κ T yX9_person cX9_person 5 (some .int) 8 5 500 [.ref o, .int (J v_q), .int (J v_f), .int (J v_b)] v_0 sz (AI (fun (z_0 : Int) (T_2 : Nat → Nat → Nat) (v_2 : Nat → Nat → Int) => T_2 0 o = 9 ∧ (T_2 180 o = T 180 o ∧ T_2 181 o = T 181 o ∧ T_2 182 o = T 182 o ∧ T_2 183 o = T 183 o) ∧ v_2 186 o = v_0 186 o ∧ v_2 187 o = v_0 187 o ∧ v_2 202 (T 181 o) = v_0 202 (T 181 o) ∧ v_2 202 (T 182 o) = v_0 202 (T 182 o) ∧ v_2 202 (T 183 o) = v_0 202 (T 183 o) ∧ ((z_0 = -1 ∧ (v_q < 0 ∨ 3 < v_q ∨ v_f < 0 ∨ 7 < v_f ∨ v_b < -90 ∨ v_0 187 o < v_b ∨ 24 ≤ v_0 202 (T 180 o)) ∧ v_2 202 (T 180 o) = v_0 202 (T 180 o)) ∨ (z_0 = v_0 202 (T 180 o) ∧ (0 ≤ v_q ∧ v_q ≤ 3 ∧ 0 ≤ v_f ∧ v_f ≤ 7 ∧ -90 ≤ v_b ∧ v_b ≤ v_0 187 o ∧ v_0 202 (T 180 o) < 24) ∧ v_2 202 (T 180 o) = v_0 202 (T 180 o) + 1)))) := by
  refine KA.ofi (by decide) (Nat.le_of_ble_eq_true rfl) hO ?_
  intro p e s m below meth c ls ar QW A0 H locs E hK hZ hA hAc hsz hnm hw hlo_ hl hret
  have hl : lv_has ls 5 [(0, .ref o), (1, .int (J v_q)), (2, .int (J v_f)), (3, .int (J v_b))] := hl
  have hT : WT T := hw.1.2.1
  have hoT_ : OW T T s.heap.size := OW.rf T _
  have L24_1 : ∀ (s0_24 : Int) (H : Heap) (locs : List Loc) (ls : Array Slot), inR s0_24 → ((s0_24 = 0 ∧ (v_q < 0 ∨ 4 ≤ v_q ∨ v_f < 0 ∨ 8 ≤ v_f)) ∨ (s0_24 = 1 ∧ 0 ≤ v_q ∧ v_q < 4 ∧ 0 ≤ v_f ∧ v_f < 8)) → WK D cy T (v_0) A0 s.heap H locs → lv_has ls 5 [(0, .ref o), (1, .int (J v_q)), (2, .int (J v_f)), (3, .int (J v_b))] → W p l e (rmd 8 5 500) s m ar below meth c H locs 0 0 QW (F0 m 24 ls [.int (J s0_24)]) := by
    intro s0_24 H locs ls r_s0_24 iv24 hw hl
    refine j_istore E 26 rfl [(4, .int (J s0_24)), (0, .ref o), (1, .int (J v_q)), (2, .int (J v_f)), (3, .int (J v_b))] dX9_person_24 hl (by decide) rfl (fun ls hl => ?_)
    refine j_iload E 28 rfl dX9_person_26 (lv_at hl 0 rfl) ?_
    refine j_if_eq E 31 57 rfl r_s0_24 dX9_person_28 (by decide) (fun cc3_ => ?_) (fun cc3_ => ?_)
    · refine j_iconst E 58 rfl dX9_person_57 ?_
      exact hret 58 ((-1)) T _ _ _ ls _ _ hw hoT_ (rr (by decide)) (⟨t_o, ⟨rfl, rfl, rfl, rfl⟩, rfl, rfl, rfl, rfl, rfl, Or.inl ⟨rfl, by omega, rfl⟩⟩) (Nat.le_of_ble_eq_true rfl) (Nat.le_of_ble_eq_true rfl) dX9_person_58
    · refine j_iload_n E 32 rfl dX9_person_31 rfl (lv_at hl 4 rfl) ?_
      refine j_bipush E 34 rfl dX9_person_32 (by decide) ?_
      refine j_icmp_lt E 37 57 rfl r_v_b (rr (by decide)) dX9_person_34 (by decide) (fun cc4_ => ?_) (fun cc4_ => ?_)
      · refine j_iconst E 58 rfl dX9_person_57 ?_
        exact hret 58 ((-1)) T _ _ _ ls _ _ hw hoT_ (rr (by decide)) (⟨t_o, ⟨rfl, rfl, rfl, rfl⟩, rfl, rfl, rfl, rfl, rfl, Or.inl ⟨rfl, by omega, rfl⟩⟩) (Nat.le_of_ble_eq_true rfl) (Nat.le_of_ble_eq_true rfl) dX9_person_58
      · refine j_iload_n E 38 rfl dX9_person_37 rfl (lv_at hl 4 rfl) ?_
        refine j_aload_n E 39 rfl dX9_person_38 rfl (lv_at hl 1 rfl) ?_
        refine g_187 E hK hw fl_X9_37 t_o (v_0 187 o) rfl 42 rfl dX9_person_39 (fun rr5_ => ?_)
        refine j_icmp_gt E 45 57 rfl r_v_b rr5_ dX9_person_42 (by decide) (fun cc6_ => ?_) (fun cc6_ => ?_)
        · refine j_iconst E 58 rfl dX9_person_57 ?_
          exact hret 58 ((-1)) T _ _ _ ls _ _ hw hoT_ (rr (by decide)) (⟨t_o, ⟨rfl, rfl, rfl, rfl⟩, rfl, rfl, rfl, rfl, rfl, Or.inl ⟨rfl, by omega, rfl⟩⟩) (Nat.le_of_ble_eq_true rfl) (Nat.le_of_ble_eq_true rfl) dX9_person_58
        · refine j_aload_n E 46 rfl dX9_person_45 rfl (lv_at hl 1 rfl) ?_
          refine g_180 E hK hw fl_X9_12 t_o 49 rfl dX9_person_46 ?_
          refine kV_i E (c_Jx4a65c_size_8abf5 l D cy T (v_0) (T 180 o)  (wt_180 hT t_o)  ) mt_Jx4a65c_size_8abf5 ml_X9_80 hK hw (cw_rc10 hK hw.1 (wt_180 hT t_o)) hA ⟨Nat.le_of_ble_eq_true rfl, Nat.le_of_ble_eq_true rfl⟩ ⟨Nat.le_of_ble_eq_true rfl, Nat.le_of_ble_eq_true rfl⟩ (As := []) (rest := []) rfl rfl hl.1 (Nat.le_of_ble_eq_true rfl) 52 rfl dX9_person_49 (fun zz7_ v_7 H locs rr7_ hq7_ hw => ?_)
          obtain ⟨ev7_, hh7_⟩ := hq7_
          rw [ev7_] at hw; clear ev7_
          have hh7_ : zz7_ = ((v_0 202) ((T 180 o))) ∧ 0 ≤ zz7_ := hh7_
          refine j_bipush E 54 rfl dX9_person_52 (by decide) ?_
          refine j_icmp_lt E 57 59 rfl rr7_ (rr (by decide)) dX9_person_54 (by decide) (fun cc8_ => ?_) (fun cc8_ => ?_)
          · refine j_aload_n E 60 rfl dX9_person_59 rfl (lv_at hl 1 rfl) ?_
            refine g_180 E hK hw fl_X9_12 t_o 63 rfl dX9_person_60 ?_
            have hw0_ := hw
            refine n_obj2 E hK hw hA cl_X9_84 (Nat.le_of_ble_eq_true rfl) (Nat.le_of_ble_eq_true rfl) 66 rfl dX9_person_63 (fun q9_ T9_ H hge9_ hx9_ ho9_ tq9_ hw => ?_)
            have fq9_ : s.heap.size ≤ q9_ := Nat.le_trans hw0_.2.2.1 hge9_
            have hw : WK D cy T9_ (upV (upV (upV (upV (upV (upV v_0 40 (upB (v_0 40) q9_ 0)) 41 (upB (v_0 41) q9_ 0)) 42 (upB (v_0 42) q9_ 0)) 43 (upB (v_0 43) q9_ 0)) 44 (upB (v_0 44) q9_ 0)) 45 (upB (v_0 45) q9_ 0)) A0 s.heap H locs := hw
            have hT9_ : WT T9_ := hw.1.2.1
            have hO9_ : ∀ x, ow T9_ x → κ 2 2 ≤ x := fun x h => hAc x (hw.2.1 x h)
            have hoT_ : OW T T9_ s.heap.size := OW.tr hw0_.2.2.1 hoT_ ho9_
            have u10_ : T9_ 0 o = 9 := (hx9_ o (Nat.ne_of_lt (Nat.lt_of_lt_of_le (cw_lt hw0_.1 t_o (fun _ _ _ => ⟨_, rfl⟩)) hge9_)) 0).trans t_o
            have u11_ : T9_ 0 (T 180 o) = 10 := (hx9_ (T 180 o) (Nat.ne_of_lt (Nat.lt_of_lt_of_le (cw_lt hw0_.1 (wt_180 hT t_o) (fun _ _ _ => ⟨_, rfl⟩)) hge9_)) 0).trans (wt_180 hT t_o)
            have u12_ : T9_ 2 (T 180 o) = 2 := (hx9_ (T 180 o) (Nat.ne_of_lt (Nat.lt_of_lt_of_le (cw_lt hw0_.1 (wt_180 hT t_o) (fun _ _ _ => ⟨_, rfl⟩)) hge9_)) 2).trans (we_180 hT t_o)
            have u13_ : T9_ 180 o = T 180 o := (hx9_ o (Nat.ne_of_lt (Nat.lt_of_lt_of_le (cw_lt hw0_.1 t_o (fun _ _ _ => ⟨_, rfl⟩)) hge9_)) 180).trans rfl
            have u14_ : T9_ 181 o = T 181 o := (hx9_ o (Nat.ne_of_lt (Nat.lt_of_lt_of_le (cw_lt hw0_.1 t_o (fun _ _ _ => ⟨_, rfl⟩)) hge9_)) 181).trans rfl
            have u15_ : T9_ 182 o = T 182 o := (hx9_ o (Nat.ne_of_lt (Nat.lt_of_lt_of_le (cw_lt hw0_.1 t_o (fun _ _ _ => ⟨_, rfl⟩)) hge9_)) 182).trans rfl
            have u16_ : T9_ 183 o = T 183 o := (hx9_ o (Nat.ne_of_lt (Nat.lt_of_lt_of_le (cw_lt hw0_.1 t_o (fun _ _ _ => ⟨_, rfl⟩)) hge9_)) 183).trans rfl
            refine j_dup E 67 rfl dX9_person_66 rfl ?_
            refine j_iload_n E 68 rfl dX9_person_67 rfl (lv_at hl 2 rfl) ?_
            refine j_iload_n E 69 rfl dX9_person_68 rfl (lv_at hl 3 rfl) ?_
            refine j_iload_n E 70 rfl dX9_person_69 rfl (lv_at hl 4 rfl) ?_
            have hw0_ := hw
            refine aI_v E (n_X1_init l D cy κ T9_ (upV (upV (upV (upV (upV (upV v_0 40 (upB (v_0 40) q9_ 0)) 41 (upB (v_0 41) q9_ 0)) 42 (upB (v_0 42) q9_ 0)) 43 (upB (v_0 43) q9_ 0)) 44 (upB (v_0 44) q9_ 0)) 45 (upB (v_0 45) q9_ 0)) q9_ v_q v_f v_b H.size  hO9_ tq9_ r_v_q r_v_f r_v_b ) mi_X1_init ml_X9_86 hK hZ hAc hw hA ⟨(Nat.le_of_ble_eq_true rfl), (Nat.le_of_ble_eq_true rfl)⟩ ⟨(Nat.le_of_ble_eq_true rfl), (Nat.le_of_ble_eq_true rfl)⟩ (As := [.int (J v_q), .int (J v_f), .int (J v_b)]) (rest := [.ref q9_, .ref (T 180 o)]) rfl rfl hl.1 (Nat.le_of_ble_eq_true rfl) 73 rfl dX9_person_70 (fun T17_ v_17 H locs hge17_ ho17_ hq17_ hw => ?_)
            obtain ⟨y40_17, y41_17, y42_17, y43_17, y44_17, y45_17, ev17_, hh17_⟩ := hq17_
            rw [ev17_] at hw; clear ev17_
            obtain ⟨hx17_, tq17_⟩ := hh17_
            have hT17_ : WT T17_ := hw.1.2.1
            have hO17_ : ∀ x, ow T17_ x → κ 2 2 ≤ x := fun x h => hAc x (hw.2.1 x h)
            have hoT_ : OW T T17_ s.heap.size := OW.tr hw0_.2.2.1 hoT_ ho17_
            have u18_ : T17_ 0 o = 9 := (hx17_ o (cw_lt hw0_.1 u10_ (fun _ _ _ => ⟨_, rfl⟩)) (ty_ne u10_ tq9_ (by decide)) 0).trans u10_
            have u19_ : T17_ 0 (T 180 o) = 10 := (hx17_ (T 180 o) (cw_lt hw0_.1 u11_ (fun _ _ _ => ⟨_, rfl⟩)) (ty_ne u11_ tq9_ (by decide)) 0).trans u11_
            have u20_ : T17_ 2 (T 180 o) = 2 := (hx17_ (T 180 o) (cw_lt hw0_.1 u11_ (fun _ _ _ => ⟨_, rfl⟩)) (ty_ne u11_ tq9_ (by decide)) 2).trans u12_
            have u21_ : T17_ 180 o = T 180 o := (hx17_ o (cw_lt hw0_.1 u10_ (fun _ _ _ => ⟨_, rfl⟩)) (ty_ne u10_ tq9_ (by decide)) 180).trans u13_
            have u22_ : T17_ 181 o = T 181 o := (hx17_ o (cw_lt hw0_.1 u10_ (fun _ _ _ => ⟨_, rfl⟩)) (ty_ne u10_ tq9_ (by decide)) 181).trans u14_
            have u23_ : T17_ 182 o = T 182 o := (hx17_ o (cw_lt hw0_.1 u10_ (fun _ _ _ => ⟨_, rfl⟩)) (ty_ne u10_ tq9_ (by decide)) 182).trans u15_
            have u24_ : T17_ 183 o = T 183 o := (hx17_ o (cw_lt hw0_.1 u10_ (fun _ _ _ => ⟨_, rfl⟩)) (ty_ne u10_ tq9_ (by decide)) 183).trans u16_
            have hw0_ := hw
            refine aV_i E (n_Jx4a65c_add_9ea2d l D cy κ T17_ (upV (upV (upV (upV (upV (upV (upV (upV (upV (upV (upV (upV v_0 40 (upB (v_0 40) q9_ 0)) 41 (upB (v_0 41) q9_ 0)) 42 (upB (v_0 42) q9_ 0)) 43 (upB (v_0 43) q9_ 0)) 44 (upB (v_0 44) q9_ 0)) 45 (upB (v_0 45) q9_ 0)) 40 y40_17) 41 y41_17) 42 y42_17) 43 y43_17) 44 y44_17) 45 y45_17) (T 180 o) q9_ H.size  hO17_ u19_  (tq17_.trans u20_.symm) (fun x_ h_ => hp0 x_ ((hoT_ x_).2 h_)) (show ((v_0 202) ((T 180 o))) ≤ 200 from by omega)) mt_Jx4a65c_add_9ea2d ml_X9_89 hK hZ hAc hw (cw_rc10 hK hw.1 u19_) hA ⟨(Nat.le_of_ble_eq_true rfl), (Nat.le_of_ble_eq_true rfl)⟩ ⟨(Nat.le_of_ble_eq_true rfl), (Nat.le_of_ble_eq_true rfl)⟩ (As := [.ref q9_]) (rest := []) rfl rfl hl.1 (Nat.le_of_ble_eq_true rfl) 76 rfl dX9_person_73 (fun zz25_ T25_ v_25 H locs rr25_ hge25_ ho25_ hq25_ hw => ?_)
            obtain ⟨y200_25, y202_25, ev25_, hh25_⟩ := hq25_
            rw [ev25_] at hw; clear ev25_
            obtain ⟨hy25_, hx25_, hz25_, hl25_⟩ := hh25_
            have hy25_ : y202_25 = upB (v_0 202) (T 180 o) ((v_0 202) (T 180 o) + 1) := hy25_
            have hT25_ : WT T25_ := hw.1.2.1
            have hO25_ : ∀ x, ow T25_ x → κ 2 2 ≤ x := fun x h => hAc x (hw.2.1 x h)
            have hoT_ : OW T T25_ s.heap.size := OW.tr hw0_.2.2.1 hoT_ ho25_
            have u26_ : T25_ 0 o = 9 := (hx25_ o (cw_lt hw0_.1 u18_ (fun _ _ _ => ⟨_, rfl⟩)) (ty_ne u18_ u19_ (by decide)) (by rw [u18_]; decide) 0).trans u18_
            have u27_ : T25_ 180 o = T 180 o := (hx25_ o (cw_lt hw0_.1 u18_ (fun _ _ _ => ⟨_, rfl⟩)) (ty_ne u18_ u19_ (by decide)) (by rw [u18_]; decide) 180).trans u21_
            have u28_ : T25_ 181 o = T 181 o := (hx25_ o (cw_lt hw0_.1 u18_ (fun _ _ _ => ⟨_, rfl⟩)) (ty_ne u18_ u19_ (by decide)) (by rw [u18_]; decide) 181).trans u22_
            have u29_ : T25_ 182 o = T 182 o := (hx25_ o (cw_lt hw0_.1 u18_ (fun _ _ _ => ⟨_, rfl⟩)) (ty_ne u18_ u19_ (by decide)) (by rw [u18_]; decide) 182).trans u23_
            have u30_ : T25_ 183 o = T 183 o := (hx25_ o (cw_lt hw0_.1 u18_ (fun _ _ _ => ⟨_, rfl⟩)) (ty_ne u18_ u19_ (by decide)) (by rw [u18_]; decide) 183).trans u24_
            refine j_pop E 77 rfl dX9_person_76 rfl ?_
            refine j_aload_n E 78 rfl dX9_person_77 rfl (lv_at hl 1 rfl) ?_
            refine g_180 E hK hw fl_X9_12 u26_ 81 rfl dX9_person_78 ?_
            refine kV_i E (c_Jx4a65c_size_8abf5 l D cy T25_ (upV (upV (upV (upV (upV (upV (upV (upV (upV (upV (upV (upV (upV (upV v_0 40 (upB (v_0 40) q9_ 0)) 41 (upB (v_0 41) q9_ 0)) 42 (upB (v_0 42) q9_ 0)) 43 (upB (v_0 43) q9_ 0)) 44 (upB (v_0 44) q9_ 0)) 45 (upB (v_0 45) q9_ 0)) 40 y40_17) 41 y41_17) 42 y42_17) 43 y43_17) 44 y44_17) 45 y45_17) 200 y200_25) 202 y202_25) (T25_ 180 o)  (wt_180 hT25_ u26_)  ) mt_Jx4a65c_size_8abf5 ml_X9_80 hK hw (cw_rc10 hK hw.1 (wt_180 hT25_ u26_)) hA ⟨Nat.le_of_ble_eq_true rfl, Nat.le_of_ble_eq_true rfl⟩ ⟨Nat.le_of_ble_eq_true rfl, Nat.le_of_ble_eq_true rfl⟩ (As := []) (rest := []) rfl rfl hl.1 (Nat.le_of_ble_eq_true rfl) 84 rfl dX9_person_81 (fun zz31_ v_31 H locs rr31_ hq31_ hw => ?_)
            obtain ⟨ev31_, hh31_⟩ := hq31_
            rw [ev31_] at hw; clear ev31_
            have hh31_ : zz31_ = (y202_25 ((T25_ 180 o))) ∧ 0 ≤ zz31_ := hh31_
            have hs2_ := hh31_.1
            rw [u27_, hy25_, upB_same] at hs2_
            refine j_iconst E 85 rfl dX9_person_84 ?_
            refine j_isub E 86 rfl dX9_person_85 ?_
            exact hret 86 (zz31_ - 1) T25_ _ _ _ ls _ _ hw hoT_ (rr (by omega)) (⟨u26_, ⟨u27_, u28_, u29_, u30_⟩, rfl, rfl, (by show y202_25 (T 181 o) = v_0 202 (T 181 o); rw [hy25_]; exact upB_ne ((ls_ne hT t_o).2.2.2.1)), (by show y202_25 (T 182 o) = v_0 202 (T 182 o); rw [hy25_]; exact upB_ne ((ls_ne hT t_o).2.2.2.2.2.2.1)), (by show y202_25 (T 183 o) = v_0 202 (T 183 o); rw [hy25_]; exact upB_ne ((ls_ne hT t_o).2.2.2.2.2.2.2.2.2.1)), Or.inr ⟨by omega, by omega, (by show y202_25 (T 180 o) = v_0 202 (T 180 o) + 1; rw [hy25_]; exact upB_same _ _ _)⟩⟩) (Nat.le_of_ble_eq_true rfl) (Nat.le_of_ble_eq_true rfl) dX9_person_86
          · refine j_iconst E 58 rfl dX9_person_57 ?_
            exact hret 58 ((-1)) T _ _ _ ls _ _ hw hoT_ (rr (by decide)) (⟨t_o, ⟨rfl, rfl, rfl, rfl⟩, rfl, rfl, rfl, rfl, rfl, Or.inl ⟨rfl, by omega, rfl⟩⟩) (Nat.le_of_ble_eq_true rfl) (Nat.le_of_ble_eq_true rfl) dX9_person_58
  refine j_iload_n E 1 rfl dX9_person_0 rfl (lv_at hl 1 rfl) ?_
  refine j_if_lt E 4 23 rfl r_v_q dX9_person_1 (by decide) (fun cc32_ => ?_) (fun cc32_ => ?_)
  · refine j_iconst E 24 rfl dX9_person_23 ?_
    exact L24_1 0  H locs ls (rr (by decide)) (by omega) hw (lv_sub hl [0, 1, 2, 3] rfl)
  · refine j_iload_n E 5 rfl dX9_person_4 rfl (lv_at hl 1 rfl) ?_
    refine j_iconst E 6 rfl dX9_person_5 ?_
    refine j_icmp_ge E 9 23 rfl r_v_q (rr (by decide)) dX9_person_6 (by decide) (fun cc33_ => ?_) (fun cc33_ => ?_)
    · refine j_iconst E 24 rfl dX9_person_23 ?_
      exact L24_1 0  H locs ls (rr (by decide)) (by omega) hw (lv_sub hl [0, 1, 2, 3] rfl)
    · refine j_iload_n E 10 rfl dX9_person_9 rfl (lv_at hl 2 rfl) ?_
      refine j_if_lt E 13 23 rfl r_v_f dX9_person_10 (by decide) (fun cc34_ => ?_) (fun cc34_ => ?_)
      · refine j_iconst E 24 rfl dX9_person_23 ?_
        exact L24_1 0  H locs ls (rr (by decide)) (by omega) hw (lv_sub hl [0, 1, 2, 3] rfl)
      · refine j_iload_n E 14 rfl dX9_person_13 rfl (lv_at hl 2 rfl) ?_
        refine j_bipush E 16 rfl dX9_person_14 (by decide) ?_
        refine j_icmp_ge E 19 23 rfl r_v_f (rr (by decide)) dX9_person_16 (by decide) (fun cc35_ => ?_) (fun cc35_ => ?_)
        · refine j_iconst E 24 rfl dX9_person_23 ?_
          exact L24_1 0  H locs ls (rr (by decide)) (by omega) hw (lv_sub hl [0, 1, 2, 3] rfl)
        · refine j_iconst E 20 rfl dX9_person_19 ?_
          refine j_goto E 24 dX9_person_20 (by decide) ?_
          exact L24_1 1  H locs ls (rr (by decide)) (by omega) hw (lv_sub hl [0, 1, 2, 3] rfl)
set_option maxHeartbeats 4000000 in
set_option maxRecDepth 100000 in
theorem n_X9_line_n2 (l : Launch) (D : va_G) (cy : Nat → ClassId) (κ T : Nat → Nat → Nat) (v_0 : Nat → Nat → Int) (o : Nat) (v_s : Int) (v_v : Int) (sz : Nat) (hO : ∀ x, ow T x → κ 2 2 ≤ x) (t_o : T 0 o = 9) (r_v_s : inR v_s) (r_v_v : inR v_v) (hp0 : ∀ x, T 0 x = 26 → x = κ 2 0) (hp1 : v_v = 0 ∨ v_v = 1) : KA l D cy κ T yX9_line cX9_line 3 (some .int) 8 3 700 [.ref o, .int (J v_s), .int (J v_v)] v_0 sz (AI (fun (z_0 : Int) (T_2 : Nat → Nat → Nat) (v_2 : Nat → Nat → Int) => T_2 0 o = 9 ∧ (T_2 180 o = T 180 o ∧ T_2 181 o = T 181 o ∧ T_2 182 o = T 182 o ∧ T_2 183 o = T 183 o) ∧ v_2 186 o = v_0 186 o ∧ v_2 187 o = v_0 187 o ∧ v_2 202 (T 180 o) = v_0 202 (T 180 o) ∧ v_2 202 (T 182 o) = v_0 202 (T 182 o) ∧ v_2 202 (T 183 o) = v_0 202 (T 183 o) ∧ ((z_0 = -1 ∧ (v_s < 0 ∨ 2 < v_s ∨ 24 ≤ v_0 202 (T 181 o)) ∧ v_2 202 (T 181 o) = v_0 202 (T 181 o)) ∨ (z_0 = v_0 202 (T 181 o) ∧ (0 ≤ v_s ∧ v_s ≤ 2 ∧ v_0 202 (T 181 o) < 24) ∧ v_2 202 (T 181 o) = v_0 202 (T 181 o) + 1)))) := by
  refine KA.ofi (by decide) (Nat.le_of_ble_eq_true rfl) hO ?_
  intro p e s m below meth c ls ar QW A0 H locs E hK hZ hA hAc hsz hnm hw hlo_ hl hret
  have hl : lv_has ls 3 [(0, .ref o), (1, .int (J v_s)), (2, .int (J v_v))] := hl
  have hT : WT T := hw.1.2.1
  have hoT_ : OW T T s.heap.size := OW.rf T _
  refine j_iload_n E 1 rfl dX9_line_0 rfl (lv_at hl 1 rfl) ?_
  refine j_if_lt E 4 21 rfl r_v_s dX9_line_1 (by decide) (fun cc1_ => ?_) (fun cc1_ => ?_)
  · refine j_iconst E 22 rfl dX9_line_21 ?_
    exact hret 22 ((-1)) T _ _ _ ls _ _ hw hoT_ (rr (by decide)) (⟨t_o, ⟨rfl, rfl, rfl, rfl⟩, rfl, rfl, rfl, rfl, rfl, Or.inl ⟨rfl, by omega, rfl⟩⟩) (Nat.le_of_ble_eq_true rfl) (Nat.le_of_ble_eq_true rfl) dX9_line_22
  · refine j_iload_n E 5 rfl dX9_line_4 rfl (lv_at hl 1 rfl) ?_
    refine j_iconst E 6 rfl dX9_line_5 ?_
    refine j_icmp_ge E 9 21 rfl r_v_s (rr (by decide)) dX9_line_6 (by decide) (fun cc2_ => ?_) (fun cc2_ => ?_)
    · refine j_iconst E 22 rfl dX9_line_21 ?_
      exact hret 22 ((-1)) T _ _ _ ls _ _ hw hoT_ (rr (by decide)) (⟨t_o, ⟨rfl, rfl, rfl, rfl⟩, rfl, rfl, rfl, rfl, rfl, Or.inl ⟨rfl, by omega, rfl⟩⟩) (Nat.le_of_ble_eq_true rfl) (Nat.le_of_ble_eq_true rfl) dX9_line_22
    · refine j_aload_n E 10 rfl dX9_line_9 rfl (lv_at hl 0 rfl) ?_
      refine g_181 E hK hw fl_X9_16 t_o 13 rfl dX9_line_10 ?_
      refine kV_i E (c_Jx4a65c_size_8abf5 l D cy T (v_0) (T 181 o)  (wt_181 hT t_o)  ) mt_Jx4a65c_size_8abf5 ml_X9_80 hK hw (cw_rc10 hK hw.1 (wt_181 hT t_o)) hA ⟨Nat.le_of_ble_eq_true rfl, Nat.le_of_ble_eq_true rfl⟩ ⟨Nat.le_of_ble_eq_true rfl, Nat.le_of_ble_eq_true rfl⟩ (As := []) (rest := []) rfl rfl hl.1 (Nat.le_of_ble_eq_true rfl) 16 rfl dX9_line_13 (fun zz3_ v_3 H locs rr3_ hq3_ hw => ?_)
      obtain ⟨ev3_, hh3_⟩ := hq3_
      rw [ev3_] at hw; clear ev3_
      have hh3_ : zz3_ = ((v_0 202) ((T 181 o))) ∧ 0 ≤ zz3_ := hh3_
      refine j_bipush E 18 rfl dX9_line_16 (by decide) ?_
      refine j_icmp_lt E 21 23 rfl rr3_ (rr (by decide)) dX9_line_18 (by decide) (fun cc4_ => ?_) (fun cc4_ => ?_)
      · refine j_aload_n E 24 rfl dX9_line_23 rfl (lv_at hl 0 rfl) ?_
        refine g_181 E hK hw fl_X9_16 t_o 27 rfl dX9_line_24 ?_
        have hw0_ := hw
        refine n_obj1 E hK hw hA cl_X9_167 (Nat.le_of_ble_eq_true rfl) (Nat.le_of_ble_eq_true rfl) 30 rfl dX9_line_27 (fun q5_ T5_ H hge5_ hx5_ ho5_ tq5_ hw => ?_)
        have fq5_ : s.heap.size ≤ q5_ := Nat.le_trans hw0_.2.2.1 hge5_
        have hw : WK D cy T5_ (upV (upV (upV (upV (upV (upV v_0 20 (upB (v_0 20) q5_ 0)) 21 (upB (v_0 21) q5_ 0)) 22 (upB (v_0 22) q5_ 0)) 23 (upB (v_0 23) q5_ 0)) 24 (upB (v_0 24) q5_ 0)) 25 (upB (v_0 25) q5_ 0)) A0 s.heap H locs := hw
        have hT5_ : WT T5_ := hw.1.2.1
        have hO5_ : ∀ x, ow T5_ x → κ 2 2 ≤ x := fun x h => hAc x (hw.2.1 x h)
        have hoT_ : OW T T5_ s.heap.size := OW.tr hw0_.2.2.1 hoT_ ho5_
        have u6_ : T5_ 0 o = 9 := (hx5_ o (Nat.ne_of_lt (Nat.lt_of_lt_of_le (cw_lt hw0_.1 t_o (fun _ _ _ => ⟨_, rfl⟩)) hge5_)) 0).trans t_o
        have u7_ : T5_ 0 (T 181 o) = 10 := (hx5_ (T 181 o) (Nat.ne_of_lt (Nat.lt_of_lt_of_le (cw_lt hw0_.1 (wt_181 hT t_o) (fun _ _ _ => ⟨_, rfl⟩)) hge5_)) 0).trans (wt_181 hT t_o)
        have u8_ : T5_ 2 (T 181 o) = 1 := (hx5_ (T 181 o) (Nat.ne_of_lt (Nat.lt_of_lt_of_le (cw_lt hw0_.1 (wt_181 hT t_o) (fun _ _ _ => ⟨_, rfl⟩)) hge5_)) 2).trans (we_181 hT t_o)
        have u9_ : T5_ 180 o = T 180 o := (hx5_ o (Nat.ne_of_lt (Nat.lt_of_lt_of_le (cw_lt hw0_.1 t_o (fun _ _ _ => ⟨_, rfl⟩)) hge5_)) 180).trans rfl
        have u10_ : T5_ 181 o = T 181 o := (hx5_ o (Nat.ne_of_lt (Nat.lt_of_lt_of_le (cw_lt hw0_.1 t_o (fun _ _ _ => ⟨_, rfl⟩)) hge5_)) 181).trans rfl
        have u11_ : T5_ 182 o = T 182 o := (hx5_ o (Nat.ne_of_lt (Nat.lt_of_lt_of_le (cw_lt hw0_.1 t_o (fun _ _ _ => ⟨_, rfl⟩)) hge5_)) 182).trans rfl
        have u12_ : T5_ 183 o = T 183 o := (hx5_ o (Nat.ne_of_lt (Nat.lt_of_lt_of_le (cw_lt hw0_.1 t_o (fun _ _ _ => ⟨_, rfl⟩)) hge5_)) 183).trans rfl
        refine j_dup E 31 rfl dX9_line_30 rfl ?_
        refine j_iload_n E 32 rfl dX9_line_31 rfl (lv_at hl 1 rfl) ?_
        refine j_iload_n E 33 rfl dX9_line_32 rfl (lv_at hl 2 rfl) ?_
        have hw0_ := hw
        refine aI_v E (n_X0_init l D cy κ T5_ (upV (upV (upV (upV (upV (upV v_0 20 (upB (v_0 20) q5_ 0)) 21 (upB (v_0 21) q5_ 0)) 22 (upB (v_0 22) q5_ 0)) 23 (upB (v_0 23) q5_ 0)) 24 (upB (v_0 24) q5_ 0)) 25 (upB (v_0 25) q5_ 0)) q5_ v_s v_v H.size  hO5_ tq5_ r_v_s r_v_v (show v_v = 0 ∨ v_v = 1 from by first | omega | (simp only [upB_same]; omega))) mi_X0_init ml_X9_169 hK hZ hAc hw hA ⟨(Nat.le_of_ble_eq_true rfl), (Nat.le_of_ble_eq_true rfl)⟩ ⟨(Nat.le_of_ble_eq_true rfl), (Nat.le_of_ble_eq_true rfl)⟩ (As := [.int (J v_s), .int (J v_v)]) (rest := [.ref q5_, .ref (T 181 o)]) rfl rfl hl.1 (Nat.le_of_ble_eq_true rfl) 36 rfl dX9_line_33 (fun T13_ v_13 H locs hge13_ ho13_ hq13_ hw => ?_)
        obtain ⟨y20_13, y21_13, y22_13, y23_13, y24_13, y25_13, ev13_, hh13_⟩ := hq13_
        rw [ev13_] at hw; clear ev13_
        obtain ⟨hx13_, tq13_⟩ := hh13_
        have hT13_ : WT T13_ := hw.1.2.1
        have hO13_ : ∀ x, ow T13_ x → κ 2 2 ≤ x := fun x h => hAc x (hw.2.1 x h)
        have hoT_ : OW T T13_ s.heap.size := OW.tr hw0_.2.2.1 hoT_ ho13_
        have u14_ : T13_ 0 o = 9 := (hx13_ o (cw_lt hw0_.1 u6_ (fun _ _ _ => ⟨_, rfl⟩)) (ty_ne u6_ tq5_ (by decide)) 0).trans u6_
        have u15_ : T13_ 0 (T 181 o) = 10 := (hx13_ (T 181 o) (cw_lt hw0_.1 u7_ (fun _ _ _ => ⟨_, rfl⟩)) (ty_ne u7_ tq5_ (by decide)) 0).trans u7_
        have u16_ : T13_ 2 (T 181 o) = 1 := (hx13_ (T 181 o) (cw_lt hw0_.1 u7_ (fun _ _ _ => ⟨_, rfl⟩)) (ty_ne u7_ tq5_ (by decide)) 2).trans u8_
        have u17_ : T13_ 180 o = T 180 o := (hx13_ o (cw_lt hw0_.1 u6_ (fun _ _ _ => ⟨_, rfl⟩)) (ty_ne u6_ tq5_ (by decide)) 180).trans u9_
        have u18_ : T13_ 181 o = T 181 o := (hx13_ o (cw_lt hw0_.1 u6_ (fun _ _ _ => ⟨_, rfl⟩)) (ty_ne u6_ tq5_ (by decide)) 181).trans u10_
        have u19_ : T13_ 182 o = T 182 o := (hx13_ o (cw_lt hw0_.1 u6_ (fun _ _ _ => ⟨_, rfl⟩)) (ty_ne u6_ tq5_ (by decide)) 182).trans u11_
        have u20_ : T13_ 183 o = T 183 o := (hx13_ o (cw_lt hw0_.1 u6_ (fun _ _ _ => ⟨_, rfl⟩)) (ty_ne u6_ tq5_ (by decide)) 183).trans u12_
        have hw0_ := hw
        refine aV_i E (n_Jx4a65c_add_9ea2d l D cy κ T13_ (upV (upV (upV (upV (upV (upV (upV (upV (upV (upV (upV (upV v_0 20 (upB (v_0 20) q5_ 0)) 21 (upB (v_0 21) q5_ 0)) 22 (upB (v_0 22) q5_ 0)) 23 (upB (v_0 23) q5_ 0)) 24 (upB (v_0 24) q5_ 0)) 25 (upB (v_0 25) q5_ 0)) 20 y20_13) 21 y21_13) 22 y22_13) 23 y23_13) 24 y24_13) 25 y25_13) (T 181 o) q5_ H.size  hO13_ u15_  (tq13_.trans u16_.symm) (fun x_ h_ => hp0 x_ ((hoT_ x_).2 h_)) (show ((v_0 202) ((T 181 o))) ≤ 200 from by omega)) mt_Jx4a65c_add_9ea2d ml_X9_89 hK hZ hAc hw (cw_rc10 hK hw.1 u15_) hA ⟨(Nat.le_of_ble_eq_true rfl), (Nat.le_of_ble_eq_true rfl)⟩ ⟨(Nat.le_of_ble_eq_true rfl), (Nat.le_of_ble_eq_true rfl)⟩ (As := [.ref q5_]) (rest := []) rfl rfl hl.1 (Nat.le_of_ble_eq_true rfl) 39 rfl dX9_line_36 (fun zz21_ T21_ v_21 H locs rr21_ hge21_ ho21_ hq21_ hw => ?_)
        obtain ⟨y200_21, y202_21, ev21_, hh21_⟩ := hq21_
        rw [ev21_] at hw; clear ev21_
        obtain ⟨hy21_, hx21_, hz21_, hl21_⟩ := hh21_
        have hy21_ : y202_21 = upB (v_0 202) (T 181 o) ((v_0 202) (T 181 o) + 1) := hy21_
        have hT21_ : WT T21_ := hw.1.2.1
        have hO21_ : ∀ x, ow T21_ x → κ 2 2 ≤ x := fun x h => hAc x (hw.2.1 x h)
        have hoT_ : OW T T21_ s.heap.size := OW.tr hw0_.2.2.1 hoT_ ho21_
        have u22_ : T21_ 0 o = 9 := (hx21_ o (cw_lt hw0_.1 u14_ (fun _ _ _ => ⟨_, rfl⟩)) (ty_ne u14_ u15_ (by decide)) (by rw [u14_]; decide) 0).trans u14_
        have u23_ : T21_ 180 o = T 180 o := (hx21_ o (cw_lt hw0_.1 u14_ (fun _ _ _ => ⟨_, rfl⟩)) (ty_ne u14_ u15_ (by decide)) (by rw [u14_]; decide) 180).trans u17_
        have u24_ : T21_ 181 o = T 181 o := (hx21_ o (cw_lt hw0_.1 u14_ (fun _ _ _ => ⟨_, rfl⟩)) (ty_ne u14_ u15_ (by decide)) (by rw [u14_]; decide) 181).trans u18_
        have u25_ : T21_ 182 o = T 182 o := (hx21_ o (cw_lt hw0_.1 u14_ (fun _ _ _ => ⟨_, rfl⟩)) (ty_ne u14_ u15_ (by decide)) (by rw [u14_]; decide) 182).trans u19_
        have u26_ : T21_ 183 o = T 183 o := (hx21_ o (cw_lt hw0_.1 u14_ (fun _ _ _ => ⟨_, rfl⟩)) (ty_ne u14_ u15_ (by decide)) (by rw [u14_]; decide) 183).trans u20_
        refine j_pop E 40 rfl dX9_line_39 rfl ?_
        refine j_aload_n E 41 rfl dX9_line_40 rfl (lv_at hl 0 rfl) ?_
        refine g_181 E hK hw fl_X9_16 u22_ 44 rfl dX9_line_41 ?_
        refine kV_i E (c_Jx4a65c_size_8abf5 l D cy T21_ (upV (upV (upV (upV (upV (upV (upV (upV (upV (upV (upV (upV (upV (upV v_0 20 (upB (v_0 20) q5_ 0)) 21 (upB (v_0 21) q5_ 0)) 22 (upB (v_0 22) q5_ 0)) 23 (upB (v_0 23) q5_ 0)) 24 (upB (v_0 24) q5_ 0)) 25 (upB (v_0 25) q5_ 0)) 20 y20_13) 21 y21_13) 22 y22_13) 23 y23_13) 24 y24_13) 25 y25_13) 200 y200_21) 202 y202_21) (T21_ 181 o)  (wt_181 hT21_ u22_)  ) mt_Jx4a65c_size_8abf5 ml_X9_80 hK hw (cw_rc10 hK hw.1 (wt_181 hT21_ u22_)) hA ⟨Nat.le_of_ble_eq_true rfl, Nat.le_of_ble_eq_true rfl⟩ ⟨Nat.le_of_ble_eq_true rfl, Nat.le_of_ble_eq_true rfl⟩ (As := []) (rest := []) rfl rfl hl.1 (Nat.le_of_ble_eq_true rfl) 47 rfl dX9_line_44 (fun zz27_ v_27 H locs rr27_ hq27_ hw => ?_)
        obtain ⟨ev27_, hh27_⟩ := hq27_
        rw [ev27_] at hw; clear ev27_
        have hh27_ : zz27_ = (y202_21 ((T21_ 181 o))) ∧ 0 ≤ zz27_ := hh27_
        have hs2_ := hh27_.1
        rw [u24_, hy21_, upB_same] at hs2_
        refine j_iconst E 48 rfl dX9_line_47 ?_
        refine j_isub E 49 rfl dX9_line_48 ?_
        exact hret 49 (zz27_ - 1) T21_ _ _ _ ls _ _ hw hoT_ (rr (by omega)) (⟨u22_, ⟨u23_, u24_, u25_, u26_⟩, rfl, rfl, (by show y202_21 (T 180 o) = v_0 202 (T 180 o); rw [hy21_]; exact upB_ne ((ls_ne hT t_o).1)), (by show y202_21 (T 182 o) = v_0 202 (T 182 o); rw [hy21_]; exact upB_ne ((ls_ne hT t_o).2.2.2.2.2.2.2.1)), (by show y202_21 (T 183 o) = v_0 202 (T 183 o); rw [hy21_]; exact upB_ne ((ls_ne hT t_o).2.2.2.2.2.2.2.2.2.2.1)), Or.inr ⟨by omega, by omega, (by show y202_21 (T 181 o) = v_0 202 (T 181 o) + 1; rw [hy21_]; exact upB_same _ _ _)⟩⟩) (Nat.le_of_ble_eq_true rfl) (Nat.le_of_ble_eq_true rfl) dX9_line_49
      · refine j_iconst E 22 rfl dX9_line_21 ?_
        exact hret 22 ((-1)) T _ _ _ ls _ _ hw hoT_ (rr (by decide)) (⟨t_o, ⟨rfl, rfl, rfl, rfl⟩, rfl, rfl, rfl, rfl, rfl, Or.inl ⟨rfl, by omega, rfl⟩⟩) (Nat.le_of_ble_eq_true rfl) (Nat.le_of_ble_eq_true rfl) dX9_line_22
set_option maxHeartbeats 4000000 in
set_option maxRecDepth 100000 in
theorem n_X9_suit_n2 (l : Launch) (D : va_G) (cy : Nat → ClassId) (κ T : Nat → Nat → Nat) (v_0 : Nat → Nat → Int) (o : Nat) (v_p : Int) (v_q : Int) (v_l : Int) (v_h : Int) (v_w : Int) (v_d : Int) (sz : Nat) (hO : ∀ x, ow T x → κ 2 2 ≤ x) (t_o : T 0 o = 9) (r_v_p : inR v_p) (r_v_q : inR v_q) (r_v_l : inR v_l) (r_v_h : inR v_h) (r_v_w : inR v_w) (r_v_d : inR v_d) (hp0 : ∀ x, T 0 x = 26 → x = κ 2 0) : KA l D cy κ T yX9_suit cX9_suit 10 (some .int) 8 2 500 [.ref o, .int (J v_p), .int (J v_q), .int (J v_l), .int (J v_h), .int (J v_w), .int (J v_d)] v_0 sz (AI (fun (z_0 : Int) (T_2 : Nat → Nat → Nat) (v_2 : Nat → Nat → Int) => T_2 0 o = 9 ∧ (T_2 180 o = T 180 o ∧ T_2 181 o = T 181 o ∧ T_2 182 o = T 182 o ∧ T_2 183 o = T 183 o) ∧ v_2 186 o = v_0 186 o ∧ v_2 187 o = v_0 187 o ∧ v_2 202 (T 180 o) = v_0 202 (T 180 o) ∧ v_2 202 (T 181 o) = v_0 202 (T 181 o) ∧ v_2 202 (T 182 o) = v_0 202 (T 182 o) ∧ (True))) := by
  refine KA.ofi (by decide) (Nat.le_of_ble_eq_true rfl) hO ?_
  intro p e s m below meth c ls ar QW A0 H locs E hK hZ hA hAc hsz hnm hw hlo_ hl hret
  have hl : lv_has ls 10 [(0, .ref o), (1, .int (J v_p)), (2, .int (J v_q)), (3, .int (J v_l)), (4, .int (J v_h)), (5, .int (J v_w)), (6, .int (J v_d))] := hl
  have hT : WT T := hw.1.2.1
  have hoT_ : OW T T s.heap.size := OW.rf T _
  refine j_aload_n E 1 rfl dX9_suit_0 rfl (lv_at hl 0 rfl) ?_
  refine j_iload_n E 2 rfl dX9_suit_1 rfl (lv_at hl 1 rfl) ?_
  refine kV_r E (c_X9_livingAt l D cy T (v_0) o v_p  t_o r_v_p ) mt_X9_livingAt ml_X9_93 hK hw (cw_rc9 hK hw.1 t_o) hA ⟨Nat.le_of_ble_eq_true rfl, Nat.le_of_ble_eq_true rfl⟩ ⟨Nat.le_of_ble_eq_true rfl, Nat.le_of_ble_eq_true rfl⟩ (As := [.int (J v_p)]) (rest := []) rfl rfl hl.1 (Nat.le_of_ble_eq_true rfl) 5 rfl dX9_suit_2 (fun oo1_ v_1 H locs hq1_ hw => ?_)
  obtain ⟨ev1_, hh1_⟩ := hq1_
  rw [ev1_] at hw; clear ev1_
  obtain ⟨tt1_, hh1_⟩ := hh1_
  cases oo1_ with
  | none =>
    refine j_astoreN E 7 rfl [(7, .null), (0, .ref o), (1, .int (J v_p)), (2, .int (J v_q)), (3, .int (J v_l)), (4, .int (J v_h)), (5, .int (J v_w)), (6, .int (J v_d))] dX9_suit_5 hl (by decide) rfl (fun ls hl => ?_)
    refine j_aload_n E 8 rfl dX9_suit_7 rfl (lv_at hl 1 rfl) ?_
    refine j_iload_n E 9 rfl dX9_suit_8 rfl (lv_at hl 3 rfl) ?_
    refine kV_r E (c_X9_livingAt l D cy T (v_0) o v_q  t_o r_v_q ) mt_X9_livingAt ml_X9_93 hK hw (cw_rc9 hK hw.1 t_o) hA ⟨Nat.le_of_ble_eq_true rfl, Nat.le_of_ble_eq_true rfl⟩ ⟨Nat.le_of_ble_eq_true rfl, Nat.le_of_ble_eq_true rfl⟩ (As := [.int (J v_q)]) (rest := []) rfl rfl hl.1 (Nat.le_of_ble_eq_true rfl) 12 rfl dX9_suit_9 (fun oo2_ v_2 H locs hq2_ hw => ?_)
    obtain ⟨ev2_, hh2_⟩ := hq2_
    rw [ev2_] at hw; clear ev2_
    obtain ⟨tt2_, hh2_⟩ := hh2_
    cases oo2_ with
    | none =>
      refine j_astoreN E 14 rfl [(8, .null), (7, .null), (0, .ref o), (1, .int (J v_p)), (2, .int (J v_q)), (3, .int (J v_l)), (4, .int (J v_h)), (5, .int (J v_w)), (6, .int (J v_d))] dX9_suit_12 hl (by decide) rfl (fun ls hl => ?_)
      refine j_aloadN E 16 rfl dX9_suit_14 (lv_at hl 1 rfl) ?_
      refine j_ifnullN E 49 dX9_suit_16 (by decide) ?_
      refine j_iconst E 50 rfl dX9_suit_49 ?_
      exact hret 50 ((-1)) T _ _ _ ls _ _ hw hoT_ (rr (by decide)) (⟨t_o, ⟨rfl, rfl, rfl, rfl⟩, rfl, rfl, rfl, rfl, rfl, trivial⟩) (Nat.le_of_ble_eq_true rfl) (Nat.le_of_ble_eq_true rfl) dX9_suit_50
    | some xx2_ =>
      have te2_ := tt2_ xx2_ rfl
      refine j_astore E 14 rfl [(8, .ref xx2_), (7, .null), (0, .ref o), (1, .int (J v_p)), (2, .int (J v_q)), (3, .int (J v_l)), (4, .int (J v_h)), (5, .int (J v_w)), (6, .int (J v_d))] dX9_suit_12 hl (by decide) rfl (fun ls hl => ?_)
      refine j_aloadN E 16 rfl dX9_suit_14 (lv_at hl 1 rfl) ?_
      refine j_ifnullN E 49 dX9_suit_16 (by decide) ?_
      refine j_iconst E 50 rfl dX9_suit_49 ?_
      exact hret 50 ((-1)) T _ _ _ ls _ _ hw hoT_ (rr (by decide)) (⟨t_o, ⟨rfl, rfl, rfl, rfl⟩, rfl, rfl, rfl, rfl, rfl, trivial⟩) (Nat.le_of_ble_eq_true rfl) (Nat.le_of_ble_eq_true rfl) dX9_suit_50
  | some xx1_ =>
    have te1_ := tt1_ xx1_ rfl
    refine j_astore E 7 rfl [(7, .ref xx1_), (0, .ref o), (1, .int (J v_p)), (2, .int (J v_q)), (3, .int (J v_l)), (4, .int (J v_h)), (5, .int (J v_w)), (6, .int (J v_d))] dX9_suit_5 hl (by decide) rfl (fun ls hl => ?_)
    refine j_aload_n E 8 rfl dX9_suit_7 rfl (lv_at hl 1 rfl) ?_
    refine j_iload_n E 9 rfl dX9_suit_8 rfl (lv_at hl 3 rfl) ?_
    refine kV_r E (c_X9_livingAt l D cy T (v_0) o v_q  t_o r_v_q ) mt_X9_livingAt ml_X9_93 hK hw (cw_rc9 hK hw.1 t_o) hA ⟨Nat.le_of_ble_eq_true rfl, Nat.le_of_ble_eq_true rfl⟩ ⟨Nat.le_of_ble_eq_true rfl, Nat.le_of_ble_eq_true rfl⟩ (As := [.int (J v_q)]) (rest := []) rfl rfl hl.1 (Nat.le_of_ble_eq_true rfl) 12 rfl dX9_suit_9 (fun oo3_ v_3 H locs hq3_ hw => ?_)
    obtain ⟨ev3_, hh3_⟩ := hq3_
    rw [ev3_] at hw; clear ev3_
    obtain ⟨tt3_, hh3_⟩ := hh3_
    cases oo3_ with
    | none =>
      refine j_astoreN E 14 rfl [(8, .null), (7, .ref xx1_), (0, .ref o), (1, .int (J v_p)), (2, .int (J v_q)), (3, .int (J v_l)), (4, .int (J v_h)), (5, .int (J v_w)), (6, .int (J v_d))] dX9_suit_12 hl (by decide) rfl (fun ls hl => ?_)
      refine j_aload E 16 rfl dX9_suit_14 (lv_at hl 1 rfl) ?_
      refine j_ifnullR E 19 rfl dX9_suit_16 ?_
      refine j_aloadN E 21 rfl dX9_suit_19 (lv_at hl 0 rfl) ?_
      refine j_ifnullN E 49 dX9_suit_21 (by decide) ?_
      refine j_iconst E 50 rfl dX9_suit_49 ?_
      exact hret 50 ((-1)) T _ _ _ ls _ _ hw hoT_ (rr (by decide)) (⟨t_o, ⟨rfl, rfl, rfl, rfl⟩, rfl, rfl, rfl, rfl, rfl, trivial⟩) (Nat.le_of_ble_eq_true rfl) (Nat.le_of_ble_eq_true rfl) dX9_suit_50
    | some xx3_ =>
      have te3_ := tt3_ xx3_ rfl
      refine j_astore E 14 rfl [(8, .ref xx3_), (7, .ref xx1_), (0, .ref o), (1, .int (J v_p)), (2, .int (J v_q)), (3, .int (J v_l)), (4, .int (J v_h)), (5, .int (J v_w)), (6, .int (J v_d))] dX9_suit_12 hl (by decide) rfl (fun ls hl => ?_)
      refine j_aload E 16 rfl dX9_suit_14 (lv_at hl 1 rfl) ?_
      refine j_ifnullR E 19 rfl dX9_suit_16 ?_
      refine j_aload E 21 rfl dX9_suit_19 (lv_at hl 0 rfl) ?_
      refine j_ifnullR E 24 rfl dX9_suit_21 ?_
      refine j_iload_n E 25 rfl dX9_suit_24 rfl (lv_at hl 3 rfl) ?_
      refine j_iload_n E 26 rfl dX9_suit_25 rfl (lv_at hl 4 rfl) ?_
      refine j_icmp_eq E 29 49 rfl r_v_p r_v_q dX9_suit_26 (by decide) (fun cc4_ => ?_) (fun cc4_ => ?_)
      · refine j_iconst E 50 rfl dX9_suit_49 ?_
        exact hret 50 ((-1)) T _ _ _ ls _ _ hw hoT_ (rr (by decide)) (⟨t_o, ⟨rfl, rfl, rfl, rfl⟩, rfl, rfl, rfl, rfl, rfl, trivial⟩) (Nat.le_of_ble_eq_true rfl) (Nat.le_of_ble_eq_true rfl) dX9_suit_50
      · refine j_aload_n E 30 rfl dX9_suit_29 rfl (lv_at hl 2 rfl) ?_
        refine j_iload_n E 31 rfl dX9_suit_30 rfl (lv_at hl 5 rfl) ?_
        refine kV_i E (c_X9_isLine l D cy T (v_0) o v_l  t_o r_v_l ) mt_X9_isLine ml_X9_172 hK hw (cw_rc9 hK hw.1 t_o) hA ⟨Nat.le_of_ble_eq_true rfl, Nat.le_of_ble_eq_true rfl⟩ ⟨Nat.le_of_ble_eq_true rfl, Nat.le_of_ble_eq_true rfl⟩ (As := [.int (J v_l)]) (rest := []) rfl rfl hl.1 (Nat.le_of_ble_eq_true rfl) 34 rfl dX9_suit_31 (fun zz5_ v_5 H locs rr5_ hq5_ hw => ?_)
        obtain ⟨ev5_, hh5_⟩ := hq5_
        rw [ev5_] at hw; clear ev5_
        have hh5_ : zz5_ ≠ 0 → 0 ≤ v_l ∧ v_l < ((v_0 202) (T 181 o)) := hh5_
        refine j_if_eq E 37 49 rfl rr5_ dX9_suit_34 (by decide) (fun cc6_ => ?_) (fun cc6_ => ?_)
        · refine j_iconst E 50 rfl dX9_suit_49 ?_
          exact hret 50 ((-1)) T _ _ _ ls _ _ hw hoT_ (rr (by decide)) (⟨t_o, ⟨rfl, rfl, rfl, rfl⟩, rfl, rfl, rfl, rfl, rfl, trivial⟩) (Nat.le_of_ble_eq_true rfl) (Nat.le_of_ble_eq_true rfl) dX9_suit_50
        · refine j_aload_n E 38 rfl dX9_suit_37 rfl (lv_at hl 2 rfl) ?_
          refine g_183 E hK hw fl_X9_22 t_o 41 rfl dX9_suit_38 ?_
          refine kV_i E (c_Jx4a65c_size_8abf5 l D cy T (v_0) (T 183 o)  (wt_183 hT t_o)  ) mt_Jx4a65c_size_8abf5 ml_X9_80 hK hw (cw_rc10 hK hw.1 (wt_183 hT t_o)) hA ⟨Nat.le_of_ble_eq_true rfl, Nat.le_of_ble_eq_true rfl⟩ ⟨Nat.le_of_ble_eq_true rfl, Nat.le_of_ble_eq_true rfl⟩ (As := []) (rest := []) rfl rfl hl.1 (Nat.le_of_ble_eq_true rfl) 44 rfl dX9_suit_41 (fun zz7_ v_7 H locs rr7_ hq7_ hw => ?_)
          obtain ⟨ev7_, hh7_⟩ := hq7_
          rw [ev7_] at hw; clear ev7_
          have hh7_ : zz7_ = ((v_0 202) ((T 183 o))) ∧ 0 ≤ zz7_ := hh7_
          refine j_bipush E 46 rfl dX9_suit_44 (by decide) ?_
          refine j_icmp_lt E 49 51 rfl rr7_ (rr (by decide)) dX9_suit_46 (by decide) (fun cc8_ => ?_) (fun cc8_ => ?_)
          · refine j_iload E 53 rfl dX9_suit_51 (lv_at hl 8 rfl) ?_
            refine j_if_lt E 56 85 rfl r_v_d dX9_suit_53 (by decide) (fun cc9_ => ?_) (fun cc9_ => ?_)
            · refine j_iconst E 86 rfl dX9_suit_85 ?_
              exact hret 86 ((-1)) T _ _ _ ls _ _ hw hoT_ (rr (by decide)) (⟨t_o, ⟨rfl, rfl, rfl, rfl⟩, rfl, rfl, rfl, rfl, rfl, trivial⟩) (Nat.le_of_ble_eq_true rfl) (Nat.le_of_ble_eq_true rfl) dX9_suit_86
            · refine j_iload E 58 rfl dX9_suit_56 (lv_at hl 8 rfl) ?_
              refine j_aload_n E 59 rfl dX9_suit_58 rfl (lv_at hl 2 rfl) ?_
              refine g_187 E hK hw fl_X9_37 t_o (v_0 187 o) rfl 62 rfl dX9_suit_59 (fun rr10_ => ?_)
              refine j_icmp_gt E 65 85 rfl r_v_d rr10_ dX9_suit_62 (by decide) (fun cc11_ => ?_) (fun cc11_ => ?_)
              · refine j_iconst E 86 rfl dX9_suit_85 ?_
                exact hret 86 ((-1)) T _ _ _ ls _ _ hw hoT_ (rr (by decide)) (⟨t_o, ⟨rfl, rfl, rfl, rfl⟩, rfl, rfl, rfl, rfl, rfl, trivial⟩) (Nat.le_of_ble_eq_true rfl) (Nat.le_of_ble_eq_true rfl) dX9_suit_86
              · refine j_iload E 67 rfl dX9_suit_65 (lv_at hl 8 rfl) ?_
                refine j_aload E 69 rfl dX9_suit_67 (lv_at hl 1 rfl) ?_
                refine g_42 E hK hw fl_X9_113 te1_ (v_0 42 xx1_) rfl 72 rfl dX9_suit_69 (fun rr12_ => ?_)
                refine j_icmp_lt E 75 85 rfl r_v_d rr12_ dX9_suit_72 (by decide) (fun cc13_ => ?_) (fun cc13_ => ?_)
                · refine j_iconst E 86 rfl dX9_suit_85 ?_
                  exact hret 86 ((-1)) T _ _ _ ls _ _ hw hoT_ (rr (by decide)) (⟨t_o, ⟨rfl, rfl, rfl, rfl⟩, rfl, rfl, rfl, rfl, rfl, trivial⟩) (Nat.le_of_ble_eq_true rfl) (Nat.le_of_ble_eq_true rfl) dX9_suit_86
                · refine j_iload E 77 rfl dX9_suit_75 (lv_at hl 8 rfl) ?_
                  refine j_aload E 79 rfl dX9_suit_77 (lv_at hl 0 rfl) ?_
                  refine g_42 E hK hw fl_X9_113 te3_ (v_0 42 xx3_) rfl 82 rfl dX9_suit_79 (fun rr14_ => ?_)
                  refine j_icmp_ge E 85 87 rfl r_v_d rr14_ dX9_suit_82 (by decide) (fun cc15_ => ?_) (fun cc15_ => ?_)
                  · refine j_aload E 89 rfl dX9_suit_87 (lv_at hl 1 rfl) ?_
                    refine g_41 E hK hw fl_X9_110 te1_ (v_0 41 xx1_) rfl 92 rfl dX9_suit_89 (fun rr16_ => ?_)
                    refine j_aload E 94 rfl dX9_suit_92 (lv_at hl 0 rfl) ?_
                    refine g_41 E hK hw fl_X9_110 te3_ (v_0 41 xx3_) rfl 97 rfl dX9_suit_94 (fun rr17_ => ?_)
                    refine j_icmp_ne E 100 104 rfl rr16_ rr17_ dX9_suit_97 (by decide) (fun cc18_ => ?_) (fun cc18_ => ?_)
                    · refine j_iconst E 105 rfl dX9_suit_104 ?_
                      refine j_istore E 107 rfl [(9, .int (J 0)), (8, .ref xx3_), (7, .ref xx1_), (0, .ref o), (1, .int (J v_p)), (2, .int (J v_q)), (3, .int (J v_l)), (4, .int (J v_h)), (5, .int (J v_w)), (6, .int (J v_d))] dX9_suit_105 hl (by decide) rfl (fun ls hl => ?_)
                      refine j_aload_n E 108 rfl dX9_suit_107 rfl (lv_at hl 3 rfl) ?_
                      refine g_193 E hK hw fl_X9_62 t_o 111 rfl dX9_suit_108 ?_
                      refine j_iload E 113 rfl dX9_suit_111 (lv_at hl 7 rfl) ?_
                      refine j_iload E 115 rfl dX9_suit_113 (lv_at hl 8 rfl) ?_
                      refine j_aload_n E 116 rfl dX9_suit_115 rfl (lv_at hl 3 rfl) ?_
                      refine g_187 E hK hw fl_X9_37 t_o (v_0 187 o) rfl 119 rfl dX9_suit_116 (fun _ => ?_)
                      refine j_iload E 121 rfl dX9_suit_119 (lv_at hl 9 rfl) ?_
                      refine j_isub E 122 rfl dX9_suit_121 ?_
                      refine j_norm (fun zz19_ rr19_ ee19_ => ?_)
                      refine j_iload E 124 rfl dX9_suit_122 (lv_at hl 0 rfl) ?_
                      refine j_iload E 126 rfl dX9_suit_124 (lv_at hl 9 rfl) ?_
                      refine j_aload E 128 rfl dX9_suit_126 (lv_at hl 1 rfl) ?_
                      refine g_42 E hK hw fl_X9_113 te3_ (v_0 42 xx3_) rfl 131 rfl dX9_suit_128 (fun _ => ?_)
                      refine j_isub E 132 rfl dX9_suit_131 ?_
                      refine j_norm (fun zz20_ rr20_ ee20_ => ?_)
                      refine kV_i E (c_X4_takeFacts l D cy T (v_0) (T 193 o) v_h v_w zz19_ 0 zz20_  (wt_193 hT t_o) r_v_h r_v_w rr19_ (rr (by decide)) rr20_ ) mt_X4_takeFacts ml_X9_292 hK hw (cw_rc5 hK hw.1 (wt_193 hT t_o)) hA ⟨Nat.le_of_ble_eq_true rfl, Nat.le_of_ble_eq_true rfl⟩ ⟨Nat.le_of_ble_eq_true rfl, Nat.le_of_ble_eq_true rfl⟩ (As := [.int (J v_h), .int (J v_w), .int (J zz19_), .int (J 0), .int (J zz20_)]) (rest := []) rfl rfl hl.1 (Nat.le_of_ble_eq_true rfl) 135 rfl dX9_suit_132 (fun zz21_ v_21 H locs rr21_ hq21_ hw => ?_)
                      obtain ⟨ev21_, hh21_⟩ := hq21_
                      rw [ev21_] at hw; clear ev21_
                      refine j_if_ne E 138 140 rfl rr21_ dX9_suit_135 (by decide) (fun cc22_ => ?_) (fun cc22_ => ?_)
                      · refine j_aload_n E 141 rfl dX9_suit_140 rfl (lv_at hl 3 rfl) ?_
                        refine g_183 E hK hw fl_X9_22 t_o 144 rfl dX9_suit_141 ?_
                        have hw0_ := hw
                        refine n_obj7 E hK hw hA cl_X9_131 (Nat.le_of_ble_eq_true rfl) (Nat.le_of_ble_eq_true rfl) 147 rfl dX9_suit_144 (fun q23_ T23_ H hge23_ hx23_ ho23_ tq23_ hw => ?_)
                        have fq23_ : s.heap.size ≤ q23_ := Nat.le_trans hw0_.2.2.1 hge23_
                        have hw : WK D cy T23_ (upV (upV (upV (upV (upV (upV (upV v_0 140 (upB (v_0 140) q23_ 0)) 141 (upB (v_0 141) q23_ 0)) 142 (upB (v_0 142) q23_ 0)) 143 (upB (v_0 143) q23_ 0)) 144 (upB (v_0 144) q23_ 0)) 145 (upB (v_0 145) q23_ 0)) 146 (upB (v_0 146) q23_ 0)) A0 s.heap H locs := hw
                        have hT23_ : WT T23_ := hw.1.2.1
                        have hO23_ : ∀ x, ow T23_ x → κ 2 2 ≤ x := fun x h => hAc x (hw.2.1 x h)
                        have hoT_ : OW T T23_ s.heap.size := OW.tr hw0_.2.2.1 hoT_ ho23_
                        have u24_ : T23_ 0 o = 9 := (hx23_ o (Nat.ne_of_lt (Nat.lt_of_lt_of_le (cw_lt hw0_.1 t_o (fun _ _ _ => ⟨_, rfl⟩)) hge23_)) 0).trans t_o
                        have u25_ : T23_ 0 xx1_ = 2 := (hx23_ xx1_ (Nat.ne_of_lt (Nat.lt_of_lt_of_le (cw_lt hw0_.1 te1_ (fun _ _ _ => ⟨_, rfl⟩)) hge23_)) 0).trans te1_
                        have u26_ : T23_ 0 xx3_ = 2 := (hx23_ xx3_ (Nat.ne_of_lt (Nat.lt_of_lt_of_le (cw_lt hw0_.1 te3_ (fun _ _ _ => ⟨_, rfl⟩)) hge23_)) 0).trans te3_
                        have u27_ : T23_ 0 (T 183 o) = 10 := (hx23_ (T 183 o) (Nat.ne_of_lt (Nat.lt_of_lt_of_le (cw_lt hw0_.1 (wt_183 hT t_o) (fun _ _ _ => ⟨_, rfl⟩)) hge23_)) 0).trans (wt_183 hT t_o)
                        have u28_ : T23_ 2 (T 183 o) = 7 := (hx23_ (T 183 o) (Nat.ne_of_lt (Nat.lt_of_lt_of_le (cw_lt hw0_.1 (wt_183 hT t_o) (fun _ _ _ => ⟨_, rfl⟩)) hge23_)) 2).trans (we_183 hT t_o)
                        have u29_ : T23_ 180 o = T 180 o := (hx23_ o (Nat.ne_of_lt (Nat.lt_of_lt_of_le (cw_lt hw0_.1 t_o (fun _ _ _ => ⟨_, rfl⟩)) hge23_)) 180).trans rfl
                        have u30_ : T23_ 181 o = T 181 o := (hx23_ o (Nat.ne_of_lt (Nat.lt_of_lt_of_le (cw_lt hw0_.1 t_o (fun _ _ _ => ⟨_, rfl⟩)) hge23_)) 181).trans rfl
                        have u31_ : T23_ 182 o = T 182 o := (hx23_ o (Nat.ne_of_lt (Nat.lt_of_lt_of_le (cw_lt hw0_.1 t_o (fun _ _ _ => ⟨_, rfl⟩)) hge23_)) 182).trans rfl
                        have u32_ : T23_ 183 o = T 183 o := (hx23_ o (Nat.ne_of_lt (Nat.lt_of_lt_of_le (cw_lt hw0_.1 t_o (fun _ _ _ => ⟨_, rfl⟩)) hge23_)) 183).trans rfl
                        refine j_dup E 148 rfl dX9_suit_147 rfl ?_
                        refine j_iload_n E 149 rfl dX9_suit_148 rfl (lv_at hl 4 rfl) ?_
                        refine j_iload_n E 150 rfl dX9_suit_149 rfl (lv_at hl 5 rfl) ?_
                        refine j_iload_n E 151 rfl dX9_suit_150 rfl (lv_at hl 6 rfl) ?_
                        refine j_aload_n E 152 rfl dX9_suit_151 rfl (lv_at hl 3 rfl) ?_
                        refine j_iload_n E 153 rfl dX9_suit_152 rfl (lv_at hl 6 rfl) ?_
                        refine j_aload_n E 154 rfl dX9_suit_153 rfl (lv_at hl 3 rfl) ?_
                        refine g_187 E hK hw fl_X9_37 u24_ (v_0 187 o) rfl 157 rfl dX9_suit_154 (fun _ => ?_)
                        refine j_iconst E 158 rfl dX9_suit_157 ?_
                        refine j_isub E 159 rfl dX9_suit_158 ?_
                        refine j_norm (fun zz33_ rr33_ ee33_ => ?_)
                        refine kV_i E (c_X9_reckonByLaw l D cy T23_ (upV (upV (upV (upV (upV (upV (upV v_0 140 (upB (v_0 140) q23_ 0)) 141 (upB (v_0 141) q23_ 0)) 142 (upB (v_0 142) q23_ 0)) 143 (upB (v_0 143) q23_ 0)) 144 (upB (v_0 144) q23_ 0)) 145 (upB (v_0 145) q23_ 0)) 146 (upB (v_0 146) q23_ 0)) o v_l zz33_  u24_ r_v_l rr33_ ) mt_X9_reckonByLaw ml_X9_296 hK hw (cw_rc9 hK hw.1 u24_) hA ⟨Nat.le_of_ble_eq_true rfl, Nat.le_of_ble_eq_true rfl⟩ ⟨Nat.le_of_ble_eq_true rfl, Nat.le_of_ble_eq_true rfl⟩ (As := [.int (J v_l), .int (J zz33_)]) (rest := [.int (J v_l), .int (J v_q), .int (J v_p), .ref q23_, .ref q23_, .ref (T 183 o)]) rfl rfl hl.1 (Nat.le_of_ble_eq_true rfl) 162 rfl dX9_suit_159 (fun zz34_ v_34 H locs rr34_ hq34_ hw => ?_)
                        obtain ⟨y103_34, ev34_, hh34_⟩ := hq34_
                        rw [ev34_] at hw; clear ev34_
                        refine j_aload_n E 163 rfl dX9_suit_162 rfl (lv_at hl 3 rfl) ?_
                        refine g_187 E hK hw fl_X9_37 u24_ (v_0 187 o) rfl 166 rfl dX9_suit_163 (fun _ => ?_)
                        refine j_aload_n E 167 rfl dX9_suit_166 rfl (lv_at hl 3 rfl) ?_
                        refine j_iload_n E 168 rfl dX9_suit_167 rfl (lv_at hl 4 rfl) ?_
                        refine j_aload E 170 rfl dX9_suit_168 (lv_at hl 2 rfl) ?_
                        refine g_41 E hK hw fl_X9_110 u25_ (v_0 41 xx1_) rfl 173 rfl dX9_suit_170 (fun _ => ?_)
                        refine kV_i E (c_X9_livingKinOf l D cy T23_ (upV (upV (upV (upV (upV (upV (upV (upV v_0 140 (upB (v_0 140) q23_ 0)) 141 (upB (v_0 141) q23_ 0)) 142 (upB (v_0 142) q23_ 0)) 143 (upB (v_0 143) q23_ 0)) 144 (upB (v_0 144) q23_ 0)) 145 (upB (v_0 145) q23_ 0)) 146 (upB (v_0 146) q23_ 0)) 103 y103_34) o v_p (v_0 41 xx1_)  u24_ r_v_p rr16_ ) mt_X9_livingKinOf ml_X9_313 hK hw (cw_rc9 hK hw.1 u24_) hA ⟨Nat.le_of_ble_eq_true rfl, Nat.le_of_ble_eq_true rfl⟩ ⟨Nat.le_of_ble_eq_true rfl, Nat.le_of_ble_eq_true rfl⟩ (As := [.int (J v_p), .int (J (v_0 41 xx1_))]) (rest := [.int (J (v_0 187 o)), .int (J zz34_), .int (J v_l), .int (J v_q), .int (J v_p), .ref q23_, .ref q23_, .ref (T 183 o)]) rfl rfl hl.1 (Nat.le_of_ble_eq_true rfl) 176 rfl dX9_suit_173 (fun zz35_ v_35 H locs rr35_ hq35_ hw => ?_)
                        obtain ⟨ev35_, hh35_⟩ := hq35_
                        rw [ev35_] at hw; clear ev35_
                        have hw0_ := hw
                        refine aI_v E (n_X6_init l D cy κ T23_ (upV (upV (upV (upV (upV (upV (upV (upV v_0 140 (upB (v_0 140) q23_ 0)) 141 (upB (v_0 141) q23_ 0)) 142 (upB (v_0 142) q23_ 0)) 143 (upB (v_0 143) q23_ 0)) 144 (upB (v_0 144) q23_ 0)) 145 (upB (v_0 145) q23_ 0)) 146 (upB (v_0 146) q23_ 0)) 103 y103_34) q23_ v_p v_q v_l zz34_ (v_0 187 o) zz35_ H.size  hO23_ tq23_ r_v_p r_v_q r_v_l rr34_ rr10_ rr35_ ) mi_X6_init ml_X9_316 hK hZ hAc hw hA ⟨(Nat.le_of_ble_eq_true rfl), (Nat.le_of_ble_eq_true rfl)⟩ ⟨(Nat.le_of_ble_eq_true rfl), (Nat.le_of_ble_eq_true rfl)⟩ (As := [.int (J v_p), .int (J v_q), .int (J v_l), .int (J zz34_), .int (J (v_0 187 o)), .int (J zz35_)]) (rest := [.ref q23_, .ref (T 183 o)]) rfl rfl hl.1 (Nat.le_of_ble_eq_true rfl) 179 rfl dX9_suit_176 (fun T36_ v_36 H locs hge36_ ho36_ hq36_ hw => ?_)
                        obtain ⟨y140_36, y141_36, y142_36, y143_36, y144_36, y145_36, y146_36, ev36_, hh36_⟩ := hq36_
                        rw [ev36_] at hw; clear ev36_
                        obtain ⟨hx36_, tq36_⟩ := hh36_
                        have hT36_ : WT T36_ := hw.1.2.1
                        have hO36_ : ∀ x, ow T36_ x → κ 2 2 ≤ x := fun x h => hAc x (hw.2.1 x h)
                        have hoT_ : OW T T36_ s.heap.size := OW.tr hw0_.2.2.1 hoT_ ho36_
                        have u37_ : T36_ 0 o = 9 := (hx36_ o (cw_lt hw0_.1 u24_ (fun _ _ _ => ⟨_, rfl⟩)) (ty_ne u24_ tq23_ (by decide)) 0).trans u24_
                        have u38_ : T36_ 0 xx1_ = 2 := (hx36_ xx1_ (cw_lt hw0_.1 u25_ (fun _ _ _ => ⟨_, rfl⟩)) (ty_ne u25_ tq23_ (by decide)) 0).trans u25_
                        have u39_ : T36_ 0 xx3_ = 2 := (hx36_ xx3_ (cw_lt hw0_.1 u26_ (fun _ _ _ => ⟨_, rfl⟩)) (ty_ne u26_ tq23_ (by decide)) 0).trans u26_
                        have u40_ : T36_ 0 (T 183 o) = 10 := (hx36_ (T 183 o) (cw_lt hw0_.1 u27_ (fun _ _ _ => ⟨_, rfl⟩)) (ty_ne u27_ tq23_ (by decide)) 0).trans u27_
                        have u41_ : T36_ 2 (T 183 o) = 7 := (hx36_ (T 183 o) (cw_lt hw0_.1 u27_ (fun _ _ _ => ⟨_, rfl⟩)) (ty_ne u27_ tq23_ (by decide)) 2).trans u28_
                        have u42_ : T36_ 180 o = T 180 o := (hx36_ o (cw_lt hw0_.1 u24_ (fun _ _ _ => ⟨_, rfl⟩)) (ty_ne u24_ tq23_ (by decide)) 180).trans u29_
                        have u43_ : T36_ 181 o = T 181 o := (hx36_ o (cw_lt hw0_.1 u24_ (fun _ _ _ => ⟨_, rfl⟩)) (ty_ne u24_ tq23_ (by decide)) 181).trans u30_
                        have u44_ : T36_ 182 o = T 182 o := (hx36_ o (cw_lt hw0_.1 u24_ (fun _ _ _ => ⟨_, rfl⟩)) (ty_ne u24_ tq23_ (by decide)) 182).trans u31_
                        have u45_ : T36_ 183 o = T 183 o := (hx36_ o (cw_lt hw0_.1 u24_ (fun _ _ _ => ⟨_, rfl⟩)) (ty_ne u24_ tq23_ (by decide)) 183).trans u32_
                        have hw0_ := hw
                        refine aV_i E (n_Jx4a65c_add_9ea2d l D cy κ T36_ (upV (upV (upV (upV (upV (upV (upV (upV (upV (upV (upV (upV (upV (upV (upV v_0 140 (upB (v_0 140) q23_ 0)) 141 (upB (v_0 141) q23_ 0)) 142 (upB (v_0 142) q23_ 0)) 143 (upB (v_0 143) q23_ 0)) 144 (upB (v_0 144) q23_ 0)) 145 (upB (v_0 145) q23_ 0)) 146 (upB (v_0 146) q23_ 0)) 103 y103_34) 140 y140_36) 141 y141_36) 142 y142_36) 143 y143_36) 144 y144_36) 145 y145_36) 146 y146_36) (T 183 o) q23_ H.size  hO36_ u40_  (tq36_.trans u41_.symm) (fun x_ h_ => hp0 x_ ((hoT_ x_).2 h_)) (show ((v_0 202) ((T 183 o))) ≤ 200 from by omega)) mt_Jx4a65c_add_9ea2d ml_X9_89 hK hZ hAc hw (cw_rc10 hK hw.1 u40_) hA ⟨(Nat.le_of_ble_eq_true rfl), (Nat.le_of_ble_eq_true rfl)⟩ ⟨(Nat.le_of_ble_eq_true rfl), (Nat.le_of_ble_eq_true rfl)⟩ (As := [.ref q23_]) (rest := []) rfl rfl hl.1 (Nat.le_of_ble_eq_true rfl) 182 rfl dX9_suit_179 (fun zz46_ T46_ v_46 H locs rr46_ hge46_ ho46_ hq46_ hw => ?_)
                        obtain ⟨y200_46, y202_46, ev46_, hh46_⟩ := hq46_
                        rw [ev46_] at hw; clear ev46_
                        obtain ⟨hy46_, hx46_, hz46_, hl46_⟩ := hh46_
                        have hy46_ : y202_46 = upB (v_0 202) (T 183 o) ((v_0 202) (T 183 o) + 1) := hy46_
                        have hT46_ : WT T46_ := hw.1.2.1
                        have hO46_ : ∀ x, ow T46_ x → κ 2 2 ≤ x := fun x h => hAc x (hw.2.1 x h)
                        have hoT_ : OW T T46_ s.heap.size := OW.tr hw0_.2.2.1 hoT_ ho46_
                        have u47_ : T46_ 0 o = 9 := (hx46_ o (cw_lt hw0_.1 u37_ (fun _ _ _ => ⟨_, rfl⟩)) (ty_ne u37_ u40_ (by decide)) (by rw [u37_]; decide) 0).trans u37_
                        have u48_ : T46_ 0 xx1_ = 2 := (hx46_ xx1_ (cw_lt hw0_.1 u38_ (fun _ _ _ => ⟨_, rfl⟩)) (ty_ne u38_ u40_ (by decide)) (by rw [u38_]; decide) 0).trans u38_
                        have u49_ : T46_ 0 xx3_ = 2 := (hx46_ xx3_ (cw_lt hw0_.1 u39_ (fun _ _ _ => ⟨_, rfl⟩)) (ty_ne u39_ u40_ (by decide)) (by rw [u39_]; decide) 0).trans u39_
                        have u50_ : T46_ 180 o = T 180 o := (hx46_ o (cw_lt hw0_.1 u37_ (fun _ _ _ => ⟨_, rfl⟩)) (ty_ne u37_ u40_ (by decide)) (by rw [u37_]; decide) 180).trans u42_
                        have u51_ : T46_ 181 o = T 181 o := (hx46_ o (cw_lt hw0_.1 u37_ (fun _ _ _ => ⟨_, rfl⟩)) (ty_ne u37_ u40_ (by decide)) (by rw [u37_]; decide) 181).trans u43_
                        have u52_ : T46_ 182 o = T 182 o := (hx46_ o (cw_lt hw0_.1 u37_ (fun _ _ _ => ⟨_, rfl⟩)) (ty_ne u37_ u40_ (by decide)) (by rw [u37_]; decide) 182).trans u44_
                        have u53_ : T46_ 183 o = T 183 o := (hx46_ o (cw_lt hw0_.1 u37_ (fun _ _ _ => ⟨_, rfl⟩)) (ty_ne u37_ u40_ (by decide)) (by rw [u37_]; decide) 183).trans u45_
                        refine j_pop E 183 rfl dX9_suit_182 rfl ?_
                        refine j_aload_n E 184 rfl dX9_suit_183 rfl (lv_at hl 3 rfl) ?_
                        refine g_183 E hK hw fl_X9_22 u47_ 187 rfl dX9_suit_184 ?_
                        refine kV_i E (c_Jx4a65c_size_8abf5 l D cy T46_ (upV (upV (upV (upV (upV (upV (upV (upV (upV (upV (upV (upV (upV (upV (upV (upV (upV v_0 140 (upB (v_0 140) q23_ 0)) 141 (upB (v_0 141) q23_ 0)) 142 (upB (v_0 142) q23_ 0)) 143 (upB (v_0 143) q23_ 0)) 144 (upB (v_0 144) q23_ 0)) 145 (upB (v_0 145) q23_ 0)) 146 (upB (v_0 146) q23_ 0)) 103 y103_34) 140 y140_36) 141 y141_36) 142 y142_36) 143 y143_36) 144 y144_36) 145 y145_36) 146 y146_36) 200 y200_46) 202 y202_46) (T46_ 183 o)  (wt_183 hT46_ u47_)  ) mt_Jx4a65c_size_8abf5 ml_X9_80 hK hw (cw_rc10 hK hw.1 (wt_183 hT46_ u47_)) hA ⟨Nat.le_of_ble_eq_true rfl, Nat.le_of_ble_eq_true rfl⟩ ⟨Nat.le_of_ble_eq_true rfl, Nat.le_of_ble_eq_true rfl⟩ (As := []) (rest := []) rfl rfl hl.1 (Nat.le_of_ble_eq_true rfl) 190 rfl dX9_suit_187 (fun zz54_ v_54 H locs rr54_ hq54_ hw => ?_)
                        obtain ⟨ev54_, hh54_⟩ := hq54_
                        rw [ev54_] at hw; clear ev54_
                        have hh54_ : zz54_ = (y202_46 ((T46_ 183 o))) ∧ 0 ≤ zz54_ := hh54_
                        refine j_iconst E 191 rfl dX9_suit_190 ?_
                        refine j_isub E 192 rfl dX9_suit_191 ?_
                        refine j_norm (fun zz55_ rr55_ ee55_ => ?_)
                        exact hret 192 zz55_ T46_ _ _ _ ls _ _ hw hoT_ rr55_ (⟨u47_, ⟨u50_, u51_, u52_, u53_⟩, rfl, rfl, (by show y202_46 (T 180 o) = v_0 202 (T 180 o); rw [hy46_]; exact upB_ne ((ls_ne hT t_o).2.2.1)), (by show y202_46 (T 181 o) = v_0 202 (T 181 o); rw [hy46_]; exact upB_ne ((ls_ne hT t_o).2.2.2.2.2.1)), (by show y202_46 (T 182 o) = v_0 202 (T 182 o); rw [hy46_]; exact upB_ne ((ls_ne hT t_o).2.2.2.2.2.2.2.2.1)), trivial⟩) (Nat.le_of_ble_eq_true rfl) (Nat.le_of_ble_eq_true rfl) dX9_suit_192
                      · refine j_iconst E 139 rfl dX9_suit_138 ?_
                        exact hret 139 ((-1)) T _ _ _ ls _ _ hw hoT_ (rr (by decide)) (⟨t_o, ⟨rfl, rfl, rfl, rfl⟩, rfl, rfl, rfl, rfl, rfl, trivial⟩) (Nat.le_of_ble_eq_true rfl) (Nat.le_of_ble_eq_true rfl) dX9_suit_139
                    · refine j_iconst E 101 rfl dX9_suit_100 ?_
                      refine j_goto E 105 dX9_suit_101 (by decide) ?_
                      refine j_istore E 107 rfl [(9, .int (J 1)), (8, .ref xx3_), (7, .ref xx1_), (0, .ref o), (1, .int (J v_p)), (2, .int (J v_q)), (3, .int (J v_l)), (4, .int (J v_h)), (5, .int (J v_w)), (6, .int (J v_d))] dX9_suit_105 hl (by decide) rfl (fun ls hl => ?_)
                      refine j_aload_n E 108 rfl dX9_suit_107 rfl (lv_at hl 3 rfl) ?_
                      refine g_193 E hK hw fl_X9_62 t_o 111 rfl dX9_suit_108 ?_
                      refine j_iload E 113 rfl dX9_suit_111 (lv_at hl 7 rfl) ?_
                      refine j_iload E 115 rfl dX9_suit_113 (lv_at hl 8 rfl) ?_
                      refine j_aload_n E 116 rfl dX9_suit_115 rfl (lv_at hl 3 rfl) ?_
                      refine g_187 E hK hw fl_X9_37 t_o (v_0 187 o) rfl 119 rfl dX9_suit_116 (fun _ => ?_)
                      refine j_iload E 121 rfl dX9_suit_119 (lv_at hl 9 rfl) ?_
                      refine j_isub E 122 rfl dX9_suit_121 ?_
                      refine j_norm (fun zz56_ rr56_ ee56_ => ?_)
                      refine j_iload E 124 rfl dX9_suit_122 (lv_at hl 0 rfl) ?_
                      refine j_iload E 126 rfl dX9_suit_124 (lv_at hl 9 rfl) ?_
                      refine j_aload E 128 rfl dX9_suit_126 (lv_at hl 1 rfl) ?_
                      refine g_42 E hK hw fl_X9_113 te3_ (v_0 42 xx3_) rfl 131 rfl dX9_suit_128 (fun _ => ?_)
                      refine j_isub E 132 rfl dX9_suit_131 ?_
                      refine j_norm (fun zz57_ rr57_ ee57_ => ?_)
                      refine kV_i E (c_X4_takeFacts l D cy T (v_0) (T 193 o) v_h v_w zz56_ 1 zz57_  (wt_193 hT t_o) r_v_h r_v_w rr56_ (rr (by decide)) rr57_ ) mt_X4_takeFacts ml_X9_292 hK hw (cw_rc5 hK hw.1 (wt_193 hT t_o)) hA ⟨Nat.le_of_ble_eq_true rfl, Nat.le_of_ble_eq_true rfl⟩ ⟨Nat.le_of_ble_eq_true rfl, Nat.le_of_ble_eq_true rfl⟩ (As := [.int (J v_h), .int (J v_w), .int (J zz56_), .int (J 1), .int (J zz57_)]) (rest := []) rfl rfl hl.1 (Nat.le_of_ble_eq_true rfl) 135 rfl dX9_suit_132 (fun zz58_ v_58 H locs rr58_ hq58_ hw => ?_)
                      obtain ⟨ev58_, hh58_⟩ := hq58_
                      rw [ev58_] at hw; clear ev58_
                      refine j_if_ne E 138 140 rfl rr58_ dX9_suit_135 (by decide) (fun cc59_ => ?_) (fun cc59_ => ?_)
                      · refine j_aload_n E 141 rfl dX9_suit_140 rfl (lv_at hl 3 rfl) ?_
                        refine g_183 E hK hw fl_X9_22 t_o 144 rfl dX9_suit_141 ?_
                        have hw0_ := hw
                        refine n_obj7 E hK hw hA cl_X9_131 (Nat.le_of_ble_eq_true rfl) (Nat.le_of_ble_eq_true rfl) 147 rfl dX9_suit_144 (fun q60_ T60_ H hge60_ hx60_ ho60_ tq60_ hw => ?_)
                        have fq60_ : s.heap.size ≤ q60_ := Nat.le_trans hw0_.2.2.1 hge60_
                        have hw : WK D cy T60_ (upV (upV (upV (upV (upV (upV (upV v_0 140 (upB (v_0 140) q60_ 0)) 141 (upB (v_0 141) q60_ 0)) 142 (upB (v_0 142) q60_ 0)) 143 (upB (v_0 143) q60_ 0)) 144 (upB (v_0 144) q60_ 0)) 145 (upB (v_0 145) q60_ 0)) 146 (upB (v_0 146) q60_ 0)) A0 s.heap H locs := hw
                        have hT60_ : WT T60_ := hw.1.2.1
                        have hO60_ : ∀ x, ow T60_ x → κ 2 2 ≤ x := fun x h => hAc x (hw.2.1 x h)
                        have hoT_ : OW T T60_ s.heap.size := OW.tr hw0_.2.2.1 hoT_ ho60_
                        have u61_ : T60_ 0 o = 9 := (hx60_ o (Nat.ne_of_lt (Nat.lt_of_lt_of_le (cw_lt hw0_.1 t_o (fun _ _ _ => ⟨_, rfl⟩)) hge60_)) 0).trans t_o
                        have u62_ : T60_ 0 xx1_ = 2 := (hx60_ xx1_ (Nat.ne_of_lt (Nat.lt_of_lt_of_le (cw_lt hw0_.1 te1_ (fun _ _ _ => ⟨_, rfl⟩)) hge60_)) 0).trans te1_
                        have u63_ : T60_ 0 xx3_ = 2 := (hx60_ xx3_ (Nat.ne_of_lt (Nat.lt_of_lt_of_le (cw_lt hw0_.1 te3_ (fun _ _ _ => ⟨_, rfl⟩)) hge60_)) 0).trans te3_
                        have u64_ : T60_ 0 (T 183 o) = 10 := (hx60_ (T 183 o) (Nat.ne_of_lt (Nat.lt_of_lt_of_le (cw_lt hw0_.1 (wt_183 hT t_o) (fun _ _ _ => ⟨_, rfl⟩)) hge60_)) 0).trans (wt_183 hT t_o)
                        have u65_ : T60_ 2 (T 183 o) = 7 := (hx60_ (T 183 o) (Nat.ne_of_lt (Nat.lt_of_lt_of_le (cw_lt hw0_.1 (wt_183 hT t_o) (fun _ _ _ => ⟨_, rfl⟩)) hge60_)) 2).trans (we_183 hT t_o)
                        have u66_ : T60_ 180 o = T 180 o := (hx60_ o (Nat.ne_of_lt (Nat.lt_of_lt_of_le (cw_lt hw0_.1 t_o (fun _ _ _ => ⟨_, rfl⟩)) hge60_)) 180).trans rfl
                        have u67_ : T60_ 181 o = T 181 o := (hx60_ o (Nat.ne_of_lt (Nat.lt_of_lt_of_le (cw_lt hw0_.1 t_o (fun _ _ _ => ⟨_, rfl⟩)) hge60_)) 181).trans rfl
                        have u68_ : T60_ 182 o = T 182 o := (hx60_ o (Nat.ne_of_lt (Nat.lt_of_lt_of_le (cw_lt hw0_.1 t_o (fun _ _ _ => ⟨_, rfl⟩)) hge60_)) 182).trans rfl
                        have u69_ : T60_ 183 o = T 183 o := (hx60_ o (Nat.ne_of_lt (Nat.lt_of_lt_of_le (cw_lt hw0_.1 t_o (fun _ _ _ => ⟨_, rfl⟩)) hge60_)) 183).trans rfl
                        refine j_dup E 148 rfl dX9_suit_147 rfl ?_
                        refine j_iload_n E 149 rfl dX9_suit_148 rfl (lv_at hl 4 rfl) ?_
                        refine j_iload_n E 150 rfl dX9_suit_149 rfl (lv_at hl 5 rfl) ?_
                        refine j_iload_n E 151 rfl dX9_suit_150 rfl (lv_at hl 6 rfl) ?_
                        refine j_aload_n E 152 rfl dX9_suit_151 rfl (lv_at hl 3 rfl) ?_
                        refine j_iload_n E 153 rfl dX9_suit_152 rfl (lv_at hl 6 rfl) ?_
                        refine j_aload_n E 154 rfl dX9_suit_153 rfl (lv_at hl 3 rfl) ?_
                        refine g_187 E hK hw fl_X9_37 u61_ (v_0 187 o) rfl 157 rfl dX9_suit_154 (fun _ => ?_)
                        refine j_iconst E 158 rfl dX9_suit_157 ?_
                        refine j_isub E 159 rfl dX9_suit_158 ?_
                        refine j_norm (fun zz70_ rr70_ ee70_ => ?_)
                        refine kV_i E (c_X9_reckonByLaw l D cy T60_ (upV (upV (upV (upV (upV (upV (upV v_0 140 (upB (v_0 140) q60_ 0)) 141 (upB (v_0 141) q60_ 0)) 142 (upB (v_0 142) q60_ 0)) 143 (upB (v_0 143) q60_ 0)) 144 (upB (v_0 144) q60_ 0)) 145 (upB (v_0 145) q60_ 0)) 146 (upB (v_0 146) q60_ 0)) o v_l zz70_  u61_ r_v_l rr70_ ) mt_X9_reckonByLaw ml_X9_296 hK hw (cw_rc9 hK hw.1 u61_) hA ⟨Nat.le_of_ble_eq_true rfl, Nat.le_of_ble_eq_true rfl⟩ ⟨Nat.le_of_ble_eq_true rfl, Nat.le_of_ble_eq_true rfl⟩ (As := [.int (J v_l), .int (J zz70_)]) (rest := [.int (J v_l), .int (J v_q), .int (J v_p), .ref q60_, .ref q60_, .ref (T 183 o)]) rfl rfl hl.1 (Nat.le_of_ble_eq_true rfl) 162 rfl dX9_suit_159 (fun zz71_ v_71 H locs rr71_ hq71_ hw => ?_)
                        obtain ⟨y103_71, ev71_, hh71_⟩ := hq71_
                        rw [ev71_] at hw; clear ev71_
                        refine j_aload_n E 163 rfl dX9_suit_162 rfl (lv_at hl 3 rfl) ?_
                        refine g_187 E hK hw fl_X9_37 u61_ (v_0 187 o) rfl 166 rfl dX9_suit_163 (fun _ => ?_)
                        refine j_aload_n E 167 rfl dX9_suit_166 rfl (lv_at hl 3 rfl) ?_
                        refine j_iload_n E 168 rfl dX9_suit_167 rfl (lv_at hl 4 rfl) ?_
                        refine j_aload E 170 rfl dX9_suit_168 (lv_at hl 2 rfl) ?_
                        refine g_41 E hK hw fl_X9_110 u62_ (v_0 41 xx1_) rfl 173 rfl dX9_suit_170 (fun _ => ?_)
                        refine kV_i E (c_X9_livingKinOf l D cy T60_ (upV (upV (upV (upV (upV (upV (upV (upV v_0 140 (upB (v_0 140) q60_ 0)) 141 (upB (v_0 141) q60_ 0)) 142 (upB (v_0 142) q60_ 0)) 143 (upB (v_0 143) q60_ 0)) 144 (upB (v_0 144) q60_ 0)) 145 (upB (v_0 145) q60_ 0)) 146 (upB (v_0 146) q60_ 0)) 103 y103_71) o v_p (v_0 41 xx1_)  u61_ r_v_p rr16_ ) mt_X9_livingKinOf ml_X9_313 hK hw (cw_rc9 hK hw.1 u61_) hA ⟨Nat.le_of_ble_eq_true rfl, Nat.le_of_ble_eq_true rfl⟩ ⟨Nat.le_of_ble_eq_true rfl, Nat.le_of_ble_eq_true rfl⟩ (As := [.int (J v_p), .int (J (v_0 41 xx1_))]) (rest := [.int (J (v_0 187 o)), .int (J zz71_), .int (J v_l), .int (J v_q), .int (J v_p), .ref q60_, .ref q60_, .ref (T 183 o)]) rfl rfl hl.1 (Nat.le_of_ble_eq_true rfl) 176 rfl dX9_suit_173 (fun zz72_ v_72 H locs rr72_ hq72_ hw => ?_)
                        obtain ⟨ev72_, hh72_⟩ := hq72_
                        rw [ev72_] at hw; clear ev72_
                        have hw0_ := hw
                        refine aI_v E (n_X6_init l D cy κ T60_ (upV (upV (upV (upV (upV (upV (upV (upV v_0 140 (upB (v_0 140) q60_ 0)) 141 (upB (v_0 141) q60_ 0)) 142 (upB (v_0 142) q60_ 0)) 143 (upB (v_0 143) q60_ 0)) 144 (upB (v_0 144) q60_ 0)) 145 (upB (v_0 145) q60_ 0)) 146 (upB (v_0 146) q60_ 0)) 103 y103_71) q60_ v_p v_q v_l zz71_ (v_0 187 o) zz72_ H.size  hO60_ tq60_ r_v_p r_v_q r_v_l rr71_ rr10_ rr72_ ) mi_X6_init ml_X9_316 hK hZ hAc hw hA ⟨(Nat.le_of_ble_eq_true rfl), (Nat.le_of_ble_eq_true rfl)⟩ ⟨(Nat.le_of_ble_eq_true rfl), (Nat.le_of_ble_eq_true rfl)⟩ (As := [.int (J v_p), .int (J v_q), .int (J v_l), .int (J zz71_), .int (J (v_0 187 o)), .int (J zz72_)]) (rest := [.ref q60_, .ref (T 183 o)]) rfl rfl hl.1 (Nat.le_of_ble_eq_true rfl) 179 rfl dX9_suit_176 (fun T73_ v_73 H locs hge73_ ho73_ hq73_ hw => ?_)
                        obtain ⟨y140_73, y141_73, y142_73, y143_73, y144_73, y145_73, y146_73, ev73_, hh73_⟩ := hq73_
                        rw [ev73_] at hw; clear ev73_
                        obtain ⟨hx73_, tq73_⟩ := hh73_
                        have hT73_ : WT T73_ := hw.1.2.1
                        have hO73_ : ∀ x, ow T73_ x → κ 2 2 ≤ x := fun x h => hAc x (hw.2.1 x h)
                        have hoT_ : OW T T73_ s.heap.size := OW.tr hw0_.2.2.1 hoT_ ho73_
                        have u74_ : T73_ 0 o = 9 := (hx73_ o (cw_lt hw0_.1 u61_ (fun _ _ _ => ⟨_, rfl⟩)) (ty_ne u61_ tq60_ (by decide)) 0).trans u61_
                        have u75_ : T73_ 0 xx1_ = 2 := (hx73_ xx1_ (cw_lt hw0_.1 u62_ (fun _ _ _ => ⟨_, rfl⟩)) (ty_ne u62_ tq60_ (by decide)) 0).trans u62_
                        have u76_ : T73_ 0 xx3_ = 2 := (hx73_ xx3_ (cw_lt hw0_.1 u63_ (fun _ _ _ => ⟨_, rfl⟩)) (ty_ne u63_ tq60_ (by decide)) 0).trans u63_
                        have u77_ : T73_ 0 (T 183 o) = 10 := (hx73_ (T 183 o) (cw_lt hw0_.1 u64_ (fun _ _ _ => ⟨_, rfl⟩)) (ty_ne u64_ tq60_ (by decide)) 0).trans u64_
                        have u78_ : T73_ 2 (T 183 o) = 7 := (hx73_ (T 183 o) (cw_lt hw0_.1 u64_ (fun _ _ _ => ⟨_, rfl⟩)) (ty_ne u64_ tq60_ (by decide)) 2).trans u65_
                        have u79_ : T73_ 180 o = T 180 o := (hx73_ o (cw_lt hw0_.1 u61_ (fun _ _ _ => ⟨_, rfl⟩)) (ty_ne u61_ tq60_ (by decide)) 180).trans u66_
                        have u80_ : T73_ 181 o = T 181 o := (hx73_ o (cw_lt hw0_.1 u61_ (fun _ _ _ => ⟨_, rfl⟩)) (ty_ne u61_ tq60_ (by decide)) 181).trans u67_
                        have u81_ : T73_ 182 o = T 182 o := (hx73_ o (cw_lt hw0_.1 u61_ (fun _ _ _ => ⟨_, rfl⟩)) (ty_ne u61_ tq60_ (by decide)) 182).trans u68_
                        have u82_ : T73_ 183 o = T 183 o := (hx73_ o (cw_lt hw0_.1 u61_ (fun _ _ _ => ⟨_, rfl⟩)) (ty_ne u61_ tq60_ (by decide)) 183).trans u69_
                        have hw0_ := hw
                        refine aV_i E (n_Jx4a65c_add_9ea2d l D cy κ T73_ (upV (upV (upV (upV (upV (upV (upV (upV (upV (upV (upV (upV (upV (upV (upV v_0 140 (upB (v_0 140) q60_ 0)) 141 (upB (v_0 141) q60_ 0)) 142 (upB (v_0 142) q60_ 0)) 143 (upB (v_0 143) q60_ 0)) 144 (upB (v_0 144) q60_ 0)) 145 (upB (v_0 145) q60_ 0)) 146 (upB (v_0 146) q60_ 0)) 103 y103_71) 140 y140_73) 141 y141_73) 142 y142_73) 143 y143_73) 144 y144_73) 145 y145_73) 146 y146_73) (T 183 o) q60_ H.size  hO73_ u77_  (tq73_.trans u78_.symm) (fun x_ h_ => hp0 x_ ((hoT_ x_).2 h_)) (show ((v_0 202) ((T 183 o))) ≤ 200 from by omega)) mt_Jx4a65c_add_9ea2d ml_X9_89 hK hZ hAc hw (cw_rc10 hK hw.1 u77_) hA ⟨(Nat.le_of_ble_eq_true rfl), (Nat.le_of_ble_eq_true rfl)⟩ ⟨(Nat.le_of_ble_eq_true rfl), (Nat.le_of_ble_eq_true rfl)⟩ (As := [.ref q60_]) (rest := []) rfl rfl hl.1 (Nat.le_of_ble_eq_true rfl) 182 rfl dX9_suit_179 (fun zz83_ T83_ v_83 H locs rr83_ hge83_ ho83_ hq83_ hw => ?_)
                        obtain ⟨y200_83, y202_83, ev83_, hh83_⟩ := hq83_
                        rw [ev83_] at hw; clear ev83_
                        obtain ⟨hy83_, hx83_, hz83_, hl83_⟩ := hh83_
                        have hy83_ : y202_83 = upB (v_0 202) (T 183 o) ((v_0 202) (T 183 o) + 1) := hy83_
                        have hT83_ : WT T83_ := hw.1.2.1
                        have hO83_ : ∀ x, ow T83_ x → κ 2 2 ≤ x := fun x h => hAc x (hw.2.1 x h)
                        have hoT_ : OW T T83_ s.heap.size := OW.tr hw0_.2.2.1 hoT_ ho83_
                        have u84_ : T83_ 0 o = 9 := (hx83_ o (cw_lt hw0_.1 u74_ (fun _ _ _ => ⟨_, rfl⟩)) (ty_ne u74_ u77_ (by decide)) (by rw [u74_]; decide) 0).trans u74_
                        have u85_ : T83_ 0 xx1_ = 2 := (hx83_ xx1_ (cw_lt hw0_.1 u75_ (fun _ _ _ => ⟨_, rfl⟩)) (ty_ne u75_ u77_ (by decide)) (by rw [u75_]; decide) 0).trans u75_
                        have u86_ : T83_ 0 xx3_ = 2 := (hx83_ xx3_ (cw_lt hw0_.1 u76_ (fun _ _ _ => ⟨_, rfl⟩)) (ty_ne u76_ u77_ (by decide)) (by rw [u76_]; decide) 0).trans u76_
                        have u87_ : T83_ 180 o = T 180 o := (hx83_ o (cw_lt hw0_.1 u74_ (fun _ _ _ => ⟨_, rfl⟩)) (ty_ne u74_ u77_ (by decide)) (by rw [u74_]; decide) 180).trans u79_
                        have u88_ : T83_ 181 o = T 181 o := (hx83_ o (cw_lt hw0_.1 u74_ (fun _ _ _ => ⟨_, rfl⟩)) (ty_ne u74_ u77_ (by decide)) (by rw [u74_]; decide) 181).trans u80_
                        have u89_ : T83_ 182 o = T 182 o := (hx83_ o (cw_lt hw0_.1 u74_ (fun _ _ _ => ⟨_, rfl⟩)) (ty_ne u74_ u77_ (by decide)) (by rw [u74_]; decide) 182).trans u81_
                        have u90_ : T83_ 183 o = T 183 o := (hx83_ o (cw_lt hw0_.1 u74_ (fun _ _ _ => ⟨_, rfl⟩)) (ty_ne u74_ u77_ (by decide)) (by rw [u74_]; decide) 183).trans u82_
                        refine j_pop E 183 rfl dX9_suit_182 rfl ?_
                        refine j_aload_n E 184 rfl dX9_suit_183 rfl (lv_at hl 3 rfl) ?_
                        refine g_183 E hK hw fl_X9_22 u84_ 187 rfl dX9_suit_184 ?_
                        refine kV_i E (c_Jx4a65c_size_8abf5 l D cy T83_ (upV (upV (upV (upV (upV (upV (upV (upV (upV (upV (upV (upV (upV (upV (upV (upV (upV v_0 140 (upB (v_0 140) q60_ 0)) 141 (upB (v_0 141) q60_ 0)) 142 (upB (v_0 142) q60_ 0)) 143 (upB (v_0 143) q60_ 0)) 144 (upB (v_0 144) q60_ 0)) 145 (upB (v_0 145) q60_ 0)) 146 (upB (v_0 146) q60_ 0)) 103 y103_71) 140 y140_73) 141 y141_73) 142 y142_73) 143 y143_73) 144 y144_73) 145 y145_73) 146 y146_73) 200 y200_83) 202 y202_83) (T83_ 183 o)  (wt_183 hT83_ u84_)  ) mt_Jx4a65c_size_8abf5 ml_X9_80 hK hw (cw_rc10 hK hw.1 (wt_183 hT83_ u84_)) hA ⟨Nat.le_of_ble_eq_true rfl, Nat.le_of_ble_eq_true rfl⟩ ⟨Nat.le_of_ble_eq_true rfl, Nat.le_of_ble_eq_true rfl⟩ (As := []) (rest := []) rfl rfl hl.1 (Nat.le_of_ble_eq_true rfl) 190 rfl dX9_suit_187 (fun zz91_ v_91 H locs rr91_ hq91_ hw => ?_)
                        obtain ⟨ev91_, hh91_⟩ := hq91_
                        rw [ev91_] at hw; clear ev91_
                        have hh91_ : zz91_ = (y202_83 ((T83_ 183 o))) ∧ 0 ≤ zz91_ := hh91_
                        refine j_iconst E 191 rfl dX9_suit_190 ?_
                        refine j_isub E 192 rfl dX9_suit_191 ?_
                        refine j_norm (fun zz92_ rr92_ ee92_ => ?_)
                        exact hret 192 zz92_ T83_ _ _ _ ls _ _ hw hoT_ rr92_ (⟨u84_, ⟨u87_, u88_, u89_, u90_⟩, rfl, rfl, (by show y202_83 (T 180 o) = v_0 202 (T 180 o); rw [hy83_]; exact upB_ne ((ls_ne hT t_o).2.2.1)), (by show y202_83 (T 181 o) = v_0 202 (T 181 o); rw [hy83_]; exact upB_ne ((ls_ne hT t_o).2.2.2.2.2.1)), (by show y202_83 (T 182 o) = v_0 202 (T 182 o); rw [hy83_]; exact upB_ne ((ls_ne hT t_o).2.2.2.2.2.2.2.2.1)), trivial⟩) (Nat.le_of_ble_eq_true rfl) (Nat.le_of_ble_eq_true rfl) dX9_suit_192
                      · refine j_iconst E 139 rfl dX9_suit_138 ?_
                        exact hret 139 ((-1)) T _ _ _ ls _ _ hw hoT_ (rr (by decide)) (⟨t_o, ⟨rfl, rfl, rfl, rfl⟩, rfl, rfl, rfl, rfl, rfl, trivial⟩) (Nat.le_of_ble_eq_true rfl) (Nat.le_of_ble_eq_true rfl) dX9_suit_139
                  · refine j_iconst E 86 rfl dX9_suit_85 ?_
                    exact hret 86 ((-1)) T _ _ _ ls _ _ hw hoT_ (rr (by decide)) (⟨t_o, ⟨rfl, rfl, rfl, rfl⟩, rfl, rfl, rfl, rfl, rfl, trivial⟩) (Nat.le_of_ble_eq_true rfl) (Nat.le_of_ble_eq_true rfl) dX9_suit_86
          · refine j_iconst E 50 rfl dX9_suit_49 ?_
            exact hret 50 ((-1)) T _ _ _ ls _ _ hw hoT_ (rr (by decide)) (⟨t_o, ⟨rfl, rfl, rfl, rfl⟩, rfl, rfl, rfl, rfl, rfl, trivial⟩) (Nat.le_of_ble_eq_true rfl) (Nat.le_of_ble_eq_true rfl) dX9_suit_50
set_option maxHeartbeats 4000000 in
set_option maxRecDepth 100000 in
theorem n_X9_wording_n2 (l : Launch) (D : va_G) (cy : Nat → ClassId) (κ T : Nat → Nat → Nat) (v_0 : Nat → Nat → Int) (o : Nat) (sz : Nat) (hO : ∀ x, ow T x → κ 2 2 ≤ x) (t_o : T 0 o = 9) (hp0 : ∀ x, T 0 x = 26 → x = κ 2 0) : KA l D cy κ T yX9_wording cX9_wording 2 (some .int) 24 5 1300 [.ref o] v_0 sz (AI (fun (z_0 : Int) (T_2 : Nat → Nat → Nat) (v_2 : Nat → Nat → Int) => T_2 0 o = 9 ∧ (T_2 180 o = T 180 o ∧ T_2 181 o = T 181 o ∧ T_2 182 o = T 182 o ∧ T_2 183 o = T 183 o) ∧ v_2 186 o = 0 ∧ v_2 187 o = v_0 187 o ∧ v_2 202 (T 180 o) = v_0 202 (T 180 o) ∧ v_2 202 (T 181 o) = v_0 202 (T 181 o) ∧ v_2 202 (T 183 o) = v_0 202 (T 183 o) ∧ (True))) := by
  refine KA.ofi (by decide) (Nat.le_of_ble_eq_true rfl) hO ?_
  intro p e s m below meth c ls ar QW A0 H locs E hK hZ hA hAc hsz hnm hw hlo_ hl hret
  have hl : lv_has ls 2 [(0, .ref o)] := hl
  have hT : WT T := hw.1.2.1
  have hoT_ : OW T T s.heap.size := OW.rf T _
  refine j_aload_n E 1 rfl dX9_wording_0 rfl (lv_at hl 0 rfl) ?_
  refine g_186 E hK hw fl_X9_33 t_o (v_0 186 o) rfl 4 rfl dX9_wording_1 (fun rr1_ => ?_)
  refine j_istore_n E 5 rfl [(1, .int (J (v_0 186 o))), (0, .ref o)] dX9_wording_4 rfl hl (by decide) rfl (fun ls hl => ?_)
  refine j_aload_n E 6 rfl dX9_wording_5 rfl (lv_at hl 1 rfl) ?_
  refine j_iconst E 7 rfl dX9_wording_6 ?_
  refine p_186 E hK hw fl_X9_33 t_o (rr (by decide)) 10 rfl dX9_wording_7 (fun H locs hw => ?_)
  have hw : WK D cy T (upV v_0 186 (upB (v_0 186) o 0)) A0 s.heap H locs := hw
  refine j_aload_n E 11 rfl dX9_wording_10 rfl (lv_at hl 1 rfl) ?_
  refine j_iconst E 12 rfl dX9_wording_11 ?_
  refine p_190 E hK hw fl_X9_46 t_o (rr (by decide)) 15 rfl dX9_wording_12 (fun H locs hw => ?_)
  have hw : WK D cy T (upV (upV v_0 186 (upB (v_0 186) o 0)) 190 (upB (v_0 190) o 0)) A0 s.heap H locs := hw
  refine j_aload_n E 16 rfl dX9_wording_15 rfl (lv_at hl 1 rfl) ?_
  refine j_iconst E 17 rfl dX9_wording_16 ?_
  refine p_191 E hK hw fl_X9_49 t_o (rr (by decide)) 20 rfl dX9_wording_17 (fun H locs hw => ?_)
  have hw : WK D cy T (upV (upV (upV v_0 186 (upB (v_0 186) o 0)) 190 (upB (v_0 190) o 0)) 191 (upB (v_0 191) o ((-1)))) A0 s.heap H locs := hw
  refine j_aload_n E 21 rfl dX9_wording_20 rfl (lv_at hl 1 rfl) ?_
  refine g_182 E hK hw fl_X9_19 t_o 24 rfl dX9_wording_21 ?_
  refine kV_i E (c_Jx4a65c_size_8abf5 l D cy T (upV (upV (upV v_0 186 (upB (v_0 186) o 0)) 190 (upB (v_0 190) o 0)) 191 (upB (v_0 191) o ((-1)))) (T 182 o)  (wt_182 hT t_o)  ) mt_Jx4a65c_size_8abf5 ml_X9_80 hK hw (cw_rc10 hK hw.1 (wt_182 hT t_o)) hA ⟨Nat.le_of_ble_eq_true rfl, Nat.le_of_ble_eq_true rfl⟩ ⟨Nat.le_of_ble_eq_true rfl, Nat.le_of_ble_eq_true rfl⟩ (As := []) (rest := []) rfl rfl hl.1 (Nat.le_of_ble_eq_true rfl) 27 rfl dX9_wording_24 (fun zz5_ v_5 H locs rr5_ hq5_ hw => ?_)
  obtain ⟨ev5_, hh5_⟩ := hq5_
  rw [ev5_] at hw; clear ev5_
  have hh5_ : zz5_ = ((v_0 202) ((T 182 o))) ∧ 0 ≤ zz5_ := hh5_
  refine j_bipush E 29 rfl dX9_wording_27 (by decide) ?_
  refine j_icmp_lt E 32 34 rfl rr5_ (rr (by decide)) dX9_wording_29 (by decide) (fun cc6_ => ?_) (fun cc6_ => ?_)
  · refine j_aload_n E 35 rfl dX9_wording_34 rfl (lv_at hl 1 rfl) ?_
    refine g_192 E hK hw fl_X9_55 t_o 38 rfl dX9_wording_35 ?_
    refine j_aload_n E 39 rfl dX9_wording_38 rfl (lv_at hl 1 rfl) ?_
    refine g_185 E hK hw fl_X9_29 t_o 42 rfl dX9_wording_39 ?_
    have ln7_ := wl_185 hT t_o
    refine j_iload_n E 43 rfl dX9_wording_42 rfl (lv_at hl 0 rfl) ?_
    refine zV_i E (c_X3_read l D cy T (upV (upV (upV v_0 186 (upB (v_0 186) o 0)) 190 (upB (v_0 190) o 0)) 191 (upB (v_0 191) o ((-1)))) κ (T 192 o) (T 185 o) (v_0 186 o)  hO (wt_192 hT t_o) (wt_185 hT t_o) rr1_ ) mt_X3_read ml_X9_146 hK hZ hAc hw (cw_rc4 hK hw.1 (wt_192 hT t_o)) hA ⟨Nat.le_of_ble_eq_true rfl, Nat.le_of_ble_eq_true rfl⟩ ⟨Nat.le_of_ble_eq_true rfl, Nat.le_of_ble_eq_true rfl⟩ (As := [.ref (T 185 o), .int (J (v_0 186 o))]) (rest := []) rfl rfl hl.1 (Nat.le_of_ble_eq_true rfl) 46 rfl dX9_wording_43 (fun zz8_ v_8 H locs rr8_ hq8_ hw => ?_)
    obtain ⟨y80_8, y81_8, y83_8, y84_8, y86_8, y123_8, y124_8, ev8_, hh8_⟩ := hq8_
    rw [ev8_] at hw; clear ev8_
    have hh8_ : 0 ≤ (y86_8 ((T 192 o))) ∧ (y86_8 ((T 192 o))) ≤ 400 ∧ 0 ≤ (y123_8 (T 82 (T 192 o))) ∧ (y123_8 (T 82 (T 192 o))) ≤ 400 := hh8_
    refine j_if_ne E 49 73 rfl rr8_ dX9_wording_46 (by decide) (fun cc9_ => ?_) (fun cc9_ => ?_)
    · refine j_aload_n E 74 rfl dX9_wording_73 rfl (lv_at hl 1 rfl) ?_
      refine g_182 E hK hw fl_X9_19 t_o 77 rfl dX9_wording_74 ?_
      have hw0_ := hw
      refine n_obj8 E hK hw hA cl_X9_152 (Nat.le_of_ble_eq_true rfl) (Nat.le_of_ble_eq_true rfl) 80 rfl dX9_wording_77 (fun q10_ T10_ H hge10_ hx10_ ho10_ tq10_ hw => ?_)
      have fq10_ : s.heap.size ≤ q10_ := Nat.le_trans hw0_.2.2.1 hge10_
      have hw : WK D cy T10_ (upV (upV (upV (upV (upV (upV (upV (upV (upV (upV (upV v_0 186 (upB (v_0 186) o 0)) 190 (upB (v_0 190) o 0)) 191 (upB (v_0 191) o ((-1)))) 80 y80_8) 81 y81_8) 83 y83_8) 84 y84_8) 86 y86_8) 123 y123_8) 124 y124_8) 160 (upB (v_0 160) q10_ 0)) A0 s.heap H locs := hw
      have hT10_ : WT T10_ := hw.1.2.1
      have hO10_ : ∀ x, ow T10_ x → κ 2 2 ≤ x := fun x h => hAc x (hw.2.1 x h)
      have hoT_ : OW T T10_ s.heap.size := OW.tr hw0_.2.2.1 hoT_ ho10_
      have u11_ : T10_ 0 o = 9 := (hx10_ o (Nat.ne_of_lt (Nat.lt_of_lt_of_le (cw_lt hw0_.1 t_o (fun _ _ _ => ⟨_, rfl⟩)) hge10_)) 0).trans t_o
      have u12_ : T10_ 0 (T 192 o) = 4 := (hx10_ (T 192 o) (Nat.ne_of_lt (Nat.lt_of_lt_of_le (cw_lt hw0_.1 (wt_192 hT t_o) (fun _ _ _ => ⟨_, rfl⟩)) hge10_)) 0).trans (wt_192 hT t_o)
      have u13_ : T10_ 0 (T 182 o) = 10 := (hx10_ (T 182 o) (Nat.ne_of_lt (Nat.lt_of_lt_of_le (cw_lt hw0_.1 (wt_182 hT t_o) (fun _ _ _ => ⟨_, rfl⟩)) hge10_)) 0).trans (wt_182 hT t_o)
      have u14_ : T10_ 2 (T 182 o) = 8 := (hx10_ (T 182 o) (Nat.ne_of_lt (Nat.lt_of_lt_of_le (cw_lt hw0_.1 (wt_182 hT t_o) (fun _ _ _ => ⟨_, rfl⟩)) hge10_)) 2).trans (we_182 hT t_o)
      have u15_ : T10_ 180 o = T 180 o := (hx10_ o (Nat.ne_of_lt (Nat.lt_of_lt_of_le (cw_lt hw0_.1 t_o (fun _ _ _ => ⟨_, rfl⟩)) hge10_)) 180).trans rfl
      have u16_ : T10_ 181 o = T 181 o := (hx10_ o (Nat.ne_of_lt (Nat.lt_of_lt_of_le (cw_lt hw0_.1 t_o (fun _ _ _ => ⟨_, rfl⟩)) hge10_)) 181).trans rfl
      have u17_ : T10_ 182 o = T 182 o := (hx10_ o (Nat.ne_of_lt (Nat.lt_of_lt_of_le (cw_lt hw0_.1 t_o (fun _ _ _ => ⟨_, rfl⟩)) hge10_)) 182).trans rfl
      have u18_ : T10_ 183 o = T 183 o := (hx10_ o (Nat.ne_of_lt (Nat.lt_of_lt_of_le (cw_lt hw0_.1 t_o (fun _ _ _ => ⟨_, rfl⟩)) hge10_)) 183).trans rfl
      have u19_ : T10_ 192 o = T 192 o := (hx10_ o (Nat.ne_of_lt (Nat.lt_of_lt_of_le (cw_lt hw0_.1 t_o (fun _ _ _ => ⟨_, rfl⟩)) hge10_)) 192).trans rfl
      have u20_ : T10_ 82 (T 192 o) = T 82 (T 192 o) := (hx10_ (T 192 o) (Nat.ne_of_lt (Nat.lt_of_lt_of_le (cw_lt hw0_.1 (wt_192 hT t_o) (fun _ _ _ => ⟨_, rfl⟩)) hge10_)) 82).trans rfl
      refine j_dup E 81 rfl dX9_wording_80 rfl ?_
      refine j_aload_n E 82 rfl dX9_wording_81 rfl (lv_at hl 1 rfl) ?_
      refine g_182 E hK hw fl_X9_19 u11_ 85 rfl dX9_wording_82 ?_
      refine kV_i E (c_Jx4a65c_size_8abf5 l D cy T10_ (upV (upV (upV (upV (upV (upV (upV (upV (upV (upV (upV v_0 186 (upB (v_0 186) o 0)) 190 (upB (v_0 190) o 0)) 191 (upB (v_0 191) o ((-1)))) 80 y80_8) 81 y81_8) 83 y83_8) 84 y84_8) 86 y86_8) 123 y123_8) 124 y124_8) 160 (upB (v_0 160) q10_ 0)) (T10_ 182 o)  (wt_182 hT10_ u11_)  ) mt_Jx4a65c_size_8abf5 ml_X9_80 hK hw (cw_rc10 hK hw.1 (wt_182 hT10_ u11_)) hA ⟨Nat.le_of_ble_eq_true rfl, Nat.le_of_ble_eq_true rfl⟩ ⟨Nat.le_of_ble_eq_true rfl, Nat.le_of_ble_eq_true rfl⟩ (As := []) (rest := [.ref q10_, .ref q10_, .ref (T 182 o)]) rfl rfl hl.1 (Nat.le_of_ble_eq_true rfl) 88 rfl dX9_wording_85 (fun zz21_ v_21 H locs rr21_ hq21_ hw => ?_)
      obtain ⟨ev21_, hh21_⟩ := hq21_
      rw [ev21_] at hw; clear ev21_
      have hh21_ : zz21_ = ((v_0 202) ((T10_ 182 o))) ∧ 0 ≤ zz21_ := hh21_
      have hs40_ : zz21_ ≤ 40 := by have h_ := hh21_.1; rw [u17_] at h_; omega
      refine j_aload_n E 89 rfl dX9_wording_88 rfl (lv_at hl 1 rfl) ?_
      refine g_192 E hK hw fl_X9_55 u11_ 92 rfl dX9_wording_89 ?_
      have hw0_ := hw
      refine aV_n E (n_X3_copyOfTokens l D cy κ T10_ (upV (upV (upV (upV (upV (upV (upV (upV (upV (upV (upV v_0 186 (upB (v_0 186) o 0)) 190 (upB (v_0 190) o 0)) 191 (upB (v_0 191) o ((-1)))) 80 y80_8) 81 y81_8) 83 y83_8) 84 y84_8) 86 y86_8) 123 y123_8) 124 y124_8) 160 (upB (v_0 160) q10_ 0)) (T10_ 192 o) H.size  hO10_ (wt_192 hT10_ u11_)  (show (y123_8 (T10_ 82 (T10_ 192 o))) ≤ 400 from by rw [u19_, u20_]; omega)) mt_X3_copyOfTokens ml_X9_154 hK hZ hAc hw (cw_rc4 hK hw.1 (wt_192 hT10_ u11_)) hA ⟨(Nat.le_of_ble_eq_true rfl), (Nat.le_of_ble_eq_true rfl)⟩ ⟨(Nat.le_of_ble_eq_true rfl), (Nat.le_of_ble_eq_true rfl)⟩ (As := []) (rest := [.int (J zz21_), .ref q10_, .ref q10_, .ref (T 182 o)]) rfl rfl hl.1 (Nat.le_of_ble_eq_true rfl) 95 rfl dX9_wording_92 (fun xx22_ T22_ v_22 H locs hge22_ ho22_ hq22_ hw => ?_)
      obtain ⟨ev22_, hh22_⟩ := hq22_
      rw [ev22_] at hw; clear ev22_
      obtain ⟨hx22_, tq22_⟩ := hh22_
      have hT22_ : WT T22_ := hw.1.2.1
      have hO22_ : ∀ x, ow T22_ x → κ 2 2 ≤ x := fun x h => hAc x (hw.2.1 x h)
      have hoT_ : OW T T22_ s.heap.size := OW.tr hw0_.2.2.1 hoT_ ho22_
      have u23_ : T22_ 0 o = 9 := (hx22_ o (cw_lt hw0_.1 u11_ (fun _ _ _ => ⟨_, rfl⟩)) 0).trans u11_
      have u24_ : T22_ 0 (T 192 o) = 4 := (hx22_ (T 192 o) (cw_lt hw0_.1 u12_ (fun _ _ _ => ⟨_, rfl⟩)) 0).trans u12_
      have u25_ : T22_ 0 (T 182 o) = 10 := (hx22_ (T 182 o) (cw_lt hw0_.1 u13_ (fun _ _ _ => ⟨_, rfl⟩)) 0).trans u13_
      have u26_ : T22_ 0 q10_ = 108 := (hx22_ q10_ (cw_lt hw0_.1 tq10_ (fun _ _ _ => ⟨_, rfl⟩)) 0).trans tq10_
      have u27_ : T22_ 2 (T 182 o) = 8 := (hx22_ (T 182 o) (cw_lt hw0_.1 u13_ (fun _ _ _ => ⟨_, rfl⟩)) 2).trans u14_
      have u28_ : T22_ 180 o = T 180 o := (hx22_ o (cw_lt hw0_.1 u11_ (fun _ _ _ => ⟨_, rfl⟩)) 180).trans u15_
      have u29_ : T22_ 181 o = T 181 o := (hx22_ o (cw_lt hw0_.1 u11_ (fun _ _ _ => ⟨_, rfl⟩)) 181).trans u16_
      have u30_ : T22_ 182 o = T 182 o := (hx22_ o (cw_lt hw0_.1 u11_ (fun _ _ _ => ⟨_, rfl⟩)) 182).trans u17_
      have u31_ : T22_ 183 o = T 183 o := (hx22_ o (cw_lt hw0_.1 u11_ (fun _ _ _ => ⟨_, rfl⟩)) 183).trans u18_
      have u32_ : T22_ 192 o = T 192 o := (hx22_ o (cw_lt hw0_.1 u11_ (fun _ _ _ => ⟨_, rfl⟩)) 192).trans u19_
      have u33_ : T22_ 82 (T 192 o) = T 82 (T 192 o) := (hx22_ (T 192 o) (cw_lt hw0_.1 u12_ (fun _ _ _ => ⟨_, rfl⟩)) 82).trans u20_
      refine j_aload_n E 96 rfl dX9_wording_95 rfl (lv_at hl 1 rfl) ?_
      refine g_192 E hK hw fl_X9_55 u23_ 99 rfl dX9_wording_96 ?_
      have hw0_ := hw
      refine aV_n E (n_X3_copyOfCode l D cy κ T22_ (upV (upV (upV (upV (upV (upV (upV (upV (upV (upV (upV v_0 186 (upB (v_0 186) o 0)) 190 (upB (v_0 190) o 0)) 191 (upB (v_0 191) o ((-1)))) 80 y80_8) 81 y81_8) 83 y83_8) 84 y84_8) 86 y86_8) 123 y123_8) 124 y124_8) 160 (upB (v_0 160) q10_ 0)) (T22_ 192 o) H.size  hO22_ (wt_192 hT22_ u23_)  (show (y86_8 ((T22_ 192 o))) ≤ 400 from by rw [u32_]; omega)) mt_X3_copyOfCode ml_X9_158 hK hZ hAc hw (cw_rc4 hK hw.1 (wt_192 hT22_ u23_)) hA ⟨(Nat.le_of_ble_eq_true rfl), (Nat.le_of_ble_eq_true rfl)⟩ ⟨(Nat.le_of_ble_eq_true rfl), (Nat.le_of_ble_eq_true rfl)⟩ (As := []) (rest := [.ref xx22_, .int (J zz21_), .ref q10_, .ref q10_, .ref (T 182 o)]) rfl rfl hl.1 (Nat.le_of_ble_eq_true rfl) 102 rfl dX9_wording_99 (fun xx34_ T34_ v_34 H locs hge34_ ho34_ hq34_ hw => ?_)
      obtain ⟨ev34_, hh34_⟩ := hq34_
      rw [ev34_] at hw; clear ev34_
      obtain ⟨hx34_, tq34_⟩ := hh34_
      have hT34_ : WT T34_ := hw.1.2.1
      have hO34_ : ∀ x, ow T34_ x → κ 2 2 ≤ x := fun x h => hAc x (hw.2.1 x h)
      have hoT_ : OW T T34_ s.heap.size := OW.tr hw0_.2.2.1 hoT_ ho34_
      have u35_ : T34_ 0 o = 9 := (hx34_ o (cw_lt hw0_.1 u23_ (fun _ _ _ => ⟨_, rfl⟩)) 0).trans u23_
      have u36_ : T34_ 0 (T 192 o) = 4 := (hx34_ (T 192 o) (cw_lt hw0_.1 u24_ (fun _ _ _ => ⟨_, rfl⟩)) 0).trans u24_
      have u37_ : T34_ 0 (T 182 o) = 10 := (hx34_ (T 182 o) (cw_lt hw0_.1 u25_ (fun _ _ _ => ⟨_, rfl⟩)) 0).trans u25_
      have u38_ : T34_ 0 q10_ = 108 := (hx34_ q10_ (cw_lt hw0_.1 u26_ (fun _ _ _ => ⟨_, rfl⟩)) 0).trans u26_
      have u39_ : T34_ 0 xx22_ = 20 := (hx34_ xx22_ (cw_lt hw0_.1 tq22_ (fun _ _ _ => ⟨_, rfl⟩)) 0).trans tq22_
      have u40_ : T34_ 2 (T 182 o) = 8 := (hx34_ (T 182 o) (cw_lt hw0_.1 u25_ (fun _ _ _ => ⟨_, rfl⟩)) 2).trans u27_
      have u41_ : T34_ 180 o = T 180 o := (hx34_ o (cw_lt hw0_.1 u23_ (fun _ _ _ => ⟨_, rfl⟩)) 180).trans u28_
      have u42_ : T34_ 181 o = T 181 o := (hx34_ o (cw_lt hw0_.1 u23_ (fun _ _ _ => ⟨_, rfl⟩)) 181).trans u29_
      have u43_ : T34_ 182 o = T 182 o := (hx34_ o (cw_lt hw0_.1 u23_ (fun _ _ _ => ⟨_, rfl⟩)) 182).trans u30_
      have u44_ : T34_ 183 o = T 183 o := (hx34_ o (cw_lt hw0_.1 u23_ (fun _ _ _ => ⟨_, rfl⟩)) 183).trans u31_
      have u45_ : T34_ 192 o = T 192 o := (hx34_ o (cw_lt hw0_.1 u23_ (fun _ _ _ => ⟨_, rfl⟩)) 192).trans u32_
      have u46_ : T34_ 82 (T 192 o) = T 82 (T 192 o) := (hx34_ (T 192 o) (cw_lt hw0_.1 u24_ (fun _ _ _ => ⟨_, rfl⟩)) 82).trans u33_
      have hw0_ := hw
      refine aI_v E (n_X7_init l D cy κ T34_ (upV (upV (upV (upV (upV (upV (upV (upV (upV (upV (upV v_0 186 (upB (v_0 186) o 0)) 190 (upB (v_0 190) o 0)) 191 (upB (v_0 191) o ((-1)))) 80 y80_8) 81 y81_8) 83 y83_8) 84 y84_8) 86 y86_8) 123 y123_8) 124 y124_8) 160 (upB (v_0 160) q10_ 0)) q10_ zz21_ xx22_ xx34_ H.size  hO34_ u38_ rr21_ u39_ tq34_ (show zz21_ ≤ 40 from by first | omega | (simp only [upB_same]; omega))) mi_X7_init ml_X9_161 hK hZ hAc hw hA ⟨(Nat.le_of_ble_eq_true rfl), (Nat.le_of_ble_eq_true rfl)⟩ ⟨(Nat.le_of_ble_eq_true rfl), (Nat.le_of_ble_eq_true rfl)⟩ (As := [.int (J zz21_), .ref xx22_, .ref xx34_]) (rest := [.ref q10_, .ref (T 182 o)]) rfl rfl hl.1 (Nat.le_of_ble_eq_true rfl) 105 rfl dX9_wording_102 (fun T47_ v_47 H locs hge47_ ho47_ hq47_ hw => ?_)
      obtain ⟨y160_47, ev47_, hh47_⟩ := hq47_
      rw [ev47_] at hw; clear ev47_
      obtain ⟨hx47_, tq47_⟩ := hh47_
      have hT47_ : WT T47_ := hw.1.2.1
      have hO47_ : ∀ x, ow T47_ x → κ 2 2 ≤ x := fun x h => hAc x (hw.2.1 x h)
      have hoT_ : OW T T47_ s.heap.size := OW.tr hw0_.2.2.1 hoT_ ho47_
      have u48_ : T47_ 0 o = 9 := (hx47_ o (cw_lt hw0_.1 u35_ (fun _ _ _ => ⟨_, rfl⟩)) (ty_ne u35_ u38_ (by decide)) 0).trans u35_
      have u49_ : T47_ 0 (T 192 o) = 4 := (hx47_ (T 192 o) (cw_lt hw0_.1 u36_ (fun _ _ _ => ⟨_, rfl⟩)) (ty_ne u36_ u38_ (by decide)) 0).trans u36_
      have u50_ : T47_ 0 (T 182 o) = 10 := (hx47_ (T 182 o) (cw_lt hw0_.1 u37_ (fun _ _ _ => ⟨_, rfl⟩)) (ty_ne u37_ u38_ (by decide)) 0).trans u37_
      have u51_ : T47_ 2 (T 182 o) = 8 := (hx47_ (T 182 o) (cw_lt hw0_.1 u37_ (fun _ _ _ => ⟨_, rfl⟩)) (ty_ne u37_ u38_ (by decide)) 2).trans u40_
      have u52_ : T47_ 180 o = T 180 o := (hx47_ o (cw_lt hw0_.1 u35_ (fun _ _ _ => ⟨_, rfl⟩)) (ty_ne u35_ u38_ (by decide)) 180).trans u41_
      have u53_ : T47_ 181 o = T 181 o := (hx47_ o (cw_lt hw0_.1 u35_ (fun _ _ _ => ⟨_, rfl⟩)) (ty_ne u35_ u38_ (by decide)) 181).trans u42_
      have u54_ : T47_ 182 o = T 182 o := (hx47_ o (cw_lt hw0_.1 u35_ (fun _ _ _ => ⟨_, rfl⟩)) (ty_ne u35_ u38_ (by decide)) 182).trans u43_
      have u55_ : T47_ 183 o = T 183 o := (hx47_ o (cw_lt hw0_.1 u35_ (fun _ _ _ => ⟨_, rfl⟩)) (ty_ne u35_ u38_ (by decide)) 183).trans u44_
      have u56_ : T47_ 192 o = T 192 o := (hx47_ o (cw_lt hw0_.1 u35_ (fun _ _ _ => ⟨_, rfl⟩)) (ty_ne u35_ u38_ (by decide)) 192).trans u45_
      have u57_ : T47_ 82 (T 192 o) = T 82 (T 192 o) := (hx47_ (T 192 o) (cw_lt hw0_.1 u36_ (fun _ _ _ => ⟨_, rfl⟩)) (ty_ne u36_ u38_ (by decide)) 82).trans u46_
      have hw0_ := hw
      refine aV_i E (n_Jx4a65c_add_9ea2d l D cy κ T47_ (upV (upV (upV (upV (upV (upV (upV (upV (upV (upV (upV (upV v_0 186 (upB (v_0 186) o 0)) 190 (upB (v_0 190) o 0)) 191 (upB (v_0 191) o ((-1)))) 80 y80_8) 81 y81_8) 83 y83_8) 84 y84_8) 86 y86_8) 123 y123_8) 124 y124_8) 160 (upB (v_0 160) q10_ 0)) 160 y160_47) (T 182 o) q10_ H.size  hO47_ u50_  (tq47_.trans u51_.symm) (fun x_ h_ => hp0 x_ ((hoT_ x_).2 h_)) (show ((v_0 202) ((T 182 o))) ≤ 200 from by omega)) mt_Jx4a65c_add_9ea2d ml_X9_89 hK hZ hAc hw (cw_rc10 hK hw.1 u50_) hA ⟨(Nat.le_of_ble_eq_true rfl), (Nat.le_of_ble_eq_true rfl)⟩ ⟨(Nat.le_of_ble_eq_true rfl), (Nat.le_of_ble_eq_true rfl)⟩ (As := [.ref q10_]) (rest := []) rfl rfl hl.1 (Nat.le_of_ble_eq_true rfl) 108 rfl dX9_wording_105 (fun zz58_ T58_ v_58 H locs rr58_ hge58_ ho58_ hq58_ hw => ?_)
      obtain ⟨y200_58, y202_58, ev58_, hh58_⟩ := hq58_
      rw [ev58_] at hw; clear ev58_
      obtain ⟨hy58_, hx58_, hz58_, hl58_⟩ := hh58_
      have hy58_ : y202_58 = upB (v_0 202) (T 182 o) ((v_0 202) (T 182 o) + 1) := hy58_
      have hT58_ : WT T58_ := hw.1.2.1
      have hO58_ : ∀ x, ow T58_ x → κ 2 2 ≤ x := fun x h => hAc x (hw.2.1 x h)
      have hoT_ : OW T T58_ s.heap.size := OW.tr hw0_.2.2.1 hoT_ ho58_
      have u59_ : T58_ 0 o = 9 := (hx58_ o (cw_lt hw0_.1 u48_ (fun _ _ _ => ⟨_, rfl⟩)) (ty_ne u48_ u50_ (by decide)) (by rw [u48_]; decide) 0).trans u48_
      have u60_ : T58_ 0 (T 192 o) = 4 := (hx58_ (T 192 o) (cw_lt hw0_.1 u49_ (fun _ _ _ => ⟨_, rfl⟩)) (ty_ne u49_ u50_ (by decide)) (by rw [u49_]; decide) 0).trans u49_
      have u61_ : T58_ 180 o = T 180 o := (hx58_ o (cw_lt hw0_.1 u48_ (fun _ _ _ => ⟨_, rfl⟩)) (ty_ne u48_ u50_ (by decide)) (by rw [u48_]; decide) 180).trans u52_
      have u62_ : T58_ 181 o = T 181 o := (hx58_ o (cw_lt hw0_.1 u48_ (fun _ _ _ => ⟨_, rfl⟩)) (ty_ne u48_ u50_ (by decide)) (by rw [u48_]; decide) 181).trans u53_
      have u63_ : T58_ 182 o = T 182 o := (hx58_ o (cw_lt hw0_.1 u48_ (fun _ _ _ => ⟨_, rfl⟩)) (ty_ne u48_ u50_ (by decide)) (by rw [u48_]; decide) 182).trans u54_
      have u64_ : T58_ 183 o = T 183 o := (hx58_ o (cw_lt hw0_.1 u48_ (fun _ _ _ => ⟨_, rfl⟩)) (ty_ne u48_ u50_ (by decide)) (by rw [u48_]; decide) 183).trans u55_
      have u65_ : T58_ 192 o = T 192 o := (hx58_ o (cw_lt hw0_.1 u48_ (fun _ _ _ => ⟨_, rfl⟩)) (ty_ne u48_ u50_ (by decide)) (by rw [u48_]; decide) 192).trans u56_
      have u66_ : T58_ 82 (T 192 o) = T 82 (T 192 o) := (hx58_ (T 192 o) (cw_lt hw0_.1 u49_ (fun _ _ _ => ⟨_, rfl⟩)) (ty_ne u49_ u50_ (by decide)) (by rw [u49_]; decide) 82).trans u57_
      refine j_pop E 109 rfl dX9_wording_108 rfl ?_
      refine j_aload_n E 110 rfl dX9_wording_109 rfl (lv_at hl 1 rfl) ?_
      refine g_182 E hK hw fl_X9_19 u59_ 113 rfl dX9_wording_110 ?_
      refine kV_i E (c_Jx4a65c_size_8abf5 l D cy T58_ (upV (upV (upV (upV (upV (upV (upV (upV (upV (upV (upV (upV (upV (upV v_0 186 (upB (v_0 186) o 0)) 190 (upB (v_0 190) o 0)) 191 (upB (v_0 191) o ((-1)))) 80 y80_8) 81 y81_8) 83 y83_8) 84 y84_8) 86 y86_8) 123 y123_8) 124 y124_8) 160 (upB (v_0 160) q10_ 0)) 160 y160_47) 200 y200_58) 202 y202_58) (T58_ 182 o)  (wt_182 hT58_ u59_)  ) mt_Jx4a65c_size_8abf5 ml_X9_80 hK hw (cw_rc10 hK hw.1 (wt_182 hT58_ u59_)) hA ⟨Nat.le_of_ble_eq_true rfl, Nat.le_of_ble_eq_true rfl⟩ ⟨Nat.le_of_ble_eq_true rfl, Nat.le_of_ble_eq_true rfl⟩ (As := []) (rest := []) rfl rfl hl.1 (Nat.le_of_ble_eq_true rfl) 116 rfl dX9_wording_113 (fun zz67_ v_67 H locs rr67_ hq67_ hw => ?_)
      obtain ⟨ev67_, hh67_⟩ := hq67_
      rw [ev67_] at hw; clear ev67_
      have hh67_ : zz67_ = (y202_58 ((T58_ 182 o))) ∧ 0 ≤ zz67_ := hh67_
      refine j_iconst E 117 rfl dX9_wording_116 ?_
      refine j_isub E 118 rfl dX9_wording_117 ?_
      refine j_norm (fun zz68_ rr68_ ee68_ => ?_)
      exact hret 118 zz68_ T58_ _ _ _ ls _ _ hw hoT_ rr68_ (⟨u59_, ⟨u61_, u62_, u63_, u64_⟩, upB_same _ _ _, rfl, (by show y202_58 (T 180 o) = v_0 202 (T 180 o); rw [hy58_]; exact upB_ne ((ls_ne hT t_o).2.1)), (by show y202_58 (T 181 o) = v_0 202 (T 181 o); rw [hy58_]; exact upB_ne ((ls_ne hT t_o).2.2.2.2.1)), (by show y202_58 (T 183 o) = v_0 202 (T 183 o); rw [hy58_]; exact upB_ne ((ls_ne hT t_o).2.2.2.2.2.2.2.2.2.2.2)), trivial⟩) (Nat.le_of_ble_eq_true rfl) (Nat.le_of_ble_eq_true rfl) dX9_wording_118
    · refine j_aload_n E 50 rfl dX9_wording_49 rfl (lv_at hl 1 rfl) ?_
      refine j_aload_n E 51 rfl dX9_wording_50 rfl (lv_at hl 1 rfl) ?_
      refine g_192 E hK hw fl_X9_55 t_o 54 rfl dX9_wording_51 ?_
      refine g_80 E hK hw fl_X9_150 (wt_192 hT t_o) (y80_8 (T 192 o)) rfl 57 rfl dX9_wording_54 (fun rr69_ => ?_)
      refine p_190 E hK hw fl_X9_46 t_o rr69_ 60 rfl dX9_wording_57 (fun H locs hw => ?_)
      have hw : WK D cy T (upV (upV (upV (upV (upV (upV (upV (upV (upV (upV (upV v_0 186 (upB (v_0 186) o 0)) 190 (upB (v_0 190) o 0)) 191 (upB (v_0 191) o ((-1)))) 80 y80_8) 81 y81_8) 83 y83_8) 84 y84_8) 86 y86_8) 123 y123_8) 124 y124_8) 190 (upB (upB (v_0 190) o 0) o (y80_8 (T 192 o)))) A0 s.heap H locs := hw
      refine j_aload_n E 61 rfl dX9_wording_60 rfl (lv_at hl 1 rfl) ?_
      refine j_aload_n E 62 rfl dX9_wording_61 rfl (lv_at hl 1 rfl) ?_
      refine g_192 E hK hw fl_X9_55 t_o 65 rfl dX9_wording_62 ?_
      refine g_81 E hK hw fl_X9_151 (wt_192 hT t_o) (y81_8 (T 192 o)) rfl 68 rfl dX9_wording_65 (fun rr71_ => ?_)
      refine p_191 E hK hw fl_X9_49 t_o rr71_ 71 rfl dX9_wording_68 (fun H locs hw => ?_)
      have hw : WK D cy T (upV (upV (upV (upV (upV (upV (upV (upV (upV (upV (upV (upV v_0 186 (upB (v_0 186) o 0)) 190 (upB (v_0 190) o 0)) 191 (upB (v_0 191) o ((-1)))) 80 y80_8) 81 y81_8) 83 y83_8) 84 y84_8) 86 y86_8) 123 y123_8) 124 y124_8) 190 (upB (upB (v_0 190) o 0) o (y80_8 (T 192 o)))) 191 (upB (upB (v_0 191) o ((-1))) o (y81_8 (T 192 o)))) A0 s.heap H locs := hw
      refine j_iconst E 72 rfl dX9_wording_71 ?_
      exact hret 72 ((-1)) T _ _ _ ls _ _ hw hoT_ (rr (by decide)) (⟨t_o, ⟨rfl, rfl, rfl, rfl⟩, upB_same _ _ _, rfl, rfl, rfl, rfl, trivial⟩) (Nat.le_of_ble_eq_true rfl) (Nat.le_of_ble_eq_true rfl) dX9_wording_72
  · refine j_iconst E 33 rfl dX9_wording_32 ?_
    exact hret 33 ((-1)) T _ _ _ ls _ _ hw hoT_ (rr (by decide)) (⟨t_o, ⟨rfl, rfl, rfl, rfl⟩, upB_same _ _ _, rfl, rfl, rfl, rfl, trivial⟩) (Nat.le_of_ble_eq_true rfl) (Nat.le_of_ble_eq_true rfl) dX9_wording_33
set_option maxHeartbeats 4000000 in
set_option maxRecDepth 100000 in
theorem n_X9_plan_n2 (l : Launch) (D : va_G) (cy : Nat → ClassId) (κ T : Nat → Nat → Nat) (v_0 : Nat → Nat → Int) (o : Nat) (v_s : Int) (v_m : Int) (v_w : Int) (sz : Nat) (hO : ∀ x, ow T x → κ 2 2 ≤ x) (t_o : T 0 o = 9) (r_v_s : inR v_s) (r_v_m : inR v_m) (r_v_w : inR v_w) (hp0 : ∀ x, T 0 x = 26 → x = κ 2 0) : KA l D cy κ T yX9_plan cX9_plan 7 (some .int) 5 5 6600 [.ref o, .int (J v_s), .int (J v_m), .int (J v_w)] v_0 sz (AI (fun (z_0 : Int) (T_2 : Nat → Nat → Nat) (v_2 : Nat → Nat → Int) => ∃ (y64_2 : Nat → Int) (y65_2 : Nat → Int) (y66_2 : Nat → Int) , v_2 = upV (upV (upV v_0 64 y64_2) 65 y65_2) 66 y66_2 ∧ (T_2 0 o = 9 ∧ (T_2 180 o = T 180 o ∧ T_2 181 o = T 181 o ∧ T_2 182 o = T 182 o ∧ T_2 183 o = T 183 o)))) := by
  refine KA.ofi (by decide) (Nat.le_of_ble_eq_true rfl) hO ?_
  intro p e s m below meth c ls ar QW A0 H locs E hK hZ hA hAc hsz hnm hw hlo_ hl hret
  have hl : lv_has ls 7 [(0, .ref o), (1, .int (J v_s)), (2, .int (J v_m)), (3, .int (J v_w))] := hl
  have hT : WT T := hw.1.2.1
  have hoT_ : OW T T s.heap.size := OW.rf T _
  refine j_aload_n E 1 rfl dX9_plan_0 rfl (lv_at hl 0 rfl) ?_
  refine j_iload_n E 2 rfl dX9_plan_1 rfl (lv_at hl 1 rfl) ?_
  refine kV_i E (c_X9_areLines l D cy T (v_0) o v_s  t_o r_v_s ) mt_X9_areLines ml_X9_371 hK hw (cw_rc9 hK hw.1 t_o) hA ⟨Nat.le_of_ble_eq_true rfl, Nat.le_of_ble_eq_true rfl⟩ ⟨Nat.le_of_ble_eq_true rfl, Nat.le_of_ble_eq_true rfl⟩ (As := [.int (J v_s)]) (rest := []) rfl rfl hl.1 (Nat.le_of_ble_eq_true rfl) 5 rfl dX9_plan_2 (fun zz1_ v_1 H locs rr1_ hq1_ hw => ?_)
  obtain ⟨ev1_, hh1_⟩ := hq1_
  rw [ev1_] at hw; clear ev1_
  refine j_if_eq E 8 26 rfl rr1_ dX9_plan_5 (by decide) (fun cc2_ => ?_) (fun cc2_ => ?_)
  · refine j_iconst E 27 rfl dX9_plan_26 ?_
    exact hret 27 ((-1)) T (upV (upV (upV v_0 64 (v_0 64)) 65 (v_0 65)) 66 (v_0 66)) _ _ ls _ _ (cw_eq hw (by first | rfl | (funext j_; simp only [upV, reduceIte]; (repeat' split) <;> first | rfl | omega | (subst_vars; rfl)))) hoT_ (rr (by decide)) ⟨(v_0 64), (v_0 65), (v_0 66), rfl, ⟨t_o, rfl, rfl, rfl, rfl⟩⟩ (Nat.le_of_ble_eq_true rfl) (Nat.le_of_ble_eq_true rfl) dX9_plan_27
  · refine j_iload_n E 9 rfl dX9_plan_8 rfl (lv_at hl 1 rfl) ?_
    refine kS_i E (c_J6_bitCount_0f7a4 l D cy T (v_0) v_s   r_v_s ) ms_J6_bitCount_0f7a4 ml_X9_218 hK hw hA ⟨Nat.le_of_ble_eq_true rfl, Nat.le_of_ble_eq_true rfl⟩ ⟨Nat.le_of_ble_eq_true rfl, Nat.le_of_ble_eq_true rfl⟩ (As := [.int (J v_s)]) (rest := []) rfl rfl hl.1 (Nat.le_of_ble_eq_true rfl) 12 rfl dX9_plan_9 (fun zz3_ v_3 H locs rr3_ hq3_ hw => ?_)
    obtain ⟨ev3_, hh3_⟩ := hq3_
    rw [ev3_] at hw; clear ev3_
    refine j_iconst E 13 rfl dX9_plan_12 ?_
    refine j_icmp_gt E 16 26 rfl rr3_ (rr (by decide)) dX9_plan_13 (by decide) (fun cc4_ => ?_) (fun cc4_ => ?_)
    · refine j_iconst E 27 rfl dX9_plan_26 ?_
      exact hret 27 ((-1)) T (upV (upV (upV v_0 64 (v_0 64)) 65 (v_0 65)) 66 (v_0 66)) _ _ ls _ _ (cw_eq hw (by first | rfl | (funext j_; simp only [upV, reduceIte]; (repeat' split) <;> first | rfl | omega | (subst_vars; rfl)))) hoT_ (rr (by decide)) ⟨(v_0 64), (v_0 65), (v_0 66), rfl, ⟨t_o, rfl, rfl, rfl, rfl⟩⟩ (Nat.le_of_ble_eq_true rfl) (Nat.le_of_ble_eq_true rfl) dX9_plan_27
    · refine j_iload_n E 17 rfl dX9_plan_16 rfl (lv_at hl 2 rfl) ?_
      refine j_iconst E 18 rfl dX9_plan_17 ?_
      refine j_icmp_lt E 21 26 rfl r_v_m (rr (by decide)) dX9_plan_18 (by decide) (fun cc5_ => ?_) (fun cc5_ => ?_)
      · refine j_iconst E 27 rfl dX9_plan_26 ?_
        exact hret 27 ((-1)) T (upV (upV (upV v_0 64 (v_0 64)) 65 (v_0 65)) 66 (v_0 66)) _ _ ls _ _ (cw_eq hw (by first | rfl | (funext j_; simp only [upV, reduceIte]; (repeat' split) <;> first | rfl | omega | (subst_vars; rfl)))) hoT_ (rr (by decide)) ⟨(v_0 64), (v_0 65), (v_0 66), rfl, ⟨t_o, rfl, rfl, rfl, rfl⟩⟩ (Nat.le_of_ble_eq_true rfl) (Nat.le_of_ble_eq_true rfl) dX9_plan_27
      · refine j_iload_n E 22 rfl dX9_plan_21 rfl (lv_at hl 2 rfl) ?_
        refine j_iconst E 23 rfl dX9_plan_22 ?_
        refine j_icmp_le E 26 28 rfl r_v_m (rr (by decide)) dX9_plan_23 (by decide) (fun cc6_ => ?_) (fun cc6_ => ?_)
        · have L53_7 : ∀ (s0_53 : Int) (H : Heap) (locs : List Loc) (ls : Array Slot), inR s0_53 → (True) → WK D cy T (v_0) A0 s.heap H locs → lv_has ls 7 [(0, .ref o), (1, .int (J v_s)), (2, .int (J v_m)), (3, .int (J v_w))] → W p l e (rmd 5 5 6600) s m ar below meth c H locs 0 0 QW (F0 m 53 ls [.int (J s0_53)]) := by
            intro s0_53 H locs ls r_s0_53 iv53 hw hl
            refine j_istore E 55 rfl [(4, .int (J s0_53)), (0, .ref o), (1, .int (J v_s)), (2, .int (J v_m)), (3, .int (J v_w))] dX9_plan_53 hl (by decide) rfl (fun ls hl => ?_)
            have L71_9 : ∀ (H : Heap) (locs : List Loc) (ls : Array Slot), (True) → WK D cy T (v_0) A0 s.heap H locs → lv_has ls 7 [(0, .ref o), (1, .int (J v_s)), (2, .int (J v_m)), (3, .int (J v_w)), (4, .int (J s0_53))] → W p l e (rmd 5 5 6600) s m ar below meth c H locs 0 0 QW (F0 m 71 ls []) := by
              intro H locs ls iv71 hw hl
              refine j_aload_n E 72 rfl dX9_plan_71 rfl (lv_at hl 0 rfl) ?_
              refine g_197 E hK hw fl_X9_76 t_o 75 rfl dX9_plan_72 ?_
              cases hd11_ : dcd (T 197 o) with
              | none =>
                show W p l e (rmd 5 5 6600) s m ar below meth c H locs _ _ QW (F0 m 75 ls [.null])
                refine j_ifnonnullN E 78 rfl dX9_plan_75 ?_
                have hw0_ := hw
                refine n_obj3 E hK hw hA cl_X9_374 (Nat.le_of_ble_eq_true rfl) (Nat.le_of_ble_eq_true rfl) 81 rfl dX9_plan_78 (fun q12_ T12_ H hge12_ hx12_ ho12_ tq12_ hw => ?_)
                have fq12_ : s.heap.size ≤ q12_ := Nat.le_trans hw0_.2.2.1 hge12_
                have hw : WK D cy T12_ (upV (upV (upV v_0 64 (upB (v_0 64) q12_ 0)) 65 (upB (v_0 65) q12_ 0)) 66 (upB (v_0 66) q12_ 0)) A0 s.heap H locs := cw_eq hw (by first | rfl | (funext j_; simp only [upV, reduceIte]; (repeat' split) <;> first | rfl | omega | (subst_vars; rfl)))
                have hT12_ : WT T12_ := hw.1.2.1
                have hO12_ : ∀ x, ow T12_ x → κ 2 2 ≤ x := fun x h => hAc x (hw.2.1 x h)
                have hoT_ : OW T T12_ s.heap.size := OW.tr hw0_.2.2.1 hoT_ ho12_
                have u13_ : T12_ 0 o = 9 := (hx12_ o (Nat.ne_of_lt (Nat.lt_of_lt_of_le (cw_lt hw0_.1 t_o (fun _ _ _ => ⟨_, rfl⟩)) hge12_)) 0).trans t_o
                have u14_ : T12_ 180 o = T 180 o := (hx12_ o (Nat.ne_of_lt (Nat.lt_of_lt_of_le (cw_lt hw0_.1 t_o (fun _ _ _ => ⟨_, rfl⟩)) hge12_)) 180).trans rfl
                have u15_ : T12_ 181 o = T 181 o := (hx12_ o (Nat.ne_of_lt (Nat.lt_of_lt_of_le (cw_lt hw0_.1 t_o (fun _ _ _ => ⟨_, rfl⟩)) hge12_)) 181).trans rfl
                have u16_ : T12_ 182 o = T 182 o := (hx12_ o (Nat.ne_of_lt (Nat.lt_of_lt_of_le (cw_lt hw0_.1 t_o (fun _ _ _ => ⟨_, rfl⟩)) hge12_)) 182).trans rfl
                have u17_ : T12_ 183 o = T 183 o := (hx12_ o (Nat.ne_of_lt (Nat.lt_of_lt_of_le (cw_lt hw0_.1 t_o (fun _ _ _ => ⟨_, rfl⟩)) hge12_)) 183).trans rfl
                refine j_dup E 82 rfl dX9_plan_81 rfl ?_
                have hw0_ := hw
                refine aN_v E (n_X2_init l D cy κ T12_ (upV (upV (upV v_0 64 (upB (v_0 64) q12_ 0)) 65 (upB (v_0 65) q12_ 0)) 66 (upB (v_0 66) q12_ 0)) q12_ H.size  hO12_ tq12_  ) mi_X2_init hZ.1.mP hK hZ hAc hw hA ⟨(Nat.le_of_ble_eq_true rfl), (Nat.le_of_ble_eq_true rfl)⟩ ⟨(Nat.le_of_ble_eq_true rfl), (Nat.le_of_ble_eq_true rfl)⟩ (As := []) (rest := [.ref q12_]) rfl rfl hl.1 (Nat.le_of_ble_eq_true rfl) 85 rfl dX9_plan_82 (fun T18_ v_18 H locs hge18_ ho18_ hq18_ hw => ?_)
                obtain ⟨y64_18, y65_18, y66_18, ev18_, hh18_⟩ := hq18_
                rw [ev18_] at hw; clear ev18_
                have hw : WK D cy T18_ (upV (upV (upV v_0 64 y64_18) 65 y65_18) 66 y66_18) A0 s.heap H locs := cw_eq hw (by first | rfl | (funext j_; simp only [upV, reduceIte]; (repeat' split) <;> first | rfl | omega | (subst_vars; rfl)))
                obtain ⟨hx18_, tq18_⟩ := hh18_
                have hT18_ : WT T18_ := hw.1.2.1
                have hO18_ : ∀ x, ow T18_ x → κ 2 2 ≤ x := fun x h => hAc x (hw.2.1 x h)
                have hoT_ : OW T T18_ s.heap.size := OW.tr hw0_.2.2.1 hoT_ ho18_
                have u19_ : T18_ 0 o = 9 := (hx18_ o (cw_lt hw0_.1 u13_ (fun _ _ _ => ⟨_, rfl⟩)) (ty_ne u13_ tq12_ (by decide)) 0).trans u13_
                have u20_ : T18_ 180 o = T 180 o := (hx18_ o (cw_lt hw0_.1 u13_ (fun _ _ _ => ⟨_, rfl⟩)) (ty_ne u13_ tq12_ (by decide)) 180).trans u14_
                have u21_ : T18_ 181 o = T 181 o := (hx18_ o (cw_lt hw0_.1 u13_ (fun _ _ _ => ⟨_, rfl⟩)) (ty_ne u13_ tq12_ (by decide)) 181).trans u15_
                have u22_ : T18_ 182 o = T 182 o := (hx18_ o (cw_lt hw0_.1 u13_ (fun _ _ _ => ⟨_, rfl⟩)) (ty_ne u13_ tq12_ (by decide)) 182).trans u16_
                have u23_ : T18_ 183 o = T 183 o := (hx18_ o (cw_lt hw0_.1 u13_ (fun _ _ _ => ⟨_, rfl⟩)) (ty_ne u13_ tq12_ (by decide)) 183).trans u17_
                refine j_goto E 92 dX9_plan_85 (by decide) ?_
                refine j_astore E 94 rfl [(5, .ref q12_), (0, .ref o), (1, .int (J v_s)), (2, .int (J v_m)), (3, .int (J v_w)), (4, .int (J s0_53))] dX9_plan_92 hl (by decide) rfl (fun ls hl => ?_)
                refine j_aload_n E 95 rfl dX9_plan_94 rfl (lv_at hl 1 rfl) ?_
                refine j_aload E 97 rfl dX9_plan_95 (lv_at hl 0 rfl) ?_
                have hw0_ := hw
                refine pl_put E hK hw fl_X9_76 u19_ tq18_ 100 rfl dX9_plan_97 (fun T24_ H locs hx24_ ho24_ hw => ?_)
                have hT24_ : WT T24_ := hw.1.2.1
                have hO24_ : ∀ x, ow T24_ x → κ 2 2 ≤ x := fun x h => hAc x (hw.2.1 x h)
                have hoT_ : OW T T24_ s.heap.size := OW.tr0 hoT_ ho24_
                have u25_ : T24_ 0 o = 9 := (hx24_ 0 (by decide) o).trans u19_
                have u26_ : T24_ 0 q12_ = 3 := (hx24_ 0 (by decide) q12_).trans tq18_
                have u27_ : T24_ 180 o = T 180 o := (hx24_ 180 (by decide) o).trans u20_
                have u28_ : T24_ 181 o = T 181 o := (hx24_ 181 (by decide) o).trans u21_
                have u29_ : T24_ 182 o = T 182 o := (hx24_ 182 (by decide) o).trans u22_
                have u30_ : T24_ 183 o = T 183 o := (hx24_ 183 (by decide) o).trans u23_
                refine j_aload E 102 rfl dX9_plan_100 (lv_at hl 0 rfl) ?_
                refine j_aload_n E 103 rfl dX9_plan_102 rfl (lv_at hl 1 rfl) ?_
                refine g_180 E hK hw fl_X9_12 u25_ 106 rfl dX9_plan_103 ?_
                refine kV_i E (c_Jx4a65c_size_8abf5 l D cy T24_ (upV (upV (upV v_0 64 y64_18) 65 y65_18) 66 y66_18) (T24_ 180 o)  (wt_180 hT24_ u25_)  ) mt_Jx4a65c_size_8abf5 ml_X9_80 hK hw (cw_rc10 hK hw.1 (wt_180 hT24_ u25_)) hA ⟨Nat.le_of_ble_eq_true rfl, Nat.le_of_ble_eq_true rfl⟩ ⟨Nat.le_of_ble_eq_true rfl, Nat.le_of_ble_eq_true rfl⟩ (As := []) (rest := [.ref q12_]) rfl rfl hl.1 (Nat.le_of_ble_eq_true rfl) 109 rfl dX9_plan_106 (fun zz31_ v_31 H locs rr31_ hq31_ hw => ?_)
                obtain ⟨ev31_, hh31_⟩ := hq31_
                rw [ev31_] at hw; clear ev31_
                have hh31_ : zz31_ = ((v_0 202) ((T24_ 180 o))) ∧ 0 ≤ zz31_ := hh31_
                refine kV_v E (c_X2_begin l D cy T24_ (upV (upV (upV v_0 64 y64_18) 65 y65_18) 66 y66_18) q12_ zz31_  u26_ rr31_ ) mt_X2_begin ml_X9_377 hK hw (cw_rc3 hK hw.1 u26_) hA ⟨Nat.le_of_ble_eq_true rfl, Nat.le_of_ble_eq_true rfl⟩ ⟨Nat.le_of_ble_eq_true rfl, Nat.le_of_ble_eq_true rfl⟩ (As := [.int (J zz31_)]) (rest := []) rfl rfl hl.1 (Nat.le_of_ble_eq_true rfl) 112 rfl dX9_plan_109 (fun v_32 H locs hq32_ hw => ?_)
                obtain ⟨y64_32, y65_32, y66_32, ev32_, hh32_⟩ := hq32_
                rw [ev32_] at hw; clear ev32_
                have hw : WK D cy T24_ (upV (upV (upV v_0 64 y64_32) 65 y65_32) 66 y66_32) A0 s.heap H locs := cw_eq hw (by first | rfl | (funext j_; simp only [upV, reduceIte]; (repeat' split) <;> first | rfl | omega | (subst_vars; rfl)))
                have hh32_ : (y65_32 q12_) = 0 ∧ (y66_32 q12_) = 0 ∧ 0 ≤ (y64_32 q12_) ∧ (y64_32 q12_) ≤ 24 := hh32_
                refine j_iconst E 113 rfl dX9_plan_112 ?_
                refine j_istore E 115 rfl [(6, .int (J 0)), (5, .ref q12_), (0, .ref o), (1, .int (J v_s)), (2, .int (J v_m)), (3, .int (J v_w)), (4, .int (J s0_53))] dX9_plan_113 hl (by decide) rfl (fun ls hl => ?_)
                have L115_33 : ∀ (k115 : Nat) (l6_115 : Int) (y65_c115 : Nat → Int) (y66_c115 : Nat → Int) (H : Heap) (locs : List Loc) (ls : Array Slot), inR l6_115 → (0 ≤ l6_115 ∧ 0 ≤ (y66_c115 q12_) ∧ (y66_c115 q12_) ≤ 255 ∧ 0 ≤ (y65_c115 q12_) ∧ (y65_c115 q12_) ≤ 4 ∧ 0 ≤ (y64_32 q12_) ∧ (y64_32 q12_) ≤ 24) → ((v_0 202 (T24_ 181 o)) - l6_115).toNat < k115 → WK D cy T24_ (upV (upV (upV v_0 64 y64_32) 65 y65_c115) 66 y66_c115) A0 s.heap H locs → lv_has ls 7 [(0, .ref o), (1, .int (J v_s)), (2, .int (J v_m)), (3, .int (J v_w)), (4, .int (J s0_53)), (5, .ref q12_), (6, .int (J l6_115))] → W p l e (rmd 5 5 6600) s m ar below meth c H locs 5 6531 QW (F0 m 115 ls []) := by
                  intro k115
                  induction k115 with
                  | zero =>
                    intro l6_115 y65_c115 y66_c115 H locs ls r_l6_115 iv115 ms115 hw hl
                    exact absurd ms115 (Nat.not_lt_zero _)
                  | succ k115 ih115 =>
                    intro l6_115 y65_c115 y66_c115 H locs ls r_l6_115 iv115 ms115 hw hl
                    refine j_iload E 117 rfl dX9_plan_115 (lv_at hl 6 rfl) ?_
                    refine j_aload_n E 118 rfl dX9_plan_117 rfl (lv_at hl 0 rfl) ?_
                    refine g_181 E hK hw fl_X9_16 u25_ 121 rfl dX9_plan_118 ?_
                    refine kV_i E (c_Jx4a65c_size_8abf5 l D cy T24_ (upV (upV (upV v_0 64 y64_32) 65 y65_c115) 66 y66_c115) (T24_ 181 o)  (wt_181 hT24_ u25_)  ) mt_Jx4a65c_size_8abf5 ml_X9_80 hK hw (cw_rc10 hK hw.1 (wt_181 hT24_ u25_)) hA ⟨Nat.le_of_ble_eq_true rfl, Nat.le_of_ble_eq_true rfl⟩ ⟨Nat.le_of_ble_eq_true rfl, Nat.le_of_ble_eq_true rfl⟩ (As := []) (rest := [.int (J l6_115)]) rfl rfl hl.1 (Nat.le_of_ble_eq_true rfl) 124 rfl dX9_plan_121 (fun zz35_ v_35 H locs rr35_ hq35_ hw => ?_)
                    obtain ⟨ev35_, hh35_⟩ := hq35_
                    rw [ev35_] at hw; clear ev35_
                    have hh35_ : zz35_ = ((v_0 202) ((T24_ 181 o))) ∧ 0 ≤ zz35_ := hh35_
                    refine j_icmp_ge E 127 169 rfl r_l6_115 rr35_ dX9_plan_124 (by decide) (fun cc36_ => ?_) (fun cc36_ => ?_)
                    · refine j_aload E 171 rfl dX9_plan_169 (lv_at hl 5 rfl) ?_
                      refine kV_v E (c_X2_solve l D cy T24_ (upV (upV (upV v_0 64 y64_32) 65 y65_c115) 66 y66_c115) q12_  u26_  (show 0 ≤ (y66_c115 q12_) ∧ (y66_c115 q12_) ≤ 255 ∧ 0 ≤ (y65_c115 q12_) ∧ (y65_c115 q12_) ≤ 4 ∧ 0 ≤ (y64_32 q12_) ∧ (y64_32 q12_) ≤ 24 from by omega)) mt_X2_solve ml_X9_387 hK hw (cw_rc3 hK hw.1 u26_) hA ⟨Nat.le_of_ble_eq_true rfl, Nat.le_of_ble_eq_true rfl⟩ ⟨Nat.le_of_ble_eq_true rfl, Nat.le_of_ble_eq_true rfl⟩ (As := []) (rest := []) rfl rfl hl.1 (Nat.le_of_ble_eq_true rfl) 174 rfl dX9_plan_171 (fun v_37 H locs hq37_ hw => ?_)
                      obtain ⟨ev37_, hh37_⟩ := hq37_
                      rw [ev37_] at hw; clear ev37_
                      refine j_iload E 176 rfl dX9_plan_174 (lv_at hl 4 rfl) ?_
                      refine j_if_eq E 179 191 rfl r_s0_53 dX9_plan_176 (by decide) (fun cc38_ => ?_) (fun cc38_ => ?_)
                      · refine j_iload_n E 192 rfl dX9_plan_191 rfl (lv_at hl 3 rfl) ?_
                        refine j_if_ne E 195 203 rfl r_v_w dX9_plan_192 (by decide) (fun cc39_ => ?_) (fun cc39_ => ?_)
                        · refine j_aload E 205 rfl dX9_plan_203 (lv_at hl 5 rfl) ?_
                          refine kV_i E (c_X2_teachings l D cy T24_ (upV (upV (upV v_0 64 y64_32) 65 y65_c115) 66 y66_c115) q12_  u26_  ) mt_X2_teachings ml_X9_396 hK hw (cw_rc3 hK hw.1 u26_) hA ⟨Nat.le_of_ble_eq_true rfl, Nat.le_of_ble_eq_true rfl⟩ ⟨Nat.le_of_ble_eq_true rfl, Nat.le_of_ble_eq_true rfl⟩ (As := []) (rest := []) rfl rfl hl.1 (Nat.le_of_ble_eq_true rfl) 208 rfl dX9_plan_205 (fun zz40_ v_40 H locs rr40_ hq40_ hw => ?_)
                          obtain ⟨ev40_, hh40_⟩ := hq40_
                          rw [ev40_] at hw; clear ev40_
                          exact hret 208 zz40_ T24_ (upV (upV (upV v_0 64 y64_32) 65 y65_c115) 66 y66_c115) _ _ ls _ _ hw hoT_ rr40_ ⟨y64_32, y65_c115, y66_c115, rfl, ⟨u25_, u27_, u28_, u29_, u30_⟩⟩ (Nat.le_of_ble_eq_true rfl) (Nat.le_of_ble_eq_true rfl) dX9_plan_208
                        · refine j_aload E 197 rfl dX9_plan_195 (lv_at hl 5 rfl) ?_
                          refine kV_i E (c_X2_cost l D cy T24_ (upV (upV (upV v_0 64 y64_32) 65 y65_c115) 66 y66_c115) q12_  u26_  ) mt_X2_cost ml_X9_393 hK hw (cw_rc3 hK hw.1 u26_) hA ⟨Nat.le_of_ble_eq_true rfl, Nat.le_of_ble_eq_true rfl⟩ ⟨Nat.le_of_ble_eq_true rfl, Nat.le_of_ble_eq_true rfl⟩ (As := []) (rest := []) rfl rfl hl.1 (Nat.le_of_ble_eq_true rfl) 200 rfl dX9_plan_197 (fun zz41_ v_41 H locs rr41_ hq41_ hw => ?_)
                          obtain ⟨ev41_, hh41_⟩ := hq41_
                          rw [ev41_] at hw; clear ev41_
                          refine j_goto E 208 dX9_plan_200 (by decide) ?_
                          exact hret 208 zz41_ T24_ (upV (upV (upV v_0 64 y64_32) 65 y65_c115) 66 y66_c115) _ _ ls _ _ hw hoT_ rr41_ ⟨y64_32, y65_c115, y66_c115, rfl, ⟨u25_, u27_, u28_, u29_, u30_⟩⟩ (Nat.le_of_ble_eq_true rfl) (Nat.le_of_ble_eq_true rfl) dX9_plan_208
                      · refine j_aload E 181 rfl dX9_plan_179 (lv_at hl 5 rfl) ?_
                        refine j_iload_n E 182 rfl dX9_plan_181 rfl (lv_at hl 3 rfl) ?_
                        refine j_bipush E 184 rfl dX9_plan_182 (by decide) ?_
                        refine j_isub E 185 rfl dX9_plan_184 ?_
                        refine j_norm (fun zz42_ rr42_ ee42_ => ?_)
                        refine kV_i E (c_X2_lessonOf l D cy T24_ (upV (upV (upV v_0 64 y64_32) 65 y65_c115) 66 y66_c115) q12_ zz42_  u26_ rr42_ ) mt_X2_lessonOf ml_X9_390 hK hw (cw_rc3 hK hw.1 u26_) hA ⟨Nat.le_of_ble_eq_true rfl, Nat.le_of_ble_eq_true rfl⟩ ⟨Nat.le_of_ble_eq_true rfl, Nat.le_of_ble_eq_true rfl⟩ (As := [.int (J zz42_)]) (rest := []) rfl rfl hl.1 (Nat.le_of_ble_eq_true rfl) 188 rfl dX9_plan_185 (fun zz43_ v_43 H locs rr43_ hq43_ hw => ?_)
                        obtain ⟨ev43_, hh43_⟩ := hq43_
                        rw [ev43_] at hw; clear ev43_
                        refine j_goto E 208 dX9_plan_188 (by decide) ?_
                        exact hret 208 zz43_ T24_ (upV (upV (upV v_0 64 y64_32) 65 y65_c115) 66 y66_c115) _ _ ls _ _ hw hoT_ rr43_ ⟨y64_32, y65_c115, y66_c115, rfl, ⟨u25_, u27_, u28_, u29_, u30_⟩⟩ (Nat.le_of_ble_eq_true rfl) (Nat.le_of_ble_eq_true rfl) dX9_plan_208
                    · refine j_iload_n E 128 rfl dX9_plan_127 rfl (lv_at hl 1 rfl) ?_
                      refine j_iload E 130 rfl dX9_plan_128 (lv_at hl 6 rfl) ?_
                      refine j_iushr E 131 rfl dX9_plan_130 (fun zz44_ rr44_ ee44_ => ?_)
                      refine j_iconst E 132 rfl dX9_plan_131 ?_
                      refine j_iand E 133 rfl dX9_plan_132 (fun zz45_ rr45_ ee45_ => ?_)
                      refine j_if_eq E 136 163 rfl rr45_ dX9_plan_133 (by decide) (fun cc46_ => ?_) (fun cc46_ => ?_)
                      · refine j_iinc E 166 rfl [(6, .int (J (l6_115 + 1))), (0, .ref o), (1, .int (J v_s)), (2, .int (J v_m)), (3, .int (J v_w)), (4, .int (J s0_53)), (5, .ref q12_)] dX9_plan_163 hl (kk := 6) rfl (by decide) rfl (fun ls hl => ?_)
                        refine j_goto E 115 dX9_plan_166 (by decide) ?_
                        exact ih115 (l6_115 + 1) y65_c115 y66_c115 H locs ls (rr (by omega)) (by first | omega | (simp only [upB_same]; omega)) (by omega) hw (lv_sub hl [1, 2, 3, 4, 5, 6, 0] rfl)
                      · refine j_aload E 138 rfl dX9_plan_136 (lv_at hl 5 rfl) ?_
                        refine j_iload E 140 rfl dX9_plan_138 (lv_at hl 6 rfl) ?_
                        refine j_iconst E 141 rfl dX9_plan_140 ?_
                        refine j_iload_n E 142 rfl dX9_plan_141 rfl (lv_at hl 2 rfl) ?_
                        refine j_aload_n E 143 rfl dX9_plan_142 rfl (lv_at hl 0 rfl) ?_
                        refine j_iload E 145 rfl dX9_plan_143 (lv_at hl 6 rfl) ?_
                        refine kV_i E (c_X9_countHolders l D cy T24_ (upV (upV (upV v_0 64 y64_32) 65 y65_c115) 66 y66_c115) o l6_115  u25_ r_l6_115 ) mt_X9_countHolders ml_X9_209 hK hw (cw_rc9 hK hw.1 u25_) hA ⟨Nat.le_of_ble_eq_true rfl, Nat.le_of_ble_eq_true rfl⟩ ⟨Nat.le_of_ble_eq_true rfl, Nat.le_of_ble_eq_true rfl⟩ (As := [.int (J l6_115)]) (rest := [.int (J v_m), .int (J 0), .int (J l6_115), .ref q12_]) rfl rfl hl.1 (Nat.le_of_ble_eq_true rfl) 148 rfl dX9_plan_145 (fun zz47_ v_47 H locs rr47_ hq47_ hw => ?_)
                        obtain ⟨ev47_, hh47_⟩ := hq47_
                        rw [ev47_] at hw; clear ev47_
                        refine j_isub E 149 rfl dX9_plan_148 ?_
                        refine j_norm (fun zz48_ rr48_ ee48_ => ?_)
                        refine j_max E hl.1 ml_X9_350 (rr (by decide)) rr48_ ⟨Nat.le_of_ble_eq_true rfl, Nat.le_of_ble_eq_true rfl⟩ ⟨Nat.le_of_ble_eq_true rfl, Nat.le_of_ble_eq_true rfl⟩ 152 rfl dX9_plan_149 (fun zz49_ rr49_ hh49_ => ?_)
                        refine kV_v E (c_X2_addLine l D cy T24_ (upV (upV (upV v_0 64 y64_32) 65 y65_c115) 66 y66_c115) q12_ l6_115 zz49_  u26_ r_l6_115 rr49_ (show 0 ≤ (y66_c115 q12_) ∧ (y66_c115 q12_) ≤ 255 ∧ 0 ≤ (y65_c115 q12_) ∧ (y65_c115 q12_) ≤ 4 from by omega)) mt_X2_addLine ml_X9_380 hK hw (cw_rc3 hK hw.1 u26_) hA ⟨Nat.le_of_ble_eq_true rfl, Nat.le_of_ble_eq_true rfl⟩ ⟨Nat.le_of_ble_eq_true rfl, Nat.le_of_ble_eq_true rfl⟩ (As := [.int (J l6_115), .int (J zz49_)]) (rest := []) rfl rfl hl.1 (Nat.le_of_ble_eq_true rfl) 155 rfl dX9_plan_152 (fun v_50 H locs hq50_ hw => ?_)
                        obtain ⟨y65_50, y66_50, ev50_, hh50_⟩ := hq50_
                        rw [ev50_] at hw; clear ev50_
                        have hw : WK D cy T24_ (upV (upV (upV v_0 64 y64_32) 65 y65_50) 66 y66_50) A0 s.heap H locs := cw_eq hw (by first | rfl | (funext j_; simp only [upV, reduceIte]; (repeat' split) <;> first | rfl | omega | (subst_vars; rfl)))
                        have hh50_ : 0 ≤ (y66_50 q12_) ∧ (y66_50 q12_) ≤ 255 ∧ 0 ≤ (y65_50 q12_) ∧ (y65_50 q12_) ≤ 4 := hh50_
                        refine j_aload_n E 156 rfl dX9_plan_155 rfl (lv_at hl 0 rfl) ?_
                        refine j_aload E 158 rfl dX9_plan_156 (lv_at hl 5 rfl) ?_
                        refine j_iload E 160 rfl dX9_plan_158 (lv_at hl 6 rfl) ?_
                        refine kV_v E (c_X9_putPrices l D cy T24_ (upV (upV (upV v_0 64 y64_32) 65 y65_50) 66 y66_50) o q12_ l6_115  u25_ u26_ r_l6_115 ) mt_X9_putPrices ml_X9_383 hK hw (cw_rc9 hK hw.1 u25_) hA ⟨Nat.le_of_ble_eq_true rfl, Nat.le_of_ble_eq_true rfl⟩ ⟨Nat.le_of_ble_eq_true rfl, Nat.le_of_ble_eq_true rfl⟩ (As := [.ref q12_, .int (J l6_115)]) (rest := []) rfl rfl hl.1 (Nat.le_of_ble_eq_true rfl) 163 rfl dX9_plan_160 (fun v_51 H locs hq51_ hw => ?_)
                        obtain ⟨ev51_, hh51_⟩ := hq51_
                        rw [ev51_] at hw; clear ev51_
                        refine j_iinc E 166 rfl [(6, .int (J (l6_115 + 1))), (0, .ref o), (1, .int (J v_s)), (2, .int (J v_m)), (3, .int (J v_w)), (4, .int (J s0_53)), (5, .ref q12_)] dX9_plan_163 hl (kk := 6) rfl (by decide) rfl (fun ls hl => ?_)
                        refine j_goto E 115 dX9_plan_166 (by decide) ?_
                        exact ih115 (l6_115 + 1) y65_50 y66_50 H locs ls (rr (by omega)) (by first | omega | (simp only [upB_same]; omega)) (by omega) hw (lv_sub hl [1, 2, 3, 4, 5, 6, 0] rfl)
                exact L115_33 _ 0 y65_32 y66_32 H locs ls (rr (by decide)) (by first | omega | (simp only [upB_same]; omega)) (Nat.lt_succ_self _) hw (lv_sub hl [2, 3, 4, 5, 6, 1, 0] rfl)
              | some xp11_ =>
                show W p l e (rmd 5 5 6600) s m ar below meth c H locs _ _ QW (F0 m 75 ls [.ref xp11_])
                have tp11_ : T 0 xp11_ = 3 := wpl_ hT t_o hd11_
                refine j_ifnonnullR E 88 dX9_plan_75 (by decide) ?_
                refine j_aload_n E 89 rfl dX9_plan_88 rfl (lv_at hl 0 rfl) ?_
                refine g_197 E hK hw fl_X9_76 t_o 92 rfl dX9_plan_89 ?_
                rw [hd11_]
                show W p l e (rmd 5 5 6600) s m ar below meth c H locs _ _ QW (F0 m 92 ls [.ref xp11_])
                refine j_astore E 94 rfl [(5, .ref xp11_), (0, .ref o), (1, .int (J v_s)), (2, .int (J v_m)), (3, .int (J v_w)), (4, .int (J s0_53))] dX9_plan_92 hl (by decide) rfl (fun ls hl => ?_)
                refine j_aload_n E 95 rfl dX9_plan_94 rfl (lv_at hl 1 rfl) ?_
                refine j_aload E 97 rfl dX9_plan_95 (lv_at hl 0 rfl) ?_
                have hw0_ := hw
                refine pl_put E hK hw fl_X9_76 t_o tp11_ 100 rfl dX9_plan_97 (fun T52_ H locs hx52_ ho52_ hw => ?_)
                have hT52_ : WT T52_ := hw.1.2.1
                have hO52_ : ∀ x, ow T52_ x → κ 2 2 ≤ x := fun x h => hAc x (hw.2.1 x h)
                have hoT_ : OW T T52_ s.heap.size := OW.tr0 hoT_ ho52_
                have u53_ : T52_ 0 o = 9 := (hx52_ 0 (by decide) o).trans t_o
                have u54_ : T52_ 0 xp11_ = 3 := (hx52_ 0 (by decide) xp11_).trans tp11_
                have u55_ : T52_ 180 o = T 180 o := (hx52_ 180 (by decide) o).trans rfl
                have u56_ : T52_ 181 o = T 181 o := (hx52_ 181 (by decide) o).trans rfl
                have u57_ : T52_ 182 o = T 182 o := (hx52_ 182 (by decide) o).trans rfl
                have u58_ : T52_ 183 o = T 183 o := (hx52_ 183 (by decide) o).trans rfl
                refine j_aload E 102 rfl dX9_plan_100 (lv_at hl 0 rfl) ?_
                refine j_aload_n E 103 rfl dX9_plan_102 rfl (lv_at hl 1 rfl) ?_
                refine g_180 E hK hw fl_X9_12 u53_ 106 rfl dX9_plan_103 ?_
                refine kV_i E (c_Jx4a65c_size_8abf5 l D cy T52_ (v_0) (T52_ 180 o)  (wt_180 hT52_ u53_)  ) mt_Jx4a65c_size_8abf5 ml_X9_80 hK hw (cw_rc10 hK hw.1 (wt_180 hT52_ u53_)) hA ⟨Nat.le_of_ble_eq_true rfl, Nat.le_of_ble_eq_true rfl⟩ ⟨Nat.le_of_ble_eq_true rfl, Nat.le_of_ble_eq_true rfl⟩ (As := []) (rest := [.ref xp11_]) rfl rfl hl.1 (Nat.le_of_ble_eq_true rfl) 109 rfl dX9_plan_106 (fun zz59_ v_59 H locs rr59_ hq59_ hw => ?_)
                obtain ⟨ev59_, hh59_⟩ := hq59_
                rw [ev59_] at hw; clear ev59_
                have hh59_ : zz59_ = ((v_0 202) ((T52_ 180 o))) ∧ 0 ≤ zz59_ := hh59_
                refine kV_v E (c_X2_begin l D cy T52_ (v_0) xp11_ zz59_  u54_ rr59_ ) mt_X2_begin ml_X9_377 hK hw (cw_rc3 hK hw.1 u54_) hA ⟨Nat.le_of_ble_eq_true rfl, Nat.le_of_ble_eq_true rfl⟩ ⟨Nat.le_of_ble_eq_true rfl, Nat.le_of_ble_eq_true rfl⟩ (As := [.int (J zz59_)]) (rest := []) rfl rfl hl.1 (Nat.le_of_ble_eq_true rfl) 112 rfl dX9_plan_109 (fun v_60 H locs hq60_ hw => ?_)
                obtain ⟨y64_60, y65_60, y66_60, ev60_, hh60_⟩ := hq60_
                rw [ev60_] at hw; clear ev60_
                have hw : WK D cy T52_ (upV (upV (upV v_0 64 y64_60) 65 y65_60) 66 y66_60) A0 s.heap H locs := cw_eq hw (by first | rfl | (funext j_; simp only [upV, reduceIte]; (repeat' split) <;> first | rfl | omega | (subst_vars; rfl)))
                have hh60_ : (y65_60 xp11_) = 0 ∧ (y66_60 xp11_) = 0 ∧ 0 ≤ (y64_60 xp11_) ∧ (y64_60 xp11_) ≤ 24 := hh60_
                refine j_iconst E 113 rfl dX9_plan_112 ?_
                refine j_istore E 115 rfl [(6, .int (J 0)), (5, .ref xp11_), (0, .ref o), (1, .int (J v_s)), (2, .int (J v_m)), (3, .int (J v_w)), (4, .int (J s0_53))] dX9_plan_113 hl (by decide) rfl (fun ls hl => ?_)
                have L115_61 : ∀ (k115 : Nat) (l6_115 : Int) (y65_c115 : Nat → Int) (y66_c115 : Nat → Int) (H : Heap) (locs : List Loc) (ls : Array Slot), inR l6_115 → (0 ≤ l6_115 ∧ 0 ≤ (y66_c115 xp11_) ∧ (y66_c115 xp11_) ≤ 255 ∧ 0 ≤ (y65_c115 xp11_) ∧ (y65_c115 xp11_) ≤ 4 ∧ 0 ≤ (y64_60 xp11_) ∧ (y64_60 xp11_) ≤ 24) → ((v_0 202 (T52_ 181 o)) - l6_115).toNat < k115 → WK D cy T52_ (upV (upV (upV v_0 64 y64_60) 65 y65_c115) 66 y66_c115) A0 s.heap H locs → lv_has ls 7 [(0, .ref o), (1, .int (J v_s)), (2, .int (J v_m)), (3, .int (J v_w)), (4, .int (J s0_53)), (5, .ref xp11_), (6, .int (J l6_115))] → W p l e (rmd 5 5 6600) s m ar below meth c H locs 0 0 QW (F0 m 115 ls []) := by
                  intro k115
                  induction k115 with
                  | zero =>
                    intro l6_115 y65_c115 y66_c115 H locs ls r_l6_115 iv115 ms115 hw hl
                    exact absurd ms115 (Nat.not_lt_zero _)
                  | succ k115 ih115 =>
                    intro l6_115 y65_c115 y66_c115 H locs ls r_l6_115 iv115 ms115 hw hl
                    refine j_iload E 117 rfl dX9_plan_115 (lv_at hl 6 rfl) ?_
                    refine j_aload_n E 118 rfl dX9_plan_117 rfl (lv_at hl 0 rfl) ?_
                    refine g_181 E hK hw fl_X9_16 u53_ 121 rfl dX9_plan_118 ?_
                    refine kV_i E (c_Jx4a65c_size_8abf5 l D cy T52_ (upV (upV (upV v_0 64 y64_60) 65 y65_c115) 66 y66_c115) (T52_ 181 o)  (wt_181 hT52_ u53_)  ) mt_Jx4a65c_size_8abf5 ml_X9_80 hK hw (cw_rc10 hK hw.1 (wt_181 hT52_ u53_)) hA ⟨Nat.le_of_ble_eq_true rfl, Nat.le_of_ble_eq_true rfl⟩ ⟨Nat.le_of_ble_eq_true rfl, Nat.le_of_ble_eq_true rfl⟩ (As := []) (rest := [.int (J l6_115)]) rfl rfl hl.1 (Nat.le_of_ble_eq_true rfl) 124 rfl dX9_plan_121 (fun zz63_ v_63 H locs rr63_ hq63_ hw => ?_)
                    obtain ⟨ev63_, hh63_⟩ := hq63_
                    rw [ev63_] at hw; clear ev63_
                    have hh63_ : zz63_ = ((v_0 202) ((T52_ 181 o))) ∧ 0 ≤ zz63_ := hh63_
                    refine j_icmp_ge E 127 169 rfl r_l6_115 rr63_ dX9_plan_124 (by decide) (fun cc64_ => ?_) (fun cc64_ => ?_)
                    · refine j_aload E 171 rfl dX9_plan_169 (lv_at hl 5 rfl) ?_
                      refine kV_v E (c_X2_solve l D cy T52_ (upV (upV (upV v_0 64 y64_60) 65 y65_c115) 66 y66_c115) xp11_  u54_  (show 0 ≤ (y66_c115 xp11_) ∧ (y66_c115 xp11_) ≤ 255 ∧ 0 ≤ (y65_c115 xp11_) ∧ (y65_c115 xp11_) ≤ 4 ∧ 0 ≤ (y64_60 xp11_) ∧ (y64_60 xp11_) ≤ 24 from by omega)) mt_X2_solve ml_X9_387 hK hw (cw_rc3 hK hw.1 u54_) hA ⟨Nat.le_of_ble_eq_true rfl, Nat.le_of_ble_eq_true rfl⟩ ⟨Nat.le_of_ble_eq_true rfl, Nat.le_of_ble_eq_true rfl⟩ (As := []) (rest := []) rfl rfl hl.1 (Nat.le_of_ble_eq_true rfl) 174 rfl dX9_plan_171 (fun v_65 H locs hq65_ hw => ?_)
                      obtain ⟨ev65_, hh65_⟩ := hq65_
                      rw [ev65_] at hw; clear ev65_
                      refine j_iload E 176 rfl dX9_plan_174 (lv_at hl 4 rfl) ?_
                      refine j_if_eq E 179 191 rfl r_s0_53 dX9_plan_176 (by decide) (fun cc66_ => ?_) (fun cc66_ => ?_)
                      · refine j_iload_n E 192 rfl dX9_plan_191 rfl (lv_at hl 3 rfl) ?_
                        refine j_if_ne E 195 203 rfl r_v_w dX9_plan_192 (by decide) (fun cc67_ => ?_) (fun cc67_ => ?_)
                        · refine j_aload E 205 rfl dX9_plan_203 (lv_at hl 5 rfl) ?_
                          refine kV_i E (c_X2_teachings l D cy T52_ (upV (upV (upV v_0 64 y64_60) 65 y65_c115) 66 y66_c115) xp11_  u54_  ) mt_X2_teachings ml_X9_396 hK hw (cw_rc3 hK hw.1 u54_) hA ⟨Nat.le_of_ble_eq_true rfl, Nat.le_of_ble_eq_true rfl⟩ ⟨Nat.le_of_ble_eq_true rfl, Nat.le_of_ble_eq_true rfl⟩ (As := []) (rest := []) rfl rfl hl.1 (Nat.le_of_ble_eq_true rfl) 208 rfl dX9_plan_205 (fun zz68_ v_68 H locs rr68_ hq68_ hw => ?_)
                          obtain ⟨ev68_, hh68_⟩ := hq68_
                          rw [ev68_] at hw; clear ev68_
                          exact hret 208 zz68_ T52_ (upV (upV (upV v_0 64 y64_60) 65 y65_c115) 66 y66_c115) _ _ ls _ _ hw hoT_ rr68_ ⟨y64_60, y65_c115, y66_c115, rfl, ⟨u53_, u55_, u56_, u57_, u58_⟩⟩ (Nat.le_of_ble_eq_true rfl) (Nat.le_of_ble_eq_true rfl) dX9_plan_208
                        · refine j_aload E 197 rfl dX9_plan_195 (lv_at hl 5 rfl) ?_
                          refine kV_i E (c_X2_cost l D cy T52_ (upV (upV (upV v_0 64 y64_60) 65 y65_c115) 66 y66_c115) xp11_  u54_  ) mt_X2_cost ml_X9_393 hK hw (cw_rc3 hK hw.1 u54_) hA ⟨Nat.le_of_ble_eq_true rfl, Nat.le_of_ble_eq_true rfl⟩ ⟨Nat.le_of_ble_eq_true rfl, Nat.le_of_ble_eq_true rfl⟩ (As := []) (rest := []) rfl rfl hl.1 (Nat.le_of_ble_eq_true rfl) 200 rfl dX9_plan_197 (fun zz69_ v_69 H locs rr69_ hq69_ hw => ?_)
                          obtain ⟨ev69_, hh69_⟩ := hq69_
                          rw [ev69_] at hw; clear ev69_
                          refine j_goto E 208 dX9_plan_200 (by decide) ?_
                          exact hret 208 zz69_ T52_ (upV (upV (upV v_0 64 y64_60) 65 y65_c115) 66 y66_c115) _ _ ls _ _ hw hoT_ rr69_ ⟨y64_60, y65_c115, y66_c115, rfl, ⟨u53_, u55_, u56_, u57_, u58_⟩⟩ (Nat.le_of_ble_eq_true rfl) (Nat.le_of_ble_eq_true rfl) dX9_plan_208
                      · refine j_aload E 181 rfl dX9_plan_179 (lv_at hl 5 rfl) ?_
                        refine j_iload_n E 182 rfl dX9_plan_181 rfl (lv_at hl 3 rfl) ?_
                        refine j_bipush E 184 rfl dX9_plan_182 (by decide) ?_
                        refine j_isub E 185 rfl dX9_plan_184 ?_
                        refine j_norm (fun zz70_ rr70_ ee70_ => ?_)
                        refine kV_i E (c_X2_lessonOf l D cy T52_ (upV (upV (upV v_0 64 y64_60) 65 y65_c115) 66 y66_c115) xp11_ zz70_  u54_ rr70_ ) mt_X2_lessonOf ml_X9_390 hK hw (cw_rc3 hK hw.1 u54_) hA ⟨Nat.le_of_ble_eq_true rfl, Nat.le_of_ble_eq_true rfl⟩ ⟨Nat.le_of_ble_eq_true rfl, Nat.le_of_ble_eq_true rfl⟩ (As := [.int (J zz70_)]) (rest := []) rfl rfl hl.1 (Nat.le_of_ble_eq_true rfl) 188 rfl dX9_plan_185 (fun zz71_ v_71 H locs rr71_ hq71_ hw => ?_)
                        obtain ⟨ev71_, hh71_⟩ := hq71_
                        rw [ev71_] at hw; clear ev71_
                        refine j_goto E 208 dX9_plan_188 (by decide) ?_
                        exact hret 208 zz71_ T52_ (upV (upV (upV v_0 64 y64_60) 65 y65_c115) 66 y66_c115) _ _ ls _ _ hw hoT_ rr71_ ⟨y64_60, y65_c115, y66_c115, rfl, ⟨u53_, u55_, u56_, u57_, u58_⟩⟩ (Nat.le_of_ble_eq_true rfl) (Nat.le_of_ble_eq_true rfl) dX9_plan_208
                    · refine j_iload_n E 128 rfl dX9_plan_127 rfl (lv_at hl 1 rfl) ?_
                      refine j_iload E 130 rfl dX9_plan_128 (lv_at hl 6 rfl) ?_
                      refine j_iushr E 131 rfl dX9_plan_130 (fun zz72_ rr72_ ee72_ => ?_)
                      refine j_iconst E 132 rfl dX9_plan_131 ?_
                      refine j_iand E 133 rfl dX9_plan_132 (fun zz73_ rr73_ ee73_ => ?_)
                      refine j_if_eq E 136 163 rfl rr73_ dX9_plan_133 (by decide) (fun cc74_ => ?_) (fun cc74_ => ?_)
                      · refine j_iinc E 166 rfl [(6, .int (J (l6_115 + 1))), (0, .ref o), (1, .int (J v_s)), (2, .int (J v_m)), (3, .int (J v_w)), (4, .int (J s0_53)), (5, .ref xp11_)] dX9_plan_163 hl (kk := 6) rfl (by decide) rfl (fun ls hl => ?_)
                        refine j_goto E 115 dX9_plan_166 (by decide) ?_
                        exact ih115 (l6_115 + 1) y65_c115 y66_c115 H locs ls (rr (by omega)) (by first | omega | (simp only [upB_same]; omega)) (by omega) hw (lv_sub hl [1, 2, 3, 4, 5, 6, 0] rfl)
                      · refine j_aload E 138 rfl dX9_plan_136 (lv_at hl 5 rfl) ?_
                        refine j_iload E 140 rfl dX9_plan_138 (lv_at hl 6 rfl) ?_
                        refine j_iconst E 141 rfl dX9_plan_140 ?_
                        refine j_iload_n E 142 rfl dX9_plan_141 rfl (lv_at hl 2 rfl) ?_
                        refine j_aload_n E 143 rfl dX9_plan_142 rfl (lv_at hl 0 rfl) ?_
                        refine j_iload E 145 rfl dX9_plan_143 (lv_at hl 6 rfl) ?_
                        refine kV_i E (c_X9_countHolders l D cy T52_ (upV (upV (upV v_0 64 y64_60) 65 y65_c115) 66 y66_c115) o l6_115  u53_ r_l6_115 ) mt_X9_countHolders ml_X9_209 hK hw (cw_rc9 hK hw.1 u53_) hA ⟨Nat.le_of_ble_eq_true rfl, Nat.le_of_ble_eq_true rfl⟩ ⟨Nat.le_of_ble_eq_true rfl, Nat.le_of_ble_eq_true rfl⟩ (As := [.int (J l6_115)]) (rest := [.int (J v_m), .int (J 0), .int (J l6_115), .ref xp11_]) rfl rfl hl.1 (Nat.le_of_ble_eq_true rfl) 148 rfl dX9_plan_145 (fun zz75_ v_75 H locs rr75_ hq75_ hw => ?_)
                        obtain ⟨ev75_, hh75_⟩ := hq75_
                        rw [ev75_] at hw; clear ev75_
                        refine j_isub E 149 rfl dX9_plan_148 ?_
                        refine j_norm (fun zz76_ rr76_ ee76_ => ?_)
                        refine j_max E hl.1 ml_X9_350 (rr (by decide)) rr76_ ⟨Nat.le_of_ble_eq_true rfl, Nat.le_of_ble_eq_true rfl⟩ ⟨Nat.le_of_ble_eq_true rfl, Nat.le_of_ble_eq_true rfl⟩ 152 rfl dX9_plan_149 (fun zz77_ rr77_ hh77_ => ?_)
                        refine kV_v E (c_X2_addLine l D cy T52_ (upV (upV (upV v_0 64 y64_60) 65 y65_c115) 66 y66_c115) xp11_ l6_115 zz77_  u54_ r_l6_115 rr77_ (show 0 ≤ (y66_c115 xp11_) ∧ (y66_c115 xp11_) ≤ 255 ∧ 0 ≤ (y65_c115 xp11_) ∧ (y65_c115 xp11_) ≤ 4 from by omega)) mt_X2_addLine ml_X9_380 hK hw (cw_rc3 hK hw.1 u54_) hA ⟨Nat.le_of_ble_eq_true rfl, Nat.le_of_ble_eq_true rfl⟩ ⟨Nat.le_of_ble_eq_true rfl, Nat.le_of_ble_eq_true rfl⟩ (As := [.int (J l6_115), .int (J zz77_)]) (rest := []) rfl rfl hl.1 (Nat.le_of_ble_eq_true rfl) 155 rfl dX9_plan_152 (fun v_78 H locs hq78_ hw => ?_)
                        obtain ⟨y65_78, y66_78, ev78_, hh78_⟩ := hq78_
                        rw [ev78_] at hw; clear ev78_
                        have hw : WK D cy T52_ (upV (upV (upV v_0 64 y64_60) 65 y65_78) 66 y66_78) A0 s.heap H locs := cw_eq hw (by first | rfl | (funext j_; simp only [upV, reduceIte]; (repeat' split) <;> first | rfl | omega | (subst_vars; rfl)))
                        have hh78_ : 0 ≤ (y66_78 xp11_) ∧ (y66_78 xp11_) ≤ 255 ∧ 0 ≤ (y65_78 xp11_) ∧ (y65_78 xp11_) ≤ 4 := hh78_
                        refine j_aload_n E 156 rfl dX9_plan_155 rfl (lv_at hl 0 rfl) ?_
                        refine j_aload E 158 rfl dX9_plan_156 (lv_at hl 5 rfl) ?_
                        refine j_iload E 160 rfl dX9_plan_158 (lv_at hl 6 rfl) ?_
                        refine kV_v E (c_X9_putPrices l D cy T52_ (upV (upV (upV v_0 64 y64_60) 65 y65_78) 66 y66_78) o xp11_ l6_115  u53_ u54_ r_l6_115 ) mt_X9_putPrices ml_X9_383 hK hw (cw_rc9 hK hw.1 u53_) hA ⟨Nat.le_of_ble_eq_true rfl, Nat.le_of_ble_eq_true rfl⟩ ⟨Nat.le_of_ble_eq_true rfl, Nat.le_of_ble_eq_true rfl⟩ (As := [.ref xp11_, .int (J l6_115)]) (rest := []) rfl rfl hl.1 (Nat.le_of_ble_eq_true rfl) 163 rfl dX9_plan_160 (fun v_79 H locs hq79_ hw => ?_)
                        obtain ⟨ev79_, hh79_⟩ := hq79_
                        rw [ev79_] at hw; clear ev79_
                        refine j_iinc E 166 rfl [(6, .int (J (l6_115 + 1))), (0, .ref o), (1, .int (J v_s)), (2, .int (J v_m)), (3, .int (J v_w)), (4, .int (J s0_53)), (5, .ref xp11_)] dX9_plan_163 hl (kk := 6) rfl (by decide) rfl (fun ls hl => ?_)
                        refine j_goto E 115 dX9_plan_166 (by decide) ?_
                        exact ih115 (l6_115 + 1) y65_78 y66_78 H locs ls (rr (by omega)) (by first | omega | (simp only [upB_same]; omega)) (by omega) hw (lv_sub hl [1, 2, 3, 4, 5, 6, 0] rfl)
                exact L115_61 _ 0 y65_60 y66_60 H locs ls (rr (by decide)) (by first | omega | (simp only [upB_same]; omega)) (Nat.lt_succ_self _) hw (lv_sub hl [2, 3, 4, 5, 6, 1, 0] rfl)
            refine j_iload_n E 56 rfl dX9_plan_55 rfl (lv_at hl 4 rfl) ?_
            refine j_if_eq E 59 71 rfl r_v_w dX9_plan_56 (by decide) (fun cc80_ => ?_) (fun cc80_ => ?_)
            · exact L71_9   H locs ls  (trivial) hw (lv_sub hl [1, 2, 3, 4, 0] rfl)
            · refine j_iload_n E 60 rfl dX9_plan_59 rfl (lv_at hl 4 rfl) ?_
              refine j_iconst E 61 rfl dX9_plan_60 ?_
              refine j_icmp_eq E 64 71 rfl r_v_w (rr (by decide)) dX9_plan_61 (by decide) (fun cc81_ => ?_) (fun cc81_ => ?_)
              · exact L71_9   H locs ls  (trivial) hw (lv_sub hl [1, 2, 3, 4, 0] rfl)
              · refine j_iload E 66 rfl dX9_plan_64 (lv_at hl 0 rfl) ?_
                refine j_if_ne E 69 71 rfl r_s0_53 dX9_plan_66 (by decide) (fun cc82_ => ?_) (fun cc82_ => ?_)
                · exact L71_9   H locs ls  (trivial) hw (lv_sub hl [1, 2, 3, 4, 0] rfl)
                · refine j_iconst E 70 rfl dX9_plan_69 ?_
                  exact hret 70 ((-1)) T (upV (upV (upV v_0 64 (v_0 64)) 65 (v_0 65)) 66 (v_0 66)) _ _ ls _ _ (cw_eq hw (by first | rfl | (funext j_; simp only [upV, reduceIte]; (repeat' split) <;> first | rfl | omega | (subst_vars; rfl)))) hoT_ (rr (by decide)) ⟨(v_0 64), (v_0 65), (v_0 66), rfl, ⟨t_o, rfl, rfl, rfl, rfl⟩⟩ (Nat.le_of_ble_eq_true rfl) (Nat.le_of_ble_eq_true rfl) dX9_plan_70
          refine j_iload_n E 29 rfl dX9_plan_28 rfl (lv_at hl 3 rfl) ?_
          refine j_bipush E 31 rfl dX9_plan_29 (by decide) ?_
          refine j_icmp_lt E 34 52 rfl r_v_w (rr (by decide)) dX9_plan_31 (by decide) (fun cc83_ => ?_) (fun cc83_ => ?_)
          · refine j_iconst E 53 rfl dX9_plan_52 ?_
            exact L53_7 0  H locs ls (rr (by decide)) (trivial) hw (lv_sub hl [0, 1, 2, 3] rfl)
          · refine j_iload_n E 35 rfl dX9_plan_34 rfl (lv_at hl 3 rfl) ?_
            refine j_bipush E 37 rfl dX9_plan_35 (by decide) ?_
            refine j_isub E 38 rfl dX9_plan_37 ?_
            refine j_norm (fun zz84_ rr84_ ee84_ => ?_)
            refine j_aload_n E 39 rfl dX9_plan_38 rfl (lv_at hl 0 rfl) ?_
            refine g_180 E hK hw fl_X9_12 t_o 42 rfl dX9_plan_39 ?_
            refine kV_i E (c_Jx4a65c_size_8abf5 l D cy T (v_0) (T 180 o)  (wt_180 hT t_o)  ) mt_Jx4a65c_size_8abf5 ml_X9_80 hK hw (cw_rc10 hK hw.1 (wt_180 hT t_o)) hA ⟨Nat.le_of_ble_eq_true rfl, Nat.le_of_ble_eq_true rfl⟩ ⟨Nat.le_of_ble_eq_true rfl, Nat.le_of_ble_eq_true rfl⟩ (As := []) (rest := [.int (J zz84_)]) rfl rfl hl.1 (Nat.le_of_ble_eq_true rfl) 45 rfl dX9_plan_42 (fun zz85_ v_85 H locs rr85_ hq85_ hw => ?_)
            obtain ⟨ev85_, hh85_⟩ := hq85_
            rw [ev85_] at hw; clear ev85_
            have hh85_ : zz85_ = ((v_0 202) ((T 180 o))) ∧ 0 ≤ zz85_ := hh85_
            refine j_icmp_ge E 48 52 rfl rr84_ rr85_ dX9_plan_45 (by decide) (fun cc86_ => ?_) (fun cc86_ => ?_)
            · refine j_iconst E 53 rfl dX9_plan_52 ?_
              exact L53_7 0  H locs ls (rr (by decide)) (trivial) hw (lv_sub hl [0, 1, 2, 3] rfl)
            · refine j_iconst E 49 rfl dX9_plan_48 ?_
              refine j_goto E 53 dX9_plan_49 (by decide) ?_
              exact L53_7 1  H locs ls (rr (by decide)) (trivial) hw (lv_sub hl [0, 1, 2, 3] rfl)
        · refine j_iconst E 27 rfl dX9_plan_26 ?_
          exact hret 27 ((-1)) T (upV (upV (upV v_0 64 (v_0 64)) 65 (v_0 65)) 66 (v_0 66)) _ _ ls _ _ (cw_eq hw (by first | rfl | (funext j_; simp only [upV, reduceIte]; (repeat' split) <;> first | rfl | omega | (subst_vars; rfl)))) hoT_ (rr (by decide)) ⟨(v_0 64), (v_0 65), (v_0 66), rfl, ⟨t_o, rfl, rfl, rfl, rfl⟩⟩ (Nat.le_of_ble_eq_true rfl) (Nat.le_of_ble_eq_true rfl) dX9_plan_27
set_option maxHeartbeats 4000000 in
set_option maxRecDepth 100000 in
theorem n_X9_init_n2 (l : Launch) (D : va_G) (cy : Nat → ClassId) (κ T : Nat → Nat → Nat) (v_0 : Nat → Nat → Int) (o : Nat) (sz : Nat) (hO : ∀ x, ow T x → κ 2 2 ≤ x) (t_o : T 0 o = 109) (hp0 : T 0 (κ 2 0) = 26) : KA l D cy κ T yX9_init cX9_init 1 none 4 30 4000 [.ref o] v_0 sz (AV (fun (T_2 : Nat → Nat → Nat) (v_2 : Nat → Nat → Int) => (∀ b, b < sz → b ≠ o → ∀ k, T_2 k b = T k b) ∧ T_2 0 o = 9 ∧ v_2 186 o = 0 ∧ v_2 187 o = 0 ∧ v_2 202 (T_2 180 o) = 0 ∧ v_2 202 (T_2 181 o) = 0 ∧ v_2 202 (T_2 182 o) = 0 ∧ v_2 202 (T_2 183 o) = 0)) := by
  refine KA.ofv (by decide) (Nat.le_of_ble_eq_true rfl) hO ?_
  intro p e s m below meth c ls ar QW A0 H locs E hK hZ hA hAc hsz hnm hw hlo_ hl hret
  have hl : lv_has ls 1 [(0, .ref o)] := hl
  have hT : WT T := hw.1.2.1
  have hoT_ : OW T T s.heap.size := OW.rf T _
  have hR_ : ∀ b, b < sz → b ≠ o → ∀ k, T k b = T k b := fun b _ _ k => rfl
  refine j_aload_n E 1 rfl dX9_init_0 rfl (lv_at hl 0 rfl) ?_
  refine W.objInit E.1 E.2.1 E.2.2.2.1 (E.2.2.2.2.1 _ mo_X9_3) (E.2.2.2.2.1 _ im_ob) (E.2.2.2.2.1 _ cd_ob) rfl (by rw [E.2.2.1]; exact hl.1) rfl dX9_init_1 (Nat.le_of_ble_eq_true rfl) (Nat.le_of_ble_eq_true rfl) ?_
  show W p l e (rmd 4 30 4000) s m ar below meth c H locs _ _ QW (F0 m 4 ls [])
  refine j_aload_n E 5 rfl dX9_init_4 rfl (lv_at hl 0 rfl) ?_
  have hw0_ := hw
  refine n_obj10 E hK hw hA cl_X9_9 (Nat.le_of_ble_eq_true rfl) (Nat.le_of_ble_eq_true rfl) 8 rfl dX9_init_5 (fun q1_ T1_ H hge1_ hx1_ ho1_ tq1_ hw => ?_)
  have fq1_ : s.heap.size ≤ q1_ := Nat.le_trans hw0_.2.2.1 hge1_
  have hw : WK D cy T1_ (upV (upV v_0 200 (upB (v_0 200) q1_ 0)) 202 (upB (v_0 202) q1_ 0)) A0 s.heap H locs := hw
  have hT1_ : WT T1_ := hw.1.2.1
  have hO1_ : ∀ x, ow T1_ x → κ 2 2 ≤ x := fun x h => hAc x (hw.2.1 x h)
  have hoT_ : OW T T1_ s.heap.size := OW.tr hw0_.2.2.1 hoT_ ho1_
  have hR_ : ∀ b, b < sz → b ≠ o → ∀ k, T1_ k b = T k b := fun b_ h1_ h2_ k_ => (hx1_ b_ (by have := hw0_.2.2.1; have := hge1_; omega) k_).trans (hR_ b_ h1_ h2_ k_)
  have u2_ : T1_ 0 o = 109 := (hx1_ o (Nat.ne_of_lt (Nat.lt_of_lt_of_le (cw_lt hw0_.1 t_o (fun _ _ _ => ⟨_, rfl⟩)) hge1_)) 0).trans t_o
  have u3_ : T1_ 0 (κ 2 0) = 26 := (hx1_ (κ 2 0) (Nat.ne_of_lt (Nat.lt_of_lt_of_le (cw_lt hw0_.1 hp0 (fun _ _ _ => ⟨_, rfl⟩)) hge1_)) 0).trans hp0
  refine j_dup E 9 rfl dX9_init_8 rfl ?_
  have hw0_ := hw
  refine aI_v E (n_Jx4a65c_init_da8c8 l D cy κ T1_ (upV (upV v_0 200 (upB (v_0 200) q1_ 0)) 202 (upB (v_0 202) q1_ 0)) q1_ H.size 2 hO1_ tq1_  (Or.inr (Or.inl rfl)) u3_ (by first | exact upB_same _ _ _ | simp [upV, upB])) mi_Jx4a65c_init_da8c8 ml_X9_11 hK hZ hAc hw hA ⟨(Nat.le_of_ble_eq_true rfl), (Nat.le_of_ble_eq_true rfl)⟩ ⟨(Nat.le_of_ble_eq_true rfl), (Nat.le_of_ble_eq_true rfl)⟩ (As := []) (rest := [.ref q1_, .ref o]) rfl rfl hl.1 (Nat.le_of_ble_eq_true rfl) 12 rfl dX9_init_9 (fun T4_ v_4 H locs hge4_ ho4_ hq4_ hw => ?_)
  obtain ⟨y200_4, ev4_, hh4_⟩ := hq4_
  rw [ev4_] at hw; clear ev4_
  obtain ⟨hx4_, tq4_, te4_⟩ := hh4_
  have hT4_ : WT T4_ := hw.1.2.1
  have hO4_ : ∀ x, ow T4_ x → κ 2 2 ≤ x := fun x h => hAc x (hw.2.1 x h)
  have hoT_ : OW T T4_ s.heap.size := OW.tr hw0_.2.2.1 hoT_ ho4_
  have hR_ : ∀ b, b < sz → b ≠ o → ∀ k, T4_ k b = T k b := fun b_ h1_ h2_ k_ => (hx4_ b_ (by have := hw0_.2.2.1; omega) (by have := fq1_; omega) k_).trans (hR_ b_ h1_ h2_ k_)
  have u5_ : T4_ 0 o = 109 := (hx4_ o (cw_lt hw0_.1 u2_ (fun _ _ _ => ⟨_, rfl⟩)) (ty_ne u2_ tq1_ (by decide)) 0).trans u2_
  have u6_ : T4_ 0 (κ 2 0) = 26 := (hx4_ (κ 2 0) (cw_lt hw0_.1 u3_ (fun _ _ _ => ⟨_, rfl⟩)) (ty_ne u3_ tq1_ (by decide)) 0).trans u3_
  have hw0_ := hw
  refine rr_180 E hK hw hnm fl_X9_12 u5_ 15 rfl dX9_init_12 (fun T7_ H locs hx7_ hj7_ hk7_ ho7_ hw => ?_)
  have hT7_ : WT T7_ := hw.1.2.1
  have hO7_ : ∀ x, ow T7_ x → κ 2 2 ≤ x := fun x h => hAc x (hw.2.1 x h)
  have hoT_ : OW T T7_ s.heap.size := OW.tr0 hoT_ ho7_
  have hR_ : ∀ b, b < sz → b ≠ o → ∀ k, T7_ k b = T k b := fun b_ h1_ h2_ k_ => (hx7_ b_ h2_ k_).trans (hR_ b_ h1_ h2_ k_)
  have u8_ : T7_ 0 o = 109 := (hj7_ 0 (by decide)).trans u5_
  have u9_ : T7_ 0 (κ 2 0) = 26 := (hx7_ (κ 2 0) (ty_ne u6_ u5_ (by decide)) 0).trans u6_
  have u10_ : T7_ 0 q1_ = 10 := (hx7_ q1_ (ty_ne tq4_ u5_ (by decide)) 0).trans tq4_
  have u11_ : T7_ 2 q1_ = 2 := (hx7_ q1_ (ty_ne tq4_ u5_ (by decide)) 2).trans te4_
  refine j_aload_n E 16 rfl dX9_init_15 rfl (lv_at hl 0 rfl) ?_
  have hw0_ := hw
  refine n_obj10 E hK hw hA cl_X9_9 (Nat.le_of_ble_eq_true rfl) (Nat.le_of_ble_eq_true rfl) 19 rfl dX9_init_16 (fun q12_ T12_ H hge12_ hx12_ ho12_ tq12_ hw => ?_)
  have fq12_ : s.heap.size ≤ q12_ := Nat.le_trans hw0_.2.2.1 hge12_
  have hw : WK D cy T12_ (upV (upV (upV (upV (upV v_0 200 (upB (v_0 200) q1_ 0)) 202 (upB (v_0 202) q1_ 0)) 200 y200_4) 200 (upB y200_4 q12_ 0)) 202 (upB (upB (v_0 202) q1_ 0) q12_ 0)) A0 s.heap H locs := hw
  have hT12_ : WT T12_ := hw.1.2.1
  have hO12_ : ∀ x, ow T12_ x → κ 2 2 ≤ x := fun x h => hAc x (hw.2.1 x h)
  have hoT_ : OW T T12_ s.heap.size := OW.tr hw0_.2.2.1 hoT_ ho12_
  have hR_ : ∀ b, b < sz → b ≠ o → ∀ k, T12_ k b = T k b := fun b_ h1_ h2_ k_ => (hx12_ b_ (by have := hw0_.2.2.1; have := hge12_; omega) k_).trans (hR_ b_ h1_ h2_ k_)
  have u13_ : T12_ 0 o = 109 := (hx12_ o (Nat.ne_of_lt (Nat.lt_of_lt_of_le (cw_lt hw0_.1 u8_ (fun _ _ _ => ⟨_, rfl⟩)) hge12_)) 0).trans u8_
  have u14_ : T12_ 0 (κ 2 0) = 26 := (hx12_ (κ 2 0) (Nat.ne_of_lt (Nat.lt_of_lt_of_le (cw_lt hw0_.1 u9_ (fun _ _ _ => ⟨_, rfl⟩)) hge12_)) 0).trans u9_
  have u15_ : T12_ 0 q1_ = 10 := (hx12_ q1_ (Nat.ne_of_lt (Nat.lt_of_lt_of_le (cw_lt hw0_.1 u10_ (fun _ _ _ => ⟨_, rfl⟩)) hge12_)) 0).trans u10_
  have u16_ : T12_ 2 q1_ = 2 := (hx12_ q1_ (Nat.ne_of_lt (Nat.lt_of_lt_of_le (cw_lt hw0_.1 u10_ (fun _ _ _ => ⟨_, rfl⟩)) hge12_)) 2).trans u11_
  have u17_ : T12_ 180 o = q1_ + 1 := (hx12_ o (Nat.ne_of_lt (Nat.lt_of_lt_of_le (cw_lt hw0_.1 u8_ (fun _ _ _ => ⟨_, rfl⟩)) hge12_)) 180).trans hk7_
  refine j_dup E 20 rfl dX9_init_19 rfl ?_
  have hw0_ := hw
  refine aI_v E (n_Jx4a65c_init_da8c8 l D cy κ T12_ (upV (upV (upV (upV (upV v_0 200 (upB (v_0 200) q1_ 0)) 202 (upB (v_0 202) q1_ 0)) 200 y200_4) 200 (upB y200_4 q12_ 0)) 202 (upB (upB (v_0 202) q1_ 0) q12_ 0)) q12_ H.size 1 hO12_ tq12_  (Or.inl rfl) u14_ (by first | exact upB_same _ _ _ | simp [upV, upB])) mi_Jx4a65c_init_da8c8 ml_X9_11 hK hZ hAc hw hA ⟨(Nat.le_of_ble_eq_true rfl), (Nat.le_of_ble_eq_true rfl)⟩ ⟨(Nat.le_of_ble_eq_true rfl), (Nat.le_of_ble_eq_true rfl)⟩ (As := []) (rest := [.ref q12_, .ref o]) rfl rfl hl.1 (Nat.le_of_ble_eq_true rfl) 23 rfl dX9_init_20 (fun T18_ v_18 H locs hge18_ ho18_ hq18_ hw => ?_)
  obtain ⟨y200_18, ev18_, hh18_⟩ := hq18_
  rw [ev18_] at hw; clear ev18_
  obtain ⟨hx18_, tq18_, te18_⟩ := hh18_
  have hT18_ : WT T18_ := hw.1.2.1
  have hO18_ : ∀ x, ow T18_ x → κ 2 2 ≤ x := fun x h => hAc x (hw.2.1 x h)
  have hoT_ : OW T T18_ s.heap.size := OW.tr hw0_.2.2.1 hoT_ ho18_
  have hR_ : ∀ b, b < sz → b ≠ o → ∀ k, T18_ k b = T k b := fun b_ h1_ h2_ k_ => (hx18_ b_ (by have := hw0_.2.2.1; omega) (by have := fq12_; omega) k_).trans (hR_ b_ h1_ h2_ k_)
  have u19_ : T18_ 0 o = 109 := (hx18_ o (cw_lt hw0_.1 u13_ (fun _ _ _ => ⟨_, rfl⟩)) (ty_ne u13_ tq12_ (by decide)) 0).trans u13_
  have u20_ : T18_ 0 (κ 2 0) = 26 := (hx18_ (κ 2 0) (cw_lt hw0_.1 u14_ (fun _ _ _ => ⟨_, rfl⟩)) (ty_ne u14_ tq12_ (by decide)) 0).trans u14_
  have u21_ : T18_ 0 q1_ = 10 := (hx18_ q1_ (cw_lt hw0_.1 u15_ (fun _ _ _ => ⟨_, rfl⟩)) (ty_ne u15_ tq12_ (by decide)) 0).trans u15_
  have u22_ : T18_ 2 q1_ = 2 := (hx18_ q1_ (cw_lt hw0_.1 u15_ (fun _ _ _ => ⟨_, rfl⟩)) (ty_ne u15_ tq12_ (by decide)) 2).trans u16_
  have u23_ : T18_ 180 o = q1_ + 1 := (hx18_ o (cw_lt hw0_.1 u13_ (fun _ _ _ => ⟨_, rfl⟩)) (ty_ne u13_ tq12_ (by decide)) 180).trans u17_
  have hw0_ := hw
  refine rr_181 E hK hw hnm fl_X9_16 u19_ 26 rfl dX9_init_23 (fun T24_ H locs hx24_ hj24_ hk24_ ho24_ hw => ?_)
  have hT24_ : WT T24_ := hw.1.2.1
  have hO24_ : ∀ x, ow T24_ x → κ 2 2 ≤ x := fun x h => hAc x (hw.2.1 x h)
  have hoT_ : OW T T24_ s.heap.size := OW.tr0 hoT_ ho24_
  have hR_ : ∀ b, b < sz → b ≠ o → ∀ k, T24_ k b = T k b := fun b_ h1_ h2_ k_ => (hx24_ b_ h2_ k_).trans (hR_ b_ h1_ h2_ k_)
  have u25_ : T24_ 0 o = 109 := (hj24_ 0 (by decide)).trans u19_
  have u26_ : T24_ 0 (κ 2 0) = 26 := (hx24_ (κ 2 0) (ty_ne u20_ u19_ (by decide)) 0).trans u20_
  have u27_ : T24_ 0 q1_ = 10 := (hx24_ q1_ (ty_ne u21_ u19_ (by decide)) 0).trans u21_
  have u28_ : T24_ 0 q12_ = 10 := (hx24_ q12_ (ty_ne tq18_ u19_ (by decide)) 0).trans tq18_
  have u29_ : T24_ 2 q1_ = 2 := (hx24_ q1_ (ty_ne u21_ u19_ (by decide)) 2).trans u22_
  have u30_ : T24_ 2 q12_ = 1 := (hx24_ q12_ (ty_ne tq18_ u19_ (by decide)) 2).trans te18_
  have u31_ : T24_ 180 o = q1_ + 1 := (hj24_ 180 (by decide)).trans u23_
  refine j_aload_n E 27 rfl dX9_init_26 rfl (lv_at hl 0 rfl) ?_
  have hw0_ := hw
  refine n_obj10 E hK hw hA cl_X9_9 (Nat.le_of_ble_eq_true rfl) (Nat.le_of_ble_eq_true rfl) 30 rfl dX9_init_27 (fun q32_ T32_ H hge32_ hx32_ ho32_ tq32_ hw => ?_)
  have fq32_ : s.heap.size ≤ q32_ := Nat.le_trans hw0_.2.2.1 hge32_
  have hw : WK D cy T32_ (upV (upV (upV (upV (upV (upV (upV (upV v_0 200 (upB (v_0 200) q1_ 0)) 202 (upB (v_0 202) q1_ 0)) 200 y200_4) 200 (upB y200_4 q12_ 0)) 202 (upB (upB (v_0 202) q1_ 0) q12_ 0)) 200 y200_18) 200 (upB y200_18 q32_ 0)) 202 (upB (upB (upB (v_0 202) q1_ 0) q12_ 0) q32_ 0)) A0 s.heap H locs := hw
  have hT32_ : WT T32_ := hw.1.2.1
  have hO32_ : ∀ x, ow T32_ x → κ 2 2 ≤ x := fun x h => hAc x (hw.2.1 x h)
  have hoT_ : OW T T32_ s.heap.size := OW.tr hw0_.2.2.1 hoT_ ho32_
  have hR_ : ∀ b, b < sz → b ≠ o → ∀ k, T32_ k b = T k b := fun b_ h1_ h2_ k_ => (hx32_ b_ (by have := hw0_.2.2.1; have := hge32_; omega) k_).trans (hR_ b_ h1_ h2_ k_)
  have u33_ : T32_ 0 o = 109 := (hx32_ o (Nat.ne_of_lt (Nat.lt_of_lt_of_le (cw_lt hw0_.1 u25_ (fun _ _ _ => ⟨_, rfl⟩)) hge32_)) 0).trans u25_
  have u34_ : T32_ 0 (κ 2 0) = 26 := (hx32_ (κ 2 0) (Nat.ne_of_lt (Nat.lt_of_lt_of_le (cw_lt hw0_.1 u26_ (fun _ _ _ => ⟨_, rfl⟩)) hge32_)) 0).trans u26_
  have u35_ : T32_ 0 q1_ = 10 := (hx32_ q1_ (Nat.ne_of_lt (Nat.lt_of_lt_of_le (cw_lt hw0_.1 u27_ (fun _ _ _ => ⟨_, rfl⟩)) hge32_)) 0).trans u27_
  have u36_ : T32_ 0 q12_ = 10 := (hx32_ q12_ (Nat.ne_of_lt (Nat.lt_of_lt_of_le (cw_lt hw0_.1 u28_ (fun _ _ _ => ⟨_, rfl⟩)) hge32_)) 0).trans u28_
  have u37_ : T32_ 2 q1_ = 2 := (hx32_ q1_ (Nat.ne_of_lt (Nat.lt_of_lt_of_le (cw_lt hw0_.1 u27_ (fun _ _ _ => ⟨_, rfl⟩)) hge32_)) 2).trans u29_
  have u38_ : T32_ 2 q12_ = 1 := (hx32_ q12_ (Nat.ne_of_lt (Nat.lt_of_lt_of_le (cw_lt hw0_.1 u28_ (fun _ _ _ => ⟨_, rfl⟩)) hge32_)) 2).trans u30_
  have u39_ : T32_ 180 o = q1_ + 1 := (hx32_ o (Nat.ne_of_lt (Nat.lt_of_lt_of_le (cw_lt hw0_.1 u25_ (fun _ _ _ => ⟨_, rfl⟩)) hge32_)) 180).trans u31_
  have u40_ : T32_ 181 o = q12_ + 1 := (hx32_ o (Nat.ne_of_lt (Nat.lt_of_lt_of_le (cw_lt hw0_.1 u25_ (fun _ _ _ => ⟨_, rfl⟩)) hge32_)) 181).trans hk24_
  refine j_dup E 31 rfl dX9_init_30 rfl ?_
  have hw0_ := hw
  refine aI_v E (n_Jx4a65c_init_da8c8 l D cy κ T32_ (upV (upV (upV (upV (upV (upV (upV (upV v_0 200 (upB (v_0 200) q1_ 0)) 202 (upB (v_0 202) q1_ 0)) 200 y200_4) 200 (upB y200_4 q12_ 0)) 202 (upB (upB (v_0 202) q1_ 0) q12_ 0)) 200 y200_18) 200 (upB y200_18 q32_ 0)) 202 (upB (upB (upB (v_0 202) q1_ 0) q12_ 0) q32_ 0)) q32_ H.size 8 hO32_ tq32_  (Or.inr (Or.inr (Or.inr rfl))) u34_ (by first | exact upB_same _ _ _ | simp [upV, upB])) mi_Jx4a65c_init_da8c8 ml_X9_11 hK hZ hAc hw hA ⟨(Nat.le_of_ble_eq_true rfl), (Nat.le_of_ble_eq_true rfl)⟩ ⟨(Nat.le_of_ble_eq_true rfl), (Nat.le_of_ble_eq_true rfl)⟩ (As := []) (rest := [.ref q32_, .ref o]) rfl rfl hl.1 (Nat.le_of_ble_eq_true rfl) 34 rfl dX9_init_31 (fun T41_ v_41 H locs hge41_ ho41_ hq41_ hw => ?_)
  obtain ⟨y200_41, ev41_, hh41_⟩ := hq41_
  rw [ev41_] at hw; clear ev41_
  obtain ⟨hx41_, tq41_, te41_⟩ := hh41_
  have hT41_ : WT T41_ := hw.1.2.1
  have hO41_ : ∀ x, ow T41_ x → κ 2 2 ≤ x := fun x h => hAc x (hw.2.1 x h)
  have hoT_ : OW T T41_ s.heap.size := OW.tr hw0_.2.2.1 hoT_ ho41_
  have hR_ : ∀ b, b < sz → b ≠ o → ∀ k, T41_ k b = T k b := fun b_ h1_ h2_ k_ => (hx41_ b_ (by have := hw0_.2.2.1; omega) (by have := fq32_; omega) k_).trans (hR_ b_ h1_ h2_ k_)
  have u42_ : T41_ 0 o = 109 := (hx41_ o (cw_lt hw0_.1 u33_ (fun _ _ _ => ⟨_, rfl⟩)) (ty_ne u33_ tq32_ (by decide)) 0).trans u33_
  have u43_ : T41_ 0 (κ 2 0) = 26 := (hx41_ (κ 2 0) (cw_lt hw0_.1 u34_ (fun _ _ _ => ⟨_, rfl⟩)) (ty_ne u34_ tq32_ (by decide)) 0).trans u34_
  have u44_ : T41_ 0 q1_ = 10 := (hx41_ q1_ (cw_lt hw0_.1 u35_ (fun _ _ _ => ⟨_, rfl⟩)) (ty_ne u35_ tq32_ (by decide)) 0).trans u35_
  have u45_ : T41_ 0 q12_ = 10 := (hx41_ q12_ (cw_lt hw0_.1 u36_ (fun _ _ _ => ⟨_, rfl⟩)) (ty_ne u36_ tq32_ (by decide)) 0).trans u36_
  have u46_ : T41_ 2 q1_ = 2 := (hx41_ q1_ (cw_lt hw0_.1 u35_ (fun _ _ _ => ⟨_, rfl⟩)) (ty_ne u35_ tq32_ (by decide)) 2).trans u37_
  have u47_ : T41_ 2 q12_ = 1 := (hx41_ q12_ (cw_lt hw0_.1 u36_ (fun _ _ _ => ⟨_, rfl⟩)) (ty_ne u36_ tq32_ (by decide)) 2).trans u38_
  have u48_ : T41_ 180 o = q1_ + 1 := (hx41_ o (cw_lt hw0_.1 u33_ (fun _ _ _ => ⟨_, rfl⟩)) (ty_ne u33_ tq32_ (by decide)) 180).trans u39_
  have u49_ : T41_ 181 o = q12_ + 1 := (hx41_ o (cw_lt hw0_.1 u33_ (fun _ _ _ => ⟨_, rfl⟩)) (ty_ne u33_ tq32_ (by decide)) 181).trans u40_
  have hw0_ := hw
  refine rr_182 E hK hw hnm fl_X9_19 u42_ 37 rfl dX9_init_34 (fun T50_ H locs hx50_ hj50_ hk50_ ho50_ hw => ?_)
  have hT50_ : WT T50_ := hw.1.2.1
  have hO50_ : ∀ x, ow T50_ x → κ 2 2 ≤ x := fun x h => hAc x (hw.2.1 x h)
  have hoT_ : OW T T50_ s.heap.size := OW.tr0 hoT_ ho50_
  have hR_ : ∀ b, b < sz → b ≠ o → ∀ k, T50_ k b = T k b := fun b_ h1_ h2_ k_ => (hx50_ b_ h2_ k_).trans (hR_ b_ h1_ h2_ k_)
  have u51_ : T50_ 0 o = 109 := (hj50_ 0 (by decide)).trans u42_
  have u52_ : T50_ 0 (κ 2 0) = 26 := (hx50_ (κ 2 0) (ty_ne u43_ u42_ (by decide)) 0).trans u43_
  have u53_ : T50_ 0 q1_ = 10 := (hx50_ q1_ (ty_ne u44_ u42_ (by decide)) 0).trans u44_
  have u54_ : T50_ 0 q12_ = 10 := (hx50_ q12_ (ty_ne u45_ u42_ (by decide)) 0).trans u45_
  have u55_ : T50_ 0 q32_ = 10 := (hx50_ q32_ (ty_ne tq41_ u42_ (by decide)) 0).trans tq41_
  have u56_ : T50_ 2 q1_ = 2 := (hx50_ q1_ (ty_ne u44_ u42_ (by decide)) 2).trans u46_
  have u57_ : T50_ 2 q12_ = 1 := (hx50_ q12_ (ty_ne u45_ u42_ (by decide)) 2).trans u47_
  have u58_ : T50_ 2 q32_ = 8 := (hx50_ q32_ (ty_ne tq41_ u42_ (by decide)) 2).trans te41_
  have u59_ : T50_ 180 o = q1_ + 1 := (hj50_ 180 (by decide)).trans u48_
  have u60_ : T50_ 181 o = q12_ + 1 := (hj50_ 181 (by decide)).trans u49_
  refine j_aload_n E 38 rfl dX9_init_37 rfl (lv_at hl 0 rfl) ?_
  have hw0_ := hw
  refine n_obj10 E hK hw hA cl_X9_9 (Nat.le_of_ble_eq_true rfl) (Nat.le_of_ble_eq_true rfl) 41 rfl dX9_init_38 (fun q61_ T61_ H hge61_ hx61_ ho61_ tq61_ hw => ?_)
  have fq61_ : s.heap.size ≤ q61_ := Nat.le_trans hw0_.2.2.1 hge61_
  have hw : WK D cy T61_ (upV (upV (upV (upV (upV (upV (upV (upV (upV (upV (upV v_0 200 (upB (v_0 200) q1_ 0)) 202 (upB (v_0 202) q1_ 0)) 200 y200_4) 200 (upB y200_4 q12_ 0)) 202 (upB (upB (v_0 202) q1_ 0) q12_ 0)) 200 y200_18) 200 (upB y200_18 q32_ 0)) 202 (upB (upB (upB (v_0 202) q1_ 0) q12_ 0) q32_ 0)) 200 y200_41) 200 (upB y200_41 q61_ 0)) 202 (upB (upB (upB (upB (v_0 202) q1_ 0) q12_ 0) q32_ 0) q61_ 0)) A0 s.heap H locs := hw
  have hT61_ : WT T61_ := hw.1.2.1
  have hO61_ : ∀ x, ow T61_ x → κ 2 2 ≤ x := fun x h => hAc x (hw.2.1 x h)
  have hoT_ : OW T T61_ s.heap.size := OW.tr hw0_.2.2.1 hoT_ ho61_
  have hR_ : ∀ b, b < sz → b ≠ o → ∀ k, T61_ k b = T k b := fun b_ h1_ h2_ k_ => (hx61_ b_ (by have := hw0_.2.2.1; have := hge61_; omega) k_).trans (hR_ b_ h1_ h2_ k_)
  have u62_ : T61_ 0 o = 109 := (hx61_ o (Nat.ne_of_lt (Nat.lt_of_lt_of_le (cw_lt hw0_.1 u51_ (fun _ _ _ => ⟨_, rfl⟩)) hge61_)) 0).trans u51_
  have u63_ : T61_ 0 (κ 2 0) = 26 := (hx61_ (κ 2 0) (Nat.ne_of_lt (Nat.lt_of_lt_of_le (cw_lt hw0_.1 u52_ (fun _ _ _ => ⟨_, rfl⟩)) hge61_)) 0).trans u52_
  have u64_ : T61_ 0 q1_ = 10 := (hx61_ q1_ (Nat.ne_of_lt (Nat.lt_of_lt_of_le (cw_lt hw0_.1 u53_ (fun _ _ _ => ⟨_, rfl⟩)) hge61_)) 0).trans u53_
  have u65_ : T61_ 0 q12_ = 10 := (hx61_ q12_ (Nat.ne_of_lt (Nat.lt_of_lt_of_le (cw_lt hw0_.1 u54_ (fun _ _ _ => ⟨_, rfl⟩)) hge61_)) 0).trans u54_
  have u66_ : T61_ 0 q32_ = 10 := (hx61_ q32_ (Nat.ne_of_lt (Nat.lt_of_lt_of_le (cw_lt hw0_.1 u55_ (fun _ _ _ => ⟨_, rfl⟩)) hge61_)) 0).trans u55_
  have u67_ : T61_ 2 q1_ = 2 := (hx61_ q1_ (Nat.ne_of_lt (Nat.lt_of_lt_of_le (cw_lt hw0_.1 u53_ (fun _ _ _ => ⟨_, rfl⟩)) hge61_)) 2).trans u56_
  have u68_ : T61_ 2 q12_ = 1 := (hx61_ q12_ (Nat.ne_of_lt (Nat.lt_of_lt_of_le (cw_lt hw0_.1 u54_ (fun _ _ _ => ⟨_, rfl⟩)) hge61_)) 2).trans u57_
  have u69_ : T61_ 2 q32_ = 8 := (hx61_ q32_ (Nat.ne_of_lt (Nat.lt_of_lt_of_le (cw_lt hw0_.1 u55_ (fun _ _ _ => ⟨_, rfl⟩)) hge61_)) 2).trans u58_
  have u70_ : T61_ 180 o = q1_ + 1 := (hx61_ o (Nat.ne_of_lt (Nat.lt_of_lt_of_le (cw_lt hw0_.1 u51_ (fun _ _ _ => ⟨_, rfl⟩)) hge61_)) 180).trans u59_
  have u71_ : T61_ 181 o = q12_ + 1 := (hx61_ o (Nat.ne_of_lt (Nat.lt_of_lt_of_le (cw_lt hw0_.1 u51_ (fun _ _ _ => ⟨_, rfl⟩)) hge61_)) 181).trans u60_
  have u72_ : T61_ 182 o = q32_ + 1 := (hx61_ o (Nat.ne_of_lt (Nat.lt_of_lt_of_le (cw_lt hw0_.1 u51_ (fun _ _ _ => ⟨_, rfl⟩)) hge61_)) 182).trans hk50_
  refine j_dup E 42 rfl dX9_init_41 rfl ?_
  have hw0_ := hw
  refine aI_v E (n_Jx4a65c_init_da8c8 l D cy κ T61_ (upV (upV (upV (upV (upV (upV (upV (upV (upV (upV (upV v_0 200 (upB (v_0 200) q1_ 0)) 202 (upB (v_0 202) q1_ 0)) 200 y200_4) 200 (upB y200_4 q12_ 0)) 202 (upB (upB (v_0 202) q1_ 0) q12_ 0)) 200 y200_18) 200 (upB y200_18 q32_ 0)) 202 (upB (upB (upB (v_0 202) q1_ 0) q12_ 0) q32_ 0)) 200 y200_41) 200 (upB y200_41 q61_ 0)) 202 (upB (upB (upB (upB (v_0 202) q1_ 0) q12_ 0) q32_ 0) q61_ 0)) q61_ H.size 7 hO61_ tq61_  (Or.inr (Or.inr (Or.inl rfl))) u63_ (by first | exact upB_same _ _ _ | simp [upV, upB])) mi_Jx4a65c_init_da8c8 ml_X9_11 hK hZ hAc hw hA ⟨(Nat.le_of_ble_eq_true rfl), (Nat.le_of_ble_eq_true rfl)⟩ ⟨(Nat.le_of_ble_eq_true rfl), (Nat.le_of_ble_eq_true rfl)⟩ (As := []) (rest := [.ref q61_, .ref o]) rfl rfl hl.1 (Nat.le_of_ble_eq_true rfl) 45 rfl dX9_init_42 (fun T73_ v_73 H locs hge73_ ho73_ hq73_ hw => ?_)
  obtain ⟨y200_73, ev73_, hh73_⟩ := hq73_
  rw [ev73_] at hw; clear ev73_
  obtain ⟨hx73_, tq73_, te73_⟩ := hh73_
  have hT73_ : WT T73_ := hw.1.2.1
  have hO73_ : ∀ x, ow T73_ x → κ 2 2 ≤ x := fun x h => hAc x (hw.2.1 x h)
  have hoT_ : OW T T73_ s.heap.size := OW.tr hw0_.2.2.1 hoT_ ho73_
  have hR_ : ∀ b, b < sz → b ≠ o → ∀ k, T73_ k b = T k b := fun b_ h1_ h2_ k_ => (hx73_ b_ (by have := hw0_.2.2.1; omega) (by have := fq61_; omega) k_).trans (hR_ b_ h1_ h2_ k_)
  have u74_ : T73_ 0 o = 109 := (hx73_ o (cw_lt hw0_.1 u62_ (fun _ _ _ => ⟨_, rfl⟩)) (ty_ne u62_ tq61_ (by decide)) 0).trans u62_
  have u75_ : T73_ 0 (κ 2 0) = 26 := (hx73_ (κ 2 0) (cw_lt hw0_.1 u63_ (fun _ _ _ => ⟨_, rfl⟩)) (ty_ne u63_ tq61_ (by decide)) 0).trans u63_
  have u76_ : T73_ 0 q1_ = 10 := (hx73_ q1_ (cw_lt hw0_.1 u64_ (fun _ _ _ => ⟨_, rfl⟩)) (ty_ne u64_ tq61_ (by decide)) 0).trans u64_
  have u77_ : T73_ 0 q12_ = 10 := (hx73_ q12_ (cw_lt hw0_.1 u65_ (fun _ _ _ => ⟨_, rfl⟩)) (ty_ne u65_ tq61_ (by decide)) 0).trans u65_
  have u78_ : T73_ 0 q32_ = 10 := (hx73_ q32_ (cw_lt hw0_.1 u66_ (fun _ _ _ => ⟨_, rfl⟩)) (ty_ne u66_ tq61_ (by decide)) 0).trans u66_
  have u79_ : T73_ 2 q1_ = 2 := (hx73_ q1_ (cw_lt hw0_.1 u64_ (fun _ _ _ => ⟨_, rfl⟩)) (ty_ne u64_ tq61_ (by decide)) 2).trans u67_
  have u80_ : T73_ 2 q12_ = 1 := (hx73_ q12_ (cw_lt hw0_.1 u65_ (fun _ _ _ => ⟨_, rfl⟩)) (ty_ne u65_ tq61_ (by decide)) 2).trans u68_
  have u81_ : T73_ 2 q32_ = 8 := (hx73_ q32_ (cw_lt hw0_.1 u66_ (fun _ _ _ => ⟨_, rfl⟩)) (ty_ne u66_ tq61_ (by decide)) 2).trans u69_
  have u82_ : T73_ 180 o = q1_ + 1 := (hx73_ o (cw_lt hw0_.1 u62_ (fun _ _ _ => ⟨_, rfl⟩)) (ty_ne u62_ tq61_ (by decide)) 180).trans u70_
  have u83_ : T73_ 181 o = q12_ + 1 := (hx73_ o (cw_lt hw0_.1 u62_ (fun _ _ _ => ⟨_, rfl⟩)) (ty_ne u62_ tq61_ (by decide)) 181).trans u71_
  have u84_ : T73_ 182 o = q32_ + 1 := (hx73_ o (cw_lt hw0_.1 u62_ (fun _ _ _ => ⟨_, rfl⟩)) (ty_ne u62_ tq61_ (by decide)) 182).trans u72_
  have hw0_ := hw
  refine rr_183 E hK hw hnm fl_X9_22 u74_ 48 rfl dX9_init_45 (fun T85_ H locs hx85_ hj85_ hk85_ ho85_ hw => ?_)
  have hT85_ : WT T85_ := hw.1.2.1
  have hO85_ : ∀ x, ow T85_ x → κ 2 2 ≤ x := fun x h => hAc x (hw.2.1 x h)
  have hoT_ : OW T T85_ s.heap.size := OW.tr0 hoT_ ho85_
  have hR_ : ∀ b, b < sz → b ≠ o → ∀ k, T85_ k b = T k b := fun b_ h1_ h2_ k_ => (hx85_ b_ h2_ k_).trans (hR_ b_ h1_ h2_ k_)
  have u86_ : T85_ 0 o = 109 := (hj85_ 0 (by decide)).trans u74_
  have u87_ : T85_ 0 (κ 2 0) = 26 := (hx85_ (κ 2 0) (ty_ne u75_ u74_ (by decide)) 0).trans u75_
  have u88_ : T85_ 0 q1_ = 10 := (hx85_ q1_ (ty_ne u76_ u74_ (by decide)) 0).trans u76_
  have u89_ : T85_ 0 q12_ = 10 := (hx85_ q12_ (ty_ne u77_ u74_ (by decide)) 0).trans u77_
  have u90_ : T85_ 0 q32_ = 10 := (hx85_ q32_ (ty_ne u78_ u74_ (by decide)) 0).trans u78_
  have u91_ : T85_ 0 q61_ = 10 := (hx85_ q61_ (ty_ne tq73_ u74_ (by decide)) 0).trans tq73_
  have u92_ : T85_ 2 q1_ = 2 := (hx85_ q1_ (ty_ne u76_ u74_ (by decide)) 2).trans u79_
  have u93_ : T85_ 2 q12_ = 1 := (hx85_ q12_ (ty_ne u77_ u74_ (by decide)) 2).trans u80_
  have u94_ : T85_ 2 q32_ = 8 := (hx85_ q32_ (ty_ne u78_ u74_ (by decide)) 2).trans u81_
  have u95_ : T85_ 2 q61_ = 7 := (hx85_ q61_ (ty_ne tq73_ u74_ (by decide)) 2).trans te73_
  have u96_ : T85_ 180 o = q1_ + 1 := (hj85_ 180 (by decide)).trans u82_
  have u97_ : T85_ 181 o = q12_ + 1 := (hj85_ 181 (by decide)).trans u83_
  have u98_ : T85_ 182 o = q32_ + 1 := (hj85_ 182 (by decide)).trans u84_
  refine j_aload_n E 49 rfl dX9_init_48 rfl (lv_at hl 0 rfl) ?_
  refine j_bipush E 51 rfl dX9_init_49 (by decide) ?_
  have hw0_ := hw
  refine n_arr21 E hK hw hA 8 (by decide) (by decide) (Nat.le_of_ble_eq_true rfl) (Nat.le_of_ble_eq_true rfl) 53 rfl dX9_init_51 (fun q99_ T99_ H hge99_ hx99_ ho99_ tq99_ tl99_ hw => ?_)
  have fq99_ : s.heap.size ≤ q99_ := Nat.le_trans hw0_.2.2.1 hge99_
  have hT99_ : WT T99_ := hw.1.2.1
  have hO99_ : ∀ x, ow T99_ x → κ 2 2 ≤ x := fun x h => hAc x (hw.2.1 x h)
  have hoT_ : OW T T99_ s.heap.size := OW.tr hw0_.2.2.1 hoT_ ho99_
  have hR_ : ∀ b, b < sz → b ≠ o → ∀ k, T99_ k b = T k b := fun b_ h1_ h2_ k_ => (hx99_ b_ (by have := hw0_.2.2.1; have := hge99_; omega) k_).trans (hR_ b_ h1_ h2_ k_)
  have u100_ : T99_ 0 o = 109 := (hx99_ o (Nat.ne_of_lt (Nat.lt_of_lt_of_le (cw_lt hw0_.1 u86_ (fun _ _ _ => ⟨_, rfl⟩)) hge99_)) 0).trans u86_
  have u101_ : T99_ 0 (κ 2 0) = 26 := (hx99_ (κ 2 0) (Nat.ne_of_lt (Nat.lt_of_lt_of_le (cw_lt hw0_.1 u87_ (fun _ _ _ => ⟨_, rfl⟩)) hge99_)) 0).trans u87_
  have u102_ : T99_ 0 q1_ = 10 := (hx99_ q1_ (Nat.ne_of_lt (Nat.lt_of_lt_of_le (cw_lt hw0_.1 u88_ (fun _ _ _ => ⟨_, rfl⟩)) hge99_)) 0).trans u88_
  have u103_ : T99_ 0 q12_ = 10 := (hx99_ q12_ (Nat.ne_of_lt (Nat.lt_of_lt_of_le (cw_lt hw0_.1 u89_ (fun _ _ _ => ⟨_, rfl⟩)) hge99_)) 0).trans u89_
  have u104_ : T99_ 0 q32_ = 10 := (hx99_ q32_ (Nat.ne_of_lt (Nat.lt_of_lt_of_le (cw_lt hw0_.1 u90_ (fun _ _ _ => ⟨_, rfl⟩)) hge99_)) 0).trans u90_
  have u105_ : T99_ 0 q61_ = 10 := (hx99_ q61_ (Nat.ne_of_lt (Nat.lt_of_lt_of_le (cw_lt hw0_.1 u91_ (fun _ _ _ => ⟨_, rfl⟩)) hge99_)) 0).trans u91_
  have u106_ : T99_ 2 q1_ = 2 := (hx99_ q1_ (Nat.ne_of_lt (Nat.lt_of_lt_of_le (cw_lt hw0_.1 u88_ (fun _ _ _ => ⟨_, rfl⟩)) hge99_)) 2).trans u92_
  have u107_ : T99_ 2 q12_ = 1 := (hx99_ q12_ (Nat.ne_of_lt (Nat.lt_of_lt_of_le (cw_lt hw0_.1 u89_ (fun _ _ _ => ⟨_, rfl⟩)) hge99_)) 2).trans u93_
  have u108_ : T99_ 2 q32_ = 8 := (hx99_ q32_ (Nat.ne_of_lt (Nat.lt_of_lt_of_le (cw_lt hw0_.1 u90_ (fun _ _ _ => ⟨_, rfl⟩)) hge99_)) 2).trans u94_
  have u109_ : T99_ 2 q61_ = 7 := (hx99_ q61_ (Nat.ne_of_lt (Nat.lt_of_lt_of_le (cw_lt hw0_.1 u91_ (fun _ _ _ => ⟨_, rfl⟩)) hge99_)) 2).trans u95_
  have u110_ : T99_ 180 o = q1_ + 1 := (hx99_ o (Nat.ne_of_lt (Nat.lt_of_lt_of_le (cw_lt hw0_.1 u86_ (fun _ _ _ => ⟨_, rfl⟩)) hge99_)) 180).trans u96_
  have u111_ : T99_ 181 o = q12_ + 1 := (hx99_ o (Nat.ne_of_lt (Nat.lt_of_lt_of_le (cw_lt hw0_.1 u86_ (fun _ _ _ => ⟨_, rfl⟩)) hge99_)) 181).trans u97_
  have u112_ : T99_ 182 o = q32_ + 1 := (hx99_ o (Nat.ne_of_lt (Nat.lt_of_lt_of_le (cw_lt hw0_.1 u86_ (fun _ _ _ => ⟨_, rfl⟩)) hge99_)) 182).trans u98_
  have u113_ : T99_ 183 o = q61_ + 1 := (hx99_ o (Nat.ne_of_lt (Nat.lt_of_lt_of_le (cw_lt hw0_.1 u86_ (fun _ _ _ => ⟨_, rfl⟩)) hge99_)) 183).trans hk85_
  have hw0_ := hw
  refine rr_184 E hK hw hnm fl_X9_25 u100_ 56 rfl dX9_init_53 (fun T114_ H locs hx114_ hj114_ hk114_ ho114_ hw => ?_)
  have hT114_ : WT T114_ := hw.1.2.1
  have hO114_ : ∀ x, ow T114_ x → κ 2 2 ≤ x := fun x h => hAc x (hw.2.1 x h)
  have hoT_ : OW T T114_ s.heap.size := OW.tr0 hoT_ ho114_
  have hR_ : ∀ b, b < sz → b ≠ o → ∀ k, T114_ k b = T k b := fun b_ h1_ h2_ k_ => (hx114_ b_ h2_ k_).trans (hR_ b_ h1_ h2_ k_)
  have u115_ : T114_ 0 o = 109 := (hj114_ 0 (by decide)).trans u100_
  have u116_ : T114_ 0 (κ 2 0) = 26 := (hx114_ (κ 2 0) (ty_ne u101_ u100_ (by decide)) 0).trans u101_
  have u117_ : T114_ 0 q1_ = 10 := (hx114_ q1_ (ty_ne u102_ u100_ (by decide)) 0).trans u102_
  have u118_ : T114_ 0 q12_ = 10 := (hx114_ q12_ (ty_ne u103_ u100_ (by decide)) 0).trans u103_
  have u119_ : T114_ 0 q32_ = 10 := (hx114_ q32_ (ty_ne u104_ u100_ (by decide)) 0).trans u104_
  have u120_ : T114_ 0 q61_ = 10 := (hx114_ q61_ (ty_ne u105_ u100_ (by decide)) 0).trans u105_
  have u121_ : T114_ 0 q99_ = 21 := (hx114_ q99_ (ty_ne tq99_ u100_ (by decide)) 0).trans tq99_
  have u122_ : T114_ 1 q99_ = 8 := (hx114_ q99_ (ty_ne tq99_ u100_ (by decide)) 1).trans tl99_
  have u123_ : T114_ 2 q1_ = 2 := (hx114_ q1_ (ty_ne u102_ u100_ (by decide)) 2).trans u106_
  have u124_ : T114_ 2 q12_ = 1 := (hx114_ q12_ (ty_ne u103_ u100_ (by decide)) 2).trans u107_
  have u125_ : T114_ 2 q32_ = 8 := (hx114_ q32_ (ty_ne u104_ u100_ (by decide)) 2).trans u108_
  have u126_ : T114_ 2 q61_ = 7 := (hx114_ q61_ (ty_ne u105_ u100_ (by decide)) 2).trans u109_
  have u127_ : T114_ 180 o = q1_ + 1 := (hj114_ 180 (by decide)).trans u110_
  have u128_ : T114_ 181 o = q12_ + 1 := (hj114_ 181 (by decide)).trans u111_
  have u129_ : T114_ 182 o = q32_ + 1 := (hj114_ 182 (by decide)).trans u112_
  have u130_ : T114_ 183 o = q61_ + 1 := (hj114_ 183 (by decide)).trans u113_
  refine j_aload_n E 57 rfl dX9_init_56 rfl (lv_at hl 0 rfl) ?_
  refine j_sipush E 60 rfl dX9_init_57 (by decide) ?_
  have hw0_ := hw
  refine n_arr23 E hK hw hA 400 (by decide) (by decide) (Nat.le_of_ble_eq_true rfl) (Nat.le_of_ble_eq_true rfl) 62 rfl dX9_init_60 (fun q131_ T131_ H hge131_ hx131_ ho131_ tq131_ tl131_ hw => ?_)
  have fq131_ : s.heap.size ≤ q131_ := Nat.le_trans hw0_.2.2.1 hge131_
  have hT131_ : WT T131_ := hw.1.2.1
  have hO131_ : ∀ x, ow T131_ x → κ 2 2 ≤ x := fun x h => hAc x (hw.2.1 x h)
  have hoT_ : OW T T131_ s.heap.size := OW.tr hw0_.2.2.1 hoT_ ho131_
  have hR_ : ∀ b, b < sz → b ≠ o → ∀ k, T131_ k b = T k b := fun b_ h1_ h2_ k_ => (hx131_ b_ (by have := hw0_.2.2.1; have := hge131_; omega) k_).trans (hR_ b_ h1_ h2_ k_)
  have u132_ : T131_ 0 o = 109 := (hx131_ o (Nat.ne_of_lt (Nat.lt_of_lt_of_le (cw_lt hw0_.1 u115_ (fun _ _ _ => ⟨_, rfl⟩)) hge131_)) 0).trans u115_
  have u133_ : T131_ 0 (κ 2 0) = 26 := (hx131_ (κ 2 0) (Nat.ne_of_lt (Nat.lt_of_lt_of_le (cw_lt hw0_.1 u116_ (fun _ _ _ => ⟨_, rfl⟩)) hge131_)) 0).trans u116_
  have u134_ : T131_ 0 q1_ = 10 := (hx131_ q1_ (Nat.ne_of_lt (Nat.lt_of_lt_of_le (cw_lt hw0_.1 u117_ (fun _ _ _ => ⟨_, rfl⟩)) hge131_)) 0).trans u117_
  have u135_ : T131_ 0 q12_ = 10 := (hx131_ q12_ (Nat.ne_of_lt (Nat.lt_of_lt_of_le (cw_lt hw0_.1 u118_ (fun _ _ _ => ⟨_, rfl⟩)) hge131_)) 0).trans u118_
  have u136_ : T131_ 0 q32_ = 10 := (hx131_ q32_ (Nat.ne_of_lt (Nat.lt_of_lt_of_le (cw_lt hw0_.1 u119_ (fun _ _ _ => ⟨_, rfl⟩)) hge131_)) 0).trans u119_
  have u137_ : T131_ 0 q61_ = 10 := (hx131_ q61_ (Nat.ne_of_lt (Nat.lt_of_lt_of_le (cw_lt hw0_.1 u120_ (fun _ _ _ => ⟨_, rfl⟩)) hge131_)) 0).trans u120_
  have u138_ : T131_ 0 q99_ = 21 := (hx131_ q99_ (Nat.ne_of_lt (Nat.lt_of_lt_of_le (cw_lt hw0_.1 u121_ (fun _ _ _ => ⟨_, rfl⟩)) hge131_)) 0).trans u121_
  have u139_ : T131_ 1 q99_ = 8 := (hx131_ q99_ (Nat.ne_of_lt (Nat.lt_of_lt_of_le (cw_lt hw0_.1 u121_ (fun _ _ _ => ⟨_, rfl⟩)) hge131_)) 1).trans u122_
  have u140_ : T131_ 2 q1_ = 2 := (hx131_ q1_ (Nat.ne_of_lt (Nat.lt_of_lt_of_le (cw_lt hw0_.1 u117_ (fun _ _ _ => ⟨_, rfl⟩)) hge131_)) 2).trans u123_
  have u141_ : T131_ 2 q12_ = 1 := (hx131_ q12_ (Nat.ne_of_lt (Nat.lt_of_lt_of_le (cw_lt hw0_.1 u118_ (fun _ _ _ => ⟨_, rfl⟩)) hge131_)) 2).trans u124_
  have u142_ : T131_ 2 q32_ = 8 := (hx131_ q32_ (Nat.ne_of_lt (Nat.lt_of_lt_of_le (cw_lt hw0_.1 u119_ (fun _ _ _ => ⟨_, rfl⟩)) hge131_)) 2).trans u125_
  have u143_ : T131_ 2 q61_ = 7 := (hx131_ q61_ (Nat.ne_of_lt (Nat.lt_of_lt_of_le (cw_lt hw0_.1 u120_ (fun _ _ _ => ⟨_, rfl⟩)) hge131_)) 2).trans u126_
  have u144_ : T131_ 180 o = q1_ + 1 := (hx131_ o (Nat.ne_of_lt (Nat.lt_of_lt_of_le (cw_lt hw0_.1 u115_ (fun _ _ _ => ⟨_, rfl⟩)) hge131_)) 180).trans u127_
  have u145_ : T131_ 181 o = q12_ + 1 := (hx131_ o (Nat.ne_of_lt (Nat.lt_of_lt_of_le (cw_lt hw0_.1 u115_ (fun _ _ _ => ⟨_, rfl⟩)) hge131_)) 181).trans u128_
  have u146_ : T131_ 182 o = q32_ + 1 := (hx131_ o (Nat.ne_of_lt (Nat.lt_of_lt_of_le (cw_lt hw0_.1 u115_ (fun _ _ _ => ⟨_, rfl⟩)) hge131_)) 182).trans u129_
  have u147_ : T131_ 183 o = q61_ + 1 := (hx131_ o (Nat.ne_of_lt (Nat.lt_of_lt_of_le (cw_lt hw0_.1 u115_ (fun _ _ _ => ⟨_, rfl⟩)) hge131_)) 183).trans u130_
  have u148_ : T131_ 184 o = q99_ + 1 := (hx131_ o (Nat.ne_of_lt (Nat.lt_of_lt_of_le (cw_lt hw0_.1 u115_ (fun _ _ _ => ⟨_, rfl⟩)) hge131_)) 184).trans hk114_
  have hw0_ := hw
  refine rr_185 E hK hw hnm fl_X9_29 u132_ 65 rfl dX9_init_62 (fun T149_ H locs hx149_ hj149_ hk149_ ho149_ hw => ?_)
  have hT149_ : WT T149_ := hw.1.2.1
  have hO149_ : ∀ x, ow T149_ x → κ 2 2 ≤ x := fun x h => hAc x (hw.2.1 x h)
  have hoT_ : OW T T149_ s.heap.size := OW.tr0 hoT_ ho149_
  have hR_ : ∀ b, b < sz → b ≠ o → ∀ k, T149_ k b = T k b := fun b_ h1_ h2_ k_ => (hx149_ b_ h2_ k_).trans (hR_ b_ h1_ h2_ k_)
  have u150_ : T149_ 0 o = 109 := (hj149_ 0 (by decide)).trans u132_
  have u151_ : T149_ 0 (κ 2 0) = 26 := (hx149_ (κ 2 0) (ty_ne u133_ u132_ (by decide)) 0).trans u133_
  have u152_ : T149_ 0 q1_ = 10 := (hx149_ q1_ (ty_ne u134_ u132_ (by decide)) 0).trans u134_
  have u153_ : T149_ 0 q12_ = 10 := (hx149_ q12_ (ty_ne u135_ u132_ (by decide)) 0).trans u135_
  have u154_ : T149_ 0 q32_ = 10 := (hx149_ q32_ (ty_ne u136_ u132_ (by decide)) 0).trans u136_
  have u155_ : T149_ 0 q61_ = 10 := (hx149_ q61_ (ty_ne u137_ u132_ (by decide)) 0).trans u137_
  have u156_ : T149_ 0 q99_ = 21 := (hx149_ q99_ (ty_ne u138_ u132_ (by decide)) 0).trans u138_
  have u157_ : T149_ 0 q131_ = 23 := (hx149_ q131_ (ty_ne tq131_ u132_ (by decide)) 0).trans tq131_
  have u158_ : T149_ 1 q99_ = 8 := (hx149_ q99_ (ty_ne u138_ u132_ (by decide)) 1).trans u139_
  have u159_ : T149_ 1 q131_ = 400 := (hx149_ q131_ (ty_ne tq131_ u132_ (by decide)) 1).trans tl131_
  have u160_ : T149_ 2 q1_ = 2 := (hx149_ q1_ (ty_ne u134_ u132_ (by decide)) 2).trans u140_
  have u161_ : T149_ 2 q12_ = 1 := (hx149_ q12_ (ty_ne u135_ u132_ (by decide)) 2).trans u141_
  have u162_ : T149_ 2 q32_ = 8 := (hx149_ q32_ (ty_ne u136_ u132_ (by decide)) 2).trans u142_
  have u163_ : T149_ 2 q61_ = 7 := (hx149_ q61_ (ty_ne u137_ u132_ (by decide)) 2).trans u143_
  have u164_ : T149_ 180 o = q1_ + 1 := (hj149_ 180 (by decide)).trans u144_
  have u165_ : T149_ 181 o = q12_ + 1 := (hj149_ 181 (by decide)).trans u145_
  have u166_ : T149_ 182 o = q32_ + 1 := (hj149_ 182 (by decide)).trans u146_
  have u167_ : T149_ 183 o = q61_ + 1 := (hj149_ 183 (by decide)).trans u147_
  have u168_ : T149_ 184 o = q99_ + 1 := (hj149_ 184 (by decide)).trans u148_
  refine j_aload_n E 66 rfl dX9_init_65 rfl (lv_at hl 0 rfl) ?_
  refine j_iconst E 67 rfl dX9_init_66 ?_
  refine rp_186 E hK hw fl_X9_33 u150_ (rr (by decide)) 70 rfl dX9_init_67 (fun H locs hw => ?_)
  have hw : WK D cy T149_ (upV (upV (upV (upV (upV (upV (upV (upV (upV (upV (upV (upV (upV v_0 200 (upB (v_0 200) q1_ 0)) 202 (upB (v_0 202) q1_ 0)) 200 y200_4) 200 (upB y200_4 q12_ 0)) 202 (upB (upB (v_0 202) q1_ 0) q12_ 0)) 200 y200_18) 200 (upB y200_18 q32_ 0)) 202 (upB (upB (upB (v_0 202) q1_ 0) q12_ 0) q32_ 0)) 200 y200_41) 200 (upB y200_41 q61_ 0)) 202 (upB (upB (upB (upB (v_0 202) q1_ 0) q12_ 0) q32_ 0) q61_ 0)) 200 y200_73) 186 (upB (v_0 186) o 0)) A0 s.heap H locs := hw
  refine j_aload_n E 71 rfl dX9_init_70 rfl (lv_at hl 0 rfl) ?_
  refine j_iconst E 72 rfl dX9_init_71 ?_
  refine rp_187 E hK hw fl_X9_37 u150_ (rr (by decide)) 75 rfl dX9_init_72 (fun H locs hw => ?_)
  have hw : WK D cy T149_ (upV (upV (upV (upV (upV (upV (upV (upV (upV (upV (upV (upV (upV (upV v_0 200 (upB (v_0 200) q1_ 0)) 202 (upB (v_0 202) q1_ 0)) 200 y200_4) 200 (upB y200_4 q12_ 0)) 202 (upB (upB (v_0 202) q1_ 0) q12_ 0)) 200 y200_18) 200 (upB y200_18 q32_ 0)) 202 (upB (upB (upB (v_0 202) q1_ 0) q12_ 0) q32_ 0)) 200 y200_41) 200 (upB y200_41 q61_ 0)) 202 (upB (upB (upB (upB (v_0 202) q1_ 0) q12_ 0) q32_ 0) q61_ 0)) 200 y200_73) 186 (upB (v_0 186) o 0)) 187 (upB (v_0 187) o 0)) A0 s.heap H locs := hw
  refine j_aload_n E 76 rfl dX9_init_75 rfl (lv_at hl 0 rfl) ?_
  refine j_iconst E 77 rfl dX9_init_76 ?_
  refine rp_188 E hK hw fl_X9_40 u150_ (rr (by decide)) 80 rfl dX9_init_77 (fun H locs hw => ?_)
  have hw : WK D cy T149_ (upV (upV (upV (upV (upV (upV (upV (upV (upV (upV (upV (upV (upV (upV (upV v_0 200 (upB (v_0 200) q1_ 0)) 202 (upB (v_0 202) q1_ 0)) 200 y200_4) 200 (upB y200_4 q12_ 0)) 202 (upB (upB (v_0 202) q1_ 0) q12_ 0)) 200 y200_18) 200 (upB y200_18 q32_ 0)) 202 (upB (upB (upB (v_0 202) q1_ 0) q12_ 0) q32_ 0)) 200 y200_41) 200 (upB y200_41 q61_ 0)) 202 (upB (upB (upB (upB (v_0 202) q1_ 0) q12_ 0) q32_ 0) q61_ 0)) 200 y200_73) 186 (upB (v_0 186) o 0)) 187 (upB (v_0 187) o 0)) 188 (upB (v_0 188) o ((-1)))) A0 s.heap H locs := hw
  refine j_aload_n E 81 rfl dX9_init_80 rfl (lv_at hl 0 rfl) ?_
  refine j_iconst E 82 rfl dX9_init_81 ?_
  refine rp_189 E hK hw fl_X9_43 u150_ (rr (by decide)) 85 rfl dX9_init_82 (fun H locs hw => ?_)
  have hw : WK D cy T149_ (upV (upV (upV (upV (upV (upV (upV (upV (upV (upV (upV (upV (upV (upV (upV (upV v_0 200 (upB (v_0 200) q1_ 0)) 202 (upB (v_0 202) q1_ 0)) 200 y200_4) 200 (upB y200_4 q12_ 0)) 202 (upB (upB (v_0 202) q1_ 0) q12_ 0)) 200 y200_18) 200 (upB y200_18 q32_ 0)) 202 (upB (upB (upB (v_0 202) q1_ 0) q12_ 0) q32_ 0)) 200 y200_41) 200 (upB y200_41 q61_ 0)) 202 (upB (upB (upB (upB (v_0 202) q1_ 0) q12_ 0) q32_ 0) q61_ 0)) 200 y200_73) 186 (upB (v_0 186) o 0)) 187 (upB (v_0 187) o 0)) 188 (upB (v_0 188) o ((-1)))) 189 (upB (v_0 189) o 0)) A0 s.heap H locs := hw
  refine j_aload_n E 86 rfl dX9_init_85 rfl (lv_at hl 0 rfl) ?_
  refine j_iconst E 87 rfl dX9_init_86 ?_
  refine rp_190 E hK hw fl_X9_46 u150_ (rr (by decide)) 90 rfl dX9_init_87 (fun H locs hw => ?_)
  have hw : WK D cy T149_ (upV (upV (upV (upV (upV (upV (upV (upV (upV (upV (upV (upV (upV (upV (upV (upV (upV v_0 200 (upB (v_0 200) q1_ 0)) 202 (upB (v_0 202) q1_ 0)) 200 y200_4) 200 (upB y200_4 q12_ 0)) 202 (upB (upB (v_0 202) q1_ 0) q12_ 0)) 200 y200_18) 200 (upB y200_18 q32_ 0)) 202 (upB (upB (upB (v_0 202) q1_ 0) q12_ 0) q32_ 0)) 200 y200_41) 200 (upB y200_41 q61_ 0)) 202 (upB (upB (upB (upB (v_0 202) q1_ 0) q12_ 0) q32_ 0) q61_ 0)) 200 y200_73) 186 (upB (v_0 186) o 0)) 187 (upB (v_0 187) o 0)) 188 (upB (v_0 188) o ((-1)))) 189 (upB (v_0 189) o 0)) 190 (upB (v_0 190) o 0)) A0 s.heap H locs := hw
  refine j_aload_n E 91 rfl dX9_init_90 rfl (lv_at hl 0 rfl) ?_
  refine j_iconst E 92 rfl dX9_init_91 ?_
  refine rp_191 E hK hw fl_X9_49 u150_ (rr (by decide)) 95 rfl dX9_init_92 (fun H locs hw => ?_)
  have hw : WK D cy T149_ (upV (upV (upV (upV (upV (upV (upV (upV (upV (upV (upV (upV (upV (upV (upV (upV (upV (upV v_0 200 (upB (v_0 200) q1_ 0)) 202 (upB (v_0 202) q1_ 0)) 200 y200_4) 200 (upB y200_4 q12_ 0)) 202 (upB (upB (v_0 202) q1_ 0) q12_ 0)) 200 y200_18) 200 (upB y200_18 q32_ 0)) 202 (upB (upB (upB (v_0 202) q1_ 0) q12_ 0) q32_ 0)) 200 y200_41) 200 (upB y200_41 q61_ 0)) 202 (upB (upB (upB (upB (v_0 202) q1_ 0) q12_ 0) q32_ 0) q61_ 0)) 200 y200_73) 186 (upB (v_0 186) o 0)) 187 (upB (v_0 187) o 0)) 188 (upB (v_0 188) o ((-1)))) 189 (upB (v_0 189) o 0)) 190 (upB (v_0 190) o 0)) 191 (upB (v_0 191) o ((-1)))) A0 s.heap H locs := hw
  refine j_aload_n E 96 rfl dX9_init_95 rfl (lv_at hl 0 rfl) ?_
  have hw0_ := hw
  refine n_obj4 E hK hw hA cl_X9_52 (Nat.le_of_ble_eq_true rfl) (Nat.le_of_ble_eq_true rfl) 99 rfl dX9_init_96 (fun q175_ T175_ H hge175_ hx175_ ho175_ tq175_ hw => ?_)
  have fq175_ : s.heap.size ≤ q175_ := Nat.le_trans hw0_.2.2.1 hge175_
  have hw : WK D cy T175_ (upV (upV (upV (upV (upV (upV (upV (upV (upV (upV (upV (upV (upV (upV (upV (upV (upV (upV (upV (upV (upV (upV (upV v_0 200 (upB (v_0 200) q1_ 0)) 202 (upB (v_0 202) q1_ 0)) 200 y200_4) 200 (upB y200_4 q12_ 0)) 202 (upB (upB (v_0 202) q1_ 0) q12_ 0)) 200 y200_18) 200 (upB y200_18 q32_ 0)) 202 (upB (upB (upB (v_0 202) q1_ 0) q12_ 0) q32_ 0)) 200 y200_41) 200 (upB y200_41 q61_ 0)) 202 (upB (upB (upB (upB (v_0 202) q1_ 0) q12_ 0) q32_ 0) q61_ 0)) 200 y200_73) 186 (upB (v_0 186) o 0)) 187 (upB (v_0 187) o 0)) 188 (upB (v_0 188) o ((-1)))) 189 (upB (v_0 189) o 0)) 190 (upB (v_0 190) o 0)) 191 (upB (v_0 191) o ((-1)))) 80 (upB (v_0 80) q175_ 0)) 81 (upB (v_0 81) q175_ 0)) 83 (upB (v_0 83) q175_ 0)) 84 (upB (v_0 84) q175_ 0)) 86 (upB (v_0 86) q175_ 0)) A0 s.heap H locs := hw
  have hT175_ : WT T175_ := hw.1.2.1
  have hO175_ : ∀ x, ow T175_ x → κ 2 2 ≤ x := fun x h => hAc x (hw.2.1 x h)
  have hoT_ : OW T T175_ s.heap.size := OW.tr hw0_.2.2.1 hoT_ ho175_
  have hR_ : ∀ b, b < sz → b ≠ o → ∀ k, T175_ k b = T k b := fun b_ h1_ h2_ k_ => (hx175_ b_ (by have := hw0_.2.2.1; have := hge175_; omega) k_).trans (hR_ b_ h1_ h2_ k_)
  have u176_ : T175_ 0 o = 109 := (hx175_ o (Nat.ne_of_lt (Nat.lt_of_lt_of_le (cw_lt hw0_.1 u150_ (fun _ _ _ => ⟨_, rfl⟩)) hge175_)) 0).trans u150_
  have u177_ : T175_ 0 (κ 2 0) = 26 := (hx175_ (κ 2 0) (Nat.ne_of_lt (Nat.lt_of_lt_of_le (cw_lt hw0_.1 u151_ (fun _ _ _ => ⟨_, rfl⟩)) hge175_)) 0).trans u151_
  have u178_ : T175_ 0 q1_ = 10 := (hx175_ q1_ (Nat.ne_of_lt (Nat.lt_of_lt_of_le (cw_lt hw0_.1 u152_ (fun _ _ _ => ⟨_, rfl⟩)) hge175_)) 0).trans u152_
  have u179_ : T175_ 0 q12_ = 10 := (hx175_ q12_ (Nat.ne_of_lt (Nat.lt_of_lt_of_le (cw_lt hw0_.1 u153_ (fun _ _ _ => ⟨_, rfl⟩)) hge175_)) 0).trans u153_
  have u180_ : T175_ 0 q32_ = 10 := (hx175_ q32_ (Nat.ne_of_lt (Nat.lt_of_lt_of_le (cw_lt hw0_.1 u154_ (fun _ _ _ => ⟨_, rfl⟩)) hge175_)) 0).trans u154_
  have u181_ : T175_ 0 q61_ = 10 := (hx175_ q61_ (Nat.ne_of_lt (Nat.lt_of_lt_of_le (cw_lt hw0_.1 u155_ (fun _ _ _ => ⟨_, rfl⟩)) hge175_)) 0).trans u155_
  have u182_ : T175_ 0 q99_ = 21 := (hx175_ q99_ (Nat.ne_of_lt (Nat.lt_of_lt_of_le (cw_lt hw0_.1 u156_ (fun _ _ _ => ⟨_, rfl⟩)) hge175_)) 0).trans u156_
  have u183_ : T175_ 0 q131_ = 23 := (hx175_ q131_ (Nat.ne_of_lt (Nat.lt_of_lt_of_le (cw_lt hw0_.1 u157_ (fun _ _ _ => ⟨_, rfl⟩)) hge175_)) 0).trans u157_
  have u184_ : T175_ 1 q99_ = 8 := (hx175_ q99_ (Nat.ne_of_lt (Nat.lt_of_lt_of_le (cw_lt hw0_.1 u156_ (fun _ _ _ => ⟨_, rfl⟩)) hge175_)) 1).trans u158_
  have u185_ : T175_ 1 q131_ = 400 := (hx175_ q131_ (Nat.ne_of_lt (Nat.lt_of_lt_of_le (cw_lt hw0_.1 u157_ (fun _ _ _ => ⟨_, rfl⟩)) hge175_)) 1).trans u159_
  have u186_ : T175_ 2 q1_ = 2 := (hx175_ q1_ (Nat.ne_of_lt (Nat.lt_of_lt_of_le (cw_lt hw0_.1 u152_ (fun _ _ _ => ⟨_, rfl⟩)) hge175_)) 2).trans u160_
  have u187_ : T175_ 2 q12_ = 1 := (hx175_ q12_ (Nat.ne_of_lt (Nat.lt_of_lt_of_le (cw_lt hw0_.1 u153_ (fun _ _ _ => ⟨_, rfl⟩)) hge175_)) 2).trans u161_
  have u188_ : T175_ 2 q32_ = 8 := (hx175_ q32_ (Nat.ne_of_lt (Nat.lt_of_lt_of_le (cw_lt hw0_.1 u154_ (fun _ _ _ => ⟨_, rfl⟩)) hge175_)) 2).trans u162_
  have u189_ : T175_ 2 q61_ = 7 := (hx175_ q61_ (Nat.ne_of_lt (Nat.lt_of_lt_of_le (cw_lt hw0_.1 u155_ (fun _ _ _ => ⟨_, rfl⟩)) hge175_)) 2).trans u163_
  have u190_ : T175_ 180 o = q1_ + 1 := (hx175_ o (Nat.ne_of_lt (Nat.lt_of_lt_of_le (cw_lt hw0_.1 u150_ (fun _ _ _ => ⟨_, rfl⟩)) hge175_)) 180).trans u164_
  have u191_ : T175_ 181 o = q12_ + 1 := (hx175_ o (Nat.ne_of_lt (Nat.lt_of_lt_of_le (cw_lt hw0_.1 u150_ (fun _ _ _ => ⟨_, rfl⟩)) hge175_)) 181).trans u165_
  have u192_ : T175_ 182 o = q32_ + 1 := (hx175_ o (Nat.ne_of_lt (Nat.lt_of_lt_of_le (cw_lt hw0_.1 u150_ (fun _ _ _ => ⟨_, rfl⟩)) hge175_)) 182).trans u166_
  have u193_ : T175_ 183 o = q61_ + 1 := (hx175_ o (Nat.ne_of_lt (Nat.lt_of_lt_of_le (cw_lt hw0_.1 u150_ (fun _ _ _ => ⟨_, rfl⟩)) hge175_)) 183).trans u167_
  have u194_ : T175_ 184 o = q99_ + 1 := (hx175_ o (Nat.ne_of_lt (Nat.lt_of_lt_of_le (cw_lt hw0_.1 u150_ (fun _ _ _ => ⟨_, rfl⟩)) hge175_)) 184).trans u168_
  have u195_ : T175_ 185 o = q131_ + 1 := (hx175_ o (Nat.ne_of_lt (Nat.lt_of_lt_of_le (cw_lt hw0_.1 u150_ (fun _ _ _ => ⟨_, rfl⟩)) hge175_)) 185).trans hk149_
  refine j_dup E 100 rfl dX9_init_99 rfl ?_
  have hw0_ := hw
  refine aN_v E (n_X3_init l D cy κ T175_ (upV (upV (upV (upV (upV (upV (upV (upV (upV (upV (upV (upV (upV (upV (upV (upV (upV (upV (upV (upV (upV (upV (upV v_0 200 (upB (v_0 200) q1_ 0)) 202 (upB (v_0 202) q1_ 0)) 200 y200_4) 200 (upB y200_4 q12_ 0)) 202 (upB (upB (v_0 202) q1_ 0) q12_ 0)) 200 y200_18) 200 (upB y200_18 q32_ 0)) 202 (upB (upB (upB (v_0 202) q1_ 0) q12_ 0) q32_ 0)) 200 y200_41) 200 (upB y200_41 q61_ 0)) 202 (upB (upB (upB (upB (v_0 202) q1_ 0) q12_ 0) q32_ 0) q61_ 0)) 200 y200_73) 186 (upB (v_0 186) o 0)) 187 (upB (v_0 187) o 0)) 188 (upB (v_0 188) o ((-1)))) 189 (upB (v_0 189) o 0)) 190 (upB (v_0 190) o 0)) 191 (upB (v_0 191) o ((-1)))) 80 (upB (v_0 80) q175_ 0)) 81 (upB (v_0 81) q175_ 0)) 83 (upB (v_0 83) q175_ 0)) 84 (upB (v_0 84) q175_ 0)) 86 (upB (v_0 86) q175_ 0)) q175_ H.size  hO175_ tq175_  ) mi_X3_init hZ.1.mR hK hZ hAc hw hA ⟨(Nat.le_of_ble_eq_true rfl), (Nat.le_of_ble_eq_true rfl)⟩ ⟨(Nat.le_of_ble_eq_true rfl), (Nat.le_of_ble_eq_true rfl)⟩ (As := []) (rest := [.ref q175_, .ref o]) rfl rfl hl.1 (Nat.le_of_ble_eq_true rfl) 103 rfl dX9_init_100 (fun T196_ v_196 H locs hge196_ ho196_ hq196_ hw => ?_)
  obtain ⟨y80_196, y81_196, y83_196, y84_196, y86_196, y123_196, y124_196, ev196_, hh196_⟩ := hq196_
  rw [ev196_] at hw; clear ev196_
  obtain ⟨hx196_, tq196_⟩ := hh196_
  have hT196_ : WT T196_ := hw.1.2.1
  have hO196_ : ∀ x, ow T196_ x → κ 2 2 ≤ x := fun x h => hAc x (hw.2.1 x h)
  have hoT_ : OW T T196_ s.heap.size := OW.tr hw0_.2.2.1 hoT_ ho196_
  have hR_ : ∀ b, b < sz → b ≠ o → ∀ k, T196_ k b = T k b := fun b_ h1_ h2_ k_ => (hx196_ b_ (by have := hw0_.2.2.1; omega) (by have := fq175_; omega) k_).trans (hR_ b_ h1_ h2_ k_)
  have u197_ : T196_ 0 o = 109 := (hx196_ o (cw_lt hw0_.1 u176_ (fun _ _ _ => ⟨_, rfl⟩)) (ty_ne u176_ tq175_ (by decide)) 0).trans u176_
  have u198_ : T196_ 0 (κ 2 0) = 26 := (hx196_ (κ 2 0) (cw_lt hw0_.1 u177_ (fun _ _ _ => ⟨_, rfl⟩)) (ty_ne u177_ tq175_ (by decide)) 0).trans u177_
  have u199_ : T196_ 0 q1_ = 10 := (hx196_ q1_ (cw_lt hw0_.1 u178_ (fun _ _ _ => ⟨_, rfl⟩)) (ty_ne u178_ tq175_ (by decide)) 0).trans u178_
  have u200_ : T196_ 0 q12_ = 10 := (hx196_ q12_ (cw_lt hw0_.1 u179_ (fun _ _ _ => ⟨_, rfl⟩)) (ty_ne u179_ tq175_ (by decide)) 0).trans u179_
  have u201_ : T196_ 0 q32_ = 10 := (hx196_ q32_ (cw_lt hw0_.1 u180_ (fun _ _ _ => ⟨_, rfl⟩)) (ty_ne u180_ tq175_ (by decide)) 0).trans u180_
  have u202_ : T196_ 0 q61_ = 10 := (hx196_ q61_ (cw_lt hw0_.1 u181_ (fun _ _ _ => ⟨_, rfl⟩)) (ty_ne u181_ tq175_ (by decide)) 0).trans u181_
  have u203_ : T196_ 0 q99_ = 21 := (hx196_ q99_ (cw_lt hw0_.1 u182_ (fun _ _ _ => ⟨_, rfl⟩)) (ty_ne u182_ tq175_ (by decide)) 0).trans u182_
  have u204_ : T196_ 0 q131_ = 23 := (hx196_ q131_ (cw_lt hw0_.1 u183_ (fun _ _ _ => ⟨_, rfl⟩)) (ty_ne u183_ tq175_ (by decide)) 0).trans u183_
  have u205_ : T196_ 1 q99_ = 8 := (hx196_ q99_ (cw_lt hw0_.1 u182_ (fun _ _ _ => ⟨_, rfl⟩)) (ty_ne u182_ tq175_ (by decide)) 1).trans u184_
  have u206_ : T196_ 1 q131_ = 400 := (hx196_ q131_ (cw_lt hw0_.1 u183_ (fun _ _ _ => ⟨_, rfl⟩)) (ty_ne u183_ tq175_ (by decide)) 1).trans u185_
  have u207_ : T196_ 2 q1_ = 2 := (hx196_ q1_ (cw_lt hw0_.1 u178_ (fun _ _ _ => ⟨_, rfl⟩)) (ty_ne u178_ tq175_ (by decide)) 2).trans u186_
  have u208_ : T196_ 2 q12_ = 1 := (hx196_ q12_ (cw_lt hw0_.1 u179_ (fun _ _ _ => ⟨_, rfl⟩)) (ty_ne u179_ tq175_ (by decide)) 2).trans u187_
  have u209_ : T196_ 2 q32_ = 8 := (hx196_ q32_ (cw_lt hw0_.1 u180_ (fun _ _ _ => ⟨_, rfl⟩)) (ty_ne u180_ tq175_ (by decide)) 2).trans u188_
  have u210_ : T196_ 2 q61_ = 7 := (hx196_ q61_ (cw_lt hw0_.1 u181_ (fun _ _ _ => ⟨_, rfl⟩)) (ty_ne u181_ tq175_ (by decide)) 2).trans u189_
  have u211_ : T196_ 180 o = q1_ + 1 := (hx196_ o (cw_lt hw0_.1 u176_ (fun _ _ _ => ⟨_, rfl⟩)) (ty_ne u176_ tq175_ (by decide)) 180).trans u190_
  have u212_ : T196_ 181 o = q12_ + 1 := (hx196_ o (cw_lt hw0_.1 u176_ (fun _ _ _ => ⟨_, rfl⟩)) (ty_ne u176_ tq175_ (by decide)) 181).trans u191_
  have u213_ : T196_ 182 o = q32_ + 1 := (hx196_ o (cw_lt hw0_.1 u176_ (fun _ _ _ => ⟨_, rfl⟩)) (ty_ne u176_ tq175_ (by decide)) 182).trans u192_
  have u214_ : T196_ 183 o = q61_ + 1 := (hx196_ o (cw_lt hw0_.1 u176_ (fun _ _ _ => ⟨_, rfl⟩)) (ty_ne u176_ tq175_ (by decide)) 183).trans u193_
  have u215_ : T196_ 184 o = q99_ + 1 := (hx196_ o (cw_lt hw0_.1 u176_ (fun _ _ _ => ⟨_, rfl⟩)) (ty_ne u176_ tq175_ (by decide)) 184).trans u194_
  have u216_ : T196_ 185 o = q131_ + 1 := (hx196_ o (cw_lt hw0_.1 u176_ (fun _ _ _ => ⟨_, rfl⟩)) (ty_ne u176_ tq175_ (by decide)) 185).trans u195_
  have hw0_ := hw
  refine rr_192 E hK hw hnm fl_X9_55 u197_ 106 rfl dX9_init_103 (fun T217_ H locs hx217_ hj217_ hk217_ ho217_ hw => ?_)
  have hT217_ : WT T217_ := hw.1.2.1
  have hO217_ : ∀ x, ow T217_ x → κ 2 2 ≤ x := fun x h => hAc x (hw.2.1 x h)
  have hoT_ : OW T T217_ s.heap.size := OW.tr0 hoT_ ho217_
  have hR_ : ∀ b, b < sz → b ≠ o → ∀ k, T217_ k b = T k b := fun b_ h1_ h2_ k_ => (hx217_ b_ h2_ k_).trans (hR_ b_ h1_ h2_ k_)
  have u218_ : T217_ 0 o = 109 := (hj217_ 0 (by decide)).trans u197_
  have u219_ : T217_ 0 (κ 2 0) = 26 := (hx217_ (κ 2 0) (ty_ne u198_ u197_ (by decide)) 0).trans u198_
  have u220_ : T217_ 0 q1_ = 10 := (hx217_ q1_ (ty_ne u199_ u197_ (by decide)) 0).trans u199_
  have u221_ : T217_ 0 q12_ = 10 := (hx217_ q12_ (ty_ne u200_ u197_ (by decide)) 0).trans u200_
  have u222_ : T217_ 0 q32_ = 10 := (hx217_ q32_ (ty_ne u201_ u197_ (by decide)) 0).trans u201_
  have u223_ : T217_ 0 q61_ = 10 := (hx217_ q61_ (ty_ne u202_ u197_ (by decide)) 0).trans u202_
  have u224_ : T217_ 0 q99_ = 21 := (hx217_ q99_ (ty_ne u203_ u197_ (by decide)) 0).trans u203_
  have u225_ : T217_ 0 q131_ = 23 := (hx217_ q131_ (ty_ne u204_ u197_ (by decide)) 0).trans u204_
  have u226_ : T217_ 0 q175_ = 4 := (hx217_ q175_ (ty_ne tq196_ u197_ (by decide)) 0).trans tq196_
  have u227_ : T217_ 1 q99_ = 8 := (hx217_ q99_ (ty_ne u203_ u197_ (by decide)) 1).trans u205_
  have u228_ : T217_ 1 q131_ = 400 := (hx217_ q131_ (ty_ne u204_ u197_ (by decide)) 1).trans u206_
  have u229_ : T217_ 2 q1_ = 2 := (hx217_ q1_ (ty_ne u199_ u197_ (by decide)) 2).trans u207_
  have u230_ : T217_ 2 q12_ = 1 := (hx217_ q12_ (ty_ne u200_ u197_ (by decide)) 2).trans u208_
  have u231_ : T217_ 2 q32_ = 8 := (hx217_ q32_ (ty_ne u201_ u197_ (by decide)) 2).trans u209_
  have u232_ : T217_ 2 q61_ = 7 := (hx217_ q61_ (ty_ne u202_ u197_ (by decide)) 2).trans u210_
  have u233_ : T217_ 180 o = q1_ + 1 := (hj217_ 180 (by decide)).trans u211_
  have u234_ : T217_ 181 o = q12_ + 1 := (hj217_ 181 (by decide)).trans u212_
  have u235_ : T217_ 182 o = q32_ + 1 := (hj217_ 182 (by decide)).trans u213_
  have u236_ : T217_ 183 o = q61_ + 1 := (hj217_ 183 (by decide)).trans u214_
  have u237_ : T217_ 184 o = q99_ + 1 := (hj217_ 184 (by decide)).trans u215_
  have u238_ : T217_ 185 o = q131_ + 1 := (hj217_ 185 (by decide)).trans u216_
  refine j_aload_n E 107 rfl dX9_init_106 rfl (lv_at hl 0 rfl) ?_
  have hw0_ := hw
  refine n_obj5 E hK hw hA cl_X9_59 (Nat.le_of_ble_eq_true rfl) (Nat.le_of_ble_eq_true rfl) 110 rfl dX9_init_107 (fun q239_ T239_ H hge239_ hx239_ ho239_ tq239_ hw => ?_)
  have fq239_ : s.heap.size ≤ q239_ := Nat.le_trans hw0_.2.2.1 hge239_
  have hw : WK D cy T239_ (upV (upV (upV (upV (upV (upV (upV (upV (upV (upV (upV (upV (upV (upV (upV (upV (upV (upV (upV (upV (upV (upV (upV (upV (upV (upV (upV (upV (upV (upV (upV v_0 200 (upB (v_0 200) q1_ 0)) 202 (upB (v_0 202) q1_ 0)) 200 y200_4) 200 (upB y200_4 q12_ 0)) 202 (upB (upB (v_0 202) q1_ 0) q12_ 0)) 200 y200_18) 200 (upB y200_18 q32_ 0)) 202 (upB (upB (upB (v_0 202) q1_ 0) q12_ 0) q32_ 0)) 200 y200_41) 200 (upB y200_41 q61_ 0)) 202 (upB (upB (upB (upB (v_0 202) q1_ 0) q12_ 0) q32_ 0) q61_ 0)) 200 y200_73) 186 (upB (v_0 186) o 0)) 187 (upB (v_0 187) o 0)) 188 (upB (v_0 188) o ((-1)))) 189 (upB (v_0 189) o 0)) 190 (upB (v_0 190) o 0)) 191 (upB (v_0 191) o ((-1)))) 80 (upB (v_0 80) q175_ 0)) 81 (upB (v_0 81) q175_ 0)) 83 (upB (v_0 83) q175_ 0)) 84 (upB (v_0 84) q175_ 0)) 86 (upB (v_0 86) q175_ 0)) 80 y80_196) 81 y81_196) 83 y83_196) 84 y84_196) 86 y86_196) 123 y123_196) 124 y124_196) 103 (upB (v_0 103) q239_ 0)) A0 s.heap H locs := hw
  have hT239_ : WT T239_ := hw.1.2.1
  have hO239_ : ∀ x, ow T239_ x → κ 2 2 ≤ x := fun x h => hAc x (hw.2.1 x h)
  have hoT_ : OW T T239_ s.heap.size := OW.tr hw0_.2.2.1 hoT_ ho239_
  have hR_ : ∀ b, b < sz → b ≠ o → ∀ k, T239_ k b = T k b := fun b_ h1_ h2_ k_ => (hx239_ b_ (by have := hw0_.2.2.1; have := hge239_; omega) k_).trans (hR_ b_ h1_ h2_ k_)
  have u240_ : T239_ 0 o = 109 := (hx239_ o (Nat.ne_of_lt (Nat.lt_of_lt_of_le (cw_lt hw0_.1 u218_ (fun _ _ _ => ⟨_, rfl⟩)) hge239_)) 0).trans u218_
  have u241_ : T239_ 0 (κ 2 0) = 26 := (hx239_ (κ 2 0) (Nat.ne_of_lt (Nat.lt_of_lt_of_le (cw_lt hw0_.1 u219_ (fun _ _ _ => ⟨_, rfl⟩)) hge239_)) 0).trans u219_
  have u242_ : T239_ 0 q1_ = 10 := (hx239_ q1_ (Nat.ne_of_lt (Nat.lt_of_lt_of_le (cw_lt hw0_.1 u220_ (fun _ _ _ => ⟨_, rfl⟩)) hge239_)) 0).trans u220_
  have u243_ : T239_ 0 q12_ = 10 := (hx239_ q12_ (Nat.ne_of_lt (Nat.lt_of_lt_of_le (cw_lt hw0_.1 u221_ (fun _ _ _ => ⟨_, rfl⟩)) hge239_)) 0).trans u221_
  have u244_ : T239_ 0 q32_ = 10 := (hx239_ q32_ (Nat.ne_of_lt (Nat.lt_of_lt_of_le (cw_lt hw0_.1 u222_ (fun _ _ _ => ⟨_, rfl⟩)) hge239_)) 0).trans u222_
  have u245_ : T239_ 0 q61_ = 10 := (hx239_ q61_ (Nat.ne_of_lt (Nat.lt_of_lt_of_le (cw_lt hw0_.1 u223_ (fun _ _ _ => ⟨_, rfl⟩)) hge239_)) 0).trans u223_
  have u246_ : T239_ 0 q99_ = 21 := (hx239_ q99_ (Nat.ne_of_lt (Nat.lt_of_lt_of_le (cw_lt hw0_.1 u224_ (fun _ _ _ => ⟨_, rfl⟩)) hge239_)) 0).trans u224_
  have u247_ : T239_ 0 q131_ = 23 := (hx239_ q131_ (Nat.ne_of_lt (Nat.lt_of_lt_of_le (cw_lt hw0_.1 u225_ (fun _ _ _ => ⟨_, rfl⟩)) hge239_)) 0).trans u225_
  have u248_ : T239_ 0 q175_ = 4 := (hx239_ q175_ (Nat.ne_of_lt (Nat.lt_of_lt_of_le (cw_lt hw0_.1 u226_ (fun _ _ _ => ⟨_, rfl⟩)) hge239_)) 0).trans u226_
  have u249_ : T239_ 1 q99_ = 8 := (hx239_ q99_ (Nat.ne_of_lt (Nat.lt_of_lt_of_le (cw_lt hw0_.1 u224_ (fun _ _ _ => ⟨_, rfl⟩)) hge239_)) 1).trans u227_
  have u250_ : T239_ 1 q131_ = 400 := (hx239_ q131_ (Nat.ne_of_lt (Nat.lt_of_lt_of_le (cw_lt hw0_.1 u225_ (fun _ _ _ => ⟨_, rfl⟩)) hge239_)) 1).trans u228_
  have u251_ : T239_ 2 q1_ = 2 := (hx239_ q1_ (Nat.ne_of_lt (Nat.lt_of_lt_of_le (cw_lt hw0_.1 u220_ (fun _ _ _ => ⟨_, rfl⟩)) hge239_)) 2).trans u229_
  have u252_ : T239_ 2 q12_ = 1 := (hx239_ q12_ (Nat.ne_of_lt (Nat.lt_of_lt_of_le (cw_lt hw0_.1 u221_ (fun _ _ _ => ⟨_, rfl⟩)) hge239_)) 2).trans u230_
  have u253_ : T239_ 2 q32_ = 8 := (hx239_ q32_ (Nat.ne_of_lt (Nat.lt_of_lt_of_le (cw_lt hw0_.1 u222_ (fun _ _ _ => ⟨_, rfl⟩)) hge239_)) 2).trans u231_
  have u254_ : T239_ 2 q61_ = 7 := (hx239_ q61_ (Nat.ne_of_lt (Nat.lt_of_lt_of_le (cw_lt hw0_.1 u223_ (fun _ _ _ => ⟨_, rfl⟩)) hge239_)) 2).trans u232_
  have u255_ : T239_ 180 o = q1_ + 1 := (hx239_ o (Nat.ne_of_lt (Nat.lt_of_lt_of_le (cw_lt hw0_.1 u218_ (fun _ _ _ => ⟨_, rfl⟩)) hge239_)) 180).trans u233_
  have u256_ : T239_ 181 o = q12_ + 1 := (hx239_ o (Nat.ne_of_lt (Nat.lt_of_lt_of_le (cw_lt hw0_.1 u218_ (fun _ _ _ => ⟨_, rfl⟩)) hge239_)) 181).trans u234_
  have u257_ : T239_ 182 o = q32_ + 1 := (hx239_ o (Nat.ne_of_lt (Nat.lt_of_lt_of_le (cw_lt hw0_.1 u218_ (fun _ _ _ => ⟨_, rfl⟩)) hge239_)) 182).trans u235_
  have u258_ : T239_ 183 o = q61_ + 1 := (hx239_ o (Nat.ne_of_lt (Nat.lt_of_lt_of_le (cw_lt hw0_.1 u218_ (fun _ _ _ => ⟨_, rfl⟩)) hge239_)) 183).trans u236_
  have u259_ : T239_ 184 o = q99_ + 1 := (hx239_ o (Nat.ne_of_lt (Nat.lt_of_lt_of_le (cw_lt hw0_.1 u218_ (fun _ _ _ => ⟨_, rfl⟩)) hge239_)) 184).trans u237_
  have u260_ : T239_ 185 o = q131_ + 1 := (hx239_ o (Nat.ne_of_lt (Nat.lt_of_lt_of_le (cw_lt hw0_.1 u218_ (fun _ _ _ => ⟨_, rfl⟩)) hge239_)) 185).trans u238_
  have u261_ : T239_ 192 o = q175_ + 1 := (hx239_ o (Nat.ne_of_lt (Nat.lt_of_lt_of_le (cw_lt hw0_.1 u218_ (fun _ _ _ => ⟨_, rfl⟩)) hge239_)) 192).trans hk217_
  refine j_dup E 111 rfl dX9_init_110 rfl ?_
  have hw0_ := hw
  refine aN_v E (n_X4_init l D cy κ T239_ (upV (upV (upV (upV (upV (upV (upV (upV (upV (upV (upV (upV (upV (upV (upV (upV (upV (upV (upV (upV (upV (upV (upV (upV (upV (upV (upV (upV (upV (upV (upV v_0 200 (upB (v_0 200) q1_ 0)) 202 (upB (v_0 202) q1_ 0)) 200 y200_4) 200 (upB y200_4 q12_ 0)) 202 (upB (upB (v_0 202) q1_ 0) q12_ 0)) 200 y200_18) 200 (upB y200_18 q32_ 0)) 202 (upB (upB (upB (v_0 202) q1_ 0) q12_ 0) q32_ 0)) 200 y200_41) 200 (upB y200_41 q61_ 0)) 202 (upB (upB (upB (upB (v_0 202) q1_ 0) q12_ 0) q32_ 0) q61_ 0)) 200 y200_73) 186 (upB (v_0 186) o 0)) 187 (upB (v_0 187) o 0)) 188 (upB (v_0 188) o ((-1)))) 189 (upB (v_0 189) o 0)) 190 (upB (v_0 190) o 0)) 191 (upB (v_0 191) o ((-1)))) 80 (upB (v_0 80) q175_ 0)) 81 (upB (v_0 81) q175_ 0)) 83 (upB (v_0 83) q175_ 0)) 84 (upB (v_0 84) q175_ 0)) 86 (upB (v_0 86) q175_ 0)) 80 y80_196) 81 y81_196) 83 y83_196) 84 y84_196) 86 y86_196) 123 y123_196) 124 y124_196) 103 (upB (v_0 103) q239_ 0)) q239_ H.size  hO239_ tq239_  ) mi_X4_init hZ.1.mK hK hZ hAc hw hA ⟨(Nat.le_of_ble_eq_true rfl), (Nat.le_of_ble_eq_true rfl)⟩ ⟨(Nat.le_of_ble_eq_true rfl), (Nat.le_of_ble_eq_true rfl)⟩ (As := []) (rest := [.ref q239_, .ref o]) rfl rfl hl.1 (Nat.le_of_ble_eq_true rfl) 114 rfl dX9_init_111 (fun T262_ v_262 H locs hge262_ ho262_ hq262_ hw => ?_)
  obtain ⟨y103_262, ev262_, hh262_⟩ := hq262_
  rw [ev262_] at hw; clear ev262_
  obtain ⟨hx262_, tq262_⟩ := hh262_
  have hT262_ : WT T262_ := hw.1.2.1
  have hO262_ : ∀ x, ow T262_ x → κ 2 2 ≤ x := fun x h => hAc x (hw.2.1 x h)
  have hoT_ : OW T T262_ s.heap.size := OW.tr hw0_.2.2.1 hoT_ ho262_
  have hR_ : ∀ b, b < sz → b ≠ o → ∀ k, T262_ k b = T k b := fun b_ h1_ h2_ k_ => (hx262_ b_ (by have := hw0_.2.2.1; omega) (by have := fq239_; omega) k_).trans (hR_ b_ h1_ h2_ k_)
  have u263_ : T262_ 0 o = 109 := (hx262_ o (cw_lt hw0_.1 u240_ (fun _ _ _ => ⟨_, rfl⟩)) (ty_ne u240_ tq239_ (by decide)) 0).trans u240_
  have u264_ : T262_ 0 (κ 2 0) = 26 := (hx262_ (κ 2 0) (cw_lt hw0_.1 u241_ (fun _ _ _ => ⟨_, rfl⟩)) (ty_ne u241_ tq239_ (by decide)) 0).trans u241_
  have u265_ : T262_ 0 q1_ = 10 := (hx262_ q1_ (cw_lt hw0_.1 u242_ (fun _ _ _ => ⟨_, rfl⟩)) (ty_ne u242_ tq239_ (by decide)) 0).trans u242_
  have u266_ : T262_ 0 q12_ = 10 := (hx262_ q12_ (cw_lt hw0_.1 u243_ (fun _ _ _ => ⟨_, rfl⟩)) (ty_ne u243_ tq239_ (by decide)) 0).trans u243_
  have u267_ : T262_ 0 q32_ = 10 := (hx262_ q32_ (cw_lt hw0_.1 u244_ (fun _ _ _ => ⟨_, rfl⟩)) (ty_ne u244_ tq239_ (by decide)) 0).trans u244_
  have u268_ : T262_ 0 q61_ = 10 := (hx262_ q61_ (cw_lt hw0_.1 u245_ (fun _ _ _ => ⟨_, rfl⟩)) (ty_ne u245_ tq239_ (by decide)) 0).trans u245_
  have u269_ : T262_ 0 q99_ = 21 := (hx262_ q99_ (cw_lt hw0_.1 u246_ (fun _ _ _ => ⟨_, rfl⟩)) (ty_ne u246_ tq239_ (by decide)) 0).trans u246_
  have u270_ : T262_ 0 q131_ = 23 := (hx262_ q131_ (cw_lt hw0_.1 u247_ (fun _ _ _ => ⟨_, rfl⟩)) (ty_ne u247_ tq239_ (by decide)) 0).trans u247_
  have u271_ : T262_ 0 q175_ = 4 := (hx262_ q175_ (cw_lt hw0_.1 u248_ (fun _ _ _ => ⟨_, rfl⟩)) (ty_ne u248_ tq239_ (by decide)) 0).trans u248_
  have u272_ : T262_ 1 q99_ = 8 := (hx262_ q99_ (cw_lt hw0_.1 u246_ (fun _ _ _ => ⟨_, rfl⟩)) (ty_ne u246_ tq239_ (by decide)) 1).trans u249_
  have u273_ : T262_ 1 q131_ = 400 := (hx262_ q131_ (cw_lt hw0_.1 u247_ (fun _ _ _ => ⟨_, rfl⟩)) (ty_ne u247_ tq239_ (by decide)) 1).trans u250_
  have u274_ : T262_ 2 q1_ = 2 := (hx262_ q1_ (cw_lt hw0_.1 u242_ (fun _ _ _ => ⟨_, rfl⟩)) (ty_ne u242_ tq239_ (by decide)) 2).trans u251_
  have u275_ : T262_ 2 q12_ = 1 := (hx262_ q12_ (cw_lt hw0_.1 u243_ (fun _ _ _ => ⟨_, rfl⟩)) (ty_ne u243_ tq239_ (by decide)) 2).trans u252_
  have u276_ : T262_ 2 q32_ = 8 := (hx262_ q32_ (cw_lt hw0_.1 u244_ (fun _ _ _ => ⟨_, rfl⟩)) (ty_ne u244_ tq239_ (by decide)) 2).trans u253_
  have u277_ : T262_ 2 q61_ = 7 := (hx262_ q61_ (cw_lt hw0_.1 u245_ (fun _ _ _ => ⟨_, rfl⟩)) (ty_ne u245_ tq239_ (by decide)) 2).trans u254_
  have u278_ : T262_ 180 o = q1_ + 1 := (hx262_ o (cw_lt hw0_.1 u240_ (fun _ _ _ => ⟨_, rfl⟩)) (ty_ne u240_ tq239_ (by decide)) 180).trans u255_
  have u279_ : T262_ 181 o = q12_ + 1 := (hx262_ o (cw_lt hw0_.1 u240_ (fun _ _ _ => ⟨_, rfl⟩)) (ty_ne u240_ tq239_ (by decide)) 181).trans u256_
  have u280_ : T262_ 182 o = q32_ + 1 := (hx262_ o (cw_lt hw0_.1 u240_ (fun _ _ _ => ⟨_, rfl⟩)) (ty_ne u240_ tq239_ (by decide)) 182).trans u257_
  have u281_ : T262_ 183 o = q61_ + 1 := (hx262_ o (cw_lt hw0_.1 u240_ (fun _ _ _ => ⟨_, rfl⟩)) (ty_ne u240_ tq239_ (by decide)) 183).trans u258_
  have u282_ : T262_ 184 o = q99_ + 1 := (hx262_ o (cw_lt hw0_.1 u240_ (fun _ _ _ => ⟨_, rfl⟩)) (ty_ne u240_ tq239_ (by decide)) 184).trans u259_
  have u283_ : T262_ 185 o = q131_ + 1 := (hx262_ o (cw_lt hw0_.1 u240_ (fun _ _ _ => ⟨_, rfl⟩)) (ty_ne u240_ tq239_ (by decide)) 185).trans u260_
  have u284_ : T262_ 192 o = q175_ + 1 := (hx262_ o (cw_lt hw0_.1 u240_ (fun _ _ _ => ⟨_, rfl⟩)) (ty_ne u240_ tq239_ (by decide)) 192).trans u261_
  have hw0_ := hw
  refine rr_193 E hK hw hnm fl_X9_62 u263_ 117 rfl dX9_init_114 (fun T285_ H locs hx285_ hj285_ hk285_ ho285_ hw => ?_)
  have hT285_ : WT T285_ := hw.1.2.1
  have hO285_ : ∀ x, ow T285_ x → κ 2 2 ≤ x := fun x h => hAc x (hw.2.1 x h)
  have hoT_ : OW T T285_ s.heap.size := OW.tr0 hoT_ ho285_
  have hR_ : ∀ b, b < sz → b ≠ o → ∀ k, T285_ k b = T k b := fun b_ h1_ h2_ k_ => (hx285_ b_ h2_ k_).trans (hR_ b_ h1_ h2_ k_)
  have u286_ : T285_ 0 o = 109 := (hj285_ 0 (by decide)).trans u263_
  have u287_ : T285_ 0 (κ 2 0) = 26 := (hx285_ (κ 2 0) (ty_ne u264_ u263_ (by decide)) 0).trans u264_
  have u288_ : T285_ 0 q1_ = 10 := (hx285_ q1_ (ty_ne u265_ u263_ (by decide)) 0).trans u265_
  have u289_ : T285_ 0 q12_ = 10 := (hx285_ q12_ (ty_ne u266_ u263_ (by decide)) 0).trans u266_
  have u290_ : T285_ 0 q32_ = 10 := (hx285_ q32_ (ty_ne u267_ u263_ (by decide)) 0).trans u267_
  have u291_ : T285_ 0 q61_ = 10 := (hx285_ q61_ (ty_ne u268_ u263_ (by decide)) 0).trans u268_
  have u292_ : T285_ 0 q99_ = 21 := (hx285_ q99_ (ty_ne u269_ u263_ (by decide)) 0).trans u269_
  have u293_ : T285_ 0 q131_ = 23 := (hx285_ q131_ (ty_ne u270_ u263_ (by decide)) 0).trans u270_
  have u294_ : T285_ 0 q175_ = 4 := (hx285_ q175_ (ty_ne u271_ u263_ (by decide)) 0).trans u271_
  have u295_ : T285_ 0 q239_ = 5 := (hx285_ q239_ (ty_ne tq262_ u263_ (by decide)) 0).trans tq262_
  have u296_ : T285_ 1 q99_ = 8 := (hx285_ q99_ (ty_ne u269_ u263_ (by decide)) 1).trans u272_
  have u297_ : T285_ 1 q131_ = 400 := (hx285_ q131_ (ty_ne u270_ u263_ (by decide)) 1).trans u273_
  have u298_ : T285_ 2 q1_ = 2 := (hx285_ q1_ (ty_ne u265_ u263_ (by decide)) 2).trans u274_
  have u299_ : T285_ 2 q12_ = 1 := (hx285_ q12_ (ty_ne u266_ u263_ (by decide)) 2).trans u275_
  have u300_ : T285_ 2 q32_ = 8 := (hx285_ q32_ (ty_ne u267_ u263_ (by decide)) 2).trans u276_
  have u301_ : T285_ 2 q61_ = 7 := (hx285_ q61_ (ty_ne u268_ u263_ (by decide)) 2).trans u277_
  have u302_ : T285_ 180 o = q1_ + 1 := (hj285_ 180 (by decide)).trans u278_
  have u303_ : T285_ 181 o = q12_ + 1 := (hj285_ 181 (by decide)).trans u279_
  have u304_ : T285_ 182 o = q32_ + 1 := (hj285_ 182 (by decide)).trans u280_
  have u305_ : T285_ 183 o = q61_ + 1 := (hj285_ 183 (by decide)).trans u281_
  have u306_ : T285_ 184 o = q99_ + 1 := (hj285_ 184 (by decide)).trans u282_
  have u307_ : T285_ 185 o = q131_ + 1 := (hj285_ 185 (by decide)).trans u283_
  have u308_ : T285_ 192 o = q175_ + 1 := (hj285_ 192 (by decide)).trans u284_
  refine j_aload_n E 118 rfl dX9_init_117 rfl (lv_at hl 0 rfl) ?_
  refine j_bipush E 120 rfl dX9_init_118 (by decide) ?_
  have hw0_ := hw
  refine n_arr20 E hK hw hA 32 (by decide) (by decide) (Nat.le_of_ble_eq_true rfl) (Nat.le_of_ble_eq_true rfl) 122 rfl dX9_init_120 (fun q309_ T309_ H hge309_ hx309_ ho309_ tq309_ tl309_ hw => ?_)
  have fq309_ : s.heap.size ≤ q309_ := Nat.le_trans hw0_.2.2.1 hge309_
  have hT309_ : WT T309_ := hw.1.2.1
  have hO309_ : ∀ x, ow T309_ x → κ 2 2 ≤ x := fun x h => hAc x (hw.2.1 x h)
  have hoT_ : OW T T309_ s.heap.size := OW.tr hw0_.2.2.1 hoT_ ho309_
  have hR_ : ∀ b, b < sz → b ≠ o → ∀ k, T309_ k b = T k b := fun b_ h1_ h2_ k_ => (hx309_ b_ (by have := hw0_.2.2.1; have := hge309_; omega) k_).trans (hR_ b_ h1_ h2_ k_)
  have u310_ : T309_ 0 o = 109 := (hx309_ o (Nat.ne_of_lt (Nat.lt_of_lt_of_le (cw_lt hw0_.1 u286_ (fun _ _ _ => ⟨_, rfl⟩)) hge309_)) 0).trans u286_
  have u311_ : T309_ 0 (κ 2 0) = 26 := (hx309_ (κ 2 0) (Nat.ne_of_lt (Nat.lt_of_lt_of_le (cw_lt hw0_.1 u287_ (fun _ _ _ => ⟨_, rfl⟩)) hge309_)) 0).trans u287_
  have u312_ : T309_ 0 q1_ = 10 := (hx309_ q1_ (Nat.ne_of_lt (Nat.lt_of_lt_of_le (cw_lt hw0_.1 u288_ (fun _ _ _ => ⟨_, rfl⟩)) hge309_)) 0).trans u288_
  have u313_ : T309_ 0 q12_ = 10 := (hx309_ q12_ (Nat.ne_of_lt (Nat.lt_of_lt_of_le (cw_lt hw0_.1 u289_ (fun _ _ _ => ⟨_, rfl⟩)) hge309_)) 0).trans u289_
  have u314_ : T309_ 0 q32_ = 10 := (hx309_ q32_ (Nat.ne_of_lt (Nat.lt_of_lt_of_le (cw_lt hw0_.1 u290_ (fun _ _ _ => ⟨_, rfl⟩)) hge309_)) 0).trans u290_
  have u315_ : T309_ 0 q61_ = 10 := (hx309_ q61_ (Nat.ne_of_lt (Nat.lt_of_lt_of_le (cw_lt hw0_.1 u291_ (fun _ _ _ => ⟨_, rfl⟩)) hge309_)) 0).trans u291_
  have u316_ : T309_ 0 q99_ = 21 := (hx309_ q99_ (Nat.ne_of_lt (Nat.lt_of_lt_of_le (cw_lt hw0_.1 u292_ (fun _ _ _ => ⟨_, rfl⟩)) hge309_)) 0).trans u292_
  have u317_ : T309_ 0 q131_ = 23 := (hx309_ q131_ (Nat.ne_of_lt (Nat.lt_of_lt_of_le (cw_lt hw0_.1 u293_ (fun _ _ _ => ⟨_, rfl⟩)) hge309_)) 0).trans u293_
  have u318_ : T309_ 0 q175_ = 4 := (hx309_ q175_ (Nat.ne_of_lt (Nat.lt_of_lt_of_le (cw_lt hw0_.1 u294_ (fun _ _ _ => ⟨_, rfl⟩)) hge309_)) 0).trans u294_
  have u319_ : T309_ 0 q239_ = 5 := (hx309_ q239_ (Nat.ne_of_lt (Nat.lt_of_lt_of_le (cw_lt hw0_.1 u295_ (fun _ _ _ => ⟨_, rfl⟩)) hge309_)) 0).trans u295_
  have u320_ : T309_ 1 q99_ = 8 := (hx309_ q99_ (Nat.ne_of_lt (Nat.lt_of_lt_of_le (cw_lt hw0_.1 u292_ (fun _ _ _ => ⟨_, rfl⟩)) hge309_)) 1).trans u296_
  have u321_ : T309_ 1 q131_ = 400 := (hx309_ q131_ (Nat.ne_of_lt (Nat.lt_of_lt_of_le (cw_lt hw0_.1 u293_ (fun _ _ _ => ⟨_, rfl⟩)) hge309_)) 1).trans u297_
  have u322_ : T309_ 2 q1_ = 2 := (hx309_ q1_ (Nat.ne_of_lt (Nat.lt_of_lt_of_le (cw_lt hw0_.1 u288_ (fun _ _ _ => ⟨_, rfl⟩)) hge309_)) 2).trans u298_
  have u323_ : T309_ 2 q12_ = 1 := (hx309_ q12_ (Nat.ne_of_lt (Nat.lt_of_lt_of_le (cw_lt hw0_.1 u289_ (fun _ _ _ => ⟨_, rfl⟩)) hge309_)) 2).trans u299_
  have u324_ : T309_ 2 q32_ = 8 := (hx309_ q32_ (Nat.ne_of_lt (Nat.lt_of_lt_of_le (cw_lt hw0_.1 u290_ (fun _ _ _ => ⟨_, rfl⟩)) hge309_)) 2).trans u300_
  have u325_ : T309_ 2 q61_ = 7 := (hx309_ q61_ (Nat.ne_of_lt (Nat.lt_of_lt_of_le (cw_lt hw0_.1 u291_ (fun _ _ _ => ⟨_, rfl⟩)) hge309_)) 2).trans u301_
  have u326_ : T309_ 180 o = q1_ + 1 := (hx309_ o (Nat.ne_of_lt (Nat.lt_of_lt_of_le (cw_lt hw0_.1 u286_ (fun _ _ _ => ⟨_, rfl⟩)) hge309_)) 180).trans u302_
  have u327_ : T309_ 181 o = q12_ + 1 := (hx309_ o (Nat.ne_of_lt (Nat.lt_of_lt_of_le (cw_lt hw0_.1 u286_ (fun _ _ _ => ⟨_, rfl⟩)) hge309_)) 181).trans u303_
  have u328_ : T309_ 182 o = q32_ + 1 := (hx309_ o (Nat.ne_of_lt (Nat.lt_of_lt_of_le (cw_lt hw0_.1 u286_ (fun _ _ _ => ⟨_, rfl⟩)) hge309_)) 182).trans u304_
  have u329_ : T309_ 183 o = q61_ + 1 := (hx309_ o (Nat.ne_of_lt (Nat.lt_of_lt_of_le (cw_lt hw0_.1 u286_ (fun _ _ _ => ⟨_, rfl⟩)) hge309_)) 183).trans u305_
  have u330_ : T309_ 184 o = q99_ + 1 := (hx309_ o (Nat.ne_of_lt (Nat.lt_of_lt_of_le (cw_lt hw0_.1 u286_ (fun _ _ _ => ⟨_, rfl⟩)) hge309_)) 184).trans u306_
  have u331_ : T309_ 185 o = q131_ + 1 := (hx309_ o (Nat.ne_of_lt (Nat.lt_of_lt_of_le (cw_lt hw0_.1 u286_ (fun _ _ _ => ⟨_, rfl⟩)) hge309_)) 185).trans u307_
  have u332_ : T309_ 192 o = q175_ + 1 := (hx309_ o (Nat.ne_of_lt (Nat.lt_of_lt_of_le (cw_lt hw0_.1 u286_ (fun _ _ _ => ⟨_, rfl⟩)) hge309_)) 192).trans u308_
  have u333_ : T309_ 193 o = q239_ + 1 := (hx309_ o (Nat.ne_of_lt (Nat.lt_of_lt_of_le (cw_lt hw0_.1 u286_ (fun _ _ _ => ⟨_, rfl⟩)) hge309_)) 193).trans hk285_
  have hw0_ := hw
  refine rr_194 E hK hw hnm fl_X9_66 u310_ 125 rfl dX9_init_122 (fun T334_ H locs hx334_ hj334_ hk334_ ho334_ hw => ?_)
  have hT334_ : WT T334_ := hw.1.2.1
  have hO334_ : ∀ x, ow T334_ x → κ 2 2 ≤ x := fun x h => hAc x (hw.2.1 x h)
  have hoT_ : OW T T334_ s.heap.size := OW.tr0 hoT_ ho334_
  have hR_ : ∀ b, b < sz → b ≠ o → ∀ k, T334_ k b = T k b := fun b_ h1_ h2_ k_ => (hx334_ b_ h2_ k_).trans (hR_ b_ h1_ h2_ k_)
  have u335_ : T334_ 0 o = 109 := (hj334_ 0 (by decide)).trans u310_
  have u336_ : T334_ 0 (κ 2 0) = 26 := (hx334_ (κ 2 0) (ty_ne u311_ u310_ (by decide)) 0).trans u311_
  have u337_ : T334_ 0 q1_ = 10 := (hx334_ q1_ (ty_ne u312_ u310_ (by decide)) 0).trans u312_
  have u338_ : T334_ 0 q12_ = 10 := (hx334_ q12_ (ty_ne u313_ u310_ (by decide)) 0).trans u313_
  have u339_ : T334_ 0 q32_ = 10 := (hx334_ q32_ (ty_ne u314_ u310_ (by decide)) 0).trans u314_
  have u340_ : T334_ 0 q61_ = 10 := (hx334_ q61_ (ty_ne u315_ u310_ (by decide)) 0).trans u315_
  have u341_ : T334_ 0 q99_ = 21 := (hx334_ q99_ (ty_ne u316_ u310_ (by decide)) 0).trans u316_
  have u342_ : T334_ 0 q131_ = 23 := (hx334_ q131_ (ty_ne u317_ u310_ (by decide)) 0).trans u317_
  have u343_ : T334_ 0 q175_ = 4 := (hx334_ q175_ (ty_ne u318_ u310_ (by decide)) 0).trans u318_
  have u344_ : T334_ 0 q239_ = 5 := (hx334_ q239_ (ty_ne u319_ u310_ (by decide)) 0).trans u319_
  have u345_ : T334_ 0 q309_ = 20 := (hx334_ q309_ (ty_ne tq309_ u310_ (by decide)) 0).trans tq309_
  have u346_ : T334_ 1 q99_ = 8 := (hx334_ q99_ (ty_ne u316_ u310_ (by decide)) 1).trans u320_
  have u347_ : T334_ 1 q131_ = 400 := (hx334_ q131_ (ty_ne u317_ u310_ (by decide)) 1).trans u321_
  have u348_ : T334_ 1 q309_ = 32 := (hx334_ q309_ (ty_ne tq309_ u310_ (by decide)) 1).trans tl309_
  have u349_ : T334_ 2 q1_ = 2 := (hx334_ q1_ (ty_ne u312_ u310_ (by decide)) 2).trans u322_
  have u350_ : T334_ 2 q12_ = 1 := (hx334_ q12_ (ty_ne u313_ u310_ (by decide)) 2).trans u323_
  have u351_ : T334_ 2 q32_ = 8 := (hx334_ q32_ (ty_ne u314_ u310_ (by decide)) 2).trans u324_
  have u352_ : T334_ 2 q61_ = 7 := (hx334_ q61_ (ty_ne u315_ u310_ (by decide)) 2).trans u325_
  have u353_ : T334_ 180 o = q1_ + 1 := (hj334_ 180 (by decide)).trans u326_
  have u354_ : T334_ 181 o = q12_ + 1 := (hj334_ 181 (by decide)).trans u327_
  have u355_ : T334_ 182 o = q32_ + 1 := (hj334_ 182 (by decide)).trans u328_
  have u356_ : T334_ 183 o = q61_ + 1 := (hj334_ 183 (by decide)).trans u329_
  have u357_ : T334_ 184 o = q99_ + 1 := (hj334_ 184 (by decide)).trans u330_
  have u358_ : T334_ 185 o = q131_ + 1 := (hj334_ 185 (by decide)).trans u331_
  have u359_ : T334_ 192 o = q175_ + 1 := (hj334_ 192 (by decide)).trans u332_
  have u360_ : T334_ 193 o = q239_ + 1 := (hj334_ 193 (by decide)).trans u333_
  refine j_aload_n E 126 rfl dX9_init_125 rfl (lv_at hl 0 rfl) ?_
  refine j_bipush E 128 rfl dX9_init_126 (by decide) ?_
  have hw0_ := hw
  refine n_arr20 E hK hw hA 32 (by decide) (by decide) (Nat.le_of_ble_eq_true rfl) (Nat.le_of_ble_eq_true rfl) 130 rfl dX9_init_128 (fun q361_ T361_ H hge361_ hx361_ ho361_ tq361_ tl361_ hw => ?_)
  have fq361_ : s.heap.size ≤ q361_ := Nat.le_trans hw0_.2.2.1 hge361_
  have hT361_ : WT T361_ := hw.1.2.1
  have hO361_ : ∀ x, ow T361_ x → κ 2 2 ≤ x := fun x h => hAc x (hw.2.1 x h)
  have hoT_ : OW T T361_ s.heap.size := OW.tr hw0_.2.2.1 hoT_ ho361_
  have hR_ : ∀ b, b < sz → b ≠ o → ∀ k, T361_ k b = T k b := fun b_ h1_ h2_ k_ => (hx361_ b_ (by have := hw0_.2.2.1; have := hge361_; omega) k_).trans (hR_ b_ h1_ h2_ k_)
  have u362_ : T361_ 0 o = 109 := (hx361_ o (Nat.ne_of_lt (Nat.lt_of_lt_of_le (cw_lt hw0_.1 u335_ (fun _ _ _ => ⟨_, rfl⟩)) hge361_)) 0).trans u335_
  have u363_ : T361_ 0 (κ 2 0) = 26 := (hx361_ (κ 2 0) (Nat.ne_of_lt (Nat.lt_of_lt_of_le (cw_lt hw0_.1 u336_ (fun _ _ _ => ⟨_, rfl⟩)) hge361_)) 0).trans u336_
  have u364_ : T361_ 0 q1_ = 10 := (hx361_ q1_ (Nat.ne_of_lt (Nat.lt_of_lt_of_le (cw_lt hw0_.1 u337_ (fun _ _ _ => ⟨_, rfl⟩)) hge361_)) 0).trans u337_
  have u365_ : T361_ 0 q12_ = 10 := (hx361_ q12_ (Nat.ne_of_lt (Nat.lt_of_lt_of_le (cw_lt hw0_.1 u338_ (fun _ _ _ => ⟨_, rfl⟩)) hge361_)) 0).trans u338_
  have u366_ : T361_ 0 q32_ = 10 := (hx361_ q32_ (Nat.ne_of_lt (Nat.lt_of_lt_of_le (cw_lt hw0_.1 u339_ (fun _ _ _ => ⟨_, rfl⟩)) hge361_)) 0).trans u339_
  have u367_ : T361_ 0 q61_ = 10 := (hx361_ q61_ (Nat.ne_of_lt (Nat.lt_of_lt_of_le (cw_lt hw0_.1 u340_ (fun _ _ _ => ⟨_, rfl⟩)) hge361_)) 0).trans u340_
  have u368_ : T361_ 0 q99_ = 21 := (hx361_ q99_ (Nat.ne_of_lt (Nat.lt_of_lt_of_le (cw_lt hw0_.1 u341_ (fun _ _ _ => ⟨_, rfl⟩)) hge361_)) 0).trans u341_
  have u369_ : T361_ 0 q131_ = 23 := (hx361_ q131_ (Nat.ne_of_lt (Nat.lt_of_lt_of_le (cw_lt hw0_.1 u342_ (fun _ _ _ => ⟨_, rfl⟩)) hge361_)) 0).trans u342_
  have u370_ : T361_ 0 q175_ = 4 := (hx361_ q175_ (Nat.ne_of_lt (Nat.lt_of_lt_of_le (cw_lt hw0_.1 u343_ (fun _ _ _ => ⟨_, rfl⟩)) hge361_)) 0).trans u343_
  have u371_ : T361_ 0 q239_ = 5 := (hx361_ q239_ (Nat.ne_of_lt (Nat.lt_of_lt_of_le (cw_lt hw0_.1 u344_ (fun _ _ _ => ⟨_, rfl⟩)) hge361_)) 0).trans u344_
  have u372_ : T361_ 0 q309_ = 20 := (hx361_ q309_ (Nat.ne_of_lt (Nat.lt_of_lt_of_le (cw_lt hw0_.1 u345_ (fun _ _ _ => ⟨_, rfl⟩)) hge361_)) 0).trans u345_
  have u373_ : T361_ 1 q99_ = 8 := (hx361_ q99_ (Nat.ne_of_lt (Nat.lt_of_lt_of_le (cw_lt hw0_.1 u341_ (fun _ _ _ => ⟨_, rfl⟩)) hge361_)) 1).trans u346_
  have u374_ : T361_ 1 q131_ = 400 := (hx361_ q131_ (Nat.ne_of_lt (Nat.lt_of_lt_of_le (cw_lt hw0_.1 u342_ (fun _ _ _ => ⟨_, rfl⟩)) hge361_)) 1).trans u347_
  have u375_ : T361_ 1 q309_ = 32 := (hx361_ q309_ (Nat.ne_of_lt (Nat.lt_of_lt_of_le (cw_lt hw0_.1 u345_ (fun _ _ _ => ⟨_, rfl⟩)) hge361_)) 1).trans u348_
  have u376_ : T361_ 2 q1_ = 2 := (hx361_ q1_ (Nat.ne_of_lt (Nat.lt_of_lt_of_le (cw_lt hw0_.1 u337_ (fun _ _ _ => ⟨_, rfl⟩)) hge361_)) 2).trans u349_
  have u377_ : T361_ 2 q12_ = 1 := (hx361_ q12_ (Nat.ne_of_lt (Nat.lt_of_lt_of_le (cw_lt hw0_.1 u338_ (fun _ _ _ => ⟨_, rfl⟩)) hge361_)) 2).trans u350_
  have u378_ : T361_ 2 q32_ = 8 := (hx361_ q32_ (Nat.ne_of_lt (Nat.lt_of_lt_of_le (cw_lt hw0_.1 u339_ (fun _ _ _ => ⟨_, rfl⟩)) hge361_)) 2).trans u351_
  have u379_ : T361_ 2 q61_ = 7 := (hx361_ q61_ (Nat.ne_of_lt (Nat.lt_of_lt_of_le (cw_lt hw0_.1 u340_ (fun _ _ _ => ⟨_, rfl⟩)) hge361_)) 2).trans u352_
  have u380_ : T361_ 180 o = q1_ + 1 := (hx361_ o (Nat.ne_of_lt (Nat.lt_of_lt_of_le (cw_lt hw0_.1 u335_ (fun _ _ _ => ⟨_, rfl⟩)) hge361_)) 180).trans u353_
  have u381_ : T361_ 181 o = q12_ + 1 := (hx361_ o (Nat.ne_of_lt (Nat.lt_of_lt_of_le (cw_lt hw0_.1 u335_ (fun _ _ _ => ⟨_, rfl⟩)) hge361_)) 181).trans u354_
  have u382_ : T361_ 182 o = q32_ + 1 := (hx361_ o (Nat.ne_of_lt (Nat.lt_of_lt_of_le (cw_lt hw0_.1 u335_ (fun _ _ _ => ⟨_, rfl⟩)) hge361_)) 182).trans u355_
  have u383_ : T361_ 183 o = q61_ + 1 := (hx361_ o (Nat.ne_of_lt (Nat.lt_of_lt_of_le (cw_lt hw0_.1 u335_ (fun _ _ _ => ⟨_, rfl⟩)) hge361_)) 183).trans u356_
  have u384_ : T361_ 184 o = q99_ + 1 := (hx361_ o (Nat.ne_of_lt (Nat.lt_of_lt_of_le (cw_lt hw0_.1 u335_ (fun _ _ _ => ⟨_, rfl⟩)) hge361_)) 184).trans u357_
  have u385_ : T361_ 185 o = q131_ + 1 := (hx361_ o (Nat.ne_of_lt (Nat.lt_of_lt_of_le (cw_lt hw0_.1 u335_ (fun _ _ _ => ⟨_, rfl⟩)) hge361_)) 185).trans u358_
  have u386_ : T361_ 192 o = q175_ + 1 := (hx361_ o (Nat.ne_of_lt (Nat.lt_of_lt_of_le (cw_lt hw0_.1 u335_ (fun _ _ _ => ⟨_, rfl⟩)) hge361_)) 192).trans u359_
  have u387_ : T361_ 193 o = q239_ + 1 := (hx361_ o (Nat.ne_of_lt (Nat.lt_of_lt_of_le (cw_lt hw0_.1 u335_ (fun _ _ _ => ⟨_, rfl⟩)) hge361_)) 193).trans u360_
  have u388_ : T361_ 194 o = q309_ + 1 := (hx361_ o (Nat.ne_of_lt (Nat.lt_of_lt_of_le (cw_lt hw0_.1 u335_ (fun _ _ _ => ⟨_, rfl⟩)) hge361_)) 194).trans hk334_
  have hw0_ := hw
  refine rr_195 E hK hw hnm fl_X9_70 u362_ 133 rfl dX9_init_130 (fun T389_ H locs hx389_ hj389_ hk389_ ho389_ hw => ?_)
  have hT389_ : WT T389_ := hw.1.2.1
  have hO389_ : ∀ x, ow T389_ x → κ 2 2 ≤ x := fun x h => hAc x (hw.2.1 x h)
  have hoT_ : OW T T389_ s.heap.size := OW.tr0 hoT_ ho389_
  have hR_ : ∀ b, b < sz → b ≠ o → ∀ k, T389_ k b = T k b := fun b_ h1_ h2_ k_ => (hx389_ b_ h2_ k_).trans (hR_ b_ h1_ h2_ k_)
  have u390_ : T389_ 0 o = 109 := (hj389_ 0 (by decide)).trans u362_
  have u391_ : T389_ 0 (κ 2 0) = 26 := (hx389_ (κ 2 0) (ty_ne u363_ u362_ (by decide)) 0).trans u363_
  have u392_ : T389_ 0 q1_ = 10 := (hx389_ q1_ (ty_ne u364_ u362_ (by decide)) 0).trans u364_
  have u393_ : T389_ 0 q12_ = 10 := (hx389_ q12_ (ty_ne u365_ u362_ (by decide)) 0).trans u365_
  have u394_ : T389_ 0 q32_ = 10 := (hx389_ q32_ (ty_ne u366_ u362_ (by decide)) 0).trans u366_
  have u395_ : T389_ 0 q61_ = 10 := (hx389_ q61_ (ty_ne u367_ u362_ (by decide)) 0).trans u367_
  have u396_ : T389_ 0 q99_ = 21 := (hx389_ q99_ (ty_ne u368_ u362_ (by decide)) 0).trans u368_
  have u397_ : T389_ 0 q131_ = 23 := (hx389_ q131_ (ty_ne u369_ u362_ (by decide)) 0).trans u369_
  have u398_ : T389_ 0 q175_ = 4 := (hx389_ q175_ (ty_ne u370_ u362_ (by decide)) 0).trans u370_
  have u399_ : T389_ 0 q239_ = 5 := (hx389_ q239_ (ty_ne u371_ u362_ (by decide)) 0).trans u371_
  have u400_ : T389_ 0 q309_ = 20 := (hx389_ q309_ (ty_ne u372_ u362_ (by decide)) 0).trans u372_
  have u401_ : T389_ 0 q361_ = 20 := (hx389_ q361_ (ty_ne tq361_ u362_ (by decide)) 0).trans tq361_
  have u402_ : T389_ 1 q99_ = 8 := (hx389_ q99_ (ty_ne u368_ u362_ (by decide)) 1).trans u373_
  have u403_ : T389_ 1 q131_ = 400 := (hx389_ q131_ (ty_ne u369_ u362_ (by decide)) 1).trans u374_
  have u404_ : T389_ 1 q309_ = 32 := (hx389_ q309_ (ty_ne u372_ u362_ (by decide)) 1).trans u375_
  have u405_ : T389_ 1 q361_ = 32 := (hx389_ q361_ (ty_ne tq361_ u362_ (by decide)) 1).trans tl361_
  have u406_ : T389_ 2 q1_ = 2 := (hx389_ q1_ (ty_ne u364_ u362_ (by decide)) 2).trans u376_
  have u407_ : T389_ 2 q12_ = 1 := (hx389_ q12_ (ty_ne u365_ u362_ (by decide)) 2).trans u377_
  have u408_ : T389_ 2 q32_ = 8 := (hx389_ q32_ (ty_ne u366_ u362_ (by decide)) 2).trans u378_
  have u409_ : T389_ 2 q61_ = 7 := (hx389_ q61_ (ty_ne u367_ u362_ (by decide)) 2).trans u379_
  have u410_ : T389_ 180 o = q1_ + 1 := (hj389_ 180 (by decide)).trans u380_
  have u411_ : T389_ 181 o = q12_ + 1 := (hj389_ 181 (by decide)).trans u381_
  have u412_ : T389_ 182 o = q32_ + 1 := (hj389_ 182 (by decide)).trans u382_
  have u413_ : T389_ 183 o = q61_ + 1 := (hj389_ 183 (by decide)).trans u383_
  have u414_ : T389_ 184 o = q99_ + 1 := (hj389_ 184 (by decide)).trans u384_
  have u415_ : T389_ 185 o = q131_ + 1 := (hj389_ 185 (by decide)).trans u385_
  have u416_ : T389_ 192 o = q175_ + 1 := (hj389_ 192 (by decide)).trans u386_
  have u417_ : T389_ 193 o = q239_ + 1 := (hj389_ 193 (by decide)).trans u387_
  have u418_ : T389_ 194 o = q309_ + 1 := (hj389_ 194 (by decide)).trans u388_
  refine j_aload_n E 134 rfl dX9_init_133 rfl (lv_at hl 0 rfl) ?_
  refine j_sipush E 137 rfl dX9_init_134 (by decide) ?_
  have hw0_ := hw
  refine n_arr20 E hK hw hA 401 (by decide) (by decide) (Nat.le_of_ble_eq_true rfl) (Nat.le_of_ble_eq_true rfl) 139 rfl dX9_init_137 (fun q419_ T419_ H hge419_ hx419_ ho419_ tq419_ tl419_ hw => ?_)
  have fq419_ : s.heap.size ≤ q419_ := Nat.le_trans hw0_.2.2.1 hge419_
  have hT419_ : WT T419_ := hw.1.2.1
  have hO419_ : ∀ x, ow T419_ x → κ 2 2 ≤ x := fun x h => hAc x (hw.2.1 x h)
  have hoT_ : OW T T419_ s.heap.size := OW.tr hw0_.2.2.1 hoT_ ho419_
  have hR_ : ∀ b, b < sz → b ≠ o → ∀ k, T419_ k b = T k b := fun b_ h1_ h2_ k_ => (hx419_ b_ (by have := hw0_.2.2.1; have := hge419_; omega) k_).trans (hR_ b_ h1_ h2_ k_)
  have u420_ : T419_ 0 o = 109 := (hx419_ o (Nat.ne_of_lt (Nat.lt_of_lt_of_le (cw_lt hw0_.1 u390_ (fun _ _ _ => ⟨_, rfl⟩)) hge419_)) 0).trans u390_
  have u421_ : T419_ 0 (κ 2 0) = 26 := (hx419_ (κ 2 0) (Nat.ne_of_lt (Nat.lt_of_lt_of_le (cw_lt hw0_.1 u391_ (fun _ _ _ => ⟨_, rfl⟩)) hge419_)) 0).trans u391_
  have u422_ : T419_ 0 q1_ = 10 := (hx419_ q1_ (Nat.ne_of_lt (Nat.lt_of_lt_of_le (cw_lt hw0_.1 u392_ (fun _ _ _ => ⟨_, rfl⟩)) hge419_)) 0).trans u392_
  have u423_ : T419_ 0 q12_ = 10 := (hx419_ q12_ (Nat.ne_of_lt (Nat.lt_of_lt_of_le (cw_lt hw0_.1 u393_ (fun _ _ _ => ⟨_, rfl⟩)) hge419_)) 0).trans u393_
  have u424_ : T419_ 0 q32_ = 10 := (hx419_ q32_ (Nat.ne_of_lt (Nat.lt_of_lt_of_le (cw_lt hw0_.1 u394_ (fun _ _ _ => ⟨_, rfl⟩)) hge419_)) 0).trans u394_
  have u425_ : T419_ 0 q61_ = 10 := (hx419_ q61_ (Nat.ne_of_lt (Nat.lt_of_lt_of_le (cw_lt hw0_.1 u395_ (fun _ _ _ => ⟨_, rfl⟩)) hge419_)) 0).trans u395_
  have u426_ : T419_ 0 q99_ = 21 := (hx419_ q99_ (Nat.ne_of_lt (Nat.lt_of_lt_of_le (cw_lt hw0_.1 u396_ (fun _ _ _ => ⟨_, rfl⟩)) hge419_)) 0).trans u396_
  have u427_ : T419_ 0 q131_ = 23 := (hx419_ q131_ (Nat.ne_of_lt (Nat.lt_of_lt_of_le (cw_lt hw0_.1 u397_ (fun _ _ _ => ⟨_, rfl⟩)) hge419_)) 0).trans u397_
  have u428_ : T419_ 0 q175_ = 4 := (hx419_ q175_ (Nat.ne_of_lt (Nat.lt_of_lt_of_le (cw_lt hw0_.1 u398_ (fun _ _ _ => ⟨_, rfl⟩)) hge419_)) 0).trans u398_
  have u429_ : T419_ 0 q239_ = 5 := (hx419_ q239_ (Nat.ne_of_lt (Nat.lt_of_lt_of_le (cw_lt hw0_.1 u399_ (fun _ _ _ => ⟨_, rfl⟩)) hge419_)) 0).trans u399_
  have u430_ : T419_ 0 q309_ = 20 := (hx419_ q309_ (Nat.ne_of_lt (Nat.lt_of_lt_of_le (cw_lt hw0_.1 u400_ (fun _ _ _ => ⟨_, rfl⟩)) hge419_)) 0).trans u400_
  have u431_ : T419_ 0 q361_ = 20 := (hx419_ q361_ (Nat.ne_of_lt (Nat.lt_of_lt_of_le (cw_lt hw0_.1 u401_ (fun _ _ _ => ⟨_, rfl⟩)) hge419_)) 0).trans u401_
  have u432_ : T419_ 1 q99_ = 8 := (hx419_ q99_ (Nat.ne_of_lt (Nat.lt_of_lt_of_le (cw_lt hw0_.1 u396_ (fun _ _ _ => ⟨_, rfl⟩)) hge419_)) 1).trans u402_
  have u433_ : T419_ 1 q131_ = 400 := (hx419_ q131_ (Nat.ne_of_lt (Nat.lt_of_lt_of_le (cw_lt hw0_.1 u397_ (fun _ _ _ => ⟨_, rfl⟩)) hge419_)) 1).trans u403_
  have u434_ : T419_ 1 q309_ = 32 := (hx419_ q309_ (Nat.ne_of_lt (Nat.lt_of_lt_of_le (cw_lt hw0_.1 u400_ (fun _ _ _ => ⟨_, rfl⟩)) hge419_)) 1).trans u404_
  have u435_ : T419_ 1 q361_ = 32 := (hx419_ q361_ (Nat.ne_of_lt (Nat.lt_of_lt_of_le (cw_lt hw0_.1 u401_ (fun _ _ _ => ⟨_, rfl⟩)) hge419_)) 1).trans u405_
  have u436_ : T419_ 2 q1_ = 2 := (hx419_ q1_ (Nat.ne_of_lt (Nat.lt_of_lt_of_le (cw_lt hw0_.1 u392_ (fun _ _ _ => ⟨_, rfl⟩)) hge419_)) 2).trans u406_
  have u437_ : T419_ 2 q12_ = 1 := (hx419_ q12_ (Nat.ne_of_lt (Nat.lt_of_lt_of_le (cw_lt hw0_.1 u393_ (fun _ _ _ => ⟨_, rfl⟩)) hge419_)) 2).trans u407_
  have u438_ : T419_ 2 q32_ = 8 := (hx419_ q32_ (Nat.ne_of_lt (Nat.lt_of_lt_of_le (cw_lt hw0_.1 u394_ (fun _ _ _ => ⟨_, rfl⟩)) hge419_)) 2).trans u408_
  have u439_ : T419_ 2 q61_ = 7 := (hx419_ q61_ (Nat.ne_of_lt (Nat.lt_of_lt_of_le (cw_lt hw0_.1 u395_ (fun _ _ _ => ⟨_, rfl⟩)) hge419_)) 2).trans u409_
  have u440_ : T419_ 180 o = q1_ + 1 := (hx419_ o (Nat.ne_of_lt (Nat.lt_of_lt_of_le (cw_lt hw0_.1 u390_ (fun _ _ _ => ⟨_, rfl⟩)) hge419_)) 180).trans u410_
  have u441_ : T419_ 181 o = q12_ + 1 := (hx419_ o (Nat.ne_of_lt (Nat.lt_of_lt_of_le (cw_lt hw0_.1 u390_ (fun _ _ _ => ⟨_, rfl⟩)) hge419_)) 181).trans u411_
  have u442_ : T419_ 182 o = q32_ + 1 := (hx419_ o (Nat.ne_of_lt (Nat.lt_of_lt_of_le (cw_lt hw0_.1 u390_ (fun _ _ _ => ⟨_, rfl⟩)) hge419_)) 182).trans u412_
  have u443_ : T419_ 183 o = q61_ + 1 := (hx419_ o (Nat.ne_of_lt (Nat.lt_of_lt_of_le (cw_lt hw0_.1 u390_ (fun _ _ _ => ⟨_, rfl⟩)) hge419_)) 183).trans u413_
  have u444_ : T419_ 184 o = q99_ + 1 := (hx419_ o (Nat.ne_of_lt (Nat.lt_of_lt_of_le (cw_lt hw0_.1 u390_ (fun _ _ _ => ⟨_, rfl⟩)) hge419_)) 184).trans u414_
  have u445_ : T419_ 185 o = q131_ + 1 := (hx419_ o (Nat.ne_of_lt (Nat.lt_of_lt_of_le (cw_lt hw0_.1 u390_ (fun _ _ _ => ⟨_, rfl⟩)) hge419_)) 185).trans u415_
  have u446_ : T419_ 192 o = q175_ + 1 := (hx419_ o (Nat.ne_of_lt (Nat.lt_of_lt_of_le (cw_lt hw0_.1 u390_ (fun _ _ _ => ⟨_, rfl⟩)) hge419_)) 192).trans u416_
  have u447_ : T419_ 193 o = q239_ + 1 := (hx419_ o (Nat.ne_of_lt (Nat.lt_of_lt_of_le (cw_lt hw0_.1 u390_ (fun _ _ _ => ⟨_, rfl⟩)) hge419_)) 193).trans u417_
  have u448_ : T419_ 194 o = q309_ + 1 := (hx419_ o (Nat.ne_of_lt (Nat.lt_of_lt_of_le (cw_lt hw0_.1 u390_ (fun _ _ _ => ⟨_, rfl⟩)) hge419_)) 194).trans u418_
  have u449_ : T419_ 195 o = q361_ + 1 := (hx419_ o (Nat.ne_of_lt (Nat.lt_of_lt_of_le (cw_lt hw0_.1 u390_ (fun _ _ _ => ⟨_, rfl⟩)) hge419_)) 195).trans hk389_
  have hw0_ := hw
  refine rr_196 E hK hw hnm fl_X9_73 u420_ 142 rfl dX9_init_139 (fun T450_ H locs hx450_ hj450_ hk450_ ho450_ hw => ?_)
  have hT450_ : WT T450_ := hw.1.2.1
  have hO450_ : ∀ x, ow T450_ x → κ 2 2 ≤ x := fun x h => hAc x (hw.2.1 x h)
  have hoT_ : OW T T450_ s.heap.size := OW.tr0 hoT_ ho450_
  have hR_ : ∀ b, b < sz → b ≠ o → ∀ k, T450_ k b = T k b := fun b_ h1_ h2_ k_ => (hx450_ b_ h2_ k_).trans (hR_ b_ h1_ h2_ k_)
  have u451_ : T450_ 0 o = 109 := (hj450_ 0 (by decide)).trans u420_
  have u452_ : T450_ 0 (κ 2 0) = 26 := (hx450_ (κ 2 0) (ty_ne u421_ u420_ (by decide)) 0).trans u421_
  have u453_ : T450_ 0 q1_ = 10 := (hx450_ q1_ (ty_ne u422_ u420_ (by decide)) 0).trans u422_
  have u454_ : T450_ 0 q12_ = 10 := (hx450_ q12_ (ty_ne u423_ u420_ (by decide)) 0).trans u423_
  have u455_ : T450_ 0 q32_ = 10 := (hx450_ q32_ (ty_ne u424_ u420_ (by decide)) 0).trans u424_
  have u456_ : T450_ 0 q61_ = 10 := (hx450_ q61_ (ty_ne u425_ u420_ (by decide)) 0).trans u425_
  have u457_ : T450_ 0 q99_ = 21 := (hx450_ q99_ (ty_ne u426_ u420_ (by decide)) 0).trans u426_
  have u458_ : T450_ 0 q131_ = 23 := (hx450_ q131_ (ty_ne u427_ u420_ (by decide)) 0).trans u427_
  have u459_ : T450_ 0 q175_ = 4 := (hx450_ q175_ (ty_ne u428_ u420_ (by decide)) 0).trans u428_
  have u460_ : T450_ 0 q239_ = 5 := (hx450_ q239_ (ty_ne u429_ u420_ (by decide)) 0).trans u429_
  have u461_ : T450_ 0 q309_ = 20 := (hx450_ q309_ (ty_ne u430_ u420_ (by decide)) 0).trans u430_
  have u462_ : T450_ 0 q361_ = 20 := (hx450_ q361_ (ty_ne u431_ u420_ (by decide)) 0).trans u431_
  have u463_ : T450_ 0 q419_ = 20 := (hx450_ q419_ (ty_ne tq419_ u420_ (by decide)) 0).trans tq419_
  have u464_ : T450_ 1 q99_ = 8 := (hx450_ q99_ (ty_ne u426_ u420_ (by decide)) 1).trans u432_
  have u465_ : T450_ 1 q131_ = 400 := (hx450_ q131_ (ty_ne u427_ u420_ (by decide)) 1).trans u433_
  have u466_ : T450_ 1 q309_ = 32 := (hx450_ q309_ (ty_ne u430_ u420_ (by decide)) 1).trans u434_
  have u467_ : T450_ 1 q361_ = 32 := (hx450_ q361_ (ty_ne u431_ u420_ (by decide)) 1).trans u435_
  have u468_ : T450_ 1 q419_ = 401 := (hx450_ q419_ (ty_ne tq419_ u420_ (by decide)) 1).trans tl419_
  have u469_ : T450_ 2 q1_ = 2 := (hx450_ q1_ (ty_ne u422_ u420_ (by decide)) 2).trans u436_
  have u470_ : T450_ 2 q12_ = 1 := (hx450_ q12_ (ty_ne u423_ u420_ (by decide)) 2).trans u437_
  have u471_ : T450_ 2 q32_ = 8 := (hx450_ q32_ (ty_ne u424_ u420_ (by decide)) 2).trans u438_
  have u472_ : T450_ 2 q61_ = 7 := (hx450_ q61_ (ty_ne u425_ u420_ (by decide)) 2).trans u439_
  have u473_ : T450_ 180 o = q1_ + 1 := (hj450_ 180 (by decide)).trans u440_
  have u474_ : T450_ 181 o = q12_ + 1 := (hj450_ 181 (by decide)).trans u441_
  have u475_ : T450_ 182 o = q32_ + 1 := (hj450_ 182 (by decide)).trans u442_
  have u476_ : T450_ 183 o = q61_ + 1 := (hj450_ 183 (by decide)).trans u443_
  have u477_ : T450_ 184 o = q99_ + 1 := (hj450_ 184 (by decide)).trans u444_
  have u478_ : T450_ 185 o = q131_ + 1 := (hj450_ 185 (by decide)).trans u445_
  have u479_ : T450_ 192 o = q175_ + 1 := (hj450_ 192 (by decide)).trans u446_
  have u480_ : T450_ 193 o = q239_ + 1 := (hj450_ 193 (by decide)).trans u447_
  have u481_ : T450_ 194 o = q309_ + 1 := (hj450_ 194 (by decide)).trans u448_
  have u482_ : T450_ 195 o = q361_ + 1 := (hj450_ 195 (by decide)).trans u449_
  refine j_aload_n E 143 rfl dX9_init_142 rfl (lv_at hl 0 rfl) ?_
  refine j_null E 144 rfl dX9_init_143 ?_
  have hw0_ := hw
  refine rn_197 E hK hw fl_X9_76 u451_ 147 rfl dX9_init_144 (fun T483_ H locs hx483_ hj483_ hk483_ ho483_ hw => ?_)
  have hT483_ : WT T483_ := hw.1.2.1
  have hO483_ : ∀ x, ow T483_ x → κ 2 2 ≤ x := fun x h => hAc x (hw.2.1 x h)
  have hoT_ : OW T T483_ s.heap.size := OW.tr0 hoT_ ho483_
  have hR_ : ∀ b, b < sz → b ≠ o → ∀ k, T483_ k b = T k b := fun b_ h1_ h2_ k_ => (hx483_ b_ h2_ k_).trans (hR_ b_ h1_ h2_ k_)
  have u484_ : T483_ 0 o = 109 := (hj483_ 0 (by decide)).trans u451_
  have u485_ : T483_ 0 (κ 2 0) = 26 := (hx483_ (κ 2 0) (ty_ne u452_ u451_ (by decide)) 0).trans u452_
  have u486_ : T483_ 0 q1_ = 10 := (hx483_ q1_ (ty_ne u453_ u451_ (by decide)) 0).trans u453_
  have u487_ : T483_ 0 q12_ = 10 := (hx483_ q12_ (ty_ne u454_ u451_ (by decide)) 0).trans u454_
  have u488_ : T483_ 0 q32_ = 10 := (hx483_ q32_ (ty_ne u455_ u451_ (by decide)) 0).trans u455_
  have u489_ : T483_ 0 q61_ = 10 := (hx483_ q61_ (ty_ne u456_ u451_ (by decide)) 0).trans u456_
  have u490_ : T483_ 0 q99_ = 21 := (hx483_ q99_ (ty_ne u457_ u451_ (by decide)) 0).trans u457_
  have u491_ : T483_ 0 q131_ = 23 := (hx483_ q131_ (ty_ne u458_ u451_ (by decide)) 0).trans u458_
  have u492_ : T483_ 0 q175_ = 4 := (hx483_ q175_ (ty_ne u459_ u451_ (by decide)) 0).trans u459_
  have u493_ : T483_ 0 q239_ = 5 := (hx483_ q239_ (ty_ne u460_ u451_ (by decide)) 0).trans u460_
  have u494_ : T483_ 0 q309_ = 20 := (hx483_ q309_ (ty_ne u461_ u451_ (by decide)) 0).trans u461_
  have u495_ : T483_ 0 q361_ = 20 := (hx483_ q361_ (ty_ne u462_ u451_ (by decide)) 0).trans u462_
  have u496_ : T483_ 0 q419_ = 20 := (hx483_ q419_ (ty_ne u463_ u451_ (by decide)) 0).trans u463_
  have u497_ : T483_ 1 q99_ = 8 := (hx483_ q99_ (ty_ne u457_ u451_ (by decide)) 1).trans u464_
  have u498_ : T483_ 1 q131_ = 400 := (hx483_ q131_ (ty_ne u458_ u451_ (by decide)) 1).trans u465_
  have u499_ : T483_ 1 q309_ = 32 := (hx483_ q309_ (ty_ne u461_ u451_ (by decide)) 1).trans u466_
  have u500_ : T483_ 1 q361_ = 32 := (hx483_ q361_ (ty_ne u462_ u451_ (by decide)) 1).trans u467_
  have u501_ : T483_ 1 q419_ = 401 := (hx483_ q419_ (ty_ne u463_ u451_ (by decide)) 1).trans u468_
  have u502_ : T483_ 2 q1_ = 2 := (hx483_ q1_ (ty_ne u453_ u451_ (by decide)) 2).trans u469_
  have u503_ : T483_ 2 q12_ = 1 := (hx483_ q12_ (ty_ne u454_ u451_ (by decide)) 2).trans u470_
  have u504_ : T483_ 2 q32_ = 8 := (hx483_ q32_ (ty_ne u455_ u451_ (by decide)) 2).trans u471_
  have u505_ : T483_ 2 q61_ = 7 := (hx483_ q61_ (ty_ne u456_ u451_ (by decide)) 2).trans u472_
  have u506_ : T483_ 180 o = q1_ + 1 := (hj483_ 180 (by decide)).trans u473_
  have u507_ : T483_ 181 o = q12_ + 1 := (hj483_ 181 (by decide)).trans u474_
  have u508_ : T483_ 182 o = q32_ + 1 := (hj483_ 182 (by decide)).trans u475_
  have u509_ : T483_ 183 o = q61_ + 1 := (hj483_ 183 (by decide)).trans u476_
  have u510_ : T483_ 184 o = q99_ + 1 := (hj483_ 184 (by decide)).trans u477_
  have u511_ : T483_ 185 o = q131_ + 1 := (hj483_ 185 (by decide)).trans u478_
  have u512_ : T483_ 192 o = q175_ + 1 := (hj483_ 192 (by decide)).trans u479_
  have u513_ : T483_ 193 o = q239_ + 1 := (hj483_ 193 (by decide)).trans u480_
  have u514_ : T483_ 194 o = q309_ + 1 := (hj483_ 194 (by decide)).trans u481_
  have u515_ : T483_ 195 o = q361_ + 1 := (hj483_ 195 (by decide)).trans u482_
  have u516_ : T483_ 196 o = q419_ + 1 := (hj483_ 196 (by decide)).trans hk450_
  have hw0_ := hw
  obtain ⟨T517_, hx517_, tq517_, xe517_180_, xe517_181_, xe517_182_, xe517_183_, xe517_184_, xe517_185_, xe517_192_, xe517_193_, xe517_194_, xe517_195_, xe517_196_, ho517_, hw⟩ := pm_9 hw u484_ u506_ u486_ u502_ u507_ u487_ u503_ u508_ u488_ u504_ u509_ u489_ u505_ u510_ u490_ u497_ u511_ u491_ u498_ u512_ u492_ u513_ u493_ u514_ u494_ u499_ u515_ u495_ u500_ u516_ u496_ u501_ hk483_
  have hT517_ : WT T517_ := hw.1.2.1
  have hO517_ : ∀ x, ow T517_ x → κ 2 2 ≤ x := fun x h => hAc x (hw.2.1 x h)
  have hoT_ : OW T T517_ s.heap.size := OW.tr0 hoT_ ho517_
  have hR_ : ∀ b, b < sz → b ≠ o → ∀ k, T517_ k b = T k b := fun b_ h1_ h2_ k_ => (hx517_ b_ h2_ k_).trans (hR_ b_ h1_ h2_ k_)
  have u518_ : T517_ 0 (κ 2 0) = 26 := (hx517_ (κ 2 0) (ty_ne u485_ u484_ (by decide)) 0).trans u485_
  exact hret 147 T517_ _ _ _ ls _ _ hw hoT_ (⟨hR_, tq517_, upB_same _ _ _, upB_same _ _ _, (by rw [xe517_180_]; show upB (upB (upB (upB (v_0 202) q1_ 0) q12_ 0) q32_ 0) q61_ 0 q1_ = 0; unfold upB; (repeat' split) <;> first | rfl | omega), (by rw [xe517_181_]; show upB (upB (upB (upB (v_0 202) q1_ 0) q12_ 0) q32_ 0) q61_ 0 q12_ = 0; unfold upB; (repeat' split) <;> first | rfl | omega), (by rw [xe517_182_]; show upB (upB (upB (upB (v_0 202) q1_ 0) q12_ 0) q32_ 0) q61_ 0 q32_ = 0; unfold upB; (repeat' split) <;> first | rfl | omega), (by rw [xe517_183_]; show upB (upB (upB (upB (v_0 202) q1_ 0) q12_ 0) q32_ 0) q61_ 0 q61_ = 0; unfold upB; (repeat' split) <;> first | rfl | omega)⟩) (Nat.le_of_ble_eq_true rfl) (Nat.le_of_ble_eq_true rfl) dX9_init_147
