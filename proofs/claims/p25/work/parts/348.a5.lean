theorem wpl_ {T : Nat → Nat → Nat} (h : WT T) {a x : Nat} (ha : T 0 a = 9) (hx : dcd (T 197 a) = some x) : T 0 x = 3 := (wt9 h ha).2.2.2.2.2.2.2.2.2.2.2.2.2.2.2.2.2.2.2.2 x hx
set_option maxHeartbeats 4000000 in
set_option maxRecDepth 100000 in
theorem n_X9_plan (l : Launch) (D : va_G) (cy : Nat → ClassId) (κ T : Nat → Nat → Nat) (v_0 : Nat → Nat → Int) (o : Nat) (v_s : Int) (v_m : Int) (v_w : Int) (sz : Nat) (hO : ∀ x, ow T x → κ 2 2 ≤ x) (t_o : T 0 o = 9) (r_v_s : inR v_s) (r_v_m : inR v_m) (r_v_w : inR v_w) (hp0 : ∀ x, T 0 x = 26 → x = κ 2 0) : KA l D cy κ T yX9_plan cX9_plan 7 (some .int) 5 5 6600 [.ref o, .int (J v_s), .int (J v_m), .int (J v_w)] v_0 sz (AI (fun (z_0 : Int) (T_2 : Nat → Nat → Nat) (v_2 : Nat → Nat → Int) => ∃ (y64_2 : Nat → Int) (y65_2 : Nat → Int) (y66_2 : Nat → Int) , v_2 = upV (upV (upV v_0 64 y64_2) 65 y65_2) 66 y66_2 ∧ (T_2 0 o = 9))) := by
  refine KA.ofi (by decide) (Nat.le_of_ble_eq_true rfl) hO ?_
  intro p e s m below meth c ls ar QW A0 H locs E hK hZ hA hAc hsz hnm hw hlo_ hl hret
  have hl : lv_has ls 7 [(0, .ref o), (1, .int (J v_s)), (2, .int (J v_m)), (3, .int (J v_w))] := hl
  have hT : WT T := hw.1.2.1
  have hoT_ : OW T T s.heap.size := OW.rf T _
  refine j_aload_n E 1 rfl dX9_plan_0 rfl (lv_at hl 0 rfl) ?_
  refine j_iload_n E 2 rfl dX9_plan_1 rfl (lv_at hl 1 rfl) ?_
  refine kV_i E (c_X9_areLines l D cy T (v_0) o v_s  t_o r_v_s ) mt_X9_areLines ml_X9_371 hK hw (cw_rc9 hK hw.1 t_o) hA ⟨Nat.le_of_ble_eq_true rfl, Nat.le_of_ble_eq_true rfl⟩ ⟨Nat.le_of_ble_eq_true rfl, Nat.le_of_ble_eq_true rfl⟩ (As := [.int (J v_s)]) (rest := []) rfl rfl hl.1 (Nat.le_of_ble_eq_true rfl) 5 rfl dX9_plan_2 (fun zz1_ v_1 H locs rr1_ hq1_ hw => ?_)
  obtain ⟨ev1_, hh1_⟩ := hq1_
  rw [ev1_] at hw; clear ev1_
  refine j_if_eq E 8 26 rfl rr1_ dX9_plan_5 (by decide) (fun cc2_ => ?_) (fun cc2_ => ?_)
  · refine j_iconst E 27 rfl dX9_plan_26 ?_
    exact hret 27 ((-1)) T (upV (upV (upV v_0 64 (v_0 64)) 65 (v_0 65)) 66 (v_0 66)) _ _ ls _ _ (cw_eq hw (by first | rfl | (funext j_; simp only [upV, reduceIte]; (repeat' split) <;> first | rfl | omega | (subst_vars; rfl)))) hoT_ (rr (by decide)) ⟨(v_0 64), (v_0 65), (v_0 66), rfl, t_o⟩ (Nat.le_of_ble_eq_true rfl) (Nat.le_of_ble_eq_true rfl) dX9_plan_27
  · refine j_iload_n E 9 rfl dX9_plan_8 rfl (lv_at hl 1 rfl) ?_
    refine kS_i E (c_J6_bitCount_0f7a4 l D cy T (v_0) v_s   r_v_s ) ms_J6_bitCount_0f7a4 ml_X9_218 hK hw hA ⟨Nat.le_of_ble_eq_true rfl, Nat.le_of_ble_eq_true rfl⟩ ⟨Nat.le_of_ble_eq_true rfl, Nat.le_of_ble_eq_true rfl⟩ (As := [.int (J v_s)]) (rest := []) rfl rfl hl.1 (Nat.le_of_ble_eq_true rfl) 12 rfl dX9_plan_9 (fun zz3_ v_3 H locs rr3_ hq3_ hw => ?_)
    obtain ⟨ev3_, hh3_⟩ := hq3_
    rw [ev3_] at hw; clear ev3_
    refine j_iconst E 13 rfl dX9_plan_12 ?_
    refine j_icmp_gt E 16 26 rfl rr3_ (rr (by decide)) dX9_plan_13 (by decide) (fun cc4_ => ?_) (fun cc4_ => ?_)
    · refine j_iconst E 27 rfl dX9_plan_26 ?_
      exact hret 27 ((-1)) T (upV (upV (upV v_0 64 (v_0 64)) 65 (v_0 65)) 66 (v_0 66)) _ _ ls _ _ (cw_eq hw (by first | rfl | (funext j_; simp only [upV, reduceIte]; (repeat' split) <;> first | rfl | omega | (subst_vars; rfl)))) hoT_ (rr (by decide)) ⟨(v_0 64), (v_0 65), (v_0 66), rfl, t_o⟩ (Nat.le_of_ble_eq_true rfl) (Nat.le_of_ble_eq_true rfl) dX9_plan_27
    · refine j_iload_n E 17 rfl dX9_plan_16 rfl (lv_at hl 2 rfl) ?_
      refine j_iconst E 18 rfl dX9_plan_17 ?_
      refine j_icmp_lt E 21 26 rfl r_v_m (rr (by decide)) dX9_plan_18 (by decide) (fun cc5_ => ?_) (fun cc5_ => ?_)
      · refine j_iconst E 27 rfl dX9_plan_26 ?_
        exact hret 27 ((-1)) T (upV (upV (upV v_0 64 (v_0 64)) 65 (v_0 65)) 66 (v_0 66)) _ _ ls _ _ (cw_eq hw (by first | rfl | (funext j_; simp only [upV, reduceIte]; (repeat' split) <;> first | rfl | omega | (subst_vars; rfl)))) hoT_ (rr (by decide)) ⟨(v_0 64), (v_0 65), (v_0 66), rfl, t_o⟩ (Nat.le_of_ble_eq_true rfl) (Nat.le_of_ble_eq_true rfl) dX9_plan_27
      · refine j_iload_n E 22 rfl dX9_plan_21 rfl (lv_at hl 2 rfl) ?_
        refine j_iconst E 23 rfl dX9_plan_22 ?_
        refine j_icmp_le E 26 28 rfl r_v_m (rr (by decide)) dX9_plan_23 (by decide) (fun cc6_ => ?_) (fun cc6_ => ?_)
        · have L53_7 : ∀ (s0_53 : Int) (H : Heap) (locs : List Loc) (ls : Array Slot), inR s0_53 → (True) → WK D cy T (v_0) A0 s.heap H locs → lv_has ls 7 [(0, .ref o), (1, .int (J v_s)), (2, .int (J v_m)), (3, .int (J v_w))] → W p l e (rmd 5 5 6600) s m ar below meth c H locs 0 0 QW (F0 m 53 ls [.int (J s0_53)]) := by
            intro s0_53 H locs ls r_s0_53 iv53 hw hl
            refine j_istore E 55 rfl [(4, .int (J s0_53)), (0, .ref o), (1, .int (J v_s)), (2, .int (J v_m)), (3, .int (J v_w))] dX9_plan_53 hl (by decide) rfl (fun ls hl => ?_)
            have L71_9 : ∀ (H : Heap) (locs : List Loc) (ls : Array Slot), (True) → WK D cy T (v_0) A0 s.heap H locs → lv_has ls 7 [(0, .ref o), (1, .int (J v_s)), (2, .int (J v_m)), (3, .int (J v_w)), (4, .int (J s0_53))] → W p l e (rmd 5 5 6600) s m ar below meth c H locs 0 0 QW (F0 m 71 ls []) := by
              intro H locs ls iv71 hw hl
              refine j_aload_n E 72 rfl dX9_plan_71 rfl (lv_at hl 0 rfl) ?_
              refine g_197 E hK hw fl_X9_76 t_o 75 rfl dX9_plan_72 ?_
              cases hd11_ : dcd (T 197 o) with
              | none =>
                show W p l e (rmd 5 5 6600) s m ar below meth c H locs _ _ QW (F0 m 75 ls [.null])
                refine j_ifnonnullN E 78 rfl dX9_plan_75 ?_
                have hw0_ := hw
                refine n_obj3 E hK hw hA cl_X9_374 (Nat.le_of_ble_eq_true rfl) (Nat.le_of_ble_eq_true rfl) 81 rfl dX9_plan_78 (fun q12_ T12_ H hge12_ hx12_ ho12_ tq12_ hw => ?_)
                have fq12_ : s.heap.size ≤ q12_ := Nat.le_trans hw0_.2.2.1 hge12_
                have hw : WK D cy T12_ (upV (upV (upV v_0 64 (upB (v_0 64) q12_ 0)) 65 (upB (v_0 65) q12_ 0)) 66 (upB (v_0 66) q12_ 0)) A0 s.heap H locs := cw_eq hw (by first | rfl | (funext j_; simp only [upV, reduceIte]; (repeat' split) <;> first | rfl | omega | (subst_vars; rfl)))
                have hT12_ : WT T12_ := hw.1.2.1
                have hO12_ : ∀ x, ow T12_ x → κ 2 2 ≤ x := fun x h => hAc x (hw.2.1 x h)
                have hoT_ : OW T T12_ s.heap.size := OW.tr hw0_.2.2.1 hoT_ ho12_
                have u13_ : T12_ 0 o = 9 := (hx12_ o (Nat.ne_of_lt (Nat.lt_of_lt_of_le (cw_lt hw0_.1 t_o (fun _ _ _ => ⟨_, rfl⟩)) hge12_)) 0).trans t_o
                refine j_dup E 82 rfl dX9_plan_81 rfl ?_
                have hw0_ := hw
                refine aN_v E (n_X2_init l D cy κ T12_ (upV (upV (upV v_0 64 (upB (v_0 64) q12_ 0)) 65 (upB (v_0 65) q12_ 0)) 66 (upB (v_0 66) q12_ 0)) q12_ H.size  hO12_ tq12_  ) mi_X2_init hZ.1.mP hK hZ hAc hw hA ⟨(Nat.le_of_ble_eq_true rfl), (Nat.le_of_ble_eq_true rfl)⟩ ⟨(Nat.le_of_ble_eq_true rfl), (Nat.le_of_ble_eq_true rfl)⟩ (As := []) (rest := [.ref q12_]) rfl rfl hl.1 (Nat.le_of_ble_eq_true rfl) 85 rfl dX9_plan_82 (fun T14_ v_14 H locs hge14_ ho14_ hq14_ hw => ?_)
                obtain ⟨y64_14, y65_14, y66_14, ev14_, hh14_⟩ := hq14_
                rw [ev14_] at hw; clear ev14_
                have hw : WK D cy T14_ (upV (upV (upV v_0 64 y64_14) 65 y65_14) 66 y66_14) A0 s.heap H locs := cw_eq hw (by first | rfl | (funext j_; simp only [upV, reduceIte]; (repeat' split) <;> first | rfl | omega | (subst_vars; rfl)))
                obtain ⟨hx14_, tq14_⟩ := hh14_
                have hT14_ : WT T14_ := hw.1.2.1
                have hO14_ : ∀ x, ow T14_ x → κ 2 2 ≤ x := fun x h => hAc x (hw.2.1 x h)
                have hoT_ : OW T T14_ s.heap.size := OW.tr hw0_.2.2.1 hoT_ ho14_
                have u15_ : T14_ 0 o = 9 := (hx14_ o (cw_lt hw0_.1 u13_ (fun _ _ _ => ⟨_, rfl⟩)) (ty_ne u13_ tq12_ (by decide)) 0).trans u13_
                refine j_goto E 92 dX9_plan_85 (by decide) ?_
                refine j_astore E 94 rfl [(5, .ref q12_), (0, .ref o), (1, .int (J v_s)), (2, .int (J v_m)), (3, .int (J v_w)), (4, .int (J s0_53))] dX9_plan_92 hl (by decide) rfl (fun ls hl => ?_)
                refine j_aload_n E 95 rfl dX9_plan_94 rfl (lv_at hl 1 rfl) ?_
                refine j_aload E 97 rfl dX9_plan_95 (lv_at hl 0 rfl) ?_
                have hw0_ := hw
                refine pl_put E hK hw fl_X9_76 u15_ tq14_ 100 rfl dX9_plan_97 (fun T16_ H locs hx16_ ho16_ hw => ?_)
                have hT16_ : WT T16_ := hw.1.2.1
                have hO16_ : ∀ x, ow T16_ x → κ 2 2 ≤ x := fun x h => hAc x (hw.2.1 x h)
                have hoT_ : OW T T16_ s.heap.size := OW.tr0 hoT_ ho16_
                have u17_ : T16_ 0 o = 9 := (hx16_ 0 (by decide) o).trans u15_
                have u18_ : T16_ 0 q12_ = 3 := (hx16_ 0 (by decide) q12_).trans tq14_
                refine j_aload E 102 rfl dX9_plan_100 (lv_at hl 0 rfl) ?_
                refine j_aload_n E 103 rfl dX9_plan_102 rfl (lv_at hl 1 rfl) ?_
                refine g_180 E hK hw fl_X9_12 u17_ 106 rfl dX9_plan_103 ?_
                refine kV_i E (c_Jx4a65c_size_8abf5 l D cy T16_ (upV (upV (upV v_0 64 y64_14) 65 y65_14) 66 y66_14) (T16_ 180 o)  (wt_180 hT16_ u17_)  ) mt_Jx4a65c_size_8abf5 ml_X9_80 hK hw (cw_rc10 hK hw.1 (wt_180 hT16_ u17_)) hA ⟨Nat.le_of_ble_eq_true rfl, Nat.le_of_ble_eq_true rfl⟩ ⟨Nat.le_of_ble_eq_true rfl, Nat.le_of_ble_eq_true rfl⟩ (As := []) (rest := [.ref q12_]) rfl rfl hl.1 (Nat.le_of_ble_eq_true rfl) 109 rfl dX9_plan_106 (fun zz19_ v_19 H locs rr19_ hq19_ hw => ?_)
                obtain ⟨ev19_, hh19_⟩ := hq19_
                rw [ev19_] at hw; clear ev19_
                have hh19_ : zz19_ = ((v_0 202) ((T16_ 180 o))) ∧ 0 ≤ zz19_ := hh19_
                refine kV_v E (c_X2_begin l D cy T16_ (upV (upV (upV v_0 64 y64_14) 65 y65_14) 66 y66_14) q12_ zz19_  u18_ rr19_ ) mt_X2_begin ml_X9_377 hK hw (cw_rc3 hK hw.1 u18_) hA ⟨Nat.le_of_ble_eq_true rfl, Nat.le_of_ble_eq_true rfl⟩ ⟨Nat.le_of_ble_eq_true rfl, Nat.le_of_ble_eq_true rfl⟩ (As := [.int (J zz19_)]) (rest := []) rfl rfl hl.1 (Nat.le_of_ble_eq_true rfl) 112 rfl dX9_plan_109 (fun v_20 H locs hq20_ hw => ?_)
                obtain ⟨y64_20, y65_20, y66_20, ev20_, hh20_⟩ := hq20_
                rw [ev20_] at hw; clear ev20_
                have hw : WK D cy T16_ (upV (upV (upV v_0 64 y64_20) 65 y65_20) 66 y66_20) A0 s.heap H locs := cw_eq hw (by first | rfl | (funext j_; simp only [upV, reduceIte]; (repeat' split) <;> first | rfl | omega | (subst_vars; rfl)))
                have hh20_ : (y65_20 q12_) = 0 ∧ (y66_20 q12_) = 0 ∧ 0 ≤ (y64_20 q12_) ∧ (y64_20 q12_) ≤ 24 := hh20_
                refine j_iconst E 113 rfl dX9_plan_112 ?_
                refine j_istore E 115 rfl [(6, .int (J 0)), (5, .ref q12_), (0, .ref o), (1, .int (J v_s)), (2, .int (J v_m)), (3, .int (J v_w)), (4, .int (J s0_53))] dX9_plan_113 hl (by decide) rfl (fun ls hl => ?_)
                have L115_21 : ∀ (k115 : Nat) (l6_115 : Int) (y65_c115 : Nat → Int) (y66_c115 : Nat → Int) (H : Heap) (locs : List Loc) (ls : Array Slot), inR l6_115 → (0 ≤ l6_115 ∧ 0 ≤ (y66_c115 q12_) ∧ (y66_c115 q12_) ≤ 255 ∧ 0 ≤ (y65_c115 q12_) ∧ (y65_c115 q12_) ≤ 4 ∧ 0 ≤ (y64_20 q12_) ∧ (y64_20 q12_) ≤ 24) → ((v_0 202 (T16_ 181 o)) - l6_115).toNat < k115 → WK D cy T16_ (upV (upV (upV v_0 64 y64_20) 65 y65_c115) 66 y66_c115) A0 s.heap H locs → lv_has ls 7 [(0, .ref o), (1, .int (J v_s)), (2, .int (J v_m)), (3, .int (J v_w)), (4, .int (J s0_53)), (5, .ref q12_), (6, .int (J l6_115))] → W p l e (rmd 5 5 6600) s m ar below meth c H locs 5 6531 QW (F0 m 115 ls []) := by
                  intro k115
                  induction k115 with
                  | zero =>
                    intro l6_115 y65_c115 y66_c115 H locs ls r_l6_115 iv115 ms115 hw hl
                    exact absurd ms115 (Nat.not_lt_zero _)
                  | succ k115 ih115 =>
                    intro l6_115 y65_c115 y66_c115 H locs ls r_l6_115 iv115 ms115 hw hl
                    refine j_iload E 117 rfl dX9_plan_115 (lv_at hl 6 rfl) ?_
                    refine j_aload_n E 118 rfl dX9_plan_117 rfl (lv_at hl 0 rfl) ?_
                    refine g_181 E hK hw fl_X9_16 u17_ 121 rfl dX9_plan_118 ?_
                    refine kV_i E (c_Jx4a65c_size_8abf5 l D cy T16_ (upV (upV (upV v_0 64 y64_20) 65 y65_c115) 66 y66_c115) (T16_ 181 o)  (wt_181 hT16_ u17_)  ) mt_Jx4a65c_size_8abf5 ml_X9_80 hK hw (cw_rc10 hK hw.1 (wt_181 hT16_ u17_)) hA ⟨Nat.le_of_ble_eq_true rfl, Nat.le_of_ble_eq_true rfl⟩ ⟨Nat.le_of_ble_eq_true rfl, Nat.le_of_ble_eq_true rfl⟩ (As := []) (rest := [.int (J l6_115)]) rfl rfl hl.1 (Nat.le_of_ble_eq_true rfl) 124 rfl dX9_plan_121 (fun zz23_ v_23 H locs rr23_ hq23_ hw => ?_)
                    obtain ⟨ev23_, hh23_⟩ := hq23_
                    rw [ev23_] at hw; clear ev23_
                    have hh23_ : zz23_ = ((v_0 202) ((T16_ 181 o))) ∧ 0 ≤ zz23_ := hh23_
                    refine j_icmp_ge E 127 169 rfl r_l6_115 rr23_ dX9_plan_124 (by decide) (fun cc24_ => ?_) (fun cc24_ => ?_)
                    · refine j_aload E 171 rfl dX9_plan_169 (lv_at hl 5 rfl) ?_
                      refine kV_v E (c_X2_solve l D cy T16_ (upV (upV (upV v_0 64 y64_20) 65 y65_c115) 66 y66_c115) q12_  u18_  (show 0 ≤ (y66_c115 q12_) ∧ (y66_c115 q12_) ≤ 255 ∧ 0 ≤ (y65_c115 q12_) ∧ (y65_c115 q12_) ≤ 4 ∧ 0 ≤ (y64_20 q12_) ∧ (y64_20 q12_) ≤ 24 from by omega)) mt_X2_solve ml_X9_387 hK hw (cw_rc3 hK hw.1 u18_) hA ⟨Nat.le_of_ble_eq_true rfl, Nat.le_of_ble_eq_true rfl⟩ ⟨Nat.le_of_ble_eq_true rfl, Nat.le_of_ble_eq_true rfl⟩ (As := []) (rest := []) rfl rfl hl.1 (Nat.le_of_ble_eq_true rfl) 174 rfl dX9_plan_171 (fun v_25 H locs hq25_ hw => ?_)
                      obtain ⟨ev25_, hh25_⟩ := hq25_
                      rw [ev25_] at hw; clear ev25_
                      refine j_iload E 176 rfl dX9_plan_174 (lv_at hl 4 rfl) ?_
                      refine j_if_eq E 179 191 rfl r_s0_53 dX9_plan_176 (by decide) (fun cc26_ => ?_) (fun cc26_ => ?_)
                      · refine j_iload_n E 192 rfl dX9_plan_191 rfl (lv_at hl 3 rfl) ?_
                        refine j_if_ne E 195 203 rfl r_v_w dX9_plan_192 (by decide) (fun cc27_ => ?_) (fun cc27_ => ?_)
                        · refine j_aload E 205 rfl dX9_plan_203 (lv_at hl 5 rfl) ?_
                          refine kV_i E (c_X2_teachings l D cy T16_ (upV (upV (upV v_0 64 y64_20) 65 y65_c115) 66 y66_c115) q12_  u18_  ) mt_X2_teachings ml_X9_396 hK hw (cw_rc3 hK hw.1 u18_) hA ⟨Nat.le_of_ble_eq_true rfl, Nat.le_of_ble_eq_true rfl⟩ ⟨Nat.le_of_ble_eq_true rfl, Nat.le_of_ble_eq_true rfl⟩ (As := []) (rest := []) rfl rfl hl.1 (Nat.le_of_ble_eq_true rfl) 208 rfl dX9_plan_205 (fun zz28_ v_28 H locs rr28_ hq28_ hw => ?_)
                          obtain ⟨ev28_, hh28_⟩ := hq28_
                          rw [ev28_] at hw; clear ev28_
                          exact hret 208 zz28_ T16_ (upV (upV (upV v_0 64 y64_20) 65 y65_c115) 66 y66_c115) _ _ ls _ _ hw hoT_ rr28_ ⟨y64_20, y65_c115, y66_c115, rfl, u17_⟩ (Nat.le_of_ble_eq_true rfl) (Nat.le_of_ble_eq_true rfl) dX9_plan_208
                        · refine j_aload E 197 rfl dX9_plan_195 (lv_at hl 5 rfl) ?_
                          refine kV_i E (c_X2_cost l D cy T16_ (upV (upV (upV v_0 64 y64_20) 65 y65_c115) 66 y66_c115) q12_  u18_  ) mt_X2_cost ml_X9_393 hK hw (cw_rc3 hK hw.1 u18_) hA ⟨Nat.le_of_ble_eq_true rfl, Nat.le_of_ble_eq_true rfl⟩ ⟨Nat.le_of_ble_eq_true rfl, Nat.le_of_ble_eq_true rfl⟩ (As := []) (rest := []) rfl rfl hl.1 (Nat.le_of_ble_eq_true rfl) 200 rfl dX9_plan_197 (fun zz29_ v_29 H locs rr29_ hq29_ hw => ?_)
                          obtain ⟨ev29_, hh29_⟩ := hq29_
                          rw [ev29_] at hw; clear ev29_
                          refine j_goto E 208 dX9_plan_200 (by decide) ?_
                          exact hret 208 zz29_ T16_ (upV (upV (upV v_0 64 y64_20) 65 y65_c115) 66 y66_c115) _ _ ls _ _ hw hoT_ rr29_ ⟨y64_20, y65_c115, y66_c115, rfl, u17_⟩ (Nat.le_of_ble_eq_true rfl) (Nat.le_of_ble_eq_true rfl) dX9_plan_208
                      · refine j_aload E 181 rfl dX9_plan_179 (lv_at hl 5 rfl) ?_
                        refine j_iload_n E 182 rfl dX9_plan_181 rfl (lv_at hl 3 rfl) ?_
                        refine j_bipush E 184 rfl dX9_plan_182 (by decide) ?_
                        refine j_isub E 185 rfl dX9_plan_184 ?_
                        refine j_norm (fun zz30_ rr30_ ee30_ => ?_)
                        refine kV_i E (c_X2_lessonOf l D cy T16_ (upV (upV (upV v_0 64 y64_20) 65 y65_c115) 66 y66_c115) q12_ zz30_  u18_ rr30_ ) mt_X2_lessonOf ml_X9_390 hK hw (cw_rc3 hK hw.1 u18_) hA ⟨Nat.le_of_ble_eq_true rfl, Nat.le_of_ble_eq_true rfl⟩ ⟨Nat.le_of_ble_eq_true rfl, Nat.le_of_ble_eq_true rfl⟩ (As := [.int (J zz30_)]) (rest := []) rfl rfl hl.1 (Nat.le_of_ble_eq_true rfl) 188 rfl dX9_plan_185 (fun zz31_ v_31 H locs rr31_ hq31_ hw => ?_)
                        obtain ⟨ev31_, hh31_⟩ := hq31_
                        rw [ev31_] at hw; clear ev31_
                        refine j_goto E 208 dX9_plan_188 (by decide) ?_
                        exact hret 208 zz31_ T16_ (upV (upV (upV v_0 64 y64_20) 65 y65_c115) 66 y66_c115) _ _ ls _ _ hw hoT_ rr31_ ⟨y64_20, y65_c115, y66_c115, rfl, u17_⟩ (Nat.le_of_ble_eq_true rfl) (Nat.le_of_ble_eq_true rfl) dX9_plan_208
                    · refine j_iload_n E 128 rfl dX9_plan_127 rfl (lv_at hl 1 rfl) ?_
                      refine j_iload E 130 rfl dX9_plan_128 (lv_at hl 6 rfl) ?_
                      refine j_iushr E 131 rfl dX9_plan_130 (fun zz32_ rr32_ ee32_ => ?_)
                      refine j_iconst E 132 rfl dX9_plan_131 ?_
                      refine j_iand E 133 rfl dX9_plan_132 (fun zz33_ rr33_ ee33_ => ?_)
                      refine j_if_eq E 136 163 rfl rr33_ dX9_plan_133 (by decide) (fun cc34_ => ?_) (fun cc34_ => ?_)
                      · refine j_iinc E 166 rfl [(6, .int (J (l6_115 + 1))), (0, .ref o), (1, .int (J v_s)), (2, .int (J v_m)), (3, .int (J v_w)), (4, .int (J s0_53)), (5, .ref q12_)] dX9_plan_163 hl (kk := 6) rfl (by decide) rfl (fun ls hl => ?_)
                        refine j_goto E 115 dX9_plan_166 (by decide) ?_
                        exact ih115 (l6_115 + 1) y65_c115 y66_c115 H locs ls (rr (by omega)) (by first | omega | (simp only [upB_same]; omega)) (by omega) hw (lv_sub hl [1, 2, 3, 4, 5, 6, 0] rfl)
                      · refine j_aload E 138 rfl dX9_plan_136 (lv_at hl 5 rfl) ?_
                        refine j_iload E 140 rfl dX9_plan_138 (lv_at hl 6 rfl) ?_
                        refine j_iconst E 141 rfl dX9_plan_140 ?_
                        refine j_iload_n E 142 rfl dX9_plan_141 rfl (lv_at hl 2 rfl) ?_
                        refine j_aload_n E 143 rfl dX9_plan_142 rfl (lv_at hl 0 rfl) ?_
                        refine j_iload E 145 rfl dX9_plan_143 (lv_at hl 6 rfl) ?_
                        refine kV_i E (c_X9_countHolders l D cy T16_ (upV (upV (upV v_0 64 y64_20) 65 y65_c115) 66 y66_c115) o l6_115  u17_ r_l6_115 ) mt_X9_countHolders ml_X9_209 hK hw (cw_rc9 hK hw.1 u17_) hA ⟨Nat.le_of_ble_eq_true rfl, Nat.le_of_ble_eq_true rfl⟩ ⟨Nat.le_of_ble_eq_true rfl, Nat.le_of_ble_eq_true rfl⟩ (As := [.int (J l6_115)]) (rest := [.int (J v_m), .int (J 0), .int (J l6_115), .ref q12_]) rfl rfl hl.1 (Nat.le_of_ble_eq_true rfl) 148 rfl dX9_plan_145 (fun zz35_ v_35 H locs rr35_ hq35_ hw => ?_)
                        obtain ⟨ev35_, hh35_⟩ := hq35_
                        rw [ev35_] at hw; clear ev35_
                        refine j_isub E 149 rfl dX9_plan_148 ?_
                        refine j_norm (fun zz36_ rr36_ ee36_ => ?_)
                        refine j_max E hl.1 ml_X9_350 (rr (by decide)) rr36_ ⟨Nat.le_of_ble_eq_true rfl, Nat.le_of_ble_eq_true rfl⟩ ⟨Nat.le_of_ble_eq_true rfl, Nat.le_of_ble_eq_true rfl⟩ 152 rfl dX9_plan_149 (fun zz37_ rr37_ hh37_ => ?_)
                        refine kV_v E (c_X2_addLine l D cy T16_ (upV (upV (upV v_0 64 y64_20) 65 y65_c115) 66 y66_c115) q12_ l6_115 zz37_  u18_ r_l6_115 rr37_ (show 0 ≤ (y66_c115 q12_) ∧ (y66_c115 q12_) ≤ 255 ∧ 0 ≤ (y65_c115 q12_) ∧ (y65_c115 q12_) ≤ 4 from by omega)) mt_X2_addLine ml_X9_380 hK hw (cw_rc3 hK hw.1 u18_) hA ⟨Nat.le_of_ble_eq_true rfl, Nat.le_of_ble_eq_true rfl⟩ ⟨Nat.le_of_ble_eq_true rfl, Nat.le_of_ble_eq_true rfl⟩ (As := [.int (J l6_115), .int (J zz37_)]) (rest := []) rfl rfl hl.1 (Nat.le_of_ble_eq_true rfl) 155 rfl dX9_plan_152 (fun v_38 H locs hq38_ hw => ?_)
                        obtain ⟨y65_38, y66_38, ev38_, hh38_⟩ := hq38_
                        rw [ev38_] at hw; clear ev38_
                        have hw : WK D cy T16_ (upV (upV (upV v_0 64 y64_20) 65 y65_38) 66 y66_38) A0 s.heap H locs := cw_eq hw (by first | rfl | (funext j_; simp only [upV, reduceIte]; (repeat' split) <;> first | rfl | omega | (subst_vars; rfl)))
                        have hh38_ : 0 ≤ (y66_38 q12_) ∧ (y66_38 q12_) ≤ 255 ∧ 0 ≤ (y65_38 q12_) ∧ (y65_38 q12_) ≤ 4 := hh38_
                        refine j_aload_n E 156 rfl dX9_plan_155 rfl (lv_at hl 0 rfl) ?_
                        refine j_aload E 158 rfl dX9_plan_156 (lv_at hl 5 rfl) ?_
                        refine j_iload E 160 rfl dX9_plan_158 (lv_at hl 6 rfl) ?_
                        refine kV_v E (c_X9_putPrices l D cy T16_ (upV (upV (upV v_0 64 y64_20) 65 y65_38) 66 y66_38) o q12_ l6_115  u17_ u18_ r_l6_115 ) mt_X9_putPrices ml_X9_383 hK hw (cw_rc9 hK hw.1 u17_) hA ⟨Nat.le_of_ble_eq_true rfl, Nat.le_of_ble_eq_true rfl⟩ ⟨Nat.le_of_ble_eq_true rfl, Nat.le_of_ble_eq_true rfl⟩ (As := [.ref q12_, .int (J l6_115)]) (rest := []) rfl rfl hl.1 (Nat.le_of_ble_eq_true rfl) 163 rfl dX9_plan_160 (fun v_39 H locs hq39_ hw => ?_)
                        obtain ⟨ev39_, hh39_⟩ := hq39_
                        rw [ev39_] at hw; clear ev39_
                        refine j_iinc E 166 rfl [(6, .int (J (l6_115 + 1))), (0, .ref o), (1, .int (J v_s)), (2, .int (J v_m)), (3, .int (J v_w)), (4, .int (J s0_53)), (5, .ref q12_)] dX9_plan_163 hl (kk := 6) rfl (by decide) rfl (fun ls hl => ?_)
                        refine j_goto E 115 dX9_plan_166 (by decide) ?_
                        exact ih115 (l6_115 + 1) y65_38 y66_38 H locs ls (rr (by omega)) (by first | omega | (simp only [upB_same]; omega)) (by omega) hw (lv_sub hl [1, 2, 3, 4, 5, 6, 0] rfl)
                exact L115_21 _ 0 y65_20 y66_20 H locs ls (rr (by decide)) (by first | omega | (simp only [upB_same]; omega)) (Nat.lt_succ_self _) hw (lv_sub hl [2, 3, 4, 5, 6, 1, 0] rfl)
              | some xp11_ =>
                show W p l e (rmd 5 5 6600) s m ar below meth c H locs _ _ QW (F0 m 75 ls [.ref xp11_])
                have tp11_ : T 0 xp11_ = 3 := wpl_ hT t_o hd11_
                refine j_ifnonnullR E 88 dX9_plan_75 (by decide) ?_
                refine j_aload_n E 89 rfl dX9_plan_88 rfl (lv_at hl 0 rfl) ?_
                refine g_197 E hK hw fl_X9_76 t_o 92 rfl dX9_plan_89 ?_
                rw [hd11_]
                show W p l e (rmd 5 5 6600) s m ar below meth c H locs _ _ QW (F0 m 92 ls [.ref xp11_])
                refine j_astore E 94 rfl [(5, .ref xp11_), (0, .ref o), (1, .int (J v_s)), (2, .int (J v_m)), (3, .int (J v_w)), (4, .int (J s0_53))] dX9_plan_92 hl (by decide) rfl (fun ls hl => ?_)
                refine j_aload_n E 95 rfl dX9_plan_94 rfl (lv_at hl 1 rfl) ?_
                refine j_aload E 97 rfl dX9_plan_95 (lv_at hl 0 rfl) ?_
                have hw0_ := hw
                refine pl_put E hK hw fl_X9_76 t_o tp11_ 100 rfl dX9_plan_97 (fun T40_ H locs hx40_ ho40_ hw => ?_)
                have hT40_ : WT T40_ := hw.1.2.1
                have hO40_ : ∀ x, ow T40_ x → κ 2 2 ≤ x := fun x h => hAc x (hw.2.1 x h)
                have hoT_ : OW T T40_ s.heap.size := OW.tr0 hoT_ ho40_
                have u41_ : T40_ 0 o = 9 := (hx40_ 0 (by decide) o).trans t_o
                have u42_ : T40_ 0 xp11_ = 3 := (hx40_ 0 (by decide) xp11_).trans tp11_
                refine j_aload E 102 rfl dX9_plan_100 (lv_at hl 0 rfl) ?_
                refine j_aload_n E 103 rfl dX9_plan_102 rfl (lv_at hl 1 rfl) ?_
                refine g_180 E hK hw fl_X9_12 u41_ 106 rfl dX9_plan_103 ?_
                refine kV_i E (c_Jx4a65c_size_8abf5 l D cy T40_ (v_0) (T40_ 180 o)  (wt_180 hT40_ u41_)  ) mt_Jx4a65c_size_8abf5 ml_X9_80 hK hw (cw_rc10 hK hw.1 (wt_180 hT40_ u41_)) hA ⟨Nat.le_of_ble_eq_true rfl, Nat.le_of_ble_eq_true rfl⟩ ⟨Nat.le_of_ble_eq_true rfl, Nat.le_of_ble_eq_true rfl⟩ (As := []) (rest := [.ref xp11_]) rfl rfl hl.1 (Nat.le_of_ble_eq_true rfl) 109 rfl dX9_plan_106 (fun zz43_ v_43 H locs rr43_ hq43_ hw => ?_)
                obtain ⟨ev43_, hh43_⟩ := hq43_
                rw [ev43_] at hw; clear ev43_
                have hh43_ : zz43_ = ((v_0 202) ((T40_ 180 o))) ∧ 0 ≤ zz43_ := hh43_
                refine kV_v E (c_X2_begin l D cy T40_ (v_0) xp11_ zz43_  u42_ rr43_ ) mt_X2_begin ml_X9_377 hK hw (cw_rc3 hK hw.1 u42_) hA ⟨Nat.le_of_ble_eq_true rfl, Nat.le_of_ble_eq_true rfl⟩ ⟨Nat.le_of_ble_eq_true rfl, Nat.le_of_ble_eq_true rfl⟩ (As := [.int (J zz43_)]) (rest := []) rfl rfl hl.1 (Nat.le_of_ble_eq_true rfl) 112 rfl dX9_plan_109 (fun v_44 H locs hq44_ hw => ?_)
                obtain ⟨y64_44, y65_44, y66_44, ev44_, hh44_⟩ := hq44_
                rw [ev44_] at hw; clear ev44_
                have hw : WK D cy T40_ (upV (upV (upV v_0 64 y64_44) 65 y65_44) 66 y66_44) A0 s.heap H locs := cw_eq hw (by first | rfl | (funext j_; simp only [upV, reduceIte]; (repeat' split) <;> first | rfl | omega | (subst_vars; rfl)))
                have hh44_ : (y65_44 xp11_) = 0 ∧ (y66_44 xp11_) = 0 ∧ 0 ≤ (y64_44 xp11_) ∧ (y64_44 xp11_) ≤ 24 := hh44_
                refine j_iconst E 113 rfl dX9_plan_112 ?_
                refine j_istore E 115 rfl [(6, .int (J 0)), (5, .ref xp11_), (0, .ref o), (1, .int (J v_s)), (2, .int (J v_m)), (3, .int (J v_w)), (4, .int (J s0_53))] dX9_plan_113 hl (by decide) rfl (fun ls hl => ?_)
                have L115_45 : ∀ (k115 : Nat) (l6_115 : Int) (y65_c115 : Nat → Int) (y66_c115 : Nat → Int) (H : Heap) (locs : List Loc) (ls : Array Slot), inR l6_115 → (0 ≤ l6_115 ∧ 0 ≤ (y66_c115 xp11_) ∧ (y66_c115 xp11_) ≤ 255 ∧ 0 ≤ (y65_c115 xp11_) ∧ (y65_c115 xp11_) ≤ 4 ∧ 0 ≤ (y64_44 xp11_) ∧ (y64_44 xp11_) ≤ 24) → ((v_0 202 (T40_ 181 o)) - l6_115).toNat < k115 → WK D cy T40_ (upV (upV (upV v_0 64 y64_44) 65 y65_c115) 66 y66_c115) A0 s.heap H locs → lv_has ls 7 [(0, .ref o), (1, .int (J v_s)), (2, .int (J v_m)), (3, .int (J v_w)), (4, .int (J s0_53)), (5, .ref xp11_), (6, .int (J l6_115))] → W p l e (rmd 5 5 6600) s m ar below meth c H locs 0 0 QW (F0 m 115 ls []) := by
                  intro k115
                  induction k115 with
                  | zero =>
                    intro l6_115 y65_c115 y66_c115 H locs ls r_l6_115 iv115 ms115 hw hl
                    exact absurd ms115 (Nat.not_lt_zero _)
                  | succ k115 ih115 =>
                    intro l6_115 y65_c115 y66_c115 H locs ls r_l6_115 iv115 ms115 hw hl
                    refine j_iload E 117 rfl dX9_plan_115 (lv_at hl 6 rfl) ?_
                    refine j_aload_n E 118 rfl dX9_plan_117 rfl (lv_at hl 0 rfl) ?_
                    refine g_181 E hK hw fl_X9_16 u41_ 121 rfl dX9_plan_118 ?_
                    refine kV_i E (c_Jx4a65c_size_8abf5 l D cy T40_ (upV (upV (upV v_0 64 y64_44) 65 y65_c115) 66 y66_c115) (T40_ 181 o)  (wt_181 hT40_ u41_)  ) mt_Jx4a65c_size_8abf5 ml_X9_80 hK hw (cw_rc10 hK hw.1 (wt_181 hT40_ u41_)) hA ⟨Nat.le_of_ble_eq_true rfl, Nat.le_of_ble_eq_true rfl⟩ ⟨Nat.le_of_ble_eq_true rfl, Nat.le_of_ble_eq_true rfl⟩ (As := []) (rest := [.int (J l6_115)]) rfl rfl hl.1 (Nat.le_of_ble_eq_true rfl) 124 rfl dX9_plan_121 (fun zz47_ v_47 H locs rr47_ hq47_ hw => ?_)
                    obtain ⟨ev47_, hh47_⟩ := hq47_
                    rw [ev47_] at hw; clear ev47_
                    have hh47_ : zz47_ = ((v_0 202) ((T40_ 181 o))) ∧ 0 ≤ zz47_ := hh47_
                    refine j_icmp_ge E 127 169 rfl r_l6_115 rr47_ dX9_plan_124 (by decide) (fun cc48_ => ?_) (fun cc48_ => ?_)
                    · refine j_aload E 171 rfl dX9_plan_169 (lv_at hl 5 rfl) ?_
                      refine kV_v E (c_X2_solve l D cy T40_ (upV (upV (upV v_0 64 y64_44) 65 y65_c115) 66 y66_c115) xp11_  u42_  (show 0 ≤ (y66_c115 xp11_) ∧ (y66_c115 xp11_) ≤ 255 ∧ 0 ≤ (y65_c115 xp11_) ∧ (y65_c115 xp11_) ≤ 4 ∧ 0 ≤ (y64_44 xp11_) ∧ (y64_44 xp11_) ≤ 24 from by omega)) mt_X2_solve ml_X9_387 hK hw (cw_rc3 hK hw.1 u42_) hA ⟨Nat.le_of_ble_eq_true rfl, Nat.le_of_ble_eq_true rfl⟩ ⟨Nat.le_of_ble_eq_true rfl, Nat.le_of_ble_eq_true rfl⟩ (As := []) (rest := []) rfl rfl hl.1 (Nat.le_of_ble_eq_true rfl) 174 rfl dX9_plan_171 (fun v_49 H locs hq49_ hw => ?_)
                      obtain ⟨ev49_, hh49_⟩ := hq49_
                      rw [ev49_] at hw; clear ev49_
                      refine j_iload E 176 rfl dX9_plan_174 (lv_at hl 4 rfl) ?_
                      refine j_if_eq E 179 191 rfl r_s0_53 dX9_plan_176 (by decide) (fun cc50_ => ?_) (fun cc50_ => ?_)
                      · refine j_iload_n E 192 rfl dX9_plan_191 rfl (lv_at hl 3 rfl) ?_
                        refine j_if_ne E 195 203 rfl r_v_w dX9_plan_192 (by decide) (fun cc51_ => ?_) (fun cc51_ => ?_)
                        · refine j_aload E 205 rfl dX9_plan_203 (lv_at hl 5 rfl) ?_
                          refine kV_i E (c_X2_teachings l D cy T40_ (upV (upV (upV v_0 64 y64_44) 65 y65_c115) 66 y66_c115) xp11_  u42_  ) mt_X2_teachings ml_X9_396 hK hw (cw_rc3 hK hw.1 u42_) hA ⟨Nat.le_of_ble_eq_true rfl, Nat.le_of_ble_eq_true rfl⟩ ⟨Nat.le_of_ble_eq_true rfl, Nat.le_of_ble_eq_true rfl⟩ (As := []) (rest := []) rfl rfl hl.1 (Nat.le_of_ble_eq_true rfl) 208 rfl dX9_plan_205 (fun zz52_ v_52 H locs rr52_ hq52_ hw => ?_)
                          obtain ⟨ev52_, hh52_⟩ := hq52_
                          rw [ev52_] at hw; clear ev52_
                          exact hret 208 zz52_ T40_ (upV (upV (upV v_0 64 y64_44) 65 y65_c115) 66 y66_c115) _ _ ls _ _ hw hoT_ rr52_ ⟨y64_44, y65_c115, y66_c115, rfl, u41_⟩ (Nat.le_of_ble_eq_true rfl) (Nat.le_of_ble_eq_true rfl) dX9_plan_208
                        · refine j_aload E 197 rfl dX9_plan_195 (lv_at hl 5 rfl) ?_
                          refine kV_i E (c_X2_cost l D cy T40_ (upV (upV (upV v_0 64 y64_44) 65 y65_c115) 66 y66_c115) xp11_  u42_  ) mt_X2_cost ml_X9_393 hK hw (cw_rc3 hK hw.1 u42_) hA ⟨Nat.le_of_ble_eq_true rfl, Nat.le_of_ble_eq_true rfl⟩ ⟨Nat.le_of_ble_eq_true rfl, Nat.le_of_ble_eq_true rfl⟩ (As := []) (rest := []) rfl rfl hl.1 (Nat.le_of_ble_eq_true rfl) 200 rfl dX9_plan_197 (fun zz53_ v_53 H locs rr53_ hq53_ hw => ?_)
                          obtain ⟨ev53_, hh53_⟩ := hq53_
                          rw [ev53_] at hw; clear ev53_
                          refine j_goto E 208 dX9_plan_200 (by decide) ?_
                          exact hret 208 zz53_ T40_ (upV (upV (upV v_0 64 y64_44) 65 y65_c115) 66 y66_c115) _ _ ls _ _ hw hoT_ rr53_ ⟨y64_44, y65_c115, y66_c115, rfl, u41_⟩ (Nat.le_of_ble_eq_true rfl) (Nat.le_of_ble_eq_true rfl) dX9_plan_208
                      · refine j_aload E 181 rfl dX9_plan_179 (lv_at hl 5 rfl) ?_
                        refine j_iload_n E 182 rfl dX9_plan_181 rfl (lv_at hl 3 rfl) ?_
                        refine j_bipush E 184 rfl dX9_plan_182 (by decide) ?_
                        refine j_isub E 185 rfl dX9_plan_184 ?_
                        refine j_norm (fun zz54_ rr54_ ee54_ => ?_)
                        refine kV_i E (c_X2_lessonOf l D cy T40_ (upV (upV (upV v_0 64 y64_44) 65 y65_c115) 66 y66_c115) xp11_ zz54_  u42_ rr54_ ) mt_X2_lessonOf ml_X9_390 hK hw (cw_rc3 hK hw.1 u42_) hA ⟨Nat.le_of_ble_eq_true rfl, Nat.le_of_ble_eq_true rfl⟩ ⟨Nat.le_of_ble_eq_true rfl, Nat.le_of_ble_eq_true rfl⟩ (As := [.int (J zz54_)]) (rest := []) rfl rfl hl.1 (Nat.le_of_ble_eq_true rfl) 188 rfl dX9_plan_185 (fun zz55_ v_55 H locs rr55_ hq55_ hw => ?_)
                        obtain ⟨ev55_, hh55_⟩ := hq55_
                        rw [ev55_] at hw; clear ev55_
                        refine j_goto E 208 dX9_plan_188 (by decide) ?_
                        exact hret 208 zz55_ T40_ (upV (upV (upV v_0 64 y64_44) 65 y65_c115) 66 y66_c115) _ _ ls _ _ hw hoT_ rr55_ ⟨y64_44, y65_c115, y66_c115, rfl, u41_⟩ (Nat.le_of_ble_eq_true rfl) (Nat.le_of_ble_eq_true rfl) dX9_plan_208
                    · refine j_iload_n E 128 rfl dX9_plan_127 rfl (lv_at hl 1 rfl) ?_
                      refine j_iload E 130 rfl dX9_plan_128 (lv_at hl 6 rfl) ?_
                      refine j_iushr E 131 rfl dX9_plan_130 (fun zz56_ rr56_ ee56_ => ?_)
                      refine j_iconst E 132 rfl dX9_plan_131 ?_
                      refine j_iand E 133 rfl dX9_plan_132 (fun zz57_ rr57_ ee57_ => ?_)
                      refine j_if_eq E 136 163 rfl rr57_ dX9_plan_133 (by decide) (fun cc58_ => ?_) (fun cc58_ => ?_)
                      · refine j_iinc E 166 rfl [(6, .int (J (l6_115 + 1))), (0, .ref o), (1, .int (J v_s)), (2, .int (J v_m)), (3, .int (J v_w)), (4, .int (J s0_53)), (5, .ref xp11_)] dX9_plan_163 hl (kk := 6) rfl (by decide) rfl (fun ls hl => ?_)
                        refine j_goto E 115 dX9_plan_166 (by decide) ?_
                        exact ih115 (l6_115 + 1) y65_c115 y66_c115 H locs ls (rr (by omega)) (by first | omega | (simp only [upB_same]; omega)) (by omega) hw (lv_sub hl [1, 2, 3, 4, 5, 6, 0] rfl)
                      · refine j_aload E 138 rfl dX9_plan_136 (lv_at hl 5 rfl) ?_
                        refine j_iload E 140 rfl dX9_plan_138 (lv_at hl 6 rfl) ?_
                        refine j_iconst E 141 rfl dX9_plan_140 ?_
                        refine j_iload_n E 142 rfl dX9_plan_141 rfl (lv_at hl 2 rfl) ?_
                        refine j_aload_n E 143 rfl dX9_plan_142 rfl (lv_at hl 0 rfl) ?_
                        refine j_iload E 145 rfl dX9_plan_143 (lv_at hl 6 rfl) ?_
                        refine kV_i E (c_X9_countHolders l D cy T40_ (upV (upV (upV v_0 64 y64_44) 65 y65_c115) 66 y66_c115) o l6_115  u41_ r_l6_115 ) mt_X9_countHolders ml_X9_209 hK hw (cw_rc9 hK hw.1 u41_) hA ⟨Nat.le_of_ble_eq_true rfl, Nat.le_of_ble_eq_true rfl⟩ ⟨Nat.le_of_ble_eq_true rfl, Nat.le_of_ble_eq_true rfl⟩ (As := [.int (J l6_115)]) (rest := [.int (J v_m), .int (J 0), .int (J l6_115), .ref xp11_]) rfl rfl hl.1 (Nat.le_of_ble_eq_true rfl) 148 rfl dX9_plan_145 (fun zz59_ v_59 H locs rr59_ hq59_ hw => ?_)
                        obtain ⟨ev59_, hh59_⟩ := hq59_
                        rw [ev59_] at hw; clear ev59_
                        refine j_isub E 149 rfl dX9_plan_148 ?_
                        refine j_norm (fun zz60_ rr60_ ee60_ => ?_)
                        refine j_max E hl.1 ml_X9_350 (rr (by decide)) rr60_ ⟨Nat.le_of_ble_eq_true rfl, Nat.le_of_ble_eq_true rfl⟩ ⟨Nat.le_of_ble_eq_true rfl, Nat.le_of_ble_eq_true rfl⟩ 152 rfl dX9_plan_149 (fun zz61_ rr61_ hh61_ => ?_)
                        refine kV_v E (c_X2_addLine l D cy T40_ (upV (upV (upV v_0 64 y64_44) 65 y65_c115) 66 y66_c115) xp11_ l6_115 zz61_  u42_ r_l6_115 rr61_ (show 0 ≤ (y66_c115 xp11_) ∧ (y66_c115 xp11_) ≤ 255 ∧ 0 ≤ (y65_c115 xp11_) ∧ (y65_c115 xp11_) ≤ 4 from by omega)) mt_X2_addLine ml_X9_380 hK hw (cw_rc3 hK hw.1 u42_) hA ⟨Nat.le_of_ble_eq_true rfl, Nat.le_of_ble_eq_true rfl⟩ ⟨Nat.le_of_ble_eq_true rfl, Nat.le_of_ble_eq_true rfl⟩ (As := [.int (J l6_115), .int (J zz61_)]) (rest := []) rfl rfl hl.1 (Nat.le_of_ble_eq_true rfl) 155 rfl dX9_plan_152 (fun v_62 H locs hq62_ hw => ?_)
                        obtain ⟨y65_62, y66_62, ev62_, hh62_⟩ := hq62_
                        rw [ev62_] at hw; clear ev62_
                        have hw : WK D cy T40_ (upV (upV (upV v_0 64 y64_44) 65 y65_62) 66 y66_62) A0 s.heap H locs := cw_eq hw (by first | rfl | (funext j_; simp only [upV, reduceIte]; (repeat' split) <;> first | rfl | omega | (subst_vars; rfl)))
                        have hh62_ : 0 ≤ (y66_62 xp11_) ∧ (y66_62 xp11_) ≤ 255 ∧ 0 ≤ (y65_62 xp11_) ∧ (y65_62 xp11_) ≤ 4 := hh62_
                        refine j_aload_n E 156 rfl dX9_plan_155 rfl (lv_at hl 0 rfl) ?_
                        refine j_aload E 158 rfl dX9_plan_156 (lv_at hl 5 rfl) ?_
                        refine j_iload E 160 rfl dX9_plan_158 (lv_at hl 6 rfl) ?_
                        refine kV_v E (c_X9_putPrices l D cy T40_ (upV (upV (upV v_0 64 y64_44) 65 y65_62) 66 y66_62) o xp11_ l6_115  u41_ u42_ r_l6_115 ) mt_X9_putPrices ml_X9_383 hK hw (cw_rc9 hK hw.1 u41_) hA ⟨Nat.le_of_ble_eq_true rfl, Nat.le_of_ble_eq_true rfl⟩ ⟨Nat.le_of_ble_eq_true rfl, Nat.le_of_ble_eq_true rfl⟩ (As := [.ref xp11_, .int (J l6_115)]) (rest := []) rfl rfl hl.1 (Nat.le_of_ble_eq_true rfl) 163 rfl dX9_plan_160 (fun v_63 H locs hq63_ hw => ?_)
                        obtain ⟨ev63_, hh63_⟩ := hq63_
                        rw [ev63_] at hw; clear ev63_
                        refine j_iinc E 166 rfl [(6, .int (J (l6_115 + 1))), (0, .ref o), (1, .int (J v_s)), (2, .int (J v_m)), (3, .int (J v_w)), (4, .int (J s0_53)), (5, .ref xp11_)] dX9_plan_163 hl (kk := 6) rfl (by decide) rfl (fun ls hl => ?_)
                        refine j_goto E 115 dX9_plan_166 (by decide) ?_
                        exact ih115 (l6_115 + 1) y65_62 y66_62 H locs ls (rr (by omega)) (by first | omega | (simp only [upB_same]; omega)) (by omega) hw (lv_sub hl [1, 2, 3, 4, 5, 6, 0] rfl)
                exact L115_45 _ 0 y65_44 y66_44 H locs ls (rr (by decide)) (by first | omega | (simp only [upB_same]; omega)) (Nat.lt_succ_self _) hw (lv_sub hl [2, 3, 4, 5, 6, 1, 0] rfl)
            refine j_iload_n E 56 rfl dX9_plan_55 rfl (lv_at hl 4 rfl) ?_
            refine j_if_eq E 59 71 rfl r_v_w dX9_plan_56 (by decide) (fun cc64_ => ?_) (fun cc64_ => ?_)
            · exact L71_9   H locs ls  (trivial) hw (lv_sub hl [1, 2, 3, 4, 0] rfl)
            · refine j_iload_n E 60 rfl dX9_plan_59 rfl (lv_at hl 4 rfl) ?_
              refine j_iconst E 61 rfl dX9_plan_60 ?_
              refine j_icmp_eq E 64 71 rfl r_v_w (rr (by decide)) dX9_plan_61 (by decide) (fun cc65_ => ?_) (fun cc65_ => ?_)
              · exact L71_9   H locs ls  (trivial) hw (lv_sub hl [1, 2, 3, 4, 0] rfl)
              · refine j_iload E 66 rfl dX9_plan_64 (lv_at hl 0 rfl) ?_
                refine j_if_ne E 69 71 rfl r_s0_53 dX9_plan_66 (by decide) (fun cc66_ => ?_) (fun cc66_ => ?_)
                · exact L71_9   H locs ls  (trivial) hw (lv_sub hl [1, 2, 3, 4, 0] rfl)
                · refine j_iconst E 70 rfl dX9_plan_69 ?_
                  exact hret 70 ((-1)) T (upV (upV (upV v_0 64 (v_0 64)) 65 (v_0 65)) 66 (v_0 66)) _ _ ls _ _ (cw_eq hw (by first | rfl | (funext j_; simp only [upV, reduceIte]; (repeat' split) <;> first | rfl | omega | (subst_vars; rfl)))) hoT_ (rr (by decide)) ⟨(v_0 64), (v_0 65), (v_0 66), rfl, t_o⟩ (Nat.le_of_ble_eq_true rfl) (Nat.le_of_ble_eq_true rfl) dX9_plan_70
          refine j_iload_n E 29 rfl dX9_plan_28 rfl (lv_at hl 3 rfl) ?_
          refine j_bipush E 31 rfl dX9_plan_29 (by decide) ?_
          refine j_icmp_lt E 34 52 rfl r_v_w (rr (by decide)) dX9_plan_31 (by decide) (fun cc67_ => ?_) (fun cc67_ => ?_)
          · refine j_iconst E 53 rfl dX9_plan_52 ?_
            exact L53_7 0  H locs ls (rr (by decide)) (trivial) hw (lv_sub hl [0, 1, 2, 3] rfl)
          · refine j_iload_n E 35 rfl dX9_plan_34 rfl (lv_at hl 3 rfl) ?_
            refine j_bipush E 37 rfl dX9_plan_35 (by decide) ?_
            refine j_isub E 38 rfl dX9_plan_37 ?_
            refine j_norm (fun zz68_ rr68_ ee68_ => ?_)
            refine j_aload_n E 39 rfl dX9_plan_38 rfl (lv_at hl 0 rfl) ?_
            refine g_180 E hK hw fl_X9_12 t_o 42 rfl dX9_plan_39 ?_
            refine kV_i E (c_Jx4a65c_size_8abf5 l D cy T (v_0) (T 180 o)  (wt_180 hT t_o)  ) mt_Jx4a65c_size_8abf5 ml_X9_80 hK hw (cw_rc10 hK hw.1 (wt_180 hT t_o)) hA ⟨Nat.le_of_ble_eq_true rfl, Nat.le_of_ble_eq_true rfl⟩ ⟨Nat.le_of_ble_eq_true rfl, Nat.le_of_ble_eq_true rfl⟩ (As := []) (rest := [.int (J zz68_)]) rfl rfl hl.1 (Nat.le_of_ble_eq_true rfl) 45 rfl dX9_plan_42 (fun zz69_ v_69 H locs rr69_ hq69_ hw => ?_)
            obtain ⟨ev69_, hh69_⟩ := hq69_
            rw [ev69_] at hw; clear ev69_
            have hh69_ : zz69_ = ((v_0 202) ((T 180 o))) ∧ 0 ≤ zz69_ := hh69_
            refine j_icmp_ge E 48 52 rfl rr68_ rr69_ dX9_plan_45 (by decide) (fun cc70_ => ?_) (fun cc70_ => ?_)
            · refine j_iconst E 53 rfl dX9_plan_52 ?_
              exact L53_7 0  H locs ls (rr (by decide)) (trivial) hw (lv_sub hl [0, 1, 2, 3] rfl)
            · refine j_iconst E 49 rfl dX9_plan_48 ?_
              refine j_goto E 53 dX9_plan_49 (by decide) ?_
              exact L53_7 1  H locs ls (rr (by decide)) (trivial) hw (lv_sub hl [0, 1, 2, 3] rfl)
        · refine j_iconst E 27 rfl dX9_plan_26 ?_
          exact hret 27 ((-1)) T (upV (upV (upV v_0 64 (v_0 64)) 65 (v_0 65)) 66 (v_0 66)) _ _ ls _ _ (cw_eq hw (by first | rfl | (funext j_; simp only [upV, reduceIte]; (repeat' split) <;> first | rfl | omega | (subst_vars; rfl)))) hoT_ (rr (by decide)) ⟨(v_0 64), (v_0 65), (v_0 66), rfl, t_o⟩ (Nat.le_of_ble_eq_true rfl) (Nat.le_of_ble_eq_true rfl) dX9_plan_27
