theorem wpl_ {T : Nat → Nat → Nat} (h : WT T) {a x : Nat} (ha : T 0 a = 9) (hx : dcd (T 197 a) = some x) : T 0 x = 3 := (wt9 h ha).2.2.2.2.2.2.2.2.2.2.2.2.2.2.2.2.2.2.2.2.2.2.2.2.2 x hx
set_option maxHeartbeats 4000000 in
set_option maxRecDepth 100000 in
theorem n_X9_plan (l : Launch) (D : va_G) (cy : Nat → ClassId) (κ T : Nat → Nat → Nat) (v_0 : Nat → Nat → Int) (o : Nat) (v_s : Int) (v_m : Int) (v_w : Int) (sz : Nat) (hO : ∀ x, ow T x → κ 2 2 ≤ x) (t_o : T 0 o = 9) (r_v_s : inR v_s) (r_v_m : inR v_m) (r_v_w : inR v_w) (hp0 : ∀ x, T 0 x = 26 → x = κ 2 0) (hp1 : v_0 202 (T 180 o) ≤ 24) (hp2 : v_0 202 (T 181 o) ≤ 24) : KA l D cy κ T yX9_plan cX9_plan 7 (some .int) 5 5 6600 [.ref o, .int (J v_s), .int (J v_m), .int (J v_w)] v_0 sz (AI (fun (z_0 : Int) (T_2 : Nat → Nat → Nat) (v_2 : Nat → Nat → Int) => ∃ (y64_2 : Nat → Int) (y65_2 : Nat → Int) (y66_2 : Nat → Int) (y300_2 : Nat → Int) , v_2 = upV (upV (upV (upV v_0 64 y64_2) 65 y65_2) 66 y66_2) 300 y300_2 ∧ ((T_2 0 o = 9 ∧ (T_2 180 o = T 180 o ∧ T_2 181 o = T 181 o ∧ T_2 182 o = T 182 o ∧ T_2 183 o = T 183 o ∧ T_2 185 o = T 185 o) ∧ (∀ b, b < sz → T 0 b ≠ 10 → T 0 b ≠ 24 → T 0 b ≠ 26 → b ≠ o → ∀ j, j ≠ 197 → T_2 j b = T j b) ∧ (∀ i_ : Nat, T_2 (1000 + i_) (T_2 201 (T_2 180 o)) = T (1000 + i_) (T 201 (T 180 o))) ∧ (∀ i_ : Nat, T_2 (1000 + i_) (T_2 201 (T_2 181 o)) = T (1000 + i_) (T 201 (T 181 o))) ∧ (∀ i_ : Nat, T_2 (1000 + i_) (T_2 201 (T_2 182 o)) = T (1000 + i_) (T 201 (T 182 o))) ∧ (∀ i_ : Nat, T_2 (1000 + i_) (T_2 201 (T_2 183 o)) = T (1000 + i_) (T 201 (T 183 o))) ∧ T_2 184 o = T 184 o) ∧ KdA_ T sz [60, 61, 62, 63] (v_0 300) y300_2))) := by
  refine KA.ofi (by decide) (Nat.le_of_ble_eq_true rfl) hO ?_
  intro p e s m below meth c ls ar QW A0 H locs E hK hZ hA hAc hsz hszH_ hnm hw hlo_ hl hret
  have hl : lv_has ls 7 [(0, .ref o), (1, .int (J v_s)), (2, .int (J v_m)), (3, .int (J v_w))] := hl
  have hT : WT T := hw.1.2.1
  have hoT_ : OW T T s.heap.size := OW.rf T _
  have hC_ : ∀ b, b < sz → T 0 b ≠ 10 → T 0 b ≠ 24 → T 0 b ≠ 26 → b ≠ o → ∀ j, j ≠ 197 → T j b = T j b := fun _ _ _ _ _ _ _ _ => rfl
  have tl180_ : T 0 (T 180 o) = 10 := wt_180 hT t_o
  have tx180_ : T 0 (T 201 (T 180 o)) = 24 ∨ T 0 (T 201 (T 180 o)) = 26 := (wt10 hT tl180_).1
  have B180_ : ∀ j, j ≠ 197 → T j (T 180 o) = T j (T 180 o) := fun _ _ => rfl
  have A180_ : ∀ j, j ≠ 197 → T j (T 201 (T 180 o)) = T j (T 201 (T 180 o)) := fun _ _ => rfl
  have tl181_ : T 0 (T 181 o) = 10 := wt_181 hT t_o
  have tx181_ : T 0 (T 201 (T 181 o)) = 24 ∨ T 0 (T 201 (T 181 o)) = 26 := (wt10 hT tl181_).1
  have B181_ : ∀ j, j ≠ 197 → T j (T 181 o) = T j (T 181 o) := fun _ _ => rfl
  have A181_ : ∀ j, j ≠ 197 → T j (T 201 (T 181 o)) = T j (T 201 (T 181 o)) := fun _ _ => rfl
  have tl182_ : T 0 (T 182 o) = 10 := wt_182 hT t_o
  have tx182_ : T 0 (T 201 (T 182 o)) = 24 ∨ T 0 (T 201 (T 182 o)) = 26 := (wt10 hT tl182_).1
  have B182_ : ∀ j, j ≠ 197 → T j (T 182 o) = T j (T 182 o) := fun _ _ => rfl
  have A182_ : ∀ j, j ≠ 197 → T j (T 201 (T 182 o)) = T j (T 201 (T 182 o)) := fun _ _ => rfl
  have tl183_ : T 0 (T 183 o) = 10 := wt_183 hT t_o
  have tx183_ : T 0 (T 201 (T 183 o)) = 24 ∨ T 0 (T 201 (T 183 o)) = 26 := (wt10 hT tl183_).1
  have B183_ : ∀ j, j ≠ 197 → T j (T 183 o) = T j (T 183 o) := fun _ _ => rfl
  have A183_ : ∀ j, j ≠ 197 → T j (T 201 (T 183 o)) = T j (T 201 (T 183 o)) := fun _ _ => rfl
  refine j_aload_n E 1 rfl dX9_plan_0 rfl (lv_at hl 0 rfl) ?_
  refine j_iload_n E 2 rfl dX9_plan_1 rfl (lv_at hl 1 rfl) ?_
  refine kV_i E (c_X9_areLines l D cy T (v_0) o v_s  t_o r_v_s (show ((v_0 202) (T 181 o)) ≤ 24 from by omega)) mt_X9_areLines ml_X9_371 hK hw (cw_rc9 hK hw.1 t_o) hA ⟨Nat.le_of_ble_eq_true rfl, Nat.le_of_ble_eq_true rfl⟩ ⟨Nat.le_of_ble_eq_true rfl, Nat.le_of_ble_eq_true rfl⟩ (As := [.int (J v_s)]) (rest := []) rfl rfl hl.1 (Nat.le_of_ble_eq_true rfl) 5 rfl dX9_plan_2 (fun zz1_ v_1 H locs rr1_ hq1_ hw => ?_)
  obtain ⟨ev1_, hh1_⟩ := hq1_
  rw [ev1_] at hw; clear ev1_
  replace hh1_ : (zz1_ = 1 ∧ Bz_ v_s ((v_0 202) (T 181 o))) ∨ (zz1_ = 0 ∧ ¬ Bz_ v_s ((v_0 202) (T 181 o))) := hh1_
  refine j_if_eq E 8 26 rfl rr1_ dX9_plan_5 (by decide) (fun cc2_ => ?_) (fun cc2_ => ?_)
  · refine j_iconst E 27 rfl dX9_plan_26 ?_
    exact hret 27 ((-1)) T (upV (upV (upV (upV v_0 64 (v_0 64)) 65 (v_0 65)) 66 (v_0 66)) 300 (v_0 300)) _ _ ls _ _ (cw_eq hw (by first | rfl | (funext j_; simp only [upV, reduceIte]; (repeat' split) <;> first | rfl | omega | (subst_vars; rfl)))) hoT_ (rr (by decide)) ⟨(v_0 64), (v_0 65), (v_0 66), (v_0 300), rfl, ⟨⟨t_o, ⟨rfl, rfl, rfl, rfl, rfl⟩, hC_, (fun _ => rfl), (fun _ => rfl), (fun _ => rfl), (fun _ => rfl), rfl⟩, KdA_rf⟩⟩ (Nat.le_of_ble_eq_true rfl) (Nat.le_of_ble_eq_true rfl) dX9_plan_27
  · refine j_iload_n E 9 rfl dX9_plan_8 rfl (lv_at hl 1 rfl) ?_
    refine kS_i E (c_J6_bitCount_0f7a4 l D cy T (v_0) v_s   r_v_s ) ms_J6_bitCount_0f7a4 ml_X9_218 hK hw hA ⟨Nat.le_of_ble_eq_true rfl, Nat.le_of_ble_eq_true rfl⟩ ⟨Nat.le_of_ble_eq_true rfl, Nat.le_of_ble_eq_true rfl⟩ (As := [.int (J v_s)]) (rest := []) rfl rfl hl.1 (Nat.le_of_ble_eq_true rfl) 12 rfl dX9_plan_9 (fun zz3_ v_3 H locs rr3_ hq3_ hw => ?_)
    obtain ⟨ev3_, hh3_⟩ := hq3_
    rw [ev3_] at hw; clear ev3_
    replace hh3_ : zz3_ = cn_ v_s := hh3_
    refine j_iconst E 13 rfl dX9_plan_12 ?_
    refine j_icmp_gt E 16 26 rfl rr3_ (rr (by decide)) dX9_plan_13 (by decide) (fun cc4_ => ?_) (fun cc4_ => ?_)
    · refine j_iconst E 27 rfl dX9_plan_26 ?_
      exact hret 27 ((-1)) T (upV (upV (upV (upV v_0 64 (v_0 64)) 65 (v_0 65)) 66 (v_0 66)) 300 (v_0 300)) _ _ ls _ _ (cw_eq hw (by first | rfl | (funext j_; simp only [upV, reduceIte]; (repeat' split) <;> first | rfl | omega | (subst_vars; rfl)))) hoT_ (rr (by decide)) ⟨(v_0 64), (v_0 65), (v_0 66), (v_0 300), rfl, ⟨⟨t_o, ⟨rfl, rfl, rfl, rfl, rfl⟩, hC_, (fun _ => rfl), (fun _ => rfl), (fun _ => rfl), (fun _ => rfl), rfl⟩, KdA_rf⟩⟩ (Nat.le_of_ble_eq_true rfl) (Nat.le_of_ble_eq_true rfl) dX9_plan_27
    · refine j_iload_n E 17 rfl dX9_plan_16 rfl (lv_at hl 2 rfl) ?_
      refine j_iconst E 18 rfl dX9_plan_17 ?_
      refine j_icmp_lt E 21 26 rfl r_v_m (rr (by decide)) dX9_plan_18 (by decide) (fun cc5_ => ?_) (fun cc5_ => ?_)
      · refine j_iconst E 27 rfl dX9_plan_26 ?_
        exact hret 27 ((-1)) T (upV (upV (upV (upV v_0 64 (v_0 64)) 65 (v_0 65)) 66 (v_0 66)) 300 (v_0 300)) _ _ ls _ _ (cw_eq hw (by first | rfl | (funext j_; simp only [upV, reduceIte]; (repeat' split) <;> first | rfl | omega | (subst_vars; rfl)))) hoT_ (rr (by decide)) ⟨(v_0 64), (v_0 65), (v_0 66), (v_0 300), rfl, ⟨⟨t_o, ⟨rfl, rfl, rfl, rfl, rfl⟩, hC_, (fun _ => rfl), (fun _ => rfl), (fun _ => rfl), (fun _ => rfl), rfl⟩, KdA_rf⟩⟩ (Nat.le_of_ble_eq_true rfl) (Nat.le_of_ble_eq_true rfl) dX9_plan_27
      · refine j_iload_n E 22 rfl dX9_plan_21 rfl (lv_at hl 2 rfl) ?_
        refine j_iconst E 23 rfl dX9_plan_22 ?_
        refine j_icmp_le E 26 28 rfl r_v_m (rr (by decide)) dX9_plan_23 (by decide) (fun cc6_ => ?_) (fun cc6_ => ?_)
        · have L53_7 : ∀ (s0_53 : Int) (H : Heap) (locs : List Loc) (ls : Array Slot), inR s0_53 → (True) → WK D cy T (v_0) A0 s.heap H locs → lv_has ls 7 [(0, .ref o), (1, .int (J v_s)), (2, .int (J v_m)), (3, .int (J v_w))] → W p l e (rmd 5 5 6600) s m ar below meth c H locs 0 0 QW (F0 m 53 ls [.int (J s0_53)]) := by
            intro s0_53 H locs ls r_s0_53 iv53 hw hl
            refine j_istore E 55 rfl [(4, .int (J s0_53)), (0, .ref o), (1, .int (J v_s)), (2, .int (J v_m)), (3, .int (J v_w))] dX9_plan_53 hl (by decide) rfl (fun ls hl => ?_)
            have L71_9 : ∀ (H : Heap) (locs : List Loc) (ls : Array Slot), (True) → WK D cy T (v_0) A0 s.heap H locs → lv_has ls 7 [(0, .ref o), (1, .int (J v_s)), (2, .int (J v_m)), (3, .int (J v_w)), (4, .int (J s0_53))] → W p l e (rmd 5 5 6600) s m ar below meth c H locs 0 0 QW (F0 m 71 ls []) := by
              intro H locs ls iv71 hw hl
              refine j_aload_n E 72 rfl dX9_plan_71 rfl (lv_at hl 0 rfl) ?_
              refine g_197 E hK hw fl_X9_76 t_o 75 rfl dX9_plan_72 ?_
              cases hd11_ : dcd (T 197 o) with
              | none =>
                show W p l e (rmd 5 5 6600) s m ar below meth c H locs _ _ QW (F0 m 75 ls [.null])
                refine j_ifnonnullN E 78 rfl dX9_plan_75 ?_
                have hw0_ := hw
                refine n_obj3 E hK hw hA cl_X9_374 (Nat.le_of_ble_eq_true rfl) (Nat.le_of_ble_eq_true rfl) 81 rfl dX9_plan_78 (fun q12_ T12_ H hge12_ hx12_ ho12_ tq12_ hw => ?_)
                have fq12_ : s.heap.size ≤ q12_ := Nat.le_trans hw0_.2.2.1 hge12_
                have hw : WK D cy T12_ (upV (upV (upV v_0 64 (upB (v_0 64) q12_ 0)) 65 (upB (v_0 65) q12_ 0)) 66 (upB (v_0 66) q12_ 0)) A0 s.heap H locs := cw_eq hw (by first | rfl | (funext j_; simp only [upV, reduceIte]; (repeat' split) <;> first | rfl | omega | (subst_vars; rfl)))
                have hT12_ : WT T12_ := hw.1.2.1
                have hO12_ : ∀ x, ow T12_ x → κ 2 2 ≤ x := fun x h => hAc x (hw.2.1 x h)
                have hoT_ : OW T T12_ s.heap.size := OW.tr hw0_.2.2.1 hoT_ ho12_
                have hC_ : ∀ b, b < sz → T 0 b ≠ 10 → T 0 b ≠ 24 → T 0 b ≠ 26 → b ≠ o → ∀ j, j ≠ 197 → T12_ j b = T j b := fun b_ h1_ h2_ h3_ h4_ h5_ j_ h6_ => (hx12_ b_ (by have := hw0_.2.2.1; have := hge12_; omega) j_).trans (hC_ b_ h1_ h2_ h3_ h4_ h5_ j_ h6_)
                have B180n_ : ∀ j_, j_ ≠ 197 → T12_ j_ (T 180 o) = T j_ (T 180 o) := fun j_ hj_ => (hx12_ (T 180 o) (Nat.ne_of_lt (Nat.lt_of_lt_of_le (cw_lt hw0_.1 ((B180_ 0 (by decide)).trans tl180_) (fun _ _ _ => ⟨_, rfl⟩)) hge12_)) j_).trans (B180_ j_ hj_)
                have A180n_ : ∀ j_, j_ ≠ 197 → T12_ j_ (T 201 (T 180 o)) = T j_ (T 201 (T 180 o)) := fun j_ hj_ => (hx12_ (T 201 (T 180 o)) (Nat.ne_of_lt (Nat.lt_of_lt_of_le (cw_ltq hw0_.1 (by rw [A180_ 0 (by decide)]; exact tx180_)) hge12_)) j_).trans (A180_ j_ hj_)
                have B181n_ : ∀ j_, j_ ≠ 197 → T12_ j_ (T 181 o) = T j_ (T 181 o) := fun j_ hj_ => (hx12_ (T 181 o) (Nat.ne_of_lt (Nat.lt_of_lt_of_le (cw_lt hw0_.1 ((B181_ 0 (by decide)).trans tl181_) (fun _ _ _ => ⟨_, rfl⟩)) hge12_)) j_).trans (B181_ j_ hj_)
                have A181n_ : ∀ j_, j_ ≠ 197 → T12_ j_ (T 201 (T 181 o)) = T j_ (T 201 (T 181 o)) := fun j_ hj_ => (hx12_ (T 201 (T 181 o)) (Nat.ne_of_lt (Nat.lt_of_lt_of_le (cw_ltq hw0_.1 (by rw [A181_ 0 (by decide)]; exact tx181_)) hge12_)) j_).trans (A181_ j_ hj_)
                have B182n_ : ∀ j_, j_ ≠ 197 → T12_ j_ (T 182 o) = T j_ (T 182 o) := fun j_ hj_ => (hx12_ (T 182 o) (Nat.ne_of_lt (Nat.lt_of_lt_of_le (cw_lt hw0_.1 ((B182_ 0 (by decide)).trans tl182_) (fun _ _ _ => ⟨_, rfl⟩)) hge12_)) j_).trans (B182_ j_ hj_)
                have A182n_ : ∀ j_, j_ ≠ 197 → T12_ j_ (T 201 (T 182 o)) = T j_ (T 201 (T 182 o)) := fun j_ hj_ => (hx12_ (T 201 (T 182 o)) (Nat.ne_of_lt (Nat.lt_of_lt_of_le (cw_ltq hw0_.1 (by rw [A182_ 0 (by decide)]; exact tx182_)) hge12_)) j_).trans (A182_ j_ hj_)
                have B183n_ : ∀ j_, j_ ≠ 197 → T12_ j_ (T 183 o) = T j_ (T 183 o) := fun j_ hj_ => (hx12_ (T 183 o) (Nat.ne_of_lt (Nat.lt_of_lt_of_le (cw_lt hw0_.1 ((B183_ 0 (by decide)).trans tl183_) (fun _ _ _ => ⟨_, rfl⟩)) hge12_)) j_).trans (B183_ j_ hj_)
                have A183n_ : ∀ j_, j_ ≠ 197 → T12_ j_ (T 201 (T 183 o)) = T j_ (T 201 (T 183 o)) := fun j_ hj_ => (hx12_ (T 201 (T 183 o)) (Nat.ne_of_lt (Nat.lt_of_lt_of_le (cw_ltq hw0_.1 (by rw [A183_ 0 (by decide)]; exact tx183_)) hge12_)) j_).trans (A183_ j_ hj_)
                have B180_ := B180n_
                have A180_ := A180n_
                have B181_ := B181n_
                have A181_ := A181n_
                have B182_ := B182n_
                have A182_ := A182n_
                have B183_ := B183n_
                have A183_ := A183n_
                have u13_ : T12_ 0 o = 9 := (hx12_ o (Nat.ne_of_lt (Nat.lt_of_lt_of_le (cw_lt hw0_.1 t_o (fun _ _ _ => ⟨_, rfl⟩)) hge12_)) 0).trans t_o
                have u14_ : T12_ 180 o = T 180 o := (hx12_ o (Nat.ne_of_lt (Nat.lt_of_lt_of_le (cw_lt hw0_.1 t_o (fun _ _ _ => ⟨_, rfl⟩)) hge12_)) 180).trans rfl
                have u15_ : T12_ 181 o = T 181 o := (hx12_ o (Nat.ne_of_lt (Nat.lt_of_lt_of_le (cw_lt hw0_.1 t_o (fun _ _ _ => ⟨_, rfl⟩)) hge12_)) 181).trans rfl
                have u16_ : T12_ 182 o = T 182 o := (hx12_ o (Nat.ne_of_lt (Nat.lt_of_lt_of_le (cw_lt hw0_.1 t_o (fun _ _ _ => ⟨_, rfl⟩)) hge12_)) 182).trans rfl
                have u17_ : T12_ 183 o = T 183 o := (hx12_ o (Nat.ne_of_lt (Nat.lt_of_lt_of_le (cw_lt hw0_.1 t_o (fun _ _ _ => ⟨_, rfl⟩)) hge12_)) 183).trans rfl
                have u18_ : T12_ 185 o = T 185 o := (hx12_ o (Nat.ne_of_lt (Nat.lt_of_lt_of_le (cw_lt hw0_.1 t_o (fun _ _ _ => ⟨_, rfl⟩)) hge12_)) 185).trans rfl
                have u19_ : T12_ 184 o = T 184 o := (hx12_ o (Nat.ne_of_lt (Nat.lt_of_lt_of_le (cw_lt hw0_.1 t_o (fun _ _ _ => ⟨_, rfl⟩)) hge12_)) 184).trans rfl
                refine j_dup E 82 rfl dX9_plan_81 rfl ?_
                have hw0_ := hw
                refine aN_v E (n_X2_init l D cy κ T12_ (upV (upV (upV v_0 64 (upB (v_0 64) q12_ 0)) 65 (upB (v_0 65) q12_ 0)) 66 (upB (v_0 66) q12_ 0)) q12_ H.size  hO12_ tq12_  ) mi_X2_init hZ.1.mP hK hZ hAc hw hA ⟨(Nat.le_of_ble_eq_true rfl), (Nat.le_of_ble_eq_true rfl)⟩ ⟨(Nat.le_of_ble_eq_true rfl), (Nat.le_of_ble_eq_true rfl)⟩ (As := []) (rest := [.ref q12_]) rfl rfl hl.1 (Nat.le_of_ble_eq_true rfl) 85 rfl dX9_plan_82 (fun T20_ v_20 H locs hge20_ ho20_ hq20_ hw => ?_)
                obtain ⟨y64_20, y65_20, y66_20, y300_20, ev20_, hh20_⟩ := hq20_
                rw [ev20_] at hw; clear ev20_
                obtain ⟨hh20_, kf20_⟩ := hh20_
                have kd21_ : KdA_ T sz [60, 61, 62, 63] (v_0 300) (y300_20) := KdA_tr KdA_rf (KdA_ka kf20_ (by have := hw0_.2.2.1; omega) (by decide) (C20_ hC_ t_o (by decide)))
                have hw : WK D cy T20_ (upV (upV (upV (upV v_0 64 y64_20) 65 y65_20) 66 y66_20) 300 y300_20) A0 s.heap H locs := cw_eq hw (by first | rfl | (funext j_; simp only [upV, reduceIte]; (repeat' split) <;> first | rfl | omega | (subst_vars; rfl)))
                obtain ⟨hx20_, tq20_⟩ := hh20_
                have hT20_ : WT T20_ := hw.1.2.1
                have hO20_ : ∀ x, ow T20_ x → κ 2 2 ≤ x := fun x h => hAc x (hw.2.1 x h)
                have hoT_ : OW T T20_ s.heap.size := OW.tr hw0_.2.2.1 hoT_ ho20_
                have hC_ : ∀ b, b < sz → T 0 b ≠ 10 → T 0 b ≠ 24 → T 0 b ≠ 26 → b ≠ o → ∀ j, j ≠ 197 → T20_ j b = T j b := fun b_ h1_ h2_ h3_ h4_ h5_ j_ h6_ => (hx20_ b_ (by have := hw0_.2.2.1; omega) (by have := fq12_; omega) j_).trans (hC_ b_ h1_ h2_ h3_ h4_ h5_ j_ h6_)
                have B180n_ : ∀ j_, j_ ≠ 197 → T20_ j_ (T 180 o) = T j_ (T 180 o) := fun j_ hj_ => (hx20_ (T 180 o) (cw_lt hw0_.1 ((B180_ 0 (by decide)).trans tl180_) (fun _ _ _ => ⟨_, rfl⟩)) (ty_ne ((B180_ 0 (by decide)).trans tl180_) tq12_ (by decide)) j_).trans (B180_ j_ hj_)
                have A180n_ : ∀ j_, j_ ≠ 197 → T20_ j_ (T 201 (T 180 o)) = T j_ (T 201 (T 180 o)) := fun j_ hj_ => (hx20_ (T 201 (T 180 o)) (cw_ltq hw0_.1 (by rw [A180_ 0 (by decide)]; exact tx180_)) (ty_neq (by rw [A180_ 0 (by decide)]; exact tx180_) tq12_ (by decide) (by decide)) j_).trans (A180_ j_ hj_)
                have B181n_ : ∀ j_, j_ ≠ 197 → T20_ j_ (T 181 o) = T j_ (T 181 o) := fun j_ hj_ => (hx20_ (T 181 o) (cw_lt hw0_.1 ((B181_ 0 (by decide)).trans tl181_) (fun _ _ _ => ⟨_, rfl⟩)) (ty_ne ((B181_ 0 (by decide)).trans tl181_) tq12_ (by decide)) j_).trans (B181_ j_ hj_)
                have A181n_ : ∀ j_, j_ ≠ 197 → T20_ j_ (T 201 (T 181 o)) = T j_ (T 201 (T 181 o)) := fun j_ hj_ => (hx20_ (T 201 (T 181 o)) (cw_ltq hw0_.1 (by rw [A181_ 0 (by decide)]; exact tx181_)) (ty_neq (by rw [A181_ 0 (by decide)]; exact tx181_) tq12_ (by decide) (by decide)) j_).trans (A181_ j_ hj_)
                have B182n_ : ∀ j_, j_ ≠ 197 → T20_ j_ (T 182 o) = T j_ (T 182 o) := fun j_ hj_ => (hx20_ (T 182 o) (cw_lt hw0_.1 ((B182_ 0 (by decide)).trans tl182_) (fun _ _ _ => ⟨_, rfl⟩)) (ty_ne ((B182_ 0 (by decide)).trans tl182_) tq12_ (by decide)) j_).trans (B182_ j_ hj_)
                have A182n_ : ∀ j_, j_ ≠ 197 → T20_ j_ (T 201 (T 182 o)) = T j_ (T 201 (T 182 o)) := fun j_ hj_ => (hx20_ (T 201 (T 182 o)) (cw_ltq hw0_.1 (by rw [A182_ 0 (by decide)]; exact tx182_)) (ty_neq (by rw [A182_ 0 (by decide)]; exact tx182_) tq12_ (by decide) (by decide)) j_).trans (A182_ j_ hj_)
                have B183n_ : ∀ j_, j_ ≠ 197 → T20_ j_ (T 183 o) = T j_ (T 183 o) := fun j_ hj_ => (hx20_ (T 183 o) (cw_lt hw0_.1 ((B183_ 0 (by decide)).trans tl183_) (fun _ _ _ => ⟨_, rfl⟩)) (ty_ne ((B183_ 0 (by decide)).trans tl183_) tq12_ (by decide)) j_).trans (B183_ j_ hj_)
                have A183n_ : ∀ j_, j_ ≠ 197 → T20_ j_ (T 201 (T 183 o)) = T j_ (T 201 (T 183 o)) := fun j_ hj_ => (hx20_ (T 201 (T 183 o)) (cw_ltq hw0_.1 (by rw [A183_ 0 (by decide)]; exact tx183_)) (ty_neq (by rw [A183_ 0 (by decide)]; exact tx183_) tq12_ (by decide) (by decide)) j_).trans (A183_ j_ hj_)
                have B180_ := B180n_
                have A180_ := A180n_
                have B181_ := B181n_
                have A181_ := A181n_
                have B182_ := B182n_
                have A182_ := A182n_
                have B183_ := B183n_
                have A183_ := A183n_
                have u22_ : T20_ 0 o = 9 := (hx20_ o (cw_lt hw0_.1 u13_ (fun _ _ _ => ⟨_, rfl⟩)) (ty_ne u13_ tq12_ (by decide)) 0).trans u13_
                have u23_ : T20_ 180 o = T 180 o := (hx20_ o (cw_lt hw0_.1 u13_ (fun _ _ _ => ⟨_, rfl⟩)) (ty_ne u13_ tq12_ (by decide)) 180).trans u14_
                have u24_ : T20_ 181 o = T 181 o := (hx20_ o (cw_lt hw0_.1 u13_ (fun _ _ _ => ⟨_, rfl⟩)) (ty_ne u13_ tq12_ (by decide)) 181).trans u15_
                have u25_ : T20_ 182 o = T 182 o := (hx20_ o (cw_lt hw0_.1 u13_ (fun _ _ _ => ⟨_, rfl⟩)) (ty_ne u13_ tq12_ (by decide)) 182).trans u16_
                have u26_ : T20_ 183 o = T 183 o := (hx20_ o (cw_lt hw0_.1 u13_ (fun _ _ _ => ⟨_, rfl⟩)) (ty_ne u13_ tq12_ (by decide)) 183).trans u17_
                have u27_ : T20_ 185 o = T 185 o := (hx20_ o (cw_lt hw0_.1 u13_ (fun _ _ _ => ⟨_, rfl⟩)) (ty_ne u13_ tq12_ (by decide)) 185).trans u18_
                have u28_ : T20_ 184 o = T 184 o := (hx20_ o (cw_lt hw0_.1 u13_ (fun _ _ _ => ⟨_, rfl⟩)) (ty_ne u13_ tq12_ (by decide)) 184).trans u19_
                refine j_goto E 92 dX9_plan_85 (by decide) ?_
                refine j_astore E 94 rfl [(5, .ref q12_), (0, .ref o), (1, .int (J v_s)), (2, .int (J v_m)), (3, .int (J v_w)), (4, .int (J s0_53))] dX9_plan_92 hl (by decide) rfl (fun ls hl => ?_)
                refine j_aload_n E 95 rfl dX9_plan_94 rfl (lv_at hl 1 rfl) ?_
                refine j_aload E 97 rfl dX9_plan_95 (lv_at hl 0 rfl) ?_
                have hw0_ := hw
                refine pl_put E hK hw fl_X9_76 u22_ tq20_ 100 rfl dX9_plan_97 (fun T29_ H locs hx29_ ho29_ hw => ?_)
                have hT29_ : WT T29_ := hw.1.2.1
                have hO29_ : ∀ x, ow T29_ x → κ 2 2 ≤ x := fun x h => hAc x (hw.2.1 x h)
                have hoT_ : OW T T29_ s.heap.size := OW.tr0 hoT_ ho29_
                have hC_ : ∀ b, b < sz → T 0 b ≠ 10 → T 0 b ≠ 24 → T 0 b ≠ 26 → b ≠ o → ∀ j, j ≠ 197 → T29_ j b = T j b := fun b_ h1_ h2_ h3_ h4_ h5_ j_ h6_ => (hx29_ j_ h6_ b_).trans (hC_ b_ h1_ h2_ h3_ h4_ h5_ j_ h6_)
                have B180n_ : ∀ j_, j_ ≠ 197 → T29_ j_ (T 180 o) = T j_ (T 180 o) := fun j_ hj_ => (hx29_ j_ hj_ (T 180 o)).trans (B180_ j_ hj_)
                have A180n_ : ∀ j_, j_ ≠ 197 → T29_ j_ (T 201 (T 180 o)) = T j_ (T 201 (T 180 o)) := fun j_ hj_ => (hx29_ j_ hj_ (T 201 (T 180 o))).trans (A180_ j_ hj_)
                have B181n_ : ∀ j_, j_ ≠ 197 → T29_ j_ (T 181 o) = T j_ (T 181 o) := fun j_ hj_ => (hx29_ j_ hj_ (T 181 o)).trans (B181_ j_ hj_)
                have A181n_ : ∀ j_, j_ ≠ 197 → T29_ j_ (T 201 (T 181 o)) = T j_ (T 201 (T 181 o)) := fun j_ hj_ => (hx29_ j_ hj_ (T 201 (T 181 o))).trans (A181_ j_ hj_)
                have B182n_ : ∀ j_, j_ ≠ 197 → T29_ j_ (T 182 o) = T j_ (T 182 o) := fun j_ hj_ => (hx29_ j_ hj_ (T 182 o)).trans (B182_ j_ hj_)
                have A182n_ : ∀ j_, j_ ≠ 197 → T29_ j_ (T 201 (T 182 o)) = T j_ (T 201 (T 182 o)) := fun j_ hj_ => (hx29_ j_ hj_ (T 201 (T 182 o))).trans (A182_ j_ hj_)
                have B183n_ : ∀ j_, j_ ≠ 197 → T29_ j_ (T 183 o) = T j_ (T 183 o) := fun j_ hj_ => (hx29_ j_ hj_ (T 183 o)).trans (B183_ j_ hj_)
                have A183n_ : ∀ j_, j_ ≠ 197 → T29_ j_ (T 201 (T 183 o)) = T j_ (T 201 (T 183 o)) := fun j_ hj_ => (hx29_ j_ hj_ (T 201 (T 183 o))).trans (A183_ j_ hj_)
                have B180_ := B180n_
                have A180_ := A180n_
                have B181_ := B181n_
                have A181_ := A181n_
                have B182_ := B182n_
                have A182_ := A182n_
                have B183_ := B183n_
                have A183_ := A183n_
                have u30_ : T29_ 0 o = 9 := (hx29_ 0 (by decide) o).trans u22_
                have u31_ : T29_ 0 q12_ = 3 := (hx29_ 0 (by decide) q12_).trans tq20_
                have u32_ : T29_ 180 o = T 180 o := (hx29_ 180 (by decide) o).trans u23_
                have u33_ : T29_ 181 o = T 181 o := (hx29_ 181 (by decide) o).trans u24_
                have u34_ : T29_ 182 o = T 182 o := (hx29_ 182 (by decide) o).trans u25_
                have u35_ : T29_ 183 o = T 183 o := (hx29_ 183 (by decide) o).trans u26_
                have u36_ : T29_ 185 o = T 185 o := (hx29_ 185 (by decide) o).trans u27_
                have u37_ : T29_ 184 o = T 184 o := (hx29_ 184 (by decide) o).trans u28_
                refine j_aload E 102 rfl dX9_plan_100 (lv_at hl 0 rfl) ?_
                refine j_aload_n E 103 rfl dX9_plan_102 rfl (lv_at hl 1 rfl) ?_
                refine g_180 E hK hw fl_X9_12 u30_ 106 rfl dX9_plan_103 ?_
                refine kV_i E (c_Jx4a65c_size_8abf5 l D cy T29_ (upV (upV (upV (upV v_0 64 y64_20) 65 y65_20) 66 y66_20) 300 y300_20) (T29_ 180 o)  (wt_180 hT29_ u30_)  ) mt_Jx4a65c_size_8abf5 ml_X9_80 hK hw (cw_rc10 hK hw.1 (wt_180 hT29_ u30_)) hA ⟨Nat.le_of_ble_eq_true rfl, Nat.le_of_ble_eq_true rfl⟩ ⟨Nat.le_of_ble_eq_true rfl, Nat.le_of_ble_eq_true rfl⟩ (As := []) (rest := [.ref q12_]) rfl rfl hl.1 (Nat.le_of_ble_eq_true rfl) 109 rfl dX9_plan_106 (fun zz38_ v_38 H locs rr38_ hq38_ hw => ?_)
                obtain ⟨ev38_, hh38_⟩ := hq38_
                rw [ev38_] at hw; clear ev38_
                replace hh38_ : zz38_ = ((v_0 202) ((T29_ 180 o))) ∧ 0 ≤ zz38_ := hh38_
                refine kV_v E (c_X2_begin l D cy T29_ (upV (upV (upV (upV v_0 64 y64_20) 65 y65_20) 66 y66_20) 300 y300_20) q12_ zz38_  u31_ rr38_ ) mt_X2_begin ml_X9_377 hK hw (cw_rc3 hK hw.1 u31_) hA ⟨Nat.le_of_ble_eq_true rfl, Nat.le_of_ble_eq_true rfl⟩ ⟨Nat.le_of_ble_eq_true rfl, Nat.le_of_ble_eq_true rfl⟩ (As := [.int (J zz38_)]) (rest := []) rfl rfl hl.1 (Nat.le_of_ble_eq_true rfl) 112 rfl dX9_plan_109 (fun v_39 H locs hq39_ hw => ?_)
                obtain ⟨y64_39, y65_39, y66_39, y300_39, ev39_, hh39_⟩ := hq39_
                rw [ev39_] at hw; clear ev39_
                have hw : WK D cy T29_ (upV (upV (upV (upV v_0 64 y64_39) 65 y65_39) 66 y66_39) 300 y300_39) A0 s.heap H locs := cw_eq hw (by first | rfl | (funext j_; simp only [upV, reduceIte]; (repeat' split) <;> first | rfl | omega | (subst_vars; rfl)))
                obtain ⟨hh39_, kf39_⟩ := hh39_
                have kd40_ : KdA_ T sz [60, 61, 62, 63] (v_0 300) (y300_39) := KdA_tr kd21_ (KdA_kc kf39_ (by decide) (fun b_ h1_ h2_ => ((C20_ hC_ t_o (by decide)) b_ h1_ h2_).2))
                replace hh39_ : (y65_39 q12_) = 0 ∧ (y66_39 q12_) = 0 ∧ 0 ≤ (y64_39 q12_) ∧ (y64_39 q12_) ≤ 24 := hh39_
                refine j_iconst E 113 rfl dX9_plan_112 ?_
                refine j_istore E 115 rfl [(6, .int (J 0)), (5, .ref q12_), (0, .ref o), (1, .int (J v_s)), (2, .int (J v_m)), (3, .int (J v_w)), (4, .int (J s0_53))] dX9_plan_113 hl (by decide) rfl (fun ls hl => ?_)
                have L115_41 : ∀ (k115 : Nat) (l6_115 : Int) (y65_c115 : Nat → Int) (y66_c115 : Nat → Int) (y300_c115 : Nat → Int) (H : Heap) (locs : List Loc) (ls : Array Slot), inR l6_115 → ((0 ≤ l6_115 ∧ 0 ≤ (y66_c115 q12_) ∧ (y66_c115 q12_) ≤ 255 ∧ 0 ≤ (y65_c115 q12_) ∧ (y65_c115 q12_) ≤ 4 ∧ 0 ≤ (y64_39 q12_) ∧ (y64_39 q12_) ≤ 24) ∧ KdA_ T sz [60, 61, 62, 63] (v_0 300) y300_c115) → ((v_0 202 (T29_ 181 o)) - l6_115).toNat < k115 → WK D cy T29_ (upV (upV (upV (upV v_0 64 y64_39) 65 y65_c115) 66 y66_c115) 300 y300_c115) A0 s.heap H locs → lv_has ls 7 [(0, .ref o), (1, .int (J v_s)), (2, .int (J v_m)), (3, .int (J v_w)), (4, .int (J s0_53)), (5, .ref q12_), (6, .int (J l6_115))] → W p l e (rmd 5 5 6600) s m ar below meth c H locs 5 6531 QW (F0 m 115 ls []) := by
                  intro k115
                  induction k115 with
                  | zero =>
                    intro l6_115 y65_c115 y66_c115 y300_c115 H locs ls r_l6_115 iv115 ms115 hw hl
                    exact absurd ms115 (Nat.not_lt_zero _)
                  | succ k115 ih115 =>
                    intro l6_115 y65_c115 y66_c115 y300_c115 H locs ls r_l6_115 iv115 ms115 hw hl
                    obtain ⟨iv115, ik115_⟩ := iv115
                    refine j_iload E 117 rfl dX9_plan_115 (lv_at hl 6 rfl) ?_
                    refine j_aload_n E 118 rfl dX9_plan_117 rfl (lv_at hl 0 rfl) ?_
                    refine g_181 E hK hw fl_X9_16 u30_ 121 rfl dX9_plan_118 ?_
                    refine kV_i E (c_Jx4a65c_size_8abf5 l D cy T29_ (upV (upV (upV (upV v_0 64 y64_39) 65 y65_c115) 66 y66_c115) 300 y300_c115) (T29_ 181 o)  (wt_181 hT29_ u30_)  ) mt_Jx4a65c_size_8abf5 ml_X9_80 hK hw (cw_rc10 hK hw.1 (wt_181 hT29_ u30_)) hA ⟨Nat.le_of_ble_eq_true rfl, Nat.le_of_ble_eq_true rfl⟩ ⟨Nat.le_of_ble_eq_true rfl, Nat.le_of_ble_eq_true rfl⟩ (As := []) (rest := [.int (J l6_115)]) rfl rfl hl.1 (Nat.le_of_ble_eq_true rfl) 124 rfl dX9_plan_121 (fun zz43_ v_43 H locs rr43_ hq43_ hw => ?_)
                    obtain ⟨ev43_, hh43_⟩ := hq43_
                    rw [ev43_] at hw; clear ev43_
                    replace hh43_ : zz43_ = ((v_0 202) ((T29_ 181 o))) ∧ 0 ≤ zz43_ := hh43_
                    refine j_icmp_ge E 127 169 rfl r_l6_115 rr43_ dX9_plan_124 (by decide) (fun cc44_ => ?_) (fun cc44_ => ?_)
                    · refine j_aload E 171 rfl dX9_plan_169 (lv_at hl 5 rfl) ?_
                      refine kV_v E (c_X2_solve l D cy T29_ (upV (upV (upV (upV v_0 64 y64_39) 65 y65_c115) 66 y66_c115) 300 y300_c115) q12_  u31_  (show 0 ≤ (y66_c115 q12_) ∧ (y66_c115 q12_) ≤ 255 ∧ 0 ≤ (y65_c115 q12_) ∧ (y65_c115 q12_) ≤ 4 ∧ 0 ≤ (y64_39 q12_) ∧ (y64_39 q12_) ≤ 24 from by omega)) mt_X2_solve ml_X9_387 hK hw (cw_rc3 hK hw.1 u31_) hA ⟨Nat.le_of_ble_eq_true rfl, Nat.le_of_ble_eq_true rfl⟩ ⟨Nat.le_of_ble_eq_true rfl, Nat.le_of_ble_eq_true rfl⟩ (As := []) (rest := []) rfl rfl hl.1 (Nat.le_of_ble_eq_true rfl) 174 rfl dX9_plan_171 (fun v_45 H locs hq45_ hw => ?_)
                      obtain ⟨y300_45, ev45_, hh45_⟩ := hq45_
                      rw [ev45_] at hw; clear ev45_
                      have hw : WK D cy T29_ (upV (upV (upV (upV v_0 64 y64_39) 65 y65_c115) 66 y66_c115) 300 y300_45) A0 s.heap H locs := cw_eq hw (by first | rfl | (funext j_; simp only [upV, reduceIte]; (repeat' split) <;> first | rfl | omega | (subst_vars; rfl)))
                      obtain ⟨hh45_, kf45_⟩ := hh45_
                      have kd46_ : KdA_ T sz [60, 61, 62, 63] (v_0 300) (y300_45) := KdA_tr ik115_ (KdA_kc kf45_ (by decide) (fun b_ h1_ h2_ => ((C20_ hC_ t_o (by decide)) b_ h1_ h2_).2))
                      refine j_iload E 176 rfl dX9_plan_174 (lv_at hl 4 rfl) ?_
                      refine j_if_eq E 179 191 rfl r_s0_53 dX9_plan_176 (by decide) (fun cc47_ => ?_) (fun cc47_ => ?_)
                      · refine j_iload_n E 192 rfl dX9_plan_191 rfl (lv_at hl 3 rfl) ?_
                        refine j_if_ne E 195 203 rfl r_v_w dX9_plan_192 (by decide) (fun cc48_ => ?_) (fun cc48_ => ?_)
                        · refine j_aload E 205 rfl dX9_plan_203 (lv_at hl 5 rfl) ?_
                          refine kV_i E (c_X2_teachings l D cy T29_ (upV (upV (upV (upV v_0 64 y64_39) 65 y65_c115) 66 y66_c115) 300 y300_45) q12_  u31_  ) mt_X2_teachings ml_X9_396 hK hw (cw_rc3 hK hw.1 u31_) hA ⟨Nat.le_of_ble_eq_true rfl, Nat.le_of_ble_eq_true rfl⟩ ⟨Nat.le_of_ble_eq_true rfl, Nat.le_of_ble_eq_true rfl⟩ (As := []) (rest := []) rfl rfl hl.1 (Nat.le_of_ble_eq_true rfl) 208 rfl dX9_plan_205 (fun zz49_ v_49 H locs rr49_ hq49_ hw => ?_)
                          obtain ⟨ev49_, hh49_⟩ := hq49_
                          rw [ev49_] at hw; clear ev49_
                          exact hret 208 zz49_ T29_ (upV (upV (upV (upV v_0 64 y64_39) 65 y65_c115) 66 y66_c115) 300 y300_45) _ _ ls _ _ hw hoT_ rr49_ ⟨y64_39, y65_c115, y66_c115, y300_45, rfl, ⟨⟨u30_, ⟨u32_, u33_, u34_, u35_, u36_⟩, hC_, (fun i_ => by rw [u32_, B180_ 201 (by decide), A180_ (1000 + i_) (by omega)]), (fun i_ => by rw [u33_, B181_ 201 (by decide), A181_ (1000 + i_) (by omega)]), (fun i_ => by rw [u34_, B182_ 201 (by decide), A182_ (1000 + i_) (by omega)]), (fun i_ => by rw [u35_, B183_ 201 (by decide), A183_ (1000 + i_) (by omega)]), u37_⟩, kd46_⟩⟩ (Nat.le_of_ble_eq_true rfl) (Nat.le_of_ble_eq_true rfl) dX9_plan_208
                        · refine j_aload E 197 rfl dX9_plan_195 (lv_at hl 5 rfl) ?_
                          refine kV_i E (c_X2_cost l D cy T29_ (upV (upV (upV (upV v_0 64 y64_39) 65 y65_c115) 66 y66_c115) 300 y300_45) q12_  u31_  ) mt_X2_cost ml_X9_393 hK hw (cw_rc3 hK hw.1 u31_) hA ⟨Nat.le_of_ble_eq_true rfl, Nat.le_of_ble_eq_true rfl⟩ ⟨Nat.le_of_ble_eq_true rfl, Nat.le_of_ble_eq_true rfl⟩ (As := []) (rest := []) rfl rfl hl.1 (Nat.le_of_ble_eq_true rfl) 200 rfl dX9_plan_197 (fun zz50_ v_50 H locs rr50_ hq50_ hw => ?_)
                          obtain ⟨ev50_, hh50_⟩ := hq50_
                          rw [ev50_] at hw; clear ev50_
                          refine j_goto E 208 dX9_plan_200 (by decide) ?_
                          exact hret 208 zz50_ T29_ (upV (upV (upV (upV v_0 64 y64_39) 65 y65_c115) 66 y66_c115) 300 y300_45) _ _ ls _ _ hw hoT_ rr50_ ⟨y64_39, y65_c115, y66_c115, y300_45, rfl, ⟨⟨u30_, ⟨u32_, u33_, u34_, u35_, u36_⟩, hC_, (fun i_ => by rw [u32_, B180_ 201 (by decide), A180_ (1000 + i_) (by omega)]), (fun i_ => by rw [u33_, B181_ 201 (by decide), A181_ (1000 + i_) (by omega)]), (fun i_ => by rw [u34_, B182_ 201 (by decide), A182_ (1000 + i_) (by omega)]), (fun i_ => by rw [u35_, B183_ 201 (by decide), A183_ (1000 + i_) (by omega)]), u37_⟩, kd46_⟩⟩ (Nat.le_of_ble_eq_true rfl) (Nat.le_of_ble_eq_true rfl) dX9_plan_208
                      · refine j_aload E 181 rfl dX9_plan_179 (lv_at hl 5 rfl) ?_
                        refine j_iload_n E 182 rfl dX9_plan_181 rfl (lv_at hl 3 rfl) ?_
                        refine j_bipush E 184 rfl dX9_plan_182 (by decide) ?_
                        refine j_isub E 185 rfl dX9_plan_184 ?_
                        refine j_norm (fun zz51_ rr51_ ee51_ => ?_)
                        refine kV_i E (c_X2_lessonOf l D cy T29_ (upV (upV (upV (upV v_0 64 y64_39) 65 y65_c115) 66 y66_c115) 300 y300_45) q12_ zz51_  u31_ rr51_ ) mt_X2_lessonOf ml_X9_390 hK hw (cw_rc3 hK hw.1 u31_) hA ⟨Nat.le_of_ble_eq_true rfl, Nat.le_of_ble_eq_true rfl⟩ ⟨Nat.le_of_ble_eq_true rfl, Nat.le_of_ble_eq_true rfl⟩ (As := [.int (J zz51_)]) (rest := []) rfl rfl hl.1 (Nat.le_of_ble_eq_true rfl) 188 rfl dX9_plan_185 (fun zz52_ v_52 H locs rr52_ hq52_ hw => ?_)
                        obtain ⟨ev52_, hh52_⟩ := hq52_
                        rw [ev52_] at hw; clear ev52_
                        refine j_goto E 208 dX9_plan_188 (by decide) ?_
                        exact hret 208 zz52_ T29_ (upV (upV (upV (upV v_0 64 y64_39) 65 y65_c115) 66 y66_c115) 300 y300_45) _ _ ls _ _ hw hoT_ rr52_ ⟨y64_39, y65_c115, y66_c115, y300_45, rfl, ⟨⟨u30_, ⟨u32_, u33_, u34_, u35_, u36_⟩, hC_, (fun i_ => by rw [u32_, B180_ 201 (by decide), A180_ (1000 + i_) (by omega)]), (fun i_ => by rw [u33_, B181_ 201 (by decide), A181_ (1000 + i_) (by omega)]), (fun i_ => by rw [u34_, B182_ 201 (by decide), A182_ (1000 + i_) (by omega)]), (fun i_ => by rw [u35_, B183_ 201 (by decide), A183_ (1000 + i_) (by omega)]), u37_⟩, kd46_⟩⟩ (Nat.le_of_ble_eq_true rfl) (Nat.le_of_ble_eq_true rfl) dX9_plan_208
                    · refine j_iload_n E 128 rfl dX9_plan_127 rfl (lv_at hl 1 rfl) ?_
                      refine j_iload E 130 rfl dX9_plan_128 (lv_at hl 6 rfl) ?_
                      refine j_iushr E 131 rfl dX9_plan_130 (fun zz53_ rr53_ ee53_ => ?_)
                      refine j_iconst E 132 rfl dX9_plan_131 ?_
                      refine j_iand E 133 rfl dX9_plan_132 (fun zz54_ rr54_ ee54_ => ?_)
                      refine j_if_eq E 136 163 rfl rr54_ dX9_plan_133 (by decide) (fun cc55_ => ?_) (fun cc55_ => ?_)
                      · refine j_iinc E 166 rfl [(6, .int (J (l6_115 + 1))), (0, .ref o), (1, .int (J v_s)), (2, .int (J v_m)), (3, .int (J v_w)), (4, .int (J s0_53)), (5, .ref q12_)] dX9_plan_163 hl (kk := 6) rfl (by decide) rfl (fun ls hl => ?_)
                        refine j_goto E 115 dX9_plan_166 (by decide) ?_
                        exact ih115 (l6_115 + 1) y65_c115 y66_c115 y300_c115 H locs ls (rr (by omega)) (⟨by first | omega | (simp only [upB_same]; omega), ik115_⟩) (by omega) hw (lv_sub hl [1, 2, 3, 4, 5, 6, 0] rfl)
                      · refine j_aload E 138 rfl dX9_plan_136 (lv_at hl 5 rfl) ?_
                        refine j_iload E 140 rfl dX9_plan_138 (lv_at hl 6 rfl) ?_
                        refine j_iconst E 141 rfl dX9_plan_140 ?_
                        refine j_iload_n E 142 rfl dX9_plan_141 rfl (lv_at hl 2 rfl) ?_
                        refine j_aload_n E 143 rfl dX9_plan_142 rfl (lv_at hl 0 rfl) ?_
                        refine j_iload E 145 rfl dX9_plan_143 (lv_at hl 6 rfl) ?_
                        refine kV_i E (c_X9_countHolders l D cy T29_ (upV (upV (upV (upV v_0 64 y64_39) 65 y65_c115) 66 y66_c115) 300 y300_c115) o l6_115  u30_ r_l6_115 (show 0 ≤ l6_115 ∧ l6_115 < 24 from by have h_ := hp2; first | omega | (rw [← u33_] at h_; omega)) (show ((v_0 202) (T29_ 180 o)) ≤ 24 from by first | omega | (rw [u32_]; omega))) mt_X9_countHolders ml_X9_209 hK hw (cw_rc9 hK hw.1 u30_) hA ⟨Nat.le_of_ble_eq_true rfl, Nat.le_of_ble_eq_true rfl⟩ ⟨Nat.le_of_ble_eq_true rfl, Nat.le_of_ble_eq_true rfl⟩ (As := [.int (J l6_115)]) (rest := [.int (J v_m), .int (J 0), .int (J l6_115), .ref q12_]) rfl rfl hl.1 (Nat.le_of_ble_eq_true rfl) 148 rfl dX9_plan_145 (fun zz56_ v_56 H locs rr56_ hq56_ hw => ?_)
                        obtain ⟨ev56_, hh56_⟩ := hq56_
                        rw [ev56_] at hw; clear ev56_
                        replace hh56_ : zz56_ = nq_ (fun p_ => ((v_0 43) ((pe_ T29_ 180 o p_))) = -1 ∧ 0 < gC_ (y300_c115) (T29_ 47 (pe_ T29_ 180 o p_)) l6_115) (((v_0 202) (T29_ 180 o))).toNat := hh56_
                        refine j_isub E 149 rfl dX9_plan_148 ?_
                        refine j_norm (fun zz57_ rr57_ ee57_ => ?_)
                        refine j_max E hl.1 ml_X9_350 (rr (by decide)) rr57_ ⟨Nat.le_of_ble_eq_true rfl, Nat.le_of_ble_eq_true rfl⟩ ⟨Nat.le_of_ble_eq_true rfl, Nat.le_of_ble_eq_true rfl⟩ 152 rfl dX9_plan_149 (fun zz58_ rr58_ hh58_ => ?_)
                        refine kV_v E (c_X2_addLine l D cy T29_ (upV (upV (upV (upV v_0 64 y64_39) 65 y65_c115) 66 y66_c115) 300 y300_c115) q12_ l6_115 zz58_  u31_ r_l6_115 rr58_ (show 0 ≤ (y66_c115 q12_) ∧ (y66_c115 q12_) ≤ 255 ∧ 0 ≤ (y65_c115 q12_) ∧ (y65_c115 q12_) ≤ 4 from by omega)) mt_X2_addLine ml_X9_380 hK hw (cw_rc3 hK hw.1 u31_) hA ⟨Nat.le_of_ble_eq_true rfl, Nat.le_of_ble_eq_true rfl⟩ ⟨Nat.le_of_ble_eq_true rfl, Nat.le_of_ble_eq_true rfl⟩ (As := [.int (J l6_115), .int (J zz58_)]) (rest := []) rfl rfl hl.1 (Nat.le_of_ble_eq_true rfl) 155 rfl dX9_plan_152 (fun v_59 H locs hq59_ hw => ?_)
                        obtain ⟨y65_59, y66_59, y300_59, ev59_, hh59_⟩ := hq59_
                        rw [ev59_] at hw; clear ev59_
                        have hw : WK D cy T29_ (upV (upV (upV (upV v_0 64 y64_39) 65 y65_59) 66 y66_59) 300 y300_59) A0 s.heap H locs := cw_eq hw (by first | rfl | (funext j_; simp only [upV, reduceIte]; (repeat' split) <;> first | rfl | omega | (subst_vars; rfl)))
                        obtain ⟨hh59_, kf59_⟩ := hh59_
                        have kd60_ : KdA_ T sz [60, 61, 62, 63] (v_0 300) (y300_59) := KdA_tr ik115_ (KdA_kc kf59_ (by decide) (fun b_ h1_ h2_ => ((C20_ hC_ t_o (by decide)) b_ h1_ h2_).2))
                        replace hh59_ : 0 ≤ (y66_59 q12_) ∧ (y66_59 q12_) ≤ 255 ∧ 0 ≤ (y65_59 q12_) ∧ (y65_59 q12_) ≤ 4 := hh59_
                        refine j_aload_n E 156 rfl dX9_plan_155 rfl (lv_at hl 0 rfl) ?_
                        refine j_aload E 158 rfl dX9_plan_156 (lv_at hl 5 rfl) ?_
                        refine j_iload E 160 rfl dX9_plan_158 (lv_at hl 6 rfl) ?_
                        refine kV_v E (c_X9_putPrices l D cy T29_ (upV (upV (upV (upV v_0 64 y64_39) 65 y65_59) 66 y66_59) 300 y300_59) o q12_ l6_115  u30_ u31_ r_l6_115 ) mt_X9_putPrices ml_X9_383 hK hw (cw_rc9 hK hw.1 u30_) hA ⟨Nat.le_of_ble_eq_true rfl, Nat.le_of_ble_eq_true rfl⟩ ⟨Nat.le_of_ble_eq_true rfl, Nat.le_of_ble_eq_true rfl⟩ (As := [.ref q12_, .int (J l6_115)]) (rest := []) rfl rfl hl.1 (Nat.le_of_ble_eq_true rfl) 163 rfl dX9_plan_160 (fun v_61 H locs hq61_ hw => ?_)
                        obtain ⟨y300_61, ev61_, hh61_⟩ := hq61_
                        rw [ev61_] at hw; clear ev61_
                        have hw : WK D cy T29_ (upV (upV (upV (upV v_0 64 y64_39) 65 y65_59) 66 y66_59) 300 y300_61) A0 s.heap H locs := cw_eq hw (by first | rfl | (funext j_; simp only [upV, reduceIte]; (repeat' split) <;> first | rfl | omega | (subst_vars; rfl)))
                        obtain ⟨hh61_, kf61_⟩ := hh61_
                        have kd62_ : KdA_ T sz [60, 61, 62, 63] (v_0 300) (y300_61) := KdA_tr kd60_ (KdA_kc kf61_ (by decide) (fun b_ h1_ h2_ => ((C20_ hC_ t_o (by decide)) b_ h1_ h2_).2))
                        refine j_iinc E 166 rfl [(6, .int (J (l6_115 + 1))), (0, .ref o), (1, .int (J v_s)), (2, .int (J v_m)), (3, .int (J v_w)), (4, .int (J s0_53)), (5, .ref q12_)] dX9_plan_163 hl (kk := 6) rfl (by decide) rfl (fun ls hl => ?_)
                        refine j_goto E 115 dX9_plan_166 (by decide) ?_
                        exact ih115 (l6_115 + 1) y65_59 y66_59 y300_61 H locs ls (rr (by omega)) (⟨by first | omega | (simp only [upB_same]; omega), kd62_⟩) (by omega) hw (lv_sub hl [1, 2, 3, 4, 5, 6, 0] rfl)
                exact L115_41 _ 0 y65_39 y66_39 y300_39 H locs ls (rr (by decide)) (⟨by first | omega | (simp only [upB_same]; omega), kd40_⟩) (Nat.lt_succ_self _) hw (lv_sub hl [2, 3, 4, 5, 6, 1, 0] rfl)
              | some xp11_ =>
                show W p l e (rmd 5 5 6600) s m ar below meth c H locs _ _ QW (F0 m 75 ls [.ref xp11_])
                have tp11_ : T 0 xp11_ = 3 := wpl_ hT t_o hd11_
                refine j_ifnonnullR E 88 dX9_plan_75 (by decide) ?_
                refine j_aload_n E 89 rfl dX9_plan_88 rfl (lv_at hl 0 rfl) ?_
                refine g_197 E hK hw fl_X9_76 t_o 92 rfl dX9_plan_89 ?_
                rw [hd11_]
                show W p l e (rmd 5 5 6600) s m ar below meth c H locs _ _ QW (F0 m 92 ls [.ref xp11_])
                refine j_astore E 94 rfl [(5, .ref xp11_), (0, .ref o), (1, .int (J v_s)), (2, .int (J v_m)), (3, .int (J v_w)), (4, .int (J s0_53))] dX9_plan_92 hl (by decide) rfl (fun ls hl => ?_)
                refine j_aload_n E 95 rfl dX9_plan_94 rfl (lv_at hl 1 rfl) ?_
                refine j_aload E 97 rfl dX9_plan_95 (lv_at hl 0 rfl) ?_
                have hw0_ := hw
                refine pl_put E hK hw fl_X9_76 t_o tp11_ 100 rfl dX9_plan_97 (fun T63_ H locs hx63_ ho63_ hw => ?_)
                have hT63_ : WT T63_ := hw.1.2.1
                have hO63_ : ∀ x, ow T63_ x → κ 2 2 ≤ x := fun x h => hAc x (hw.2.1 x h)
                have hoT_ : OW T T63_ s.heap.size := OW.tr0 hoT_ ho63_
                have hC_ : ∀ b, b < sz → T 0 b ≠ 10 → T 0 b ≠ 24 → T 0 b ≠ 26 → b ≠ o → ∀ j, j ≠ 197 → T63_ j b = T j b := fun b_ h1_ h2_ h3_ h4_ h5_ j_ h6_ => (hx63_ j_ h6_ b_).trans (hC_ b_ h1_ h2_ h3_ h4_ h5_ j_ h6_)
                have B180n_ : ∀ j_, j_ ≠ 197 → T63_ j_ (T 180 o) = T j_ (T 180 o) := fun j_ hj_ => (hx63_ j_ hj_ (T 180 o)).trans (B180_ j_ hj_)
                have A180n_ : ∀ j_, j_ ≠ 197 → T63_ j_ (T 201 (T 180 o)) = T j_ (T 201 (T 180 o)) := fun j_ hj_ => (hx63_ j_ hj_ (T 201 (T 180 o))).trans (A180_ j_ hj_)
                have B181n_ : ∀ j_, j_ ≠ 197 → T63_ j_ (T 181 o) = T j_ (T 181 o) := fun j_ hj_ => (hx63_ j_ hj_ (T 181 o)).trans (B181_ j_ hj_)
                have A181n_ : ∀ j_, j_ ≠ 197 → T63_ j_ (T 201 (T 181 o)) = T j_ (T 201 (T 181 o)) := fun j_ hj_ => (hx63_ j_ hj_ (T 201 (T 181 o))).trans (A181_ j_ hj_)
                have B182n_ : ∀ j_, j_ ≠ 197 → T63_ j_ (T 182 o) = T j_ (T 182 o) := fun j_ hj_ => (hx63_ j_ hj_ (T 182 o)).trans (B182_ j_ hj_)
                have A182n_ : ∀ j_, j_ ≠ 197 → T63_ j_ (T 201 (T 182 o)) = T j_ (T 201 (T 182 o)) := fun j_ hj_ => (hx63_ j_ hj_ (T 201 (T 182 o))).trans (A182_ j_ hj_)
                have B183n_ : ∀ j_, j_ ≠ 197 → T63_ j_ (T 183 o) = T j_ (T 183 o) := fun j_ hj_ => (hx63_ j_ hj_ (T 183 o)).trans (B183_ j_ hj_)
                have A183n_ : ∀ j_, j_ ≠ 197 → T63_ j_ (T 201 (T 183 o)) = T j_ (T 201 (T 183 o)) := fun j_ hj_ => (hx63_ j_ hj_ (T 201 (T 183 o))).trans (A183_ j_ hj_)
                have B180_ := B180n_
                have A180_ := A180n_
                have B181_ := B181n_
                have A181_ := A181n_
                have B182_ := B182n_
                have A182_ := A182n_
                have B183_ := B183n_
                have A183_ := A183n_
                have u64_ : T63_ 0 o = 9 := (hx63_ 0 (by decide) o).trans t_o
                have u65_ : T63_ 0 xp11_ = 3 := (hx63_ 0 (by decide) xp11_).trans tp11_
                have u66_ : T63_ 180 o = T 180 o := (hx63_ 180 (by decide) o).trans rfl
                have u67_ : T63_ 181 o = T 181 o := (hx63_ 181 (by decide) o).trans rfl
                have u68_ : T63_ 182 o = T 182 o := (hx63_ 182 (by decide) o).trans rfl
                have u69_ : T63_ 183 o = T 183 o := (hx63_ 183 (by decide) o).trans rfl
                have u70_ : T63_ 185 o = T 185 o := (hx63_ 185 (by decide) o).trans rfl
                have u71_ : T63_ 184 o = T 184 o := (hx63_ 184 (by decide) o).trans rfl
                refine j_aload E 102 rfl dX9_plan_100 (lv_at hl 0 rfl) ?_
                refine j_aload_n E 103 rfl dX9_plan_102 rfl (lv_at hl 1 rfl) ?_
                refine g_180 E hK hw fl_X9_12 u64_ 106 rfl dX9_plan_103 ?_
                refine kV_i E (c_Jx4a65c_size_8abf5 l D cy T63_ (v_0) (T63_ 180 o)  (wt_180 hT63_ u64_)  ) mt_Jx4a65c_size_8abf5 ml_X9_80 hK hw (cw_rc10 hK hw.1 (wt_180 hT63_ u64_)) hA ⟨Nat.le_of_ble_eq_true rfl, Nat.le_of_ble_eq_true rfl⟩ ⟨Nat.le_of_ble_eq_true rfl, Nat.le_of_ble_eq_true rfl⟩ (As := []) (rest := [.ref xp11_]) rfl rfl hl.1 (Nat.le_of_ble_eq_true rfl) 109 rfl dX9_plan_106 (fun zz72_ v_72 H locs rr72_ hq72_ hw => ?_)
                obtain ⟨ev72_, hh72_⟩ := hq72_
                rw [ev72_] at hw; clear ev72_
                replace hh72_ : zz72_ = ((v_0 202) ((T63_ 180 o))) ∧ 0 ≤ zz72_ := hh72_
                refine kV_v E (c_X2_begin l D cy T63_ (v_0) xp11_ zz72_  u65_ rr72_ ) mt_X2_begin ml_X9_377 hK hw (cw_rc3 hK hw.1 u65_) hA ⟨Nat.le_of_ble_eq_true rfl, Nat.le_of_ble_eq_true rfl⟩ ⟨Nat.le_of_ble_eq_true rfl, Nat.le_of_ble_eq_true rfl⟩ (As := [.int (J zz72_)]) (rest := []) rfl rfl hl.1 (Nat.le_of_ble_eq_true rfl) 112 rfl dX9_plan_109 (fun v_73 H locs hq73_ hw => ?_)
                obtain ⟨y64_73, y65_73, y66_73, y300_73, ev73_, hh73_⟩ := hq73_
                rw [ev73_] at hw; clear ev73_
                have hw : WK D cy T63_ (upV (upV (upV (upV v_0 64 y64_73) 65 y65_73) 66 y66_73) 300 y300_73) A0 s.heap H locs := cw_eq hw (by first | rfl | (funext j_; simp only [upV, reduceIte]; (repeat' split) <;> first | rfl | omega | (subst_vars; rfl)))
                obtain ⟨hh73_, kf73_⟩ := hh73_
                have kd74_ : KdA_ T sz [60, 61, 62, 63] (v_0 300) (y300_73) := KdA_tr KdA_rf (KdA_kc kf73_ (by decide) (fun b_ h1_ h2_ => ((C20_ hC_ t_o (by decide)) b_ h1_ h2_).2))
                replace hh73_ : (y65_73 xp11_) = 0 ∧ (y66_73 xp11_) = 0 ∧ 0 ≤ (y64_73 xp11_) ∧ (y64_73 xp11_) ≤ 24 := hh73_
                refine j_iconst E 113 rfl dX9_plan_112 ?_
                refine j_istore E 115 rfl [(6, .int (J 0)), (5, .ref xp11_), (0, .ref o), (1, .int (J v_s)), (2, .int (J v_m)), (3, .int (J v_w)), (4, .int (J s0_53))] dX9_plan_113 hl (by decide) rfl (fun ls hl => ?_)
                have L115_75 : ∀ (k115 : Nat) (l6_115 : Int) (y65_c115 : Nat → Int) (y66_c115 : Nat → Int) (y300_c115 : Nat → Int) (H : Heap) (locs : List Loc) (ls : Array Slot), inR l6_115 → ((0 ≤ l6_115 ∧ 0 ≤ (y66_c115 xp11_) ∧ (y66_c115 xp11_) ≤ 255 ∧ 0 ≤ (y65_c115 xp11_) ∧ (y65_c115 xp11_) ≤ 4 ∧ 0 ≤ (y64_73 xp11_) ∧ (y64_73 xp11_) ≤ 24) ∧ KdA_ T sz [60, 61, 62, 63] (v_0 300) y300_c115) → ((v_0 202 (T63_ 181 o)) - l6_115).toNat < k115 → WK D cy T63_ (upV (upV (upV (upV v_0 64 y64_73) 65 y65_c115) 66 y66_c115) 300 y300_c115) A0 s.heap H locs → lv_has ls 7 [(0, .ref o), (1, .int (J v_s)), (2, .int (J v_m)), (3, .int (J v_w)), (4, .int (J s0_53)), (5, .ref xp11_), (6, .int (J l6_115))] → W p l e (rmd 5 5 6600) s m ar below meth c H locs 0 0 QW (F0 m 115 ls []) := by
                  intro k115
                  induction k115 with
                  | zero =>
                    intro l6_115 y65_c115 y66_c115 y300_c115 H locs ls r_l6_115 iv115 ms115 hw hl
                    exact absurd ms115 (Nat.not_lt_zero _)
                  | succ k115 ih115 =>
                    intro l6_115 y65_c115 y66_c115 y300_c115 H locs ls r_l6_115 iv115 ms115 hw hl
                    obtain ⟨iv115, ik115_⟩ := iv115
                    refine j_iload E 117 rfl dX9_plan_115 (lv_at hl 6 rfl) ?_
                    refine j_aload_n E 118 rfl dX9_plan_117 rfl (lv_at hl 0 rfl) ?_
                    refine g_181 E hK hw fl_X9_16 u64_ 121 rfl dX9_plan_118 ?_
                    refine kV_i E (c_Jx4a65c_size_8abf5 l D cy T63_ (upV (upV (upV (upV v_0 64 y64_73) 65 y65_c115) 66 y66_c115) 300 y300_c115) (T63_ 181 o)  (wt_181 hT63_ u64_)  ) mt_Jx4a65c_size_8abf5 ml_X9_80 hK hw (cw_rc10 hK hw.1 (wt_181 hT63_ u64_)) hA ⟨Nat.le_of_ble_eq_true rfl, Nat.le_of_ble_eq_true rfl⟩ ⟨Nat.le_of_ble_eq_true rfl, Nat.le_of_ble_eq_true rfl⟩ (As := []) (rest := [.int (J l6_115)]) rfl rfl hl.1 (Nat.le_of_ble_eq_true rfl) 124 rfl dX9_plan_121 (fun zz77_ v_77 H locs rr77_ hq77_ hw => ?_)
                    obtain ⟨ev77_, hh77_⟩ := hq77_
                    rw [ev77_] at hw; clear ev77_
                    replace hh77_ : zz77_ = ((v_0 202) ((T63_ 181 o))) ∧ 0 ≤ zz77_ := hh77_
                    refine j_icmp_ge E 127 169 rfl r_l6_115 rr77_ dX9_plan_124 (by decide) (fun cc78_ => ?_) (fun cc78_ => ?_)
                    · refine j_aload E 171 rfl dX9_plan_169 (lv_at hl 5 rfl) ?_
                      refine kV_v E (c_X2_solve l D cy T63_ (upV (upV (upV (upV v_0 64 y64_73) 65 y65_c115) 66 y66_c115) 300 y300_c115) xp11_  u65_  (show 0 ≤ (y66_c115 xp11_) ∧ (y66_c115 xp11_) ≤ 255 ∧ 0 ≤ (y65_c115 xp11_) ∧ (y65_c115 xp11_) ≤ 4 ∧ 0 ≤ (y64_73 xp11_) ∧ (y64_73 xp11_) ≤ 24 from by omega)) mt_X2_solve ml_X9_387 hK hw (cw_rc3 hK hw.1 u65_) hA ⟨Nat.le_of_ble_eq_true rfl, Nat.le_of_ble_eq_true rfl⟩ ⟨Nat.le_of_ble_eq_true rfl, Nat.le_of_ble_eq_true rfl⟩ (As := []) (rest := []) rfl rfl hl.1 (Nat.le_of_ble_eq_true rfl) 174 rfl dX9_plan_171 (fun v_79 H locs hq79_ hw => ?_)
                      obtain ⟨y300_79, ev79_, hh79_⟩ := hq79_
                      rw [ev79_] at hw; clear ev79_
                      have hw : WK D cy T63_ (upV (upV (upV (upV v_0 64 y64_73) 65 y65_c115) 66 y66_c115) 300 y300_79) A0 s.heap H locs := cw_eq hw (by first | rfl | (funext j_; simp only [upV, reduceIte]; (repeat' split) <;> first | rfl | omega | (subst_vars; rfl)))
                      obtain ⟨hh79_, kf79_⟩ := hh79_
                      have kd80_ : KdA_ T sz [60, 61, 62, 63] (v_0 300) (y300_79) := KdA_tr ik115_ (KdA_kc kf79_ (by decide) (fun b_ h1_ h2_ => ((C20_ hC_ t_o (by decide)) b_ h1_ h2_).2))
                      refine j_iload E 176 rfl dX9_plan_174 (lv_at hl 4 rfl) ?_
                      refine j_if_eq E 179 191 rfl r_s0_53 dX9_plan_176 (by decide) (fun cc81_ => ?_) (fun cc81_ => ?_)
                      · refine j_iload_n E 192 rfl dX9_plan_191 rfl (lv_at hl 3 rfl) ?_
                        refine j_if_ne E 195 203 rfl r_v_w dX9_plan_192 (by decide) (fun cc82_ => ?_) (fun cc82_ => ?_)
                        · refine j_aload E 205 rfl dX9_plan_203 (lv_at hl 5 rfl) ?_
                          refine kV_i E (c_X2_teachings l D cy T63_ (upV (upV (upV (upV v_0 64 y64_73) 65 y65_c115) 66 y66_c115) 300 y300_79) xp11_  u65_  ) mt_X2_teachings ml_X9_396 hK hw (cw_rc3 hK hw.1 u65_) hA ⟨Nat.le_of_ble_eq_true rfl, Nat.le_of_ble_eq_true rfl⟩ ⟨Nat.le_of_ble_eq_true rfl, Nat.le_of_ble_eq_true rfl⟩ (As := []) (rest := []) rfl rfl hl.1 (Nat.le_of_ble_eq_true rfl) 208 rfl dX9_plan_205 (fun zz83_ v_83 H locs rr83_ hq83_ hw => ?_)
                          obtain ⟨ev83_, hh83_⟩ := hq83_
                          rw [ev83_] at hw; clear ev83_
                          exact hret 208 zz83_ T63_ (upV (upV (upV (upV v_0 64 y64_73) 65 y65_c115) 66 y66_c115) 300 y300_79) _ _ ls _ _ hw hoT_ rr83_ ⟨y64_73, y65_c115, y66_c115, y300_79, rfl, ⟨⟨u64_, ⟨u66_, u67_, u68_, u69_, u70_⟩, hC_, (fun i_ => by rw [u66_, B180_ 201 (by decide), A180_ (1000 + i_) (by omega)]), (fun i_ => by rw [u67_, B181_ 201 (by decide), A181_ (1000 + i_) (by omega)]), (fun i_ => by rw [u68_, B182_ 201 (by decide), A182_ (1000 + i_) (by omega)]), (fun i_ => by rw [u69_, B183_ 201 (by decide), A183_ (1000 + i_) (by omega)]), u71_⟩, kd80_⟩⟩ (Nat.le_of_ble_eq_true rfl) (Nat.le_of_ble_eq_true rfl) dX9_plan_208
                        · refine j_aload E 197 rfl dX9_plan_195 (lv_at hl 5 rfl) ?_
                          refine kV_i E (c_X2_cost l D cy T63_ (upV (upV (upV (upV v_0 64 y64_73) 65 y65_c115) 66 y66_c115) 300 y300_79) xp11_  u65_  ) mt_X2_cost ml_X9_393 hK hw (cw_rc3 hK hw.1 u65_) hA ⟨Nat.le_of_ble_eq_true rfl, Nat.le_of_ble_eq_true rfl⟩ ⟨Nat.le_of_ble_eq_true rfl, Nat.le_of_ble_eq_true rfl⟩ (As := []) (rest := []) rfl rfl hl.1 (Nat.le_of_ble_eq_true rfl) 200 rfl dX9_plan_197 (fun zz84_ v_84 H locs rr84_ hq84_ hw => ?_)
                          obtain ⟨ev84_, hh84_⟩ := hq84_
                          rw [ev84_] at hw; clear ev84_
                          refine j_goto E 208 dX9_plan_200 (by decide) ?_
                          exact hret 208 zz84_ T63_ (upV (upV (upV (upV v_0 64 y64_73) 65 y65_c115) 66 y66_c115) 300 y300_79) _ _ ls _ _ hw hoT_ rr84_ ⟨y64_73, y65_c115, y66_c115, y300_79, rfl, ⟨⟨u64_, ⟨u66_, u67_, u68_, u69_, u70_⟩, hC_, (fun i_ => by rw [u66_, B180_ 201 (by decide), A180_ (1000 + i_) (by omega)]), (fun i_ => by rw [u67_, B181_ 201 (by decide), A181_ (1000 + i_) (by omega)]), (fun i_ => by rw [u68_, B182_ 201 (by decide), A182_ (1000 + i_) (by omega)]), (fun i_ => by rw [u69_, B183_ 201 (by decide), A183_ (1000 + i_) (by omega)]), u71_⟩, kd80_⟩⟩ (Nat.le_of_ble_eq_true rfl) (Nat.le_of_ble_eq_true rfl) dX9_plan_208
                      · refine j_aload E 181 rfl dX9_plan_179 (lv_at hl 5 rfl) ?_
                        refine j_iload_n E 182 rfl dX9_plan_181 rfl (lv_at hl 3 rfl) ?_
                        refine j_bipush E 184 rfl dX9_plan_182 (by decide) ?_
                        refine j_isub E 185 rfl dX9_plan_184 ?_
                        refine j_norm (fun zz85_ rr85_ ee85_ => ?_)
                        refine kV_i E (c_X2_lessonOf l D cy T63_ (upV (upV (upV (upV v_0 64 y64_73) 65 y65_c115) 66 y66_c115) 300 y300_79) xp11_ zz85_  u65_ rr85_ ) mt_X2_lessonOf ml_X9_390 hK hw (cw_rc3 hK hw.1 u65_) hA ⟨Nat.le_of_ble_eq_true rfl, Nat.le_of_ble_eq_true rfl⟩ ⟨Nat.le_of_ble_eq_true rfl, Nat.le_of_ble_eq_true rfl⟩ (As := [.int (J zz85_)]) (rest := []) rfl rfl hl.1 (Nat.le_of_ble_eq_true rfl) 188 rfl dX9_plan_185 (fun zz86_ v_86 H locs rr86_ hq86_ hw => ?_)
                        obtain ⟨ev86_, hh86_⟩ := hq86_
                        rw [ev86_] at hw; clear ev86_
                        refine j_goto E 208 dX9_plan_188 (by decide) ?_
                        exact hret 208 zz86_ T63_ (upV (upV (upV (upV v_0 64 y64_73) 65 y65_c115) 66 y66_c115) 300 y300_79) _ _ ls _ _ hw hoT_ rr86_ ⟨y64_73, y65_c115, y66_c115, y300_79, rfl, ⟨⟨u64_, ⟨u66_, u67_, u68_, u69_, u70_⟩, hC_, (fun i_ => by rw [u66_, B180_ 201 (by decide), A180_ (1000 + i_) (by omega)]), (fun i_ => by rw [u67_, B181_ 201 (by decide), A181_ (1000 + i_) (by omega)]), (fun i_ => by rw [u68_, B182_ 201 (by decide), A182_ (1000 + i_) (by omega)]), (fun i_ => by rw [u69_, B183_ 201 (by decide), A183_ (1000 + i_) (by omega)]), u71_⟩, kd80_⟩⟩ (Nat.le_of_ble_eq_true rfl) (Nat.le_of_ble_eq_true rfl) dX9_plan_208
                    · refine j_iload_n E 128 rfl dX9_plan_127 rfl (lv_at hl 1 rfl) ?_
                      refine j_iload E 130 rfl dX9_plan_128 (lv_at hl 6 rfl) ?_
                      refine j_iushr E 131 rfl dX9_plan_130 (fun zz87_ rr87_ ee87_ => ?_)
                      refine j_iconst E 132 rfl dX9_plan_131 ?_
                      refine j_iand E 133 rfl dX9_plan_132 (fun zz88_ rr88_ ee88_ => ?_)
                      refine j_if_eq E 136 163 rfl rr88_ dX9_plan_133 (by decide) (fun cc89_ => ?_) (fun cc89_ => ?_)
                      · refine j_iinc E 166 rfl [(6, .int (J (l6_115 + 1))), (0, .ref o), (1, .int (J v_s)), (2, .int (J v_m)), (3, .int (J v_w)), (4, .int (J s0_53)), (5, .ref xp11_)] dX9_plan_163 hl (kk := 6) rfl (by decide) rfl (fun ls hl => ?_)
                        refine j_goto E 115 dX9_plan_166 (by decide) ?_
                        exact ih115 (l6_115 + 1) y65_c115 y66_c115 y300_c115 H locs ls (rr (by omega)) (⟨by first | omega | (simp only [upB_same]; omega), ik115_⟩) (by omega) hw (lv_sub hl [1, 2, 3, 4, 5, 6, 0] rfl)
                      · refine j_aload E 138 rfl dX9_plan_136 (lv_at hl 5 rfl) ?_
                        refine j_iload E 140 rfl dX9_plan_138 (lv_at hl 6 rfl) ?_
                        refine j_iconst E 141 rfl dX9_plan_140 ?_
                        refine j_iload_n E 142 rfl dX9_plan_141 rfl (lv_at hl 2 rfl) ?_
                        refine j_aload_n E 143 rfl dX9_plan_142 rfl (lv_at hl 0 rfl) ?_
                        refine j_iload E 145 rfl dX9_plan_143 (lv_at hl 6 rfl) ?_
                        refine kV_i E (c_X9_countHolders l D cy T63_ (upV (upV (upV (upV v_0 64 y64_73) 65 y65_c115) 66 y66_c115) 300 y300_c115) o l6_115  u64_ r_l6_115 (show 0 ≤ l6_115 ∧ l6_115 < 24 from by have h_ := hp2; first | omega | (rw [← u67_] at h_; omega)) (show ((v_0 202) (T63_ 180 o)) ≤ 24 from by first | omega | (rw [u66_]; omega))) mt_X9_countHolders ml_X9_209 hK hw (cw_rc9 hK hw.1 u64_) hA ⟨Nat.le_of_ble_eq_true rfl, Nat.le_of_ble_eq_true rfl⟩ ⟨Nat.le_of_ble_eq_true rfl, Nat.le_of_ble_eq_true rfl⟩ (As := [.int (J l6_115)]) (rest := [.int (J v_m), .int (J 0), .int (J l6_115), .ref xp11_]) rfl rfl hl.1 (Nat.le_of_ble_eq_true rfl) 148 rfl dX9_plan_145 (fun zz90_ v_90 H locs rr90_ hq90_ hw => ?_)
                        obtain ⟨ev90_, hh90_⟩ := hq90_
                        rw [ev90_] at hw; clear ev90_
                        replace hh90_ : zz90_ = nq_ (fun p_ => ((v_0 43) ((pe_ T63_ 180 o p_))) = -1 ∧ 0 < gC_ (y300_c115) (T63_ 47 (pe_ T63_ 180 o p_)) l6_115) (((v_0 202) (T63_ 180 o))).toNat := hh90_
                        refine j_isub E 149 rfl dX9_plan_148 ?_
                        refine j_norm (fun zz91_ rr91_ ee91_ => ?_)
                        refine j_max E hl.1 ml_X9_350 (rr (by decide)) rr91_ ⟨Nat.le_of_ble_eq_true rfl, Nat.le_of_ble_eq_true rfl⟩ ⟨Nat.le_of_ble_eq_true rfl, Nat.le_of_ble_eq_true rfl⟩ 152 rfl dX9_plan_149 (fun zz92_ rr92_ hh92_ => ?_)
                        refine kV_v E (c_X2_addLine l D cy T63_ (upV (upV (upV (upV v_0 64 y64_73) 65 y65_c115) 66 y66_c115) 300 y300_c115) xp11_ l6_115 zz92_  u65_ r_l6_115 rr92_ (show 0 ≤ (y66_c115 xp11_) ∧ (y66_c115 xp11_) ≤ 255 ∧ 0 ≤ (y65_c115 xp11_) ∧ (y65_c115 xp11_) ≤ 4 from by omega)) mt_X2_addLine ml_X9_380 hK hw (cw_rc3 hK hw.1 u65_) hA ⟨Nat.le_of_ble_eq_true rfl, Nat.le_of_ble_eq_true rfl⟩ ⟨Nat.le_of_ble_eq_true rfl, Nat.le_of_ble_eq_true rfl⟩ (As := [.int (J l6_115), .int (J zz92_)]) (rest := []) rfl rfl hl.1 (Nat.le_of_ble_eq_true rfl) 155 rfl dX9_plan_152 (fun v_93 H locs hq93_ hw => ?_)
                        obtain ⟨y65_93, y66_93, y300_93, ev93_, hh93_⟩ := hq93_
                        rw [ev93_] at hw; clear ev93_
                        have hw : WK D cy T63_ (upV (upV (upV (upV v_0 64 y64_73) 65 y65_93) 66 y66_93) 300 y300_93) A0 s.heap H locs := cw_eq hw (by first | rfl | (funext j_; simp only [upV, reduceIte]; (repeat' split) <;> first | rfl | omega | (subst_vars; rfl)))
                        obtain ⟨hh93_, kf93_⟩ := hh93_
                        have kd94_ : KdA_ T sz [60, 61, 62, 63] (v_0 300) (y300_93) := KdA_tr ik115_ (KdA_kc kf93_ (by decide) (fun b_ h1_ h2_ => ((C20_ hC_ t_o (by decide)) b_ h1_ h2_).2))
                        replace hh93_ : 0 ≤ (y66_93 xp11_) ∧ (y66_93 xp11_) ≤ 255 ∧ 0 ≤ (y65_93 xp11_) ∧ (y65_93 xp11_) ≤ 4 := hh93_
                        refine j_aload_n E 156 rfl dX9_plan_155 rfl (lv_at hl 0 rfl) ?_
                        refine j_aload E 158 rfl dX9_plan_156 (lv_at hl 5 rfl) ?_
                        refine j_iload E 160 rfl dX9_plan_158 (lv_at hl 6 rfl) ?_
                        refine kV_v E (c_X9_putPrices l D cy T63_ (upV (upV (upV (upV v_0 64 y64_73) 65 y65_93) 66 y66_93) 300 y300_93) o xp11_ l6_115  u64_ u65_ r_l6_115 ) mt_X9_putPrices ml_X9_383 hK hw (cw_rc9 hK hw.1 u64_) hA ⟨Nat.le_of_ble_eq_true rfl, Nat.le_of_ble_eq_true rfl⟩ ⟨Nat.le_of_ble_eq_true rfl, Nat.le_of_ble_eq_true rfl⟩ (As := [.ref xp11_, .int (J l6_115)]) (rest := []) rfl rfl hl.1 (Nat.le_of_ble_eq_true rfl) 163 rfl dX9_plan_160 (fun v_95 H locs hq95_ hw => ?_)
                        obtain ⟨y300_95, ev95_, hh95_⟩ := hq95_
                        rw [ev95_] at hw; clear ev95_
                        have hw : WK D cy T63_ (upV (upV (upV (upV v_0 64 y64_73) 65 y65_93) 66 y66_93) 300 y300_95) A0 s.heap H locs := cw_eq hw (by first | rfl | (funext j_; simp only [upV, reduceIte]; (repeat' split) <;> first | rfl | omega | (subst_vars; rfl)))
                        obtain ⟨hh95_, kf95_⟩ := hh95_
                        have kd96_ : KdA_ T sz [60, 61, 62, 63] (v_0 300) (y300_95) := KdA_tr kd94_ (KdA_kc kf95_ (by decide) (fun b_ h1_ h2_ => ((C20_ hC_ t_o (by decide)) b_ h1_ h2_).2))
                        refine j_iinc E 166 rfl [(6, .int (J (l6_115 + 1))), (0, .ref o), (1, .int (J v_s)), (2, .int (J v_m)), (3, .int (J v_w)), (4, .int (J s0_53)), (5, .ref xp11_)] dX9_plan_163 hl (kk := 6) rfl (by decide) rfl (fun ls hl => ?_)
                        refine j_goto E 115 dX9_plan_166 (by decide) ?_
                        exact ih115 (l6_115 + 1) y65_93 y66_93 y300_95 H locs ls (rr (by omega)) (⟨by first | omega | (simp only [upB_same]; omega), kd96_⟩) (by omega) hw (lv_sub hl [1, 2, 3, 4, 5, 6, 0] rfl)
                exact L115_75 _ 0 y65_73 y66_73 y300_73 H locs ls (rr (by decide)) (⟨by first | omega | (simp only [upB_same]; omega), kd74_⟩) (Nat.lt_succ_self _) hw (lv_sub hl [2, 3, 4, 5, 6, 1, 0] rfl)
            refine j_iload_n E 56 rfl dX9_plan_55 rfl (lv_at hl 4 rfl) ?_
            refine j_if_eq E 59 71 rfl r_v_w dX9_plan_56 (by decide) (fun cc97_ => ?_) (fun cc97_ => ?_)
            · exact L71_9   H locs ls  (trivial) hw (lv_sub hl [1, 2, 3, 4, 0] rfl)
            · refine j_iload_n E 60 rfl dX9_plan_59 rfl (lv_at hl 4 rfl) ?_
              refine j_iconst E 61 rfl dX9_plan_60 ?_
              refine j_icmp_eq E 64 71 rfl r_v_w (rr (by decide)) dX9_plan_61 (by decide) (fun cc98_ => ?_) (fun cc98_ => ?_)
              · exact L71_9   H locs ls  (trivial) hw (lv_sub hl [1, 2, 3, 4, 0] rfl)
              · refine j_iload E 66 rfl dX9_plan_64 (lv_at hl 0 rfl) ?_
                refine j_if_ne E 69 71 rfl r_s0_53 dX9_plan_66 (by decide) (fun cc99_ => ?_) (fun cc99_ => ?_)
                · exact L71_9   H locs ls  (trivial) hw (lv_sub hl [1, 2, 3, 4, 0] rfl)
                · refine j_iconst E 70 rfl dX9_plan_69 ?_
                  exact hret 70 ((-1)) T (upV (upV (upV (upV v_0 64 (v_0 64)) 65 (v_0 65)) 66 (v_0 66)) 300 (v_0 300)) _ _ ls _ _ (cw_eq hw (by first | rfl | (funext j_; simp only [upV, reduceIte]; (repeat' split) <;> first | rfl | omega | (subst_vars; rfl)))) hoT_ (rr (by decide)) ⟨(v_0 64), (v_0 65), (v_0 66), (v_0 300), rfl, ⟨⟨t_o, ⟨rfl, rfl, rfl, rfl, rfl⟩, hC_, (fun _ => rfl), (fun _ => rfl), (fun _ => rfl), (fun _ => rfl), rfl⟩, KdA_rf⟩⟩ (Nat.le_of_ble_eq_true rfl) (Nat.le_of_ble_eq_true rfl) dX9_plan_70
          refine j_iload_n E 29 rfl dX9_plan_28 rfl (lv_at hl 3 rfl) ?_
          refine j_bipush E 31 rfl dX9_plan_29 (by decide) ?_
          refine j_icmp_lt E 34 52 rfl r_v_w (rr (by decide)) dX9_plan_31 (by decide) (fun cc100_ => ?_) (fun cc100_ => ?_)
          · refine j_iconst E 53 rfl dX9_plan_52 ?_
            exact L53_7 0  H locs ls (rr (by decide)) (trivial) hw (lv_sub hl [0, 1, 2, 3] rfl)
          · refine j_iload_n E 35 rfl dX9_plan_34 rfl (lv_at hl 3 rfl) ?_
            refine j_bipush E 37 rfl dX9_plan_35 (by decide) ?_
            refine j_isub E 38 rfl dX9_plan_37 ?_
            refine j_norm (fun zz101_ rr101_ ee101_ => ?_)
            refine j_aload_n E 39 rfl dX9_plan_38 rfl (lv_at hl 0 rfl) ?_
            refine g_180 E hK hw fl_X9_12 t_o 42 rfl dX9_plan_39 ?_
            refine kV_i E (c_Jx4a65c_size_8abf5 l D cy T (v_0) (T 180 o)  (wt_180 hT t_o)  ) mt_Jx4a65c_size_8abf5 ml_X9_80 hK hw (cw_rc10 hK hw.1 (wt_180 hT t_o)) hA ⟨Nat.le_of_ble_eq_true rfl, Nat.le_of_ble_eq_true rfl⟩ ⟨Nat.le_of_ble_eq_true rfl, Nat.le_of_ble_eq_true rfl⟩ (As := []) (rest := [.int (J zz101_)]) rfl rfl hl.1 (Nat.le_of_ble_eq_true rfl) 45 rfl dX9_plan_42 (fun zz102_ v_102 H locs rr102_ hq102_ hw => ?_)
            obtain ⟨ev102_, hh102_⟩ := hq102_
            rw [ev102_] at hw; clear ev102_
            replace hh102_ : zz102_ = ((v_0 202) ((T 180 o))) ∧ 0 ≤ zz102_ := hh102_
            refine j_icmp_ge E 48 52 rfl rr101_ rr102_ dX9_plan_45 (by decide) (fun cc103_ => ?_) (fun cc103_ => ?_)
            · refine j_iconst E 53 rfl dX9_plan_52 ?_
              exact L53_7 0  H locs ls (rr (by decide)) (trivial) hw (lv_sub hl [0, 1, 2, 3] rfl)
            · refine j_iconst E 49 rfl dX9_plan_48 ?_
              refine j_goto E 53 dX9_plan_49 (by decide) ?_
              exact L53_7 1  H locs ls (rr (by decide)) (trivial) hw (lv_sub hl [0, 1, 2, 3] rfl)
        · refine j_iconst E 27 rfl dX9_plan_26 ?_
          exact hret 27 ((-1)) T (upV (upV (upV (upV v_0 64 (v_0 64)) 65 (v_0 65)) 66 (v_0 66)) 300 (v_0 300)) _ _ ls _ _ (cw_eq hw (by first | rfl | (funext j_; simp only [upV, reduceIte]; (repeat' split) <;> first | rfl | omega | (subst_vars; rfl)))) hoT_ (rr (by decide)) ⟨(v_0 64), (v_0 65), (v_0 66), (v_0 300), rfl, ⟨⟨t_o, ⟨rfl, rfl, rfl, rfl, rfl⟩, hC_, (fun _ => rfl), (fun _ => rfl), (fun _ => rfl), (fun _ => rfl), rfl⟩, KdA_rf⟩⟩ (Nat.le_of_ble_eq_true rfl) (Nat.le_of_ble_eq_true rfl) dX9_plan_27
