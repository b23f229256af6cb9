theorem wpl_ {T : Nat → Nat → Nat} (h : WT T) {a x : Nat} (ha : T 0 a = 9) (hx : dcd (T 197 a) = some x) : T 0 x = 3 := (wt9 h ha).2.2.2.2.2.2.2.2.2.2.2.2.2.2.2.2.2.2.2.2.2.2.2.2.2 x hx
set_option maxHeartbeats 4000000 in
set_option maxRecDepth 100000 in
theorem n_X9_plan (l : Launch) (D : va_G) (cy : Nat → ClassId) (κ T : Nat → Nat → Nat) (v_0 : Nat → Nat → Int) (o : Nat) (v_s : Int) (v_m : Int) (v_w : Int) (sz : Nat) (hO : ∀ x, ow T x → κ 2 2 ≤ x) (t_o : T 0 o = 9) (r_v_s : inR v_s) (r_v_m : inR v_m) (r_v_w : inR v_w) (hp0 : ∀ x, T 0 x = 26 → x = κ 2 0) : KA l D cy κ T yX9_plan cX9_plan 7 (some .int) 5 5 6600 [.ref o, .int (J v_s), .int (J v_m), .int (J v_w)] v_0 sz (AI (fun (z_0 : Int) (T_2 : Nat → Nat → Nat) (v_2 : Nat → Nat → Int) => ∃ (y64_2 : Nat → Int) (y65_2 : Nat → Int) (y66_2 : Nat → Int) (y300_2 : Nat → Int) , v_2 = upV (upV (upV (upV v_0 64 y64_2) 65 y65_2) 66 y66_2) 300 y300_2 ∧ ((T_2 0 o = 9 ∧ (T_2 180 o = T 180 o ∧ T_2 181 o = T 181 o ∧ T_2 182 o = T 182 o ∧ T_2 183 o = T 183 o ∧ T_2 185 o = T 185 o) ∧ (∀ b, b < sz → T 0 b ≠ 10 → T 0 b ≠ 24 → T 0 b ≠ 26 → b ≠ o → ∀ j, j ≠ 197 → T_2 j b = T j b) ∧ (∀ i_ : Nat, T_2 (1000 + i_) (T_2 201 (T_2 180 o)) = T (1000 + i_) (T 201 (T 180 o))) ∧ (∀ i_ : Nat, T_2 (1000 + i_) (T_2 201 (T_2 181 o)) = T (1000 + i_) (T 201 (T 181 o))) ∧ (∀ i_ : Nat, T_2 (1000 + i_) (T_2 201 (T_2 182 o)) = T (1000 + i_) (T 201 (T 182 o))) ∧ (∀ i_ : Nat, T_2 (1000 + i_) (T_2 201 (T_2 183 o)) = T (1000 + i_) (T 201 (T 183 o)))) ∧ KdA_ T sz [60, 61, 62, 63] (v_0 300) y300_2))) := by
  refine KA.ofi (by decide) (Nat.le_of_ble_eq_true rfl) hO ?_
  intro p e s m below meth c ls ar QW A0 H locs E hK hZ hA hAc hsz hszH_ hnm hw hlo_ hl hret
  have hl : lv_has ls 7 [(0, .ref o), (1, .int (J v_s)), (2, .int (J v_m)), (3, .int (J v_w))] := hl
  have hT : WT T := hw.1.2.1
  have hoT_ : OW T T s.heap.size := OW.rf T _
  have hC_ : ∀ b, b < sz → T 0 b ≠ 10 → T 0 b ≠ 24 → T 0 b ≠ 26 → b ≠ o → ∀ j, j ≠ 197 → T j b = T j b := fun _ _ _ _ _ _ _ _ => rfl
  have tl180_ : T 0 (T 180 o) = 10 := wt_180 hT t_o
  have tx180_ : T 0 (T 201 (T 180 o)) = 24 ∨ T 0 (T 201 (T 180 o)) = 26 := (wt10 hT tl180_).1
  have B180_ : ∀ j, j ≠ 197 → T j (T 180 o) = T j (T 180 o) := fun _ _ => rfl
  have A180_ : ∀ j, j ≠ 197 → T j (T 201 (T 180 o)) = T j (T 201 (T 180 o)) := fun _ _ => rfl
  have tl181_ : T 0 (T 181 o) = 10 := wt_181 hT t_o
  have tx181_ : T 0 (T 201 (T 181 o)) = 24 ∨ T 0 (T 201 (T 181 o)) = 26 := (wt10 hT tl181_).1
  have B181_ : ∀ j, j ≠ 197 → T j (T 181 o) = T j (T 181 o) := fun _ _ => rfl
  have A181_ : ∀ j, j ≠ 197 → T j (T 201 (T 181 o)) = T j (T 201 (T 181 o)) := fun _ _ => rfl
  have tl182_ : T 0 (T 182 o) = 10 := wt_182 hT t_o
  have tx182_ : T 0 (T 201 (T 182 o)) = 24 ∨ T 0 (T 201 (T 182 o)) = 26 := (wt10 hT tl182_).1
  have B182_ : ∀ j, j ≠ 197 → T j (T 182 o) = T j (T 182 o) := fun _ _ => rfl
  have A182_ : ∀ j, j ≠ 197 → T j (T 201 (T 182 o)) = T j (T 201 (T 182 o)) := fun _ _ => rfl
  have tl183_ : T 0 (T 183 o) = 10 := wt_183 hT t_o
  have tx183_ : T 0 (T 201 (T 183 o)) = 24 ∨ T 0 (T 201 (T 183 o)) = 26 := (wt10 hT tl183_).1
  have B183_ : ∀ j, j ≠ 197 → T j (T 183 o) = T j (T 183 o) := fun _ _ => rfl
  have A183_ : ∀ j, j ≠ 197 → T j (T 201 (T 183 o)) = T j (T 201 (T 183 o)) := fun _ _ => rfl
  refine j_aload_n E 1 rfl dX9_plan_0 rfl (lv_at hl 0 rfl) ?_
  refine j_iload_n E 2 rfl dX9_plan_1 rfl (lv_at hl 1 rfl) ?_
  refine kV_i E (c_X9_areLines l D cy T (v_0) o v_s  t_o r_v_s ) mt_X9_areLines ml_X9_371 hK hw (cw_rc9 hK hw.1 t_o) hA ⟨Nat.le_of_ble_eq_true rfl, Nat.le_of_ble_eq_true rfl⟩ ⟨Nat.le_of_ble_eq_true rfl, Nat.le_of_ble_eq_true rfl⟩ (As := [.int (J v_s)]) (rest := []) rfl rfl hl.1 (Nat.le_of_ble_eq_true rfl) 5 rfl dX9_plan_2 (fun zz1_ v_1 H locs rr1_ hq1_ hw => ?_)
  obtain ⟨ev1_, hh1_⟩ := hq1_
  rw [ev1_] at hw; clear ev1_
  refine j_if_eq E 8 26 rfl rr1_ dX9_plan_5 (by decide) (fun cc2_ => ?_) (fun cc2_ => ?_)
  · refine j_iconst E 27 rfl dX9_plan_26 ?_
    exact hret 27 ((-1)) T (upV (upV (upV (upV v_0 64 (v_0 64)) 65 (v_0 65)) 66 (v_0 66)) 300 (v_0 300)) _ _ ls _ _ (cw_eq hw (by first | rfl | (funext j_; simp only [upV, reduceIte]; (repeat' split) <;> first | rfl | omega | (subst_vars; rfl)))) hoT_ (rr (by decide)) ⟨(v_0 64), (v_0 65), (v_0 66), (v_0 300), rfl, ⟨⟨t_o, ⟨rfl, rfl, rfl, rfl, rfl⟩, hC_, (fun _ => rfl), (fun _ => rfl), (fun _ => rfl), (fun _ => rfl)⟩, KdA_rf⟩⟩ (Nat.le_of_ble_eq_true rfl) (Nat.le_of_ble_eq_true rfl) dX9_plan_27
  · refine j_iload_n E 9 rfl dX9_plan_8 rfl (lv_at hl 1 rfl) ?_
    refine kS_i E (c_J6_bitCount_0f7a4 l D cy T (v_0) v_s   r_v_s ) ms_J6_bitCount_0f7a4 ml_X9_218 hK hw hA ⟨Nat.le_of_ble_eq_true rfl, Nat.le_of_ble_eq_true rfl⟩ ⟨Nat.le_of_ble_eq_true rfl, Nat.le_of_ble_eq_true rfl⟩ (As := [.int (J v_s)]) (rest := []) rfl rfl hl.1 (Nat.le_of_ble_eq_true rfl) 12 rfl dX9_plan_9 (fun zz3_ v_3 H locs rr3_ hq3_ hw => ?_)
    obtain ⟨ev3_, hh3_⟩ := hq3_
    rw [ev3_] at hw; clear ev3_
    refine j_iconst E 13 rfl dX9_plan_12 ?_
    refine j_icmp_gt E 16 26 rfl rr3_ (rr (by decide)) dX9_plan_13 (by decide) (fun cc4_ => ?_) (fun cc4_ => ?_)
    · refine j_iconst E 27 rfl dX9_plan_26 ?_
      exact hret 27 ((-1)) T (upV (upV (upV (upV v_0 64 (v_0 64)) 65 (v_0 65)) 66 (v_0 66)) 300 (v_0 300)) _ _ ls _ _ (cw_eq hw (by first | rfl | (funext j_; simp only [upV, reduceIte]; (repeat' split) <;> first | rfl | omega | (subst_vars; rfl)))) hoT_ (rr (by decide)) ⟨(v_0 64), (v_0 65), (v_0 66), (v_0 300), rfl, ⟨⟨t_o, ⟨rfl, rfl, rfl, rfl, rfl⟩, hC_, (fun _ => rfl), (fun _ => rfl), (fun _ => rfl), (fun _ => rfl)⟩, KdA_rf⟩⟩ (Nat.le_of_ble_eq_true rfl) (Nat.le_of_ble_eq_true rfl) dX9_plan_27
    · refine j_iload_n E 17 rfl dX9_plan_16 rfl (lv_at hl 2 rfl) ?_
      refine j_iconst E 18 rfl dX9_plan_17 ?_
      refine j_icmp_lt E 21 26 rfl r_v_m (rr (by decide)) dX9_plan_18 (by decide) (fun cc5_ => ?_) (fun cc5_ => ?_)
      · refine j_iconst E 27 rfl dX9_plan_26 ?_
        exact hret 27 ((-1)) T (upV (upV (upV (upV v_0 64 (v_0 64)) 65 (v_0 65)) 66 (v_0 66)) 300 (v_0 300)) _ _ ls _ _ (cw_eq hw (by first | rfl | (funext j_; simp only [upV, reduceIte]; (repeat' split) <;> first | rfl | omega | (subst_vars; rfl)))) hoT_ (rr (by decide)) ⟨(v_0 64), (v_0 65), (v_0 66), (v_0 300), rfl, ⟨⟨t_o, ⟨rfl, rfl, rfl, rfl, rfl⟩, hC_, (fun _ => rfl), (fun _ => rfl), (fun _ => rfl), (fun _ => rfl)⟩, KdA_rf⟩⟩ (Nat.le_of_ble_eq_true rfl) (Nat.le_of_ble_eq_true rfl) dX9_plan_27
      · refine j_iload_n E 22 rfl dX9_plan_21 rfl (lv_at hl 2 rfl) ?_
        refine j_iconst E 23 rfl dX9_plan_22 ?_
        refine j_icmp_le E 26 28 rfl r_v_m (rr (by decide)) dX9_plan_23 (by decide) (fun cc6_ => ?_) (fun cc6_ => ?_)
        · have L53_7 : ∀ (s0_53 : Int) (H : Heap) (locs : List Loc) (ls : Array Slot), inR s0_53 → (True) → WK D cy T (v_0) A0 s.heap H locs → lv_has ls 7 [(0, .ref o), (1, .int (J v_s)), (2, .int (J v_m)), (3, .int (J v_w))] → W p l e (rmd 5 5 6600) s m ar below meth c H locs 0 0 QW (F0 m 53 ls [.int (J s0_53)]) := by
            intro s0_53 H locs ls r_s0_53 iv53 hw hl
            refine j_istore E 55 rfl [(4, .int (J s0_53)), (0, .ref o), (1, .int (J v_s)), (2, .int (J v_m)), (3, .int (J v_w))] dX9_plan_53 hl (by decide) rfl (fun ls hl => ?_)
            have L71_9 : ∀ (H : Heap) (locs : List Loc) (ls : Array Slot), (True) → WK D cy T (v_0) A0 s.heap H locs → lv_has ls 7 [(0, .ref o), (1, .int (J v_s)), (2, .int (J v_m)), (3, .int (J v_w)), (4, .int (J s0_53))] → W p l e (rmd 5 5 6600) s m ar below meth c H locs 0 0 QW (F0 m 71 ls []) := by
              intro H locs ls iv71 hw hl
              refine j_aload_n E 72 rfl dX9_plan_71 rfl (lv_at hl 0 rfl) ?_
              refine g_197 E hK hw fl_X9_76 t_o 75 rfl dX9_plan_72 ?_
              cases hd11_ : dcd (T 197 o) with
              | none =>
                show W p l e (rmd 5 5 6600) s m ar below meth c H locs _ _ QW (F0 m 75 ls [.null])
                refine j_ifnonnullN E 78 rfl dX9_plan_75 ?_
                have hw0_ := hw
                refine n_obj3 E hK hw hA cl_X9_374 (Nat.le_of_ble_eq_true rfl) (Nat.le_of_ble_eq_true rfl) 81 rfl dX9_plan_78 (fun q12_ T12_ H hge12_ hx12_ ho12_ tq12_ hw => ?_)
                have fq12_ : s.heap.size ≤ q12_ := Nat.le_trans hw0_.2.2.1 hge12_
                have hw : WK D cy T12_ (upV (upV (upV v_0 64 (upB (v_0 64) q12_ 0)) 65 (upB (v_0 65) q12_ 0)) 66 (upB (v_0 66) q12_ 0)) A0 s.heap H locs := cw_eq hw (by first | rfl | (funext j_; simp only [upV, reduceIte]; (repeat' split) <;> first | rfl | omega | (subst_vars; rfl)))
                have hT12_ : WT T12_ := hw.1.2.1
                have hO12_ : ∀ x, ow T12_ x → κ 2 2 ≤ x := fun x h => hAc x (hw.2.1 x h)
                have hoT_ : OW T T12_ s.heap.size := OW.tr hw0_.2.2.1 hoT_ ho12_
                have hC_ : ∀ b, b < sz → T 0 b ≠ 10 → T 0 b ≠ 24 → T 0 b ≠ 26 → b ≠ o → ∀ j, j ≠ 197 → T12_ j b = T j b := fun b_ h1_ h2_ h3_ h4_ h5_ j_ h6_ => (hx12_ b_ (by have := hw0_.2.2.1; have := hge12_; omega) j_).trans (hC_ b_ h1_ h2_ h3_ h4_ h5_ j_ h6_)
                have B180n_ : ∀ j_, j_ ≠ 197 → T12_ j_ (T 180 o) = T j_ (T 180 o) := fun j_ hj_ => (hx12_ (T 180 o) (Nat.ne_of_lt (Nat.lt_of_lt_of_le (cw_lt hw0_.1 ((B180_ 0 (by decide)).trans tl180_) (fun _ _ _ => ⟨_, rfl⟩)) hge12_)) j_).trans (B180_ j_ hj_)
                have A180n_ : ∀ j_, j_ ≠ 197 → T12_ j_ (T 201 (T 180 o)) = T j_ (T 201 (T 180 o)) := fun j_ hj_ => (hx12_ (T 201 (T 180 o)) (Nat.ne_of_lt (Nat.lt_of_lt_of_le (cw_ltq hw0_.1 (by rw [A180_ 0 (by decide)]; exact tx180_)) hge12_)) j_).trans (A180_ j_ hj_)
                have B181n_ : ∀ j_, j_ ≠ 197 → T12_ j_ (T 181 o) = T j_ (T 181 o) := fun j_ hj_ => (hx12_ (T 181 o) (Nat.ne_of_lt (Nat.lt_of_lt_of_le (cw_lt hw0_.1 ((B181_ 0 (by decide)).trans tl181_) (fun _ _ _ => ⟨_, rfl⟩)) hge12_)) j_).trans (B181_ j_ hj_)
                have A181n_ : ∀ j_, j_ ≠ 197 → T12_ j_ (T 201 (T 181 o)) = T j_ (T 201 (T 181 o)) := fun j_ hj_ => (hx12_ (T 201 (T 181 o)) (Nat.ne_of_lt (Nat.lt_of_lt_of_le (cw_ltq hw0_.1 (by rw [A181_ 0 (by decide)]; exact tx181_)) hge12_)) j_).trans (A181_ j_ hj_)
                have B182n_ : ∀ j_, j_ ≠ 197 → T12_ j_ (T 182 o) = T j_ (T 182 o) := fun j_ hj_ => (hx12_ (T 182 o) (Nat.ne_of_lt (Nat.lt_of_lt_of_le (cw_lt hw0_.1 ((B182_ 0 (by decide)).trans tl182_) (fun _ _ _ => ⟨_, rfl⟩)) hge12_)) j_).trans (B182_ j_ hj_)
                have A182n_ : ∀ j_, j_ ≠ 197 → T12_ j_ (T 201 (T 182 o)) = T j_ (T 201 (T 182 o)) := fun j_ hj_ => (hx12_ (T 201 (T 182 o)) (Nat.ne_of_lt (Nat.lt_of_lt_of_le (cw_ltq hw0_.1 (by rw [A182_ 0 (by decide)]; exact tx182_)) hge12_)) j_).trans (A182_ j_ hj_)
                have B183n_ : ∀ j_, j_ ≠ 197 → T12_ j_ (T 183 o) = T j_ (T 183 o) := fun j_ hj_ => (hx12_ (T 183 o) (Nat.ne_of_lt (Nat.lt_of_lt_of_le (cw_lt hw0_.1 ((B183_ 0 (by decide)).trans tl183_) (fun _ _ _ => ⟨_, rfl⟩)) hge12_)) j_).trans (B183_ j_ hj_)
                have A183n_ : ∀ j_, j_ ≠ 197 → T12_ j_ (T 201 (T 183 o)) = T j_ (T 201 (T 183 o)) := fun j_ hj_ => (hx12_ (T 201 (T 183 o)) (Nat.ne_of_lt (Nat.lt_of_lt_of_le (cw_ltq hw0_.1 (by rw [A183_ 0 (by decide)]; exact tx183_)) hge12_)) j_).trans (A183_ j_ hj_)
                have B180_ := B180n_
                have A180_ := A180n_
                have B181_ := B181n_
                have A181_ := A181n_
                have B182_ := B182n_
                have A182_ := A182n_
                have B183_ := B183n_
                have A183_ := A183n_
                have u13_ : T12_ 0 o = 9 := (hx12_ o (Nat.ne_of_lt (Nat.lt_of_lt_of_le (cw_lt hw0_.1 t_o (fun _ _ _ => ⟨_, rfl⟩)) hge12_)) 0).trans t_o
                have u14_ : T12_ 180 o = T 180 o := (hx12_ o (Nat.ne_of_lt (Nat.lt_of_lt_of_le (cw_lt hw0_.1 t_o (fun _ _ _ => ⟨_, rfl⟩)) hge12_)) 180).trans rfl
                have u15_ : T12_ 181 o = T 181 o := (hx12_ o (Nat.ne_of_lt (Nat.lt_of_lt_of_le (cw_lt hw0_.1 t_o (fun _ _ _ => ⟨_, rfl⟩)) hge12_)) 181).trans rfl
                have u16_ : T12_ 182 o = T 182 o := (hx12_ o (Nat.ne_of_lt (Nat.lt_of_lt_of_le (cw_lt hw0_.1 t_o (fun _ _ _ => ⟨_, rfl⟩)) hge12_)) 182).trans rfl
                have u17_ : T12_ 183 o = T 183 o := (hx12_ o (Nat.ne_of_lt (Nat.lt_of_lt_of_le (cw_lt hw0_.1 t_o (fun _ _ _ => ⟨_, rfl⟩)) hge12_)) 183).trans rfl
                have u18_ : T12_ 185 o = T 185 o := (hx12_ o (Nat.ne_of_lt (Nat.lt_of_lt_of_le (cw_lt hw0_.1 t_o (fun _ _ _ => ⟨_, rfl⟩)) hge12_)) 185).trans rfl
                refine j_dup E 82 rfl dX9_plan_81 rfl ?_
                have hw0_ := hw
                refine aN_v E (n_X2_init l D cy κ T12_ (upV (upV (upV v_0 64 (upB (v_0 64) q12_ 0)) 65 (upB (v_0 65) q12_ 0)) 66 (upB (v_0 66) q12_ 0)) q12_ H.size  hO12_ tq12_  ) mi_X2_init hZ.1.mP hK hZ hAc hw hA ⟨(Nat.le_of_ble_eq_true rfl), (Nat.le_of_ble_eq_true rfl)⟩ ⟨(Nat.le_of_ble_eq_true rfl), (Nat.le_of_ble_eq_true rfl)⟩ (As := []) (rest := [.ref q12_]) rfl rfl hl.1 (Nat.le_of_ble_eq_true rfl) 85 rfl dX9_plan_82 (fun T19_ v_19 H locs hge19_ ho19_ hq19_ hw => ?_)
                obtain ⟨y64_19, y65_19, y66_19, y300_19, ev19_, hh19_⟩ := hq19_
                rw [ev19_] at hw; clear ev19_
                obtain ⟨hh19_, kf19_⟩ := hh19_
                have kd20_ : KdA_ T sz [60, 61, 62, 63] (v_0 300) (y300_19) := KdA_tr KdA_rf (KdA_ka kf19_ (by have := hw0_.2.2.1; omega) (by decide) (C20_ hC_ t_o (by decide)))
                have hw : WK D cy T19_ (upV (upV (upV (upV v_0 64 y64_19) 65 y65_19) 66 y66_19) 300 y300_19) A0 s.heap H locs := cw_eq hw (by first | rfl | (funext j_; simp only [upV, reduceIte]; (repeat' split) <;> first | rfl | omega | (subst_vars; rfl)))
                obtain ⟨hx19_, tq19_⟩ := hh19_
                have hT19_ : WT T19_ := hw.1.2.1
                have hO19_ : ∀ x, ow T19_ x → κ 2 2 ≤ x := fun x h => hAc x (hw.2.1 x h)
                have hoT_ : OW T T19_ s.heap.size := OW.tr hw0_.2.2.1 hoT_ ho19_
                have hC_ : ∀ b, b < sz → T 0 b ≠ 10 → T 0 b ≠ 24 → T 0 b ≠ 26 → b ≠ o → ∀ j, j ≠ 197 → T19_ j b = T j b := fun b_ h1_ h2_ h3_ h4_ h5_ j_ h6_ => (hx19_ b_ (by have := hw0_.2.2.1; omega) (by have := fq12_; omega) j_).trans (hC_ b_ h1_ h2_ h3_ h4_ h5_ j_ h6_)
                have B180n_ : ∀ j_, j_ ≠ 197 → T19_ j_ (T 180 o) = T j_ (T 180 o) := fun j_ hj_ => (hx19_ (T 180 o) (cw_lt hw0_.1 ((B180_ 0 (by decide)).trans tl180_) (fun _ _ _ => ⟨_, rfl⟩)) (ty_ne ((B180_ 0 (by decide)).trans tl180_) tq12_ (by decide)) j_).trans (B180_ j_ hj_)
                have A180n_ : ∀ j_, j_ ≠ 197 → T19_ j_ (T 201 (T 180 o)) = T j_ (T 201 (T 180 o)) := fun j_ hj_ => (hx19_ (T 201 (T 180 o)) (cw_ltq hw0_.1 (by rw [A180_ 0 (by decide)]; exact tx180_)) (ty_neq (by rw [A180_ 0 (by decide)]; exact tx180_) tq12_ (by decide) (by decide)) j_).trans (A180_ j_ hj_)
                have B181n_ : ∀ j_, j_ ≠ 197 → T19_ j_ (T 181 o) = T j_ (T 181 o) := fun j_ hj_ => (hx19_ (T 181 o) (cw_lt hw0_.1 ((B181_ 0 (by decide)).trans tl181_) (fun _ _ _ => ⟨_, rfl⟩)) (ty_ne ((B181_ 0 (by decide)).trans tl181_) tq12_ (by decide)) j_).trans (B181_ j_ hj_)
                have A181n_ : ∀ j_, j_ ≠ 197 → T19_ j_ (T 201 (T 181 o)) = T j_ (T 201 (T 181 o)) := fun j_ hj_ => (hx19_ (T 201 (T 181 o)) (cw_ltq hw0_.1 (by rw [A181_ 0 (by decide)]; exact tx181_)) (ty_neq (by rw [A181_ 0 (by decide)]; exact tx181_) tq12_ (by decide) (by decide)) j_).trans (A181_ j_ hj_)
                have B182n_ : ∀ j_, j_ ≠ 197 → T19_ j_ (T 182 o) = T j_ (T 182 o) := fun j_ hj_ => (hx19_ (T 182 o) (cw_lt hw0_.1 ((B182_ 0 (by decide)).trans tl182_) (fun _ _ _ => ⟨_, rfl⟩)) (ty_ne ((B182_ 0 (by decide)).trans tl182_) tq12_ (by decide)) j_).trans (B182_ j_ hj_)
                have A182n_ : ∀ j_, j_ ≠ 197 → T19_ j_ (T 201 (T 182 o)) = T j_ (T 201 (T 182 o)) := fun j_ hj_ => (hx19_ (T 201 (T 182 o)) (cw_ltq hw0_.1 (by rw [A182_ 0 (by decide)]; exact tx182_)) (ty_neq (by rw [A182_ 0 (by decide)]; exact tx182_) tq12_ (by decide) (by decide)) j_).trans (A182_ j_ hj_)
                have B183n_ : ∀ j_, j_ ≠ 197 → T19_ j_ (T 183 o) = T j_ (T 183 o) := fun j_ hj_ => (hx19_ (T 183 o) (cw_lt hw0_.1 ((B183_ 0 (by decide)).trans tl183_) (fun _ _ _ => ⟨_, rfl⟩)) (ty_ne ((B183_ 0 (by decide)).trans tl183_) tq12_ (by decide)) j_).trans (B183_ j_ hj_)
                have A183n_ : ∀ j_, j_ ≠ 197 → T19_ j_ (T 201 (T 183 o)) = T j_ (T 201 (T 183 o)) := fun j_ hj_ => (hx19_ (T 201 (T 183 o)) (cw_ltq hw0_.1 (by rw [A183_ 0 (by decide)]; exact tx183_)) (ty_neq (by rw [A183_ 0 (by decide)]; exact tx183_) tq12_ (by decide) (by decide)) j_).trans (A183_ j_ hj_)
                have B180_ := B180n_
                have A180_ := A180n_
                have B181_ := B181n_
                have A181_ := A181n_
                have B182_ := B182n_
                have A182_ := A182n_
                have B183_ := B183n_
                have A183_ := A183n_
                have u21_ : T19_ 0 o = 9 := (hx19_ o (cw_lt hw0_.1 u13_ (fun _ _ _ => ⟨_, rfl⟩)) (ty_ne u13_ tq12_ (by decide)) 0).trans u13_
                have u22_ : T19_ 180 o = T 180 o := (hx19_ o (cw_lt hw0_.1 u13_ (fun _ _ _ => ⟨_, rfl⟩)) (ty_ne u13_ tq12_ (by decide)) 180).trans u14_
                have u23_ : T19_ 181 o = T 181 o := (hx19_ o (cw_lt hw0_.1 u13_ (fun _ _ _ => ⟨_, rfl⟩)) (ty_ne u13_ tq12_ (by decide)) 181).trans u15_
                have u24_ : T19_ 182 o = T 182 o := (hx19_ o (cw_lt hw0_.1 u13_ (fun _ _ _ => ⟨_, rfl⟩)) (ty_ne u13_ tq12_ (by decide)) 182).trans u16_
                have u25_ : T19_ 183 o = T 183 o := (hx19_ o (cw_lt hw0_.1 u13_ (fun _ _ _ => ⟨_, rfl⟩)) (ty_ne u13_ tq12_ (by decide)) 183).trans u17_
                have u26_ : T19_ 185 o = T 185 o := (hx19_ o (cw_lt hw0_.1 u13_ (fun _ _ _ => ⟨_, rfl⟩)) (ty_ne u13_ tq12_ (by decide)) 185).trans u18_
                refine j_goto E 92 dX9_plan_85 (by decide) ?_
                refine j_astore E 94 rfl [(5, .ref q12_), (0, .ref o), (1, .int (J v_s)), (2, .int (J v_m)), (3, .int (J v_w)), (4, .int (J s0_53))] dX9_plan_92 hl (by decide) rfl (fun ls hl => ?_)
                refine j_aload_n E 95 rfl dX9_plan_94 rfl (lv_at hl 1 rfl) ?_
                refine j_aload E 97 rfl dX9_plan_95 (lv_at hl 0 rfl) ?_
                have hw0_ := hw
                refine pl_put E hK hw fl_X9_76 u21_ tq19_ 100 rfl dX9_plan_97 (fun T27_ H locs hx27_ ho27_ hw => ?_)
                have hT27_ : WT T27_ := hw.1.2.1
                have hO27_ : ∀ x, ow T27_ x → κ 2 2 ≤ x := fun x h => hAc x (hw.2.1 x h)
                have hoT_ : OW T T27_ s.heap.size := OW.tr0 hoT_ ho27_
                have hC_ : ∀ b, b < sz → T 0 b ≠ 10 → T 0 b ≠ 24 → T 0 b ≠ 26 → b ≠ o → ∀ j, j ≠ 197 → T27_ j b = T j b := fun b_ h1_ h2_ h3_ h4_ h5_ j_ h6_ => (hx27_ j_ h6_ b_).trans (hC_ b_ h1_ h2_ h3_ h4_ h5_ j_ h6_)
                have B180n_ : ∀ j_, j_ ≠ 197 → T27_ j_ (T 180 o) = T j_ (T 180 o) := fun j_ hj_ => (hx27_ j_ hj_ (T 180 o)).trans (B180_ j_ hj_)
                have A180n_ : ∀ j_, j_ ≠ 197 → T27_ j_ (T 201 (T 180 o)) = T j_ (T 201 (T 180 o)) := fun j_ hj_ => (hx27_ j_ hj_ (T 201 (T 180 o))).trans (A180_ j_ hj_)
                have B181n_ : ∀ j_, j_ ≠ 197 → T27_ j_ (T 181 o) = T j_ (T 181 o) := fun j_ hj_ => (hx27_ j_ hj_ (T 181 o)).trans (B181_ j_ hj_)
                have A181n_ : ∀ j_, j_ ≠ 197 → T27_ j_ (T 201 (T 181 o)) = T j_ (T 201 (T 181 o)) := fun j_ hj_ => (hx27_ j_ hj_ (T 201 (T 181 o))).trans (A181_ j_ hj_)
                have B182n_ : ∀ j_, j_ ≠ 197 → T27_ j_ (T 182 o) = T j_ (T 182 o) := fun j_ hj_ => (hx27_ j_ hj_ (T 182 o)).trans (B182_ j_ hj_)
                have A182n_ : ∀ j_, j_ ≠ 197 → T27_ j_ (T 201 (T 182 o)) = T j_ (T 201 (T 182 o)) := fun j_ hj_ => (hx27_ j_ hj_ (T 201 (T 182 o))).trans (A182_ j_ hj_)
                have B183n_ : ∀ j_, j_ ≠ 197 → T27_ j_ (T 183 o) = T j_ (T 183 o) := fun j_ hj_ => (hx27_ j_ hj_ (T 183 o)).trans (B183_ j_ hj_)
                have A183n_ : ∀ j_, j_ ≠ 197 → T27_ j_ (T 201 (T 183 o)) = T j_ (T 201 (T 183 o)) := fun j_ hj_ => (hx27_ j_ hj_ (T 201 (T 183 o))).trans (A183_ j_ hj_)
                have B180_ := B180n_
                have A180_ := A180n_
                have B181_ := B181n_
                have A181_ := A181n_
                have B182_ := B182n_
                have A182_ := A182n_
                have B183_ := B183n_
                have A183_ := A183n_
                have u28_ : T27_ 0 o = 9 := (hx27_ 0 (by decide) o).trans u21_
                have u29_ : T27_ 0 q12_ = 3 := (hx27_ 0 (by decide) q12_).trans tq19_
                have u30_ : T27_ 180 o = T 180 o := (hx27_ 180 (by decide) o).trans u22_
                have u31_ : T27_ 181 o = T 181 o := (hx27_ 181 (by decide) o).trans u23_
                have u32_ : T27_ 182 o = T 182 o := (hx27_ 182 (by decide) o).trans u24_
                have u33_ : T27_ 183 o = T 183 o := (hx27_ 183 (by decide) o).trans u25_
                have u34_ : T27_ 185 o = T 185 o := (hx27_ 185 (by decide) o).trans u26_
                refine j_aload E 102 rfl dX9_plan_100 (lv_at hl 0 rfl) ?_
                refine j_aload_n E 103 rfl dX9_plan_102 rfl (lv_at hl 1 rfl) ?_
                refine g_180 E hK hw fl_X9_12 u28_ 106 rfl dX9_plan_103 ?_
                refine kV_i E (c_Jx4a65c_size_8abf5 l D cy T27_ (upV (upV (upV (upV v_0 64 y64_19) 65 y65_19) 66 y66_19) 300 y300_19) (T27_ 180 o)  (wt_180 hT27_ u28_)  ) mt_Jx4a65c_size_8abf5 ml_X9_80 hK hw (cw_rc10 hK hw.1 (wt_180 hT27_ u28_)) hA ⟨Nat.le_of_ble_eq_true rfl, Nat.le_of_ble_eq_true rfl⟩ ⟨Nat.le_of_ble_eq_true rfl, Nat.le_of_ble_eq_true rfl⟩ (As := []) (rest := [.ref q12_]) rfl rfl hl.1 (Nat.le_of_ble_eq_true rfl) 109 rfl dX9_plan_106 (fun zz35_ v_35 H locs rr35_ hq35_ hw => ?_)
                obtain ⟨ev35_, hh35_⟩ := hq35_
                rw [ev35_] at hw; clear ev35_
                replace hh35_ : zz35_ = ((v_0 202) ((T27_ 180 o))) ∧ 0 ≤ zz35_ := hh35_
                refine kV_v E (c_X2_begin l D cy T27_ (upV (upV (upV (upV v_0 64 y64_19) 65 y65_19) 66 y66_19) 300 y300_19) q12_ zz35_  u29_ rr35_ ) mt_X2_begin ml_X9_377 hK hw (cw_rc3 hK hw.1 u29_) hA ⟨Nat.le_of_ble_eq_true rfl, Nat.le_of_ble_eq_true rfl⟩ ⟨Nat.le_of_ble_eq_true rfl, Nat.le_of_ble_eq_true rfl⟩ (As := [.int (J zz35_)]) (rest := []) rfl rfl hl.1 (Nat.le_of_ble_eq_true rfl) 112 rfl dX9_plan_109 (fun v_36 H locs hq36_ hw => ?_)
                obtain ⟨y64_36, y65_36, y66_36, y300_36, ev36_, hh36_⟩ := hq36_
                rw [ev36_] at hw; clear ev36_
                have hw : WK D cy T27_ (upV (upV (upV (upV v_0 64 y64_36) 65 y65_36) 66 y66_36) 300 y300_36) A0 s.heap H locs := cw_eq hw (by first | rfl | (funext j_; simp only [upV, reduceIte]; (repeat' split) <;> first | rfl | omega | (subst_vars; rfl)))
                obtain ⟨hh36_, kf36_⟩ := hh36_
                have kd37_ : KdA_ T sz [60, 61, 62, 63] (v_0 300) (y300_36) := KdA_tr kd20_ (KdA_kc kf36_ (by decide) (fun b_ h1_ h2_ => ((C20_ hC_ t_o (by decide)) b_ h1_ h2_).2))
                replace hh36_ : (y65_36 q12_) = 0 ∧ (y66_36 q12_) = 0 ∧ 0 ≤ (y64_36 q12_) ∧ (y64_36 q12_) ≤ 24 := hh36_
                refine j_iconst E 113 rfl dX9_plan_112 ?_
                refine j_istore E 115 rfl [(6, .int (J 0)), (5, .ref q12_), (0, .ref o), (1, .int (J v_s)), (2, .int (J v_m)), (3, .int (J v_w)), (4, .int (J s0_53))] dX9_plan_113 hl (by decide) rfl (fun ls hl => ?_)
                have L115_38 : ∀ (k115 : Nat) (l6_115 : Int) (y65_c115 : Nat → Int) (y66_c115 : Nat → Int) (y300_c115 : Nat → Int) (H : Heap) (locs : List Loc) (ls : Array Slot), inR l6_115 → ((0 ≤ l6_115 ∧ 0 ≤ (y66_c115 q12_) ∧ (y66_c115 q12_) ≤ 255 ∧ 0 ≤ (y65_c115 q12_) ∧ (y65_c115 q12_) ≤ 4 ∧ 0 ≤ (y64_36 q12_) ∧ (y64_36 q12_) ≤ 24) ∧ KdA_ T sz [60, 61, 62, 63] (v_0 300) y300_c115) → ((v_0 202 (T27_ 181 o)) - l6_115).toNat < k115 → WK D cy T27_ (upV (upV (upV (upV v_0 64 y64_36) 65 y65_c115) 66 y66_c115) 300 y300_c115) A0 s.heap H locs → lv_has ls 7 [(0, .ref o), (1, .int (J v_s)), (2, .int (J v_m)), (3, .int (J v_w)), (4, .int (J s0_53)), (5, .ref q12_), (6, .int (J l6_115))] → W p l e (rmd 5 5 6600) s m ar below meth c H locs 5 6531 QW (F0 m 115 ls []) := by
                  intro k115
                  induction k115 with
                  | zero =>
                    intro l6_115 y65_c115 y66_c115 y300_c115 H locs ls r_l6_115 iv115 ms115 hw hl
                    exact absurd ms115 (Nat.not_lt_zero _)
                  | succ k115 ih115 =>
                    intro l6_115 y65_c115 y66_c115 y300_c115 H locs ls r_l6_115 iv115 ms115 hw hl
                    obtain ⟨iv115, ik115_⟩ := iv115
                    refine j_iload E 117 rfl dX9_plan_115 (lv_at hl 6 rfl) ?_
                    refine j_aload_n E 118 rfl dX9_plan_117 rfl (lv_at hl 0 rfl) ?_
                    refine g_181 E hK hw fl_X9_16 u28_ 121 rfl dX9_plan_118 ?_
                    refine kV_i E (c_Jx4a65c_size_8abf5 l D cy T27_ (upV (upV (upV (upV v_0 64 y64_36) 65 y65_c115) 66 y66_c115) 300 y300_c115) (T27_ 181 o)  (wt_181 hT27_ u28_)  ) mt_Jx4a65c_size_8abf5 ml_X9_80 hK hw (cw_rc10 hK hw.1 (wt_181 hT27_ u28_)) hA ⟨Nat.le_of_ble_eq_true rfl, Nat.le_of_ble_eq_true rfl⟩ ⟨Nat.le_of_ble_eq_true rfl, Nat.le_of_ble_eq_true rfl⟩ (As := []) (rest := [.int (J l6_115)]) rfl rfl hl.1 (Nat.le_of_ble_eq_true rfl) 124 rfl dX9_plan_121 (fun zz40_ v_40 H locs rr40_ hq40_ hw => ?_)
                    obtain ⟨ev40_, hh40_⟩ := hq40_
                    rw [ev40_] at hw; clear ev40_
                    replace hh40_ : zz40_ = ((v_0 202) ((T27_ 181 o))) ∧ 0 ≤ zz40_ := hh40_
                    refine j_icmp_ge E 127 169 rfl r_l6_115 rr40_ dX9_plan_124 (by decide) (fun cc41_ => ?_) (fun cc41_ => ?_)
                    · refine j_aload E 171 rfl dX9_plan_169 (lv_at hl 5 rfl) ?_
                      refine kV_v E (c_X2_solve l D cy T27_ (upV (upV (upV (upV v_0 64 y64_36) 65 y65_c115) 66 y66_c115) 300 y300_c115) q12_  u29_  (show 0 ≤ (y66_c115 q12_) ∧ (y66_c115 q12_) ≤ 255 ∧ 0 ≤ (y65_c115 q12_) ∧ (y65_c115 q12_) ≤ 4 ∧ 0 ≤ (y64_36 q12_) ∧ (y64_36 q12_) ≤ 24 from by omega)) mt_X2_solve ml_X9_387 hK hw (cw_rc3 hK hw.1 u29_) hA ⟨Nat.le_of_ble_eq_true rfl, Nat.le_of_ble_eq_true rfl⟩ ⟨Nat.le_of_ble_eq_true rfl, Nat.le_of_ble_eq_true rfl⟩ (As := []) (rest := []) rfl rfl hl.1 (Nat.le_of_ble_eq_true rfl) 174 rfl dX9_plan_171 (fun v_42 H locs hq42_ hw => ?_)
                      obtain ⟨y300_42, ev42_, hh42_⟩ := hq42_
                      rw [ev42_] at hw; clear ev42_
                      have hw : WK D cy T27_ (upV (upV (upV (upV v_0 64 y64_36) 65 y65_c115) 66 y66_c115) 300 y300_42) A0 s.heap H locs := cw_eq hw (by first | rfl | (funext j_; simp only [upV, reduceIte]; (repeat' split) <;> first | rfl | omega | (subst_vars; rfl)))
                      obtain ⟨hh42_, kf42_⟩ := hh42_
                      have kd43_ : KdA_ T sz [60, 61, 62, 63] (v_0 300) (y300_42) := KdA_tr ik115_ (KdA_kc kf42_ (by decide) (fun b_ h1_ h2_ => ((C20_ hC_ t_o (by decide)) b_ h1_ h2_).2))
                      refine j_iload E 176 rfl dX9_plan_174 (lv_at hl 4 rfl) ?_
                      refine j_if_eq E 179 191 rfl r_s0_53 dX9_plan_176 (by decide) (fun cc44_ => ?_) (fun cc44_ => ?_)
                      · refine j_iload_n E 192 rfl dX9_plan_191 rfl (lv_at hl 3 rfl) ?_
                        refine j_if_ne E 195 203 rfl r_v_w dX9_plan_192 (by decide) (fun cc45_ => ?_) (fun cc45_ => ?_)
                        · refine j_aload E 205 rfl dX9_plan_203 (lv_at hl 5 rfl) ?_
                          refine kV_i E (c_X2_teachings l D cy T27_ (upV (upV (upV (upV v_0 64 y64_36) 65 y65_c115) 66 y66_c115) 300 y300_42) q12_  u29_  ) mt_X2_teachings ml_X9_396 hK hw (cw_rc3 hK hw.1 u29_) hA ⟨Nat.le_of_ble_eq_true rfl, Nat.le_of_ble_eq_true rfl⟩ ⟨Nat.le_of_ble_eq_true rfl, Nat.le_of_ble_eq_true rfl⟩ (As := []) (rest := []) rfl rfl hl.1 (Nat.le_of_ble_eq_true rfl) 208 rfl dX9_plan_205 (fun zz46_ v_46 H locs rr46_ hq46_ hw => ?_)
                          obtain ⟨ev46_, hh46_⟩ := hq46_
                          rw [ev46_] at hw; clear ev46_
                          exact hret 208 zz46_ T27_ (upV (upV (upV (upV v_0 64 y64_36) 65 y65_c115) 66 y66_c115) 300 y300_42) _ _ ls _ _ hw hoT_ rr46_ ⟨y64_36, y65_c115, y66_c115, y300_42, rfl, ⟨⟨u28_, ⟨u30_, u31_, u32_, u33_, u34_⟩, hC_, (fun i_ => by rw [u30_, B180_ 201 (by decide), A180_ (1000 + i_) (by omega)]), (fun i_ => by rw [u31_, B181_ 201 (by decide), A181_ (1000 + i_) (by omega)]), (fun i_ => by rw [u32_, B182_ 201 (by decide), A182_ (1000 + i_) (by omega)]), (fun i_ => by rw [u33_, B183_ 201 (by decide), A183_ (1000 + i_) (by omega)])⟩, kd43_⟩⟩ (Nat.le_of_ble_eq_true rfl) (Nat.le_of_ble_eq_true rfl) dX9_plan_208
                        · refine j_aload E 197 rfl dX9_plan_195 (lv_at hl 5 rfl) ?_
                          refine kV_i E (c_X2_cost l D cy T27_ (upV (upV (upV (upV v_0 64 y64_36) 65 y65_c115) 66 y66_c115) 300 y300_42) q12_  u29_  ) mt_X2_cost ml_X9_393 hK hw (cw_rc3 hK hw.1 u29_) hA ⟨Nat.le_of_ble_eq_true rfl, Nat.le_of_ble_eq_true rfl⟩ ⟨Nat.le_of_ble_eq_true rfl, Nat.le_of_ble_eq_true rfl⟩ (As := []) (rest := []) rfl rfl hl.1 (Nat.le_of_ble_eq_true rfl) 200 rfl dX9_plan_197 (fun zz47_ v_47 H locs rr47_ hq47_ hw => ?_)
                          obtain ⟨ev47_, hh47_⟩ := hq47_
                          rw [ev47_] at hw; clear ev47_
                          refine j_goto E 208 dX9_plan_200 (by decide) ?_
                          exact hret 208 zz47_ T27_ (upV (upV (upV (upV v_0 64 y64_36) 65 y65_c115) 66 y66_c115) 300 y300_42) _ _ ls _ _ hw hoT_ rr47_ ⟨y64_36, y65_c115, y66_c115, y300_42, rfl, ⟨⟨u28_, ⟨u30_, u31_, u32_, u33_, u34_⟩, hC_, (fun i_ => by rw [u30_, B180_ 201 (by decide), A180_ (1000 + i_) (by omega)]), (fun i_ => by rw [u31_, B181_ 201 (by decide), A181_ (1000 + i_) (by omega)]), (fun i_ => by rw [u32_, B182_ 201 (by decide), A182_ (1000 + i_) (by omega)]), (fun i_ => by rw [u33_, B183_ 201 (by decide), A183_ (1000 + i_) (by omega)])⟩, kd43_⟩⟩ (Nat.le_of_ble_eq_true rfl) (Nat.le_of_ble_eq_true rfl) dX9_plan_208
                      · refine j_aload E 181 rfl dX9_plan_179 (lv_at hl 5 rfl) ?_
                        refine j_iload_n E 182 rfl dX9_plan_181 rfl (lv_at hl 3 rfl) ?_
                        refine j_bipush E 184 rfl dX9_plan_182 (by decide) ?_
                        refine j_isub E 185 rfl dX9_plan_184 ?_
                        refine j_norm (fun zz48_ rr48_ ee48_ => ?_)
                        refine kV_i E (c_X2_lessonOf l D cy T27_ (upV (upV (upV (upV v_0 64 y64_36) 65 y65_c115) 66 y66_c115) 300 y300_42) q12_ zz48_  u29_ rr48_ ) mt_X2_lessonOf ml_X9_390 hK hw (cw_rc3 hK hw.1 u29_) hA ⟨Nat.le_of_ble_eq_true rfl, Nat.le_of_ble_eq_true rfl⟩ ⟨Nat.le_of_ble_eq_true rfl, Nat.le_of_ble_eq_true rfl⟩ (As := [.int (J zz48_)]) (rest := []) rfl rfl hl.1 (Nat.le_of_ble_eq_true rfl) 188 rfl dX9_plan_185 (fun zz49_ v_49 H locs rr49_ hq49_ hw => ?_)
                        obtain ⟨ev49_, hh49_⟩ := hq49_
                        rw [ev49_] at hw; clear ev49_
                        refine j_goto E 208 dX9_plan_188 (by decide) ?_
                        exact hret 208 zz49_ T27_ (upV (upV (upV (upV v_0 64 y64_36) 65 y65_c115) 66 y66_c115) 300 y300_42) _ _ ls _ _ hw hoT_ rr49_ ⟨y64_36, y65_c115, y66_c115, y300_42, rfl, ⟨⟨u28_, ⟨u30_, u31_, u32_, u33_, u34_⟩, hC_, (fun i_ => by rw [u30_, B180_ 201 (by decide), A180_ (1000 + i_) (by omega)]), (fun i_ => by rw [u31_, B181_ 201 (by decide), A181_ (1000 + i_) (by omega)]), (fun i_ => by rw [u32_, B182_ 201 (by decide), A182_ (1000 + i_) (by omega)]), (fun i_ => by rw [u33_, B183_ 201 (by decide), A183_ (1000 + i_) (by omega)])⟩, kd43_⟩⟩ (Nat.le_of_ble_eq_true rfl) (Nat.le_of_ble_eq_true rfl) dX9_plan_208
                    · refine j_iload_n E 128 rfl dX9_plan_127 rfl (lv_at hl 1 rfl) ?_
                      refine j_iload E 130 rfl dX9_plan_128 (lv_at hl 6 rfl) ?_
                      refine j_iushr E 131 rfl dX9_plan_130 (fun zz50_ rr50_ ee50_ => ?_)
                      refine j_iconst E 132 rfl dX9_plan_131 ?_
                      refine j_iand E 133 rfl dX9_plan_132 (fun zz51_ rr51_ ee51_ => ?_)
                      refine j_if_eq E 136 163 rfl rr51_ dX9_plan_133 (by decide) (fun cc52_ => ?_) (fun cc52_ => ?_)
                      · refine j_iinc E 166 rfl [(6, .int (J (l6_115 + 1))), (0, .ref o), (1, .int (J v_s)), (2, .int (J v_m)), (3, .int (J v_w)), (4, .int (J s0_53)), (5, .ref q12_)] dX9_plan_163 hl (kk := 6) rfl (by decide) rfl (fun ls hl => ?_)
                        refine j_goto E 115 dX9_plan_166 (by decide) ?_
                        exact ih115 (l6_115 + 1) y65_c115 y66_c115 y300_c115 H locs ls (rr (by omega)) (⟨by first | omega | (simp only [upB_same]; omega), ik115_⟩) (by omega) hw (lv_sub hl [1, 2, 3, 4, 5, 6, 0] rfl)
                      · refine j_aload E 138 rfl dX9_plan_136 (lv_at hl 5 rfl) ?_
                        refine j_iload E 140 rfl dX9_plan_138 (lv_at hl 6 rfl) ?_
                        refine j_iconst E 141 rfl dX9_plan_140 ?_
                        refine j_iload_n E 142 rfl dX9_plan_141 rfl (lv_at hl 2 rfl) ?_
                        refine j_aload_n E 143 rfl dX9_plan_142 rfl (lv_at hl 0 rfl) ?_
                        refine j_iload E 145 rfl dX9_plan_143 (lv_at hl 6 rfl) ?_
                        refine kV_i E (c_X9_countHolders l D cy T27_ (upV (upV (upV (upV v_0 64 y64_36) 65 y65_c115) 66 y66_c115) 300 y300_c115) o l6_115  u28_ r_l6_115 ) mt_X9_countHolders ml_X9_209 hK hw (cw_rc9 hK hw.1 u28_) hA ⟨Nat.le_of_ble_eq_true rfl, Nat.le_of_ble_eq_true rfl⟩ ⟨Nat.le_of_ble_eq_true rfl, Nat.le_of_ble_eq_true rfl⟩ (As := [.int (J l6_115)]) (rest := [.int (J v_m), .int (J 0), .int (J l6_115), .ref q12_]) rfl rfl hl.1 (Nat.le_of_ble_eq_true rfl) 148 rfl dX9_plan_145 (fun zz53_ v_53 H locs rr53_ hq53_ hw => ?_)
                        obtain ⟨ev53_, hh53_⟩ := hq53_
                        rw [ev53_] at hw; clear ev53_
                        refine j_isub E 149 rfl dX9_plan_148 ?_
                        refine j_norm (fun zz54_ rr54_ ee54_ => ?_)
                        refine j_max E hl.1 ml_X9_350 (rr (by decide)) rr54_ ⟨Nat.le_of_ble_eq_true rfl, Nat.le_of_ble_eq_true rfl⟩ ⟨Nat.le_of_ble_eq_true rfl, Nat.le_of_ble_eq_true rfl⟩ 152 rfl dX9_plan_149 (fun zz55_ rr55_ hh55_ => ?_)
                        refine kV_v E (c_X2_addLine l D cy T27_ (upV (upV (upV (upV v_0 64 y64_36) 65 y65_c115) 66 y66_c115) 300 y300_c115) q12_ l6_115 zz55_  u29_ r_l6_115 rr55_ (show 0 ≤ (y66_c115 q12_) ∧ (y66_c115 q12_) ≤ 255 ∧ 0 ≤ (y65_c115 q12_) ∧ (y65_c115 q12_) ≤ 4 from by omega)) mt_X2_addLine ml_X9_380 hK hw (cw_rc3 hK hw.1 u29_) hA ⟨Nat.le_of_ble_eq_true rfl, Nat.le_of_ble_eq_true rfl⟩ ⟨Nat.le_of_ble_eq_true rfl, Nat.le_of_ble_eq_true rfl⟩ (As := [.int (J l6_115), .int (J zz55_)]) (rest := []) rfl rfl hl.1 (Nat.le_of_ble_eq_true rfl) 155 rfl dX9_plan_152 (fun v_56 H locs hq56_ hw => ?_)
                        obtain ⟨y65_56, y66_56, y300_56, ev56_, hh56_⟩ := hq56_
                        rw [ev56_] at hw; clear ev56_
                        have hw : WK D cy T27_ (upV (upV (upV (upV v_0 64 y64_36) 65 y65_56) 66 y66_56) 300 y300_56) A0 s.heap H locs := cw_eq hw (by first | rfl | (funext j_; simp only [upV, reduceIte]; (repeat' split) <;> first | rfl | omega | (subst_vars; rfl)))
                        obtain ⟨hh56_, kf56_⟩ := hh56_
                        have kd57_ : KdA_ T sz [60, 61, 62, 63] (v_0 300) (y300_56) := KdA_tr ik115_ (KdA_kc kf56_ (by decide) (fun b_ h1_ h2_ => ((C20_ hC_ t_o (by decide)) b_ h1_ h2_).2))
                        replace hh56_ : 0 ≤ (y66_56 q12_) ∧ (y66_56 q12_) ≤ 255 ∧ 0 ≤ (y65_56 q12_) ∧ (y65_56 q12_) ≤ 4 := hh56_
                        refine j_aload_n E 156 rfl dX9_plan_155 rfl (lv_at hl 0 rfl) ?_
                        refine j_aload E 158 rfl dX9_plan_156 (lv_at hl 5 rfl) ?_
                        refine j_iload E 160 rfl dX9_plan_158 (lv_at hl 6 rfl) ?_
                        refine kV_v E (c_X9_putPrices l D cy T27_ (upV (upV (upV (upV v_0 64 y64_36) 65 y65_56) 66 y66_56) 300 y300_56) o q12_ l6_115  u28_ u29_ r_l6_115 ) mt_X9_putPrices ml_X9_383 hK hw (cw_rc9 hK hw.1 u28_) hA ⟨Nat.le_of_ble_eq_true rfl, Nat.le_of_ble_eq_true rfl⟩ ⟨Nat.le_of_ble_eq_true rfl, Nat.le_of_ble_eq_true rfl⟩ (As := [.ref q12_, .int (J l6_115)]) (rest := []) rfl rfl hl.1 (Nat.le_of_ble_eq_true rfl) 163 rfl dX9_plan_160 (fun v_58 H locs hq58_ hw => ?_)
                        obtain ⟨y300_58, ev58_, hh58_⟩ := hq58_
                        rw [ev58_] at hw; clear ev58_
                        have hw : WK D cy T27_ (upV (upV (upV (upV v_0 64 y64_36) 65 y65_56) 66 y66_56) 300 y300_58) A0 s.heap H locs := cw_eq hw (by first | rfl | (funext j_; simp only [upV, reduceIte]; (repeat' split) <;> first | rfl | omega | (subst_vars; rfl)))
                        obtain ⟨hh58_, kf58_⟩ := hh58_
                        have kd59_ : KdA_ T sz [60, 61, 62, 63] (v_0 300) (y300_58) := KdA_tr kd57_ (KdA_kc kf58_ (by decide) (fun b_ h1_ h2_ => ((C20_ hC_ t_o (by decide)) b_ h1_ h2_).2))
                        refine j_iinc E 166 rfl [(6, .int (J (l6_115 + 1))), (0, .ref o), (1, .int (J v_s)), (2, .int (J v_m)), (3, .int (J v_w)), (4, .int (J s0_53)), (5, .ref q12_)] dX9_plan_163 hl (kk := 6) rfl (by decide) rfl (fun ls hl => ?_)
                        refine j_goto E 115 dX9_plan_166 (by decide) ?_
                        exact ih115 (l6_115 + 1) y65_56 y66_56 y300_58 H locs ls (rr (by omega)) (⟨by first | omega | (simp only [upB_same]; omega), kd59_⟩) (by omega) hw (lv_sub hl [1, 2, 3, 4, 5, 6, 0] rfl)
                exact L115_38 _ 0 y65_36 y66_36 y300_36 H locs ls (rr (by decide)) (⟨by first | omega | (simp only [upB_same]; omega), kd37_⟩) (Nat.lt_succ_self _) hw (lv_sub hl [2, 3, 4, 5, 6, 1, 0] rfl)
              | some xp11_ =>
                show W p l e (rmd 5 5 6600) s m ar below meth c H locs _ _ QW (F0 m 75 ls [.ref xp11_])
                have tp11_ : T 0 xp11_ = 3 := wpl_ hT t_o hd11_
                refine j_ifnonnullR E 88 dX9_plan_75 (by decide) ?_
                refine j_aload_n E 89 rfl dX9_plan_88 rfl (lv_at hl 0 rfl) ?_
                refine g_197 E hK hw fl_X9_76 t_o 92 rfl dX9_plan_89 ?_
                rw [hd11_]
                show W p l e (rmd 5 5 6600) s m ar below meth c H locs _ _ QW (F0 m 92 ls [.ref xp11_])
                refine j_astore E 94 rfl [(5, .ref xp11_), (0, .ref o), (1, .int (J v_s)), (2, .int (J v_m)), (3, .int (J v_w)), (4, .int (J s0_53))] dX9_plan_92 hl (by decide) rfl (fun ls hl => ?_)
                refine j_aload_n E 95 rfl dX9_plan_94 rfl (lv_at hl 1 rfl) ?_
                refine j_aload E 97 rfl dX9_plan_95 (lv_at hl 0 rfl) ?_
                have hw0_ := hw
                refine pl_put E hK hw fl_X9_76 t_o tp11_ 100 rfl dX9_plan_97 (fun T60_ H locs hx60_ ho60_ hw => ?_)
                have hT60_ : WT T60_ := hw.1.2.1
                have hO60_ : ∀ x, ow T60_ x → κ 2 2 ≤ x := fun x h => hAc x (hw.2.1 x h)
                have hoT_ : OW T T60_ s.heap.size := OW.tr0 hoT_ ho60_
                have hC_ : ∀ b, b < sz → T 0 b ≠ 10 → T 0 b ≠ 24 → T 0 b ≠ 26 → b ≠ o → ∀ j, j ≠ 197 → T60_ j b = T j b := fun b_ h1_ h2_ h3_ h4_ h5_ j_ h6_ => (hx60_ j_ h6_ b_).trans (hC_ b_ h1_ h2_ h3_ h4_ h5_ j_ h6_)
                have B180n_ : ∀ j_, j_ ≠ 197 → T60_ j_ (T 180 o) = T j_ (T 180 o) := fun j_ hj_ => (hx60_ j_ hj_ (T 180 o)).trans (B180_ j_ hj_)
                have A180n_ : ∀ j_, j_ ≠ 197 → T60_ j_ (T 201 (T 180 o)) = T j_ (T 201 (T 180 o)) := fun j_ hj_ => (hx60_ j_ hj_ (T 201 (T 180 o))).trans (A180_ j_ hj_)
                have B181n_ : ∀ j_, j_ ≠ 197 → T60_ j_ (T 181 o) = T j_ (T 181 o) := fun j_ hj_ => (hx60_ j_ hj_ (T 181 o)).trans (B181_ j_ hj_)
                have A181n_ : ∀ j_, j_ ≠ 197 → T60_ j_ (T 201 (T 181 o)) = T j_ (T 201 (T 181 o)) := fun j_ hj_ => (hx60_ j_ hj_ (T 201 (T 181 o))).trans (A181_ j_ hj_)
                have B182n_ : ∀ j_, j_ ≠ 197 → T60_ j_ (T 182 o) = T j_ (T 182 o) := fun j_ hj_ => (hx60_ j_ hj_ (T 182 o)).trans (B182_ j_ hj_)
                have A182n_ : ∀ j_, j_ ≠ 197 → T60_ j_ (T 201 (T 182 o)) = T j_ (T 201 (T 182 o)) := fun j_ hj_ => (hx60_ j_ hj_ (T 201 (T 182 o))).trans (A182_ j_ hj_)
                have B183n_ : ∀ j_, j_ ≠ 197 → T60_ j_ (T 183 o) = T j_ (T 183 o) := fun j_ hj_ => (hx60_ j_ hj_ (T 183 o)).trans (B183_ j_ hj_)
                have A183n_ : ∀ j_, j_ ≠ 197 → T60_ j_ (T 201 (T 183 o)) = T j_ (T 201 (T 183 o)) := fun j_ hj_ => (hx60_ j_ hj_ (T 201 (T 183 o))).trans (A183_ j_ hj_)
                have B180_ := B180n_
                have A180_ := A180n_
                have B181_ := B181n_
                have A181_ := A181n_
                have B182_ := B182n_
                have A182_ := A182n_
                have B183_ := B183n_
                have A183_ := A183n_
                have u61_ : T60_ 0 o = 9 := (hx60_ 0 (by decide) o).trans t_o
                have u62_ : T60_ 0 xp11_ = 3 := (hx60_ 0 (by decide) xp11_).trans tp11_
                have u63_ : T60_ 180 o = T 180 o := (hx60_ 180 (by decide) o).trans rfl
                have u64_ : T60_ 181 o = T 181 o := (hx60_ 181 (by decide) o).trans rfl
                have u65_ : T60_ 182 o = T 182 o := (hx60_ 182 (by decide) o).trans rfl
                have u66_ : T60_ 183 o = T 183 o := (hx60_ 183 (by decide) o).trans rfl
                have u67_ : T60_ 185 o = T 185 o := (hx60_ 185 (by decide) o).trans rfl
                refine j_aload E 102 rfl dX9_plan_100 (lv_at hl 0 rfl) ?_
                refine j_aload_n E 103 rfl dX9_plan_102 rfl (lv_at hl 1 rfl) ?_
                refine g_180 E hK hw fl_X9_12 u61_ 106 rfl dX9_plan_103 ?_
                refine kV_i E (c_Jx4a65c_size_8abf5 l D cy T60_ (v_0) (T60_ 180 o)  (wt_180 hT60_ u61_)  ) mt_Jx4a65c_size_8abf5 ml_X9_80 hK hw (cw_rc10 hK hw.1 (wt_180 hT60_ u61_)) hA ⟨Nat.le_of_ble_eq_true rfl, Nat.le_of_ble_eq_true rfl⟩ ⟨Nat.le_of_ble_eq_true rfl, Nat.le_of_ble_eq_true rfl⟩ (As := []) (rest := [.ref xp11_]) rfl rfl hl.1 (Nat.le_of_ble_eq_true rfl) 109 rfl dX9_plan_106 (fun zz68_ v_68 H locs rr68_ hq68_ hw => ?_)
                obtain ⟨ev68_, hh68_⟩ := hq68_
                rw [ev68_] at hw; clear ev68_
                replace hh68_ : zz68_ = ((v_0 202) ((T60_ 180 o))) ∧ 0 ≤ zz68_ := hh68_
                refine kV_v E (c_X2_begin l D cy T60_ (v_0) xp11_ zz68_  u62_ rr68_ ) mt_X2_begin ml_X9_377 hK hw (cw_rc3 hK hw.1 u62_) hA ⟨Nat.le_of_ble_eq_true rfl, Nat.le_of_ble_eq_true rfl⟩ ⟨Nat.le_of_ble_eq_true rfl, Nat.le_of_ble_eq_true rfl⟩ (As := [.int (J zz68_)]) (rest := []) rfl rfl hl.1 (Nat.le_of_ble_eq_true rfl) 112 rfl dX9_plan_109 (fun v_69 H locs hq69_ hw => ?_)
                obtain ⟨y64_69, y65_69, y66_69, y300_69, ev69_, hh69_⟩ := hq69_
                rw [ev69_] at hw; clear ev69_
                have hw : WK D cy T60_ (upV (upV (upV (upV v_0 64 y64_69) 65 y65_69) 66 y66_69) 300 y300_69) A0 s.heap H locs := cw_eq hw (by first | rfl | (funext j_; simp only [upV, reduceIte]; (repeat' split) <;> first | rfl | omega | (subst_vars; rfl)))
                obtain ⟨hh69_, kf69_⟩ := hh69_
                have kd70_ : KdA_ T sz [60, 61, 62, 63] (v_0 300) (y300_69) := KdA_tr KdA_rf (KdA_kc kf69_ (by decide) (fun b_ h1_ h2_ => ((C20_ hC_ t_o (by decide)) b_ h1_ h2_).2))
                replace hh69_ : (y65_69 xp11_) = 0 ∧ (y66_69 xp11_) = 0 ∧ 0 ≤ (y64_69 xp11_) ∧ (y64_69 xp11_) ≤ 24 := hh69_
                refine j_iconst E 113 rfl dX9_plan_112 ?_
                refine j_istore E 115 rfl [(6, .int (J 0)), (5, .ref xp11_), (0, .ref o), (1, .int (J v_s)), (2, .int (J v_m)), (3, .int (J v_w)), (4, .int (J s0_53))] dX9_plan_113 hl (by decide) rfl (fun ls hl => ?_)
                have L115_71 : ∀ (k115 : Nat) (l6_115 : Int) (y65_c115 : Nat → Int) (y66_c115 : Nat → Int) (y300_c115 : Nat → Int) (H : Heap) (locs : List Loc) (ls : Array Slot), inR l6_115 → ((0 ≤ l6_115 ∧ 0 ≤ (y66_c115 xp11_) ∧ (y66_c115 xp11_) ≤ 255 ∧ 0 ≤ (y65_c115 xp11_) ∧ (y65_c115 xp11_) ≤ 4 ∧ 0 ≤ (y64_69 xp11_) ∧ (y64_69 xp11_) ≤ 24) ∧ KdA_ T sz [60, 61, 62, 63] (v_0 300) y300_c115) → ((v_0 202 (T60_ 181 o)) - l6_115).toNat < k115 → WK D cy T60_ (upV (upV (upV (upV v_0 64 y64_69) 65 y65_c115) 66 y66_c115) 300 y300_c115) A0 s.heap H locs → lv_has ls 7 [(0, .ref o), (1, .int (J v_s)), (2, .int (J v_m)), (3, .int (J v_w)), (4, .int (J s0_53)), (5, .ref xp11_), (6, .int (J l6_115))] → W p l e (rmd 5 5 6600) s m ar below meth c H locs 0 0 QW (F0 m 115 ls []) := by
                  intro k115
                  induction k115 with
                  | zero =>
                    intro l6_115 y65_c115 y66_c115 y300_c115 H locs ls r_l6_115 iv115 ms115 hw hl
                    exact absurd ms115 (Nat.not_lt_zero _)
                  | succ k115 ih115 =>
                    intro l6_115 y65_c115 y66_c115 y300_c115 H locs ls r_l6_115 iv115 ms115 hw hl
                    obtain ⟨iv115, ik115_⟩ := iv115
                    refine j_iload E 117 rfl dX9_plan_115 (lv_at hl 6 rfl) ?_
                    refine j_aload_n E 118 rfl dX9_plan_117 rfl (lv_at hl 0 rfl) ?_
                    refine g_181 E hK hw fl_X9_16 u61_ 121 rfl dX9_plan_118 ?_
                    refine kV_i E (c_Jx4a65c_size_8abf5 l D cy T60_ (upV (upV (upV (upV v_0 64 y64_69) 65 y65_c115) 66 y66_c115) 300 y300_c115) (T60_ 181 o)  (wt_181 hT60_ u61_)  ) mt_Jx4a65c_size_8abf5 ml_X9_80 hK hw (cw_rc10 hK hw.1 (wt_181 hT60_ u61_)) hA ⟨Nat.le_of_ble_eq_true rfl, Nat.le_of_ble_eq_true rfl⟩ ⟨Nat.le_of_ble_eq_true rfl, Nat.le_of_ble_eq_true rfl⟩ (As := []) (rest := [.int (J l6_115)]) rfl rfl hl.1 (Nat.le_of_ble_eq_true rfl) 124 rfl dX9_plan_121 (fun zz73_ v_73 H locs rr73_ hq73_ hw => ?_)
                    obtain ⟨ev73_, hh73_⟩ := hq73_
                    rw [ev73_] at hw; clear ev73_
                    replace hh73_ : zz73_ = ((v_0 202) ((T60_ 181 o))) ∧ 0 ≤ zz73_ := hh73_
                    refine j_icmp_ge E 127 169 rfl r_l6_115 rr73_ dX9_plan_124 (by decide) (fun cc74_ => ?_) (fun cc74_ => ?_)
                    · refine j_aload E 171 rfl dX9_plan_169 (lv_at hl 5 rfl) ?_
                      refine kV_v E (c_X2_solve l D cy T60_ (upV (upV (upV (upV v_0 64 y64_69) 65 y65_c115) 66 y66_c115) 300 y300_c115) xp11_  u62_  (show 0 ≤ (y66_c115 xp11_) ∧ (y66_c115 xp11_) ≤ 255 ∧ 0 ≤ (y65_c115 xp11_) ∧ (y65_c115 xp11_) ≤ 4 ∧ 0 ≤ (y64_69 xp11_) ∧ (y64_69 xp11_) ≤ 24 from by omega)) mt_X2_solve ml_X9_387 hK hw (cw_rc3 hK hw.1 u62_) hA ⟨Nat.le_of_ble_eq_true rfl, Nat.le_of_ble_eq_true rfl⟩ ⟨Nat.le_of_ble_eq_true rfl, Nat.le_of_ble_eq_true rfl⟩ (As := []) (rest := []) rfl rfl hl.1 (Nat.le_of_ble_eq_true rfl) 174 rfl dX9_plan_171 (fun v_75 H locs hq75_ hw => ?_)
                      obtain ⟨y300_75, ev75_, hh75_⟩ := hq75_
                      rw [ev75_] at hw; clear ev75_
                      have hw : WK D cy T60_ (upV (upV (upV (upV v_0 64 y64_69) 65 y65_c115) 66 y66_c115) 300 y300_75) A0 s.heap H locs := cw_eq hw (by first | rfl | (funext j_; simp only [upV, reduceIte]; (repeat' split) <;> first | rfl | omega | (subst_vars; rfl)))
                      obtain ⟨hh75_, kf75_⟩ := hh75_
                      have kd76_ : KdA_ T sz [60, 61, 62, 63] (v_0 300) (y300_75) := KdA_tr ik115_ (KdA_kc kf75_ (by decide) (fun b_ h1_ h2_ => ((C20_ hC_ t_o (by decide)) b_ h1_ h2_).2))
                      refine j_iload E 176 rfl dX9_plan_174 (lv_at hl 4 rfl) ?_
                      refine j_if_eq E 179 191 rfl r_s0_53 dX9_plan_176 (by decide) (fun cc77_ => ?_) (fun cc77_ => ?_)
                      · refine j_iload_n E 192 rfl dX9_plan_191 rfl (lv_at hl 3 rfl) ?_
                        refine j_if_ne E 195 203 rfl r_v_w dX9_plan_192 (by decide) (fun cc78_ => ?_) (fun cc78_ => ?_)
                        · refine j_aload E 205 rfl dX9_plan_203 (lv_at hl 5 rfl) ?_
                          refine kV_i E (c_X2_teachings l D cy T60_ (upV (upV (upV (upV v_0 64 y64_69) 65 y65_c115) 66 y66_c115) 300 y300_75) xp11_  u62_  ) mt_X2_teachings ml_X9_396 hK hw (cw_rc3 hK hw.1 u62_) hA ⟨Nat.le_of_ble_eq_true rfl, Nat.le_of_ble_eq_true rfl⟩ ⟨Nat.le_of_ble_eq_true rfl, Nat.le_of_ble_eq_true rfl⟩ (As := []) (rest := []) rfl rfl hl.1 (Nat.le_of_ble_eq_true rfl) 208 rfl dX9_plan_205 (fun zz79_ v_79 H locs rr79_ hq79_ hw => ?_)
                          obtain ⟨ev79_, hh79_⟩ := hq79_
                          rw [ev79_] at hw; clear ev79_
                          exact hret 208 zz79_ T60_ (upV (upV (upV (upV v_0 64 y64_69) 65 y65_c115) 66 y66_c115) 300 y300_75) _ _ ls _ _ hw hoT_ rr79_ ⟨y64_69, y65_c115, y66_c115, y300_75, rfl, ⟨⟨u61_, ⟨u63_, u64_, u65_, u66_, u67_⟩, hC_, (fun i_ => by rw [u63_, B180_ 201 (by decide), A180_ (1000 + i_) (by omega)]), (fun i_ => by rw [u64_, B181_ 201 (by decide), A181_ (1000 + i_) (by omega)]), (fun i_ => by rw [u65_, B182_ 201 (by decide), A182_ (1000 + i_) (by omega)]), (fun i_ => by rw [u66_, B183_ 201 (by decide), A183_ (1000 + i_) (by omega)])⟩, kd76_⟩⟩ (Nat.le_of_ble_eq_true rfl) (Nat.le_of_ble_eq_true rfl) dX9_plan_208
                        · refine j_aload E 197 rfl dX9_plan_195 (lv_at hl 5 rfl) ?_
                          refine kV_i E (c_X2_cost l D cy T60_ (upV (upV (upV (upV v_0 64 y64_69) 65 y65_c115) 66 y66_c115) 300 y300_75) xp11_  u62_  ) mt_X2_cost ml_X9_393 hK hw (cw_rc3 hK hw.1 u62_) hA ⟨Nat.le_of_ble_eq_true rfl, Nat.le_of_ble_eq_true rfl⟩ ⟨Nat.le_of_ble_eq_true rfl, Nat.le_of_ble_eq_true rfl⟩ (As := []) (rest := []) rfl rfl hl.1 (Nat.le_of_ble_eq_true rfl) 200 rfl dX9_plan_197 (fun zz80_ v_80 H locs rr80_ hq80_ hw => ?_)
                          obtain ⟨ev80_, hh80_⟩ := hq80_
                          rw [ev80_] at hw; clear ev80_
                          refine j_goto E 208 dX9_plan_200 (by decide) ?_
                          exact hret 208 zz80_ T60_ (upV (upV (upV (upV v_0 64 y64_69) 65 y65_c115) 66 y66_c115) 300 y300_75) _ _ ls _ _ hw hoT_ rr80_ ⟨y64_69, y65_c115, y66_c115, y300_75, rfl, ⟨⟨u61_, ⟨u63_, u64_, u65_, u66_, u67_⟩, hC_, (fun i_ => by rw [u63_, B180_ 201 (by decide), A180_ (1000 + i_) (by omega)]), (fun i_ => by rw [u64_, B181_ 201 (by decide), A181_ (1000 + i_) (by omega)]), (fun i_ => by rw [u65_, B182_ 201 (by decide), A182_ (1000 + i_) (by omega)]), (fun i_ => by rw [u66_, B183_ 201 (by decide), A183_ (1000 + i_) (by omega)])⟩, kd76_⟩⟩ (Nat.le_of_ble_eq_true rfl) (Nat.le_of_ble_eq_true rfl) dX9_plan_208
                      · refine j_aload E 181 rfl dX9_plan_179 (lv_at hl 5 rfl) ?_
                        refine j_iload_n E 182 rfl dX9_plan_181 rfl (lv_at hl 3 rfl) ?_
                        refine j_bipush E 184 rfl dX9_plan_182 (by decide) ?_
                        refine j_isub E 185 rfl dX9_plan_184 ?_
                        refine j_norm (fun zz81_ rr81_ ee81_ => ?_)
                        refine kV_i E (c_X2_lessonOf l D cy T60_ (upV (upV (upV (upV v_0 64 y64_69) 65 y65_c115) 66 y66_c115) 300 y300_75) xp11_ zz81_  u62_ rr81_ ) mt_X2_lessonOf ml_X9_390 hK hw (cw_rc3 hK hw.1 u62_) hA ⟨Nat.le_of_ble_eq_true rfl, Nat.le_of_ble_eq_true rfl⟩ ⟨Nat.le_of_ble_eq_true rfl, Nat.le_of_ble_eq_true rfl⟩ (As := [.int (J zz81_)]) (rest := []) rfl rfl hl.1 (Nat.le_of_ble_eq_true rfl) 188 rfl dX9_plan_185 (fun zz82_ v_82 H locs rr82_ hq82_ hw => ?_)
                        obtain ⟨ev82_, hh82_⟩ := hq82_
                        rw [ev82_] at hw; clear ev82_
                        refine j_goto E 208 dX9_plan_188 (by decide) ?_
                        exact hret 208 zz82_ T60_ (upV (upV (upV (upV v_0 64 y64_69) 65 y65_c115) 66 y66_c115) 300 y300_75) _ _ ls _ _ hw hoT_ rr82_ ⟨y64_69, y65_c115, y66_c115, y300_75, rfl, ⟨⟨u61_, ⟨u63_, u64_, u65_, u66_, u67_⟩, hC_, (fun i_ => by rw [u63_, B180_ 201 (by decide), A180_ (1000 + i_) (by omega)]), (fun i_ => by rw [u64_, B181_ 201 (by decide), A181_ (1000 + i_) (by omega)]), (fun i_ => by rw [u65_, B182_ 201 (by decide), A182_ (1000 + i_) (by omega)]), (fun i_ => by rw [u66_, B183_ 201 (by decide), A183_ (1000 + i_) (by omega)])⟩, kd76_⟩⟩ (Nat.le_of_ble_eq_true rfl) (Nat.le_of_ble_eq_true rfl) dX9_plan_208
                    · refine j_iload_n E 128 rfl dX9_plan_127 rfl (lv_at hl 1 rfl) ?_
                      refine j_iload E 130 rfl dX9_plan_128 (lv_at hl 6 rfl) ?_
                      refine j_iushr E 131 rfl dX9_plan_130 (fun zz83_ rr83_ ee83_ => ?_)
                      refine j_iconst E 132 rfl dX9_plan_131 ?_
                      refine j_iand E 133 rfl dX9_plan_132 (fun zz84_ rr84_ ee84_ => ?_)
                      refine j_if_eq E 136 163 rfl rr84_ dX9_plan_133 (by decide) (fun cc85_ => ?_) (fun cc85_ => ?_)
                      · refine j_iinc E 166 rfl [(6, .int (J (l6_115 + 1))), (0, .ref o), (1, .int (J v_s)), (2, .int (J v_m)), (3, .int (J v_w)), (4, .int (J s0_53)), (5, .ref xp11_)] dX9_plan_163 hl (kk := 6) rfl (by decide) rfl (fun ls hl => ?_)
                        refine j_goto E 115 dX9_plan_166 (by decide) ?_
                        exact ih115 (l6_115 + 1) y65_c115 y66_c115 y300_c115 H locs ls (rr (by omega)) (⟨by first | omega | (simp only [upB_same]; omega), ik115_⟩) (by omega) hw (lv_sub hl [1, 2, 3, 4, 5, 6, 0] rfl)
                      · refine j_aload E 138 rfl dX9_plan_136 (lv_at hl 5 rfl) ?_
                        refine j_iload E 140 rfl dX9_plan_138 (lv_at hl 6 rfl) ?_
                        refine j_iconst E 141 rfl dX9_plan_140 ?_
                        refine j_iload_n E 142 rfl dX9_plan_141 rfl (lv_at hl 2 rfl) ?_
                        refine j_aload_n E 143 rfl dX9_plan_142 rfl (lv_at hl 0 rfl) ?_
                        refine j_iload E 145 rfl dX9_plan_143 (lv_at hl 6 rfl) ?_
                        refine kV_i E (c_X9_countHolders l D cy T60_ (upV (upV (upV (upV v_0 64 y64_69) 65 y65_c115) 66 y66_c115) 300 y300_c115) o l6_115  u61_ r_l6_115 ) mt_X9_countHolders ml_X9_209 hK hw (cw_rc9 hK hw.1 u61_) hA ⟨Nat.le_of_ble_eq_true rfl, Nat.le_of_ble_eq_true rfl⟩ ⟨Nat.le_of_ble_eq_true rfl, Nat.le_of_ble_eq_true rfl⟩ (As := [.int (J l6_115)]) (rest := [.int (J v_m), .int (J 0), .int (J l6_115), .ref xp11_]) rfl rfl hl.1 (Nat.le_of_ble_eq_true rfl) 148 rfl dX9_plan_145 (fun zz86_ v_86 H locs rr86_ hq86_ hw => ?_)
                        obtain ⟨ev86_, hh86_⟩ := hq86_
                        rw [ev86_] at hw; clear ev86_
                        refine j_isub E 149 rfl dX9_plan_148 ?_
                        refine j_norm (fun zz87_ rr87_ ee87_ => ?_)
                        refine j_max E hl.1 ml_X9_350 (rr (by decide)) rr87_ ⟨Nat.le_of_ble_eq_true rfl, Nat.le_of_ble_eq_true rfl⟩ ⟨Nat.le_of_ble_eq_true rfl, Nat.le_of_ble_eq_true rfl⟩ 152 rfl dX9_plan_149 (fun zz88_ rr88_ hh88_ => ?_)
                        refine kV_v E (c_X2_addLine l D cy T60_ (upV (upV (upV (upV v_0 64 y64_69) 65 y65_c115) 66 y66_c115) 300 y300_c115) xp11_ l6_115 zz88_  u62_ r_l6_115 rr88_ (show 0 ≤ (y66_c115 xp11_) ∧ (y66_c115 xp11_) ≤ 255 ∧ 0 ≤ (y65_c115 xp11_) ∧ (y65_c115 xp11_) ≤ 4 from by omega)) mt_X2_addLine ml_X9_380 hK hw (cw_rc3 hK hw.1 u62_) hA ⟨Nat.le_of_ble_eq_true rfl, Nat.le_of_ble_eq_true rfl⟩ ⟨Nat.le_of_ble_eq_true rfl, Nat.le_of_ble_eq_true rfl⟩ (As := [.int (J l6_115), .int (J zz88_)]) (rest := []) rfl rfl hl.1 (Nat.le_of_ble_eq_true rfl) 155 rfl dX9_plan_152 (fun v_89 H locs hq89_ hw => ?_)
                        obtain ⟨y65_89, y66_89, y300_89, ev89_, hh89_⟩ := hq89_
                        rw [ev89_] at hw; clear ev89_
                        have hw : WK D cy T60_ (upV (upV (upV (upV v_0 64 y64_69) 65 y65_89) 66 y66_89) 300 y300_89) A0 s.heap H locs := cw_eq hw (by first | rfl | (funext j_; simp only [upV, reduceIte]; (repeat' split) <;> first | rfl | omega | (subst_vars; rfl)))
                        obtain ⟨hh89_, kf89_⟩ := hh89_
                        have kd90_ : KdA_ T sz [60, 61, 62, 63] (v_0 300) (y300_89) := KdA_tr ik115_ (KdA_kc kf89_ (by decide) (fun b_ h1_ h2_ => ((C20_ hC_ t_o (by decide)) b_ h1_ h2_).2))
                        replace hh89_ : 0 ≤ (y66_89 xp11_) ∧ (y66_89 xp11_) ≤ 255 ∧ 0 ≤ (y65_89 xp11_) ∧ (y65_89 xp11_) ≤ 4 := hh89_
                        refine j_aload_n E 156 rfl dX9_plan_155 rfl (lv_at hl 0 rfl) ?_
                        refine j_aload E 158 rfl dX9_plan_156 (lv_at hl 5 rfl) ?_
                        refine j_iload E 160 rfl dX9_plan_158 (lv_at hl 6 rfl) ?_
                        refine kV_v E (c_X9_putPrices l D cy T60_ (upV (upV (upV (upV v_0 64 y64_69) 65 y65_89) 66 y66_89) 300 y300_89) o xp11_ l6_115  u61_ u62_ r_l6_115 ) mt_X9_putPrices ml_X9_383 hK hw (cw_rc9 hK hw.1 u61_) hA ⟨Nat.le_of_ble_eq_true rfl, Nat.le_of_ble_eq_true rfl⟩ ⟨Nat.le_of_ble_eq_true rfl, Nat.le_of_ble_eq_true rfl⟩ (As := [.ref xp11_, .int (J l6_115)]) (rest := []) rfl rfl hl.1 (Nat.le_of_ble_eq_true rfl) 163 rfl dX9_plan_160 (fun v_91 H locs hq91_ hw => ?_)
                        obtain ⟨y300_91, ev91_, hh91_⟩ := hq91_
                        rw [ev91_] at hw; clear ev91_
                        have hw : WK D cy T60_ (upV (upV (upV (upV v_0 64 y64_69) 65 y65_89) 66 y66_89) 300 y300_91) A0 s.heap H locs := cw_eq hw (by first | rfl | (funext j_; simp only [upV, reduceIte]; (repeat' split) <;> first | rfl | omega | (subst_vars; rfl)))
                        obtain ⟨hh91_, kf91_⟩ := hh91_
                        have kd92_ : KdA_ T sz [60, 61, 62, 63] (v_0 300) (y300_91) := KdA_tr kd90_ (KdA_kc kf91_ (by decide) (fun b_ h1_ h2_ => ((C20_ hC_ t_o (by decide)) b_ h1_ h2_).2))
                        refine j_iinc E 166 rfl [(6, .int (J (l6_115 + 1))), (0, .ref o), (1, .int (J v_s)), (2, .int (J v_m)), (3, .int (J v_w)), (4, .int (J s0_53)), (5, .ref xp11_)] dX9_plan_163 hl (kk := 6) rfl (by decide) rfl (fun ls hl => ?_)
                        refine j_goto E 115 dX9_plan_166 (by decide) ?_
                        exact ih115 (l6_115 + 1) y65_89 y66_89 y300_91 H locs ls (rr (by omega)) (⟨by first | omega | (simp only [upB_same]; omega), kd92_⟩) (by omega) hw (lv_sub hl [1, 2, 3, 4, 5, 6, 0] rfl)
                exact L115_71 _ 0 y65_69 y66_69 y300_69 H locs ls (rr (by decide)) (⟨by first | omega | (simp only [upB_same]; omega), kd70_⟩) (Nat.lt_succ_self _) hw (lv_sub hl [2, 3, 4, 5, 6, 1, 0] rfl)
            refine j_iload_n E 56 rfl dX9_plan_55 rfl (lv_at hl 4 rfl) ?_
            refine j_if_eq E 59 71 rfl r_v_w dX9_plan_56 (by decide) (fun cc93_ => ?_) (fun cc93_ => ?_)
            · exact L71_9   H locs ls  (trivial) hw (lv_sub hl [1, 2, 3, 4, 0] rfl)
            · refine j_iload_n E 60 rfl dX9_plan_59 rfl (lv_at hl 4 rfl) ?_
              refine j_iconst E 61 rfl dX9_plan_60 ?_
              refine j_icmp_eq E 64 71 rfl r_v_w (rr (by decide)) dX9_plan_61 (by decide) (fun cc94_ => ?_) (fun cc94_ => ?_)
              · exact L71_9   H locs ls  (trivial) hw (lv_sub hl [1, 2, 3, 4, 0] rfl)
              · refine j_iload E 66 rfl dX9_plan_64 (lv_at hl 0 rfl) ?_
                refine j_if_ne E 69 71 rfl r_s0_53 dX9_plan_66 (by decide) (fun cc95_ => ?_) (fun cc95_ => ?_)
                · exact L71_9   H locs ls  (trivial) hw (lv_sub hl [1, 2, 3, 4, 0] rfl)
                · refine j_iconst E 70 rfl dX9_plan_69 ?_
                  exact hret 70 ((-1)) T (upV (upV (upV (upV v_0 64 (v_0 64)) 65 (v_0 65)) 66 (v_0 66)) 300 (v_0 300)) _ _ ls _ _ (cw_eq hw (by first | rfl | (funext j_; simp only [upV, reduceIte]; (repeat' split) <;> first | rfl | omega | (subst_vars; rfl)))) hoT_ (rr (by decide)) ⟨(v_0 64), (v_0 65), (v_0 66), (v_0 300), rfl, ⟨⟨t_o, ⟨rfl, rfl, rfl, rfl, rfl⟩, hC_, (fun _ => rfl), (fun _ => rfl), (fun _ => rfl), (fun _ => rfl)⟩, KdA_rf⟩⟩ (Nat.le_of_ble_eq_true rfl) (Nat.le_of_ble_eq_true rfl) dX9_plan_70
          refine j_iload_n E 29 rfl dX9_plan_28 rfl (lv_at hl 3 rfl) ?_
          refine j_bipush E 31 rfl dX9_plan_29 (by decide) ?_
          refine j_icmp_lt E 34 52 rfl r_v_w (rr (by decide)) dX9_plan_31 (by decide) (fun cc96_ => ?_) (fun cc96_ => ?_)
          · refine j_iconst E 53 rfl dX9_plan_52 ?_
            exact L53_7 0  H locs ls (rr (by decide)) (trivial) hw (lv_sub hl [0, 1, 2, 3] rfl)
          · refine j_iload_n E 35 rfl dX9_plan_34 rfl (lv_at hl 3 rfl) ?_
            refine j_bipush E 37 rfl dX9_plan_35 (by decide) ?_
            refine j_isub E 38 rfl dX9_plan_37 ?_
            refine j_norm (fun zz97_ rr97_ ee97_ => ?_)
            refine j_aload_n E 39 rfl dX9_plan_38 rfl (lv_at hl 0 rfl) ?_
            refine g_180 E hK hw fl_X9_12 t_o 42 rfl dX9_plan_39 ?_
            refine kV_i E (c_Jx4a65c_size_8abf5 l D cy T (v_0) (T 180 o)  (wt_180 hT t_o)  ) mt_Jx4a65c_size_8abf5 ml_X9_80 hK hw (cw_rc10 hK hw.1 (wt_180 hT t_o)) hA ⟨Nat.le_of_ble_eq_true rfl, Nat.le_of_ble_eq_true rfl⟩ ⟨Nat.le_of_ble_eq_true rfl, Nat.le_of_ble_eq_true rfl⟩ (As := []) (rest := [.int (J zz97_)]) rfl rfl hl.1 (Nat.le_of_ble_eq_true rfl) 45 rfl dX9_plan_42 (fun zz98_ v_98 H locs rr98_ hq98_ hw => ?_)
            obtain ⟨ev98_, hh98_⟩ := hq98_
            rw [ev98_] at hw; clear ev98_
            replace hh98_ : zz98_ = ((v_0 202) ((T 180 o))) ∧ 0 ≤ zz98_ := hh98_
            refine j_icmp_ge E 48 52 rfl rr97_ rr98_ dX9_plan_45 (by decide) (fun cc99_ => ?_) (fun cc99_ => ?_)
            · refine j_iconst E 53 rfl dX9_plan_52 ?_
              exact L53_7 0  H locs ls (rr (by decide)) (trivial) hw (lv_sub hl [0, 1, 2, 3] rfl)
            · refine j_iconst E 49 rfl dX9_plan_48 ?_
              refine j_goto E 53 dX9_plan_49 (by decide) ?_
              exact L53_7 1  H locs ls (rr (by decide)) (trivial) hw (lv_sub hl [0, 1, 2, 3] rfl)
        · refine j_iconst E 27 rfl dX9_plan_26 ?_
          exact hret 27 ((-1)) T (upV (upV (upV (upV v_0 64 (v_0 64)) 65 (v_0 65)) 66 (v_0 66)) 300 (v_0 300)) _ _ ls _ _ (cw_eq hw (by first | rfl | (funext j_; simp only [upV, reduceIte]; (repeat' split) <;> first | rfl | omega | (subst_vars; rfl)))) hoT_ (rr (by decide)) ⟨(v_0 64), (v_0 65), (v_0 66), (v_0 300), rfl, ⟨⟨t_o, ⟨rfl, rfl, rfl, rfl, rfl⟩, hC_, (fun _ => rfl), (fun _ => rfl), (fun _ => rfl), (fun _ => rfl)⟩, KdA_rf⟩⟩ (Nat.le_of_ble_eq_true rfl) (Nat.le_of_ble_eq_true rfl) dX9_plan_27
