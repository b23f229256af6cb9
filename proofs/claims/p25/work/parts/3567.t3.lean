theorem ty_neq {T : Nat → Nat → Nat} {a b t : Nat} (h1 : T 0 b = 24 ∨ T 0 b = 26) (h2 : T 0 a = t) (h3 : t ≠ 24) (h4 : t ≠ 26) : b ≠ a := fun e => by
  rw [e, h2] at h1
  exact h1.elim h3 h4
theorem fr_of {D : va_G} {cy : Nat → ClassId} {T : Nat → Nat → Nat} {v : Nat → Nat → Int} {H : Heap} {L q : Nat} (hw : WC D cy T v H) (hL : T 0 L = 10) (hq : H.size ≤ q) : ∀ i_ : Nat, (i_ : Int) < v 202 L → ∀ y_ : Nat, T (1000 + i_) (T 201 L) = y_ + 1 → y_ ≠ q := by
  intro i_ h_ y_ e_
  obtain ⟨x_, hx_, tx_⟩ := (hw.2.2.1 L hL).2.2 i_ h_
  rw [dcd_i e_] at hx_
  have e2_ := Option.some.inj hx_
  have lt_ := cw_lte hw tx_ (wt10 hw.2.1 hL).2.2
  omega
set_option maxHeartbeats 4000000 in
set_option maxRecDepth 100000 in
theorem n_X1_init_n2 (l : Launch) (D : va_G) (cy : Nat → ClassId) (κ T : Nat → Nat → Nat) (v_0 : Nat → Nat → Int) (o : Nat) (v_a : Int) (v_b : Int) (v_c : Int) (sz : Nat) (hO : ∀ x, ow T x → κ 2 2 ≤ x) (t_o : T 0 o = 102) (r_v_a : inR v_a) (r_v_b : inR v_b) (r_v_c : inR v_c) : KA l D cy κ T yX1_init cX1_init 4 none 2 3 72 [.ref o, .int (J v_a), .int (J v_b), .int (J v_c)] v_0 sz (AV (fun (T_2 : Nat → Nat → Nat) (v_2 : Nat → Nat → Int) => ∃ (y40_2 : Nat → Int) (y41_2 : Nat → Int) (y42_2 : Nat → Int) (y43_2 : Nat → Int) (y44_2 : Nat → Int) (y45_2 : Nat → Int) , v_2 = upV (upV (upV (upV (upV (upV v_0 40 y40_2) 41 y41_2) 42 y42_2) 43 y43_2) 44 y44_2) 45 y45_2 ∧ ((∀ b, b < sz → b ≠ o → ∀ k, T_2 k b = T k b) ∧ T_2 0 o = 2 ∧ (y40_2) = upB (v_0 40) o v_a ∧ (y41_2) = upB (v_0 41) o v_b ∧ (y42_2) = upB (v_0 42) o v_c ∧ (y43_2) = upB (v_0 43) o (-1) ∧ (y44_2) = upB (v_0 44) o 0 ∧ (y45_2) = upB (v_0 45) o (-1)))) := by
  refine KA.ofv (by decide) (Nat.le_of_ble_eq_true rfl) hO ?_
  intro p e s m below meth c ls ar QW A0 H locs E hK hZ hA hAc hsz hnm hw hlo_ hl hret
  have hl : lv_has ls 4 [(0, .ref o), (1, .int (J v_a)), (2, .int (J v_b)), (3, .int (J v_c))] := hl
  have hT : WT T := hw.1.2.1
  have hoT_ : OW T T s.heap.size := OW.rf T _
  have hR_ : ∀ b, b < sz → b ≠ o → ∀ k, T k b = T k b := fun b _ _ k => rfl
  refine j_aload_n E 1 rfl dX1_init_0 rfl (lv_at hl 0 rfl) ?_
  refine W.objInit E.1 E.2.1 E.2.2.2.1 (E.2.2.2.2.1 _ mo_X1_3) (E.2.2.2.2.1 _ im_ob) (E.2.2.2.2.1 _ cd_ob) rfl (by rw [E.2.2.1]; exact hl.1) rfl dX1_init_1 (Nat.le_of_ble_eq_true rfl) (Nat.le_of_ble_eq_true rfl) ?_
  show W p l e (rmd 2 3 72) s m ar below meth c H locs _ _ QW (F0 m 4 ls [])
  refine j_aload_n E 5 rfl dX1_init_4 rfl (lv_at hl 0 rfl) ?_
  refine j_iconst E 6 rfl dX1_init_5 ?_
  refine rp_43 E hK hw fl_X1_9 t_o (rr (by decide)) 9 rfl dX1_init_6 (fun H locs hw => ?_)
  have hw : WK D cy T (upV v_0 43 (upB (v_0 43) o ((-1)))) A0 s.heap H locs := cw_eq hw (by first | rfl | (funext j_; simp only [upV, reduceIte]; (repeat' split) <;> first | rfl | omega | (subst_vars; rfl)))
  refine j_aload_n E 10 rfl dX1_init_9 rfl (lv_at hl 0 rfl) ?_
  refine j_iconst E 11 rfl dX1_init_10 ?_
  refine rp_44 E hK hw fl_X1_15 t_o (rr (by decide)) (Or.inl rfl) 14 rfl dX1_init_11 (fun H locs hw => ?_)
  have hw : WK D cy T (upV (upV v_0 43 (upB (v_0 43) o ((-1)))) 44 (upB (v_0 44) o 0)) A0 s.heap H locs := cw_eq hw (by first | rfl | (funext j_; simp only [upV, reduceIte]; (repeat' split) <;> first | rfl | omega | (subst_vars; rfl)))
  refine j_aload_n E 15 rfl dX1_init_14 rfl (lv_at hl 0 rfl) ?_
  refine j_iconst E 16 rfl dX1_init_15 ?_
  refine rp_45 E hK hw fl_X1_19 t_o (rr (by decide)) 19 rfl dX1_init_16 (fun H locs hw => ?_)
  have hw : WK D cy T (upV (upV (upV v_0 43 (upB (v_0 43) o ((-1)))) 44 (upB (v_0 44) o 0)) 45 (upB (v_0 45) o ((-1)))) A0 s.heap H locs := cw_eq hw (by first | rfl | (funext j_; simp only [upV, reduceIte]; (repeat' split) <;> first | rfl | omega | (subst_vars; rfl)))
  refine j_aload_n E 20 rfl dX1_init_19 rfl (lv_at hl 0 rfl) ?_
  refine j_bipush E 22 rfl dX1_init_20 (by decide) ?_
  have hw0_ := hw
  refine n_arr20 E hK hw hA 24 (by decide) (by decide) (Nat.le_of_ble_eq_true rfl) (Nat.le_of_ble_eq_true rfl) 24 rfl dX1_init_22 (fun q4_ T4_ H hge4_ hx4_ ho4_ tq4_ tl4_ hw => ?_)
  have fq4_ : s.heap.size ≤ q4_ := Nat.le_trans hw0_.2.2.1 hge4_
  have hT4_ : WT T4_ := hw.1.2.1
  have hO4_ : ∀ x, ow T4_ x → κ 2 2 ≤ x := fun x h => hAc x (hw.2.1 x h)
  have hoT_ : OW T T4_ s.heap.size := OW.tr hw0_.2.2.1 hoT_ ho4_
  have hR_ : ∀ b, b < sz → b ≠ o → ∀ k, T4_ k b = T k b := fun b_ h1_ h2_ k_ => (hx4_ b_ (by have := hw0_.2.2.1; have := hge4_; omega) k_).trans (hR_ b_ h1_ h2_ k_)
  have u5_ : T4_ 0 o = 102 := (hx4_ o (Nat.ne_of_lt (Nat.lt_of_lt_of_le (cw_lt hw0_.1 t_o (fun _ _ _ => ⟨_, rfl⟩)) hge4_)) 0).trans t_o
  have hw0_ := hw
  refine rr_46 E hK hw hnm fl_X1_22 u5_ 27 rfl dX1_init_24 (fun T6_ H locs hx6_ hj6_ hk6_ ho6_ hw => ?_)
  have hT6_ : WT T6_ := hw.1.2.1
  have hO6_ : ∀ x, ow T6_ x → κ 2 2 ≤ x := fun x h => hAc x (hw.2.1 x h)
  have hoT_ : OW T T6_ s.heap.size := OW.tr0 hoT_ ho6_
  have hR_ : ∀ b, b < sz → b ≠ o → ∀ k, T6_ k b = T k b := fun b_ h1_ h2_ k_ => (hx6_ b_ h2_ k_).trans (hR_ b_ h1_ h2_ k_)
  have u7_ : T6_ 0 o = 102 := (hj6_ 0 (by decide)).trans u5_
  have u8_ : T6_ 0 q4_ = 20 := (hx6_ q4_ (ty_ne tq4_ u5_ (by decide)) 0).trans tq4_
  have u9_ : T6_ 1 q4_ = 24 := (hx6_ q4_ (ty_ne tq4_ u5_ (by decide)) 1).trans tl4_
  refine j_aload_n E 28 rfl dX1_init_27 rfl (lv_at hl 0 rfl) ?_
  refine j_bipush E 30 rfl dX1_init_28 (by decide) ?_
  have hw0_ := hw
  refine n_arr20 E hK hw hA 24 (by decide) (by decide) (Nat.le_of_ble_eq_true rfl) (Nat.le_of_ble_eq_true rfl) 32 rfl dX1_init_30 (fun q10_ T10_ H hge10_ hx10_ ho10_ tq10_ tl10_ hw => ?_)
  have fq10_ : s.heap.size ≤ q10_ := Nat.le_trans hw0_.2.2.1 hge10_
  have hT10_ : WT T10_ := hw.1.2.1
  have hO10_ : ∀ x, ow T10_ x → κ 2 2 ≤ x := fun x h => hAc x (hw.2.1 x h)
  have hoT_ : OW T T10_ s.heap.size := OW.tr hw0_.2.2.1 hoT_ ho10_
  have hR_ : ∀ b, b < sz → b ≠ o → ∀ k, T10_ k b = T k b := fun b_ h1_ h2_ k_ => (hx10_ b_ (by have := hw0_.2.2.1; have := hge10_; omega) k_).trans (hR_ b_ h1_ h2_ k_)
  have u11_ : T10_ 0 o = 102 := (hx10_ o (Nat.ne_of_lt (Nat.lt_of_lt_of_le (cw_lt hw0_.1 u7_ (fun _ _ _ => ⟨_, rfl⟩)) hge10_)) 0).trans u7_
  have u12_ : T10_ 0 q4_ = 20 := (hx10_ q4_ (Nat.ne_of_lt (Nat.lt_of_lt_of_le (cw_lt hw0_.1 u8_ (fun _ _ _ => ⟨_, rfl⟩)) hge10_)) 0).trans u8_
  have u13_ : T10_ 1 q4_ = 24 := (hx10_ q4_ (Nat.ne_of_lt (Nat.lt_of_lt_of_le (cw_lt hw0_.1 u8_ (fun _ _ _ => ⟨_, rfl⟩)) hge10_)) 1).trans u9_
  have u14_ : T10_ 46 o = q4_ + 1 := (hx10_ o (Nat.ne_of_lt (Nat.lt_of_lt_of_le (cw_lt hw0_.1 u7_ (fun _ _ _ => ⟨_, rfl⟩)) hge10_)) 46).trans hk6_
  have hw0_ := hw
  refine rr_47 E hK hw hnm fl_X1_26 u11_ 35 rfl dX1_init_32 (fun T15_ H locs hx15_ hj15_ hk15_ ho15_ hw => ?_)
  have hT15_ : WT T15_ := hw.1.2.1
  have hO15_ : ∀ x, ow T15_ x → κ 2 2 ≤ x := fun x h => hAc x (hw.2.1 x h)
  have hoT_ : OW T T15_ s.heap.size := OW.tr0 hoT_ ho15_
  have hR_ : ∀ b, b < sz → b ≠ o → ∀ k, T15_ k b = T k b := fun b_ h1_ h2_ k_ => (hx15_ b_ h2_ k_).trans (hR_ b_ h1_ h2_ k_)
  have u16_ : T15_ 0 o = 102 := (hj15_ 0 (by decide)).trans u11_
  have u17_ : T15_ 0 q4_ = 20 := (hx15_ q4_ (ty_ne u12_ u11_ (by decide)) 0).trans u12_
  have u18_ : T15_ 0 q10_ = 20 := (hx15_ q10_ (ty_ne tq10_ u11_ (by decide)) 0).trans tq10_
  have u19_ : T15_ 1 q4_ = 24 := (hx15_ q4_ (ty_ne u12_ u11_ (by decide)) 1).trans u13_
  have u20_ : T15_ 1 q10_ = 24 := (hx15_ q10_ (ty_ne tq10_ u11_ (by decide)) 1).trans tl10_
  have u21_ : T15_ 46 o = q4_ + 1 := (hj15_ 46 (by decide)).trans u14_
  refine j_aload_n E 36 rfl dX1_init_35 rfl (lv_at hl 0 rfl) ?_
  refine j_bipush E 38 rfl dX1_init_36 (by decide) ?_
  have hw0_ := hw
  refine n_arr20 E hK hw hA 24 (by decide) (by decide) (Nat.le_of_ble_eq_true rfl) (Nat.le_of_ble_eq_true rfl) 40 rfl dX1_init_38 (fun q22_ T22_ H hge22_ hx22_ ho22_ tq22_ tl22_ hw => ?_)
  have fq22_ : s.heap.size ≤ q22_ := Nat.le_trans hw0_.2.2.1 hge22_
  have hT22_ : WT T22_ := hw.1.2.1
  have hO22_ : ∀ x, ow T22_ x → κ 2 2 ≤ x := fun x h => hAc x (hw.2.1 x h)
  have hoT_ : OW T T22_ s.heap.size := OW.tr hw0_.2.2.1 hoT_ ho22_
  have hR_ : ∀ b, b < sz → b ≠ o → ∀ k, T22_ k b = T k b := fun b_ h1_ h2_ k_ => (hx22_ b_ (by have := hw0_.2.2.1; have := hge22_; omega) k_).trans (hR_ b_ h1_ h2_ k_)
  have u23_ : T22_ 0 o = 102 := (hx22_ o (Nat.ne_of_lt (Nat.lt_of_lt_of_le (cw_lt hw0_.1 u16_ (fun _ _ _ => ⟨_, rfl⟩)) hge22_)) 0).trans u16_
  have u24_ : T22_ 0 q4_ = 20 := (hx22_ q4_ (Nat.ne_of_lt (Nat.lt_of_lt_of_le (cw_lt hw0_.1 u17_ (fun _ _ _ => ⟨_, rfl⟩)) hge22_)) 0).trans u17_
  have u25_ : T22_ 0 q10_ = 20 := (hx22_ q10_ (Nat.ne_of_lt (Nat.lt_of_lt_of_le (cw_lt hw0_.1 u18_ (fun _ _ _ => ⟨_, rfl⟩)) hge22_)) 0).trans u18_
  have u26_ : T22_ 1 q4_ = 24 := (hx22_ q4_ (Nat.ne_of_lt (Nat.lt_of_lt_of_le (cw_lt hw0_.1 u17_ (fun _ _ _ => ⟨_, rfl⟩)) hge22_)) 1).trans u19_
  have u27_ : T22_ 1 q10_ = 24 := (hx22_ q10_ (Nat.ne_of_lt (Nat.lt_of_lt_of_le (cw_lt hw0_.1 u18_ (fun _ _ _ => ⟨_, rfl⟩)) hge22_)) 1).trans u20_
  have u28_ : T22_ 46 o = q4_ + 1 := (hx22_ o (Nat.ne_of_lt (Nat.lt_of_lt_of_le (cw_lt hw0_.1 u16_ (fun _ _ _ => ⟨_, rfl⟩)) hge22_)) 46).trans u21_
  have u29_ : T22_ 47 o = q10_ + 1 := (hx22_ o (Nat.ne_of_lt (Nat.lt_of_lt_of_le (cw_lt hw0_.1 u16_ (fun _ _ _ => ⟨_, rfl⟩)) hge22_)) 47).trans hk15_
  have hw0_ := hw
  refine rr_48 E hK hw hnm fl_X1_29 u23_ 43 rfl dX1_init_40 (fun T30_ H locs hx30_ hj30_ hk30_ ho30_ hw => ?_)
  have hT30_ : WT T30_ := hw.1.2.1
  have hO30_ : ∀ x, ow T30_ x → κ 2 2 ≤ x := fun x h => hAc x (hw.2.1 x h)
  have hoT_ : OW T T30_ s.heap.size := OW.tr0 hoT_ ho30_
  have hR_ : ∀ b, b < sz → b ≠ o → ∀ k, T30_ k b = T k b := fun b_ h1_ h2_ k_ => (hx30_ b_ h2_ k_).trans (hR_ b_ h1_ h2_ k_)
  have u31_ : T30_ 0 o = 102 := (hj30_ 0 (by decide)).trans u23_
  have u32_ : T30_ 0 q4_ = 20 := (hx30_ q4_ (ty_ne u24_ u23_ (by decide)) 0).trans u24_
  have u33_ : T30_ 0 q10_ = 20 := (hx30_ q10_ (ty_ne u25_ u23_ (by decide)) 0).trans u25_
  have u34_ : T30_ 0 q22_ = 20 := (hx30_ q22_ (ty_ne tq22_ u23_ (by decide)) 0).trans tq22_
  have u35_ : T30_ 1 q4_ = 24 := (hx30_ q4_ (ty_ne u24_ u23_ (by decide)) 1).trans u26_
  have u36_ : T30_ 1 q10_ = 24 := (hx30_ q10_ (ty_ne u25_ u23_ (by decide)) 1).trans u27_
  have u37_ : T30_ 1 q22_ = 24 := (hx30_ q22_ (ty_ne tq22_ u23_ (by decide)) 1).trans tl22_
  have u38_ : T30_ 46 o = q4_ + 1 := (hj30_ 46 (by decide)).trans u28_
  have u39_ : T30_ 47 o = q10_ + 1 := (hj30_ 47 (by decide)).trans u29_
  refine j_aload_n E 44 rfl dX1_init_43 rfl (lv_at hl 0 rfl) ?_
  refine j_iload_n E 45 rfl dX1_init_44 rfl (lv_at hl 1 rfl) ?_
  refine rp_40 E hK hw hnm fl_X1_32 u31_ r_v_a 48 rfl dX1_init_45 (fun H locs hw => ?_)
  have hw : WK D cy T30_ (upV (upV (upV (upV v_0 40 (upB (v_0 40) o v_a)) 43 (upB (v_0 43) o ((-1)))) 44 (upB (v_0 44) o 0)) 45 (upB (v_0 45) o ((-1)))) A0 s.heap H locs := cw_eq hw (by first | rfl | (funext j_; simp only [upV, reduceIte]; (repeat' split) <;> first | rfl | omega | (subst_vars; rfl)))
  refine j_aload_n E 49 rfl dX1_init_48 rfl (lv_at hl 0 rfl) ?_
  refine j_iload_n E 50 rfl dX1_init_49 rfl (lv_at hl 2 rfl) ?_
  refine rp_41 E hK hw hnm fl_X1_35 u31_ r_v_b 53 rfl dX1_init_50 (fun H locs hw => ?_)
  have hw : WK D cy T30_ (upV (upV (upV (upV (upV v_0 40 (upB (v_0 40) o v_a)) 41 (upB (v_0 41) o v_b)) 43 (upB (v_0 43) o ((-1)))) 44 (upB (v_0 44) o 0)) 45 (upB (v_0 45) o ((-1)))) A0 s.heap H locs := cw_eq hw (by first | rfl | (funext j_; simp only [upV, reduceIte]; (repeat' split) <;> first | rfl | omega | (subst_vars; rfl)))
  refine j_aload_n E 54 rfl dX1_init_53 rfl (lv_at hl 0 rfl) ?_
  refine j_iload_n E 55 rfl dX1_init_54 rfl (lv_at hl 3 rfl) ?_
  refine rp_42 E hK hw hnm fl_X1_38 u31_ r_v_c 58 rfl dX1_init_55 (fun H locs hw => ?_)
  have hw : WK D cy T30_ (upV (upV (upV (upV (upV (upV v_0 40 (upB (v_0 40) o v_a)) 41 (upB (v_0 41) o v_b)) 42 (upB (v_0 42) o v_c)) 43 (upB (v_0 43) o ((-1)))) 44 (upB (v_0 44) o 0)) 45 (upB (v_0 45) o ((-1)))) A0 s.heap H locs := cw_eq hw (by first | rfl | (funext j_; simp only [upV, reduceIte]; (repeat' split) <;> first | rfl | omega | (subst_vars; rfl)))
  have hw0_ := hw
  obtain ⟨T43_, hx43_, tq43_, xe43_46_, xe43_47_, xe43_48_, ho43_, hw⟩ := pm_2 hw u31_ u38_ u32_ u35_ u39_ u33_ u36_ hk30_ u34_ u37_
  have hT43_ : WT T43_ := hw.1.2.1
  have hO43_ : ∀ x, ow T43_ x → κ 2 2 ≤ x := fun x h => hAc x (hw.2.1 x h)
  have hoT_ : OW T T43_ s.heap.size := OW.tr0 hoT_ ho43_
  have hR_ : ∀ b, b < sz → b ≠ o → ∀ k, T43_ k b = T k b := fun b_ h1_ h2_ k_ => (hx43_ b_ h2_ k_).trans (hR_ b_ h1_ h2_ k_)
  refine j_aload_n E 59 rfl dX1_init_58 rfl (lv_at hl 0 rfl) ?_
  refine g_46 E hK hw fl_X1_22 tq43_ 62 rfl dX1_init_59 ?_
  have ln44_ := wl_46 hT43_ tq43_
  refine j_iconst E 63 rfl dX1_init_62 ?_
  refine kS_v E (c_J7_fill_53178 l D cy T43_ (upV (upV (upV (upV (upV (upV v_0 40 (upB (v_0 40) o v_a)) 41 (upB (v_0 41) o v_b)) 42 (upB (v_0 42) o v_c)) 43 (upB (v_0 43) o ((-1)))) 44 (upB (v_0 44) o 0)) 45 (upB (v_0 45) o ((-1)))) (T43_ 46 o) ((-1))   (wt_46 hT43_ tq43_) (rr (by decide)) ) ms_J7_fill_53178 ml_X1_41 hK hw hA ⟨Nat.le_of_ble_eq_true rfl, Nat.le_of_ble_eq_true rfl⟩ ⟨Nat.le_of_ble_eq_true rfl, Nat.le_of_ble_eq_true rfl⟩ (As := [.ref (T43_ 46 o), .int (J ((-1)))]) (rest := []) rfl rfl hl.1 (Nat.le_of_ble_eq_true rfl) 66 rfl dX1_init_63 (fun v_45 H locs hq45_ hw => ?_)
  obtain ⟨ev45_, hh45_⟩ := hq45_
  rw [ev45_] at hw; clear ev45_
  refine j_aload_n E 67 rfl dX1_init_66 rfl (lv_at hl 0 rfl) ?_
  refine g_48 E hK hw fl_X1_29 tq43_ 70 rfl dX1_init_67 ?_
  have ln46_ := wl_48 hT43_ tq43_
  refine j_iconst E 71 rfl dX1_init_70 ?_
  refine kS_v E (c_J7_fill_53178 l D cy T43_ (upV (upV (upV (upV (upV (upV v_0 40 (upB (v_0 40) o v_a)) 41 (upB (v_0 41) o v_b)) 42 (upB (v_0 42) o v_c)) 43 (upB (v_0 43) o ((-1)))) 44 (upB (v_0 44) o 0)) 45 (upB (v_0 45) o ((-1)))) (T43_ 48 o) ((-1))   (wt_48 hT43_ tq43_) (rr (by decide)) ) ms_J7_fill_53178 ml_X1_41 hK hw hA ⟨Nat.le_of_ble_eq_true rfl, Nat.le_of_ble_eq_true rfl⟩ ⟨Nat.le_of_ble_eq_true rfl, Nat.le_of_ble_eq_true rfl⟩ (As := [.ref (T43_ 48 o), .int (J ((-1)))]) (rest := []) rfl rfl hl.1 (Nat.le_of_ble_eq_true rfl) 74 rfl dX1_init_71 (fun v_47 H locs hq47_ hw => ?_)
  obtain ⟨ev47_, hh47_⟩ := hq47_
  rw [ev47_] at hw; clear ev47_
  exact hret 74 T43_ (upV (upV (upV (upV (upV (upV v_0 40 (upB (v_0 40) o v_a)) 41 (upB (v_0 41) o v_b)) 42 (upB (v_0 42) o v_c)) 43 (upB (v_0 43) o ((-1)))) 44 (upB (v_0 44) o 0)) 45 (upB (v_0 45) o ((-1)))) _ _ ls _ _ hw hoT_ ⟨(upB (v_0 40) o v_a), (upB (v_0 41) o v_b), (upB (v_0 42) o v_c), (upB (v_0 43) o ((-1))), (upB (v_0 44) o 0), (upB (v_0 45) o ((-1))), rfl, ⟨hR_, tq43_, rfl, rfl, rfl, rfl, rfl, rfl⟩⟩ (Nat.le_of_ble_eq_true rfl) (Nat.le_of_ble_eq_true rfl) dX1_init_74
set_option maxHeartbeats 4000000 in
set_option maxRecDepth 100000 in
theorem n_X9_person_n3 (l : Launch) (D : va_G) (cy : Nat → ClassId) (κ T : Nat → Nat → Nat) (v_0 : Nat → Nat → Int) (o : Nat) (v_q : Int) (v_f : Int) (v_b : Int) (sz : Nat) (hO : ∀ x, ow T x → κ 2 2 ≤ x) (t_o : T 0 o = 9) (r_v_q : inR v_q) (r_v_f : inR v_f) (r_v_b : inR v_b) (hp0 : ∀ x, T 0 x = 26 → x = κ 2 0) : KA l D cy κ T yX9_person cX9_person 5 (some .int) 8 5 500 [.ref o, .int (J v_q), .int (J v_f), .int (J v_b)] v_0 sz (AI (fun (z_0 : Int) (T_2 : Nat → Nat → Nat) (v_2 : Nat → Nat → Int) => T_2 0 o = 9 ∧ (T_2 180 o = T 180 o ∧ T_2 181 o = T 181 o ∧ T_2 182 o = T 182 o ∧ T_2 183 o = T 183 o) ∧ v_2 186 o = v_0 186 o ∧ v_2 187 o = v_0 187 o ∧ v_2 202 (T 181 o) = v_0 202 (T 181 o) ∧ v_2 202 (T 182 o) = v_0 202 (T 182 o) ∧ v_2 202 (T 183 o) = v_0 202 (T 183 o) ∧ ((z_0 = -1 ∧ (v_q < 0 ∨ 3 < v_q ∨ v_f < 0 ∨ 7 < v_f ∨ v_b < -90 ∨ v_0 187 o < v_b ∨ 24 ≤ v_0 202 (T 180 o)) ∧ v_2 202 (T 180 o) = v_0 202 (T 180 o) ∧ (∀ i_ : Nat, T_2 (1000 + i_) (T_2 201 (T_2 180 o)) = T (1000 + i_) (T 201 (T 180 o))) ∧ v_2 40 = v_0 40 ∧ v_2 41 = v_0 41 ∧ v_2 42 = v_0 42 ∧ v_2 43 = v_0 43 ∧ v_2 44 = v_0 44) ∨ (z_0 = v_0 202 (T 180 o) ∧ (0 ≤ v_q ∧ v_q ≤ 3 ∧ 0 ≤ v_f ∧ v_f ≤ 7 ∧ -90 ≤ v_b ∧ v_b ≤ v_0 187 o ∧ v_0 202 (T 180 o) < 24) ∧ v_2 202 (T 180 o) = v_0 202 (T 180 o) + 1 ∧ ∃ q_ : Nat, (∀ i_ : Nat, (i_ : Int) < v_0 202 (T 180 o) → ∀ y_ : Nat, T (1000 + i_) (T 201 (T 180 o)) = y_ + 1 → y_ ≠ q_) ∧ (∀ i_ : Nat, (i_ : Int) < v_0 202 (T 180 o) → T_2 (1000 + i_) (T_2 201 (T_2 180 o)) = T (1000 + i_) (T 201 (T 180 o))) ∧ T_2 (1000 + (v_0 202 (T 180 o)).toNat) (T_2 201 (T_2 180 o)) = q_ + 1 ∧ (∀ y_ : Nat, y_ ≠ q_ → v_2 40 y_ = v_0 40 y_ ∧ v_2 41 y_ = v_0 41 y_ ∧ v_2 42 y_ = v_0 42 y_ ∧ v_2 43 y_ = v_0 43 y_ ∧ v_2 44 y_ = v_0 44 y_) ∧ v_2 40 q_ = v_q ∧ v_2 41 q_ = v_f ∧ v_2 42 q_ = v_b ∧ v_2 43 q_ = -1 ∧ v_2 44 q_ = 0)))) := by
  refine KA.ofi (by decide) (Nat.le_of_ble_eq_true rfl) hO ?_
  intro p e s m below meth c ls ar QW A0 H locs E hK hZ hA hAc hsz hnm hw hlo_ hl hret
  have hl : lv_has ls 5 [(0, .ref o), (1, .int (J v_q)), (2, .int (J v_f)), (3, .int (J v_b))] := hl
  have hT : WT T := hw.1.2.1
  have hoT_ : OW T T s.heap.size := OW.rf T _
  have tl180_ : T 0 (T 180 o) = 10 := wt_180 hT t_o
  have tx180_ : T 0 (T 201 (T 180 o)) = 24 ∨ T 0 (T 201 (T 180 o)) = 26 := (wt10 hT tl180_).1
  have B180_ : ∀ j, j ≠ 197 → T j (T 180 o) = T j (T 180 o) := fun _ _ => rfl
  have A180_ : ∀ j, j ≠ 197 → T j (T 201 (T 180 o)) = T j (T 201 (T 180 o)) := fun _ _ => rfl
  have tl181_ : T 0 (T 181 o) = 10 := wt_181 hT t_o
  have tx181_ : T 0 (T 201 (T 181 o)) = 24 ∨ T 0 (T 201 (T 181 o)) = 26 := (wt10 hT tl181_).1
  have B181_ : ∀ j, j ≠ 197 → T j (T 181 o) = T j (T 181 o) := fun _ _ => rfl
  have A181_ : ∀ j, j ≠ 197 → T j (T 201 (T 181 o)) = T j (T 201 (T 181 o)) := fun _ _ => rfl
  have tl182_ : T 0 (T 182 o) = 10 := wt_182 hT t_o
  have tx182_ : T 0 (T 201 (T 182 o)) = 24 ∨ T 0 (T 201 (T 182 o)) = 26 := (wt10 hT tl182_).1
  have B182_ : ∀ j, j ≠ 197 → T j (T 182 o) = T j (T 182 o) := fun _ _ => rfl
  have A182_ : ∀ j, j ≠ 197 → T j (T 201 (T 182 o)) = T j (T 201 (T 182 o)) := fun _ _ => rfl
  have tl183_ : T 0 (T 183 o) = 10 := wt_183 hT t_o
  have tx183_ : T 0 (T 201 (T 183 o)) = 24 ∨ T 0 (T 201 (T 183 o)) = 26 := (wt10 hT tl183_).1
  have B183_ : ∀ j, j ≠ 197 → T j (T 183 o) = T j (T 183 o) := fun _ _ => rfl
  have A183_ : ∀ j, j ≠ 197 → T j (T 201 (T 183 o)) = T j (T 201 (T 183 o)) := fun _ _ => rfl
  have L24_1 : ∀ (s0_24 : Int) (H : Heap) (locs : List Loc) (ls : Array Slot), inR s0_24 → ((s0_24 = 0 ∧ (v_q < 0 ∨ 4 ≤ v_q ∨ v_f < 0 ∨ 8 ≤ v_f)) ∨ (s0_24 = 1 ∧ 0 ≤ v_q ∧ v_q < 4 ∧ 0 ≤ v_f ∧ v_f < 8)) → WK D cy T (v_0) A0 s.heap H locs → lv_has ls 5 [(0, .ref o), (1, .int (J v_q)), (2, .int (J v_f)), (3, .int (J v_b))] → W p l e (rmd 8 5 500) s m ar below meth c H locs 0 0 QW (F0 m 24 ls [.int (J s0_24)]) := by
    intro s0_24 H locs ls r_s0_24 iv24 hw hl
    refine j_istore E 26 rfl [(4, .int (J s0_24)), (0, .ref o), (1, .int (J v_q)), (2, .int (J v_f)), (3, .int (J v_b))] dX9_person_24 hl (by decide) rfl (fun ls hl => ?_)
    refine j_iload E 28 rfl dX9_person_26 (lv_at hl 0 rfl) ?_
    refine j_if_eq E 31 57 rfl r_s0_24 dX9_person_28 (by decide) (fun cc3_ => ?_) (fun cc3_ => ?_)
    · refine j_iconst E 58 rfl dX9_person_57 ?_
      exact hret 58 ((-1)) T _ _ _ ls _ _ hw hoT_ (rr (by decide)) (⟨t_o, ⟨rfl, rfl, rfl, rfl⟩, rfl, rfl, rfl, rfl, rfl, Or.inl ⟨rfl, by omega, rfl, fun _ => rfl, rfl, rfl, rfl, rfl, rfl⟩⟩) (Nat.le_of_ble_eq_true rfl) (Nat.le_of_ble_eq_true rfl) dX9_person_58
    · refine j_iload_n E 32 rfl dX9_person_31 rfl (lv_at hl 4 rfl) ?_
      refine j_bipush E 34 rfl dX9_person_32 (by decide) ?_
      refine j_icmp_lt E 37 57 rfl r_v_b (rr (by decide)) dX9_person_34 (by decide) (fun cc4_ => ?_) (fun cc4_ => ?_)
      · refine j_iconst E 58 rfl dX9_person_57 ?_
        exact hret 58 ((-1)) T _ _ _ ls _ _ hw hoT_ (rr (by decide)) (⟨t_o, ⟨rfl, rfl, rfl, rfl⟩, rfl, rfl, rfl, rfl, rfl, Or.inl ⟨rfl, by omega, rfl, fun _ => rfl, rfl, rfl, rfl, rfl, rfl⟩⟩) (Nat.le_of_ble_eq_true rfl) (Nat.le_of_ble_eq_true rfl) dX9_person_58
      · refine j_iload_n E 38 rfl dX9_person_37 rfl (lv_at hl 4 rfl) ?_
        refine j_aload_n E 39 rfl dX9_person_38 rfl (lv_at hl 1 rfl) ?_
        refine g_187 E hK hw fl_X9_37 t_o (v_0 187 o) rfl 42 rfl dX9_person_39 (fun rr5_ => ?_)
        refine j_icmp_gt E 45 57 rfl r_v_b rr5_ dX9_person_42 (by decide) (fun cc6_ => ?_) (fun cc6_ => ?_)
        · refine j_iconst E 58 rfl dX9_person_57 ?_
          exact hret 58 ((-1)) T _ _ _ ls _ _ hw hoT_ (rr (by decide)) (⟨t_o, ⟨rfl, rfl, rfl, rfl⟩, rfl, rfl, rfl, rfl, rfl, Or.inl ⟨rfl, by omega, rfl, fun _ => rfl, rfl, rfl, rfl, rfl, rfl⟩⟩) (Nat.le_of_ble_eq_true rfl) (Nat.le_of_ble_eq_true rfl) dX9_person_58
        · refine j_aload_n E 46 rfl dX9_person_45 rfl (lv_at hl 1 rfl) ?_
          refine g_180 E hK hw fl_X9_12 t_o 49 rfl dX9_person_46 ?_
          refine kV_i E (c_Jx4a65c_size_8abf5 l D cy T (v_0) (T 180 o)  (wt_180 hT t_o)  ) mt_Jx4a65c_size_8abf5 ml_X9_80 hK hw (cw_rc10 hK hw.1 (wt_180 hT t_o)) hA ⟨Nat.le_of_ble_eq_true rfl, Nat.le_of_ble_eq_true rfl⟩ ⟨Nat.le_of_ble_eq_true rfl, Nat.le_of_ble_eq_true rfl⟩ (As := []) (rest := []) rfl rfl hl.1 (Nat.le_of_ble_eq_true rfl) 52 rfl dX9_person_49 (fun zz7_ v_7 H locs rr7_ hq7_ hw => ?_)
          obtain ⟨ev7_, hh7_⟩ := hq7_
          rw [ev7_] at hw; clear ev7_
          have hh7_ : zz7_ = ((v_0 202) ((T 180 o))) ∧ 0 ≤ zz7_ := hh7_
          refine j_bipush E 54 rfl dX9_person_52 (by decide) ?_
          refine j_icmp_lt E 57 59 rfl rr7_ (rr (by decide)) dX9_person_54 (by decide) (fun cc8_ => ?_) (fun cc8_ => ?_)
          · refine j_aload_n E 60 rfl dX9_person_59 rfl (lv_at hl 1 rfl) ?_
            refine g_180 E hK hw fl_X9_12 t_o 63 rfl dX9_person_60 ?_
            have hw0_ := hw
            refine n_obj2 E hK hw hA cl_X9_84 (Nat.le_of_ble_eq_true rfl) (Nat.le_of_ble_eq_true rfl) 66 rfl dX9_person_63 (fun q9_ T9_ H hge9_ hx9_ ho9_ tq9_ hw => ?_)
            have fq9_ : s.heap.size ≤ q9_ := Nat.le_trans hw0_.2.2.1 hge9_
            have fr_ := fr_of hw0_.1 tl180_ hge9_
            have hw : WK D cy T9_ (upV (upV (upV (upV (upV (upV v_0 40 (upB (v_0 40) q9_ 0)) 41 (upB (v_0 41) q9_ 0)) 42 (upB (v_0 42) q9_ 0)) 43 (upB (v_0 43) q9_ 0)) 44 (upB (v_0 44) q9_ 0)) 45 (upB (v_0 45) q9_ 0)) A0 s.heap H locs := hw
            have hT9_ : WT T9_ := hw.1.2.1
            have hO9_ : ∀ x, ow T9_ x → κ 2 2 ≤ x := fun x h => hAc x (hw.2.1 x h)
            have hoT_ : OW T T9_ s.heap.size := OW.tr hw0_.2.2.1 hoT_ ho9_
            have B180n_ : ∀ j_, j_ ≠ 197 → T9_ j_ (T 180 o) = T j_ (T 180 o) := fun j_ hj_ => (hx9_ (T 180 o) (Nat.ne_of_lt (Nat.lt_of_lt_of_le (cw_lt hw0_.1 ((B180_ 0 (by decide)).trans tl180_) (fun _ _ _ => ⟨_, rfl⟩)) hge9_)) j_).trans (B180_ j_ hj_)
            have A180n_ : ∀ j_, j_ ≠ 197 → T9_ j_ (T 201 (T 180 o)) = T j_ (T 201 (T 180 o)) := fun j_ hj_ => (hx9_ (T 201 (T 180 o)) (Nat.ne_of_lt (Nat.lt_of_lt_of_le (cw_ltq hw0_.1 (by rw [A180_ 0 (by decide)]; exact tx180_)) hge9_)) j_).trans (A180_ j_ hj_)
            have B181n_ : ∀ j_, j_ ≠ 197 → T9_ j_ (T 181 o) = T j_ (T 181 o) := fun j_ hj_ => (hx9_ (T 181 o) (Nat.ne_of_lt (Nat.lt_of_lt_of_le (cw_lt hw0_.1 ((B181_ 0 (by decide)).trans tl181_) (fun _ _ _ => ⟨_, rfl⟩)) hge9_)) j_).trans (B181_ j_ hj_)
            have A181n_ : ∀ j_, j_ ≠ 197 → T9_ j_ (T 201 (T 181 o)) = T j_ (T 201 (T 181 o)) := fun j_ hj_ => (hx9_ (T 201 (T 181 o)) (Nat.ne_of_lt (Nat.lt_of_lt_of_le (cw_ltq hw0_.1 (by rw [A181_ 0 (by decide)]; exact tx181_)) hge9_)) j_).trans (A181_ j_ hj_)
            have B182n_ : ∀ j_, j_ ≠ 197 → T9_ j_ (T 182 o) = T j_ (T 182 o) := fun j_ hj_ => (hx9_ (T 182 o) (Nat.ne_of_lt (Nat.lt_of_lt_of_le (cw_lt hw0_.1 ((B182_ 0 (by decide)).trans tl182_) (fun _ _ _ => ⟨_, rfl⟩)) hge9_)) j_).trans (B182_ j_ hj_)
            have A182n_ : ∀ j_, j_ ≠ 197 → T9_ j_ (T 201 (T 182 o)) = T j_ (T 201 (T 182 o)) := fun j_ hj_ => (hx9_ (T 201 (T 182 o)) (Nat.ne_of_lt (Nat.lt_of_lt_of_le (cw_ltq hw0_.1 (by rw [A182_ 0 (by decide)]; exact tx182_)) hge9_)) j_).trans (A182_ j_ hj_)
            have B183n_ : ∀ j_, j_ ≠ 197 → T9_ j_ (T 183 o) = T j_ (T 183 o) := fun j_ hj_ => (hx9_ (T 183 o) (Nat.ne_of_lt (Nat.lt_of_lt_of_le (cw_lt hw0_.1 ((B183_ 0 (by decide)).trans tl183_) (fun _ _ _ => ⟨_, rfl⟩)) hge9_)) j_).trans (B183_ j_ hj_)
            have A183n_ : ∀ j_, j_ ≠ 197 → T9_ j_ (T 201 (T 183 o)) = T j_ (T 201 (T 183 o)) := fun j_ hj_ => (hx9_ (T 201 (T 183 o)) (Nat.ne_of_lt (Nat.lt_of_lt_of_le (cw_ltq hw0_.1 (by rw [A183_ 0 (by decide)]; exact tx183_)) hge9_)) j_).trans (A183_ j_ hj_)
            have B180_ := B180n_
            have A180_ := A180n_
            have B181_ := B181n_
            have A181_ := A181n_
            have B182_ := B182n_
            have A182_ := A182n_
            have B183_ := B183n_
            have A183_ := A183n_
            have u10_ : T9_ 0 o = 9 := (hx9_ o (Nat.ne_of_lt (Nat.lt_of_lt_of_le (cw_lt hw0_.1 t_o (fun _ _ _ => ⟨_, rfl⟩)) hge9_)) 0).trans t_o
            have u11_ : T9_ 0 (T 180 o) = 10 := (hx9_ (T 180 o) (Nat.ne_of_lt (Nat.lt_of_lt_of_le (cw_lt hw0_.1 (wt_180 hT t_o) (fun _ _ _ => ⟨_, rfl⟩)) hge9_)) 0).trans (wt_180 hT t_o)
            have u12_ : T9_ 2 (T 180 o) = 2 := (hx9_ (T 180 o) (Nat.ne_of_lt (Nat.lt_of_lt_of_le (cw_lt hw0_.1 (wt_180 hT t_o) (fun _ _ _ => ⟨_, rfl⟩)) hge9_)) 2).trans (we_180 hT t_o)
            have u13_ : T9_ 180 o = T 180 o := (hx9_ o (Nat.ne_of_lt (Nat.lt_of_lt_of_le (cw_lt hw0_.1 t_o (fun _ _ _ => ⟨_, rfl⟩)) hge9_)) 180).trans rfl
            have u14_ : T9_ 181 o = T 181 o := (hx9_ o (Nat.ne_of_lt (Nat.lt_of_lt_of_le (cw_lt hw0_.1 t_o (fun _ _ _ => ⟨_, rfl⟩)) hge9_)) 181).trans rfl
            have u15_ : T9_ 182 o = T 182 o := (hx9_ o (Nat.ne_of_lt (Nat.lt_of_lt_of_le (cw_lt hw0_.1 t_o (fun _ _ _ => ⟨_, rfl⟩)) hge9_)) 182).trans rfl
            have u16_ : T9_ 183 o = T 183 o := (hx9_ o (Nat.ne_of_lt (Nat.lt_of_lt_of_le (cw_lt hw0_.1 t_o (fun _ _ _ => ⟨_, rfl⟩)) hge9_)) 183).trans rfl
            refine j_dup E 67 rfl dX9_person_66 rfl ?_
            refine j_iload_n E 68 rfl dX9_person_67 rfl (lv_at hl 2 rfl) ?_
            refine j_iload_n E 69 rfl dX9_person_68 rfl (lv_at hl 3 rfl) ?_
            refine j_iload_n E 70 rfl dX9_person_69 rfl (lv_at hl 4 rfl) ?_
            have hw0_ := hw
            refine aI_v E (n_X1_init_n2 l D cy κ T9_ (upV (upV (upV (upV (upV (upV v_0 40 (upB (v_0 40) q9_ 0)) 41 (upB (v_0 41) q9_ 0)) 42 (upB (v_0 42) q9_ 0)) 43 (upB (v_0 43) q9_ 0)) 44 (upB (v_0 44) q9_ 0)) 45 (upB (v_0 45) q9_ 0)) q9_ v_q v_f v_b H.size  hO9_ tq9_ r_v_q r_v_f r_v_b ) mi_X1_init ml_X9_86 hK hZ hAc hw hA ⟨(Nat.le_of_ble_eq_true rfl), (Nat.le_of_ble_eq_true rfl)⟩ ⟨(Nat.le_of_ble_eq_true rfl), (Nat.le_of_ble_eq_true rfl)⟩ (As := [.int (J v_q), .int (J v_f), .int (J v_b)]) (rest := [.ref q9_, .ref (T 180 o)]) rfl rfl hl.1 (Nat.le_of_ble_eq_true rfl) 73 rfl dX9_person_70 (fun T17_ v_17 H locs hge17_ ho17_ hq17_ hw => ?_)
            obtain ⟨y40_17, y41_17, y42_17, y43_17, y44_17, y45_17, ev17_, hh17_⟩ := hq17_
            rw [ev17_] at hw; clear ev17_
            obtain ⟨hx17_, tq17_, hv40_17_, hv41_17_, hv42_17_, hv43_17_, hv44_17_, hv45_17_⟩ := hh17_
            have hT17_ : WT T17_ := hw.1.2.1
            have hO17_ : ∀ x, ow T17_ x → κ 2 2 ≤ x := fun x h => hAc x (hw.2.1 x h)
            have hoT_ : OW T T17_ s.heap.size := OW.tr hw0_.2.2.1 hoT_ ho17_
            have B180n_ : ∀ j_, j_ ≠ 197 → T17_ j_ (T 180 o) = T j_ (T 180 o) := fun j_ hj_ => (hx17_ (T 180 o) (cw_lt hw0_.1 ((B180_ 0 (by decide)).trans tl180_) (fun _ _ _ => ⟨_, rfl⟩)) (ty_ne ((B180_ 0 (by decide)).trans tl180_) tq9_ (by decide)) j_).trans (B180_ j_ hj_)
            have A180n_ : ∀ j_, j_ ≠ 197 → T17_ j_ (T 201 (T 180 o)) = T j_ (T 201 (T 180 o)) := fun j_ hj_ => (hx17_ (T 201 (T 180 o)) (cw_ltq hw0_.1 (by rw [A180_ 0 (by decide)]; exact tx180_)) (ty_neq (by rw [A180_ 0 (by decide)]; exact tx180_) tq9_ (by decide) (by decide)) j_).trans (A180_ j_ hj_)
            have B181n_ : ∀ j_, j_ ≠ 197 → T17_ j_ (T 181 o) = T j_ (T 181 o) := fun j_ hj_ => (hx17_ (T 181 o) (cw_lt hw0_.1 ((B181_ 0 (by decide)).trans tl181_) (fun _ _ _ => ⟨_, rfl⟩)) (ty_ne ((B181_ 0 (by decide)).trans tl181_) tq9_ (by decide)) j_).trans (B181_ j_ hj_)
            have A181n_ : ∀ j_, j_ ≠ 197 → T17_ j_ (T 201 (T 181 o)) = T j_ (T 201 (T 181 o)) := fun j_ hj_ => (hx17_ (T 201 (T 181 o)) (cw_ltq hw0_.1 (by rw [A181_ 0 (by decide)]; exact tx181_)) (ty_neq (by rw [A181_ 0 (by decide)]; exact tx181_) tq9_ (by decide) (by decide)) j_).trans (A181_ j_ hj_)
            have B182n_ : ∀ j_, j_ ≠ 197 → T17_ j_ (T 182 o) = T j_ (T 182 o) := fun j_ hj_ => (hx17_ (T 182 o) (cw_lt hw0_.1 ((B182_ 0 (by decide)).trans tl182_) (fun _ _ _ => ⟨_, rfl⟩)) (ty_ne ((B182_ 0 (by decide)).trans tl182_) tq9_ (by decide)) j_).trans (B182_ j_ hj_)
            have A182n_ : ∀ j_, j_ ≠ 197 → T17_ j_ (T 201 (T 182 o)) = T j_ (T 201 (T 182 o)) := fun j_ hj_ => (hx17_ (T 201 (T 182 o)) (cw_ltq hw0_.1 (by rw [A182_ 0 (by decide)]; exact tx182_)) (ty_neq (by rw [A182_ 0 (by decide)]; exact tx182_) tq9_ (by decide) (by decide)) j_).trans (A182_ j_ hj_)
            have B183n_ : ∀ j_, j_ ≠ 197 → T17_ j_ (T 183 o) = T j_ (T 183 o) := fun j_ hj_ => (hx17_ (T 183 o) (cw_lt hw0_.1 ((B183_ 0 (by decide)).trans tl183_) (fun _ _ _ => ⟨_, rfl⟩)) (ty_ne ((B183_ 0 (by decide)).trans tl183_) tq9_ (by decide)) j_).trans (B183_ j_ hj_)
            have A183n_ : ∀ j_, j_ ≠ 197 → T17_ j_ (T 201 (T 183 o)) = T j_ (T 201 (T 183 o)) := fun j_ hj_ => (hx17_ (T 201 (T 183 o)) (cw_ltq hw0_.1 (by rw [A183_ 0 (by decide)]; exact tx183_)) (ty_neq (by rw [A183_ 0 (by decide)]; exact tx183_) tq9_ (by decide) (by decide)) j_).trans (A183_ j_ hj_)
            have B180_ := B180n_
            have A180_ := A180n_
            have B181_ := B181n_
            have A181_ := A181n_
            have B182_ := B182n_
            have A182_ := A182n_
            have B183_ := B183n_
            have A183_ := A183n_
            have u18_ : T17_ 0 o = 9 := (hx17_ o (cw_lt hw0_.1 u10_ (fun _ _ _ => ⟨_, rfl⟩)) (ty_ne u10_ tq9_ (by decide)) 0).trans u10_
            have u19_ : T17_ 0 (T 180 o) = 10 := (hx17_ (T 180 o) (cw_lt hw0_.1 u11_ (fun _ _ _ => ⟨_, rfl⟩)) (ty_ne u11_ tq9_ (by decide)) 0).trans u11_
            have u20_ : T17_ 2 (T 180 o) = 2 := (hx17_ (T 180 o) (cw_lt hw0_.1 u11_ (fun _ _ _ => ⟨_, rfl⟩)) (ty_ne u11_ tq9_ (by decide)) 2).trans u12_
            have u21_ : T17_ 180 o = T 180 o := (hx17_ o (cw_lt hw0_.1 u10_ (fun _ _ _ => ⟨_, rfl⟩)) (ty_ne u10_ tq9_ (by decide)) 180).trans u13_
            have u22_ : T17_ 181 o = T 181 o := (hx17_ o (cw_lt hw0_.1 u10_ (fun _ _ _ => ⟨_, rfl⟩)) (ty_ne u10_ tq9_ (by decide)) 181).trans u14_
            have u23_ : T17_ 182 o = T 182 o := (hx17_ o (cw_lt hw0_.1 u10_ (fun _ _ _ => ⟨_, rfl⟩)) (ty_ne u10_ tq9_ (by decide)) 182).trans u15_
            have u24_ : T17_ 183 o = T 183 o := (hx17_ o (cw_lt hw0_.1 u10_ (fun _ _ _ => ⟨_, rfl⟩)) (ty_ne u10_ tq9_ (by decide)) 183).trans u16_
            have hw40_ : y40_17 = upB (upB (v_0 40) q9_ 0) q9_ v_q := hv40_17_
            have hw41_ : y41_17 = upB (upB (v_0 41) q9_ 0) q9_ v_f := hv41_17_
            have hw42_ : y42_17 = upB (upB (v_0 42) q9_ 0) q9_ v_b := hv42_17_
            have hw43_ : y43_17 = upB (upB (v_0 43) q9_ 0) q9_ (-1) := hv43_17_
            have hw44_ : y44_17 = upB (upB (v_0 44) q9_ 0) q9_ 0 := hv44_17_
            have hw0_ := hw
            refine aV_i E (n_Jx4a65c_add_9ea2d_n2 l D cy κ T17_ (upV (upV (upV (upV (upV (upV (upV (upV (upV (upV (upV (upV v_0 40 (upB (v_0 40) q9_ 0)) 41 (upB (v_0 41) q9_ 0)) 42 (upB (v_0 42) q9_ 0)) 43 (upB (v_0 43) q9_ 0)) 44 (upB (v_0 44) q9_ 0)) 45 (upB (v_0 45) q9_ 0)) 40 y40_17) 41 y41_17) 42 y42_17) 43 y43_17) 44 y44_17) 45 y45_17) (T 180 o) q9_ H.size  hO17_ u19_  (tq17_.trans u20_.symm) (fun x_ h_ => hp0 x_ ((hoT_ x_).2 h_)) (show ((v_0 202) ((T 180 o))) ≤ 200 from by omega)) mt_Jx4a65c_add_9ea2d ml_X9_89 hK hZ hAc hw (cw_rc10 hK hw.1 u19_) hA ⟨(Nat.le_of_ble_eq_true rfl), (Nat.le_of_ble_eq_true rfl)⟩ ⟨(Nat.le_of_ble_eq_true rfl), (Nat.le_of_ble_eq_true rfl)⟩ (As := [.ref q9_]) (rest := []) rfl rfl hl.1 (Nat.le_of_ble_eq_true rfl) 76 rfl dX9_person_73 (fun zz25_ T25_ v_25 H locs rr25_ hge25_ ho25_ hq25_ hw => ?_)
            obtain ⟨y200_25, y202_25, ev25_, hh25_⟩ := hq25_
            rw [ev25_] at hw; clear ev25_
            obtain ⟨hy25_, hx25_, hz25_, hl25_, hel25_, hnw25_⟩ := hh25_
            have hy25_ : y202_25 = upB (v_0 202) (T 180 o) ((v_0 202) (T 180 o) + 1) := hy25_
            have hT25_ : WT T25_ := hw.1.2.1
            have hO25_ : ∀ x, ow T25_ x → κ 2 2 ≤ x := fun x h => hAc x (hw.2.1 x h)
            have hoT_ : OW T T25_ s.heap.size := OW.tr hw0_.2.2.1 hoT_ ho25_
            have B181n_ : ∀ j_, j_ ≠ 197 → T25_ j_ (T 181 o) = T j_ (T 181 o) := fun j_ hj_ => (hx25_ (T 181 o) (cw_lt hw0_.1 ((B181_ 0 (by decide)).trans tl181_) (fun _ _ _ => ⟨_, rfl⟩)) ((ls_ne hT t_o).2.2.2.1) (fun h_ => absurd (((B181_ 0 (by decide)).trans tl181_).symm.trans h_) (by decide)) j_).trans (B181_ j_ hj_)
            have A181n_ : ∀ j_, j_ ≠ 197 → T25_ j_ (T 201 (T 181 o)) = T j_ (T 201 (T 181 o)) := fun j_ hj_ => (hx25_ (T 201 (T 181 o)) (cw_ltq hw0_.1 (by rw [A181_ 0 (by decide)]; exact tx181_)) (ty_neq (by rw [A181_ 0 (by decide)]; exact tx181_) u19_ (by decide) (by decide)) (fun h_ => by rw [B180_ 201 (by decide)]; exact own_ne hT tl181_ tl180_ ((ls_ne hT t_o).2.2.2.1) ((A181_ 0 (by decide)).symm.trans h_)) j_).trans (A181_ j_ hj_)
            have B182n_ : ∀ j_, j_ ≠ 197 → T25_ j_ (T 182 o) = T j_ (T 182 o) := fun j_ hj_ => (hx25_ (T 182 o) (cw_lt hw0_.1 ((B182_ 0 (by decide)).trans tl182_) (fun _ _ _ => ⟨_, rfl⟩)) ((ls_ne hT t_o).2.2.2.2.2.2.1) (fun h_ => absurd (((B182_ 0 (by decide)).trans tl182_).symm.trans h_) (by decide)) j_).trans (B182_ j_ hj_)
            have A182n_ : ∀ j_, j_ ≠ 197 → T25_ j_ (T 201 (T 182 o)) = T j_ (T 201 (T 182 o)) := fun j_ hj_ => (hx25_ (T 201 (T 182 o)) (cw_ltq hw0_.1 (by rw [A182_ 0 (by decide)]; exact tx182_)) (ty_neq (by rw [A182_ 0 (by decide)]; exact tx182_) u19_ (by decide) (by decide)) (fun h_ => by rw [B180_ 201 (by decide)]; exact own_ne hT tl182_ tl180_ ((ls_ne hT t_o).2.2.2.2.2.2.1) ((A182_ 0 (by decide)).symm.trans h_)) j_).trans (A182_ j_ hj_)
            have B183n_ : ∀ j_, j_ ≠ 197 → T25_ j_ (T 183 o) = T j_ (T 183 o) := fun j_ hj_ => (hx25_ (T 183 o) (cw_lt hw0_.1 ((B183_ 0 (by decide)).trans tl183_) (fun _ _ _ => ⟨_, rfl⟩)) ((ls_ne hT t_o).2.2.2.2.2.2.2.2.2.1) (fun h_ => absurd (((B183_ 0 (by decide)).trans tl183_).symm.trans h_) (by decide)) j_).trans (B183_ j_ hj_)
            have A183n_ : ∀ j_, j_ ≠ 197 → T25_ j_ (T 201 (T 183 o)) = T j_ (T 201 (T 183 o)) := fun j_ hj_ => (hx25_ (T 201 (T 183 o)) (cw_ltq hw0_.1 (by rw [A183_ 0 (by decide)]; exact tx183_)) (ty_neq (by rw [A183_ 0 (by decide)]; exact tx183_) u19_ (by decide) (by decide)) (fun h_ => by rw [B180_ 201 (by decide)]; exact own_ne hT tl183_ tl180_ ((ls_ne hT t_o).2.2.2.2.2.2.2.2.2.1) ((A183_ 0 (by decide)).symm.trans h_)) j_).trans (A183_ j_ hj_)
            have B181_ := B181n_
            have A181_ := A181n_
            have B182_ := B182n_
            have A182_ := A182n_
            have B183_ := B183n_
            have A183_ := A183n_
            have u26_ : T25_ 0 o = 9 := (hx25_ o (cw_lt hw0_.1 u18_ (fun _ _ _ => ⟨_, rfl⟩)) (ty_ne u18_ u19_ (by decide)) (fun h_ => absurd (u18_.symm.trans h_) (by decide)) 0).trans u18_
            have u27_ : T25_ 180 o = T 180 o := (hx25_ o (cw_lt hw0_.1 u18_ (fun _ _ _ => ⟨_, rfl⟩)) (ty_ne u18_ u19_ (by decide)) (fun h_ => absurd (u18_.symm.trans h_) (by decide)) 180).trans u21_
            have u28_ : T25_ 181 o = T 181 o := (hx25_ o (cw_lt hw0_.1 u18_ (fun _ _ _ => ⟨_, rfl⟩)) (ty_ne u18_ u19_ (by decide)) (fun h_ => absurd (u18_.symm.trans h_) (by decide)) 181).trans u22_
            have u29_ : T25_ 182 o = T 182 o := (hx25_ o (cw_lt hw0_.1 u18_ (fun _ _ _ => ⟨_, rfl⟩)) (ty_ne u18_ u19_ (by decide)) (fun h_ => absurd (u18_.symm.trans h_) (by decide)) 182).trans u23_
            have u30_ : T25_ 183 o = T 183 o := (hx25_ o (cw_lt hw0_.1 u18_ (fun _ _ _ => ⟨_, rfl⟩)) (ty_ne u18_ u19_ (by decide)) (fun h_ => absurd (u18_.symm.trans h_) (by decide)) 183).trans u24_
            refine j_pop E 77 rfl dX9_person_76 rfl ?_
            refine j_aload_n E 78 rfl dX9_person_77 rfl (lv_at hl 1 rfl) ?_
            refine g_180 E hK hw fl_X9_12 u26_ 81 rfl dX9_person_78 ?_
            refine kV_i E (c_Jx4a65c_size_8abf5 l D cy T25_ (upV (upV (upV (upV (upV (upV (upV (upV (upV (upV (upV (upV (upV (upV v_0 40 (upB (v_0 40) q9_ 0)) 41 (upB (v_0 41) q9_ 0)) 42 (upB (v_0 42) q9_ 0)) 43 (upB (v_0 43) q9_ 0)) 44 (upB (v_0 44) q9_ 0)) 45 (upB (v_0 45) q9_ 0)) 40 y40_17) 41 y41_17) 42 y42_17) 43 y43_17) 44 y44_17) 45 y45_17) 200 y200_25) 202 y202_25) (T25_ 180 o)  (wt_180 hT25_ u26_)  ) mt_Jx4a65c_size_8abf5 ml_X9_80 hK hw (cw_rc10 hK hw.1 (wt_180 hT25_ u26_)) hA ⟨Nat.le_of_ble_eq_true rfl, Nat.le_of_ble_eq_true rfl⟩ ⟨Nat.le_of_ble_eq_true rfl, Nat.le_of_ble_eq_true rfl⟩ (As := []) (rest := []) rfl rfl hl.1 (Nat.le_of_ble_eq_true rfl) 84 rfl dX9_person_81 (fun zz31_ v_31 H locs rr31_ hq31_ hw => ?_)
            obtain ⟨ev31_, hh31_⟩ := hq31_
            rw [ev31_] at hw; clear ev31_
            have hh31_ : zz31_ = (y202_25 ((T25_ 180 o))) ∧ 0 ≤ zz31_ := hh31_
            have hs2_ := hh31_.1
            rw [u27_, hy25_, upB_same] at hs2_
            refine j_iconst E 85 rfl dX9_person_84 ?_
            refine j_isub E 86 rfl dX9_person_85 ?_
            exact hret 86 (zz31_ - 1) T25_ _ _ _ ls _ _ hw hoT_ (rr (by omega)) (⟨u26_, ⟨u27_, u28_, u29_, u30_⟩, rfl, rfl, (by show y202_25 (T 181 o) = v_0 202 (T 181 o); rw [hy25_]; exact upB_ne ((ls_ne hT t_o).2.2.2.1)), (by show y202_25 (T 182 o) = v_0 202 (T 182 o); rw [hy25_]; exact upB_ne ((ls_ne hT t_o).2.2.2.2.2.2.1)), (by show y202_25 (T 183 o) = v_0 202 (T 183 o); rw [hy25_]; exact upB_ne ((ls_ne hT t_o).2.2.2.2.2.2.2.2.2.1)), Or.inr ⟨by omega, by omega, (by show y202_25 (T 180 o) = v_0 202 (T 180 o) + 1; rw [hy25_]; exact upB_same _ _ _), q9_, fr_, fun i_ h_ => by rw [u27_]; exact (hel25_ i_ h_).trans (by rw [B180_ 201 (by decide), A180_ (1000 + i_) (by omega)]), by rw [u27_]; exact hnw25_, fun y_ h_ => ⟨(by show y40_17 y_ = v_0 40 y_; rw [hw40_]; exact (upB_ne h_).trans (upB_ne h_)), (by show y41_17 y_ = v_0 41 y_; rw [hw41_]; exact (upB_ne h_).trans (upB_ne h_)), (by show y42_17 y_ = v_0 42 y_; rw [hw42_]; exact (upB_ne h_).trans (upB_ne h_)), (by show y43_17 y_ = v_0 43 y_; rw [hw43_]; exact (upB_ne h_).trans (upB_ne h_)), (by show y44_17 y_ = v_0 44 y_; rw [hw44_]; exact (upB_ne h_).trans (upB_ne h_))⟩, (by show y40_17 q9_ = _; rw [hw40_]; exact upB_same _ _ _), (by show y41_17 q9_ = _; rw [hw41_]; exact upB_same _ _ _), (by show y42_17 q9_ = _; rw [hw42_]; exact upB_same _ _ _), (by show y43_17 q9_ = _; rw [hw43_]; exact upB_same _ _ _), (by show y44_17 q9_ = _; rw [hw44_]; exact upB_same _ _ _)⟩⟩) (Nat.le_of_ble_eq_true rfl) (Nat.le_of_ble_eq_true rfl) dX9_person_86
          · refine j_iconst E 58 rfl dX9_person_57 ?_
            exact hret 58 ((-1)) T _ _ _ ls _ _ hw hoT_ (rr (by decide)) (⟨t_o, ⟨rfl, rfl, rfl, rfl⟩, rfl, rfl, rfl, rfl, rfl, Or.inl ⟨rfl, by omega, rfl, fun _ => rfl, rfl, rfl, rfl, rfl, rfl⟩⟩) (Nat.le_of_ble_eq_true rfl) (Nat.le_of_ble_eq_true rfl) dX9_person_58
  refine j_iload_n E 1 rfl dX9_person_0 rfl (lv_at hl 1 rfl) ?_
  refine j_if_lt E 4 23 rfl r_v_q dX9_person_1 (by decide) (fun cc32_ => ?_) (fun cc32_ => ?_)
  · refine j_iconst E 24 rfl dX9_person_23 ?_
    exact L24_1 0  H locs ls (rr (by decide)) (by omega) hw (lv_sub hl [0, 1, 2, 3] rfl)
  · refine j_iload_n E 5 rfl dX9_person_4 rfl (lv_at hl 1 rfl) ?_
    refine j_iconst E 6 rfl dX9_person_5 ?_
    refine j_icmp_ge E 9 23 rfl r_v_q (rr (by decide)) dX9_person_6 (by decide) (fun cc33_ => ?_) (fun cc33_ => ?_)
    · refine j_iconst E 24 rfl dX9_person_23 ?_
      exact L24_1 0  H locs ls (rr (by decide)) (by omega) hw (lv_sub hl [0, 1, 2, 3] rfl)
    · refine j_iload_n E 10 rfl dX9_person_9 rfl (lv_at hl 2 rfl) ?_
      refine j_if_lt E 13 23 rfl r_v_f dX9_person_10 (by decide) (fun cc34_ => ?_) (fun cc34_ => ?_)
      · refine j_iconst E 24 rfl dX9_person_23 ?_
        exact L24_1 0  H locs ls (rr (by decide)) (by omega) hw (lv_sub hl [0, 1, 2, 3] rfl)
      · refine j_iload_n E 14 rfl dX9_person_13 rfl (lv_at hl 2 rfl) ?_
        refine j_bipush E 16 rfl dX9_person_14 (by decide) ?_
        refine j_icmp_ge E 19 23 rfl r_v_f (rr (by decide)) dX9_person_16 (by decide) (fun cc35_ => ?_) (fun cc35_ => ?_)
        · refine j_iconst E 24 rfl dX9_person_23 ?_
          exact L24_1 0  H locs ls (rr (by decide)) (by omega) hw (lv_sub hl [0, 1, 2, 3] rfl)
        · refine j_iconst E 20 rfl dX9_person_19 ?_
          refine j_goto E 24 dX9_person_20 (by decide) ?_
          exact L24_1 1  H locs ls (rr (by decide)) (by omega) hw (lv_sub hl [0, 1, 2, 3] rfl)
set_option maxHeartbeats 4000000 in
set_option maxRecDepth 100000 in
theorem n_X9_line_n3 (l : Launch) (D : va_G) (cy : Nat → ClassId) (κ T : Nat → Nat → Nat) (v_0 : Nat → Nat → Int) (o : Nat) (v_s : Int) (v_v : Int) (sz : Nat) (hO : ∀ x, ow T x → κ 2 2 ≤ x) (t_o : T 0 o = 9) (r_v_s : inR v_s) (r_v_v : inR v_v) (hp0 : ∀ x, T 0 x = 26 → x = κ 2 0) (hp1 : v_v = 0 ∨ v_v = 1) : KA l D cy κ T yX9_line cX9_line 3 (some .int) 8 3 700 [.ref o, .int (J v_s), .int (J v_v)] v_0 sz (AI (fun (z_0 : Int) (T_2 : Nat → Nat → Nat) (v_2 : Nat → Nat → Int) => T_2 0 o = 9 ∧ (T_2 180 o = T 180 o ∧ T_2 181 o = T 181 o ∧ T_2 182 o = T 182 o ∧ T_2 183 o = T 183 o) ∧ v_2 186 o = v_0 186 o ∧ v_2 187 o = v_0 187 o ∧ v_2 202 (T 180 o) = v_0 202 (T 180 o) ∧ v_2 202 (T 182 o) = v_0 202 (T 182 o) ∧ v_2 202 (T 183 o) = v_0 202 (T 183 o) ∧ (∀ i_ : Nat, T_2 (1000 + i_) (T_2 201 (T_2 180 o)) = T (1000 + i_) (T 201 (T 180 o))) ∧ v_2 40 = v_0 40 ∧ v_2 41 = v_0 41 ∧ v_2 42 = v_0 42 ∧ v_2 43 = v_0 43 ∧ v_2 44 = v_0 44 ∧ ((z_0 = -1 ∧ (v_s < 0 ∨ 2 < v_s ∨ 24 ≤ v_0 202 (T 181 o)) ∧ v_2 202 (T 181 o) = v_0 202 (T 181 o)) ∨ (z_0 = v_0 202 (T 181 o) ∧ (0 ≤ v_s ∧ v_s ≤ 2 ∧ v_0 202 (T 181 o) < 24) ∧ v_2 202 (T 181 o) = v_0 202 (T 181 o) + 1)))) := by
  refine KA.ofi (by decide) (Nat.le_of_ble_eq_true rfl) hO ?_
  intro p e s m below meth c ls ar QW A0 H locs E hK hZ hA hAc hsz hnm hw hlo_ hl hret
  have hl : lv_has ls 3 [(0, .ref o), (1, .int (J v_s)), (2, .int (J v_v))] := hl
  have hT : WT T := hw.1.2.1
  have hoT_ : OW T T s.heap.size := OW.rf T _
  have tl180_ : T 0 (T 180 o) = 10 := wt_180 hT t_o
  have tx180_ : T 0 (T 201 (T 180 o)) = 24 ∨ T 0 (T 201 (T 180 o)) = 26 := (wt10 hT tl180_).1
  have B180_ : ∀ j, j ≠ 197 → T j (T 180 o) = T j (T 180 o) := fun _ _ => rfl
  have A180_ : ∀ j, j ≠ 197 → T j (T 201 (T 180 o)) = T j (T 201 (T 180 o)) := fun _ _ => rfl
  have tl181_ : T 0 (T 181 o) = 10 := wt_181 hT t_o
  have tx181_ : T 0 (T 201 (T 181 o)) = 24 ∨ T 0 (T 201 (T 181 o)) = 26 := (wt10 hT tl181_).1
  have B181_ : ∀ j, j ≠ 197 → T j (T 181 o) = T j (T 181 o) := fun _ _ => rfl
  have A181_ : ∀ j, j ≠ 197 → T j (T 201 (T 181 o)) = T j (T 201 (T 181 o)) := fun _ _ => rfl
  have tl182_ : T 0 (T 182 o) = 10 := wt_182 hT t_o
  have tx182_ : T 0 (T 201 (T 182 o)) = 24 ∨ T 0 (T 201 (T 182 o)) = 26 := (wt10 hT tl182_).1
  have B182_ : ∀ j, j ≠ 197 → T j (T 182 o) = T j (T 182 o) := fun _ _ => rfl
  have A182_ : ∀ j, j ≠ 197 → T j (T 201 (T 182 o)) = T j (T 201 (T 182 o)) := fun _ _ => rfl
  have tl183_ : T 0 (T 183 o) = 10 := wt_183 hT t_o
  have tx183_ : T 0 (T 201 (T 183 o)) = 24 ∨ T 0 (T 201 (T 183 o)) = 26 := (wt10 hT tl183_).1
  have B183_ : ∀ j, j ≠ 197 → T j (T 183 o) = T j (T 183 o) := fun _ _ => rfl
  have A183_ : ∀ j, j ≠ 197 → T j (T 201 (T 183 o)) = T j (T 201 (T 183 o)) := fun _ _ => rfl
  refine j_iload_n E 1 rfl dX9_line_0 rfl (lv_at hl 1 rfl) ?_
  refine j_if_lt E 4 21 rfl r_v_s dX9_line_1 (by decide) (fun cc1_ => ?_) (fun cc1_ => ?_)
  · refine j_iconst E 22 rfl dX9_line_21 ?_
    exact hret 22 ((-1)) T _ _ _ ls _ _ hw hoT_ (rr (by decide)) (⟨t_o, ⟨rfl, rfl, rfl, rfl⟩, rfl, rfl, rfl, rfl, rfl, (fun _ => rfl), rfl, rfl, rfl, rfl, rfl, Or.inl ⟨rfl, by omega, rfl⟩⟩) (Nat.le_of_ble_eq_true rfl) (Nat.le_of_ble_eq_true rfl) dX9_line_22
  · refine j_iload_n E 5 rfl dX9_line_4 rfl (lv_at hl 1 rfl) ?_
    refine j_iconst E 6 rfl dX9_line_5 ?_
    refine j_icmp_ge E 9 21 rfl r_v_s (rr (by decide)) dX9_line_6 (by decide) (fun cc2_ => ?_) (fun cc2_ => ?_)
    · refine j_iconst E 22 rfl dX9_line_21 ?_
      exact hret 22 ((-1)) T _ _ _ ls _ _ hw hoT_ (rr (by decide)) (⟨t_o, ⟨rfl, rfl, rfl, rfl⟩, rfl, rfl, rfl, rfl, rfl, (fun _ => rfl), rfl, rfl, rfl, rfl, rfl, Or.inl ⟨rfl, by omega, rfl⟩⟩) (Nat.le_of_ble_eq_true rfl) (Nat.le_of_ble_eq_true rfl) dX9_line_22
    · refine j_aload_n E 10 rfl dX9_line_9 rfl (lv_at hl 0 rfl) ?_
      refine g_181 E hK hw fl_X9_16 t_o 13 rfl dX9_line_10 ?_
      refine kV_i E (c_Jx4a65c_size_8abf5 l D cy T (v_0) (T 181 o)  (wt_181 hT t_o)  ) mt_Jx4a65c_size_8abf5 ml_X9_80 hK hw (cw_rc10 hK hw.1 (wt_181 hT t_o)) hA ⟨Nat.le_of_ble_eq_true rfl, Nat.le_of_ble_eq_true rfl⟩ ⟨Nat.le_of_ble_eq_true rfl, Nat.le_of_ble_eq_true rfl⟩ (As := []) (rest := []) rfl rfl hl.1 (Nat.le_of_ble_eq_true rfl) 16 rfl dX9_line_13 (fun zz3_ v_3 H locs rr3_ hq3_ hw => ?_)
      obtain ⟨ev3_, hh3_⟩ := hq3_
      rw [ev3_] at hw; clear ev3_
      have hh3_ : zz3_ = ((v_0 202) ((T 181 o))) ∧ 0 ≤ zz3_ := hh3_
      refine j_bipush E 18 rfl dX9_line_16 (by decide) ?_
      refine j_icmp_lt E 21 23 rfl rr3_ (rr (by decide)) dX9_line_18 (by decide) (fun cc4_ => ?_) (fun cc4_ => ?_)
      · refine j_aload_n E 24 rfl dX9_line_23 rfl (lv_at hl 0 rfl) ?_
        refine g_181 E hK hw fl_X9_16 t_o 27 rfl dX9_line_24 ?_
        have hw0_ := hw
        refine n_obj1 E hK hw hA cl_X9_167 (Nat.le_of_ble_eq_true rfl) (Nat.le_of_ble_eq_true rfl) 30 rfl dX9_line_27 (fun q5_ T5_ H hge5_ hx5_ ho5_ tq5_ hw => ?_)
        have fq5_ : s.heap.size ≤ q5_ := Nat.le_trans hw0_.2.2.1 hge5_
        have hw : WK D cy T5_ (upV (upV (upV (upV (upV (upV v_0 20 (upB (v_0 20) q5_ 0)) 21 (upB (v_0 21) q5_ 0)) 22 (upB (v_0 22) q5_ 0)) 23 (upB (v_0 23) q5_ 0)) 24 (upB (v_0 24) q5_ 0)) 25 (upB (v_0 25) q5_ 0)) A0 s.heap H locs := hw
        have hT5_ : WT T5_ := hw.1.2.1
        have hO5_ : ∀ x, ow T5_ x → κ 2 2 ≤ x := fun x h => hAc x (hw.2.1 x h)
        have hoT_ : OW T T5_ s.heap.size := OW.tr hw0_.2.2.1 hoT_ ho5_
        have B180n_ : ∀ j_, j_ ≠ 197 → T5_ j_ (T 180 o) = T j_ (T 180 o) := fun j_ hj_ => (hx5_ (T 180 o) (Nat.ne_of_lt (Nat.lt_of_lt_of_le (cw_lt hw0_.1 ((B180_ 0 (by decide)).trans tl180_) (fun _ _ _ => ⟨_, rfl⟩)) hge5_)) j_).trans (B180_ j_ hj_)
        have A180n_ : ∀ j_, j_ ≠ 197 → T5_ j_ (T 201 (T 180 o)) = T j_ (T 201 (T 180 o)) := fun j_ hj_ => (hx5_ (T 201 (T 180 o)) (Nat.ne_of_lt (Nat.lt_of_lt_of_le (cw_ltq hw0_.1 (by rw [A180_ 0 (by decide)]; exact tx180_)) hge5_)) j_).trans (A180_ j_ hj_)
        have B181n_ : ∀ j_, j_ ≠ 197 → T5_ j_ (T 181 o) = T j_ (T 181 o) := fun j_ hj_ => (hx5_ (T 181 o) (Nat.ne_of_lt (Nat.lt_of_lt_of_le (cw_lt hw0_.1 ((B181_ 0 (by decide)).trans tl181_) (fun _ _ _ => ⟨_, rfl⟩)) hge5_)) j_).trans (B181_ j_ hj_)
        have A181n_ : ∀ j_, j_ ≠ 197 → T5_ j_ (T 201 (T 181 o)) = T j_ (T 201 (T 181 o)) := fun j_ hj_ => (hx5_ (T 201 (T 181 o)) (Nat.ne_of_lt (Nat.lt_of_lt_of_le (cw_ltq hw0_.1 (by rw [A181_ 0 (by decide)]; exact tx181_)) hge5_)) j_).trans (A181_ j_ hj_)
        have B182n_ : ∀ j_, j_ ≠ 197 → T5_ j_ (T 182 o) = T j_ (T 182 o) := fun j_ hj_ => (hx5_ (T 182 o) (Nat.ne_of_lt (Nat.lt_of_lt_of_le (cw_lt hw0_.1 ((B182_ 0 (by decide)).trans tl182_) (fun _ _ _ => ⟨_, rfl⟩)) hge5_)) j_).trans (B182_ j_ hj_)
        have A182n_ : ∀ j_, j_ ≠ 197 → T5_ j_ (T 201 (T 182 o)) = T j_ (T 201 (T 182 o)) := fun j_ hj_ => (hx5_ (T 201 (T 182 o)) (Nat.ne_of_lt (Nat.lt_of_lt_of_le (cw_ltq hw0_.1 (by rw [A182_ 0 (by decide)]; exact tx182_)) hge5_)) j_).trans (A182_ j_ hj_)
        have B183n_ : ∀ j_, j_ ≠ 197 → T5_ j_ (T 183 o) = T j_ (T 183 o) := fun j_ hj_ => (hx5_ (T 183 o) (Nat.ne_of_lt (Nat.lt_of_lt_of_le (cw_lt hw0_.1 ((B183_ 0 (by decide)).trans tl183_) (fun _ _ _ => ⟨_, rfl⟩)) hge5_)) j_).trans (B183_ j_ hj_)
        have A183n_ : ∀ j_, j_ ≠ 197 → T5_ j_ (T 201 (T 183 o)) = T j_ (T 201 (T 183 o)) := fun j_ hj_ => (hx5_ (T 201 (T 183 o)) (Nat.ne_of_lt (Nat.lt_of_lt_of_le (cw_ltq hw0_.1 (by rw [A183_ 0 (by decide)]; exact tx183_)) hge5_)) j_).trans (A183_ j_ hj_)
        have B180_ := B180n_
        have A180_ := A180n_
        have B181_ := B181n_
        have A181_ := A181n_
        have B182_ := B182n_
        have A182_ := A182n_
        have B183_ := B183n_
        have A183_ := A183n_
        have u6_ : T5_ 0 o = 9 := (hx5_ o (Nat.ne_of_lt (Nat.lt_of_lt_of_le (cw_lt hw0_.1 t_o (fun _ _ _ => ⟨_, rfl⟩)) hge5_)) 0).trans t_o
        have u7_ : T5_ 0 (T 181 o) = 10 := (hx5_ (T 181 o) (Nat.ne_of_lt (Nat.lt_of_lt_of_le (cw_lt hw0_.1 (wt_181 hT t_o) (fun _ _ _ => ⟨_, rfl⟩)) hge5_)) 0).trans (wt_181 hT t_o)
        have u8_ : T5_ 2 (T 181 o) = 1 := (hx5_ (T 181 o) (Nat.ne_of_lt (Nat.lt_of_lt_of_le (cw_lt hw0_.1 (wt_181 hT t_o) (fun _ _ _ => ⟨_, rfl⟩)) hge5_)) 2).trans (we_181 hT t_o)
        have u9_ : T5_ 180 o = T 180 o := (hx5_ o (Nat.ne_of_lt (Nat.lt_of_lt_of_le (cw_lt hw0_.1 t_o (fun _ _ _ => ⟨_, rfl⟩)) hge5_)) 180).trans rfl
        have u10_ : T5_ 181 o = T 181 o := (hx5_ o (Nat.ne_of_lt (Nat.lt_of_lt_of_le (cw_lt hw0_.1 t_o (fun _ _ _ => ⟨_, rfl⟩)) hge5_)) 181).trans rfl
        have u11_ : T5_ 182 o = T 182 o := (hx5_ o (Nat.ne_of_lt (Nat.lt_of_lt_of_le (cw_lt hw0_.1 t_o (fun _ _ _ => ⟨_, rfl⟩)) hge5_)) 182).trans rfl
        have u12_ : T5_ 183 o = T 183 o := (hx5_ o (Nat.ne_of_lt (Nat.lt_of_lt_of_le (cw_lt hw0_.1 t_o (fun _ _ _ => ⟨_, rfl⟩)) hge5_)) 183).trans rfl
        refine j_dup E 31 rfl dX9_line_30 rfl ?_
        refine j_iload_n E 32 rfl dX9_line_31 rfl (lv_at hl 1 rfl) ?_
        refine j_iload_n E 33 rfl dX9_line_32 rfl (lv_at hl 2 rfl) ?_
        have hw0_ := hw
        refine aI_v E (n_X0_init l D cy κ T5_ (upV (upV (upV (upV (upV (upV v_0 20 (upB (v_0 20) q5_ 0)) 21 (upB (v_0 21) q5_ 0)) 22 (upB (v_0 22) q5_ 0)) 23 (upB (v_0 23) q5_ 0)) 24 (upB (v_0 24) q5_ 0)) 25 (upB (v_0 25) q5_ 0)) q5_ v_s v_v H.size  hO5_ tq5_ r_v_s r_v_v (show v_v = 0 ∨ v_v = 1 from by first | omega | (simp only [upB_same]; omega))) mi_X0_init ml_X9_169 hK hZ hAc hw hA ⟨(Nat.le_of_ble_eq_true rfl), (Nat.le_of_ble_eq_true rfl)⟩ ⟨(Nat.le_of_ble_eq_true rfl), (Nat.le_of_ble_eq_true rfl)⟩ (As := [.int (J v_s), .int (J v_v)]) (rest := [.ref q5_, .ref (T 181 o)]) rfl rfl hl.1 (Nat.le_of_ble_eq_true rfl) 36 rfl dX9_line_33 (fun T13_ v_13 H locs hge13_ ho13_ hq13_ hw => ?_)
        obtain ⟨y20_13, y21_13, y22_13, y23_13, y24_13, y25_13, ev13_, hh13_⟩ := hq13_
        rw [ev13_] at hw; clear ev13_
        obtain ⟨hx13_, tq13_⟩ := hh13_
        have hT13_ : WT T13_ := hw.1.2.1
        have hO13_ : ∀ x, ow T13_ x → κ 2 2 ≤ x := fun x h => hAc x (hw.2.1 x h)
        have hoT_ : OW T T13_ s.heap.size := OW.tr hw0_.2.2.1 hoT_ ho13_
        have B180n_ : ∀ j_, j_ ≠ 197 → T13_ j_ (T 180 o) = T j_ (T 180 o) := fun j_ hj_ => (hx13_ (T 180 o) (cw_lt hw0_.1 ((B180_ 0 (by decide)).trans tl180_) (fun _ _ _ => ⟨_, rfl⟩)) (ty_ne ((B180_ 0 (by decide)).trans tl180_) tq5_ (by decide)) j_).trans (B180_ j_ hj_)
        have A180n_ : ∀ j_, j_ ≠ 197 → T13_ j_ (T 201 (T 180 o)) = T j_ (T 201 (T 180 o)) := fun j_ hj_ => (hx13_ (T 201 (T 180 o)) (cw_ltq hw0_.1 (by rw [A180_ 0 (by decide)]; exact tx180_)) (ty_neq (by rw [A180_ 0 (by decide)]; exact tx180_) tq5_ (by decide) (by decide)) j_).trans (A180_ j_ hj_)
        have B181n_ : ∀ j_, j_ ≠ 197 → T13_ j_ (T 181 o) = T j_ (T 181 o) := fun j_ hj_ => (hx13_ (T 181 o) (cw_lt hw0_.1 ((B181_ 0 (by decide)).trans tl181_) (fun _ _ _ => ⟨_, rfl⟩)) (ty_ne ((B181_ 0 (by decide)).trans tl181_) tq5_ (by decide)) j_).trans (B181_ j_ hj_)
        have A181n_ : ∀ j_, j_ ≠ 197 → T13_ j_ (T 201 (T 181 o)) = T j_ (T 201 (T 181 o)) := fun j_ hj_ => (hx13_ (T 201 (T 181 o)) (cw_ltq hw0_.1 (by rw [A181_ 0 (by decide)]; exact tx181_)) (ty_neq (by rw [A181_ 0 (by decide)]; exact tx181_) tq5_ (by decide) (by decide)) j_).trans (A181_ j_ hj_)
        have B182n_ : ∀ j_, j_ ≠ 197 → T13_ j_ (T 182 o) = T j_ (T 182 o) := fun j_ hj_ => (hx13_ (T 182 o) (cw_lt hw0_.1 ((B182_ 0 (by decide)).trans tl182_) (fun _ _ _ => ⟨_, rfl⟩)) (ty_ne ((B182_ 0 (by decide)).trans tl182_) tq5_ (by decide)) j_).trans (B182_ j_ hj_)
        have A182n_ : ∀ j_, j_ ≠ 197 → T13_ j_ (T 201 (T 182 o)) = T j_ (T 201 (T 182 o)) := fun j_ hj_ => (hx13_ (T 201 (T 182 o)) (cw_ltq hw0_.1 (by rw [A182_ 0 (by decide)]; exact tx182_)) (ty_neq (by rw [A182_ 0 (by decide)]; exact tx182_) tq5_ (by decide) (by decide)) j_).trans (A182_ j_ hj_)
        have B183n_ : ∀ j_, j_ ≠ 197 → T13_ j_ (T 183 o) = T j_ (T 183 o) := fun j_ hj_ => (hx13_ (T 183 o) (cw_lt hw0_.1 ((B183_ 0 (by decide)).trans tl183_) (fun _ _ _ => ⟨_, rfl⟩)) (ty_ne ((B183_ 0 (by decide)).trans tl183_) tq5_ (by decide)) j_).trans (B183_ j_ hj_)
        have A183n_ : ∀ j_, j_ ≠ 197 → T13_ j_ (T 201 (T 183 o)) = T j_ (T 201 (T 183 o)) := fun j_ hj_ => (hx13_ (T 201 (T 183 o)) (cw_ltq hw0_.1 (by rw [A183_ 0 (by decide)]; exact tx183_)) (ty_neq (by rw [A183_ 0 (by decide)]; exact tx183_) tq5_ (by decide) (by decide)) j_).trans (A183_ j_ hj_)
        have B180_ := B180n_
        have A180_ := A180n_
        have B181_ := B181n_
        have A181_ := A181n_
        have B182_ := B182n_
        have A182_ := A182n_
        have B183_ := B183n_
        have A183_ := A183n_
        have u14_ : T13_ 0 o = 9 := (hx13_ o (cw_lt hw0_.1 u6_ (fun _ _ _ => ⟨_, rfl⟩)) (ty_ne u6_ tq5_ (by decide)) 0).trans u6_
        have u15_ : T13_ 0 (T 181 o) = 10 := (hx13_ (T 181 o) (cw_lt hw0_.1 u7_ (fun _ _ _ => ⟨_, rfl⟩)) (ty_ne u7_ tq5_ (by decide)) 0).trans u7_
        have u16_ : T13_ 2 (T 181 o) = 1 := (hx13_ (T 181 o) (cw_lt hw0_.1 u7_ (fun _ _ _ => ⟨_, rfl⟩)) (ty_ne u7_ tq5_ (by decide)) 2).trans u8_
        have u17_ : T13_ 180 o = T 180 o := (hx13_ o (cw_lt hw0_.1 u6_ (fun _ _ _ => ⟨_, rfl⟩)) (ty_ne u6_ tq5_ (by decide)) 180).trans u9_
        have u18_ : T13_ 181 o = T 181 o := (hx13_ o (cw_lt hw0_.1 u6_ (fun _ _ _ => ⟨_, rfl⟩)) (ty_ne u6_ tq5_ (by decide)) 181).trans u10_
        have u19_ : T13_ 182 o = T 182 o := (hx13_ o (cw_lt hw0_.1 u6_ (fun _ _ _ => ⟨_, rfl⟩)) (ty_ne u6_ tq5_ (by decide)) 182).trans u11_
        have u20_ : T13_ 183 o = T 183 o := (hx13_ o (cw_lt hw0_.1 u6_ (fun _ _ _ => ⟨_, rfl⟩)) (ty_ne u6_ tq5_ (by decide)) 183).trans u12_
        have hw0_ := hw
        refine aV_i E (n_Jx4a65c_add_9ea2d_n2 l D cy κ T13_ (upV (upV (upV (upV (upV (upV (upV (upV (upV (upV (upV (upV v_0 20 (upB (v_0 20) q5_ 0)) 21 (upB (v_0 21) q5_ 0)) 22 (upB (v_0 22) q5_ 0)) 23 (upB (v_0 23) q5_ 0)) 24 (upB (v_0 24) q5_ 0)) 25 (upB (v_0 25) q5_ 0)) 20 y20_13) 21 y21_13) 22 y22_13) 23 y23_13) 24 y24_13) 25 y25_13) (T 181 o) q5_ H.size  hO13_ u15_  (tq13_.trans u16_.symm) (fun x_ h_ => hp0 x_ ((hoT_ x_).2 h_)) (show ((v_0 202) ((T 181 o))) ≤ 200 from by omega)) mt_Jx4a65c_add_9ea2d ml_X9_89 hK hZ hAc hw (cw_rc10 hK hw.1 u15_) hA ⟨(Nat.le_of_ble_eq_true rfl), (Nat.le_of_ble_eq_true rfl)⟩ ⟨(Nat.le_of_ble_eq_true rfl), (Nat.le_of_ble_eq_true rfl)⟩ (As := [.ref q5_]) (rest := []) rfl rfl hl.1 (Nat.le_of_ble_eq_true rfl) 39 rfl dX9_line_36 (fun zz21_ T21_ v_21 H locs rr21_ hge21_ ho21_ hq21_ hw => ?_)
        obtain ⟨y200_21, y202_21, ev21_, hh21_⟩ := hq21_
        rw [ev21_] at hw; clear ev21_
        obtain ⟨hy21_, hx21_, hz21_, hl21_, hel21_, hnw21_⟩ := hh21_
        have hy21_ : y202_21 = upB (v_0 202) (T 181 o) ((v_0 202) (T 181 o) + 1) := hy21_
        have hT21_ : WT T21_ := hw.1.2.1
        have hO21_ : ∀ x, ow T21_ x → κ 2 2 ≤ x := fun x h => hAc x (hw.2.1 x h)
        have hoT_ : OW T T21_ s.heap.size := OW.tr hw0_.2.2.1 hoT_ ho21_
        have B180n_ : ∀ j_, j_ ≠ 197 → T21_ j_ (T 180 o) = T j_ (T 180 o) := fun j_ hj_ => (hx21_ (T 180 o) (cw_lt hw0_.1 ((B180_ 0 (by decide)).trans tl180_) (fun _ _ _ => ⟨_, rfl⟩)) ((ls_ne hT t_o).1) (fun h_ => absurd (((B180_ 0 (by decide)).trans tl180_).symm.trans h_) (by decide)) j_).trans (B180_ j_ hj_)
        have A180n_ : ∀ j_, j_ ≠ 197 → T21_ j_ (T 201 (T 180 o)) = T j_ (T 201 (T 180 o)) := fun j_ hj_ => (hx21_ (T 201 (T 180 o)) (cw_ltq hw0_.1 (by rw [A180_ 0 (by decide)]; exact tx180_)) (ty_neq (by rw [A180_ 0 (by decide)]; exact tx180_) u15_ (by decide) (by decide)) (fun h_ => by rw [B181_ 201 (by decide)]; exact own_ne hT tl180_ tl181_ ((ls_ne hT t_o).1) ((A180_ 0 (by decide)).symm.trans h_)) j_).trans (A180_ j_ hj_)
        have B182n_ : ∀ j_, j_ ≠ 197 → T21_ j_ (T 182 o) = T j_ (T 182 o) := fun j_ hj_ => (hx21_ (T 182 o) (cw_lt hw0_.1 ((B182_ 0 (by decide)).trans tl182_) (fun _ _ _ => ⟨_, rfl⟩)) ((ls_ne hT t_o).2.2.2.2.2.2.2.1) (fun h_ => absurd (((B182_ 0 (by decide)).trans tl182_).symm.trans h_) (by decide)) j_).trans (B182_ j_ hj_)
        have A182n_ : ∀ j_, j_ ≠ 197 → T21_ j_ (T 201 (T 182 o)) = T j_ (T 201 (T 182 o)) := fun j_ hj_ => (hx21_ (T 201 (T 182 o)) (cw_ltq hw0_.1 (by rw [A182_ 0 (by decide)]; exact tx182_)) (ty_neq (by rw [A182_ 0 (by decide)]; exact tx182_) u15_ (by decide) (by decide)) (fun h_ => by rw [B181_ 201 (by decide)]; exact own_ne hT tl182_ tl181_ ((ls_ne hT t_o).2.2.2.2.2.2.2.1) ((A182_ 0 (by decide)).symm.trans h_)) j_).trans (A182_ j_ hj_)
        have B183n_ : ∀ j_, j_ ≠ 197 → T21_ j_ (T 183 o) = T j_ (T 183 o) := fun j_ hj_ => (hx21_ (T 183 o) (cw_lt hw0_.1 ((B183_ 0 (by decide)).trans tl183_) (fun _ _ _ => ⟨_, rfl⟩)) ((ls_ne hT t_o).2.2.2.2.2.2.2.2.2.2.1) (fun h_ => absurd (((B183_ 0 (by decide)).trans tl183_).symm.trans h_) (by decide)) j_).trans (B183_ j_ hj_)
        have A183n_ : ∀ j_, j_ ≠ 197 → T21_ j_ (T 201 (T 183 o)) = T j_ (T 201 (T 183 o)) := fun j_ hj_ => (hx21_ (T 201 (T 183 o)) (cw_ltq hw0_.1 (by rw [A183_ 0 (by decide)]; exact tx183_)) (ty_neq (by rw [A183_ 0 (by decide)]; exact tx183_) u15_ (by decide) (by decide)) (fun h_ => by rw [B181_ 201 (by decide)]; exact own_ne hT tl183_ tl181_ ((ls_ne hT t_o).2.2.2.2.2.2.2.2.2.2.1) ((A183_ 0 (by decide)).symm.trans h_)) j_).trans (A183_ j_ hj_)
        have B180_ := B180n_
        have A180_ := A180n_
        have B182_ := B182n_
        have A182_ := A182n_
        have B183_ := B183n_
        have A183_ := A183n_
        have u22_ : T21_ 0 o = 9 := (hx21_ o (cw_lt hw0_.1 u14_ (fun _ _ _ => ⟨_, rfl⟩)) (ty_ne u14_ u15_ (by decide)) (fun h_ => absurd (u14_.symm.trans h_) (by decide)) 0).trans u14_
        have u23_ : T21_ 180 o = T 180 o := (hx21_ o (cw_lt hw0_.1 u14_ (fun _ _ _ => ⟨_, rfl⟩)) (ty_ne u14_ u15_ (by decide)) (fun h_ => absurd (u14_.symm.trans h_) (by decide)) 180).trans u17_
        have u24_ : T21_ 181 o = T 181 o := (hx21_ o (cw_lt hw0_.1 u14_ (fun _ _ _ => ⟨_, rfl⟩)) (ty_ne u14_ u15_ (by decide)) (fun h_ => absurd (u14_.symm.trans h_) (by decide)) 181).trans u18_
        have u25_ : T21_ 182 o = T 182 o := (hx21_ o (cw_lt hw0_.1 u14_ (fun _ _ _ => ⟨_, rfl⟩)) (ty_ne u14_ u15_ (by decide)) (fun h_ => absurd (u14_.symm.trans h_) (by decide)) 182).trans u19_
        have u26_ : T21_ 183 o = T 183 o := (hx21_ o (cw_lt hw0_.1 u14_ (fun _ _ _ => ⟨_, rfl⟩)) (ty_ne u14_ u15_ (by decide)) (fun h_ => absurd (u14_.symm.trans h_) (by decide)) 183).trans u20_
        refine j_pop E 40 rfl dX9_line_39 rfl ?_
        refine j_aload_n E 41 rfl dX9_line_40 rfl (lv_at hl 0 rfl) ?_
        refine g_181 E hK hw fl_X9_16 u22_ 44 rfl dX9_line_41 ?_
        refine kV_i E (c_Jx4a65c_size_8abf5 l D cy T21_ (upV (upV (upV (upV (upV (upV (upV (upV (upV (upV (upV (upV (upV (upV v_0 20 (upB (v_0 20) q5_ 0)) 21 (upB (v_0 21) q5_ 0)) 22 (upB (v_0 22) q5_ 0)) 23 (upB (v_0 23) q5_ 0)) 24 (upB (v_0 24) q5_ 0)) 25 (upB (v_0 25) q5_ 0)) 20 y20_13) 21 y21_13) 22 y22_13) 23 y23_13) 24 y24_13) 25 y25_13) 200 y200_21) 202 y202_21) (T21_ 181 o)  (wt_181 hT21_ u22_)  ) mt_Jx4a65c_size_8abf5 ml_X9_80 hK hw (cw_rc10 hK hw.1 (wt_181 hT21_ u22_)) hA ⟨Nat.le_of_ble_eq_true rfl, Nat.le_of_ble_eq_true rfl⟩ ⟨Nat.le_of_ble_eq_true rfl, Nat.le_of_ble_eq_true rfl⟩ (As := []) (rest := []) rfl rfl hl.1 (Nat.le_of_ble_eq_true rfl) 47 rfl dX9_line_44 (fun zz27_ v_27 H locs rr27_ hq27_ hw => ?_)
        obtain ⟨ev27_, hh27_⟩ := hq27_
        rw [ev27_] at hw; clear ev27_
        have hh27_ : zz27_ = (y202_21 ((T21_ 181 o))) ∧ 0 ≤ zz27_ := hh27_
        have hs2_ := hh27_.1
        rw [u24_, hy21_, upB_same] at hs2_
        refine j_iconst E 48 rfl dX9_line_47 ?_
        refine j_isub E 49 rfl dX9_line_48 ?_
        exact hret 49 (zz27_ - 1) T21_ _ _ _ ls _ _ hw hoT_ (rr (by omega)) (⟨u22_, ⟨u23_, u24_, u25_, u26_⟩, rfl, rfl, (by show y202_21 (T 180 o) = v_0 202 (T 180 o); rw [hy21_]; exact upB_ne ((ls_ne hT t_o).1)), (by show y202_21 (T 182 o) = v_0 202 (T 182 o); rw [hy21_]; exact upB_ne ((ls_ne hT t_o).2.2.2.2.2.2.2.1)), (by show y202_21 (T 183 o) = v_0 202 (T 183 o); rw [hy21_]; exact upB_ne ((ls_ne hT t_o).2.2.2.2.2.2.2.2.2.2.1)), (fun i_ => by rw [u23_, B180_ 201 (by decide), A180_ (1000 + i_) (by omega)]), rfl, rfl, rfl, rfl, rfl, Or.inr ⟨by omega, by omega, (by show y202_21 (T 181 o) = v_0 202 (T 181 o) + 1; rw [hy21_]; exact upB_same _ _ _)⟩⟩) (Nat.le_of_ble_eq_true rfl) (Nat.le_of_ble_eq_true rfl) dX9_line_49
      · refine j_iconst E 22 rfl dX9_line_21 ?_
        exact hret 22 ((-1)) T _ _ _ ls _ _ hw hoT_ (rr (by decide)) (⟨t_o, ⟨rfl, rfl, rfl, rfl⟩, rfl, rfl, rfl, rfl, rfl, (fun _ => rfl), rfl, rfl, rfl, rfl, rfl, Or.inl ⟨rfl, by omega, rfl⟩⟩) (Nat.le_of_ble_eq_true rfl) (Nat.le_of_ble_eq_true rfl) dX9_line_22
set_option maxHeartbeats 4000000 in
set_option maxRecDepth 100000 in
theorem n_X9_suit_n3 (l : Launch) (D : va_G) (cy : Nat → ClassId) (κ T : Nat → Nat → Nat) (v_0 : Nat → Nat → Int) (o : Nat) (v_p : Int) (v_q : Int) (v_l : Int) (v_h : Int) (v_w : Int) (v_d : Int) (sz : Nat) (hO : ∀ x, ow T x → κ 2 2 ≤ x) (t_o : T 0 o = 9) (r_v_p : inR v_p) (r_v_q : inR v_q) (r_v_l : inR v_l) (r_v_h : inR v_h) (r_v_w : inR v_w) (r_v_d : inR v_d) (hp0 : ∀ x, T 0 x = 26 → x = κ 2 0) : KA l D cy κ T yX9_suit cX9_suit 10 (some .int) 8 2 500 [.ref o, .int (J v_p), .int (J v_q), .int (J v_l), .int (J v_h), .int (J v_w), .int (J v_d)] v_0 sz (AI (fun (z_0 : Int) (T_2 : Nat → Nat → Nat) (v_2 : Nat → Nat → Int) => T_2 0 o = 9 ∧ (T_2 180 o = T 180 o ∧ T_2 181 o = T 181 o ∧ T_2 182 o = T 182 o ∧ T_2 183 o = T 183 o) ∧ v_2 186 o = v_0 186 o ∧ v_2 187 o = v_0 187 o ∧ v_2 202 (T 180 o) = v_0 202 (T 180 o) ∧ v_2 202 (T 181 o) = v_0 202 (T 181 o) ∧ v_2 202 (T 182 o) = v_0 202 (T 182 o) ∧ (∀ i_ : Nat, T_2 (1000 + i_) (T_2 201 (T_2 180 o)) = T (1000 + i_) (T 201 (T 180 o))) ∧ v_2 40 = v_0 40 ∧ v_2 41 = v_0 41 ∧ v_2 42 = v_0 42 ∧ v_2 43 = v_0 43 ∧ v_2 44 = v_0 44 ∧ (True))) := by
  refine KA.ofi (by decide) (Nat.le_of_ble_eq_true rfl) hO ?_
  intro p e s m below meth c ls ar QW A0 H locs E hK hZ hA hAc hsz hnm hw hlo_ hl hret
  have hl : lv_has ls 10 [(0, .ref o), (1, .int (J v_p)), (2, .int (J v_q)), (3, .int (J v_l)), (4, .int (J v_h)), (5, .int (J v_w)), (6, .int (J v_d))] := hl
  have hT : WT T := hw.1.2.1
  have hoT_ : OW T T s.heap.size := OW.rf T _
  have tl180_ : T 0 (T 180 o) = 10 := wt_180 hT t_o
  have tx180_ : T 0 (T 201 (T 180 o)) = 24 ∨ T 0 (T 201 (T 180 o)) = 26 := (wt10 hT tl180_).1
  have B180_ : ∀ j, j ≠ 197 → T j (T 180 o) = T j (T 180 o) := fun _ _ => rfl
  have A180_ : ∀ j, j ≠ 197 → T j (T 201 (T 180 o)) = T j (T 201 (T 180 o)) := fun _ _ => rfl
  have tl181_ : T 0 (T 181 o) = 10 := wt_181 hT t_o
  have tx181_ : T 0 (T 201 (T 181 o)) = 24 ∨ T 0 (T 201 (T 181 o)) = 26 := (wt10 hT tl181_).1
  have B181_ : ∀ j, j ≠ 197 → T j (T 181 o) = T j (T 181 o) := fun _ _ => rfl
  have A181_ : ∀ j, j ≠ 197 → T j (T 201 (T 181 o)) = T j (T 201 (T 181 o)) := fun _ _ => rfl
  have tl182_ : T 0 (T 182 o) = 10 := wt_182 hT t_o
  have tx182_ : T 0 (T 201 (T 182 o)) = 24 ∨ T 0 (T 201 (T 182 o)) = 26 := (wt10 hT tl182_).1
  have B182_ : ∀ j, j ≠ 197 → T j (T 182 o) = T j (T 182 o) := fun _ _ => rfl
  have A182_ : ∀ j, j ≠ 197 → T j (T 201 (T 182 o)) = T j (T 201 (T 182 o)) := fun _ _ => rfl
  have tl183_ : T 0 (T 183 o) = 10 := wt_183 hT t_o
  have tx183_ : T 0 (T 201 (T 183 o)) = 24 ∨ T 0 (T 201 (T 183 o)) = 26 := (wt10 hT tl183_).1
  have B183_ : ∀ j, j ≠ 197 → T j (T 183 o) = T j (T 183 o) := fun _ _ => rfl
  have A183_ : ∀ j, j ≠ 197 → T j (T 201 (T 183 o)) = T j (T 201 (T 183 o)) := fun _ _ => rfl
  refine j_aload_n E 1 rfl dX9_suit_0 rfl (lv_at hl 0 rfl) ?_
  refine j_iload_n E 2 rfl dX9_suit_1 rfl (lv_at hl 1 rfl) ?_
  refine kV_r E (c_X9_livingAt l D cy T (v_0) o v_p  t_o r_v_p ) mt_X9_livingAt ml_X9_93 hK hw (cw_rc9 hK hw.1 t_o) hA ⟨Nat.le_of_ble_eq_true rfl, Nat.le_of_ble_eq_true rfl⟩ ⟨Nat.le_of_ble_eq_true rfl, Nat.le_of_ble_eq_true rfl⟩ (As := [.int (J v_p)]) (rest := []) rfl rfl hl.1 (Nat.le_of_ble_eq_true rfl) 5 rfl dX9_suit_2 (fun oo1_ v_1 H locs hq1_ hw => ?_)
  obtain ⟨ev1_, hh1_⟩ := hq1_
  rw [ev1_] at hw; clear ev1_
  obtain ⟨tt1_, hh1_⟩ := hh1_
  cases oo1_ with
  | none =>
    refine j_astoreN E 7 rfl [(7, .null), (0, .ref o), (1, .int (J v_p)), (2, .int (J v_q)), (3, .int (J v_l)), (4, .int (J v_h)), (5, .int (J v_w)), (6, .int (J v_d))] dX9_suit_5 hl (by decide) rfl (fun ls hl => ?_)
    refine j_aload_n E 8 rfl dX9_suit_7 rfl (lv_at hl 1 rfl) ?_
    refine j_iload_n E 9 rfl dX9_suit_8 rfl (lv_at hl 3 rfl) ?_
    refine kV_r E (c_X9_livingAt l D cy T (v_0) o v_q  t_o r_v_q ) mt_X9_livingAt ml_X9_93 hK hw (cw_rc9 hK hw.1 t_o) hA ⟨Nat.le_of_ble_eq_true rfl, Nat.le_of_ble_eq_true rfl⟩ ⟨Nat.le_of_ble_eq_true rfl, Nat.le_of_ble_eq_true rfl⟩ (As := [.int (J v_q)]) (rest := []) rfl rfl hl.1 (Nat.le_of_ble_eq_true rfl) 12 rfl dX9_suit_9 (fun oo2_ v_2 H locs hq2_ hw => ?_)
    obtain ⟨ev2_, hh2_⟩ := hq2_
    rw [ev2_] at hw; clear ev2_
    obtain ⟨tt2_, hh2_⟩ := hh2_
    cases oo2_ with
    | none =>
      refine j_astoreN E 14 rfl [(8, .null), (7, .null), (0, .ref o), (1, .int (J v_p)), (2, .int (J v_q)), (3, .int (J v_l)), (4, .int (J v_h)), (5, .int (J v_w)), (6, .int (J v_d))] dX9_suit_12 hl (by decide) rfl (fun ls hl => ?_)
      refine j_aloadN E 16 rfl dX9_suit_14 (lv_at hl 1 rfl) ?_
      refine j_ifnullN E 49 dX9_suit_16 (by decide) ?_
      refine j_iconst E 50 rfl dX9_suit_49 ?_
      exact hret 50 ((-1)) T _ _ _ ls _ _ hw hoT_ (rr (by decide)) (⟨t_o, ⟨rfl, rfl, rfl, rfl⟩, rfl, rfl, rfl, rfl, rfl, (fun _ => rfl), rfl, rfl, rfl, rfl, rfl, trivial⟩) (Nat.le_of_ble_eq_true rfl) (Nat.le_of_ble_eq_true rfl) dX9_suit_50
    | some xx2_ =>
      have te2_ := tt2_ xx2_ rfl
      refine j_astore E 14 rfl [(8, .ref xx2_), (7, .null), (0, .ref o), (1, .int (J v_p)), (2, .int (J v_q)), (3, .int (J v_l)), (4, .int (J v_h)), (5, .int (J v_w)), (6, .int (J v_d))] dX9_suit_12 hl (by decide) rfl (fun ls hl => ?_)
      refine j_aloadN E 16 rfl dX9_suit_14 (lv_at hl 1 rfl) ?_
      refine j_ifnullN E 49 dX9_suit_16 (by decide) ?_
      refine j_iconst E 50 rfl dX9_suit_49 ?_
      exact hret 50 ((-1)) T _ _ _ ls _ _ hw hoT_ (rr (by decide)) (⟨t_o, ⟨rfl, rfl, rfl, rfl⟩, rfl, rfl, rfl, rfl, rfl, (fun _ => rfl), rfl, rfl, rfl, rfl, rfl, trivial⟩) (Nat.le_of_ble_eq_true rfl) (Nat.le_of_ble_eq_true rfl) dX9_suit_50
  | some xx1_ =>
    have te1_ := tt1_ xx1_ rfl
    refine j_astore E 7 rfl [(7, .ref xx1_), (0, .ref o), (1, .int (J v_p)), (2, .int (J v_q)), (3, .int (J v_l)), (4, .int (J v_h)), (5, .int (J v_w)), (6, .int (J v_d))] dX9_suit_5 hl (by decide) rfl (fun ls hl => ?_)
    refine j_aload_n E 8 rfl dX9_suit_7 rfl (lv_at hl 1 rfl) ?_
    refine j_iload_n E 9 rfl dX9_suit_8 rfl (lv_at hl 3 rfl) ?_
    refine kV_r E (c_X9_livingAt l D cy T (v_0) o v_q  t_o r_v_q ) mt_X9_livingAt ml_X9_93 hK hw (cw_rc9 hK hw.1 t_o) hA ⟨Nat.le_of_ble_eq_true rfl, Nat.le_of_ble_eq_true rfl⟩ ⟨Nat.le_of_ble_eq_true rfl, Nat.le_of_ble_eq_true rfl⟩ (As := [.int (J v_q)]) (rest := []) rfl rfl hl.1 (Nat.le_of_ble_eq_true rfl) 12 rfl dX9_suit_9 (fun oo3_ v_3 H locs hq3_ hw => ?_)
    obtain ⟨ev3_, hh3_⟩ := hq3_
    rw [ev3_] at hw; clear ev3_
    obtain ⟨tt3_, hh3_⟩ := hh3_
    cases oo3_ with
    | none =>
      refine j_astoreN E 14 rfl [(8, .null), (7, .ref xx1_), (0, .ref o), (1, .int (J v_p)), (2, .int (J v_q)), (3, .int (J v_l)), (4, .int (J v_h)), (5, .int (J v_w)), (6, .int (J v_d))] dX9_suit_12 hl (by decide) rfl (fun ls hl => ?_)
      refine j_aload E 16 rfl dX9_suit_14 (lv_at hl 1 rfl) ?_
      refine j_ifnullR E 19 rfl dX9_suit_16 ?_
      refine j_aloadN E 21 rfl dX9_suit_19 (lv_at hl 0 rfl) ?_
      refine j_ifnullN E 49 dX9_suit_21 (by decide) ?_
      refine j_iconst E 50 rfl dX9_suit_49 ?_
      exact hret 50 ((-1)) T _ _ _ ls _ _ hw hoT_ (rr (by decide)) (⟨t_o, ⟨rfl, rfl, rfl, rfl⟩, rfl, rfl, rfl, rfl, rfl, (fun _ => rfl), rfl, rfl, rfl, rfl, rfl, trivial⟩) (Nat.le_of_ble_eq_true rfl) (Nat.le_of_ble_eq_true rfl) dX9_suit_50
    | some xx3_ =>
      have te3_ := tt3_ xx3_ rfl
      refine j_astore E 14 rfl [(8, .ref xx3_), (7, .ref xx1_), (0, .ref o), (1, .int (J v_p)), (2, .int (J v_q)), (3, .int (J v_l)), (4, .int (J v_h)), (5, .int (J v_w)), (6, .int (J v_d))] dX9_suit_12 hl (by decide) rfl (fun ls hl => ?_)
      refine j_aload E 16 rfl dX9_suit_14 (lv_at hl 1 rfl) ?_
      refine j_ifnullR E 19 rfl dX9_suit_16 ?_
      refine j_aload E 21 rfl dX9_suit_19 (lv_at hl 0 rfl) ?_
      refine j_ifnullR E 24 rfl dX9_suit_21 ?_
      refine j_iload_n E 25 rfl dX9_suit_24 rfl (lv_at hl 3 rfl) ?_
      refine j_iload_n E 26 rfl dX9_suit_25 rfl (lv_at hl 4 rfl) ?_
      refine j_icmp_eq E 29 49 rfl r_v_p r_v_q dX9_suit_26 (by decide) (fun cc4_ => ?_) (fun cc4_ => ?_)
      · refine j_iconst E 50 rfl dX9_suit_49 ?_
        exact hret 50 ((-1)) T _ _ _ ls _ _ hw hoT_ (rr (by decide)) (⟨t_o, ⟨rfl, rfl, rfl, rfl⟩, rfl, rfl, rfl, rfl, rfl, (fun _ => rfl), rfl, rfl, rfl, rfl, rfl, trivial⟩) (Nat.le_of_ble_eq_true rfl) (Nat.le_of_ble_eq_true rfl) dX9_suit_50
      · refine j_aload_n E 30 rfl dX9_suit_29 rfl (lv_at hl 2 rfl) ?_
        refine j_iload_n E 31 rfl dX9_suit_30 rfl (lv_at hl 5 rfl) ?_
        refine kV_i E (c_X9_isLine l D cy T (v_0) o v_l  t_o r_v_l ) mt_X9_isLine ml_X9_172 hK hw (cw_rc9 hK hw.1 t_o) hA ⟨Nat.le_of_ble_eq_true rfl, Nat.le_of_ble_eq_true rfl⟩ ⟨Nat.le_of_ble_eq_true rfl, Nat.le_of_ble_eq_true rfl⟩ (As := [.int (J v_l)]) (rest := []) rfl rfl hl.1 (Nat.le_of_ble_eq_true rfl) 34 rfl dX9_suit_31 (fun zz5_ v_5 H locs rr5_ hq5_ hw => ?_)
        obtain ⟨ev5_, hh5_⟩ := hq5_
        rw [ev5_] at hw; clear ev5_
        have hh5_ : zz5_ ≠ 0 → 0 ≤ v_l ∧ v_l < ((v_0 202) (T 181 o)) := hh5_
        refine j_if_eq E 37 49 rfl rr5_ dX9_suit_34 (by decide) (fun cc6_ => ?_) (fun cc6_ => ?_)
        · refine j_iconst E 50 rfl dX9_suit_49 ?_
          exact hret 50 ((-1)) T _ _ _ ls _ _ hw hoT_ (rr (by decide)) (⟨t_o, ⟨rfl, rfl, rfl, rfl⟩, rfl, rfl, rfl, rfl, rfl, (fun _ => rfl), rfl, rfl, rfl, rfl, rfl, trivial⟩) (Nat.le_of_ble_eq_true rfl) (Nat.le_of_ble_eq_true rfl) dX9_suit_50
        · refine j_aload_n E 38 rfl dX9_suit_37 rfl (lv_at hl 2 rfl) ?_
          refine g_183 E hK hw fl_X9_22 t_o 41 rfl dX9_suit_38 ?_
          refine kV_i E (c_Jx4a65c_size_8abf5 l D cy T (v_0) (T 183 o)  (wt_183 hT t_o)  ) mt_Jx4a65c_size_8abf5 ml_X9_80 hK hw (cw_rc10 hK hw.1 (wt_183 hT t_o)) hA ⟨Nat.le_of_ble_eq_true rfl, Nat.le_of_ble_eq_true rfl⟩ ⟨Nat.le_of_ble_eq_true rfl, Nat.le_of_ble_eq_true rfl⟩ (As := []) (rest := []) rfl rfl hl.1 (Nat.le_of_ble_eq_true rfl) 44 rfl dX9_suit_41 (fun zz7_ v_7 H locs rr7_ hq7_ hw => ?_)
          obtain ⟨ev7_, hh7_⟩ := hq7_
          rw [ev7_] at hw; clear ev7_
          have hh7_ : zz7_ = ((v_0 202) ((T 183 o))) ∧ 0 ≤ zz7_ := hh7_
          refine j_bipush E 46 rfl dX9_suit_44 (by decide) ?_
          refine j_icmp_lt E 49 51 rfl rr7_ (rr (by decide)) dX9_suit_46 (by decide) (fun cc8_ => ?_) (fun cc8_ => ?_)
          · refine j_iload E 53 rfl dX9_suit_51 (lv_at hl 8 rfl) ?_
            refine j_if_lt E 56 85 rfl r_v_d dX9_suit_53 (by decide) (fun cc9_ => ?_) (fun cc9_ => ?_)
            · refine j_iconst E 86 rfl dX9_suit_85 ?_
              exact hret 86 ((-1)) T _ _ _ ls _ _ hw hoT_ (rr (by decide)) (⟨t_o, ⟨rfl, rfl, rfl, rfl⟩, rfl, rfl, rfl, rfl, rfl, (fun _ => rfl), rfl, rfl, rfl, rfl, rfl, trivial⟩) (Nat.le_of_ble_eq_true rfl) (Nat.le_of_ble_eq_true rfl) dX9_suit_86
            · refine j_iload E 58 rfl dX9_suit_56 (lv_at hl 8 rfl) ?_
              refine j_aload_n E 59 rfl dX9_suit_58 rfl (lv_at hl 2 rfl) ?_
              refine g_187 E hK hw fl_X9_37 t_o (v_0 187 o) rfl 62 rfl dX9_suit_59 (fun rr10_ => ?_)
              refine j_icmp_gt E 65 85 rfl r_v_d rr10_ dX9_suit_62 (by decide) (fun cc11_ => ?_) (fun cc11_ => ?_)
              · refine j_iconst E 86 rfl dX9_suit_85 ?_
                exact hret 86 ((-1)) T _ _ _ ls _ _ hw hoT_ (rr (by decide)) (⟨t_o, ⟨rfl, rfl, rfl, rfl⟩, rfl, rfl, rfl, rfl, rfl, (fun _ => rfl), rfl, rfl, rfl, rfl, rfl, trivial⟩) (Nat.le_of_ble_eq_true rfl) (Nat.le_of_ble_eq_true rfl) dX9_suit_86
              · refine j_iload E 67 rfl dX9_suit_65 (lv_at hl 8 rfl) ?_
                refine j_aload E 69 rfl dX9_suit_67 (lv_at hl 1 rfl) ?_
                refine g_42 E hK hw fl_X9_113 te1_ (v_0 42 xx1_) rfl 72 rfl dX9_suit_69 (fun rr12_ => ?_)
                refine j_icmp_lt E 75 85 rfl r_v_d rr12_ dX9_suit_72 (by decide) (fun cc13_ => ?_) (fun cc13_ => ?_)
                · refine j_iconst E 86 rfl dX9_suit_85 ?_
                  exact hret 86 ((-1)) T _ _ _ ls _ _ hw hoT_ (rr (by decide)) (⟨t_o, ⟨rfl, rfl, rfl, rfl⟩, rfl, rfl, rfl, rfl, rfl, (fun _ => rfl), rfl, rfl, rfl, rfl, rfl, trivial⟩) (Nat.le_of_ble_eq_true rfl) (Nat.le_of_ble_eq_true rfl) dX9_suit_86
                · refine j_iload E 77 rfl dX9_suit_75 (lv_at hl 8 rfl) ?_
                  refine j_aload E 79 rfl dX9_suit_77 (lv_at hl 0 rfl) ?_
                  refine g_42 E hK hw fl_X9_113 te3_ (v_0 42 xx3_) rfl 82 rfl dX9_suit_79 (fun rr14_ => ?_)
                  refine j_icmp_ge E 85 87 rfl r_v_d rr14_ dX9_suit_82 (by decide) (fun cc15_ => ?_) (fun cc15_ => ?_)
                  · refine j_aload E 89 rfl dX9_suit_87 (lv_at hl 1 rfl) ?_
                    refine g_41 E hK hw fl_X9_110 te1_ (v_0 41 xx1_) rfl 92 rfl dX9_suit_89 (fun rr16_ => ?_)
                    refine j_aload E 94 rfl dX9_suit_92 (lv_at hl 0 rfl) ?_
                    refine g_41 E hK hw fl_X9_110 te3_ (v_0 41 xx3_) rfl 97 rfl dX9_suit_94 (fun rr17_ => ?_)
                    refine j_icmp_ne E 100 104 rfl rr16_ rr17_ dX9_suit_97 (by decide) (fun cc18_ => ?_) (fun cc18_ => ?_)
                    · refine j_iconst E 105 rfl dX9_suit_104 ?_
                      refine j_istore E 107 rfl [(9, .int (J 0)), (8, .ref xx3_), (7, .ref xx1_), (0, .ref o), (1, .int (J v_p)), (2, .int (J v_q)), (3, .int (J v_l)), (4, .int (J v_h)), (5, .int (J v_w)), (6, .int (J v_d))] dX9_suit_105 hl (by decide) rfl (fun ls hl => ?_)
                      refine j_aload_n E 108 rfl dX9_suit_107 rfl (lv_at hl 3 rfl) ?_
                      refine g_193 E hK hw fl_X9_62 t_o 111 rfl dX9_suit_108 ?_
                      refine j_iload E 113 rfl dX9_suit_111 (lv_at hl 7 rfl) ?_
                      refine j_iload E 115 rfl dX9_suit_113 (lv_at hl 8 rfl) ?_
                      refine j_aload_n E 116 rfl dX9_suit_115 rfl (lv_at hl 3 rfl) ?_
                      refine g_187 E hK hw fl_X9_37 t_o (v_0 187 o) rfl 119 rfl dX9_suit_116 (fun _ => ?_)
                      refine j_iload E 121 rfl dX9_suit_119 (lv_at hl 9 rfl) ?_
                      refine j_isub E 122 rfl dX9_suit_121 ?_
                      refine j_norm (fun zz19_ rr19_ ee19_ => ?_)
                      refine j_iload E 124 rfl dX9_suit_122 (lv_at hl 0 rfl) ?_
                      refine j_iload E 126 rfl dX9_suit_124 (lv_at hl 9 rfl) ?_
                      refine j_aload E 128 rfl dX9_suit_126 (lv_at hl 1 rfl) ?_
                      refine g_42 E hK hw fl_X9_113 te3_ (v_0 42 xx3_) rfl 131 rfl dX9_suit_128 (fun _ => ?_)
                      refine j_isub E 132 rfl dX9_suit_131 ?_
                      refine j_norm (fun zz20_ rr20_ ee20_ => ?_)
                      refine kV_i E (c_X4_takeFacts l D cy T (v_0) (T 193 o) v_h v_w zz19_ 0 zz20_  (wt_193 hT t_o) r_v_h r_v_w rr19_ (rr (by decide)) rr20_ ) mt_X4_takeFacts ml_X9_292 hK hw (cw_rc5 hK hw.1 (wt_193 hT t_o)) hA ⟨Nat.le_of_ble_eq_true rfl, Nat.le_of_ble_eq_true rfl⟩ ⟨Nat.le_of_ble_eq_true rfl, Nat.le_of_ble_eq_true rfl⟩ (As := [.int (J v_h), .int (J v_w), .int (J zz19_), .int (J 0), .int (J zz20_)]) (rest := []) rfl rfl hl.1 (Nat.le_of_ble_eq_true rfl) 135 rfl dX9_suit_132 (fun zz21_ v_21 H locs rr21_ hq21_ hw => ?_)
                      obtain ⟨ev21_, hh21_⟩ := hq21_
                      rw [ev21_] at hw; clear ev21_
                      refine j_if_ne E 138 140 rfl rr21_ dX9_suit_135 (by decide) (fun cc22_ => ?_) (fun cc22_ => ?_)
                      · refine j_aload_n E 141 rfl dX9_suit_140 rfl (lv_at hl 3 rfl) ?_
                        refine g_183 E hK hw fl_X9_22 t_o 144 rfl dX9_suit_141 ?_
                        have hw0_ := hw
                        refine n_obj7 E hK hw hA cl_X9_131 (Nat.le_of_ble_eq_true rfl) (Nat.le_of_ble_eq_true rfl) 147 rfl dX9_suit_144 (fun q23_ T23_ H hge23_ hx23_ ho23_ tq23_ hw => ?_)
                        have fq23_ : s.heap.size ≤ q23_ := Nat.le_trans hw0_.2.2.1 hge23_
                        have hw : WK D cy T23_ (upV (upV (upV (upV (upV (upV (upV v_0 140 (upB (v_0 140) q23_ 0)) 141 (upB (v_0 141) q23_ 0)) 142 (upB (v_0 142) q23_ 0)) 143 (upB (v_0 143) q23_ 0)) 144 (upB (v_0 144) q23_ 0)) 145 (upB (v_0 145) q23_ 0)) 146 (upB (v_0 146) q23_ 0)) A0 s.heap H locs := hw
                        have hT23_ : WT T23_ := hw.1.2.1
                        have hO23_ : ∀ x, ow T23_ x → κ 2 2 ≤ x := fun x h => hAc x (hw.2.1 x h)
                        have hoT_ : OW T T23_ s.heap.size := OW.tr hw0_.2.2.1 hoT_ ho23_
                        have B180n_ : ∀ j_, j_ ≠ 197 → T23_ j_ (T 180 o) = T j_ (T 180 o) := fun j_ hj_ => (hx23_ (T 180 o) (Nat.ne_of_lt (Nat.lt_of_lt_of_le (cw_lt hw0_.1 ((B180_ 0 (by decide)).trans tl180_) (fun _ _ _ => ⟨_, rfl⟩)) hge23_)) j_).trans (B180_ j_ hj_)
                        have A180n_ : ∀ j_, j_ ≠ 197 → T23_ j_ (T 201 (T 180 o)) = T j_ (T 201 (T 180 o)) := fun j_ hj_ => (hx23_ (T 201 (T 180 o)) (Nat.ne_of_lt (Nat.lt_of_lt_of_le (cw_ltq hw0_.1 (by rw [A180_ 0 (by decide)]; exact tx180_)) hge23_)) j_).trans (A180_ j_ hj_)
                        have B181n_ : ∀ j_, j_ ≠ 197 → T23_ j_ (T 181 o) = T j_ (T 181 o) := fun j_ hj_ => (hx23_ (T 181 o) (Nat.ne_of_lt (Nat.lt_of_lt_of_le (cw_lt hw0_.1 ((B181_ 0 (by decide)).trans tl181_) (fun _ _ _ => ⟨_, rfl⟩)) hge23_)) j_).trans (B181_ j_ hj_)
                        have A181n_ : ∀ j_, j_ ≠ 197 → T23_ j_ (T 201 (T 181 o)) = T j_ (T 201 (T 181 o)) := fun j_ hj_ => (hx23_ (T 201 (T 181 o)) (Nat.ne_of_lt (Nat.lt_of_lt_of_le (cw_ltq hw0_.1 (by rw [A181_ 0 (by decide)]; exact tx181_)) hge23_)) j_).trans (A181_ j_ hj_)
                        have B182n_ : ∀ j_, j_ ≠ 197 → T23_ j_ (T 182 o) = T j_ (T 182 o) := fun j_ hj_ => (hx23_ (T 182 o) (Nat.ne_of_lt (Nat.lt_of_lt_of_le (cw_lt hw0_.1 ((B182_ 0 (by decide)).trans tl182_) (fun _ _ _ => ⟨_, rfl⟩)) hge23_)) j_).trans (B182_ j_ hj_)
                        have A182n_ : ∀ j_, j_ ≠ 197 → T23_ j_ (T 201 (T 182 o)) = T j_ (T 201 (T 182 o)) := fun j_ hj_ => (hx23_ (T 201 (T 182 o)) (Nat.ne_of_lt (Nat.lt_of_lt_of_le (cw_ltq hw0_.1 (by rw [A182_ 0 (by decide)]; exact tx182_)) hge23_)) j_).trans (A182_ j_ hj_)
                        have B183n_ : ∀ j_, j_ ≠ 197 → T23_ j_ (T 183 o) = T j_ (T 183 o) := fun j_ hj_ => (hx23_ (T 183 o) (Nat.ne_of_lt (Nat.lt_of_lt_of_le (cw_lt hw0_.1 ((B183_ 0 (by decide)).trans tl183_) (fun _ _ _ => ⟨_, rfl⟩)) hge23_)) j_).trans (B183_ j_ hj_)
                        have A183n_ : ∀ j_, j_ ≠ 197 → T23_ j_ (T 201 (T 183 o)) = T j_ (T 201 (T 183 o)) := fun j_ hj_ => (hx23_ (T 201 (T 183 o)) (Nat.ne_of_lt (Nat.lt_of_lt_of_le (cw_ltq hw0_.1 (by rw [A183_ 0 (by decide)]; exact tx183_)) hge23_)) j_).trans (A183_ j_ hj_)
                        have B180_ := B180n_
                        have A180_ := A180n_
                        have B181_ := B181n_
                        have A181_ := A181n_
                        have B182_ := B182n_
                        have A182_ := A182n_
                        have B183_ := B183n_
                        have A183_ := A183n_
                        have u24_ : T23_ 0 o = 9 := (hx23_ o (Nat.ne_of_lt (Nat.lt_of_lt_of_le (cw_lt hw0_.1 t_o (fun _ _ _ => ⟨_, rfl⟩)) hge23_)) 0).trans t_o
                        have u25_ : T23_ 0 xx1_ = 2 := (hx23_ xx1_ (Nat.ne_of_lt (Nat.lt_of_lt_of_le (cw_lt hw0_.1 te1_ (fun _ _ _ => ⟨_, rfl⟩)) hge23_)) 0).trans te1_
                        have u26_ : T23_ 0 xx3_ = 2 := (hx23_ xx3_ (Nat.ne_of_lt (Nat.lt_of_lt_of_le (cw_lt hw0_.1 te3_ (fun _ _ _ => ⟨_, rfl⟩)) hge23_)) 0).trans te3_
                        have u27_ : T23_ 0 (T 183 o) = 10 := (hx23_ (T 183 o) (Nat.ne_of_lt (Nat.lt_of_lt_of_le (cw_lt hw0_.1 (wt_183 hT t_o) (fun _ _ _ => ⟨_, rfl⟩)) hge23_)) 0).trans (wt_183 hT t_o)
                        have u28_ : T23_ 2 (T 183 o) = 7 := (hx23_ (T 183 o) (Nat.ne_of_lt (Nat.lt_of_lt_of_le (cw_lt hw0_.1 (wt_183 hT t_o) (fun _ _ _ => ⟨_, rfl⟩)) hge23_)) 2).trans (we_183 hT t_o)
                        have u29_ : T23_ 180 o = T 180 o := (hx23_ o (Nat.ne_of_lt (Nat.lt_of_lt_of_le (cw_lt hw0_.1 t_o (fun _ _ _ => ⟨_, rfl⟩)) hge23_)) 180).trans rfl
                        have u30_ : T23_ 181 o = T 181 o := (hx23_ o (Nat.ne_of_lt (Nat.lt_of_lt_of_le (cw_lt hw0_.1 t_o (fun _ _ _ => ⟨_, rfl⟩)) hge23_)) 181).trans rfl
                        have u31_ : T23_ 182 o = T 182 o := (hx23_ o (Nat.ne_of_lt (Nat.lt_of_lt_of_le (cw_lt hw0_.1 t_o (fun _ _ _ => ⟨_, rfl⟩)) hge23_)) 182).trans rfl
                        have u32_ : T23_ 183 o = T 183 o := (hx23_ o (Nat.ne_of_lt (Nat.lt_of_lt_of_le (cw_lt hw0_.1 t_o (fun _ _ _ => ⟨_, rfl⟩)) hge23_)) 183).trans rfl
                        refine j_dup E 148 rfl dX9_suit_147 rfl ?_
                        refine j_iload_n E 149 rfl dX9_suit_148 rfl (lv_at hl 4 rfl) ?_
                        refine j_iload_n E 150 rfl dX9_suit_149 rfl (lv_at hl 5 rfl) ?_
                        refine j_iload_n E 151 rfl dX9_suit_150 rfl (lv_at hl 6 rfl) ?_
                        refine j_aload_n E 152 rfl dX9_suit_151 rfl (lv_at hl 3 rfl) ?_
                        refine j_iload_n E 153 rfl dX9_suit_152 rfl (lv_at hl 6 rfl) ?_
                        refine j_aload_n E 154 rfl dX9_suit_153 rfl (lv_at hl 3 rfl) ?_
                        refine g_187 E hK hw fl_X9_37 u24_ (v_0 187 o) rfl 157 rfl dX9_suit_154 (fun _ => ?_)
                        refine j_iconst E 158 rfl dX9_suit_157 ?_
                        refine j_isub E 159 rfl dX9_suit_158 ?_
                        refine j_norm (fun zz33_ rr33_ ee33_ => ?_)
                        refine kV_i E (c_X9_reckonByLaw l D cy T23_ (upV (upV (upV (upV (upV (upV (upV v_0 140 (upB (v_0 140) q23_ 0)) 141 (upB (v_0 141) q23_ 0)) 142 (upB (v_0 142) q23_ 0)) 143 (upB (v_0 143) q23_ 0)) 144 (upB (v_0 144) q23_ 0)) 145 (upB (v_0 145) q23_ 0)) 146 (upB (v_0 146) q23_ 0)) o v_l zz33_  u24_ r_v_l rr33_ ) mt_X9_reckonByLaw ml_X9_296 hK hw (cw_rc9 hK hw.1 u24_) hA ⟨Nat.le_of_ble_eq_true rfl, Nat.le_of_ble_eq_true rfl⟩ ⟨Nat.le_of_ble_eq_true rfl, Nat.le_of_ble_eq_true rfl⟩ (As := [.int (J v_l), .int (J zz33_)]) (rest := [.int (J v_l), .int (J v_q), .int (J v_p), .ref q23_, .ref q23_, .ref (T 183 o)]) rfl rfl hl.1 (Nat.le_of_ble_eq_true rfl) 162 rfl dX9_suit_159 (fun zz34_ v_34 H locs rr34_ hq34_ hw => ?_)
                        obtain ⟨y103_34, ev34_, hh34_⟩ := hq34_
                        rw [ev34_] at hw; clear ev34_
                        refine j_aload_n E 163 rfl dX9_suit_162 rfl (lv_at hl 3 rfl) ?_
                        refine g_187 E hK hw fl_X9_37 u24_ (v_0 187 o) rfl 166 rfl dX9_suit_163 (fun _ => ?_)
                        refine j_aload_n E 167 rfl dX9_suit_166 rfl (lv_at hl 3 rfl) ?_
                        refine j_iload_n E 168 rfl dX9_suit_167 rfl (lv_at hl 4 rfl) ?_
                        refine j_aload E 170 rfl dX9_suit_168 (lv_at hl 2 rfl) ?_
                        refine g_41 E hK hw fl_X9_110 u25_ (v_0 41 xx1_) rfl 173 rfl dX9_suit_170 (fun _ => ?_)
                        refine kV_i E (c_X9_livingKinOf l D cy T23_ (upV (upV (upV (upV (upV (upV (upV (upV v_0 140 (upB (v_0 140) q23_ 0)) 141 (upB (v_0 141) q23_ 0)) 142 (upB (v_0 142) q23_ 0)) 143 (upB (v_0 143) q23_ 0)) 144 (upB (v_0 144) q23_ 0)) 145 (upB (v_0 145) q23_ 0)) 146 (upB (v_0 146) q23_ 0)) 103 y103_34) o v_p (v_0 41 xx1_)  u24_ r_v_p rr16_ ) mt_X9_livingKinOf ml_X9_313 hK hw (cw_rc9 hK hw.1 u24_) hA ⟨Nat.le_of_ble_eq_true rfl, Nat.le_of_ble_eq_true rfl⟩ ⟨Nat.le_of_ble_eq_true rfl, Nat.le_of_ble_eq_true rfl⟩ (As := [.int (J v_p), .int (J (v_0 41 xx1_))]) (rest := [.int (J (v_0 187 o)), .int (J zz34_), .int (J v_l), .int (J v_q), .int (J v_p), .ref q23_, .ref q23_, .ref (T 183 o)]) rfl rfl hl.1 (Nat.le_of_ble_eq_true rfl) 176 rfl dX9_suit_173 (fun zz35_ v_35 H locs rr35_ hq35_ hw => ?_)
                        obtain ⟨ev35_, hh35_⟩ := hq35_
                        rw [ev35_] at hw; clear ev35_
                        have hw0_ := hw
                        refine aI_v E (n_X6_init l D cy κ T23_ (upV (upV (upV (upV (upV (upV (upV (upV v_0 140 (upB (v_0 140) q23_ 0)) 141 (upB (v_0 141) q23_ 0)) 142 (upB (v_0 142) q23_ 0)) 143 (upB (v_0 143) q23_ 0)) 144 (upB (v_0 144) q23_ 0)) 145 (upB (v_0 145) q23_ 0)) 146 (upB (v_0 146) q23_ 0)) 103 y103_34) q23_ v_p v_q v_l zz34_ (v_0 187 o) zz35_ H.size  hO23_ tq23_ r_v_p r_v_q r_v_l rr34_ rr10_ rr35_ ) mi_X6_init ml_X9_316 hK hZ hAc hw hA ⟨(Nat.le_of_ble_eq_true rfl), (Nat.le_of_ble_eq_true rfl)⟩ ⟨(Nat.le_of_ble_eq_true rfl), (Nat.le_of_ble_eq_true rfl)⟩ (As := [.int (J v_p), .int (J v_q), .int (J v_l), .int (J zz34_), .int (J (v_0 187 o)), .int (J zz35_)]) (rest := [.ref q23_, .ref (T 183 o)]) rfl rfl hl.1 (Nat.le_of_ble_eq_true rfl) 179 rfl dX9_suit_176 (fun T36_ v_36 H locs hge36_ ho36_ hq36_ hw => ?_)
                        obtain ⟨y140_36, y141_36, y142_36, y143_36, y144_36, y145_36, y146_36, ev36_, hh36_⟩ := hq36_
                        rw [ev36_] at hw; clear ev36_
                        obtain ⟨hx36_, tq36_⟩ := hh36_
                        have hT36_ : WT T36_ := hw.1.2.1
                        have hO36_ : ∀ x, ow T36_ x → κ 2 2 ≤ x := fun x h => hAc x (hw.2.1 x h)
                        have hoT_ : OW T T36_ s.heap.size := OW.tr hw0_.2.2.1 hoT_ ho36_
                        have B180n_ : ∀ j_, j_ ≠ 197 → T36_ j_ (T 180 o) = T j_ (T 180 o) := fun j_ hj_ => (hx36_ (T 180 o) (cw_lt hw0_.1 ((B180_ 0 (by decide)).trans tl180_) (fun _ _ _ => ⟨_, rfl⟩)) (ty_ne ((B180_ 0 (by decide)).trans tl180_) tq23_ (by decide)) j_).trans (B180_ j_ hj_)
                        have A180n_ : ∀ j_, j_ ≠ 197 → T36_ j_ (T 201 (T 180 o)) = T j_ (T 201 (T 180 o)) := fun j_ hj_ => (hx36_ (T 201 (T 180 o)) (cw_ltq hw0_.1 (by rw [A180_ 0 (by decide)]; exact tx180_)) (ty_neq (by rw [A180_ 0 (by decide)]; exact tx180_) tq23_ (by decide) (by decide)) j_).trans (A180_ j_ hj_)
                        have B181n_ : ∀ j_, j_ ≠ 197 → T36_ j_ (T 181 o) = T j_ (T 181 o) := fun j_ hj_ => (hx36_ (T 181 o) (cw_lt hw0_.1 ((B181_ 0 (by decide)).trans tl181_) (fun _ _ _ => ⟨_, rfl⟩)) (ty_ne ((B181_ 0 (by decide)).trans tl181_) tq23_ (by decide)) j_).trans (B181_ j_ hj_)
                        have A181n_ : ∀ j_, j_ ≠ 197 → T36_ j_ (T 201 (T 181 o)) = T j_ (T 201 (T 181 o)) := fun j_ hj_ => (hx36_ (T 201 (T 181 o)) (cw_ltq hw0_.1 (by rw [A181_ 0 (by decide)]; exact tx181_)) (ty_neq (by rw [A181_ 0 (by decide)]; exact tx181_) tq23_ (by decide) (by decide)) j_).trans (A181_ j_ hj_)
                        have B182n_ : ∀ j_, j_ ≠ 197 → T36_ j_ (T 182 o) = T j_ (T 182 o) := fun j_ hj_ => (hx36_ (T 182 o) (cw_lt hw0_.1 ((B182_ 0 (by decide)).trans tl182_) (fun _ _ _ => ⟨_, rfl⟩)) (ty_ne ((B182_ 0 (by decide)).trans tl182_) tq23_ (by decide)) j_).trans (B182_ j_ hj_)
                        have A182n_ : ∀ j_, j_ ≠ 197 → T36_ j_ (T 201 (T 182 o)) = T j_ (T 201 (T 182 o)) := fun j_ hj_ => (hx36_ (T 201 (T 182 o)) (cw_ltq hw0_.1 (by rw [A182_ 0 (by decide)]; exact tx182_)) (ty_neq (by rw [A182_ 0 (by decide)]; exact tx182_) tq23_ (by decide) (by decide)) j_).trans (A182_ j_ hj_)
                        have B183n_ : ∀ j_, j_ ≠ 197 → T36_ j_ (T 183 o) = T j_ (T 183 o) := fun j_ hj_ => (hx36_ (T 183 o) (cw_lt hw0_.1 ((B183_ 0 (by decide)).trans tl183_) (fun _ _ _ => ⟨_, rfl⟩)) (ty_ne ((B183_ 0 (by decide)).trans tl183_) tq23_ (by decide)) j_).trans (B183_ j_ hj_)
                        have A183n_ : ∀ j_, j_ ≠ 197 → T36_ j_ (T 201 (T 183 o)) = T j_ (T 201 (T 183 o)) := fun j_ hj_ => (hx36_ (T 201 (T 183 o)) (cw_ltq hw0_.1 (by rw [A183_ 0 (by decide)]; exact tx183_)) (ty_neq (by rw [A183_ 0 (by decide)]; exact tx183_) tq23_ (by decide) (by decide)) j_).trans (A183_ j_ hj_)
                        have B180_ := B180n_
                        have A180_ := A180n_
                        have B181_ := B181n_
                        have A181_ := A181n_
                        have B182_ := B182n_
                        have A182_ := A182n_
                        have B183_ := B183n_
                        have A183_ := A183n_
                        have u37_ : T36_ 0 o = 9 := (hx36_ o (cw_lt hw0_.1 u24_ (fun _ _ _ => ⟨_, rfl⟩)) (ty_ne u24_ tq23_ (by decide)) 0).trans u24_
                        have u38_ : T36_ 0 xx1_ = 2 := (hx36_ xx1_ (cw_lt hw0_.1 u25_ (fun _ _ _ => ⟨_, rfl⟩)) (ty_ne u25_ tq23_ (by decide)) 0).trans u25_
                        have u39_ : T36_ 0 xx3_ = 2 := (hx36_ xx3_ (cw_lt hw0_.1 u26_ (fun _ _ _ => ⟨_, rfl⟩)) (ty_ne u26_ tq23_ (by decide)) 0).trans u26_
                        have u40_ : T36_ 0 (T 183 o) = 10 := (hx36_ (T 183 o) (cw_lt hw0_.1 u27_ (fun _ _ _ => ⟨_, rfl⟩)) (ty_ne u27_ tq23_ (by decide)) 0).trans u27_
                        have u41_ : T36_ 2 (T 183 o) = 7 := (hx36_ (T 183 o) (cw_lt hw0_.1 u27_ (fun _ _ _ => ⟨_, rfl⟩)) (ty_ne u27_ tq23_ (by decide)) 2).trans u28_
                        have u42_ : T36_ 180 o = T 180 o := (hx36_ o (cw_lt hw0_.1 u24_ (fun _ _ _ => ⟨_, rfl⟩)) (ty_ne u24_ tq23_ (by decide)) 180).trans u29_
                        have u43_ : T36_ 181 o = T 181 o := (hx36_ o (cw_lt hw0_.1 u24_ (fun _ _ _ => ⟨_, rfl⟩)) (ty_ne u24_ tq23_ (by decide)) 181).trans u30_
                        have u44_ : T36_ 182 o = T 182 o := (hx36_ o (cw_lt hw0_.1 u24_ (fun _ _ _ => ⟨_, rfl⟩)) (ty_ne u24_ tq23_ (by decide)) 182).trans u31_
                        have u45_ : T36_ 183 o = T 183 o := (hx36_ o (cw_lt hw0_.1 u24_ (fun _ _ _ => ⟨_, rfl⟩)) (ty_ne u24_ tq23_ (by decide)) 183).trans u32_
                        have hw0_ := hw
                        refine aV_i E (n_Jx4a65c_add_9ea2d_n2 l D cy κ T36_ (upV (upV (upV (upV (upV (upV (upV (upV (upV (upV (upV (upV (upV (upV (upV v_0 140 (upB (v_0 140) q23_ 0)) 141 (upB (v_0 141) q23_ 0)) 142 (upB (v_0 142) q23_ 0)) 143 (upB (v_0 143) q23_ 0)) 144 (upB (v_0 144) q23_ 0)) 145 (upB (v_0 145) q23_ 0)) 146 (upB (v_0 146) q23_ 0)) 103 y103_34) 140 y140_36) 141 y141_36) 142 y142_36) 143 y143_36) 144 y144_36) 145 y145_36) 146 y146_36) (T 183 o) q23_ H.size  hO36_ u40_  (tq36_.trans u41_.symm) (fun x_ h_ => hp0 x_ ((hoT_ x_).2 h_)) (show ((v_0 202) ((T 183 o))) ≤ 200 from by omega)) mt_Jx4a65c_add_9ea2d ml_X9_89 hK hZ hAc hw (cw_rc10 hK hw.1 u40_) hA ⟨(Nat.le_of_ble_eq_true rfl), (Nat.le_of_ble_eq_true rfl)⟩ ⟨(Nat.le_of_ble_eq_true rfl), (Nat.le_of_ble_eq_true rfl)⟩ (As := [.ref q23_]) (rest := []) rfl rfl hl.1 (Nat.le_of_ble_eq_true rfl) 182 rfl dX9_suit_179 (fun zz46_ T46_ v_46 H locs rr46_ hge46_ ho46_ hq46_ hw => ?_)
                        obtain ⟨y200_46, y202_46, ev46_, hh46_⟩ := hq46_
                        rw [ev46_] at hw; clear ev46_
                        obtain ⟨hy46_, hx46_, hz46_, hl46_, hel46_, hnw46_⟩ := hh46_
                        have hy46_ : y202_46 = upB (v_0 202) (T 183 o) ((v_0 202) (T 183 o) + 1) := hy46_
                        have hT46_ : WT T46_ := hw.1.2.1
                        have hO46_ : ∀ x, ow T46_ x → κ 2 2 ≤ x := fun x h => hAc x (hw.2.1 x h)
                        have hoT_ : OW T T46_ s.heap.size := OW.tr hw0_.2.2.1 hoT_ ho46_
                        have B180n_ : ∀ j_, j_ ≠ 197 → T46_ j_ (T 180 o) = T j_ (T 180 o) := fun j_ hj_ => (hx46_ (T 180 o) (cw_lt hw0_.1 ((B180_ 0 (by decide)).trans tl180_) (fun _ _ _ => ⟨_, rfl⟩)) ((ls_ne hT t_o).2.2.1) (fun h_ => absurd (((B180_ 0 (by decide)).trans tl180_).symm.trans h_) (by decide)) j_).trans (B180_ j_ hj_)
                        have A180n_ : ∀ j_, j_ ≠ 197 → T46_ j_ (T 201 (T 180 o)) = T j_ (T 201 (T 180 o)) := fun j_ hj_ => (hx46_ (T 201 (T 180 o)) (cw_ltq hw0_.1 (by rw [A180_ 0 (by decide)]; exact tx180_)) (ty_neq (by rw [A180_ 0 (by decide)]; exact tx180_) u40_ (by decide) (by decide)) (fun h_ => by rw [B183_ 201 (by decide)]; exact own_ne hT tl180_ tl183_ ((ls_ne hT t_o).2.2.1) ((A180_ 0 (by decide)).symm.trans h_)) j_).trans (A180_ j_ hj_)
                        have B181n_ : ∀ j_, j_ ≠ 197 → T46_ j_ (T 181 o) = T j_ (T 181 o) := fun j_ hj_ => (hx46_ (T 181 o) (cw_lt hw0_.1 ((B181_ 0 (by decide)).trans tl181_) (fun _ _ _ => ⟨_, rfl⟩)) ((ls_ne hT t_o).2.2.2.2.2.1) (fun h_ => absurd (((B181_ 0 (by decide)).trans tl181_).symm.trans h_) (by decide)) j_).trans (B181_ j_ hj_)
                        have A181n_ : ∀ j_, j_ ≠ 197 → T46_ j_ (T 201 (T 181 o)) = T j_ (T 201 (T 181 o)) := fun j_ hj_ => (hx46_ (T 201 (T 181 o)) (cw_ltq hw0_.1 (by rw [A181_ 0 (by decide)]; exact tx181_)) (ty_neq (by rw [A181_ 0 (by decide)]; exact tx181_) u40_ (by decide) (by decide)) (fun h_ => by rw [B183_ 201 (by decide)]; exact own_ne hT tl181_ tl183_ ((ls_ne hT t_o).2.2.2.2.2.1) ((A181_ 0 (by decide)).symm.trans h_)) j_).trans (A181_ j_ hj_)
                        have B182n_ : ∀ j_, j_ ≠ 197 → T46_ j_ (T 182 o) = T j_ (T 182 o) := fun j_ hj_ => (hx46_ (T 182 o) (cw_lt hw0_.1 ((B182_ 0 (by decide)).trans tl182_) (fun _ _ _ => ⟨_, rfl⟩)) ((ls_ne hT t_o).2.2.2.2.2.2.2.2.1) (fun h_ => absurd (((B182_ 0 (by decide)).trans tl182_).symm.trans h_) (by decide)) j_).trans (B182_ j_ hj_)
                        have A182n_ : ∀ j_, j_ ≠ 197 → T46_ j_ (T 201 (T 182 o)) = T j_ (T 201 (T 182 o)) := fun j_ hj_ => (hx46_ (T 201 (T 182 o)) (cw_ltq hw0_.1 (by rw [A182_ 0 (by decide)]; exact tx182_)) (ty_neq (by rw [A182_ 0 (by decide)]; exact tx182_) u40_ (by decide) (by decide)) (fun h_ => by rw [B183_ 201 (by decide)]; exact own_ne hT tl182_ tl183_ ((ls_ne hT t_o).2.2.2.2.2.2.2.2.1) ((A182_ 0 (by decide)).symm.trans h_)) j_).trans (A182_ j_ hj_)
                        have B180_ := B180n_
                        have A180_ := A180n_
                        have B181_ := B181n_
                        have A181_ := A181n_
                        have B182_ := B182n_
                        have A182_ := A182n_
                        have u47_ : T46_ 0 o = 9 := (hx46_ o (cw_lt hw0_.1 u37_ (fun _ _ _ => ⟨_, rfl⟩)) (ty_ne u37_ u40_ (by decide)) (fun h_ => absurd (u37_.symm.trans h_) (by decide)) 0).trans u37_
                        have u48_ : T46_ 0 xx1_ = 2 := (hx46_ xx1_ (cw_lt hw0_.1 u38_ (fun _ _ _ => ⟨_, rfl⟩)) (ty_ne u38_ u40_ (by decide)) (fun h_ => absurd (u38_.symm.trans h_) (by decide)) 0).trans u38_
                        have u49_ : T46_ 0 xx3_ = 2 := (hx46_ xx3_ (cw_lt hw0_.1 u39_ (fun _ _ _ => ⟨_, rfl⟩)) (ty_ne u39_ u40_ (by decide)) (fun h_ => absurd (u39_.symm.trans h_) (by decide)) 0).trans u39_
                        have u50_ : T46_ 180 o = T 180 o := (hx46_ o (cw_lt hw0_.1 u37_ (fun _ _ _ => ⟨_, rfl⟩)) (ty_ne u37_ u40_ (by decide)) (fun h_ => absurd (u37_.symm.trans h_) (by decide)) 180).trans u42_
                        have u51_ : T46_ 181 o = T 181 o := (hx46_ o (cw_lt hw0_.1 u37_ (fun _ _ _ => ⟨_, rfl⟩)) (ty_ne u37_ u40_ (by decide)) (fun h_ => absurd (u37_.symm.trans h_) (by decide)) 181).trans u43_
                        have u52_ : T46_ 182 o = T 182 o := (hx46_ o (cw_lt hw0_.1 u37_ (fun _ _ _ => ⟨_, rfl⟩)) (ty_ne u37_ u40_ (by decide)) (fun h_ => absurd (u37_.symm.trans h_) (by decide)) 182).trans u44_
                        have u53_ : T46_ 183 o = T 183 o := (hx46_ o (cw_lt hw0_.1 u37_ (fun _ _ _ => ⟨_, rfl⟩)) (ty_ne u37_ u40_ (by decide)) (fun h_ => absurd (u37_.symm.trans h_) (by decide)) 183).trans u45_
                        refine j_pop E 183 rfl dX9_suit_182 rfl ?_
                        refine j_aload_n E 184 rfl dX9_suit_183 rfl (lv_at hl 3 rfl) ?_
                        refine g_183 E hK hw fl_X9_22 u47_ 187 rfl dX9_suit_184 ?_
                        refine kV_i E (c_Jx4a65c_size_8abf5 l D cy T46_ (upV (upV (upV (upV (upV (upV (upV (upV (upV (upV (upV (upV (upV (upV (upV (upV (upV v_0 140 (upB (v_0 140) q23_ 0)) 141 (upB (v_0 141) q23_ 0)) 142 (upB (v_0 142) q23_ 0)) 143 (upB (v_0 143) q23_ 0)) 144 (upB (v_0 144) q23_ 0)) 145 (upB (v_0 145) q23_ 0)) 146 (upB (v_0 146) q23_ 0)) 103 y103_34) 140 y140_36) 141 y141_36) 142 y142_36) 143 y143_36) 144 y144_36) 145 y145_36) 146 y146_36) 200 y200_46) 202 y202_46) (T46_ 183 o)  (wt_183 hT46_ u47_)  ) mt_Jx4a65c_size_8abf5 ml_X9_80 hK hw (cw_rc10 hK hw.1 (wt_183 hT46_ u47_)) hA ⟨Nat.le_of_ble_eq_true rfl, Nat.le_of_ble_eq_true rfl⟩ ⟨Nat.le_of_ble_eq_true rfl, Nat.le_of_ble_eq_true rfl⟩ (As := []) (rest := []) rfl rfl hl.1 (Nat.le_of_ble_eq_true rfl) 190 rfl dX9_suit_187 (fun zz54_ v_54 H locs rr54_ hq54_ hw => ?_)
                        obtain ⟨ev54_, hh54_⟩ := hq54_
                        rw [ev54_] at hw; clear ev54_
                        have hh54_ : zz54_ = (y202_46 ((T46_ 183 o))) ∧ 0 ≤ zz54_ := hh54_
                        refine j_iconst E 191 rfl dX9_suit_190 ?_
                        refine j_isub E 192 rfl dX9_suit_191 ?_
                        refine j_norm (fun zz55_ rr55_ ee55_ => ?_)
                        exact hret 192 zz55_ T46_ _ _ _ ls _ _ hw hoT_ rr55_ (⟨u47_, ⟨u50_, u51_, u52_, u53_⟩, rfl, rfl, (by show y202_46 (T 180 o) = v_0 202 (T 180 o); rw [hy46_]; exact upB_ne ((ls_ne hT t_o).2.2.1)), (by show y202_46 (T 181 o) = v_0 202 (T 181 o); rw [hy46_]; exact upB_ne ((ls_ne hT t_o).2.2.2.2.2.1)), (by show y202_46 (T 182 o) = v_0 202 (T 182 o); rw [hy46_]; exact upB_ne ((ls_ne hT t_o).2.2.2.2.2.2.2.2.1)), (fun i_ => by rw [u50_, B180_ 201 (by decide), A180_ (1000 + i_) (by omega)]), rfl, rfl, rfl, rfl, rfl, trivial⟩) (Nat.le_of_ble_eq_true rfl) (Nat.le_of_ble_eq_true rfl) dX9_suit_192
                      · refine j_iconst E 139 rfl dX9_suit_138 ?_
                        exact hret 139 ((-1)) T _ _ _ ls _ _ hw hoT_ (rr (by decide)) (⟨t_o, ⟨rfl, rfl, rfl, rfl⟩, rfl, rfl, rfl, rfl, rfl, (fun _ => rfl), rfl, rfl, rfl, rfl, rfl, trivial⟩) (Nat.le_of_ble_eq_true rfl) (Nat.le_of_ble_eq_true rfl) dX9_suit_139
                    · refine j_iconst E 101 rfl dX9_suit_100 ?_
                      refine j_goto E 105 dX9_suit_101 (by decide) ?_
                      refine j_istore E 107 rfl [(9, .int (J 1)), (8, .ref xx3_), (7, .ref xx1_), (0, .ref o), (1, .int (J v_p)), (2, .int (J v_q)), (3, .int (J v_l)), (4, .int (J v_h)), (5, .int (J v_w)), (6, .int (J v_d))] dX9_suit_105 hl (by decide) rfl (fun ls hl => ?_)
                      refine j_aload_n E 108 rfl dX9_suit_107 rfl (lv_at hl 3 rfl) ?_
                      refine g_193 E hK hw fl_X9_62 t_o 111 rfl dX9_suit_108 ?_
                      refine j_iload E 113 rfl dX9_suit_111 (lv_at hl 7 rfl) ?_
                      refine j_iload E 115 rfl dX9_suit_113 (lv_at hl 8 rfl) ?_
                      refine j_aload_n E 116 rfl dX9_suit_115 rfl (lv_at hl 3 rfl) ?_
                      refine g_187 E hK hw fl_X9_37 t_o (v_0 187 o) rfl 119 rfl dX9_suit_116 (fun _ => ?_)
                      refine j_iload E 121 rfl dX9_suit_119 (lv_at hl 9 rfl) ?_
                      refine j_isub E 122 rfl dX9_suit_121 ?_
                      refine j_norm (fun zz56_ rr56_ ee56_ => ?_)
                      refine j_iload E 124 rfl dX9_suit_122 (lv_at hl 0 rfl) ?_
                      refine j_iload E 126 rfl dX9_suit_124 (lv_at hl 9 rfl) ?_
                      refine j_aload E 128 rfl dX9_suit_126 (lv_at hl 1 rfl) ?_
                      refine g_42 E hK hw fl_X9_113 te3_ (v_0 42 xx3_) rfl 131 rfl dX9_suit_128 (fun _ => ?_)
                      refine j_isub E 132 rfl dX9_suit_131 ?_
                      refine j_norm (fun zz57_ rr57_ ee57_ => ?_)
                      refine kV_i E (c_X4_takeFacts l D cy T (v_0) (T 193 o) v_h v_w zz56_ 1 zz57_  (wt_193 hT t_o) r_v_h r_v_w rr56_ (rr (by decide)) rr57_ ) mt_X4_takeFacts ml_X9_292 hK hw (cw_rc5 hK hw.1 (wt_193 hT t_o)) hA ⟨Nat.le_of_ble_eq_true rfl, Nat.le_of_ble_eq_true rfl⟩ ⟨Nat.le_of_ble_eq_true rfl, Nat.le_of_ble_eq_true rfl⟩ (As := [.int (J v_h), .int (J v_w), .int (J zz56_), .int (J 1), .int (J zz57_)]) (rest := []) rfl rfl hl.1 (Nat.le_of_ble_eq_true rfl) 135 rfl dX9_suit_132 (fun zz58_ v_58 H locs rr58_ hq58_ hw => ?_)
                      obtain ⟨ev58_, hh58_⟩ := hq58_
                      rw [ev58_] at hw; clear ev58_
                      refine j_if_ne E 138 140 rfl rr58_ dX9_suit_135 (by decide) (fun cc59_ => ?_) (fun cc59_ => ?_)
                      · refine j_aload_n E 141 rfl dX9_suit_140 rfl (lv_at hl 3 rfl) ?_
                        refine g_183 E hK hw fl_X9_22 t_o 144 rfl dX9_suit_141 ?_
                        have hw0_ := hw
                        refine n_obj7 E hK hw hA cl_X9_131 (Nat.le_of_ble_eq_true rfl) (Nat.le_of_ble_eq_true rfl) 147 rfl dX9_suit_144 (fun q60_ T60_ H hge60_ hx60_ ho60_ tq60_ hw => ?_)
                        have fq60_ : s.heap.size ≤ q60_ := Nat.le_trans hw0_.2.2.1 hge60_
                        have hw : WK D cy T60_ (upV (upV (upV (upV (upV (upV (upV v_0 140 (upB (v_0 140) q60_ 0)) 141 (upB (v_0 141) q60_ 0)) 142 (upB (v_0 142) q60_ 0)) 143 (upB (v_0 143) q60_ 0)) 144 (upB (v_0 144) q60_ 0)) 145 (upB (v_0 145) q60_ 0)) 146 (upB (v_0 146) q60_ 0)) A0 s.heap H locs := hw
                        have hT60_ : WT T60_ := hw.1.2.1
                        have hO60_ : ∀ x, ow T60_ x → κ 2 2 ≤ x := fun x h => hAc x (hw.2.1 x h)
                        have hoT_ : OW T T60_ s.heap.size := OW.tr hw0_.2.2.1 hoT_ ho60_
                        have B180n_ : ∀ j_, j_ ≠ 197 → T60_ j_ (T 180 o) = T j_ (T 180 o) := fun j_ hj_ => (hx60_ (T 180 o) (Nat.ne_of_lt (Nat.lt_of_lt_of_le (cw_lt hw0_.1 ((B180_ 0 (by decide)).trans tl180_) (fun _ _ _ => ⟨_, rfl⟩)) hge60_)) j_).trans (B180_ j_ hj_)
                        have A180n_ : ∀ j_, j_ ≠ 197 → T60_ j_ (T 201 (T 180 o)) = T j_ (T 201 (T 180 o)) := fun j_ hj_ => (hx60_ (T 201 (T 180 o)) (Nat.ne_of_lt (Nat.lt_of_lt_of_le (cw_ltq hw0_.1 (by rw [A180_ 0 (by decide)]; exact tx180_)) hge60_)) j_).trans (A180_ j_ hj_)
                        have B181n_ : ∀ j_, j_ ≠ 197 → T60_ j_ (T 181 o) = T j_ (T 181 o) := fun j_ hj_ => (hx60_ (T 181 o) (Nat.ne_of_lt (Nat.lt_of_lt_of_le (cw_lt hw0_.1 ((B181_ 0 (by decide)).trans tl181_) (fun _ _ _ => ⟨_, rfl⟩)) hge60_)) j_).trans (B181_ j_ hj_)
                        have A181n_ : ∀ j_, j_ ≠ 197 → T60_ j_ (T 201 (T 181 o)) = T j_ (T 201 (T 181 o)) := fun j_ hj_ => (hx60_ (T 201 (T 181 o)) (Nat.ne_of_lt (Nat.lt_of_lt_of_le (cw_ltq hw0_.1 (by rw [A181_ 0 (by decide)]; exact tx181_)) hge60_)) j_).trans (A181_ j_ hj_)
                        have B182n_ : ∀ j_, j_ ≠ 197 → T60_ j_ (T 182 o) = T j_ (T 182 o) := fun j_ hj_ => (hx60_ (T 182 o) (Nat.ne_of_lt (Nat.lt_of_lt_of_le (cw_lt hw0_.1 ((B182_ 0 (by decide)).trans tl182_) (fun _ _ _ => ⟨_, rfl⟩)) hge60_)) j_).trans (B182_ j_ hj_)
                        have A182n_ : ∀ j_, j_ ≠ 197 → T60_ j_ (T 201 (T 182 o)) = T j_ (T 201 (T 182 o)) := fun j_ hj_ => (hx60_ (T 201 (T 182 o)) (Nat.ne_of_lt (Nat.lt_of_lt_of_le (cw_ltq hw0_.1 (by rw [A182_ 0 (by decide)]; exact tx182_)) hge60_)) j_).trans (A182_ j_ hj_)
                        have B183n_ : ∀ j_, j_ ≠ 197 → T60_ j_ (T 183 o) = T j_ (T 183 o) := fun j_ hj_ => (hx60_ (T 183 o) (Nat.ne_of_lt (Nat.lt_of_lt_of_le (cw_lt hw0_.1 ((B183_ 0 (by decide)).trans tl183_) (fun _ _ _ => ⟨_, rfl⟩)) hge60_)) j_).trans (B183_ j_ hj_)
                        have A183n_ : ∀ j_, j_ ≠ 197 → T60_ j_ (T 201 (T 183 o)) = T j_ (T 201 (T 183 o)) := fun j_ hj_ => (hx60_ (T 201 (T 183 o)) (Nat.ne_of_lt (Nat.lt_of_lt_of_le (cw_ltq hw0_.1 (by rw [A183_ 0 (by decide)]; exact tx183_)) hge60_)) j_).trans (A183_ j_ hj_)
                        have B180_ := B180n_
                        have A180_ := A180n_
                        have B181_ := B181n_
                        have A181_ := A181n_
                        have B182_ := B182n_
                        have A182_ := A182n_
                        have B183_ := B183n_
                        have A183_ := A183n_
                        have u61_ : T60_ 0 o = 9 := (hx60_ o (Nat.ne_of_lt (Nat.lt_of_lt_of_le (cw_lt hw0_.1 t_o (fun _ _ _ => ⟨_, rfl⟩)) hge60_)) 0).trans t_o
                        have u62_ : T60_ 0 xx1_ = 2 := (hx60_ xx1_ (Nat.ne_of_lt (Nat.lt_of_lt_of_le (cw_lt hw0_.1 te1_ (fun _ _ _ => ⟨_, rfl⟩)) hge60_)) 0).trans te1_
                        have u63_ : T60_ 0 xx3_ = 2 := (hx60_ xx3_ (Nat.ne_of_lt (Nat.lt_of_lt_of_le (cw_lt hw0_.1 te3_ (fun _ _ _ => ⟨_, rfl⟩)) hge60_)) 0).trans te3_
                        have u64_ : T60_ 0 (T 183 o) = 10 := (hx60_ (T 183 o) (Nat.ne_of_lt (Nat.lt_of_lt_of_le (cw_lt hw0_.1 (wt_183 hT t_o) (fun _ _ _ => ⟨_, rfl⟩)) hge60_)) 0).trans (wt_183 hT t_o)
                        have u65_ : T60_ 2 (T 183 o) = 7 := (hx60_ (T 183 o) (Nat.ne_of_lt (Nat.lt_of_lt_of_le (cw_lt hw0_.1 (wt_183 hT t_o) (fun _ _ _ => ⟨_, rfl⟩)) hge60_)) 2).trans (we_183 hT t_o)
                        have u66_ : T60_ 180 o = T 180 o := (hx60_ o (Nat.ne_of_lt (Nat.lt_of_lt_of_le (cw_lt hw0_.1 t_o (fun _ _ _ => ⟨_, rfl⟩)) hge60_)) 180).trans rfl
                        have u67_ : T60_ 181 o = T 181 o := (hx60_ o (Nat.ne_of_lt (Nat.lt_of_lt_of_le (cw_lt hw0_.1 t_o (fun _ _ _ => ⟨_, rfl⟩)) hge60_)) 181).trans rfl
                        have u68_ : T60_ 182 o = T 182 o := (hx60_ o (Nat.ne_of_lt (Nat.lt_of_lt_of_le (cw_lt hw0_.1 t_o (fun _ _ _ => ⟨_, rfl⟩)) hge60_)) 182).trans rfl
                        have u69_ : T60_ 183 o = T 183 o := (hx60_ o (Nat.ne_of_lt (Nat.lt_of_lt_of_le (cw_lt hw0_.1 t_o (fun _ _ _ => ⟨_, rfl⟩)) hge60_)) 183).trans rfl
                        refine j_dup E 148 rfl dX9_suit_147 rfl ?_
                        refine j_iload_n E 149 rfl dX9_suit_148 rfl (lv_at hl 4 rfl) ?_
                        refine j_iload_n E 150 rfl dX9_suit_149 rfl (lv_at hl 5 rfl) ?_
                        refine j_iload_n E 151 rfl dX9_suit_150 rfl (lv_at hl 6 rfl) ?_
                        refine j_aload_n E 152 rfl dX9_suit_151 rfl (lv_at hl 3 rfl) ?_
                        refine j_iload_n E 153 rfl dX9_suit_152 rfl (lv_at hl 6 rfl) ?_
                        refine j_aload_n E 154 rfl dX9_suit_153 rfl (lv_at hl 3 rfl) ?_
                        refine g_187 E hK hw fl_X9_37 u61_ (v_0 187 o) rfl 157 rfl dX9_suit_154 (fun _ => ?_)
                        refine j_iconst E 158 rfl dX9_suit_157 ?_
                        refine j_isub E 159 rfl dX9_suit_158 ?_
                        refine j_norm (fun zz70_ rr70_ ee70_ => ?_)
                        refine kV_i E (c_X9_reckonByLaw l D cy T60_ (upV (upV (upV (upV (upV (upV (upV v_0 140 (upB (v_0 140) q60_ 0)) 141 (upB (v_0 141) q60_ 0)) 142 (upB (v_0 142) q60_ 0)) 143 (upB (v_0 143) q60_ 0)) 144 (upB (v_0 144) q60_ 0)) 145 (upB (v_0 145) q60_ 0)) 146 (upB (v_0 146) q60_ 0)) o v_l zz70_  u61_ r_v_l rr70_ ) mt_X9_reckonByLaw ml_X9_296 hK hw (cw_rc9 hK hw.1 u61_) hA ⟨Nat.le_of_ble_eq_true rfl, Nat.le_of_ble_eq_true rfl⟩ ⟨Nat.le_of_ble_eq_true rfl, Nat.le_of_ble_eq_true rfl⟩ (As := [.int (J v_l), .int (J zz70_)]) (rest := [.int (J v_l), .int (J v_q), .int (J v_p), .ref q60_, .ref q60_, .ref (T 183 o)]) rfl rfl hl.1 (Nat.le_of_ble_eq_true rfl) 162 rfl dX9_suit_159 (fun zz71_ v_71 H locs rr71_ hq71_ hw => ?_)
                        obtain ⟨y103_71, ev71_, hh71_⟩ := hq71_
                        rw [ev71_] at hw; clear ev71_
                        refine j_aload_n E 163 rfl dX9_suit_162 rfl (lv_at hl 3 rfl) ?_
                        refine g_187 E hK hw fl_X9_37 u61_ (v_0 187 o) rfl 166 rfl dX9_suit_163 (fun _ => ?_)
                        refine j_aload_n E 167 rfl dX9_suit_166 rfl (lv_at hl 3 rfl) ?_
                        refine j_iload_n E 168 rfl dX9_suit_167 rfl (lv_at hl 4 rfl) ?_
                        refine j_aload E 170 rfl dX9_suit_168 (lv_at hl 2 rfl) ?_
                        refine g_41 E hK hw fl_X9_110 u62_ (v_0 41 xx1_) rfl 173 rfl dX9_suit_170 (fun _ => ?_)
                        refine kV_i E (c_X9_livingKinOf l D cy T60_ (upV (upV (upV (upV (upV (upV (upV (upV v_0 140 (upB (v_0 140) q60_ 0)) 141 (upB (v_0 141) q60_ 0)) 142 (upB (v_0 142) q60_ 0)) 143 (upB (v_0 143) q60_ 0)) 144 (upB (v_0 144) q60_ 0)) 145 (upB (v_0 145) q60_ 0)) 146 (upB (v_0 146) q60_ 0)) 103 y103_71) o v_p (v_0 41 xx1_)  u61_ r_v_p rr16_ ) mt_X9_livingKinOf ml_X9_313 hK hw (cw_rc9 hK hw.1 u61_) hA ⟨Nat.le_of_ble_eq_true rfl, Nat.le_of_ble_eq_true rfl⟩ ⟨Nat.le_of_ble_eq_true rfl, Nat.le_of_ble_eq_true rfl⟩ (As := [.int (J v_p), .int (J (v_0 41 xx1_))]) (rest := [.int (J (v_0 187 o)), .int (J zz71_), .int (J v_l), .int (J v_q), .int (J v_p), .ref q60_, .ref q60_, .ref (T 183 o)]) rfl rfl hl.1 (Nat.le_of_ble_eq_true rfl) 176 rfl dX9_suit_173 (fun zz72_ v_72 H locs rr72_ hq72_ hw => ?_)
                        obtain ⟨ev72_, hh72_⟩ := hq72_
                        rw [ev72_] at hw; clear ev72_
                        have hw0_ := hw
                        refine aI_v E (n_X6_init l D cy κ T60_ (upV (upV (upV (upV (upV (upV (upV (upV v_0 140 (upB (v_0 140) q60_ 0)) 141 (upB (v_0 141) q60_ 0)) 142 (upB (v_0 142) q60_ 0)) 143 (upB (v_0 143) q60_ 0)) 144 (upB (v_0 144) q60_ 0)) 145 (upB (v_0 145) q60_ 0)) 146 (upB (v_0 146) q60_ 0)) 103 y103_71) q60_ v_p v_q v_l zz71_ (v_0 187 o) zz72_ H.size  hO60_ tq60_ r_v_p r_v_q r_v_l rr71_ rr10_ rr72_ ) mi_X6_init ml_X9_316 hK hZ hAc hw hA ⟨(Nat.le_of_ble_eq_true rfl), (Nat.le_of_ble_eq_true rfl)⟩ ⟨(Nat.le_of_ble_eq_true rfl), (Nat.le_of_ble_eq_true rfl)⟩ (As := [.int (J v_p), .int (J v_q), .int (J v_l), .int (J zz71_), .int (J (v_0 187 o)), .int (J zz72_)]) (rest := [.ref q60_, .ref (T 183 o)]) rfl rfl hl.1 (Nat.le_of_ble_eq_true rfl) 179 rfl dX9_suit_176 (fun T73_ v_73 H locs hge73_ ho73_ hq73_ hw => ?_)
                        obtain ⟨y140_73, y141_73, y142_73, y143_73, y144_73, y145_73, y146_73, ev73_, hh73_⟩ := hq73_
                        rw [ev73_] at hw; clear ev73_
                        obtain ⟨hx73_, tq73_⟩ := hh73_
                        have hT73_ : WT T73_ := hw.1.2.1
                        have hO73_ : ∀ x, ow T73_ x → κ 2 2 ≤ x := fun x h => hAc x (hw.2.1 x h)
                        have hoT_ : OW T T73_ s.heap.size := OW.tr hw0_.2.2.1 hoT_ ho73_
                        have B180n_ : ∀ j_, j_ ≠ 197 → T73_ j_ (T 180 o) = T j_ (T 180 o) := fun j_ hj_ => (hx73_ (T 180 o) (cw_lt hw0_.1 ((B180_ 0 (by decide)).trans tl180_) (fun _ _ _ => ⟨_, rfl⟩)) (ty_ne ((B180_ 0 (by decide)).trans tl180_) tq60_ (by decide)) j_).trans (B180_ j_ hj_)
                        have A180n_ : ∀ j_, j_ ≠ 197 → T73_ j_ (T 201 (T 180 o)) = T j_ (T 201 (T 180 o)) := fun j_ hj_ => (hx73_ (T 201 (T 180 o)) (cw_ltq hw0_.1 (by rw [A180_ 0 (by decide)]; exact tx180_)) (ty_neq (by rw [A180_ 0 (by decide)]; exact tx180_) tq60_ (by decide) (by decide)) j_).trans (A180_ j_ hj_)
                        have B181n_ : ∀ j_, j_ ≠ 197 → T73_ j_ (T 181 o) = T j_ (T 181 o) := fun j_ hj_ => (hx73_ (T 181 o) (cw_lt hw0_.1 ((B181_ 0 (by decide)).trans tl181_) (fun _ _ _ => ⟨_, rfl⟩)) (ty_ne ((B181_ 0 (by decide)).trans tl181_) tq60_ (by decide)) j_).trans (B181_ j_ hj_)
                        have A181n_ : ∀ j_, j_ ≠ 197 → T73_ j_ (T 201 (T 181 o)) = T j_ (T 201 (T 181 o)) := fun j_ hj_ => (hx73_ (T 201 (T 181 o)) (cw_ltq hw0_.1 (by rw [A181_ 0 (by decide)]; exact tx181_)) (ty_neq (by rw [A181_ 0 (by decide)]; exact tx181_) tq60_ (by decide) (by decide)) j_).trans (A181_ j_ hj_)
                        have B182n_ : ∀ j_, j_ ≠ 197 → T73_ j_ (T 182 o) = T j_ (T 182 o) := fun j_ hj_ => (hx73_ (T 182 o) (cw_lt hw0_.1 ((B182_ 0 (by decide)).trans tl182_) (fun _ _ _ => ⟨_, rfl⟩)) (ty_ne ((B182_ 0 (by decide)).trans tl182_) tq60_ (by decide)) j_).trans (B182_ j_ hj_)
                        have A182n_ : ∀ j_, j_ ≠ 197 → T73_ j_ (T 201 (T 182 o)) = T j_ (T 201 (T 182 o)) := fun j_ hj_ => (hx73_ (T 201 (T 182 o)) (cw_ltq hw0_.1 (by rw [A182_ 0 (by decide)]; exact tx182_)) (ty_neq (by rw [A182_ 0 (by decide)]; exact tx182_) tq60_ (by decide) (by decide)) j_).trans (A182_ j_ hj_)
                        have B183n_ : ∀ j_, j_ ≠ 197 → T73_ j_ (T 183 o) = T j_ (T 183 o) := fun j_ hj_ => (hx73_ (T 183 o) (cw_lt hw0_.1 ((B183_ 0 (by decide)).trans tl183_) (fun _ _ _ => ⟨_, rfl⟩)) (ty_ne ((B183_ 0 (by decide)).trans tl183_) tq60_ (by decide)) j_).trans (B183_ j_ hj_)
                        have A183n_ : ∀ j_, j_ ≠ 197 → T73_ j_ (T 201 (T 183 o)) = T j_ (T 201 (T 183 o)) := fun j_ hj_ => (hx73_ (T 201 (T 183 o)) (cw_ltq hw0_.1 (by rw [A183_ 0 (by decide)]; exact tx183_)) (ty_neq (by rw [A183_ 0 (by decide)]; exact tx183_) tq60_ (by decide) (by decide)) j_).trans (A183_ j_ hj_)
                        have B180_ := B180n_
                        have A180_ := A180n_
                        have B181_ := B181n_
                        have A181_ := A181n_
                        have B182_ := B182n_
                        have A182_ := A182n_
                        have B183_ := B183n_
                        have A183_ := A183n_
                        have u74_ : T73_ 0 o = 9 := (hx73_ o (cw_lt hw0_.1 u61_ (fun _ _ _ => ⟨_, rfl⟩)) (ty_ne u61_ tq60_ (by decide)) 0).trans u61_
                        have u75_ : T73_ 0 xx1_ = 2 := (hx73_ xx1_ (cw_lt hw0_.1 u62_ (fun _ _ _ => ⟨_, rfl⟩)) (ty_ne u62_ tq60_ (by decide)) 0).trans u62_
                        have u76_ : T73_ 0 xx3_ = 2 := (hx73_ xx3_ (cw_lt hw0_.1 u63_ (fun _ _ _ => ⟨_, rfl⟩)) (ty_ne u63_ tq60_ (by decide)) 0).trans u63_
                        have u77_ : T73_ 0 (T 183 o) = 10 := (hx73_ (T 183 o) (cw_lt hw0_.1 u64_ (fun _ _ _ => ⟨_, rfl⟩)) (ty_ne u64_ tq60_ (by decide)) 0).trans u64_
                        have u78_ : T73_ 2 (T 183 o) = 7 := (hx73_ (T 183 o) (cw_lt hw0_.1 u64_ (fun _ _ _ => ⟨_, rfl⟩)) (ty_ne u64_ tq60_ (by decide)) 2).trans u65_
                        have u79_ : T73_ 180 o = T 180 o := (hx73_ o (cw_lt hw0_.1 u61_ (fun _ _ _ => ⟨_, rfl⟩)) (ty_ne u61_ tq60_ (by decide)) 180).trans u66_
                        have u80_ : T73_ 181 o = T 181 o := (hx73_ o (cw_lt hw0_.1 u61_ (fun _ _ _ => ⟨_, rfl⟩)) (ty_ne u61_ tq60_ (by decide)) 181).trans u67_
                        have u81_ : T73_ 182 o = T 182 o := (hx73_ o (cw_lt hw0_.1 u61_ (fun _ _ _ => ⟨_, rfl⟩)) (ty_ne u61_ tq60_ (by decide)) 182).trans u68_
                        have u82_ : T73_ 183 o = T 183 o := (hx73_ o (cw_lt hw0_.1 u61_ (fun _ _ _ => ⟨_, rfl⟩)) (ty_ne u61_ tq60_ (by decide)) 183).trans u69_
                        have hw0_ := hw
                        refine aV_i E (n_Jx4a65c_add_9ea2d_n2 l D cy κ T73_ (upV (upV (upV (upV (upV (upV (upV (upV (upV (upV (upV (upV (upV (upV (upV v_0 140 (upB (v_0 140) q60_ 0)) 141 (upB (v_0 141) q60_ 0)) 142 (upB (v_0 142) q60_ 0)) 143 (upB (v_0 143) q60_ 0)) 144 (upB (v_0 144) q60_ 0)) 145 (upB (v_0 145) q60_ 0)) 146 (upB (v_0 146) q60_ 0)) 103 y103_71) 140 y140_73) 141 y141_73) 142 y142_73) 143 y143_73) 144 y144_73) 145 y145_73) 146 y146_73) (T 183 o) q60_ H.size  hO73_ u77_  (tq73_.trans u78_.symm) (fun x_ h_ => hp0 x_ ((hoT_ x_).2 h_)) (show ((v_0 202) ((T 183 o))) ≤ 200 from by omega)) mt_Jx4a65c_add_9ea2d ml_X9_89 hK hZ hAc hw (cw_rc10 hK hw.1 u77_) hA ⟨(Nat.le_of_ble_eq_true rfl), (Nat.le_of_ble_eq_true rfl)⟩ ⟨(Nat.le_of_ble_eq_true rfl), (Nat.le_of_ble_eq_true rfl)⟩ (As := [.ref q60_]) (rest := []) rfl rfl hl.1 (Nat.le_of_ble_eq_true rfl) 182 rfl dX9_suit_179 (fun zz83_ T83_ v_83 H locs rr83_ hge83_ ho83_ hq83_ hw => ?_)
                        obtain ⟨y200_83, y202_83, ev83_, hh83_⟩ := hq83_
                        rw [ev83_] at hw; clear ev83_
                        obtain ⟨hy83_, hx83_, hz83_, hl83_, hel83_, hnw83_⟩ := hh83_
                        have hy83_ : y202_83 = upB (v_0 202) (T 183 o) ((v_0 202) (T 183 o) + 1) := hy83_
                        have hT83_ : WT T83_ := hw.1.2.1
                        have hO83_ : ∀ x, ow T83_ x → κ 2 2 ≤ x := fun x h => hAc x (hw.2.1 x h)
                        have hoT_ : OW T T83_ s.heap.size := OW.tr hw0_.2.2.1 hoT_ ho83_
                        have B180n_ : ∀ j_, j_ ≠ 197 → T83_ j_ (T 180 o) = T j_ (T 180 o) := fun j_ hj_ => (hx83_ (T 180 o) (cw_lt hw0_.1 ((B180_ 0 (by decide)).trans tl180_) (fun _ _ _ => ⟨_, rfl⟩)) ((ls_ne hT t_o).2.2.1) (fun h_ => absurd (((B180_ 0 (by decide)).trans tl180_).symm.trans h_) (by decide)) j_).trans (B180_ j_ hj_)
                        have A180n_ : ∀ j_, j_ ≠ 197 → T83_ j_ (T 201 (T 180 o)) = T j_ (T 201 (T 180 o)) := fun j_ hj_ => (hx83_ (T 201 (T 180 o)) (cw_ltq hw0_.1 (by rw [A180_ 0 (by decide)]; exact tx180_)) (ty_neq (by rw [A180_ 0 (by decide)]; exact tx180_) u77_ (by decide) (by decide)) (fun h_ => by rw [B183_ 201 (by decide)]; exact own_ne hT tl180_ tl183_ ((ls_ne hT t_o).2.2.1) ((A180_ 0 (by decide)).symm.trans h_)) j_).trans (A180_ j_ hj_)
                        have B181n_ : ∀ j_, j_ ≠ 197 → T83_ j_ (T 181 o) = T j_ (T 181 o) := fun j_ hj_ => (hx83_ (T 181 o) (cw_lt hw0_.1 ((B181_ 0 (by decide)).trans tl181_) (fun _ _ _ => ⟨_, rfl⟩)) ((ls_ne hT t_o).2.2.2.2.2.1) (fun h_ => absurd (((B181_ 0 (by decide)).trans tl181_).symm.trans h_) (by decide)) j_).trans (B181_ j_ hj_)
                        have A181n_ : ∀ j_, j_ ≠ 197 → T83_ j_ (T 201 (T 181 o)) = T j_ (T 201 (T 181 o)) := fun j_ hj_ => (hx83_ (T 201 (T 181 o)) (cw_ltq hw0_.1 (by rw [A181_ 0 (by decide)]; exact tx181_)) (ty_neq (by rw [A181_ 0 (by decide)]; exact tx181_) u77_ (by decide) (by decide)) (fun h_ => by rw [B183_ 201 (by decide)]; exact own_ne hT tl181_ tl183_ ((ls_ne hT t_o).2.2.2.2.2.1) ((A181_ 0 (by decide)).symm.trans h_)) j_).trans (A181_ j_ hj_)
                        have B182n_ : ∀ j_, j_ ≠ 197 → T83_ j_ (T 182 o) = T j_ (T 182 o) := fun j_ hj_ => (hx83_ (T 182 o) (cw_lt hw0_.1 ((B182_ 0 (by decide)).trans tl182_) (fun _ _ _ => ⟨_, rfl⟩)) ((ls_ne hT t_o).2.2.2.2.2.2.2.2.1) (fun h_ => absurd (((B182_ 0 (by decide)).trans tl182_).symm.trans h_) (by decide)) j_).trans (B182_ j_ hj_)
                        have A182n_ : ∀ j_, j_ ≠ 197 → T83_ j_ (T 201 (T 182 o)) = T j_ (T 201 (T 182 o)) := fun j_ hj_ => (hx83_ (T 201 (T 182 o)) (cw_ltq hw0_.1 (by rw [A182_ 0 (by decide)]; exact tx182_)) (ty_neq (by rw [A182_ 0 (by decide)]; exact tx182_) u77_ (by decide) (by decide)) (fun h_ => by rw [B183_ 201 (by decide)]; exact own_ne hT tl182_ tl183_ ((ls_ne hT t_o).2.2.2.2.2.2.2.2.1) ((A182_ 0 (by decide)).symm.trans h_)) j_).trans (A182_ j_ hj_)
                        have B180_ := B180n_
                        have A180_ := A180n_
                        have B181_ := B181n_
                        have A181_ := A181n_
                        have B182_ := B182n_
                        have A182_ := A182n_
                        have u84_ : T83_ 0 o = 9 := (hx83_ o (cw_lt hw0_.1 u74_ (fun _ _ _ => ⟨_, rfl⟩)) (ty_ne u74_ u77_ (by decide)) (fun h_ => absurd (u74_.symm.trans h_) (by decide)) 0).trans u74_
                        have u85_ : T83_ 0 xx1_ = 2 := (hx83_ xx1_ (cw_lt hw0_.1 u75_ (fun _ _ _ => ⟨_, rfl⟩)) (ty_ne u75_ u77_ (by decide)) (fun h_ => absurd (u75_.symm.trans h_) (by decide)) 0).trans u75_
                        have u86_ : T83_ 0 xx3_ = 2 := (hx83_ xx3_ (cw_lt hw0_.1 u76_ (fun _ _ _ => ⟨_, rfl⟩)) (ty_ne u76_ u77_ (by decide)) (fun h_ => absurd (u76_.symm.trans h_) (by decide)) 0).trans u76_
                        have u87_ : T83_ 180 o = T 180 o := (hx83_ o (cw_lt hw0_.1 u74_ (fun _ _ _ => ⟨_, rfl⟩)) (ty_ne u74_ u77_ (by decide)) (fun h_ => absurd (u74_.symm.trans h_) (by decide)) 180).trans u79_
                        have u88_ : T83_ 181 o = T 181 o := (hx83_ o (cw_lt hw0_.1 u74_ (fun _ _ _ => ⟨_, rfl⟩)) (ty_ne u74_ u77_ (by decide)) (fun h_ => absurd (u74_.symm.trans h_) (by decide)) 181).trans u80_
                        have u89_ : T83_ 182 o = T 182 o := (hx83_ o (cw_lt hw0_.1 u74_ (fun _ _ _ => ⟨_, rfl⟩)) (ty_ne u74_ u77_ (by decide)) (fun h_ => absurd (u74_.symm.trans h_) (by decide)) 182).trans u81_
                        have u90_ : T83_ 183 o = T 183 o := (hx83_ o (cw_lt hw0_.1 u74_ (fun _ _ _ => ⟨_, rfl⟩)) (ty_ne u74_ u77_ (by decide)) (fun h_ => absurd (u74_.symm.trans h_) (by decide)) 183).trans u82_
                        refine j_pop E 183 rfl dX9_suit_182 rfl ?_
                        refine j_aload_n E 184 rfl dX9_suit_183 rfl (lv_at hl 3 rfl) ?_
                        refine g_183 E hK hw fl_X9_22 u84_ 187 rfl dX9_suit_184 ?_
                        refine kV_i E (c_Jx4a65c_size_8abf5 l D cy T83_ (upV (upV (upV (upV (upV (upV (upV (upV (upV (upV (upV (upV (upV (upV (upV (upV (upV v_0 140 (upB (v_0 140) q60_ 0)) 141 (upB (v_0 141) q60_ 0)) 142 (upB (v_0 142) q60_ 0)) 143 (upB (v_0 143) q60_ 0)) 144 (upB (v_0 144) q60_ 0)) 145 (upB (v_0 145) q60_ 0)) 146 (upB (v_0 146) q60_ 0)) 103 y103_71) 140 y140_73) 141 y141_73) 142 y142_73) 143 y143_73) 144 y144_73) 145 y145_73) 146 y146_73) 200 y200_83) 202 y202_83) (T83_ 183 o)  (wt_183 hT83_ u84_)  ) mt_Jx4a65c_size_8abf5 ml_X9_80 hK hw (cw_rc10 hK hw.1 (wt_183 hT83_ u84_)) hA ⟨Nat.le_of_ble_eq_true rfl, Nat.le_of_ble_eq_true rfl⟩ ⟨Nat.le_of_ble_eq_true rfl, Nat.le_of_ble_eq_true rfl⟩ (As := []) (rest := []) rfl rfl hl.1 (Nat.le_of_ble_eq_true rfl) 190 rfl dX9_suit_187 (fun zz91_ v_91 H locs rr91_ hq91_ hw => ?_)
                        obtain ⟨ev91_, hh91_⟩ := hq91_
                        rw [ev91_] at hw; clear ev91_
                        have hh91_ : zz91_ = (y202_83 ((T83_ 183 o))) ∧ 0 ≤ zz91_ := hh91_
                        refine j_iconst E 191 rfl dX9_suit_190 ?_
                        refine j_isub E 192 rfl dX9_suit_191 ?_
                        refine j_norm (fun zz92_ rr92_ ee92_ => ?_)
                        exact hret 192 zz92_ T83_ _ _ _ ls _ _ hw hoT_ rr92_ (⟨u84_, ⟨u87_, u88_, u89_, u90_⟩, rfl, rfl, (by show y202_83 (T 180 o) = v_0 202 (T 180 o); rw [hy83_]; exact upB_ne ((ls_ne hT t_o).2.2.1)), (by show y202_83 (T 181 o) = v_0 202 (T 181 o); rw [hy83_]; exact upB_ne ((ls_ne hT t_o).2.2.2.2.2.1)), (by show y202_83 (T 182 o) = v_0 202 (T 182 o); rw [hy83_]; exact upB_ne ((ls_ne hT t_o).2.2.2.2.2.2.2.2.1)), (fun i_ => by rw [u87_, B180_ 201 (by decide), A180_ (1000 + i_) (by omega)]), rfl, rfl, rfl, rfl, rfl, trivial⟩) (Nat.le_of_ble_eq_true rfl) (Nat.le_of_ble_eq_true rfl) dX9_suit_192
                      · refine j_iconst E 139 rfl dX9_suit_138 ?_
                        exact hret 139 ((-1)) T _ _ _ ls _ _ hw hoT_ (rr (by decide)) (⟨t_o, ⟨rfl, rfl, rfl, rfl⟩, rfl, rfl, rfl, rfl, rfl, (fun _ => rfl), rfl, rfl, rfl, rfl, rfl, trivial⟩) (Nat.le_of_ble_eq_true rfl) (Nat.le_of_ble_eq_true rfl) dX9_suit_139
                  · refine j_iconst E 86 rfl dX9_suit_85 ?_
                    exact hret 86 ((-1)) T _ _ _ ls _ _ hw hoT_ (rr (by decide)) (⟨t_o, ⟨rfl, rfl, rfl, rfl⟩, rfl, rfl, rfl, rfl, rfl, (fun _ => rfl), rfl, rfl, rfl, rfl, rfl, trivial⟩) (Nat.le_of_ble_eq_true rfl) (Nat.le_of_ble_eq_true rfl) dX9_suit_86
          · refine j_iconst E 50 rfl dX9_suit_49 ?_
            exact hret 50 ((-1)) T _ _ _ ls _ _ hw hoT_ (rr (by decide)) (⟨t_o, ⟨rfl, rfl, rfl, rfl⟩, rfl, rfl, rfl, rfl, rfl, (fun _ => rfl), rfl, rfl, rfl, rfl, rfl, trivial⟩) (Nat.le_of_ble_eq_true rfl) (Nat.le_of_ble_eq_true rfl) dX9_suit_50
set_option maxHeartbeats 4000000 in
set_option maxRecDepth 100000 in
theorem n_X9_wording_n3 (l : Launch) (D : va_G) (cy : Nat → ClassId) (κ T : Nat → Nat → Nat) (v_0 : Nat → Nat → Int) (o : Nat) (sz : Nat) (hO : ∀ x, ow T x → κ 2 2 ≤ x) (t_o : T 0 o = 9) (hp0 : ∀ x, T 0 x = 26 → x = κ 2 0) : KA l D cy κ T yX9_wording cX9_wording 2 (some .int) 24 5 1300 [.ref o] v_0 sz (AI (fun (z_0 : Int) (T_2 : Nat → Nat → Nat) (v_2 : Nat → Nat → Int) => T_2 0 o = 9 ∧ (T_2 180 o = T 180 o ∧ T_2 181 o = T 181 o ∧ T_2 182 o = T 182 o ∧ T_2 183 o = T 183 o) ∧ v_2 186 o = 0 ∧ v_2 187 o = v_0 187 o ∧ v_2 202 (T 180 o) = v_0 202 (T 180 o) ∧ v_2 202 (T 181 o) = v_0 202 (T 181 o) ∧ v_2 202 (T 183 o) = v_0 202 (T 183 o) ∧ (∀ i_ : Nat, T_2 (1000 + i_) (T_2 201 (T_2 180 o)) = T (1000 + i_) (T 201 (T 180 o))) ∧ v_2 40 = v_0 40 ∧ v_2 41 = v_0 41 ∧ v_2 42 = v_0 42 ∧ v_2 43 = v_0 43 ∧ v_2 44 = v_0 44 ∧ (True))) := by
  refine KA.ofi (by decide) (Nat.le_of_ble_eq_true rfl) hO ?_
  intro p e s m below meth c ls ar QW A0 H locs E hK hZ hA hAc hsz hnm hw hlo_ hl hret
  have hl : lv_has ls 2 [(0, .ref o)] := hl
  have hT : WT T := hw.1.2.1
  have hoT_ : OW T T s.heap.size := OW.rf T _
  have tl180_ : T 0 (T 180 o) = 10 := wt_180 hT t_o
  have tx180_ : T 0 (T 201 (T 180 o)) = 24 ∨ T 0 (T 201 (T 180 o)) = 26 := (wt10 hT tl180_).1
  have B180_ : ∀ j, j ≠ 197 → T j (T 180 o) = T j (T 180 o) := fun _ _ => rfl
  have A180_ : ∀ j, j ≠ 197 → T j (T 201 (T 180 o)) = T j (T 201 (T 180 o)) := fun _ _ => rfl
  have tl181_ : T 0 (T 181 o) = 10 := wt_181 hT t_o
  have tx181_ : T 0 (T 201 (T 181 o)) = 24 ∨ T 0 (T 201 (T 181 o)) = 26 := (wt10 hT tl181_).1
  have B181_ : ∀ j, j ≠ 197 → T j (T 181 o) = T j (T 181 o) := fun _ _ => rfl
  have A181_ : ∀ j, j ≠ 197 → T j (T 201 (T 181 o)) = T j (T 201 (T 181 o)) := fun _ _ => rfl
  have tl182_ : T 0 (T 182 o) = 10 := wt_182 hT t_o
  have tx182_ : T 0 (T 201 (T 182 o)) = 24 ∨ T 0 (T 201 (T 182 o)) = 26 := (wt10 hT tl182_).1
  have B182_ : ∀ j, j ≠ 197 → T j (T 182 o) = T j (T 182 o) := fun _ _ => rfl
  have A182_ : ∀ j, j ≠ 197 → T j (T 201 (T 182 o)) = T j (T 201 (T 182 o)) := fun _ _ => rfl
  have tl183_ : T 0 (T 183 o) = 10 := wt_183 hT t_o
  have tx183_ : T 0 (T 201 (T 183 o)) = 24 ∨ T 0 (T 201 (T 183 o)) = 26 := (wt10 hT tl183_).1
  have B183_ : ∀ j, j ≠ 197 → T j (T 183 o) = T j (T 183 o) := fun _ _ => rfl
  have A183_ : ∀ j, j ≠ 197 → T j (T 201 (T 183 o)) = T j (T 201 (T 183 o)) := fun _ _ => rfl
  refine j_aload_n E 1 rfl dX9_wording_0 rfl (lv_at hl 0 rfl) ?_
  refine g_186 E hK hw fl_X9_33 t_o (v_0 186 o) rfl 4 rfl dX9_wording_1 (fun rr1_ => ?_)
  refine j_istore_n E 5 rfl [(1, .int (J (v_0 186 o))), (0, .ref o)] dX9_wording_4 rfl hl (by decide) rfl (fun ls hl => ?_)
  refine j_aload_n E 6 rfl dX9_wording_5 rfl (lv_at hl 1 rfl) ?_
  refine j_iconst E 7 rfl dX9_wording_6 ?_
  refine p_186 E hK hw fl_X9_33 t_o (rr (by decide)) 10 rfl dX9_wording_7 (fun H locs hw => ?_)
  have hw : WK D cy T (upV v_0 186 (upB (v_0 186) o 0)) A0 s.heap H locs := hw
  refine j_aload_n E 11 rfl dX9_wording_10 rfl (lv_at hl 1 rfl) ?_
  refine j_iconst E 12 rfl dX9_wording_11 ?_
  refine p_190 E hK hw fl_X9_46 t_o (rr (by decide)) 15 rfl dX9_wording_12 (fun H locs hw => ?_)
  have hw : WK D cy T (upV (upV v_0 186 (upB (v_0 186) o 0)) 190 (upB (v_0 190) o 0)) A0 s.heap H locs := hw
  refine j_aload_n E 16 rfl dX9_wording_15 rfl (lv_at hl 1 rfl) ?_
  refine j_iconst E 17 rfl dX9_wording_16 ?_
  refine p_191 E hK hw fl_X9_49 t_o (rr (by decide)) 20 rfl dX9_wording_17 (fun H locs hw => ?_)
  have hw : WK D cy T (upV (upV (upV v_0 186 (upB (v_0 186) o 0)) 190 (upB (v_0 190) o 0)) 191 (upB (v_0 191) o ((-1)))) A0 s.heap H locs := hw
  refine j_aload_n E 21 rfl dX9_wording_20 rfl (lv_at hl 1 rfl) ?_
  refine g_182 E hK hw fl_X9_19 t_o 24 rfl dX9_wording_21 ?_
  refine kV_i E (c_Jx4a65c_size_8abf5 l D cy T (upV (upV (upV v_0 186 (upB (v_0 186) o 0)) 190 (upB (v_0 190) o 0)) 191 (upB (v_0 191) o ((-1)))) (T 182 o)  (wt_182 hT t_o)  ) mt_Jx4a65c_size_8abf5 ml_X9_80 hK hw (cw_rc10 hK hw.1 (wt_182 hT t_o)) hA ⟨Nat.le_of_ble_eq_true rfl, Nat.le_of_ble_eq_true rfl⟩ ⟨Nat.le_of_ble_eq_true rfl, Nat.le_of_ble_eq_true rfl⟩ (As := []) (rest := []) rfl rfl hl.1 (Nat.le_of_ble_eq_true rfl) 27 rfl dX9_wording_24 (fun zz5_ v_5 H locs rr5_ hq5_ hw => ?_)
  obtain ⟨ev5_, hh5_⟩ := hq5_
  rw [ev5_] at hw; clear ev5_
  have hh5_ : zz5_ = ((v_0 202) ((T 182 o))) ∧ 0 ≤ zz5_ := hh5_
  refine j_bipush E 29 rfl dX9_wording_27 (by decide) ?_
  refine j_icmp_lt E 32 34 rfl rr5_ (rr (by decide)) dX9_wording_29 (by decide) (fun cc6_ => ?_) (fun cc6_ => ?_)
  · refine j_aload_n E 35 rfl dX9_wording_34 rfl (lv_at hl 1 rfl) ?_
    refine g_192 E hK hw fl_X9_55 t_o 38 rfl dX9_wording_35 ?_
    refine j_aload_n E 39 rfl dX9_wording_38 rfl (lv_at hl 1 rfl) ?_
    refine g_185 E hK hw fl_X9_29 t_o 42 rfl dX9_wording_39 ?_
    have ln7_ := wl_185 hT t_o
    refine j_iload_n E 43 rfl dX9_wording_42 rfl (lv_at hl 0 rfl) ?_
    refine zV_i E (c_X3_read l D cy T (upV (upV (upV v_0 186 (upB (v_0 186) o 0)) 190 (upB (v_0 190) o 0)) 191 (upB (v_0 191) o ((-1)))) κ (T 192 o) (T 185 o) (v_0 186 o)  hO (wt_192 hT t_o) (wt_185 hT t_o) rr1_ ) mt_X3_read ml_X9_146 hK hZ hAc hw (cw_rc4 hK hw.1 (wt_192 hT t_o)) hA ⟨Nat.le_of_ble_eq_true rfl, Nat.le_of_ble_eq_true rfl⟩ ⟨Nat.le_of_ble_eq_true rfl, Nat.le_of_ble_eq_true rfl⟩ (As := [.ref (T 185 o), .int (J (v_0 186 o))]) (rest := []) rfl rfl hl.1 (Nat.le_of_ble_eq_true rfl) 46 rfl dX9_wording_43 (fun zz8_ v_8 H locs rr8_ hq8_ hw => ?_)
    obtain ⟨y80_8, y81_8, y83_8, y84_8, y86_8, y123_8, y124_8, ev8_, hh8_⟩ := hq8_
    rw [ev8_] at hw; clear ev8_
    have hh8_ : 0 ≤ (y86_8 ((T 192 o))) ∧ (y86_8 ((T 192 o))) ≤ 400 ∧ 0 ≤ (y123_8 (T 82 (T 192 o))) ∧ (y123_8 (T 82 (T 192 o))) ≤ 400 := hh8_
    refine j_if_ne E 49 73 rfl rr8_ dX9_wording_46 (by decide) (fun cc9_ => ?_) (fun cc9_ => ?_)
    · refine j_aload_n E 74 rfl dX9_wording_73 rfl (lv_at hl 1 rfl) ?_
      refine g_182 E hK hw fl_X9_19 t_o 77 rfl dX9_wording_74 ?_
      have hw0_ := hw
      refine n_obj8 E hK hw hA cl_X9_152 (Nat.le_of_ble_eq_true rfl) (Nat.le_of_ble_eq_true rfl) 80 rfl dX9_wording_77 (fun q10_ T10_ H hge10_ hx10_ ho10_ tq10_ hw => ?_)
      have fq10_ : s.heap.size ≤ q10_ := Nat.le_trans hw0_.2.2.1 hge10_
      have hw : WK D cy T10_ (upV (upV (upV (upV (upV (upV (upV (upV (upV (upV (upV v_0 186 (upB (v_0 186) o 0)) 190 (upB (v_0 190) o 0)) 191 (upB (v_0 191) o ((-1)))) 80 y80_8) 81 y81_8) 83 y83_8) 84 y84_8) 86 y86_8) 123 y123_8) 124 y124_8) 160 (upB (v_0 160) q10_ 0)) A0 s.heap H locs := hw
      have hT10_ : WT T10_ := hw.1.2.1
      have hO10_ : ∀ x, ow T10_ x → κ 2 2 ≤ x := fun x h => hAc x (hw.2.1 x h)
      have hoT_ : OW T T10_ s.heap.size := OW.tr hw0_.2.2.1 hoT_ ho10_
      have B180n_ : ∀ j_, j_ ≠ 197 → T10_ j_ (T 180 o) = T j_ (T 180 o) := fun j_ hj_ => (hx10_ (T 180 o) (Nat.ne_of_lt (Nat.lt_of_lt_of_le (cw_lt hw0_.1 ((B180_ 0 (by decide)).trans tl180_) (fun _ _ _ => ⟨_, rfl⟩)) hge10_)) j_).trans (B180_ j_ hj_)
      have A180n_ : ∀ j_, j_ ≠ 197 → T10_ j_ (T 201 (T 180 o)) = T j_ (T 201 (T 180 o)) := fun j_ hj_ => (hx10_ (T 201 (T 180 o)) (Nat.ne_of_lt (Nat.lt_of_lt_of_le (cw_ltq hw0_.1 (by rw [A180_ 0 (by decide)]; exact tx180_)) hge10_)) j_).trans (A180_ j_ hj_)
      have B181n_ : ∀ j_, j_ ≠ 197 → T10_ j_ (T 181 o) = T j_ (T 181 o) := fun j_ hj_ => (hx10_ (T 181 o) (Nat.ne_of_lt (Nat.lt_of_lt_of_le (cw_lt hw0_.1 ((B181_ 0 (by decide)).trans tl181_) (fun _ _ _ => ⟨_, rfl⟩)) hge10_)) j_).trans (B181_ j_ hj_)
      have A181n_ : ∀ j_, j_ ≠ 197 → T10_ j_ (T 201 (T 181 o)) = T j_ (T 201 (T 181 o)) := fun j_ hj_ => (hx10_ (T 201 (T 181 o)) (Nat.ne_of_lt (Nat.lt_of_lt_of_le (cw_ltq hw0_.1 (by rw [A181_ 0 (by decide)]; exact tx181_)) hge10_)) j_).trans (A181_ j_ hj_)
      have B182n_ : ∀ j_, j_ ≠ 197 → T10_ j_ (T 182 o) = T j_ (T 182 o) := fun j_ hj_ => (hx10_ (T 182 o) (Nat.ne_of_lt (Nat.lt_of_lt_of_le (cw_lt hw0_.1 ((B182_ 0 (by decide)).trans tl182_) (fun _ _ _ => ⟨_, rfl⟩)) hge10_)) j_).trans (B182_ j_ hj_)
      have A182n_ : ∀ j_, j_ ≠ 197 → T10_ j_ (T 201 (T 182 o)) = T j_ (T 201 (T 182 o)) := fun j_ hj_ => (hx10_ (T 201 (T 182 o)) (Nat.ne_of_lt (Nat.lt_of_lt_of_le (cw_ltq hw0_.1 (by rw [A182_ 0 (by decide)]; exact tx182_)) hge10_)) j_).trans (A182_ j_ hj_)
      have B183n_ : ∀ j_, j_ ≠ 197 → T10_ j_ (T 183 o) = T j_ (T 183 o) := fun j_ hj_ => (hx10_ (T 183 o) (Nat.ne_of_lt (Nat.lt_of_lt_of_le (cw_lt hw0_.1 ((B183_ 0 (by decide)).trans tl183_) (fun _ _ _ => ⟨_, rfl⟩)) hge10_)) j_).trans (B183_ j_ hj_)
      have A183n_ : ∀ j_, j_ ≠ 197 → T10_ j_ (T 201 (T 183 o)) = T j_ (T 201 (T 183 o)) := fun j_ hj_ => (hx10_ (T 201 (T 183 o)) (Nat.ne_of_lt (Nat.lt_of_lt_of_le (cw_ltq hw0_.1 (by rw [A183_ 0 (by decide)]; exact tx183_)) hge10_)) j_).trans (A183_ j_ hj_)
      have B180_ := B180n_
      have A180_ := A180n_
      have B181_ := B181n_
      have A181_ := A181n_
      have B182_ := B182n_
      have A182_ := A182n_
      have B183_ := B183n_
      have A183_ := A183n_
      have u11_ : T10_ 0 o = 9 := (hx10_ o (Nat.ne_of_lt (Nat.lt_of_lt_of_le (cw_lt hw0_.1 t_o (fun _ _ _ => ⟨_, rfl⟩)) hge10_)) 0).trans t_o
      have u12_ : T10_ 0 (T 192 o) = 4 := (hx10_ (T 192 o) (Nat.ne_of_lt (Nat.lt_of_lt_of_le (cw_lt hw0_.1 (wt_192 hT t_o) (fun _ _ _ => ⟨_, rfl⟩)) hge10_)) 0).trans (wt_192 hT t_o)
      have u13_ : T10_ 0 (T 182 o) = 10 := (hx10_ (T 182 o) (Nat.ne_of_lt (Nat.lt_of_lt_of_le (cw_lt hw0_.1 (wt_182 hT t_o) (fun _ _ _ => ⟨_, rfl⟩)) hge10_)) 0).trans (wt_182 hT t_o)
      have u14_ : T10_ 2 (T 182 o) = 8 := (hx10_ (T 182 o) (Nat.ne_of_lt (Nat.lt_of_lt_of_le (cw_lt hw0_.1 (wt_182 hT t_o) (fun _ _ _ => ⟨_, rfl⟩)) hge10_)) 2).trans (we_182 hT t_o)
      have u15_ : T10_ 180 o = T 180 o := (hx10_ o (Nat.ne_of_lt (Nat.lt_of_lt_of_le (cw_lt hw0_.1 t_o (fun _ _ _ => ⟨_, rfl⟩)) hge10_)) 180).trans rfl
      have u16_ : T10_ 181 o = T 181 o := (hx10_ o (Nat.ne_of_lt (Nat.lt_of_lt_of_le (cw_lt hw0_.1 t_o (fun _ _ _ => ⟨_, rfl⟩)) hge10_)) 181).trans rfl
      have u17_ : T10_ 182 o = T 182 o := (hx10_ o (Nat.ne_of_lt (Nat.lt_of_lt_of_le (cw_lt hw0_.1 t_o (fun _ _ _ => ⟨_, rfl⟩)) hge10_)) 182).trans rfl
      have u18_ : T10_ 183 o = T 183 o := (hx10_ o (Nat.ne_of_lt (Nat.lt_of_lt_of_le (cw_lt hw0_.1 t_o (fun _ _ _ => ⟨_, rfl⟩)) hge10_)) 183).trans rfl
      have u19_ : T10_ 192 o = T 192 o := (hx10_ o (Nat.ne_of_lt (Nat.lt_of_lt_of_le (cw_lt hw0_.1 t_o (fun _ _ _ => ⟨_, rfl⟩)) hge10_)) 192).trans rfl
      have u20_ : T10_ 82 (T 192 o) = T 82 (T 192 o) := (hx10_ (T 192 o) (Nat.ne_of_lt (Nat.lt_of_lt_of_le (cw_lt hw0_.1 (wt_192 hT t_o) (fun _ _ _ => ⟨_, rfl⟩)) hge10_)) 82).trans rfl
      refine j_dup E 81 rfl dX9_wording_80 rfl ?_
      refine j_aload_n E 82 rfl dX9_wording_81 rfl (lv_at hl 1 rfl) ?_
      refine g_182 E hK hw fl_X9_19 u11_ 85 rfl dX9_wording_82 ?_
      refine kV_i E (c_Jx4a65c_size_8abf5 l D cy T10_ (upV (upV (upV (upV (upV (upV (upV (upV (upV (upV (upV v_0 186 (upB (v_0 186) o 0)) 190 (upB (v_0 190) o 0)) 191 (upB (v_0 191) o ((-1)))) 80 y80_8) 81 y81_8) 83 y83_8) 84 y84_8) 86 y86_8) 123 y123_8) 124 y124_8) 160 (upB (v_0 160) q10_ 0)) (T10_ 182 o)  (wt_182 hT10_ u11_)  ) mt_Jx4a65c_size_8abf5 ml_X9_80 hK hw (cw_rc10 hK hw.1 (wt_182 hT10_ u11_)) hA ⟨Nat.le_of_ble_eq_true rfl, Nat.le_of_ble_eq_true rfl⟩ ⟨Nat.le_of_ble_eq_true rfl, Nat.le_of_ble_eq_true rfl⟩ (As := []) (rest := [.ref q10_, .ref q10_, .ref (T 182 o)]) rfl rfl hl.1 (Nat.le_of_ble_eq_true rfl) 88 rfl dX9_wording_85 (fun zz21_ v_21 H locs rr21_ hq21_ hw => ?_)
      obtain ⟨ev21_, hh21_⟩ := hq21_
      rw [ev21_] at hw; clear ev21_
      have hh21_ : zz21_ = ((v_0 202) ((T10_ 182 o))) ∧ 0 ≤ zz21_ := hh21_
      have hs40_ : zz21_ ≤ 40 := by have h_ := hh21_.1; rw [u17_] at h_; omega
      refine j_aload_n E 89 rfl dX9_wording_88 rfl (lv_at hl 1 rfl) ?_
      refine g_192 E hK hw fl_X9_55 u11_ 92 rfl dX9_wording_89 ?_
      have hw0_ := hw
      refine aV_n E (n_X3_copyOfTokens l D cy κ T10_ (upV (upV (upV (upV (upV (upV (upV (upV (upV (upV (upV v_0 186 (upB (v_0 186) o 0)) 190 (upB (v_0 190) o 0)) 191 (upB (v_0 191) o ((-1)))) 80 y80_8) 81 y81_8) 83 y83_8) 84 y84_8) 86 y86_8) 123 y123_8) 124 y124_8) 160 (upB (v_0 160) q10_ 0)) (T10_ 192 o) H.size  hO10_ (wt_192 hT10_ u11_)  (show (y123_8 (T10_ 82 (T10_ 192 o))) ≤ 400 from by rw [u19_, u20_]; omega)) mt_X3_copyOfTokens ml_X9_154 hK hZ hAc hw (cw_rc4 hK hw.1 (wt_192 hT10_ u11_)) hA ⟨(Nat.le_of_ble_eq_true rfl), (Nat.le_of_ble_eq_true rfl)⟩ ⟨(Nat.le_of_ble_eq_true rfl), (Nat.le_of_ble_eq_true rfl)⟩ (As := []) (rest := [.int (J zz21_), .ref q10_, .ref q10_, .ref (T 182 o)]) rfl rfl hl.1 (Nat.le_of_ble_eq_true rfl) 95 rfl dX9_wording_92 (fun xx22_ T22_ v_22 H locs hge22_ ho22_ hq22_ hw => ?_)
      obtain ⟨ev22_, hh22_⟩ := hq22_
      rw [ev22_] at hw; clear ev22_
      obtain ⟨hx22_, tq22_⟩ := hh22_
      have hT22_ : WT T22_ := hw.1.2.1
      have hO22_ : ∀ x, ow T22_ x → κ 2 2 ≤ x := fun x h => hAc x (hw.2.1 x h)
      have hoT_ : OW T T22_ s.heap.size := OW.tr hw0_.2.2.1 hoT_ ho22_
      have B180n_ : ∀ j_, j_ ≠ 197 → T22_ j_ (T 180 o) = T j_ (T 180 o) := fun j_ hj_ => (hx22_ (T 180 o) (cw_lt hw0_.1 ((B180_ 0 (by decide)).trans tl180_) (fun _ _ _ => ⟨_, rfl⟩)) j_).trans (B180_ j_ hj_)
      have A180n_ : ∀ j_, j_ ≠ 197 → T22_ j_ (T 201 (T 180 o)) = T j_ (T 201 (T 180 o)) := fun j_ hj_ => (hx22_ (T 201 (T 180 o)) (cw_ltq hw0_.1 (by rw [A180_ 0 (by decide)]; exact tx180_)) j_).trans (A180_ j_ hj_)
      have B181n_ : ∀ j_, j_ ≠ 197 → T22_ j_ (T 181 o) = T j_ (T 181 o) := fun j_ hj_ => (hx22_ (T 181 o) (cw_lt hw0_.1 ((B181_ 0 (by decide)).trans tl181_) (fun _ _ _ => ⟨_, rfl⟩)) j_).trans (B181_ j_ hj_)
      have A181n_ : ∀ j_, j_ ≠ 197 → T22_ j_ (T 201 (T 181 o)) = T j_ (T 201 (T 181 o)) := fun j_ hj_ => (hx22_ (T 201 (T 181 o)) (cw_ltq hw0_.1 (by rw [A181_ 0 (by decide)]; exact tx181_)) j_).trans (A181_ j_ hj_)
      have B182n_ : ∀ j_, j_ ≠ 197 → T22_ j_ (T 182 o) = T j_ (T 182 o) := fun j_ hj_ => (hx22_ (T 182 o) (cw_lt hw0_.1 ((B182_ 0 (by decide)).trans tl182_) (fun _ _ _ => ⟨_, rfl⟩)) j_).trans (B182_ j_ hj_)
      have A182n_ : ∀ j_, j_ ≠ 197 → T22_ j_ (T 201 (T 182 o)) = T j_ (T 201 (T 182 o)) := fun j_ hj_ => (hx22_ (T 201 (T 182 o)) (cw_ltq hw0_.1 (by rw [A182_ 0 (by decide)]; exact tx182_)) j_).trans (A182_ j_ hj_)
      have B183n_ : ∀ j_, j_ ≠ 197 → T22_ j_ (T 183 o) = T j_ (T 183 o) := fun j_ hj_ => (hx22_ (T 183 o) (cw_lt hw0_.1 ((B183_ 0 (by decide)).trans tl183_) (fun _ _ _ => ⟨_, rfl⟩)) j_).trans (B183_ j_ hj_)
      have A183n_ : ∀ j_, j_ ≠ 197 → T22_ j_ (T 201 (T 183 o)) = T j_ (T 201 (T 183 o)) := fun j_ hj_ => (hx22_ (T 201 (T 183 o)) (cw_ltq hw0_.1 (by rw [A183_ 0 (by decide)]; exact tx183_)) j_).trans (A183_ j_ hj_)
      have B180_ := B180n_
      have A180_ := A180n_
      have B181_ := B181n_
      have A181_ := A181n_
      have B182_ := B182n_
      have A182_ := A182n_
      have B183_ := B183n_
      have A183_ := A183n_
      have u23_ : T22_ 0 o = 9 := (hx22_ o (cw_lt hw0_.1 u11_ (fun _ _ _ => ⟨_, rfl⟩)) 0).trans u11_
      have u24_ : T22_ 0 (T 192 o) = 4 := (hx22_ (T 192 o) (cw_lt hw0_.1 u12_ (fun _ _ _ => ⟨_, rfl⟩)) 0).trans u12_
      have u25_ : T22_ 0 (T 182 o) = 10 := (hx22_ (T 182 o) (cw_lt hw0_.1 u13_ (fun _ _ _ => ⟨_, rfl⟩)) 0).trans u13_
      have u26_ : T22_ 0 q10_ = 108 := (hx22_ q10_ (cw_lt hw0_.1 tq10_ (fun _ _ _ => ⟨_, rfl⟩)) 0).trans tq10_
      have u27_ : T22_ 2 (T 182 o) = 8 := (hx22_ (T 182 o) (cw_lt hw0_.1 u13_ (fun _ _ _ => ⟨_, rfl⟩)) 2).trans u14_
      have u28_ : T22_ 180 o = T 180 o := (hx22_ o (cw_lt hw0_.1 u11_ (fun _ _ _ => ⟨_, rfl⟩)) 180).trans u15_
      have u29_ : T22_ 181 o = T 181 o := (hx22_ o (cw_lt hw0_.1 u11_ (fun _ _ _ => ⟨_, rfl⟩)) 181).trans u16_
      have u30_ : T22_ 182 o = T 182 o := (hx22_ o (cw_lt hw0_.1 u11_ (fun _ _ _ => ⟨_, rfl⟩)) 182).trans u17_
      have u31_ : T22_ 183 o = T 183 o := (hx22_ o (cw_lt hw0_.1 u11_ (fun _ _ _ => ⟨_, rfl⟩)) 183).trans u18_
      have u32_ : T22_ 192 o = T 192 o := (hx22_ o (cw_lt hw0_.1 u11_ (fun _ _ _ => ⟨_, rfl⟩)) 192).trans u19_
      have u33_ : T22_ 82 (T 192 o) = T 82 (T 192 o) := (hx22_ (T 192 o) (cw_lt hw0_.1 u12_ (fun _ _ _ => ⟨_, rfl⟩)) 82).trans u20_
      refine j_aload_n E 96 rfl dX9_wording_95 rfl (lv_at hl 1 rfl) ?_
      refine g_192 E hK hw fl_X9_55 u23_ 99 rfl dX9_wording_96 ?_
      have hw0_ := hw
      refine aV_n E (n_X3_copyOfCode l D cy κ T22_ (upV (upV (upV (upV (upV (upV (upV (upV (upV (upV (upV v_0 186 (upB (v_0 186) o 0)) 190 (upB (v_0 190) o 0)) 191 (upB (v_0 191) o ((-1)))) 80 y80_8) 81 y81_8) 83 y83_8) 84 y84_8) 86 y86_8) 123 y123_8) 124 y124_8) 160 (upB (v_0 160) q10_ 0)) (T22_ 192 o) H.size  hO22_ (wt_192 hT22_ u23_)  (show (y86_8 ((T22_ 192 o))) ≤ 400 from by rw [u32_]; omega)) mt_X3_copyOfCode ml_X9_158 hK hZ hAc hw (cw_rc4 hK hw.1 (wt_192 hT22_ u23_)) hA ⟨(Nat.le_of_ble_eq_true rfl), (Nat.le_of_ble_eq_true rfl)⟩ ⟨(Nat.le_of_ble_eq_true rfl), (Nat.le_of_ble_eq_true rfl)⟩ (As := []) (rest := [.ref xx22_, .int (J zz21_), .ref q10_, .ref q10_, .ref (T 182 o)]) rfl rfl hl.1 (Nat.le_of_ble_eq_true rfl) 102 rfl dX9_wording_99 (fun xx34_ T34_ v_34 H locs hge34_ ho34_ hq34_ hw => ?_)
      obtain ⟨ev34_, hh34_⟩ := hq34_
      rw [ev34_] at hw; clear ev34_
      obtain ⟨hx34_, tq34_⟩ := hh34_
      have hT34_ : WT T34_ := hw.1.2.1
      have hO34_ : ∀ x, ow T34_ x → κ 2 2 ≤ x := fun x h => hAc x (hw.2.1 x h)
      have hoT_ : OW T T34_ s.heap.size := OW.tr hw0_.2.2.1 hoT_ ho34_
      have B180n_ : ∀ j_, j_ ≠ 197 → T34_ j_ (T 180 o) = T j_ (T 180 o) := fun j_ hj_ => (hx34_ (T 180 o) (cw_lt hw0_.1 ((B180_ 0 (by decide)).trans tl180_) (fun _ _ _ => ⟨_, rfl⟩)) j_).trans (B180_ j_ hj_)
      have A180n_ : ∀ j_, j_ ≠ 197 → T34_ j_ (T 201 (T 180 o)) = T j_ (T 201 (T 180 o)) := fun j_ hj_ => (hx34_ (T 201 (T 180 o)) (cw_ltq hw0_.1 (by rw [A180_ 0 (by decide)]; exact tx180_)) j_).trans (A180_ j_ hj_)
      have B181n_ : ∀ j_, j_ ≠ 197 → T34_ j_ (T 181 o) = T j_ (T 181 o) := fun j_ hj_ => (hx34_ (T 181 o) (cw_lt hw0_.1 ((B181_ 0 (by decide)).trans tl181_) (fun _ _ _ => ⟨_, rfl⟩)) j_).trans (B181_ j_ hj_)
      have A181n_ : ∀ j_, j_ ≠ 197 → T34_ j_ (T 201 (T 181 o)) = T j_ (T 201 (T 181 o)) := fun j_ hj_ => (hx34_ (T 201 (T 181 o)) (cw_ltq hw0_.1 (by rw [A181_ 0 (by decide)]; exact tx181_)) j_).trans (A181_ j_ hj_)
      have B182n_ : ∀ j_, j_ ≠ 197 → T34_ j_ (T 182 o) = T j_ (T 182 o) := fun j_ hj_ => (hx34_ (T 182 o) (cw_lt hw0_.1 ((B182_ 0 (by decide)).trans tl182_) (fun _ _ _ => ⟨_, rfl⟩)) j_).trans (B182_ j_ hj_)
      have A182n_ : ∀ j_, j_ ≠ 197 → T34_ j_ (T 201 (T 182 o)) = T j_ (T 201 (T 182 o)) := fun j_ hj_ => (hx34_ (T 201 (T 182 o)) (cw_ltq hw0_.1 (by rw [A182_ 0 (by decide)]; exact tx182_)) j_).trans (A182_ j_ hj_)
      have B183n_ : ∀ j_, j_ ≠ 197 → T34_ j_ (T 183 o) = T j_ (T 183 o) := fun j_ hj_ => (hx34_ (T 183 o) (cw_lt hw0_.1 ((B183_ 0 (by decide)).trans tl183_) (fun _ _ _ => ⟨_, rfl⟩)) j_).trans (B183_ j_ hj_)
      have A183n_ : ∀ j_, j_ ≠ 197 → T34_ j_ (T 201 (T 183 o)) = T j_ (T 201 (T 183 o)) := fun j_ hj_ => (hx34_ (T 201 (T 183 o)) (cw_ltq hw0_.1 (by rw [A183_ 0 (by decide)]; exact tx183_)) j_).trans (A183_ j_ hj_)
      have B180_ := B180n_
      have A180_ := A180n_
      have B181_ := B181n_
      have A181_ := A181n_
      have B182_ := B182n_
      have A182_ := A182n_
      have B183_ := B183n_
      have A183_ := A183n_
      have u35_ : T34_ 0 o = 9 := (hx34_ o (cw_lt hw0_.1 u23_ (fun _ _ _ => ⟨_, rfl⟩)) 0).trans u23_
      have u36_ : T34_ 0 (T 192 o) = 4 := (hx34_ (T 192 o) (cw_lt hw0_.1 u24_ (fun _ _ _ => ⟨_, rfl⟩)) 0).trans u24_
      have u37_ : T34_ 0 (T 182 o) = 10 := (hx34_ (T 182 o) (cw_lt hw0_.1 u25_ (fun _ _ _ => ⟨_, rfl⟩)) 0).trans u25_
      have u38_ : T34_ 0 q10_ = 108 := (hx34_ q10_ (cw_lt hw0_.1 u26_ (fun _ _ _ => ⟨_, rfl⟩)) 0).trans u26_
      have u39_ : T34_ 0 xx22_ = 20 := (hx34_ xx22_ (cw_lt hw0_.1 tq22_ (fun _ _ _ => ⟨_, rfl⟩)) 0).trans tq22_
      have u40_ : T34_ 2 (T 182 o) = 8 := (hx34_ (T 182 o) (cw_lt hw0_.1 u25_ (fun _ _ _ => ⟨_, rfl⟩)) 2).trans u27_
      have u41_ : T34_ 180 o = T 180 o := (hx34_ o (cw_lt hw0_.1 u23_ (fun _ _ _ => ⟨_, rfl⟩)) 180).trans u28_
      have u42_ : T34_ 181 o = T 181 o := (hx34_ o (cw_lt hw0_.1 u23_ (fun _ _ _ => ⟨_, rfl⟩)) 181).trans u29_
      have u43_ : T34_ 182 o = T 182 o := (hx34_ o (cw_lt hw0_.1 u23_ (fun _ _ _ => ⟨_, rfl⟩)) 182).trans u30_
      have u44_ : T34_ 183 o = T 183 o := (hx34_ o (cw_lt hw0_.1 u23_ (fun _ _ _ => ⟨_, rfl⟩)) 183).trans u31_
      have u45_ : T34_ 192 o = T 192 o := (hx34_ o (cw_lt hw0_.1 u23_ (fun _ _ _ => ⟨_, rfl⟩)) 192).trans u32_
      have u46_ : T34_ 82 (T 192 o) = T 82 (T 192 o) := (hx34_ (T 192 o) (cw_lt hw0_.1 u24_ (fun _ _ _ => ⟨_, rfl⟩)) 82).trans u33_
      have hw0_ := hw
      refine aI_v E (n_X7_init l D cy κ T34_ (upV (upV (upV (upV (upV (upV (upV (upV (upV (upV (upV v_0 186 (upB (v_0 186) o 0)) 190 (upB (v_0 190) o 0)) 191 (upB (v_0 191) o ((-1)))) 80 y80_8) 81 y81_8) 83 y83_8) 84 y84_8) 86 y86_8) 123 y123_8) 124 y124_8) 160 (upB (v_0 160) q10_ 0)) q10_ zz21_ xx22_ xx34_ H.size  hO34_ u38_ rr21_ u39_ tq34_ (show zz21_ ≤ 40 from by first | omega | (simp only [upB_same]; omega))) mi_X7_init ml_X9_161 hK hZ hAc hw hA ⟨(Nat.le_of_ble_eq_true rfl), (Nat.le_of_ble_eq_true rfl)⟩ ⟨(Nat.le_of_ble_eq_true rfl), (Nat.le_of_ble_eq_true rfl)⟩ (As := [.int (J zz21_), .ref xx22_, .ref xx34_]) (rest := [.ref q10_, .ref (T 182 o)]) rfl rfl hl.1 (Nat.le_of_ble_eq_true rfl) 105 rfl dX9_wording_102 (fun T47_ v_47 H locs hge47_ ho47_ hq47_ hw => ?_)
      obtain ⟨y160_47, ev47_, hh47_⟩ := hq47_
      rw [ev47_] at hw; clear ev47_
      obtain ⟨hx47_, tq47_⟩ := hh47_
      have hT47_ : WT T47_ := hw.1.2.1
      have hO47_ : ∀ x, ow T47_ x → κ 2 2 ≤ x := fun x h => hAc x (hw.2.1 x h)
      have hoT_ : OW T T47_ s.heap.size := OW.tr hw0_.2.2.1 hoT_ ho47_
      have B180n_ : ∀ j_, j_ ≠ 197 → T47_ j_ (T 180 o) = T j_ (T 180 o) := fun j_ hj_ => (hx47_ (T 180 o) (cw_lt hw0_.1 ((B180_ 0 (by decide)).trans tl180_) (fun _ _ _ => ⟨_, rfl⟩)) (ty_ne ((B180_ 0 (by decide)).trans tl180_) u38_ (by decide)) j_).trans (B180_ j_ hj_)
      have A180n_ : ∀ j_, j_ ≠ 197 → T47_ j_ (T 201 (T 180 o)) = T j_ (T 201 (T 180 o)) := fun j_ hj_ => (hx47_ (T 201 (T 180 o)) (cw_ltq hw0_.1 (by rw [A180_ 0 (by decide)]; exact tx180_)) (ty_neq (by rw [A180_ 0 (by decide)]; exact tx180_) u38_ (by decide) (by decide)) j_).trans (A180_ j_ hj_)
      have B181n_ : ∀ j_, j_ ≠ 197 → T47_ j_ (T 181 o) = T j_ (T 181 o) := fun j_ hj_ => (hx47_ (T 181 o) (cw_lt hw0_.1 ((B181_ 0 (by decide)).trans tl181_) (fun _ _ _ => ⟨_, rfl⟩)) (ty_ne ((B181_ 0 (by decide)).trans tl181_) u38_ (by decide)) j_).trans (B181_ j_ hj_)
      have A181n_ : ∀ j_, j_ ≠ 197 → T47_ j_ (T 201 (T 181 o)) = T j_ (T 201 (T 181 o)) := fun j_ hj_ => (hx47_ (T 201 (T 181 o)) (cw_ltq hw0_.1 (by rw [A181_ 0 (by decide)]; exact tx181_)) (ty_neq (by rw [A181_ 0 (by decide)]; exact tx181_) u38_ (by decide) (by decide)) j_).trans (A181_ j_ hj_)
      have B182n_ : ∀ j_, j_ ≠ 197 → T47_ j_ (T 182 o) = T j_ (T 182 o) := fun j_ hj_ => (hx47_ (T 182 o) (cw_lt hw0_.1 ((B182_ 0 (by decide)).trans tl182_) (fun _ _ _ => ⟨_, rfl⟩)) (ty_ne ((B182_ 0 (by decide)).trans tl182_) u38_ (by decide)) j_).trans (B182_ j_ hj_)
      have A182n_ : ∀ j_, j_ ≠ 197 → T47_ j_ (T 201 (T 182 o)) = T j_ (T 201 (T 182 o)) := fun j_ hj_ => (hx47_ (T 201 (T 182 o)) (cw_ltq hw0_.1 (by rw [A182_ 0 (by decide)]; exact tx182_)) (ty_neq (by rw [A182_ 0 (by decide)]; exact tx182_) u38_ (by decide) (by decide)) j_).trans (A182_ j_ hj_)
      have B183n_ : ∀ j_, j_ ≠ 197 → T47_ j_ (T 183 o) = T j_ (T 183 o) := fun j_ hj_ => (hx47_ (T 183 o) (cw_lt hw0_.1 ((B183_ 0 (by decide)).trans tl183_) (fun _ _ _ => ⟨_, rfl⟩)) (ty_ne ((B183_ 0 (by decide)).trans tl183_) u38_ (by decide)) j_).trans (B183_ j_ hj_)
      have A183n_ : ∀ j_, j_ ≠ 197 → T47_ j_ (T 201 (T 183 o)) = T j_ (T 201 (T 183 o)) := fun j_ hj_ => (hx47_ (T 201 (T 183 o)) (cw_ltq hw0_.1 (by rw [A183_ 0 (by decide)]; exact tx183_)) (ty_neq (by rw [A183_ 0 (by decide)]; exact tx183_) u38_ (by decide) (by decide)) j_).trans (A183_ j_ hj_)
      have B180_ := B180n_
      have A180_ := A180n_
      have B181_ := B181n_
      have A181_ := A181n_
      have B182_ := B182n_
      have A182_ := A182n_
      have B183_ := B183n_
      have A183_ := A183n_
      have u48_ : T47_ 0 o = 9 := (hx47_ o (cw_lt hw0_.1 u35_ (fun _ _ _ => ⟨_, rfl⟩)) (ty_ne u35_ u38_ (by decide)) 0).trans u35_
      have u49_ : T47_ 0 (T 192 o) = 4 := (hx47_ (T 192 o) (cw_lt hw0_.1 u36_ (fun _ _ _ => ⟨_, rfl⟩)) (ty_ne u36_ u38_ (by decide)) 0).trans u36_
      have u50_ : T47_ 0 (T 182 o) = 10 := (hx47_ (T 182 o) (cw_lt hw0_.1 u37_ (fun _ _ _ => ⟨_, rfl⟩)) (ty_ne u37_ u38_ (by decide)) 0).trans u37_
      have u51_ : T47_ 2 (T 182 o) = 8 := (hx47_ (T 182 o) (cw_lt hw0_.1 u37_ (fun _ _ _ => ⟨_, rfl⟩)) (ty_ne u37_ u38_ (by decide)) 2).trans u40_
      have u52_ : T47_ 180 o = T 180 o := (hx47_ o (cw_lt hw0_.1 u35_ (fun _ _ _ => ⟨_, rfl⟩)) (ty_ne u35_ u38_ (by decide)) 180).trans u41_
      have u53_ : T47_ 181 o = T 181 o := (hx47_ o (cw_lt hw0_.1 u35_ (fun _ _ _ => ⟨_, rfl⟩)) (ty_ne u35_ u38_ (by decide)) 181).trans u42_
      have u54_ : T47_ 182 o = T 182 o := (hx47_ o (cw_lt hw0_.1 u35_ (fun _ _ _ => ⟨_, rfl⟩)) (ty_ne u35_ u38_ (by decide)) 182).trans u43_
      have u55_ : T47_ 183 o = T 183 o := (hx47_ o (cw_lt hw0_.1 u35_ (fun _ _ _ => ⟨_, rfl⟩)) (ty_ne u35_ u38_ (by decide)) 183).trans u44_
      have u56_ : T47_ 192 o = T 192 o := (hx47_ o (cw_lt hw0_.1 u35_ (fun _ _ _ => ⟨_, rfl⟩)) (ty_ne u35_ u38_ (by decide)) 192).trans u45_
      have u57_ : T47_ 82 (T 192 o) = T 82 (T 192 o) := (hx47_ (T 192 o) (cw_lt hw0_.1 u36_ (fun _ _ _ => ⟨_, rfl⟩)) (ty_ne u36_ u38_ (by decide)) 82).trans u46_
      have hw0_ := hw
      refine aV_i E (n_Jx4a65c_add_9ea2d_n2 l D cy κ T47_ (upV (upV (upV (upV (upV (upV (upV (upV (upV (upV (upV (upV v_0 186 (upB (v_0 186) o 0)) 190 (upB (v_0 190) o 0)) 191 (upB (v_0 191) o ((-1)))) 80 y80_8) 81 y81_8) 83 y83_8) 84 y84_8) 86 y86_8) 123 y123_8) 124 y124_8) 160 (upB (v_0 160) q10_ 0)) 160 y160_47) (T 182 o) q10_ H.size  hO47_ u50_  (tq47_.trans u51_.symm) (fun x_ h_ => hp0 x_ ((hoT_ x_).2 h_)) (show ((v_0 202) ((T 182 o))) ≤ 200 from by omega)) mt_Jx4a65c_add_9ea2d ml_X9_89 hK hZ hAc hw (cw_rc10 hK hw.1 u50_) hA ⟨(Nat.le_of_ble_eq_true rfl), (Nat.le_of_ble_eq_true rfl)⟩ ⟨(Nat.le_of_ble_eq_true rfl), (Nat.le_of_ble_eq_true rfl)⟩ (As := [.ref q10_]) (rest := []) rfl rfl hl.1 (Nat.le_of_ble_eq_true rfl) 108 rfl dX9_wording_105 (fun zz58_ T58_ v_58 H locs rr58_ hge58_ ho58_ hq58_ hw => ?_)
      obtain ⟨y200_58, y202_58, ev58_, hh58_⟩ := hq58_
      rw [ev58_] at hw; clear ev58_
      obtain ⟨hy58_, hx58_, hz58_, hl58_, hel58_, hnw58_⟩ := hh58_
      have hy58_ : y202_58 = upB (v_0 202) (T 182 o) ((v_0 202) (T 182 o) + 1) := hy58_
      have hT58_ : WT T58_ := hw.1.2.1
      have hO58_ : ∀ x, ow T58_ x → κ 2 2 ≤ x := fun x h => hAc x (hw.2.1 x h)
      have hoT_ : OW T T58_ s.heap.size := OW.tr hw0_.2.2.1 hoT_ ho58_
      have B180n_ : ∀ j_, j_ ≠ 197 → T58_ j_ (T 180 o) = T j_ (T 180 o) := fun j_ hj_ => (hx58_ (T 180 o) (cw_lt hw0_.1 ((B180_ 0 (by decide)).trans tl180_) (fun _ _ _ => ⟨_, rfl⟩)) ((ls_ne hT t_o).2.1) (fun h_ => absurd (((B180_ 0 (by decide)).trans tl180_).symm.trans h_) (by decide)) j_).trans (B180_ j_ hj_)
      have A180n_ : ∀ j_, j_ ≠ 197 → T58_ j_ (T 201 (T 180 o)) = T j_ (T 201 (T 180 o)) := fun j_ hj_ => (hx58_ (T 201 (T 180 o)) (cw_ltq hw0_.1 (by rw [A180_ 0 (by decide)]; exact tx180_)) (ty_neq (by rw [A180_ 0 (by decide)]; exact tx180_) u50_ (by decide) (by decide)) (fun h_ => by rw [B182_ 201 (by decide)]; exact own_ne hT tl180_ tl182_ ((ls_ne hT t_o).2.1) ((A180_ 0 (by decide)).symm.trans h_)) j_).trans (A180_ j_ hj_)
      have B181n_ : ∀ j_, j_ ≠ 197 → T58_ j_ (T 181 o) = T j_ (T 181 o) := fun j_ hj_ => (hx58_ (T 181 o) (cw_lt hw0_.1 ((B181_ 0 (by decide)).trans tl181_) (fun _ _ _ => ⟨_, rfl⟩)) ((ls_ne hT t_o).2.2.2.2.1) (fun h_ => absurd (((B181_ 0 (by decide)).trans tl181_).symm.trans h_) (by decide)) j_).trans (B181_ j_ hj_)
      have A181n_ : ∀ j_, j_ ≠ 197 → T58_ j_ (T 201 (T 181 o)) = T j_ (T 201 (T 181 o)) := fun j_ hj_ => (hx58_ (T 201 (T 181 o)) (cw_ltq hw0_.1 (by rw [A181_ 0 (by decide)]; exact tx181_)) (ty_neq (by rw [A181_ 0 (by decide)]; exact tx181_) u50_ (by decide) (by decide)) (fun h_ => by rw [B182_ 201 (by decide)]; exact own_ne hT tl181_ tl182_ ((ls_ne hT t_o).2.2.2.2.1) ((A181_ 0 (by decide)).symm.trans h_)) j_).trans (A181_ j_ hj_)
      have B183n_ : ∀ j_, j_ ≠ 197 → T58_ j_ (T 183 o) = T j_ (T 183 o) := fun j_ hj_ => (hx58_ (T 183 o) (cw_lt hw0_.1 ((B183_ 0 (by decide)).trans tl183_) (fun _ _ _ => ⟨_, rfl⟩)) ((ls_ne hT t_o).2.2.2.2.2.2.2.2.2.2.2) (fun h_ => absurd (((B183_ 0 (by decide)).trans tl183_).symm.trans h_) (by decide)) j_).trans (B183_ j_ hj_)
      have A183n_ : ∀ j_, j_ ≠ 197 → T58_ j_ (T 201 (T 183 o)) = T j_ (T 201 (T 183 o)) := fun j_ hj_ => (hx58_ (T 201 (T 183 o)) (cw_ltq hw0_.1 (by rw [A183_ 0 (by decide)]; exact tx183_)) (ty_neq (by rw [A183_ 0 (by decide)]; exact tx183_) u50_ (by decide) (by decide)) (fun h_ => by rw [B182_ 201 (by decide)]; exact own_ne hT tl183_ tl182_ ((ls_ne hT t_o).2.2.2.2.2.2.2.2.2.2.2) ((A183_ 0 (by decide)).symm.trans h_)) j_).trans (A183_ j_ hj_)
      have B180_ := B180n_
      have A180_ := A180n_
      have B181_ := B181n_
      have A181_ := A181n_
      have B183_ := B183n_
      have A183_ := A183n_
      have u59_ : T58_ 0 o = 9 := (hx58_ o (cw_lt hw0_.1 u48_ (fun _ _ _ => ⟨_, rfl⟩)) (ty_ne u48_ u50_ (by decide)) (fun h_ => absurd (u48_.symm.trans h_) (by decide)) 0).trans u48_
      have u60_ : T58_ 0 (T 192 o) = 4 := (hx58_ (T 192 o) (cw_lt hw0_.1 u49_ (fun _ _ _ => ⟨_, rfl⟩)) (ty_ne u49_ u50_ (by decide)) (fun h_ => absurd (u49_.symm.trans h_) (by decide)) 0).trans u49_
      have u61_ : T58_ 180 o = T 180 o := (hx58_ o (cw_lt hw0_.1 u48_ (fun _ _ _ => ⟨_, rfl⟩)) (ty_ne u48_ u50_ (by decide)) (fun h_ => absurd (u48_.symm.trans h_) (by decide)) 180).trans u52_
      have u62_ : T58_ 181 o = T 181 o := (hx58_ o (cw_lt hw0_.1 u48_ (fun _ _ _ => ⟨_, rfl⟩)) (ty_ne u48_ u50_ (by decide)) (fun h_ => absurd (u48_.symm.trans h_) (by decide)) 181).trans u53_
      have u63_ : T58_ 182 o = T 182 o := (hx58_ o (cw_lt hw0_.1 u48_ (fun _ _ _ => ⟨_, rfl⟩)) (ty_ne u48_ u50_ (by decide)) (fun h_ => absurd (u48_.symm.trans h_) (by decide)) 182).trans u54_
      have u64_ : T58_ 183 o = T 183 o := (hx58_ o (cw_lt hw0_.1 u48_ (fun _ _ _ => ⟨_, rfl⟩)) (ty_ne u48_ u50_ (by decide)) (fun h_ => absurd (u48_.symm.trans h_) (by decide)) 183).trans u55_
      have u65_ : T58_ 192 o = T 192 o := (hx58_ o (cw_lt hw0_.1 u48_ (fun _ _ _ => ⟨_, rfl⟩)) (ty_ne u48_ u50_ (by decide)) (fun h_ => absurd (u48_.symm.trans h_) (by decide)) 192).trans u56_
      have u66_ : T58_ 82 (T 192 o) = T 82 (T 192 o) := (hx58_ (T 192 o) (cw_lt hw0_.1 u49_ (fun _ _ _ => ⟨_, rfl⟩)) (ty_ne u49_ u50_ (by decide)) (fun h_ => absurd (u49_.symm.trans h_) (by decide)) 82).trans u57_
      refine j_pop E 109 rfl dX9_wording_108 rfl ?_
      refine j_aload_n E 110 rfl dX9_wording_109 rfl (lv_at hl 1 rfl) ?_
      refine g_182 E hK hw fl_X9_19 u59_ 113 rfl dX9_wording_110 ?_
      refine kV_i E (c_Jx4a65c_size_8abf5 l D cy T58_ (upV (upV (upV (upV (upV (upV (upV (upV (upV (upV (upV (upV (upV (upV v_0 186 (upB (v_0 186) o 0)) 190 (upB (v_0 190) o 0)) 191 (upB (v_0 191) o ((-1)))) 80 y80_8) 81 y81_8) 83 y83_8) 84 y84_8) 86 y86_8) 123 y123_8) 124 y124_8) 160 (upB (v_0 160) q10_ 0)) 160 y160_47) 200 y200_58) 202 y202_58) (T58_ 182 o)  (wt_182 hT58_ u59_)  ) mt_Jx4a65c_size_8abf5 ml_X9_80 hK hw (cw_rc10 hK hw.1 (wt_182 hT58_ u59_)) hA ⟨Nat.le_of_ble_eq_true rfl, Nat.le_of_ble_eq_true rfl⟩ ⟨Nat.le_of_ble_eq_true rfl, Nat.le_of_ble_eq_true rfl⟩ (As := []) (rest := []) rfl rfl hl.1 (Nat.le_of_ble_eq_true rfl) 116 rfl dX9_wording_113 (fun zz67_ v_67 H locs rr67_ hq67_ hw => ?_)
      obtain ⟨ev67_, hh67_⟩ := hq67_
      rw [ev67_] at hw; clear ev67_
      have hh67_ : zz67_ = (y202_58 ((T58_ 182 o))) ∧ 0 ≤ zz67_ := hh67_
      refine j_iconst E 117 rfl dX9_wording_116 ?_
      refine j_isub E 118 rfl dX9_wording_117 ?_
      refine j_norm (fun zz68_ rr68_ ee68_ => ?_)
      exact hret 118 zz68_ T58_ _ _ _ ls _ _ hw hoT_ rr68_ (⟨u59_, ⟨u61_, u62_, u63_, u64_⟩, upB_same _ _ _, rfl, (by show y202_58 (T 180 o) = v_0 202 (T 180 o); rw [hy58_]; exact upB_ne ((ls_ne hT t_o).2.1)), (by show y202_58 (T 181 o) = v_0 202 (T 181 o); rw [hy58_]; exact upB_ne ((ls_ne hT t_o).2.2.2.2.1)), (by show y202_58 (T 183 o) = v_0 202 (T 183 o); rw [hy58_]; exact upB_ne ((ls_ne hT t_o).2.2.2.2.2.2.2.2.2.2.2)), (fun i_ => by rw [u61_, B180_ 201 (by decide), A180_ (1000 + i_) (by omega)]), rfl, rfl, rfl, rfl, rfl, trivial⟩) (Nat.le_of_ble_eq_true rfl) (Nat.le_of_ble_eq_true rfl) dX9_wording_118
    · refine j_aload_n E 50 rfl dX9_wording_49 rfl (lv_at hl 1 rfl) ?_
      refine j_aload_n E 51 rfl dX9_wording_50 rfl (lv_at hl 1 rfl) ?_
      refine g_192 E hK hw fl_X9_55 t_o 54 rfl dX9_wording_51 ?_
      refine g_80 E hK hw fl_X9_150 (wt_192 hT t_o) (y80_8 (T 192 o)) rfl 57 rfl dX9_wording_54 (fun rr69_ => ?_)
      refine p_190 E hK hw fl_X9_46 t_o rr69_ 60 rfl dX9_wording_57 (fun H locs hw => ?_)
      have hw : WK D cy T (upV (upV (upV (upV (upV (upV (upV (upV (upV (upV (upV v_0 186 (upB (v_0 186) o 0)) 190 (upB (v_0 190) o 0)) 191 (upB (v_0 191) o ((-1)))) 80 y80_8) 81 y81_8) 83 y83_8) 84 y84_8) 86 y86_8) 123 y123_8) 124 y124_8) 190 (upB (upB (v_0 190) o 0) o (y80_8 (T 192 o)))) A0 s.heap H locs := hw
      refine j_aload_n E 61 rfl dX9_wording_60 rfl (lv_at hl 1 rfl) ?_
      refine j_aload_n E 62 rfl dX9_wording_61 rfl (lv_at hl 1 rfl) ?_
      refine g_192 E hK hw fl_X9_55 t_o 65 rfl dX9_wording_62 ?_
      refine g_81 E hK hw fl_X9_151 (wt_192 hT t_o) (y81_8 (T 192 o)) rfl 68 rfl dX9_wording_65 (fun rr71_ => ?_)
      refine p_191 E hK hw fl_X9_49 t_o rr71_ 71 rfl dX9_wording_68 (fun H locs hw => ?_)
      have hw : WK D cy T (upV (upV (upV (upV (upV (upV (upV (upV (upV (upV (upV (upV v_0 186 (upB (v_0 186) o 0)) 190 (upB (v_0 190) o 0)) 191 (upB (v_0 191) o ((-1)))) 80 y80_8) 81 y81_8) 83 y83_8) 84 y84_8) 86 y86_8) 123 y123_8) 124 y124_8) 190 (upB (upB (v_0 190) o 0) o (y80_8 (T 192 o)))) 191 (upB (upB (v_0 191) o ((-1))) o (y81_8 (T 192 o)))) A0 s.heap H locs := hw
      refine j_iconst E 72 rfl dX9_wording_71 ?_
      exact hret 72 ((-1)) T _ _ _ ls _ _ hw hoT_ (rr (by decide)) (⟨t_o, ⟨rfl, rfl, rfl, rfl⟩, upB_same _ _ _, rfl, rfl, rfl, rfl, (fun _ => rfl), rfl, rfl, rfl, rfl, rfl, trivial⟩) (Nat.le_of_ble_eq_true rfl) (Nat.le_of_ble_eq_true rfl) dX9_wording_72
  · refine j_iconst E 33 rfl dX9_wording_32 ?_
    exact hret 33 ((-1)) T _ _ _ ls _ _ hw hoT_ (rr (by decide)) (⟨t_o, ⟨rfl, rfl, rfl, rfl⟩, upB_same _ _ _, rfl, rfl, rfl, rfl, (fun _ => rfl), rfl, rfl, rfl, rfl, rfl, trivial⟩) (Nat.le_of_ble_eq_true rfl) (Nat.le_of_ble_eq_true rfl) dX9_wording_33
set_option maxHeartbeats 4000000 in
set_option maxRecDepth 100000 in
theorem n_X9_plan_n3 (l : Launch) (D : va_G) (cy : Nat → ClassId) (κ T : Nat → Nat → Nat) (v_0 : Nat → Nat → Int) (o : Nat) (v_s : Int) (v_m : Int) (v_w : Int) (sz : Nat) (hO : ∀ x, ow T x → κ 2 2 ≤ x) (t_o : T 0 o = 9) (r_v_s : inR v_s) (r_v_m : inR v_m) (r_v_w : inR v_w) (hp0 : ∀ x, T 0 x = 26 → x = κ 2 0) : KA l D cy κ T yX9_plan cX9_plan 7 (some .int) 5 5 6600 [.ref o, .int (J v_s), .int (J v_m), .int (J v_w)] v_0 sz (AI (fun (z_0 : Int) (T_2 : Nat → Nat → Nat) (v_2 : Nat → Nat → Int) => ∃ (y64_2 : Nat → Int) (y65_2 : Nat → Int) (y66_2 : Nat → Int) , v_2 = upV (upV (upV v_0 64 y64_2) 65 y65_2) 66 y66_2 ∧ (T_2 0 o = 9 ∧ (T_2 180 o = T 180 o ∧ T_2 181 o = T 181 o ∧ T_2 182 o = T 182 o ∧ T_2 183 o = T 183 o) ∧ (∀ i_ : Nat, T_2 (1000 + i_) (T_2 201 (T_2 180 o)) = T (1000 + i_) (T 201 (T 180 o)))))) := by
  refine KA.ofi (by decide) (Nat.le_of_ble_eq_true rfl) hO ?_
  intro p e s m below meth c ls ar QW A0 H locs E hK hZ hA hAc hsz hnm hw hlo_ hl hret
  have hl : lv_has ls 7 [(0, .ref o), (1, .int (J v_s)), (2, .int (J v_m)), (3, .int (J v_w))] := hl
  have hT : WT T := hw.1.2.1
  have hoT_ : OW T T s.heap.size := OW.rf T _
  have tl180_ : T 0 (T 180 o) = 10 := wt_180 hT t_o
  have tx180_ : T 0 (T 201 (T 180 o)) = 24 ∨ T 0 (T 201 (T 180 o)) = 26 := (wt10 hT tl180_).1
  have B180_ : ∀ j, j ≠ 197 → T j (T 180 o) = T j (T 180 o) := fun _ _ => rfl
  have A180_ : ∀ j, j ≠ 197 → T j (T 201 (T 180 o)) = T j (T 201 (T 180 o)) := fun _ _ => rfl
  have tl181_ : T 0 (T 181 o) = 10 := wt_181 hT t_o
  have tx181_ : T 0 (T 201 (T 181 o)) = 24 ∨ T 0 (T 201 (T 181 o)) = 26 := (wt10 hT tl181_).1
  have B181_ : ∀ j, j ≠ 197 → T j (T 181 o) = T j (T 181 o) := fun _ _ => rfl
  have A181_ : ∀ j, j ≠ 197 → T j (T 201 (T 181 o)) = T j (T 201 (T 181 o)) := fun _ _ => rfl
  have tl182_ : T 0 (T 182 o) = 10 := wt_182 hT t_o
  have tx182_ : T 0 (T 201 (T 182 o)) = 24 ∨ T 0 (T 201 (T 182 o)) = 26 := (wt10 hT tl182_).1
  have B182_ : ∀ j, j ≠ 197 → T j (T 182 o) = T j (T 182 o) := fun _ _ => rfl
  have A182_ : ∀ j, j ≠ 197 → T j (T 201 (T 182 o)) = T j (T 201 (T 182 o)) := fun _ _ => rfl
  have tl183_ : T 0 (T 183 o) = 10 := wt_183 hT t_o
  have tx183_ : T 0 (T 201 (T 183 o)) = 24 ∨ T 0 (T 201 (T 183 o)) = 26 := (wt10 hT tl183_).1
  have B183_ : ∀ j, j ≠ 197 → T j (T 183 o) = T j (T 183 o) := fun _ _ => rfl
  have A183_ : ∀ j, j ≠ 197 → T j (T 201 (T 183 o)) = T j (T 201 (T 183 o)) := fun _ _ => rfl
  refine j_aload_n E 1 rfl dX9_plan_0 rfl (lv_at hl 0 rfl) ?_
  refine j_iload_n E 2 rfl dX9_plan_1 rfl (lv_at hl 1 rfl) ?_
  refine kV_i E (c_X9_areLines l D cy T (v_0) o v_s  t_o r_v_s ) mt_X9_areLines ml_X9_371 hK hw (cw_rc9 hK hw.1 t_o) hA ⟨Nat.le_of_ble_eq_true rfl, Nat.le_of_ble_eq_true rfl⟩ ⟨Nat.le_of_ble_eq_true rfl, Nat.le_of_ble_eq_true rfl⟩ (As := [.int (J v_s)]) (rest := []) rfl rfl hl.1 (Nat.le_of_ble_eq_true rfl) 5 rfl dX9_plan_2 (fun zz1_ v_1 H locs rr1_ hq1_ hw => ?_)
  obtain ⟨ev1_, hh1_⟩ := hq1_
  rw [ev1_] at hw; clear ev1_
  refine j_if_eq E 8 26 rfl rr1_ dX9_plan_5 (by decide) (fun cc2_ => ?_) (fun cc2_ => ?_)
  · refine j_iconst E 27 rfl dX9_plan_26 ?_
    exact hret 27 ((-1)) T (upV (upV (upV v_0 64 (v_0 64)) 65 (v_0 65)) 66 (v_0 66)) _ _ ls _ _ (cw_eq hw (by first | rfl | (funext j_; simp only [upV, reduceIte]; (repeat' split) <;> first | rfl | omega | (subst_vars; rfl)))) hoT_ (rr (by decide)) ⟨(v_0 64), (v_0 65), (v_0 66), rfl, ⟨t_o, ⟨rfl, rfl, rfl, rfl⟩, (fun _ => rfl)⟩⟩ (Nat.le_of_ble_eq_true rfl) (Nat.le_of_ble_eq_true rfl) dX9_plan_27
  · refine j_iload_n E 9 rfl dX9_plan_8 rfl (lv_at hl 1 rfl) ?_
    refine kS_i E (c_J6_bitCount_0f7a4 l D cy T (v_0) v_s   r_v_s ) ms_J6_bitCount_0f7a4 ml_X9_218 hK hw hA ⟨Nat.le_of_ble_eq_true rfl, Nat.le_of_ble_eq_true rfl⟩ ⟨Nat.le_of_ble_eq_true rfl, Nat.le_of_ble_eq_true rfl⟩ (As := [.int (J v_s)]) (rest := []) rfl rfl hl.1 (Nat.le_of_ble_eq_true rfl) 12 rfl dX9_plan_9 (fun zz3_ v_3 H locs rr3_ hq3_ hw => ?_)
    obtain ⟨ev3_, hh3_⟩ := hq3_
    rw [ev3_] at hw; clear ev3_
    refine j_iconst E 13 rfl dX9_plan_12 ?_
    refine j_icmp_gt E 16 26 rfl rr3_ (rr (by decide)) dX9_plan_13 (by decide) (fun cc4_ => ?_) (fun cc4_ => ?_)
    · refine j_iconst E 27 rfl dX9_plan_26 ?_
      exact hret 27 ((-1)) T (upV (upV (upV v_0 64 (v_0 64)) 65 (v_0 65)) 66 (v_0 66)) _ _ ls _ _ (cw_eq hw (by first | rfl | (funext j_; simp only [upV, reduceIte]; (repeat' split) <;> first | rfl | omega | (subst_vars; rfl)))) hoT_ (rr (by decide)) ⟨(v_0 64), (v_0 65), (v_0 66), rfl, ⟨t_o, ⟨rfl, rfl, rfl, rfl⟩, (fun _ => rfl)⟩⟩ (Nat.le_of_ble_eq_true rfl) (Nat.le_of_ble_eq_true rfl) dX9_plan_27
    · refine j_iload_n E 17 rfl dX9_plan_16 rfl (lv_at hl 2 rfl) ?_
      refine j_iconst E 18 rfl dX9_plan_17 ?_
      refine j_icmp_lt E 21 26 rfl r_v_m (rr (by decide)) dX9_plan_18 (by decide) (fun cc5_ => ?_) (fun cc5_ => ?_)
      · refine j_iconst E 27 rfl dX9_plan_26 ?_
        exact hret 27 ((-1)) T (upV (upV (upV v_0 64 (v_0 64)) 65 (v_0 65)) 66 (v_0 66)) _ _ ls _ _ (cw_eq hw (by first | rfl | (funext j_; simp only [upV, reduceIte]; (repeat' split) <;> first | rfl | omega | (subst_vars; rfl)))) hoT_ (rr (by decide)) ⟨(v_0 64), (v_0 65), (v_0 66), rfl, ⟨t_o, ⟨rfl, rfl, rfl, rfl⟩, (fun _ => rfl)⟩⟩ (Nat.le_of_ble_eq_true rfl) (Nat.le_of_ble_eq_true rfl) dX9_plan_27
      · refine j_iload_n E 22 rfl dX9_plan_21 rfl (lv_at hl 2 rfl) ?_
        refine j_iconst E 23 rfl dX9_plan_22 ?_
        refine j_icmp_le E 26 28 rfl r_v_m (rr (by decide)) dX9_plan_23 (by decide) (fun cc6_ => ?_) (fun cc6_ => ?_)
        · have L53_7 : ∀ (s0_53 : Int) (H : Heap) (locs : List Loc) (ls : Array Slot), inR s0_53 → (True) → WK D cy T (v_0) A0 s.heap H locs → lv_has ls 7 [(0, .ref o), (1, .int (J v_s)), (2, .int (J v_m)), (3, .int (J v_w))] → W p l e (rmd 5 5 6600) s m ar below meth c H locs 0 0 QW (F0 m 53 ls [.int (J s0_53)]) := by
            intro s0_53 H locs ls r_s0_53 iv53 hw hl
            refine j_istore E 55 rfl [(4, .int (J s0_53)), (0, .ref o), (1, .int (J v_s)), (2, .int (J v_m)), (3, .int (J v_w))] dX9_plan_53 hl (by decide) rfl (fun ls hl => ?_)
            have L71_9 : ∀ (H : Heap) (locs : List Loc) (ls : Array Slot), (True) → WK D cy T (v_0) A0 s.heap H locs → lv_has ls 7 [(0, .ref o), (1, .int (J v_s)), (2, .int (J v_m)), (3, .int (J v_w)), (4, .int (J s0_53))] → W p l e (rmd 5 5 6600) s m ar below meth c H locs 0 0 QW (F0 m 71 ls []) := by
              intro H locs ls iv71 hw hl
              refine j_aload_n E 72 rfl dX9_plan_71 rfl (lv_at hl 0 rfl) ?_
              refine g_197 E hK hw fl_X9_76 t_o 75 rfl dX9_plan_72 ?_
              cases hd11_ : dcd (T 197 o) with
              | none =>
                show W p l e (rmd 5 5 6600) s m ar below meth c H locs _ _ QW (F0 m 75 ls [.null])
                refine j_ifnonnullN E 78 rfl dX9_plan_75 ?_
                have hw0_ := hw
                refine n_obj3 E hK hw hA cl_X9_374 (Nat.le_of_ble_eq_true rfl) (Nat.le_of_ble_eq_true rfl) 81 rfl dX9_plan_78 (fun q12_ T12_ H hge12_ hx12_ ho12_ tq12_ hw => ?_)
                have fq12_ : s.heap.size ≤ q12_ := Nat.le_trans hw0_.2.2.1 hge12_
                have hw : WK D cy T12_ (upV (upV (upV v_0 64 (upB (v_0 64) q12_ 0)) 65 (upB (v_0 65) q12_ 0)) 66 (upB (v_0 66) q12_ 0)) A0 s.heap H locs := cw_eq hw (by first | rfl | (funext j_; simp only [upV, reduceIte]; (repeat' split) <;> first | rfl | omega | (subst_vars; rfl)))
                have hT12_ : WT T12_ := hw.1.2.1
                have hO12_ : ∀ x, ow T12_ x → κ 2 2 ≤ x := fun x h => hAc x (hw.2.1 x h)
                have hoT_ : OW T T12_ s.heap.size := OW.tr hw0_.2.2.1 hoT_ ho12_
                have B180n_ : ∀ j_, j_ ≠ 197 → T12_ j_ (T 180 o) = T j_ (T 180 o) := fun j_ hj_ => (hx12_ (T 180 o) (Nat.ne_of_lt (Nat.lt_of_lt_of_le (cw_lt hw0_.1 ((B180_ 0 (by decide)).trans tl180_) (fun _ _ _ => ⟨_, rfl⟩)) hge12_)) j_).trans (B180_ j_ hj_)
                have A180n_ : ∀ j_, j_ ≠ 197 → T12_ j_ (T 201 (T 180 o)) = T j_ (T 201 (T 180 o)) := fun j_ hj_ => (hx12_ (T 201 (T 180 o)) (Nat.ne_of_lt (Nat.lt_of_lt_of_le (cw_ltq hw0_.1 (by rw [A180_ 0 (by decide)]; exact tx180_)) hge12_)) j_).trans (A180_ j_ hj_)
                have B181n_ : ∀ j_, j_ ≠ 197 → T12_ j_ (T 181 o) = T j_ (T 181 o) := fun j_ hj_ => (hx12_ (T 181 o) (Nat.ne_of_lt (Nat.lt_of_lt_of_le (cw_lt hw0_.1 ((B181_ 0 (by decide)).trans tl181_) (fun _ _ _ => ⟨_, rfl⟩)) hge12_)) j_).trans (B181_ j_ hj_)
                have A181n_ : ∀ j_, j_ ≠ 197 → T12_ j_ (T 201 (T 181 o)) = T j_ (T 201 (T 181 o)) := fun j_ hj_ => (hx12_ (T 201 (T 181 o)) (Nat.ne_of_lt (Nat.lt_of_lt_of_le (cw_ltq hw0_.1 (by rw [A181_ 0 (by decide)]; exact tx181_)) hge12_)) j_).trans (A181_ j_ hj_)
                have B182n_ : ∀ j_, j_ ≠ 197 → T12_ j_ (T 182 o) = T j_ (T 182 o) := fun j_ hj_ => (hx12_ (T 182 o) (Nat.ne_of_lt (Nat.lt_of_lt_of_le (cw_lt hw0_.1 ((B182_ 0 (by decide)).trans tl182_) (fun _ _ _ => ⟨_, rfl⟩)) hge12_)) j_).trans (B182_ j_ hj_)
                have A182n_ : ∀ j_, j_ ≠ 197 → T12_ j_ (T 201 (T 182 o)) = T j_ (T 201 (T 182 o)) := fun j_ hj_ => (hx12_ (T 201 (T 182 o)) (Nat.ne_of_lt (Nat.lt_of_lt_of_le (cw_ltq hw0_.1 (by rw [A182_ 0 (by decide)]; exact tx182_)) hge12_)) j_).trans (A182_ j_ hj_)
                have B183n_ : ∀ j_, j_ ≠ 197 → T12_ j_ (T 183 o) = T j_ (T 183 o) := fun j_ hj_ => (hx12_ (T 183 o) (Nat.ne_of_lt (Nat.lt_of_lt_of_le (cw_lt hw0_.1 ((B183_ 0 (by decide)).trans tl183_) (fun _ _ _ => ⟨_, rfl⟩)) hge12_)) j_).trans (B183_ j_ hj_)
                have A183n_ : ∀ j_, j_ ≠ 197 → T12_ j_ (T 201 (T 183 o)) = T j_ (T 201 (T 183 o)) := fun j_ hj_ => (hx12_ (T 201 (T 183 o)) (Nat.ne_of_lt (Nat.lt_of_lt_of_le (cw_ltq hw0_.1 (by rw [A183_ 0 (by decide)]; exact tx183_)) hge12_)) j_).trans (A183_ j_ hj_)
                have B180_ := B180n_
                have A180_ := A180n_
                have B181_ := B181n_
                have A181_ := A181n_
                have B182_ := B182n_
                have A182_ := A182n_
                have B183_ := B183n_
                have A183_ := A183n_
                have u13_ : T12_ 0 o = 9 := (hx12_ o (Nat.ne_of_lt (Nat.lt_of_lt_of_le (cw_lt hw0_.1 t_o (fun _ _ _ => ⟨_, rfl⟩)) hge12_)) 0).trans t_o
                have u14_ : T12_ 180 o = T 180 o := (hx12_ o (Nat.ne_of_lt (Nat.lt_of_lt_of_le (cw_lt hw0_.1 t_o (fun _ _ _ => ⟨_, rfl⟩)) hge12_)) 180).trans rfl
                have u15_ : T12_ 181 o = T 181 o := (hx12_ o (Nat.ne_of_lt (Nat.lt_of_lt_of_le (cw_lt hw0_.1 t_o (fun _ _ _ => ⟨_, rfl⟩)) hge12_)) 181).trans rfl
                have u16_ : T12_ 182 o = T 182 o := (hx12_ o (Nat.ne_of_lt (Nat.lt_of_lt_of_le (cw_lt hw0_.1 t_o (fun _ _ _ => ⟨_, rfl⟩)) hge12_)) 182).trans rfl
                have u17_ : T12_ 183 o = T 183 o := (hx12_ o (Nat.ne_of_lt (Nat.lt_of_lt_of_le (cw_lt hw0_.1 t_o (fun _ _ _ => ⟨_, rfl⟩)) hge12_)) 183).trans rfl
                refine j_dup E 82 rfl dX9_plan_81 rfl ?_
                have hw0_ := hw
                refine aN_v E (n_X2_init l D cy κ T12_ (upV (upV (upV v_0 64 (upB (v_0 64) q12_ 0)) 65 (upB (v_0 65) q12_ 0)) 66 (upB (v_0 66) q12_ 0)) q12_ H.size  hO12_ tq12_  ) mi_X2_init hZ.1.mP hK hZ hAc hw hA ⟨(Nat.le_of_ble_eq_true rfl), (Nat.le_of_ble_eq_true rfl)⟩ ⟨(Nat.le_of_ble_eq_true rfl), (Nat.le_of_ble_eq_true rfl)⟩ (As := []) (rest := [.ref q12_]) rfl rfl hl.1 (Nat.le_of_ble_eq_true rfl) 85 rfl dX9_plan_82 (fun T18_ v_18 H locs hge18_ ho18_ hq18_ hw => ?_)
                obtain ⟨y64_18, y65_18, y66_18, ev18_, hh18_⟩ := hq18_
                rw [ev18_] at hw; clear ev18_
                have hw : WK D cy T18_ (upV (upV (upV v_0 64 y64_18) 65 y65_18) 66 y66_18) A0 s.heap H locs := cw_eq hw (by first | rfl | (funext j_; simp only [upV, reduceIte]; (repeat' split) <;> first | rfl | omega | (subst_vars; rfl)))
                obtain ⟨hx18_, tq18_⟩ := hh18_
                have hT18_ : WT T18_ := hw.1.2.1
                have hO18_ : ∀ x, ow T18_ x → κ 2 2 ≤ x := fun x h => hAc x (hw.2.1 x h)
                have hoT_ : OW T T18_ s.heap.size := OW.tr hw0_.2.2.1 hoT_ ho18_
                have B180n_ : ∀ j_, j_ ≠ 197 → T18_ j_ (T 180 o) = T j_ (T 180 o) := fun j_ hj_ => (hx18_ (T 180 o) (cw_lt hw0_.1 ((B180_ 0 (by decide)).trans tl180_) (fun _ _ _ => ⟨_, rfl⟩)) (ty_ne ((B180_ 0 (by decide)).trans tl180_) tq12_ (by decide)) j_).trans (B180_ j_ hj_)
                have A180n_ : ∀ j_, j_ ≠ 197 → T18_ j_ (T 201 (T 180 o)) = T j_ (T 201 (T 180 o)) := fun j_ hj_ => (hx18_ (T 201 (T 180 o)) (cw_ltq hw0_.1 (by rw [A180_ 0 (by decide)]; exact tx180_)) (ty_neq (by rw [A180_ 0 (by decide)]; exact tx180_) tq12_ (by decide) (by decide)) j_).trans (A180_ j_ hj_)
                have B181n_ : ∀ j_, j_ ≠ 197 → T18_ j_ (T 181 o) = T j_ (T 181 o) := fun j_ hj_ => (hx18_ (T 181 o) (cw_lt hw0_.1 ((B181_ 0 (by decide)).trans tl181_) (fun _ _ _ => ⟨_, rfl⟩)) (ty_ne ((B181_ 0 (by decide)).trans tl181_) tq12_ (by decide)) j_).trans (B181_ j_ hj_)
                have A181n_ : ∀ j_, j_ ≠ 197 → T18_ j_ (T 201 (T 181 o)) = T j_ (T 201 (T 181 o)) := fun j_ hj_ => (hx18_ (T 201 (T 181 o)) (cw_ltq hw0_.1 (by rw [A181_ 0 (by decide)]; exact tx181_)) (ty_neq (by rw [A181_ 0 (by decide)]; exact tx181_) tq12_ (by decide) (by decide)) j_).trans (A181_ j_ hj_)
                have B182n_ : ∀ j_, j_ ≠ 197 → T18_ j_ (T 182 o) = T j_ (T 182 o) := fun j_ hj_ => (hx18_ (T 182 o) (cw_lt hw0_.1 ((B182_ 0 (by decide)).trans tl182_) (fun _ _ _ => ⟨_, rfl⟩)) (ty_ne ((B182_ 0 (by decide)).trans tl182_) tq12_ (by decide)) j_).trans (B182_ j_ hj_)
                have A182n_ : ∀ j_, j_ ≠ 197 → T18_ j_ (T 201 (T 182 o)) = T j_ (T 201 (T 182 o)) := fun j_ hj_ => (hx18_ (T 201 (T 182 o)) (cw_ltq hw0_.1 (by rw [A182_ 0 (by decide)]; exact tx182_)) (ty_neq (by rw [A182_ 0 (by decide)]; exact tx182_) tq12_ (by decide) (by decide)) j_).trans (A182_ j_ hj_)
                have B183n_ : ∀ j_, j_ ≠ 197 → T18_ j_ (T 183 o) = T j_ (T 183 o) := fun j_ hj_ => (hx18_ (T 183 o) (cw_lt hw0_.1 ((B183_ 0 (by decide)).trans tl183_) (fun _ _ _ => ⟨_, rfl⟩)) (ty_ne ((B183_ 0 (by decide)).trans tl183_) tq12_ (by decide)) j_).trans (B183_ j_ hj_)
                have A183n_ : ∀ j_, j_ ≠ 197 → T18_ j_ (T 201 (T 183 o)) = T j_ (T 201 (T 183 o)) := fun j_ hj_ => (hx18_ (T 201 (T 183 o)) (cw_ltq hw0_.1 (by rw [A183_ 0 (by decide)]; exact tx183_)) (ty_neq (by rw [A183_ 0 (by decide)]; exact tx183_) tq12_ (by decide) (by decide)) j_).trans (A183_ j_ hj_)
                have B180_ := B180n_
                have A180_ := A180n_
                have B181_ := B181n_
                have A181_ := A181n_
                have B182_ := B182n_
                have A182_ := A182n_
                have B183_ := B183n_
                have A183_ := A183n_
                have u19_ : T18_ 0 o = 9 := (hx18_ o (cw_lt hw0_.1 u13_ (fun _ _ _ => ⟨_, rfl⟩)) (ty_ne u13_ tq12_ (by decide)) 0).trans u13_
                have u20_ : T18_ 180 o = T 180 o := (hx18_ o (cw_lt hw0_.1 u13_ (fun _ _ _ => ⟨_, rfl⟩)) (ty_ne u13_ tq12_ (by decide)) 180).trans u14_
                have u21_ : T18_ 181 o = T 181 o := (hx18_ o (cw_lt hw0_.1 u13_ (fun _ _ _ => ⟨_, rfl⟩)) (ty_ne u13_ tq12_ (by decide)) 181).trans u15_
                have u22_ : T18_ 182 o = T 182 o := (hx18_ o (cw_lt hw0_.1 u13_ (fun _ _ _ => ⟨_, rfl⟩)) (ty_ne u13_ tq12_ (by decide)) 182).trans u16_
                have u23_ : T18_ 183 o = T 183 o := (hx18_ o (cw_lt hw0_.1 u13_ (fun _ _ _ => ⟨_, rfl⟩)) (ty_ne u13_ tq12_ (by decide)) 183).trans u17_
                refine j_goto E 92 dX9_plan_85 (by decide) ?_
                refine j_astore E 94 rfl [(5, .ref q12_), (0, .ref o), (1, .int (J v_s)), (2, .int (J v_m)), (3, .int (J v_w)), (4, .int (J s0_53))] dX9_plan_92 hl (by decide) rfl (fun ls hl => ?_)
                refine j_aload_n E 95 rfl dX9_plan_94 rfl (lv_at hl 1 rfl) ?_
                refine j_aload E 97 rfl dX9_plan_95 (lv_at hl 0 rfl) ?_
                have hw0_ := hw
                refine pl_put E hK hw fl_X9_76 u19_ tq18_ 100 rfl dX9_plan_97 (fun T24_ H locs hx24_ ho24_ hw => ?_)
                have hT24_ : WT T24_ := hw.1.2.1
                have hO24_ : ∀ x, ow T24_ x → κ 2 2 ≤ x := fun x h => hAc x (hw.2.1 x h)
                have hoT_ : OW T T24_ s.heap.size := OW.tr0 hoT_ ho24_
                have B180n_ : ∀ j_, j_ ≠ 197 → T24_ j_ (T 180 o) = T j_ (T 180 o) := fun j_ hj_ => (hx24_ j_ hj_ (T 180 o)).trans (B180_ j_ hj_)
                have A180n_ : ∀ j_, j_ ≠ 197 → T24_ j_ (T 201 (T 180 o)) = T j_ (T 201 (T 180 o)) := fun j_ hj_ => (hx24_ j_ hj_ (T 201 (T 180 o))).trans (A180_ j_ hj_)
                have B181n_ : ∀ j_, j_ ≠ 197 → T24_ j_ (T 181 o) = T j_ (T 181 o) := fun j_ hj_ => (hx24_ j_ hj_ (T 181 o)).trans (B181_ j_ hj_)
                have A181n_ : ∀ j_, j_ ≠ 197 → T24_ j_ (T 201 (T 181 o)) = T j_ (T 201 (T 181 o)) := fun j_ hj_ => (hx24_ j_ hj_ (T 201 (T 181 o))).trans (A181_ j_ hj_)
                have B182n_ : ∀ j_, j_ ≠ 197 → T24_ j_ (T 182 o) = T j_ (T 182 o) := fun j_ hj_ => (hx24_ j_ hj_ (T 182 o)).trans (B182_ j_ hj_)
                have A182n_ : ∀ j_, j_ ≠ 197 → T24_ j_ (T 201 (T 182 o)) = T j_ (T 201 (T 182 o)) := fun j_ hj_ => (hx24_ j_ hj_ (T 201 (T 182 o))).trans (A182_ j_ hj_)
                have B183n_ : ∀ j_, j_ ≠ 197 → T24_ j_ (T 183 o) = T j_ (T 183 o) := fun j_ hj_ => (hx24_ j_ hj_ (T 183 o)).trans (B183_ j_ hj_)
                have A183n_ : ∀ j_, j_ ≠ 197 → T24_ j_ (T 201 (T 183 o)) = T j_ (T 201 (T 183 o)) := fun j_ hj_ => (hx24_ j_ hj_ (T 201 (T 183 o))).trans (A183_ j_ hj_)
                have B180_ := B180n_
                have A180_ := A180n_
                have B181_ := B181n_
                have A181_ := A181n_
                have B182_ := B182n_
                have A182_ := A182n_
                have B183_ := B183n_
                have A183_ := A183n_
                have u25_ : T24_ 0 o = 9 := (hx24_ 0 (by decide) o).trans u19_
                have u26_ : T24_ 0 q12_ = 3 := (hx24_ 0 (by decide) q12_).trans tq18_
                have u27_ : T24_ 180 o = T 180 o := (hx24_ 180 (by decide) o).trans u20_
                have u28_ : T24_ 181 o = T 181 o := (hx24_ 181 (by decide) o).trans u21_
                have u29_ : T24_ 182 o = T 182 o := (hx24_ 182 (by decide) o).trans u22_
                have u30_ : T24_ 183 o = T 183 o := (hx24_ 183 (by decide) o).trans u23_
                refine j_aload E 102 rfl dX9_plan_100 (lv_at hl 0 rfl) ?_
                refine j_aload_n E 103 rfl dX9_plan_102 rfl (lv_at hl 1 rfl) ?_
                refine g_180 E hK hw fl_X9_12 u25_ 106 rfl dX9_plan_103 ?_
                refine kV_i E (c_Jx4a65c_size_8abf5 l D cy T24_ (upV (upV (upV v_0 64 y64_18) 65 y65_18) 66 y66_18) (T24_ 180 o)  (wt_180 hT24_ u25_)  ) mt_Jx4a65c_size_8abf5 ml_X9_80 hK hw (cw_rc10 hK hw.1 (wt_180 hT24_ u25_)) hA ⟨Nat.le_of_ble_eq_true rfl, Nat.le_of_ble_eq_true rfl⟩ ⟨Nat.le_of_ble_eq_true rfl, Nat.le_of_ble_eq_true rfl⟩ (As := []) (rest := [.ref q12_]) rfl rfl hl.1 (Nat.le_of_ble_eq_true rfl) 109 rfl dX9_plan_106 (fun zz31_ v_31 H locs rr31_ hq31_ hw => ?_)
                obtain ⟨ev31_, hh31_⟩ := hq31_
                rw [ev31_] at hw; clear ev31_
                have hh31_ : zz31_ = ((v_0 202) ((T24_ 180 o))) ∧ 0 ≤ zz31_ := hh31_
                refine kV_v E (c_X2_begin l D cy T24_ (upV (upV (upV v_0 64 y64_18) 65 y65_18) 66 y66_18) q12_ zz31_  u26_ rr31_ ) mt_X2_begin ml_X9_377 hK hw (cw_rc3 hK hw.1 u26_) hA ⟨Nat.le_of_ble_eq_true rfl, Nat.le_of_ble_eq_true rfl⟩ ⟨Nat.le_of_ble_eq_true rfl, Nat.le_of_ble_eq_true rfl⟩ (As := [.int (J zz31_)]) (rest := []) rfl rfl hl.1 (Nat.le_of_ble_eq_true rfl) 112 rfl dX9_plan_109 (fun v_32 H locs hq32_ hw => ?_)
                obtain ⟨y64_32, y65_32, y66_32, ev32_, hh32_⟩ := hq32_
                rw [ev32_] at hw; clear ev32_
                have hw : WK D cy T24_ (upV (upV (upV v_0 64 y64_32) 65 y65_32) 66 y66_32) A0 s.heap H locs := cw_eq hw (by first | rfl | (funext j_; simp only [upV, reduceIte]; (repeat' split) <;> first | rfl | omega | (subst_vars; rfl)))
                have hh32_ : (y65_32 q12_) = 0 ∧ (y66_32 q12_) = 0 ∧ 0 ≤ (y64_32 q12_) ∧ (y64_32 q12_) ≤ 24 := hh32_
                refine j_iconst E 113 rfl dX9_plan_112 ?_
                refine j_istore E 115 rfl [(6, .int (J 0)), (5, .ref q12_), (0, .ref o), (1, .int (J v_s)), (2, .int (J v_m)), (3, .int (J v_w)), (4, .int (J s0_53))] dX9_plan_113 hl (by decide) rfl (fun ls hl => ?_)
                have L115_33 : ∀ (k115 : Nat) (l6_115 : Int) (y65_c115 : Nat → Int) (y66_c115 : Nat → Int) (H : Heap) (locs : List Loc) (ls : Array Slot), inR l6_115 → (0 ≤ l6_115 ∧ 0 ≤ (y66_c115 q12_) ∧ (y66_c115 q12_) ≤ 255 ∧ 0 ≤ (y65_c115 q12_) ∧ (y65_c115 q12_) ≤ 4 ∧ 0 ≤ (y64_32 q12_) ∧ (y64_32 q12_) ≤ 24) → ((v_0 202 (T24_ 181 o)) - l6_115).toNat < k115 → WK D cy T24_ (upV (upV (upV v_0 64 y64_32) 65 y65_c115) 66 y66_c115) A0 s.heap H locs → lv_has ls 7 [(0, .ref o), (1, .int (J v_s)), (2, .int (J v_m)), (3, .int (J v_w)), (4, .int (J s0_53)), (5, .ref q12_), (6, .int (J l6_115))] → W p l e (rmd 5 5 6600) s m ar below meth c H locs 5 6531 QW (F0 m 115 ls []) := by
                  intro k115
                  induction k115 with
                  | zero =>
                    intro l6_115 y65_c115 y66_c115 H locs ls r_l6_115 iv115 ms115 hw hl
                    exact absurd ms115 (Nat.not_lt_zero _)
                  | succ k115 ih115 =>
                    intro l6_115 y65_c115 y66_c115 H locs ls r_l6_115 iv115 ms115 hw hl
                    refine j_iload E 117 rfl dX9_plan_115 (lv_at hl 6 rfl) ?_
                    refine j_aload_n E 118 rfl dX9_plan_117 rfl (lv_at hl 0 rfl) ?_
                    refine g_181 E hK hw fl_X9_16 u25_ 121 rfl dX9_plan_118 ?_
                    refine kV_i E (c_Jx4a65c_size_8abf5 l D cy T24_ (upV (upV (upV v_0 64 y64_32) 65 y65_c115) 66 y66_c115) (T24_ 181 o)  (wt_181 hT24_ u25_)  ) mt_Jx4a65c_size_8abf5 ml_X9_80 hK hw (cw_rc10 hK hw.1 (wt_181 hT24_ u25_)) hA ⟨Nat.le_of_ble_eq_true rfl, Nat.le_of_ble_eq_true rfl⟩ ⟨Nat.le_of_ble_eq_true rfl, Nat.le_of_ble_eq_true rfl⟩ (As := []) (rest := [.int (J l6_115)]) rfl rfl hl.1 (Nat.le_of_ble_eq_true rfl) 124 rfl dX9_plan_121 (fun zz35_ v_35 H locs rr35_ hq35_ hw => ?_)
                    obtain ⟨ev35_, hh35_⟩ := hq35_
                    rw [ev35_] at hw; clear ev35_
                    have hh35_ : zz35_ = ((v_0 202) ((T24_ 181 o))) ∧ 0 ≤ zz35_ := hh35_
                    refine j_icmp_ge E 127 169 rfl r_l6_115 rr35_ dX9_plan_124 (by decide) (fun cc36_ => ?_) (fun cc36_ => ?_)
                    · refine j_aload E 171 rfl dX9_plan_169 (lv_at hl 5 rfl) ?_
                      refine kV_v E (c_X2_solve l D cy T24_ (upV (upV (upV v_0 64 y64_32) 65 y65_c115) 66 y66_c115) q12_  u26_  (show 0 ≤ (y66_c115 q12_) ∧ (y66_c115 q12_) ≤ 255 ∧ 0 ≤ (y65_c115 q12_) ∧ (y65_c115 q12_) ≤ 4 ∧ 0 ≤ (y64_32 q12_) ∧ (y64_32 q12_) ≤ 24 from by omega)) mt_X2_solve ml_X9_387 hK hw (cw_rc3 hK hw.1 u26_) hA ⟨Nat.le_of_ble_eq_true rfl, Nat.le_of_ble_eq_true rfl⟩ ⟨Nat.le_of_ble_eq_true rfl, Nat.le_of_ble_eq_true rfl⟩ (As := []) (rest := []) rfl rfl hl.1 (Nat.le_of_ble_eq_true rfl) 174 rfl dX9_plan_171 (fun v_37 H locs hq37_ hw => ?_)
                      obtain ⟨ev37_, hh37_⟩ := hq37_
                      rw [ev37_] at hw; clear ev37_
                      refine j_iload E 176 rfl dX9_plan_174 (lv_at hl 4 rfl) ?_
                      refine j_if_eq E 179 191 rfl r_s0_53 dX9_plan_176 (by decide) (fun cc38_ => ?_) (fun cc38_ => ?_)
                      · refine j_iload_n E 192 rfl dX9_plan_191 rfl (lv_at hl 3 rfl) ?_
                        refine j_if_ne E 195 203 rfl r_v_w dX9_plan_192 (by decide) (fun cc39_ => ?_) (fun cc39_ => ?_)
                        · refine j_aload E 205 rfl dX9_plan_203 (lv_at hl 5 rfl) ?_
                          refine kV_i E (c_X2_teachings l D cy T24_ (upV (upV (upV v_0 64 y64_32) 65 y65_c115) 66 y66_c115) q12_  u26_  ) mt_X2_teachings ml_X9_396 hK hw (cw_rc3 hK hw.1 u26_) hA ⟨Nat.le_of_ble_eq_true rfl, Nat.le_of_ble_eq_true rfl⟩ ⟨Nat.le_of_ble_eq_true rfl, Nat.le_of_ble_eq_true rfl⟩ (As := []) (rest := []) rfl rfl hl.1 (Nat.le_of_ble_eq_true rfl) 208 rfl dX9_plan_205 (fun zz40_ v_40 H locs rr40_ hq40_ hw => ?_)
                          obtain ⟨ev40_, hh40_⟩ := hq40_
                          rw [ev40_] at hw; clear ev40_
                          exact hret 208 zz40_ T24_ (upV (upV (upV v_0 64 y64_32) 65 y65_c115) 66 y66_c115) _ _ ls _ _ hw hoT_ rr40_ ⟨y64_32, y65_c115, y66_c115, rfl, ⟨u25_, ⟨u27_, u28_, u29_, u30_⟩, (fun i_ => by rw [u27_, B180_ 201 (by decide), A180_ (1000 + i_) (by omega)])⟩⟩ (Nat.le_of_ble_eq_true rfl) (Nat.le_of_ble_eq_true rfl) dX9_plan_208
                        · refine j_aload E 197 rfl dX9_plan_195 (lv_at hl 5 rfl) ?_
                          refine kV_i E (c_X2_cost l D cy T24_ (upV (upV (upV v_0 64 y64_32) 65 y65_c115) 66 y66_c115) q12_  u26_  ) mt_X2_cost ml_X9_393 hK hw (cw_rc3 hK hw.1 u26_) hA ⟨Nat.le_of_ble_eq_true rfl, Nat.le_of_ble_eq_true rfl⟩ ⟨Nat.le_of_ble_eq_true rfl, Nat.le_of_ble_eq_true rfl⟩ (As := []) (rest := []) rfl rfl hl.1 (Nat.le_of_ble_eq_true rfl) 200 rfl dX9_plan_197 (fun zz41_ v_41 H locs rr41_ hq41_ hw => ?_)
                          obtain ⟨ev41_, hh41_⟩ := hq41_
                          rw [ev41_] at hw; clear ev41_
                          refine j_goto E 208 dX9_plan_200 (by decide) ?_
                          exact hret 208 zz41_ T24_ (upV (upV (upV v_0 64 y64_32) 65 y65_c115) 66 y66_c115) _ _ ls _ _ hw hoT_ rr41_ ⟨y64_32, y65_c115, y66_c115, rfl, ⟨u25_, ⟨u27_, u28_, u29_, u30_⟩, (fun i_ => by rw [u27_, B180_ 201 (by decide), A180_ (1000 + i_) (by omega)])⟩⟩ (Nat.le_of_ble_eq_true rfl) (Nat.le_of_ble_eq_true rfl) dX9_plan_208
                      · refine j_aload E 181 rfl dX9_plan_179 (lv_at hl 5 rfl) ?_
                        refine j_iload_n E 182 rfl dX9_plan_181 rfl (lv_at hl 3 rfl) ?_
                        refine j_bipush E 184 rfl dX9_plan_182 (by decide) ?_
                        refine j_isub E 185 rfl dX9_plan_184 ?_
                        refine j_norm (fun zz42_ rr42_ ee42_ => ?_)
                        refine kV_i E (c_X2_lessonOf l D cy T24_ (upV (upV (upV v_0 64 y64_32) 65 y65_c115) 66 y66_c115) q12_ zz42_  u26_ rr42_ ) mt_X2_lessonOf ml_X9_390 hK hw (cw_rc3 hK hw.1 u26_) hA ⟨Nat.le_of_ble_eq_true rfl, Nat.le_of_ble_eq_true rfl⟩ ⟨Nat.le_of_ble_eq_true rfl, Nat.le_of_ble_eq_true rfl⟩ (As := [.int (J zz42_)]) (rest := []) rfl rfl hl.1 (Nat.le_of_ble_eq_true rfl) 188 rfl dX9_plan_185 (fun zz43_ v_43 H locs rr43_ hq43_ hw => ?_)
                        obtain ⟨ev43_, hh43_⟩ := hq43_
                        rw [ev43_] at hw; clear ev43_
                        refine j_goto E 208 dX9_plan_188 (by decide) ?_
                        exact hret 208 zz43_ T24_ (upV (upV (upV v_0 64 y64_32) 65 y65_c115) 66 y66_c115) _ _ ls _ _ hw hoT_ rr43_ ⟨y64_32, y65_c115, y66_c115, rfl, ⟨u25_, ⟨u27_, u28_, u29_, u30_⟩, (fun i_ => by rw [u27_, B180_ 201 (by decide), A180_ (1000 + i_) (by omega)])⟩⟩ (Nat.le_of_ble_eq_true rfl) (Nat.le_of_ble_eq_true rfl) dX9_plan_208
                    · refine j_iload_n E 128 rfl dX9_plan_127 rfl (lv_at hl 1 rfl) ?_
                      refine j_iload E 130 rfl dX9_plan_128 (lv_at hl 6 rfl) ?_
                      refine j_iushr E 131 rfl dX9_plan_130 (fun zz44_ rr44_ ee44_ => ?_)
                      refine j_iconst E 132 rfl dX9_plan_131 ?_
                      refine j_iand E 133 rfl dX9_plan_132 (fun zz45_ rr45_ ee45_ => ?_)
                      refine j_if_eq E 136 163 rfl rr45_ dX9_plan_133 (by decide) (fun cc46_ => ?_) (fun cc46_ => ?_)
                      · refine j_iinc E 166 rfl [(6, .int (J (l6_115 + 1))), (0, .ref o), (1, .int (J v_s)), (2, .int (J v_m)), (3, .int (J v_w)), (4, .int (J s0_53)), (5, .ref q12_)] dX9_plan_163 hl (kk := 6) rfl (by decide) rfl (fun ls hl => ?_)
                        refine j_goto E 115 dX9_plan_166 (by decide) ?_
                        exact ih115 (l6_115 + 1) y65_c115 y66_c115 H locs ls (rr (by omega)) (by first | omega | (simp only [upB_same]; omega)) (by omega) hw (lv_sub hl [1, 2, 3, 4, 5, 6, 0] rfl)
                      · refine j_aload E 138 rfl dX9_plan_136 (lv_at hl 5 rfl) ?_
                        refine j_iload E 140 rfl dX9_plan_138 (lv_at hl 6 rfl) ?_
                        refine j_iconst E 141 rfl dX9_plan_140 ?_
                        refine j_iload_n E 142 rfl dX9_plan_141 rfl (lv_at hl 2 rfl) ?_
                        refine j_aload_n E 143 rfl dX9_plan_142 rfl (lv_at hl 0 rfl) ?_
                        refine j_iload E 145 rfl dX9_plan_143 (lv_at hl 6 rfl) ?_
                        refine kV_i E (c_X9_countHolders l D cy T24_ (upV (upV (upV v_0 64 y64_32) 65 y65_c115) 66 y66_c115) o l6_115  u25_ r_l6_115 ) mt_X9_countHolders ml_X9_209 hK hw (cw_rc9 hK hw.1 u25_) hA ⟨Nat.le_of_ble_eq_true rfl, Nat.le_of_ble_eq_true rfl⟩ ⟨Nat.le_of_ble_eq_true rfl, Nat.le_of_ble_eq_true rfl⟩ (As := [.int (J l6_115)]) (rest := [.int (J v_m), .int (J 0), .int (J l6_115), .ref q12_]) rfl rfl hl.1 (Nat.le_of_ble_eq_true rfl) 148 rfl dX9_plan_145 (fun zz47_ v_47 H locs rr47_ hq47_ hw => ?_)
                        obtain ⟨ev47_, hh47_⟩ := hq47_
                        rw [ev47_] at hw; clear ev47_
                        refine j_isub E 149 rfl dX9_plan_148 ?_
                        refine j_norm (fun zz48_ rr48_ ee48_ => ?_)
                        refine j_max E hl.1 ml_X9_350 (rr (by decide)) rr48_ ⟨Nat.le_of_ble_eq_true rfl, Nat.le_of_ble_eq_true rfl⟩ ⟨Nat.le_of_ble_eq_true rfl, Nat.le_of_ble_eq_true rfl⟩ 152 rfl dX9_plan_149 (fun zz49_ rr49_ hh49_ => ?_)
                        refine kV_v E (c_X2_addLine l D cy T24_ (upV (upV (upV v_0 64 y64_32) 65 y65_c115) 66 y66_c115) q12_ l6_115 zz49_  u26_ r_l6_115 rr49_ (show 0 ≤ (y66_c115 q12_) ∧ (y66_c115 q12_) ≤ 255 ∧ 0 ≤ (y65_c115 q12_) ∧ (y65_c115 q12_) ≤ 4 from by omega)) mt_X2_addLine ml_X9_380 hK hw (cw_rc3 hK hw.1 u26_) hA ⟨Nat.le_of_ble_eq_true rfl, Nat.le_of_ble_eq_true rfl⟩ ⟨Nat.le_of_ble_eq_true rfl, Nat.le_of_ble_eq_true rfl⟩ (As := [.int (J l6_115), .int (J zz49_)]) (rest := []) rfl rfl hl.1 (Nat.le_of_ble_eq_true rfl) 155 rfl dX9_plan_152 (fun v_50 H locs hq50_ hw => ?_)
                        obtain ⟨y65_50, y66_50, ev50_, hh50_⟩ := hq50_
                        rw [ev50_] at hw; clear ev50_
                        have hw : WK D cy T24_ (upV (upV (upV v_0 64 y64_32) 65 y65_50) 66 y66_50) A0 s.heap H locs := cw_eq hw (by first | rfl | (funext j_; simp only [upV, reduceIte]; (repeat' split) <;> first | rfl | omega | (subst_vars; rfl)))
                        have hh50_ : 0 ≤ (y66_50 q12_) ∧ (y66_50 q12_) ≤ 255 ∧ 0 ≤ (y65_50 q12_) ∧ (y65_50 q12_) ≤ 4 := hh50_
                        refine j_aload_n E 156 rfl dX9_plan_155 rfl (lv_at hl 0 rfl) ?_
                        refine j_aload E 158 rfl dX9_plan_156 (lv_at hl 5 rfl) ?_
                        refine j_iload E 160 rfl dX9_plan_158 (lv_at hl 6 rfl) ?_
                        refine kV_v E (c_X9_putPrices l D cy T24_ (upV (upV (upV v_0 64 y64_32) 65 y65_50) 66 y66_50) o q12_ l6_115  u25_ u26_ r_l6_115 ) mt_X9_putPrices ml_X9_383 hK hw (cw_rc9 hK hw.1 u25_) hA ⟨Nat.le_of_ble_eq_true rfl, Nat.le_of_ble_eq_true rfl⟩ ⟨Nat.le_of_ble_eq_true rfl, Nat.le_of_ble_eq_true rfl⟩ (As := [.ref q12_, .int (J l6_115)]) (rest := []) rfl rfl hl.1 (Nat.le_of_ble_eq_true rfl) 163 rfl dX9_plan_160 (fun v_51 H locs hq51_ hw => ?_)
                        obtain ⟨ev51_, hh51_⟩ := hq51_
                        rw [ev51_] at hw; clear ev51_
                        refine j_iinc E 166 rfl [(6, .int (J (l6_115 + 1))), (0, .ref o), (1, .int (J v_s)), (2, .int (J v_m)), (3, .int (J v_w)), (4, .int (J s0_53)), (5, .ref q12_)] dX9_plan_163 hl (kk := 6) rfl (by decide) rfl (fun ls hl => ?_)
                        refine j_goto E 115 dX9_plan_166 (by decide) ?_
                        exact ih115 (l6_115 + 1) y65_50 y66_50 H locs ls (rr (by omega)) (by first | omega | (simp only [upB_same]; omega)) (by omega) hw (lv_sub hl [1, 2, 3, 4, 5, 6, 0] rfl)
                exact L115_33 _ 0 y65_32 y66_32 H locs ls (rr (by decide)) (by first | omega | (simp only [upB_same]; omega)) (Nat.lt_succ_self _) hw (lv_sub hl [2, 3, 4, 5, 6, 1, 0] rfl)
              | some xp11_ =>
                show W p l e (rmd 5 5 6600) s m ar below meth c H locs _ _ QW (F0 m 75 ls [.ref xp11_])
                have tp11_ : T 0 xp11_ = 3 := wpl_ hT t_o hd11_
                refine j_ifnonnullR E 88 dX9_plan_75 (by decide) ?_
                refine j_aload_n E 89 rfl dX9_plan_88 rfl (lv_at hl 0 rfl) ?_
                refine g_197 E hK hw fl_X9_76 t_o 92 rfl dX9_plan_89 ?_
                rw [hd11_]
                show W p l e (rmd 5 5 6600) s m ar below meth c H locs _ _ QW (F0 m 92 ls [.ref xp11_])
                refine j_astore E 94 rfl [(5, .ref xp11_), (0, .ref o), (1, .int (J v_s)), (2, .int (J v_m)), (3, .int (J v_w)), (4, .int (J s0_53))] dX9_plan_92 hl (by decide) rfl (fun ls hl => ?_)
                refine j_aload_n E 95 rfl dX9_plan_94 rfl (lv_at hl 1 rfl) ?_
                refine j_aload E 97 rfl dX9_plan_95 (lv_at hl 0 rfl) ?_
                have hw0_ := hw
                refine pl_put E hK hw fl_X9_76 t_o tp11_ 100 rfl dX9_plan_97 (fun T52_ H locs hx52_ ho52_ hw => ?_)
                have hT52_ : WT T52_ := hw.1.2.1
                have hO52_ : ∀ x, ow T52_ x → κ 2 2 ≤ x := fun x h => hAc x (hw.2.1 x h)
                have hoT_ : OW T T52_ s.heap.size := OW.tr0 hoT_ ho52_
                have B180n_ : ∀ j_, j_ ≠ 197 → T52_ j_ (T 180 o) = T j_ (T 180 o) := fun j_ hj_ => (hx52_ j_ hj_ (T 180 o)).trans (B180_ j_ hj_)
                have A180n_ : ∀ j_, j_ ≠ 197 → T52_ j_ (T 201 (T 180 o)) = T j_ (T 201 (T 180 o)) := fun j_ hj_ => (hx52_ j_ hj_ (T 201 (T 180 o))).trans (A180_ j_ hj_)
                have B181n_ : ∀ j_, j_ ≠ 197 → T52_ j_ (T 181 o) = T j_ (T 181 o) := fun j_ hj_ => (hx52_ j_ hj_ (T 181 o)).trans (B181_ j_ hj_)
                have A181n_ : ∀ j_, j_ ≠ 197 → T52_ j_ (T 201 (T 181 o)) = T j_ (T 201 (T 181 o)) := fun j_ hj_ => (hx52_ j_ hj_ (T 201 (T 181 o))).trans (A181_ j_ hj_)
                have B182n_ : ∀ j_, j_ ≠ 197 → T52_ j_ (T 182 o) = T j_ (T 182 o) := fun j_ hj_ => (hx52_ j_ hj_ (T 182 o)).trans (B182_ j_ hj_)
                have A182n_ : ∀ j_, j_ ≠ 197 → T52_ j_ (T 201 (T 182 o)) = T j_ (T 201 (T 182 o)) := fun j_ hj_ => (hx52_ j_ hj_ (T 201 (T 182 o))).trans (A182_ j_ hj_)
                have B183n_ : ∀ j_, j_ ≠ 197 → T52_ j_ (T 183 o) = T j_ (T 183 o) := fun j_ hj_ => (hx52_ j_ hj_ (T 183 o)).trans (B183_ j_ hj_)
                have A183n_ : ∀ j_, j_ ≠ 197 → T52_ j_ (T 201 (T 183 o)) = T j_ (T 201 (T 183 o)) := fun j_ hj_ => (hx52_ j_ hj_ (T 201 (T 183 o))).trans (A183_ j_ hj_)
                have B180_ := B180n_
                have A180_ := A180n_
                have B181_ := B181n_
                have A181_ := A181n_
                have B182_ := B182n_
                have A182_ := A182n_
                have B183_ := B183n_
                have A183_ := A183n_
                have u53_ : T52_ 0 o = 9 := (hx52_ 0 (by decide) o).trans t_o
                have u54_ : T52_ 0 xp11_ = 3 := (hx52_ 0 (by decide) xp11_).trans tp11_
                have u55_ : T52_ 180 o = T 180 o := (hx52_ 180 (by decide) o).trans rfl
                have u56_ : T52_ 181 o = T 181 o := (hx52_ 181 (by decide) o).trans rfl
                have u57_ : T52_ 182 o = T 182 o := (hx52_ 182 (by decide) o).trans rfl
                have u58_ : T52_ 183 o = T 183 o := (hx52_ 183 (by decide) o).trans rfl
                refine j_aload E 102 rfl dX9_plan_100 (lv_at hl 0 rfl) ?_
                refine j_aload_n E 103 rfl dX9_plan_102 rfl (lv_at hl 1 rfl) ?_
                refine g_180 E hK hw fl_X9_12 u53_ 106 rfl dX9_plan_103 ?_
                refine kV_i E (c_Jx4a65c_size_8abf5 l D cy T52_ (v_0) (T52_ 180 o)  (wt_180 hT52_ u53_)  ) mt_Jx4a65c_size_8abf5 ml_X9_80 hK hw (cw_rc10 hK hw.1 (wt_180 hT52_ u53_)) hA ⟨Nat.le_of_ble_eq_true rfl, Nat.le_of_ble_eq_true rfl⟩ ⟨Nat.le_of_ble_eq_true rfl, Nat.le_of_ble_eq_true rfl⟩ (As := []) (rest := [.ref xp11_]) rfl rfl hl.1 (Nat.le_of_ble_eq_true rfl) 109 rfl dX9_plan_106 (fun zz59_ v_59 H locs rr59_ hq59_ hw => ?_)
                obtain ⟨ev59_, hh59_⟩ := hq59_
                rw [ev59_] at hw; clear ev59_
                have hh59_ : zz59_ = ((v_0 202) ((T52_ 180 o))) ∧ 0 ≤ zz59_ := hh59_
                refine kV_v E (c_X2_begin l D cy T52_ (v_0) xp11_ zz59_  u54_ rr59_ ) mt_X2_begin ml_X9_377 hK hw (cw_rc3 hK hw.1 u54_) hA ⟨Nat.le_of_ble_eq_true rfl, Nat.le_of_ble_eq_true rfl⟩ ⟨Nat.le_of_ble_eq_true rfl, Nat.le_of_ble_eq_true rfl⟩ (As := [.int (J zz59_)]) (rest := []) rfl rfl hl.1 (Nat.le_of_ble_eq_true rfl) 112 rfl dX9_plan_109 (fun v_60 H locs hq60_ hw => ?_)
                obtain ⟨y64_60, y65_60, y66_60, ev60_, hh60_⟩ := hq60_
                rw [ev60_] at hw; clear ev60_
                have hw : WK D cy T52_ (upV (upV (upV v_0 64 y64_60) 65 y65_60) 66 y66_60) A0 s.heap H locs := cw_eq hw (by first | rfl | (funext j_; simp only [upV, reduceIte]; (repeat' split) <;> first | rfl | omega | (subst_vars; rfl)))
                have hh60_ : (y65_60 xp11_) = 0 ∧ (y66_60 xp11_) = 0 ∧ 0 ≤ (y64_60 xp11_) ∧ (y64_60 xp11_) ≤ 24 := hh60_
                refine j_iconst E 113 rfl dX9_plan_112 ?_
                refine j_istore E 115 rfl [(6, .int (J 0)), (5, .ref xp11_), (0, .ref o), (1, .int (J v_s)), (2, .int (J v_m)), (3, .int (J v_w)), (4, .int (J s0_53))] dX9_plan_113 hl (by decide) rfl (fun ls hl => ?_)
                have L115_61 : ∀ (k115 : Nat) (l6_115 : Int) (y65_c115 : Nat → Int) (y66_c115 : Nat → Int) (H : Heap) (locs : List Loc) (ls : Array Slot), inR l6_115 → (0 ≤ l6_115 ∧ 0 ≤ (y66_c115 xp11_) ∧ (y66_c115 xp11_) ≤ 255 ∧ 0 ≤ (y65_c115 xp11_) ∧ (y65_c115 xp11_) ≤ 4 ∧ 0 ≤ (y64_60 xp11_) ∧ (y64_60 xp11_) ≤ 24) → ((v_0 202 (T52_ 181 o)) - l6_115).toNat < k115 → WK D cy T52_ (upV (upV (upV v_0 64 y64_60) 65 y65_c115) 66 y66_c115) A0 s.heap H locs → lv_has ls 7 [(0, .ref o), (1, .int (J v_s)), (2, .int (J v_m)), (3, .int (J v_w)), (4, .int (J s0_53)), (5, .ref xp11_), (6, .int (J l6_115))] → W p l e (rmd 5 5 6600) s m ar below meth c H locs 0 0 QW (F0 m 115 ls []) := by
                  intro k115
                  induction k115 with
                  | zero =>
                    intro l6_115 y65_c115 y66_c115 H locs ls r_l6_115 iv115 ms115 hw hl
                    exact absurd ms115 (Nat.not_lt_zero _)
                  | succ k115 ih115 =>
                    intro l6_115 y65_c115 y66_c115 H locs ls r_l6_115 iv115 ms115 hw hl
                    refine j_iload E 117 rfl dX9_plan_115 (lv_at hl 6 rfl) ?_
                    refine j_aload_n E 118 rfl dX9_plan_117 rfl (lv_at hl 0 rfl) ?_
                    refine g_181 E hK hw fl_X9_16 u53_ 121 rfl dX9_plan_118 ?_
                    refine kV_i E (c_Jx4a65c_size_8abf5 l D cy T52_ (upV (upV (upV v_0 64 y64_60) 65 y65_c115) 66 y66_c115) (T52_ 181 o)  (wt_181 hT52_ u53_)  ) mt_Jx4a65c_size_8abf5 ml_X9_80 hK hw (cw_rc10 hK hw.1 (wt_181 hT52_ u53_)) hA ⟨Nat.le_of_ble_eq_true rfl, Nat.le_of_ble_eq_true rfl⟩ ⟨Nat.le_of_ble_eq_true rfl, Nat.le_of_ble_eq_true rfl⟩ (As := []) (rest := [.int (J l6_115)]) rfl rfl hl.1 (Nat.le_of_ble_eq_true rfl) 124 rfl dX9_plan_121 (fun zz63_ v_63 H locs rr63_ hq63_ hw => ?_)
                    obtain ⟨ev63_, hh63_⟩ := hq63_
                    rw [ev63_] at hw; clear ev63_
                    have hh63_ : zz63_ = ((v_0 202) ((T52_ 181 o))) ∧ 0 ≤ zz63_ := hh63_
                    refine j_icmp_ge E 127 169 rfl r_l6_115 rr63_ dX9_plan_124 (by decide) (fun cc64_ => ?_) (fun cc64_ => ?_)
                    · refine j_aload E 171 rfl dX9_plan_169 (lv_at hl 5 rfl) ?_
                      refine kV_v E (c_X2_solve l D cy T52_ (upV (upV (upV v_0 64 y64_60) 65 y65_c115) 66 y66_c115) xp11_  u54_  (show 0 ≤ (y66_c115 xp11_) ∧ (y66_c115 xp11_) ≤ 255 ∧ 0 ≤ (y65_c115 xp11_) ∧ (y65_c115 xp11_) ≤ 4 ∧ 0 ≤ (y64_60 xp11_) ∧ (y64_60 xp11_) ≤ 24 from by omega)) mt_X2_solve ml_X9_387 hK hw (cw_rc3 hK hw.1 u54_) hA ⟨Nat.le_of_ble_eq_true rfl, Nat.le_of_ble_eq_true rfl⟩ ⟨Nat.le_of_ble_eq_true rfl, Nat.le_of_ble_eq_true rfl⟩ (As := []) (rest := []) rfl rfl hl.1 (Nat.le_of_ble_eq_true rfl) 174 rfl dX9_plan_171 (fun v_65 H locs hq65_ hw => ?_)
                      obtain ⟨ev65_, hh65_⟩ := hq65_
                      rw [ev65_] at hw; clear ev65_
                      refine j_iload E 176 rfl dX9_plan_174 (lv_at hl 4 rfl) ?_
                      refine j_if_eq E 179 191 rfl r_s0_53 dX9_plan_176 (by decide) (fun cc66_ => ?_) (fun cc66_ => ?_)
                      · refine j_iload_n E 192 rfl dX9_plan_191 rfl (lv_at hl 3 rfl) ?_
                        refine j_if_ne E 195 203 rfl r_v_w dX9_plan_192 (by decide) (fun cc67_ => ?_) (fun cc67_ => ?_)
                        · refine j_aload E 205 rfl dX9_plan_203 (lv_at hl 5 rfl) ?_
                          refine kV_i E (c_X2_teachings l D cy T52_ (upV (upV (upV v_0 64 y64_60) 65 y65_c115) 66 y66_c115) xp11_  u54_  ) mt_X2_teachings ml_X9_396 hK hw (cw_rc3 hK hw.1 u54_) hA ⟨Nat.le_of_ble_eq_true rfl, Nat.le_of_ble_eq_true rfl⟩ ⟨Nat.le_of_ble_eq_true rfl, Nat.le_of_ble_eq_true rfl⟩ (As := []) (rest := []) rfl rfl hl.1 (Nat.le_of_ble_eq_true rfl) 208 rfl dX9_plan_205 (fun zz68_ v_68 H locs rr68_ hq68_ hw => ?_)
                          obtain ⟨ev68_, hh68_⟩ := hq68_
                          rw [ev68_] at hw; clear ev68_
                          exact hret 208 zz68_ T52_ (upV (upV (upV v_0 64 y64_60) 65 y65_c115) 66 y66_c115) _ _ ls _ _ hw hoT_ rr68_ ⟨y64_60, y65_c115, y66_c115, rfl, ⟨u53_, ⟨u55_, u56_, u57_, u58_⟩, (fun i_ => by rw [u55_, B180_ 201 (by decide), A180_ (1000 + i_) (by omega)])⟩⟩ (Nat.le_of_ble_eq_true rfl) (Nat.le_of_ble_eq_true rfl) dX9_plan_208
                        · refine j_aload E 197 rfl dX9_plan_195 (lv_at hl 5 rfl) ?_
                          refine kV_i E (c_X2_cost l D cy T52_ (upV (upV (upV v_0 64 y64_60) 65 y65_c115) 66 y66_c115) xp11_  u54_  ) mt_X2_cost ml_X9_393 hK hw (cw_rc3 hK hw.1 u54_) hA ⟨Nat.le_of_ble_eq_true rfl, Nat.le_of_ble_eq_true rfl⟩ ⟨Nat.le_of_ble_eq_true rfl, Nat.le_of_ble_eq_true rfl⟩ (As := []) (rest := []) rfl rfl hl.1 (Nat.le_of_ble_eq_true rfl) 200 rfl dX9_plan_197 (fun zz69_ v_69 H locs rr69_ hq69_ hw => ?_)
                          obtain ⟨ev69_, hh69_⟩ := hq69_
                          rw [ev69_] at hw; clear ev69_
                          refine j_goto E 208 dX9_plan_200 (by decide) ?_
                          exact hret 208 zz69_ T52_ (upV (upV (upV v_0 64 y64_60) 65 y65_c115) 66 y66_c115) _ _ ls _ _ hw hoT_ rr69_ ⟨y64_60, y65_c115, y66_c115, rfl, ⟨u53_, ⟨u55_, u56_, u57_, u58_⟩, (fun i_ => by rw [u55_, B180_ 201 (by decide), A180_ (1000 + i_) (by omega)])⟩⟩ (Nat.le_of_ble_eq_true rfl) (Nat.le_of_ble_eq_true rfl) dX9_plan_208
                      · refine j_aload E 181 rfl dX9_plan_179 (lv_at hl 5 rfl) ?_
                        refine j_iload_n E 182 rfl dX9_plan_181 rfl (lv_at hl 3 rfl) ?_
                        refine j_bipush E 184 rfl dX9_plan_182 (by decide) ?_
                        refine j_isub E 185 rfl dX9_plan_184 ?_
                        refine j_norm (fun zz70_ rr70_ ee70_ => ?_)
                        refine kV_i E (c_X2_lessonOf l D cy T52_ (upV (upV (upV v_0 64 y64_60) 65 y65_c115) 66 y66_c115) xp11_ zz70_  u54_ rr70_ ) mt_X2_lessonOf ml_X9_390 hK hw (cw_rc3 hK hw.1 u54_) hA ⟨Nat.le_of_ble_eq_true rfl, Nat.le_of_ble_eq_true rfl⟩ ⟨Nat.le_of_ble_eq_true rfl, Nat.le_of_ble_eq_true rfl⟩ (As := [.int (J zz70_)]) (rest := []) rfl rfl hl.1 (Nat.le_of_ble_eq_true rfl) 188 rfl dX9_plan_185 (fun zz71_ v_71 H locs rr71_ hq71_ hw => ?_)
                        obtain ⟨ev71_, hh71_⟩ := hq71_
                        rw [ev71_] at hw; clear ev71_
                        refine j_goto E 208 dX9_plan_188 (by decide) ?_
                        exact hret 208 zz71_ T52_ (upV (upV (upV v_0 64 y64_60) 65 y65_c115) 66 y66_c115) _ _ ls _ _ hw hoT_ rr71_ ⟨y64_60, y65_c115, y66_c115, rfl, ⟨u53_, ⟨u55_, u56_, u57_, u58_⟩, (fun i_ => by rw [u55_, B180_ 201 (by decide), A180_ (1000 + i_) (by omega)])⟩⟩ (Nat.le_of_ble_eq_true rfl) (Nat.le_of_ble_eq_true rfl) dX9_plan_208
                    · refine j_iload_n E 128 rfl dX9_plan_127 rfl (lv_at hl 1 rfl) ?_
                      refine j_iload E 130 rfl dX9_plan_128 (lv_at hl 6 rfl) ?_
                      refine j_iushr E 131 rfl dX9_plan_130 (fun zz72_ rr72_ ee72_ => ?_)
                      refine j_iconst E 132 rfl dX9_plan_131 ?_
                      refine j_iand E 133 rfl dX9_plan_132 (fun zz73_ rr73_ ee73_ => ?_)
                      refine j_if_eq E 136 163 rfl rr73_ dX9_plan_133 (by decide) (fun cc74_ => ?_) (fun cc74_ => ?_)
                      · refine j_iinc E 166 rfl [(6, .int (J (l6_115 + 1))), (0, .ref o), (1, .int (J v_s)), (2, .int (J v_m)), (3, .int (J v_w)), (4, .int (J s0_53)), (5, .ref xp11_)] dX9_plan_163 hl (kk := 6) rfl (by decide) rfl (fun ls hl => ?_)
                        refine j_goto E 115 dX9_plan_166 (by decide) ?_
                        exact ih115 (l6_115 + 1) y65_c115 y66_c115 H locs ls (rr (by omega)) (by first | omega | (simp only [upB_same]; omega)) (by omega) hw (lv_sub hl [1, 2, 3, 4, 5, 6, 0] rfl)
                      · refine j_aload E 138 rfl dX9_plan_136 (lv_at hl 5 rfl) ?_
                        refine j_iload E 140 rfl dX9_plan_138 (lv_at hl 6 rfl) ?_
                        refine j_iconst E 141 rfl dX9_plan_140 ?_
                        refine j_iload_n E 142 rfl dX9_plan_141 rfl (lv_at hl 2 rfl) ?_
                        refine j_aload_n E 143 rfl dX9_plan_142 rfl (lv_at hl 0 rfl) ?_
                        refine j_iload E 145 rfl dX9_plan_143 (lv_at hl 6 rfl) ?_
                        refine kV_i E (c_X9_countHolders l D cy T52_ (upV (upV (upV v_0 64 y64_60) 65 y65_c115) 66 y66_c115) o l6_115  u53_ r_l6_115 ) mt_X9_countHolders ml_X9_209 hK hw (cw_rc9 hK hw.1 u53_) hA ⟨Nat.le_of_ble_eq_true rfl, Nat.le_of_ble_eq_true rfl⟩ ⟨Nat.le_of_ble_eq_true rfl, Nat.le_of_ble_eq_true rfl⟩ (As := [.int (J l6_115)]) (rest := [.int (J v_m), .int (J 0), .int (J l6_115), .ref xp11_]) rfl rfl hl.1 (Nat.le_of_ble_eq_true rfl) 148 rfl dX9_plan_145 (fun zz75_ v_75 H locs rr75_ hq75_ hw => ?_)
                        obtain ⟨ev75_, hh75_⟩ := hq75_
                        rw [ev75_] at hw; clear ev75_
                        refine j_isub E 149 rfl dX9_plan_148 ?_
                        refine j_norm (fun zz76_ rr76_ ee76_ => ?_)
                        refine j_max E hl.1 ml_X9_350 (rr (by decide)) rr76_ ⟨Nat.le_of_ble_eq_true rfl, Nat.le_of_ble_eq_true rfl⟩ ⟨Nat.le_of_ble_eq_true rfl, Nat.le_of_ble_eq_true rfl⟩ 152 rfl dX9_plan_149 (fun zz77_ rr77_ hh77_ => ?_)
                        refine kV_v E (c_X2_addLine l D cy T52_ (upV (upV (upV v_0 64 y64_60) 65 y65_c115) 66 y66_c115) xp11_ l6_115 zz77_  u54_ r_l6_115 rr77_ (show 0 ≤ (y66_c115 xp11_) ∧ (y66_c115 xp11_) ≤ 255 ∧ 0 ≤ (y65_c115 xp11_) ∧ (y65_c115 xp11_) ≤ 4 from by omega)) mt_X2_addLine ml_X9_380 hK hw (cw_rc3 hK hw.1 u54_) hA ⟨Nat.le_of_ble_eq_true rfl, Nat.le_of_ble_eq_true rfl⟩ ⟨Nat.le_of_ble_eq_true rfl, Nat.le_of_ble_eq_true rfl⟩ (As := [.int (J l6_115), .int (J zz77_)]) (rest := []) rfl rfl hl.1 (Nat.le_of_ble_eq_true rfl) 155 rfl dX9_plan_152 (fun v_78 H locs hq78_ hw => ?_)
                        obtain ⟨y65_78, y66_78, ev78_, hh78_⟩ := hq78_
                        rw [ev78_] at hw; clear ev78_
                        have hw : WK D cy T52_ (upV (upV (upV v_0 64 y64_60) 65 y65_78) 66 y66_78) A0 s.heap H locs := cw_eq hw (by first | rfl | (funext j_; simp only [upV, reduceIte]; (repeat' split) <;> first | rfl | omega | (subst_vars; rfl)))
                        have hh78_ : 0 ≤ (y66_78 xp11_) ∧ (y66_78 xp11_) ≤ 255 ∧ 0 ≤ (y65_78 xp11_) ∧ (y65_78 xp11_) ≤ 4 := hh78_
                        refine j_aload_n E 156 rfl dX9_plan_155 rfl (lv_at hl 0 rfl) ?_
                        refine j_aload E 158 rfl dX9_plan_156 (lv_at hl 5 rfl) ?_
                        refine j_iload E 160 rfl dX9_plan_158 (lv_at hl 6 rfl) ?_
                        refine kV_v E (c_X9_putPrices l D cy T52_ (upV (upV (upV v_0 64 y64_60) 65 y65_78) 66 y66_78) o xp11_ l6_115  u53_ u54_ r_l6_115 ) mt_X9_putPrices ml_X9_383 hK hw (cw_rc9 hK hw.1 u53_) hA ⟨Nat.le_of_ble_eq_true rfl, Nat.le_of_ble_eq_true rfl⟩ ⟨Nat.le_of_ble_eq_true rfl, Nat.le_of_ble_eq_true rfl⟩ (As := [.ref xp11_, .int (J l6_115)]) (rest := []) rfl rfl hl.1 (Nat.le_of_ble_eq_true rfl) 163 rfl dX9_plan_160 (fun v_79 H locs hq79_ hw => ?_)
                        obtain ⟨ev79_, hh79_⟩ := hq79_
                        rw [ev79_] at hw; clear ev79_
                        refine j_iinc E 166 rfl [(6, .int (J (l6_115 + 1))), (0, .ref o), (1, .int (J v_s)), (2, .int (J v_m)), (3, .int (J v_w)), (4, .int (J s0_53)), (5, .ref xp11_)] dX9_plan_163 hl (kk := 6) rfl (by decide) rfl (fun ls hl => ?_)
                        refine j_goto E 115 dX9_plan_166 (by decide) ?_
                        exact ih115 (l6_115 + 1) y65_78 y66_78 H locs ls (rr (by omega)) (by first | omega | (simp only [upB_same]; omega)) (by omega) hw (lv_sub hl [1, 2, 3, 4, 5, 6, 0] rfl)
                exact L115_61 _ 0 y65_60 y66_60 H locs ls (rr (by decide)) (by first | omega | (simp only [upB_same]; omega)) (Nat.lt_succ_self _) hw (lv_sub hl [2, 3, 4, 5, 6, 1, 0] rfl)
            refine j_iload_n E 56 rfl dX9_plan_55 rfl (lv_at hl 4 rfl) ?_
            refine j_if_eq E 59 71 rfl r_v_w dX9_plan_56 (by decide) (fun cc80_ => ?_) (fun cc80_ => ?_)
            · exact L71_9   H locs ls  (trivial) hw (lv_sub hl [1, 2, 3, 4, 0] rfl)
            · refine j_iload_n E 60 rfl dX9_plan_59 rfl (lv_at hl 4 rfl) ?_
              refine j_iconst E 61 rfl dX9_plan_60 ?_
              refine j_icmp_eq E 64 71 rfl r_v_w (rr (by decide)) dX9_plan_61 (by decide) (fun cc81_ => ?_) (fun cc81_ => ?_)
              · exact L71_9   H locs ls  (trivial) hw (lv_sub hl [1, 2, 3, 4, 0] rfl)
              · refine j_iload E 66 rfl dX9_plan_64 (lv_at hl 0 rfl) ?_
                refine j_if_ne E 69 71 rfl r_s0_53 dX9_plan_66 (by decide) (fun cc82_ => ?_) (fun cc82_ => ?_)
                · exact L71_9   H locs ls  (trivial) hw (lv_sub hl [1, 2, 3, 4, 0] rfl)
                · refine j_iconst E 70 rfl dX9_plan_69 ?_
                  exact hret 70 ((-1)) T (upV (upV (upV v_0 64 (v_0 64)) 65 (v_0 65)) 66 (v_0 66)) _ _ ls _ _ (cw_eq hw (by first | rfl | (funext j_; simp only [upV, reduceIte]; (repeat' split) <;> first | rfl | omega | (subst_vars; rfl)))) hoT_ (rr (by decide)) ⟨(v_0 64), (v_0 65), (v_0 66), rfl, ⟨t_o, ⟨rfl, rfl, rfl, rfl⟩, (fun _ => rfl)⟩⟩ (Nat.le_of_ble_eq_true rfl) (Nat.le_of_ble_eq_true rfl) dX9_plan_70
          refine j_iload_n E 29 rfl dX9_plan_28 rfl (lv_at hl 3 rfl) ?_
          refine j_bipush E 31 rfl dX9_plan_29 (by decide) ?_
          refine j_icmp_lt E 34 52 rfl r_v_w (rr (by decide)) dX9_plan_31 (by decide) (fun cc83_ => ?_) (fun cc83_ => ?_)
          · refine j_iconst E 53 rfl dX9_plan_52 ?_
            exact L53_7 0  H locs ls (rr (by decide)) (trivial) hw (lv_sub hl [0, 1, 2, 3] rfl)
          · refine j_iload_n E 35 rfl dX9_plan_34 rfl (lv_at hl 3 rfl) ?_
            refine j_bipush E 37 rfl dX9_plan_35 (by decide) ?_
            refine j_isub E 38 rfl dX9_plan_37 ?_
            refine j_norm (fun zz84_ rr84_ ee84_ => ?_)
            refine j_aload_n E 39 rfl dX9_plan_38 rfl (lv_at hl 0 rfl) ?_
            refine g_180 E hK hw fl_X9_12 t_o 42 rfl dX9_plan_39 ?_
            refine kV_i E (c_Jx4a65c_size_8abf5 l D cy T (v_0) (T 180 o)  (wt_180 hT t_o)  ) mt_Jx4a65c_size_8abf5 ml_X9_80 hK hw (cw_rc10 hK hw.1 (wt_180 hT t_o)) hA ⟨Nat.le_of_ble_eq_true rfl, Nat.le_of_ble_eq_true rfl⟩ ⟨Nat.le_of_ble_eq_true rfl, Nat.le_of_ble_eq_true rfl⟩ (As := []) (rest := [.int (J zz84_)]) rfl rfl hl.1 (Nat.le_of_ble_eq_true rfl) 45 rfl dX9_plan_42 (fun zz85_ v_85 H locs rr85_ hq85_ hw => ?_)
            obtain ⟨ev85_, hh85_⟩ := hq85_
            rw [ev85_] at hw; clear ev85_
            have hh85_ : zz85_ = ((v_0 202) ((T 180 o))) ∧ 0 ≤ zz85_ := hh85_
            refine j_icmp_ge E 48 52 rfl rr84_ rr85_ dX9_plan_45 (by decide) (fun cc86_ => ?_) (fun cc86_ => ?_)
            · refine j_iconst E 53 rfl dX9_plan_52 ?_
              exact L53_7 0  H locs ls (rr (by decide)) (trivial) hw (lv_sub hl [0, 1, 2, 3] rfl)
            · refine j_iconst E 49 rfl dX9_plan_48 ?_
              refine j_goto E 53 dX9_plan_49 (by decide) ?_
              exact L53_7 1  H locs ls (rr (by decide)) (trivial) hw (lv_sub hl [0, 1, 2, 3] rfl)
        · refine j_iconst E 27 rfl dX9_plan_26 ?_
          exact hret 27 ((-1)) T (upV (upV (upV v_0 64 (v_0 64)) 65 (v_0 65)) 66 (v_0 66)) _ _ ls _ _ (cw_eq hw (by first | rfl | (funext j_; simp only [upV, reduceIte]; (repeat' split) <;> first | rfl | omega | (subst_vars; rfl)))) hoT_ (rr (by decide)) ⟨(v_0 64), (v_0 65), (v_0 66), rfl, ⟨t_o, ⟨rfl, rfl, rfl, rfl⟩, (fun _ => rfl)⟩⟩ (Nat.le_of_ble_eq_true rfl) (Nat.le_of_ble_eq_true rfl) dX9_plan_27
