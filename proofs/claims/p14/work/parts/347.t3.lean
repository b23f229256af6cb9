theorem ls_ne {T : Nat → Nat → Nat} (h : WT T) {o : Nat} (ho : T 0 o = 9) : T 180 o ≠ T 181 o ∧ T 180 o ≠ T 182 o ∧ T 180 o ≠ T 183 o ∧ T 181 o ≠ T 180 o ∧ T 181 o ≠ T 182 o ∧ T 181 o ≠ T 183 o ∧ T 182 o ≠ T 180 o ∧ T 182 o ≠ T 181 o ∧ T 182 o ≠ T 183 o ∧ T 183 o ≠ T 180 o ∧ T 183 o ≠ T 181 o ∧ T 183 o ≠ T 182 o := ⟨fun e => (by have q1 := we_180 h ho; have q2 := we_181 h ho; rw [e, q2] at q1; cases q1), fun e => (by have q1 := we_180 h ho; have q2 := we_182 h ho; rw [e, q2] at q1; cases q1), fun e => (by have q1 := we_180 h ho; have q2 := we_183 h ho; rw [e, q2] at q1; cases q1), fun e => (by have q1 := we_181 h ho; have q2 := we_180 h ho; rw [e, q2] at q1; cases q1), fun e => (by have q1 := we_181 h ho; have q2 := we_182 h ho; rw [e, q2] at q1; cases q1), fun e => (by have q1 := we_181 h ho; have q2 := we_183 h ho; rw [e, q2] at q1; cases q1), fun e => (by have q1 := we_182 h ho; have q2 := we_180 h ho; rw [e, q2] at q1; cases q1), fun e => (by have q1 := we_182 h ho; have q2 := we_181 h ho; rw [e, q2] at q1; cases q1), fun e => (by have q1 := we_182 h ho; have q2 := we_183 h ho; rw [e, q2] at q1; cases q1), fun e => (by have q1 := we_183 h ho; have q2 := we_180 h ho; rw [e, q2] at q1; cases q1), fun e => (by have q1 := we_183 h ho; have q2 := we_181 h ho; rw [e, q2] at q1; cases q1), fun e => (by have q1 := we_183 h ho; have q2 := we_182 h ho; rw [e, q2] at q1; cases q1)⟩
theorem le13_ {a b : Int} (e : a = b) (h : 1 ≤ b ∧ b ≤ 3) : 1 ≤ a ∧ a ≤ 3 := by rw [e]; exact h
theorem rf_e {K V : Int → Int} {k k2 j : Int} (e : k2 = k) (h : Rf_ K V k j) : Rf_ K V k2 j := by rw [e]; exact h
theorem ty_neq {T : Nat → Nat → Nat} {a b t : Nat} (h1 : T 0 b = 24 ∨ T 0 b = 26) (h2 : T 0 a = t) (h3 : t ≠ 24) (h4 : t ≠ 26) : b ≠ a := fun e => by
  rw [e, h2] at h1
  exact h1.elim h3 h4
theorem fr_of {D : va_G} {cy : Nat → ClassId} {T : Nat → Nat → Nat} {v : Nat → Nat → Int} {H : Heap} {L q : Nat} (hw : WC D cy T v H) (hL : T 0 L = 10) (hq : H.size ≤ q) : ∀ i_ : Nat, (i_ : Int) < v 202 L → ∀ y_ : Nat, T (1000 + i_) (T 201 L) = y_ + 1 → y_ ≠ q := by
  intro i_ h_ y_ e_
  obtain ⟨x_, hx_, tx_⟩ := (hw.2.2.1 L hL).2.2 i_ h_
  rw [dcd_i e_] at hx_
  have e2_ := Option.some.inj hx_
  have lt_ := cw_lte hw tx_ (wt10 hw.2.1 hL).2.2
  omega
def Wc_ (g : Int → Int) (nn s0 s2 z k2 p2 : Int) : Prop := (32 ≤ s0 ∧ z = -1 ∧ k2 = 0 ∧ p2 = -1 ∧ s2 = s0) ∨ (s0 < 32 ∧ ∃ K V P Q : Int → Int, Strm_ g nn K V P Q ∧ ((z = s0 ∧ s2 = s0 + 1 ∧ k2 = 0 ∧ p2 = -1 ∧ ∃ jn : Int, Ra_ K V 9 jn) ∨ (z = -1 ∧ s2 = s0 ∧ (1 ≤ k2 ∧ k2 ≤ 3) ∧ ∃ jn : Int, p2 = P jn ∧ Rf_ K V k2 jn)))
set_option maxHeartbeats 4000000 in
set_option maxRecDepth 100000 in
theorem n_X1_init_n2 (l : Launch) (D : va_G) (cy : Nat → ClassId) (κ T : Nat → Nat → Nat) (v_0 : Nat → Nat → Int) (o : Nat) (v_a : Int) (v_b : Int) (v_c : Int) (sz : Nat) (hO : ∀ x, ow T x → κ 2 2 ≤ x) (t_o : T 0 o = 102) (r_v_a : inR v_a) (r_v_b : inR v_b) (r_v_c : inR v_c) : KA l D cy κ T yX1_init cX1_init 4 none 2 3 72 [.ref o, .int (J v_a), .int (J v_b), .int (J v_c)] v_0 sz (AV (fun (T_2 : Nat → Nat → Nat) (v_2 : Nat → Nat → Int) => ∃ (y40_2 : Nat → Int) (y41_2 : Nat → Int) (y42_2 : Nat → Int) (y43_2 : Nat → Int) (y44_2 : Nat → Int) (y45_2 : Nat → Int) (y300_2 : Nat → Int) , v_2 = upV (upV (upV (upV (upV (upV (upV v_0 40 y40_2) 41 y41_2) 42 y42_2) 43 y43_2) 44 y44_2) 45 y45_2) 300 y300_2 ∧ ((∀ b, b < sz → b ≠ o → ∀ k, T_2 k b = T k b) ∧ T_2 0 o = 2 ∧ (y40_2) = upB (v_0 40) o v_a ∧ (y41_2) = upB (v_0 41) o v_b ∧ (y42_2) = upB (v_0 42) o v_c ∧ (y43_2) = upB (v_0 43) o (-1) ∧ (y44_2) = upB (v_0 44) o 0 ∧ (y45_2) = upB (v_0 45) o (-1)))) := by
  refine KA.ofv (by decide) (Nat.le_of_ble_eq_true rfl) hO ?_
  intro p e s m below meth c ls ar QW A0 H locs E hK hZ hA hAc hsz hnm hw hlo_ hl hret
  have hl : lv_has ls 4 [(0, .ref o), (1, .int (J v_a)), (2, .int (J v_b)), (3, .int (J v_c))] := hl
  have hT : WT T := hw.1.2.1
  have hoT_ : OW T T s.heap.size := OW.rf T _
  have hR_ : ∀ b, b < sz → b ≠ o → ∀ k, T k b = T k b := fun b _ _ k => rfl
  refine j_aload_n E 1 rfl dX1_init_0 rfl (lv_at hl 0 rfl) ?_
  refine W.objInit E.1 E.2.1 E.2.2.2.1 (E.2.2.2.2.1 _ mo_X1_3) (E.2.2.2.2.1 _ im_ob) (E.2.2.2.2.1 _ cd_ob) rfl (by rw [E.2.2.1]; exact hl.1) rfl dX1_init_1 (Nat.le_of_ble_eq_true rfl) (Nat.le_of_ble_eq_true rfl) ?_
  show W p l e (rmd 2 3 72) s m ar below meth c H locs _ _ QW (F0 m 4 ls [])
  refine j_aload_n E 5 rfl dX1_init_4 rfl (lv_at hl 0 rfl) ?_
  refine j_iconst E 6 rfl dX1_init_5 ?_
  refine rp_43 E hK hw fl_X1_9 t_o (rr (by decide)) 9 rfl dX1_init_6 (fun H locs hw => ?_)
  have hw : WK D cy T (upV v_0 43 (upB (v_0 43) o ((-1)))) A0 s.heap H locs := cw_eq hw (by first | rfl | (funext j_; simp only [upV, reduceIte]; (repeat' split) <;> first | rfl | omega | (subst_vars; rfl)))
  refine j_aload_n E 10 rfl dX1_init_9 rfl (lv_at hl 0 rfl) ?_
  refine j_iconst E 11 rfl dX1_init_10 ?_
  refine rp_44 E hK hw fl_X1_15 t_o (rr (by decide)) (Or.inl rfl) 14 rfl dX1_init_11 (fun H locs hw => ?_)
  have hw : WK D cy T (upV (upV v_0 43 (upB (v_0 43) o ((-1)))) 44 (upB (v_0 44) o 0)) A0 s.heap H locs := cw_eq hw (by first | rfl | (funext j_; simp only [upV, reduceIte]; (repeat' split) <;> first | rfl | omega | (subst_vars; rfl)))
  refine j_aload_n E 15 rfl dX1_init_14 rfl (lv_at hl 0 rfl) ?_
  refine j_iconst E 16 rfl dX1_init_15 ?_
  refine rp_45 E hK hw fl_X1_19 t_o (rr (by decide)) 19 rfl dX1_init_16 (fun H locs hw => ?_)
  have hw : WK D cy T (upV (upV (upV v_0 43 (upB (v_0 43) o ((-1)))) 44 (upB (v_0 44) o 0)) 45 (upB (v_0 45) o ((-1)))) A0 s.heap H locs := cw_eq hw (by first | rfl | (funext j_; simp only [upV, reduceIte]; (repeat' split) <;> first | rfl | omega | (subst_vars; rfl)))
  refine j_aload_n E 20 rfl dX1_init_19 rfl (lv_at hl 0 rfl) ?_
  refine j_bipush E 22 rfl dX1_init_20 (by decide) ?_
  have hw0_ := hw
  refine n_arr20 E hK hw hA (300 * o + 46) 24 (by decide) (by decide) (Nat.le_of_ble_eq_true rfl) (Nat.le_of_ble_eq_true rfl) 24 rfl dX1_init_22 (fun q4_ T4_ y300_4 H hge4_ hx4_ ho4_ tq4_ tl4_ tw4_ yz4_ yo4_ hw => ?_)
  have fq4_ : s.heap.size ≤ q4_ := Nat.le_trans hw0_.2.2.1 hge4_
  have hw : WK D cy T4_ (upV (upV (upV (upV v_0 43 (upB (v_0 43) o ((-1)))) 44 (upB (v_0 44) o 0)) 45 (upB (v_0 45) o ((-1)))) 300 y300_4) A0 s.heap H locs := cw_eq hw (by first | rfl | (funext j_; simp only [upV, reduceIte]; (repeat' split) <;> first | rfl | omega | (subst_vars; rfl)))
  have yo4_ : ∀ b, b ≠ q4_ → ∀ i, y300_4 (pr b i) = v_0 300 (pr b i) := yo4_
  have hT4_ : WT T4_ := hw.1.2.1
  have hO4_ : ∀ x, ow T4_ x → κ 2 2 ≤ x := fun x h => hAc x (hw.2.1 x h)
  have hoT_ : OW T T4_ s.heap.size := OW.tr hw0_.2.2.1 hoT_ ho4_
  have hR_ : ∀ b, b < sz → b ≠ o → ∀ k, T4_ k b = T k b := fun b_ h1_ h2_ k_ => (hx4_ b_ (by have := hw0_.2.2.1; have := hge4_; omega) k_).trans (hR_ b_ h1_ h2_ k_)
  have u5_ : T4_ 0 o = 102 := (hx4_ o (Nat.ne_of_lt (Nat.lt_of_lt_of_le (cw_lt hw0_.1 t_o (fun _ _ _ => ⟨_, rfl⟩)) hge4_)) 0).trans t_o
  have hw0_ := hw
  refine rr_46 E hK hw hnm fl_X1_22 u5_ 27 rfl dX1_init_24 (fun T6_ H locs hx6_ hj6_ hk6_ ho6_ hw => ?_)
  have hT6_ : WT T6_ := hw.1.2.1
  have hO6_ : ∀ x, ow T6_ x → κ 2 2 ≤ x := fun x h => hAc x (hw.2.1 x h)
  have hoT_ : OW T T6_ s.heap.size := OW.tr0 hoT_ ho6_
  have hR_ : ∀ b, b < sz → b ≠ o → ∀ k, T6_ k b = T k b := fun b_ h1_ h2_ k_ => (hx6_ b_ h2_ k_).trans (hR_ b_ h1_ h2_ k_)
  have u7_ : T6_ 0 o = 102 := (hj6_ 0 (by decide)).trans u5_
  have u8_ : T6_ 0 q4_ = 20 := (hx6_ q4_ (ty_ne tq4_ u5_ (by decide)) 0).trans tq4_
  have u9_ : T6_ 1 q4_ = 24 := (hx6_ q4_ (ty_ne tq4_ u5_ (by decide)) 1).trans tl4_
  have u10_ : T6_ 3 q4_ = 300 * o + 46 := (hx6_ q4_ (ty_ne tq4_ u5_ (by decide)) 3).trans tw4_
  refine j_aload_n E 28 rfl dX1_init_27 rfl (lv_at hl 0 rfl) ?_
  refine j_bipush E 30 rfl dX1_init_28 (by decide) ?_
  have hw0_ := hw
  refine n_arr20 E hK hw hA (300 * o + 47) 24 (by decide) (by decide) (Nat.le_of_ble_eq_true rfl) (Nat.le_of_ble_eq_true rfl) 32 rfl dX1_init_30 (fun q11_ T11_ y300_11 H hge11_ hx11_ ho11_ tq11_ tl11_ tw11_ yz11_ yo11_ hw => ?_)
  have fq11_ : s.heap.size ≤ q11_ := Nat.le_trans hw0_.2.2.1 hge11_
  have hw : WK D cy T11_ (upV (upV (upV (upV v_0 43 (upB (v_0 43) o ((-1)))) 44 (upB (v_0 44) o 0)) 45 (upB (v_0 45) o ((-1)))) 300 y300_11) A0 s.heap H locs := cw_eq hw (by first | rfl | (funext j_; simp only [upV, reduceIte]; (repeat' split) <;> first | rfl | omega | (subst_vars; rfl)))
  have yo11_ : ∀ b, b ≠ q11_ → ∀ i, y300_11 (pr b i) = y300_4 (pr b i) := yo11_
  have hT11_ : WT T11_ := hw.1.2.1
  have hO11_ : ∀ x, ow T11_ x → κ 2 2 ≤ x := fun x h => hAc x (hw.2.1 x h)
  have hoT_ : OW T T11_ s.heap.size := OW.tr hw0_.2.2.1 hoT_ ho11_
  have hR_ : ∀ b, b < sz → b ≠ o → ∀ k, T11_ k b = T k b := fun b_ h1_ h2_ k_ => (hx11_ b_ (by have := hw0_.2.2.1; have := hge11_; omega) k_).trans (hR_ b_ h1_ h2_ k_)
  have u12_ : T11_ 0 o = 102 := (hx11_ o (Nat.ne_of_lt (Nat.lt_of_lt_of_le (cw_lt hw0_.1 u7_ (fun _ _ _ => ⟨_, rfl⟩)) hge11_)) 0).trans u7_
  have u13_ : T11_ 0 q4_ = 20 := (hx11_ q4_ (Nat.ne_of_lt (Nat.lt_of_lt_of_le (cw_lt hw0_.1 u8_ (fun _ _ _ => ⟨_, rfl⟩)) hge11_)) 0).trans u8_
  have u14_ : T11_ 1 q4_ = 24 := (hx11_ q4_ (Nat.ne_of_lt (Nat.lt_of_lt_of_le (cw_lt hw0_.1 u8_ (fun _ _ _ => ⟨_, rfl⟩)) hge11_)) 1).trans u9_
  have u15_ : T11_ 3 q4_ = 300 * o + 46 := (hx11_ q4_ (Nat.ne_of_lt (Nat.lt_of_lt_of_le (cw_lt hw0_.1 u8_ (fun _ _ _ => ⟨_, rfl⟩)) hge11_)) 3).trans u10_
  have u16_ : T11_ 46 o = q4_ + 1 := (hx11_ o (Nat.ne_of_lt (Nat.lt_of_lt_of_le (cw_lt hw0_.1 u7_ (fun _ _ _ => ⟨_, rfl⟩)) hge11_)) 46).trans hk6_
  have hw0_ := hw
  refine rr_47 E hK hw hnm fl_X1_26 u12_ 35 rfl dX1_init_32 (fun T17_ H locs hx17_ hj17_ hk17_ ho17_ hw => ?_)
  have hT17_ : WT T17_ := hw.1.2.1
  have hO17_ : ∀ x, ow T17_ x → κ 2 2 ≤ x := fun x h => hAc x (hw.2.1 x h)
  have hoT_ : OW T T17_ s.heap.size := OW.tr0 hoT_ ho17_
  have hR_ : ∀ b, b < sz → b ≠ o → ∀ k, T17_ k b = T k b := fun b_ h1_ h2_ k_ => (hx17_ b_ h2_ k_).trans (hR_ b_ h1_ h2_ k_)
  have u18_ : T17_ 0 o = 102 := (hj17_ 0 (by decide)).trans u12_
  have u19_ : T17_ 0 q4_ = 20 := (hx17_ q4_ (ty_ne u13_ u12_ (by decide)) 0).trans u13_
  have u20_ : T17_ 0 q11_ = 20 := (hx17_ q11_ (ty_ne tq11_ u12_ (by decide)) 0).trans tq11_
  have u21_ : T17_ 1 q4_ = 24 := (hx17_ q4_ (ty_ne u13_ u12_ (by decide)) 1).trans u14_
  have u22_ : T17_ 1 q11_ = 24 := (hx17_ q11_ (ty_ne tq11_ u12_ (by decide)) 1).trans tl11_
  have u23_ : T17_ 3 q4_ = 300 * o + 46 := (hx17_ q4_ (ty_ne u13_ u12_ (by decide)) 3).trans u15_
  have u24_ : T17_ 3 q11_ = 300 * o + 47 := (hx17_ q11_ (ty_ne tq11_ u12_ (by decide)) 3).trans tw11_
  have u25_ : T17_ 46 o = q4_ + 1 := (hj17_ 46 (by decide)).trans u16_
  refine j_aload_n E 36 rfl dX1_init_35 rfl (lv_at hl 0 rfl) ?_
  refine j_bipush E 38 rfl dX1_init_36 (by decide) ?_
  have hw0_ := hw
  refine n_arr20 E hK hw hA (300 * o + 48) 24 (by decide) (by decide) (Nat.le_of_ble_eq_true rfl) (Nat.le_of_ble_eq_true rfl) 40 rfl dX1_init_38 (fun q26_ T26_ y300_26 H hge26_ hx26_ ho26_ tq26_ tl26_ tw26_ yz26_ yo26_ hw => ?_)
  have fq26_ : s.heap.size ≤ q26_ := Nat.le_trans hw0_.2.2.1 hge26_
  have hw : WK D cy T26_ (upV (upV (upV (upV v_0 43 (upB (v_0 43) o ((-1)))) 44 (upB (v_0 44) o 0)) 45 (upB (v_0 45) o ((-1)))) 300 y300_26) A0 s.heap H locs := cw_eq hw (by first | rfl | (funext j_; simp only [upV, reduceIte]; (repeat' split) <;> first | rfl | omega | (subst_vars; rfl)))
  have yo26_ : ∀ b, b ≠ q26_ → ∀ i, y300_26 (pr b i) = y300_11 (pr b i) := yo26_
  have hT26_ : WT T26_ := hw.1.2.1
  have hO26_ : ∀ x, ow T26_ x → κ 2 2 ≤ x := fun x h => hAc x (hw.2.1 x h)
  have hoT_ : OW T T26_ s.heap.size := OW.tr hw0_.2.2.1 hoT_ ho26_
  have hR_ : ∀ b, b < sz → b ≠ o → ∀ k, T26_ k b = T k b := fun b_ h1_ h2_ k_ => (hx26_ b_ (by have := hw0_.2.2.1; have := hge26_; omega) k_).trans (hR_ b_ h1_ h2_ k_)
  have u27_ : T26_ 0 o = 102 := (hx26_ o (Nat.ne_of_lt (Nat.lt_of_lt_of_le (cw_lt hw0_.1 u18_ (fun _ _ _ => ⟨_, rfl⟩)) hge26_)) 0).trans u18_
  have u28_ : T26_ 0 q4_ = 20 := (hx26_ q4_ (Nat.ne_of_lt (Nat.lt_of_lt_of_le (cw_lt hw0_.1 u19_ (fun _ _ _ => ⟨_, rfl⟩)) hge26_)) 0).trans u19_
  have u29_ : T26_ 0 q11_ = 20 := (hx26_ q11_ (Nat.ne_of_lt (Nat.lt_of_lt_of_le (cw_lt hw0_.1 u20_ (fun _ _ _ => ⟨_, rfl⟩)) hge26_)) 0).trans u20_
  have u30_ : T26_ 1 q4_ = 24 := (hx26_ q4_ (Nat.ne_of_lt (Nat.lt_of_lt_of_le (cw_lt hw0_.1 u19_ (fun _ _ _ => ⟨_, rfl⟩)) hge26_)) 1).trans u21_
  have u31_ : T26_ 1 q11_ = 24 := (hx26_ q11_ (Nat.ne_of_lt (Nat.lt_of_lt_of_le (cw_lt hw0_.1 u20_ (fun _ _ _ => ⟨_, rfl⟩)) hge26_)) 1).trans u22_
  have u32_ : T26_ 3 q4_ = 300 * o + 46 := (hx26_ q4_ (Nat.ne_of_lt (Nat.lt_of_lt_of_le (cw_lt hw0_.1 u19_ (fun _ _ _ => ⟨_, rfl⟩)) hge26_)) 3).trans u23_
  have u33_ : T26_ 3 q11_ = 300 * o + 47 := (hx26_ q11_ (Nat.ne_of_lt (Nat.lt_of_lt_of_le (cw_lt hw0_.1 u20_ (fun _ _ _ => ⟨_, rfl⟩)) hge26_)) 3).trans u24_
  have u34_ : T26_ 46 o = q4_ + 1 := (hx26_ o (Nat.ne_of_lt (Nat.lt_of_lt_of_le (cw_lt hw0_.1 u18_ (fun _ _ _ => ⟨_, rfl⟩)) hge26_)) 46).trans u25_
  have u35_ : T26_ 47 o = q11_ + 1 := (hx26_ o (Nat.ne_of_lt (Nat.lt_of_lt_of_le (cw_lt hw0_.1 u18_ (fun _ _ _ => ⟨_, rfl⟩)) hge26_)) 47).trans hk17_
  have hw0_ := hw
  refine rr_48 E hK hw hnm fl_X1_29 u27_ 43 rfl dX1_init_40 (fun T36_ H locs hx36_ hj36_ hk36_ ho36_ hw => ?_)
  have hT36_ : WT T36_ := hw.1.2.1
  have hO36_ : ∀ x, ow T36_ x → κ 2 2 ≤ x := fun x h => hAc x (hw.2.1 x h)
  have hoT_ : OW T T36_ s.heap.size := OW.tr0 hoT_ ho36_
  have hR_ : ∀ b, b < sz → b ≠ o → ∀ k, T36_ k b = T k b := fun b_ h1_ h2_ k_ => (hx36_ b_ h2_ k_).trans (hR_ b_ h1_ h2_ k_)
  have u37_ : T36_ 0 o = 102 := (hj36_ 0 (by decide)).trans u27_
  have u38_ : T36_ 0 q4_ = 20 := (hx36_ q4_ (ty_ne u28_ u27_ (by decide)) 0).trans u28_
  have u39_ : T36_ 0 q11_ = 20 := (hx36_ q11_ (ty_ne u29_ u27_ (by decide)) 0).trans u29_
  have u40_ : T36_ 0 q26_ = 20 := (hx36_ q26_ (ty_ne tq26_ u27_ (by decide)) 0).trans tq26_
  have u41_ : T36_ 1 q4_ = 24 := (hx36_ q4_ (ty_ne u28_ u27_ (by decide)) 1).trans u30_
  have u42_ : T36_ 1 q11_ = 24 := (hx36_ q11_ (ty_ne u29_ u27_ (by decide)) 1).trans u31_
  have u43_ : T36_ 1 q26_ = 24 := (hx36_ q26_ (ty_ne tq26_ u27_ (by decide)) 1).trans tl26_
  have u44_ : T36_ 3 q4_ = 300 * o + 46 := (hx36_ q4_ (ty_ne u28_ u27_ (by decide)) 3).trans u32_
  have u45_ : T36_ 3 q11_ = 300 * o + 47 := (hx36_ q11_ (ty_ne u29_ u27_ (by decide)) 3).trans u33_
  have u46_ : T36_ 3 q26_ = 300 * o + 48 := (hx36_ q26_ (ty_ne tq26_ u27_ (by decide)) 3).trans tw26_
  have u47_ : T36_ 46 o = q4_ + 1 := (hj36_ 46 (by decide)).trans u34_
  have u48_ : T36_ 47 o = q11_ + 1 := (hj36_ 47 (by decide)).trans u35_
  refine j_aload_n E 44 rfl dX1_init_43 rfl (lv_at hl 0 rfl) ?_
  refine j_iload_n E 45 rfl dX1_init_44 rfl (lv_at hl 1 rfl) ?_
  refine rp_40 E hK hw hnm fl_X1_32 u37_ r_v_a 48 rfl dX1_init_45 (fun H locs hw => ?_)
  have hw : WK D cy T36_ (upV (upV (upV (upV (upV v_0 40 (upB (v_0 40) o v_a)) 43 (upB (v_0 43) o ((-1)))) 44 (upB (v_0 44) o 0)) 45 (upB (v_0 45) o ((-1)))) 300 y300_26) A0 s.heap H locs := cw_eq hw (by first | rfl | (funext j_; simp only [upV, reduceIte]; (repeat' split) <;> first | rfl | omega | (subst_vars; rfl)))
  refine j_aload_n E 49 rfl dX1_init_48 rfl (lv_at hl 0 rfl) ?_
  refine j_iload_n E 50 rfl dX1_init_49 rfl (lv_at hl 2 rfl) ?_
  refine rp_41 E hK hw hnm fl_X1_35 u37_ r_v_b 53 rfl dX1_init_50 (fun H locs hw => ?_)
  have hw : WK D cy T36_ (upV (upV (upV (upV (upV (upV v_0 40 (upB (v_0 40) o v_a)) 41 (upB (v_0 41) o v_b)) 43 (upB (v_0 43) o ((-1)))) 44 (upB (v_0 44) o 0)) 45 (upB (v_0 45) o ((-1)))) 300 y300_26) A0 s.heap H locs := cw_eq hw (by first | rfl | exact (funext fun j_ => if a40_ : j_ = 40 then (by subst a40_; rfl) else if a41_ : j_ = 41 then (by subst a41_; rfl) else if a43_ : j_ = 43 then (by subst a43_; rfl) else if a44_ : j_ = 44 then (by subst a44_; rfl) else if a45_ : j_ = 45 then (by subst a45_; rfl) else if a300_ : j_ = 300 then (by subst a300_; rfl) else (by simp only [upV, if_neg a40_, if_neg a41_, if_neg a43_, if_neg a44_, if_neg a45_, if_neg a300_])))
  refine j_aload_n E 54 rfl dX1_init_53 rfl (lv_at hl 0 rfl) ?_
  refine j_iload_n E 55 rfl dX1_init_54 rfl (lv_at hl 3 rfl) ?_
  refine rp_42 E hK hw hnm fl_X1_38 u37_ r_v_c 58 rfl dX1_init_55 (fun H locs hw => ?_)
  have hw : WK D cy T36_ (upV (upV (upV (upV (upV (upV (upV v_0 40 (upB (v_0 40) o v_a)) 41 (upB (v_0 41) o v_b)) 42 (upB (v_0 42) o v_c)) 43 (upB (v_0 43) o ((-1)))) 44 (upB (v_0 44) o 0)) 45 (upB (v_0 45) o ((-1)))) 300 y300_26) A0 s.heap H locs := cw_eq hw (by first | rfl | exact (funext fun j_ => if a40_ : j_ = 40 then (by subst a40_; rfl) else if a41_ : j_ = 41 then (by subst a41_; rfl) else if a42_ : j_ = 42 then (by subst a42_; rfl) else if a43_ : j_ = 43 then (by subst a43_; rfl) else if a44_ : j_ = 44 then (by subst a44_; rfl) else if a45_ : j_ = 45 then (by subst a45_; rfl) else if a300_ : j_ = 300 then (by subst a300_; rfl) else (by simp only [upV, if_neg a40_, if_neg a41_, if_neg a42_, if_neg a43_, if_neg a44_, if_neg a45_, if_neg a300_])))
  have hw0_ := hw
  obtain ⟨T52_, hx52_, tq52_, xe52_46_, xe52_47_, xe52_48_, ho52_, hw⟩ := pm_2 hw u37_ u47_ u38_ u41_ u44_ u48_ u39_ u42_ u45_ hk36_ u40_ u43_ u46_
  have hT52_ : WT T52_ := hw.1.2.1
  have hO52_ : ∀ x, ow T52_ x → κ 2 2 ≤ x := fun x h => hAc x (hw.2.1 x h)
  have hoT_ : OW T T52_ s.heap.size := OW.tr0 hoT_ ho52_
  have hR_ : ∀ b, b < sz → b ≠ o → ∀ k, T52_ k b = T k b := fun b_ h1_ h2_ k_ => (hx52_ b_ h2_ k_).trans (hR_ b_ h1_ h2_ k_)
  refine j_aload_n E 59 rfl dX1_init_58 rfl (lv_at hl 0 rfl) ?_
  refine g_46 E hK hw fl_X1_22 tq52_ 62 rfl dX1_init_59 ?_
  have ln53_ := wl_46 hT52_ tq52_
  refine j_iconst E 63 rfl dX1_init_62 ?_
  refine kS_v E (c_J7_fill_53178 l D cy T52_ (upV (upV (upV (upV (upV (upV (upV v_0 40 (upB (v_0 40) o v_a)) 41 (upB (v_0 41) o v_b)) 42 (upB (v_0 42) o v_c)) 43 (upB (v_0 43) o ((-1)))) 44 (upB (v_0 44) o 0)) 45 (upB (v_0 45) o ((-1)))) 300 y300_26) (T52_ 46 o) ((-1))   (wt_46 hT52_ tq52_) (rr (by decide)) ) ms_J7_fill_53178 ml_X1_41 hK hw hA ⟨Nat.le_of_ble_eq_true rfl, Nat.le_of_ble_eq_true rfl⟩ ⟨Nat.le_of_ble_eq_true rfl, Nat.le_of_ble_eq_true rfl⟩ (As := [.ref (T52_ 46 o), .int (J ((-1)))]) (rest := []) rfl rfl hl.1 (Nat.le_of_ble_eq_true rfl) 66 rfl dX1_init_63 (fun v_54 H locs hq54_ hw => ?_)
  obtain ⟨y300_54, ev54_, hh54_⟩ := hq54_
  rw [ev54_] at hw; clear ev54_
  have hw : WK D cy T52_ (upV (upV (upV (upV (upV (upV (upV v_0 40 (upB (v_0 40) o v_a)) 41 (upB (v_0 41) o v_b)) 42 (upB (v_0 42) o v_c)) 43 (upB (v_0 43) o ((-1)))) 44 (upB (v_0 44) o 0)) 45 (upB (v_0 45) o ((-1)))) 300 y300_54) A0 s.heap H locs := cw_eq hw (by first | rfl | exact (funext fun j_ => if a40_ : j_ = 40 then (by subst a40_; rfl) else if a41_ : j_ = 41 then (by subst a41_; rfl) else if a42_ : j_ = 42 then (by subst a42_; rfl) else if a43_ : j_ = 43 then (by subst a43_; rfl) else if a44_ : j_ = 44 then (by subst a44_; rfl) else if a45_ : j_ = 45 then (by subst a45_; rfl) else if a300_ : j_ = 300 then (by subst a300_; rfl) else (by simp only [upV, if_neg a40_, if_neg a41_, if_neg a42_, if_neg a43_, if_neg a44_, if_neg a45_, if_neg a300_])))
  refine j_aload_n E 67 rfl dX1_init_66 rfl (lv_at hl 0 rfl) ?_
  refine g_48 E hK hw fl_X1_29 tq52_ 70 rfl dX1_init_67 ?_
  have ln55_ := wl_48 hT52_ tq52_
  refine j_iconst E 71 rfl dX1_init_70 ?_
  refine kS_v E (c_J7_fill_53178 l D cy T52_ (upV (upV (upV (upV (upV (upV (upV v_0 40 (upB (v_0 40) o v_a)) 41 (upB (v_0 41) o v_b)) 42 (upB (v_0 42) o v_c)) 43 (upB (v_0 43) o ((-1)))) 44 (upB (v_0 44) o 0)) 45 (upB (v_0 45) o ((-1)))) 300 y300_54) (T52_ 48 o) ((-1))   (wt_48 hT52_ tq52_) (rr (by decide)) ) ms_J7_fill_53178 ml_X1_41 hK hw hA ⟨Nat.le_of_ble_eq_true rfl, Nat.le_of_ble_eq_true rfl⟩ ⟨Nat.le_of_ble_eq_true rfl, Nat.le_of_ble_eq_true rfl⟩ (As := [.ref (T52_ 48 o), .int (J ((-1)))]) (rest := []) rfl rfl hl.1 (Nat.le_of_ble_eq_true rfl) 74 rfl dX1_init_71 (fun v_56 H locs hq56_ hw => ?_)
  obtain ⟨y300_56, ev56_, hh56_⟩ := hq56_
  rw [ev56_] at hw; clear ev56_
  have hw : WK D cy T52_ (upV (upV (upV (upV (upV (upV (upV v_0 40 (upB (v_0 40) o v_a)) 41 (upB (v_0 41) o v_b)) 42 (upB (v_0 42) o v_c)) 43 (upB (v_0 43) o ((-1)))) 44 (upB (v_0 44) o 0)) 45 (upB (v_0 45) o ((-1)))) 300 y300_56) A0 s.heap H locs := cw_eq hw (by first | rfl | exact (funext fun j_ => if a40_ : j_ = 40 then (by subst a40_; rfl) else if a41_ : j_ = 41 then (by subst a41_; rfl) else if a42_ : j_ = 42 then (by subst a42_; rfl) else if a43_ : j_ = 43 then (by subst a43_; rfl) else if a44_ : j_ = 44 then (by subst a44_; rfl) else if a45_ : j_ = 45 then (by subst a45_; rfl) else if a300_ : j_ = 300 then (by subst a300_; rfl) else (by simp only [upV, if_neg a40_, if_neg a41_, if_neg a42_, if_neg a43_, if_neg a44_, if_neg a45_, if_neg a300_])))
  exact hret 74 T52_ (upV (upV (upV (upV (upV (upV (upV v_0 40 (upB (v_0 40) o v_a)) 41 (upB (v_0 41) o v_b)) 42 (upB (v_0 42) o v_c)) 43 (upB (v_0 43) o ((-1)))) 44 (upB (v_0 44) o 0)) 45 (upB (v_0 45) o ((-1)))) 300 y300_56) _ _ ls _ _ hw hoT_ ⟨(upB (v_0 40) o v_a), (upB (v_0 41) o v_b), (upB (v_0 42) o v_c), (upB (v_0 43) o ((-1))), (upB (v_0 44) o 0), (upB (v_0 45) o ((-1))), y300_56, rfl, ⟨hR_, tq52_, rfl, rfl, rfl, rfl, rfl, rfl⟩⟩ (Nat.le_of_ble_eq_true rfl) (Nat.le_of_ble_eq_true rfl) dX1_init_74
set_option maxHeartbeats 4000000 in
set_option maxRecDepth 100000 in
theorem n_X9_person (l : Launch) (D : va_G) (cy : Nat → ClassId) (κ T : Nat → Nat → Nat) (v_0 : Nat → Nat → Int) (o : Nat) (v_q : Int) (v_f : Int) (v_b : Int) (sz : Nat) (hO : ∀ x, ow T x → κ 2 2 ≤ x) (t_o : T 0 o = 9) (r_v_q : inR v_q) (r_v_f : inR v_f) (r_v_b : inR v_b) (hp0 : ∀ x, T 0 x = 26 → x = κ 2 0) : KA l D cy κ T yX9_person cX9_person 5 (some .int) 8 5 500 [.ref o, .int (J v_q), .int (J v_f), .int (J v_b)] v_0 sz (AI (fun (z_0 : Int) (T_2 : Nat → Nat → Nat) (v_2 : Nat → Nat → Int) => T_2 0 o = 9 ∧ (T_2 180 o = T 180 o ∧ T_2 181 o = T 181 o ∧ T_2 182 o = T 182 o ∧ T_2 183 o = T 183 o ∧ T_2 185 o = T 185 o) ∧ v_2 186 o = v_0 186 o ∧ v_2 187 o = v_0 187 o ∧ v_2 190 o = v_0 190 o ∧ v_2 191 o = v_0 191 o ∧ v_2 303 = v_0 303 ∧ v_2 202 (T 181 o) = v_0 202 (T 181 o) ∧ v_2 202 (T 182 o) = v_0 202 (T 182 o) ∧ v_2 202 (T 183 o) = v_0 202 (T 183 o) ∧ ((z_0 = -1 ∧ (v_q < 0 ∨ 3 < v_q ∨ v_f < 0 ∨ 7 < v_f ∨ v_b < -90 ∨ v_0 187 o < v_b ∨ 24 ≤ v_0 202 (T 180 o)) ∧ v_2 202 (T 180 o) = v_0 202 (T 180 o) ∧ (∀ i_ : Nat, T_2 (1000 + i_) (T_2 201 (T_2 180 o)) = T (1000 + i_) (T 201 (T 180 o))) ∧ v_2 40 = v_0 40 ∧ v_2 41 = v_0 41 ∧ v_2 42 = v_0 42 ∧ v_2 43 = v_0 43 ∧ v_2 44 = v_0 44) ∨ (z_0 = v_0 202 (T 180 o) ∧ (0 ≤ v_q ∧ v_q ≤ 3 ∧ 0 ≤ v_f ∧ v_f ≤ 7 ∧ -90 ≤ v_b ∧ v_b ≤ v_0 187 o ∧ v_0 202 (T 180 o) < 24) ∧ v_2 202 (T 180 o) = v_0 202 (T 180 o) + 1 ∧ ∃ q_ : Nat, (∀ i_ : Nat, (i_ : Int) < v_0 202 (T 180 o) → ∀ y_ : Nat, T (1000 + i_) (T 201 (T 180 o)) = y_ + 1 → y_ ≠ q_) ∧ (∀ i_ : Nat, (i_ : Int) < v_0 202 (T 180 o) → T_2 (1000 + i_) (T_2 201 (T_2 180 o)) = T (1000 + i_) (T 201 (T 180 o))) ∧ T_2 (1000 + (v_0 202 (T 180 o)).toNat) (T_2 201 (T_2 180 o)) = q_ + 1 ∧ (∀ y_ : Nat, y_ ≠ q_ → v_2 40 y_ = v_0 40 y_ ∧ v_2 41 y_ = v_0 41 y_ ∧ v_2 42 y_ = v_0 42 y_ ∧ v_2 43 y_ = v_0 43 y_ ∧ v_2 44 y_ = v_0 44 y_) ∧ v_2 40 q_ = v_q ∧ v_2 41 q_ = v_f ∧ v_2 42 q_ = v_b ∧ v_2 43 q_ = -1 ∧ v_2 44 q_ = 0)))) := by
  refine KA.ofi (by decide) (Nat.le_of_ble_eq_true rfl) hO ?_
  intro p e s m below meth c ls ar QW A0 H locs E hK hZ hA hAc hsz hnm hw hlo_ hl hret
  have hl : lv_has ls 5 [(0, .ref o), (1, .int (J v_q)), (2, .int (J v_f)), (3, .int (J v_b))] := hl
  have hT : WT T := hw.1.2.1
  have hoT_ : OW T T s.heap.size := OW.rf T _
  have tl180_ : T 0 (T 180 o) = 10 := wt_180 hT t_o
  have tx180_ : T 0 (T 201 (T 180 o)) = 24 ∨ T 0 (T 201 (T 180 o)) = 26 := (wt10 hT tl180_).1
  have B180_ : ∀ j, j ≠ 197 → T j (T 180 o) = T j (T 180 o) := fun _ _ => rfl
  have A180_ : ∀ j, j ≠ 197 → T j (T 201 (T 180 o)) = T j (T 201 (T 180 o)) := fun _ _ => rfl
  have tl181_ : T 0 (T 181 o) = 10 := wt_181 hT t_o
  have tx181_ : T 0 (T 201 (T 181 o)) = 24 ∨ T 0 (T 201 (T 181 o)) = 26 := (wt10 hT tl181_).1
  have B181_ : ∀ j, j ≠ 197 → T j (T 181 o) = T j (T 181 o) := fun _ _ => rfl
  have A181_ : ∀ j, j ≠ 197 → T j (T 201 (T 181 o)) = T j (T 201 (T 181 o)) := fun _ _ => rfl
  have tl182_ : T 0 (T 182 o) = 10 := wt_182 hT t_o
  have tx182_ : T 0 (T 201 (T 182 o)) = 24 ∨ T 0 (T 201 (T 182 o)) = 26 := (wt10 hT tl182_).1
  have B182_ : ∀ j, j ≠ 197 → T j (T 182 o) = T j (T 182 o) := fun _ _ => rfl
  have A182_ : ∀ j, j ≠ 197 → T j (T 201 (T 182 o)) = T j (T 201 (T 182 o)) := fun _ _ => rfl
  have tl183_ : T 0 (T 183 o) = 10 := wt_183 hT t_o
  have tx183_ : T 0 (T 201 (T 183 o)) = 24 ∨ T 0 (T 201 (T 183 o)) = 26 := (wt10 hT tl183_).1
  have B183_ : ∀ j, j ≠ 197 → T j (T 183 o) = T j (T 183 o) := fun _ _ => rfl
  have A183_ : ∀ j, j ≠ 197 → T j (T 201 (T 183 o)) = T j (T 201 (T 183 o)) := fun _ _ => rfl
  have L24_1 : ∀ (s0_24 : Int) (H : Heap) (locs : List Loc) (ls : Array Slot), inR s0_24 → ((s0_24 = 0 ∧ (v_q < 0 ∨ 4 ≤ v_q ∨ v_f < 0 ∨ 8 ≤ v_f)) ∨ (s0_24 = 1 ∧ 0 ≤ v_q ∧ v_q < 4 ∧ 0 ≤ v_f ∧ v_f < 8)) → WK D cy T (v_0) A0 s.heap H locs → lv_has ls 5 [(0, .ref o), (1, .int (J v_q)), (2, .int (J v_f)), (3, .int (J v_b))] → W p l e (rmd 8 5 500) s m ar below meth c H locs 0 0 QW (F0 m 24 ls [.int (J s0_24)]) := by
    intro s0_24 H locs ls r_s0_24 iv24 hw hl
    refine j_istore E 26 rfl [(4, .int (J s0_24)), (0, .ref o), (1, .int (J v_q)), (2, .int (J v_f)), (3, .int (J v_b))] dX9_person_24 hl (by decide) rfl (fun ls hl => ?_)
    refine j_iload E 28 rfl dX9_person_26 (lv_at hl 0 rfl) ?_
    refine j_if_eq E 31 57 rfl r_s0_24 dX9_person_28 (by decide) (fun cc3_ => ?_) (fun cc3_ => ?_)
    · refine j_iconst E 58 rfl dX9_person_57 ?_
      exact hret 58 ((-1)) T _ _ _ ls _ _ hw hoT_ (rr (by decide)) (⟨t_o, ⟨rfl, rfl, rfl, rfl, rfl⟩, rfl, rfl, rfl, rfl, rfl, rfl, rfl, rfl, Or.inl ⟨rfl, by omega, rfl, fun _ => rfl, rfl, rfl, rfl, rfl, rfl⟩⟩) (Nat.le_of_ble_eq_true rfl) (Nat.le_of_ble_eq_true rfl) dX9_person_58
    · refine j_iload_n E 32 rfl dX9_person_31 rfl (lv_at hl 4 rfl) ?_
      refine j_bipush E 34 rfl dX9_person_32 (by decide) ?_
      refine j_icmp_lt E 37 57 rfl r_v_b (rr (by decide)) dX9_person_34 (by decide) (fun cc4_ => ?_) (fun cc4_ => ?_)
      · refine j_iconst E 58 rfl dX9_person_57 ?_
        exact hret 58 ((-1)) T _ _ _ ls _ _ hw hoT_ (rr (by decide)) (⟨t_o, ⟨rfl, rfl, rfl, rfl, rfl⟩, rfl, rfl, rfl, rfl, rfl, rfl, rfl, rfl, Or.inl ⟨rfl, by omega, rfl, fun _ => rfl, rfl, rfl, rfl, rfl, rfl⟩⟩) (Nat.le_of_ble_eq_true rfl) (Nat.le_of_ble_eq_true rfl) dX9_person_58
      · refine j_iload_n E 38 rfl dX9_person_37 rfl (lv_at hl 4 rfl) ?_
        refine j_aload_n E 39 rfl dX9_person_38 rfl (lv_at hl 1 rfl) ?_
        refine g_187 E hK hw fl_X9_37 t_o (v_0 187 o) rfl 42 rfl dX9_person_39 (fun rr5_ => ?_)
        refine j_icmp_gt E 45 57 rfl r_v_b rr5_ dX9_person_42 (by decide) (fun cc6_ => ?_) (fun cc6_ => ?_)
        · refine j_iconst E 58 rfl dX9_person_57 ?_
          exact hret 58 ((-1)) T _ _ _ ls _ _ hw hoT_ (rr (by decide)) (⟨t_o, ⟨rfl, rfl, rfl, rfl, rfl⟩, rfl, rfl, rfl, rfl, rfl, rfl, rfl, rfl, Or.inl ⟨rfl, by omega, rfl, fun _ => rfl, rfl, rfl, rfl, rfl, rfl⟩⟩) (Nat.le_of_ble_eq_true rfl) (Nat.le_of_ble_eq_true rfl) dX9_person_58
        · refine j_aload_n E 46 rfl dX9_person_45 rfl (lv_at hl 1 rfl) ?_
          refine g_180 E hK hw fl_X9_12 t_o 49 rfl dX9_person_46 ?_
          refine kV_i E (c_Jx4a65c_size_8abf5 l D cy T (v_0) (T 180 o)  (wt_180 hT t_o)  ) mt_Jx4a65c_size_8abf5 ml_X9_80 hK hw (cw_rc10 hK hw.1 (wt_180 hT t_o)) hA ⟨Nat.le_of_ble_eq_true rfl, Nat.le_of_ble_eq_true rfl⟩ ⟨Nat.le_of_ble_eq_true rfl, Nat.le_of_ble_eq_true rfl⟩ (As := []) (rest := []) rfl rfl hl.1 (Nat.le_of_ble_eq_true rfl) 52 rfl dX9_person_49 (fun zz7_ v_7 H locs rr7_ hq7_ hw => ?_)
          obtain ⟨ev7_, hh7_⟩ := hq7_
          rw [ev7_] at hw; clear ev7_
          have hh7_ : zz7_ = ((v_0 202) ((T 180 o))) ∧ 0 ≤ zz7_ := hh7_
          refine j_bipush E 54 rfl dX9_person_52 (by decide) ?_
          refine j_icmp_lt E 57 59 rfl rr7_ (rr (by decide)) dX9_person_54 (by decide) (fun cc8_ => ?_) (fun cc8_ => ?_)
          · refine j_aload_n E 60 rfl dX9_person_59 rfl (lv_at hl 1 rfl) ?_
            refine g_180 E hK hw fl_X9_12 t_o 63 rfl dX9_person_60 ?_
            have hw0_ := hw
            refine n_obj2 E hK hw hA cl_X9_84 (Nat.le_of_ble_eq_true rfl) (Nat.le_of_ble_eq_true rfl) 66 rfl dX9_person_63 (fun q9_ T9_ H hge9_ hx9_ ho9_ tq9_ hw => ?_)
            have fq9_ : s.heap.size ≤ q9_ := Nat.le_trans hw0_.2.2.1 hge9_
            have fr_ := fr_of hw0_.1 tl180_ hge9_
            have hw : WK D cy T9_ (upV (upV (upV (upV (upV (upV v_0 40 (upB (v_0 40) q9_ 0)) 41 (upB (v_0 41) q9_ 0)) 42 (upB (v_0 42) q9_ 0)) 43 (upB (v_0 43) q9_ 0)) 44 (upB (v_0 44) q9_ 0)) 45 (upB (v_0 45) q9_ 0)) A0 s.heap H locs := hw
            have hT9_ : WT T9_ := hw.1.2.1
            have hO9_ : ∀ x, ow T9_ x → κ 2 2 ≤ x := fun x h => hAc x (hw.2.1 x h)
            have hoT_ : OW T T9_ s.heap.size := OW.tr hw0_.2.2.1 hoT_ ho9_
            have B180n_ : ∀ j_, j_ ≠ 197 → T9_ j_ (T 180 o) = T j_ (T 180 o) := fun j_ hj_ => (hx9_ (T 180 o) (Nat.ne_of_lt (Nat.lt_of_lt_of_le (cw_lt hw0_.1 ((B180_ 0 (by decide)).trans tl180_) (fun _ _ _ => ⟨_, rfl⟩)) hge9_)) j_).trans (B180_ j_ hj_)
            have A180n_ : ∀ j_, j_ ≠ 197 → T9_ j_ (T 201 (T 180 o)) = T j_ (T 201 (T 180 o)) := fun j_ hj_ => (hx9_ (T 201 (T 180 o)) (Nat.ne_of_lt (Nat.lt_of_lt_of_le (cw_ltq hw0_.1 (by rw [A180_ 0 (by decide)]; exact tx180_)) hge9_)) j_).trans (A180_ j_ hj_)
            have B181n_ : ∀ j_, j_ ≠ 197 → T9_ j_ (T 181 o) = T j_ (T 181 o) := fun j_ hj_ => (hx9_ (T 181 o) (Nat.ne_of_lt (Nat.lt_of_lt_of_le (cw_lt hw0_.1 ((B181_ 0 (by decide)).trans tl181_) (fun _ _ _ => ⟨_, rfl⟩)) hge9_)) j_).trans (B181_ j_ hj_)
            have A181n_ : ∀ j_, j_ ≠ 197 → T9_ j_ (T 201 (T 181 o)) = T j_ (T 201 (T 181 o)) := fun j_ hj_ => (hx9_ (T 201 (T 181 o)) (Nat.ne_of_lt (Nat.lt_of_lt_of_le (cw_ltq hw0_.1 (by rw [A181_ 0 (by decide)]; exact tx181_)) hge9_)) j_).trans (A181_ j_ hj_)
            have B182n_ : ∀ j_, j_ ≠ 197 → T9_ j_ (T 182 o) = T j_ (T 182 o) := fun j_ hj_ => (hx9_ (T 182 o) (Nat.ne_of_lt (Nat.lt_of_lt_of_le (cw_lt hw0_.1 ((B182_ 0 (by decide)).trans tl182_) (fun _ _ _ => ⟨_, rfl⟩)) hge9_)) j_).trans (B182_ j_ hj_)
            have A182n_ : ∀ j_, j_ ≠ 197 → T9_ j_ (T 201 (T 182 o)) = T j_ (T 201 (T 182 o)) := fun j_ hj_ => (hx9_ (T 201 (T 182 o)) (Nat.ne_of_lt (Nat.lt_of_lt_of_le (cw_ltq hw0_.1 (by rw [A182_ 0 (by decide)]; exact tx182_)) hge9_)) j_).trans (A182_ j_ hj_)
            have B183n_ : ∀ j_, j_ ≠ 197 → T9_ j_ (T 183 o) = T j_ (T 183 o) := fun j_ hj_ => (hx9_ (T 183 o) (Nat.ne_of_lt (Nat.lt_of_lt_of_le (cw_lt hw0_.1 ((B183_ 0 (by decide)).trans tl183_) (fun _ _ _ => ⟨_, rfl⟩)) hge9_)) j_).trans (B183_ j_ hj_)
            have A183n_ : ∀ j_, j_ ≠ 197 → T9_ j_ (T 201 (T 183 o)) = T j_ (T 201 (T 183 o)) := fun j_ hj_ => (hx9_ (T 201 (T 183 o)) (Nat.ne_of_lt (Nat.lt_of_lt_of_le (cw_ltq hw0_.1 (by rw [A183_ 0 (by decide)]; exact tx183_)) hge9_)) j_).trans (A183_ j_ hj_)
            have B180_ := B180n_
            have A180_ := A180n_
            have B181_ := B181n_
            have A181_ := A181n_
            have B182_ := B182n_
            have A182_ := A182n_
            have B183_ := B183n_
            have A183_ := A183n_
            have u10_ : T9_ 0 o = 9 := (hx9_ o (Nat.ne_of_lt (Nat.lt_of_lt_of_le (cw_lt hw0_.1 t_o (fun _ _ _ => ⟨_, rfl⟩)) hge9_)) 0).trans t_o
            have u11_ : T9_ 0 (T 180 o) = 10 := (hx9_ (T 180 o) (Nat.ne_of_lt (Nat.lt_of_lt_of_le (cw_lt hw0_.1 (wt_180 hT t_o) (fun _ _ _ => ⟨_, rfl⟩)) hge9_)) 0).trans (wt_180 hT t_o)
            have u12_ : T9_ 2 (T 180 o) = 2 := (hx9_ (T 180 o) (Nat.ne_of_lt (Nat.lt_of_lt_of_le (cw_lt hw0_.1 (wt_180 hT t_o) (fun _ _ _ => ⟨_, rfl⟩)) hge9_)) 2).trans (we_180 hT t_o)
            have u13_ : T9_ 180 o = T 180 o := (hx9_ o (Nat.ne_of_lt (Nat.lt_of_lt_of_le (cw_lt hw0_.1 t_o (fun _ _ _ => ⟨_, rfl⟩)) hge9_)) 180).trans rfl
            have u14_ : T9_ 181 o = T 181 o := (hx9_ o (Nat.ne_of_lt (Nat.lt_of_lt_of_le (cw_lt hw0_.1 t_o (fun _ _ _ => ⟨_, rfl⟩)) hge9_)) 181).trans rfl
            have u15_ : T9_ 182 o = T 182 o := (hx9_ o (Nat.ne_of_lt (Nat.lt_of_lt_of_le (cw_lt hw0_.1 t_o (fun _ _ _ => ⟨_, rfl⟩)) hge9_)) 182).trans rfl
            have u16_ : T9_ 183 o = T 183 o := (hx9_ o (Nat.ne_of_lt (Nat.lt_of_lt_of_le (cw_lt hw0_.1 t_o (fun _ _ _ => ⟨_, rfl⟩)) hge9_)) 183).trans rfl
            have u17_ : T9_ 185 o = T 185 o := (hx9_ o (Nat.ne_of_lt (Nat.lt_of_lt_of_le (cw_lt hw0_.1 t_o (fun _ _ _ => ⟨_, rfl⟩)) hge9_)) 185).trans rfl
            refine j_dup E 67 rfl dX9_person_66 rfl ?_
            refine j_iload_n E 68 rfl dX9_person_67 rfl (lv_at hl 2 rfl) ?_
            refine j_iload_n E 69 rfl dX9_person_68 rfl (lv_at hl 3 rfl) ?_
            refine j_iload_n E 70 rfl dX9_person_69 rfl (lv_at hl 4 rfl) ?_
            have hw0_ := hw
            refine aI_v E (n_X1_init_n2 l D cy κ T9_ (upV (upV (upV (upV (upV (upV v_0 40 (upB (v_0 40) q9_ 0)) 41 (upB (v_0 41) q9_ 0)) 42 (upB (v_0 42) q9_ 0)) 43 (upB (v_0 43) q9_ 0)) 44 (upB (v_0 44) q9_ 0)) 45 (upB (v_0 45) q9_ 0)) q9_ v_q v_f v_b H.size  hO9_ tq9_ r_v_q r_v_f r_v_b ) mi_X1_init ml_X9_86 hK hZ hAc hw hA ⟨(Nat.le_of_ble_eq_true rfl), (Nat.le_of_ble_eq_true rfl)⟩ ⟨(Nat.le_of_ble_eq_true rfl), (Nat.le_of_ble_eq_true rfl)⟩ (As := [.int (J v_q), .int (J v_f), .int (J v_b)]) (rest := [.ref q9_, .ref (T 180 o)]) rfl rfl hl.1 (Nat.le_of_ble_eq_true rfl) 73 rfl dX9_person_70 (fun T18_ v_18 H locs hge18_ ho18_ hq18_ hw => ?_)
            obtain ⟨y40_18, y41_18, y42_18, y43_18, y44_18, y45_18, y300_18, ev18_, hh18_⟩ := hq18_
            rw [ev18_] at hw; clear ev18_
            obtain ⟨hx18_, tq18_, hv40_18_, hv41_18_, hv42_18_, hv43_18_, hv44_18_, hv45_18_⟩ := hh18_
            have hT18_ : WT T18_ := hw.1.2.1
            have hO18_ : ∀ x, ow T18_ x → κ 2 2 ≤ x := fun x h => hAc x (hw.2.1 x h)
            have hoT_ : OW T T18_ s.heap.size := OW.tr hw0_.2.2.1 hoT_ ho18_
            have B180n_ : ∀ j_, j_ ≠ 197 → T18_ j_ (T 180 o) = T j_ (T 180 o) := fun j_ hj_ => (hx18_ (T 180 o) (cw_lt hw0_.1 ((B180_ 0 (by decide)).trans tl180_) (fun _ _ _ => ⟨_, rfl⟩)) (ty_ne ((B180_ 0 (by decide)).trans tl180_) tq9_ (by decide)) j_).trans (B180_ j_ hj_)
            have A180n_ : ∀ j_, j_ ≠ 197 → T18_ j_ (T 201 (T 180 o)) = T j_ (T 201 (T 180 o)) := fun j_ hj_ => (hx18_ (T 201 (T 180 o)) (cw_ltq hw0_.1 (by rw [A180_ 0 (by decide)]; exact tx180_)) (ty_neq (by rw [A180_ 0 (by decide)]; exact tx180_) tq9_ (by decide) (by decide)) j_).trans (A180_ j_ hj_)
            have B181n_ : ∀ j_, j_ ≠ 197 → T18_ j_ (T 181 o) = T j_ (T 181 o) := fun j_ hj_ => (hx18_ (T 181 o) (cw_lt hw0_.1 ((B181_ 0 (by decide)).trans tl181_) (fun _ _ _ => ⟨_, rfl⟩)) (ty_ne ((B181_ 0 (by decide)).trans tl181_) tq9_ (by decide)) j_).trans (B181_ j_ hj_)
            have A181n_ : ∀ j_, j_ ≠ 197 → T18_ j_ (T 201 (T 181 o)) = T j_ (T 201 (T 181 o)) := fun j_ hj_ => (hx18_ (T 201 (T 181 o)) (cw_ltq hw0_.1 (by rw [A181_ 0 (by decide)]; exact tx181_)) (ty_neq (by rw [A181_ 0 (by decide)]; exact tx181_) tq9_ (by decide) (by decide)) j_).trans (A181_ j_ hj_)
            have B182n_ : ∀ j_, j_ ≠ 197 → T18_ j_ (T 182 o) = T j_ (T 182 o) := fun j_ hj_ => (hx18_ (T 182 o) (cw_lt hw0_.1 ((B182_ 0 (by decide)).trans tl182_) (fun _ _ _ => ⟨_, rfl⟩)) (ty_ne ((B182_ 0 (by decide)).trans tl182_) tq9_ (by decide)) j_).trans (B182_ j_ hj_)
            have A182n_ : ∀ j_, j_ ≠ 197 → T18_ j_ (T 201 (T 182 o)) = T j_ (T 201 (T 182 o)) := fun j_ hj_ => (hx18_ (T 201 (T 182 o)) (cw_ltq hw0_.1 (by rw [A182_ 0 (by decide)]; exact tx182_)) (ty_neq (by rw [A182_ 0 (by decide)]; exact tx182_) tq9_ (by decide) (by decide)) j_).trans (A182_ j_ hj_)
            have B183n_ : ∀ j_, j_ ≠ 197 → T18_ j_ (T 183 o) = T j_ (T 183 o) := fun j_ hj_ => (hx18_ (T 183 o) (cw_lt hw0_.1 ((B183_ 0 (by decide)).trans tl183_) (fun _ _ _ => ⟨_, rfl⟩)) (ty_ne ((B183_ 0 (by decide)).trans tl183_) tq9_ (by decide)) j_).trans (B183_ j_ hj_)
            have A183n_ : ∀ j_, j_ ≠ 197 → T18_ j_ (T 201 (T 183 o)) = T j_ (T 201 (T 183 o)) := fun j_ hj_ => (hx18_ (T 201 (T 183 o)) (cw_ltq hw0_.1 (by rw [A183_ 0 (by decide)]; exact tx183_)) (ty_neq (by rw [A183_ 0 (by decide)]; exact tx183_) tq9_ (by decide) (by decide)) j_).trans (A183_ j_ hj_)
            have B180_ := B180n_
            have A180_ := A180n_
            have B181_ := B181n_
            have A181_ := A181n_
            have B182_ := B182n_
            have A182_ := A182n_
            have B183_ := B183n_
            have A183_ := A183n_
            have u19_ : T18_ 0 o = 9 := (hx18_ o (cw_lt hw0_.1 u10_ (fun _ _ _ => ⟨_, rfl⟩)) (ty_ne u10_ tq9_ (by decide)) 0).trans u10_
            have u20_ : T18_ 0 (T 180 o) = 10 := (hx18_ (T 180 o) (cw_lt hw0_.1 u11_ (fun _ _ _ => ⟨_, rfl⟩)) (ty_ne u11_ tq9_ (by decide)) 0).trans u11_
            have u21_ : T18_ 2 (T 180 o) = 2 := (hx18_ (T 180 o) (cw_lt hw0_.1 u11_ (fun _ _ _ => ⟨_, rfl⟩)) (ty_ne u11_ tq9_ (by decide)) 2).trans u12_
            have u22_ : T18_ 180 o = T 180 o := (hx18_ o (cw_lt hw0_.1 u10_ (fun _ _ _ => ⟨_, rfl⟩)) (ty_ne u10_ tq9_ (by decide)) 180).trans u13_
            have u23_ : T18_ 181 o = T 181 o := (hx18_ o (cw_lt hw0_.1 u10_ (fun _ _ _ => ⟨_, rfl⟩)) (ty_ne u10_ tq9_ (by decide)) 181).trans u14_
            have u24_ : T18_ 182 o = T 182 o := (hx18_ o (cw_lt hw0_.1 u10_ (fun _ _ _ => ⟨_, rfl⟩)) (ty_ne u10_ tq9_ (by decide)) 182).trans u15_
            have u25_ : T18_ 183 o = T 183 o := (hx18_ o (cw_lt hw0_.1 u10_ (fun _ _ _ => ⟨_, rfl⟩)) (ty_ne u10_ tq9_ (by decide)) 183).trans u16_
            have u26_ : T18_ 185 o = T 185 o := (hx18_ o (cw_lt hw0_.1 u10_ (fun _ _ _ => ⟨_, rfl⟩)) (ty_ne u10_ tq9_ (by decide)) 185).trans u17_
            have hw40_ : y40_18 = upB (upB (v_0 40) q9_ 0) q9_ v_q := hv40_18_
            have hw41_ : y41_18 = upB (upB (v_0 41) q9_ 0) q9_ v_f := hv41_18_
            have hw42_ : y42_18 = upB (upB (v_0 42) q9_ 0) q9_ v_b := hv42_18_
            have hw43_ : y43_18 = upB (upB (v_0 43) q9_ 0) q9_ (-1) := hv43_18_
            have hw44_ : y44_18 = upB (upB (v_0 44) q9_ 0) q9_ 0 := hv44_18_
            have hw0_ := hw
            refine aV_i E (n_Jx4a65c_add_9ea2d_n2 l D cy κ T18_ (upV (upV (upV (upV (upV (upV (upV (upV (upV (upV (upV (upV (upV v_0 40 (upB (v_0 40) q9_ 0)) 41 (upB (v_0 41) q9_ 0)) 42 (upB (v_0 42) q9_ 0)) 43 (upB (v_0 43) q9_ 0)) 44 (upB (v_0 44) q9_ 0)) 45 (upB (v_0 45) q9_ 0)) 40 y40_18) 41 y41_18) 42 y42_18) 43 y43_18) 44 y44_18) 45 y45_18) 300 y300_18) (T 180 o) q9_ H.size  hO18_ u20_  (tq18_.trans u21_.symm) (fun x_ h_ => hp0 x_ ((hoT_ x_).2 h_)) (show ((v_0 202) ((T 180 o))) ≤ 200 from by omega)) mt_Jx4a65c_add_9ea2d ml_X9_89 hK hZ hAc hw (cw_rc10 hK hw.1 u20_) hA ⟨(Nat.le_of_ble_eq_true rfl), (Nat.le_of_ble_eq_true rfl)⟩ ⟨(Nat.le_of_ble_eq_true rfl), (Nat.le_of_ble_eq_true rfl)⟩ (As := [.ref q9_]) (rest := []) rfl rfl hl.1 (Nat.le_of_ble_eq_true rfl) 76 rfl dX9_person_73 (fun zz27_ T27_ v_27 H locs rr27_ hge27_ ho27_ hq27_ hw => ?_)
            obtain ⟨y200_27, y202_27, ev27_, hh27_⟩ := hq27_
            rw [ev27_] at hw; clear ev27_
            obtain ⟨hy27_, hx27_, hz27_, hl27_, hel27_, hnw27_⟩ := hh27_
            have hy27_ : y202_27 = upB (v_0 202) (T 180 o) ((v_0 202) (T 180 o) + 1) := hy27_
            have hT27_ : WT T27_ := hw.1.2.1
            have hO27_ : ∀ x, ow T27_ x → κ 2 2 ≤ x := fun x h => hAc x (hw.2.1 x h)
            have hoT_ : OW T T27_ s.heap.size := OW.tr hw0_.2.2.1 hoT_ ho27_
            have B181n_ : ∀ j_, j_ ≠ 197 → T27_ j_ (T 181 o) = T j_ (T 181 o) := fun j_ hj_ => (hx27_ (T 181 o) (cw_lt hw0_.1 ((B181_ 0 (by decide)).trans tl181_) (fun _ _ _ => ⟨_, rfl⟩)) ((ls_ne hT t_o).2.2.2.1) (fun h_ => absurd (((B181_ 0 (by decide)).trans tl181_).symm.trans h_) (by decide)) j_).trans (B181_ j_ hj_)
            have A181n_ : ∀ j_, j_ ≠ 197 → T27_ j_ (T 201 (T 181 o)) = T j_ (T 201 (T 181 o)) := fun j_ hj_ => (hx27_ (T 201 (T 181 o)) (cw_ltq hw0_.1 (by rw [A181_ 0 (by decide)]; exact tx181_)) (ty_neq (by rw [A181_ 0 (by decide)]; exact tx181_) u20_ (by decide) (by decide)) (fun h_ => by rw [B180_ 201 (by decide)]; exact own_ne hT tl181_ tl180_ ((ls_ne hT t_o).2.2.2.1) ((A181_ 0 (by decide)).symm.trans h_)) j_).trans (A181_ j_ hj_)
            have B182n_ : ∀ j_, j_ ≠ 197 → T27_ j_ (T 182 o) = T j_ (T 182 o) := fun j_ hj_ => (hx27_ (T 182 o) (cw_lt hw0_.1 ((B182_ 0 (by decide)).trans tl182_) (fun _ _ _ => ⟨_, rfl⟩)) ((ls_ne hT t_o).2.2.2.2.2.2.1) (fun h_ => absurd (((B182_ 0 (by decide)).trans tl182_).symm.trans h_) (by decide)) j_).trans (B182_ j_ hj_)
            have A182n_ : ∀ j_, j_ ≠ 197 → T27_ j_ (T 201 (T 182 o)) = T j_ (T 201 (T 182 o)) := fun j_ hj_ => (hx27_ (T 201 (T 182 o)) (cw_ltq hw0_.1 (by rw [A182_ 0 (by decide)]; exact tx182_)) (ty_neq (by rw [A182_ 0 (by decide)]; exact tx182_) u20_ (by decide) (by decide)) (fun h_ => by rw [B180_ 201 (by decide)]; exact own_ne hT tl182_ tl180_ ((ls_ne hT t_o).2.2.2.2.2.2.1) ((A182_ 0 (by decide)).symm.trans h_)) j_).trans (A182_ j_ hj_)
            have B183n_ : ∀ j_, j_ ≠ 197 → T27_ j_ (T 183 o) = T j_ (T 183 o) := fun j_ hj_ => (hx27_ (T 183 o) (cw_lt hw0_.1 ((B183_ 0 (by decide)).trans tl183_) (fun _ _ _ => ⟨_, rfl⟩)) ((ls_ne hT t_o).2.2.2.2.2.2.2.2.2.1) (fun h_ => absurd (((B183_ 0 (by decide)).trans tl183_).symm.trans h_) (by decide)) j_).trans (B183_ j_ hj_)
            have A183n_ : ∀ j_, j_ ≠ 197 → T27_ j_ (T 201 (T 183 o)) = T j_ (T 201 (T 183 o)) := fun j_ hj_ => (hx27_ (T 201 (T 183 o)) (cw_ltq hw0_.1 (by rw [A183_ 0 (by decide)]; exact tx183_)) (ty_neq (by rw [A183_ 0 (by decide)]; exact tx183_) u20_ (by decide) (by decide)) (fun h_ => by rw [B180_ 201 (by decide)]; exact own_ne hT tl183_ tl180_ ((ls_ne hT t_o).2.2.2.2.2.2.2.2.2.1) ((A183_ 0 (by decide)).symm.trans h_)) j_).trans (A183_ j_ hj_)
            have B181_ := B181n_
            have A181_ := A181n_
            have B182_ := B182n_
            have A182_ := A182n_
            have B183_ := B183n_
            have A183_ := A183n_
            have u28_ : T27_ 0 o = 9 := (hx27_ o (cw_lt hw0_.1 u19_ (fun _ _ _ => ⟨_, rfl⟩)) (ty_ne u19_ u20_ (by decide)) (fun h_ => absurd (u19_.symm.trans h_) (by decide)) 0).trans u19_
            have u29_ : T27_ 180 o = T 180 o := (hx27_ o (cw_lt hw0_.1 u19_ (fun _ _ _ => ⟨_, rfl⟩)) (ty_ne u19_ u20_ (by decide)) (fun h_ => absurd (u19_.symm.trans h_) (by decide)) 180).trans u22_
            have u30_ : T27_ 181 o = T 181 o := (hx27_ o (cw_lt hw0_.1 u19_ (fun _ _ _ => ⟨_, rfl⟩)) (ty_ne u19_ u20_ (by decide)) (fun h_ => absurd (u19_.symm.trans h_) (by decide)) 181).trans u23_
            have u31_ : T27_ 182 o = T 182 o := (hx27_ o (cw_lt hw0_.1 u19_ (fun _ _ _ => ⟨_, rfl⟩)) (ty_ne u19_ u20_ (by decide)) (fun h_ => absurd (u19_.symm.trans h_) (by decide)) 182).trans u24_
            have u32_ : T27_ 183 o = T 183 o := (hx27_ o (cw_lt hw0_.1 u19_ (fun _ _ _ => ⟨_, rfl⟩)) (ty_ne u19_ u20_ (by decide)) (fun h_ => absurd (u19_.symm.trans h_) (by decide)) 183).trans u25_
            have u33_ : T27_ 185 o = T 185 o := (hx27_ o (cw_lt hw0_.1 u19_ (fun _ _ _ => ⟨_, rfl⟩)) (ty_ne u19_ u20_ (by decide)) (fun h_ => absurd (u19_.symm.trans h_) (by decide)) 185).trans u26_
            refine j_pop E 77 rfl dX9_person_76 rfl ?_
            refine j_aload_n E 78 rfl dX9_person_77 rfl (lv_at hl 1 rfl) ?_
            refine g_180 E hK hw fl_X9_12 u28_ 81 rfl dX9_person_78 ?_
            refine kV_i E (c_Jx4a65c_size_8abf5 l D cy T27_ (upV (upV (upV (upV (upV (upV (upV (upV (upV (upV (upV (upV (upV (upV (upV v_0 40 (upB (v_0 40) q9_ 0)) 41 (upB (v_0 41) q9_ 0)) 42 (upB (v_0 42) q9_ 0)) 43 (upB (v_0 43) q9_ 0)) 44 (upB (v_0 44) q9_ 0)) 45 (upB (v_0 45) q9_ 0)) 40 y40_18) 41 y41_18) 42 y42_18) 43 y43_18) 44 y44_18) 45 y45_18) 300 y300_18) 200 y200_27) 202 y202_27) (T27_ 180 o)  (wt_180 hT27_ u28_)  ) mt_Jx4a65c_size_8abf5 ml_X9_80 hK hw (cw_rc10 hK hw.1 (wt_180 hT27_ u28_)) hA ⟨Nat.le_of_ble_eq_true rfl, Nat.le_of_ble_eq_true rfl⟩ ⟨Nat.le_of_ble_eq_true rfl, Nat.le_of_ble_eq_true rfl⟩ (As := []) (rest := []) rfl rfl hl.1 (Nat.le_of_ble_eq_true rfl) 84 rfl dX9_person_81 (fun zz34_ v_34 H locs rr34_ hq34_ hw => ?_)
            obtain ⟨ev34_, hh34_⟩ := hq34_
            rw [ev34_] at hw; clear ev34_
            have hh34_ : zz34_ = (y202_27 ((T27_ 180 o))) ∧ 0 ≤ zz34_ := hh34_
            have hs2_ := hh34_.1
            rw [u29_, hy27_, upB_same] at hs2_
            refine j_iconst E 85 rfl dX9_person_84 ?_
            refine j_isub E 86 rfl dX9_person_85 ?_
            exact hret 86 (zz34_ - 1) T27_ _ _ _ ls _ _ hw hoT_ (rr (by omega)) (⟨u28_, ⟨u29_, u30_, u31_, u32_, u33_⟩, rfl, rfl, rfl, rfl, rfl, (by show y202_27 (T 181 o) = v_0 202 (T 181 o); rw [hy27_]; exact upB_ne ((ls_ne hT t_o).2.2.2.1)), (by show y202_27 (T 182 o) = v_0 202 (T 182 o); rw [hy27_]; exact upB_ne ((ls_ne hT t_o).2.2.2.2.2.2.1)), (by show y202_27 (T 183 o) = v_0 202 (T 183 o); rw [hy27_]; exact upB_ne ((ls_ne hT t_o).2.2.2.2.2.2.2.2.2.1)), Or.inr ⟨by omega, by omega, (by show y202_27 (T 180 o) = v_0 202 (T 180 o) + 1; rw [hy27_]; exact upB_same _ _ _), q9_, fr_, fun i_ h_ => by rw [u29_]; exact (hel27_ i_ h_).trans (by rw [B180_ 201 (by decide), A180_ (1000 + i_) (by omega)]), by rw [u29_]; exact hnw27_, fun y_ h_ => ⟨(by show y40_18 y_ = v_0 40 y_; rw [hw40_]; exact (upB_ne h_).trans (upB_ne h_)), (by show y41_18 y_ = v_0 41 y_; rw [hw41_]; exact (upB_ne h_).trans (upB_ne h_)), (by show y42_18 y_ = v_0 42 y_; rw [hw42_]; exact (upB_ne h_).trans (upB_ne h_)), (by show y43_18 y_ = v_0 43 y_; rw [hw43_]; exact (upB_ne h_).trans (upB_ne h_)), (by show y44_18 y_ = v_0 44 y_; rw [hw44_]; exact (upB_ne h_).trans (upB_ne h_))⟩, (by show y40_18 q9_ = _; rw [hw40_]; exact upB_same _ _ _), (by show y41_18 q9_ = _; rw [hw41_]; exact upB_same _ _ _), (by show y42_18 q9_ = _; rw [hw42_]; exact upB_same _ _ _), (by show y43_18 q9_ = _; rw [hw43_]; exact upB_same _ _ _), (by show y44_18 q9_ = _; rw [hw44_]; exact upB_same _ _ _)⟩⟩) (Nat.le_of_ble_eq_true rfl) (Nat.le_of_ble_eq_true rfl) dX9_person_86
          · refine j_iconst E 58 rfl dX9_person_57 ?_
            exact hret 58 ((-1)) T _ _ _ ls _ _ hw hoT_ (rr (by decide)) (⟨t_o, ⟨rfl, rfl, rfl, rfl, rfl⟩, rfl, rfl, rfl, rfl, rfl, rfl, rfl, rfl, Or.inl ⟨rfl, by omega, rfl, fun _ => rfl, rfl, rfl, rfl, rfl, rfl⟩⟩) (Nat.le_of_ble_eq_true rfl) (Nat.le_of_ble_eq_true rfl) dX9_person_58
  refine j_iload_n E 1 rfl dX9_person_0 rfl (lv_at hl 1 rfl) ?_
  refine j_if_lt E 4 23 rfl r_v_q dX9_person_1 (by decide) (fun cc35_ => ?_) (fun cc35_ => ?_)
  · refine j_iconst E 24 rfl dX9_person_23 ?_
    exact L24_1 0  H locs ls (rr (by decide)) (by omega) hw (lv_sub hl [0, 1, 2, 3] rfl)
  · refine j_iload_n E 5 rfl dX9_person_4 rfl (lv_at hl 1 rfl) ?_
    refine j_iconst E 6 rfl dX9_person_5 ?_
    refine j_icmp_ge E 9 23 rfl r_v_q (rr (by decide)) dX9_person_6 (by decide) (fun cc36_ => ?_) (fun cc36_ => ?_)
    · refine j_iconst E 24 rfl dX9_person_23 ?_
      exact L24_1 0  H locs ls (rr (by decide)) (by omega) hw (lv_sub hl [0, 1, 2, 3] rfl)
    · refine j_iload_n E 10 rfl dX9_person_9 rfl (lv_at hl 2 rfl) ?_
      refine j_if_lt E 13 23 rfl r_v_f dX9_person_10 (by decide) (fun cc37_ => ?_) (fun cc37_ => ?_)
      · refine j_iconst E 24 rfl dX9_person_23 ?_
        exact L24_1 0  H locs ls (rr (by decide)) (by omega) hw (lv_sub hl [0, 1, 2, 3] rfl)
      · refine j_iload_n E 14 rfl dX9_person_13 rfl (lv_at hl 2 rfl) ?_
        refine j_bipush E 16 rfl dX9_person_14 (by decide) ?_
        refine j_icmp_ge E 19 23 rfl r_v_f (rr (by decide)) dX9_person_16 (by decide) (fun cc38_ => ?_) (fun cc38_ => ?_)
        · refine j_iconst E 24 rfl dX9_person_23 ?_
          exact L24_1 0  H locs ls (rr (by decide)) (by omega) hw (lv_sub hl [0, 1, 2, 3] rfl)
        · refine j_iconst E 20 rfl dX9_person_19 ?_
          refine j_goto E 24 dX9_person_20 (by decide) ?_
          exact L24_1 1  H locs ls (rr (by decide)) (by omega) hw (lv_sub hl [0, 1, 2, 3] rfl)
set_option maxHeartbeats 4000000 in
set_option maxRecDepth 100000 in
theorem n_X9_line (l : Launch) (D : va_G) (cy : Nat → ClassId) (κ T : Nat → Nat → Nat) (v_0 : Nat → Nat → Int) (o : Nat) (v_s : Int) (v_v : Int) (sz : Nat) (hO : ∀ x, ow T x → κ 2 2 ≤ x) (t_o : T 0 o = 9) (r_v_s : inR v_s) (r_v_v : inR v_v) (hp0 : ∀ x, T 0 x = 26 → x = κ 2 0) (hp1 : v_v = 0 ∨ v_v = 1) : KA l D cy κ T yX9_line cX9_line 3 (some .int) 8 3 700 [.ref o, .int (J v_s), .int (J v_v)] v_0 sz (AI (fun (z_0 : Int) (T_2 : Nat → Nat → Nat) (v_2 : Nat → Nat → Int) => T_2 0 o = 9 ∧ (T_2 180 o = T 180 o ∧ T_2 181 o = T 181 o ∧ T_2 182 o = T 182 o ∧ T_2 183 o = T 183 o ∧ T_2 185 o = T 185 o) ∧ v_2 186 o = v_0 186 o ∧ v_2 187 o = v_0 187 o ∧ v_2 190 o = v_0 190 o ∧ v_2 191 o = v_0 191 o ∧ v_2 303 = v_0 303 ∧ v_2 202 (T 180 o) = v_0 202 (T 180 o) ∧ v_2 202 (T 182 o) = v_0 202 (T 182 o) ∧ v_2 202 (T 183 o) = v_0 202 (T 183 o) ∧ (∀ i_ : Nat, T_2 (1000 + i_) (T_2 201 (T_2 180 o)) = T (1000 + i_) (T 201 (T 180 o))) ∧ v_2 40 = v_0 40 ∧ v_2 41 = v_0 41 ∧ v_2 42 = v_0 42 ∧ v_2 43 = v_0 43 ∧ v_2 44 = v_0 44 ∧ ((z_0 = -1 ∧ (v_s < 0 ∨ 2 < v_s ∨ 24 ≤ v_0 202 (T 181 o)) ∧ v_2 202 (T 181 o) = v_0 202 (T 181 o)) ∨ (z_0 = v_0 202 (T 181 o) ∧ (0 ≤ v_s ∧ v_s ≤ 2 ∧ v_0 202 (T 181 o) < 24) ∧ v_2 202 (T 181 o) = v_0 202 (T 181 o) + 1)))) := by
  refine KA.ofi (by decide) (Nat.le_of_ble_eq_true rfl) hO ?_
  intro p e s m below meth c ls ar QW A0 H locs E hK hZ hA hAc hsz hnm hw hlo_ hl hret
  have hl : lv_has ls 3 [(0, .ref o), (1, .int (J v_s)), (2, .int (J v_v))] := hl
  have hT : WT T := hw.1.2.1
  have hoT_ : OW T T s.heap.size := OW.rf T _
  have tl180_ : T 0 (T 180 o) = 10 := wt_180 hT t_o
  have tx180_ : T 0 (T 201 (T 180 o)) = 24 ∨ T 0 (T 201 (T 180 o)) = 26 := (wt10 hT tl180_).1
  have B180_ : ∀ j, j ≠ 197 → T j (T 180 o) = T j (T 180 o) := fun _ _ => rfl
  have A180_ : ∀ j, j ≠ 197 → T j (T 201 (T 180 o)) = T j (T 201 (T 180 o)) := fun _ _ => rfl
  have tl181_ : T 0 (T 181 o) = 10 := wt_181 hT t_o
  have tx181_ : T 0 (T 201 (T 181 o)) = 24 ∨ T 0 (T 201 (T 181 o)) = 26 := (wt10 hT tl181_).1
  have B181_ : ∀ j, j ≠ 197 → T j (T 181 o) = T j (T 181 o) := fun _ _ => rfl
  have A181_ : ∀ j, j ≠ 197 → T j (T 201 (T 181 o)) = T j (T 201 (T 181 o)) := fun _ _ => rfl
  have tl182_ : T 0 (T 182 o) = 10 := wt_182 hT t_o
  have tx182_ : T 0 (T 201 (T 182 o)) = 24 ∨ T 0 (T 201 (T 182 o)) = 26 := (wt10 hT tl182_).1
  have B182_ : ∀ j, j ≠ 197 → T j (T 182 o) = T j (T 182 o) := fun _ _ => rfl
  have A182_ : ∀ j, j ≠ 197 → T j (T 201 (T 182 o)) = T j (T 201 (T 182 o)) := fun _ _ => rfl
  have tl183_ : T 0 (T 183 o) = 10 := wt_183 hT t_o
  have tx183_ : T 0 (T 201 (T 183 o)) = 24 ∨ T 0 (T 201 (T 183 o)) = 26 := (wt10 hT tl183_).1
  have B183_ : ∀ j, j ≠ 197 → T j (T 183 o) = T j (T 183 o) := fun _ _ => rfl
  have A183_ : ∀ j, j ≠ 197 → T j (T 201 (T 183 o)) = T j (T 201 (T 183 o)) := fun _ _ => rfl
  refine j_iload_n E 1 rfl dX9_line_0 rfl (lv_at hl 1 rfl) ?_
  refine j_if_lt E 4 21 rfl r_v_s dX9_line_1 (by decide) (fun cc1_ => ?_) (fun cc1_ => ?_)
  · refine j_iconst E 22 rfl dX9_line_21 ?_
    exact hret 22 ((-1)) T _ _ _ ls _ _ hw hoT_ (rr (by decide)) (⟨t_o, ⟨rfl, rfl, rfl, rfl, rfl⟩, rfl, rfl, rfl, rfl, rfl, rfl, rfl, rfl, (fun _ => rfl), rfl, rfl, rfl, rfl, rfl, Or.inl ⟨rfl, by omega, rfl⟩⟩) (Nat.le_of_ble_eq_true rfl) (Nat.le_of_ble_eq_true rfl) dX9_line_22
  · refine j_iload_n E 5 rfl dX9_line_4 rfl (lv_at hl 1 rfl) ?_
    refine j_iconst E 6 rfl dX9_line_5 ?_
    refine j_icmp_ge E 9 21 rfl r_v_s (rr (by decide)) dX9_line_6 (by decide) (fun cc2_ => ?_) (fun cc2_ => ?_)
    · refine j_iconst E 22 rfl dX9_line_21 ?_
      exact hret 22 ((-1)) T _ _ _ ls _ _ hw hoT_ (rr (by decide)) (⟨t_o, ⟨rfl, rfl, rfl, rfl, rfl⟩, rfl, rfl, rfl, rfl, rfl, rfl, rfl, rfl, (fun _ => rfl), rfl, rfl, rfl, rfl, rfl, Or.inl ⟨rfl, by omega, rfl⟩⟩) (Nat.le_of_ble_eq_true rfl) (Nat.le_of_ble_eq_true rfl) dX9_line_22
    · refine j_aload_n E 10 rfl dX9_line_9 rfl (lv_at hl 0 rfl) ?_
      refine g_181 E hK hw fl_X9_16 t_o 13 rfl dX9_line_10 ?_
      refine kV_i E (c_Jx4a65c_size_8abf5 l D cy T (v_0) (T 181 o)  (wt_181 hT t_o)  ) mt_Jx4a65c_size_8abf5 ml_X9_80 hK hw (cw_rc10 hK hw.1 (wt_181 hT t_o)) hA ⟨Nat.le_of_ble_eq_true rfl, Nat.le_of_ble_eq_true rfl⟩ ⟨Nat.le_of_ble_eq_true rfl, Nat.le_of_ble_eq_true rfl⟩ (As := []) (rest := []) rfl rfl hl.1 (Nat.le_of_ble_eq_true rfl) 16 rfl dX9_line_13 (fun zz3_ v_3 H locs rr3_ hq3_ hw => ?_)
      obtain ⟨ev3_, hh3_⟩ := hq3_
      rw [ev3_] at hw; clear ev3_
      have hh3_ : zz3_ = ((v_0 202) ((T 181 o))) ∧ 0 ≤ zz3_ := hh3_
      refine j_bipush E 18 rfl dX9_line_16 (by decide) ?_
      refine j_icmp_lt E 21 23 rfl rr3_ (rr (by decide)) dX9_line_18 (by decide) (fun cc4_ => ?_) (fun cc4_ => ?_)
      · refine j_aload_n E 24 rfl dX9_line_23 rfl (lv_at hl 0 rfl) ?_
        refine g_181 E hK hw fl_X9_16 t_o 27 rfl dX9_line_24 ?_
        have hw0_ := hw
        refine n_obj1 E hK hw hA cl_X9_167 (Nat.le_of_ble_eq_true rfl) (Nat.le_of_ble_eq_true rfl) 30 rfl dX9_line_27 (fun q5_ T5_ H hge5_ hx5_ ho5_ tq5_ hw => ?_)
        have fq5_ : s.heap.size ≤ q5_ := Nat.le_trans hw0_.2.2.1 hge5_
        have hw : WK D cy T5_ (upV (upV (upV (upV (upV (upV v_0 20 (upB (v_0 20) q5_ 0)) 21 (upB (v_0 21) q5_ 0)) 22 (upB (v_0 22) q5_ 0)) 23 (upB (v_0 23) q5_ 0)) 24 (upB (v_0 24) q5_ 0)) 25 (upB (v_0 25) q5_ 0)) A0 s.heap H locs := hw
        have hT5_ : WT T5_ := hw.1.2.1
        have hO5_ : ∀ x, ow T5_ x → κ 2 2 ≤ x := fun x h => hAc x (hw.2.1 x h)
        have hoT_ : OW T T5_ s.heap.size := OW.tr hw0_.2.2.1 hoT_ ho5_
        have B180n_ : ∀ j_, j_ ≠ 197 → T5_ j_ (T 180 o) = T j_ (T 180 o) := fun j_ hj_ => (hx5_ (T 180 o) (Nat.ne_of_lt (Nat.lt_of_lt_of_le (cw_lt hw0_.1 ((B180_ 0 (by decide)).trans tl180_) (fun _ _ _ => ⟨_, rfl⟩)) hge5_)) j_).trans (B180_ j_ hj_)
        have A180n_ : ∀ j_, j_ ≠ 197 → T5_ j_ (T 201 (T 180 o)) = T j_ (T 201 (T 180 o)) := fun j_ hj_ => (hx5_ (T 201 (T 180 o)) (Nat.ne_of_lt (Nat.lt_of_lt_of_le (cw_ltq hw0_.1 (by rw [A180_ 0 (by decide)]; exact tx180_)) hge5_)) j_).trans (A180_ j_ hj_)
        have B181n_ : ∀ j_, j_ ≠ 197 → T5_ j_ (T 181 o) = T j_ (T 181 o) := fun j_ hj_ => (hx5_ (T 181 o) (Nat.ne_of_lt (Nat.lt_of_lt_of_le (cw_lt hw0_.1 ((B181_ 0 (by decide)).trans tl181_) (fun _ _ _ => ⟨_, rfl⟩)) hge5_)) j_).trans (B181_ j_ hj_)
        have A181n_ : ∀ j_, j_ ≠ 197 → T5_ j_ (T 201 (T 181 o)) = T j_ (T 201 (T 181 o)) := fun j_ hj_ => (hx5_ (T 201 (T 181 o)) (Nat.ne_of_lt (Nat.lt_of_lt_of_le (cw_ltq hw0_.1 (by rw [A181_ 0 (by decide)]; exact tx181_)) hge5_)) j_).trans (A181_ j_ hj_)
        have B182n_ : ∀ j_, j_ ≠ 197 → T5_ j_ (T 182 o) = T j_ (T 182 o) := fun j_ hj_ => (hx5_ (T 182 o) (Nat.ne_of_lt (Nat.lt_of_lt_of_le (cw_lt hw0_.1 ((B182_ 0 (by decide)).trans tl182_) (fun _ _ _ => ⟨_, rfl⟩)) hge5_)) j_).trans (B182_ j_ hj_)
        have A182n_ : ∀ j_, j_ ≠ 197 → T5_ j_ (T 201 (T 182 o)) = T j_ (T 201 (T 182 o)) := fun j_ hj_ => (hx5_ (T 201 (T 182 o)) (Nat.ne_of_lt (Nat.lt_of_lt_of_le (cw_ltq hw0_.1 (by rw [A182_ 0 (by decide)]; exact tx182_)) hge5_)) j_).trans (A182_ j_ hj_)
        have B183n_ : ∀ j_, j_ ≠ 197 → T5_ j_ (T 183 o) = T j_ (T 183 o) := fun j_ hj_ => (hx5_ (T 183 o) (Nat.ne_of_lt (Nat.lt_of_lt_of_le (cw_lt hw0_.1 ((B183_ 0 (by decide)).trans tl183_) (fun _ _ _ => ⟨_, rfl⟩)) hge5_)) j_).trans (B183_ j_ hj_)
        have A183n_ : ∀ j_, j_ ≠ 197 → T5_ j_ (T 201 (T 183 o)) = T j_ (T 201 (T 183 o)) := fun j_ hj_ => (hx5_ (T 201 (T 183 o)) (Nat.ne_of_lt (Nat.lt_of_lt_of_le (cw_ltq hw0_.1 (by rw [A183_ 0 (by decide)]; exact tx183_)) hge5_)) j_).trans (A183_ j_ hj_)
        have B180_ := B180n_
        have A180_ := A180n_
        have B181_ := B181n_
        have A181_ := A181n_
        have B182_ := B182n_
        have A182_ := A182n_
        have B183_ := B183n_
        have A183_ := A183n_
        have u6_ : T5_ 0 o = 9 := (hx5_ o (Nat.ne_of_lt (Nat.lt_of_lt_of_le (cw_lt hw0_.1 t_o (fun _ _ _ => ⟨_, rfl⟩)) hge5_)) 0).trans t_o
        have u7_ : T5_ 0 (T 181 o) = 10 := (hx5_ (T 181 o) (Nat.ne_of_lt (Nat.lt_of_lt_of_le (cw_lt hw0_.1 (wt_181 hT t_o) (fun _ _ _ => ⟨_, rfl⟩)) hge5_)) 0).trans (wt_181 hT t_o)
        have u8_ : T5_ 2 (T 181 o) = 1 := (hx5_ (T 181 o) (Nat.ne_of_lt (Nat.lt_of_lt_of_le (cw_lt hw0_.1 (wt_181 hT t_o) (fun _ _ _ => ⟨_, rfl⟩)) hge5_)) 2).trans (we_181 hT t_o)
        have u9_ : T5_ 180 o = T 180 o := (hx5_ o (Nat.ne_of_lt (Nat.lt_of_lt_of_le (cw_lt hw0_.1 t_o (fun _ _ _ => ⟨_, rfl⟩)) hge5_)) 180).trans rfl
        have u10_ : T5_ 181 o = T 181 o := (hx5_ o (Nat.ne_of_lt (Nat.lt_of_lt_of_le (cw_lt hw0_.1 t_o (fun _ _ _ => ⟨_, rfl⟩)) hge5_)) 181).trans rfl
        have u11_ : T5_ 182 o = T 182 o := (hx5_ o (Nat.ne_of_lt (Nat.lt_of_lt_of_le (cw_lt hw0_.1 t_o (fun _ _ _ => ⟨_, rfl⟩)) hge5_)) 182).trans rfl
        have u12_ : T5_ 183 o = T 183 o := (hx5_ o (Nat.ne_of_lt (Nat.lt_of_lt_of_le (cw_lt hw0_.1 t_o (fun _ _ _ => ⟨_, rfl⟩)) hge5_)) 183).trans rfl
        have u13_ : T5_ 185 o = T 185 o := (hx5_ o (Nat.ne_of_lt (Nat.lt_of_lt_of_le (cw_lt hw0_.1 t_o (fun _ _ _ => ⟨_, rfl⟩)) hge5_)) 185).trans rfl
        refine j_dup E 31 rfl dX9_line_30 rfl ?_
        refine j_iload_n E 32 rfl dX9_line_31 rfl (lv_at hl 1 rfl) ?_
        refine j_iload_n E 33 rfl dX9_line_32 rfl (lv_at hl 2 rfl) ?_
        have hw0_ := hw
        refine aI_v E (n_X0_init l D cy κ T5_ (upV (upV (upV (upV (upV (upV v_0 20 (upB (v_0 20) q5_ 0)) 21 (upB (v_0 21) q5_ 0)) 22 (upB (v_0 22) q5_ 0)) 23 (upB (v_0 23) q5_ 0)) 24 (upB (v_0 24) q5_ 0)) 25 (upB (v_0 25) q5_ 0)) q5_ v_s v_v H.size  hO5_ tq5_ r_v_s r_v_v (show v_v = 0 ∨ v_v = 1 from by first | omega | (simp only [upB_same]; omega))) mi_X0_init ml_X9_169 hK hZ hAc hw hA ⟨(Nat.le_of_ble_eq_true rfl), (Nat.le_of_ble_eq_true rfl)⟩ ⟨(Nat.le_of_ble_eq_true rfl), (Nat.le_of_ble_eq_true rfl)⟩ (As := [.int (J v_s), .int (J v_v)]) (rest := [.ref q5_, .ref (T 181 o)]) rfl rfl hl.1 (Nat.le_of_ble_eq_true rfl) 36 rfl dX9_line_33 (fun T14_ v_14 H locs hge14_ ho14_ hq14_ hw => ?_)
        obtain ⟨y20_14, y21_14, y22_14, y23_14, y24_14, y25_14, y302_14, ev14_, hh14_⟩ := hq14_
        rw [ev14_] at hw; clear ev14_
        obtain ⟨hx14_, tq14_⟩ := hh14_
        have hT14_ : WT T14_ := hw.1.2.1
        have hO14_ : ∀ x, ow T14_ x → κ 2 2 ≤ x := fun x h => hAc x (hw.2.1 x h)
        have hoT_ : OW T T14_ s.heap.size := OW.tr hw0_.2.2.1 hoT_ ho14_
        have B180n_ : ∀ j_, j_ ≠ 197 → T14_ j_ (T 180 o) = T j_ (T 180 o) := fun j_ hj_ => (hx14_ (T 180 o) (cw_lt hw0_.1 ((B180_ 0 (by decide)).trans tl180_) (fun _ _ _ => ⟨_, rfl⟩)) (ty_ne ((B180_ 0 (by decide)).trans tl180_) tq5_ (by decide)) j_).trans (B180_ j_ hj_)
        have A180n_ : ∀ j_, j_ ≠ 197 → T14_ j_ (T 201 (T 180 o)) = T j_ (T 201 (T 180 o)) := fun j_ hj_ => (hx14_ (T 201 (T 180 o)) (cw_ltq hw0_.1 (by rw [A180_ 0 (by decide)]; exact tx180_)) (ty_neq (by rw [A180_ 0 (by decide)]; exact tx180_) tq5_ (by decide) (by decide)) j_).trans (A180_ j_ hj_)
        have B181n_ : ∀ j_, j_ ≠ 197 → T14_ j_ (T 181 o) = T j_ (T 181 o) := fun j_ hj_ => (hx14_ (T 181 o) (cw_lt hw0_.1 ((B181_ 0 (by decide)).trans tl181_) (fun _ _ _ => ⟨_, rfl⟩)) (ty_ne ((B181_ 0 (by decide)).trans tl181_) tq5_ (by decide)) j_).trans (B181_ j_ hj_)
        have A181n_ : ∀ j_, j_ ≠ 197 → T14_ j_ (T 201 (T 181 o)) = T j_ (T 201 (T 181 o)) := fun j_ hj_ => (hx14_ (T 201 (T 181 o)) (cw_ltq hw0_.1 (by rw [A181_ 0 (by decide)]; exact tx181_)) (ty_neq (by rw [A181_ 0 (by decide)]; exact tx181_) tq5_ (by decide) (by decide)) j_).trans (A181_ j_ hj_)
        have B182n_ : ∀ j_, j_ ≠ 197 → T14_ j_ (T 182 o) = T j_ (T 182 o) := fun j_ hj_ => (hx14_ (T 182 o) (cw_lt hw0_.1 ((B182_ 0 (by decide)).trans tl182_) (fun _ _ _ => ⟨_, rfl⟩)) (ty_ne ((B182_ 0 (by decide)).trans tl182_) tq5_ (by decide)) j_).trans (B182_ j_ hj_)
        have A182n_ : ∀ j_, j_ ≠ 197 → T14_ j_ (T 201 (T 182 o)) = T j_ (T 201 (T 182 o)) := fun j_ hj_ => (hx14_ (T 201 (T 182 o)) (cw_ltq hw0_.1 (by rw [A182_ 0 (by decide)]; exact tx182_)) (ty_neq (by rw [A182_ 0 (by decide)]; exact tx182_) tq5_ (by decide) (by decide)) j_).trans (A182_ j_ hj_)
        have B183n_ : ∀ j_, j_ ≠ 197 → T14_ j_ (T 183 o) = T j_ (T 183 o) := fun j_ hj_ => (hx14_ (T 183 o) (cw_lt hw0_.1 ((B183_ 0 (by decide)).trans tl183_) (fun _ _ _ => ⟨_, rfl⟩)) (ty_ne ((B183_ 0 (by decide)).trans tl183_) tq5_ (by decide)) j_).trans (B183_ j_ hj_)
        have A183n_ : ∀ j_, j_ ≠ 197 → T14_ j_ (T 201 (T 183 o)) = T j_ (T 201 (T 183 o)) := fun j_ hj_ => (hx14_ (T 201 (T 183 o)) (cw_ltq hw0_.1 (by rw [A183_ 0 (by decide)]; exact tx183_)) (ty_neq (by rw [A183_ 0 (by decide)]; exact tx183_) tq5_ (by decide) (by decide)) j_).trans (A183_ j_ hj_)
        have B180_ := B180n_
        have A180_ := A180n_
        have B181_ := B181n_
        have A181_ := A181n_
        have B182_ := B182n_
        have A182_ := A182n_
        have B183_ := B183n_
        have A183_ := A183n_
        have u15_ : T14_ 0 o = 9 := (hx14_ o (cw_lt hw0_.1 u6_ (fun _ _ _ => ⟨_, rfl⟩)) (ty_ne u6_ tq5_ (by decide)) 0).trans u6_
        have u16_ : T14_ 0 (T 181 o) = 10 := (hx14_ (T 181 o) (cw_lt hw0_.1 u7_ (fun _ _ _ => ⟨_, rfl⟩)) (ty_ne u7_ tq5_ (by decide)) 0).trans u7_
        have u17_ : T14_ 2 (T 181 o) = 1 := (hx14_ (T 181 o) (cw_lt hw0_.1 u7_ (fun _ _ _ => ⟨_, rfl⟩)) (ty_ne u7_ tq5_ (by decide)) 2).trans u8_
        have u18_ : T14_ 180 o = T 180 o := (hx14_ o (cw_lt hw0_.1 u6_ (fun _ _ _ => ⟨_, rfl⟩)) (ty_ne u6_ tq5_ (by decide)) 180).trans u9_
        have u19_ : T14_ 181 o = T 181 o := (hx14_ o (cw_lt hw0_.1 u6_ (fun _ _ _ => ⟨_, rfl⟩)) (ty_ne u6_ tq5_ (by decide)) 181).trans u10_
        have u20_ : T14_ 182 o = T 182 o := (hx14_ o (cw_lt hw0_.1 u6_ (fun _ _ _ => ⟨_, rfl⟩)) (ty_ne u6_ tq5_ (by decide)) 182).trans u11_
        have u21_ : T14_ 183 o = T 183 o := (hx14_ o (cw_lt hw0_.1 u6_ (fun _ _ _ => ⟨_, rfl⟩)) (ty_ne u6_ tq5_ (by decide)) 183).trans u12_
        have u22_ : T14_ 185 o = T 185 o := (hx14_ o (cw_lt hw0_.1 u6_ (fun _ _ _ => ⟨_, rfl⟩)) (ty_ne u6_ tq5_ (by decide)) 185).trans u13_
        have hw0_ := hw
        refine aV_i E (n_Jx4a65c_add_9ea2d_n2 l D cy κ T14_ (upV (upV (upV (upV (upV (upV (upV (upV (upV (upV (upV (upV (upV v_0 20 (upB (v_0 20) q5_ 0)) 21 (upB (v_0 21) q5_ 0)) 22 (upB (v_0 22) q5_ 0)) 23 (upB (v_0 23) q5_ 0)) 24 (upB (v_0 24) q5_ 0)) 25 (upB (v_0 25) q5_ 0)) 20 y20_14) 21 y21_14) 22 y22_14) 23 y23_14) 24 y24_14) 25 y25_14) 302 y302_14) (T 181 o) q5_ H.size  hO14_ u16_  (tq14_.trans u17_.symm) (fun x_ h_ => hp0 x_ ((hoT_ x_).2 h_)) (show ((v_0 202) ((T 181 o))) ≤ 200 from by omega)) mt_Jx4a65c_add_9ea2d ml_X9_89 hK hZ hAc hw (cw_rc10 hK hw.1 u16_) hA ⟨(Nat.le_of_ble_eq_true rfl), (Nat.le_of_ble_eq_true rfl)⟩ ⟨(Nat.le_of_ble_eq_true rfl), (Nat.le_of_ble_eq_true rfl)⟩ (As := [.ref q5_]) (rest := []) rfl rfl hl.1 (Nat.le_of_ble_eq_true rfl) 39 rfl dX9_line_36 (fun zz23_ T23_ v_23 H locs rr23_ hge23_ ho23_ hq23_ hw => ?_)
        obtain ⟨y200_23, y202_23, ev23_, hh23_⟩ := hq23_
        rw [ev23_] at hw; clear ev23_
        obtain ⟨hy23_, hx23_, hz23_, hl23_, hel23_, hnw23_⟩ := hh23_
        have hy23_ : y202_23 = upB (v_0 202) (T 181 o) ((v_0 202) (T 181 o) + 1) := hy23_
        have hT23_ : WT T23_ := hw.1.2.1
        have hO23_ : ∀ x, ow T23_ x → κ 2 2 ≤ x := fun x h => hAc x (hw.2.1 x h)
        have hoT_ : OW T T23_ s.heap.size := OW.tr hw0_.2.2.1 hoT_ ho23_
        have B180n_ : ∀ j_, j_ ≠ 197 → T23_ j_ (T 180 o) = T j_ (T 180 o) := fun j_ hj_ => (hx23_ (T 180 o) (cw_lt hw0_.1 ((B180_ 0 (by decide)).trans tl180_) (fun _ _ _ => ⟨_, rfl⟩)) ((ls_ne hT t_o).1) (fun h_ => absurd (((B180_ 0 (by decide)).trans tl180_).symm.trans h_) (by decide)) j_).trans (B180_ j_ hj_)
        have A180n_ : ∀ j_, j_ ≠ 197 → T23_ j_ (T 201 (T 180 o)) = T j_ (T 201 (T 180 o)) := fun j_ hj_ => (hx23_ (T 201 (T 180 o)) (cw_ltq hw0_.1 (by rw [A180_ 0 (by decide)]; exact tx180_)) (ty_neq (by rw [A180_ 0 (by decide)]; exact tx180_) u16_ (by decide) (by decide)) (fun h_ => by rw [B181_ 201 (by decide)]; exact own_ne hT tl180_ tl181_ ((ls_ne hT t_o).1) ((A180_ 0 (by decide)).symm.trans h_)) j_).trans (A180_ j_ hj_)
        have B182n_ : ∀ j_, j_ ≠ 197 → T23_ j_ (T 182 o) = T j_ (T 182 o) := fun j_ hj_ => (hx23_ (T 182 o) (cw_lt hw0_.1 ((B182_ 0 (by decide)).trans tl182_) (fun _ _ _ => ⟨_, rfl⟩)) ((ls_ne hT t_o).2.2.2.2.2.2.2.1) (fun h_ => absurd (((B182_ 0 (by decide)).trans tl182_).symm.trans h_) (by decide)) j_).trans (B182_ j_ hj_)
        have A182n_ : ∀ j_, j_ ≠ 197 → T23_ j_ (T 201 (T 182 o)) = T j_ (T 201 (T 182 o)) := fun j_ hj_ => (hx23_ (T 201 (T 182 o)) (cw_ltq hw0_.1 (by rw [A182_ 0 (by decide)]; exact tx182_)) (ty_neq (by rw [A182_ 0 (by decide)]; exact tx182_) u16_ (by decide) (by decide)) (fun h_ => by rw [B181_ 201 (by decide)]; exact own_ne hT tl182_ tl181_ ((ls_ne hT t_o).2.2.2.2.2.2.2.1) ((A182_ 0 (by decide)).symm.trans h_)) j_).trans (A182_ j_ hj_)
        have B183n_ : ∀ j_, j_ ≠ 197 → T23_ j_ (T 183 o) = T j_ (T 183 o) := fun j_ hj_ => (hx23_ (T 183 o) (cw_lt hw0_.1 ((B183_ 0 (by decide)).trans tl183_) (fun _ _ _ => ⟨_, rfl⟩)) ((ls_ne hT t_o).2.2.2.2.2.2.2.2.2.2.1) (fun h_ => absurd (((B183_ 0 (by decide)).trans tl183_).symm.trans h_) (by decide)) j_).trans (B183_ j_ hj_)
        have A183n_ : ∀ j_, j_ ≠ 197 → T23_ j_ (T 201 (T 183 o)) = T j_ (T 201 (T 183 o)) := fun j_ hj_ => (hx23_ (T 201 (T 183 o)) (cw_ltq hw0_.1 (by rw [A183_ 0 (by decide)]; exact tx183_)) (ty_neq (by rw [A183_ 0 (by decide)]; exact tx183_) u16_ (by decide) (by decide)) (fun h_ => by rw [B181_ 201 (by decide)]; exact own_ne hT tl183_ tl181_ ((ls_ne hT t_o).2.2.2.2.2.2.2.2.2.2.1) ((A183_ 0 (by decide)).symm.trans h_)) j_).trans (A183_ j_ hj_)
        have B180_ := B180n_
        have A180_ := A180n_
        have B182_ := B182n_
        have A182_ := A182n_
        have B183_ := B183n_
        have A183_ := A183n_
        have u24_ : T23_ 0 o = 9 := (hx23_ o (cw_lt hw0_.1 u15_ (fun _ _ _ => ⟨_, rfl⟩)) (ty_ne u15_ u16_ (by decide)) (fun h_ => absurd (u15_.symm.trans h_) (by decide)) 0).trans u15_
        have u25_ : T23_ 180 o = T 180 o := (hx23_ o (cw_lt hw0_.1 u15_ (fun _ _ _ => ⟨_, rfl⟩)) (ty_ne u15_ u16_ (by decide)) (fun h_ => absurd (u15_.symm.trans h_) (by decide)) 180).trans u18_
        have u26_ : T23_ 181 o = T 181 o := (hx23_ o (cw_lt hw0_.1 u15_ (fun _ _ _ => ⟨_, rfl⟩)) (ty_ne u15_ u16_ (by decide)) (fun h_ => absurd (u15_.symm.trans h_) (by decide)) 181).trans u19_
        have u27_ : T23_ 182 o = T 182 o := (hx23_ o (cw_lt hw0_.1 u15_ (fun _ _ _ => ⟨_, rfl⟩)) (ty_ne u15_ u16_ (by decide)) (fun h_ => absurd (u15_.symm.trans h_) (by decide)) 182).trans u20_
        have u28_ : T23_ 183 o = T 183 o := (hx23_ o (cw_lt hw0_.1 u15_ (fun _ _ _ => ⟨_, rfl⟩)) (ty_ne u15_ u16_ (by decide)) (fun h_ => absurd (u15_.symm.trans h_) (by decide)) 183).trans u21_
        have u29_ : T23_ 185 o = T 185 o := (hx23_ o (cw_lt hw0_.1 u15_ (fun _ _ _ => ⟨_, rfl⟩)) (ty_ne u15_ u16_ (by decide)) (fun h_ => absurd (u15_.symm.trans h_) (by decide)) 185).trans u22_
        refine j_pop E 40 rfl dX9_line_39 rfl ?_
        refine j_aload_n E 41 rfl dX9_line_40 rfl (lv_at hl 0 rfl) ?_
        refine g_181 E hK hw fl_X9_16 u24_ 44 rfl dX9_line_41 ?_
        refine kV_i E (c_Jx4a65c_size_8abf5 l D cy T23_ (upV (upV (upV (upV (upV (upV (upV (upV (upV (upV (upV (upV (upV (upV (upV v_0 20 (upB (v_0 20) q5_ 0)) 21 (upB (v_0 21) q5_ 0)) 22 (upB (v_0 22) q5_ 0)) 23 (upB (v_0 23) q5_ 0)) 24 (upB (v_0 24) q5_ 0)) 25 (upB (v_0 25) q5_ 0)) 20 y20_14) 21 y21_14) 22 y22_14) 23 y23_14) 24 y24_14) 25 y25_14) 302 y302_14) 200 y200_23) 202 y202_23) (T23_ 181 o)  (wt_181 hT23_ u24_)  ) mt_Jx4a65c_size_8abf5 ml_X9_80 hK hw (cw_rc10 hK hw.1 (wt_181 hT23_ u24_)) hA ⟨Nat.le_of_ble_eq_true rfl, Nat.le_of_ble_eq_true rfl⟩ ⟨Nat.le_of_ble_eq_true rfl, Nat.le_of_ble_eq_true rfl⟩ (As := []) (rest := []) rfl rfl hl.1 (Nat.le_of_ble_eq_true rfl) 47 rfl dX9_line_44 (fun zz30_ v_30 H locs rr30_ hq30_ hw => ?_)
        obtain ⟨ev30_, hh30_⟩ := hq30_
        rw [ev30_] at hw; clear ev30_
        have hh30_ : zz30_ = (y202_23 ((T23_ 181 o))) ∧ 0 ≤ zz30_ := hh30_
        have hs2_ := hh30_.1
        rw [u26_, hy23_, upB_same] at hs2_
        refine j_iconst E 48 rfl dX9_line_47 ?_
        refine j_isub E 49 rfl dX9_line_48 ?_
        exact hret 49 (zz30_ - 1) T23_ _ _ _ ls _ _ hw hoT_ (rr (by omega)) (⟨u24_, ⟨u25_, u26_, u27_, u28_, u29_⟩, rfl, rfl, rfl, rfl, rfl, (by show y202_23 (T 180 o) = v_0 202 (T 180 o); rw [hy23_]; exact upB_ne ((ls_ne hT t_o).1)), (by show y202_23 (T 182 o) = v_0 202 (T 182 o); rw [hy23_]; exact upB_ne ((ls_ne hT t_o).2.2.2.2.2.2.2.1)), (by show y202_23 (T 183 o) = v_0 202 (T 183 o); rw [hy23_]; exact upB_ne ((ls_ne hT t_o).2.2.2.2.2.2.2.2.2.2.1)), (fun i_ => by rw [u25_, B180_ 201 (by decide), A180_ (1000 + i_) (by omega)]), rfl, rfl, rfl, rfl, rfl, Or.inr ⟨by omega, by omega, (by show y202_23 (T 181 o) = v_0 202 (T 181 o) + 1; rw [hy23_]; exact upB_same _ _ _)⟩⟩) (Nat.le_of_ble_eq_true rfl) (Nat.le_of_ble_eq_true rfl) dX9_line_49
      · refine j_iconst E 22 rfl dX9_line_21 ?_
        exact hret 22 ((-1)) T _ _ _ ls _ _ hw hoT_ (rr (by decide)) (⟨t_o, ⟨rfl, rfl, rfl, rfl, rfl⟩, rfl, rfl, rfl, rfl, rfl, rfl, rfl, rfl, (fun _ => rfl), rfl, rfl, rfl, rfl, rfl, Or.inl ⟨rfl, by omega, rfl⟩⟩) (Nat.le_of_ble_eq_true rfl) (Nat.le_of_ble_eq_true rfl) dX9_line_22
set_option maxHeartbeats 4000000 in
set_option maxRecDepth 100000 in
theorem n_X9_suit (l : Launch) (D : va_G) (cy : Nat → ClassId) (κ T : Nat → Nat → Nat) (v_0 : Nat → Nat → Int) (o : Nat) (v_p : Int) (v_q : Int) (v_l : Int) (v_h : Int) (v_w : Int) (v_d : Int) (sz : Nat) (hO : ∀ x, ow T x → κ 2 2 ≤ x) (t_o : T 0 o = 9) (r_v_p : inR v_p) (r_v_q : inR v_q) (r_v_l : inR v_l) (r_v_h : inR v_h) (r_v_w : inR v_w) (r_v_d : inR v_d) (hp0 : ∀ x, T 0 x = 26 → x = κ 2 0) : KA l D cy κ T yX9_suit cX9_suit 10 (some .int) 8 2 500 [.ref o, .int (J v_p), .int (J v_q), .int (J v_l), .int (J v_h), .int (J v_w), .int (J v_d)] v_0 sz (AI (fun (z_0 : Int) (T_2 : Nat → Nat → Nat) (v_2 : Nat → Nat → Int) => T_2 0 o = 9 ∧ (T_2 180 o = T 180 o ∧ T_2 181 o = T 181 o ∧ T_2 182 o = T 182 o ∧ T_2 183 o = T 183 o ∧ T_2 185 o = T 185 o) ∧ v_2 186 o = v_0 186 o ∧ v_2 187 o = v_0 187 o ∧ v_2 190 o = v_0 190 o ∧ v_2 191 o = v_0 191 o ∧ v_2 303 = v_0 303 ∧ v_2 202 (T 180 o) = v_0 202 (T 180 o) ∧ v_2 202 (T 181 o) = v_0 202 (T 181 o) ∧ v_2 202 (T 182 o) = v_0 202 (T 182 o) ∧ (∀ i_ : Nat, T_2 (1000 + i_) (T_2 201 (T_2 180 o)) = T (1000 + i_) (T 201 (T 180 o))) ∧ v_2 40 = v_0 40 ∧ v_2 41 = v_0 41 ∧ v_2 42 = v_0 42 ∧ v_2 43 = v_0 43 ∧ v_2 44 = v_0 44 ∧ (True))) := by
  refine KA.ofi (by decide) (Nat.le_of_ble_eq_true rfl) hO ?_
  intro p e s m below meth c ls ar QW A0 H locs E hK hZ hA hAc hsz hnm hw hlo_ hl hret
  have hl : lv_has ls 10 [(0, .ref o), (1, .int (J v_p)), (2, .int (J v_q)), (3, .int (J v_l)), (4, .int (J v_h)), (5, .int (J v_w)), (6, .int (J v_d))] := hl
  have hT : WT T := hw.1.2.1
  have hoT_ : OW T T s.heap.size := OW.rf T _
  have tl180_ : T 0 (T 180 o) = 10 := wt_180 hT t_o
  have tx180_ : T 0 (T 201 (T 180 o)) = 24 ∨ T 0 (T 201 (T 180 o)) = 26 := (wt10 hT tl180_).1
  have B180_ : ∀ j, j ≠ 197 → T j (T 180 o) = T j (T 180 o) := fun _ _ => rfl
  have A180_ : ∀ j, j ≠ 197 → T j (T 201 (T 180 o)) = T j (T 201 (T 180 o)) := fun _ _ => rfl
  have tl181_ : T 0 (T 181 o) = 10 := wt_181 hT t_o
  have tx181_ : T 0 (T 201 (T 181 o)) = 24 ∨ T 0 (T 201 (T 181 o)) = 26 := (wt10 hT tl181_).1
  have B181_ : ∀ j, j ≠ 197 → T j (T 181 o) = T j (T 181 o) := fun _ _ => rfl
  have A181_ : ∀ j, j ≠ 197 → T j (T 201 (T 181 o)) = T j (T 201 (T 181 o)) := fun _ _ => rfl
  have tl182_ : T 0 (T 182 o) = 10 := wt_182 hT t_o
  have tx182_ : T 0 (T 201 (T 182 o)) = 24 ∨ T 0 (T 201 (T 182 o)) = 26 := (wt10 hT tl182_).1
  have B182_ : ∀ j, j ≠ 197 → T j (T 182 o) = T j (T 182 o) := fun _ _ => rfl
  have A182_ : ∀ j, j ≠ 197 → T j (T 201 (T 182 o)) = T j (T 201 (T 182 o)) := fun _ _ => rfl
  have tl183_ : T 0 (T 183 o) = 10 := wt_183 hT t_o
  have tx183_ : T 0 (T 201 (T 183 o)) = 24 ∨ T 0 (T 201 (T 183 o)) = 26 := (wt10 hT tl183_).1
  have B183_ : ∀ j, j ≠ 197 → T j (T 183 o) = T j (T 183 o) := fun _ _ => rfl
  have A183_ : ∀ j, j ≠ 197 → T j (T 201 (T 183 o)) = T j (T 201 (T 183 o)) := fun _ _ => rfl
  refine j_aload_n E 1 rfl dX9_suit_0 rfl (lv_at hl 0 rfl) ?_
  refine j_iload_n E 2 rfl dX9_suit_1 rfl (lv_at hl 1 rfl) ?_
  refine kV_r E (c_X9_livingAt l D cy T (v_0) o v_p  t_o r_v_p ) mt_X9_livingAt ml_X9_93 hK hw (cw_rc9 hK hw.1 t_o) hA ⟨Nat.le_of_ble_eq_true rfl, Nat.le_of_ble_eq_true rfl⟩ ⟨Nat.le_of_ble_eq_true rfl, Nat.le_of_ble_eq_true rfl⟩ (As := [.int (J v_p)]) (rest := []) rfl rfl hl.1 (Nat.le_of_ble_eq_true rfl) 5 rfl dX9_suit_2 (fun oo1_ v_1 H locs hq1_ hw => ?_)
  obtain ⟨ev1_, hh1_⟩ := hq1_
  rw [ev1_] at hw; clear ev1_
  obtain ⟨tt1_, hh1_⟩ := hh1_
  have hh1_ : (oo1_ = none → ((v_p < 0 ∨ ((v_0 202) (T 180 o)) ≤ v_p) ∨ ∃ y_, T (1000 + (v_p).toNat) (T 201 (T 180 o)) = y_ + 1 ∧ ¬ ((v_0 43) y_) = -1)) ∧ (∀ y_, oo1_ = some y_ → 0 ≤ v_p ∧ v_p < ((v_0 202) (T 180 o)) ∧ T (1000 + (v_p).toNat) (T 201 (T 180 o)) = y_ + 1 ∧ ((v_0 43) y_) = -1) := hh1_
  cases oo1_ with
  | none =>
    refine j_astoreN E 7 rfl [(7, .null), (0, .ref o), (1, .int (J v_p)), (2, .int (J v_q)), (3, .int (J v_l)), (4, .int (J v_h)), (5, .int (J v_w)), (6, .int (J v_d))] dX9_suit_5 hl (by decide) rfl (fun ls hl => ?_)
    refine j_aload_n E 8 rfl dX9_suit_7 rfl (lv_at hl 1 rfl) ?_
    refine j_iload_n E 9 rfl dX9_suit_8 rfl (lv_at hl 3 rfl) ?_
    refine kV_r E (c_X9_livingAt l D cy T (v_0) o v_q  t_o r_v_q ) mt_X9_livingAt ml_X9_93 hK hw (cw_rc9 hK hw.1 t_o) hA ⟨Nat.le_of_ble_eq_true rfl, Nat.le_of_ble_eq_true rfl⟩ ⟨Nat.le_of_ble_eq_true rfl, Nat.le_of_ble_eq_true rfl⟩ (As := [.int (J v_q)]) (rest := []) rfl rfl hl.1 (Nat.le_of_ble_eq_true rfl) 12 rfl dX9_suit_9 (fun oo2_ v_2 H locs hq2_ hw => ?_)
    obtain ⟨ev2_, hh2_⟩ := hq2_
    rw [ev2_] at hw; clear ev2_
    obtain ⟨tt2_, hh2_⟩ := hh2_
    have hh2_ : (oo2_ = none → ((v_q < 0 ∨ ((v_0 202) (T 180 o)) ≤ v_q) ∨ ∃ y_, T (1000 + (v_q).toNat) (T 201 (T 180 o)) = y_ + 1 ∧ ¬ ((v_0 43) y_) = -1)) ∧ (∀ y_, oo2_ = some y_ → 0 ≤ v_q ∧ v_q < ((v_0 202) (T 180 o)) ∧ T (1000 + (v_q).toNat) (T 201 (T 180 o)) = y_ + 1 ∧ ((v_0 43) y_) = -1) := hh2_
    cases oo2_ with
    | none =>
      refine j_astoreN E 14 rfl [(8, .null), (7, .null), (0, .ref o), (1, .int (J v_p)), (2, .int (J v_q)), (3, .int (J v_l)), (4, .int (J v_h)), (5, .int (J v_w)), (6, .int (J v_d))] dX9_suit_12 hl (by decide) rfl (fun ls hl => ?_)
      refine j_aloadN E 16 rfl dX9_suit_14 (lv_at hl 1 rfl) ?_
      refine j_ifnullN E 49 dX9_suit_16 (by decide) ?_
      refine j_iconst E 50 rfl dX9_suit_49 ?_
      exact hret 50 ((-1)) T _ _ _ ls _ _ hw hoT_ (rr (by decide)) (⟨t_o, ⟨rfl, rfl, rfl, rfl, rfl⟩, rfl, rfl, rfl, rfl, rfl, rfl, rfl, rfl, (fun _ => rfl), rfl, rfl, rfl, rfl, rfl, trivial⟩) (Nat.le_of_ble_eq_true rfl) (Nat.le_of_ble_eq_true rfl) dX9_suit_50
    | some xx2_ =>
      have te2_ := tt2_ xx2_ rfl
      refine j_astore E 14 rfl [(8, .ref xx2_), (7, .null), (0, .ref o), (1, .int (J v_p)), (2, .int (J v_q)), (3, .int (J v_l)), (4, .int (J v_h)), (5, .int (J v_w)), (6, .int (J v_d))] dX9_suit_12 hl (by decide) rfl (fun ls hl => ?_)
      refine j_aloadN E 16 rfl dX9_suit_14 (lv_at hl 1 rfl) ?_
      refine j_ifnullN E 49 dX9_suit_16 (by decide) ?_
      refine j_iconst E 50 rfl dX9_suit_49 ?_
      exact hret 50 ((-1)) T _ _ _ ls _ _ hw hoT_ (rr (by decide)) (⟨t_o, ⟨rfl, rfl, rfl, rfl, rfl⟩, rfl, rfl, rfl, rfl, rfl, rfl, rfl, rfl, (fun _ => rfl), rfl, rfl, rfl, rfl, rfl, trivial⟩) (Nat.le_of_ble_eq_true rfl) (Nat.le_of_ble_eq_true rfl) dX9_suit_50
  | some xx1_ =>
    have te1_ := tt1_ xx1_ rfl
    refine j_astore E 7 rfl [(7, .ref xx1_), (0, .ref o), (1, .int (J v_p)), (2, .int (J v_q)), (3, .int (J v_l)), (4, .int (J v_h)), (5, .int (J v_w)), (6, .int (J v_d))] dX9_suit_5 hl (by decide) rfl (fun ls hl => ?_)
    refine j_aload_n E 8 rfl dX9_suit_7 rfl (lv_at hl 1 rfl) ?_
    refine j_iload_n E 9 rfl dX9_suit_8 rfl (lv_at hl 3 rfl) ?_
    refine kV_r E (c_X9_livingAt l D cy T (v_0) o v_q  t_o r_v_q ) mt_X9_livingAt ml_X9_93 hK hw (cw_rc9 hK hw.1 t_o) hA ⟨Nat.le_of_ble_eq_true rfl, Nat.le_of_ble_eq_true rfl⟩ ⟨Nat.le_of_ble_eq_true rfl, Nat.le_of_ble_eq_true rfl⟩ (As := [.int (J v_q)]) (rest := []) rfl rfl hl.1 (Nat.le_of_ble_eq_true rfl) 12 rfl dX9_suit_9 (fun oo3_ v_3 H locs hq3_ hw => ?_)
    obtain ⟨ev3_, hh3_⟩ := hq3_
    rw [ev3_] at hw; clear ev3_
    obtain ⟨tt3_, hh3_⟩ := hh3_
    have hh3_ : (oo3_ = none → ((v_q < 0 ∨ ((v_0 202) (T 180 o)) ≤ v_q) ∨ ∃ y_, T (1000 + (v_q).toNat) (T 201 (T 180 o)) = y_ + 1 ∧ ¬ ((v_0 43) y_) = -1)) ∧ (∀ y_, oo3_ = some y_ → 0 ≤ v_q ∧ v_q < ((v_0 202) (T 180 o)) ∧ T (1000 + (v_q).toNat) (T 201 (T 180 o)) = y_ + 1 ∧ ((v_0 43) y_) = -1) := hh3_
    cases oo3_ with
    | none =>
      refine j_astoreN E 14 rfl [(8, .null), (7, .ref xx1_), (0, .ref o), (1, .int (J v_p)), (2, .int (J v_q)), (3, .int (J v_l)), (4, .int (J v_h)), (5, .int (J v_w)), (6, .int (J v_d))] dX9_suit_12 hl (by decide) rfl (fun ls hl => ?_)
      refine j_aload E 16 rfl dX9_suit_14 (lv_at hl 1 rfl) ?_
      refine j_ifnullR E 19 rfl dX9_suit_16 ?_
      refine j_aloadN E 21 rfl dX9_suit_19 (lv_at hl 0 rfl) ?_
      refine j_ifnullN E 49 dX9_suit_21 (by decide) ?_
      refine j_iconst E 50 rfl dX9_suit_49 ?_
      exact hret 50 ((-1)) T _ _ _ ls _ _ hw hoT_ (rr (by decide)) (⟨t_o, ⟨rfl, rfl, rfl, rfl, rfl⟩, rfl, rfl, rfl, rfl, rfl, rfl, rfl, rfl, (fun _ => rfl), rfl, rfl, rfl, rfl, rfl, trivial⟩) (Nat.le_of_ble_eq_true rfl) (Nat.le_of_ble_eq_true rfl) dX9_suit_50
    | some xx3_ =>
      have te3_ := tt3_ xx3_ rfl
      refine j_astore E 14 rfl [(8, .ref xx3_), (7, .ref xx1_), (0, .ref o), (1, .int (J v_p)), (2, .int (J v_q)), (3, .int (J v_l)), (4, .int (J v_h)), (5, .int (J v_w)), (6, .int (J v_d))] dX9_suit_12 hl (by decide) rfl (fun ls hl => ?_)
      refine j_aload E 16 rfl dX9_suit_14 (lv_at hl 1 rfl) ?_
      refine j_ifnullR E 19 rfl dX9_suit_16 ?_
      refine j_aload E 21 rfl dX9_suit_19 (lv_at hl 0 rfl) ?_
      refine j_ifnullR E 24 rfl dX9_suit_21 ?_
      refine j_iload_n E 25 rfl dX9_suit_24 rfl (lv_at hl 3 rfl) ?_
      refine j_iload_n E 26 rfl dX9_suit_25 rfl (lv_at hl 4 rfl) ?_
      refine j_icmp_eq E 29 49 rfl r_v_p r_v_q dX9_suit_26 (by decide) (fun cc4_ => ?_) (fun cc4_ => ?_)
      · refine j_iconst E 50 rfl dX9_suit_49 ?_
        exact hret 50 ((-1)) T _ _ _ ls _ _ hw hoT_ (rr (by decide)) (⟨t_o, ⟨rfl, rfl, rfl, rfl, rfl⟩, rfl, rfl, rfl, rfl, rfl, rfl, rfl, rfl, (fun _ => rfl), rfl, rfl, rfl, rfl, rfl, trivial⟩) (Nat.le_of_ble_eq_true rfl) (Nat.le_of_ble_eq_true rfl) dX9_suit_50
      · refine j_aload_n E 30 rfl dX9_suit_29 rfl (lv_at hl 2 rfl) ?_
        refine j_iload_n E 31 rfl dX9_suit_30 rfl (lv_at hl 5 rfl) ?_
        refine kV_i E (c_X9_isLine l D cy T (v_0) o v_l  t_o r_v_l ) mt_X9_isLine ml_X9_172 hK hw (cw_rc9 hK hw.1 t_o) hA ⟨Nat.le_of_ble_eq_true rfl, Nat.le_of_ble_eq_true rfl⟩ ⟨Nat.le_of_ble_eq_true rfl, Nat.le_of_ble_eq_true rfl⟩ (As := [.int (J v_l)]) (rest := []) rfl rfl hl.1 (Nat.le_of_ble_eq_true rfl) 34 rfl dX9_suit_31 (fun zz5_ v_5 H locs rr5_ hq5_ hw => ?_)
        obtain ⟨ev5_, hh5_⟩ := hq5_
        rw [ev5_] at hw; clear ev5_
        have hh5_ : (zz5_ = 1 ∧ 0 ≤ v_l ∧ v_l < ((v_0 202) (T 181 o))) ∨ (zz5_ = 0 ∧ (v_l < 0 ∨ ((v_0 202) (T 181 o)) ≤ v_l)) := hh5_
        refine j_if_eq E 37 49 rfl rr5_ dX9_suit_34 (by decide) (fun cc6_ => ?_) (fun cc6_ => ?_)
        · refine j_iconst E 50 rfl dX9_suit_49 ?_
          exact hret 50 ((-1)) T _ _ _ ls _ _ hw hoT_ (rr (by decide)) (⟨t_o, ⟨rfl, rfl, rfl, rfl, rfl⟩, rfl, rfl, rfl, rfl, rfl, rfl, rfl, rfl, (fun _ => rfl), rfl, rfl, rfl, rfl, rfl, trivial⟩) (Nat.le_of_ble_eq_true rfl) (Nat.le_of_ble_eq_true rfl) dX9_suit_50
        · refine j_aload_n E 38 rfl dX9_suit_37 rfl (lv_at hl 2 rfl) ?_
          refine g_183 E hK hw fl_X9_22 t_o 41 rfl dX9_suit_38 ?_
          refine kV_i E (c_Jx4a65c_size_8abf5 l D cy T (v_0) (T 183 o)  (wt_183 hT t_o)  ) mt_Jx4a65c_size_8abf5 ml_X9_80 hK hw (cw_rc10 hK hw.1 (wt_183 hT t_o)) hA ⟨Nat.le_of_ble_eq_true rfl, Nat.le_of_ble_eq_true rfl⟩ ⟨Nat.le_of_ble_eq_true rfl, Nat.le_of_ble_eq_true rfl⟩ (As := []) (rest := []) rfl rfl hl.1 (Nat.le_of_ble_eq_true rfl) 44 rfl dX9_suit_41 (fun zz7_ v_7 H locs rr7_ hq7_ hw => ?_)
          obtain ⟨ev7_, hh7_⟩ := hq7_
          rw [ev7_] at hw; clear ev7_
          have hh7_ : zz7_ = ((v_0 202) ((T 183 o))) ∧ 0 ≤ zz7_ := hh7_
          refine j_bipush E 46 rfl dX9_suit_44 (by decide) ?_
          refine j_icmp_lt E 49 51 rfl rr7_ (rr (by decide)) dX9_suit_46 (by decide) (fun cc8_ => ?_) (fun cc8_ => ?_)
          · refine j_iload E 53 rfl dX9_suit_51 (lv_at hl 8 rfl) ?_
            refine j_if_lt E 56 85 rfl r_v_d dX9_suit_53 (by decide) (fun cc9_ => ?_) (fun cc9_ => ?_)
            · refine j_iconst E 86 rfl dX9_suit_85 ?_
              exact hret 86 ((-1)) T _ _ _ ls _ _ hw hoT_ (rr (by decide)) (⟨t_o, ⟨rfl, rfl, rfl, rfl, rfl⟩, rfl, rfl, rfl, rfl, rfl, rfl, rfl, rfl, (fun _ => rfl), rfl, rfl, rfl, rfl, rfl, trivial⟩) (Nat.le_of_ble_eq_true rfl) (Nat.le_of_ble_eq_true rfl) dX9_suit_86
            · refine j_iload E 58 rfl dX9_suit_56 (lv_at hl 8 rfl) ?_
              refine j_aload_n E 59 rfl dX9_suit_58 rfl (lv_at hl 2 rfl) ?_
              refine g_187 E hK hw fl_X9_37 t_o (v_0 187 o) rfl 62 rfl dX9_suit_59 (fun rr10_ => ?_)
              refine j_icmp_gt E 65 85 rfl r_v_d rr10_ dX9_suit_62 (by decide) (fun cc11_ => ?_) (fun cc11_ => ?_)
              · refine j_iconst E 86 rfl dX9_suit_85 ?_
                exact hret 86 ((-1)) T _ _ _ ls _ _ hw hoT_ (rr (by decide)) (⟨t_o, ⟨rfl, rfl, rfl, rfl, rfl⟩, rfl, rfl, rfl, rfl, rfl, rfl, rfl, rfl, (fun _ => rfl), rfl, rfl, rfl, rfl, rfl, trivial⟩) (Nat.le_of_ble_eq_true rfl) (Nat.le_of_ble_eq_true rfl) dX9_suit_86
              · refine j_iload E 67 rfl dX9_suit_65 (lv_at hl 8 rfl) ?_
                refine j_aload E 69 rfl dX9_suit_67 (lv_at hl 1 rfl) ?_
                refine g_42 E hK hw fl_X9_113 te1_ (v_0 42 xx1_) rfl 72 rfl dX9_suit_69 (fun rr12_ => ?_)
                refine j_icmp_lt E 75 85 rfl r_v_d rr12_ dX9_suit_72 (by decide) (fun cc13_ => ?_) (fun cc13_ => ?_)
                · refine j_iconst E 86 rfl dX9_suit_85 ?_
                  exact hret 86 ((-1)) T _ _ _ ls _ _ hw hoT_ (rr (by decide)) (⟨t_o, ⟨rfl, rfl, rfl, rfl, rfl⟩, rfl, rfl, rfl, rfl, rfl, rfl, rfl, rfl, (fun _ => rfl), rfl, rfl, rfl, rfl, rfl, trivial⟩) (Nat.le_of_ble_eq_true rfl) (Nat.le_of_ble_eq_true rfl) dX9_suit_86
                · refine j_iload E 77 rfl dX9_suit_75 (lv_at hl 8 rfl) ?_
                  refine j_aload E 79 rfl dX9_suit_77 (lv_at hl 0 rfl) ?_
                  refine g_42 E hK hw fl_X9_113 te3_ (v_0 42 xx3_) rfl 82 rfl dX9_suit_79 (fun rr14_ => ?_)
                  refine j_icmp_ge E 85 87 rfl r_v_d rr14_ dX9_suit_82 (by decide) (fun cc15_ => ?_) (fun cc15_ => ?_)
                  · refine j_aload E 89 rfl dX9_suit_87 (lv_at hl 1 rfl) ?_
                    refine g_41 E hK hw fl_X9_110 te1_ (v_0 41 xx1_) rfl 92 rfl dX9_suit_89 (fun rr16_ => ?_)
                    refine j_aload E 94 rfl dX9_suit_92 (lv_at hl 0 rfl) ?_
                    refine g_41 E hK hw fl_X9_110 te3_ (v_0 41 xx3_) rfl 97 rfl dX9_suit_94 (fun rr17_ => ?_)
                    refine j_icmp_ne E 100 104 rfl rr16_ rr17_ dX9_suit_97 (by decide) (fun cc18_ => ?_) (fun cc18_ => ?_)
                    · refine j_iconst E 105 rfl dX9_suit_104 ?_
                      refine j_istore E 107 rfl [(9, .int (J 0)), (8, .ref xx3_), (7, .ref xx1_), (0, .ref o), (1, .int (J v_p)), (2, .int (J v_q)), (3, .int (J v_l)), (4, .int (J v_h)), (5, .int (J v_w)), (6, .int (J v_d))] dX9_suit_105 hl (by decide) rfl (fun ls hl => ?_)
                      refine j_aload_n E 108 rfl dX9_suit_107 rfl (lv_at hl 3 rfl) ?_
                      refine g_193 E hK hw fl_X9_62 t_o 111 rfl dX9_suit_108 ?_
                      refine j_iload E 113 rfl dX9_suit_111 (lv_at hl 7 rfl) ?_
                      refine j_iload E 115 rfl dX9_suit_113 (lv_at hl 8 rfl) ?_
                      refine j_aload_n E 116 rfl dX9_suit_115 rfl (lv_at hl 3 rfl) ?_
                      refine g_187 E hK hw fl_X9_37 t_o (v_0 187 o) rfl 119 rfl dX9_suit_116 (fun _ => ?_)
                      refine j_iload E 121 rfl dX9_suit_119 (lv_at hl 9 rfl) ?_
                      refine j_isub E 122 rfl dX9_suit_121 ?_
                      refine j_norm (fun zz19_ rr19_ ee19_ => ?_)
                      refine j_iload E 124 rfl dX9_suit_122 (lv_at hl 0 rfl) ?_
                      refine j_iload E 126 rfl dX9_suit_124 (lv_at hl 9 rfl) ?_
                      refine j_aload E 128 rfl dX9_suit_126 (lv_at hl 1 rfl) ?_
                      refine g_42 E hK hw fl_X9_113 te3_ (v_0 42 xx3_) rfl 131 rfl dX9_suit_128 (fun _ => ?_)
                      refine j_isub E 132 rfl dX9_suit_131 ?_
                      refine j_norm (fun zz20_ rr20_ ee20_ => ?_)
                      refine kV_i E (c_X4_takeFacts l D cy T (v_0) (T 193 o) v_h v_w zz19_ 0 zz20_  (wt_193 hT t_o) r_v_h r_v_w rr19_ (rr (by decide)) rr20_ ) mt_X4_takeFacts ml_X9_292 hK hw (cw_rc5 hK hw.1 (wt_193 hT t_o)) hA ⟨Nat.le_of_ble_eq_true rfl, Nat.le_of_ble_eq_true rfl⟩ ⟨Nat.le_of_ble_eq_true rfl, Nat.le_of_ble_eq_true rfl⟩ (As := [.int (J v_h), .int (J v_w), .int (J zz19_), .int (J 0), .int (J zz20_)]) (rest := []) rfl rfl hl.1 (Nat.le_of_ble_eq_true rfl) 135 rfl dX9_suit_132 (fun zz21_ v_21 H locs rr21_ hq21_ hw => ?_)
                      obtain ⟨y300_21, ev21_, hh21_⟩ := hq21_
                      rw [ev21_] at hw; clear ev21_
                      have hh21_ : (zz21_ = 1 ∧ 0 ≤ v_h ∧ v_h ≤ 99 ∧ 0 ≤ v_w ∧ v_w ≤ 9 ∧ 0 ≤ zz19_ ∧ zz19_ ≤ 299 ∧ 0 ≤ (0 : Int) ∧ (0 : Int) ≤ 1 ∧ -99 ≤ zz20_ ∧ zz20_ ≤ 299) ∨ (zz21_ = 0 ∧ ¬ (0 ≤ v_h ∧ v_h ≤ 99 ∧ 0 ≤ v_w ∧ v_w ≤ 9 ∧ 0 ≤ zz19_ ∧ zz19_ ≤ 299 ∧ 0 ≤ (0 : Int) ∧ (0 : Int) ≤ 1 ∧ -99 ≤ zz20_ ∧ zz20_ ≤ 299)) := hh21_
                      refine j_if_ne E 138 140 rfl rr21_ dX9_suit_135 (by decide) (fun cc22_ => ?_) (fun cc22_ => ?_)
                      · refine j_aload_n E 141 rfl dX9_suit_140 rfl (lv_at hl 3 rfl) ?_
                        refine g_183 E hK hw fl_X9_22 t_o 144 rfl dX9_suit_141 ?_
                        have hw0_ := hw
                        refine n_obj7 E hK hw hA cl_X9_131 (Nat.le_of_ble_eq_true rfl) (Nat.le_of_ble_eq_true rfl) 147 rfl dX9_suit_144 (fun q23_ T23_ H hge23_ hx23_ ho23_ tq23_ hw => ?_)
                        have fq23_ : s.heap.size ≤ q23_ := Nat.le_trans hw0_.2.2.1 hge23_
                        have hw : WK D cy T23_ (upV (upV (upV (upV (upV (upV (upV (upV v_0 300 y300_21) 140 (upB (v_0 140) q23_ 0)) 141 (upB (v_0 141) q23_ 0)) 142 (upB (v_0 142) q23_ 0)) 143 (upB (v_0 143) q23_ 0)) 144 (upB (v_0 144) q23_ 0)) 145 (upB (v_0 145) q23_ 0)) 146 (upB (v_0 146) q23_ 0)) A0 s.heap H locs := hw
                        have hT23_ : WT T23_ := hw.1.2.1
                        have hO23_ : ∀ x, ow T23_ x → κ 2 2 ≤ x := fun x h => hAc x (hw.2.1 x h)
                        have hoT_ : OW T T23_ s.heap.size := OW.tr hw0_.2.2.1 hoT_ ho23_
                        have B180n_ : ∀ j_, j_ ≠ 197 → T23_ j_ (T 180 o) = T j_ (T 180 o) := fun j_ hj_ => (hx23_ (T 180 o) (Nat.ne_of_lt (Nat.lt_of_lt_of_le (cw_lt hw0_.1 ((B180_ 0 (by decide)).trans tl180_) (fun _ _ _ => ⟨_, rfl⟩)) hge23_)) j_).trans (B180_ j_ hj_)
                        have A180n_ : ∀ j_, j_ ≠ 197 → T23_ j_ (T 201 (T 180 o)) = T j_ (T 201 (T 180 o)) := fun j_ hj_ => (hx23_ (T 201 (T 180 o)) (Nat.ne_of_lt (Nat.lt_of_lt_of_le (cw_ltq hw0_.1 (by rw [A180_ 0 (by decide)]; exact tx180_)) hge23_)) j_).trans (A180_ j_ hj_)
                        have B181n_ : ∀ j_, j_ ≠ 197 → T23_ j_ (T 181 o) = T j_ (T 181 o) := fun j_ hj_ => (hx23_ (T 181 o) (Nat.ne_of_lt (Nat.lt_of_lt_of_le (cw_lt hw0_.1 ((B181_ 0 (by decide)).trans tl181_) (fun _ _ _ => ⟨_, rfl⟩)) hge23_)) j_).trans (B181_ j_ hj_)
                        have A181n_ : ∀ j_, j_ ≠ 197 → T23_ j_ (T 201 (T 181 o)) = T j_ (T 201 (T 181 o)) := fun j_ hj_ => (hx23_ (T 201 (T 181 o)) (Nat.ne_of_lt (Nat.lt_of_lt_of_le (cw_ltq hw0_.1 (by rw [A181_ 0 (by decide)]; exact tx181_)) hge23_)) j_).trans (A181_ j_ hj_)
                        have B182n_ : ∀ j_, j_ ≠ 197 → T23_ j_ (T 182 o) = T j_ (T 182 o) := fun j_ hj_ => (hx23_ (T 182 o) (Nat.ne_of_lt (Nat.lt_of_lt_of_le (cw_lt hw0_.1 ((B182_ 0 (by decide)).trans tl182_) (fun _ _ _ => ⟨_, rfl⟩)) hge23_)) j_).trans (B182_ j_ hj_)
                        have A182n_ : ∀ j_, j_ ≠ 197 → T23_ j_ (T 201 (T 182 o)) = T j_ (T 201 (T 182 o)) := fun j_ hj_ => (hx23_ (T 201 (T 182 o)) (Nat.ne_of_lt (Nat.lt_of_lt_of_le (cw_ltq hw0_.1 (by rw [A182_ 0 (by decide)]; exact tx182_)) hge23_)) j_).trans (A182_ j_ hj_)
                        have B183n_ : ∀ j_, j_ ≠ 197 → T23_ j_ (T 183 o) = T j_ (T 183 o) := fun j_ hj_ => (hx23_ (T 183 o) (Nat.ne_of_lt (Nat.lt_of_lt_of_le (cw_lt hw0_.1 ((B183_ 0 (by decide)).trans tl183_) (fun _ _ _ => ⟨_, rfl⟩)) hge23_)) j_).trans (B183_ j_ hj_)
                        have A183n_ : ∀ j_, j_ ≠ 197 → T23_ j_ (T 201 (T 183 o)) = T j_ (T 201 (T 183 o)) := fun j_ hj_ => (hx23_ (T 201 (T 183 o)) (Nat.ne_of_lt (Nat.lt_of_lt_of_le (cw_ltq hw0_.1 (by rw [A183_ 0 (by decide)]; exact tx183_)) hge23_)) j_).trans (A183_ j_ hj_)
                        have B180_ := B180n_
                        have A180_ := A180n_
                        have B181_ := B181n_
                        have A181_ := A181n_
                        have B182_ := B182n_
                        have A182_ := A182n_
                        have B183_ := B183n_
                        have A183_ := A183n_
                        have u24_ : T23_ 0 o = 9 := (hx23_ o (Nat.ne_of_lt (Nat.lt_of_lt_of_le (cw_lt hw0_.1 t_o (fun _ _ _ => ⟨_, rfl⟩)) hge23_)) 0).trans t_o
                        have u25_ : T23_ 0 xx1_ = 2 := (hx23_ xx1_ (Nat.ne_of_lt (Nat.lt_of_lt_of_le (cw_lt hw0_.1 te1_ (fun _ _ _ => ⟨_, rfl⟩)) hge23_)) 0).trans te1_
                        have u26_ : T23_ 0 xx3_ = 2 := (hx23_ xx3_ (Nat.ne_of_lt (Nat.lt_of_lt_of_le (cw_lt hw0_.1 te3_ (fun _ _ _ => ⟨_, rfl⟩)) hge23_)) 0).trans te3_
                        have u27_ : T23_ 0 (T 183 o) = 10 := (hx23_ (T 183 o) (Nat.ne_of_lt (Nat.lt_of_lt_of_le (cw_lt hw0_.1 (wt_183 hT t_o) (fun _ _ _ => ⟨_, rfl⟩)) hge23_)) 0).trans (wt_183 hT t_o)
                        have u28_ : T23_ 2 (T 183 o) = 7 := (hx23_ (T 183 o) (Nat.ne_of_lt (Nat.lt_of_lt_of_le (cw_lt hw0_.1 (wt_183 hT t_o) (fun _ _ _ => ⟨_, rfl⟩)) hge23_)) 2).trans (we_183 hT t_o)
                        have u29_ : T23_ 180 o = T 180 o := (hx23_ o (Nat.ne_of_lt (Nat.lt_of_lt_of_le (cw_lt hw0_.1 t_o (fun _ _ _ => ⟨_, rfl⟩)) hge23_)) 180).trans rfl
                        have u30_ : T23_ 181 o = T 181 o := (hx23_ o (Nat.ne_of_lt (Nat.lt_of_lt_of_le (cw_lt hw0_.1 t_o (fun _ _ _ => ⟨_, rfl⟩)) hge23_)) 181).trans rfl
                        have u31_ : T23_ 182 o = T 182 o := (hx23_ o (Nat.ne_of_lt (Nat.lt_of_lt_of_le (cw_lt hw0_.1 t_o (fun _ _ _ => ⟨_, rfl⟩)) hge23_)) 182).trans rfl
                        have u32_ : T23_ 183 o = T 183 o := (hx23_ o (Nat.ne_of_lt (Nat.lt_of_lt_of_le (cw_lt hw0_.1 t_o (fun _ _ _ => ⟨_, rfl⟩)) hge23_)) 183).trans rfl
                        have u33_ : T23_ 185 o = T 185 o := (hx23_ o (Nat.ne_of_lt (Nat.lt_of_lt_of_le (cw_lt hw0_.1 t_o (fun _ _ _ => ⟨_, rfl⟩)) hge23_)) 185).trans rfl
                        refine j_dup E 148 rfl dX9_suit_147 rfl ?_
                        refine j_iload_n E 149 rfl dX9_suit_148 rfl (lv_at hl 4 rfl) ?_
                        refine j_iload_n E 150 rfl dX9_suit_149 rfl (lv_at hl 5 rfl) ?_
                        refine j_iload_n E 151 rfl dX9_suit_150 rfl (lv_at hl 6 rfl) ?_
                        refine j_aload_n E 152 rfl dX9_suit_151 rfl (lv_at hl 3 rfl) ?_
                        refine j_iload_n E 153 rfl dX9_suit_152 rfl (lv_at hl 6 rfl) ?_
                        refine j_aload_n E 154 rfl dX9_suit_153 rfl (lv_at hl 3 rfl) ?_
                        refine g_187 E hK hw fl_X9_37 u24_ (v_0 187 o) rfl 157 rfl dX9_suit_154 (fun _ => ?_)
                        refine j_iconst E 158 rfl dX9_suit_157 ?_
                        refine j_isub E 159 rfl dX9_suit_158 ?_
                        refine j_norm (fun zz34_ rr34_ ee34_ => ?_)
                        refine kV_i E (c_X9_reckonByLaw l D cy T23_ (upV (upV (upV (upV (upV (upV (upV (upV v_0 300 y300_21) 140 (upB (v_0 140) q23_ 0)) 141 (upB (v_0 141) q23_ 0)) 142 (upB (v_0 142) q23_ 0)) 143 (upB (v_0 143) q23_ 0)) 144 (upB (v_0 144) q23_ 0)) 145 (upB (v_0 145) q23_ 0)) 146 (upB (v_0 146) q23_ 0)) o v_l zz34_  u24_ r_v_l rr34_ ) mt_X9_reckonByLaw ml_X9_296 hK hw (cw_rc9 hK hw.1 u24_) hA ⟨Nat.le_of_ble_eq_true rfl, Nat.le_of_ble_eq_true rfl⟩ ⟨Nat.le_of_ble_eq_true rfl, Nat.le_of_ble_eq_true rfl⟩ (As := [.int (J v_l), .int (J zz34_)]) (rest := [.int (J v_l), .int (J v_q), .int (J v_p), .ref q23_, .ref q23_, .ref (T 183 o)]) rfl rfl hl.1 (Nat.le_of_ble_eq_true rfl) 162 rfl dX9_suit_159 (fun zz35_ v_35 H locs rr35_ hq35_ hw => ?_)
                        obtain ⟨y103_35, y300_35, ev35_, hh35_⟩ := hq35_
                        rw [ev35_] at hw; clear ev35_
                        refine j_aload_n E 163 rfl dX9_suit_162 rfl (lv_at hl 3 rfl) ?_
                        refine g_187 E hK hw fl_X9_37 u24_ (v_0 187 o) rfl 166 rfl dX9_suit_163 (fun _ => ?_)
                        refine j_aload_n E 167 rfl dX9_suit_166 rfl (lv_at hl 3 rfl) ?_
                        refine j_iload_n E 168 rfl dX9_suit_167 rfl (lv_at hl 4 rfl) ?_
                        refine j_aload E 170 rfl dX9_suit_168 (lv_at hl 2 rfl) ?_
                        refine g_41 E hK hw fl_X9_110 u25_ (v_0 41 xx1_) rfl 173 rfl dX9_suit_170 (fun _ => ?_)
                        refine kV_i E (c_X9_livingKinOf l D cy T23_ (upV (upV (upV (upV (upV (upV (upV (upV (upV (upV v_0 300 y300_21) 140 (upB (v_0 140) q23_ 0)) 141 (upB (v_0 141) q23_ 0)) 142 (upB (v_0 142) q23_ 0)) 143 (upB (v_0 143) q23_ 0)) 144 (upB (v_0 144) q23_ 0)) 145 (upB (v_0 145) q23_ 0)) 146 (upB (v_0 146) q23_ 0)) 103 y103_35) 300 y300_35) o v_p (v_0 41 xx1_)  u24_ r_v_p rr16_ ) mt_X9_livingKinOf ml_X9_313 hK hw (cw_rc9 hK hw.1 u24_) hA ⟨Nat.le_of_ble_eq_true rfl, Nat.le_of_ble_eq_true rfl⟩ ⟨Nat.le_of_ble_eq_true rfl, Nat.le_of_ble_eq_true rfl⟩ (As := [.int (J v_p), .int (J (v_0 41 xx1_))]) (rest := [.int (J (v_0 187 o)), .int (J zz35_), .int (J v_l), .int (J v_q), .int (J v_p), .ref q23_, .ref q23_, .ref (T 183 o)]) rfl rfl hl.1 (Nat.le_of_ble_eq_true rfl) 176 rfl dX9_suit_173 (fun zz36_ v_36 H locs rr36_ hq36_ hw => ?_)
                        obtain ⟨ev36_, hh36_⟩ := hq36_
                        rw [ev36_] at hw; clear ev36_
                        have hw0_ := hw
                        refine aI_v E (n_X6_init l D cy κ T23_ (upV (upV (upV (upV (upV (upV (upV (upV (upV (upV v_0 300 y300_21) 140 (upB (v_0 140) q23_ 0)) 141 (upB (v_0 141) q23_ 0)) 142 (upB (v_0 142) q23_ 0)) 143 (upB (v_0 143) q23_ 0)) 144 (upB (v_0 144) q23_ 0)) 145 (upB (v_0 145) q23_ 0)) 146 (upB (v_0 146) q23_ 0)) 103 y103_35) 300 y300_35) q23_ v_p v_q v_l zz35_ (v_0 187 o) zz36_ H.size  hO23_ tq23_ r_v_p r_v_q r_v_l rr35_ rr10_ rr36_ ) mi_X6_init ml_X9_316 hK hZ hAc hw hA ⟨(Nat.le_of_ble_eq_true rfl), (Nat.le_of_ble_eq_true rfl)⟩ ⟨(Nat.le_of_ble_eq_true rfl), (Nat.le_of_ble_eq_true rfl)⟩ (As := [.int (J v_p), .int (J v_q), .int (J v_l), .int (J zz35_), .int (J (v_0 187 o)), .int (J zz36_)]) (rest := [.ref q23_, .ref (T 183 o)]) rfl rfl hl.1 (Nat.le_of_ble_eq_true rfl) 179 rfl dX9_suit_176 (fun T37_ v_37 H locs hge37_ ho37_ hq37_ hw => ?_)
                        obtain ⟨y140_37, y141_37, y142_37, y143_37, y144_37, y145_37, y146_37, ev37_, hh37_⟩ := hq37_
                        rw [ev37_] at hw; clear ev37_
                        obtain ⟨hx37_, tq37_⟩ := hh37_
                        have hT37_ : WT T37_ := hw.1.2.1
                        have hO37_ : ∀ x, ow T37_ x → κ 2 2 ≤ x := fun x h => hAc x (hw.2.1 x h)
                        have hoT_ : OW T T37_ s.heap.size := OW.tr hw0_.2.2.1 hoT_ ho37_
                        have B180n_ : ∀ j_, j_ ≠ 197 → T37_ j_ (T 180 o) = T j_ (T 180 o) := fun j_ hj_ => (hx37_ (T 180 o) (cw_lt hw0_.1 ((B180_ 0 (by decide)).trans tl180_) (fun _ _ _ => ⟨_, rfl⟩)) (ty_ne ((B180_ 0 (by decide)).trans tl180_) tq23_ (by decide)) j_).trans (B180_ j_ hj_)
                        have A180n_ : ∀ j_, j_ ≠ 197 → T37_ j_ (T 201 (T 180 o)) = T j_ (T 201 (T 180 o)) := fun j_ hj_ => (hx37_ (T 201 (T 180 o)) (cw_ltq hw0_.1 (by rw [A180_ 0 (by decide)]; exact tx180_)) (ty_neq (by rw [A180_ 0 (by decide)]; exact tx180_) tq23_ (by decide) (by decide)) j_).trans (A180_ j_ hj_)
                        have B181n_ : ∀ j_, j_ ≠ 197 → T37_ j_ (T 181 o) = T j_ (T 181 o) := fun j_ hj_ => (hx37_ (T 181 o) (cw_lt hw0_.1 ((B181_ 0 (by decide)).trans tl181_) (fun _ _ _ => ⟨_, rfl⟩)) (ty_ne ((B181_ 0 (by decide)).trans tl181_) tq23_ (by decide)) j_).trans (B181_ j_ hj_)
                        have A181n_ : ∀ j_, j_ ≠ 197 → T37_ j_ (T 201 (T 181 o)) = T j_ (T 201 (T 181 o)) := fun j_ hj_ => (hx37_ (T 201 (T 181 o)) (cw_ltq hw0_.1 (by rw [A181_ 0 (by decide)]; exact tx181_)) (ty_neq (by rw [A181_ 0 (by decide)]; exact tx181_) tq23_ (by decide) (by decide)) j_).trans (A181_ j_ hj_)
                        have B182n_ : ∀ j_, j_ ≠ 197 → T37_ j_ (T 182 o) = T j_ (T 182 o) := fun j_ hj_ => (hx37_ (T 182 o) (cw_lt hw0_.1 ((B182_ 0 (by decide)).trans tl182_) (fun _ _ _ => ⟨_, rfl⟩)) (ty_ne ((B182_ 0 (by decide)).trans tl182_) tq23_ (by decide)) j_).trans (B182_ j_ hj_)
                        have A182n_ : ∀ j_, j_ ≠ 197 → T37_ j_ (T 201 (T 182 o)) = T j_ (T 201 (T 182 o)) := fun j_ hj_ => (hx37_ (T 201 (T 182 o)) (cw_ltq hw0_.1 (by rw [A182_ 0 (by decide)]; exact tx182_)) (ty_neq (by rw [A182_ 0 (by decide)]; exact tx182_) tq23_ (by decide) (by decide)) j_).trans (A182_ j_ hj_)
                        have B183n_ : ∀ j_, j_ ≠ 197 → T37_ j_ (T 183 o) = T j_ (T 183 o) := fun j_ hj_ => (hx37_ (T 183 o) (cw_lt hw0_.1 ((B183_ 0 (by decide)).trans tl183_) (fun _ _ _ => ⟨_, rfl⟩)) (ty_ne ((B183_ 0 (by decide)).trans tl183_) tq23_ (by decide)) j_).trans (B183_ j_ hj_)
                        have A183n_ : ∀ j_, j_ ≠ 197 → T37_ j_ (T 201 (T 183 o)) = T j_ (T 201 (T 183 o)) := fun j_ hj_ => (hx37_ (T 201 (T 183 o)) (cw_ltq hw0_.1 (by rw [A183_ 0 (by decide)]; exact tx183_)) (ty_neq (by rw [A183_ 0 (by decide)]; exact tx183_) tq23_ (by decide) (by decide)) j_).trans (A183_ j_ hj_)
                        have B180_ := B180n_
                        have A180_ := A180n_
                        have B181_ := B181n_
                        have A181_ := A181n_
                        have B182_ := B182n_
                        have A182_ := A182n_
                        have B183_ := B183n_
                        have A183_ := A183n_
                        have u38_ : T37_ 0 o = 9 := (hx37_ o (cw_lt hw0_.1 u24_ (fun _ _ _ => ⟨_, rfl⟩)) (ty_ne u24_ tq23_ (by decide)) 0).trans u24_
                        have u39_ : T37_ 0 xx1_ = 2 := (hx37_ xx1_ (cw_lt hw0_.1 u25_ (fun _ _ _ => ⟨_, rfl⟩)) (ty_ne u25_ tq23_ (by decide)) 0).trans u25_
                        have u40_ : T37_ 0 xx3_ = 2 := (hx37_ xx3_ (cw_lt hw0_.1 u26_ (fun _ _ _ => ⟨_, rfl⟩)) (ty_ne u26_ tq23_ (by decide)) 0).trans u26_
                        have u41_ : T37_ 0 (T 183 o) = 10 := (hx37_ (T 183 o) (cw_lt hw0_.1 u27_ (fun _ _ _ => ⟨_, rfl⟩)) (ty_ne u27_ tq23_ (by decide)) 0).trans u27_
                        have u42_ : T37_ 2 (T 183 o) = 7 := (hx37_ (T 183 o) (cw_lt hw0_.1 u27_ (fun _ _ _ => ⟨_, rfl⟩)) (ty_ne u27_ tq23_ (by decide)) 2).trans u28_
                        have u43_ : T37_ 180 o = T 180 o := (hx37_ o (cw_lt hw0_.1 u24_ (fun _ _ _ => ⟨_, rfl⟩)) (ty_ne u24_ tq23_ (by decide)) 180).trans u29_
                        have u44_ : T37_ 181 o = T 181 o := (hx37_ o (cw_lt hw0_.1 u24_ (fun _ _ _ => ⟨_, rfl⟩)) (ty_ne u24_ tq23_ (by decide)) 181).trans u30_
                        have u45_ : T37_ 182 o = T 182 o := (hx37_ o (cw_lt hw0_.1 u24_ (fun _ _ _ => ⟨_, rfl⟩)) (ty_ne u24_ tq23_ (by decide)) 182).trans u31_
                        have u46_ : T37_ 183 o = T 183 o := (hx37_ o (cw_lt hw0_.1 u24_ (fun _ _ _ => ⟨_, rfl⟩)) (ty_ne u24_ tq23_ (by decide)) 183).trans u32_
                        have u47_ : T37_ 185 o = T 185 o := (hx37_ o (cw_lt hw0_.1 u24_ (fun _ _ _ => ⟨_, rfl⟩)) (ty_ne u24_ tq23_ (by decide)) 185).trans u33_
                        have hw0_ := hw
                        refine aV_i E (n_Jx4a65c_add_9ea2d_n2 l D cy κ T37_ (upV (upV (upV (upV (upV (upV (upV (upV (upV (upV (upV (upV (upV (upV (upV (upV (upV v_0 300 y300_21) 140 (upB (v_0 140) q23_ 0)) 141 (upB (v_0 141) q23_ 0)) 142 (upB (v_0 142) q23_ 0)) 143 (upB (v_0 143) q23_ 0)) 144 (upB (v_0 144) q23_ 0)) 145 (upB (v_0 145) q23_ 0)) 146 (upB (v_0 146) q23_ 0)) 103 y103_35) 300 y300_35) 140 y140_37) 141 y141_37) 142 y142_37) 143 y143_37) 144 y144_37) 145 y145_37) 146 y146_37) (T 183 o) q23_ H.size  hO37_ u41_  (tq37_.trans u42_.symm) (fun x_ h_ => hp0 x_ ((hoT_ x_).2 h_)) (show ((v_0 202) ((T 183 o))) ≤ 200 from by omega)) mt_Jx4a65c_add_9ea2d ml_X9_89 hK hZ hAc hw (cw_rc10 hK hw.1 u41_) hA ⟨(Nat.le_of_ble_eq_true rfl), (Nat.le_of_ble_eq_true rfl)⟩ ⟨(Nat.le_of_ble_eq_true rfl), (Nat.le_of_ble_eq_true rfl)⟩ (As := [.ref q23_]) (rest := []) rfl rfl hl.1 (Nat.le_of_ble_eq_true rfl) 182 rfl dX9_suit_179 (fun zz48_ T48_ v_48 H locs rr48_ hge48_ ho48_ hq48_ hw => ?_)
                        obtain ⟨y200_48, y202_48, ev48_, hh48_⟩ := hq48_
                        rw [ev48_] at hw; clear ev48_
                        obtain ⟨hy48_, hx48_, hz48_, hl48_, hel48_, hnw48_⟩ := hh48_
                        have hy48_ : y202_48 = upB (v_0 202) (T 183 o) ((v_0 202) (T 183 o) + 1) := hy48_
                        have hT48_ : WT T48_ := hw.1.2.1
                        have hO48_ : ∀ x, ow T48_ x → κ 2 2 ≤ x := fun x h => hAc x (hw.2.1 x h)
                        have hoT_ : OW T T48_ s.heap.size := OW.tr hw0_.2.2.1 hoT_ ho48_
                        have B180n_ : ∀ j_, j_ ≠ 197 → T48_ j_ (T 180 o) = T j_ (T 180 o) := fun j_ hj_ => (hx48_ (T 180 o) (cw_lt hw0_.1 ((B180_ 0 (by decide)).trans tl180_) (fun _ _ _ => ⟨_, rfl⟩)) ((ls_ne hT t_o).2.2.1) (fun h_ => absurd (((B180_ 0 (by decide)).trans tl180_).symm.trans h_) (by decide)) j_).trans (B180_ j_ hj_)
                        have A180n_ : ∀ j_, j_ ≠ 197 → T48_ j_ (T 201 (T 180 o)) = T j_ (T 201 (T 180 o)) := fun j_ hj_ => (hx48_ (T 201 (T 180 o)) (cw_ltq hw0_.1 (by rw [A180_ 0 (by decide)]; exact tx180_)) (ty_neq (by rw [A180_ 0 (by decide)]; exact tx180_) u41_ (by decide) (by decide)) (fun h_ => by rw [B183_ 201 (by decide)]; exact own_ne hT tl180_ tl183_ ((ls_ne hT t_o).2.2.1) ((A180_ 0 (by decide)).symm.trans h_)) j_).trans (A180_ j_ hj_)
                        have B181n_ : ∀ j_, j_ ≠ 197 → T48_ j_ (T 181 o) = T j_ (T 181 o) := fun j_ hj_ => (hx48_ (T 181 o) (cw_lt hw0_.1 ((B181_ 0 (by decide)).trans tl181_) (fun _ _ _ => ⟨_, rfl⟩)) ((ls_ne hT t_o).2.2.2.2.2.1) (fun h_ => absurd (((B181_ 0 (by decide)).trans tl181_).symm.trans h_) (by decide)) j_).trans (B181_ j_ hj_)
                        have A181n_ : ∀ j_, j_ ≠ 197 → T48_ j_ (T 201 (T 181 o)) = T j_ (T 201 (T 181 o)) := fun j_ hj_ => (hx48_ (T 201 (T 181 o)) (cw_ltq hw0_.1 (by rw [A181_ 0 (by decide)]; exact tx181_)) (ty_neq (by rw [A181_ 0 (by decide)]; exact tx181_) u41_ (by decide) (by decide)) (fun h_ => by rw [B183_ 201 (by decide)]; exact own_ne hT tl181_ tl183_ ((ls_ne hT t_o).2.2.2.2.2.1) ((A181_ 0 (by decide)).symm.trans h_)) j_).trans (A181_ j_ hj_)
                        have B182n_ : ∀ j_, j_ ≠ 197 → T48_ j_ (T 182 o) = T j_ (T 182 o) := fun j_ hj_ => (hx48_ (T 182 o) (cw_lt hw0_.1 ((B182_ 0 (by decide)).trans tl182_) (fun _ _ _ => ⟨_, rfl⟩)) ((ls_ne hT t_o).2.2.2.2.2.2.2.2.1) (fun h_ => absurd (((B182_ 0 (by decide)).trans tl182_).symm.trans h_) (by decide)) j_).trans (B182_ j_ hj_)
                        have A182n_ : ∀ j_, j_ ≠ 197 → T48_ j_ (T 201 (T 182 o)) = T j_ (T 201 (T 182 o)) := fun j_ hj_ => (hx48_ (T 201 (T 182 o)) (cw_ltq hw0_.1 (by rw [A182_ 0 (by decide)]; exact tx182_)) (ty_neq (by rw [A182_ 0 (by decide)]; exact tx182_) u41_ (by decide) (by decide)) (fun h_ => by rw [B183_ 201 (by decide)]; exact own_ne hT tl182_ tl183_ ((ls_ne hT t_o).2.2.2.2.2.2.2.2.1) ((A182_ 0 (by decide)).symm.trans h_)) j_).trans (A182_ j_ hj_)
                        have B180_ := B180n_
                        have A180_ := A180n_
                        have B181_ := B181n_
                        have A181_ := A181n_
                        have B182_ := B182n_
                        have A182_ := A182n_
                        have u49_ : T48_ 0 o = 9 := (hx48_ o (cw_lt hw0_.1 u38_ (fun _ _ _ => ⟨_, rfl⟩)) (ty_ne u38_ u41_ (by decide)) (fun h_ => absurd (u38_.symm.trans h_) (by decide)) 0).trans u38_
                        have u50_ : T48_ 0 xx1_ = 2 := (hx48_ xx1_ (cw_lt hw0_.1 u39_ (fun _ _ _ => ⟨_, rfl⟩)) (ty_ne u39_ u41_ (by decide)) (fun h_ => absurd (u39_.symm.trans h_) (by decide)) 0).trans u39_
                        have u51_ : T48_ 0 xx3_ = 2 := (hx48_ xx3_ (cw_lt hw0_.1 u40_ (fun _ _ _ => ⟨_, rfl⟩)) (ty_ne u40_ u41_ (by decide)) (fun h_ => absurd (u40_.symm.trans h_) (by decide)) 0).trans u40_
                        have u52_ : T48_ 180 o = T 180 o := (hx48_ o (cw_lt hw0_.1 u38_ (fun _ _ _ => ⟨_, rfl⟩)) (ty_ne u38_ u41_ (by decide)) (fun h_ => absurd (u38_.symm.trans h_) (by decide)) 180).trans u43_
                        have u53_ : T48_ 181 o = T 181 o := (hx48_ o (cw_lt hw0_.1 u38_ (fun _ _ _ => ⟨_, rfl⟩)) (ty_ne u38_ u41_ (by decide)) (fun h_ => absurd (u38_.symm.trans h_) (by decide)) 181).trans u44_
                        have u54_ : T48_ 182 o = T 182 o := (hx48_ o (cw_lt hw0_.1 u38_ (fun _ _ _ => ⟨_, rfl⟩)) (ty_ne u38_ u41_ (by decide)) (fun h_ => absurd (u38_.symm.trans h_) (by decide)) 182).trans u45_
                        have u55_ : T48_ 183 o = T 183 o := (hx48_ o (cw_lt hw0_.1 u38_ (fun _ _ _ => ⟨_, rfl⟩)) (ty_ne u38_ u41_ (by decide)) (fun h_ => absurd (u38_.symm.trans h_) (by decide)) 183).trans u46_
                        have u56_ : T48_ 185 o = T 185 o := (hx48_ o (cw_lt hw0_.1 u38_ (fun _ _ _ => ⟨_, rfl⟩)) (ty_ne u38_ u41_ (by decide)) (fun h_ => absurd (u38_.symm.trans h_) (by decide)) 185).trans u47_
                        refine j_pop E 183 rfl dX9_suit_182 rfl ?_
                        refine j_aload_n E 184 rfl dX9_suit_183 rfl (lv_at hl 3 rfl) ?_
                        refine g_183 E hK hw fl_X9_22 u49_ 187 rfl dX9_suit_184 ?_
                        refine kV_i E (c_Jx4a65c_size_8abf5 l D cy T48_ (upV (upV (upV (upV (upV (upV (upV (upV (upV (upV (upV (upV (upV (upV (upV (upV (upV (upV (upV v_0 300 y300_21) 140 (upB (v_0 140) q23_ 0)) 141 (upB (v_0 141) q23_ 0)) 142 (upB (v_0 142) q23_ 0)) 143 (upB (v_0 143) q23_ 0)) 144 (upB (v_0 144) q23_ 0)) 145 (upB (v_0 145) q23_ 0)) 146 (upB (v_0 146) q23_ 0)) 103 y103_35) 300 y300_35) 140 y140_37) 141 y141_37) 142 y142_37) 143 y143_37) 144 y144_37) 145 y145_37) 146 y146_37) 200 y200_48) 202 y202_48) (T48_ 183 o)  (wt_183 hT48_ u49_)  ) mt_Jx4a65c_size_8abf5 ml_X9_80 hK hw (cw_rc10 hK hw.1 (wt_183 hT48_ u49_)) hA ⟨Nat.le_of_ble_eq_true rfl, Nat.le_of_ble_eq_true rfl⟩ ⟨Nat.le_of_ble_eq_true rfl, Nat.le_of_ble_eq_true rfl⟩ (As := []) (rest := []) rfl rfl hl.1 (Nat.le_of_ble_eq_true rfl) 190 rfl dX9_suit_187 (fun zz57_ v_57 H locs rr57_ hq57_ hw => ?_)
                        obtain ⟨ev57_, hh57_⟩ := hq57_
                        rw [ev57_] at hw; clear ev57_
                        have hh57_ : zz57_ = (y202_48 ((T48_ 183 o))) ∧ 0 ≤ zz57_ := hh57_
                        refine j_iconst E 191 rfl dX9_suit_190 ?_
                        refine j_isub E 192 rfl dX9_suit_191 ?_
                        refine j_norm (fun zz58_ rr58_ ee58_ => ?_)
                        exact hret 192 zz58_ T48_ _ _ _ ls _ _ hw hoT_ rr58_ (⟨u49_, ⟨u52_, u53_, u54_, u55_, u56_⟩, rfl, rfl, rfl, rfl, rfl, (by show y202_48 (T 180 o) = v_0 202 (T 180 o); rw [hy48_]; exact upB_ne ((ls_ne hT t_o).2.2.1)), (by show y202_48 (T 181 o) = v_0 202 (T 181 o); rw [hy48_]; exact upB_ne ((ls_ne hT t_o).2.2.2.2.2.1)), (by show y202_48 (T 182 o) = v_0 202 (T 182 o); rw [hy48_]; exact upB_ne ((ls_ne hT t_o).2.2.2.2.2.2.2.2.1)), (fun i_ => by rw [u52_, B180_ 201 (by decide), A180_ (1000 + i_) (by omega)]), rfl, rfl, rfl, rfl, rfl, trivial⟩) (Nat.le_of_ble_eq_true rfl) (Nat.le_of_ble_eq_true rfl) dX9_suit_192
                      · refine j_iconst E 139 rfl dX9_suit_138 ?_
                        exact hret 139 ((-1)) T _ _ _ ls _ _ hw hoT_ (rr (by decide)) (⟨t_o, ⟨rfl, rfl, rfl, rfl, rfl⟩, rfl, rfl, rfl, rfl, rfl, rfl, rfl, rfl, (fun _ => rfl), rfl, rfl, rfl, rfl, rfl, trivial⟩) (Nat.le_of_ble_eq_true rfl) (Nat.le_of_ble_eq_true rfl) dX9_suit_139
                    · refine j_iconst E 101 rfl dX9_suit_100 ?_
                      refine j_goto E 105 dX9_suit_101 (by decide) ?_
                      refine j_istore E 107 rfl [(9, .int (J 1)), (8, .ref xx3_), (7, .ref xx1_), (0, .ref o), (1, .int (J v_p)), (2, .int (J v_q)), (3, .int (J v_l)), (4, .int (J v_h)), (5, .int (J v_w)), (6, .int (J v_d))] dX9_suit_105 hl (by decide) rfl (fun ls hl => ?_)
                      refine j_aload_n E 108 rfl dX9_suit_107 rfl (lv_at hl 3 rfl) ?_
                      refine g_193 E hK hw fl_X9_62 t_o 111 rfl dX9_suit_108 ?_
                      refine j_iload E 113 rfl dX9_suit_111 (lv_at hl 7 rfl) ?_
                      refine j_iload E 115 rfl dX9_suit_113 (lv_at hl 8 rfl) ?_
                      refine j_aload_n E 116 rfl dX9_suit_115 rfl (lv_at hl 3 rfl) ?_
                      refine g_187 E hK hw fl_X9_37 t_o (v_0 187 o) rfl 119 rfl dX9_suit_116 (fun _ => ?_)
                      refine j_iload E 121 rfl dX9_suit_119 (lv_at hl 9 rfl) ?_
                      refine j_isub E 122 rfl dX9_suit_121 ?_
                      refine j_norm (fun zz59_ rr59_ ee59_ => ?_)
                      refine j_iload E 124 rfl dX9_suit_122 (lv_at hl 0 rfl) ?_
                      refine j_iload E 126 rfl dX9_suit_124 (lv_at hl 9 rfl) ?_
                      refine j_aload E 128 rfl dX9_suit_126 (lv_at hl 1 rfl) ?_
                      refine g_42 E hK hw fl_X9_113 te3_ (v_0 42 xx3_) rfl 131 rfl dX9_suit_128 (fun _ => ?_)
                      refine j_isub E 132 rfl dX9_suit_131 ?_
                      refine j_norm (fun zz60_ rr60_ ee60_ => ?_)
                      refine kV_i E (c_X4_takeFacts l D cy T (v_0) (T 193 o) v_h v_w zz59_ 1 zz60_  (wt_193 hT t_o) r_v_h r_v_w rr59_ (rr (by decide)) rr60_ ) mt_X4_takeFacts ml_X9_292 hK hw (cw_rc5 hK hw.1 (wt_193 hT t_o)) hA ⟨Nat.le_of_ble_eq_true rfl, Nat.le_of_ble_eq_true rfl⟩ ⟨Nat.le_of_ble_eq_true rfl, Nat.le_of_ble_eq_true rfl⟩ (As := [.int (J v_h), .int (J v_w), .int (J zz59_), .int (J 1), .int (J zz60_)]) (rest := []) rfl rfl hl.1 (Nat.le_of_ble_eq_true rfl) 135 rfl dX9_suit_132 (fun zz61_ v_61 H locs rr61_ hq61_ hw => ?_)
                      obtain ⟨y300_61, ev61_, hh61_⟩ := hq61_
                      rw [ev61_] at hw; clear ev61_
                      have hh61_ : (zz61_ = 1 ∧ 0 ≤ v_h ∧ v_h ≤ 99 ∧ 0 ≤ v_w ∧ v_w ≤ 9 ∧ 0 ≤ zz59_ ∧ zz59_ ≤ 299 ∧ 0 ≤ (1 : Int) ∧ (1 : Int) ≤ 1 ∧ -99 ≤ zz60_ ∧ zz60_ ≤ 299) ∨ (zz61_ = 0 ∧ ¬ (0 ≤ v_h ∧ v_h ≤ 99 ∧ 0 ≤ v_w ∧ v_w ≤ 9 ∧ 0 ≤ zz59_ ∧ zz59_ ≤ 299 ∧ 0 ≤ (1 : Int) ∧ (1 : Int) ≤ 1 ∧ -99 ≤ zz60_ ∧ zz60_ ≤ 299)) := hh61_
                      refine j_if_ne E 138 140 rfl rr61_ dX9_suit_135 (by decide) (fun cc62_ => ?_) (fun cc62_ => ?_)
                      · refine j_aload_n E 141 rfl dX9_suit_140 rfl (lv_at hl 3 rfl) ?_
                        refine g_183 E hK hw fl_X9_22 t_o 144 rfl dX9_suit_141 ?_
                        have hw0_ := hw
                        refine n_obj7 E hK hw hA cl_X9_131 (Nat.le_of_ble_eq_true rfl) (Nat.le_of_ble_eq_true rfl) 147 rfl dX9_suit_144 (fun q63_ T63_ H hge63_ hx63_ ho63_ tq63_ hw => ?_)
                        have fq63_ : s.heap.size ≤ q63_ := Nat.le_trans hw0_.2.2.1 hge63_
                        have hw : WK D cy T63_ (upV (upV (upV (upV (upV (upV (upV (upV v_0 300 y300_61) 140 (upB (v_0 140) q63_ 0)) 141 (upB (v_0 141) q63_ 0)) 142 (upB (v_0 142) q63_ 0)) 143 (upB (v_0 143) q63_ 0)) 144 (upB (v_0 144) q63_ 0)) 145 (upB (v_0 145) q63_ 0)) 146 (upB (v_0 146) q63_ 0)) A0 s.heap H locs := hw
                        have hT63_ : WT T63_ := hw.1.2.1
                        have hO63_ : ∀ x, ow T63_ x → κ 2 2 ≤ x := fun x h => hAc x (hw.2.1 x h)
                        have hoT_ : OW T T63_ s.heap.size := OW.tr hw0_.2.2.1 hoT_ ho63_
                        have B180n_ : ∀ j_, j_ ≠ 197 → T63_ j_ (T 180 o) = T j_ (T 180 o) := fun j_ hj_ => (hx63_ (T 180 o) (Nat.ne_of_lt (Nat.lt_of_lt_of_le (cw_lt hw0_.1 ((B180_ 0 (by decide)).trans tl180_) (fun _ _ _ => ⟨_, rfl⟩)) hge63_)) j_).trans (B180_ j_ hj_)
                        have A180n_ : ∀ j_, j_ ≠ 197 → T63_ j_ (T 201 (T 180 o)) = T j_ (T 201 (T 180 o)) := fun j_ hj_ => (hx63_ (T 201 (T 180 o)) (Nat.ne_of_lt (Nat.lt_of_lt_of_le (cw_ltq hw0_.1 (by rw [A180_ 0 (by decide)]; exact tx180_)) hge63_)) j_).trans (A180_ j_ hj_)
                        have B181n_ : ∀ j_, j_ ≠ 197 → T63_ j_ (T 181 o) = T j_ (T 181 o) := fun j_ hj_ => (hx63_ (T 181 o) (Nat.ne_of_lt (Nat.lt_of_lt_of_le (cw_lt hw0_.1 ((B181_ 0 (by decide)).trans tl181_) (fun _ _ _ => ⟨_, rfl⟩)) hge63_)) j_).trans (B181_ j_ hj_)
                        have A181n_ : ∀ j_, j_ ≠ 197 → T63_ j_ (T 201 (T 181 o)) = T j_ (T 201 (T 181 o)) := fun j_ hj_ => (hx63_ (T 201 (T 181 o)) (Nat.ne_of_lt (Nat.lt_of_lt_of_le (cw_ltq hw0_.1 (by rw [A181_ 0 (by decide)]; exact tx181_)) hge63_)) j_).trans (A181_ j_ hj_)
                        have B182n_ : ∀ j_, j_ ≠ 197 → T63_ j_ (T 182 o) = T j_ (T 182 o) := fun j_ hj_ => (hx63_ (T 182 o) (Nat.ne_of_lt (Nat.lt_of_lt_of_le (cw_lt hw0_.1 ((B182_ 0 (by decide)).trans tl182_) (fun _ _ _ => ⟨_, rfl⟩)) hge63_)) j_).trans (B182_ j_ hj_)
                        have A182n_ : ∀ j_, j_ ≠ 197 → T63_ j_ (T 201 (T 182 o)) = T j_ (T 201 (T 182 o)) := fun j_ hj_ => (hx63_ (T 201 (T 182 o)) (Nat.ne_of_lt (Nat.lt_of_lt_of_le (cw_ltq hw0_.1 (by rw [A182_ 0 (by decide)]; exact tx182_)) hge63_)) j_).trans (A182_ j_ hj_)
                        have B183n_ : ∀ j_, j_ ≠ 197 → T63_ j_ (T 183 o) = T j_ (T 183 o) := fun j_ hj_ => (hx63_ (T 183 o) (Nat.ne_of_lt (Nat.lt_of_lt_of_le (cw_lt hw0_.1 ((B183_ 0 (by decide)).trans tl183_) (fun _ _ _ => ⟨_, rfl⟩)) hge63_)) j_).trans (B183_ j_ hj_)
                        have A183n_ : ∀ j_, j_ ≠ 197 → T63_ j_ (T 201 (T 183 o)) = T j_ (T 201 (T 183 o)) := fun j_ hj_ => (hx63_ (T 201 (T 183 o)) (Nat.ne_of_lt (Nat.lt_of_lt_of_le (cw_ltq hw0_.1 (by rw [A183_ 0 (by decide)]; exact tx183_)) hge63_)) j_).trans (A183_ j_ hj_)
                        have B180_ := B180n_
                        have A180_ := A180n_
                        have B181_ := B181n_
                        have A181_ := A181n_
                        have B182_ := B182n_
                        have A182_ := A182n_
                        have B183_ := B183n_
                        have A183_ := A183n_
                        have u64_ : T63_ 0 o = 9 := (hx63_ o (Nat.ne_of_lt (Nat.lt_of_lt_of_le (cw_lt hw0_.1 t_o (fun _ _ _ => ⟨_, rfl⟩)) hge63_)) 0).trans t_o
                        have u65_ : T63_ 0 xx1_ = 2 := (hx63_ xx1_ (Nat.ne_of_lt (Nat.lt_of_lt_of_le (cw_lt hw0_.1 te1_ (fun _ _ _ => ⟨_, rfl⟩)) hge63_)) 0).trans te1_
                        have u66_ : T63_ 0 xx3_ = 2 := (hx63_ xx3_ (Nat.ne_of_lt (Nat.lt_of_lt_of_le (cw_lt hw0_.1 te3_ (fun _ _ _ => ⟨_, rfl⟩)) hge63_)) 0).trans te3_
                        have u67_ : T63_ 0 (T 183 o) = 10 := (hx63_ (T 183 o) (Nat.ne_of_lt (Nat.lt_of_lt_of_le (cw_lt hw0_.1 (wt_183 hT t_o) (fun _ _ _ => ⟨_, rfl⟩)) hge63_)) 0).trans (wt_183 hT t_o)
                        have u68_ : T63_ 2 (T 183 o) = 7 := (hx63_ (T 183 o) (Nat.ne_of_lt (Nat.lt_of_lt_of_le (cw_lt hw0_.1 (wt_183 hT t_o) (fun _ _ _ => ⟨_, rfl⟩)) hge63_)) 2).trans (we_183 hT t_o)
                        have u69_ : T63_ 180 o = T 180 o := (hx63_ o (Nat.ne_of_lt (Nat.lt_of_lt_of_le (cw_lt hw0_.1 t_o (fun _ _ _ => ⟨_, rfl⟩)) hge63_)) 180).trans rfl
                        have u70_ : T63_ 181 o = T 181 o := (hx63_ o (Nat.ne_of_lt (Nat.lt_of_lt_of_le (cw_lt hw0_.1 t_o (fun _ _ _ => ⟨_, rfl⟩)) hge63_)) 181).trans rfl
                        have u71_ : T63_ 182 o = T 182 o := (hx63_ o (Nat.ne_of_lt (Nat.lt_of_lt_of_le (cw_lt hw0_.1 t_o (fun _ _ _ => ⟨_, rfl⟩)) hge63_)) 182).trans rfl
                        have u72_ : T63_ 183 o = T 183 o := (hx63_ o (Nat.ne_of_lt (Nat.lt_of_lt_of_le (cw_lt hw0_.1 t_o (fun _ _ _ => ⟨_, rfl⟩)) hge63_)) 183).trans rfl
                        have u73_ : T63_ 185 o = T 185 o := (hx63_ o (Nat.ne_of_lt (Nat.lt_of_lt_of_le (cw_lt hw0_.1 t_o (fun _ _ _ => ⟨_, rfl⟩)) hge63_)) 185).trans rfl
                        refine j_dup E 148 rfl dX9_suit_147 rfl ?_
                        refine j_iload_n E 149 rfl dX9_suit_148 rfl (lv_at hl 4 rfl) ?_
                        refine j_iload_n E 150 rfl dX9_suit_149 rfl (lv_at hl 5 rfl) ?_
                        refine j_iload_n E 151 rfl dX9_suit_150 rfl (lv_at hl 6 rfl) ?_
                        refine j_aload_n E 152 rfl dX9_suit_151 rfl (lv_at hl 3 rfl) ?_
                        refine j_iload_n E 153 rfl dX9_suit_152 rfl (lv_at hl 6 rfl) ?_
                        refine j_aload_n E 154 rfl dX9_suit_153 rfl (lv_at hl 3 rfl) ?_
                        refine g_187 E hK hw fl_X9_37 u64_ (v_0 187 o) rfl 157 rfl dX9_suit_154 (fun _ => ?_)
                        refine j_iconst E 158 rfl dX9_suit_157 ?_
                        refine j_isub E 159 rfl dX9_suit_158 ?_
                        refine j_norm (fun zz74_ rr74_ ee74_ => ?_)
                        refine kV_i E (c_X9_reckonByLaw l D cy T63_ (upV (upV (upV (upV (upV (upV (upV (upV v_0 300 y300_61) 140 (upB (v_0 140) q63_ 0)) 141 (upB (v_0 141) q63_ 0)) 142 (upB (v_0 142) q63_ 0)) 143 (upB (v_0 143) q63_ 0)) 144 (upB (v_0 144) q63_ 0)) 145 (upB (v_0 145) q63_ 0)) 146 (upB (v_0 146) q63_ 0)) o v_l zz74_  u64_ r_v_l rr74_ ) mt_X9_reckonByLaw ml_X9_296 hK hw (cw_rc9 hK hw.1 u64_) hA ⟨Nat.le_of_ble_eq_true rfl, Nat.le_of_ble_eq_true rfl⟩ ⟨Nat.le_of_ble_eq_true rfl, Nat.le_of_ble_eq_true rfl⟩ (As := [.int (J v_l), .int (J zz74_)]) (rest := [.int (J v_l), .int (J v_q), .int (J v_p), .ref q63_, .ref q63_, .ref (T 183 o)]) rfl rfl hl.1 (Nat.le_of_ble_eq_true rfl) 162 rfl dX9_suit_159 (fun zz75_ v_75 H locs rr75_ hq75_ hw => ?_)
                        obtain ⟨y103_75, y300_75, ev75_, hh75_⟩ := hq75_
                        rw [ev75_] at hw; clear ev75_
                        refine j_aload_n E 163 rfl dX9_suit_162 rfl (lv_at hl 3 rfl) ?_
                        refine g_187 E hK hw fl_X9_37 u64_ (v_0 187 o) rfl 166 rfl dX9_suit_163 (fun _ => ?_)
                        refine j_aload_n E 167 rfl dX9_suit_166 rfl (lv_at hl 3 rfl) ?_
                        refine j_iload_n E 168 rfl dX9_suit_167 rfl (lv_at hl 4 rfl) ?_
                        refine j_aload E 170 rfl dX9_suit_168 (lv_at hl 2 rfl) ?_
                        refine g_41 E hK hw fl_X9_110 u65_ (v_0 41 xx1_) rfl 173 rfl dX9_suit_170 (fun _ => ?_)
                        refine kV_i E (c_X9_livingKinOf l D cy T63_ (upV (upV (upV (upV (upV (upV (upV (upV (upV (upV v_0 300 y300_61) 140 (upB (v_0 140) q63_ 0)) 141 (upB (v_0 141) q63_ 0)) 142 (upB (v_0 142) q63_ 0)) 143 (upB (v_0 143) q63_ 0)) 144 (upB (v_0 144) q63_ 0)) 145 (upB (v_0 145) q63_ 0)) 146 (upB (v_0 146) q63_ 0)) 103 y103_75) 300 y300_75) o v_p (v_0 41 xx1_)  u64_ r_v_p rr16_ ) mt_X9_livingKinOf ml_X9_313 hK hw (cw_rc9 hK hw.1 u64_) hA ⟨Nat.le_of_ble_eq_true rfl, Nat.le_of_ble_eq_true rfl⟩ ⟨Nat.le_of_ble_eq_true rfl, Nat.le_of_ble_eq_true rfl⟩ (As := [.int (J v_p), .int (J (v_0 41 xx1_))]) (rest := [.int (J (v_0 187 o)), .int (J zz75_), .int (J v_l), .int (J v_q), .int (J v_p), .ref q63_, .ref q63_, .ref (T 183 o)]) rfl rfl hl.1 (Nat.le_of_ble_eq_true rfl) 176 rfl dX9_suit_173 (fun zz76_ v_76 H locs rr76_ hq76_ hw => ?_)
                        obtain ⟨ev76_, hh76_⟩ := hq76_
                        rw [ev76_] at hw; clear ev76_
                        have hw0_ := hw
                        refine aI_v E (n_X6_init l D cy κ T63_ (upV (upV (upV (upV (upV (upV (upV (upV (upV (upV v_0 300 y300_61) 140 (upB (v_0 140) q63_ 0)) 141 (upB (v_0 141) q63_ 0)) 142 (upB (v_0 142) q63_ 0)) 143 (upB (v_0 143) q63_ 0)) 144 (upB (v_0 144) q63_ 0)) 145 (upB (v_0 145) q63_ 0)) 146 (upB (v_0 146) q63_ 0)) 103 y103_75) 300 y300_75) q63_ v_p v_q v_l zz75_ (v_0 187 o) zz76_ H.size  hO63_ tq63_ r_v_p r_v_q r_v_l rr75_ rr10_ rr76_ ) mi_X6_init ml_X9_316 hK hZ hAc hw hA ⟨(Nat.le_of_ble_eq_true rfl), (Nat.le_of_ble_eq_true rfl)⟩ ⟨(Nat.le_of_ble_eq_true rfl), (Nat.le_of_ble_eq_true rfl)⟩ (As := [.int (J v_p), .int (J v_q), .int (J v_l), .int (J zz75_), .int (J (v_0 187 o)), .int (J zz76_)]) (rest := [.ref q63_, .ref (T 183 o)]) rfl rfl hl.1 (Nat.le_of_ble_eq_true rfl) 179 rfl dX9_suit_176 (fun T77_ v_77 H locs hge77_ ho77_ hq77_ hw => ?_)
                        obtain ⟨y140_77, y141_77, y142_77, y143_77, y144_77, y145_77, y146_77, ev77_, hh77_⟩ := hq77_
                        rw [ev77_] at hw; clear ev77_
                        obtain ⟨hx77_, tq77_⟩ := hh77_
                        have hT77_ : WT T77_ := hw.1.2.1
                        have hO77_ : ∀ x, ow T77_ x → κ 2 2 ≤ x := fun x h => hAc x (hw.2.1 x h)
                        have hoT_ : OW T T77_ s.heap.size := OW.tr hw0_.2.2.1 hoT_ ho77_
                        have B180n_ : ∀ j_, j_ ≠ 197 → T77_ j_ (T 180 o) = T j_ (T 180 o) := fun j_ hj_ => (hx77_ (T 180 o) (cw_lt hw0_.1 ((B180_ 0 (by decide)).trans tl180_) (fun _ _ _ => ⟨_, rfl⟩)) (ty_ne ((B180_ 0 (by decide)).trans tl180_) tq63_ (by decide)) j_).trans (B180_ j_ hj_)
                        have A180n_ : ∀ j_, j_ ≠ 197 → T77_ j_ (T 201 (T 180 o)) = T j_ (T 201 (T 180 o)) := fun j_ hj_ => (hx77_ (T 201 (T 180 o)) (cw_ltq hw0_.1 (by rw [A180_ 0 (by decide)]; exact tx180_)) (ty_neq (by rw [A180_ 0 (by decide)]; exact tx180_) tq63_ (by decide) (by decide)) j_).trans (A180_ j_ hj_)
                        have B181n_ : ∀ j_, j_ ≠ 197 → T77_ j_ (T 181 o) = T j_ (T 181 o) := fun j_ hj_ => (hx77_ (T 181 o) (cw_lt hw0_.1 ((B181_ 0 (by decide)).trans tl181_) (fun _ _ _ => ⟨_, rfl⟩)) (ty_ne ((B181_ 0 (by decide)).trans tl181_) tq63_ (by decide)) j_).trans (B181_ j_ hj_)
                        have A181n_ : ∀ j_, j_ ≠ 197 → T77_ j_ (T 201 (T 181 o)) = T j_ (T 201 (T 181 o)) := fun j_ hj_ => (hx77_ (T 201 (T 181 o)) (cw_ltq hw0_.1 (by rw [A181_ 0 (by decide)]; exact tx181_)) (ty_neq (by rw [A181_ 0 (by decide)]; exact tx181_) tq63_ (by decide) (by decide)) j_).trans (A181_ j_ hj_)
                        have B182n_ : ∀ j_, j_ ≠ 197 → T77_ j_ (T 182 o) = T j_ (T 182 o) := fun j_ hj_ => (hx77_ (T 182 o) (cw_lt hw0_.1 ((B182_ 0 (by decide)).trans tl182_) (fun _ _ _ => ⟨_, rfl⟩)) (ty_ne ((B182_ 0 (by decide)).trans tl182_) tq63_ (by decide)) j_).trans (B182_ j_ hj_)
                        have A182n_ : ∀ j_, j_ ≠ 197 → T77_ j_ (T 201 (T 182 o)) = T j_ (T 201 (T 182 o)) := fun j_ hj_ => (hx77_ (T 201 (T 182 o)) (cw_ltq hw0_.1 (by rw [A182_ 0 (by decide)]; exact tx182_)) (ty_neq (by rw [A182_ 0 (by decide)]; exact tx182_) tq63_ (by decide) (by decide)) j_).trans (A182_ j_ hj_)
                        have B183n_ : ∀ j_, j_ ≠ 197 → T77_ j_ (T 183 o) = T j_ (T 183 o) := fun j_ hj_ => (hx77_ (T 183 o) (cw_lt hw0_.1 ((B183_ 0 (by decide)).trans tl183_) (fun _ _ _ => ⟨_, rfl⟩)) (ty_ne ((B183_ 0 (by decide)).trans tl183_) tq63_ (by decide)) j_).trans (B183_ j_ hj_)
                        have A183n_ : ∀ j_, j_ ≠ 197 → T77_ j_ (T 201 (T 183 o)) = T j_ (T 201 (T 183 o)) := fun j_ hj_ => (hx77_ (T 201 (T 183 o)) (cw_ltq hw0_.1 (by rw [A183_ 0 (by decide)]; exact tx183_)) (ty_neq (by rw [A183_ 0 (by decide)]; exact tx183_) tq63_ (by decide) (by decide)) j_).trans (A183_ j_ hj_)
                        have B180_ := B180n_
                        have A180_ := A180n_
                        have B181_ := B181n_
                        have A181_ := A181n_
                        have B182_ := B182n_
                        have A182_ := A182n_
                        have B183_ := B183n_
                        have A183_ := A183n_
                        have u78_ : T77_ 0 o = 9 := (hx77_ o (cw_lt hw0_.1 u64_ (fun _ _ _ => ⟨_, rfl⟩)) (ty_ne u64_ tq63_ (by decide)) 0).trans u64_
                        have u79_ : T77_ 0 xx1_ = 2 := (hx77_ xx1_ (cw_lt hw0_.1 u65_ (fun _ _ _ => ⟨_, rfl⟩)) (ty_ne u65_ tq63_ (by decide)) 0).trans u65_
                        have u80_ : T77_ 0 xx3_ = 2 := (hx77_ xx3_ (cw_lt hw0_.1 u66_ (fun _ _ _ => ⟨_, rfl⟩)) (ty_ne u66_ tq63_ (by decide)) 0).trans u66_
                        have u81_ : T77_ 0 (T 183 o) = 10 := (hx77_ (T 183 o) (cw_lt hw0_.1 u67_ (fun _ _ _ => ⟨_, rfl⟩)) (ty_ne u67_ tq63_ (by decide)) 0).trans u67_
                        have u82_ : T77_ 2 (T 183 o) = 7 := (hx77_ (T 183 o) (cw_lt hw0_.1 u67_ (fun _ _ _ => ⟨_, rfl⟩)) (ty_ne u67_ tq63_ (by decide)) 2).trans u68_
                        have u83_ : T77_ 180 o = T 180 o := (hx77_ o (cw_lt hw0_.1 u64_ (fun _ _ _ => ⟨_, rfl⟩)) (ty_ne u64_ tq63_ (by decide)) 180).trans u69_
                        have u84_ : T77_ 181 o = T 181 o := (hx77_ o (cw_lt hw0_.1 u64_ (fun _ _ _ => ⟨_, rfl⟩)) (ty_ne u64_ tq63_ (by decide)) 181).trans u70_
                        have u85_ : T77_ 182 o = T 182 o := (hx77_ o (cw_lt hw0_.1 u64_ (fun _ _ _ => ⟨_, rfl⟩)) (ty_ne u64_ tq63_ (by decide)) 182).trans u71_
                        have u86_ : T77_ 183 o = T 183 o := (hx77_ o (cw_lt hw0_.1 u64_ (fun _ _ _ => ⟨_, rfl⟩)) (ty_ne u64_ tq63_ (by decide)) 183).trans u72_
                        have u87_ : T77_ 185 o = T 185 o := (hx77_ o (cw_lt hw0_.1 u64_ (fun _ _ _ => ⟨_, rfl⟩)) (ty_ne u64_ tq63_ (by decide)) 185).trans u73_
                        have hw0_ := hw
                        refine aV_i E (n_Jx4a65c_add_9ea2d_n2 l D cy κ T77_ (upV (upV (upV (upV (upV (upV (upV (upV (upV (upV (upV (upV (upV (upV (upV (upV (upV v_0 300 y300_61) 140 (upB (v_0 140) q63_ 0)) 141 (upB (v_0 141) q63_ 0)) 142 (upB (v_0 142) q63_ 0)) 143 (upB (v_0 143) q63_ 0)) 144 (upB (v_0 144) q63_ 0)) 145 (upB (v_0 145) q63_ 0)) 146 (upB (v_0 146) q63_ 0)) 103 y103_75) 300 y300_75) 140 y140_77) 141 y141_77) 142 y142_77) 143 y143_77) 144 y144_77) 145 y145_77) 146 y146_77) (T 183 o) q63_ H.size  hO77_ u81_  (tq77_.trans u82_.symm) (fun x_ h_ => hp0 x_ ((hoT_ x_).2 h_)) (show ((v_0 202) ((T 183 o))) ≤ 200 from by omega)) mt_Jx4a65c_add_9ea2d ml_X9_89 hK hZ hAc hw (cw_rc10 hK hw.1 u81_) hA ⟨(Nat.le_of_ble_eq_true rfl), (Nat.le_of_ble_eq_true rfl)⟩ ⟨(Nat.le_of_ble_eq_true rfl), (Nat.le_of_ble_eq_true rfl)⟩ (As := [.ref q63_]) (rest := []) rfl rfl hl.1 (Nat.le_of_ble_eq_true rfl) 182 rfl dX9_suit_179 (fun zz88_ T88_ v_88 H locs rr88_ hge88_ ho88_ hq88_ hw => ?_)
                        obtain ⟨y200_88, y202_88, ev88_, hh88_⟩ := hq88_
                        rw [ev88_] at hw; clear ev88_
                        obtain ⟨hy88_, hx88_, hz88_, hl88_, hel88_, hnw88_⟩ := hh88_
                        have hy88_ : y202_88 = upB (v_0 202) (T 183 o) ((v_0 202) (T 183 o) + 1) := hy88_
                        have hT88_ : WT T88_ := hw.1.2.1
                        have hO88_ : ∀ x, ow T88_ x → κ 2 2 ≤ x := fun x h => hAc x (hw.2.1 x h)
                        have hoT_ : OW T T88_ s.heap.size := OW.tr hw0_.2.2.1 hoT_ ho88_
                        have B180n_ : ∀ j_, j_ ≠ 197 → T88_ j_ (T 180 o) = T j_ (T 180 o) := fun j_ hj_ => (hx88_ (T 180 o) (cw_lt hw0_.1 ((B180_ 0 (by decide)).trans tl180_) (fun _ _ _ => ⟨_, rfl⟩)) ((ls_ne hT t_o).2.2.1) (fun h_ => absurd (((B180_ 0 (by decide)).trans tl180_).symm.trans h_) (by decide)) j_).trans (B180_ j_ hj_)
                        have A180n_ : ∀ j_, j_ ≠ 197 → T88_ j_ (T 201 (T 180 o)) = T j_ (T 201 (T 180 o)) := fun j_ hj_ => (hx88_ (T 201 (T 180 o)) (cw_ltq hw0_.1 (by rw [A180_ 0 (by decide)]; exact tx180_)) (ty_neq (by rw [A180_ 0 (by decide)]; exact tx180_) u81_ (by decide) (by decide)) (fun h_ => by rw [B183_ 201 (by decide)]; exact own_ne hT tl180_ tl183_ ((ls_ne hT t_o).2.2.1) ((A180_ 0 (by decide)).symm.trans h_)) j_).trans (A180_ j_ hj_)
                        have B181n_ : ∀ j_, j_ ≠ 197 → T88_ j_ (T 181 o) = T j_ (T 181 o) := fun j_ hj_ => (hx88_ (T 181 o) (cw_lt hw0_.1 ((B181_ 0 (by decide)).trans tl181_) (fun _ _ _ => ⟨_, rfl⟩)) ((ls_ne hT t_o).2.2.2.2.2.1) (fun h_ => absurd (((B181_ 0 (by decide)).trans tl181_).symm.trans h_) (by decide)) j_).trans (B181_ j_ hj_)
                        have A181n_ : ∀ j_, j_ ≠ 197 → T88_ j_ (T 201 (T 181 o)) = T j_ (T 201 (T 181 o)) := fun j_ hj_ => (hx88_ (T 201 (T 181 o)) (cw_ltq hw0_.1 (by rw [A181_ 0 (by decide)]; exact tx181_)) (ty_neq (by rw [A181_ 0 (by decide)]; exact tx181_) u81_ (by decide) (by decide)) (fun h_ => by rw [B183_ 201 (by decide)]; exact own_ne hT tl181_ tl183_ ((ls_ne hT t_o).2.2.2.2.2.1) ((A181_ 0 (by decide)).symm.trans h_)) j_).trans (A181_ j_ hj_)
                        have B182n_ : ∀ j_, j_ ≠ 197 → T88_ j_ (T 182 o) = T j_ (T 182 o) := fun j_ hj_ => (hx88_ (T 182 o) (cw_lt hw0_.1 ((B182_ 0 (by decide)).trans tl182_) (fun _ _ _ => ⟨_, rfl⟩)) ((ls_ne hT t_o).2.2.2.2.2.2.2.2.1) (fun h_ => absurd (((B182_ 0 (by decide)).trans tl182_).symm.trans h_) (by decide)) j_).trans (B182_ j_ hj_)
                        have A182n_ : ∀ j_, j_ ≠ 197 → T88_ j_ (T 201 (T 182 o)) = T j_ (T 201 (T 182 o)) := fun j_ hj_ => (hx88_ (T 201 (T 182 o)) (cw_ltq hw0_.1 (by rw [A182_ 0 (by decide)]; exact tx182_)) (ty_neq (by rw [A182_ 0 (by decide)]; exact tx182_) u81_ (by decide) (by decide)) (fun h_ => by rw [B183_ 201 (by decide)]; exact own_ne hT tl182_ tl183_ ((ls_ne hT t_o).2.2.2.2.2.2.2.2.1) ((A182_ 0 (by decide)).symm.trans h_)) j_).trans (A182_ j_ hj_)
                        have B180_ := B180n_
                        have A180_ := A180n_
                        have B181_ := B181n_
                        have A181_ := A181n_
                        have B182_ := B182n_
                        have A182_ := A182n_
                        have u89_ : T88_ 0 o = 9 := (hx88_ o (cw_lt hw0_.1 u78_ (fun _ _ _ => ⟨_, rfl⟩)) (ty_ne u78_ u81_ (by decide)) (fun h_ => absurd (u78_.symm.trans h_) (by decide)) 0).trans u78_
                        have u90_ : T88_ 0 xx1_ = 2 := (hx88_ xx1_ (cw_lt hw0_.1 u79_ (fun _ _ _ => ⟨_, rfl⟩)) (ty_ne u79_ u81_ (by decide)) (fun h_ => absurd (u79_.symm.trans h_) (by decide)) 0).trans u79_
                        have u91_ : T88_ 0 xx3_ = 2 := (hx88_ xx3_ (cw_lt hw0_.1 u80_ (fun _ _ _ => ⟨_, rfl⟩)) (ty_ne u80_ u81_ (by decide)) (fun h_ => absurd (u80_.symm.trans h_) (by decide)) 0).trans u80_
                        have u92_ : T88_ 180 o = T 180 o := (hx88_ o (cw_lt hw0_.1 u78_ (fun _ _ _ => ⟨_, rfl⟩)) (ty_ne u78_ u81_ (by decide)) (fun h_ => absurd (u78_.symm.trans h_) (by decide)) 180).trans u83_
                        have u93_ : T88_ 181 o = T 181 o := (hx88_ o (cw_lt hw0_.1 u78_ (fun _ _ _ => ⟨_, rfl⟩)) (ty_ne u78_ u81_ (by decide)) (fun h_ => absurd (u78_.symm.trans h_) (by decide)) 181).trans u84_
                        have u94_ : T88_ 182 o = T 182 o := (hx88_ o (cw_lt hw0_.1 u78_ (fun _ _ _ => ⟨_, rfl⟩)) (ty_ne u78_ u81_ (by decide)) (fun h_ => absurd (u78_.symm.trans h_) (by decide)) 182).trans u85_
                        have u95_ : T88_ 183 o = T 183 o := (hx88_ o (cw_lt hw0_.1 u78_ (fun _ _ _ => ⟨_, rfl⟩)) (ty_ne u78_ u81_ (by decide)) (fun h_ => absurd (u78_.symm.trans h_) (by decide)) 183).trans u86_
                        have u96_ : T88_ 185 o = T 185 o := (hx88_ o (cw_lt hw0_.1 u78_ (fun _ _ _ => ⟨_, rfl⟩)) (ty_ne u78_ u81_ (by decide)) (fun h_ => absurd (u78_.symm.trans h_) (by decide)) 185).trans u87_
                        refine j_pop E 183 rfl dX9_suit_182 rfl ?_
                        refine j_aload_n E 184 rfl dX9_suit_183 rfl (lv_at hl 3 rfl) ?_
                        refine g_183 E hK hw fl_X9_22 u89_ 187 rfl dX9_suit_184 ?_
                        refine kV_i E (c_Jx4a65c_size_8abf5 l D cy T88_ (upV (upV (upV (upV (upV (upV (upV (upV (upV (upV (upV (upV (upV (upV (upV (upV (upV (upV (upV v_0 300 y300_61) 140 (upB (v_0 140) q63_ 0)) 141 (upB (v_0 141) q63_ 0)) 142 (upB (v_0 142) q63_ 0)) 143 (upB (v_0 143) q63_ 0)) 144 (upB (v_0 144) q63_ 0)) 145 (upB (v_0 145) q63_ 0)) 146 (upB (v_0 146) q63_ 0)) 103 y103_75) 300 y300_75) 140 y140_77) 141 y141_77) 142 y142_77) 143 y143_77) 144 y144_77) 145 y145_77) 146 y146_77) 200 y200_88) 202 y202_88) (T88_ 183 o)  (wt_183 hT88_ u89_)  ) mt_Jx4a65c_size_8abf5 ml_X9_80 hK hw (cw_rc10 hK hw.1 (wt_183 hT88_ u89_)) hA ⟨Nat.le_of_ble_eq_true rfl, Nat.le_of_ble_eq_true rfl⟩ ⟨Nat.le_of_ble_eq_true rfl, Nat.le_of_ble_eq_true rfl⟩ (As := []) (rest := []) rfl rfl hl.1 (Nat.le_of_ble_eq_true rfl) 190 rfl dX9_suit_187 (fun zz97_ v_97 H locs rr97_ hq97_ hw => ?_)
                        obtain ⟨ev97_, hh97_⟩ := hq97_
                        rw [ev97_] at hw; clear ev97_
                        have hh97_ : zz97_ = (y202_88 ((T88_ 183 o))) ∧ 0 ≤ zz97_ := hh97_
                        refine j_iconst E 191 rfl dX9_suit_190 ?_
                        refine j_isub E 192 rfl dX9_suit_191 ?_
                        refine j_norm (fun zz98_ rr98_ ee98_ => ?_)
                        exact hret 192 zz98_ T88_ _ _ _ ls _ _ hw hoT_ rr98_ (⟨u89_, ⟨u92_, u93_, u94_, u95_, u96_⟩, rfl, rfl, rfl, rfl, rfl, (by show y202_88 (T 180 o) = v_0 202 (T 180 o); rw [hy88_]; exact upB_ne ((ls_ne hT t_o).2.2.1)), (by show y202_88 (T 181 o) = v_0 202 (T 181 o); rw [hy88_]; exact upB_ne ((ls_ne hT t_o).2.2.2.2.2.1)), (by show y202_88 (T 182 o) = v_0 202 (T 182 o); rw [hy88_]; exact upB_ne ((ls_ne hT t_o).2.2.2.2.2.2.2.2.1)), (fun i_ => by rw [u92_, B180_ 201 (by decide), A180_ (1000 + i_) (by omega)]), rfl, rfl, rfl, rfl, rfl, trivial⟩) (Nat.le_of_ble_eq_true rfl) (Nat.le_of_ble_eq_true rfl) dX9_suit_192
                      · refine j_iconst E 139 rfl dX9_suit_138 ?_
                        exact hret 139 ((-1)) T _ _ _ ls _ _ hw hoT_ (rr (by decide)) (⟨t_o, ⟨rfl, rfl, rfl, rfl, rfl⟩, rfl, rfl, rfl, rfl, rfl, rfl, rfl, rfl, (fun _ => rfl), rfl, rfl, rfl, rfl, rfl, trivial⟩) (Nat.le_of_ble_eq_true rfl) (Nat.le_of_ble_eq_true rfl) dX9_suit_139
                  · refine j_iconst E 86 rfl dX9_suit_85 ?_
                    exact hret 86 ((-1)) T _ _ _ ls _ _ hw hoT_ (rr (by decide)) (⟨t_o, ⟨rfl, rfl, rfl, rfl, rfl⟩, rfl, rfl, rfl, rfl, rfl, rfl, rfl, rfl, (fun _ => rfl), rfl, rfl, rfl, rfl, rfl, trivial⟩) (Nat.le_of_ble_eq_true rfl) (Nat.le_of_ble_eq_true rfl) dX9_suit_86
          · refine j_iconst E 50 rfl dX9_suit_49 ?_
            exact hret 50 ((-1)) T _ _ _ ls _ _ hw hoT_ (rr (by decide)) (⟨t_o, ⟨rfl, rfl, rfl, rfl, rfl⟩, rfl, rfl, rfl, rfl, rfl, rfl, rfl, rfl, (fun _ => rfl), rfl, rfl, rfl, rfl, rfl, trivial⟩) (Nat.le_of_ble_eq_true rfl) (Nat.le_of_ble_eq_true rfl) dX9_suit_50
set_option maxHeartbeats 4000000 in
set_option maxRecDepth 100000 in
theorem n_X9_wording (l : Launch) (D : va_G) (cy : Nat → ClassId) (κ T : Nat → Nat → Nat) (v_0 : Nat → Nat → Int) (o : Nat) (sz : Nat) (hO : ∀ x, ow T x → κ 2 2 ≤ x) (t_o : T 0 o = 9) (hp0 : ∀ x, T 0 x = 26 → x = κ 2 0) (hp1 : 0 ≤ v_0 186 o ∧ v_0 186 o ≤ 400) : KA l D cy κ T yX9_wording cX9_wording 2 (some .int) 24 5 1300 [.ref o] v_0 sz (AI (fun (z_0 : Int) (T_2 : Nat → Nat → Nat) (v_2 : Nat → Nat → Int) => T_2 0 o = 9 ∧ (T_2 180 o = T 180 o ∧ T_2 181 o = T 181 o ∧ T_2 182 o = T 182 o ∧ T_2 183 o = T 183 o ∧ T_2 185 o = T 185 o) ∧ v_2 186 o = 0 ∧ v_2 187 o = v_0 187 o ∧ v_2 303 = v_0 303 ∧ v_2 202 (T 180 o) = v_0 202 (T 180 o) ∧ v_2 202 (T 181 o) = v_0 202 (T 181 o) ∧ v_2 202 (T 183 o) = v_0 202 (T 183 o) ∧ (∀ i_ : Nat, T_2 (1000 + i_) (T_2 201 (T_2 180 o)) = T (1000 + i_) (T 201 (T 180 o))) ∧ v_2 40 = v_0 40 ∧ v_2 41 = v_0 41 ∧ v_2 42 = v_0 42 ∧ v_2 43 = v_0 43 ∧ v_2 44 = v_0 44 ∧ (Wc_ (gC_ (v_0 303) (T 185 o)) (v_0 186 o) (v_0 202 (T 182 o)) (v_2 202 (T 182 o)) z_0 (v_2 190 o) (v_2 191 o)))) := by
  refine KA.ofi (by decide) (Nat.le_of_ble_eq_true rfl) hO ?_
  intro p e s m below meth c ls ar QW A0 H locs E hK hZ hA hAc hsz hnm hw hlo_ hl hret
  have hl : lv_has ls 2 [(0, .ref o)] := hl
  have hT : WT T := hw.1.2.1
  have hoT_ : OW T T s.heap.size := OW.rf T _
  have tl180_ : T 0 (T 180 o) = 10 := wt_180 hT t_o
  have tx180_ : T 0 (T 201 (T 180 o)) = 24 ∨ T 0 (T 201 (T 180 o)) = 26 := (wt10 hT tl180_).1
  have B180_ : ∀ j, j ≠ 197 → T j (T 180 o) = T j (T 180 o) := fun _ _ => rfl
  have A180_ : ∀ j, j ≠ 197 → T j (T 201 (T 180 o)) = T j (T 201 (T 180 o)) := fun _ _ => rfl
  have tl181_ : T 0 (T 181 o) = 10 := wt_181 hT t_o
  have tx181_ : T 0 (T 201 (T 181 o)) = 24 ∨ T 0 (T 201 (T 181 o)) = 26 := (wt10 hT tl181_).1
  have B181_ : ∀ j, j ≠ 197 → T j (T 181 o) = T j (T 181 o) := fun _ _ => rfl
  have A181_ : ∀ j, j ≠ 197 → T j (T 201 (T 181 o)) = T j (T 201 (T 181 o)) := fun _ _ => rfl
  have tl182_ : T 0 (T 182 o) = 10 := wt_182 hT t_o
  have tx182_ : T 0 (T 201 (T 182 o)) = 24 ∨ T 0 (T 201 (T 182 o)) = 26 := (wt10 hT tl182_).1
  have B182_ : ∀ j, j ≠ 197 → T j (T 182 o) = T j (T 182 o) := fun _ _ => rfl
  have A182_ : ∀ j, j ≠ 197 → T j (T 201 (T 182 o)) = T j (T 201 (T 182 o)) := fun _ _ => rfl
  have tl183_ : T 0 (T 183 o) = 10 := wt_183 hT t_o
  have tx183_ : T 0 (T 201 (T 183 o)) = 24 ∨ T 0 (T 201 (T 183 o)) = 26 := (wt10 hT tl183_).1
  have B183_ : ∀ j, j ≠ 197 → T j (T 183 o) = T j (T 183 o) := fun _ _ => rfl
  have A183_ : ∀ j, j ≠ 197 → T j (T 201 (T 183 o)) = T j (T 201 (T 183 o)) := fun _ _ => rfl
  refine j_aload_n E 1 rfl dX9_wording_0 rfl (lv_at hl 0 rfl) ?_
  refine g_186 E hK hw fl_X9_33 t_o (v_0 186 o) rfl 4 rfl dX9_wording_1 (fun rr1_ => ?_)
  refine j_istore_n E 5 rfl [(1, .int (J (v_0 186 o))), (0, .ref o)] dX9_wording_4 rfl hl (by decide) rfl (fun ls hl => ?_)
  refine j_aload_n E 6 rfl dX9_wording_5 rfl (lv_at hl 1 rfl) ?_
  refine j_iconst E 7 rfl dX9_wording_6 ?_
  refine p_186 E hK hw fl_X9_33 t_o (rr (by decide)) 10 rfl dX9_wording_7 (fun H locs hw => ?_)
  have hw : WK D cy T (upV v_0 186 (upB (v_0 186) o 0)) A0 s.heap H locs := hw
  refine j_aload_n E 11 rfl dX9_wording_10 rfl (lv_at hl 1 rfl) ?_
  refine j_iconst E 12 rfl dX9_wording_11 ?_
  refine p_190 E hK hw fl_X9_46 t_o (rr (by decide)) 15 rfl dX9_wording_12 (fun H locs hw => ?_)
  have hw : WK D cy T (upV (upV v_0 186 (upB (v_0 186) o 0)) 190 (upB (v_0 190) o 0)) A0 s.heap H locs := hw
  refine j_aload_n E 16 rfl dX9_wording_15 rfl (lv_at hl 1 rfl) ?_
  refine j_iconst E 17 rfl dX9_wording_16 ?_
  refine p_191 E hK hw fl_X9_49 t_o (rr (by decide)) 20 rfl dX9_wording_17 (fun H locs hw => ?_)
  have hw : WK D cy T (upV (upV (upV v_0 186 (upB (v_0 186) o 0)) 190 (upB (v_0 190) o 0)) 191 (upB (v_0 191) o ((-1)))) A0 s.heap H locs := hw
  refine j_aload_n E 21 rfl dX9_wording_20 rfl (lv_at hl 1 rfl) ?_
  refine g_182 E hK hw fl_X9_19 t_o 24 rfl dX9_wording_21 ?_
  refine kV_i E (c_Jx4a65c_size_8abf5 l D cy T (upV (upV (upV v_0 186 (upB (v_0 186) o 0)) 190 (upB (v_0 190) o 0)) 191 (upB (v_0 191) o ((-1)))) (T 182 o)  (wt_182 hT t_o)  ) mt_Jx4a65c_size_8abf5 ml_X9_80 hK hw (cw_rc10 hK hw.1 (wt_182 hT t_o)) hA ⟨Nat.le_of_ble_eq_true rfl, Nat.le_of_ble_eq_true rfl⟩ ⟨Nat.le_of_ble_eq_true rfl, Nat.le_of_ble_eq_true rfl⟩ (As := []) (rest := []) rfl rfl hl.1 (Nat.le_of_ble_eq_true rfl) 27 rfl dX9_wording_24 (fun zz5_ v_5 H locs rr5_ hq5_ hw => ?_)
  obtain ⟨ev5_, hh5_⟩ := hq5_
  rw [ev5_] at hw; clear ev5_
  have hh5_ : zz5_ = ((v_0 202) ((T 182 o))) ∧ 0 ≤ zz5_ := hh5_
  refine j_bipush E 29 rfl dX9_wording_27 (by decide) ?_
  refine j_icmp_lt E 32 34 rfl rr5_ (rr (by decide)) dX9_wording_29 (by decide) (fun cc6_ => ?_) (fun cc6_ => ?_)
  · refine j_aload_n E 35 rfl dX9_wording_34 rfl (lv_at hl 1 rfl) ?_
    refine g_192 E hK hw fl_X9_55 t_o 38 rfl dX9_wording_35 ?_
    refine j_aload_n E 39 rfl dX9_wording_38 rfl (lv_at hl 1 rfl) ?_
    refine g_185 E hK hw fl_X9_29 t_o 42 rfl dX9_wording_39 ?_
    have ln7_ := wl_185 hT t_o
    refine j_iload_n E 43 rfl dX9_wording_42 rfl (lv_at hl 0 rfl) ?_
    refine zV_i E (c_X3_read l D cy T (upV (upV (upV v_0 186 (upB (v_0 186) o 0)) 190 (upB (v_0 190) o 0)) 191 (upB (v_0 191) o ((-1)))) κ (T 192 o) (T 185 o) (v_0 186 o)  hO (wt_192 hT t_o) (wt_185 hT t_o) rr1_ (show 0 ≤ (v_0 186 o) ∧ (v_0 186 o) ≤ (T 1 (T 185 o) : Int) ∧ (T 1 (T 185 o) : Int) ≤ 400 from by omega)) mt_X3_read ml_X9_146 hK hZ hAc hw (cw_rc4 hK hw.1 (wt_192 hT t_o)) hA ⟨Nat.le_of_ble_eq_true rfl, Nat.le_of_ble_eq_true rfl⟩ ⟨Nat.le_of_ble_eq_true rfl, Nat.le_of_ble_eq_true rfl⟩ (As := [.ref (T 185 o), .int (J (v_0 186 o))]) (rest := []) rfl rfl hl.1 (Nat.le_of_ble_eq_true rfl) 46 rfl dX9_wording_43 (fun zz8_ v_8 H locs rr8_ hq8_ hw => ?_)
    obtain ⟨y80_8, y81_8, y83_8, y84_8, y86_8, y123_8, y124_8, y300_8, ev8_, hh8_⟩ := hq8_
    rw [ev8_] at hw; clear ev8_
    have hh8_ : (0 ≤ (y86_8 ((T 192 o))) ∧ (y86_8 ((T 192 o))) ≤ 400) ∧ (0 ≤ (y123_8 (T 82 (T 192 o))) ∧ (y123_8 (T 82 (T 192 o))) ≤ 400) ∧ ∃ K_ V_ P_ Q_ : Int → Int, Strm_ (gC_ (v_0 303) (T 185 o)) (v_0 186 o) K_ V_ P_ Q_ ∧ ((zz8_ = 1 ∧ (y80_8 ((T 192 o))) = 0 ∧ (y81_8 ((T 192 o))) = -1 ∧ ∃ jn_ : Int, Ra_ K_ V_ 9 jn_) ∨ (zz8_ = 0 ∧ (1 ≤ (y80_8 ((T 192 o))) ∧ (y80_8 ((T 192 o))) ≤ 3) ∧ ∃ jn_ : Int, (y81_8 ((T 192 o))) = P_ jn_ ∧ Rf_ K_ V_ ((y80_8 ((T 192 o)))) jn_)) := hh8_
    obtain ⟨rc_, cn_, K_, V_, P_, Q_, sm_, rd_⟩ := hh8_
    refine j_if_ne E 49 73 rfl rr8_ dX9_wording_46 (by decide) (fun cc9_ => ?_) (fun cc9_ => ?_)
    · rcases rd_ with ⟨q1_, fk_, fp_, jn_, ra_⟩ | ⟨q1_, q2_⟩
      rotate_left
      · exact absurd q1_ (by omega)
      refine j_aload_n E 74 rfl dX9_wording_73 rfl (lv_at hl 1 rfl) ?_
      refine g_182 E hK hw fl_X9_19 t_o 77 rfl dX9_wording_74 ?_
      have hw0_ := hw
      refine n_obj8 E hK hw hA cl_X9_152 (Nat.le_of_ble_eq_true rfl) (Nat.le_of_ble_eq_true rfl) 80 rfl dX9_wording_77 (fun q10_ T10_ H hge10_ hx10_ ho10_ tq10_ hw => ?_)
      have fq10_ : s.heap.size ≤ q10_ := Nat.le_trans hw0_.2.2.1 hge10_
      have hw : WK D cy T10_ (upV (upV (upV (upV (upV (upV (upV (upV (upV (upV (upV (upV v_0 186 (upB (v_0 186) o 0)) 190 (upB (v_0 190) o 0)) 191 (upB (v_0 191) o ((-1)))) 80 y80_8) 81 y81_8) 83 y83_8) 84 y84_8) 86 y86_8) 123 y123_8) 124 y124_8) 300 y300_8) 160 (upB (v_0 160) q10_ 0)) A0 s.heap H locs := hw
      have hT10_ : WT T10_ := hw.1.2.1
      have hO10_ : ∀ x, ow T10_ x → κ 2 2 ≤ x := fun x h => hAc x (hw.2.1 x h)
      have hoT_ : OW T T10_ s.heap.size := OW.tr hw0_.2.2.1 hoT_ ho10_
      have B180n_ : ∀ j_, j_ ≠ 197 → T10_ j_ (T 180 o) = T j_ (T 180 o) := fun j_ hj_ => (hx10_ (T 180 o) (Nat.ne_of_lt (Nat.lt_of_lt_of_le (cw_lt hw0_.1 ((B180_ 0 (by decide)).trans tl180_) (fun _ _ _ => ⟨_, rfl⟩)) hge10_)) j_).trans (B180_ j_ hj_)
      have A180n_ : ∀ j_, j_ ≠ 197 → T10_ j_ (T 201 (T 180 o)) = T j_ (T 201 (T 180 o)) := fun j_ hj_ => (hx10_ (T 201 (T 180 o)) (Nat.ne_of_lt (Nat.lt_of_lt_of_le (cw_ltq hw0_.1 (by rw [A180_ 0 (by decide)]; exact tx180_)) hge10_)) j_).trans (A180_ j_ hj_)
      have B181n_ : ∀ j_, j_ ≠ 197 → T10_ j_ (T 181 o) = T j_ (T 181 o) := fun j_ hj_ => (hx10_ (T 181 o) (Nat.ne_of_lt (Nat.lt_of_lt_of_le (cw_lt hw0_.1 ((B181_ 0 (by decide)).trans tl181_) (fun _ _ _ => ⟨_, rfl⟩)) hge10_)) j_).trans (B181_ j_ hj_)
      have A181n_ : ∀ j_, j_ ≠ 197 → T10_ j_ (T 201 (T 181 o)) = T j_ (T 201 (T 181 o)) := fun j_ hj_ => (hx10_ (T 201 (T 181 o)) (Nat.ne_of_lt (Nat.lt_of_lt_of_le (cw_ltq hw0_.1 (by rw [A181_ 0 (by decide)]; exact tx181_)) hge10_)) j_).trans (A181_ j_ hj_)
      have B182n_ : ∀ j_, j_ ≠ 197 → T10_ j_ (T 182 o) = T j_ (T 182 o) := fun j_ hj_ => (hx10_ (T 182 o) (Nat.ne_of_lt (Nat.lt_of_lt_of_le (cw_lt hw0_.1 ((B182_ 0 (by decide)).trans tl182_) (fun _ _ _ => ⟨_, rfl⟩)) hge10_)) j_).trans (B182_ j_ hj_)
      have A182n_ : ∀ j_, j_ ≠ 197 → T10_ j_ (T 201 (T 182 o)) = T j_ (T 201 (T 182 o)) := fun j_ hj_ => (hx10_ (T 201 (T 182 o)) (Nat.ne_of_lt (Nat.lt_of_lt_of_le (cw_ltq hw0_.1 (by rw [A182_ 0 (by decide)]; exact tx182_)) hge10_)) j_).trans (A182_ j_ hj_)
      have B183n_ : ∀ j_, j_ ≠ 197 → T10_ j_ (T 183 o) = T j_ (T 183 o) := fun j_ hj_ => (hx10_ (T 183 o) (Nat.ne_of_lt (Nat.lt_of_lt_of_le (cw_lt hw0_.1 ((B183_ 0 (by decide)).trans tl183_) (fun _ _ _ => ⟨_, rfl⟩)) hge10_)) j_).trans (B183_ j_ hj_)
      have A183n_ : ∀ j_, j_ ≠ 197 → T10_ j_ (T 201 (T 183 o)) = T j_ (T 201 (T 183 o)) := fun j_ hj_ => (hx10_ (T 201 (T 183 o)) (Nat.ne_of_lt (Nat.lt_of_lt_of_le (cw_ltq hw0_.1 (by rw [A183_ 0 (by decide)]; exact tx183_)) hge10_)) j_).trans (A183_ j_ hj_)
      have B180_ := B180n_
      have A180_ := A180n_
      have B181_ := B181n_
      have A181_ := A181n_
      have B182_ := B182n_
      have A182_ := A182n_
      have B183_ := B183n_
      have A183_ := A183n_
      have u11_ : T10_ 0 o = 9 := (hx10_ o (Nat.ne_of_lt (Nat.lt_of_lt_of_le (cw_lt hw0_.1 t_o (fun _ _ _ => ⟨_, rfl⟩)) hge10_)) 0).trans t_o
      have u12_ : T10_ 0 (T 192 o) = 4 := (hx10_ (T 192 o) (Nat.ne_of_lt (Nat.lt_of_lt_of_le (cw_lt hw0_.1 (wt_192 hT t_o) (fun _ _ _ => ⟨_, rfl⟩)) hge10_)) 0).trans (wt_192 hT t_o)
      have u13_ : T10_ 0 (T 182 o) = 10 := (hx10_ (T 182 o) (Nat.ne_of_lt (Nat.lt_of_lt_of_le (cw_lt hw0_.1 (wt_182 hT t_o) (fun _ _ _ => ⟨_, rfl⟩)) hge10_)) 0).trans (wt_182 hT t_o)
      have u14_ : T10_ 2 (T 182 o) = 8 := (hx10_ (T 182 o) (Nat.ne_of_lt (Nat.lt_of_lt_of_le (cw_lt hw0_.1 (wt_182 hT t_o) (fun _ _ _ => ⟨_, rfl⟩)) hge10_)) 2).trans (we_182 hT t_o)
      have u15_ : T10_ 180 o = T 180 o := (hx10_ o (Nat.ne_of_lt (Nat.lt_of_lt_of_le (cw_lt hw0_.1 t_o (fun _ _ _ => ⟨_, rfl⟩)) hge10_)) 180).trans rfl
      have u16_ : T10_ 181 o = T 181 o := (hx10_ o (Nat.ne_of_lt (Nat.lt_of_lt_of_le (cw_lt hw0_.1 t_o (fun _ _ _ => ⟨_, rfl⟩)) hge10_)) 181).trans rfl
      have u17_ : T10_ 182 o = T 182 o := (hx10_ o (Nat.ne_of_lt (Nat.lt_of_lt_of_le (cw_lt hw0_.1 t_o (fun _ _ _ => ⟨_, rfl⟩)) hge10_)) 182).trans rfl
      have u18_ : T10_ 183 o = T 183 o := (hx10_ o (Nat.ne_of_lt (Nat.lt_of_lt_of_le (cw_lt hw0_.1 t_o (fun _ _ _ => ⟨_, rfl⟩)) hge10_)) 183).trans rfl
      have u19_ : T10_ 185 o = T 185 o := (hx10_ o (Nat.ne_of_lt (Nat.lt_of_lt_of_le (cw_lt hw0_.1 t_o (fun _ _ _ => ⟨_, rfl⟩)) hge10_)) 185).trans rfl
      have u20_ : T10_ 192 o = T 192 o := (hx10_ o (Nat.ne_of_lt (Nat.lt_of_lt_of_le (cw_lt hw0_.1 t_o (fun _ _ _ => ⟨_, rfl⟩)) hge10_)) 192).trans rfl
      have u21_ : T10_ 82 (T 192 o) = T 82 (T 192 o) := (hx10_ (T 192 o) (Nat.ne_of_lt (Nat.lt_of_lt_of_le (cw_lt hw0_.1 (wt_192 hT t_o) (fun _ _ _ => ⟨_, rfl⟩)) hge10_)) 82).trans rfl
      refine j_dup E 81 rfl dX9_wording_80 rfl ?_
      refine j_aload_n E 82 rfl dX9_wording_81 rfl (lv_at hl 1 rfl) ?_
      refine g_182 E hK hw fl_X9_19 u11_ 85 rfl dX9_wording_82 ?_
      refine kV_i E (c_Jx4a65c_size_8abf5 l D cy T10_ (upV (upV (upV (upV (upV (upV (upV (upV (upV (upV (upV (upV v_0 186 (upB (v_0 186) o 0)) 190 (upB (v_0 190) o 0)) 191 (upB (v_0 191) o ((-1)))) 80 y80_8) 81 y81_8) 83 y83_8) 84 y84_8) 86 y86_8) 123 y123_8) 124 y124_8) 300 y300_8) 160 (upB (v_0 160) q10_ 0)) (T10_ 182 o)  (wt_182 hT10_ u11_)  ) mt_Jx4a65c_size_8abf5 ml_X9_80 hK hw (cw_rc10 hK hw.1 (wt_182 hT10_ u11_)) hA ⟨Nat.le_of_ble_eq_true rfl, Nat.le_of_ble_eq_true rfl⟩ ⟨Nat.le_of_ble_eq_true rfl, Nat.le_of_ble_eq_true rfl⟩ (As := []) (rest := [.ref q10_, .ref q10_, .ref (T 182 o)]) rfl rfl hl.1 (Nat.le_of_ble_eq_true rfl) 88 rfl dX9_wording_85 (fun zz22_ v_22 H locs rr22_ hq22_ hw => ?_)
      obtain ⟨ev22_, hh22_⟩ := hq22_
      rw [ev22_] at hw; clear ev22_
      have hh22_ : zz22_ = ((v_0 202) ((T10_ 182 o))) ∧ 0 ≤ zz22_ := hh22_
      have hs40_ : zz22_ ≤ 40 := by have h_ := hh22_.1; rw [u17_] at h_; omega
      refine j_aload_n E 89 rfl dX9_wording_88 rfl (lv_at hl 1 rfl) ?_
      refine g_192 E hK hw fl_X9_55 u11_ 92 rfl dX9_wording_89 ?_
      have hw0_ := hw
      refine aV_n E (n_X3_copyOfTokens l D cy κ T10_ (upV (upV (upV (upV (upV (upV (upV (upV (upV (upV (upV (upV v_0 186 (upB (v_0 186) o 0)) 190 (upB (v_0 190) o 0)) 191 (upB (v_0 191) o ((-1)))) 80 y80_8) 81 y81_8) 83 y83_8) 84 y84_8) 86 y86_8) 123 y123_8) 124 y124_8) 300 y300_8) 160 (upB (v_0 160) q10_ 0)) (T10_ 192 o) H.size (300 * q10_ + 161) hO10_ (wt_192 hT10_ u11_)  (show (y123_8 (T10_ 82 (T10_ 192 o))) ≤ 400 from by rw [u20_, u21_]; omega)) mt_X3_copyOfTokens ml_X9_154 hK hZ hAc hw (cw_rc4 hK hw.1 (wt_192 hT10_ u11_)) hA ⟨(Nat.le_of_ble_eq_true rfl), (Nat.le_of_ble_eq_true rfl)⟩ ⟨(Nat.le_of_ble_eq_true rfl), (Nat.le_of_ble_eq_true rfl)⟩ (As := []) (rest := [.int (J zz22_), .ref q10_, .ref q10_, .ref (T 182 o)]) rfl rfl hl.1 (Nat.le_of_ble_eq_true rfl) 95 rfl dX9_wording_92 (fun xx23_ T23_ v_23 H locs hge23_ ho23_ hq23_ hw => ?_)
      obtain ⟨y300_23, ev23_, hh23_⟩ := hq23_
      rw [ev23_] at hw; clear ev23_
      obtain ⟨hx23_, tq23_, tl23_, tw23_, hs23_, yc23_, yo23_⟩ := hh23_
      have hT23_ : WT T23_ := hw.1.2.1
      have hO23_ : ∀ x, ow T23_ x → κ 2 2 ≤ x := fun x h => hAc x (hw.2.1 x h)
      have hoT_ : OW T T23_ s.heap.size := OW.tr hw0_.2.2.1 hoT_ ho23_
      have B180n_ : ∀ j_, j_ ≠ 197 → T23_ j_ (T 180 o) = T j_ (T 180 o) := fun j_ hj_ => (hx23_ (T 180 o) (cw_lt hw0_.1 ((B180_ 0 (by decide)).trans tl180_) (fun _ _ _ => ⟨_, rfl⟩)) j_).trans (B180_ j_ hj_)
      have A180n_ : ∀ j_, j_ ≠ 197 → T23_ j_ (T 201 (T 180 o)) = T j_ (T 201 (T 180 o)) := fun j_ hj_ => (hx23_ (T 201 (T 180 o)) (cw_ltq hw0_.1 (by rw [A180_ 0 (by decide)]; exact tx180_)) j_).trans (A180_ j_ hj_)
      have B181n_ : ∀ j_, j_ ≠ 197 → T23_ j_ (T 181 o) = T j_ (T 181 o) := fun j_ hj_ => (hx23_ (T 181 o) (cw_lt hw0_.1 ((B181_ 0 (by decide)).trans tl181_) (fun _ _ _ => ⟨_, rfl⟩)) j_).trans (B181_ j_ hj_)
      have A181n_ : ∀ j_, j_ ≠ 197 → T23_ j_ (T 201 (T 181 o)) = T j_ (T 201 (T 181 o)) := fun j_ hj_ => (hx23_ (T 201 (T 181 o)) (cw_ltq hw0_.1 (by rw [A181_ 0 (by decide)]; exact tx181_)) j_).trans (A181_ j_ hj_)
      have B182n_ : ∀ j_, j_ ≠ 197 → T23_ j_ (T 182 o) = T j_ (T 182 o) := fun j_ hj_ => (hx23_ (T 182 o) (cw_lt hw0_.1 ((B182_ 0 (by decide)).trans tl182_) (fun _ _ _ => ⟨_, rfl⟩)) j_).trans (B182_ j_ hj_)
      have A182n_ : ∀ j_, j_ ≠ 197 → T23_ j_ (T 201 (T 182 o)) = T j_ (T 201 (T 182 o)) := fun j_ hj_ => (hx23_ (T 201 (T 182 o)) (cw_ltq hw0_.1 (by rw [A182_ 0 (by decide)]; exact tx182_)) j_).trans (A182_ j_ hj_)
      have B183n_ : ∀ j_, j_ ≠ 197 → T23_ j_ (T 183 o) = T j_ (T 183 o) := fun j_ hj_ => (hx23_ (T 183 o) (cw_lt hw0_.1 ((B183_ 0 (by decide)).trans tl183_) (fun _ _ _ => ⟨_, rfl⟩)) j_).trans (B183_ j_ hj_)
      have A183n_ : ∀ j_, j_ ≠ 197 → T23_ j_ (T 201 (T 183 o)) = T j_ (T 201 (T 183 o)) := fun j_ hj_ => (hx23_ (T 201 (T 183 o)) (cw_ltq hw0_.1 (by rw [A183_ 0 (by decide)]; exact tx183_)) j_).trans (A183_ j_ hj_)
      have B180_ := B180n_
      have A180_ := A180n_
      have B181_ := B181n_
      have A181_ := A181n_
      have B182_ := B182n_
      have A182_ := A182n_
      have B183_ := B183n_
      have A183_ := A183n_
      have u24_ : T23_ 0 o = 9 := (hx23_ o (cw_lt hw0_.1 u11_ (fun _ _ _ => ⟨_, rfl⟩)) 0).trans u11_
      have u25_ : T23_ 0 (T 192 o) = 4 := (hx23_ (T 192 o) (cw_lt hw0_.1 u12_ (fun _ _ _ => ⟨_, rfl⟩)) 0).trans u12_
      have u26_ : T23_ 0 (T 182 o) = 10 := (hx23_ (T 182 o) (cw_lt hw0_.1 u13_ (fun _ _ _ => ⟨_, rfl⟩)) 0).trans u13_
      have u27_ : T23_ 0 q10_ = 108 := (hx23_ q10_ (cw_lt hw0_.1 tq10_ (fun _ _ _ => ⟨_, rfl⟩)) 0).trans tq10_
      have u28_ : T23_ 2 (T 182 o) = 8 := (hx23_ (T 182 o) (cw_lt hw0_.1 u13_ (fun _ _ _ => ⟨_, rfl⟩)) 2).trans u14_
      have u29_ : T23_ 180 o = T 180 o := (hx23_ o (cw_lt hw0_.1 u11_ (fun _ _ _ => ⟨_, rfl⟩)) 180).trans u15_
      have u30_ : T23_ 181 o = T 181 o := (hx23_ o (cw_lt hw0_.1 u11_ (fun _ _ _ => ⟨_, rfl⟩)) 181).trans u16_
      have u31_ : T23_ 182 o = T 182 o := (hx23_ o (cw_lt hw0_.1 u11_ (fun _ _ _ => ⟨_, rfl⟩)) 182).trans u17_
      have u32_ : T23_ 183 o = T 183 o := (hx23_ o (cw_lt hw0_.1 u11_ (fun _ _ _ => ⟨_, rfl⟩)) 183).trans u18_
      have u33_ : T23_ 185 o = T 185 o := (hx23_ o (cw_lt hw0_.1 u11_ (fun _ _ _ => ⟨_, rfl⟩)) 185).trans u19_
      have u34_ : T23_ 192 o = T 192 o := (hx23_ o (cw_lt hw0_.1 u11_ (fun _ _ _ => ⟨_, rfl⟩)) 192).trans u20_
      have u35_ : T23_ 82 (T 192 o) = T 82 (T 192 o) := (hx23_ (T 192 o) (cw_lt hw0_.1 u12_ (fun _ _ _ => ⟨_, rfl⟩)) 82).trans u21_
      have fx23_ : s.heap.size ≤ xx23_ := Nat.le_trans hw0_.2.2.1 hs23_
      refine j_aload_n E 96 rfl dX9_wording_95 rfl (lv_at hl 1 rfl) ?_
      refine g_192 E hK hw fl_X9_55 u24_ 99 rfl dX9_wording_96 ?_
      have hw0_ := hw
      refine aV_n E (n_X3_copyOfCode l D cy κ T23_ (upV (upV (upV (upV (upV (upV (upV (upV (upV (upV (upV (upV (upV v_0 186 (upB (v_0 186) o 0)) 190 (upB (v_0 190) o 0)) 191 (upB (v_0 191) o ((-1)))) 80 y80_8) 81 y81_8) 83 y83_8) 84 y84_8) 86 y86_8) 123 y123_8) 124 y124_8) 300 y300_8) 160 (upB (v_0 160) q10_ 0)) 300 y300_23) (T23_ 192 o) H.size (300 * q10_ + 162) hO23_ (wt_192 hT23_ u24_)  (show (y86_8 ((T23_ 192 o))) ≤ 400 from by rw [u34_]; omega)) mt_X3_copyOfCode ml_X9_158 hK hZ hAc hw (cw_rc4 hK hw.1 (wt_192 hT23_ u24_)) hA ⟨(Nat.le_of_ble_eq_true rfl), (Nat.le_of_ble_eq_true rfl)⟩ ⟨(Nat.le_of_ble_eq_true rfl), (Nat.le_of_ble_eq_true rfl)⟩ (As := []) (rest := [.ref xx23_, .int (J zz22_), .ref q10_, .ref q10_, .ref (T 182 o)]) rfl rfl hl.1 (Nat.le_of_ble_eq_true rfl) 102 rfl dX9_wording_99 (fun xx36_ T36_ v_36 H locs hge36_ ho36_ hq36_ hw => ?_)
      obtain ⟨y300_36, ev36_, hh36_⟩ := hq36_
      rw [ev36_] at hw; clear ev36_
      obtain ⟨hx36_, tq36_, tl36_, tw36_, hs36_, yc36_, yo36_⟩ := hh36_
      have hT36_ : WT T36_ := hw.1.2.1
      have hO36_ : ∀ x, ow T36_ x → κ 2 2 ≤ x := fun x h => hAc x (hw.2.1 x h)
      have hoT_ : OW T T36_ s.heap.size := OW.tr hw0_.2.2.1 hoT_ ho36_
      have B180n_ : ∀ j_, j_ ≠ 197 → T36_ j_ (T 180 o) = T j_ (T 180 o) := fun j_ hj_ => (hx36_ (T 180 o) (cw_lt hw0_.1 ((B180_ 0 (by decide)).trans tl180_) (fun _ _ _ => ⟨_, rfl⟩)) j_).trans (B180_ j_ hj_)
      have A180n_ : ∀ j_, j_ ≠ 197 → T36_ j_ (T 201 (T 180 o)) = T j_ (T 201 (T 180 o)) := fun j_ hj_ => (hx36_ (T 201 (T 180 o)) (cw_ltq hw0_.1 (by rw [A180_ 0 (by decide)]; exact tx180_)) j_).trans (A180_ j_ hj_)
      have B181n_ : ∀ j_, j_ ≠ 197 → T36_ j_ (T 181 o) = T j_ (T 181 o) := fun j_ hj_ => (hx36_ (T 181 o) (cw_lt hw0_.1 ((B181_ 0 (by decide)).trans tl181_) (fun _ _ _ => ⟨_, rfl⟩)) j_).trans (B181_ j_ hj_)
      have A181n_ : ∀ j_, j_ ≠ 197 → T36_ j_ (T 201 (T 181 o)) = T j_ (T 201 (T 181 o)) := fun j_ hj_ => (hx36_ (T 201 (T 181 o)) (cw_ltq hw0_.1 (by rw [A181_ 0 (by decide)]; exact tx181_)) j_).trans (A181_ j_ hj_)
      have B182n_ : ∀ j_, j_ ≠ 197 → T36_ j_ (T 182 o) = T j_ (T 182 o) := fun j_ hj_ => (hx36_ (T 182 o) (cw_lt hw0_.1 ((B182_ 0 (by decide)).trans tl182_) (fun _ _ _ => ⟨_, rfl⟩)) j_).trans (B182_ j_ hj_)
      have A182n_ : ∀ j_, j_ ≠ 197 → T36_ j_ (T 201 (T 182 o)) = T j_ (T 201 (T 182 o)) := fun j_ hj_ => (hx36_ (T 201 (T 182 o)) (cw_ltq hw0_.1 (by rw [A182_ 0 (by decide)]; exact tx182_)) j_).trans (A182_ j_ hj_)
      have B183n_ : ∀ j_, j_ ≠ 197 → T36_ j_ (T 183 o) = T j_ (T 183 o) := fun j_ hj_ => (hx36_ (T 183 o) (cw_lt hw0_.1 ((B183_ 0 (by decide)).trans tl183_) (fun _ _ _ => ⟨_, rfl⟩)) j_).trans (B183_ j_ hj_)
      have A183n_ : ∀ j_, j_ ≠ 197 → T36_ j_ (T 201 (T 183 o)) = T j_ (T 201 (T 183 o)) := fun j_ hj_ => (hx36_ (T 201 (T 183 o)) (cw_ltq hw0_.1 (by rw [A183_ 0 (by decide)]; exact tx183_)) j_).trans (A183_ j_ hj_)
      have B180_ := B180n_
      have A180_ := A180n_
      have B181_ := B181n_
      have A181_ := A181n_
      have B182_ := B182n_
      have A182_ := A182n_
      have B183_ := B183n_
      have A183_ := A183n_
      have u37_ : T36_ 0 o = 9 := (hx36_ o (cw_lt hw0_.1 u24_ (fun _ _ _ => ⟨_, rfl⟩)) 0).trans u24_
      have u38_ : T36_ 0 (T 192 o) = 4 := (hx36_ (T 192 o) (cw_lt hw0_.1 u25_ (fun _ _ _ => ⟨_, rfl⟩)) 0).trans u25_
      have u39_ : T36_ 0 (T 182 o) = 10 := (hx36_ (T 182 o) (cw_lt hw0_.1 u26_ (fun _ _ _ => ⟨_, rfl⟩)) 0).trans u26_
      have u40_ : T36_ 0 q10_ = 108 := (hx36_ q10_ (cw_lt hw0_.1 u27_ (fun _ _ _ => ⟨_, rfl⟩)) 0).trans u27_
      have u41_ : T36_ 0 xx23_ = 20 := (hx36_ xx23_ (cw_lt hw0_.1 tq23_ (fun _ _ _ => ⟨_, rfl⟩)) 0).trans tq23_
      have u42_ : T36_ 3 xx23_ = 300 * q10_ + 161 := (hx36_ xx23_ (cw_lt hw0_.1 tq23_ (fun _ _ _ => ⟨_, rfl⟩)) 3).trans tw23_
      have u43_ : T36_ 2 (T 182 o) = 8 := (hx36_ (T 182 o) (cw_lt hw0_.1 u26_ (fun _ _ _ => ⟨_, rfl⟩)) 2).trans u28_
      have u44_ : T36_ 180 o = T 180 o := (hx36_ o (cw_lt hw0_.1 u24_ (fun _ _ _ => ⟨_, rfl⟩)) 180).trans u29_
      have u45_ : T36_ 181 o = T 181 o := (hx36_ o (cw_lt hw0_.1 u24_ (fun _ _ _ => ⟨_, rfl⟩)) 181).trans u30_
      have u46_ : T36_ 182 o = T 182 o := (hx36_ o (cw_lt hw0_.1 u24_ (fun _ _ _ => ⟨_, rfl⟩)) 182).trans u31_
      have u47_ : T36_ 183 o = T 183 o := (hx36_ o (cw_lt hw0_.1 u24_ (fun _ _ _ => ⟨_, rfl⟩)) 183).trans u32_
      have u48_ : T36_ 185 o = T 185 o := (hx36_ o (cw_lt hw0_.1 u24_ (fun _ _ _ => ⟨_, rfl⟩)) 185).trans u33_
      have u49_ : T36_ 192 o = T 192 o := (hx36_ o (cw_lt hw0_.1 u24_ (fun _ _ _ => ⟨_, rfl⟩)) 192).trans u34_
      have u50_ : T36_ 82 (T 192 o) = T 82 (T 192 o) := (hx36_ (T 192 o) (cw_lt hw0_.1 u25_ (fun _ _ _ => ⟨_, rfl⟩)) 82).trans u35_
      have fx36_ : s.heap.size ≤ xx36_ := Nat.le_trans hw0_.2.2.1 hs36_
      have hw0_ := hw
      refine aI_v E (n_X7_init l D cy κ T36_ (upV (upV (upV (upV (upV (upV (upV (upV (upV (upV (upV (upV (upV (upV v_0 186 (upB (v_0 186) o 0)) 190 (upB (v_0 190) o 0)) 191 (upB (v_0 191) o ((-1)))) 80 y80_8) 81 y81_8) 83 y83_8) 84 y84_8) 86 y86_8) 123 y123_8) 124 y124_8) 300 y300_8) 160 (upB (v_0 160) q10_ 0)) 300 y300_23) 300 y300_36) q10_ zz22_ xx23_ xx36_ H.size  hO36_ u40_ rr22_ u41_ tq36_ (show zz22_ ≤ 40 from by omega) u42_ tw36_) mi_X7_init ml_X9_161 hK hZ hAc hw hA ⟨(Nat.le_of_ble_eq_true rfl), (Nat.le_of_ble_eq_true rfl)⟩ ⟨(Nat.le_of_ble_eq_true rfl), (Nat.le_of_ble_eq_true rfl)⟩ (As := [.int (J zz22_), .ref xx23_, .ref xx36_]) (rest := [.ref q10_, .ref (T 182 o)]) rfl rfl hl.1 (Nat.le_of_ble_eq_true rfl) 105 rfl dX9_wording_102 (fun T51_ v_51 H locs hge51_ ho51_ hq51_ hw => ?_)
      obtain ⟨y160_51, y300_51, ev51_, hh51_⟩ := hq51_
      rw [ev51_] at hw; clear ev51_
      obtain ⟨hx51_, tq51_⟩ := hh51_
      have hT51_ : WT T51_ := hw.1.2.1
      have hO51_ : ∀ x, ow T51_ x → κ 2 2 ≤ x := fun x h => hAc x (hw.2.1 x h)
      have hoT_ : OW T T51_ s.heap.size := OW.tr hw0_.2.2.1 hoT_ ho51_
      have B180n_ : ∀ j_, j_ ≠ 197 → T51_ j_ (T 180 o) = T j_ (T 180 o) := fun j_ hj_ => (hx51_ (T 180 o) (cw_lt hw0_.1 ((B180_ 0 (by decide)).trans tl180_) (fun _ _ _ => ⟨_, rfl⟩)) (ty_ne ((B180_ 0 (by decide)).trans tl180_) u40_ (by decide)) j_).trans (B180_ j_ hj_)
      have A180n_ : ∀ j_, j_ ≠ 197 → T51_ j_ (T 201 (T 180 o)) = T j_ (T 201 (T 180 o)) := fun j_ hj_ => (hx51_ (T 201 (T 180 o)) (cw_ltq hw0_.1 (by rw [A180_ 0 (by decide)]; exact tx180_)) (ty_neq (by rw [A180_ 0 (by decide)]; exact tx180_) u40_ (by decide) (by decide)) j_).trans (A180_ j_ hj_)
      have B181n_ : ∀ j_, j_ ≠ 197 → T51_ j_ (T 181 o) = T j_ (T 181 o) := fun j_ hj_ => (hx51_ (T 181 o) (cw_lt hw0_.1 ((B181_ 0 (by decide)).trans tl181_) (fun _ _ _ => ⟨_, rfl⟩)) (ty_ne ((B181_ 0 (by decide)).trans tl181_) u40_ (by decide)) j_).trans (B181_ j_ hj_)
      have A181n_ : ∀ j_, j_ ≠ 197 → T51_ j_ (T 201 (T 181 o)) = T j_ (T 201 (T 181 o)) := fun j_ hj_ => (hx51_ (T 201 (T 181 o)) (cw_ltq hw0_.1 (by rw [A181_ 0 (by decide)]; exact tx181_)) (ty_neq (by rw [A181_ 0 (by decide)]; exact tx181_) u40_ (by decide) (by decide)) j_).trans (A181_ j_ hj_)
      have B182n_ : ∀ j_, j_ ≠ 197 → T51_ j_ (T 182 o) = T j_ (T 182 o) := fun j_ hj_ => (hx51_ (T 182 o) (cw_lt hw0_.1 ((B182_ 0 (by decide)).trans tl182_) (fun _ _ _ => ⟨_, rfl⟩)) (ty_ne ((B182_ 0 (by decide)).trans tl182_) u40_ (by decide)) j_).trans (B182_ j_ hj_)
      have A182n_ : ∀ j_, j_ ≠ 197 → T51_ j_ (T 201 (T 182 o)) = T j_ (T 201 (T 182 o)) := fun j_ hj_ => (hx51_ (T 201 (T 182 o)) (cw_ltq hw0_.1 (by rw [A182_ 0 (by decide)]; exact tx182_)) (ty_neq (by rw [A182_ 0 (by decide)]; exact tx182_) u40_ (by decide) (by decide)) j_).trans (A182_ j_ hj_)
      have B183n_ : ∀ j_, j_ ≠ 197 → T51_ j_ (T 183 o) = T j_ (T 183 o) := fun j_ hj_ => (hx51_ (T 183 o) (cw_lt hw0_.1 ((B183_ 0 (by decide)).trans tl183_) (fun _ _ _ => ⟨_, rfl⟩)) (ty_ne ((B183_ 0 (by decide)).trans tl183_) u40_ (by decide)) j_).trans (B183_ j_ hj_)
      have A183n_ : ∀ j_, j_ ≠ 197 → T51_ j_ (T 201 (T 183 o)) = T j_ (T 201 (T 183 o)) := fun j_ hj_ => (hx51_ (T 201 (T 183 o)) (cw_ltq hw0_.1 (by rw [A183_ 0 (by decide)]; exact tx183_)) (ty_neq (by rw [A183_ 0 (by decide)]; exact tx183_) u40_ (by decide) (by decide)) j_).trans (A183_ j_ hj_)
      have B180_ := B180n_
      have A180_ := A180n_
      have B181_ := B181n_
      have A181_ := A181n_
      have B182_ := B182n_
      have A182_ := A182n_
      have B183_ := B183n_
      have A183_ := A183n_
      have u52_ : T51_ 0 o = 9 := (hx51_ o (cw_lt hw0_.1 u37_ (fun _ _ _ => ⟨_, rfl⟩)) (ty_ne u37_ u40_ (by decide)) 0).trans u37_
      have u53_ : T51_ 0 (T 192 o) = 4 := (hx51_ (T 192 o) (cw_lt hw0_.1 u38_ (fun _ _ _ => ⟨_, rfl⟩)) (ty_ne u38_ u40_ (by decide)) 0).trans u38_
      have u54_ : T51_ 0 (T 182 o) = 10 := (hx51_ (T 182 o) (cw_lt hw0_.1 u39_ (fun _ _ _ => ⟨_, rfl⟩)) (ty_ne u39_ u40_ (by decide)) 0).trans u39_
      have u55_ : T51_ 2 (T 182 o) = 8 := (hx51_ (T 182 o) (cw_lt hw0_.1 u39_ (fun _ _ _ => ⟨_, rfl⟩)) (ty_ne u39_ u40_ (by decide)) 2).trans u43_
      have u56_ : T51_ 180 o = T 180 o := (hx51_ o (cw_lt hw0_.1 u37_ (fun _ _ _ => ⟨_, rfl⟩)) (ty_ne u37_ u40_ (by decide)) 180).trans u44_
      have u57_ : T51_ 181 o = T 181 o := (hx51_ o (cw_lt hw0_.1 u37_ (fun _ _ _ => ⟨_, rfl⟩)) (ty_ne u37_ u40_ (by decide)) 181).trans u45_
      have u58_ : T51_ 182 o = T 182 o := (hx51_ o (cw_lt hw0_.1 u37_ (fun _ _ _ => ⟨_, rfl⟩)) (ty_ne u37_ u40_ (by decide)) 182).trans u46_
      have u59_ : T51_ 183 o = T 183 o := (hx51_ o (cw_lt hw0_.1 u37_ (fun _ _ _ => ⟨_, rfl⟩)) (ty_ne u37_ u40_ (by decide)) 183).trans u47_
      have u60_ : T51_ 185 o = T 185 o := (hx51_ o (cw_lt hw0_.1 u37_ (fun _ _ _ => ⟨_, rfl⟩)) (ty_ne u37_ u40_ (by decide)) 185).trans u48_
      have u61_ : T51_ 192 o = T 192 o := (hx51_ o (cw_lt hw0_.1 u37_ (fun _ _ _ => ⟨_, rfl⟩)) (ty_ne u37_ u40_ (by decide)) 192).trans u49_
      have u62_ : T51_ 82 (T 192 o) = T 82 (T 192 o) := (hx51_ (T 192 o) (cw_lt hw0_.1 u38_ (fun _ _ _ => ⟨_, rfl⟩)) (ty_ne u38_ u40_ (by decide)) 82).trans u50_
      have hw0_ := hw
      refine aV_i E (n_Jx4a65c_add_9ea2d_n2 l D cy κ T51_ (upV (upV (upV (upV (upV (upV (upV (upV (upV (upV (upV (upV (upV (upV (upV (upV v_0 186 (upB (v_0 186) o 0)) 190 (upB (v_0 190) o 0)) 191 (upB (v_0 191) o ((-1)))) 80 y80_8) 81 y81_8) 83 y83_8) 84 y84_8) 86 y86_8) 123 y123_8) 124 y124_8) 300 y300_8) 160 (upB (v_0 160) q10_ 0)) 300 y300_23) 300 y300_36) 160 y160_51) 300 y300_51) (T 182 o) q10_ H.size  hO51_ u54_  (tq51_.trans u55_.symm) (fun x_ h_ => hp0 x_ ((hoT_ x_).2 h_)) (show ((v_0 202) ((T 182 o))) ≤ 200 from by omega)) mt_Jx4a65c_add_9ea2d ml_X9_89 hK hZ hAc hw (cw_rc10 hK hw.1 u54_) hA ⟨(Nat.le_of_ble_eq_true rfl), (Nat.le_of_ble_eq_true rfl)⟩ ⟨(Nat.le_of_ble_eq_true rfl), (Nat.le_of_ble_eq_true rfl)⟩ (As := [.ref q10_]) (rest := []) rfl rfl hl.1 (Nat.le_of_ble_eq_true rfl) 108 rfl dX9_wording_105 (fun zz63_ T63_ v_63 H locs rr63_ hge63_ ho63_ hq63_ hw => ?_)
      obtain ⟨y200_63, y202_63, ev63_, hh63_⟩ := hq63_
      rw [ev63_] at hw; clear ev63_
      obtain ⟨hy63_, hx63_, hz63_, hl63_, hel63_, hnw63_⟩ := hh63_
      have hy63_ : y202_63 = upB (v_0 202) (T 182 o) ((v_0 202) (T 182 o) + 1) := hy63_
      have hT63_ : WT T63_ := hw.1.2.1
      have hO63_ : ∀ x, ow T63_ x → κ 2 2 ≤ x := fun x h => hAc x (hw.2.1 x h)
      have hoT_ : OW T T63_ s.heap.size := OW.tr hw0_.2.2.1 hoT_ ho63_
      have B180n_ : ∀ j_, j_ ≠ 197 → T63_ j_ (T 180 o) = T j_ (T 180 o) := fun j_ hj_ => (hx63_ (T 180 o) (cw_lt hw0_.1 ((B180_ 0 (by decide)).trans tl180_) (fun _ _ _ => ⟨_, rfl⟩)) ((ls_ne hT t_o).2.1) (fun h_ => absurd (((B180_ 0 (by decide)).trans tl180_).symm.trans h_) (by decide)) j_).trans (B180_ j_ hj_)
      have A180n_ : ∀ j_, j_ ≠ 197 → T63_ j_ (T 201 (T 180 o)) = T j_ (T 201 (T 180 o)) := fun j_ hj_ => (hx63_ (T 201 (T 180 o)) (cw_ltq hw0_.1 (by rw [A180_ 0 (by decide)]; exact tx180_)) (ty_neq (by rw [A180_ 0 (by decide)]; exact tx180_) u54_ (by decide) (by decide)) (fun h_ => by rw [B182_ 201 (by decide)]; exact own_ne hT tl180_ tl182_ ((ls_ne hT t_o).2.1) ((A180_ 0 (by decide)).symm.trans h_)) j_).trans (A180_ j_ hj_)
      have B181n_ : ∀ j_, j_ ≠ 197 → T63_ j_ (T 181 o) = T j_ (T 181 o) := fun j_ hj_ => (hx63_ (T 181 o) (cw_lt hw0_.1 ((B181_ 0 (by decide)).trans tl181_) (fun _ _ _ => ⟨_, rfl⟩)) ((ls_ne hT t_o).2.2.2.2.1) (fun h_ => absurd (((B181_ 0 (by decide)).trans tl181_).symm.trans h_) (by decide)) j_).trans (B181_ j_ hj_)
      have A181n_ : ∀ j_, j_ ≠ 197 → T63_ j_ (T 201 (T 181 o)) = T j_ (T 201 (T 181 o)) := fun j_ hj_ => (hx63_ (T 201 (T 181 o)) (cw_ltq hw0_.1 (by rw [A181_ 0 (by decide)]; exact tx181_)) (ty_neq (by rw [A181_ 0 (by decide)]; exact tx181_) u54_ (by decide) (by decide)) (fun h_ => by rw [B182_ 201 (by decide)]; exact own_ne hT tl181_ tl182_ ((ls_ne hT t_o).2.2.2.2.1) ((A181_ 0 (by decide)).symm.trans h_)) j_).trans (A181_ j_ hj_)
      have B183n_ : ∀ j_, j_ ≠ 197 → T63_ j_ (T 183 o) = T j_ (T 183 o) := fun j_ hj_ => (hx63_ (T 183 o) (cw_lt hw0_.1 ((B183_ 0 (by decide)).trans tl183_) (fun _ _ _ => ⟨_, rfl⟩)) ((ls_ne hT t_o).2.2.2.2.2.2.2.2.2.2.2) (fun h_ => absurd (((B183_ 0 (by decide)).trans tl183_).symm.trans h_) (by decide)) j_).trans (B183_ j_ hj_)
      have A183n_ : ∀ j_, j_ ≠ 197 → T63_ j_ (T 201 (T 183 o)) = T j_ (T 201 (T 183 o)) := fun j_ hj_ => (hx63_ (T 201 (T 183 o)) (cw_ltq hw0_.1 (by rw [A183_ 0 (by decide)]; exact tx183_)) (ty_neq (by rw [A183_ 0 (by decide)]; exact tx183_) u54_ (by decide) (by decide)) (fun h_ => by rw [B182_ 201 (by decide)]; exact own_ne hT tl183_ tl182_ ((ls_ne hT t_o).2.2.2.2.2.2.2.2.2.2.2) ((A183_ 0 (by decide)).symm.trans h_)) j_).trans (A183_ j_ hj_)
      have B180_ := B180n_
      have A180_ := A180n_
      have B181_ := B181n_
      have A181_ := A181n_
      have B183_ := B183n_
      have A183_ := A183n_
      have u64_ : T63_ 0 o = 9 := (hx63_ o (cw_lt hw0_.1 u52_ (fun _ _ _ => ⟨_, rfl⟩)) (ty_ne u52_ u54_ (by decide)) (fun h_ => absurd (u52_.symm.trans h_) (by decide)) 0).trans u52_
      have u65_ : T63_ 0 (T 192 o) = 4 := (hx63_ (T 192 o) (cw_lt hw0_.1 u53_ (fun _ _ _ => ⟨_, rfl⟩)) (ty_ne u53_ u54_ (by decide)) (fun h_ => absurd (u53_.symm.trans h_) (by decide)) 0).trans u53_
      have u66_ : T63_ 180 o = T 180 o := (hx63_ o (cw_lt hw0_.1 u52_ (fun _ _ _ => ⟨_, rfl⟩)) (ty_ne u52_ u54_ (by decide)) (fun h_ => absurd (u52_.symm.trans h_) (by decide)) 180).trans u56_
      have u67_ : T63_ 181 o = T 181 o := (hx63_ o (cw_lt hw0_.1 u52_ (fun _ _ _ => ⟨_, rfl⟩)) (ty_ne u52_ u54_ (by decide)) (fun h_ => absurd (u52_.symm.trans h_) (by decide)) 181).trans u57_
      have u68_ : T63_ 182 o = T 182 o := (hx63_ o (cw_lt hw0_.1 u52_ (fun _ _ _ => ⟨_, rfl⟩)) (ty_ne u52_ u54_ (by decide)) (fun h_ => absurd (u52_.symm.trans h_) (by decide)) 182).trans u58_
      have u69_ : T63_ 183 o = T 183 o := (hx63_ o (cw_lt hw0_.1 u52_ (fun _ _ _ => ⟨_, rfl⟩)) (ty_ne u52_ u54_ (by decide)) (fun h_ => absurd (u52_.symm.trans h_) (by decide)) 183).trans u59_
      have u70_ : T63_ 185 o = T 185 o := (hx63_ o (cw_lt hw0_.1 u52_ (fun _ _ _ => ⟨_, rfl⟩)) (ty_ne u52_ u54_ (by decide)) (fun h_ => absurd (u52_.symm.trans h_) (by decide)) 185).trans u60_
      have u71_ : T63_ 192 o = T 192 o := (hx63_ o (cw_lt hw0_.1 u52_ (fun _ _ _ => ⟨_, rfl⟩)) (ty_ne u52_ u54_ (by decide)) (fun h_ => absurd (u52_.symm.trans h_) (by decide)) 192).trans u61_
      have u72_ : T63_ 82 (T 192 o) = T 82 (T 192 o) := (hx63_ (T 192 o) (cw_lt hw0_.1 u53_ (fun _ _ _ => ⟨_, rfl⟩)) (ty_ne u53_ u54_ (by decide)) (fun h_ => absurd (u53_.symm.trans h_) (by decide)) 82).trans u62_
      refine j_pop E 109 rfl dX9_wording_108 rfl ?_
      refine j_aload_n E 110 rfl dX9_wording_109 rfl (lv_at hl 1 rfl) ?_
      refine g_182 E hK hw fl_X9_19 u64_ 113 rfl dX9_wording_110 ?_
      refine kV_i E (c_Jx4a65c_size_8abf5 l D cy T63_ (upV (upV (upV (upV (upV (upV (upV (upV (upV (upV (upV (upV (upV (upV (upV (upV (upV (upV v_0 186 (upB (v_0 186) o 0)) 190 (upB (v_0 190) o 0)) 191 (upB (v_0 191) o ((-1)))) 80 y80_8) 81 y81_8) 83 y83_8) 84 y84_8) 86 y86_8) 123 y123_8) 124 y124_8) 300 y300_8) 160 (upB (v_0 160) q10_ 0)) 300 y300_23) 300 y300_36) 160 y160_51) 300 y300_51) 200 y200_63) 202 y202_63) (T63_ 182 o)  (wt_182 hT63_ u64_)  ) mt_Jx4a65c_size_8abf5 ml_X9_80 hK hw (cw_rc10 hK hw.1 (wt_182 hT63_ u64_)) hA ⟨Nat.le_of_ble_eq_true rfl, Nat.le_of_ble_eq_true rfl⟩ ⟨Nat.le_of_ble_eq_true rfl, Nat.le_of_ble_eq_true rfl⟩ (As := []) (rest := []) rfl rfl hl.1 (Nat.le_of_ble_eq_true rfl) 116 rfl dX9_wording_113 (fun zz73_ v_73 H locs rr73_ hq73_ hw => ?_)
      obtain ⟨ev73_, hh73_⟩ := hq73_
      rw [ev73_] at hw; clear ev73_
      have hh73_ : zz73_ = (y202_63 ((T63_ 182 o))) ∧ 0 ≤ zz73_ := hh73_
      have hs2_ := hh73_.1
      rw [u68_, hy63_, upB_same] at hs2_
      refine j_iconst E 117 rfl dX9_wording_116 ?_
      refine j_isub E 118 rfl dX9_wording_117 ?_
      exact hret 118 (zz73_ - 1) T63_ _ _ _ ls _ _ hw hoT_ (rr (by omega)) (⟨u64_, ⟨u66_, u67_, u68_, u69_, u70_⟩, upB_same _ _ _, rfl, rfl, (by show y202_63 (T 180 o) = v_0 202 (T 180 o); rw [hy63_]; exact upB_ne ((ls_ne hT t_o).2.1)), (by show y202_63 (T 181 o) = v_0 202 (T 181 o); rw [hy63_]; exact upB_ne ((ls_ne hT t_o).2.2.2.2.1)), (by show y202_63 (T 183 o) = v_0 202 (T 183 o); rw [hy63_]; exact upB_ne ((ls_ne hT t_o).2.2.2.2.2.2.2.2.2.2.2)), (fun i_ => by rw [u66_, B180_ 201 (by decide), A180_ (1000 + i_) (by omega)]), rfl, rfl, rfl, rfl, rfl, show Wc_ _ _ _ _ _ _ _ from Or.inr ⟨by omega, K_, V_, P_, Q_, sm_, Or.inl ⟨by omega, (by show y202_63 (T 182 o) = v_0 202 (T 182 o) + 1; rw [hy63_]; exact upB_same _ _ _), upB_same _ _ _, upB_same _ _ _, jn_, ra_⟩⟩⟩) (Nat.le_of_ble_eq_true rfl) (Nat.le_of_ble_eq_true rfl) dX9_wording_118
    · rcases rd_ with ⟨q1_, q2_⟩ | ⟨q1_, fk_, jn_, pl_, rf_⟩
      · exact absurd q1_ (by omega)
      refine j_aload_n E 50 rfl dX9_wording_49 rfl (lv_at hl 1 rfl) ?_
      refine j_aload_n E 51 rfl dX9_wording_50 rfl (lv_at hl 1 rfl) ?_
      refine g_192 E hK hw fl_X9_55 t_o 54 rfl dX9_wording_51 ?_
      refine g_80 E hK hw fl_X9_150 (wt_192 hT t_o) (y80_8 (T 192 o)) rfl 57 rfl dX9_wording_54 (fun rr74_ => ?_)
      refine p_190 E hK hw fl_X9_46 t_o rr74_ 60 rfl dX9_wording_57 (fun H locs hw => ?_)
      have hw : WK D cy T (upV (upV (upV (upV (upV (upV (upV (upV (upV (upV (upV (upV v_0 186 (upB (v_0 186) o 0)) 190 (upB (v_0 190) o 0)) 191 (upB (v_0 191) o ((-1)))) 80 y80_8) 81 y81_8) 83 y83_8) 84 y84_8) 86 y86_8) 123 y123_8) 124 y124_8) 300 y300_8) 190 (upB (upB (v_0 190) o 0) o (y80_8 (T 192 o)))) A0 s.heap H locs := hw
      refine j_aload_n E 61 rfl dX9_wording_60 rfl (lv_at hl 1 rfl) ?_
      refine j_aload_n E 62 rfl dX9_wording_61 rfl (lv_at hl 1 rfl) ?_
      refine g_192 E hK hw fl_X9_55 t_o 65 rfl dX9_wording_62 ?_
      refine g_81 E hK hw fl_X9_151 (wt_192 hT t_o) (y81_8 (T 192 o)) rfl 68 rfl dX9_wording_65 (fun rr76_ => ?_)
      refine p_191 E hK hw fl_X9_49 t_o rr76_ 71 rfl dX9_wording_68 (fun H locs hw => ?_)
      have hw : WK D cy T (upV (upV (upV (upV (upV (upV (upV (upV (upV (upV (upV (upV (upV v_0 186 (upB (v_0 186) o 0)) 190 (upB (v_0 190) o 0)) 191 (upB (v_0 191) o ((-1)))) 80 y80_8) 81 y81_8) 83 y83_8) 84 y84_8) 86 y86_8) 123 y123_8) 124 y124_8) 300 y300_8) 190 (upB (upB (v_0 190) o 0) o (y80_8 (T 192 o)))) 191 (upB (upB (v_0 191) o ((-1))) o (y81_8 (T 192 o)))) A0 s.heap H locs := hw
      refine j_iconst E 72 rfl dX9_wording_71 ?_
      exact hret 72 ((-1)) T _ _ _ ls _ _ hw hoT_ (rr (by decide)) (⟨t_o, ⟨rfl, rfl, rfl, rfl, rfl⟩, upB_same _ _ _, rfl, rfl, rfl, rfl, rfl, (fun _ => rfl), rfl, rfl, rfl, rfl, rfl, show Wc_ _ _ _ _ _ _ _ from Or.inr ⟨by omega, K_, V_, P_, Q_, sm_, Or.inr ⟨rfl, rfl, le13_ (upB_same _ _ _) fk_, jn_, (upB_same _ _ _).trans pl_, rf_e (upB_same _ _ _) rf_⟩⟩⟩) (Nat.le_of_ble_eq_true rfl) (Nat.le_of_ble_eq_true rfl) dX9_wording_72
  · refine j_iconst E 33 rfl dX9_wording_32 ?_
    exact hret 33 ((-1)) T _ _ _ ls _ _ hw hoT_ (rr (by decide)) (⟨t_o, ⟨rfl, rfl, rfl, rfl, rfl⟩, upB_same _ _ _, rfl, rfl, rfl, rfl, rfl, (fun _ => rfl), rfl, rfl, rfl, rfl, rfl, show Wc_ _ _ _ _ _ _ _ from Or.inl ⟨by omega, rfl, upB_same _ _ _, upB_same _ _ _, rfl⟩⟩) (Nat.le_of_ble_eq_true rfl) (Nat.le_of_ble_eq_true rfl) dX9_wording_33
