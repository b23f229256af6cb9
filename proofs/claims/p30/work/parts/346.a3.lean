set_option maxHeartbeats 4000000 in
set_option maxRecDepth 100000 in
theorem n_X9_init (l : Launch) (D : va_G) (cy : Nat → ClassId) (κ T : Nat → Nat → Nat) (v_0 : Nat → Nat → Int) (o : Nat) (sz : Nat) (hO : ∀ x, ow T x → κ 2 2 ≤ x) (t_o : T 0 o = 109) (hp0 : T 0 (κ 2 0) = 26) : KA l D cy κ T yX9_init cX9_init 1 none 4 30 4000 [.ref o] v_0 sz (AV (fun (T_2 : Nat → Nat → Nat) (v_2 : Nat → Nat → Int) => ((∀ b, b < sz → b ≠ o → ∀ k, T_2 k b = T k b) ∧ T_2 0 o = 9 ∧ v_2 186 o = 0 ∧ v_2 187 o = 0 ∧ v_2 190 o = 0 ∧ v_2 191 o = -1 ∧ v_2 202 (T_2 180 o) = 0 ∧ v_2 202 (T_2 181 o) = 0 ∧ v_2 202 (T_2 182 o) = 0 ∧ v_2 202 (T_2 183 o) = 0) ∧ KdA_ T sz [] (v_0 300) (v_2 300))) := by
  refine KA.ofv (by decide) (Nat.le_of_ble_eq_true rfl) hO ?_
  intro p e s m below meth c ls ar QW A0 H locs E hK hZ hA hAc hsz hszH_ hnm hw hlo_ hl hret
  have hl : lv_has ls 1 [(0, .ref o)] := hl
  have hT : WT T := hw.1.2.1
  have hoT_ : OW T T s.heap.size := OW.rf T _
  have hC_ : ∀ b, b < sz → T 0 b ≠ 10 → T 0 b ≠ 24 → T 0 b ≠ 26 → b ≠ o → ∀ j, j ≠ 197 → T j b = T j b := fun _ _ _ _ _ _ _ _ => rfl
  have hR_ : ∀ b, b < sz → b ≠ o → ∀ k, T k b = T k b := fun b _ _ k => rfl
  refine j_aload_n E 1 rfl dX9_init_0 rfl (lv_at hl 0 rfl) ?_
  refine W.objInit E.1 E.2.1 E.2.2.2.1 (E.2.2.2.2.1 _ mo_X9_3) (E.2.2.2.2.1 _ im_ob) (E.2.2.2.2.1 _ cd_ob) rfl (by rw [E.2.2.1]; exact hl.1) rfl dX9_init_1 (Nat.le_of_ble_eq_true rfl) (Nat.le_of_ble_eq_true rfl) ?_
  show W p l e (rmd 4 30 4000) s m ar below meth c H locs _ _ QW (F0 m 4 ls [])
  refine j_aload_n E 5 rfl dX9_init_4 rfl (lv_at hl 0 rfl) ?_
  have hw0_ := hw
  refine n_obj10 E hK hw hA cl_X9_9 (Nat.le_of_ble_eq_true rfl) (Nat.le_of_ble_eq_true rfl) 8 rfl dX9_init_5 (fun q1_ T1_ H hge1_ hx1_ ho1_ tq1_ hw => ?_)
  have fq1_ : s.heap.size ≤ q1_ := Nat.le_trans hw0_.2.2.1 hge1_
  have hw : WK D cy T1_ (upV (upV v_0 200 (upB (v_0 200) q1_ 0)) 202 (upB (v_0 202) q1_ 0)) A0 s.heap H locs := hw
  have hT1_ : WT T1_ := hw.1.2.1
  have hO1_ : ∀ x, ow T1_ x → κ 2 2 ≤ x := fun x h => hAc x (hw.2.1 x h)
  have hoT_ : OW T T1_ s.heap.size := OW.tr hw0_.2.2.1 hoT_ ho1_
  have hC_ : ∀ b, b < sz → T 0 b ≠ 10 → T 0 b ≠ 24 → T 0 b ≠ 26 → b ≠ o → ∀ j, j ≠ 197 → T1_ j b = T j b := fun b_ h1_ h2_ h3_ h4_ h5_ j_ h6_ => (hx1_ b_ (by have := hw0_.2.2.1; have := hge1_; omega) j_).trans (hC_ b_ h1_ h2_ h3_ h4_ h5_ j_ h6_)
  have hR_ : ∀ b, b < sz → b ≠ o → ∀ k, T1_ k b = T k b := fun b_ h1_ h2_ k_ => (hx1_ b_ (by have := hw0_.2.2.1; have := hge1_; omega) k_).trans (hR_ b_ h1_ h2_ k_)
  have u2_ : T1_ 0 o = 109 := (hx1_ o (Nat.ne_of_lt (Nat.lt_of_lt_of_le (cw_lt hw0_.1 t_o (fun _ _ _ => ⟨_, rfl⟩)) hge1_)) 0).trans t_o
  have u3_ : T1_ 0 (κ 2 0) = 26 := (hx1_ (κ 2 0) (Nat.ne_of_lt (Nat.lt_of_lt_of_le (cw_lt hw0_.1 hp0 (fun _ _ _ => ⟨_, rfl⟩)) hge1_)) 0).trans hp0
  refine j_dup E 9 rfl dX9_init_8 rfl ?_
  have hw0_ := hw
  refine aI_v E (n_Jx4a65c_init_da8c8 l D cy κ T1_ (upV (upV v_0 200 (upB (v_0 200) q1_ 0)) 202 (upB (v_0 202) q1_ 0)) q1_ H.size 2 hO1_ tq1_  (Or.inr (Or.inl rfl)) u3_ (by first | exact upB_same _ _ _ | simp [upV, upB])) mi_Jx4a65c_init_da8c8 ml_X9_11 hK hZ hAc hw hA ⟨(Nat.le_of_ble_eq_true rfl), (Nat.le_of_ble_eq_true rfl)⟩ ⟨(Nat.le_of_ble_eq_true rfl), (Nat.le_of_ble_eq_true rfl)⟩ (As := []) (rest := [.ref q1_, .ref o]) rfl rfl hl.1 (Nat.le_of_ble_eq_true rfl) 12 rfl dX9_init_9 (fun T4_ v_4 H locs hge4_ ho4_ hq4_ hw => ?_)
  obtain ⟨y200_4, ev4_, hh4_⟩ := hq4_
  rw [ev4_] at hw; clear ev4_
  obtain ⟨hx4_, tq4_, te4_⟩ := hh4_
  have hT4_ : WT T4_ := hw.1.2.1
  have hO4_ : ∀ x, ow T4_ x → κ 2 2 ≤ x := fun x h => hAc x (hw.2.1 x h)
  have hoT_ : OW T T4_ s.heap.size := OW.tr hw0_.2.2.1 hoT_ ho4_
  have hC_ : ∀ b, b < sz → T 0 b ≠ 10 → T 0 b ≠ 24 → T 0 b ≠ 26 → b ≠ o → ∀ j, j ≠ 197 → T4_ j b = T j b := fun b_ h1_ h2_ h3_ h4_ h5_ j_ h6_ => (hx4_ b_ (by have := hw0_.2.2.1; omega) (by have := fq1_; omega) j_).trans (hC_ b_ h1_ h2_ h3_ h4_ h5_ j_ h6_)
  have hR_ : ∀ b, b < sz → b ≠ o → ∀ k, T4_ k b = T k b := fun b_ h1_ h2_ k_ => (hx4_ b_ (by have := hw0_.2.2.1; omega) (by have := fq1_; omega) k_).trans (hR_ b_ h1_ h2_ k_)
  have u5_ : T4_ 0 o = 109 := (hx4_ o (cw_lt hw0_.1 u2_ (fun _ _ _ => ⟨_, rfl⟩)) (ty_ne u2_ tq1_ (by decide)) 0).trans u2_
  have u6_ : T4_ 0 (κ 2 0) = 26 := (hx4_ (κ 2 0) (cw_lt hw0_.1 u3_ (fun _ _ _ => ⟨_, rfl⟩)) (ty_ne u3_ tq1_ (by decide)) 0).trans u3_
  have hw0_ := hw
  refine rr_180 E hK hw hnm fl_X9_12 u5_ 15 rfl dX9_init_12 (fun T7_ H locs hx7_ hj7_ hk7_ ho7_ hw => ?_)
  have hT7_ : WT T7_ := hw.1.2.1
  have hO7_ : ∀ x, ow T7_ x → κ 2 2 ≤ x := fun x h => hAc x (hw.2.1 x h)
  have hoT_ : OW T T7_ s.heap.size := OW.tr0 hoT_ ho7_
  have hC_ : ∀ b, b < sz → T 0 b ≠ 10 → T 0 b ≠ 24 → T 0 b ≠ 26 → b ≠ o → ∀ j, j ≠ 197 → T7_ j b = T j b := fun b_ h1_ h2_ h3_ h4_ h5_ j_ h6_ => (hx7_ b_ h5_ j_).trans (hC_ b_ h1_ h2_ h3_ h4_ h5_ j_ h6_)
  have hR_ : ∀ b, b < sz → b ≠ o → ∀ k, T7_ k b = T k b := fun b_ h1_ h2_ k_ => (hx7_ b_ h2_ k_).trans (hR_ b_ h1_ h2_ k_)
  have u8_ : T7_ 0 o = 109 := (hj7_ 0 (by decide)).trans u5_
  have u9_ : T7_ 0 (κ 2 0) = 26 := (hx7_ (κ 2 0) (ty_ne u6_ u5_ (by decide)) 0).trans u6_
  have u10_ : T7_ 0 q1_ = 10 := (hx7_ q1_ (ty_ne tq4_ u5_ (by decide)) 0).trans tq4_
  have u11_ : T7_ 2 q1_ = 2 := (hx7_ q1_ (ty_ne tq4_ u5_ (by decide)) 2).trans te4_
  refine j_aload_n E 16 rfl dX9_init_15 rfl (lv_at hl 0 rfl) ?_
  have hw0_ := hw
  refine n_obj10 E hK hw hA cl_X9_9 (Nat.le_of_ble_eq_true rfl) (Nat.le_of_ble_eq_true rfl) 19 rfl dX9_init_16 (fun q12_ T12_ H hge12_ hx12_ ho12_ tq12_ hw => ?_)
  have fq12_ : s.heap.size ≤ q12_ := Nat.le_trans hw0_.2.2.1 hge12_
  have hw : WK D cy T12_ (upV (upV (upV (upV (upV v_0 200 (upB (v_0 200) q1_ 0)) 202 (upB (v_0 202) q1_ 0)) 200 y200_4) 200 (upB y200_4 q12_ 0)) 202 (upB (upB (v_0 202) q1_ 0) q12_ 0)) A0 s.heap H locs := hw
  have hT12_ : WT T12_ := hw.1.2.1
  have hO12_ : ∀ x, ow T12_ x → κ 2 2 ≤ x := fun x h => hAc x (hw.2.1 x h)
  have hoT_ : OW T T12_ s.heap.size := OW.tr hw0_.2.2.1 hoT_ ho12_
  have hC_ : ∀ b, b < sz → T 0 b ≠ 10 → T 0 b ≠ 24 → T 0 b ≠ 26 → b ≠ o → ∀ j, j ≠ 197 → T12_ j b = T j b := fun b_ h1_ h2_ h3_ h4_ h5_ j_ h6_ => (hx12_ b_ (by have := hw0_.2.2.1; have := hge12_; omega) j_).trans (hC_ b_ h1_ h2_ h3_ h4_ h5_ j_ h6_)
  have hR_ : ∀ b, b < sz → b ≠ o → ∀ k, T12_ k b = T k b := fun b_ h1_ h2_ k_ => (hx12_ b_ (by have := hw0_.2.2.1; have := hge12_; omega) k_).trans (hR_ b_ h1_ h2_ k_)
  have u13_ : T12_ 0 o = 109 := (hx12_ o (Nat.ne_of_lt (Nat.lt_of_lt_of_le (cw_lt hw0_.1 u8_ (fun _ _ _ => ⟨_, rfl⟩)) hge12_)) 0).trans u8_
  have u14_ : T12_ 0 (κ 2 0) = 26 := (hx12_ (κ 2 0) (Nat.ne_of_lt (Nat.lt_of_lt_of_le (cw_lt hw0_.1 u9_ (fun _ _ _ => ⟨_, rfl⟩)) hge12_)) 0).trans u9_
  have u15_ : T12_ 0 q1_ = 10 := (hx12_ q1_ (Nat.ne_of_lt (Nat.lt_of_lt_of_le (cw_lt hw0_.1 u10_ (fun _ _ _ => ⟨_, rfl⟩)) hge12_)) 0).trans u10_
  have u16_ : T12_ 2 q1_ = 2 := (hx12_ q1_ (Nat.ne_of_lt (Nat.lt_of_lt_of_le (cw_lt hw0_.1 u10_ (fun _ _ _ => ⟨_, rfl⟩)) hge12_)) 2).trans u11_
  have u17_ : T12_ 180 o = q1_ + 1 := (hx12_ o (Nat.ne_of_lt (Nat.lt_of_lt_of_le (cw_lt hw0_.1 u8_ (fun _ _ _ => ⟨_, rfl⟩)) hge12_)) 180).trans hk7_
  refine j_dup E 20 rfl dX9_init_19 rfl ?_
  have hw0_ := hw
  refine aI_v E (n_Jx4a65c_init_da8c8 l D cy κ T12_ (upV (upV (upV (upV (upV v_0 200 (upB (v_0 200) q1_ 0)) 202 (upB (v_0 202) q1_ 0)) 200 y200_4) 200 (upB y200_4 q12_ 0)) 202 (upB (upB (v_0 202) q1_ 0) q12_ 0)) q12_ H.size 1 hO12_ tq12_  (Or.inl rfl) u14_ (by first | exact upB_same _ _ _ | simp [upV, upB])) mi_Jx4a65c_init_da8c8 ml_X9_11 hK hZ hAc hw hA ⟨(Nat.le_of_ble_eq_true rfl), (Nat.le_of_ble_eq_true rfl)⟩ ⟨(Nat.le_of_ble_eq_true rfl), (Nat.le_of_ble_eq_true rfl)⟩ (As := []) (rest := [.ref q12_, .ref o]) rfl rfl hl.1 (Nat.le_of_ble_eq_true rfl) 23 rfl dX9_init_20 (fun T18_ v_18 H locs hge18_ ho18_ hq18_ hw => ?_)
  obtain ⟨y200_18, ev18_, hh18_⟩ := hq18_
  rw [ev18_] at hw; clear ev18_
  obtain ⟨hx18_, tq18_, te18_⟩ := hh18_
  have hT18_ : WT T18_ := hw.1.2.1
  have hO18_ : ∀ x, ow T18_ x → κ 2 2 ≤ x := fun x h => hAc x (hw.2.1 x h)
  have hoT_ : OW T T18_ s.heap.size := OW.tr hw0_.2.2.1 hoT_ ho18_
  have hC_ : ∀ b, b < sz → T 0 b ≠ 10 → T 0 b ≠ 24 → T 0 b ≠ 26 → b ≠ o → ∀ j, j ≠ 197 → T18_ j b = T j b := fun b_ h1_ h2_ h3_ h4_ h5_ j_ h6_ => (hx18_ b_ (by have := hw0_.2.2.1; omega) (by have := fq12_; omega) j_).trans (hC_ b_ h1_ h2_ h3_ h4_ h5_ j_ h6_)
  have hR_ : ∀ b, b < sz → b ≠ o → ∀ k, T18_ k b = T k b := fun b_ h1_ h2_ k_ => (hx18_ b_ (by have := hw0_.2.2.1; omega) (by have := fq12_; omega) k_).trans (hR_ b_ h1_ h2_ k_)
  have u19_ : T18_ 0 o = 109 := (hx18_ o (cw_lt hw0_.1 u13_ (fun _ _ _ => ⟨_, rfl⟩)) (ty_ne u13_ tq12_ (by decide)) 0).trans u13_
  have u20_ : T18_ 0 (κ 2 0) = 26 := (hx18_ (κ 2 0) (cw_lt hw0_.1 u14_ (fun _ _ _ => ⟨_, rfl⟩)) (ty_ne u14_ tq12_ (by decide)) 0).trans u14_
  have u21_ : T18_ 0 q1_ = 10 := (hx18_ q1_ (cw_lt hw0_.1 u15_ (fun _ _ _ => ⟨_, rfl⟩)) (ty_ne u15_ tq12_ (by decide)) 0).trans u15_
  have u22_ : T18_ 2 q1_ = 2 := (hx18_ q1_ (cw_lt hw0_.1 u15_ (fun _ _ _ => ⟨_, rfl⟩)) (ty_ne u15_ tq12_ (by decide)) 2).trans u16_
  have u23_ : T18_ 180 o = q1_ + 1 := (hx18_ o (cw_lt hw0_.1 u13_ (fun _ _ _ => ⟨_, rfl⟩)) (ty_ne u13_ tq12_ (by decide)) 180).trans u17_
  have hw0_ := hw
  refine rr_181 E hK hw hnm fl_X9_16 u19_ 26 rfl dX9_init_23 (fun T24_ H locs hx24_ hj24_ hk24_ ho24_ hw => ?_)
  have hT24_ : WT T24_ := hw.1.2.1
  have hO24_ : ∀ x, ow T24_ x → κ 2 2 ≤ x := fun x h => hAc x (hw.2.1 x h)
  have hoT_ : OW T T24_ s.heap.size := OW.tr0 hoT_ ho24_
  have hC_ : ∀ b, b < sz → T 0 b ≠ 10 → T 0 b ≠ 24 → T 0 b ≠ 26 → b ≠ o → ∀ j, j ≠ 197 → T24_ j b = T j b := fun b_ h1_ h2_ h3_ h4_ h5_ j_ h6_ => (hx24_ b_ h5_ j_).trans (hC_ b_ h1_ h2_ h3_ h4_ h5_ j_ h6_)
  have hR_ : ∀ b, b < sz → b ≠ o → ∀ k, T24_ k b = T k b := fun b_ h1_ h2_ k_ => (hx24_ b_ h2_ k_).trans (hR_ b_ h1_ h2_ k_)
  have u25_ : T24_ 0 o = 109 := (hj24_ 0 (by decide)).trans u19_
  have u26_ : T24_ 0 (κ 2 0) = 26 := (hx24_ (κ 2 0) (ty_ne u20_ u19_ (by decide)) 0).trans u20_
  have u27_ : T24_ 0 q1_ = 10 := (hx24_ q1_ (ty_ne u21_ u19_ (by decide)) 0).trans u21_
  have u28_ : T24_ 0 q12_ = 10 := (hx24_ q12_ (ty_ne tq18_ u19_ (by decide)) 0).trans tq18_
  have u29_ : T24_ 2 q1_ = 2 := (hx24_ q1_ (ty_ne u21_ u19_ (by decide)) 2).trans u22_
  have u30_ : T24_ 2 q12_ = 1 := (hx24_ q12_ (ty_ne tq18_ u19_ (by decide)) 2).trans te18_
  have u31_ : T24_ 180 o = q1_ + 1 := (hj24_ 180 (by decide)).trans u23_
  refine j_aload_n E 27 rfl dX9_init_26 rfl (lv_at hl 0 rfl) ?_
  have hw0_ := hw
  refine n_obj10 E hK hw hA cl_X9_9 (Nat.le_of_ble_eq_true rfl) (Nat.le_of_ble_eq_true rfl) 30 rfl dX9_init_27 (fun q32_ T32_ H hge32_ hx32_ ho32_ tq32_ hw => ?_)
  have fq32_ : s.heap.size ≤ q32_ := Nat.le_trans hw0_.2.2.1 hge32_
  have hw : WK D cy T32_ (upV (upV (upV (upV (upV (upV (upV (upV v_0 200 (upB (v_0 200) q1_ 0)) 202 (upB (v_0 202) q1_ 0)) 200 y200_4) 200 (upB y200_4 q12_ 0)) 202 (upB (upB (v_0 202) q1_ 0) q12_ 0)) 200 y200_18) 200 (upB y200_18 q32_ 0)) 202 (upB (upB (upB (v_0 202) q1_ 0) q12_ 0) q32_ 0)) A0 s.heap H locs := hw
  have hT32_ : WT T32_ := hw.1.2.1
  have hO32_ : ∀ x, ow T32_ x → κ 2 2 ≤ x := fun x h => hAc x (hw.2.1 x h)
  have hoT_ : OW T T32_ s.heap.size := OW.tr hw0_.2.2.1 hoT_ ho32_
  have hC_ : ∀ b, b < sz → T 0 b ≠ 10 → T 0 b ≠ 24 → T 0 b ≠ 26 → b ≠ o → ∀ j, j ≠ 197 → T32_ j b = T j b := fun b_ h1_ h2_ h3_ h4_ h5_ j_ h6_ => (hx32_ b_ (by have := hw0_.2.2.1; have := hge32_; omega) j_).trans (hC_ b_ h1_ h2_ h3_ h4_ h5_ j_ h6_)
  have hR_ : ∀ b, b < sz → b ≠ o → ∀ k, T32_ k b = T k b := fun b_ h1_ h2_ k_ => (hx32_ b_ (by have := hw0_.2.2.1; have := hge32_; omega) k_).trans (hR_ b_ h1_ h2_ k_)
  have u33_ : T32_ 0 o = 109 := (hx32_ o (Nat.ne_of_lt (Nat.lt_of_lt_of_le (cw_lt hw0_.1 u25_ (fun _ _ _ => ⟨_, rfl⟩)) hge32_)) 0).trans u25_
  have u34_ : T32_ 0 (κ 2 0) = 26 := (hx32_ (κ 2 0) (Nat.ne_of_lt (Nat.lt_of_lt_of_le (cw_lt hw0_.1 u26_ (fun _ _ _ => ⟨_, rfl⟩)) hge32_)) 0).trans u26_
  have u35_ : T32_ 0 q1_ = 10 := (hx32_ q1_ (Nat.ne_of_lt (Nat.lt_of_lt_of_le (cw_lt hw0_.1 u27_ (fun _ _ _ => ⟨_, rfl⟩)) hge32_)) 0).trans u27_
  have u36_ : T32_ 0 q12_ = 10 := (hx32_ q12_ (Nat.ne_of_lt (Nat.lt_of_lt_of_le (cw_lt hw0_.1 u28_ (fun _ _ _ => ⟨_, rfl⟩)) hge32_)) 0).trans u28_
  have u37_ : T32_ 2 q1_ = 2 := (hx32_ q1_ (Nat.ne_of_lt (Nat.lt_of_lt_of_le (cw_lt hw0_.1 u27_ (fun _ _ _ => ⟨_, rfl⟩)) hge32_)) 2).trans u29_
  have u38_ : T32_ 2 q12_ = 1 := (hx32_ q12_ (Nat.ne_of_lt (Nat.lt_of_lt_of_le (cw_lt hw0_.1 u28_ (fun _ _ _ => ⟨_, rfl⟩)) hge32_)) 2).trans u30_
  have u39_ : T32_ 180 o = q1_ + 1 := (hx32_ o (Nat.ne_of_lt (Nat.lt_of_lt_of_le (cw_lt hw0_.1 u25_ (fun _ _ _ => ⟨_, rfl⟩)) hge32_)) 180).trans u31_
  have u40_ : T32_ 181 o = q12_ + 1 := (hx32_ o (Nat.ne_of_lt (Nat.lt_of_lt_of_le (cw_lt hw0_.1 u25_ (fun _ _ _ => ⟨_, rfl⟩)) hge32_)) 181).trans hk24_
  refine j_dup E 31 rfl dX9_init_30 rfl ?_
  have hw0_ := hw
  refine aI_v E (n_Jx4a65c_init_da8c8 l D cy κ T32_ (upV (upV (upV (upV (upV (upV (upV (upV v_0 200 (upB (v_0 200) q1_ 0)) 202 (upB (v_0 202) q1_ 0)) 200 y200_4) 200 (upB y200_4 q12_ 0)) 202 (upB (upB (v_0 202) q1_ 0) q12_ 0)) 200 y200_18) 200 (upB y200_18 q32_ 0)) 202 (upB (upB (upB (v_0 202) q1_ 0) q12_ 0) q32_ 0)) q32_ H.size 8 hO32_ tq32_  (Or.inr (Or.inr (Or.inr rfl))) u34_ (by first | exact upB_same _ _ _ | simp [upV, upB])) mi_Jx4a65c_init_da8c8 ml_X9_11 hK hZ hAc hw hA ⟨(Nat.le_of_ble_eq_true rfl), (Nat.le_of_ble_eq_true rfl)⟩ ⟨(Nat.le_of_ble_eq_true rfl), (Nat.le_of_ble_eq_true rfl)⟩ (As := []) (rest := [.ref q32_, .ref o]) rfl rfl hl.1 (Nat.le_of_ble_eq_true rfl) 34 rfl dX9_init_31 (fun T41_ v_41 H locs hge41_ ho41_ hq41_ hw => ?_)
  obtain ⟨y200_41, ev41_, hh41_⟩ := hq41_
  rw [ev41_] at hw; clear ev41_
  obtain ⟨hx41_, tq41_, te41_⟩ := hh41_
  have hT41_ : WT T41_ := hw.1.2.1
  have hO41_ : ∀ x, ow T41_ x → κ 2 2 ≤ x := fun x h => hAc x (hw.2.1 x h)
  have hoT_ : OW T T41_ s.heap.size := OW.tr hw0_.2.2.1 hoT_ ho41_
  have hC_ : ∀ b, b < sz → T 0 b ≠ 10 → T 0 b ≠ 24 → T 0 b ≠ 26 → b ≠ o → ∀ j, j ≠ 197 → T41_ j b = T j b := fun b_ h1_ h2_ h3_ h4_ h5_ j_ h6_ => (hx41_ b_ (by have := hw0_.2.2.1; omega) (by have := fq32_; omega) j_).trans (hC_ b_ h1_ h2_ h3_ h4_ h5_ j_ h6_)
  have hR_ : ∀ b, b < sz → b ≠ o → ∀ k, T41_ k b = T k b := fun b_ h1_ h2_ k_ => (hx41_ b_ (by have := hw0_.2.2.1; omega) (by have := fq32_; omega) k_).trans (hR_ b_ h1_ h2_ k_)
  have u42_ : T41_ 0 o = 109 := (hx41_ o (cw_lt hw0_.1 u33_ (fun _ _ _ => ⟨_, rfl⟩)) (ty_ne u33_ tq32_ (by decide)) 0).trans u33_
  have u43_ : T41_ 0 (κ 2 0) = 26 := (hx41_ (κ 2 0) (cw_lt hw0_.1 u34_ (fun _ _ _ => ⟨_, rfl⟩)) (ty_ne u34_ tq32_ (by decide)) 0).trans u34_
  have u44_ : T41_ 0 q1_ = 10 := (hx41_ q1_ (cw_lt hw0_.1 u35_ (fun _ _ _ => ⟨_, rfl⟩)) (ty_ne u35_ tq32_ (by decide)) 0).trans u35_
  have u45_ : T41_ 0 q12_ = 10 := (hx41_ q12_ (cw_lt hw0_.1 u36_ (fun _ _ _ => ⟨_, rfl⟩)) (ty_ne u36_ tq32_ (by decide)) 0).trans u36_
  have u46_ : T41_ 2 q1_ = 2 := (hx41_ q1_ (cw_lt hw0_.1 u35_ (fun _ _ _ => ⟨_, rfl⟩)) (ty_ne u35_ tq32_ (by decide)) 2).trans u37_
  have u47_ : T41_ 2 q12_ = 1 := (hx41_ q12_ (cw_lt hw0_.1 u36_ (fun _ _ _ => ⟨_, rfl⟩)) (ty_ne u36_ tq32_ (by decide)) 2).trans u38_
  have u48_ : T41_ 180 o = q1_ + 1 := (hx41_ o (cw_lt hw0_.1 u33_ (fun _ _ _ => ⟨_, rfl⟩)) (ty_ne u33_ tq32_ (by decide)) 180).trans u39_
  have u49_ : T41_ 181 o = q12_ + 1 := (hx41_ o (cw_lt hw0_.1 u33_ (fun _ _ _ => ⟨_, rfl⟩)) (ty_ne u33_ tq32_ (by decide)) 181).trans u40_
  have hw0_ := hw
  refine rr_182 E hK hw hnm fl_X9_19 u42_ 37 rfl dX9_init_34 (fun T50_ H locs hx50_ hj50_ hk50_ ho50_ hw => ?_)
  have hT50_ : WT T50_ := hw.1.2.1
  have hO50_ : ∀ x, ow T50_ x → κ 2 2 ≤ x := fun x h => hAc x (hw.2.1 x h)
  have hoT_ : OW T T50_ s.heap.size := OW.tr0 hoT_ ho50_
  have hC_ : ∀ b, b < sz → T 0 b ≠ 10 → T 0 b ≠ 24 → T 0 b ≠ 26 → b ≠ o → ∀ j, j ≠ 197 → T50_ j b = T j b := fun b_ h1_ h2_ h3_ h4_ h5_ j_ h6_ => (hx50_ b_ h5_ j_).trans (hC_ b_ h1_ h2_ h3_ h4_ h5_ j_ h6_)
  have hR_ : ∀ b, b < sz → b ≠ o → ∀ k, T50_ k b = T k b := fun b_ h1_ h2_ k_ => (hx50_ b_ h2_ k_).trans (hR_ b_ h1_ h2_ k_)
  have u51_ : T50_ 0 o = 109 := (hj50_ 0 (by decide)).trans u42_
  have u52_ : T50_ 0 (κ 2 0) = 26 := (hx50_ (κ 2 0) (ty_ne u43_ u42_ (by decide)) 0).trans u43_
  have u53_ : T50_ 0 q1_ = 10 := (hx50_ q1_ (ty_ne u44_ u42_ (by decide)) 0).trans u44_
  have u54_ : T50_ 0 q12_ = 10 := (hx50_ q12_ (ty_ne u45_ u42_ (by decide)) 0).trans u45_
  have u55_ : T50_ 0 q32_ = 10 := (hx50_ q32_ (ty_ne tq41_ u42_ (by decide)) 0).trans tq41_
  have u56_ : T50_ 2 q1_ = 2 := (hx50_ q1_ (ty_ne u44_ u42_ (by decide)) 2).trans u46_
  have u57_ : T50_ 2 q12_ = 1 := (hx50_ q12_ (ty_ne u45_ u42_ (by decide)) 2).trans u47_
  have u58_ : T50_ 2 q32_ = 8 := (hx50_ q32_ (ty_ne tq41_ u42_ (by decide)) 2).trans te41_
  have u59_ : T50_ 180 o = q1_ + 1 := (hj50_ 180 (by decide)).trans u48_
  have u60_ : T50_ 181 o = q12_ + 1 := (hj50_ 181 (by decide)).trans u49_
  refine j_aload_n E 38 rfl dX9_init_37 rfl (lv_at hl 0 rfl) ?_
  have hw0_ := hw
  refine n_obj10 E hK hw hA cl_X9_9 (Nat.le_of_ble_eq_true rfl) (Nat.le_of_ble_eq_true rfl) 41 rfl dX9_init_38 (fun q61_ T61_ H hge61_ hx61_ ho61_ tq61_ hw => ?_)
  have fq61_ : s.heap.size ≤ q61_ := Nat.le_trans hw0_.2.2.1 hge61_
  have hw : WK D cy T61_ (upV (upV (upV (upV (upV (upV (upV (upV (upV (upV (upV v_0 200 (upB (v_0 200) q1_ 0)) 202 (upB (v_0 202) q1_ 0)) 200 y200_4) 200 (upB y200_4 q12_ 0)) 202 (upB (upB (v_0 202) q1_ 0) q12_ 0)) 200 y200_18) 200 (upB y200_18 q32_ 0)) 202 (upB (upB (upB (v_0 202) q1_ 0) q12_ 0) q32_ 0)) 200 y200_41) 200 (upB y200_41 q61_ 0)) 202 (upB (upB (upB (upB (v_0 202) q1_ 0) q12_ 0) q32_ 0) q61_ 0)) A0 s.heap H locs := hw
  have hT61_ : WT T61_ := hw.1.2.1
  have hO61_ : ∀ x, ow T61_ x → κ 2 2 ≤ x := fun x h => hAc x (hw.2.1 x h)
  have hoT_ : OW T T61_ s.heap.size := OW.tr hw0_.2.2.1 hoT_ ho61_
  have hC_ : ∀ b, b < sz → T 0 b ≠ 10 → T 0 b ≠ 24 → T 0 b ≠ 26 → b ≠ o → ∀ j, j ≠ 197 → T61_ j b = T j b := fun b_ h1_ h2_ h3_ h4_ h5_ j_ h6_ => (hx61_ b_ (by have := hw0_.2.2.1; have := hge61_; omega) j_).trans (hC_ b_ h1_ h2_ h3_ h4_ h5_ j_ h6_)
  have hR_ : ∀ b, b < sz → b ≠ o → ∀ k, T61_ k b = T k b := fun b_ h1_ h2_ k_ => (hx61_ b_ (by have := hw0_.2.2.1; have := hge61_; omega) k_).trans (hR_ b_ h1_ h2_ k_)
  have u62_ : T61_ 0 o = 109 := (hx61_ o (Nat.ne_of_lt (Nat.lt_of_lt_of_le (cw_lt hw0_.1 u51_ (fun _ _ _ => ⟨_, rfl⟩)) hge61_)) 0).trans u51_
  have u63_ : T61_ 0 (κ 2 0) = 26 := (hx61_ (κ 2 0) (Nat.ne_of_lt (Nat.lt_of_lt_of_le (cw_lt hw0_.1 u52_ (fun _ _ _ => ⟨_, rfl⟩)) hge61_)) 0).trans u52_
  have u64_ : T61_ 0 q1_ = 10 := (hx61_ q1_ (Nat.ne_of_lt (Nat.lt_of_lt_of_le (cw_lt hw0_.1 u53_ (fun _ _ _ => ⟨_, rfl⟩)) hge61_)) 0).trans u53_
  have u65_ : T61_ 0 q12_ = 10 := (hx61_ q12_ (Nat.ne_of_lt (Nat.lt_of_lt_of_le (cw_lt hw0_.1 u54_ (fun _ _ _ => ⟨_, rfl⟩)) hge61_)) 0).trans u54_
  have u66_ : T61_ 0 q32_ = 10 := (hx61_ q32_ (Nat.ne_of_lt (Nat.lt_of_lt_of_le (cw_lt hw0_.1 u55_ (fun _ _ _ => ⟨_, rfl⟩)) hge61_)) 0).trans u55_
  have u67_ : T61_ 2 q1_ = 2 := (hx61_ q1_ (Nat.ne_of_lt (Nat.lt_of_lt_of_le (cw_lt hw0_.1 u53_ (fun _ _ _ => ⟨_, rfl⟩)) hge61_)) 2).trans u56_
  have u68_ : T61_ 2 q12_ = 1 := (hx61_ q12_ (Nat.ne_of_lt (Nat.lt_of_lt_of_le (cw_lt hw0_.1 u54_ (fun _ _ _ => ⟨_, rfl⟩)) hge61_)) 2).trans u57_
  have u69_ : T61_ 2 q32_ = 8 := (hx61_ q32_ (Nat.ne_of_lt (Nat.lt_of_lt_of_le (cw_lt hw0_.1 u55_ (fun _ _ _ => ⟨_, rfl⟩)) hge61_)) 2).trans u58_
  have u70_ : T61_ 180 o = q1_ + 1 := (hx61_ o (Nat.ne_of_lt (Nat.lt_of_lt_of_le (cw_lt hw0_.1 u51_ (fun _ _ _ => ⟨_, rfl⟩)) hge61_)) 180).trans u59_
  have u71_ : T61_ 181 o = q12_ + 1 := (hx61_ o (Nat.ne_of_lt (Nat.lt_of_lt_of_le (cw_lt hw0_.1 u51_ (fun _ _ _ => ⟨_, rfl⟩)) hge61_)) 181).trans u60_
  have u72_ : T61_ 182 o = q32_ + 1 := (hx61_ o (Nat.ne_of_lt (Nat.lt_of_lt_of_le (cw_lt hw0_.1 u51_ (fun _ _ _ => ⟨_, rfl⟩)) hge61_)) 182).trans hk50_
  refine j_dup E 42 rfl dX9_init_41 rfl ?_
  have hw0_ := hw
  refine aI_v E (n_Jx4a65c_init_da8c8 l D cy κ T61_ (upV (upV (upV (upV (upV (upV (upV (upV (upV (upV (upV v_0 200 (upB (v_0 200) q1_ 0)) 202 (upB (v_0 202) q1_ 0)) 200 y200_4) 200 (upB y200_4 q12_ 0)) 202 (upB (upB (v_0 202) q1_ 0) q12_ 0)) 200 y200_18) 200 (upB y200_18 q32_ 0)) 202 (upB (upB (upB (v_0 202) q1_ 0) q12_ 0) q32_ 0)) 200 y200_41) 200 (upB y200_41 q61_ 0)) 202 (upB (upB (upB (upB (v_0 202) q1_ 0) q12_ 0) q32_ 0) q61_ 0)) q61_ H.size 7 hO61_ tq61_  (Or.inr (Or.inr (Or.inl rfl))) u63_ (by first | exact upB_same _ _ _ | simp [upV, upB])) mi_Jx4a65c_init_da8c8 ml_X9_11 hK hZ hAc hw hA ⟨(Nat.le_of_ble_eq_true rfl), (Nat.le_of_ble_eq_true rfl)⟩ ⟨(Nat.le_of_ble_eq_true rfl), (Nat.le_of_ble_eq_true rfl)⟩ (As := []) (rest := [.ref q61_, .ref o]) rfl rfl hl.1 (Nat.le_of_ble_eq_true rfl) 45 rfl dX9_init_42 (fun T73_ v_73 H locs hge73_ ho73_ hq73_ hw => ?_)
  obtain ⟨y200_73, ev73_, hh73_⟩ := hq73_
  rw [ev73_] at hw; clear ev73_
  obtain ⟨hx73_, tq73_, te73_⟩ := hh73_
  have hT73_ : WT T73_ := hw.1.2.1
  have hO73_ : ∀ x, ow T73_ x → κ 2 2 ≤ x := fun x h => hAc x (hw.2.1 x h)
  have hoT_ : OW T T73_ s.heap.size := OW.tr hw0_.2.2.1 hoT_ ho73_
  have hC_ : ∀ b, b < sz → T 0 b ≠ 10 → T 0 b ≠ 24 → T 0 b ≠ 26 → b ≠ o → ∀ j, j ≠ 197 → T73_ j b = T j b := fun b_ h1_ h2_ h3_ h4_ h5_ j_ h6_ => (hx73_ b_ (by have := hw0_.2.2.1; omega) (by have := fq61_; omega) j_).trans (hC_ b_ h1_ h2_ h3_ h4_ h5_ j_ h6_)
  have hR_ : ∀ b, b < sz → b ≠ o → ∀ k, T73_ k b = T k b := fun b_ h1_ h2_ k_ => (hx73_ b_ (by have := hw0_.2.2.1; omega) (by have := fq61_; omega) k_).trans (hR_ b_ h1_ h2_ k_)
  have u74_ : T73_ 0 o = 109 := (hx73_ o (cw_lt hw0_.1 u62_ (fun _ _ _ => ⟨_, rfl⟩)) (ty_ne u62_ tq61_ (by decide)) 0).trans u62_
  have u75_ : T73_ 0 (κ 2 0) = 26 := (hx73_ (κ 2 0) (cw_lt hw0_.1 u63_ (fun _ _ _ => ⟨_, rfl⟩)) (ty_ne u63_ tq61_ (by decide)) 0).trans u63_
  have u76_ : T73_ 0 q1_ = 10 := (hx73_ q1_ (cw_lt hw0_.1 u64_ (fun _ _ _ => ⟨_, rfl⟩)) (ty_ne u64_ tq61_ (by decide)) 0).trans u64_
  have u77_ : T73_ 0 q12_ = 10 := (hx73_ q12_ (cw_lt hw0_.1 u65_ (fun _ _ _ => ⟨_, rfl⟩)) (ty_ne u65_ tq61_ (by decide)) 0).trans u65_
  have u78_ : T73_ 0 q32_ = 10 := (hx73_ q32_ (cw_lt hw0_.1 u66_ (fun _ _ _ => ⟨_, rfl⟩)) (ty_ne u66_ tq61_ (by decide)) 0).trans u66_
  have u79_ : T73_ 2 q1_ = 2 := (hx73_ q1_ (cw_lt hw0_.1 u64_ (fun _ _ _ => ⟨_, rfl⟩)) (ty_ne u64_ tq61_ (by decide)) 2).trans u67_
  have u80_ : T73_ 2 q12_ = 1 := (hx73_ q12_ (cw_lt hw0_.1 u65_ (fun _ _ _ => ⟨_, rfl⟩)) (ty_ne u65_ tq61_ (by decide)) 2).trans u68_
  have u81_ : T73_ 2 q32_ = 8 := (hx73_ q32_ (cw_lt hw0_.1 u66_ (fun _ _ _ => ⟨_, rfl⟩)) (ty_ne u66_ tq61_ (by decide)) 2).trans u69_
  have u82_ : T73_ 180 o = q1_ + 1 := (hx73_ o (cw_lt hw0_.1 u62_ (fun _ _ _ => ⟨_, rfl⟩)) (ty_ne u62_ tq61_ (by decide)) 180).trans u70_
  have u83_ : T73_ 181 o = q12_ + 1 := (hx73_ o (cw_lt hw0_.1 u62_ (fun _ _ _ => ⟨_, rfl⟩)) (ty_ne u62_ tq61_ (by decide)) 181).trans u71_
  have u84_ : T73_ 182 o = q32_ + 1 := (hx73_ o (cw_lt hw0_.1 u62_ (fun _ _ _ => ⟨_, rfl⟩)) (ty_ne u62_ tq61_ (by decide)) 182).trans u72_
  have hw0_ := hw
  refine rr_183 E hK hw hnm fl_X9_22 u74_ 48 rfl dX9_init_45 (fun T85_ H locs hx85_ hj85_ hk85_ ho85_ hw => ?_)
  have hT85_ : WT T85_ := hw.1.2.1
  have hO85_ : ∀ x, ow T85_ x → κ 2 2 ≤ x := fun x h => hAc x (hw.2.1 x h)
  have hoT_ : OW T T85_ s.heap.size := OW.tr0 hoT_ ho85_
  have hC_ : ∀ b, b < sz → T 0 b ≠ 10 → T 0 b ≠ 24 → T 0 b ≠ 26 → b ≠ o → ∀ j, j ≠ 197 → T85_ j b = T j b := fun b_ h1_ h2_ h3_ h4_ h5_ j_ h6_ => (hx85_ b_ h5_ j_).trans (hC_ b_ h1_ h2_ h3_ h4_ h5_ j_ h6_)
  have hR_ : ∀ b, b < sz → b ≠ o → ∀ k, T85_ k b = T k b := fun b_ h1_ h2_ k_ => (hx85_ b_ h2_ k_).trans (hR_ b_ h1_ h2_ k_)
  have u86_ : T85_ 0 o = 109 := (hj85_ 0 (by decide)).trans u74_
  have u87_ : T85_ 0 (κ 2 0) = 26 := (hx85_ (κ 2 0) (ty_ne u75_ u74_ (by decide)) 0).trans u75_
  have u88_ : T85_ 0 q1_ = 10 := (hx85_ q1_ (ty_ne u76_ u74_ (by decide)) 0).trans u76_
  have u89_ : T85_ 0 q12_ = 10 := (hx85_ q12_ (ty_ne u77_ u74_ (by decide)) 0).trans u77_
  have u90_ : T85_ 0 q32_ = 10 := (hx85_ q32_ (ty_ne u78_ u74_ (by decide)) 0).trans u78_
  have u91_ : T85_ 0 q61_ = 10 := (hx85_ q61_ (ty_ne tq73_ u74_ (by decide)) 0).trans tq73_
  have u92_ : T85_ 2 q1_ = 2 := (hx85_ q1_ (ty_ne u76_ u74_ (by decide)) 2).trans u79_
  have u93_ : T85_ 2 q12_ = 1 := (hx85_ q12_ (ty_ne u77_ u74_ (by decide)) 2).trans u80_
  have u94_ : T85_ 2 q32_ = 8 := (hx85_ q32_ (ty_ne u78_ u74_ (by decide)) 2).trans u81_
  have u95_ : T85_ 2 q61_ = 7 := (hx85_ q61_ (ty_ne tq73_ u74_ (by decide)) 2).trans te73_
  have u96_ : T85_ 180 o = q1_ + 1 := (hj85_ 180 (by decide)).trans u82_
  have u97_ : T85_ 181 o = q12_ + 1 := (hj85_ 181 (by decide)).trans u83_
  have u98_ : T85_ 182 o = q32_ + 1 := (hj85_ 182 (by decide)).trans u84_
  refine j_aload_n E 49 rfl dX9_init_48 rfl (lv_at hl 0 rfl) ?_
  refine j_bipush E 51 rfl dX9_init_49 (by decide) ?_
  have hw0_ := hw
  refine n_arr21 E hK hw hA (300 * o + 184) 8 (by decide) (by decide) (Nat.le_of_ble_eq_true rfl) (Nat.le_of_ble_eq_true rfl) 53 rfl dX9_init_51 (fun q99_ T99_ y301_99 H hge99_ hx99_ ho99_ tq99_ tl99_ tw99_ yz99_ yo99_ hw => ?_)
  have fq99_ : s.heap.size ≤ q99_ := Nat.le_trans hw0_.2.2.1 hge99_
  have hw : WK D cy T99_ (upV (upV (upV (upV (upV (upV (upV (upV (upV (upV (upV (upV (upV v_0 200 (upB (v_0 200) q1_ 0)) 202 (upB (v_0 202) q1_ 0)) 200 y200_4) 200 (upB y200_4 q12_ 0)) 202 (upB (upB (v_0 202) q1_ 0) q12_ 0)) 200 y200_18) 200 (upB y200_18 q32_ 0)) 202 (upB (upB (upB (v_0 202) q1_ 0) q12_ 0) q32_ 0)) 200 y200_41) 200 (upB y200_41 q61_ 0)) 202 (upB (upB (upB (upB (v_0 202) q1_ 0) q12_ 0) q32_ 0) q61_ 0)) 200 y200_73) 301 y301_99) A0 s.heap H locs := hw
  have yo99_ : ∀ b, b ≠ q99_ → ∀ i, y301_99 (pr b i) = v_0 301 (pr b i) := yo99_
  have hT99_ : WT T99_ := hw.1.2.1
  have hO99_ : ∀ x, ow T99_ x → κ 2 2 ≤ x := fun x h => hAc x (hw.2.1 x h)
  have hoT_ : OW T T99_ s.heap.size := OW.tr hw0_.2.2.1 hoT_ ho99_
  have hC_ : ∀ b, b < sz → T 0 b ≠ 10 → T 0 b ≠ 24 → T 0 b ≠ 26 → b ≠ o → ∀ j, j ≠ 197 → T99_ j b = T j b := fun b_ h1_ h2_ h3_ h4_ h5_ j_ h6_ => (hx99_ b_ (by have := hw0_.2.2.1; have := hge99_; omega) j_).trans (hC_ b_ h1_ h2_ h3_ h4_ h5_ j_ h6_)
  have hR_ : ∀ b, b < sz → b ≠ o → ∀ k, T99_ k b = T k b := fun b_ h1_ h2_ k_ => (hx99_ b_ (by have := hw0_.2.2.1; have := hge99_; omega) k_).trans (hR_ b_ h1_ h2_ k_)
  have u100_ : T99_ 0 o = 109 := (hx99_ o (Nat.ne_of_lt (Nat.lt_of_lt_of_le (cw_lt hw0_.1 u86_ (fun _ _ _ => ⟨_, rfl⟩)) hge99_)) 0).trans u86_
  have u101_ : T99_ 0 (κ 2 0) = 26 := (hx99_ (κ 2 0) (Nat.ne_of_lt (Nat.lt_of_lt_of_le (cw_lt hw0_.1 u87_ (fun _ _ _ => ⟨_, rfl⟩)) hge99_)) 0).trans u87_
  have u102_ : T99_ 0 q1_ = 10 := (hx99_ q1_ (Nat.ne_of_lt (Nat.lt_of_lt_of_le (cw_lt hw0_.1 u88_ (fun _ _ _ => ⟨_, rfl⟩)) hge99_)) 0).trans u88_
  have u103_ : T99_ 0 q12_ = 10 := (hx99_ q12_ (Nat.ne_of_lt (Nat.lt_of_lt_of_le (cw_lt hw0_.1 u89_ (fun _ _ _ => ⟨_, rfl⟩)) hge99_)) 0).trans u89_
  have u104_ : T99_ 0 q32_ = 10 := (hx99_ q32_ (Nat.ne_of_lt (Nat.lt_of_lt_of_le (cw_lt hw0_.1 u90_ (fun _ _ _ => ⟨_, rfl⟩)) hge99_)) 0).trans u90_
  have u105_ : T99_ 0 q61_ = 10 := (hx99_ q61_ (Nat.ne_of_lt (Nat.lt_of_lt_of_le (cw_lt hw0_.1 u91_ (fun _ _ _ => ⟨_, rfl⟩)) hge99_)) 0).trans u91_
  have u106_ : T99_ 2 q1_ = 2 := (hx99_ q1_ (Nat.ne_of_lt (Nat.lt_of_lt_of_le (cw_lt hw0_.1 u88_ (fun _ _ _ => ⟨_, rfl⟩)) hge99_)) 2).trans u92_
  have u107_ : T99_ 2 q12_ = 1 := (hx99_ q12_ (Nat.ne_of_lt (Nat.lt_of_lt_of_le (cw_lt hw0_.1 u89_ (fun _ _ _ => ⟨_, rfl⟩)) hge99_)) 2).trans u93_
  have u108_ : T99_ 2 q32_ = 8 := (hx99_ q32_ (Nat.ne_of_lt (Nat.lt_of_lt_of_le (cw_lt hw0_.1 u90_ (fun _ _ _ => ⟨_, rfl⟩)) hge99_)) 2).trans u94_
  have u109_ : T99_ 2 q61_ = 7 := (hx99_ q61_ (Nat.ne_of_lt (Nat.lt_of_lt_of_le (cw_lt hw0_.1 u91_ (fun _ _ _ => ⟨_, rfl⟩)) hge99_)) 2).trans u95_
  have u110_ : T99_ 180 o = q1_ + 1 := (hx99_ o (Nat.ne_of_lt (Nat.lt_of_lt_of_le (cw_lt hw0_.1 u86_ (fun _ _ _ => ⟨_, rfl⟩)) hge99_)) 180).trans u96_
  have u111_ : T99_ 181 o = q12_ + 1 := (hx99_ o (Nat.ne_of_lt (Nat.lt_of_lt_of_le (cw_lt hw0_.1 u86_ (fun _ _ _ => ⟨_, rfl⟩)) hge99_)) 181).trans u97_
  have u112_ : T99_ 182 o = q32_ + 1 := (hx99_ o (Nat.ne_of_lt (Nat.lt_of_lt_of_le (cw_lt hw0_.1 u86_ (fun _ _ _ => ⟨_, rfl⟩)) hge99_)) 182).trans u98_
  have u113_ : T99_ 183 o = q61_ + 1 := (hx99_ o (Nat.ne_of_lt (Nat.lt_of_lt_of_le (cw_lt hw0_.1 u86_ (fun _ _ _ => ⟨_, rfl⟩)) hge99_)) 183).trans hk85_
  have hw0_ := hw
  refine rr_184 E hK hw hnm fl_X9_25 u100_ 56 rfl dX9_init_53 (fun T114_ H locs hx114_ hj114_ hk114_ ho114_ hw => ?_)
  have hT114_ : WT T114_ := hw.1.2.1
  have hO114_ : ∀ x, ow T114_ x → κ 2 2 ≤ x := fun x h => hAc x (hw.2.1 x h)
  have hoT_ : OW T T114_ s.heap.size := OW.tr0 hoT_ ho114_
  have hC_ : ∀ b, b < sz → T 0 b ≠ 10 → T 0 b ≠ 24 → T 0 b ≠ 26 → b ≠ o → ∀ j, j ≠ 197 → T114_ j b = T j b := fun b_ h1_ h2_ h3_ h4_ h5_ j_ h6_ => (hx114_ b_ h5_ j_).trans (hC_ b_ h1_ h2_ h3_ h4_ h5_ j_ h6_)
  have hR_ : ∀ b, b < sz → b ≠ o → ∀ k, T114_ k b = T k b := fun b_ h1_ h2_ k_ => (hx114_ b_ h2_ k_).trans (hR_ b_ h1_ h2_ k_)
  have u115_ : T114_ 0 o = 109 := (hj114_ 0 (by decide)).trans u100_
  have u116_ : T114_ 0 (κ 2 0) = 26 := (hx114_ (κ 2 0) (ty_ne u101_ u100_ (by decide)) 0).trans u101_
  have u117_ : T114_ 0 q1_ = 10 := (hx114_ q1_ (ty_ne u102_ u100_ (by decide)) 0).trans u102_
  have u118_ : T114_ 0 q12_ = 10 := (hx114_ q12_ (ty_ne u103_ u100_ (by decide)) 0).trans u103_
  have u119_ : T114_ 0 q32_ = 10 := (hx114_ q32_ (ty_ne u104_ u100_ (by decide)) 0).trans u104_
  have u120_ : T114_ 0 q61_ = 10 := (hx114_ q61_ (ty_ne u105_ u100_ (by decide)) 0).trans u105_
  have u121_ : T114_ 0 q99_ = 21 := (hx114_ q99_ (ty_ne tq99_ u100_ (by decide)) 0).trans tq99_
  have u122_ : T114_ 1 q99_ = 8 := (hx114_ q99_ (ty_ne tq99_ u100_ (by decide)) 1).trans tl99_
  have u123_ : T114_ 3 q99_ = 300 * o + 184 := (hx114_ q99_ (ty_ne tq99_ u100_ (by decide)) 3).trans tw99_
  have u124_ : T114_ 2 q1_ = 2 := (hx114_ q1_ (ty_ne u102_ u100_ (by decide)) 2).trans u106_
  have u125_ : T114_ 2 q12_ = 1 := (hx114_ q12_ (ty_ne u103_ u100_ (by decide)) 2).trans u107_
  have u126_ : T114_ 2 q32_ = 8 := (hx114_ q32_ (ty_ne u104_ u100_ (by decide)) 2).trans u108_
  have u127_ : T114_ 2 q61_ = 7 := (hx114_ q61_ (ty_ne u105_ u100_ (by decide)) 2).trans u109_
  have u128_ : T114_ 180 o = q1_ + 1 := (hj114_ 180 (by decide)).trans u110_
  have u129_ : T114_ 181 o = q12_ + 1 := (hj114_ 181 (by decide)).trans u111_
  have u130_ : T114_ 182 o = q32_ + 1 := (hj114_ 182 (by decide)).trans u112_
  have u131_ : T114_ 183 o = q61_ + 1 := (hj114_ 183 (by decide)).trans u113_
  refine j_aload_n E 57 rfl dX9_init_56 rfl (lv_at hl 0 rfl) ?_
  refine j_sipush E 60 rfl dX9_init_57 (by decide) ?_
  have hw0_ := hw
  refine n_arr23 E hK hw hA (300 * o + 185) 400 (by decide) (by decide) (Nat.le_of_ble_eq_true rfl) (Nat.le_of_ble_eq_true rfl) 62 rfl dX9_init_60 (fun q132_ T132_ y303_132 H hge132_ hx132_ ho132_ tq132_ tl132_ tw132_ yz132_ yo132_ hw => ?_)
  have fq132_ : s.heap.size ≤ q132_ := Nat.le_trans hw0_.2.2.1 hge132_
  have hw : WK D cy T132_ (upV (upV (upV (upV (upV (upV (upV (upV (upV (upV (upV (upV (upV (upV v_0 200 (upB (v_0 200) q1_ 0)) 202 (upB (v_0 202) q1_ 0)) 200 y200_4) 200 (upB y200_4 q12_ 0)) 202 (upB (upB (v_0 202) q1_ 0) q12_ 0)) 200 y200_18) 200 (upB y200_18 q32_ 0)) 202 (upB (upB (upB (v_0 202) q1_ 0) q12_ 0) q32_ 0)) 200 y200_41) 200 (upB y200_41 q61_ 0)) 202 (upB (upB (upB (upB (v_0 202) q1_ 0) q12_ 0) q32_ 0) q61_ 0)) 200 y200_73) 301 y301_99) 303 y303_132) A0 s.heap H locs := hw
  have yo132_ : ∀ b, b ≠ q132_ → ∀ i, y303_132 (pr b i) = v_0 303 (pr b i) := yo132_
  have hT132_ : WT T132_ := hw.1.2.1
  have hO132_ : ∀ x, ow T132_ x → κ 2 2 ≤ x := fun x h => hAc x (hw.2.1 x h)
  have hoT_ : OW T T132_ s.heap.size := OW.tr hw0_.2.2.1 hoT_ ho132_
  have hC_ : ∀ b, b < sz → T 0 b ≠ 10 → T 0 b ≠ 24 → T 0 b ≠ 26 → b ≠ o → ∀ j, j ≠ 197 → T132_ j b = T j b := fun b_ h1_ h2_ h3_ h4_ h5_ j_ h6_ => (hx132_ b_ (by have := hw0_.2.2.1; have := hge132_; omega) j_).trans (hC_ b_ h1_ h2_ h3_ h4_ h5_ j_ h6_)
  have hR_ : ∀ b, b < sz → b ≠ o → ∀ k, T132_ k b = T k b := fun b_ h1_ h2_ k_ => (hx132_ b_ (by have := hw0_.2.2.1; have := hge132_; omega) k_).trans (hR_ b_ h1_ h2_ k_)
  have u133_ : T132_ 0 o = 109 := (hx132_ o (Nat.ne_of_lt (Nat.lt_of_lt_of_le (cw_lt hw0_.1 u115_ (fun _ _ _ => ⟨_, rfl⟩)) hge132_)) 0).trans u115_
  have u134_ : T132_ 0 (κ 2 0) = 26 := (hx132_ (κ 2 0) (Nat.ne_of_lt (Nat.lt_of_lt_of_le (cw_lt hw0_.1 u116_ (fun _ _ _ => ⟨_, rfl⟩)) hge132_)) 0).trans u116_
  have u135_ : T132_ 0 q1_ = 10 := (hx132_ q1_ (Nat.ne_of_lt (Nat.lt_of_lt_of_le (cw_lt hw0_.1 u117_ (fun _ _ _ => ⟨_, rfl⟩)) hge132_)) 0).trans u117_
  have u136_ : T132_ 0 q12_ = 10 := (hx132_ q12_ (Nat.ne_of_lt (Nat.lt_of_lt_of_le (cw_lt hw0_.1 u118_ (fun _ _ _ => ⟨_, rfl⟩)) hge132_)) 0).trans u118_
  have u137_ : T132_ 0 q32_ = 10 := (hx132_ q32_ (Nat.ne_of_lt (Nat.lt_of_lt_of_le (cw_lt hw0_.1 u119_ (fun _ _ _ => ⟨_, rfl⟩)) hge132_)) 0).trans u119_
  have u138_ : T132_ 0 q61_ = 10 := (hx132_ q61_ (Nat.ne_of_lt (Nat.lt_of_lt_of_le (cw_lt hw0_.1 u120_ (fun _ _ _ => ⟨_, rfl⟩)) hge132_)) 0).trans u120_
  have u139_ : T132_ 0 q99_ = 21 := (hx132_ q99_ (Nat.ne_of_lt (Nat.lt_of_lt_of_le (cw_lt hw0_.1 u121_ (fun _ _ _ => ⟨_, rfl⟩)) hge132_)) 0).trans u121_
  have u140_ : T132_ 1 q99_ = 8 := (hx132_ q99_ (Nat.ne_of_lt (Nat.lt_of_lt_of_le (cw_lt hw0_.1 u121_ (fun _ _ _ => ⟨_, rfl⟩)) hge132_)) 1).trans u122_
  have u141_ : T132_ 3 q99_ = 300 * o + 184 := (hx132_ q99_ (Nat.ne_of_lt (Nat.lt_of_lt_of_le (cw_lt hw0_.1 u121_ (fun _ _ _ => ⟨_, rfl⟩)) hge132_)) 3).trans u123_
  have u142_ : T132_ 2 q1_ = 2 := (hx132_ q1_ (Nat.ne_of_lt (Nat.lt_of_lt_of_le (cw_lt hw0_.1 u117_ (fun _ _ _ => ⟨_, rfl⟩)) hge132_)) 2).trans u124_
  have u143_ : T132_ 2 q12_ = 1 := (hx132_ q12_ (Nat.ne_of_lt (Nat.lt_of_lt_of_le (cw_lt hw0_.1 u118_ (fun _ _ _ => ⟨_, rfl⟩)) hge132_)) 2).trans u125_
  have u144_ : T132_ 2 q32_ = 8 := (hx132_ q32_ (Nat.ne_of_lt (Nat.lt_of_lt_of_le (cw_lt hw0_.1 u119_ (fun _ _ _ => ⟨_, rfl⟩)) hge132_)) 2).trans u126_
  have u145_ : T132_ 2 q61_ = 7 := (hx132_ q61_ (Nat.ne_of_lt (Nat.lt_of_lt_of_le (cw_lt hw0_.1 u120_ (fun _ _ _ => ⟨_, rfl⟩)) hge132_)) 2).trans u127_
  have u146_ : T132_ 180 o = q1_ + 1 := (hx132_ o (Nat.ne_of_lt (Nat.lt_of_lt_of_le (cw_lt hw0_.1 u115_ (fun _ _ _ => ⟨_, rfl⟩)) hge132_)) 180).trans u128_
  have u147_ : T132_ 181 o = q12_ + 1 := (hx132_ o (Nat.ne_of_lt (Nat.lt_of_lt_of_le (cw_lt hw0_.1 u115_ (fun _ _ _ => ⟨_, rfl⟩)) hge132_)) 181).trans u129_
  have u148_ : T132_ 182 o = q32_ + 1 := (hx132_ o (Nat.ne_of_lt (Nat.lt_of_lt_of_le (cw_lt hw0_.1 u115_ (fun _ _ _ => ⟨_, rfl⟩)) hge132_)) 182).trans u130_
  have u149_ : T132_ 183 o = q61_ + 1 := (hx132_ o (Nat.ne_of_lt (Nat.lt_of_lt_of_le (cw_lt hw0_.1 u115_ (fun _ _ _ => ⟨_, rfl⟩)) hge132_)) 183).trans u131_
  have u150_ : T132_ 184 o = q99_ + 1 := (hx132_ o (Nat.ne_of_lt (Nat.lt_of_lt_of_le (cw_lt hw0_.1 u115_ (fun _ _ _ => ⟨_, rfl⟩)) hge132_)) 184).trans hk114_
  have hw0_ := hw
  refine rr_185 E hK hw hnm fl_X9_29 u133_ 65 rfl dX9_init_62 (fun T151_ H locs hx151_ hj151_ hk151_ ho151_ hw => ?_)
  have hT151_ : WT T151_ := hw.1.2.1
  have hO151_ : ∀ x, ow T151_ x → κ 2 2 ≤ x := fun x h => hAc x (hw.2.1 x h)
  have hoT_ : OW T T151_ s.heap.size := OW.tr0 hoT_ ho151_
  have hC_ : ∀ b, b < sz → T 0 b ≠ 10 → T 0 b ≠ 24 → T 0 b ≠ 26 → b ≠ o → ∀ j, j ≠ 197 → T151_ j b = T j b := fun b_ h1_ h2_ h3_ h4_ h5_ j_ h6_ => (hx151_ b_ h5_ j_).trans (hC_ b_ h1_ h2_ h3_ h4_ h5_ j_ h6_)
  have hR_ : ∀ b, b < sz → b ≠ o → ∀ k, T151_ k b = T k b := fun b_ h1_ h2_ k_ => (hx151_ b_ h2_ k_).trans (hR_ b_ h1_ h2_ k_)
  have u152_ : T151_ 0 o = 109 := (hj151_ 0 (by decide)).trans u133_
  have u153_ : T151_ 0 (κ 2 0) = 26 := (hx151_ (κ 2 0) (ty_ne u134_ u133_ (by decide)) 0).trans u134_
  have u154_ : T151_ 0 q1_ = 10 := (hx151_ q1_ (ty_ne u135_ u133_ (by decide)) 0).trans u135_
  have u155_ : T151_ 0 q12_ = 10 := (hx151_ q12_ (ty_ne u136_ u133_ (by decide)) 0).trans u136_
  have u156_ : T151_ 0 q32_ = 10 := (hx151_ q32_ (ty_ne u137_ u133_ (by decide)) 0).trans u137_
  have u157_ : T151_ 0 q61_ = 10 := (hx151_ q61_ (ty_ne u138_ u133_ (by decide)) 0).trans u138_
  have u158_ : T151_ 0 q99_ = 21 := (hx151_ q99_ (ty_ne u139_ u133_ (by decide)) 0).trans u139_
  have u159_ : T151_ 0 q132_ = 23 := (hx151_ q132_ (ty_ne tq132_ u133_ (by decide)) 0).trans tq132_
  have u160_ : T151_ 1 q99_ = 8 := (hx151_ q99_ (ty_ne u139_ u133_ (by decide)) 1).trans u140_
  have u161_ : T151_ 1 q132_ = 400 := (hx151_ q132_ (ty_ne tq132_ u133_ (by decide)) 1).trans tl132_
  have u162_ : T151_ 3 q99_ = 300 * o + 184 := (hx151_ q99_ (ty_ne u139_ u133_ (by decide)) 3).trans u141_
  have u163_ : T151_ 3 q132_ = 300 * o + 185 := (hx151_ q132_ (ty_ne tq132_ u133_ (by decide)) 3).trans tw132_
  have u164_ : T151_ 2 q1_ = 2 := (hx151_ q1_ (ty_ne u135_ u133_ (by decide)) 2).trans u142_
  have u165_ : T151_ 2 q12_ = 1 := (hx151_ q12_ (ty_ne u136_ u133_ (by decide)) 2).trans u143_
  have u166_ : T151_ 2 q32_ = 8 := (hx151_ q32_ (ty_ne u137_ u133_ (by decide)) 2).trans u144_
  have u167_ : T151_ 2 q61_ = 7 := (hx151_ q61_ (ty_ne u138_ u133_ (by decide)) 2).trans u145_
  have u168_ : T151_ 180 o = q1_ + 1 := (hj151_ 180 (by decide)).trans u146_
  have u169_ : T151_ 181 o = q12_ + 1 := (hj151_ 181 (by decide)).trans u147_
  have u170_ : T151_ 182 o = q32_ + 1 := (hj151_ 182 (by decide)).trans u148_
  have u171_ : T151_ 183 o = q61_ + 1 := (hj151_ 183 (by decide)).trans u149_
  have u172_ : T151_ 184 o = q99_ + 1 := (hj151_ 184 (by decide)).trans u150_
  refine j_aload_n E 66 rfl dX9_init_65 rfl (lv_at hl 0 rfl) ?_
  refine j_iconst E 67 rfl dX9_init_66 ?_
  refine rp_186 E hK hw fl_X9_33 u152_ (rr (by decide)) 70 rfl dX9_init_67 (fun H locs hw => ?_)
  have hw : WK D cy T151_ (upV (upV (upV (upV (upV (upV (upV (upV (upV (upV (upV (upV (upV (upV (upV v_0 200 (upB (v_0 200) q1_ 0)) 202 (upB (v_0 202) q1_ 0)) 200 y200_4) 200 (upB y200_4 q12_ 0)) 202 (upB (upB (v_0 202) q1_ 0) q12_ 0)) 200 y200_18) 200 (upB y200_18 q32_ 0)) 202 (upB (upB (upB (v_0 202) q1_ 0) q12_ 0) q32_ 0)) 200 y200_41) 200 (upB y200_41 q61_ 0)) 202 (upB (upB (upB (upB (v_0 202) q1_ 0) q12_ 0) q32_ 0) q61_ 0)) 200 y200_73) 301 y301_99) 303 y303_132) 186 (upB (v_0 186) o 0)) A0 s.heap H locs := hw
  refine j_aload_n E 71 rfl dX9_init_70 rfl (lv_at hl 0 rfl) ?_
  refine j_iconst E 72 rfl dX9_init_71 ?_
  refine rp_187 E hK hw fl_X9_37 u152_ (rr (by decide)) 75 rfl dX9_init_72 (fun H locs hw => ?_)
  have hw : WK D cy T151_ (upV (upV (upV (upV (upV (upV (upV (upV (upV (upV (upV (upV (upV (upV (upV (upV v_0 200 (upB (v_0 200) q1_ 0)) 202 (upB (v_0 202) q1_ 0)) 200 y200_4) 200 (upB y200_4 q12_ 0)) 202 (upB (upB (v_0 202) q1_ 0) q12_ 0)) 200 y200_18) 200 (upB y200_18 q32_ 0)) 202 (upB (upB (upB (v_0 202) q1_ 0) q12_ 0) q32_ 0)) 200 y200_41) 200 (upB y200_41 q61_ 0)) 202 (upB (upB (upB (upB (v_0 202) q1_ 0) q12_ 0) q32_ 0) q61_ 0)) 200 y200_73) 301 y301_99) 303 y303_132) 186 (upB (v_0 186) o 0)) 187 (upB (v_0 187) o 0)) A0 s.heap H locs := hw
  refine j_aload_n E 76 rfl dX9_init_75 rfl (lv_at hl 0 rfl) ?_
  refine j_iconst E 77 rfl dX9_init_76 ?_
  refine rp_188 E hK hw fl_X9_40 u152_ (rr (by decide)) 80 rfl dX9_init_77 (fun H locs hw => ?_)
  have hw : WK D cy T151_ (upV (upV (upV (upV (upV (upV (upV (upV (upV (upV (upV (upV (upV (upV (upV (upV (upV v_0 200 (upB (v_0 200) q1_ 0)) 202 (upB (v_0 202) q1_ 0)) 200 y200_4) 200 (upB y200_4 q12_ 0)) 202 (upB (upB (v_0 202) q1_ 0) q12_ 0)) 200 y200_18) 200 (upB y200_18 q32_ 0)) 202 (upB (upB (upB (v_0 202) q1_ 0) q12_ 0) q32_ 0)) 200 y200_41) 200 (upB y200_41 q61_ 0)) 202 (upB (upB (upB (upB (v_0 202) q1_ 0) q12_ 0) q32_ 0) q61_ 0)) 200 y200_73) 301 y301_99) 303 y303_132) 186 (upB (v_0 186) o 0)) 187 (upB (v_0 187) o 0)) 188 (upB (v_0 188) o ((-1)))) A0 s.heap H locs := hw
  refine j_aload_n E 81 rfl dX9_init_80 rfl (lv_at hl 0 rfl) ?_
  refine j_iconst E 82 rfl dX9_init_81 ?_
  refine rp_189 E hK hw fl_X9_43 u152_ (rr (by decide)) 85 rfl dX9_init_82 (fun H locs hw => ?_)
  have hw : WK D cy T151_ (upV (upV (upV (upV (upV (upV (upV (upV (upV (upV (upV (upV (upV (upV (upV (upV (upV (upV v_0 200 (upB (v_0 200) q1_ 0)) 202 (upB (v_0 202) q1_ 0)) 200 y200_4) 200 (upB y200_4 q12_ 0)) 202 (upB (upB (v_0 202) q1_ 0) q12_ 0)) 200 y200_18) 200 (upB y200_18 q32_ 0)) 202 (upB (upB (upB (v_0 202) q1_ 0) q12_ 0) q32_ 0)) 200 y200_41) 200 (upB y200_41 q61_ 0)) 202 (upB (upB (upB (upB (v_0 202) q1_ 0) q12_ 0) q32_ 0) q61_ 0)) 200 y200_73) 301 y301_99) 303 y303_132) 186 (upB (v_0 186) o 0)) 187 (upB (v_0 187) o 0)) 188 (upB (v_0 188) o ((-1)))) 189 (upB (v_0 189) o 0)) A0 s.heap H locs := hw
  refine j_aload_n E 86 rfl dX9_init_85 rfl (lv_at hl 0 rfl) ?_
  refine j_iconst E 87 rfl dX9_init_86 ?_
  refine rp_190 E hK hw fl_X9_46 u152_ (rr (by decide)) 90 rfl dX9_init_87 (fun H locs hw => ?_)
  have hw : WK D cy T151_ (upV (upV (upV (upV (upV (upV (upV (upV (upV (upV (upV (upV (upV (upV (upV (upV (upV (upV (upV v_0 200 (upB (v_0 200) q1_ 0)) 202 (upB (v_0 202) q1_ 0)) 200 y200_4) 200 (upB y200_4 q12_ 0)) 202 (upB (upB (v_0 202) q1_ 0) q12_ 0)) 200 y200_18) 200 (upB y200_18 q32_ 0)) 202 (upB (upB (upB (v_0 202) q1_ 0) q12_ 0) q32_ 0)) 200 y200_41) 200 (upB y200_41 q61_ 0)) 202 (upB (upB (upB (upB (v_0 202) q1_ 0) q12_ 0) q32_ 0) q61_ 0)) 200 y200_73) 301 y301_99) 303 y303_132) 186 (upB (v_0 186) o 0)) 187 (upB (v_0 187) o 0)) 188 (upB (v_0 188) o ((-1)))) 189 (upB (v_0 189) o 0)) 190 (upB (v_0 190) o 0)) A0 s.heap H locs := hw
  refine j_aload_n E 91 rfl dX9_init_90 rfl (lv_at hl 0 rfl) ?_
  refine j_iconst E 92 rfl dX9_init_91 ?_
  refine rp_191 E hK hw fl_X9_49 u152_ (rr (by decide)) 95 rfl dX9_init_92 (fun H locs hw => ?_)
  have hw : WK D cy T151_ (upV (upV (upV (upV (upV (upV (upV (upV (upV (upV (upV (upV (upV (upV (upV (upV (upV (upV (upV (upV v_0 200 (upB (v_0 200) q1_ 0)) 202 (upB (v_0 202) q1_ 0)) 200 y200_4) 200 (upB y200_4 q12_ 0)) 202 (upB (upB (v_0 202) q1_ 0) q12_ 0)) 200 y200_18) 200 (upB y200_18 q32_ 0)) 202 (upB (upB (upB (v_0 202) q1_ 0) q12_ 0) q32_ 0)) 200 y200_41) 200 (upB y200_41 q61_ 0)) 202 (upB (upB (upB (upB (v_0 202) q1_ 0) q12_ 0) q32_ 0) q61_ 0)) 200 y200_73) 301 y301_99) 303 y303_132) 186 (upB (v_0 186) o 0)) 187 (upB (v_0 187) o 0)) 188 (upB (v_0 188) o ((-1)))) 189 (upB (v_0 189) o 0)) 190 (upB (v_0 190) o 0)) 191 (upB (v_0 191) o ((-1)))) A0 s.heap H locs := hw
  refine j_aload_n E 96 rfl dX9_init_95 rfl (lv_at hl 0 rfl) ?_
  have hw0_ := hw
  refine n_obj4 E hK hw hA cl_X9_52 (Nat.le_of_ble_eq_true rfl) (Nat.le_of_ble_eq_true rfl) 99 rfl dX9_init_96 (fun q179_ T179_ H hge179_ hx179_ ho179_ tq179_ hw => ?_)
  have fq179_ : s.heap.size ≤ q179_ := Nat.le_trans hw0_.2.2.1 hge179_
  have hw : WK D cy T179_ (upV (upV (upV (upV (upV (upV (upV (upV (upV (upV (upV (upV (upV (upV (upV (upV (upV (upV (upV (upV (upV (upV (upV (upV (upV v_0 200 (upB (v_0 200) q1_ 0)) 202 (upB (v_0 202) q1_ 0)) 200 y200_4) 200 (upB y200_4 q12_ 0)) 202 (upB (upB (v_0 202) q1_ 0) q12_ 0)) 200 y200_18) 200 (upB y200_18 q32_ 0)) 202 (upB (upB (upB (v_0 202) q1_ 0) q12_ 0) q32_ 0)) 200 y200_41) 200 (upB y200_41 q61_ 0)) 202 (upB (upB (upB (upB (v_0 202) q1_ 0) q12_ 0) q32_ 0) q61_ 0)) 200 y200_73) 301 y301_99) 303 y303_132) 186 (upB (v_0 186) o 0)) 187 (upB (v_0 187) o 0)) 188 (upB (v_0 188) o ((-1)))) 189 (upB (v_0 189) o 0)) 190 (upB (v_0 190) o 0)) 191 (upB (v_0 191) o ((-1)))) 80 (upB (v_0 80) q179_ 0)) 81 (upB (v_0 81) q179_ 0)) 83 (upB (v_0 83) q179_ 0)) 84 (upB (v_0 84) q179_ 0)) 86 (upB (v_0 86) q179_ 0)) A0 s.heap H locs := hw
  have hT179_ : WT T179_ := hw.1.2.1
  have hO179_ : ∀ x, ow T179_ x → κ 2 2 ≤ x := fun x h => hAc x (hw.2.1 x h)
  have hoT_ : OW T T179_ s.heap.size := OW.tr hw0_.2.2.1 hoT_ ho179_
  have hC_ : ∀ b, b < sz → T 0 b ≠ 10 → T 0 b ≠ 24 → T 0 b ≠ 26 → b ≠ o → ∀ j, j ≠ 197 → T179_ j b = T j b := fun b_ h1_ h2_ h3_ h4_ h5_ j_ h6_ => (hx179_ b_ (by have := hw0_.2.2.1; have := hge179_; omega) j_).trans (hC_ b_ h1_ h2_ h3_ h4_ h5_ j_ h6_)
  have hR_ : ∀ b, b < sz → b ≠ o → ∀ k, T179_ k b = T k b := fun b_ h1_ h2_ k_ => (hx179_ b_ (by have := hw0_.2.2.1; have := hge179_; omega) k_).trans (hR_ b_ h1_ h2_ k_)
  have u180_ : T179_ 0 o = 109 := (hx179_ o (Nat.ne_of_lt (Nat.lt_of_lt_of_le (cw_lt hw0_.1 u152_ (fun _ _ _ => ⟨_, rfl⟩)) hge179_)) 0).trans u152_
  have u181_ : T179_ 0 (κ 2 0) = 26 := (hx179_ (κ 2 0) (Nat.ne_of_lt (Nat.lt_of_lt_of_le (cw_lt hw0_.1 u153_ (fun _ _ _ => ⟨_, rfl⟩)) hge179_)) 0).trans u153_
  have u182_ : T179_ 0 q1_ = 10 := (hx179_ q1_ (Nat.ne_of_lt (Nat.lt_of_lt_of_le (cw_lt hw0_.1 u154_ (fun _ _ _ => ⟨_, rfl⟩)) hge179_)) 0).trans u154_
  have u183_ : T179_ 0 q12_ = 10 := (hx179_ q12_ (Nat.ne_of_lt (Nat.lt_of_lt_of_le (cw_lt hw0_.1 u155_ (fun _ _ _ => ⟨_, rfl⟩)) hge179_)) 0).trans u155_
  have u184_ : T179_ 0 q32_ = 10 := (hx179_ q32_ (Nat.ne_of_lt (Nat.lt_of_lt_of_le (cw_lt hw0_.1 u156_ (fun _ _ _ => ⟨_, rfl⟩)) hge179_)) 0).trans u156_
  have u185_ : T179_ 0 q61_ = 10 := (hx179_ q61_ (Nat.ne_of_lt (Nat.lt_of_lt_of_le (cw_lt hw0_.1 u157_ (fun _ _ _ => ⟨_, rfl⟩)) hge179_)) 0).trans u157_
  have u186_ : T179_ 0 q99_ = 21 := (hx179_ q99_ (Nat.ne_of_lt (Nat.lt_of_lt_of_le (cw_lt hw0_.1 u158_ (fun _ _ _ => ⟨_, rfl⟩)) hge179_)) 0).trans u158_
  have u187_ : T179_ 0 q132_ = 23 := (hx179_ q132_ (Nat.ne_of_lt (Nat.lt_of_lt_of_le (cw_lt hw0_.1 u159_ (fun _ _ _ => ⟨_, rfl⟩)) hge179_)) 0).trans u159_
  have u188_ : T179_ 1 q99_ = 8 := (hx179_ q99_ (Nat.ne_of_lt (Nat.lt_of_lt_of_le (cw_lt hw0_.1 u158_ (fun _ _ _ => ⟨_, rfl⟩)) hge179_)) 1).trans u160_
  have u189_ : T179_ 1 q132_ = 400 := (hx179_ q132_ (Nat.ne_of_lt (Nat.lt_of_lt_of_le (cw_lt hw0_.1 u159_ (fun _ _ _ => ⟨_, rfl⟩)) hge179_)) 1).trans u161_
  have u190_ : T179_ 3 q99_ = 300 * o + 184 := (hx179_ q99_ (Nat.ne_of_lt (Nat.lt_of_lt_of_le (cw_lt hw0_.1 u158_ (fun _ _ _ => ⟨_, rfl⟩)) hge179_)) 3).trans u162_
  have u191_ : T179_ 3 q132_ = 300 * o + 185 := (hx179_ q132_ (Nat.ne_of_lt (Nat.lt_of_lt_of_le (cw_lt hw0_.1 u159_ (fun _ _ _ => ⟨_, rfl⟩)) hge179_)) 3).trans u163_
  have u192_ : T179_ 2 q1_ = 2 := (hx179_ q1_ (Nat.ne_of_lt (Nat.lt_of_lt_of_le (cw_lt hw0_.1 u154_ (fun _ _ _ => ⟨_, rfl⟩)) hge179_)) 2).trans u164_
  have u193_ : T179_ 2 q12_ = 1 := (hx179_ q12_ (Nat.ne_of_lt (Nat.lt_of_lt_of_le (cw_lt hw0_.1 u155_ (fun _ _ _ => ⟨_, rfl⟩)) hge179_)) 2).trans u165_
  have u194_ : T179_ 2 q32_ = 8 := (hx179_ q32_ (Nat.ne_of_lt (Nat.lt_of_lt_of_le (cw_lt hw0_.1 u156_ (fun _ _ _ => ⟨_, rfl⟩)) hge179_)) 2).trans u166_
  have u195_ : T179_ 2 q61_ = 7 := (hx179_ q61_ (Nat.ne_of_lt (Nat.lt_of_lt_of_le (cw_lt hw0_.1 u157_ (fun _ _ _ => ⟨_, rfl⟩)) hge179_)) 2).trans u167_
  have u196_ : T179_ 180 o = q1_ + 1 := (hx179_ o (Nat.ne_of_lt (Nat.lt_of_lt_of_le (cw_lt hw0_.1 u152_ (fun _ _ _ => ⟨_, rfl⟩)) hge179_)) 180).trans u168_
  have u197_ : T179_ 181 o = q12_ + 1 := (hx179_ o (Nat.ne_of_lt (Nat.lt_of_lt_of_le (cw_lt hw0_.1 u152_ (fun _ _ _ => ⟨_, rfl⟩)) hge179_)) 181).trans u169_
  have u198_ : T179_ 182 o = q32_ + 1 := (hx179_ o (Nat.ne_of_lt (Nat.lt_of_lt_of_le (cw_lt hw0_.1 u152_ (fun _ _ _ => ⟨_, rfl⟩)) hge179_)) 182).trans u170_
  have u199_ : T179_ 183 o = q61_ + 1 := (hx179_ o (Nat.ne_of_lt (Nat.lt_of_lt_of_le (cw_lt hw0_.1 u152_ (fun _ _ _ => ⟨_, rfl⟩)) hge179_)) 183).trans u171_
  have u200_ : T179_ 184 o = q99_ + 1 := (hx179_ o (Nat.ne_of_lt (Nat.lt_of_lt_of_le (cw_lt hw0_.1 u152_ (fun _ _ _ => ⟨_, rfl⟩)) hge179_)) 184).trans u172_
  have u201_ : T179_ 185 o = q132_ + 1 := (hx179_ o (Nat.ne_of_lt (Nat.lt_of_lt_of_le (cw_lt hw0_.1 u152_ (fun _ _ _ => ⟨_, rfl⟩)) hge179_)) 185).trans hk151_
  refine j_dup E 100 rfl dX9_init_99 rfl ?_
  have hw0_ := hw
  refine aN_v E (n_X3_init l D cy κ T179_ (upV (upV (upV (upV (upV (upV (upV (upV (upV (upV (upV (upV (upV (upV (upV (upV (upV (upV (upV (upV (upV (upV (upV (upV (upV v_0 200 (upB (v_0 200) q1_ 0)) 202 (upB (v_0 202) q1_ 0)) 200 y200_4) 200 (upB y200_4 q12_ 0)) 202 (upB (upB (v_0 202) q1_ 0) q12_ 0)) 200 y200_18) 200 (upB y200_18 q32_ 0)) 202 (upB (upB (upB (v_0 202) q1_ 0) q12_ 0) q32_ 0)) 200 y200_41) 200 (upB y200_41 q61_ 0)) 202 (upB (upB (upB (upB (v_0 202) q1_ 0) q12_ 0) q32_ 0) q61_ 0)) 200 y200_73) 301 y301_99) 303 y303_132) 186 (upB (v_0 186) o 0)) 187 (upB (v_0 187) o 0)) 188 (upB (v_0 188) o ((-1)))) 189 (upB (v_0 189) o 0)) 190 (upB (v_0 190) o 0)) 191 (upB (v_0 191) o ((-1)))) 80 (upB (v_0 80) q179_ 0)) 81 (upB (v_0 81) q179_ 0)) 83 (upB (v_0 83) q179_ 0)) 84 (upB (v_0 84) q179_ 0)) 86 (upB (v_0 86) q179_ 0)) q179_ H.size  hO179_ tq179_  ) mi_X3_init hZ.1.mR hK hZ hAc hw hA ⟨(Nat.le_of_ble_eq_true rfl), (Nat.le_of_ble_eq_true rfl)⟩ ⟨(Nat.le_of_ble_eq_true rfl), (Nat.le_of_ble_eq_true rfl)⟩ (As := []) (rest := [.ref q179_, .ref o]) rfl rfl hl.1 (Nat.le_of_ble_eq_true rfl) 103 rfl dX9_init_100 (fun T202_ v_202 H locs hge202_ ho202_ hq202_ hw => ?_)
  obtain ⟨y80_202, y81_202, y83_202, y84_202, y86_202, y123_202, y124_202, y300_202, ev202_, hh202_⟩ := hq202_
  rw [ev202_] at hw; clear ev202_
  obtain ⟨hh202_, kf202_⟩ := hh202_
  have kd203_ : KdA_ T sz [] (v_0 300) (y300_202) := KdA_tr KdA_rf (KdA_ka kf202_ (by have := hw0_.2.2.1; omega) (by decide) (C20_ hC_ t_o (by decide)))
  obtain ⟨hx202_, tq202_⟩ := hh202_
  have hT202_ : WT T202_ := hw.1.2.1
  have hO202_ : ∀ x, ow T202_ x → κ 2 2 ≤ x := fun x h => hAc x (hw.2.1 x h)
  have hoT_ : OW T T202_ s.heap.size := OW.tr hw0_.2.2.1 hoT_ ho202_
  have hC_ : ∀ b, b < sz → T 0 b ≠ 10 → T 0 b ≠ 24 → T 0 b ≠ 26 → b ≠ o → ∀ j, j ≠ 197 → T202_ j b = T j b := fun b_ h1_ h2_ h3_ h4_ h5_ j_ h6_ => (hx202_ b_ (by have := hw0_.2.2.1; omega) (by have := fq179_; omega) j_).trans (hC_ b_ h1_ h2_ h3_ h4_ h5_ j_ h6_)
  have hR_ : ∀ b, b < sz → b ≠ o → ∀ k, T202_ k b = T k b := fun b_ h1_ h2_ k_ => (hx202_ b_ (by have := hw0_.2.2.1; omega) (by have := fq179_; omega) k_).trans (hR_ b_ h1_ h2_ k_)
  have u204_ : T202_ 0 o = 109 := (hx202_ o (cw_lt hw0_.1 u180_ (fun _ _ _ => ⟨_, rfl⟩)) (ty_ne u180_ tq179_ (by decide)) 0).trans u180_
  have u205_ : T202_ 0 (κ 2 0) = 26 := (hx202_ (κ 2 0) (cw_lt hw0_.1 u181_ (fun _ _ _ => ⟨_, rfl⟩)) (ty_ne u181_ tq179_ (by decide)) 0).trans u181_
  have u206_ : T202_ 0 q1_ = 10 := (hx202_ q1_ (cw_lt hw0_.1 u182_ (fun _ _ _ => ⟨_, rfl⟩)) (ty_ne u182_ tq179_ (by decide)) 0).trans u182_
  have u207_ : T202_ 0 q12_ = 10 := (hx202_ q12_ (cw_lt hw0_.1 u183_ (fun _ _ _ => ⟨_, rfl⟩)) (ty_ne u183_ tq179_ (by decide)) 0).trans u183_
  have u208_ : T202_ 0 q32_ = 10 := (hx202_ q32_ (cw_lt hw0_.1 u184_ (fun _ _ _ => ⟨_, rfl⟩)) (ty_ne u184_ tq179_ (by decide)) 0).trans u184_
  have u209_ : T202_ 0 q61_ = 10 := (hx202_ q61_ (cw_lt hw0_.1 u185_ (fun _ _ _ => ⟨_, rfl⟩)) (ty_ne u185_ tq179_ (by decide)) 0).trans u185_
  have u210_ : T202_ 0 q99_ = 21 := (hx202_ q99_ (cw_lt hw0_.1 u186_ (fun _ _ _ => ⟨_, rfl⟩)) (ty_ne u186_ tq179_ (by decide)) 0).trans u186_
  have u211_ : T202_ 0 q132_ = 23 := (hx202_ q132_ (cw_lt hw0_.1 u187_ (fun _ _ _ => ⟨_, rfl⟩)) (ty_ne u187_ tq179_ (by decide)) 0).trans u187_
  have u212_ : T202_ 1 q99_ = 8 := (hx202_ q99_ (cw_lt hw0_.1 u186_ (fun _ _ _ => ⟨_, rfl⟩)) (ty_ne u186_ tq179_ (by decide)) 1).trans u188_
  have u213_ : T202_ 1 q132_ = 400 := (hx202_ q132_ (cw_lt hw0_.1 u187_ (fun _ _ _ => ⟨_, rfl⟩)) (ty_ne u187_ tq179_ (by decide)) 1).trans u189_
  have u214_ : T202_ 3 q99_ = 300 * o + 184 := (hx202_ q99_ (cw_lt hw0_.1 u186_ (fun _ _ _ => ⟨_, rfl⟩)) (ty_ne u186_ tq179_ (by decide)) 3).trans u190_
  have u215_ : T202_ 3 q132_ = 300 * o + 185 := (hx202_ q132_ (cw_lt hw0_.1 u187_ (fun _ _ _ => ⟨_, rfl⟩)) (ty_ne u187_ tq179_ (by decide)) 3).trans u191_
  have u216_ : T202_ 2 q1_ = 2 := (hx202_ q1_ (cw_lt hw0_.1 u182_ (fun _ _ _ => ⟨_, rfl⟩)) (ty_ne u182_ tq179_ (by decide)) 2).trans u192_
  have u217_ : T202_ 2 q12_ = 1 := (hx202_ q12_ (cw_lt hw0_.1 u183_ (fun _ _ _ => ⟨_, rfl⟩)) (ty_ne u183_ tq179_ (by decide)) 2).trans u193_
  have u218_ : T202_ 2 q32_ = 8 := (hx202_ q32_ (cw_lt hw0_.1 u184_ (fun _ _ _ => ⟨_, rfl⟩)) (ty_ne u184_ tq179_ (by decide)) 2).trans u194_
  have u219_ : T202_ 2 q61_ = 7 := (hx202_ q61_ (cw_lt hw0_.1 u185_ (fun _ _ _ => ⟨_, rfl⟩)) (ty_ne u185_ tq179_ (by decide)) 2).trans u195_
  have u220_ : T202_ 180 o = q1_ + 1 := (hx202_ o (cw_lt hw0_.1 u180_ (fun _ _ _ => ⟨_, rfl⟩)) (ty_ne u180_ tq179_ (by decide)) 180).trans u196_
  have u221_ : T202_ 181 o = q12_ + 1 := (hx202_ o (cw_lt hw0_.1 u180_ (fun _ _ _ => ⟨_, rfl⟩)) (ty_ne u180_ tq179_ (by decide)) 181).trans u197_
  have u222_ : T202_ 182 o = q32_ + 1 := (hx202_ o (cw_lt hw0_.1 u180_ (fun _ _ _ => ⟨_, rfl⟩)) (ty_ne u180_ tq179_ (by decide)) 182).trans u198_
  have u223_ : T202_ 183 o = q61_ + 1 := (hx202_ o (cw_lt hw0_.1 u180_ (fun _ _ _ => ⟨_, rfl⟩)) (ty_ne u180_ tq179_ (by decide)) 183).trans u199_
  have u224_ : T202_ 184 o = q99_ + 1 := (hx202_ o (cw_lt hw0_.1 u180_ (fun _ _ _ => ⟨_, rfl⟩)) (ty_ne u180_ tq179_ (by decide)) 184).trans u200_
  have u225_ : T202_ 185 o = q132_ + 1 := (hx202_ o (cw_lt hw0_.1 u180_ (fun _ _ _ => ⟨_, rfl⟩)) (ty_ne u180_ tq179_ (by decide)) 185).trans u201_
  have hw0_ := hw
  refine rr_192 E hK hw hnm fl_X9_55 u204_ 106 rfl dX9_init_103 (fun T226_ H locs hx226_ hj226_ hk226_ ho226_ hw => ?_)
  have hT226_ : WT T226_ := hw.1.2.1
  have hO226_ : ∀ x, ow T226_ x → κ 2 2 ≤ x := fun x h => hAc x (hw.2.1 x h)
  have hoT_ : OW T T226_ s.heap.size := OW.tr0 hoT_ ho226_
  have hC_ : ∀ b, b < sz → T 0 b ≠ 10 → T 0 b ≠ 24 → T 0 b ≠ 26 → b ≠ o → ∀ j, j ≠ 197 → T226_ j b = T j b := fun b_ h1_ h2_ h3_ h4_ h5_ j_ h6_ => (hx226_ b_ h5_ j_).trans (hC_ b_ h1_ h2_ h3_ h4_ h5_ j_ h6_)
  have hR_ : ∀ b, b < sz → b ≠ o → ∀ k, T226_ k b = T k b := fun b_ h1_ h2_ k_ => (hx226_ b_ h2_ k_).trans (hR_ b_ h1_ h2_ k_)
  have u227_ : T226_ 0 o = 109 := (hj226_ 0 (by decide)).trans u204_
  have u228_ : T226_ 0 (κ 2 0) = 26 := (hx226_ (κ 2 0) (ty_ne u205_ u204_ (by decide)) 0).trans u205_
  have u229_ : T226_ 0 q1_ = 10 := (hx226_ q1_ (ty_ne u206_ u204_ (by decide)) 0).trans u206_
  have u230_ : T226_ 0 q12_ = 10 := (hx226_ q12_ (ty_ne u207_ u204_ (by decide)) 0).trans u207_
  have u231_ : T226_ 0 q32_ = 10 := (hx226_ q32_ (ty_ne u208_ u204_ (by decide)) 0).trans u208_
  have u232_ : T226_ 0 q61_ = 10 := (hx226_ q61_ (ty_ne u209_ u204_ (by decide)) 0).trans u209_
  have u233_ : T226_ 0 q99_ = 21 := (hx226_ q99_ (ty_ne u210_ u204_ (by decide)) 0).trans u210_
  have u234_ : T226_ 0 q132_ = 23 := (hx226_ q132_ (ty_ne u211_ u204_ (by decide)) 0).trans u211_
  have u235_ : T226_ 0 q179_ = 4 := (hx226_ q179_ (ty_ne tq202_ u204_ (by decide)) 0).trans tq202_
  have u236_ : T226_ 1 q99_ = 8 := (hx226_ q99_ (ty_ne u210_ u204_ (by decide)) 1).trans u212_
  have u237_ : T226_ 1 q132_ = 400 := (hx226_ q132_ (ty_ne u211_ u204_ (by decide)) 1).trans u213_
  have u238_ : T226_ 3 q99_ = 300 * o + 184 := (hx226_ q99_ (ty_ne u210_ u204_ (by decide)) 3).trans u214_
  have u239_ : T226_ 3 q132_ = 300 * o + 185 := (hx226_ q132_ (ty_ne u211_ u204_ (by decide)) 3).trans u215_
  have u240_ : T226_ 2 q1_ = 2 := (hx226_ q1_ (ty_ne u206_ u204_ (by decide)) 2).trans u216_
  have u241_ : T226_ 2 q12_ = 1 := (hx226_ q12_ (ty_ne u207_ u204_ (by decide)) 2).trans u217_
  have u242_ : T226_ 2 q32_ = 8 := (hx226_ q32_ (ty_ne u208_ u204_ (by decide)) 2).trans u218_
  have u243_ : T226_ 2 q61_ = 7 := (hx226_ q61_ (ty_ne u209_ u204_ (by decide)) 2).trans u219_
  have u244_ : T226_ 180 o = q1_ + 1 := (hj226_ 180 (by decide)).trans u220_
  have u245_ : T226_ 181 o = q12_ + 1 := (hj226_ 181 (by decide)).trans u221_
  have u246_ : T226_ 182 o = q32_ + 1 := (hj226_ 182 (by decide)).trans u222_
  have u247_ : T226_ 183 o = q61_ + 1 := (hj226_ 183 (by decide)).trans u223_
  have u248_ : T226_ 184 o = q99_ + 1 := (hj226_ 184 (by decide)).trans u224_
  have u249_ : T226_ 185 o = q132_ + 1 := (hj226_ 185 (by decide)).trans u225_
  refine j_aload_n E 107 rfl dX9_init_106 rfl (lv_at hl 0 rfl) ?_
  have hw0_ := hw
  refine n_obj5 E hK hw hA cl_X9_59 (Nat.le_of_ble_eq_true rfl) (Nat.le_of_ble_eq_true rfl) 110 rfl dX9_init_107 (fun q250_ T250_ H hge250_ hx250_ ho250_ tq250_ hw => ?_)
  have fq250_ : s.heap.size ≤ q250_ := Nat.le_trans hw0_.2.2.1 hge250_
  have hw : WK D cy T250_ (upV (upV (upV (upV (upV (upV (upV (upV (upV (upV (upV (upV (upV (upV (upV (upV (upV (upV (upV (upV (upV (upV (upV (upV (upV (upV (upV (upV (upV (upV (upV (upV (upV (upV v_0 200 (upB (v_0 200) q1_ 0)) 202 (upB (v_0 202) q1_ 0)) 200 y200_4) 200 (upB y200_4 q12_ 0)) 202 (upB (upB (v_0 202) q1_ 0) q12_ 0)) 200 y200_18) 200 (upB y200_18 q32_ 0)) 202 (upB (upB (upB (v_0 202) q1_ 0) q12_ 0) q32_ 0)) 200 y200_41) 200 (upB y200_41 q61_ 0)) 202 (upB (upB (upB (upB (v_0 202) q1_ 0) q12_ 0) q32_ 0) q61_ 0)) 200 y200_73) 301 y301_99) 303 y303_132) 186 (upB (v_0 186) o 0)) 187 (upB (v_0 187) o 0)) 188 (upB (v_0 188) o ((-1)))) 189 (upB (v_0 189) o 0)) 190 (upB (v_0 190) o 0)) 191 (upB (v_0 191) o ((-1)))) 80 (upB (v_0 80) q179_ 0)) 81 (upB (v_0 81) q179_ 0)) 83 (upB (v_0 83) q179_ 0)) 84 (upB (v_0 84) q179_ 0)) 86 (upB (v_0 86) q179_ 0)) 80 y80_202) 81 y81_202) 83 y83_202) 84 y84_202) 86 y86_202) 123 y123_202) 124 y124_202) 300 y300_202) 103 (upB (v_0 103) q250_ 0)) A0 s.heap H locs := hw
  have hT250_ : WT T250_ := hw.1.2.1
  have hO250_ : ∀ x, ow T250_ x → κ 2 2 ≤ x := fun x h => hAc x (hw.2.1 x h)
  have hoT_ : OW T T250_ s.heap.size := OW.tr hw0_.2.2.1 hoT_ ho250_
  have hC_ : ∀ b, b < sz → T 0 b ≠ 10 → T 0 b ≠ 24 → T 0 b ≠ 26 → b ≠ o → ∀ j, j ≠ 197 → T250_ j b = T j b := fun b_ h1_ h2_ h3_ h4_ h5_ j_ h6_ => (hx250_ b_ (by have := hw0_.2.2.1; have := hge250_; omega) j_).trans (hC_ b_ h1_ h2_ h3_ h4_ h5_ j_ h6_)
  have hR_ : ∀ b, b < sz → b ≠ o → ∀ k, T250_ k b = T k b := fun b_ h1_ h2_ k_ => (hx250_ b_ (by have := hw0_.2.2.1; have := hge250_; omega) k_).trans (hR_ b_ h1_ h2_ k_)
  have u251_ : T250_ 0 o = 109 := (hx250_ o (Nat.ne_of_lt (Nat.lt_of_lt_of_le (cw_lt hw0_.1 u227_ (fun _ _ _ => ⟨_, rfl⟩)) hge250_)) 0).trans u227_
  have u252_ : T250_ 0 (κ 2 0) = 26 := (hx250_ (κ 2 0) (Nat.ne_of_lt (Nat.lt_of_lt_of_le (cw_lt hw0_.1 u228_ (fun _ _ _ => ⟨_, rfl⟩)) hge250_)) 0).trans u228_
  have u253_ : T250_ 0 q1_ = 10 := (hx250_ q1_ (Nat.ne_of_lt (Nat.lt_of_lt_of_le (cw_lt hw0_.1 u229_ (fun _ _ _ => ⟨_, rfl⟩)) hge250_)) 0).trans u229_
  have u254_ : T250_ 0 q12_ = 10 := (hx250_ q12_ (Nat.ne_of_lt (Nat.lt_of_lt_of_le (cw_lt hw0_.1 u230_ (fun _ _ _ => ⟨_, rfl⟩)) hge250_)) 0).trans u230_
  have u255_ : T250_ 0 q32_ = 10 := (hx250_ q32_ (Nat.ne_of_lt (Nat.lt_of_lt_of_le (cw_lt hw0_.1 u231_ (fun _ _ _ => ⟨_, rfl⟩)) hge250_)) 0).trans u231_
  have u256_ : T250_ 0 q61_ = 10 := (hx250_ q61_ (Nat.ne_of_lt (Nat.lt_of_lt_of_le (cw_lt hw0_.1 u232_ (fun _ _ _ => ⟨_, rfl⟩)) hge250_)) 0).trans u232_
  have u257_ : T250_ 0 q99_ = 21 := (hx250_ q99_ (Nat.ne_of_lt (Nat.lt_of_lt_of_le (cw_lt hw0_.1 u233_ (fun _ _ _ => ⟨_, rfl⟩)) hge250_)) 0).trans u233_
  have u258_ : T250_ 0 q132_ = 23 := (hx250_ q132_ (Nat.ne_of_lt (Nat.lt_of_lt_of_le (cw_lt hw0_.1 u234_ (fun _ _ _ => ⟨_, rfl⟩)) hge250_)) 0).trans u234_
  have u259_ : T250_ 0 q179_ = 4 := (hx250_ q179_ (Nat.ne_of_lt (Nat.lt_of_lt_of_le (cw_lt hw0_.1 u235_ (fun _ _ _ => ⟨_, rfl⟩)) hge250_)) 0).trans u235_
  have u260_ : T250_ 1 q99_ = 8 := (hx250_ q99_ (Nat.ne_of_lt (Nat.lt_of_lt_of_le (cw_lt hw0_.1 u233_ (fun _ _ _ => ⟨_, rfl⟩)) hge250_)) 1).trans u236_
  have u261_ : T250_ 1 q132_ = 400 := (hx250_ q132_ (Nat.ne_of_lt (Nat.lt_of_lt_of_le (cw_lt hw0_.1 u234_ (fun _ _ _ => ⟨_, rfl⟩)) hge250_)) 1).trans u237_
  have u262_ : T250_ 3 q99_ = 300 * o + 184 := (hx250_ q99_ (Nat.ne_of_lt (Nat.lt_of_lt_of_le (cw_lt hw0_.1 u233_ (fun _ _ _ => ⟨_, rfl⟩)) hge250_)) 3).trans u238_
  have u263_ : T250_ 3 q132_ = 300 * o + 185 := (hx250_ q132_ (Nat.ne_of_lt (Nat.lt_of_lt_of_le (cw_lt hw0_.1 u234_ (fun _ _ _ => ⟨_, rfl⟩)) hge250_)) 3).trans u239_
  have u264_ : T250_ 2 q1_ = 2 := (hx250_ q1_ (Nat.ne_of_lt (Nat.lt_of_lt_of_le (cw_lt hw0_.1 u229_ (fun _ _ _ => ⟨_, rfl⟩)) hge250_)) 2).trans u240_
  have u265_ : T250_ 2 q12_ = 1 := (hx250_ q12_ (Nat.ne_of_lt (Nat.lt_of_lt_of_le (cw_lt hw0_.1 u230_ (fun _ _ _ => ⟨_, rfl⟩)) hge250_)) 2).trans u241_
  have u266_ : T250_ 2 q32_ = 8 := (hx250_ q32_ (Nat.ne_of_lt (Nat.lt_of_lt_of_le (cw_lt hw0_.1 u231_ (fun _ _ _ => ⟨_, rfl⟩)) hge250_)) 2).trans u242_
  have u267_ : T250_ 2 q61_ = 7 := (hx250_ q61_ (Nat.ne_of_lt (Nat.lt_of_lt_of_le (cw_lt hw0_.1 u232_ (fun _ _ _ => ⟨_, rfl⟩)) hge250_)) 2).trans u243_
  have u268_ : T250_ 180 o = q1_ + 1 := (hx250_ o (Nat.ne_of_lt (Nat.lt_of_lt_of_le (cw_lt hw0_.1 u227_ (fun _ _ _ => ⟨_, rfl⟩)) hge250_)) 180).trans u244_
  have u269_ : T250_ 181 o = q12_ + 1 := (hx250_ o (Nat.ne_of_lt (Nat.lt_of_lt_of_le (cw_lt hw0_.1 u227_ (fun _ _ _ => ⟨_, rfl⟩)) hge250_)) 181).trans u245_
  have u270_ : T250_ 182 o = q32_ + 1 := (hx250_ o (Nat.ne_of_lt (Nat.lt_of_lt_of_le (cw_lt hw0_.1 u227_ (fun _ _ _ => ⟨_, rfl⟩)) hge250_)) 182).trans u246_
  have u271_ : T250_ 183 o = q61_ + 1 := (hx250_ o (Nat.ne_of_lt (Nat.lt_of_lt_of_le (cw_lt hw0_.1 u227_ (fun _ _ _ => ⟨_, rfl⟩)) hge250_)) 183).trans u247_
  have u272_ : T250_ 184 o = q99_ + 1 := (hx250_ o (Nat.ne_of_lt (Nat.lt_of_lt_of_le (cw_lt hw0_.1 u227_ (fun _ _ _ => ⟨_, rfl⟩)) hge250_)) 184).trans u248_
  have u273_ : T250_ 185 o = q132_ + 1 := (hx250_ o (Nat.ne_of_lt (Nat.lt_of_lt_of_le (cw_lt hw0_.1 u227_ (fun _ _ _ => ⟨_, rfl⟩)) hge250_)) 185).trans u249_
  have u274_ : T250_ 192 o = q179_ + 1 := (hx250_ o (Nat.ne_of_lt (Nat.lt_of_lt_of_le (cw_lt hw0_.1 u227_ (fun _ _ _ => ⟨_, rfl⟩)) hge250_)) 192).trans hk226_
  refine j_dup E 111 rfl dX9_init_110 rfl ?_
  have hw0_ := hw
  refine aN_v E (n_X4_init l D cy κ T250_ (upV (upV (upV (upV (upV (upV (upV (upV (upV (upV (upV (upV (upV (upV (upV (upV (upV (upV (upV (upV (upV (upV (upV (upV (upV (upV (upV (upV (upV (upV (upV (upV (upV (upV v_0 200 (upB (v_0 200) q1_ 0)) 202 (upB (v_0 202) q1_ 0)) 200 y200_4) 200 (upB y200_4 q12_ 0)) 202 (upB (upB (v_0 202) q1_ 0) q12_ 0)) 200 y200_18) 200 (upB y200_18 q32_ 0)) 202 (upB (upB (upB (v_0 202) q1_ 0) q12_ 0) q32_ 0)) 200 y200_41) 200 (upB y200_41 q61_ 0)) 202 (upB (upB (upB (upB (v_0 202) q1_ 0) q12_ 0) q32_ 0) q61_ 0)) 200 y200_73) 301 y301_99) 303 y303_132) 186 (upB (v_0 186) o 0)) 187 (upB (v_0 187) o 0)) 188 (upB (v_0 188) o ((-1)))) 189 (upB (v_0 189) o 0)) 190 (upB (v_0 190) o 0)) 191 (upB (v_0 191) o ((-1)))) 80 (upB (v_0 80) q179_ 0)) 81 (upB (v_0 81) q179_ 0)) 83 (upB (v_0 83) q179_ 0)) 84 (upB (v_0 84) q179_ 0)) 86 (upB (v_0 86) q179_ 0)) 80 y80_202) 81 y81_202) 83 y83_202) 84 y84_202) 86 y86_202) 123 y123_202) 124 y124_202) 300 y300_202) 103 (upB (v_0 103) q250_ 0)) q250_ H.size  hO250_ tq250_  ) mi_X4_init hZ.1.mK hK hZ hAc hw hA ⟨(Nat.le_of_ble_eq_true rfl), (Nat.le_of_ble_eq_true rfl)⟩ ⟨(Nat.le_of_ble_eq_true rfl), (Nat.le_of_ble_eq_true rfl)⟩ (As := []) (rest := [.ref q250_, .ref o]) rfl rfl hl.1 (Nat.le_of_ble_eq_true rfl) 114 rfl dX9_init_111 (fun T275_ v_275 H locs hge275_ ho275_ hq275_ hw => ?_)
  obtain ⟨y103_275, y300_275, ev275_, hh275_⟩ := hq275_
  rw [ev275_] at hw; clear ev275_
  obtain ⟨hh275_, kf275_⟩ := hh275_
  have kd276_ : KdA_ T sz [] (v_0 300) (y300_275) := KdA_tr kd203_ (KdA_ka kf275_ (by have := hw0_.2.2.1; omega) (by decide) (C20_ hC_ t_o (by decide)))
  obtain ⟨hx275_, tq275_⟩ := hh275_
  have hT275_ : WT T275_ := hw.1.2.1
  have hO275_ : ∀ x, ow T275_ x → κ 2 2 ≤ x := fun x h => hAc x (hw.2.1 x h)
  have hoT_ : OW T T275_ s.heap.size := OW.tr hw0_.2.2.1 hoT_ ho275_
  have hC_ : ∀ b, b < sz → T 0 b ≠ 10 → T 0 b ≠ 24 → T 0 b ≠ 26 → b ≠ o → ∀ j, j ≠ 197 → T275_ j b = T j b := fun b_ h1_ h2_ h3_ h4_ h5_ j_ h6_ => (hx275_ b_ (by have := hw0_.2.2.1; omega) (by have := fq250_; omega) j_).trans (hC_ b_ h1_ h2_ h3_ h4_ h5_ j_ h6_)
  have hR_ : ∀ b, b < sz → b ≠ o → ∀ k, T275_ k b = T k b := fun b_ h1_ h2_ k_ => (hx275_ b_ (by have := hw0_.2.2.1; omega) (by have := fq250_; omega) k_).trans (hR_ b_ h1_ h2_ k_)
  have u277_ : T275_ 0 o = 109 := (hx275_ o (cw_lt hw0_.1 u251_ (fun _ _ _ => ⟨_, rfl⟩)) (ty_ne u251_ tq250_ (by decide)) 0).trans u251_
  have u278_ : T275_ 0 (κ 2 0) = 26 := (hx275_ (κ 2 0) (cw_lt hw0_.1 u252_ (fun _ _ _ => ⟨_, rfl⟩)) (ty_ne u252_ tq250_ (by decide)) 0).trans u252_
  have u279_ : T275_ 0 q1_ = 10 := (hx275_ q1_ (cw_lt hw0_.1 u253_ (fun _ _ _ => ⟨_, rfl⟩)) (ty_ne u253_ tq250_ (by decide)) 0).trans u253_
  have u280_ : T275_ 0 q12_ = 10 := (hx275_ q12_ (cw_lt hw0_.1 u254_ (fun _ _ _ => ⟨_, rfl⟩)) (ty_ne u254_ tq250_ (by decide)) 0).trans u254_
  have u281_ : T275_ 0 q32_ = 10 := (hx275_ q32_ (cw_lt hw0_.1 u255_ (fun _ _ _ => ⟨_, rfl⟩)) (ty_ne u255_ tq250_ (by decide)) 0).trans u255_
  have u282_ : T275_ 0 q61_ = 10 := (hx275_ q61_ (cw_lt hw0_.1 u256_ (fun _ _ _ => ⟨_, rfl⟩)) (ty_ne u256_ tq250_ (by decide)) 0).trans u256_
  have u283_ : T275_ 0 q99_ = 21 := (hx275_ q99_ (cw_lt hw0_.1 u257_ (fun _ _ _ => ⟨_, rfl⟩)) (ty_ne u257_ tq250_ (by decide)) 0).trans u257_
  have u284_ : T275_ 0 q132_ = 23 := (hx275_ q132_ (cw_lt hw0_.1 u258_ (fun _ _ _ => ⟨_, rfl⟩)) (ty_ne u258_ tq250_ (by decide)) 0).trans u258_
  have u285_ : T275_ 0 q179_ = 4 := (hx275_ q179_ (cw_lt hw0_.1 u259_ (fun _ _ _ => ⟨_, rfl⟩)) (ty_ne u259_ tq250_ (by decide)) 0).trans u259_
  have u286_ : T275_ 1 q99_ = 8 := (hx275_ q99_ (cw_lt hw0_.1 u257_ (fun _ _ _ => ⟨_, rfl⟩)) (ty_ne u257_ tq250_ (by decide)) 1).trans u260_
  have u287_ : T275_ 1 q132_ = 400 := (hx275_ q132_ (cw_lt hw0_.1 u258_ (fun _ _ _ => ⟨_, rfl⟩)) (ty_ne u258_ tq250_ (by decide)) 1).trans u261_
  have u288_ : T275_ 3 q99_ = 300 * o + 184 := (hx275_ q99_ (cw_lt hw0_.1 u257_ (fun _ _ _ => ⟨_, rfl⟩)) (ty_ne u257_ tq250_ (by decide)) 3).trans u262_
  have u289_ : T275_ 3 q132_ = 300 * o + 185 := (hx275_ q132_ (cw_lt hw0_.1 u258_ (fun _ _ _ => ⟨_, rfl⟩)) (ty_ne u258_ tq250_ (by decide)) 3).trans u263_
  have u290_ : T275_ 2 q1_ = 2 := (hx275_ q1_ (cw_lt hw0_.1 u253_ (fun _ _ _ => ⟨_, rfl⟩)) (ty_ne u253_ tq250_ (by decide)) 2).trans u264_
  have u291_ : T275_ 2 q12_ = 1 := (hx275_ q12_ (cw_lt hw0_.1 u254_ (fun _ _ _ => ⟨_, rfl⟩)) (ty_ne u254_ tq250_ (by decide)) 2).trans u265_
  have u292_ : T275_ 2 q32_ = 8 := (hx275_ q32_ (cw_lt hw0_.1 u255_ (fun _ _ _ => ⟨_, rfl⟩)) (ty_ne u255_ tq250_ (by decide)) 2).trans u266_
  have u293_ : T275_ 2 q61_ = 7 := (hx275_ q61_ (cw_lt hw0_.1 u256_ (fun _ _ _ => ⟨_, rfl⟩)) (ty_ne u256_ tq250_ (by decide)) 2).trans u267_
  have u294_ : T275_ 180 o = q1_ + 1 := (hx275_ o (cw_lt hw0_.1 u251_ (fun _ _ _ => ⟨_, rfl⟩)) (ty_ne u251_ tq250_ (by decide)) 180).trans u268_
  have u295_ : T275_ 181 o = q12_ + 1 := (hx275_ o (cw_lt hw0_.1 u251_ (fun _ _ _ => ⟨_, rfl⟩)) (ty_ne u251_ tq250_ (by decide)) 181).trans u269_
  have u296_ : T275_ 182 o = q32_ + 1 := (hx275_ o (cw_lt hw0_.1 u251_ (fun _ _ _ => ⟨_, rfl⟩)) (ty_ne u251_ tq250_ (by decide)) 182).trans u270_
  have u297_ : T275_ 183 o = q61_ + 1 := (hx275_ o (cw_lt hw0_.1 u251_ (fun _ _ _ => ⟨_, rfl⟩)) (ty_ne u251_ tq250_ (by decide)) 183).trans u271_
  have u298_ : T275_ 184 o = q99_ + 1 := (hx275_ o (cw_lt hw0_.1 u251_ (fun _ _ _ => ⟨_, rfl⟩)) (ty_ne u251_ tq250_ (by decide)) 184).trans u272_
  have u299_ : T275_ 185 o = q132_ + 1 := (hx275_ o (cw_lt hw0_.1 u251_ (fun _ _ _ => ⟨_, rfl⟩)) (ty_ne u251_ tq250_ (by decide)) 185).trans u273_
  have u300_ : T275_ 192 o = q179_ + 1 := (hx275_ o (cw_lt hw0_.1 u251_ (fun _ _ _ => ⟨_, rfl⟩)) (ty_ne u251_ tq250_ (by decide)) 192).trans u274_
  have hw0_ := hw
  refine rr_193 E hK hw hnm fl_X9_62 u277_ 117 rfl dX9_init_114 (fun T301_ H locs hx301_ hj301_ hk301_ ho301_ hw => ?_)
  have hT301_ : WT T301_ := hw.1.2.1
  have hO301_ : ∀ x, ow T301_ x → κ 2 2 ≤ x := fun x h => hAc x (hw.2.1 x h)
  have hoT_ : OW T T301_ s.heap.size := OW.tr0 hoT_ ho301_
  have hC_ : ∀ b, b < sz → T 0 b ≠ 10 → T 0 b ≠ 24 → T 0 b ≠ 26 → b ≠ o → ∀ j, j ≠ 197 → T301_ j b = T j b := fun b_ h1_ h2_ h3_ h4_ h5_ j_ h6_ => (hx301_ b_ h5_ j_).trans (hC_ b_ h1_ h2_ h3_ h4_ h5_ j_ h6_)
  have hR_ : ∀ b, b < sz → b ≠ o → ∀ k, T301_ k b = T k b := fun b_ h1_ h2_ k_ => (hx301_ b_ h2_ k_).trans (hR_ b_ h1_ h2_ k_)
  have u302_ : T301_ 0 o = 109 := (hj301_ 0 (by decide)).trans u277_
  have u303_ : T301_ 0 (κ 2 0) = 26 := (hx301_ (κ 2 0) (ty_ne u278_ u277_ (by decide)) 0).trans u278_
  have u304_ : T301_ 0 q1_ = 10 := (hx301_ q1_ (ty_ne u279_ u277_ (by decide)) 0).trans u279_
  have u305_ : T301_ 0 q12_ = 10 := (hx301_ q12_ (ty_ne u280_ u277_ (by decide)) 0).trans u280_
  have u306_ : T301_ 0 q32_ = 10 := (hx301_ q32_ (ty_ne u281_ u277_ (by decide)) 0).trans u281_
  have u307_ : T301_ 0 q61_ = 10 := (hx301_ q61_ (ty_ne u282_ u277_ (by decide)) 0).trans u282_
  have u308_ : T301_ 0 q99_ = 21 := (hx301_ q99_ (ty_ne u283_ u277_ (by decide)) 0).trans u283_
  have u309_ : T301_ 0 q132_ = 23 := (hx301_ q132_ (ty_ne u284_ u277_ (by decide)) 0).trans u284_
  have u310_ : T301_ 0 q179_ = 4 := (hx301_ q179_ (ty_ne u285_ u277_ (by decide)) 0).trans u285_
  have u311_ : T301_ 0 q250_ = 5 := (hx301_ q250_ (ty_ne tq275_ u277_ (by decide)) 0).trans tq275_
  have u312_ : T301_ 1 q99_ = 8 := (hx301_ q99_ (ty_ne u283_ u277_ (by decide)) 1).trans u286_
  have u313_ : T301_ 1 q132_ = 400 := (hx301_ q132_ (ty_ne u284_ u277_ (by decide)) 1).trans u287_
  have u314_ : T301_ 3 q99_ = 300 * o + 184 := (hx301_ q99_ (ty_ne u283_ u277_ (by decide)) 3).trans u288_
  have u315_ : T301_ 3 q132_ = 300 * o + 185 := (hx301_ q132_ (ty_ne u284_ u277_ (by decide)) 3).trans u289_
  have u316_ : T301_ 2 q1_ = 2 := (hx301_ q1_ (ty_ne u279_ u277_ (by decide)) 2).trans u290_
  have u317_ : T301_ 2 q12_ = 1 := (hx301_ q12_ (ty_ne u280_ u277_ (by decide)) 2).trans u291_
  have u318_ : T301_ 2 q32_ = 8 := (hx301_ q32_ (ty_ne u281_ u277_ (by decide)) 2).trans u292_
  have u319_ : T301_ 2 q61_ = 7 := (hx301_ q61_ (ty_ne u282_ u277_ (by decide)) 2).trans u293_
  have u320_ : T301_ 180 o = q1_ + 1 := (hj301_ 180 (by decide)).trans u294_
  have u321_ : T301_ 181 o = q12_ + 1 := (hj301_ 181 (by decide)).trans u295_
  have u322_ : T301_ 182 o = q32_ + 1 := (hj301_ 182 (by decide)).trans u296_
  have u323_ : T301_ 183 o = q61_ + 1 := (hj301_ 183 (by decide)).trans u297_
  have u324_ : T301_ 184 o = q99_ + 1 := (hj301_ 184 (by decide)).trans u298_
  have u325_ : T301_ 185 o = q132_ + 1 := (hj301_ 185 (by decide)).trans u299_
  have u326_ : T301_ 192 o = q179_ + 1 := (hj301_ 192 (by decide)).trans u300_
  refine j_aload_n E 118 rfl dX9_init_117 rfl (lv_at hl 0 rfl) ?_
  refine j_bipush E 120 rfl dX9_init_118 (by decide) ?_
  have hw0_ := hw
  refine n_arr20 E hK hw hA (300 * o + 194) 32 (by decide) (by decide) (Nat.le_of_ble_eq_true rfl) (Nat.le_of_ble_eq_true rfl) 122 rfl dX9_init_120 (fun q327_ T327_ y300_327 H hge327_ hx327_ ho327_ tq327_ tl327_ tw327_ yz327_ yo327_ hw => ?_)
  have fq327_ : s.heap.size ≤ q327_ := Nat.le_trans hw0_.2.2.1 hge327_
  have hw : WK D cy T327_ (upV (upV (upV (upV (upV (upV (upV (upV (upV (upV (upV (upV (upV (upV (upV (upV (upV (upV (upV (upV (upV (upV (upV (upV (upV (upV (upV (upV (upV (upV (upV (upV (upV (upV (upV (upV (upV v_0 200 (upB (v_0 200) q1_ 0)) 202 (upB (v_0 202) q1_ 0)) 200 y200_4) 200 (upB y200_4 q12_ 0)) 202 (upB (upB (v_0 202) q1_ 0) q12_ 0)) 200 y200_18) 200 (upB y200_18 q32_ 0)) 202 (upB (upB (upB (v_0 202) q1_ 0) q12_ 0) q32_ 0)) 200 y200_41) 200 (upB y200_41 q61_ 0)) 202 (upB (upB (upB (upB (v_0 202) q1_ 0) q12_ 0) q32_ 0) q61_ 0)) 200 y200_73) 301 y301_99) 303 y303_132) 186 (upB (v_0 186) o 0)) 187 (upB (v_0 187) o 0)) 188 (upB (v_0 188) o ((-1)))) 189 (upB (v_0 189) o 0)) 190 (upB (v_0 190) o 0)) 191 (upB (v_0 191) o ((-1)))) 80 (upB (v_0 80) q179_ 0)) 81 (upB (v_0 81) q179_ 0)) 83 (upB (v_0 83) q179_ 0)) 84 (upB (v_0 84) q179_ 0)) 86 (upB (v_0 86) q179_ 0)) 80 y80_202) 81 y81_202) 83 y83_202) 84 y84_202) 86 y86_202) 123 y123_202) 124 y124_202) 300 y300_202) 103 (upB (v_0 103) q250_ 0)) 103 y103_275) 300 y300_275) 300 y300_327) A0 s.heap H locs := hw
  have yo327_ : ∀ b, b ≠ q327_ → ∀ i, y300_327 (pr b i) = y300_275 (pr b i) := yo327_
  have kd328_ : KdA_ T sz [] (v_0 300) (y300_327) := KdA_tr kd276_ (KdA_new yo327_ (by omega))
  have hT327_ : WT T327_ := hw.1.2.1
  have hO327_ : ∀ x, ow T327_ x → κ 2 2 ≤ x := fun x h => hAc x (hw.2.1 x h)
  have hoT_ : OW T T327_ s.heap.size := OW.tr hw0_.2.2.1 hoT_ ho327_
  have hC_ : ∀ b, b < sz → T 0 b ≠ 10 → T 0 b ≠ 24 → T 0 b ≠ 26 → b ≠ o → ∀ j, j ≠ 197 → T327_ j b = T j b := fun b_ h1_ h2_ h3_ h4_ h5_ j_ h6_ => (hx327_ b_ (by have := hw0_.2.2.1; have := hge327_; omega) j_).trans (hC_ b_ h1_ h2_ h3_ h4_ h5_ j_ h6_)
  have hR_ : ∀ b, b < sz → b ≠ o → ∀ k, T327_ k b = T k b := fun b_ h1_ h2_ k_ => (hx327_ b_ (by have := hw0_.2.2.1; have := hge327_; omega) k_).trans (hR_ b_ h1_ h2_ k_)
  have u329_ : T327_ 0 o = 109 := (hx327_ o (Nat.ne_of_lt (Nat.lt_of_lt_of_le (cw_lt hw0_.1 u302_ (fun _ _ _ => ⟨_, rfl⟩)) hge327_)) 0).trans u302_
  have u330_ : T327_ 0 (κ 2 0) = 26 := (hx327_ (κ 2 0) (Nat.ne_of_lt (Nat.lt_of_lt_of_le (cw_lt hw0_.1 u303_ (fun _ _ _ => ⟨_, rfl⟩)) hge327_)) 0).trans u303_
  have u331_ : T327_ 0 q1_ = 10 := (hx327_ q1_ (Nat.ne_of_lt (Nat.lt_of_lt_of_le (cw_lt hw0_.1 u304_ (fun _ _ _ => ⟨_, rfl⟩)) hge327_)) 0).trans u304_
  have u332_ : T327_ 0 q12_ = 10 := (hx327_ q12_ (Nat.ne_of_lt (Nat.lt_of_lt_of_le (cw_lt hw0_.1 u305_ (fun _ _ _ => ⟨_, rfl⟩)) hge327_)) 0).trans u305_
  have u333_ : T327_ 0 q32_ = 10 := (hx327_ q32_ (Nat.ne_of_lt (Nat.lt_of_lt_of_le (cw_lt hw0_.1 u306_ (fun _ _ _ => ⟨_, rfl⟩)) hge327_)) 0).trans u306_
  have u334_ : T327_ 0 q61_ = 10 := (hx327_ q61_ (Nat.ne_of_lt (Nat.lt_of_lt_of_le (cw_lt hw0_.1 u307_ (fun _ _ _ => ⟨_, rfl⟩)) hge327_)) 0).trans u307_
  have u335_ : T327_ 0 q99_ = 21 := (hx327_ q99_ (Nat.ne_of_lt (Nat.lt_of_lt_of_le (cw_lt hw0_.1 u308_ (fun _ _ _ => ⟨_, rfl⟩)) hge327_)) 0).trans u308_
  have u336_ : T327_ 0 q132_ = 23 := (hx327_ q132_ (Nat.ne_of_lt (Nat.lt_of_lt_of_le (cw_lt hw0_.1 u309_ (fun _ _ _ => ⟨_, rfl⟩)) hge327_)) 0).trans u309_
  have u337_ : T327_ 0 q179_ = 4 := (hx327_ q179_ (Nat.ne_of_lt (Nat.lt_of_lt_of_le (cw_lt hw0_.1 u310_ (fun _ _ _ => ⟨_, rfl⟩)) hge327_)) 0).trans u310_
  have u338_ : T327_ 0 q250_ = 5 := (hx327_ q250_ (Nat.ne_of_lt (Nat.lt_of_lt_of_le (cw_lt hw0_.1 u311_ (fun _ _ _ => ⟨_, rfl⟩)) hge327_)) 0).trans u311_
  have u339_ : T327_ 1 q99_ = 8 := (hx327_ q99_ (Nat.ne_of_lt (Nat.lt_of_lt_of_le (cw_lt hw0_.1 u308_ (fun _ _ _ => ⟨_, rfl⟩)) hge327_)) 1).trans u312_
  have u340_ : T327_ 1 q132_ = 400 := (hx327_ q132_ (Nat.ne_of_lt (Nat.lt_of_lt_of_le (cw_lt hw0_.1 u309_ (fun _ _ _ => ⟨_, rfl⟩)) hge327_)) 1).trans u313_
  have u341_ : T327_ 3 q99_ = 300 * o + 184 := (hx327_ q99_ (Nat.ne_of_lt (Nat.lt_of_lt_of_le (cw_lt hw0_.1 u308_ (fun _ _ _ => ⟨_, rfl⟩)) hge327_)) 3).trans u314_
  have u342_ : T327_ 3 q132_ = 300 * o + 185 := (hx327_ q132_ (Nat.ne_of_lt (Nat.lt_of_lt_of_le (cw_lt hw0_.1 u309_ (fun _ _ _ => ⟨_, rfl⟩)) hge327_)) 3).trans u315_
  have u343_ : T327_ 2 q1_ = 2 := (hx327_ q1_ (Nat.ne_of_lt (Nat.lt_of_lt_of_le (cw_lt hw0_.1 u304_ (fun _ _ _ => ⟨_, rfl⟩)) hge327_)) 2).trans u316_
  have u344_ : T327_ 2 q12_ = 1 := (hx327_ q12_ (Nat.ne_of_lt (Nat.lt_of_lt_of_le (cw_lt hw0_.1 u305_ (fun _ _ _ => ⟨_, rfl⟩)) hge327_)) 2).trans u317_
  have u345_ : T327_ 2 q32_ = 8 := (hx327_ q32_ (Nat.ne_of_lt (Nat.lt_of_lt_of_le (cw_lt hw0_.1 u306_ (fun _ _ _ => ⟨_, rfl⟩)) hge327_)) 2).trans u318_
  have u346_ : T327_ 2 q61_ = 7 := (hx327_ q61_ (Nat.ne_of_lt (Nat.lt_of_lt_of_le (cw_lt hw0_.1 u307_ (fun _ _ _ => ⟨_, rfl⟩)) hge327_)) 2).trans u319_
  have u347_ : T327_ 180 o = q1_ + 1 := (hx327_ o (Nat.ne_of_lt (Nat.lt_of_lt_of_le (cw_lt hw0_.1 u302_ (fun _ _ _ => ⟨_, rfl⟩)) hge327_)) 180).trans u320_
  have u348_ : T327_ 181 o = q12_ + 1 := (hx327_ o (Nat.ne_of_lt (Nat.lt_of_lt_of_le (cw_lt hw0_.1 u302_ (fun _ _ _ => ⟨_, rfl⟩)) hge327_)) 181).trans u321_
  have u349_ : T327_ 182 o = q32_ + 1 := (hx327_ o (Nat.ne_of_lt (Nat.lt_of_lt_of_le (cw_lt hw0_.1 u302_ (fun _ _ _ => ⟨_, rfl⟩)) hge327_)) 182).trans u322_
  have u350_ : T327_ 183 o = q61_ + 1 := (hx327_ o (Nat.ne_of_lt (Nat.lt_of_lt_of_le (cw_lt hw0_.1 u302_ (fun _ _ _ => ⟨_, rfl⟩)) hge327_)) 183).trans u323_
  have u351_ : T327_ 184 o = q99_ + 1 := (hx327_ o (Nat.ne_of_lt (Nat.lt_of_lt_of_le (cw_lt hw0_.1 u302_ (fun _ _ _ => ⟨_, rfl⟩)) hge327_)) 184).trans u324_
  have u352_ : T327_ 185 o = q132_ + 1 := (hx327_ o (Nat.ne_of_lt (Nat.lt_of_lt_of_le (cw_lt hw0_.1 u302_ (fun _ _ _ => ⟨_, rfl⟩)) hge327_)) 185).trans u325_
  have u353_ : T327_ 192 o = q179_ + 1 := (hx327_ o (Nat.ne_of_lt (Nat.lt_of_lt_of_le (cw_lt hw0_.1 u302_ (fun _ _ _ => ⟨_, rfl⟩)) hge327_)) 192).trans u326_
  have u354_ : T327_ 193 o = q250_ + 1 := (hx327_ o (Nat.ne_of_lt (Nat.lt_of_lt_of_le (cw_lt hw0_.1 u302_ (fun _ _ _ => ⟨_, rfl⟩)) hge327_)) 193).trans hk301_
  have hw0_ := hw
  refine rr_194 E hK hw hnm fl_X9_66 u329_ 125 rfl dX9_init_122 (fun T355_ H locs hx355_ hj355_ hk355_ ho355_ hw => ?_)
  have hT355_ : WT T355_ := hw.1.2.1
  have hO355_ : ∀ x, ow T355_ x → κ 2 2 ≤ x := fun x h => hAc x (hw.2.1 x h)
  have hoT_ : OW T T355_ s.heap.size := OW.tr0 hoT_ ho355_
  have hC_ : ∀ b, b < sz → T 0 b ≠ 10 → T 0 b ≠ 24 → T 0 b ≠ 26 → b ≠ o → ∀ j, j ≠ 197 → T355_ j b = T j b := fun b_ h1_ h2_ h3_ h4_ h5_ j_ h6_ => (hx355_ b_ h5_ j_).trans (hC_ b_ h1_ h2_ h3_ h4_ h5_ j_ h6_)
  have hR_ : ∀ b, b < sz → b ≠ o → ∀ k, T355_ k b = T k b := fun b_ h1_ h2_ k_ => (hx355_ b_ h2_ k_).trans (hR_ b_ h1_ h2_ k_)
  have u356_ : T355_ 0 o = 109 := (hj355_ 0 (by decide)).trans u329_
  have u357_ : T355_ 0 (κ 2 0) = 26 := (hx355_ (κ 2 0) (ty_ne u330_ u329_ (by decide)) 0).trans u330_
  have u358_ : T355_ 0 q1_ = 10 := (hx355_ q1_ (ty_ne u331_ u329_ (by decide)) 0).trans u331_
  have u359_ : T355_ 0 q12_ = 10 := (hx355_ q12_ (ty_ne u332_ u329_ (by decide)) 0).trans u332_
  have u360_ : T355_ 0 q32_ = 10 := (hx355_ q32_ (ty_ne u333_ u329_ (by decide)) 0).trans u333_
  have u361_ : T355_ 0 q61_ = 10 := (hx355_ q61_ (ty_ne u334_ u329_ (by decide)) 0).trans u334_
  have u362_ : T355_ 0 q99_ = 21 := (hx355_ q99_ (ty_ne u335_ u329_ (by decide)) 0).trans u335_
  have u363_ : T355_ 0 q132_ = 23 := (hx355_ q132_ (ty_ne u336_ u329_ (by decide)) 0).trans u336_
  have u364_ : T355_ 0 q179_ = 4 := (hx355_ q179_ (ty_ne u337_ u329_ (by decide)) 0).trans u337_
  have u365_ : T355_ 0 q250_ = 5 := (hx355_ q250_ (ty_ne u338_ u329_ (by decide)) 0).trans u338_
  have u366_ : T355_ 0 q327_ = 20 := (hx355_ q327_ (ty_ne tq327_ u329_ (by decide)) 0).trans tq327_
  have u367_ : T355_ 1 q99_ = 8 := (hx355_ q99_ (ty_ne u335_ u329_ (by decide)) 1).trans u339_
  have u368_ : T355_ 1 q132_ = 400 := (hx355_ q132_ (ty_ne u336_ u329_ (by decide)) 1).trans u340_
  have u369_ : T355_ 1 q327_ = 32 := (hx355_ q327_ (ty_ne tq327_ u329_ (by decide)) 1).trans tl327_
  have u370_ : T355_ 3 q99_ = 300 * o + 184 := (hx355_ q99_ (ty_ne u335_ u329_ (by decide)) 3).trans u341_
  have u371_ : T355_ 3 q132_ = 300 * o + 185 := (hx355_ q132_ (ty_ne u336_ u329_ (by decide)) 3).trans u342_
  have u372_ : T355_ 3 q327_ = 300 * o + 194 := (hx355_ q327_ (ty_ne tq327_ u329_ (by decide)) 3).trans tw327_
  have u373_ : T355_ 2 q1_ = 2 := (hx355_ q1_ (ty_ne u331_ u329_ (by decide)) 2).trans u343_
  have u374_ : T355_ 2 q12_ = 1 := (hx355_ q12_ (ty_ne u332_ u329_ (by decide)) 2).trans u344_
  have u375_ : T355_ 2 q32_ = 8 := (hx355_ q32_ (ty_ne u333_ u329_ (by decide)) 2).trans u345_
  have u376_ : T355_ 2 q61_ = 7 := (hx355_ q61_ (ty_ne u334_ u329_ (by decide)) 2).trans u346_
  have u377_ : T355_ 180 o = q1_ + 1 := (hj355_ 180 (by decide)).trans u347_
  have u378_ : T355_ 181 o = q12_ + 1 := (hj355_ 181 (by decide)).trans u348_
  have u379_ : T355_ 182 o = q32_ + 1 := (hj355_ 182 (by decide)).trans u349_
  have u380_ : T355_ 183 o = q61_ + 1 := (hj355_ 183 (by decide)).trans u350_
  have u381_ : T355_ 184 o = q99_ + 1 := (hj355_ 184 (by decide)).trans u351_
  have u382_ : T355_ 185 o = q132_ + 1 := (hj355_ 185 (by decide)).trans u352_
  have u383_ : T355_ 192 o = q179_ + 1 := (hj355_ 192 (by decide)).trans u353_
  have u384_ : T355_ 193 o = q250_ + 1 := (hj355_ 193 (by decide)).trans u354_
  refine j_aload_n E 126 rfl dX9_init_125 rfl (lv_at hl 0 rfl) ?_
  refine j_bipush E 128 rfl dX9_init_126 (by decide) ?_
  have hw0_ := hw
  refine n_arr20 E hK hw hA (300 * o + 195) 32 (by decide) (by decide) (Nat.le_of_ble_eq_true rfl) (Nat.le_of_ble_eq_true rfl) 130 rfl dX9_init_128 (fun q385_ T385_ y300_385 H hge385_ hx385_ ho385_ tq385_ tl385_ tw385_ yz385_ yo385_ hw => ?_)
  have fq385_ : s.heap.size ≤ q385_ := Nat.le_trans hw0_.2.2.1 hge385_
  have hw : WK D cy T385_ (upV (upV (upV (upV (upV (upV (upV (upV (upV (upV (upV (upV (upV (upV (upV (upV (upV (upV (upV (upV (upV (upV (upV (upV (upV (upV (upV (upV (upV (upV (upV (upV (upV (upV (upV (upV (upV (upV v_0 200 (upB (v_0 200) q1_ 0)) 202 (upB (v_0 202) q1_ 0)) 200 y200_4) 200 (upB y200_4 q12_ 0)) 202 (upB (upB (v_0 202) q1_ 0) q12_ 0)) 200 y200_18) 200 (upB y200_18 q32_ 0)) 202 (upB (upB (upB (v_0 202) q1_ 0) q12_ 0) q32_ 0)) 200 y200_41) 200 (upB y200_41 q61_ 0)) 202 (upB (upB (upB (upB (v_0 202) q1_ 0) q12_ 0) q32_ 0) q61_ 0)) 200 y200_73) 301 y301_99) 303 y303_132) 186 (upB (v_0 186) o 0)) 187 (upB (v_0 187) o 0)) 188 (upB (v_0 188) o ((-1)))) 189 (upB (v_0 189) o 0)) 190 (upB (v_0 190) o 0)) 191 (upB (v_0 191) o ((-1)))) 80 (upB (v_0 80) q179_ 0)) 81 (upB (v_0 81) q179_ 0)) 83 (upB (v_0 83) q179_ 0)) 84 (upB (v_0 84) q179_ 0)) 86 (upB (v_0 86) q179_ 0)) 80 y80_202) 81 y81_202) 83 y83_202) 84 y84_202) 86 y86_202) 123 y123_202) 124 y124_202) 300 y300_202) 103 (upB (v_0 103) q250_ 0)) 103 y103_275) 300 y300_275) 300 y300_327) 300 y300_385) A0 s.heap H locs := hw
  have yo385_ : ∀ b, b ≠ q385_ → ∀ i, y300_385 (pr b i) = y300_327 (pr b i) := yo385_
  have kd386_ : KdA_ T sz [] (v_0 300) (y300_385) := KdA_tr kd328_ (KdA_new yo385_ (by omega))
  have hT385_ : WT T385_ := hw.1.2.1
  have hO385_ : ∀ x, ow T385_ x → κ 2 2 ≤ x := fun x h => hAc x (hw.2.1 x h)
  have hoT_ : OW T T385_ s.heap.size := OW.tr hw0_.2.2.1 hoT_ ho385_
  have hC_ : ∀ b, b < sz → T 0 b ≠ 10 → T 0 b ≠ 24 → T 0 b ≠ 26 → b ≠ o → ∀ j, j ≠ 197 → T385_ j b = T j b := fun b_ h1_ h2_ h3_ h4_ h5_ j_ h6_ => (hx385_ b_ (by have := hw0_.2.2.1; have := hge385_; omega) j_).trans (hC_ b_ h1_ h2_ h3_ h4_ h5_ j_ h6_)
  have hR_ : ∀ b, b < sz → b ≠ o → ∀ k, T385_ k b = T k b := fun b_ h1_ h2_ k_ => (hx385_ b_ (by have := hw0_.2.2.1; have := hge385_; omega) k_).trans (hR_ b_ h1_ h2_ k_)
  have u387_ : T385_ 0 o = 109 := (hx385_ o (Nat.ne_of_lt (Nat.lt_of_lt_of_le (cw_lt hw0_.1 u356_ (fun _ _ _ => ⟨_, rfl⟩)) hge385_)) 0).trans u356_
  have u388_ : T385_ 0 (κ 2 0) = 26 := (hx385_ (κ 2 0) (Nat.ne_of_lt (Nat.lt_of_lt_of_le (cw_lt hw0_.1 u357_ (fun _ _ _ => ⟨_, rfl⟩)) hge385_)) 0).trans u357_
  have u389_ : T385_ 0 q1_ = 10 := (hx385_ q1_ (Nat.ne_of_lt (Nat.lt_of_lt_of_le (cw_lt hw0_.1 u358_ (fun _ _ _ => ⟨_, rfl⟩)) hge385_)) 0).trans u358_
  have u390_ : T385_ 0 q12_ = 10 := (hx385_ q12_ (Nat.ne_of_lt (Nat.lt_of_lt_of_le (cw_lt hw0_.1 u359_ (fun _ _ _ => ⟨_, rfl⟩)) hge385_)) 0).trans u359_
  have u391_ : T385_ 0 q32_ = 10 := (hx385_ q32_ (Nat.ne_of_lt (Nat.lt_of_lt_of_le (cw_lt hw0_.1 u360_ (fun _ _ _ => ⟨_, rfl⟩)) hge385_)) 0).trans u360_
  have u392_ : T385_ 0 q61_ = 10 := (hx385_ q61_ (Nat.ne_of_lt (Nat.lt_of_lt_of_le (cw_lt hw0_.1 u361_ (fun _ _ _ => ⟨_, rfl⟩)) hge385_)) 0).trans u361_
  have u393_ : T385_ 0 q99_ = 21 := (hx385_ q99_ (Nat.ne_of_lt (Nat.lt_of_lt_of_le (cw_lt hw0_.1 u362_ (fun _ _ _ => ⟨_, rfl⟩)) hge385_)) 0).trans u362_
  have u394_ : T385_ 0 q132_ = 23 := (hx385_ q132_ (Nat.ne_of_lt (Nat.lt_of_lt_of_le (cw_lt hw0_.1 u363_ (fun _ _ _ => ⟨_, rfl⟩)) hge385_)) 0).trans u363_
  have u395_ : T385_ 0 q179_ = 4 := (hx385_ q179_ (Nat.ne_of_lt (Nat.lt_of_lt_of_le (cw_lt hw0_.1 u364_ (fun _ _ _ => ⟨_, rfl⟩)) hge385_)) 0).trans u364_
  have u396_ : T385_ 0 q250_ = 5 := (hx385_ q250_ (Nat.ne_of_lt (Nat.lt_of_lt_of_le (cw_lt hw0_.1 u365_ (fun _ _ _ => ⟨_, rfl⟩)) hge385_)) 0).trans u365_
  have u397_ : T385_ 0 q327_ = 20 := (hx385_ q327_ (Nat.ne_of_lt (Nat.lt_of_lt_of_le (cw_lt hw0_.1 u366_ (fun _ _ _ => ⟨_, rfl⟩)) hge385_)) 0).trans u366_
  have u398_ : T385_ 1 q99_ = 8 := (hx385_ q99_ (Nat.ne_of_lt (Nat.lt_of_lt_of_le (cw_lt hw0_.1 u362_ (fun _ _ _ => ⟨_, rfl⟩)) hge385_)) 1).trans u367_
  have u399_ : T385_ 1 q132_ = 400 := (hx385_ q132_ (Nat.ne_of_lt (Nat.lt_of_lt_of_le (cw_lt hw0_.1 u363_ (fun _ _ _ => ⟨_, rfl⟩)) hge385_)) 1).trans u368_
  have u400_ : T385_ 1 q327_ = 32 := (hx385_ q327_ (Nat.ne_of_lt (Nat.lt_of_lt_of_le (cw_lt hw0_.1 u366_ (fun _ _ _ => ⟨_, rfl⟩)) hge385_)) 1).trans u369_
  have u401_ : T385_ 3 q99_ = 300 * o + 184 := (hx385_ q99_ (Nat.ne_of_lt (Nat.lt_of_lt_of_le (cw_lt hw0_.1 u362_ (fun _ _ _ => ⟨_, rfl⟩)) hge385_)) 3).trans u370_
  have u402_ : T385_ 3 q132_ = 300 * o + 185 := (hx385_ q132_ (Nat.ne_of_lt (Nat.lt_of_lt_of_le (cw_lt hw0_.1 u363_ (fun _ _ _ => ⟨_, rfl⟩)) hge385_)) 3).trans u371_
  have u403_ : T385_ 3 q327_ = 300 * o + 194 := (hx385_ q327_ (Nat.ne_of_lt (Nat.lt_of_lt_of_le (cw_lt hw0_.1 u366_ (fun _ _ _ => ⟨_, rfl⟩)) hge385_)) 3).trans u372_
  have u404_ : T385_ 2 q1_ = 2 := (hx385_ q1_ (Nat.ne_of_lt (Nat.lt_of_lt_of_le (cw_lt hw0_.1 u358_ (fun _ _ _ => ⟨_, rfl⟩)) hge385_)) 2).trans u373_
  have u405_ : T385_ 2 q12_ = 1 := (hx385_ q12_ (Nat.ne_of_lt (Nat.lt_of_lt_of_le (cw_lt hw0_.1 u359_ (fun _ _ _ => ⟨_, rfl⟩)) hge385_)) 2).trans u374_
  have u406_ : T385_ 2 q32_ = 8 := (hx385_ q32_ (Nat.ne_of_lt (Nat.lt_of_lt_of_le (cw_lt hw0_.1 u360_ (fun _ _ _ => ⟨_, rfl⟩)) hge385_)) 2).trans u375_
  have u407_ : T385_ 2 q61_ = 7 := (hx385_ q61_ (Nat.ne_of_lt (Nat.lt_of_lt_of_le (cw_lt hw0_.1 u361_ (fun _ _ _ => ⟨_, rfl⟩)) hge385_)) 2).trans u376_
  have u408_ : T385_ 180 o = q1_ + 1 := (hx385_ o (Nat.ne_of_lt (Nat.lt_of_lt_of_le (cw_lt hw0_.1 u356_ (fun _ _ _ => ⟨_, rfl⟩)) hge385_)) 180).trans u377_
  have u409_ : T385_ 181 o = q12_ + 1 := (hx385_ o (Nat.ne_of_lt (Nat.lt_of_lt_of_le (cw_lt hw0_.1 u356_ (fun _ _ _ => ⟨_, rfl⟩)) hge385_)) 181).trans u378_
  have u410_ : T385_ 182 o = q32_ + 1 := (hx385_ o (Nat.ne_of_lt (Nat.lt_of_lt_of_le (cw_lt hw0_.1 u356_ (fun _ _ _ => ⟨_, rfl⟩)) hge385_)) 182).trans u379_
  have u411_ : T385_ 183 o = q61_ + 1 := (hx385_ o (Nat.ne_of_lt (Nat.lt_of_lt_of_le (cw_lt hw0_.1 u356_ (fun _ _ _ => ⟨_, rfl⟩)) hge385_)) 183).trans u380_
  have u412_ : T385_ 184 o = q99_ + 1 := (hx385_ o (Nat.ne_of_lt (Nat.lt_of_lt_of_le (cw_lt hw0_.1 u356_ (fun _ _ _ => ⟨_, rfl⟩)) hge385_)) 184).trans u381_
  have u413_ : T385_ 185 o = q132_ + 1 := (hx385_ o (Nat.ne_of_lt (Nat.lt_of_lt_of_le (cw_lt hw0_.1 u356_ (fun _ _ _ => ⟨_, rfl⟩)) hge385_)) 185).trans u382_
  have u414_ : T385_ 192 o = q179_ + 1 := (hx385_ o (Nat.ne_of_lt (Nat.lt_of_lt_of_le (cw_lt hw0_.1 u356_ (fun _ _ _ => ⟨_, rfl⟩)) hge385_)) 192).trans u383_
  have u415_ : T385_ 193 o = q250_ + 1 := (hx385_ o (Nat.ne_of_lt (Nat.lt_of_lt_of_le (cw_lt hw0_.1 u356_ (fun _ _ _ => ⟨_, rfl⟩)) hge385_)) 193).trans u384_
  have u416_ : T385_ 194 o = q327_ + 1 := (hx385_ o (Nat.ne_of_lt (Nat.lt_of_lt_of_le (cw_lt hw0_.1 u356_ (fun _ _ _ => ⟨_, rfl⟩)) hge385_)) 194).trans hk355_
  have hw0_ := hw
  refine rr_195 E hK hw hnm fl_X9_70 u387_ 133 rfl dX9_init_130 (fun T417_ H locs hx417_ hj417_ hk417_ ho417_ hw => ?_)
  have hT417_ : WT T417_ := hw.1.2.1
  have hO417_ : ∀ x, ow T417_ x → κ 2 2 ≤ x := fun x h => hAc x (hw.2.1 x h)
  have hoT_ : OW T T417_ s.heap.size := OW.tr0 hoT_ ho417_
  have hC_ : ∀ b, b < sz → T 0 b ≠ 10 → T 0 b ≠ 24 → T 0 b ≠ 26 → b ≠ o → ∀ j, j ≠ 197 → T417_ j b = T j b := fun b_ h1_ h2_ h3_ h4_ h5_ j_ h6_ => (hx417_ b_ h5_ j_).trans (hC_ b_ h1_ h2_ h3_ h4_ h5_ j_ h6_)
  have hR_ : ∀ b, b < sz → b ≠ o → ∀ k, T417_ k b = T k b := fun b_ h1_ h2_ k_ => (hx417_ b_ h2_ k_).trans (hR_ b_ h1_ h2_ k_)
  have u418_ : T417_ 0 o = 109 := (hj417_ 0 (by decide)).trans u387_
  have u419_ : T417_ 0 (κ 2 0) = 26 := (hx417_ (κ 2 0) (ty_ne u388_ u387_ (by decide)) 0).trans u388_
  have u420_ : T417_ 0 q1_ = 10 := (hx417_ q1_ (ty_ne u389_ u387_ (by decide)) 0).trans u389_
  have u421_ : T417_ 0 q12_ = 10 := (hx417_ q12_ (ty_ne u390_ u387_ (by decide)) 0).trans u390_
  have u422_ : T417_ 0 q32_ = 10 := (hx417_ q32_ (ty_ne u391_ u387_ (by decide)) 0).trans u391_
  have u423_ : T417_ 0 q61_ = 10 := (hx417_ q61_ (ty_ne u392_ u387_ (by decide)) 0).trans u392_
  have u424_ : T417_ 0 q99_ = 21 := (hx417_ q99_ (ty_ne u393_ u387_ (by decide)) 0).trans u393_
  have u425_ : T417_ 0 q132_ = 23 := (hx417_ q132_ (ty_ne u394_ u387_ (by decide)) 0).trans u394_
  have u426_ : T417_ 0 q179_ = 4 := (hx417_ q179_ (ty_ne u395_ u387_ (by decide)) 0).trans u395_
  have u427_ : T417_ 0 q250_ = 5 := (hx417_ q250_ (ty_ne u396_ u387_ (by decide)) 0).trans u396_
  have u428_ : T417_ 0 q327_ = 20 := (hx417_ q327_ (ty_ne u397_ u387_ (by decide)) 0).trans u397_
  have u429_ : T417_ 0 q385_ = 20 := (hx417_ q385_ (ty_ne tq385_ u387_ (by decide)) 0).trans tq385_
  have u430_ : T417_ 1 q99_ = 8 := (hx417_ q99_ (ty_ne u393_ u387_ (by decide)) 1).trans u398_
  have u431_ : T417_ 1 q132_ = 400 := (hx417_ q132_ (ty_ne u394_ u387_ (by decide)) 1).trans u399_
  have u432_ : T417_ 1 q327_ = 32 := (hx417_ q327_ (ty_ne u397_ u387_ (by decide)) 1).trans u400_
  have u433_ : T417_ 1 q385_ = 32 := (hx417_ q385_ (ty_ne tq385_ u387_ (by decide)) 1).trans tl385_
  have u434_ : T417_ 3 q99_ = 300 * o + 184 := (hx417_ q99_ (ty_ne u393_ u387_ (by decide)) 3).trans u401_
  have u435_ : T417_ 3 q132_ = 300 * o + 185 := (hx417_ q132_ (ty_ne u394_ u387_ (by decide)) 3).trans u402_
  have u436_ : T417_ 3 q327_ = 300 * o + 194 := (hx417_ q327_ (ty_ne u397_ u387_ (by decide)) 3).trans u403_
  have u437_ : T417_ 3 q385_ = 300 * o + 195 := (hx417_ q385_ (ty_ne tq385_ u387_ (by decide)) 3).trans tw385_
  have u438_ : T417_ 2 q1_ = 2 := (hx417_ q1_ (ty_ne u389_ u387_ (by decide)) 2).trans u404_
  have u439_ : T417_ 2 q12_ = 1 := (hx417_ q12_ (ty_ne u390_ u387_ (by decide)) 2).trans u405_
  have u440_ : T417_ 2 q32_ = 8 := (hx417_ q32_ (ty_ne u391_ u387_ (by decide)) 2).trans u406_
  have u441_ : T417_ 2 q61_ = 7 := (hx417_ q61_ (ty_ne u392_ u387_ (by decide)) 2).trans u407_
  have u442_ : T417_ 180 o = q1_ + 1 := (hj417_ 180 (by decide)).trans u408_
  have u443_ : T417_ 181 o = q12_ + 1 := (hj417_ 181 (by decide)).trans u409_
  have u444_ : T417_ 182 o = q32_ + 1 := (hj417_ 182 (by decide)).trans u410_
  have u445_ : T417_ 183 o = q61_ + 1 := (hj417_ 183 (by decide)).trans u411_
  have u446_ : T417_ 184 o = q99_ + 1 := (hj417_ 184 (by decide)).trans u412_
  have u447_ : T417_ 185 o = q132_ + 1 := (hj417_ 185 (by decide)).trans u413_
  have u448_ : T417_ 192 o = q179_ + 1 := (hj417_ 192 (by decide)).trans u414_
  have u449_ : T417_ 193 o = q250_ + 1 := (hj417_ 193 (by decide)).trans u415_
  have u450_ : T417_ 194 o = q327_ + 1 := (hj417_ 194 (by decide)).trans u416_
  refine j_aload_n E 134 rfl dX9_init_133 rfl (lv_at hl 0 rfl) ?_
  refine j_sipush E 137 rfl dX9_init_134 (by decide) ?_
  have hw0_ := hw
  refine n_arr20 E hK hw hA (300 * o + 196) 401 (by decide) (by decide) (Nat.le_of_ble_eq_true rfl) (Nat.le_of_ble_eq_true rfl) 139 rfl dX9_init_137 (fun q451_ T451_ y300_451 H hge451_ hx451_ ho451_ tq451_ tl451_ tw451_ yz451_ yo451_ hw => ?_)
  have fq451_ : s.heap.size ≤ q451_ := Nat.le_trans hw0_.2.2.1 hge451_
  have hw : WK D cy T451_ (upV (upV (upV (upV (upV (upV (upV (upV (upV (upV (upV (upV (upV (upV (upV (upV (upV (upV (upV (upV (upV (upV (upV (upV (upV (upV (upV (upV (upV (upV (upV (upV (upV (upV (upV (upV (upV (upV (upV v_0 200 (upB (v_0 200) q1_ 0)) 202 (upB (v_0 202) q1_ 0)) 200 y200_4) 200 (upB y200_4 q12_ 0)) 202 (upB (upB (v_0 202) q1_ 0) q12_ 0)) 200 y200_18) 200 (upB y200_18 q32_ 0)) 202 (upB (upB (upB (v_0 202) q1_ 0) q12_ 0) q32_ 0)) 200 y200_41) 200 (upB y200_41 q61_ 0)) 202 (upB (upB (upB (upB (v_0 202) q1_ 0) q12_ 0) q32_ 0) q61_ 0)) 200 y200_73) 301 y301_99) 303 y303_132) 186 (upB (v_0 186) o 0)) 187 (upB (v_0 187) o 0)) 188 (upB (v_0 188) o ((-1)))) 189 (upB (v_0 189) o 0)) 190 (upB (v_0 190) o 0)) 191 (upB (v_0 191) o ((-1)))) 80 (upB (v_0 80) q179_ 0)) 81 (upB (v_0 81) q179_ 0)) 83 (upB (v_0 83) q179_ 0)) 84 (upB (v_0 84) q179_ 0)) 86 (upB (v_0 86) q179_ 0)) 80 y80_202) 81 y81_202) 83 y83_202) 84 y84_202) 86 y86_202) 123 y123_202) 124 y124_202) 300 y300_202) 103 (upB (v_0 103) q250_ 0)) 103 y103_275) 300 y300_275) 300 y300_327) 300 y300_385) 300 y300_451) A0 s.heap H locs := hw
  have yo451_ : ∀ b, b ≠ q451_ → ∀ i, y300_451 (pr b i) = y300_385 (pr b i) := yo451_
  have kd452_ : KdA_ T sz [] (v_0 300) (y300_451) := KdA_tr kd386_ (KdA_new yo451_ (by omega))
  have hT451_ : WT T451_ := hw.1.2.1
  have hO451_ : ∀ x, ow T451_ x → κ 2 2 ≤ x := fun x h => hAc x (hw.2.1 x h)
  have hoT_ : OW T T451_ s.heap.size := OW.tr hw0_.2.2.1 hoT_ ho451_
  have hC_ : ∀ b, b < sz → T 0 b ≠ 10 → T 0 b ≠ 24 → T 0 b ≠ 26 → b ≠ o → ∀ j, j ≠ 197 → T451_ j b = T j b := fun b_ h1_ h2_ h3_ h4_ h5_ j_ h6_ => (hx451_ b_ (by have := hw0_.2.2.1; have := hge451_; omega) j_).trans (hC_ b_ h1_ h2_ h3_ h4_ h5_ j_ h6_)
  have hR_ : ∀ b, b < sz → b ≠ o → ∀ k, T451_ k b = T k b := fun b_ h1_ h2_ k_ => (hx451_ b_ (by have := hw0_.2.2.1; have := hge451_; omega) k_).trans (hR_ b_ h1_ h2_ k_)
  have u453_ : T451_ 0 o = 109 := (hx451_ o (Nat.ne_of_lt (Nat.lt_of_lt_of_le (cw_lt hw0_.1 u418_ (fun _ _ _ => ⟨_, rfl⟩)) hge451_)) 0).trans u418_
  have u454_ : T451_ 0 (κ 2 0) = 26 := (hx451_ (κ 2 0) (Nat.ne_of_lt (Nat.lt_of_lt_of_le (cw_lt hw0_.1 u419_ (fun _ _ _ => ⟨_, rfl⟩)) hge451_)) 0).trans u419_
  have u455_ : T451_ 0 q1_ = 10 := (hx451_ q1_ (Nat.ne_of_lt (Nat.lt_of_lt_of_le (cw_lt hw0_.1 u420_ (fun _ _ _ => ⟨_, rfl⟩)) hge451_)) 0).trans u420_
  have u456_ : T451_ 0 q12_ = 10 := (hx451_ q12_ (Nat.ne_of_lt (Nat.lt_of_lt_of_le (cw_lt hw0_.1 u421_ (fun _ _ _ => ⟨_, rfl⟩)) hge451_)) 0).trans u421_
  have u457_ : T451_ 0 q32_ = 10 := (hx451_ q32_ (Nat.ne_of_lt (Nat.lt_of_lt_of_le (cw_lt hw0_.1 u422_ (fun _ _ _ => ⟨_, rfl⟩)) hge451_)) 0).trans u422_
  have u458_ : T451_ 0 q61_ = 10 := (hx451_ q61_ (Nat.ne_of_lt (Nat.lt_of_lt_of_le (cw_lt hw0_.1 u423_ (fun _ _ _ => ⟨_, rfl⟩)) hge451_)) 0).trans u423_
  have u459_ : T451_ 0 q99_ = 21 := (hx451_ q99_ (Nat.ne_of_lt (Nat.lt_of_lt_of_le (cw_lt hw0_.1 u424_ (fun _ _ _ => ⟨_, rfl⟩)) hge451_)) 0).trans u424_
  have u460_ : T451_ 0 q132_ = 23 := (hx451_ q132_ (Nat.ne_of_lt (Nat.lt_of_lt_of_le (cw_lt hw0_.1 u425_ (fun _ _ _ => ⟨_, rfl⟩)) hge451_)) 0).trans u425_
  have u461_ : T451_ 0 q179_ = 4 := (hx451_ q179_ (Nat.ne_of_lt (Nat.lt_of_lt_of_le (cw_lt hw0_.1 u426_ (fun _ _ _ => ⟨_, rfl⟩)) hge451_)) 0).trans u426_
  have u462_ : T451_ 0 q250_ = 5 := (hx451_ q250_ (Nat.ne_of_lt (Nat.lt_of_lt_of_le (cw_lt hw0_.1 u427_ (fun _ _ _ => ⟨_, rfl⟩)) hge451_)) 0).trans u427_
  have u463_ : T451_ 0 q327_ = 20 := (hx451_ q327_ (Nat.ne_of_lt (Nat.lt_of_lt_of_le (cw_lt hw0_.1 u428_ (fun _ _ _ => ⟨_, rfl⟩)) hge451_)) 0).trans u428_
  have u464_ : T451_ 0 q385_ = 20 := (hx451_ q385_ (Nat.ne_of_lt (Nat.lt_of_lt_of_le (cw_lt hw0_.1 u429_ (fun _ _ _ => ⟨_, rfl⟩)) hge451_)) 0).trans u429_
  have u465_ : T451_ 1 q99_ = 8 := (hx451_ q99_ (Nat.ne_of_lt (Nat.lt_of_lt_of_le (cw_lt hw0_.1 u424_ (fun _ _ _ => ⟨_, rfl⟩)) hge451_)) 1).trans u430_
  have u466_ : T451_ 1 q132_ = 400 := (hx451_ q132_ (Nat.ne_of_lt (Nat.lt_of_lt_of_le (cw_lt hw0_.1 u425_ (fun _ _ _ => ⟨_, rfl⟩)) hge451_)) 1).trans u431_
  have u467_ : T451_ 1 q327_ = 32 := (hx451_ q327_ (Nat.ne_of_lt (Nat.lt_of_lt_of_le (cw_lt hw0_.1 u428_ (fun _ _ _ => ⟨_, rfl⟩)) hge451_)) 1).trans u432_
  have u468_ : T451_ 1 q385_ = 32 := (hx451_ q385_ (Nat.ne_of_lt (Nat.lt_of_lt_of_le (cw_lt hw0_.1 u429_ (fun _ _ _ => ⟨_, rfl⟩)) hge451_)) 1).trans u433_
  have u469_ : T451_ 3 q99_ = 300 * o + 184 := (hx451_ q99_ (Nat.ne_of_lt (Nat.lt_of_lt_of_le (cw_lt hw0_.1 u424_ (fun _ _ _ => ⟨_, rfl⟩)) hge451_)) 3).trans u434_
  have u470_ : T451_ 3 q132_ = 300 * o + 185 := (hx451_ q132_ (Nat.ne_of_lt (Nat.lt_of_lt_of_le (cw_lt hw0_.1 u425_ (fun _ _ _ => ⟨_, rfl⟩)) hge451_)) 3).trans u435_
  have u471_ : T451_ 3 q327_ = 300 * o + 194 := (hx451_ q327_ (Nat.ne_of_lt (Nat.lt_of_lt_of_le (cw_lt hw0_.1 u428_ (fun _ _ _ => ⟨_, rfl⟩)) hge451_)) 3).trans u436_
  have u472_ : T451_ 3 q385_ = 300 * o + 195 := (hx451_ q385_ (Nat.ne_of_lt (Nat.lt_of_lt_of_le (cw_lt hw0_.1 u429_ (fun _ _ _ => ⟨_, rfl⟩)) hge451_)) 3).trans u437_
  have u473_ : T451_ 2 q1_ = 2 := (hx451_ q1_ (Nat.ne_of_lt (Nat.lt_of_lt_of_le (cw_lt hw0_.1 u420_ (fun _ _ _ => ⟨_, rfl⟩)) hge451_)) 2).trans u438_
  have u474_ : T451_ 2 q12_ = 1 := (hx451_ q12_ (Nat.ne_of_lt (Nat.lt_of_lt_of_le (cw_lt hw0_.1 u421_ (fun _ _ _ => ⟨_, rfl⟩)) hge451_)) 2).trans u439_
  have u475_ : T451_ 2 q32_ = 8 := (hx451_ q32_ (Nat.ne_of_lt (Nat.lt_of_lt_of_le (cw_lt hw0_.1 u422_ (fun _ _ _ => ⟨_, rfl⟩)) hge451_)) 2).trans u440_
  have u476_ : T451_ 2 q61_ = 7 := (hx451_ q61_ (Nat.ne_of_lt (Nat.lt_of_lt_of_le (cw_lt hw0_.1 u423_ (fun _ _ _ => ⟨_, rfl⟩)) hge451_)) 2).trans u441_
  have u477_ : T451_ 180 o = q1_ + 1 := (hx451_ o (Nat.ne_of_lt (Nat.lt_of_lt_of_le (cw_lt hw0_.1 u418_ (fun _ _ _ => ⟨_, rfl⟩)) hge451_)) 180).trans u442_
  have u478_ : T451_ 181 o = q12_ + 1 := (hx451_ o (Nat.ne_of_lt (Nat.lt_of_lt_of_le (cw_lt hw0_.1 u418_ (fun _ _ _ => ⟨_, rfl⟩)) hge451_)) 181).trans u443_
  have u479_ : T451_ 182 o = q32_ + 1 := (hx451_ o (Nat.ne_of_lt (Nat.lt_of_lt_of_le (cw_lt hw0_.1 u418_ (fun _ _ _ => ⟨_, rfl⟩)) hge451_)) 182).trans u444_
  have u480_ : T451_ 183 o = q61_ + 1 := (hx451_ o (Nat.ne_of_lt (Nat.lt_of_lt_of_le (cw_lt hw0_.1 u418_ (fun _ _ _ => ⟨_, rfl⟩)) hge451_)) 183).trans u445_
  have u481_ : T451_ 184 o = q99_ + 1 := (hx451_ o (Nat.ne_of_lt (Nat.lt_of_lt_of_le (cw_lt hw0_.1 u418_ (fun _ _ _ => ⟨_, rfl⟩)) hge451_)) 184).trans u446_
  have u482_ : T451_ 185 o = q132_ + 1 := (hx451_ o (Nat.ne_of_lt (Nat.lt_of_lt_of_le (cw_lt hw0_.1 u418_ (fun _ _ _ => ⟨_, rfl⟩)) hge451_)) 185).trans u447_
  have u483_ : T451_ 192 o = q179_ + 1 := (hx451_ o (Nat.ne_of_lt (Nat.lt_of_lt_of_le (cw_lt hw0_.1 u418_ (fun _ _ _ => ⟨_, rfl⟩)) hge451_)) 192).trans u448_
  have u484_ : T451_ 193 o = q250_ + 1 := (hx451_ o (Nat.ne_of_lt (Nat.lt_of_lt_of_le (cw_lt hw0_.1 u418_ (fun _ _ _ => ⟨_, rfl⟩)) hge451_)) 193).trans u449_
  have u485_ : T451_ 194 o = q327_ + 1 := (hx451_ o (Nat.ne_of_lt (Nat.lt_of_lt_of_le (cw_lt hw0_.1 u418_ (fun _ _ _ => ⟨_, rfl⟩)) hge451_)) 194).trans u450_
  have u486_ : T451_ 195 o = q385_ + 1 := (hx451_ o (Nat.ne_of_lt (Nat.lt_of_lt_of_le (cw_lt hw0_.1 u418_ (fun _ _ _ => ⟨_, rfl⟩)) hge451_)) 195).trans hk417_
  have hw0_ := hw
  refine rr_196 E hK hw hnm fl_X9_73 u453_ 142 rfl dX9_init_139 (fun T487_ H locs hx487_ hj487_ hk487_ ho487_ hw => ?_)
  have hT487_ : WT T487_ := hw.1.2.1
  have hO487_ : ∀ x, ow T487_ x → κ 2 2 ≤ x := fun x h => hAc x (hw.2.1 x h)
  have hoT_ : OW T T487_ s.heap.size := OW.tr0 hoT_ ho487_
  have hC_ : ∀ b, b < sz → T 0 b ≠ 10 → T 0 b ≠ 24 → T 0 b ≠ 26 → b ≠ o → ∀ j, j ≠ 197 → T487_ j b = T j b := fun b_ h1_ h2_ h3_ h4_ h5_ j_ h6_ => (hx487_ b_ h5_ j_).trans (hC_ b_ h1_ h2_ h3_ h4_ h5_ j_ h6_)
  have hR_ : ∀ b, b < sz → b ≠ o → ∀ k, T487_ k b = T k b := fun b_ h1_ h2_ k_ => (hx487_ b_ h2_ k_).trans (hR_ b_ h1_ h2_ k_)
  have u488_ : T487_ 0 o = 109 := (hj487_ 0 (by decide)).trans u453_
  have u489_ : T487_ 0 (κ 2 0) = 26 := (hx487_ (κ 2 0) (ty_ne u454_ u453_ (by decide)) 0).trans u454_
  have u490_ : T487_ 0 q1_ = 10 := (hx487_ q1_ (ty_ne u455_ u453_ (by decide)) 0).trans u455_
  have u491_ : T487_ 0 q12_ = 10 := (hx487_ q12_ (ty_ne u456_ u453_ (by decide)) 0).trans u456_
  have u492_ : T487_ 0 q32_ = 10 := (hx487_ q32_ (ty_ne u457_ u453_ (by decide)) 0).trans u457_
  have u493_ : T487_ 0 q61_ = 10 := (hx487_ q61_ (ty_ne u458_ u453_ (by decide)) 0).trans u458_
  have u494_ : T487_ 0 q99_ = 21 := (hx487_ q99_ (ty_ne u459_ u453_ (by decide)) 0).trans u459_
  have u495_ : T487_ 0 q132_ = 23 := (hx487_ q132_ (ty_ne u460_ u453_ (by decide)) 0).trans u460_
  have u496_ : T487_ 0 q179_ = 4 := (hx487_ q179_ (ty_ne u461_ u453_ (by decide)) 0).trans u461_
  have u497_ : T487_ 0 q250_ = 5 := (hx487_ q250_ (ty_ne u462_ u453_ (by decide)) 0).trans u462_
  have u498_ : T487_ 0 q327_ = 20 := (hx487_ q327_ (ty_ne u463_ u453_ (by decide)) 0).trans u463_
  have u499_ : T487_ 0 q385_ = 20 := (hx487_ q385_ (ty_ne u464_ u453_ (by decide)) 0).trans u464_
  have u500_ : T487_ 0 q451_ = 20 := (hx487_ q451_ (ty_ne tq451_ u453_ (by decide)) 0).trans tq451_
  have u501_ : T487_ 1 q99_ = 8 := (hx487_ q99_ (ty_ne u459_ u453_ (by decide)) 1).trans u465_
  have u502_ : T487_ 1 q132_ = 400 := (hx487_ q132_ (ty_ne u460_ u453_ (by decide)) 1).trans u466_
  have u503_ : T487_ 1 q327_ = 32 := (hx487_ q327_ (ty_ne u463_ u453_ (by decide)) 1).trans u467_
  have u504_ : T487_ 1 q385_ = 32 := (hx487_ q385_ (ty_ne u464_ u453_ (by decide)) 1).trans u468_
  have u505_ : T487_ 1 q451_ = 401 := (hx487_ q451_ (ty_ne tq451_ u453_ (by decide)) 1).trans tl451_
  have u506_ : T487_ 3 q99_ = 300 * o + 184 := (hx487_ q99_ (ty_ne u459_ u453_ (by decide)) 3).trans u469_
  have u507_ : T487_ 3 q132_ = 300 * o + 185 := (hx487_ q132_ (ty_ne u460_ u453_ (by decide)) 3).trans u470_
  have u508_ : T487_ 3 q327_ = 300 * o + 194 := (hx487_ q327_ (ty_ne u463_ u453_ (by decide)) 3).trans u471_
  have u509_ : T487_ 3 q385_ = 300 * o + 195 := (hx487_ q385_ (ty_ne u464_ u453_ (by decide)) 3).trans u472_
  have u510_ : T487_ 3 q451_ = 300 * o + 196 := (hx487_ q451_ (ty_ne tq451_ u453_ (by decide)) 3).trans tw451_
  have u511_ : T487_ 2 q1_ = 2 := (hx487_ q1_ (ty_ne u455_ u453_ (by decide)) 2).trans u473_
  have u512_ : T487_ 2 q12_ = 1 := (hx487_ q12_ (ty_ne u456_ u453_ (by decide)) 2).trans u474_
  have u513_ : T487_ 2 q32_ = 8 := (hx487_ q32_ (ty_ne u457_ u453_ (by decide)) 2).trans u475_
  have u514_ : T487_ 2 q61_ = 7 := (hx487_ q61_ (ty_ne u458_ u453_ (by decide)) 2).trans u476_
  have u515_ : T487_ 180 o = q1_ + 1 := (hj487_ 180 (by decide)).trans u477_
  have u516_ : T487_ 181 o = q12_ + 1 := (hj487_ 181 (by decide)).trans u478_
  have u517_ : T487_ 182 o = q32_ + 1 := (hj487_ 182 (by decide)).trans u479_
  have u518_ : T487_ 183 o = q61_ + 1 := (hj487_ 183 (by decide)).trans u480_
  have u519_ : T487_ 184 o = q99_ + 1 := (hj487_ 184 (by decide)).trans u481_
  have u520_ : T487_ 185 o = q132_ + 1 := (hj487_ 185 (by decide)).trans u482_
  have u521_ : T487_ 192 o = q179_ + 1 := (hj487_ 192 (by decide)).trans u483_
  have u522_ : T487_ 193 o = q250_ + 1 := (hj487_ 193 (by decide)).trans u484_
  have u523_ : T487_ 194 o = q327_ + 1 := (hj487_ 194 (by decide)).trans u485_
  have u524_ : T487_ 195 o = q385_ + 1 := (hj487_ 195 (by decide)).trans u486_
  refine j_aload_n E 143 rfl dX9_init_142 rfl (lv_at hl 0 rfl) ?_
  refine j_null E 144 rfl dX9_init_143 ?_
  have hw0_ := hw
  refine rn_197 E hK hw fl_X9_76 u488_ 147 rfl dX9_init_144 (fun T525_ H locs hx525_ hj525_ hk525_ ho525_ hw => ?_)
  have hT525_ : WT T525_ := hw.1.2.1
  have hO525_ : ∀ x, ow T525_ x → κ 2 2 ≤ x := fun x h => hAc x (hw.2.1 x h)
  have hoT_ : OW T T525_ s.heap.size := OW.tr0 hoT_ ho525_
  have hC_ : ∀ b, b < sz → T 0 b ≠ 10 → T 0 b ≠ 24 → T 0 b ≠ 26 → b ≠ o → ∀ j, j ≠ 197 → T525_ j b = T j b := fun b_ h1_ h2_ h3_ h4_ h5_ j_ h6_ => (hx525_ b_ h5_ j_).trans (hC_ b_ h1_ h2_ h3_ h4_ h5_ j_ h6_)
  have hR_ : ∀ b, b < sz → b ≠ o → ∀ k, T525_ k b = T k b := fun b_ h1_ h2_ k_ => (hx525_ b_ h2_ k_).trans (hR_ b_ h1_ h2_ k_)
  have u526_ : T525_ 0 o = 109 := (hj525_ 0 (by decide)).trans u488_
  have u527_ : T525_ 0 (κ 2 0) = 26 := (hx525_ (κ 2 0) (ty_ne u489_ u488_ (by decide)) 0).trans u489_
  have u528_ : T525_ 0 q1_ = 10 := (hx525_ q1_ (ty_ne u490_ u488_ (by decide)) 0).trans u490_
  have u529_ : T525_ 0 q12_ = 10 := (hx525_ q12_ (ty_ne u491_ u488_ (by decide)) 0).trans u491_
  have u530_ : T525_ 0 q32_ = 10 := (hx525_ q32_ (ty_ne u492_ u488_ (by decide)) 0).trans u492_
  have u531_ : T525_ 0 q61_ = 10 := (hx525_ q61_ (ty_ne u493_ u488_ (by decide)) 0).trans u493_
  have u532_ : T525_ 0 q99_ = 21 := (hx525_ q99_ (ty_ne u494_ u488_ (by decide)) 0).trans u494_
  have u533_ : T525_ 0 q132_ = 23 := (hx525_ q132_ (ty_ne u495_ u488_ (by decide)) 0).trans u495_
  have u534_ : T525_ 0 q179_ = 4 := (hx525_ q179_ (ty_ne u496_ u488_ (by decide)) 0).trans u496_
  have u535_ : T525_ 0 q250_ = 5 := (hx525_ q250_ (ty_ne u497_ u488_ (by decide)) 0).trans u497_
  have u536_ : T525_ 0 q327_ = 20 := (hx525_ q327_ (ty_ne u498_ u488_ (by decide)) 0).trans u498_
  have u537_ : T525_ 0 q385_ = 20 := (hx525_ q385_ (ty_ne u499_ u488_ (by decide)) 0).trans u499_
  have u538_ : T525_ 0 q451_ = 20 := (hx525_ q451_ (ty_ne u500_ u488_ (by decide)) 0).trans u500_
  have u539_ : T525_ 1 q99_ = 8 := (hx525_ q99_ (ty_ne u494_ u488_ (by decide)) 1).trans u501_
  have u540_ : T525_ 1 q132_ = 400 := (hx525_ q132_ (ty_ne u495_ u488_ (by decide)) 1).trans u502_
  have u541_ : T525_ 1 q327_ = 32 := (hx525_ q327_ (ty_ne u498_ u488_ (by decide)) 1).trans u503_
  have u542_ : T525_ 1 q385_ = 32 := (hx525_ q385_ (ty_ne u499_ u488_ (by decide)) 1).trans u504_
  have u543_ : T525_ 1 q451_ = 401 := (hx525_ q451_ (ty_ne u500_ u488_ (by decide)) 1).trans u505_
  have u544_ : T525_ 3 q99_ = 300 * o + 184 := (hx525_ q99_ (ty_ne u494_ u488_ (by decide)) 3).trans u506_
  have u545_ : T525_ 3 q132_ = 300 * o + 185 := (hx525_ q132_ (ty_ne u495_ u488_ (by decide)) 3).trans u507_
  have u546_ : T525_ 3 q327_ = 300 * o + 194 := (hx525_ q327_ (ty_ne u498_ u488_ (by decide)) 3).trans u508_
  have u547_ : T525_ 3 q385_ = 300 * o + 195 := (hx525_ q385_ (ty_ne u499_ u488_ (by decide)) 3).trans u509_
  have u548_ : T525_ 3 q451_ = 300 * o + 196 := (hx525_ q451_ (ty_ne u500_ u488_ (by decide)) 3).trans u510_
  have u549_ : T525_ 2 q1_ = 2 := (hx525_ q1_ (ty_ne u490_ u488_ (by decide)) 2).trans u511_
  have u550_ : T525_ 2 q12_ = 1 := (hx525_ q12_ (ty_ne u491_ u488_ (by decide)) 2).trans u512_
  have u551_ : T525_ 2 q32_ = 8 := (hx525_ q32_ (ty_ne u492_ u488_ (by decide)) 2).trans u513_
  have u552_ : T525_ 2 q61_ = 7 := (hx525_ q61_ (ty_ne u493_ u488_ (by decide)) 2).trans u514_
  have u553_ : T525_ 180 o = q1_ + 1 := (hj525_ 180 (by decide)).trans u515_
  have u554_ : T525_ 181 o = q12_ + 1 := (hj525_ 181 (by decide)).trans u516_
  have u555_ : T525_ 182 o = q32_ + 1 := (hj525_ 182 (by decide)).trans u517_
  have u556_ : T525_ 183 o = q61_ + 1 := (hj525_ 183 (by decide)).trans u518_
  have u557_ : T525_ 184 o = q99_ + 1 := (hj525_ 184 (by decide)).trans u519_
  have u558_ : T525_ 185 o = q132_ + 1 := (hj525_ 185 (by decide)).trans u520_
  have u559_ : T525_ 192 o = q179_ + 1 := (hj525_ 192 (by decide)).trans u521_
  have u560_ : T525_ 193 o = q250_ + 1 := (hj525_ 193 (by decide)).trans u522_
  have u561_ : T525_ 194 o = q327_ + 1 := (hj525_ 194 (by decide)).trans u523_
  have u562_ : T525_ 195 o = q385_ + 1 := (hj525_ 195 (by decide)).trans u524_
  have u563_ : T525_ 196 o = q451_ + 1 := (hj525_ 196 (by decide)).trans hk487_
  have hw0_ := hw
  obtain ⟨T564_, hx564_, tq564_, xe564_180_, xe564_181_, xe564_182_, xe564_183_, xe564_184_, xe564_185_, xe564_192_, xe564_193_, xe564_194_, xe564_195_, xe564_196_, ho564_, hw⟩ := pm_9 hw u526_ u553_ u528_ u549_ u554_ u529_ u550_ u555_ u530_ u551_ u556_ u531_ u552_ u557_ u532_ u539_ u544_ u558_ u533_ u540_ u545_ u559_ u534_ u560_ u535_ u561_ u536_ u541_ u546_ u562_ u537_ u542_ u547_ u563_ u538_ u543_ u548_ hk525_
  have hT564_ : WT T564_ := hw.1.2.1
  have hO564_ : ∀ x, ow T564_ x → κ 2 2 ≤ x := fun x h => hAc x (hw.2.1 x h)
  have hoT_ : OW T T564_ s.heap.size := OW.tr0 hoT_ ho564_
  have hC_ : ∀ b, b < sz → T 0 b ≠ 10 → T 0 b ≠ 24 → T 0 b ≠ 26 → b ≠ o → ∀ j, j ≠ 197 → T564_ j b = T j b := fun b_ h1_ h2_ h3_ h4_ h5_ j_ h6_ => (hx564_ b_ h5_ j_).trans (hC_ b_ h1_ h2_ h3_ h4_ h5_ j_ h6_)
  have hR_ : ∀ b, b < sz → b ≠ o → ∀ k, T564_ k b = T k b := fun b_ h1_ h2_ k_ => (hx564_ b_ h2_ k_).trans (hR_ b_ h1_ h2_ k_)
  have u565_ : T564_ 0 (κ 2 0) = 26 := (hx564_ (κ 2 0) (ty_ne u527_ u526_ (by decide)) 0).trans u527_
  have u566_ : T564_ 1 q99_ = 8 := (hx564_ q99_ (ty_ne u532_ u526_ (by decide)) 1).trans u539_
  have u567_ : T564_ 1 q132_ = 400 := (hx564_ q132_ (ty_ne u533_ u526_ (by decide)) 1).trans u540_
  have u568_ : T564_ 1 q327_ = 32 := (hx564_ q327_ (ty_ne u536_ u526_ (by decide)) 1).trans u541_
  have u569_ : T564_ 1 q385_ = 32 := (hx564_ q385_ (ty_ne u537_ u526_ (by decide)) 1).trans u542_
  have u570_ : T564_ 1 q451_ = 401 := (hx564_ q451_ (ty_ne u538_ u526_ (by decide)) 1).trans u543_
  exact hret 147 T564_ _ _ _ ls _ _ hw hoT_ (⟨⟨hR_, tq564_, upB_same _ _ _, upB_same _ _ _, upB_same _ _ _, upB_same _ _ _, (by rw [xe564_180_]; show upB (upB (upB (upB (v_0 202) q1_ 0) q12_ 0) q32_ 0) q61_ 0 q1_ = 0; unfold upB; (repeat' split) <;> first | rfl | omega), (by rw [xe564_181_]; show upB (upB (upB (upB (v_0 202) q1_ 0) q12_ 0) q32_ 0) q61_ 0 q12_ = 0; unfold upB; (repeat' split) <;> first | rfl | omega), (by rw [xe564_182_]; show upB (upB (upB (upB (v_0 202) q1_ 0) q12_ 0) q32_ 0) q61_ 0 q32_ = 0; unfold upB; (repeat' split) <;> first | rfl | omega), (by rw [xe564_183_]; show upB (upB (upB (upB (v_0 202) q1_ 0) q12_ 0) q32_ 0) q61_ 0 q61_ = 0; unfold upB; (repeat' split) <;> first | rfl | omega)⟩, kd452_⟩) (Nat.le_of_ble_eq_true rfl) (Nat.le_of_ble_eq_true rfl) dX9_init_147
