set_option maxHeartbeats 4000000 in
set_option maxRecDepth 100000 in
theorem n_X9_init (l : Launch) (D : va_G) (cy : Nat → ClassId) (κ T : Nat → Nat → Nat) (v_0 : Nat → Nat → Int) (o : Nat) (sz : Nat) (hO : ∀ x, ow T x → κ 2 2 ≤ x) (t_o : T 0 o = 109) (hp0 : T 0 (κ 2 0) = 26) : KA l D cy κ T yX9_init cX9_init 1 none 4 30 4000 [.ref o] v_0 sz (AV (fun (T_2 : Nat → Nat → Nat) (v_2 : Nat → Nat → Int) => (∀ b, b < sz → b ≠ o → ∀ k, T_2 k b = T k b) ∧ T_2 0 o = 9)) := by
  refine KA.ofv (by decide) (Nat.le_of_ble_eq_true rfl) hO ?_
  intro p e s m below meth c ls ar QW A0 H locs E hK hZ hA hAc hsz hnm hw hlo_ hl hret
  have hl : lv_has ls 1 [(0, .ref o)] := hl
  have hT : WT T := hw.1.2.1
  have hoT_ : OW T T s.heap.size := OW.rf T _
  have hR_ : ∀ b, b < sz → b ≠ o → ∀ k, T k b = T k b := fun b _ _ k => rfl
  refine j_aload_n E 1 rfl dX9_init_0 rfl (lv_at hl 0 rfl) ?_
  refine W.objInit E.1 E.2.1 E.2.2.2.1 (E.2.2.2.2.1 _ mo_X9_3) (E.2.2.2.2.1 _ im_ob) (E.2.2.2.2.1 _ cd_ob) rfl (by rw [E.2.2.1]; exact hl.1) rfl dX9_init_1 (Nat.le_of_ble_eq_true rfl) (Nat.le_of_ble_eq_true rfl) ?_
  show W p l e (rmd 4 30 4000) s m ar below meth c H locs _ _ QW (F0 m 4 ls [])
  refine j_aload_n E 5 rfl dX9_init_4 rfl (lv_at hl 0 rfl) ?_
  have hw0_ := hw
  refine n_obj10 E hK hw hA cl_X9_9 (Nat.le_of_ble_eq_true rfl) (Nat.le_of_ble_eq_true rfl) 8 rfl dX9_init_5 (fun q1_ T1_ H hge1_ hx1_ ho1_ tq1_ hw => ?_)
  have fq1_ : s.heap.size ≤ q1_ := Nat.le_trans hw0_.2.2.1 hge1_
  have hT1_ : WT T1_ := hw.1.2.1
  have hO1_ : ∀ x, ow T1_ x → κ 2 2 ≤ x := fun x h => hAc x (hw.2.1 x h)
  have hoT_ : OW T T1_ s.heap.size := OW.tr hw0_.2.2.1 hoT_ ho1_
  have hR_ : ∀ b, b < sz → b ≠ o → ∀ k, T1_ k b = T k b := fun b_ h1_ h2_ k_ => (hx1_ b_ (by have := hw0_.2.2.1; have := hge1_; omega) k_).trans (hR_ b_ h1_ h2_ k_)
  have u2_ : T1_ 0 o = 109 := (hx1_ o (Nat.ne_of_lt (Nat.lt_of_lt_of_le (cw_lt hw0_.1 t_o (fun _ _ _ => ⟨_, rfl⟩)) hge1_)) 0).trans t_o
  have u3_ : T1_ 0 (κ 2 0) = 26 := (hx1_ (κ 2 0) (Nat.ne_of_lt (Nat.lt_of_lt_of_le (cw_lt hw0_.1 hp0 (fun _ _ _ => ⟨_, rfl⟩)) hge1_)) 0).trans hp0
  refine j_dup E 9 rfl dX9_init_8 rfl ?_
  have hw0_ := hw
  refine aI_v E (n_Jx4a65c_init_da8c8 l D cy κ T1_ _ q1_ H.size 2 hO1_ tq1_  (Or.inr (Or.inl rfl)) u3_ (by first | exact upB_same _ _ _ | simp [upV, upB])) mi_Jx4a65c_init_da8c8 ml_X9_11 hK hZ hAc hw hA ⟨(Nat.le_of_ble_eq_true rfl), (Nat.le_of_ble_eq_true rfl)⟩ ⟨(Nat.le_of_ble_eq_true rfl), (Nat.le_of_ble_eq_true rfl)⟩ (As := []) (rest := [.ref q1_, .ref o]) rfl rfl hl.1 (Nat.le_of_ble_eq_true rfl) 12 rfl dX9_init_9 (fun T4_ v_4 H locs hge4_ ho4_ hq4_ hw => ?_)
  obtain ⟨y200_4, ev4_, hh4_⟩ := hq4_
  clear ev4_
  obtain ⟨hx4_, tq4_, te4_⟩ := hh4_
  have hT4_ : WT T4_ := hw.1.2.1
  have hO4_ : ∀ x, ow T4_ x → κ 2 2 ≤ x := fun x h => hAc x (hw.2.1 x h)
  have hoT_ : OW T T4_ s.heap.size := OW.tr hw0_.2.2.1 hoT_ ho4_
  have hR_ : ∀ b, b < sz → b ≠ o → ∀ k, T4_ k b = T k b := fun b_ h1_ h2_ k_ => (hx4_ b_ (by have := hw0_.2.2.1; omega) (by have := fq1_; omega) k_).trans (hR_ b_ h1_ h2_ k_)
  have u5_ : T4_ 0 o = 109 := (hx4_ o (cw_lt hw0_.1 u2_ (fun _ _ _ => ⟨_, rfl⟩)) (ty_ne u2_ tq1_ (by decide)) 0).trans u2_
  have u6_ : T4_ 0 (κ 2 0) = 26 := (hx4_ (κ 2 0) (cw_lt hw0_.1 u3_ (fun _ _ _ => ⟨_, rfl⟩)) (ty_ne u3_ tq1_ (by decide)) 0).trans u3_
  have hw0_ := hw
  refine rr_180 E hK hw hnm fl_X9_12 u5_ 15 rfl dX9_init_12 (fun T7_ H locs hx7_ hj7_ hk7_ ho7_ hw => ?_)
  have hT7_ : WT T7_ := hw.1.2.1
  have hO7_ : ∀ x, ow T7_ x → κ 2 2 ≤ x := fun x h => hAc x (hw.2.1 x h)
  have hoT_ : OW T T7_ s.heap.size := OW.tr0 hoT_ ho7_
  have hR_ : ∀ b, b < sz → b ≠ o → ∀ k, T7_ k b = T k b := fun b_ h1_ h2_ k_ => (hx7_ b_ h2_ k_).trans (hR_ b_ h1_ h2_ k_)
  have u8_ : T7_ 0 o = 109 := (hj7_ 0 (by decide)).trans u5_
  have u9_ : T7_ 0 (κ 2 0) = 26 := (hx7_ (κ 2 0) (ty_ne u6_ u5_ (by decide)) 0).trans u6_
  have u10_ : T7_ 0 q1_ = 10 := (hx7_ q1_ (ty_ne tq4_ u5_ (by decide)) 0).trans tq4_
  have u11_ : T7_ 2 q1_ = 2 := (hx7_ q1_ (ty_ne tq4_ u5_ (by decide)) 2).trans te4_
  refine j_aload_n E 16 rfl dX9_init_15 rfl (lv_at hl 0 rfl) ?_
  have hw0_ := hw
  refine n_obj10 E hK hw hA cl_X9_9 (Nat.le_of_ble_eq_true rfl) (Nat.le_of_ble_eq_true rfl) 19 rfl dX9_init_16 (fun q12_ T12_ H hge12_ hx12_ ho12_ tq12_ hw => ?_)
  have fq12_ : s.heap.size ≤ q12_ := Nat.le_trans hw0_.2.2.1 hge12_
  have hT12_ : WT T12_ := hw.1.2.1
  have hO12_ : ∀ x, ow T12_ x → κ 2 2 ≤ x := fun x h => hAc x (hw.2.1 x h)
  have hoT_ : OW T T12_ s.heap.size := OW.tr hw0_.2.2.1 hoT_ ho12_
  have hR_ : ∀ b, b < sz → b ≠ o → ∀ k, T12_ k b = T k b := fun b_ h1_ h2_ k_ => (hx12_ b_ (by have := hw0_.2.2.1; have := hge12_; omega) k_).trans (hR_ b_ h1_ h2_ k_)
  have u13_ : T12_ 0 o = 109 := (hx12_ o (Nat.ne_of_lt (Nat.lt_of_lt_of_le (cw_lt hw0_.1 u8_ (fun _ _ _ => ⟨_, rfl⟩)) hge12_)) 0).trans u8_
  have u14_ : T12_ 0 (κ 2 0) = 26 := (hx12_ (κ 2 0) (Nat.ne_of_lt (Nat.lt_of_lt_of_le (cw_lt hw0_.1 u9_ (fun _ _ _ => ⟨_, rfl⟩)) hge12_)) 0).trans u9_
  have u15_ : T12_ 0 q1_ = 10 := (hx12_ q1_ (Nat.ne_of_lt (Nat.lt_of_lt_of_le (cw_lt hw0_.1 u10_ (fun _ _ _ => ⟨_, rfl⟩)) hge12_)) 0).trans u10_
  have u16_ : T12_ 2 q1_ = 2 := (hx12_ q1_ (Nat.ne_of_lt (Nat.lt_of_lt_of_le (cw_lt hw0_.1 u10_ (fun _ _ _ => ⟨_, rfl⟩)) hge12_)) 2).trans u11_
  have u17_ : T12_ 180 o = q1_ + 1 := (hx12_ o (Nat.ne_of_lt (Nat.lt_of_lt_of_le (cw_lt hw0_.1 u8_ (fun _ _ _ => ⟨_, rfl⟩)) hge12_)) 180).trans hk7_
  refine j_dup E 20 rfl dX9_init_19 rfl ?_
  have hw0_ := hw
  refine aI_v E (n_Jx4a65c_init_da8c8 l D cy κ T12_ _ q12_ H.size 1 hO12_ tq12_  (Or.inl rfl) u14_ (by first | exact upB_same _ _ _ | simp [upV, upB])) mi_Jx4a65c_init_da8c8 ml_X9_11 hK hZ hAc hw hA ⟨(Nat.le_of_ble_eq_true rfl), (Nat.le_of_ble_eq_true rfl)⟩ ⟨(Nat.le_of_ble_eq_true rfl), (Nat.le_of_ble_eq_true rfl)⟩ (As := []) (rest := [.ref q12_, .ref o]) rfl rfl hl.1 (Nat.le_of_ble_eq_true rfl) 23 rfl dX9_init_20 (fun T18_ v_18 H locs hge18_ ho18_ hq18_ hw => ?_)
  obtain ⟨y200_18, ev18_, hh18_⟩ := hq18_
  clear ev18_
  obtain ⟨hx18_, tq18_, te18_⟩ := hh18_
  have hT18_ : WT T18_ := hw.1.2.1
  have hO18_ : ∀ x, ow T18_ x → κ 2 2 ≤ x := fun x h => hAc x (hw.2.1 x h)
  have hoT_ : OW T T18_ s.heap.size := OW.tr hw0_.2.2.1 hoT_ ho18_
  have hR_ : ∀ b, b < sz → b ≠ o → ∀ k, T18_ k b = T k b := fun b_ h1_ h2_ k_ => (hx18_ b_ (by have := hw0_.2.2.1; omega) (by have := fq12_; omega) k_).trans (hR_ b_ h1_ h2_ k_)
  have u19_ : T18_ 0 o = 109 := (hx18_ o (cw_lt hw0_.1 u13_ (fun _ _ _ => ⟨_, rfl⟩)) (ty_ne u13_ tq12_ (by decide)) 0).trans u13_
  have u20_ : T18_ 0 (κ 2 0) = 26 := (hx18_ (κ 2 0) (cw_lt hw0_.1 u14_ (fun _ _ _ => ⟨_, rfl⟩)) (ty_ne u14_ tq12_ (by decide)) 0).trans u14_
  have u21_ : T18_ 0 q1_ = 10 := (hx18_ q1_ (cw_lt hw0_.1 u15_ (fun _ _ _ => ⟨_, rfl⟩)) (ty_ne u15_ tq12_ (by decide)) 0).trans u15_
  have u22_ : T18_ 2 q1_ = 2 := (hx18_ q1_ (cw_lt hw0_.1 u15_ (fun _ _ _ => ⟨_, rfl⟩)) (ty_ne u15_ tq12_ (by decide)) 2).trans u16_
  have u23_ : T18_ 180 o = q1_ + 1 := (hx18_ o (cw_lt hw0_.1 u13_ (fun _ _ _ => ⟨_, rfl⟩)) (ty_ne u13_ tq12_ (by decide)) 180).trans u17_
  have hw0_ := hw
  refine rr_181 E hK hw hnm fl_X9_16 u19_ 26 rfl dX9_init_23 (fun T24_ H locs hx24_ hj24_ hk24_ ho24_ hw => ?_)
  have hT24_ : WT T24_ := hw.1.2.1
  have hO24_ : ∀ x, ow T24_ x → κ 2 2 ≤ x := fun x h => hAc x (hw.2.1 x h)
  have hoT_ : OW T T24_ s.heap.size := OW.tr0 hoT_ ho24_
  have hR_ : ∀ b, b < sz → b ≠ o → ∀ k, T24_ k b = T k b := fun b_ h1_ h2_ k_ => (hx24_ b_ h2_ k_).trans (hR_ b_ h1_ h2_ k_)
  have u25_ : T24_ 0 o = 109 := (hj24_ 0 (by decide)).trans u19_
  have u26_ : T24_ 0 (κ 2 0) = 26 := (hx24_ (κ 2 0) (ty_ne u20_ u19_ (by decide)) 0).trans u20_
  have u27_ : T24_ 0 q1_ = 10 := (hx24_ q1_ (ty_ne u21_ u19_ (by decide)) 0).trans u21_
  have u28_ : T24_ 0 q12_ = 10 := (hx24_ q12_ (ty_ne tq18_ u19_ (by decide)) 0).trans tq18_
  have u29_ : T24_ 2 q1_ = 2 := (hx24_ q1_ (ty_ne u21_ u19_ (by decide)) 2).trans u22_
  have u30_ : T24_ 2 q12_ = 1 := (hx24_ q12_ (ty_ne tq18_ u19_ (by decide)) 2).trans te18_
  have u31_ : T24_ 180 o = q1_ + 1 := (hj24_ 180 (by decide)).trans u23_
  refine j_aload_n E 27 rfl dX9_init_26 rfl (lv_at hl 0 rfl) ?_
  have hw0_ := hw
  refine n_obj10 E hK hw hA cl_X9_9 (Nat.le_of_ble_eq_true rfl) (Nat.le_of_ble_eq_true rfl) 30 rfl dX9_init_27 (fun q32_ T32_ H hge32_ hx32_ ho32_ tq32_ hw => ?_)
  have fq32_ : s.heap.size ≤ q32_ := Nat.le_trans hw0_.2.2.1 hge32_
  have hT32_ : WT T32_ := hw.1.2.1
  have hO32_ : ∀ x, ow T32_ x → κ 2 2 ≤ x := fun x h => hAc x (hw.2.1 x h)
  have hoT_ : OW T T32_ s.heap.size := OW.tr hw0_.2.2.1 hoT_ ho32_
  have hR_ : ∀ b, b < sz → b ≠ o → ∀ k, T32_ k b = T k b := fun b_ h1_ h2_ k_ => (hx32_ b_ (by have := hw0_.2.2.1; have := hge32_; omega) k_).trans (hR_ b_ h1_ h2_ k_)
  have u33_ : T32_ 0 o = 109 := (hx32_ o (Nat.ne_of_lt (Nat.lt_of_lt_of_le (cw_lt hw0_.1 u25_ (fun _ _ _ => ⟨_, rfl⟩)) hge32_)) 0).trans u25_
  have u34_ : T32_ 0 (κ 2 0) = 26 := (hx32_ (κ 2 0) (Nat.ne_of_lt (Nat.lt_of_lt_of_le (cw_lt hw0_.1 u26_ (fun _ _ _ => ⟨_, rfl⟩)) hge32_)) 0).trans u26_
  have u35_ : T32_ 0 q1_ = 10 := (hx32_ q1_ (Nat.ne_of_lt (Nat.lt_of_lt_of_le (cw_lt hw0_.1 u27_ (fun _ _ _ => ⟨_, rfl⟩)) hge32_)) 0).trans u27_
  have u36_ : T32_ 0 q12_ = 10 := (hx32_ q12_ (Nat.ne_of_lt (Nat.lt_of_lt_of_le (cw_lt hw0_.1 u28_ (fun _ _ _ => ⟨_, rfl⟩)) hge32_)) 0).trans u28_
  have u37_ : T32_ 2 q1_ = 2 := (hx32_ q1_ (Nat.ne_of_lt (Nat.lt_of_lt_of_le (cw_lt hw0_.1 u27_ (fun _ _ _ => ⟨_, rfl⟩)) hge32_)) 2).trans u29_
  have u38_ : T32_ 2 q12_ = 1 := (hx32_ q12_ (Nat.ne_of_lt (Nat.lt_of_lt_of_le (cw_lt hw0_.1 u28_ (fun _ _ _ => ⟨_, rfl⟩)) hge32_)) 2).trans u30_
  have u39_ : T32_ 180 o = q1_ + 1 := (hx32_ o (Nat.ne_of_lt (Nat.lt_of_lt_of_le (cw_lt hw0_.1 u25_ (fun _ _ _ => ⟨_, rfl⟩)) hge32_)) 180).trans u31_
  have u40_ : T32_ 181 o = q12_ + 1 := (hx32_ o (Nat.ne_of_lt (Nat.lt_of_lt_of_le (cw_lt hw0_.1 u25_ (fun _ _ _ => ⟨_, rfl⟩)) hge32_)) 181).trans hk24_
  refine j_dup E 31 rfl dX9_init_30 rfl ?_
  have hw0_ := hw
  refine aI_v E (n_Jx4a65c_init_da8c8 l D cy κ T32_ _ q32_ H.size 8 hO32_ tq32_  (Or.inr (Or.inr (Or.inr rfl))) u34_ (by first | exact upB_same _ _ _ | simp [upV, upB])) mi_Jx4a65c_init_da8c8 ml_X9_11 hK hZ hAc hw hA ⟨(Nat.le_of_ble_eq_true rfl), (Nat.le_of_ble_eq_true rfl)⟩ ⟨(Nat.le_of_ble_eq_true rfl), (Nat.le_of_ble_eq_true rfl)⟩ (As := []) (rest := [.ref q32_, .ref o]) rfl rfl hl.1 (Nat.le_of_ble_eq_true rfl) 34 rfl dX9_init_31 (fun T41_ v_41 H locs hge41_ ho41_ hq41_ hw => ?_)
  obtain ⟨y200_41, ev41_, hh41_⟩ := hq41_
  clear ev41_
  obtain ⟨hx41_, tq41_, te41_⟩ := hh41_
  have hT41_ : WT T41_ := hw.1.2.1
  have hO41_ : ∀ x, ow T41_ x → κ 2 2 ≤ x := fun x h => hAc x (hw.2.1 x h)
  have hoT_ : OW T T41_ s.heap.size := OW.tr hw0_.2.2.1 hoT_ ho41_
  have hR_ : ∀ b, b < sz → b ≠ o → ∀ k, T41_ k b = T k b := fun b_ h1_ h2_ k_ => (hx41_ b_ (by have := hw0_.2.2.1; omega) (by have := fq32_; omega) k_).trans (hR_ b_ h1_ h2_ k_)
  have u42_ : T41_ 0 o = 109 := (hx41_ o (cw_lt hw0_.1 u33_ (fun _ _ _ => ⟨_, rfl⟩)) (ty_ne u33_ tq32_ (by decide)) 0).trans u33_
  have u43_ : T41_ 0 (κ 2 0) = 26 := (hx41_ (κ 2 0) (cw_lt hw0_.1 u34_ (fun _ _ _ => ⟨_, rfl⟩)) (ty_ne u34_ tq32_ (by decide)) 0).trans u34_
  have u44_ : T41_ 0 q1_ = 10 := (hx41_ q1_ (cw_lt hw0_.1 u35_ (fun _ _ _ => ⟨_, rfl⟩)) (ty_ne u35_ tq32_ (by decide)) 0).trans u35_
  have u45_ : T41_ 0 q12_ = 10 := (hx41_ q12_ (cw_lt hw0_.1 u36_ (fun _ _ _ => ⟨_, rfl⟩)) (ty_ne u36_ tq32_ (by decide)) 0).trans u36_
  have u46_ : T41_ 2 q1_ = 2 := (hx41_ q1_ (cw_lt hw0_.1 u35_ (fun _ _ _ => ⟨_, rfl⟩)) (ty_ne u35_ tq32_ (by decide)) 2).trans u37_
  have u47_ : T41_ 2 q12_ = 1 := (hx41_ q12_ (cw_lt hw0_.1 u36_ (fun _ _ _ => ⟨_, rfl⟩)) (ty_ne u36_ tq32_ (by decide)) 2).trans u38_
  have u48_ : T41_ 180 o = q1_ + 1 := (hx41_ o (cw_lt hw0_.1 u33_ (fun _ _ _ => ⟨_, rfl⟩)) (ty_ne u33_ tq32_ (by decide)) 180).trans u39_
  have u49_ : T41_ 181 o = q12_ + 1 := (hx41_ o (cw_lt hw0_.1 u33_ (fun _ _ _ => ⟨_, rfl⟩)) (ty_ne u33_ tq32_ (by decide)) 181).trans u40_
  have hw0_ := hw
  refine rr_182 E hK hw hnm fl_X9_19 u42_ 37 rfl dX9_init_34 (fun T50_ H locs hx50_ hj50_ hk50_ ho50_ hw => ?_)
  have hT50_ : WT T50_ := hw.1.2.1
  have hO50_ : ∀ x, ow T50_ x → κ 2 2 ≤ x := fun x h => hAc x (hw.2.1 x h)
  have hoT_ : OW T T50_ s.heap.size := OW.tr0 hoT_ ho50_
  have hR_ : ∀ b, b < sz → b ≠ o → ∀ k, T50_ k b = T k b := fun b_ h1_ h2_ k_ => (hx50_ b_ h2_ k_).trans (hR_ b_ h1_ h2_ k_)
  have u51_ : T50_ 0 o = 109 := (hj50_ 0 (by decide)).trans u42_
  have u52_ : T50_ 0 (κ 2 0) = 26 := (hx50_ (κ 2 0) (ty_ne u43_ u42_ (by decide)) 0).trans u43_
  have u53_ : T50_ 0 q1_ = 10 := (hx50_ q1_ (ty_ne u44_ u42_ (by decide)) 0).trans u44_
  have u54_ : T50_ 0 q12_ = 10 := (hx50_ q12_ (ty_ne u45_ u42_ (by decide)) 0).trans u45_
  have u55_ : T50_ 0 q32_ = 10 := (hx50_ q32_ (ty_ne tq41_ u42_ (by decide)) 0).trans tq41_
  have u56_ : T50_ 2 q1_ = 2 := (hx50_ q1_ (ty_ne u44_ u42_ (by decide)) 2).trans u46_
  have u57_ : T50_ 2 q12_ = 1 := (hx50_ q12_ (ty_ne u45_ u42_ (by decide)) 2).trans u47_
  have u58_ : T50_ 2 q32_ = 8 := (hx50_ q32_ (ty_ne tq41_ u42_ (by decide)) 2).trans te41_
  have u59_ : T50_ 180 o = q1_ + 1 := (hj50_ 180 (by decide)).trans u48_
  have u60_ : T50_ 181 o = q12_ + 1 := (hj50_ 181 (by decide)).trans u49_
  refine j_aload_n E 38 rfl dX9_init_37 rfl (lv_at hl 0 rfl) ?_
  have hw0_ := hw
  refine n_obj10 E hK hw hA cl_X9_9 (Nat.le_of_ble_eq_true rfl) (Nat.le_of_ble_eq_true rfl) 41 rfl dX9_init_38 (fun q61_ T61_ H hge61_ hx61_ ho61_ tq61_ hw => ?_)
  have fq61_ : s.heap.size ≤ q61_ := Nat.le_trans hw0_.2.2.1 hge61_
  have hT61_ : WT T61_ := hw.1.2.1
  have hO61_ : ∀ x, ow T61_ x → κ 2 2 ≤ x := fun x h => hAc x (hw.2.1 x h)
  have hoT_ : OW T T61_ s.heap.size := OW.tr hw0_.2.2.1 hoT_ ho61_
  have hR_ : ∀ b, b < sz → b ≠ o → ∀ k, T61_ k b = T k b := fun b_ h1_ h2_ k_ => (hx61_ b_ (by have := hw0_.2.2.1; have := hge61_; omega) k_).trans (hR_ b_ h1_ h2_ k_)
  have u62_ : T61_ 0 o = 109 := (hx61_ o (Nat.ne_of_lt (Nat.lt_of_lt_of_le (cw_lt hw0_.1 u51_ (fun _ _ _ => ⟨_, rfl⟩)) hge61_)) 0).trans u51_
  have u63_ : T61_ 0 (κ 2 0) = 26 := (hx61_ (κ 2 0) (Nat.ne_of_lt (Nat.lt_of_lt_of_le (cw_lt hw0_.1 u52_ (fun _ _ _ => ⟨_, rfl⟩)) hge61_)) 0).trans u52_
  have u64_ : T61_ 0 q1_ = 10 := (hx61_ q1_ (Nat.ne_of_lt (Nat.lt_of_lt_of_le (cw_lt hw0_.1 u53_ (fun _ _ _ => ⟨_, rfl⟩)) hge61_)) 0).trans u53_
  have u65_ : T61_ 0 q12_ = 10 := (hx61_ q12_ (Nat.ne_of_lt (Nat.lt_of_lt_of_le (cw_lt hw0_.1 u54_ (fun _ _ _ => ⟨_, rfl⟩)) hge61_)) 0).trans u54_
  have u66_ : T61_ 0 q32_ = 10 := (hx61_ q32_ (Nat.ne_of_lt (Nat.lt_of_lt_of_le (cw_lt hw0_.1 u55_ (fun _ _ _ => ⟨_, rfl⟩)) hge61_)) 0).trans u55_
  have u67_ : T61_ 2 q1_ = 2 := (hx61_ q1_ (Nat.ne_of_lt (Nat.lt_of_lt_of_le (cw_lt hw0_.1 u53_ (fun _ _ _ => ⟨_, rfl⟩)) hge61_)) 2).trans u56_
  have u68_ : T61_ 2 q12_ = 1 := (hx61_ q12_ (Nat.ne_of_lt (Nat.lt_of_lt_of_le (cw_lt hw0_.1 u54_ (fun _ _ _ => ⟨_, rfl⟩)) hge61_)) 2).trans u57_
  have u69_ : T61_ 2 q32_ = 8 := (hx61_ q32_ (Nat.ne_of_lt (Nat.lt_of_lt_of_le (cw_lt hw0_.1 u55_ (fun _ _ _ => ⟨_, rfl⟩)) hge61_)) 2).trans u58_
  have u70_ : T61_ 180 o = q1_ + 1 := (hx61_ o (Nat.ne_of_lt (Nat.lt_of_lt_of_le (cw_lt hw0_.1 u51_ (fun _ _ _ => ⟨_, rfl⟩)) hge61_)) 180).trans u59_
  have u71_ : T61_ 181 o = q12_ + 1 := (hx61_ o (Nat.ne_of_lt (Nat.lt_of_lt_of_le (cw_lt hw0_.1 u51_ (fun _ _ _ => ⟨_, rfl⟩)) hge61_)) 181).trans u60_
  have u72_ : T61_ 182 o = q32_ + 1 := (hx61_ o (Nat.ne_of_lt (Nat.lt_of_lt_of_le (cw_lt hw0_.1 u51_ (fun _ _ _ => ⟨_, rfl⟩)) hge61_)) 182).trans hk50_
  refine j_dup E 42 rfl dX9_init_41 rfl ?_
  have hw0_ := hw
  refine aI_v E (n_Jx4a65c_init_da8c8 l D cy κ T61_ _ q61_ H.size 7 hO61_ tq61_  (Or.inr (Or.inr (Or.inl rfl))) u63_ (by first | exact upB_same _ _ _ | simp [upV, upB])) mi_Jx4a65c_init_da8c8 ml_X9_11 hK hZ hAc hw hA ⟨(Nat.le_of_ble_eq_true rfl), (Nat.le_of_ble_eq_true rfl)⟩ ⟨(Nat.le_of_ble_eq_true rfl), (Nat.le_of_ble_eq_true rfl)⟩ (As := []) (rest := [.ref q61_, .ref o]) rfl rfl hl.1 (Nat.le_of_ble_eq_true rfl) 45 rfl dX9_init_42 (fun T73_ v_73 H locs hge73_ ho73_ hq73_ hw => ?_)
  obtain ⟨y200_73, ev73_, hh73_⟩ := hq73_
  clear ev73_
  obtain ⟨hx73_, tq73_, te73_⟩ := hh73_
  have hT73_ : WT T73_ := hw.1.2.1
  have hO73_ : ∀ x, ow T73_ x → κ 2 2 ≤ x := fun x h => hAc x (hw.2.1 x h)
  have hoT_ : OW T T73_ s.heap.size := OW.tr hw0_.2.2.1 hoT_ ho73_
  have hR_ : ∀ b, b < sz → b ≠ o → ∀ k, T73_ k b = T k b := fun b_ h1_ h2_ k_ => (hx73_ b_ (by have := hw0_.2.2.1; omega) (by have := fq61_; omega) k_).trans (hR_ b_ h1_ h2_ k_)
  have u74_ : T73_ 0 o = 109 := (hx73_ o (cw_lt hw0_.1 u62_ (fun _ _ _ => ⟨_, rfl⟩)) (ty_ne u62_ tq61_ (by decide)) 0).trans u62_
  have u75_ : T73_ 0 (κ 2 0) = 26 := (hx73_ (κ 2 0) (cw_lt hw0_.1 u63_ (fun _ _ _ => ⟨_, rfl⟩)) (ty_ne u63_ tq61_ (by decide)) 0).trans u63_
  have u76_ : T73_ 0 q1_ = 10 := (hx73_ q1_ (cw_lt hw0_.1 u64_ (fun _ _ _ => ⟨_, rfl⟩)) (ty_ne u64_ tq61_ (by decide)) 0).trans u64_
  have u77_ : T73_ 0 q12_ = 10 := (hx73_ q12_ (cw_lt hw0_.1 u65_ (fun _ _ _ => ⟨_, rfl⟩)) (ty_ne u65_ tq61_ (by decide)) 0).trans u65_
  have u78_ : T73_ 0 q32_ = 10 := (hx73_ q32_ (cw_lt hw0_.1 u66_ (fun _ _ _ => ⟨_, rfl⟩)) (ty_ne u66_ tq61_ (by decide)) 0).trans u66_
  have u79_ : T73_ 2 q1_ = 2 := (hx73_ q1_ (cw_lt hw0_.1 u64_ (fun _ _ _ => ⟨_, rfl⟩)) (ty_ne u64_ tq61_ (by decide)) 2).trans u67_
  have u80_ : T73_ 2 q12_ = 1 := (hx73_ q12_ (cw_lt hw0_.1 u65_ (fun _ _ _ => ⟨_, rfl⟩)) (ty_ne u65_ tq61_ (by decide)) 2).trans u68_
  have u81_ : T73_ 2 q32_ = 8 := (hx73_ q32_ (cw_lt hw0_.1 u66_ (fun _ _ _ => ⟨_, rfl⟩)) (ty_ne u66_ tq61_ (by decide)) 2).trans u69_
  have u82_ : T73_ 180 o = q1_ + 1 := (hx73_ o (cw_lt hw0_.1 u62_ (fun _ _ _ => ⟨_, rfl⟩)) (ty_ne u62_ tq61_ (by decide)) 180).trans u70_
  have u83_ : T73_ 181 o = q12_ + 1 := (hx73_ o (cw_lt hw0_.1 u62_ (fun _ _ _ => ⟨_, rfl⟩)) (ty_ne u62_ tq61_ (by decide)) 181).trans u71_
  have u84_ : T73_ 182 o = q32_ + 1 := (hx73_ o (cw_lt hw0_.1 u62_ (fun _ _ _ => ⟨_, rfl⟩)) (ty_ne u62_ tq61_ (by decide)) 182).trans u72_
  have hw0_ := hw
  refine rr_183 E hK hw hnm fl_X9_22 u74_ 48 rfl dX9_init_45 (fun T85_ H locs hx85_ hj85_ hk85_ ho85_ hw => ?_)
  have hT85_ : WT T85_ := hw.1.2.1
  have hO85_ : ∀ x, ow T85_ x → κ 2 2 ≤ x := fun x h => hAc x (hw.2.1 x h)
  have hoT_ : OW T T85_ s.heap.size := OW.tr0 hoT_ ho85_
  have hR_ : ∀ b, b < sz → b ≠ o → ∀ k, T85_ k b = T k b := fun b_ h1_ h2_ k_ => (hx85_ b_ h2_ k_).trans (hR_ b_ h1_ h2_ k_)
  have u86_ : T85_ 0 o = 109 := (hj85_ 0 (by decide)).trans u74_
  have u87_ : T85_ 0 (κ 2 0) = 26 := (hx85_ (κ 2 0) (ty_ne u75_ u74_ (by decide)) 0).trans u75_
  have u88_ : T85_ 0 q1_ = 10 := (hx85_ q1_ (ty_ne u76_ u74_ (by decide)) 0).trans u76_
  have u89_ : T85_ 0 q12_ = 10 := (hx85_ q12_ (ty_ne u77_ u74_ (by decide)) 0).trans u77_
  have u90_ : T85_ 0 q32_ = 10 := (hx85_ q32_ (ty_ne u78_ u74_ (by decide)) 0).trans u78_
  have u91_ : T85_ 0 q61_ = 10 := (hx85_ q61_ (ty_ne tq73_ u74_ (by decide)) 0).trans tq73_
  have u92_ : T85_ 2 q1_ = 2 := (hx85_ q1_ (ty_ne u76_ u74_ (by decide)) 2).trans u79_
  have u93_ : T85_ 2 q12_ = 1 := (hx85_ q12_ (ty_ne u77_ u74_ (by decide)) 2).trans u80_
  have u94_ : T85_ 2 q32_ = 8 := (hx85_ q32_ (ty_ne u78_ u74_ (by decide)) 2).trans u81_
  have u95_ : T85_ 2 q61_ = 7 := (hx85_ q61_ (ty_ne tq73_ u74_ (by decide)) 2).trans te73_
  have u96_ : T85_ 180 o = q1_ + 1 := (hj85_ 180 (by decide)).trans u82_
  have u97_ : T85_ 181 o = q12_ + 1 := (hj85_ 181 (by decide)).trans u83_
  have u98_ : T85_ 182 o = q32_ + 1 := (hj85_ 182 (by decide)).trans u84_
  refine j_aload_n E 49 rfl dX9_init_48 rfl (lv_at hl 0 rfl) ?_
  refine j_bipush E 51 rfl dX9_init_49 (by decide) ?_
  have hw0_ := hw
  refine n_arr21 E hK hw hA 8 (by decide) (by decide) (Nat.le_of_ble_eq_true rfl) (Nat.le_of_ble_eq_true rfl) 53 rfl dX9_init_51 (fun q99_ T99_ H hge99_ hx99_ ho99_ tq99_ tl99_ hw => ?_)
  have fq99_ : s.heap.size ≤ q99_ := Nat.le_trans hw0_.2.2.1 hge99_
  have hT99_ : WT T99_ := hw.1.2.1
  have hO99_ : ∀ x, ow T99_ x → κ 2 2 ≤ x := fun x h => hAc x (hw.2.1 x h)
  have hoT_ : OW T T99_ s.heap.size := OW.tr hw0_.2.2.1 hoT_ ho99_
  have hR_ : ∀ b, b < sz → b ≠ o → ∀ k, T99_ k b = T k b := fun b_ h1_ h2_ k_ => (hx99_ b_ (by have := hw0_.2.2.1; have := hge99_; omega) k_).trans (hR_ b_ h1_ h2_ k_)
  have u100_ : T99_ 0 o = 109 := (hx99_ o (Nat.ne_of_lt (Nat.lt_of_lt_of_le (cw_lt hw0_.1 u86_ (fun _ _ _ => ⟨_, rfl⟩)) hge99_)) 0).trans u86_
  have u101_ : T99_ 0 (κ 2 0) = 26 := (hx99_ (κ 2 0) (Nat.ne_of_lt (Nat.lt_of_lt_of_le (cw_lt hw0_.1 u87_ (fun _ _ _ => ⟨_, rfl⟩)) hge99_)) 0).trans u87_
  have u102_ : T99_ 0 q1_ = 10 := (hx99_ q1_ (Nat.ne_of_lt (Nat.lt_of_lt_of_le (cw_lt hw0_.1 u88_ (fun _ _ _ => ⟨_, rfl⟩)) hge99_)) 0).trans u88_
  have u103_ : T99_ 0 q12_ = 10 := (hx99_ q12_ (Nat.ne_of_lt (Nat.lt_of_lt_of_le (cw_lt hw0_.1 u89_ (fun _ _ _ => ⟨_, rfl⟩)) hge99_)) 0).trans u89_
  have u104_ : T99_ 0 q32_ = 10 := (hx99_ q32_ (Nat.ne_of_lt (Nat.lt_of_lt_of_le (cw_lt hw0_.1 u90_ (fun _ _ _ => ⟨_, rfl⟩)) hge99_)) 0).trans u90_
  have u105_ : T99_ 0 q61_ = 10 := (hx99_ q61_ (Nat.ne_of_lt (Nat.lt_of_lt_of_le (cw_lt hw0_.1 u91_ (fun _ _ _ => ⟨_, rfl⟩)) hge99_)) 0).trans u91_
  have u106_ : T99_ 2 q1_ = 2 := (hx99_ q1_ (Nat.ne_of_lt (Nat.lt_of_lt_of_le (cw_lt hw0_.1 u88_ (fun _ _ _ => ⟨_, rfl⟩)) hge99_)) 2).trans u92_
  have u107_ : T99_ 2 q12_ = 1 := (hx99_ q12_ (Nat.ne_of_lt (Nat.lt_of_lt_of_le (cw_lt hw0_.1 u89_ (fun _ _ _ => ⟨_, rfl⟩)) hge99_)) 2).trans u93_
  have u108_ : T99_ 2 q32_ = 8 := (hx99_ q32_ (Nat.ne_of_lt (Nat.lt_of_lt_of_le (cw_lt hw0_.1 u90_ (fun _ _ _ => ⟨_, rfl⟩)) hge99_)) 2).trans u94_
  have u109_ : T99_ 2 q61_ = 7 := (hx99_ q61_ (Nat.ne_of_lt (Nat.lt_of_lt_of_le (cw_lt hw0_.1 u91_ (fun _ _ _ => ⟨_, rfl⟩)) hge99_)) 2).trans u95_
  have u110_ : T99_ 180 o = q1_ + 1 := (hx99_ o (Nat.ne_of_lt (Nat.lt_of_lt_of_le (cw_lt hw0_.1 u86_ (fun _ _ _ => ⟨_, rfl⟩)) hge99_)) 180).trans u96_
  have u111_ : T99_ 181 o = q12_ + 1 := (hx99_ o (Nat.ne_of_lt (Nat.lt_of_lt_of_le (cw_lt hw0_.1 u86_ (fun _ _ _ => ⟨_, rfl⟩)) hge99_)) 181).trans u97_
  have u112_ : T99_ 182 o = q32_ + 1 := (hx99_ o (Nat.ne_of_lt (Nat.lt_of_lt_of_le (cw_lt hw0_.1 u86_ (fun _ _ _ => ⟨_, rfl⟩)) hge99_)) 182).trans u98_
  have u113_ : T99_ 183 o = q61_ + 1 := (hx99_ o (Nat.ne_of_lt (Nat.lt_of_lt_of_le (cw_lt hw0_.1 u86_ (fun _ _ _ => ⟨_, rfl⟩)) hge99_)) 183).trans hk85_
  have hw0_ := hw
  refine rr_184 E hK hw hnm fl_X9_25 u100_ 56 rfl dX9_init_53 (fun T114_ H locs hx114_ hj114_ hk114_ ho114_ hw => ?_)
  have hT114_ : WT T114_ := hw.1.2.1
  have hO114_ : ∀ x, ow T114_ x → κ 2 2 ≤ x := fun x h => hAc x (hw.2.1 x h)
  have hoT_ : OW T T114_ s.heap.size := OW.tr0 hoT_ ho114_
  have hR_ : ∀ b, b < sz → b ≠ o → ∀ k, T114_ k b = T k b := fun b_ h1_ h2_ k_ => (hx114_ b_ h2_ k_).trans (hR_ b_ h1_ h2_ k_)
  have u115_ : T114_ 0 o = 109 := (hj114_ 0 (by decide)).trans u100_
  have u116_ : T114_ 0 (κ 2 0) = 26 := (hx114_ (κ 2 0) (ty_ne u101_ u100_ (by decide)) 0).trans u101_
  have u117_ : T114_ 0 q1_ = 10 := (hx114_ q1_ (ty_ne u102_ u100_ (by decide)) 0).trans u102_
  have u118_ : T114_ 0 q12_ = 10 := (hx114_ q12_ (ty_ne u103_ u100_ (by decide)) 0).trans u103_
  have u119_ : T114_ 0 q32_ = 10 := (hx114_ q32_ (ty_ne u104_ u100_ (by decide)) 0).trans u104_
  have u120_ : T114_ 0 q61_ = 10 := (hx114_ q61_ (ty_ne u105_ u100_ (by decide)) 0).trans u105_
  have u121_ : T114_ 0 q99_ = 21 := (hx114_ q99_ (ty_ne tq99_ u100_ (by decide)) 0).trans tq99_
  have u122_ : T114_ 1 q99_ = 8 := (hx114_ q99_ (ty_ne tq99_ u100_ (by decide)) 1).trans tl99_
  have u123_ : T114_ 2 q1_ = 2 := (hx114_ q1_ (ty_ne u102_ u100_ (by decide)) 2).trans u106_
  have u124_ : T114_ 2 q12_ = 1 := (hx114_ q12_ (ty_ne u103_ u100_ (by decide)) 2).trans u107_
  have u125_ : T114_ 2 q32_ = 8 := (hx114_ q32_ (ty_ne u104_ u100_ (by decide)) 2).trans u108_
  have u126_ : T114_ 2 q61_ = 7 := (hx114_ q61_ (ty_ne u105_ u100_ (by decide)) 2).trans u109_
  have u127_ : T114_ 180 o = q1_ + 1 := (hj114_ 180 (by decide)).trans u110_
  have u128_ : T114_ 181 o = q12_ + 1 := (hj114_ 181 (by decide)).trans u111_
  have u129_ : T114_ 182 o = q32_ + 1 := (hj114_ 182 (by decide)).trans u112_
  have u130_ : T114_ 183 o = q61_ + 1 := (hj114_ 183 (by decide)).trans u113_
  refine j_aload_n E 57 rfl dX9_init_56 rfl (lv_at hl 0 rfl) ?_
  refine j_sipush E 60 rfl dX9_init_57 (by decide) ?_
  have hw0_ := hw
  refine n_arr23 E hK hw hA 400 (by decide) (by decide) (Nat.le_of_ble_eq_true rfl) (Nat.le_of_ble_eq_true rfl) 62 rfl dX9_init_60 (fun q131_ T131_ H hge131_ hx131_ ho131_ tq131_ tl131_ hw => ?_)
  have fq131_ : s.heap.size ≤ q131_ := Nat.le_trans hw0_.2.2.1 hge131_
  have hT131_ : WT T131_ := hw.1.2.1
  have hO131_ : ∀ x, ow T131_ x → κ 2 2 ≤ x := fun x h => hAc x (hw.2.1 x h)
  have hoT_ : OW T T131_ s.heap.size := OW.tr hw0_.2.2.1 hoT_ ho131_
  have hR_ : ∀ b, b < sz → b ≠ o → ∀ k, T131_ k b = T k b := fun b_ h1_ h2_ k_ => (hx131_ b_ (by have := hw0_.2.2.1; have := hge131_; omega) k_).trans (hR_ b_ h1_ h2_ k_)
  have u132_ : T131_ 0 o = 109 := (hx131_ o (Nat.ne_of_lt (Nat.lt_of_lt_of_le (cw_lt hw0_.1 u115_ (fun _ _ _ => ⟨_, rfl⟩)) hge131_)) 0).trans u115_
  have u133_ : T131_ 0 (κ 2 0) = 26 := (hx131_ (κ 2 0) (Nat.ne_of_lt (Nat.lt_of_lt_of_le (cw_lt hw0_.1 u116_ (fun _ _ _ => ⟨_, rfl⟩)) hge131_)) 0).trans u116_
  have u134_ : T131_ 0 q1_ = 10 := (hx131_ q1_ (Nat.ne_of_lt (Nat.lt_of_lt_of_le (cw_lt hw0_.1 u117_ (fun _ _ _ => ⟨_, rfl⟩)) hge131_)) 0).trans u117_
  have u135_ : T131_ 0 q12_ = 10 := (hx131_ q12_ (Nat.ne_of_lt (Nat.lt_of_lt_of_le (cw_lt hw0_.1 u118_ (fun _ _ _ => ⟨_, rfl⟩)) hge131_)) 0).trans u118_
  have u136_ : T131_ 0 q32_ = 10 := (hx131_ q32_ (Nat.ne_of_lt (Nat.lt_of_lt_of_le (cw_lt hw0_.1 u119_ (fun _ _ _ => ⟨_, rfl⟩)) hge131_)) 0).trans u119_
  have u137_ : T131_ 0 q61_ = 10 := (hx131_ q61_ (Nat.ne_of_lt (Nat.lt_of_lt_of_le (cw_lt hw0_.1 u120_ (fun _ _ _ => ⟨_, rfl⟩)) hge131_)) 0).trans u120_
  have u138_ : T131_ 0 q99_ = 21 := (hx131_ q99_ (Nat.ne_of_lt (Nat.lt_of_lt_of_le (cw_lt hw0_.1 u121_ (fun _ _ _ => ⟨_, rfl⟩)) hge131_)) 0).trans u121_
  have u139_ : T131_ 1 q99_ = 8 := (hx131_ q99_ (Nat.ne_of_lt (Nat.lt_of_lt_of_le (cw_lt hw0_.1 u121_ (fun _ _ _ => ⟨_, rfl⟩)) hge131_)) 1).trans u122_
  have u140_ : T131_ 2 q1_ = 2 := (hx131_ q1_ (Nat.ne_of_lt (Nat.lt_of_lt_of_le (cw_lt hw0_.1 u117_ (fun _ _ _ => ⟨_, rfl⟩)) hge131_)) 2).trans u123_
  have u141_ : T131_ 2 q12_ = 1 := (hx131_ q12_ (Nat.ne_of_lt (Nat.lt_of_lt_of_le (cw_lt hw0_.1 u118_ (fun _ _ _ => ⟨_, rfl⟩)) hge131_)) 2).trans u124_
  have u142_ : T131_ 2 q32_ = 8 := (hx131_ q32_ (Nat.ne_of_lt (Nat.lt_of_lt_of_le (cw_lt hw0_.1 u119_ (fun _ _ _ => ⟨_, rfl⟩)) hge131_)) 2).trans u125_
  have u143_ : T131_ 2 q61_ = 7 := (hx131_ q61_ (Nat.ne_of_lt (Nat.lt_of_lt_of_le (cw_lt hw0_.1 u120_ (fun _ _ _ => ⟨_, rfl⟩)) hge131_)) 2).trans u126_
  have u144_ : T131_ 180 o = q1_ + 1 := (hx131_ o (Nat.ne_of_lt (Nat.lt_of_lt_of_le (cw_lt hw0_.1 u115_ (fun _ _ _ => ⟨_, rfl⟩)) hge131_)) 180).trans u127_
  have u145_ : T131_ 181 o = q12_ + 1 := (hx131_ o (Nat.ne_of_lt (Nat.lt_of_lt_of_le (cw_lt hw0_.1 u115_ (fun _ _ _ => ⟨_, rfl⟩)) hge131_)) 181).trans u128_
  have u146_ : T131_ 182 o = q32_ + 1 := (hx131_ o (Nat.ne_of_lt (Nat.lt_of_lt_of_le (cw_lt hw0_.1 u115_ (fun _ _ _ => ⟨_, rfl⟩)) hge131_)) 182).trans u129_
  have u147_ : T131_ 183 o = q61_ + 1 := (hx131_ o (Nat.ne_of_lt (Nat.lt_of_lt_of_le (cw_lt hw0_.1 u115_ (fun _ _ _ => ⟨_, rfl⟩)) hge131_)) 183).trans u130_
  have u148_ : T131_ 184 o = q99_ + 1 := (hx131_ o (Nat.ne_of_lt (Nat.lt_of_lt_of_le (cw_lt hw0_.1 u115_ (fun _ _ _ => ⟨_, rfl⟩)) hge131_)) 184).trans hk114_
  have hw0_ := hw
  refine rr_185 E hK hw hnm fl_X9_29 u132_ 65 rfl dX9_init_62 (fun T149_ H locs hx149_ hj149_ hk149_ ho149_ hw => ?_)
  have hT149_ : WT T149_ := hw.1.2.1
  have hO149_ : ∀ x, ow T149_ x → κ 2 2 ≤ x := fun x h => hAc x (hw.2.1 x h)
  have hoT_ : OW T T149_ s.heap.size := OW.tr0 hoT_ ho149_
  have hR_ : ∀ b, b < sz → b ≠ o → ∀ k, T149_ k b = T k b := fun b_ h1_ h2_ k_ => (hx149_ b_ h2_ k_).trans (hR_ b_ h1_ h2_ k_)
  have u150_ : T149_ 0 o = 109 := (hj149_ 0 (by decide)).trans u132_
  have u151_ : T149_ 0 (κ 2 0) = 26 := (hx149_ (κ 2 0) (ty_ne u133_ u132_ (by decide)) 0).trans u133_
  have u152_ : T149_ 0 q1_ = 10 := (hx149_ q1_ (ty_ne u134_ u132_ (by decide)) 0).trans u134_
  have u153_ : T149_ 0 q12_ = 10 := (hx149_ q12_ (ty_ne u135_ u132_ (by decide)) 0).trans u135_
  have u154_ : T149_ 0 q32_ = 10 := (hx149_ q32_ (ty_ne u136_ u132_ (by decide)) 0).trans u136_
  have u155_ : T149_ 0 q61_ = 10 := (hx149_ q61_ (ty_ne u137_ u132_ (by decide)) 0).trans u137_
  have u156_ : T149_ 0 q99_ = 21 := (hx149_ q99_ (ty_ne u138_ u132_ (by decide)) 0).trans u138_
  have u157_ : T149_ 0 q131_ = 23 := (hx149_ q131_ (ty_ne tq131_ u132_ (by decide)) 0).trans tq131_
  have u158_ : T149_ 1 q99_ = 8 := (hx149_ q99_ (ty_ne u138_ u132_ (by decide)) 1).trans u139_
  have u159_ : T149_ 1 q131_ = 400 := (hx149_ q131_ (ty_ne tq131_ u132_ (by decide)) 1).trans tl131_
  have u160_ : T149_ 2 q1_ = 2 := (hx149_ q1_ (ty_ne u134_ u132_ (by decide)) 2).trans u140_
  have u161_ : T149_ 2 q12_ = 1 := (hx149_ q12_ (ty_ne u135_ u132_ (by decide)) 2).trans u141_
  have u162_ : T149_ 2 q32_ = 8 := (hx149_ q32_ (ty_ne u136_ u132_ (by decide)) 2).trans u142_
  have u163_ : T149_ 2 q61_ = 7 := (hx149_ q61_ (ty_ne u137_ u132_ (by decide)) 2).trans u143_
  have u164_ : T149_ 180 o = q1_ + 1 := (hj149_ 180 (by decide)).trans u144_
  have u165_ : T149_ 181 o = q12_ + 1 := (hj149_ 181 (by decide)).trans u145_
  have u166_ : T149_ 182 o = q32_ + 1 := (hj149_ 182 (by decide)).trans u146_
  have u167_ : T149_ 183 o = q61_ + 1 := (hj149_ 183 (by decide)).trans u147_
  have u168_ : T149_ 184 o = q99_ + 1 := (hj149_ 184 (by decide)).trans u148_
  refine j_aload_n E 66 rfl dX9_init_65 rfl (lv_at hl 0 rfl) ?_
  refine j_iconst E 67 rfl dX9_init_66 ?_
  refine rp_186 E hK hw fl_X9_33 u150_ (rr (by decide)) 70 rfl dX9_init_67 (fun H locs hw => ?_)
  refine j_aload_n E 71 rfl dX9_init_70 rfl (lv_at hl 0 rfl) ?_
  refine j_iconst E 72 rfl dX9_init_71 ?_
  refine rp_187 E hK hw fl_X9_37 u150_ (rr (by decide)) 75 rfl dX9_init_72 (fun H locs hw => ?_)
  refine j_aload_n E 76 rfl dX9_init_75 rfl (lv_at hl 0 rfl) ?_
  refine j_iconst E 77 rfl dX9_init_76 ?_
  refine rp_188 E hK hw fl_X9_40 u150_ (rr (by decide)) 80 rfl dX9_init_77 (fun H locs hw => ?_)
  refine j_aload_n E 81 rfl dX9_init_80 rfl (lv_at hl 0 rfl) ?_
  refine j_iconst E 82 rfl dX9_init_81 ?_
  refine rp_189 E hK hw fl_X9_43 u150_ (rr (by decide)) 85 rfl dX9_init_82 (fun H locs hw => ?_)
  refine j_aload_n E 86 rfl dX9_init_85 rfl (lv_at hl 0 rfl) ?_
  refine j_iconst E 87 rfl dX9_init_86 ?_
  refine rp_190 E hK hw fl_X9_46 u150_ (rr (by decide)) 90 rfl dX9_init_87 (fun H locs hw => ?_)
  refine j_aload_n E 91 rfl dX9_init_90 rfl (lv_at hl 0 rfl) ?_
  refine j_iconst E 92 rfl dX9_init_91 ?_
  refine rp_191 E hK hw fl_X9_49 u150_ (rr (by decide)) 95 rfl dX9_init_92 (fun H locs hw => ?_)
  refine j_aload_n E 96 rfl dX9_init_95 rfl (lv_at hl 0 rfl) ?_
  have hw0_ := hw
  refine n_obj4 E hK hw hA cl_X9_52 (Nat.le_of_ble_eq_true rfl) (Nat.le_of_ble_eq_true rfl) 99 rfl dX9_init_96 (fun q175_ T175_ H hge175_ hx175_ ho175_ tq175_ hw => ?_)
  have fq175_ : s.heap.size ≤ q175_ := Nat.le_trans hw0_.2.2.1 hge175_
  have hT175_ : WT T175_ := hw.1.2.1
  have hO175_ : ∀ x, ow T175_ x → κ 2 2 ≤ x := fun x h => hAc x (hw.2.1 x h)
  have hoT_ : OW T T175_ s.heap.size := OW.tr hw0_.2.2.1 hoT_ ho175_
  have hR_ : ∀ b, b < sz → b ≠ o → ∀ k, T175_ k b = T k b := fun b_ h1_ h2_ k_ => (hx175_ b_ (by have := hw0_.2.2.1; have := hge175_; omega) k_).trans (hR_ b_ h1_ h2_ k_)
  have u176_ : T175_ 0 o = 109 := (hx175_ o (Nat.ne_of_lt (Nat.lt_of_lt_of_le (cw_lt hw0_.1 u150_ (fun _ _ _ => ⟨_, rfl⟩)) hge175_)) 0).trans u150_
  have u177_ : T175_ 0 (κ 2 0) = 26 := (hx175_ (κ 2 0) (Nat.ne_of_lt (Nat.lt_of_lt_of_le (cw_lt hw0_.1 u151_ (fun _ _ _ => ⟨_, rfl⟩)) hge175_)) 0).trans u151_
  have u178_ : T175_ 0 q1_ = 10 := (hx175_ q1_ (Nat.ne_of_lt (Nat.lt_of_lt_of_le (cw_lt hw0_.1 u152_ (fun _ _ _ => ⟨_, rfl⟩)) hge175_)) 0).trans u152_
  have u179_ : T175_ 0 q12_ = 10 := (hx175_ q12_ (Nat.ne_of_lt (Nat.lt_of_lt_of_le (cw_lt hw0_.1 u153_ (fun _ _ _ => ⟨_, rfl⟩)) hge175_)) 0).trans u153_
  have u180_ : T175_ 0 q32_ = 10 := (hx175_ q32_ (Nat.ne_of_lt (Nat.lt_of_lt_of_le (cw_lt hw0_.1 u154_ (fun _ _ _ => ⟨_, rfl⟩)) hge175_)) 0).trans u154_
  have u181_ : T175_ 0 q61_ = 10 := (hx175_ q61_ (Nat.ne_of_lt (Nat.lt_of_lt_of_le (cw_lt hw0_.1 u155_ (fun _ _ _ => ⟨_, rfl⟩)) hge175_)) 0).trans u155_
  have u182_ : T175_ 0 q99_ = 21 := (hx175_ q99_ (Nat.ne_of_lt (Nat.lt_of_lt_of_le (cw_lt hw0_.1 u156_ (fun _ _ _ => ⟨_, rfl⟩)) hge175_)) 0).trans u156_
  have u183_ : T175_ 0 q131_ = 23 := (hx175_ q131_ (Nat.ne_of_lt (Nat.lt_of_lt_of_le (cw_lt hw0_.1 u157_ (fun _ _ _ => ⟨_, rfl⟩)) hge175_)) 0).trans u157_
  have u184_ : T175_ 1 q99_ = 8 := (hx175_ q99_ (Nat.ne_of_lt (Nat.lt_of_lt_of_le (cw_lt hw0_.1 u156_ (fun _ _ _ => ⟨_, rfl⟩)) hge175_)) 1).trans u158_
  have u185_ : T175_ 1 q131_ = 400 := (hx175_ q131_ (Nat.ne_of_lt (Nat.lt_of_lt_of_le (cw_lt hw0_.1 u157_ (fun _ _ _ => ⟨_, rfl⟩)) hge175_)) 1).trans u159_
  have u186_ : T175_ 2 q1_ = 2 := (hx175_ q1_ (Nat.ne_of_lt (Nat.lt_of_lt_of_le (cw_lt hw0_.1 u152_ (fun _ _ _ => ⟨_, rfl⟩)) hge175_)) 2).trans u160_
  have u187_ : T175_ 2 q12_ = 1 := (hx175_ q12_ (Nat.ne_of_lt (Nat.lt_of_lt_of_le (cw_lt hw0_.1 u153_ (fun _ _ _ => ⟨_, rfl⟩)) hge175_)) 2).trans u161_
  have u188_ : T175_ 2 q32_ = 8 := (hx175_ q32_ (Nat.ne_of_lt (Nat.lt_of_lt_of_le (cw_lt hw0_.1 u154_ (fun _ _ _ => ⟨_, rfl⟩)) hge175_)) 2).trans u162_
  have u189_ : T175_ 2 q61_ = 7 := (hx175_ q61_ (Nat.ne_of_lt (Nat.lt_of_lt_of_le (cw_lt hw0_.1 u155_ (fun _ _ _ => ⟨_, rfl⟩)) hge175_)) 2).trans u163_
  have u190_ : T175_ 180 o = q1_ + 1 := (hx175_ o (Nat.ne_of_lt (Nat.lt_of_lt_of_le (cw_lt hw0_.1 u150_ (fun _ _ _ => ⟨_, rfl⟩)) hge175_)) 180).trans u164_
  have u191_ : T175_ 181 o = q12_ + 1 := (hx175_ o (Nat.ne_of_lt (Nat.lt_of_lt_of_le (cw_lt hw0_.1 u150_ (fun _ _ _ => ⟨_, rfl⟩)) hge175_)) 181).trans u165_
  have u192_ : T175_ 182 o = q32_ + 1 := (hx175_ o (Nat.ne_of_lt (Nat.lt_of_lt_of_le (cw_lt hw0_.1 u150_ (fun _ _ _ => ⟨_, rfl⟩)) hge175_)) 182).trans u166_
  have u193_ : T175_ 183 o = q61_ + 1 := (hx175_ o (Nat.ne_of_lt (Nat.lt_of_lt_of_le (cw_lt hw0_.1 u150_ (fun _ _ _ => ⟨_, rfl⟩)) hge175_)) 183).trans u167_
  have u194_ : T175_ 184 o = q99_ + 1 := (hx175_ o (Nat.ne_of_lt (Nat.lt_of_lt_of_le (cw_lt hw0_.1 u150_ (fun _ _ _ => ⟨_, rfl⟩)) hge175_)) 184).trans u168_
  have u195_ : T175_ 185 o = q131_ + 1 := (hx175_ o (Nat.ne_of_lt (Nat.lt_of_lt_of_le (cw_lt hw0_.1 u150_ (fun _ _ _ => ⟨_, rfl⟩)) hge175_)) 185).trans hk149_
  refine j_dup E 100 rfl dX9_init_99 rfl ?_
  have hw0_ := hw
  refine aN_v E (n_X3_init l D cy κ T175_ _ q175_ H.size  hO175_ tq175_  ) mi_X3_init hZ.1.mR hK hZ hAc hw hA ⟨(Nat.le_of_ble_eq_true rfl), (Nat.le_of_ble_eq_true rfl)⟩ ⟨(Nat.le_of_ble_eq_true rfl), (Nat.le_of_ble_eq_true rfl)⟩ (As := []) (rest := [.ref q175_, .ref o]) rfl rfl hl.1 (Nat.le_of_ble_eq_true rfl) 103 rfl dX9_init_100 (fun T196_ v_196 H locs hge196_ ho196_ hq196_ hw => ?_)
  obtain ⟨y80_196, y81_196, y83_196, y84_196, y86_196, y123_196, y124_196, ev196_, hh196_⟩ := hq196_
  clear ev196_
  obtain ⟨hx196_, tq196_⟩ := hh196_
  have hT196_ : WT T196_ := hw.1.2.1
  have hO196_ : ∀ x, ow T196_ x → κ 2 2 ≤ x := fun x h => hAc x (hw.2.1 x h)
  have hoT_ : OW T T196_ s.heap.size := OW.tr hw0_.2.2.1 hoT_ ho196_
  have hR_ : ∀ b, b < sz → b ≠ o → ∀ k, T196_ k b = T k b := fun b_ h1_ h2_ k_ => (hx196_ b_ (by have := hw0_.2.2.1; omega) (by have := fq175_; omega) k_).trans (hR_ b_ h1_ h2_ k_)
  have u197_ : T196_ 0 o = 109 := (hx196_ o (cw_lt hw0_.1 u176_ (fun _ _ _ => ⟨_, rfl⟩)) (ty_ne u176_ tq175_ (by decide)) 0).trans u176_
  have u198_ : T196_ 0 (κ 2 0) = 26 := (hx196_ (κ 2 0) (cw_lt hw0_.1 u177_ (fun _ _ _ => ⟨_, rfl⟩)) (ty_ne u177_ tq175_ (by decide)) 0).trans u177_
  have u199_ : T196_ 0 q1_ = 10 := (hx196_ q1_ (cw_lt hw0_.1 u178_ (fun _ _ _ => ⟨_, rfl⟩)) (ty_ne u178_ tq175_ (by decide)) 0).trans u178_
  have u200_ : T196_ 0 q12_ = 10 := (hx196_ q12_ (cw_lt hw0_.1 u179_ (fun _ _ _ => ⟨_, rfl⟩)) (ty_ne u179_ tq175_ (by decide)) 0).trans u179_
  have u201_ : T196_ 0 q32_ = 10 := (hx196_ q32_ (cw_lt hw0_.1 u180_ (fun _ _ _ => ⟨_, rfl⟩)) (ty_ne u180_ tq175_ (by decide)) 0).trans u180_
  have u202_ : T196_ 0 q61_ = 10 := (hx196_ q61_ (cw_lt hw0_.1 u181_ (fun _ _ _ => ⟨_, rfl⟩)) (ty_ne u181_ tq175_ (by decide)) 0).trans u181_
  have u203_ : T196_ 0 q99_ = 21 := (hx196_ q99_ (cw_lt hw0_.1 u182_ (fun _ _ _ => ⟨_, rfl⟩)) (ty_ne u182_ tq175_ (by decide)) 0).trans u182_
  have u204_ : T196_ 0 q131_ = 23 := (hx196_ q131_ (cw_lt hw0_.1 u183_ (fun _ _ _ => ⟨_, rfl⟩)) (ty_ne u183_ tq175_ (by decide)) 0).trans u183_
  have u205_ : T196_ 1 q99_ = 8 := (hx196_ q99_ (cw_lt hw0_.1 u182_ (fun _ _ _ => ⟨_, rfl⟩)) (ty_ne u182_ tq175_ (by decide)) 1).trans u184_
  have u206_ : T196_ 1 q131_ = 400 := (hx196_ q131_ (cw_lt hw0_.1 u183_ (fun _ _ _ => ⟨_, rfl⟩)) (ty_ne u183_ tq175_ (by decide)) 1).trans u185_
  have u207_ : T196_ 2 q1_ = 2 := (hx196_ q1_ (cw_lt hw0_.1 u178_ (fun _ _ _ => ⟨_, rfl⟩)) (ty_ne u178_ tq175_ (by decide)) 2).trans u186_
  have u208_ : T196_ 2 q12_ = 1 := (hx196_ q12_ (cw_lt hw0_.1 u179_ (fun _ _ _ => ⟨_, rfl⟩)) (ty_ne u179_ tq175_ (by decide)) 2).trans u187_
  have u209_ : T196_ 2 q32_ = 8 := (hx196_ q32_ (cw_lt hw0_.1 u180_ (fun _ _ _ => ⟨_, rfl⟩)) (ty_ne u180_ tq175_ (by decide)) 2).trans u188_
  have u210_ : T196_ 2 q61_ = 7 := (hx196_ q61_ (cw_lt hw0_.1 u181_ (fun _ _ _ => ⟨_, rfl⟩)) (ty_ne u181_ tq175_ (by decide)) 2).trans u189_
  have u211_ : T196_ 180 o = q1_ + 1 := (hx196_ o (cw_lt hw0_.1 u176_ (fun _ _ _ => ⟨_, rfl⟩)) (ty_ne u176_ tq175_ (by decide)) 180).trans u190_
  have u212_ : T196_ 181 o = q12_ + 1 := (hx196_ o (cw_lt hw0_.1 u176_ (fun _ _ _ => ⟨_, rfl⟩)) (ty_ne u176_ tq175_ (by decide)) 181).trans u191_
  have u213_ : T196_ 182 o = q32_ + 1 := (hx196_ o (cw_lt hw0_.1 u176_ (fun _ _ _ => ⟨_, rfl⟩)) (ty_ne u176_ tq175_ (by decide)) 182).trans u192_
  have u214_ : T196_ 183 o = q61_ + 1 := (hx196_ o (cw_lt hw0_.1 u176_ (fun _ _ _ => ⟨_, rfl⟩)) (ty_ne u176_ tq175_ (by decide)) 183).trans u193_
  have u215_ : T196_ 184 o = q99_ + 1 := (hx196_ o (cw_lt hw0_.1 u176_ (fun _ _ _ => ⟨_, rfl⟩)) (ty_ne u176_ tq175_ (by decide)) 184).trans u194_
  have u216_ : T196_ 185 o = q131_ + 1 := (hx196_ o (cw_lt hw0_.1 u176_ (fun _ _ _ => ⟨_, rfl⟩)) (ty_ne u176_ tq175_ (by decide)) 185).trans u195_
  have hw0_ := hw
  refine rr_192 E hK hw hnm fl_X9_55 u197_ 106 rfl dX9_init_103 (fun T217_ H locs hx217_ hj217_ hk217_ ho217_ hw => ?_)
  have hT217_ : WT T217_ := hw.1.2.1
  have hO217_ : ∀ x, ow T217_ x → κ 2 2 ≤ x := fun x h => hAc x (hw.2.1 x h)
  have hoT_ : OW T T217_ s.heap.size := OW.tr0 hoT_ ho217_
  have hR_ : ∀ b, b < sz → b ≠ o → ∀ k, T217_ k b = T k b := fun b_ h1_ h2_ k_ => (hx217_ b_ h2_ k_).trans (hR_ b_ h1_ h2_ k_)
  have u218_ : T217_ 0 o = 109 := (hj217_ 0 (by decide)).trans u197_
  have u219_ : T217_ 0 (κ 2 0) = 26 := (hx217_ (κ 2 0) (ty_ne u198_ u197_ (by decide)) 0).trans u198_
  have u220_ : T217_ 0 q1_ = 10 := (hx217_ q1_ (ty_ne u199_ u197_ (by decide)) 0).trans u199_
  have u221_ : T217_ 0 q12_ = 10 := (hx217_ q12_ (ty_ne u200_ u197_ (by decide)) 0).trans u200_
  have u222_ : T217_ 0 q32_ = 10 := (hx217_ q32_ (ty_ne u201_ u197_ (by decide)) 0).trans u201_
  have u223_ : T217_ 0 q61_ = 10 := (hx217_ q61_ (ty_ne u202_ u197_ (by decide)) 0).trans u202_
  have u224_ : T217_ 0 q99_ = 21 := (hx217_ q99_ (ty_ne u203_ u197_ (by decide)) 0).trans u203_
  have u225_ : T217_ 0 q131_ = 23 := (hx217_ q131_ (ty_ne u204_ u197_ (by decide)) 0).trans u204_
  have u226_ : T217_ 0 q175_ = 4 := (hx217_ q175_ (ty_ne tq196_ u197_ (by decide)) 0).trans tq196_
  have u227_ : T217_ 1 q99_ = 8 := (hx217_ q99_ (ty_ne u203_ u197_ (by decide)) 1).trans u205_
  have u228_ : T217_ 1 q131_ = 400 := (hx217_ q131_ (ty_ne u204_ u197_ (by decide)) 1).trans u206_
  have u229_ : T217_ 2 q1_ = 2 := (hx217_ q1_ (ty_ne u199_ u197_ (by decide)) 2).trans u207_
  have u230_ : T217_ 2 q12_ = 1 := (hx217_ q12_ (ty_ne u200_ u197_ (by decide)) 2).trans u208_
  have u231_ : T217_ 2 q32_ = 8 := (hx217_ q32_ (ty_ne u201_ u197_ (by decide)) 2).trans u209_
  have u232_ : T217_ 2 q61_ = 7 := (hx217_ q61_ (ty_ne u202_ u197_ (by decide)) 2).trans u210_
  have u233_ : T217_ 180 o = q1_ + 1 := (hj217_ 180 (by decide)).trans u211_
  have u234_ : T217_ 181 o = q12_ + 1 := (hj217_ 181 (by decide)).trans u212_
  have u235_ : T217_ 182 o = q32_ + 1 := (hj217_ 182 (by decide)).trans u213_
  have u236_ : T217_ 183 o = q61_ + 1 := (hj217_ 183 (by decide)).trans u214_
  have u237_ : T217_ 184 o = q99_ + 1 := (hj217_ 184 (by decide)).trans u215_
  have u238_ : T217_ 185 o = q131_ + 1 := (hj217_ 185 (by decide)).trans u216_
  refine j_aload_n E 107 rfl dX9_init_106 rfl (lv_at hl 0 rfl) ?_
  have hw0_ := hw
  refine n_obj5 E hK hw hA cl_X9_59 (Nat.le_of_ble_eq_true rfl) (Nat.le_of_ble_eq_true rfl) 110 rfl dX9_init_107 (fun q239_ T239_ H hge239_ hx239_ ho239_ tq239_ hw => ?_)
  have fq239_ : s.heap.size ≤ q239_ := Nat.le_trans hw0_.2.2.1 hge239_
  have hT239_ : WT T239_ := hw.1.2.1
  have hO239_ : ∀ x, ow T239_ x → κ 2 2 ≤ x := fun x h => hAc x (hw.2.1 x h)
  have hoT_ : OW T T239_ s.heap.size := OW.tr hw0_.2.2.1 hoT_ ho239_
  have hR_ : ∀ b, b < sz → b ≠ o → ∀ k, T239_ k b = T k b := fun b_ h1_ h2_ k_ => (hx239_ b_ (by have := hw0_.2.2.1; have := hge239_; omega) k_).trans (hR_ b_ h1_ h2_ k_)
  have u240_ : T239_ 0 o = 109 := (hx239_ o (Nat.ne_of_lt (Nat.lt_of_lt_of_le (cw_lt hw0_.1 u218_ (fun _ _ _ => ⟨_, rfl⟩)) hge239_)) 0).trans u218_
  have u241_ : T239_ 0 (κ 2 0) = 26 := (hx239_ (κ 2 0) (Nat.ne_of_lt (Nat.lt_of_lt_of_le (cw_lt hw0_.1 u219_ (fun _ _ _ => ⟨_, rfl⟩)) hge239_)) 0).trans u219_
  have u242_ : T239_ 0 q1_ = 10 := (hx239_ q1_ (Nat.ne_of_lt (Nat.lt_of_lt_of_le (cw_lt hw0_.1 u220_ (fun _ _ _ => ⟨_, rfl⟩)) hge239_)) 0).trans u220_
  have u243_ : T239_ 0 q12_ = 10 := (hx239_ q12_ (Nat.ne_of_lt (Nat.lt_of_lt_of_le (cw_lt hw0_.1 u221_ (fun _ _ _ => ⟨_, rfl⟩)) hge239_)) 0).trans u221_
  have u244_ : T239_ 0 q32_ = 10 := (hx239_ q32_ (Nat.ne_of_lt (Nat.lt_of_lt_of_le (cw_lt hw0_.1 u222_ (fun _ _ _ => ⟨_, rfl⟩)) hge239_)) 0).trans u222_
  have u245_ : T239_ 0 q61_ = 10 := (hx239_ q61_ (Nat.ne_of_lt (Nat.lt_of_lt_of_le (cw_lt hw0_.1 u223_ (fun _ _ _ => ⟨_, rfl⟩)) hge239_)) 0).trans u223_
  have u246_ : T239_ 0 q99_ = 21 := (hx239_ q99_ (Nat.ne_of_lt (Nat.lt_of_lt_of_le (cw_lt hw0_.1 u224_ (fun _ _ _ => ⟨_, rfl⟩)) hge239_)) 0).trans u224_
  have u247_ : T239_ 0 q131_ = 23 := (hx239_ q131_ (Nat.ne_of_lt (Nat.lt_of_lt_of_le (cw_lt hw0_.1 u225_ (fun _ _ _ => ⟨_, rfl⟩)) hge239_)) 0).trans u225_
  have u248_ : T239_ 0 q175_ = 4 := (hx239_ q175_ (Nat.ne_of_lt (Nat.lt_of_lt_of_le (cw_lt hw0_.1 u226_ (fun _ _ _ => ⟨_, rfl⟩)) hge239_)) 0).trans u226_
  have u249_ : T239_ 1 q99_ = 8 := (hx239_ q99_ (Nat.ne_of_lt (Nat.lt_of_lt_of_le (cw_lt hw0_.1 u224_ (fun _ _ _ => ⟨_, rfl⟩)) hge239_)) 1).trans u227_
  have u250_ : T239_ 1 q131_ = 400 := (hx239_ q131_ (Nat.ne_of_lt (Nat.lt_of_lt_of_le (cw_lt hw0_.1 u225_ (fun _ _ _ => ⟨_, rfl⟩)) hge239_)) 1).trans u228_
  have u251_ : T239_ 2 q1_ = 2 := (hx239_ q1_ (Nat.ne_of_lt (Nat.lt_of_lt_of_le (cw_lt hw0_.1 u220_ (fun _ _ _ => ⟨_, rfl⟩)) hge239_)) 2).trans u229_
  have u252_ : T239_ 2 q12_ = 1 := (hx239_ q12_ (Nat.ne_of_lt (Nat.lt_of_lt_of_le (cw_lt hw0_.1 u221_ (fun _ _ _ => ⟨_, rfl⟩)) hge239_)) 2).trans u230_
  have u253_ : T239_ 2 q32_ = 8 := (hx239_ q32_ (Nat.ne_of_lt (Nat.lt_of_lt_of_le (cw_lt hw0_.1 u222_ (fun _ _ _ => ⟨_, rfl⟩)) hge239_)) 2).trans u231_
  have u254_ : T239_ 2 q61_ = 7 := (hx239_ q61_ (Nat.ne_of_lt (Nat.lt_of_lt_of_le (cw_lt hw0_.1 u223_ (fun _ _ _ => ⟨_, rfl⟩)) hge239_)) 2).trans u232_
  have u255_ : T239_ 180 o = q1_ + 1 := (hx239_ o (Nat.ne_of_lt (Nat.lt_of_lt_of_le (cw_lt hw0_.1 u218_ (fun _ _ _ => ⟨_, rfl⟩)) hge239_)) 180).trans u233_
  have u256_ : T239_ 181 o = q12_ + 1 := (hx239_ o (Nat.ne_of_lt (Nat.lt_of_lt_of_le (cw_lt hw0_.1 u218_ (fun _ _ _ => ⟨_, rfl⟩)) hge239_)) 181).trans u234_
  have u257_ : T239_ 182 o = q32_ + 1 := (hx239_ o (Nat.ne_of_lt (Nat.lt_of_lt_of_le (cw_lt hw0_.1 u218_ (fun _ _ _ => ⟨_, rfl⟩)) hge239_)) 182).trans u235_
  have u258_ : T239_ 183 o = q61_ + 1 := (hx239_ o (Nat.ne_of_lt (Nat.lt_of_lt_of_le (cw_lt hw0_.1 u218_ (fun _ _ _ => ⟨_, rfl⟩)) hge239_)) 183).trans u236_
  have u259_ : T239_ 184 o = q99_ + 1 := (hx239_ o (Nat.ne_of_lt (Nat.lt_of_lt_of_le (cw_lt hw0_.1 u218_ (fun _ _ _ => ⟨_, rfl⟩)) hge239_)) 184).trans u237_
  have u260_ : T239_ 185 o = q131_ + 1 := (hx239_ o (Nat.ne_of_lt (Nat.lt_of_lt_of_le (cw_lt hw0_.1 u218_ (fun _ _ _ => ⟨_, rfl⟩)) hge239_)) 185).trans u238_
  have u261_ : T239_ 192 o = q175_ + 1 := (hx239_ o (Nat.ne_of_lt (Nat.lt_of_lt_of_le (cw_lt hw0_.1 u218_ (fun _ _ _ => ⟨_, rfl⟩)) hge239_)) 192).trans hk217_
  refine j_dup E 111 rfl dX9_init_110 rfl ?_
  have hw0_ := hw
  refine aN_v E (n_X4_init l D cy κ T239_ _ q239_ H.size  hO239_ tq239_  ) mi_X4_init hZ.1.mK hK hZ hAc hw hA ⟨(Nat.le_of_ble_eq_true rfl), (Nat.le_of_ble_eq_true rfl)⟩ ⟨(Nat.le_of_ble_eq_true rfl), (Nat.le_of_ble_eq_true rfl)⟩ (As := []) (rest := [.ref q239_, .ref o]) rfl rfl hl.1 (Nat.le_of_ble_eq_true rfl) 114 rfl dX9_init_111 (fun T262_ v_262 H locs hge262_ ho262_ hq262_ hw => ?_)
  obtain ⟨y103_262, ev262_, hh262_⟩ := hq262_
  clear ev262_
  obtain ⟨hx262_, tq262_⟩ := hh262_
  have hT262_ : WT T262_ := hw.1.2.1
  have hO262_ : ∀ x, ow T262_ x → κ 2 2 ≤ x := fun x h => hAc x (hw.2.1 x h)
  have hoT_ : OW T T262_ s.heap.size := OW.tr hw0_.2.2.1 hoT_ ho262_
  have hR_ : ∀ b, b < sz → b ≠ o → ∀ k, T262_ k b = T k b := fun b_ h1_ h2_ k_ => (hx262_ b_ (by have := hw0_.2.2.1; omega) (by have := fq239_; omega) k_).trans (hR_ b_ h1_ h2_ k_)
  have u263_ : T262_ 0 o = 109 := (hx262_ o (cw_lt hw0_.1 u240_ (fun _ _ _ => ⟨_, rfl⟩)) (ty_ne u240_ tq239_ (by decide)) 0).trans u240_
  have u264_ : T262_ 0 (κ 2 0) = 26 := (hx262_ (κ 2 0) (cw_lt hw0_.1 u241_ (fun _ _ _ => ⟨_, rfl⟩)) (ty_ne u241_ tq239_ (by decide)) 0).trans u241_
  have u265_ : T262_ 0 q1_ = 10 := (hx262_ q1_ (cw_lt hw0_.1 u242_ (fun _ _ _ => ⟨_, rfl⟩)) (ty_ne u242_ tq239_ (by decide)) 0).trans u242_
  have u266_ : T262_ 0 q12_ = 10 := (hx262_ q12_ (cw_lt hw0_.1 u243_ (fun _ _ _ => ⟨_, rfl⟩)) (ty_ne u243_ tq239_ (by decide)) 0).trans u243_
  have u267_ : T262_ 0 q32_ = 10 := (hx262_ q32_ (cw_lt hw0_.1 u244_ (fun _ _ _ => ⟨_, rfl⟩)) (ty_ne u244_ tq239_ (by decide)) 0).trans u244_
  have u268_ : T262_ 0 q61_ = 10 := (hx262_ q61_ (cw_lt hw0_.1 u245_ (fun _ _ _ => ⟨_, rfl⟩)) (ty_ne u245_ tq239_ (by decide)) 0).trans u245_
  have u269_ : T262_ 0 q99_ = 21 := (hx262_ q99_ (cw_lt hw0_.1 u246_ (fun _ _ _ => ⟨_, rfl⟩)) (ty_ne u246_ tq239_ (by decide)) 0).trans u246_
  have u270_ : T262_ 0 q131_ = 23 := (hx262_ q131_ (cw_lt hw0_.1 u247_ (fun _ _ _ => ⟨_, rfl⟩)) (ty_ne u247_ tq239_ (by decide)) 0).trans u247_
  have u271_ : T262_ 0 q175_ = 4 := (hx262_ q175_ (cw_lt hw0_.1 u248_ (fun _ _ _ => ⟨_, rfl⟩)) (ty_ne u248_ tq239_ (by decide)) 0).trans u248_
  have u272_ : T262_ 1 q99_ = 8 := (hx262_ q99_ (cw_lt hw0_.1 u246_ (fun _ _ _ => ⟨_, rfl⟩)) (ty_ne u246_ tq239_ (by decide)) 1).trans u249_
  have u273_ : T262_ 1 q131_ = 400 := (hx262_ q131_ (cw_lt hw0_.1 u247_ (fun _ _ _ => ⟨_, rfl⟩)) (ty_ne u247_ tq239_ (by decide)) 1).trans u250_
  have u274_ : T262_ 2 q1_ = 2 := (hx262_ q1_ (cw_lt hw0_.1 u242_ (fun _ _ _ => ⟨_, rfl⟩)) (ty_ne u242_ tq239_ (by decide)) 2).trans u251_
  have u275_ : T262_ 2 q12_ = 1 := (hx262_ q12_ (cw_lt hw0_.1 u243_ (fun _ _ _ => ⟨_, rfl⟩)) (ty_ne u243_ tq239_ (by decide)) 2).trans u252_
  have u276_ : T262_ 2 q32_ = 8 := (hx262_ q32_ (cw_lt hw0_.1 u244_ (fun _ _ _ => ⟨_, rfl⟩)) (ty_ne u244_ tq239_ (by decide)) 2).trans u253_
  have u277_ : T262_ 2 q61_ = 7 := (hx262_ q61_ (cw_lt hw0_.1 u245_ (fun _ _ _ => ⟨_, rfl⟩)) (ty_ne u245_ tq239_ (by decide)) 2).trans u254_
  have u278_ : T262_ 180 o = q1_ + 1 := (hx262_ o (cw_lt hw0_.1 u240_ (fun _ _ _ => ⟨_, rfl⟩)) (ty_ne u240_ tq239_ (by decide)) 180).trans u255_
  have u279_ : T262_ 181 o = q12_ + 1 := (hx262_ o (cw_lt hw0_.1 u240_ (fun _ _ _ => ⟨_, rfl⟩)) (ty_ne u240_ tq239_ (by decide)) 181).trans u256_
  have u280_ : T262_ 182 o = q32_ + 1 := (hx262_ o (cw_lt hw0_.1 u240_ (fun _ _ _ => ⟨_, rfl⟩)) (ty_ne u240_ tq239_ (by decide)) 182).trans u257_
  have u281_ : T262_ 183 o = q61_ + 1 := (hx262_ o (cw_lt hw0_.1 u240_ (fun _ _ _ => ⟨_, rfl⟩)) (ty_ne u240_ tq239_ (by decide)) 183).trans u258_
  have u282_ : T262_ 184 o = q99_ + 1 := (hx262_ o (cw_lt hw0_.1 u240_ (fun _ _ _ => ⟨_, rfl⟩)) (ty_ne u240_ tq239_ (by decide)) 184).trans u259_
  have u283_ : T262_ 185 o = q131_ + 1 := (hx262_ o (cw_lt hw0_.1 u240_ (fun _ _ _ => ⟨_, rfl⟩)) (ty_ne u240_ tq239_ (by decide)) 185).trans u260_
  have u284_ : T262_ 192 o = q175_ + 1 := (hx262_ o (cw_lt hw0_.1 u240_ (fun _ _ _ => ⟨_, rfl⟩)) (ty_ne u240_ tq239_ (by decide)) 192).trans u261_
  have hw0_ := hw
  refine rr_193 E hK hw hnm fl_X9_62 u263_ 117 rfl dX9_init_114 (fun T285_ H locs hx285_ hj285_ hk285_ ho285_ hw => ?_)
  have hT285_ : WT T285_ := hw.1.2.1
  have hO285_ : ∀ x, ow T285_ x → κ 2 2 ≤ x := fun x h => hAc x (hw.2.1 x h)
  have hoT_ : OW T T285_ s.heap.size := OW.tr0 hoT_ ho285_
  have hR_ : ∀ b, b < sz → b ≠ o → ∀ k, T285_ k b = T k b := fun b_ h1_ h2_ k_ => (hx285_ b_ h2_ k_).trans (hR_ b_ h1_ h2_ k_)
  have u286_ : T285_ 0 o = 109 := (hj285_ 0 (by decide)).trans u263_
  have u287_ : T285_ 0 (κ 2 0) = 26 := (hx285_ (κ 2 0) (ty_ne u264_ u263_ (by decide)) 0).trans u264_
  have u288_ : T285_ 0 q1_ = 10 := (hx285_ q1_ (ty_ne u265_ u263_ (by decide)) 0).trans u265_
  have u289_ : T285_ 0 q12_ = 10 := (hx285_ q12_ (ty_ne u266_ u263_ (by decide)) 0).trans u266_
  have u290_ : T285_ 0 q32_ = 10 := (hx285_ q32_ (ty_ne u267_ u263_ (by decide)) 0).trans u267_
  have u291_ : T285_ 0 q61_ = 10 := (hx285_ q61_ (ty_ne u268_ u263_ (by decide)) 0).trans u268_
  have u292_ : T285_ 0 q99_ = 21 := (hx285_ q99_ (ty_ne u269_ u263_ (by decide)) 0).trans u269_
  have u293_ : T285_ 0 q131_ = 23 := (hx285_ q131_ (ty_ne u270_ u263_ (by decide)) 0).trans u270_
  have u294_ : T285_ 0 q175_ = 4 := (hx285_ q175_ (ty_ne u271_ u263_ (by decide)) 0).trans u271_
  have u295_ : T285_ 0 q239_ = 5 := (hx285_ q239_ (ty_ne tq262_ u263_ (by decide)) 0).trans tq262_
  have u296_ : T285_ 1 q99_ = 8 := (hx285_ q99_ (ty_ne u269_ u263_ (by decide)) 1).trans u272_
  have u297_ : T285_ 1 q131_ = 400 := (hx285_ q131_ (ty_ne u270_ u263_ (by decide)) 1).trans u273_
  have u298_ : T285_ 2 q1_ = 2 := (hx285_ q1_ (ty_ne u265_ u263_ (by decide)) 2).trans u274_
  have u299_ : T285_ 2 q12_ = 1 := (hx285_ q12_ (ty_ne u266_ u263_ (by decide)) 2).trans u275_
  have u300_ : T285_ 2 q32_ = 8 := (hx285_ q32_ (ty_ne u267_ u263_ (by decide)) 2).trans u276_
  have u301_ : T285_ 2 q61_ = 7 := (hx285_ q61_ (ty_ne u268_ u263_ (by decide)) 2).trans u277_
  have u302_ : T285_ 180 o = q1_ + 1 := (hj285_ 180 (by decide)).trans u278_
  have u303_ : T285_ 181 o = q12_ + 1 := (hj285_ 181 (by decide)).trans u279_
  have u304_ : T285_ 182 o = q32_ + 1 := (hj285_ 182 (by decide)).trans u280_
  have u305_ : T285_ 183 o = q61_ + 1 := (hj285_ 183 (by decide)).trans u281_
  have u306_ : T285_ 184 o = q99_ + 1 := (hj285_ 184 (by decide)).trans u282_
  have u307_ : T285_ 185 o = q131_ + 1 := (hj285_ 185 (by decide)).trans u283_
  have u308_ : T285_ 192 o = q175_ + 1 := (hj285_ 192 (by decide)).trans u284_
  refine j_aload_n E 118 rfl dX9_init_117 rfl (lv_at hl 0 rfl) ?_
  refine j_bipush E 120 rfl dX9_init_118 (by decide) ?_
  have hw0_ := hw
  refine n_arr20 E hK hw hA 32 (by decide) (by decide) (Nat.le_of_ble_eq_true rfl) (Nat.le_of_ble_eq_true rfl) 122 rfl dX9_init_120 (fun q309_ T309_ H hge309_ hx309_ ho309_ tq309_ tl309_ hw => ?_)
  have fq309_ : s.heap.size ≤ q309_ := Nat.le_trans hw0_.2.2.1 hge309_
  have hT309_ : WT T309_ := hw.1.2.1
  have hO309_ : ∀ x, ow T309_ x → κ 2 2 ≤ x := fun x h => hAc x (hw.2.1 x h)
  have hoT_ : OW T T309_ s.heap.size := OW.tr hw0_.2.2.1 hoT_ ho309_
  have hR_ : ∀ b, b < sz → b ≠ o → ∀ k, T309_ k b = T k b := fun b_ h1_ h2_ k_ => (hx309_ b_ (by have := hw0_.2.2.1; have := hge309_; omega) k_).trans (hR_ b_ h1_ h2_ k_)
  have u310_ : T309_ 0 o = 109 := (hx309_ o (Nat.ne_of_lt (Nat.lt_of_lt_of_le (cw_lt hw0_.1 u286_ (fun _ _ _ => ⟨_, rfl⟩)) hge309_)) 0).trans u286_
  have u311_ : T309_ 0 (κ 2 0) = 26 := (hx309_ (κ 2 0) (Nat.ne_of_lt (Nat.lt_of_lt_of_le (cw_lt hw0_.1 u287_ (fun _ _ _ => ⟨_, rfl⟩)) hge309_)) 0).trans u287_
  have u312_ : T309_ 0 q1_ = 10 := (hx309_ q1_ (Nat.ne_of_lt (Nat.lt_of_lt_of_le (cw_lt hw0_.1 u288_ (fun _ _ _ => ⟨_, rfl⟩)) hge309_)) 0).trans u288_
  have u313_ : T309_ 0 q12_ = 10 := (hx309_ q12_ (Nat.ne_of_lt (Nat.lt_of_lt_of_le (cw_lt hw0_.1 u289_ (fun _ _ _ => ⟨_, rfl⟩)) hge309_)) 0).trans u289_
  have u314_ : T309_ 0 q32_ = 10 := (hx309_ q32_ (Nat.ne_of_lt (Nat.lt_of_lt_of_le (cw_lt hw0_.1 u290_ (fun _ _ _ => ⟨_, rfl⟩)) hge309_)) 0).trans u290_
  have u315_ : T309_ 0 q61_ = 10 := (hx309_ q61_ (Nat.ne_of_lt (Nat.lt_of_lt_of_le (cw_lt hw0_.1 u291_ (fun _ _ _ => ⟨_, rfl⟩)) hge309_)) 0).trans u291_
  have u316_ : T309_ 0 q99_ = 21 := (hx309_ q99_ (Nat.ne_of_lt (Nat.lt_of_lt_of_le (cw_lt hw0_.1 u292_ (fun _ _ _ => ⟨_, rfl⟩)) hge309_)) 0).trans u292_
  have u317_ : T309_ 0 q131_ = 23 := (hx309_ q131_ (Nat.ne_of_lt (Nat.lt_of_lt_of_le (cw_lt hw0_.1 u293_ (fun _ _ _ => ⟨_, rfl⟩)) hge309_)) 0).trans u293_
  have u318_ : T309_ 0 q175_ = 4 := (hx309_ q175_ (Nat.ne_of_lt (Nat.lt_of_lt_of_le (cw_lt hw0_.1 u294_ (fun _ _ _ => ⟨_, rfl⟩)) hge309_)) 0).trans u294_
  have u319_ : T309_ 0 q239_ = 5 := (hx309_ q239_ (Nat.ne_of_lt (Nat.lt_of_lt_of_le (cw_lt hw0_.1 u295_ (fun _ _ _ => ⟨_, rfl⟩)) hge309_)) 0).trans u295_
  have u320_ : T309_ 1 q99_ = 8 := (hx309_ q99_ (Nat.ne_of_lt (Nat.lt_of_lt_of_le (cw_lt hw0_.1 u292_ (fun _ _ _ => ⟨_, rfl⟩)) hge309_)) 1).trans u296_
  have u321_ : T309_ 1 q131_ = 400 := (hx309_ q131_ (Nat.ne_of_lt (Nat.lt_of_lt_of_le (cw_lt hw0_.1 u293_ (fun _ _ _ => ⟨_, rfl⟩)) hge309_)) 1).trans u297_
  have u322_ : T309_ 2 q1_ = 2 := (hx309_ q1_ (Nat.ne_of_lt (Nat.lt_of_lt_of_le (cw_lt hw0_.1 u288_ (fun _ _ _ => ⟨_, rfl⟩)) hge309_)) 2).trans u298_
  have u323_ : T309_ 2 q12_ = 1 := (hx309_ q12_ (Nat.ne_of_lt (Nat.lt_of_lt_of_le (cw_lt hw0_.1 u289_ (fun _ _ _ => ⟨_, rfl⟩)) hge309_)) 2).trans u299_
  have u324_ : T309_ 2 q32_ = 8 := (hx309_ q32_ (Nat.ne_of_lt (Nat.lt_of_lt_of_le (cw_lt hw0_.1 u290_ (fun _ _ _ => ⟨_, rfl⟩)) hge309_)) 2).trans u300_
  have u325_ : T309_ 2 q61_ = 7 := (hx309_ q61_ (Nat.ne_of_lt (Nat.lt_of_lt_of_le (cw_lt hw0_.1 u291_ (fun _ _ _ => ⟨_, rfl⟩)) hge309_)) 2).trans u301_
  have u326_ : T309_ 180 o = q1_ + 1 := (hx309_ o (Nat.ne_of_lt (Nat.lt_of_lt_of_le (cw_lt hw0_.1 u286_ (fun _ _ _ => ⟨_, rfl⟩)) hge309_)) 180).trans u302_
  have u327_ : T309_ 181 o = q12_ + 1 := (hx309_ o (Nat.ne_of_lt (Nat.lt_of_lt_of_le (cw_lt hw0_.1 u286_ (fun _ _ _ => ⟨_, rfl⟩)) hge309_)) 181).trans u303_
  have u328_ : T309_ 182 o = q32_ + 1 := (hx309_ o (Nat.ne_of_lt (Nat.lt_of_lt_of_le (cw_lt hw0_.1 u286_ (fun _ _ _ => ⟨_, rfl⟩)) hge309_)) 182).trans u304_
  have u329_ : T309_ 183 o = q61_ + 1 := (hx309_ o (Nat.ne_of_lt (Nat.lt_of_lt_of_le (cw_lt hw0_.1 u286_ (fun _ _ _ => ⟨_, rfl⟩)) hge309_)) 183).trans u305_
  have u330_ : T309_ 184 o = q99_ + 1 := (hx309_ o (Nat.ne_of_lt (Nat.lt_of_lt_of_le (cw_lt hw0_.1 u286_ (fun _ _ _ => ⟨_, rfl⟩)) hge309_)) 184).trans u306_
  have u331_ : T309_ 185 o = q131_ + 1 := (hx309_ o (Nat.ne_of_lt (Nat.lt_of_lt_of_le (cw_lt hw0_.1 u286_ (fun _ _ _ => ⟨_, rfl⟩)) hge309_)) 185).trans u307_
  have u332_ : T309_ 192 o = q175_ + 1 := (hx309_ o (Nat.ne_of_lt (Nat.lt_of_lt_of_le (cw_lt hw0_.1 u286_ (fun _ _ _ => ⟨_, rfl⟩)) hge309_)) 192).trans u308_
  have u333_ : T309_ 193 o = q239_ + 1 := (hx309_ o (Nat.ne_of_lt (Nat.lt_of_lt_of_le (cw_lt hw0_.1 u286_ (fun _ _ _ => ⟨_, rfl⟩)) hge309_)) 193).trans hk285_
  have hw0_ := hw
  refine rr_194 E hK hw hnm fl_X9_66 u310_ 125 rfl dX9_init_122 (fun T334_ H locs hx334_ hj334_ hk334_ ho334_ hw => ?_)
  have hT334_ : WT T334_ := hw.1.2.1
  have hO334_ : ∀ x, ow T334_ x → κ 2 2 ≤ x := fun x h => hAc x (hw.2.1 x h)
  have hoT_ : OW T T334_ s.heap.size := OW.tr0 hoT_ ho334_
  have hR_ : ∀ b, b < sz → b ≠ o → ∀ k, T334_ k b = T k b := fun b_ h1_ h2_ k_ => (hx334_ b_ h2_ k_).trans (hR_ b_ h1_ h2_ k_)
  have u335_ : T334_ 0 o = 109 := (hj334_ 0 (by decide)).trans u310_
  have u336_ : T334_ 0 (κ 2 0) = 26 := (hx334_ (κ 2 0) (ty_ne u311_ u310_ (by decide)) 0).trans u311_
  have u337_ : T334_ 0 q1_ = 10 := (hx334_ q1_ (ty_ne u312_ u310_ (by decide)) 0).trans u312_
  have u338_ : T334_ 0 q12_ = 10 := (hx334_ q12_ (ty_ne u313_ u310_ (by decide)) 0).trans u313_
  have u339_ : T334_ 0 q32_ = 10 := (hx334_ q32_ (ty_ne u314_ u310_ (by decide)) 0).trans u314_
  have u340_ : T334_ 0 q61_ = 10 := (hx334_ q61_ (ty_ne u315_ u310_ (by decide)) 0).trans u315_
  have u341_ : T334_ 0 q99_ = 21 := (hx334_ q99_ (ty_ne u316_ u310_ (by decide)) 0).trans u316_
  have u342_ : T334_ 0 q131_ = 23 := (hx334_ q131_ (ty_ne u317_ u310_ (by decide)) 0).trans u317_
  have u343_ : T334_ 0 q175_ = 4 := (hx334_ q175_ (ty_ne u318_ u310_ (by decide)) 0).trans u318_
  have u344_ : T334_ 0 q239_ = 5 := (hx334_ q239_ (ty_ne u319_ u310_ (by decide)) 0).trans u319_
  have u345_ : T334_ 0 q309_ = 20 := (hx334_ q309_ (ty_ne tq309_ u310_ (by decide)) 0).trans tq309_
  have u346_ : T334_ 1 q99_ = 8 := (hx334_ q99_ (ty_ne u316_ u310_ (by decide)) 1).trans u320_
  have u347_ : T334_ 1 q131_ = 400 := (hx334_ q131_ (ty_ne u317_ u310_ (by decide)) 1).trans u321_
  have u348_ : T334_ 1 q309_ = 32 := (hx334_ q309_ (ty_ne tq309_ u310_ (by decide)) 1).trans tl309_
  have u349_ : T334_ 2 q1_ = 2 := (hx334_ q1_ (ty_ne u312_ u310_ (by decide)) 2).trans u322_
  have u350_ : T334_ 2 q12_ = 1 := (hx334_ q12_ (ty_ne u313_ u310_ (by decide)) 2).trans u323_
  have u351_ : T334_ 2 q32_ = 8 := (hx334_ q32_ (ty_ne u314_ u310_ (by decide)) 2).trans u324_
  have u352_ : T334_ 2 q61_ = 7 := (hx334_ q61_ (ty_ne u315_ u310_ (by decide)) 2).trans u325_
  have u353_ : T334_ 180 o = q1_ + 1 := (hj334_ 180 (by decide)).trans u326_
  have u354_ : T334_ 181 o = q12_ + 1 := (hj334_ 181 (by decide)).trans u327_
  have u355_ : T334_ 182 o = q32_ + 1 := (hj334_ 182 (by decide)).trans u328_
  have u356_ : T334_ 183 o = q61_ + 1 := (hj334_ 183 (by decide)).trans u329_
  have u357_ : T334_ 184 o = q99_ + 1 := (hj334_ 184 (by decide)).trans u330_
  have u358_ : T334_ 185 o = q131_ + 1 := (hj334_ 185 (by decide)).trans u331_
  have u359_ : T334_ 192 o = q175_ + 1 := (hj334_ 192 (by decide)).trans u332_
  have u360_ : T334_ 193 o = q239_ + 1 := (hj334_ 193 (by decide)).trans u333_
  refine j_aload_n E 126 rfl dX9_init_125 rfl (lv_at hl 0 rfl) ?_
  refine j_bipush E 128 rfl dX9_init_126 (by decide) ?_
  have hw0_ := hw
  refine n_arr20 E hK hw hA 32 (by decide) (by decide) (Nat.le_of_ble_eq_true rfl) (Nat.le_of_ble_eq_true rfl) 130 rfl dX9_init_128 (fun q361_ T361_ H hge361_ hx361_ ho361_ tq361_ tl361_ hw => ?_)
  have fq361_ : s.heap.size ≤ q361_ := Nat.le_trans hw0_.2.2.1 hge361_
  have hT361_ : WT T361_ := hw.1.2.1
  have hO361_ : ∀ x, ow T361_ x → κ 2 2 ≤ x := fun x h => hAc x (hw.2.1 x h)
  have hoT_ : OW T T361_ s.heap.size := OW.tr hw0_.2.2.1 hoT_ ho361_
  have hR_ : ∀ b, b < sz → b ≠ o → ∀ k, T361_ k b = T k b := fun b_ h1_ h2_ k_ => (hx361_ b_ (by have := hw0_.2.2.1; have := hge361_; omega) k_).trans (hR_ b_ h1_ h2_ k_)
  have u362_ : T361_ 0 o = 109 := (hx361_ o (Nat.ne_of_lt (Nat.lt_of_lt_of_le (cw_lt hw0_.1 u335_ (fun _ _ _ => ⟨_, rfl⟩)) hge361_)) 0).trans u335_
  have u363_ : T361_ 0 (κ 2 0) = 26 := (hx361_ (κ 2 0) (Nat.ne_of_lt (Nat.lt_of_lt_of_le (cw_lt hw0_.1 u336_ (fun _ _ _ => ⟨_, rfl⟩)) hge361_)) 0).trans u336_
  have u364_ : T361_ 0 q1_ = 10 := (hx361_ q1_ (Nat.ne_of_lt (Nat.lt_of_lt_of_le (cw_lt hw0_.1 u337_ (fun _ _ _ => ⟨_, rfl⟩)) hge361_)) 0).trans u337_
  have u365_ : T361_ 0 q12_ = 10 := (hx361_ q12_ (Nat.ne_of_lt (Nat.lt_of_lt_of_le (cw_lt hw0_.1 u338_ (fun _ _ _ => ⟨_, rfl⟩)) hge361_)) 0).trans u338_
  have u366_ : T361_ 0 q32_ = 10 := (hx361_ q32_ (Nat.ne_of_lt (Nat.lt_of_lt_of_le (cw_lt hw0_.1 u339_ (fun _ _ _ => ⟨_, rfl⟩)) hge361_)) 0).trans u339_
  have u367_ : T361_ 0 q61_ = 10 := (hx361_ q61_ (Nat.ne_of_lt (Nat.lt_of_lt_of_le (cw_lt hw0_.1 u340_ (fun _ _ _ => ⟨_, rfl⟩)) hge361_)) 0).trans u340_
  have u368_ : T361_ 0 q99_ = 21 := (hx361_ q99_ (Nat.ne_of_lt (Nat.lt_of_lt_of_le (cw_lt hw0_.1 u341_ (fun _ _ _ => ⟨_, rfl⟩)) hge361_)) 0).trans u341_
  have u369_ : T361_ 0 q131_ = 23 := (hx361_ q131_ (Nat.ne_of_lt (Nat.lt_of_lt_of_le (cw_lt hw0_.1 u342_ (fun _ _ _ => ⟨_, rfl⟩)) hge361_)) 0).trans u342_
  have u370_ : T361_ 0 q175_ = 4 := (hx361_ q175_ (Nat.ne_of_lt (Nat.lt_of_lt_of_le (cw_lt hw0_.1 u343_ (fun _ _ _ => ⟨_, rfl⟩)) hge361_)) 0).trans u343_
  have u371_ : T361_ 0 q239_ = 5 := (hx361_ q239_ (Nat.ne_of_lt (Nat.lt_of_lt_of_le (cw_lt hw0_.1 u344_ (fun _ _ _ => ⟨_, rfl⟩)) hge361_)) 0).trans u344_
  have u372_ : T361_ 0 q309_ = 20 := (hx361_ q309_ (Nat.ne_of_lt (Nat.lt_of_lt_of_le (cw_lt hw0_.1 u345_ (fun _ _ _ => ⟨_, rfl⟩)) hge361_)) 0).trans u345_
  have u373_ : T361_ 1 q99_ = 8 := (hx361_ q99_ (Nat.ne_of_lt (Nat.lt_of_lt_of_le (cw_lt hw0_.1 u341_ (fun _ _ _ => ⟨_, rfl⟩)) hge361_)) 1).trans u346_
  have u374_ : T361_ 1 q131_ = 400 := (hx361_ q131_ (Nat.ne_of_lt (Nat.lt_of_lt_of_le (cw_lt hw0_.1 u342_ (fun _ _ _ => ⟨_, rfl⟩)) hge361_)) 1).trans u347_
  have u375_ : T361_ 1 q309_ = 32 := (hx361_ q309_ (Nat.ne_of_lt (Nat.lt_of_lt_of_le (cw_lt hw0_.1 u345_ (fun _ _ _ => ⟨_, rfl⟩)) hge361_)) 1).trans u348_
  have u376_ : T361_ 2 q1_ = 2 := (hx361_ q1_ (Nat.ne_of_lt (Nat.lt_of_lt_of_le (cw_lt hw0_.1 u337_ (fun _ _ _ => ⟨_, rfl⟩)) hge361_)) 2).trans u349_
  have u377_ : T361_ 2 q12_ = 1 := (hx361_ q12_ (Nat.ne_of_lt (Nat.lt_of_lt_of_le (cw_lt hw0_.1 u338_ (fun _ _ _ => ⟨_, rfl⟩)) hge361_)) 2).trans u350_
  have u378_ : T361_ 2 q32_ = 8 := (hx361_ q32_ (Nat.ne_of_lt (Nat.lt_of_lt_of_le (cw_lt hw0_.1 u339_ (fun _ _ _ => ⟨_, rfl⟩)) hge361_)) 2).trans u351_
  have u379_ : T361_ 2 q61_ = 7 := (hx361_ q61_ (Nat.ne_of_lt (Nat.lt_of_lt_of_le (cw_lt hw0_.1 u340_ (fun _ _ _ => ⟨_, rfl⟩)) hge361_)) 2).trans u352_
  have u380_ : T361_ 180 o = q1_ + 1 := (hx361_ o (Nat.ne_of_lt (Nat.lt_of_lt_of_le (cw_lt hw0_.1 u335_ (fun _ _ _ => ⟨_, rfl⟩)) hge361_)) 180).trans u353_
  have u381_ : T361_ 181 o = q12_ + 1 := (hx361_ o (Nat.ne_of_lt (Nat.lt_of_lt_of_le (cw_lt hw0_.1 u335_ (fun _ _ _ => ⟨_, rfl⟩)) hge361_)) 181).trans u354_
  have u382_ : T361_ 182 o = q32_ + 1 := (hx361_ o (Nat.ne_of_lt (Nat.lt_of_lt_of_le (cw_lt hw0_.1 u335_ (fun _ _ _ => ⟨_, rfl⟩)) hge361_)) 182).trans u355_
  have u383_ : T361_ 183 o = q61_ + 1 := (hx361_ o (Nat.ne_of_lt (Nat.lt_of_lt_of_le (cw_lt hw0_.1 u335_ (fun _ _ _ => ⟨_, rfl⟩)) hge361_)) 183).trans u356_
  have u384_ : T361_ 184 o = q99_ + 1 := (hx361_ o (Nat.ne_of_lt (Nat.lt_of_lt_of_le (cw_lt hw0_.1 u335_ (fun _ _ _ => ⟨_, rfl⟩)) hge361_)) 184).trans u357_
  have u385_ : T361_ 185 o = q131_ + 1 := (hx361_ o (Nat.ne_of_lt (Nat.lt_of_lt_of_le (cw_lt hw0_.1 u335_ (fun _ _ _ => ⟨_, rfl⟩)) hge361_)) 185).trans u358_
  have u386_ : T361_ 192 o = q175_ + 1 := (hx361_ o (Nat.ne_of_lt (Nat.lt_of_lt_of_le (cw_lt hw0_.1 u335_ (fun _ _ _ => ⟨_, rfl⟩)) hge361_)) 192).trans u359_
  have u387_ : T361_ 193 o = q239_ + 1 := (hx361_ o (Nat.ne_of_lt (Nat.lt_of_lt_of_le (cw_lt hw0_.1 u335_ (fun _ _ _ => ⟨_, rfl⟩)) hge361_)) 193).trans u360_
  have u388_ : T361_ 194 o = q309_ + 1 := (hx361_ o (Nat.ne_of_lt (Nat.lt_of_lt_of_le (cw_lt hw0_.1 u335_ (fun _ _ _ => ⟨_, rfl⟩)) hge361_)) 194).trans hk334_
  have hw0_ := hw
  refine rr_195 E hK hw hnm fl_X9_70 u362_ 133 rfl dX9_init_130 (fun T389_ H locs hx389_ hj389_ hk389_ ho389_ hw => ?_)
  have hT389_ : WT T389_ := hw.1.2.1
  have hO389_ : ∀ x, ow T389_ x → κ 2 2 ≤ x := fun x h => hAc x (hw.2.1 x h)
  have hoT_ : OW T T389_ s.heap.size := OW.tr0 hoT_ ho389_
  have hR_ : ∀ b, b < sz → b ≠ o → ∀ k, T389_ k b = T k b := fun b_ h1_ h2_ k_ => (hx389_ b_ h2_ k_).trans (hR_ b_ h1_ h2_ k_)
  have u390_ : T389_ 0 o = 109 := (hj389_ 0 (by decide)).trans u362_
  have u391_ : T389_ 0 (κ 2 0) = 26 := (hx389_ (κ 2 0) (ty_ne u363_ u362_ (by decide)) 0).trans u363_
  have u392_ : T389_ 0 q1_ = 10 := (hx389_ q1_ (ty_ne u364_ u362_ (by decide)) 0).trans u364_
  have u393_ : T389_ 0 q12_ = 10 := (hx389_ q12_ (ty_ne u365_ u362_ (by decide)) 0).trans u365_
  have u394_ : T389_ 0 q32_ = 10 := (hx389_ q32_ (ty_ne u366_ u362_ (by decide)) 0).trans u366_
  have u395_ : T389_ 0 q61_ = 10 := (hx389_ q61_ (ty_ne u367_ u362_ (by decide)) 0).trans u367_
  have u396_ : T389_ 0 q99_ = 21 := (hx389_ q99_ (ty_ne u368_ u362_ (by decide)) 0).trans u368_
  have u397_ : T389_ 0 q131_ = 23 := (hx389_ q131_ (ty_ne u369_ u362_ (by decide)) 0).trans u369_
  have u398_ : T389_ 0 q175_ = 4 := (hx389_ q175_ (ty_ne u370_ u362_ (by decide)) 0).trans u370_
  have u399_ : T389_ 0 q239_ = 5 := (hx389_ q239_ (ty_ne u371_ u362_ (by decide)) 0).trans u371_
  have u400_ : T389_ 0 q309_ = 20 := (hx389_ q309_ (ty_ne u372_ u362_ (by decide)) 0).trans u372_
  have u401_ : T389_ 0 q361_ = 20 := (hx389_ q361_ (ty_ne tq361_ u362_ (by decide)) 0).trans tq361_
  have u402_ : T389_ 1 q99_ = 8 := (hx389_ q99_ (ty_ne u368_ u362_ (by decide)) 1).trans u373_
  have u403_ : T389_ 1 q131_ = 400 := (hx389_ q131_ (ty_ne u369_ u362_ (by decide)) 1).trans u374_
  have u404_ : T389_ 1 q309_ = 32 := (hx389_ q309_ (ty_ne u372_ u362_ (by decide)) 1).trans u375_
  have u405_ : T389_ 1 q361_ = 32 := (hx389_ q361_ (ty_ne tq361_ u362_ (by decide)) 1).trans tl361_
  have u406_ : T389_ 2 q1_ = 2 := (hx389_ q1_ (ty_ne u364_ u362_ (by decide)) 2).trans u376_
  have u407_ : T389_ 2 q12_ = 1 := (hx389_ q12_ (ty_ne u365_ u362_ (by decide)) 2).trans u377_
  have u408_ : T389_ 2 q32_ = 8 := (hx389_ q32_ (ty_ne u366_ u362_ (by decide)) 2).trans u378_
  have u409_ : T389_ 2 q61_ = 7 := (hx389_ q61_ (ty_ne u367_ u362_ (by decide)) 2).trans u379_
  have u410_ : T389_ 180 o = q1_ + 1 := (hj389_ 180 (by decide)).trans u380_
  have u411_ : T389_ 181 o = q12_ + 1 := (hj389_ 181 (by decide)).trans u381_
  have u412_ : T389_ 182 o = q32_ + 1 := (hj389_ 182 (by decide)).trans u382_
  have u413_ : T389_ 183 o = q61_ + 1 := (hj389_ 183 (by decide)).trans u383_
  have u414_ : T389_ 184 o = q99_ + 1 := (hj389_ 184 (by decide)).trans u384_
  have u415_ : T389_ 185 o = q131_ + 1 := (hj389_ 185 (by decide)).trans u385_
  have u416_ : T389_ 192 o = q175_ + 1 := (hj389_ 192 (by decide)).trans u386_
  have u417_ : T389_ 193 o = q239_ + 1 := (hj389_ 193 (by decide)).trans u387_
  have u418_ : T389_ 194 o = q309_ + 1 := (hj389_ 194 (by decide)).trans u388_
  refine j_aload_n E 134 rfl dX9_init_133 rfl (lv_at hl 0 rfl) ?_
  refine j_sipush E 137 rfl dX9_init_134 (by decide) ?_
  have hw0_ := hw
  refine n_arr20 E hK hw hA 401 (by decide) (by decide) (Nat.le_of_ble_eq_true rfl) (Nat.le_of_ble_eq_true rfl) 139 rfl dX9_init_137 (fun q419_ T419_ H hge419_ hx419_ ho419_ tq419_ tl419_ hw => ?_)
  have fq419_ : s.heap.size ≤ q419_ := Nat.le_trans hw0_.2.2.1 hge419_
  have hT419_ : WT T419_ := hw.1.2.1
  have hO419_ : ∀ x, ow T419_ x → κ 2 2 ≤ x := fun x h => hAc x (hw.2.1 x h)
  have hoT_ : OW T T419_ s.heap.size := OW.tr hw0_.2.2.1 hoT_ ho419_
  have hR_ : ∀ b, b < sz → b ≠ o → ∀ k, T419_ k b = T k b := fun b_ h1_ h2_ k_ => (hx419_ b_ (by have := hw0_.2.2.1; have := hge419_; omega) k_).trans (hR_ b_ h1_ h2_ k_)
  have u420_ : T419_ 0 o = 109 := (hx419_ o (Nat.ne_of_lt (Nat.lt_of_lt_of_le (cw_lt hw0_.1 u390_ (fun _ _ _ => ⟨_, rfl⟩)) hge419_)) 0).trans u390_
  have u421_ : T419_ 0 (κ 2 0) = 26 := (hx419_ (κ 2 0) (Nat.ne_of_lt (Nat.lt_of_lt_of_le (cw_lt hw0_.1 u391_ (fun _ _ _ => ⟨_, rfl⟩)) hge419_)) 0).trans u391_
  have u422_ : T419_ 0 q1_ = 10 := (hx419_ q1_ (Nat.ne_of_lt (Nat.lt_of_lt_of_le (cw_lt hw0_.1 u392_ (fun _ _ _ => ⟨_, rfl⟩)) hge419_)) 0).trans u392_
  have u423_ : T419_ 0 q12_ = 10 := (hx419_ q12_ (Nat.ne_of_lt (Nat.lt_of_lt_of_le (cw_lt hw0_.1 u393_ (fun _ _ _ => ⟨_, rfl⟩)) hge419_)) 0).trans u393_
  have u424_ : T419_ 0 q32_ = 10 := (hx419_ q32_ (Nat.ne_of_lt (Nat.lt_of_lt_of_le (cw_lt hw0_.1 u394_ (fun _ _ _ => ⟨_, rfl⟩)) hge419_)) 0).trans u394_
  have u425_ : T419_ 0 q61_ = 10 := (hx419_ q61_ (Nat.ne_of_lt (Nat.lt_of_lt_of_le (cw_lt hw0_.1 u395_ (fun _ _ _ => ⟨_, rfl⟩)) hge419_)) 0).trans u395_
  have u426_ : T419_ 0 q99_ = 21 := (hx419_ q99_ (Nat.ne_of_lt (Nat.lt_of_lt_of_le (cw_lt hw0_.1 u396_ (fun _ _ _ => ⟨_, rfl⟩)) hge419_)) 0).trans u396_
  have u427_ : T419_ 0 q131_ = 23 := (hx419_ q131_ (Nat.ne_of_lt (Nat.lt_of_lt_of_le (cw_lt hw0_.1 u397_ (fun _ _ _ => ⟨_, rfl⟩)) hge419_)) 0).trans u397_
  have u428_ : T419_ 0 q175_ = 4 := (hx419_ q175_ (Nat.ne_of_lt (Nat.lt_of_lt_of_le (cw_lt hw0_.1 u398_ (fun _ _ _ => ⟨_, rfl⟩)) hge419_)) 0).trans u398_
  have u429_ : T419_ 0 q239_ = 5 := (hx419_ q239_ (Nat.ne_of_lt (Nat.lt_of_lt_of_le (cw_lt hw0_.1 u399_ (fun _ _ _ => ⟨_, rfl⟩)) hge419_)) 0).trans u399_
  have u430_ : T419_ 0 q309_ = 20 := (hx419_ q309_ (Nat.ne_of_lt (Nat.lt_of_lt_of_le (cw_lt hw0_.1 u400_ (fun _ _ _ => ⟨_, rfl⟩)) hge419_)) 0).trans u400_
  have u431_ : T419_ 0 q361_ = 20 := (hx419_ q361_ (Nat.ne_of_lt (Nat.lt_of_lt_of_le (cw_lt hw0_.1 u401_ (fun _ _ _ => ⟨_, rfl⟩)) hge419_)) 0).trans u401_
  have u432_ : T419_ 1 q99_ = 8 := (hx419_ q99_ (Nat.ne_of_lt (Nat.lt_of_lt_of_le (cw_lt hw0_.1 u396_ (fun _ _ _ => ⟨_, rfl⟩)) hge419_)) 1).trans u402_
  have u433_ : T419_ 1 q131_ = 400 := (hx419_ q131_ (Nat.ne_of_lt (Nat.lt_of_lt_of_le (cw_lt hw0_.1 u397_ (fun _ _ _ => ⟨_, rfl⟩)) hge419_)) 1).trans u403_
  have u434_ : T419_ 1 q309_ = 32 := (hx419_ q309_ (Nat.ne_of_lt (Nat.lt_of_lt_of_le (cw_lt hw0_.1 u400_ (fun _ _ _ => ⟨_, rfl⟩)) hge419_)) 1).trans u404_
  have u435_ : T419_ 1 q361_ = 32 := (hx419_ q361_ (Nat.ne_of_lt (Nat.lt_of_lt_of_le (cw_lt hw0_.1 u401_ (fun _ _ _ => ⟨_, rfl⟩)) hge419_)) 1).trans u405_
  have u436_ : T419_ 2 q1_ = 2 := (hx419_ q1_ (Nat.ne_of_lt (Nat.lt_of_lt_of_le (cw_lt hw0_.1 u392_ (fun _ _ _ => ⟨_, rfl⟩)) hge419_)) 2).trans u406_
  have u437_ : T419_ 2 q12_ = 1 := (hx419_ q12_ (Nat.ne_of_lt (Nat.lt_of_lt_of_le (cw_lt hw0_.1 u393_ (fun _ _ _ => ⟨_, rfl⟩)) hge419_)) 2).trans u407_
  have u438_ : T419_ 2 q32_ = 8 := (hx419_ q32_ (Nat.ne_of_lt (Nat.lt_of_lt_of_le (cw_lt hw0_.1 u394_ (fun _ _ _ => ⟨_, rfl⟩)) hge419_)) 2).trans u408_
  have u439_ : T419_ 2 q61_ = 7 := (hx419_ q61_ (Nat.ne_of_lt (Nat.lt_of_lt_of_le (cw_lt hw0_.1 u395_ (fun _ _ _ => ⟨_, rfl⟩)) hge419_)) 2).trans u409_
  have u440_ : T419_ 180 o = q1_ + 1 := (hx419_ o (Nat.ne_of_lt (Nat.lt_of_lt_of_le (cw_lt hw0_.1 u390_ (fun _ _ _ => ⟨_, rfl⟩)) hge419_)) 180).trans u410_
  have u441_ : T419_ 181 o = q12_ + 1 := (hx419_ o (Nat.ne_of_lt (Nat.lt_of_lt_of_le (cw_lt hw0_.1 u390_ (fun _ _ _ => ⟨_, rfl⟩)) hge419_)) 181).trans u411_
  have u442_ : T419_ 182 o = q32_ + 1 := (hx419_ o (Nat.ne_of_lt (Nat.lt_of_lt_of_le (cw_lt hw0_.1 u390_ (fun _ _ _ => ⟨_, rfl⟩)) hge419_)) 182).trans u412_
  have u443_ : T419_ 183 o = q61_ + 1 := (hx419_ o (Nat.ne_of_lt (Nat.lt_of_lt_of_le (cw_lt hw0_.1 u390_ (fun _ _ _ => ⟨_, rfl⟩)) hge419_)) 183).trans u413_
  have u444_ : T419_ 184 o = q99_ + 1 := (hx419_ o (Nat.ne_of_lt (Nat.lt_of_lt_of_le (cw_lt hw0_.1 u390_ (fun _ _ _ => ⟨_, rfl⟩)) hge419_)) 184).trans u414_
  have u445_ : T419_ 185 o = q131_ + 1 := (hx419_ o (Nat.ne_of_lt (Nat.lt_of_lt_of_le (cw_lt hw0_.1 u390_ (fun _ _ _ => ⟨_, rfl⟩)) hge419_)) 185).trans u415_
  have u446_ : T419_ 192 o = q175_ + 1 := (hx419_ o (Nat.ne_of_lt (Nat.lt_of_lt_of_le (cw_lt hw0_.1 u390_ (fun _ _ _ => ⟨_, rfl⟩)) hge419_)) 192).trans u416_
  have u447_ : T419_ 193 o = q239_ + 1 := (hx419_ o (Nat.ne_of_lt (Nat.lt_of_lt_of_le (cw_lt hw0_.1 u390_ (fun _ _ _ => ⟨_, rfl⟩)) hge419_)) 193).trans u417_
  have u448_ : T419_ 194 o = q309_ + 1 := (hx419_ o (Nat.ne_of_lt (Nat.lt_of_lt_of_le (cw_lt hw0_.1 u390_ (fun _ _ _ => ⟨_, rfl⟩)) hge419_)) 194).trans u418_
  have u449_ : T419_ 195 o = q361_ + 1 := (hx419_ o (Nat.ne_of_lt (Nat.lt_of_lt_of_le (cw_lt hw0_.1 u390_ (fun _ _ _ => ⟨_, rfl⟩)) hge419_)) 195).trans hk389_
  have hw0_ := hw
  refine rr_196 E hK hw hnm fl_X9_73 u420_ 142 rfl dX9_init_139 (fun T450_ H locs hx450_ hj450_ hk450_ ho450_ hw => ?_)
  have hT450_ : WT T450_ := hw.1.2.1
  have hO450_ : ∀ x, ow T450_ x → κ 2 2 ≤ x := fun x h => hAc x (hw.2.1 x h)
  have hoT_ : OW T T450_ s.heap.size := OW.tr0 hoT_ ho450_
  have hR_ : ∀ b, b < sz → b ≠ o → ∀ k, T450_ k b = T k b := fun b_ h1_ h2_ k_ => (hx450_ b_ h2_ k_).trans (hR_ b_ h1_ h2_ k_)
  have u451_ : T450_ 0 o = 109 := (hj450_ 0 (by decide)).trans u420_
  have u452_ : T450_ 0 (κ 2 0) = 26 := (hx450_ (κ 2 0) (ty_ne u421_ u420_ (by decide)) 0).trans u421_
  have u453_ : T450_ 0 q1_ = 10 := (hx450_ q1_ (ty_ne u422_ u420_ (by decide)) 0).trans u422_
  have u454_ : T450_ 0 q12_ = 10 := (hx450_ q12_ (ty_ne u423_ u420_ (by decide)) 0).trans u423_
  have u455_ : T450_ 0 q32_ = 10 := (hx450_ q32_ (ty_ne u424_ u420_ (by decide)) 0).trans u424_
  have u456_ : T450_ 0 q61_ = 10 := (hx450_ q61_ (ty_ne u425_ u420_ (by decide)) 0).trans u425_
  have u457_ : T450_ 0 q99_ = 21 := (hx450_ q99_ (ty_ne u426_ u420_ (by decide)) 0).trans u426_
  have u458_ : T450_ 0 q131_ = 23 := (hx450_ q131_ (ty_ne u427_ u420_ (by decide)) 0).trans u427_
  have u459_ : T450_ 0 q175_ = 4 := (hx450_ q175_ (ty_ne u428_ u420_ (by decide)) 0).trans u428_
  have u460_ : T450_ 0 q239_ = 5 := (hx450_ q239_ (ty_ne u429_ u420_ (by decide)) 0).trans u429_
  have u461_ : T450_ 0 q309_ = 20 := (hx450_ q309_ (ty_ne u430_ u420_ (by decide)) 0).trans u430_
  have u462_ : T450_ 0 q361_ = 20 := (hx450_ q361_ (ty_ne u431_ u420_ (by decide)) 0).trans u431_
  have u463_ : T450_ 0 q419_ = 20 := (hx450_ q419_ (ty_ne tq419_ u420_ (by decide)) 0).trans tq419_
  have u464_ : T450_ 1 q99_ = 8 := (hx450_ q99_ (ty_ne u426_ u420_ (by decide)) 1).trans u432_
  have u465_ : T450_ 1 q131_ = 400 := (hx450_ q131_ (ty_ne u427_ u420_ (by decide)) 1).trans u433_
  have u466_ : T450_ 1 q309_ = 32 := (hx450_ q309_ (ty_ne u430_ u420_ (by decide)) 1).trans u434_
  have u467_ : T450_ 1 q361_ = 32 := (hx450_ q361_ (ty_ne u431_ u420_ (by decide)) 1).trans u435_
  have u468_ : T450_ 1 q419_ = 401 := (hx450_ q419_ (ty_ne tq419_ u420_ (by decide)) 1).trans tl419_
  have u469_ : T450_ 2 q1_ = 2 := (hx450_ q1_ (ty_ne u422_ u420_ (by decide)) 2).trans u436_
  have u470_ : T450_ 2 q12_ = 1 := (hx450_ q12_ (ty_ne u423_ u420_ (by decide)) 2).trans u437_
  have u471_ : T450_ 2 q32_ = 8 := (hx450_ q32_ (ty_ne u424_ u420_ (by decide)) 2).trans u438_
  have u472_ : T450_ 2 q61_ = 7 := (hx450_ q61_ (ty_ne u425_ u420_ (by decide)) 2).trans u439_
  have u473_ : T450_ 180 o = q1_ + 1 := (hj450_ 180 (by decide)).trans u440_
  have u474_ : T450_ 181 o = q12_ + 1 := (hj450_ 181 (by decide)).trans u441_
  have u475_ : T450_ 182 o = q32_ + 1 := (hj450_ 182 (by decide)).trans u442_
  have u476_ : T450_ 183 o = q61_ + 1 := (hj450_ 183 (by decide)).trans u443_
  have u477_ : T450_ 184 o = q99_ + 1 := (hj450_ 184 (by decide)).trans u444_
  have u478_ : T450_ 185 o = q131_ + 1 := (hj450_ 185 (by decide)).trans u445_
  have u479_ : T450_ 192 o = q175_ + 1 := (hj450_ 192 (by decide)).trans u446_
  have u480_ : T450_ 193 o = q239_ + 1 := (hj450_ 193 (by decide)).trans u447_
  have u481_ : T450_ 194 o = q309_ + 1 := (hj450_ 194 (by decide)).trans u448_
  have u482_ : T450_ 195 o = q361_ + 1 := (hj450_ 195 (by decide)).trans u449_
  refine j_aload_n E 143 rfl dX9_init_142 rfl (lv_at hl 0 rfl) ?_
  refine j_null E 144 rfl dX9_init_143 ?_
  have hw0_ := hw
  refine rn_197 E hK hw fl_X9_76 u451_ 147 rfl dX9_init_144 (fun T483_ H locs hx483_ hj483_ hk483_ ho483_ hw => ?_)
  have hT483_ : WT T483_ := hw.1.2.1
  have hO483_ : ∀ x, ow T483_ x → κ 2 2 ≤ x := fun x h => hAc x (hw.2.1 x h)
  have hoT_ : OW T T483_ s.heap.size := OW.tr0 hoT_ ho483_
  have hR_ : ∀ b, b < sz → b ≠ o → ∀ k, T483_ k b = T k b := fun b_ h1_ h2_ k_ => (hx483_ b_ h2_ k_).trans (hR_ b_ h1_ h2_ k_)
  have u484_ : T483_ 0 o = 109 := (hj483_ 0 (by decide)).trans u451_
  have u485_ : T483_ 0 (κ 2 0) = 26 := (hx483_ (κ 2 0) (ty_ne u452_ u451_ (by decide)) 0).trans u452_
  have u486_ : T483_ 0 q1_ = 10 := (hx483_ q1_ (ty_ne u453_ u451_ (by decide)) 0).trans u453_
  have u487_ : T483_ 0 q12_ = 10 := (hx483_ q12_ (ty_ne u454_ u451_ (by decide)) 0).trans u454_
  have u488_ : T483_ 0 q32_ = 10 := (hx483_ q32_ (ty_ne u455_ u451_ (by decide)) 0).trans u455_
  have u489_ : T483_ 0 q61_ = 10 := (hx483_ q61_ (ty_ne u456_ u451_ (by decide)) 0).trans u456_
  have u490_ : T483_ 0 q99_ = 21 := (hx483_ q99_ (ty_ne u457_ u451_ (by decide)) 0).trans u457_
  have u491_ : T483_ 0 q131_ = 23 := (hx483_ q131_ (ty_ne u458_ u451_ (by decide)) 0).trans u458_
  have u492_ : T483_ 0 q175_ = 4 := (hx483_ q175_ (ty_ne u459_ u451_ (by decide)) 0).trans u459_
  have u493_ : T483_ 0 q239_ = 5 := (hx483_ q239_ (ty_ne u460_ u451_ (by decide)) 0).trans u460_
  have u494_ : T483_ 0 q309_ = 20 := (hx483_ q309_ (ty_ne u461_ u451_ (by decide)) 0).trans u461_
  have u495_ : T483_ 0 q361_ = 20 := (hx483_ q361_ (ty_ne u462_ u451_ (by decide)) 0).trans u462_
  have u496_ : T483_ 0 q419_ = 20 := (hx483_ q419_ (ty_ne u463_ u451_ (by decide)) 0).trans u463_
  have u497_ : T483_ 1 q99_ = 8 := (hx483_ q99_ (ty_ne u457_ u451_ (by decide)) 1).trans u464_
  have u498_ : T483_ 1 q131_ = 400 := (hx483_ q131_ (ty_ne u458_ u451_ (by decide)) 1).trans u465_
  have u499_ : T483_ 1 q309_ = 32 := (hx483_ q309_ (ty_ne u461_ u451_ (by decide)) 1).trans u466_
  have u500_ : T483_ 1 q361_ = 32 := (hx483_ q361_ (ty_ne u462_ u451_ (by decide)) 1).trans u467_
  have u501_ : T483_ 1 q419_ = 401 := (hx483_ q419_ (ty_ne u463_ u451_ (by decide)) 1).trans u468_
  have u502_ : T483_ 2 q1_ = 2 := (hx483_ q1_ (ty_ne u453_ u451_ (by decide)) 2).trans u469_
  have u503_ : T483_ 2 q12_ = 1 := (hx483_ q12_ (ty_ne u454_ u451_ (by decide)) 2).trans u470_
  have u504_ : T483_ 2 q32_ = 8 := (hx483_ q32_ (ty_ne u455_ u451_ (by decide)) 2).trans u471_
  have u505_ : T483_ 2 q61_ = 7 := (hx483_ q61_ (ty_ne u456_ u451_ (by decide)) 2).trans u472_
  have u506_ : T483_ 180 o = q1_ + 1 := (hj483_ 180 (by decide)).trans u473_
  have u507_ : T483_ 181 o = q12_ + 1 := (hj483_ 181 (by decide)).trans u474_
  have u508_ : T483_ 182 o = q32_ + 1 := (hj483_ 182 (by decide)).trans u475_
  have u509_ : T483_ 183 o = q61_ + 1 := (hj483_ 183 (by decide)).trans u476_
  have u510_ : T483_ 184 o = q99_ + 1 := (hj483_ 184 (by decide)).trans u477_
  have u511_ : T483_ 185 o = q131_ + 1 := (hj483_ 185 (by decide)).trans u478_
  have u512_ : T483_ 192 o = q175_ + 1 := (hj483_ 192 (by decide)).trans u479_
  have u513_ : T483_ 193 o = q239_ + 1 := (hj483_ 193 (by decide)).trans u480_
  have u514_ : T483_ 194 o = q309_ + 1 := (hj483_ 194 (by decide)).trans u481_
  have u515_ : T483_ 195 o = q361_ + 1 := (hj483_ 195 (by decide)).trans u482_
  have u516_ : T483_ 196 o = q419_ + 1 := (hj483_ 196 (by decide)).trans hk450_
  have hw0_ := hw
  obtain ⟨T517_, hx517_, tq517_, xe517_180_, xe517_181_, xe517_182_, xe517_183_, xe517_184_, xe517_185_, xe517_192_, xe517_193_, xe517_194_, xe517_195_, xe517_196_, ho517_, hw⟩ := pm_9 hw u484_ u506_ u486_ u502_ u507_ u487_ u503_ u508_ u488_ u504_ u509_ u489_ u505_ u510_ u490_ u497_ u511_ u491_ u498_ u512_ u492_ u513_ u493_ u514_ u494_ u499_ u515_ u495_ u500_ u516_ u496_ u501_ hk483_
  have hT517_ : WT T517_ := hw.1.2.1
  have hO517_ : ∀ x, ow T517_ x → κ 2 2 ≤ x := fun x h => hAc x (hw.2.1 x h)
  have hoT_ : OW T T517_ s.heap.size := OW.tr0 hoT_ ho517_
  have hR_ : ∀ b, b < sz → b ≠ o → ∀ k, T517_ k b = T k b := fun b_ h1_ h2_ k_ => (hx517_ b_ h2_ k_).trans (hR_ b_ h1_ h2_ k_)
  have u518_ : T517_ 0 (κ 2 0) = 26 := (hx517_ (κ 2 0) (ty_ne u485_ u484_ (by decide)) 0).trans u485_
  exact hret 147 T517_ _ _ _ ls _ _ hw hoT_ (⟨hR_, tq517_⟩) (Nat.le_of_ble_eq_true rfl) (Nat.le_of_ble_eq_true rfl) dX9_init_147
