theorem ml_oi : Cond.methodLink RX10 1 Lib.objectInit ∈ gT := (gT_c5 (List.mem_of_getElem? (i := 128) (by decide +kernel)) (by decide +kernel))
theorem im_oi : Cond.instanceMethod Lib.objectInit ∈ gT := (gT_c1 (List.mem_of_getElem? (i := 31) (by decide +kernel)) (by decide +kernel))
theorem cd_oi : Cond.code Lib.objectInit ⟨#[0xb1]⟩ 1 none ∈ gT := (gT_c1 (List.mem_of_getElem? (i := 32) rfl) rfl)
def mF0_ : List Value := [.int (J 0), .int (J 0), .int (J 0), .null, .null, .null, .null, .null, .null, .null, .int (J 0), .int (J 0), .int (J 0), .null, .null, .null, .null, .null, .null, .null, .null, .null, .null, .int (J 0), .int (J 0), .int (J 0), .int (J 0), .int (J 0), .null, .int (J 0), .null, .null, .null, .null, .null, .null, .null, .int (J 0), .int (J 0), .null, .int (J 0), .int (J 0), .int (J 0), .int (J 0), .int (J 0), .null, .null, .null, .int (J 0), .null, .null, .null, .null, .null, .null, .null, .null, .null, .null, .null, .null, .null, .null, .null, .null, .int (J 0), .null, .null]
def n1_ : Nat → Int := fun k => if k = 10 then -1 else if k = 44 then -1 else 0
theorem tyX10_k3 : parseFieldDescriptor (TX10 3).2.2.1 = some (.array .int) := by decide +kernel
theorem tyX10_k4 : parseFieldDescriptor (TX10 4).2.2.1 = some (.array .int) := by decide +kernel
theorem tyX10_k5 : parseFieldDescriptor (TX10 5).2.2.1 = some (.array .int) := by decide +kernel
theorem tyX10_k6 : parseFieldDescriptor (TX10 6).2.2.1 = some (.array .int) := by decide +kernel
theorem tyX10_k7 : parseFieldDescriptor (TX10 7).2.2.1 = some (.array .boolean) := by decide +kernel
theorem tyX10_k8 : parseFieldDescriptor (TX10 8).2.2.1 = some (.array .int) := by decide +kernel
theorem tyX10_k9 : parseFieldDescriptor (TX10 9).2.2.1 = some (.array .boolean) := by decide +kernel
theorem tyX10_k13 : parseFieldDescriptor (TX10 13).2.2.1 = some (.array .int) := by decide +kernel
theorem tyX10_k14 : parseFieldDescriptor (TX10 14).2.2.1 = some (.array .boolean) := by decide +kernel
theorem tyX10_k15 : parseFieldDescriptor (TX10 15).2.2.1 = some (.array .int) := by decide +kernel
theorem tyX10_k16 : parseFieldDescriptor (TX10 16).2.2.1 = some (.array .int) := by decide +kernel
theorem tyX10_k17 : parseFieldDescriptor (TX10 17).2.2.1 = some (.array .int) := by decide +kernel
theorem tyX10_k18 : parseFieldDescriptor (TX10 18).2.2.1 = some (.array .int) := by decide +kernel
theorem tyX10_k19 : parseFieldDescriptor (TX10 19).2.2.1 = some (.array .int) := by decide +kernel
theorem tyX10_k20 : parseFieldDescriptor (TX10 20).2.2.1 = some (.array .int) := by decide +kernel
theorem tyX10_k21 : parseFieldDescriptor (TX10 21).2.2.1 = some (.array .int) := by decide +kernel
theorem tyX10_k22 : parseFieldDescriptor (TX10 22).2.2.1 = some (.array .int) := by decide +kernel
theorem tyX10_k28 : parseFieldDescriptor (TX10 28).2.2.1 = some (.array .int) := by decide +kernel
theorem tyX10_k30 : parseFieldDescriptor (TX10 30).2.2.1 = some (.array .int) := by decide +kernel
theorem tyX10_k31 : parseFieldDescriptor (TX10 31).2.2.1 = some (.array .int) := by decide +kernel
theorem tyX10_k32 : parseFieldDescriptor (TX10 32).2.2.1 = some (.array .int) := by decide +kernel
theorem tyX10_k33 : parseFieldDescriptor (TX10 33).2.2.1 = some (.array .int) := by decide +kernel
theorem tyX10_k34 : parseFieldDescriptor (TX10 34).2.2.1 = some (.array .int) := by decide +kernel
theorem tyX10_k35 : parseFieldDescriptor (TX10 35).2.2.1 = some (.array .int) := by decide +kernel
theorem tyX10_k36 : parseFieldDescriptor (TX10 36).2.2.1 = some (.array .int) := by decide +kernel
theorem tyX10_k39 : parseFieldDescriptor (TX10 39).2.2.1 = some (.array .int) := by decide +kernel
theorem tyX10_k45 : parseFieldDescriptor (TX10 45).2.2.1 = some (.array .int) := by decide +kernel
theorem tyX10_k46 : parseFieldDescriptor (TX10 46).2.2.1 = some (.array .int) := by decide +kernel
theorem tyX10_k47 : parseFieldDescriptor (TX10 47).2.2.1 = some (.array .int) := by decide +kernel
theorem tyX10_k49 : parseFieldDescriptor (TX10 49).2.2.1 = some (.array .int) := by decide +kernel
theorem tyX10_k50 : parseFieldDescriptor (TX10 50).2.2.1 = some (.array .int) := by decide +kernel
theorem tyX10_k51 : parseFieldDescriptor (TX10 51).2.2.1 = some (.array .int) := by decide +kernel
theorem tyX10_k52 : parseFieldDescriptor (TX10 52).2.2.1 = some (.array .int) := by decide +kernel
theorem tyX10_k53 : parseFieldDescriptor (TX10 53).2.2.1 = some (.array .int) := by decide +kernel
theorem tyX10_k54 : parseFieldDescriptor (TX10 54).2.2.1 = some (.array .boolean) := by decide +kernel
theorem tyX10_k55 : parseFieldDescriptor (TX10 55).2.2.1 = some (.array .int) := by decide +kernel
theorem tyX10_k56 : parseFieldDescriptor (TX10 56).2.2.1 = some (.array .boolean) := by decide +kernel
theorem tyX10_k57 : parseFieldDescriptor (TX10 57).2.2.1 = some (.array .int) := by decide +kernel
theorem tyX10_k58 : parseFieldDescriptor (TX10 58).2.2.1 = some (.array .int) := by decide +kernel
theorem tyX10_k59 : parseFieldDescriptor (TX10 59).2.2.1 = some (.array .int) := by decide +kernel
theorem tyX10_k60 : parseFieldDescriptor (TX10 60).2.2.1 = some (.array .int) := by decide +kernel
theorem tyX10_k61 : parseFieldDescriptor (TX10 61).2.2.1 = some (.array .int) := by decide +kernel
theorem tyX10_k62 : parseFieldDescriptor (TX10 62).2.2.1 = some (.array .boolean) := by decide +kernel
theorem tyX10_k63 : parseFieldDescriptor (TX10 63).2.2.1 = some (.array .int) := by decide +kernel
theorem tyX10_k64 : parseFieldDescriptor (TX10 64).2.2.1 = some (.array .int) := by decide +kernel
theorem tyX10_k66 : parseFieldDescriptor (TX10 66).2.2.1 = some (.array .int) := by decide +kernel
theorem tyX10_k67 : parseFieldDescriptor (TX10 67).2.2.1 = some (.array .int) := by decide +kernel
def wgs_0 : Int → Int := fun _ => 0
def wgs_1 : Int → Int := upA wgs_0 0 32
def wgs_2 : Int → Int := upA wgs_1 1 109
def wgs_3 : Int → Int := upA wgs_2 2 97
def wgs_4 : Int → Int := upA wgs_3 3 114
def wgs_5 : Int → Int := upA wgs_4 4 107
def wgs_6 : Int → Int := upA wgs_5 5 115
def wgs_7 : Int → Int := upA wgs_6 6 32
def wgs_8 : Int → Int := upA wgs_7 7 119
def wgs_9 : Int → Int := upA wgs_8 8 104
def wgs_10 : Int → Int := upA wgs_9 9 101
def wgs_11 : Int → Int := upA wgs_10 10 110
def wgs_12 : Int → Int := upA wgs_11 11 32
def wgs_13 : Int → Int := upA wgs_12 12 117
def wgs_14 : Int → Int := upA wgs_13 13 110
def wgs_15 : Int → Int := upA wgs_14 14 108
def wgs_16 : Int → Int := upA wgs_15 15 101
def wgs_17 : Int → Int := upA wgs_16 16 115
def wgs_18 : Int → Int := upA wgs_17 17 115
def wgs_19 : Int → Int := upA wgs_18 18 32
def wgs_20 : Int → Int := upA wgs_19 19 111
def wgs_21 : Int → Int := upA wgs_20 20 114
def wgs_22 : Int → Int := upA wgs_21 21 32
def wgs_23 : Int → Int := upA wgs_22 22 97
def wgs_24 : Int → Int := upA wgs_23 23 110
def wgs_25 : Int → Int := upA wgs_24 24 100
def wgs_26 : Int → Int := upA wgs_25 25 32
def wgs_27 : Int → Int := upA wgs_26 26 110
def wgs_28 : Int → Int := upA wgs_27 27 111
def wgs_29 : Int → Int := upA wgs_28 28 116
def wgs_30 : Int → Int := upA wgs_29 29 32
def wgs_31 : Int → Int := upA wgs_30 30 104
def wgs_32 : Int → Int := upA wgs_31 31 97
def wgs_33 : Int → Int := upA wgs_32 32 114
def wgs_34 : Int → Int := upA wgs_33 33 109
def wgs_35 : Int → Int := upA wgs_34 34 32
def wgs_36 : Int → Int := upA wgs_35 35 119
def wgs_37 : Int → Int := upA wgs_36 36 105
def wgs_38 : Int → Int := upA wgs_37 37 116
def wgs_39 : Int → Int := upA wgs_38 38 110
def wgs_40 : Int → Int := upA wgs_39 39 101
def wgs_41 : Int → Int := upA wgs_40 40 115
def wgs_42 : Int → Int := upA wgs_41 41 115
def wgs_43 : Int → Int := upA wgs_42 42 101
def wgs_44 : Int → Int := upA wgs_43 43 115
def wgs_45 : Int → Int := upA wgs_44 44 32
def wgs_46 : Int → Int := upA wgs_45 45 121
def wgs_47 : Int → Int := upA wgs_46 46 101
def wgs_48 : Int → Int := upA wgs_47 47 97
def wgs_49 : Int → Int := upA wgs_48 48 114
def wgs_50 : Int → Int := upA wgs_49 49 115
def wgs_51 : Int → Int := upA wgs_50 50 32
def wgs_52 : Int → Int := upA wgs_51 51 107
def wgs_53 : Int → Int := upA wgs_52 52 105
def wgs_54 : Int → Int := upA wgs_53 53 110
def wgs_55 : Int → Int := upA wgs_54 54 32
def wgs_56 : Int → Int := upA wgs_55 55 97
def wgs_57 : Int → Int := upA wgs_56 56 103
def wgs_58 : Int → Int := upA wgs_57 57 101
def wgs_59 : Int → Int := upA wgs_58 58 32
def wgs_60 : Int → Int := upA wgs_59 59 108
def wgs_61 : Int → Int := upA wgs_60 60 105
def wgs_62 : Int → Int := upA wgs_61 61 110
def wgs_63 : Int → Int := upA wgs_62 62 101
def wgs_64 : Int → Int := upA wgs_63 63 32
def wg_ : Int → Int := wgs_64
theorem wgs_R0 : ∀ i, inR (wgs_0 i) := fun _ => inR0
theorem wgs_R1 : ∀ i, inR (wgs_1 i) := upA_R wgs_R0 (rr (by decide))
theorem wgs_R2 : ∀ i, inR (wgs_2 i) := upA_R wgs_R1 (rr (by decide))
theorem wgs_R3 : ∀ i, inR (wgs_3 i) := upA_R wgs_R2 (rr (by decide))
theorem wgs_R4 : ∀ i, inR (wgs_4 i) := upA_R wgs_R3 (rr (by decide))
theorem wgs_R5 : ∀ i, inR (wgs_5 i) := upA_R wgs_R4 (rr (by decide))
theorem wgs_R6 : ∀ i, inR (wgs_6 i) := upA_R wgs_R5 (rr (by decide))
theorem wgs_R7 : ∀ i, inR (wgs_7 i) := upA_R wgs_R6 (rr (by decide))
theorem wgs_R8 : ∀ i, inR (wgs_8 i) := upA_R wgs_R7 (rr (by decide))
theorem wgs_R9 : ∀ i, inR (wgs_9 i) := upA_R wgs_R8 (rr (by decide))
theorem wgs_R10 : ∀ i, inR (wgs_10 i) := upA_R wgs_R9 (rr (by decide))
theorem wgs_R11 : ∀ i, inR (wgs_11 i) := upA_R wgs_R10 (rr (by decide))
theorem wgs_R12 : ∀ i, inR (wgs_12 i) := upA_R wgs_R11 (rr (by decide))
theorem wgs_R13 : ∀ i, inR (wgs_13 i) := upA_R wgs_R12 (rr (by decide))
theorem wgs_R14 : ∀ i, inR (wgs_14 i) := upA_R wgs_R13 (rr (by decide))
theorem wgs_R15 : ∀ i, inR (wgs_15 i) := upA_R wgs_R14 (rr (by decide))
theorem wgs_R16 : ∀ i, inR (wgs_16 i) := upA_R wgs_R15 (rr (by decide))
theorem wgs_R17 : ∀ i, inR (wgs_17 i) := upA_R wgs_R16 (rr (by decide))
theorem wgs_R18 : ∀ i, inR (wgs_18 i) := upA_R wgs_R17 (rr (by decide))
theorem wgs_R19 : ∀ i, inR (wgs_19 i) := upA_R wgs_R18 (rr (by decide))
theorem wgs_R20 : ∀ i, inR (wgs_20 i) := upA_R wgs_R19 (rr (by decide))
theorem wgs_R21 : ∀ i, inR (wgs_21 i) := upA_R wgs_R20 (rr (by decide))
theorem wgs_R22 : ∀ i, inR (wgs_22 i) := upA_R wgs_R21 (rr (by decide))
theorem wgs_R23 : ∀ i, inR (wgs_23 i) := upA_R wgs_R22 (rr (by decide))
theorem wgs_R24 : ∀ i, inR (wgs_24 i) := upA_R wgs_R23 (rr (by decide))
theorem wgs_R25 : ∀ i, inR (wgs_25 i) := upA_R wgs_R24 (rr (by decide))
theorem wgs_R26 : ∀ i, inR (wgs_26 i) := upA_R wgs_R25 (rr (by decide))
theorem wgs_R27 : ∀ i, inR (wgs_27 i) := upA_R wgs_R26 (rr (by decide))
theorem wgs_R28 : ∀ i, inR (wgs_28 i) := upA_R wgs_R27 (rr (by decide))
theorem wgs_R29 : ∀ i, inR (wgs_29 i) := upA_R wgs_R28 (rr (by decide))
theorem wgs_R30 : ∀ i, inR (wgs_30 i) := upA_R wgs_R29 (rr (by decide))
theorem wgs_R31 : ∀ i, inR (wgs_31 i) := upA_R wgs_R30 (rr (by decide))
theorem wgs_R32 : ∀ i, inR (wgs_32 i) := upA_R wgs_R31 (rr (by decide))
theorem wgs_R33 : ∀ i, inR (wgs_33 i) := upA_R wgs_R32 (rr (by decide))
theorem wgs_R34 : ∀ i, inR (wgs_34 i) := upA_R wgs_R33 (rr (by decide))
theorem wgs_R35 : ∀ i, inR (wgs_35 i) := upA_R wgs_R34 (rr (by decide))
theorem wgs_R36 : ∀ i, inR (wgs_36 i) := upA_R wgs_R35 (rr (by decide))
theorem wgs_R37 : ∀ i, inR (wgs_37 i) := upA_R wgs_R36 (rr (by decide))
theorem wgs_R38 : ∀ i, inR (wgs_38 i) := upA_R wgs_R37 (rr (by decide))
theorem wgs_R39 : ∀ i, inR (wgs_39 i) := upA_R wgs_R38 (rr (by decide))
theorem wgs_R40 : ∀ i, inR (wgs_40 i) := upA_R wgs_R39 (rr (by decide))
theorem wgs_R41 : ∀ i, inR (wgs_41 i) := upA_R wgs_R40 (rr (by decide))
theorem wgs_R42 : ∀ i, inR (wgs_42 i) := upA_R wgs_R41 (rr (by decide))
theorem wgs_R43 : ∀ i, inR (wgs_43 i) := upA_R wgs_R42 (rr (by decide))
theorem wgs_R44 : ∀ i, inR (wgs_44 i) := upA_R wgs_R43 (rr (by decide))
theorem wgs_R45 : ∀ i, inR (wgs_45 i) := upA_R wgs_R44 (rr (by decide))
theorem wgs_R46 : ∀ i, inR (wgs_46 i) := upA_R wgs_R45 (rr (by decide))
theorem wgs_R47 : ∀ i, inR (wgs_47 i) := upA_R wgs_R46 (rr (by decide))
theorem wgs_R48 : ∀ i, inR (wgs_48 i) := upA_R wgs_R47 (rr (by decide))
theorem wgs_R49 : ∀ i, inR (wgs_49 i) := upA_R wgs_R48 (rr (by decide))
theorem wgs_R50 : ∀ i, inR (wgs_50 i) := upA_R wgs_R49 (rr (by decide))
theorem wgs_R51 : ∀ i, inR (wgs_51 i) := upA_R wgs_R50 (rr (by decide))
theorem wgs_R52 : ∀ i, inR (wgs_52 i) := upA_R wgs_R51 (rr (by decide))
theorem wgs_R53 : ∀ i, inR (wgs_53 i) := upA_R wgs_R52 (rr (by decide))
theorem wgs_R54 : ∀ i, inR (wgs_54 i) := upA_R wgs_R53 (rr (by decide))
theorem wgs_R55 : ∀ i, inR (wgs_55 i) := upA_R wgs_R54 (rr (by decide))
theorem wgs_R56 : ∀ i, inR (wgs_56 i) := upA_R wgs_R55 (rr (by decide))
theorem wgs_R57 : ∀ i, inR (wgs_57 i) := upA_R wgs_R56 (rr (by decide))
theorem wgs_R58 : ∀ i, inR (wgs_58 i) := upA_R wgs_R57 (rr (by decide))
theorem wgs_R59 : ∀ i, inR (wgs_59 i) := upA_R wgs_R58 (rr (by decide))
theorem wgs_R60 : ∀ i, inR (wgs_60 i) := upA_R wgs_R59 (rr (by decide))
theorem wgs_R61 : ∀ i, inR (wgs_61 i) := upA_R wgs_R60 (rr (by decide))
theorem wgs_R62 : ∀ i, inR (wgs_62 i) := upA_R wgs_R61 (rr (by decide))
theorem wgs_R63 : ∀ i, inR (wgs_63 i) := upA_R wgs_R62 (rr (by decide))
theorem wgs_R64 : ∀ i, inR (wgs_64 i) := upA_R wgs_R63 (rr (by decide))
theorem wg_R : ∀ i, inR (wg_ i) := wgs_R64
theorem wg_W : ∀ i : Fin 64, wg_ (i.val : Int) = wdT_.getD i.val 0 := by decide +kernel
def f1_ : Nat → Int → Int := fun k => if k = 28 then wg_ else fun _ => 0
theorem n1_R : mRn n1_ := by unfold mRn; decide
theorem f1_R : mRf f1_ := ⟨(fun _ => inR0), (fun _ => inR0), (fun _ => inR0), (fun _ => inR0), (fun _ => inR0), (fun _ => inR0), (fun _ => inR0), (fun _ => inR0), (fun _ => inR0), (fun _ => inR0), (fun _ => inR0), (fun _ => inR0), (fun _ => inR0), (fun _ => inR0), (fun _ => inR0), (fun _ => inR0), (fun _ => inR0), wg_R, (fun _ => inR0), (fun _ => inR0), (fun _ => inR0), (fun _ => inR0), (fun _ => inR0), (fun _ => inR0), (fun _ => inR0), (fun _ => inR0), (fun _ => inR0), (fun _ => inR0), (fun _ => inR0), (fun _ => inR0), (fun _ => inR0), (fun _ => inR0), (fun _ => inR0), (fun _ => inR0), (fun _ => inR0), (fun _ => inR0), (fun _ => inR0), (fun _ => inR0), (fun _ => inR0), (fun _ => inR0), (fun _ => inR0), (fun _ => inR0), (fun _ => inR0), (fun _ => inR0), (fun _ => inR0), (fun _ => inR0), (fun _ => inR0)⟩
theorem mW_mA (cy : Nat → ClassId) (q : Nat → Nat) (n : Nat → Int) (f : Nat → Int → Int) : ∀ (k : Nat) (x : Nat × va_E), (mW cy q n f)[k]? = some x → mA q x.1
  | 0, x, h => by cases h; exact ⟨0, rfl⟩
  | 1, x, h => by cases h; exact ⟨3, rfl⟩
  | 2, x, h => by cases h; exact ⟨4, rfl⟩
  | 3, x, h => by cases h; exact ⟨5, rfl⟩
  | 4, x, h => by cases h; exact ⟨6, rfl⟩
  | 5, x, h => by cases h; exact ⟨7, rfl⟩
  | 6, x, h => by cases h; exact ⟨8, rfl⟩
  | 7, x, h => by cases h; exact ⟨9, rfl⟩
  | 8, x, h => by cases h; exact ⟨13, rfl⟩
  | 9, x, h => by cases h; exact ⟨14, rfl⟩
  | 10, x, h => by cases h; exact ⟨15, rfl⟩
  | 11, x, h => by cases h; exact ⟨16, rfl⟩
  | 12, x, h => by cases h; exact ⟨17, rfl⟩
  | 13, x, h => by cases h; exact ⟨18, rfl⟩
  | 14, x, h => by cases h; exact ⟨19, rfl⟩
  | 15, x, h => by cases h; exact ⟨20, rfl⟩
  | 16, x, h => by cases h; exact ⟨21, rfl⟩
  | 17, x, h => by cases h; exact ⟨22, rfl⟩
  | 18, x, h => by cases h; exact ⟨28, rfl⟩
  | 19, x, h => by cases h; exact ⟨30, rfl⟩
  | 20, x, h => by cases h; exact ⟨31, rfl⟩
  | 21, x, h => by cases h; exact ⟨32, rfl⟩
  | 22, x, h => by cases h; exact ⟨33, rfl⟩
  | 23, x, h => by cases h; exact ⟨34, rfl⟩
  | 24, x, h => by cases h; exact ⟨35, rfl⟩
  | 25, x, h => by cases h; exact ⟨36, rfl⟩
  | 26, x, h => by cases h; exact ⟨39, rfl⟩
  | 27, x, h => by cases h; exact ⟨45, rfl⟩
  | 28, x, h => by cases h; exact ⟨46, rfl⟩
  | 29, x, h => by cases h; exact ⟨47, rfl⟩
  | 30, x, h => by cases h; exact ⟨49, rfl⟩
  | 31, x, h => by cases h; exact ⟨50, rfl⟩
  | 32, x, h => by cases h; exact ⟨51, rfl⟩
  | 33, x, h => by cases h; exact ⟨52, rfl⟩
  | 34, x, h => by cases h; exact ⟨53, rfl⟩
  | 35, x, h => by cases h; exact ⟨54, rfl⟩
  | 36, x, h => by cases h; exact ⟨55, rfl⟩
  | 37, x, h => by cases h; exact ⟨56, rfl⟩
  | 38, x, h => by cases h; exact ⟨57, rfl⟩
  | 39, x, h => by cases h; exact ⟨58, rfl⟩
  | 40, x, h => by cases h; exact ⟨59, rfl⟩
  | 41, x, h => by cases h; exact ⟨60, rfl⟩
  | 42, x, h => by cases h; exact ⟨61, rfl⟩
  | 43, x, h => by cases h; exact ⟨62, rfl⟩
  | 44, x, h => by cases h; exact ⟨63, rfl⟩
  | 45, x, h => by cases h; exact ⟨64, rfl⟩
  | 46, x, h => by cases h; exact ⟨66, rfl⟩
  | 47, x, h => by cases h; exact ⟨67, rfl⟩
  | k + 48, x, h => by simp [mW] at h
theorem mW_lit (cy : Nat → ClassId) (q : Nat → Nat) : mW cy q n1_ f1_ = (q 0, .inr (10, [.int (J 0), .int (J 0), .int (J 0), .ref (q 3), .ref (q 4), .ref (q 5), .ref (q 6), .ref (q 7), .ref (q 8), .ref (q 9), .int (J (-1)), .int (J 0), .int (J 0), .ref (q 13), .ref (q 14), .ref (q 15), .ref (q 16), .ref (q 17), .ref (q 18), .ref (q 19), .ref (q 20), .ref (q 21), .ref (q 22), .int (J 0), .int (J 0), .int (J 0), .int (J 0), .int (J 0), .ref (q 28), .int (J 0), .ref (q 30), .ref (q 31), .ref (q 32), .ref (q 33), .ref (q 34), .ref (q 35), .ref (q 36), .int (J 0), .int (J 0), .ref (q 39), .int (J 0), .int (J 0), .int (J 0), .int (J 0), .int (J (-1)), .ref (q 45), .ref (q 46), .ref (q 47), .int (J 0), .ref (q 49), .ref (q 50), .ref (q 51), .ref (q 52), .ref (q 53), .ref (q 54), .ref (q 55), .ref (q 56), .ref (q 57), .ref (q 58), .ref (q 59), .ref (q 60), .ref (q 61), .ref (q 62), .ref (q 63), .ref (q 64), .int (J 0), .ref (q 66), .ref (q 67)])) :: [(q 3, .inl (cy 0, 24, .inl (fun _ => J 0))), (q 4, .inl (cy 0, 24, .inl (fun _ => J 0))), (q 5, .inl (cy 0, 24, .inl (fun _ => J 0))), (q 6, .inl (cy 0, 24, .inl (fun _ => J 0))), (q 7, .inl (cy 1, 24, .inl (fun _ => J 0))), (q 8, .inl (cy 0, 24, .inl (fun _ => J 0))), (q 9, .inl (cy 1, 8, .inl (fun _ => J 0))), (q 13, .inl (cy 0, 24, .inl (fun _ => J 0))), (q 14, .inl (cy 1, 24, .inl (fun _ => J 0))), (q 15, .inl (cy 0, 24, .inl (fun _ => J 0))), (q 16, .inl (cy 0, 24, .inl (fun _ => J 0))), (q 17, .inl (cy 0, 24, .inl (fun _ => J 0))), (q 18, .inl (cy 0, 4800, .inl (fun _ => J 0))), (q 19, .inl (cy 0, 576, .inl (fun _ => J 0))), (q 20, .inl (cy 0, 576, .inl (fun _ => J 0))), (q 21, .inl (cy 0, 576, .inl (fun _ => J 0))), (q 22, .inl (cy 0, 400, .inl (fun _ => J 0))), (q 28, .inl (cy 0, 64, .inl (fun i : Nat => J (wgs_64 i)))), (q 30, .inl (cy 0, 12800, .inl (fun _ => J 0))), (q 31, .inl (cy 0, 32, .inl (fun _ => J 0))), (q 32, .inl (cy 0, 12800, .inl (fun _ => J 0))), (q 33, .inl (cy 0, 12800, .inl (fun _ => J 0))), (q 34, .inl (cy 0, 32, .inl (fun _ => J 0))), (q 35, .inl (cy 0, 32, .inl (fun _ => J 0))), (q 36, .inl (cy 0, 32, .inl (fun _ => J 0))), (q 39, .inl (cy 0, 40, .inl (fun _ => J 0))), (q 45, .inl (cy 0, 5, .inl (fun _ => J 0))), (q 46, .inl (cy 0, 24, .inl (fun _ => J 0))), (q 47, .inl (cy 0, 420, .inl (fun _ => J 0))), (q 49, .inl (cy 0, 100, .inl (fun _ => J 0))), (q 50, .inl (cy 0, 100, .inl (fun _ => J 0))), (q 51, .inl (cy 0, 100, .inl (fun _ => J 0))), (q 52, .inl (cy 0, 100, .inl (fun _ => J 0))), (q 53, .inl (cy 0, 100, .inl (fun _ => J 0))), (q 54, .inl (cy 1, 100, .inl (fun _ => J 0))), (q 55, .inl (cy 0, 2400, .inl (fun _ => J 0))), (q 56, .inl (cy 1, 24, .inl (fun _ => J 0))), (q 57, .inl (cy 0, 32, .inl (fun _ => J 0))), (q 58, .inl (cy 0, 32, .inl (fun _ => J 0))), (q 59, .inl (cy 0, 401, .inl (fun _ => J 0))), (q 60, .inl (cy 0, 401, .inl (fun _ => J 0))), (q 61, .inl (cy 0, 1024, .inl (fun _ => J 0))), (q 62, .inl (cy 1, 32, .inl (fun _ => J 0))), (q 63, .inl (cy 0, 32, .inl (fun _ => J 0))), (q 64, .inl (cy 0, 4, .inl (fun _ => J 0))), (q 66, .inl (cy 0, 6400, .inl (fun _ => J 0))), (q 67, .inl (cy 0, 24, .inl (fun _ => J 0)))] := rfl
theorem mW_key (cy : Nat → ClassId) (q : Nat → Nat) (o a7_ a15_ a23_ a31_ a39_ a47_ a55_ a68_ a76_ a84_ a92_ a100_ a109_ a118_ a127_ a136_ a145_ a153_ a540_ a548_ a557_ a566_ a574_ a582_ a590_ a598_ a610_ a618_ a627_ a635_ a643_ a651_ a659_ a667_ a675_ a684_ a692_ a700_ a708_ a717_ a726_ a735_ a743_ a751_ a758_ a767_ a775_ : Nat) (h0 : q 0 = o) (h3 : q 3 = a7_) (h4 : q 4 = a15_) (h5 : q 5 = a23_) (h6 : q 6 = a31_) (h7 : q 7 = a39_) (h8 : q 8 = a47_) (h9 : q 9 = a55_) (h13 : q 13 = a68_) (h14 : q 14 = a76_) (h15 : q 15 = a84_) (h16 : q 16 = a92_) (h17 : q 17 = a100_) (h18 : q 18 = a109_) (h19 : q 19 = a118_) (h20 : q 20 = a127_) (h21 : q 21 = a136_) (h22 : q 22 = a145_) (h28 : q 28 = a153_) (h30 : q 30 = a540_) (h31 : q 31 = a548_) (h32 : q 32 = a557_) (h33 : q 33 = a566_) (h34 : q 34 = a574_) (h35 : q 35 = a582_) (h36 : q 36 = a590_) (h39 : q 39 = a598_) (h45 : q 45 = a610_) (h46 : q 46 = a618_) (h47 : q 47 = a627_) (h49 : q 49 = a635_) (h50 : q 50 = a643_) (h51 : q 51 = a651_) (h52 : q 52 = a659_) (h53 : q 53 = a667_) (h54 : q 54 = a675_) (h55 : q 55 = a684_) (h56 : q 56 = a692_) (h57 : q 57 = a700_) (h58 : q 58 = a708_) (h59 : q 59 = a717_) (h60 : q 60 = a726_) (h61 : q 61 = a735_) (h62 : q 62 = a743_) (h63 : q 63 = a751_) (h64 : q 64 = a758_) (h66 : q 66 = a767_) (h67 : q 67 = a775_) : mW cy q n1_ f1_ = (o, .inr (10, [.int (J 0), .int (J 0), .int (J 0), .ref a7_, .ref a15_, .ref a23_, .ref a31_, .ref a39_, .ref a47_, .ref a55_, .int (J (-1)), .int (J 0), .int (J 0), .ref a68_, .ref a76_, .ref a84_, .ref a92_, .ref a100_, .ref a109_, .ref a118_, .ref a127_, .ref a136_, .ref a145_, .int (J 0), .int (J 0), .int (J 0), .int (J 0), .int (J 0), .ref a153_, .int (J 0), .ref a540_, .ref a548_, .ref a557_, .ref a566_, .ref a574_, .ref a582_, .ref a590_, .int (J 0), .int (J 0), .ref a598_, .int (J 0), .int (J 0), .int (J 0), .int (J 0), .int (J (-1)), .ref a610_, .ref a618_, .ref a627_, .int (J 0), .ref a635_, .ref a643_, .ref a651_, .ref a659_, .ref a667_, .ref a675_, .ref a684_, .ref a692_, .ref a700_, .ref a708_, .ref a717_, .ref a726_, .ref a735_, .ref a743_, .ref a751_, .ref a758_, .int (J 0), .ref a767_, .ref a775_])) :: [(a7_, .inl (cy 0, 24, .inl (fun _ => J 0))), (a15_, .inl (cy 0, 24, .inl (fun _ => J 0))), (a23_, .inl (cy 0, 24, .inl (fun _ => J 0))), (a31_, .inl (cy 0, 24, .inl (fun _ => J 0))), (a39_, .inl (cy 1, 24, .inl (fun _ => J 0))), (a47_, .inl (cy 0, 24, .inl (fun _ => J 0))), (a55_, .inl (cy 1, 8, .inl (fun _ => J 0))), (a68_, .inl (cy 0, 24, .inl (fun _ => J 0))), (a76_, .inl (cy 1, 24, .inl (fun _ => J 0))), (a84_, .inl (cy 0, 24, .inl (fun _ => J 0))), (a92_, .inl (cy 0, 24, .inl (fun _ => J 0))), (a100_, .inl (cy 0, 24, .inl (fun _ => J 0))), (a109_, .inl (cy 0, 4800, .inl (fun _ => J 0))), (a118_, .inl (cy 0, 576, .inl (fun _ => J 0))), (a127_, .inl (cy 0, 576, .inl (fun _ => J 0))), (a136_, .inl (cy 0, 576, .inl (fun _ => J 0))), (a145_, .inl (cy 0, 400, .inl (fun _ => J 0))), (a153_, .inl (cy 0, 64, .inl (fun i : Nat => J (wgs_64 i)))), (a540_, .inl (cy 0, 12800, .inl (fun _ => J 0))), (a548_, .inl (cy 0, 32, .inl (fun _ => J 0))), (a557_, .inl (cy 0, 12800, .inl (fun _ => J 0))), (a566_, .inl (cy 0, 12800, .inl (fun _ => J 0))), (a574_, .inl (cy 0, 32, .inl (fun _ => J 0))), (a582_, .inl (cy 0, 32, .inl (fun _ => J 0))), (a590_, .inl (cy 0, 32, .inl (fun _ => J 0))), (a598_, .inl (cy 0, 40, .inl (fun _ => J 0))), (a610_, .inl (cy 0, 5, .inl (fun _ => J 0))), (a618_, .inl (cy 0, 24, .inl (fun _ => J 0))), (a627_, .inl (cy 0, 420, .inl (fun _ => J 0))), (a635_, .inl (cy 0, 100, .inl (fun _ => J 0))), (a643_, .inl (cy 0, 100, .inl (fun _ => J 0))), (a651_, .inl (cy 0, 100, .inl (fun _ => J 0))), (a659_, .inl (cy 0, 100, .inl (fun _ => J 0))), (a667_, .inl (cy 0, 100, .inl (fun _ => J 0))), (a675_, .inl (cy 1, 100, .inl (fun _ => J 0))), (a684_, .inl (cy 0, 2400, .inl (fun _ => J 0))), (a692_, .inl (cy 1, 24, .inl (fun _ => J 0))), (a700_, .inl (cy 0, 32, .inl (fun _ => J 0))), (a708_, .inl (cy 0, 32, .inl (fun _ => J 0))), (a717_, .inl (cy 0, 401, .inl (fun _ => J 0))), (a726_, .inl (cy 0, 401, .inl (fun _ => J 0))), (a735_, .inl (cy 0, 1024, .inl (fun _ => J 0))), (a743_, .inl (cy 1, 32, .inl (fun _ => J 0))), (a751_, .inl (cy 0, 32, .inl (fun _ => J 0))), (a758_, .inl (cy 0, 4, .inl (fun _ => J 0))), (a767_, .inl (cy 0, 6400, .inl (fun _ => J 0))), (a775_, .inl (cy 0, 24, .inl (fun _ => J 0)))] := by
  rw [mW_lit, h0, h3, h4, h5, h6, h7, h8, h9, h13, h14, h15, h16, h17, h18, h19, h20, h21, h22, h28, h30, h31, h32, h33, h34, h35, h36, h39, h45, h46, h47, h49, h50, h51, h52, h53, h54, h55, h56, h57, h58, h59, h60, h61, h62, h63, h64, h66, h67]
set_option maxHeartbeats 40000000 in
set_option maxRecDepth 100000 in
theorem c_X10_init (l : Launch) (D : va_G) (cy : Nat → ClassId) (o sz : Nat) : Ct l D cy yX10_init cX10_init 1 none 1 47 57687 [.ref o] (fun H => H.size = sz ∧ va_P D vwCl [(o, .inr (10, mF0_))] H) (fun x => x = o) (fun r H => r = none ∧ ∃ q : Nat → Nat, q 0 = o ∧ mI D cy q n1_ f1_ H ∧ ∀ x, mA q x → (x = o ∨ sz ≤ x) ∧ x < H.size) := by
  refine Ct.of (by decide) (Nat.le_of_ble_eq_true rfl) ?_
  intro p e s m below meth c ls E hK hA hS hP hl hin
  have E : CX p s m [Value.ref o].toArray meth c RX10 cX10_init 1 none := E
  have hl : lv_has ls 1 [(0, .ref o)] := hl
  obtain ⟨hsz, hP⟩ := hP
  have hD : va_D (AA (fun x => x = o) s.heap.size) [(o, .inr (10, mF0_))] := ⟨fun i j x y hx hy _ => by
    have h1 : i < 1 := (List.getElem?_eq_some_iff.mp hx).1
    have h2 : j < 1 := (List.getElem?_eq_some_iff.mp hy).1
    omega, fun k x hx => by
    have h1 : k < 1 := (List.getElem?_eq_some_iff.mp hx).1
    rw [show k = 0 by omega] at hx
    cases hx
    exact Or.inl rfl⟩
  have hw : KS D o mF0_ [] (AA (fun x => x = o) s.heap.size) s.heap s.heap [] := ⟨hP, hD, hS, rfl⟩
  refine j_aload_n E 1 rfl dX10_init_0 rfl (lv_at hl 0 rfl) ?_
  refine W.objInit E.1 E.2.1 E.2.2.2.1 (E.2.2.2.2.1 _ ml_oi) (E.2.2.2.2.1 _ im_oi) (E.2.2.2.2.1 _ cd_oi) rfl (by rw [E.2.2.1]; exact hl.1) rfl dX10_init_1 (Nat.le_of_ble_eq_true rfl) (Nat.le_of_ble_eq_true rfl) ?_
  refine W.eq (g2 := F0 m 4 ls []) rfl ?_
  refine j_aload_n E 5 rfl dX10_init_4 rfl (lv_at hl 0 rfl) ?_
  refine j_bipush E 7 rfl dX10_init_5 (by decide) ?_
  refine k_newI E hK hw hA 24 (by decide) (by decide) (Nat.le_of_ble_eq_true rfl) (Nat.le_of_ble_eq_true rfl) rfl 9 rfl dX10_init_7 (fun a7_ H hw => ?_)
  refine k_putF E hin hK hw 3 7 (by decide) tyX10_k3 (by decide +kernel) lk_X10_3 rfl rfl 12 rfl dX10_init_9 (fun H locs hw => ?_)
  refine j_aload_n E 13 rfl dX10_init_12 rfl (lv_at hl 0 rfl) ?_
  refine j_bipush E 15 rfl dX10_init_13 (by decide) ?_
  refine k_newI E hK hw hA 24 (by decide) (by decide) (Nat.le_of_ble_eq_true rfl) (Nat.le_of_ble_eq_true rfl) rfl 17 rfl dX10_init_15 (fun a15_ H hw => ?_)
  refine k_putF E hin hK hw 4 13 (by decide) tyX10_k4 (by decide +kernel) lk_X10_4 rfl rfl 20 rfl dX10_init_17 (fun H locs hw => ?_)
  refine j_aload_n E 21 rfl dX10_init_20 rfl (lv_at hl 0 rfl) ?_
  refine j_bipush E 23 rfl dX10_init_21 (by decide) ?_
  refine k_newI E hK hw hA 24 (by decide) (by decide) (Nat.le_of_ble_eq_true rfl) (Nat.le_of_ble_eq_true rfl) rfl 25 rfl dX10_init_23 (fun a23_ H hw => ?_)
  refine k_putF E hin hK hw 5 16 (by decide) tyX10_k5 (by decide +kernel) lk_X10_5 rfl rfl 28 rfl dX10_init_25 (fun H locs hw => ?_)
  refine j_aload_n E 29 rfl dX10_init_28 rfl (lv_at hl 0 rfl) ?_
  refine j_bipush E 31 rfl dX10_init_29 (by decide) ?_
  refine k_newI E hK hw hA 24 (by decide) (by decide) (Nat.le_of_ble_eq_true rfl) (Nat.le_of_ble_eq_true rfl) rfl 33 rfl dX10_init_31 (fun a31_ H hw => ?_)
  refine k_putF E hin hK hw 6 19 (by decide) tyX10_k6 (by decide +kernel) lk_X10_6 rfl rfl 36 rfl dX10_init_33 (fun H locs hw => ?_)
  refine j_aload_n E 37 rfl dX10_init_36 rfl (lv_at hl 0 rfl) ?_
  refine j_bipush E 39 rfl dX10_init_37 (by decide) ?_
  refine k_newZ E hK hw hA 24 (by decide) (by decide) (Nat.le_of_ble_eq_true rfl) (Nat.le_of_ble_eq_true rfl) rfl 41 rfl dX10_init_39 (fun a39_ H hw => ?_)
  refine k_putF E hin hK hw 7 22 (by decide) tyX10_k7 (by decide +kernel) lk_X10_7 rfl rfl 44 rfl dX10_init_41 (fun H locs hw => ?_)
  refine j_aload_n E 45 rfl dX10_init_44 rfl (lv_at hl 0 rfl) ?_
  refine j_bipush E 47 rfl dX10_init_45 (by decide) ?_
  refine k_newI E hK hw hA 24 (by decide) (by decide) (Nat.le_of_ble_eq_true rfl) (Nat.le_of_ble_eq_true rfl) rfl 49 rfl dX10_init_47 (fun a47_ H hw => ?_)
  refine k_putF E hin hK hw 8 26 (by decide) tyX10_k8 (by decide +kernel) lk_X10_8 rfl rfl 52 rfl dX10_init_49 (fun H locs hw => ?_)
  refine j_aload_n E 53 rfl dX10_init_52 rfl (lv_at hl 0 rfl) ?_
  refine j_bipush E 55 rfl dX10_init_53 (by decide) ?_
  refine k_newZ E hK hw hA 8 (by decide) (by decide) (Nat.le_of_ble_eq_true rfl) (Nat.le_of_ble_eq_true rfl) rfl 57 rfl dX10_init_55 (fun a55_ H hw => ?_)
  refine k_putF E hin hK hw 9 29 (by decide) tyX10_k9 (by decide +kernel) lk_X10_9 rfl rfl 60 rfl dX10_init_57 (fun H locs hw => ?_)
  refine j_aload_n E 61 rfl dX10_init_60 rfl (lv_at hl 0 rfl) ?_
  refine j_iconst E 62 rfl dX10_init_61 ?_
  refine k_putI E hK hw 10 32 (by decide) (by decide +kernel) (by decide +kernel) lk_X10_10 65 rfl dX10_init_62 (fun H locs hw => ?_)
  have hw : KS D o [.int (J 0), .int (J 0), .int (J 0), .ref a7_, .ref a15_, .ref a23_, .ref a31_, .ref a39_, .ref a47_, .ref a55_, .int (J (-1)), .int (J 0), .int (J 0), .null, .null, .null, .null, .null, .null, .null, .null, .null, .null, .int (J 0), .int (J 0), .int (J 0), .int (J 0), .int (J 0), .null, .int (J 0), .null, .null, .null, .null, .null, .null, .null, .int (J 0), .int (J 0), .null, .int (J 0), .int (J 0), .int (J 0), .int (J 0), .int (J 0), .null, .null, .null, .int (J 0), .null, .null, .null, .null, .null, .null, .null, .null, .null, .null, .null, .null, .null, .null, .null, .null, .int (J 0), .null, .null] [(a7_, .inl (cy 0, 24, .inl (fun _ => J 0))), (a15_, .inl (cy 0, 24, .inl (fun _ => J 0))), (a23_, .inl (cy 0, 24, .inl (fun _ => J 0))), (a31_, .inl (cy 0, 24, .inl (fun _ => J 0))), (a39_, .inl (cy 1, 24, .inl (fun _ => J 0))), (a47_, .inl (cy 0, 24, .inl (fun _ => J 0))), (a55_, .inl (cy 1, 8, .inl (fun _ => J 0)))] _ _ _ _ := hw
  refine j_aload_n E 66 rfl dX10_init_65 rfl (lv_at hl 0 rfl) ?_
  refine j_bipush E 68 rfl dX10_init_66 (by decide) ?_
  refine k_newI E hK hw hA 24 (by decide) (by decide) (Nat.le_of_ble_eq_true rfl) (Nat.le_of_ble_eq_true rfl) rfl 70 rfl dX10_init_68 (fun a68_ H hw => ?_)
  refine k_putF E hin hK hw 13 36 (by decide) tyX10_k13 (by decide +kernel) lk_X10_13 rfl rfl 73 rfl dX10_init_70 (fun H locs hw => ?_)
  refine j_aload_n E 74 rfl dX10_init_73 rfl (lv_at hl 0 rfl) ?_
  refine j_bipush E 76 rfl dX10_init_74 (by decide) ?_
  refine k_newZ E hK hw hA 24 (by decide) (by decide) (Nat.le_of_ble_eq_true rfl) (Nat.le_of_ble_eq_true rfl) rfl 78 rfl dX10_init_76 (fun a76_ H hw => ?_)
  refine k_putF E hin hK hw 14 39 (by decide) tyX10_k14 (by decide +kernel) lk_X10_14 rfl rfl 81 rfl dX10_init_78 (fun H locs hw => ?_)
  refine j_aload_n E 82 rfl dX10_init_81 rfl (lv_at hl 0 rfl) ?_
  refine j_bipush E 84 rfl dX10_init_82 (by decide) ?_
  refine k_newI E hK hw hA 24 (by decide) (by decide) (Nat.le_of_ble_eq_true rfl) (Nat.le_of_ble_eq_true rfl) rfl 86 rfl dX10_init_84 (fun a84_ H hw => ?_)
  refine k_putF E hin hK hw 15 42 (by decide) tyX10_k15 (by decide +kernel) lk_X10_15 rfl rfl 89 rfl dX10_init_86 (fun H locs hw => ?_)
  refine j_aload_n E 90 rfl dX10_init_89 rfl (lv_at hl 0 rfl) ?_
  refine j_bipush E 92 rfl dX10_init_90 (by decide) ?_
  refine k_newI E hK hw hA 24 (by decide) (by decide) (Nat.le_of_ble_eq_true rfl) (Nat.le_of_ble_eq_true rfl) rfl 94 rfl dX10_init_92 (fun a92_ H hw => ?_)
  refine k_putF E hin hK hw 16 45 (by decide) tyX10_k16 (by decide +kernel) lk_X10_16 rfl rfl 97 rfl dX10_init_94 (fun H locs hw => ?_)
  refine j_aload_n E 98 rfl dX10_init_97 rfl (lv_at hl 0 rfl) ?_
  refine j_bipush E 100 rfl dX10_init_98 (by decide) ?_
  refine k_newI E hK hw hA 24 (by decide) (by decide) (Nat.le_of_ble_eq_true rfl) (Nat.le_of_ble_eq_true rfl) rfl 102 rfl dX10_init_100 (fun a100_ H hw => ?_)
  refine k_putF E hin hK hw 17 48 (by decide) tyX10_k17 (by decide +kernel) lk_X10_17 rfl rfl 105 rfl dX10_init_102 (fun H locs hw => ?_)
  refine j_aload_n E 106 rfl dX10_init_105 rfl (lv_at hl 0 rfl) ?_
  refine j_sipush E 109 rfl dX10_init_106 (by decide) ?_
  refine k_newI E hK hw hA 4800 (by decide) (by decide) (Nat.le_of_ble_eq_true rfl) (Nat.le_of_ble_eq_true rfl) rfl 111 rfl dX10_init_109 (fun a109_ H hw => ?_)
  refine k_putF E hin hK hw 18 51 (by decide) tyX10_k18 (by decide +kernel) lk_X10_18 rfl rfl 114 rfl dX10_init_111 (fun H locs hw => ?_)
  refine j_aload_n E 115 rfl dX10_init_114 rfl (lv_at hl 0 rfl) ?_
  refine j_sipush E 118 rfl dX10_init_115 (by decide) ?_
  refine k_newI E hK hw hA 576 (by decide) (by decide) (Nat.le_of_ble_eq_true rfl) (Nat.le_of_ble_eq_true rfl) rfl 120 rfl dX10_init_118 (fun a118_ H hw => ?_)
  refine k_putF E hin hK hw 19 54 (by decide) tyX10_k19 (by decide +kernel) lk_X10_19 rfl rfl 123 rfl dX10_init_120 (fun H locs hw => ?_)
  refine j_aload_n E 124 rfl dX10_init_123 rfl (lv_at hl 0 rfl) ?_
  refine j_sipush E 127 rfl dX10_init_124 (by decide) ?_
  refine k_newI E hK hw hA 576 (by decide) (by decide) (Nat.le_of_ble_eq_true rfl) (Nat.le_of_ble_eq_true rfl) rfl 129 rfl dX10_init_127 (fun a127_ H hw => ?_)
  refine k_putF E hin hK hw 20 57 (by decide) tyX10_k20 (by decide +kernel) lk_X10_20 rfl rfl 132 rfl dX10_init_129 (fun H locs hw => ?_)
  have hw : KS D o [.int (J 0), .int (J 0), .int (J 0), .ref a7_, .ref a15_, .ref a23_, .ref a31_, .ref a39_, .ref a47_, .ref a55_, .int (J (-1)), .int (J 0), .int (J 0), .ref a68_, .ref a76_, .ref a84_, .ref a92_, .ref a100_, .ref a109_, .ref a118_, .ref a127_, .null, .null, .int (J 0), .int (J 0), .int (J 0), .int (J 0), .int (J 0), .null, .int (J 0), .null, .null, .null, .null, .null, .null, .null, .int (J 0), .int (J 0), .null, .int (J 0), .int (J 0), .int (J 0), .int (J 0), .int (J 0), .null, .null, .null, .int (J 0), .null, .null, .null, .null, .null, .null, .null, .null, .null, .null, .null, .null, .null, .null, .null, .null, .int (J 0), .null, .null] [(a7_, .inl (cy 0, 24, .inl (fun _ => J 0))), (a15_, .inl (cy 0, 24, .inl (fun _ => J 0))), (a23_, .inl (cy 0, 24, .inl (fun _ => J 0))), (a31_, .inl (cy 0, 24, .inl (fun _ => J 0))), (a39_, .inl (cy 1, 24, .inl (fun _ => J 0))), (a47_, .inl (cy 0, 24, .inl (fun _ => J 0))), (a55_, .inl (cy 1, 8, .inl (fun _ => J 0))), (a68_, .inl (cy 0, 24, .inl (fun _ => J 0))), (a76_, .inl (cy 1, 24, .inl (fun _ => J 0))), (a84_, .inl (cy 0, 24, .inl (fun _ => J 0))), (a92_, .inl (cy 0, 24, .inl (fun _ => J 0))), (a100_, .inl (cy 0, 24, .inl (fun _ => J 0))), (a109_, .inl (cy 0, 4800, .inl (fun _ => J 0))), (a118_, .inl (cy 0, 576, .inl (fun _ => J 0))), (a127_, .inl (cy 0, 576, .inl (fun _ => J 0)))] _ _ _ _ := hw
  refine j_aload_n E 133 rfl dX10_init_132 rfl (lv_at hl 0 rfl) ?_
  refine j_sipush E 136 rfl dX10_init_133 (by decide) ?_
  refine k_newI E hK hw hA 576 (by decide) (by decide) (Nat.le_of_ble_eq_true rfl) (Nat.le_of_ble_eq_true rfl) rfl 138 rfl dX10_init_136 (fun a136_ H hw => ?_)
  refine k_putF E hin hK hw 21 60 (by decide) tyX10_k21 (by decide +kernel) lk_X10_21 rfl rfl 141 rfl dX10_init_138 (fun H locs hw => ?_)
  refine j_aload_n E 142 rfl dX10_init_141 rfl (lv_at hl 0 rfl) ?_
  refine j_sipush E 145 rfl dX10_init_142 (by decide) ?_
  refine k_newI E hK hw hA 400 (by decide) (by decide) (Nat.le_of_ble_eq_true rfl) (Nat.le_of_ble_eq_true rfl) rfl 147 rfl dX10_init_145 (fun a145_ H hw => ?_)
  refine k_putF E hin hK hw 22 63 (by decide) tyX10_k22 (by decide +kernel) lk_X10_22 rfl rfl 150 rfl dX10_init_147 (fun H locs hw => ?_)
  refine j_aload_n E 151 rfl dX10_init_150 rfl (lv_at hl 0 rfl) ?_
  refine j_bipush E 153 rfl dX10_init_151 (by decide) ?_
  refine k_newI E hK hw hA 64 (by decide) (by decide) (Nat.le_of_ble_eq_true rfl) (Nat.le_of_ble_eq_true rfl) rfl 155 rfl dX10_init_153 (fun a153_ H hw => ?_)
  have hw : KS D o [.int (J 0), .int (J 0), .int (J 0), .ref a7_, .ref a15_, .ref a23_, .ref a31_, .ref a39_, .ref a47_, .ref a55_, .int (J (-1)), .int (J 0), .int (J 0), .ref a68_, .ref a76_, .ref a84_, .ref a92_, .ref a100_, .ref a109_, .ref a118_, .ref a127_, .ref a136_, .ref a145_, .int (J 0), .int (J 0), .int (J 0), .int (J 0), .int (J 0), .null, .int (J 0), .null, .null, .null, .null, .null, .null, .null, .int (J 0), .int (J 0), .null, .int (J 0), .int (J 0), .int (J 0), .int (J 0), .int (J 0), .null, .null, .null, .int (J 0), .null, .null, .null, .null, .null, .null, .null, .null, .null, .null, .null, .null, .null, .null, .null, .null, .int (J 0), .null, .null] ([(a7_, .inl (cy 0, 24, .inl (fun _ => J 0))), (a15_, .inl (cy 0, 24, .inl (fun _ => J 0))), (a23_, .inl (cy 0, 24, .inl (fun _ => J 0))), (a31_, .inl (cy 0, 24, .inl (fun _ => J 0))), (a39_, .inl (cy 1, 24, .inl (fun _ => J 0))), (a47_, .inl (cy 0, 24, .inl (fun _ => J 0))), (a55_, .inl (cy 1, 8, .inl (fun _ => J 0))), (a68_, .inl (cy 0, 24, .inl (fun _ => J 0))), (a76_, .inl (cy 1, 24, .inl (fun _ => J 0))), (a84_, .inl (cy 0, 24, .inl (fun _ => J 0))), (a92_, .inl (cy 0, 24, .inl (fun _ => J 0))), (a100_, .inl (cy 0, 24, .inl (fun _ => J 0))), (a109_, .inl (cy 0, 4800, .inl (fun _ => J 0))), (a118_, .inl (cy 0, 576, .inl (fun _ => J 0))), (a127_, .inl (cy 0, 576, .inl (fun _ => J 0))), (a136_, .inl (cy 0, 576, .inl (fun _ => J 0))), (a145_, .inl (cy 0, 400, .inl (fun _ => J 0)))] ++ [(a153_, .inl (cy 0, 64, .inl (fun i : Nat => J (wgs_0 i))))]) _ _ _ _ := hw
  refine j_dup E 156 rfl dX10_init_155 rfl ?_
  refine j_iconst E 157 rfl dX10_init_156 ?_
  refine j_bipush E 159 rfl dX10_init_157 (by decide) ?_
  refine k_wst (g := wgs_0) E hK hw (by decide) (by decide) 160 rfl dX10_init_159 (fun H locs hw => ?_)
  refine j_dup E 161 rfl dX10_init_160 rfl ?_
  refine j_iconst E 162 rfl dX10_init_161 ?_
  refine j_bipush E 164 rfl dX10_init_162 (by decide) ?_
  refine k_wst (g := wgs_1) E hK hw (by decide) (by decide) 165 rfl dX10_init_164 (fun H locs hw => ?_)
  refine j_dup E 166 rfl dX10_init_165 rfl ?_
  refine j_iconst E 167 rfl dX10_init_166 ?_
  refine j_bipush E 169 rfl dX10_init_167 (by decide) ?_
  refine k_wst (g := wgs_2) E hK hw (by decide) (by decide) 170 rfl dX10_init_169 (fun H locs hw => ?_)
  refine j_dup E 171 rfl dX10_init_170 rfl ?_
  refine j_iconst E 172 rfl dX10_init_171 ?_
  refine j_bipush E 174 rfl dX10_init_172 (by decide) ?_
  refine k_wst (g := wgs_3) E hK hw (by decide) (by decide) 175 rfl dX10_init_174 (fun H locs hw => ?_)
  refine j_dup E 176 rfl dX10_init_175 rfl ?_
  refine j_iconst E 177 rfl dX10_init_176 ?_
  refine j_bipush E 179 rfl dX10_init_177 (by decide) ?_
  refine k_wst (g := wgs_4) E hK hw (by decide) (by decide) 180 rfl dX10_init_179 (fun H locs hw => ?_)
  refine j_dup E 181 rfl dX10_init_180 rfl ?_
  refine j_iconst E 182 rfl dX10_init_181 ?_
  refine j_bipush E 184 rfl dX10_init_182 (by decide) ?_
  refine k_wst (g := wgs_5) E hK hw (by decide) (by decide) 185 rfl dX10_init_184 (fun H locs hw => ?_)
  refine j_dup E 186 rfl dX10_init_185 rfl ?_
  refine j_bipush E 188 rfl dX10_init_186 (by decide) ?_
  refine j_bipush E 190 rfl dX10_init_188 (by decide) ?_
  refine k_wst (g := wgs_6) E hK hw (by decide) (by decide) 191 rfl dX10_init_190 (fun H locs hw => ?_)
  refine j_dup E 192 rfl dX10_init_191 rfl ?_
  refine j_bipush E 194 rfl dX10_init_192 (by decide) ?_
  refine j_bipush E 196 rfl dX10_init_194 (by decide) ?_
  refine k_wst (g := wgs_7) E hK hw (by decide) (by decide) 197 rfl dX10_init_196 (fun H locs hw => ?_)
  refine j_dup E 198 rfl dX10_init_197 rfl ?_
  refine j_bipush E 200 rfl dX10_init_198 (by decide) ?_
  refine j_bipush E 202 rfl dX10_init_200 (by decide) ?_
  refine k_wst (g := wgs_8) E hK hw (by decide) (by decide) 203 rfl dX10_init_202 (fun H locs hw => ?_)
  refine j_dup E 204 rfl dX10_init_203 rfl ?_
  refine j_bipush E 206 rfl dX10_init_204 (by decide) ?_
  refine j_bipush E 208 rfl dX10_init_206 (by decide) ?_
  refine k_wst (g := wgs_9) E hK hw (by decide) (by decide) 209 rfl dX10_init_208 (fun H locs hw => ?_)
  refine j_dup E 210 rfl dX10_init_209 rfl ?_
  refine j_bipush E 212 rfl dX10_init_210 (by decide) ?_
  refine j_bipush E 214 rfl dX10_init_212 (by decide) ?_
  refine k_wst (g := wgs_10) E hK hw (by decide) (by decide) 215 rfl dX10_init_214 (fun H locs hw => ?_)
  refine j_dup E 216 rfl dX10_init_215 rfl ?_
  refine j_bipush E 218 rfl dX10_init_216 (by decide) ?_
  refine j_bipush E 220 rfl dX10_init_218 (by decide) ?_
  refine k_wst (g := wgs_11) E hK hw (by decide) (by decide) 221 rfl dX10_init_220 (fun H locs hw => ?_)
  refine j_dup E 222 rfl dX10_init_221 rfl ?_
  refine j_bipush E 224 rfl dX10_init_222 (by decide) ?_
  refine j_bipush E 226 rfl dX10_init_224 (by decide) ?_
  refine k_wst (g := wgs_12) E hK hw (by decide) (by decide) 227 rfl dX10_init_226 (fun H locs hw => ?_)
  refine j_dup E 228 rfl dX10_init_227 rfl ?_
  refine j_bipush E 230 rfl dX10_init_228 (by decide) ?_
  refine j_bipush E 232 rfl dX10_init_230 (by decide) ?_
  refine k_wst (g := wgs_13) E hK hw (by decide) (by decide) 233 rfl dX10_init_232 (fun H locs hw => ?_)
  refine j_dup E 234 rfl dX10_init_233 rfl ?_
  refine j_bipush E 236 rfl dX10_init_234 (by decide) ?_
  refine j_bipush E 238 rfl dX10_init_236 (by decide) ?_
  refine k_wst (g := wgs_14) E hK hw (by decide) (by decide) 239 rfl dX10_init_238 (fun H locs hw => ?_)
  refine j_dup E 240 rfl dX10_init_239 rfl ?_
  refine j_bipush E 242 rfl dX10_init_240 (by decide) ?_
  refine j_bipush E 244 rfl dX10_init_242 (by decide) ?_
  refine k_wst (g := wgs_15) E hK hw (by decide) (by decide) 245 rfl dX10_init_244 (fun H locs hw => ?_)
  refine j_dup E 246 rfl dX10_init_245 rfl ?_
  refine j_bipush E 248 rfl dX10_init_246 (by decide) ?_
  refine j_bipush E 250 rfl dX10_init_248 (by decide) ?_
  refine k_wst (g := wgs_16) E hK hw (by decide) (by decide) 251 rfl dX10_init_250 (fun H locs hw => ?_)
  refine j_dup E 252 rfl dX10_init_251 rfl ?_
  refine j_bipush E 254 rfl dX10_init_252 (by decide) ?_
  refine j_bipush E 256 rfl dX10_init_254 (by decide) ?_
  refine k_wst (g := wgs_17) E hK hw (by decide) (by decide) 257 rfl dX10_init_256 (fun H locs hw => ?_)
  refine j_dup E 258 rfl dX10_init_257 rfl ?_
  refine j_bipush E 260 rfl dX10_init_258 (by decide) ?_
  refine j_bipush E 262 rfl dX10_init_260 (by decide) ?_
  refine k_wst (g := wgs_18) E hK hw (by decide) (by decide) 263 rfl dX10_init_262 (fun H locs hw => ?_)
  refine j_dup E 264 rfl dX10_init_263 rfl ?_
  refine j_bipush E 266 rfl dX10_init_264 (by decide) ?_
  refine j_bipush E 268 rfl dX10_init_266 (by decide) ?_
  refine k_wst (g := wgs_19) E hK hw (by decide) (by decide) 269 rfl dX10_init_268 (fun H locs hw => ?_)
  refine j_dup E 270 rfl dX10_init_269 rfl ?_
  refine j_bipush E 272 rfl dX10_init_270 (by decide) ?_
  refine j_bipush E 274 rfl dX10_init_272 (by decide) ?_
  refine k_wst (g := wgs_20) E hK hw (by decide) (by decide) 275 rfl dX10_init_274 (fun H locs hw => ?_)
  refine j_dup E 276 rfl dX10_init_275 rfl ?_
  refine j_bipush E 278 rfl dX10_init_276 (by decide) ?_
  refine j_bipush E 280 rfl dX10_init_278 (by decide) ?_
  refine k_wst (g := wgs_21) E hK hw (by decide) (by decide) 281 rfl dX10_init_280 (fun H locs hw => ?_)
  refine j_dup E 282 rfl dX10_init_281 rfl ?_
  refine j_bipush E 284 rfl dX10_init_282 (by decide) ?_
  refine j_bipush E 286 rfl dX10_init_284 (by decide) ?_
  refine k_wst (g := wgs_22) E hK hw (by decide) (by decide) 287 rfl dX10_init_286 (fun H locs hw => ?_)
  refine j_dup E 288 rfl dX10_init_287 rfl ?_
  refine j_bipush E 290 rfl dX10_init_288 (by decide) ?_
  refine j_bipush E 292 rfl dX10_init_290 (by decide) ?_
  refine k_wst (g := wgs_23) E hK hw (by decide) (by decide) 293 rfl dX10_init_292 (fun H locs hw => ?_)
  refine j_dup E 294 rfl dX10_init_293 rfl ?_
  refine j_bipush E 296 rfl dX10_init_294 (by decide) ?_
  refine j_bipush E 298 rfl dX10_init_296 (by decide) ?_
  refine k_wst (g := wgs_24) E hK hw (by decide) (by decide) 299 rfl dX10_init_298 (fun H locs hw => ?_)
  refine j_dup E 300 rfl dX10_init_299 rfl ?_
  refine j_bipush E 302 rfl dX10_init_300 (by decide) ?_
  refine j_bipush E 304 rfl dX10_init_302 (by decide) ?_
  refine k_wst (g := wgs_25) E hK hw (by decide) (by decide) 305 rfl dX10_init_304 (fun H locs hw => ?_)
  refine j_dup E 306 rfl dX10_init_305 rfl ?_
  refine j_bipush E 308 rfl dX10_init_306 (by decide) ?_
  refine j_bipush E 310 rfl dX10_init_308 (by decide) ?_
  refine k_wst (g := wgs_26) E hK hw (by decide) (by decide) 311 rfl dX10_init_310 (fun H locs hw => ?_)
  refine j_dup E 312 rfl dX10_init_311 rfl ?_
  refine j_bipush E 314 rfl dX10_init_312 (by decide) ?_
  refine j_bipush E 316 rfl dX10_init_314 (by decide) ?_
  refine k_wst (g := wgs_27) E hK hw (by decide) (by decide) 317 rfl dX10_init_316 (fun H locs hw => ?_)
  refine j_dup E 318 rfl dX10_init_317 rfl ?_
  refine j_bipush E 320 rfl dX10_init_318 (by decide) ?_
  refine j_bipush E 322 rfl dX10_init_320 (by decide) ?_
  refine k_wst (g := wgs_28) E hK hw (by decide) (by decide) 323 rfl dX10_init_322 (fun H locs hw => ?_)
  refine j_dup E 324 rfl dX10_init_323 rfl ?_
  refine j_bipush E 326 rfl dX10_init_324 (by decide) ?_
  refine j_bipush E 328 rfl dX10_init_326 (by decide) ?_
  refine k_wst (g := wgs_29) E hK hw (by decide) (by decide) 329 rfl dX10_init_328 (fun H locs hw => ?_)
  refine j_dup E 330 rfl dX10_init_329 rfl ?_
  refine j_bipush E 332 rfl dX10_init_330 (by decide) ?_
  refine j_bipush E 334 rfl dX10_init_332 (by decide) ?_
  refine k_wst (g := wgs_30) E hK hw (by decide) (by decide) 335 rfl dX10_init_334 (fun H locs hw => ?_)
  refine j_dup E 336 rfl dX10_init_335 rfl ?_
  refine j_bipush E 338 rfl dX10_init_336 (by decide) ?_
  refine j_bipush E 340 rfl dX10_init_338 (by decide) ?_
  refine k_wst (g := wgs_31) E hK hw (by decide) (by decide) 341 rfl dX10_init_340 (fun H locs hw => ?_)
  refine j_dup E 342 rfl dX10_init_341 rfl ?_
  refine j_bipush E 344 rfl dX10_init_342 (by decide) ?_
  refine j_bipush E 346 rfl dX10_init_344 (by decide) ?_
  refine k_wst (g := wgs_32) E hK hw (by decide) (by decide) 347 rfl dX10_init_346 (fun H locs hw => ?_)
  refine j_dup E 348 rfl dX10_init_347 rfl ?_
  refine j_bipush E 350 rfl dX10_init_348 (by decide) ?_
  refine j_bipush E 352 rfl dX10_init_350 (by decide) ?_
  refine k_wst (g := wgs_33) E hK hw (by decide) (by decide) 353 rfl dX10_init_352 (fun H locs hw => ?_)
  refine j_dup E 354 rfl dX10_init_353 rfl ?_
  refine j_bipush E 356 rfl dX10_init_354 (by decide) ?_
  refine j_bipush E 358 rfl dX10_init_356 (by decide) ?_
  refine k_wst (g := wgs_34) E hK hw (by decide) (by decide) 359 rfl dX10_init_358 (fun H locs hw => ?_)
  refine j_dup E 360 rfl dX10_init_359 rfl ?_
  refine j_bipush E 362 rfl dX10_init_360 (by decide) ?_
  refine j_bipush E 364 rfl dX10_init_362 (by decide) ?_
  refine k_wst (g := wgs_35) E hK hw (by decide) (by decide) 365 rfl dX10_init_364 (fun H locs hw => ?_)
  refine j_dup E 366 rfl dX10_init_365 rfl ?_
  refine j_bipush E 368 rfl dX10_init_366 (by decide) ?_
  refine j_bipush E 370 rfl dX10_init_368 (by decide) ?_
  refine k_wst (g := wgs_36) E hK hw (by decide) (by decide) 371 rfl dX10_init_370 (fun H locs hw => ?_)
  refine j_dup E 372 rfl dX10_init_371 rfl ?_
  refine j_bipush E 374 rfl dX10_init_372 (by decide) ?_
  refine j_bipush E 376 rfl dX10_init_374 (by decide) ?_
  refine k_wst (g := wgs_37) E hK hw (by decide) (by decide) 377 rfl dX10_init_376 (fun H locs hw => ?_)
  refine j_dup E 378 rfl dX10_init_377 rfl ?_
  refine j_bipush E 380 rfl dX10_init_378 (by decide) ?_
  refine j_bipush E 382 rfl dX10_init_380 (by decide) ?_
  refine k_wst (g := wgs_38) E hK hw (by decide) (by decide) 383 rfl dX10_init_382 (fun H locs hw => ?_)
  refine j_dup E 384 rfl dX10_init_383 rfl ?_
  refine j_bipush E 386 rfl dX10_init_384 (by decide) ?_
  refine j_bipush E 388 rfl dX10_init_386 (by decide) ?_
  refine k_wst (g := wgs_39) E hK hw (by decide) (by decide) 389 rfl dX10_init_388 (fun H locs hw => ?_)
  refine j_dup E 390 rfl dX10_init_389 rfl ?_
  refine j_bipush E 392 rfl dX10_init_390 (by decide) ?_
  refine j_bipush E 394 rfl dX10_init_392 (by decide) ?_
  refine k_wst (g := wgs_40) E hK hw (by decide) (by decide) 395 rfl dX10_init_394 (fun H locs hw => ?_)
  refine j_dup E 396 rfl dX10_init_395 rfl ?_
  refine j_bipush E 398 rfl dX10_init_396 (by decide) ?_
  refine j_bipush E 400 rfl dX10_init_398 (by decide) ?_
  refine k_wst (g := wgs_41) E hK hw (by decide) (by decide) 401 rfl dX10_init_400 (fun H locs hw => ?_)
  refine j_dup E 402 rfl dX10_init_401 rfl ?_
  refine j_bipush E 404 rfl dX10_init_402 (by decide) ?_
  refine j_bipush E 406 rfl dX10_init_404 (by decide) ?_
  refine k_wst (g := wgs_42) E hK hw (by decide) (by decide) 407 rfl dX10_init_406 (fun H locs hw => ?_)
  refine j_dup E 408 rfl dX10_init_407 rfl ?_
  refine j_bipush E 410 rfl dX10_init_408 (by decide) ?_
  refine j_bipush E 412 rfl dX10_init_410 (by decide) ?_
  refine k_wst (g := wgs_43) E hK hw (by decide) (by decide) 413 rfl dX10_init_412 (fun H locs hw => ?_)
  refine j_dup E 414 rfl dX10_init_413 rfl ?_
  refine j_bipush E 416 rfl dX10_init_414 (by decide) ?_
  refine j_bipush E 418 rfl dX10_init_416 (by decide) ?_
  refine k_wst (g := wgs_44) E hK hw (by decide) (by decide) 419 rfl dX10_init_418 (fun H locs hw => ?_)
  refine j_dup E 420 rfl dX10_init_419 rfl ?_
  refine j_bipush E 422 rfl dX10_init_420 (by decide) ?_
  refine j_bipush E 424 rfl dX10_init_422 (by decide) ?_
  refine k_wst (g := wgs_45) E hK hw (by decide) (by decide) 425 rfl dX10_init_424 (fun H locs hw => ?_)
  refine j_dup E 426 rfl dX10_init_425 rfl ?_
  refine j_bipush E 428 rfl dX10_init_426 (by decide) ?_
  refine j_bipush E 430 rfl dX10_init_428 (by decide) ?_
  refine k_wst (g := wgs_46) E hK hw (by decide) (by decide) 431 rfl dX10_init_430 (fun H locs hw => ?_)
  refine j_dup E 432 rfl dX10_init_431 rfl ?_
  refine j_bipush E 434 rfl dX10_init_432 (by decide) ?_
  refine j_bipush E 436 rfl dX10_init_434 (by decide) ?_
  refine k_wst (g := wgs_47) E hK hw (by decide) (by decide) 437 rfl dX10_init_436 (fun H locs hw => ?_)
  refine j_dup E 438 rfl dX10_init_437 rfl ?_
  refine j_bipush E 440 rfl dX10_init_438 (by decide) ?_
  refine j_bipush E 442 rfl dX10_init_440 (by decide) ?_
  refine k_wst (g := wgs_48) E hK hw (by decide) (by decide) 443 rfl dX10_init_442 (fun H locs hw => ?_)
  refine j_dup E 444 rfl dX10_init_443 rfl ?_
  refine j_bipush E 446 rfl dX10_init_444 (by decide) ?_
  refine j_bipush E 448 rfl dX10_init_446 (by decide) ?_
  refine k_wst (g := wgs_49) E hK hw (by decide) (by decide) 449 rfl dX10_init_448 (fun H locs hw => ?_)
  refine j_dup E 450 rfl dX10_init_449 rfl ?_
  refine j_bipush E 452 rfl dX10_init_450 (by decide) ?_
  refine j_bipush E 454 rfl dX10_init_452 (by decide) ?_
  refine k_wst (g := wgs_50) E hK hw (by decide) (by decide) 455 rfl dX10_init_454 (fun H locs hw => ?_)
  refine j_dup E 456 rfl dX10_init_455 rfl ?_
  refine j_bipush E 458 rfl dX10_init_456 (by decide) ?_
  refine j_bipush E 460 rfl dX10_init_458 (by decide) ?_
  refine k_wst (g := wgs_51) E hK hw (by decide) (by decide) 461 rfl dX10_init_460 (fun H locs hw => ?_)
  refine j_dup E 462 rfl dX10_init_461 rfl ?_
  refine j_bipush E 464 rfl dX10_init_462 (by decide) ?_
  refine j_bipush E 466 rfl dX10_init_464 (by decide) ?_
  refine k_wst (g := wgs_52) E hK hw (by decide) (by decide) 467 rfl dX10_init_466 (fun H locs hw => ?_)
  refine j_dup E 468 rfl dX10_init_467 rfl ?_
  refine j_bipush E 470 rfl dX10_init_468 (by decide) ?_
  refine j_bipush E 472 rfl dX10_init_470 (by decide) ?_
  refine k_wst (g := wgs_53) E hK hw (by decide) (by decide) 473 rfl dX10_init_472 (fun H locs hw => ?_)
  refine j_dup E 474 rfl dX10_init_473 rfl ?_
  refine j_bipush E 476 rfl dX10_init_474 (by decide) ?_
  refine j_bipush E 478 rfl dX10_init_476 (by decide) ?_
  refine k_wst (g := wgs_54) E hK hw (by decide) (by decide) 479 rfl dX10_init_478 (fun H locs hw => ?_)
  refine j_dup E 480 rfl dX10_init_479 rfl ?_
  refine j_bipush E 482 rfl dX10_init_480 (by decide) ?_
  refine j_bipush E 484 rfl dX10_init_482 (by decide) ?_
  refine k_wst (g := wgs_55) E hK hw (by decide) (by decide) 485 rfl dX10_init_484 (fun H locs hw => ?_)
  refine j_dup E 486 rfl dX10_init_485 rfl ?_
  refine j_bipush E 488 rfl dX10_init_486 (by decide) ?_
  refine j_bipush E 490 rfl dX10_init_488 (by decide) ?_
  refine k_wst (g := wgs_56) E hK hw (by decide) (by decide) 491 rfl dX10_init_490 (fun H locs hw => ?_)
  refine j_dup E 492 rfl dX10_init_491 rfl ?_
  refine j_bipush E 494 rfl dX10_init_492 (by decide) ?_
  refine j_bipush E 496 rfl dX10_init_494 (by decide) ?_
  refine k_wst (g := wgs_57) E hK hw (by decide) (by decide) 497 rfl dX10_init_496 (fun H locs hw => ?_)
  refine j_dup E 498 rfl dX10_init_497 rfl ?_
  refine j_bipush E 500 rfl dX10_init_498 (by decide) ?_
  refine j_bipush E 502 rfl dX10_init_500 (by decide) ?_
  refine k_wst (g := wgs_58) E hK hw (by decide) (by decide) 503 rfl dX10_init_502 (fun H locs hw => ?_)
  refine j_dup E 504 rfl dX10_init_503 rfl ?_
  refine j_bipush E 506 rfl dX10_init_504 (by decide) ?_
  refine j_bipush E 508 rfl dX10_init_506 (by decide) ?_
  refine k_wst (g := wgs_59) E hK hw (by decide) (by decide) 509 rfl dX10_init_508 (fun H locs hw => ?_)
  refine j_dup E 510 rfl dX10_init_509 rfl ?_
  refine j_bipush E 512 rfl dX10_init_510 (by decide) ?_
  refine j_bipush E 514 rfl dX10_init_512 (by decide) ?_
  refine k_wst (g := wgs_60) E hK hw (by decide) (by decide) 515 rfl dX10_init_514 (fun H locs hw => ?_)
  refine j_dup E 516 rfl dX10_init_515 rfl ?_
  refine j_bipush E 518 rfl dX10_init_516 (by decide) ?_
  refine j_bipush E 520 rfl dX10_init_518 (by decide) ?_
  refine k_wst (g := wgs_61) E hK hw (by decide) (by decide) 521 rfl dX10_init_520 (fun H locs hw => ?_)
  refine j_dup E 522 rfl dX10_init_521 rfl ?_
  refine j_bipush E 524 rfl dX10_init_522 (by decide) ?_
  refine j_bipush E 526 rfl dX10_init_524 (by decide) ?_
  refine k_wst (g := wgs_62) E hK hw (by decide) (by decide) 527 rfl dX10_init_526 (fun H locs hw => ?_)
  refine j_dup E 528 rfl dX10_init_527 rfl ?_
  refine j_bipush E 530 rfl dX10_init_528 (by decide) ?_
  refine j_bipush E 532 rfl dX10_init_530 (by decide) ?_
  refine k_wst (g := wgs_63) E hK hw (by decide) (by decide) 533 rfl dX10_init_532 (fun H locs hw => ?_)
  have hw : KS D o [.int (J 0), .int (J 0), .int (J 0), .ref a7_, .ref a15_, .ref a23_, .ref a31_, .ref a39_, .ref a47_, .ref a55_, .int (J (-1)), .int (J 0), .int (J 0), .ref a68_, .ref a76_, .ref a84_, .ref a92_, .ref a100_, .ref a109_, .ref a118_, .ref a127_, .ref a136_, .ref a145_, .int (J 0), .int (J 0), .int (J 0), .int (J 0), .int (J 0), .null, .int (J 0), .null, .null, .null, .null, .null, .null, .null, .int (J 0), .int (J 0), .null, .int (J 0), .int (J 0), .int (J 0), .int (J 0), .int (J 0), .null, .null, .null, .int (J 0), .null, .null, .null, .null, .null, .null, .null, .null, .null, .null, .null, .null, .null, .null, .null, .null, .int (J 0), .null, .null] [(a7_, .inl (cy 0, 24, .inl (fun _ => J 0))), (a15_, .inl (cy 0, 24, .inl (fun _ => J 0))), (a23_, .inl (cy 0, 24, .inl (fun _ => J 0))), (a31_, .inl (cy 0, 24, .inl (fun _ => J 0))), (a39_, .inl (cy 1, 24, .inl (fun _ => J 0))), (a47_, .inl (cy 0, 24, .inl (fun _ => J 0))), (a55_, .inl (cy 1, 8, .inl (fun _ => J 0))), (a68_, .inl (cy 0, 24, .inl (fun _ => J 0))), (a76_, .inl (cy 1, 24, .inl (fun _ => J 0))), (a84_, .inl (cy 0, 24, .inl (fun _ => J 0))), (a92_, .inl (cy 0, 24, .inl (fun _ => J 0))), (a100_, .inl (cy 0, 24, .inl (fun _ => J 0))), (a109_, .inl (cy 0, 4800, .inl (fun _ => J 0))), (a118_, .inl (cy 0, 576, .inl (fun _ => J 0))), (a127_, .inl (cy 0, 576, .inl (fun _ => J 0))), (a136_, .inl (cy 0, 576, .inl (fun _ => J 0))), (a145_, .inl (cy 0, 400, .inl (fun _ => J 0))), (a153_, .inl (cy 0, 64, .inl (fun i : Nat => J (wgs_64 i))))] _ _ _ _ := hw
  refine k_putF E hin hK hw 28 66 (by decide) tyX10_k28 (by decide +kernel) lk_X10_28 rfl rfl 536 rfl dX10_init_533 (fun H locs hw => ?_)
  refine j_aload_n E 537 rfl dX10_init_536 rfl (lv_at hl 0 rfl) ?_
  refine j_sipush E 540 rfl dX10_init_537 (by decide) ?_
  refine k_newI E hK hw hA 12800 (by decide) (by decide) (Nat.le_of_ble_eq_true rfl) (Nat.le_of_ble_eq_true rfl) rfl 542 rfl dX10_init_540 (fun a540_ H hw => ?_)
  refine k_putF E hin hK hw 30 69 (by decide) tyX10_k30 (by decide +kernel) lk_X10_30 rfl rfl 545 rfl dX10_init_542 (fun H locs hw => ?_)
  refine j_aload_n E 546 rfl dX10_init_545 rfl (lv_at hl 0 rfl) ?_
  refine j_bipush E 548 rfl dX10_init_546 (by decide) ?_
  refine k_newI E hK hw hA 32 (by decide) (by decide) (Nat.le_of_ble_eq_true rfl) (Nat.le_of_ble_eq_true rfl) rfl 550 rfl dX10_init_548 (fun a548_ H hw => ?_)
  refine k_putF E hin hK hw 31 72 (by decide) tyX10_k31 (by decide +kernel) lk_X10_31 rfl rfl 553 rfl dX10_init_550 (fun H locs hw => ?_)
  refine j_aload_n E 554 rfl dX10_init_553 rfl (lv_at hl 0 rfl) ?_
  refine j_sipush E 557 rfl dX10_init_554 (by decide) ?_
  refine k_newI E hK hw hA 12800 (by decide) (by decide) (Nat.le_of_ble_eq_true rfl) (Nat.le_of_ble_eq_true rfl) rfl 559 rfl dX10_init_557 (fun a557_ H hw => ?_)
  refine k_putF E hin hK hw 32 75 (by decide) tyX10_k32 (by decide +kernel) lk_X10_32 rfl rfl 562 rfl dX10_init_559 (fun H locs hw => ?_)
  refine j_aload_n E 563 rfl dX10_init_562 rfl (lv_at hl 0 rfl) ?_
  refine j_sipush E 566 rfl dX10_init_563 (by decide) ?_
  refine k_newI E hK hw hA 12800 (by decide) (by decide) (Nat.le_of_ble_eq_true rfl) (Nat.le_of_ble_eq_true rfl) rfl 568 rfl dX10_init_566 (fun a566_ H hw => ?_)
  refine k_putF E hin hK hw 33 78 (by decide) tyX10_k33 (by decide +kernel) lk_X10_33 rfl rfl 571 rfl dX10_init_568 (fun H locs hw => ?_)
  refine j_aload_n E 572 rfl dX10_init_571 rfl (lv_at hl 0 rfl) ?_
  refine j_bipush E 574 rfl dX10_init_572 (by decide) ?_
  refine k_newI E hK hw hA 32 (by decide) (by decide) (Nat.le_of_ble_eq_true rfl) (Nat.le_of_ble_eq_true rfl) rfl 576 rfl dX10_init_574 (fun a574_ H hw => ?_)
  refine k_putF E hin hK hw 34 81 (by decide) tyX10_k34 (by decide +kernel) lk_X10_34 rfl rfl 579 rfl dX10_init_576 (fun H locs hw => ?_)
  have hw : KS D o [.int (J 0), .int (J 0), .int (J 0), .ref a7_, .ref a15_, .ref a23_, .ref a31_, .ref a39_, .ref a47_, .ref a55_, .int (J (-1)), .int (J 0), .int (J 0), .ref a68_, .ref a76_, .ref a84_, .ref a92_, .ref a100_, .ref a109_, .ref a118_, .ref a127_, .ref a136_, .ref a145_, .int (J 0), .int (J 0), .int (J 0), .int (J 0), .int (J 0), .ref a153_, .int (J 0), .ref a540_, .ref a548_, .ref a557_, .ref a566_, .ref a574_, .null, .null, .int (J 0), .int (J 0), .null, .int (J 0), .int (J 0), .int (J 0), .int (J 0), .int (J 0), .null, .null, .null, .int (J 0), .null, .null, .null, .null, .null, .null, .null, .null, .null, .null, .null, .null, .null, .null, .null, .null, .int (J 0), .null, .null] [(a7_, .inl (cy 0, 24, .inl (fun _ => J 0))), (a15_, .inl (cy 0, 24, .inl (fun _ => J 0))), (a23_, .inl (cy 0, 24, .inl (fun _ => J 0))), (a31_, .inl (cy 0, 24, .inl (fun _ => J 0))), (a39_, .inl (cy 1, 24, .inl (fun _ => J 0))), (a47_, .inl (cy 0, 24, .inl (fun _ => J 0))), (a55_, .inl (cy 1, 8, .inl (fun _ => J 0))), (a68_, .inl (cy 0, 24, .inl (fun _ => J 0))), (a76_, .inl (cy 1, 24, .inl (fun _ => J 0))), (a84_, .inl (cy 0, 24, .inl (fun _ => J 0))), (a92_, .inl (cy 0, 24, .inl (fun _ => J 0))), (a100_, .inl (cy 0, 24, .inl (fun _ => J 0))), (a109_, .inl (cy 0, 4800, .inl (fun _ => J 0))), (a118_, .inl (cy 0, 576, .inl (fun _ => J 0))), (a127_, .inl (cy 0, 576, .inl (fun _ => J 0))), (a136_, .inl (cy 0, 576, .inl (fun _ => J 0))), (a145_, .inl (cy 0, 400, .inl (fun _ => J 0))), (a153_, .inl (cy 0, 64, .inl (fun i : Nat => J (wgs_64 i)))), (a540_, .inl (cy 0, 12800, .inl (fun _ => J 0))), (a548_, .inl (cy 0, 32, .inl (fun _ => J 0))), (a557_, .inl (cy 0, 12800, .inl (fun _ => J 0))), (a566_, .inl (cy 0, 12800, .inl (fun _ => J 0))), (a574_, .inl (cy 0, 32, .inl (fun _ => J 0)))] _ _ _ _ := hw
  refine j_aload_n E 580 rfl dX10_init_579 rfl (lv_at hl 0 rfl) ?_
  refine j_bipush E 582 rfl dX10_init_580 (by decide) ?_
  refine k_newI E hK hw hA 32 (by decide) (by decide) (Nat.le_of_ble_eq_true rfl) (Nat.le_of_ble_eq_true rfl) rfl 584 rfl dX10_init_582 (fun a582_ H hw => ?_)
  refine k_putF E hin hK hw 35 84 (by decide) tyX10_k35 (by decide +kernel) lk_X10_35 rfl rfl 587 rfl dX10_init_584 (fun H locs hw => ?_)
  refine j_aload_n E 588 rfl dX10_init_587 rfl (lv_at hl 0 rfl) ?_
  refine j_bipush E 590 rfl dX10_init_588 (by decide) ?_
  refine k_newI E hK hw hA 32 (by decide) (by decide) (Nat.le_of_ble_eq_true rfl) (Nat.le_of_ble_eq_true rfl) rfl 592 rfl dX10_init_590 (fun a590_ H hw => ?_)
  refine k_putF E hin hK hw 36 87 (by decide) tyX10_k36 (by decide +kernel) lk_X10_36 rfl rfl 595 rfl dX10_init_592 (fun H locs hw => ?_)
  refine j_aload_n E 596 rfl dX10_init_595 rfl (lv_at hl 0 rfl) ?_
  refine j_bipush E 598 rfl dX10_init_596 (by decide) ?_
  refine k_newI E hK hw hA 40 (by decide) (by decide) (Nat.le_of_ble_eq_true rfl) (Nat.le_of_ble_eq_true rfl) rfl 600 rfl dX10_init_598 (fun a598_ H hw => ?_)
  refine k_putF E hin hK hw 39 90 (by decide) tyX10_k39 (by decide +kernel) lk_X10_39 rfl rfl 603 rfl dX10_init_600 (fun H locs hw => ?_)
  refine j_aload_n E 604 rfl dX10_init_603 rfl (lv_at hl 0 rfl) ?_
  refine j_iconst E 605 rfl dX10_init_604 ?_
  refine k_putI E hK hw 44 93 (by decide) (by decide +kernel) (by decide +kernel) lk_X10_44 608 rfl dX10_init_605 (fun H locs hw => ?_)
  refine j_aload_n E 609 rfl dX10_init_608 rfl (lv_at hl 0 rfl) ?_
  refine j_iconst E 610 rfl dX10_init_609 ?_
  refine k_newI E hK hw hA 5 (by decide) (by decide) (Nat.le_of_ble_eq_true rfl) (Nat.le_of_ble_eq_true rfl) rfl 612 rfl dX10_init_610 (fun a610_ H hw => ?_)
  refine k_putF E hin hK hw 45 96 (by decide) tyX10_k45 (by decide +kernel) lk_X10_45 rfl rfl 615 rfl dX10_init_612 (fun H locs hw => ?_)
  refine j_aload_n E 616 rfl dX10_init_615 rfl (lv_at hl 0 rfl) ?_
  refine j_bipush E 618 rfl dX10_init_616 (by decide) ?_
  refine k_newI E hK hw hA 24 (by decide) (by decide) (Nat.le_of_ble_eq_true rfl) (Nat.le_of_ble_eq_true rfl) rfl 620 rfl dX10_init_618 (fun a618_ H hw => ?_)
  refine k_putF E hin hK hw 46 99 (by decide) tyX10_k46 (by decide +kernel) lk_X10_46 rfl rfl 623 rfl dX10_init_620 (fun H locs hw => ?_)
  refine j_aload_n E 624 rfl dX10_init_623 rfl (lv_at hl 0 rfl) ?_
  refine j_sipush E 627 rfl dX10_init_624 (by decide) ?_
  refine k_newI E hK hw hA 420 (by decide) (by decide) (Nat.le_of_ble_eq_true rfl) (Nat.le_of_ble_eq_true rfl) rfl 629 rfl dX10_init_627 (fun a627_ H hw => ?_)
  refine k_putF E hin hK hw 47 102 (by decide) tyX10_k47 (by decide +kernel) lk_X10_47 rfl rfl 632 rfl dX10_init_629 (fun H locs hw => ?_)
  refine j_aload_n E 633 rfl dX10_init_632 rfl (lv_at hl 0 rfl) ?_
  refine j_bipush E 635 rfl dX10_init_633 (by decide) ?_
  refine k_newI E hK hw hA 100 (by decide) (by decide) (Nat.le_of_ble_eq_true rfl) (Nat.le_of_ble_eq_true rfl) rfl 637 rfl dX10_init_635 (fun a635_ H hw => ?_)
  refine k_putF E hin hK hw 49 105 (by decide) tyX10_k49 (by decide +kernel) lk_X10_49 rfl rfl 640 rfl dX10_init_637 (fun H locs hw => ?_)
  have hw : KS D o [.int (J 0), .int (J 0), .int (J 0), .ref a7_, .ref a15_, .ref a23_, .ref a31_, .ref a39_, .ref a47_, .ref a55_, .int (J (-1)), .int (J 0), .int (J 0), .ref a68_, .ref a76_, .ref a84_, .ref a92_, .ref a100_, .ref a109_, .ref a118_, .ref a127_, .ref a136_, .ref a145_, .int (J 0), .int (J 0), .int (J 0), .int (J 0), .int (J 0), .ref a153_, .int (J 0), .ref a540_, .ref a548_, .ref a557_, .ref a566_, .ref a574_, .ref a582_, .ref a590_, .int (J 0), .int (J 0), .ref a598_, .int (J 0), .int (J 0), .int (J 0), .int (J 0), .int (J (-1)), .ref a610_, .ref a618_, .ref a627_, .int (J 0), .ref a635_, .null, .null, .null, .null, .null, .null, .null, .null, .null, .null, .null, .null, .null, .null, .null, .int (J 0), .null, .null] [(a7_, .inl (cy 0, 24, .inl (fun _ => J 0))), (a15_, .inl (cy 0, 24, .inl (fun _ => J 0))), (a23_, .inl (cy 0, 24, .inl (fun _ => J 0))), (a31_, .inl (cy 0, 24, .inl (fun _ => J 0))), (a39_, .inl (cy 1, 24, .inl (fun _ => J 0))), (a47_, .inl (cy 0, 24, .inl (fun _ => J 0))), (a55_, .inl (cy 1, 8, .inl (fun _ => J 0))), (a68_, .inl (cy 0, 24, .inl (fun _ => J 0))), (a76_, .inl (cy 1, 24, .inl (fun _ => J 0))), (a84_, .inl (cy 0, 24, .inl (fun _ => J 0))), (a92_, .inl (cy 0, 24, .inl (fun _ => J 0))), (a100_, .inl (cy 0, 24, .inl (fun _ => J 0))), (a109_, .inl (cy 0, 4800, .inl (fun _ => J 0))), (a118_, .inl (cy 0, 576, .inl (fun _ => J 0))), (a127_, .inl (cy 0, 576, .inl (fun _ => J 0))), (a136_, .inl (cy 0, 576, .inl (fun _ => J 0))), (a145_, .inl (cy 0, 400, .inl (fun _ => J 0))), (a153_, .inl (cy 0, 64, .inl (fun i : Nat => J (wgs_64 i)))), (a540_, .inl (cy 0, 12800, .inl (fun _ => J 0))), (a548_, .inl (cy 0, 32, .inl (fun _ => J 0))), (a557_, .inl (cy 0, 12800, .inl (fun _ => J 0))), (a566_, .inl (cy 0, 12800, .inl (fun _ => J 0))), (a574_, .inl (cy 0, 32, .inl (fun _ => J 0))), (a582_, .inl (cy 0, 32, .inl (fun _ => J 0))), (a590_, .inl (cy 0, 32, .inl (fun _ => J 0))), (a598_, .inl (cy 0, 40, .inl (fun _ => J 0))), (a610_, .inl (cy 0, 5, .inl (fun _ => J 0))), (a618_, .inl (cy 0, 24, .inl (fun _ => J 0))), (a627_, .inl (cy 0, 420, .inl (fun _ => J 0))), (a635_, .inl (cy 0, 100, .inl (fun _ => J 0)))] _ _ _ _ := hw
  refine j_aload_n E 641 rfl dX10_init_640 rfl (lv_at hl 0 rfl) ?_
  refine j_bipush E 643 rfl dX10_init_641 (by decide) ?_
  refine k_newI E hK hw hA 100 (by decide) (by decide) (Nat.le_of_ble_eq_true rfl) (Nat.le_of_ble_eq_true rfl) rfl 645 rfl dX10_init_643 (fun a643_ H hw => ?_)
  refine k_putF E hin hK hw 50 108 (by decide) tyX10_k50 (by decide +kernel) lk_X10_50 rfl rfl 648 rfl dX10_init_645 (fun H locs hw => ?_)
  refine j_aload_n E 649 rfl dX10_init_648 rfl (lv_at hl 0 rfl) ?_
  refine j_bipush E 651 rfl dX10_init_649 (by decide) ?_
  refine k_newI E hK hw hA 100 (by decide) (by decide) (Nat.le_of_ble_eq_true rfl) (Nat.le_of_ble_eq_true rfl) rfl 653 rfl dX10_init_651 (fun a651_ H hw => ?_)
  refine k_putF E hin hK hw 51 111 (by decide) tyX10_k51 (by decide +kernel) lk_X10_51 rfl rfl 656 rfl dX10_init_653 (fun H locs hw => ?_)
  refine j_aload_n E 657 rfl dX10_init_656 rfl (lv_at hl 0 rfl) ?_
  refine j_bipush E 659 rfl dX10_init_657 (by decide) ?_
  refine k_newI E hK hw hA 100 (by decide) (by decide) (Nat.le_of_ble_eq_true rfl) (Nat.le_of_ble_eq_true rfl) rfl 661 rfl dX10_init_659 (fun a659_ H hw => ?_)
  refine k_putF E hin hK hw 52 114 (by decide) tyX10_k52 (by decide +kernel) lk_X10_52 rfl rfl 664 rfl dX10_init_661 (fun H locs hw => ?_)
  refine j_aload_n E 665 rfl dX10_init_664 rfl (lv_at hl 0 rfl) ?_
  refine j_bipush E 667 rfl dX10_init_665 (by decide) ?_
  refine k_newI E hK hw hA 100 (by decide) (by decide) (Nat.le_of_ble_eq_true rfl) (Nat.le_of_ble_eq_true rfl) rfl 669 rfl dX10_init_667 (fun a667_ H hw => ?_)
  refine k_putF E hin hK hw 53 117 (by decide) tyX10_k53 (by decide +kernel) lk_X10_53 rfl rfl 672 rfl dX10_init_669 (fun H locs hw => ?_)
  refine j_aload_n E 673 rfl dX10_init_672 rfl (lv_at hl 0 rfl) ?_
  refine j_bipush E 675 rfl dX10_init_673 (by decide) ?_
  refine k_newZ E hK hw hA 100 (by decide) (by decide) (Nat.le_of_ble_eq_true rfl) (Nat.le_of_ble_eq_true rfl) rfl 677 rfl dX10_init_675 (fun a675_ H hw => ?_)
  refine k_putF E hin hK hw 54 120 (by decide) tyX10_k54 (by decide +kernel) lk_X10_54 rfl rfl 680 rfl dX10_init_677 (fun H locs hw => ?_)
  refine j_aload_n E 681 rfl dX10_init_680 rfl (lv_at hl 0 rfl) ?_
  refine j_sipush E 684 rfl dX10_init_681 (by decide) ?_
  refine k_newI E hK hw hA 2400 (by decide) (by decide) (Nat.le_of_ble_eq_true rfl) (Nat.le_of_ble_eq_true rfl) rfl 686 rfl dX10_init_684 (fun a684_ H hw => ?_)
  refine k_putF E hin hK hw 55 123 (by decide) tyX10_k55 (by decide +kernel) lk_X10_55 rfl rfl 689 rfl dX10_init_686 (fun H locs hw => ?_)
  refine j_aload_n E 690 rfl dX10_init_689 rfl (lv_at hl 0 rfl) ?_
  refine j_bipush E 692 rfl dX10_init_690 (by decide) ?_
  refine k_newZ E hK hw hA 24 (by decide) (by decide) (Nat.le_of_ble_eq_true rfl) (Nat.le_of_ble_eq_true rfl) rfl 694 rfl dX10_init_692 (fun a692_ H hw => ?_)
  refine k_putF E hin hK hw 56 126 (by decide) tyX10_k56 (by decide +kernel) lk_X10_56 rfl rfl 697 rfl dX10_init_694 (fun H locs hw => ?_)
  refine j_aload_n E 698 rfl dX10_init_697 rfl (lv_at hl 0 rfl) ?_
  refine j_bipush E 700 rfl dX10_init_698 (by decide) ?_
  refine k_newI E hK hw hA 32 (by decide) (by decide) (Nat.le_of_ble_eq_true rfl) (Nat.le_of_ble_eq_true rfl) rfl 702 rfl dX10_init_700 (fun a700_ H hw => ?_)
  refine k_putF E hin hK hw 57 129 (by decide) tyX10_k57 (by decide +kernel) lk_X10_57 rfl rfl 705 rfl dX10_init_702 (fun H locs hw => ?_)
  have hw : KS D o [.int (J 0), .int (J 0), .int (J 0), .ref a7_, .ref a15_, .ref a23_, .ref a31_, .ref a39_, .ref a47_, .ref a55_, .int (J (-1)), .int (J 0), .int (J 0), .ref a68_, .ref a76_, .ref a84_, .ref a92_, .ref a100_, .ref a109_, .ref a118_, .ref a127_, .ref a136_, .ref a145_, .int (J 0), .int (J 0), .int (J 0), .int (J 0), .int (J 0), .ref a153_, .int (J 0), .ref a540_, .ref a548_, .ref a557_, .ref a566_, .ref a574_, .ref a582_, .ref a590_, .int (J 0), .int (J 0), .ref a598_, .int (J 0), .int (J 0), .int (J 0), .int (J 0), .int (J (-1)), .ref a610_, .ref a618_, .ref a627_, .int (J 0), .ref a635_, .ref a643_, .ref a651_, .ref a659_, .ref a667_, .ref a675_, .ref a684_, .ref a692_, .ref a700_, .null, .null, .null, .null, .null, .null, .null, .int (J 0), .null, .null] [(a7_, .inl (cy 0, 24, .inl (fun _ => J 0))), (a15_, .inl (cy 0, 24, .inl (fun _ => J 0))), (a23_, .inl (cy 0, 24, .inl (fun _ => J 0))), (a31_, .inl (cy 0, 24, .inl (fun _ => J 0))), (a39_, .inl (cy 1, 24, .inl (fun _ => J 0))), (a47_, .inl (cy 0, 24, .inl (fun _ => J 0))), (a55_, .inl (cy 1, 8, .inl (fun _ => J 0))), (a68_, .inl (cy 0, 24, .inl (fun _ => J 0))), (a76_, .inl (cy 1, 24, .inl (fun _ => J 0))), (a84_, .inl (cy 0, 24, .inl (fun _ => J 0))), (a92_, .inl (cy 0, 24, .inl (fun _ => J 0))), (a100_, .inl (cy 0, 24, .inl (fun _ => J 0))), (a109_, .inl (cy 0, 4800, .inl (fun _ => J 0))), (a118_, .inl (cy 0, 576, .inl (fun _ => J 0))), (a127_, .inl (cy 0, 576, .inl (fun _ => J 0))), (a136_, .inl (cy 0, 576, .inl (fun _ => J 0))), (a145_, .inl (cy 0, 400, .inl (fun _ => J 0))), (a153_, .inl (cy 0, 64, .inl (fun i : Nat => J (wgs_64 i)))), (a540_, .inl (cy 0, 12800, .inl (fun _ => J 0))), (a548_, .inl (cy 0, 32, .inl (fun _ => J 0))), (a557_, .inl (cy 0, 12800, .inl (fun _ => J 0))), (a566_, .inl (cy 0, 12800, .inl (fun _ => J 0))), (a574_, .inl (cy 0, 32, .inl (fun _ => J 0))), (a582_, .inl (cy 0, 32, .inl (fun _ => J 0))), (a590_, .inl (cy 0, 32, .inl (fun _ => J 0))), (a598_, .inl (cy 0, 40, .inl (fun _ => J 0))), (a610_, .inl (cy 0, 5, .inl (fun _ => J 0))), (a618_, .inl (cy 0, 24, .inl (fun _ => J 0))), (a627_, .inl (cy 0, 420, .inl (fun _ => J 0))), (a635_, .inl (cy 0, 100, .inl (fun _ => J 0))), (a643_, .inl (cy 0, 100, .inl (fun _ => J 0))), (a651_, .inl (cy 0, 100, .inl (fun _ => J 0))), (a659_, .inl (cy 0, 100, .inl (fun _ => J 0))), (a667_, .inl (cy 0, 100, .inl (fun _ => J 0))), (a675_, .inl (cy 1, 100, .inl (fun _ => J 0))), (a684_, .inl (cy 0, 2400, .inl (fun _ => J 0))), (a692_, .inl (cy 1, 24, .inl (fun _ => J 0))), (a700_, .inl (cy 0, 32, .inl (fun _ => J 0)))] _ _ _ _ := hw
  refine j_aload_n E 706 rfl dX10_init_705 rfl (lv_at hl 0 rfl) ?_
  refine j_bipush E 708 rfl dX10_init_706 (by decide) ?_
  refine k_newI E hK hw hA 32 (by decide) (by decide) (Nat.le_of_ble_eq_true rfl) (Nat.le_of_ble_eq_true rfl) rfl 710 rfl dX10_init_708 (fun a708_ H hw => ?_)
  refine k_putF E hin hK hw 58 132 (by decide) tyX10_k58 (by decide +kernel) lk_X10_58 rfl rfl 713 rfl dX10_init_710 (fun H locs hw => ?_)
  refine j_aload_n E 714 rfl dX10_init_713 rfl (lv_at hl 0 rfl) ?_
  refine j_sipush E 717 rfl dX10_init_714 (by decide) ?_
  refine k_newI E hK hw hA 401 (by decide) (by decide) (Nat.le_of_ble_eq_true rfl) (Nat.le_of_ble_eq_true rfl) rfl 719 rfl dX10_init_717 (fun a717_ H hw => ?_)
  refine k_putF E hin hK hw 59 135 (by decide) tyX10_k59 (by decide +kernel) lk_X10_59 rfl rfl 722 rfl dX10_init_719 (fun H locs hw => ?_)
  refine j_aload_n E 723 rfl dX10_init_722 rfl (lv_at hl 0 rfl) ?_
  refine j_sipush E 726 rfl dX10_init_723 (by decide) ?_
  refine k_newI E hK hw hA 401 (by decide) (by decide) (Nat.le_of_ble_eq_true rfl) (Nat.le_of_ble_eq_true rfl) rfl 728 rfl dX10_init_726 (fun a726_ H hw => ?_)
  refine k_putF E hin hK hw 60 138 (by decide) tyX10_k60 (by decide +kernel) lk_X10_60 rfl rfl 731 rfl dX10_init_728 (fun H locs hw => ?_)
  refine j_aload_n E 732 rfl dX10_init_731 rfl (lv_at hl 0 rfl) ?_
  refine j_sipush E 735 rfl dX10_init_732 (by decide) ?_
  refine k_newI E hK hw hA 1024 (by decide) (by decide) (Nat.le_of_ble_eq_true rfl) (Nat.le_of_ble_eq_true rfl) rfl 737 rfl dX10_init_735 (fun a735_ H hw => ?_)
  refine k_putF E hin hK hw 61 141 (by decide) tyX10_k61 (by decide +kernel) lk_X10_61 rfl rfl 740 rfl dX10_init_737 (fun H locs hw => ?_)
  refine j_aload_n E 741 rfl dX10_init_740 rfl (lv_at hl 0 rfl) ?_
  refine j_bipush E 743 rfl dX10_init_741 (by decide) ?_
  refine k_newZ E hK hw hA 32 (by decide) (by decide) (Nat.le_of_ble_eq_true rfl) (Nat.le_of_ble_eq_true rfl) rfl 745 rfl dX10_init_743 (fun a743_ H hw => ?_)
  refine k_putF E hin hK hw 62 144 (by decide) tyX10_k62 (by decide +kernel) lk_X10_62 rfl rfl 748 rfl dX10_init_745 (fun H locs hw => ?_)
  refine j_aload_n E 749 rfl dX10_init_748 rfl (lv_at hl 0 rfl) ?_
  refine j_bipush E 751 rfl dX10_init_749 (by decide) ?_
  refine k_newI E hK hw hA 32 (by decide) (by decide) (Nat.le_of_ble_eq_true rfl) (Nat.le_of_ble_eq_true rfl) rfl 753 rfl dX10_init_751 (fun a751_ H hw => ?_)
  refine k_putF E hin hK hw 63 147 (by decide) tyX10_k63 (by decide +kernel) lk_X10_63 rfl rfl 756 rfl dX10_init_753 (fun H locs hw => ?_)
  refine j_aload_n E 757 rfl dX10_init_756 rfl (lv_at hl 0 rfl) ?_
  refine j_iconst E 758 rfl dX10_init_757 ?_
  refine k_newI E hK hw hA 4 (by decide) (by decide) (Nat.le_of_ble_eq_true rfl) (Nat.le_of_ble_eq_true rfl) rfl 760 rfl dX10_init_758 (fun a758_ H hw => ?_)
  refine k_putF E hin hK hw 64 150 (by decide) tyX10_k64 (by decide +kernel) lk_X10_64 rfl rfl 763 rfl dX10_init_760 (fun H locs hw => ?_)
  refine j_aload_n E 764 rfl dX10_init_763 rfl (lv_at hl 0 rfl) ?_
  refine j_sipush E 767 rfl dX10_init_764 (by decide) ?_
  refine k_newI E hK hw hA 6400 (by decide) (by decide) (Nat.le_of_ble_eq_true rfl) (Nat.le_of_ble_eq_true rfl) rfl 769 rfl dX10_init_767 (fun a767_ H hw => ?_)
  refine k_putF E hin hK hw 66 153 (by decide) tyX10_k66 (by decide +kernel) lk_X10_66 rfl rfl 772 rfl dX10_init_769 (fun H locs hw => ?_)
  have hw : KS D o [.int (J 0), .int (J 0), .int (J 0), .ref a7_, .ref a15_, .ref a23_, .ref a31_, .ref a39_, .ref a47_, .ref a55_, .int (J (-1)), .int (J 0), .int (J 0), .ref a68_, .ref a76_, .ref a84_, .ref a92_, .ref a100_, .ref a109_, .ref a118_, .ref a127_, .ref a136_, .ref a145_, .int (J 0), .int (J 0), .int (J 0), .int (J 0), .int (J 0), .ref a153_, .int (J 0), .ref a540_, .ref a548_, .ref a557_, .ref a566_, .ref a574_, .ref a582_, .ref a590_, .int (J 0), .int (J 0), .ref a598_, .int (J 0), .int (J 0), .int (J 0), .int (J 0), .int (J (-1)), .ref a610_, .ref a618_, .ref a627_, .int (J 0), .ref a635_, .ref a643_, .ref a651_, .ref a659_, .ref a667_, .ref a675_, .ref a684_, .ref a692_, .ref a700_, .ref a708_, .ref a717_, .ref a726_, .ref a735_, .ref a743_, .ref a751_, .ref a758_, .int (J 0), .ref a767_, .null] [(a7_, .inl (cy 0, 24, .inl (fun _ => J 0))), (a15_, .inl (cy 0, 24, .inl (fun _ => J 0))), (a23_, .inl (cy 0, 24, .inl (fun _ => J 0))), (a31_, .inl (cy 0, 24, .inl (fun _ => J 0))), (a39_, .inl (cy 1, 24, .inl (fun _ => J 0))), (a47_, .inl (cy 0, 24, .inl (fun _ => J 0))), (a55_, .inl (cy 1, 8, .inl (fun _ => J 0))), (a68_, .inl (cy 0, 24, .inl (fun _ => J 0))), (a76_, .inl (cy 1, 24, .inl (fun _ => J 0))), (a84_, .inl (cy 0, 24, .inl (fun _ => J 0))), (a92_, .inl (cy 0, 24, .inl (fun _ => J 0))), (a100_, .inl (cy 0, 24, .inl (fun _ => J 0))), (a109_, .inl (cy 0, 4800, .inl (fun _ => J 0))), (a118_, .inl (cy 0, 576, .inl (fun _ => J 0))), (a127_, .inl (cy 0, 576, .inl (fun _ => J 0))), (a136_, .inl (cy 0, 576, .inl (fun _ => J 0))), (a145_, .inl (cy 0, 400, .inl (fun _ => J 0))), (a153_, .inl (cy 0, 64, .inl (fun i : Nat => J (wgs_64 i)))), (a540_, .inl (cy 0, 12800, .inl (fun _ => J 0))), (a548_, .inl (cy 0, 32, .inl (fun _ => J 0))), (a557_, .inl (cy 0, 12800, .inl (fun _ => J 0))), (a566_, .inl (cy 0, 12800, .inl (fun _ => J 0))), (a574_, .inl (cy 0, 32, .inl (fun _ => J 0))), (a582_, .inl (cy 0, 32, .inl (fun _ => J 0))), (a590_, .inl (cy 0, 32, .inl (fun _ => J 0))), (a598_, .inl (cy 0, 40, .inl (fun _ => J 0))), (a610_, .inl (cy 0, 5, .inl (fun _ => J 0))), (a618_, .inl (cy 0, 24, .inl (fun _ => J 0))), (a627_, .inl (cy 0, 420, .inl (fun _ => J 0))), (a635_, .inl (cy 0, 100, .inl (fun _ => J 0))), (a643_, .inl (cy 0, 100, .inl (fun _ => J 0))), (a651_, .inl (cy 0, 100, .inl (fun _ => J 0))), (a659_, .inl (cy 0, 100, .inl (fun _ => J 0))), (a667_, .inl (cy 0, 100, .inl (fun _ => J 0))), (a675_, .inl (cy 1, 100, .inl (fun _ => J 0))), (a684_, .inl (cy 0, 2400, .inl (fun _ => J 0))), (a692_, .inl (cy 1, 24, .inl (fun _ => J 0))), (a700_, .inl (cy 0, 32, .inl (fun _ => J 0))), (a708_, .inl (cy 0, 32, .inl (fun _ => J 0))), (a717_, .inl (cy 0, 401, .inl (fun _ => J 0))), (a726_, .inl (cy 0, 401, .inl (fun _ => J 0))), (a735_, .inl (cy 0, 1024, .inl (fun _ => J 0))), (a743_, .inl (cy 1, 32, .inl (fun _ => J 0))), (a751_, .inl (cy 0, 32, .inl (fun _ => J 0))), (a758_, .inl (cy 0, 4, .inl (fun _ => J 0))), (a767_, .inl (cy 0, 6400, .inl (fun _ => J 0)))] _ _ _ _ := hw
  refine j_aload_n E 773 rfl dX10_init_772 rfl (lv_at hl 0 rfl) ?_
  refine j_bipush E 775 rfl dX10_init_773 (by decide) ?_
  refine k_newI E hK hw hA 24 (by decide) (by decide) (Nat.le_of_ble_eq_true rfl) (Nat.le_of_ble_eq_true rfl) rfl 777 rfl dX10_init_775 (fun a775_ H hw => ?_)
  refine k_putF E hin hK hw 67 156 (by decide) tyX10_k67 (by decide +kernel) lk_X10_67 rfl rfl 780 rfl dX10_init_777 (fun H locs hw => ?_)
  have hw : KS D o [.int (J 0), .int (J 0), .int (J 0), .ref a7_, .ref a15_, .ref a23_, .ref a31_, .ref a39_, .ref a47_, .ref a55_, .int (J (-1)), .int (J 0), .int (J 0), .ref a68_, .ref a76_, .ref a84_, .ref a92_, .ref a100_, .ref a109_, .ref a118_, .ref a127_, .ref a136_, .ref a145_, .int (J 0), .int (J 0), .int (J 0), .int (J 0), .int (J 0), .ref a153_, .int (J 0), .ref a540_, .ref a548_, .ref a557_, .ref a566_, .ref a574_, .ref a582_, .ref a590_, .int (J 0), .int (J 0), .ref a598_, .int (J 0), .int (J 0), .int (J 0), .int (J 0), .int (J (-1)), .ref a610_, .ref a618_, .ref a627_, .int (J 0), .ref a635_, .ref a643_, .ref a651_, .ref a659_, .ref a667_, .ref a675_, .ref a684_, .ref a692_, .ref a700_, .ref a708_, .ref a717_, .ref a726_, .ref a735_, .ref a743_, .ref a751_, .ref a758_, .int (J 0), .ref a767_, .ref a775_] [(a7_, .inl (cy 0, 24, .inl (fun _ => J 0))), (a15_, .inl (cy 0, 24, .inl (fun _ => J 0))), (a23_, .inl (cy 0, 24, .inl (fun _ => J 0))), (a31_, .inl (cy 0, 24, .inl (fun _ => J 0))), (a39_, .inl (cy 1, 24, .inl (fun _ => J 0))), (a47_, .inl (cy 0, 24, .inl (fun _ => J 0))), (a55_, .inl (cy 1, 8, .inl (fun _ => J 0))), (a68_, .inl (cy 0, 24, .inl (fun _ => J 0))), (a76_, .inl (cy 1, 24, .inl (fun _ => J 0))), (a84_, .inl (cy 0, 24, .inl (fun _ => J 0))), (a92_, .inl (cy 0, 24, .inl (fun _ => J 0))), (a100_, .inl (cy 0, 24, .inl (fun _ => J 0))), (a109_, .inl (cy 0, 4800, .inl (fun _ => J 0))), (a118_, .inl (cy 0, 576, .inl (fun _ => J 0))), (a127_, .inl (cy 0, 576, .inl (fun _ => J 0))), (a136_, .inl (cy 0, 576, .inl (fun _ => J 0))), (a145_, .inl (cy 0, 400, .inl (fun _ => J 0))), (a153_, .inl (cy 0, 64, .inl (fun i : Nat => J (wgs_64 i)))), (a540_, .inl (cy 0, 12800, .inl (fun _ => J 0))), (a548_, .inl (cy 0, 32, .inl (fun _ => J 0))), (a557_, .inl (cy 0, 12800, .inl (fun _ => J 0))), (a566_, .inl (cy 0, 12800, .inl (fun _ => J 0))), (a574_, .inl (cy 0, 32, .inl (fun _ => J 0))), (a582_, .inl (cy 0, 32, .inl (fun _ => J 0))), (a590_, .inl (cy 0, 32, .inl (fun _ => J 0))), (a598_, .inl (cy 0, 40, .inl (fun _ => J 0))), (a610_, .inl (cy 0, 5, .inl (fun _ => J 0))), (a618_, .inl (cy 0, 24, .inl (fun _ => J 0))), (a627_, .inl (cy 0, 420, .inl (fun _ => J 0))), (a635_, .inl (cy 0, 100, .inl (fun _ => J 0))), (a643_, .inl (cy 0, 100, .inl (fun _ => J 0))), (a651_, .inl (cy 0, 100, .inl (fun _ => J 0))), (a659_, .inl (cy 0, 100, .inl (fun _ => J 0))), (a667_, .inl (cy 0, 100, .inl (fun _ => J 0))), (a675_, .inl (cy 1, 100, .inl (fun _ => J 0))), (a684_, .inl (cy 0, 2400, .inl (fun _ => J 0))), (a692_, .inl (cy 1, 24, .inl (fun _ => J 0))), (a700_, .inl (cy 0, 32, .inl (fun _ => J 0))), (a708_, .inl (cy 0, 32, .inl (fun _ => J 0))), (a717_, .inl (cy 0, 401, .inl (fun _ => J 0))), (a726_, .inl (cy 0, 401, .inl (fun _ => J 0))), (a735_, .inl (cy 0, 1024, .inl (fun _ => J 0))), (a743_, .inl (cy 1, 32, .inl (fun _ => J 0))), (a751_, .inl (cy 0, 32, .inl (fun _ => J 0))), (a758_, .inl (cy 0, 4, .inl (fun _ => J 0))), (a767_, .inl (cy 0, 6400, .inl (fun _ => J 0))), (a775_, .inl (cy 0, 24, .inl (fun _ => J 0)))] _ _ _ _ := hw
  have hA9 := hw.2.1.2
  refine j_vret E hw.2.2.1 ?_ (Nat.le_of_ble_eq_true rfl) (Nat.le_of_ble_eq_true rfl) dX10_init_780
  have hk_ := mW_key cy (fun k => if k = 3 then a7_ else if k = 4 then a15_ else if k = 5 then a23_ else if k = 6 then a31_ else if k = 7 then a39_ else if k = 8 then a47_ else if k = 9 then a55_ else if k = 13 then a68_ else if k = 14 then a76_ else if k = 15 then a84_ else if k = 16 then a92_ else if k = 17 then a100_ else if k = 18 then a109_ else if k = 19 then a118_ else if k = 20 then a127_ else if k = 21 then a136_ else if k = 22 then a145_ else if k = 28 then a153_ else if k = 30 then a540_ else if k = 31 then a548_ else if k = 32 then a557_ else if k = 33 then a566_ else if k = 34 then a574_ else if k = 35 then a582_ else if k = 36 then a590_ else if k = 39 then a598_ else if k = 45 then a610_ else if k = 46 then a618_ else if k = 47 then a627_ else if k = 49 then a635_ else if k = 50 then a643_ else if k = 51 then a651_ else if k = 52 then a659_ else if k = 53 then a667_ else if k = 54 then a675_ else if k = 55 then a684_ else if k = 56 then a692_ else if k = 57 then a700_ else if k = 58 then a708_ else if k = 59 then a717_ else if k = 60 then a726_ else if k = 61 then a735_ else if k = 62 then a743_ else if k = 63 then a751_ else if k = 64 then a758_ else if k = 66 then a767_ else if k = 67 then a775_ else o) o a7_ a15_ a23_ a31_ a39_ a47_ a55_ a68_ a76_ a84_ a92_ a100_ a109_ a118_ a127_ a136_ a145_ a153_ a540_ a548_ a557_ a566_ a574_ a582_ a590_ a598_ a610_ a618_ a627_ a635_ a643_ a651_ a659_ a667_ a675_ a684_ a692_ a700_ a708_ a717_ a726_ a735_ a743_ a751_ a758_ a767_ a775_ rfl rfl rfl rfl rfl rfl rfl rfl rfl rfl rfl rfl rfl rfl rfl rfl rfl rfl rfl rfl rfl rfl rfl rfl rfl rfl rfl rfl rfl rfl rfl rfl rfl rfl rfl rfl rfl rfl rfl rfl rfl rfl rfl rfl rfl rfl rfl rfl
  refine ⟨rfl, (fun k => if k = 3 then a7_ else if k = 4 then a15_ else if k = 5 then a23_ else if k = 6 then a31_ else if k = 7 then a39_ else if k = 8 then a47_ else if k = 9 then a55_ else if k = 13 then a68_ else if k = 14 then a76_ else if k = 15 then a84_ else if k = 16 then a92_ else if k = 17 then a100_ else if k = 18 then a109_ else if k = 19 then a118_ else if k = 20 then a127_ else if k = 21 then a136_ else if k = 22 then a145_ else if k = 28 then a153_ else if k = 30 then a540_ else if k = 31 then a548_ else if k = 32 then a557_ else if k = 33 then a566_ else if k = 34 then a574_ else if k = 35 then a582_ else if k = 36 then a590_ else if k = 39 then a598_ else if k = 45 then a610_ else if k = 46 then a618_ else if k = 47 then a627_ else if k = 49 then a635_ else if k = 50 then a643_ else if k = 51 then a651_ else if k = 52 then a659_ else if k = 53 then a667_ else if k = 54 then a675_ else if k = 55 then a684_ else if k = 56 then a692_ else if k = 57 then a700_ else if k = 58 then a708_ else if k = 59 then a717_ else if k = 60 then a726_ else if k = 61 then a735_ else if k = 62 then a743_ else if k = 63 then a751_ else if k = 64 then a758_ else if k = 66 then a767_ else if k = 67 then a775_ else o), rfl, ⟨by rw [hk_]; exact hw.1, ⟨by rw [hk_]; exact hw.2.1.1, mW_mA _ _ _ _⟩, n1_R, f1_R⟩, ?_⟩
  intro x hx
  obtain ⟨k, hk⟩ := hx
  rw [hk, ← hsz]
  show ((if k = 3 then _ else _) = o ∨ _ ≤ (if k = 3 then _ else _)) ∧ (if k = 3 then _ else _) < _
  by_cases e3_ : k = 3
  · rw [if_pos e3_]; exact ⟨hA9 1 _ rfl, (hw.1 1 _ rfl).lt⟩
  rw [if_neg e3_]
  by_cases e4_ : k = 4
  · rw [if_pos e4_]; exact ⟨hA9 2 _ rfl, (hw.1 2 _ rfl).lt⟩
  rw [if_neg e4_]
  by_cases e5_ : k = 5
  · rw [if_pos e5_]; exact ⟨hA9 3 _ rfl, (hw.1 3 _ rfl).lt⟩
  rw [if_neg e5_]
  by_cases e6_ : k = 6
  · rw [if_pos e6_]; exact ⟨hA9 4 _ rfl, (hw.1 4 _ rfl).lt⟩
  rw [if_neg e6_]
  by_cases e7_ : k = 7
  · rw [if_pos e7_]; exact ⟨hA9 5 _ rfl, (hw.1 5 _ rfl).lt⟩
  rw [if_neg e7_]
  by_cases e8_ : k = 8
  · rw [if_pos e8_]; exact ⟨hA9 6 _ rfl, (hw.1 6 _ rfl).lt⟩
  rw [if_neg e8_]
  by_cases e9_ : k = 9
  · rw [if_pos e9_]; exact ⟨hA9 7 _ rfl, (hw.1 7 _ rfl).lt⟩
  rw [if_neg e9_]
  by_cases e13_ : k = 13
  · rw [if_pos e13_]; exact ⟨hA9 8 _ rfl, (hw.1 8 _ rfl).lt⟩
  rw [if_neg e13_]
  by_cases e14_ : k = 14
  · rw [if_pos e14_]; exact ⟨hA9 9 _ rfl, (hw.1 9 _ rfl).lt⟩
  rw [if_neg e14_]
  by_cases e15_ : k = 15
  · rw [if_pos e15_]; exact ⟨hA9 10 _ rfl, (hw.1 10 _ rfl).lt⟩
  rw [if_neg e15_]
  by_cases e16_ : k = 16
  · rw [if_pos e16_]; exact ⟨hA9 11 _ rfl, (hw.1 11 _ rfl).lt⟩
  rw [if_neg e16_]
  by_cases e17_ : k = 17
  · rw [if_pos e17_]; exact ⟨hA9 12 _ rfl, (hw.1 12 _ rfl).lt⟩
  rw [if_neg e17_]
  by_cases e18_ : k = 18
  · rw [if_pos e18_]; exact ⟨hA9 13 _ rfl, (hw.1 13 _ rfl).lt⟩
  rw [if_neg e18_]
  by_cases e19_ : k = 19
  · rw [if_pos e19_]; exact ⟨hA9 14 _ rfl, (hw.1 14 _ rfl).lt⟩
  rw [if_neg e19_]
  by_cases e20_ : k = 20
  · rw [if_pos e20_]; exact ⟨hA9 15 _ rfl, (hw.1 15 _ rfl).lt⟩
  rw [if_neg e20_]
  by_cases e21_ : k = 21
  · rw [if_pos e21_]; exact ⟨hA9 16 _ rfl, (hw.1 16 _ rfl).lt⟩
  rw [if_neg e21_]
  by_cases e22_ : k = 22
  · rw [if_pos e22_]; exact ⟨hA9 17 _ rfl, (hw.1 17 _ rfl).lt⟩
  rw [if_neg e22_]
  by_cases e28_ : k = 28
  · rw [if_pos e28_]; exact ⟨hA9 18 _ rfl, (hw.1 18 _ rfl).lt⟩
  rw [if_neg e28_]
  by_cases e30_ : k = 30
  · rw [if_pos e30_]; exact ⟨hA9 19 _ rfl, (hw.1 19 _ rfl).lt⟩
  rw [if_neg e30_]
  by_cases e31_ : k = 31
  · rw [if_pos e31_]; exact ⟨hA9 20 _ rfl, (hw.1 20 _ rfl).lt⟩
  rw [if_neg e31_]
  by_cases e32_ : k = 32
  · rw [if_pos e32_]; exact ⟨hA9 21 _ rfl, (hw.1 21 _ rfl).lt⟩
  rw [if_neg e32_]
  by_cases e33_ : k = 33
  · rw [if_pos e33_]; exact ⟨hA9 22 _ rfl, (hw.1 22 _ rfl).lt⟩
  rw [if_neg e33_]
  by_cases e34_ : k = 34
  · rw [if_pos e34_]; exact ⟨hA9 23 _ rfl, (hw.1 23 _ rfl).lt⟩
  rw [if_neg e34_]
  by_cases e35_ : k = 35
  · rw [if_pos e35_]; exact ⟨hA9 24 _ rfl, (hw.1 24 _ rfl).lt⟩
  rw [if_neg e35_]
  by_cases e36_ : k = 36
  · rw [if_pos e36_]; exact ⟨hA9 25 _ rfl, (hw.1 25 _ rfl).lt⟩
  rw [if_neg e36_]
  by_cases e39_ : k = 39
  · rw [if_pos e39_]; exact ⟨hA9 26 _ rfl, (hw.1 26 _ rfl).lt⟩
  rw [if_neg e39_]
  by_cases e45_ : k = 45
  · rw [if_pos e45_]; exact ⟨hA9 27 _ rfl, (hw.1 27 _ rfl).lt⟩
  rw [if_neg e45_]
  by_cases e46_ : k = 46
  · rw [if_pos e46_]; exact ⟨hA9 28 _ rfl, (hw.1 28 _ rfl).lt⟩
  rw [if_neg e46_]
  by_cases e47_ : k = 47
  · rw [if_pos e47_]; exact ⟨hA9 29 _ rfl, (hw.1 29 _ rfl).lt⟩
  rw [if_neg e47_]
  by_cases e49_ : k = 49
  · rw [if_pos e49_]; exact ⟨hA9 30 _ rfl, (hw.1 30 _ rfl).lt⟩
  rw [if_neg e49_]
  by_cases e50_ : k = 50
  · rw [if_pos e50_]; exact ⟨hA9 31 _ rfl, (hw.1 31 _ rfl).lt⟩
  rw [if_neg e50_]
  by_cases e51_ : k = 51
  · rw [if_pos e51_]; exact ⟨hA9 32 _ rfl, (hw.1 32 _ rfl).lt⟩
  rw [if_neg e51_]
  by_cases e52_ : k = 52
  · rw [if_pos e52_]; exact ⟨hA9 33 _ rfl, (hw.1 33 _ rfl).lt⟩
  rw [if_neg e52_]
  by_cases e53_ : k = 53
  · rw [if_pos e53_]; exact ⟨hA9 34 _ rfl, (hw.1 34 _ rfl).lt⟩
  rw [if_neg e53_]
  by_cases e54_ : k = 54
  · rw [if_pos e54_]; exact ⟨hA9 35 _ rfl, (hw.1 35 _ rfl).lt⟩
  rw [if_neg e54_]
  by_cases e55_ : k = 55
  · rw [if_pos e55_]; exact ⟨hA9 36 _ rfl, (hw.1 36 _ rfl).lt⟩
  rw [if_neg e55_]
  by_cases e56_ : k = 56
  · rw [if_pos e56_]; exact ⟨hA9 37 _ rfl, (hw.1 37 _ rfl).lt⟩
  rw [if_neg e56_]
  by_cases e57_ : k = 57
  · rw [if_pos e57_]; exact ⟨hA9 38 _ rfl, (hw.1 38 _ rfl).lt⟩
  rw [if_neg e57_]
  by_cases e58_ : k = 58
  · rw [if_pos e58_]; exact ⟨hA9 39 _ rfl, (hw.1 39 _ rfl).lt⟩
  rw [if_neg e58_]
  by_cases e59_ : k = 59
  · rw [if_pos e59_]; exact ⟨hA9 40 _ rfl, (hw.1 40 _ rfl).lt⟩
  rw [if_neg e59_]
  by_cases e60_ : k = 60
  · rw [if_pos e60_]; exact ⟨hA9 41 _ rfl, (hw.1 41 _ rfl).lt⟩
  rw [if_neg e60_]
  by_cases e61_ : k = 61
  · rw [if_pos e61_]; exact ⟨hA9 42 _ rfl, (hw.1 42 _ rfl).lt⟩
  rw [if_neg e61_]
  by_cases e62_ : k = 62
  · rw [if_pos e62_]; exact ⟨hA9 43 _ rfl, (hw.1 43 _ rfl).lt⟩
  rw [if_neg e62_]
  by_cases e63_ : k = 63
  · rw [if_pos e63_]; exact ⟨hA9 44 _ rfl, (hw.1 44 _ rfl).lt⟩
  rw [if_neg e63_]
  by_cases e64_ : k = 64
  · rw [if_pos e64_]; exact ⟨hA9 45 _ rfl, (hw.1 45 _ rfl).lt⟩
  rw [if_neg e64_]
  by_cases e66_ : k = 66
  · rw [if_pos e66_]; exact ⟨hA9 46 _ rfl, (hw.1 46 _ rfl).lt⟩
  rw [if_neg e66_]
  by_cases e67_ : k = 67
  · rw [if_pos e67_]; exact ⟨hA9 47 _ rfl, (hw.1 47 _ rfl).lt⟩
  rw [if_neg e67_]
  exact ⟨Or.inl rfl, (hw.1 0 _ rfl).lt⟩
