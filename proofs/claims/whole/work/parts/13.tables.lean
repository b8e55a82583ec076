/-! THE METHODS, and the words that their instructions link: printed by wip/gen/gen13.py -/
section AM12
theorem hclX0 : am_cl[0]? = some (RX0, TX0, 4) := rfl
theorem inWX0 : ∀ w ∈ u_ws RX0 TX0 4, w ∈ am_words := fun w hw => List.mem_filter.mpr ⟨inX0 w hw, List.all_eq_true.mp (show (u_ws RX0 TX0 4).all goodWord = true by decide +kernel) w hw⟩
theorem hdfX0 : ∀ k, k < 4 → defaultValue (am_ty 0 k) = match am_ty 0 k with | .long => .long 0 | .object _ => .null | .array _ => .null | _ => .int 0 := by decide +kernel
theorem hclX1 : am_cl[1]? = some (RX1, TX1, 5) := rfl
theorem inWX1 : ∀ w ∈ u_ws RX1 TX1 5, w ∈ am_words := fun w hw => List.mem_filter.mpr ⟨inX1 w hw, List.all_eq_true.mp (show (u_ws RX1 TX1 5).all goodWord = true by decide +kernel) w hw⟩
theorem hdfX1 : ∀ k, k < 5 → defaultValue (am_ty 1 k) = match am_ty 1 k with | .long => .long 0 | .object _ => .null | .array _ => .null | _ => .int 0 := by decide +kernel
theorem hclX2 : am_cl[2]? = some (RX2, TX2, 14) := rfl
theorem inWX2 : ∀ w ∈ u_ws RX2 TX2 14, w ∈ am_words := fun w hw => List.mem_filter.mpr ⟨inX2 w hw, List.all_eq_true.mp (show (u_ws RX2 TX2 14).all goodWord = true by decide +kernel) w hw⟩
theorem hdfX2 : ∀ k, k < 14 → defaultValue (am_ty 2 k) = match am_ty 2 k with | .long => .long 0 | .object _ => .null | .array _ => .null | _ => .int 0 := by decide +kernel
theorem hclX3 : am_cl[3]? = some (RX3, TX3, 3) := rfl
theorem inWX3 : ∀ w ∈ u_ws RX3 TX3 3, w ∈ am_words := fun w hw => List.mem_filter.mpr ⟨inX3 w hw, List.all_eq_true.mp (show (u_ws RX3 TX3 3).all goodWord = true by decide +kernel) w hw⟩
theorem hdfX3 : ∀ k, k < 3 → defaultValue (am_ty 3 k) = match am_ty 3 k with | .long => .long 0 | .object _ => .null | .array _ => .null | _ => .int 0 := by decide +kernel
theorem hclX4 : am_cl[4]? = some (RX4, TX4, 4) := rfl
theorem inWX4 : ∀ w ∈ u_ws RX4 TX4 4, w ∈ am_words := fun w hw => List.mem_filter.mpr ⟨inX4 w hw, List.all_eq_true.mp (show (u_ws RX4 TX4 4).all goodWord = true by decide +kernel) w hw⟩
theorem hdfX4 : ∀ k, k < 4 → defaultValue (am_ty 4 k) = match am_ty 4 k with | .long => .long 0 | .object _ => .null | .array _ => .null | _ => .int 0 := by decide +kernel
theorem hclX5 : am_cl[5]? = some (RX5, TX5, 11) := rfl
theorem inWX5 : ∀ w ∈ u_ws RX5 TX5 11, w ∈ am_words := fun w hw => List.mem_filter.mpr ⟨inX5 w hw, List.all_eq_true.mp (show (u_ws RX5 TX5 11).all goodWord = true by decide +kernel) w hw⟩
theorem hdfX5 : ∀ k, k < 11 → defaultValue (am_ty 5 k) = match am_ty 5 k with | .long => .long 0 | .object _ => .null | .array _ => .null | _ => .int 0 := by decide +kernel
theorem hclX6 : am_cl[6]? = some (RX6, TX6, 4) := rfl
theorem inWX6 : ∀ w ∈ u_ws RX6 TX6 4, w ∈ am_words := fun w hw => List.mem_filter.mpr ⟨inX6 w hw, List.all_eq_true.mp (show (u_ws RX6 TX6 4).all goodWord = true by decide +kernel) w hw⟩
theorem hdfX6 : ∀ k, k < 4 → defaultValue (am_ty 6 k) = match am_ty 6 k with | .long => .long 0 | .object _ => .null | .array _ => .null | _ => .int 0 := by decide +kernel
theorem hclX7 : am_cl[7]? = some (RX7, TX7, 11) := rfl
theorem inWX7 : ∀ w ∈ u_ws RX7 TX7 11, w ∈ am_words := fun w hw => List.mem_filter.mpr ⟨inX7 w hw, List.all_eq_true.mp (show (u_ws RX7 TX7 11).all goodWord = true by decide +kernel) w hw⟩
theorem hdfX7 : ∀ k, k < 11 → defaultValue (am_ty 7 k) = match am_ty 7 k with | .long => .long 0 | .object _ => .null | .array _ => .null | _ => .int 0 := by decide +kernel
theorem hclX8 : am_cl[8]? = some (RX8, TX8, 38) := rfl
theorem inWX8 : ∀ w ∈ u_ws RX8 TX8 38, w ∈ am_words := fun w hw => List.mem_filter.mpr ⟨inX8 w hw, List.all_eq_true.mp (show (u_ws RX8 TX8 38).all goodWord = true by decide +kernel) w hw⟩
theorem hdfX8 : ∀ k, k < 38 → defaultValue (am_ty 8 k) = match am_ty 8 k with | .long => .long 0 | .object _ => .null | .array _ => .null | _ => .int 0 := by decide +kernel
theorem bi_m100 : (Int8.ofInt (-100)).toInt32 = (-100) := by decide +kernel
theorem bi_m33 : (Int8.ofInt (-33)).toInt32 = (-33) := by decide +kernel
theorem bi_m11 : (Int8.ofInt (-11)).toInt32 = (-11) := by decide +kernel
theorem bi_m10 : (Int8.ofInt (-10)).toInt32 = (-10) := by decide +kernel
theorem bi_m9 : (Int8.ofInt (-9)).toInt32 = (-9) := by decide +kernel
theorem bi_m8 : (Int8.ofInt (-8)).toInt32 = (-8) := by decide +kernel
theorem bi_m7 : (Int8.ofInt (-7)).toInt32 = (-7) := by decide +kernel
theorem bi_m6 : (Int8.ofInt (-6)).toInt32 = (-6) := by decide +kernel
theorem bi_m5 : (Int8.ofInt (-5)).toInt32 = (-5) := by decide +kernel
theorem bi_m4 : (Int8.ofInt (-4)).toInt32 = (-4) := by decide +kernel
theorem bi_m3 : (Int8.ofInt (-3)).toInt32 = (-3) := by decide +kernel
theorem bi_m2 : (Int8.ofInt (-2)).toInt32 = (-2) := by decide +kernel
theorem bi_6 : (Int8.ofInt 6).toInt32 = 6 := by decide +kernel
theorem bi_7 : (Int8.ofInt 7).toInt32 = 7 := by decide +kernel
theorem bi_8 : (Int8.ofInt 8).toInt32 = 8 := by decide +kernel
theorem bi_9 : (Int8.ofInt 9).toInt32 = 9 := by decide +kernel
theorem bi_10 : (Int8.ofInt 10).toInt32 = 10 := by decide +kernel
theorem bi_11 : (Int8.ofInt 11).toInt32 = 11 := by decide +kernel
theorem bi_12 : (Int8.ofInt 12).toInt32 = 12 := by decide +kernel
theorem bi_13 : (Int8.ofInt 13).toInt32 = 13 := by decide +kernel
theorem bi_14 : (Int8.ofInt 14).toInt32 = 14 := by decide +kernel
theorem bi_21 : (Int8.ofInt 21).toInt32 = 21 := by decide +kernel
theorem bi_24 : (Int8.ofInt 24).toInt32 = 24 := by decide +kernel
theorem bi_29 : (Int8.ofInt 29).toInt32 = 29 := by decide +kernel
theorem bi_30 : (Int8.ofInt 30).toInt32 = 30 := by decide +kernel
theorem bi_32 : (Int8.ofInt 32).toInt32 = 32 := by decide +kernel
theorem bi_33 : (Int8.ofInt 33).toInt32 = 33 := by decide +kernel
theorem bi_38 : (Int8.ofInt 38).toInt32 = 38 := by decide +kernel
theorem bi_40 : (Int8.ofInt 40).toInt32 = 40 := by decide +kernel
theorem bi_41 : (Int8.ofInt 41).toInt32 = 41 := by decide +kernel
theorem bi_42 : (Int8.ofInt 42).toInt32 = 42 := by decide +kernel
theorem bi_43 : (Int8.ofInt 43).toInt32 = 43 := by decide +kernel
theorem bi_45 : (Int8.ofInt 45).toInt32 = 45 := by decide +kernel
theorem bi_47 : (Int8.ofInt 47).toInt32 = 47 := by decide +kernel
theorem bi_48 : (Int8.ofInt 48).toInt32 = 48 := by decide +kernel
theorem bi_50 : (Int8.ofInt 50).toInt32 = 50 := by decide +kernel
theorem bi_57 : (Int8.ofInt 57).toInt32 = 57 := by decide +kernel
theorem bi_60 : (Int8.ofInt 60).toInt32 = 60 := by decide +kernel
theorem bi_61 : (Int8.ofInt 61).toInt32 = 61 := by decide +kernel
theorem bi_62 : (Int8.ofInt 62).toInt32 = 62 := by decide +kernel
theorem bi_63 : (Int8.ofInt 63).toInt32 = 63 := by decide +kernel
theorem bi_64 : (Int8.ofInt 64).toInt32 = 64 := by decide +kernel
theorem bi_76 : (Int8.ofInt 76).toInt32 = 76 := by decide +kernel
theorem bi_96 : (Int8.ofInt 96).toInt32 = 96 := by decide +kernel
theorem bi_97 : (Int8.ofInt 97).toInt32 = 97 := by decide +kernel
theorem bi_99 : (Int8.ofInt 99).toInt32 = 99 := by decide +kernel
theorem bi_100 : (Int8.ofInt 100).toInt32 = 100 := by decide +kernel
theorem bi_101 : (Int8.ofInt 101).toInt32 = 101 := by decide +kernel
theorem bi_102 : (Int8.ofInt 102).toInt32 = 102 := by decide +kernel
theorem bi_104 : (Int8.ofInt 104).toInt32 = 104 := by decide +kernel
theorem bi_105 : (Int8.ofInt 105).toInt32 = 105 := by decide +kernel
theorem bi_108 : (Int8.ofInt 108).toInt32 = 108 := by decide +kernel
theorem bi_110 : (Int8.ofInt 110).toInt32 = 110 := by decide +kernel
theorem bi_111 : (Int8.ofInt 111).toInt32 = 111 := by decide +kernel
theorem bi_115 : (Int8.ofInt 115).toInt32 = 115 := by decide +kernel
theorem bi_116 : (Int8.ofInt 116).toInt32 = 116 := by decide +kernel
theorem bi_119 : (Int8.ofInt 119).toInt32 = 119 := by decide +kernel
theorem bi_120 : (Int8.ofInt 120).toInt32 = 120 := by decide +kernel
theorem bi_122 : (Int8.ofInt 122).toInt32 = 122 := by decide +kernel
theorem bi_124 : (Int8.ofInt 124).toInt32 = 124 := by decide +kernel
theorem ic_m8 : Int32.ofInt (-8) = (-8) := by decide +kernel
theorem ic_m1 : Int32.ofInt (-1) = (-1) := by decide +kernel
theorem ic_0 : Int32.ofInt 0 = 0 := by decide +kernel
theorem ic_1 : Int32.ofInt 1 = 1 := by decide +kernel
theorem ic_2 : Int32.ofInt 2 = 2 := by decide +kernel
theorem ic_3 : Int32.ofInt 3 = 3 := by decide +kernel
theorem ic_4 : Int32.ofInt 4 = 4 := by decide +kernel
theorem ic_5 : Int32.ofInt 5 = 5 := by decide +kernel
theorem ic_6 : Int32.ofInt 6 = 6 := by decide +kernel
theorem lc_0 : Int64.ofNat ((0 : Fin 2) : Nat) = 0 := by decide +kernel
theorem si_200 : (Int16.ofInt 200).toInt32 = 200 := by decide +kernel
theorem si_255 : (Int16.ofInt 255).toInt32 = 255 := by decide +kernel
theorem si_256 : (Int16.ofInt 256).toInt32 = 256 := by decide +kernel
theorem si_257 : (Int16.ofInt 257).toInt32 = 257 := by decide +kernel
theorem si_258 : (Int16.ofInt 258).toInt32 = 258 := by decide +kernel
theorem si_300 : (Int16.ofInt 300).toInt32 = 300 := by decide +kernel
theorem si_999 : (Int16.ofInt 999).toInt32 = 999 := by decide +kernel
theorem si_1000 : (Int16.ofInt 1000).toInt32 = 1000 := by decide +kernel
theorem si_1024 : (Int16.ofInt 1024).toInt32 = 1024 := by decide +kernel
theorem si_1448 : (Int16.ofInt 1448).toInt32 = 1448 := by decide +kernel
theorem si_7168 : (Int16.ofInt 7168).toInt32 = 7168 := by decide +kernel
theorem si_9999 : (Int16.ofInt 9999).toInt32 = 9999 := by decide +kernel
theorem si_10000 : (Int16.ofInt 10000).toInt32 = 10000 := by decide +kernel
theorem si_12345 : (Int16.ofInt 12345).toInt32 = 12345 := by decide +kernel
theorem wd_1 : (Jvm.Cond.initialized "DigFill") ∈ am_words := am_in 1 we_1.1 we_1.2
theorem wd_2 : (Jvm.Cond.initialized "DigFill$Land") ∈ am_words := am_in 2 we_2.1 we_2.2
theorem wd_3 : (Jvm.Cond.initialized "DigFill$Hole") ∈ am_words := am_in 3 we_3.1 we_3.2
theorem wd_4 : (Jvm.Cond.initialized "DigFill$Dealer") ∈ am_words := am_in 4 we_4.1 we_4.2
theorem wd_5 : (Jvm.Cond.initialized "DigFill$Tape") ∈ am_words := am_in 5 we_5.1 we_5.2
theorem wd_6 : (Jvm.Cond.initialized "DigFill$Sheet") ∈ am_words := am_in 6 we_6.1 we_6.2
theorem wd_7 : (Jvm.Cond.initialized "DigFill$Slot") ∈ am_words := am_in 7 we_7.1 we_7.2
theorem wd_8 : (Jvm.Cond.initialized "DigFillModel") ∈ am_words := am_in 8 we_8.1 we_8.2
theorem wd_9 : (Jvm.Cond.initialized "DigFill$Text") ∈ am_words := am_in 9 we_9.1 we_9.2
theorem wd_10 : (Jvm.Cond.initialized "java/lang/Math") ∈ am_words := am_in 10 we_10.1 we_10.2
theorem wd_11 : (Jvm.Cond.initialized "java/util/Arrays") ∈ am_words := am_in 11 we_11.1 we_11.2
theorem wd_12 : (Jvm.Cond.initialized "java/lang/System") ∈ am_words := am_in 12 we_12.1 we_12.2
theorem wd_13 : (Jvm.Cond.initialized "java/lang/String") ∈ am_words := am_in 13 we_13.1 we_13.2
theorem wd_14 : (Jvm.Cond.initialized "java/lang/StringLatin1") ∈ am_words := am_in 14 we_14.1 we_14.2
theorem wd_15 : (Jvm.Cond.initialized "jdk/internal/util/Preconditions") ∈ am_words := am_in 15 we_15.1 we_15.2
theorem wd_18 : (Jvm.Cond.classLink "DigFillLaw" (7 : Nat) "DigFill") ∈ am_words := am_in 18 we_18.1 we_18.2
theorem wd_19 : (Jvm.Cond.instantiable "DigFill" (11 : Nat)) ∈ am_words := am_in 19 we_19.1 we_19.2
theorem wd_20 : (Jvm.Cond.methodLink "DigFillLaw" (9 : Nat) ({ cls := "DigFill", name := "<init>", desc := "()V" } : Jvm.MethodName)) ∈ am_words := am_in 20 we_20.1 we_20.2
theorem wd_21 : (Jvm.Cond.instanceMethod ({ cls := "DigFill", name := "<init>", desc := "()V" } : Jvm.MethodName)) ∈ am_words := am_in 21 we_21.1 we_21.2
theorem wd_22 : (Jvm.Cond.code ({ cls := "DigFill", name := "<init>", desc := "()V" } : Jvm.MethodName) prog_1_method_1_code (2 : Nat) (Option.none : Option Jvm.ClassFile.FieldType)) ∈ am_words := am_in 22 we_22.1 we_22.2
theorem wd_23 : (Jvm.Cond.methodLink "DigFill" (1 : Nat) ({ cls := "java/lang/Object", name := "<init>", desc := "()V" } : Jvm.MethodName)) ∈ am_words := am_in 23 we_23.1 we_23.2
theorem wd_24 : (Jvm.Cond.instanceMethod ({ cls := "java/lang/Object", name := "<init>", desc := "()V" } : Jvm.MethodName)) ∈ am_words := am_in 24 we_24.1 we_24.2
theorem wd_25 : (Jvm.Cond.code ({ cls := "java/lang/Object", name := "<init>", desc := "()V" } : Jvm.MethodName) object_method_1_code (1 : Nat) (Option.none : Option Jvm.ClassFile.FieldType)) ∈ am_words := am_in 25 we_25.1 we_25.2
theorem wd_26 : (Jvm.Cond.classLink "DigFill" (7 : Nat) "DigFill$Land") ∈ am_words := am_in 26 we_26.1 we_26.2
theorem wd_27 : (Jvm.Cond.instantiable "DigFill$Land" (14 : Nat)) ∈ am_words := am_in 27 we_27.1 we_27.2
theorem wd_28 : (Jvm.Cond.methodLink "DigFill" (9 : Nat) ({ cls := "DigFill$Land", name := "<init>", desc := "()V" } : Jvm.MethodName)) ∈ am_words := am_in 28 we_28.1 we_28.2
theorem wd_29 : (Jvm.Cond.instanceMethod ({ cls := "DigFill$Land", name := "<init>", desc := "()V" } : Jvm.MethodName)) ∈ am_words := am_in 29 we_29.1 we_29.2
theorem wd_30 : (Jvm.Cond.code ({ cls := "DigFill$Land", name := "<init>", desc := "()V" } : Jvm.MethodName) prog_4_method_1_code (2 : Nat) (Option.none : Option Jvm.ClassFile.FieldType)) ∈ am_words := am_in 30 we_30.1 we_30.2
theorem wd_31 : (Jvm.Cond.methodLink "DigFill$Land" (3 : Nat) ({ cls := "java/lang/Object", name := "<init>", desc := "()V" } : Jvm.MethodName)) ∈ am_words := am_in 31 we_31.1 we_31.2
theorem wd_32 : (Jvm.Cond.classLink "DigFill$Land" (9 : Nat) "DigFill$Hole") ∈ am_words := am_in 32 we_32.1 we_32.2
theorem wd_34 : (Jvm.Cond.classLink "DigFill$Land" (31 : Nat) "DigFill$Text") ∈ am_words := am_in 34 we_34.1 we_34.2
theorem wd_36 : (Jvm.Cond.instantiable "DigFill$Hole" (5 : Nat)) ∈ am_words := am_in 36 we_36.1 we_36.2
theorem wd_38 : (Jvm.Cond.instanceMethod ({ cls := "DigFill$Hole", name := "<init>", desc := "()V" } : Jvm.MethodName)) ∈ am_words := am_in 38 we_38.1 we_38.2
theorem wd_39 : (Jvm.Cond.code ({ cls := "DigFill$Hole", name := "<init>", desc := "()V" } : Jvm.MethodName) prog_3_method_1_code (1 : Nat) (Option.none : Option Jvm.ClassFile.FieldType)) ∈ am_words := am_in 39 we_39.1 we_39.2
theorem wd_40 : (Jvm.Cond.methodLink "DigFill$Hole" (3 : Nat) ({ cls := "java/lang/Object", name := "<init>", desc := "()V" } : Jvm.MethodName)) ∈ am_words := am_in 40 we_40.1 we_40.2
theorem wd_41 : (Jvm.Cond.fieldLink "DigFill$Hole" (9 : Nat) "DigFill$Hole" "kind" "I") ∈ am_words := am_in 41 we_41.1 we_41.2
theorem wd_44 : (Jvm.Cond.fieldLink "DigFill$Hole" (15 : Nat) "DigFill$Hole" "place" "I") ∈ am_words := am_in 44 we_44.1 we_44.2
theorem wd_47 : (Jvm.Cond.fieldLink "DigFill$Hole" (18 : Nat) "DigFill$Hole" "depth" "I") ∈ am_words := am_in 47 we_47.1 we_47.2
theorem wd_50 : (Jvm.Cond.fieldLink "DigFill$Hole" (21 : Nat) "DigFill$Hole" "owner" "I") ∈ am_words := am_in 50 we_50.1 we_50.2
theorem wd_52 : (Jvm.Cond.fieldLink "DigFill$Hole" (24 : Nat) "DigFill$Hole" "age" "I") ∈ am_words := am_in 52 we_52.1 we_52.2
theorem wd_65 : (Jvm.Cond.arrayClass Jvm.ClassFile.FieldType.int) ∈ am_words := am_in 65 we_65.1 we_65.2
theorem wd_66 : (Jvm.Cond.fieldLink "DigFill$Land" (11 : Nat) "DigFill$Land" "holes" "[LDigFill$Hole;") ∈ am_words := am_in 66 we_66.1 we_66.2
theorem wd_69 : (Jvm.Cond.fieldLink "DigFill$Land" (17 : Nat) "DigFill$Land" "holeCount" "I") ∈ am_words := am_in 69 we_69.1 we_69.2
theorem wd_72 : (Jvm.Cond.fieldLink "DigFill$Land" (21 : Nat) "DigFill$Land" "wantPlaces" "[I") ∈ am_words := am_in 72 we_72.1 we_72.2
theorem wd_75 : (Jvm.Cond.fieldLink "DigFill$Land" (25 : Nat) "DigFill$Land" "wantSpades" "[I") ∈ am_words := am_in 75 we_75.1 we_75.2
theorem wd_78 : (Jvm.Cond.fieldLink "DigFill$Land" (28 : Nat) "DigFill$Land" "wantCount" "I") ∈ am_words := am_in 78 we_78.1 we_78.2
theorem wd_81 : (Jvm.Cond.fieldLink "DigFill$Land" (33 : Nat) "DigFill$Land" "texts" "[LDigFill$Text;") ∈ am_words := am_in 81 we_81.1 we_81.2
theorem wd_82 : (Jvm.Cond.fieldLink "DigFill$Land" (37 : Nat) "DigFill$Land" "textCount" "I") ∈ am_words := am_in 82 we_82.1 we_82.2
theorem wd_84 : (Jvm.Cond.fieldLink "DigFill$Land" (40 : Nat) "DigFill$Land" "counting" "[I") ∈ am_words := am_in 84 we_84.1 we_84.2
theorem wd_86 : (Jvm.Cond.fieldLink "DigFill$Land" (43 : Nat) "DigFill$Land" "mile" "I") ∈ am_words := am_in 86 we_86.1 we_86.2
theorem wd_88 : (Jvm.Cond.fieldLink "DigFill$Land" (46 : Nat) "DigFill$Land" "swell" "I") ∈ am_words := am_in 88 we_88.1 we_88.2
theorem wd_90 : (Jvm.Cond.fieldLink "DigFill$Land" (49 : Nat) "DigFill$Land" "day" "I") ∈ am_words := am_in 90 we_90.1 we_90.2
theorem wd_92 : (Jvm.Cond.fieldLink "DigFill$Land" (52 : Nat) "DigFill$Land" "lifted" "I") ∈ am_words := am_in 92 we_92.1 we_92.2
theorem wd_94 : (Jvm.Cond.fieldLink "DigFill$Land" (55 : Nat) "DigFill$Land" "lost" "I") ∈ am_words := am_in 94 we_94.1 we_94.2
theorem wd_96 : (Jvm.Cond.fieldLink "DigFill$Land" (58 : Nat) "DigFill$Land" "z" "I") ∈ am_words := am_in 96 we_96.1 we_96.2
theorem wd_127 : (Jvm.Cond.classLink "DigFill" (26 : Nat) "DigFill$Dealer") ∈ am_words := am_in 127 we_127.1 we_127.2
theorem wd_128 : (Jvm.Cond.instantiable "DigFill$Dealer" (4 : Nat)) ∈ am_words := am_in 128 we_128.1 we_128.2
theorem wd_130 : (Jvm.Cond.instanceMethod ({ cls := "DigFill$Dealer", name := "<init>", desc := "()V" } : Jvm.MethodName)) ∈ am_words := am_in 130 we_130.1 we_130.2
theorem wd_131 : (Jvm.Cond.code ({ cls := "DigFill$Dealer", name := "<init>", desc := "()V" } : Jvm.MethodName) prog_2_method_1_code (1 : Nat) (Option.none : Option Jvm.ClassFile.FieldType)) ∈ am_words := am_in 131 we_131.1 we_131.2
theorem wd_132 : (Jvm.Cond.methodLink "DigFill$Dealer" (5 : Nat) ({ cls := "java/lang/Object", name := "<init>", desc := "()V" } : Jvm.MethodName)) ∈ am_words := am_in 132 we_132.1 we_132.2
theorem wd_133 : (Jvm.Cond.fieldLink "DigFill$Dealer" (11 : Nat) "DigFill$Dealer" "leastFor" "[J") ∈ am_words := am_in 133 we_133.1 we_133.2
theorem wd_134 : (Jvm.Cond.fieldLink "DigFill$Dealer" (15 : Nat) "DigFill$Dealer" "prices" "[J") ∈ am_words := am_in 134 we_134.1 we_134.2
theorem wd_135 : (Jvm.Cond.fieldLink "DigFill$Dealer" (18 : Nat) "DigFill$Dealer" "wants" "I") ∈ am_words := am_in 135 we_135.1 we_135.2
theorem wd_136 : (Jvm.Cond.fieldLink "DigFill$Dealer" (22 : Nat) "DigFill$Dealer" "least" "J") ∈ am_words := am_in 136 we_136.1 we_136.2
theorem wd_146 : (Jvm.Cond.arrayClass Jvm.ClassFile.FieldType.long) ∈ am_words := am_in 146 we_146.1 we_146.2
theorem wd_147 : (Jvm.Cond.classLink "DigFill" (33 : Nat) "DigFill$Tape") ∈ am_words := am_in 147 we_147.1 we_147.2
theorem wd_148 : (Jvm.Cond.instantiable "DigFill$Tape" (11 : Nat)) ∈ am_words := am_in 148 we_148.1 we_148.2
theorem wd_150 : (Jvm.Cond.instanceMethod ({ cls := "DigFill$Tape", name := "<init>", desc := "()V" } : Jvm.MethodName)) ∈ am_words := am_in 150 we_150.1 we_150.2
theorem wd_151 : (Jvm.Cond.code ({ cls := "DigFill$Tape", name := "<init>", desc := "()V" } : Jvm.MethodName) prog_7_method_1_code (1 : Nat) (Option.none : Option Jvm.ClassFile.FieldType)) ∈ am_words := am_in 151 we_151.1 we_151.2
theorem wd_152 : (Jvm.Cond.methodLink "DigFill$Tape" (3 : Nat) ({ cls := "java/lang/Object", name := "<init>", desc := "()V" } : Jvm.MethodName)) ∈ am_words := am_in 152 we_152.1 we_152.2
theorem wd_153 : (Jvm.Cond.fieldLink "DigFill$Tape" (9 : Nat) "DigFill$Tape" "bytes" "[I") ∈ am_words := am_in 153 we_153.1 we_153.2
theorem wd_154 : (Jvm.Cond.fieldLink "DigFill$Tape" (15 : Nat) "DigFill$Tape" "length" "I") ∈ am_words := am_in 154 we_154.1 we_154.2
theorem wd_156 : (Jvm.Cond.fieldLink "DigFill$Tape" (19 : Nat) "DigFill$Tape" "at" "I") ∈ am_words := am_in 156 we_156.1 we_156.2
theorem wd_158 : (Jvm.Cond.fieldLink "DigFill$Tape" (22 : Nat) "DigFill$Tape" "end" "I") ∈ am_words := am_in 158 we_158.1 we_158.2
theorem wd_159 : (Jvm.Cond.fieldLink "DigFill$Tape" (25 : Nat) "DigFill$Tape" "sign" "I") ∈ am_words := am_in 159 we_159.1 we_159.2
theorem wd_160 : (Jvm.Cond.fieldLink "DigFill$Tape" (28 : Nat) "DigFill$Tape" "key" "I") ∈ am_words := am_in 160 we_160.1 we_160.2
theorem wd_161 : (Jvm.Cond.fieldLink "DigFill$Tape" (31 : Nat) "DigFill$Tape" "pieces" "I") ∈ am_words := am_in 161 we_161.1 we_161.2
theorem wd_162 : (Jvm.Cond.fieldLink "DigFill$Tape" (34 : Nat) "DigFill$Tape" "openBrackets" "I") ∈ am_words := am_in 162 we_162.1 we_162.2
theorem wd_163 : (Jvm.Cond.fieldLink "DigFill$Tape" (37 : Nat) "DigFill$Tape" "openNots" "I") ∈ am_words := am_in 163 we_163.1 we_163.2
theorem wd_164 : (Jvm.Cond.fieldLink "DigFill$Tape" (40 : Nat) "DigFill$Tape" "codes" "[I") ∈ am_words := am_in 164 we_164.1 we_164.2
theorem wd_165 : (Jvm.Cond.fieldLink "DigFill$Tape" (43 : Nat) "DigFill$Tape" "codeCount" "I") ∈ am_words := am_in 165 we_165.1 we_165.2
theorem wd_189 : (Jvm.Cond.classLink "DigFill" (40 : Nat) "DigFill$Sheet") ∈ am_words := am_in 189 we_189.1 we_189.2
theorem wd_191 : (Jvm.Cond.classLink "DigFill" (46 : Nat) "DigFill$Slot") ∈ am_words := am_in 191 we_191.1 we_191.2
theorem wd_193 : (Jvm.Cond.instantiable "DigFill$Sheet" (3 : Nat)) ∈ am_words := am_in 193 we_193.1 we_193.2
theorem wd_195 : (Jvm.Cond.instanceMethod ({ cls := "DigFill$Sheet", name := "<init>", desc := "()V" } : Jvm.MethodName)) ∈ am_words := am_in 195 we_195.1 we_195.2
theorem wd_196 : (Jvm.Cond.code ({ cls := "DigFill$Sheet", name := "<init>", desc := "()V" } : Jvm.MethodName) prog_5_method_1_code (1 : Nat) (Option.none : Option Jvm.ClassFile.FieldType)) ∈ am_words := am_in 196 we_196.1 we_196.2
theorem wd_197 : (Jvm.Cond.methodLink "DigFill$Sheet" (3 : Nat) ({ cls := "java/lang/Object", name := "<init>", desc := "()V" } : Jvm.MethodName)) ∈ am_words := am_in 197 we_197.1 we_197.2
theorem wd_198 : (Jvm.Cond.fieldLink "DigFill$Sheet" (9 : Nat) "DigFill$Sheet" "sort" "I") ∈ am_words := am_in 198 we_198.1 we_198.2
theorem wd_200 : (Jvm.Cond.fieldLink "DigFill$Sheet" (15 : Nat) "DigFill$Sheet" "size" "I") ∈ am_words := am_in 200 we_200.1 we_200.2
theorem wd_202 : (Jvm.Cond.fieldLink "DigFill$Sheet" (18 : Nat) "DigFill$Sheet" "places" "[I") ∈ am_words := am_in 202 we_202.1 we_202.2
theorem wd_211 : (Jvm.Cond.instantiable "DigFill$Slot" (4 : Nat)) ∈ am_words := am_in 211 we_211.1 we_211.2
theorem wd_213 : (Jvm.Cond.instanceMethod ({ cls := "DigFill$Slot", name := "<init>", desc := "()V" } : Jvm.MethodName)) ∈ am_words := am_in 213 we_213.1 we_213.2
theorem wd_214 : (Jvm.Cond.code ({ cls := "DigFill$Slot", name := "<init>", desc := "()V" } : Jvm.MethodName) prog_6_method_1_code (1 : Nat) (Option.none : Option Jvm.ClassFile.FieldType)) ∈ am_words := am_in 214 we_214.1 we_214.2
theorem wd_215 : (Jvm.Cond.methodLink "DigFill$Slot" (3 : Nat) ({ cls := "java/lang/Object", name := "<init>", desc := "()V" } : Jvm.MethodName)) ∈ am_words := am_in 215 we_215.1 we_215.2
theorem wd_216 : (Jvm.Cond.classLink "DigFill$Slot" (18 : Nat) "DigFill$Hole") ∈ am_words := am_in 216 we_216.1 we_216.2
theorem wd_218 : (Jvm.Cond.classLink "DigFill$Slot" (25 : Nat) "DigFill$Sheet") ∈ am_words := am_in 218 we_218.1 we_218.2
theorem wd_220 : (Jvm.Cond.fieldLink "DigFill$Slot" (9 : Nat) "DigFill$Slot" "thing" "I") ∈ am_words := am_in 220 we_220.1 we_220.2
theorem wd_222 : (Jvm.Cond.fieldLink "DigFill$Slot" (15 : Nat) "DigFill$Slot" "number" "I") ∈ am_words := am_in 222 we_222.1 we_222.2
theorem wd_224 : (Jvm.Cond.fieldLink "DigFill$Slot" (21 : Nat) "DigFill$Slot" "hole" "LDigFill$Hole;") ∈ am_words := am_in 224 we_224.1 we_224.2
theorem wd_226 : (Jvm.Cond.fieldLink "DigFill$Slot" (28 : Nat) "DigFill$Slot" "row" "LDigFill$Sheet;") ∈ am_words := am_in 226 we_226.1 we_226.2
theorem wd_237 : (Jvm.Cond.fieldLink "DigFill" (10 : Nat) "DigFill" "now" "LDigFill$Land;") ∈ am_words := am_in 237 we_237.1 we_237.2
theorem wd_238 : (Jvm.Cond.fieldLink "DigFill" (16 : Nat) "DigFill" "thought" "LDigFill$Land;") ∈ am_words := am_in 238 we_238.1 we_238.2
theorem wd_239 : (Jvm.Cond.fieldLink "DigFill" (19 : Nat) "DigFill" "image" "LDigFill$Land;") ∈ am_words := am_in 239 we_239.1 we_239.2
theorem wd_240 : (Jvm.Cond.fieldLink "DigFill" (22 : Nat) "DigFill" "kept" "Z") ∈ am_words := am_in 240 we_240.1 we_240.2
theorem wd_241 : (Jvm.Cond.fieldLink "DigFill" (29 : Nat) "DigFill" "dealer" "LDigFill$Dealer;") ∈ am_words := am_in 241 we_241.1 we_241.2
theorem wd_242 : (Jvm.Cond.fieldLink "DigFill" (36 : Nat) "DigFill" "tape" "LDigFill$Tape;") ∈ am_words := am_in 242 we_242.1 we_242.2
theorem wd_243 : (Jvm.Cond.fieldLink "DigFill" (42 : Nat) "DigFill" "sheets" "[LDigFill$Sheet;") ∈ am_words := am_in 243 we_243.1 we_243.2
theorem wd_244 : (Jvm.Cond.fieldLink "DigFill" (48 : Nat) "DigFill" "slots" "[LDigFill$Slot;") ∈ am_words := am_in 244 we_244.1 we_244.2
theorem wd_245 : (Jvm.Cond.fieldLink "DigFill" (52 : Nat) "DigFill" "waiting" "[I") ∈ am_words := am_in 245 we_245.1 we_245.2
theorem wd_246 : (Jvm.Cond.fieldLink "DigFill" (56 : Nat) "DigFill" "waitingCount" "I") ∈ am_words := am_in 246 we_246.1 we_246.2
theorem wd_247 : (Jvm.Cond.fieldLink "DigFill" (60 : Nat) "DigFill" "differences" "[I") ∈ am_words := am_in 247 we_247.1 we_247.2
theorem wd_271 : (Jvm.Cond.methodLink "DigFillLaw" (13 : Nat) ({ cls := "DigFill", name := "hole", desc := "(IIII)I" } : Jvm.MethodName)) ∈ am_words := am_in 271 we_271.1 we_271.2
theorem wd_272 : (Jvm.Cond.instanceMethod ({ cls := "DigFill", name := "hole", desc := "(IIII)I" } : Jvm.MethodName)) ∈ am_words := am_in 272 we_272.1 we_272.2
theorem wd_273 : (Jvm.Cond.selects "DigFill" ({ cls := "DigFill", name := "hole", desc := "(IIII)I" } : Jvm.MethodName) ({ cls := "DigFill", name := "hole", desc := "(IIII)I" } : Jvm.MethodName)) ∈ am_words := am_in 273 we_273.1 we_273.2
theorem wd_274 : (Jvm.Cond.code ({ cls := "DigFill", name := "hole", desc := "(IIII)I" } : Jvm.MethodName) prog_1_method_2_code (5 : Nat) (Option.some Jvm.ClassFile.FieldType.int)) ∈ am_words := am_in 274 we_274.1 we_274.2
theorem wd_275 : (Jvm.Cond.methodLink "DigFill" (65 : Nat) ({ cls := "DigFill", name := "within", desc := "(II)Z" } : Jvm.MethodName)) ∈ am_words := am_in 275 we_275.1 we_275.2
theorem wd_276 : (Jvm.Cond.static ({ cls := "DigFill", name := "within", desc := "(II)Z" } : Jvm.MethodName)) ∈ am_words := am_in 276 we_276.1 we_276.2
theorem wd_277 : (Jvm.Cond.code ({ cls := "DigFill", name := "within", desc := "(II)Z" } : Jvm.MethodName) prog_1_method_45_code (2 : Nat) (Option.some Jvm.ClassFile.FieldType.boolean)) ∈ am_words := am_in 277 we_277.1 we_277.2
theorem wd_278 : (Jvm.Cond.constant "DigFill" (69 : Nat) (-1000000001 : Int32)) ∈ am_words := am_in 278 we_278.1 we_278.2
theorem wd_279 : (Jvm.Cond.constant "DigFill" (73 : Nat) (-1000000003 : Int32)) ∈ am_words := am_in 279 we_279.1 we_279.2
theorem wd_280 : (Jvm.Cond.methodLink "DigFill" (74 : Nat) ({ cls := "DigFill$Land", name := "open", desc := "(IIII)I" } : Jvm.MethodName)) ∈ am_words := am_in 280 we_280.1 we_280.2
theorem wd_281 : (Jvm.Cond.instanceMethod ({ cls := "DigFill$Land", name := "open", desc := "(IIII)I" } : Jvm.MethodName)) ∈ am_words := am_in 281 we_281.1 we_281.2
theorem wd_282 : (Jvm.Cond.selects "DigFill$Land" ({ cls := "DigFill$Land", name := "open", desc := "(IIII)I" } : Jvm.MethodName) ({ cls := "DigFill$Land", name := "open", desc := "(IIII)I" } : Jvm.MethodName)) ∈ am_words := am_in 282 we_282.1 we_282.2
theorem wd_283 : (Jvm.Cond.code ({ cls := "DigFill$Land", name := "open", desc := "(IIII)I" } : Jvm.MethodName) prog_4_method_4_code (6 : Nat) (Option.some Jvm.ClassFile.FieldType.int)) ∈ am_words := am_in 283 we_283.1 we_283.2
theorem wd_284 : (Jvm.Cond.constant "DigFill$Land" (72 : Nat) (-1000000003 : Int32)) ∈ am_words := am_in 284 we_284.1 we_284.2
theorem wd_285 : (Jvm.Cond.methodLink "DigFill$Land" (73 : Nat) ({ cls := "DigFill$Hole", name := "start", desc := "(IIII)V" } : Jvm.MethodName)) ∈ am_words := am_in 285 we_285.1 we_285.2
theorem wd_286 : (Jvm.Cond.instanceMethod ({ cls := "DigFill$Hole", name := "start", desc := "(IIII)V" } : Jvm.MethodName)) ∈ am_words := am_in 286 we_286.1 we_286.2
theorem wd_287 : (Jvm.Cond.selects "DigFill$Hole" ({ cls := "DigFill$Hole", name := "start", desc := "(IIII)V" } : Jvm.MethodName) ({ cls := "DigFill$Hole", name := "start", desc := "(IIII)V" } : Jvm.MethodName)) ∈ am_words := am_in 287 we_287.1 we_287.2
theorem wd_288 : (Jvm.Cond.code ({ cls := "DigFill$Hole", name := "start", desc := "(IIII)V" } : Jvm.MethodName) prog_3_method_2_code (5 : Nat) (Option.none : Option Jvm.ClassFile.FieldType)) ∈ am_words := am_in 288 we_288.1 we_288.2
theorem wd_289 : (Jvm.Cond.methodLink "DigFillLaw" (18 : Nat) ({ cls := "DigFill", name := "told", desc := "(II)I" } : Jvm.MethodName)) ∈ am_words := am_in 289 we_289.1 we_289.2
theorem wd_290 : (Jvm.Cond.instanceMethod ({ cls := "DigFill", name := "told", desc := "(II)I" } : Jvm.MethodName)) ∈ am_words := am_in 290 we_290.1 we_290.2
theorem wd_291 : (Jvm.Cond.selects "DigFill" ({ cls := "DigFill", name := "told", desc := "(II)I" } : Jvm.MethodName) ({ cls := "DigFill", name := "told", desc := "(II)I" } : Jvm.MethodName)) ∈ am_words := am_in 291 we_291.1 we_291.2
theorem wd_292 : (Jvm.Cond.code ({ cls := "DigFill", name := "told", desc := "(II)I" } : Jvm.MethodName) prog_1_method_3_code (4 : Nat) (Option.some Jvm.ClassFile.FieldType.int)) ∈ am_words := am_in 292 we_292.1 we_292.2
theorem wd_293 : (Jvm.Cond.methodLink "DigFill" (78 : Nat) ({ cls := "DigFill$Land", name := "find", desc := "(I)LDigFill$Hole;" } : Jvm.MethodName)) ∈ am_words := am_in 293 we_293.1 we_293.2
theorem wd_294 : (Jvm.Cond.instanceMethod ({ cls := "DigFill$Land", name := "find", desc := "(I)LDigFill$Hole;" } : Jvm.MethodName)) ∈ am_words := am_in 294 we_294.1 we_294.2
theorem wd_295 : (Jvm.Cond.selects "DigFill$Land" ({ cls := "DigFill$Land", name := "find", desc := "(I)LDigFill$Hole;" } : Jvm.MethodName) ({ cls := "DigFill$Land", name := "find", desc := "(I)LDigFill$Hole;" } : Jvm.MethodName)) ∈ am_words := am_in 295 we_295.1 we_295.2
theorem wd_296 : (Jvm.Cond.code ({ cls := "DigFill$Land", name := "find", desc := "(I)LDigFill$Hole;" } : Jvm.MethodName) prog_4_method_3_code (2 : Nat) (Option.some (Jvm.ClassFile.FieldType.object "DigFill$Hole"))) ∈ am_words := am_in 296 we_296.1 we_296.2
theorem wd_297 : (Jvm.Cond.methodLink "DigFill" (82 : Nat) ({ cls := "DigFill$Hole", name := "part", desc := "(I)I" } : Jvm.MethodName)) ∈ am_words := am_in 297 we_297.1 we_297.2
theorem wd_298 : (Jvm.Cond.instanceMethod ({ cls := "DigFill$Hole", name := "part", desc := "(I)I" } : Jvm.MethodName)) ∈ am_words := am_in 298 we_298.1 we_298.2
theorem wd_299 : (Jvm.Cond.selects "DigFill$Hole" ({ cls := "DigFill$Hole", name := "part", desc := "(I)I" } : Jvm.MethodName) ({ cls := "DigFill$Hole", name := "part", desc := "(I)I" } : Jvm.MethodName)) ∈ am_words := am_in 299 we_299.1 we_299.2
theorem wd_300 : (Jvm.Cond.code ({ cls := "DigFill$Hole", name := "part", desc := "(I)I" } : Jvm.MethodName) prog_3_method_4_code (2 : Nat) (Option.some Jvm.ClassFile.FieldType.int)) ∈ am_words := am_in 300 we_300.1 we_300.2
theorem wd_301 : (Jvm.Cond.methodLink "DigFill$Hole" (31 : Nat) ({ cls := "DigFill$Hole", name := "worth", desc := "()I" } : Jvm.MethodName)) ∈ am_words := am_in 301 we_301.1 we_301.2
theorem wd_302 : (Jvm.Cond.instanceMethod ({ cls := "DigFill$Hole", name := "worth", desc := "()I" } : Jvm.MethodName)) ∈ am_words := am_in 302 we_302.1 we_302.2
theorem wd_303 : (Jvm.Cond.selects "DigFill$Hole" ({ cls := "DigFill$Hole", name := "worth", desc := "()I" } : Jvm.MethodName) ({ cls := "DigFill$Hole", name := "worth", desc := "()I" } : Jvm.MethodName)) ∈ am_words := am_in 303 we_303.1 we_303.2
theorem wd_304 : (Jvm.Cond.code ({ cls := "DigFill$Hole", name := "worth", desc := "()I" } : Jvm.MethodName) prog_3_method_7_code (1 : Nat) (Option.some Jvm.ClassFile.FieldType.int)) ∈ am_words := am_in 304 we_304.1 we_304.2
theorem wd_305 : (Jvm.Cond.methodLink "DigFillLaw" (23 : Nat) ({ cls := "DigFill", name := "as", desc := "(II)I" } : Jvm.MethodName)) ∈ am_words := am_in 305 we_305.1 we_305.2
theorem wd_306 : (Jvm.Cond.instanceMethod ({ cls := "DigFill", name := "as", desc := "(II)I" } : Jvm.MethodName)) ∈ am_words := am_in 306 we_306.1 we_306.2
theorem wd_307 : (Jvm.Cond.selects "DigFill" ({ cls := "DigFill", name := "as", desc := "(II)I" } : Jvm.MethodName) ({ cls := "DigFill", name := "as", desc := "(II)I" } : Jvm.MethodName)) ∈ am_words := am_in 307 we_307.1 we_307.2
theorem wd_308 : (Jvm.Cond.code ({ cls := "DigFill", name := "as", desc := "(II)I" } : Jvm.MethodName) prog_1_method_4_code (4 : Nat) (Option.some Jvm.ClassFile.FieldType.int)) ∈ am_words := am_in 308 we_308.1 we_308.2
theorem wd_309 : (Jvm.Cond.methodLink "DigFill" (88 : Nat) ({ cls := "DigFill$Hole", name := "isOf", desc := "(I)Z" } : Jvm.MethodName)) ∈ am_words := am_in 309 we_309.1 we_309.2
theorem wd_310 : (Jvm.Cond.instanceMethod ({ cls := "DigFill$Hole", name := "isOf", desc := "(I)Z" } : Jvm.MethodName)) ∈ am_words := am_in 310 we_310.1 we_310.2
theorem wd_311 : (Jvm.Cond.selects "DigFill$Hole" ({ cls := "DigFill$Hole", name := "isOf", desc := "(I)Z" } : Jvm.MethodName) ({ cls := "DigFill$Hole", name := "isOf", desc := "(I)Z" } : Jvm.MethodName)) ∈ am_words := am_in 311 we_311.1 we_311.2
theorem wd_312 : (Jvm.Cond.code ({ cls := "DigFill$Hole", name := "isOf", desc := "(I)Z" } : Jvm.MethodName) prog_3_method_6_code (4 : Nat) (Option.some Jvm.ClassFile.FieldType.boolean)) ∈ am_words := am_in 312 we_312.1 we_312.2
theorem wd_315 : (Jvm.Cond.constant "DigFill" (95 : Nat) (-1000000012 : Int32)) ∈ am_words := am_in 315 we_315.1 we_315.2
theorem wd_316 : (Jvm.Cond.methodLink "DigFillLaw" (27 : Nat) ({ cls := "DigFill", name := "turns", desc := "(II)I" } : Jvm.MethodName)) ∈ am_words := am_in 316 we_316.1 we_316.2
theorem wd_317 : (Jvm.Cond.instanceMethod ({ cls := "DigFill", name := "turns", desc := "(II)I" } : Jvm.MethodName)) ∈ am_words := am_in 317 we_317.1 we_317.2
theorem wd_318 : (Jvm.Cond.selects "DigFill" ({ cls := "DigFill", name := "turns", desc := "(II)I" } : Jvm.MethodName) ({ cls := "DigFill", name := "turns", desc := "(II)I" } : Jvm.MethodName)) ∈ am_words := am_in 318 we_318.1 we_318.2
theorem wd_319 : (Jvm.Cond.code ({ cls := "DigFill", name := "turns", desc := "(II)I" } : Jvm.MethodName) prog_1_method_5_code (5 : Nat) (Option.some Jvm.ClassFile.FieldType.int)) ∈ am_words := am_in 319 we_319.1 we_319.2
theorem wd_320 : (Jvm.Cond.methodLink "DigFillLaw" (31 : Nat) ({ cls := "DigFill", name := "set", desc := "(III)I" } : Jvm.MethodName)) ∈ am_words := am_in 320 we_320.1 we_320.2
theorem wd_321 : (Jvm.Cond.instanceMethod ({ cls := "DigFill", name := "set", desc := "(III)I" } : Jvm.MethodName)) ∈ am_words := am_in 321 we_321.1 we_321.2
theorem wd_322 : (Jvm.Cond.selects "DigFill" ({ cls := "DigFill", name := "set", desc := "(III)I" } : Jvm.MethodName) ({ cls := "DigFill", name := "set", desc := "(III)I" } : Jvm.MethodName)) ∈ am_words := am_in 322 we_322.1 we_322.2
theorem wd_323 : (Jvm.Cond.code ({ cls := "DigFill", name := "set", desc := "(III)I" } : Jvm.MethodName) prog_1_method_6_code (6 : Nat) (Option.some Jvm.ClassFile.FieldType.int)) ∈ am_words := am_in 323 we_323.1 we_323.2
theorem wd_324 : (Jvm.Cond.methodLink "DigFill" (99 : Nat) ({ cls := "DigFill", name := "mostOf", desc := "(I)I" } : Jvm.MethodName)) ∈ am_words := am_in 324 we_324.1 we_324.2
theorem wd_325 : (Jvm.Cond.static ({ cls := "DigFill", name := "mostOf", desc := "(I)I" } : Jvm.MethodName)) ∈ am_words := am_in 325 we_325.1 we_325.2
theorem wd_326 : (Jvm.Cond.code ({ cls := "DigFill", name := "mostOf", desc := "(I)I" } : Jvm.MethodName) prog_1_method_48_code (1 : Nat) (Option.some Jvm.ClassFile.FieldType.int)) ∈ am_words := am_in 326 we_326.1 we_326.2
theorem wd_327 : (Jvm.Cond.methodLink "DigFill" (102 : Nat) ({ cls := "DigFill$Hole", name := "change", desc := "(II)V" } : Jvm.MethodName)) ∈ am_words := am_in 327 we_327.1 we_327.2
theorem wd_328 : (Jvm.Cond.instanceMethod ({ cls := "DigFill$Hole", name := "change", desc := "(II)V" } : Jvm.MethodName)) ∈ am_words := am_in 328 we_328.1 we_328.2
theorem wd_329 : (Jvm.Cond.selects "DigFill$Hole" ({ cls := "DigFill$Hole", name := "change", desc := "(II)V" } : Jvm.MethodName) ({ cls := "DigFill$Hole", name := "change", desc := "(II)V" } : Jvm.MethodName)) ∈ am_words := am_in 329 we_329.1 we_329.2
theorem wd_330 : (Jvm.Cond.code ({ cls := "DigFill$Hole", name := "change", desc := "(II)V" } : Jvm.MethodName) prog_3_method_5_code (3 : Nat) (Option.none : Option Jvm.ClassFile.FieldType)) ∈ am_words := am_in 330 we_330.1 we_330.2
theorem wd_331 : (Jvm.Cond.methodLink "DigFillLaw" (36 : Nat) ({ cls := "DigFill", name := "settles", desc := "(II)I" } : Jvm.MethodName)) ∈ am_words := am_in 331 we_331.1 we_331.2
theorem wd_332 : (Jvm.Cond.instanceMethod ({ cls := "DigFill", name := "settles", desc := "(II)I" } : Jvm.MethodName)) ∈ am_words := am_in 332 we_332.1 we_332.2
theorem wd_333 : (Jvm.Cond.selects "DigFill" ({ cls := "DigFill", name := "settles", desc := "(II)I" } : Jvm.MethodName) ({ cls := "DigFill", name := "settles", desc := "(II)I" } : Jvm.MethodName)) ∈ am_words := am_in 333 we_333.1 we_333.2
theorem wd_334 : (Jvm.Cond.code ({ cls := "DigFill", name := "settles", desc := "(II)I" } : Jvm.MethodName) prog_1_method_7_code (4 : Nat) (Option.some Jvm.ClassFile.FieldType.int)) ∈ am_words := am_in 334 we_334.1 we_334.2
theorem wd_335 : (Jvm.Cond.methodLink "DigFill" (106 : Nat) ({ cls := "DigFill$Land", name := "sinks", desc := "(LDigFill$Hole;I)I" } : Jvm.MethodName)) ∈ am_words := am_in 335 we_335.1 we_335.2
theorem wd_336 : (Jvm.Cond.instanceMethod ({ cls := "DigFill$Land", name := "sinks", desc := "(LDigFill$Hole;I)I" } : Jvm.MethodName)) ∈ am_words := am_in 336 we_336.1 we_336.2
theorem wd_337 : (Jvm.Cond.selects "DigFill$Land" ({ cls := "DigFill$Land", name := "sinks", desc := "(LDigFill$Hole;I)I" } : Jvm.MethodName) ({ cls := "DigFill$Land", name := "sinks", desc := "(LDigFill$Hole;I)I" } : Jvm.MethodName)) ∈ am_words := am_in 337 we_337.1 we_337.2
theorem wd_338 : (Jvm.Cond.code ({ cls := "DigFill$Land", name := "sinks", desc := "(LDigFill$Hole;I)I" } : Jvm.MethodName) prog_4_method_11_code (3 : Nat) (Option.some Jvm.ClassFile.FieldType.int)) ∈ am_words := am_in 338 we_338.1 we_338.2
theorem wd_339 : (Jvm.Cond.methodLink "DigFill$Land" (123 : Nat) ({ cls := "DigFill$Land", name := "sinksPlain", desc := "(LDigFill$Hole;I)I" } : Jvm.MethodName)) ∈ am_words := am_in 339 we_339.1 we_339.2
theorem wd_340 : (Jvm.Cond.instanceMethod ({ cls := "DigFill$Land", name := "sinksPlain", desc := "(LDigFill$Hole;I)I" } : Jvm.MethodName)) ∈ am_words := am_in 340 we_340.1 we_340.2
theorem wd_341 : (Jvm.Cond.selects "DigFill$Land" ({ cls := "DigFill$Land", name := "sinksPlain", desc := "(LDigFill$Hole;I)I" } : Jvm.MethodName) ({ cls := "DigFill$Land", name := "sinksPlain", desc := "(LDigFill$Hole;I)I" } : Jvm.MethodName)) ∈ am_words := am_in 341 we_341.1 we_341.2
theorem wd_342 : (Jvm.Cond.code ({ cls := "DigFill$Land", name := "sinksPlain", desc := "(LDigFill$Hole;I)I" } : Jvm.MethodName) prog_4_method_12_code (4 : Nat) (Option.some Jvm.ClassFile.FieldType.int)) ∈ am_words := am_in 342 we_342.1 we_342.2
theorem wd_343 : (Jvm.Cond.methodLink "DigFill$Land" (105 : Nat) ({ cls := "DigFill$Land", name := "textFor", desc := "(I)LDigFill$Text;" } : Jvm.MethodName)) ∈ am_words := am_in 343 we_343.1 we_343.2
theorem wd_344 : (Jvm.Cond.instanceMethod ({ cls := "DigFill$Land", name := "textFor", desc := "(I)LDigFill$Text;" } : Jvm.MethodName)) ∈ am_words := am_in 344 we_344.1 we_344.2
theorem wd_345 : (Jvm.Cond.selects "DigFill$Land" ({ cls := "DigFill$Land", name := "textFor", desc := "(I)LDigFill$Text;" } : Jvm.MethodName) ({ cls := "DigFill$Land", name := "textFor", desc := "(I)LDigFill$Text;" } : Jvm.MethodName)) ∈ am_words := am_in 345 we_345.1 we_345.2
theorem wd_346 : (Jvm.Cond.code ({ cls := "DigFill$Land", name := "textFor", desc := "(I)LDigFill$Text;" } : Jvm.MethodName) prog_4_method_19_code (2 : Nat) (Option.some (Jvm.ClassFile.FieldType.object "DigFill$Text"))) ∈ am_words := am_in 346 we_346.1 we_346.2
theorem wd_347 : (Jvm.Cond.methodLink "DigFill$Land" (136 : Nat) ({ cls := "DigFill$Land", name := "findText", desc := "(I)LDigFill$Text;" } : Jvm.MethodName)) ∈ am_words := am_in 347 we_347.1 we_347.2
theorem wd_348 : (Jvm.Cond.instanceMethod ({ cls := "DigFill$Land", name := "findText", desc := "(I)LDigFill$Text;" } : Jvm.MethodName)) ∈ am_words := am_in 348 we_348.1 we_348.2
theorem wd_349 : (Jvm.Cond.selects "DigFill$Land" ({ cls := "DigFill$Land", name := "findText", desc := "(I)LDigFill$Text;" } : Jvm.MethodName) ({ cls := "DigFill$Land", name := "findText", desc := "(I)LDigFill$Text;" } : Jvm.MethodName)) ∈ am_words := am_in 349 we_349.1 we_349.2
theorem wd_350 : (Jvm.Cond.code ({ cls := "DigFill$Land", name := "findText", desc := "(I)LDigFill$Text;" } : Jvm.MethodName) prog_4_method_18_code (2 : Nat) (Option.some (Jvm.ClassFile.FieldType.object "DigFill$Text"))) ∈ am_words := am_in 350 we_350.1 we_350.2
theorem wd_351 : (Jvm.Cond.methodLink "DigFill$Land" (115 : Nat) ({ cls := "DigFill$Text", name := "value", desc := "(III)I" } : Jvm.MethodName)) ∈ am_words := am_in 351 we_351.1 we_351.2
theorem wd_352 : (Jvm.Cond.instanceMethod ({ cls := "DigFill$Text", name := "value", desc := "(III)I" } : Jvm.MethodName)) ∈ am_words := am_in 352 we_352.1 we_352.2
theorem wd_353 : (Jvm.Cond.selects "DigFill$Text" ({ cls := "DigFill$Text", name := "value", desc := "(III)I" } : Jvm.MethodName) ({ cls := "DigFill$Text", name := "value", desc := "(III)I" } : Jvm.MethodName)) ∈ am_words := am_in 353 we_353.1 we_353.2
theorem wd_354 : (Jvm.Cond.code ({ cls := "DigFill$Text", name := "value", desc := "(III)I" } : Jvm.MethodName) prog_8_method_2_code (7 : Nat) (Option.some Jvm.ClassFile.FieldType.int)) ∈ am_words := am_in 354 we_354.1 we_354.2
theorem wd_355 : (Jvm.Cond.methodLink "DigFill$Text" (23 : Nat) ({ cls := "DigFill$Text", name := "plain", desc := "(IIII)I" } : Jvm.MethodName)) ∈ am_words := am_in 355 we_355.1 we_355.2
theorem wd_356 : (Jvm.Cond.static ({ cls := "DigFill$Text", name := "plain", desc := "(IIII)I" } : Jvm.MethodName)) ∈ am_words := am_in 356 we_356.1 we_356.2
theorem wd_357 : (Jvm.Cond.code ({ cls := "DigFill$Text", name := "plain", desc := "(IIII)I" } : Jvm.MethodName) prog_8_method_3_code (4 : Nat) (Option.some Jvm.ClassFile.FieldType.int)) ∈ am_words := am_in 357 we_357.1 we_357.2
theorem wd_358 : (Jvm.Cond.methodLink "DigFill$Text" (27 : Nat) ({ cls := "DigFill$Text", name := "joined", desc := "(III)I" } : Jvm.MethodName)) ∈ am_words := am_in 358 we_358.1 we_358.2
theorem wd_359 : (Jvm.Cond.static ({ cls := "DigFill$Text", name := "joined", desc := "(III)I" } : Jvm.MethodName)) ∈ am_words := am_in 359 we_359.1 we_359.2
theorem wd_360 : (Jvm.Cond.code ({ cls := "DigFill$Text", name := "joined", desc := "(III)I" } : Jvm.MethodName) prog_8_method_4_code (3 : Nat) (Option.some Jvm.ClassFile.FieldType.int)) ∈ am_words := am_in 360 we_360.1 we_360.2
theorem wd_362 : (Jvm.Cond.static ({ cls := "DigFill", name := "held", desc := "(II)I" } : Jvm.MethodName)) ∈ am_words := am_in 362 we_362.1 we_362.2
theorem wd_363 : (Jvm.Cond.code ({ cls := "DigFill", name := "held", desc := "(II)I" } : Jvm.MethodName) prog_1_method_47_code (2 : Nat) (Option.some Jvm.ClassFile.FieldType.int)) ∈ am_words := am_in 363 we_363.1 we_363.2
theorem wd_364 : (Jvm.Cond.methodLink "DigFill" (116 : Nat) ({ cls := "java/lang/Math", name := "min", desc := "(II)I" } : Jvm.MethodName)) ∈ am_words := am_in 364 we_364.1 we_364.2
theorem wd_365 : (Jvm.Cond.static ({ cls := "java/lang/Math", name := "min", desc := "(II)I" } : Jvm.MethodName)) ∈ am_words := am_in 365 we_365.1 we_365.2
theorem wd_367 : (Jvm.Cond.methodLink "DigFill" (173 : Nat) ({ cls := "java/lang/Math", name := "max", desc := "(II)I" } : Jvm.MethodName)) ∈ am_words := am_in 367 we_367.1 we_367.2
theorem wd_368 : (Jvm.Cond.static ({ cls := "java/lang/Math", name := "max", desc := "(II)I" } : Jvm.MethodName)) ∈ am_words := am_in 368 we_368.1 we_368.2
theorem wd_370 : (Jvm.Cond.methodLink "DigFill$Land" (127 : Nat) ({ cls := "java/lang/Math", name := "min", desc := "(II)I" } : Jvm.MethodName)) ∈ am_words := am_in 370 we_370.1 we_370.2
theorem wd_371 : (Jvm.Cond.methodLink "DigFillLaw" (40 : Nat) ({ cls := "DigFill", name := "rule", desc := "(II)I" } : Jvm.MethodName)) ∈ am_words := am_in 371 we_371.1 we_371.2
theorem wd_372 : (Jvm.Cond.instanceMethod ({ cls := "DigFill", name := "rule", desc := "(II)I" } : Jvm.MethodName)) ∈ am_words := am_in 372 we_372.1 we_372.2
theorem wd_373 : (Jvm.Cond.selects "DigFill" ({ cls := "DigFill", name := "rule", desc := "(II)I" } : Jvm.MethodName) ({ cls := "DigFill", name := "rule", desc := "(II)I" } : Jvm.MethodName)) ∈ am_words := am_in 373 we_373.1 we_373.2
theorem wd_374 : (Jvm.Cond.code ({ cls := "DigFill", name := "rule", desc := "(II)I" } : Jvm.MethodName) prog_1_method_8_code (4 : Nat) (Option.some Jvm.ClassFile.FieldType.int)) ∈ am_words := am_in 374 we_374.1 we_374.2
theorem wd_375 : (Jvm.Cond.methodLink "DigFillLaw" (44 : Nat) ({ cls := "DigFill", name := "deal", desc := "(I)I" } : Jvm.MethodName)) ∈ am_words := am_in 375 we_375.1 we_375.2
theorem wd_376 : (Jvm.Cond.instanceMethod ({ cls := "DigFill", name := "deal", desc := "(I)I" } : Jvm.MethodName)) ∈ am_words := am_in 376 we_376.1 we_376.2
theorem wd_377 : (Jvm.Cond.selects "DigFill" ({ cls := "DigFill", name := "deal", desc := "(I)I" } : Jvm.MethodName) ({ cls := "DigFill", name := "deal", desc := "(I)I" } : Jvm.MethodName)) ∈ am_words := am_in 377 we_377.1 we_377.2
theorem wd_378 : (Jvm.Cond.code ({ cls := "DigFill", name := "deal", desc := "(I)I" } : Jvm.MethodName) prog_1_method_9_code (4 : Nat) (Option.some Jvm.ClassFile.FieldType.int)) ∈ am_words := am_in 378 we_378.1 we_378.2
theorem wd_379 : (Jvm.Cond.methodLink "DigFill" (122 : Nat) ({ cls := "DigFill$Land", name := "openByLot", desc := "()V" } : Jvm.MethodName)) ∈ am_words := am_in 379 we_379.1 we_379.2
theorem wd_380 : (Jvm.Cond.instanceMethod ({ cls := "DigFill$Land", name := "openByLot", desc := "()V" } : Jvm.MethodName)) ∈ am_words := am_in 380 we_380.1 we_380.2
theorem wd_381 : (Jvm.Cond.selects "DigFill$Land" ({ cls := "DigFill$Land", name := "openByLot", desc := "()V" } : Jvm.MethodName) ({ cls := "DigFill$Land", name := "openByLot", desc := "()V" } : Jvm.MethodName)) ∈ am_words := am_in 381 we_381.1 we_381.2
theorem wd_382 : (Jvm.Cond.code ({ cls := "DigFill$Land", name := "openByLot", desc := "()V" } : Jvm.MethodName) prog_4_method_5_code (5 : Nat) (Option.none : Option Jvm.ClassFile.FieldType)) ∈ am_words := am_in 382 we_382.1 we_382.2
theorem wd_383 : (Jvm.Cond.methodLink "DigFill$Land" (77 : Nat) ({ cls := "DigFill$Land", name := "draw", desc := "()I" } : Jvm.MethodName)) ∈ am_words := am_in 383 we_383.1 we_383.2
theorem wd_384 : (Jvm.Cond.instanceMethod ({ cls := "DigFill$Land", name := "draw", desc := "()I" } : Jvm.MethodName)) ∈ am_words := am_in 384 we_384.1 we_384.2
theorem wd_385 : (Jvm.Cond.selects "DigFill$Land" ({ cls := "DigFill$Land", name := "draw", desc := "()I" } : Jvm.MethodName) ({ cls := "DigFill$Land", name := "draw", desc := "()I" } : Jvm.MethodName)) ∈ am_words := am_in 385 we_385.1 we_385.2
theorem wd_386 : (Jvm.Cond.code ({ cls := "DigFill$Land", name := "draw", desc := "()I" } : Jvm.MethodName) prog_4_method_6_code (1 : Nat) (Option.some Jvm.ClassFile.FieldType.int)) ∈ am_words := am_in 386 we_386.1 we_386.2
theorem wd_387 : (Jvm.Cond.constant "DigFill$Land" (85 : Nat) (1103515245 : Int32)) ∈ am_words := am_in 387 we_387.1 we_387.2
theorem wd_388 : (Jvm.Cond.methodLink "DigFill$Land" (81 : Nat) ({ cls := "DigFill$Land", name := "open", desc := "(IIII)I" } : Jvm.MethodName)) ∈ am_words := am_in 388 we_388.1 we_388.2
theorem wd_389 : (Jvm.Cond.methodLink "DigFillLaw" (49 : Nat) ({ cls := "DigFill", name := "seed", desc := "(I)I" } : Jvm.MethodName)) ∈ am_words := am_in 389 we_389.1 we_389.2
theorem wd_390 : (Jvm.Cond.instanceMethod ({ cls := "DigFill", name := "seed", desc := "(I)I" } : Jvm.MethodName)) ∈ am_words := am_in 390 we_390.1 we_390.2
theorem wd_391 : (Jvm.Cond.selects "DigFill" ({ cls := "DigFill", name := "seed", desc := "(I)I" } : Jvm.MethodName) ({ cls := "DigFill", name := "seed", desc := "(I)I" } : Jvm.MethodName)) ∈ am_words := am_in 391 we_391.1 we_391.2
theorem wd_392 : (Jvm.Cond.code ({ cls := "DigFill", name := "seed", desc := "(I)I" } : Jvm.MethodName) prog_1_method_10_code (3 : Nat) (Option.some Jvm.ClassFile.FieldType.int)) ∈ am_words := am_in 392 we_392.1 we_392.2
theorem wd_393 : (Jvm.Cond.methodLink "DigFillLaw" (53 : Nat) ({ cls := "DigFill", name := "takes", desc := "(II)I" } : Jvm.MethodName)) ∈ am_words := am_in 393 we_393.1 we_393.2
theorem wd_394 : (Jvm.Cond.instanceMethod ({ cls := "DigFill", name := "takes", desc := "(II)I" } : Jvm.MethodName)) ∈ am_words := am_in 394 we_394.1 we_394.2
theorem wd_395 : (Jvm.Cond.selects "DigFill" ({ cls := "DigFill", name := "takes", desc := "(II)I" } : Jvm.MethodName) ({ cls := "DigFill", name := "takes", desc := "(II)I" } : Jvm.MethodName)) ∈ am_words := am_in 395 we_395.1 we_395.2
theorem wd_396 : (Jvm.Cond.code ({ cls := "DigFill", name := "takes", desc := "(II)I" } : Jvm.MethodName) prog_1_method_11_code (6 : Nat) (Option.some Jvm.ClassFile.FieldType.int)) ∈ am_words := am_in 396 we_396.1 we_396.2
theorem wd_397 : (Jvm.Cond.methodLink "DigFill" (128 : Nat) ({ cls := "DigFill", name := "isSpades", desc := "(I)Z" } : Jvm.MethodName)) ∈ am_words := am_in 397 we_397.1 we_397.2
theorem wd_398 : (Jvm.Cond.static ({ cls := "DigFill", name := "isSpades", desc := "(I)Z" } : Jvm.MethodName)) ∈ am_words := am_in 398 we_398.1 we_398.2
theorem wd_399 : (Jvm.Cond.code ({ cls := "DigFill", name := "isSpades", desc := "(I)Z" } : Jvm.MethodName) prog_1_method_46_code (1 : Nat) (Option.some Jvm.ClassFile.FieldType.boolean)) ∈ am_words := am_in 399 we_399.1 we_399.2
theorem wd_400 : (Jvm.Cond.methodLink "DigFill" (131 : Nat) ({ cls := "DigFill$Land", name := "earthOf", desc := "(I)I" } : Jvm.MethodName)) ∈ am_words := am_in 400 we_400.1 we_400.2
theorem wd_401 : (Jvm.Cond.instanceMethod ({ cls := "DigFill$Land", name := "earthOf", desc := "(I)I" } : Jvm.MethodName)) ∈ am_words := am_in 401 we_401.1 we_401.2
theorem wd_402 : (Jvm.Cond.selects "DigFill$Land" ({ cls := "DigFill$Land", name := "earthOf", desc := "(I)I" } : Jvm.MethodName) ({ cls := "DigFill$Land", name := "earthOf", desc := "(I)I" } : Jvm.MethodName)) ∈ am_words := am_in 402 we_402.1 we_402.2
theorem wd_403 : (Jvm.Cond.code ({ cls := "DigFill$Land", name := "earthOf", desc := "(I)I" } : Jvm.MethodName) prog_4_method_8_code (2 : Nat) (Option.some Jvm.ClassFile.FieldType.int)) ∈ am_words := am_in 403 we_403.1 we_403.2
theorem wd_404 : (Jvm.Cond.methodLink "DigFill" (138 : Nat) ({ cls := "DigFill$Land", name := "canFill", desc := "(LDigFill$Hole;II)Z" } : Jvm.MethodName)) ∈ am_words := am_in 404 we_404.1 we_404.2
theorem wd_405 : (Jvm.Cond.instanceMethod ({ cls := "DigFill$Land", name := "canFill", desc := "(LDigFill$Hole;II)Z" } : Jvm.MethodName)) ∈ am_words := am_in 405 we_405.1 we_405.2
theorem wd_406 : (Jvm.Cond.selects "DigFill$Land" ({ cls := "DigFill$Land", name := "canFill", desc := "(LDigFill$Hole;II)Z" } : Jvm.MethodName) ({ cls := "DigFill$Land", name := "canFill", desc := "(LDigFill$Hole;II)Z" } : Jvm.MethodName)) ∈ am_words := am_in 406 we_406.1 we_406.2
theorem wd_407 : (Jvm.Cond.code ({ cls := "DigFill$Land", name := "canFill", desc := "(LDigFill$Hole;II)Z" } : Jvm.MethodName) prog_4_method_9_code (7 : Nat) (Option.some Jvm.ClassFile.FieldType.boolean)) ∈ am_words := am_in 407 we_407.1 we_407.2
theorem wd_408 : (Jvm.Cond.methodLink "DigFill$Land" (92 : Nat) ({ cls := "java/lang/Math", name := "abs", desc := "(I)I" } : Jvm.MethodName)) ∈ am_words := am_in 408 we_408.1 we_408.2
theorem wd_409 : (Jvm.Cond.static ({ cls := "java/lang/Math", name := "abs", desc := "(I)I" } : Jvm.MethodName)) ∈ am_words := am_in 409 we_409.1 we_409.2
theorem wd_411 : (Jvm.Cond.methodLink "DigFill$Land" (101 : Nat) ({ cls := "DigFill$Land", name := "isOldEnough", desc := "(LDigFill$Hole;)Z" } : Jvm.MethodName)) ∈ am_words := am_in 411 we_411.1 we_411.2
theorem wd_412 : (Jvm.Cond.instanceMethod ({ cls := "DigFill$Land", name := "isOldEnough", desc := "(LDigFill$Hole;)Z" } : Jvm.MethodName)) ∈ am_words := am_in 412 we_412.1 we_412.2
theorem wd_413 : (Jvm.Cond.selects "DigFill$Land" ({ cls := "DigFill$Land", name := "isOldEnough", desc := "(LDigFill$Hole;)Z" } : Jvm.MethodName) ({ cls := "DigFill$Land", name := "isOldEnough", desc := "(LDigFill$Hole;)Z" } : Jvm.MethodName)) ∈ am_words := am_in 413 we_413.1 we_413.2
theorem wd_414 : (Jvm.Cond.code ({ cls := "DigFill$Land", name := "isOldEnough", desc := "(LDigFill$Hole;)Z" } : Jvm.MethodName) prog_4_method_10_code (3 : Nat) (Option.some Jvm.ClassFile.FieldType.boolean)) ∈ am_words := am_in 414 we_414.1 we_414.2
theorem wd_415 : (Jvm.Cond.methodLink "DigFillLaw" (57 : Nat) ({ cls := "DigFill", name := "dig", desc := "(IIII)I" } : Jvm.MethodName)) ∈ am_words := am_in 415 we_415.1 we_415.2
theorem wd_416 : (Jvm.Cond.instanceMethod ({ cls := "DigFill", name := "dig", desc := "(IIII)I" } : Jvm.MethodName)) ∈ am_words := am_in 416 we_416.1 we_416.2
theorem wd_417 : (Jvm.Cond.selects "DigFill" ({ cls := "DigFill", name := "dig", desc := "(IIII)I" } : Jvm.MethodName) ({ cls := "DigFill", name := "dig", desc := "(IIII)I" } : Jvm.MethodName)) ∈ am_words := am_in 417 we_417.1 we_417.2
theorem wd_418 : (Jvm.Cond.code ({ cls := "DigFill", name := "dig", desc := "(IIII)I" } : Jvm.MethodName) prog_1_method_12_code (8 : Nat) (Option.some Jvm.ClassFile.FieldType.int)) ∈ am_words := am_in 418 we_418.1 we_418.2
theorem wd_419 : (Jvm.Cond.constant "DigFill" (142 : Nat) (-1000000002 : Int32)) ∈ am_words := am_in 419 we_419.1 we_419.2
theorem wd_420 : (Jvm.Cond.methodLink "DigFill" (143 : Nat) ({ cls := "DigFill$Land", name := "roomAfter", desc := "(LDigFill$Hole;I)I" } : Jvm.MethodName)) ∈ am_words := am_in 420 we_420.1 we_420.2
theorem wd_421 : (Jvm.Cond.instanceMethod ({ cls := "DigFill$Land", name := "roomAfter", desc := "(LDigFill$Hole;I)I" } : Jvm.MethodName)) ∈ am_words := am_in 421 we_421.1 we_421.2
theorem wd_422 : (Jvm.Cond.selects "DigFill$Land" ({ cls := "DigFill$Land", name := "roomAfter", desc := "(LDigFill$Hole;I)I" } : Jvm.MethodName) ({ cls := "DigFill$Land", name := "roomAfter", desc := "(LDigFill$Hole;I)I" } : Jvm.MethodName)) ∈ am_words := am_in 422 we_422.1 we_422.2
theorem wd_423 : (Jvm.Cond.code ({ cls := "DigFill$Land", name := "roomAfter", desc := "(LDigFill$Hole;I)I" } : Jvm.MethodName) prog_4_method_7_code (5 : Nat) (Option.some Jvm.ClassFile.FieldType.int)) ∈ am_words := am_in 423 we_423.1 we_423.2
theorem wd_424 : (Jvm.Cond.methodLink "DigFill" (149 : Nat) ({ cls := "DigFill$Hole", name := "start", desc := "(IIII)V" } : Jvm.MethodName)) ∈ am_words := am_in 424 we_424.1 we_424.2
theorem wd_425 : (Jvm.Cond.methodLink "DigFillLaw" (61 : Nat) ({ cls := "DigFill", name := "want", desc := "(II)I" } : Jvm.MethodName)) ∈ am_words := am_in 425 we_425.1 we_425.2
theorem wd_426 : (Jvm.Cond.instanceMethod ({ cls := "DigFill", name := "want", desc := "(II)I" } : Jvm.MethodName)) ∈ am_words := am_in 426 we_426.1 we_426.2
theorem wd_427 : (Jvm.Cond.selects "DigFill" ({ cls := "DigFill", name := "want", desc := "(II)I" } : Jvm.MethodName) ({ cls := "DigFill", name := "want", desc := "(II)I" } : Jvm.MethodName)) ∈ am_words := am_in 427 we_427.1 we_427.2
theorem wd_428 : (Jvm.Cond.code ({ cls := "DigFill", name := "want", desc := "(II)I" } : Jvm.MethodName) prog_1_method_13_code (4 : Nat) (Option.some Jvm.ClassFile.FieldType.int)) ∈ am_words := am_in 428 we_428.1 we_428.2
theorem wd_429 : (Jvm.Cond.methodLink "DigFillLaw" (65 : Nat) ({ cls := "DigFill", name := "forget", desc := "()I" } : Jvm.MethodName)) ∈ am_words := am_in 429 we_429.1 we_429.2
theorem wd_430 : (Jvm.Cond.instanceMethod ({ cls := "DigFill", name := "forget", desc := "()I" } : Jvm.MethodName)) ∈ am_words := am_in 430 we_430.1 we_430.2
theorem wd_431 : (Jvm.Cond.selects "DigFill" ({ cls := "DigFill", name := "forget", desc := "()I" } : Jvm.MethodName) ({ cls := "DigFill", name := "forget", desc := "()I" } : Jvm.MethodName)) ∈ am_words := am_in 431 we_431.1 we_431.2
theorem wd_432 : (Jvm.Cond.code ({ cls := "DigFill", name := "forget", desc := "()I" } : Jvm.MethodName) prog_1_method_14_code (2 : Nat) (Option.some Jvm.ClassFile.FieldType.int)) ∈ am_words := am_in 432 we_432.1 we_432.2
theorem wd_433 : (Jvm.Cond.methodLink "DigFillLaw" (70 : Nat) ({ cls := "DigFill", name := "dealing", desc := "(I)I" } : Jvm.MethodName)) ∈ am_words := am_in 433 we_433.1 we_433.2
theorem wd_434 : (Jvm.Cond.instanceMethod ({ cls := "DigFill", name := "dealing", desc := "(I)I" } : Jvm.MethodName)) ∈ am_words := am_in 434 we_434.1 we_434.2
theorem wd_435 : (Jvm.Cond.selects "DigFill" ({ cls := "DigFill", name := "dealing", desc := "(I)I" } : Jvm.MethodName) ({ cls := "DigFill", name := "dealing", desc := "(I)I" } : Jvm.MethodName)) ∈ am_words := am_in 435 we_435.1 we_435.2
theorem wd_436 : (Jvm.Cond.code ({ cls := "DigFill", name := "dealing", desc := "(I)I" } : Jvm.MethodName) prog_1_method_15_code (3 : Nat) (Option.some Jvm.ClassFile.FieldType.int)) ∈ am_words := am_in 436 we_436.1 we_436.2
theorem wd_437 : (Jvm.Cond.methodLink "DigFill" (162 : Nat) ({ cls := "DigFill$Dealer", name := "solve", desc := "(LDigFill$Land;II)I" } : Jvm.MethodName)) ∈ am_words := am_in 437 we_437.1 we_437.2
theorem wd_438 : (Jvm.Cond.instanceMethod ({ cls := "DigFill$Dealer", name := "solve", desc := "(LDigFill$Land;II)I" } : Jvm.MethodName)) ∈ am_words := am_in 438 we_438.1 we_438.2
theorem wd_439 : (Jvm.Cond.selects "DigFill$Dealer" ({ cls := "DigFill$Dealer", name := "solve", desc := "(LDigFill$Land;II)I" } : Jvm.MethodName) ({ cls := "DigFill$Dealer", name := "solve", desc := "(LDigFill$Land;II)I" } : Jvm.MethodName)) ∈ am_words := am_in 439 we_439.1 we_439.2
theorem wd_440 : (Jvm.Cond.code ({ cls := "DigFill$Dealer", name := "solve", desc := "(LDigFill$Land;II)I" } : Jvm.MethodName) prog_2_method_2_code (5 : Nat) (Option.some Jvm.ClassFile.FieldType.int)) ∈ am_words := am_in 440 we_440.1 we_440.2
theorem wd_441 : (Jvm.Cond.constantLong "DigFill$Dealer" (31 : Nat) (4611686018427387904 : Int64)) ∈ am_words := am_in 441 we_441.1 we_441.2
theorem wd_442 : (Jvm.Cond.methodLink "DigFill$Dealer" (33 : Nat) ({ cls := "java/util/Arrays", name := "fill", desc := "([JJ)V" } : Jvm.MethodName)) ∈ am_words := am_in 442 we_442.1 we_442.2
theorem wd_443 : (Jvm.Cond.static ({ cls := "java/util/Arrays", name := "fill", desc := "([JJ)V" } : Jvm.MethodName)) ∈ am_words := am_in 443 we_443.1 we_443.2
theorem wd_444 : (Jvm.Cond.code ({ cls := "java/util/Arrays", name := "fill", desc := "([JJ)V" } : Jvm.MethodName) prog_18_method_101_code (5 : Nat) (Option.none : Option Jvm.ClassFile.FieldType)) ∈ am_words := am_in 444 we_444.1 we_444.2
theorem wd_445 : (Jvm.Cond.constantLong "DigFill$Dealer" (39 : Nat) (310023175 : Int64)) ∈ am_words := am_in 445 we_445.1 we_445.2
theorem wd_446 : (Jvm.Cond.constantLong "DigFill$Dealer" (41 : Nat) (10 : Int64)) ∈ am_words := am_in 446 we_446.1 we_446.2
theorem wd_447 : (Jvm.Cond.fieldLink "DigFill$Dealer" (43 : Nat) "DigFill$Dealer" "DIGITS" "[J") ∈ am_words := am_in 447 we_447.1 we_447.2
theorem wd_449 : (Jvm.Cond.methodLink "DigFill$Dealer" (49 : Nat) ({ cls := "DigFill$Dealer", name := "price", desc := "(LDigFill$Land;II)V" } : Jvm.MethodName)) ∈ am_words := am_in 449 we_449.1 we_449.2
theorem wd_451 : (Jvm.Cond.instanceMethod ({ cls := "DigFill$Dealer", name := "price", desc := "(LDigFill$Land;II)V" } : Jvm.MethodName)) ∈ am_words := am_in 451 we_451.1 we_451.2
theorem wd_452 : (Jvm.Cond.code ({ cls := "DigFill$Dealer", name := "price", desc := "(LDigFill$Land;II)V" } : Jvm.MethodName) prog_2_method_3_code (8 : Nat) (Option.none : Option Jvm.ClassFile.FieldType)) ∈ am_words := am_in 452 we_452.1 we_452.2
theorem wd_453 : (Jvm.Cond.methodLink "DigFill$Dealer" (69 : Nat) ({ cls := "DigFill$Land", name := "earthOf", desc := "(I)I" } : Jvm.MethodName)) ∈ am_words := am_in 453 we_453.1 we_453.2
theorem wd_454 : (Jvm.Cond.methodLink "DigFill$Dealer" (77 : Nat) ({ cls := "DigFill$Land", name := "canFill", desc := "(LDigFill$Hole;II)Z" } : Jvm.MethodName)) ∈ am_words := am_in 454 we_454.1 we_454.2
theorem wd_455 : (Jvm.Cond.methodLink "DigFill$Dealer" (86 : Nat) ({ cls := "java/lang/Math", name := "abs", desc := "(I)I" } : Jvm.MethodName)) ∈ am_words := am_in 455 we_455.1 we_455.2
theorem wd_456 : (Jvm.Cond.constantLong "DigFill$Dealer" (89 : Nat) (1771561 : Int64)) ∈ am_words := am_in 456 we_456.1 we_456.2
theorem wd_457 : (Jvm.Cond.methodLink "DigFill$Dealer" (53 : Nat) ({ cls := "DigFill$Dealer", name := "offer", desc := "()V" } : Jvm.MethodName)) ∈ am_words := am_in 457 we_457.1 we_457.2
theorem wd_459 : (Jvm.Cond.instanceMethod ({ cls := "DigFill$Dealer", name := "offer", desc := "()V" } : Jvm.MethodName)) ∈ am_words := am_in 459 we_459.1 we_459.2
theorem wd_460 : (Jvm.Cond.code ({ cls := "DigFill$Dealer", name := "offer", desc := "()V" } : Jvm.MethodName) prog_2_method_4_code (4 : Nat) (Option.none : Option Jvm.ClassFile.FieldType)) ∈ am_words := am_in 460 we_460.1 we_460.2
theorem wd_461 : (Jvm.Cond.methodLink "DigFill$Dealer" (56 : Nat) ({ cls := "java/lang/Math", name := "min", desc := "(JJ)J" } : Jvm.MethodName)) ∈ am_words := am_in 461 we_461.1 we_461.2
theorem wd_462 : (Jvm.Cond.static ({ cls := "java/lang/Math", name := "min", desc := "(JJ)J" } : Jvm.MethodName)) ∈ am_words := am_in 462 we_462.1 we_462.2
theorem wd_464 : (Jvm.Cond.methodLink "DigFill" (166 : Nat) ({ cls := "DigFill$Dealer", name := "miles", desc := "()I" } : Jvm.MethodName)) ∈ am_words := am_in 464 we_464.1 we_464.2
theorem wd_465 : (Jvm.Cond.instanceMethod ({ cls := "DigFill$Dealer", name := "miles", desc := "()I" } : Jvm.MethodName)) ∈ am_words := am_in 465 we_465.1 we_465.2
theorem wd_466 : (Jvm.Cond.selects "DigFill$Dealer" ({ cls := "DigFill$Dealer", name := "miles", desc := "()I" } : Jvm.MethodName) ({ cls := "DigFill$Dealer", name := "miles", desc := "()I" } : Jvm.MethodName)) ∈ am_words := am_in 466 we_466.1 we_466.2
theorem wd_467 : (Jvm.Cond.code ({ cls := "DigFill$Dealer", name := "miles", desc := "()I" } : Jvm.MethodName) prog_2_method_5_code (1 : Nat) (Option.some Jvm.ClassFile.FieldType.int)) ∈ am_words := am_in 467 we_467.1 we_467.2
theorem wd_468 : (Jvm.Cond.methodLink "DigFill" (170 : Nat) ({ cls := "DigFill$Dealer", name := "holeOf", desc := "(I)I" } : Jvm.MethodName)) ∈ am_words := am_in 468 we_468.1 we_468.2
theorem wd_469 : (Jvm.Cond.instanceMethod ({ cls := "DigFill$Dealer", name := "holeOf", desc := "(I)I" } : Jvm.MethodName)) ∈ am_words := am_in 469 we_469.1 we_469.2
theorem wd_470 : (Jvm.Cond.selects "DigFill$Dealer" ({ cls := "DigFill$Dealer", name := "holeOf", desc := "(I)I" } : Jvm.MethodName) ({ cls := "DigFill$Dealer", name := "holeOf", desc := "(I)I" } : Jvm.MethodName)) ∈ am_words := am_in 470 we_470.1 we_470.2
theorem wd_471 : (Jvm.Cond.code ({ cls := "DigFill$Dealer", name := "holeOf", desc := "(I)I" } : Jvm.MethodName) prog_2_method_6_code (3 : Nat) (Option.some Jvm.ClassFile.FieldType.int)) ∈ am_words := am_in 471 we_471.1 we_471.2
theorem wd_472 : (Jvm.Cond.constant "DigFill$Dealer" (91 : Nat) (-1000000005 : Int32)) ∈ am_words := am_in 472 we_472.1 we_472.2
theorem wd_473 : (Jvm.Cond.constantLong "DigFill$Dealer" (92 : Nat) (11 : Int64)) ∈ am_words := am_in 473 we_473.1 we_473.2
theorem wd_474 : (Jvm.Cond.methodLink "DigFillLaw" (74 : Nat) ({ cls := "DigFill", name := "adds", desc := "(I)I" } : Jvm.MethodName)) ∈ am_words := am_in 474 we_474.1 we_474.2
theorem wd_475 : (Jvm.Cond.instanceMethod ({ cls := "DigFill", name := "adds", desc := "(I)I" } : Jvm.MethodName)) ∈ am_words := am_in 475 we_475.1 we_475.2
theorem wd_476 : (Jvm.Cond.selects "DigFill" ({ cls := "DigFill", name := "adds", desc := "(I)I" } : Jvm.MethodName) ({ cls := "DigFill", name := "adds", desc := "(I)I" } : Jvm.MethodName)) ∈ am_words := am_in 476 we_476.1 we_476.2
theorem wd_477 : (Jvm.Cond.code ({ cls := "DigFill", name := "adds", desc := "(I)I" } : Jvm.MethodName) prog_1_method_16_code (2 : Nat) (Option.some Jvm.ClassFile.FieldType.int)) ∈ am_words := am_in 477 we_477.1 we_477.2
theorem wd_478 : (Jvm.Cond.methodLink "DigFillLaw" (78 : Nat) ({ cls := "DigFill", name := "frees", desc := "(I)I" } : Jvm.MethodName)) ∈ am_words := am_in 478 we_478.1 we_478.2
theorem wd_479 : (Jvm.Cond.instanceMethod ({ cls := "DigFill", name := "frees", desc := "(I)I" } : Jvm.MethodName)) ∈ am_words := am_in 479 we_479.1 we_479.2
theorem wd_480 : (Jvm.Cond.selects "DigFill" ({ cls := "DigFill", name := "frees", desc := "(I)I" } : Jvm.MethodName) ({ cls := "DigFill", name := "frees", desc := "(I)I" } : Jvm.MethodName)) ∈ am_words := am_in 480 we_480.1 we_480.2
theorem wd_481 : (Jvm.Cond.code ({ cls := "DigFill", name := "frees", desc := "(I)I" } : Jvm.MethodName) prog_1_method_17_code (7 : Nat) (Option.some Jvm.ClassFile.FieldType.int)) ∈ am_words := am_in 481 we_481.1 we_481.2
theorem wd_482 : (Jvm.Cond.methodLink "DigFill" (176 : Nat) ({ cls := "java/lang/Math", name := "abs", desc := "(I)I" } : Jvm.MethodName)) ∈ am_words := am_in 482 we_482.1 we_482.2
theorem wd_483 : (Jvm.Cond.constant "DigFill" (179 : Nat) (-1000000005 : Int32)) ∈ am_words := am_in 483 we_483.1 we_483.2
theorem wd_484 : (Jvm.Cond.methodLink "DigFillLaw" (82 : Nat) ({ cls := "DigFill", name := "days", desc := "(I)I" } : Jvm.MethodName)) ∈ am_words := am_in 484 we_484.1 we_484.2
theorem wd_485 : (Jvm.Cond.instanceMethod ({ cls := "DigFill", name := "days", desc := "(I)I" } : Jvm.MethodName)) ∈ am_words := am_in 485 we_485.1 we_485.2
theorem wd_486 : (Jvm.Cond.selects "DigFill" ({ cls := "DigFill", name := "days", desc := "(I)I" } : Jvm.MethodName) ({ cls := "DigFill", name := "days", desc := "(I)I" } : Jvm.MethodName)) ∈ am_words := am_in 486 we_486.1 we_486.2
theorem wd_487 : (Jvm.Cond.code ({ cls := "DigFill", name := "days", desc := "(I)I" } : Jvm.MethodName) prog_1_method_18_code (4 : Nat) (Option.some Jvm.ClassFile.FieldType.int)) ∈ am_words := am_in 487 we_487.1 we_487.2
theorem wd_488 : (Jvm.Cond.methodLink "DigFill" (183 : Nat) ({ cls := "DigFill$Land", name := "passDay", desc := "()V" } : Jvm.MethodName)) ∈ am_words := am_in 488 we_488.1 we_488.2
theorem wd_489 : (Jvm.Cond.instanceMethod ({ cls := "DigFill$Land", name := "passDay", desc := "()V" } : Jvm.MethodName)) ∈ am_words := am_in 489 we_489.1 we_489.2
theorem wd_490 : (Jvm.Cond.selects "DigFill$Land" ({ cls := "DigFill$Land", name := "passDay", desc := "()V" } : Jvm.MethodName) ({ cls := "DigFill$Land", name := "passDay", desc := "()V" } : Jvm.MethodName)) ∈ am_words := am_in 490 we_490.1 we_490.2
theorem wd_491 : (Jvm.Cond.code ({ cls := "DigFill$Land", name := "passDay", desc := "()V" } : Jvm.MethodName) prog_4_method_13_code (4 : Nat) (Option.none : Option Jvm.ClassFile.FieldType)) ∈ am_words := am_in 491 we_491.1 we_491.2
theorem wd_492 : (Jvm.Cond.methodLink "DigFill$Land" (130 : Nat) ({ cls := "DigFill$Land", name := "sinks", desc := "(LDigFill$Hole;I)I" } : Jvm.MethodName)) ∈ am_words := am_in 492 we_492.1 we_492.2
theorem wd_493 : (Jvm.Cond.methodLink "DigFill" (186 : Nat) ({ cls := "DigFill$Land", name := "filledCount", desc := "()I" } : Jvm.MethodName)) ∈ am_words := am_in 493 we_493.1 we_493.2
theorem wd_494 : (Jvm.Cond.instanceMethod ({ cls := "DigFill$Land", name := "filledCount", desc := "()I" } : Jvm.MethodName)) ∈ am_words := am_in 494 we_494.1 we_494.2
theorem wd_495 : (Jvm.Cond.selects "DigFill$Land" ({ cls := "DigFill$Land", name := "filledCount", desc := "()I" } : Jvm.MethodName) ({ cls := "DigFill$Land", name := "filledCount", desc := "()I" } : Jvm.MethodName)) ∈ am_words := am_in 495 we_495.1 we_495.2
theorem wd_496 : (Jvm.Cond.code ({ cls := "DigFill$Land", name := "filledCount", desc := "()I" } : Jvm.MethodName) prog_4_method_14_code (3 : Nat) (Option.some Jvm.ClassFile.FieldType.int)) ∈ am_words := am_in 496 we_496.1 we_496.2
theorem wd_497 : (Jvm.Cond.methodLink "DigFillLaw" (86 : Nat) ({ cls := "DigFill", name := "behind", desc := "(II)I" } : Jvm.MethodName)) ∈ am_words := am_in 497 we_497.1 we_497.2
theorem wd_498 : (Jvm.Cond.instanceMethod ({ cls := "DigFill", name := "behind", desc := "(II)I" } : Jvm.MethodName)) ∈ am_words := am_in 498 we_498.1 we_498.2
theorem wd_499 : (Jvm.Cond.selects "DigFill" ({ cls := "DigFill", name := "behind", desc := "(II)I" } : Jvm.MethodName) ({ cls := "DigFill", name := "behind", desc := "(II)I" } : Jvm.MethodName)) ∈ am_words := am_in 499 we_499.1 we_499.2
theorem wd_500 : (Jvm.Cond.code ({ cls := "DigFill", name := "behind", desc := "(II)I" } : Jvm.MethodName) prog_1_method_19_code (4 : Nat) (Option.some Jvm.ClassFile.FieldType.int)) ∈ am_words := am_in 500 we_500.1 we_500.2
theorem wd_501 : (Jvm.Cond.methodLink "DigFill" (189 : Nat) ({ cls := "DigFill$Land", name := "become", desc := "(LDigFill$Land;)V" } : Jvm.MethodName)) ∈ am_words := am_in 501 we_501.1 we_501.2
theorem wd_502 : (Jvm.Cond.instanceMethod ({ cls := "DigFill$Land", name := "become", desc := "(LDigFill$Land;)V" } : Jvm.MethodName)) ∈ am_words := am_in 502 we_502.1 we_502.2
theorem wd_503 : (Jvm.Cond.selects "DigFill$Land" ({ cls := "DigFill$Land", name := "become", desc := "(LDigFill$Land;)V" } : Jvm.MethodName) ({ cls := "DigFill$Land", name := "become", desc := "(LDigFill$Land;)V" } : Jvm.MethodName)) ∈ am_words := am_in 503 we_503.1 we_503.2
theorem wd_504 : (Jvm.Cond.code ({ cls := "DigFill$Land", name := "become", desc := "(LDigFill$Land;)V" } : Jvm.MethodName) prog_4_method_2_code (3 : Nat) (Option.none : Option Jvm.ClassFile.FieldType)) ∈ am_words := am_in 504 we_504.1 we_504.2
theorem wd_505 : (Jvm.Cond.methodLink "DigFill$Land" (62 : Nat) ({ cls := "DigFill$Hole", name := "become", desc := "(LDigFill$Hole;)V" } : Jvm.MethodName)) ∈ am_words := am_in 505 we_505.1 we_505.2
theorem wd_506 : (Jvm.Cond.instanceMethod ({ cls := "DigFill$Hole", name := "become", desc := "(LDigFill$Hole;)V" } : Jvm.MethodName)) ∈ am_words := am_in 506 we_506.1 we_506.2
theorem wd_507 : (Jvm.Cond.selects "DigFill$Hole" ({ cls := "DigFill$Hole", name := "become", desc := "(LDigFill$Hole;)V" } : Jvm.MethodName) ({ cls := "DigFill$Hole", name := "become", desc := "(LDigFill$Hole;)V" } : Jvm.MethodName)) ∈ am_words := am_in 507 we_507.1 we_507.2
theorem wd_508 : (Jvm.Cond.code ({ cls := "DigFill$Hole", name := "become", desc := "(LDigFill$Hole;)V" } : Jvm.MethodName) prog_3_method_3_code (2 : Nat) (Option.none : Option Jvm.ClassFile.FieldType)) ∈ am_words := am_in 508 we_508.1 we_508.2
theorem wd_509 : (Jvm.Cond.methodLink "DigFill$Hole" (27 : Nat) ({ cls := "DigFill$Hole", name := "start", desc := "(IIII)V" } : Jvm.MethodName)) ∈ am_words := am_in 509 we_509.1 we_509.2
theorem wd_510 : (Jvm.Cond.methodLink "DigFill$Land" (66 : Nat) ({ cls := "java/lang/System", name := "arraycopy", desc := "(Ljava/lang/Object;ILjava/lang/Object;II)V" } : Jvm.MethodName)) ∈ am_words := am_in 510 we_510.1 we_510.2
theorem wd_511 : (Jvm.Cond.static ({ cls := "java/lang/System", name := "arraycopy", desc := "(Ljava/lang/Object;ILjava/lang/Object;II)V" } : Jvm.MethodName)) ∈ am_words := am_in 511 we_511.1 we_511.2
theorem wd_512 : (Jvm.Cond.native ({ cls := "java/lang/System", name := "arraycopy", desc := "(Ljava/lang/Object;ILjava/lang/Object;II)V" } : Jvm.MethodName)) ∈ am_words := am_in 512 we_512.1 we_512.2
theorem wd_513 : (Jvm.Cond.methodLink "DigFill" (193 : Nat) ({ cls := "DigFill$Land", name := "depthSum", desc := "()I" } : Jvm.MethodName)) ∈ am_words := am_in 513 we_513.1 we_513.2
theorem wd_514 : (Jvm.Cond.instanceMethod ({ cls := "DigFill$Land", name := "depthSum", desc := "()I" } : Jvm.MethodName)) ∈ am_words := am_in 514 we_514.1 we_514.2
theorem wd_515 : (Jvm.Cond.selects "DigFill$Land" ({ cls := "DigFill$Land", name := "depthSum", desc := "()I" } : Jvm.MethodName) ({ cls := "DigFill$Land", name := "depthSum", desc := "()I" } : Jvm.MethodName)) ∈ am_words := am_in 515 we_515.1 we_515.2
theorem wd_516 : (Jvm.Cond.code ({ cls := "DigFill$Land", name := "depthSum", desc := "()I" } : Jvm.MethodName) prog_4_method_15_code (3 : Nat) (Option.some Jvm.ClassFile.FieldType.int)) ∈ am_words := am_in 516 we_516.1 we_516.2
theorem wd_517 : (Jvm.Cond.methodLink "DigFillLaw" (90 : Nat) ({ cls := "DigFill", name := "paid", desc := "()I" } : Jvm.MethodName)) ∈ am_words := am_in 517 we_517.1 we_517.2
theorem wd_518 : (Jvm.Cond.instanceMethod ({ cls := "DigFill", name := "paid", desc := "()I" } : Jvm.MethodName)) ∈ am_words := am_in 518 we_518.1 we_518.2
theorem wd_519 : (Jvm.Cond.selects "DigFill" ({ cls := "DigFill", name := "paid", desc := "()I" } : Jvm.MethodName) ({ cls := "DigFill", name := "paid", desc := "()I" } : Jvm.MethodName)) ∈ am_words := am_in 519 we_519.1 we_519.2
theorem wd_520 : (Jvm.Cond.code ({ cls := "DigFill", name := "paid", desc := "()I" } : Jvm.MethodName) prog_1_method_20_code (2 : Nat) (Option.some Jvm.ClassFile.FieldType.int)) ∈ am_words := am_in 520 we_520.1 we_520.2
theorem wd_521 : (Jvm.Cond.methodLink "DigFillLaw" (94 : Nat) ({ cls := "DigFill", name := "best", desc := "(II)I" } : Jvm.MethodName)) ∈ am_words := am_in 521 we_521.1 we_521.2
theorem wd_522 : (Jvm.Cond.instanceMethod ({ cls := "DigFill", name := "best", desc := "(II)I" } : Jvm.MethodName)) ∈ am_words := am_in 522 we_522.1 we_522.2
theorem wd_523 : (Jvm.Cond.selects "DigFill" ({ cls := "DigFill", name := "best", desc := "(II)I" } : Jvm.MethodName) ({ cls := "DigFill", name := "best", desc := "(II)I" } : Jvm.MethodName)) ∈ am_words := am_in 523 we_523.1 we_523.2
theorem wd_524 : (Jvm.Cond.code ({ cls := "DigFill", name := "best", desc := "(II)I" } : Jvm.MethodName) prog_1_method_21_code (7 : Nat) (Option.some Jvm.ClassFile.FieldType.int)) ∈ am_words := am_in 524 we_524.1 we_524.2
theorem wd_525 : (Jvm.Cond.methodLink "DigFillLaw" (98 : Nat) ({ cls := "DigFill", name := "owes", desc := "(I)I" } : Jvm.MethodName)) ∈ am_words := am_in 525 we_525.1 we_525.2
theorem wd_526 : (Jvm.Cond.instanceMethod ({ cls := "DigFill", name := "owes", desc := "(I)I" } : Jvm.MethodName)) ∈ am_words := am_in 526 we_526.1 we_526.2
theorem wd_527 : (Jvm.Cond.selects "DigFill" ({ cls := "DigFill", name := "owes", desc := "(I)I" } : Jvm.MethodName) ({ cls := "DigFill", name := "owes", desc := "(I)I" } : Jvm.MethodName)) ∈ am_words := am_in 527 we_527.1 we_527.2
theorem wd_528 : (Jvm.Cond.code ({ cls := "DigFill", name := "owes", desc := "(I)I" } : Jvm.MethodName) prog_1_method_22_code (2 : Nat) (Option.some Jvm.ClassFile.FieldType.int)) ∈ am_words := am_in 528 we_528.1 we_528.2
theorem wd_529 : (Jvm.Cond.methodLink "DigFill" (196 : Nat) ({ cls := "DigFill$Land", name := "debtOf", desc := "(I)I" } : Jvm.MethodName)) ∈ am_words := am_in 529 we_529.1 we_529.2
theorem wd_530 : (Jvm.Cond.instanceMethod ({ cls := "DigFill$Land", name := "debtOf", desc := "(I)I" } : Jvm.MethodName)) ∈ am_words := am_in 530 we_530.1 we_530.2
theorem wd_531 : (Jvm.Cond.selects "DigFill$Land" ({ cls := "DigFill$Land", name := "debtOf", desc := "(I)I" } : Jvm.MethodName) ({ cls := "DigFill$Land", name := "debtOf", desc := "(I)I" } : Jvm.MethodName)) ∈ am_words := am_in 531 we_531.1 we_531.2
theorem wd_532 : (Jvm.Cond.code ({ cls := "DigFill$Land", name := "debtOf", desc := "(I)I" } : Jvm.MethodName) prog_4_method_16_code (4 : Nat) (Option.some Jvm.ClassFile.FieldType.int)) ∈ am_words := am_in 532 we_532.1 we_532.2
theorem wd_533 : (Jvm.Cond.methodLink "DigFillLaw" (102 : Nat) ({ cls := "DigFill", name := "debtor", desc := "()I" } : Jvm.MethodName)) ∈ am_words := am_in 533 we_533.1 we_533.2
theorem wd_534 : (Jvm.Cond.instanceMethod ({ cls := "DigFill", name := "debtor", desc := "()I" } : Jvm.MethodName)) ∈ am_words := am_in 534 we_534.1 we_534.2
theorem wd_535 : (Jvm.Cond.selects "DigFill" ({ cls := "DigFill", name := "debtor", desc := "()I" } : Jvm.MethodName) ({ cls := "DigFill", name := "debtor", desc := "()I" } : Jvm.MethodName)) ∈ am_words := am_in 535 we_535.1 we_535.2
theorem wd_536 : (Jvm.Cond.code ({ cls := "DigFill", name := "debtor", desc := "()I" } : Jvm.MethodName) prog_1_method_23_code (3 : Nat) (Option.some Jvm.ClassFile.FieldType.int)) ∈ am_words := am_in 536 we_536.1 we_536.2
theorem wd_537 : (Jvm.Cond.methodLink "DigFillLaw" (106 : Nat) ({ cls := "DigFill", name := "dug", desc := "(II)I" } : Jvm.MethodName)) ∈ am_words := am_in 537 we_537.1 we_537.2
theorem wd_538 : (Jvm.Cond.instanceMethod ({ cls := "DigFill", name := "dug", desc := "(II)I" } : Jvm.MethodName)) ∈ am_words := am_in 538 we_538.1 we_538.2
theorem wd_539 : (Jvm.Cond.selects "DigFill" ({ cls := "DigFill", name := "dug", desc := "(II)I" } : Jvm.MethodName) ({ cls := "DigFill", name := "dug", desc := "(II)I" } : Jvm.MethodName)) ∈ am_words := am_in 539 we_539.1 we_539.2
theorem wd_540 : (Jvm.Cond.code ({ cls := "DigFill", name := "dug", desc := "(II)I" } : Jvm.MethodName) prog_1_method_24_code (6 : Nat) (Option.some Jvm.ClassFile.FieldType.int)) ∈ am_words := am_in 540 we_540.1 we_540.2
theorem wd_541 : (Jvm.Cond.methodLink "DigFill" (199 : Nat) ({ cls := "DigFill", name := "sheetAt", desc := "(I)LDigFill$Sheet;" } : Jvm.MethodName)) ∈ am_words := am_in 541 we_541.1 we_541.2
theorem wd_543 : (Jvm.Cond.instanceMethod ({ cls := "DigFill", name := "sheetAt", desc := "(I)LDigFill$Sheet;" } : Jvm.MethodName)) ∈ am_words := am_in 543 we_543.1 we_543.2
theorem wd_544 : (Jvm.Cond.code ({ cls := "DigFill", name := "sheetAt", desc := "(I)LDigFill$Sheet;" } : Jvm.MethodName) prog_1_method_50_code (2 : Nat) (Option.some (Jvm.ClassFile.FieldType.object "DigFill$Sheet"))) ∈ am_words := am_in 544 we_544.1 we_544.2
theorem wd_545 : (Jvm.Cond.constant "DigFill" (206 : Nat) (-1000000011 : Int32)) ∈ am_words := am_in 545 we_545.1 we_545.2
theorem wd_546 : (Jvm.Cond.methodLink "DigFill" (207 : Nat) ({ cls := "DigFill", name := "addDifferences", desc := "(LDigFill$Sheet;)V" } : Jvm.MethodName)) ∈ am_words := am_in 546 we_546.1 we_546.2
theorem wd_548 : (Jvm.Cond.instanceMethod ({ cls := "DigFill", name := "addDifferences", desc := "(LDigFill$Sheet;)V" } : Jvm.MethodName)) ∈ am_words := am_in 548 we_548.1 we_548.2
theorem wd_549 : (Jvm.Cond.code ({ cls := "DigFill", name := "addDifferences", desc := "(LDigFill$Sheet;)V" } : Jvm.MethodName) prog_1_method_49_code (4 : Nat) (Option.none : Option Jvm.ClassFile.FieldType)) ∈ am_words := am_in 549 we_549.1 we_549.2
theorem wd_550 : (Jvm.Cond.methodLink "DigFill" (310 : Nat) ({ cls := "java/util/Arrays", name := "fill", desc := "([II)V" } : Jvm.MethodName)) ∈ am_words := am_in 550 we_550.1 we_550.2
theorem wd_551 : (Jvm.Cond.static ({ cls := "java/util/Arrays", name := "fill", desc := "([II)V" } : Jvm.MethodName)) ∈ am_words := am_in 551 we_551.1 we_551.2
theorem wd_552 : (Jvm.Cond.code ({ cls := "java/util/Arrays", name := "fill", desc := "([II)V" } : Jvm.MethodName) prog_18_method_103_code (4 : Nat) (Option.none : Option Jvm.ClassFile.FieldType)) ∈ am_words := am_in 552 we_552.1 we_552.2
theorem wd_553 : (Jvm.Cond.methodLink "DigFill" (263 : Nat) ({ cls := "DigFill$Sheet", name := "isNumber", desc := "(I)Z" } : Jvm.MethodName)) ∈ am_words := am_in 553 we_553.1 we_553.2
theorem wd_554 : (Jvm.Cond.instanceMethod ({ cls := "DigFill$Sheet", name := "isNumber", desc := "(I)Z" } : Jvm.MethodName)) ∈ am_words := am_in 554 we_554.1 we_554.2
theorem wd_555 : (Jvm.Cond.selects "DigFill$Sheet" ({ cls := "DigFill$Sheet", name := "isNumber", desc := "(I)Z" } : Jvm.MethodName) ({ cls := "DigFill$Sheet", name := "isNumber", desc := "(I)Z" } : Jvm.MethodName)) ∈ am_words := am_in 555 we_555.1 we_555.2
theorem wd_556 : (Jvm.Cond.code ({ cls := "DigFill$Sheet", name := "isNumber", desc := "(I)Z" } : Jvm.MethodName) prog_5_method_6_code (2 : Nat) (Option.some Jvm.ClassFile.FieldType.boolean)) ∈ am_words := am_in 556 we_556.1 we_556.2
theorem wd_557 : (Jvm.Cond.methodLink "DigFill$Sheet" (34 : Nat) ({ cls := "DigFill$Sheet", name := "has", desc := "(I)Z" } : Jvm.MethodName)) ∈ am_words := am_in 557 we_557.1 we_557.2
theorem wd_558 : (Jvm.Cond.instanceMethod ({ cls := "DigFill$Sheet", name := "has", desc := "(I)Z" } : Jvm.MethodName)) ∈ am_words := am_in 558 we_558.1 we_558.2
theorem wd_559 : (Jvm.Cond.selects "DigFill$Sheet" ({ cls := "DigFill$Sheet", name := "has", desc := "(I)Z" } : Jvm.MethodName) ({ cls := "DigFill$Sheet", name := "has", desc := "(I)Z" } : Jvm.MethodName)) ∈ am_words := am_in 559 we_559.1 we_559.2
theorem wd_560 : (Jvm.Cond.code ({ cls := "DigFill$Sheet", name := "has", desc := "(I)Z" } : Jvm.MethodName) prog_5_method_4_code (2 : Nat) (Option.some Jvm.ClassFile.FieldType.boolean)) ∈ am_words := am_in 560 we_560.1 we_560.2
theorem wd_561 : (Jvm.Cond.constant "DigFill$Sheet" (38 : Nat) (-1000000005 : Int32)) ∈ am_words := am_in 561 we_561.1 we_561.2
theorem wd_562 : (Jvm.Cond.methodLink "DigFillLaw" (110 : Nat) ({ cls := "DigFill", name := "fine", desc := "(I)I" } : Jvm.MethodName)) ∈ am_words := am_in 562 we_562.1 we_562.2
theorem wd_563 : (Jvm.Cond.instanceMethod ({ cls := "DigFill", name := "fine", desc := "(I)I" } : Jvm.MethodName)) ∈ am_words := am_in 563 we_563.1 we_563.2
theorem wd_564 : (Jvm.Cond.selects "DigFill" ({ cls := "DigFill", name := "fine", desc := "(I)I" } : Jvm.MethodName) ({ cls := "DigFill", name := "fine", desc := "(I)I" } : Jvm.MethodName)) ∈ am_words := am_in 564 we_564.1 we_564.2
theorem wd_565 : (Jvm.Cond.code ({ cls := "DigFill", name := "fine", desc := "(I)I" } : Jvm.MethodName) prog_1_method_25_code (2 : Nat) (Option.some Jvm.ClassFile.FieldType.int)) ∈ am_words := am_in 565 we_565.1 we_565.2
theorem wd_566 : (Jvm.Cond.methodLink "DigFill" (211 : Nat) ({ cls := "DigFill$Land", name := "fineOf", desc := "(I)I" } : Jvm.MethodName)) ∈ am_words := am_in 566 we_566.1 we_566.2
theorem wd_567 : (Jvm.Cond.instanceMethod ({ cls := "DigFill$Land", name := "fineOf", desc := "(I)I" } : Jvm.MethodName)) ∈ am_words := am_in 567 we_567.1 we_567.2
theorem wd_568 : (Jvm.Cond.selects "DigFill$Land" ({ cls := "DigFill$Land", name := "fineOf", desc := "(I)I" } : Jvm.MethodName) ({ cls := "DigFill$Land", name := "fineOf", desc := "(I)I" } : Jvm.MethodName)) ∈ am_words := am_in 568 we_568.1 we_568.2
theorem wd_569 : (Jvm.Cond.code ({ cls := "DigFill$Land", name := "fineOf", desc := "(I)I" } : Jvm.MethodName) prog_4_method_17_code (3 : Nat) (Option.some Jvm.ClassFile.FieldType.int)) ∈ am_words := am_in 569 we_569.1 we_569.2
theorem wd_570 : (Jvm.Cond.methodLink "DigFill$Land" (133 : Nat) ({ cls := "DigFill$Land", name := "debtOf", desc := "(I)I" } : Jvm.MethodName)) ∈ am_words := am_in 570 we_570.1 we_570.2
theorem wd_571 : (Jvm.Cond.methodLink "DigFillLaw" (114 : Nat) ({ cls := "DigFill", name := "feed", desc := "(III)I" } : Jvm.MethodName)) ∈ am_words := am_in 571 we_571.1 we_571.2
theorem wd_572 : (Jvm.Cond.instanceMethod ({ cls := "DigFill", name := "feed", desc := "(III)I" } : Jvm.MethodName)) ∈ am_words := am_in 572 we_572.1 we_572.2
theorem wd_573 : (Jvm.Cond.selects "DigFill" ({ cls := "DigFill", name := "feed", desc := "(III)I" } : Jvm.MethodName) ({ cls := "DigFill", name := "feed", desc := "(III)I" } : Jvm.MethodName)) ∈ am_words := am_in 573 we_573.1 we_573.2
theorem wd_574 : (Jvm.Cond.code ({ cls := "DigFill", name := "feed", desc := "(III)I" } : Jvm.MethodName) prog_1_method_26_code (4 : Nat) (Option.some Jvm.ClassFile.FieldType.int)) ∈ am_words := am_in 574 we_574.1 we_574.2
theorem wd_575 : (Jvm.Cond.methodLink "DigFill" (217 : Nat) ({ cls := "DigFill$Tape", name := "putBytes", desc := "(I)V" } : Jvm.MethodName)) ∈ am_words := am_in 575 we_575.1 we_575.2
theorem wd_576 : (Jvm.Cond.instanceMethod ({ cls := "DigFill$Tape", name := "putBytes", desc := "(I)V" } : Jvm.MethodName)) ∈ am_words := am_in 576 we_576.1 we_576.2
theorem wd_577 : (Jvm.Cond.selects "DigFill$Tape" ({ cls := "DigFill$Tape", name := "putBytes", desc := "(I)V" } : Jvm.MethodName) ({ cls := "DigFill$Tape", name := "putBytes", desc := "(I)V" } : Jvm.MethodName)) ∈ am_words := am_in 577 we_577.1 we_577.2
theorem wd_578 : (Jvm.Cond.code ({ cls := "DigFill$Tape", name := "putBytes", desc := "(I)V" } : Jvm.MethodName) prog_7_method_2_code (3 : Nat) (Option.none : Option Jvm.ClassFile.FieldType)) ∈ am_words := am_in 578 we_578.1 we_578.2
theorem wd_579 : (Jvm.Cond.methodLink "DigFillLaw" (118 : Nat) ({ cls := "DigFill", name := "trim", desc := "(I)I" } : Jvm.MethodName)) ∈ am_words := am_in 579 we_579.1 we_579.2
theorem wd_580 : (Jvm.Cond.instanceMethod ({ cls := "DigFill", name := "trim", desc := "(I)I" } : Jvm.MethodName)) ∈ am_words := am_in 580 we_580.1 we_580.2
theorem wd_581 : (Jvm.Cond.selects "DigFill" ({ cls := "DigFill", name := "trim", desc := "(I)I" } : Jvm.MethodName) ({ cls := "DigFill", name := "trim", desc := "(I)I" } : Jvm.MethodName)) ∈ am_words := am_in 581 we_581.1 we_581.2
theorem wd_582 : (Jvm.Cond.code ({ cls := "DigFill", name := "trim", desc := "(I)I" } : Jvm.MethodName) prog_1_method_27_code (2 : Nat) (Option.some Jvm.ClassFile.FieldType.int)) ∈ am_words := am_in 582 we_582.1 we_582.2
theorem wd_583 : (Jvm.Cond.methodLink "DigFillLaw" (122 : Nat) ({ cls := "DigFill", name := "text", desc := "()I" } : Jvm.MethodName)) ∈ am_words := am_in 583 we_583.1 we_583.2
theorem wd_584 : (Jvm.Cond.instanceMethod ({ cls := "DigFill", name := "text", desc := "()I" } : Jvm.MethodName)) ∈ am_words := am_in 584 we_584.1 we_584.2
theorem wd_585 : (Jvm.Cond.selects "DigFill" ({ cls := "DigFill", name := "text", desc := "()I" } : Jvm.MethodName) ({ cls := "DigFill", name := "text", desc := "()I" } : Jvm.MethodName)) ∈ am_words := am_in 585 we_585.1 we_585.2
theorem wd_586 : (Jvm.Cond.code ({ cls := "DigFill", name := "text", desc := "()I" } : Jvm.MethodName) prog_1_method_28_code (2 : Nat) (Option.some Jvm.ClassFile.FieldType.int)) ∈ am_words := am_in 586 we_586.1 we_586.2
theorem wd_587 : (Jvm.Cond.methodLink "DigFill" (221 : Nat) ({ cls := "DigFill$Tape", name := "read", desc := "()LDigFill$Text;" } : Jvm.MethodName)) ∈ am_words := am_in 587 we_587.1 we_587.2
theorem wd_588 : (Jvm.Cond.instanceMethod ({ cls := "DigFill$Tape", name := "read", desc := "()LDigFill$Text;" } : Jvm.MethodName)) ∈ am_words := am_in 588 we_588.1 we_588.2
theorem wd_589 : (Jvm.Cond.selects "DigFill$Tape" ({ cls := "DigFill$Tape", name := "read", desc := "()LDigFill$Text;" } : Jvm.MethodName) ({ cls := "DigFill$Tape", name := "read", desc := "()LDigFill$Text;" } : Jvm.MethodName)) ∈ am_words := am_in 589 we_589.1 we_589.2
theorem wd_590 : (Jvm.Cond.code ({ cls := "DigFill$Tape", name := "read", desc := "()LDigFill$Text;" } : Jvm.MethodName) prog_7_method_3_code (1 : Nat) (Option.some (Jvm.ClassFile.FieldType.object "DigFill$Text"))) ∈ am_words := am_in 590 we_590.1 we_590.2
theorem wd_591 : (Jvm.Cond.methodLink "DigFill$Tape" (46 : Nat) ({ cls := "DigFill$Tape", name := "step", desc := "()V" } : Jvm.MethodName)) ∈ am_words := am_in 591 we_591.1 we_591.2
theorem wd_593 : (Jvm.Cond.instanceMethod ({ cls := "DigFill$Tape", name := "step", desc := "()V" } : Jvm.MethodName)) ∈ am_words := am_in 593 we_593.1 we_593.2
theorem wd_594 : (Jvm.Cond.code ({ cls := "DigFill$Tape", name := "step", desc := "()V" } : Jvm.MethodName) prog_7_method_4_code (3 : Nat) (Option.none : Option Jvm.ClassFile.FieldType)) ∈ am_words := am_in 594 we_594.1 we_594.2
theorem wd_595 : (Jvm.Cond.methodLink "DigFill$Tape" (68 : Nat) ({ cls := "DigFill$Tape", name := "sortOf", desc := "(I)I" } : Jvm.MethodName)) ∈ am_words := am_in 595 we_595.1 we_595.2
theorem wd_596 : (Jvm.Cond.static ({ cls := "DigFill$Tape", name := "sortOf", desc := "(I)I" } : Jvm.MethodName)) ∈ am_words := am_in 596 we_596.1 we_596.2
theorem wd_597 : (Jvm.Cond.code ({ cls := "DigFill$Tape", name := "sortOf", desc := "(I)I" } : Jvm.MethodName) prog_7_method_5_code (1 : Nat) (Option.some Jvm.ClassFile.FieldType.int)) ∈ am_words := am_in 597 we_597.1 we_597.2
theorem wd_598 : (Jvm.Cond.methodLink "DigFill$Tape" (49 : Nat) ({ cls := "DigFill$Tape", name := "keyHere", desc := "()I" } : Jvm.MethodName)) ∈ am_words := am_in 598 we_598.1 we_598.2
theorem wd_600 : (Jvm.Cond.instanceMethod ({ cls := "DigFill$Tape", name := "keyHere", desc := "()I" } : Jvm.MethodName)) ∈ am_words := am_in 600 we_600.1 we_600.2
theorem wd_601 : (Jvm.Cond.code ({ cls := "DigFill$Tape", name := "keyHere", desc := "()I" } : Jvm.MethodName) prog_7_method_6_code (1 : Nat) (Option.some Jvm.ClassFile.FieldType.int)) ∈ am_words := am_in 601 we_601.1 we_601.2
theorem wd_603 : (Jvm.Cond.methodLink "DigFill$Tape" (74 : Nat) ({ cls := "DigFill$Tape", name := "isHere", desc := "(Ljava/lang/String;)Z" } : Jvm.MethodName)) ∈ am_words := am_in 603 we_603.1 we_603.2
theorem wd_605 : (Jvm.Cond.instanceMethod ({ cls := "DigFill$Tape", name := "isHere", desc := "(Ljava/lang/String;)Z" } : Jvm.MethodName)) ∈ am_words := am_in 605 we_605.1 we_605.2
theorem wd_606 : (Jvm.Cond.code ({ cls := "DigFill$Tape", name := "isHere", desc := "(Ljava/lang/String;)Z" } : Jvm.MethodName) prog_7_method_7_code (3 : Nat) (Option.some Jvm.ClassFile.FieldType.boolean)) ∈ am_words := am_in 606 we_606.1 we_606.2
theorem wd_607 : (Jvm.Cond.methodLink "DigFill$Tape" (82 : Nat) ({ cls := "java/lang/String", name := "length", desc := "()I" } : Jvm.MethodName)) ∈ am_words := am_in 607 we_607.1 we_607.2
theorem wd_608 : (Jvm.Cond.instanceMethod ({ cls := "java/lang/String", name := "length", desc := "()I" } : Jvm.MethodName)) ∈ am_words := am_in 608 we_608.1 we_608.2
theorem wd_609 : (Jvm.Cond.selects "java/lang/String" ({ cls := "java/lang/String", name := "length", desc := "()I" } : Jvm.MethodName) ({ cls := "java/lang/String", name := "length", desc := "()I" } : Jvm.MethodName)) ∈ am_words := am_in 609 we_609.1 we_609.2
theorem wd_610 : (Jvm.Cond.code ({ cls := "java/lang/String", name := "length", desc := "()I" } : Jvm.MethodName) prog_14_method_54_code (1 : Nat) (Option.some Jvm.ClassFile.FieldType.int)) ∈ am_words := am_in 610 we_610.1 we_610.2
theorem wd_611 : (Jvm.Cond.methodLink "java/lang/String" (335 : Nat) ({ cls := "java/lang/String", name := "coder", desc := "()B" } : Jvm.MethodName)) ∈ am_words := am_in 611 we_611.1 we_611.2
theorem wd_612 : (Jvm.Cond.instanceMethod ({ cls := "java/lang/String", name := "coder", desc := "()B" } : Jvm.MethodName)) ∈ am_words := am_in 612 we_612.1 we_612.2
theorem wd_613 : (Jvm.Cond.selects "java/lang/String" ({ cls := "java/lang/String", name := "coder", desc := "()B" } : Jvm.MethodName) ({ cls := "java/lang/String", name := "coder", desc := "()B" } : Jvm.MethodName)) ∈ am_words := am_in 613 we_613.1 we_613.2
theorem wd_614 : (Jvm.Cond.code ({ cls := "java/lang/String", name := "coder", desc := "()B" } : Jvm.MethodName) prog_14_method_152_code (1 : Nat) (Option.some Jvm.ClassFile.FieldType.byte)) ∈ am_words := am_in 614 we_614.1 we_614.2
theorem wd_615 : (Jvm.Cond.fieldLink "java/lang/String" (38 : Nat) "java/lang/String" "COMPACT_STRINGS" "Z") ∈ am_words := am_in 615 we_615.1 we_615.2
theorem wd_617 : (Jvm.Cond.methodLink "DigFill$Tape" (86 : Nat) ({ cls := "java/lang/String", name := "charAt", desc := "(I)C" } : Jvm.MethodName)) ∈ am_words := am_in 617 we_617.1 we_617.2
theorem wd_618 : (Jvm.Cond.instanceMethod ({ cls := "java/lang/String", name := "charAt", desc := "(I)C" } : Jvm.MethodName)) ∈ am_words := am_in 618 we_618.1 we_618.2
theorem wd_619 : (Jvm.Cond.selects "java/lang/String" ({ cls := "java/lang/String", name := "charAt", desc := "(I)C" } : Jvm.MethodName) ({ cls := "java/lang/String", name := "charAt", desc := "(I)C" } : Jvm.MethodName)) ∈ am_words := am_in 619 we_619.1 we_619.2
theorem wd_620 : (Jvm.Cond.code ({ cls := "java/lang/String", name := "charAt", desc := "(I)C" } : Jvm.MethodName) prog_14_method_56_code (2 : Nat) (Option.some Jvm.ClassFile.FieldType.char)) ∈ am_words := am_in 620 we_620.1 we_620.2
theorem wd_621 : (Jvm.Cond.methodLink "java/lang/String" (492 : Nat) ({ cls := "java/lang/String", name := "isLatin1", desc := "()Z" } : Jvm.MethodName)) ∈ am_words := am_in 621 we_621.1 we_621.2
theorem wd_622 : (Jvm.Cond.instanceMethod ({ cls := "java/lang/String", name := "isLatin1", desc := "()Z" } : Jvm.MethodName)) ∈ am_words := am_in 622 we_622.1 we_622.2
theorem wd_623 : (Jvm.Cond.selects "java/lang/String" ({ cls := "java/lang/String", name := "isLatin1", desc := "()Z" } : Jvm.MethodName) ({ cls := "java/lang/String", name := "isLatin1", desc := "()Z" } : Jvm.MethodName)) ∈ am_words := am_in 623 we_623.1 we_623.2
theorem wd_624 : (Jvm.Cond.code ({ cls := "java/lang/String", name := "isLatin1", desc := "()Z" } : Jvm.MethodName) prog_14_method_154_code (1 : Nat) (Option.some Jvm.ClassFile.FieldType.boolean)) ∈ am_words := am_in 624 we_624.1 we_624.2
theorem wd_625 : (Jvm.Cond.methodLink "java/lang/String" (495 : Nat) ({ cls := "java/lang/StringLatin1", name := "charAt", desc := "([BI)C" } : Jvm.MethodName)) ∈ am_words := am_in 625 we_625.1 we_625.2
theorem wd_626 : (Jvm.Cond.static ({ cls := "java/lang/StringLatin1", name := "charAt", desc := "([BI)C" } : Jvm.MethodName)) ∈ am_words := am_in 626 we_626.1 we_626.2
theorem wd_627 : (Jvm.Cond.code ({ cls := "java/lang/StringLatin1", name := "charAt", desc := "([BI)C" } : Jvm.MethodName) prog_15_method_2_code (2 : Nat) (Option.some Jvm.ClassFile.FieldType.char)) ∈ am_words := am_in 627 we_627.1 we_627.2
theorem wd_628 : (Jvm.Cond.methodLink "java/lang/StringLatin1" (9 : Nat) ({ cls := "java/lang/String", name := "checkIndex", desc := "(II)V" } : Jvm.MethodName)) ∈ am_words := am_in 628 we_628.1 we_628.2
theorem wd_629 : (Jvm.Cond.static ({ cls := "java/lang/String", name := "checkIndex", desc := "(II)V" } : Jvm.MethodName)) ∈ am_words := am_in 629 we_629.1 we_629.2
theorem wd_630 : (Jvm.Cond.code ({ cls := "java/lang/String", name := "checkIndex", desc := "(II)V" } : Jvm.MethodName) prog_14_method_155_code (2 : Nat) (Option.none : Option Jvm.ClassFile.FieldType)) ∈ am_words := am_in 630 we_630.1 we_630.2
theorem wd_631 : (Jvm.Cond.fieldLink "java/lang/String" (1053 : Nat) "jdk/internal/util/Preconditions" "SIOOBE_FORMATTER" "Ljava/util/function/BiFunction;") ∈ am_words := am_in 631 we_631.1 we_631.2
theorem wd_633 : (Jvm.Cond.methodLink "java/lang/String" (1059 : Nat) ({ cls := "jdk/internal/util/Preconditions", name := "checkIndex", desc := "(IILjava/util/function/BiFunction;)I" } : Jvm.MethodName)) ∈ am_words := am_in 633 we_633.1 we_633.2
theorem wd_634 : (Jvm.Cond.static ({ cls := "jdk/internal/util/Preconditions", name := "checkIndex", desc := "(IILjava/util/function/BiFunction;)I" } : Jvm.MethodName)) ∈ am_words := am_in 634 we_634.1 we_634.2
theorem wd_635 : (Jvm.Cond.code ({ cls := "jdk/internal/util/Preconditions", name := "checkIndex", desc := "(IILjava/util/function/BiFunction;)I" } : Jvm.MethodName) prog_19_method_11_code (3 : Nat) (Option.some Jvm.ClassFile.FieldType.int)) ∈ am_words := am_in 635 we_635.1 we_635.2
theorem wd_657 : (Jvm.Cond.methodLink "DigFill$Tape" (53 : Nat) ({ cls := "DigFill$Tape", name := "joinedBy", desc := "(I)Z" } : Jvm.MethodName)) ∈ am_words := am_in 657 we_657.1 we_657.2
theorem wd_659 : (Jvm.Cond.instanceMethod ({ cls := "DigFill$Tape", name := "joinedBy", desc := "(I)Z" } : Jvm.MethodName)) ∈ am_words := am_in 659 we_659.1 we_659.2
theorem wd_660 : (Jvm.Cond.code ({ cls := "DigFill$Tape", name := "joinedBy", desc := "(I)Z" } : Jvm.MethodName) prog_7_method_8_code (4 : Nat) (Option.some Jvm.ClassFile.FieldType.boolean)) ∈ am_words := am_in 660 we_660.1 we_660.2
theorem wd_661 : (Jvm.Cond.methodLink "DigFill$Tape" (90 : Nat) ({ cls := "DigFill$Tape", name := "partOf", desc := "(I)Z" } : Jvm.MethodName)) ∈ am_words := am_in 661 we_661.1 we_661.2
theorem wd_663 : (Jvm.Cond.instanceMethod ({ cls := "DigFill$Tape", name := "partOf", desc := "(I)Z" } : Jvm.MethodName)) ∈ am_words := am_in 663 we_663.1 we_663.2
theorem wd_664 : (Jvm.Cond.code ({ cls := "DigFill$Tape", name := "partOf", desc := "(I)Z" } : Jvm.MethodName) prog_7_method_9_code (2 : Nat) (Option.some Jvm.ClassFile.FieldType.boolean)) ∈ am_words := am_in 664 we_664.1 we_664.2
theorem wd_665 : (Jvm.Cond.methodLink "DigFill$Tape" (100 : Nat) ({ cls := "DigFill$Tape", name := "piece", desc := "()Z" } : Jvm.MethodName)) ∈ am_words := am_in 665 we_665.1 we_665.2
theorem wd_667 : (Jvm.Cond.instanceMethod ({ cls := "DigFill$Tape", name := "piece", desc := "()Z" } : Jvm.MethodName)) ∈ am_words := am_in 667 we_667.1 we_667.2
theorem wd_668 : (Jvm.Cond.code ({ cls := "DigFill$Tape", name := "piece", desc := "()Z" } : Jvm.MethodName) prog_7_method_11_code (1 : Nat) (Option.some Jvm.ClassFile.FieldType.boolean)) ∈ am_words := am_in 668 we_668.1 we_668.2
theorem wd_669 : (Jvm.Cond.methodLink "DigFill$Tape" (104 : Nat) ({ cls := "DigFill$Tape", name := "number", desc := "()Z" } : Jvm.MethodName)) ∈ am_words := am_in 669 we_669.1 we_669.2
theorem wd_671 : (Jvm.Cond.instanceMethod ({ cls := "DigFill$Tape", name := "number", desc := "()Z" } : Jvm.MethodName)) ∈ am_words := am_in 671 we_671.1 we_671.2
theorem wd_672 : (Jvm.Cond.code ({ cls := "DigFill$Tape", name := "number", desc := "()Z" } : Jvm.MethodName) prog_7_method_12_code (3 : Nat) (Option.some Jvm.ClassFile.FieldType.boolean)) ∈ am_words := am_in 672 we_672.1 we_672.2
theorem wd_673 : (Jvm.Cond.methodLink "DigFill$Tape" (96 : Nat) ({ cls := "DigFill$Tape", name := "put", desc := "(I)V" } : Jvm.MethodName)) ∈ am_words := am_in 673 we_673.1 we_673.2
theorem wd_675 : (Jvm.Cond.instanceMethod ({ cls := "DigFill$Tape", name := "put", desc := "(I)V" } : Jvm.MethodName)) ∈ am_words := am_in 675 we_675.1 we_675.2
theorem wd_676 : (Jvm.Cond.code ({ cls := "DigFill$Tape", name := "put", desc := "(I)V" } : Jvm.MethodName) prog_7_method_17_code (2 : Nat) (Option.none : Option Jvm.ClassFile.FieldType)) ∈ am_words := am_in 676 we_676.1 we_676.2
theorem wd_677 : (Jvm.Cond.methodLink "DigFill$Tape" (107 : Nat) ({ cls := "DigFill$Tape", name := "name", desc := "()Z" } : Jvm.MethodName)) ∈ am_words := am_in 677 we_677.1 we_677.2
theorem wd_679 : (Jvm.Cond.instanceMethod ({ cls := "DigFill$Tape", name := "name", desc := "()Z" } : Jvm.MethodName)) ∈ am_words := am_in 679 we_679.1 we_679.2
theorem wd_680 : (Jvm.Cond.code ({ cls := "DigFill$Tape", name := "name", desc := "()Z" } : Jvm.MethodName) prog_7_method_13_code (2 : Nat) (Option.some Jvm.ClassFile.FieldType.boolean)) ∈ am_words := am_in 680 we_680.1 we_680.2
theorem wd_681 : (Jvm.Cond.methodLink "DigFill$Tape" (116 : Nat) ({ cls := "DigFill$Tape", name := "namesOf", desc := "(I)Ljava/lang/String;" } : Jvm.MethodName)) ∈ am_words := am_in 681 we_681.1 we_681.2
theorem wd_682 : (Jvm.Cond.static ({ cls := "DigFill$Tape", name := "namesOf", desc := "(I)Ljava/lang/String;" } : Jvm.MethodName)) ∈ am_words := am_in 682 we_682.1 we_682.2
theorem wd_683 : (Jvm.Cond.code ({ cls := "DigFill$Tape", name := "namesOf", desc := "(I)Ljava/lang/String;" } : Jvm.MethodName) prog_7_method_14_code (1 : Nat) (Option.some (Jvm.ClassFile.FieldType.object "java/lang/String"))) ∈ am_words := am_in 683 we_683.1 we_683.2
theorem wd_687 : (Jvm.Cond.methodLink "DigFill$Tape" (120 : Nat) ({ cls := "java/lang/String", name := "indexOf", desc := "(I)I" } : Jvm.MethodName)) ∈ am_words := am_in 687 we_687.1 we_687.2
theorem wd_688 : (Jvm.Cond.instanceMethod ({ cls := "java/lang/String", name := "indexOf", desc := "(I)I" } : Jvm.MethodName)) ∈ am_words := am_in 688 we_688.1 we_688.2
theorem wd_689 : (Jvm.Cond.selects "java/lang/String" ({ cls := "java/lang/String", name := "indexOf", desc := "(I)I" } : Jvm.MethodName) ({ cls := "java/lang/String", name := "indexOf", desc := "(I)I" } : Jvm.MethodName)) ∈ am_words := am_in 689 we_689.1 we_689.2
theorem wd_690 : (Jvm.Cond.code ({ cls := "java/lang/String", name := "indexOf", desc := "(I)I" } : Jvm.MethodName) prog_14_method_79_code (2 : Nat) (Option.some Jvm.ClassFile.FieldType.int)) ∈ am_words := am_in 690 we_690.1 we_690.2
theorem wd_691 : (Jvm.Cond.methodLink "java/lang/String" (633 : Nat) ({ cls := "java/lang/String", name := "indexOf", desc := "(II)I" } : Jvm.MethodName)) ∈ am_words := am_in 691 we_691.1 we_691.2
theorem wd_692 : (Jvm.Cond.instanceMethod ({ cls := "java/lang/String", name := "indexOf", desc := "(II)I" } : Jvm.MethodName)) ∈ am_words := am_in 692 we_692.1 we_692.2
theorem wd_693 : (Jvm.Cond.selects "java/lang/String" ({ cls := "java/lang/String", name := "indexOf", desc := "(II)I" } : Jvm.MethodName) ({ cls := "java/lang/String", name := "indexOf", desc := "(II)I" } : Jvm.MethodName)) ∈ am_words := am_in 693 we_693.1 we_693.2
theorem wd_694 : (Jvm.Cond.code ({ cls := "java/lang/String", name := "indexOf", desc := "(II)I" } : Jvm.MethodName) prog_14_method_80_code (3 : Nat) (Option.some Jvm.ClassFile.FieldType.int)) ∈ am_words := am_in 694 we_694.1 we_694.2
theorem wd_695 : (Jvm.Cond.methodLink "java/lang/String" (505 : Nat) ({ cls := "java/lang/String", name := "length", desc := "()I" } : Jvm.MethodName)) ∈ am_words := am_in 695 we_695.1 we_695.2
theorem wd_696 : (Jvm.Cond.methodLink "java/lang/String" (637 : Nat) ({ cls := "java/lang/StringLatin1", name := "indexOf", desc := "([BIII)I" } : Jvm.MethodName)) ∈ am_words := am_in 696 we_696.1 we_696.2
theorem wd_697 : (Jvm.Cond.static ({ cls := "java/lang/StringLatin1", name := "indexOf", desc := "([BIII)I" } : Jvm.MethodName)) ∈ am_words := am_in 697 we_697.1 we_697.2
theorem wd_698 : (Jvm.Cond.code ({ cls := "java/lang/StringLatin1", name := "indexOf", desc := "([BIII)I" } : Jvm.MethodName) prog_15_method_22_code (4 : Nat) (Option.some Jvm.ClassFile.FieldType.int)) ∈ am_words := am_in 698 we_698.1 we_698.2
theorem wd_699 : (Jvm.Cond.methodLink "java/lang/StringLatin1" (88 : Nat) ({ cls := "java/lang/StringLatin1", name := "canEncode", desc := "(I)Z" } : Jvm.MethodName)) ∈ am_words := am_in 699 we_699.1 we_699.2
theorem wd_700 : (Jvm.Cond.static ({ cls := "java/lang/StringLatin1", name := "canEncode", desc := "(I)Z" } : Jvm.MethodName)) ∈ am_words := am_in 700 we_700.1 we_700.2
theorem wd_701 : (Jvm.Cond.code ({ cls := "java/lang/StringLatin1", name := "canEncode", desc := "(I)Z" } : Jvm.MethodName) prog_15_method_4_code (1 : Nat) (Option.some Jvm.ClassFile.FieldType.boolean)) ∈ am_words := am_in 701 we_701.1 we_701.2
theorem wd_702 : (Jvm.Cond.methodLink "java/lang/StringLatin1" (92 : Nat) ({ cls := "java/lang/Math", name := "max", desc := "(II)I" } : Jvm.MethodName)) ∈ am_words := am_in 702 we_702.1 we_702.2
theorem wd_703 : (Jvm.Cond.methodLink "java/lang/StringLatin1" (38 : Nat) ({ cls := "java/lang/Math", name := "min", desc := "(II)I" } : Jvm.MethodName)) ∈ am_words := am_in 703 we_703.1 we_703.2
theorem wd_704 : (Jvm.Cond.methodLink "java/lang/StringLatin1" (95 : Nat) ({ cls := "java/lang/StringLatin1", name := "indexOfChar", desc := "([BIII)I" } : Jvm.MethodName)) ∈ am_words := am_in 704 we_704.1 we_704.2
theorem wd_705 : (Jvm.Cond.static ({ cls := "java/lang/StringLatin1", name := "indexOfChar", desc := "([BIII)I" } : Jvm.MethodName)) ∈ am_words := am_in 705 we_705.1 we_705.2
theorem wd_706 : (Jvm.Cond.code ({ cls := "java/lang/StringLatin1", name := "indexOfChar", desc := "([BIII)I" } : Jvm.MethodName) prog_15_method_23_code (6 : Nat) (Option.some Jvm.ClassFile.FieldType.int)) ∈ am_words := am_in 706 we_706.1 we_706.2
theorem wd_742 : (Jvm.Cond.methodLink "DigFill$Tape" (110 : Nat) ({ cls := "DigFill$Tape", name := "not", desc := "()Z" } : Jvm.MethodName)) ∈ am_words := am_in 742 we_742.1 we_742.2
theorem wd_744 : (Jvm.Cond.instanceMethod ({ cls := "DigFill$Tape", name := "not", desc := "()Z" } : Jvm.MethodName)) ∈ am_words := am_in 744 we_744.1 we_744.2
theorem wd_745 : (Jvm.Cond.code ({ cls := "DigFill$Tape", name := "not", desc := "()Z" } : Jvm.MethodName) prog_7_method_15_code (1 : Nat) (Option.some Jvm.ClassFile.FieldType.boolean)) ∈ am_words := am_in 745 we_745.1 we_745.2
theorem wd_746 : (Jvm.Cond.methodLink "DigFill$Tape" (113 : Nat) ({ cls := "DigFill$Tape", name := "brackets", desc := "()Z" } : Jvm.MethodName)) ∈ am_words := am_in 746 we_746.1 we_746.2
theorem wd_748 : (Jvm.Cond.instanceMethod ({ cls := "DigFill$Tape", name := "brackets", desc := "()Z" } : Jvm.MethodName)) ∈ am_words := am_in 748 we_748.1 we_748.2
theorem wd_749 : (Jvm.Cond.code ({ cls := "DigFill$Tape", name := "brackets", desc := "()Z" } : Jvm.MethodName) prog_7_method_16_code (1 : Nat) (Option.some Jvm.ClassFile.FieldType.boolean)) ∈ am_words := am_in 749 we_749.1 we_749.2
theorem wd_750 : (Jvm.Cond.methodLink "DigFill$Tape" (93 : Nat) ({ cls := "DigFill$Tape", name := "joins", desc := "(I)Z" } : Jvm.MethodName)) ∈ am_words := am_in 750 we_750.1 we_750.2
theorem wd_752 : (Jvm.Cond.instanceMethod ({ cls := "DigFill$Tape", name := "joins", desc := "(I)Z" } : Jvm.MethodName)) ∈ am_words := am_in 752 we_752.1 we_752.2
theorem wd_753 : (Jvm.Cond.code ({ cls := "DigFill$Tape", name := "joins", desc := "(I)Z" } : Jvm.MethodName) prog_7_method_10_code (2 : Nat) (Option.some Jvm.ClassFile.FieldType.boolean)) ∈ am_words := am_in 753 we_753.1 we_753.2
theorem wd_754 : (Jvm.Cond.classLink "DigFill$Tape" (57 : Nat) "DigFill$Text") ∈ am_words := am_in 754 we_754.1 we_754.2
theorem wd_755 : (Jvm.Cond.instantiable "DigFill$Text" (4 : Nat)) ∈ am_words := am_in 755 we_755.1 we_755.2
theorem wd_756 : (Jvm.Cond.methodLink "DigFill$Tape" (59 : Nat) ({ cls := "java/util/Arrays", name := "copyOf", desc := "([II)[I" } : Jvm.MethodName)) ∈ am_words := am_in 756 we_756.1 we_756.2
theorem wd_757 : (Jvm.Cond.static ({ cls := "java/util/Arrays", name := "copyOf", desc := "([II)[I" } : Jvm.MethodName)) ∈ am_words := am_in 757 we_757.1 we_757.2
theorem wd_758 : (Jvm.Cond.code ({ cls := "java/util/Arrays", name := "copyOf", desc := "([II)[I" } : Jvm.MethodName) prog_18_method_123_code (3 : Nat) (Option.some (Jvm.ClassFile.FieldType.array Jvm.ClassFile.FieldType.int))) ∈ am_words := am_in 758 we_758.1 we_758.2
theorem wd_766 : (Jvm.Cond.methodLink "java/util/Arrays" (304 : Nat) ({ cls := "java/lang/Math", name := "min", desc := "(II)I" } : Jvm.MethodName)) ∈ am_words := am_in 766 we_766.1 we_766.2
theorem wd_767 : (Jvm.Cond.methodLink "java/util/Arrays" (150 : Nat) ({ cls := "java/lang/System", name := "arraycopy", desc := "(Ljava/lang/Object;ILjava/lang/Object;II)V" } : Jvm.MethodName)) ∈ am_words := am_in 767 we_767.1 we_767.2
theorem wd_768 : (Jvm.Cond.methodLink "DigFill$Tape" (65 : Nat) ({ cls := "DigFill$Text", name := "<init>", desc := "(II[I)V" } : Jvm.MethodName)) ∈ am_words := am_in 768 we_768.1 we_768.2
theorem wd_769 : (Jvm.Cond.instanceMethod ({ cls := "DigFill$Text", name := "<init>", desc := "(II[I)V" } : Jvm.MethodName)) ∈ am_words := am_in 769 we_769.1 we_769.2
theorem wd_770 : (Jvm.Cond.code ({ cls := "DigFill$Text", name := "<init>", desc := "(II[I)V" } : Jvm.MethodName) prog_8_method_1_code (4 : Nat) (Option.none : Option Jvm.ClassFile.FieldType)) ∈ am_words := am_in 770 we_770.1 we_770.2
theorem wd_771 : (Jvm.Cond.methodLink "DigFill$Text" (1 : Nat) ({ cls := "java/lang/Object", name := "<init>", desc := "()V" } : Jvm.MethodName)) ∈ am_words := am_in 771 we_771.1 we_771.2
theorem wd_772 : (Jvm.Cond.fieldLink "DigFill$Text" (7 : Nat) "DigFill$Text" "key" "I") ∈ am_words := am_in 772 we_772.1 we_772.2
theorem wd_775 : (Jvm.Cond.fieldLink "DigFill$Text" (13 : Nat) "DigFill$Text" "pieces" "I") ∈ am_words := am_in 775 we_775.1 we_775.2
theorem wd_777 : (Jvm.Cond.fieldLink "DigFill$Text" (16 : Nat) "DigFill$Text" "codes" "[I") ∈ am_words := am_in 777 we_777.1 we_777.2
theorem wd_778 : (Jvm.Cond.fieldLink "DigFill$Text" (20 : Nat) "DigFill$Text" "stack" "[I") ∈ am_words := am_in 778 we_778.1 we_778.2
theorem wd_789 : (Jvm.Cond.methodLink "DigFill" (231 : Nat) ({ cls := "DigFill$Land", name := "addText", desc := "(LDigFill$Text;)I" } : Jvm.MethodName)) ∈ am_words := am_in 789 we_789.1 we_789.2
theorem wd_790 : (Jvm.Cond.instanceMethod ({ cls := "DigFill$Land", name := "addText", desc := "(LDigFill$Text;)I" } : Jvm.MethodName)) ∈ am_words := am_in 790 we_790.1 we_790.2
theorem wd_791 : (Jvm.Cond.selects "DigFill$Land" ({ cls := "DigFill$Land", name := "addText", desc := "(LDigFill$Text;)I" } : Jvm.MethodName) ({ cls := "DigFill$Land", name := "addText", desc := "(LDigFill$Text;)I" } : Jvm.MethodName)) ∈ am_words := am_in 791 we_791.1 we_791.2
theorem wd_792 : (Jvm.Cond.code ({ cls := "DigFill$Land", name := "addText", desc := "(LDigFill$Text;)I" } : Jvm.MethodName) prog_4_method_20_code (3 : Nat) (Option.some Jvm.ClassFile.FieldType.int)) ∈ am_words := am_in 792 we_792.1 we_792.2
theorem wd_793 : (Jvm.Cond.methodLink "DigFillLaw" (126 : Nat) ({ cls := "DigFill", name := "textTold", desc := "(II)I" } : Jvm.MethodName)) ∈ am_words := am_in 793 we_793.1 we_793.2
theorem wd_794 : (Jvm.Cond.instanceMethod ({ cls := "DigFill", name := "textTold", desc := "(II)I" } : Jvm.MethodName)) ∈ am_words := am_in 794 we_794.1 we_794.2
theorem wd_795 : (Jvm.Cond.selects "DigFill" ({ cls := "DigFill", name := "textTold", desc := "(II)I" } : Jvm.MethodName) ({ cls := "DigFill", name := "textTold", desc := "(II)I" } : Jvm.MethodName)) ∈ am_words := am_in 795 we_795.1 we_795.2
theorem wd_796 : (Jvm.Cond.code ({ cls := "DigFill", name := "textTold", desc := "(II)I" } : Jvm.MethodName) prog_1_method_29_code (4 : Nat) (Option.some Jvm.ClassFile.FieldType.int)) ∈ am_words := am_in 796 we_796.1 we_796.2
theorem wd_797 : (Jvm.Cond.methodLink "DigFill" (235 : Nat) ({ cls := "DigFill$Land", name := "findText", desc := "(I)LDigFill$Text;" } : Jvm.MethodName)) ∈ am_words := am_in 797 we_797.1 we_797.2
theorem wd_798 : (Jvm.Cond.methodLink "DigFillLaw" (130 : Nat) ({ cls := "DigFill", name := "why", desc := "(I)I" } : Jvm.MethodName)) ∈ am_words := am_in 798 we_798.1 we_798.2
theorem wd_799 : (Jvm.Cond.instanceMethod ({ cls := "DigFill", name := "why", desc := "(I)I" } : Jvm.MethodName)) ∈ am_words := am_in 799 we_799.1 we_799.2
theorem wd_800 : (Jvm.Cond.selects "DigFill" ({ cls := "DigFill", name := "why", desc := "(I)I" } : Jvm.MethodName) ({ cls := "DigFill", name := "why", desc := "(I)I" } : Jvm.MethodName)) ∈ am_words := am_in 800 we_800.1 we_800.2
theorem wd_801 : (Jvm.Cond.code ({ cls := "DigFill", name := "why", desc := "(I)I" } : Jvm.MethodName) prog_1_method_30_code (3 : Nat) (Option.some Jvm.ClassFile.FieldType.int)) ∈ am_words := am_in 801 we_801.1 we_801.2
theorem wd_802 : (Jvm.Cond.methodLink "DigFillLaw" (134 : Nat) ({ cls := "DigFill", name := "sheet", desc := "(III)I" } : Jvm.MethodName)) ∈ am_words := am_in 802 we_802.1 we_802.2
theorem wd_803 : (Jvm.Cond.instanceMethod ({ cls := "DigFill", name := "sheet", desc := "(III)I" } : Jvm.MethodName)) ∈ am_words := am_in 803 we_803.1 we_803.2
theorem wd_804 : (Jvm.Cond.selects "DigFill" ({ cls := "DigFill", name := "sheet", desc := "(III)I" } : Jvm.MethodName) ({ cls := "DigFill", name := "sheet", desc := "(III)I" } : Jvm.MethodName)) ∈ am_words := am_in 804 we_804.1 we_804.2
theorem wd_805 : (Jvm.Cond.code ({ cls := "DigFill", name := "sheet", desc := "(III)I" } : Jvm.MethodName) prog_1_method_31_code (5 : Nat) (Option.some Jvm.ClassFile.FieldType.int)) ∈ am_words := am_in 805 we_805.1 we_805.2
theorem wd_806 : (Jvm.Cond.methodLink "DigFill" (250 : Nat) ({ cls := "DigFill$Sheet", name := "clear", desc := "(II)V" } : Jvm.MethodName)) ∈ am_words := am_in 806 we_806.1 we_806.2
theorem wd_807 : (Jvm.Cond.instanceMethod ({ cls := "DigFill$Sheet", name := "clear", desc := "(II)V" } : Jvm.MethodName)) ∈ am_words := am_in 807 we_807.1 we_807.2
theorem wd_808 : (Jvm.Cond.selects "DigFill$Sheet" ({ cls := "DigFill$Sheet", name := "clear", desc := "(II)V" } : Jvm.MethodName) ({ cls := "DigFill$Sheet", name := "clear", desc := "(II)V" } : Jvm.MethodName)) ∈ am_words := am_in 808 we_808.1 we_808.2
theorem wd_809 : (Jvm.Cond.code ({ cls := "DigFill$Sheet", name := "clear", desc := "(II)V" } : Jvm.MethodName) prog_5_method_2_code (3 : Nat) (Option.none : Option Jvm.ClassFile.FieldType)) ∈ am_words := am_in 809 we_809.1 we_809.2
theorem wd_810 : (Jvm.Cond.methodLink "DigFill$Sheet" (22 : Nat) ({ cls := "java/util/Arrays", name := "fill", desc := "([II)V" } : Jvm.MethodName)) ∈ am_words := am_in 810 we_810.1 we_810.2
theorem wd_811 : (Jvm.Cond.constant "DigFill" (253 : Nat) (-1000000014 : Int32)) ∈ am_words := am_in 811 we_811.1 we_811.2
theorem wd_812 : (Jvm.Cond.methodLink "DigFillLaw" (138 : Nat) ({ cls := "DigFill", name := "mark", desc := "(III)I" } : Jvm.MethodName)) ∈ am_words := am_in 812 we_812.1 we_812.2
theorem wd_813 : (Jvm.Cond.instanceMethod ({ cls := "DigFill", name := "mark", desc := "(III)I" } : Jvm.MethodName)) ∈ am_words := am_in 813 we_813.1 we_813.2
theorem wd_814 : (Jvm.Cond.selects "DigFill" ({ cls := "DigFill", name := "mark", desc := "(III)I" } : Jvm.MethodName) ({ cls := "DigFill", name := "mark", desc := "(III)I" } : Jvm.MethodName)) ∈ am_words := am_in 814 we_814.1 we_814.2
theorem wd_815 : (Jvm.Cond.code ({ cls := "DigFill", name := "mark", desc := "(III)I" } : Jvm.MethodName) prog_1_method_32_code (5 : Nat) (Option.some Jvm.ClassFile.FieldType.int)) ∈ am_words := am_in 815 we_815.1 we_815.2
theorem wd_816 : (Jvm.Cond.methodLink "DigFill" (254 : Nat) ({ cls := "DigFill$Sheet", name := "has", desc := "(I)Z" } : Jvm.MethodName)) ∈ am_words := am_in 816 we_816.1 we_816.2
theorem wd_817 : (Jvm.Cond.constant "DigFill" (257 : Nat) (-1000000013 : Int32)) ∈ am_words := am_in 817 we_817.1 we_817.2
theorem wd_818 : (Jvm.Cond.constant "DigFill" (261 : Nat) (-99999 : Int32)) ∈ am_words := am_in 818 we_818.1 we_818.2
theorem wd_819 : (Jvm.Cond.constant "DigFill" (262 : Nat) (99999 : Int32)) ∈ am_words := am_in 819 we_819.1 we_819.2
theorem wd_820 : (Jvm.Cond.methodLink "DigFillLaw" (142 : Nat) ({ cls := "DigFill", name := "pour", desc := "(I)I" } : Jvm.MethodName)) ∈ am_words := am_in 820 we_820.1 we_820.2
theorem wd_821 : (Jvm.Cond.instanceMethod ({ cls := "DigFill", name := "pour", desc := "(I)I" } : Jvm.MethodName)) ∈ am_words := am_in 821 we_821.1 we_821.2
theorem wd_822 : (Jvm.Cond.selects "DigFill" ({ cls := "DigFill", name := "pour", desc := "(I)I" } : Jvm.MethodName) ({ cls := "DigFill", name := "pour", desc := "(I)I" } : Jvm.MethodName)) ∈ am_words := am_in 822 we_822.1 we_822.2
theorem wd_823 : (Jvm.Cond.code ({ cls := "DigFill", name := "pour", desc := "(I)I" } : Jvm.MethodName) prog_1_method_33_code (7 : Nat) (Option.some Jvm.ClassFile.FieldType.int)) ∈ am_words := am_in 823 we_823.1 we_823.2
theorem wd_824 : (Jvm.Cond.methodLink "DigFill" (266 : Nat) ({ cls := "DigFill", name := "held", desc := "(II)I" } : Jvm.MethodName)) ∈ am_words := am_in 824 we_824.1 we_824.2
theorem wd_825 : (Jvm.Cond.methodLink "DigFillLaw" (146 : Nat) ({ cls := "DigFill", name := "reads", desc := "(I)I" } : Jvm.MethodName)) ∈ am_words := am_in 825 we_825.1 we_825.2
theorem wd_826 : (Jvm.Cond.instanceMethod ({ cls := "DigFill", name := "reads", desc := "(I)I" } : Jvm.MethodName)) ∈ am_words := am_in 826 we_826.1 we_826.2
theorem wd_827 : (Jvm.Cond.selects "DigFill" ({ cls := "DigFill", name := "reads", desc := "(I)I" } : Jvm.MethodName) ({ cls := "DigFill", name := "reads", desc := "(I)I" } : Jvm.MethodName)) ∈ am_words := am_in 827 we_827.1 we_827.2
theorem wd_828 : (Jvm.Cond.code ({ cls := "DigFill", name := "reads", desc := "(I)I" } : Jvm.MethodName) prog_1_method_34_code (5 : Nat) (Option.some Jvm.ClassFile.FieldType.int)) ∈ am_words := am_in 828 we_828.1 we_828.2
theorem wd_829 : (Jvm.Cond.methodLink "DigFillLaw" (150 : Nat) ({ cls := "DigFill", name := "copy", desc := "(IIIII)I" } : Jvm.MethodName)) ∈ am_words := am_in 829 we_829.1 we_829.2
theorem wd_830 : (Jvm.Cond.instanceMethod ({ cls := "DigFill", name := "copy", desc := "(IIIII)I" } : Jvm.MethodName)) ∈ am_words := am_in 830 we_830.1 we_830.2
theorem wd_831 : (Jvm.Cond.selects "DigFill" ({ cls := "DigFill", name := "copy", desc := "(IIIII)I" } : Jvm.MethodName) ({ cls := "DigFill", name := "copy", desc := "(IIIII)I" } : Jvm.MethodName)) ∈ am_words := am_in 831 we_831.1 we_831.2
theorem wd_832 : (Jvm.Cond.code ({ cls := "DigFill", name := "copy", desc := "(IIIII)I" } : Jvm.MethodName) prog_1_method_35_code (8 : Nat) (Option.some Jvm.ClassFile.FieldType.int)) ∈ am_words := am_in 832 we_832.1 we_832.2
theorem wd_833 : (Jvm.Cond.methodLink "DigFill" (272 : Nat) ({ cls := "DigFill$Sheet", name := "hasAll", desc := "(II)Z" } : Jvm.MethodName)) ∈ am_words := am_in 833 we_833.1 we_833.2
theorem wd_834 : (Jvm.Cond.instanceMethod ({ cls := "DigFill$Sheet", name := "hasAll", desc := "(II)Z" } : Jvm.MethodName)) ∈ am_words := am_in 834 we_834.1 we_834.2
theorem wd_835 : (Jvm.Cond.selects "DigFill$Sheet" ({ cls := "DigFill$Sheet", name := "hasAll", desc := "(II)Z" } : Jvm.MethodName) ({ cls := "DigFill$Sheet", name := "hasAll", desc := "(II)Z" } : Jvm.MethodName)) ∈ am_words := am_in 835 we_835.1 we_835.2
theorem wd_836 : (Jvm.Cond.code ({ cls := "DigFill$Sheet", name := "hasAll", desc := "(II)Z" } : Jvm.MethodName) prog_5_method_5_code (3 : Nat) (Option.some Jvm.ClassFile.FieldType.boolean)) ∈ am_words := am_in 836 we_836.1 we_836.2
theorem wd_837 : (Jvm.Cond.methodLink "DigFill" (275 : Nat) ({ cls := "java/lang/System", name := "arraycopy", desc := "(Ljava/lang/Object;ILjava/lang/Object;II)V" } : Jvm.MethodName)) ∈ am_words := am_in 837 we_837.1 we_837.2
theorem wd_838 : (Jvm.Cond.methodLink "DigFillLaw" (155 : Nat) ({ cls := "DigFill", name := "lay", desc := "(III)I" } : Jvm.MethodName)) ∈ am_words := am_in 838 we_838.1 we_838.2
theorem wd_839 : (Jvm.Cond.instanceMethod ({ cls := "DigFill", name := "lay", desc := "(III)I" } : Jvm.MethodName)) ∈ am_words := am_in 839 we_839.1 we_839.2
theorem wd_840 : (Jvm.Cond.selects "DigFill" ({ cls := "DigFill", name := "lay", desc := "(III)I" } : Jvm.MethodName) ({ cls := "DigFill", name := "lay", desc := "(III)I" } : Jvm.MethodName)) ∈ am_words := am_in 840 we_840.1 we_840.2
theorem wd_841 : (Jvm.Cond.code ({ cls := "DigFill", name := "lay", desc := "(III)I" } : Jvm.MethodName) prog_1_method_36_code (8 : Nat) (Option.some Jvm.ClassFile.FieldType.int)) ∈ am_words := am_in 841 we_841.1 we_841.2
theorem wd_842 : (Jvm.Cond.methodLink "DigFill" (281 : Nat) ({ cls := "DigFill", name := "slotAt", desc := "(I)LDigFill$Slot;" } : Jvm.MethodName)) ∈ am_words := am_in 842 we_842.1 we_842.2
theorem wd_844 : (Jvm.Cond.instanceMethod ({ cls := "DigFill", name := "slotAt", desc := "(I)LDigFill$Slot;" } : Jvm.MethodName)) ∈ am_words := am_in 844 we_844.1 we_844.2
theorem wd_845 : (Jvm.Cond.code ({ cls := "DigFill", name := "slotAt", desc := "(I)LDigFill$Slot;" } : Jvm.MethodName) prog_1_method_51_code (2 : Nat) (Option.some (Jvm.ClassFile.FieldType.object "DigFill$Slot"))) ∈ am_words := am_in 845 we_845.1 we_845.2
theorem wd_846 : (Jvm.Cond.methodLink "DigFill" (295 : Nat) ({ cls := "DigFill$Hole", name := "become", desc := "(LDigFill$Hole;)V" } : Jvm.MethodName)) ∈ am_words := am_in 846 we_846.1 we_846.2
theorem wd_847 : (Jvm.Cond.methodLink "DigFill" (302 : Nat) ({ cls := "DigFill$Sheet", name := "become", desc := "(LDigFill$Sheet;)V" } : Jvm.MethodName)) ∈ am_words := am_in 847 we_847.1 we_847.2
theorem wd_848 : (Jvm.Cond.instanceMethod ({ cls := "DigFill$Sheet", name := "become", desc := "(LDigFill$Sheet;)V" } : Jvm.MethodName)) ∈ am_words := am_in 848 we_848.1 we_848.2
theorem wd_849 : (Jvm.Cond.selects "DigFill$Sheet" ({ cls := "DigFill$Sheet", name := "become", desc := "(LDigFill$Sheet;)V" } : Jvm.MethodName) ({ cls := "DigFill$Sheet", name := "become", desc := "(LDigFill$Sheet;)V" } : Jvm.MethodName)) ∈ am_words := am_in 849 we_849.1 we_849.2
theorem wd_850 : (Jvm.Cond.code ({ cls := "DigFill$Sheet", name := "become", desc := "(LDigFill$Sheet;)V" } : Jvm.MethodName) prog_5_method_3_code (2 : Nat) (Option.none : Option Jvm.ClassFile.FieldType)) ∈ am_words := am_in 850 we_850.1 we_850.2
theorem wd_851 : (Jvm.Cond.methodLink "DigFill$Sheet" (28 : Nat) ({ cls := "java/lang/System", name := "arraycopy", desc := "(Ljava/lang/Object;ILjava/lang/Object;II)V" } : Jvm.MethodName)) ∈ am_words := am_in 851 we_851.1 we_851.2
theorem wd_852 : (Jvm.Cond.methodLink "DigFillLaw" (159 : Nat) ({ cls := "DigFill", name := "ask", desc := "(II)I" } : Jvm.MethodName)) ∈ am_words := am_in 852 we_852.1 we_852.2
theorem wd_853 : (Jvm.Cond.instanceMethod ({ cls := "DigFill", name := "ask", desc := "(II)I" } : Jvm.MethodName)) ∈ am_words := am_in 853 we_853.1 we_853.2
theorem wd_854 : (Jvm.Cond.selects "DigFill" ({ cls := "DigFill", name := "ask", desc := "(II)I" } : Jvm.MethodName) ({ cls := "DigFill", name := "ask", desc := "(II)I" } : Jvm.MethodName)) ∈ am_words := am_in 854 we_854.1 we_854.2
theorem wd_855 : (Jvm.Cond.code ({ cls := "DigFill", name := "ask", desc := "(II)I" } : Jvm.MethodName) prog_1_method_37_code (4 : Nat) (Option.some Jvm.ClassFile.FieldType.int)) ∈ am_words := am_in 855 we_855.1 we_855.2
theorem wd_856 : (Jvm.Cond.methodLink "DigFill" (304 : Nat) ({ cls := "DigFill$Hole", name := "worth", desc := "()I" } : Jvm.MethodName)) ∈ am_words := am_in 856 we_856.1 we_856.2
theorem wd_857 : (Jvm.Cond.methodLink "DigFillLaw" (163 : Nat) ({ cls := "DigFill", name := "item", desc := "(II)I" } : Jvm.MethodName)) ∈ am_words := am_in 857 we_857.1 we_857.2
theorem wd_858 : (Jvm.Cond.instanceMethod ({ cls := "DigFill", name := "item", desc := "(II)I" } : Jvm.MethodName)) ∈ am_words := am_in 858 we_858.1 we_858.2
theorem wd_859 : (Jvm.Cond.selects "DigFill" ({ cls := "DigFill", name := "item", desc := "(II)I" } : Jvm.MethodName) ({ cls := "DigFill", name := "item", desc := "(II)I" } : Jvm.MethodName)) ∈ am_words := am_in 859 we_859.1 we_859.2
theorem wd_860 : (Jvm.Cond.code ({ cls := "DigFill", name := "item", desc := "(II)I" } : Jvm.MethodName) prog_1_method_38_code (4 : Nat) (Option.some Jvm.ClassFile.FieldType.int)) ∈ am_words := am_in 860 we_860.1 we_860.2
theorem wd_861 : (Jvm.Cond.methodLink "DigFillLaw" (167 : Nat) ({ cls := "DigFill", name := "rest", desc := "(II)I" } : Jvm.MethodName)) ∈ am_words := am_in 861 we_861.1 we_861.2
theorem wd_862 : (Jvm.Cond.instanceMethod ({ cls := "DigFill", name := "rest", desc := "(II)I" } : Jvm.MethodName)) ∈ am_words := am_in 862 we_862.1 we_862.2
theorem wd_863 : (Jvm.Cond.selects "DigFill" ({ cls := "DigFill", name := "rest", desc := "(II)I" } : Jvm.MethodName) ({ cls := "DigFill", name := "rest", desc := "(II)I" } : Jvm.MethodName)) ∈ am_words := am_in 863 we_863.1 we_863.2
theorem wd_864 : (Jvm.Cond.code ({ cls := "DigFill", name := "rest", desc := "(II)I" } : Jvm.MethodName) prog_1_method_39_code (4 : Nat) (Option.some Jvm.ClassFile.FieldType.int)) ∈ am_words := am_in 864 we_864.1 we_864.2
theorem wd_865 : (Jvm.Cond.methodLink "DigFillLaw" (171 : Nat) ({ cls := "DigFill", name := "tell", desc := "(I)I" } : Jvm.MethodName)) ∈ am_words := am_in 865 we_865.1 we_865.2
theorem wd_866 : (Jvm.Cond.instanceMethod ({ cls := "DigFill", name := "tell", desc := "(I)I" } : Jvm.MethodName)) ∈ am_words := am_in 866 we_866.1 we_866.2
theorem wd_867 : (Jvm.Cond.selects "DigFill" ({ cls := "DigFill", name := "tell", desc := "(I)I" } : Jvm.MethodName) ({ cls := "DigFill", name := "tell", desc := "(I)I" } : Jvm.MethodName)) ∈ am_words := am_in 867 we_867.1 we_867.2
theorem wd_868 : (Jvm.Cond.code ({ cls := "DigFill", name := "tell", desc := "(I)I" } : Jvm.MethodName) prog_1_method_40_code (2 : Nat) (Option.some Jvm.ClassFile.FieldType.int)) ∈ am_words := am_in 868 we_868.1 we_868.2
theorem wd_869 : (Jvm.Cond.methodLink "DigFillLaw" (175 : Nat) ({ cls := "DigFill", name := "check", desc := "(I)I" } : Jvm.MethodName)) ∈ am_words := am_in 869 we_869.1 we_869.2
theorem wd_870 : (Jvm.Cond.instanceMethod ({ cls := "DigFill", name := "check", desc := "(I)I" } : Jvm.MethodName)) ∈ am_words := am_in 870 we_870.1 we_870.2
theorem wd_871 : (Jvm.Cond.selects "DigFill" ({ cls := "DigFill", name := "check", desc := "(I)I" } : Jvm.MethodName) ({ cls := "DigFill", name := "check", desc := "(I)I" } : Jvm.MethodName)) ∈ am_words := am_in 871 we_871.1 we_871.2
theorem wd_872 : (Jvm.Cond.code ({ cls := "DigFill", name := "check", desc := "(I)I" } : Jvm.MethodName) prog_1_method_41_code (6 : Nat) (Option.some Jvm.ClassFile.FieldType.int)) ∈ am_words := am_in 872 we_872.1 we_872.2
theorem wd_873 : (Jvm.Cond.methodLink "DigFillLaw" (179 : Nat) ({ cls := "DigFill", name := "keep", desc := "()I" } : Jvm.MethodName)) ∈ am_words := am_in 873 we_873.1 we_873.2
theorem wd_874 : (Jvm.Cond.instanceMethod ({ cls := "DigFill", name := "keep", desc := "()I" } : Jvm.MethodName)) ∈ am_words := am_in 874 we_874.1 we_874.2
theorem wd_875 : (Jvm.Cond.selects "DigFill" ({ cls := "DigFill", name := "keep", desc := "()I" } : Jvm.MethodName) ({ cls := "DigFill", name := "keep", desc := "()I" } : Jvm.MethodName)) ∈ am_words := am_in 875 we_875.1 we_875.2
theorem wd_876 : (Jvm.Cond.code ({ cls := "DigFill", name := "keep", desc := "()I" } : Jvm.MethodName) prog_1_method_42_code (1 : Nat) (Option.some Jvm.ClassFile.FieldType.int)) ∈ am_words := am_in 876 we_876.1 we_876.2
theorem wd_877 : (Jvm.Cond.methodLink "DigFillLaw" (183 : Nat) ({ cls := "DigFill", name := "back", desc := "()I" } : Jvm.MethodName)) ∈ am_words := am_in 877 we_877.1 we_877.2
theorem wd_878 : (Jvm.Cond.instanceMethod ({ cls := "DigFill", name := "back", desc := "()I" } : Jvm.MethodName)) ∈ am_words := am_in 878 we_878.1 we_878.2
theorem wd_879 : (Jvm.Cond.selects "DigFill" ({ cls := "DigFill", name := "back", desc := "()I" } : Jvm.MethodName) ({ cls := "DigFill", name := "back", desc := "()I" } : Jvm.MethodName)) ∈ am_words := am_in 879 we_879.1 we_879.2
theorem wd_880 : (Jvm.Cond.code ({ cls := "DigFill", name := "back", desc := "()I" } : Jvm.MethodName) prog_1_method_43_code (1 : Nat) (Option.some Jvm.ClassFile.FieldType.int)) ∈ am_words := am_in 880 we_880.1 we_880.2
theorem wd_881 : (Jvm.Cond.methodLink "DigFillLaw" (187 : Nat) ({ cls := "DigFill", name := "count", desc := "(I)I" } : Jvm.MethodName)) ∈ am_words := am_in 881 we_881.1 we_881.2
theorem wd_882 : (Jvm.Cond.instanceMethod ({ cls := "DigFill", name := "count", desc := "(I)I" } : Jvm.MethodName)) ∈ am_words := am_in 882 we_882.1 we_882.2
theorem wd_883 : (Jvm.Cond.selects "DigFill" ({ cls := "DigFill", name := "count", desc := "(I)I" } : Jvm.MethodName) ({ cls := "DigFill", name := "count", desc := "(I)I" } : Jvm.MethodName)) ∈ am_words := am_in 883 we_883.1 we_883.2
theorem wd_884 : (Jvm.Cond.code ({ cls := "DigFill", name := "count", desc := "(I)I" } : Jvm.MethodName) prog_1_method_44_code (2 : Nat) (Option.some Jvm.ClassFile.FieldType.int)) ∈ am_words := am_in 884 we_884.1 we_884.2
theorem wd_885 : (Jvm.Cond.classLink "DigFillLaw" (10 : Nat) "DigFillModel") ∈ am_words := am_in 885 we_885.1 we_885.2
theorem wd_886 : (Jvm.Cond.instantiable "DigFillModel" (38 : Nat)) ∈ am_words := am_in 886 we_886.1 we_886.2
theorem wd_887 : (Jvm.Cond.methodLink "DigFillLaw" (12 : Nat) ({ cls := "DigFillModel", name := "<init>", desc := "()V" } : Jvm.MethodName)) ∈ am_words := am_in 887 we_887.1 we_887.2
theorem wd_888 : (Jvm.Cond.instanceMethod ({ cls := "DigFillModel", name := "<init>", desc := "()V" } : Jvm.MethodName)) ∈ am_words := am_in 888 we_888.1 we_888.2
theorem wd_889 : (Jvm.Cond.code ({ cls := "DigFillModel", name := "<init>", desc := "()V" } : Jvm.MethodName) prog_10_method_1_code (1 : Nat) (Option.none : Option Jvm.ClassFile.FieldType)) ∈ am_words := am_in 889 we_889.1 we_889.2
theorem wd_890 : (Jvm.Cond.methodLink "DigFillModel" (1 : Nat) ({ cls := "java/lang/Object", name := "<init>", desc := "()V" } : Jvm.MethodName)) ∈ am_words := am_in 890 we_890.1 we_890.2
theorem wd_891 : (Jvm.Cond.fieldLink "DigFillModel" (9 : Nat) "DigFillModel" "now" "[I") ∈ am_words := am_in 891 we_891.1 we_891.2
theorem wd_892 : (Jvm.Cond.fieldLink "DigFillModel" (13 : Nat) "DigFillModel" "image" "[I") ∈ am_words := am_in 892 we_892.1 we_892.2
theorem wd_893 : (Jvm.Cond.fieldLink "DigFillModel" (16 : Nat) "DigFillModel" "aside" "[I") ∈ am_words := am_in 893 we_893.1 we_893.2
theorem wd_894 : (Jvm.Cond.fieldLink "DigFillModel" (292 : Nat) "DigFillModel" "hasImage" "Z") ∈ am_words := am_in 894 we_894.1 we_894.2
theorem wd_895 : (Jvm.Cond.fieldLink "DigFillModel" (19 : Nat) "DigFillModel" "hasIt" "[I") ∈ am_words := am_in 895 we_895.1 we_895.2
theorem wd_896 : (Jvm.Cond.fieldLink "DigFillModel" (22 : Nat) "DigFillModel" "wasAsked" "[Z") ∈ am_words := am_in 896 we_896.1 we_896.2
theorem wd_897 : (Jvm.Cond.fieldLink "DigFillModel" (26 : Nat) "DigFillModel" "scores" "[I") ∈ am_words := am_in 897 we_897.1 we_897.2
theorem wd_898 : (Jvm.Cond.fieldLink "DigFillModel" (29 : Nat) "DigFillModel" "dealt" "[I") ∈ am_words := am_in 898 we_898.1 we_898.2
theorem wd_899 : (Jvm.Cond.fieldLink "DigFillModel" (32 : Nat) "DigFillModel" "before" "[I") ∈ am_words := am_in 899 we_899.1 we_899.2
theorem wd_900 : (Jvm.Cond.fieldLink "DigFillModel" (35 : Nat) "DigFillModel" "offs" "[J") ∈ am_words := am_in 900 we_900.1 we_900.2
theorem wd_901 : (Jvm.Cond.fieldLink "DigFillModel" (39 : Nat) "DigFillModel" "tape" "[I") ∈ am_words := am_in 901 we_901.1 we_901.2
theorem wd_902 : (Jvm.Cond.fieldLink "DigFillModel" (214 : Nat) "DigFillModel" "taped" "I") ∈ am_words := am_in 902 we_902.1 we_902.2
theorem wd_903 : (Jvm.Cond.fieldLink "DigFillModel" (218 : Nat) "DigFillModel" "next" "I") ∈ am_words := am_in 903 we_903.1 we_903.2
theorem wd_904 : (Jvm.Cond.fieldLink "DigFillModel" (221 : Nat) "DigFillModel" "from" "I") ∈ am_words := am_in 904 we_904.1 we_904.2
theorem wd_905 : (Jvm.Cond.fieldLink "DigFillModel" (227 : Nat) "DigFillModel" "token" "I") ∈ am_words := am_in 905 we_905.1 we_905.2
theorem wd_906 : (Jvm.Cond.fieldLink "DigFillModel" (233 : Nat) "DigFillModel" "value" "I") ∈ am_words := am_in 906 we_906.1 we_906.2
theorem wd_907 : (Jvm.Cond.fieldLink "DigFillModel" (224 : Nat) "DigFillModel" "ended" "I") ∈ am_words := am_in 907 we_907.1 we_907.2
theorem wd_908 : (Jvm.Cond.fieldLink "DigFillModel" (239 : Nat) "DigFillModel" "key" "I") ∈ am_words := am_in 908 we_908.1 we_908.2
theorem wd_909 : (Jvm.Cond.fieldLink "DigFillModel" (42 : Nat) "DigFillModel" "keys" "[C") ∈ am_words := am_in 909 we_909.1 we_909.2
theorem wd_910 : (Jvm.Cond.fieldLink "DigFillModel" (46 : Nat) "DigFillModel" "keyAt" "[I") ∈ am_words := am_in 910 we_910.1 we_910.2
theorem wd_911 : (Jvm.Cond.fieldLink "DigFillModel" (49 : Nat) "DigFillModel" "code" "[I") ∈ am_words := am_in 911 we_911.1 we_911.2
theorem wd_912 : (Jvm.Cond.fieldLink "DigFillModel" (251 : Nat) "DigFillModel" "codes" "I") ∈ am_words := am_in 912 we_912.1 we_912.2
theorem wd_913 : (Jvm.Cond.fieldLink "DigFillModel" (257 : Nat) "DigFillModel" "atoms" "I") ∈ am_words := am_in 913 we_913.1 we_913.2
theorem wd_914 : (Jvm.Cond.fieldLink "DigFillModel" (52 : Nat) "DigFillModel" "waits" "[I") ∈ am_words := am_in 914 we_914.1 we_914.2
theorem wd_915 : (Jvm.Cond.fieldLink "DigFillModel" (245 : Nat) "DigFillModel" "held" "I") ∈ am_words := am_in 915 we_915.1 we_915.2
theorem wd_916 : (Jvm.Cond.fieldLink "DigFillModel" (55 : Nat) "DigFillModel" "tested" "[Z") ∈ am_words := am_in 916 we_916.1 we_916.2
theorem wd_917 : (Jvm.Cond.fieldLink "DigFillModel" (58 : Nat) "DigFillModel" "stack" "[I") ∈ am_words := am_in 917 we_917.1 we_917.2
theorem wd_918 : (Jvm.Cond.fieldLink "DigFillModel" (61 : Nat) "DigFillModel" "facts" "[I") ∈ am_words := am_in 918 we_918.1 we_918.2
theorem wd_919 : (Jvm.Cond.fieldLink "DigFillModel" (64 : Nat) "DigFillModel" "sorts" "[I") ∈ am_words := am_in 919 we_919.1 we_919.2
theorem wd_920 : (Jvm.Cond.fieldLink "DigFillModel" (67 : Nat) "DigFillModel" "sizes" "[I") ∈ am_words := am_in 920 we_920.1 we_920.2
theorem wd_921 : (Jvm.Cond.fieldLink "DigFillModel" (70 : Nat) "DigFillModel" "cells" "[I") ∈ am_words := am_in 921 we_921.1 we_921.2
theorem wd_922 : (Jvm.Cond.fieldLink "DigFillModel" (73 : Nat) "DigFillModel" "holds" "[I") ∈ am_words := am_in 922 we_922.1 we_922.2
theorem wd_923 : (Jvm.Cond.fieldLink "DigFillModel" (76 : Nat) "DigFillModel" "holdsA" "[I") ∈ am_words := am_in 923 we_923.1 we_923.2
theorem wd_924 : (Jvm.Cond.fieldLink "DigFillModel" (79 : Nat) "DigFillModel" "holdsB" "[I") ∈ am_words := am_in 924 we_924.1 we_924.2
theorem wd_925 : (Jvm.Cond.fieldLink "DigFillModel" (82 : Nat) "DigFillModel" "heldCells" "[I") ∈ am_words := am_in 925 we_925.1 we_925.2
theorem wd_926 : (Jvm.Cond.fieldLink "DigFillModel" (85 : Nat) "DigFillModel" "moved" "[I") ∈ am_words := am_in 926 we_926.1 we_926.2
theorem wd_927 : (Jvm.Cond.fieldLink "DigFillModel" (88 : Nat) "DigFillModel" "tells" "[I") ∈ am_words := am_in 927 we_927.1 we_927.2
theorem wd_928 : (Jvm.Cond.fieldLink "DigFillModel" (289 : Nat) "DigFillModel" "waiting" "I") ∈ am_words := am_in 928 we_928.1 we_928.2
theorem wd_1006 : (Jvm.Cond.arrayClass Jvm.ClassFile.FieldType.boolean) ∈ am_words := am_in 1006 we_1006.1 we_1006.2
theorem wd_1007 : (Jvm.Cond.arrayClass Jvm.ClassFile.FieldType.char) ∈ am_words := am_in 1007 we_1007.1 we_1007.2
theorem wd_1008 : (Jvm.Cond.methodLink "DigFillLaw" (17 : Nat) ({ cls := "DigFillModel", name := "hole", desc := "(IIII)I" } : Jvm.MethodName)) ∈ am_words := am_in 1008 we_1008.1 we_1008.2
theorem wd_1009 : (Jvm.Cond.instanceMethod ({ cls := "DigFillModel", name := "hole", desc := "(IIII)I" } : Jvm.MethodName)) ∈ am_words := am_in 1009 we_1009.1 we_1009.2
theorem wd_1010 : (Jvm.Cond.selects "DigFillModel" ({ cls := "DigFillModel", name := "hole", desc := "(IIII)I" } : Jvm.MethodName) ({ cls := "DigFillModel", name := "hole", desc := "(IIII)I" } : Jvm.MethodName)) ∈ am_words := am_in 1010 we_1010.1 we_1010.2
theorem wd_1011 : (Jvm.Cond.code ({ cls := "DigFillModel", name := "hole", desc := "(IIII)I" } : Jvm.MethodName) prog_10_method_15_code (5 : Nat) (Option.some Jvm.ClassFile.FieldType.int)) ∈ am_words := am_in 1011 we_1011.1 we_1011.2
theorem wd_1012 : (Jvm.Cond.methodLink "DigFillModel" (92 : Nat) ({ cls := "DigFillModel", name := "in", desc := "(III)Z" } : Jvm.MethodName)) ∈ am_words := am_in 1012 we_1012.1 we_1012.2
theorem wd_1013 : (Jvm.Cond.static ({ cls := "DigFillModel", name := "in", desc := "(III)Z" } : Jvm.MethodName)) ∈ am_words := am_in 1013 we_1013.1 we_1013.2
theorem wd_1014 : (Jvm.Cond.code ({ cls := "DigFillModel", name := "in", desc := "(III)Z" } : Jvm.MethodName) prog_10_method_2_code (3 : Nat) (Option.some Jvm.ClassFile.FieldType.boolean)) ∈ am_words := am_in 1014 we_1014.1 we_1014.2
theorem wd_1015 : (Jvm.Cond.methodLink "DigFillModel" (104 : Nat) ({ cls := "DigFillModel", name := "isPlace", desc := "(I)Z" } : Jvm.MethodName)) ∈ am_words := am_in 1015 we_1015.1 we_1015.2
theorem wd_1016 : (Jvm.Cond.static ({ cls := "DigFillModel", name := "isPlace", desc := "(I)Z" } : Jvm.MethodName)) ∈ am_words := am_in 1016 we_1016.1 we_1016.2
theorem wd_1017 : (Jvm.Cond.code ({ cls := "DigFillModel", name := "isPlace", desc := "(I)Z" } : Jvm.MethodName) prog_10_method_7_code (1 : Nat) (Option.some Jvm.ClassFile.FieldType.boolean)) ∈ am_words := am_in 1017 we_1017.1 we_1017.2
theorem wd_1018 : (Jvm.Cond.methodLink "DigFillModel" (108 : Nat) ({ cls := "DigFillModel", name := "isOwner", desc := "(I)Z" } : Jvm.MethodName)) ∈ am_words := am_in 1018 we_1018.1 we_1018.2
theorem wd_1019 : (Jvm.Cond.static ({ cls := "DigFillModel", name := "isOwner", desc := "(I)Z" } : Jvm.MethodName)) ∈ am_words := am_in 1019 we_1019.1 we_1019.2
theorem wd_1020 : (Jvm.Cond.code ({ cls := "DigFillModel", name := "isOwner", desc := "(I)Z" } : Jvm.MethodName) prog_10_method_8_code (1 : Nat) (Option.some Jvm.ClassFile.FieldType.boolean)) ∈ am_words := am_in 1020 we_1020.1 we_1020.2
theorem wd_1021 : (Jvm.Cond.constant "DigFillModel" (111 : Nat) (-1000000001 : Int32)) ∈ am_words := am_in 1021 we_1021.1 we_1021.2
theorem wd_1022 : (Jvm.Cond.constant "DigFillModel" (112 : Nat) (-1000000003 : Int32)) ∈ am_words := am_in 1022 we_1022.1 we_1022.2
theorem wd_1023 : (Jvm.Cond.methodLink "DigFillModel" (113 : Nat) ({ cls := "DigFillModel", name := "comes", desc := "(IIII)I" } : Jvm.MethodName)) ∈ am_words := am_in 1023 we_1023.1 we_1023.2
theorem wd_1025 : (Jvm.Cond.instanceMethod ({ cls := "DigFillModel", name := "comes", desc := "(IIII)I" } : Jvm.MethodName)) ∈ am_words := am_in 1025 we_1025.1 we_1025.2
theorem wd_1026 : (Jvm.Cond.code ({ cls := "DigFillModel", name := "comes", desc := "(IIII)I" } : Jvm.MethodName) prog_10_method_14_code (5 : Nat) (Option.some Jvm.ClassFile.FieldType.int)) ∈ am_words := am_in 1026 we_1026.1 we_1026.2
theorem wd_1027 : (Jvm.Cond.methodLink "DigFillModel" (100 : Nat) ({ cls := "DigFillModel", name := "lays", desc := "(IIIII)V" } : Jvm.MethodName)) ∈ am_words := am_in 1027 we_1027.1 we_1027.2
theorem wd_1029 : (Jvm.Cond.instanceMethod ({ cls := "DigFillModel", name := "lays", desc := "(IIIII)V" } : Jvm.MethodName)) ∈ am_words := am_in 1029 we_1029.1 we_1029.2
theorem wd_1030 : (Jvm.Cond.code ({ cls := "DigFillModel", name := "lays", desc := "(IIIII)V" } : Jvm.MethodName) prog_10_method_13_code (6 : Nat) (Option.none : Option Jvm.ClassFile.FieldType)) ∈ am_words := am_in 1030 we_1030.1 we_1030.2
theorem wd_1031 : (Jvm.Cond.methodLink "DigFillModel" (96 : Nat) ({ cls := "DigFillModel", name := "put", desc := "(III)V" } : Jvm.MethodName)) ∈ am_words := am_in 1031 we_1031.1 we_1031.2
theorem wd_1033 : (Jvm.Cond.instanceMethod ({ cls := "DigFillModel", name := "put", desc := "(III)V" } : Jvm.MethodName)) ∈ am_words := am_in 1033 we_1033.1 we_1033.2
theorem wd_1034 : (Jvm.Cond.code ({ cls := "DigFillModel", name := "put", desc := "(III)V" } : Jvm.MethodName) prog_10_method_11_code (4 : Nat) (Option.none : Option Jvm.ClassFile.FieldType)) ∈ am_words := am_in 1034 we_1034.1 we_1034.2
theorem wd_1035 : (Jvm.Cond.methodLink "DigFillLaw" (22 : Nat) ({ cls := "DigFillModel", name := "told", desc := "(II)I" } : Jvm.MethodName)) ∈ am_words := am_in 1035 we_1035.1 we_1035.2
theorem wd_1036 : (Jvm.Cond.instanceMethod ({ cls := "DigFillModel", name := "told", desc := "(II)I" } : Jvm.MethodName)) ∈ am_words := am_in 1036 we_1036.1 we_1036.2
theorem wd_1037 : (Jvm.Cond.selects "DigFillModel" ({ cls := "DigFillModel", name := "told", desc := "(II)I" } : Jvm.MethodName) ({ cls := "DigFillModel", name := "told", desc := "(II)I" } : Jvm.MethodName)) ∈ am_words := am_in 1037 we_1037.1 we_1037.2
theorem wd_1038 : (Jvm.Cond.code ({ cls := "DigFillModel", name := "told", desc := "(II)I" } : Jvm.MethodName) prog_10_method_17_code (3 : Nat) (Option.some Jvm.ClassFile.FieldType.int)) ∈ am_words := am_in 1038 we_1038.1 we_1038.2
theorem wd_1039 : (Jvm.Cond.methodLink "DigFillModel" (121 : Nat) ({ cls := "DigFillModel", name := "isHole", desc := "(I)Z" } : Jvm.MethodName)) ∈ am_words := am_in 1039 we_1039.1 we_1039.2
theorem wd_1041 : (Jvm.Cond.instanceMethod ({ cls := "DigFillModel", name := "isHole", desc := "(I)Z" } : Jvm.MethodName)) ∈ am_words := am_in 1041 we_1041.1 we_1041.2
theorem wd_1042 : (Jvm.Cond.code ({ cls := "DigFillModel", name := "isHole", desc := "(I)Z" } : Jvm.MethodName) prog_10_method_6_code (2 : Nat) (Option.some Jvm.ClassFile.FieldType.boolean)) ∈ am_words := am_in 1042 we_1042.1 we_1042.2
theorem wd_1043 : (Jvm.Cond.methodLink "DigFillModel" (117 : Nat) ({ cls := "DigFillModel", name := "of", desc := "(II)I" } : Jvm.MethodName)) ∈ am_words := am_in 1043 we_1043.1 we_1043.2
theorem wd_1045 : (Jvm.Cond.instanceMethod ({ cls := "DigFillModel", name := "of", desc := "(II)I" } : Jvm.MethodName)) ∈ am_words := am_in 1045 we_1045.1 we_1045.2
theorem wd_1046 : (Jvm.Cond.code ({ cls := "DigFillModel", name := "of", desc := "(II)I" } : Jvm.MethodName) prog_10_method_10_code (3 : Nat) (Option.some Jvm.ClassFile.FieldType.int)) ∈ am_words := am_in 1046 we_1046.1 we_1046.2
theorem wd_1047 : (Jvm.Cond.methodLink "DigFillModel" (124 : Nat) ({ cls := "DigFillModel", name := "worthOf", desc := "(I)I" } : Jvm.MethodName)) ∈ am_words := am_in 1047 we_1047.1 we_1047.2
theorem wd_1049 : (Jvm.Cond.instanceMethod ({ cls := "DigFillModel", name := "worthOf", desc := "(I)I" } : Jvm.MethodName)) ∈ am_words := am_in 1049 we_1049.1 we_1049.2
theorem wd_1050 : (Jvm.Cond.code ({ cls := "DigFillModel", name := "worthOf", desc := "(I)I" } : Jvm.MethodName) prog_10_method_16_code (3 : Nat) (Option.some Jvm.ClassFile.FieldType.int)) ∈ am_words := am_in 1050 we_1050.1 we_1050.2
theorem wd_1051 : (Jvm.Cond.methodLink "DigFillLaw" (26 : Nat) ({ cls := "DigFillModel", name := "as", desc := "(II)I" } : Jvm.MethodName)) ∈ am_words := am_in 1051 we_1051.1 we_1051.2
theorem wd_1052 : (Jvm.Cond.instanceMethod ({ cls := "DigFillModel", name := "as", desc := "(II)I" } : Jvm.MethodName)) ∈ am_words := am_in 1052 we_1052.1 we_1052.2
theorem wd_1053 : (Jvm.Cond.selects "DigFillModel" ({ cls := "DigFillModel", name := "as", desc := "(II)I" } : Jvm.MethodName) ({ cls := "DigFillModel", name := "as", desc := "(II)I" } : Jvm.MethodName)) ∈ am_words := am_in 1053 we_1053.1 we_1053.2
theorem wd_1054 : (Jvm.Cond.code ({ cls := "DigFillModel", name := "as", desc := "(II)I" } : Jvm.MethodName) prog_10_method_19_code (3 : Nat) (Option.some Jvm.ClassFile.FieldType.int)) ∈ am_words := am_in 1054 we_1054.1 we_1054.2
theorem wd_1055 : (Jvm.Cond.methodLink "DigFillModel" (128 : Nat) ({ cls := "DigFillModel", name := "isUnder", desc := "(II)Z" } : Jvm.MethodName)) ∈ am_words := am_in 1055 we_1055.1 we_1055.2
theorem wd_1056 : (Jvm.Cond.static ({ cls := "DigFillModel", name := "isUnder", desc := "(II)Z" } : Jvm.MethodName)) ∈ am_words := am_in 1056 we_1056.1 we_1056.2
theorem wd_1057 : (Jvm.Cond.code ({ cls := "DigFillModel", name := "isUnder", desc := "(II)Z" } : Jvm.MethodName) prog_10_method_18_code (2 : Nat) (Option.some Jvm.ClassFile.FieldType.boolean)) ∈ am_words := am_in 1057 we_1057.1 we_1057.2
theorem wd_1058 : (Jvm.Cond.constant "DigFillModel" (132 : Nat) (-1000000012 : Int32)) ∈ am_words := am_in 1058 we_1058.1 we_1058.2
theorem wd_1059 : (Jvm.Cond.methodLink "DigFillLaw" (30 : Nat) ({ cls := "DigFillModel", name := "turns", desc := "(II)I" } : Jvm.MethodName)) ∈ am_words := am_in 1059 we_1059.1 we_1059.2
theorem wd_1060 : (Jvm.Cond.instanceMethod ({ cls := "DigFillModel", name := "turns", desc := "(II)I" } : Jvm.MethodName)) ∈ am_words := am_in 1060 we_1060.1 we_1060.2
theorem wd_1061 : (Jvm.Cond.selects "DigFillModel" ({ cls := "DigFillModel", name := "turns", desc := "(II)I" } : Jvm.MethodName) ({ cls := "DigFillModel", name := "turns", desc := "(II)I" } : Jvm.MethodName)) ∈ am_words := am_in 1061 we_1061.1 we_1061.2
theorem wd_1062 : (Jvm.Cond.code ({ cls := "DigFillModel", name := "turns", desc := "(II)I" } : Jvm.MethodName) prog_10_method_20_code (3 : Nat) (Option.some Jvm.ClassFile.FieldType.int)) ∈ am_words := am_in 1062 we_1062.1 we_1062.2
theorem wd_1063 : (Jvm.Cond.methodLink "DigFillModel" (133 : Nat) ({ cls := "DigFillModel", name := "becomes", desc := "(II)I" } : Jvm.MethodName)) ∈ am_words := am_in 1063 we_1063.1 we_1063.2
theorem wd_1065 : (Jvm.Cond.instanceMethod ({ cls := "DigFillModel", name := "becomes", desc := "(II)I" } : Jvm.MethodName)) ∈ am_words := am_in 1065 we_1065.1 we_1065.2
theorem wd_1066 : (Jvm.Cond.code ({ cls := "DigFillModel", name := "becomes", desc := "(II)I" } : Jvm.MethodName) prog_10_method_12_code (4 : Nat) (Option.some Jvm.ClassFile.FieldType.int)) ∈ am_words := am_in 1066 we_1066.1 we_1066.2
theorem wd_1067 : (Jvm.Cond.methodLink "DigFillLaw" (35 : Nat) ({ cls := "DigFillModel", name := "set", desc := "(III)I" } : Jvm.MethodName)) ∈ am_words := am_in 1067 we_1067.1 we_1067.2
theorem wd_1068 : (Jvm.Cond.instanceMethod ({ cls := "DigFillModel", name := "set", desc := "(III)I" } : Jvm.MethodName)) ∈ am_words := am_in 1068 we_1068.1 we_1068.2
theorem wd_1069 : (Jvm.Cond.selects "DigFillModel" ({ cls := "DigFillModel", name := "set", desc := "(III)I" } : Jvm.MethodName) ({ cls := "DigFillModel", name := "set", desc := "(III)I" } : Jvm.MethodName)) ∈ am_words := am_in 1069 we_1069.1 we_1069.2
theorem wd_1070 : (Jvm.Cond.code ({ cls := "DigFillModel", name := "set", desc := "(III)I" } : Jvm.MethodName) prog_10_method_21_code (4 : Nat) (Option.some Jvm.ClassFile.FieldType.int)) ∈ am_words := am_in 1070 we_1070.1 we_1070.2
theorem wd_1071 : (Jvm.Cond.methodLink "DigFillLaw" (39 : Nat) ({ cls := "DigFillModel", name := "settles", desc := "(II)I" } : Jvm.MethodName)) ∈ am_words := am_in 1071 we_1071.1 we_1071.2
theorem wd_1072 : (Jvm.Cond.instanceMethod ({ cls := "DigFillModel", name := "settles", desc := "(II)I" } : Jvm.MethodName)) ∈ am_words := am_in 1072 we_1072.1 we_1072.2
theorem wd_1073 : (Jvm.Cond.selects "DigFillModel" ({ cls := "DigFillModel", name := "settles", desc := "(II)I" } : Jvm.MethodName) ({ cls := "DigFillModel", name := "settles", desc := "(II)I" } : Jvm.MethodName)) ∈ am_words := am_in 1073 we_1073.1 we_1073.2
theorem wd_1074 : (Jvm.Cond.code ({ cls := "DigFillModel", name := "settles", desc := "(II)I" } : Jvm.MethodName) prog_10_method_23_code (3 : Nat) (Option.some Jvm.ClassFile.FieldType.int)) ∈ am_words := am_in 1074 we_1074.1 we_1074.2
theorem wd_1075 : (Jvm.Cond.methodLink "DigFillModel" (146 : Nat) ({ cls := "DigFillModel", name := "settlesBy", desc := "(II)I" } : Jvm.MethodName)) ∈ am_words := am_in 1075 we_1075.1 we_1075.2
theorem wd_1077 : (Jvm.Cond.instanceMethod ({ cls := "DigFillModel", name := "settlesBy", desc := "(II)I" } : Jvm.MethodName)) ∈ am_words := am_in 1077 we_1077.1 we_1077.2
theorem wd_1078 : (Jvm.Cond.code ({ cls := "DigFillModel", name := "settlesBy", desc := "(II)I" } : Jvm.MethodName) prog_10_method_22_code (6 : Nat) (Option.some Jvm.ClassFile.FieldType.int)) ∈ am_words := am_in 1078 we_1078.1 we_1078.2
theorem wd_1079 : (Jvm.Cond.methodLink "DigFillModel" (136 : Nat) ({ cls := "DigFillModel", name := "counts", desc := "(I)I" } : Jvm.MethodName)) ∈ am_words := am_in 1079 we_1079.1 we_1079.2
theorem wd_1081 : (Jvm.Cond.instanceMethod ({ cls := "DigFillModel", name := "counts", desc := "(I)I" } : Jvm.MethodName)) ∈ am_words := am_in 1081 we_1081.1 we_1081.2
theorem wd_1082 : (Jvm.Cond.code ({ cls := "DigFillModel", name := "counts", desc := "(I)I" } : Jvm.MethodName) prog_10_method_74_code (3 : Nat) (Option.some Jvm.ClassFile.FieldType.int)) ∈ am_words := am_in 1082 we_1082.1 we_1082.2
theorem wd_1083 : (Jvm.Cond.methodLink "DigFillModel" (139 : Nat) ({ cls := "DigFillModel", name := "worksOut", desc := "(I)I" } : Jvm.MethodName)) ∈ am_words := am_in 1083 we_1083.1 we_1083.2
theorem wd_1085 : (Jvm.Cond.instanceMethod ({ cls := "DigFillModel", name := "worksOut", desc := "(I)I" } : Jvm.MethodName)) ∈ am_words := am_in 1085 we_1085.1 we_1085.2
theorem wd_1086 : (Jvm.Cond.code ({ cls := "DigFillModel", name := "worksOut", desc := "(I)I" } : Jvm.MethodName) prog_10_method_77_code (6 : Nat) (Option.some Jvm.ClassFile.FieldType.int)) ∈ am_words := am_in 1086 we_1086.1 we_1086.2
theorem wd_1087 : (Jvm.Cond.methodLink "DigFillModel" (279 : Nat) ({ cls := "DigFillModel", name := "two", desc := "(III)I" } : Jvm.MethodName)) ∈ am_words := am_in 1087 we_1087.1 we_1087.2
theorem wd_1088 : (Jvm.Cond.static ({ cls := "DigFillModel", name := "two", desc := "(III)I" } : Jvm.MethodName)) ∈ am_words := am_in 1088 we_1088.1 we_1088.2
theorem wd_1089 : (Jvm.Cond.code ({ cls := "DigFillModel", name := "two", desc := "(III)I" } : Jvm.MethodName) prog_10_method_76_code (3 : Nat) (Option.some Jvm.ClassFile.FieldType.int)) ∈ am_words := am_in 1089 we_1089.1 we_1089.2
theorem wd_1090 : (Jvm.Cond.methodLink "DigFillModel" (142 : Nat) ({ cls := "DigFillModel", name := "within", desc := "(III)I" } : Jvm.MethodName)) ∈ am_words := am_in 1090 we_1090.1 we_1090.2
theorem wd_1091 : (Jvm.Cond.static ({ cls := "DigFillModel", name := "within", desc := "(III)I" } : Jvm.MethodName)) ∈ am_words := am_in 1091 we_1091.1 we_1091.2
theorem wd_1092 : (Jvm.Cond.code ({ cls := "DigFillModel", name := "within", desc := "(III)I" } : Jvm.MethodName) prog_10_method_3_code (3 : Nat) (Option.some Jvm.ClassFile.FieldType.int)) ∈ am_words := am_in 1092 we_1092.1 we_1092.2
theorem wd_1093 : (Jvm.Cond.methodLink "DigFillLaw" (43 : Nat) ({ cls := "DigFillModel", name := "rule", desc := "(II)I" } : Jvm.MethodName)) ∈ am_words := am_in 1093 we_1093.1 we_1093.2
theorem wd_1094 : (Jvm.Cond.instanceMethod ({ cls := "DigFillModel", name := "rule", desc := "(II)I" } : Jvm.MethodName)) ∈ am_words := am_in 1094 we_1094.1 we_1094.2
theorem wd_1095 : (Jvm.Cond.selects "DigFillModel" ({ cls := "DigFillModel", name := "rule", desc := "(II)I" } : Jvm.MethodName) ({ cls := "DigFillModel", name := "rule", desc := "(II)I" } : Jvm.MethodName)) ∈ am_words := am_in 1095 we_1095.1 we_1095.2
theorem wd_1096 : (Jvm.Cond.code ({ cls := "DigFillModel", name := "rule", desc := "(II)I" } : Jvm.MethodName) prog_10_method_24_code (3 : Nat) (Option.some Jvm.ClassFile.FieldType.int)) ∈ am_words := am_in 1096 we_1096.1 we_1096.2
theorem wd_1097 : (Jvm.Cond.methodLink "DigFillLaw" (48 : Nat) ({ cls := "DigFillModel", name := "deal", desc := "(I)I" } : Jvm.MethodName)) ∈ am_words := am_in 1097 we_1097.1 we_1097.2
theorem wd_1098 : (Jvm.Cond.instanceMethod ({ cls := "DigFillModel", name := "deal", desc := "(I)I" } : Jvm.MethodName)) ∈ am_words := am_in 1098 we_1098.1 we_1098.2
theorem wd_1099 : (Jvm.Cond.selects "DigFillModel" ({ cls := "DigFillModel", name := "deal", desc := "(I)I" } : Jvm.MethodName) ({ cls := "DigFillModel", name := "deal", desc := "(I)I" } : Jvm.MethodName)) ∈ am_words := am_in 1099 we_1099.1 we_1099.2
theorem wd_1100 : (Jvm.Cond.code ({ cls := "DigFillModel", name := "deal", desc := "(I)I" } : Jvm.MethodName) prog_10_method_26_code (7 : Nat) (Option.some Jvm.ClassFile.FieldType.int)) ∈ am_words := am_in 1100 we_1100.1 we_1100.2
theorem wd_1101 : (Jvm.Cond.methodLink "DigFillModel" (150 : Nat) ({ cls := "DigFillModel", name := "draw", desc := "()I" } : Jvm.MethodName)) ∈ am_words := am_in 1101 we_1101.1 we_1101.2
theorem wd_1103 : (Jvm.Cond.instanceMethod ({ cls := "DigFillModel", name := "draw", desc := "()I" } : Jvm.MethodName)) ∈ am_words := am_in 1103 we_1103.1 we_1103.2
theorem wd_1104 : (Jvm.Cond.code ({ cls := "DigFillModel", name := "draw", desc := "()I" } : Jvm.MethodName) prog_10_method_25_code (1 : Nat) (Option.some Jvm.ClassFile.FieldType.int)) ∈ am_words := am_in 1104 we_1104.1 we_1104.2
theorem wd_1105 : (Jvm.Cond.constant "DigFillModel" (149 : Nat) (1103515245 : Int32)) ∈ am_words := am_in 1105 we_1105.1 we_1105.2
theorem wd_1106 : (Jvm.Cond.methodLink "DigFillLaw" (52 : Nat) ({ cls := "DigFillModel", name := "seed", desc := "(I)I" } : Jvm.MethodName)) ∈ am_words := am_in 1106 we_1106.1 we_1106.2
theorem wd_1107 : (Jvm.Cond.instanceMethod ({ cls := "DigFillModel", name := "seed", desc := "(I)I" } : Jvm.MethodName)) ∈ am_words := am_in 1107 we_1107.1 we_1107.2
theorem wd_1108 : (Jvm.Cond.selects "DigFillModel" ({ cls := "DigFillModel", name := "seed", desc := "(I)I" } : Jvm.MethodName) ({ cls := "DigFillModel", name := "seed", desc := "(I)I" } : Jvm.MethodName)) ∈ am_words := am_in 1108 we_1108.1 we_1108.2
theorem wd_1109 : (Jvm.Cond.code ({ cls := "DigFillModel", name := "seed", desc := "(I)I" } : Jvm.MethodName) prog_10_method_27_code (2 : Nat) (Option.some Jvm.ClassFile.FieldType.int)) ∈ am_words := am_in 1109 we_1109.1 we_1109.2
theorem wd_1110 : (Jvm.Cond.methodLink "DigFillLaw" (56 : Nat) ({ cls := "DigFillModel", name := "takes", desc := "(II)I" } : Jvm.MethodName)) ∈ am_words := am_in 1110 we_1110.1 we_1110.2
theorem wd_1111 : (Jvm.Cond.instanceMethod ({ cls := "DigFillModel", name := "takes", desc := "(II)I" } : Jvm.MethodName)) ∈ am_words := am_in 1111 we_1111.1 we_1111.2
theorem wd_1112 : (Jvm.Cond.selects "DigFillModel" ({ cls := "DigFillModel", name := "takes", desc := "(II)I" } : Jvm.MethodName) ({ cls := "DigFillModel", name := "takes", desc := "(II)I" } : Jvm.MethodName)) ∈ am_words := am_in 1112 we_1112.1 we_1112.2
theorem wd_1113 : (Jvm.Cond.code ({ cls := "DigFillModel", name := "takes", desc := "(II)I" } : Jvm.MethodName) prog_10_method_32_code (5 : Nat) (Option.some Jvm.ClassFile.FieldType.int)) ∈ am_words := am_in 1113 we_1113.1 we_1113.2
theorem wd_1114 : (Jvm.Cond.methodLink "DigFillModel" (160 : Nat) ({ cls := "DigFillModel", name := "isDug", desc := "(I)Z" } : Jvm.MethodName)) ∈ am_words := am_in 1114 we_1114.1 we_1114.2
theorem wd_1115 : (Jvm.Cond.static ({ cls := "DigFillModel", name := "isDug", desc := "(I)Z" } : Jvm.MethodName)) ∈ am_words := am_in 1115 we_1115.1 we_1115.2
theorem wd_1116 : (Jvm.Cond.code ({ cls := "DigFillModel", name := "isDug", desc := "(I)Z" } : Jvm.MethodName) prog_10_method_9_code (1 : Nat) (Option.some Jvm.ClassFile.FieldType.boolean)) ∈ am_words := am_in 1116 we_1116.1 we_1116.2
theorem wd_1117 : (Jvm.Cond.methodLink "DigFillModel" (163 : Nat) ({ cls := "DigFillModel", name := "earthOf", desc := "(I)I" } : Jvm.MethodName)) ∈ am_words := am_in 1117 we_1117.1 we_1117.2
theorem wd_1119 : (Jvm.Cond.instanceMethod ({ cls := "DigFillModel", name := "earthOf", desc := "(I)I" } : Jvm.MethodName)) ∈ am_words := am_in 1119 we_1119.1 we_1119.2
theorem wd_1120 : (Jvm.Cond.code ({ cls := "DigFillModel", name := "earthOf", desc := "(I)I" } : Jvm.MethodName) prog_10_method_28_code (2 : Nat) (Option.some Jvm.ClassFile.FieldType.int)) ∈ am_words := am_in 1120 we_1120.1 we_1120.2
theorem wd_1121 : (Jvm.Cond.methodLink "DigFillModel" (166 : Nat) ({ cls := "DigFillModel", name := "doesTake", desc := "(III)Z" } : Jvm.MethodName)) ∈ am_words := am_in 1121 we_1121.1 we_1121.2
theorem wd_1123 : (Jvm.Cond.instanceMethod ({ cls := "DigFillModel", name := "doesTake", desc := "(III)Z" } : Jvm.MethodName)) ∈ am_words := am_in 1123 we_1123.1 we_1123.2
theorem wd_1124 : (Jvm.Cond.code ({ cls := "DigFillModel", name := "doesTake", desc := "(III)Z" } : Jvm.MethodName) prog_10_method_31_code (6 : Nat) (Option.some Jvm.ClassFile.FieldType.boolean)) ∈ am_words := am_in 1124 we_1124.1 we_1124.2
theorem wd_1125 : (Jvm.Cond.methodLink "DigFillModel" (154 : Nat) ({ cls := "DigFillModel", name := "apart", desc := "(II)I" } : Jvm.MethodName)) ∈ am_words := am_in 1125 we_1125.1 we_1125.2
theorem wd_1127 : (Jvm.Cond.instanceMethod ({ cls := "DigFillModel", name := "apart", desc := "(II)I" } : Jvm.MethodName)) ∈ am_words := am_in 1127 we_1127.1 we_1127.2
theorem wd_1128 : (Jvm.Cond.code ({ cls := "DigFillModel", name := "apart", desc := "(II)I" } : Jvm.MethodName) prog_10_method_29_code (4 : Nat) (Option.some Jvm.ClassFile.FieldType.int)) ∈ am_words := am_in 1128 we_1128.1 we_1128.2
theorem wd_1129 : (Jvm.Cond.methodLink "DigFillModel" (157 : Nat) ({ cls := "DigFillModel", name := "lawOf", desc := "(I)I" } : Jvm.MethodName)) ∈ am_words := am_in 1129 we_1129.1 we_1129.2
theorem wd_1131 : (Jvm.Cond.instanceMethod ({ cls := "DigFillModel", name := "lawOf", desc := "(I)I" } : Jvm.MethodName)) ∈ am_words := am_in 1131 we_1131.1 we_1131.2
theorem wd_1132 : (Jvm.Cond.code ({ cls := "DigFillModel", name := "lawOf", desc := "(I)I" } : Jvm.MethodName) prog_10_method_30_code (3 : Nat) (Option.some Jvm.ClassFile.FieldType.int)) ∈ am_words := am_in 1132 we_1132.1 we_1132.2
theorem wd_1133 : (Jvm.Cond.methodLink "DigFillLaw" (60 : Nat) ({ cls := "DigFillModel", name := "dig", desc := "(IIII)I" } : Jvm.MethodName)) ∈ am_words := am_in 1133 we_1133.1 we_1133.2
theorem wd_1134 : (Jvm.Cond.instanceMethod ({ cls := "DigFillModel", name := "dig", desc := "(IIII)I" } : Jvm.MethodName)) ∈ am_words := am_in 1134 we_1134.1 we_1134.2
theorem wd_1135 : (Jvm.Cond.selects "DigFillModel" ({ cls := "DigFillModel", name := "dig", desc := "(IIII)I" } : Jvm.MethodName) ({ cls := "DigFillModel", name := "dig", desc := "(IIII)I" } : Jvm.MethodName)) ∈ am_words := am_in 1135 we_1135.1 we_1135.2
theorem wd_1136 : (Jvm.Cond.code ({ cls := "DigFillModel", name := "dig", desc := "(IIII)I" } : Jvm.MethodName) prog_10_method_33_code (7 : Nat) (Option.some Jvm.ClassFile.FieldType.int)) ∈ am_words := am_in 1136 we_1136.1 we_1136.2
theorem wd_1137 : (Jvm.Cond.constant "DigFillModel" (169 : Nat) (-1000000002 : Int32)) ∈ am_words := am_in 1137 we_1137.1 we_1137.2
theorem wd_1138 : (Jvm.Cond.methodLink "DigFillLaw" (64 : Nat) ({ cls := "DigFillModel", name := "want", desc := "(II)I" } : Jvm.MethodName)) ∈ am_words := am_in 1138 we_1138.1 we_1138.2
theorem wd_1139 : (Jvm.Cond.instanceMethod ({ cls := "DigFillModel", name := "want", desc := "(II)I" } : Jvm.MethodName)) ∈ am_words := am_in 1139 we_1139.1 we_1139.2
theorem wd_1140 : (Jvm.Cond.selects "DigFillModel" ({ cls := "DigFillModel", name := "want", desc := "(II)I" } : Jvm.MethodName) ({ cls := "DigFillModel", name := "want", desc := "(II)I" } : Jvm.MethodName)) ∈ am_words := am_in 1140 we_1140.1 we_1140.2
theorem wd_1141 : (Jvm.Cond.code ({ cls := "DigFillModel", name := "want", desc := "(II)I" } : Jvm.MethodName) prog_10_method_34_code (3 : Nat) (Option.some Jvm.ClassFile.FieldType.int)) ∈ am_words := am_in 1141 we_1141.1 we_1141.2
theorem wd_1142 : (Jvm.Cond.methodLink "DigFillLaw" (69 : Nat) ({ cls := "DigFillModel", name := "forget", desc := "()I" } : Jvm.MethodName)) ∈ am_words := am_in 1142 we_1142.1 we_1142.2
theorem wd_1143 : (Jvm.Cond.instanceMethod ({ cls := "DigFillModel", name := "forget", desc := "()I" } : Jvm.MethodName)) ∈ am_words := am_in 1143 we_1143.1 we_1143.2
theorem wd_1144 : (Jvm.Cond.selects "DigFillModel" ({ cls := "DigFillModel", name := "forget", desc := "()I" } : Jvm.MethodName) ({ cls := "DigFillModel", name := "forget", desc := "()I" } : Jvm.MethodName)) ∈ am_words := am_in 1144 we_1144.1 we_1144.2
theorem wd_1145 : (Jvm.Cond.code ({ cls := "DigFillModel", name := "forget", desc := "()I" } : Jvm.MethodName) prog_10_method_35_code (1 : Nat) (Option.some Jvm.ClassFile.FieldType.int)) ∈ am_words := am_in 1145 we_1145.1 we_1145.2
theorem wd_1146 : (Jvm.Cond.methodLink "DigFillLaw" (73 : Nat) ({ cls := "DigFillModel", name := "dealing", desc := "(I)I" } : Jvm.MethodName)) ∈ am_words := am_in 1146 we_1146.1 we_1146.2
theorem wd_1147 : (Jvm.Cond.instanceMethod ({ cls := "DigFillModel", name := "dealing", desc := "(I)I" } : Jvm.MethodName)) ∈ am_words := am_in 1147 we_1147.1 we_1147.2
theorem wd_1148 : (Jvm.Cond.selects "DigFillModel" ({ cls := "DigFillModel", name := "dealing", desc := "(I)I" } : Jvm.MethodName) ({ cls := "DigFillModel", name := "dealing", desc := "(I)I" } : Jvm.MethodName)) ∈ am_words := am_in 1148 we_1148.1 we_1148.2
theorem wd_1149 : (Jvm.Cond.code ({ cls := "DigFillModel", name := "dealing", desc := "(I)I" } : Jvm.MethodName) prog_10_method_41_code (4 : Nat) (Option.some Jvm.ClassFile.FieldType.int)) ∈ am_words := am_in 1149 we_1149.1 we_1149.2
theorem wd_1150 : (Jvm.Cond.methodLink "DigFillModel" (179 : Nat) ({ cls := "DigFillModel", name := "metBut", desc := "(I)I" } : Jvm.MethodName)) ∈ am_words := am_in 1150 we_1150.1 we_1150.2
theorem wd_1152 : (Jvm.Cond.instanceMethod ({ cls := "DigFillModel", name := "metBut", desc := "(I)I" } : Jvm.MethodName)) ∈ am_words := am_in 1152 we_1152.1 we_1152.2
theorem wd_1153 : (Jvm.Cond.code ({ cls := "DigFillModel", name := "metBut", desc := "(I)I" } : Jvm.MethodName) prog_10_method_38_code (5 : Nat) (Option.some Jvm.ClassFile.FieldType.int)) ∈ am_words := am_in 1153 we_1153.1 we_1153.2
theorem wd_1154 : (Jvm.Cond.methodLink "DigFillModel" (173 : Nat) ({ cls := "DigFillModel", name := "findsHole", desc := "(II)Z" } : Jvm.MethodName)) ∈ am_words := am_in 1154 we_1154.1 we_1154.2
theorem wd_1156 : (Jvm.Cond.instanceMethod ({ cls := "DigFillModel", name := "findsHole", desc := "(II)Z" } : Jvm.MethodName)) ∈ am_words := am_in 1156 we_1156.1 we_1156.2
theorem wd_1157 : (Jvm.Cond.code ({ cls := "DigFillModel", name := "findsHole", desc := "(II)Z" } : Jvm.MethodName) prog_10_method_37_code (4 : Nat) (Option.some Jvm.ClassFile.FieldType.boolean)) ∈ am_words := am_in 1157 we_1157.1 we_1157.2
theorem wd_1158 : (Jvm.Cond.methodLink "DigFillModel" (170 : Nat) ({ cls := "DigFillModel", name := "doesMeet", desc := "(II)Z" } : Jvm.MethodName)) ∈ am_words := am_in 1158 we_1158.1 we_1158.2
theorem wd_1160 : (Jvm.Cond.instanceMethod ({ cls := "DigFillModel", name := "doesMeet", desc := "(II)Z" } : Jvm.MethodName)) ∈ am_words := am_in 1160 we_1160.1 we_1160.2
theorem wd_1161 : (Jvm.Cond.code ({ cls := "DigFillModel", name := "doesMeet", desc := "(II)Z" } : Jvm.MethodName) prog_10_method_36_code (3 : Nat) (Option.some Jvm.ClassFile.FieldType.boolean)) ∈ am_words := am_in 1161 we_1161.1 we_1161.2
theorem wd_1162 : (Jvm.Cond.methodLink "DigFillModel" (182 : Nat) ({ cls := "DigFillModel", name := "findDealing", desc := "()V" } : Jvm.MethodName)) ∈ am_words := am_in 1162 we_1162.1 we_1162.2
theorem wd_1164 : (Jvm.Cond.instanceMethod ({ cls := "DigFillModel", name := "findDealing", desc := "()V" } : Jvm.MethodName)) ∈ am_words := am_in 1164 we_1164.1 we_1164.2
theorem wd_1165 : (Jvm.Cond.code ({ cls := "DigFillModel", name := "findDealing", desc := "()V" } : Jvm.MethodName) prog_10_method_40_code (8 : Nat) (Option.none : Option Jvm.ClassFile.FieldType)) ∈ am_words := am_in 1165 we_1165.1 we_1165.2
theorem wd_1166 : (Jvm.Cond.methodLink "DigFillModel" (176 : Nat) ({ cls := "DigFillModel", name := "scoreOf", desc := "(III)I" } : Jvm.MethodName)) ∈ am_words := am_in 1166 we_1166.1 we_1166.2
theorem wd_1168 : (Jvm.Cond.instanceMethod ({ cls := "DigFillModel", name := "scoreOf", desc := "(III)I" } : Jvm.MethodName)) ∈ am_words := am_in 1168 we_1168.1 we_1168.2
theorem wd_1169 : (Jvm.Cond.code ({ cls := "DigFillModel", name := "scoreOf", desc := "(III)I" } : Jvm.MethodName) prog_10_method_39_code (4 : Nat) (Option.some Jvm.ClassFile.FieldType.int)) ∈ am_words := am_in 1169 we_1169.1 we_1169.2
theorem wd_1170 : (Jvm.Cond.methodLink "DigFillModel" (185 : Nat) ({ cls := "DigFillModel", name := "told0", desc := "(I)I" } : Jvm.MethodName)) ∈ am_words := am_in 1170 we_1170.1 we_1170.2
theorem wd_1171 : (Jvm.Cond.static ({ cls := "DigFillModel", name := "told0", desc := "(I)I" } : Jvm.MethodName)) ∈ am_words := am_in 1171 we_1171.1 we_1171.2
theorem wd_1172 : (Jvm.Cond.code ({ cls := "DigFillModel", name := "told0", desc := "(I)I" } : Jvm.MethodName) prog_10_method_5_code (1 : Nat) (Option.some Jvm.ClassFile.FieldType.int)) ∈ am_words := am_in 1172 we_1172.1 we_1172.2
theorem wd_1173 : (Jvm.Cond.constant "DigFillModel" (91 : Nat) (-1000000005 : Int32)) ∈ am_words := am_in 1173 we_1173.1 we_1173.2
theorem wd_1174 : (Jvm.Cond.methodLink "DigFillLaw" (77 : Nat) ({ cls := "DigFillModel", name := "adds", desc := "(I)I" } : Jvm.MethodName)) ∈ am_words := am_in 1174 we_1174.1 we_1174.2
theorem wd_1175 : (Jvm.Cond.instanceMethod ({ cls := "DigFillModel", name := "adds", desc := "(I)I" } : Jvm.MethodName)) ∈ am_words := am_in 1175 we_1175.1 we_1175.2
theorem wd_1176 : (Jvm.Cond.selects "DigFillModel" ({ cls := "DigFillModel", name := "adds", desc := "(I)I" } : Jvm.MethodName) ({ cls := "DigFillModel", name := "adds", desc := "(I)I" } : Jvm.MethodName)) ∈ am_words := am_in 1176 we_1176.1 we_1176.2
theorem wd_1177 : (Jvm.Cond.code ({ cls := "DigFillModel", name := "adds", desc := "(I)I" } : Jvm.MethodName) prog_10_method_42_code (2 : Nat) (Option.some Jvm.ClassFile.FieldType.int)) ∈ am_words := am_in 1177 we_1177.1 we_1177.2
theorem wd_1178 : (Jvm.Cond.methodLink "DigFillLaw" (81 : Nat) ({ cls := "DigFillModel", name := "frees", desc := "(I)I" } : Jvm.MethodName)) ∈ am_words := am_in 1178 we_1178.1 we_1178.2
theorem wd_1179 : (Jvm.Cond.instanceMethod ({ cls := "DigFillModel", name := "frees", desc := "(I)I" } : Jvm.MethodName)) ∈ am_words := am_in 1179 we_1179.1 we_1179.2
theorem wd_1180 : (Jvm.Cond.selects "DigFillModel" ({ cls := "DigFillModel", name := "frees", desc := "(I)I" } : Jvm.MethodName) ({ cls := "DigFillModel", name := "frees", desc := "(I)I" } : Jvm.MethodName)) ∈ am_words := am_in 1180 we_1180.1 we_1180.2
theorem wd_1181 : (Jvm.Cond.code ({ cls := "DigFillModel", name := "frees", desc := "(I)I" } : Jvm.MethodName) prog_10_method_43_code (6 : Nat) (Option.some Jvm.ClassFile.FieldType.int)) ∈ am_words := am_in 1181 we_1181.1 we_1181.2
theorem wd_1182 : (Jvm.Cond.methodLink "DigFillLaw" (85 : Nat) ({ cls := "DigFillModel", name := "days", desc := "(I)I" } : Jvm.MethodName)) ∈ am_words := am_in 1182 we_1182.1 we_1182.2
theorem wd_1183 : (Jvm.Cond.instanceMethod ({ cls := "DigFillModel", name := "days", desc := "(I)I" } : Jvm.MethodName)) ∈ am_words := am_in 1183 we_1183.1 we_1183.2
theorem wd_1184 : (Jvm.Cond.selects "DigFillModel" ({ cls := "DigFillModel", name := "days", desc := "(I)I" } : Jvm.MethodName) ({ cls := "DigFillModel", name := "days", desc := "(I)I" } : Jvm.MethodName)) ∈ am_words := am_in 1184 we_1184.1 we_1184.2
theorem wd_1185 : (Jvm.Cond.code ({ cls := "DigFillModel", name := "days", desc := "(I)I" } : Jvm.MethodName) prog_10_method_48_code (2 : Nat) (Option.some Jvm.ClassFile.FieldType.int)) ∈ am_words := am_in 1185 we_1185.1 we_1185.2
theorem wd_1186 : (Jvm.Cond.methodLink "DigFillModel" (191 : Nat) ({ cls := "DigFillModel", name := "goesOn", desc := "(I)V" } : Jvm.MethodName)) ∈ am_words := am_in 1186 we_1186.1 we_1186.2
theorem wd_1188 : (Jvm.Cond.instanceMethod ({ cls := "DigFillModel", name := "goesOn", desc := "(I)V" } : Jvm.MethodName)) ∈ am_words := am_in 1188 we_1188.1 we_1188.2
theorem wd_1189 : (Jvm.Cond.code ({ cls := "DigFillModel", name := "goesOn", desc := "(I)V" } : Jvm.MethodName) prog_10_method_47_code (3 : Nat) (Option.none : Option Jvm.ClassFile.FieldType)) ∈ am_words := am_in 1189 we_1189.1 we_1189.2
theorem wd_1190 : (Jvm.Cond.methodLink "DigFillModel" (188 : Nat) ({ cls := "DigFillModel", name := "day", desc := "()V" } : Jvm.MethodName)) ∈ am_words := am_in 1190 we_1190.1 we_1190.2
theorem wd_1192 : (Jvm.Cond.instanceMethod ({ cls := "DigFillModel", name := "day", desc := "()V" } : Jvm.MethodName)) ∈ am_words := am_in 1192 we_1192.1 we_1192.2
theorem wd_1193 : (Jvm.Cond.code ({ cls := "DigFillModel", name := "day", desc := "()V" } : Jvm.MethodName) prog_10_method_46_code (3 : Nat) (Option.none : Option Jvm.ClassFile.FieldType)) ∈ am_words := am_in 1193 we_1193.1 we_1193.2
theorem wd_1194 : (Jvm.Cond.methodLink "DigFillModel" (195 : Nat) ({ cls := "DigFillModel", name := "filled", desc := "()I" } : Jvm.MethodName)) ∈ am_words := am_in 1194 we_1194.1 we_1194.2
theorem wd_1196 : (Jvm.Cond.instanceMethod ({ cls := "DigFillModel", name := "filled", desc := "()I" } : Jvm.MethodName)) ∈ am_words := am_in 1196 we_1196.1 we_1196.2
theorem wd_1197 : (Jvm.Cond.code ({ cls := "DigFillModel", name := "filled", desc := "()I" } : Jvm.MethodName) prog_10_method_44_code (3 : Nat) (Option.some Jvm.ClassFile.FieldType.int)) ∈ am_words := am_in 1197 we_1197.1 we_1197.2
theorem wd_1198 : (Jvm.Cond.methodLink "DigFillLaw" (89 : Nat) ({ cls := "DigFillModel", name := "behind", desc := "(II)I" } : Jvm.MethodName)) ∈ am_words := am_in 1198 we_1198.1 we_1198.2
theorem wd_1199 : (Jvm.Cond.instanceMethod ({ cls := "DigFillModel", name := "behind", desc := "(II)I" } : Jvm.MethodName)) ∈ am_words := am_in 1199 we_1199.1 we_1199.2
theorem wd_1200 : (Jvm.Cond.selects "DigFillModel" ({ cls := "DigFillModel", name := "behind", desc := "(II)I" } : Jvm.MethodName) ({ cls := "DigFillModel", name := "behind", desc := "(II)I" } : Jvm.MethodName)) ∈ am_words := am_in 1200 we_1200.1 we_1200.2
theorem wd_1201 : (Jvm.Cond.code ({ cls := "DigFillModel", name := "behind", desc := "(II)I" } : Jvm.MethodName) prog_10_method_51_code (4 : Nat) (Option.some Jvm.ClassFile.FieldType.int)) ∈ am_words := am_in 1201 we_1201.1 we_1201.2
theorem wd_1202 : (Jvm.Cond.methodLink "DigFillModel" (198 : Nat) ({ cls := "DigFillModel", name := "thinks", desc := "()V" } : Jvm.MethodName)) ∈ am_words := am_in 1202 we_1202.1 we_1202.2
theorem wd_1204 : (Jvm.Cond.instanceMethod ({ cls := "DigFillModel", name := "thinks", desc := "()V" } : Jvm.MethodName)) ∈ am_words := am_in 1204 we_1204.1 we_1204.2
theorem wd_1205 : (Jvm.Cond.code ({ cls := "DigFillModel", name := "thinks", desc := "()V" } : Jvm.MethodName) prog_10_method_49_code (2 : Nat) (Option.none : Option Jvm.ClassFile.FieldType)) ∈ am_words := am_in 1205 we_1205.1 we_1205.2
theorem wd_1206 : (Jvm.Cond.methodLink "DigFillModel" (201 : Nat) ({ cls := "DigFillModel", name := "depthAll", desc := "()I" } : Jvm.MethodName)) ∈ am_words := am_in 1206 we_1206.1 we_1206.2
theorem wd_1208 : (Jvm.Cond.instanceMethod ({ cls := "DigFillModel", name := "depthAll", desc := "()I" } : Jvm.MethodName)) ∈ am_words := am_in 1208 we_1208.1 we_1208.2
theorem wd_1209 : (Jvm.Cond.code ({ cls := "DigFillModel", name := "depthAll", desc := "()I" } : Jvm.MethodName) prog_10_method_45_code (3 : Nat) (Option.some Jvm.ClassFile.FieldType.int)) ∈ am_words := am_in 1209 we_1209.1 we_1209.2
theorem wd_1210 : (Jvm.Cond.methodLink "DigFillModel" (204 : Nat) ({ cls := "DigFillModel", name := "putsBack", desc := "()V" } : Jvm.MethodName)) ∈ am_words := am_in 1210 we_1210.1 we_1210.2
theorem wd_1212 : (Jvm.Cond.instanceMethod ({ cls := "DigFillModel", name := "putsBack", desc := "()V" } : Jvm.MethodName)) ∈ am_words := am_in 1212 we_1212.1 we_1212.2
theorem wd_1213 : (Jvm.Cond.code ({ cls := "DigFillModel", name := "putsBack", desc := "()V" } : Jvm.MethodName) prog_10_method_50_code (2 : Nat) (Option.none : Option Jvm.ClassFile.FieldType)) ∈ am_words := am_in 1213 we_1213.1 we_1213.2
theorem wd_1214 : (Jvm.Cond.methodLink "DigFillLaw" (93 : Nat) ({ cls := "DigFillModel", name := "paid", desc := "()I" } : Jvm.MethodName)) ∈ am_words := am_in 1214 we_1214.1 we_1214.2
theorem wd_1215 : (Jvm.Cond.instanceMethod ({ cls := "DigFillModel", name := "paid", desc := "()I" } : Jvm.MethodName)) ∈ am_words := am_in 1215 we_1215.1 we_1215.2
theorem wd_1216 : (Jvm.Cond.selects "DigFillModel" ({ cls := "DigFillModel", name := "paid", desc := "()I" } : Jvm.MethodName) ({ cls := "DigFillModel", name := "paid", desc := "()I" } : Jvm.MethodName)) ∈ am_words := am_in 1216 we_1216.1 we_1216.2
theorem wd_1217 : (Jvm.Cond.code ({ cls := "DigFillModel", name := "paid", desc := "()I" } : Jvm.MethodName) prog_10_method_52_code (2 : Nat) (Option.some Jvm.ClassFile.FieldType.int)) ∈ am_words := am_in 1217 we_1217.1 we_1217.2
theorem wd_1218 : (Jvm.Cond.methodLink "DigFillLaw" (97 : Nat) ({ cls := "DigFillModel", name := "best", desc := "(II)I" } : Jvm.MethodName)) ∈ am_words := am_in 1218 we_1218.1 we_1218.2
theorem wd_1219 : (Jvm.Cond.instanceMethod ({ cls := "DigFillModel", name := "best", desc := "(II)I" } : Jvm.MethodName)) ∈ am_words := am_in 1219 we_1219.1 we_1219.2
theorem wd_1220 : (Jvm.Cond.selects "DigFillModel" ({ cls := "DigFillModel", name := "best", desc := "(II)I" } : Jvm.MethodName) ({ cls := "DigFillModel", name := "best", desc := "(II)I" } : Jvm.MethodName)) ∈ am_words := am_in 1220 we_1220.1 we_1220.2
theorem wd_1221 : (Jvm.Cond.code ({ cls := "DigFillModel", name := "best", desc := "(II)I" } : Jvm.MethodName) prog_10_method_53_code (7 : Nat) (Option.some Jvm.ClassFile.FieldType.int)) ∈ am_words := am_in 1221 we_1221.1 we_1221.2
theorem wd_1222 : (Jvm.Cond.methodLink "DigFillLaw" (101 : Nat) ({ cls := "DigFillModel", name := "owes", desc := "(I)I" } : Jvm.MethodName)) ∈ am_words := am_in 1222 we_1222.1 we_1222.2
theorem wd_1223 : (Jvm.Cond.instanceMethod ({ cls := "DigFillModel", name := "owes", desc := "(I)I" } : Jvm.MethodName)) ∈ am_words := am_in 1223 we_1223.1 we_1223.2
theorem wd_1224 : (Jvm.Cond.selects "DigFillModel" ({ cls := "DigFillModel", name := "owes", desc := "(I)I" } : Jvm.MethodName) ({ cls := "DigFillModel", name := "owes", desc := "(I)I" } : Jvm.MethodName)) ∈ am_words := am_in 1224 we_1224.1 we_1224.2
theorem wd_1225 : (Jvm.Cond.code ({ cls := "DigFillModel", name := "owes", desc := "(I)I" } : Jvm.MethodName) prog_10_method_55_code (2 : Nat) (Option.some Jvm.ClassFile.FieldType.int)) ∈ am_words := am_in 1225 we_1225.1 we_1225.2
theorem wd_1226 : (Jvm.Cond.methodLink "DigFillModel" (207 : Nat) ({ cls := "DigFillModel", name := "owedBy", desc := "(I)I" } : Jvm.MethodName)) ∈ am_words := am_in 1226 we_1226.1 we_1226.2
theorem wd_1228 : (Jvm.Cond.instanceMethod ({ cls := "DigFillModel", name := "owedBy", desc := "(I)I" } : Jvm.MethodName)) ∈ am_words := am_in 1228 we_1228.1 we_1228.2
theorem wd_1229 : (Jvm.Cond.code ({ cls := "DigFillModel", name := "owedBy", desc := "(I)I" } : Jvm.MethodName) prog_10_method_54_code (4 : Nat) (Option.some Jvm.ClassFile.FieldType.int)) ∈ am_words := am_in 1229 we_1229.1 we_1229.2
theorem wd_1230 : (Jvm.Cond.methodLink "DigFillLaw" (105 : Nat) ({ cls := "DigFillModel", name := "debtor", desc := "()I" } : Jvm.MethodName)) ∈ am_words := am_in 1230 we_1230.1 we_1230.2
theorem wd_1231 : (Jvm.Cond.instanceMethod ({ cls := "DigFillModel", name := "debtor", desc := "()I" } : Jvm.MethodName)) ∈ am_words := am_in 1231 we_1231.1 we_1231.2
theorem wd_1232 : (Jvm.Cond.selects "DigFillModel" ({ cls := "DigFillModel", name := "debtor", desc := "()I" } : Jvm.MethodName) ({ cls := "DigFillModel", name := "debtor", desc := "()I" } : Jvm.MethodName)) ∈ am_words := am_in 1232 we_1232.1 we_1232.2
theorem wd_1233 : (Jvm.Cond.code ({ cls := "DigFillModel", name := "debtor", desc := "()I" } : Jvm.MethodName) prog_10_method_56_code (3 : Nat) (Option.some Jvm.ClassFile.FieldType.int)) ∈ am_words := am_in 1233 we_1233.1 we_1233.2
theorem wd_1234 : (Jvm.Cond.methodLink "DigFillLaw" (109 : Nat) ({ cls := "DigFillModel", name := "dug", desc := "(II)I" } : Jvm.MethodName)) ∈ am_words := am_in 1234 we_1234.1 we_1234.2
theorem wd_1235 : (Jvm.Cond.instanceMethod ({ cls := "DigFillModel", name := "dug", desc := "(II)I" } : Jvm.MethodName)) ∈ am_words := am_in 1235 we_1235.1 we_1235.2
theorem wd_1236 : (Jvm.Cond.selects "DigFillModel" ({ cls := "DigFillModel", name := "dug", desc := "(II)I" } : Jvm.MethodName) ({ cls := "DigFillModel", name := "dug", desc := "(II)I" } : Jvm.MethodName)) ∈ am_words := am_in 1236 we_1236.1 we_1236.2
theorem wd_1237 : (Jvm.Cond.code ({ cls := "DigFillModel", name := "dug", desc := "(II)I" } : Jvm.MethodName) prog_10_method_57_code (8 : Nat) (Option.some Jvm.ClassFile.FieldType.int)) ∈ am_words := am_in 1237 we_1237.1 we_1237.2
theorem wd_1238 : (Jvm.Cond.methodLink "DigFillModel" (210 : Nat) ({ cls := "DigFillModel", name := "isSheet", desc := "(I)Z" } : Jvm.MethodName)) ∈ am_words := am_in 1238 we_1238.1 we_1238.2
theorem wd_1239 : (Jvm.Cond.static ({ cls := "DigFillModel", name := "isSheet", desc := "(I)Z" } : Jvm.MethodName)) ∈ am_words := am_in 1239 we_1239.1 we_1239.2
theorem wd_1240 : (Jvm.Cond.code ({ cls := "DigFillModel", name := "isSheet", desc := "(I)Z" } : Jvm.MethodName) prog_10_method_78_code (1 : Nat) (Option.some Jvm.ClassFile.FieldType.boolean)) ∈ am_words := am_in 1240 we_1240.1 we_1240.2
theorem wd_1241 : (Jvm.Cond.constant "DigFillModel" (213 : Nat) (-1000000011 : Int32)) ∈ am_words := am_in 1241 we_1241.1 we_1241.2
theorem wd_1242 : (Jvm.Cond.methodLink "DigFillLaw" (113 : Nat) ({ cls := "DigFillModel", name := "fine", desc := "(I)I" } : Jvm.MethodName)) ∈ am_words := am_in 1242 we_1242.1 we_1242.2
theorem wd_1243 : (Jvm.Cond.instanceMethod ({ cls := "DigFillModel", name := "fine", desc := "(I)I" } : Jvm.MethodName)) ∈ am_words := am_in 1243 we_1243.1 we_1243.2
theorem wd_1244 : (Jvm.Cond.selects "DigFillModel" ({ cls := "DigFillModel", name := "fine", desc := "(I)I" } : Jvm.MethodName) ({ cls := "DigFillModel", name := "fine", desc := "(I)I" } : Jvm.MethodName)) ∈ am_words := am_in 1244 we_1244.1 we_1244.2
theorem wd_1245 : (Jvm.Cond.code ({ cls := "DigFillModel", name := "fine", desc := "(I)I" } : Jvm.MethodName) prog_10_method_58_code (3 : Nat) (Option.some Jvm.ClassFile.FieldType.int)) ∈ am_words := am_in 1245 we_1245.1 we_1245.2
theorem wd_1246 : (Jvm.Cond.methodLink "DigFillLaw" (117 : Nat) ({ cls := "DigFillModel", name := "feed", desc := "(III)I" } : Jvm.MethodName)) ∈ am_words := am_in 1246 we_1246.1 we_1246.2
theorem wd_1247 : (Jvm.Cond.instanceMethod ({ cls := "DigFillModel", name := "feed", desc := "(III)I" } : Jvm.MethodName)) ∈ am_words := am_in 1247 we_1247.1 we_1247.2
theorem wd_1248 : (Jvm.Cond.selects "DigFillModel" ({ cls := "DigFillModel", name := "feed", desc := "(III)I" } : Jvm.MethodName) ({ cls := "DigFillModel", name := "feed", desc := "(III)I" } : Jvm.MethodName)) ∈ am_words := am_in 1248 we_1248.1 we_1248.2
theorem wd_1249 : (Jvm.Cond.code ({ cls := "DigFillModel", name := "feed", desc := "(III)I" } : Jvm.MethodName) prog_10_method_59_code (6 : Nat) (Option.some Jvm.ClassFile.FieldType.int)) ∈ am_words := am_in 1249 we_1249.1 we_1249.2
theorem wd_1250 : (Jvm.Cond.methodLink "DigFillLaw" (121 : Nat) ({ cls := "DigFillModel", name := "trim", desc := "(I)I" } : Jvm.MethodName)) ∈ am_words := am_in 1250 we_1250.1 we_1250.2
theorem wd_1251 : (Jvm.Cond.instanceMethod ({ cls := "DigFillModel", name := "trim", desc := "(I)I" } : Jvm.MethodName)) ∈ am_words := am_in 1251 we_1251.1 we_1251.2
theorem wd_1252 : (Jvm.Cond.selects "DigFillModel" ({ cls := "DigFillModel", name := "trim", desc := "(I)I" } : Jvm.MethodName) ({ cls := "DigFillModel", name := "trim", desc := "(I)I" } : Jvm.MethodName)) ∈ am_words := am_in 1252 we_1252.1 we_1252.2
theorem wd_1253 : (Jvm.Cond.code ({ cls := "DigFillModel", name := "trim", desc := "(I)I" } : Jvm.MethodName) prog_10_method_60_code (2 : Nat) (Option.some Jvm.ClassFile.FieldType.int)) ∈ am_words := am_in 1253 we_1253.1 we_1253.2
theorem wd_1254 : (Jvm.Cond.methodLink "DigFillLaw" (125 : Nat) ({ cls := "DigFillModel", name := "text", desc := "()I" } : Jvm.MethodName)) ∈ am_words := am_in 1254 we_1254.1 we_1254.2
theorem wd_1255 : (Jvm.Cond.instanceMethod ({ cls := "DigFillModel", name := "text", desc := "()I" } : Jvm.MethodName)) ∈ am_words := am_in 1255 we_1255.1 we_1255.2
theorem wd_1256 : (Jvm.Cond.selects "DigFillModel" ({ cls := "DigFillModel", name := "text", desc := "()I" } : Jvm.MethodName) ({ cls := "DigFillModel", name := "text", desc := "()I" } : Jvm.MethodName)) ∈ am_words := am_in 1256 we_1256.1 we_1256.2
theorem wd_1257 : (Jvm.Cond.code ({ cls := "DigFillModel", name := "text", desc := "()I" } : Jvm.MethodName) prog_10_method_72_code (4 : Nat) (Option.some Jvm.ClassFile.FieldType.int)) ∈ am_words := am_in 1257 we_1257.1 we_1257.2
theorem wd_1258 : (Jvm.Cond.methodLink "DigFillModel" (242 : Nat) ({ cls := "DigFillModel", name := "go", desc := "()V" } : Jvm.MethodName)) ∈ am_words := am_in 1258 we_1258.1 we_1258.2
theorem wd_1260 : (Jvm.Cond.instanceMethod ({ cls := "DigFillModel", name := "go", desc := "()V" } : Jvm.MethodName)) ∈ am_words := am_in 1260 we_1260.1 we_1260.2
theorem wd_1261 : (Jvm.Cond.code ({ cls := "DigFillModel", name := "go", desc := "()V" } : Jvm.MethodName) prog_10_method_63_code (2 : Nat) (Option.none : Option Jvm.ClassFile.FieldType)) ∈ am_words := am_in 1261 we_1261.1 we_1261.2
theorem wd_1262 : (Jvm.Cond.methodLink "DigFillModel" (230 : Nat) ({ cls := "DigFillModel", name := "isLetter", desc := "(I)Z" } : Jvm.MethodName)) ∈ am_words := am_in 1262 we_1262.1 we_1262.2
theorem wd_1264 : (Jvm.Cond.instanceMethod ({ cls := "DigFillModel", name := "isLetter", desc := "(I)Z" } : Jvm.MethodName)) ∈ am_words := am_in 1264 we_1264.1 we_1264.2
theorem wd_1265 : (Jvm.Cond.code ({ cls := "DigFillModel", name := "isLetter", desc := "(I)Z" } : Jvm.MethodName) prog_10_method_61_code (2 : Nat) (Option.some Jvm.ClassFile.FieldType.boolean)) ∈ am_words := am_in 1265 we_1265.1 we_1265.2
theorem wd_1266 : (Jvm.Cond.methodLink "DigFillModel" (236 : Nat) ({ cls := "DigFillModel", name := "isFigure", desc := "(I)Z" } : Jvm.MethodName)) ∈ am_words := am_in 1266 we_1266.1 we_1266.2
theorem wd_1268 : (Jvm.Cond.instanceMethod ({ cls := "DigFillModel", name := "isFigure", desc := "(I)Z" } : Jvm.MethodName)) ∈ am_words := am_in 1268 we_1268.1 we_1268.2
theorem wd_1269 : (Jvm.Cond.code ({ cls := "DigFillModel", name := "isFigure", desc := "(I)Z" } : Jvm.MethodName) prog_10_method_62_code (2 : Nat) (Option.some Jvm.ClassFile.FieldType.boolean)) ∈ am_words := am_in 1269 we_1269.1 we_1269.2
theorem wd_1270 : (Jvm.Cond.methodLink "DigFillModel" (273 : Nat) ({ cls := "DigFillModel", name := "takesKey", desc := "()Z" } : Jvm.MethodName)) ∈ am_words := am_in 1270 we_1270.1 we_1270.2
theorem wd_1272 : (Jvm.Cond.instanceMethod ({ cls := "DigFillModel", name := "takesKey", desc := "()Z" } : Jvm.MethodName)) ∈ am_words := am_in 1272 we_1272.1 we_1272.2
theorem wd_1273 : (Jvm.Cond.code ({ cls := "DigFillModel", name := "takesKey", desc := "()Z" } : Jvm.MethodName) prog_10_method_64_code (5 : Nat) (Option.some Jvm.ClassFile.FieldType.boolean)) ∈ am_words := am_in 1273 we_1273.1 we_1273.2
theorem wd_1274 : (Jvm.Cond.methodLink "DigFillModel" (276 : Nat) ({ cls := "DigFillModel", name := "takesE", desc := "()Z" } : Jvm.MethodName)) ∈ am_words := am_in 1274 we_1274.1 we_1274.2
theorem wd_1276 : (Jvm.Cond.instanceMethod ({ cls := "DigFillModel", name := "takesE", desc := "()Z" } : Jvm.MethodName)) ∈ am_words := am_in 1276 we_1276.1 we_1276.2
theorem wd_1277 : (Jvm.Cond.code ({ cls := "DigFillModel", name := "takesE", desc := "()Z" } : Jvm.MethodName) prog_10_method_70_code (5 : Nat) (Option.some Jvm.ClassFile.FieldType.boolean)) ∈ am_words := am_in 1277 we_1277.1 we_1277.2
theorem wd_1278 : (Jvm.Cond.methodLink "DigFillModel" (263 : Nat) ({ cls := "DigFillModel", name := "takesPart", desc := "()Z" } : Jvm.MethodName)) ∈ am_words := am_in 1278 we_1278.1 we_1278.2
theorem wd_1280 : (Jvm.Cond.instanceMethod ({ cls := "DigFillModel", name := "takesPart", desc := "()Z" } : Jvm.MethodName)) ∈ am_words := am_in 1280 we_1280.1 we_1280.2
theorem wd_1281 : (Jvm.Cond.code ({ cls := "DigFillModel", name := "takesPart", desc := "()Z" } : Jvm.MethodName) prog_10_method_69_code (2 : Nat) (Option.some Jvm.ClassFile.FieldType.boolean)) ∈ am_words := am_in 1281 we_1281.1 we_1281.2
theorem wd_1282 : (Jvm.Cond.methodLink "DigFillModel" (254 : Nat) ({ cls := "DigFillModel", name := "nameOf", desc := "(I)I" } : Jvm.MethodName)) ∈ am_words := am_in 1282 we_1282.1 we_1282.2
theorem wd_1284 : (Jvm.Cond.instanceMethod ({ cls := "DigFillModel", name := "nameOf", desc := "(I)I" } : Jvm.MethodName)) ∈ am_words := am_in 1284 we_1284.1 we_1284.2
theorem wd_1285 : (Jvm.Cond.code ({ cls := "DigFillModel", name := "nameOf", desc := "(I)I" } : Jvm.MethodName) prog_10_method_65_code (2 : Nat) (Option.some Jvm.ClassFile.FieldType.int)) ∈ am_words := am_in 1285 we_1285.1 we_1285.2
theorem wd_1286 : (Jvm.Cond.methodLink "DigFillModel" (260 : Nat) ({ cls := "DigFillModel", name := "settle", desc := "(I)V" } : Jvm.MethodName)) ∈ am_words := am_in 1286 we_1286.1 we_1286.2
theorem wd_1288 : (Jvm.Cond.instanceMethod ({ cls := "DigFillModel", name := "settle", desc := "(I)V" } : Jvm.MethodName)) ∈ am_words := am_in 1288 we_1288.1 we_1288.2
theorem wd_1289 : (Jvm.Cond.code ({ cls := "DigFillModel", name := "settle", desc := "(I)V" } : Jvm.MethodName) prog_10_method_67_code (2 : Nat) (Option.none : Option Jvm.ClassFile.FieldType)) ∈ am_words := am_in 1289 we_1289.1 we_1289.2
theorem wd_1290 : (Jvm.Cond.methodLink "DigFillModel" (248 : Nat) ({ cls := "DigFillModel", name := "rank", desc := "(I)I" } : Jvm.MethodName)) ∈ am_words := am_in 1290 we_1290.1 we_1290.2
theorem wd_1291 : (Jvm.Cond.static ({ cls := "DigFillModel", name := "rank", desc := "(I)I" } : Jvm.MethodName)) ∈ am_words := am_in 1291 we_1291.1 we_1291.2
theorem wd_1292 : (Jvm.Cond.code ({ cls := "DigFillModel", name := "rank", desc := "(I)I" } : Jvm.MethodName) prog_10_method_66_code (1 : Nat) (Option.some Jvm.ClassFile.FieldType.int)) ∈ am_words := am_in 1292 we_1292.1 we_1292.2
theorem wd_1293 : (Jvm.Cond.methodLink "DigFillModel" (267 : Nat) ({ cls := "DigFillModel", name := "notsOpen", desc := "()I" } : Jvm.MethodName)) ∈ am_words := am_in 1293 we_1293.1 we_1293.2
theorem wd_1295 : (Jvm.Cond.instanceMethod ({ cls := "DigFillModel", name := "notsOpen", desc := "()I" } : Jvm.MethodName)) ∈ am_words := am_in 1295 we_1295.1 we_1295.2
theorem wd_1296 : (Jvm.Cond.code ({ cls := "DigFillModel", name := "notsOpen", desc := "()I" } : Jvm.MethodName) prog_10_method_71_code (3 : Nat) (Option.some Jvm.ClassFile.FieldType.int)) ∈ am_words := am_in 1296 we_1296.1 we_1296.2
theorem wd_1297 : (Jvm.Cond.methodLink "DigFillModel" (270 : Nat) ({ cls := "DigFillModel", name := "signHere", desc := "()I" } : Jvm.MethodName)) ∈ am_words := am_in 1297 we_1297.1 we_1297.2
theorem wd_1299 : (Jvm.Cond.instanceMethod ({ cls := "DigFillModel", name := "signHere", desc := "()I" } : Jvm.MethodName)) ∈ am_words := am_in 1299 we_1299.1 we_1299.2
theorem wd_1300 : (Jvm.Cond.code ({ cls := "DigFillModel", name := "signHere", desc := "()I" } : Jvm.MethodName) prog_10_method_68_code (1 : Nat) (Option.some Jvm.ClassFile.FieldType.int)) ∈ am_words := am_in 1300 we_1300.1 we_1300.2
theorem wd_1301 : (Jvm.Cond.methodLink "DigFillLaw" (129 : Nat) ({ cls := "DigFillModel", name := "textTold", desc := "(II)I" } : Jvm.MethodName)) ∈ am_words := am_in 1301 we_1301.1 we_1301.2
theorem wd_1302 : (Jvm.Cond.instanceMethod ({ cls := "DigFillModel", name := "textTold", desc := "(II)I" } : Jvm.MethodName)) ∈ am_words := am_in 1302 we_1302.1 we_1302.2
theorem wd_1303 : (Jvm.Cond.selects "DigFillModel" ({ cls := "DigFillModel", name := "textTold", desc := "(II)I" } : Jvm.MethodName) ({ cls := "DigFillModel", name := "textTold", desc := "(II)I" } : Jvm.MethodName)) ∈ am_words := am_in 1303 we_1303.1 we_1303.2
theorem wd_1304 : (Jvm.Cond.code ({ cls := "DigFillModel", name := "textTold", desc := "(II)I" } : Jvm.MethodName) prog_10_method_73_code (3 : Nat) (Option.some Jvm.ClassFile.FieldType.int)) ∈ am_words := am_in 1304 we_1304.1 we_1304.2
theorem wd_1305 : (Jvm.Cond.methodLink "DigFillLaw" (133 : Nat) ({ cls := "DigFillModel", name := "why", desc := "(I)I" } : Jvm.MethodName)) ∈ am_words := am_in 1305 we_1305.1 we_1305.2
theorem wd_1306 : (Jvm.Cond.instanceMethod ({ cls := "DigFillModel", name := "why", desc := "(I)I" } : Jvm.MethodName)) ∈ am_words := am_in 1306 we_1306.1 we_1306.2
theorem wd_1307 : (Jvm.Cond.selects "DigFillModel" ({ cls := "DigFillModel", name := "why", desc := "(I)I" } : Jvm.MethodName) ({ cls := "DigFillModel", name := "why", desc := "(I)I" } : Jvm.MethodName)) ∈ am_words := am_in 1307 we_1307.1 we_1307.2
theorem wd_1308 : (Jvm.Cond.code ({ cls := "DigFillModel", name := "why", desc := "(I)I" } : Jvm.MethodName) prog_10_method_75_code (3 : Nat) (Option.some Jvm.ClassFile.FieldType.int)) ∈ am_words := am_in 1308 we_1308.1 we_1308.2
theorem wd_1309 : (Jvm.Cond.methodLink "DigFillLaw" (137 : Nat) ({ cls := "DigFillModel", name := "sheet", desc := "(III)I" } : Jvm.MethodName)) ∈ am_words := am_in 1309 we_1309.1 we_1309.2
theorem wd_1310 : (Jvm.Cond.instanceMethod ({ cls := "DigFillModel", name := "sheet", desc := "(III)I" } : Jvm.MethodName)) ∈ am_words := am_in 1310 we_1310.1 we_1310.2
theorem wd_1311 : (Jvm.Cond.selects "DigFillModel" ({ cls := "DigFillModel", name := "sheet", desc := "(III)I" } : Jvm.MethodName) ({ cls := "DigFillModel", name := "sheet", desc := "(III)I" } : Jvm.MethodName)) ∈ am_words := am_in 1311 we_1311.1 we_1311.2
theorem wd_1312 : (Jvm.Cond.code ({ cls := "DigFillModel", name := "sheet", desc := "(III)I" } : Jvm.MethodName) prog_10_method_80_code (5 : Nat) (Option.some Jvm.ClassFile.FieldType.int)) ∈ am_words := am_in 1312 we_1312.1 we_1312.2
theorem wd_1313 : (Jvm.Cond.constant "DigFillModel" (282 : Nat) (-1000000014 : Int32)) ∈ am_words := am_in 1313 we_1313.1 we_1313.2
theorem wd_1314 : (Jvm.Cond.methodLink "DigFillLaw" (141 : Nat) ({ cls := "DigFillModel", name := "mark", desc := "(III)I" } : Jvm.MethodName)) ∈ am_words := am_in 1314 we_1314.1 we_1314.2
theorem wd_1315 : (Jvm.Cond.instanceMethod ({ cls := "DigFillModel", name := "mark", desc := "(III)I" } : Jvm.MethodName)) ∈ am_words := am_in 1315 we_1315.1 we_1315.2
theorem wd_1316 : (Jvm.Cond.selects "DigFillModel" ({ cls := "DigFillModel", name := "mark", desc := "(III)I" } : Jvm.MethodName) ({ cls := "DigFillModel", name := "mark", desc := "(III)I" } : Jvm.MethodName)) ∈ am_words := am_in 1316 we_1316.1 we_1316.2
theorem wd_1317 : (Jvm.Cond.code ({ cls := "DigFillModel", name := "mark", desc := "(III)I" } : Jvm.MethodName) prog_10_method_81_code (4 : Nat) (Option.some Jvm.ClassFile.FieldType.int)) ∈ am_words := am_in 1317 we_1317.1 we_1317.2
theorem wd_1318 : (Jvm.Cond.constant "DigFillModel" (283 : Nat) (-1000000013 : Int32)) ∈ am_words := am_in 1318 we_1318.1 we_1318.2
theorem wd_1319 : (Jvm.Cond.constant "DigFillModel" (284 : Nat) (-99999 : Int32)) ∈ am_words := am_in 1319 we_1319.1 we_1319.2
theorem wd_1320 : (Jvm.Cond.constant "DigFillModel" (285 : Nat) (99999 : Int32)) ∈ am_words := am_in 1320 we_1320.1 we_1320.2
theorem wd_1321 : (Jvm.Cond.methodLink "DigFillLaw" (145 : Nat) ({ cls := "DigFillModel", name := "pour", desc := "(I)I" } : Jvm.MethodName)) ∈ am_words := am_in 1321 we_1321.1 we_1321.2
theorem wd_1322 : (Jvm.Cond.instanceMethod ({ cls := "DigFillModel", name := "pour", desc := "(I)I" } : Jvm.MethodName)) ∈ am_words := am_in 1322 we_1322.1 we_1322.2
theorem wd_1323 : (Jvm.Cond.selects "DigFillModel" ({ cls := "DigFillModel", name := "pour", desc := "(I)I" } : Jvm.MethodName) ({ cls := "DigFillModel", name := "pour", desc := "(I)I" } : Jvm.MethodName)) ∈ am_words := am_in 1323 we_1323.1 we_1323.2
theorem wd_1324 : (Jvm.Cond.code ({ cls := "DigFillModel", name := "pour", desc := "(I)I" } : Jvm.MethodName) prog_10_method_82_code (6 : Nat) (Option.some Jvm.ClassFile.FieldType.int)) ∈ am_words := am_in 1324 we_1324.1 we_1324.2
theorem wd_1325 : (Jvm.Cond.methodLink "DigFillLaw" (149 : Nat) ({ cls := "DigFillModel", name := "reads", desc := "(I)I" } : Jvm.MethodName)) ∈ am_words := am_in 1325 we_1325.1 we_1325.2
theorem wd_1326 : (Jvm.Cond.instanceMethod ({ cls := "DigFillModel", name := "reads", desc := "(I)I" } : Jvm.MethodName)) ∈ am_words := am_in 1326 we_1326.1 we_1326.2
theorem wd_1327 : (Jvm.Cond.selects "DigFillModel" ({ cls := "DigFillModel", name := "reads", desc := "(I)I" } : Jvm.MethodName) ({ cls := "DigFillModel", name := "reads", desc := "(I)I" } : Jvm.MethodName)) ∈ am_words := am_in 1327 we_1327.1 we_1327.2
theorem wd_1328 : (Jvm.Cond.code ({ cls := "DigFillModel", name := "reads", desc := "(I)I" } : Jvm.MethodName) prog_10_method_83_code (4 : Nat) (Option.some Jvm.ClassFile.FieldType.int)) ∈ am_words := am_in 1328 we_1328.1 we_1328.2
theorem wd_1329 : (Jvm.Cond.methodLink "DigFillLaw" (154 : Nat) ({ cls := "DigFillModel", name := "copy", desc := "(IIIII)I" } : Jvm.MethodName)) ∈ am_words := am_in 1329 we_1329.1 we_1329.2
theorem wd_1330 : (Jvm.Cond.instanceMethod ({ cls := "DigFillModel", name := "copy", desc := "(IIIII)I" } : Jvm.MethodName)) ∈ am_words := am_in 1330 we_1330.1 we_1330.2
theorem wd_1331 : (Jvm.Cond.selects "DigFillModel" ({ cls := "DigFillModel", name := "copy", desc := "(IIIII)I" } : Jvm.MethodName) ({ cls := "DigFillModel", name := "copy", desc := "(IIIII)I" } : Jvm.MethodName)) ∈ am_words := am_in 1331 we_1331.1 we_1331.2
theorem wd_1332 : (Jvm.Cond.code ({ cls := "DigFillModel", name := "copy", desc := "(IIIII)I" } : Jvm.MethodName) prog_10_method_84_code (7 : Nat) (Option.some Jvm.ClassFile.FieldType.int)) ∈ am_words := am_in 1332 we_1332.1 we_1332.2
theorem wd_1333 : (Jvm.Cond.methodLink "DigFillLaw" (158 : Nat) ({ cls := "DigFillModel", name := "lay", desc := "(III)I" } : Jvm.MethodName)) ∈ am_words := am_in 1333 we_1333.1 we_1333.2
theorem wd_1334 : (Jvm.Cond.instanceMethod ({ cls := "DigFillModel", name := "lay", desc := "(III)I" } : Jvm.MethodName)) ∈ am_words := am_in 1334 we_1334.1 we_1334.2
theorem wd_1335 : (Jvm.Cond.selects "DigFillModel" ({ cls := "DigFillModel", name := "lay", desc := "(III)I" } : Jvm.MethodName) ({ cls := "DigFillModel", name := "lay", desc := "(III)I" } : Jvm.MethodName)) ∈ am_words := am_in 1335 we_1335.1 we_1335.2
theorem wd_1336 : (Jvm.Cond.code ({ cls := "DigFillModel", name := "lay", desc := "(III)I" } : Jvm.MethodName) prog_10_method_85_code (6 : Nat) (Option.some Jvm.ClassFile.FieldType.int)) ∈ am_words := am_in 1336 we_1336.1 we_1336.2
theorem wd_1337 : (Jvm.Cond.methodLink "DigFillModel" (286 : Nat) ({ cls := "DigFillModel", name := "isSlot", desc := "(I)Z" } : Jvm.MethodName)) ∈ am_words := am_in 1337 we_1337.1 we_1337.2
theorem wd_1338 : (Jvm.Cond.static ({ cls := "DigFillModel", name := "isSlot", desc := "(I)Z" } : Jvm.MethodName)) ∈ am_words := am_in 1338 we_1338.1 we_1338.2
theorem wd_1339 : (Jvm.Cond.code ({ cls := "DigFillModel", name := "isSlot", desc := "(I)Z" } : Jvm.MethodName) prog_10_method_79_code (1 : Nat) (Option.some Jvm.ClassFile.FieldType.boolean)) ∈ am_words := am_in 1339 we_1339.1 we_1339.2
theorem wd_1340 : (Jvm.Cond.methodLink "DigFillLaw" (162 : Nat) ({ cls := "DigFillModel", name := "ask", desc := "(II)I" } : Jvm.MethodName)) ∈ am_words := am_in 1340 we_1340.1 we_1340.2
theorem wd_1341 : (Jvm.Cond.instanceMethod ({ cls := "DigFillModel", name := "ask", desc := "(II)I" } : Jvm.MethodName)) ∈ am_words := am_in 1341 we_1341.1 we_1341.2
theorem wd_1342 : (Jvm.Cond.selects "DigFillModel" ({ cls := "DigFillModel", name := "ask", desc := "(II)I" } : Jvm.MethodName) ({ cls := "DigFillModel", name := "ask", desc := "(II)I" } : Jvm.MethodName)) ∈ am_words := am_in 1342 we_1342.1 we_1342.2
theorem wd_1343 : (Jvm.Cond.code ({ cls := "DigFillModel", name := "ask", desc := "(II)I" } : Jvm.MethodName) prog_10_method_86_code (3 : Nat) (Option.some Jvm.ClassFile.FieldType.int)) ∈ am_words := am_in 1343 we_1343.1 we_1343.2
theorem wd_1344 : (Jvm.Cond.methodLink "DigFillLaw" (166 : Nat) ({ cls := "DigFillModel", name := "item", desc := "(II)I" } : Jvm.MethodName)) ∈ am_words := am_in 1344 we_1344.1 we_1344.2
theorem wd_1345 : (Jvm.Cond.instanceMethod ({ cls := "DigFillModel", name := "item", desc := "(II)I" } : Jvm.MethodName)) ∈ am_words := am_in 1345 we_1345.1 we_1345.2
theorem wd_1346 : (Jvm.Cond.selects "DigFillModel" ({ cls := "DigFillModel", name := "item", desc := "(II)I" } : Jvm.MethodName) ({ cls := "DigFillModel", name := "item", desc := "(II)I" } : Jvm.MethodName)) ∈ am_words := am_in 1346 we_1346.1 we_1346.2
theorem wd_1347 : (Jvm.Cond.code ({ cls := "DigFillModel", name := "item", desc := "(II)I" } : Jvm.MethodName) prog_10_method_87_code (4 : Nat) (Option.some Jvm.ClassFile.FieldType.int)) ∈ am_words := am_in 1347 we_1347.1 we_1347.2
theorem wd_1348 : (Jvm.Cond.methodLink "DigFillLaw" (170 : Nat) ({ cls := "DigFillModel", name := "rest", desc := "(II)I" } : Jvm.MethodName)) ∈ am_words := am_in 1348 we_1348.1 we_1348.2
theorem wd_1349 : (Jvm.Cond.instanceMethod ({ cls := "DigFillModel", name := "rest", desc := "(II)I" } : Jvm.MethodName)) ∈ am_words := am_in 1349 we_1349.1 we_1349.2
theorem wd_1350 : (Jvm.Cond.selects "DigFillModel" ({ cls := "DigFillModel", name := "rest", desc := "(II)I" } : Jvm.MethodName) ({ cls := "DigFillModel", name := "rest", desc := "(II)I" } : Jvm.MethodName)) ∈ am_words := am_in 1350 we_1350.1 we_1350.2
theorem wd_1351 : (Jvm.Cond.code ({ cls := "DigFillModel", name := "rest", desc := "(II)I" } : Jvm.MethodName) prog_10_method_88_code (3 : Nat) (Option.some Jvm.ClassFile.FieldType.int)) ∈ am_words := am_in 1351 we_1351.1 we_1351.2
theorem wd_1352 : (Jvm.Cond.methodLink "DigFillLaw" (174 : Nat) ({ cls := "DigFillModel", name := "tell", desc := "(I)I" } : Jvm.MethodName)) ∈ am_words := am_in 1352 we_1352.1 we_1352.2
theorem wd_1353 : (Jvm.Cond.instanceMethod ({ cls := "DigFillModel", name := "tell", desc := "(I)I" } : Jvm.MethodName)) ∈ am_words := am_in 1353 we_1353.1 we_1353.2
theorem wd_1354 : (Jvm.Cond.selects "DigFillModel" ({ cls := "DigFillModel", name := "tell", desc := "(I)I" } : Jvm.MethodName) ({ cls := "DigFillModel", name := "tell", desc := "(I)I" } : Jvm.MethodName)) ∈ am_words := am_in 1354 we_1354.1 we_1354.2
theorem wd_1355 : (Jvm.Cond.code ({ cls := "DigFillModel", name := "tell", desc := "(I)I" } : Jvm.MethodName) prog_10_method_89_code (2 : Nat) (Option.some Jvm.ClassFile.FieldType.int)) ∈ am_words := am_in 1355 we_1355.1 we_1355.2
theorem wd_1356 : (Jvm.Cond.methodLink "DigFillLaw" (178 : Nat) ({ cls := "DigFillModel", name := "check", desc := "(I)I" } : Jvm.MethodName)) ∈ am_words := am_in 1356 we_1356.1 we_1356.2
theorem wd_1357 : (Jvm.Cond.instanceMethod ({ cls := "DigFillModel", name := "check", desc := "(I)I" } : Jvm.MethodName)) ∈ am_words := am_in 1357 we_1357.1 we_1357.2
theorem wd_1358 : (Jvm.Cond.selects "DigFillModel" ({ cls := "DigFillModel", name := "check", desc := "(I)I" } : Jvm.MethodName) ({ cls := "DigFillModel", name := "check", desc := "(I)I" } : Jvm.MethodName)) ∈ am_words := am_in 1358 we_1358.1 we_1358.2
theorem wd_1359 : (Jvm.Cond.code ({ cls := "DigFillModel", name := "check", desc := "(I)I" } : Jvm.MethodName) prog_10_method_90_code (6 : Nat) (Option.some Jvm.ClassFile.FieldType.int)) ∈ am_words := am_in 1359 we_1359.1 we_1359.2
theorem wd_1360 : (Jvm.Cond.methodLink "DigFillModel" (296 : Nat) ({ cls := "DigFillModel", name := "copyAll", desc := "([I[I)V" } : Jvm.MethodName)) ∈ am_words := am_in 1360 we_1360.1 we_1360.2
theorem wd_1361 : (Jvm.Cond.static ({ cls := "DigFillModel", name := "copyAll", desc := "([I[I)V" } : Jvm.MethodName)) ∈ am_words := am_in 1361 we_1361.1 we_1361.2
theorem wd_1362 : (Jvm.Cond.code ({ cls := "DigFillModel", name := "copyAll", desc := "([I[I)V" } : Jvm.MethodName) prog_10_method_4_code (3 : Nat) (Option.none : Option Jvm.ClassFile.FieldType)) ∈ am_words := am_in 1362 we_1362.1 we_1362.2
theorem wd_1363 : (Jvm.Cond.methodLink "DigFillLaw" (182 : Nat) ({ cls := "DigFillModel", name := "keep", desc := "()I" } : Jvm.MethodName)) ∈ am_words := am_in 1363 we_1363.1 we_1363.2
theorem wd_1364 : (Jvm.Cond.instanceMethod ({ cls := "DigFillModel", name := "keep", desc := "()I" } : Jvm.MethodName)) ∈ am_words := am_in 1364 we_1364.1 we_1364.2
theorem wd_1365 : (Jvm.Cond.selects "DigFillModel" ({ cls := "DigFillModel", name := "keep", desc := "()I" } : Jvm.MethodName) ({ cls := "DigFillModel", name := "keep", desc := "()I" } : Jvm.MethodName)) ∈ am_words := am_in 1365 we_1365.1 we_1365.2
theorem wd_1366 : (Jvm.Cond.code ({ cls := "DigFillModel", name := "keep", desc := "()I" } : Jvm.MethodName) prog_10_method_91_code (1 : Nat) (Option.some Jvm.ClassFile.FieldType.int)) ∈ am_words := am_in 1366 we_1366.1 we_1366.2
theorem wd_1367 : (Jvm.Cond.methodLink "DigFillLaw" (186 : Nat) ({ cls := "DigFillModel", name := "back", desc := "()I" } : Jvm.MethodName)) ∈ am_words := am_in 1367 we_1367.1 we_1367.2
theorem wd_1368 : (Jvm.Cond.instanceMethod ({ cls := "DigFillModel", name := "back", desc := "()I" } : Jvm.MethodName)) ∈ am_words := am_in 1368 we_1368.1 we_1368.2
theorem wd_1369 : (Jvm.Cond.selects "DigFillModel" ({ cls := "DigFillModel", name := "back", desc := "()I" } : Jvm.MethodName) ({ cls := "DigFillModel", name := "back", desc := "()I" } : Jvm.MethodName)) ∈ am_words := am_in 1369 we_1369.1 we_1369.2
theorem wd_1370 : (Jvm.Cond.code ({ cls := "DigFillModel", name := "back", desc := "()I" } : Jvm.MethodName) prog_10_method_92_code (1 : Nat) (Option.some Jvm.ClassFile.FieldType.int)) ∈ am_words := am_in 1370 we_1370.1 we_1370.2
theorem wd_1371 : (Jvm.Cond.methodLink "DigFillLaw" (190 : Nat) ({ cls := "DigFillModel", name := "count", desc := "(I)I" } : Jvm.MethodName)) ∈ am_words := am_in 1371 we_1371.1 we_1371.2
theorem wd_1372 : (Jvm.Cond.instanceMethod ({ cls := "DigFillModel", name := "count", desc := "(I)I" } : Jvm.MethodName)) ∈ am_words := am_in 1372 we_1372.1 we_1372.2
theorem wd_1373 : (Jvm.Cond.selects "DigFillModel" ({ cls := "DigFillModel", name := "count", desc := "(I)I" } : Jvm.MethodName) ({ cls := "DigFillModel", name := "count", desc := "(I)I" } : Jvm.MethodName)) ∈ am_words := am_in 1373 we_1373.1 we_1373.2
theorem wd_1374 : (Jvm.Cond.code ({ cls := "DigFillModel", name := "count", desc := "(I)I" } : Jvm.MethodName) prog_10_method_93_code (2 : Nat) (Option.some Jvm.ClassFile.FieldType.int)) ∈ am_words := am_in 1374 we_1374.1 we_1374.2
theorem wd_1375 : (Jvm.Cond.fieldLink "java/lang/String" (9 : Nat) "java/lang/String" "value" "[B") ∈ am_words := am_in 1375 we_1375.1 we_1375.2
theorem wd_1376 : (Jvm.Cond.fieldLink "java/lang/String" (15 : Nat) "java/lang/String" "coder" "B") ∈ am_words := am_in 1376 we_1376.1 we_1376.2
theorem wn_33 : (Jvm.Cond.arrayOver (Jvm.ClassFile.FieldType.object "DigFill$Hole")) ∈ am_nw := am_inN 33 we_33 rfl
theorem wn_35 : (Jvm.Cond.arrayOver (Jvm.ClassFile.FieldType.object "DigFill$Text")) ∈ am_nw := am_inN 35 we_35 rfl
theorem wn_37 : (Jvm.Cond.methodLinkNest "DigFill$Land" (61 : Nat) ({ cls := "DigFill$Hole", name := "<init>", desc := "()V" } : Jvm.MethodName) "DigFill") ∈ am_nw := am_inN 37 we_37 rfl
theorem wn_42 : (Jvm.Cond.fieldLinkNest "DigFill" (96 : Nat) "DigFill$Hole" "kind" "I" "DigFill") ∈ am_nw := am_inN 42 we_42 rfl
theorem wn_43 : (Jvm.Cond.fieldLinkNest "DigFill$Land" (98 : Nat) "DigFill$Hole" "kind" "I" "DigFill") ∈ am_nw := am_inN 43 we_43 rfl
theorem wn_45 : (Jvm.Cond.fieldLinkNest "DigFill$Dealer" (81 : Nat) "DigFill$Hole" "place" "I" "DigFill") ∈ am_nw := am_inN 45 we_45 rfl
theorem wn_46 : (Jvm.Cond.fieldLinkNest "DigFill$Land" (89 : Nat) "DigFill$Hole" "place" "I" "DigFill") ∈ am_nw := am_inN 46 we_46 rfl
theorem wn_48 : (Jvm.Cond.fieldLinkNest "DigFill" (92 : Nat) "DigFill$Hole" "depth" "I" "DigFill") ∈ am_nw := am_inN 48 we_48 rfl
theorem wn_49 : (Jvm.Cond.fieldLinkNest "DigFill$Land" (86 : Nat) "DigFill$Hole" "depth" "I" "DigFill") ∈ am_nw := am_inN 49 we_49 rfl
theorem wn_51 : (Jvm.Cond.fieldLinkNest "DigFill$Land" (112 : Nat) "DigFill$Hole" "owner" "I" "DigFill") ∈ am_nw := am_inN 51 we_51 rfl
theorem wn_53 : (Jvm.Cond.fieldLinkNest "DigFill$Land" (109 : Nat) "DigFill$Hole" "age" "I" "DigFill") ∈ am_nw := am_inN 53 we_53 rfl
theorem wn_67 : (Jvm.Cond.fieldLinkNest "DigFill$Dealer" (73 : Nat) "DigFill$Land" "holes" "[LDigFill$Hole;" "DigFill") ∈ am_nw := am_inN 67 we_67 rfl
theorem wn_68 : (Jvm.Cond.fieldLinkNest "DigFill" (134 : Nat) "DigFill$Land" "holes" "[LDigFill$Hole;" "DigFill") ∈ am_nw := am_inN 68 we_68 rfl
theorem wn_70 : (Jvm.Cond.fieldLinkNest "DigFill" (70 : Nat) "DigFill$Land" "holeCount" "I" "DigFill") ∈ am_nw := am_inN 70 we_70 rfl
theorem wn_71 : (Jvm.Cond.fieldLinkNest "DigFill$Dealer" (46 : Nat) "DigFill$Land" "holeCount" "I" "DigFill") ∈ am_nw := am_inN 71 we_71 rfl
theorem wn_73 : (Jvm.Cond.fieldLinkNest "DigFill$Dealer" (62 : Nat) "DigFill$Land" "wantPlaces" "[I" "DigFill") ∈ am_nw := am_inN 73 we_73 rfl
theorem wn_74 : (Jvm.Cond.fieldLinkNest "DigFill" (156 : Nat) "DigFill$Land" "wantPlaces" "[I" "DigFill") ∈ am_nw := am_inN 74 we_74 rfl
theorem wn_76 : (Jvm.Cond.fieldLinkNest "DigFill$Dealer" (66 : Nat) "DigFill$Land" "wantSpades" "[I" "DigFill") ∈ am_nw := am_inN 76 we_76 rfl
theorem wn_77 : (Jvm.Cond.fieldLinkNest "DigFill" (159 : Nat) "DigFill$Land" "wantSpades" "[I" "DigFill") ∈ am_nw := am_inN 77 we_77 rfl
theorem wn_79 : (Jvm.Cond.fieldLinkNest "DigFill$Dealer" (26 : Nat) "DigFill$Land" "wantCount" "I" "DigFill") ∈ am_nw := am_inN 79 we_79 rfl
theorem wn_80 : (Jvm.Cond.fieldLinkNest "DigFill" (153 : Nat) "DigFill$Land" "wantCount" "I" "DigFill") ∈ am_nw := am_inN 80 we_80 rfl
theorem wn_83 : (Jvm.Cond.fieldLinkNest "DigFill" (228 : Nat) "DigFill$Land" "textCount" "I" "DigFill") ∈ am_nw := am_inN 83 we_83 rfl
theorem wn_85 : (Jvm.Cond.fieldLinkNest "DigFill" (247 : Nat) "DigFill$Land" "counting" "[I" "DigFill") ∈ am_nw := am_inN 85 we_85 rfl
theorem wn_87 : (Jvm.Cond.fieldLinkNest "DigFill" (110 : Nat) "DigFill$Land" "mile" "I" "DigFill") ∈ am_nw := am_inN 87 we_87 rfl
theorem wn_89 : (Jvm.Cond.fieldLinkNest "DigFill" (113 : Nat) "DigFill$Land" "swell" "I" "DigFill") ∈ am_nw := am_inN 89 we_89 rfl
theorem wn_91 : (Jvm.Cond.fieldLinkNest "DigFill" (180 : Nat) "DigFill$Land" "day" "I" "DigFill") ∈ am_nw := am_inN 91 we_91 rfl
theorem wn_93 : (Jvm.Cond.fieldLinkNest "DigFill" (146 : Nat) "DigFill$Land" "lifted" "I" "DigFill") ∈ am_nw := am_inN 93 we_93 rfl
theorem wn_95 : (Jvm.Cond.fieldLinkNest "DigFill" (307 : Nat) "DigFill$Land" "lost" "I" "DigFill") ∈ am_nw := am_inN 95 we_95 rfl
theorem wn_97 : (Jvm.Cond.fieldLinkNest "DigFill" (125 : Nat) "DigFill$Land" "z" "I" "DigFill") ∈ am_nw := am_inN 97 we_97 rfl
theorem wn_129 : (Jvm.Cond.methodLinkNest "DigFill" (28 : Nat) ({ cls := "DigFill$Dealer", name := "<init>", desc := "()V" } : Jvm.MethodName) "DigFill") ∈ am_nw := am_inN 129 we_129 rfl
theorem wn_149 : (Jvm.Cond.methodLinkNest "DigFill" (35 : Nat) ({ cls := "DigFill$Tape", name := "<init>", desc := "()V" } : Jvm.MethodName) "DigFill") ∈ am_nw := am_inN 149 we_149 rfl
theorem wn_155 : (Jvm.Cond.fieldLinkNest "DigFill" (214 : Nat) "DigFill$Tape" "length" "I" "DigFill") ∈ am_nw := am_inN 155 we_155 rfl
theorem wn_157 : (Jvm.Cond.fieldLinkNest "DigFill" (225 : Nat) "DigFill$Tape" "at" "I" "DigFill") ∈ am_nw := am_inN 157 we_157 rfl
theorem wn_190 : (Jvm.Cond.arrayOver (Jvm.ClassFile.FieldType.object "DigFill$Sheet")) ∈ am_nw := am_inN 190 we_190 rfl
theorem wn_192 : (Jvm.Cond.arrayOver (Jvm.ClassFile.FieldType.object "DigFill$Slot")) ∈ am_nw := am_inN 192 we_192 rfl
theorem wn_194 : (Jvm.Cond.methodLinkNest "DigFill" (63 : Nat) ({ cls := "DigFill$Sheet", name := "<init>", desc := "()V" } : Jvm.MethodName) "DigFill") ∈ am_nw := am_inN 194 we_194 rfl
theorem wn_199 : (Jvm.Cond.fieldLinkNest "DigFill" (203 : Nat) "DigFill$Sheet" "sort" "I" "DigFill") ∈ am_nw := am_inN 199 we_199 rfl
theorem wn_201 : (Jvm.Cond.fieldLinkNest "DigFill" (269 : Nat) "DigFill$Sheet" "size" "I" "DigFill") ∈ am_nw := am_inN 201 we_201 rfl
theorem wn_203 : (Jvm.Cond.fieldLinkNest "DigFill" (258 : Nat) "DigFill$Sheet" "places" "[I" "DigFill") ∈ am_nw := am_inN 203 we_203 rfl
theorem wn_212 : (Jvm.Cond.methodLinkNest "DigFill" (64 : Nat) ({ cls := "DigFill$Slot", name := "<init>", desc := "()V" } : Jvm.MethodName) "DigFill") ∈ am_nw := am_inN 212 we_212 rfl
theorem wn_217 : (Jvm.Cond.methodLinkNest "DigFill$Slot" (20 : Nat) ({ cls := "DigFill$Hole", name := "<init>", desc := "()V" } : Jvm.MethodName) "DigFill") ∈ am_nw := am_inN 217 we_217 rfl
theorem wn_219 : (Jvm.Cond.methodLinkNest "DigFill$Slot" (27 : Nat) ({ cls := "DigFill$Sheet", name := "<init>", desc := "()V" } : Jvm.MethodName) "DigFill") ∈ am_nw := am_inN 219 we_219 rfl
theorem wn_221 : (Jvm.Cond.fieldLinkNest "DigFill" (285 : Nat) "DigFill$Slot" "thing" "I" "DigFill") ∈ am_nw := am_inN 221 we_221 rfl
theorem wn_223 : (Jvm.Cond.fieldLinkNest "DigFill" (288 : Nat) "DigFill$Slot" "number" "I" "DigFill") ∈ am_nw := am_inN 223 we_223 rfl
theorem wn_225 : (Jvm.Cond.fieldLinkNest "DigFill" (291 : Nat) "DigFill$Slot" "hole" "LDigFill$Hole;" "DigFill") ∈ am_nw := am_inN 225 we_225 rfl
theorem wn_227 : (Jvm.Cond.fieldLinkNest "DigFill" (298 : Nat) "DigFill$Slot" "row" "LDigFill$Sheet;" "DigFill") ∈ am_nw := am_inN 227 we_227 rfl
theorem wn_313 : (Jvm.Cond.fieldLinkNest "DigFill$Hole" (35 : Nat) "DigFill" "ABOVE" "[I" "DigFill") ∈ am_nw := am_inN 313 we_313 rfl
theorem wn_361 : (Jvm.Cond.methodLinkNest "DigFill$Land" (119 : Nat) ({ cls := "DigFill", name := "held", desc := "(II)I" } : Jvm.MethodName) "DigFill") ∈ am_nw := am_inN 361 we_361 rfl
theorem wn_773 : (Jvm.Cond.fieldLinkNest "DigFill$Land" (139 : Nat) "DigFill$Text" "key" "I" "DigFill") ∈ am_nw := am_inN 773 we_773 rfl
theorem wn_774 : (Jvm.Cond.fieldLinkNest "DigFill" (239 : Nat) "DigFill$Text" "key" "I" "DigFill") ∈ am_nw := am_inN 774 we_774 rfl
theorem wn_776 : (Jvm.Cond.fieldLinkNest "DigFill" (244 : Nat) "DigFill$Text" "pieces" "I" "DigFill") ∈ am_nw := am_inN 776 we_776 rfl
theorem wm_mabs : Cond.code Lib.Math.abs.name Lib.Math.abs.code 1 (some .int) ∈ am_words := am_in 410 wem_mabs.1 wem_mabs.2
theorem wm_mmax : Cond.code Lib.Math.max.name Lib.Math.max.code 2 (some .int) ∈ am_words := am_in 369 wem_mmax.1 wem_mmax.2
theorem wm_mmin : Cond.code Lib.Math.min.name Lib.Math.min.code 2 (some .int) ∈ am_words := am_in 366 wem_mmin.1 wem_mmin.2
theorem wm_mminL : Cond.code Lib.MathLoose.min_long.x Lib.MathLoose.min_long.code 4 (some .long) ∈ am_words := am_in 463 wem_mminL.1 wem_mminL.2
theorem wp_0 : Cond.selects "DigFill$Dealer" yX0_price yX0_price ∈ am_words := am_inP 0 (by decide +kernel) (by decide +kernel)
theorem wp_1 : Cond.selects "DigFill$Dealer" yX0_offer yX0_offer ∈ am_words := am_inP 1 (by decide +kernel) (by decide +kernel)
theorem wp_2 : Cond.selects "DigFill" yX7_sheetAt yX7_sheetAt ∈ am_words := am_inP 2 (by decide +kernel) (by decide +kernel)
theorem wp_3 : Cond.selects "DigFill" yX7_addDifferences yX7_addDifferences ∈ am_words := am_inP 3 (by decide +kernel) (by decide +kernel)
theorem wp_4 : Cond.selects "DigFill$Tape" yX5_step yX5_step ∈ am_words := am_inP 4 (by decide +kernel) (by decide +kernel)
theorem wp_5 : Cond.selects "DigFill$Tape" yX5_keyHere yX5_keyHere ∈ am_words := am_inP 5 (by decide +kernel) (by decide +kernel)
theorem wp_6 : Cond.selects "DigFill$Tape" yX5_isHere yX5_isHere ∈ am_words := am_inP 6 (by decide +kernel) (by decide +kernel)
theorem wp_7 : Cond.selects "DigFill$Tape" yX5_joinedBy yX5_joinedBy ∈ am_words := am_inP 7 (by decide +kernel) (by decide +kernel)
theorem wp_8 : Cond.selects "DigFill$Tape" yX5_partOf yX5_partOf ∈ am_words := am_inP 8 (by decide +kernel) (by decide +kernel)
theorem wp_9 : Cond.selects "DigFill$Tape" yX5_piece yX5_piece ∈ am_words := am_inP 9 (by decide +kernel) (by decide +kernel)
theorem wp_10 : Cond.selects "DigFill$Tape" yX5_number yX5_number ∈ am_words := am_inP 10 (by decide +kernel) (by decide +kernel)
theorem wp_11 : Cond.selects "DigFill$Tape" yX5_put yX5_put ∈ am_words := am_inP 11 (by decide +kernel) (by decide +kernel)
theorem wp_12 : Cond.selects "DigFill$Tape" yX5_name yX5_name ∈ am_words := am_inP 12 (by decide +kernel) (by decide +kernel)
theorem wp_13 : Cond.selects "DigFill$Tape" yX5_not yX5_not ∈ am_words := am_inP 13 (by decide +kernel) (by decide +kernel)
theorem wp_14 : Cond.selects "DigFill$Tape" yX5_brackets yX5_brackets ∈ am_words := am_inP 14 (by decide +kernel) (by decide +kernel)
theorem wp_15 : Cond.selects "DigFill$Tape" yX5_joins yX5_joins ∈ am_words := am_inP 15 (by decide +kernel) (by decide +kernel)
theorem wp_16 : Cond.selects "DigFill" yX7_slotAt yX7_slotAt ∈ am_words := am_inP 16 (by decide +kernel) (by decide +kernel)
theorem wp_17 : Cond.selects "DigFillModel" yX8_comes yX8_comes ∈ am_words := am_inP 17 (by decide +kernel) (by decide +kernel)
theorem wp_18 : Cond.selects "DigFillModel" yX8_lays yX8_lays ∈ am_words := am_inP 18 (by decide +kernel) (by decide +kernel)
theorem wp_19 : Cond.selects "DigFillModel" yX8_put yX8_put ∈ am_words := am_inP 19 (by decide +kernel) (by decide +kernel)
theorem wp_20 : Cond.selects "DigFillModel" yX8_isHole yX8_isHole ∈ am_words := am_inP 20 (by decide +kernel) (by decide +kernel)
theorem wp_21 : Cond.selects "DigFillModel" yX8_of yX8_of ∈ am_words := am_inP 21 (by decide +kernel) (by decide +kernel)
theorem wp_22 : Cond.selects "DigFillModel" yX8_worthOf yX8_worthOf ∈ am_words := am_inP 22 (by decide +kernel) (by decide +kernel)
theorem wp_23 : Cond.selects "DigFillModel" yX8_becomes yX8_becomes ∈ am_words := am_inP 23 (by decide +kernel) (by decide +kernel)
theorem wp_24 : Cond.selects "DigFillModel" yX8_settlesBy yX8_settlesBy ∈ am_words := am_inP 24 (by decide +kernel) (by decide +kernel)
theorem wp_25 : Cond.selects "DigFillModel" yX8_counts yX8_counts ∈ am_words := am_inP 25 (by decide +kernel) (by decide +kernel)
theorem wp_26 : Cond.selects "DigFillModel" yX8_worksOut yX8_worksOut ∈ am_words := am_inP 26 (by decide +kernel) (by decide +kernel)
theorem wp_27 : Cond.selects "DigFillModel" yX8_draw yX8_draw ∈ am_words := am_inP 27 (by decide +kernel) (by decide +kernel)
theorem wp_28 : Cond.selects "DigFillModel" yX8_earthOf yX8_earthOf ∈ am_words := am_inP 28 (by decide +kernel) (by decide +kernel)
theorem wp_29 : Cond.selects "DigFillModel" yX8_doesTake yX8_doesTake ∈ am_words := am_inP 29 (by decide +kernel) (by decide +kernel)
theorem wp_30 : Cond.selects "DigFillModel" yX8_apart yX8_apart ∈ am_words := am_inP 30 (by decide +kernel) (by decide +kernel)
theorem wp_31 : Cond.selects "DigFillModel" yX8_lawOf yX8_lawOf ∈ am_words := am_inP 31 (by decide +kernel) (by decide +kernel)
theorem wp_32 : Cond.selects "DigFillModel" yX8_metBut yX8_metBut ∈ am_words := am_inP 32 (by decide +kernel) (by decide +kernel)
theorem wp_33 : Cond.selects "DigFillModel" yX8_findsHole yX8_findsHole ∈ am_words := am_inP 33 (by decide +kernel) (by decide +kernel)
theorem wp_34 : Cond.selects "DigFillModel" yX8_doesMeet yX8_doesMeet ∈ am_words := am_inP 34 (by decide +kernel) (by decide +kernel)
theorem wp_35 : Cond.selects "DigFillModel" yX8_findDealing yX8_findDealing ∈ am_words := am_inP 35 (by decide +kernel) (by decide +kernel)
theorem wp_36 : Cond.selects "DigFillModel" yX8_scoreOf yX8_scoreOf ∈ am_words := am_inP 36 (by decide +kernel) (by decide +kernel)
theorem wp_37 : Cond.selects "DigFillModel" yX8_goesOn yX8_goesOn ∈ am_words := am_inP 37 (by decide +kernel) (by decide +kernel)
theorem wp_38 : Cond.selects "DigFillModel" yX8_day yX8_day ∈ am_words := am_inP 38 (by decide +kernel) (by decide +kernel)
theorem wp_39 : Cond.selects "DigFillModel" yX8_filled yX8_filled ∈ am_words := am_inP 39 (by decide +kernel) (by decide +kernel)
theorem wp_40 : Cond.selects "DigFillModel" yX8_thinks yX8_thinks ∈ am_words := am_inP 40 (by decide +kernel) (by decide +kernel)
theorem wp_41 : Cond.selects "DigFillModel" yX8_depthAll yX8_depthAll ∈ am_words := am_inP 41 (by decide +kernel) (by decide +kernel)
theorem wp_42 : Cond.selects "DigFillModel" yX8_putsBack yX8_putsBack ∈ am_words := am_inP 42 (by decide +kernel) (by decide +kernel)
theorem wp_43 : Cond.selects "DigFillModel" yX8_owedBy yX8_owedBy ∈ am_words := am_inP 43 (by decide +kernel) (by decide +kernel)
theorem wp_44 : Cond.selects "DigFillModel" yX8_go yX8_go ∈ am_words := am_inP 44 (by decide +kernel) (by decide +kernel)
theorem wp_45 : Cond.selects "DigFillModel" yX8_isLetter yX8_isLetter ∈ am_words := am_inP 45 (by decide +kernel) (by decide +kernel)
theorem wp_46 : Cond.selects "DigFillModel" yX8_isFigure yX8_isFigure ∈ am_words := am_inP 46 (by decide +kernel) (by decide +kernel)
theorem wp_47 : Cond.selects "DigFillModel" yX8_takesKey yX8_takesKey ∈ am_words := am_inP 47 (by decide +kernel) (by decide +kernel)
theorem wp_48 : Cond.selects "DigFillModel" yX8_takesE yX8_takesE ∈ am_words := am_inP 48 (by decide +kernel) (by decide +kernel)
theorem wp_49 : Cond.selects "DigFillModel" yX8_takesPart yX8_takesPart ∈ am_words := am_inP 49 (by decide +kernel) (by decide +kernel)
theorem wp_50 : Cond.selects "DigFillModel" yX8_nameOf yX8_nameOf ∈ am_words := am_inP 50 (by decide +kernel) (by decide +kernel)
theorem wp_51 : Cond.selects "DigFillModel" yX8_settle yX8_settle ∈ am_words := am_inP 51 (by decide +kernel) (by decide +kernel)
theorem wp_52 : Cond.selects "DigFillModel" yX8_notsOpen yX8_notsOpen ∈ am_words := am_inP 52 (by decide +kernel) (by decide +kernel)
theorem wp_53 : Cond.selects "DigFillModel" yX8_signHere yX8_signHere ∈ am_words := am_inP 53 (by decide +kernel) (by decide +kernel)
def am_nth {α : Type} (d : α) : List α → Nat → α
  | [], _ => d
  | v :: _, 0 => v
  | _ :: r, n + 1 => am_nth d r n
def am_ix2 {α : Type} (d : α) (t : List (List α)) (i : Nat) : α := am_nth d (am_nth [] t (i / 16)) (i % 16)
def am_yt : List (List MethodName) := [[yX0_init, yX0_solve, yX0_price, yX0_offer, yX0_miles, yX0_holeOf, yX1_init, yX1_start, yX1_become, yX1_part, yX1_change, yX1_isOf, yX1_worth, yX2_init, yX2_become, yX2_find],
  [yX2_open, yX2_openByLot, yX2_draw, yX2_roomAfter, yX2_earthOf, yX2_canFill, yX2_isOldEnough, yX2_sinks, yX2_sinksPlain, yX2_passDay, yX2_filledCount, yX2_depthSum, yX2_debtOf, yX2_fineOf, yX2_findText, yX2_textFor],
  [yX2_addText, yX3_init, yX3_clear, yX3_become, yX3_has, yX3_hasAll, yX3_isNumber, yX4_init, yX5_init, yX5_putBytes, yX5_read, yX5_step, yX5_sortOf, yX5_keyHere, yX5_isHere, yX5_joinedBy],
  [yX5_partOf, yX5_joins, yX5_piece, yX5_number, yX5_name, yX5_namesOf, yX5_not, yX5_brackets, yX5_put, yX6_init, yX6_value, yX6_plain, yX6_joined, yX7_init, yX7_hole, yX7_told],
  [yX7_as, yX7_turns, yX7_set, yX7_settles, yX7_rule, yX7_deal, yX7_seed, yX7_takes, yX7_dig, yX7_want, yX7_forget, yX7_dealing, yX7_adds, yX7_frees, yX7_days, yX7_behind],
  [yX7_paid, yX7_best, yX7_owes, yX7_debtor, yX7_dug, yX7_fine, yX7_feed, yX7_trim, yX7_text, yX7_textTold, yX7_why, yX7_sheet, yX7_mark, yX7_pour, yX7_reads, yX7_copy],
  [yX7_lay, yX7_ask, yX7_item, yX7_rest, yX7_tell, yX7_check, yX7_keep, yX7_back, yX7_count, yX7_within, yX7_isSpades, yX7_held, yX7_mostOf, yX7_addDifferences, yX7_sheetAt, yX7_slotAt],
  [yX8_init, yX8_in, yX8_within, yX8_copyAll, yX8_told0, yX8_isHole, yX8_isPlace, yX8_isOwner, yX8_isDug, yX8_of, yX8_put, yX8_becomes, yX8_lays, yX8_comes, yX8_hole, yX8_worthOf],
  [yX8_told, yX8_isUnder, yX8_as, yX8_turns, yX8_set, yX8_settlesBy, yX8_settles, yX8_rule, yX8_draw, yX8_deal, yX8_seed, yX8_earthOf, yX8_apart, yX8_lawOf, yX8_doesTake, yX8_takes],
  [yX8_dig, yX8_want, yX8_forget, yX8_doesMeet, yX8_findsHole, yX8_metBut, yX8_scoreOf, yX8_findDealing, yX8_dealing, yX8_adds, yX8_frees, yX8_filled, yX8_depthAll, yX8_day, yX8_goesOn, yX8_days],
  [yX8_thinks, yX8_putsBack, yX8_behind, yX8_paid, yX8_best, yX8_owedBy, yX8_owes, yX8_debtor, yX8_dug, yX8_fine, yX8_feed, yX8_trim, yX8_isLetter, yX8_isFigure, yX8_go, yX8_takesKey],
  [yX8_nameOf, yX8_rank, yX8_settle, yX8_signHere, yX8_takesPart, yX8_takesE, yX8_notsOpen, yX8_text, yX8_textTold, yX8_counts, yX8_why, yX8_two, yX8_worksOut, yX8_isSheet, yX8_isSlot, yX8_sheet],
  [yX8_mark, yX8_pour, yX8_reads, yX8_copy, yX8_lay, yX8_ask, yX8_item, yX8_rest, yX8_tell, yX8_check, yX8_keep, yX8_back, yX8_count, yJ0_length_8abf5, yJ0_charAt_5068e, yJ0_indexOf_0f7a4],
  [yJ0_indexOf_7cf53, yJ0_coder_7d493, yJ0_isLatin1_aae02, yJ0_checkIndex_df160, yJ1_charAt_3b067, yJ1_canEncode_9a6ad, yJ1_indexOf_4cfef, yJ1_indexOfChar_4cfef, yJ7_fill_d0a16, yJ7_fill_53178, yJ7_copyOf_59c91, yJ3_checkIndex_8e157, yL_law]]
def am_bt9 : List (List ByteArray) := [[cX0_init, cX0_solve, cX0_price, cX0_offer, cX0_miles, cX0_holeOf, cX1_init, cX1_start, cX1_become, cX1_part, cX1_change, cX1_isOf, cX1_worth, cX2_init, cX2_become, cX2_find],
  [cX2_open, cX2_openByLot, cX2_draw, cX2_roomAfter, cX2_earthOf, cX2_canFill, cX2_isOldEnough, cX2_sinks, cX2_sinksPlain, cX2_passDay, cX2_filledCount, cX2_depthSum, cX2_debtOf, cX2_fineOf, cX2_findText, cX2_textFor],
  [cX2_addText, cX3_init, cX3_clear, cX3_become, cX3_has, cX3_hasAll, cX3_isNumber, cX4_init, cX5_init, cX5_putBytes, cX5_read, cX5_step, cX5_sortOf, cX5_keyHere, cX5_isHere, cX5_joinedBy],
  [cX5_partOf, cX5_joins, cX5_piece, cX5_number, cX5_name, cX5_namesOf, cX5_not, cX5_brackets, cX5_put, cX6_init, cX6_value, cX6_plain, cX6_joined, cX7_init, cX7_hole, cX7_told],
  [cX7_as, cX7_turns, cX7_set, cX7_settles, cX7_rule, cX7_deal, cX7_seed, cX7_takes, cX7_dig, cX7_want, cX7_forget, cX7_dealing, cX7_adds, cX7_frees, cX7_days, cX7_behind],
  [cX7_paid, cX7_best, cX7_owes, cX7_debtor, cX7_dug, cX7_fine, cX7_feed, cX7_trim, cX7_text, cX7_textTold, cX7_why, cX7_sheet, cX7_mark, cX7_pour, cX7_reads, cX7_copy],
  [cX7_lay, cX7_ask, cX7_item, cX7_rest, cX7_tell, cX7_check, cX7_keep, cX7_back, cX7_count, cX7_within, cX7_isSpades, cX7_held, cX7_mostOf, cX7_addDifferences, cX7_sheetAt, cX7_slotAt],
  [cX8_init, cX8_in, cX8_within, cX8_copyAll, cX8_told0, cX8_isHole, cX8_isPlace, cX8_isOwner, cX8_isDug, cX8_of, cX8_put, cX8_becomes, cX8_lays, cX8_comes, cX8_hole, cX8_worthOf],
  [cX8_told, cX8_isUnder, cX8_as, cX8_turns, cX8_set, cX8_settlesBy, cX8_settles, cX8_rule, cX8_draw, cX8_deal, cX8_seed, cX8_earthOf, cX8_apart, cX8_lawOf, cX8_doesTake, cX8_takes],
  [cX8_dig, cX8_want, cX8_forget, cX8_doesMeet, cX8_findsHole, cX8_metBut, cX8_scoreOf, cX8_findDealing, cX8_dealing, cX8_adds, cX8_frees, cX8_filled, cX8_depthAll, cX8_day, cX8_goesOn, cX8_days],
  [cX8_thinks, cX8_putsBack, cX8_behind, cX8_paid, cX8_best, cX8_owedBy, cX8_owes, cX8_debtor, cX8_dug, cX8_fine, cX8_feed, cX8_trim, cX8_isLetter, cX8_isFigure, cX8_go, cX8_takesKey],
  [cX8_nameOf, cX8_rank, cX8_settle, cX8_signHere, cX8_takesPart, cX8_takesE, cX8_notsOpen, cX8_text, cX8_textTold, cX8_counts, cX8_why, cX8_two, cX8_worksOut, cX8_isSheet, cX8_isSlot, cX8_sheet],
  [cX8_mark, cX8_pour, cX8_reads, cX8_copy, cX8_lay, cX8_ask, cX8_item, cX8_rest, cX8_tell, cX8_check, cX8_keep, cX8_back, cX8_count, cJ0_length_8abf5, cJ0_charAt_5068e, cJ0_indexOf_0f7a4],
  [cJ0_indexOf_7cf53, cJ0_coder_7d493, cJ0_isLatin1_aae02, cJ0_checkIndex_df160, cJ1_charAt_3b067, cJ1_canEncode_9a6ad, cJ1_indexOf_4cfef, cJ1_indexOfChar_4cfef, cJ7_fill_d0a16, cJ7_fill_53178, cJ7_copyOf_59c91, cJ3_checkIndex_8e157, cL_law]]
def am_mt : List (List Nat) := [[1, 5, 8, 4, 1, 3, 1, 5, 2, 2, 3, 4, 1, 2, 3, 2],
  [6, 5, 1, 5, 2, 7, 3, 3, 4, 4, 3, 3, 4, 3, 2, 2],
  [3, 1, 3, 2, 2, 3, 2, 1, 1, 3, 1, 3, 1, 1, 3, 4],
  [2, 2, 1, 3, 2, 1, 1, 1, 2, 4, 7, 4, 3, 2, 5, 4],
  [4, 5, 6, 4, 4, 4, 3, 6, 8, 4, 2, 3, 2, 7, 4, 4],
  [2, 7, 2, 3, 6, 2, 4, 2, 2, 4, 3, 5, 5, 7, 5, 8],
  [8, 4, 4, 4, 2, 6, 1, 1, 2, 2, 1, 2, 1, 4, 2, 2],
  [1, 3, 3, 3, 1, 2, 1, 1, 1, 3, 4, 4, 6, 5, 5, 3],
  [3, 2, 3, 3, 4, 6, 3, 3, 1, 7, 2, 2, 4, 3, 6, 5],
  [7, 3, 1, 3, 4, 5, 4, 8, 4, 2, 6, 3, 3, 3, 3, 2],
  [2, 2, 4, 2, 7, 4, 2, 3, 8, 3, 6, 2, 2, 2, 2, 5],
  [2, 1, 2, 1, 2, 5, 3, 4, 3, 3, 3, 3, 6, 1, 1, 5],
  [4, 6, 4, 7, 6, 3, 4, 3, 2, 6, 1, 1, 2, 1, 2, 2],
  [3, 1, 1, 2, 2, 1, 4, 6, 5, 4, 3, 3, 4]]
def am_rtt : List (List (Option FieldType)) := [[none, (some .int), none, none, (some .int), (some .int), none, none, none, (some .int), none, (some .boolean), (some .int), none, none, (some (.object "DigFill$Hole"))],
  [(some .int), none, (some .int), (some .int), (some .int), (some .boolean), (some .boolean), (some .int), (some .int), none, (some .int), (some .int), (some .int), (some .int), (some (.object "DigFill$Text")), (some (.object "DigFill$Text"))],
  [(some .int), none, none, none, (some .boolean), (some .boolean), (some .boolean), none, none, none, (some (.object "DigFill$Text")), none, (some .int), (some .int), (some .boolean), (some .boolean)],
  [(some .boolean), (some .boolean), (some .boolean), (some .boolean), (some .boolean), (some (.object "java/lang/String")), (some .boolean), (some .boolean), none, none, (some .int), (some .int), (some .int), none, (some .int), (some .int)],
  [(some .int), (some .int), (some .int), (some .int), (some .int), (some .int), (some .int), (some .int), (some .int), (some .int), (some .int), (some .int), (some .int), (some .int), (some .int), (some .int)],
  [(some .int), (some .int), (some .int), (some .int), (some .int), (some .int), (some .int), (some .int), (some .int), (some .int), (some .int), (some .int), (some .int), (some .int), (some .int), (some .int)],
  [(some .int), (some .int), (some .int), (some .int), (some .int), (some .int), (some .int), (some .int), (some .int), (some .boolean), (some .boolean), (some .int), (some .int), none, (some (.object "DigFill$Sheet")), (some (.object "DigFill$Slot"))],
  [none, (some .boolean), (some .int), none, (some .int), (some .boolean), (some .boolean), (some .boolean), (some .boolean), (some .int), none, (some .int), none, (some .int), (some .int), (some .int)],
  [(some .int), (some .boolean), (some .int), (some .int), (some .int), (some .int), (some .int), (some .int), (some .int), (some .int), (some .int), (some .int), (some .int), (some .int), (some .boolean), (some .int)],
  [(some .int), (some .int), (some .int), (some .boolean), (some .boolean), (some .int), (some .int), none, (some .int), (some .int), (some .int), (some .int), (some .int), none, none, (some .int)],
  [none, none, (some .int), (some .int), (some .int), (some .int), (some .int), (some .int), (some .int), (some .int), (some .int), (some .int), (some .boolean), (some .boolean), none, (some .boolean)],
  [(some .int), (some .int), none, (some .int), (some .boolean), (some .boolean), (some .int), (some .int), (some .int), (some .int), (some .int), (some .int), (some .int), (some .boolean), (some .boolean), (some .int)],
  [(some .int), (some .int), (some .int), (some .int), (some .int), (some .int), (some .int), (some .int), (some .int), (some .int), (some .int), (some .int), (some .int), (some .int), (some .char), (some .int)],
  [(some .int), (some .byte), (some .boolean), none, (some .char), (some .boolean), (some .int), (some .int), none, none, (some (.array .int)), (some .int), (some .boolean)]]
def am_it : List (List Bool) := [[true, false, false, false, false, false, true, false, false, false, false, false, false, true, false, false],
  [false, false, false, false, false, false, false, false, false, false, false, false, false, false, false, false],
  [false, true, false, false, false, false, false, true, true, false, false, false, false, false, false, false],
  [false, false, false, false, false, false, false, false, false, true, false, false, false, true, false, false],
  [false, false, false, false, false, false, false, false, false, false, false, false, false, false, false, false],
  [false, false, false, false, false, false, false, false, false, false, false, false, false, false, false, false],
  [false, false, false, false, false, false, false, false, false, false, false, false, false, false, false, false],
  [true, false, false, false, false, false, false, false, false, false, false, false, false, false, false, false],
  [false, false, false, false, false, false, false, false, false, false, false, false, false, false, false, false],
  [false, false, false, false, false, false, false, false, false, false, false, false, false, false, false, false],
  [false, false, false, false, false, false, false, false, false, false, false, false, false, false, false, false],
  [false, false, false, false, false, false, false, false, false, false, false, false, false, false, false, false],
  [false, false, false, false, false, false, false, false, false, false, false, false, false, false, false, false],
  [false, false, false, false, false, false, false, false, false, false, false, false, false]]
def am_tb0 : am_Tb := (am_ix2 yL_law am_yt, am_ix2 cL_law am_bt9, am_ix2 4 am_mt, am_ix2 none am_rtt, am_ix2 false am_it)
end AM12
