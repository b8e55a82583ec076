/-! THE METHODS, and the words that their instructions link: printed by wip/gen/gen13.py -/
section AM12
theorem hclX0 : am_cl[0]? = some (RX0, TX0, 4) := rfl
theorem inWX0 : ∀ w ∈ u_ws RX0 TX0 4, w ∈ am_words := fun w hw => List.mem_filter.mpr ⟨inX0 w hw, List.all_eq_true.mp (show (u_ws RX0 TX0 4).all goodWord = true by decide +kernel) w hw⟩
theorem hdfX0 : ∀ k, k < 4 → defaultValue (am_ty 0 k) = match am_ty 0 k with | .long => .long 0 | .object _ => .null | .array _ => .null | _ => .int 0 := by decide +kernel
theorem hclX1 : am_cl[1]? = some (RX1, TX1, 5) := rfl
theorem inWX1 : ∀ w ∈ u_ws RX1 TX1 5, w ∈ am_words := fun w hw => List.mem_filter.mpr ⟨inX1 w hw, List.all_eq_true.mp (show (u_ws RX1 TX1 5).all goodWord = true by decide +kernel) w hw⟩
theorem hdfX1 : ∀ k, k < 5 → defaultValue (am_ty 1 k) = match am_ty 1 k with | .long => .long 0 | .object _ => .null | .array _ => .null | _ => .int 0 := by decide +kernel
theorem hclX2 : am_cl[2]? = some (RX2, TX2, 14) := rfl
theorem inWX2 : ∀ w ∈ u_ws RX2 TX2 14, w ∈ am_words := fun w hw => List.mem_filter.mpr ⟨inX2 w hw, List.all_eq_true.mp (show (u_ws RX2 TX2 14).all goodWord = true by decide +kernel) w hw⟩
theorem hdfX2 : ∀ k, k < 14 → defaultValue (am_ty 2 k) = match am_ty 2 k with | .long => .long 0 | .object _ => .null | .array _ => .null | _ => .int 0 := by decide +kernel
theorem hclX3 : am_cl[3]? = some (RX3, TX3, 3) := rfl
theorem inWX3 : ∀ w ∈ u_ws RX3 TX3 3, w ∈ am_words := fun w hw => List.mem_filter.mpr ⟨inX3 w hw, List.all_eq_true.mp (show (u_ws RX3 TX3 3).all goodWord = true by decide +kernel) w hw⟩
theorem hdfX3 : ∀ k, k < 3 → defaultValue (am_ty 3 k) = match am_ty 3 k with | .long => .long 0 | .object _ => .null | .array _ => .null | _ => .int 0 := by decide +kernel
theorem hclX4 : am_cl[4]? = some (RX4, TX4, 4) := rfl
theorem inWX4 : ∀ w ∈ u_ws RX4 TX4 4, w ∈ am_words := fun w hw => List.mem_filter.mpr ⟨inX4 w hw, List.all_eq_true.mp (show (u_ws RX4 TX4 4).all goodWord = true by decide +kernel) w hw⟩
theorem hdfX4 : ∀ k, k < 4 → defaultValue (am_ty 4 k) = match am_ty 4 k with | .long => .long 0 | .object _ => .null | .array _ => .null | _ => .int 0 := by decide +kernel
theorem hclX5 : am_cl[5]? = some (RX5, TX5, 11) := rfl
theorem inWX5 : ∀ w ∈ u_ws RX5 TX5 11, w ∈ am_words := fun w hw => List.mem_filter.mpr ⟨inX5 w hw, List.all_eq_true.mp (show (u_ws RX5 TX5 11).all goodWord = true by decide +kernel) w hw⟩
theorem hdfX5 : ∀ k, k < 11 → defaultValue (am_ty 5 k) = match am_ty 5 k with | .long => .long 0 | .object _ => .null | .array _ => .null | _ => .int 0 := by decide +kernel
theorem hclX6 : am_cl[6]? = some (RX6, TX6, 4) := rfl
theorem inWX6 : ∀ w ∈ u_ws RX6 TX6 4, w ∈ am_words := fun w hw => List.mem_filter.mpr ⟨inX6 w hw, List.all_eq_true.mp (show (u_ws RX6 TX6 4).all goodWord = true by decide +kernel) w hw⟩
theorem hdfX6 : ∀ k, k < 4 → defaultValue (am_ty 6 k) = match am_ty 6 k with | .long => .long 0 | .object _ => .null | .array _ => .null | _ => .int 0 := by decide +kernel
theorem hclX7 : am_cl[7]? = some (RX7, TX7, 11) := rfl
theorem inWX7 : ∀ w ∈ u_ws RX7 TX7 11, w ∈ am_words := fun w hw => List.mem_filter.mpr ⟨inX7 w hw, List.all_eq_true.mp (show (u_ws RX7 TX7 11).all goodWord = true by decide +kernel) w hw⟩
theorem hdfX7 : ∀ k, k < 11 → defaultValue (am_ty 7 k) = match am_ty 7 k with | .long => .long 0 | .object _ => .null | .array _ => .null | _ => .int 0 := by decide +kernel
theorem hclX8 : am_cl[8]? = some (RX8, TX8, 38) := rfl
theorem inWX8 : ∀ w ∈ u_ws RX8 TX8 38, w ∈ am_words := fun w hw => List.mem_filter.mpr ⟨inX8 w hw, List.all_eq_true.mp (show (u_ws RX8 TX8 38).all goodWord = true by decide +kernel) w hw⟩
theorem hdfX8 : ∀ k, k < 38 → defaultValue (am_ty 8 k) = match am_ty 8 k with | .long => .long 0 | .object _ => .null | .array _ => .null | _ => .int 0 := by decide +kernel
theorem bi_m100 : (Int8.ofInt (-100)).toInt32 = (-100) := by decide +kernel
theorem bi_m33 : (Int8.ofInt (-33)).toInt32 = (-33) := by decide +kernel
theorem bi_m11 : (Int8.ofInt (-11)).toInt32 = (-11) := by decide +kernel
theorem bi_m10 : (Int8.ofInt (-10)).toInt32 = (-10) := by decide +kernel
theorem bi_m9 : (Int8.ofInt (-9)).toInt32 = (-9) := by decide +kernel
theorem bi_m8 : (Int8.ofInt (-8)).toInt32 = (-8) := by decide +kernel
theorem bi_m7 : (Int8.ofInt (-7)).toInt32 = (-7) := by decide +kernel
theorem bi_m6 : (Int8.ofInt (-6)).toInt32 = (-6) := by decide +kernel
theorem bi_m5 : (Int8.ofInt (-5)).toInt32 = (-5) := by decide +kernel
theorem bi_m4 : (Int8.ofInt (-4)).toInt32 = (-4) := by decide +kernel
theorem bi_m3 : (Int8.ofInt (-3)).toInt32 = (-3) := by decide +kernel
theorem bi_m2 : (Int8.ofInt (-2)).toInt32 = (-2) := by decide +kernel
theorem bi_6 : (Int8.ofInt 6).toInt32 = 6 := by decide +kernel
theorem bi_7 : (Int8.ofInt 7).toInt32 = 7 := by decide +kernel
theorem bi_8 : (Int8.ofInt 8).toInt32 = 8 := by decide +kernel
theorem bi_9 : (Int8.ofInt 9).toInt32 = 9 := by decide +kernel
theorem bi_10 : (Int8.ofInt 10).toInt32 = 10 := by decide +kernel
theorem bi_11 : (Int8.ofInt 11).toInt32 = 11 := by decide +kernel
theorem bi_12 : (Int8.ofInt 12).toInt32 = 12 := by decide +kernel
theorem bi_13 : (Int8.ofInt 13).toInt32 = 13 := by decide +kernel
theorem bi_14 : (Int8.ofInt 14).toInt32 = 14 := by decide +kernel
theorem bi_21 : (Int8.ofInt 21).toInt32 = 21 := by decide +kernel
theorem bi_24 : (Int8.ofInt 24).toInt32 = 24 := by decide +kernel
theorem bi_29 : (Int8.ofInt 29).toInt32 = 29 := by decide +kernel
theorem bi_30 : (Int8.ofInt 30).toInt32 = 30 := by decide +kernel
theorem bi_32 : (Int8.ofInt 32).toInt32 = 32 := by decide +kernel
theorem bi_33 : (Int8.ofInt 33).toInt32 = 33 := by decide +kernel
theorem bi_38 : (Int8.ofInt 38).toInt32 = 38 := by decide +kernel
theorem bi_40 : (Int8.ofInt 40).toInt32 = 40 := by decide +kernel
theorem bi_41 : (Int8.ofInt 41).toInt32 = 41 := by decide +kernel
theorem bi_42 : (Int8.ofInt 42).toInt32 = 42 := by decide +kernel
theorem bi_43 : (Int8.ofInt 43).toInt32 = 43 := by decide +kernel
theorem bi_45 : (Int8.ofInt 45).toInt32 = 45 := by decide +kernel
theorem bi_47 : (Int8.ofInt 47).toInt32 = 47 := by decide +kernel
theorem bi_48 : (Int8.ofInt 48).toInt32 = 48 := by decide +kernel
theorem bi_50 : (Int8.ofInt 50).toInt32 = 50 := by decide +kernel
theorem bi_57 : (Int8.ofInt 57).toInt32 = 57 := by decide +kernel
theorem bi_60 : (Int8.ofInt 60).toInt32 = 60 := by decide +kernel
theorem bi_61 : (Int8.ofInt 61).toInt32 = 61 := by decide +kernel
theorem bi_62 : (Int8.ofInt 62).toInt32 = 62 := by decide +kernel
theorem bi_63 : (Int8.ofInt 63).toInt32 = 63 := by decide +kernel
theorem bi_64 : (Int8.ofInt 64).toInt32 = 64 := by decide +kernel
theorem bi_76 : (Int8.ofInt 76).toInt32 = 76 := by decide +kernel
theorem bi_96 : (Int8.ofInt 96).toInt32 = 96 := by decide +kernel
theorem bi_97 : (Int8.ofInt 97).toInt32 = 97 := by decide +kernel
theorem bi_99 : (Int8.ofInt 99).toInt32 = 99 := by decide +kernel
theorem bi_100 : (Int8.ofInt 100).toInt32 = 100 := by decide +kernel
theorem bi_101 : (Int8.ofInt 101).toInt32 = 101 := by decide +kernel
theorem bi_102 : (Int8.ofInt 102).toInt32 = 102 := by decide +kernel
theorem bi_104 : (Int8.ofInt 104).toInt32 = 104 := by decide +kernel
theorem bi_105 : (Int8.ofInt 105).toInt32 = 105 := by decide +kernel
theorem bi_108 : (Int8.ofInt 108).toInt32 = 108 := by decide +kernel
theorem bi_110 : (Int8.ofInt 110).toInt32 = 110 := by decide +kernel
theorem bi_111 : (Int8.ofInt 111).toInt32 = 111 := by decide +kernel
theorem bi_115 : (Int8.ofInt 115).toInt32 = 115 := by decide +kernel
theorem bi_116 : (Int8.ofInt 116).toInt32 = 116 := by decide +kernel
theorem bi_119 : (Int8.ofInt 119).toInt32 = 119 := by decide +kernel
theorem bi_120 : (Int8.ofInt 120).toInt32 = 120 := by decide +kernel
theorem bi_122 : (Int8.ofInt 122).toInt32 = 122 := by decide +kernel
theorem bi_124 : (Int8.ofInt 124).toInt32 = 124 := by decide +kernel
theorem ic_m8 : Int32.ofInt (-8) = (-8) := by decide +kernel
theorem ic_m1 : Int32.ofInt (-1) = (-1) := by decide +kernel
theorem ic_0 : Int32.ofInt 0 = 0 := by decide +kernel
theorem ic_1 : Int32.ofInt 1 = 1 := by decide +kernel
theorem ic_2 : Int32.ofInt 2 = 2 := by decide +kernel
theorem ic_3 : Int32.ofInt 3 = 3 := by decide +kernel
theorem ic_4 : Int32.ofInt 4 = 4 := by decide +kernel
theorem ic_5 : Int32.ofInt 5 = 5 := by decide +kernel
theorem ic_6 : Int32.ofInt 6 = 6 := by decide +kernel
theorem lc_0 : Int64.ofNat ((0 : Fin 2) : Nat) = 0 := by decide +kernel
theorem si_200 : (Int16.ofInt 200).toInt32 = 200 := by decide +kernel
theorem si_255 : (Int16.ofInt 255).toInt32 = 255 := by decide +kernel
theorem si_256 : (Int16.ofInt 256).toInt32 = 256 := by decide +kernel
theorem si_257 : (Int16.ofInt 257).toInt32 = 257 := by decide +kernel
theorem si_258 : (Int16.ofInt 258).toInt32 = 258 := by decide +kernel
theorem si_300 : (Int16.ofInt 300).toInt32 = 300 := by decide +kernel
theorem si_999 : (Int16.ofInt 999).toInt32 = 999 := by decide +kernel
theorem si_1000 : (Int16.ofInt 1000).toInt32 = 1000 := by decide +kernel
theorem si_1024 : (Int16.ofInt 1024).toInt32 = 1024 := by decide +kernel
theorem si_1448 : (Int16.ofInt 1448).toInt32 = 1448 := by decide +kernel
theorem si_7168 : (Int16.ofInt 7168).toInt32 = 7168 := by decide +kernel
theorem si_9999 : (Int16.ofInt 9999).toInt32 = 9999 := by decide +kernel
theorem si_10000 : (Int16.ofInt 10000).toInt32 = 10000 := by decide +kernel
theorem si_12345 : (Int16.ofInt 12345).toInt32 = 12345 := by decide +kernel
theorem wd_1 : (Jvm.Cond.initialized "DigFill") ∈ am_words := am_in 1 (by decide +kernel) (by decide +kernel)
theorem wd_2 : (Jvm.Cond.initialized "DigFill$Land") ∈ am_words := am_in 2 (by decide +kernel) (by decide +kernel)
theorem wd_3 : (Jvm.Cond.initialized "DigFill$Hole") ∈ am_words := am_in 3 (by decide +kernel) (by decide +kernel)
theorem wd_4 : (Jvm.Cond.initialized "DigFill$Dealer") ∈ am_words := am_in 4 (by decide +kernel) (by decide +kernel)
theorem wd_5 : (Jvm.Cond.initialized "DigFill$Tape") ∈ am_words := am_in 5 (by decide +kernel) (by decide +kernel)
theorem wd_6 : (Jvm.Cond.initialized "DigFill$Sheet") ∈ am_words := am_in 6 (by decide +kernel) (by decide +kernel)
theorem wd_7 : (Jvm.Cond.initialized "DigFill$Slot") ∈ am_words := am_in 7 (by decide +kernel) (by decide +kernel)
theorem wd_8 : (Jvm.Cond.initialized "DigFillModel") ∈ am_words := am_in 8 (by decide +kernel) (by decide +kernel)
theorem wd_9 : (Jvm.Cond.initialized "DigFill$Text") ∈ am_words := am_in 9 (by decide +kernel) (by decide +kernel)
theorem wd_10 : (Jvm.Cond.initialized "java/lang/Math") ∈ am_words := am_in 10 (by decide +kernel) (by decide +kernel)
theorem wd_11 : (Jvm.Cond.initialized "java/util/Arrays") ∈ am_words := am_in 11 (by decide +kernel) (by decide +kernel)
theorem wd_12 : (Jvm.Cond.initialized "java/lang/System") ∈ am_words := am_in 12 (by decide +kernel) (by decide +kernel)
theorem wd_13 : (Jvm.Cond.initialized "java/lang/String") ∈ am_words := am_in 13 (by decide +kernel) (by decide +kernel)
theorem wd_14 : (Jvm.Cond.initialized "java/lang/StringLatin1") ∈ am_words := am_in 14 (by decide +kernel) (by decide +kernel)
theorem wd_15 : (Jvm.Cond.initialized "jdk/internal/util/Preconditions") ∈ am_words := am_in 15 (by decide +kernel) (by decide +kernel)
theorem wd_18 : (Jvm.Cond.classLink "DigFillLaw" (7 : Nat) "DigFill") ∈ am_words := am_in 18 (by decide +kernel) (by decide +kernel)
theorem wd_19 : (Jvm.Cond.instantiable "DigFill" (11 : Nat)) ∈ am_words := am_in 19 (by decide +kernel) (by decide +kernel)
theorem wd_20 : (Jvm.Cond.methodLink "DigFillLaw" (9 : Nat) ({ cls := "DigFill", name := "<init>", desc := "()V" } : Jvm.MethodName)) ∈ am_words := am_in 20 (by decide +kernel) (by decide +kernel)
theorem wd_21 : (Jvm.Cond.instanceMethod ({ cls := "DigFill", name := "<init>", desc := "()V" } : Jvm.MethodName)) ∈ am_words := am_in 21 (by decide +kernel) (by decide +kernel)
theorem wd_22 : (Jvm.Cond.code ({ cls := "DigFill", name := "<init>", desc := "()V" } : Jvm.MethodName) prog_1_method_1_code (2 : Nat) (Option.none : Option Jvm.ClassFile.FieldType)) ∈ am_words := am_in 22 (by decide +kernel) (by decide +kernel)
theorem wd_23 : (Jvm.Cond.methodLink "DigFill" (1 : Nat) ({ cls := "java/lang/Object", name := "<init>", desc := "()V" } : Jvm.MethodName)) ∈ am_words := am_in 23 (by decide +kernel) (by decide +kernel)
theorem wd_24 : (Jvm.Cond.instanceMethod ({ cls := "java/lang/Object", name := "<init>", desc := "()V" } : Jvm.MethodName)) ∈ am_words := am_in 24 (by decide +kernel) (by decide +kernel)
theorem wd_25 : (Jvm.Cond.code ({ cls := "java/lang/Object", name := "<init>", desc := "()V" } : Jvm.MethodName) object_method_1_code (1 : Nat) (Option.none : Option Jvm.ClassFile.FieldType)) ∈ am_words := am_in 25 (by decide +kernel) (by decide +kernel)
theorem wd_26 : (Jvm.Cond.classLink "DigFill" (7 : Nat) "DigFill$Land") ∈ am_words := am_in 26 (by decide +kernel) (by decide +kernel)
theorem wd_27 : (Jvm.Cond.instantiable "DigFill$Land" (14 : Nat)) ∈ am_words := am_in 27 (by decide +kernel) (by decide +kernel)
theorem wd_28 : (Jvm.Cond.methodLink "DigFill" (9 : Nat) ({ cls := "DigFill$Land", name := "<init>", desc := "()V" } : Jvm.MethodName)) ∈ am_words := am_in 28 (by decide +kernel) (by decide +kernel)
theorem wd_29 : (Jvm.Cond.instanceMethod ({ cls := "DigFill$Land", name := "<init>", desc := "()V" } : Jvm.MethodName)) ∈ am_words := am_in 29 (by decide +kernel) (by decide +kernel)
theorem wd_30 : (Jvm.Cond.code ({ cls := "DigFill$Land", name := "<init>", desc := "()V" } : Jvm.MethodName) prog_4_method_1_code (2 : Nat) (Option.none : Option Jvm.ClassFile.FieldType)) ∈ am_words := am_in 30 (by decide +kernel) (by decide +kernel)
theorem wd_31 : (Jvm.Cond.methodLink "DigFill$Land" (3 : Nat) ({ cls := "java/lang/Object", name := "<init>", desc := "()V" } : Jvm.MethodName)) ∈ am_words := am_in 31 (by decide +kernel) (by decide +kernel)
theorem wd_32 : (Jvm.Cond.classLink "DigFill$Land" (9 : Nat) "DigFill$Hole") ∈ am_words := am_in 32 (by decide +kernel) (by decide +kernel)
theorem wd_34 : (Jvm.Cond.classLink "DigFill$Land" (31 : Nat) "DigFill$Text") ∈ am_words := am_in 34 (by decide +kernel) (by decide +kernel)
theorem wd_36 : (Jvm.Cond.instantiable "DigFill$Hole" (5 : Nat)) ∈ am_words := am_in 36 (by decide +kernel) (by decide +kernel)
theorem wd_38 : (Jvm.Cond.instanceMethod ({ cls := "DigFill$Hole", name := "<init>", desc := "()V" } : Jvm.MethodName)) ∈ am_words := am_in 38 (by decide +kernel) (by decide +kernel)
theorem wd_39 : (Jvm.Cond.code ({ cls := "DigFill$Hole", name := "<init>", desc := "()V" } : Jvm.MethodName) prog_3_method_1_code (1 : Nat) (Option.none : Option Jvm.ClassFile.FieldType)) ∈ am_words := am_in 39 (by decide +kernel) (by decide +kernel)
theorem wd_40 : (Jvm.Cond.methodLink "DigFill$Hole" (3 : Nat) ({ cls := "java/lang/Object", name := "<init>", desc := "()V" } : Jvm.MethodName)) ∈ am_words := am_in 40 (by decide +kernel) (by decide +kernel)
theorem wd_41 : (Jvm.Cond.fieldLink "DigFill$Hole" (9 : Nat) "DigFill$Hole" "kind" "I") ∈ am_words := am_in 41 (by decide +kernel) (by decide +kernel)
theorem wd_44 : (Jvm.Cond.fieldLink "DigFill$Hole" (15 : Nat) "DigFill$Hole" "place" "I") ∈ am_words := am_in 44 (by decide +kernel) (by decide +kernel)
theorem wd_47 : (Jvm.Cond.fieldLink "DigFill$Hole" (18 : Nat) "DigFill$Hole" "depth" "I") ∈ am_words := am_in 47 (by decide +kernel) (by decide +kernel)
theorem wd_50 : (Jvm.Cond.fieldLink "DigFill$Hole" (21 : Nat) "DigFill$Hole" "owner" "I") ∈ am_words := am_in 50 (by decide +kernel) (by decide +kernel)
theorem wd_52 : (Jvm.Cond.fieldLink "DigFill$Hole" (24 : Nat) "DigFill$Hole" "age" "I") ∈ am_words := am_in 52 (by decide +kernel) (by decide +kernel)
theorem wd_65 : (Jvm.Cond.arrayClass Jvm.ClassFile.FieldType.int) ∈ am_words := am_in 65 (by decide +kernel) (by decide +kernel)
theorem wd_66 : (Jvm.Cond.fieldLink "DigFill$Land" (11 : Nat) "DigFill$Land" "holes" "[LDigFill$Hole;") ∈ am_words := am_in 66 (by decide +kernel) (by decide +kernel)
theorem wd_69 : (Jvm.Cond.fieldLink "DigFill$Land" (17 : Nat) "DigFill$Land" "holeCount" "I") ∈ am_words := am_in 69 (by decide +kernel) (by decide +kernel)
theorem wd_72 : (Jvm.Cond.fieldLink "DigFill$Land" (21 : Nat) "DigFill$Land" "wantPlaces" "[I") ∈ am_words := am_in 72 (by decide +kernel) (by decide +kernel)
theorem wd_75 : (Jvm.Cond.fieldLink "DigFill$Land" (25 : Nat) "DigFill$Land" "wantSpades" "[I") ∈ am_words := am_in 75 (by decide +kernel) (by decide +kernel)
theorem wd_78 : (Jvm.Cond.fieldLink "DigFill$Land" (28 : Nat) "DigFill$Land" "wantCount" "I") ∈ am_words := am_in 78 (by decide +kernel) (by decide +kernel)
theorem wd_81 : (Jvm.Cond.fieldLink "DigFill$Land" (33 : Nat) "DigFill$Land" "texts" "[LDigFill$Text;") ∈ am_words := am_in 81 (by decide +kernel) (by decide +kernel)
theorem wd_82 : (Jvm.Cond.fieldLink "DigFill$Land" (37 : Nat) "DigFill$Land" "textCount" "I") ∈ am_words := am_in 82 (by decide +kernel) (by decide +kernel)
theorem wd_84 : (Jvm.Cond.fieldLink "DigFill$Land" (40 : Nat) "DigFill$Land" "counting" "[I") ∈ am_words := am_in 84 (by decide +kernel) (by decide +kernel)
theorem wd_86 : (Jvm.Cond.fieldLink "DigFill$Land" (43 : Nat) "DigFill$Land" "mile" "I") ∈ am_words := am_in 86 (by decide +kernel) (by decide +kernel)
theorem wd_88 : (Jvm.Cond.fieldLink "DigFill$Land" (46 : Nat) "DigFill$Land" "swell" "I") ∈ am_words := am_in 88 (by decide +kernel) (by decide +kernel)
theorem wd_90 : (Jvm.Cond.fieldLink "DigFill$Land" (49 : Nat) "DigFill$Land" "day" "I") ∈ am_words := am_in 90 (by decide +kernel) (by decide +kernel)
theorem wd_92 : (Jvm.Cond.fieldLink "DigFill$Land" (52 : Nat) "DigFill$Land" "lifted" "I") ∈ am_words := am_in 92 (by decide +kernel) (by decide +kernel)
theorem wd_94 : (Jvm.Cond.fieldLink "DigFill$Land" (55 : Nat) "DigFill$Land" "lost" "I") ∈ am_words := am_in 94 (by decide +kernel) (by decide +kernel)
theorem wd_96 : (Jvm.Cond.fieldLink "DigFill$Land" (58 : Nat) "DigFill$Land" "z" "I") ∈ am_words := am_in 96 (by decide +kernel) (by decide +kernel)
theorem wd_127 : (Jvm.Cond.classLink "DigFill" (26 : Nat) "DigFill$Dealer") ∈ am_words := am_in 127 (by decide +kernel) (by decide +kernel)
theorem wd_128 : (Jvm.Cond.instantiable "DigFill$Dealer" (4 : Nat)) ∈ am_words := am_in 128 (by decide +kernel) (by decide +kernel)
theorem wd_130 : (Jvm.Cond.instanceMethod ({ cls := "DigFill$Dealer", name := "<init>", desc := "()V" } : Jvm.MethodName)) ∈ am_words := am_in 130 (by decide +kernel) (by decide +kernel)
theorem wd_131 : (Jvm.Cond.code ({ cls := "DigFill$Dealer", name := "<init>", desc := "()V" } : Jvm.MethodName) prog_2_method_1_code (1 : Nat) (Option.none : Option Jvm.ClassFile.FieldType)) ∈ am_words := am_in 131 (by decide +kernel) (by decide +kernel)
theorem wd_132 : (Jvm.Cond.methodLink "DigFill$Dealer" (5 : Nat) ({ cls := "java/lang/Object", name := "<init>", desc := "()V" } : Jvm.MethodName)) ∈ am_words := am_in 132 (by decide +kernel) (by decide +kernel)
theorem wd_133 : (Jvm.Cond.fieldLink "DigFill$Dealer" (11 : Nat) "DigFill$Dealer" "leastFor" "[J") ∈ am_words := am_in 133 (by decide +kernel) (by decide +kernel)
theorem wd_134 : (Jvm.Cond.fieldLink "DigFill$Dealer" (15 : Nat) "DigFill$Dealer" "prices" "[J") ∈ am_words := am_in 134 (by decide +kernel) (by decide +kernel)
theorem wd_135 : (Jvm.Cond.fieldLink "DigFill$Dealer" (18 : Nat) "DigFill$Dealer" "wants" "I") ∈ am_words := am_in 135 (by decide +kernel) (by decide +kernel)
theorem wd_136 : (Jvm.Cond.fieldLink "DigFill$Dealer" (22 : Nat) "DigFill$Dealer" "least" "J") ∈ am_words := am_in 136 (by decide +kernel) (by decide +kernel)
theorem wd_146 : (Jvm.Cond.arrayClass Jvm.ClassFile.FieldType.long) ∈ am_words := am_in 146 (by decide +kernel) (by decide +kernel)
theorem wd_147 : (Jvm.Cond.classLink "DigFill" (33 : Nat) "DigFill$Tape") ∈ am_words := am_in 147 (by decide +kernel) (by decide +kernel)
theorem wd_148 : (Jvm.Cond.instantiable "DigFill$Tape" (11 : Nat)) ∈ am_words := am_in 148 (by decide +kernel) (by decide +kernel)
theorem wd_150 : (Jvm.Cond.instanceMethod ({ cls := "DigFill$Tape", name := "<init>", desc := "()V" } : Jvm.MethodName)) ∈ am_words := am_in 150 (by decide +kernel) (by decide +kernel)
theorem wd_151 : (Jvm.Cond.code ({ cls := "DigFill$Tape", name := "<init>", desc := "()V" } : Jvm.MethodName) prog_7_method_1_code (1 : Nat) (Option.none : Option Jvm.ClassFile.FieldType)) ∈ am_words := am_in 151 (by decide +kernel) (by decide +kernel)
theorem wd_152 : (Jvm.Cond.methodLink "DigFill$Tape" (3 : Nat) ({ cls := "java/lang/Object", name := "<init>", desc := "()V" } : Jvm.MethodName)) ∈ am_words := am_in 152 (by decide +kernel) (by decide +kernel)
theorem wd_153 : (Jvm.Cond.fieldLink "DigFill$Tape" (9 : Nat) "DigFill$Tape" "bytes" "[I") ∈ am_words := am_in 153 (by decide +kernel) (by decide +kernel)
theorem wd_154 : (Jvm.Cond.fieldLink "DigFill$Tape" (15 : Nat) "DigFill$Tape" "length" "I") ∈ am_words := am_in 154 (by decide +kernel) (by decide +kernel)
theorem wd_156 : (Jvm.Cond.fieldLink "DigFill$Tape" (19 : Nat) "DigFill$Tape" "at" "I") ∈ am_words := am_in 156 (by decide +kernel) (by decide +kernel)
theorem wd_158 : (Jvm.Cond.fieldLink "DigFill$Tape" (22 : Nat) "DigFill$Tape" "end" "I") ∈ am_words := am_in 158 (by decide +kernel) (by decide +kernel)
theorem wd_159 : (Jvm.Cond.fieldLink "DigFill$Tape" (25 : Nat) "DigFill$Tape" "sign" "I") ∈ am_words := am_in 159 (by decide +kernel) (by decide +kernel)
theorem wd_160 : (Jvm.Cond.fieldLink "DigFill$Tape" (28 : Nat) "DigFill$Tape" "key" "I") ∈ am_words := am_in 160 (by decide +kernel) (by decide +kernel)
theorem wd_161 : (Jvm.Cond.fieldLink "DigFill$Tape" (31 : Nat) "DigFill$Tape" "pieces" "I") ∈ am_words := am_in 161 (by decide +kernel) (by decide +kernel)
theorem wd_162 : (Jvm.Cond.fieldLink "DigFill$Tape" (34 : Nat) "DigFill$Tape" "openBrackets" "I") ∈ am_words := am_in 162 (by decide +kernel) (by decide +kernel)
theorem wd_163 : (Jvm.Cond.fieldLink "DigFill$Tape" (37 : Nat) "DigFill$Tape" "openNots" "I") ∈ am_words := am_in 163 (by decide +kernel) (by decide +kernel)
theorem wd_164 : (Jvm.Cond.fieldLink "DigFill$Tape" (40 : Nat) "DigFill$Tape" "codes" "[I") ∈ am_words := am_in 164 (by decide +kernel) (by decide +kernel)
theorem wd_165 : (Jvm.Cond.fieldLink "DigFill$Tape" (43 : Nat) "DigFill$Tape" "codeCount" "I") ∈ am_words := am_in 165 (by decide +kernel) (by decide +kernel)
theorem wd_189 : (Jvm.Cond.classLink "DigFill" (40 : Nat) "DigFill$Sheet") ∈ am_words := am_in 189 (by decide +kernel) (by decide +kernel)
theorem wd_191 : (Jvm.Cond.classLink "DigFill" (46 : Nat) "DigFill$Slot") ∈ am_words := am_in 191 (by decide +kernel) (by decide +kernel)
theorem wd_193 : (Jvm.Cond.instantiable "DigFill$Sheet" (3 : Nat)) ∈ am_words := am_in 193 (by decide +kernel) (by decide +kernel)
theorem wd_195 : (Jvm.Cond.instanceMethod ({ cls := "DigFill$Sheet", name := "<init>", desc := "()V" } : Jvm.MethodName)) ∈ am_words := am_in 195 (by decide +kernel) (by decide +kernel)
theorem wd_196 : (Jvm.Cond.code ({ cls := "DigFill$Sheet", name := "<init>", desc := "()V" } : Jvm.MethodName) prog_5_method_1_code (1 : Nat) (Option.none : Option Jvm.ClassFile.FieldType)) ∈ am_words := am_in 196 (by decide +kernel) (by decide +kernel)
theorem wd_197 : (Jvm.Cond.methodLink "DigFill$Sheet" (3 : Nat) ({ cls := "java/lang/Object", name := "<init>", desc := "()V" } : Jvm.MethodName)) ∈ am_words := am_in 197 (by decide +kernel) (by decide +kernel)
theorem wd_198 : (Jvm.Cond.fieldLink "DigFill$Sheet" (9 : Nat) "DigFill$Sheet" "sort" "I") ∈ am_words := am_in 198 (by decide +kernel) (by decide +kernel)
theorem wd_200 : (Jvm.Cond.fieldLink "DigFill$Sheet" (15 : Nat) "DigFill$Sheet" "size" "I") ∈ am_words := am_in 200 (by decide +kernel) (by decide +kernel)
theorem wd_202 : (Jvm.Cond.fieldLink "DigFill$Sheet" (18 : Nat) "DigFill$Sheet" "places" "[I") ∈ am_words := am_in 202 (by decide +kernel) (by decide +kernel)
theorem wd_211 : (Jvm.Cond.instantiable "DigFill$Slot" (4 : Nat)) ∈ am_words := am_in 211 (by decide +kernel) (by decide +kernel)
theorem wd_213 : (Jvm.Cond.instanceMethod ({ cls := "DigFill$Slot", name := "<init>", desc := "()V" } : Jvm.MethodName)) ∈ am_words := am_in 213 (by decide +kernel) (by decide +kernel)
theorem wd_214 : (Jvm.Cond.code ({ cls := "DigFill$Slot", name := "<init>", desc := "()V" } : Jvm.MethodName) prog_6_method_1_code (1 : Nat) (Option.none : Option Jvm.ClassFile.FieldType)) ∈ am_words := am_in 214 (by decide +kernel) (by decide +kernel)
theorem wd_215 : (Jvm.Cond.methodLink "DigFill$Slot" (3 : Nat) ({ cls := "java/lang/Object", name := "<init>", desc := "()V" } : Jvm.MethodName)) ∈ am_words := am_in 215 (by decide +kernel) (by decide +kernel)
theorem wd_216 : (Jvm.Cond.classLink "DigFill$Slot" (18 : Nat) "DigFill$Hole") ∈ am_words := am_in 216 (by decide +kernel) (by decide +kernel)
theorem wd_218 : (Jvm.Cond.classLink "DigFill$Slot" (25 : Nat) "DigFill$Sheet") ∈ am_words := am_in 218 (by decide +kernel) (by decide +kernel)
theorem wd_220 : (Jvm.Cond.fieldLink "DigFill$Slot" (9 : Nat) "DigFill$Slot" "thing" "I") ∈ am_words := am_in 220 (by decide +kernel) (by decide +kernel)
theorem wd_222 : (Jvm.Cond.fieldLink "DigFill$Slot" (15 : Nat) "DigFill$Slot" "number" "I") ∈ am_words := am_in 222 (by decide +kernel) (by decide +kernel)
theorem wd_224 : (Jvm.Cond.fieldLink "DigFill$Slot" (21 : Nat) "DigFill$Slot" "hole" "LDigFill$Hole;") ∈ am_words := am_in 224 (by decide +kernel) (by decide +kernel)
theorem wd_226 : (Jvm.Cond.fieldLink "DigFill$Slot" (28 : Nat) "DigFill$Slot" "row" "LDigFill$Sheet;") ∈ am_words := am_in 226 (by decide +kernel) (by decide +kernel)
theorem wd_237 : (Jvm.Cond.fieldLink "DigFill" (10 : Nat) "DigFill" "now" "LDigFill$Land;") ∈ am_words := am_in 237 (by decide +kernel) (by decide +kernel)
theorem wd_238 : (Jvm.Cond.fieldLink "DigFill" (16 : Nat) "DigFill" "thought" "LDigFill$Land;") ∈ am_words := am_in 238 (by decide +kernel) (by decide +kernel)
theorem wd_239 : (Jvm.Cond.fieldLink "DigFill" (19 : Nat) "DigFill" "image" "LDigFill$Land;") ∈ am_words := am_in 239 (by decide +kernel) (by decide +kernel)
theorem wd_240 : (Jvm.Cond.fieldLink "DigFill" (22 : Nat) "DigFill" "kept" "Z") ∈ am_words := am_in 240 (by decide +kernel) (by decide +kernel)
theorem wd_241 : (Jvm.Cond.fieldLink "DigFill" (29 : Nat) "DigFill" "dealer" "LDigFill$Dealer;") ∈ am_words := am_in 241 (by decide +kernel) (by decide +kernel)
theorem wd_242 : (Jvm.Cond.fieldLink "DigFill" (36 : Nat) "DigFill" "tape" "LDigFill$Tape;") ∈ am_words := am_in 242 (by decide +kernel) (by decide +kernel)
theorem wd_243 : (Jvm.Cond.fieldLink "DigFill" (42 : Nat) "DigFill" "sheets" "[LDigFill$Sheet;") ∈ am_words := am_in 243 (by decide +kernel) (by decide +kernel)
theorem wd_244 : (Jvm.Cond.fieldLink "DigFill" (48 : Nat) "DigFill" "slots" "[LDigFill$Slot;") ∈ am_words := am_in 244 (by decide +kernel) (by decide +kernel)
theorem wd_245 : (Jvm.Cond.fieldLink "DigFill" (52 : Nat) "DigFill" "waiting" "[I") ∈ am_words := am_in 245 (by decide +kernel) (by decide +kernel)
theorem wd_246 : (Jvm.Cond.fieldLink "DigFill" (56 : Nat) "DigFill" "waitingCount" "I") ∈ am_words := am_in 246 (by decide +kernel) (by decide +kernel)
theorem wd_247 : (Jvm.Cond.fieldLink "DigFill" (60 : Nat) "DigFill" "differences" "[I") ∈ am_words := am_in 247 (by decide +kernel) (by decide +kernel)
theorem wd_271 : (Jvm.Cond.methodLink "DigFillLaw" (13 : Nat) ({ cls := "DigFill", name := "hole", desc := "(IIII)I" } : Jvm.MethodName)) ∈ am_words := am_in 271 (by decide +kernel) (by decide +kernel)
theorem wd_272 : (Jvm.Cond.instanceMethod ({ cls := "DigFill", name := "hole", desc := "(IIII)I" } : Jvm.MethodName)) ∈ am_words := am_in 272 (by decide +kernel) (by decide +kernel)
theorem wd_273 : (Jvm.Cond.selects "DigFill" ({ cls := "DigFill", name := "hole", desc := "(IIII)I" } : Jvm.MethodName) ({ cls := "DigFill", name := "hole", desc := "(IIII)I" } : Jvm.MethodName)) ∈ am_words := am_in 273 (by decide +kernel) (by decide +kernel)
theorem wd_274 : (Jvm.Cond.code ({ cls := "DigFill", name := "hole", desc := "(IIII)I" } : Jvm.MethodName) prog_1_method_2_code (5 : Nat) (Option.some Jvm.ClassFile.FieldType.int)) ∈ am_words := am_in 274 (by decide +kernel) (by decide +kernel)
theorem wd_275 : (Jvm.Cond.methodLink "DigFill" (65 : Nat) ({ cls := "DigFill", name := "within", desc := "(II)Z" } : Jvm.MethodName)) ∈ am_words := am_in 275 (by decide +kernel) (by decide +kernel)
theorem wd_276 : (Jvm.Cond.static ({ cls := "DigFill", name := "within", desc := "(II)Z" } : Jvm.MethodName)) ∈ am_words := am_in 276 (by decide +kernel) (by decide +kernel)
theorem wd_277 : (Jvm.Cond.code ({ cls := "DigFill", name := "within", desc := "(II)Z" } : Jvm.MethodName) prog_1_method_45_code (2 : Nat) (Option.some Jvm.ClassFile.FieldType.boolean)) ∈ am_words := am_in 277 (by decide +kernel) (by decide +kernel)
theorem wd_278 : (Jvm.Cond.constant "DigFill" (69 : Nat) (-1000000001 : Int32)) ∈ am_words := am_in 278 (by decide +kernel) (by decide +kernel)
theorem wd_279 : (Jvm.Cond.constant "DigFill" (73 : Nat) (-1000000003 : Int32)) ∈ am_words := am_in 279 (by decide +kernel) (by decide +kernel)
theorem wd_280 : (Jvm.Cond.methodLink "DigFill" (74 : Nat) ({ cls := "DigFill$Land", name := "open", desc := "(IIII)I" } : Jvm.MethodName)) ∈ am_words := am_in 280 (by decide +kernel) (by decide +kernel)
theorem wd_281 : (Jvm.Cond.instanceMethod ({ cls := "DigFill$Land", name := "open", desc := "(IIII)I" } : Jvm.MethodName)) ∈ am_words := am_in 281 (by decide +kernel) (by decide +kernel)
theorem wd_282 : (Jvm.Cond.selects "DigFill$Land" ({ cls := "DigFill$Land", name := "open", desc := "(IIII)I" } : Jvm.MethodName) ({ cls := "DigFill$Land", name := "open", desc := "(IIII)I" } : Jvm.MethodName)) ∈ am_words := am_in 282 (by decide +kernel) (by decide +kernel)
theorem wd_283 : (Jvm.Cond.code ({ cls := "DigFill$Land", name := "open", desc := "(IIII)I" } : Jvm.MethodName) prog_4_method_4_code (6 : Nat) (Option.some Jvm.ClassFile.FieldType.int)) ∈ am_words := am_in 283 (by decide +kernel) (by decide +kernel)
theorem wd_284 : (Jvm.Cond.constant "DigFill$Land" (72 : Nat) (-1000000003 : Int32)) ∈ am_words := am_in 284 (by decide +kernel) (by decide +kernel)
theorem wd_285 : (Jvm.Cond.methodLink "DigFill$Land" (73 : Nat) ({ cls := "DigFill$Hole", name := "start", desc := "(IIII)V" } : Jvm.MethodName)) ∈ am_words := am_in 285 (by decide +kernel) (by decide +kernel)
theorem wd_286 : (Jvm.Cond.instanceMethod ({ cls := "DigFill$Hole", name := "start", desc := "(IIII)V" } : Jvm.MethodName)) ∈ am_words := am_in 286 (by decide +kernel) (by decide +kernel)
theorem wd_287 : (Jvm.Cond.selects "DigFill$Hole" ({ cls := "DigFill$Hole", name := "start", desc := "(IIII)V" } : Jvm.MethodName) ({ cls := "DigFill$Hole", name := "start", desc := "(IIII)V" } : Jvm.MethodName)) ∈ am_words := am_in 287 (by decide +kernel) (by decide +kernel)
theorem wd_288 : (Jvm.Cond.code ({ cls := "DigFill$Hole", name := "start", desc := "(IIII)V" } : Jvm.MethodName) prog_3_method_2_code (5 : Nat) (Option.none : Option Jvm.ClassFile.FieldType)) ∈ am_words := am_in 288 (by decide +kernel) (by decide +kernel)
theorem wd_289 : (Jvm.Cond.methodLink "DigFillLaw" (18 : Nat) ({ cls := "DigFill", name := "told", desc := "(II)I" } : Jvm.MethodName)) ∈ am_words := am_in 289 (by decide +kernel) (by decide +kernel)
theorem wd_290 : (Jvm.Cond.instanceMethod ({ cls := "DigFill", name := "told", desc := "(II)I" } : Jvm.MethodName)) ∈ am_words := am_in 290 (by decide +kernel) (by decide +kernel)
theorem wd_291 : (Jvm.Cond.selects "DigFill" ({ cls := "DigFill", name := "told", desc := "(II)I" } : Jvm.MethodName) ({ cls := "DigFill", name := "told", desc := "(II)I" } : Jvm.MethodName)) ∈ am_words := am_in 291 (by decide +kernel) (by decide +kernel)
theorem wd_292 : (Jvm.Cond.code ({ cls := "DigFill", name := "told", desc := "(II)I" } : Jvm.MethodName) prog_1_method_3_code (4 : Nat) (Option.some Jvm.ClassFile.FieldType.int)) ∈ am_words := am_in 292 (by decide +kernel) (by decide +kernel)
theorem wd_293 : (Jvm.Cond.methodLink "DigFill" (78 : Nat) ({ cls := "DigFill$Land", name := "find", desc := "(I)LDigFill$Hole;" } : Jvm.MethodName)) ∈ am_words := am_in 293 (by decide +kernel) (by decide +kernel)
theorem wd_294 : (Jvm.Cond.instanceMethod ({ cls := "DigFill$Land", name := "find", desc := "(I)LDigFill$Hole;" } : Jvm.MethodName)) ∈ am_words := am_in 294 (by decide +kernel) (by decide +kernel)
theorem wd_295 : (Jvm.Cond.selects "DigFill$Land" ({ cls := "DigFill$Land", name := "find", desc := "(I)LDigFill$Hole;" } : Jvm.MethodName) ({ cls := "DigFill$Land", name := "find", desc := "(I)LDigFill$Hole;" } : Jvm.MethodName)) ∈ am_words := am_in 295 (by decide +kernel) (by decide +kernel)
theorem wd_296 : (Jvm.Cond.code ({ cls := "DigFill$Land", name := "find", desc := "(I)LDigFill$Hole;" } : Jvm.MethodName) prog_4_method_3_code (2 : Nat) (Option.some (Jvm.ClassFile.FieldType.object "DigFill$Hole"))) ∈ am_words := am_in 296 (by decide +kernel) (by decide +kernel)
theorem wd_297 : (Jvm.Cond.methodLink "DigFill" (82 : Nat) ({ cls := "DigFill$Hole", name := "part", desc := "(I)I" } : Jvm.MethodName)) ∈ am_words := am_in 297 (by decide +kernel) (by decide +kernel)
theorem wd_298 : (Jvm.Cond.instanceMethod ({ cls := "DigFill$Hole", name := "part", desc := "(I)I" } : Jvm.MethodName)) ∈ am_words := am_in 298 (by decide +kernel) (by decide +kernel)
theorem wd_299 : (Jvm.Cond.selects "DigFill$Hole" ({ cls := "DigFill$Hole", name := "part", desc := "(I)I" } : Jvm.MethodName) ({ cls := "DigFill$Hole", name := "part", desc := "(I)I" } : Jvm.MethodName)) ∈ am_words := am_in 299 (by decide +kernel) (by decide +kernel)
theorem wd_300 : (Jvm.Cond.code ({ cls := "DigFill$Hole", name := "part", desc := "(I)I" } : Jvm.MethodName) prog_3_method_4_code (2 : Nat) (Option.some Jvm.ClassFile.FieldType.int)) ∈ am_words := am_in 300 (by decide +kernel) (by decide +kernel)
theorem wd_301 : (Jvm.Cond.methodLink "DigFill$Hole" (31 : Nat) ({ cls := "DigFill$Hole", name := "worth", desc := "()I" } : Jvm.MethodName)) ∈ am_words := am_in 301 (by decide +kernel) (by decide +kernel)
theorem wd_302 : (Jvm.Cond.instanceMethod ({ cls := "DigFill$Hole", name := "worth", desc := "()I" } : Jvm.MethodName)) ∈ am_words := am_in 302 (by decide +kernel) (by decide +kernel)
theorem wd_303 : (Jvm.Cond.selects "DigFill$Hole" ({ cls := "DigFill$Hole", name := "worth", desc := "()I" } : Jvm.MethodName) ({ cls := "DigFill$Hole", name := "worth", desc := "()I" } : Jvm.MethodName)) ∈ am_words := am_in 303 (by decide +kernel) (by decide +kernel)
theorem wd_304 : (Jvm.Cond.code ({ cls := "DigFill$Hole", name := "worth", desc := "()I" } : Jvm.MethodName) prog_3_method_7_code (1 : Nat) (Option.some Jvm.ClassFile.FieldType.int)) ∈ am_words := am_in 304 (by decide +kernel) (by decide +kernel)
theorem wd_305 : (Jvm.Cond.methodLink "DigFillLaw" (23 : Nat) ({ cls := "DigFill", name := "as", desc := "(II)I" } : Jvm.MethodName)) ∈ am_words := am_in 305 (by decide +kernel) (by decide +kernel)
theorem wd_306 : (Jvm.Cond.instanceMethod ({ cls := "DigFill", name := "as", desc := "(II)I" } : Jvm.MethodName)) ∈ am_words := am_in 306 (by decide +kernel) (by decide +kernel)
theorem wd_307 : (Jvm.Cond.selects "DigFill" ({ cls := "DigFill", name := "as", desc := "(II)I" } : Jvm.MethodName) ({ cls := "DigFill", name := "as", desc := "(II)I" } : Jvm.MethodName)) ∈ am_words := am_in 307 (by decide +kernel) (by decide +kernel)
theorem wd_308 : (Jvm.Cond.code ({ cls := "DigFill", name := "as", desc := "(II)I" } : Jvm.MethodName) prog_1_method_4_code (4 : Nat) (Option.some Jvm.ClassFile.FieldType.int)) ∈ am_words := am_in 308 (by decide +kernel) (by decide +kernel)
theorem wd_309 : (Jvm.Cond.methodLink "DigFill" (88 : Nat) ({ cls := "DigFill$Hole", name := "isOf", desc := "(I)Z" } : Jvm.MethodName)) ∈ am_words := am_in 309 (by decide +kernel) (by decide +kernel)
theorem wd_310 : (Jvm.Cond.instanceMethod ({ cls := "DigFill$Hole", name := "isOf", desc := "(I)Z" } : Jvm.MethodName)) ∈ am_words := am_in 310 (by decide +kernel) (by decide +kernel)
theorem wd_311 : (Jvm.Cond.selects "DigFill$Hole" ({ cls := "DigFill$Hole", name := "isOf", desc := "(I)Z" } : Jvm.MethodName) ({ cls := "DigFill$Hole", name := "isOf", desc := "(I)Z" } : Jvm.MethodName)) ∈ am_words := am_in 311 (by decide +kernel) (by decide +kernel)
theorem wd_312 : (Jvm.Cond.code ({ cls := "DigFill$Hole", name := "isOf", desc := "(I)Z" } : Jvm.MethodName) prog_3_method_6_code (4 : Nat) (Option.some Jvm.ClassFile.FieldType.boolean)) ∈ am_words := am_in 312 (by decide +kernel) (by decide +kernel)
theorem wd_315 : (Jvm.Cond.constant "DigFill" (95 : Nat) (-1000000012 : Int32)) ∈ am_words := am_in 315 (by decide +kernel) (by decide +kernel)
theorem wd_316 : (Jvm.Cond.methodLink "DigFillLaw" (27 : Nat) ({ cls := "DigFill", name := "turns", desc := "(II)I" } : Jvm.MethodName)) ∈ am_words := am_in 316 (by decide +kernel) (by decide +kernel)
theorem wd_317 : (Jvm.Cond.instanceMethod ({ cls := "DigFill", name := "turns", desc := "(II)I" } : Jvm.MethodName)) ∈ am_words := am_in 317 (by decide +kernel) (by decide +kernel)
theorem wd_318 : (Jvm.Cond.selects "DigFill" ({ cls := "DigFill", name := "turns", desc := "(II)I" } : Jvm.MethodName) ({ cls := "DigFill", name := "turns", desc := "(II)I" } : Jvm.MethodName)) ∈ am_words := am_in 318 (by decide +kernel) (by decide +kernel)
theorem wd_319 : (Jvm.Cond.code ({ cls := "DigFill", name := "turns", desc := "(II)I" } : Jvm.MethodName) prog_1_method_5_code (5 : Nat) (Option.some Jvm.ClassFile.FieldType.int)) ∈ am_words := am_in 319 (by decide +kernel) (by decide +kernel)
theorem wd_320 : (Jvm.Cond.methodLink "DigFillLaw" (31 : Nat) ({ cls := "DigFill", name := "set", desc := "(III)I" } : Jvm.MethodName)) ∈ am_words := am_in 320 (by decide +kernel) (by decide +kernel)
theorem wd_321 : (Jvm.Cond.instanceMethod ({ cls := "DigFill", name := "set", desc := "(III)I" } : Jvm.MethodName)) ∈ am_words := am_in 321 (by decide +kernel) (by decide +kernel)
theorem wd_322 : (Jvm.Cond.selects "DigFill" ({ cls := "DigFill", name := "set", desc := "(III)I" } : Jvm.MethodName) ({ cls := "DigFill", name := "set", desc := "(III)I" } : Jvm.MethodName)) ∈ am_words := am_in 322 (by decide +kernel) (by decide +kernel)
theorem wd_323 : (Jvm.Cond.code ({ cls := "DigFill", name := "set", desc := "(III)I" } : Jvm.MethodName) prog_1_method_6_code (6 : Nat) (Option.some Jvm.ClassFile.FieldType.int)) ∈ am_words := am_in 323 (by decide +kernel) (by decide +kernel)
theorem wd_324 : (Jvm.Cond.methodLink "DigFill" (99 : Nat) ({ cls := "DigFill", name := "mostOf", desc := "(I)I" } : Jvm.MethodName)) ∈ am_words := am_in 324 (by decide +kernel) (by decide +kernel)
theorem wd_325 : (Jvm.Cond.static ({ cls := "DigFill", name := "mostOf", desc := "(I)I" } : Jvm.MethodName)) ∈ am_words := am_in 325 (by decide +kernel) (by decide +kernel)
theorem wd_326 : (Jvm.Cond.code ({ cls := "DigFill", name := "mostOf", desc := "(I)I" } : Jvm.MethodName) prog_1_method_48_code (1 : Nat) (Option.some Jvm.ClassFile.FieldType.int)) ∈ am_words := am_in 326 (by decide +kernel) (by decide +kernel)
theorem wd_327 : (Jvm.Cond.methodLink "DigFill" (102 : Nat) ({ cls := "DigFill$Hole", name := "change", desc := "(II)V" } : Jvm.MethodName)) ∈ am_words := am_in 327 (by decide +kernel) (by decide +kernel)
theorem wd_328 : (Jvm.Cond.instanceMethod ({ cls := "DigFill$Hole", name := "change", desc := "(II)V" } : Jvm.MethodName)) ∈ am_words := am_in 328 (by decide +kernel) (by decide +kernel)
theorem wd_329 : (Jvm.Cond.selects "DigFill$Hole" ({ cls := "DigFill$Hole", name := "change", desc := "(II)V" } : Jvm.MethodName) ({ cls := "DigFill$Hole", name := "change", desc := "(II)V" } : Jvm.MethodName)) ∈ am_words := am_in 329 (by decide +kernel) (by decide +kernel)
theorem wd_330 : (Jvm.Cond.code ({ cls := "DigFill$Hole", name := "change", desc := "(II)V" } : Jvm.MethodName) prog_3_method_5_code (3 : Nat) (Option.none : Option Jvm.ClassFile.FieldType)) ∈ am_words := am_in 330 (by decide +kernel) (by decide +kernel)
theorem wd_331 : (Jvm.Cond.methodLink "DigFillLaw" (36 : Nat) ({ cls := "DigFill", name := "settles", desc := "(II)I" } : Jvm.MethodName)) ∈ am_words := am_in 331 (by decide +kernel) (by decide +kernel)
theorem wd_332 : (Jvm.Cond.instanceMethod ({ cls := "DigFill", name := "settles", desc := "(II)I" } : Jvm.MethodName)) ∈ am_words := am_in 332 (by decide +kernel) (by decide +kernel)
theorem wd_333 : (Jvm.Cond.selects "DigFill" ({ cls := "DigFill", name := "settles", desc := "(II)I" } : Jvm.MethodName) ({ cls := "DigFill", name := "settles", desc := "(II)I" } : Jvm.MethodName)) ∈ am_words := am_in 333 (by decide +kernel) (by decide +kernel)
theorem wd_334 : (Jvm.Cond.code ({ cls := "DigFill", name := "settles", desc := "(II)I" } : Jvm.MethodName) prog_1_method_7_code (4 : Nat) (Option.some Jvm.ClassFile.FieldType.int)) ∈ am_words := am_in 334 (by decide +kernel) (by decide +kernel)
theorem wd_335 : (Jvm.Cond.methodLink "DigFill" (106 : Nat) ({ cls := "DigFill$Land", name := "sinks", desc := "(LDigFill$Hole;I)I" } : Jvm.MethodName)) ∈ am_words := am_in 335 (by decide +kernel) (by decide +kernel)
theorem wd_336 : (Jvm.Cond.instanceMethod ({ cls := "DigFill$Land", name := "sinks", desc := "(LDigFill$Hole;I)I" } : Jvm.MethodName)) ∈ am_words := am_in 336 (by decide +kernel) (by decide +kernel)
theorem wd_337 : (Jvm.Cond.selects "DigFill$Land" ({ cls := "DigFill$Land", name := "sinks", desc := "(LDigFill$Hole;I)I" } : Jvm.MethodName) ({ cls := "DigFill$Land", name := "sinks", desc := "(LDigFill$Hole;I)I" } : Jvm.MethodName)) ∈ am_words := am_in 337 (by decide +kernel) (by decide +kernel)
theorem wd_338 : (Jvm.Cond.code ({ cls := "DigFill$Land", name := "sinks", desc := "(LDigFill$Hole;I)I" } : Jvm.MethodName) prog_4_method_11_code (3 : Nat) (Option.some Jvm.ClassFile.FieldType.int)) ∈ am_words := am_in 338 (by decide +kernel) (by decide +kernel)
theorem wd_339 : (Jvm.Cond.methodLink "DigFill$Land" (123 : Nat) ({ cls := "DigFill$Land", name := "sinksPlain", desc := "(LDigFill$Hole;I)I" } : Jvm.MethodName)) ∈ am_words := am_in 339 (by decide +kernel) (by decide +kernel)
theorem wd_340 : (Jvm.Cond.instanceMethod ({ cls := "DigFill$Land", name := "sinksPlain", desc := "(LDigFill$Hole;I)I" } : Jvm.MethodName)) ∈ am_words := am_in 340 (by decide +kernel) (by decide +kernel)
theorem wd_341 : (Jvm.Cond.selects "DigFill$Land" ({ cls := "DigFill$Land", name := "sinksPlain", desc := "(LDigFill$Hole;I)I" } : Jvm.MethodName) ({ cls := "DigFill$Land", name := "sinksPlain", desc := "(LDigFill$Hole;I)I" } : Jvm.MethodName)) ∈ am_words := am_in 341 (by decide +kernel) (by decide +kernel)
theorem wd_342 : (Jvm.Cond.code ({ cls := "DigFill$Land", name := "sinksPlain", desc := "(LDigFill$Hole;I)I" } : Jvm.MethodName) prog_4_method_12_code (4 : Nat) (Option.some Jvm.ClassFile.FieldType.int)) ∈ am_words := am_in 342 (by decide +kernel) (by decide +kernel)
theorem wd_343 : (Jvm.Cond.methodLink "DigFill$Land" (105 : Nat) ({ cls := "DigFill$Land", name := "textFor", desc := "(I)LDigFill$Text;" } : Jvm.MethodName)) ∈ am_words := am_in 343 (by decide +kernel) (by decide +kernel)
theorem wd_344 : (Jvm.Cond.instanceMethod ({ cls := "DigFill$Land", name := "textFor", desc := "(I)LDigFill$Text;" } : Jvm.MethodName)) ∈ am_words := am_in 344 (by decide +kernel) (by decide +kernel)
theorem wd_345 : (Jvm.Cond.selects "DigFill$Land" ({ cls := "DigFill$Land", name := "textFor", desc := "(I)LDigFill$Text;" } : Jvm.MethodName) ({ cls := "DigFill$Land", name := "textFor", desc := "(I)LDigFill$Text;" } : Jvm.MethodName)) ∈ am_words := am_in 345 (by decide +kernel) (by decide +kernel)
theorem wd_346 : (Jvm.Cond.code ({ cls := "DigFill$Land", name := "textFor", desc := "(I)LDigFill$Text;" } : Jvm.MethodName) prog_4_method_19_code (2 : Nat) (Option.some (Jvm.ClassFile.FieldType.object "DigFill$Text"))) ∈ am_words := am_in 346 (by decide +kernel) (by decide +kernel)
theorem wd_347 : (Jvm.Cond.methodLink "DigFill$Land" (136 : Nat) ({ cls := "DigFill$Land", name := "findText", desc := "(I)LDigFill$Text;" } : Jvm.MethodName)) ∈ am_words := am_in 347 (by decide +kernel) (by decide +kernel)
theorem wd_348 : (Jvm.Cond.instanceMethod ({ cls := "DigFill$Land", name := "findText", desc := "(I)LDigFill$Text;" } : Jvm.MethodName)) ∈ am_words := am_in 348 (by decide +kernel) (by decide +kernel)
theorem wd_349 : (Jvm.Cond.selects "DigFill$Land" ({ cls := "DigFill$Land", name := "findText", desc := "(I)LDigFill$Text;" } : Jvm.MethodName) ({ cls := "DigFill$Land", name := "findText", desc := "(I)LDigFill$Text;" } : Jvm.MethodName)) ∈ am_words := am_in 349 (by decide +kernel) (by decide +kernel)
theorem wd_350 : (Jvm.Cond.code ({ cls := "DigFill$Land", name := "findText", desc := "(I)LDigFill$Text;" } : Jvm.MethodName) prog_4_method_18_code (2 : Nat) (Option.some (Jvm.ClassFile.FieldType.object "DigFill$Text"))) ∈ am_words := am_in 350 (by decide +kernel) (by decide +kernel)
theorem wd_351 : (Jvm.Cond.methodLink "DigFill$Land" (115 : Nat) ({ cls := "DigFill$Text", name := "value", desc := "(III)I" } : Jvm.MethodName)) ∈ am_words := am_in 351 (by decide +kernel) (by decide +kernel)
theorem wd_352 : (Jvm.Cond.instanceMethod ({ cls := "DigFill$Text", name := "value", desc := "(III)I" } : Jvm.MethodName)) ∈ am_words := am_in 352 (by decide +kernel) (by decide +kernel)
theorem wd_353 : (Jvm.Cond.selects "DigFill$Text" ({ cls := "DigFill$Text", name := "value", desc := "(III)I" } : Jvm.MethodName) ({ cls := "DigFill$Text", name := "value", desc := "(III)I" } : Jvm.MethodName)) ∈ am_words := am_in 353 (by decide +kernel) (by decide +kernel)
theorem wd_354 : (Jvm.Cond.code ({ cls := "DigFill$Text", name := "value", desc := "(III)I" } : Jvm.MethodName) prog_8_method_2_code (7 : Nat) (Option.some Jvm.ClassFile.FieldType.int)) ∈ am_words := am_in 354 (by decide +kernel) (by decide +kernel)
theorem wd_355 : (Jvm.Cond.methodLink "DigFill$Text" (23 : Nat) ({ cls := "DigFill$Text", name := "plain", desc := "(IIII)I" } : Jvm.MethodName)) ∈ am_words := am_in 355 (by decide +kernel) (by decide +kernel)
theorem wd_356 : (Jvm.Cond.static ({ cls := "DigFill$Text", name := "plain", desc := "(IIII)I" } : Jvm.MethodName)) ∈ am_words := am_in 356 (by decide +kernel) (by decide +kernel)
theorem wd_357 : (Jvm.Cond.code ({ cls := "DigFill$Text", name := "plain", desc := "(IIII)I" } : Jvm.MethodName) prog_8_method_3_code (4 : Nat) (Option.some Jvm.ClassFile.FieldType.int)) ∈ am_words := am_in 357 (by decide +kernel) (by decide +kernel)
theorem wd_358 : (Jvm.Cond.methodLink "DigFill$Text" (27 : Nat) ({ cls := "DigFill$Text", name := "joined", desc := "(III)I" } : Jvm.MethodName)) ∈ am_words := am_in 358 (by decide +kernel) (by decide +kernel)
theorem wd_359 : (Jvm.Cond.static ({ cls := "DigFill$Text", name := "joined", desc := "(III)I" } : Jvm.MethodName)) ∈ am_words := am_in 359 (by decide +kernel) (by decide +kernel)
theorem wd_360 : (Jvm.Cond.code ({ cls := "DigFill$Text", name := "joined", desc := "(III)I" } : Jvm.MethodName) prog_8_method_4_code (3 : Nat) (Option.some Jvm.ClassFile.FieldType.int)) ∈ am_words := am_in 360 (by decide +kernel) (by decide +kernel)
theorem wd_362 : (Jvm.Cond.static ({ cls := "DigFill", name := "held", desc := "(II)I" } : Jvm.MethodName)) ∈ am_words := am_in 362 (by decide +kernel) (by decide +kernel)
theorem wd_363 : (Jvm.Cond.code ({ cls := "DigFill", name := "held", desc := "(II)I" } : Jvm.MethodName) prog_1_method_47_code (2 : Nat) (Option.some Jvm.ClassFile.FieldType.int)) ∈ am_words := am_in 363 (by decide +kernel) (by decide +kernel)
theorem wd_364 : (Jvm.Cond.methodLink "DigFill" (116 : Nat) ({ cls := "java/lang/Math", name := "min", desc := "(II)I" } : Jvm.MethodName)) ∈ am_words := am_in 364 (by decide +kernel) (by decide +kernel)
theorem wd_365 : (Jvm.Cond.static ({ cls := "java/lang/Math", name := "min", desc := "(II)I" } : Jvm.MethodName)) ∈ am_words := am_in 365 (by decide +kernel) (by decide +kernel)
theorem wd_366 : (Jvm.Cond.code ({ cls := "java/lang/Math", name := "min", desc := "(II)I" } : Jvm.MethodName) prog_13_method_69_code (2 : Nat) (Option.some Jvm.ClassFile.FieldType.int)) ∈ am_words := am_in 366 (by decide +kernel) (by decide +kernel)
theorem wd_367 : (Jvm.Cond.methodLink "DigFill" (173 : Nat) ({ cls := "java/lang/Math", name := "max", desc := "(II)I" } : Jvm.MethodName)) ∈ am_words := am_in 367 (by decide +kernel) (by decide +kernel)
theorem wd_368 : (Jvm.Cond.static ({ cls := "java/lang/Math", name := "max", desc := "(II)I" } : Jvm.MethodName)) ∈ am_words := am_in 368 (by decide +kernel) (by decide +kernel)
theorem wd_369 : (Jvm.Cond.code ({ cls := "java/lang/Math", name := "max", desc := "(II)I" } : Jvm.MethodName) prog_13_method_65_code (2 : Nat) (Option.some Jvm.ClassFile.FieldType.int)) ∈ am_words := am_in 369 (by decide +kernel) (by decide +kernel)
theorem wd_370 : (Jvm.Cond.methodLink "DigFill$Land" (127 : Nat) ({ cls := "java/lang/Math", name := "min", desc := "(II)I" } : Jvm.MethodName)) ∈ am_words := am_in 370 (by decide +kernel) (by decide +kernel)
theorem wd_371 : (Jvm.Cond.methodLink "DigFillLaw" (40 : Nat) ({ cls := "DigFill", name := "rule", desc := "(II)I" } : Jvm.MethodName)) ∈ am_words := am_in 371 (by decide +kernel) (by decide +kernel)
theorem wd_372 : (Jvm.Cond.instanceMethod ({ cls := "DigFill", name := "rule", desc := "(II)I" } : Jvm.MethodName)) ∈ am_words := am_in 372 (by decide +kernel) (by decide +kernel)
theorem wd_373 : (Jvm.Cond.selects "DigFill" ({ cls := "DigFill", name := "rule", desc := "(II)I" } : Jvm.MethodName) ({ cls := "DigFill", name := "rule", desc := "(II)I" } : Jvm.MethodName)) ∈ am_words := am_in 373 (by decide +kernel) (by decide +kernel)
theorem wd_374 : (Jvm.Cond.code ({ cls := "DigFill", name := "rule", desc := "(II)I" } : Jvm.MethodName) prog_1_method_8_code (4 : Nat) (Option.some Jvm.ClassFile.FieldType.int)) ∈ am_words := am_in 374 (by decide +kernel) (by decide +kernel)
theorem wd_375 : (Jvm.Cond.methodLink "DigFillLaw" (44 : Nat) ({ cls := "DigFill", name := "deal", desc := "(I)I" } : Jvm.MethodName)) ∈ am_words := am_in 375 (by decide +kernel) (by decide +kernel)
theorem wd_376 : (Jvm.Cond.instanceMethod ({ cls := "DigFill", name := "deal", desc := "(I)I" } : Jvm.MethodName)) ∈ am_words := am_in 376 (by decide +kernel) (by decide +kernel)
theorem wd_377 : (Jvm.Cond.selects "DigFill" ({ cls := "DigFill", name := "deal", desc := "(I)I" } : Jvm.MethodName) ({ cls := "DigFill", name := "deal", desc := "(I)I" } : Jvm.MethodName)) ∈ am_words := am_in 377 (by decide +kernel) (by decide +kernel)
theorem wd_378 : (Jvm.Cond.code ({ cls := "DigFill", name := "deal", desc := "(I)I" } : Jvm.MethodName) prog_1_method_9_code (4 : Nat) (Option.some Jvm.ClassFile.FieldType.int)) ∈ am_words := am_in 378 (by decide +kernel) (by decide +kernel)
theorem wd_379 : (Jvm.Cond.methodLink "DigFill" (122 : Nat) ({ cls := "DigFill$Land", name := "openByLot", desc := "()V" } : Jvm.MethodName)) ∈ am_words := am_in 379 (by decide +kernel) (by decide +kernel)
theorem wd_380 : (Jvm.Cond.instanceMethod ({ cls := "DigFill$Land", name := "openByLot", desc := "()V" } : Jvm.MethodName)) ∈ am_words := am_in 380 (by decide +kernel) (by decide +kernel)
theorem wd_381 : (Jvm.Cond.selects "DigFill$Land" ({ cls := "DigFill$Land", name := "openByLot", desc := "()V" } : Jvm.MethodName) ({ cls := "DigFill$Land", name := "openByLot", desc := "()V" } : Jvm.MethodName)) ∈ am_words := am_in 381 (by decide +kernel) (by decide +kernel)
theorem wd_382 : (Jvm.Cond.code ({ cls := "DigFill$Land", name := "openByLot", desc := "()V" } : Jvm.MethodName) prog_4_method_5_code (5 : Nat) (Option.none : Option Jvm.ClassFile.FieldType)) ∈ am_words := am_in 382 (by decide +kernel) (by decide +kernel)
theorem wd_383 : (Jvm.Cond.methodLink "DigFill$Land" (77 : Nat) ({ cls := "DigFill$Land", name := "draw", desc := "()I" } : Jvm.MethodName)) ∈ am_words := am_in 383 (by decide +kernel) (by decide +kernel)
theorem wd_384 : (Jvm.Cond.instanceMethod ({ cls := "DigFill$Land", name := "draw", desc := "()I" } : Jvm.MethodName)) ∈ am_words := am_in 384 (by decide +kernel) (by decide +kernel)
theorem wd_385 : (Jvm.Cond.selects "DigFill$Land" ({ cls := "DigFill$Land", name := "draw", desc := "()I" } : Jvm.MethodName) ({ cls := "DigFill$Land", name := "draw", desc := "()I" } : Jvm.MethodName)) ∈ am_words := am_in 385 (by decide +kernel) (by decide +kernel)
theorem wd_386 : (Jvm.Cond.code ({ cls := "DigFill$Land", name := "draw", desc := "()I" } : Jvm.MethodName) prog_4_method_6_code (1 : Nat) (Option.some Jvm.ClassFile.FieldType.int)) ∈ am_words := am_in 386 (by decide +kernel) (by decide +kernel)
theorem wd_387 : (Jvm.Cond.constant "DigFill$Land" (85 : Nat) (1103515245 : Int32)) ∈ am_words := am_in 387 (by decide +kernel) (by decide +kernel)
theorem wd_388 : (Jvm.Cond.methodLink "DigFill$Land" (81 : Nat) ({ cls := "DigFill$Land", name := "open", desc := "(IIII)I" } : Jvm.MethodName)) ∈ am_words := am_in 388 (by decide +kernel) (by decide +kernel)
theorem wd_389 : (Jvm.Cond.methodLink "DigFillLaw" (49 : Nat) ({ cls := "DigFill", name := "seed", desc := "(I)I" } : Jvm.MethodName)) ∈ am_words := am_in 389 (by decide +kernel) (by decide +kernel)
theorem wd_390 : (Jvm.Cond.instanceMethod ({ cls := "DigFill", name := "seed", desc := "(I)I" } : Jvm.MethodName)) ∈ am_words := am_in 390 (by decide +kernel) (by decide +kernel)
theorem wd_391 : (Jvm.Cond.selects "DigFill" ({ cls := "DigFill", name := "seed", desc := "(I)I" } : Jvm.MethodName) ({ cls := "DigFill", name := "seed", desc := "(I)I" } : Jvm.MethodName)) ∈ am_words := am_in 391 (by decide +kernel) (by decide +kernel)
theorem wd_392 : (Jvm.Cond.code ({ cls := "DigFill", name := "seed", desc := "(I)I" } : Jvm.MethodName) prog_1_method_10_code (3 : Nat) (Option.some Jvm.ClassFile.FieldType.int)) ∈ am_words := am_in 392 (by decide +kernel) (by decide +kernel)
theorem wd_393 : (Jvm.Cond.methodLink "DigFillLaw" (53 : Nat) ({ cls := "DigFill", name := "takes", desc := "(II)I" } : Jvm.MethodName)) ∈ am_words := am_in 393 (by decide +kernel) (by decide +kernel)
theorem wd_394 : (Jvm.Cond.instanceMethod ({ cls := "DigFill", name := "takes", desc := "(II)I" } : Jvm.MethodName)) ∈ am_words := am_in 394 (by decide +kernel) (by decide +kernel)
theorem wd_395 : (Jvm.Cond.selects "DigFill" ({ cls := "DigFill", name := "takes", desc := "(II)I" } : Jvm.MethodName) ({ cls := "DigFill", name := "takes", desc := "(II)I" } : Jvm.MethodName)) ∈ am_words := am_in 395 (by decide +kernel) (by decide +kernel)
theorem wd_396 : (Jvm.Cond.code ({ cls := "DigFill", name := "takes", desc := "(II)I" } : Jvm.MethodName) prog_1_method_11_code (6 : Nat) (Option.some Jvm.ClassFile.FieldType.int)) ∈ am_words := am_in 396 (by decide +kernel) (by decide +kernel)
theorem wd_397 : (Jvm.Cond.methodLink "DigFill" (128 : Nat) ({ cls := "DigFill", name := "isSpades", desc := "(I)Z" } : Jvm.MethodName)) ∈ am_words := am_in 397 (by decide +kernel) (by decide +kernel)
theorem wd_398 : (Jvm.Cond.static ({ cls := "DigFill", name := "isSpades", desc := "(I)Z" } : Jvm.MethodName)) ∈ am_words := am_in 398 (by decide +kernel) (by decide +kernel)
theorem wd_399 : (Jvm.Cond.code ({ cls := "DigFill", name := "isSpades", desc := "(I)Z" } : Jvm.MethodName) prog_1_method_46_code (1 : Nat) (Option.some Jvm.ClassFile.FieldType.boolean)) ∈ am_words := am_in 399 (by decide +kernel) (by decide +kernel)
theorem wd_400 : (Jvm.Cond.methodLink "DigFill" (131 : Nat) ({ cls := "DigFill$Land", name := "earthOf", desc := "(I)I" } : Jvm.MethodName)) ∈ am_words := am_in 400 (by decide +kernel) (by decide +kernel)
theorem wd_401 : (Jvm.Cond.instanceMethod ({ cls := "DigFill$Land", name := "earthOf", desc := "(I)I" } : Jvm.MethodName)) ∈ am_words := am_in 401 (by decide +kernel) (by decide +kernel)
theorem wd_402 : (Jvm.Cond.selects "DigFill$Land" ({ cls := "DigFill$Land", name := "earthOf", desc := "(I)I" } : Jvm.MethodName) ({ cls := "DigFill$Land", name := "earthOf", desc := "(I)I" } : Jvm.MethodName)) ∈ am_words := am_in 402 (by decide +kernel) (by decide +kernel)
theorem wd_403 : (Jvm.Cond.code ({ cls := "DigFill$Land", name := "earthOf", desc := "(I)I" } : Jvm.MethodName) prog_4_method_8_code (2 : Nat) (Option.some Jvm.ClassFile.FieldType.int)) ∈ am_words := am_in 403 (by decide +kernel) (by decide +kernel)
theorem wd_404 : (Jvm.Cond.methodLink "DigFill" (138 : Nat) ({ cls := "DigFill$Land", name := "canFill", desc := "(LDigFill$Hole;II)Z" } : Jvm.MethodName)) ∈ am_words := am_in 404 (by decide +kernel) (by decide +kernel)
theorem wd_405 : (Jvm.Cond.instanceMethod ({ cls := "DigFill$Land", name := "canFill", desc := "(LDigFill$Hole;II)Z" } : Jvm.MethodName)) ∈ am_words := am_in 405 (by decide +kernel) (by decide +kernel)
theorem wd_406 : (Jvm.Cond.selects "DigFill$Land" ({ cls := "DigFill$Land", name := "canFill", desc := "(LDigFill$Hole;II)Z" } : Jvm.MethodName) ({ cls := "DigFill$Land", name := "canFill", desc := "(LDigFill$Hole;II)Z" } : Jvm.MethodName)) ∈ am_words := am_in 406 (by decide +kernel) (by decide +kernel)
theorem wd_407 : (Jvm.Cond.code ({ cls := "DigFill$Land", name := "canFill", desc := "(LDigFill$Hole;II)Z" } : Jvm.MethodName) prog_4_method_9_code (7 : Nat) (Option.some Jvm.ClassFile.FieldType.boolean)) ∈ am_words := am_in 407 (by decide +kernel) (by decide +kernel)
theorem wd_408 : (Jvm.Cond.methodLink "DigFill$Land" (92 : Nat) ({ cls := "java/lang/Math", name := "abs", desc := "(I)I" } : Jvm.MethodName)) ∈ am_words := am_in 408 (by decide +kernel) (by decide +kernel)
theorem wd_409 : (Jvm.Cond.static ({ cls := "java/lang/Math", name := "abs", desc := "(I)I" } : Jvm.MethodName)) ∈ am_words := am_in 409 (by decide +kernel) (by decide +kernel)
theorem wd_410 : (Jvm.Cond.code ({ cls := "java/lang/Math", name := "abs", desc := "(I)I" } : Jvm.MethodName) prog_13_method_59_code (1 : Nat) (Option.some Jvm.ClassFile.FieldType.int)) ∈ am_words := am_in 410 (by decide +kernel) (by decide +kernel)
theorem wd_411 : (Jvm.Cond.methodLink "DigFill$Land" (101 : Nat) ({ cls := "DigFill$Land", name := "isOldEnough", desc := "(LDigFill$Hole;)Z" } : Jvm.MethodName)) ∈ am_words := am_in 411 (by decide +kernel) (by decide +kernel)
theorem wd_412 : (Jvm.Cond.instanceMethod ({ cls := "DigFill$Land", name := "isOldEnough", desc := "(LDigFill$Hole;)Z" } : Jvm.MethodName)) ∈ am_words := am_in 412 (by decide +kernel) (by decide +kernel)
theorem wd_413 : (Jvm.Cond.selects "DigFill$Land" ({ cls := "DigFill$Land", name := "isOldEnough", desc := "(LDigFill$Hole;)Z" } : Jvm.MethodName) ({ cls := "DigFill$Land", name := "isOldEnough", desc := "(LDigFill$Hole;)Z" } : Jvm.MethodName)) ∈ am_words := am_in 413 (by decide +kernel) (by decide +kernel)
theorem wd_414 : (Jvm.Cond.code ({ cls := "DigFill$Land", name := "isOldEnough", desc := "(LDigFill$Hole;)Z" } : Jvm.MethodName) prog_4_method_10_code (3 : Nat) (Option.some Jvm.ClassFile.FieldType.boolean)) ∈ am_words := am_in 414 (by decide +kernel) (by decide +kernel)
theorem wd_415 : (Jvm.Cond.methodLink "DigFillLaw" (57 : Nat) ({ cls := "DigFill", name := "dig", desc := "(IIII)I" } : Jvm.MethodName)) ∈ am_words := am_in 415 (by decide +kernel) (by decide +kernel)
theorem wd_416 : (Jvm.Cond.instanceMethod ({ cls := "DigFill", name := "dig", desc := "(IIII)I" } : Jvm.MethodName)) ∈ am_words := am_in 416 (by decide +kernel) (by decide +kernel)
theorem wd_417 : (Jvm.Cond.selects "DigFill" ({ cls := "DigFill", name := "dig", desc := "(IIII)I" } : Jvm.MethodName) ({ cls := "DigFill", name := "dig", desc := "(IIII)I" } : Jvm.MethodName)) ∈ am_words := am_in 417 (by decide +kernel) (by decide +kernel)
theorem wd_418 : (Jvm.Cond.code ({ cls := "DigFill", name := "dig", desc := "(IIII)I" } : Jvm.MethodName) prog_1_method_12_code (8 : Nat) (Option.some Jvm.ClassFile.FieldType.int)) ∈ am_words := am_in 418 (by decide +kernel) (by decide +kernel)
theorem wd_419 : (Jvm.Cond.constant "DigFill" (142 : Nat) (-1000000002 : Int32)) ∈ am_words := am_in 419 (by decide +kernel) (by decide +kernel)
theorem wd_420 : (Jvm.Cond.methodLink "DigFill" (143 : Nat) ({ cls := "DigFill$Land", name := "roomAfter", desc := "(LDigFill$Hole;I)I" } : Jvm.MethodName)) ∈ am_words := am_in 420 (by decide +kernel) (by decide +kernel)
theorem wd_421 : (Jvm.Cond.instanceMethod ({ cls := "DigFill$Land", name := "roomAfter", desc := "(LDigFill$Hole;I)I" } : Jvm.MethodName)) ∈ am_words := am_in 421 (by decide +kernel) (by decide +kernel)
theorem wd_422 : (Jvm.Cond.selects "DigFill$Land" ({ cls := "DigFill$Land", name := "roomAfter", desc := "(LDigFill$Hole;I)I" } : Jvm.MethodName) ({ cls := "DigFill$Land", name := "roomAfter", desc := "(LDigFill$Hole;I)I" } : Jvm.MethodName)) ∈ am_words := am_in 422 (by decide +kernel) (by decide +kernel)
theorem wd_423 : (Jvm.Cond.code ({ cls := "DigFill$Land", name := "roomAfter", desc := "(LDigFill$Hole;I)I" } : Jvm.MethodName) prog_4_method_7_code (5 : Nat) (Option.some Jvm.ClassFile.FieldType.int)) ∈ am_words := am_in 423 (by decide +kernel) (by decide +kernel)
theorem wd_424 : (Jvm.Cond.methodLink "DigFill" (149 : Nat) ({ cls := "DigFill$Hole", name := "start", desc := "(IIII)V" } : Jvm.MethodName)) ∈ am_words := am_in 424 (by decide +kernel) (by decide +kernel)
theorem wd_425 : (Jvm.Cond.methodLink "DigFillLaw" (61 : Nat) ({ cls := "DigFill", name := "want", desc := "(II)I" } : Jvm.MethodName)) ∈ am_words := am_in 425 (by decide +kernel) (by decide +kernel)
theorem wd_426 : (Jvm.Cond.instanceMethod ({ cls := "DigFill", name := "want", desc := "(II)I" } : Jvm.MethodName)) ∈ am_words := am_in 426 (by decide +kernel) (by decide +kernel)
theorem wd_427 : (Jvm.Cond.selects "DigFill" ({ cls := "DigFill", name := "want", desc := "(II)I" } : Jvm.MethodName) ({ cls := "DigFill", name := "want", desc := "(II)I" } : Jvm.MethodName)) ∈ am_words := am_in 427 (by decide +kernel) (by decide +kernel)
theorem wd_428 : (Jvm.Cond.code ({ cls := "DigFill", name := "want", desc := "(II)I" } : Jvm.MethodName) prog_1_method_13_code (4 : Nat) (Option.some Jvm.ClassFile.FieldType.int)) ∈ am_words := am_in 428 (by decide +kernel) (by decide +kernel)
theorem wd_429 : (Jvm.Cond.methodLink "DigFillLaw" (65 : Nat) ({ cls := "DigFill", name := "forget", desc := "()I" } : Jvm.MethodName)) ∈ am_words := am_in 429 (by decide +kernel) (by decide +kernel)
theorem wd_430 : (Jvm.Cond.instanceMethod ({ cls := "DigFill", name := "forget", desc := "()I" } : Jvm.MethodName)) ∈ am_words := am_in 430 (by decide +kernel) (by decide +kernel)
theorem wd_431 : (Jvm.Cond.selects "DigFill" ({ cls := "DigFill", name := "forget", desc := "()I" } : Jvm.MethodName) ({ cls := "DigFill", name := "forget", desc := "()I" } : Jvm.MethodName)) ∈ am_words := am_in 431 (by decide +kernel) (by decide +kernel)
theorem wd_432 : (Jvm.Cond.code ({ cls := "DigFill", name := "forget", desc := "()I" } : Jvm.MethodName) prog_1_method_14_code (2 : Nat) (Option.some Jvm.ClassFile.FieldType.int)) ∈ am_words := am_in 432 (by decide +kernel) (by decide +kernel)
theorem wd_433 : (Jvm.Cond.methodLink "DigFillLaw" (70 : Nat) ({ cls := "DigFill", name := "dealing", desc := "(I)I" } : Jvm.MethodName)) ∈ am_words := am_in 433 (by decide +kernel) (by decide +kernel)
theorem wd_434 : (Jvm.Cond.instanceMethod ({ cls := "DigFill", name := "dealing", desc := "(I)I" } : Jvm.MethodName)) ∈ am_words := am_in 434 (by decide +kernel) (by decide +kernel)
theorem wd_435 : (Jvm.Cond.selects "DigFill" ({ cls := "DigFill", name := "dealing", desc := "(I)I" } : Jvm.MethodName) ({ cls := "DigFill", name := "dealing", desc := "(I)I" } : Jvm.MethodName)) ∈ am_words := am_in 435 (by decide +kernel) (by decide +kernel)
theorem wd_436 : (Jvm.Cond.code ({ cls := "DigFill", name := "dealing", desc := "(I)I" } : Jvm.MethodName) prog_1_method_15_code (3 : Nat) (Option.some Jvm.ClassFile.FieldType.int)) ∈ am_words := am_in 436 (by decide +kernel) (by decide +kernel)
theorem wd_437 : (Jvm.Cond.methodLink "DigFill" (162 : Nat) ({ cls := "DigFill$Dealer", name := "solve", desc := "(LDigFill$Land;II)I" } : Jvm.MethodName)) ∈ am_words := am_in 437 (by decide +kernel) (by decide +kernel)
theorem wd_438 : (Jvm.Cond.instanceMethod ({ cls := "DigFill$Dealer", name := "solve", desc := "(LDigFill$Land;II)I" } : Jvm.MethodName)) ∈ am_words := am_in 438 (by decide +kernel) (by decide +kernel)
theorem wd_439 : (Jvm.Cond.selects "DigFill$Dealer" ({ cls := "DigFill$Dealer", name := "solve", desc := "(LDigFill$Land;II)I" } : Jvm.MethodName) ({ cls := "DigFill$Dealer", name := "solve", desc := "(LDigFill$Land;II)I" } : Jvm.MethodName)) ∈ am_words := am_in 439 (by decide +kernel) (by decide +kernel)
theorem wd_440 : (Jvm.Cond.code ({ cls := "DigFill$Dealer", name := "solve", desc := "(LDigFill$Land;II)I" } : Jvm.MethodName) prog_2_method_2_code (5 : Nat) (Option.some Jvm.ClassFile.FieldType.int)) ∈ am_words := am_in 440 (by decide +kernel) (by decide +kernel)
theorem wd_441 : (Jvm.Cond.constantLong "DigFill$Dealer" (31 : Nat) (4611686018427387904 : Int64)) ∈ am_words := am_in 441 (by decide +kernel) (by decide +kernel)
theorem wd_442 : (Jvm.Cond.methodLink "DigFill$Dealer" (33 : Nat) ({ cls := "java/util/Arrays", name := "fill", desc := "([JJ)V" } : Jvm.MethodName)) ∈ am_words := am_in 442 (by decide +kernel) (by decide +kernel)
theorem wd_443 : (Jvm.Cond.static ({ cls := "java/util/Arrays", name := "fill", desc := "([JJ)V" } : Jvm.MethodName)) ∈ am_words := am_in 443 (by decide +kernel) (by decide +kernel)
theorem wd_444 : (Jvm.Cond.code ({ cls := "java/util/Arrays", name := "fill", desc := "([JJ)V" } : Jvm.MethodName) prog_18_method_101_code (5 : Nat) (Option.none : Option Jvm.ClassFile.FieldType)) ∈ am_words := am_in 444 (by decide +kernel) (by decide +kernel)
theorem wd_445 : (Jvm.Cond.constantLong "DigFill$Dealer" (39 : Nat) (310023175 : Int64)) ∈ am_words := am_in 445 (by decide +kernel) (by decide +kernel)
theorem wd_446 : (Jvm.Cond.constantLong "DigFill$Dealer" (41 : Nat) (10 : Int64)) ∈ am_words := am_in 446 (by decide +kernel) (by decide +kernel)
theorem wd_447 : (Jvm.Cond.fieldLink "DigFill$Dealer" (43 : Nat) "DigFill$Dealer" "DIGITS" "[J") ∈ am_words := am_in 447 (by decide +kernel) (by decide +kernel)
theorem wd_449 : (Jvm.Cond.methodLink "DigFill$Dealer" (49 : Nat) ({ cls := "DigFill$Dealer", name := "price", desc := "(LDigFill$Land;II)V" } : Jvm.MethodName)) ∈ am_words := am_in 449 (by decide +kernel) (by decide +kernel)
theorem wd_451 : (Jvm.Cond.instanceMethod ({ cls := "DigFill$Dealer", name := "price", desc := "(LDigFill$Land;II)V" } : Jvm.MethodName)) ∈ am_words := am_in 451 (by decide +kernel) (by decide +kernel)
theorem wd_452 : (Jvm.Cond.code ({ cls := "DigFill$Dealer", name := "price", desc := "(LDigFill$Land;II)V" } : Jvm.MethodName) prog_2_method_3_code (8 : Nat) (Option.none : Option Jvm.ClassFile.FieldType)) ∈ am_words := am_in 452 (by decide +kernel) (by decide +kernel)
theorem wd_453 : (Jvm.Cond.methodLink "DigFill$Dealer" (69 : Nat) ({ cls := "DigFill$Land", name := "earthOf", desc := "(I)I" } : Jvm.MethodName)) ∈ am_words := am_in 453 (by decide +kernel) (by decide +kernel)
theorem wd_454 : (Jvm.Cond.methodLink "DigFill$Dealer" (77 : Nat) ({ cls := "DigFill$Land", name := "canFill", desc := "(LDigFill$Hole;II)Z" } : Jvm.MethodName)) ∈ am_words := am_in 454 (by decide +kernel) (by decide +kernel)
theorem wd_455 : (Jvm.Cond.methodLink "DigFill$Dealer" (86 : Nat) ({ cls := "java/lang/Math", name := "abs", desc := "(I)I" } : Jvm.MethodName)) ∈ am_words := am_in 455 (by decide +kernel) (by decide +kernel)
theorem wd_456 : (Jvm.Cond.constantLong "DigFill$Dealer" (89 : Nat) (1771561 : Int64)) ∈ am_words := am_in 456 (by decide +kernel) (by decide +kernel)
theorem wd_457 : (Jvm.Cond.methodLink "DigFill$Dealer" (53 : Nat) ({ cls := "DigFill$Dealer", name := "offer", desc := "()V" } : Jvm.MethodName)) ∈ am_words := am_in 457 (by decide +kernel) (by decide +kernel)
theorem wd_459 : (Jvm.Cond.instanceMethod ({ cls := "DigFill$Dealer", name := "offer", desc := "()V" } : Jvm.MethodName)) ∈ am_words := am_in 459 (by decide +kernel) (by decide +kernel)
theorem wd_460 : (Jvm.Cond.code ({ cls := "DigFill$Dealer", name := "offer", desc := "()V" } : Jvm.MethodName) prog_2_method_4_code (4 : Nat) (Option.none : Option Jvm.ClassFile.FieldType)) ∈ am_words := am_in 460 (by decide +kernel) (by decide +kernel)
theorem wd_461 : (Jvm.Cond.methodLink "DigFill$Dealer" (56 : Nat) ({ cls := "java/lang/Math", name := "min", desc := "(JJ)J" } : Jvm.MethodName)) ∈ am_words := am_in 461 (by decide +kernel) (by decide +kernel)
theorem wd_462 : (Jvm.Cond.static ({ cls := "java/lang/Math", name := "min", desc := "(JJ)J" } : Jvm.MethodName)) ∈ am_words := am_in 462 (by decide +kernel) (by decide +kernel)
theorem wd_463 : (Jvm.Cond.code ({ cls := "java/lang/Math", name := "min", desc := "(JJ)J" } : Jvm.MethodName) prog_13_method_70_code (4 : Nat) (Option.some Jvm.ClassFile.FieldType.long)) ∈ am_words := am_in 463 (by decide +kernel) (by decide +kernel)
theorem wd_464 : (Jvm.Cond.methodLink "DigFill" (166 : Nat) ({ cls := "DigFill$Dealer", name := "miles", desc := "()I" } : Jvm.MethodName)) ∈ am_words := am_in 464 (by decide +kernel) (by decide +kernel)
theorem wd_465 : (Jvm.Cond.instanceMethod ({ cls := "DigFill$Dealer", name := "miles", desc := "()I" } : Jvm.MethodName)) ∈ am_words := am_in 465 (by decide +kernel) (by decide +kernel)
theorem wd_466 : (Jvm.Cond.selects "DigFill$Dealer" ({ cls := "DigFill$Dealer", name := "miles", desc := "()I" } : Jvm.MethodName) ({ cls := "DigFill$Dealer", name := "miles", desc := "()I" } : Jvm.MethodName)) ∈ am_words := am_in 466 (by decide +kernel) (by decide +kernel)
theorem wd_467 : (Jvm.Cond.code ({ cls := "DigFill$Dealer", name := "miles", desc := "()I" } : Jvm.MethodName) prog_2_method_5_code (1 : Nat) (Option.some Jvm.ClassFile.FieldType.int)) ∈ am_words := am_in 467 (by decide +kernel) (by decide +kernel)
theorem wd_468 : (Jvm.Cond.methodLink "DigFill" (170 : Nat) ({ cls := "DigFill$Dealer", name := "holeOf", desc := "(I)I" } : Jvm.MethodName)) ∈ am_words := am_in 468 (by decide +kernel) (by decide +kernel)
theorem wd_469 : (Jvm.Cond.instanceMethod ({ cls := "DigFill$Dealer", name := "holeOf", desc := "(I)I" } : Jvm.MethodName)) ∈ am_words := am_in 469 (by decide +kernel) (by decide +kernel)
theorem wd_470 : (Jvm.Cond.selects "DigFill$Dealer" ({ cls := "DigFill$Dealer", name := "holeOf", desc := "(I)I" } : Jvm.MethodName) ({ cls := "DigFill$Dealer", name := "holeOf", desc := "(I)I" } : Jvm.MethodName)) ∈ am_words := am_in 470 (by decide +kernel) (by decide +kernel)
theorem wd_471 : (Jvm.Cond.code ({ cls := "DigFill$Dealer", name := "holeOf", desc := "(I)I" } : Jvm.MethodName) prog_2_method_6_code (3 : Nat) (Option.some Jvm.ClassFile.FieldType.int)) ∈ am_words := am_in 471 (by decide +kernel) (by decide +kernel)
theorem wd_472 : (Jvm.Cond.constant "DigFill$Dealer" (91 : Nat) (-1000000005 : Int32)) ∈ am_words := am_in 472 (by decide +kernel) (by decide +kernel)
theorem wd_473 : (Jvm.Cond.constantLong "DigFill$Dealer" (92 : Nat) (11 : Int64)) ∈ am_words := am_in 473 (by decide +kernel) (by decide +kernel)
theorem wd_474 : (Jvm.Cond.methodLink "DigFillLaw" (74 : Nat) ({ cls := "DigFill", name := "adds", desc := "(I)I" } : Jvm.MethodName)) ∈ am_words := am_in 474 (by decide +kernel) (by decide +kernel)
theorem wd_475 : (Jvm.Cond.instanceMethod ({ cls := "DigFill", name := "adds", desc := "(I)I" } : Jvm.MethodName)) ∈ am_words := am_in 475 (by decide +kernel) (by decide +kernel)
theorem wd_476 : (Jvm.Cond.selects "DigFill" ({ cls := "DigFill", name := "adds", desc := "(I)I" } : Jvm.MethodName) ({ cls := "DigFill", name := "adds", desc := "(I)I" } : Jvm.MethodName)) ∈ am_words := am_in 476 (by decide +kernel) (by decide +kernel)
theorem wd_477 : (Jvm.Cond.code ({ cls := "DigFill", name := "adds", desc := "(I)I" } : Jvm.MethodName) prog_1_method_16_code (2 : Nat) (Option.some Jvm.ClassFile.FieldType.int)) ∈ am_words := am_in 477 (by decide +kernel) (by decide +kernel)
theorem wd_478 : (Jvm.Cond.methodLink "DigFillLaw" (78 : Nat) ({ cls := "DigFill", name := "frees", desc := "(I)I" } : Jvm.MethodName)) ∈ am_words := am_in 478 (by decide +kernel) (by decide +kernel)
theorem wd_479 : (Jvm.Cond.instanceMethod ({ cls := "DigFill", name := "frees", desc := "(I)I" } : Jvm.MethodName)) ∈ am_words := am_in 479 (by decide +kernel) (by decide +kernel)
theorem wd_480 : (Jvm.Cond.selects "DigFill" ({ cls := "DigFill", name := "frees", desc := "(I)I" } : Jvm.MethodName) ({ cls := "DigFill", name := "frees", desc := "(I)I" } : Jvm.MethodName)) ∈ am_words := am_in 480 (by decide +kernel) (by decide +kernel)
theorem wd_481 : (Jvm.Cond.code ({ cls := "DigFill", name := "frees", desc := "(I)I" } : Jvm.MethodName) prog_1_method_17_code (7 : Nat) (Option.some Jvm.ClassFile.FieldType.int)) ∈ am_words := am_in 481 (by decide +kernel) (by decide +kernel)
theorem wd_482 : (Jvm.Cond.methodLink "DigFill" (176 : Nat) ({ cls := "java/lang/Math", name := "abs", desc := "(I)I" } : Jvm.MethodName)) ∈ am_words := am_in 482 (by decide +kernel) (by decide +kernel)
theorem wd_483 : (Jvm.Cond.constant "DigFill" (179 : Nat) (-1000000005 : Int32)) ∈ am_words := am_in 483 (by decide +kernel) (by decide +kernel)
theorem wd_484 : (Jvm.Cond.methodLink "DigFillLaw" (82 : Nat) ({ cls := "DigFill", name := "days", desc := "(I)I" } : Jvm.MethodName)) ∈ am_words := am_in 484 (by decide +kernel) (by decide +kernel)
theorem wd_485 : (Jvm.Cond.instanceMethod ({ cls := "DigFill", name := "days", desc := "(I)I" } : Jvm.MethodName)) ∈ am_words := am_in 485 (by decide +kernel) (by decide +kernel)
theorem wd_486 : (Jvm.Cond.selects "DigFill" ({ cls := "DigFill", name := "days", desc := "(I)I" } : Jvm.MethodName) ({ cls := "DigFill", name := "days", desc := "(I)I" } : Jvm.MethodName)) ∈ am_words := am_in 486 (by decide +kernel) (by decide +kernel)
theorem wd_487 : (Jvm.Cond.code ({ cls := "DigFill", name := "days", desc := "(I)I" } : Jvm.MethodName) prog_1_method_18_code (4 : Nat) (Option.some Jvm.ClassFile.FieldType.int)) ∈ am_words := am_in 487 (by decide +kernel) (by decide +kernel)
theorem wd_488 : (Jvm.Cond.methodLink "DigFill" (183 : Nat) ({ cls := "DigFill$Land", name := "passDay", desc := "()V" } : Jvm.MethodName)) ∈ am_words := am_in 488 (by decide +kernel) (by decide +kernel)
theorem wd_489 : (Jvm.Cond.instanceMethod ({ cls := "DigFill$Land", name := "passDay", desc := "()V" } : Jvm.MethodName)) ∈ am_words := am_in 489 (by decide +kernel) (by decide +kernel)
theorem wd_490 : (Jvm.Cond.selects "DigFill$Land" ({ cls := "DigFill$Land", name := "passDay", desc := "()V" } : Jvm.MethodName) ({ cls := "DigFill$Land", name := "passDay", desc := "()V" } : Jvm.MethodName)) ∈ am_words := am_in 490 (by decide +kernel) (by decide +kernel)
theorem wd_491 : (Jvm.Cond.code ({ cls := "DigFill$Land", name := "passDay", desc := "()V" } : Jvm.MethodName) prog_4_method_13_code (4 : Nat) (Option.none : Option Jvm.ClassFile.FieldType)) ∈ am_words := am_in 491 (by decide +kernel) (by decide +kernel)
theorem wd_492 : (Jvm.Cond.methodLink "DigFill$Land" (130 : Nat) ({ cls := "DigFill$Land", name := "sinks", desc := "(LDigFill$Hole;I)I" } : Jvm.MethodName)) ∈ am_words := am_in 492 (by decide +kernel) (by decide +kernel)
theorem wd_493 : (Jvm.Cond.methodLink "DigFill" (186 : Nat) ({ cls := "DigFill$Land", name := "filledCount", desc := "()I" } : Jvm.MethodName)) ∈ am_words := am_in 493 (by decide +kernel) (by decide +kernel)
theorem wd_494 : (Jvm.Cond.instanceMethod ({ cls := "DigFill$Land", name := "filledCount", desc := "()I" } : Jvm.MethodName)) ∈ am_words := am_in 494 (by decide +kernel) (by decide +kernel)
theorem wd_495 : (Jvm.Cond.selects "DigFill$Land" ({ cls := "DigFill$Land", name := "filledCount", desc := "()I" } : Jvm.MethodName) ({ cls := "DigFill$Land", name := "filledCount", desc := "()I" } : Jvm.MethodName)) ∈ am_words := am_in 495 (by decide +kernel) (by decide +kernel)
theorem wd_496 : (Jvm.Cond.code ({ cls := "DigFill$Land", name := "filledCount", desc := "()I" } : Jvm.MethodName) prog_4_method_14_code (3 : Nat) (Option.some Jvm.ClassFile.FieldType.int)) ∈ am_words := am_in 496 (by decide +kernel) (by decide +kernel)
theorem wd_497 : (Jvm.Cond.methodLink "DigFillLaw" (86 : Nat) ({ cls := "DigFill", name := "behind", desc := "(II)I" } : Jvm.MethodName)) ∈ am_words := am_in 497 (by decide +kernel) (by decide +kernel)
theorem wd_498 : (Jvm.Cond.instanceMethod ({ cls := "DigFill", name := "behind", desc := "(II)I" } : Jvm.MethodName)) ∈ am_words := am_in 498 (by decide +kernel) (by decide +kernel)
theorem wd_499 : (Jvm.Cond.selects "DigFill" ({ cls := "DigFill", name := "behind", desc := "(II)I" } : Jvm.MethodName) ({ cls := "DigFill", name := "behind", desc := "(II)I" } : Jvm.MethodName)) ∈ am_words := am_in 499 (by decide +kernel) (by decide +kernel)
theorem wd_500 : (Jvm.Cond.code ({ cls := "DigFill", name := "behind", desc := "(II)I" } : Jvm.MethodName) prog_1_method_19_code (4 : Nat) (Option.some Jvm.ClassFile.FieldType.int)) ∈ am_words := am_in 500 (by decide +kernel) (by decide +kernel)
theorem wd_501 : (Jvm.Cond.methodLink "DigFill" (189 : Nat) ({ cls := "DigFill$Land", name := "become", desc := "(LDigFill$Land;)V" } : Jvm.MethodName)) ∈ am_words := am_in 501 (by decide +kernel) (by decide +kernel)
theorem wd_502 : (Jvm.Cond.instanceMethod ({ cls := "DigFill$Land", name := "become", desc := "(LDigFill$Land;)V" } : Jvm.MethodName)) ∈ am_words := am_in 502 (by decide +kernel) (by decide +kernel)
theorem wd_503 : (Jvm.Cond.selects "DigFill$Land" ({ cls := "DigFill$Land", name := "become", desc := "(LDigFill$Land;)V" } : Jvm.MethodName) ({ cls := "DigFill$Land", name := "become", desc := "(LDigFill$Land;)V" } : Jvm.MethodName)) ∈ am_words := am_in 503 (by decide +kernel) (by decide +kernel)
theorem wd_504 : (Jvm.Cond.code ({ cls := "DigFill$Land", name := "become", desc := "(LDigFill$Land;)V" } : Jvm.MethodName) prog_4_method_2_code (3 : Nat) (Option.none : Option Jvm.ClassFile.FieldType)) ∈ am_words := am_in 504 (by decide +kernel) (by decide +kernel)
theorem wd_505 : (Jvm.Cond.methodLink "DigFill$Land" (62 : Nat) ({ cls := "DigFill$Hole", name := "become", desc := "(LDigFill$Hole;)V" } : Jvm.MethodName)) ∈ am_words := am_in 505 (by decide +kernel) (by decide +kernel)
theorem wd_506 : (Jvm.Cond.instanceMethod ({ cls := "DigFill$Hole", name := "become", desc := "(LDigFill$Hole;)V" } : Jvm.MethodName)) ∈ am_words := am_in 506 (by decide +kernel) (by decide +kernel)
theorem wd_507 : (Jvm.Cond.selects "DigFill$Hole" ({ cls := "DigFill$Hole", name := "become", desc := "(LDigFill$Hole;)V" } : Jvm.MethodName) ({ cls := "DigFill$Hole", name := "become", desc := "(LDigFill$Hole;)V" } : Jvm.MethodName)) ∈ am_words := am_in 507 (by decide +kernel) (by decide +kernel)
theorem wd_508 : (Jvm.Cond.code ({ cls := "DigFill$Hole", name := "become", desc := "(LDigFill$Hole;)V" } : Jvm.MethodName) prog_3_method_3_code (2 : Nat) (Option.none : Option Jvm.ClassFile.FieldType)) ∈ am_words := am_in 508 (by decide +kernel) (by decide +kernel)
theorem wd_509 : (Jvm.Cond.methodLink "DigFill$Hole" (27 : Nat) ({ cls := "DigFill$Hole", name := "start", desc := "(IIII)V" } : Jvm.MethodName)) ∈ am_words := am_in 509 (by decide +kernel) (by decide +kernel)
theorem wd_510 : (Jvm.Cond.methodLink "DigFill$Land" (66 : Nat) ({ cls := "java/lang/System", name := "arraycopy", desc := "(Ljava/lang/Object;ILjava/lang/Object;II)V" } : Jvm.MethodName)) ∈ am_words := am_in 510 (by decide +kernel) (by decide +kernel)
theorem wd_511 : (Jvm.Cond.static ({ cls := "java/lang/System", name := "arraycopy", desc := "(Ljava/lang/Object;ILjava/lang/Object;II)V" } : Jvm.MethodName)) ∈ am_words := am_in 511 (by decide +kernel) (by decide +kernel)
theorem wd_512 : (Jvm.Cond.native ({ cls := "java/lang/System", name := "arraycopy", desc := "(Ljava/lang/Object;ILjava/lang/Object;II)V" } : Jvm.MethodName)) ∈ am_words := am_in 512 (by decide +kernel) (by decide +kernel)
theorem wd_513 : (Jvm.Cond.methodLink "DigFill" (193 : Nat) ({ cls := "DigFill$Land", name := "depthSum", desc := "()I" } : Jvm.MethodName)) ∈ am_words := am_in 513 (by decide +kernel) (by decide +kernel)
theorem wd_514 : (Jvm.Cond.instanceMethod ({ cls := "DigFill$Land", name := "depthSum", desc := "()I" } : Jvm.MethodName)) ∈ am_words := am_in 514 (by decide +kernel) (by decide +kernel)
theorem wd_515 : (Jvm.Cond.selects "DigFill$Land" ({ cls := "DigFill$Land", name := "depthSum", desc := "()I" } : Jvm.MethodName) ({ cls := "DigFill$Land", name := "depthSum", desc := "()I" } : Jvm.MethodName)) ∈ am_words := am_in 515 (by decide +kernel) (by decide +kernel)
theorem wd_516 : (Jvm.Cond.code ({ cls := "DigFill$Land", name := "depthSum", desc := "()I" } : Jvm.MethodName) prog_4_method_15_code (3 : Nat) (Option.some Jvm.ClassFile.FieldType.int)) ∈ am_words := am_in 516 (by decide +kernel) (by decide +kernel)
theorem wd_517 : (Jvm.Cond.methodLink "DigFillLaw" (90 : Nat) ({ cls := "DigFill", name := "paid", desc := "()I" } : Jvm.MethodName)) ∈ am_words := am_in 517 (by decide +kernel) (by decide +kernel)
theorem wd_518 : (Jvm.Cond.instanceMethod ({ cls := "DigFill", name := "paid", desc := "()I" } : Jvm.MethodName)) ∈ am_words := am_in 518 (by decide +kernel) (by decide +kernel)
theorem wd_519 : (Jvm.Cond.selects "DigFill" ({ cls := "DigFill", name := "paid", desc := "()I" } : Jvm.MethodName) ({ cls := "DigFill", name := "paid", desc := "()I" } : Jvm.MethodName)) ∈ am_words := am_in 519 (by decide +kernel) (by decide +kernel)
theorem wd_520 : (Jvm.Cond.code ({ cls := "DigFill", name := "paid", desc := "()I" } : Jvm.MethodName) prog_1_method_20_code (2 : Nat) (Option.some Jvm.ClassFile.FieldType.int)) ∈ am_words := am_in 520 (by decide +kernel) (by decide +kernel)
theorem wd_521 : (Jvm.Cond.methodLink "DigFillLaw" (94 : Nat) ({ cls := "DigFill", name := "best", desc := "(II)I" } : Jvm.MethodName)) ∈ am_words := am_in 521 (by decide +kernel) (by decide +kernel)
theorem wd_522 : (Jvm.Cond.instanceMethod ({ cls := "DigFill", name := "best", desc := "(II)I" } : Jvm.MethodName)) ∈ am_words := am_in 522 (by decide +kernel) (by decide +kernel)
theorem wd_523 : (Jvm.Cond.selects "DigFill" ({ cls := "DigFill", name := "best", desc := "(II)I" } : Jvm.MethodName) ({ cls := "DigFill", name := "best", desc := "(II)I" } : Jvm.MethodName)) ∈ am_words := am_in 523 (by decide +kernel) (by decide +kernel)
theorem wd_524 : (Jvm.Cond.code ({ cls := "DigFill", name := "best", desc := "(II)I" } : Jvm.MethodName) prog_1_method_21_code (7 : Nat) (Option.some Jvm.ClassFile.FieldType.int)) ∈ am_words := am_in 524 (by decide +kernel) (by decide +kernel)
theorem wd_525 : (Jvm.Cond.methodLink "DigFillLaw" (98 : Nat) ({ cls := "DigFill", name := "owes", desc := "(I)I" } : Jvm.MethodName)) ∈ am_words := am_in 525 (by decide +kernel) (by decide +kernel)
theorem wd_526 : (Jvm.Cond.instanceMethod ({ cls := "DigFill", name := "owes", desc := "(I)I" } : Jvm.MethodName)) ∈ am_words := am_in 526 (by decide +kernel) (by decide +kernel)
theorem wd_527 : (Jvm.Cond.selects "DigFill" ({ cls := "DigFill", name := "owes", desc := "(I)I" } : Jvm.MethodName) ({ cls := "DigFill", name := "owes", desc := "(I)I" } : Jvm.MethodName)) ∈ am_words := am_in 527 (by decide +kernel) (by decide +kernel)
theorem wd_528 : (Jvm.Cond.code ({ cls := "DigFill", name := "owes", desc := "(I)I" } : Jvm.MethodName) prog_1_method_22_code (2 : Nat) (Option.some Jvm.ClassFile.FieldType.int)) ∈ am_words := am_in 528 (by decide +kernel) (by decide +kernel)
theorem wd_529 : (Jvm.Cond.methodLink "DigFill" (196 : Nat) ({ cls := "DigFill$Land", name := "debtOf", desc := "(I)I" } : Jvm.MethodName)) ∈ am_words := am_in 529 (by decide +kernel) (by decide +kernel)
theorem wd_530 : (Jvm.Cond.instanceMethod ({ cls := "DigFill$Land", name := "debtOf", desc := "(I)I" } : Jvm.MethodName)) ∈ am_words := am_in 530 (by decide +kernel) (by decide +kernel)
theorem wd_531 : (Jvm.Cond.selects "DigFill$Land" ({ cls := "DigFill$Land", name := "debtOf", desc := "(I)I" } : Jvm.MethodName) ({ cls := "DigFill$Land", name := "debtOf", desc := "(I)I" } : Jvm.MethodName)) ∈ am_words := am_in 531 (by decide +kernel) (by decide +kernel)
theorem wd_532 : (Jvm.Cond.code ({ cls := "DigFill$Land", name := "debtOf", desc := "(I)I" } : Jvm.MethodName) prog_4_method_16_code (4 : Nat) (Option.some Jvm.ClassFile.FieldType.int)) ∈ am_words := am_in 532 (by decide +kernel) (by decide +kernel)
theorem wd_533 : (Jvm.Cond.methodLink "DigFillLaw" (102 : Nat) ({ cls := "DigFill", name := "debtor", desc := "()I" } : Jvm.MethodName)) ∈ am_words := am_in 533 (by decide +kernel) (by decide +kernel)
theorem wd_534 : (Jvm.Cond.instanceMethod ({ cls := "DigFill", name := "debtor", desc := "()I" } : Jvm.MethodName)) ∈ am_words := am_in 534 (by decide +kernel) (by decide +kernel)
theorem wd_535 : (Jvm.Cond.selects "DigFill" ({ cls := "DigFill", name := "debtor", desc := "()I" } : Jvm.MethodName) ({ cls := "DigFill", name := "debtor", desc := "()I" } : Jvm.MethodName)) ∈ am_words := am_in 535 (by decide +kernel) (by decide +kernel)
theorem wd_536 : (Jvm.Cond.code ({ cls := "DigFill", name := "debtor", desc := "()I" } : Jvm.MethodName) prog_1_method_23_code (3 : Nat) (Option.some Jvm.ClassFile.FieldType.int)) ∈ am_words := am_in 536 (by decide +kernel) (by decide +kernel)
theorem wd_537 : (Jvm.Cond.methodLink "DigFillLaw" (106 : Nat) ({ cls := "DigFill", name := "dug", desc := "(II)I" } : Jvm.MethodName)) ∈ am_words := am_in 537 (by decide +kernel) (by decide +kernel)
theorem wd_538 : (Jvm.Cond.instanceMethod ({ cls := "DigFill", name := "dug", desc := "(II)I" } : Jvm.MethodName)) ∈ am_words := am_in 538 (by decide +kernel) (by decide +kernel)
theorem wd_539 : (Jvm.Cond.selects "DigFill" ({ cls := "DigFill", name := "dug", desc := "(II)I" } : Jvm.MethodName) ({ cls := "DigFill", name := "dug", desc := "(II)I" } : Jvm.MethodName)) ∈ am_words := am_in 539 (by decide +kernel) (by decide +kernel)
theorem wd_540 : (Jvm.Cond.code ({ cls := "DigFill", name := "dug", desc := "(II)I" } : Jvm.MethodName) prog_1_method_24_code (6 : Nat) (Option.some Jvm.ClassFile.FieldType.int)) ∈ am_words := am_in 540 (by decide +kernel) (by decide +kernel)
theorem wd_541 : (Jvm.Cond.methodLink "DigFill" (199 : Nat) ({ cls := "DigFill", name := "sheetAt", desc := "(I)LDigFill$Sheet;" } : Jvm.MethodName)) ∈ am_words := am_in 541 (by decide +kernel) (by decide +kernel)
theorem wd_543 : (Jvm.Cond.instanceMethod ({ cls := "DigFill", name := "sheetAt", desc := "(I)LDigFill$Sheet;" } : Jvm.MethodName)) ∈ am_words := am_in 543 (by decide +kernel) (by decide +kernel)
theorem wd_544 : (Jvm.Cond.code ({ cls := "DigFill", name := "sheetAt", desc := "(I)LDigFill$Sheet;" } : Jvm.MethodName) prog_1_method_50_code (2 : Nat) (Option.some (Jvm.ClassFile.FieldType.object "DigFill$Sheet"))) ∈ am_words := am_in 544 (by decide +kernel) (by decide +kernel)
theorem wd_545 : (Jvm.Cond.constant "DigFill" (206 : Nat) (-1000000011 : Int32)) ∈ am_words := am_in 545 (by decide +kernel) (by decide +kernel)
theorem wd_546 : (Jvm.Cond.methodLink "DigFill" (207 : Nat) ({ cls := "DigFill", name := "addDifferences", desc := "(LDigFill$Sheet;)V" } : Jvm.MethodName)) ∈ am_words := am_in 546 (by decide +kernel) (by decide +kernel)
theorem wd_548 : (Jvm.Cond.instanceMethod ({ cls := "DigFill", name := "addDifferences", desc := "(LDigFill$Sheet;)V" } : Jvm.MethodName)) ∈ am_words := am_in 548 (by decide +kernel) (by decide +kernel)
theorem wd_549 : (Jvm.Cond.code ({ cls := "DigFill", name := "addDifferences", desc := "(LDigFill$Sheet;)V" } : Jvm.MethodName) prog_1_method_49_code (4 : Nat) (Option.none : Option Jvm.ClassFile.FieldType)) ∈ am_words := am_in 549 (by decide +kernel) (by decide +kernel)
theorem wd_550 : (Jvm.Cond.methodLink "DigFill" (310 : Nat) ({ cls := "java/util/Arrays", name := "fill", desc := "([II)V" } : Jvm.MethodName)) ∈ am_words := am_in 550 (by decide +kernel) (by decide +kernel)
theorem wd_551 : (Jvm.Cond.static ({ cls := "java/util/Arrays", name := "fill", desc := "([II)V" } : Jvm.MethodName)) ∈ am_words := am_in 551 (by decide +kernel) (by decide +kernel)
theorem wd_552 : (Jvm.Cond.code ({ cls := "java/util/Arrays", name := "fill", desc := "([II)V" } : Jvm.MethodName) prog_18_method_103_code (4 : Nat) (Option.none : Option Jvm.ClassFile.FieldType)) ∈ am_words := am_in 552 (by decide +kernel) (by decide +kernel)
theorem wd_553 : (Jvm.Cond.methodLink "DigFill" (263 : Nat) ({ cls := "DigFill$Sheet", name := "isNumber", desc := "(I)Z" } : Jvm.MethodName)) ∈ am_words := am_in 553 (by decide +kernel) (by decide +kernel)
theorem wd_554 : (Jvm.Cond.instanceMethod ({ cls := "DigFill$Sheet", name := "isNumber", desc := "(I)Z" } : Jvm.MethodName)) ∈ am_words := am_in 554 (by decide +kernel) (by decide +kernel)
theorem wd_555 : (Jvm.Cond.selects "DigFill$Sheet" ({ cls := "DigFill$Sheet", name := "isNumber", desc := "(I)Z" } : Jvm.MethodName) ({ cls := "DigFill$Sheet", name := "isNumber", desc := "(I)Z" } : Jvm.MethodName)) ∈ am_words := am_in 555 (by decide +kernel) (by decide +kernel)
theorem wd_556 : (Jvm.Cond.code ({ cls := "DigFill$Sheet", name := "isNumber", desc := "(I)Z" } : Jvm.MethodName) prog_5_method_6_code (2 : Nat) (Option.some Jvm.ClassFile.FieldType.boolean)) ∈ am_words := am_in 556 (by decide +kernel) (by decide +kernel)
theorem wd_557 : (Jvm.Cond.methodLink "DigFill$Sheet" (34 : Nat) ({ cls := "DigFill$Sheet", name := "has", desc := "(I)Z" } : Jvm.MethodName)) ∈ am_words := am_in 557 (by decide +kernel) (by decide +kernel)
theorem wd_558 : (Jvm.Cond.instanceMethod ({ cls := "DigFill$Sheet", name := "has", desc := "(I)Z" } : Jvm.MethodName)) ∈ am_words := am_in 558 (by decide +kernel) (by decide +kernel)
theorem wd_559 : (Jvm.Cond.selects "DigFill$Sheet" ({ cls := "DigFill$Sheet", name := "has", desc := "(I)Z" } : Jvm.MethodName) ({ cls := "DigFill$Sheet", name := "has", desc := "(I)Z" } : Jvm.MethodName)) ∈ am_words := am_in 559 (by decide +kernel) (by decide +kernel)
theorem wd_560 : (Jvm.Cond.code ({ cls := "DigFill$Sheet", name := "has", desc := "(I)Z" } : Jvm.MethodName) prog_5_method_4_code (2 : Nat) (Option.some Jvm.ClassFile.FieldType.boolean)) ∈ am_words := am_in 560 (by decide +kernel) (by decide +kernel)
theorem wd_561 : (Jvm.Cond.constant "DigFill$Sheet" (38 : Nat) (-1000000005 : Int32)) ∈ am_words := am_in 561 (by decide +kernel) (by decide +kernel)
theorem wd_562 : (Jvm.Cond.methodLink "DigFillLaw" (110 : Nat) ({ cls := "DigFill", name := "fine", desc := "(I)I" } : Jvm.MethodName)) ∈ am_words := am_in 562 (by decide +kernel) (by decide +kernel)
theorem wd_563 : (Jvm.Cond.instanceMethod ({ cls := "DigFill", name := "fine", desc := "(I)I" } : Jvm.MethodName)) ∈ am_words := am_in 563 (by decide +kernel) (by decide +kernel)
theorem wd_564 : (Jvm.Cond.selects "DigFill" ({ cls := "DigFill", name := "fine", desc := "(I)I" } : Jvm.MethodName) ({ cls := "DigFill", name := "fine", desc := "(I)I" } : Jvm.MethodName)) ∈ am_words := am_in 564 (by decide +kernel) (by decide +kernel)
theorem wd_565 : (Jvm.Cond.code ({ cls := "DigFill", name := "fine", desc := "(I)I" } : Jvm.MethodName) prog_1_method_25_code (2 : Nat) (Option.some Jvm.ClassFile.FieldType.int)) ∈ am_words := am_in 565 (by decide +kernel) (by decide +kernel)
theorem wd_566 : (Jvm.Cond.methodLink "DigFill" (211 : Nat) ({ cls := "DigFill$Land", name := "fineOf", desc := "(I)I" } : Jvm.MethodName)) ∈ am_words := am_in 566 (by decide +kernel) (by decide +kernel)
theorem wd_567 : (Jvm.Cond.instanceMethod ({ cls := "DigFill$Land", name := "fineOf", desc := "(I)I" } : Jvm.MethodName)) ∈ am_words := am_in 567 (by decide +kernel) (by decide +kernel)
theorem wd_568 : (Jvm.Cond.selects "DigFill$Land" ({ cls := "DigFill$Land", name := "fineOf", desc := "(I)I" } : Jvm.MethodName) ({ cls := "DigFill$Land", name := "fineOf", desc := "(I)I" } : Jvm.MethodName)) ∈ am_words := am_in 568 (by decide +kernel) (by decide +kernel)
theorem wd_569 : (Jvm.Cond.code ({ cls := "DigFill$Land", name := "fineOf", desc := "(I)I" } : Jvm.MethodName) prog_4_method_17_code (3 : Nat) (Option.some Jvm.ClassFile.FieldType.int)) ∈ am_words := am_in 569 (by decide +kernel) (by decide +kernel)
theorem wd_570 : (Jvm.Cond.methodLink "DigFill$Land" (133 : Nat) ({ cls := "DigFill$Land", name := "debtOf", desc := "(I)I" } : Jvm.MethodName)) ∈ am_words := am_in 570 (by decide +kernel) (by decide +kernel)
theorem wd_571 : (Jvm.Cond.methodLink "DigFillLaw" (114 : Nat) ({ cls := "DigFill", name := "feed", desc := "(III)I" } : Jvm.MethodName)) ∈ am_words := am_in 571 (by decide +kernel) (by decide +kernel)
theorem wd_572 : (Jvm.Cond.instanceMethod ({ cls := "DigFill", name := "feed", desc := "(III)I" } : Jvm.MethodName)) ∈ am_words := am_in 572 (by decide +kernel) (by decide +kernel)
theorem wd_573 : (Jvm.Cond.selects "DigFill" ({ cls := "DigFill", name := "feed", desc := "(III)I" } : Jvm.MethodName) ({ cls := "DigFill", name := "feed", desc := "(III)I" } : Jvm.MethodName)) ∈ am_words := am_in 573 (by decide +kernel) (by decide +kernel)
theorem wd_574 : (Jvm.Cond.code ({ cls := "DigFill", name := "feed", desc := "(III)I" } : Jvm.MethodName) prog_1_method_26_code (4 : Nat) (Option.some Jvm.ClassFile.FieldType.int)) ∈ am_words := am_in 574 (by decide +kernel) (by decide +kernel)
theorem wd_575 : (Jvm.Cond.methodLink "DigFill" (217 : Nat) ({ cls := "DigFill$Tape", name := "putBytes", desc := "(I)V" } : Jvm.MethodName)) ∈ am_words := am_in 575 (by decide +kernel) (by decide +kernel)
theorem wd_576 : (Jvm.Cond.instanceMethod ({ cls := "DigFill$Tape", name := "putBytes", desc := "(I)V" } : Jvm.MethodName)) ∈ am_words := am_in 576 (by decide +kernel) (by decide +kernel)
theorem wd_577 : (Jvm.Cond.selects "DigFill$Tape" ({ cls := "DigFill$Tape", name := "putBytes", desc := "(I)V" } : Jvm.MethodName) ({ cls := "DigFill$Tape", name := "putBytes", desc := "(I)V" } : Jvm.MethodName)) ∈ am_words := am_in 577 (by decide +kernel) (by decide +kernel)
theorem wd_578 : (Jvm.Cond.code ({ cls := "DigFill$Tape", name := "putBytes", desc := "(I)V" } : Jvm.MethodName) prog_7_method_2_code (3 : Nat) (Option.none : Option Jvm.ClassFile.FieldType)) ∈ am_words := am_in 578 (by decide +kernel) (by decide +kernel)
theorem wd_579 : (Jvm.Cond.methodLink "DigFillLaw" (118 : Nat) ({ cls := "DigFill", name := "trim", desc := "(I)I" } : Jvm.MethodName)) ∈ am_words := am_in 579 (by decide +kernel) (by decide +kernel)
theorem wd_580 : (Jvm.Cond.instanceMethod ({ cls := "DigFill", name := "trim", desc := "(I)I" } : Jvm.MethodName)) ∈ am_words := am_in 580 (by decide +kernel) (by decide +kernel)
theorem wd_581 : (Jvm.Cond.selects "DigFill" ({ cls := "DigFill", name := "trim", desc := "(I)I" } : Jvm.MethodName) ({ cls := "DigFill", name := "trim", desc := "(I)I" } : Jvm.MethodName)) ∈ am_words := am_in 581 (by decide +kernel) (by decide +kernel)
theorem wd_582 : (Jvm.Cond.code ({ cls := "DigFill", name := "trim", desc := "(I)I" } : Jvm.MethodName) prog_1_method_27_code (2 : Nat) (Option.some Jvm.ClassFile.FieldType.int)) ∈ am_words := am_in 582 (by decide +kernel) (by decide +kernel)
theorem wd_583 : (Jvm.Cond.methodLink "DigFillLaw" (122 : Nat) ({ cls := "DigFill", name := "text", desc := "()I" } : Jvm.MethodName)) ∈ am_words := am_in 583 (by decide +kernel) (by decide +kernel)
theorem wd_584 : (Jvm.Cond.instanceMethod ({ cls := "DigFill", name := "text", desc := "()I" } : Jvm.MethodName)) ∈ am_words := am_in 584 (by decide +kernel) (by decide +kernel)
theorem wd_585 : (Jvm.Cond.selects "DigFill" ({ cls := "DigFill", name := "text", desc := "()I" } : Jvm.MethodName) ({ cls := "DigFill", name := "text", desc := "()I" } : Jvm.MethodName)) ∈ am_words := am_in 585 (by decide +kernel) (by decide +kernel)
theorem wd_586 : (Jvm.Cond.code ({ cls := "DigFill", name := "text", desc := "()I" } : Jvm.MethodName) prog_1_method_28_code (2 : Nat) (Option.some Jvm.ClassFile.FieldType.int)) ∈ am_words := am_in 586 (by decide +kernel) (by decide +kernel)
theorem wd_587 : (Jvm.Cond.methodLink "DigFill" (221 : Nat) ({ cls := "DigFill$Tape", name := "read", desc := "()LDigFill$Text;" } : Jvm.MethodName)) ∈ am_words := am_in 587 (by decide +kernel) (by decide +kernel)
theorem wd_588 : (Jvm.Cond.instanceMethod ({ cls := "DigFill$Tape", name := "read", desc := "()LDigFill$Text;" } : Jvm.MethodName)) ∈ am_words := am_in 588 (by decide +kernel) (by decide +kernel)
theorem wd_589 : (Jvm.Cond.selects "DigFill$Tape" ({ cls := "DigFill$Tape", name := "read", desc := "()LDigFill$Text;" } : Jvm.MethodName) ({ cls := "DigFill$Tape", name := "read", desc := "()LDigFill$Text;" } : Jvm.MethodName)) ∈ am_words := am_in 589 (by decide +kernel) (by decide +kernel)
theorem wd_590 : (Jvm.Cond.code ({ cls := "DigFill$Tape", name := "read", desc := "()LDigFill$Text;" } : Jvm.MethodName) prog_7_method_3_code (1 : Nat) (Option.some (Jvm.ClassFile.FieldType.object "DigFill$Text"))) ∈ am_words := am_in 590 (by decide +kernel) (by decide +kernel)
theorem wd_591 : (Jvm.Cond.methodLink "DigFill$Tape" (46 : Nat) ({ cls := "DigFill$Tape", name := "step", desc := "()V" } : Jvm.MethodName)) ∈ am_words := am_in 591 (by decide +kernel) (by decide +kernel)
theorem wd_593 : (Jvm.Cond.instanceMethod ({ cls := "DigFill$Tape", name := "step", desc := "()V" } : Jvm.MethodName)) ∈ am_words := am_in 593 (by decide +kernel) (by decide +kernel)
theorem wd_594 : (Jvm.Cond.code ({ cls := "DigFill$Tape", name := "step", desc := "()V" } : Jvm.MethodName) prog_7_method_4_code (3 : Nat) (Option.none : Option Jvm.ClassFile.FieldType)) ∈ am_words := am_in 594 (by decide +kernel) (by decide +kernel)
theorem wd_595 : (Jvm.Cond.methodLink "DigFill$Tape" (68 : Nat) ({ cls := "DigFill$Tape", name := "sortOf", desc := "(I)I" } : Jvm.MethodName)) ∈ am_words := am_in 595 (by decide +kernel) (by decide +kernel)
theorem wd_596 : (Jvm.Cond.static ({ cls := "DigFill$Tape", name := "sortOf", desc := "(I)I" } : Jvm.MethodName)) ∈ am_words := am_in 596 (by decide +kernel) (by decide +kernel)
theorem wd_597 : (Jvm.Cond.code ({ cls := "DigFill$Tape", name := "sortOf", desc := "(I)I" } : Jvm.MethodName) prog_7_method_5_code (1 : Nat) (Option.some Jvm.ClassFile.FieldType.int)) ∈ am_words := am_in 597 (by decide +kernel) (by decide +kernel)
theorem wd_598 : (Jvm.Cond.methodLink "DigFill$Tape" (49 : Nat) ({ cls := "DigFill$Tape", name := "keyHere", desc := "()I" } : Jvm.MethodName)) ∈ am_words := am_in 598 (by decide +kernel) (by decide +kernel)
theorem wd_600 : (Jvm.Cond.instanceMethod ({ cls := "DigFill$Tape", name := "keyHere", desc := "()I" } : Jvm.MethodName)) ∈ am_words := am_in 600 (by decide +kernel) (by decide +kernel)
theorem wd_601 : (Jvm.Cond.code ({ cls := "DigFill$Tape", name := "keyHere", desc := "()I" } : Jvm.MethodName) prog_7_method_6_code (1 : Nat) (Option.some Jvm.ClassFile.FieldType.int)) ∈ am_words := am_in 601 (by decide +kernel) (by decide +kernel)
theorem wd_603 : (Jvm.Cond.methodLink "DigFill$Tape" (74 : Nat) ({ cls := "DigFill$Tape", name := "isHere", desc := "(Ljava/lang/String;)Z" } : Jvm.MethodName)) ∈ am_words := am_in 603 (by decide +kernel) (by decide +kernel)
theorem wd_605 : (Jvm.Cond.instanceMethod ({ cls := "DigFill$Tape", name := "isHere", desc := "(Ljava/lang/String;)Z" } : Jvm.MethodName)) ∈ am_words := am_in 605 (by decide +kernel) (by decide +kernel)
theorem wd_606 : (Jvm.Cond.code ({ cls := "DigFill$Tape", name := "isHere", desc := "(Ljava/lang/String;)Z" } : Jvm.MethodName) prog_7_method_7_code (3 : Nat) (Option.some Jvm.ClassFile.FieldType.boolean)) ∈ am_words := am_in 606 (by decide +kernel) (by decide +kernel)
theorem wd_607 : (Jvm.Cond.methodLink "DigFill$Tape" (82 : Nat) ({ cls := "java/lang/String", name := "length", desc := "()I" } : Jvm.MethodName)) ∈ am_words := am_in 607 (by decide +kernel) (by decide +kernel)
theorem wd_608 : (Jvm.Cond.instanceMethod ({ cls := "java/lang/String", name := "length", desc := "()I" } : Jvm.MethodName)) ∈ am_words := am_in 608 (by decide +kernel) (by decide +kernel)
theorem wd_609 : (Jvm.Cond.selects "java/lang/String" ({ cls := "java/lang/String", name := "length", desc := "()I" } : Jvm.MethodName) ({ cls := "java/lang/String", name := "length", desc := "()I" } : Jvm.MethodName)) ∈ am_words := am_in 609 (by decide +kernel) (by decide +kernel)
theorem wd_610 : (Jvm.Cond.code ({ cls := "java/lang/String", name := "length", desc := "()I" } : Jvm.MethodName) prog_14_method_54_code (1 : Nat) (Option.some Jvm.ClassFile.FieldType.int)) ∈ am_words := am_in 610 (by decide +kernel) (by decide +kernel)
theorem wd_611 : (Jvm.Cond.methodLink "java/lang/String" (335 : Nat) ({ cls := "java/lang/String", name := "coder", desc := "()B" } : Jvm.MethodName)) ∈ am_words := am_in 611 (by decide +kernel) (by decide +kernel)
theorem wd_612 : (Jvm.Cond.instanceMethod ({ cls := "java/lang/String", name := "coder", desc := "()B" } : Jvm.MethodName)) ∈ am_words := am_in 612 (by decide +kernel) (by decide +kernel)
theorem wd_613 : (Jvm.Cond.selects "java/lang/String" ({ cls := "java/lang/String", name := "coder", desc := "()B" } : Jvm.MethodName) ({ cls := "java/lang/String", name := "coder", desc := "()B" } : Jvm.MethodName)) ∈ am_words := am_in 613 (by decide +kernel) (by decide +kernel)
theorem wd_614 : (Jvm.Cond.code ({ cls := "java/lang/String", name := "coder", desc := "()B" } : Jvm.MethodName) prog_14_method_152_code (1 : Nat) (Option.some Jvm.ClassFile.FieldType.byte)) ∈ am_words := am_in 614 (by decide +kernel) (by decide +kernel)
theorem wd_615 : (Jvm.Cond.fieldLink "java/lang/String" (38 : Nat) "java/lang/String" "COMPACT_STRINGS" "Z") ∈ am_words := am_in 615 (by decide +kernel) (by decide +kernel)
theorem wd_617 : (Jvm.Cond.methodLink "DigFill$Tape" (86 : Nat) ({ cls := "java/lang/String", name := "charAt", desc := "(I)C" } : Jvm.MethodName)) ∈ am_words := am_in 617 (by decide +kernel) (by decide +kernel)
theorem wd_618 : (Jvm.Cond.instanceMethod ({ cls := "java/lang/String", name := "charAt", desc := "(I)C" } : Jvm.MethodName)) ∈ am_words := am_in 618 (by decide +kernel) (by decide +kernel)
theorem wd_619 : (Jvm.Cond.selects "java/lang/String" ({ cls := "java/lang/String", name := "charAt", desc := "(I)C" } : Jvm.MethodName) ({ cls := "java/lang/String", name := "charAt", desc := "(I)C" } : Jvm.MethodName)) ∈ am_words := am_in 619 (by decide +kernel) (by decide +kernel)
theorem wd_620 : (Jvm.Cond.code ({ cls := "java/lang/String", name := "charAt", desc := "(I)C" } : Jvm.MethodName) prog_14_method_56_code (2 : Nat) (Option.some Jvm.ClassFile.FieldType.char)) ∈ am_words := am_in 620 (by decide +kernel) (by decide +kernel)
theorem wd_621 : (Jvm.Cond.methodLink "java/lang/String" (492 : Nat) ({ cls := "java/lang/String", name := "isLatin1", desc := "()Z" } : Jvm.MethodName)) ∈ am_words := am_in 621 (by decide +kernel) (by decide +kernel)
theorem wd_622 : (Jvm.Cond.instanceMethod ({ cls := "java/lang/String", name := "isLatin1", desc := "()Z" } : Jvm.MethodName)) ∈ am_words := am_in 622 (by decide +kernel) (by decide +kernel)
theorem wd_623 : (Jvm.Cond.selects "java/lang/String" ({ cls := "java/lang/String", name := "isLatin1", desc := "()Z" } : Jvm.MethodName) ({ cls := "java/lang/String", name := "isLatin1", desc := "()Z" } : Jvm.MethodName)) ∈ am_words := am_in 623 (by decide +kernel) (by decide +kernel)
theorem wd_624 : (Jvm.Cond.code ({ cls := "java/lang/String", name := "isLatin1", desc := "()Z" } : Jvm.MethodName) prog_14_method_154_code (1 : Nat) (Option.some Jvm.ClassFile.FieldType.boolean)) ∈ am_words := am_in 624 (by decide +kernel) (by decide +kernel)
theorem wd_625 : (Jvm.Cond.methodLink "java/lang/String" (495 : Nat) ({ cls := "java/lang/StringLatin1", name := "charAt", desc := "([BI)C" } : Jvm.MethodName)) ∈ am_words := am_in 625 (by decide +kernel) (by decide +kernel)
theorem wd_626 : (Jvm.Cond.static ({ cls := "java/lang/StringLatin1", name := "charAt", desc := "([BI)C" } : Jvm.MethodName)) ∈ am_words := am_in 626 (by decide +kernel) (by decide +kernel)
theorem wd_627 : (Jvm.Cond.code ({ cls := "java/lang/StringLatin1", name := "charAt", desc := "([BI)C" } : Jvm.MethodName) prog_15_method_2_code (2 : Nat) (Option.some Jvm.ClassFile.FieldType.char)) ∈ am_words := am_in 627 (by decide +kernel) (by decide +kernel)
theorem wd_628 : (Jvm.Cond.methodLink "java/lang/StringLatin1" (9 : Nat) ({ cls := "java/lang/String", name := "checkIndex", desc := "(II)V" } : Jvm.MethodName)) ∈ am_words := am_in 628 (by decide +kernel) (by decide +kernel)
theorem wd_629 : (Jvm.Cond.static ({ cls := "java/lang/String", name := "checkIndex", desc := "(II)V" } : Jvm.MethodName)) ∈ am_words := am_in 629 (by decide +kernel) (by decide +kernel)
theorem wd_630 : (Jvm.Cond.code ({ cls := "java/lang/String", name := "checkIndex", desc := "(II)V" } : Jvm.MethodName) prog_14_method_155_code (2 : Nat) (Option.none : Option Jvm.ClassFile.FieldType)) ∈ am_words := am_in 630 (by decide +kernel) (by decide +kernel)
theorem wd_631 : (Jvm.Cond.fieldLink "java/lang/String" (1053 : Nat) "jdk/internal/util/Preconditions" "SIOOBE_FORMATTER" "Ljava/util/function/BiFunction;") ∈ am_words := am_in 631 (by decide +kernel) (by decide +kernel)
theorem wd_633 : (Jvm.Cond.methodLink "java/lang/String" (1059 : Nat) ({ cls := "jdk/internal/util/Preconditions", name := "checkIndex", desc := "(IILjava/util/function/BiFunction;)I" } : Jvm.MethodName)) ∈ am_words := am_in 633 (by decide +kernel) (by decide +kernel)
theorem wd_634 : (Jvm.Cond.static ({ cls := "jdk/internal/util/Preconditions", name := "checkIndex", desc := "(IILjava/util/function/BiFunction;)I" } : Jvm.MethodName)) ∈ am_words := am_in 634 (by decide +kernel) (by decide +kernel)
theorem wd_635 : (Jvm.Cond.code ({ cls := "jdk/internal/util/Preconditions", name := "checkIndex", desc := "(IILjava/util/function/BiFunction;)I" } : Jvm.MethodName) prog_19_method_11_code (3 : Nat) (Option.some Jvm.ClassFile.FieldType.int)) ∈ am_words := am_in 635 (by decide +kernel) (by decide +kernel)
theorem wd_657 : (Jvm.Cond.methodLink "DigFill$Tape" (53 : Nat) ({ cls := "DigFill$Tape", name := "joinedBy", desc := "(I)Z" } : Jvm.MethodName)) ∈ am_words := am_in 657 (by decide +kernel) (by decide +kernel)
theorem wd_659 : (Jvm.Cond.instanceMethod ({ cls := "DigFill$Tape", name := "joinedBy", desc := "(I)Z" } : Jvm.MethodName)) ∈ am_words := am_in 659 (by decide +kernel) (by decide +kernel)
theorem wd_660 : (Jvm.Cond.code ({ cls := "DigFill$Tape", name := "joinedBy", desc := "(I)Z" } : Jvm.MethodName) prog_7_method_8_code (4 : Nat) (Option.some Jvm.ClassFile.FieldType.boolean)) ∈ am_words := am_in 660 (by decide +kernel) (by decide +kernel)
theorem wd_661 : (Jvm.Cond.methodLink "DigFill$Tape" (90 : Nat) ({ cls := "DigFill$Tape", name := "partOf", desc := "(I)Z" } : Jvm.MethodName)) ∈ am_words := am_in 661 (by decide +kernel) (by decide +kernel)
theorem wd_663 : (Jvm.Cond.instanceMethod ({ cls := "DigFill$Tape", name := "partOf", desc := "(I)Z" } : Jvm.MethodName)) ∈ am_words := am_in 663 (by decide +kernel) (by decide +kernel)
theorem wd_664 : (Jvm.Cond.code ({ cls := "DigFill$Tape", name := "partOf", desc := "(I)Z" } : Jvm.MethodName) prog_7_method_9_code (2 : Nat) (Option.some Jvm.ClassFile.FieldType.boolean)) ∈ am_words := am_in 664 (by decide +kernel) (by decide +kernel)
theorem wd_665 : (Jvm.Cond.methodLink "DigFill$Tape" (100 : Nat) ({ cls := "DigFill$Tape", name := "piece", desc := "()Z" } : Jvm.MethodName)) ∈ am_words := am_in 665 (by decide +kernel) (by decide +kernel)
theorem wd_667 : (Jvm.Cond.instanceMethod ({ cls := "DigFill$Tape", name := "piece", desc := "()Z" } : Jvm.MethodName)) ∈ am_words := am_in 667 (by decide +kernel) (by decide +kernel)
theorem wd_668 : (Jvm.Cond.code ({ cls := "DigFill$Tape", name := "piece", desc := "()Z" } : Jvm.MethodName) prog_7_method_11_code (1 : Nat) (Option.some Jvm.ClassFile.FieldType.boolean)) ∈ am_words := am_in 668 (by decide +kernel) (by decide +kernel)
theorem wd_669 : (Jvm.Cond.methodLink "DigFill$Tape" (104 : Nat) ({ cls := "DigFill$Tape", name := "number", desc := "()Z" } : Jvm.MethodName)) ∈ am_words := am_in 669 (by decide +kernel) (by decide +kernel)
theorem wd_671 : (Jvm.Cond.instanceMethod ({ cls := "DigFill$Tape", name := "number", desc := "()Z" } : Jvm.MethodName)) ∈ am_words := am_in 671 (by decide +kernel) (by decide +kernel)
theorem wd_672 : (Jvm.Cond.code ({ cls := "DigFill$Tape", name := "number", desc := "()Z" } : Jvm.MethodName) prog_7_method_12_code (3 : Nat) (Option.some Jvm.ClassFile.FieldType.boolean)) ∈ am_words := am_in 672 (by decide +kernel) (by decide +kernel)
theorem wd_673 : (Jvm.Cond.methodLink "DigFill$Tape" (96 : Nat) ({ cls := "DigFill$Tape", name := "put", desc := "(I)V" } : Jvm.MethodName)) ∈ am_words := am_in 673 (by decide +kernel) (by decide +kernel)
theorem wd_675 : (Jvm.Cond.instanceMethod ({ cls := "DigFill$Tape", name := "put", desc := "(I)V" } : Jvm.MethodName)) ∈ am_words := am_in 675 (by decide +kernel) (by decide +kernel)
theorem wd_676 : (Jvm.Cond.code ({ cls := "DigFill$Tape", name := "put", desc := "(I)V" } : Jvm.MethodName) prog_7_method_17_code (2 : Nat) (Option.none : Option Jvm.ClassFile.FieldType)) ∈ am_words := am_in 676 (by decide +kernel) (by decide +kernel)
theorem wd_677 : (Jvm.Cond.methodLink "DigFill$Tape" (107 : Nat) ({ cls := "DigFill$Tape", name := "name", desc := "()Z" } : Jvm.MethodName)) ∈ am_words := am_in 677 (by decide +kernel) (by decide +kernel)
theorem wd_679 : (Jvm.Cond.instanceMethod ({ cls := "DigFill$Tape", name := "name", desc := "()Z" } : Jvm.MethodName)) ∈ am_words := am_in 679 (by decide +kernel) (by decide +kernel)
theorem wd_680 : (Jvm.Cond.code ({ cls := "DigFill$Tape", name := "name", desc := "()Z" } : Jvm.MethodName) prog_7_method_13_code (2 : Nat) (Option.some Jvm.ClassFile.FieldType.boolean)) ∈ am_words := am_in 680 (by decide +kernel) (by decide +kernel)
theorem wd_681 : (Jvm.Cond.methodLink "DigFill$Tape" (116 : Nat) ({ cls := "DigFill$Tape", name := "namesOf", desc := "(I)Ljava/lang/String;" } : Jvm.MethodName)) ∈ am_words := am_in 681 (by decide +kernel) (by decide +kernel)
theorem wd_682 : (Jvm.Cond.static ({ cls := "DigFill$Tape", name := "namesOf", desc := "(I)Ljava/lang/String;" } : Jvm.MethodName)) ∈ am_words := am_in 682 (by decide +kernel) (by decide +kernel)
theorem wd_683 : (Jvm.Cond.code ({ cls := "DigFill$Tape", name := "namesOf", desc := "(I)Ljava/lang/String;" } : Jvm.MethodName) prog_7_method_14_code (1 : Nat) (Option.some (Jvm.ClassFile.FieldType.object "java/lang/String"))) ∈ am_words := am_in 683 (by decide +kernel) (by decide +kernel)
theorem wd_687 : (Jvm.Cond.methodLink "DigFill$Tape" (120 : Nat) ({ cls := "java/lang/String", name := "indexOf", desc := "(I)I" } : Jvm.MethodName)) ∈ am_words := am_in 687 (by decide +kernel) (by decide +kernel)
theorem wd_688 : (Jvm.Cond.instanceMethod ({ cls := "java/lang/String", name := "indexOf", desc := "(I)I" } : Jvm.MethodName)) ∈ am_words := am_in 688 (by decide +kernel) (by decide +kernel)
theorem wd_689 : (Jvm.Cond.selects "java/lang/String" ({ cls := "java/lang/String", name := "indexOf", desc := "(I)I" } : Jvm.MethodName) ({ cls := "java/lang/String", name := "indexOf", desc := "(I)I" } : Jvm.MethodName)) ∈ am_words := am_in 689 (by decide +kernel) (by decide +kernel)
theorem wd_690 : (Jvm.Cond.code ({ cls := "java/lang/String", name := "indexOf", desc := "(I)I" } : Jvm.MethodName) prog_14_method_79_code (2 : Nat) (Option.some Jvm.ClassFile.FieldType.int)) ∈ am_words := am_in 690 (by decide +kernel) (by decide +kernel)
theorem wd_691 : (Jvm.Cond.methodLink "java/lang/String" (633 : Nat) ({ cls := "java/lang/String", name := "indexOf", desc := "(II)I" } : Jvm.MethodName)) ∈ am_words := am_in 691 (by decide +kernel) (by decide +kernel)
theorem wd_692 : (Jvm.Cond.instanceMethod ({ cls := "java/lang/String", name := "indexOf", desc := "(II)I" } : Jvm.MethodName)) ∈ am_words := am_in 692 (by decide +kernel) (by decide +kernel)
theorem wd_693 : (Jvm.Cond.selects "java/lang/String" ({ cls := "java/lang/String", name := "indexOf", desc := "(II)I" } : Jvm.MethodName) ({ cls := "java/lang/String", name := "indexOf", desc := "(II)I" } : Jvm.MethodName)) ∈ am_words := am_in 693 (by decide +kernel) (by decide +kernel)
theorem wd_694 : (Jvm.Cond.code ({ cls := "java/lang/String", name := "indexOf", desc := "(II)I" } : Jvm.MethodName) prog_14_method_80_code (3 : Nat) (Option.some Jvm.ClassFile.FieldType.int)) ∈ am_words := am_in 694 (by decide +kernel) (by decide +kernel)
theorem wd_695 : (Jvm.Cond.methodLink "java/lang/String" (505 : Nat) ({ cls := "java/lang/String", name := "length", desc := "()I" } : Jvm.MethodName)) ∈ am_words := am_in 695 (by decide +kernel) (by decide +kernel)
theorem wd_696 : (Jvm.Cond.methodLink "java/lang/String" (637 : Nat) ({ cls := "java/lang/StringLatin1", name := "indexOf", desc := "([BIII)I" } : Jvm.MethodName)) ∈ am_words := am_in 696 (by decide +kernel) (by decide +kernel)
theorem wd_697 : (Jvm.Cond.static ({ cls := "java/lang/StringLatin1", name := "indexOf", desc := "([BIII)I" } : Jvm.MethodName)) ∈ am_words := am_in 697 (by decide +kernel) (by decide +kernel)
theorem wd_698 : (Jvm.Cond.code ({ cls := "java/lang/StringLatin1", name := "indexOf", desc := "([BIII)I" } : Jvm.MethodName) prog_15_method_22_code (4 : Nat) (Option.some Jvm.ClassFile.FieldType.int)) ∈ am_words := am_in 698 (by decide +kernel) (by decide +kernel)
theorem wd_699 : (Jvm.Cond.methodLink "java/lang/StringLatin1" (88 : Nat) ({ cls := "java/lang/StringLatin1", name := "canEncode", desc := "(I)Z" } : Jvm.MethodName)) ∈ am_words := am_in 699 (by decide +kernel) (by decide +kernel)
theorem wd_700 : (Jvm.Cond.static ({ cls := "java/lang/StringLatin1", name := "canEncode", desc := "(I)Z" } : Jvm.MethodName)) ∈ am_words := am_in 700 (by decide +kernel) (by decide +kernel)
theorem wd_701 : (Jvm.Cond.code ({ cls := "java/lang/StringLatin1", name := "canEncode", desc := "(I)Z" } : Jvm.MethodName) prog_15_method_4_code (1 : Nat) (Option.some Jvm.ClassFile.FieldType.boolean)) ∈ am_words := am_in 701 (by decide +kernel) (by decide +kernel)
theorem wd_702 : (Jvm.Cond.methodLink "java/lang/StringLatin1" (92 : Nat) ({ cls := "java/lang/Math", name := "max", desc := "(II)I" } : Jvm.MethodName)) ∈ am_words := am_in 702 (by decide +kernel) (by decide +kernel)
theorem wd_703 : (Jvm.Cond.methodLink "java/lang/StringLatin1" (38 : Nat) ({ cls := "java/lang/Math", name := "min", desc := "(II)I" } : Jvm.MethodName)) ∈ am_words := am_in 703 (by decide +kernel) (by decide +kernel)
theorem wd_704 : (Jvm.Cond.methodLink "java/lang/StringLatin1" (95 : Nat) ({ cls := "java/lang/StringLatin1", name := "indexOfChar", desc := "([BIII)I" } : Jvm.MethodName)) ∈ am_words := am_in 704 (by decide +kernel) (by decide +kernel)
theorem wd_705 : (Jvm.Cond.static ({ cls := "java/lang/StringLatin1", name := "indexOfChar", desc := "([BIII)I" } : Jvm.MethodName)) ∈ am_words := am_in 705 (by decide +kernel) (by decide +kernel)
theorem wd_706 : (Jvm.Cond.code ({ cls := "java/lang/StringLatin1", name := "indexOfChar", desc := "([BIII)I" } : Jvm.MethodName) prog_15_method_23_code (6 : Nat) (Option.some Jvm.ClassFile.FieldType.int)) ∈ am_words := am_in 706 (by decide +kernel) (by decide +kernel)
theorem wd_742 : (Jvm.Cond.methodLink "DigFill$Tape" (110 : Nat) ({ cls := "DigFill$Tape", name := "not", desc := "()Z" } : Jvm.MethodName)) ∈ am_words := am_in 742 (by decide +kernel) (by decide +kernel)
theorem wd_744 : (Jvm.Cond.instanceMethod ({ cls := "DigFill$Tape", name := "not", desc := "()Z" } : Jvm.MethodName)) ∈ am_words := am_in 744 (by decide +kernel) (by decide +kernel)
theorem wd_745 : (Jvm.Cond.code ({ cls := "DigFill$Tape", name := "not", desc := "()Z" } : Jvm.MethodName) prog_7_method_15_code (1 : Nat) (Option.some Jvm.ClassFile.FieldType.boolean)) ∈ am_words := am_in 745 (by decide +kernel) (by decide +kernel)
theorem wd_746 : (Jvm.Cond.methodLink "DigFill$Tape" (113 : Nat) ({ cls := "DigFill$Tape", name := "brackets", desc := "()Z" } : Jvm.MethodName)) ∈ am_words := am_in 746 (by decide +kernel) (by decide +kernel)
theorem wd_748 : (Jvm.Cond.instanceMethod ({ cls := "DigFill$Tape", name := "brackets", desc := "()Z" } : Jvm.MethodName)) ∈ am_words := am_in 748 (by decide +kernel) (by decide +kernel)
theorem wd_749 : (Jvm.Cond.code ({ cls := "DigFill$Tape", name := "brackets", desc := "()Z" } : Jvm.MethodName) prog_7_method_16_code (1 : Nat) (Option.some Jvm.ClassFile.FieldType.boolean)) ∈ am_words := am_in 749 (by decide +kernel) (by decide +kernel)
theorem wd_750 : (Jvm.Cond.methodLink "DigFill$Tape" (93 : Nat) ({ cls := "DigFill$Tape", name := "joins", desc := "(I)Z" } : Jvm.MethodName)) ∈ am_words := am_in 750 (by decide +kernel) (by decide +kernel)
theorem wd_752 : (Jvm.Cond.instanceMethod ({ cls := "DigFill$Tape", name := "joins", desc := "(I)Z" } : Jvm.MethodName)) ∈ am_words := am_in 752 (by decide +kernel) (by decide +kernel)
theorem wd_753 : (Jvm.Cond.code ({ cls := "DigFill$Tape", name := "joins", desc := "(I)Z" } : Jvm.MethodName) prog_7_method_10_code (2 : Nat) (Option.some Jvm.ClassFile.FieldType.boolean)) ∈ am_words := am_in 753 (by decide +kernel) (by decide +kernel)
theorem wd_754 : (Jvm.Cond.classLink "DigFill$Tape" (57 : Nat) "DigFill$Text") ∈ am_words := am_in 754 (by decide +kernel) (by decide +kernel)
theorem wd_755 : (Jvm.Cond.instantiable "DigFill$Text" (4 : Nat)) ∈ am_words := am_in 755 (by decide +kernel) (by decide +kernel)
theorem wd_756 : (Jvm.Cond.methodLink "DigFill$Tape" (59 : Nat) ({ cls := "java/util/Arrays", name := "copyOf", desc := "([II)[I" } : Jvm.MethodName)) ∈ am_words := am_in 756 (by decide +kernel) (by decide +kernel)
theorem wd_757 : (Jvm.Cond.static ({ cls := "java/util/Arrays", name := "copyOf", desc := "([II)[I" } : Jvm.MethodName)) ∈ am_words := am_in 757 (by decide +kernel) (by decide +kernel)
theorem wd_758 : (Jvm.Cond.code ({ cls := "java/util/Arrays", name := "copyOf", desc := "([II)[I" } : Jvm.MethodName) prog_18_method_123_code (3 : Nat) (Option.some (Jvm.ClassFile.FieldType.array Jvm.ClassFile.FieldType.int))) ∈ am_words := am_in 758 (by decide +kernel) (by decide +kernel)
theorem wd_766 : (Jvm.Cond.methodLink "java/util/Arrays" (304 : Nat) ({ cls := "java/lang/Math", name := "min", desc := "(II)I" } : Jvm.MethodName)) ∈ am_words := am_in 766 (by decide +kernel) (by decide +kernel)
theorem wd_767 : (Jvm.Cond.methodLink "java/util/Arrays" (150 : Nat) ({ cls := "java/lang/System", name := "arraycopy", desc := "(Ljava/lang/Object;ILjava/lang/Object;II)V" } : Jvm.MethodName)) ∈ am_words := am_in 767 (by decide +kernel) (by decide +kernel)
theorem wd_768 : (Jvm.Cond.methodLink "DigFill$Tape" (65 : Nat) ({ cls := "DigFill$Text", name := "<init>", desc := "(II[I)V" } : Jvm.MethodName)) ∈ am_words := am_in 768 (by decide +kernel) (by decide +kernel)
theorem wd_769 : (Jvm.Cond.instanceMethod ({ cls := "DigFill$Text", name := "<init>", desc := "(II[I)V" } : Jvm.MethodName)) ∈ am_words := am_in 769 (by decide +kernel) (by decide +kernel)
theorem wd_770 : (Jvm.Cond.code ({ cls := "DigFill$Text", name := "<init>", desc := "(II[I)V" } : Jvm.MethodName) prog_8_method_1_code (4 : Nat) (Option.none : Option Jvm.ClassFile.FieldType)) ∈ am_words := am_in 770 (by decide +kernel) (by decide +kernel)
theorem wd_771 : (Jvm.Cond.methodLink "DigFill$Text" (1 : Nat) ({ cls := "java/lang/Object", name := "<init>", desc := "()V" } : Jvm.MethodName)) ∈ am_words := am_in 771 (by decide +kernel) (by decide +kernel)
theorem wd_772 : (Jvm.Cond.fieldLink "DigFill$Text" (7 : Nat) "DigFill$Text" "key" "I") ∈ am_words := am_in 772 (by decide +kernel) (by decide +kernel)
theorem wd_775 : (Jvm.Cond.fieldLink "DigFill$Text" (13 : Nat) "DigFill$Text" "pieces" "I") ∈ am_words := am_in 775 (by decide +kernel) (by decide +kernel)
theorem wd_777 : (Jvm.Cond.fieldLink "DigFill$Text" (16 : Nat) "DigFill$Text" "codes" "[I") ∈ am_words := am_in 777 (by decide +kernel) (by decide +kernel)
theorem wd_778 : (Jvm.Cond.fieldLink "DigFill$Text" (20 : Nat) "DigFill$Text" "stack" "[I") ∈ am_words := am_in 778 (by decide +kernel) (by decide +kernel)
theorem wd_789 : (Jvm.Cond.methodLink "DigFill" (231 : Nat) ({ cls := "DigFill$Land", name := "addText", desc := "(LDigFill$Text;)I" } : Jvm.MethodName)) ∈ am_words := am_in 789 (by decide +kernel) (by decide +kernel)
theorem wd_790 : (Jvm.Cond.instanceMethod ({ cls := "DigFill$Land", name := "addText", desc := "(LDigFill$Text;)I" } : Jvm.MethodName)) ∈ am_words := am_in 790 (by decide +kernel) (by decide +kernel)
theorem wd_791 : (Jvm.Cond.selects "DigFill$Land" ({ cls := "DigFill$Land", name := "addText", desc := "(LDigFill$Text;)I" } : Jvm.MethodName) ({ cls := "DigFill$Land", name := "addText", desc := "(LDigFill$Text;)I" } : Jvm.MethodName)) ∈ am_words := am_in 791 (by decide +kernel) (by decide +kernel)
theorem wd_792 : (Jvm.Cond.code ({ cls := "DigFill$Land", name := "addText", desc := "(LDigFill$Text;)I" } : Jvm.MethodName) prog_4_method_20_code (3 : Nat) (Option.some Jvm.ClassFile.FieldType.int)) ∈ am_words := am_in 792 (by decide +kernel) (by decide +kernel)
theorem wd_793 : (Jvm.Cond.methodLink "DigFillLaw" (126 : Nat) ({ cls := "DigFill", name := "textTold", desc := "(II)I" } : Jvm.MethodName)) ∈ am_words := am_in 793 (by decide +kernel) (by decide +kernel)
theorem wd_794 : (Jvm.Cond.instanceMethod ({ cls := "DigFill", name := "textTold", desc := "(II)I" } : Jvm.MethodName)) ∈ am_words := am_in 794 (by decide +kernel) (by decide +kernel)
theorem wd_795 : (Jvm.Cond.selects "DigFill" ({ cls := "DigFill", name := "textTold", desc := "(II)I" } : Jvm.MethodName) ({ cls := "DigFill", name := "textTold", desc := "(II)I" } : Jvm.MethodName)) ∈ am_words := am_in 795 (by decide +kernel) (by decide +kernel)
theorem wd_796 : (Jvm.Cond.code ({ cls := "DigFill", name := "textTold", desc := "(II)I" } : Jvm.MethodName) prog_1_method_29_code (4 : Nat) (Option.some Jvm.ClassFile.FieldType.int)) ∈ am_words := am_in 796 (by decide +kernel) (by decide +kernel)
theorem wd_797 : (Jvm.Cond.methodLink "DigFill" (235 : Nat) ({ cls := "DigFill$Land", name := "findText", desc := "(I)LDigFill$Text;" } : Jvm.MethodName)) ∈ am_words := am_in 797 (by decide +kernel) (by decide +kernel)
theorem wd_798 : (Jvm.Cond.methodLink "DigFillLaw" (130 : Nat) ({ cls := "DigFill", name := "why", desc := "(I)I" } : Jvm.MethodName)) ∈ am_words := am_in 798 (by decide +kernel) (by decide +kernel)
theorem wd_799 : (Jvm.Cond.instanceMethod ({ cls := "DigFill", name := "why", desc := "(I)I" } : Jvm.MethodName)) ∈ am_words := am_in 799 (by decide +kernel) (by decide +kernel)
theorem wd_800 : (Jvm.Cond.selects "DigFill" ({ cls := "DigFill", name := "why", desc := "(I)I" } : Jvm.MethodName) ({ cls := "DigFill", name := "why", desc := "(I)I" } : Jvm.MethodName)) ∈ am_words := am_in 800 (by decide +kernel) (by decide +kernel)
theorem wd_801 : (Jvm.Cond.code ({ cls := "DigFill", name := "why", desc := "(I)I" } : Jvm.MethodName) prog_1_method_30_code (3 : Nat) (Option.some Jvm.ClassFile.FieldType.int)) ∈ am_words := am_in 801 (by decide +kernel) (by decide +kernel)
theorem wd_802 : (Jvm.Cond.methodLink "DigFillLaw" (134 : Nat) ({ cls := "DigFill", name := "sheet", desc := "(III)I" } : Jvm.MethodName)) ∈ am_words := am_in 802 (by decide +kernel) (by decide +kernel)
theorem wd_803 : (Jvm.Cond.instanceMethod ({ cls := "DigFill", name := "sheet", desc := "(III)I" } : Jvm.MethodName)) ∈ am_words := am_in 803 (by decide +kernel) (by decide +kernel)
theorem wd_804 : (Jvm.Cond.selects "DigFill" ({ cls := "DigFill", name := "sheet", desc := "(III)I" } : Jvm.MethodName) ({ cls := "DigFill", name := "sheet", desc := "(III)I" } : Jvm.MethodName)) ∈ am_words := am_in 804 (by decide +kernel) (by decide +kernel)
theorem wd_805 : (Jvm.Cond.code ({ cls := "DigFill", name := "sheet", desc := "(III)I" } : Jvm.MethodName) prog_1_method_31_code (5 : Nat) (Option.some Jvm.ClassFile.FieldType.int)) ∈ am_words := am_in 805 (by decide +kernel) (by decide +kernel)
theorem wd_806 : (Jvm.Cond.methodLink "DigFill" (250 : Nat) ({ cls := "DigFill$Sheet", name := "clear", desc := "(II)V" } : Jvm.MethodName)) ∈ am_words := am_in 806 (by decide +kernel) (by decide +kernel)
theorem wd_807 : (Jvm.Cond.instanceMethod ({ cls := "DigFill$Sheet", name := "clear", desc := "(II)V" } : Jvm.MethodName)) ∈ am_words := am_in 807 (by decide +kernel) (by decide +kernel)
theorem wd_808 : (Jvm.Cond.selects "DigFill$Sheet" ({ cls := "DigFill$Sheet", name := "clear", desc := "(II)V" } : Jvm.MethodName) ({ cls := "DigFill$Sheet", name := "clear", desc := "(II)V" } : Jvm.MethodName)) ∈ am_words := am_in 808 (by decide +kernel) (by decide +kernel)
theorem wd_809 : (Jvm.Cond.code ({ cls := "DigFill$Sheet", name := "clear", desc := "(II)V" } : Jvm.MethodName) prog_5_method_2_code (3 : Nat) (Option.none : Option Jvm.ClassFile.FieldType)) ∈ am_words := am_in 809 (by decide +kernel) (by decide +kernel)
theorem wd_810 : (Jvm.Cond.methodLink "DigFill$Sheet" (22 : Nat) ({ cls := "java/util/Arrays", name := "fill", desc := "([II)V" } : Jvm.MethodName)) ∈ am_words := am_in 810 (by decide +kernel) (by decide +kernel)
theorem wd_811 : (Jvm.Cond.constant "DigFill" (253 : Nat) (-1000000014 : Int32)) ∈ am_words := am_in 811 (by decide +kernel) (by decide +kernel)
theorem wd_812 : (Jvm.Cond.methodLink "DigFillLaw" (138 : Nat) ({ cls := "DigFill", name := "mark", desc := "(III)I" } : Jvm.MethodName)) ∈ am_words := am_in 812 (by decide +kernel) (by decide +kernel)
theorem wd_813 : (Jvm.Cond.instanceMethod ({ cls := "DigFill", name := "mark", desc := "(III)I" } : Jvm.MethodName)) ∈ am_words := am_in 813 (by decide +kernel) (by decide +kernel)
theorem wd_814 : (Jvm.Cond.selects "DigFill" ({ cls := "DigFill", name := "mark", desc := "(III)I" } : Jvm.MethodName) ({ cls := "DigFill", name := "mark", desc := "(III)I" } : Jvm.MethodName)) ∈ am_words := am_in 814 (by decide +kernel) (by decide +kernel)
theorem wd_815 : (Jvm.Cond.code ({ cls := "DigFill", name := "mark", desc := "(III)I" } : Jvm.MethodName) prog_1_method_32_code (5 : Nat) (Option.some Jvm.ClassFile.FieldType.int)) ∈ am_words := am_in 815 (by decide +kernel) (by decide +kernel)
theorem wd_816 : (Jvm.Cond.methodLink "DigFill" (254 : Nat) ({ cls := "DigFill$Sheet", name := "has", desc := "(I)Z" } : Jvm.MethodName)) ∈ am_words := am_in 816 (by decide +kernel) (by decide +kernel)
theorem wd_817 : (Jvm.Cond.constant "DigFill" (257 : Nat) (-1000000013 : Int32)) ∈ am_words := am_in 817 (by decide +kernel) (by decide +kernel)
theorem wd_818 : (Jvm.Cond.constant "DigFill" (261 : Nat) (-99999 : Int32)) ∈ am_words := am_in 818 (by decide +kernel) (by decide +kernel)
theorem wd_819 : (Jvm.Cond.constant "DigFill" (262 : Nat) (99999 : Int32)) ∈ am_words := am_in 819 (by decide +kernel) (by decide +kernel)
theorem wd_820 : (Jvm.Cond.methodLink "DigFillLaw" (142 : Nat) ({ cls := "DigFill", name := "pour", desc := "(I)I" } : Jvm.MethodName)) ∈ am_words := am_in 820 (by decide +kernel) (by decide +kernel)
theorem wd_821 : (Jvm.Cond.instanceMethod ({ cls := "DigFill", name := "pour", desc := "(I)I" } : Jvm.MethodName)) ∈ am_words := am_in 821 (by decide +kernel) (by decide +kernel)
theorem wd_822 : (Jvm.Cond.selects "DigFill" ({ cls := "DigFill", name := "pour", desc := "(I)I" } : Jvm.MethodName) ({ cls := "DigFill", name := "pour", desc := "(I)I" } : Jvm.MethodName)) ∈ am_words := am_in 822 (by decide +kernel) (by decide +kernel)
theorem wd_823 : (Jvm.Cond.code ({ cls := "DigFill", name := "pour", desc := "(I)I" } : Jvm.MethodName) prog_1_method_33_code (7 : Nat) (Option.some Jvm.ClassFile.FieldType.int)) ∈ am_words := am_in 823 (by decide +kernel) (by decide +kernel)
theorem wd_824 : (Jvm.Cond.methodLink "DigFill" (266 : Nat) ({ cls := "DigFill", name := "held", desc := "(II)I" } : Jvm.MethodName)) ∈ am_words := am_in 824 (by decide +kernel) (by decide +kernel)
theorem wd_825 : (Jvm.Cond.methodLink "DigFillLaw" (146 : Nat) ({ cls := "DigFill", name := "reads", desc := "(I)I" } : Jvm.MethodName)) ∈ am_words := am_in 825 (by decide +kernel) (by decide +kernel)
theorem wd_826 : (Jvm.Cond.instanceMethod ({ cls := "DigFill", name := "reads", desc := "(I)I" } : Jvm.MethodName)) ∈ am_words := am_in 826 (by decide +kernel) (by decide +kernel)
theorem wd_827 : (Jvm.Cond.selects "DigFill" ({ cls := "DigFill", name := "reads", desc := "(I)I" } : Jvm.MethodName) ({ cls := "DigFill", name := "reads", desc := "(I)I" } : Jvm.MethodName)) ∈ am_words := am_in 827 (by decide +kernel) (by decide +kernel)
theorem wd_828 : (Jvm.Cond.code ({ cls := "DigFill", name := "reads", desc := "(I)I" } : Jvm.MethodName) prog_1_method_34_code (5 : Nat) (Option.some Jvm.ClassFile.FieldType.int)) ∈ am_words := am_in 828 (by decide +kernel) (by decide +kernel)
theorem wd_829 : (Jvm.Cond.methodLink "DigFillLaw" (150 : Nat) ({ cls := "DigFill", name := "copy", desc := "(IIIII)I" } : Jvm.MethodName)) ∈ am_words := am_in 829 (by decide +kernel) (by decide +kernel)
theorem wd_830 : (Jvm.Cond.instanceMethod ({ cls := "DigFill", name := "copy", desc := "(IIIII)I" } : Jvm.MethodName)) ∈ am_words := am_in 830 (by decide +kernel) (by decide +kernel)
theorem wd_831 : (Jvm.Cond.selects "DigFill" ({ cls := "DigFill", name := "copy", desc := "(IIIII)I" } : Jvm.MethodName) ({ cls := "DigFill", name := "copy", desc := "(IIIII)I" } : Jvm.MethodName)) ∈ am_words := am_in 831 (by decide +kernel) (by decide +kernel)
theorem wd_832 : (Jvm.Cond.code ({ cls := "DigFill", name := "copy", desc := "(IIIII)I" } : Jvm.MethodName) prog_1_method_35_code (8 : Nat) (Option.some Jvm.ClassFile.FieldType.int)) ∈ am_words := am_in 832 (by decide +kernel) (by decide +kernel)
theorem wd_833 : (Jvm.Cond.methodLink "DigFill" (272 : Nat) ({ cls := "DigFill$Sheet", name := "hasAll", desc := "(II)Z" } : Jvm.MethodName)) ∈ am_words := am_in 833 (by decide +kernel) (by decide +kernel)
theorem wd_834 : (Jvm.Cond.instanceMethod ({ cls := "DigFill$Sheet", name := "hasAll", desc := "(II)Z" } : Jvm.MethodName)) ∈ am_words := am_in 834 (by decide +kernel) (by decide +kernel)
theorem wd_835 : (Jvm.Cond.selects "DigFill$Sheet" ({ cls := "DigFill$Sheet", name := "hasAll", desc := "(II)Z" } : Jvm.MethodName) ({ cls := "DigFill$Sheet", name := "hasAll", desc := "(II)Z" } : Jvm.MethodName)) ∈ am_words := am_in 835 (by decide +kernel) (by decide +kernel)
theorem wd_836 : (Jvm.Cond.code ({ cls := "DigFill$Sheet", name := "hasAll", desc := "(II)Z" } : Jvm.MethodName) prog_5_method_5_code (3 : Nat) (Option.some Jvm.ClassFile.FieldType.boolean)) ∈ am_words := am_in 836 (by decide +kernel) (by decide +kernel)
theorem wd_837 : (Jvm.Cond.methodLink "DigFill" (275 : Nat) ({ cls := "java/lang/System", name := "arraycopy", desc := "(Ljava/lang/Object;ILjava/lang/Object;II)V" } : Jvm.MethodName)) ∈ am_words := am_in 837 (by decide +kernel) (by decide +kernel)
theorem wd_838 : (Jvm.Cond.methodLink "DigFillLaw" (155 : Nat) ({ cls := "DigFill", name := "lay", desc := "(III)I" } : Jvm.MethodName)) ∈ am_words := am_in 838 (by decide +kernel) (by decide +kernel)
theorem wd_839 : (Jvm.Cond.instanceMethod ({ cls := "DigFill", name := "lay", desc := "(III)I" } : Jvm.MethodName)) ∈ am_words := am_in 839 (by decide +kernel) (by decide +kernel)
theorem wd_840 : (Jvm.Cond.selects "DigFill" ({ cls := "DigFill", name := "lay", desc := "(III)I" } : Jvm.MethodName) ({ cls := "DigFill", name := "lay", desc := "(III)I" } : Jvm.MethodName)) ∈ am_words := am_in 840 (by decide +kernel) (by decide +kernel)
theorem wd_841 : (Jvm.Cond.code ({ cls := "DigFill", name := "lay", desc := "(III)I" } : Jvm.MethodName) prog_1_method_36_code (8 : Nat) (Option.some Jvm.ClassFile.FieldType.int)) ∈ am_words := am_in 841 (by decide +kernel) (by decide +kernel)
theorem wd_842 : (Jvm.Cond.methodLink "DigFill" (281 : Nat) ({ cls := "DigFill", name := "slotAt", desc := "(I)LDigFill$Slot;" } : Jvm.MethodName)) ∈ am_words := am_in 842 (by decide +kernel) (by decide +kernel)
theorem wd_844 : (Jvm.Cond.instanceMethod ({ cls := "DigFill", name := "slotAt", desc := "(I)LDigFill$Slot;" } : Jvm.MethodName)) ∈ am_words := am_in 844 (by decide +kernel) (by decide +kernel)
theorem wd_845 : (Jvm.Cond.code ({ cls := "DigFill", name := "slotAt", desc := "(I)LDigFill$Slot;" } : Jvm.MethodName) prog_1_method_51_code (2 : Nat) (Option.some (Jvm.ClassFile.FieldType.object "DigFill$Slot"))) ∈ am_words := am_in 845 (by decide +kernel) (by decide +kernel)
theorem wd_846 : (Jvm.Cond.methodLink "DigFill" (295 : Nat) ({ cls := "DigFill$Hole", name := "become", desc := "(LDigFill$Hole;)V" } : Jvm.MethodName)) ∈ am_words := am_in 846 (by decide +kernel) (by decide +kernel)
theorem wd_847 : (Jvm.Cond.methodLink "DigFill" (302 : Nat) ({ cls := "DigFill$Sheet", name := "become", desc := "(LDigFill$Sheet;)V" } : Jvm.MethodName)) ∈ am_words := am_in 847 (by decide +kernel) (by decide +kernel)
theorem wd_848 : (Jvm.Cond.instanceMethod ({ cls := "DigFill$Sheet", name := "become", desc := "(LDigFill$Sheet;)V" } : Jvm.MethodName)) ∈ am_words := am_in 848 (by decide +kernel) (by decide +kernel)
theorem wd_849 : (Jvm.Cond.selects "DigFill$Sheet" ({ cls := "DigFill$Sheet", name := "become", desc := "(LDigFill$Sheet;)V" } : Jvm.MethodName) ({ cls := "DigFill$Sheet", name := "become", desc := "(LDigFill$Sheet;)V" } : Jvm.MethodName)) ∈ am_words := am_in 849 (by decide +kernel) (by decide +kernel)
theorem wd_850 : (Jvm.Cond.code ({ cls := "DigFill$Sheet", name := "become", desc := "(LDigFill$Sheet;)V" } : Jvm.MethodName) prog_5_method_3_code (2 : Nat) (Option.none : Option Jvm.ClassFile.FieldType)) ∈ am_words := am_in 850 (by decide +kernel) (by decide +kernel)
theorem wd_851 : (Jvm.Cond.methodLink "DigFill$Sheet" (28 : Nat) ({ cls := "java/lang/System", name := "arraycopy", desc := "(Ljava/lang/Object;ILjava/lang/Object;II)V" } : Jvm.MethodName)) ∈ am_words := am_in 851 (by decide +kernel) (by decide +kernel)
theorem wd_852 : (Jvm.Cond.methodLink "DigFillLaw" (159 : Nat) ({ cls := "DigFill", name := "ask", desc := "(II)I" } : Jvm.MethodName)) ∈ am_words := am_in 852 (by decide +kernel) (by decide +kernel)
theorem wd_853 : (Jvm.Cond.instanceMethod ({ cls := "DigFill", name := "ask", desc := "(II)I" } : Jvm.MethodName)) ∈ am_words := am_in 853 (by decide +kernel) (by decide +kernel)
theorem wd_854 : (Jvm.Cond.selects "DigFill" ({ cls := "DigFill", name := "ask", desc := "(II)I" } : Jvm.MethodName) ({ cls := "DigFill", name := "ask", desc := "(II)I" } : Jvm.MethodName)) ∈ am_words := am_in 854 (by decide +kernel) (by decide +kernel)
theorem wd_855 : (Jvm.Cond.code ({ cls := "DigFill", name := "ask", desc := "(II)I" } : Jvm.MethodName) prog_1_method_37_code (4 : Nat) (Option.some Jvm.ClassFile.FieldType.int)) ∈ am_words := am_in 855 (by decide +kernel) (by decide +kernel)
theorem wd_856 : (Jvm.Cond.methodLink "DigFill" (304 : Nat) ({ cls := "DigFill$Hole", name := "worth", desc := "()I" } : Jvm.MethodName)) ∈ am_words := am_in 856 (by decide +kernel) (by decide +kernel)
theorem wd_857 : (Jvm.Cond.methodLink "DigFillLaw" (163 : Nat) ({ cls := "DigFill", name := "item", desc := "(II)I" } : Jvm.MethodName)) ∈ am_words := am_in 857 (by decide +kernel) (by decide +kernel)
theorem wd_858 : (Jvm.Cond.instanceMethod ({ cls := "DigFill", name := "item", desc := "(II)I" } : Jvm.MethodName)) ∈ am_words := am_in 858 (by decide +kernel) (by decide +kernel)
theorem wd_859 : (Jvm.Cond.selects "DigFill" ({ cls := "DigFill", name := "item", desc := "(II)I" } : Jvm.MethodName) ({ cls := "DigFill", name := "item", desc := "(II)I" } : Jvm.MethodName)) ∈ am_words := am_in 859 (by decide +kernel) (by decide +kernel)
theorem wd_860 : (Jvm.Cond.code ({ cls := "DigFill", name := "item", desc := "(II)I" } : Jvm.MethodName) prog_1_method_38_code (4 : Nat) (Option.some Jvm.ClassFile.FieldType.int)) ∈ am_words := am_in 860 (by decide +kernel) (by decide +kernel)
theorem wd_861 : (Jvm.Cond.methodLink "DigFillLaw" (167 : Nat) ({ cls := "DigFill", name := "rest", desc := "(II)I" } : Jvm.MethodName)) ∈ am_words := am_in 861 (by decide +kernel) (by decide +kernel)
theorem wd_862 : (Jvm.Cond.instanceMethod ({ cls := "DigFill", name := "rest", desc := "(II)I" } : Jvm.MethodName)) ∈ am_words := am_in 862 (by decide +kernel) (by decide +kernel)
theorem wd_863 : (Jvm.Cond.selects "DigFill" ({ cls := "DigFill", name := "rest", desc := "(II)I" } : Jvm.MethodName) ({ cls := "DigFill", name := "rest", desc := "(II)I" } : Jvm.MethodName)) ∈ am_words := am_in 863 (by decide +kernel) (by decide +kernel)
theorem wd_864 : (Jvm.Cond.code ({ cls := "DigFill", name := "rest", desc := "(II)I" } : Jvm.MethodName) prog_1_method_39_code (4 : Nat) (Option.some Jvm.ClassFile.FieldType.int)) ∈ am_words := am_in 864 (by decide +kernel) (by decide +kernel)
theorem wd_865 : (Jvm.Cond.methodLink "DigFillLaw" (171 : Nat) ({ cls := "DigFill", name := "tell", desc := "(I)I" } : Jvm.MethodName)) ∈ am_words := am_in 865 (by decide +kernel) (by decide +kernel)
theorem wd_866 : (Jvm.Cond.instanceMethod ({ cls := "DigFill", name := "tell", desc := "(I)I" } : Jvm.MethodName)) ∈ am_words := am_in 866 (by decide +kernel) (by decide +kernel)
theorem wd_867 : (Jvm.Cond.selects "DigFill" ({ cls := "DigFill", name := "tell", desc := "(I)I" } : Jvm.MethodName) ({ cls := "DigFill", name := "tell", desc := "(I)I" } : Jvm.MethodName)) ∈ am_words := am_in 867 (by decide +kernel) (by decide +kernel)
theorem wd_868 : (Jvm.Cond.code ({ cls := "DigFill", name := "tell", desc := "(I)I" } : Jvm.MethodName) prog_1_method_40_code (2 : Nat) (Option.some Jvm.ClassFile.FieldType.int)) ∈ am_words := am_in 868 (by decide +kernel) (by decide +kernel)
theorem wd_869 : (Jvm.Cond.methodLink "DigFillLaw" (175 : Nat) ({ cls := "DigFill", name := "check", desc := "(I)I" } : Jvm.MethodName)) ∈ am_words := am_in 869 (by decide +kernel) (by decide +kernel)
theorem wd_870 : (Jvm.Cond.instanceMethod ({ cls := "DigFill", name := "check", desc := "(I)I" } : Jvm.MethodName)) ∈ am_words := am_in 870 (by decide +kernel) (by decide +kernel)
theorem wd_871 : (Jvm.Cond.selects "DigFill" ({ cls := "DigFill", name := "check", desc := "(I)I" } : Jvm.MethodName) ({ cls := "DigFill", name := "check", desc := "(I)I" } : Jvm.MethodName)) ∈ am_words := am_in 871 (by decide +kernel) (by decide +kernel)
theorem wd_872 : (Jvm.Cond.code ({ cls := "DigFill", name := "check", desc := "(I)I" } : Jvm.MethodName) prog_1_method_41_code (6 : Nat) (Option.some Jvm.ClassFile.FieldType.int)) ∈ am_words := am_in 872 (by decide +kernel) (by decide +kernel)
theorem wd_873 : (Jvm.Cond.methodLink "DigFillLaw" (179 : Nat) ({ cls := "DigFill", name := "keep", desc := "()I" } : Jvm.MethodName)) ∈ am_words := am_in 873 (by decide +kernel) (by decide +kernel)
theorem wd_874 : (Jvm.Cond.instanceMethod ({ cls := "DigFill", name := "keep", desc := "()I" } : Jvm.MethodName)) ∈ am_words := am_in 874 (by decide +kernel) (by decide +kernel)
theorem wd_875 : (Jvm.Cond.selects "DigFill" ({ cls := "DigFill", name := "keep", desc := "()I" } : Jvm.MethodName) ({ cls := "DigFill", name := "keep", desc := "()I" } : Jvm.MethodName)) ∈ am_words := am_in 875 (by decide +kernel) (by decide +kernel)
theorem wd_876 : (Jvm.Cond.code ({ cls := "DigFill", name := "keep", desc := "()I" } : Jvm.MethodName) prog_1_method_42_code (1 : Nat) (Option.some Jvm.ClassFile.FieldType.int)) ∈ am_words := am_in 876 (by decide +kernel) (by decide +kernel)
theorem wd_877 : (Jvm.Cond.methodLink "DigFillLaw" (183 : Nat) ({ cls := "DigFill", name := "back", desc := "()I" } : Jvm.MethodName)) ∈ am_words := am_in 877 (by decide +kernel) (by decide +kernel)
theorem wd_878 : (Jvm.Cond.instanceMethod ({ cls := "DigFill", name := "back", desc := "()I" } : Jvm.MethodName)) ∈ am_words := am_in 878 (by decide +kernel) (by decide +kernel)
theorem wd_879 : (Jvm.Cond.selects "DigFill" ({ cls := "DigFill", name := "back", desc := "()I" } : Jvm.MethodName) ({ cls := "DigFill", name := "back", desc := "()I" } : Jvm.MethodName)) ∈ am_words := am_in 879 (by decide +kernel) (by decide +kernel)
theorem wd_880 : (Jvm.Cond.code ({ cls := "DigFill", name := "back", desc := "()I" } : Jvm.MethodName) prog_1_method_43_code (1 : Nat) (Option.some Jvm.ClassFile.FieldType.int)) ∈ am_words := am_in 880 (by decide +kernel) (by decide +kernel)
theorem wd_881 : (Jvm.Cond.methodLink "DigFillLaw" (187 : Nat) ({ cls := "DigFill", name := "count", desc := "(I)I" } : Jvm.MethodName)) ∈ am_words := am_in 881 (by decide +kernel) (by decide +kernel)
theorem wd_882 : (Jvm.Cond.instanceMethod ({ cls := "DigFill", name := "count", desc := "(I)I" } : Jvm.MethodName)) ∈ am_words := am_in 882 (by decide +kernel) (by decide +kernel)
theorem wd_883 : (Jvm.Cond.selects "DigFill" ({ cls := "DigFill", name := "count", desc := "(I)I" } : Jvm.MethodName) ({ cls := "DigFill", name := "count", desc := "(I)I" } : Jvm.MethodName)) ∈ am_words := am_in 883 (by decide +kernel) (by decide +kernel)
theorem wd_884 : (Jvm.Cond.code ({ cls := "DigFill", name := "count", desc := "(I)I" } : Jvm.MethodName) prog_1_method_44_code (2 : Nat) (Option.some Jvm.ClassFile.FieldType.int)) ∈ am_words := am_in 884 (by decide +kernel) (by decide +kernel)
theorem wd_885 : (Jvm.Cond.classLink "DigFillLaw" (10 : Nat) "DigFillModel") ∈ am_words := am_in 885 (by decide +kernel) (by decide +kernel)
theorem wd_886 : (Jvm.Cond.instantiable "DigFillModel" (38 : Nat)) ∈ am_words := am_in 886 (by decide +kernel) (by decide +kernel)
theorem wd_887 : (Jvm.Cond.methodLink "DigFillLaw" (12 : Nat) ({ cls := "DigFillModel", name := "<init>", desc := "()V" } : Jvm.MethodName)) ∈ am_words := am_in 887 (by decide +kernel) (by decide +kernel)
theorem wd_888 : (Jvm.Cond.instanceMethod ({ cls := "DigFillModel", name := "<init>", desc := "()V" } : Jvm.MethodName)) ∈ am_words := am_in 888 (by decide +kernel) (by decide +kernel)
theorem wd_889 : (Jvm.Cond.code ({ cls := "DigFillModel", name := "<init>", desc := "()V" } : Jvm.MethodName) prog_10_method_1_code (1 : Nat) (Option.none : Option Jvm.ClassFile.FieldType)) ∈ am_words := am_in 889 (by decide +kernel) (by decide +kernel)
theorem wd_890 : (Jvm.Cond.methodLink "DigFillModel" (1 : Nat) ({ cls := "java/lang/Object", name := "<init>", desc := "()V" } : Jvm.MethodName)) ∈ am_words := am_in 890 (by decide +kernel) (by decide +kernel)
theorem wd_891 : (Jvm.Cond.fieldLink "DigFillModel" (9 : Nat) "DigFillModel" "now" "[I") ∈ am_words := am_in 891 (by decide +kernel) (by decide +kernel)
theorem wd_892 : (Jvm.Cond.fieldLink "DigFillModel" (13 : Nat) "DigFillModel" "image" "[I") ∈ am_words := am_in 892 (by decide +kernel) (by decide +kernel)
theorem wd_893 : (Jvm.Cond.fieldLink "DigFillModel" (16 : Nat) "DigFillModel" "aside" "[I") ∈ am_words := am_in 893 (by decide +kernel) (by decide +kernel)
theorem wd_894 : (Jvm.Cond.fieldLink "DigFillModel" (292 : Nat) "DigFillModel" "hasImage" "Z") ∈ am_words := am_in 894 (by decide +kernel) (by decide +kernel)
theorem wd_895 : (Jvm.Cond.fieldLink "DigFillModel" (19 : Nat) "DigFillModel" "hasIt" "[I") ∈ am_words := am_in 895 (by decide +kernel) (by decide +kernel)
theorem wd_896 : (Jvm.Cond.fieldLink "DigFillModel" (22 : Nat) "DigFillModel" "wasAsked" "[Z") ∈ am_words := am_in 896 (by decide +kernel) (by decide +kernel)
theorem wd_897 : (Jvm.Cond.fieldLink "DigFillModel" (26 : Nat) "DigFillModel" "scores" "[I") ∈ am_words := am_in 897 (by decide +kernel) (by decide +kernel)
theorem wd_898 : (Jvm.Cond.fieldLink "DigFillModel" (29 : Nat) "DigFillModel" "dealt" "[I") ∈ am_words := am_in 898 (by decide +kernel) (by decide +kernel)
theorem wd_899 : (Jvm.Cond.fieldLink "DigFillModel" (32 : Nat) "DigFillModel" "before" "[I") ∈ am_words := am_in 899 (by decide +kernel) (by decide +kernel)
theorem wd_900 : (Jvm.Cond.fieldLink "DigFillModel" (35 : Nat) "DigFillModel" "offs" "[J") ∈ am_words := am_in 900 (by decide +kernel) (by decide +kernel)
theorem wd_901 : (Jvm.Cond.fieldLink "DigFillModel" (39 : Nat) "DigFillModel" "tape" "[I") ∈ am_words := am_in 901 (by decide +kernel) (by decide +kernel)
theorem wd_902 : (Jvm.Cond.fieldLink "DigFillModel" (214 : Nat) "DigFillModel" "taped" "I") ∈ am_words := am_in 902 (by decide +kernel) (by decide +kernel)
theorem wd_903 : (Jvm.Cond.fieldLink "DigFillModel" (218 : Nat) "DigFillModel" "next" "I") ∈ am_words := am_in 903 (by decide +kernel) (by decide +kernel)
theorem wd_904 : (Jvm.Cond.fieldLink "DigFillModel" (221 : Nat) "DigFillModel" "from" "I") ∈ am_words := am_in 904 (by decide +kernel) (by decide +kernel)
theorem wd_905 : (Jvm.Cond.fieldLink "DigFillModel" (227 : Nat) "DigFillModel" "token" "I") ∈ am_words := am_in 905 (by decide +kernel) (by decide +kernel)
theorem wd_906 : (Jvm.Cond.fieldLink "DigFillModel" (233 : Nat) "DigFillModel" "value" "I") ∈ am_words := am_in 906 (by decide +kernel) (by decide +kernel)
theorem wd_907 : (Jvm.Cond.fieldLink "DigFillModel" (224 : Nat) "DigFillModel" "ended" "I") ∈ am_words := am_in 907 (by decide +kernel) (by decide +kernel)
theorem wd_908 : (Jvm.Cond.fieldLink "DigFillModel" (239 : Nat) "DigFillModel" "key" "I") ∈ am_words := am_in 908 (by decide +kernel) (by decide +kernel)
theorem wd_909 : (Jvm.Cond.fieldLink "DigFillModel" (42 : Nat) "DigFillModel" "keys" "[C") ∈ am_words := am_in 909 (by decide +kernel) (by decide +kernel)
theorem wd_910 : (Jvm.Cond.fieldLink "DigFillModel" (46 : Nat) "DigFillModel" "keyAt" "[I") ∈ am_words := am_in 910 (by decide +kernel) (by decide +kernel)
theorem wd_911 : (Jvm.Cond.fieldLink "DigFillModel" (49 : Nat) "DigFillModel" "code" "[I") ∈ am_words := am_in 911 (by decide +kernel) (by decide +kernel)
theorem wd_912 : (Jvm.Cond.fieldLink "DigFillModel" (251 : Nat) "DigFillModel" "codes" "I") ∈ am_words := am_in 912 (by decide +kernel) (by decide +kernel)
theorem wd_913 : (Jvm.Cond.fieldLink "DigFillModel" (257 : Nat) "DigFillModel" "atoms" "I") ∈ am_words := am_in 913 (by decide +kernel) (by decide +kernel)
theorem wd_914 : (Jvm.Cond.fieldLink "DigFillModel" (52 : Nat) "DigFillModel" "waits" "[I") ∈ am_words := am_in 914 (by decide +kernel) (by decide +kernel)
theorem wd_915 : (Jvm.Cond.fieldLink "DigFillModel" (245 : Nat) "DigFillModel" "held" "I") ∈ am_words := am_in 915 (by decide +kernel) (by decide +kernel)
theorem wd_916 : (Jvm.Cond.fieldLink "DigFillModel" (55 : Nat) "DigFillModel" "tested" "[Z") ∈ am_words := am_in 916 (by decide +kernel) (by decide +kernel)
theorem wd_917 : (Jvm.Cond.fieldLink "DigFillModel" (58 : Nat) "DigFillModel" "stack" "[I") ∈ am_words := am_in 917 (by decide +kernel) (by decide +kernel)
theorem wd_918 : (Jvm.Cond.fieldLink "DigFillModel" (61 : Nat) "DigFillModel" "facts" "[I") ∈ am_words := am_in 918 (by decide +kernel) (by decide +kernel)
theorem wd_919 : (Jvm.Cond.fieldLink "DigFillModel" (64 : Nat) "DigFillModel" "sorts" "[I") ∈ am_words := am_in 919 (by decide +kernel) (by decide +kernel)
theorem wd_920 : (Jvm.Cond.fieldLink "DigFillModel" (67 : Nat) "DigFillModel" "sizes" "[I") ∈ am_words := am_in 920 (by decide +kernel) (by decide +kernel)
theorem wd_921 : (Jvm.Cond.fieldLink "DigFillModel" (70 : Nat) "DigFillModel" "cells" "[I") ∈ am_words := am_in 921 (by decide +kernel) (by decide +kernel)
theorem wd_922 : (Jvm.Cond.fieldLink "DigFillModel" (73 : Nat) "DigFillModel" "holds" "[I") ∈ am_words := am_in 922 (by decide +kernel) (by decide +kernel)
theorem wd_923 : (Jvm.Cond.fieldLink "DigFillModel" (76 : Nat) "DigFillModel" "holdsA" "[I") ∈ am_words := am_in 923 (by decide +kernel) (by decide +kernel)
theorem wd_924 : (Jvm.Cond.fieldLink "DigFillModel" (79 : Nat) "DigFillModel" "holdsB" "[I") ∈ am_words := am_in 924 (by decide +kernel) (by decide +kernel)
theorem wd_925 : (Jvm.Cond.fieldLink "DigFillModel" (82 : Nat) "DigFillModel" "heldCells" "[I") ∈ am_words := am_in 925 (by decide +kernel) (by decide +kernel)
theorem wd_926 : (Jvm.Cond.fieldLink "DigFillModel" (85 : Nat) "DigFillModel" "moved" "[I") ∈ am_words := am_in 926 (by decide +kernel) (by decide +kernel)
theorem wd_927 : (Jvm.Cond.fieldLink "DigFillModel" (88 : Nat) "DigFillModel" "tells" "[I") ∈ am_words := am_in 927 (by decide +kernel) (by decide +kernel)
theorem wd_928 : (Jvm.Cond.fieldLink "DigFillModel" (289 : Nat) "DigFillModel" "waiting" "I") ∈ am_words := am_in 928 (by decide +kernel) (by decide +kernel)
theorem wd_1006 : (Jvm.Cond.arrayClass Jvm.ClassFile.FieldType.boolean) ∈ am_words := am_in 1006 (by decide +kernel) (by decide +kernel)
theorem wd_1007 : (Jvm.Cond.arrayClass Jvm.ClassFile.FieldType.char) ∈ am_words := am_in 1007 (by decide +kernel) (by decide +kernel)
theorem wd_1008 : (Jvm.Cond.methodLink "DigFillLaw" (17 : Nat) ({ cls := "DigFillModel", name := "hole", desc := "(IIII)I" } : Jvm.MethodName)) ∈ am_words := am_in 1008 (by decide +kernel) (by decide +kernel)
theorem wd_1009 : (Jvm.Cond.instanceMethod ({ cls := "DigFillModel", name := "hole", desc := "(IIII)I" } : Jvm.MethodName)) ∈ am_words := am_in 1009 (by decide +kernel) (by decide +kernel)
theorem wd_1010 : (Jvm.Cond.selects "DigFillModel" ({ cls := "DigFillModel", name := "hole", desc := "(IIII)I" } : Jvm.MethodName) ({ cls := "DigFillModel", name := "hole", desc := "(IIII)I" } : Jvm.MethodName)) ∈ am_words := am_in 1010 (by decide +kernel) (by decide +kernel)
theorem wd_1011 : (Jvm.Cond.code ({ cls := "DigFillModel", name := "hole", desc := "(IIII)I" } : Jvm.MethodName) prog_10_method_15_code (5 : Nat) (Option.some Jvm.ClassFile.FieldType.int)) ∈ am_words := am_in 1011 (by decide +kernel) (by decide +kernel)
theorem wd_1012 : (Jvm.Cond.methodLink "DigFillModel" (92 : Nat) ({ cls := "DigFillModel", name := "in", desc := "(III)Z" } : Jvm.MethodName)) ∈ am_words := am_in 1012 (by decide +kernel) (by decide +kernel)
theorem wd_1013 : (Jvm.Cond.static ({ cls := "DigFillModel", name := "in", desc := "(III)Z" } : Jvm.MethodName)) ∈ am_words := am_in 1013 (by decide +kernel) (by decide +kernel)
theorem wd_1014 : (Jvm.Cond.code ({ cls := "DigFillModel", name := "in", desc := "(III)Z" } : Jvm.MethodName) prog_10_method_2_code (3 : Nat) (Option.some Jvm.ClassFile.FieldType.boolean)) ∈ am_words := am_in 1014 (by decide +kernel) (by decide +kernel)
theorem wd_1015 : (Jvm.Cond.methodLink "DigFillModel" (104 : Nat) ({ cls := "DigFillModel", name := "isPlace", desc := "(I)Z" } : Jvm.MethodName)) ∈ am_words := am_in 1015 (by decide +kernel) (by decide +kernel)
theorem wd_1016 : (Jvm.Cond.static ({ cls := "DigFillModel", name := "isPlace", desc := "(I)Z" } : Jvm.MethodName)) ∈ am_words := am_in 1016 (by decide +kernel) (by decide +kernel)
theorem wd_1017 : (Jvm.Cond.code ({ cls := "DigFillModel", name := "isPlace", desc := "(I)Z" } : Jvm.MethodName) prog_10_method_7_code (1 : Nat) (Option.some Jvm.ClassFile.FieldType.boolean)) ∈ am_words := am_in 1017 (by decide +kernel) (by decide +kernel)
theorem wd_1018 : (Jvm.Cond.methodLink "DigFillModel" (108 : Nat) ({ cls := "DigFillModel", name := "isOwner", desc := "(I)Z" } : Jvm.MethodName)) ∈ am_words := am_in 1018 (by decide +kernel) (by decide +kernel)
theorem wd_1019 : (Jvm.Cond.static ({ cls := "DigFillModel", name := "isOwner", desc := "(I)Z" } : Jvm.MethodName)) ∈ am_words := am_in 1019 (by decide +kernel) (by decide +kernel)
theorem wd_1020 : (Jvm.Cond.code ({ cls := "DigFillModel", name := "isOwner", desc := "(I)Z" } : Jvm.MethodName) prog_10_method_8_code (1 : Nat) (Option.some Jvm.ClassFile.FieldType.boolean)) ∈ am_words := am_in 1020 (by decide +kernel) (by decide +kernel)
theorem wd_1021 : (Jvm.Cond.constant "DigFillModel" (111 : Nat) (-1000000001 : Int32)) ∈ am_words := am_in 1021 (by decide +kernel) (by decide +kernel)
theorem wd_1022 : (Jvm.Cond.constant "DigFillModel" (112 : Nat) (-1000000003 : Int32)) ∈ am_words := am_in 1022 (by decide +kernel) (by decide +kernel)
theorem wd_1023 : (Jvm.Cond.methodLink "DigFillModel" (113 : Nat) ({ cls := "DigFillModel", name := "comes", desc := "(IIII)I" } : Jvm.MethodName)) ∈ am_words := am_in 1023 (by decide +kernel) (by decide +kernel)
theorem wd_1025 : (Jvm.Cond.instanceMethod ({ cls := "DigFillModel", name := "comes", desc := "(IIII)I" } : Jvm.MethodName)) ∈ am_words := am_in 1025 (by decide +kernel) (by decide +kernel)
theorem wd_1026 : (Jvm.Cond.code ({ cls := "DigFillModel", name := "comes", desc := "(IIII)I" } : Jvm.MethodName) prog_10_method_14_code (5 : Nat) (Option.some Jvm.ClassFile.FieldType.int)) ∈ am_words := am_in 1026 (by decide +kernel) (by decide +kernel)
theorem wd_1027 : (Jvm.Cond.methodLink "DigFillModel" (100 : Nat) ({ cls := "DigFillModel", name := "lays", desc := "(IIIII)V" } : Jvm.MethodName)) ∈ am_words := am_in 1027 (by decide +kernel) (by decide +kernel)
theorem wd_1029 : (Jvm.Cond.instanceMethod ({ cls := "DigFillModel", name := "lays", desc := "(IIIII)V" } : Jvm.MethodName)) ∈ am_words := am_in 1029 (by decide +kernel) (by decide +kernel)
theorem wd_1030 : (Jvm.Cond.code ({ cls := "DigFillModel", name := "lays", desc := "(IIIII)V" } : Jvm.MethodName) prog_10_method_13_code (6 : Nat) (Option.none : Option Jvm.ClassFile.FieldType)) ∈ am_words := am_in 1030 (by decide +kernel) (by decide +kernel)
theorem wd_1031 : (Jvm.Cond.methodLink "DigFillModel" (96 : Nat) ({ cls := "DigFillModel", name := "put", desc := "(III)V" } : Jvm.MethodName)) ∈ am_words := am_in 1031 (by decide +kernel) (by decide +kernel)
theorem wd_1033 : (Jvm.Cond.instanceMethod ({ cls := "DigFillModel", name := "put", desc := "(III)V" } : Jvm.MethodName)) ∈ am_words := am_in 1033 (by decide +kernel) (by decide +kernel)
theorem wd_1034 : (Jvm.Cond.code ({ cls := "DigFillModel", name := "put", desc := "(III)V" } : Jvm.MethodName) prog_10_method_11_code (4 : Nat) (Option.none : Option Jvm.ClassFile.FieldType)) ∈ am_words := am_in 1034 (by decide +kernel) (by decide +kernel)
theorem wd_1035 : (Jvm.Cond.methodLink "DigFillLaw" (22 : Nat) ({ cls := "DigFillModel", name := "told", desc := "(II)I" } : Jvm.MethodName)) ∈ am_words := am_in 1035 (by decide +kernel) (by decide +kernel)
theorem wd_1036 : (Jvm.Cond.instanceMethod ({ cls := "DigFillModel", name := "told", desc := "(II)I" } : Jvm.MethodName)) ∈ am_words := am_in 1036 (by decide +kernel) (by decide +kernel)
theorem wd_1037 : (Jvm.Cond.selects "DigFillModel" ({ cls := "DigFillModel", name := "told", desc := "(II)I" } : Jvm.MethodName) ({ cls := "DigFillModel", name := "told", desc := "(II)I" } : Jvm.MethodName)) ∈ am_words := am_in 1037 (by decide +kernel) (by decide +kernel)
theorem wd_1038 : (Jvm.Cond.code ({ cls := "DigFillModel", name := "told", desc := "(II)I" } : Jvm.MethodName) prog_10_method_17_code (3 : Nat) (Option.some Jvm.ClassFile.FieldType.int)) ∈ am_words := am_in 1038 (by decide +kernel) (by decide +kernel)
theorem wd_1039 : (Jvm.Cond.methodLink "DigFillModel" (121 : Nat) ({ cls := "DigFillModel", name := "isHole", desc := "(I)Z" } : Jvm.MethodName)) ∈ am_words := am_in 1039 (by decide +kernel) (by decide +kernel)
theorem wd_1041 : (Jvm.Cond.instanceMethod ({ cls := "DigFillModel", name := "isHole", desc := "(I)Z" } : Jvm.MethodName)) ∈ am_words := am_in 1041 (by decide +kernel) (by decide +kernel)
theorem wd_1042 : (Jvm.Cond.code ({ cls := "DigFillModel", name := "isHole", desc := "(I)Z" } : Jvm.MethodName) prog_10_method_6_code (2 : Nat) (Option.some Jvm.ClassFile.FieldType.boolean)) ∈ am_words := am_in 1042 (by decide +kernel) (by decide +kernel)
theorem wd_1043 : (Jvm.Cond.methodLink "DigFillModel" (117 : Nat) ({ cls := "DigFillModel", name := "of", desc := "(II)I" } : Jvm.MethodName)) ∈ am_words := am_in 1043 (by decide +kernel) (by decide +kernel)
theorem wd_1045 : (Jvm.Cond.instanceMethod ({ cls := "DigFillModel", name := "of", desc := "(II)I" } : Jvm.MethodName)) ∈ am_words := am_in 1045 (by decide +kernel) (by decide +kernel)
theorem wd_1046 : (Jvm.Cond.code ({ cls := "DigFillModel", name := "of", desc := "(II)I" } : Jvm.MethodName) prog_10_method_10_code (3 : Nat) (Option.some Jvm.ClassFile.FieldType.int)) ∈ am_words := am_in 1046 (by decide +kernel) (by decide +kernel)
theorem wd_1047 : (Jvm.Cond.methodLink "DigFillModel" (124 : Nat) ({ cls := "DigFillModel", name := "worthOf", desc := "(I)I" } : Jvm.MethodName)) ∈ am_words := am_in 1047 (by decide +kernel) (by decide +kernel)
theorem wd_1049 : (Jvm.Cond.instanceMethod ({ cls := "DigFillModel", name := "worthOf", desc := "(I)I" } : Jvm.MethodName)) ∈ am_words := am_in 1049 (by decide +kernel) (by decide +kernel)
theorem wd_1050 : (Jvm.Cond.code ({ cls := "DigFillModel", name := "worthOf", desc := "(I)I" } : Jvm.MethodName) prog_10_method_16_code (3 : Nat) (Option.some Jvm.ClassFile.FieldType.int)) ∈ am_words := am_in 1050 (by decide +kernel) (by decide +kernel)
theorem wd_1051 : (Jvm.Cond.methodLink "DigFillLaw" (26 : Nat) ({ cls := "DigFillModel", name := "as", desc := "(II)I" } : Jvm.MethodName)) ∈ am_words := am_in 1051 (by decide +kernel) (by decide +kernel)
theorem wd_1052 : (Jvm.Cond.instanceMethod ({ cls := "DigFillModel", name := "as", desc := "(II)I" } : Jvm.MethodName)) ∈ am_words := am_in 1052 (by decide +kernel) (by decide +kernel)
theorem wd_1053 : (Jvm.Cond.selects "DigFillModel" ({ cls := "DigFillModel", name := "as", desc := "(II)I" } : Jvm.MethodName) ({ cls := "DigFillModel", name := "as", desc := "(II)I" } : Jvm.MethodName)) ∈ am_words := am_in 1053 (by decide +kernel) (by decide +kernel)
theorem wd_1054 : (Jvm.Cond.code ({ cls := "DigFillModel", name := "as", desc := "(II)I" } : Jvm.MethodName) prog_10_method_19_code (3 : Nat) (Option.some Jvm.ClassFile.FieldType.int)) ∈ am_words := am_in 1054 (by decide +kernel) (by decide +kernel)
theorem wd_1055 : (Jvm.Cond.methodLink "DigFillModel" (128 : Nat) ({ cls := "DigFillModel", name := "isUnder", desc := "(II)Z" } : Jvm.MethodName)) ∈ am_words := am_in 1055 (by decide +kernel) (by decide +kernel)
theorem wd_1056 : (Jvm.Cond.static ({ cls := "DigFillModel", name := "isUnder", desc := "(II)Z" } : Jvm.MethodName)) ∈ am_words := am_in 1056 (by decide +kernel) (by decide +kernel)
theorem wd_1057 : (Jvm.Cond.code ({ cls := "DigFillModel", name := "isUnder", desc := "(II)Z" } : Jvm.MethodName) prog_10_method_18_code (2 : Nat) (Option.some Jvm.ClassFile.FieldType.boolean)) ∈ am_words := am_in 1057 (by decide +kernel) (by decide +kernel)
theorem wd_1058 : (Jvm.Cond.constant "DigFillModel" (132 : Nat) (-1000000012 : Int32)) ∈ am_words := am_in 1058 (by decide +kernel) (by decide +kernel)
theorem wd_1059 : (Jvm.Cond.methodLink "DigFillLaw" (30 : Nat) ({ cls := "DigFillModel", name := "turns", desc := "(II)I" } : Jvm.MethodName)) ∈ am_words := am_in 1059 (by decide +kernel) (by decide +kernel)
theorem wd_1060 : (Jvm.Cond.instanceMethod ({ cls := "DigFillModel", name := "turns", desc := "(II)I" } : Jvm.MethodName)) ∈ am_words := am_in 1060 (by decide +kernel) (by decide +kernel)
theorem wd_1061 : (Jvm.Cond.selects "DigFillModel" ({ cls := "DigFillModel", name := "turns", desc := "(II)I" } : Jvm.MethodName) ({ cls := "DigFillModel", name := "turns", desc := "(II)I" } : Jvm.MethodName)) ∈ am_words := am_in 1061 (by decide +kernel) (by decide +kernel)
theorem wd_1062 : (Jvm.Cond.code ({ cls := "DigFillModel", name := "turns", desc := "(II)I" } : Jvm.MethodName) prog_10_method_20_code (3 : Nat) (Option.some Jvm.ClassFile.FieldType.int)) ∈ am_words := am_in 1062 (by decide +kernel) (by decide +kernel)
theorem wd_1063 : (Jvm.Cond.methodLink "DigFillModel" (133 : Nat) ({ cls := "DigFillModel", name := "becomes", desc := "(II)I" } : Jvm.MethodName)) ∈ am_words := am_in 1063 (by decide +kernel) (by decide +kernel)
theorem wd_1065 : (Jvm.Cond.instanceMethod ({ cls := "DigFillModel", name := "becomes", desc := "(II)I" } : Jvm.MethodName)) ∈ am_words := am_in 1065 (by decide +kernel) (by decide +kernel)
theorem wd_1066 : (Jvm.Cond.code ({ cls := "DigFillModel", name := "becomes", desc := "(II)I" } : Jvm.MethodName) prog_10_method_12_code (4 : Nat) (Option.some Jvm.ClassFile.FieldType.int)) ∈ am_words := am_in 1066 (by decide +kernel) (by decide +kernel)
theorem wd_1067 : (Jvm.Cond.methodLink "DigFillLaw" (35 : Nat) ({ cls := "DigFillModel", name := "set", desc := "(III)I" } : Jvm.MethodName)) ∈ am_words := am_in 1067 (by decide +kernel) (by decide +kernel)
theorem wd_1068 : (Jvm.Cond.instanceMethod ({ cls := "DigFillModel", name := "set", desc := "(III)I" } : Jvm.MethodName)) ∈ am_words := am_in 1068 (by decide +kernel) (by decide +kernel)
theorem wd_1069 : (Jvm.Cond.selects "DigFillModel" ({ cls := "DigFillModel", name := "set", desc := "(III)I" } : Jvm.MethodName) ({ cls := "DigFillModel", name := "set", desc := "(III)I" } : Jvm.MethodName)) ∈ am_words := am_in 1069 (by decide +kernel) (by decide +kernel)
theorem wd_1070 : (Jvm.Cond.code ({ cls := "DigFillModel", name := "set", desc := "(III)I" } : Jvm.MethodName) prog_10_method_21_code (4 : Nat) (Option.some Jvm.ClassFile.FieldType.int)) ∈ am_words := am_in 1070 (by decide +kernel) (by decide +kernel)
theorem wd_1071 : (Jvm.Cond.methodLink "DigFillLaw" (39 : Nat) ({ cls := "DigFillModel", name := "settles", desc := "(II)I" } : Jvm.MethodName)) ∈ am_words := am_in 1071 (by decide +kernel) (by decide +kernel)
theorem wd_1072 : (Jvm.Cond.instanceMethod ({ cls := "DigFillModel", name := "settles", desc := "(II)I" } : Jvm.MethodName)) ∈ am_words := am_in 1072 (by decide +kernel) (by decide +kernel)
theorem wd_1073 : (Jvm.Cond.selects "DigFillModel" ({ cls := "DigFillModel", name := "settles", desc := "(II)I" } : Jvm.MethodName) ({ cls := "DigFillModel", name := "settles", desc := "(II)I" } : Jvm.MethodName)) ∈ am_words := am_in 1073 (by decide +kernel) (by decide +kernel)
theorem wd_1074 : (Jvm.Cond.code ({ cls := "DigFillModel", name := "settles", desc := "(II)I" } : Jvm.MethodName) prog_10_method_23_code (3 : Nat) (Option.some Jvm.ClassFile.FieldType.int)) ∈ am_words := am_in 1074 (by decide +kernel) (by decide +kernel)
theorem wd_1075 : (Jvm.Cond.methodLink "DigFillModel" (146 : Nat) ({ cls := "DigFillModel", name := "settlesBy", desc := "(II)I" } : Jvm.MethodName)) ∈ am_words := am_in 1075 (by decide +kernel) (by decide +kernel)
theorem wd_1077 : (Jvm.Cond.instanceMethod ({ cls := "DigFillModel", name := "settlesBy", desc := "(II)I" } : Jvm.MethodName)) ∈ am_words := am_in 1077 (by decide +kernel) (by decide +kernel)
theorem wd_1078 : (Jvm.Cond.code ({ cls := "DigFillModel", name := "settlesBy", desc := "(II)I" } : Jvm.MethodName) prog_10_method_22_code (6 : Nat) (Option.some Jvm.ClassFile.FieldType.int)) ∈ am_words := am_in 1078 (by decide +kernel) (by decide +kernel)
theorem wd_1079 : (Jvm.Cond.methodLink "DigFillModel" (136 : Nat) ({ cls := "DigFillModel", name := "counts", desc := "(I)I" } : Jvm.MethodName)) ∈ am_words := am_in 1079 (by decide +kernel) (by decide +kernel)
theorem wd_1081 : (Jvm.Cond.instanceMethod ({ cls := "DigFillModel", name := "counts", desc := "(I)I" } : Jvm.MethodName)) ∈ am_words := am_in 1081 (by decide +kernel) (by decide +kernel)
theorem wd_1082 : (Jvm.Cond.code ({ cls := "DigFillModel", name := "counts", desc := "(I)I" } : Jvm.MethodName) prog_10_method_74_code (3 : Nat) (Option.some Jvm.ClassFile.FieldType.int)) ∈ am_words := am_in 1082 (by decide +kernel) (by decide +kernel)
theorem wd_1083 : (Jvm.Cond.methodLink "DigFillModel" (139 : Nat) ({ cls := "DigFillModel", name := "worksOut", desc := "(I)I" } : Jvm.MethodName)) ∈ am_words := am_in 1083 (by decide +kernel) (by decide +kernel)
theorem wd_1085 : (Jvm.Cond.instanceMethod ({ cls := "DigFillModel", name := "worksOut", desc := "(I)I" } : Jvm.MethodName)) ∈ am_words := am_in 1085 (by decide +kernel) (by decide +kernel)
theorem wd_1086 : (Jvm.Cond.code ({ cls := "DigFillModel", name := "worksOut", desc := "(I)I" } : Jvm.MethodName) prog_10_method_77_code (6 : Nat) (Option.some Jvm.ClassFile.FieldType.int)) ∈ am_words := am_in 1086 (by decide +kernel) (by decide +kernel)
theorem wd_1087 : (Jvm.Cond.methodLink "DigFillModel" (279 : Nat) ({ cls := "DigFillModel", name := "two", desc := "(III)I" } : Jvm.MethodName)) ∈ am_words := am_in 1087 (by decide +kernel) (by decide +kernel)
theorem wd_1088 : (Jvm.Cond.static ({ cls := "DigFillModel", name := "two", desc := "(III)I" } : Jvm.MethodName)) ∈ am_words := am_in 1088 (by decide +kernel) (by decide +kernel)
theorem wd_1089 : (Jvm.Cond.code ({ cls := "DigFillModel", name := "two", desc := "(III)I" } : Jvm.MethodName) prog_10_method_76_code (3 : Nat) (Option.some Jvm.ClassFile.FieldType.int)) ∈ am_words := am_in 1089 (by decide +kernel) (by decide +kernel)
theorem wd_1090 : (Jvm.Cond.methodLink "DigFillModel" (142 : Nat) ({ cls := "DigFillModel", name := "within", desc := "(III)I" } : Jvm.MethodName)) ∈ am_words := am_in 1090 (by decide +kernel) (by decide +kernel)
theorem wd_1091 : (Jvm.Cond.static ({ cls := "DigFillModel", name := "within", desc := "(III)I" } : Jvm.MethodName)) ∈ am_words := am_in 1091 (by decide +kernel) (by decide +kernel)
theorem wd_1092 : (Jvm.Cond.code ({ cls := "DigFillModel", name := "within", desc := "(III)I" } : Jvm.MethodName) prog_10_method_3_code (3 : Nat) (Option.some Jvm.ClassFile.FieldType.int)) ∈ am_words := am_in 1092 (by decide +kernel) (by decide +kernel)
theorem wd_1093 : (Jvm.Cond.methodLink "DigFillLaw" (43 : Nat) ({ cls := "DigFillModel", name := "rule", desc := "(II)I" } : Jvm.MethodName)) ∈ am_words := am_in 1093 (by decide +kernel) (by decide +kernel)
theorem wd_1094 : (Jvm.Cond.instanceMethod ({ cls := "DigFillModel", name := "rule", desc := "(II)I" } : Jvm.MethodName)) ∈ am_words := am_in 1094 (by decide +kernel) (by decide +kernel)
theorem wd_1095 : (Jvm.Cond.selects "DigFillModel" ({ cls := "DigFillModel", name := "rule", desc := "(II)I" } : Jvm.MethodName) ({ cls := "DigFillModel", name := "rule", desc := "(II)I" } : Jvm.MethodName)) ∈ am_words := am_in 1095 (by decide +kernel) (by decide +kernel)
theorem wd_1096 : (Jvm.Cond.code ({ cls := "DigFillModel", name := "rule", desc := "(II)I" } : Jvm.MethodName) prog_10_method_24_code (3 : Nat) (Option.some Jvm.ClassFile.FieldType.int)) ∈ am_words := am_in 1096 (by decide +kernel) (by decide +kernel)
theorem wd_1097 : (Jvm.Cond.methodLink "DigFillLaw" (48 : Nat) ({ cls := "DigFillModel", name := "deal", desc := "(I)I" } : Jvm.MethodName)) ∈ am_words := am_in 1097 (by decide +kernel) (by decide +kernel)
theorem wd_1098 : (Jvm.Cond.instanceMethod ({ cls := "DigFillModel", name := "deal", desc := "(I)I" } : Jvm.MethodName)) ∈ am_words := am_in 1098 (by decide +kernel) (by decide +kernel)
theorem wd_1099 : (Jvm.Cond.selects "DigFillModel" ({ cls := "DigFillModel", name := "deal", desc := "(I)I" } : Jvm.MethodName) ({ cls := "DigFillModel", name := "deal", desc := "(I)I" } : Jvm.MethodName)) ∈ am_words := am_in 1099 (by decide +kernel) (by decide +kernel)
theorem wd_1100 : (Jvm.Cond.code ({ cls := "DigFillModel", name := "deal", desc := "(I)I" } : Jvm.MethodName) prog_10_method_26_code (7 : Nat) (Option.some Jvm.ClassFile.FieldType.int)) ∈ am_words := am_in 1100 (by decide +kernel) (by decide +kernel)
theorem wd_1101 : (Jvm.Cond.methodLink "DigFillModel" (150 : Nat) ({ cls := "DigFillModel", name := "draw", desc := "()I" } : Jvm.MethodName)) ∈ am_words := am_in 1101 (by decide +kernel) (by decide +kernel)
theorem wd_1103 : (Jvm.Cond.instanceMethod ({ cls := "DigFillModel", name := "draw", desc := "()I" } : Jvm.MethodName)) ∈ am_words := am_in 1103 (by decide +kernel) (by decide +kernel)
theorem wd_1104 : (Jvm.Cond.code ({ cls := "DigFillModel", name := "draw", desc := "()I" } : Jvm.MethodName) prog_10_method_25_code (1 : Nat) (Option.some Jvm.ClassFile.FieldType.int)) ∈ am_words := am_in 1104 (by decide +kernel) (by decide +kernel)
theorem wd_1105 : (Jvm.Cond.constant "DigFillModel" (149 : Nat) (1103515245 : Int32)) ∈ am_words := am_in 1105 (by decide +kernel) (by decide +kernel)
theorem wd_1106 : (Jvm.Cond.methodLink "DigFillLaw" (52 : Nat) ({ cls := "DigFillModel", name := "seed", desc := "(I)I" } : Jvm.MethodName)) ∈ am_words := am_in 1106 (by decide +kernel) (by decide +kernel)
theorem wd_1107 : (Jvm.Cond.instanceMethod ({ cls := "DigFillModel", name := "seed", desc := "(I)I" } : Jvm.MethodName)) ∈ am_words := am_in 1107 (by decide +kernel) (by decide +kernel)
theorem wd_1108 : (Jvm.Cond.selects "DigFillModel" ({ cls := "DigFillModel", name := "seed", desc := "(I)I" } : Jvm.MethodName) ({ cls := "DigFillModel", name := "seed", desc := "(I)I" } : Jvm.MethodName)) ∈ am_words := am_in 1108 (by decide +kernel) (by decide +kernel)
theorem wd_1109 : (Jvm.Cond.code ({ cls := "DigFillModel", name := "seed", desc := "(I)I" } : Jvm.MethodName) prog_10_method_27_code (2 : Nat) (Option.some Jvm.ClassFile.FieldType.int)) ∈ am_words := am_in 1109 (by decide +kernel) (by decide +kernel)
theorem wd_1110 : (Jvm.Cond.methodLink "DigFillLaw" (56 : Nat) ({ cls := "DigFillModel", name := "takes", desc := "(II)I" } : Jvm.MethodName)) ∈ am_words := am_in 1110 (by decide +kernel) (by decide +kernel)
theorem wd_1111 : (Jvm.Cond.instanceMethod ({ cls := "DigFillModel", name := "takes", desc := "(II)I" } : Jvm.MethodName)) ∈ am_words := am_in 1111 (by decide +kernel) (by decide +kernel)
theorem wd_1112 : (Jvm.Cond.selects "DigFillModel" ({ cls := "DigFillModel", name := "takes", desc := "(II)I" } : Jvm.MethodName) ({ cls := "DigFillModel", name := "takes", desc := "(II)I" } : Jvm.MethodName)) ∈ am_words := am_in 1112 (by decide +kernel) (by decide +kernel)
theorem wd_1113 : (Jvm.Cond.code ({ cls := "DigFillModel", name := "takes", desc := "(II)I" } : Jvm.MethodName) prog_10_method_32_code (5 : Nat) (Option.some Jvm.ClassFile.FieldType.int)) ∈ am_words := am_in 1113 (by decide +kernel) (by decide +kernel)
theorem wd_1114 : (Jvm.Cond.methodLink "DigFillModel" (160 : Nat) ({ cls := "DigFillModel", name := "isDug", desc := "(I)Z" } : Jvm.MethodName)) ∈ am_words := am_in 1114 (by decide +kernel) (by decide +kernel)
theorem wd_1115 : (Jvm.Cond.static ({ cls := "DigFillModel", name := "isDug", desc := "(I)Z" } : Jvm.MethodName)) ∈ am_words := am_in 1115 (by decide +kernel) (by decide +kernel)
theorem wd_1116 : (Jvm.Cond.code ({ cls := "DigFillModel", name := "isDug", desc := "(I)Z" } : Jvm.MethodName) prog_10_method_9_code (1 : Nat) (Option.some Jvm.ClassFile.FieldType.boolean)) ∈ am_words := am_in 1116 (by decide +kernel) (by decide +kernel)
theorem wd_1117 : (Jvm.Cond.methodLink "DigFillModel" (163 : Nat) ({ cls := "DigFillModel", name := "earthOf", desc := "(I)I" } : Jvm.MethodName)) ∈ am_words := am_in 1117 (by decide +kernel) (by decide +kernel)
theorem wd_1119 : (Jvm.Cond.instanceMethod ({ cls := "DigFillModel", name := "earthOf", desc := "(I)I" } : Jvm.MethodName)) ∈ am_words := am_in 1119 (by decide +kernel) (by decide +kernel)
theorem wd_1120 : (Jvm.Cond.code ({ cls := "DigFillModel", name := "earthOf", desc := "(I)I" } : Jvm.MethodName) prog_10_method_28_code (2 : Nat) (Option.some Jvm.ClassFile.FieldType.int)) ∈ am_words := am_in 1120 (by decide +kernel) (by decide +kernel)
theorem wd_1121 : (Jvm.Cond.methodLink "DigFillModel" (166 : Nat) ({ cls := "DigFillModel", name := "doesTake", desc := "(III)Z" } : Jvm.MethodName)) ∈ am_words := am_in 1121 (by decide +kernel) (by decide +kernel)
theorem wd_1123 : (Jvm.Cond.instanceMethod ({ cls := "DigFillModel", name := "doesTake", desc := "(III)Z" } : Jvm.MethodName)) ∈ am_words := am_in 1123 (by decide +kernel) (by decide +kernel)
theorem wd_1124 : (Jvm.Cond.code ({ cls := "DigFillModel", name := "doesTake", desc := "(III)Z" } : Jvm.MethodName) prog_10_method_31_code (6 : Nat) (Option.some Jvm.ClassFile.FieldType.boolean)) ∈ am_words := am_in 1124 (by decide +kernel) (by decide +kernel)
theorem wd_1125 : (Jvm.Cond.methodLink "DigFillModel" (154 : Nat) ({ cls := "DigFillModel", name := "apart", desc := "(II)I" } : Jvm.MethodName)) ∈ am_words := am_in 1125 (by decide +kernel) (by decide +kernel)
theorem wd_1127 : (Jvm.Cond.instanceMethod ({ cls := "DigFillModel", name := "apart", desc := "(II)I" } : Jvm.MethodName)) ∈ am_words := am_in 1127 (by decide +kernel) (by decide +kernel)
theorem wd_1128 : (Jvm.Cond.code ({ cls := "DigFillModel", name := "apart", desc := "(II)I" } : Jvm.MethodName) prog_10_method_29_code (4 : Nat) (Option.some Jvm.ClassFile.FieldType.int)) ∈ am_words := am_in 1128 (by decide +kernel) (by decide +kernel)
theorem wd_1129 : (Jvm.Cond.methodLink "DigFillModel" (157 : Nat) ({ cls := "DigFillModel", name := "lawOf", desc := "(I)I" } : Jvm.MethodName)) ∈ am_words := am_in 1129 (by decide +kernel) (by decide +kernel)
theorem wd_1131 : (Jvm.Cond.instanceMethod ({ cls := "DigFillModel", name := "lawOf", desc := "(I)I" } : Jvm.MethodName)) ∈ am_words := am_in 1131 (by decide +kernel) (by decide +kernel)
theorem wd_1132 : (Jvm.Cond.code ({ cls := "DigFillModel", name := "lawOf", desc := "(I)I" } : Jvm.MethodName) prog_10_method_30_code (3 : Nat) (Option.some Jvm.ClassFile.FieldType.int)) ∈ am_words := am_in 1132 (by decide +kernel) (by decide +kernel)
theorem wd_1133 : (Jvm.Cond.methodLink "DigFillLaw" (60 : Nat) ({ cls := "DigFillModel", name := "dig", desc := "(IIII)I" } : Jvm.MethodName)) ∈ am_words := am_in 1133 (by decide +kernel) (by decide +kernel)
theorem wd_1134 : (Jvm.Cond.instanceMethod ({ cls := "DigFillModel", name := "dig", desc := "(IIII)I" } : Jvm.MethodName)) ∈ am_words := am_in 1134 (by decide +kernel) (by decide +kernel)
theorem wd_1135 : (Jvm.Cond.selects "DigFillModel" ({ cls := "DigFillModel", name := "dig", desc := "(IIII)I" } : Jvm.MethodName) ({ cls := "DigFillModel", name := "dig", desc := "(IIII)I" } : Jvm.MethodName)) ∈ am_words := am_in 1135 (by decide +kernel) (by decide +kernel)
theorem wd_1136 : (Jvm.Cond.code ({ cls := "DigFillModel", name := "dig", desc := "(IIII)I" } : Jvm.MethodName) prog_10_method_33_code (7 : Nat) (Option.some Jvm.ClassFile.FieldType.int)) ∈ am_words := am_in 1136 (by decide +kernel) (by decide +kernel)
theorem wd_1137 : (Jvm.Cond.constant "DigFillModel" (169 : Nat) (-1000000002 : Int32)) ∈ am_words := am_in 1137 (by decide +kernel) (by decide +kernel)
theorem wd_1138 : (Jvm.Cond.methodLink "DigFillLaw" (64 : Nat) ({ cls := "DigFillModel", name := "want", desc := "(II)I" } : Jvm.MethodName)) ∈ am_words := am_in 1138 (by decide +kernel) (by decide +kernel)
theorem wd_1139 : (Jvm.Cond.instanceMethod ({ cls := "DigFillModel", name := "want", desc := "(II)I" } : Jvm.MethodName)) ∈ am_words := am_in 1139 (by decide +kernel) (by decide +kernel)
theorem wd_1140 : (Jvm.Cond.selects "DigFillModel" ({ cls := "DigFillModel", name := "want", desc := "(II)I" } : Jvm.MethodName) ({ cls := "DigFillModel", name := "want", desc := "(II)I" } : Jvm.MethodName)) ∈ am_words := am_in 1140 (by decide +kernel) (by decide +kernel)
theorem wd_1141 : (Jvm.Cond.code ({ cls := "DigFillModel", name := "want", desc := "(II)I" } : Jvm.MethodName) prog_10_method_34_code (3 : Nat) (Option.some Jvm.ClassFile.FieldType.int)) ∈ am_words := am_in 1141 (by decide +kernel) (by decide +kernel)
theorem wd_1142 : (Jvm.Cond.methodLink "DigFillLaw" (69 : Nat) ({ cls := "DigFillModel", name := "forget", desc := "()I" } : Jvm.MethodName)) ∈ am_words := am_in 1142 (by decide +kernel) (by decide +kernel)
theorem wd_1143 : (Jvm.Cond.instanceMethod ({ cls := "DigFillModel", name := "forget", desc := "()I" } : Jvm.MethodName)) ∈ am_words := am_in 1143 (by decide +kernel) (by decide +kernel)
theorem wd_1144 : (Jvm.Cond.selects "DigFillModel" ({ cls := "DigFillModel", name := "forget", desc := "()I" } : Jvm.MethodName) ({ cls := "DigFillModel", name := "forget", desc := "()I" } : Jvm.MethodName)) ∈ am_words := am_in 1144 (by decide +kernel) (by decide +kernel)
theorem wd_1145 : (Jvm.Cond.code ({ cls := "DigFillModel", name := "forget", desc := "()I" } : Jvm.MethodName) prog_10_method_35_code (1 : Nat) (Option.some Jvm.ClassFile.FieldType.int)) ∈ am_words := am_in 1145 (by decide +kernel) (by decide +kernel)
theorem wd_1146 : (Jvm.Cond.methodLink "DigFillLaw" (73 : Nat) ({ cls := "DigFillModel", name := "dealing", desc := "(I)I" } : Jvm.MethodName)) ∈ am_words := am_in 1146 (by decide +kernel) (by decide +kernel)
theorem wd_1147 : (Jvm.Cond.instanceMethod ({ cls := "DigFillModel", name := "dealing", desc := "(I)I" } : Jvm.MethodName)) ∈ am_words := am_in 1147 (by decide +kernel) (by decide +kernel)
theorem wd_1148 : (Jvm.Cond.selects "DigFillModel" ({ cls := "DigFillModel", name := "dealing", desc := "(I)I" } : Jvm.MethodName) ({ cls := "DigFillModel", name := "dealing", desc := "(I)I" } : Jvm.MethodName)) ∈ am_words := am_in 1148 (by decide +kernel) (by decide +kernel)
theorem wd_1149 : (Jvm.Cond.code ({ cls := "DigFillModel", name := "dealing", desc := "(I)I" } : Jvm.MethodName) prog_10_method_41_code (4 : Nat) (Option.some Jvm.ClassFile.FieldType.int)) ∈ am_words := am_in 1149 (by decide +kernel) (by decide +kernel)
theorem wd_1150 : (Jvm.Cond.methodLink "DigFillModel" (179 : Nat) ({ cls := "DigFillModel", name := "metBut", desc := "(I)I" } : Jvm.MethodName)) ∈ am_words := am_in 1150 (by decide +kernel) (by decide +kernel)
theorem wd_1152 : (Jvm.Cond.instanceMethod ({ cls := "DigFillModel", name := "metBut", desc := "(I)I" } : Jvm.MethodName)) ∈ am_words := am_in 1152 (by decide +kernel) (by decide +kernel)
theorem wd_1153 : (Jvm.Cond.code ({ cls := "DigFillModel", name := "metBut", desc := "(I)I" } : Jvm.MethodName) prog_10_method_38_code (5 : Nat) (Option.some Jvm.ClassFile.FieldType.int)) ∈ am_words := am_in 1153 (by decide +kernel) (by decide +kernel)
theorem wd_1154 : (Jvm.Cond.methodLink "DigFillModel" (173 : Nat) ({ cls := "DigFillModel", name := "findsHole", desc := "(II)Z" } : Jvm.MethodName)) ∈ am_words := am_in 1154 (by decide +kernel) (by decide +kernel)
theorem wd_1156 : (Jvm.Cond.instanceMethod ({ cls := "DigFillModel", name := "findsHole", desc := "(II)Z" } : Jvm.MethodName)) ∈ am_words := am_in 1156 (by decide +kernel) (by decide +kernel)
theorem wd_1157 : (Jvm.Cond.code ({ cls := "DigFillModel", name := "findsHole", desc := "(II)Z" } : Jvm.MethodName) prog_10_method_37_code (4 : Nat) (Option.some Jvm.ClassFile.FieldType.boolean)) ∈ am_words := am_in 1157 (by decide +kernel) (by decide +kernel)
theorem wd_1158 : (Jvm.Cond.methodLink "DigFillModel" (170 : Nat) ({ cls := "DigFillModel", name := "doesMeet", desc := "(II)Z" } : Jvm.MethodName)) ∈ am_words := am_in 1158 (by decide +kernel) (by decide +kernel)
theorem wd_1160 : (Jvm.Cond.instanceMethod ({ cls := "DigFillModel", name := "doesMeet", desc := "(II)Z" } : Jvm.MethodName)) ∈ am_words := am_in 1160 (by decide +kernel) (by decide +kernel)
theorem wd_1161 : (Jvm.Cond.code ({ cls := "DigFillModel", name := "doesMeet", desc := "(II)Z" } : Jvm.MethodName) prog_10_method_36_code (3 : Nat) (Option.some Jvm.ClassFile.FieldType.boolean)) ∈ am_words := am_in 1161 (by decide +kernel) (by decide +kernel)
theorem wd_1162 : (Jvm.Cond.methodLink "DigFillModel" (182 : Nat) ({ cls := "DigFillModel", name := "findDealing", desc := "()V" } : Jvm.MethodName)) ∈ am_words := am_in 1162 (by decide +kernel) (by decide +kernel)
theorem wd_1164 : (Jvm.Cond.instanceMethod ({ cls := "DigFillModel", name := "findDealing", desc := "()V" } : Jvm.MethodName)) ∈ am_words := am_in 1164 (by decide +kernel) (by decide +kernel)
theorem wd_1165 : (Jvm.Cond.code ({ cls := "DigFillModel", name := "findDealing", desc := "()V" } : Jvm.MethodName) prog_10_method_40_code (8 : Nat) (Option.none : Option Jvm.ClassFile.FieldType)) ∈ am_words := am_in 1165 (by decide +kernel) (by decide +kernel)
theorem wd_1166 : (Jvm.Cond.methodLink "DigFillModel" (176 : Nat) ({ cls := "DigFillModel", name := "scoreOf", desc := "(III)I" } : Jvm.MethodName)) ∈ am_words := am_in 1166 (by decide +kernel) (by decide +kernel)
theorem wd_1168 : (Jvm.Cond.instanceMethod ({ cls := "DigFillModel", name := "scoreOf", desc := "(III)I" } : Jvm.MethodName)) ∈ am_words := am_in 1168 (by decide +kernel) (by decide +kernel)
theorem wd_1169 : (Jvm.Cond.code ({ cls := "DigFillModel", name := "scoreOf", desc := "(III)I" } : Jvm.MethodName) prog_10_method_39_code (4 : Nat) (Option.some Jvm.ClassFile.FieldType.int)) ∈ am_words := am_in 1169 (by decide +kernel) (by decide +kernel)
theorem wd_1170 : (Jvm.Cond.methodLink "DigFillModel" (185 : Nat) ({ cls := "DigFillModel", name := "told0", desc := "(I)I" } : Jvm.MethodName)) ∈ am_words := am_in 1170 (by decide +kernel) (by decide +kernel)
theorem wd_1171 : (Jvm.Cond.static ({ cls := "DigFillModel", name := "told0", desc := "(I)I" } : Jvm.MethodName)) ∈ am_words := am_in 1171 (by decide +kernel) (by decide +kernel)
theorem wd_1172 : (Jvm.Cond.code ({ cls := "DigFillModel", name := "told0", desc := "(I)I" } : Jvm.MethodName) prog_10_method_5_code (1 : Nat) (Option.some Jvm.ClassFile.FieldType.int)) ∈ am_words := am_in 1172 (by decide +kernel) (by decide +kernel)
theorem wd_1173 : (Jvm.Cond.constant "DigFillModel" (91 : Nat) (-1000000005 : Int32)) ∈ am_words := am_in 1173 (by decide +kernel) (by decide +kernel)
theorem wd_1174 : (Jvm.Cond.methodLink "DigFillLaw" (77 : Nat) ({ cls := "DigFillModel", name := "adds", desc := "(I)I" } : Jvm.MethodName)) ∈ am_words := am_in 1174 (by decide +kernel) (by decide +kernel)
theorem wd_1175 : (Jvm.Cond.instanceMethod ({ cls := "DigFillModel", name := "adds", desc := "(I)I" } : Jvm.MethodName)) ∈ am_words := am_in 1175 (by decide +kernel) (by decide +kernel)
theorem wd_1176 : (Jvm.Cond.selects "DigFillModel" ({ cls := "DigFillModel", name := "adds", desc := "(I)I" } : Jvm.MethodName) ({ cls := "DigFillModel", name := "adds", desc := "(I)I" } : Jvm.MethodName)) ∈ am_words := am_in 1176 (by decide +kernel) (by decide +kernel)
theorem wd_1177 : (Jvm.Cond.code ({ cls := "DigFillModel", name := "adds", desc := "(I)I" } : Jvm.MethodName) prog_10_method_42_code (2 : Nat) (Option.some Jvm.ClassFile.FieldType.int)) ∈ am_words := am_in 1177 (by decide +kernel) (by decide +kernel)
theorem wd_1178 : (Jvm.Cond.methodLink "DigFillLaw" (81 : Nat) ({ cls := "DigFillModel", name := "frees", desc := "(I)I" } : Jvm.MethodName)) ∈ am_words := am_in 1178 (by decide +kernel) (by decide +kernel)
theorem wd_1179 : (Jvm.Cond.instanceMethod ({ cls := "DigFillModel", name := "frees", desc := "(I)I" } : Jvm.MethodName)) ∈ am_words := am_in 1179 (by decide +kernel) (by decide +kernel)
theorem wd_1180 : (Jvm.Cond.selects "DigFillModel" ({ cls := "DigFillModel", name := "frees", desc := "(I)I" } : Jvm.MethodName) ({ cls := "DigFillModel", name := "frees", desc := "(I)I" } : Jvm.MethodName)) ∈ am_words := am_in 1180 (by decide +kernel) (by decide +kernel)
theorem wd_1181 : (Jvm.Cond.code ({ cls := "DigFillModel", name := "frees", desc := "(I)I" } : Jvm.MethodName) prog_10_method_43_code (6 : Nat) (Option.some Jvm.ClassFile.FieldType.int)) ∈ am_words := am_in 1181 (by decide +kernel) (by decide +kernel)
theorem wd_1182 : (Jvm.Cond.methodLink "DigFillLaw" (85 : Nat) ({ cls := "DigFillModel", name := "days", desc := "(I)I" } : Jvm.MethodName)) ∈ am_words := am_in 1182 (by decide +kernel) (by decide +kernel)
theorem wd_1183 : (Jvm.Cond.instanceMethod ({ cls := "DigFillModel", name := "days", desc := "(I)I" } : Jvm.MethodName)) ∈ am_words := am_in 1183 (by decide +kernel) (by decide +kernel)
theorem wd_1184 : (Jvm.Cond.selects "DigFillModel" ({ cls := "DigFillModel", name := "days", desc := "(I)I" } : Jvm.MethodName) ({ cls := "DigFillModel", name := "days", desc := "(I)I" } : Jvm.MethodName)) ∈ am_words := am_in 1184 (by decide +kernel) (by decide +kernel)
theorem wd_1185 : (Jvm.Cond.code ({ cls := "DigFillModel", name := "days", desc := "(I)I" } : Jvm.MethodName) prog_10_method_48_code (2 : Nat) (Option.some Jvm.ClassFile.FieldType.int)) ∈ am_words := am_in 1185 (by decide +kernel) (by decide +kernel)
theorem wd_1186 : (Jvm.Cond.methodLink "DigFillModel" (191 : Nat) ({ cls := "DigFillModel", name := "goesOn", desc := "(I)V" } : Jvm.MethodName)) ∈ am_words := am_in 1186 (by decide +kernel) (by decide +kernel)
theorem wd_1188 : (Jvm.Cond.instanceMethod ({ cls := "DigFillModel", name := "goesOn", desc := "(I)V" } : Jvm.MethodName)) ∈ am_words := am_in 1188 (by decide +kernel) (by decide +kernel)
theorem wd_1189 : (Jvm.Cond.code ({ cls := "DigFillModel", name := "goesOn", desc := "(I)V" } : Jvm.MethodName) prog_10_method_47_code (3 : Nat) (Option.none : Option Jvm.ClassFile.FieldType)) ∈ am_words := am_in 1189 (by decide +kernel) (by decide +kernel)
theorem wd_1190 : (Jvm.Cond.methodLink "DigFillModel" (188 : Nat) ({ cls := "DigFillModel", name := "day", desc := "()V" } : Jvm.MethodName)) ∈ am_words := am_in 1190 (by decide +kernel) (by decide +kernel)
theorem wd_1192 : (Jvm.Cond.instanceMethod ({ cls := "DigFillModel", name := "day", desc := "()V" } : Jvm.MethodName)) ∈ am_words := am_in 1192 (by decide +kernel) (by decide +kernel)
theorem wd_1193 : (Jvm.Cond.code ({ cls := "DigFillModel", name := "day", desc := "()V" } : Jvm.MethodName) prog_10_method_46_code (3 : Nat) (Option.none : Option Jvm.ClassFile.FieldType)) ∈ am_words := am_in 1193 (by decide +kernel) (by decide +kernel)
theorem wd_1194 : (Jvm.Cond.methodLink "DigFillModel" (195 : Nat) ({ cls := "DigFillModel", name := "filled", desc := "()I" } : Jvm.MethodName)) ∈ am_words := am_in 1194 (by decide +kernel) (by decide +kernel)
theorem wd_1196 : (Jvm.Cond.instanceMethod ({ cls := "DigFillModel", name := "filled", desc := "()I" } : Jvm.MethodName)) ∈ am_words := am_in 1196 (by decide +kernel) (by decide +kernel)
theorem wd_1197 : (Jvm.Cond.code ({ cls := "DigFillModel", name := "filled", desc := "()I" } : Jvm.MethodName) prog_10_method_44_code (3 : Nat) (Option.some Jvm.ClassFile.FieldType.int)) ∈ am_words := am_in 1197 (by decide +kernel) (by decide +kernel)
theorem wd_1198 : (Jvm.Cond.methodLink "DigFillLaw" (89 : Nat) ({ cls := "DigFillModel", name := "behind", desc := "(II)I" } : Jvm.MethodName)) ∈ am_words := am_in 1198 (by decide +kernel) (by decide +kernel)
theorem wd_1199 : (Jvm.Cond.instanceMethod ({ cls := "DigFillModel", name := "behind", desc := "(II)I" } : Jvm.MethodName)) ∈ am_words := am_in 1199 (by decide +kernel) (by decide +kernel)
theorem wd_1200 : (Jvm.Cond.selects "DigFillModel" ({ cls := "DigFillModel", name := "behind", desc := "(II)I" } : Jvm.MethodName) ({ cls := "DigFillModel", name := "behind", desc := "(II)I" } : Jvm.MethodName)) ∈ am_words := am_in 1200 (by decide +kernel) (by decide +kernel)
theorem wd_1201 : (Jvm.Cond.code ({ cls := "DigFillModel", name := "behind", desc := "(II)I" } : Jvm.MethodName) prog_10_method_51_code (4 : Nat) (Option.some Jvm.ClassFile.FieldType.int)) ∈ am_words := am_in 1201 (by decide +kernel) (by decide +kernel)
theorem wd_1202 : (Jvm.Cond.methodLink "DigFillModel" (198 : Nat) ({ cls := "DigFillModel", name := "thinks", desc := "()V" } : Jvm.MethodName)) ∈ am_words := am_in 1202 (by decide +kernel) (by decide +kernel)
theorem wd_1204 : (Jvm.Cond.instanceMethod ({ cls := "DigFillModel", name := "thinks", desc := "()V" } : Jvm.MethodName)) ∈ am_words := am_in 1204 (by decide +kernel) (by decide +kernel)
theorem wd_1205 : (Jvm.Cond.code ({ cls := "DigFillModel", name := "thinks", desc := "()V" } : Jvm.MethodName) prog_10_method_49_code (2 : Nat) (Option.none : Option Jvm.ClassFile.FieldType)) ∈ am_words := am_in 1205 (by decide +kernel) (by decide +kernel)
theorem wd_1206 : (Jvm.Cond.methodLink "DigFillModel" (201 : Nat) ({ cls := "DigFillModel", name := "depthAll", desc := "()I" } : Jvm.MethodName)) ∈ am_words := am_in 1206 (by decide +kernel) (by decide +kernel)
theorem wd_1208 : (Jvm.Cond.instanceMethod ({ cls := "DigFillModel", name := "depthAll", desc := "()I" } : Jvm.MethodName)) ∈ am_words := am_in 1208 (by decide +kernel) (by decide +kernel)
theorem wd_1209 : (Jvm.Cond.code ({ cls := "DigFillModel", name := "depthAll", desc := "()I" } : Jvm.MethodName) prog_10_method_45_code (3 : Nat) (Option.some Jvm.ClassFile.FieldType.int)) ∈ am_words := am_in 1209 (by decide +kernel) (by decide +kernel)
theorem wd_1210 : (Jvm.Cond.methodLink "DigFillModel" (204 : Nat) ({ cls := "DigFillModel", name := "putsBack", desc := "()V" } : Jvm.MethodName)) ∈ am_words := am_in 1210 (by decide +kernel) (by decide +kernel)
theorem wd_1212 : (Jvm.Cond.instanceMethod ({ cls := "DigFillModel", name := "putsBack", desc := "()V" } : Jvm.MethodName)) ∈ am_words := am_in 1212 (by decide +kernel) (by decide +kernel)
theorem wd_1213 : (Jvm.Cond.code ({ cls := "DigFillModel", name := "putsBack", desc := "()V" } : Jvm.MethodName) prog_10_method_50_code (2 : Nat) (Option.none : Option Jvm.ClassFile.FieldType)) ∈ am_words := am_in 1213 (by decide +kernel) (by decide +kernel)
theorem wd_1214 : (Jvm.Cond.methodLink "DigFillLaw" (93 : Nat) ({ cls := "DigFillModel", name := "paid", desc := "()I" } : Jvm.MethodName)) ∈ am_words := am_in 1214 (by decide +kernel) (by decide +kernel)
theorem wd_1215 : (Jvm.Cond.instanceMethod ({ cls := "DigFillModel", name := "paid", desc := "()I" } : Jvm.MethodName)) ∈ am_words := am_in 1215 (by decide +kernel) (by decide +kernel)
theorem wd_1216 : (Jvm.Cond.selects "DigFillModel" ({ cls := "DigFillModel", name := "paid", desc := "()I" } : Jvm.MethodName) ({ cls := "DigFillModel", name := "paid", desc := "()I" } : Jvm.MethodName)) ∈ am_words := am_in 1216 (by decide +kernel) (by decide +kernel)
theorem wd_1217 : (Jvm.Cond.code ({ cls := "DigFillModel", name := "paid", desc := "()I" } : Jvm.MethodName) prog_10_method_52_code (2 : Nat) (Option.some Jvm.ClassFile.FieldType.int)) ∈ am_words := am_in 1217 (by decide +kernel) (by decide +kernel)
theorem wd_1218 : (Jvm.Cond.methodLink "DigFillLaw" (97 : Nat) ({ cls := "DigFillModel", name := "best", desc := "(II)I" } : Jvm.MethodName)) ∈ am_words := am_in 1218 (by decide +kernel) (by decide +kernel)
theorem wd_1219 : (Jvm.Cond.instanceMethod ({ cls := "DigFillModel", name := "best", desc := "(II)I" } : Jvm.MethodName)) ∈ am_words := am_in 1219 (by decide +kernel) (by decide +kernel)
theorem wd_1220 : (Jvm.Cond.selects "DigFillModel" ({ cls := "DigFillModel", name := "best", desc := "(II)I" } : Jvm.MethodName) ({ cls := "DigFillModel", name := "best", desc := "(II)I" } : Jvm.MethodName)) ∈ am_words := am_in 1220 (by decide +kernel) (by decide +kernel)
theorem wd_1221 : (Jvm.Cond.code ({ cls := "DigFillModel", name := "best", desc := "(II)I" } : Jvm.MethodName) prog_10_method_53_code (7 : Nat) (Option.some Jvm.ClassFile.FieldType.int)) ∈ am_words := am_in 1221 (by decide +kernel) (by decide +kernel)
theorem wd_1222 : (Jvm.Cond.methodLink "DigFillLaw" (101 : Nat) ({ cls := "DigFillModel", name := "owes", desc := "(I)I" } : Jvm.MethodName)) ∈ am_words := am_in 1222 (by decide +kernel) (by decide +kernel)
theorem wd_1223 : (Jvm.Cond.instanceMethod ({ cls := "DigFillModel", name := "owes", desc := "(I)I" } : Jvm.MethodName)) ∈ am_words := am_in 1223 (by decide +kernel) (by decide +kernel)
theorem wd_1224 : (Jvm.Cond.selects "DigFillModel" ({ cls := "DigFillModel", name := "owes", desc := "(I)I" } : Jvm.MethodName) ({ cls := "DigFillModel", name := "owes", desc := "(I)I" } : Jvm.MethodName)) ∈ am_words := am_in 1224 (by decide +kernel) (by decide +kernel)
theorem wd_1225 : (Jvm.Cond.code ({ cls := "DigFillModel", name := "owes", desc := "(I)I" } : Jvm.MethodName) prog_10_method_55_code (2 : Nat) (Option.some Jvm.ClassFile.FieldType.int)) ∈ am_words := am_in 1225 (by decide +kernel) (by decide +kernel)
theorem wd_1226 : (Jvm.Cond.methodLink "DigFillModel" (207 : Nat) ({ cls := "DigFillModel", name := "owedBy", desc := "(I)I" } : Jvm.MethodName)) ∈ am_words := am_in 1226 (by decide +kernel) (by decide +kernel)
theorem wd_1228 : (Jvm.Cond.instanceMethod ({ cls := "DigFillModel", name := "owedBy", desc := "(I)I" } : Jvm.MethodName)) ∈ am_words := am_in 1228 (by decide +kernel) (by decide +kernel)
theorem wd_1229 : (Jvm.Cond.code ({ cls := "DigFillModel", name := "owedBy", desc := "(I)I" } : Jvm.MethodName) prog_10_method_54_code (4 : Nat) (Option.some Jvm.ClassFile.FieldType.int)) ∈ am_words := am_in 1229 (by decide +kernel) (by decide +kernel)
theorem wd_1230 : (Jvm.Cond.methodLink "DigFillLaw" (105 : Nat) ({ cls := "DigFillModel", name := "debtor", desc := "()I" } : Jvm.MethodName)) ∈ am_words := am_in 1230 (by decide +kernel) (by decide +kernel)
theorem wd_1231 : (Jvm.Cond.instanceMethod ({ cls := "DigFillModel", name := "debtor", desc := "()I" } : Jvm.MethodName)) ∈ am_words := am_in 1231 (by decide +kernel) (by decide +kernel)
theorem wd_1232 : (Jvm.Cond.selects "DigFillModel" ({ cls := "DigFillModel", name := "debtor", desc := "()I" } : Jvm.MethodName) ({ cls := "DigFillModel", name := "debtor", desc := "()I" } : Jvm.MethodName)) ∈ am_words := am_in 1232 (by decide +kernel) (by decide +kernel)
theorem wd_1233 : (Jvm.Cond.code ({ cls := "DigFillModel", name := "debtor", desc := "()I" } : Jvm.MethodName) prog_10_method_56_code (3 : Nat) (Option.some Jvm.ClassFile.FieldType.int)) ∈ am_words := am_in 1233 (by decide +kernel) (by decide +kernel)
theorem wd_1234 : (Jvm.Cond.methodLink "DigFillLaw" (109 : Nat) ({ cls := "DigFillModel", name := "dug", desc := "(II)I" } : Jvm.MethodName)) ∈ am_words := am_in 1234 (by decide +kernel) (by decide +kernel)
theorem wd_1235 : (Jvm.Cond.instanceMethod ({ cls := "DigFillModel", name := "dug", desc := "(II)I" } : Jvm.MethodName)) ∈ am_words := am_in 1235 (by decide +kernel) (by decide +kernel)
theorem wd_1236 : (Jvm.Cond.selects "DigFillModel" ({ cls := "DigFillModel", name := "dug", desc := "(II)I" } : Jvm.MethodName) ({ cls := "DigFillModel", name := "dug", desc := "(II)I" } : Jvm.MethodName)) ∈ am_words := am_in 1236 (by decide +kernel) (by decide +kernel)
theorem wd_1237 : (Jvm.Cond.code ({ cls := "DigFillModel", name := "dug", desc := "(II)I" } : Jvm.MethodName) prog_10_method_57_code (8 : Nat) (Option.some Jvm.ClassFile.FieldType.int)) ∈ am_words := am_in 1237 (by decide +kernel) (by decide +kernel)
theorem wd_1238 : (Jvm.Cond.methodLink "DigFillModel" (210 : Nat) ({ cls := "DigFillModel", name := "isSheet", desc := "(I)Z" } : Jvm.MethodName)) ∈ am_words := am_in 1238 (by decide +kernel) (by decide +kernel)
theorem wd_1239 : (Jvm.Cond.static ({ cls := "DigFillModel", name := "isSheet", desc := "(I)Z" } : Jvm.MethodName)) ∈ am_words := am_in 1239 (by decide +kernel) (by decide +kernel)
theorem wd_1240 : (Jvm.Cond.code ({ cls := "DigFillModel", name := "isSheet", desc := "(I)Z" } : Jvm.MethodName) prog_10_method_78_code (1 : Nat) (Option.some Jvm.ClassFile.FieldType.boolean)) ∈ am_words := am_in 1240 (by decide +kernel) (by decide +kernel)
theorem wd_1241 : (Jvm.Cond.constant "DigFillModel" (213 : Nat) (-1000000011 : Int32)) ∈ am_words := am_in 1241 (by decide +kernel) (by decide +kernel)
theorem wd_1242 : (Jvm.Cond.methodLink "DigFillLaw" (113 : Nat) ({ cls := "DigFillModel", name := "fine", desc := "(I)I" } : Jvm.MethodName)) ∈ am_words := am_in 1242 (by decide +kernel) (by decide +kernel)
theorem wd_1243 : (Jvm.Cond.instanceMethod ({ cls := "DigFillModel", name := "fine", desc := "(I)I" } : Jvm.MethodName)) ∈ am_words := am_in 1243 (by decide +kernel) (by decide +kernel)
theorem wd_1244 : (Jvm.Cond.selects "DigFillModel" ({ cls := "DigFillModel", name := "fine", desc := "(I)I" } : Jvm.MethodName) ({ cls := "DigFillModel", name := "fine", desc := "(I)I" } : Jvm.MethodName)) ∈ am_words := am_in 1244 (by decide +kernel) (by decide +kernel)
theorem wd_1245 : (Jvm.Cond.code ({ cls := "DigFillModel", name := "fine", desc := "(I)I" } : Jvm.MethodName) prog_10_method_58_code (3 : Nat) (Option.some Jvm.ClassFile.FieldType.int)) ∈ am_words := am_in 1245 (by decide +kernel) (by decide +kernel)
theorem wd_1246 : (Jvm.Cond.methodLink "DigFillLaw" (117 : Nat) ({ cls := "DigFillModel", name := "feed", desc := "(III)I" } : Jvm.MethodName)) ∈ am_words := am_in 1246 (by decide +kernel) (by decide +kernel)
theorem wd_1247 : (Jvm.Cond.instanceMethod ({ cls := "DigFillModel", name := "feed", desc := "(III)I" } : Jvm.MethodName)) ∈ am_words := am_in 1247 (by decide +kernel) (by decide +kernel)
theorem wd_1248 : (Jvm.Cond.selects "DigFillModel" ({ cls := "DigFillModel", name := "feed", desc := "(III)I" } : Jvm.MethodName) ({ cls := "DigFillModel", name := "feed", desc := "(III)I" } : Jvm.MethodName)) ∈ am_words := am_in 1248 (by decide +kernel) (by decide +kernel)
theorem wd_1249 : (Jvm.Cond.code ({ cls := "DigFillModel", name := "feed", desc := "(III)I" } : Jvm.MethodName) prog_10_method_59_code (6 : Nat) (Option.some Jvm.ClassFile.FieldType.int)) ∈ am_words := am_in 1249 (by decide +kernel) (by decide +kernel)
theorem wd_1250 : (Jvm.Cond.methodLink "DigFillLaw" (121 : Nat) ({ cls := "DigFillModel", name := "trim", desc := "(I)I" } : Jvm.MethodName)) ∈ am_words := am_in 1250 (by decide +kernel) (by decide +kernel)
theorem wd_1251 : (Jvm.Cond.instanceMethod ({ cls := "DigFillModel", name := "trim", desc := "(I)I" } : Jvm.MethodName)) ∈ am_words := am_in 1251 (by decide +kernel) (by decide +kernel)
theorem wd_1252 : (Jvm.Cond.selects "DigFillModel" ({ cls := "DigFillModel", name := "trim", desc := "(I)I" } : Jvm.MethodName) ({ cls := "DigFillModel", name := "trim", desc := "(I)I" } : Jvm.MethodName)) ∈ am_words := am_in 1252 (by decide +kernel) (by decide +kernel)
theorem wd_1253 : (Jvm.Cond.code ({ cls := "DigFillModel", name := "trim", desc := "(I)I" } : Jvm.MethodName) prog_10_method_60_code (2 : Nat) (Option.some Jvm.ClassFile.FieldType.int)) ∈ am_words := am_in 1253 (by decide +kernel) (by decide +kernel)
theorem wd_1254 : (Jvm.Cond.methodLink "DigFillLaw" (125 : Nat) ({ cls := "DigFillModel", name := "text", desc := "()I" } : Jvm.MethodName)) ∈ am_words := am_in 1254 (by decide +kernel) (by decide +kernel)
theorem wd_1255 : (Jvm.Cond.instanceMethod ({ cls := "DigFillModel", name := "text", desc := "()I" } : Jvm.MethodName)) ∈ am_words := am_in 1255 (by decide +kernel) (by decide +kernel)
theorem wd_1256 : (Jvm.Cond.selects "DigFillModel" ({ cls := "DigFillModel", name := "text", desc := "()I" } : Jvm.MethodName) ({ cls := "DigFillModel", name := "text", desc := "()I" } : Jvm.MethodName)) ∈ am_words := am_in 1256 (by decide +kernel) (by decide +kernel)
theorem wd_1257 : (Jvm.Cond.code ({ cls := "DigFillModel", name := "text", desc := "()I" } : Jvm.MethodName) prog_10_method_72_code (4 : Nat) (Option.some Jvm.ClassFile.FieldType.int)) ∈ am_words := am_in 1257 (by decide +kernel) (by decide +kernel)
theorem wd_1258 : (Jvm.Cond.methodLink "DigFillModel" (242 : Nat) ({ cls := "DigFillModel", name := "go", desc := "()V" } : Jvm.MethodName)) ∈ am_words := am_in 1258 (by decide +kernel) (by decide +kernel)
theorem wd_1260 : (Jvm.Cond.instanceMethod ({ cls := "DigFillModel", name := "go", desc := "()V" } : Jvm.MethodName)) ∈ am_words := am_in 1260 (by decide +kernel) (by decide +kernel)
theorem wd_1261 : (Jvm.Cond.code ({ cls := "DigFillModel", name := "go", desc := "()V" } : Jvm.MethodName) prog_10_method_63_code (2 : Nat) (Option.none : Option Jvm.ClassFile.FieldType)) ∈ am_words := am_in 1261 (by decide +kernel) (by decide +kernel)
theorem wd_1262 : (Jvm.Cond.methodLink "DigFillModel" (230 : Nat) ({ cls := "DigFillModel", name := "isLetter", desc := "(I)Z" } : Jvm.MethodName)) ∈ am_words := am_in 1262 (by decide +kernel) (by decide +kernel)
theorem wd_1264 : (Jvm.Cond.instanceMethod ({ cls := "DigFillModel", name := "isLetter", desc := "(I)Z" } : Jvm.MethodName)) ∈ am_words := am_in 1264 (by decide +kernel) (by decide +kernel)
theorem wd_1265 : (Jvm.Cond.code ({ cls := "DigFillModel", name := "isLetter", desc := "(I)Z" } : Jvm.MethodName) prog_10_method_61_code (2 : Nat) (Option.some Jvm.ClassFile.FieldType.boolean)) ∈ am_words := am_in 1265 (by decide +kernel) (by decide +kernel)
theorem wd_1266 : (Jvm.Cond.methodLink "DigFillModel" (236 : Nat) ({ cls := "DigFillModel", name := "isFigure", desc := "(I)Z" } : Jvm.MethodName)) ∈ am_words := am_in 1266 (by decide +kernel) (by decide +kernel)
theorem wd_1268 : (Jvm.Cond.instanceMethod ({ cls := "DigFillModel", name := "isFigure", desc := "(I)Z" } : Jvm.MethodName)) ∈ am_words := am_in 1268 (by decide +kernel) (by decide +kernel)
theorem wd_1269 : (Jvm.Cond.code ({ cls := "DigFillModel", name := "isFigure", desc := "(I)Z" } : Jvm.MethodName) prog_10_method_62_code (2 : Nat) (Option.some Jvm.ClassFile.FieldType.boolean)) ∈ am_words := am_in 1269 (by decide +kernel) (by decide +kernel)
theorem wd_1270 : (Jvm.Cond.methodLink "DigFillModel" (273 : Nat) ({ cls := "DigFillModel", name := "takesKey", desc := "()Z" } : Jvm.MethodName)) ∈ am_words := am_in 1270 (by decide +kernel) (by decide +kernel)
theorem wd_1272 : (Jvm.Cond.instanceMethod ({ cls := "DigFillModel", name := "takesKey", desc := "()Z" } : Jvm.MethodName)) ∈ am_words := am_in 1272 (by decide +kernel) (by decide +kernel)
theorem wd_1273 : (Jvm.Cond.code ({ cls := "DigFillModel", name := "takesKey", desc := "()Z" } : Jvm.MethodName) prog_10_method_64_code (5 : Nat) (Option.some Jvm.ClassFile.FieldType.boolean)) ∈ am_words := am_in 1273 (by decide +kernel) (by decide +kernel)
theorem wd_1274 : (Jvm.Cond.methodLink "DigFillModel" (276 : Nat) ({ cls := "DigFillModel", name := "takesE", desc := "()Z" } : Jvm.MethodName)) ∈ am_words := am_in 1274 (by decide +kernel) (by decide +kernel)
theorem wd_1276 : (Jvm.Cond.instanceMethod ({ cls := "DigFillModel", name := "takesE", desc := "()Z" } : Jvm.MethodName)) ∈ am_words := am_in 1276 (by decide +kernel) (by decide +kernel)
theorem wd_1277 : (Jvm.Cond.code ({ cls := "DigFillModel", name := "takesE", desc := "()Z" } : Jvm.MethodName) prog_10_method_70_code (5 : Nat) (Option.some Jvm.ClassFile.FieldType.boolean)) ∈ am_words := am_in 1277 (by decide +kernel) (by decide +kernel)
theorem wd_1278 : (Jvm.Cond.methodLink "DigFillModel" (263 : Nat) ({ cls := "DigFillModel", name := "takesPart", desc := "()Z" } : Jvm.MethodName)) ∈ am_words := am_in 1278 (by decide +kernel) (by decide +kernel)
theorem wd_1280 : (Jvm.Cond.instanceMethod ({ cls := "DigFillModel", name := "takesPart", desc := "()Z" } : Jvm.MethodName)) ∈ am_words := am_in 1280 (by decide +kernel) (by decide +kernel)
theorem wd_1281 : (Jvm.Cond.code ({ cls := "DigFillModel", name := "takesPart", desc := "()Z" } : Jvm.MethodName) prog_10_method_69_code (2 : Nat) (Option.some Jvm.ClassFile.FieldType.boolean)) ∈ am_words := am_in 1281 (by decide +kernel) (by decide +kernel)
theorem wd_1282 : (Jvm.Cond.methodLink "DigFillModel" (254 : Nat) ({ cls := "DigFillModel", name := "nameOf", desc := "(I)I" } : Jvm.MethodName)) ∈ am_words := am_in 1282 (by decide +kernel) (by decide +kernel)
theorem wd_1284 : (Jvm.Cond.instanceMethod ({ cls := "DigFillModel", name := "nameOf", desc := "(I)I" } : Jvm.MethodName)) ∈ am_words := am_in 1284 (by decide +kernel) (by decide +kernel)
theorem wd_1285 : (Jvm.Cond.code ({ cls := "DigFillModel", name := "nameOf", desc := "(I)I" } : Jvm.MethodName) prog_10_method_65_code (2 : Nat) (Option.some Jvm.ClassFile.FieldType.int)) ∈ am_words := am_in 1285 (by decide +kernel) (by decide +kernel)
theorem wd_1286 : (Jvm.Cond.methodLink "DigFillModel" (260 : Nat) ({ cls := "DigFillModel", name := "settle", desc := "(I)V" } : Jvm.MethodName)) ∈ am_words := am_in 1286 (by decide +kernel) (by decide +kernel)
theorem wd_1288 : (Jvm.Cond.instanceMethod ({ cls := "DigFillModel", name := "settle", desc := "(I)V" } : Jvm.MethodName)) ∈ am_words := am_in 1288 (by decide +kernel) (by decide +kernel)
theorem wd_1289 : (Jvm.Cond.code ({ cls := "DigFillModel", name := "settle", desc := "(I)V" } : Jvm.MethodName) prog_10_method_67_code (2 : Nat) (Option.none : Option Jvm.ClassFile.FieldType)) ∈ am_words := am_in 1289 (by decide +kernel) (by decide +kernel)
theorem wd_1290 : (Jvm.Cond.methodLink "DigFillModel" (248 : Nat) ({ cls := "DigFillModel", name := "rank", desc := "(I)I" } : Jvm.MethodName)) ∈ am_words := am_in 1290 (by decide +kernel) (by decide +kernel)
theorem wd_1291 : (Jvm.Cond.static ({ cls := "DigFillModel", name := "rank", desc := "(I)I" } : Jvm.MethodName)) ∈ am_words := am_in 1291 (by decide +kernel) (by decide +kernel)
theorem wd_1292 : (Jvm.Cond.code ({ cls := "DigFillModel", name := "rank", desc := "(I)I" } : Jvm.MethodName) prog_10_method_66_code (1 : Nat) (Option.some Jvm.ClassFile.FieldType.int)) ∈ am_words := am_in 1292 (by decide +kernel) (by decide +kernel)
theorem wd_1293 : (Jvm.Cond.methodLink "DigFillModel" (267 : Nat) ({ cls := "DigFillModel", name := "notsOpen", desc := "()I" } : Jvm.MethodName)) ∈ am_words := am_in 1293 (by decide +kernel) (by decide +kernel)
theorem wd_1295 : (Jvm.Cond.instanceMethod ({ cls := "DigFillModel", name := "notsOpen", desc := "()I" } : Jvm.MethodName)) ∈ am_words := am_in 1295 (by decide +kernel) (by decide +kernel)
theorem wd_1296 : (Jvm.Cond.code ({ cls := "DigFillModel", name := "notsOpen", desc := "()I" } : Jvm.MethodName) prog_10_method_71_code (3 : Nat) (Option.some Jvm.ClassFile.FieldType.int)) ∈ am_words := am_in 1296 (by decide +kernel) (by decide +kernel)
theorem wd_1297 : (Jvm.Cond.methodLink "DigFillModel" (270 : Nat) ({ cls := "DigFillModel", name := "signHere", desc := "()I" } : Jvm.MethodName)) ∈ am_words := am_in 1297 (by decide +kernel) (by decide +kernel)
theorem wd_1299 : (Jvm.Cond.instanceMethod ({ cls := "DigFillModel", name := "signHere", desc := "()I" } : Jvm.MethodName)) ∈ am_words := am_in 1299 (by decide +kernel) (by decide +kernel)
theorem wd_1300 : (Jvm.Cond.code ({ cls := "DigFillModel", name := "signHere", desc := "()I" } : Jvm.MethodName) prog_10_method_68_code (1 : Nat) (Option.some Jvm.ClassFile.FieldType.int)) ∈ am_words := am_in 1300 (by decide +kernel) (by decide +kernel)
theorem wd_1301 : (Jvm.Cond.methodLink "DigFillLaw" (129 : Nat) ({ cls := "DigFillModel", name := "textTold", desc := "(II)I" } : Jvm.MethodName)) ∈ am_words := am_in 1301 (by decide +kernel) (by decide +kernel)
theorem wd_1302 : (Jvm.Cond.instanceMethod ({ cls := "DigFillModel", name := "textTold", desc := "(II)I" } : Jvm.MethodName)) ∈ am_words := am_in 1302 (by decide +kernel) (by decide +kernel)
theorem wd_1303 : (Jvm.Cond.selects "DigFillModel" ({ cls := "DigFillModel", name := "textTold", desc := "(II)I" } : Jvm.MethodName) ({ cls := "DigFillModel", name := "textTold", desc := "(II)I" } : Jvm.MethodName)) ∈ am_words := am_in 1303 (by decide +kernel) (by decide +kernel)
theorem wd_1304 : (Jvm.Cond.code ({ cls := "DigFillModel", name := "textTold", desc := "(II)I" } : Jvm.MethodName) prog_10_method_73_code (3 : Nat) (Option.some Jvm.ClassFile.FieldType.int)) ∈ am_words := am_in 1304 (by decide +kernel) (by decide +kernel)
theorem wd_1305 : (Jvm.Cond.methodLink "DigFillLaw" (133 : Nat) ({ cls := "DigFillModel", name := "why", desc := "(I)I" } : Jvm.MethodName)) ∈ am_words := am_in 1305 (by decide +kernel) (by decide +kernel)
theorem wd_1306 : (Jvm.Cond.instanceMethod ({ cls := "DigFillModel", name := "why", desc := "(I)I" } : Jvm.MethodName)) ∈ am_words := am_in 1306 (by decide +kernel) (by decide +kernel)
theorem wd_1307 : (Jvm.Cond.selects "DigFillModel" ({ cls := "DigFillModel", name := "why", desc := "(I)I" } : Jvm.MethodName) ({ cls := "DigFillModel", name := "why", desc := "(I)I" } : Jvm.MethodName)) ∈ am_words := am_in 1307 (by decide +kernel) (by decide +kernel)
theorem wd_1308 : (Jvm.Cond.code ({ cls := "DigFillModel", name := "why", desc := "(I)I" } : Jvm.MethodName) prog_10_method_75_code (3 : Nat) (Option.some Jvm.ClassFile.FieldType.int)) ∈ am_words := am_in 1308 (by decide +kernel) (by decide +kernel)
theorem wd_1309 : (Jvm.Cond.methodLink "DigFillLaw" (137 : Nat) ({ cls := "DigFillModel", name := "sheet", desc := "(III)I" } : Jvm.MethodName)) ∈ am_words := am_in 1309 (by decide +kernel) (by decide +kernel)
theorem wd_1310 : (Jvm.Cond.instanceMethod ({ cls := "DigFillModel", name := "sheet", desc := "(III)I" } : Jvm.MethodName)) ∈ am_words := am_in 1310 (by decide +kernel) (by decide +kernel)
theorem wd_1311 : (Jvm.Cond.selects "DigFillModel" ({ cls := "DigFillModel", name := "sheet", desc := "(III)I" } : Jvm.MethodName) ({ cls := "DigFillModel", name := "sheet", desc := "(III)I" } : Jvm.MethodName)) ∈ am_words := am_in 1311 (by decide +kernel) (by decide +kernel)
theorem wd_1312 : (Jvm.Cond.code ({ cls := "DigFillModel", name := "sheet", desc := "(III)I" } : Jvm.MethodName) prog_10_method_80_code (5 : Nat) (Option.some Jvm.ClassFile.FieldType.int)) ∈ am_words := am_in 1312 (by decide +kernel) (by decide +kernel)
theorem wd_1313 : (Jvm.Cond.constant "DigFillModel" (282 : Nat) (-1000000014 : Int32)) ∈ am_words := am_in 1313 (by decide +kernel) (by decide +kernel)
theorem wd_1314 : (Jvm.Cond.methodLink "DigFillLaw" (141 : Nat) ({ cls := "DigFillModel", name := "mark", desc := "(III)I" } : Jvm.MethodName)) ∈ am_words := am_in 1314 (by decide +kernel) (by decide +kernel)
theorem wd_1315 : (Jvm.Cond.instanceMethod ({ cls := "DigFillModel", name := "mark", desc := "(III)I" } : Jvm.MethodName)) ∈ am_words := am_in 1315 (by decide +kernel) (by decide +kernel)
theorem wd_1316 : (Jvm.Cond.selects "DigFillModel" ({ cls := "DigFillModel", name := "mark", desc := "(III)I" } : Jvm.MethodName) ({ cls := "DigFillModel", name := "mark", desc := "(III)I" } : Jvm.MethodName)) ∈ am_words := am_in 1316 (by decide +kernel) (by decide +kernel)
theorem wd_1317 : (Jvm.Cond.code ({ cls := "DigFillModel", name := "mark", desc := "(III)I" } : Jvm.MethodName) prog_10_method_81_code (4 : Nat) (Option.some Jvm.ClassFile.FieldType.int)) ∈ am_words := am_in 1317 (by decide +kernel) (by decide +kernel)
theorem wd_1318 : (Jvm.Cond.constant "DigFillModel" (283 : Nat) (-1000000013 : Int32)) ∈ am_words := am_in 1318 (by decide +kernel) (by decide +kernel)
theorem wd_1319 : (Jvm.Cond.constant "DigFillModel" (284 : Nat) (-99999 : Int32)) ∈ am_words := am_in 1319 (by decide +kernel) (by decide +kernel)
theorem wd_1320 : (Jvm.Cond.constant "DigFillModel" (285 : Nat) (99999 : Int32)) ∈ am_words := am_in 1320 (by decide +kernel) (by decide +kernel)
theorem wd_1321 : (Jvm.Cond.methodLink "DigFillLaw" (145 : Nat) ({ cls := "DigFillModel", name := "pour", desc := "(I)I" } : Jvm.MethodName)) ∈ am_words := am_in 1321 (by decide +kernel) (by decide +kernel)
theorem wd_1322 : (Jvm.Cond.instanceMethod ({ cls := "DigFillModel", name := "pour", desc := "(I)I" } : Jvm.MethodName)) ∈ am_words := am_in 1322 (by decide +kernel) (by decide +kernel)
theorem wd_1323 : (Jvm.Cond.selects "DigFillModel" ({ cls := "DigFillModel", name := "pour", desc := "(I)I" } : Jvm.MethodName) ({ cls := "DigFillModel", name := "pour", desc := "(I)I" } : Jvm.MethodName)) ∈ am_words := am_in 1323 (by decide +kernel) (by decide +kernel)
theorem wd_1324 : (Jvm.Cond.code ({ cls := "DigFillModel", name := "pour", desc := "(I)I" } : Jvm.MethodName) prog_10_method_82_code (6 : Nat) (Option.some Jvm.ClassFile.FieldType.int)) ∈ am_words := am_in 1324 (by decide +kernel) (by decide +kernel)
theorem wd_1325 : (Jvm.Cond.methodLink "DigFillLaw" (149 : Nat) ({ cls := "DigFillModel", name := "reads", desc := "(I)I" } : Jvm.MethodName)) ∈ am_words := am_in 1325 (by decide +kernel) (by decide +kernel)
theorem wd_1326 : (Jvm.Cond.instanceMethod ({ cls := "DigFillModel", name := "reads", desc := "(I)I" } : Jvm.MethodName)) ∈ am_words := am_in 1326 (by decide +kernel) (by decide +kernel)
theorem wd_1327 : (Jvm.Cond.selects "DigFillModel" ({ cls := "DigFillModel", name := "reads", desc := "(I)I" } : Jvm.MethodName) ({ cls := "DigFillModel", name := "reads", desc := "(I)I" } : Jvm.MethodName)) ∈ am_words := am_in 1327 (by decide +kernel) (by decide +kernel)
theorem wd_1328 : (Jvm.Cond.code ({ cls := "DigFillModel", name := "reads", desc := "(I)I" } : Jvm.MethodName) prog_10_method_83_code (4 : Nat) (Option.some Jvm.ClassFile.FieldType.int)) ∈ am_words := am_in 1328 (by decide +kernel) (by decide +kernel)
theorem wd_1329 : (Jvm.Cond.methodLink "DigFillLaw" (154 : Nat) ({ cls := "DigFillModel", name := "copy", desc := "(IIIII)I" } : Jvm.MethodName)) ∈ am_words := am_in 1329 (by decide +kernel) (by decide +kernel)
theorem wd_1330 : (Jvm.Cond.instanceMethod ({ cls := "DigFillModel", name := "copy", desc := "(IIIII)I" } : Jvm.MethodName)) ∈ am_words := am_in 1330 (by decide +kernel) (by decide +kernel)
theorem wd_1331 : (Jvm.Cond.selects "DigFillModel" ({ cls := "DigFillModel", name := "copy", desc := "(IIIII)I" } : Jvm.MethodName) ({ cls := "DigFillModel", name := "copy", desc := "(IIIII)I" } : Jvm.MethodName)) ∈ am_words := am_in 1331 (by decide +kernel) (by decide +kernel)
theorem wd_1332 : (Jvm.Cond.code ({ cls := "DigFillModel", name := "copy", desc := "(IIIII)I" } : Jvm.MethodName) prog_10_method_84_code (7 : Nat) (Option.some Jvm.ClassFile.FieldType.int)) ∈ am_words := am_in 1332 (by decide +kernel) (by decide +kernel)
theorem wd_1333 : (Jvm.Cond.methodLink "DigFillLaw" (158 : Nat) ({ cls := "DigFillModel", name := "lay", desc := "(III)I" } : Jvm.MethodName)) ∈ am_words := am_in 1333 (by decide +kernel) (by decide +kernel)
theorem wd_1334 : (Jvm.Cond.instanceMethod ({ cls := "DigFillModel", name := "lay", desc := "(III)I" } : Jvm.MethodName)) ∈ am_words := am_in 1334 (by decide +kernel) (by decide +kernel)
theorem wd_1335 : (Jvm.Cond.selects "DigFillModel" ({ cls := "DigFillModel", name := "lay", desc := "(III)I" } : Jvm.MethodName) ({ cls := "DigFillModel", name := "lay", desc := "(III)I" } : Jvm.MethodName)) ∈ am_words := am_in 1335 (by decide +kernel) (by decide +kernel)
theorem wd_1336 : (Jvm.Cond.code ({ cls := "DigFillModel", name := "lay", desc := "(III)I" } : Jvm.MethodName) prog_10_method_85_code (6 : Nat) (Option.some Jvm.ClassFile.FieldType.int)) ∈ am_words := am_in 1336 (by decide +kernel) (by decide +kernel)
theorem wd_1337 : (Jvm.Cond.methodLink "DigFillModel" (286 : Nat) ({ cls := "DigFillModel", name := "isSlot", desc := "(I)Z" } : Jvm.MethodName)) ∈ am_words := am_in 1337 (by decide +kernel) (by decide +kernel)
theorem wd_1338 : (Jvm.Cond.static ({ cls := "DigFillModel", name := "isSlot", desc := "(I)Z" } : Jvm.MethodName)) ∈ am_words := am_in 1338 (by decide +kernel) (by decide +kernel)
theorem wd_1339 : (Jvm.Cond.code ({ cls := "DigFillModel", name := "isSlot", desc := "(I)Z" } : Jvm.MethodName) prog_10_method_79_code (1 : Nat) (Option.some Jvm.ClassFile.FieldType.boolean)) ∈ am_words := am_in 1339 (by decide +kernel) (by decide +kernel)
theorem wd_1340 : (Jvm.Cond.methodLink "DigFillLaw" (162 : Nat) ({ cls := "DigFillModel", name := "ask", desc := "(II)I" } : Jvm.MethodName)) ∈ am_words := am_in 1340 (by decide +kernel) (by decide +kernel)
theorem wd_1341 : (Jvm.Cond.instanceMethod ({ cls := "DigFillModel", name := "ask", desc := "(II)I" } : Jvm.MethodName)) ∈ am_words := am_in 1341 (by decide +kernel) (by decide +kernel)
theorem wd_1342 : (Jvm.Cond.selects "DigFillModel" ({ cls := "DigFillModel", name := "ask", desc := "(II)I" } : Jvm.MethodName) ({ cls := "DigFillModel", name := "ask", desc := "(II)I" } : Jvm.MethodName)) ∈ am_words := am_in 1342 (by decide +kernel) (by decide +kernel)
theorem wd_1343 : (Jvm.Cond.code ({ cls := "DigFillModel", name := "ask", desc := "(II)I" } : Jvm.MethodName) prog_10_method_86_code (3 : Nat) (Option.some Jvm.ClassFile.FieldType.int)) ∈ am_words := am_in 1343 (by decide +kernel) (by decide +kernel)
theorem wd_1344 : (Jvm.Cond.methodLink "DigFillLaw" (166 : Nat) ({ cls := "DigFillModel", name := "item", desc := "(II)I" } : Jvm.MethodName)) ∈ am_words := am_in 1344 (by decide +kernel) (by decide +kernel)
theorem wd_1345 : (Jvm.Cond.instanceMethod ({ cls := "DigFillModel", name := "item", desc := "(II)I" } : Jvm.MethodName)) ∈ am_words := am_in 1345 (by decide +kernel) (by decide +kernel)
theorem wd_1346 : (Jvm.Cond.selects "DigFillModel" ({ cls := "DigFillModel", name := "item", desc := "(II)I" } : Jvm.MethodName) ({ cls := "DigFillModel", name := "item", desc := "(II)I" } : Jvm.MethodName)) ∈ am_words := am_in 1346 (by decide +kernel) (by decide +kernel)
theorem wd_1347 : (Jvm.Cond.code ({ cls := "DigFillModel", name := "item", desc := "(II)I" } : Jvm.MethodName) prog_10_method_87_code (4 : Nat) (Option.some Jvm.ClassFile.FieldType.int)) ∈ am_words := am_in 1347 (by decide +kernel) (by decide +kernel)
theorem wd_1348 : (Jvm.Cond.methodLink "DigFillLaw" (170 : Nat) ({ cls := "DigFillModel", name := "rest", desc := "(II)I" } : Jvm.MethodName)) ∈ am_words := am_in 1348 (by decide +kernel) (by decide +kernel)
theorem wd_1349 : (Jvm.Cond.instanceMethod ({ cls := "DigFillModel", name := "rest", desc := "(II)I" } : Jvm.MethodName)) ∈ am_words := am_in 1349 (by decide +kernel) (by decide +kernel)
theorem wd_1350 : (Jvm.Cond.selects "DigFillModel" ({ cls := "DigFillModel", name := "rest", desc := "(II)I" } : Jvm.MethodName) ({ cls := "DigFillModel", name := "rest", desc := "(II)I" } : Jvm.MethodName)) ∈ am_words := am_in 1350 (by decide +kernel) (by decide +kernel)
theorem wd_1351 : (Jvm.Cond.code ({ cls := "DigFillModel", name := "rest", desc := "(II)I" } : Jvm.MethodName) prog_10_method_88_code (3 : Nat) (Option.some Jvm.ClassFile.FieldType.int)) ∈ am_words := am_in 1351 (by decide +kernel) (by decide +kernel)
theorem wd_1352 : (Jvm.Cond.methodLink "DigFillLaw" (174 : Nat) ({ cls := "DigFillModel", name := "tell", desc := "(I)I" } : Jvm.MethodName)) ∈ am_words := am_in 1352 (by decide +kernel) (by decide +kernel)
theorem wd_1353 : (Jvm.Cond.instanceMethod ({ cls := "DigFillModel", name := "tell", desc := "(I)I" } : Jvm.MethodName)) ∈ am_words := am_in 1353 (by decide +kernel) (by decide +kernel)
theorem wd_1354 : (Jvm.Cond.selects "DigFillModel" ({ cls := "DigFillModel", name := "tell", desc := "(I)I" } : Jvm.MethodName) ({ cls := "DigFillModel", name := "tell", desc := "(I)I" } : Jvm.MethodName)) ∈ am_words := am_in 1354 (by decide +kernel) (by decide +kernel)
theorem wd_1355 : (Jvm.Cond.code ({ cls := "DigFillModel", name := "tell", desc := "(I)I" } : Jvm.MethodName) prog_10_method_89_code (2 : Nat) (Option.some Jvm.ClassFile.FieldType.int)) ∈ am_words := am_in 1355 (by decide +kernel) (by decide +kernel)
theorem wd_1356 : (Jvm.Cond.methodLink "DigFillLaw" (178 : Nat) ({ cls := "DigFillModel", name := "check", desc := "(I)I" } : Jvm.MethodName)) ∈ am_words := am_in 1356 (by decide +kernel) (by decide +kernel)
theorem wd_1357 : (Jvm.Cond.instanceMethod ({ cls := "DigFillModel", name := "check", desc := "(I)I" } : Jvm.MethodName)) ∈ am_words := am_in 1357 (by decide +kernel) (by decide +kernel)
theorem wd_1358 : (Jvm.Cond.selects "DigFillModel" ({ cls := "DigFillModel", name := "check", desc := "(I)I" } : Jvm.MethodName) ({ cls := "DigFillModel", name := "check", desc := "(I)I" } : Jvm.MethodName)) ∈ am_words := am_in 1358 (by decide +kernel) (by decide +kernel)
theorem wd_1359 : (Jvm.Cond.code ({ cls := "DigFillModel", name := "check", desc := "(I)I" } : Jvm.MethodName) prog_10_method_90_code (6 : Nat) (Option.some Jvm.ClassFile.FieldType.int)) ∈ am_words := am_in 1359 (by decide +kernel) (by decide +kernel)
theorem wd_1360 : (Jvm.Cond.methodLink "DigFillModel" (296 : Nat) ({ cls := "DigFillModel", name := "copyAll", desc := "([I[I)V" } : Jvm.MethodName)) ∈ am_words := am_in 1360 (by decide +kernel) (by decide +kernel)
theorem wd_1361 : (Jvm.Cond.static ({ cls := "DigFillModel", name := "copyAll", desc := "([I[I)V" } : Jvm.MethodName)) ∈ am_words := am_in 1361 (by decide +kernel) (by decide +kernel)
theorem wd_1362 : (Jvm.Cond.code ({ cls := "DigFillModel", name := "copyAll", desc := "([I[I)V" } : Jvm.MethodName) prog_10_method_4_code (3 : Nat) (Option.none : Option Jvm.ClassFile.FieldType)) ∈ am_words := am_in 1362 (by decide +kernel) (by decide +kernel)
theorem wd_1363 : (Jvm.Cond.methodLink "DigFillLaw" (182 : Nat) ({ cls := "DigFillModel", name := "keep", desc := "()I" } : Jvm.MethodName)) ∈ am_words := am_in 1363 (by decide +kernel) (by decide +kernel)
theorem wd_1364 : (Jvm.Cond.instanceMethod ({ cls := "DigFillModel", name := "keep", desc := "()I" } : Jvm.MethodName)) ∈ am_words := am_in 1364 (by decide +kernel) (by decide +kernel)
theorem wd_1365 : (Jvm.Cond.selects "DigFillModel" ({ cls := "DigFillModel", name := "keep", desc := "()I" } : Jvm.MethodName) ({ cls := "DigFillModel", name := "keep", desc := "()I" } : Jvm.MethodName)) ∈ am_words := am_in 1365 (by decide +kernel) (by decide +kernel)
theorem wd_1366 : (Jvm.Cond.code ({ cls := "DigFillModel", name := "keep", desc := "()I" } : Jvm.MethodName) prog_10_method_91_code (1 : Nat) (Option.some Jvm.ClassFile.FieldType.int)) ∈ am_words := am_in 1366 (by decide +kernel) (by decide +kernel)
theorem wd_1367 : (Jvm.Cond.methodLink "DigFillLaw" (186 : Nat) ({ cls := "DigFillModel", name := "back", desc := "()I" } : Jvm.MethodName)) ∈ am_words := am_in 1367 (by decide +kernel) (by decide +kernel)
theorem wd_1368 : (Jvm.Cond.instanceMethod ({ cls := "DigFillModel", name := "back", desc := "()I" } : Jvm.MethodName)) ∈ am_words := am_in 1368 (by decide +kernel) (by decide +kernel)
theorem wd_1369 : (Jvm.Cond.selects "DigFillModel" ({ cls := "DigFillModel", name := "back", desc := "()I" } : Jvm.MethodName) ({ cls := "DigFillModel", name := "back", desc := "()I" } : Jvm.MethodName)) ∈ am_words := am_in 1369 (by decide +kernel) (by decide +kernel)
theorem wd_1370 : (Jvm.Cond.code ({ cls := "DigFillModel", name := "back", desc := "()I" } : Jvm.MethodName) prog_10_method_92_code (1 : Nat) (Option.some Jvm.ClassFile.FieldType.int)) ∈ am_words := am_in 1370 (by decide +kernel) (by decide +kernel)
theorem wd_1371 : (Jvm.Cond.methodLink "DigFillLaw" (190 : Nat) ({ cls := "DigFillModel", name := "count", desc := "(I)I" } : Jvm.MethodName)) ∈ am_words := am_in 1371 (by decide +kernel) (by decide +kernel)
theorem wd_1372 : (Jvm.Cond.instanceMethod ({ cls := "DigFillModel", name := "count", desc := "(I)I" } : Jvm.MethodName)) ∈ am_words := am_in 1372 (by decide +kernel) (by decide +kernel)
theorem wd_1373 : (Jvm.Cond.selects "DigFillModel" ({ cls := "DigFillModel", name := "count", desc := "(I)I" } : Jvm.MethodName) ({ cls := "DigFillModel", name := "count", desc := "(I)I" } : Jvm.MethodName)) ∈ am_words := am_in 1373 (by decide +kernel) (by decide +kernel)
theorem wd_1374 : (Jvm.Cond.code ({ cls := "DigFillModel", name := "count", desc := "(I)I" } : Jvm.MethodName) prog_10_method_93_code (2 : Nat) (Option.some Jvm.ClassFile.FieldType.int)) ∈ am_words := am_in 1374 (by decide +kernel) (by decide +kernel)
theorem wd_1375 : (Jvm.Cond.fieldLink "java/lang/String" (9 : Nat) "java/lang/String" "value" "[B") ∈ am_words := am_in 1375 (by decide +kernel) (by decide +kernel)
theorem wd_1376 : (Jvm.Cond.fieldLink "java/lang/String" (15 : Nat) "java/lang/String" "coder" "B") ∈ am_words := am_in 1376 (by decide +kernel) (by decide +kernel)
theorem wn_33 : (Jvm.Cond.arrayOver (Jvm.ClassFile.FieldType.object "DigFill$Hole")) ∈ am_nw := am_inN 33 (by decide +kernel) (by decide +kernel)
theorem wn_35 : (Jvm.Cond.arrayOver (Jvm.ClassFile.FieldType.object "DigFill$Text")) ∈ am_nw := am_inN 35 (by decide +kernel) (by decide +kernel)
theorem wn_37 : (Jvm.Cond.methodLinkNest "DigFill$Land" (61 : Nat) ({ cls := "DigFill$Hole", name := "<init>", desc := "()V" } : Jvm.MethodName) "DigFill") ∈ am_nw := am_inN 37 (by decide +kernel) (by decide +kernel)
theorem wn_42 : (Jvm.Cond.fieldLinkNest "DigFill" (96 : Nat) "DigFill$Hole" "kind" "I" "DigFill") ∈ am_nw := am_inN 42 (by decide +kernel) (by decide +kernel)
theorem wn_43 : (Jvm.Cond.fieldLinkNest "DigFill$Land" (98 : Nat) "DigFill$Hole" "kind" "I" "DigFill") ∈ am_nw := am_inN 43 (by decide +kernel) (by decide +kernel)
theorem wn_45 : (Jvm.Cond.fieldLinkNest "DigFill$Dealer" (81 : Nat) "DigFill$Hole" "place" "I" "DigFill") ∈ am_nw := am_inN 45 (by decide +kernel) (by decide +kernel)
theorem wn_46 : (Jvm.Cond.fieldLinkNest "DigFill$Land" (89 : Nat) "DigFill$Hole" "place" "I" "DigFill") ∈ am_nw := am_inN 46 (by decide +kernel) (by decide +kernel)
theorem wn_48 : (Jvm.Cond.fieldLinkNest "DigFill" (92 : Nat) "DigFill$Hole" "depth" "I" "DigFill") ∈ am_nw := am_inN 48 (by decide +kernel) (by decide +kernel)
theorem wn_49 : (Jvm.Cond.fieldLinkNest "DigFill$Land" (86 : Nat) "DigFill$Hole" "depth" "I" "DigFill") ∈ am_nw := am_inN 49 (by decide +kernel) (by decide +kernel)
theorem wn_51 : (Jvm.Cond.fieldLinkNest "DigFill$Land" (112 : Nat) "DigFill$Hole" "owner" "I" "DigFill") ∈ am_nw := am_inN 51 (by decide +kernel) (by decide +kernel)
theorem wn_53 : (Jvm.Cond.fieldLinkNest "DigFill$Land" (109 : Nat) "DigFill$Hole" "age" "I" "DigFill") ∈ am_nw := am_inN 53 (by decide +kernel) (by decide +kernel)
theorem wn_67 : (Jvm.Cond.fieldLinkNest "DigFill$Dealer" (73 : Nat) "DigFill$Land" "holes" "[LDigFill$Hole;" "DigFill") ∈ am_nw := am_inN 67 (by decide +kernel) (by decide +kernel)
theorem wn_68 : (Jvm.Cond.fieldLinkNest "DigFill" (134 : Nat) "DigFill$Land" "holes" "[LDigFill$Hole;" "DigFill") ∈ am_nw := am_inN 68 (by decide +kernel) (by decide +kernel)
theorem wn_70 : (Jvm.Cond.fieldLinkNest "DigFill" (70 : Nat) "DigFill$Land" "holeCount" "I" "DigFill") ∈ am_nw := am_inN 70 (by decide +kernel) (by decide +kernel)
theorem wn_71 : (Jvm.Cond.fieldLinkNest "DigFill$Dealer" (46 : Nat) "DigFill$Land" "holeCount" "I" "DigFill") ∈ am_nw := am_inN 71 (by decide +kernel) (by decide +kernel)
theorem wn_73 : (Jvm.Cond.fieldLinkNest "DigFill$Dealer" (62 : Nat) "DigFill$Land" "wantPlaces" "[I" "DigFill") ∈ am_nw := am_inN 73 (by decide +kernel) (by decide +kernel)
theorem wn_74 : (Jvm.Cond.fieldLinkNest "DigFill" (156 : Nat) "DigFill$Land" "wantPlaces" "[I" "DigFill") ∈ am_nw := am_inN 74 (by decide +kernel) (by decide +kernel)
theorem wn_76 : (Jvm.Cond.fieldLinkNest "DigFill$Dealer" (66 : Nat) "DigFill$Land" "wantSpades" "[I" "DigFill") ∈ am_nw := am_inN 76 (by decide +kernel) (by decide +kernel)
theorem wn_77 : (Jvm.Cond.fieldLinkNest "DigFill" (159 : Nat) "DigFill$Land" "wantSpades" "[I" "DigFill") ∈ am_nw := am_inN 77 (by decide +kernel) (by decide +kernel)
theorem wn_79 : (Jvm.Cond.fieldLinkNest "DigFill$Dealer" (26 : Nat) "DigFill$Land" "wantCount" "I" "DigFill") ∈ am_nw := am_inN 79 (by decide +kernel) (by decide +kernel)
theorem wn_80 : (Jvm.Cond.fieldLinkNest "DigFill" (153 : Nat) "DigFill$Land" "wantCount" "I" "DigFill") ∈ am_nw := am_inN 80 (by decide +kernel) (by decide +kernel)
theorem wn_83 : (Jvm.Cond.fieldLinkNest "DigFill" (228 : Nat) "DigFill$Land" "textCount" "I" "DigFill") ∈ am_nw := am_inN 83 (by decide +kernel) (by decide +kernel)
theorem wn_85 : (Jvm.Cond.fieldLinkNest "DigFill" (247 : Nat) "DigFill$Land" "counting" "[I" "DigFill") ∈ am_nw := am_inN 85 (by decide +kernel) (by decide +kernel)
theorem wn_87 : (Jvm.Cond.fieldLinkNest "DigFill" (110 : Nat) "DigFill$Land" "mile" "I" "DigFill") ∈ am_nw := am_inN 87 (by decide +kernel) (by decide +kernel)
theorem wn_89 : (Jvm.Cond.fieldLinkNest "DigFill" (113 : Nat) "DigFill$Land" "swell" "I" "DigFill") ∈ am_nw := am_inN 89 (by decide +kernel) (by decide +kernel)
theorem wn_91 : (Jvm.Cond.fieldLinkNest "DigFill" (180 : Nat) "DigFill$Land" "day" "I" "DigFill") ∈ am_nw := am_inN 91 (by decide +kernel) (by decide +kernel)
theorem wn_93 : (Jvm.Cond.fieldLinkNest "DigFill" (146 : Nat) "DigFill$Land" "lifted" "I" "DigFill") ∈ am_nw := am_inN 93 (by decide +kernel) (by decide +kernel)
theorem wn_95 : (Jvm.Cond.fieldLinkNest "DigFill" (307 : Nat) "DigFill$Land" "lost" "I" "DigFill") ∈ am_nw := am_inN 95 (by decide +kernel) (by decide +kernel)
theorem wn_97 : (Jvm.Cond.fieldLinkNest "DigFill" (125 : Nat) "DigFill$Land" "z" "I" "DigFill") ∈ am_nw := am_inN 97 (by decide +kernel) (by decide +kernel)
theorem wn_129 : (Jvm.Cond.methodLinkNest "DigFill" (28 : Nat) ({ cls := "DigFill$Dealer", name := "<init>", desc := "()V" } : Jvm.MethodName) "DigFill") ∈ am_nw := am_inN 129 (by decide +kernel) (by decide +kernel)
theorem wn_149 : (Jvm.Cond.methodLinkNest "DigFill" (35 : Nat) ({ cls := "DigFill$Tape", name := "<init>", desc := "()V" } : Jvm.MethodName) "DigFill") ∈ am_nw := am_inN 149 (by decide +kernel) (by decide +kernel)
theorem wn_155 : (Jvm.Cond.fieldLinkNest "DigFill" (214 : Nat) "DigFill$Tape" "length" "I" "DigFill") ∈ am_nw := am_inN 155 (by decide +kernel) (by decide +kernel)
theorem wn_157 : (Jvm.Cond.fieldLinkNest "DigFill" (225 : Nat) "DigFill$Tape" "at" "I" "DigFill") ∈ am_nw := am_inN 157 (by decide +kernel) (by decide +kernel)
theorem wn_190 : (Jvm.Cond.arrayOver (Jvm.ClassFile.FieldType.object "DigFill$Sheet")) ∈ am_nw := am_inN 190 (by decide +kernel) (by decide +kernel)
theorem wn_192 : (Jvm.Cond.arrayOver (Jvm.ClassFile.FieldType.object "DigFill$Slot")) ∈ am_nw := am_inN 192 (by decide +kernel) (by decide +kernel)
theorem wn_194 : (Jvm.Cond.methodLinkNest "DigFill" (63 : Nat) ({ cls := "DigFill$Sheet", name := "<init>", desc := "()V" } : Jvm.MethodName) "DigFill") ∈ am_nw := am_inN 194 (by decide +kernel) (by decide +kernel)
theorem wn_199 : (Jvm.Cond.fieldLinkNest "DigFill" (203 : Nat) "DigFill$Sheet" "sort" "I" "DigFill") ∈ am_nw := am_inN 199 (by decide +kernel) (by decide +kernel)
theorem wn_201 : (Jvm.Cond.fieldLinkNest "DigFill" (269 : Nat) "DigFill$Sheet" "size" "I" "DigFill") ∈ am_nw := am_inN 201 (by decide +kernel) (by decide +kernel)
theorem wn_203 : (Jvm.Cond.fieldLinkNest "DigFill" (258 : Nat) "DigFill$Sheet" "places" "[I" "DigFill") ∈ am_nw := am_inN 203 (by decide +kernel) (by decide +kernel)
theorem wn_212 : (Jvm.Cond.methodLinkNest "DigFill" (64 : Nat) ({ cls := "DigFill$Slot", name := "<init>", desc := "()V" } : Jvm.MethodName) "DigFill") ∈ am_nw := am_inN 212 (by decide +kernel) (by decide +kernel)
theorem wn_217 : (Jvm.Cond.methodLinkNest "DigFill$Slot" (20 : Nat) ({ cls := "DigFill$Hole", name := "<init>", desc := "()V" } : Jvm.MethodName) "DigFill") ∈ am_nw := am_inN 217 (by decide +kernel) (by decide +kernel)
theorem wn_219 : (Jvm.Cond.methodLinkNest "DigFill$Slot" (27 : Nat) ({ cls := "DigFill$Sheet", name := "<init>", desc := "()V" } : Jvm.MethodName) "DigFill") ∈ am_nw := am_inN 219 (by decide +kernel) (by decide +kernel)
theorem wn_221 : (Jvm.Cond.fieldLinkNest "DigFill" (285 : Nat) "DigFill$Slot" "thing" "I" "DigFill") ∈ am_nw := am_inN 221 (by decide +kernel) (by decide +kernel)
theorem wn_223 : (Jvm.Cond.fieldLinkNest "DigFill" (288 : Nat) "DigFill$Slot" "number" "I" "DigFill") ∈ am_nw := am_inN 223 (by decide +kernel) (by decide +kernel)
theorem wn_225 : (Jvm.Cond.fieldLinkNest "DigFill" (291 : Nat) "DigFill$Slot" "hole" "LDigFill$Hole;" "DigFill") ∈ am_nw := am_inN 225 (by decide +kernel) (by decide +kernel)
theorem wn_227 : (Jvm.Cond.fieldLinkNest "DigFill" (298 : Nat) "DigFill$Slot" "row" "LDigFill$Sheet;" "DigFill") ∈ am_nw := am_inN 227 (by decide +kernel) (by decide +kernel)
theorem wn_313 : (Jvm.Cond.fieldLinkNest "DigFill$Hole" (35 : Nat) "DigFill" "ABOVE" "[I" "DigFill") ∈ am_nw := am_inN 313 (by decide +kernel) (by decide +kernel)
theorem wn_361 : (Jvm.Cond.methodLinkNest "DigFill$Land" (119 : Nat) ({ cls := "DigFill", name := "held", desc := "(II)I" } : Jvm.MethodName) "DigFill") ∈ am_nw := am_inN 361 (by decide +kernel) (by decide +kernel)
theorem wn_773 : (Jvm.Cond.fieldLinkNest "DigFill$Land" (139 : Nat) "DigFill$Text" "key" "I" "DigFill") ∈ am_nw := am_inN 773 (by decide +kernel) (by decide +kernel)
theorem wn_774 : (Jvm.Cond.fieldLinkNest "DigFill" (239 : Nat) "DigFill$Text" "key" "I" "DigFill") ∈ am_nw := am_inN 774 (by decide +kernel) (by decide +kernel)
theorem wn_776 : (Jvm.Cond.fieldLinkNest "DigFill" (244 : Nat) "DigFill$Text" "pieces" "I" "DigFill") ∈ am_nw := am_inN 776 (by decide +kernel) (by decide +kernel)
theorem wp_0 : Cond.selects "DigFill$Dealer" yX0_price yX0_price ∈ am_words := am_inP 0 (by decide +kernel) (by decide +kernel)
theorem wp_1 : Cond.selects "DigFill$Dealer" yX0_offer yX0_offer ∈ am_words := am_inP 1 (by decide +kernel) (by decide +kernel)
theorem wp_2 : Cond.selects "DigFill" yX7_sheetAt yX7_sheetAt ∈ am_words := am_inP 2 (by decide +kernel) (by decide +kernel)
theorem wp_3 : Cond.selects "DigFill" yX7_addDifferences yX7_addDifferences ∈ am_words := am_inP 3 (by decide +kernel) (by decide +kernel)
theorem wp_4 : Cond.selects "DigFill$Tape" yX5_step yX5_step ∈ am_words := am_inP 4 (by decide +kernel) (by decide +kernel)
theorem wp_5 : Cond.selects "DigFill$Tape" yX5_keyHere yX5_keyHere ∈ am_words := am_inP 5 (by decide +kernel) (by decide +kernel)
theorem wp_6 : Cond.selects "DigFill$Tape" yX5_isHere yX5_isHere ∈ am_words := am_inP 6 (by decide +kernel) (by decide +kernel)
theorem wp_7 : Cond.selects "DigFill$Tape" yX5_joinedBy yX5_joinedBy ∈ am_words := am_inP 7 (by decide +kernel) (by decide +kernel)
theorem wp_8 : Cond.selects "DigFill$Tape" yX5_partOf yX5_partOf ∈ am_words := am_inP 8 (by decide +kernel) (by decide +kernel)
theorem wp_9 : Cond.selects "DigFill$Tape" yX5_piece yX5_piece ∈ am_words := am_inP 9 (by decide +kernel) (by decide +kernel)
theorem wp_10 : Cond.selects "DigFill$Tape" yX5_number yX5_number ∈ am_words := am_inP 10 (by decide +kernel) (by decide +kernel)
theorem wp_11 : Cond.selects "DigFill$Tape" yX5_put yX5_put ∈ am_words := am_inP 11 (by decide +kernel) (by decide +kernel)
theorem wp_12 : Cond.selects "DigFill$Tape" yX5_name yX5_name ∈ am_words := am_inP 12 (by decide +kernel) (by decide +kernel)
theorem wp_13 : Cond.selects "DigFill$Tape" yX5_not yX5_not ∈ am_words := am_inP 13 (by decide +kernel) (by decide +kernel)
theorem wp_14 : Cond.selects "DigFill$Tape" yX5_brackets yX5_brackets ∈ am_words := am_inP 14 (by decide +kernel) (by decide +kernel)
theorem wp_15 : Cond.selects "DigFill$Tape" yX5_joins yX5_joins ∈ am_words := am_inP 15 (by decide +kernel) (by decide +kernel)
theorem wp_16 : Cond.selects "DigFill" yX7_slotAt yX7_slotAt ∈ am_words := am_inP 16 (by decide +kernel) (by decide +kernel)
theorem wp_17 : Cond.selects "DigFillModel" yX8_comes yX8_comes ∈ am_words := am_inP 17 (by decide +kernel) (by decide +kernel)
theorem wp_18 : Cond.selects "DigFillModel" yX8_lays yX8_lays ∈ am_words := am_inP 18 (by decide +kernel) (by decide +kernel)
theorem wp_19 : Cond.selects "DigFillModel" yX8_put yX8_put ∈ am_words := am_inP 19 (by decide +kernel) (by decide +kernel)
theorem wp_20 : Cond.selects "DigFillModel" yX8_isHole yX8_isHole ∈ am_words := am_inP 20 (by decide +kernel) (by decide +kernel)
theorem wp_21 : Cond.selects "DigFillModel" yX8_of yX8_of ∈ am_words := am_inP 21 (by decide +kernel) (by decide +kernel)
theorem wp_22 : Cond.selects "DigFillModel" yX8_worthOf yX8_worthOf ∈ am_words := am_inP 22 (by decide +kernel) (by decide +kernel)
theorem wp_23 : Cond.selects "DigFillModel" yX8_becomes yX8_becomes ∈ am_words := am_inP 23 (by decide +kernel) (by decide +kernel)
theorem wp_24 : Cond.selects "DigFillModel" yX8_settlesBy yX8_settlesBy ∈ am_words := am_inP 24 (by decide +kernel) (by decide +kernel)
theorem wp_25 : Cond.selects "DigFillModel" yX8_counts yX8_counts ∈ am_words := am_inP 25 (by decide +kernel) (by decide +kernel)
theorem wp_26 : Cond.selects "DigFillModel" yX8_worksOut yX8_worksOut ∈ am_words := am_inP 26 (by decide +kernel) (by decide +kernel)
theorem wp_27 : Cond.selects "DigFillModel" yX8_draw yX8_draw ∈ am_words := am_inP 27 (by decide +kernel) (by decide +kernel)
theorem wp_28 : Cond.selects "DigFillModel" yX8_earthOf yX8_earthOf ∈ am_words := am_inP 28 (by decide +kernel) (by decide +kernel)
theorem wp_29 : Cond.selects "DigFillModel" yX8_doesTake yX8_doesTake ∈ am_words := am_inP 29 (by decide +kernel) (by decide +kernel)
theorem wp_30 : Cond.selects "DigFillModel" yX8_apart yX8_apart ∈ am_words := am_inP 30 (by decide +kernel) (by decide +kernel)
theorem wp_31 : Cond.selects "DigFillModel" yX8_lawOf yX8_lawOf ∈ am_words := am_inP 31 (by decide +kernel) (by decide +kernel)
theorem wp_32 : Cond.selects "DigFillModel" yX8_metBut yX8_metBut ∈ am_words := am_inP 32 (by decide +kernel) (by decide +kernel)
theorem wp_33 : Cond.selects "DigFillModel" yX8_findsHole yX8_findsHole ∈ am_words := am_inP 33 (by decide +kernel) (by decide +kernel)
theorem wp_34 : Cond.selects "DigFillModel" yX8_doesMeet yX8_doesMeet ∈ am_words := am_inP 34 (by decide +kernel) (by decide +kernel)
theorem wp_35 : Cond.selects "DigFillModel" yX8_findDealing yX8_findDealing ∈ am_words := am_inP 35 (by decide +kernel) (by decide +kernel)
theorem wp_36 : Cond.selects "DigFillModel" yX8_scoreOf yX8_scoreOf ∈ am_words := am_inP 36 (by decide +kernel) (by decide +kernel)
theorem wp_37 : Cond.selects "DigFillModel" yX8_goesOn yX8_goesOn ∈ am_words := am_inP 37 (by decide +kernel) (by decide +kernel)
theorem wp_38 : Cond.selects "DigFillModel" yX8_day yX8_day ∈ am_words := am_inP 38 (by decide +kernel) (by decide +kernel)
theorem wp_39 : Cond.selects "DigFillModel" yX8_filled yX8_filled ∈ am_words := am_inP 39 (by decide +kernel) (by decide +kernel)
theorem wp_40 : Cond.selects "DigFillModel" yX8_thinks yX8_thinks ∈ am_words := am_inP 40 (by decide +kernel) (by decide +kernel)
theorem wp_41 : Cond.selects "DigFillModel" yX8_depthAll yX8_depthAll ∈ am_words := am_inP 41 (by decide +kernel) (by decide +kernel)
theorem wp_42 : Cond.selects "DigFillModel" yX8_putsBack yX8_putsBack ∈ am_words := am_inP 42 (by decide +kernel) (by decide +kernel)
theorem wp_43 : Cond.selects "DigFillModel" yX8_owedBy yX8_owedBy ∈ am_words := am_inP 43 (by decide +kernel) (by decide +kernel)
theorem wp_44 : Cond.selects "DigFillModel" yX8_go yX8_go ∈ am_words := am_inP 44 (by decide +kernel) (by decide +kernel)
theorem wp_45 : Cond.selects "DigFillModel" yX8_isLetter yX8_isLetter ∈ am_words := am_inP 45 (by decide +kernel) (by decide +kernel)
theorem wp_46 : Cond.selects "DigFillModel" yX8_isFigure yX8_isFigure ∈ am_words := am_inP 46 (by decide +kernel) (by decide +kernel)
theorem wp_47 : Cond.selects "DigFillModel" yX8_takesKey yX8_takesKey ∈ am_words := am_inP 47 (by decide +kernel) (by decide +kernel)
theorem wp_48 : Cond.selects "DigFillModel" yX8_takesE yX8_takesE ∈ am_words := am_inP 48 (by decide +kernel) (by decide +kernel)
theorem wp_49 : Cond.selects "DigFillModel" yX8_takesPart yX8_takesPart ∈ am_words := am_inP 49 (by decide +kernel) (by decide +kernel)
theorem wp_50 : Cond.selects "DigFillModel" yX8_nameOf yX8_nameOf ∈ am_words := am_inP 50 (by decide +kernel) (by decide +kernel)
theorem wp_51 : Cond.selects "DigFillModel" yX8_settle yX8_settle ∈ am_words := am_inP 51 (by decide +kernel) (by decide +kernel)
theorem wp_52 : Cond.selects "DigFillModel" yX8_notsOpen yX8_notsOpen ∈ am_words := am_inP 52 (by decide +kernel) (by decide +kernel)
theorem wp_53 : Cond.selects "DigFillModel" yX8_signHere yX8_signHere ∈ am_words := am_inP 53 (by decide +kernel) (by decide +kernel)
theorem hy_X0_init : yX0_init.cls ≠ "java/lang/invoke/MethodHandle" ∧ yX0_init.cls ≠ "java/lang/invoke/VarHandle" ∧ (parseMethodDescriptor yX0_init.desc).map (fun d => d.parameters.length) = some 0 := by decide +kernel
theorem hy_X0_solve : yX0_solve.cls ≠ "java/lang/invoke/MethodHandle" ∧ yX0_solve.cls ≠ "java/lang/invoke/VarHandle" ∧ (parseMethodDescriptor yX0_solve.desc).map (fun d => d.parameters.length) = some 3 := by decide +kernel
theorem hy_X0_price : yX0_price.cls ≠ "java/lang/invoke/MethodHandle" ∧ yX0_price.cls ≠ "java/lang/invoke/VarHandle" ∧ (parseMethodDescriptor yX0_price.desc).map (fun d => d.parameters.length) = some 3 := by decide +kernel
theorem hy_X0_offer : yX0_offer.cls ≠ "java/lang/invoke/MethodHandle" ∧ yX0_offer.cls ≠ "java/lang/invoke/VarHandle" ∧ (parseMethodDescriptor yX0_offer.desc).map (fun d => d.parameters.length) = some 0 := by decide +kernel
theorem hy_X0_miles : yX0_miles.cls ≠ "java/lang/invoke/MethodHandle" ∧ yX0_miles.cls ≠ "java/lang/invoke/VarHandle" ∧ (parseMethodDescriptor yX0_miles.desc).map (fun d => d.parameters.length) = some 0 := by decide +kernel
theorem hy_X0_holeOf : yX0_holeOf.cls ≠ "java/lang/invoke/MethodHandle" ∧ yX0_holeOf.cls ≠ "java/lang/invoke/VarHandle" ∧ (parseMethodDescriptor yX0_holeOf.desc).map (fun d => d.parameters.length) = some 1 := by decide +kernel
theorem hy_X1_init : yX1_init.cls ≠ "java/lang/invoke/MethodHandle" ∧ yX1_init.cls ≠ "java/lang/invoke/VarHandle" ∧ (parseMethodDescriptor yX1_init.desc).map (fun d => d.parameters.length) = some 0 := by decide +kernel
theorem hy_X1_start : yX1_start.cls ≠ "java/lang/invoke/MethodHandle" ∧ yX1_start.cls ≠ "java/lang/invoke/VarHandle" ∧ (parseMethodDescriptor yX1_start.desc).map (fun d => d.parameters.length) = some 4 := by decide +kernel
theorem hy_X1_become : yX1_become.cls ≠ "java/lang/invoke/MethodHandle" ∧ yX1_become.cls ≠ "java/lang/invoke/VarHandle" ∧ (parseMethodDescriptor yX1_become.desc).map (fun d => d.parameters.length) = some 1 := by decide +kernel
theorem hy_X1_part : yX1_part.cls ≠ "java/lang/invoke/MethodHandle" ∧ yX1_part.cls ≠ "java/lang/invoke/VarHandle" ∧ (parseMethodDescriptor yX1_part.desc).map (fun d => d.parameters.length) = some 1 := by decide +kernel
theorem hy_X1_change : yX1_change.cls ≠ "java/lang/invoke/MethodHandle" ∧ yX1_change.cls ≠ "java/lang/invoke/VarHandle" ∧ (parseMethodDescriptor yX1_change.desc).map (fun d => d.parameters.length) = some 2 := by decide +kernel
theorem hy_X1_isOf : yX1_isOf.cls ≠ "java/lang/invoke/MethodHandle" ∧ yX1_isOf.cls ≠ "java/lang/invoke/VarHandle" ∧ (parseMethodDescriptor yX1_isOf.desc).map (fun d => d.parameters.length) = some 1 := by decide +kernel
theorem hy_X1_worth : yX1_worth.cls ≠ "java/lang/invoke/MethodHandle" ∧ yX1_worth.cls ≠ "java/lang/invoke/VarHandle" ∧ (parseMethodDescriptor yX1_worth.desc).map (fun d => d.parameters.length) = some 0 := by decide +kernel
theorem hy_X2_init : yX2_init.cls ≠ "java/lang/invoke/MethodHandle" ∧ yX2_init.cls ≠ "java/lang/invoke/VarHandle" ∧ (parseMethodDescriptor yX2_init.desc).map (fun d => d.parameters.length) = some 0 := by decide +kernel
theorem hy_X2_become : yX2_become.cls ≠ "java/lang/invoke/MethodHandle" ∧ yX2_become.cls ≠ "java/lang/invoke/VarHandle" ∧ (parseMethodDescriptor yX2_become.desc).map (fun d => d.parameters.length) = some 1 := by decide +kernel
theorem hy_X2_find : yX2_find.cls ≠ "java/lang/invoke/MethodHandle" ∧ yX2_find.cls ≠ "java/lang/invoke/VarHandle" ∧ (parseMethodDescriptor yX2_find.desc).map (fun d => d.parameters.length) = some 1 := by decide +kernel
theorem hy_X2_open : yX2_open.cls ≠ "java/lang/invoke/MethodHandle" ∧ yX2_open.cls ≠ "java/lang/invoke/VarHandle" ∧ (parseMethodDescriptor yX2_open.desc).map (fun d => d.parameters.length) = some 4 := by decide +kernel
theorem hy_X2_openByLot : yX2_openByLot.cls ≠ "java/lang/invoke/MethodHandle" ∧ yX2_openByLot.cls ≠ "java/lang/invoke/VarHandle" ∧ (parseMethodDescriptor yX2_openByLot.desc).map (fun d => d.parameters.length) = some 0 := by decide +kernel
theorem hy_X2_draw : yX2_draw.cls ≠ "java/lang/invoke/MethodHandle" ∧ yX2_draw.cls ≠ "java/lang/invoke/VarHandle" ∧ (parseMethodDescriptor yX2_draw.desc).map (fun d => d.parameters.length) = some 0 := by decide +kernel
theorem hy_X2_roomAfter : yX2_roomAfter.cls ≠ "java/lang/invoke/MethodHandle" ∧ yX2_roomAfter.cls ≠ "java/lang/invoke/VarHandle" ∧ (parseMethodDescriptor yX2_roomAfter.desc).map (fun d => d.parameters.length) = some 2 := by decide +kernel
theorem hy_X2_earthOf : yX2_earthOf.cls ≠ "java/lang/invoke/MethodHandle" ∧ yX2_earthOf.cls ≠ "java/lang/invoke/VarHandle" ∧ (parseMethodDescriptor yX2_earthOf.desc).map (fun d => d.parameters.length) = some 1 := by decide +kernel
theorem hy_X2_canFill : yX2_canFill.cls ≠ "java/lang/invoke/MethodHandle" ∧ yX2_canFill.cls ≠ "java/lang/invoke/VarHandle" ∧ (parseMethodDescriptor yX2_canFill.desc).map (fun d => d.parameters.length) = some 3 := by decide +kernel
theorem hy_X2_isOldEnough : yX2_isOldEnough.cls ≠ "java/lang/invoke/MethodHandle" ∧ yX2_isOldEnough.cls ≠ "java/lang/invoke/VarHandle" ∧ (parseMethodDescriptor yX2_isOldEnough.desc).map (fun d => d.parameters.length) = some 1 := by decide +kernel
theorem hy_X2_sinks : yX2_sinks.cls ≠ "java/lang/invoke/MethodHandle" ∧ yX2_sinks.cls ≠ "java/lang/invoke/VarHandle" ∧ (parseMethodDescriptor yX2_sinks.desc).map (fun d => d.parameters.length) = some 2 := by decide +kernel
theorem hy_X2_sinksPlain : yX2_sinksPlain.cls ≠ "java/lang/invoke/MethodHandle" ∧ yX2_sinksPlain.cls ≠ "java/lang/invoke/VarHandle" ∧ (parseMethodDescriptor yX2_sinksPlain.desc).map (fun d => d.parameters.length) = some 2 := by decide +kernel
theorem hy_X2_passDay : yX2_passDay.cls ≠ "java/lang/invoke/MethodHandle" ∧ yX2_passDay.cls ≠ "java/lang/invoke/VarHandle" ∧ (parseMethodDescriptor yX2_passDay.desc).map (fun d => d.parameters.length) = some 0 := by decide +kernel
theorem hy_X2_filledCount : yX2_filledCount.cls ≠ "java/lang/invoke/MethodHandle" ∧ yX2_filledCount.cls ≠ "java/lang/invoke/VarHandle" ∧ (parseMethodDescriptor yX2_filledCount.desc).map (fun d => d.parameters.length) = some 0 := by decide +kernel
theorem hy_X2_depthSum : yX2_depthSum.cls ≠ "java/lang/invoke/MethodHandle" ∧ yX2_depthSum.cls ≠ "java/lang/invoke/VarHandle" ∧ (parseMethodDescriptor yX2_depthSum.desc).map (fun d => d.parameters.length) = some 0 := by decide +kernel
theorem hy_X2_debtOf : yX2_debtOf.cls ≠ "java/lang/invoke/MethodHandle" ∧ yX2_debtOf.cls ≠ "java/lang/invoke/VarHandle" ∧ (parseMethodDescriptor yX2_debtOf.desc).map (fun d => d.parameters.length) = some 1 := by decide +kernel
theorem hy_X2_fineOf : yX2_fineOf.cls ≠ "java/lang/invoke/MethodHandle" ∧ yX2_fineOf.cls ≠ "java/lang/invoke/VarHandle" ∧ (parseMethodDescriptor yX2_fineOf.desc).map (fun d => d.parameters.length) = some 1 := by decide +kernel
theorem hy_X2_findText : yX2_findText.cls ≠ "java/lang/invoke/MethodHandle" ∧ yX2_findText.cls ≠ "java/lang/invoke/VarHandle" ∧ (parseMethodDescriptor yX2_findText.desc).map (fun d => d.parameters.length) = some 1 := by decide +kernel
theorem hy_X2_textFor : yX2_textFor.cls ≠ "java/lang/invoke/MethodHandle" ∧ yX2_textFor.cls ≠ "java/lang/invoke/VarHandle" ∧ (parseMethodDescriptor yX2_textFor.desc).map (fun d => d.parameters.length) = some 1 := by decide +kernel
theorem hy_X2_addText : yX2_addText.cls ≠ "java/lang/invoke/MethodHandle" ∧ yX2_addText.cls ≠ "java/lang/invoke/VarHandle" ∧ (parseMethodDescriptor yX2_addText.desc).map (fun d => d.parameters.length) = some 1 := by decide +kernel
theorem hy_X3_init : yX3_init.cls ≠ "java/lang/invoke/MethodHandle" ∧ yX3_init.cls ≠ "java/lang/invoke/VarHandle" ∧ (parseMethodDescriptor yX3_init.desc).map (fun d => d.parameters.length) = some 0 := by decide +kernel
theorem hy_X3_clear : yX3_clear.cls ≠ "java/lang/invoke/MethodHandle" ∧ yX3_clear.cls ≠ "java/lang/invoke/VarHandle" ∧ (parseMethodDescriptor yX3_clear.desc).map (fun d => d.parameters.length) = some 2 := by decide +kernel
theorem hy_X3_become : yX3_become.cls ≠ "java/lang/invoke/MethodHandle" ∧ yX3_become.cls ≠ "java/lang/invoke/VarHandle" ∧ (parseMethodDescriptor yX3_become.desc).map (fun d => d.parameters.length) = some 1 := by decide +kernel
theorem hy_X3_has : yX3_has.cls ≠ "java/lang/invoke/MethodHandle" ∧ yX3_has.cls ≠ "java/lang/invoke/VarHandle" ∧ (parseMethodDescriptor yX3_has.desc).map (fun d => d.parameters.length) = some 1 := by decide +kernel
theorem hy_X3_hasAll : yX3_hasAll.cls ≠ "java/lang/invoke/MethodHandle" ∧ yX3_hasAll.cls ≠ "java/lang/invoke/VarHandle" ∧ (parseMethodDescriptor yX3_hasAll.desc).map (fun d => d.parameters.length) = some 2 := by decide +kernel
theorem hy_X3_isNumber : yX3_isNumber.cls ≠ "java/lang/invoke/MethodHandle" ∧ yX3_isNumber.cls ≠ "java/lang/invoke/VarHandle" ∧ (parseMethodDescriptor yX3_isNumber.desc).map (fun d => d.parameters.length) = some 1 := by decide +kernel
theorem hy_X4_init : yX4_init.cls ≠ "java/lang/invoke/MethodHandle" ∧ yX4_init.cls ≠ "java/lang/invoke/VarHandle" ∧ (parseMethodDescriptor yX4_init.desc).map (fun d => d.parameters.length) = some 0 := by decide +kernel
theorem hy_X5_init : yX5_init.cls ≠ "java/lang/invoke/MethodHandle" ∧ yX5_init.cls ≠ "java/lang/invoke/VarHandle" ∧ (parseMethodDescriptor yX5_init.desc).map (fun d => d.parameters.length) = some 0 := by decide +kernel
theorem hy_X5_putBytes : yX5_putBytes.cls ≠ "java/lang/invoke/MethodHandle" ∧ yX5_putBytes.cls ≠ "java/lang/invoke/VarHandle" ∧ (parseMethodDescriptor yX5_putBytes.desc).map (fun d => d.parameters.length) = some 1 := by decide +kernel
theorem hy_X5_read : yX5_read.cls ≠ "java/lang/invoke/MethodHandle" ∧ yX5_read.cls ≠ "java/lang/invoke/VarHandle" ∧ (parseMethodDescriptor yX5_read.desc).map (fun d => d.parameters.length) = some 0 := by decide +kernel
theorem hy_X5_step : yX5_step.cls ≠ "java/lang/invoke/MethodHandle" ∧ yX5_step.cls ≠ "java/lang/invoke/VarHandle" ∧ (parseMethodDescriptor yX5_step.desc).map (fun d => d.parameters.length) = some 0 := by decide +kernel
theorem hy_X5_sortOf : yX5_sortOf.cls ≠ "java/lang/invoke/MethodHandle" ∧ yX5_sortOf.cls ≠ "java/lang/invoke/VarHandle" ∧ (parseMethodDescriptor yX5_sortOf.desc).map (fun d => d.parameters.length) = some 1 := by decide +kernel
theorem hy_X5_keyHere : yX5_keyHere.cls ≠ "java/lang/invoke/MethodHandle" ∧ yX5_keyHere.cls ≠ "java/lang/invoke/VarHandle" ∧ (parseMethodDescriptor yX5_keyHere.desc).map (fun d => d.parameters.length) = some 0 := by decide +kernel
theorem hy_X5_isHere : yX5_isHere.cls ≠ "java/lang/invoke/MethodHandle" ∧ yX5_isHere.cls ≠ "java/lang/invoke/VarHandle" ∧ (parseMethodDescriptor yX5_isHere.desc).map (fun d => d.parameters.length) = some 1 := by decide +kernel
theorem hy_X5_joinedBy : yX5_joinedBy.cls ≠ "java/lang/invoke/MethodHandle" ∧ yX5_joinedBy.cls ≠ "java/lang/invoke/VarHandle" ∧ (parseMethodDescriptor yX5_joinedBy.desc).map (fun d => d.parameters.length) = some 1 := by decide +kernel
theorem hy_X5_partOf : yX5_partOf.cls ≠ "java/lang/invoke/MethodHandle" ∧ yX5_partOf.cls ≠ "java/lang/invoke/VarHandle" ∧ (parseMethodDescriptor yX5_partOf.desc).map (fun d => d.parameters.length) = some 1 := by decide +kernel
theorem hy_X5_joins : yX5_joins.cls ≠ "java/lang/invoke/MethodHandle" ∧ yX5_joins.cls ≠ "java/lang/invoke/VarHandle" ∧ (parseMethodDescriptor yX5_joins.desc).map (fun d => d.parameters.length) = some 1 := by decide +kernel
theorem hy_X5_piece : yX5_piece.cls ≠ "java/lang/invoke/MethodHandle" ∧ yX5_piece.cls ≠ "java/lang/invoke/VarHandle" ∧ (parseMethodDescriptor yX5_piece.desc).map (fun d => d.parameters.length) = some 0 := by decide +kernel
theorem hy_X5_number : yX5_number.cls ≠ "java/lang/invoke/MethodHandle" ∧ yX5_number.cls ≠ "java/lang/invoke/VarHandle" ∧ (parseMethodDescriptor yX5_number.desc).map (fun d => d.parameters.length) = some 0 := by decide +kernel
theorem hy_X5_name : yX5_name.cls ≠ "java/lang/invoke/MethodHandle" ∧ yX5_name.cls ≠ "java/lang/invoke/VarHandle" ∧ (parseMethodDescriptor yX5_name.desc).map (fun d => d.parameters.length) = some 0 := by decide +kernel
theorem hy_X5_namesOf : yX5_namesOf.cls ≠ "java/lang/invoke/MethodHandle" ∧ yX5_namesOf.cls ≠ "java/lang/invoke/VarHandle" ∧ (parseMethodDescriptor yX5_namesOf.desc).map (fun d => d.parameters.length) = some 1 := by decide +kernel
theorem hy_X5_not : yX5_not.cls ≠ "java/lang/invoke/MethodHandle" ∧ yX5_not.cls ≠ "java/lang/invoke/VarHandle" ∧ (parseMethodDescriptor yX5_not.desc).map (fun d => d.parameters.length) = some 0 := by decide +kernel
theorem hy_X5_brackets : yX5_brackets.cls ≠ "java/lang/invoke/MethodHandle" ∧ yX5_brackets.cls ≠ "java/lang/invoke/VarHandle" ∧ (parseMethodDescriptor yX5_brackets.desc).map (fun d => d.parameters.length) = some 0 := by decide +kernel
theorem hy_X5_put : yX5_put.cls ≠ "java/lang/invoke/MethodHandle" ∧ yX5_put.cls ≠ "java/lang/invoke/VarHandle" ∧ (parseMethodDescriptor yX5_put.desc).map (fun d => d.parameters.length) = some 1 := by decide +kernel
theorem hy_X6_init : yX6_init.cls ≠ "java/lang/invoke/MethodHandle" ∧ yX6_init.cls ≠ "java/lang/invoke/VarHandle" ∧ (parseMethodDescriptor yX6_init.desc).map (fun d => d.parameters.length) = some 3 := by decide +kernel
theorem hy_X6_value : yX6_value.cls ≠ "java/lang/invoke/MethodHandle" ∧ yX6_value.cls ≠ "java/lang/invoke/VarHandle" ∧ (parseMethodDescriptor yX6_value.desc).map (fun d => d.parameters.length) = some 3 := by decide +kernel
theorem hy_X6_plain : yX6_plain.cls ≠ "java/lang/invoke/MethodHandle" ∧ yX6_plain.cls ≠ "java/lang/invoke/VarHandle" ∧ (parseMethodDescriptor yX6_plain.desc).map (fun d => d.parameters.length) = some 4 := by decide +kernel
theorem hy_X6_joined : yX6_joined.cls ≠ "java/lang/invoke/MethodHandle" ∧ yX6_joined.cls ≠ "java/lang/invoke/VarHandle" ∧ (parseMethodDescriptor yX6_joined.desc).map (fun d => d.parameters.length) = some 3 := by decide +kernel
theorem hy_X7_init : yX7_init.cls ≠ "java/lang/invoke/MethodHandle" ∧ yX7_init.cls ≠ "java/lang/invoke/VarHandle" ∧ (parseMethodDescriptor yX7_init.desc).map (fun d => d.parameters.length) = some 0 := by decide +kernel
theorem hy_X7_hole : yX7_hole.cls ≠ "java/lang/invoke/MethodHandle" ∧ yX7_hole.cls ≠ "java/lang/invoke/VarHandle" ∧ (parseMethodDescriptor yX7_hole.desc).map (fun d => d.parameters.length) = some 4 := by decide +kernel
theorem hy_X7_told : yX7_told.cls ≠ "java/lang/invoke/MethodHandle" ∧ yX7_told.cls ≠ "java/lang/invoke/VarHandle" ∧ (parseMethodDescriptor yX7_told.desc).map (fun d => d.parameters.length) = some 2 := by decide +kernel
theorem hy_X7_as : yX7_as.cls ≠ "java/lang/invoke/MethodHandle" ∧ yX7_as.cls ≠ "java/lang/invoke/VarHandle" ∧ (parseMethodDescriptor yX7_as.desc).map (fun d => d.parameters.length) = some 2 := by decide +kernel
theorem hy_X7_turns : yX7_turns.cls ≠ "java/lang/invoke/MethodHandle" ∧ yX7_turns.cls ≠ "java/lang/invoke/VarHandle" ∧ (parseMethodDescriptor yX7_turns.desc).map (fun d => d.parameters.length) = some 2 := by decide +kernel
theorem hy_X7_set : yX7_set.cls ≠ "java/lang/invoke/MethodHandle" ∧ yX7_set.cls ≠ "java/lang/invoke/VarHandle" ∧ (parseMethodDescriptor yX7_set.desc).map (fun d => d.parameters.length) = some 3 := by decide +kernel
theorem hy_X7_settles : yX7_settles.cls ≠ "java/lang/invoke/MethodHandle" ∧ yX7_settles.cls ≠ "java/lang/invoke/VarHandle" ∧ (parseMethodDescriptor yX7_settles.desc).map (fun d => d.parameters.length) = some 2 := by decide +kernel
theorem hy_X7_rule : yX7_rule.cls ≠ "java/lang/invoke/MethodHandle" ∧ yX7_rule.cls ≠ "java/lang/invoke/VarHandle" ∧ (parseMethodDescriptor yX7_rule.desc).map (fun d => d.parameters.length) = some 2 := by decide +kernel
theorem hy_X7_deal : yX7_deal.cls ≠ "java/lang/invoke/MethodHandle" ∧ yX7_deal.cls ≠ "java/lang/invoke/VarHandle" ∧ (parseMethodDescriptor yX7_deal.desc).map (fun d => d.parameters.length) = some 1 := by decide +kernel
theorem hy_X7_seed : yX7_seed.cls ≠ "java/lang/invoke/MethodHandle" ∧ yX7_seed.cls ≠ "java/lang/invoke/VarHandle" ∧ (parseMethodDescriptor yX7_seed.desc).map (fun d => d.parameters.length) = some 1 := by decide +kernel
theorem hy_X7_takes : yX7_takes.cls ≠ "java/lang/invoke/MethodHandle" ∧ yX7_takes.cls ≠ "java/lang/invoke/VarHandle" ∧ (parseMethodDescriptor yX7_takes.desc).map (fun d => d.parameters.length) = some 2 := by decide +kernel
theorem hy_X7_dig : yX7_dig.cls ≠ "java/lang/invoke/MethodHandle" ∧ yX7_dig.cls ≠ "java/lang/invoke/VarHandle" ∧ (parseMethodDescriptor yX7_dig.desc).map (fun d => d.parameters.length) = some 4 := by decide +kernel
theorem hy_X7_want : yX7_want.cls ≠ "java/lang/invoke/MethodHandle" ∧ yX7_want.cls ≠ "java/lang/invoke/VarHandle" ∧ (parseMethodDescriptor yX7_want.desc).map (fun d => d.parameters.length) = some 2 := by decide +kernel
theorem hy_X7_forget : yX7_forget.cls ≠ "java/lang/invoke/MethodHandle" ∧ yX7_forget.cls ≠ "java/lang/invoke/VarHandle" ∧ (parseMethodDescriptor yX7_forget.desc).map (fun d => d.parameters.length) = some 0 := by decide +kernel
theorem hy_X7_dealing : yX7_dealing.cls ≠ "java/lang/invoke/MethodHandle" ∧ yX7_dealing.cls ≠ "java/lang/invoke/VarHandle" ∧ (parseMethodDescriptor yX7_dealing.desc).map (fun d => d.parameters.length) = some 1 := by decide +kernel
theorem hy_X7_adds : yX7_adds.cls ≠ "java/lang/invoke/MethodHandle" ∧ yX7_adds.cls ≠ "java/lang/invoke/VarHandle" ∧ (parseMethodDescriptor yX7_adds.desc).map (fun d => d.parameters.length) = some 1 := by decide +kernel
theorem hy_X7_frees : yX7_frees.cls ≠ "java/lang/invoke/MethodHandle" ∧ yX7_frees.cls ≠ "java/lang/invoke/VarHandle" ∧ (parseMethodDescriptor yX7_frees.desc).map (fun d => d.parameters.length) = some 1 := by decide +kernel
theorem hy_X7_days : yX7_days.cls ≠ "java/lang/invoke/MethodHandle" ∧ yX7_days.cls ≠ "java/lang/invoke/VarHandle" ∧ (parseMethodDescriptor yX7_days.desc).map (fun d => d.parameters.length) = some 1 := by decide +kernel
theorem hy_X7_behind : yX7_behind.cls ≠ "java/lang/invoke/MethodHandle" ∧ yX7_behind.cls ≠ "java/lang/invoke/VarHandle" ∧ (parseMethodDescriptor yX7_behind.desc).map (fun d => d.parameters.length) = some 2 := by decide +kernel
theorem hy_X7_paid : yX7_paid.cls ≠ "java/lang/invoke/MethodHandle" ∧ yX7_paid.cls ≠ "java/lang/invoke/VarHandle" ∧ (parseMethodDescriptor yX7_paid.desc).map (fun d => d.parameters.length) = some 0 := by decide +kernel
theorem hy_X7_best : yX7_best.cls ≠ "java/lang/invoke/MethodHandle" ∧ yX7_best.cls ≠ "java/lang/invoke/VarHandle" ∧ (parseMethodDescriptor yX7_best.desc).map (fun d => d.parameters.length) = some 2 := by decide +kernel
theorem hy_X7_owes : yX7_owes.cls ≠ "java/lang/invoke/MethodHandle" ∧ yX7_owes.cls ≠ "java/lang/invoke/VarHandle" ∧ (parseMethodDescriptor yX7_owes.desc).map (fun d => d.parameters.length) = some 1 := by decide +kernel
theorem hy_X7_debtor : yX7_debtor.cls ≠ "java/lang/invoke/MethodHandle" ∧ yX7_debtor.cls ≠ "java/lang/invoke/VarHandle" ∧ (parseMethodDescriptor yX7_debtor.desc).map (fun d => d.parameters.length) = some 0 := by decide +kernel
theorem hy_X7_dug : yX7_dug.cls ≠ "java/lang/invoke/MethodHandle" ∧ yX7_dug.cls ≠ "java/lang/invoke/VarHandle" ∧ (parseMethodDescriptor yX7_dug.desc).map (fun d => d.parameters.length) = some 2 := by decide +kernel
theorem hy_X7_fine : yX7_fine.cls ≠ "java/lang/invoke/MethodHandle" ∧ yX7_fine.cls ≠ "java/lang/invoke/VarHandle" ∧ (parseMethodDescriptor yX7_fine.desc).map (fun d => d.parameters.length) = some 1 := by decide +kernel
theorem hy_X7_feed : yX7_feed.cls ≠ "java/lang/invoke/MethodHandle" ∧ yX7_feed.cls ≠ "java/lang/invoke/VarHandle" ∧ (parseMethodDescriptor yX7_feed.desc).map (fun d => d.parameters.length) = some 3 := by decide +kernel
theorem hy_X7_trim : yX7_trim.cls ≠ "java/lang/invoke/MethodHandle" ∧ yX7_trim.cls ≠ "java/lang/invoke/VarHandle" ∧ (parseMethodDescriptor yX7_trim.desc).map (fun d => d.parameters.length) = some 1 := by decide +kernel
theorem hy_X7_text : yX7_text.cls ≠ "java/lang/invoke/MethodHandle" ∧ yX7_text.cls ≠ "java/lang/invoke/VarHandle" ∧ (parseMethodDescriptor yX7_text.desc).map (fun d => d.parameters.length) = some 0 := by decide +kernel
theorem hy_X7_textTold : yX7_textTold.cls ≠ "java/lang/invoke/MethodHandle" ∧ yX7_textTold.cls ≠ "java/lang/invoke/VarHandle" ∧ (parseMethodDescriptor yX7_textTold.desc).map (fun d => d.parameters.length) = some 2 := by decide +kernel
theorem hy_X7_why : yX7_why.cls ≠ "java/lang/invoke/MethodHandle" ∧ yX7_why.cls ≠ "java/lang/invoke/VarHandle" ∧ (parseMethodDescriptor yX7_why.desc).map (fun d => d.parameters.length) = some 1 := by decide +kernel
theorem hy_X7_sheet : yX7_sheet.cls ≠ "java/lang/invoke/MethodHandle" ∧ yX7_sheet.cls ≠ "java/lang/invoke/VarHandle" ∧ (parseMethodDescriptor yX7_sheet.desc).map (fun d => d.parameters.length) = some 3 := by decide +kernel
theorem hy_X7_mark : yX7_mark.cls ≠ "java/lang/invoke/MethodHandle" ∧ yX7_mark.cls ≠ "java/lang/invoke/VarHandle" ∧ (parseMethodDescriptor yX7_mark.desc).map (fun d => d.parameters.length) = some 3 := by decide +kernel
theorem hy_X7_pour : yX7_pour.cls ≠ "java/lang/invoke/MethodHandle" ∧ yX7_pour.cls ≠ "java/lang/invoke/VarHandle" ∧ (parseMethodDescriptor yX7_pour.desc).map (fun d => d.parameters.length) = some 1 := by decide +kernel
theorem hy_X7_reads : yX7_reads.cls ≠ "java/lang/invoke/MethodHandle" ∧ yX7_reads.cls ≠ "java/lang/invoke/VarHandle" ∧ (parseMethodDescriptor yX7_reads.desc).map (fun d => d.parameters.length) = some 1 := by decide +kernel
theorem hy_X7_copy : yX7_copy.cls ≠ "java/lang/invoke/MethodHandle" ∧ yX7_copy.cls ≠ "java/lang/invoke/VarHandle" ∧ (parseMethodDescriptor yX7_copy.desc).map (fun d => d.parameters.length) = some 5 := by decide +kernel
theorem hy_X7_lay : yX7_lay.cls ≠ "java/lang/invoke/MethodHandle" ∧ yX7_lay.cls ≠ "java/lang/invoke/VarHandle" ∧ (parseMethodDescriptor yX7_lay.desc).map (fun d => d.parameters.length) = some 3 := by decide +kernel
theorem hy_X7_ask : yX7_ask.cls ≠ "java/lang/invoke/MethodHandle" ∧ yX7_ask.cls ≠ "java/lang/invoke/VarHandle" ∧ (parseMethodDescriptor yX7_ask.desc).map (fun d => d.parameters.length) = some 2 := by decide +kernel
theorem hy_X7_item : yX7_item.cls ≠ "java/lang/invoke/MethodHandle" ∧ yX7_item.cls ≠ "java/lang/invoke/VarHandle" ∧ (parseMethodDescriptor yX7_item.desc).map (fun d => d.parameters.length) = some 2 := by decide +kernel
theorem hy_X7_rest : yX7_rest.cls ≠ "java/lang/invoke/MethodHandle" ∧ yX7_rest.cls ≠ "java/lang/invoke/VarHandle" ∧ (parseMethodDescriptor yX7_rest.desc).map (fun d => d.parameters.length) = some 2 := by decide +kernel
theorem hy_X7_tell : yX7_tell.cls ≠ "java/lang/invoke/MethodHandle" ∧ yX7_tell.cls ≠ "java/lang/invoke/VarHandle" ∧ (parseMethodDescriptor yX7_tell.desc).map (fun d => d.parameters.length) = some 1 := by decide +kernel
theorem hy_X7_check : yX7_check.cls ≠ "java/lang/invoke/MethodHandle" ∧ yX7_check.cls ≠ "java/lang/invoke/VarHandle" ∧ (parseMethodDescriptor yX7_check.desc).map (fun d => d.parameters.length) = some 1 := by decide +kernel
theorem hy_X7_keep : yX7_keep.cls ≠ "java/lang/invoke/MethodHandle" ∧ yX7_keep.cls ≠ "java/lang/invoke/VarHandle" ∧ (parseMethodDescriptor yX7_keep.desc).map (fun d => d.parameters.length) = some 0 := by decide +kernel
theorem hy_X7_back : yX7_back.cls ≠ "java/lang/invoke/MethodHandle" ∧ yX7_back.cls ≠ "java/lang/invoke/VarHandle" ∧ (parseMethodDescriptor yX7_back.desc).map (fun d => d.parameters.length) = some 0 := by decide +kernel
theorem hy_X7_count : yX7_count.cls ≠ "java/lang/invoke/MethodHandle" ∧ yX7_count.cls ≠ "java/lang/invoke/VarHandle" ∧ (parseMethodDescriptor yX7_count.desc).map (fun d => d.parameters.length) = some 1 := by decide +kernel
theorem hy_X7_within : yX7_within.cls ≠ "java/lang/invoke/MethodHandle" ∧ yX7_within.cls ≠ "java/lang/invoke/VarHandle" ∧ (parseMethodDescriptor yX7_within.desc).map (fun d => d.parameters.length) = some 2 := by decide +kernel
theorem hy_X7_isSpades : yX7_isSpades.cls ≠ "java/lang/invoke/MethodHandle" ∧ yX7_isSpades.cls ≠ "java/lang/invoke/VarHandle" ∧ (parseMethodDescriptor yX7_isSpades.desc).map (fun d => d.parameters.length) = some 1 := by decide +kernel
theorem hy_X7_held : yX7_held.cls ≠ "java/lang/invoke/MethodHandle" ∧ yX7_held.cls ≠ "java/lang/invoke/VarHandle" ∧ (parseMethodDescriptor yX7_held.desc).map (fun d => d.parameters.length) = some 2 := by decide +kernel
theorem hy_X7_mostOf : yX7_mostOf.cls ≠ "java/lang/invoke/MethodHandle" ∧ yX7_mostOf.cls ≠ "java/lang/invoke/VarHandle" ∧ (parseMethodDescriptor yX7_mostOf.desc).map (fun d => d.parameters.length) = some 1 := by decide +kernel
theorem hy_X7_addDifferences : yX7_addDifferences.cls ≠ "java/lang/invoke/MethodHandle" ∧ yX7_addDifferences.cls ≠ "java/lang/invoke/VarHandle" ∧ (parseMethodDescriptor yX7_addDifferences.desc).map (fun d => d.parameters.length) = some 1 := by decide +kernel
theorem hy_X7_sheetAt : yX7_sheetAt.cls ≠ "java/lang/invoke/MethodHandle" ∧ yX7_sheetAt.cls ≠ "java/lang/invoke/VarHandle" ∧ (parseMethodDescriptor yX7_sheetAt.desc).map (fun d => d.parameters.length) = some 1 := by decide +kernel
theorem hy_X7_slotAt : yX7_slotAt.cls ≠ "java/lang/invoke/MethodHandle" ∧ yX7_slotAt.cls ≠ "java/lang/invoke/VarHandle" ∧ (parseMethodDescriptor yX7_slotAt.desc).map (fun d => d.parameters.length) = some 1 := by decide +kernel
theorem hy_X8_init : yX8_init.cls ≠ "java/lang/invoke/MethodHandle" ∧ yX8_init.cls ≠ "java/lang/invoke/VarHandle" ∧ (parseMethodDescriptor yX8_init.desc).map (fun d => d.parameters.length) = some 0 := by decide +kernel
theorem hy_X8_in : yX8_in.cls ≠ "java/lang/invoke/MethodHandle" ∧ yX8_in.cls ≠ "java/lang/invoke/VarHandle" ∧ (parseMethodDescriptor yX8_in.desc).map (fun d => d.parameters.length) = some 3 := by decide +kernel
theorem hy_X8_within : yX8_within.cls ≠ "java/lang/invoke/MethodHandle" ∧ yX8_within.cls ≠ "java/lang/invoke/VarHandle" ∧ (parseMethodDescriptor yX8_within.desc).map (fun d => d.parameters.length) = some 3 := by decide +kernel
theorem hy_X8_copyAll : yX8_copyAll.cls ≠ "java/lang/invoke/MethodHandle" ∧ yX8_copyAll.cls ≠ "java/lang/invoke/VarHandle" ∧ (parseMethodDescriptor yX8_copyAll.desc).map (fun d => d.parameters.length) = some 2 := by decide +kernel
theorem hy_X8_told0 : yX8_told0.cls ≠ "java/lang/invoke/MethodHandle" ∧ yX8_told0.cls ≠ "java/lang/invoke/VarHandle" ∧ (parseMethodDescriptor yX8_told0.desc).map (fun d => d.parameters.length) = some 1 := by decide +kernel
theorem hy_X8_isHole : yX8_isHole.cls ≠ "java/lang/invoke/MethodHandle" ∧ yX8_isHole.cls ≠ "java/lang/invoke/VarHandle" ∧ (parseMethodDescriptor yX8_isHole.desc).map (fun d => d.parameters.length) = some 1 := by decide +kernel
theorem hy_X8_isPlace : yX8_isPlace.cls ≠ "java/lang/invoke/MethodHandle" ∧ yX8_isPlace.cls ≠ "java/lang/invoke/VarHandle" ∧ (parseMethodDescriptor yX8_isPlace.desc).map (fun d => d.parameters.length) = some 1 := by decide +kernel
theorem hy_X8_isOwner : yX8_isOwner.cls ≠ "java/lang/invoke/MethodHandle" ∧ yX8_isOwner.cls ≠ "java/lang/invoke/VarHandle" ∧ (parseMethodDescriptor yX8_isOwner.desc).map (fun d => d.parameters.length) = some 1 := by decide +kernel
theorem hy_X8_isDug : yX8_isDug.cls ≠ "java/lang/invoke/MethodHandle" ∧ yX8_isDug.cls ≠ "java/lang/invoke/VarHandle" ∧ (parseMethodDescriptor yX8_isDug.desc).map (fun d => d.parameters.length) = some 1 := by decide +kernel
theorem hy_X8_of : yX8_of.cls ≠ "java/lang/invoke/MethodHandle" ∧ yX8_of.cls ≠ "java/lang/invoke/VarHandle" ∧ (parseMethodDescriptor yX8_of.desc).map (fun d => d.parameters.length) = some 2 := by decide +kernel
theorem hy_X8_put : yX8_put.cls ≠ "java/lang/invoke/MethodHandle" ∧ yX8_put.cls ≠ "java/lang/invoke/VarHandle" ∧ (parseMethodDescriptor yX8_put.desc).map (fun d => d.parameters.length) = some 3 := by decide +kernel
theorem hy_X8_becomes : yX8_becomes.cls ≠ "java/lang/invoke/MethodHandle" ∧ yX8_becomes.cls ≠ "java/lang/invoke/VarHandle" ∧ (parseMethodDescriptor yX8_becomes.desc).map (fun d => d.parameters.length) = some 2 := by decide +kernel
theorem hy_X8_lays : yX8_lays.cls ≠ "java/lang/invoke/MethodHandle" ∧ yX8_lays.cls ≠ "java/lang/invoke/VarHandle" ∧ (parseMethodDescriptor yX8_lays.desc).map (fun d => d.parameters.length) = some 5 := by decide +kernel
theorem hy_X8_comes : yX8_comes.cls ≠ "java/lang/invoke/MethodHandle" ∧ yX8_comes.cls ≠ "java/lang/invoke/VarHandle" ∧ (parseMethodDescriptor yX8_comes.desc).map (fun d => d.parameters.length) = some 4 := by decide +kernel
theorem hy_X8_hole : yX8_hole.cls ≠ "java/lang/invoke/MethodHandle" ∧ yX8_hole.cls ≠ "java/lang/invoke/VarHandle" ∧ (parseMethodDescriptor yX8_hole.desc).map (fun d => d.parameters.length) = some 4 := by decide +kernel
theorem hy_X8_worthOf : yX8_worthOf.cls ≠ "java/lang/invoke/MethodHandle" ∧ yX8_worthOf.cls ≠ "java/lang/invoke/VarHandle" ∧ (parseMethodDescriptor yX8_worthOf.desc).map (fun d => d.parameters.length) = some 1 := by decide +kernel
theorem hy_X8_told : yX8_told.cls ≠ "java/lang/invoke/MethodHandle" ∧ yX8_told.cls ≠ "java/lang/invoke/VarHandle" ∧ (parseMethodDescriptor yX8_told.desc).map (fun d => d.parameters.length) = some 2 := by decide +kernel
theorem hy_X8_isUnder : yX8_isUnder.cls ≠ "java/lang/invoke/MethodHandle" ∧ yX8_isUnder.cls ≠ "java/lang/invoke/VarHandle" ∧ (parseMethodDescriptor yX8_isUnder.desc).map (fun d => d.parameters.length) = some 2 := by decide +kernel
theorem hy_X8_as : yX8_as.cls ≠ "java/lang/invoke/MethodHandle" ∧ yX8_as.cls ≠ "java/lang/invoke/VarHandle" ∧ (parseMethodDescriptor yX8_as.desc).map (fun d => d.parameters.length) = some 2 := by decide +kernel
theorem hy_X8_turns : yX8_turns.cls ≠ "java/lang/invoke/MethodHandle" ∧ yX8_turns.cls ≠ "java/lang/invoke/VarHandle" ∧ (parseMethodDescriptor yX8_turns.desc).map (fun d => d.parameters.length) = some 2 := by decide +kernel
theorem hy_X8_set : yX8_set.cls ≠ "java/lang/invoke/MethodHandle" ∧ yX8_set.cls ≠ "java/lang/invoke/VarHandle" ∧ (parseMethodDescriptor yX8_set.desc).map (fun d => d.parameters.length) = some 3 := by decide +kernel
theorem hy_X8_settlesBy : yX8_settlesBy.cls ≠ "java/lang/invoke/MethodHandle" ∧ yX8_settlesBy.cls ≠ "java/lang/invoke/VarHandle" ∧ (parseMethodDescriptor yX8_settlesBy.desc).map (fun d => d.parameters.length) = some 2 := by decide +kernel
theorem hy_X8_settles : yX8_settles.cls ≠ "java/lang/invoke/MethodHandle" ∧ yX8_settles.cls ≠ "java/lang/invoke/VarHandle" ∧ (parseMethodDescriptor yX8_settles.desc).map (fun d => d.parameters.length) = some 2 := by decide +kernel
theorem hy_X8_rule : yX8_rule.cls ≠ "java/lang/invoke/MethodHandle" ∧ yX8_rule.cls ≠ "java/lang/invoke/VarHandle" ∧ (parseMethodDescriptor yX8_rule.desc).map (fun d => d.parameters.length) = some 2 := by decide +kernel
theorem hy_X8_draw : yX8_draw.cls ≠ "java/lang/invoke/MethodHandle" ∧ yX8_draw.cls ≠ "java/lang/invoke/VarHandle" ∧ (parseMethodDescriptor yX8_draw.desc).map (fun d => d.parameters.length) = some 0 := by decide +kernel
theorem hy_X8_deal : yX8_deal.cls ≠ "java/lang/invoke/MethodHandle" ∧ yX8_deal.cls ≠ "java/lang/invoke/VarHandle" ∧ (parseMethodDescriptor yX8_deal.desc).map (fun d => d.parameters.length) = some 1 := by decide +kernel
theorem hy_X8_seed : yX8_seed.cls ≠ "java/lang/invoke/MethodHandle" ∧ yX8_seed.cls ≠ "java/lang/invoke/VarHandle" ∧ (parseMethodDescriptor yX8_seed.desc).map (fun d => d.parameters.length) = some 1 := by decide +kernel
theorem hy_X8_earthOf : yX8_earthOf.cls ≠ "java/lang/invoke/MethodHandle" ∧ yX8_earthOf.cls ≠ "java/lang/invoke/VarHandle" ∧ (parseMethodDescriptor yX8_earthOf.desc).map (fun d => d.parameters.length) = some 1 := by decide +kernel
theorem hy_X8_apart : yX8_apart.cls ≠ "java/lang/invoke/MethodHandle" ∧ yX8_apart.cls ≠ "java/lang/invoke/VarHandle" ∧ (parseMethodDescriptor yX8_apart.desc).map (fun d => d.parameters.length) = some 2 := by decide +kernel
theorem hy_X8_lawOf : yX8_lawOf.cls ≠ "java/lang/invoke/MethodHandle" ∧ yX8_lawOf.cls ≠ "java/lang/invoke/VarHandle" ∧ (parseMethodDescriptor yX8_lawOf.desc).map (fun d => d.parameters.length) = some 1 := by decide +kernel
theorem hy_X8_doesTake : yX8_doesTake.cls ≠ "java/lang/invoke/MethodHandle" ∧ yX8_doesTake.cls ≠ "java/lang/invoke/VarHandle" ∧ (parseMethodDescriptor yX8_doesTake.desc).map (fun d => d.parameters.length) = some 3 := by decide +kernel
theorem hy_X8_takes : yX8_takes.cls ≠ "java/lang/invoke/MethodHandle" ∧ yX8_takes.cls ≠ "java/lang/invoke/VarHandle" ∧ (parseMethodDescriptor yX8_takes.desc).map (fun d => d.parameters.length) = some 2 := by decide +kernel
theorem hy_X8_dig : yX8_dig.cls ≠ "java/lang/invoke/MethodHandle" ∧ yX8_dig.cls ≠ "java/lang/invoke/VarHandle" ∧ (parseMethodDescriptor yX8_dig.desc).map (fun d => d.parameters.length) = some 4 := by decide +kernel
theorem hy_X8_want : yX8_want.cls ≠ "java/lang/invoke/MethodHandle" ∧ yX8_want.cls ≠ "java/lang/invoke/VarHandle" ∧ (parseMethodDescriptor yX8_want.desc).map (fun d => d.parameters.length) = some 2 := by decide +kernel
theorem hy_X8_forget : yX8_forget.cls ≠ "java/lang/invoke/MethodHandle" ∧ yX8_forget.cls ≠ "java/lang/invoke/VarHandle" ∧ (parseMethodDescriptor yX8_forget.desc).map (fun d => d.parameters.length) = some 0 := by decide +kernel
theorem hy_X8_doesMeet : yX8_doesMeet.cls ≠ "java/lang/invoke/MethodHandle" ∧ yX8_doesMeet.cls ≠ "java/lang/invoke/VarHandle" ∧ (parseMethodDescriptor yX8_doesMeet.desc).map (fun d => d.parameters.length) = some 2 := by decide +kernel
theorem hy_X8_findsHole : yX8_findsHole.cls ≠ "java/lang/invoke/MethodHandle" ∧ yX8_findsHole.cls ≠ "java/lang/invoke/VarHandle" ∧ (parseMethodDescriptor yX8_findsHole.desc).map (fun d => d.parameters.length) = some 2 := by decide +kernel
theorem hy_X8_metBut : yX8_metBut.cls ≠ "java/lang/invoke/MethodHandle" ∧ yX8_metBut.cls ≠ "java/lang/invoke/VarHandle" ∧ (parseMethodDescriptor yX8_metBut.desc).map (fun d => d.parameters.length) = some 1 := by decide +kernel
theorem hy_X8_scoreOf : yX8_scoreOf.cls ≠ "java/lang/invoke/MethodHandle" ∧ yX8_scoreOf.cls ≠ "java/lang/invoke/VarHandle" ∧ (parseMethodDescriptor yX8_scoreOf.desc).map (fun d => d.parameters.length) = some 3 := by decide +kernel
theorem hy_X8_findDealing : yX8_findDealing.cls ≠ "java/lang/invoke/MethodHandle" ∧ yX8_findDealing.cls ≠ "java/lang/invoke/VarHandle" ∧ (parseMethodDescriptor yX8_findDealing.desc).map (fun d => d.parameters.length) = some 0 := by decide +kernel
theorem hy_X8_dealing : yX8_dealing.cls ≠ "java/lang/invoke/MethodHandle" ∧ yX8_dealing.cls ≠ "java/lang/invoke/VarHandle" ∧ (parseMethodDescriptor yX8_dealing.desc).map (fun d => d.parameters.length) = some 1 := by decide +kernel
theorem hy_X8_adds : yX8_adds.cls ≠ "java/lang/invoke/MethodHandle" ∧ yX8_adds.cls ≠ "java/lang/invoke/VarHandle" ∧ (parseMethodDescriptor yX8_adds.desc).map (fun d => d.parameters.length) = some 1 := by decide +kernel
theorem hy_X8_frees : yX8_frees.cls ≠ "java/lang/invoke/MethodHandle" ∧ yX8_frees.cls ≠ "java/lang/invoke/VarHandle" ∧ (parseMethodDescriptor yX8_frees.desc).map (fun d => d.parameters.length) = some 1 := by decide +kernel
theorem hy_X8_filled : yX8_filled.cls ≠ "java/lang/invoke/MethodHandle" ∧ yX8_filled.cls ≠ "java/lang/invoke/VarHandle" ∧ (parseMethodDescriptor yX8_filled.desc).map (fun d => d.parameters.length) = some 0 := by decide +kernel
theorem hy_X8_depthAll : yX8_depthAll.cls ≠ "java/lang/invoke/MethodHandle" ∧ yX8_depthAll.cls ≠ "java/lang/invoke/VarHandle" ∧ (parseMethodDescriptor yX8_depthAll.desc).map (fun d => d.parameters.length) = some 0 := by decide +kernel
theorem hy_X8_day : yX8_day.cls ≠ "java/lang/invoke/MethodHandle" ∧ yX8_day.cls ≠ "java/lang/invoke/VarHandle" ∧ (parseMethodDescriptor yX8_day.desc).map (fun d => d.parameters.length) = some 0 := by decide +kernel
theorem hy_X8_goesOn : yX8_goesOn.cls ≠ "java/lang/invoke/MethodHandle" ∧ yX8_goesOn.cls ≠ "java/lang/invoke/VarHandle" ∧ (parseMethodDescriptor yX8_goesOn.desc).map (fun d => d.parameters.length) = some 1 := by decide +kernel
theorem hy_X8_days : yX8_days.cls ≠ "java/lang/invoke/MethodHandle" ∧ yX8_days.cls ≠ "java/lang/invoke/VarHandle" ∧ (parseMethodDescriptor yX8_days.desc).map (fun d => d.parameters.length) = some 1 := by decide +kernel
theorem hy_X8_thinks : yX8_thinks.cls ≠ "java/lang/invoke/MethodHandle" ∧ yX8_thinks.cls ≠ "java/lang/invoke/VarHandle" ∧ (parseMethodDescriptor yX8_thinks.desc).map (fun d => d.parameters.length) = some 0 := by decide +kernel
theorem hy_X8_putsBack : yX8_putsBack.cls ≠ "java/lang/invoke/MethodHandle" ∧ yX8_putsBack.cls ≠ "java/lang/invoke/VarHandle" ∧ (parseMethodDescriptor yX8_putsBack.desc).map (fun d => d.parameters.length) = some 0 := by decide +kernel
theorem hy_X8_behind : yX8_behind.cls ≠ "java/lang/invoke/MethodHandle" ∧ yX8_behind.cls ≠ "java/lang/invoke/VarHandle" ∧ (parseMethodDescriptor yX8_behind.desc).map (fun d => d.parameters.length) = some 2 := by decide +kernel
theorem hy_X8_paid : yX8_paid.cls ≠ "java/lang/invoke/MethodHandle" ∧ yX8_paid.cls ≠ "java/lang/invoke/VarHandle" ∧ (parseMethodDescriptor yX8_paid.desc).map (fun d => d.parameters.length) = some 0 := by decide +kernel
theorem hy_X8_best : yX8_best.cls ≠ "java/lang/invoke/MethodHandle" ∧ yX8_best.cls ≠ "java/lang/invoke/VarHandle" ∧ (parseMethodDescriptor yX8_best.desc).map (fun d => d.parameters.length) = some 2 := by decide +kernel
theorem hy_X8_owedBy : yX8_owedBy.cls ≠ "java/lang/invoke/MethodHandle" ∧ yX8_owedBy.cls ≠ "java/lang/invoke/VarHandle" ∧ (parseMethodDescriptor yX8_owedBy.desc).map (fun d => d.parameters.length) = some 1 := by decide +kernel
theorem hy_X8_owes : yX8_owes.cls ≠ "java/lang/invoke/MethodHandle" ∧ yX8_owes.cls ≠ "java/lang/invoke/VarHandle" ∧ (parseMethodDescriptor yX8_owes.desc).map (fun d => d.parameters.length) = some 1 := by decide +kernel
theorem hy_X8_debtor : yX8_debtor.cls ≠ "java/lang/invoke/MethodHandle" ∧ yX8_debtor.cls ≠ "java/lang/invoke/VarHandle" ∧ (parseMethodDescriptor yX8_debtor.desc).map (fun d => d.parameters.length) = some 0 := by decide +kernel
theorem hy_X8_dug : yX8_dug.cls ≠ "java/lang/invoke/MethodHandle" ∧ yX8_dug.cls ≠ "java/lang/invoke/VarHandle" ∧ (parseMethodDescriptor yX8_dug.desc).map (fun d => d.parameters.length) = some 2 := by decide +kernel
theorem hy_X8_fine : yX8_fine.cls ≠ "java/lang/invoke/MethodHandle" ∧ yX8_fine.cls ≠ "java/lang/invoke/VarHandle" ∧ (parseMethodDescriptor yX8_fine.desc).map (fun d => d.parameters.length) = some 1 := by decide +kernel
theorem hy_X8_feed : yX8_feed.cls ≠ "java/lang/invoke/MethodHandle" ∧ yX8_feed.cls ≠ "java/lang/invoke/VarHandle" ∧ (parseMethodDescriptor yX8_feed.desc).map (fun d => d.parameters.length) = some 3 := by decide +kernel
theorem hy_X8_trim : yX8_trim.cls ≠ "java/lang/invoke/MethodHandle" ∧ yX8_trim.cls ≠ "java/lang/invoke/VarHandle" ∧ (parseMethodDescriptor yX8_trim.desc).map (fun d => d.parameters.length) = some 1 := by decide +kernel
theorem hy_X8_isLetter : yX8_isLetter.cls ≠ "java/lang/invoke/MethodHandle" ∧ yX8_isLetter.cls ≠ "java/lang/invoke/VarHandle" ∧ (parseMethodDescriptor yX8_isLetter.desc).map (fun d => d.parameters.length) = some 1 := by decide +kernel
theorem hy_X8_isFigure : yX8_isFigure.cls ≠ "java/lang/invoke/MethodHandle" ∧ yX8_isFigure.cls ≠ "java/lang/invoke/VarHandle" ∧ (parseMethodDescriptor yX8_isFigure.desc).map (fun d => d.parameters.length) = some 1 := by decide +kernel
theorem hy_X8_go : yX8_go.cls ≠ "java/lang/invoke/MethodHandle" ∧ yX8_go.cls ≠ "java/lang/invoke/VarHandle" ∧ (parseMethodDescriptor yX8_go.desc).map (fun d => d.parameters.length) = some 0 := by decide +kernel
theorem hy_X8_takesKey : yX8_takesKey.cls ≠ "java/lang/invoke/MethodHandle" ∧ yX8_takesKey.cls ≠ "java/lang/invoke/VarHandle" ∧ (parseMethodDescriptor yX8_takesKey.desc).map (fun d => d.parameters.length) = some 0 := by decide +kernel
theorem hy_X8_nameOf : yX8_nameOf.cls ≠ "java/lang/invoke/MethodHandle" ∧ yX8_nameOf.cls ≠ "java/lang/invoke/VarHandle" ∧ (parseMethodDescriptor yX8_nameOf.desc).map (fun d => d.parameters.length) = some 1 := by decide +kernel
theorem hy_X8_rank : yX8_rank.cls ≠ "java/lang/invoke/MethodHandle" ∧ yX8_rank.cls ≠ "java/lang/invoke/VarHandle" ∧ (parseMethodDescriptor yX8_rank.desc).map (fun d => d.parameters.length) = some 1 := by decide +kernel
theorem hy_X8_settle : yX8_settle.cls ≠ "java/lang/invoke/MethodHandle" ∧ yX8_settle.cls ≠ "java/lang/invoke/VarHandle" ∧ (parseMethodDescriptor yX8_settle.desc).map (fun d => d.parameters.length) = some 1 := by decide +kernel
theorem hy_X8_signHere : yX8_signHere.cls ≠ "java/lang/invoke/MethodHandle" ∧ yX8_signHere.cls ≠ "java/lang/invoke/VarHandle" ∧ (parseMethodDescriptor yX8_signHere.desc).map (fun d => d.parameters.length) = some 0 := by decide +kernel
theorem hy_X8_takesPart : yX8_takesPart.cls ≠ "java/lang/invoke/MethodHandle" ∧ yX8_takesPart.cls ≠ "java/lang/invoke/VarHandle" ∧ (parseMethodDescriptor yX8_takesPart.desc).map (fun d => d.parameters.length) = some 0 := by decide +kernel
theorem hy_X8_takesE : yX8_takesE.cls ≠ "java/lang/invoke/MethodHandle" ∧ yX8_takesE.cls ≠ "java/lang/invoke/VarHandle" ∧ (parseMethodDescriptor yX8_takesE.desc).map (fun d => d.parameters.length) = some 0 := by decide +kernel
theorem hy_X8_notsOpen : yX8_notsOpen.cls ≠ "java/lang/invoke/MethodHandle" ∧ yX8_notsOpen.cls ≠ "java/lang/invoke/VarHandle" ∧ (parseMethodDescriptor yX8_notsOpen.desc).map (fun d => d.parameters.length) = some 0 := by decide +kernel
theorem hy_X8_text : yX8_text.cls ≠ "java/lang/invoke/MethodHandle" ∧ yX8_text.cls ≠ "java/lang/invoke/VarHandle" ∧ (parseMethodDescriptor yX8_text.desc).map (fun d => d.parameters.length) = some 0 := by decide +kernel
theorem hy_X8_textTold : yX8_textTold.cls ≠ "java/lang/invoke/MethodHandle" ∧ yX8_textTold.cls ≠ "java/lang/invoke/VarHandle" ∧ (parseMethodDescriptor yX8_textTold.desc).map (fun d => d.parameters.length) = some 2 := by decide +kernel
theorem hy_X8_counts : yX8_counts.cls ≠ "java/lang/invoke/MethodHandle" ∧ yX8_counts.cls ≠ "java/lang/invoke/VarHandle" ∧ (parseMethodDescriptor yX8_counts.desc).map (fun d => d.parameters.length) = some 1 := by decide +kernel
theorem hy_X8_why : yX8_why.cls ≠ "java/lang/invoke/MethodHandle" ∧ yX8_why.cls ≠ "java/lang/invoke/VarHandle" ∧ (parseMethodDescriptor yX8_why.desc).map (fun d => d.parameters.length) = some 1 := by decide +kernel
theorem hy_X8_two : yX8_two.cls ≠ "java/lang/invoke/MethodHandle" ∧ yX8_two.cls ≠ "java/lang/invoke/VarHandle" ∧ (parseMethodDescriptor yX8_two.desc).map (fun d => d.parameters.length) = some 3 := by decide +kernel
theorem hy_X8_worksOut : yX8_worksOut.cls ≠ "java/lang/invoke/MethodHandle" ∧ yX8_worksOut.cls ≠ "java/lang/invoke/VarHandle" ∧ (parseMethodDescriptor yX8_worksOut.desc).map (fun d => d.parameters.length) = some 1 := by decide +kernel
theorem hy_X8_isSheet : yX8_isSheet.cls ≠ "java/lang/invoke/MethodHandle" ∧ yX8_isSheet.cls ≠ "java/lang/invoke/VarHandle" ∧ (parseMethodDescriptor yX8_isSheet.desc).map (fun d => d.parameters.length) = some 1 := by decide +kernel
theorem hy_X8_isSlot : yX8_isSlot.cls ≠ "java/lang/invoke/MethodHandle" ∧ yX8_isSlot.cls ≠ "java/lang/invoke/VarHandle" ∧ (parseMethodDescriptor yX8_isSlot.desc).map (fun d => d.parameters.length) = some 1 := by decide +kernel
theorem hy_X8_sheet : yX8_sheet.cls ≠ "java/lang/invoke/MethodHandle" ∧ yX8_sheet.cls ≠ "java/lang/invoke/VarHandle" ∧ (parseMethodDescriptor yX8_sheet.desc).map (fun d => d.parameters.length) = some 3 := by decide +kernel
theorem hy_X8_mark : yX8_mark.cls ≠ "java/lang/invoke/MethodHandle" ∧ yX8_mark.cls ≠ "java/lang/invoke/VarHandle" ∧ (parseMethodDescriptor yX8_mark.desc).map (fun d => d.parameters.length) = some 3 := by decide +kernel
theorem hy_X8_pour : yX8_pour.cls ≠ "java/lang/invoke/MethodHandle" ∧ yX8_pour.cls ≠ "java/lang/invoke/VarHandle" ∧ (parseMethodDescriptor yX8_pour.desc).map (fun d => d.parameters.length) = some 1 := by decide +kernel
theorem hy_X8_reads : yX8_reads.cls ≠ "java/lang/invoke/MethodHandle" ∧ yX8_reads.cls ≠ "java/lang/invoke/VarHandle" ∧ (parseMethodDescriptor yX8_reads.desc).map (fun d => d.parameters.length) = some 1 := by decide +kernel
theorem hy_X8_copy : yX8_copy.cls ≠ "java/lang/invoke/MethodHandle" ∧ yX8_copy.cls ≠ "java/lang/invoke/VarHandle" ∧ (parseMethodDescriptor yX8_copy.desc).map (fun d => d.parameters.length) = some 5 := by decide +kernel
theorem hy_X8_lay : yX8_lay.cls ≠ "java/lang/invoke/MethodHandle" ∧ yX8_lay.cls ≠ "java/lang/invoke/VarHandle" ∧ (parseMethodDescriptor yX8_lay.desc).map (fun d => d.parameters.length) = some 3 := by decide +kernel
theorem hy_X8_ask : yX8_ask.cls ≠ "java/lang/invoke/MethodHandle" ∧ yX8_ask.cls ≠ "java/lang/invoke/VarHandle" ∧ (parseMethodDescriptor yX8_ask.desc).map (fun d => d.parameters.length) = some 2 := by decide +kernel
theorem hy_X8_item : yX8_item.cls ≠ "java/lang/invoke/MethodHandle" ∧ yX8_item.cls ≠ "java/lang/invoke/VarHandle" ∧ (parseMethodDescriptor yX8_item.desc).map (fun d => d.parameters.length) = some 2 := by decide +kernel
theorem hy_X8_rest : yX8_rest.cls ≠ "java/lang/invoke/MethodHandle" ∧ yX8_rest.cls ≠ "java/lang/invoke/VarHandle" ∧ (parseMethodDescriptor yX8_rest.desc).map (fun d => d.parameters.length) = some 2 := by decide +kernel
theorem hy_X8_tell : yX8_tell.cls ≠ "java/lang/invoke/MethodHandle" ∧ yX8_tell.cls ≠ "java/lang/invoke/VarHandle" ∧ (parseMethodDescriptor yX8_tell.desc).map (fun d => d.parameters.length) = some 1 := by decide +kernel
theorem hy_X8_check : yX8_check.cls ≠ "java/lang/invoke/MethodHandle" ∧ yX8_check.cls ≠ "java/lang/invoke/VarHandle" ∧ (parseMethodDescriptor yX8_check.desc).map (fun d => d.parameters.length) = some 1 := by decide +kernel
theorem hy_X8_keep : yX8_keep.cls ≠ "java/lang/invoke/MethodHandle" ∧ yX8_keep.cls ≠ "java/lang/invoke/VarHandle" ∧ (parseMethodDescriptor yX8_keep.desc).map (fun d => d.parameters.length) = some 0 := by decide +kernel
theorem hy_X8_back : yX8_back.cls ≠ "java/lang/invoke/MethodHandle" ∧ yX8_back.cls ≠ "java/lang/invoke/VarHandle" ∧ (parseMethodDescriptor yX8_back.desc).map (fun d => d.parameters.length) = some 0 := by decide +kernel
theorem hy_X8_count : yX8_count.cls ≠ "java/lang/invoke/MethodHandle" ∧ yX8_count.cls ≠ "java/lang/invoke/VarHandle" ∧ (parseMethodDescriptor yX8_count.desc).map (fun d => d.parameters.length) = some 1 := by decide +kernel
theorem hy_J9_abs_0f7a4 : yJ9_abs_0f7a4.cls ≠ "java/lang/invoke/MethodHandle" ∧ yJ9_abs_0f7a4.cls ≠ "java/lang/invoke/VarHandle" ∧ (parseMethodDescriptor yJ9_abs_0f7a4.desc).map (fun d => d.parameters.length) = some 1 := by decide +kernel
theorem hy_J9_max_7cf53 : yJ9_max_7cf53.cls ≠ "java/lang/invoke/MethodHandle" ∧ yJ9_max_7cf53.cls ≠ "java/lang/invoke/VarHandle" ∧ (parseMethodDescriptor yJ9_max_7cf53.desc).map (fun d => d.parameters.length) = some 2 := by decide +kernel
theorem hy_J9_min_7cf53 : yJ9_min_7cf53.cls ≠ "java/lang/invoke/MethodHandle" ∧ yJ9_min_7cf53.cls ≠ "java/lang/invoke/VarHandle" ∧ (parseMethodDescriptor yJ9_min_7cf53.desc).map (fun d => d.parameters.length) = some 2 := by decide +kernel
theorem hy_J9_min_f86c9 : yJ9_min_f86c9.cls ≠ "java/lang/invoke/MethodHandle" ∧ yJ9_min_f86c9.cls ≠ "java/lang/invoke/VarHandle" ∧ (parseMethodDescriptor yJ9_min_f86c9.desc).map (fun d => d.parameters.length) = some 2 := by decide +kernel
theorem hy_J0_length_8abf5 : yJ0_length_8abf5.cls ≠ "java/lang/invoke/MethodHandle" ∧ yJ0_length_8abf5.cls ≠ "java/lang/invoke/VarHandle" ∧ (parseMethodDescriptor yJ0_length_8abf5.desc).map (fun d => d.parameters.length) = some 0 := by decide +kernel
theorem hy_J0_charAt_5068e : yJ0_charAt_5068e.cls ≠ "java/lang/invoke/MethodHandle" ∧ yJ0_charAt_5068e.cls ≠ "java/lang/invoke/VarHandle" ∧ (parseMethodDescriptor yJ0_charAt_5068e.desc).map (fun d => d.parameters.length) = some 1 := by decide +kernel
theorem hy_J0_indexOf_0f7a4 : yJ0_indexOf_0f7a4.cls ≠ "java/lang/invoke/MethodHandle" ∧ yJ0_indexOf_0f7a4.cls ≠ "java/lang/invoke/VarHandle" ∧ (parseMethodDescriptor yJ0_indexOf_0f7a4.desc).map (fun d => d.parameters.length) = some 1 := by decide +kernel
theorem hy_J0_indexOf_7cf53 : yJ0_indexOf_7cf53.cls ≠ "java/lang/invoke/MethodHandle" ∧ yJ0_indexOf_7cf53.cls ≠ "java/lang/invoke/VarHandle" ∧ (parseMethodDescriptor yJ0_indexOf_7cf53.desc).map (fun d => d.parameters.length) = some 2 := by decide +kernel
theorem hy_J0_coder_7d493 : yJ0_coder_7d493.cls ≠ "java/lang/invoke/MethodHandle" ∧ yJ0_coder_7d493.cls ≠ "java/lang/invoke/VarHandle" ∧ (parseMethodDescriptor yJ0_coder_7d493.desc).map (fun d => d.parameters.length) = some 0 := by decide +kernel
theorem hy_J0_isLatin1_aae02 : yJ0_isLatin1_aae02.cls ≠ "java/lang/invoke/MethodHandle" ∧ yJ0_isLatin1_aae02.cls ≠ "java/lang/invoke/VarHandle" ∧ (parseMethodDescriptor yJ0_isLatin1_aae02.desc).map (fun d => d.parameters.length) = some 0 := by decide +kernel
theorem hy_J0_checkIndex_df160 : yJ0_checkIndex_df160.cls ≠ "java/lang/invoke/MethodHandle" ∧ yJ0_checkIndex_df160.cls ≠ "java/lang/invoke/VarHandle" ∧ (parseMethodDescriptor yJ0_checkIndex_df160.desc).map (fun d => d.parameters.length) = some 2 := by decide +kernel
theorem hy_J1_charAt_3b067 : yJ1_charAt_3b067.cls ≠ "java/lang/invoke/MethodHandle" ∧ yJ1_charAt_3b067.cls ≠ "java/lang/invoke/VarHandle" ∧ (parseMethodDescriptor yJ1_charAt_3b067.desc).map (fun d => d.parameters.length) = some 2 := by decide +kernel
theorem hy_J1_canEncode_9a6ad : yJ1_canEncode_9a6ad.cls ≠ "java/lang/invoke/MethodHandle" ∧ yJ1_canEncode_9a6ad.cls ≠ "java/lang/invoke/VarHandle" ∧ (parseMethodDescriptor yJ1_canEncode_9a6ad.desc).map (fun d => d.parameters.length) = some 1 := by decide +kernel
theorem hy_J1_indexOf_4cfef : yJ1_indexOf_4cfef.cls ≠ "java/lang/invoke/MethodHandle" ∧ yJ1_indexOf_4cfef.cls ≠ "java/lang/invoke/VarHandle" ∧ (parseMethodDescriptor yJ1_indexOf_4cfef.desc).map (fun d => d.parameters.length) = some 4 := by decide +kernel
theorem hy_J1_indexOfChar_4cfef : yJ1_indexOfChar_4cfef.cls ≠ "java/lang/invoke/MethodHandle" ∧ yJ1_indexOfChar_4cfef.cls ≠ "java/lang/invoke/VarHandle" ∧ (parseMethodDescriptor yJ1_indexOfChar_4cfef.desc).map (fun d => d.parameters.length) = some 4 := by decide +kernel
theorem hy_J7_fill_d0a16 : yJ7_fill_d0a16.cls ≠ "java/lang/invoke/MethodHandle" ∧ yJ7_fill_d0a16.cls ≠ "java/lang/invoke/VarHandle" ∧ (parseMethodDescriptor yJ7_fill_d0a16.desc).map (fun d => d.parameters.length) = some 2 := by decide +kernel
theorem hy_J7_fill_53178 : yJ7_fill_53178.cls ≠ "java/lang/invoke/MethodHandle" ∧ yJ7_fill_53178.cls ≠ "java/lang/invoke/VarHandle" ∧ (parseMethodDescriptor yJ7_fill_53178.desc).map (fun d => d.parameters.length) = some 2 := by decide +kernel
theorem hy_J7_copyOf_59c91 : yJ7_copyOf_59c91.cls ≠ "java/lang/invoke/MethodHandle" ∧ yJ7_copyOf_59c91.cls ≠ "java/lang/invoke/VarHandle" ∧ (parseMethodDescriptor yJ7_copyOf_59c91.desc).map (fun d => d.parameters.length) = some 2 := by decide +kernel
theorem hy_J3_checkIndex_8e157 : yJ3_checkIndex_8e157.cls ≠ "java/lang/invoke/MethodHandle" ∧ yJ3_checkIndex_8e157.cls ≠ "java/lang/invoke/VarHandle" ∧ (parseMethodDescriptor yJ3_checkIndex_8e157.desc).map (fun d => d.parameters.length) = some 3 := by decide +kernel
def am_nth {α : Type} (d : α) : List α → Nat → α
  | [], _ => d
  | v :: _, 0 => v
  | _ :: r, n + 1 => am_nth d r n
def am_ix2 {α : Type} (d : α) (t : List (List α)) (i : Nat) : α := am_nth d (am_nth [] t (i / 16)) (i % 16)
def am_yt : List (List MethodName) := [[yX0_init, yX0_solve, yX0_price, yX0_offer, yX0_miles, yX0_holeOf, yX1_init, yX1_start, yX1_become, yX1_part, yX1_change, yX1_isOf, yX1_worth, yX2_init, yX2_become, yX2_find],
  [yX2_open, yX2_openByLot, yX2_draw, yX2_roomAfter, yX2_earthOf, yX2_canFill, yX2_isOldEnough, yX2_sinks, yX2_sinksPlain, yX2_passDay, yX2_filledCount, yX2_depthSum, yX2_debtOf, yX2_fineOf, yX2_findText, yX2_textFor],
  [yX2_addText, yX3_init, yX3_clear, yX3_become, yX3_has, yX3_hasAll, yX3_isNumber, yX4_init, yX5_init, yX5_putBytes, yX5_read, yX5_step, yX5_sortOf, yX5_keyHere, yX5_isHere, yX5_joinedBy],
  [yX5_partOf, yX5_joins, yX5_piece, yX5_number, yX5_name, yX5_namesOf, yX5_not, yX5_brackets, yX5_put, yX6_init, yX6_value, yX6_plain, yX6_joined, yX7_init, yX7_hole, yX7_told],
  [yX7_as, yX7_turns, yX7_set, yX7_settles, yX7_rule, yX7_deal, yX7_seed, yX7_takes, yX7_dig, yX7_want, yX7_forget, yX7_dealing, yX7_adds, yX7_frees, yX7_days, yX7_behind],
  [yX7_paid, yX7_best, yX7_owes, yX7_debtor, yX7_dug, yX7_fine, yX7_feed, yX7_trim, yX7_text, yX7_textTold, yX7_why, yX7_sheet, yX7_mark, yX7_pour, yX7_reads, yX7_copy],
  [yX7_lay, yX7_ask, yX7_item, yX7_rest, yX7_tell, yX7_check, yX7_keep, yX7_back, yX7_count, yX7_within, yX7_isSpades, yX7_held, yX7_mostOf, yX7_addDifferences, yX7_sheetAt, yX7_slotAt],
  [yX8_init, yX8_in, yX8_within, yX8_copyAll, yX8_told0, yX8_isHole, yX8_isPlace, yX8_isOwner, yX8_isDug, yX8_of, yX8_put, yX8_becomes, yX8_lays, yX8_comes, yX8_hole, yX8_worthOf],
  [yX8_told, yX8_isUnder, yX8_as, yX8_turns, yX8_set, yX8_settlesBy, yX8_settles, yX8_rule, yX8_draw, yX8_deal, yX8_seed, yX8_earthOf, yX8_apart, yX8_lawOf, yX8_doesTake, yX8_takes],
  [yX8_dig, yX8_want, yX8_forget, yX8_doesMeet, yX8_findsHole, yX8_metBut, yX8_scoreOf, yX8_findDealing, yX8_dealing, yX8_adds, yX8_frees, yX8_filled, yX8_depthAll, yX8_day, yX8_goesOn, yX8_days],
  [yX8_thinks, yX8_putsBack, yX8_behind, yX8_paid, yX8_best, yX8_owedBy, yX8_owes, yX8_debtor, yX8_dug, yX8_fine, yX8_feed, yX8_trim, yX8_isLetter, yX8_isFigure, yX8_go, yX8_takesKey],
  [yX8_nameOf, yX8_rank, yX8_settle, yX8_signHere, yX8_takesPart, yX8_takesE, yX8_notsOpen, yX8_text, yX8_textTold, yX8_counts, yX8_why, yX8_two, yX8_worksOut, yX8_isSheet, yX8_isSlot, yX8_sheet],
  [yX8_mark, yX8_pour, yX8_reads, yX8_copy, yX8_lay, yX8_ask, yX8_item, yX8_rest, yX8_tell, yX8_check, yX8_keep, yX8_back, yX8_count, yJ9_abs_0f7a4, yJ9_max_7cf53, yJ9_min_7cf53],
  [yJ9_min_f86c9, yJ0_length_8abf5, yJ0_charAt_5068e, yJ0_indexOf_0f7a4, yJ0_indexOf_7cf53, yJ0_coder_7d493, yJ0_isLatin1_aae02, yJ0_checkIndex_df160, yJ1_charAt_3b067, yJ1_canEncode_9a6ad, yJ1_indexOf_4cfef, yJ1_indexOfChar_4cfef, yJ7_fill_d0a16, yJ7_fill_53178, yJ7_copyOf_59c91, yJ3_checkIndex_8e157],
  [yL_law]]
def am_bt9 : List (List ByteArray) := [[cX0_init, cX0_solve, cX0_price, cX0_offer, cX0_miles, cX0_holeOf, cX1_init, cX1_start, cX1_become, cX1_part, cX1_change, cX1_isOf, cX1_worth, cX2_init, cX2_become, cX2_find],
  [cX2_open, cX2_openByLot, cX2_draw, cX2_roomAfter, cX2_earthOf, cX2_canFill, cX2_isOldEnough, cX2_sinks, cX2_sinksPlain, cX2_passDay, cX2_filledCount, cX2_depthSum, cX2_debtOf, cX2_fineOf, cX2_findText, cX2_textFor],
  [cX2_addText, cX3_init, cX3_clear, cX3_become, cX3_has, cX3_hasAll, cX3_isNumber, cX4_init, cX5_init, cX5_putBytes, cX5_read, cX5_step, cX5_sortOf, cX5_keyHere, cX5_isHere, cX5_joinedBy],
  [cX5_partOf, cX5_joins, cX5_piece, cX5_number, cX5_name, cX5_namesOf, cX5_not, cX5_brackets, cX5_put, cX6_init, cX6_value, cX6_plain, cX6_joined, cX7_init, cX7_hole, cX7_told],
  [cX7_as, cX7_turns, cX7_set, cX7_settles, cX7_rule, cX7_deal, cX7_seed, cX7_takes, cX7_dig, cX7_want, cX7_forget, cX7_dealing, cX7_adds, cX7_frees, cX7_days, cX7_behind],
  [cX7_paid, cX7_best, cX7_owes, cX7_debtor, cX7_dug, cX7_fine, cX7_feed, cX7_trim, cX7_text, cX7_textTold, cX7_why, cX7_sheet, cX7_mark, cX7_pour, cX7_reads, cX7_copy],
  [cX7_lay, cX7_ask, cX7_item, cX7_rest, cX7_tell, cX7_check, cX7_keep, cX7_back, cX7_count, cX7_within, cX7_isSpades, cX7_held, cX7_mostOf, cX7_addDifferences, cX7_sheetAt, cX7_slotAt],
  [cX8_init, cX8_in, cX8_within, cX8_copyAll, cX8_told0, cX8_isHole, cX8_isPlace, cX8_isOwner, cX8_isDug, cX8_of, cX8_put, cX8_becomes, cX8_lays, cX8_comes, cX8_hole, cX8_worthOf],
  [cX8_told, cX8_isUnder, cX8_as, cX8_turns, cX8_set, cX8_settlesBy, cX8_settles, cX8_rule, cX8_draw, cX8_deal, cX8_seed, cX8_earthOf, cX8_apart, cX8_lawOf, cX8_doesTake, cX8_takes],
  [cX8_dig, cX8_want, cX8_forget, cX8_doesMeet, cX8_findsHole, cX8_metBut, cX8_scoreOf, cX8_findDealing, cX8_dealing, cX8_adds, cX8_frees, cX8_filled, cX8_depthAll, cX8_day, cX8_goesOn, cX8_days],
  [cX8_thinks, cX8_putsBack, cX8_behind, cX8_paid, cX8_best, cX8_owedBy, cX8_owes, cX8_debtor, cX8_dug, cX8_fine, cX8_feed, cX8_trim, cX8_isLetter, cX8_isFigure, cX8_go, cX8_takesKey],
  [cX8_nameOf, cX8_rank, cX8_settle, cX8_signHere, cX8_takesPart, cX8_takesE, cX8_notsOpen, cX8_text, cX8_textTold, cX8_counts, cX8_why, cX8_two, cX8_worksOut, cX8_isSheet, cX8_isSlot, cX8_sheet],
  [cX8_mark, cX8_pour, cX8_reads, cX8_copy, cX8_lay, cX8_ask, cX8_item, cX8_rest, cX8_tell, cX8_check, cX8_keep, cX8_back, cX8_count, cJ9_abs_0f7a4, cJ9_max_7cf53, cJ9_min_7cf53],
  [cJ9_min_f86c9, cJ0_length_8abf5, cJ0_charAt_5068e, cJ0_indexOf_0f7a4, cJ0_indexOf_7cf53, cJ0_coder_7d493, cJ0_isLatin1_aae02, cJ0_checkIndex_df160, cJ1_charAt_3b067, cJ1_canEncode_9a6ad, cJ1_indexOf_4cfef, cJ1_indexOfChar_4cfef, cJ7_fill_d0a16, cJ7_fill_53178, cJ7_copyOf_59c91, cJ3_checkIndex_8e157],
  [cL_law]]
def am_mt : List (List Nat) := [[1, 5, 8, 4, 1, 3, 1, 5, 2, 2, 3, 4, 1, 2, 3, 2],
  [6, 5, 1, 5, 2, 7, 3, 3, 4, 4, 3, 3, 4, 3, 2, 2],
  [3, 1, 3, 2, 2, 3, 2, 1, 1, 3, 1, 3, 1, 1, 3, 4],
  [2, 2, 1, 3, 2, 1, 1, 1, 2, 4, 7, 4, 3, 2, 5, 4],
  [4, 5, 6, 4, 4, 4, 3, 6, 8, 4, 2, 3, 2, 7, 4, 4],
  [2, 7, 2, 3, 6, 2, 4, 2, 2, 4, 3, 5, 5, 7, 5, 8],
  [8, 4, 4, 4, 2, 6, 1, 1, 2, 2, 1, 2, 1, 4, 2, 2],
  [1, 3, 3, 3, 1, 2, 1, 1, 1, 3, 4, 4, 6, 5, 5, 3],
  [3, 2, 3, 3, 4, 6, 3, 3, 1, 7, 2, 2, 4, 3, 6, 5],
  [7, 3, 1, 3, 4, 5, 4, 8, 4, 2, 6, 3, 3, 3, 3, 2],
  [2, 2, 4, 2, 7, 4, 2, 3, 8, 3, 6, 2, 2, 2, 2, 5],
  [2, 1, 2, 1, 2, 5, 3, 4, 3, 3, 3, 3, 6, 1, 1, 5],
  [4, 6, 4, 7, 6, 3, 4, 3, 2, 6, 1, 1, 2, 1, 2, 2],
  [4, 1, 2, 2, 3, 1, 1, 2, 2, 1, 4, 6, 5, 4, 3, 3],
  [4]]
def am_rtt : List (List (Option FieldType)) := [[none, (some .int), none, none, (some .int), (some .int), none, none, none, (some .int), none, (some .boolean), (some .int), none, none, (some (.object "DigFill$Hole"))],
  [(some .int), none, (some .int), (some .int), (some .int), (some .boolean), (some .boolean), (some .int), (some .int), none, (some .int), (some .int), (some .int), (some .int), (some (.object "DigFill$Text")), (some (.object "DigFill$Text"))],
  [(some .int), none, none, none, (some .boolean), (some .boolean), (some .boolean), none, none, none, (some (.object "DigFill$Text")), none, (some .int), (some .int), (some .boolean), (some .boolean)],
  [(some .boolean), (some .boolean), (some .boolean), (some .boolean), (some .boolean), (some (.object "java/lang/String")), (some .boolean), (some .boolean), none, none, (some .int), (some .int), (some .int), none, (some .int), (some .int)],
  [(some .int), (some .int), (some .int), (some .int), (some .int), (some .int), (some .int), (some .int), (some .int), (some .int), (some .int), (some .int), (some .int), (some .int), (some .int), (some .int)],
  [(some .int), (some .int), (some .int), (some .int), (some .int), (some .int), (some .int), (some .int), (some .int), (some .int), (some .int), (some .int), (some .int), (some .int), (some .int), (some .int)],
  [(some .int), (some .int), (some .int), (some .int), (some .int), (some .int), (some .int), (some .int), (some .int), (some .boolean), (some .boolean), (some .int), (some .int), none, (some (.object "DigFill$Sheet")), (some (.object "DigFill$Slot"))],
  [none, (some .boolean), (some .int), none, (some .int), (some .boolean), (some .boolean), (some .boolean), (some .boolean), (some .int), none, (some .int), none, (some .int), (some .int), (some .int)],
  [(some .int), (some .boolean), (some .int), (some .int), (some .int), (some .int), (some .int), (some .int), (some .int), (some .int), (some .int), (some .int), (some .int), (some .int), (some .boolean), (some .int)],
  [(some .int), (some .int), (some .int), (some .boolean), (some .boolean), (some .int), (some .int), none, (some .int), (some .int), (some .int), (some .int), (some .int), none, none, (some .int)],
  [none, none, (some .int), (some .int), (some .int), (some .int), (some .int), (some .int), (some .int), (some .int), (some .int), (some .int), (some .boolean), (some .boolean), none, (some .boolean)],
  [(some .int), (some .int), none, (some .int), (some .boolean), (some .boolean), (some .int), (some .int), (some .int), (some .int), (some .int), (some .int), (some .int), (some .boolean), (some .boolean), (some .int)],
  [(some .int), (some .int), (some .int), (some .int), (some .int), (some .int), (some .int), (some .int), (some .int), (some .int), (some .int), (some .int), (some .int), (some .int), (some .int), (some .int)],
  [(some .long), (some .int), (some .char), (some .int), (some .int), (some .byte), (some .boolean), none, (some .char), (some .boolean), (some .int), (some .int), none, none, (some (.array .int)), (some .int)],
  [(some .boolean)]]
def am_it : List (List Bool) := [[true, false, false, false, false, false, true, false, false, false, false, false, false, true, false, false],
  [false, false, false, false, false, false, false, false, false, false, false, false, false, false, false, false],
  [false, true, false, false, false, false, false, true, true, false, false, false, false, false, false, false],
  [false, false, false, false, false, false, false, false, false, true, false, false, false, true, false, false],
  [false, false, false, false, false, false, false, false, false, false, false, false, false, false, false, false],
  [false, false, false, false, false, false, false, false, false, false, false, false, false, false, false, false],
  [false, false, false, false, false, false, false, false, false, false, false, false, false, false, false, false],
  [true, false, false, false, false, false, false, false, false, false, false, false, false, false, false, false],
  [false, false, false, false, false, false, false, false, false, false, false, false, false, false, false, false],
  [false, false, false, false, false, false, false, false, false, false, false, false, false, false, false, false],
  [false, false, false, false, false, false, false, false, false, false, false, false, false, false, false, false],
  [false, false, false, false, false, false, false, false, false, false, false, false, false, false, false, false],
  [false, false, false, false, false, false, false, false, false, false, false, false, false, false, false, false],
  [false, false, false, false, false, false, false, false, false, false, false, false, false, false, false, false],
  [false]]
def am_tb0 : am_Tb := (am_ix2 yL_law am_yt, am_ix2 cL_law am_bt9, am_ix2 4 am_mt, am_ix2 none am_rtt, am_ix2 false am_it)
end AM12
