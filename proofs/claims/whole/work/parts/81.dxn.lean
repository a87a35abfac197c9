def dx_ad (l : List Nat) (j : Nat) : Nat := l.getD j 0
set_option maxRecDepth 100000 in
set_option maxHeartbeats 8000000 in
theorem dx_cw0 : Cond.code yX0_init cX0_init 2 none ∈ lw_gd := List.mem_filter.mpr ⟨List.mem_of_getElem? (i := 360) rfl, rfl⟩
theorem dx_na0 : (parseMethodDescriptor yX0_init.desc).map (fun d => d.parameters.length) = some 1 := by decide +kernel
theorem dx_ty0_0 : mx_tyf 0 0 = .object "RailOfHeads$Crowd" := by decide +kernel
theorem dx_ty0_1 : mx_tyf 0 1 = .array .int := by decide +kernel
theorem dx_ty0_2 : mx_tyf 0 2 = .int := by decide +kernel
set_option maxRecDepth 100000 in
set_option maxHeartbeats 8000000 in
theorem dx_df0 : ∀ j, j < (mx_cl 0).2.2 → defaultValue (mx_tyf 0 j) = vp_V [.null, .null, .int 0] j := by decide +kernel
set_option maxRecDepth 100000 in
set_option maxHeartbeats 8000000 in
theorem dx_cw1 : Cond.code yX1_init cX1_init 3 none ∈ lw_gd := List.mem_filter.mpr ⟨List.mem_of_getElem? (i := 279) rfl, rfl⟩
theorem dx_na1 : (parseMethodDescriptor yX1_init.desc).map (fun d => d.parameters.length) = some 2 := by decide +kernel
theorem dx_ty1_0 : mx_tyf 1 0 = .object "RailOfHeads$Plan" := by decide +kernel
theorem dx_ty1_1 : mx_tyf 1 1 = .object "RailOfHeads$Ways" := by decide +kernel
theorem dx_ty1_2 : mx_tyf 1 2 = .int := by decide +kernel
theorem dx_ty1_3 : mx_tyf 1 3 = .int := by decide +kernel
theorem dx_ty1_4 : mx_tyf 1 4 = .array .int := by decide +kernel
theorem dx_ty1_5 : mx_tyf 1 5 = .array .int := by decide +kernel
theorem dx_ty1_6 : mx_tyf 1 6 = .array .int := by decide +kernel
theorem dx_ty1_7 : mx_tyf 1 7 = .array .int := by decide +kernel
theorem dx_ty1_8 : mx_tyf 1 8 = .array .int := by decide +kernel
theorem dx_ty1_9 : mx_tyf 1 9 = .array .int := by decide +kernel
theorem dx_ty1_10 : mx_tyf 1 10 = .array .int := by decide +kernel
theorem dx_ty1_11 : mx_tyf 1 11 = .array .int := by decide +kernel
theorem dx_ty1_12 : mx_tyf 1 12 = .array .int := by decide +kernel
theorem dx_ty1_13 : mx_tyf 1 13 = .array .int := by decide +kernel
theorem dx_ty1_14 : mx_tyf 1 14 = .array .int := by decide +kernel
set_option maxRecDepth 100000 in
set_option maxHeartbeats 8000000 in
theorem dx_df1 : ∀ j, j < (mx_cl 1).2.2 → defaultValue (mx_tyf 1 j) = vp_V [.null, .null, .int 0, .int 0, .null, .null, .null, .null, .null, .null, .null, .null, .null, .null, .null] j := by decide +kernel
set_option maxRecDepth 100000 in
set_option maxHeartbeats 8000000 in
theorem dx_cw2 : Cond.code yX2_init cX2_init 1 none ∈ lw_gd := List.mem_filter.mpr ⟨List.mem_of_getElem? (i := 158) rfl, rfl⟩
theorem dx_na2 : (parseMethodDescriptor yX2_init.desc).map (fun d => d.parameters.length) = some 0 := by decide +kernel
theorem dx_ty2_0 : mx_tyf 2 0 = .object "RailOfHeads$Plan" := by decide +kernel
theorem dx_ty2_1 : mx_tyf 2 1 = .object "RailOfHeads$Ways" := by decide +kernel
theorem dx_ty2_2 : mx_tyf 2 2 = .object "RailOfHeads$Crowd" := by decide +kernel
set_option maxRecDepth 100000 in
set_option maxHeartbeats 8000000 in
theorem dx_df2 : ∀ j, j < (mx_cl 2).2.2 → defaultValue (mx_tyf 2 j) = vp_V [.null, .null, .null] j := by decide +kernel
set_option maxRecDepth 100000 in
set_option maxHeartbeats 8000000 in
theorem dx_cw3 : Cond.code yX3_init cX3_init 1 none ∈ lw_gd := List.mem_filter.mpr ⟨List.mem_of_getElem? (i := 164) rfl, rfl⟩
theorem dx_na3 : (parseMethodDescriptor yX3_init.desc).map (fun d => d.parameters.length) = some 0 := by decide +kernel
theorem dx_ty3_0 : mx_tyf 3 0 = .int := by decide +kernel
theorem dx_ty3_1 : mx_tyf 3 1 = .int := by decide +kernel
theorem dx_ty3_2 : mx_tyf 3 2 = .int := by decide +kernel
theorem dx_ty3_3 : mx_tyf 3 3 = .array .int := by decide +kernel
theorem dx_ty3_4 : mx_tyf 3 4 = .int := by decide +kernel
theorem dx_ty3_5 : mx_tyf 3 5 = .array .int := by decide +kernel
theorem dx_ty3_6 : mx_tyf 3 6 = .array .int := by decide +kernel
theorem dx_ty3_7 : mx_tyf 3 7 = .array .int := by decide +kernel
theorem dx_ty3_8 : mx_tyf 3 8 = .int := by decide +kernel
theorem dx_ty3_9 : mx_tyf 3 9 = .array .int := by decide +kernel
theorem dx_ty3_10 : mx_tyf 3 10 = .array .int := by decide +kernel
theorem dx_ty3_11 : mx_tyf 3 11 = .array .int := by decide +kernel
theorem dx_ty3_12 : mx_tyf 3 12 = .int := by decide +kernel
theorem dx_ty3_13 : mx_tyf 3 13 = .array .int := by decide +kernel
theorem dx_ty3_14 : mx_tyf 3 14 = .array .int := by decide +kernel
theorem dx_ty3_15 : mx_tyf 3 15 = .array .int := by decide +kernel
theorem dx_ty3_16 : mx_tyf 3 16 = .array .int := by decide +kernel
theorem dx_ty3_17 : mx_tyf 3 17 = .int := by decide +kernel
set_option maxRecDepth 100000 in
set_option maxHeartbeats 8000000 in
theorem dx_df3 : ∀ j, j < (mx_cl 3).2.2 → defaultValue (mx_tyf 3 j) = vp_V [.int 0, .int 0, .int 0, .null, .int 0, .null, .null, .null, .int 0, .null, .null, .null, .int 0, .null, .null, .null, .null, .int 0] j := by decide +kernel
set_option maxRecDepth 100000 in
set_option maxHeartbeats 8000000 in
theorem dx_cw4 : Cond.code yX4_init cX4_init 1 none ∈ lw_gd := List.mem_filter.mpr ⟨List.mem_of_getElem? (i := 123) rfl, rfl⟩
theorem dx_na4 : (parseMethodDescriptor yX4_init.desc).map (fun d => d.parameters.length) = some 0 := by decide +kernel
theorem dx_ty4_0 : mx_tyf 4 0 = .array .byte := by decide +kernel
theorem dx_ty4_1 : mx_tyf 4 1 = .int := by decide +kernel
theorem dx_ty4_2 : mx_tyf 4 2 = .int := by decide +kernel
theorem dx_ty4_3 : mx_tyf 4 3 = .int := by decide +kernel
theorem dx_ty4_4 : mx_tyf 4 4 = .int := by decide +kernel
theorem dx_ty4_5 : mx_tyf 4 5 = .int := by decide +kernel
theorem dx_ty4_6 : mx_tyf 4 6 = .int := by decide +kernel
theorem dx_ty4_7 : mx_tyf 4 7 = .object "RailOfHeads$Plan" := by decide +kernel
set_option maxRecDepth 100000 in
set_option maxHeartbeats 8000000 in
theorem dx_df4 : ∀ j, j < (mx_cl 4).2.2 → defaultValue (mx_tyf 4 j) = vp_V [.null, .int 0, .int 0, .int 0, .int 0, .int 0, .int 0, .null] j := by decide +kernel
set_option maxRecDepth 100000 in
set_option maxHeartbeats 8000000 in
theorem dx_cw5 : Cond.code yX5_init cX5_init 1 none ∈ lw_gd := List.mem_filter.mpr ⟨List.mem_of_getElem? (i := 377) rfl, rfl⟩
theorem dx_na5 : (parseMethodDescriptor yX5_init.desc).map (fun d => d.parameters.length) = some 0 := by decide +kernel
theorem dx_ty5_0 : mx_tyf 5 0 = .array .int := by decide +kernel
theorem dx_ty5_1 : mx_tyf 5 1 = .boolean := by decide +kernel
theorem dx_ty5_2 : mx_tyf 5 2 = .int := by decide +kernel
theorem dx_ty5_3 : mx_tyf 5 3 = .int := by decide +kernel
set_option maxRecDepth 100000 in
set_option maxHeartbeats 8000000 in
theorem dx_df5 : ∀ j, j < (mx_cl 5).2.2 → defaultValue (mx_tyf 5 j) = vp_V [.null, .int 0, .int 0, .int 0] j := by decide +kernel
set_option maxRecDepth 100000 in
set_option maxHeartbeats 8000000 in
theorem dx_cw6 : Cond.code yX6_init cX6_init 1 none ∈ lw_gd := List.mem_filter.mpr ⟨List.mem_of_getElem? (i := 263) rfl, rfl⟩
theorem dx_na6 : (parseMethodDescriptor yX6_init.desc).map (fun d => d.parameters.length) = some 0 := by decide +kernel
theorem dx_ty6_0 : mx_tyf 6 0 = .array .int := by decide +kernel
theorem dx_ty6_1 : mx_tyf 6 1 = .array .int := by decide +kernel
set_option maxRecDepth 100000 in
set_option maxHeartbeats 8000000 in
theorem dx_df6 : ∀ j, j < (mx_cl 6).2.2 → defaultValue (mx_tyf 6 j) = vp_V [.null, .null] j := by decide +kernel
set_option maxRecDepth 100000 in
set_option maxHeartbeats 8000000 in
theorem dx_cw7 : Cond.code yX7_init cX7_init 2 none ∈ lw_gd := List.mem_filter.mpr ⟨List.mem_of_getElem? (i := 113) rfl, rfl⟩
theorem dx_na7 : (parseMethodDescriptor yX7_init.desc).map (fun d => d.parameters.length) = some 0 := by decide +kernel
theorem dx_ty7_0 : mx_tyf 7 0 = .array (.object "RailOfHeads$Row") := by decide +kernel
theorem dx_ty7_1 : mx_tyf 7 1 = .object "RailOfHeads$Reader" := by decide +kernel
theorem dx_ty7_2 : mx_tyf 7 2 = .object "RailOfHeads$House" := by decide +kernel
theorem dx_ty7_3 : mx_tyf 7 3 = .object "RailOfHeads$House" := by decide +kernel
theorem dx_ty7_4 : mx_tyf 7 4 = .array (.object "RailOfHeads$House") := by decide +kernel
theorem dx_ty7_5 : mx_tyf 7 5 = .object "RailOfHeads$Asks" := by decide +kernel
theorem dx_ty7_6 : mx_tyf 7 6 = .array .int := by decide +kernel
theorem dx_ty7_7 : mx_tyf 7 7 = .array .int := by decide +kernel
theorem dx_ty7_8 : mx_tyf 7 8 = .int := by decide +kernel
theorem dx_ty7_9 : mx_tyf 7 9 = .int := by decide +kernel
set_option maxRecDepth 100000 in
set_option maxHeartbeats 8000000 in
theorem dx_df7 : ∀ j, j < (mx_cl 7).2.2 → defaultValue (mx_tyf 7 j) = vp_V [.null, .null, .null, .null, .null, .null, .null, .null, .int 0, .int 0] j := by decide +kernel
set_option maxRecDepth 100000 in
set_option maxHeartbeats 8000000 in
theorem dx_cw8 : Cond.code yX8_init cX8_init 1 none ∈ lw_gd := List.mem_filter.mpr ⟨List.mem_of_getElem? (i := 929) rfl, rfl⟩
theorem dx_na8 : (parseMethodDescriptor yX8_init.desc).map (fun d => d.parameters.length) = some 0 := by decide +kernel
theorem dx_ty8_0 : mx_tyf 8 0 = .int := by decide +kernel
theorem dx_ty8_1 : mx_tyf 8 1 = .int := by decide +kernel
theorem dx_ty8_2 : mx_tyf 8 2 = .array .int := by decide +kernel
theorem dx_ty8_3 : mx_tyf 8 3 = .array .int := by decide +kernel
theorem dx_ty8_4 : mx_tyf 8 4 = .array .int := by decide +kernel
theorem dx_ty8_5 : mx_tyf 8 5 = .array .int := by decide +kernel
theorem dx_ty8_6 : mx_tyf 8 6 = .array .int := by decide +kernel
theorem dx_ty8_7 : mx_tyf 8 7 = .boolean := by decide +kernel
theorem dx_ty8_8 : mx_tyf 8 8 = .array .int := by decide +kernel
theorem dx_ty8_9 : mx_tyf 8 9 = .array .int := by decide +kernel
theorem dx_ty8_10 : mx_tyf 8 10 = .array .int := by decide +kernel
theorem dx_ty8_11 : mx_tyf 8 11 = .int := by decide +kernel
theorem dx_ty8_12 : mx_tyf 8 12 = .int := by decide +kernel
theorem dx_ty8_13 : mx_tyf 8 13 = .int := by decide +kernel
theorem dx_ty8_14 : mx_tyf 8 14 = .int := by decide +kernel
theorem dx_ty8_15 : mx_tyf 8 15 = .int := by decide +kernel
theorem dx_ty8_16 : mx_tyf 8 16 = .int := by decide +kernel
theorem dx_ty8_17 : mx_tyf 8 17 = .int := by decide +kernel
theorem dx_ty8_18 : mx_tyf 8 18 = .int := by decide +kernel
theorem dx_ty8_19 : mx_tyf 8 19 = .int := by decide +kernel
theorem dx_ty8_20 : mx_tyf 8 20 = .array .int := by decide +kernel
theorem dx_ty8_21 : mx_tyf 8 21 = .int := by decide +kernel
theorem dx_ty8_22 : mx_tyf 8 22 = .int := by decide +kernel
theorem dx_ty8_23 : mx_tyf 8 23 = .int := by decide +kernel
theorem dx_ty8_24 : mx_tyf 8 24 = .array .int := by decide +kernel
theorem dx_ty8_25 : mx_tyf 8 25 = .array .int := by decide +kernel
theorem dx_ty8_26 : mx_tyf 8 26 = .array .int := by decide +kernel
theorem dx_ty8_27 : mx_tyf 8 27 = .int := by decide +kernel
theorem dx_ty8_28 : mx_tyf 8 28 = .array .boolean := by decide +kernel
theorem dx_ty8_29 : mx_tyf 8 29 = .array .int := by decide +kernel
theorem dx_ty8_30 : mx_tyf 8 30 = .array .int := by decide +kernel
theorem dx_ty8_31 : mx_tyf 8 31 = .array .int := by decide +kernel
theorem dx_ty8_32 : mx_tyf 8 32 = .int := by decide +kernel
set_option maxRecDepth 100000 in
set_option maxHeartbeats 8000000 in
theorem dx_df8 : ∀ j, j < (mx_cl 8).2.2 → defaultValue (mx_tyf 8 j) = vp_V [.int 0, .int 0, .null, .null, .null, .null, .null, .int 0, .null, .null, .null, .int 0, .int 0, .int 0, .int 0, .int 0, .int 0, .int 0, .int 0, .int 0, .null, .int 0, .int 0, .int 0, .null, .null, .null, .int 0, .null, .null, .null, .null, .int 0] j := by decide +kernel
set_option maxRecDepth 100000 in
set_option maxHeartbeats 8000000 in
theorem dxw_92 : (Jvm.Cond.initialized "RailOfHeads") ∈ lw_gd := List.mem_filter.mpr ⟨List.mem_of_getElem? (i := 92) rfl, rfl⟩
set_option maxRecDepth 100000 in
set_option maxHeartbeats 8000000 in
theorem dxw_93 : (Jvm.Cond.initialized "RailOfHeads$Reader") ∈ lw_gd := List.mem_filter.mpr ⟨List.mem_of_getElem? (i := 93) rfl, rfl⟩
set_option maxRecDepth 100000 in
set_option maxHeartbeats 8000000 in
theorem dxw_94 : (Jvm.Cond.initialized "RailOfHeads$House") ∈ lw_gd := List.mem_filter.mpr ⟨List.mem_of_getElem? (i := 94) rfl, rfl⟩
set_option maxRecDepth 100000 in
set_option maxHeartbeats 8000000 in
theorem dxw_95 : (Jvm.Cond.initialized "RailOfHeads$Plan") ∈ lw_gd := List.mem_filter.mpr ⟨List.mem_of_getElem? (i := 95) rfl, rfl⟩
set_option maxRecDepth 100000 in
set_option maxHeartbeats 8000000 in
theorem dxw_96 : (Jvm.Cond.initialized "RailOfHeads$Ways") ∈ lw_gd := List.mem_filter.mpr ⟨List.mem_of_getElem? (i := 96) rfl, rfl⟩
set_option maxRecDepth 100000 in
set_option maxHeartbeats 8000000 in
theorem dxw_97 : (Jvm.Cond.initialized "RailOfHeads$Crowd") ∈ lw_gd := List.mem_filter.mpr ⟨List.mem_of_getElem? (i := 97) rfl, rfl⟩
set_option maxRecDepth 100000 in
set_option maxHeartbeats 8000000 in
theorem dxw_98 : (Jvm.Cond.initialized "RailOfHeads$Asks") ∈ lw_gd := List.mem_filter.mpr ⟨List.mem_of_getElem? (i := 98) rfl, rfl⟩
set_option maxRecDepth 100000 in
set_option maxHeartbeats 8000000 in
theorem dxw_99 : (Jvm.Cond.initialized "RailOfHeads$Row") ∈ lw_gd := List.mem_filter.mpr ⟨List.mem_of_getElem? (i := 99) rfl, rfl⟩
set_option maxRecDepth 100000 in
set_option maxHeartbeats 8000000 in
theorem dxw_100 : (Jvm.Cond.initialized "RailOfHeadsModel") ∈ lw_gd := List.mem_filter.mpr ⟨List.mem_of_getElem? (i := 100) rfl, rfl⟩
set_option maxRecDepth 100000 in
set_option maxHeartbeats 8000000 in
theorem dxw_103 : (Jvm.Cond.initialized "java/lang/String") ∈ lw_gd := List.mem_filter.mpr ⟨List.mem_of_getElem? (i := 103) rfl, rfl⟩
set_option maxRecDepth 100000 in
set_option maxHeartbeats 8000000 in
theorem dxw_105 : (Jvm.Cond.initialized "jdk/internal/util/Preconditions") ∈ lw_gd := List.mem_filter.mpr ⟨List.mem_of_getElem? (i := 105) rfl, rfl⟩
set_option maxRecDepth 100000 in
set_option maxHeartbeats 8000000 in
theorem dxw_109 : (Jvm.Cond.classLink "RailOfHeadsLaw" (7 : Nat) "RailOfHeads") ∈ lw_gd := List.mem_filter.mpr ⟨List.mem_of_getElem? (i := 109) rfl, rfl⟩
set_option maxRecDepth 100000 in
set_option maxHeartbeats 8000000 in
theorem dxw_110 : (Jvm.Cond.instantiable "RailOfHeads" (10 : Nat)) ∈ lw_gd := List.mem_filter.mpr ⟨List.mem_of_getElem? (i := 110) rfl, rfl⟩
set_option maxRecDepth 100000 in
set_option maxHeartbeats 8000000 in
theorem dxw_111 : (Jvm.Cond.methodLink "RailOfHeadsLaw" (9 : Nat) ({ cls := "RailOfHeads", name := "<init>", desc := "()V" } : Jvm.MethodName)) ∈ lw_gd := List.mem_filter.mpr ⟨List.mem_of_getElem? (i := 111) rfl, rfl⟩
set_option maxRecDepth 100000 in
set_option maxHeartbeats 8000000 in
theorem dxw_112 : (Jvm.Cond.instanceMethod ({ cls := "RailOfHeads", name := "<init>", desc := "()V" } : Jvm.MethodName)) ∈ lw_gd := List.mem_filter.mpr ⟨List.mem_of_getElem? (i := 112) rfl, rfl⟩
set_option maxRecDepth 100000 in
set_option maxHeartbeats 8000000 in
theorem dxw_114 : (Jvm.Cond.methodLink "RailOfHeads" (1 : Nat) ({ cls := "java/lang/Object", name := "<init>", desc := "()V" } : Jvm.MethodName)) ∈ lw_gd := List.mem_filter.mpr ⟨List.mem_of_getElem? (i := 114) rfl, rfl⟩
set_option maxRecDepth 100000 in
set_option maxHeartbeats 8000000 in
theorem dxw_117 : (Jvm.Cond.classLink "RailOfHeads" (9 : Nat) "RailOfHeads$Row") ∈ lw_gd := List.mem_filter.mpr ⟨List.mem_of_getElem? (i := 117) rfl, rfl⟩
set_option maxRecDepth 100000 in
set_option maxHeartbeats 8000000 in
theorem dxw_119 : (Jvm.Cond.classLink "RailOfHeads" (15 : Nat) "RailOfHeads$Reader") ∈ lw_gd := List.mem_filter.mpr ⟨List.mem_of_getElem? (i := 119) rfl, rfl⟩
set_option maxRecDepth 100000 in
set_option maxHeartbeats 8000000 in
theorem dxw_120 : (Jvm.Cond.instantiable "RailOfHeads$Reader" (8 : Nat)) ∈ lw_gd := List.mem_filter.mpr ⟨List.mem_of_getElem? (i := 120) rfl, rfl⟩
set_option maxRecDepth 100000 in
set_option maxHeartbeats 8000000 in
theorem dxw_122 : (Jvm.Cond.instanceMethod ({ cls := "RailOfHeads$Reader", name := "<init>", desc := "()V" } : Jvm.MethodName)) ∈ lw_gd := List.mem_filter.mpr ⟨List.mem_of_getElem? (i := 122) rfl, rfl⟩
set_option maxRecDepth 100000 in
set_option maxHeartbeats 8000000 in
theorem dxw_124 : (Jvm.Cond.methodLink "RailOfHeads$Reader" (3 : Nat) ({ cls := "java/lang/Object", name := "<init>", desc := "()V" } : Jvm.MethodName)) ∈ lw_gd := List.mem_filter.mpr ⟨List.mem_of_getElem? (i := 124) rfl, rfl⟩
set_option maxRecDepth 100000 in
set_option maxHeartbeats 8000000 in
theorem dxw_125 : (Jvm.Cond.fieldLink "RailOfHeads$Reader" (9 : Nat) "RailOfHeads$Reader" "tape" "[B") ∈ lw_gd := List.mem_filter.mpr ⟨List.mem_of_getElem? (i := 125) rfl, rfl⟩
set_option maxRecDepth 100000 in
set_option maxHeartbeats 8000000 in
theorem dxw_153 : (Jvm.Cond.arrayClass Jvm.ClassFile.FieldType.byte) ∈ lw_gd := List.mem_filter.mpr ⟨List.mem_of_getElem? (i := 153) rfl, rfl⟩
set_option maxRecDepth 100000 in
set_option maxHeartbeats 8000000 in
theorem dxw_154 : (Jvm.Cond.classLink "RailOfHeads" (22 : Nat) "RailOfHeads$House") ∈ lw_gd := List.mem_filter.mpr ⟨List.mem_of_getElem? (i := 154) rfl, rfl⟩
set_option maxRecDepth 100000 in
set_option maxHeartbeats 8000000 in
theorem dxw_155 : (Jvm.Cond.instantiable "RailOfHeads$House" (3 : Nat)) ∈ lw_gd := List.mem_filter.mpr ⟨List.mem_of_getElem? (i := 155) rfl, rfl⟩
set_option maxRecDepth 100000 in
set_option maxHeartbeats 8000000 in
theorem dxw_157 : (Jvm.Cond.instanceMethod ({ cls := "RailOfHeads$House", name := "<init>", desc := "()V" } : Jvm.MethodName)) ∈ lw_gd := List.mem_filter.mpr ⟨List.mem_of_getElem? (i := 157) rfl, rfl⟩
set_option maxRecDepth 100000 in
set_option maxHeartbeats 8000000 in
theorem dxw_159 : (Jvm.Cond.methodLink "RailOfHeads$House" (1 : Nat) ({ cls := "java/lang/Object", name := "<init>", desc := "()V" } : Jvm.MethodName)) ∈ lw_gd := List.mem_filter.mpr ⟨List.mem_of_getElem? (i := 159) rfl, rfl⟩
set_option maxRecDepth 100000 in
set_option maxHeartbeats 8000000 in
theorem dxw_160 : (Jvm.Cond.classLink "RailOfHeads$House" (7 : Nat) "RailOfHeads$Plan") ∈ lw_gd := List.mem_filter.mpr ⟨List.mem_of_getElem? (i := 160) rfl, rfl⟩
set_option maxRecDepth 100000 in
set_option maxHeartbeats 8000000 in
theorem dxw_161 : (Jvm.Cond.instantiable "RailOfHeads$Plan" (18 : Nat)) ∈ lw_gd := List.mem_filter.mpr ⟨List.mem_of_getElem? (i := 161) rfl, rfl⟩
set_option maxRecDepth 100000 in
set_option maxHeartbeats 8000000 in
theorem dxw_163 : (Jvm.Cond.instanceMethod ({ cls := "RailOfHeads$Plan", name := "<init>", desc := "()V" } : Jvm.MethodName)) ∈ lw_gd := List.mem_filter.mpr ⟨List.mem_of_getElem? (i := 163) rfl, rfl⟩
set_option maxRecDepth 100000 in
set_option maxHeartbeats 8000000 in
theorem dxw_165 : (Jvm.Cond.methodLink "RailOfHeads$Plan" (3 : Nat) ({ cls := "java/lang/Object", name := "<init>", desc := "()V" } : Jvm.MethodName)) ∈ lw_gd := List.mem_filter.mpr ⟨List.mem_of_getElem? (i := 165) rfl, rfl⟩
set_option maxRecDepth 100000 in
set_option maxHeartbeats 8000000 in
theorem dxw_179 : (Jvm.Cond.fieldLink "RailOfHeads$Plan" (9 : Nat) "RailOfHeads$Plan" "holds" "[I") ∈ lw_gd := List.mem_filter.mpr ⟨List.mem_of_getElem? (i := 179) rfl, rfl⟩
set_option maxRecDepth 100000 in
set_option maxHeartbeats 8000000 in
theorem dxw_185 : (Jvm.Cond.fieldLink "RailOfHeads$Plan" (15 : Nat) "RailOfHeads$Plan" "doorFrom" "[I") ∈ lw_gd := List.mem_filter.mpr ⟨List.mem_of_getElem? (i := 185) rfl, rfl⟩
set_option maxRecDepth 100000 in
set_option maxHeartbeats 8000000 in
theorem dxw_187 : (Jvm.Cond.fieldLink "RailOfHeads$Plan" (18 : Nat) "RailOfHeads$Plan" "doorTo" "[I") ∈ lw_gd := List.mem_filter.mpr ⟨List.mem_of_getElem? (i := 187) rfl, rfl⟩
set_option maxRecDepth 100000 in
set_option maxHeartbeats 8000000 in
theorem dxw_189 : (Jvm.Cond.fieldLink "RailOfHeads$Plan" (21 : Nat) "RailOfHeads$Plan" "doorOneWay" "[I") ∈ lw_gd := List.mem_filter.mpr ⟨List.mem_of_getElem? (i := 189) rfl, rfl⟩
set_option maxRecDepth 100000 in
set_option maxHeartbeats 8000000 in
theorem dxw_195 : (Jvm.Cond.fieldLink "RailOfHeads$Plan" (24 : Nat) "RailOfHeads$Plan" "pictureRoom" "[I") ∈ lw_gd := List.mem_filter.mpr ⟨List.mem_of_getElem? (i := 195) rfl, rfl⟩
set_option maxRecDepth 100000 in
set_option maxHeartbeats 8000000 in
theorem dxw_198 : (Jvm.Cond.fieldLink "RailOfHeads$Plan" (27 : Nat) "RailOfHeads$Plan" "pictureDraw" "[I") ∈ lw_gd := List.mem_filter.mpr ⟨List.mem_of_getElem? (i := 198) rfl, rfl⟩
set_option maxRecDepth 100000 in
set_option maxHeartbeats 8000000 in
theorem dxw_200 : (Jvm.Cond.fieldLink "RailOfHeads$Plan" (30 : Nat) "RailOfHeads$Plan" "pictureMinutes" "[I") ∈ lw_gd := List.mem_filter.mpr ⟨List.mem_of_getElem? (i := 200) rfl, rfl⟩
set_option maxRecDepth 100000 in
set_option maxHeartbeats 8000000 in
theorem dxw_206 : (Jvm.Cond.fieldLink "RailOfHeads$Plan" (33 : Nat) "RailOfHeads$Plan" "groupMany" "[I") ∈ lw_gd := List.mem_filter.mpr ⟨List.mem_of_getElem? (i := 206) rfl, rfl⟩
set_option maxRecDepth 100000 in
set_option maxHeartbeats 8000000 in
theorem dxw_208 : (Jvm.Cond.fieldLink "RailOfHeads$Plan" (36 : Nat) "RailOfHeads$Plan" "groupMinute" "[I") ∈ lw_gd := List.mem_filter.mpr ⟨List.mem_of_getElem? (i := 208) rfl, rfl⟩
set_option maxRecDepth 100000 in
set_option maxHeartbeats 8000000 in
theorem dxw_211 : (Jvm.Cond.fieldLink "RailOfHeads$Plan" (39 : Nat) "RailOfHeads$Plan" "groupLaw" "[I") ∈ lw_gd := List.mem_filter.mpr ⟨List.mem_of_getElem? (i := 211) rfl, rfl⟩
set_option maxRecDepth 100000 in
set_option maxHeartbeats 8000000 in
theorem dxw_214 : (Jvm.Cond.fieldLink "RailOfHeads$Plan" (42 : Nat) "RailOfHeads$Plan" "groupPatience" "[I") ∈ lw_gd := List.mem_filter.mpr ⟨List.mem_of_getElem? (i := 214) rfl, rfl⟩
set_option maxRecDepth 100000 in
set_option maxHeartbeats 8000000 in
theorem dxw_258 : (Jvm.Cond.arrayClass Jvm.ClassFile.FieldType.int) ∈ lw_gd := List.mem_filter.mpr ⟨List.mem_of_getElem? (i := 258) rfl, rfl⟩
set_option maxRecDepth 100000 in
set_option maxHeartbeats 8000000 in
theorem dxw_259 : (Jvm.Cond.classLink "RailOfHeads$House" (16 : Nat) "RailOfHeads$Ways") ∈ lw_gd := List.mem_filter.mpr ⟨List.mem_of_getElem? (i := 259) rfl, rfl⟩
set_option maxRecDepth 100000 in
set_option maxHeartbeats 8000000 in
theorem dxw_260 : (Jvm.Cond.instantiable "RailOfHeads$Ways" (2 : Nat)) ∈ lw_gd := List.mem_filter.mpr ⟨List.mem_of_getElem? (i := 260) rfl, rfl⟩
set_option maxRecDepth 100000 in
set_option maxHeartbeats 8000000 in
theorem dxw_262 : (Jvm.Cond.instanceMethod ({ cls := "RailOfHeads$Ways", name := "<init>", desc := "()V" } : Jvm.MethodName)) ∈ lw_gd := List.mem_filter.mpr ⟨List.mem_of_getElem? (i := 262) rfl, rfl⟩
set_option maxRecDepth 100000 in
set_option maxHeartbeats 8000000 in
theorem dxw_264 : (Jvm.Cond.methodLink "RailOfHeads$Ways" (3 : Nat) ({ cls := "java/lang/Object", name := "<init>", desc := "()V" } : Jvm.MethodName)) ∈ lw_gd := List.mem_filter.mpr ⟨List.mem_of_getElem? (i := 264) rfl, rfl⟩
set_option maxRecDepth 100000 in
set_option maxHeartbeats 8000000 in
theorem dxw_265 : (Jvm.Cond.fieldLink "RailOfHeads$Ways" (9 : Nat) "RailOfHeads$Ways" "doors" "[I") ∈ lw_gd := List.mem_filter.mpr ⟨List.mem_of_getElem? (i := 265) rfl, rfl⟩
set_option maxRecDepth 100000 in
set_option maxHeartbeats 8000000 in
theorem dxw_268 : (Jvm.Cond.fieldLink "RailOfHeads$Ways" (15 : Nat) "RailOfHeads$Ways" "next" "[I") ∈ lw_gd := List.mem_filter.mpr ⟨List.mem_of_getElem? (i := 268) rfl, rfl⟩
set_option maxRecDepth 100000 in
set_option maxHeartbeats 8000000 in
theorem dxw_275 : (Jvm.Cond.classLink "RailOfHeads$House" (23 : Nat) "RailOfHeads$Crowd") ∈ lw_gd := List.mem_filter.mpr ⟨List.mem_of_getElem? (i := 275) rfl, rfl⟩
set_option maxRecDepth 100000 in
set_option maxHeartbeats 8000000 in
theorem dxw_276 : (Jvm.Cond.instantiable "RailOfHeads$Crowd" (15 : Nat)) ∈ lw_gd := List.mem_filter.mpr ⟨List.mem_of_getElem? (i := 276) rfl, rfl⟩
set_option maxRecDepth 100000 in
set_option maxHeartbeats 8000000 in
theorem dxw_277 : (Jvm.Cond.methodLink "RailOfHeads$House" (25 : Nat) ({ cls := "RailOfHeads$Crowd", name := "<init>", desc := "(LRailOfHeads$Plan;LRailOfHeads$Ways;)V" } : Jvm.MethodName)) ∈ lw_gd := List.mem_filter.mpr ⟨List.mem_of_getElem? (i := 277) rfl, rfl⟩
set_option maxRecDepth 100000 in
set_option maxHeartbeats 8000000 in
theorem dxw_278 : (Jvm.Cond.instanceMethod ({ cls := "RailOfHeads$Crowd", name := "<init>", desc := "(LRailOfHeads$Plan;LRailOfHeads$Ways;)V" } : Jvm.MethodName)) ∈ lw_gd := List.mem_filter.mpr ⟨List.mem_of_getElem? (i := 278) rfl, rfl⟩
set_option maxRecDepth 100000 in
set_option maxHeartbeats 8000000 in
theorem dxw_280 : (Jvm.Cond.methodLink "RailOfHeads$Crowd" (3 : Nat) ({ cls := "java/lang/Object", name := "<init>", desc := "()V" } : Jvm.MethodName)) ∈ lw_gd := List.mem_filter.mpr ⟨List.mem_of_getElem? (i := 280) rfl, rfl⟩
set_option maxRecDepth 100000 in
set_option maxHeartbeats 8000000 in
theorem dxw_281 : (Jvm.Cond.fieldLink "RailOfHeads$Crowd" (45 : Nat) "RailOfHeads$Crowd" "plan" "LRailOfHeads$Plan;") ∈ lw_gd := List.mem_filter.mpr ⟨List.mem_of_getElem? (i := 281) rfl, rfl⟩
set_option maxRecDepth 100000 in
set_option maxHeartbeats 8000000 in
theorem dxw_282 : (Jvm.Cond.fieldLink "RailOfHeads$Crowd" (49 : Nat) "RailOfHeads$Crowd" "ways" "LRailOfHeads$Ways;") ∈ lw_gd := List.mem_filter.mpr ⟨List.mem_of_getElem? (i := 282) rfl, rfl⟩
set_option maxRecDepth 100000 in
set_option maxHeartbeats 8000000 in
theorem dxw_288 : (Jvm.Cond.fieldLink "RailOfHeads$Crowd" (9 : Nat) "RailOfHeads$Crowd" "group" "[I") ∈ lw_gd := List.mem_filter.mpr ⟨List.mem_of_getElem? (i := 288) rfl, rfl⟩
set_option maxRecDepth 100000 in
set_option maxHeartbeats 8000000 in
theorem dxw_290 : (Jvm.Cond.fieldLink "RailOfHeads$Crowd" (15 : Nat) "RailOfHeads$Crowd" "place" "[I") ∈ lw_gd := List.mem_filter.mpr ⟨List.mem_of_getElem? (i := 290) rfl, rfl⟩
set_option maxRecDepth 100000 in
set_option maxHeartbeats 8000000 in
theorem dxw_293 : (Jvm.Cond.fieldLink "RailOfHeads$Crowd" (18 : Nat) "RailOfHeads$Crowd" "patience" "[I") ∈ lw_gd := List.mem_filter.mpr ⟨List.mem_of_getElem? (i := 293) rfl, rfl⟩
set_option maxRecDepth 100000 in
set_option maxHeartbeats 8000000 in
theorem dxw_296 : (Jvm.Cond.fieldLink "RailOfHeads$Crowd" (21 : Nat) "RailOfHeads$Crowd" "saw" "[I") ∈ lw_gd := List.mem_filter.mpr ⟨List.mem_of_getElem? (i := 296) rfl, rfl⟩
set_option maxRecDepth 100000 in
set_option maxHeartbeats 8000000 in
theorem dxw_299 : (Jvm.Cond.fieldLink "RailOfHeads$Crowd" (24 : Nat) "RailOfHeads$Crowd" "done" "[I") ∈ lw_gd := List.mem_filter.mpr ⟨List.mem_of_getElem? (i := 299) rfl, rfl⟩
set_option maxRecDepth 100000 in
set_option maxHeartbeats 8000000 in
theorem dxw_301 : (Jvm.Cond.fieldLink "RailOfHeads$Crowd" (27 : Nat) "RailOfHeads$Crowd" "missed" "[I") ∈ lw_gd := List.mem_filter.mpr ⟨List.mem_of_getElem? (i := 301) rfl, rfl⟩
set_option maxRecDepth 100000 in
set_option maxHeartbeats 8000000 in
theorem dxw_303 : (Jvm.Cond.fieldLink "RailOfHeads$Crowd" (30 : Nat) "RailOfHeads$Crowd" "aim" "[I") ∈ lw_gd := List.mem_filter.mpr ⟨List.mem_of_getElem? (i := 303) rfl, rfl⟩
set_option maxRecDepth 100000 in
set_option maxHeartbeats 8000000 in
theorem dxw_305 : (Jvm.Cond.fieldLink "RailOfHeads$Crowd" (33 : Nat) "RailOfHeads$Crowd" "looked" "[I") ∈ lw_gd := List.mem_filter.mpr ⟨List.mem_of_getElem? (i := 305) rfl, rfl⟩
set_option maxRecDepth 100000 in
set_option maxHeartbeats 8000000 in
theorem dxw_307 : (Jvm.Cond.fieldLink "RailOfHeads$Crowd" (36 : Nat) "RailOfHeads$Crowd" "inside" "[I") ∈ lw_gd := List.mem_filter.mpr ⟨List.mem_of_getElem? (i := 307) rfl, rfl⟩
set_option maxRecDepth 100000 in
set_option maxHeartbeats 8000000 in
theorem dxw_309 : (Jvm.Cond.fieldLink "RailOfHeads$Crowd" (39 : Nat) "RailOfHeads$Crowd" "latest" "[I") ∈ lw_gd := List.mem_filter.mpr ⟨List.mem_of_getElem? (i := 309) rfl, rfl⟩
set_option maxRecDepth 100000 in
set_option maxHeartbeats 8000000 in
theorem dxw_310 : (Jvm.Cond.fieldLink "RailOfHeads$Crowd" (42 : Nat) "RailOfHeads$Crowd" "lookers" "[I") ∈ lw_gd := List.mem_filter.mpr ⟨List.mem_of_getElem? (i := 310) rfl, rfl⟩
set_option maxRecDepth 100000 in
set_option maxHeartbeats 8000000 in
theorem dxw_342 : (Jvm.Cond.fieldLink "RailOfHeads$House" (10 : Nat) "RailOfHeads$House" "plan" "LRailOfHeads$Plan;") ∈ lw_gd := List.mem_filter.mpr ⟨List.mem_of_getElem? (i := 342) rfl, rfl⟩
set_option maxRecDepth 100000 in
set_option maxHeartbeats 8000000 in
theorem dxw_344 : (Jvm.Cond.fieldLink "RailOfHeads$House" (19 : Nat) "RailOfHeads$House" "ways" "LRailOfHeads$Ways;") ∈ lw_gd := List.mem_filter.mpr ⟨List.mem_of_getElem? (i := 344) rfl, rfl⟩
set_option maxRecDepth 100000 in
set_option maxHeartbeats 8000000 in
theorem dxw_346 : (Jvm.Cond.fieldLink "RailOfHeads$House" (28 : Nat) "RailOfHeads$House" "crowd" "LRailOfHeads$Crowd;") ∈ lw_gd := List.mem_filter.mpr ⟨List.mem_of_getElem? (i := 346) rfl, rfl⟩
set_option maxRecDepth 100000 in
set_option maxHeartbeats 8000000 in
theorem dxw_347 : (Jvm.Cond.fieldLink "RailOfHeads" (38 : Nat) "RailOfHeads$House" "crowd" "LRailOfHeads$Crowd;") ∈ lw_gd := List.mem_filter.mpr ⟨List.mem_of_getElem? (i := 347) rfl, rfl⟩
set_option maxRecDepth 100000 in
set_option maxHeartbeats 8000000 in
theorem dxw_356 : (Jvm.Cond.classLink "RailOfHeads" (36 : Nat) "RailOfHeads$Asks") ∈ lw_gd := List.mem_filter.mpr ⟨List.mem_of_getElem? (i := 356) rfl, rfl⟩
set_option maxRecDepth 100000 in
set_option maxHeartbeats 8000000 in
theorem dxw_357 : (Jvm.Cond.instantiable "RailOfHeads$Asks" (3 : Nat)) ∈ lw_gd := List.mem_filter.mpr ⟨List.mem_of_getElem? (i := 357) rfl, rfl⟩
set_option maxRecDepth 100000 in
set_option maxHeartbeats 8000000 in
theorem dxw_358 : (Jvm.Cond.methodLink "RailOfHeads" (42 : Nat) ({ cls := "RailOfHeads$Asks", name := "<init>", desc := "(LRailOfHeads$Crowd;)V" } : Jvm.MethodName)) ∈ lw_gd := List.mem_filter.mpr ⟨List.mem_of_getElem? (i := 358) rfl, rfl⟩
set_option maxRecDepth 100000 in
set_option maxHeartbeats 8000000 in
theorem dxw_359 : (Jvm.Cond.instanceMethod ({ cls := "RailOfHeads$Asks", name := "<init>", desc := "(LRailOfHeads$Crowd;)V" } : Jvm.MethodName)) ∈ lw_gd := List.mem_filter.mpr ⟨List.mem_of_getElem? (i := 359) rfl, rfl⟩
set_option maxRecDepth 100000 in
set_option maxHeartbeats 8000000 in
theorem dxw_361 : (Jvm.Cond.methodLink "RailOfHeads$Asks" (3 : Nat) ({ cls := "java/lang/Object", name := "<init>", desc := "()V" } : Jvm.MethodName)) ∈ lw_gd := List.mem_filter.mpr ⟨List.mem_of_getElem? (i := 361) rfl, rfl⟩
set_option maxRecDepth 100000 in
set_option maxHeartbeats 8000000 in
theorem dxw_362 : (Jvm.Cond.fieldLink "RailOfHeads$Asks" (15 : Nat) "RailOfHeads$Asks" "crowd" "LRailOfHeads$Crowd;") ∈ lw_gd := List.mem_filter.mpr ⟨List.mem_of_getElem? (i := 362) rfl, rfl⟩
set_option maxRecDepth 100000 in
set_option maxHeartbeats 8000000 in
theorem dxw_363 : (Jvm.Cond.fieldLink "RailOfHeads$Asks" (9 : Nat) "RailOfHeads$Asks" "bodies" "[I") ∈ lw_gd := List.mem_filter.mpr ⟨List.mem_of_getElem? (i := 363) rfl, rfl⟩
set_option maxRecDepth 100000 in
set_option maxHeartbeats 8000000 in
theorem dxw_374 : (Jvm.Cond.instantiable "RailOfHeads$Row" (4 : Nat)) ∈ lw_gd := List.mem_filter.mpr ⟨List.mem_of_getElem? (i := 374) rfl, rfl⟩
set_option maxRecDepth 100000 in
set_option maxHeartbeats 8000000 in
theorem dxw_376 : (Jvm.Cond.instanceMethod ({ cls := "RailOfHeads$Row", name := "<init>", desc := "()V" } : Jvm.MethodName)) ∈ lw_gd := List.mem_filter.mpr ⟨List.mem_of_getElem? (i := 376) rfl, rfl⟩
set_option maxRecDepth 100000 in
set_option maxHeartbeats 8000000 in
theorem dxw_378 : (Jvm.Cond.methodLink "RailOfHeads$Row" (3 : Nat) ({ cls := "java/lang/Object", name := "<init>", desc := "()V" } : Jvm.MethodName)) ∈ lw_gd := List.mem_filter.mpr ⟨List.mem_of_getElem? (i := 378) rfl, rfl⟩
set_option maxRecDepth 100000 in
set_option maxHeartbeats 8000000 in
theorem dxw_379 : (Jvm.Cond.fieldLink "RailOfHeads$Row" (9 : Nat) "RailOfHeads$Row" "items" "[I") ∈ lw_gd := List.mem_filter.mpr ⟨List.mem_of_getElem? (i := 379) rfl, rfl⟩
set_option maxRecDepth 100000 in
set_option maxHeartbeats 8000000 in
theorem dxw_381 : (Jvm.Cond.fieldLink "RailOfHeads$Row" (15 : Nat) "RailOfHeads$Row" "missing" "Z") ∈ lw_gd := List.mem_filter.mpr ⟨List.mem_of_getElem? (i := 381) rfl, rfl⟩
set_option maxRecDepth 100000 in
set_option maxHeartbeats 8000000 in
theorem dxw_396 : (Jvm.Cond.fieldLink "RailOfHeads" (11 : Nat) "RailOfHeads" "rows" "[LRailOfHeads$Row;") ∈ lw_gd := List.mem_filter.mpr ⟨List.mem_of_getElem? (i := 396) rfl, rfl⟩
set_option maxRecDepth 100000 in
set_option maxHeartbeats 8000000 in
theorem dxw_397 : (Jvm.Cond.fieldLink "RailOfHeads" (18 : Nat) "RailOfHeads" "reader" "LRailOfHeads$Reader;") ∈ lw_gd := List.mem_filter.mpr ⟨List.mem_of_getElem? (i := 397) rfl, rfl⟩
set_option maxRecDepth 100000 in
set_option maxHeartbeats 8000000 in
theorem dxw_398 : (Jvm.Cond.fieldLink "RailOfHeads" (25 : Nat) "RailOfHeads" "live" "LRailOfHeads$House;") ∈ lw_gd := List.mem_filter.mpr ⟨List.mem_of_getElem? (i := 398) rfl, rfl⟩
set_option maxRecDepth 100000 in
set_option maxHeartbeats 8000000 in
theorem dxw_399 : (Jvm.Cond.fieldLink "RailOfHeads" (29 : Nat) "RailOfHeads" "trial" "LRailOfHeads$House;") ∈ lw_gd := List.mem_filter.mpr ⟨List.mem_of_getElem? (i := 399) rfl, rfl⟩
set_option maxRecDepth 100000 in
set_option maxHeartbeats 8000000 in
theorem dxw_400 : (Jvm.Cond.fieldLink "RailOfHeads" (32 : Nat) "RailOfHeads" "images" "[LRailOfHeads$House;") ∈ lw_gd := List.mem_filter.mpr ⟨List.mem_of_getElem? (i := 400) rfl, rfl⟩
set_option maxRecDepth 100000 in
set_option maxHeartbeats 8000000 in
theorem dxw_401 : (Jvm.Cond.fieldLink "RailOfHeads" (45 : Nat) "RailOfHeads" "asks" "LRailOfHeads$Asks;") ∈ lw_gd := List.mem_filter.mpr ⟨List.mem_of_getElem? (i := 401) rfl, rfl⟩
set_option maxRecDepth 100000 in
set_option maxHeartbeats 8000000 in
theorem dxw_402 : (Jvm.Cond.fieldLink "RailOfHeads" (49 : Nat) "RailOfHeads" "hanging" "[I") ∈ lw_gd := List.mem_filter.mpr ⟨List.mem_of_getElem? (i := 402) rfl, rfl⟩
set_option maxRecDepth 100000 in
set_option maxHeartbeats 8000000 in
theorem dxw_403 : (Jvm.Cond.fieldLink "RailOfHeads" (53 : Nat) "RailOfHeads" "bestHanging" "[I") ∈ lw_gd := List.mem_filter.mpr ⟨List.mem_of_getElem? (i := 403) rfl, rfl⟩
set_option maxRecDepth 100000 in
set_option maxHeartbeats 8000000 in
theorem dxw_925 : (Jvm.Cond.classLink "RailOfHeadsLaw" (10 : Nat) "RailOfHeadsModel") ∈ lw_gd := List.mem_filter.mpr ⟨List.mem_of_getElem? (i := 925) rfl, rfl⟩
set_option maxRecDepth 100000 in
set_option maxHeartbeats 8000000 in
theorem dxw_926 : (Jvm.Cond.instantiable "RailOfHeadsModel" (33 : Nat)) ∈ lw_gd := List.mem_filter.mpr ⟨List.mem_of_getElem? (i := 926) rfl, rfl⟩
set_option maxRecDepth 100000 in
set_option maxHeartbeats 8000000 in
theorem dxw_927 : (Jvm.Cond.methodLink "RailOfHeadsLaw" (12 : Nat) ({ cls := "RailOfHeadsModel", name := "<init>", desc := "()V" } : Jvm.MethodName)) ∈ lw_gd := List.mem_filter.mpr ⟨List.mem_of_getElem? (i := 927) rfl, rfl⟩
set_option maxRecDepth 100000 in
set_option maxHeartbeats 8000000 in
theorem dxw_928 : (Jvm.Cond.instanceMethod ({ cls := "RailOfHeadsModel", name := "<init>", desc := "()V" } : Jvm.MethodName)) ∈ lw_gd := List.mem_filter.mpr ⟨List.mem_of_getElem? (i := 928) rfl, rfl⟩
set_option maxRecDepth 100000 in
set_option maxHeartbeats 8000000 in
theorem dxw_930 : (Jvm.Cond.methodLink "RailOfHeadsModel" (1 : Nat) ({ cls := "java/lang/Object", name := "<init>", desc := "()V" } : Jvm.MethodName)) ∈ lw_gd := List.mem_filter.mpr ⟨List.mem_of_getElem? (i := 930) rfl, rfl⟩
set_option maxRecDepth 100000 in
set_option maxHeartbeats 8000000 in
theorem dxw_933 : (Jvm.Cond.fieldLink "RailOfHeadsModel" (7 : Nat) "RailOfHeadsModel" "lane" "[I") ∈ lw_gd := List.mem_filter.mpr ⟨List.mem_of_getElem? (i := 933) rfl, rfl⟩
set_option maxRecDepth 100000 in
set_option maxHeartbeats 8000000 in
theorem dxw_934 : (Jvm.Cond.fieldLink "RailOfHeadsModel" (13 : Nat) "RailOfHeadsModel" "many" "[I") ∈ lw_gd := List.mem_filter.mpr ⟨List.mem_of_getElem? (i := 934) rfl, rfl⟩
set_option maxRecDepth 100000 in
set_option maxHeartbeats 8000000 in
theorem dxw_935 : (Jvm.Cond.fieldLink "RailOfHeadsModel" (16 : Nat) "RailOfHeadsModel" "item" "[I") ∈ lw_gd := List.mem_filter.mpr ⟨List.mem_of_getElem? (i := 935) rfl, rfl⟩
set_option maxRecDepth 100000 in
set_option maxHeartbeats 8000000 in
theorem dxw_936 : (Jvm.Cond.fieldLink "RailOfHeadsModel" (19 : Nat) "RailOfHeadsModel" "house" "[I") ∈ lw_gd := List.mem_filter.mpr ⟨List.mem_of_getElem? (i := 936) rfl, rfl⟩
set_option maxRecDepth 100000 in
set_option maxHeartbeats 8000000 in
theorem dxw_937 : (Jvm.Cond.fieldLink "RailOfHeadsModel" (22 : Nat) "RailOfHeadsModel" "fresh" "[I") ∈ lw_gd := List.mem_filter.mpr ⟨List.mem_of_getElem? (i := 937) rfl, rfl⟩
set_option maxRecDepth 100000 in
set_option maxHeartbeats 8000000 in
theorem dxw_939 : (Jvm.Cond.fieldLink "RailOfHeadsModel" (25 : Nat) "RailOfHeadsModel" "now" "[I") ∈ lw_gd := List.mem_filter.mpr ⟨List.mem_of_getElem? (i := 939) rfl, rfl⟩
set_option maxRecDepth 100000 in
set_option maxHeartbeats 8000000 in
theorem dxw_940 : (Jvm.Cond.fieldLink "RailOfHeadsModel" (28 : Nat) "RailOfHeadsModel" "day" "[I") ∈ lw_gd := List.mem_filter.mpr ⟨List.mem_of_getElem? (i := 940) rfl, rfl⟩
set_option maxRecDepth 100000 in
set_option maxHeartbeats 8000000 in
theorem dxw_941 : (Jvm.Cond.fieldLink "RailOfHeadsModel" (31 : Nat) "RailOfHeadsModel" "tape" "[I") ∈ lw_gd := List.mem_filter.mpr ⟨List.mem_of_getElem? (i := 941) rfl, rfl⟩
set_option maxRecDepth 100000 in
set_option maxHeartbeats 8000000 in
theorem dxw_951 : (Jvm.Cond.fieldLink "RailOfHeadsModel" (34 : Nat) "RailOfHeadsModel" "far" "[I") ∈ lw_gd := List.mem_filter.mpr ⟨List.mem_of_getElem? (i := 951) rfl, rfl⟩
set_option maxRecDepth 100000 in
set_option maxHeartbeats 8000000 in
theorem dxw_952 : (Jvm.Cond.fieldLink "RailOfHeadsModel" (37 : Nat) "RailOfHeadsModel" "lawForAll" "I") ∈ lw_gd := List.mem_filter.mpr ⟨List.mem_of_getElem? (i := 952) rfl, rfl⟩
set_option maxRecDepth 100000 in
set_option maxHeartbeats 8000000 in
theorem dxw_953 : (Jvm.Cond.fieldLink "RailOfHeadsModel" (41 : Nat) "RailOfHeadsModel" "copied" "I") ∈ lw_gd := List.mem_filter.mpr ⟨List.mem_of_getElem? (i := 953) rfl, rfl⟩
set_option maxRecDepth 100000 in
set_option maxHeartbeats 8000000 in
theorem dxw_954 : (Jvm.Cond.fieldLink "RailOfHeadsModel" (44 : Nat) "RailOfHeadsModel" "gonePicture" "I") ∈ lw_gd := List.mem_filter.mpr ⟨List.mem_of_getElem? (i := 954) rfl, rfl⟩
set_option maxRecDepth 100000 in
set_option maxHeartbeats 8000000 in
theorem dxw_955 : (Jvm.Cond.fieldLink "RailOfHeadsModel" (47 : Nat) "RailOfHeadsModel" "heads" "[I") ∈ lw_gd := List.mem_filter.mpr ⟨List.mem_of_getElem? (i := 955) rfl, rfl⟩
set_option maxRecDepth 100000 in
set_option maxHeartbeats 8000000 in
theorem dxw_956 : (Jvm.Cond.fieldLink "RailOfHeadsModel" (50 : Nat) "RailOfHeadsModel" "hangs" "[I") ∈ lw_gd := List.mem_filter.mpr ⟨List.mem_of_getElem? (i := 956) rfl, rfl⟩
set_option maxRecDepth 100000 in
set_option maxHeartbeats 8000000 in
theorem dxw_957 : (Jvm.Cond.fieldLink "RailOfHeadsModel" (53 : Nat) "RailOfHeadsModel" "bestHung" "[I") ∈ lw_gd := List.mem_filter.mpr ⟨List.mem_of_getElem? (i := 957) rfl, rfl⟩
set_option maxRecDepth 100000 in
set_option maxHeartbeats 8000000 in
theorem dxw_959 : (Jvm.Cond.fieldLink "RailOfHeadsModel" (56 : Nat) "RailOfHeadsModel" "isKept" "[Z") ∈ lw_gd := List.mem_filter.mpr ⟨List.mem_of_getElem? (i := 959) rfl, rfl⟩
set_option maxRecDepth 100000 in
set_option maxHeartbeats 8000000 in
theorem dxw_960 : (Jvm.Cond.fieldLink "RailOfHeadsModel" (60 : Nat) "RailOfHeadsModel" "keptHouse" "[I") ∈ lw_gd := List.mem_filter.mpr ⟨List.mem_of_getElem? (i := 960) rfl, rfl⟩
set_option maxRecDepth 100000 in
set_option maxHeartbeats 8000000 in
theorem dxw_961 : (Jvm.Cond.fieldLink "RailOfHeadsModel" (63 : Nat) "RailOfHeadsModel" "keptNow" "[I") ∈ lw_gd := List.mem_filter.mpr ⟨List.mem_of_getElem? (i := 961) rfl, rfl⟩
set_option maxRecDepth 100000 in
set_option maxHeartbeats 8000000 in
theorem dxw_962 : (Jvm.Cond.fieldLink "RailOfHeadsModel" (66 : Nat) "RailOfHeadsModel" "trace" "[I") ∈ lw_gd := List.mem_filter.mpr ⟨List.mem_of_getElem? (i := 962) rfl, rfl⟩
set_option maxRecDepth 100000 in
set_option maxHeartbeats 8000000 in
theorem dxw_1031 : (Jvm.Cond.arrayClass Jvm.ClassFile.FieldType.boolean) ∈ lw_gd := List.mem_filter.mpr ⟨List.mem_of_getElem? (i := 1031) rfl, rfl⟩
