/-! A builder begins; a text is made of it. -/
theorem dJ5_init_d00df_0 : decode cJ5_init_d00df 0 = .ok (.aload_n 0, 1) := by decide +kernel
theorem dJ5_init_d00df_1 : decode cJ5_init_d00df 1 = .ok (.invokespecial 3, 3) := by decide +kernel
theorem dJ5_init_d00df_4 : decode cJ5_init_d00df 4 = .ok (.getstatic 18, 3) := by decide +kernel
theorem dJ5_init_d00df_7 : decode cJ5_init_d00df 7 = .ok (.ifCond .eq 18, 3) := by decide +kernel
theorem dJ5_init_d00df_10 : decode cJ5_init_d00df 10 = .ok (.aload_n 0, 1) := by decide +kernel
theorem dJ5_init_d00df_11 : decode cJ5_init_d00df 11 = .ok (.iload_n 1, 1) := by decide +kernel
theorem dJ5_init_d00df_12 : decode cJ5_init_d00df 12 = .ok (.newarray .byte, 2) := by decide +kernel
theorem dJ5_init_d00df_14 : decode cJ5_init_d00df 14 = .ok (.putfield 15, 3) := by decide +kernel
theorem dJ5_init_d00df_17 : decode cJ5_init_d00df 17 = .ok (.aload_n 0, 1) := by decide +kernel
theorem dJ5_init_d00df_18 : decode cJ5_init_d00df 18 = .ok (.iconst 0, 1) := by decide +kernel
theorem dJ5_init_d00df_19 : decode cJ5_init_d00df 19 = .ok (.putfield 22, 3) := by decide +kernel
theorem dJ5_init_d00df_22 : decode cJ5_init_d00df 22 = .ok (.goto 16, 3) := by decide +kernel
theorem dJ5_init_d00df_25 : decode cJ5_init_d00df 25 = .ok (.aload_n 0, 1) := by decide +kernel
theorem dJ5_init_d00df_26 : decode cJ5_init_d00df 26 = .ok (.iload_n 1, 1) := by decide +kernel
theorem dJ5_init_d00df_27 : decode cJ5_init_d00df 27 = .ok (.invokestatic 26, 3) := by decide +kernel
theorem dJ5_init_d00df_30 : decode cJ5_init_d00df 30 = .ok (.putfield 15, 3) := by decide +kernel
theorem dJ5_init_d00df_33 : decode cJ5_init_d00df 33 = .ok (.aload_n 0, 1) := by decide +kernel
theorem dJ5_init_d00df_34 : decode cJ5_init_d00df 34 = .ok (.iconst 1, 1) := by decide +kernel
theorem dJ5_init_d00df_35 : decode cJ5_init_d00df 35 = .ok (.putfield 22, 3) := by decide +kernel
theorem dJ5_init_d00df_38 : decode cJ5_init_d00df 38 = .ok (.return_, 1) := by decide +kernel
theorem dJ4_init_da8c8_0 : decode cJ4_init_da8c8 0 = .ok (.aload_n 0, 1) := by decide +kernel
theorem dJ4_init_da8c8_1 : decode cJ4_init_da8c8 1 = .ok (.bipush 16, 2) := by decide +kernel
theorem dJ4_init_da8c8_3 : decode cJ4_init_da8c8 3 = .ok (.invokespecial 1, 3) := by decide +kernel
theorem dJ4_init_da8c8_6 : decode cJ4_init_da8c8 6 = .ok (.return_, 1) := by decide +kernel
theorem dJ7_checkLength_df160_0 : decode cJ7_checkLength_df160 0 = .ok (.iload_n 1, 1) := by decide +kernel
theorem dJ7_checkLength_df160_1 : decode cJ7_checkLength_df160 1 = .ok (.iload_n 0, 1) := by decide +kernel
theorem dJ7_checkLength_df160_2 : decode cJ7_checkLength_df160 2 = .ok (.if_icmp .ge 35, 3) := by decide +kernel
theorem dJ7_checkLength_df160_5 : decode cJ7_checkLength_df160 5 = .ok (.new 43, 3) := by decide +kernel
theorem dJ7_checkLength_df160_8 : decode cJ7_checkLength_df160 8 = .ok (.dup, 1) := by decide +kernel
theorem dJ7_checkLength_df160_9 : decode cJ7_checkLength_df160 9 = .ok (.new 45, 3) := by decide +kernel
theorem dJ7_checkLength_df160_12 : decode cJ7_checkLength_df160 12 = .ok (.dup, 1) := by decide +kernel
theorem dJ7_checkLength_df160_13 : decode cJ7_checkLength_df160 13 = .ok (.invokespecial 47, 3) := by decide +kernel
theorem dJ7_checkLength_df160_16 : decode cJ7_checkLength_df160 16 = .ok (.iload_n 0, 1) := by decide +kernel
theorem dJ7_checkLength_df160_17 : decode cJ7_checkLength_df160 17 = .ok (.invokevirtual 54, 3) := by decide +kernel
theorem dJ7_checkLength_df160_20 : decode cJ7_checkLength_df160 20 = .ok (.ldc_w 337, 3) := by decide +kernel
theorem dJ7_checkLength_df160_23 : decode cJ7_checkLength_df160 23 = .ok (.invokevirtual 50, 3) := by decide +kernel
theorem dJ7_checkLength_df160_26 : decode cJ7_checkLength_df160 26 = .ok (.iload_n 1, 1) := by decide +kernel
theorem dJ7_checkLength_df160_27 : decode cJ7_checkLength_df160 27 = .ok (.invokevirtual 54, 3) := by decide +kernel
theorem dJ7_checkLength_df160_30 : decode cJ7_checkLength_df160 30 = .ok (.invokevirtual 61, 3) := by decide +kernel
theorem dJ7_checkLength_df160_33 : decode cJ7_checkLength_df160 33 = .ok (.invokespecial 65, 3) := by decide +kernel
theorem dJ7_checkLength_df160_36 : decode cJ7_checkLength_df160 36 = .ok (.athrow, 1) := by decide +kernel
theorem dJ7_checkLength_df160_37 : decode cJ7_checkLength_df160 37 = .ok (.return_, 1) := by decide +kernel
theorem dJ7_copyOfRangeByte_39247_0 : decode cJ7_copyOfRangeByte_39247 0 = .ok (.iload_n 1, 1) := by decide +kernel
theorem dJ7_copyOfRangeByte_39247_1 : decode cJ7_copyOfRangeByte_39247 1 = .ok (.iload_n 2, 1) := by decide +kernel
theorem dJ7_copyOfRangeByte_39247_2 : decode cJ7_copyOfRangeByte_39247 2 = .ok (.invokestatic 343, 3) := by decide +kernel
theorem dJ7_copyOfRangeByte_39247_5 : decode cJ7_copyOfRangeByte_39247 5 = .ok (.iload_n 2, 1) := by decide +kernel
theorem dJ7_copyOfRangeByte_39247_6 : decode cJ7_copyOfRangeByte_39247 6 = .ok (.iload_n 1, 1) := by decide +kernel
theorem dJ7_copyOfRangeByte_39247_7 : decode cJ7_copyOfRangeByte_39247 7 = .ok (.isub, 1) := by decide +kernel
theorem dJ7_copyOfRangeByte_39247_8 : decode cJ7_copyOfRangeByte_39247 8 = .ok (.istore_n 3, 1) := by decide +kernel
theorem dJ7_copyOfRangeByte_39247_9 : decode cJ7_copyOfRangeByte_39247 9 = .ok (.iload_n 3, 1) := by decide +kernel
theorem dJ7_copyOfRangeByte_39247_10 : decode cJ7_copyOfRangeByte_39247 10 = .ok (.newarray .byte, 2) := by decide +kernel
theorem dJ7_copyOfRangeByte_39247_12 : decode cJ7_copyOfRangeByte_39247 12 = .ok (.astore 4, 2) := by decide +kernel
theorem dJ7_copyOfRangeByte_39247_14 : decode cJ7_copyOfRangeByte_39247 14 = .ok (.aload_n 0, 1) := by decide +kernel
theorem dJ7_copyOfRangeByte_39247_15 : decode cJ7_copyOfRangeByte_39247 15 = .ok (.iload_n 1, 1) := by decide +kernel
theorem dJ7_copyOfRangeByte_39247_16 : decode cJ7_copyOfRangeByte_39247 16 = .ok (.aload 4, 2) := by decide +kernel
theorem dJ7_copyOfRangeByte_39247_18 : decode cJ7_copyOfRangeByte_39247 18 = .ok (.iconst 0, 1) := by decide +kernel
theorem dJ7_copyOfRangeByte_39247_19 : decode cJ7_copyOfRangeByte_39247 19 = .ok (.aload_n 0, 1) := by decide +kernel
theorem dJ7_copyOfRangeByte_39247_20 : decode cJ7_copyOfRangeByte_39247 20 = .ok (.arraylength, 1) := by decide +kernel
theorem dJ7_copyOfRangeByte_39247_21 : decode cJ7_copyOfRangeByte_39247 21 = .ok (.iload_n 1, 1) := by decide +kernel
theorem dJ7_copyOfRangeByte_39247_22 : decode cJ7_copyOfRangeByte_39247 22 = .ok (.isub, 1) := by decide +kernel
theorem dJ7_copyOfRangeByte_39247_23 : decode cJ7_copyOfRangeByte_39247 23 = .ok (.iload_n 3, 1) := by decide +kernel
theorem dJ7_copyOfRangeByte_39247_24 : decode cJ7_copyOfRangeByte_39247 24 = .ok (.invokestatic 304, 3) := by decide +kernel
theorem dJ7_copyOfRangeByte_39247_27 : decode cJ7_copyOfRangeByte_39247 27 = .ok (.invokestatic 150, 3) := by decide +kernel
theorem dJ7_copyOfRangeByte_39247_30 : decode cJ7_copyOfRangeByte_39247 30 = .ok (.aload 4, 2) := by decide +kernel
theorem dJ7_copyOfRangeByte_39247_32 : decode cJ7_copyOfRangeByte_39247 32 = .ok (.areturn, 1) := by decide +kernel
theorem dJ7_copyOfRange_39247_0 : decode cJ7_copyOfRange_39247 0 = .ok (.iload_n 1, 1) := by decide +kernel
theorem dJ7_copyOfRange_39247_1 : decode cJ7_copyOfRange_39247 1 = .ok (.ifCond .ne 9, 3) := by decide +kernel
theorem dJ7_copyOfRange_39247_4 : decode cJ7_copyOfRange_39247 4 = .ok (.iload_n 2, 1) := by decide +kernel
theorem dJ7_copyOfRange_39247_5 : decode cJ7_copyOfRange_39247 5 = .ok (.aload_n 0, 1) := by decide +kernel
theorem dJ7_copyOfRange_39247_6 : decode cJ7_copyOfRange_39247 6 = .ok (.arraylength, 1) := by decide +kernel
theorem dJ7_copyOfRange_39247_7 : decode cJ7_copyOfRange_39247 7 = .ok (.if_icmp .eq 10, 3) := by decide +kernel
theorem dJ7_copyOfRange_39247_10 : decode cJ7_copyOfRange_39247 10 = .ok (.aload_n 0, 1) := by decide +kernel
theorem dJ7_copyOfRange_39247_11 : decode cJ7_copyOfRange_39247 11 = .ok (.iload_n 1, 1) := by decide +kernel
theorem dJ7_copyOfRange_39247_12 : decode cJ7_copyOfRange_39247 12 = .ok (.iload_n 2, 1) := by decide +kernel
theorem dJ7_copyOfRange_39247_13 : decode cJ7_copyOfRange_39247 13 = .ok (.invokestatic 339, 3) := by decide +kernel
theorem dJ7_copyOfRange_39247_16 : decode cJ7_copyOfRange_39247 16 = .ok (.areturn, 1) := by decide +kernel
theorem dJ7_copyOfRange_39247_17 : decode cJ7_copyOfRange_39247 17 = .ok (.aload_n 0, 1) := by decide +kernel
theorem dJ7_copyOfRange_39247_18 : decode cJ7_copyOfRange_39247 18 = .ok (.invokevirtual 310, 3) := by decide +kernel
theorem dJ7_copyOfRange_39247_21 : decode cJ7_copyOfRange_39247 21 = .ok (.checkcast 311, 3) := by decide +kernel
theorem dJ7_copyOfRange_39247_24 : decode cJ7_copyOfRange_39247 24 = .ok (.areturn, 1) := by decide +kernel
theorem dJ0_init_db425_0 : decode cJ0_init_db425 0 = .ok (.aload_n 0, 1) := by decide +kernel
theorem dJ0_init_db425_1 : decode cJ0_init_db425 1 = .ok (.invokespecial 1, 3) := by decide +kernel
theorem dJ0_init_db425_4 : decode cJ0_init_db425 4 = .ok (.aload_n 1, 1) := by decide +kernel
theorem dJ0_init_db425_5 : decode cJ0_init_db425 5 = .ok (.invokevirtual 552, 3) := by decide +kernel
theorem dJ0_init_db425_8 : decode cJ0_init_db425 8 = .ok (.astore_n 3, 1) := by decide +kernel
theorem dJ0_init_db425_9 : decode cJ0_init_db425 9 = .ok (.aload_n 1, 1) := by decide +kernel
theorem dJ0_init_db425_10 : decode cJ0_init_db425 10 = .ok (.invokevirtual 549, 3) := by decide +kernel
theorem dJ0_init_db425_13 : decode cJ0_init_db425 13 = .ok (.istore 4, 2) := by decide +kernel
theorem dJ0_init_db425_15 : decode cJ0_init_db425 15 = .ok (.aload_n 1, 1) := by decide +kernel
theorem dJ0_init_db425_16 : decode cJ0_init_db425 16 = .ok (.invokevirtual 1047, 3) := by decide +kernel
theorem dJ0_init_db425_19 : decode cJ0_init_db425 19 = .ok (.ifCond .eq 22, 3) := by decide +kernel
theorem dJ0_init_db425_22 : decode cJ0_init_db425 22 = .ok (.aload_n 0, 1) := by decide +kernel
theorem dJ0_init_db425_23 : decode cJ0_init_db425 23 = .ok (.iconst 0, 1) := by decide +kernel
theorem dJ0_init_db425_24 : decode cJ0_init_db425 24 = .ok (.putfield 15, 3) := by decide +kernel
theorem dJ0_init_db425_27 : decode cJ0_init_db425 27 = .ok (.aload_n 0, 1) := by decide +kernel
theorem dJ0_init_db425_28 : decode cJ0_init_db425 28 = .ok (.aload_n 3, 1) := by decide +kernel
theorem dJ0_init_db425_29 : decode cJ0_init_db425 29 = .ok (.iconst 0, 1) := by decide +kernel
theorem dJ0_init_db425_30 : decode cJ0_init_db425 30 = .ok (.iload 4, 2) := by decide +kernel
theorem dJ0_init_db425_32 : decode cJ0_init_db425 32 = .ok (.invokestatic 54, 3) := by decide +kernel
theorem dJ0_init_db425_35 : decode cJ0_init_db425 35 = .ok (.putfield 9, 3) := by decide +kernel
theorem dJ0_init_db425_38 : decode cJ0_init_db425 38 = .ok (.goto 59, 3) := by decide +kernel
theorem dJ0_init_db425_41 : decode cJ0_init_db425 41 = .ok (.getstatic 38, 3) := by decide +kernel
theorem dJ0_init_db425_44 : decode cJ0_init_db425 44 = .ok (.ifCond .eq 35, 3) := by decide +kernel
theorem dJ0_init_db425_47 : decode cJ0_init_db425 47 = .ok (.aload_n 1, 1) := by decide +kernel
theorem dJ0_init_db425_48 : decode cJ0_init_db425 48 = .ok (.getfield 1048, 3) := by decide +kernel
theorem dJ0_init_db425_51 : decode cJ0_init_db425 51 = .ok (.ifCond .eq 28, 3) := by decide +kernel
theorem dJ0_init_db425_54 : decode cJ0_init_db425 54 = .ok (.aload_n 0, 1) := by decide +kernel
theorem dJ0_init_db425_55 : decode cJ0_init_db425 55 = .ok (.aload_n 3, 1) := by decide +kernel
theorem dJ0_init_db425_56 : decode cJ0_init_db425 56 = .ok (.iconst 0, 1) := by decide +kernel
theorem dJ0_init_db425_57 : decode cJ0_init_db425 57 = .ok (.iload 4, 2) := by decide +kernel
theorem dJ0_init_db425_59 : decode cJ0_init_db425 59 = .ok (.invokestatic 1051, 3) := by decide +kernel
theorem dJ0_init_db425_62 : decode cJ0_init_db425 62 = .ok (.putfield 9, 3) := by decide +kernel
theorem dJ0_init_db425_65 : decode cJ0_init_db425 65 = .ok (.aload_n 0, 1) := by decide +kernel
theorem dJ0_init_db425_66 : decode cJ0_init_db425 66 = .ok (.aload_n 0, 1) := by decide +kernel
theorem dJ0_init_db425_67 : decode cJ0_init_db425 67 = .ok (.getfield 9, 3) := by decide +kernel
theorem dJ0_init_db425_70 : decode cJ0_init_db425 70 = .ok (.iload 4, 2) := by decide +kernel
theorem dJ0_init_db425_72 : decode cJ0_init_db425 72 = .ok (.invokestatic 47, 3) := by decide +kernel
theorem dJ0_init_db425_75 : decode cJ0_init_db425 75 = .ok (.putfield 15, 3) := by decide +kernel
theorem dJ0_init_db425_78 : decode cJ0_init_db425 78 = .ok (.return_, 1) := by decide +kernel
theorem dJ0_init_db425_79 : decode cJ0_init_db425 79 = .ok (.aload_n 0, 1) := by decide +kernel
theorem dJ0_init_db425_80 : decode cJ0_init_db425 80 = .ok (.iconst 1, 1) := by decide +kernel
theorem dJ0_init_db425_81 : decode cJ0_init_db425 81 = .ok (.putfield 15, 3) := by decide +kernel
theorem dJ0_init_db425_84 : decode cJ0_init_db425 84 = .ok (.aload_n 0, 1) := by decide +kernel
theorem dJ0_init_db425_85 : decode cJ0_init_db425 85 = .ok (.aload_n 3, 1) := by decide +kernel
theorem dJ0_init_db425_86 : decode cJ0_init_db425 86 = .ok (.iconst 0, 1) := by decide +kernel
theorem dJ0_init_db425_87 : decode cJ0_init_db425 87 = .ok (.iload 4, 2) := by decide +kernel
theorem dJ0_init_db425_89 : decode cJ0_init_db425 89 = .ok (.iconst 1, 1) := by decide +kernel
theorem dJ0_init_db425_90 : decode cJ0_init_db425 90 = .ok (.ishl, 1) := by decide +kernel
theorem dJ0_init_db425_91 : decode cJ0_init_db425 91 = .ok (.invokestatic 54, 3) := by decide +kernel
theorem dJ0_init_db425_94 : decode cJ0_init_db425 94 = .ok (.putfield 9, 3) := by decide +kernel
theorem dJ0_init_db425_97 : decode cJ0_init_db425 97 = .ok (.return_, 1) := by decide +kernel
theorem dJ0_init_81219_0 : decode cJ0_init_81219 0 = .ok (.aload_n 0, 1) := by decide +kernel
theorem dJ0_init_81219_1 : decode cJ0_init_81219 1 = .ok (.aload_n 1, 1) := by decide +kernel
theorem dJ0_init_81219_2 : decode cJ0_init_81219 2 = .ok (.aconst_null, 1) := by decide +kernel
theorem dJ0_init_81219_3 : decode cJ0_init_81219 3 = .ok (.invokespecial 489, 3) := by decide +kernel
theorem dJ0_init_81219_6 : decode cJ0_init_81219 6 = .ok (.return_, 1) := by decide +kernel
theorem dJ4_toString_0e30d_0 : decode cJ4_toString_0e30d 0 = .ok (.new 18, 3) := by decide +kernel
theorem dJ4_toString_0e30d_3 : decode cJ4_toString_0e30d 3 = .ok (.dup, 1) := by decide +kernel
theorem dJ4_toString_0e30d_4 : decode cJ4_toString_0e30d 4 = .ok (.aload_n 0, 1) := by decide +kernel
theorem dJ4_toString_0e30d_5 : decode cJ4_toString_0e30d 5 = .ok (.invokespecial 137, 3) := by decide +kernel
theorem dJ4_toString_0e30d_8 : decode cJ4_toString_0e30d 8 = .ok (.areturn, 1) := by decide +kernel
theorem kw_1145 : (Jvm.Cond.methodLink "java/lang/String" (549 : Nat) ({ cls := "java/lang/AbstractStringBuilder", name := "length", desc := "()I" } : Jvm.MethodName)) ∈ zTb := zTb_of 1145 (by decide +kernel) (by decide +kernel)
theorem kw_1148 : (Jvm.Cond.selects "java/lang/StringBuilder" ({ cls := "java/lang/AbstractStringBuilder", name := "length", desc := "()I" } : Jvm.MethodName) ({ cls := "java/lang/StringBuilder", name := "length", desc := "()I" } : Jvm.MethodName)) ∈ zTb := zTb_of 1148 (by decide +kernel) (by decide +kernel)
theorem kw_1149 : (Jvm.Cond.instanceMethod ({ cls := "java/lang/StringBuilder", name := "length", desc := "()I" } : Jvm.MethodName)) ∈ zTb := zTb_of 1149 (by decide +kernel) (by decide +kernel)
theorem kw_15 : (Jvm.Cond.initialized "java/lang/StringBuilder") ∈ zTb := zTb_of 15 (by decide +kernel) (by decide +kernel)
theorem kw_1150 : (Jvm.Cond.code ({ cls := "java/lang/StringBuilder", name := "length", desc := "()I" } : Jvm.MethodName) prog_29_method_93_code (1 : Nat) (Option.some Jvm.ClassFile.FieldType.int)) ∈ zTb := zTb_of 1150 (by decide +kernel) (by decide +kernel)
theorem kw_960 : (Jvm.Cond.methodLink "java/lang/AbstractStringBuilder" (3 : Nat) ({ cls := "java/lang/Object", name := "<init>", desc := "()V" } : Jvm.MethodName)) ∈ zTb := zTb_of 960 (by decide +kernel) (by decide +kernel)
theorem kw_957 : (Jvm.Cond.methodLink "java/lang/StringBuilder" (1 : Nat) ({ cls := "java/lang/AbstractStringBuilder", name := "<init>", desc := "(I)V" } : Jvm.MethodName)) ∈ zTb := zTb_of 957 (by decide +kernel) (by decide +kernel)
theorem kw_958 : (Jvm.Cond.instanceMethod ({ cls := "java/lang/AbstractStringBuilder", name := "<init>", desc := "(I)V" } : Jvm.MethodName)) ∈ zTb := zTb_of 958 (by decide +kernel) (by decide +kernel)
theorem kw_959 : (Jvm.Cond.code ({ cls := "java/lang/AbstractStringBuilder", name := "<init>", desc := "(I)V" } : Jvm.MethodName) prog_14_method_2_code (2 : Nat) (Option.none : Option Jvm.ClassFile.FieldType)) ∈ zTb := zTb_of 959 (by decide +kernel) (by decide +kernel)
theorem hyJ5_init_d00df : yJ5_init_d00df.cls ≠ "java/lang/invoke/MethodHandle" ∧ yJ5_init_d00df.cls ≠ "java/lang/invoke/VarHandle" ∧ (parseMethodDescriptor yJ5_init_d00df.desc).map (fun d => d.parameters.length) = some 1 := ⟨by decide +kernel, by decide +kernel, by decide +kernel⟩
theorem kw_1160 : (Jvm.Cond.methodLink "java/util/Arrays" (343 : Nat) ({ cls := "java/util/Arrays", name := "checkLength", desc := "(II)V" } : Jvm.MethodName)) ∈ zTb := zTb_of 1160 (by decide +kernel) (by decide +kernel)
theorem kw_1162 : (Jvm.Cond.code ({ cls := "java/util/Arrays", name := "checkLength", desc := "(II)V" } : Jvm.MethodName) prog_36_method_131_code (2 : Nat) (Option.none : Option Jvm.ClassFile.FieldType)) ∈ zTb := zTb_of 1162 (by decide +kernel) (by decide +kernel)
theorem kw_1161 : (Jvm.Cond.static ({ cls := "java/util/Arrays", name := "checkLength", desc := "(II)V" } : Jvm.MethodName)) ∈ zTb := zTb_of 1161 (by decide +kernel) (by decide +kernel)
theorem hyJ7_checkLength_df160 : yJ7_checkLength_df160.cls ≠ "java/lang/invoke/MethodHandle" ∧ yJ7_checkLength_df160.cls ≠ "java/lang/invoke/VarHandle" ∧ (parseMethodDescriptor yJ7_checkLength_df160.desc).map (fun d => d.parameters.length) = some 2 := ⟨by decide +kernel, by decide +kernel, by decide +kernel⟩
theorem kw_1016 : (Jvm.Cond.methodLink "java/util/Arrays" (310 : Nat) ({ cls := "[B", name := "clone", desc := "()Ljava/lang/Object;" } : Jvm.MethodName)) ∈ zTb := zTb_of 1016 (by decide +kernel) (by decide +kernel)
theorem kw_1017 : (Jvm.Cond.sameMethod "[B" "java/lang/Object" "clone" "()Ljava/lang/Object;") ∈ zTb := zTb_of 1017 (by decide +kernel) (by decide +kernel)
theorem kw_1018 : (Jvm.Cond.native ({ cls := "java/lang/Object", name := "clone", desc := "()Ljava/lang/Object;" } : Jvm.MethodName)) ∈ zTb := zTb_of 1018 (by decide +kernel) (by decide +kernel)
theorem kw_1019 : (Jvm.Cond.instanceMethod ({ cls := "java/lang/Object", name := "clone", desc := "()Ljava/lang/Object;" } : Jvm.MethodName)) ∈ zTb := zTb_of 1019 (by decide +kernel) (by decide +kernel)
theorem kw_1020 : (Jvm.Cond.selects "[B" ({ cls := "[B", name := "clone", desc := "()Ljava/lang/Object;" } : Jvm.MethodName) ({ cls := "java/lang/Object", name := "clone", desc := "()Ljava/lang/Object;" } : Jvm.MethodName)) ∈ zTb := zTb_of 1020 (by decide +kernel) (by decide +kernel)
theorem kw_1022 : (Jvm.Cond.classLink "java/util/Arrays" (311 : Nat) "[B") ∈ zTb := zTb_of 1022 (by decide +kernel) (by decide +kernel)
theorem kw_1157 : (Jvm.Cond.methodLink "java/util/Arrays" (339 : Nat) ({ cls := "java/util/Arrays", name := "copyOfRangeByte", desc := "([BII)[B" } : Jvm.MethodName)) ∈ zTb := zTb_of 1157 (by decide +kernel) (by decide +kernel)
theorem kw_1159 : (Jvm.Cond.code ({ cls := "java/util/Arrays", name := "copyOfRangeByte", desc := "([BII)[B" } : Jvm.MethodName) prog_36_method_133_code (5 : Nat) (Option.some (Jvm.ClassFile.FieldType.array Jvm.ClassFile.FieldType.byte))) ∈ zTb := zTb_of 1159 (by decide +kernel) (by decide +kernel)
theorem kw_1158 : (Jvm.Cond.static ({ cls := "java/util/Arrays", name := "copyOfRangeByte", desc := "([BII)[B" } : Jvm.MethodName)) ∈ zTb := zTb_of 1158 (by decide +kernel) (by decide +kernel)
theorem hyJ7_copyOfRangeByte_39247 : yJ7_copyOfRangeByte_39247.cls ≠ "java/lang/invoke/MethodHandle" ∧ yJ7_copyOfRangeByte_39247.cls ≠ "java/lang/invoke/VarHandle" ∧ (parseMethodDescriptor yJ7_copyOfRangeByte_39247.desc).map (fun d => d.parameters.length) = some 3 := ⟨by decide +kernel, by decide +kernel, by decide +kernel⟩
theorem kw_1139 : (Jvm.Cond.methodLink "java/lang/String" (1 : Nat) ({ cls := "java/lang/Object", name := "<init>", desc := "()V" } : Jvm.MethodName)) ∈ zTb := zTb_of 1139 (by decide +kernel) (by decide +kernel)
theorem kw_1140 : (Jvm.Cond.methodLink "java/lang/String" (552 : Nat) ({ cls := "java/lang/AbstractStringBuilder", name := "getValue", desc := "()[B" } : Jvm.MethodName)) ∈ zTb := zTb_of 1140 (by decide +kernel) (by decide +kernel)
theorem kw_1141 : (Jvm.Cond.instanceMethod ({ cls := "java/lang/AbstractStringBuilder", name := "getValue", desc := "()[B" } : Jvm.MethodName)) ∈ zTb := zTb_of 1141 (by decide +kernel) (by decide +kernel)
theorem kw_1143 : (Jvm.Cond.selects "java/lang/StringBuilder" ({ cls := "java/lang/AbstractStringBuilder", name := "getValue", desc := "()[B" } : Jvm.MethodName) ({ cls := "java/lang/AbstractStringBuilder", name := "getValue", desc := "()[B" } : Jvm.MethodName)) ∈ zTb := zTb_of 1143 (by decide +kernel) (by decide +kernel)
theorem kw_1144 : (Jvm.Cond.code ({ cls := "java/lang/AbstractStringBuilder", name := "getValue", desc := "()[B" } : Jvm.MethodName) prog_14_method_64_code (1 : Nat) (Option.some (Jvm.ClassFile.FieldType.array Jvm.ClassFile.FieldType.byte))) ∈ zTb := zTb_of 1144 (by decide +kernel) (by decide +kernel)
theorem hyJ5_getValue_6d5f1 : yJ5_getValue_6d5f1.cls ≠ "java/lang/invoke/MethodHandle" ∧ yJ5_getValue_6d5f1.cls ≠ "java/lang/invoke/VarHandle" ∧ (parseMethodDescriptor yJ5_getValue_6d5f1.desc).map (fun d => d.parameters.length) = some 0 := ⟨by decide +kernel, by decide +kernel, by decide +kernel⟩
theorem kw_1153 : (Jvm.Cond.methodLink "java/lang/String" (1047 : Nat) ({ cls := "java/lang/AbstractStringBuilder", name := "isLatin1", desc := "()Z" } : Jvm.MethodName)) ∈ zTb := zTb_of 1153 (by decide +kernel) (by decide +kernel)
theorem kw_1154 : (Jvm.Cond.methodLink "java/lang/String" (54 : Nat) ({ cls := "java/util/Arrays", name := "copyOfRange", desc := "([BII)[B" } : Jvm.MethodName)) ∈ zTb := zTb_of 1154 (by decide +kernel) (by decide +kernel)
theorem kw_1156 : (Jvm.Cond.code ({ cls := "java/util/Arrays", name := "copyOfRange", desc := "([BII)[B" } : Jvm.MethodName) prog_36_method_132_code (3 : Nat) (Option.some (Jvm.ClassFile.FieldType.array Jvm.ClassFile.FieldType.byte))) ∈ zTb := zTb_of 1156 (by decide +kernel) (by decide +kernel)
theorem kw_1155 : (Jvm.Cond.static ({ cls := "java/util/Arrays", name := "copyOfRange", desc := "([BII)[B" } : Jvm.MethodName)) ∈ zTb := zTb_of 1155 (by decide +kernel) (by decide +kernel)
theorem hyJ7_copyOfRange_39247 : yJ7_copyOfRange_39247.cls ≠ "java/lang/invoke/MethodHandle" ∧ yJ7_copyOfRange_39247.cls ≠ "java/lang/invoke/VarHandle" ∧ (parseMethodDescriptor yJ7_copyOfRange_39247.desc).map (fun d => d.parameters.length) = some 3 := ⟨by decide +kernel, by decide +kernel, by decide +kernel⟩
theorem kw_1136 : (Jvm.Cond.methodLink "java/lang/String" (489 : Nat) ({ cls := "java/lang/String", name := "<init>", desc := "(Ljava/lang/AbstractStringBuilder;Ljava/lang/Void;)V" } : Jvm.MethodName)) ∈ zTb := zTb_of 1136 (by decide +kernel) (by decide +kernel)
theorem kw_1137 : (Jvm.Cond.instanceMethod ({ cls := "java/lang/String", name := "<init>", desc := "(Ljava/lang/AbstractStringBuilder;Ljava/lang/Void;)V" } : Jvm.MethodName)) ∈ zTb := zTb_of 1137 (by decide +kernel) (by decide +kernel)
theorem kw_1138 : (Jvm.Cond.code ({ cls := "java/lang/String", name := "<init>", desc := "(Ljava/lang/AbstractStringBuilder;Ljava/lang/Void;)V" } : Jvm.MethodName) prog_28_method_150_code (5 : Nat) (Option.none : Option Jvm.ClassFile.FieldType)) ∈ zTb := zTb_of 1138 (by decide +kernel) (by decide +kernel)
theorem hyJ0_init_db425 : yJ0_init_db425.cls ≠ "java/lang/invoke/MethodHandle" ∧ yJ0_init_db425.cls ≠ "java/lang/invoke/VarHandle" ∧ (parseMethodDescriptor yJ0_init_db425.desc).map (fun d => d.parameters.length) = some 2 := ⟨by decide +kernel, by decide +kernel, by decide +kernel⟩
theorem kw_1131 : (Jvm.Cond.classLink "java/lang/StringBuilder" (18 : Nat) "java/lang/String") ∈ zTb := zTb_of 1131 (by decide +kernel) (by decide +kernel)
theorem kw_1132 : (Jvm.Cond.instantiable "java/lang/String" (4 : Nat)) ∈ zTb := zTb_of 1132 (by decide +kernel) (by decide +kernel)
theorem kw_1133 : (Jvm.Cond.methodLink "java/lang/StringBuilder" (137 : Nat) ({ cls := "java/lang/String", name := "<init>", desc := "(Ljava/lang/StringBuilder;)V" } : Jvm.MethodName)) ∈ zTb := zTb_of 1133 (by decide +kernel) (by decide +kernel)
theorem kw_1134 : (Jvm.Cond.instanceMethod ({ cls := "java/lang/String", name := "<init>", desc := "(Ljava/lang/StringBuilder;)V" } : Jvm.MethodName)) ∈ zTb := zTb_of 1134 (by decide +kernel) (by decide +kernel)
theorem kw_1135 : (Jvm.Cond.code ({ cls := "java/lang/String", name := "<init>", desc := "(Ljava/lang/StringBuilder;)V" } : Jvm.MethodName) prog_28_method_53_code (2 : Nat) (Option.none : Option Jvm.ClassFile.FieldType)) ∈ zTb := zTb_of 1135 (by decide +kernel) (by decide +kernel)
theorem hyJ0_init_81219 : yJ0_init_81219.cls ≠ "java/lang/invoke/MethodHandle" ∧ yJ0_init_81219.cls ≠ "java/lang/invoke/VarHandle" ∧ (parseMethodDescriptor yJ0_init_81219.desc).map (fun d => d.parameters.length) = some 1 := ⟨by decide +kernel, by decide +kernel, by decide +kernel⟩








section ZR
variable {p : Program} {l : Launch} {e : Env} {R : Room} {s : State} {m : MethodId} {args : Array Value} {below : List Frame} {meth : Method} {c : Code} {cells slots : Nat} {Q : State → Prop} {D : va_G} {Ca : Nat → ClassId} {B nL : Nat} {En : State → Prop} {cc : ByteArray} {own : String} {σ : zS} {N pc : Nat} {lv : List (Nat × Value)} {st : List Value}
theorem z_castB (C : zC p s m args meth c cc own nL D Ca B En) {index a : Nat} (hlink : Cond.classLink own index "[B" ∈ zTb) (hk : (σ.1 a).1 = 2) (hd : decode cc pc = .ok (.checkcast index, 3)) (kk : zW p l e R s m args below meth c (cells) (slots) Q D Ca B nL σ (N) (pc + 3) (lv) (.ref a :: st)) : zW p l e R s m args below meth c (cells) (slots) Q D Ca B nL σ (N) (pc) (lv) (.ref a :: st) := fun H locs ls h hS hl => by
  have hA := h.2.2 a _ (zent_2 (Ca := Ca) hk)
  have hc0 : H[a]? = some (vp_cell (Ca 2) ((σ.1 a).2, .inl (σ.2.1 a))) := hA.2
  exact va_castE C.1 C.2.1 C.2.2.2.2.1 (C.2.2.2.1 _ hlink) ⟨_, hc0, rfl, (C.2.2.2.2.2.1.2 1 _ rfl).2⟩ hd (kk H locs ls h hS hl)
end ZR
theorem gO_length : GoodIn zTb (va_wsO "java/lang/String" 549 "java/lang/StringBuilder" "java/lang/AbstractStringBuilder" yJ5_length_8abf5 yJ4_length_8abf5 (zWs yJ4_length_8abf5 cJ4_length_8abf5 1 (Option.some Jvm.ClassFile.FieldType.int))) := fun w hw => by
  rcases List.mem_append.mp hw with hw | hw
  · simp only [List.mem_cons, List.not_mem_nil, or_false] at hw
    rcases hw with rfl | rfl | rfl | rfl | rfl | rfl
    · exact ⟨kw_1145, zTb_good _ kw_1145⟩
    · exact ⟨kw_1147, zTb_good _ kw_1147⟩
    · exact ⟨kw_1146, zTb_good _ kw_1146⟩
    · exact ⟨kw_1148, zTb_good _ kw_1148⟩
    · exact ⟨kw_1149, zTb_good _ kw_1149⟩
    · exact ⟨kw_15, zTb_good _ kw_15⟩
  · exact zGood kw_1150 w hw
section MK
variable {D : va_G} {Ca : Nat → ClassId} {B : Nat} {En : State → Prop} {b da cap lo sa : Nat} {tx : List Int32}
theorem nJ5_init (l : Launch) (hE : zEk B En) (ev : zEv) (hZ : ∀ U : State, En U → zEnv ev B U) (σ : zS) (N : Nat) (hb : (σ.1 b).1 = 15) (hN : b < N) : zMn l D Ca B En yJ5_init_d00df cJ5_init_d00df 2 1 20 1 16 [.ref b, .int (zi 16)] σ N (zuI (zuR (znew σ N (2, 16)) b 0 (some N)) b 1 (zi 0)) := by
  refine zMet_n (own := RJ5) hE (by decide +kernel) rfl rfl (Nat.le_of_ble_eq_true rfl) (fun p e s m args below meth c C hr hi => ?_)
  refine z_aload_n C dJ5_init_d00df_0 rfl 0 rfl ?_
  refine z_objInit C kw_960 kw_37 kw_38 (Nat.le_of_ble_eq_true rfl) (Nat.le_of_ble_eq_true rfl) (Nat.le_of_ble_eq_true rfl) dJ5_init_d00df_1 ?_
  refine z_gsC C ev hZ kw_961 dJ5_init_d00df_4 ?_
  refine z_if_eq C 25 dJ5_init_d00df_7 (by decide) (fun q => absurd q (by decide)) (fun _ => ?_)
  refine z_aload_n C dJ5_init_d00df_10 rfl 0 rfl ?_
  refine z_iload_n C dJ5_init_d00df_11 rfl 1 rfl ?_
  refine z_newB (n9 := 16) C kw_55 (by decide +kernel) (by decide +kernel) (Nat.le_of_ble_eq_true rfl) (Nat.le_of_ble_eq_true rfl) (Nat.le_of_ble_eq_true rfl) dJ5_init_d00df_12 ?_
  have kb : ((znew σ N (2, 16)).1 b).1 = 15 := by rw [(znew_o (σ := σ) (q := (2, 16)) (by omega)).1]; exact hb
  refine z_put (ty := .array .byte) (τ := zuR (znew σ N (2, 16)) b 0 (some N)) (Cn := RS10) (T := TS10) (Nf := 4) (k := 10) (j := 0) C rfl rfl zin_10 (by decide) kw_969 rfl tyS10 tyS10_ok nmS10 rfl (by decide +kernel) rfl rfl kb kb (zfs_setR _ b (some N) rfl) (fun b hb => zuR_off hb) dJ5_init_d00df_14 ?_
  refine z_aload_n C dJ5_init_d00df_17 rfl 0 rfl ?_
  refine z_iconst C (zi 0) dJ5_init_d00df_18 (by decide) ?_
  refine z_put (ty := .byte) (τ := zuI (zuR (znew σ N (2, 16)) b 0 (some N)) b 1 (zi 0)) (Cn := RS10) (T := TS10) (Nf := 4) (k := 10) (j := 1) C rfl rfl zin_10 (by decide) kw_970 rfl tyS10 tyS10_ok nmS10 rfl (by decide +kernel) (by decide) (by decide) kb kb (zfs_setI _ b (zi 0) rfl) (fun b hb => zuI_off hb) dJ5_init_d00df_19 ?_
  refine z_goto C 38 dJ5_init_d00df_22 (by decide) ?_
  exact zfin_n C hr rfl (Nat.le_of_ble_eq_true rfl) (Nat.le_of_ble_eq_true rfl) dJ5_init_d00df_38
theorem nJ4_init (l : Launch) (hE : zEk B En) (ev : zEv) (hZ : ∀ U : State, En U → zEnv ev B U) (σ : zS) (N : Nat) (hb : (σ.1 b).1 = 15) (hN : b < N) : zMn l D Ca B En yJ4_init_da8c8 cJ4_init_da8c8 1 2 41 1 16 [.ref b] σ N (zuI (zuR (znew σ N (2, 16)) b 0 (some N)) b 1 (zi 0)) := by
  refine zMet_n (own := RJ4) hE (by decide +kernel) rfl rfl (Nat.le_of_ble_eq_true rfl) (fun p e s m args below meth c C hr hi => ?_)
  refine z_aload_n C dJ4_init_da8c8_0 rfl 0 rfl ?_
  refine z_bipush C (zi 16) dJ4_init_da8c8_1 (by decide) ?_
  refine z_callN (As := [.int (zi 16)]) C (nJ5_init l C.2.2.2.2.2.2.2.1 ev hZ σ N hb hN) kw_959 kw_14 kw_957 rfl kw_958 hyJ5_init_d00df (Nat.le_of_ble_eq_true rfl) (Nat.le_of_ble_eq_true rfl) rfl rfl (Nat.le_of_ble_eq_true rfl) dJ4_init_da8c8_3 (Nat.le_of_ble_eq_true rfl) (Nat.le_of_ble_eq_true rfl) ?_
  exact zfin_n C hr rfl (Nat.le_of_ble_eq_true rfl) (Nat.le_of_ble_eq_true rfl) dJ4_init_da8c8_6
theorem sb_begin {σ : zS} {N : Nat} (hz : zfree σ N) (hlo : lo ≤ N) : SBn (zuI (zuR (znew (znew σ N (15, 0)) (N + 1) (2, 16)) N 0 (some (N + 1))) N 1 (zi 0)) (N + 2) lo N [] 0 ∧ zeq σ (zuI (zuR (znew (znew σ N (15, 0)) (N + 1) (2, 16)) N 0 (some (N + 1))) N 1 (zi 0)) 0 lo ∧ zfree (zuI (zuR (znew (znew σ N (15, 0)) (N + 1) (2, 16)) N 0 (some (N + 1))) N 1 (zi 0)) (N + 2) := by
  have e1 := znew_o (σ := znew σ N (15, 0)) (N := N + 1) (a := N) (q := (2, 16)) (by omega)
  have e0 : (znew σ N (15, 0)).2.1 N = fun _ => 0 := if_pos rfl
  have e2 : (znew (znew σ N (15, 0)) (N + 1) (2, 16)).2.1 (N + 1) = fun _ => 0 := if_pos rfl
  refine ⟨⟨N + 1, 16, ⟨?_, ?_, ?_, ?_, ?_, Nat.zero_le _, fun i hi => absurd hi (Nat.not_lt_zero _), fun i hi => ?_⟩, Nat.zero_le _, ⟨by omega, by omega⟩, hlo, by omega, by omega, by omega⟩, zeq_tr (zeq_tr (zeq_nw hlo) (zeq_nw (by omega))) (zeq_tr (zeq_uR hlo) (zeq_uI hlo)), zfree_k (zfree_nw (zfree_nw hz)) rfl⟩
  · show ((znew (znew σ N (15, 0)) (N + 1) (2, 16)).1 N).1 = 15
    rw [e1.1, znew_k]
  · show zu _ N 0 (some (N + 1)) N 0 = _
    simp [zu]
  · show zu _ N 1 (zi 0) N 1 = 0
    simp [zu]
    rfl
  · show zu _ N 1 (zi 0) N 3 = _
    have : zu (znew (znew σ N (15, 0)) (N + 1) (2, 16)).2.1 N 1 (zi 0) N 3 = (znew (znew σ N (15, 0)) (N + 1) (2, 16)).2.1 N 3 := by simp [zu]
    refine this.trans ?_
    rw [e1.2.1, e0]
    rfl
  · exact znew_k
  · show fits .byte (.int (zu _ N 1 (zi 0) (N + 1) i)) = true
    have : zu (znew (znew σ N (15, 0)) (N + 1) (2, 16)).2.1 N 1 (zi 0) (N + 1) i = (znew (znew σ N (15, 0)) (N + 1) (2, 16)).2.1 (N + 1) i := by simp [zu]
    rw [show zu (zuR (znew (znew σ N (15, 0)) (N + 1) (2, 16)) N 0 (some (N + 1))).2.1 N 1 (zi 0) (N + 1) i = zu (znew (znew σ N (15, 0)) (N + 1) (2, 16)).2.1 N 1 (zi 0) (N + 1) i from rfl, this, e2]
    show fits .byte (.int (0 : Int32)) = true
    decide
/-- a row's first letters are taken out -/
def CP (n a : Nat) (σ : zS) (N : Nat) (τ : zS) : Prop := τ.1 = (znew σ N (2, n)).1 ∧ (∀ i, i < n → τ.2.1 N i = σ.2.1 a i) ∧ ∀ q, q ≠ N → τ.2.1 q = σ.2.1 q ∧ τ.2.2.1 q = σ.2.2.1 q ∧ τ.2.2.2 q = σ.2.2.2 q
theorem mJ7_checkLength (l : Launch) (hE : zEk B En) (σ : zS) (N : Nat) {n : Nat} (hn : n < 1000) : zMv l D Ca B En yJ7_checkLength_df160 cJ7_checkLength_df160 2 (Option.none : Option Jvm.ClassFile.FieldType) 0 0 [.int (zi 0), .int (zi (n : Nat))] σ N σ () := by
  refine zMet_v (own := RJ7) hE (by decide +kernel) rfl (Nat.le_of_ble_eq_true rfl) (fun p e s m args below meth c C hr hRm => ?_)
  refine z_iload_n C dJ7_checkLength_df160_0 rfl 1 rfl ?_
  refine z_iload_n C dJ7_checkLength_df160_1 rfl 0 rfl ?_
  refine z_icmp_ge C 37 dJ7_checkLength_df160_2 (by decide) (fun _ => ?_) (fun q => absurd (zi_yle (by omega) (by omega) (by omega)) q)
  exact zfin_v (r := ()) C hr dJ7_checkLength_df160_37
theorem mJ7_copyOfRangeByte (l : Launch) (hE : zEk B En) (σ : zS) (N : Nat) {a n : Nat} (ha : a < N) (hda : σ.1 a = (2, cap)) (hf : ∀ i, i < cap → fits .byte (.int (σ.2.1 a i)) = true) (hn : n ≤ cap) (hc : cap ≤ 602) : zMKr l D Ca B En yJ7_copyOfRangeByte_39247 cJ7_copyOfRangeByte_39247 5 (Option.some (Jvm.ClassFile.FieldType.array Jvm.ClassFile.FieldType.byte)) 1 64 1 602 [.ref a, .int (zi 0), .int (zi (n : Nat))] σ N (fun τ r N2 => CP n a σ N τ ∧ r = N ∧ N2 = N + 1) := by
  refine zMet_Kr (own := RJ7) hE (by decide +kernel) rfl (Nat.le_of_ble_eq_true rfl) (fun p e s m args below meth c C hr hi => ?_)
  have hRm : zRm (zRoomN 1 64 1 602) 1 64 (0) (0) := ⟨Nat.le_refl _, Nat.le_refl _, by show 0 ≤ 1; omega, by show 0 ≤ 602; omega⟩
  refine z_iload_n C dJ7_copyOfRangeByte_39247_0 rfl 1 rfl ?_
  refine z_iload_n C dJ7_copyOfRangeByte_39247_1 rfl 2 rfl ?_
  refine z_callSv (As := [.int (zi 0), .int (zi (n : Nat))]) (F0 := 1) (L0 := 64) C (mJ7_checkLength l C.2.2.2.2.2.2.2.1 σ N (by omega)) hRm kw_1162 kw_19 kw_1160 kw_1161 hyJ7_checkLength_df160 (Nat.le_of_ble_eq_true rfl) (Nat.le_of_ble_eq_true rfl) rfl rfl (Nat.le_of_ble_eq_true rfl) dJ7_copyOfRangeByte_39247_2 ?_
  refine z_iload_n C dJ7_copyOfRangeByte_39247_5 rfl 2 rfl ?_
  refine z_iload_n C dJ7_copyOfRangeByte_39247_6 rfl 1 rfl ?_
  refine z_isub C dJ7_copyOfRangeByte_39247_7 ?_
  rw [zi_sub, Int.sub_zero]
  refine z_istore_n (lv2 := [(3, .int (zi (n : Nat))), (0, .ref a), (1, .int (zi 0)), (2, .int (zi (n : Nat)))]) C dJ7_copyOfRangeByte_39247_8 rfl (by decide) rfl ?_
  refine z_iload_n C dJ7_copyOfRangeByte_39247_9 rfl 0 rfl ?_
  have en : (zi (n : Nat)).toNatClampNeg = n := by rw [zi_nat (by omega) (by omega)]; exact Int.toNat_natCast n
  have h0 : ¬ zi (n : Nat) < 0 := fun q => by rw [show (0 : Int32) = zi 0 from rfl, zi_lt (by omega) (by omega) (by omega) (by omega)] at q; omega
  refine z_newB (n9 := n) C kw_55 h0 en (by omega) (Nat.le_of_ble_eq_true rfl) (by show 0 + n ≤ 602; omega) dJ7_copyOfRangeByte_39247_10 ?_
  have e1 := znew_o (σ := σ) (N := N) (a := a) (q := (2, n)) (by omega)
  clear hRm
  have hRm : zRm (zRoomN 1 64 1 602) 1 64 (0 + 1) (0 + n) := ⟨Nat.le_refl _, Nat.le_refl _, by show 0 + 1 ≤ 1; omega, by show 0 + n ≤ 602; omega⟩
  refine z_astore (lv2 := [(4, .ref N), (3, .int (zi (n : Nat))), (0, .ref a), (1, .int (zi 0)), (2, .int (zi (n : Nat)))]) C dJ7_copyOfRangeByte_39247_12 (by decide) rfl ?_
  refine z_aload_n C dJ7_copyOfRangeByte_39247_14 rfl 2 rfl ?_
  refine z_iload_n C dJ7_copyOfRangeByte_39247_15 rfl 3 rfl ?_
  refine z_aload C dJ7_copyOfRangeByte_39247_16 0 rfl ?_
  refine z_iconst C (zi 0) dJ7_copyOfRangeByte_39247_18 (by decide) ?_
  refine z_aload_n C dJ7_copyOfRangeByte_39247_19 rfl 2 rfl ?_
  refine z_alen C (zlen_2 (by rw [e1.1]; exact hda)) dJ7_copyOfRangeByte_39247_20 ?_
  refine z_iload_n C dJ7_copyOfRangeByte_39247_21 rfl 3 rfl ?_
  refine z_isub C dJ7_copyOfRangeByte_39247_22 ?_
  rw [zi_sub, Int.sub_zero]
  refine z_iload_n C dJ7_copyOfRangeByte_39247_23 rfl 1 rfl ?_
  refine z_mmin (FR := 1) (LR := 64) C hRm (Nat.le_of_ble_eq_true rfl) (Nat.le_of_ble_eq_true rfl) kw_1023 kw_299 kw_11 kw_300 (Nat.le_of_ble_eq_true rfl) dJ7_copyOfRangeByte_39247_24 ?_
  rw [show (if zi (n : Nat) < zi (cap : Nat) then zi (n : Nat) else zi (cap : Nat)) = zi (n : Nat) from by
    by_cases q : n < cap
    · exact if_pos ((zi_lt (by omega) (by omega) (by omega) (by omega)).mpr (by omega))
    · rw [if_neg (fun q2 => by rw [zi_lt (by omega) (by omega) (by omega) (by omega)] at q2; omega), show cap = n by omega]]
  refine z_cY C (zcY_of (by rw [e1.1]; exact hda) znew_k hn (Nat.le_refl _) (by omega) (fun i hi => by rw [e1.2.1]; exact hf i (by omega))) hRm (Nat.le_of_ble_eq_true rfl) (Nat.le_of_ble_eq_true rfl) kw_1024 kw_303 kw_302 kw_12 (Nat.le_of_ble_eq_true rfl) dJ7_copyOfRangeByte_39247_27 ?_
  refine z_aload C dJ7_copyOfRangeByte_39247_30 0 rfl ?_
  have hCP : CP n a σ N (zcp (znew σ N (2, n)) a 0 N 0 n) := ⟨rfl, fun i hi => by
    show (if N = N then va_cpy ((znew σ N (2, n)).2.1 a) ((znew σ N (2, n)).2.1 N) 0 0 n else _) i = _
    rw [if_pos rfl]
    unfold va_cpy
    rw [if_pos (by omega), e1.2.1, show 0 + (i - 0) = i by omega], fun q hq => by
    have e2 := znew_o (σ := σ) (N := N) (a := q) (q := (2, n)) hq
    refine ⟨?_, e2.2.2.1, e2.2.2.2⟩
    show (if q = N then _ else (znew σ N (2, n)).2.1 q) = _
    rw [if_neg hq, e2.2.1]⟩
  exact zfin_Kr (K := fun τ r N2 => CP n a σ N τ ∧ r = N ∧ N2 = N + 1) C ⟨hCP, rfl, rfl⟩ hr (Or.inr ⟨_, rfl⟩) (by omega) (Nat.le_of_ble_eq_true rfl) (by omega) dJ7_copyOfRangeByte_39247_32
theorem mJ7_copyOfRange (l : Launch) (hE : zEk B En) (σ : zS) (N : Nat) (hP : ∀ U : State, En U → zSl U) {a n : Nat} (ha : a < N) (hda : σ.1 a = (2, cap)) (hf : ∀ i, i < cap → fits .byte (.int (σ.2.1 a i)) = true) (hn : n ≤ cap) (hc : cap ≤ 602) : zMKr l D Ca B En yJ7_copyOfRange_39247 cJ7_copyOfRange_39247 3 (Option.some (Jvm.ClassFile.FieldType.array Jvm.ClassFile.FieldType.byte)) 2 88 1 602 [.ref a, .int (zi 0), .int (zi (n : Nat))] σ N (fun τ r N2 => CP n a σ N τ ∧ r = N ∧ N2 = N + 1) := by
  refine zMet_Kr (own := RJ7) hE (by decide +kernel) rfl (Nat.le_of_ble_eq_true rfl) (fun p e s m args below meth c C hr hi => ?_)
  refine z_iload_n C dJ7_copyOfRange_39247_0 rfl 1 rfl ?_
  refine z_if_ne C 10 dJ7_copyOfRange_39247_1 (by decide) (fun q => absurd (rfl) q) (fun _ => ?_)
  refine z_iload_n C dJ7_copyOfRange_39247_4 rfl 2 rfl ?_
  refine z_aload_n C dJ7_copyOfRange_39247_5 rfl 0 rfl ?_
  refine z_alen C (zlen_2 hda) dJ7_copyOfRange_39247_6 ?_
  by_cases q9 : n = cap
  · subst q9
    refine z_icmp_eq C 17 dJ7_copyOfRange_39247_7 (by decide) (fun _ => ?_) (fun q => absurd (rfl) q)
    refine z_aload_n C dJ7_copyOfRange_39247_17 rfl 0 rfl ?_
    refine z_clone (n9 := n) C kw_1016 kw_1017 kw_1018 kw_1019 kw_1020 (va_Nw.use rfl (hP s C.2.2.2.2.2.2.1).2) hda hf (Nat.le_of_ble_eq_true rfl) (Nat.le_of_ble_eq_true rfl) (Nat.le_of_ble_eq_true rfl) (by show 0 + n ≤ 602; omega) (Nat.le_of_ble_eq_true rfl) dJ7_copyOfRange_39247_18 ?_
    refine z_castB C kw_1022 (by show ((znew σ N (2, n)).1 N).1 = 2; rw [znew_k]) dJ7_copyOfRange_39247_21 ?_
    have hCP : CP n a σ N (rp (znew σ N (2, n)) N (σ.2.1 a)) := ⟨rfl, fun i hi => by rw [rp_at], fun q hq => by
      have e2 := znew_o (σ := σ) (N := N) (a := q) (q := (2, n)) hq
      exact ⟨by rw [rp_ne hq, e2.2.1], e2.2.2.1, e2.2.2.2⟩⟩
    exact zfin_Kr (K := fun τ r N2 => CP n a σ N τ ∧ r = N ∧ N2 = N + 1) C ⟨hCP, rfl, rfl⟩ hr (Or.inr ⟨_, rfl⟩) (by omega) (Nat.le_of_ble_eq_true rfl) (by omega) dJ7_copyOfRange_39247_24
  · skip
    refine z_icmp_eq C 17 dJ7_copyOfRange_39247_7 (by decide) (fun q => absurd q (fun q => by rw [zi_eq (by omega) (by omega) (by omega) (by omega)] at q; omega)) (fun _ => ?_)
    refine z_aload_n C dJ7_copyOfRange_39247_10 rfl 0 rfl ?_
    refine z_iload_n C dJ7_copyOfRange_39247_11 rfl 1 rfl ?_
    refine z_iload_n C dJ7_copyOfRange_39247_12 rfl 2 rfl ?_
    refine z_callSr (As := [.ref a, .int (zi 0), .int (zi (n : Nat))]) C (mJ7_copyOfRangeByte l C.2.2.2.2.2.2.2.1 σ N ha hda hf hn hc) kw_1159 kw_19 kw_1157 kw_1158 hyJ7_copyOfRangeByte_39247 (Nat.le_of_ble_eq_true rfl) (Nat.le_of_ble_eq_true rfl) rfl rfl (Nat.le_of_ble_eq_true rfl) dJ7_copyOfRange_39247_13 (Nat.le_of_ble_eq_true rfl) (Nat.le_of_ble_eq_true rfl) (fun τ r N2 hK hN => ?_)
    exact zfin_Kr (K := fun τ r N2 => CP n a σ N τ ∧ r = N ∧ N2 = N + 1) C hK hr (Or.inr ⟨_, rfl⟩) hN (Nat.le_of_ble_eq_true rfl) (Nat.le_of_ble_eq_true rfl) dJ7_copyOfRange_39247_16
theorem mJ0_initV (l : Launch) (hE : zEk B En) (ev : zEv) (hZ : ∀ U : State, En U → zEnv ev B U) (hP : ∀ U : State, En U → zSl U) (σ : zS) (N : Nat) {k0 : Nat} (h : SBn σ N lo b tx k0) (hz : zfree σ N) (hsa : (σ.1 sa).1 = 14) (hs1 : lo ≤ sa) (hs2 : sa < N) : zMKw l D Ca B En yJ0_init_db425 cJ0_init_db425 5 3 112 1 602 [.ref sa, .ref b, .null] σ N (fun τ N2 => (∃ sd, SA τ sa sd tx ∧ lo ≤ sd ∧ sd < N2) ∧ zeq σ τ 0 lo ∧ zfree τ N2) := by
  refine zMet_Kw (own := RJ0) hE (by decide +kernel) rfl (Nat.le_of_ble_eq_true rfl) (fun p e s m args below meth c C hr hi => ?_)
  obtain ⟨da, cap, h1, h2, ⟨h3, h4⟩, h5, h6, h7, h8⟩ := h
  have hne : b ≠ sa := fun e => by rw [e] at h1; have := h1.1; rw [hsa] at this; cases this
  have hne2 : da ≠ sa := fun e => by have := h1.2.2.2.2.1; rw [e] at this; rw [this] at hsa; cases hsa
  have hRm : zRm (zRoomN 3 112 1 602) 3 112 (0) (0) := ⟨Nat.le_refl _, Nat.le_refl _, by show 0 ≤ 1; omega, by show 0 ≤ 602; omega⟩
  refine z_aload_n C dJ0_init_db425_0 rfl 0 rfl ?_
  refine z_objInit C kw_1139 kw_37 kw_38 (Nat.le_of_ble_eq_true rfl) (Nat.le_of_ble_eq_true rfl) (Nat.le_of_ble_eq_true rfl) dJ0_init_db425_1 ?_
  refine z_aload_n C dJ0_init_db425_4 rfl 1 rfl ?_
  refine z_callBq (As := []) (F0 := 3) (L0 := 112) C (mJ5_getValue l C.2.2.2.2.2.2.2.1 σ N h1) hRm h1.1 kw_1144 kw_14 kw_1140 kw_1141 (C.2.2.2.1 _ kw_1143) hyJ5_getValue_6d5f1 (Nat.le_of_ble_eq_true rfl) (Nat.le_of_ble_eq_true rfl) rfl rfl (Nat.le_of_ble_eq_true rfl) dJ0_init_db425_5 ?_
  refine z_astore_n (x := da) (lv2 := [(3, .ref da), (0, .ref sa), (1, .ref b), (2, .null)]) C dJ0_init_db425_8 rfl (by decide) rfl ?_
  refine z_aload_n C dJ0_init_db425_9 rfl 2 rfl ?_
  refine z_callBU (As := []) (F0 := 3) (L0 := 112) (x := yJ5_length_8abf5) C (mJ4_length l C.2.2.2.2.2.2.2.1 σ N h1) hRm h1.1 kw_1150 kw_1152 gO_length (by decide +kernel) (Nat.le_of_ble_eq_true rfl) (Nat.le_of_ble_eq_true rfl) rfl rfl (Nat.le_of_ble_eq_true rfl) dJ0_init_db425_10 ?_
  refine z_istore (lv2 := [(4, .int (zi (tx.length : Nat))), (3, .ref da), (0, .ref sa), (1, .ref b), (2, .null)]) C dJ0_init_db425_13 (by decide) rfl ?_
  refine z_aload_n C dJ0_init_db425_15 rfl 3 rfl ?_
  refine z_callBi (As := []) (F0 := 3) (L0 := 112) C (mJ5_isLatin1 l C.2.2.2.2.2.2.2.1 ev hZ σ N h1) hRm h1.1 kw_1029 kw_14 kw_1153 kw_1026 (C.2.2.2.1 _ kw_1028) hyJ5_isLatin1_aae02 (Nat.le_of_ble_eq_true rfl) (Nat.le_of_ble_eq_true rfl) rfl rfl (Nat.le_of_ble_eq_true rfl) dJ0_init_db425_16 ?_
  refine z_if_eq C 41 dJ0_init_db425_19 (by decide) (fun q => absurd q (by decide)) (fun _ => ?_)
  refine z_aload_n C dJ0_init_db425_22 rfl 2 rfl ?_
  refine z_iconst C (zi 0) dJ0_init_db425_23 (by decide) ?_
  refine z_putFv (cn := .byte) (τ := zuI σ sa 1 (zi 0)) (Cn := RS9) (T := TS9) (Nf := 4) (k := 9) (j := 1) C hi rfl rfl zin_9 (by decide) kw_1174 rfl tyS9 tyS9_ok nmS9 rfl rfl (by decide +kernel) (by decide) (by decide) hsa hsa (zfs_setI _ sa (zi 0) rfl) (fun b hb => zuI_off hb) dJ0_init_db425_24 ?_
  refine z_aload_n C dJ0_init_db425_27 rfl 2 rfl ?_
  refine z_aload_n C dJ0_init_db425_28 rfl 1 rfl ?_
  refine z_iconst C (zi 0) dJ0_init_db425_29 (by decide) ?_
  refine z_iload C dJ0_init_db425_30 0 rfl ?_
  have ed : (zuI σ sa 1 (zi 0)).2.1 da = σ.2.1 da := zu_off _ _ _ hne2
  refine z_callSr (As := [.ref da, .int (zi 0), .int (zi (tx.length : Nat))]) C (mJ7_copyOfRange l C.2.2.2.2.2.2.2.1 (zuI σ sa 1 (zi 0)) N hP h8 (show (zuI σ sa 1 (zi 0)).1 da = (2, cap) from h1.2.2.2.2.1) (fun i hi => by rw [ed]; exact h1.2.2.2.2.2.2.2 i hi) h1.2.2.2.2.2.1 h4) kw_1156 kw_19 kw_1154 kw_1155 hyJ7_copyOfRange_39247 (Nat.le_of_ble_eq_true rfl) (Nat.le_of_ble_eq_true rfl) rfl rfl (Nat.le_of_ble_eq_true rfl) dJ0_init_db425_32 (Nat.le_of_ble_eq_true rfl) (Nat.le_of_ble_eq_true rfl) (fun τ r N2 hK hN => ?_)
  obtain ⟨⟨c1, c2, c3⟩, rfl, rfl⟩ := hK
  have es := c3 sa (by omega)
  have k1 : (τ.1 sa).1 = 14 := by rw [c1, (znew_o (σ := zuI σ sa 1 (zi 0)) (q := (2, tx.length)) (show sa ≠ r by omega)).1]; exact hsa
  refine z_putFv (cn := .array .byte) (τ := zuR τ sa 0 (some r)) (Cn := RS9) (T := TS9) (Nf := 4) (k := 9) (j := 0) C hi rfl rfl zin_9 (by decide) kw_1173 rfl tyS9 tyS9_ok nmS9 rfl rfl (by decide +kernel) rfl rfl k1 k1 (zfs_setR _ sa (some r) rfl) (fun b hb => zuR_off hb) dJ0_init_db425_35 ?_
  refine z_goto C 97 dJ0_init_db425_38 (by decide) ?_
  have hSA : SA (zuR τ sa 0 (some r)) sa r tx := by
    refine ⟨k1, ?_, ?_, ?_, fun i hi => ?_⟩
    · show zu τ.2.2.1 sa 0 (some r) sa 0 = _
      simp [zu]
    · show τ.2.1 sa 1 = 0
      rw [es.1]
      show zu σ.2.1 sa 1 (zi 0) sa 1 = 0
      simp [zu]
      rfl
    · show τ.1 r = _
      rw [c1]
      exact znew_k
    · show τ.2.1 r i = _
      rw [c2 i hi, ed]
      exact h1.2.2.2.2.2.2.1 i hi
  have hq : zeq σ (zuR τ sa 0 (some r)) 0 lo := zeq_tr (zeq_uI hs1) (zeq_tr (fun a _ a2 => ⟨by rw [c1]; exact (znew_o (σ := zuI σ sa 1 (zi 0)) (q := (2, tx.length)) (show a ≠ r by omega)).1, c3 a (by omega)⟩) (zeq_uR hs1))
  have hz2 : zfree (zuR τ sa 0 (some r)) (r + 1) := zfree_k (zfree_nw (q := (2, tx.length)) (zfree_k (τ := zuI σ sa 1 (zi 0)) hz rfl)) c1
  exact zfin_Kw (K := fun τ N2 => (∃ sd, SA τ sa sd tx ∧ lo ≤ sd ∧ sd < N2) ∧ zeq σ τ 0 lo ∧ zfree τ N2) C ⟨⟨r, hSA, by omega, by omega⟩, hq, hz2⟩ hr (by omega) (Nat.le_of_ble_eq_true rfl) (Nat.le_of_ble_eq_true rfl) dJ0_init_db425_97
theorem mJ0_initB (l : Launch) (hE : zEk B En) (ev : zEv) (hZ : ∀ U : State, En U → zEnv ev B U) (hP : ∀ U : State, En U → zSl U) (σ : zS) (N : Nat) {k0 : Nat} (h : SBn σ N lo b tx k0) (hz : zfree σ N) (hsa : (σ.1 sa).1 = 14) (hs1 : lo ≤ sa) (hs2 : sa < N) : zMKw l D Ca B En yJ0_init_81219 cJ0_init_81219 2 4 136 1 602 [.ref sa, .ref b] σ N (fun τ N2 => (∃ sd, SA τ sa sd tx ∧ lo ≤ sd ∧ sd < N2) ∧ zeq σ τ 0 lo ∧ zfree τ N2) := by
  refine zMet_Kw (own := RJ0) hE (by decide +kernel) rfl (Nat.le_of_ble_eq_true rfl) (fun p e s m args below meth c C hr hi => ?_)
  refine z_aload_n C dJ0_init_81219_0 rfl 0 rfl ?_
  refine z_aload_n C dJ0_init_81219_1 rfl 1 rfl ?_
  refine z_null C dJ0_init_81219_2 ?_
  refine z_callIw (As := [.ref b, .null]) C (mJ0_initV l C.2.2.2.2.2.2.2.1 ev hZ hP σ N h hz hsa hs1 hs2) kw_1138 kw_16 kw_1136 rfl kw_1137 hyJ0_init_db425 (Nat.le_of_ble_eq_true rfl) (Nat.le_of_ble_eq_true rfl) rfl rfl (Nat.le_of_ble_eq_true rfl) dJ0_init_81219_3 (Nat.le_of_ble_eq_true rfl) (Nat.le_of_ble_eq_true rfl) (fun τ N2 hK hN => ?_)
  exact zfin_Kw (K := fun τ N2 => (∃ sd, SA τ sa sd tx ∧ lo ≤ sd ∧ sd < N2) ∧ zeq σ τ 0 lo ∧ zfree τ N2) C hK hr hN (Nat.le_of_ble_eq_true rfl) (Nat.le_of_ble_eq_true rfl) dJ0_init_81219_6
theorem mJ4_toString (l : Launch) (hE : zEk B En) (ev : zEv) (hZ : ∀ U : State, En U → zEnv ev B U) (hP : ∀ U : State, En U → zSl U) (σ : zS) (N : Nat) {k0 : Nat} (h : SBn σ N lo b tx k0) (hz : zfree σ N) (hlo : lo ≤ N) : zMKr l D Ca B En yJ4_toString_0e30d cJ4_toString_0e30d 1 (Option.some (Jvm.ClassFile.FieldType.object "java/lang/String")) 5 157 2 606 [.ref b] σ N (fun τ r N2 => (∃ sd, SA τ r sd tx ∧ lo ≤ sd ∧ sd < N2) ∧ lo ≤ r ∧ r < N2 ∧ zeq σ τ 0 lo ∧ zfree τ N2) := by
  refine zMet_Kr (own := RJ4) hE (by decide +kernel) rfl (Nat.le_of_ble_eq_true rfl) (fun p e s m args below meth c C hr hi => ?_)
  refine z_newO (Cn := RS9) (T := TS9) (Nf := 4) (k := 9) C rfl rfl zin_9 tyS9 tyS9_ok kw_1131 kw_1132 kw_16 hdef_9 (Nat.le_of_ble_eq_true rfl) (Nat.le_of_ble_eq_true rfl) dJ4_toString_0e30d_0 ?_
  have h2 : SBn (znew σ N (9 + 5, 0)) (N + 1) lo b tx k0 := by
    obtain ⟨da, cap, ⟨g1, g2, g3, g4, g5, g6, g7, g8⟩, q2, q3, q5, q6, q7, q8⟩ := h
    have e1 := znew_o (σ := σ) (N := N) (a := b) (q := (9 + 5, 0)) (by omega)
    have e2 := znew_o (σ := σ) (N := N) (a := da) (q := (9 + 5, 0)) (by omega)
    exact ⟨da, cap, ⟨by rw [e1.1]; exact g1, by rw [e1.2.2.1]; exact g2, by rw [e1.2.1]; exact g3, by rw [e1.2.1]; exact g4, by rw [e2.1]; exact g5, g6, fun i hi => by rw [e2.2.1]; exact g7 i hi, fun i hi => by rw [e2.2.1]; exact g8 i hi⟩, q2, q3, q5, q6, by omega, by omega⟩
  refine z_dup C dJ4_toString_0e30d_3 rfl ?_
  refine z_aload_n C dJ4_toString_0e30d_4 rfl 0 rfl ?_
  refine z_callIw (As := [.ref b]) C (mJ0_initB l C.2.2.2.2.2.2.2.1 ev hZ hP (znew σ N (9 + 5, 0)) (N + 1) h2 (zfree_nw hz) (by rw [znew_k]) hlo (by omega)) kw_1135 kw_16 kw_1133 rfl kw_1134 hyJ0_init_81219 (Nat.le_of_ble_eq_true rfl) (Nat.le_of_ble_eq_true rfl) rfl rfl (Nat.le_of_ble_eq_true rfl) dJ4_toString_0e30d_5 (Nat.le_of_ble_eq_true rfl) (Nat.le_of_ble_eq_true rfl) (fun τ N2 hK hN => ?_)
  exact zfin_Kr (K := fun τ r N2 => (∃ sd, SA τ r sd tx ∧ lo ≤ sd ∧ sd < N2) ∧ lo ≤ r ∧ r < N2 ∧ zeq σ τ 0 lo ∧ zfree τ N2) C ⟨hK.1, hlo, by omega, zeq_tr (zeq_nw hlo) hK.2.1, hK.2.2⟩ hr (Or.inl ⟨_, rfl⟩) (by omega) (Nat.le_of_ble_eq_true rfl) (Nat.le_of_ble_eq_true rfl) dJ4_toString_0e30d_8
end MK
