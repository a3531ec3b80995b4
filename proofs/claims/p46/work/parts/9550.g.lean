/-! CAPACITY and what is put behind. -/
theorem dJ7_copyOf_9075b_0 : decode cJ7_copyOf_9075b 0 = .ok (.iload_n 1, 1) := by decide +kernel
theorem dJ7_copyOf_9075b_1 : decode cJ7_copyOf_9075b 1 = .ok (.aload_n 0, 1) := by decide +kernel
theorem dJ7_copyOf_9075b_2 : decode cJ7_copyOf_9075b 2 = .ok (.arraylength, 1) := by decide +kernel
theorem dJ7_copyOf_9075b_3 : decode cJ7_copyOf_9075b 3 = .ok (.if_icmp .ne 11, 3) := by decide +kernel
theorem dJ7_copyOf_9075b_6 : decode cJ7_copyOf_9075b 6 = .ok (.aload_n 0, 1) := by decide +kernel
theorem dJ7_copyOf_9075b_7 : decode cJ7_copyOf_9075b 7 = .ok (.invokevirtual 310, 3) := by decide +kernel
theorem dJ7_copyOf_9075b_10 : decode cJ7_copyOf_9075b 10 = .ok (.checkcast 311, 3) := by decide +kernel
theorem dJ7_copyOf_9075b_13 : decode cJ7_copyOf_9075b 13 = .ok (.areturn, 1) := by decide +kernel
theorem dJ7_copyOf_9075b_14 : decode cJ7_copyOf_9075b 14 = .ok (.iload_n 1, 1) := by decide +kernel
theorem dJ7_copyOf_9075b_15 : decode cJ7_copyOf_9075b 15 = .ok (.newarray .byte, 2) := by decide +kernel
theorem dJ7_copyOf_9075b_17 : decode cJ7_copyOf_9075b 17 = .ok (.astore_n 2, 1) := by decide +kernel
theorem dJ7_copyOf_9075b_18 : decode cJ7_copyOf_9075b 18 = .ok (.aload_n 0, 1) := by decide +kernel
theorem dJ7_copyOf_9075b_19 : decode cJ7_copyOf_9075b 19 = .ok (.iconst 0, 1) := by decide +kernel
theorem dJ7_copyOf_9075b_20 : decode cJ7_copyOf_9075b 20 = .ok (.aload_n 2, 1) := by decide +kernel
theorem dJ7_copyOf_9075b_21 : decode cJ7_copyOf_9075b 21 = .ok (.iconst 0, 1) := by decide +kernel
theorem dJ7_copyOf_9075b_22 : decode cJ7_copyOf_9075b 22 = .ok (.aload_n 0, 1) := by decide +kernel
theorem dJ7_copyOf_9075b_23 : decode cJ7_copyOf_9075b 23 = .ok (.arraylength, 1) := by decide +kernel
theorem dJ7_copyOf_9075b_24 : decode cJ7_copyOf_9075b 24 = .ok (.iload_n 1, 1) := by decide +kernel
theorem dJ7_copyOf_9075b_25 : decode cJ7_copyOf_9075b 25 = .ok (.invokestatic 304, 3) := by decide +kernel
theorem dJ7_copyOf_9075b_28 : decode cJ7_copyOf_9075b 28 = .ok (.invokestatic 150, 3) := by decide +kernel
theorem dJ7_copyOf_9075b_31 : decode cJ7_copyOf_9075b 31 = .ok (.aload_n 2, 1) := by decide +kernel
theorem dJ7_copyOf_9075b_32 : decode cJ7_copyOf_9075b 32 = .ok (.areturn, 1) := by decide +kernel
theorem dJ5_ensureCapacityInternal_d00df_0 : decode cJ5_ensureCapacityInternal_d00df 0 = .ok (.aload_n 0, 1) := by decide +kernel
theorem dJ5_ensureCapacityInternal_d00df_1 : decode cJ5_ensureCapacityInternal_d00df 1 = .ok (.getfield 15, 3) := by decide +kernel
theorem dJ5_ensureCapacityInternal_d00df_4 : decode cJ5_ensureCapacityInternal_d00df 4 = .ok (.arraylength, 1) := by decide +kernel
theorem dJ5_ensureCapacityInternal_d00df_5 : decode cJ5_ensureCapacityInternal_d00df 5 = .ok (.aload_n 0, 1) := by decide +kernel
theorem dJ5_ensureCapacityInternal_d00df_6 : decode cJ5_ensureCapacityInternal_d00df 6 = .ok (.getfield 22, 3) := by decide +kernel
theorem dJ5_ensureCapacityInternal_d00df_9 : decode cJ5_ensureCapacityInternal_d00df 9 = .ok (.ishr, 1) := by decide +kernel
theorem dJ5_ensureCapacityInternal_d00df_10 : decode cJ5_ensureCapacityInternal_d00df 10 = .ok (.istore_n 2, 1) := by decide +kernel
theorem dJ5_ensureCapacityInternal_d00df_11 : decode cJ5_ensureCapacityInternal_d00df 11 = .ok (.iload_n 1, 1) := by decide +kernel
theorem dJ5_ensureCapacityInternal_d00df_12 : decode cJ5_ensureCapacityInternal_d00df 12 = .ok (.iload_n 2, 1) := by decide +kernel
theorem dJ5_ensureCapacityInternal_d00df_13 : decode cJ5_ensureCapacityInternal_d00df 13 = .ok (.isub, 1) := by decide +kernel
theorem dJ5_ensureCapacityInternal_d00df_14 : decode cJ5_ensureCapacityInternal_d00df 14 = .ok (.ifCond .le 24, 3) := by decide +kernel
theorem dJ5_ensureCapacityInternal_d00df_17 : decode cJ5_ensureCapacityInternal_d00df 17 = .ok (.aload_n 0, 1) := by decide +kernel
theorem dJ5_ensureCapacityInternal_d00df_18 : decode cJ5_ensureCapacityInternal_d00df 18 = .ok (.aload_n 0, 1) := by decide +kernel
theorem dJ5_ensureCapacityInternal_d00df_19 : decode cJ5_ensureCapacityInternal_d00df 19 = .ok (.getfield 15, 3) := by decide +kernel
theorem dJ5_ensureCapacityInternal_d00df_22 : decode cJ5_ensureCapacityInternal_d00df 22 = .ok (.aload_n 0, 1) := by decide +kernel
theorem dJ5_ensureCapacityInternal_d00df_23 : decode cJ5_ensureCapacityInternal_d00df 23 = .ok (.iload_n 1, 1) := by decide +kernel
theorem dJ5_ensureCapacityInternal_d00df_24 : decode cJ5_ensureCapacityInternal_d00df 24 = .ok (.invokevirtual 104, 3) := by decide +kernel
theorem dJ5_ensureCapacityInternal_d00df_27 : decode cJ5_ensureCapacityInternal_d00df 27 = .ok (.aload_n 0, 1) := by decide +kernel
theorem dJ5_ensureCapacityInternal_d00df_28 : decode cJ5_ensureCapacityInternal_d00df 28 = .ok (.getfield 22, 3) := by decide +kernel
theorem dJ5_ensureCapacityInternal_d00df_31 : decode cJ5_ensureCapacityInternal_d00df 31 = .ok (.ishl, 1) := by decide +kernel
theorem dJ5_ensureCapacityInternal_d00df_32 : decode cJ5_ensureCapacityInternal_d00df 32 = .ok (.invokestatic 108, 3) := by decide +kernel
theorem dJ5_ensureCapacityInternal_d00df_35 : decode cJ5_ensureCapacityInternal_d00df 35 = .ok (.putfield 15, 3) := by decide +kernel
theorem dJ5_ensureCapacityInternal_d00df_38 : decode cJ5_ensureCapacityInternal_d00df 38 = .ok (.return_, 1) := by decide +kernel
theorem dJ5_append_3fe6f_0 : decode cJ5_append_3fe6f 0 = .ok (.aload_n 0, 1) := by decide +kernel
theorem dJ5_append_3fe6f_1 : decode cJ5_append_3fe6f 1 = .ok (.aload_n 0, 1) := by decide +kernel
theorem dJ5_append_3fe6f_2 : decode cJ5_append_3fe6f 2 = .ok (.getfield 79, 3) := by decide +kernel
theorem dJ5_append_3fe6f_5 : decode cJ5_append_3fe6f 5 = .ok (.iconst 1, 1) := by decide +kernel
theorem dJ5_append_3fe6f_6 : decode cJ5_append_3fe6f 6 = .ok (.iadd, 1) := by decide +kernel
theorem dJ5_append_3fe6f_7 : decode cJ5_append_3fe6f 7 = .ok (.invokevirtual 100, 3) := by decide +kernel
theorem dJ5_append_3fe6f_10 : decode cJ5_append_3fe6f 10 = .ok (.aload_n 0, 1) := by decide +kernel
theorem dJ5_append_3fe6f_11 : decode cJ5_append_3fe6f 11 = .ok (.invokevirtual 83, 3) := by decide +kernel
theorem dJ5_append_3fe6f_14 : decode cJ5_append_3fe6f 14 = .ok (.ifCond .eq 31, 3) := by decide +kernel
theorem dJ5_append_3fe6f_17 : decode cJ5_append_3fe6f 17 = .ok (.iload_n 1, 1) := by decide +kernel
theorem dJ5_append_3fe6f_18 : decode cJ5_append_3fe6f 18 = .ok (.invokestatic 191, 3) := by decide +kernel
theorem dJ5_append_3fe6f_21 : decode cJ5_append_3fe6f 21 = .ok (.ifCond .eq 24, 3) := by decide +kernel
theorem dJ5_append_3fe6f_24 : decode cJ5_append_3fe6f 24 = .ok (.aload_n 0, 1) := by decide +kernel
theorem dJ5_append_3fe6f_25 : decode cJ5_append_3fe6f 25 = .ok (.getfield 15, 3) := by decide +kernel
theorem dJ5_append_3fe6f_28 : decode cJ5_append_3fe6f 28 = .ok (.aload_n 0, 1) := by decide +kernel
theorem dJ5_append_3fe6f_29 : decode cJ5_append_3fe6f 29 = .ok (.dup, 1) := by decide +kernel
theorem dJ5_append_3fe6f_30 : decode cJ5_append_3fe6f 30 = .ok (.getfield 79, 3) := by decide +kernel
theorem dJ5_append_3fe6f_33 : decode cJ5_append_3fe6f 33 = .ok (.dup_x1, 1) := by decide +kernel
theorem dJ5_append_3fe6f_34 : decode cJ5_append_3fe6f 34 = .ok (.iconst 1, 1) := by decide +kernel
theorem dJ5_append_3fe6f_35 : decode cJ5_append_3fe6f 35 = .ok (.iadd, 1) := by decide +kernel
theorem dJ5_append_3fe6f_36 : decode cJ5_append_3fe6f 36 = .ok (.putfield 79, 3) := by decide +kernel
theorem dJ5_append_3fe6f_39 : decode cJ5_append_3fe6f 39 = .ok (.iload_n 1, 1) := by decide +kernel
theorem dJ5_append_3fe6f_40 : decode cJ5_append_3fe6f 40 = .ok (.i2b, 1) := by decide +kernel
theorem dJ5_append_3fe6f_41 : decode cJ5_append_3fe6f 41 = .ok (.bastore, 1) := by decide +kernel
theorem dJ5_append_3fe6f_42 : decode cJ5_append_3fe6f 42 = .ok (.goto 33, 3) := by decide +kernel
theorem dJ5_append_3fe6f_45 : decode cJ5_append_3fe6f 45 = .ok (.aload_n 0, 1) := by decide +kernel
theorem dJ5_append_3fe6f_46 : decode cJ5_append_3fe6f 46 = .ok (.invokevirtual 83, 3) := by decide +kernel
theorem dJ5_append_3fe6f_49 : decode cJ5_append_3fe6f 49 = .ok (.ifCond .eq 7, 3) := by decide +kernel
theorem dJ5_append_3fe6f_52 : decode cJ5_append_3fe6f 52 = .ok (.aload_n 0, 1) := by decide +kernel
theorem dJ5_append_3fe6f_53 : decode cJ5_append_3fe6f 53 = .ok (.invokevirtual 195, 3) := by decide +kernel
theorem dJ5_append_3fe6f_56 : decode cJ5_append_3fe6f 56 = .ok (.aload_n 0, 1) := by decide +kernel
theorem dJ5_append_3fe6f_57 : decode cJ5_append_3fe6f 57 = .ok (.getfield 15, 3) := by decide +kernel
theorem dJ5_append_3fe6f_60 : decode cJ5_append_3fe6f 60 = .ok (.aload_n 0, 1) := by decide +kernel
theorem dJ5_append_3fe6f_61 : decode cJ5_append_3fe6f 61 = .ok (.dup, 1) := by decide +kernel
theorem dJ5_append_3fe6f_62 : decode cJ5_append_3fe6f 62 = .ok (.getfield 79, 3) := by decide +kernel
theorem dJ5_append_3fe6f_65 : decode cJ5_append_3fe6f 65 = .ok (.dup_x1, 1) := by decide +kernel
theorem dJ5_append_3fe6f_66 : decode cJ5_append_3fe6f 66 = .ok (.iconst 1, 1) := by decide +kernel
theorem dJ5_append_3fe6f_67 : decode cJ5_append_3fe6f 67 = .ok (.iadd, 1) := by decide +kernel
theorem dJ5_append_3fe6f_68 : decode cJ5_append_3fe6f 68 = .ok (.putfield 79, 3) := by decide +kernel
theorem dJ5_append_3fe6f_71 : decode cJ5_append_3fe6f 71 = .ok (.iload_n 1, 1) := by decide +kernel
theorem dJ5_append_3fe6f_72 : decode cJ5_append_3fe6f 72 = .ok (.invokestatic 197, 3) := by decide +kernel
theorem dJ5_append_3fe6f_75 : decode cJ5_append_3fe6f 75 = .ok (.aload_n 0, 1) := by decide +kernel
theorem dJ5_append_3fe6f_76 : decode cJ5_append_3fe6f 76 = .ok (.areturn, 1) := by decide +kernel
theorem dJ5_append_c97b9_0 : decode cJ5_append_c97b9 0 = .ok (.aload_n 0, 1) := by decide +kernel
theorem dJ5_append_c97b9_1 : decode cJ5_append_c97b9 1 = .ok (.getfield 79, 3) := by decide +kernel
theorem dJ5_append_c97b9_4 : decode cJ5_append_c97b9 4 = .ok (.istore_n 2, 1) := by decide +kernel
theorem dJ5_append_c97b9_5 : decode cJ5_append_c97b9 5 = .ok (.iload_n 2, 1) := by decide +kernel
theorem dJ5_append_c97b9_6 : decode cJ5_append_c97b9 6 = .ok (.iload_n 1, 1) := by decide +kernel
theorem dJ5_append_c97b9_7 : decode cJ5_append_c97b9 7 = .ok (.invokestatic 245, 3) := by decide +kernel
theorem dJ5_append_c97b9_10 : decode cJ5_append_c97b9 10 = .ok (.iadd, 1) := by decide +kernel
theorem dJ5_append_c97b9_11 : decode cJ5_append_c97b9 11 = .ok (.istore_n 3, 1) := by decide +kernel
theorem dJ5_append_c97b9_12 : decode cJ5_append_c97b9 12 = .ok (.aload_n 0, 1) := by decide +kernel
theorem dJ5_append_c97b9_13 : decode cJ5_append_c97b9 13 = .ok (.iload_n 3, 1) := by decide +kernel
theorem dJ5_append_c97b9_14 : decode cJ5_append_c97b9 14 = .ok (.invokevirtual 100, 3) := by decide +kernel
theorem dJ5_append_c97b9_17 : decode cJ5_append_c97b9 17 = .ok (.aload_n 0, 1) := by decide +kernel
theorem dJ5_append_c97b9_18 : decode cJ5_append_c97b9 18 = .ok (.invokevirtual 83, 3) := by decide +kernel
theorem dJ5_append_c97b9_21 : decode cJ5_append_c97b9 21 = .ok (.ifCond .eq 16, 3) := by decide +kernel
theorem dJ5_append_c97b9_24 : decode cJ5_append_c97b9 24 = .ok (.iload_n 1, 1) := by decide +kernel
theorem dJ5_append_c97b9_25 : decode cJ5_append_c97b9 25 = .ok (.iload_n 3, 1) := by decide +kernel
theorem dJ5_append_c97b9_26 : decode cJ5_append_c97b9 26 = .ok (.aload_n 0, 1) := by decide +kernel
theorem dJ5_append_c97b9_27 : decode cJ5_append_c97b9 27 = .ok (.getfield 15, 3) := by decide +kernel
theorem dJ5_append_c97b9_30 : decode cJ5_append_c97b9 30 = .ok (.invokestatic 248, 3) := by decide +kernel
theorem dJ5_append_c97b9_33 : decode cJ5_append_c97b9 33 = .ok (.pop, 1) := by decide +kernel
theorem dJ5_append_c97b9_34 : decode cJ5_append_c97b9 34 = .ok (.goto 14, 3) := by decide +kernel
theorem dJ5_append_c97b9_37 : decode cJ5_append_c97b9 37 = .ok (.iload_n 1, 1) := by decide +kernel
theorem dJ5_append_c97b9_38 : decode cJ5_append_c97b9 38 = .ok (.iload_n 2, 1) := by decide +kernel
theorem dJ5_append_c97b9_39 : decode cJ5_append_c97b9 39 = .ok (.iload_n 3, 1) := by decide +kernel
theorem dJ5_append_c97b9_40 : decode cJ5_append_c97b9 40 = .ok (.aload_n 0, 1) := by decide +kernel
theorem dJ5_append_c97b9_41 : decode cJ5_append_c97b9 41 = .ok (.getfield 15, 3) := by decide +kernel
theorem dJ5_append_c97b9_44 : decode cJ5_append_c97b9 44 = .ok (.invokestatic 251, 3) := by decide +kernel
theorem dJ5_append_c97b9_47 : decode cJ5_append_c97b9 47 = .ok (.pop, 1) := by decide +kernel
theorem dJ5_append_c97b9_48 : decode cJ5_append_c97b9 48 = .ok (.aload_n 0, 1) := by decide +kernel
theorem dJ5_append_c97b9_49 : decode cJ5_append_c97b9 49 = .ok (.iload_n 3, 1) := by decide +kernel
theorem dJ5_append_c97b9_50 : decode cJ5_append_c97b9 50 = .ok (.putfield 79, 3) := by decide +kernel
theorem dJ5_append_c97b9_53 : decode cJ5_append_c97b9 53 = .ok (.aload_n 0, 1) := by decide +kernel
theorem dJ5_append_c97b9_54 : decode cJ5_append_c97b9 54 = .ok (.areturn, 1) := by decide +kernel
theorem dJ5_append_cf1ce_0 : decode cJ5_append_cf1ce 0 = .ok (.aload_n 1, 1) := by decide +kernel
theorem dJ5_append_cf1ce_1 : decode cJ5_append_cf1ce 1 = .ok (.ifnonnull 8, 3) := by decide +kernel
theorem dJ5_append_cf1ce_4 : decode cJ5_append_cf1ce 4 = .ok (.aload_n 0, 1) := by decide +kernel
theorem dJ5_append_cf1ce_5 : decode cJ5_append_cf1ce 5 = .ok (.invokevirtual 204, 3) := by decide +kernel
theorem dJ5_append_cf1ce_8 : decode cJ5_append_cf1ce 8 = .ok (.areturn, 1) := by decide +kernel
theorem dJ5_append_cf1ce_9 : decode cJ5_append_cf1ce 9 = .ok (.aload_n 1, 1) := by decide +kernel
theorem dJ5_append_cf1ce_10 : decode cJ5_append_cf1ce 10 = .ok (.invokevirtual 32, 3) := by decide +kernel
theorem dJ5_append_cf1ce_13 : decode cJ5_append_cf1ce 13 = .ok (.istore_n 2, 1) := by decide +kernel
theorem dJ5_append_cf1ce_14 : decode cJ5_append_cf1ce 14 = .ok (.aload_n 0, 1) := by decide +kernel
theorem dJ5_append_cf1ce_15 : decode cJ5_append_cf1ce 15 = .ok (.aload_n 0, 1) := by decide +kernel
theorem dJ5_append_cf1ce_16 : decode cJ5_append_cf1ce 16 = .ok (.getfield 79, 3) := by decide +kernel
theorem dJ5_append_cf1ce_19 : decode cJ5_append_cf1ce 19 = .ok (.iload_n 2, 1) := by decide +kernel
theorem dJ5_append_cf1ce_20 : decode cJ5_append_cf1ce 20 = .ok (.iadd, 1) := by decide +kernel
theorem dJ5_append_cf1ce_21 : decode cJ5_append_cf1ce 21 = .ok (.invokevirtual 100, 3) := by decide +kernel
theorem dJ5_append_cf1ce_24 : decode cJ5_append_cf1ce 24 = .ok (.aload_n 0, 1) := by decide +kernel
theorem dJ5_append_cf1ce_25 : decode cJ5_append_cf1ce 25 = .ok (.aload_n 0, 1) := by decide +kernel
theorem dJ5_append_cf1ce_26 : decode cJ5_append_cf1ce 26 = .ok (.getfield 79, 3) := by decide +kernel
theorem dJ5_append_cf1ce_29 : decode cJ5_append_cf1ce 29 = .ok (.aload_n 1, 1) := by decide +kernel
theorem dJ5_append_cf1ce_30 : decode cJ5_append_cf1ce 30 = .ok (.invokevirtual 208, 3) := by decide +kernel
theorem dJ5_append_cf1ce_33 : decode cJ5_append_cf1ce 33 = .ok (.aload_n 0, 1) := by decide +kernel
theorem dJ5_append_cf1ce_34 : decode cJ5_append_cf1ce 34 = .ok (.dup, 1) := by decide +kernel
theorem dJ5_append_cf1ce_35 : decode cJ5_append_cf1ce 35 = .ok (.getfield 79, 3) := by decide +kernel
theorem dJ5_append_cf1ce_38 : decode cJ5_append_cf1ce 38 = .ok (.iload_n 2, 1) := by decide +kernel
theorem dJ5_append_cf1ce_39 : decode cJ5_append_cf1ce 39 = .ok (.iadd, 1) := by decide +kernel
theorem dJ5_append_cf1ce_40 : decode cJ5_append_cf1ce 40 = .ok (.putfield 79, 3) := by decide +kernel
theorem dJ5_append_cf1ce_43 : decode cJ5_append_cf1ce 43 = .ok (.aload_n 0, 1) := by decide +kernel
theorem dJ5_append_cf1ce_44 : decode cJ5_append_cf1ce 44 = .ok (.areturn, 1) := by decide +kernel
theorem dJ4_append_cf468_0 : decode cJ4_append_cf468 0 = .ok (.aload_n 0, 1) := by decide +kernel
theorem dJ4_append_cf468_1 : decode cJ4_append_cf468 1 = .ok (.iload_n 1, 1) := by decide +kernel
theorem dJ4_append_cf468_2 : decode cJ4_append_cf468 2 = .ok (.invokespecial 50, 3) := by decide +kernel
theorem dJ4_append_cf468_5 : decode cJ4_append_cf468 5 = .ok (.pop, 1) := by decide +kernel
theorem dJ4_append_cf468_6 : decode cJ4_append_cf468 6 = .ok (.aload_n 0, 1) := by decide +kernel
theorem dJ4_append_cf468_7 : decode cJ4_append_cf468 7 = .ok (.areturn, 1) := by decide +kernel
theorem dJ4_append_bf812_0 : decode cJ4_append_bf812 0 = .ok (.aload_n 0, 1) := by decide +kernel
theorem dJ4_append_bf812_1 : decode cJ4_append_bf812 1 = .ok (.iload_n 1, 1) := by decide +kernel
theorem dJ4_append_bf812_2 : decode cJ4_append_bf812 2 = .ok (.invokespecial 53, 3) := by decide +kernel
theorem dJ4_append_bf812_5 : decode cJ4_append_bf812 5 = .ok (.pop, 1) := by decide +kernel
theorem dJ4_append_bf812_6 : decode cJ4_append_bf812 6 = .ok (.aload_n 0, 1) := by decide +kernel
theorem dJ4_append_bf812_7 : decode cJ4_append_bf812 7 = .ok (.areturn, 1) := by decide +kernel
theorem dJ4_append_15ec4_0 : decode cJ4_append_15ec4 0 = .ok (.aload_n 0, 1) := by decide +kernel
theorem dJ4_append_15ec4_1 : decode cJ4_append_15ec4 1 = .ok (.aload_n 1, 1) := by decide +kernel
theorem dJ4_append_15ec4_2 : decode cJ4_append_15ec4 2 = .ok (.invokespecial 29, 3) := by decide +kernel
theorem dJ4_append_15ec4_5 : decode cJ4_append_15ec4 5 = .ok (.pop, 1) := by decide +kernel
theorem dJ4_append_15ec4_6 : decode cJ4_append_15ec4 6 = .ok (.aload_n 0, 1) := by decide +kernel
theorem dJ4_append_15ec4_7 : decode cJ4_append_15ec4 7 = .ok (.areturn, 1) := by decide +kernel
theorem kw_1023 : (Jvm.Cond.methodLink "java/util/Arrays" (304 : Nat) ({ cls := "java/lang/Math", name := "min", desc := "(II)I" } : Jvm.MethodName)) ∈ zTb := zTb_of 1023 (by decide +kernel) (by decide +kernel)
theorem kw_1024 : (Jvm.Cond.methodLink "java/util/Arrays" (150 : Nat) ({ cls := "java/lang/System", name := "arraycopy", desc := "(Ljava/lang/Object;ILjava/lang/Object;II)V" } : Jvm.MethodName)) ∈ zTb := zTb_of 1024 (by decide +kernel) (by decide +kernel)
theorem kw_998 : (Jvm.Cond.methodLink "java/lang/AbstractStringBuilder" (104 : Nat) ({ cls := "java/lang/AbstractStringBuilder", name := "newCapacity", desc := "(I)I" } : Jvm.MethodName)) ∈ zTb := zTb_of 998 (by decide +kernel) (by decide +kernel)
theorem kw_1000 : (Jvm.Cond.instanceMethod ({ cls := "java/lang/AbstractStringBuilder", name := "newCapacity", desc := "(I)I" } : Jvm.MethodName)) ∈ zTb := zTb_of 1000 (by decide +kernel) (by decide +kernel)
theorem kw_1001 : (Jvm.Cond.code ({ cls := "java/lang/AbstractStringBuilder", name := "newCapacity", desc := "(I)I" } : Jvm.MethodName) prog_14_method_10_code (6 : Nat) (Option.some Jvm.ClassFile.FieldType.int)) ∈ zTb := zTb_of 1001 (by decide +kernel) (by decide +kernel)
theorem hyJ5_newCapacity_0f7a4 : yJ5_newCapacity_0f7a4.cls ≠ "java/lang/invoke/MethodHandle" ∧ yJ5_newCapacity_0f7a4.cls ≠ "java/lang/invoke/VarHandle" ∧ (parseMethodDescriptor yJ5_newCapacity_0f7a4.desc).map (fun d => d.parameters.length) = some 1 := ⟨by decide +kernel, by decide +kernel, by decide +kernel⟩
theorem kw_1013 : (Jvm.Cond.methodLink "java/lang/AbstractStringBuilder" (108 : Nat) ({ cls := "java/util/Arrays", name := "copyOf", desc := "([BI)[B" } : Jvm.MethodName)) ∈ zTb := zTb_of 1013 (by decide +kernel) (by decide +kernel)
theorem kw_19 : (Jvm.Cond.initialized "java/util/Arrays") ∈ zTb := zTb_of 19 (by decide +kernel) (by decide +kernel)
theorem kw_1015 : (Jvm.Cond.code ({ cls := "java/util/Arrays", name := "copyOf", desc := "([BI)[B" } : Jvm.MethodName) prog_36_method_121_code (3 : Nat) (Option.some (Jvm.ClassFile.FieldType.array Jvm.ClassFile.FieldType.byte))) ∈ zTb := zTb_of 1015 (by decide +kernel) (by decide +kernel)
theorem kw_1014 : (Jvm.Cond.static ({ cls := "java/util/Arrays", name := "copyOf", desc := "([BI)[B" } : Jvm.MethodName)) ∈ zTb := zTb_of 1014 (by decide +kernel) (by decide +kernel)
theorem hyJ7_copyOf_9075b : yJ7_copyOf_9075b.cls ≠ "java/lang/invoke/MethodHandle" ∧ yJ7_copyOf_9075b.cls ≠ "java/lang/invoke/VarHandle" ∧ (parseMethodDescriptor yJ7_copyOf_9075b.desc).map (fun d => d.parameters.length) = some 2 := ⟨by decide +kernel, by decide +kernel, by decide +kernel⟩
theorem kw_994 : (Jvm.Cond.methodLink "java/lang/AbstractStringBuilder" (100 : Nat) ({ cls := "java/lang/AbstractStringBuilder", name := "ensureCapacityInternal", desc := "(I)V" } : Jvm.MethodName)) ∈ zTb := zTb_of 994 (by decide +kernel) (by decide +kernel)
theorem kw_996 : (Jvm.Cond.instanceMethod ({ cls := "java/lang/AbstractStringBuilder", name := "ensureCapacityInternal", desc := "(I)V" } : Jvm.MethodName)) ∈ zTb := zTb_of 996 (by decide +kernel) (by decide +kernel)
theorem kw_997 : (Jvm.Cond.code ({ cls := "java/lang/AbstractStringBuilder", name := "ensureCapacityInternal", desc := "(I)V" } : Jvm.MethodName) prog_14_method_9_code (3 : Nat) (Option.none : Option Jvm.ClassFile.FieldType)) ∈ zTb := zTb_of 997 (by decide +kernel) (by decide +kernel)
theorem hyJ5_ensureCapacityInternal_d00df : yJ5_ensureCapacityInternal_d00df.cls ≠ "java/lang/invoke/MethodHandle" ∧ yJ5_ensureCapacityInternal_d00df.cls ≠ "java/lang/invoke/VarHandle" ∧ (parseMethodDescriptor yJ5_ensureCapacityInternal_d00df.desc).map (fun d => d.parameters.length) = some 1 := ⟨by decide +kernel, by decide +kernel, by decide +kernel⟩
theorem kw_1025 : (Jvm.Cond.methodLink "java/lang/AbstractStringBuilder" (83 : Nat) ({ cls := "java/lang/AbstractStringBuilder", name := "isLatin1", desc := "()Z" } : Jvm.MethodName)) ∈ zTb := zTb_of 1025 (by decide +kernel) (by decide +kernel)
theorem kw_1026 : (Jvm.Cond.instanceMethod ({ cls := "java/lang/AbstractStringBuilder", name := "isLatin1", desc := "()Z" } : Jvm.MethodName)) ∈ zTb := zTb_of 1026 (by decide +kernel) (by decide +kernel)
theorem kw_1028 : (Jvm.Cond.selects "java/lang/StringBuilder" ({ cls := "java/lang/AbstractStringBuilder", name := "isLatin1", desc := "()Z" } : Jvm.MethodName) ({ cls := "java/lang/AbstractStringBuilder", name := "isLatin1", desc := "()Z" } : Jvm.MethodName)) ∈ zTb := zTb_of 1028 (by decide +kernel) (by decide +kernel)
theorem kw_1029 : (Jvm.Cond.code ({ cls := "java/lang/AbstractStringBuilder", name := "isLatin1", desc := "()Z" } : Jvm.MethodName) prog_14_method_68_code (1 : Nat) (Option.some Jvm.ClassFile.FieldType.boolean)) ∈ zTb := zTb_of 1029 (by decide +kernel) (by decide +kernel)
theorem hyJ5_isLatin1_aae02 : yJ5_isLatin1_aae02.cls ≠ "java/lang/invoke/MethodHandle" ∧ yJ5_isLatin1_aae02.cls ≠ "java/lang/invoke/VarHandle" ∧ (parseMethodDescriptor yJ5_isLatin1_aae02.desc).map (fun d => d.parameters.length) = some 0 := ⟨by decide +kernel, by decide +kernel, by decide +kernel⟩
theorem kw_1087 : (Jvm.Cond.methodLink "java/lang/AbstractStringBuilder" (191 : Nat) ({ cls := "java/lang/StringLatin1", name := "canEncode", desc := "(C)Z" } : Jvm.MethodName)) ∈ zTb := zTb_of 1087 (by decide +kernel) (by decide +kernel)
theorem kw_1089 : (Jvm.Cond.code ({ cls := "java/lang/StringLatin1", name := "canEncode", desc := "(C)Z" } : Jvm.MethodName) prog_30_method_3_code (1 : Nat) (Option.some Jvm.ClassFile.FieldType.boolean)) ∈ zTb := zTb_of 1089 (by decide +kernel) (by decide +kernel)
theorem kw_1088 : (Jvm.Cond.static ({ cls := "java/lang/StringLatin1", name := "canEncode", desc := "(C)Z" } : Jvm.MethodName)) ∈ zTb := zTb_of 1088 (by decide +kernel) (by decide +kernel)
theorem hyJ1_canEncode_fc78d : yJ1_canEncode_fc78d.cls ≠ "java/lang/invoke/MethodHandle" ∧ yJ1_canEncode_fc78d.cls ≠ "java/lang/invoke/VarHandle" ∧ (parseMethodDescriptor yJ1_canEncode_fc78d.desc).map (fun d => d.parameters.length) = some 1 := ⟨by decide +kernel, by decide +kernel, by decide +kernel⟩
theorem kw_1101 : (Jvm.Cond.methodLink "java/lang/AbstractStringBuilder" (245 : Nat) ({ cls := "java/lang/Integer", name := "stringSize", desc := "(I)I" } : Jvm.MethodName)) ∈ zTb := zTb_of 1101 (by decide +kernel) (by decide +kernel)
theorem kw_1103 : (Jvm.Cond.code ({ cls := "java/lang/Integer", name := "stringSize", desc := "(I)I" } : Jvm.MethodName) prog_24_method_13_code (4 : Nat) (Option.some Jvm.ClassFile.FieldType.int)) ∈ zTb := zTb_of 1103 (by decide +kernel) (by decide +kernel)
theorem kw_1102 : (Jvm.Cond.static ({ cls := "java/lang/Integer", name := "stringSize", desc := "(I)I" } : Jvm.MethodName)) ∈ zTb := zTb_of 1102 (by decide +kernel) (by decide +kernel)
theorem hyJ6_stringSize_0f7a4 : yJ6_stringSize_0f7a4.cls ≠ "java/lang/invoke/MethodHandle" ∧ yJ6_stringSize_0f7a4.cls ≠ "java/lang/invoke/VarHandle" ∧ (parseMethodDescriptor yJ6_stringSize_0f7a4.desc).map (fun d => d.parameters.length) = some 1 := ⟨by decide +kernel, by decide +kernel, by decide +kernel⟩
theorem kw_1104 : (Jvm.Cond.methodLink "java/lang/AbstractStringBuilder" (248 : Nat) ({ cls := "java/lang/Integer", name := "getChars", desc := "(II[B)I" } : Jvm.MethodName)) ∈ zTb := zTb_of 1104 (by decide +kernel) (by decide +kernel)
theorem kw_1106 : (Jvm.Cond.code ({ cls := "java/lang/Integer", name := "getChars", desc := "(II[B)I" } : Jvm.MethodName) prog_24_method_12_code (7 : Nat) (Option.some Jvm.ClassFile.FieldType.int)) ∈ zTb := zTb_of 1106 (by decide +kernel) (by decide +kernel)
theorem kw_1105 : (Jvm.Cond.static ({ cls := "java/lang/Integer", name := "getChars", desc := "(II[B)I" } : Jvm.MethodName)) ∈ zTb := zTb_of 1105 (by decide +kernel) (by decide +kernel)
theorem hyJ6_getChars_ba4f3 : yJ6_getChars_ba4f3.cls ≠ "java/lang/invoke/MethodHandle" ∧ yJ6_getChars_ba4f3.cls ≠ "java/lang/invoke/VarHandle" ∧ (parseMethodDescriptor yJ6_getChars_ba4f3.desc).map (fun d => d.parameters.length) = some 3 := ⟨by decide +kernel, by decide +kernel, by decide +kernel⟩
theorem kw_1045 : (Jvm.Cond.methodLink "java/lang/AbstractStringBuilder" (32 : Nat) ({ cls := "java/lang/String", name := "length", desc := "()I" } : Jvm.MethodName)) ∈ zTb := zTb_of 1045 (by decide +kernel) (by decide +kernel)
theorem kw_1046 : (Jvm.Cond.methodLink "java/lang/AbstractStringBuilder" (208 : Nat) ({ cls := "java/lang/AbstractStringBuilder", name := "putStringAt", desc := "(ILjava/lang/String;)V" } : Jvm.MethodName)) ∈ zTb := zTb_of 1046 (by decide +kernel) (by decide +kernel)
theorem kw_1048 : (Jvm.Cond.instanceMethod ({ cls := "java/lang/AbstractStringBuilder", name := "putStringAt", desc := "(ILjava/lang/String;)V" } : Jvm.MethodName)) ∈ zTb := zTb_of 1048 (by decide +kernel) (by decide +kernel)
theorem kw_1049 : (Jvm.Cond.code ({ cls := "java/lang/AbstractStringBuilder", name := "putStringAt", desc := "(ILjava/lang/String;)V" } : Jvm.MethodName) prog_14_method_73_code (3 : Nat) (Option.none : Option Jvm.ClassFile.FieldType)) ∈ zTb := zTb_of 1049 (by decide +kernel) (by decide +kernel)
theorem hyJ5_putStringAt_47b60 : yJ5_putStringAt_47b60.cls ≠ "java/lang/invoke/MethodHandle" ∧ yJ5_putStringAt_47b60.cls ≠ "java/lang/invoke/VarHandle" ∧ (parseMethodDescriptor yJ5_putStringAt_47b60.desc).map (fun d => d.parameters.length) = some 2 := ⟨by decide +kernel, by decide +kernel, by decide +kernel⟩
theorem kw_1084 : (Jvm.Cond.methodLink "java/lang/StringBuilder" (50 : Nat) ({ cls := "java/lang/AbstractStringBuilder", name := "append", desc := "(C)Ljava/lang/AbstractStringBuilder;" } : Jvm.MethodName)) ∈ zTb := zTb_of 1084 (by decide +kernel) (by decide +kernel)
theorem kw_1352 : (Jvm.Cond.sameMethod "java/lang/AbstractStringBuilder" "java/lang/AbstractStringBuilder" "append" "(C)Ljava/lang/AbstractStringBuilder;") ∈ zTb := zTb_of 1352 (by decide +kernel) (by decide +kernel)
theorem kw_1085 : (Jvm.Cond.instanceMethod ({ cls := "java/lang/AbstractStringBuilder", name := "append", desc := "(C)Ljava/lang/AbstractStringBuilder;" } : Jvm.MethodName)) ∈ zTb := zTb_of 1085 (by decide +kernel) (by decide +kernel)
theorem kw_1086 : (Jvm.Cond.code ({ cls := "java/lang/AbstractStringBuilder", name := "append", desc := "(C)Ljava/lang/AbstractStringBuilder;" } : Jvm.MethodName) prog_14_method_31_code (2 : Nat) (Option.some (Jvm.ClassFile.FieldType.object "java/lang/AbstractStringBuilder"))) ∈ zTb := zTb_of 1086 (by decide +kernel) (by decide +kernel)
theorem gUJ5_append_3fe6f : GoodIn zTb (va_wsSU "java/lang/StringBuilder" 50 yJ5_append_3fe6f (zWs yJ5_append_3fe6f prog_14_method_31_code 2 (Option.some (Jvm.ClassFile.FieldType.object "java/lang/AbstractStringBuilder")))) := fun w hw => by
  rcases List.mem_append.mp hw with hw | hw
  · simp only [List.mem_cons, List.not_mem_nil, or_false] at hw
    rcases hw with rfl | rfl | rfl | rfl | rfl
    · exact ⟨kw_1084, zTb_good _ kw_1084⟩
    · exact ⟨kw_1352, zTb_good _ kw_1352⟩
    · exact ⟨kw_981, zTb_good _ kw_981⟩
    · exact ⟨kw_1085, zTb_good _ kw_1085⟩
    · exact ⟨kw_14, zTb_good _ kw_14⟩
  · exact zGood kw_1086 w hw
theorem hUJ5_append_3fe6f : yJ5_append_3fe6f.name ≠ "<init>" ∧ (parseMethodDescriptor yJ5_append_3fe6f.desc).map (fun d => d.parameters.length) = some 1 := ⟨by decide +kernel, by decide +kernel⟩
theorem kw_1098 : (Jvm.Cond.methodLink "java/lang/StringBuilder" (53 : Nat) ({ cls := "java/lang/AbstractStringBuilder", name := "append", desc := "(I)Ljava/lang/AbstractStringBuilder;" } : Jvm.MethodName)) ∈ zTb := zTb_of 1098 (by decide +kernel) (by decide +kernel)
theorem kw_1353 : (Jvm.Cond.sameMethod "java/lang/AbstractStringBuilder" "java/lang/AbstractStringBuilder" "append" "(I)Ljava/lang/AbstractStringBuilder;") ∈ zTb := zTb_of 1353 (by decide +kernel) (by decide +kernel)
theorem kw_1099 : (Jvm.Cond.instanceMethod ({ cls := "java/lang/AbstractStringBuilder", name := "append", desc := "(I)Ljava/lang/AbstractStringBuilder;" } : Jvm.MethodName)) ∈ zTb := zTb_of 1099 (by decide +kernel) (by decide +kernel)
theorem kw_1100 : (Jvm.Cond.code ({ cls := "java/lang/AbstractStringBuilder", name := "append", desc := "(I)Ljava/lang/AbstractStringBuilder;" } : Jvm.MethodName) prog_14_method_32_code (4 : Nat) (Option.some (Jvm.ClassFile.FieldType.object "java/lang/AbstractStringBuilder"))) ∈ zTb := zTb_of 1100 (by decide +kernel) (by decide +kernel)
theorem gUJ5_append_c97b9 : GoodIn zTb (va_wsSU "java/lang/StringBuilder" 53 yJ5_append_c97b9 (zWs yJ5_append_c97b9 prog_14_method_32_code 4 (Option.some (Jvm.ClassFile.FieldType.object "java/lang/AbstractStringBuilder")))) := fun w hw => by
  rcases List.mem_append.mp hw with hw | hw
  · simp only [List.mem_cons, List.not_mem_nil, or_false] at hw
    rcases hw with rfl | rfl | rfl | rfl | rfl
    · exact ⟨kw_1098, zTb_good _ kw_1098⟩
    · exact ⟨kw_1353, zTb_good _ kw_1353⟩
    · exact ⟨kw_981, zTb_good _ kw_981⟩
    · exact ⟨kw_1099, zTb_good _ kw_1099⟩
    · exact ⟨kw_14, zTb_good _ kw_14⟩
  · exact zGood kw_1100 w hw
theorem hUJ5_append_c97b9 : yJ5_append_c97b9.name ≠ "<init>" ∧ (parseMethodDescriptor yJ5_append_c97b9.desc).map (fun d => d.parameters.length) = some 1 := ⟨by decide +kernel, by decide +kernel⟩
theorem kw_987 : (Jvm.Cond.methodLink "java/lang/StringBuilder" (29 : Nat) ({ cls := "java/lang/AbstractStringBuilder", name := "append", desc := "(Ljava/lang/String;)Ljava/lang/AbstractStringBuilder;" } : Jvm.MethodName)) ∈ zTb := zTb_of 987 (by decide +kernel) (by decide +kernel)
theorem kw_1345 : (Jvm.Cond.sameMethod "java/lang/AbstractStringBuilder" "java/lang/AbstractStringBuilder" "append" "(Ljava/lang/String;)Ljava/lang/AbstractStringBuilder;") ∈ zTb := zTb_of 1345 (by decide +kernel) (by decide +kernel)
theorem kw_988 : (Jvm.Cond.instanceMethod ({ cls := "java/lang/AbstractStringBuilder", name := "append", desc := "(Ljava/lang/String;)Ljava/lang/AbstractStringBuilder;" } : Jvm.MethodName)) ∈ zTb := zTb_of 988 (by decide +kernel) (by decide +kernel)
theorem kw_989 : (Jvm.Cond.code ({ cls := "java/lang/AbstractStringBuilder", name := "append", desc := "(Ljava/lang/String;)Ljava/lang/AbstractStringBuilder;" } : Jvm.MethodName) prog_14_method_22_code (3 : Nat) (Option.some (Jvm.ClassFile.FieldType.object "java/lang/AbstractStringBuilder"))) ∈ zTb := zTb_of 989 (by decide +kernel) (by decide +kernel)
theorem gUJ5_append_cf1ce : GoodIn zTb (va_wsSU "java/lang/StringBuilder" 29 yJ5_append_cf1ce (zWs yJ5_append_cf1ce prog_14_method_22_code 3 (Option.some (Jvm.ClassFile.FieldType.object "java/lang/AbstractStringBuilder")))) := fun w hw => by
  rcases List.mem_append.mp hw with hw | hw
  · simp only [List.mem_cons, List.not_mem_nil, or_false] at hw
    rcases hw with rfl | rfl | rfl | rfl | rfl
    · exact ⟨kw_987, zTb_good _ kw_987⟩
    · exact ⟨kw_1345, zTb_good _ kw_1345⟩
    · exact ⟨kw_981, zTb_good _ kw_981⟩
    · exact ⟨kw_988, zTb_good _ kw_988⟩
    · exact ⟨kw_14, zTb_good _ kw_14⟩
  · exact zGood kw_989 w hw
theorem hUJ5_append_cf1ce : yJ5_append_cf1ce.name ≠ "<init>" ∧ (parseMethodDescriptor yJ5_append_cf1ce.desc).map (fun d => d.parameters.length) = some 1 := ⟨by decide +kernel, by decide +kernel⟩








theorem zcY_of {σ : zS} {a b k1 k2 n : Nat} (ha : σ.1 a = (2, k1)) (hb : σ.1 b = (2, k2)) (h1 : n ≤ k1) (h2 : n ≤ k2) (h3 : n < 1000) (hf : ∀ i, i < n → fits .byte (.int (σ.2.1 a i)) = true) : zcY σ a (zi 0) b (zi 0) (zi (n : Nat)) = some (zcp σ a 0 b 0 n) := by
  have e0 : (zi 0).toNatClampNeg = 0 := by decide
  have en : (zi (n : Nat)).toNatClampNeg = n := by rw [zi_nat (by omega) (by omega)]; exact Int.toNat_natCast n
  have h0 : ¬ zi (n : Nat) < 0 := fun q => by
    rw [show (0 : Int32) = zi 0 from rfl, zi_lt (by omega) (by omega) (by omega) (by omega)] at q
    omega
  unfold zcY
  rw [e0, en, if_pos ⟨by rw [ha], by rw [hb], by decide, by decide, h0, by rw [ha]; dsimp only; omega, by rw [hb]; dsimp only; omega, List.all_eq_true.mpr (fun i hi => by rw [Nat.zero_add]; exact hf i (List.mem_range.mp hi))⟩]
section GR
variable {D : va_G} {Ca : Nat → ClassId} {B : Nat} {En : State → Prop} {b da cap lo : Nat} {tx : List Int32}
theorem mJ7_copyOf (l : Launch) (hE : zEk B En) (σ : zS) (N : Nat) {a n : Nat} (ha : a < N) (hda : σ.1 a = (2, cap)) (hf : ∀ i, i < cap → fits .byte (.int (σ.2.1 a i)) = true) (hc : cap < n) (hn : n ≤ 602) : zMKr l D Ca B En yJ7_copyOf_9075b cJ7_copyOf_9075b 3 (Option.some (Jvm.ClassFile.FieldType.array Jvm.ClassFile.FieldType.byte)) 1 64 1 602 [.ref a, .int (zi (n : Nat))] σ N (fun τ r N2 => τ = zcp (znew σ N (2, n)) a 0 N 0 cap ∧ r = N ∧ N2 = N + 1) := by
  refine zMet_Kr (own := RJ7) hE (by decide +kernel) rfl (Nat.le_of_ble_eq_true rfl) (fun p e s m args below meth c C hr hi => ?_)
  refine z_iload_n C dJ7_copyOf_9075b_0 rfl 1 rfl ?_
  refine z_aload_n C dJ7_copyOf_9075b_1 rfl 0 rfl ?_
  refine z_alen C (zlen_2 hda) dJ7_copyOf_9075b_2 ?_
  refine z_icmp_ne C 14 dJ7_copyOf_9075b_3 (by decide) (fun _ => ?_) (fun q => absurd q (fun q => by rw [zi_eq (by omega) (by omega) (by omega) (by omega)] at q; omega))
  refine z_iload_n C dJ7_copyOf_9075b_14 rfl 1 rfl ?_
  have en : (zi (n : Nat)).toNatClampNeg = n := by rw [zi_nat (by omega) (by omega)]; exact Int.toNat_natCast n
  have h0 : ¬ zi (n : Nat) < 0 := fun q => by rw [show (0 : Int32) = zi 0 from rfl, zi_lt (by omega) (by omega) (by omega) (by omega)] at q; omega
  refine z_newB (n9 := n) C kw_55 h0 en (by omega) (Nat.le_of_ble_eq_true rfl) (by show 0 + n ≤ 602; omega) dJ7_copyOf_9075b_15 ?_
  have e1 := znew_o (σ := σ) (N := N) (a := a) (q := (2, n)) (by omega)
  refine z_astore_n (lv2 := [(2, .ref N), (0, .ref a), (1, .int (zi (n : Nat)))]) C dJ7_copyOf_9075b_17 rfl (by decide) rfl ?_
  refine z_aload_n C dJ7_copyOf_9075b_18 rfl 1 rfl ?_
  refine z_iconst C (zi 0) dJ7_copyOf_9075b_19 (by decide) ?_
  refine z_aload_n C dJ7_copyOf_9075b_20 rfl 0 rfl ?_
  refine z_iconst C (zi 0) dJ7_copyOf_9075b_21 (by decide) ?_
  refine z_aload_n C dJ7_copyOf_9075b_22 rfl 1 rfl ?_
  refine z_alen C (zlen_2 (by rw [e1.1]; exact hda)) dJ7_copyOf_9075b_23 ?_
  refine z_iload_n C dJ7_copyOf_9075b_24 rfl 2 rfl ?_
  have hRm : zRm (zRoomN 1 64 1 602) 1 64 (0 + 1) (0 + n) := ⟨Nat.le_refl _, Nat.le_refl _, by show 0 + 1 ≤ 1; omega, by show 0 + n ≤ 602; omega⟩
  refine z_mmin (FR := 1) (LR := 64) C hRm (Nat.le_of_ble_eq_true rfl) (Nat.le_of_ble_eq_true rfl) kw_1023 kw_299 kw_11 kw_300 (Nat.le_of_ble_eq_true rfl) dJ7_copyOf_9075b_25 ?_
  rw [if_neg (show ¬ zi (n : Nat) < zi (cap : Nat) from fun q => by rw [zi_lt (by omega) (by omega) (by omega) (by omega)] at q; omega)]
  refine z_cY C (zcY_of (by rw [e1.1]; exact hda) znew_k (Nat.le_refl _) (by omega) (by omega) (fun i hi => by rw [e1.2.1]; exact hf i hi)) hRm (Nat.le_of_ble_eq_true rfl) (Nat.le_of_ble_eq_true rfl) kw_1024 kw_303 kw_302 kw_12 (Nat.le_of_ble_eq_true rfl) dJ7_copyOf_9075b_28 ?_
  refine z_aload_n C dJ7_copyOf_9075b_31 rfl 0 rfl ?_
  exact zfin_Kr (K := fun τ r N2 => τ = zcp (znew σ N (2, n)) a 0 N 0 cap ∧ r = N ∧ N2 = N + 1) C ⟨rfl, rfl, rfl⟩ hr (Or.inr ⟨_, rfl⟩) (by omega) (Nat.le_of_ble_eq_true rfl) (by omega) dJ7_copyOf_9075b_32
theorem mJ5_ensure (l : Launch) (hE : zEk B En) (ev : zEv) (hZ : ∀ U : State, En U → zEnv ev B U) (hP : ∀ U : State, En U → zSl U) (σ : zS) (N : Nat) {n k0 : Nat} (h : SBn σ N lo b tx k0) (hz : zfree σ N) (hlo : lo ≤ N) (hn : n ≤ 300) : zMKw l D Ca B En yJ5_ensureCapacityInternal_d00df cJ5_ensureCapacityInternal_d00df 3 3 86 1 602 [.ref b, .int (zi (n : Nat))] σ N (KSB lo b tx n σ) := by
  refine zMet_Kw (own := RJ5) hE (by decide +kernel) rfl (Nat.le_of_ble_eq_true rfl) (fun p e s m args below meth c C hr hi => ?_)
  obtain ⟨da, cap, h1, -, ⟨h3, h4⟩, h5, h6, h7, h8⟩ := h
  refine z_aload_n C dJ5_ensureCapacityInternal_d00df_0 rfl 0 rfl ?_
  refine z_gR (Cn := RS10) (T := TS10) (Nf := 4) (k := 10) (j := 0) C (sb_val h1) rfl rfl zin_10 (by decide) kw_969 rfl rfl dJ5_ensureCapacityInternal_d00df_1 ?_
  refine z_alen C (sb_len h1) dJ5_ensureCapacityInternal_d00df_4 ?_
  refine z_aload_n C dJ5_ensureCapacityInternal_d00df_5 rfl 0 rfl ?_
  refine z_gI (Cn := RS10) (T := TS10) (Nf := 4) (k := 10) (j := 1) C (sb_cod h1) rfl rfl zin_10 (by decide) kw_970 rfl rfl dJ5_ensureCapacityInternal_d00df_6 ?_
  refine z_ishr C dJ5_ensureCapacityInternal_d00df_9 ?_
  rw [shr_0]
  refine z_istore_n (lv2 := [(2, .int (zi (cap : Nat))), (0, .ref b), (1, .int (zi (n : Nat)))]) C dJ5_ensureCapacityInternal_d00df_10 rfl (by decide) rfl ?_
  refine z_iload_n C dJ5_ensureCapacityInternal_d00df_11 rfl 2 rfl ?_
  refine z_iload_n C dJ5_ensureCapacityInternal_d00df_12 rfl 0 rfl ?_
  refine z_isub C dJ5_ensureCapacityInternal_d00df_13 ?_
  rw [zi_sub]
  by_cases q9 : n ≤ cap
  · skip
    refine z_if_le C 38 dJ5_ensureCapacityInternal_d00df_14 (by decide) (fun _ => ?_) (fun q => absurd (zi_yle (by omega) (by omega) (by omega)) q)
    exact zfin_Kw (K := KSB lo b tx n σ) C ⟨⟨da, cap, h1, q9, ⟨h3, h4⟩, h5, h6, h7, h8⟩, zeq_refl0, hz⟩ hr (Nat.le_refl _) (by omega) (by omega) dJ5_ensureCapacityInternal_d00df_38
  · skip
    refine z_if_le C 38 dJ5_ensureCapacityInternal_d00df_14 (by decide) (fun q => absurd q (zi_nle (by omega) (by omega) (by omega))) (fun _ => ?_)
    refine z_aload_n C dJ5_ensureCapacityInternal_d00df_17 rfl 1 rfl ?_
    refine z_aload_n C dJ5_ensureCapacityInternal_d00df_18 rfl 1 rfl ?_
    refine z_gR (Cn := RS10) (T := TS10) (Nf := 4) (k := 10) (j := 0) C (sb_val h1) rfl rfl zin_10 (by decide) kw_969 rfl rfl dJ5_ensureCapacityInternal_d00df_19 ?_
    refine z_aload_n C dJ5_ensureCapacityInternal_d00df_22 rfl 1 rfl ?_
    refine z_iload_n C dJ5_ensureCapacityInternal_d00df_23 rfl 2 rfl ?_
    have hRm : zRm (zRoomN 3 86 1 602) 3 86 (0) (0) := ⟨Nat.le_refl _, Nat.le_refl _, by show 0 ≤ 1; omega, by show 0 ≤ 602; omega⟩
    refine z_callBi (As := [.int (zi (n : Nat))]) (F0 := 3) (L0 := 86) C (mJ5_newCapacity l C.2.2.2.2.2.2.2.1 σ N h1 (by omega) (by omega)) hRm h1.1 kw_1001 kw_14 kw_998 kw_1000 (va_Nw.use rfl ((hP s C.2.2.2.2.2.2.1).1 yJ5_newCapacity_0f7a4 (List.mem_of_getElem? (i := 1) rfl))) hyJ5_newCapacity_0f7a4 (Nat.le_of_ble_eq_true rfl) (Nat.le_of_ble_eq_true rfl) rfl rfl (Nat.le_of_ble_eq_true rfl) dJ5_ensureCapacityInternal_d00df_24 ?_
    have hm : (cap : Int) < (cap : Int) + (if (n : Int) - cap < (cap : Int) + 2 then (cap : Int) + 2 else (n : Int) - cap) ∧ (n : Int) ≤ (cap : Int) + (if (n : Int) - cap < (cap : Int) + 2 then (cap : Int) + 2 else (n : Int) - cap) ∧ (cap : Int) + (if (n : Int) - cap < (cap : Int) + 2 then (cap : Int) + 2 else (n : Int) - cap) ≤ 602 := by split <;> omega
    generalize (cap : Int) + (if (n : Int) - cap < (cap : Int) + 2 then (cap : Int) + 2 else (n : Int) - cap) = M at hm ⊢
    obtain ⟨M, rfl⟩ := nat_of (show (0 : Int) ≤ M by omega)
    refine z_aload_n C dJ5_ensureCapacityInternal_d00df_27 rfl 1 rfl ?_
    refine z_gI (Cn := RS10) (T := TS10) (Nf := 4) (k := 10) (j := 1) C (sb_cod h1) rfl rfl zin_10 (by decide) kw_970 rfl rfl dJ5_ensureCapacityInternal_d00df_28 ?_
    refine z_ishl C dJ5_ensureCapacityInternal_d00df_31 ?_
    rw [shl_0]
    refine z_callSr (As := [.ref da, .int (zi (M : Nat))]) C (mJ7_copyOf l C.2.2.2.2.2.2.2.1 σ N h8 h1.2.2.2.2.1 h1.2.2.2.2.2.2.2 (by omega) (by omega)) kw_1015 kw_19 kw_1013 kw_1014 hyJ7_copyOf_9075b (Nat.le_of_ble_eq_true rfl) (Nat.le_of_ble_eq_true rfl) rfl rfl (Nat.le_of_ble_eq_true rfl) dJ5_ensureCapacityInternal_d00df_32 (Nat.le_of_ble_eq_true rfl) (Nat.le_of_ble_eq_true rfl) (fun τ r N2 hK hN => ?_)
    obtain ⟨rfl, rfl, rfl⟩ := hK
    have kb : ((zcp (znew σ r (2, M)) da 0 r 0 cap).1 b).1 = 15 := by show ((znew σ r (2, M)).1 b).1 = 15; rw [(znew_o (σ := σ) (N := r) (a := b) (q := (2, M)) (by omega)).1]; exact h1.1
    refine z_put (ty := .array .byte) (τ := zuR (zcp (znew σ r (2, M)) da 0 r 0 cap) b 0 (some r)) (Cn := RS10) (T := TS10) (Nf := 4) (k := 10) (j := 0) C rfl rfl zin_10 (by decide) kw_969 rfl tyS10 tyS10_ok nmS10 rfl (by decide +kernel) rfl rfl kb kb (zfs_setR _ b (some r) rfl) (fun b hb => zuR_off hb) dJ5_ensureCapacityInternal_d00df_35 ?_
    exact zfin_Kw (K := KSB lo b tx n σ) C ⟨⟨r, M, sb_move h1 h7 h8 (by omega), by omega, ⟨by omega, by omega⟩, h5, by omega, by omega, by omega⟩, zeq_tr (zeq_tr (zeq_nw hlo) (zeq_cp hlo)) (zeq_uR h5), zfree_k (zfree_nw hz) rfl⟩ hr (by omega) (Nat.le_of_ble_eq_true rfl) (Nat.le_of_ble_eq_true rfl) dJ5_ensureCapacityInternal_d00df_38
theorem mJ5_appendC (l : Launch) (hE : zEk B En) (ev : zEv) (hZ : ∀ U : State, En U → zEnv ev B U) (hP : ∀ U : State, En U → zSl U) (σ : zS) (N : Nat) {k k0 : Nat} (h : SBn σ N lo b tx k0) (hz : zfree σ N) (hlo : lo ≤ N) (hn : tx.length + 1 ≤ 300) (hk : k < 128) : zMKr l D Ca B En yJ5_append_3fe6f cJ5_append_3fe6f 2 (Option.some (Jvm.ClassFile.FieldType.object "java/lang/AbstractStringBuilder")) 4 108 1 602 [.ref b, .int (zi (k : Nat))] σ N (fun τ r N2 => r = b ∧ KSB lo b (tx ++ [nI k]) 0 σ τ N2) := by
  refine zMet_Kr (own := RJ5) hE (by decide +kernel) rfl (Nat.le_of_ble_eq_true rfl) (fun p e s m args below meth c C hr hi => ?_)
  obtain ⟨da0, cap0, g1, g2, g3⟩ := h
  refine z_aload_n C dJ5_append_3fe6f_0 rfl 0 rfl ?_
  refine z_aload_n C dJ5_append_3fe6f_1 rfl 0 rfl ?_
  refine z_gI (Cn := RS10) (T := TS10) (Nf := 4) (k := 10) (j := 3) C (sb_cnt g1) rfl rfl zin_10 (by decide) kw_972 rfl rfl dJ5_append_3fe6f_2 ?_
  refine z_iconst C (zi 1) dJ5_append_3fe6f_5 (by decide) ?_
  refine z_iadd C dJ5_append_3fe6f_6 ?_
  rw [zi_add, show ((tx.length : Nat) : Int) + 1 = ((tx.length + 1 : Nat) : Int) from by omega]
  refine z_callBw (As := [.int (zi ((tx.length + 1 : Nat) : Int))]) C (mJ5_ensure l C.2.2.2.2.2.2.2.1 ev hZ hP σ N ⟨da0, cap0, g1, g2, g3⟩ hz hlo hn) kw_997 kw_14 kw_994 g1.1 kw_996 (va_Nw.use rfl ((hP s C.2.2.2.2.2.2.1).1 yJ5_ensureCapacityInternal_d00df (List.mem_of_getElem? (i := 0) rfl))) hyJ5_ensureCapacityInternal_d00df (Nat.le_of_ble_eq_true rfl) (Nat.le_of_ble_eq_true rfl) rfl rfl (Nat.le_of_ble_eq_true rfl) dJ5_append_3fe6f_7 (Nat.le_of_ble_eq_true rfl) (Nat.le_of_ble_eq_true rfl) (fun τ N2 hK hN => ?_)
  obtain ⟨⟨da, cap, h1, h2, ⟨h3, h4⟩, h5, h6, h7, h8⟩, hq, hz2⟩ := hK
  have hn9 := sb_ne h1
  have hRm : zRm (zRoomN 4 108 1 602) 4 108 (0 + 1) (0 + 602) := ⟨Nat.le_refl _, Nat.le_refl _, by show 0 + 1 ≤ 1; omega, by show 0 + 602 ≤ 602; omega⟩
  refine z_aload_n C dJ5_append_3fe6f_10 rfl 0 rfl ?_
  refine z_callBi (As := []) (F0 := 4) (L0 := 108) C (mJ5_isLatin1 l C.2.2.2.2.2.2.2.1 ev hZ τ N2 h1) hRm h1.1 kw_1029 kw_14 kw_1025 kw_1026 (C.2.2.2.1 _ kw_1028) hyJ5_isLatin1_aae02 (Nat.le_of_ble_eq_true rfl) (Nat.le_of_ble_eq_true rfl) rfl rfl (Nat.le_of_ble_eq_true rfl) dJ5_append_3fe6f_11 ?_
  refine z_if_eq C 45 dJ5_append_3fe6f_14 (by decide) (fun q => absurd q (by decide)) (fun _ => ?_)
  refine z_iload_n C dJ5_append_3fe6f_17 rfl 1 rfl ?_
  refine z_callSi (As := [.int (zi (k : Nat))]) (F0 := 4) (L0 := 108) C (mJ1_canEncode l C.2.2.2.2.2.2.2.1 τ N2 (by omega)) hRm kw_1089 kw_21 kw_1087 kw_1088 hyJ1_canEncode_fc78d (Nat.le_of_ble_eq_true rfl) (Nat.le_of_ble_eq_true rfl) rfl rfl (Nat.le_of_ble_eq_true rfl) dJ5_append_3fe6f_18 ?_
  refine z_if_eq C 45 dJ5_append_3fe6f_21 (by decide) (fun q => absurd q (by decide)) (fun _ => ?_)
  refine z_aload_n C dJ5_append_3fe6f_24 rfl 0 rfl ?_
  refine z_gR (Cn := RS10) (T := TS10) (Nf := 4) (k := 10) (j := 0) C (sb_val h1) rfl rfl zin_10 (by decide) kw_969 rfl rfl dJ5_append_3fe6f_25 ?_
  refine z_aload_n C dJ5_append_3fe6f_28 rfl 0 rfl ?_
  refine z_dup C dJ5_append_3fe6f_29 rfl ?_
  refine z_gI (Cn := RS10) (T := TS10) (Nf := 4) (k := 10) (j := 3) C (sb_cnt h1) rfl rfl zin_10 (by decide) kw_972 rfl rfl dJ5_append_3fe6f_30 ?_
  refine z_dup_x1 C dJ5_append_3fe6f_33 rfl rfl ?_
  refine z_iconst C (zi 1) dJ5_append_3fe6f_34 (by decide) ?_
  refine z_iadd C dJ5_append_3fe6f_35 ?_
  rw [zi_add, show ((tx.length : Nat) : Int) + 1 = ((tx.length + 1 : Nat) : Int) from by omega]
  refine z_put (ty := .int) (τ := zuI τ b 3 (zi ((tx.length + 1 : Nat) : Int))) (Cn := RS10) (T := TS10) (Nf := 4) (k := 10) (j := 3) C rfl rfl zin_10 (by decide) kw_972 rfl tyS10 tyS10_ok nmS10 rfl (by decide +kernel) rfl rfl h1.1 h1.1 (zfs_setI _ b (zi ((tx.length + 1 : Nat) : Int)) rfl) (fun b hb => zuI_off hb) dJ5_append_3fe6f_36 ?_
  refine z_iload_n C dJ5_append_3fe6f_39 rfl 1 rfl ?_
  refine z_i2b C dJ5_append_3fe6f_40 ?_
  rw [show (zi (k : Nat)).toInt8.toInt32 = nI k from by rw [zi_nI]; exact b8_128 hk]
  refine z_sB (τ := zuI (zuI τ b 3 (zi ((tx.length + 1 : Nat) : Int))) da tx.length (nI k)) C (zsB_7 (len := cap) ⟨rfl, hk⟩ h1.2.2.2.2.1 (by omega) (by omega)) dJ5_append_3fe6f_41 ?_
  refine z_goto C 75 dJ5_append_3fe6f_42 (by decide) ?_
  refine z_aload_n C dJ5_append_3fe6f_75 rfl 0 rfl ?_
  exact zfin_Kr (K := fun τ r N2 => r = b ∧ KSB lo b (tx ++ [nI k]) 0 σ τ N2) C ⟨rfl, ⟨da, cap, sb_push h1 h2 hk, Nat.zero_le _, ⟨h3, h4⟩, h5, h6, h7, h8⟩, zeq_tr hq (zeq_tr (zeq_uI h5) (zeq_uI h6)), zfree_k hz2 rfl⟩ hr (Or.inl ⟨_, rfl⟩) hN (Nat.le_of_ble_eq_true rfl) (Nat.le_of_ble_eq_true rfl) dJ5_append_3fe6f_76
theorem mJ5_appendI (l : Launch) (hE : zEk B En) (ev : zEv) (hZ : ∀ U : State, En U → zEnv ev B U) (hP : ∀ U : State, En U → zSl U) (dg : Nat × Nat) (hG : ∀ U : State, En U → zDg dg B U) (σ : zS) (N : Nat) {x k0 : Nat} (h : SBn σ N lo b tx k0) (hz : zfree σ N) (hlo : lo ≤ N) (hn : tx.length + 2 ≤ 300) (hx : x < 100) : zMKr l D Ca B En yJ5_append_c97b9 cJ5_append_c97b9 4 (Option.some (Jvm.ClassFile.FieldType.object "java/lang/AbstractStringBuilder")) 4 109 1 602 [.ref b, .int (zi (x : Nat))] σ N (fun τ r N2 => r = b ∧ KSB lo b (tx ++ dgt x) 0 σ τ N2) := by
  refine zMet_Kr (own := RJ5) hE (by decide +kernel) rfl (Nat.le_of_ble_eq_true rfl) (fun p e s m args below meth c C hr hi => ?_)
  obtain ⟨da0, cap0, g1, g2, g3⟩ := h
  refine z_aload_n C dJ5_append_c97b9_0 rfl 0 rfl ?_
  refine z_gI (Cn := RS10) (T := TS10) (Nf := 4) (k := 10) (j := 3) C (sb_cnt g1) rfl rfl zin_10 (by decide) kw_972 rfl rfl dJ5_append_c97b9_1 ?_
  refine z_istore_n (lv2 := [(2, .int (zi (tx.length : Nat))), (0, .ref b), (1, .int (zi (x : Nat)))]) C dJ5_append_c97b9_4 rfl (by decide) rfl ?_
  refine z_iload_n C dJ5_append_c97b9_5 rfl 0 rfl ?_
  refine z_iload_n C dJ5_append_c97b9_6 rfl 2 rfl ?_
  have hRm : zRm (zRoomN 4 109 1 602) 4 109 (0) (0) := ⟨Nat.le_refl _, Nat.le_refl _, by show 0 ≤ 1; omega, by show 0 ≤ 602; omega⟩
  refine z_callSi (As := [.int (zi (x : Nat))]) (F0 := 4) (L0 := 109) C (mJ6_stringSize l C.2.2.2.2.2.2.2.1 σ N (x := (x : Int)) (by omega)) hRm kw_1103 kw_23 kw_1101 kw_1102 hyJ6_stringSize_0f7a4 (Nat.le_of_ble_eq_true rfl) (Nat.le_of_ble_eq_true rfl) rfl rfl (Nat.le_of_ble_eq_true rfl) dJ5_append_c97b9_7 ?_
  by_cases q9 : x < 10
  · skip
    rw [if_pos (by omega)]
    refine z_iadd C dJ5_append_c97b9_10 ?_
    rw [zi_add, show ((tx.length : Nat) : Int) + 1 = ((tx.length + 1 : Nat) : Int) from by omega]
    refine z_istore_n (lv2 := [(3, .int (zi ((tx.length + 1 : Nat) : Int))), (2, .int (zi (tx.length : Nat))), (0, .ref b), (1, .int (zi (x : Nat)))]) C dJ5_append_c97b9_11 rfl (by decide) rfl ?_
    refine z_aload_n C dJ5_append_c97b9_12 rfl 2 rfl ?_
    refine z_iload_n C dJ5_append_c97b9_13 rfl 0 rfl ?_
    refine z_callBw (As := [.int (zi ((tx.length + 1 : Nat) : Int))]) C (mJ5_ensure l C.2.2.2.2.2.2.2.1 ev hZ hP σ N (n := tx.length + 1) ⟨da0, cap0, g1, g2, g3⟩ hz hlo (by omega)) kw_997 kw_14 kw_994 g1.1 kw_996 (va_Nw.use rfl ((hP s C.2.2.2.2.2.2.1).1 yJ5_ensureCapacityInternal_d00df (List.mem_of_getElem? (i := 0) rfl))) hyJ5_ensureCapacityInternal_d00df (Nat.le_of_ble_eq_true rfl) (Nat.le_of_ble_eq_true rfl) rfl rfl (Nat.le_of_ble_eq_true rfl) dJ5_append_c97b9_14 (Nat.le_of_ble_eq_true rfl) (Nat.le_of_ble_eq_true rfl) (fun τ N2 hK hN => ?_)
    obtain ⟨⟨da, cap, h1, h2, ⟨h3, h4⟩, h5, h6, h7, h8⟩, hq, hz2⟩ := hK
    have hRm : zRm (zRoomN 4 109 1 602) 4 109 (0 + 1) (0 + 602) := ⟨Nat.le_refl _, Nat.le_refl _, by show 0 + 1 ≤ 1; omega, by show 0 + 602 ≤ 602; omega⟩
    refine z_aload_n C dJ5_append_c97b9_17 rfl 2 rfl ?_
    refine z_callBi (As := []) (F0 := 4) (L0 := 109) C (mJ5_isLatin1 l C.2.2.2.2.2.2.2.1 ev hZ τ N2 h1) hRm h1.1 kw_1029 kw_14 kw_1025 kw_1026 (C.2.2.2.1 _ kw_1028) hyJ5_isLatin1_aae02 (Nat.le_of_ble_eq_true rfl) (Nat.le_of_ble_eq_true rfl) rfl rfl (Nat.le_of_ble_eq_true rfl) dJ5_append_c97b9_18 ?_
    refine z_if_eq C 37 dJ5_append_c97b9_21 (by decide) (fun q => absurd q (by decide)) (fun _ => ?_)
    refine z_iload_n C dJ5_append_c97b9_24 rfl 3 rfl ?_
    refine z_iload_n C dJ5_append_c97b9_25 rfl 0 rfl ?_
    refine z_aload_n C dJ5_append_c97b9_26 rfl 2 rfl ?_
    refine z_gR (Cn := RS10) (T := TS10) (Nf := 4) (k := 10) (j := 0) C (sb_val h1) rfl rfl zin_10 (by decide) kw_969 rfl rfl dJ5_append_c97b9_27 ?_
    refine z_callSi (As := [.int (zi (x : Nat)), .int (zi ((tx.length + 1 : Nat) : Int)), .ref da]) (F0 := 4) (L0 := 109) C (mJ6_getChars1 l C.2.2.2.2.2.2.2.1 τ N2 dg hG (i := tx.length) hx (by omega) h1.2.2.2.2.1 h2 (by omega)) hRm kw_1106 kw_23 kw_1104 kw_1105 hyJ6_getChars_ba4f3 (Nat.le_of_ble_eq_true rfl) (Nat.le_of_ble_eq_true rfl) rfl rfl (Nat.le_of_ble_eq_true rfl) dJ5_append_c97b9_30 ?_
    refine z_pop C dJ5_append_c97b9_33 rfl ?_
    refine z_goto C 48 dJ5_append_c97b9_34 (by decide) ?_
    refine z_aload_n C dJ5_append_c97b9_48 rfl 2 rfl ?_
    refine z_iload_n C dJ5_append_c97b9_49 rfl 0 rfl ?_
    refine z_put (ty := .int) (τ := zuI (zuI τ da tx.length (nI (48 + x % 10))) b 3 (zi ((tx.length + 1 : Nat) : Int))) (Cn := RS10) (T := TS10) (Nf := 4) (k := 10) (j := 3) C rfl rfl zin_10 (by decide) kw_972 rfl tyS10 tyS10_ok nmS10 rfl (by decide +kernel) rfl rfl h1.1 h1.1 (zfs_setI _ b (zi ((tx.length + 1 : Nat) : Int)) rfl) (fun b hb => zuI_off hb) dJ5_append_c97b9_50 ?_
    refine z_aload_n C dJ5_append_c97b9_53 rfl 2 rfl ?_
    rw [show dgt x = [nI (48 + x % 10)] from by unfold dgt; rw [if_pos q9, zi_nI, Nat.mod_eq_of_lt q9]]
    exact zfin_Kr (K := fun τ r N2 => r = b ∧ KSB lo b (tx ++ [nI (48 + x % 10)]) 0 σ τ N2) C ⟨rfl, ⟨da, cap, sb_push1 h1 h2 (by omega), Nat.zero_le _, ⟨h3, h4⟩, h5, h6, h7, h8⟩, zeq_tr hq (zeq_tr (zeq_uI h6) (zeq_uI h5)), zfree_k hz2 rfl⟩ hr (Or.inl ⟨_, rfl⟩) hN (Nat.le_of_ble_eq_true rfl) (Nat.le_of_ble_eq_true rfl) dJ5_append_c97b9_54
  · skip
    rw [if_neg (by omega)]
    refine z_iadd C dJ5_append_c97b9_10 ?_
    rw [zi_add, show ((tx.length : Nat) : Int) + 2 = ((tx.length + 2 : Nat) : Int) from by omega]
    refine z_istore_n (lv2 := [(3, .int (zi ((tx.length + 2 : Nat) : Int))), (2, .int (zi (tx.length : Nat))), (0, .ref b), (1, .int (zi (x : Nat)))]) C dJ5_append_c97b9_11 rfl (by decide) rfl ?_
    refine z_aload_n C dJ5_append_c97b9_12 rfl 2 rfl ?_
    refine z_iload_n C dJ5_append_c97b9_13 rfl 0 rfl ?_
    refine z_callBw (As := [.int (zi ((tx.length + 2 : Nat) : Int))]) C (mJ5_ensure l C.2.2.2.2.2.2.2.1 ev hZ hP σ N (n := tx.length + 2) ⟨da0, cap0, g1, g2, g3⟩ hz hlo (by omega)) kw_997 kw_14 kw_994 g1.1 kw_996 (va_Nw.use rfl ((hP s C.2.2.2.2.2.2.1).1 yJ5_ensureCapacityInternal_d00df (List.mem_of_getElem? (i := 0) rfl))) hyJ5_ensureCapacityInternal_d00df (Nat.le_of_ble_eq_true rfl) (Nat.le_of_ble_eq_true rfl) rfl rfl (Nat.le_of_ble_eq_true rfl) dJ5_append_c97b9_14 (Nat.le_of_ble_eq_true rfl) (Nat.le_of_ble_eq_true rfl) (fun τ N2 hK hN => ?_)
    obtain ⟨⟨da, cap, h1, h2, ⟨h3, h4⟩, h5, h6, h7, h8⟩, hq, hz2⟩ := hK
    have hRm : zRm (zRoomN 4 109 1 602) 4 109 (0 + 1) (0 + 602) := ⟨Nat.le_refl _, Nat.le_refl _, by show 0 + 1 ≤ 1; omega, by show 0 + 602 ≤ 602; omega⟩
    refine z_aload_n C dJ5_append_c97b9_17 rfl 2 rfl ?_
    refine z_callBi (As := []) (F0 := 4) (L0 := 109) C (mJ5_isLatin1 l C.2.2.2.2.2.2.2.1 ev hZ τ N2 h1) hRm h1.1 kw_1029 kw_14 kw_1025 kw_1026 (C.2.2.2.1 _ kw_1028) hyJ5_isLatin1_aae02 (Nat.le_of_ble_eq_true rfl) (Nat.le_of_ble_eq_true rfl) rfl rfl (Nat.le_of_ble_eq_true rfl) dJ5_append_c97b9_18 ?_
    refine z_if_eq C 37 dJ5_append_c97b9_21 (by decide) (fun q => absurd q (by decide)) (fun _ => ?_)
    refine z_iload_n C dJ5_append_c97b9_24 rfl 3 rfl ?_
    refine z_iload_n C dJ5_append_c97b9_25 rfl 0 rfl ?_
    refine z_aload_n C dJ5_append_c97b9_26 rfl 2 rfl ?_
    refine z_gR (Cn := RS10) (T := TS10) (Nf := 4) (k := 10) (j := 0) C (sb_val h1) rfl rfl zin_10 (by decide) kw_969 rfl rfl dJ5_append_c97b9_27 ?_
    refine z_callSi (As := [.int (zi (x : Nat)), .int (zi ((tx.length + 2 : Nat) : Int)), .ref da]) (F0 := 4) (L0 := 109) C (mJ6_getChars2 l C.2.2.2.2.2.2.2.1 τ N2 dg hG (i := tx.length) hx (by omega) h1.2.2.2.2.1 h2 (by omega)) hRm kw_1106 kw_23 kw_1104 kw_1105 hyJ6_getChars_ba4f3 (Nat.le_of_ble_eq_true rfl) (Nat.le_of_ble_eq_true rfl) rfl rfl (Nat.le_of_ble_eq_true rfl) dJ5_append_c97b9_30 ?_
    refine z_pop C dJ5_append_c97b9_33 rfl ?_
    refine z_goto C 48 dJ5_append_c97b9_34 (by decide) ?_
    refine z_aload_n C dJ5_append_c97b9_48 rfl 2 rfl ?_
    refine z_iload_n C dJ5_append_c97b9_49 rfl 0 rfl ?_
    refine z_put (ty := .int) (τ := zuI (zuI (zuI τ da (tx.length + 1) (nI (48 + x % 10))) da tx.length (nI (48 + x / 10))) b 3 (zi ((tx.length + 2 : Nat) : Int))) (Cn := RS10) (T := TS10) (Nf := 4) (k := 10) (j := 3) C rfl rfl zin_10 (by decide) kw_972 rfl tyS10 tyS10_ok nmS10 rfl (by decide +kernel) rfl rfl h1.1 h1.1 (zfs_setI _ b (zi ((tx.length + 2 : Nat) : Int)) rfl) (fun b hb => zuI_off hb) dJ5_append_c97b9_50 ?_
    refine z_aload_n C dJ5_append_c97b9_53 rfl 2 rfl ?_
    rw [show dgt x = [nI (48 + x / 10), nI (48 + x % 10)] from by unfold dgt; rw [if_neg q9, zi_nI, zi_nI]]
    exact zfin_Kr (K := fun τ r N2 => r = b ∧ KSB lo b (tx ++ [nI (48 + x / 10), nI (48 + x % 10)]) 0 σ τ N2) C ⟨rfl, ⟨da, cap, sb_push2 h1 h2 (by omega) (by omega), Nat.zero_le _, ⟨h3, h4⟩, h5, h6, h7, h8⟩, zeq_tr hq (zeq_tr (zeq_tr (zeq_uI h6) (zeq_uI h6)) (zeq_uI h5)), zfree_k hz2 rfl⟩ hr (Or.inl ⟨_, rfl⟩) hN (Nat.le_of_ble_eq_true rfl) (Nat.le_of_ble_eq_true rfl) dJ5_append_c97b9_54
theorem mJ5_appendT (l : Launch) (hE : zEk B En) (ev : zEv) (hZ : ∀ U : State, En U → zEnv ev B U) (hP : ∀ U : State, En U → zSl U) (σ : zS) (N : Nat) {t k0 : Nat} (h : SBn σ N lo b tx k0) (hz : zfree σ N) (hlo : lo ≤ N) (hn : tx.length + (zsByt.getD t []).length ≤ 300) (ht : t < 19) : zMKr l D Ca B En yJ5_append_cf1ce cJ5_append_cf1ce 3 (Option.some (Jvm.ClassFile.FieldType.object "java/lang/AbstractStringBuilder")) 4 110 1 602 [.ref b, .ref (ev.2.1 t)] σ N (fun τ r N2 => r = b ∧ KSB lo b (tx ++ zsByt.getD t []) 0 σ τ N2) := by
  refine zMet_Kr (own := RJ5) hE (by decide +kernel) rfl (Nat.le_of_ble_eq_true rfl) (fun p e s m args below meth c C hr hi => ?_)
  obtain ⟨da0, cap0, g1, g2, g3⟩ := h
  have hRm : zRm (zRoomN 4 110 1 602) 4 110 (0) (0) := ⟨Nat.le_refl _, Nat.le_refl _, by show 0 ≤ 1; omega, by show 0 ≤ 602; omega⟩
  refine z_aload_n C dJ5_append_cf1ce_0 rfl 1 rfl ?_
  refine z_ifnonnull C 9 dJ5_append_cf1ce_1 (by decide) ?_
  refine z_aload_n C dJ5_append_cf1ce_9 rfl 1 rfl ?_
  refine z_callTi (As := []) (F0 := 4) (L0 := 110) C ev hZ (mJ0_length_8abf5 l D Ca B En C.2.2.2.2.2.2.2.1 ev hZ σ N t _ (zsck_ok (ps_len ht)).2) hRm ht rfl kw_791 kw_16 kw_1045 kw_789 kw_790 hyJ0_length_8abf5 (Nat.le_of_ble_eq_true rfl) (Nat.le_of_ble_eq_true rfl) rfl rfl (Nat.le_of_ble_eq_true rfl) dJ5_append_cf1ce_10 ?_
  refine z_istore_n (lv2 := [(2, .int (zi ((zsByt.getD t []).length : Nat))), (0, .ref b), (1, .ref (ev.2.1 t))]) C dJ5_append_cf1ce_13 rfl (by decide) rfl ?_
  refine z_aload_n C dJ5_append_cf1ce_14 rfl 1 rfl ?_
  refine z_aload_n C dJ5_append_cf1ce_15 rfl 1 rfl ?_
  refine z_gI (Cn := RS10) (T := TS10) (Nf := 4) (k := 10) (j := 3) C (sb_cnt g1) rfl rfl zin_10 (by decide) kw_972 rfl rfl dJ5_append_cf1ce_16 ?_
  refine z_iload_n C dJ5_append_cf1ce_19 rfl 0 rfl ?_
  refine z_iadd C dJ5_append_cf1ce_20 ?_
  rw [zi_add, show ((tx.length : Nat) : Int) + (((zsByt.getD t []).length : Nat) : Int) = ((tx.length + (zsByt.getD t []).length : Nat) : Int) from by omega]
  refine z_callBw (As := [.int (zi ((tx.length + (zsByt.getD t []).length : Nat) : Int))]) C (mJ5_ensure l C.2.2.2.2.2.2.2.1 ev hZ hP σ N ⟨da0, cap0, g1, g2, g3⟩ hz hlo hn) kw_997 kw_14 kw_994 g1.1 kw_996 (va_Nw.use rfl ((hP s C.2.2.2.2.2.2.1).1 yJ5_ensureCapacityInternal_d00df (List.mem_of_getElem? (i := 0) rfl))) hyJ5_ensureCapacityInternal_d00df (Nat.le_of_ble_eq_true rfl) (Nat.le_of_ble_eq_true rfl) rfl rfl (Nat.le_of_ble_eq_true rfl) dJ5_append_cf1ce_21 (Nat.le_of_ble_eq_true rfl) (Nat.le_of_ble_eq_true rfl) (fun τ N2 hK hN => ?_)
  obtain ⟨⟨da, cap, h1, h2, ⟨h3, h4⟩, h5, h6, h7, h8⟩, hq, hz2⟩ := hK
  clear hRm
  have hRm : zRm (zRoomN 4 110 1 602) 4 110 (0 + 1) (0 + 602) := ⟨Nat.le_refl _, Nat.le_refl _, by show 0 + 1 ≤ 1; omega, by show 0 + 602 ≤ 602; omega⟩
  refine z_aload_n C dJ5_append_cf1ce_24 rfl 1 rfl ?_
  refine z_aload_n C dJ5_append_cf1ce_25 rfl 1 rfl ?_
  refine z_gI (Cn := RS10) (T := TS10) (Nf := 4) (k := 10) (j := 3) C (sb_cnt h1) rfl rfl zin_10 (by decide) kw_972 rfl rfl dJ5_append_cf1ce_26 ?_
  refine z_aload_n C dJ5_append_cf1ce_29 rfl 2 rfl ?_
  refine z_callBv (As := [.int (zi (tx.length : Nat)), .ref (ev.2.1 t)]) (F0 := 4) (L0 := 110) C (mJ5_putStringAt l C.2.2.2.2.2.2.2.1 ev hZ τ N2 hP h1 ht (by omega) h2) hRm h1.1 kw_1049 kw_14 kw_1046 kw_1048 (va_Nw.use rfl ((hP s C.2.2.2.2.2.2.1).1 yJ5_putStringAt_47b60 (List.mem_of_getElem? (i := 2) rfl))) hyJ5_putStringAt_47b60 (Nat.le_of_ble_eq_true rfl) (Nat.le_of_ble_eq_true rfl) rfl rfl (Nat.le_of_ble_eq_true rfl) dJ5_append_cf1ce_30 ?_
  have ec : zgI 10 3 (zcpT τ (fun j => (zsByt.getD t []).getD j 0) da tx.length (zsByt.getD t []).length) b = some (zi (tx.length : Nat)) := by
    unfold zgI
    rw [if_pos (show ((zcpT τ (fun j => (zsByt.getD t []).getD j 0) da tx.length (zsByt.getD t []).length).1 b).1 = 10 + 5 from h1.1)]
    show some ((if b = da then _ else τ.2.1 b) 3) = _
    rw [if_neg (sb_ne h1), h1.2.2.2.1]
  refine z_aload_n C dJ5_append_cf1ce_33 rfl 1 rfl ?_
  refine z_dup C dJ5_append_cf1ce_34 rfl ?_
  refine z_gI (Cn := RS10) (T := TS10) (Nf := 4) (k := 10) (j := 3) C (ec) rfl rfl zin_10 (by decide) kw_972 rfl rfl dJ5_append_cf1ce_35 ?_
  refine z_iload_n C dJ5_append_cf1ce_38 rfl 0 rfl ?_
  refine z_iadd C dJ5_append_cf1ce_39 ?_
  rw [zi_add, show ((tx.length : Nat) : Int) + (((zsByt.getD t []).length : Nat) : Int) = ((tx.length + (zsByt.getD t []).length : Nat) : Int) from by omega]
  refine z_put (ty := .int) (τ := zuI (zcpT τ (fun j => (zsByt.getD t []).getD j 0) da tx.length (zsByt.getD t []).length) b 3 (zi ((tx.length + (zsByt.getD t []).length : Nat) : Int))) (Cn := RS10) (T := TS10) (Nf := 4) (k := 10) (j := 3) C rfl rfl zin_10 (by decide) kw_972 rfl tyS10 tyS10_ok nmS10 rfl (by decide +kernel) rfl rfl h1.1 h1.1 (zfs_setI _ b (zi ((tx.length + (zsByt.getD t []).length : Nat) : Int)) rfl) (fun b hb => zuI_off hb) dJ5_append_cf1ce_40 ?_
  refine z_aload_n C dJ5_append_cf1ce_43 rfl 1 rfl ?_
  exact zfin_Kr (K := fun τ r N2 => r = b ∧ KSB lo b (tx ++ zsByt.getD t []) 0 σ τ N2) C ⟨rfl, ⟨da, cap, sb_text h1 h2 (fun i hi => rfl) (fun i hi => by have := ps_fit t ht i hi; rw [Nat.zero_add] at this; exact this), Nat.zero_le _, ⟨h3, h4⟩, h5, h6, h7, h8⟩, zeq_tr hq (zeq_tr (zeq_cT h6) (zeq_uI h5)), zfree_k hz2 rfl⟩ hr (Or.inl ⟨_, rfl⟩) hN (Nat.le_of_ble_eq_true rfl) (Nat.le_of_ble_eq_true rfl) dJ5_append_cf1ce_44
theorem mJ4_appendC (l : Launch) (hE : zEk B En) (ev : zEv) (hZ : ∀ U : State, En U → zEnv ev B U) (hP : ∀ U : State, En U → zSl U) (σ : zS) (N : Nat) {k k0 : Nat} (h : SBn σ N lo b tx k0) (hz : zfree σ N) (hlo : lo ≤ N) (hn : tx.length + 1 ≤ 300) (hk : k < 128) : zMKr l D Ca B En yJ4_append_cf468 cJ4_append_cf468 2 (Option.some (Jvm.ClassFile.FieldType.object "java/lang/StringBuilder")) 5 129 1 602 [.ref b, .int (zi (k : Nat))] σ N (fun τ r N2 => r = b ∧ KSB lo b (tx ++ [nI k]) 0 σ τ N2) := by
  refine zMet_Kr (own := RJ4) hE (by decide +kernel) rfl (Nat.le_of_ble_eq_true rfl) (fun p e s m args below meth c C hr hi => ?_)
  refine z_aload_n C dJ4_append_cf468_0 rfl 0 rfl ?_
  refine z_iload_n C dJ4_append_cf468_1 rfl 1 rfl ?_
  refine z_callUr (As := [.int (zi (k : Nat))]) C (mJ5_appendC l C.2.2.2.2.2.2.2.1 ev hZ hP σ N h hz hlo hn hk) (SBn_k h) gUJ5_append_3fe6f hUJ5_append_3fe6f (Nat.le_of_ble_eq_true rfl) (Nat.le_of_ble_eq_true rfl) rfl rfl (Nat.le_of_ble_eq_true rfl) dJ4_append_cf468_2 (Nat.le_of_ble_eq_true rfl) (Nat.le_of_ble_eq_true rfl) (fun τ r N2 hK hN => ?_)
  refine z_pop C dJ4_append_cf468_5 rfl ?_
  refine z_aload_n C dJ4_append_cf468_6 rfl 0 rfl ?_
  exact zfin_Kr (K := fun τ r N2 => r = b ∧ KSB lo b (tx ++ [nI k]) 0 σ τ N2) C ⟨rfl, hK.2⟩ hr (Or.inl ⟨_, rfl⟩) hN (Nat.le_of_ble_eq_true rfl) (Nat.le_of_ble_eq_true rfl) dJ4_append_cf468_7
theorem mJ4_appendI (l : Launch) (hE : zEk B En) (ev : zEv) (hZ : ∀ U : State, En U → zEnv ev B U) (hP : ∀ U : State, En U → zSl U) (dg : Nat × Nat) (hG : ∀ U : State, En U → zDg dg B U) (σ : zS) (N : Nat) {x k0 : Nat} (h : SBn σ N lo b tx k0) (hz : zfree σ N) (hlo : lo ≤ N) (hn : tx.length + 2 ≤ 300) (hx : x < 100) : zMKr l D Ca B En yJ4_append_bf812 cJ4_append_bf812 2 (Option.some (Jvm.ClassFile.FieldType.object "java/lang/StringBuilder")) 5 132 1 602 [.ref b, .int (zi (x : Nat))] σ N (fun τ r N2 => r = b ∧ KSB lo b (tx ++ dgt x) 0 σ τ N2) := by
  refine zMet_Kr (own := RJ4) hE (by decide +kernel) rfl (Nat.le_of_ble_eq_true rfl) (fun p e s m args below meth c C hr hi => ?_)
  refine z_aload_n C dJ4_append_bf812_0 rfl 0 rfl ?_
  refine z_iload_n C dJ4_append_bf812_1 rfl 1 rfl ?_
  refine z_callUr (As := [.int (zi (x : Nat))]) C (mJ5_appendI l C.2.2.2.2.2.2.2.1 ev hZ hP dg hG σ N h hz hlo hn hx) (SBn_k h) gUJ5_append_c97b9 hUJ5_append_c97b9 (Nat.le_of_ble_eq_true rfl) (Nat.le_of_ble_eq_true rfl) rfl rfl (Nat.le_of_ble_eq_true rfl) dJ4_append_bf812_2 (Nat.le_of_ble_eq_true rfl) (Nat.le_of_ble_eq_true rfl) (fun τ r N2 hK hN => ?_)
  refine z_pop C dJ4_append_bf812_5 rfl ?_
  refine z_aload_n C dJ4_append_bf812_6 rfl 0 rfl ?_
  exact zfin_Kr (K := fun τ r N2 => r = b ∧ KSB lo b (tx ++ dgt x) 0 σ τ N2) C ⟨rfl, hK.2⟩ hr (Or.inl ⟨_, rfl⟩) hN (Nat.le_of_ble_eq_true rfl) (Nat.le_of_ble_eq_true rfl) dJ4_append_bf812_7
theorem mJ4_appendT (l : Launch) (hE : zEk B En) (ev : zEv) (hZ : ∀ U : State, En U → zEnv ev B U) (hP : ∀ U : State, En U → zSl U) (σ : zS) (N : Nat) {t k0 : Nat} (h : SBn σ N lo b tx k0) (hz : zfree σ N) (hlo : lo ≤ N) (hn : tx.length + (zsByt.getD t []).length ≤ 300) (ht : t < 19) : zMKr l D Ca B En yJ4_append_15ec4 cJ4_append_15ec4 2 (Option.some (Jvm.ClassFile.FieldType.object "java/lang/StringBuilder")) 5 132 1 602 [.ref b, .ref (ev.2.1 t)] σ N (fun τ r N2 => r = b ∧ KSB lo b (tx ++ zsByt.getD t []) 0 σ τ N2) := by
  refine zMet_Kr (own := RJ4) hE (by decide +kernel) rfl (Nat.le_of_ble_eq_true rfl) (fun p e s m args below meth c C hr hi => ?_)
  refine z_aload_n C dJ4_append_15ec4_0 rfl 0 rfl ?_
  refine z_aload_n C dJ4_append_15ec4_1 rfl 1 rfl ?_
  refine z_callUr (As := [.ref (ev.2.1 t)]) C (mJ5_appendT l C.2.2.2.2.2.2.2.1 ev hZ hP σ N h hz hlo hn ht) (SBn_k h) gUJ5_append_cf1ce hUJ5_append_cf1ce (Nat.le_of_ble_eq_true rfl) (Nat.le_of_ble_eq_true rfl) rfl rfl (Nat.le_of_ble_eq_true rfl) dJ4_append_15ec4_2 (Nat.le_of_ble_eq_true rfl) (Nat.le_of_ble_eq_true rfl) (fun τ r N2 hK hN => ?_)
  refine z_pop C dJ4_append_15ec4_5 rfl ?_
  refine z_aload_n C dJ4_append_15ec4_6 rfl 0 rfl ?_
  exact zfin_Kr (K := fun τ r N2 => r = b ∧ KSB lo b (tx ++ zsByt.getD t []) 0 σ τ N2) C ⟨rfl, hK.2⟩ hr (Or.inl ⟨_, rfl⟩) hN (Nat.le_of_ble_eq_true rfl) (Nat.le_of_ble_eq_true rfl) dJ4_append_15ec4_7
end GR
