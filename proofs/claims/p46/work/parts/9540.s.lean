/-! SMALL METHODS of texts that are built. -/
theorem dJ8_newLength_cabcc_0 : decode cJ8_newLength_cabcc 0 = .ok (.iload_n 0, 1) := by decide +kernel
theorem dJ8_newLength_cabcc_1 : decode cJ8_newLength_cabcc 1 = .ok (.iload_n 1, 1) := by decide +kernel
theorem dJ8_newLength_cabcc_2 : decode cJ8_newLength_cabcc 2 = .ok (.iload_n 2, 1) := by decide +kernel
theorem dJ8_newLength_cabcc_3 : decode cJ8_newLength_cabcc 3 = .ok (.invokestatic 194, 3) := by decide +kernel
theorem dJ8_newLength_cabcc_6 : decode cJ8_newLength_cabcc 6 = .ok (.iadd, 1) := by decide +kernel
theorem dJ8_newLength_cabcc_7 : decode cJ8_newLength_cabcc 7 = .ok (.istore_n 3, 1) := by decide +kernel
theorem dJ8_newLength_cabcc_8 : decode cJ8_newLength_cabcc 8 = .ok (.iconst 0, 1) := by decide +kernel
theorem dJ8_newLength_cabcc_9 : decode cJ8_newLength_cabcc 9 = .ok (.iload_n 3, 1) := by decide +kernel
theorem dJ8_newLength_cabcc_10 : decode cJ8_newLength_cabcc 10 = .ok (.if_icmp .ge 11, 3) := by decide +kernel
theorem dJ8_newLength_cabcc_13 : decode cJ8_newLength_cabcc 13 = .ok (.iload_n 3, 1) := by decide +kernel
theorem dJ8_newLength_cabcc_14 : decode cJ8_newLength_cabcc 14 = .ok (.ldc 200, 2) := by decide +kernel
theorem dJ8_newLength_cabcc_16 : decode cJ8_newLength_cabcc 16 = .ok (.if_icmp .gt 5, 3) := by decide +kernel
theorem dJ8_newLength_cabcc_19 : decode cJ8_newLength_cabcc 19 = .ok (.iload_n 3, 1) := by decide +kernel
theorem dJ8_newLength_cabcc_20 : decode cJ8_newLength_cabcc 20 = .ok (.ireturn, 1) := by decide +kernel
theorem dJ8_newLength_cabcc_21 : decode cJ8_newLength_cabcc 21 = .ok (.iload_n 0, 1) := by decide +kernel
theorem dJ8_newLength_cabcc_22 : decode cJ8_newLength_cabcc 22 = .ok (.iload_n 1, 1) := by decide +kernel
theorem dJ8_newLength_cabcc_23 : decode cJ8_newLength_cabcc 23 = .ok (.invokestatic 201, 3) := by decide +kernel
theorem dJ8_newLength_cabcc_26 : decode cJ8_newLength_cabcc 26 = .ok (.ireturn, 1) := by decide +kernel
theorem dJ5_newCapacity_0f7a4_0 : decode cJ5_newCapacity_0f7a4 0 = .ok (.aload_n 0, 1) := by decide +kernel
theorem dJ5_newCapacity_0f7a4_1 : decode cJ5_newCapacity_0f7a4 1 = .ok (.getfield 15, 3) := by decide +kernel
theorem dJ5_newCapacity_0f7a4_4 : decode cJ5_newCapacity_0f7a4 4 = .ok (.arraylength, 1) := by decide +kernel
theorem dJ5_newCapacity_0f7a4_5 : decode cJ5_newCapacity_0f7a4 5 = .ok (.istore_n 2, 1) := by decide +kernel
theorem dJ5_newCapacity_0f7a4_6 : decode cJ5_newCapacity_0f7a4 6 = .ok (.iload_n 1, 1) := by decide +kernel
theorem dJ5_newCapacity_0f7a4_7 : decode cJ5_newCapacity_0f7a4 7 = .ok (.aload_n 0, 1) := by decide +kernel
theorem dJ5_newCapacity_0f7a4_8 : decode cJ5_newCapacity_0f7a4 8 = .ok (.getfield 22, 3) := by decide +kernel
theorem dJ5_newCapacity_0f7a4_11 : decode cJ5_newCapacity_0f7a4 11 = .ok (.ishl, 1) := by decide +kernel
theorem dJ5_newCapacity_0f7a4_12 : decode cJ5_newCapacity_0f7a4 12 = .ok (.istore_n 3, 1) := by decide +kernel
theorem dJ5_newCapacity_0f7a4_13 : decode cJ5_newCapacity_0f7a4 13 = .ok (.iload_n 3, 1) := by decide +kernel
theorem dJ5_newCapacity_0f7a4_14 : decode cJ5_newCapacity_0f7a4 14 = .ok (.iload_n 2, 1) := by decide +kernel
theorem dJ5_newCapacity_0f7a4_15 : decode cJ5_newCapacity_0f7a4 15 = .ok (.isub, 1) := by decide +kernel
theorem dJ5_newCapacity_0f7a4_16 : decode cJ5_newCapacity_0f7a4 16 = .ok (.istore 4, 2) := by decide +kernel
theorem dJ5_newCapacity_0f7a4_18 : decode cJ5_newCapacity_0f7a4 18 = .ok (.iload_n 2, 1) := by decide +kernel
theorem dJ5_newCapacity_0f7a4_19 : decode cJ5_newCapacity_0f7a4 19 = .ok (.iload 4, 2) := by decide +kernel
theorem dJ5_newCapacity_0f7a4_21 : decode cJ5_newCapacity_0f7a4 21 = .ok (.iload_n 2, 1) := by decide +kernel
theorem dJ5_newCapacity_0f7a4_22 : decode cJ5_newCapacity_0f7a4 22 = .ok (.iconst 2, 1) := by decide +kernel
theorem dJ5_newCapacity_0f7a4_23 : decode cJ5_newCapacity_0f7a4 23 = .ok (.aload_n 0, 1) := by decide +kernel
theorem dJ5_newCapacity_0f7a4_24 : decode cJ5_newCapacity_0f7a4 24 = .ok (.getfield 22, 3) := by decide +kernel
theorem dJ5_newCapacity_0f7a4_27 : decode cJ5_newCapacity_0f7a4 27 = .ok (.ishl, 1) := by decide +kernel
theorem dJ5_newCapacity_0f7a4_28 : decode cJ5_newCapacity_0f7a4 28 = .ok (.iadd, 1) := by decide +kernel
theorem dJ5_newCapacity_0f7a4_29 : decode cJ5_newCapacity_0f7a4 29 = .ok (.invokestatic 114, 3) := by decide +kernel
theorem dJ5_newCapacity_0f7a4_32 : decode cJ5_newCapacity_0f7a4 32 = .ok (.istore 5, 2) := by decide +kernel
theorem dJ5_newCapacity_0f7a4_34 : decode cJ5_newCapacity_0f7a4 34 = .ok (.iload 5, 2) := by decide +kernel
theorem dJ5_newCapacity_0f7a4_36 : decode cJ5_newCapacity_0f7a4 36 = .ok (.ldc 39, 2) := by decide +kernel
theorem dJ5_newCapacity_0f7a4_38 : decode cJ5_newCapacity_0f7a4 38 = .ok (.if_icmp .ne 13, 3) := by decide +kernel
theorem dJ5_newCapacity_0f7a4_41 : decode cJ5_newCapacity_0f7a4 41 = .ok (.new 120, 3) := by decide +kernel
theorem dJ5_newCapacity_0f7a4_44 : decode cJ5_newCapacity_0f7a4 44 = .ok (.dup, 1) := by decide +kernel
theorem dJ5_newCapacity_0f7a4_45 : decode cJ5_newCapacity_0f7a4 45 = .ok (.ldc 122, 2) := by decide +kernel
theorem dJ5_newCapacity_0f7a4_47 : decode cJ5_newCapacity_0f7a4 47 = .ok (.invokespecial 124, 3) := by decide +kernel
theorem dJ5_newCapacity_0f7a4_50 : decode cJ5_newCapacity_0f7a4 50 = .ok (.athrow, 1) := by decide +kernel
theorem dJ5_newCapacity_0f7a4_51 : decode cJ5_newCapacity_0f7a4 51 = .ok (.iload 5, 2) := by decide +kernel
theorem dJ5_newCapacity_0f7a4_53 : decode cJ5_newCapacity_0f7a4 53 = .ok (.aload_n 0, 1) := by decide +kernel
theorem dJ5_newCapacity_0f7a4_54 : decode cJ5_newCapacity_0f7a4 54 = .ok (.getfield 22, 3) := by decide +kernel
theorem dJ5_newCapacity_0f7a4_57 : decode cJ5_newCapacity_0f7a4 57 = .ok (.ishr, 1) := by decide +kernel
theorem dJ5_newCapacity_0f7a4_58 : decode cJ5_newCapacity_0f7a4 58 = .ok (.ireturn, 1) := by decide +kernel
theorem dJ5_isLatin1_aae02_0 : decode cJ5_isLatin1_aae02 0 = .ok (.getstatic 18, 3) := by decide +kernel
theorem dJ5_isLatin1_aae02_3 : decode cJ5_isLatin1_aae02 3 = .ok (.ifCond .eq 14, 3) := by decide +kernel
theorem dJ5_isLatin1_aae02_6 : decode cJ5_isLatin1_aae02 6 = .ok (.aload_n 0, 1) := by decide +kernel
theorem dJ5_isLatin1_aae02_7 : decode cJ5_isLatin1_aae02 7 = .ok (.getfield 22, 3) := by decide +kernel
theorem dJ5_isLatin1_aae02_10 : decode cJ5_isLatin1_aae02 10 = .ok (.ifCond .ne 7, 3) := by decide +kernel
theorem dJ5_isLatin1_aae02_13 : decode cJ5_isLatin1_aae02 13 = .ok (.iconst 1, 1) := by decide +kernel
theorem dJ5_isLatin1_aae02_14 : decode cJ5_isLatin1_aae02 14 = .ok (.goto 4, 3) := by decide +kernel
theorem dJ5_isLatin1_aae02_17 : decode cJ5_isLatin1_aae02 17 = .ok (.iconst 0, 1) := by decide +kernel
theorem dJ5_isLatin1_aae02_18 : decode cJ5_isLatin1_aae02 18 = .ok (.ireturn, 1) := by decide +kernel
theorem dJ1_canEncode_fc78d_0 : decode cJ1_canEncode_fc78d 0 = .ok (.iload_n 0, 1) := by decide +kernel
theorem dJ1_canEncode_fc78d_1 : decode cJ1_canEncode_fc78d 1 = .ok (.sipush 255, 3) := by decide +kernel
theorem dJ1_canEncode_fc78d_4 : decode cJ1_canEncode_fc78d 4 = .ok (.if_icmp .gt 7, 3) := by decide +kernel
theorem dJ1_canEncode_fc78d_7 : decode cJ1_canEncode_fc78d 7 = .ok (.iconst 1, 1) := by decide +kernel
theorem dJ1_canEncode_fc78d_8 : decode cJ1_canEncode_fc78d 8 = .ok (.goto 4, 3) := by decide +kernel
theorem dJ1_canEncode_fc78d_11 : decode cJ1_canEncode_fc78d 11 = .ok (.iconst 0, 1) := by decide +kernel
theorem dJ1_canEncode_fc78d_12 : decode cJ1_canEncode_fc78d 12 = .ok (.ireturn, 1) := by decide +kernel
theorem dJ5_getValue_6d5f1_0 : decode cJ5_getValue_6d5f1 0 = .ok (.aload_n 0, 1) := by decide +kernel
theorem dJ5_getValue_6d5f1_1 : decode cJ5_getValue_6d5f1 1 = .ok (.getfield 15, 3) := by decide +kernel
theorem dJ5_getValue_6d5f1_4 : decode cJ5_getValue_6d5f1 4 = .ok (.areturn, 1) := by decide +kernel
theorem dJ6_stringSize_0f7a4_0 : decode cJ6_stringSize_0f7a4 0 = .ok (.iconst 1, 1) := by decide +kernel
theorem dJ6_stringSize_0f7a4_1 : decode cJ6_stringSize_0f7a4 1 = .ok (.istore_n 1, 1) := by decide +kernel
theorem dJ6_stringSize_0f7a4_2 : decode cJ6_stringSize_0f7a4 2 = .ok (.iload_n 0, 1) := by decide +kernel
theorem dJ6_stringSize_0f7a4_3 : decode cJ6_stringSize_0f7a4 3 = .ok (.ifCond .lt 8, 3) := by decide +kernel
theorem dJ6_stringSize_0f7a4_6 : decode cJ6_stringSize_0f7a4 6 = .ok (.iconst 0, 1) := by decide +kernel
theorem dJ6_stringSize_0f7a4_7 : decode cJ6_stringSize_0f7a4 7 = .ok (.istore_n 1, 1) := by decide +kernel
theorem dJ6_stringSize_0f7a4_8 : decode cJ6_stringSize_0f7a4 8 = .ok (.iload_n 0, 1) := by decide +kernel
theorem dJ6_stringSize_0f7a4_9 : decode cJ6_stringSize_0f7a4 9 = .ok (.ineg, 1) := by decide +kernel
theorem dJ6_stringSize_0f7a4_10 : decode cJ6_stringSize_0f7a4 10 = .ok (.istore_n 0, 1) := by decide +kernel
theorem dJ6_stringSize_0f7a4_11 : decode cJ6_stringSize_0f7a4 11 = .ok (.bipush (-10), 2) := by decide +kernel
theorem dJ6_stringSize_0f7a4_13 : decode cJ6_stringSize_0f7a4 13 = .ok (.istore_n 2, 1) := by decide +kernel
theorem dJ6_stringSize_0f7a4_14 : decode cJ6_stringSize_0f7a4 14 = .ok (.iconst 1, 1) := by decide +kernel
theorem dJ6_stringSize_0f7a4_15 : decode cJ6_stringSize_0f7a4 15 = .ok (.istore_n 3, 1) := by decide +kernel
theorem dJ6_stringSize_0f7a4_16 : decode cJ6_stringSize_0f7a4 16 = .ok (.iload_n 3, 1) := by decide +kernel
theorem dJ6_stringSize_0f7a4_17 : decode cJ6_stringSize_0f7a4 17 = .ok (.bipush 10, 2) := by decide +kernel
theorem dJ6_stringSize_0f7a4_19 : decode cJ6_stringSize_0f7a4 19 = .ok (.if_icmp .ge 23, 3) := by decide +kernel
theorem dJ6_stringSize_0f7a4_22 : decode cJ6_stringSize_0f7a4 22 = .ok (.iload_n 0, 1) := by decide +kernel
theorem dJ6_stringSize_0f7a4_23 : decode cJ6_stringSize_0f7a4 23 = .ok (.iload_n 2, 1) := by decide +kernel
theorem dJ6_stringSize_0f7a4_24 : decode cJ6_stringSize_0f7a4 24 = .ok (.if_icmp .le 7, 3) := by decide +kernel
theorem dJ6_stringSize_0f7a4_27 : decode cJ6_stringSize_0f7a4 27 = .ok (.iload_n 3, 1) := by decide +kernel
theorem dJ6_stringSize_0f7a4_28 : decode cJ6_stringSize_0f7a4 28 = .ok (.iload_n 1, 1) := by decide +kernel
theorem dJ6_stringSize_0f7a4_29 : decode cJ6_stringSize_0f7a4 29 = .ok (.iadd, 1) := by decide +kernel
theorem dJ6_stringSize_0f7a4_30 : decode cJ6_stringSize_0f7a4 30 = .ok (.ireturn, 1) := by decide +kernel
theorem dJ6_stringSize_0f7a4_31 : decode cJ6_stringSize_0f7a4 31 = .ok (.bipush 10, 2) := by decide +kernel
theorem dJ6_stringSize_0f7a4_33 : decode cJ6_stringSize_0f7a4 33 = .ok (.iload_n 2, 1) := by decide +kernel
theorem dJ6_stringSize_0f7a4_34 : decode cJ6_stringSize_0f7a4 34 = .ok (.imul, 1) := by decide +kernel
theorem dJ6_stringSize_0f7a4_35 : decode cJ6_stringSize_0f7a4 35 = .ok (.istore_n 2, 1) := by decide +kernel
theorem dJ6_stringSize_0f7a4_36 : decode cJ6_stringSize_0f7a4 36 = .ok (.iinc 3 1, 3) := by decide +kernel
theorem dJ6_stringSize_0f7a4_39 : decode cJ6_stringSize_0f7a4 39 = .ok (.goto (-23), 3) := by decide +kernel
theorem dJ6_stringSize_0f7a4_42 : decode cJ6_stringSize_0f7a4 42 = .ok (.bipush 10, 2) := by decide +kernel
theorem dJ6_stringSize_0f7a4_44 : decode cJ6_stringSize_0f7a4 44 = .ok (.iload_n 1, 1) := by decide +kernel
theorem dJ6_stringSize_0f7a4_45 : decode cJ6_stringSize_0f7a4 45 = .ok (.iadd, 1) := by decide +kernel
theorem dJ6_stringSize_0f7a4_46 : decode cJ6_stringSize_0f7a4 46 = .ok (.ireturn, 1) := by decide +kernel
theorem dJ6_getChars_ba4f3_0 : decode cJ6_getChars_ba4f3 0 = .ok (.iload_n 1, 1) := by decide +kernel
theorem dJ6_getChars_ba4f3_1 : decode cJ6_getChars_ba4f3 1 = .ok (.istore 5, 2) := by decide +kernel
theorem dJ6_getChars_ba4f3_3 : decode cJ6_getChars_ba4f3 3 = .ok (.iload_n 0, 1) := by decide +kernel
theorem dJ6_getChars_ba4f3_4 : decode cJ6_getChars_ba4f3 4 = .ok (.ifCond .ge 7, 3) := by decide +kernel
theorem dJ6_getChars_ba4f3_7 : decode cJ6_getChars_ba4f3 7 = .ok (.iconst 1, 1) := by decide +kernel
theorem dJ6_getChars_ba4f3_8 : decode cJ6_getChars_ba4f3 8 = .ok (.goto 4, 3) := by decide +kernel
theorem dJ6_getChars_ba4f3_11 : decode cJ6_getChars_ba4f3 11 = .ok (.iconst 0, 1) := by decide +kernel
theorem dJ6_getChars_ba4f3_12 : decode cJ6_getChars_ba4f3 12 = .ok (.istore 6, 2) := by decide +kernel
theorem dJ6_getChars_ba4f3_14 : decode cJ6_getChars_ba4f3 14 = .ok (.iload 6, 2) := by decide +kernel
theorem dJ6_getChars_ba4f3_16 : decode cJ6_getChars_ba4f3 16 = .ok (.ifCond .ne 6, 3) := by decide +kernel
theorem dJ6_getChars_ba4f3_19 : decode cJ6_getChars_ba4f3 19 = .ok (.iload_n 0, 1) := by decide +kernel
theorem dJ6_getChars_ba4f3_20 : decode cJ6_getChars_ba4f3 20 = .ok (.ineg, 1) := by decide +kernel
theorem dJ6_getChars_ba4f3_21 : decode cJ6_getChars_ba4f3 21 = .ok (.istore_n 0, 1) := by decide +kernel
theorem dJ6_getChars_ba4f3_22 : decode cJ6_getChars_ba4f3 22 = .ok (.iload_n 0, 1) := by decide +kernel
theorem dJ6_getChars_ba4f3_23 : decode cJ6_getChars_ba4f3 23 = .ok (.bipush (-100), 2) := by decide +kernel
theorem dJ6_getChars_ba4f3_25 : decode cJ6_getChars_ba4f3 25 = .ok (.if_icmp .gt 47, 3) := by decide +kernel
theorem dJ6_getChars_ba4f3_28 : decode cJ6_getChars_ba4f3 28 = .ok (.iload_n 0, 1) := by decide +kernel
theorem dJ6_getChars_ba4f3_29 : decode cJ6_getChars_ba4f3 29 = .ok (.bipush 100, 2) := by decide +kernel
theorem dJ6_getChars_ba4f3_31 : decode cJ6_getChars_ba4f3 31 = .ok (.idiv, 1) := by decide +kernel
theorem dJ6_getChars_ba4f3_32 : decode cJ6_getChars_ba4f3 32 = .ok (.istore_n 3, 1) := by decide +kernel
theorem dJ6_getChars_ba4f3_33 : decode cJ6_getChars_ba4f3 33 = .ok (.iload_n 3, 1) := by decide +kernel
theorem dJ6_getChars_ba4f3_34 : decode cJ6_getChars_ba4f3 34 = .ok (.bipush 100, 2) := by decide +kernel
theorem dJ6_getChars_ba4f3_36 : decode cJ6_getChars_ba4f3 36 = .ok (.imul, 1) := by decide +kernel
theorem dJ6_getChars_ba4f3_37 : decode cJ6_getChars_ba4f3 37 = .ok (.iload_n 0, 1) := by decide +kernel
theorem dJ6_getChars_ba4f3_38 : decode cJ6_getChars_ba4f3 38 = .ok (.isub, 1) := by decide +kernel
theorem dJ6_getChars_ba4f3_39 : decode cJ6_getChars_ba4f3 39 = .ok (.istore 4, 2) := by decide +kernel
theorem dJ6_getChars_ba4f3_41 : decode cJ6_getChars_ba4f3 41 = .ok (.iload_n 3, 1) := by decide +kernel
theorem dJ6_getChars_ba4f3_42 : decode cJ6_getChars_ba4f3 42 = .ok (.istore_n 0, 1) := by decide +kernel
theorem dJ6_getChars_ba4f3_43 : decode cJ6_getChars_ba4f3 43 = .ok (.aload_n 2, 1) := by decide +kernel
theorem dJ6_getChars_ba4f3_44 : decode cJ6_getChars_ba4f3 44 = .ok (.iinc 5 (-1), 3) := by decide +kernel
theorem dJ6_getChars_ba4f3_47 : decode cJ6_getChars_ba4f3 47 = .ok (.iload 5, 2) := by decide +kernel
theorem dJ6_getChars_ba4f3_49 : decode cJ6_getChars_ba4f3 49 = .ok (.getstatic 83, 3) := by decide +kernel
theorem dJ6_getChars_ba4f3_52 : decode cJ6_getChars_ba4f3 52 = .ok (.iload 4, 2) := by decide +kernel
theorem dJ6_getChars_ba4f3_54 : decode cJ6_getChars_ba4f3 54 = .ok (.baload, 1) := by decide +kernel
theorem dJ6_getChars_ba4f3_55 : decode cJ6_getChars_ba4f3 55 = .ok (.bastore, 1) := by decide +kernel
theorem dJ6_getChars_ba4f3_56 : decode cJ6_getChars_ba4f3 56 = .ok (.aload_n 2, 1) := by decide +kernel
theorem dJ6_getChars_ba4f3_57 : decode cJ6_getChars_ba4f3 57 = .ok (.iinc 5 (-1), 3) := by decide +kernel
theorem dJ6_getChars_ba4f3_60 : decode cJ6_getChars_ba4f3 60 = .ok (.iload 5, 2) := by decide +kernel
theorem dJ6_getChars_ba4f3_62 : decode cJ6_getChars_ba4f3 62 = .ok (.getstatic 87, 3) := by decide +kernel
theorem dJ6_getChars_ba4f3_65 : decode cJ6_getChars_ba4f3 65 = .ok (.iload 4, 2) := by decide +kernel
theorem dJ6_getChars_ba4f3_67 : decode cJ6_getChars_ba4f3 67 = .ok (.baload, 1) := by decide +kernel
theorem dJ6_getChars_ba4f3_68 : decode cJ6_getChars_ba4f3 68 = .ok (.bastore, 1) := by decide +kernel
theorem dJ6_getChars_ba4f3_69 : decode cJ6_getChars_ba4f3 69 = .ok (.goto (-47), 3) := by decide +kernel
theorem dJ6_getChars_ba4f3_72 : decode cJ6_getChars_ba4f3 72 = .ok (.aload_n 2, 1) := by decide +kernel
theorem dJ6_getChars_ba4f3_73 : decode cJ6_getChars_ba4f3 73 = .ok (.iinc 5 (-1), 3) := by decide +kernel
theorem dJ6_getChars_ba4f3_76 : decode cJ6_getChars_ba4f3 76 = .ok (.iload 5, 2) := by decide +kernel
theorem dJ6_getChars_ba4f3_78 : decode cJ6_getChars_ba4f3 78 = .ok (.getstatic 83, 3) := by decide +kernel
theorem dJ6_getChars_ba4f3_81 : decode cJ6_getChars_ba4f3 81 = .ok (.iload_n 0, 1) := by decide +kernel
theorem dJ6_getChars_ba4f3_82 : decode cJ6_getChars_ba4f3 82 = .ok (.ineg, 1) := by decide +kernel
theorem dJ6_getChars_ba4f3_83 : decode cJ6_getChars_ba4f3 83 = .ok (.baload, 1) := by decide +kernel
theorem dJ6_getChars_ba4f3_84 : decode cJ6_getChars_ba4f3 84 = .ok (.bastore, 1) := by decide +kernel
theorem dJ6_getChars_ba4f3_85 : decode cJ6_getChars_ba4f3 85 = .ok (.iload_n 0, 1) := by decide +kernel
theorem dJ6_getChars_ba4f3_86 : decode cJ6_getChars_ba4f3 86 = .ok (.bipush (-9), 2) := by decide +kernel
theorem dJ6_getChars_ba4f3_88 : decode cJ6_getChars_ba4f3 88 = .ok (.if_icmp .ge 16, 3) := by decide +kernel
theorem dJ6_getChars_ba4f3_91 : decode cJ6_getChars_ba4f3 91 = .ok (.aload_n 2, 1) := by decide +kernel
theorem dJ6_getChars_ba4f3_92 : decode cJ6_getChars_ba4f3 92 = .ok (.iinc 5 (-1), 3) := by decide +kernel
theorem dJ6_getChars_ba4f3_95 : decode cJ6_getChars_ba4f3 95 = .ok (.iload 5, 2) := by decide +kernel
theorem dJ6_getChars_ba4f3_97 : decode cJ6_getChars_ba4f3 97 = .ok (.getstatic 87, 3) := by decide +kernel
theorem dJ6_getChars_ba4f3_100 : decode cJ6_getChars_ba4f3 100 = .ok (.iload_n 0, 1) := by decide +kernel
theorem dJ6_getChars_ba4f3_101 : decode cJ6_getChars_ba4f3 101 = .ok (.ineg, 1) := by decide +kernel
theorem dJ6_getChars_ba4f3_102 : decode cJ6_getChars_ba4f3 102 = .ok (.baload, 1) := by decide +kernel
theorem dJ6_getChars_ba4f3_103 : decode cJ6_getChars_ba4f3 103 = .ok (.bastore, 1) := by decide +kernel
theorem dJ6_getChars_ba4f3_104 : decode cJ6_getChars_ba4f3 104 = .ok (.iload 6, 2) := by decide +kernel
theorem dJ6_getChars_ba4f3_106 : decode cJ6_getChars_ba4f3 106 = .ok (.ifCond .eq 12, 3) := by decide +kernel
theorem dJ6_getChars_ba4f3_109 : decode cJ6_getChars_ba4f3 109 = .ok (.aload_n 2, 1) := by decide +kernel
theorem dJ6_getChars_ba4f3_110 : decode cJ6_getChars_ba4f3 110 = .ok (.iinc 5 (-1), 3) := by decide +kernel
theorem dJ6_getChars_ba4f3_113 : decode cJ6_getChars_ba4f3 113 = .ok (.iload 5, 2) := by decide +kernel
theorem dJ6_getChars_ba4f3_115 : decode cJ6_getChars_ba4f3 115 = .ok (.bipush 45, 2) := by decide +kernel
theorem dJ6_getChars_ba4f3_117 : decode cJ6_getChars_ba4f3 117 = .ok (.bastore, 1) := by decide +kernel
theorem dJ6_getChars_ba4f3_118 : decode cJ6_getChars_ba4f3 118 = .ok (.iload 5, 2) := by decide +kernel
theorem dJ6_getChars_ba4f3_120 : decode cJ6_getChars_ba4f3 120 = .ok (.ireturn, 1) := by decide +kernel
theorem dJ5_inflateIfNeededFor_a7421_0 : decode cJ5_inflateIfNeededFor_a7421 0 = .ok (.getstatic 18, 3) := by decide +kernel
theorem dJ5_inflateIfNeededFor_a7421_3 : decode cJ5_inflateIfNeededFor_a7421 3 = .ok (.ifCond .eq 18, 3) := by decide +kernel
theorem dJ5_inflateIfNeededFor_a7421_6 : decode cJ5_inflateIfNeededFor_a7421 6 = .ok (.aload_n 0, 1) := by decide +kernel
theorem dJ5_inflateIfNeededFor_a7421_7 : decode cJ5_inflateIfNeededFor_a7421 7 = .ok (.getfield 22, 3) := by decide +kernel
theorem dJ5_inflateIfNeededFor_a7421_10 : decode cJ5_inflateIfNeededFor_a7421 10 = .ok (.aload_n 1, 1) := by decide +kernel
theorem dJ5_inflateIfNeededFor_a7421_11 : decode cJ5_inflateIfNeededFor_a7421 11 = .ok (.invokevirtual 40, 3) := by decide +kernel
theorem dJ5_inflateIfNeededFor_a7421_14 : decode cJ5_inflateIfNeededFor_a7421 14 = .ok (.if_icmp .eq 7, 3) := by decide +kernel
theorem dJ5_inflateIfNeededFor_a7421_17 : decode cJ5_inflateIfNeededFor_a7421 17 = .ok (.aload_n 0, 1) := by decide +kernel
theorem dJ5_inflateIfNeededFor_a7421_18 : decode cJ5_inflateIfNeededFor_a7421 18 = .ok (.invokevirtual 195, 3) := by decide +kernel
theorem dJ5_inflateIfNeededFor_a7421_21 : decode cJ5_inflateIfNeededFor_a7421 21 = .ok (.return_, 1) := by decide +kernel
theorem dJ0_getBytes_840e7_0 : decode cJ0_getBytes_840e7 0 = .ok (.aload_n 0, 1) := by decide +kernel
theorem dJ0_getBytes_840e7_1 : decode cJ0_getBytes_840e7 1 = .ok (.invokevirtual 335, 3) := by decide +kernel
theorem dJ0_getBytes_840e7_4 : decode cJ0_getBytes_840e7 4 = .ok (.iload_n 3, 1) := by decide +kernel
theorem dJ0_getBytes_840e7_5 : decode cJ0_getBytes_840e7 5 = .ok (.if_icmp .ne 23, 3) := by decide +kernel
theorem dJ0_getBytes_840e7_8 : decode cJ0_getBytes_840e7 8 = .ok (.aload_n 0, 1) := by decide +kernel
theorem dJ0_getBytes_840e7_9 : decode cJ0_getBytes_840e7 9 = .ok (.getfield 9, 3) := by decide +kernel
theorem dJ0_getBytes_840e7_12 : decode cJ0_getBytes_840e7 12 = .ok (.iconst 0, 1) := by decide +kernel
theorem dJ0_getBytes_840e7_13 : decode cJ0_getBytes_840e7 13 = .ok (.aload_n 1, 1) := by decide +kernel
theorem dJ0_getBytes_840e7_14 : decode cJ0_getBytes_840e7 14 = .ok (.iload_n 2, 1) := by decide +kernel
theorem dJ0_getBytes_840e7_15 : decode cJ0_getBytes_840e7 15 = .ok (.iload_n 3, 1) := by decide +kernel
theorem dJ0_getBytes_840e7_16 : decode cJ0_getBytes_840e7 16 = .ok (.ishl, 1) := by decide +kernel
theorem dJ0_getBytes_840e7_17 : decode cJ0_getBytes_840e7 17 = .ok (.aload_n 0, 1) := by decide +kernel
theorem dJ0_getBytes_840e7_18 : decode cJ0_getBytes_840e7 18 = .ok (.getfield 9, 3) := by decide +kernel
theorem dJ0_getBytes_840e7_21 : decode cJ0_getBytes_840e7 21 = .ok (.arraylength, 1) := by decide +kernel
theorem dJ0_getBytes_840e7_22 : decode cJ0_getBytes_840e7 22 = .ok (.invokestatic 212, 3) := by decide +kernel
theorem dJ0_getBytes_840e7_25 : decode cJ0_getBytes_840e7 25 = .ok (.goto 18, 3) := by decide +kernel
theorem dJ0_getBytes_840e7_28 : decode cJ0_getBytes_840e7 28 = .ok (.aload_n 0, 1) := by decide +kernel
theorem dJ0_getBytes_840e7_29 : decode cJ0_getBytes_840e7 29 = .ok (.getfield 9, 3) := by decide +kernel
theorem dJ0_getBytes_840e7_32 : decode cJ0_getBytes_840e7 32 = .ok (.iconst 0, 1) := by decide +kernel
theorem dJ0_getBytes_840e7_33 : decode cJ0_getBytes_840e7 33 = .ok (.aload_n 1, 1) := by decide +kernel
theorem dJ0_getBytes_840e7_34 : decode cJ0_getBytes_840e7 34 = .ok (.iload_n 2, 1) := by decide +kernel
theorem dJ0_getBytes_840e7_35 : decode cJ0_getBytes_840e7 35 = .ok (.aload_n 0, 1) := by decide +kernel
theorem dJ0_getBytes_840e7_36 : decode cJ0_getBytes_840e7 36 = .ok (.getfield 9, 3) := by decide +kernel
theorem dJ0_getBytes_840e7_39 : decode cJ0_getBytes_840e7 39 = .ok (.arraylength, 1) := by decide +kernel
theorem dJ0_getBytes_840e7_40 : decode cJ0_getBytes_840e7 40 = .ok (.invokestatic 106, 3) := by decide +kernel
theorem dJ0_getBytes_840e7_43 : decode cJ0_getBytes_840e7 43 = .ok (.return_, 1) := by decide +kernel
theorem dJ5_putStringAt_47b60_0 : decode cJ5_putStringAt_47b60 0 = .ok (.aload_n 0, 1) := by decide +kernel
theorem dJ5_putStringAt_47b60_1 : decode cJ5_putStringAt_47b60 1 = .ok (.aload_n 2, 1) := by decide +kernel
theorem dJ5_putStringAt_47b60_2 : decode cJ5_putStringAt_47b60 2 = .ok (.invokevirtual 397, 3) := by decide +kernel
theorem dJ5_putStringAt_47b60_5 : decode cJ5_putStringAt_47b60 5 = .ok (.aload_n 2, 1) := by decide +kernel
theorem dJ5_putStringAt_47b60_6 : decode cJ5_putStringAt_47b60 6 = .ok (.aload_n 0, 1) := by decide +kernel
theorem dJ5_putStringAt_47b60_7 : decode cJ5_putStringAt_47b60 7 = .ok (.getfield 15, 3) := by decide +kernel
theorem dJ5_putStringAt_47b60_10 : decode cJ5_putStringAt_47b60 10 = .ok (.iload_n 1, 1) := by decide +kernel
theorem dJ5_putStringAt_47b60_11 : decode cJ5_putStringAt_47b60 11 = .ok (.aload_n 0, 1) := by decide +kernel
theorem dJ5_putStringAt_47b60_12 : decode cJ5_putStringAt_47b60 12 = .ok (.getfield 22, 3) := by decide +kernel
theorem dJ5_putStringAt_47b60_15 : decode cJ5_putStringAt_47b60 15 = .ok (.invokevirtual 399, 3) := by decide +kernel
theorem dJ5_putStringAt_47b60_18 : decode cJ5_putStringAt_47b60 18 = .ok (.return_, 1) := by decide +kernel
theorem dJ5_length_8abf5_0 : decode cJ5_length_8abf5 0 = .ok (.aload_n 0, 1) := by decide +kernel
theorem dJ5_length_8abf5_1 : decode cJ5_length_8abf5 1 = .ok (.getfield 79, 3) := by decide +kernel
theorem dJ5_length_8abf5_4 : decode cJ5_length_8abf5 4 = .ok (.ireturn, 1) := by decide +kernel
theorem kw_1005 : (Jvm.Cond.methodLink "jdk/internal/util/ArraysSupport" (194 : Nat) ({ cls := "java/lang/Math", name := "max", desc := "(II)I" } : Jvm.MethodName)) ∈ zTb := zTb_of 1005 (by decide +kernel) (by decide +kernel)
theorem kw_1006 : (Jvm.Cond.static ({ cls := "java/lang/Math", name := "max", desc := "(II)I" } : Jvm.MethodName)) ∈ zTb := zTb_of 1006 (by decide +kernel) (by decide +kernel)
theorem kw_1007 : (Jvm.Cond.code ({ cls := "java/lang/Math", name := "max", desc := "(II)I" } : Jvm.MethodName) prog_25_method_65_code (2 : Nat) (Option.some Jvm.ClassFile.FieldType.int)) ∈ zTb := zTb_of 1007 (by decide +kernel) (by decide +kernel)
theorem kw_1008 : (Jvm.Cond.constant "jdk/internal/util/ArraysSupport" (200 : Nat) (2147483639 : Int32)) ∈ zTb := zTb_of 1008 (by decide +kernel) (by decide +kernel)
theorem kw_969 : (Jvm.Cond.fieldLink "java/lang/AbstractStringBuilder" (15 : Nat) "java/lang/AbstractStringBuilder" "value" "[B") ∈ zTb := zTb_of 969 (by decide +kernel) (by decide +kernel)
theorem kw_970 : (Jvm.Cond.fieldLink "java/lang/AbstractStringBuilder" (22 : Nat) "java/lang/AbstractStringBuilder" "coder" "B") ∈ zTb := zTb_of 970 (by decide +kernel) (by decide +kernel)
theorem kw_1002 : (Jvm.Cond.methodLink "java/lang/AbstractStringBuilder" (114 : Nat) ({ cls := "jdk/internal/util/ArraysSupport", name := "newLength", desc := "(III)I" } : Jvm.MethodName)) ∈ zTb := zTb_of 1002 (by decide +kernel) (by decide +kernel)
theorem kw_18 : (Jvm.Cond.initialized "jdk/internal/util/ArraysSupport") ∈ zTb := zTb_of 18 (by decide +kernel) (by decide +kernel)
theorem kw_1004 : (Jvm.Cond.code ({ cls := "jdk/internal/util/ArraysSupport", name := "newLength", desc := "(III)I" } : Jvm.MethodName) prog_38_method_27_code (4 : Nat) (Option.some Jvm.ClassFile.FieldType.int)) ∈ zTb := zTb_of 1004 (by decide +kernel) (by decide +kernel)
theorem kw_1003 : (Jvm.Cond.static ({ cls := "jdk/internal/util/ArraysSupport", name := "newLength", desc := "(III)I" } : Jvm.MethodName)) ∈ zTb := zTb_of 1003 (by decide +kernel) (by decide +kernel)
theorem hyJ8_newLength_cabcc : yJ8_newLength_cabcc.cls ≠ "java/lang/invoke/MethodHandle" ∧ yJ8_newLength_cabcc.cls ≠ "java/lang/invoke/VarHandle" ∧ (parseMethodDescriptor yJ8_newLength_cabcc.desc).map (fun d => d.parameters.length) = some 3 := ⟨by decide +kernel, by decide +kernel, by decide +kernel⟩
theorem kw_1012 : (Jvm.Cond.constant "java/lang/AbstractStringBuilder" (39 : Nat) (2147483647 : Int32)) ∈ zTb := zTb_of 1012 (by decide +kernel) (by decide +kernel)
theorem kw_961 : (Jvm.Cond.fieldLink "java/lang/AbstractStringBuilder" (18 : Nat) "java/lang/String" "COMPACT_STRINGS" "Z") ∈ zTb := zTb_of 961 (by decide +kernel) (by decide +kernel)
theorem kw_972 : (Jvm.Cond.fieldLink "java/lang/AbstractStringBuilder" (79 : Nat) "java/lang/AbstractStringBuilder" "count" "I") ∈ zTb := zTb_of 972 (by decide +kernel) (by decide +kernel)
theorem kw_1151 : (Jvm.Cond.methodLink "java/lang/StringBuilder" (343 : Nat) ({ cls := "java/lang/AbstractStringBuilder", name := "length", desc := "()I" } : Jvm.MethodName)) ∈ zTb := zTb_of 1151 (by decide +kernel) (by decide +kernel)
theorem kw_1147 : (Jvm.Cond.sameMethod "java/lang/AbstractStringBuilder" "java/lang/AbstractStringBuilder" "length" "()I") ∈ zTb := zTb_of 1147 (by decide +kernel) (by decide +kernel)
theorem kw_981 : (Jvm.Cond.superclass "java/lang/StringBuilder" "java/lang/AbstractStringBuilder") ∈ zTb := zTb_of 981 (by decide +kernel) (by decide +kernel)
theorem kw_1146 : (Jvm.Cond.instanceMethod ({ cls := "java/lang/AbstractStringBuilder", name := "length", desc := "()I" } : Jvm.MethodName)) ∈ zTb := zTb_of 1146 (by decide +kernel) (by decide +kernel)
theorem kw_14 : (Jvm.Cond.initialized "java/lang/AbstractStringBuilder") ∈ zTb := zTb_of 14 (by decide +kernel) (by decide +kernel)
theorem kw_1152 : (Jvm.Cond.code ({ cls := "java/lang/AbstractStringBuilder", name := "length", desc := "()I" } : Jvm.MethodName) prog_14_method_6_code (1 : Nat) (Option.some Jvm.ClassFile.FieldType.int)) ∈ zTb := zTb_of 1152 (by decide +kernel) (by decide +kernel)
theorem gUJ5_length_8abf5 : GoodIn zTb (va_wsSU "java/lang/StringBuilder" 343 yJ5_length_8abf5 (zWs yJ5_length_8abf5 prog_14_method_6_code 1 (Option.some Jvm.ClassFile.FieldType.int))) := fun w hw => by
  rcases List.mem_append.mp hw with hw | hw
  · simp only [List.mem_cons, List.not_mem_nil, or_false] at hw
    rcases hw with rfl | rfl | rfl | rfl | rfl
    · exact ⟨kw_1151, zTb_good _ kw_1151⟩
    · exact ⟨kw_1147, zTb_good _ kw_1147⟩
    · exact ⟨kw_981, zTb_good _ kw_981⟩
    · exact ⟨kw_1146, zTb_good _ kw_1146⟩
    · exact ⟨kw_14, zTb_good _ kw_14⟩
  · exact zGood kw_1152 w hw
theorem hUJ5_length_8abf5 : yJ5_length_8abf5.name ≠ "<init>" ∧ (parseMethodDescriptor yJ5_length_8abf5.desc).map (fun d => d.parameters.length) = some 0 := ⟨by decide +kernel, by decide +kernel⟩
theorem kw_1107 : (Jvm.Cond.fieldLink "java/lang/Integer" (83 : Nat) "java/lang/Integer" "DigitOnes" "[B") ∈ zTb := zTb_of 1107 (by decide +kernel) (by decide +kernel)
theorem kw_1109 : (Jvm.Cond.fieldLink "java/lang/Integer" (87 : Nat) "java/lang/Integer" "DigitTens" "[B") ∈ zTb := zTb_of 1109 (by decide +kernel) (by decide +kernel)
theorem kw_1054 : (Jvm.Cond.methodLink "java/lang/AbstractStringBuilder" (40 : Nat) ({ cls := "java/lang/String", name := "coder", desc := "()B" } : Jvm.MethodName)) ∈ zTb := zTb_of 1054 (by decide +kernel) (by decide +kernel)
theorem kw_1078 : (Jvm.Cond.methodLink "java/lang/String" (212 : Nat) ({ cls := "java/lang/System", name := "arraycopy", desc := "(Ljava/lang/Object;ILjava/lang/Object;II)V" } : Jvm.MethodName)) ∈ zTb := zTb_of 1078 (by decide +kernel) (by decide +kernel)
theorem kw_1050 : (Jvm.Cond.methodLink "java/lang/AbstractStringBuilder" (397 : Nat) ({ cls := "java/lang/AbstractStringBuilder", name := "inflateIfNeededFor", desc := "(Ljava/lang/String;)V" } : Jvm.MethodName)) ∈ zTb := zTb_of 1050 (by decide +kernel) (by decide +kernel)
theorem kw_1052 : (Jvm.Cond.instanceMethod ({ cls := "java/lang/AbstractStringBuilder", name := "inflateIfNeededFor", desc := "(Ljava/lang/String;)V" } : Jvm.MethodName)) ∈ zTb := zTb_of 1052 (by decide +kernel) (by decide +kernel)
theorem kw_1053 : (Jvm.Cond.code ({ cls := "java/lang/AbstractStringBuilder", name := "inflateIfNeededFor", desc := "(Ljava/lang/String;)V" } : Jvm.MethodName) prog_14_method_71_code (2 : Nat) (Option.none : Option Jvm.ClassFile.FieldType)) ∈ zTb := zTb_of 1053 (by decide +kernel) (by decide +kernel)
theorem hyJ5_inflateIfNeededFor_a7421 : yJ5_inflateIfNeededFor_a7421.cls ≠ "java/lang/invoke/MethodHandle" ∧ yJ5_inflateIfNeededFor_a7421.cls ≠ "java/lang/invoke/VarHandle" ∧ (parseMethodDescriptor yJ5_inflateIfNeededFor_a7421.desc).map (fun d => d.parameters.length) = some 1 := ⟨by decide +kernel, by decide +kernel, by decide +kernel⟩
theorem kw_1074 : (Jvm.Cond.methodLink "java/lang/AbstractStringBuilder" (399 : Nat) ({ cls := "java/lang/String", name := "getBytes", desc := "([BIB)V" } : Jvm.MethodName)) ∈ zTb := zTb_of 1074 (by decide +kernel) (by decide +kernel)
theorem kw_1075 : (Jvm.Cond.instanceMethod ({ cls := "java/lang/String", name := "getBytes", desc := "([BIB)V" } : Jvm.MethodName)) ∈ zTb := zTb_of 1075 (by decide +kernel) (by decide +kernel)
theorem kw_1077 : (Jvm.Cond.code ({ cls := "java/lang/String", name := "getBytes", desc := "([BIB)V" } : Jvm.MethodName) prog_28_method_147_code (4 : Nat) (Option.none : Option Jvm.ClassFile.FieldType)) ∈ zTb := zTb_of 1077 (by decide +kernel) (by decide +kernel)
theorem kw_1076 : (Jvm.Cond.selects "java/lang/String" ({ cls := "java/lang/String", name := "getBytes", desc := "([BIB)V" } : Jvm.MethodName) ({ cls := "java/lang/String", name := "getBytes", desc := "([BIB)V" } : Jvm.MethodName)) ∈ zTb := zTb_of 1076 (by decide +kernel) (by decide +kernel)
theorem hyJ0_getBytes_840e7 : yJ0_getBytes_840e7.cls ≠ "java/lang/invoke/MethodHandle" ∧ yJ0_getBytes_840e7.cls ≠ "java/lang/invoke/VarHandle" ∧ (parseMethodDescriptor yJ0_getBytes_840e7.desc).map (fun d => d.parameters.length) = some 3 := ⟨by decide +kernel, by decide +kernel, by decide +kernel⟩











theorem dJ4_length_8abf5_0 : decode cJ4_length_8abf5 0 = .ok (.aload_n 0, 1) := by decide +kernel
theorem dJ4_length_8abf5_1 : decode cJ4_length_8abf5 1 = .ok (.invokespecial 343, 3) := by decide +kernel
theorem dJ4_length_8abf5_4 : decode cJ4_length_8abf5 4 = .ok (.ireturn, 1) := by decide +kernel
section ZR
variable {p : Program} {l : Launch} {e : Env} {R : Room} {s : State} {m : MethodId} {args : Array Value} {below : List Frame} {meth : Method} {c : Code} {cells slots : Nat} {Q : State → Prop} {D : va_G} {Ca : Nat → ClassId} {B nL : Nat} {En : State → Prop} {cc : ByteArray} {own : String} {σ : zS} {N pc : Nat} {lv : List (Nat × Value)} {st : List Value}
theorem z_callUi (C : zC p s m args meth c cc own nL D Ca B En) {y : MethodName} {bytes : ByteArray} {mL F L F0 L0 index n b : Nat} {ret : Option FieldType} {As : List Value} {τ : zS} {r : Int32} {stk : List Value} (hM : zMi l D Ca B En y bytes mL ret F L (.ref b :: As) σ N τ r) (hRm : zRm R F0 L0 cells slots) (hk : (σ.1 b).1 = 15) (hws : GoodIn zTb (va_wsSU own index y (zWs y bytes mL ret))) (hy : y.name ≠ "<init>" ∧ (parseMethodDescriptor y.desc).map (fun d => d.parameters.length) = some n) (hF : F + 1 ≤ F0) (hL : 8 + (mL + 11) + L ≤ L0) (hn : As.length = n) (hstk : stk = As.reverse ++ .ref b :: st) (hcat : (st.map fun v => v.category).sum ≤ 8) (hd : decode cc pc = .ok (.invokespecial index, 3)) (kk : zW p l e R s m args below meth c (cells) (slots) Q D Ca B nL τ (N) (pc + 3) (lv) (.int r :: st)) : zW p l e R s m args below meth c (cells) (slots) Q D Ca B nL σ (N) (pc) (lv) (stk) := by
  intro H locs ls h hS hl
  obtain ⟨cC, hat⟩ := z_classB C
  refine va_calli (va_runSU (C := "java/lang/StringBuilder") (As := As) (rest := st) hat ⟨C.1, C.2.1, C.2.2.1, C.2.2.2.2.1, C.2.2.2.1⟩ hM (va_cwSU n C.2.2.2.1 hws rfl rfl rfl hy ⟨Nat.le_trans hF hRm.1, Nat.le_trans hL hRm.2.1⟩) ⟨zBlind C.2.2.2.2.2.2.2.1, z_recvB C h hk, fun U hU hW => ⟨rfl, zIn_of C h hS hU hW⟩⟩ rfl hn hl.1 hstk (lv_room hcat) hd ⟨hRm.2.2.1, hRm.2.2.2⟩) hS (fun q _ h => h) (fun q h => h) (fun r2 u t H1 locs1 ht hvm hp hB hz hk1 hS1 => ?_)
  subst hp
  exact kk H1 locs1 ls (by rw [← ht]; exact hB.1) hS1 hl
end ZR
theorem ps_cod {t : Nat} {σ : zS} (ht : t < 19) : fJ0_coder_7d493 σ t = some (σ, 0) := by
  unfold fJ0_coder_7d493
  rw [if_neg (by decide), show zstC t = some 0 from if_pos ht]
  rfl
theorem ps_l1 {t : Nat} (ht : t < 19) : zstL t = some (zi (zsByt.getD t []).length) := by
  unfold zstL
  rw [if_pos ht, (ps_byt t ht).1, zi_nI]
  rfl
theorem ps_fit : ∀ t, t < 19 → ∀ i, i < (zsByt.getD t []).length → fits .byte (.int ((zsByt.getD t []).getD (0 + i) 0)) = true := by decide +kernel
theorem zsB_7 {σ : zS} {a len : Nat} {x : Int} {k i : Nat} (hx : x = i ∧ k < 128) (hk : σ.1 a = (2, len)) (hi : i < len) (h31 : len < 2147483648) : zsB σ a (zi x) (nI k) = some (zuI σ a i (nI k)) := by
  obtain ⟨hx, h128⟩ := hx
  subst hx
  unfold zsB
  rw [hk, if_pos rfl, if_neg, b8_128 h128, zi_nat (by omega) (by omega), Int.toNat_natCast]
  rw [zi_nat (by omega) (by omega), Int.toNat_natCast, show ((0 : Int32) = zi 0) from rfl, zi_lt (by omega) (by omega) (by omega) (by omega)]
  show ¬ (_ ∨ len ≤ i)
  omega
section ZR
variable {p : Program} {l : Launch} {e : Env} {R : Room} {s : State} {m : MethodId} {args : Array Value} {below : List Frame} {meth : Method} {c : Code} {cells slots : Nat} {Q : State → Prop} {D : va_G} {Ca : Nat → ClassId} {B nL : Nat} {En : State → Prop} {cc : ByteArray} {own : String} {σ : zS} {N pc : Nat} {lv : List (Nat × Value)} {st : List Value}
theorem z_callTv (C : zC p s m args meth c cc own nL D Ca B En) (ev : zEv) (hZ : ∀ U : State, En U → zEnv ev B U) {y : MethodName} {bytes : ByteArray} {mL F L F0 L0 index n t : Nat} {ret : Option FieldType} {As : List Value} {τ : zS} {r : Unit} {stk : List Value} (hM : zMv l D Ca B En y bytes mL ret F L (.ref (ev.2.1 t) :: As) σ N τ r) (hRm : zRm R F0 L0 cells slots) (hk : t < 19) (hc : y.cls = "java/lang/String") (hcode : Cond.code y bytes mL ret ∈ zTb) (hini : Cond.initialized y.cls ∈ zTb) (hlink : Cond.methodLink own index y ∈ zTb) (hinst : Cond.instanceMethod y ∈ zTb) (hsel : Cond.selects y.cls y y ∈ zTb) (hy : y.cls ≠ "java/lang/invoke/MethodHandle" ∧ y.cls ≠ "java/lang/invoke/VarHandle" ∧ (parseMethodDescriptor y.desc).map (fun d => d.parameters.length) = some n) (hF : F + 1 ≤ F0) (hL : 8 + (mL + 11) + L ≤ L0) (hn : As.length = n) (hstk : stk = As.reverse ++ .ref (ev.2.1 t) :: st) (hcat : (st.map fun v => v.category).sum ≤ 8) (hd : decode cc pc = .ok (.invokevirtual index, 3)) (kk : zW p l e R s m args below meth c cells slots Q D Ca B nL τ N (pc + 3) (lv) st) : zW p l e R s m args below meth c cells slots Q D Ca B nL σ N (pc) (lv) (stk) := by
  intro H locs ls h hS hl
  have E := hZ s C.2.2.2.2.2.2.1
  refine va_callv (va_runV (As := As) (rest := st) ⟨C.1, C.2.1, C.2.2.1, C.2.2.2.2.1, C.2.2.2.1⟩ hM ⟨zcB C hRm hcode hini hlink hy hF hL, C.2.2.2.1 _ hinst, C.2.2.2.1 _ hsel⟩ ⟨zBlind C.2.2.2.2.2.2.2.1, by rw [hc]; exact vk_recv E.2.2.2.2.1 hk hS, fun U hU hW => ⟨rfl, zIn_of C h hS hU hW⟩⟩ rfl hn hl.1 hstk (lv_room hcat) hd ⟨hRm.2.2.1, hRm.2.2.2⟩) hS (fun q _ h => h) (fun q h => h) (fun u t2 H1 locs1 ht hvm hp hB hz hk1 hS1 => ?_)
  exact kk H1 locs1 ls (by rw [← ht]; exact hB.1) hS1 hl
end ZR
section SM
variable {D : va_G} {Ca : Nat → ClassId} {B : Nat} {En : State → Prop} {b da cap : Nat} {tx : List Int32}
theorem mJ8_newLength (l : Launch) (hE : zEk B En) (σ : zS) (N : Nat) {a g k : Int} (ha : 0 < a ∧ a < 1000) (hg : 0 ≤ g ∧ g < 1000) (hk : 0 ≤ k ∧ k < 1000) : zMi l D Ca B En yJ8_newLength_cabcc cJ8_newLength_cabcc 4 (Option.some Jvm.ClassFile.FieldType.int) 1 21 [.int (zi a), .int (zi g), .int (zi k)] σ N σ (zi (a + (if g < k then k else g))) := by
  refine zMet_i (own := RJ8) hE (by decide +kernel) rfl (Nat.le_of_ble_eq_true rfl) (fun p e s m args below meth c C hr hRm => ?_)
  refine z_iload_n C dJ8_newLength_cabcc_0 rfl 0 rfl ?_
  refine z_iload_n C dJ8_newLength_cabcc_1 rfl 1 rfl ?_
  refine z_iload_n C dJ8_newLength_cabcc_2 rfl 2 rfl ?_
  refine z_mmax (FR := 1) (LR := 21) C hRm (Nat.le_of_ble_eq_true rfl) (Nat.le_of_ble_eq_true rfl) kw_1005 kw_1006 kw_11 kw_1007 (Nat.le_of_ble_eq_true rfl) dJ8_newLength_cabcc_3 ?_
  rw [show (if zi g < zi k then zi k else zi g) = zi (if g < k then k else g) from by simp only [zi_lt (a := g) (b := k) (by omega) (by omega) (by omega) (by omega)]; split <;> rfl]
  have hm : 0 ≤ (if g < k then k else g) ∧ (if g < k then k else g) < 1000 := by split <;> omega
  generalize (if g < k then k else g) = M at hm ⊢
  refine z_iadd C dJ8_newLength_cabcc_6 ?_
  rw [zi_add]
  refine z_istore_n (lv2 := [(3, .int (zi (a + M))), (0, .int (zi a)), (1, .int (zi g)), (2, .int (zi k))]) C dJ8_newLength_cabcc_7 rfl (by decide) rfl ?_
  refine z_iconst C (zi 0) dJ8_newLength_cabcc_8 (by decide) ?_
  refine z_iload_n C dJ8_newLength_cabcc_9 rfl 0 rfl ?_
  refine z_icmp_ge C 21 dJ8_newLength_cabcc_10 (by decide) (fun q => absurd q (zi_nle (by omega) (by omega) (by omega))) (fun _ => ?_)
  refine z_iload_n C dJ8_newLength_cabcc_13 rfl 0 rfl ?_
  refine z_ldc C kw_1008 (zi 2147483639) (by decide) dJ8_newLength_cabcc_14 ?_
  refine z_icmp_gt C 21 dJ8_newLength_cabcc_16 (by decide) (fun q => absurd q (fun q => by rw [zi_lt (by omega) (by omega) (by omega) (by omega)] at q; omega)) (fun _ => ?_)
  refine z_iload_n C dJ8_newLength_cabcc_19 rfl 0 rfl ?_
  exact zfin_i C hr dJ8_newLength_cabcc_20
theorem mJ5_newCapacity (l : Launch) (hE : zEk B En) (σ : zS) (N : Nat) {n : Int} (h : SBd σ b da cap tx) (hc : 0 < cap ∧ cap < 900) (hn : (cap : Int) ≤ n ∧ n < 900) : zMi l D Ca B En yJ5_newCapacity_0f7a4 cJ5_newCapacity_0f7a4 6 (Option.some Jvm.ClassFile.FieldType.int) 2 46 [.ref b, .int (zi n)] σ N σ (zi ((cap : Int) + (if n - cap < (cap : Int) + 2 then (cap : Int) + 2 else n - cap))) := by
  refine zMet_i (own := RJ5) hE (by decide +kernel) rfl (Nat.le_of_ble_eq_true rfl) (fun p e s m args below meth c C hr hRm => ?_)
  refine z_aload_n C dJ5_newCapacity_0f7a4_0 rfl 0 rfl ?_
  refine z_gR (Cn := RS10) (T := TS10) (Nf := 4) (k := 10) (j := 0) C (sb_val h) rfl rfl zin_10 (by decide) kw_969 rfl rfl dJ5_newCapacity_0f7a4_1 ?_
  refine z_alen C (sb_len h) dJ5_newCapacity_0f7a4_4 ?_
  refine z_istore_n (lv2 := [(2, .int (zi (cap : Nat))), (0, .ref b), (1, .int (zi n))]) C dJ5_newCapacity_0f7a4_5 rfl (by decide) rfl ?_
  refine z_iload_n C dJ5_newCapacity_0f7a4_6 rfl 2 rfl ?_
  refine z_aload_n C dJ5_newCapacity_0f7a4_7 rfl 1 rfl ?_
  refine z_gI (Cn := RS10) (T := TS10) (Nf := 4) (k := 10) (j := 1) C (sb_cod h) rfl rfl zin_10 (by decide) kw_970 rfl rfl dJ5_newCapacity_0f7a4_8 ?_
  refine z_ishl C dJ5_newCapacity_0f7a4_11 ?_
  rw [shl_0]
  refine z_istore_n (lv2 := [(3, .int (zi n)), (2, .int (zi (cap : Nat))), (0, .ref b), (1, .int (zi n))]) C dJ5_newCapacity_0f7a4_12 rfl (by decide) rfl ?_
  refine z_iload_n C dJ5_newCapacity_0f7a4_13 rfl 0 rfl ?_
  refine z_iload_n C dJ5_newCapacity_0f7a4_14 rfl 1 rfl ?_
  refine z_isub C dJ5_newCapacity_0f7a4_15 ?_
  rw [zi_sub]
  refine z_istore (lv2 := [(4, .int (zi (n - (cap : Int)))), (3, .int (zi n)), (2, .int (zi (cap : Nat))), (0, .ref b), (1, .int (zi n))]) C dJ5_newCapacity_0f7a4_16 (by decide) rfl ?_
  refine z_iload_n C dJ5_newCapacity_0f7a4_18 rfl 2 rfl ?_
  refine z_iload C dJ5_newCapacity_0f7a4_19 0 rfl ?_
  refine z_iload_n C dJ5_newCapacity_0f7a4_21 rfl 2 rfl ?_
  refine z_iconst C (zi 2) dJ5_newCapacity_0f7a4_22 (by decide) ?_
  refine z_aload_n C dJ5_newCapacity_0f7a4_23 rfl 3 rfl ?_
  refine z_gI (Cn := RS10) (T := TS10) (Nf := 4) (k := 10) (j := 1) C (sb_cod h) rfl rfl zin_10 (by decide) kw_970 rfl rfl dJ5_newCapacity_0f7a4_24 ?_
  refine z_ishl C dJ5_newCapacity_0f7a4_27 ?_
  rw [shl_0]
  refine z_iadd C dJ5_newCapacity_0f7a4_28 ?_
  rw [zi_add]
  refine z_callSi (As := [.int (zi (cap : Nat)), .int (zi (n - (cap : Int))), .int (zi ((cap : Int) + 2))]) (F0 := 2) (L0 := 46) C (mJ8_newLength l C.2.2.2.2.2.2.2.1 σ N (by omega) (by omega) (by omega)) hRm kw_1004 kw_18 kw_1002 kw_1003 hyJ8_newLength_cabcc (Nat.le_of_ble_eq_true rfl) (Nat.le_of_ble_eq_true rfl) rfl rfl (Nat.le_of_ble_eq_true rfl) dJ5_newCapacity_0f7a4_29 ?_
  have hm : 0 ≤ (if n - (cap : Int) < (cap : Int) + 2 then (cap : Int) + 2 else n - (cap : Int)) ∧ (if n - (cap : Int) < (cap : Int) + 2 then (cap : Int) + 2 else n - (cap : Int)) < 1000 := by split <;> omega
  generalize (if n - (cap : Int) < (cap : Int) + 2 then (cap : Int) + 2 else n - (cap : Int)) = M at hm ⊢
  refine z_istore (lv2 := [(5, .int (zi ((cap : Int) + M))), (4, .int (zi (n - (cap : Int)))), (3, .int (zi n)), (2, .int (zi (cap : Nat))), (0, .ref b), (1, .int (zi n))]) C dJ5_newCapacity_0f7a4_32 (by decide) rfl ?_
  refine z_iload C dJ5_newCapacity_0f7a4_34 0 rfl ?_
  refine z_ldc C kw_1012 (zi 2147483647) (by decide) dJ5_newCapacity_0f7a4_36 ?_
  refine z_icmp_ne C 51 dJ5_newCapacity_0f7a4_38 (by decide) (fun _ => ?_) (fun q => absurd q (fun q => by rw [zi_eq (by omega) (by omega) (by omega) (by omega)] at q; omega))
  refine z_iload C dJ5_newCapacity_0f7a4_51 0 rfl ?_
  refine z_aload_n C dJ5_newCapacity_0f7a4_53 rfl 4 rfl ?_
  refine z_gI (Cn := RS10) (T := TS10) (Nf := 4) (k := 10) (j := 1) C (sb_cod h) rfl rfl zin_10 (by decide) kw_970 rfl rfl dJ5_newCapacity_0f7a4_54 ?_
  refine z_ishr C dJ5_newCapacity_0f7a4_57 ?_
  rw [shr_0]
  exact zfin_i C hr dJ5_newCapacity_0f7a4_58
theorem mJ5_isLatin1 (l : Launch) (hE : zEk B En) (ev : zEv) (hZ : ∀ U : State, En U → zEnv ev B U) (σ : zS) (N : Nat) (h : SBd σ b da cap tx) : zMi l D Ca B En yJ5_isLatin1_aae02 cJ5_isLatin1_aae02 1 (Option.some Jvm.ClassFile.FieldType.boolean) 0 0 [.ref b] σ N σ (zi 1) := by
  refine zMet_i (own := RJ5) hE (by decide +kernel) rfl (Nat.le_of_ble_eq_true rfl) (fun p e s m args below meth c C hr hRm => ?_)
  refine z_gsC C ev hZ kw_961 dJ5_isLatin1_aae02_0 ?_
  refine z_if_eq C 17 dJ5_isLatin1_aae02_3 (by decide) (fun q => absurd q (by decide)) (fun _ => ?_)
  refine z_aload_n C dJ5_isLatin1_aae02_6 rfl 0 rfl ?_
  refine z_gI (Cn := RS10) (T := TS10) (Nf := 4) (k := 10) (j := 1) C (sb_cod h) rfl rfl zin_10 (by decide) kw_970 rfl rfl dJ5_isLatin1_aae02_7 ?_
  refine z_if_ne C 17 dJ5_isLatin1_aae02_10 (by decide) (fun q => absurd (rfl) q) (fun _ => ?_)
  refine z_iconst C (zi 1) dJ5_isLatin1_aae02_13 (by decide) ?_
  refine z_goto C 18 dJ5_isLatin1_aae02_14 (by decide) ?_
  exact zfin_z C (Or.inr rfl) hr dJ5_isLatin1_aae02_18
theorem mJ1_canEncode (l : Launch) (hE : zEk B En) (σ : zS) (N : Nat) {k : Int} (hk : 0 ≤ k ∧ k < 128) : zMi l D Ca B En yJ1_canEncode_fc78d cJ1_canEncode_fc78d 1 (Option.some Jvm.ClassFile.FieldType.boolean) 0 0 [.int (zi k)] σ N σ (zi 1) := by
  refine zMet_i (own := RJ1) hE (by decide +kernel) rfl (Nat.le_of_ble_eq_true rfl) (fun p e s m args below meth c C hr hRm => ?_)
  refine z_iload_n C dJ1_canEncode_fc78d_0 rfl 0 rfl ?_
  refine z_sipush C (zi 255) dJ1_canEncode_fc78d_1 (by decide) ?_
  refine z_icmp_gt C 11 dJ1_canEncode_fc78d_4 (by decide) (fun q => absurd q (fun q => by rw [zi_lt (by omega) (by omega) (by omega) (by omega)] at q; omega)) (fun _ => ?_)
  refine z_iconst C (zi 1) dJ1_canEncode_fc78d_7 (by decide) ?_
  refine z_goto C 12 dJ1_canEncode_fc78d_8 (by decide) ?_
  exact zfin_z C (Or.inr rfl) hr dJ1_canEncode_fc78d_12
theorem mJ5_getValue (l : Launch) (hE : zEk B En) (σ : zS) (N : Nat) (h : SBd σ b da cap tx) : zMq l D Ca B En yJ5_getValue_6d5f1 cJ5_getValue_6d5f1 1 (Option.some (Jvm.ClassFile.FieldType.array Jvm.ClassFile.FieldType.byte)) 0 0 [.ref b] σ N σ (some da) := by
  refine zMet_q (own := RJ5) hE (by decide +kernel) rfl (Nat.le_of_ble_eq_true rfl) (fun p e s m args below meth c C hr hRm => ?_)
  refine z_aload_n C dJ5_getValue_6d5f1_0 rfl 0 rfl ?_
  refine z_gR (Cn := RS10) (T := TS10) (Nf := 4) (k := 10) (j := 0) C (sb_val h) rfl rfl zin_10 (by decide) kw_969 rfl rfl dJ5_getValue_6d5f1_1 ?_
  exact zfin_q (r := some da) C hr (Or.inr ⟨_, rfl⟩) dJ5_getValue_6d5f1_4
theorem mJ5_length (l : Launch) (hE : zEk B En) (σ : zS) (N : Nat) (h : SBd σ b da cap tx) : zMi l D Ca B En yJ5_length_8abf5 cJ5_length_8abf5 1 (Option.some Jvm.ClassFile.FieldType.int) 0 0 [.ref b] σ N σ (zi (tx.length : Nat)) := by
  refine zMet_i (own := RJ5) hE (by decide +kernel) rfl (Nat.le_of_ble_eq_true rfl) (fun p e s m args below meth c C hr hRm => ?_)
  refine z_aload_n C dJ5_length_8abf5_0 rfl 0 rfl ?_
  refine z_gI (Cn := RS10) (T := TS10) (Nf := 4) (k := 10) (j := 3) C (sb_cnt h) rfl rfl zin_10 (by decide) kw_972 rfl rfl dJ5_length_8abf5_1 ?_
  exact zfin_i C hr dJ5_length_8abf5_4
theorem mJ4_length (l : Launch) (hE : zEk B En) (σ : zS) (N : Nat) (h : SBd σ b da cap tx) : zMi l D Ca B En yJ4_length_8abf5 cJ4_length_8abf5 1 (Option.some Jvm.ClassFile.FieldType.int) 1 20 [.ref b] σ N σ (zi (tx.length : Nat)) := by
  refine zMet_i (own := RJ4) hE (by decide +kernel) rfl (Nat.le_of_ble_eq_true rfl) (fun p e s m args below meth c C hr hRm => ?_)
  refine z_aload_n C dJ4_length_8abf5_0 rfl 0 rfl ?_
  refine z_callUi (As := []) (F0 := 1) (L0 := 20) C (mJ5_length l C.2.2.2.2.2.2.2.1 σ N h) hRm h.1 gUJ5_length_8abf5 hUJ5_length_8abf5 (Nat.le_of_ble_eq_true rfl) (Nat.le_of_ble_eq_true rfl) rfl rfl (Nat.le_of_ble_eq_true rfl) dJ4_length_8abf5_1 ?_
  exact zfin_i C hr dJ4_length_8abf5_4
theorem mJ6_stringSize (l : Launch) (hE : zEk B En) (σ : zS) (N : Nat) {x : Int} (hx : 0 ≤ x ∧ x < 100) : zMi l D Ca B En yJ6_stringSize_0f7a4 cJ6_stringSize_0f7a4 4 (Option.some Jvm.ClassFile.FieldType.int) 0 0 [.int (zi x)] σ N σ (zi (if x < 10 then 1 else 2)) := by
  refine zMet_i (own := RJ6) hE (by decide +kernel) rfl (Nat.le_of_ble_eq_true rfl) (fun p e s m args below meth c C hr hRm => ?_)
  refine z_iconst C (zi 1) dJ6_stringSize_0f7a4_0 (by decide) ?_
  refine z_istore_n (lv2 := [(1, .int (zi 1)), (0, .int (zi x))]) C dJ6_stringSize_0f7a4_1 rfl (by decide) rfl ?_
  refine z_iload_n C dJ6_stringSize_0f7a4_2 rfl 1 rfl ?_
  refine z_if_lt C 11 dJ6_stringSize_0f7a4_3 (by decide) (fun q => absurd q (fun q => by rw [show (zi 0) = zi 0 from rfl, zi_lt (by omega) (by omega) (by omega) (by omega)] at q; omega)) (fun _ => ?_)
  refine z_iconst C (zi 0) dJ6_stringSize_0f7a4_6 (by decide) ?_
  refine z_istore_n (lv2 := [(1, .int (zi 0)), (0, .int (zi x))]) C dJ6_stringSize_0f7a4_7 rfl (by decide) rfl ?_
  refine z_iload_n C dJ6_stringSize_0f7a4_8 rfl 1 rfl ?_
  refine z_ineg C dJ6_stringSize_0f7a4_9 ?_
  rw [show -zi x = zi (-x) from by unfold zi; rw [Int32.ofInt_neg]]
  refine z_istore_n (lv2 := [(0, .int (zi (-x))), (1, .int (zi 0))]) C dJ6_stringSize_0f7a4_10 rfl (by decide) rfl ?_
  refine z_bipush C (zi (-10)) dJ6_stringSize_0f7a4_11 (by decide) ?_
  refine z_istore_n (lv2 := [(2, .int (zi (-10))), (0, .int (zi (-x))), (1, .int (zi 0))]) C dJ6_stringSize_0f7a4_13 rfl (by decide) rfl ?_
  refine z_iconst C (zi 1) dJ6_stringSize_0f7a4_14 (by decide) ?_
  refine z_istore_n (lv2 := [(3, .int (zi 1)), (2, .int (zi (-10))), (0, .int (zi (-x))), (1, .int (zi 0))]) C dJ6_stringSize_0f7a4_15 rfl (by decide) rfl ?_
  refine z_iload_n C dJ6_stringSize_0f7a4_16 rfl 0 rfl ?_
  refine z_bipush C (zi 10) dJ6_stringSize_0f7a4_17 (by decide) ?_
  refine z_icmp_ge C 42 dJ6_stringSize_0f7a4_19 (by decide) (fun q => absurd q (zi_nle (by omega) (by omega) (by omega))) (fun _ => ?_)
  refine z_iload_n C dJ6_stringSize_0f7a4_22 rfl 2 rfl ?_
  refine z_iload_n C dJ6_stringSize_0f7a4_23 rfl 1 rfl ?_
  by_cases q9 : x < 10
  · rw [if_pos q9]
    refine z_icmp_le C 31 dJ6_stringSize_0f7a4_24 (by decide) (fun q => absurd q (zi_nle (by omega) (by omega) (by omega))) (fun _ => ?_)
    refine z_iload_n C dJ6_stringSize_0f7a4_27 rfl 0 rfl ?_
    refine z_iload_n C dJ6_stringSize_0f7a4_28 rfl 3 rfl ?_
    refine z_iadd C dJ6_stringSize_0f7a4_29 ?_
    rw [zi_add]
    exact zfin_i C hr dJ6_stringSize_0f7a4_30
  · rw [if_neg q9]
    refine z_icmp_le C 31 dJ6_stringSize_0f7a4_24 (by decide) (fun _ => ?_) (fun q => absurd (zi_yle (by omega) (by omega) (by omega)) q)
    refine z_bipush C (zi 10) dJ6_stringSize_0f7a4_31 (by decide) ?_
    refine z_iload_n C dJ6_stringSize_0f7a4_33 rfl 1 rfl ?_
    refine z_imul C dJ6_stringSize_0f7a4_34 ?_
    rw [zi_mul]
    refine z_istore_n (lv2 := [(2, .int (zi (10 * -10))), (3, .int (zi 1)), (0, .int (zi (-x))), (1, .int (zi 0))]) C dJ6_stringSize_0f7a4_35 rfl (by decide) rfl ?_
    refine z_iinc (lv2 := [(3, .int (zi 2)), (2, .int (zi (10 * -10))), (0, .int (zi (-x))), (1, .int (zi 0))]) C (zi 2) dJ6_stringSize_0f7a4_36 1 rfl (by decide) (by decide) rfl ?_
    refine z_goto C 16 dJ6_stringSize_0f7a4_39 (by decide) ?_
    refine z_iload_n C dJ6_stringSize_0f7a4_16 rfl 0 rfl ?_
    refine z_bipush C (zi 10) dJ6_stringSize_0f7a4_17 (by decide) ?_
    refine z_icmp_ge C 42 dJ6_stringSize_0f7a4_19 (by decide) (fun q => absurd q (zi_nle (by omega) (by omega) (by omega))) (fun _ => ?_)
    refine z_iload_n C dJ6_stringSize_0f7a4_22 rfl 2 rfl ?_
    refine z_iload_n C dJ6_stringSize_0f7a4_23 rfl 1 rfl ?_
    refine z_icmp_le C 31 dJ6_stringSize_0f7a4_24 (by decide) (fun q => absurd q (zi_nle (by omega) (by omega) (by omega))) (fun _ => ?_)
    refine z_iload_n C dJ6_stringSize_0f7a4_27 rfl 0 rfl ?_
    refine z_iload_n C dJ6_stringSize_0f7a4_28 rfl 3 rfl ?_
    refine z_iadd C dJ6_stringSize_0f7a4_29 ?_
    rw [zi_add]
    exact zfin_i C hr dJ6_stringSize_0f7a4_30
theorem mJ6_getChars1 (l : Launch) (hE : zEk B En) (σ : zS) (N : Nat) (dg : Nat × Nat) (hG : ∀ U : State, En U → zDg dg B U) {x i : Nat} (hx : x < 100) (hq : x < 10) (hda : σ.1 da = (2, cap)) (hi : i + 1 ≤ cap) (hc : cap < 1000) : zMi l D Ca B En yJ6_getChars_ba4f3 cJ6_getChars_ba4f3 7 (Option.some Jvm.ClassFile.FieldType.int) 0 0 [.int (zi (x : Nat)), .int (zi ((i + 1 : Nat) : Int)), .ref da] σ N (zuI σ da i (nI (48 + x % 10))) (zi (i : Nat)) := by
  refine zMet_i (own := RJ6) hE (by decide +kernel) rfl (Nat.le_of_ble_eq_true rfl) (fun p e s m args below meth c C hr hRm => ?_)
  refine z_iload_n C dJ6_getChars_ba4f3_0 rfl 1 rfl ?_
  refine z_istore (lv2 := [(5, .int (zi ((i + 1 : Nat) : Int))), (0, .int (zi (x : Nat))), (1, .int (zi ((i + 1 : Nat) : Int))), (2, .ref da)]) C dJ6_getChars_ba4f3_1 (by decide) rfl ?_
  refine z_iload_n C dJ6_getChars_ba4f3_3 rfl 1 rfl ?_
  refine z_if_ge C 11 dJ6_getChars_ba4f3_4 (by decide) (fun _ => ?_) (fun q => absurd ((zi_le (by omega) (by omega) (by omega) (by omega)).mpr (by omega)) q)
  refine z_iconst C (zi 0) dJ6_getChars_ba4f3_11 (by decide) ?_
  refine z_istore (lv2 := [(6, .int (zi 0)), (5, .int (zi ((i + 1 : Nat) : Int))), (0, .int (zi (x : Nat))), (1, .int (zi ((i + 1 : Nat) : Int))), (2, .ref da)]) C dJ6_getChars_ba4f3_12 (by decide) rfl ?_
  refine z_iload C dJ6_getChars_ba4f3_14 0 rfl ?_
  refine z_if_ne C 22 dJ6_getChars_ba4f3_16 (by decide) (fun q => absurd (rfl) q) (fun _ => ?_)
  refine z_iload_n C dJ6_getChars_ba4f3_19 rfl 2 rfl ?_
  refine z_ineg C dJ6_getChars_ba4f3_20 ?_
  rw [show -zi (x : Nat) = zi (-(x : Int)) from by unfold zi; rw [Int32.ofInt_neg]]
  refine z_istore_n (lv2 := [(0, .int (zi (-(x : Int)))), (6, .int (zi 0)), (5, .int (zi ((i + 1 : Nat) : Int))), (1, .int (zi ((i + 1 : Nat) : Int))), (2, .ref da)]) C dJ6_getChars_ba4f3_21 rfl (by decide) rfl ?_
  refine z_iload_n C dJ6_getChars_ba4f3_22 rfl 0 rfl ?_
  refine z_bipush C (zi (-100)) dJ6_getChars_ba4f3_23 (by decide) ?_
  refine z_icmp_gt C 72 dJ6_getChars_ba4f3_25 (by decide) (fun _ => ?_) (fun q => absurd ((zi_lt (by omega) (by omega) (by omega) (by omega)).mpr (by omega)) q)
  refine z_aload_n C dJ6_getChars_ba4f3_72 rfl 4 rfl ?_
  refine z_iinc (lv2 := [(5, .int (zi ((i + 0 : Nat) : Int))), (0, .int (zi (-(x : Int)))), (6, .int (zi 0)), (1, .int (zi ((i + 1 : Nat) : Int))), (2, .ref da)]) C (zi ((i + 0 : Nat) : Int)) dJ6_getChars_ba4f3_73 2 rfl (by show zi ((i + 1 : Nat) : Int) + zi (-1) = _; rw [zi_add]; congr 1; omega) (by decide) rfl ?_
  refine z_iload C dJ6_getChars_ba4f3_76 0 rfl ?_
  refine z_gsDO C dg hG kw_1107 dJ6_getChars_ba4f3_78 ?_
  refine z_iload_n C dJ6_getChars_ba4f3_81 rfl 1 rfl ?_
  refine z_ineg C dJ6_getChars_ba4f3_82 ?_
  rw [show -zi (-(x : Int)) = zi (x : Nat) from by unfold zi; rw [← Int32.ofInt_neg]; congr 1; omega]
  refine z_bDO C dg hG x rfl hx dJ6_getChars_ba4f3_83 ?_
  refine z_sB (τ := zuI σ da (i) (nI (48 + x % 10))) C (zsB_7 (by omega) hda (by omega) (by omega)) dJ6_getChars_ba4f3_84 ?_
  refine z_iload_n C dJ6_getChars_ba4f3_85 rfl 1 rfl ?_
  refine z_bipush C (zi (-9)) dJ6_getChars_ba4f3_86 (by decide) ?_
  refine z_icmp_ge C 104 dJ6_getChars_ba4f3_88 (by decide) (fun _ => ?_) (fun q => absurd ((zi_le (by omega) (by omega) (by omega) (by omega)).mpr (by omega)) q)
  refine z_iload C dJ6_getChars_ba4f3_104 2 rfl ?_
  refine z_if_eq C 118 dJ6_getChars_ba4f3_106 (by decide) (fun _ => ?_) (fun q => absurd (rfl) q)
  refine z_iload C dJ6_getChars_ba4f3_118 0 rfl ?_
  exact zfin_i C hr dJ6_getChars_ba4f3_120
theorem mJ6_getChars2 (l : Launch) (hE : zEk B En) (σ : zS) (N : Nat) (dg : Nat × Nat) (hG : ∀ U : State, En U → zDg dg B U) {x i : Nat} (hx : x < 100) (hq : 10 ≤ x) (hda : σ.1 da = (2, cap)) (hi : i + 2 ≤ cap) (hc : cap < 1000) : zMi l D Ca B En yJ6_getChars_ba4f3 cJ6_getChars_ba4f3 7 (Option.some Jvm.ClassFile.FieldType.int) 0 0 [.int (zi (x : Nat)), .int (zi ((i + 2 : Nat) : Int)), .ref da] σ N (zuI (zuI σ da (i + 1) (nI (48 + x % 10))) da i (nI (48 + x / 10))) (zi (i : Nat)) := by
  refine zMet_i (own := RJ6) hE (by decide +kernel) rfl (Nat.le_of_ble_eq_true rfl) (fun p e s m args below meth c C hr hRm => ?_)
  refine z_iload_n C dJ6_getChars_ba4f3_0 rfl 1 rfl ?_
  refine z_istore (lv2 := [(5, .int (zi ((i + 2 : Nat) : Int))), (0, .int (zi (x : Nat))), (1, .int (zi ((i + 2 : Nat) : Int))), (2, .ref da)]) C dJ6_getChars_ba4f3_1 (by decide) rfl ?_
  refine z_iload_n C dJ6_getChars_ba4f3_3 rfl 1 rfl ?_
  refine z_if_ge C 11 dJ6_getChars_ba4f3_4 (by decide) (fun _ => ?_) (fun q => absurd ((zi_le (by omega) (by omega) (by omega) (by omega)).mpr (by omega)) q)
  refine z_iconst C (zi 0) dJ6_getChars_ba4f3_11 (by decide) ?_
  refine z_istore (lv2 := [(6, .int (zi 0)), (5, .int (zi ((i + 2 : Nat) : Int))), (0, .int (zi (x : Nat))), (1, .int (zi ((i + 2 : Nat) : Int))), (2, .ref da)]) C dJ6_getChars_ba4f3_12 (by decide) rfl ?_
  refine z_iload C dJ6_getChars_ba4f3_14 0 rfl ?_
  refine z_if_ne C 22 dJ6_getChars_ba4f3_16 (by decide) (fun q => absurd (rfl) q) (fun _ => ?_)
  refine z_iload_n C dJ6_getChars_ba4f3_19 rfl 2 rfl ?_
  refine z_ineg C dJ6_getChars_ba4f3_20 ?_
  rw [show -zi (x : Nat) = zi (-(x : Int)) from by unfold zi; rw [Int32.ofInt_neg]]
  refine z_istore_n (lv2 := [(0, .int (zi (-(x : Int)))), (6, .int (zi 0)), (5, .int (zi ((i + 2 : Nat) : Int))), (1, .int (zi ((i + 2 : Nat) : Int))), (2, .ref da)]) C dJ6_getChars_ba4f3_21 rfl (by decide) rfl ?_
  refine z_iload_n C dJ6_getChars_ba4f3_22 rfl 0 rfl ?_
  refine z_bipush C (zi (-100)) dJ6_getChars_ba4f3_23 (by decide) ?_
  refine z_icmp_gt C 72 dJ6_getChars_ba4f3_25 (by decide) (fun _ => ?_) (fun q => absurd ((zi_lt (by omega) (by omega) (by omega) (by omega)).mpr (by omega)) q)
  refine z_aload_n C dJ6_getChars_ba4f3_72 rfl 4 rfl ?_
  refine z_iinc (lv2 := [(5, .int (zi ((i + 1 : Nat) : Int))), (0, .int (zi (-(x : Int)))), (6, .int (zi 0)), (1, .int (zi ((i + 2 : Nat) : Int))), (2, .ref da)]) C (zi ((i + 1 : Nat) : Int)) dJ6_getChars_ba4f3_73 2 rfl (by show zi ((i + 2 : Nat) : Int) + zi (-1) = _; rw [zi_add]; congr 1; omega) (by decide) rfl ?_
  refine z_iload C dJ6_getChars_ba4f3_76 0 rfl ?_
  refine z_gsDO C dg hG kw_1107 dJ6_getChars_ba4f3_78 ?_
  refine z_iload_n C dJ6_getChars_ba4f3_81 rfl 1 rfl ?_
  refine z_ineg C dJ6_getChars_ba4f3_82 ?_
  rw [show -zi (-(x : Int)) = zi (x : Nat) from by unfold zi; rw [← Int32.ofInt_neg]; congr 1; omega]
  refine z_bDO C dg hG x rfl hx dJ6_getChars_ba4f3_83 ?_
  refine z_sB (τ := zuI σ da (i + 1) (nI (48 + x % 10))) C (zsB_7 (by omega) hda (by omega) (by omega)) dJ6_getChars_ba4f3_84 ?_
  refine z_iload_n C dJ6_getChars_ba4f3_85 rfl 1 rfl ?_
  refine z_bipush C (zi (-9)) dJ6_getChars_ba4f3_86 (by decide) ?_
  refine z_icmp_ge C 104 dJ6_getChars_ba4f3_88 (by decide) (fun q => absurd q (zi_nle (by omega) (by omega) (by omega))) (fun _ => ?_)
  refine z_aload_n C dJ6_getChars_ba4f3_91 rfl 4 rfl ?_
  refine z_iinc (lv2 := [(5, .int (zi (i : Nat))), (0, .int (zi (-(x : Int)))), (6, .int (zi 0)), (1, .int (zi ((i + 2 : Nat) : Int))), (2, .ref da)]) C (zi (i : Nat)) dJ6_getChars_ba4f3_92 0 rfl (by show zi ((i + 1 : Nat) : Int) + zi (-1) = _; rw [zi_add]; congr 1; omega) (by decide) rfl ?_
  refine z_iload C dJ6_getChars_ba4f3_95 0 rfl ?_
  refine z_gsDT C dg hG kw_1109 dJ6_getChars_ba4f3_97 ?_
  refine z_iload_n C dJ6_getChars_ba4f3_100 rfl 1 rfl ?_
  refine z_ineg C dJ6_getChars_ba4f3_101 ?_
  rw [show -zi (-(x : Int)) = zi (x : Nat) from by unfold zi; rw [← Int32.ofInt_neg]; congr 1; omega]
  refine z_bDT C dg hG x rfl hx dJ6_getChars_ba4f3_102 ?_
  refine z_sB (τ := zuI (zuI σ da (i + 1) (nI (48 + x % 10))) da i (nI (48 + x / 10))) C (zsB_7 (by omega) hda (by omega) (by omega)) dJ6_getChars_ba4f3_103 ?_
  refine z_iload C dJ6_getChars_ba4f3_104 2 rfl ?_
  refine z_if_eq C 118 dJ6_getChars_ba4f3_106 (by decide) (fun _ => ?_) (fun q => absurd (rfl) q)
  refine z_iload C dJ6_getChars_ba4f3_118 0 rfl ?_
  exact zfin_i C hr dJ6_getChars_ba4f3_120
theorem mJ5_inflate (l : Launch) (hE : zEk B En) (ev : zEv) (hZ : ∀ U : State, En U → zEnv ev B U) (σ : zS) (N : Nat) {t : Nat} (h : SBd σ b da cap tx) (ht : t < 19) : zMv l D Ca B En yJ5_inflateIfNeededFor_a7421 cJ5_inflateIfNeededFor_a7421 2 (Option.none : Option Jvm.ClassFile.FieldType) 1 20 [.ref b, .ref (ev.2.1 t)] σ N σ () := by
  refine zMet_v (own := RJ5) hE (by decide +kernel) rfl (Nat.le_of_ble_eq_true rfl) (fun p e s m args below meth c C hr hRm => ?_)
  refine z_gsC C ev hZ kw_961 dJ5_inflateIfNeededFor_a7421_0 ?_
  refine z_if_eq C 21 dJ5_inflateIfNeededFor_a7421_3 (by decide) (fun q => absurd q (by decide)) (fun _ => ?_)
  refine z_aload_n C dJ5_inflateIfNeededFor_a7421_6 rfl 0 rfl ?_
  refine z_gI (Cn := RS10) (T := TS10) (Nf := 4) (k := 10) (j := 1) C (sb_cod h) rfl rfl zin_10 (by decide) kw_970 rfl rfl dJ5_inflateIfNeededFor_a7421_7 ?_
  refine z_aload_n C dJ5_inflateIfNeededFor_a7421_10 rfl 1 rfl ?_
  refine z_callTi (As := []) (F0 := 1) (L0 := 20) C ev hZ (mJ0_coder_7d493 l D Ca B En C.2.2.2.2.2.2.2.1 ev hZ σ N t _ (ps_cod ht)) hRm ht rfl kw_795 kw_16 kw_1054 kw_793 kw_794 hyJ0_coder_7d493 (Nat.le_of_ble_eq_true rfl) (Nat.le_of_ble_eq_true rfl) rfl rfl (Nat.le_of_ble_eq_true rfl) dJ5_inflateIfNeededFor_a7421_11 ?_
  refine z_icmp_eq C 21 dJ5_inflateIfNeededFor_a7421_14 (by decide) (fun _ => ?_) (fun q => absurd (rfl) q)
  exact zfin_v (r := ()) C hr dJ5_inflateIfNeededFor_a7421_21
theorem mJ0_getBytes (l : Launch) (hE : zEk B En) (ev : zEv) (hZ : ∀ U : State, En U → zEnv ev B U) (σ : zS) (N : Nat) {t n : Nat} (ht : t < 19) (hda : σ.1 da = (2, cap)) (hc : cap < 1000) (hn : n + (zsByt.getD t []).length ≤ cap) : zMv l D Ca B En yJ0_getBytes_840e7 cJ0_getBytes_840e7 4 (Option.none : Option Jvm.ClassFile.FieldType) 1 64 [.ref (ev.2.1 t), .ref da, .int (zi (n : Nat)), .int 0] σ N (zcpT σ (fun j => (zsByt.getD t []).getD j 0) da n (zsByt.getD t []).length) () := by
  refine zMet_v (own := RJ0) hE (by decide +kernel) rfl (Nat.le_of_ble_eq_true rfl) (fun p e s m args below meth c C hr hRm => ?_)
  refine z_aload_n C dJ0_getBytes_840e7_0 rfl 0 rfl ?_
  refine z_callTi (As := []) (F0 := 1) (L0 := 64) C ev hZ (mJ0_coder_7d493 l D Ca B En C.2.2.2.2.2.2.2.1 ev hZ σ N t _ (ps_cod ht)) hRm ht rfl kw_795 kw_16 kw_792 kw_793 kw_794 hyJ0_coder_7d493 (Nat.le_of_ble_eq_true rfl) (Nat.le_of_ble_eq_true rfl) rfl rfl (Nat.le_of_ble_eq_true rfl) dJ0_getBytes_840e7_1 ?_
  refine z_iload_n C dJ0_getBytes_840e7_4 rfl 3 rfl ?_
  refine z_icmp_ne C 28 dJ0_getBytes_840e7_5 (by decide) (fun q => absurd (rfl) q) (fun _ => ?_)
  refine z_aload_n C dJ0_getBytes_840e7_8 rfl 0 rfl ?_
  refine z_gSv C ev hZ (show zstV t = some t from if_pos ht) kw_1173 dJ0_getBytes_840e7_9 ?_
  refine z_iconst C (zi 0) dJ0_getBytes_840e7_12 (by decide) ?_
  refine z_aload_n C dJ0_getBytes_840e7_13 rfl 1 rfl ?_
  refine z_iload_n C dJ0_getBytes_840e7_14 rfl 2 rfl ?_
  refine z_iload_n C dJ0_getBytes_840e7_15 rfl 3 rfl ?_
  refine z_ishl C dJ0_getBytes_840e7_16 ?_
  rw [shl_0]
  refine z_aload_n C dJ0_getBytes_840e7_17 rfl 0 rfl ?_
  refine z_gSv C ev hZ (show zstV t = some t from if_pos ht) kw_1173 dJ0_getBytes_840e7_18 ?_
  refine z_alenV C ev hZ (show zstL t = some (zi (zsByt.getD t []).length) from ps_l1 ht) dJ0_getBytes_840e7_21 ?_
  have hb9 := ps_byt t ht
  have en : (zi (n : Nat)).toNatClampNeg = n := by rw [zi_nat (by omega) (by omega)]; exact Int.toNat_natCast n
  have el : (zi ((zsByt.getD t []).length : Nat)).toNatClampNeg = (zsByt.getD t []).length := by rw [zi_nat (by omega) (by omega)]; exact Int.toNat_natCast _
  have h0 : ∀ k : Nat, k < 1000 → ¬ zi (k : Nat) < 0 := fun k hk q => by rw [show (0 : Int32) = zi 0 from rfl, zi_lt (by omega) (by omega) (by omega) (by omega)] at q; omega
  refine z_copyT C ev hZ hRm.1 hRm.2.1 kw_1078 kw_303 kw_302 kw_12 ht (by rw [hda]) (h0 _ (by omega)) (h0 _ (by omega)) (by rw [el, hb9.1]; omega) (by rw [en, el, hda]; exact hn) (fun i hi => ps_fit t ht i (by rw [el] at hi; exact hi)) (by decide) dJ0_getBytes_840e7_22 ?_
  rw [en, el]
  refine z_goto C 43 dJ0_getBytes_840e7_25 (by decide) ?_
  exact zfin_v (r := ()) C hr dJ0_getBytes_840e7_43
theorem mJ5_putStringAt (l : Launch) (hE : zEk B En) (ev : zEv) (hZ : ∀ U : State, En U → zEnv ev B U) (σ : zS) (N : Nat) (hP : ∀ U : State, En U → zSl U) {t n : Nat} (h : SBd σ b da cap tx) (ht : t < 19) (hc : cap < 1000) (hn : n + (zsByt.getD t []).length ≤ cap) : zMv l D Ca B En yJ5_putStringAt_47b60 cJ5_putStringAt_47b60 3 (Option.none : Option Jvm.ClassFile.FieldType) 2 87 [.ref b, .int (zi (n : Nat)), .ref (ev.2.1 t)] σ N (zcpT σ (fun j => (zsByt.getD t []).getD j 0) da n (zsByt.getD t []).length) () := by
  refine zMet_v (own := RJ5) hE (by decide +kernel) rfl (Nat.le_of_ble_eq_true rfl) (fun p e s m args below meth c C hr hRm => ?_)
  refine z_aload_n C dJ5_putStringAt_47b60_0 rfl 0 rfl ?_
  refine z_aload_n C dJ5_putStringAt_47b60_1 rfl 2 rfl ?_
  refine z_callBv (As := [.ref (ev.2.1 t)]) (F0 := 2) (L0 := 87) C (mJ5_inflate l C.2.2.2.2.2.2.2.1 ev hZ σ N h ht) hRm h.1 kw_1053 kw_14 kw_1050 kw_1052 (va_Nw.use rfl ((hP s C.2.2.2.2.2.2.1).1 yJ5_inflateIfNeededFor_a7421 (List.mem_of_getElem? (i := 3) rfl))) hyJ5_inflateIfNeededFor_a7421 (Nat.le_of_ble_eq_true rfl) (Nat.le_of_ble_eq_true rfl) rfl rfl (Nat.le_of_ble_eq_true rfl) dJ5_putStringAt_47b60_2 ?_
  refine z_aload_n C dJ5_putStringAt_47b60_5 rfl 2 rfl ?_
  refine z_aload_n C dJ5_putStringAt_47b60_6 rfl 0 rfl ?_
  refine z_gR (Cn := RS10) (T := TS10) (Nf := 4) (k := 10) (j := 0) C (sb_val h) rfl rfl zin_10 (by decide) kw_969 rfl rfl dJ5_putStringAt_47b60_7 ?_
  refine z_iload_n C dJ5_putStringAt_47b60_10 rfl 1 rfl ?_
  refine z_aload_n C dJ5_putStringAt_47b60_11 rfl 0 rfl ?_
  refine z_gI (Cn := RS10) (T := TS10) (Nf := 4) (k := 10) (j := 1) C (sb_cod h) rfl rfl zin_10 (by decide) kw_970 rfl rfl dJ5_putStringAt_47b60_12 ?_
  refine z_callTv (As := [.ref da, .int (zi (n : Nat)), .int 0]) (F0 := 2) (L0 := 87) C ev hZ (mJ0_getBytes l C.2.2.2.2.2.2.2.1 ev hZ σ N ht h.2.2.2.2.1 hc hn) hRm ht rfl kw_1077 kw_16 kw_1074 kw_1075 kw_1076 hyJ0_getBytes_840e7 (Nat.le_of_ble_eq_true rfl) (Nat.le_of_ble_eq_true rfl) rfl rfl (Nat.le_of_ble_eq_true rfl) dJ5_putStringAt_47b60_15 ?_
  exact zfin_v (r := ()) C hr dJ5_putStringAt_47b60_18
end SM
