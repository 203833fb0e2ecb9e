theorem dX0_init_0 : decode cX0_init 0 = .ok (.aload_n 0, 1) := by decide +kernel
theorem dX0_init_1 : decode cX0_init 1 = .ok (.invokespecial 3, 3) := by decide +kernel
theorem dX0_init_4 : decode cX0_init 4 = .ok (.aload_n 0, 1) := by decide +kernel
theorem dX0_init_5 : decode cX0_init 5 = .ok (.bipush 20, 2) := by decide +kernel
theorem dX0_init_7 : decode cX0_init 7 = .ok (.newarray .int, 2) := by decide +kernel
theorem dX0_init_9 : decode cX0_init 9 = .ok (.putfield 9, 3) := by decide +kernel
theorem dX0_init_12 : decode cX0_init 12 = .ok (.aload_n 0, 1) := by decide +kernel
theorem dX0_init_13 : decode cX0_init 13 = .ok (.iconst 0, 1) := by decide +kernel
theorem dX0_init_14 : decode cX0_init 14 = .ok (.putfield 15, 3) := by decide +kernel
theorem dX0_init_17 : decode cX0_init 17 = .ok (.return_, 1) := by decide +kernel
theorem dX0_copyFrom_0 : decode cX0_copyFrom 0 = .ok (.aload_n 0, 1) := by decide +kernel
theorem dX0_copyFrom_1 : decode cX0_copyFrom 1 = .ok (.aload_n 1, 1) := by decide +kernel
theorem dX0_copyFrom_2 : decode cX0_copyFrom 2 = .ok (.getfield 15, 3) := by decide +kernel
theorem dX0_copyFrom_5 : decode cX0_copyFrom 5 = .ok (.putfield 15, 3) := by decide +kernel
theorem dX0_copyFrom_8 : decode cX0_copyFrom 8 = .ok (.aload_n 1, 1) := by decide +kernel
theorem dX0_copyFrom_9 : decode cX0_copyFrom 9 = .ok (.getfield 9, 3) := by decide +kernel
theorem dX0_copyFrom_12 : decode cX0_copyFrom 12 = .ok (.iconst 0, 1) := by decide +kernel
theorem dX0_copyFrom_13 : decode cX0_copyFrom 13 = .ok (.aload_n 0, 1) := by decide +kernel
theorem dX0_copyFrom_14 : decode cX0_copyFrom 14 = .ok (.getfield 9, 3) := by decide +kernel
theorem dX0_copyFrom_17 : decode cX0_copyFrom 17 = .ok (.iconst 0, 1) := by decide +kernel
theorem dX0_copyFrom_18 : decode cX0_copyFrom 18 = .ok (.aload_n 0, 1) := by decide +kernel
theorem dX0_copyFrom_19 : decode cX0_copyFrom 19 = .ok (.getfield 15, 3) := by decide +kernel
theorem dX0_copyFrom_22 : decode cX0_copyFrom 22 = .ok (.invokestatic 19, 3) := by decide +kernel
theorem dX0_copyFrom_25 : decode cX0_copyFrom 25 = .ok (.return_, 1) := by decide +kernel
theorem dX0_has_0 : decode cX0_has 0 = .ok (.iload_n 1, 1) := by decide +kernel
theorem dX0_has_1 : decode cX0_has 1 = .ok (.iconst 0, 1) := by decide +kernel
theorem dX0_has_2 : decode cX0_has 2 = .ok (.aload_n 0, 1) := by decide +kernel
theorem dX0_has_3 : decode cX0_has 3 = .ok (.getfield 15, 3) := by decide +kernel
theorem dX0_has_6 : decode cX0_has 6 = .ok (.iconst 1, 1) := by decide +kernel
theorem dX0_has_7 : decode cX0_has 7 = .ok (.isub, 1) := by decide +kernel
theorem dX0_has_8 : decode cX0_has 8 = .ok (.invokestatic 25, 3) := by decide +kernel
theorem dX0_has_11 : decode cX0_has 11 = .ok (.ireturn, 1) := by decide +kernel
theorem dX0_isFull_0 : decode cX0_isFull 0 = .ok (.aload_n 0, 1) := by decide +kernel
theorem dX0_isFull_1 : decode cX0_isFull 1 = .ok (.getfield 15, 3) := by decide +kernel
theorem dX0_isFull_4 : decode cX0_isFull 4 = .ok (.bipush 20, 2) := by decide +kernel
theorem dX0_isFull_6 : decode cX0_isFull 6 = .ok (.if_icmp .lt 7, 3) := by decide +kernel
theorem dX0_isFull_9 : decode cX0_isFull 9 = .ok (.iconst 1, 1) := by decide +kernel
theorem dX0_isFull_10 : decode cX0_isFull 10 = .ok (.goto 4, 3) := by decide +kernel
theorem dX0_isFull_13 : decode cX0_isFull 13 = .ok (.iconst 0, 1) := by decide +kernel
theorem dX0_isFull_14 : decode cX0_isFull 14 = .ok (.ireturn, 1) := by decide +kernel
theorem dX0_put_0 : decode cX0_put 0 = .ok (.aload_n 0, 1) := by decide +kernel
theorem dX0_put_1 : decode cX0_put 1 = .ok (.invokevirtual 29, 3) := by decide +kernel
theorem dX0_put_4 : decode cX0_put 4 = .ok (.ifCond .ne 23, 3) := by decide +kernel
theorem dX0_put_7 : decode cX0_put 7 = .ok (.aload_n 0, 1) := by decide +kernel
theorem dX0_put_8 : decode cX0_put 8 = .ok (.getfield 9, 3) := by decide +kernel
theorem dX0_put_11 : decode cX0_put 11 = .ok (.aload_n 0, 1) := by decide +kernel
theorem dX0_put_12 : decode cX0_put 12 = .ok (.getfield 15, 3) := by decide +kernel
theorem dX0_put_15 : decode cX0_put 15 = .ok (.iload_n 1, 1) := by decide +kernel
theorem dX0_put_16 : decode cX0_put 16 = .ok (.iastore, 1) := by decide +kernel
theorem dX0_put_17 : decode cX0_put 17 = .ok (.aload_n 0, 1) := by decide +kernel
theorem dX0_put_18 : decode cX0_put 18 = .ok (.dup, 1) := by decide +kernel
theorem dX0_put_19 : decode cX0_put 19 = .ok (.getfield 15, 3) := by decide +kernel
theorem dX0_put_22 : decode cX0_put 22 = .ok (.iconst 1, 1) := by decide +kernel
theorem dX0_put_23 : decode cX0_put 23 = .ok (.iadd, 1) := by decide +kernel
theorem dX0_put_24 : decode cX0_put 24 = .ok (.putfield 15, 3) := by decide +kernel
theorem dX0_put_27 : decode cX0_put 27 = .ok (.return_, 1) := by decide +kernel
theorem dX0_takeOut_0 : decode cX0_takeOut 0 = .ok (.aload_n 0, 1) := by decide +kernel
theorem dX0_takeOut_1 : decode cX0_takeOut 1 = .ok (.getfield 9, 3) := by decide +kernel
theorem dX0_takeOut_4 : decode cX0_takeOut 4 = .ok (.iload_n 1, 1) := by decide +kernel
theorem dX0_takeOut_5 : decode cX0_takeOut 5 = .ok (.iaload, 1) := by decide +kernel
theorem dX0_takeOut_6 : decode cX0_takeOut 6 = .ok (.istore_n 2, 1) := by decide +kernel
theorem dX0_takeOut_7 : decode cX0_takeOut 7 = .ok (.aload_n 0, 1) := by decide +kernel
theorem dX0_takeOut_8 : decode cX0_takeOut 8 = .ok (.getfield 9, 3) := by decide +kernel
theorem dX0_takeOut_11 : decode cX0_takeOut 11 = .ok (.iload_n 1, 1) := by decide +kernel
theorem dX0_takeOut_12 : decode cX0_takeOut 12 = .ok (.iconst 1, 1) := by decide +kernel
theorem dX0_takeOut_13 : decode cX0_takeOut 13 = .ok (.iadd, 1) := by decide +kernel
theorem dX0_takeOut_14 : decode cX0_takeOut 14 = .ok (.aload_n 0, 1) := by decide +kernel
theorem dX0_takeOut_15 : decode cX0_takeOut 15 = .ok (.getfield 9, 3) := by decide +kernel
theorem dX0_takeOut_18 : decode cX0_takeOut 18 = .ok (.iload_n 1, 1) := by decide +kernel
theorem dX0_takeOut_19 : decode cX0_takeOut 19 = .ok (.aload_n 0, 1) := by decide +kernel
theorem dX0_takeOut_20 : decode cX0_takeOut 20 = .ok (.getfield 15, 3) := by decide +kernel
theorem dX0_takeOut_23 : decode cX0_takeOut 23 = .ok (.iload_n 1, 1) := by decide +kernel
theorem dX0_takeOut_24 : decode cX0_takeOut 24 = .ok (.isub, 1) := by decide +kernel
theorem dX0_takeOut_25 : decode cX0_takeOut 25 = .ok (.iconst 1, 1) := by decide +kernel
theorem dX0_takeOut_26 : decode cX0_takeOut 26 = .ok (.isub, 1) := by decide +kernel
theorem dX0_takeOut_27 : decode cX0_takeOut 27 = .ok (.invokestatic 19, 3) := by decide +kernel
theorem dX0_takeOut_30 : decode cX0_takeOut 30 = .ok (.aload_n 0, 1) := by decide +kernel
theorem dX0_takeOut_31 : decode cX0_takeOut 31 = .ok (.dup, 1) := by decide +kernel
theorem dX0_takeOut_32 : decode cX0_takeOut 32 = .ok (.getfield 15, 3) := by decide +kernel
theorem dX0_takeOut_35 : decode cX0_takeOut 35 = .ok (.iconst 1, 1) := by decide +kernel
theorem dX0_takeOut_36 : decode cX0_takeOut 36 = .ok (.isub, 1) := by decide +kernel
theorem dX0_takeOut_37 : decode cX0_takeOut 37 = .ok (.putfield 15, 3) := by decide +kernel
theorem dX0_takeOut_40 : decode cX0_takeOut 40 = .ok (.iload_n 2, 1) := by decide +kernel
theorem dX0_takeOut_41 : decode cX0_takeOut 41 = .ok (.ireturn, 1) := by decide +kernel
theorem dX1_init_0 : decode cX1_init 0 = .ok (.aload_n 0, 1) := by decide +kernel
theorem dX1_init_1 : decode cX1_init 1 = .ok (.invokespecial 3, 3) := by decide +kernel
theorem dX1_init_4 : decode cX1_init 4 = .ok (.aload_n 0, 1) := by decide +kernel
theorem dX1_init_5 : decode cX1_init 5 = .ok (.sipush 500, 3) := by decide +kernel
theorem dX1_init_8 : decode cX1_init 8 = .ok (.bipush 6, 2) := by decide +kernel
theorem dX1_init_10 : decode cX1_init 10 = .ok (.multianewarray 9 2, 4) := by decide +kernel
theorem dX1_init_14 : decode cX1_init 14 = .ok (.putfield 11, 3) := by decide +kernel
theorem dX1_init_17 : decode cX1_init 17 = .ok (.aload_n 0, 1) := by decide +kernel
theorem dX1_init_18 : decode cX1_init 18 = .ok (.sipush 500, 3) := by decide +kernel
theorem dX1_init_21 : decode cX1_init 21 = .ok (.iconst 4, 1) := by decide +kernel
theorem dX1_init_22 : decode cX1_init 22 = .ok (.multianewarray 9 2, 4) := by decide +kernel
theorem dX1_init_26 : decode cX1_init 26 = .ok (.putfield 16, 3) := by decide +kernel
theorem dX1_init_29 : decode cX1_init 29 = .ok (.aload_n 0, 1) := by decide +kernel
theorem dX1_init_30 : decode cX1_init 30 = .ok (.sipush 500, 3) := by decide +kernel
theorem dX1_init_33 : decode cX1_init 33 = .ok (.newarray .int, 2) := by decide +kernel
theorem dX1_init_35 : decode cX1_init 35 = .ok (.putfield 19, 3) := by decide +kernel
theorem dX1_init_38 : decode cX1_init 38 = .ok (.aload_n 0, 1) := by decide +kernel
theorem dX1_init_39 : decode cX1_init 39 = .ok (.sipush 500, 3) := by decide +kernel
theorem dX1_init_42 : decode cX1_init 42 = .ok (.newarray .int, 2) := by decide +kernel
theorem dX1_init_44 : decode cX1_init 44 = .ok (.putfield 23, 3) := by decide +kernel
theorem dX1_init_47 : decode cX1_init 47 = .ok (.aload_n 0, 1) := by decide +kernel
theorem dX1_init_48 : decode cX1_init 48 = .ok (.sipush 500, 3) := by decide +kernel
theorem dX1_init_51 : decode cX1_init 51 = .ok (.newarray .int, 2) := by decide +kernel
theorem dX1_init_53 : decode cX1_init 53 = .ok (.putfield 26, 3) := by decide +kernel
theorem dX1_init_56 : decode cX1_init 56 = .ok (.return_, 1) := by decide +kernel
theorem dX2_init_0 : decode cX2_init 0 = .ok (.aload_n 0, 1) := by decide +kernel
theorem dX2_init_1 : decode cX2_init 1 = .ok (.invokespecial 3, 3) := by decide +kernel
theorem dX2_init_4 : decode cX2_init 4 = .ok (.aload_n 0, 1) := by decide +kernel
theorem dX2_init_5 : decode cX2_init 5 = .ok (.iconst 3, 1) := by decide +kernel
theorem dX2_init_6 : decode cX2_init 6 = .ok (.putfield 9, 3) := by decide +kernel
theorem dX2_init_9 : decode cX2_init 9 = .ok (.aload_n 0, 1) := by decide +kernel
theorem dX2_init_10 : decode cX2_init 10 = .ok (.iconst 1, 1) := by decide +kernel
theorem dX2_init_11 : decode cX2_init 11 = .ok (.putfield 15, 3) := by decide +kernel
theorem dX2_init_14 : decode cX2_init 14 = .ok (.aload_n 0, 1) := by decide +kernel
theorem dX2_init_15 : decode cX2_init 15 = .ok (.iconst 2, 1) := by decide +kernel
theorem dX2_init_16 : decode cX2_init 16 = .ok (.putfield 18, 3) := by decide +kernel
theorem dX2_init_19 : decode cX2_init 19 = .ok (.aload_n 0, 1) := by decide +kernel
theorem dX2_init_20 : decode cX2_init 20 = .ok (.iconst (-1), 1) := by decide +kernel
theorem dX2_init_21 : decode cX2_init 21 = .ok (.putfield 21, 3) := by decide +kernel
theorem dX2_init_24 : decode cX2_init 24 = .ok (.aload_n 0, 1) := by decide +kernel
theorem dX2_init_25 : decode cX2_init 25 = .ok (.iconst 0, 1) := by decide +kernel
theorem dX2_init_26 : decode cX2_init 26 = .ok (.putfield 24, 3) := by decide +kernel
theorem dX2_init_29 : decode cX2_init 29 = .ok (.aload_n 0, 1) := by decide +kernel
theorem dX2_init_30 : decode cX2_init 30 = .ok (.iconst 0, 1) := by decide +kernel
theorem dX2_init_31 : decode cX2_init 31 = .ok (.putfield 27, 3) := by decide +kernel
theorem dX2_init_34 : decode cX2_init 34 = .ok (.aload_n 0, 1) := by decide +kernel
theorem dX2_init_35 : decode cX2_init 35 = .ok (.iconst 0, 1) := by decide +kernel
theorem dX2_init_36 : decode cX2_init 36 = .ok (.putfield 30, 3) := by decide +kernel
theorem dX2_init_39 : decode cX2_init 39 = .ok (.aload_n 0, 1) := by decide +kernel
theorem dX2_init_40 : decode cX2_init 40 = .ok (.iconst 4, 1) := by decide +kernel
theorem dX2_init_41 : decode cX2_init 41 = .ok (.newarray .int, 2) := by decide +kernel
theorem dX2_init_43 : decode cX2_init 43 = .ok (.putfield 33, 3) := by decide +kernel
theorem dX2_init_46 : decode cX2_init 46 = .ok (.aload_n 0, 1) := by decide +kernel
theorem dX2_init_47 : decode cX2_init 47 = .ok (.new 37, 3) := by decide +kernel
theorem dX2_init_50 : decode cX2_init 50 = .ok (.dup, 1) := by decide +kernel
theorem dX2_init_51 : decode cX2_init 51 = .ok (.invokespecial 39, 3) := by decide +kernel
theorem dX2_init_54 : decode cX2_init 54 = .ok (.putfield 40, 3) := by decide +kernel
theorem dX2_init_57 : decode cX2_init 57 = .ok (.aload_n 0, 1) := by decide +kernel
theorem dX2_init_58 : decode cX2_init 58 = .ok (.bipush 6, 2) := by decide +kernel
theorem dX2_init_60 : decode cX2_init 60 = .ok (.newarray .int, 2) := by decide +kernel
theorem dX2_init_62 : decode cX2_init 62 = .ok (.putfield 44, 3) := by decide +kernel
theorem dX2_init_65 : decode cX2_init 65 = .ok (.aload_n 0, 1) := by decide +kernel
theorem dX2_init_66 : decode cX2_init 66 = .ok (.aload_n 1, 1) := by decide +kernel
theorem dX2_init_67 : decode cX2_init 67 = .ok (.putfield 47, 3) := by decide +kernel
theorem dX2_init_70 : decode cX2_init 70 = .ok (.return_, 1) := by decide +kernel
theorem dX2_copyFrom_0 : decode cX2_copyFrom 0 = .ok (.aload_n 0, 1) := by decide +kernel
theorem dX2_copyFrom_1 : decode cX2_copyFrom 1 = .ok (.aload_n 1, 1) := by decide +kernel
theorem dX2_copyFrom_2 : decode cX2_copyFrom 2 = .ok (.getfield 9, 3) := by decide +kernel
theorem dX2_copyFrom_5 : decode cX2_copyFrom 5 = .ok (.putfield 9, 3) := by decide +kernel
theorem dX2_copyFrom_8 : decode cX2_copyFrom 8 = .ok (.aload_n 0, 1) := by decide +kernel
theorem dX2_copyFrom_9 : decode cX2_copyFrom 9 = .ok (.aload_n 1, 1) := by decide +kernel
theorem dX2_copyFrom_10 : decode cX2_copyFrom 10 = .ok (.getfield 15, 3) := by decide +kernel
theorem dX2_copyFrom_13 : decode cX2_copyFrom 13 = .ok (.putfield 15, 3) := by decide +kernel
theorem dX2_copyFrom_16 : decode cX2_copyFrom 16 = .ok (.aload_n 0, 1) := by decide +kernel
theorem dX2_copyFrom_17 : decode cX2_copyFrom 17 = .ok (.aload_n 1, 1) := by decide +kernel
theorem dX2_copyFrom_18 : decode cX2_copyFrom 18 = .ok (.getfield 18, 3) := by decide +kernel
theorem dX2_copyFrom_21 : decode cX2_copyFrom 21 = .ok (.putfield 18, 3) := by decide +kernel
theorem dX2_copyFrom_24 : decode cX2_copyFrom 24 = .ok (.aload_n 0, 1) := by decide +kernel
theorem dX2_copyFrom_25 : decode cX2_copyFrom 25 = .ok (.aload_n 1, 1) := by decide +kernel
theorem dX2_copyFrom_26 : decode cX2_copyFrom 26 = .ok (.getfield 21, 3) := by decide +kernel
theorem dX2_copyFrom_29 : decode cX2_copyFrom 29 = .ok (.putfield 21, 3) := by decide +kernel
theorem dX2_copyFrom_32 : decode cX2_copyFrom 32 = .ok (.aload_n 0, 1) := by decide +kernel
theorem dX2_copyFrom_33 : decode cX2_copyFrom 33 = .ok (.aload_n 1, 1) := by decide +kernel
theorem dX2_copyFrom_34 : decode cX2_copyFrom 34 = .ok (.getfield 24, 3) := by decide +kernel
theorem dX2_copyFrom_37 : decode cX2_copyFrom 37 = .ok (.putfield 24, 3) := by decide +kernel
theorem dX2_copyFrom_40 : decode cX2_copyFrom 40 = .ok (.aload_n 0, 1) := by decide +kernel
theorem dX2_copyFrom_41 : decode cX2_copyFrom 41 = .ok (.aload_n 1, 1) := by decide +kernel
theorem dX2_copyFrom_42 : decode cX2_copyFrom 42 = .ok (.getfield 27, 3) := by decide +kernel
theorem dX2_copyFrom_45 : decode cX2_copyFrom 45 = .ok (.putfield 27, 3) := by decide +kernel
theorem dX2_copyFrom_48 : decode cX2_copyFrom 48 = .ok (.aload_n 0, 1) := by decide +kernel
theorem dX2_copyFrom_49 : decode cX2_copyFrom 49 = .ok (.aload_n 1, 1) := by decide +kernel
theorem dX2_copyFrom_50 : decode cX2_copyFrom 50 = .ok (.getfield 30, 3) := by decide +kernel
theorem dX2_copyFrom_53 : decode cX2_copyFrom 53 = .ok (.putfield 30, 3) := by decide +kernel
theorem dX2_copyFrom_56 : decode cX2_copyFrom 56 = .ok (.aload_n 1, 1) := by decide +kernel
theorem dX2_copyFrom_57 : decode cX2_copyFrom 57 = .ok (.getfield 33, 3) := by decide +kernel
theorem dX2_copyFrom_60 : decode cX2_copyFrom 60 = .ok (.iconst 0, 1) := by decide +kernel
theorem dX2_copyFrom_61 : decode cX2_copyFrom 61 = .ok (.aload_n 0, 1) := by decide +kernel
theorem dX2_copyFrom_62 : decode cX2_copyFrom 62 = .ok (.getfield 33, 3) := by decide +kernel
theorem dX2_copyFrom_65 : decode cX2_copyFrom 65 = .ok (.iconst 0, 1) := by decide +kernel
theorem dX2_copyFrom_66 : decode cX2_copyFrom 66 = .ok (.iconst 4, 1) := by decide +kernel
theorem dX2_copyFrom_67 : decode cX2_copyFrom 67 = .ok (.invokestatic 51, 3) := by decide +kernel
theorem dX2_copyFrom_70 : decode cX2_copyFrom 70 = .ok (.aload_n 0, 1) := by decide +kernel
theorem dX2_copyFrom_71 : decode cX2_copyFrom 71 = .ok (.getfield 40, 3) := by decide +kernel
theorem dX2_copyFrom_74 : decode cX2_copyFrom 74 = .ok (.aload_n 1, 1) := by decide +kernel
theorem dX2_copyFrom_75 : decode cX2_copyFrom 75 = .ok (.getfield 40, 3) := by decide +kernel
theorem dX2_copyFrom_78 : decode cX2_copyFrom 78 = .ok (.invokevirtual 57, 3) := by decide +kernel
theorem dX2_copyFrom_81 : decode cX2_copyFrom 81 = .ok (.return_, 1) := by decide +kernel
theorem dX2_numberOf_0 : decode cX2_numberOf 0 = .ok (.aload_n 0, 1) := by decide +kernel
theorem dX2_numberOf_1 : decode cX2_numberOf 1 = .ok (.getfield 21, 3) := by decide +kernel
theorem dX2_numberOf_4 : decode cX2_numberOf 4 = .ok (.aload_n 0, 1) := by decide +kernel
theorem dX2_numberOf_5 : decode cX2_numberOf 5 = .ok (.getfield 9, 3) := by decide +kernel
theorem dX2_numberOf_8 : decode cX2_numberOf 8 = .ok (.isub, 1) := by decide +kernel
theorem dX2_numberOf_9 : decode cX2_numberOf 9 = .ok (.iconst 1, 1) := by decide +kernel
theorem dX2_numberOf_10 : decode cX2_numberOf 10 = .ok (.iadd, 1) := by decide +kernel
theorem dX2_numberOf_11 : decode cX2_numberOf 11 = .ok (.istore_n 2, 1) := by decide +kernel
theorem dX2_numberOf_12 : decode cX2_numberOf 12 = .ok (.iload_n 2, 1) := by decide +kernel
theorem dX2_numberOf_13 : decode cX2_numberOf 13 = .ok (.iload_n 1, 1) := by decide +kernel
theorem dX2_numberOf_14 : decode cX2_numberOf 14 = .ok (.iload_n 2, 1) := by decide +kernel
theorem dX2_numberOf_15 : decode cX2_numberOf 15 = .ok (.isub, 1) := by decide +kernel
theorem dX2_numberOf_16 : decode cX2_numberOf 16 = .ok (.bipush 64, 2) := by decide +kernel
theorem dX2_numberOf_18 : decode cX2_numberOf 18 = .ok (.invokestatic 61, 3) := by decide +kernel
theorem dX2_numberOf_21 : decode cX2_numberOf 21 = .ok (.iadd, 1) := by decide +kernel
theorem dX2_numberOf_22 : decode cX2_numberOf 22 = .ok (.ireturn, 1) := by decide +kernel
theorem dX2_decodedPackets_0 : decode cX2_decodedPackets 0 = .ok (.aload_n 0, 1) := by decide +kernel
theorem dX2_decodedPackets_1 : decode cX2_decodedPackets 1 = .ok (.getfield 33, 3) := by decide +kernel
theorem dX2_decodedPackets_4 : decode cX2_decodedPackets 4 = .ok (.iconst 0, 1) := by decide +kernel
theorem dX2_decodedPackets_5 : decode cX2_decodedPackets 5 = .ok (.iaload, 1) := by decide +kernel
theorem dX2_decodedPackets_6 : decode cX2_decodedPackets 6 = .ok (.aload_n 0, 1) := by decide +kernel
theorem dX2_decodedPackets_7 : decode cX2_decodedPackets 7 = .ok (.getfield 33, 3) := by decide +kernel
theorem dX2_decodedPackets_10 : decode cX2_decodedPackets 10 = .ok (.iconst 1, 1) := by decide +kernel
theorem dX2_decodedPackets_11 : decode cX2_decodedPackets 11 = .ok (.iaload, 1) := by decide +kernel
theorem dX2_decodedPackets_12 : decode cX2_decodedPackets 12 = .ok (.iadd, 1) := by decide +kernel
theorem dX2_decodedPackets_13 : decode cX2_decodedPackets 13 = .ok (.ireturn, 1) := by decide +kernel
theorem dX2_receive_0 : decode cX2_receive 0 = .ok (.aload_n 0, 1) := by decide +kernel
theorem dX2_receive_1 : decode cX2_receive 1 = .ok (.aload_n 0, 1) := by decide +kernel
theorem dX2_receive_2 : decode cX2_receive 2 = .ok (.getfield 30, 3) := by decide +kernel
theorem dX2_receive_5 : decode cX2_receive 5 = .ok (.aload_n 0, 1) := by decide +kernel
theorem dX2_receive_6 : decode cX2_receive 6 = .ok (.getfield 21, 3) := by decide +kernel
theorem dX2_receive_9 : decode cX2_receive 9 = .ok (.iload_n 1, 1) := by decide +kernel
theorem dX2_receive_10 : decode cX2_receive 10 = .ok (.isub, 1) := by decide +kernel
theorem dX2_receive_11 : decode cX2_receive 11 = .ok (.invokestatic 67, 3) := by decide +kernel
theorem dX2_receive_14 : decode cX2_receive 14 = .ok (.putfield 30, 3) := by decide +kernel
theorem dX2_receive_17 : decode cX2_receive 17 = .ok (.aload_n 0, 1) := by decide +kernel
theorem dX2_receive_18 : decode cX2_receive 18 = .ok (.getfield 47, 3) := by decide +kernel
theorem dX2_receive_21 : decode cX2_receive 21 = .ok (.getfield 70, 3) := by decide +kernel
theorem dX2_receive_24 : decode cX2_receive 24 = .ok (.iload_n 1, 1) := by decide +kernel
theorem dX2_receive_25 : decode cX2_receive 25 = .ok (.iaload, 1) := by decide +kernel
theorem dX2_receive_26 : decode cX2_receive 26 = .ok (.ifCond .ne 7, 3) := by decide +kernel
theorem dX2_receive_29 : decode cX2_receive 29 = .ok (.iload_n 1, 1) := by decide +kernel
theorem dX2_receive_30 : decode cX2_receive 30 = .ok (.goto 11, 3) := by decide +kernel
theorem dX2_receive_33 : decode cX2_receive 33 = .ok (.aload_n 0, 1) := by decide +kernel
theorem dX2_receive_34 : decode cX2_receive 34 = .ok (.iload_n 1, 1) := by decide +kernel
theorem dX2_receive_35 : decode cX2_receive 35 = .ok (.bipush 64, 2) := by decide +kernel
theorem dX2_receive_37 : decode cX2_receive 37 = .ok (.irem, 1) := by decide +kernel
theorem dX2_receive_38 : decode cX2_receive 38 = .ok (.invokevirtual 75, 3) := by decide +kernel
theorem dX2_receive_41 : decode cX2_receive 41 = .ok (.istore_n 3, 1) := by decide +kernel
theorem dX2_receive_42 : decode cX2_receive 42 = .ok (.iconst 2, 1) := by decide +kernel
theorem dX2_receive_43 : decode cX2_receive 43 = .ok (.istore 4, 2) := by decide +kernel
theorem dX2_receive_45 : decode cX2_receive 45 = .ok (.aload_n 0, 1) := by decide +kernel
theorem dX2_receive_46 : decode cX2_receive 46 = .ok (.getfield 40, 3) := by decide +kernel
theorem dX2_receive_49 : decode cX2_receive 49 = .ok (.iload_n 3, 1) := by decide +kernel
theorem dX2_receive_50 : decode cX2_receive 50 = .ok (.invokevirtual 79, 3) := by decide +kernel
theorem dX2_receive_53 : decode cX2_receive 53 = .ok (.ifCond .eq 9, 3) := by decide +kernel
theorem dX2_receive_56 : decode cX2_receive 56 = .ok (.iconst 3, 1) := by decide +kernel
theorem dX2_receive_57 : decode cX2_receive 57 = .ok (.istore 4, 2) := by decide +kernel
theorem dX2_receive_59 : decode cX2_receive 59 = .ok (.goto 28, 3) := by decide +kernel
theorem dX2_receive_62 : decode cX2_receive 62 = .ok (.aload_n 0, 1) := by decide +kernel
theorem dX2_receive_63 : decode cX2_receive 63 = .ok (.iload_n 1, 1) := by decide +kernel
theorem dX2_receive_64 : decode cX2_receive 64 = .ok (.iload_n 3, 1) := by decide +kernel
theorem dX2_receive_65 : decode cX2_receive 65 = .ok (.invokevirtual 83, 3) := by decide +kernel
theorem dX2_receive_68 : decode cX2_receive 68 = .ok (.ifCond .eq 19, 3) := by decide +kernel
theorem dX2_receive_71 : decode cX2_receive 71 = .ok (.aload_n 0, 1) := by decide +kernel
theorem dX2_receive_72 : decode cX2_receive 72 = .ok (.iload_n 1, 1) := by decide +kernel
theorem dX2_receive_73 : decode cX2_receive 73 = .ok (.iload_n 3, 1) := by decide +kernel
theorem dX2_receive_74 : decode cX2_receive 74 = .ok (.invokevirtual 87, 3) := by decide +kernel
theorem dX2_receive_77 : decode cX2_receive 77 = .ok (.ifCond .eq 7, 3) := by decide +kernel
theorem dX2_receive_80 : decode cX2_receive 80 = .ok (.iconst 0, 1) := by decide +kernel
theorem dX2_receive_81 : decode cX2_receive 81 = .ok (.goto 4, 3) := by decide +kernel
theorem dX2_receive_84 : decode cX2_receive 84 = .ok (.iconst 1, 1) := by decide +kernel
theorem dX2_receive_85 : decode cX2_receive 85 = .ok (.istore 4, 2) := by decide +kernel
theorem dX2_receive_87 : decode cX2_receive 87 = .ok (.aload_n 0, 1) := by decide +kernel
theorem dX2_receive_88 : decode cX2_receive 88 = .ok (.getfield 33, 3) := by decide +kernel
theorem dX2_receive_91 : decode cX2_receive 91 = .ok (.iload 4, 2) := by decide +kernel
theorem dX2_receive_93 : decode cX2_receive 93 = .ok (.dup2, 1) := by decide +kernel
theorem dX2_receive_94 : decode cX2_receive 94 = .ok (.iaload, 1) := by decide +kernel
theorem dX2_receive_95 : decode cX2_receive 95 = .ok (.iconst 1, 1) := by decide +kernel
theorem dX2_receive_96 : decode cX2_receive 96 = .ok (.iadd, 1) := by decide +kernel
theorem dX2_receive_97 : decode cX2_receive 97 = .ok (.iastore, 1) := by decide +kernel
theorem dX2_receive_98 : decode cX2_receive 98 = .ok (.iload 4, 2) := by decide +kernel
theorem dX2_receive_100 : decode cX2_receive 100 = .ok (.iconst 2, 1) := by decide +kernel
theorem dX2_receive_101 : decode cX2_receive 101 = .ok (.if_icmp .ne 11, 3) := by decide +kernel
theorem dX2_receive_104 : decode cX2_receive 104 = .ok (.aload_n 0, 1) := by decide +kernel
theorem dX2_receive_105 : decode cX2_receive 105 = .ok (.aload_n 2, 1) := by decide +kernel
theorem dX2_receive_106 : decode cX2_receive 106 = .ok (.invokevirtual 90, 3) := by decide +kernel
theorem dX2_receive_109 : decode cX2_receive 109 = .ok (.goto 15, 3) := by decide +kernel
theorem dX2_receive_112 : decode cX2_receive 112 = .ok (.iload 4, 2) := by decide +kernel
theorem dX2_receive_114 : decode cX2_receive 114 = .ok (.iconst 3, 1) := by decide +kernel
theorem dX2_receive_115 : decode cX2_receive 115 = .ok (.if_icmp .eq 9, 3) := by decide +kernel
theorem dX2_receive_118 : decode cX2_receive 118 = .ok (.aload_n 0, 1) := by decide +kernel
theorem dX2_receive_119 : decode cX2_receive 119 = .ok (.iload_n 3, 1) := by decide +kernel
theorem dX2_receive_120 : decode cX2_receive 120 = .ok (.aload_n 2, 1) := by decide +kernel
theorem dX2_receive_121 : decode cX2_receive 121 = .ok (.invokevirtual 94, 3) := by decide +kernel
theorem dX2_receive_124 : decode cX2_receive 124 = .ok (.iload 4, 2) := by decide +kernel
theorem dX2_receive_126 : decode cX2_receive 126 = .ok (.ireturn, 1) := by decide +kernel
theorem dX2_isRight_0 : decode cX2_isRight 0 = .ok (.iload_n 2, 1) := by decide +kernel
theorem dX2_isRight_1 : decode cX2_isRight 1 = .ok (.iload_n 1, 1) := by decide +kernel
theorem dX2_isRight_2 : decode cX2_isRight 2 = .ok (.if_icmp .ne 26, 3) := by decide +kernel
theorem dX2_isRight_5 : decode cX2_isRight 5 = .ok (.aload_n 0, 1) := by decide +kernel
theorem dX2_isRight_6 : decode cX2_isRight 6 = .ok (.getfield 44, 3) := by decide +kernel
theorem dX2_isRight_9 : decode cX2_isRight 9 = .ok (.aload_n 0, 1) := by decide +kernel
theorem dX2_isRight_10 : decode cX2_isRight 10 = .ok (.getfield 47, 3) := by decide +kernel
theorem dX2_isRight_13 : decode cX2_isRight 13 = .ok (.getfield 98, 3) := by decide +kernel
theorem dX2_isRight_16 : decode cX2_isRight 16 = .ok (.iload_n 1, 1) := by decide +kernel
theorem dX2_isRight_17 : decode cX2_isRight 17 = .ok (.aaload, 1) := by decide +kernel
theorem dX2_isRight_18 : decode cX2_isRight 18 = .ok (.invokestatic 102, 3) := by decide +kernel
theorem dX2_isRight_21 : decode cX2_isRight 21 = .ok (.ifCond .eq 7, 3) := by decide +kernel
theorem dX2_isRight_24 : decode cX2_isRight 24 = .ok (.iconst 1, 1) := by decide +kernel
theorem dX2_isRight_25 : decode cX2_isRight 25 = .ok (.goto 4, 3) := by decide +kernel
theorem dX2_isRight_28 : decode cX2_isRight 28 = .ok (.iconst 0, 1) := by decide +kernel
theorem dX2_isRight_29 : decode cX2_isRight 29 = .ok (.ireturn, 1) := by decide +kernel
theorem dX2_decode_0 : decode cX2_decode 0 = .ok (.aload_n 0, 1) := by decide +kernel
theorem dX2_decode_1 : decode cX2_decode 1 = .ok (.getfield 47, 3) := by decide +kernel
theorem dX2_decode_4 : decode cX2_decode 4 = .ok (.getfield 70, 3) := by decide +kernel
theorem dX2_decode_7 : decode cX2_decode 7 = .ok (.iload_n 1, 1) := by decide +kernel
theorem dX2_decode_8 : decode cX2_decode 8 = .ok (.iaload, 1) := by decide +kernel
theorem dX2_decode_9 : decode cX2_decode 9 = .ok (.istore_n 3, 1) := by decide +kernel
theorem dX2_decode_10 : decode cX2_decode 10 = .ok (.iload_n 3, 1) := by decide +kernel
theorem dX2_decode_11 : decode cX2_decode 11 = .ok (.ifCond .ne 21, 3) := by decide +kernel
theorem dX2_decode_14 : decode cX2_decode 14 = .ok (.aload_n 0, 1) := by decide +kernel
theorem dX2_decode_15 : decode cX2_decode 15 = .ok (.getfield 47, 3) := by decide +kernel
theorem dX2_decode_18 : decode cX2_decode 18 = .ok (.getfield 98, 3) := by decide +kernel
theorem dX2_decode_21 : decode cX2_decode 21 = .ok (.iload_n 1, 1) := by decide +kernel
theorem dX2_decode_22 : decode cX2_decode 22 = .ok (.aaload, 1) := by decide +kernel
theorem dX2_decode_23 : decode cX2_decode 23 = .ok (.aload_n 0, 1) := by decide +kernel
theorem dX2_decode_24 : decode cX2_decode 24 = .ok (.getfield 44, 3) := by decide +kernel
theorem dX2_decode_27 : decode cX2_decode 27 = .ok (.invokestatic 108, 3) := by decide +kernel
theorem dX2_decode_30 : decode cX2_decode 30 = .ok (.iconst 1, 1) := by decide +kernel
theorem dX2_decode_31 : decode cX2_decode 31 = .ok (.ireturn, 1) := by decide +kernel
theorem dX2_decode_32 : decode cX2_decode 32 = .ok (.iload_n 1, 1) := by decide +kernel
theorem dX2_decode_33 : decode cX2_decode 33 = .ok (.aload_n 0, 1) := by decide +kernel
theorem dX2_decode_34 : decode cX2_decode 34 = .ok (.getfield 47, 3) := by decide +kernel
theorem dX2_decode_37 : decode cX2_decode 37 = .ok (.getfield 112, 3) := by decide +kernel
theorem dX2_decode_40 : decode cX2_decode 40 = .ok (.iload_n 1, 1) := by decide +kernel
theorem dX2_decode_41 : decode cX2_decode 41 = .ok (.iaload, 1) := by decide +kernel
theorem dX2_decode_42 : decode cX2_decode 42 = .ok (.isub, 1) := by decide +kernel
theorem dX2_decode_43 : decode cX2_decode 43 = .ok (.istore 4, 2) := by decide +kernel
theorem dX2_decode_45 : decode cX2_decode 45 = .ok (.aload_n 0, 1) := by decide +kernel
theorem dX2_decode_46 : decode cX2_decode 46 = .ok (.getfield 40, 3) := by decide +kernel
theorem dX2_decode_49 : decode cX2_decode 49 = .ok (.iload_n 2, 1) := by decide +kernel
theorem dX2_decode_50 : decode cX2_decode 50 = .ok (.iload 4, 2) := by decide +kernel
theorem dX2_decode_52 : decode cX2_decode 52 = .ok (.isub, 1) := by decide +kernel
theorem dX2_decode_53 : decode cX2_decode 53 = .ok (.invokevirtual 79, 3) := by decide +kernel
theorem dX2_decode_56 : decode cX2_decode 56 = .ok (.ifCond .ne 5, 3) := by decide +kernel
theorem dX2_decode_59 : decode cX2_decode 59 = .ok (.iconst 0, 1) := by decide +kernel
theorem dX2_decode_60 : decode cX2_decode 60 = .ok (.ireturn, 1) := by decide +kernel
theorem dX2_decode_61 : decode cX2_decode 61 = .ok (.aload_n 0, 1) := by decide +kernel
theorem dX2_decode_62 : decode cX2_decode 62 = .ok (.getfield 44, 3) := by decide +kernel
theorem dX2_decode_65 : decode cX2_decode 65 = .ok (.aload_n 0, 1) := by decide +kernel
theorem dX2_decode_66 : decode cX2_decode 66 = .ok (.getfield 40, 3) := by decide +kernel
theorem dX2_decode_69 : decode cX2_decode 69 = .ok (.iload_n 2, 1) := by decide +kernel
theorem dX2_decode_70 : decode cX2_decode 70 = .ok (.iload 4, 2) := by decide +kernel
theorem dX2_decode_72 : decode cX2_decode 72 = .ok (.isub, 1) := by decide +kernel
theorem dX2_decode_73 : decode cX2_decode 73 = .ok (.invokevirtual 115, 3) := by decide +kernel
theorem dX2_decode_76 : decode cX2_decode 76 = .ok (.iload_n 3, 1) := by decide +kernel
theorem dX2_decode_77 : decode cX2_decode 77 = .ok (.iload 4, 2) := by decide +kernel
theorem dX2_decode_79 : decode cX2_decode 79 = .ok (.invokestatic 119, 3) := by decide +kernel
theorem dX2_decode_82 : decode cX2_decode 82 = .ok (.aload_n 0, 1) := by decide +kernel
theorem dX2_decode_83 : decode cX2_decode 83 = .ok (.getfield 44, 3) := by decide +kernel
theorem dX2_decode_86 : decode cX2_decode 86 = .ok (.aload_n 0, 1) := by decide +kernel
theorem dX2_decode_87 : decode cX2_decode 87 = .ok (.getfield 47, 3) := by decide +kernel
theorem dX2_decode_90 : decode cX2_decode 90 = .ok (.getfield 123, 3) := by decide +kernel
theorem dX2_decode_93 : decode cX2_decode 93 = .ok (.iload_n 1, 1) := by decide +kernel
theorem dX2_decode_94 : decode cX2_decode 94 = .ok (.aaload, 1) := by decide +kernel
theorem dX2_decode_95 : decode cX2_decode 95 = .ok (.invokestatic 126, 3) := by decide +kernel
theorem dX2_decode_98 : decode cX2_decode 98 = .ok (.iconst 1, 1) := by decide +kernel
theorem dX2_decode_99 : decode cX2_decode 99 = .ok (.ireturn, 1) := by decide +kernel
theorem dX2_keepDecoded_0 : decode cX2_keepDecoded 0 = .ok (.iload_n 1, 1) := by decide +kernel
theorem dX2_keepDecoded_1 : decode cX2_keepDecoded 1 = .ok (.aload_n 0, 1) := by decide +kernel
theorem dX2_keepDecoded_2 : decode cX2_keepDecoded 2 = .ok (.getfield 21, 3) := by decide +kernel
theorem dX2_keepDecoded_5 : decode cX2_keepDecoded 5 = .ok (.if_icmp .le 22, 3) := by decide +kernel
theorem dX2_keepDecoded_8 : decode cX2_keepDecoded 8 = .ok (.aload_n 0, 1) := by decide +kernel
theorem dX2_keepDecoded_9 : decode cX2_keepDecoded 9 = .ok (.iload_n 1, 1) := by decide +kernel
theorem dX2_keepDecoded_10 : decode cX2_keepDecoded 10 = .ok (.putfield 21, 3) := by decide +kernel
theorem dX2_keepDecoded_13 : decode cX2_keepDecoded 13 = .ok (.aload_n 0, 1) := by decide +kernel
theorem dX2_keepDecoded_14 : decode cX2_keepDecoded 14 = .ok (.getfield 40, 3) := by decide +kernel
theorem dX2_keepDecoded_17 : decode cX2_keepDecoded 17 = .ok (.aload_n 0, 1) := by decide +kernel
theorem dX2_keepDecoded_18 : decode cX2_keepDecoded 18 = .ok (.getfield 21, 3) := by decide +kernel
theorem dX2_keepDecoded_21 : decode cX2_keepDecoded 21 = .ok (.bipush 64, 2) := by decide +kernel
theorem dX2_keepDecoded_23 : decode cX2_keepDecoded 23 = .ok (.isub, 1) := by decide +kernel
theorem dX2_keepDecoded_24 : decode cX2_keepDecoded 24 = .ok (.invokevirtual 129, 3) := by decide +kernel
theorem dX2_keepDecoded_27 : decode cX2_keepDecoded 27 = .ok (.iload_n 1, 1) := by decide +kernel
theorem dX2_keepDecoded_28 : decode cX2_keepDecoded 28 = .ok (.aload_n 0, 1) := by decide +kernel
theorem dX2_keepDecoded_29 : decode cX2_keepDecoded 29 = .ok (.getfield 21, 3) := by decide +kernel
theorem dX2_keepDecoded_32 : decode cX2_keepDecoded 32 = .ok (.bipush 64, 2) := by decide +kernel
theorem dX2_keepDecoded_34 : decode cX2_keepDecoded 34 = .ok (.isub, 1) := by decide +kernel
theorem dX2_keepDecoded_35 : decode cX2_keepDecoded 35 = .ok (.if_icmp .le 15, 3) := by decide +kernel
theorem dX2_keepDecoded_38 : decode cX2_keepDecoded 38 = .ok (.aload_n 0, 1) := by decide +kernel
theorem dX2_keepDecoded_39 : decode cX2_keepDecoded 39 = .ok (.getfield 40, 3) := by decide +kernel
theorem dX2_keepDecoded_42 : decode cX2_keepDecoded 42 = .ok (.iload_n 1, 1) := by decide +kernel
theorem dX2_keepDecoded_43 : decode cX2_keepDecoded 43 = .ok (.aload_n 0, 1) := by decide +kernel
theorem dX2_keepDecoded_44 : decode cX2_keepDecoded 44 = .ok (.getfield 44, 3) := by decide +kernel
theorem dX2_keepDecoded_47 : decode cX2_keepDecoded 47 = .ok (.invokevirtual 133, 3) := by decide +kernel
theorem dX2_keepDecoded_50 : decode cX2_keepDecoded 50 = .ok (.aload_n 0, 1) := by decide +kernel
theorem dX2_keepDecoded_51 : decode cX2_keepDecoded 51 = .ok (.iconst 0, 1) := by decide +kernel
theorem dX2_keepDecoded_52 : decode cX2_keepDecoded 52 = .ok (.putfield 24, 3) := by decide +kernel
theorem dX2_keepDecoded_55 : decode cX2_keepDecoded 55 = .ok (.aload_n 0, 1) := by decide +kernel
theorem dX2_keepDecoded_56 : decode cX2_keepDecoded 56 = .ok (.invokevirtual 137, 3) := by decide +kernel
theorem dX2_keepDecoded_59 : decode cX2_keepDecoded 59 = .ok (.aload_n 0, 1) := by decide +kernel
theorem dX2_keepDecoded_60 : decode cX2_keepDecoded 60 = .ok (.getfield 15, 3) := by decide +kernel
theorem dX2_keepDecoded_63 : decode cX2_keepDecoded 63 = .ok (.irem, 1) := by decide +kernel
theorem dX2_keepDecoded_64 : decode cX2_keepDecoded 64 = .ok (.ifCond .ne 8, 3) := by decide +kernel
theorem dX2_keepDecoded_67 : decode cX2_keepDecoded 67 = .ok (.aload_n 2, 1) := by decide +kernel
theorem dX2_keepDecoded_68 : decode cX2_keepDecoded 68 = .ok (.iload_n 1, 1) := by decide +kernel
theorem dX2_keepDecoded_69 : decode cX2_keepDecoded 69 = .ok (.invokevirtual 141, 3) := by decide +kernel
theorem dX2_keepDecoded_72 : decode cX2_keepDecoded 72 = .ok (.return_, 1) := by decide +kernel
theorem dX2_missReference_0 : decode cX2_missReference 0 = .ok (.aload_n 0, 1) := by decide +kernel
theorem dX2_missReference_1 : decode cX2_missReference 1 = .ok (.dup, 1) := by decide +kernel
theorem dX2_missReference_2 : decode cX2_missReference 2 = .ok (.getfield 24, 3) := by decide +kernel
theorem dX2_missReference_5 : decode cX2_missReference 5 = .ok (.iconst 1, 1) := by decide +kernel
theorem dX2_missReference_6 : decode cX2_missReference 6 = .ok (.iadd, 1) := by decide +kernel
theorem dX2_missReference_7 : decode cX2_missReference 7 = .ok (.putfield 24, 3) := by decide +kernel
theorem dX2_missReference_10 : decode cX2_missReference 10 = .ok (.aload_n 0, 1) := by decide +kernel
theorem dX2_missReference_11 : decode cX2_missReference 11 = .ok (.getfield 24, 3) := by decide +kernel
theorem dX2_missReference_14 : decode cX2_missReference 14 = .ok (.aload_n 0, 1) := by decide +kernel
theorem dX2_missReference_15 : decode cX2_missReference 15 = .ok (.getfield 18, 3) := by decide +kernel
theorem dX2_missReference_18 : decode cX2_missReference 18 = .ok (.if_icmp .lt 23, 3) := by decide +kernel
theorem dX2_missReference_21 : decode cX2_missReference 21 = .ok (.aload_n 0, 1) := by decide +kernel
theorem dX2_missReference_22 : decode cX2_missReference 22 = .ok (.iconst 0, 1) := by decide +kernel
theorem dX2_missReference_23 : decode cX2_missReference 23 = .ok (.putfield 24, 3) := by decide +kernel
theorem dX2_missReference_26 : decode cX2_missReference 26 = .ok (.aload_n 0, 1) := by decide +kernel
theorem dX2_missReference_27 : decode cX2_missReference 27 = .ok (.dup, 1) := by decide +kernel
theorem dX2_missReference_28 : decode cX2_missReference 28 = .ok (.getfield 27, 3) := by decide +kernel
theorem dX2_missReference_31 : decode cX2_missReference 31 = .ok (.iconst 1, 1) := by decide +kernel
theorem dX2_missReference_32 : decode cX2_missReference 32 = .ok (.iadd, 1) := by decide +kernel
theorem dX2_missReference_33 : decode cX2_missReference 33 = .ok (.putfield 27, 3) := by decide +kernel
theorem dX2_missReference_36 : decode cX2_missReference 36 = .ok (.aload_n 1, 1) := by decide +kernel
theorem dX2_missReference_37 : decode cX2_missReference 37 = .ok (.iconst (-1), 1) := by decide +kernel
theorem dX2_missReference_38 : decode cX2_missReference 38 = .ok (.invokevirtual 141, 3) := by decide +kernel
theorem dX2_missReference_41 : decode cX2_missReference 41 = .ok (.return_, 1) := by decide +kernel
theorem dX3_wrapped_0 : decode cX3_wrapped 0 = .ok (.iload_n 0, 1) := by decide +kernel
theorem dX3_wrapped_1 : decode cX3_wrapped 1 = .ok (.ldc 9, 2) := by decide +kernel
theorem dX3_wrapped_3 : decode cX3_wrapped 3 = .ok (.iand, 1) := by decide +kernel
theorem dX3_wrapped_4 : decode cX3_wrapped 4 = .ok (.ireturn, 1) := by decide +kernel
theorem dX3_difference_0 : decode cX3_difference 0 = .ok (.iload_n 0, 1) := by decide +kernel
theorem dX3_difference_1 : decode cX3_difference 1 = .ok (.iload_n 1, 1) := by decide +kernel
theorem dX3_difference_2 : decode cX3_difference 2 = .ok (.isub, 1) := by decide +kernel
theorem dX3_difference_3 : decode cX3_difference 3 = .ok (.i2s, 1) := by decide +kernel
theorem dX3_difference_4 : decode cX3_difference 4 = .ok (.ireturn, 1) := by decide +kernel
theorem dX3_copyRow_0 : decode cX3_copyRow 0 = .ok (.aload_n 0, 1) := by decide +kernel
theorem dX3_copyRow_1 : decode cX3_copyRow 1 = .ok (.iconst 0, 1) := by decide +kernel
theorem dX3_copyRow_2 : decode cX3_copyRow 2 = .ok (.aload_n 1, 1) := by decide +kernel
theorem dX3_copyRow_3 : decode cX3_copyRow 3 = .ok (.iconst 0, 1) := by decide +kernel
theorem dX3_copyRow_4 : decode cX3_copyRow 4 = .ok (.bipush 6, 2) := by decide +kernel
theorem dX3_copyRow_6 : decode cX3_copyRow 6 = .ok (.invokestatic 10, 3) := by decide +kernel
theorem dX3_copyRow_9 : decode cX3_copyRow 9 = .ok (.return_, 1) := by decide +kernel
theorem dX3_putBase_0 : decode cX3_putBase 0 = .ok (.aload_n 1, 1) := by decide +kernel
theorem dX3_putBase_1 : decode cX3_putBase 1 = .ok (.iconst 0, 1) := by decide +kernel
theorem dX3_putBase_2 : decode cX3_putBase 2 = .ok (.aload_n 0, 1) := by decide +kernel
theorem dX3_putBase_3 : decode cX3_putBase 3 = .ok (.iconst 0, 1) := by decide +kernel
theorem dX3_putBase_4 : decode cX3_putBase 4 = .ok (.bipush 6, 2) := by decide +kernel
theorem dX3_putBase_6 : decode cX3_putBase 6 = .ok (.invokestatic 10, 3) := by decide +kernel
theorem dX3_putBase_9 : decode cX3_putBase 9 = .ok (.iload_n 2, 1) := by decide +kernel
theorem dX3_putBase_10 : decode cX3_putBase 10 = .ok (.iconst 2, 1) := by decide +kernel
theorem dX3_putBase_11 : decode cX3_putBase 11 = .ok (.if_icmp .ne 33, 3) := by decide +kernel
theorem dX3_putBase_14 : decode cX3_putBase 14 = .ok (.aload_n 0, 1) := by decide +kernel
theorem dX3_putBase_15 : decode cX3_putBase 15 = .ok (.iconst 1, 1) := by decide +kernel
theorem dX3_putBase_16 : decode cX3_putBase 16 = .ok (.aload_n 0, 1) := by decide +kernel
theorem dX3_putBase_17 : decode cX3_putBase 17 = .ok (.iconst 1, 1) := by decide +kernel
theorem dX3_putBase_18 : decode cX3_putBase 18 = .ok (.iaload, 1) := by decide +kernel
theorem dX3_putBase_19 : decode cX3_putBase 19 = .ok (.iload_n 3, 1) := by decide +kernel
theorem dX3_putBase_20 : decode cX3_putBase 20 = .ok (.aload_n 1, 1) := by decide +kernel
theorem dX3_putBase_21 : decode cX3_putBase 21 = .ok (.iconst 4, 1) := by decide +kernel
theorem dX3_putBase_22 : decode cX3_putBase 22 = .ok (.iaload, 1) := by decide +kernel
theorem dX3_putBase_23 : decode cX3_putBase 23 = .ok (.imul, 1) := by decide +kernel
theorem dX3_putBase_24 : decode cX3_putBase 24 = .ok (.iadd, 1) := by decide +kernel
theorem dX3_putBase_25 : decode cX3_putBase 25 = .ok (.invokestatic 16, 3) := by decide +kernel
theorem dX3_putBase_28 : decode cX3_putBase 28 = .ok (.iastore, 1) := by decide +kernel
theorem dX3_putBase_29 : decode cX3_putBase 29 = .ok (.aload_n 0, 1) := by decide +kernel
theorem dX3_putBase_30 : decode cX3_putBase 30 = .ok (.iconst 2, 1) := by decide +kernel
theorem dX3_putBase_31 : decode cX3_putBase 31 = .ok (.aload_n 0, 1) := by decide +kernel
theorem dX3_putBase_32 : decode cX3_putBase 32 = .ok (.iconst 2, 1) := by decide +kernel
theorem dX3_putBase_33 : decode cX3_putBase 33 = .ok (.iaload, 1) := by decide +kernel
theorem dX3_putBase_34 : decode cX3_putBase 34 = .ok (.iload_n 3, 1) := by decide +kernel
theorem dX3_putBase_35 : decode cX3_putBase 35 = .ok (.aload_n 1, 1) := by decide +kernel
theorem dX3_putBase_36 : decode cX3_putBase 36 = .ok (.iconst 5, 1) := by decide +kernel
theorem dX3_putBase_37 : decode cX3_putBase 37 = .ok (.iaload, 1) := by decide +kernel
theorem dX3_putBase_38 : decode cX3_putBase 38 = .ok (.imul, 1) := by decide +kernel
theorem dX3_putBase_39 : decode cX3_putBase 39 = .ok (.iadd, 1) := by decide +kernel
theorem dX3_putBase_40 : decode cX3_putBase 40 = .ok (.invokestatic 16, 3) := by decide +kernel
theorem dX3_putBase_43 : decode cX3_putBase 43 = .ok (.iastore, 1) := by decide +kernel
theorem dX3_putBase_44 : decode cX3_putBase 44 = .ok (.return_, 1) := by decide +kernel
theorem dX3_putCarried_0 : decode cX3_putCarried 0 = .ok (.aload_n 0, 1) := by decide +kernel
theorem dX3_putCarried_1 : decode cX3_putCarried 1 = .ok (.iconst 0, 1) := by decide +kernel
theorem dX3_putCarried_2 : decode cX3_putCarried 2 = .ok (.aload_n 1, 1) := by decide +kernel
theorem dX3_putCarried_3 : decode cX3_putCarried 3 = .ok (.iconst 0, 1) := by decide +kernel
theorem dX3_putCarried_4 : decode cX3_putCarried 4 = .ok (.iaload, 1) := by decide +kernel
theorem dX3_putCarried_5 : decode cX3_putCarried 5 = .ok (.aload_n 2, 1) := by decide +kernel
theorem dX3_putCarried_6 : decode cX3_putCarried 6 = .ok (.iconst 0, 1) := by decide +kernel
theorem dX3_putCarried_7 : decode cX3_putCarried 7 = .ok (.iaload, 1) := by decide +kernel
theorem dX3_putCarried_8 : decode cX3_putCarried 8 = .ok (.if_icmp .ne 7, 3) := by decide +kernel
theorem dX3_putCarried_11 : decode cX3_putCarried 11 = .ok (.iconst (-1), 1) := by decide +kernel
theorem dX3_putCarried_12 : decode cX3_putCarried 12 = .ok (.goto 6, 3) := by decide +kernel
theorem dX3_putCarried_15 : decode cX3_putCarried 15 = .ok (.aload_n 1, 1) := by decide +kernel
theorem dX3_putCarried_16 : decode cX3_putCarried 16 = .ok (.iconst 0, 1) := by decide +kernel
theorem dX3_putCarried_17 : decode cX3_putCarried 17 = .ok (.iaload, 1) := by decide +kernel
theorem dX3_putCarried_18 : decode cX3_putCarried 18 = .ok (.iastore, 1) := by decide +kernel
theorem dX3_putCarried_19 : decode cX3_putCarried 19 = .ok (.aload_n 0, 1) := by decide +kernel
theorem dX3_putCarried_20 : decode cX3_putCarried 20 = .ok (.iconst 1, 1) := by decide +kernel
theorem dX3_putCarried_21 : decode cX3_putCarried 21 = .ok (.aload_n 1, 1) := by decide +kernel
theorem dX3_putCarried_22 : decode cX3_putCarried 22 = .ok (.iconst 1, 1) := by decide +kernel
theorem dX3_putCarried_23 : decode cX3_putCarried 23 = .ok (.iaload, 1) := by decide +kernel
theorem dX3_putCarried_24 : decode cX3_putCarried 24 = .ok (.aload_n 2, 1) := by decide +kernel
theorem dX3_putCarried_25 : decode cX3_putCarried 25 = .ok (.iconst 1, 1) := by decide +kernel
theorem dX3_putCarried_26 : decode cX3_putCarried 26 = .ok (.iaload, 1) := by decide +kernel
theorem dX3_putCarried_27 : decode cX3_putCarried 27 = .ok (.invokestatic 22, 3) := by decide +kernel
theorem dX3_putCarried_30 : decode cX3_putCarried 30 = .ok (.iastore, 1) := by decide +kernel
theorem dX3_putCarried_31 : decode cX3_putCarried 31 = .ok (.aload_n 0, 1) := by decide +kernel
theorem dX3_putCarried_32 : decode cX3_putCarried 32 = .ok (.iconst 2, 1) := by decide +kernel
theorem dX3_putCarried_33 : decode cX3_putCarried 33 = .ok (.aload_n 1, 1) := by decide +kernel
theorem dX3_putCarried_34 : decode cX3_putCarried 34 = .ok (.iconst 2, 1) := by decide +kernel
theorem dX3_putCarried_35 : decode cX3_putCarried 35 = .ok (.iaload, 1) := by decide +kernel
theorem dX3_putCarried_36 : decode cX3_putCarried 36 = .ok (.aload_n 2, 1) := by decide +kernel
theorem dX3_putCarried_37 : decode cX3_putCarried 37 = .ok (.iconst 2, 1) := by decide +kernel
theorem dX3_putCarried_38 : decode cX3_putCarried 38 = .ok (.iaload, 1) := by decide +kernel
theorem dX3_putCarried_39 : decode cX3_putCarried 39 = .ok (.invokestatic 22, 3) := by decide +kernel
theorem dX3_putCarried_42 : decode cX3_putCarried 42 = .ok (.iastore, 1) := by decide +kernel
theorem dX3_putCarried_43 : decode cX3_putCarried 43 = .ok (.aload_n 0, 1) := by decide +kernel
theorem dX3_putCarried_44 : decode cX3_putCarried 44 = .ok (.iconst 3, 1) := by decide +kernel
theorem dX3_putCarried_45 : decode cX3_putCarried 45 = .ok (.aload_n 1, 1) := by decide +kernel
theorem dX3_putCarried_46 : decode cX3_putCarried 46 = .ok (.iconst 3, 1) := by decide +kernel
theorem dX3_putCarried_47 : decode cX3_putCarried 47 = .ok (.iaload, 1) := by decide +kernel
theorem dX3_putCarried_48 : decode cX3_putCarried 48 = .ok (.aload_n 2, 1) := by decide +kernel
theorem dX3_putCarried_49 : decode cX3_putCarried 49 = .ok (.iconst 3, 1) := by decide +kernel
theorem dX3_putCarried_50 : decode cX3_putCarried 50 = .ok (.iaload, 1) := by decide +kernel
theorem dX3_putCarried_51 : decode cX3_putCarried 51 = .ok (.if_icmp .ne 7, 3) := by decide +kernel
theorem dX3_putCarried_54 : decode cX3_putCarried 54 = .ok (.iconst (-1), 1) := by decide +kernel
theorem dX3_putCarried_55 : decode cX3_putCarried 55 = .ok (.goto 6, 3) := by decide +kernel
theorem dX3_putCarried_58 : decode cX3_putCarried 58 = .ok (.aload_n 1, 1) := by decide +kernel
theorem dX3_putCarried_59 : decode cX3_putCarried 59 = .ok (.iconst 3, 1) := by decide +kernel
theorem dX3_putCarried_60 : decode cX3_putCarried 60 = .ok (.iaload, 1) := by decide +kernel
theorem dX3_putCarried_61 : decode cX3_putCarried 61 = .ok (.iastore, 1) := by decide +kernel
theorem dX3_putCarried_62 : decode cX3_putCarried 62 = .ok (.return_, 1) := by decide +kernel
theorem dX3_addCarried_0 : decode cX3_addCarried 0 = .ok (.aload_n 1, 1) := by decide +kernel
theorem dX3_addCarried_1 : decode cX3_addCarried 1 = .ok (.iconst 0, 1) := by decide +kernel
theorem dX3_addCarried_2 : decode cX3_addCarried 2 = .ok (.iaload, 1) := by decide +kernel
theorem dX3_addCarried_3 : decode cX3_addCarried 3 = .ok (.iconst (-1), 1) := by decide +kernel
theorem dX3_addCarried_4 : decode cX3_addCarried 4 = .ok (.if_icmp .eq 9, 3) := by decide +kernel
theorem dX3_addCarried_7 : decode cX3_addCarried 7 = .ok (.aload_n 0, 1) := by decide +kernel
theorem dX3_addCarried_8 : decode cX3_addCarried 8 = .ok (.iconst 0, 1) := by decide +kernel
theorem dX3_addCarried_9 : decode cX3_addCarried 9 = .ok (.aload_n 1, 1) := by decide +kernel
theorem dX3_addCarried_10 : decode cX3_addCarried 10 = .ok (.iconst 0, 1) := by decide +kernel
theorem dX3_addCarried_11 : decode cX3_addCarried 11 = .ok (.iaload, 1) := by decide +kernel
theorem dX3_addCarried_12 : decode cX3_addCarried 12 = .ok (.iastore, 1) := by decide +kernel
theorem dX3_addCarried_13 : decode cX3_addCarried 13 = .ok (.aload_n 0, 1) := by decide +kernel
theorem dX3_addCarried_14 : decode cX3_addCarried 14 = .ok (.iconst 1, 1) := by decide +kernel
theorem dX3_addCarried_15 : decode cX3_addCarried 15 = .ok (.aload_n 0, 1) := by decide +kernel
theorem dX3_addCarried_16 : decode cX3_addCarried 16 = .ok (.iconst 1, 1) := by decide +kernel
theorem dX3_addCarried_17 : decode cX3_addCarried 17 = .ok (.iaload, 1) := by decide +kernel
theorem dX3_addCarried_18 : decode cX3_addCarried 18 = .ok (.aload_n 1, 1) := by decide +kernel
theorem dX3_addCarried_19 : decode cX3_addCarried 19 = .ok (.iconst 1, 1) := by decide +kernel
theorem dX3_addCarried_20 : decode cX3_addCarried 20 = .ok (.iaload, 1) := by decide +kernel
theorem dX3_addCarried_21 : decode cX3_addCarried 21 = .ok (.iadd, 1) := by decide +kernel
theorem dX3_addCarried_22 : decode cX3_addCarried 22 = .ok (.invokestatic 16, 3) := by decide +kernel
theorem dX3_addCarried_25 : decode cX3_addCarried 25 = .ok (.iastore, 1) := by decide +kernel
theorem dX3_addCarried_26 : decode cX3_addCarried 26 = .ok (.aload_n 0, 1) := by decide +kernel
theorem dX3_addCarried_27 : decode cX3_addCarried 27 = .ok (.iconst 2, 1) := by decide +kernel
theorem dX3_addCarried_28 : decode cX3_addCarried 28 = .ok (.aload_n 0, 1) := by decide +kernel
theorem dX3_addCarried_29 : decode cX3_addCarried 29 = .ok (.iconst 2, 1) := by decide +kernel
theorem dX3_addCarried_30 : decode cX3_addCarried 30 = .ok (.iaload, 1) := by decide +kernel
theorem dX3_addCarried_31 : decode cX3_addCarried 31 = .ok (.aload_n 1, 1) := by decide +kernel
theorem dX3_addCarried_32 : decode cX3_addCarried 32 = .ok (.iconst 2, 1) := by decide +kernel
theorem dX3_addCarried_33 : decode cX3_addCarried 33 = .ok (.iaload, 1) := by decide +kernel
theorem dX3_addCarried_34 : decode cX3_addCarried 34 = .ok (.iadd, 1) := by decide +kernel
theorem dX3_addCarried_35 : decode cX3_addCarried 35 = .ok (.invokestatic 16, 3) := by decide +kernel
theorem dX3_addCarried_38 : decode cX3_addCarried 38 = .ok (.iastore, 1) := by decide +kernel
theorem dX3_addCarried_39 : decode cX3_addCarried 39 = .ok (.aload_n 1, 1) := by decide +kernel
theorem dX3_addCarried_40 : decode cX3_addCarried 40 = .ok (.iconst 3, 1) := by decide +kernel
theorem dX3_addCarried_41 : decode cX3_addCarried 41 = .ok (.iaload, 1) := by decide +kernel
theorem dX3_addCarried_42 : decode cX3_addCarried 42 = .ok (.iconst (-1), 1) := by decide +kernel
theorem dX3_addCarried_43 : decode cX3_addCarried 43 = .ok (.if_icmp .eq 9, 3) := by decide +kernel
theorem dX3_addCarried_46 : decode cX3_addCarried 46 = .ok (.aload_n 0, 1) := by decide +kernel
theorem dX3_addCarried_47 : decode cX3_addCarried 47 = .ok (.iconst 3, 1) := by decide +kernel
theorem dX3_addCarried_48 : decode cX3_addCarried 48 = .ok (.aload_n 1, 1) := by decide +kernel
theorem dX3_addCarried_49 : decode cX3_addCarried 49 = .ok (.iconst 3, 1) := by decide +kernel
theorem dX3_addCarried_50 : decode cX3_addCarried 50 = .ok (.iaload, 1) := by decide +kernel
theorem dX3_addCarried_51 : decode cX3_addCarried 51 = .ok (.iastore, 1) := by decide +kernel
theorem dX3_addCarried_52 : decode cX3_addCarried 52 = .ok (.return_, 1) := by decide +kernel
theorem dX3_sameHeader_0 : decode cX3_sameHeader 0 = .ok (.iconst 0, 1) := by decide +kernel
theorem dX3_sameHeader_1 : decode cX3_sameHeader 1 = .ok (.istore_n 2, 1) := by decide +kernel
theorem dX3_sameHeader_2 : decode cX3_sameHeader 2 = .ok (.iload_n 2, 1) := by decide +kernel
theorem dX3_sameHeader_3 : decode cX3_sameHeader 3 = .ok (.iconst 4, 1) := by decide +kernel
theorem dX3_sameHeader_4 : decode cX3_sameHeader 4 = .ok (.if_icmp .ge 20, 3) := by decide +kernel
theorem dX3_sameHeader_7 : decode cX3_sameHeader 7 = .ok (.aload_n 0, 1) := by decide +kernel
theorem dX3_sameHeader_8 : decode cX3_sameHeader 8 = .ok (.iload_n 2, 1) := by decide +kernel
theorem dX3_sameHeader_9 : decode cX3_sameHeader 9 = .ok (.iaload, 1) := by decide +kernel
theorem dX3_sameHeader_10 : decode cX3_sameHeader 10 = .ok (.aload_n 1, 1) := by decide +kernel
theorem dX3_sameHeader_11 : decode cX3_sameHeader 11 = .ok (.iload_n 2, 1) := by decide +kernel
theorem dX3_sameHeader_12 : decode cX3_sameHeader 12 = .ok (.iaload, 1) := by decide +kernel
theorem dX3_sameHeader_13 : decode cX3_sameHeader 13 = .ok (.if_icmp .eq 5, 3) := by decide +kernel
theorem dX3_sameHeader_16 : decode cX3_sameHeader 16 = .ok (.iconst 0, 1) := by decide +kernel
theorem dX3_sameHeader_17 : decode cX3_sameHeader 17 = .ok (.ireturn, 1) := by decide +kernel
theorem dX3_sameHeader_18 : decode cX3_sameHeader 18 = .ok (.iinc 2 1, 3) := by decide +kernel
theorem dX3_sameHeader_21 : decode cX3_sameHeader 21 = .ok (.goto (-19), 3) := by decide +kernel
theorem dX3_sameHeader_24 : decode cX3_sameHeader 24 = .ok (.iconst 1, 1) := by decide +kernel
theorem dX3_sameHeader_25 : decode cX3_sameHeader 25 = .ok (.ireturn, 1) := by decide +kernel
theorem dX3_sizeOf_0 : decode cX3_sizeOf 0 = .ok (.iconst 3, 1) := by decide +kernel
theorem dX3_sizeOf_1 : decode cX3_sizeOf 1 = .ok (.aload_n 0, 1) := by decide +kernel
theorem dX3_sizeOf_2 : decode cX3_sizeOf 2 = .ok (.iconst 1, 1) := by decide +kernel
theorem dX3_sizeOf_3 : decode cX3_sizeOf 3 = .ok (.iaload, 1) := by decide +kernel
theorem dX3_sizeOf_4 : decode cX3_sizeOf 4 = .ok (.invokestatic 26, 3) := by decide +kernel
theorem dX3_sizeOf_7 : decode cX3_sizeOf 7 = .ok (.iadd, 1) := by decide +kernel
theorem dX3_sizeOf_8 : decode cX3_sizeOf 8 = .ok (.aload_n 0, 1) := by decide +kernel
theorem dX3_sizeOf_9 : decode cX3_sizeOf 9 = .ok (.iconst 2, 1) := by decide +kernel
theorem dX3_sizeOf_10 : decode cX3_sizeOf 10 = .ok (.iaload, 1) := by decide +kernel
theorem dX3_sizeOf_11 : decode cX3_sizeOf 11 = .ok (.invokestatic 26, 3) := by decide +kernel
theorem dX3_sizeOf_14 : decode cX3_sizeOf 14 = .ok (.iadd, 1) := by decide +kernel
theorem dX3_sizeOf_15 : decode cX3_sizeOf 15 = .ok (.istore_n 1, 1) := by decide +kernel
theorem dX3_sizeOf_16 : decode cX3_sizeOf 16 = .ok (.aload_n 0, 1) := by decide +kernel
theorem dX3_sizeOf_17 : decode cX3_sizeOf 17 = .ok (.iconst 0, 1) := by decide +kernel
theorem dX3_sizeOf_18 : decode cX3_sizeOf 18 = .ok (.iaload, 1) := by decide +kernel
theorem dX3_sizeOf_19 : decode cX3_sizeOf 19 = .ok (.iconst (-1), 1) := by decide +kernel
theorem dX3_sizeOf_20 : decode cX3_sizeOf 20 = .ok (.if_icmp .eq 6, 3) := by decide +kernel
theorem dX3_sizeOf_23 : decode cX3_sizeOf 23 = .ok (.iinc 1 1, 3) := by decide +kernel
theorem dX3_sizeOf_26 : decode cX3_sizeOf 26 = .ok (.aload_n 0, 1) := by decide +kernel
theorem dX3_sizeOf_27 : decode cX3_sizeOf 27 = .ok (.iconst 3, 1) := by decide +kernel
theorem dX3_sizeOf_28 : decode cX3_sizeOf 28 = .ok (.iaload, 1) := by decide +kernel
theorem dX3_sizeOf_29 : decode cX3_sizeOf 29 = .ok (.iconst (-1), 1) := by decide +kernel
theorem dX3_sizeOf_30 : decode cX3_sizeOf 30 = .ok (.if_icmp .eq 6, 3) := by decide +kernel
theorem dX3_sizeOf_33 : decode cX3_sizeOf 33 = .ok (.iinc 1 1, 3) := by decide +kernel
theorem dX3_sizeOf_36 : decode cX3_sizeOf 36 = .ok (.iload_n 1, 1) := by decide +kernel
theorem dX3_sizeOf_37 : decode cX3_sizeOf 37 = .ok (.ireturn, 1) := by decide +kernel
theorem dX3_bytesOf_0 : decode cX3_bytesOf 0 = .ok (.iload_n 0, 1) := by decide +kernel
theorem dX3_bytesOf_1 : decode cX3_bytesOf 1 = .ok (.ifCond .ne 5, 3) := by decide +kernel
theorem dX3_bytesOf_4 : decode cX3_bytesOf 4 = .ok (.iconst 0, 1) := by decide +kernel
theorem dX3_bytesOf_5 : decode cX3_bytesOf 5 = .ok (.ireturn, 1) := by decide +kernel
theorem dX3_bytesOf_6 : decode cX3_bytesOf 6 = .ok (.iload_n 0, 1) := by decide +kernel
theorem dX3_bytesOf_7 : decode cX3_bytesOf 7 = .ok (.bipush (-128), 2) := by decide +kernel
theorem dX3_bytesOf_9 : decode cX3_bytesOf 9 = .ok (.bipush 127, 2) := by decide +kernel
theorem dX3_bytesOf_11 : decode cX3_bytesOf 11 = .ok (.invokestatic 29, 3) := by decide +kernel
theorem dX3_bytesOf_14 : decode cX3_bytesOf 14 = .ok (.ifCond .eq 7, 3) := by decide +kernel
theorem dX3_bytesOf_17 : decode cX3_bytesOf 17 = .ok (.iconst 1, 1) := by decide +kernel
theorem dX3_bytesOf_18 : decode cX3_bytesOf 18 = .ok (.goto 4, 3) := by decide +kernel
theorem dX3_bytesOf_21 : decode cX3_bytesOf 21 = .ok (.iconst 2, 1) := by decide +kernel
theorem dX3_bytesOf_22 : decode cX3_bytesOf 22 = .ok (.ireturn, 1) := by decide +kernel
theorem dX4_init_0 : decode cX4_init 0 = .ok (.aload_n 0, 1) := by decide +kernel
theorem dX4_init_1 : decode cX4_init 1 = .ok (.invokespecial 3, 3) := by decide +kernel
theorem dX4_init_4 : decode cX4_init 4 = .ok (.aload_n 0, 1) := by decide +kernel
theorem dX4_init_5 : decode cX4_init 5 = .ok (.bipush 100, 2) := by decide +kernel
theorem dX4_init_7 : decode cX4_init 7 = .ok (.newarray .int, 2) := by decide +kernel
theorem dX4_init_9 : decode cX4_init 9 = .ok (.putfield 9, 3) := by decide +kernel
theorem dX4_init_12 : decode cX4_init 12 = .ok (.aload_n 0, 1) := by decide +kernel
theorem dX4_init_13 : decode cX4_init 13 = .ok (.iconst 0, 1) := by decide +kernel
theorem dX4_init_14 : decode cX4_init 14 = .ok (.putfield 15, 3) := by decide +kernel
theorem dX4_init_17 : decode cX4_init 17 = .ok (.aload_n 0, 1) := by decide +kernel
theorem dX4_init_18 : decode cX4_init 18 = .ok (.bipush 50, 2) := by decide +kernel
theorem dX4_init_20 : decode cX4_init 20 = .ok (.newarray .int, 2) := by decide +kernel
theorem dX4_init_22 : decode cX4_init 22 = .ok (.putfield 19, 3) := by decide +kernel
theorem dX4_init_25 : decode cX4_init 25 = .ok (.aload_n 0, 1) := by decide +kernel
theorem dX4_init_26 : decode cX4_init 26 = .ok (.bipush 50, 2) := by decide +kernel
theorem dX4_init_28 : decode cX4_init 28 = .ok (.newarray .int, 2) := by decide +kernel
theorem dX4_init_30 : decode cX4_init 30 = .ok (.putfield 22, 3) := by decide +kernel
theorem dX4_init_33 : decode cX4_init 33 = .ok (.aload_n 0, 1) := by decide +kernel
theorem dX4_init_34 : decode cX4_init 34 = .ok (.iconst 0, 1) := by decide +kernel
theorem dX4_init_35 : decode cX4_init 35 = .ok (.putfield 25, 3) := by decide +kernel
theorem dX4_init_38 : decode cX4_init 38 = .ok (.return_, 1) := by decide +kernel
theorem dX5_init_0 : decode cX5_init 0 = .ok (.aload_n 0, 1) := by decide +kernel
theorem dX5_init_1 : decode cX5_init 1 = .ok (.invokespecial 3, 3) := by decide +kernel
theorem dX5_init_4 : decode cX5_init 4 = .ok (.aload_n 0, 1) := by decide +kernel
theorem dX5_init_5 : decode cX5_init 5 = .ok (.bipush 6, 2) := by decide +kernel
theorem dX5_init_7 : decode cX5_init 7 = .ok (.newarray .int, 2) := by decide +kernel
theorem dX5_init_9 : decode cX5_init 9 = .ok (.putfield 9, 3) := by decide +kernel
theorem dX5_init_12 : decode cX5_init 12 = .ok (.aload_n 0, 1) := by decide +kernel
theorem dX5_init_13 : decode cX5_init 13 = .ok (.iconst 0, 1) := by decide +kernel
theorem dX5_init_14 : decode cX5_init 14 = .ok (.putfield 15, 3) := by decide +kernel
theorem dX5_init_17 : decode cX5_init 17 = .ok (.aload_n 0, 1) := by decide +kernel
theorem dX5_init_18 : decode cX5_init 18 = .ok (.iconst 0, 1) := by decide +kernel
theorem dX5_init_19 : decode cX5_init 19 = .ok (.putfield 19, 3) := by decide +kernel
theorem dX5_init_22 : decode cX5_init 22 = .ok (.aload_n 0, 1) := by decide +kernel
theorem dX5_init_23 : decode cX5_init 23 = .ok (.iconst 0, 1) := by decide +kernel
theorem dX5_init_24 : decode cX5_init 24 = .ok (.putfield 22, 3) := by decide +kernel
theorem dX5_init_27 : decode cX5_init 27 = .ok (.aload_n 0, 1) := by decide +kernel
theorem dX5_init_28 : decode cX5_init 28 = .ok (.iconst 0, 1) := by decide +kernel
theorem dX5_init_29 : decode cX5_init 29 = .ok (.putfield 26, 3) := by decide +kernel
theorem dX5_init_32 : decode cX5_init 32 = .ok (.aload_n 0, 1) := by decide +kernel
theorem dX5_init_33 : decode cX5_init 33 = .ok (.iconst 0, 1) := by decide +kernel
theorem dX5_init_34 : decode cX5_init 34 = .ok (.putfield 29, 3) := by decide +kernel
theorem dX5_init_37 : decode cX5_init 37 = .ok (.aload_n 0, 1) := by decide +kernel
theorem dX5_init_38 : decode cX5_init 38 = .ok (.iconst 0, 1) := by decide +kernel
theorem dX5_init_39 : decode cX5_init 39 = .ok (.putfield 32, 3) := by decide +kernel
theorem dX5_init_42 : decode cX5_init 42 = .ok (.aload_n 0, 1) := by decide +kernel
theorem dX5_init_43 : decode cX5_init 43 = .ok (.sipush 500, 3) := by decide +kernel
theorem dX5_init_46 : decode cX5_init 46 = .ok (.newarray .int, 2) := by decide +kernel
theorem dX5_init_48 : decode cX5_init 48 = .ok (.putfield 35, 3) := by decide +kernel
theorem dX5_init_51 : decode cX5_init 51 = .ok (.aload_n 0, 1) := by decide +kernel
theorem dX5_init_52 : decode cX5_init 52 = .ok (.bipush 6, 2) := by decide +kernel
theorem dX5_init_54 : decode cX5_init 54 = .ok (.newarray .int, 2) := by decide +kernel
theorem dX5_init_56 : decode cX5_init 56 = .ok (.putfield 38, 3) := by decide +kernel
theorem dX5_init_59 : decode cX5_init 59 = .ok (.aload_n 0, 1) := by decide +kernel
theorem dX5_init_60 : decode cX5_init 60 = .ok (.iconst 4, 1) := by decide +kernel
theorem dX5_init_61 : decode cX5_init 61 = .ok (.newarray .int, 2) := by decide +kernel
theorem dX5_init_63 : decode cX5_init 63 = .ok (.putfield 41, 3) := by decide +kernel
theorem dX5_init_66 : decode cX5_init 66 = .ok (.aload_n 0, 1) := by decide +kernel
theorem dX5_init_67 : decode cX5_init 67 = .ok (.aload_n 1, 1) := by decide +kernel
theorem dX5_init_68 : decode cX5_init 68 = .ok (.putfield 44, 3) := by decide +kernel
theorem dX5_init_71 : decode cX5_init 71 = .ok (.aload_n 0, 1) := by decide +kernel
theorem dX5_init_72 : decode cX5_init 72 = .ok (.getfield 9, 3) := by decide +kernel
theorem dX5_init_75 : decode cX5_init 75 = .ok (.iconst 4, 1) := by decide +kernel
theorem dX5_init_76 : decode cX5_init 76 = .ok (.iconst 1, 1) := by decide +kernel
theorem dX5_init_77 : decode cX5_init 77 = .ok (.iastore, 1) := by decide +kernel
theorem dX5_init_78 : decode cX5_init 78 = .ok (.aload_n 0, 1) := by decide +kernel
theorem dX5_init_79 : decode cX5_init 79 = .ok (.getfield 9, 3) := by decide +kernel
theorem dX5_init_82 : decode cX5_init 82 = .ok (.iconst 5, 1) := by decide +kernel
theorem dX5_init_83 : decode cX5_init 83 = .ok (.sipush 160, 3) := by decide +kernel
theorem dX5_init_86 : decode cX5_init 86 = .ok (.iastore, 1) := by decide +kernel
theorem dX5_init_87 : decode cX5_init 87 = .ok (.return_, 1) := by decide +kernel
theorem dX5_copyFrom_0 : decode cX5_copyFrom 0 = .ok (.aload_n 1, 1) := by decide +kernel
theorem dX5_copyFrom_1 : decode cX5_copyFrom 1 = .ok (.getfield 9, 3) := by decide +kernel
theorem dX5_copyFrom_4 : decode cX5_copyFrom 4 = .ok (.aload_n 0, 1) := by decide +kernel
theorem dX5_copyFrom_5 : decode cX5_copyFrom 5 = .ok (.getfield 9, 3) := by decide +kernel
theorem dX5_copyFrom_8 : decode cX5_copyFrom 8 = .ok (.invokestatic 48, 3) := by decide +kernel
theorem dX5_copyFrom_11 : decode cX5_copyFrom 11 = .ok (.aload_n 0, 1) := by decide +kernel
theorem dX5_copyFrom_12 : decode cX5_copyFrom 12 = .ok (.aload_n 1, 1) := by decide +kernel
theorem dX5_copyFrom_13 : decode cX5_copyFrom 13 = .ok (.getfield 15, 3) := by decide +kernel
theorem dX5_copyFrom_16 : decode cX5_copyFrom 16 = .ok (.putfield 15, 3) := by decide +kernel
theorem dX5_copyFrom_19 : decode cX5_copyFrom 19 = .ok (.aload_n 0, 1) := by decide +kernel
theorem dX5_copyFrom_20 : decode cX5_copyFrom 20 = .ok (.aload_n 1, 1) := by decide +kernel
theorem dX5_copyFrom_21 : decode cX5_copyFrom 21 = .ok (.getfield 19, 3) := by decide +kernel
theorem dX5_copyFrom_24 : decode cX5_copyFrom 24 = .ok (.putfield 19, 3) := by decide +kernel
theorem dX5_copyFrom_27 : decode cX5_copyFrom 27 = .ok (.aload_n 0, 1) := by decide +kernel
theorem dX5_copyFrom_28 : decode cX5_copyFrom 28 = .ok (.aload_n 1, 1) := by decide +kernel
theorem dX5_copyFrom_29 : decode cX5_copyFrom 29 = .ok (.getfield 22, 3) := by decide +kernel
theorem dX5_copyFrom_32 : decode cX5_copyFrom 32 = .ok (.putfield 22, 3) := by decide +kernel
theorem dX5_copyFrom_35 : decode cX5_copyFrom 35 = .ok (.aload_n 0, 1) := by decide +kernel
theorem dX5_copyFrom_36 : decode cX5_copyFrom 36 = .ok (.aload_n 1, 1) := by decide +kernel
theorem dX5_copyFrom_37 : decode cX5_copyFrom 37 = .ok (.getfield 26, 3) := by decide +kernel
theorem dX5_copyFrom_40 : decode cX5_copyFrom 40 = .ok (.putfield 26, 3) := by decide +kernel
theorem dX5_copyFrom_43 : decode cX5_copyFrom 43 = .ok (.aload_n 0, 1) := by decide +kernel
theorem dX5_copyFrom_44 : decode cX5_copyFrom 44 = .ok (.aload_n 1, 1) := by decide +kernel
theorem dX5_copyFrom_45 : decode cX5_copyFrom 45 = .ok (.getfield 29, 3) := by decide +kernel
theorem dX5_copyFrom_48 : decode cX5_copyFrom 48 = .ok (.putfield 29, 3) := by decide +kernel
theorem dX5_copyFrom_51 : decode cX5_copyFrom 51 = .ok (.aload_n 0, 1) := by decide +kernel
theorem dX5_copyFrom_52 : decode cX5_copyFrom 52 = .ok (.aload_n 1, 1) := by decide +kernel
theorem dX5_copyFrom_53 : decode cX5_copyFrom 53 = .ok (.getfield 32, 3) := by decide +kernel
theorem dX5_copyFrom_56 : decode cX5_copyFrom 56 = .ok (.putfield 32, 3) := by decide +kernel
theorem dX5_copyFrom_59 : decode cX5_copyFrom 59 = .ok (.aload_n 1, 1) := by decide +kernel
theorem dX5_copyFrom_60 : decode cX5_copyFrom 60 = .ok (.getfield 35, 3) := by decide +kernel
theorem dX5_copyFrom_63 : decode cX5_copyFrom 63 = .ok (.iconst 0, 1) := by decide +kernel
theorem dX5_copyFrom_64 : decode cX5_copyFrom 64 = .ok (.aload_n 0, 1) := by decide +kernel
theorem dX5_copyFrom_65 : decode cX5_copyFrom 65 = .ok (.getfield 35, 3) := by decide +kernel
theorem dX5_copyFrom_68 : decode cX5_copyFrom 68 = .ok (.iconst 0, 1) := by decide +kernel
theorem dX5_copyFrom_69 : decode cX5_copyFrom 69 = .ok (.aload_n 0, 1) := by decide +kernel
theorem dX5_copyFrom_70 : decode cX5_copyFrom 70 = .ok (.getfield 26, 3) := by decide +kernel
theorem dX5_copyFrom_73 : decode cX5_copyFrom 73 = .ok (.invokestatic 54, 3) := by decide +kernel
theorem dX5_copyFrom_76 : decode cX5_copyFrom 76 = .ok (.return_, 1) := by decide +kernel
theorem dX5_step_0 : decode cX5_step 0 = .ok (.aload_n 0, 1) := by decide +kernel
theorem dX5_step_1 : decode cX5_step 1 = .ok (.getfield 9, 3) := by decide +kernel
theorem dX5_step_4 : decode cX5_step 4 = .ok (.iconst 1, 1) := by decide +kernel
theorem dX5_step_5 : decode cX5_step 5 = .ok (.aload_n 0, 1) := by decide +kernel
theorem dX5_step_6 : decode cX5_step 6 = .ok (.getfield 9, 3) := by decide +kernel
theorem dX5_step_9 : decode cX5_step 9 = .ok (.iconst 1, 1) := by decide +kernel
theorem dX5_step_10 : decode cX5_step 10 = .ok (.iaload, 1) := by decide +kernel
theorem dX5_step_11 : decode cX5_step 11 = .ok (.aload_n 0, 1) := by decide +kernel
theorem dX5_step_12 : decode cX5_step 12 = .ok (.getfield 9, 3) := by decide +kernel
theorem dX5_step_15 : decode cX5_step 15 = .ok (.iconst 4, 1) := by decide +kernel
theorem dX5_step_16 : decode cX5_step 16 = .ok (.iaload, 1) := by decide +kernel
theorem dX5_step_17 : decode cX5_step 17 = .ok (.iadd, 1) := by decide +kernel
theorem dX5_step_18 : decode cX5_step 18 = .ok (.invokestatic 60, 3) := by decide +kernel
theorem dX5_step_21 : decode cX5_step 21 = .ok (.iastore, 1) := by decide +kernel
theorem dX5_step_22 : decode cX5_step 22 = .ok (.aload_n 0, 1) := by decide +kernel
theorem dX5_step_23 : decode cX5_step 23 = .ok (.getfield 9, 3) := by decide +kernel
theorem dX5_step_26 : decode cX5_step 26 = .ok (.iconst 2, 1) := by decide +kernel
theorem dX5_step_27 : decode cX5_step 27 = .ok (.aload_n 0, 1) := by decide +kernel
theorem dX5_step_28 : decode cX5_step 28 = .ok (.getfield 9, 3) := by decide +kernel
theorem dX5_step_31 : decode cX5_step 31 = .ok (.iconst 2, 1) := by decide +kernel
theorem dX5_step_32 : decode cX5_step 32 = .ok (.iaload, 1) := by decide +kernel
theorem dX5_step_33 : decode cX5_step 33 = .ok (.aload_n 0, 1) := by decide +kernel
theorem dX5_step_34 : decode cX5_step 34 = .ok (.getfield 9, 3) := by decide +kernel
theorem dX5_step_37 : decode cX5_step 37 = .ok (.iconst 5, 1) := by decide +kernel
theorem dX5_step_38 : decode cX5_step 38 = .ok (.iaload, 1) := by decide +kernel
theorem dX5_step_39 : decode cX5_step 39 = .ok (.iadd, 1) := by decide +kernel
theorem dX5_step_40 : decode cX5_step 40 = .ok (.invokestatic 60, 3) := by decide +kernel
theorem dX5_step_43 : decode cX5_step 43 = .ok (.iastore, 1) := by decide +kernel
theorem dX5_step_44 : decode cX5_step 44 = .ok (.return_, 1) := by decide +kernel
theorem dX5_trustedReference_0 : decode cX5_trustedReference 0 = .ok (.iconst 0, 1) := by decide +kernel
theorem dX5_trustedReference_1 : decode cX5_trustedReference 1 = .ok (.aload_n 0, 1) := by decide +kernel
theorem dX5_trustedReference_2 : decode cX5_trustedReference 2 = .ok (.getfield 26, 3) := by decide +kernel
theorem dX5_trustedReference_5 : decode cX5_trustedReference 5 = .ok (.bipush 15, 2) := by decide +kernel
theorem dX5_trustedReference_7 : decode cX5_trustedReference 7 = .ok (.isub, 1) := by decide +kernel
theorem dX5_trustedReference_8 : decode cX5_trustedReference 8 = .ok (.invokestatic 64, 3) := by decide +kernel
theorem dX5_trustedReference_11 : decode cX5_trustedReference 11 = .ok (.istore_n 2, 1) := by decide +kernel
theorem dX5_trustedReference_12 : decode cX5_trustedReference 12 = .ok (.aload_n 0, 1) := by decide +kernel
theorem dX5_trustedReference_13 : decode cX5_trustedReference 13 = .ok (.getfield 26, 3) := by decide +kernel
theorem dX5_trustedReference_16 : decode cX5_trustedReference 16 = .ok (.iconst 1, 1) := by decide +kernel
theorem dX5_trustedReference_17 : decode cX5_trustedReference 17 = .ok (.isub, 1) := by decide +kernel
theorem dX5_trustedReference_18 : decode cX5_trustedReference 18 = .ok (.istore_n 3, 1) := by decide +kernel
theorem dX5_trustedReference_19 : decode cX5_trustedReference 19 = .ok (.iload_n 3, 1) := by decide +kernel
theorem dX5_trustedReference_20 : decode cX5_trustedReference 20 = .ok (.iload_n 2, 1) := by decide +kernel
theorem dX5_trustedReference_21 : decode cX5_trustedReference 21 = .ok (.if_icmp .lt 47, 3) := by decide +kernel
theorem dX5_trustedReference_24 : decode cX5_trustedReference 24 = .ok (.iload_n 1, 1) := by decide +kernel
theorem dX5_trustedReference_25 : decode cX5_trustedReference 25 = .ok (.ifCond .le 17, 3) := by decide +kernel
theorem dX5_trustedReference_28 : decode cX5_trustedReference 28 = .ok (.aload_n 0, 1) := by decide +kernel
theorem dX5_trustedReference_29 : decode cX5_trustedReference 29 = .ok (.getfield 26, 3) := by decide +kernel
theorem dX5_trustedReference_32 : decode cX5_trustedReference 32 = .ok (.iload_n 3, 1) := by decide +kernel
theorem dX5_trustedReference_33 : decode cX5_trustedReference 33 = .ok (.isub, 1) := by decide +kernel
theorem dX5_trustedReference_34 : decode cX5_trustedReference 34 = .ok (.iload_n 1, 1) := by decide +kernel
theorem dX5_trustedReference_35 : decode cX5_trustedReference 35 = .ok (.if_icmp .lt 7, 3) := by decide +kernel
theorem dX5_trustedReference_38 : decode cX5_trustedReference 38 = .ok (.iconst 1, 1) := by decide +kernel
theorem dX5_trustedReference_39 : decode cX5_trustedReference 39 = .ok (.goto 4, 3) := by decide +kernel
theorem dX5_trustedReference_42 : decode cX5_trustedReference 42 = .ok (.iconst 0, 1) := by decide +kernel
theorem dX5_trustedReference_43 : decode cX5_trustedReference 43 = .ok (.istore 4, 2) := by decide +kernel
theorem dX5_trustedReference_45 : decode cX5_trustedReference 45 = .ok (.iload 4, 2) := by decide +kernel
theorem dX5_trustedReference_47 : decode cX5_trustedReference 47 = .ok (.ifCond .ne 13, 3) := by decide +kernel
theorem dX5_trustedReference_50 : decode cX5_trustedReference 50 = .ok (.aload_n 0, 1) := by decide +kernel
theorem dX5_trustedReference_51 : decode cX5_trustedReference 51 = .ok (.getfield 35, 3) := by decide +kernel
theorem dX5_trustedReference_54 : decode cX5_trustedReference 54 = .ok (.iload_n 3, 1) := by decide +kernel
theorem dX5_trustedReference_55 : decode cX5_trustedReference 55 = .ok (.iaload, 1) := by decide +kernel
theorem dX5_trustedReference_56 : decode cX5_trustedReference 56 = .ok (.iconst 1, 1) := by decide +kernel
theorem dX5_trustedReference_57 : decode cX5_trustedReference 57 = .ok (.if_icmp .ne 5, 3) := by decide +kernel
theorem dX5_trustedReference_60 : decode cX5_trustedReference 60 = .ok (.iload_n 3, 1) := by decide +kernel
theorem dX5_trustedReference_61 : decode cX5_trustedReference 61 = .ok (.ireturn, 1) := by decide +kernel
theorem dX5_trustedReference_62 : decode cX5_trustedReference 62 = .ok (.iinc 3 (-1), 3) := by decide +kernel
theorem dX5_trustedReference_65 : decode cX5_trustedReference 65 = .ok (.goto (-46), 3) := by decide +kernel
theorem dX5_trustedReference_68 : decode cX5_trustedReference 68 = .ok (.iconst (-1), 1) := by decide +kernel
theorem dX5_trustedReference_69 : decode cX5_trustedReference 69 = .ok (.ireturn, 1) := by decide +kernel
theorem dX5_usedReference_0 : decode cX5_usedReference 0 = .ok (.iload_n 1, 1) := by decide +kernel
theorem dX5_usedReference_1 : decode cX5_usedReference 1 = .ok (.ifCond .eq 10, 3) := by decide +kernel
theorem dX5_usedReference_4 : decode cX5_usedReference 4 = .ok (.aload_n 0, 1) := by decide +kernel
theorem dX5_usedReference_5 : decode cX5_usedReference 5 = .ok (.getfield 22, 3) := by decide +kernel
theorem dX5_usedReference_8 : decode cX5_usedReference 8 = .ok (.ifCond .eq 5, 3) := by decide +kernel
theorem dX5_usedReference_11 : decode cX5_usedReference 11 = .ok (.iconst (-1), 1) := by decide +kernel
theorem dX5_usedReference_12 : decode cX5_usedReference 12 = .ok (.ireturn, 1) := by decide +kernel
theorem dX5_usedReference_13 : decode cX5_usedReference 13 = .ok (.aload_n 0, 1) := by decide +kernel
theorem dX5_usedReference_14 : decode cX5_usedReference 14 = .ok (.iload_n 2, 1) := by decide +kernel
theorem dX5_usedReference_15 : decode cX5_usedReference 15 = .ok (.invokevirtual 70, 3) := by decide +kernel
theorem dX5_usedReference_18 : decode cX5_usedReference 18 = .ok (.ireturn, 1) := by decide +kernel
theorem dX5_sizeFrom_0 : decode cX5_sizeFrom 0 = .ok (.iload_n 1, 1) := by decide +kernel
theorem dX5_sizeFrom_1 : decode cX5_sizeFrom 1 = .ok (.iconst (-1), 1) := by decide +kernel
theorem dX5_sizeFrom_2 : decode cX5_sizeFrom 2 = .ok (.if_icmp .ne 6, 3) := by decide +kernel
theorem dX5_sizeFrom_5 : decode cX5_sizeFrom 5 = .ok (.bipush 12, 2) := by decide +kernel
theorem dX5_sizeFrom_7 : decode cX5_sizeFrom 7 = .ok (.ireturn, 1) := by decide +kernel
theorem dX5_sizeFrom_8 : decode cX5_sizeFrom 8 = .ok (.aload_n 0, 1) := by decide +kernel
theorem dX5_sizeFrom_9 : decode cX5_sizeFrom 9 = .ok (.getfield 38, 3) := by decide +kernel
theorem dX5_sizeFrom_12 : decode cX5_sizeFrom 12 = .ok (.aload_n 0, 1) := by decide +kernel
theorem dX5_sizeFrom_13 : decode cX5_sizeFrom 13 = .ok (.getfield 44, 3) := by decide +kernel
theorem dX5_sizeFrom_16 : decode cX5_sizeFrom 16 = .ok (.getfield 73, 3) := by decide +kernel
theorem dX5_sizeFrom_19 : decode cX5_sizeFrom 19 = .ok (.iload_n 1, 1) := by decide +kernel
theorem dX5_sizeFrom_20 : decode cX5_sizeFrom 20 = .ok (.aaload, 1) := by decide +kernel
theorem dX5_sizeFrom_21 : decode cX5_sizeFrom 21 = .ok (.iload_n 2, 1) := by decide +kernel
theorem dX5_sizeFrom_22 : decode cX5_sizeFrom 22 = .ok (.aload_n 0, 1) := by decide +kernel
theorem dX5_sizeFrom_23 : decode cX5_sizeFrom 23 = .ok (.getfield 26, 3) := by decide +kernel
theorem dX5_sizeFrom_26 : decode cX5_sizeFrom 26 = .ok (.iload_n 1, 1) := by decide +kernel
theorem dX5_sizeFrom_27 : decode cX5_sizeFrom 27 = .ok (.isub, 1) := by decide +kernel
theorem dX5_sizeFrom_28 : decode cX5_sizeFrom 28 = .ok (.invokestatic 79, 3) := by decide +kernel
theorem dX5_sizeFrom_31 : decode cX5_sizeFrom 31 = .ok (.aload_n 0, 1) := by decide +kernel
theorem dX5_sizeFrom_32 : decode cX5_sizeFrom 32 = .ok (.getfield 41, 3) := by decide +kernel
theorem dX5_sizeFrom_35 : decode cX5_sizeFrom 35 = .ok (.aload_n 0, 1) := by decide +kernel
theorem dX5_sizeFrom_36 : decode cX5_sizeFrom 36 = .ok (.getfield 9, 3) := by decide +kernel
theorem dX5_sizeFrom_39 : decode cX5_sizeFrom 39 = .ok (.aload_n 0, 1) := by decide +kernel
theorem dX5_sizeFrom_40 : decode cX5_sizeFrom 40 = .ok (.getfield 38, 3) := by decide +kernel
theorem dX5_sizeFrom_43 : decode cX5_sizeFrom 43 = .ok (.invokestatic 83, 3) := by decide +kernel
theorem dX5_sizeFrom_46 : decode cX5_sizeFrom 46 = .ok (.aload_n 0, 1) := by decide +kernel
theorem dX5_sizeFrom_47 : decode cX5_sizeFrom 47 = .ok (.getfield 41, 3) := by decide +kernel
theorem dX5_sizeFrom_50 : decode cX5_sizeFrom 50 = .ok (.invokestatic 87, 3) := by decide +kernel
theorem dX5_sizeFrom_53 : decode cX5_sizeFrom 53 = .ok (.ireturn, 1) := by decide +kernel
theorem dX5_sendPresent_0 : decode cX5_sendPresent 0 = .ok (.aload_n 0, 1) := by decide +kernel
theorem dX5_sendPresent_1 : decode cX5_sendPresent 1 = .ok (.getfield 26, 3) := by decide +kernel
theorem dX5_sendPresent_4 : decode cX5_sendPresent 4 = .ok (.istore_n 1, 1) := by decide +kernel
theorem dX5_sendPresent_5 : decode cX5_sendPresent 5 = .ok (.aload_n 0, 1) := by decide +kernel
theorem dX5_sendPresent_6 : decode cX5_sendPresent 6 = .ok (.aload_n 0, 1) := by decide +kernel
theorem dX5_sendPresent_7 : decode cX5_sendPresent 7 = .ok (.getfield 15, 3) := by decide +kernel
theorem dX5_sendPresent_10 : decode cX5_sendPresent 10 = .ok (.aload_n 0, 1) := by decide +kernel
theorem dX5_sendPresent_11 : decode cX5_sendPresent 11 = .ok (.getfield 19, 3) := by decide +kernel
theorem dX5_sendPresent_14 : decode cX5_sendPresent 14 = .ok (.invokevirtual 91, 3) := by decide +kernel
theorem dX5_sendPresent_17 : decode cX5_sendPresent 17 = .ok (.istore_n 2, 1) := by decide +kernel
theorem dX5_sendPresent_18 : decode cX5_sendPresent 18 = .ok (.aload_n 0, 1) := by decide +kernel
theorem dX5_sendPresent_19 : decode cX5_sendPresent 19 = .ok (.iload_n 2, 1) := by decide +kernel
theorem dX5_sendPresent_20 : decode cX5_sendPresent 20 = .ok (.aload_n 0, 1) := by decide +kernel
theorem dX5_sendPresent_21 : decode cX5_sendPresent 21 = .ok (.getfield 15, 3) := by decide +kernel
theorem dX5_sendPresent_24 : decode cX5_sendPresent 24 = .ok (.invokevirtual 94, 3) := by decide +kernel
theorem dX5_sendPresent_27 : decode cX5_sendPresent 27 = .ok (.istore_n 3, 1) := by decide +kernel
theorem dX5_sendPresent_28 : decode cX5_sendPresent 28 = .ok (.aload_n 0, 1) := by decide +kernel
theorem dX5_sendPresent_29 : decode cX5_sendPresent 29 = .ok (.getfield 9, 3) := by decide +kernel
theorem dX5_sendPresent_32 : decode cX5_sendPresent 32 = .ok (.aload_n 0, 1) := by decide +kernel
theorem dX5_sendPresent_33 : decode cX5_sendPresent 33 = .ok (.getfield 44, 3) := by decide +kernel
theorem dX5_sendPresent_36 : decode cX5_sendPresent 36 = .ok (.getfield 73, 3) := by decide +kernel
theorem dX5_sendPresent_39 : decode cX5_sendPresent 39 = .ok (.iload_n 1, 1) := by decide +kernel
theorem dX5_sendPresent_40 : decode cX5_sendPresent 40 = .ok (.aaload, 1) := by decide +kernel
theorem dX5_sendPresent_41 : decode cX5_sendPresent 41 = .ok (.invokestatic 48, 3) := by decide +kernel
theorem dX5_sendPresent_44 : decode cX5_sendPresent 44 = .ok (.iload_n 2, 1) := by decide +kernel
theorem dX5_sendPresent_45 : decode cX5_sendPresent 45 = .ok (.iconst (-1), 1) := by decide +kernel
theorem dX5_sendPresent_46 : decode cX5_sendPresent 46 = .ok (.if_icmp .ne 16, 3) := by decide +kernel
theorem dX5_sendPresent_49 : decode cX5_sendPresent 49 = .ok (.aload_n 0, 1) := by decide +kernel
theorem dX5_sendPresent_50 : decode cX5_sendPresent 50 = .ok (.dup, 1) := by decide +kernel
theorem dX5_sendPresent_51 : decode cX5_sendPresent 51 = .ok (.getfield 29, 3) := by decide +kernel
theorem dX5_sendPresent_54 : decode cX5_sendPresent 54 = .ok (.iconst 1, 1) := by decide +kernel
theorem dX5_sendPresent_55 : decode cX5_sendPresent 55 = .ok (.iadd, 1) := by decide +kernel
theorem dX5_sendPresent_56 : decode cX5_sendPresent 56 = .ok (.putfield 29, 3) := by decide +kernel
theorem dX5_sendPresent_59 : decode cX5_sendPresent 59 = .ok (.goto 56, 3) := by decide +kernel
theorem dX5_sendPresent_62 : decode cX5_sendPresent 62 = .ok (.aload_n 0, 1) := by decide +kernel
theorem dX5_sendPresent_63 : decode cX5_sendPresent 63 = .ok (.getfield 44, 3) := by decide +kernel
theorem dX5_sendPresent_66 : decode cX5_sendPresent 66 = .ok (.getfield 73, 3) := by decide +kernel
theorem dX5_sendPresent_69 : decode cX5_sendPresent 69 = .ok (.iload_n 1, 1) := by decide +kernel
theorem dX5_sendPresent_70 : decode cX5_sendPresent 70 = .ok (.aaload, 1) := by decide +kernel
theorem dX5_sendPresent_71 : decode cX5_sendPresent 71 = .ok (.iconst 4, 1) := by decide +kernel
theorem dX5_sendPresent_72 : decode cX5_sendPresent 72 = .ok (.aload_n 0, 1) := by decide +kernel
theorem dX5_sendPresent_73 : decode cX5_sendPresent 73 = .ok (.getfield 38, 3) := by decide +kernel
theorem dX5_sendPresent_76 : decode cX5_sendPresent 76 = .ok (.iconst 4, 1) := by decide +kernel
theorem dX5_sendPresent_77 : decode cX5_sendPresent 77 = .ok (.iaload, 1) := by decide +kernel
theorem dX5_sendPresent_78 : decode cX5_sendPresent 78 = .ok (.iastore, 1) := by decide +kernel
theorem dX5_sendPresent_79 : decode cX5_sendPresent 79 = .ok (.aload_n 0, 1) := by decide +kernel
theorem dX5_sendPresent_80 : decode cX5_sendPresent 80 = .ok (.getfield 44, 3) := by decide +kernel
theorem dX5_sendPresent_83 : decode cX5_sendPresent 83 = .ok (.getfield 73, 3) := by decide +kernel
theorem dX5_sendPresent_86 : decode cX5_sendPresent 86 = .ok (.iload_n 1, 1) := by decide +kernel
theorem dX5_sendPresent_87 : decode cX5_sendPresent 87 = .ok (.aaload, 1) := by decide +kernel
theorem dX5_sendPresent_88 : decode cX5_sendPresent 88 = .ok (.iconst 5, 1) := by decide +kernel
theorem dX5_sendPresent_89 : decode cX5_sendPresent 89 = .ok (.aload_n 0, 1) := by decide +kernel
theorem dX5_sendPresent_90 : decode cX5_sendPresent 90 = .ok (.getfield 38, 3) := by decide +kernel
theorem dX5_sendPresent_93 : decode cX5_sendPresent 93 = .ok (.iconst 5, 1) := by decide +kernel
theorem dX5_sendPresent_94 : decode cX5_sendPresent 94 = .ok (.iaload, 1) := by decide +kernel
theorem dX5_sendPresent_95 : decode cX5_sendPresent 95 = .ok (.iastore, 1) := by decide +kernel
theorem dX5_sendPresent_96 : decode cX5_sendPresent 96 = .ok (.aload_n 0, 1) := by decide +kernel
theorem dX5_sendPresent_97 : decode cX5_sendPresent 97 = .ok (.getfield 41, 3) := by decide +kernel
theorem dX5_sendPresent_100 : decode cX5_sendPresent 100 = .ok (.iconst 0, 1) := by decide +kernel
theorem dX5_sendPresent_101 : decode cX5_sendPresent 101 = .ok (.aload_n 0, 1) := by decide +kernel
theorem dX5_sendPresent_102 : decode cX5_sendPresent 102 = .ok (.getfield 44, 3) := by decide +kernel
theorem dX5_sendPresent_105 : decode cX5_sendPresent 105 = .ok (.getfield 97, 3) := by decide +kernel
theorem dX5_sendPresent_108 : decode cX5_sendPresent 108 = .ok (.iload_n 1, 1) := by decide +kernel
theorem dX5_sendPresent_109 : decode cX5_sendPresent 109 = .ok (.aaload, 1) := by decide +kernel
theorem dX5_sendPresent_110 : decode cX5_sendPresent 110 = .ok (.iconst 0, 1) := by decide +kernel
theorem dX5_sendPresent_111 : decode cX5_sendPresent 111 = .ok (.iconst 4, 1) := by decide +kernel
theorem dX5_sendPresent_112 : decode cX5_sendPresent 112 = .ok (.invokestatic 54, 3) := by decide +kernel
theorem dX5_sendPresent_115 : decode cX5_sendPresent 115 = .ok (.aload_n 0, 1) := by decide +kernel
theorem dX5_sendPresent_116 : decode cX5_sendPresent 116 = .ok (.getfield 44, 3) := by decide +kernel
theorem dX5_sendPresent_119 : decode cX5_sendPresent 119 = .ok (.getfield 100, 3) := by decide +kernel
theorem dX5_sendPresent_122 : decode cX5_sendPresent 122 = .ok (.iload_n 1, 1) := by decide +kernel
theorem dX5_sendPresent_123 : decode cX5_sendPresent 123 = .ok (.iload_n 2, 1) := by decide +kernel
theorem dX5_sendPresent_124 : decode cX5_sendPresent 124 = .ok (.iconst (-1), 1) := by decide +kernel
theorem dX5_sendPresent_125 : decode cX5_sendPresent 125 = .ok (.if_icmp .ne 7, 3) := by decide +kernel
theorem dX5_sendPresent_128 : decode cX5_sendPresent 128 = .ok (.iconst 0, 1) := by decide +kernel
theorem dX5_sendPresent_129 : decode cX5_sendPresent 129 = .ok (.goto 7, 3) := by decide +kernel
theorem dX5_sendPresent_132 : decode cX5_sendPresent 132 = .ok (.aload_n 0, 1) := by decide +kernel
theorem dX5_sendPresent_133 : decode cX5_sendPresent 133 = .ok (.getfield 15, 3) := by decide +kernel
theorem dX5_sendPresent_136 : decode cX5_sendPresent 136 = .ok (.iastore, 1) := by decide +kernel
theorem dX5_sendPresent_137 : decode cX5_sendPresent 137 = .ok (.aload_n 0, 1) := by decide +kernel
theorem dX5_sendPresent_138 : decode cX5_sendPresent 138 = .ok (.getfield 44, 3) := by decide +kernel
theorem dX5_sendPresent_141 : decode cX5_sendPresent 141 = .ok (.getfield 103, 3) := by decide +kernel
theorem dX5_sendPresent_144 : decode cX5_sendPresent 144 = .ok (.iload_n 1, 1) := by decide +kernel
theorem dX5_sendPresent_145 : decode cX5_sendPresent 145 = .ok (.iload_n 2, 1) := by decide +kernel
theorem dX5_sendPresent_146 : decode cX5_sendPresent 146 = .ok (.iastore, 1) := by decide +kernel
theorem dX5_sendPresent_147 : decode cX5_sendPresent 147 = .ok (.aload_n 0, 1) := by decide +kernel
theorem dX5_sendPresent_148 : decode cX5_sendPresent 148 = .ok (.getfield 44, 3) := by decide +kernel
theorem dX5_sendPresent_151 : decode cX5_sendPresent 151 = .ok (.getfield 106, 3) := by decide +kernel
theorem dX5_sendPresent_154 : decode cX5_sendPresent 154 = .ok (.iload_n 1, 1) := by decide +kernel
theorem dX5_sendPresent_155 : decode cX5_sendPresent 155 = .ok (.iload_n 3, 1) := by decide +kernel
theorem dX5_sendPresent_156 : decode cX5_sendPresent 156 = .ok (.iastore, 1) := by decide +kernel
theorem dX5_sendPresent_157 : decode cX5_sendPresent 157 = .ok (.aload_n 0, 1) := by decide +kernel
theorem dX5_sendPresent_158 : decode cX5_sendPresent 158 = .ok (.getfield 35, 3) := by decide +kernel
theorem dX5_sendPresent_161 : decode cX5_sendPresent 161 = .ok (.iload_n 1, 1) := by decide +kernel
theorem dX5_sendPresent_162 : decode cX5_sendPresent 162 = .ok (.iconst 0, 1) := by decide +kernel
theorem dX5_sendPresent_163 : decode cX5_sendPresent 163 = .ok (.iastore, 1) := by decide +kernel
theorem dX5_sendPresent_164 : decode cX5_sendPresent 164 = .ok (.aload_n 0, 1) := by decide +kernel
theorem dX5_sendPresent_165 : decode cX5_sendPresent 165 = .ok (.dup, 1) := by decide +kernel
theorem dX5_sendPresent_166 : decode cX5_sendPresent 166 = .ok (.getfield 26, 3) := by decide +kernel
theorem dX5_sendPresent_169 : decode cX5_sendPresent 169 = .ok (.iconst 1, 1) := by decide +kernel
theorem dX5_sendPresent_170 : decode cX5_sendPresent 170 = .ok (.iadd, 1) := by decide +kernel
theorem dX5_sendPresent_171 : decode cX5_sendPresent 171 = .ok (.putfield 26, 3) := by decide +kernel
theorem dX5_sendPresent_174 : decode cX5_sendPresent 174 = .ok (.aload_n 0, 1) := by decide +kernel
theorem dX5_sendPresent_175 : decode cX5_sendPresent 175 = .ok (.dup, 1) := by decide +kernel
theorem dX5_sendPresent_176 : decode cX5_sendPresent 176 = .ok (.getfield 32, 3) := by decide +kernel
theorem dX5_sendPresent_179 : decode cX5_sendPresent 179 = .ok (.iload_n 3, 1) := by decide +kernel
theorem dX5_sendPresent_180 : decode cX5_sendPresent 180 = .ok (.iadd, 1) := by decide +kernel
theorem dX5_sendPresent_181 : decode cX5_sendPresent 181 = .ok (.putfield 32, 3) := by decide +kernel
theorem dX5_sendPresent_184 : decode cX5_sendPresent 184 = .ok (.aload_n 0, 1) := by decide +kernel
theorem dX5_sendPresent_185 : decode cX5_sendPresent 185 = .ok (.iconst 0, 1) := by decide +kernel
theorem dX5_sendPresent_186 : decode cX5_sendPresent 186 = .ok (.putfield 22, 3) := by decide +kernel
theorem dX5_sendPresent_189 : decode cX5_sendPresent 189 = .ok (.iload_n 1, 1) := by decide +kernel
theorem dX5_sendPresent_190 : decode cX5_sendPresent 190 = .ok (.ireturn, 1) := by decide +kernel
theorem dX5_hear_0 : decode cX5_hear 0 = .ok (.iload_n 1, 1) := by decide +kernel
theorem dX5_hear_1 : decode cX5_hear 1 = .ok (.iconst (-1), 1) := by decide +kernel
theorem dX5_hear_2 : decode cX5_hear 2 = .ok (.if_icmp .ne 11, 3) := by decide +kernel
theorem dX5_hear_5 : decode cX5_hear 5 = .ok (.aload_n 0, 1) := by decide +kernel
theorem dX5_hear_6 : decode cX5_hear 6 = .ok (.iconst 1, 1) := by decide +kernel
theorem dX5_hear_7 : decode cX5_hear 7 = .ok (.putfield 22, 3) := by decide +kernel
theorem dX5_hear_10 : decode cX5_hear 10 = .ok (.goto 24, 3) := by decide +kernel
theorem dX5_hear_13 : decode cX5_hear 13 = .ok (.iload_n 1, 1) := by decide +kernel
theorem dX5_hear_14 : decode cX5_hear 14 = .ok (.iconst 0, 1) := by decide +kernel
theorem dX5_hear_15 : decode cX5_hear 15 = .ok (.aload_n 0, 1) := by decide +kernel
theorem dX5_hear_16 : decode cX5_hear 16 = .ok (.getfield 26, 3) := by decide +kernel
theorem dX5_hear_19 : decode cX5_hear 19 = .ok (.iconst 1, 1) := by decide +kernel
theorem dX5_hear_20 : decode cX5_hear 20 = .ok (.isub, 1) := by decide +kernel
theorem dX5_hear_21 : decode cX5_hear 21 = .ok (.invokestatic 109, 3) := by decide +kernel
theorem dX5_hear_24 : decode cX5_hear 24 = .ok (.ifCond .eq 10, 3) := by decide +kernel
theorem dX5_hear_27 : decode cX5_hear 27 = .ok (.aload_n 0, 1) := by decide +kernel
theorem dX5_hear_28 : decode cX5_hear 28 = .ok (.getfield 35, 3) := by decide +kernel
theorem dX5_hear_31 : decode cX5_hear 31 = .ok (.iload_n 1, 1) := by decide +kernel
theorem dX5_hear_32 : decode cX5_hear 32 = .ok (.iconst 1, 1) := by decide +kernel
theorem dX5_hear_33 : decode cX5_hear 33 = .ok (.iastore, 1) := by decide +kernel
theorem dX5_hear_34 : decode cX5_hear 34 = .ok (.return_, 1) := by decide +kernel
theorem dX5_savedBytes_0 : decode cX5_savedBytes 0 = .ok (.aload_n 0, 1) := by decide +kernel
theorem dX5_savedBytes_1 : decode cX5_savedBytes 1 = .ok (.getfield 26, 3) := by decide +kernel
theorem dX5_savedBytes_4 : decode cX5_savedBytes 4 = .ok (.bipush 6, 2) := by decide +kernel
theorem dX5_savedBytes_6 : decode cX5_savedBytes 6 = .ok (.imul, 1) := by decide +kernel
theorem dX5_savedBytes_7 : decode cX5_savedBytes 7 = .ok (.aload_n 0, 1) := by decide +kernel
theorem dX5_savedBytes_8 : decode cX5_savedBytes 8 = .ok (.getfield 32, 3) := by decide +kernel
theorem dX5_savedBytes_11 : decode cX5_savedBytes 11 = .ok (.isub, 1) := by decide +kernel
theorem dX5_savedBytes_12 : decode cX5_savedBytes 12 = .ok (.ireturn, 1) := by decide +kernel
theorem dX5_sentValue_0 : decode cX5_sentValue 0 = .ok (.iload_n 2, 1) := by decide +kernel
theorem dX5_sentValue_1 : decode cX5_sentValue 1 = .ok (.tableswitch 68 4 7 #[31, 41, 51, 61], 31) := by decide +kernel
theorem dX5_sentValue_32 : decode cX5_sentValue 32 = .ok (.aload_n 0, 1) := by decide +kernel
theorem dX5_sentValue_33 : decode cX5_sentValue 33 = .ok (.getfield 44, 3) := by decide +kernel
theorem dX5_sentValue_36 : decode cX5_sentValue 36 = .ok (.getfield 106, 3) := by decide +kernel
theorem dX5_sentValue_39 : decode cX5_sentValue 39 = .ok (.iload_n 1, 1) := by decide +kernel
theorem dX5_sentValue_40 : decode cX5_sentValue 40 = .ok (.iaload, 1) := by decide +kernel
theorem dX5_sentValue_41 : decode cX5_sentValue 41 = .ok (.ireturn, 1) := by decide +kernel
theorem dX5_sentValue_42 : decode cX5_sentValue 42 = .ok (.aload_n 0, 1) := by decide +kernel
theorem dX5_sentValue_43 : decode cX5_sentValue 43 = .ok (.getfield 44, 3) := by decide +kernel
theorem dX5_sentValue_46 : decode cX5_sentValue 46 = .ok (.getfield 100, 3) := by decide +kernel
theorem dX5_sentValue_49 : decode cX5_sentValue 49 = .ok (.iload_n 1, 1) := by decide +kernel
theorem dX5_sentValue_50 : decode cX5_sentValue 50 = .ok (.iaload, 1) := by decide +kernel
theorem dX5_sentValue_51 : decode cX5_sentValue 51 = .ok (.ireturn, 1) := by decide +kernel
theorem dX5_sentValue_52 : decode cX5_sentValue 52 = .ok (.aload_n 0, 1) := by decide +kernel
theorem dX5_sentValue_53 : decode cX5_sentValue 53 = .ok (.getfield 44, 3) := by decide +kernel
theorem dX5_sentValue_56 : decode cX5_sentValue 56 = .ok (.getfield 103, 3) := by decide +kernel
theorem dX5_sentValue_59 : decode cX5_sentValue 59 = .ok (.iload_n 1, 1) := by decide +kernel
theorem dX5_sentValue_60 : decode cX5_sentValue 60 = .ok (.iaload, 1) := by decide +kernel
theorem dX5_sentValue_61 : decode cX5_sentValue 61 = .ok (.ireturn, 1) := by decide +kernel
theorem dX5_sentValue_62 : decode cX5_sentValue 62 = .ok (.aload_n 0, 1) := by decide +kernel
theorem dX5_sentValue_63 : decode cX5_sentValue 63 = .ok (.getfield 35, 3) := by decide +kernel
theorem dX5_sentValue_66 : decode cX5_sentValue 66 = .ok (.iload_n 1, 1) := by decide +kernel
theorem dX5_sentValue_67 : decode cX5_sentValue 67 = .ok (.iaload, 1) := by decide +kernel
theorem dX5_sentValue_68 : decode cX5_sentValue 68 = .ok (.ireturn, 1) := by decide +kernel
theorem dX5_sentValue_69 : decode cX5_sentValue 69 = .ok (.aload_n 0, 1) := by decide +kernel
theorem dX5_sentValue_70 : decode cX5_sentValue 70 = .ok (.getfield 44, 3) := by decide +kernel
theorem dX5_sentValue_73 : decode cX5_sentValue 73 = .ok (.getfield 73, 3) := by decide +kernel
theorem dX5_sentValue_76 : decode cX5_sentValue 76 = .ok (.iload_n 1, 1) := by decide +kernel
theorem dX5_sentValue_77 : decode cX5_sentValue 77 = .ok (.aaload, 1) := by decide +kernel
theorem dX5_sentValue_78 : decode cX5_sentValue 78 = .ok (.iload_n 2, 1) := by decide +kernel
theorem dX5_sentValue_79 : decode cX5_sentValue 79 = .ok (.iaload, 1) := by decide +kernel
theorem dX5_sentValue_80 : decode cX5_sentValue 80 = .ok (.ireturn, 1) := by decide +kernel
theorem dX6_init_0 : decode cX6_init 0 = .ok (.aload_n 0, 1) := by decide +kernel
theorem dX6_init_1 : decode cX6_init 1 = .ok (.invokespecial 3, 3) := by decide +kernel
theorem dX6_init_4 : decode cX6_init 4 = .ok (.aload_n 0, 1) := by decide +kernel
theorem dX6_init_5 : decode cX6_init 5 = .ok (.new 9, 3) := by decide +kernel
theorem dX6_init_8 : decode cX6_init 8 = .ok (.dup, 1) := by decide +kernel
theorem dX6_init_9 : decode cX6_init 9 = .ok (.invokespecial 11, 3) := by decide +kernel
theorem dX6_init_12 : decode cX6_init 12 = .ok (.putfield 12, 3) := by decide +kernel
theorem dX6_init_15 : decode cX6_init 15 = .ok (.aload_n 0, 1) := by decide +kernel
theorem dX6_init_16 : decode cX6_init 16 = .ok (.new 9, 3) := by decide +kernel
theorem dX6_init_19 : decode cX6_init 19 = .ok (.dup, 1) := by decide +kernel
theorem dX6_init_20 : decode cX6_init 20 = .ok (.invokespecial 11, 3) := by decide +kernel
theorem dX6_init_23 : decode cX6_init 23 = .ok (.putfield 18, 3) := by decide +kernel
theorem dX6_init_26 : decode cX6_init 26 = .ok (.aload_n 0, 1) := by decide +kernel
theorem dX6_init_27 : decode cX6_init 27 = .ok (.new 21, 3) := by decide +kernel
theorem dX6_init_30 : decode cX6_init 30 = .ok (.dup, 1) := by decide +kernel
theorem dX6_init_31 : decode cX6_init 31 = .ok (.aload_n 1, 1) := by decide +kernel
theorem dX6_init_32 : decode cX6_init 32 = .ok (.invokespecial 23, 3) := by decide +kernel
theorem dX6_init_35 : decode cX6_init 35 = .ok (.putfield 26, 3) := by decide +kernel
theorem dX6_init_38 : decode cX6_init 38 = .ok (.aload_n 0, 1) := by decide +kernel
theorem dX6_init_39 : decode cX6_init 39 = .ok (.new 30, 3) := by decide +kernel
theorem dX6_init_42 : decode cX6_init 42 = .ok (.dup, 1) := by decide +kernel
theorem dX6_init_43 : decode cX6_init 43 = .ok (.aload_n 1, 1) := by decide +kernel
theorem dX6_init_44 : decode cX6_init 44 = .ok (.invokespecial 32, 3) := by decide +kernel
theorem dX6_init_47 : decode cX6_init 47 = .ok (.putfield 33, 3) := by decide +kernel
theorem dX6_init_50 : decode cX6_init 50 = .ok (.return_, 1) := by decide +kernel
theorem dX6_copyFrom_0 : decode cX6_copyFrom 0 = .ok (.aload_n 0, 1) := by decide +kernel
theorem dX6_copyFrom_1 : decode cX6_copyFrom 1 = .ok (.getfield 26, 3) := by decide +kernel
theorem dX6_copyFrom_4 : decode cX6_copyFrom 4 = .ok (.aload_n 1, 1) := by decide +kernel
theorem dX6_copyFrom_5 : decode cX6_copyFrom 5 = .ok (.getfield 26, 3) := by decide +kernel
theorem dX6_copyFrom_8 : decode cX6_copyFrom 8 = .ok (.invokevirtual 37, 3) := by decide +kernel
theorem dX6_copyFrom_11 : decode cX6_copyFrom 11 = .ok (.aload_n 0, 1) := by decide +kernel
theorem dX6_copyFrom_12 : decode cX6_copyFrom 12 = .ok (.getfield 33, 3) := by decide +kernel
theorem dX6_copyFrom_15 : decode cX6_copyFrom 15 = .ok (.aload_n 1, 1) := by decide +kernel
theorem dX6_copyFrom_16 : decode cX6_copyFrom 16 = .ok (.getfield 33, 3) := by decide +kernel
theorem dX6_copyFrom_19 : decode cX6_copyFrom 19 = .ok (.invokevirtual 41, 3) := by decide +kernel
theorem dX6_copyFrom_22 : decode cX6_copyFrom 22 = .ok (.aload_n 0, 1) := by decide +kernel
theorem dX6_copyFrom_23 : decode cX6_copyFrom 23 = .ok (.getfield 12, 3) := by decide +kernel
theorem dX6_copyFrom_26 : decode cX6_copyFrom 26 = .ok (.aload_n 1, 1) := by decide +kernel
theorem dX6_copyFrom_27 : decode cX6_copyFrom 27 = .ok (.getfield 12, 3) := by decide +kernel
theorem dX6_copyFrom_30 : decode cX6_copyFrom 30 = .ok (.invokevirtual 44, 3) := by decide +kernel
theorem dX6_copyFrom_33 : decode cX6_copyFrom 33 = .ok (.aload_n 0, 1) := by decide +kernel
theorem dX6_copyFrom_34 : decode cX6_copyFrom 34 = .ok (.getfield 18, 3) := by decide +kernel
theorem dX6_copyFrom_37 : decode cX6_copyFrom 37 = .ok (.aload_n 1, 1) := by decide +kernel
theorem dX6_copyFrom_38 : decode cX6_copyFrom 38 = .ok (.getfield 18, 3) := by decide +kernel
theorem dX6_copyFrom_41 : decode cX6_copyFrom 41 = .ok (.invokevirtual 44, 3) := by decide +kernel
theorem dX6_copyFrom_44 : decode cX6_copyFrom 44 = .ok (.return_, 1) := by decide +kernel
theorem dX6_hasRoomFor_0 : decode cX6_hasRoomFor 0 = .ok (.aload_n 0, 1) := by decide +kernel
theorem dX6_hasRoomFor_1 : decode cX6_hasRoomFor 1 = .ok (.getfield 26, 3) := by decide +kernel
theorem dX6_hasRoomFor_4 : decode cX6_hasRoomFor 4 = .ok (.getfield 47, 3) := by decide +kernel
theorem dX6_hasRoomFor_7 : decode cX6_hasRoomFor 7 = .ok (.iload_n 1, 1) := by decide +kernel
theorem dX6_hasRoomFor_8 : decode cX6_hasRoomFor 8 = .ok (.iadd, 1) := by decide +kernel
theorem dX6_hasRoomFor_9 : decode cX6_hasRoomFor 9 = .ok (.sipush 500, 3) := by decide +kernel
theorem dX6_hasRoomFor_12 : decode cX6_hasRoomFor 12 = .ok (.if_icmp .gt 21, 3) := by decide +kernel
theorem dX6_hasRoomFor_15 : decode cX6_hasRoomFor 15 = .ok (.aload_n 0, 1) := by decide +kernel
theorem dX6_hasRoomFor_16 : decode cX6_hasRoomFor 16 = .ok (.getfield 12, 3) := by decide +kernel
theorem dX6_hasRoomFor_19 : decode cX6_hasRoomFor 19 = .ok (.getfield 51, 3) := by decide +kernel
theorem dX6_hasRoomFor_22 : decode cX6_hasRoomFor 22 = .ok (.iload_n 1, 1) := by decide +kernel
theorem dX6_hasRoomFor_23 : decode cX6_hasRoomFor 23 = .ok (.iadd, 1) := by decide +kernel
theorem dX6_hasRoomFor_24 : decode cX6_hasRoomFor 24 = .ok (.bipush 20, 2) := by decide +kernel
theorem dX6_hasRoomFor_26 : decode cX6_hasRoomFor 26 = .ok (.if_icmp .gt 7, 3) := by decide +kernel
theorem dX6_hasRoomFor_29 : decode cX6_hasRoomFor 29 = .ok (.iconst 1, 1) := by decide +kernel
theorem dX6_hasRoomFor_30 : decode cX6_hasRoomFor 30 = .ok (.goto 4, 3) := by decide +kernel
theorem dX6_hasRoomFor_33 : decode cX6_hasRoomFor 33 = .ok (.iconst 0, 1) := by decide +kernel
theorem dX6_hasRoomFor_34 : decode cX6_hasRoomFor 34 = .ok (.ireturn, 1) := by decide +kernel
theorem dX6_sendNext_0 : decode cX6_sendNext 0 = .ok (.aload_n 0, 1) := by decide +kernel
theorem dX6_sendNext_1 : decode cX6_sendNext 1 = .ok (.getfield 26, 3) := by decide +kernel
theorem dX6_sendNext_4 : decode cX6_sendNext 4 = .ok (.invokevirtual 54, 3) := by decide +kernel
theorem dX6_sendNext_7 : decode cX6_sendNext 7 = .ok (.istore_n 1, 1) := by decide +kernel
theorem dX6_sendNext_8 : decode cX6_sendNext 8 = .ok (.aload_n 0, 1) := by decide +kernel
theorem dX6_sendNext_9 : decode cX6_sendNext 9 = .ok (.getfield 12, 3) := by decide +kernel
theorem dX6_sendNext_12 : decode cX6_sendNext 12 = .ok (.iload_n 1, 1) := by decide +kernel
theorem dX6_sendNext_13 : decode cX6_sendNext 13 = .ok (.invokevirtual 58, 3) := by decide +kernel
theorem dX6_sendNext_16 : decode cX6_sendNext 16 = .ok (.iload_n 1, 1) := by decide +kernel
theorem dX6_sendNext_17 : decode cX6_sendNext 17 = .ok (.ireturn, 1) := by decide +kernel
theorem dX6_deliverPacket_0 : decode cX6_deliverPacket 0 = .ok (.aload_n 0, 1) := by decide +kernel
theorem dX6_deliverPacket_1 : decode cX6_deliverPacket 1 = .ok (.getfield 33, 3) := by decide +kernel
theorem dX6_deliverPacket_4 : decode cX6_deliverPacket 4 = .ok (.aload_n 0, 1) := by decide +kernel
theorem dX6_deliverPacket_5 : decode cX6_deliverPacket 5 = .ok (.getfield 12, 3) := by decide +kernel
theorem dX6_deliverPacket_8 : decode cX6_deliverPacket 8 = .ok (.iload_n 1, 1) := by decide +kernel
theorem dX6_deliverPacket_9 : decode cX6_deliverPacket 9 = .ok (.invokevirtual 62, 3) := by decide +kernel
theorem dX6_deliverPacket_12 : decode cX6_deliverPacket 12 = .ok (.aload_n 0, 1) := by decide +kernel
theorem dX6_deliverPacket_13 : decode cX6_deliverPacket 13 = .ok (.getfield 18, 3) := by decide +kernel
theorem dX6_deliverPacket_16 : decode cX6_deliverPacket 16 = .ok (.invokevirtual 66, 3) := by decide +kernel
theorem dX6_deliverPacket_19 : decode cX6_deliverPacket 19 = .ok (.ireturn, 1) := by decide +kernel
theorem dX6_deliverMessage_0 : decode cX6_deliverMessage 0 = .ok (.aload_n 0, 1) := by decide +kernel
theorem dX6_deliverMessage_1 : decode cX6_deliverMessage 1 = .ok (.getfield 18, 3) := by decide +kernel
theorem dX6_deliverMessage_4 : decode cX6_deliverMessage 4 = .ok (.iload_n 1, 1) := by decide +kernel
theorem dX6_deliverMessage_5 : decode cX6_deliverMessage 5 = .ok (.invokevirtual 62, 3) := by decide +kernel
theorem dX6_deliverMessage_8 : decode cX6_deliverMessage 8 = .ok (.istore_n 2, 1) := by decide +kernel
theorem dX6_deliverMessage_9 : decode cX6_deliverMessage 9 = .ok (.aload_n 0, 1) := by decide +kernel
theorem dX6_deliverMessage_10 : decode cX6_deliverMessage 10 = .ok (.getfield 26, 3) := by decide +kernel
theorem dX6_deliverMessage_13 : decode cX6_deliverMessage 13 = .ok (.iload_n 2, 1) := by decide +kernel
theorem dX6_deliverMessage_14 : decode cX6_deliverMessage 14 = .ok (.invokevirtual 70, 3) := by decide +kernel
theorem dX6_deliverMessage_17 : decode cX6_deliverMessage 17 = .ok (.iload_n 2, 1) := by decide +kernel
theorem dX6_deliverMessage_18 : decode cX6_deliverMessage 18 = .ok (.ireturn, 1) := by decide +kernel
theorem dX6_countOf_0 : decode cX6_countOf 0 = .ok (.iload_n 1, 1) := by decide +kernel
theorem dX6_countOf_1 : decode cX6_countOf 1 = .ok (.tableswitch 107 0 6 #[43, 51, 59, 69, 79, 89, 99], 43) := by decide +kernel
theorem dX6_countOf_44 : decode cX6_countOf 44 = .ok (.aload_n 0, 1) := by decide +kernel
theorem dX6_countOf_45 : decode cX6_countOf 45 = .ok (.getfield 26, 3) := by decide +kernel
theorem dX6_countOf_48 : decode cX6_countOf 48 = .ok (.getfield 47, 3) := by decide +kernel
theorem dX6_countOf_51 : decode cX6_countOf 51 = .ok (.ireturn, 1) := by decide +kernel
theorem dX6_countOf_52 : decode cX6_countOf 52 = .ok (.aload_n 0, 1) := by decide +kernel
theorem dX6_countOf_53 : decode cX6_countOf 53 = .ok (.getfield 33, 3) := by decide +kernel
theorem dX6_countOf_56 : decode cX6_countOf 56 = .ok (.invokevirtual 73, 3) := by decide +kernel
theorem dX6_countOf_59 : decode cX6_countOf 59 = .ok (.ireturn, 1) := by decide +kernel
theorem dX6_countOf_60 : decode cX6_countOf 60 = .ok (.aload_n 0, 1) := by decide +kernel
theorem dX6_countOf_61 : decode cX6_countOf 61 = .ok (.getfield 33, 3) := by decide +kernel
theorem dX6_countOf_64 : decode cX6_countOf 64 = .ok (.getfield 76, 3) := by decide +kernel
theorem dX6_countOf_67 : decode cX6_countOf 67 = .ok (.iconst 0, 1) := by decide +kernel
theorem dX6_countOf_68 : decode cX6_countOf 68 = .ok (.iaload, 1) := by decide +kernel
theorem dX6_countOf_69 : decode cX6_countOf 69 = .ok (.ireturn, 1) := by decide +kernel
theorem dX6_countOf_70 : decode cX6_countOf 70 = .ok (.aload_n 0, 1) := by decide +kernel
theorem dX6_countOf_71 : decode cX6_countOf 71 = .ok (.getfield 33, 3) := by decide +kernel
theorem dX6_countOf_74 : decode cX6_countOf 74 = .ok (.getfield 76, 3) := by decide +kernel
theorem dX6_countOf_77 : decode cX6_countOf 77 = .ok (.iconst 1, 1) := by decide +kernel
theorem dX6_countOf_78 : decode cX6_countOf 78 = .ok (.iaload, 1) := by decide +kernel
theorem dX6_countOf_79 : decode cX6_countOf 79 = .ok (.ireturn, 1) := by decide +kernel
theorem dX6_countOf_80 : decode cX6_countOf 80 = .ok (.aload_n 0, 1) := by decide +kernel
theorem dX6_countOf_81 : decode cX6_countOf 81 = .ok (.getfield 33, 3) := by decide +kernel
theorem dX6_countOf_84 : decode cX6_countOf 84 = .ok (.getfield 76, 3) := by decide +kernel
theorem dX6_countOf_87 : decode cX6_countOf 87 = .ok (.iconst 2, 1) := by decide +kernel
theorem dX6_countOf_88 : decode cX6_countOf 88 = .ok (.iaload, 1) := by decide +kernel
theorem dX6_countOf_89 : decode cX6_countOf 89 = .ok (.ireturn, 1) := by decide +kernel
theorem dX6_countOf_90 : decode cX6_countOf 90 = .ok (.aload_n 0, 1) := by decide +kernel
theorem dX6_countOf_91 : decode cX6_countOf 91 = .ok (.getfield 33, 3) := by decide +kernel
theorem dX6_countOf_94 : decode cX6_countOf 94 = .ok (.getfield 76, 3) := by decide +kernel
theorem dX6_countOf_97 : decode cX6_countOf 97 = .ok (.iconst 3, 1) := by decide +kernel
theorem dX6_countOf_98 : decode cX6_countOf 98 = .ok (.iaload, 1) := by decide +kernel
theorem dX6_countOf_99 : decode cX6_countOf 99 = .ok (.ireturn, 1) := by decide +kernel
theorem dX6_countOf_100 : decode cX6_countOf 100 = .ok (.aload_n 0, 1) := by decide +kernel
theorem dX6_countOf_101 : decode cX6_countOf 101 = .ok (.getfield 33, 3) := by decide +kernel
theorem dX6_countOf_104 : decode cX6_countOf 104 = .ok (.getfield 80, 3) := by decide +kernel
theorem dX6_countOf_107 : decode cX6_countOf 107 = .ok (.ireturn, 1) := by decide +kernel
theorem dX6_countOf_108 : decode cX6_countOf 108 = .ok (.aload_n 0, 1) := by decide +kernel
theorem dX6_countOf_109 : decode cX6_countOf 109 = .ok (.getfield 26, 3) := by decide +kernel
theorem dX6_countOf_112 : decode cX6_countOf 112 = .ok (.getfield 83, 3) := by decide +kernel
theorem dX6_countOf_115 : decode cX6_countOf 115 = .ok (.ireturn, 1) := by decide +kernel
theorem dX7_init_0 : decode cX7_init 0 = .ok (.aload_n 0, 1) := by decide +kernel
theorem dX7_init_1 : decode cX7_init 1 = .ok (.invokespecial 3, 3) := by decide +kernel
theorem dX7_init_4 : decode cX7_init 4 = .ok (.aload_n 0, 1) := by decide +kernel
theorem dX7_init_5 : decode cX7_init 5 = .ok (.bipush 64, 2) := by decide +kernel
theorem dX7_init_7 : decode cX7_init 7 = .ok (.newarray .int, 2) := by decide +kernel
theorem dX7_init_9 : decode cX7_init 9 = .ok (.putfield 9, 3) := by decide +kernel
theorem dX7_init_12 : decode cX7_init 12 = .ok (.aload_n 0, 1) := by decide +kernel
theorem dX7_init_13 : decode cX7_init 13 = .ok (.bipush 64, 2) := by decide +kernel
theorem dX7_init_15 : decode cX7_init 15 = .ok (.bipush 6, 2) := by decide +kernel
theorem dX7_init_17 : decode cX7_init 17 = .ok (.multianewarray 15 2, 4) := by decide +kernel
theorem dX7_init_21 : decode cX7_init 21 = .ok (.putfield 17, 3) := by decide +kernel
theorem dX7_init_24 : decode cX7_init 24 = .ok (.aload_n 0, 1) := by decide +kernel
theorem dX7_init_25 : decode cX7_init 25 = .ok (.getfield 9, 3) := by decide +kernel
theorem dX7_init_28 : decode cX7_init 28 = .ok (.iconst (-1), 1) := by decide +kernel
theorem dX7_init_29 : decode cX7_init 29 = .ok (.invokestatic 20, 3) := by decide +kernel
theorem dX7_init_32 : decode cX7_init 32 = .ok (.return_, 1) := by decide +kernel
theorem dX7_copyFrom_0 : decode cX7_copyFrom 0 = .ok (.aload_n 1, 1) := by decide +kernel
theorem dX7_copyFrom_1 : decode cX7_copyFrom 1 = .ok (.getfield 9, 3) := by decide +kernel
theorem dX7_copyFrom_4 : decode cX7_copyFrom 4 = .ok (.iconst 0, 1) := by decide +kernel
theorem dX7_copyFrom_5 : decode cX7_copyFrom 5 = .ok (.aload_n 0, 1) := by decide +kernel
theorem dX7_copyFrom_6 : decode cX7_copyFrom 6 = .ok (.getfield 9, 3) := by decide +kernel
theorem dX7_copyFrom_9 : decode cX7_copyFrom 9 = .ok (.iconst 0, 1) := by decide +kernel
theorem dX7_copyFrom_10 : decode cX7_copyFrom 10 = .ok (.bipush 64, 2) := by decide +kernel
theorem dX7_copyFrom_12 : decode cX7_copyFrom 12 = .ok (.invokestatic 26, 3) := by decide +kernel
theorem dX7_copyFrom_15 : decode cX7_copyFrom 15 = .ok (.iconst 0, 1) := by decide +kernel
theorem dX7_copyFrom_16 : decode cX7_copyFrom 16 = .ok (.istore_n 2, 1) := by decide +kernel
theorem dX7_copyFrom_17 : decode cX7_copyFrom 17 = .ok (.iload_n 2, 1) := by decide +kernel
theorem dX7_copyFrom_18 : decode cX7_copyFrom 18 = .ok (.bipush 64, 2) := by decide +kernel
theorem dX7_copyFrom_20 : decode cX7_copyFrom 20 = .ok (.if_icmp .ge 24, 3) := by decide +kernel
theorem dX7_copyFrom_23 : decode cX7_copyFrom 23 = .ok (.aload_n 1, 1) := by decide +kernel
theorem dX7_copyFrom_24 : decode cX7_copyFrom 24 = .ok (.getfield 17, 3) := by decide +kernel
theorem dX7_copyFrom_27 : decode cX7_copyFrom 27 = .ok (.iload_n 2, 1) := by decide +kernel
theorem dX7_copyFrom_28 : decode cX7_copyFrom 28 = .ok (.aaload, 1) := by decide +kernel
theorem dX7_copyFrom_29 : decode cX7_copyFrom 29 = .ok (.aload_n 0, 1) := by decide +kernel
theorem dX7_copyFrom_30 : decode cX7_copyFrom 30 = .ok (.getfield 17, 3) := by decide +kernel
theorem dX7_copyFrom_33 : decode cX7_copyFrom 33 = .ok (.iload_n 2, 1) := by decide +kernel
theorem dX7_copyFrom_34 : decode cX7_copyFrom 34 = .ok (.aaload, 1) := by decide +kernel
theorem dX7_copyFrom_35 : decode cX7_copyFrom 35 = .ok (.invokestatic 32, 3) := by decide +kernel
theorem dX7_copyFrom_38 : decode cX7_copyFrom 38 = .ok (.iinc 2 1, 3) := by decide +kernel
theorem dX7_copyFrom_41 : decode cX7_copyFrom 41 = .ok (.goto (-24), 3) := by decide +kernel
theorem dX7_copyFrom_44 : decode cX7_copyFrom 44 = .ok (.return_, 1) := by decide +kernel
theorem dX7_has_0 : decode cX7_has 0 = .ok (.iload_n 1, 1) := by decide +kernel
theorem dX7_has_1 : decode cX7_has 1 = .ok (.ifCond .lt 20, 3) := by decide +kernel
theorem dX7_has_4 : decode cX7_has 4 = .ok (.aload_n 0, 1) := by decide +kernel
theorem dX7_has_5 : decode cX7_has 5 = .ok (.getfield 9, 3) := by decide +kernel
theorem dX7_has_8 : decode cX7_has 8 = .ok (.iload_n 1, 1) := by decide +kernel
theorem dX7_has_9 : decode cX7_has 9 = .ok (.bipush 64, 2) := by decide +kernel
theorem dX7_has_11 : decode cX7_has 11 = .ok (.irem, 1) := by decide +kernel
theorem dX7_has_12 : decode cX7_has 12 = .ok (.iaload, 1) := by decide +kernel
theorem dX7_has_13 : decode cX7_has 13 = .ok (.iload_n 1, 1) := by decide +kernel
theorem dX7_has_14 : decode cX7_has 14 = .ok (.if_icmp .ne 7, 3) := by decide +kernel
theorem dX7_has_17 : decode cX7_has 17 = .ok (.iconst 1, 1) := by decide +kernel
theorem dX7_has_18 : decode cX7_has 18 = .ok (.goto 4, 3) := by decide +kernel
theorem dX7_has_21 : decode cX7_has 21 = .ok (.iconst 0, 1) := by decide +kernel
theorem dX7_has_22 : decode cX7_has 22 = .ok (.ireturn, 1) := by decide +kernel
theorem dX7_rowOf_0 : decode cX7_rowOf 0 = .ok (.aload_n 0, 1) := by decide +kernel
theorem dX7_rowOf_1 : decode cX7_rowOf 1 = .ok (.getfield 17, 3) := by decide +kernel
theorem dX7_rowOf_4 : decode cX7_rowOf 4 = .ok (.iload_n 1, 1) := by decide +kernel
theorem dX7_rowOf_5 : decode cX7_rowOf 5 = .ok (.bipush 64, 2) := by decide +kernel
theorem dX7_rowOf_7 : decode cX7_rowOf 7 = .ok (.invokestatic 38, 3) := by decide +kernel
theorem dX7_rowOf_10 : decode cX7_rowOf 10 = .ok (.aaload, 1) := by decide +kernel
theorem dX7_rowOf_11 : decode cX7_rowOf 11 = .ok (.areturn, 1) := by decide +kernel
theorem dX7_keep_0 : decode cX7_keep 0 = .ok (.iload_n 1, 1) := by decide +kernel
theorem dX7_keep_1 : decode cX7_keep 1 = .ok (.bipush 64, 2) := by decide +kernel
theorem dX7_keep_3 : decode cX7_keep 3 = .ok (.invokestatic 38, 3) := by decide +kernel
theorem dX7_keep_6 : decode cX7_keep 6 = .ok (.istore_n 3, 1) := by decide +kernel
theorem dX7_keep_7 : decode cX7_keep 7 = .ok (.aload_n 0, 1) := by decide +kernel
theorem dX7_keep_8 : decode cX7_keep 8 = .ok (.getfield 9, 3) := by decide +kernel
theorem dX7_keep_11 : decode cX7_keep 11 = .ok (.iload_n 3, 1) := by decide +kernel
theorem dX7_keep_12 : decode cX7_keep 12 = .ok (.iload_n 1, 1) := by decide +kernel
theorem dX7_keep_13 : decode cX7_keep 13 = .ok (.iastore, 1) := by decide +kernel
theorem dX7_keep_14 : decode cX7_keep 14 = .ok (.aload_n 2, 1) := by decide +kernel
theorem dX7_keep_15 : decode cX7_keep 15 = .ok (.aload_n 0, 1) := by decide +kernel
theorem dX7_keep_16 : decode cX7_keep 16 = .ok (.getfield 17, 3) := by decide +kernel
theorem dX7_keep_19 : decode cX7_keep 19 = .ok (.iload_n 3, 1) := by decide +kernel
theorem dX7_keep_20 : decode cX7_keep 20 = .ok (.aaload, 1) := by decide +kernel
theorem dX7_keep_21 : decode cX7_keep 21 = .ok (.invokestatic 32, 3) := by decide +kernel
theorem dX7_keep_24 : decode cX7_keep 24 = .ok (.return_, 1) := by decide +kernel
theorem dX7_dropUpTo_0 : decode cX7_dropUpTo 0 = .ok (.iconst 0, 1) := by decide +kernel
theorem dX7_dropUpTo_1 : decode cX7_dropUpTo 1 = .ok (.istore_n 2, 1) := by decide +kernel
theorem dX7_dropUpTo_2 : decode cX7_dropUpTo 2 = .ok (.iload_n 2, 1) := by decide +kernel
theorem dX7_dropUpTo_3 : decode cX7_dropUpTo 3 = .ok (.bipush 64, 2) := by decide +kernel
theorem dX7_dropUpTo_5 : decode cX7_dropUpTo 5 = .ok (.if_icmp .ge 26, 3) := by decide +kernel
theorem dX7_dropUpTo_8 : decode cX7_dropUpTo 8 = .ok (.aload_n 0, 1) := by decide +kernel
theorem dX7_dropUpTo_9 : decode cX7_dropUpTo 9 = .ok (.getfield 9, 3) := by decide +kernel
theorem dX7_dropUpTo_12 : decode cX7_dropUpTo 12 = .ok (.iload_n 2, 1) := by decide +kernel
theorem dX7_dropUpTo_13 : decode cX7_dropUpTo 13 = .ok (.iaload, 1) := by decide +kernel
theorem dX7_dropUpTo_14 : decode cX7_dropUpTo 14 = .ok (.iload_n 1, 1) := by decide +kernel
theorem dX7_dropUpTo_15 : decode cX7_dropUpTo 15 = .ok (.if_icmp .gt 10, 3) := by decide +kernel
theorem dX7_dropUpTo_18 : decode cX7_dropUpTo 18 = .ok (.aload_n 0, 1) := by decide +kernel
theorem dX7_dropUpTo_19 : decode cX7_dropUpTo 19 = .ok (.getfield 9, 3) := by decide +kernel
theorem dX7_dropUpTo_22 : decode cX7_dropUpTo 22 = .ok (.iload_n 2, 1) := by decide +kernel
theorem dX7_dropUpTo_23 : decode cX7_dropUpTo 23 = .ok (.iconst (-1), 1) := by decide +kernel
theorem dX7_dropUpTo_24 : decode cX7_dropUpTo 24 = .ok (.iastore, 1) := by decide +kernel
theorem dX7_dropUpTo_25 : decode cX7_dropUpTo 25 = .ok (.iinc 2 1, 3) := by decide +kernel
theorem dX7_dropUpTo_28 : decode cX7_dropUpTo 28 = .ok (.goto (-26), 3) := by decide +kernel
theorem dX7_dropUpTo_31 : decode cX7_dropUpTo 31 = .ok (.return_, 1) := by decide +kernel
theorem dX7_size_0 : decode cX7_size 0 = .ok (.iconst 0, 1) := by decide +kernel
theorem dX7_size_1 : decode cX7_size 1 = .ok (.istore_n 1, 1) := by decide +kernel
theorem dX7_size_2 : decode cX7_size 2 = .ok (.iconst 0, 1) := by decide +kernel
theorem dX7_size_3 : decode cX7_size 3 = .ok (.istore_n 2, 1) := by decide +kernel
theorem dX7_size_4 : decode cX7_size 4 = .ok (.iload_n 2, 1) := by decide +kernel
theorem dX7_size_5 : decode cX7_size 5 = .ok (.bipush 64, 2) := by decide +kernel
theorem dX7_size_7 : decode cX7_size 7 = .ok (.if_icmp .ge 22, 3) := by decide +kernel
theorem dX7_size_10 : decode cX7_size 10 = .ok (.aload_n 0, 1) := by decide +kernel
theorem dX7_size_11 : decode cX7_size 11 = .ok (.getfield 9, 3) := by decide +kernel
theorem dX7_size_14 : decode cX7_size 14 = .ok (.iload_n 2, 1) := by decide +kernel
theorem dX7_size_15 : decode cX7_size 15 = .ok (.iaload, 1) := by decide +kernel
theorem dX7_size_16 : decode cX7_size 16 = .ok (.iconst (-1), 1) := by decide +kernel
theorem dX7_size_17 : decode cX7_size 17 = .ok (.if_icmp .eq 6, 3) := by decide +kernel
theorem dX7_size_20 : decode cX7_size 20 = .ok (.iinc 1 1, 3) := by decide +kernel
theorem dX7_size_23 : decode cX7_size 23 = .ok (.iinc 2 1, 3) := by decide +kernel
theorem dX7_size_26 : decode cX7_size 26 = .ok (.goto (-22), 3) := by decide +kernel
theorem dX7_size_29 : decode cX7_size 29 = .ok (.iload_n 1, 1) := by decide +kernel
theorem dX7_size_30 : decode cX7_size 30 = .ok (.ireturn, 1) := by decide +kernel
theorem dX7_valueOf_0 : decode cX7_valueOf 0 = .ok (.aload_n 0, 1) := by decide +kernel
theorem dX7_valueOf_1 : decode cX7_valueOf 1 = .ok (.iload_n 1, 1) := by decide +kernel
theorem dX7_valueOf_2 : decode cX7_valueOf 2 = .ok (.invokevirtual 44, 3) := by decide +kernel
theorem dX7_valueOf_5 : decode cX7_valueOf 5 = .ok (.ifCond .eq 13, 3) := by decide +kernel
theorem dX7_valueOf_8 : decode cX7_valueOf 8 = .ok (.aload_n 0, 1) := by decide +kernel
theorem dX7_valueOf_9 : decode cX7_valueOf 9 = .ok (.iload_n 1, 1) := by decide +kernel
theorem dX7_valueOf_10 : decode cX7_valueOf 10 = .ok (.invokevirtual 48, 3) := by decide +kernel
theorem dX7_valueOf_13 : decode cX7_valueOf 13 = .ok (.iload_n 2, 1) := by decide +kernel
theorem dX7_valueOf_14 : decode cX7_valueOf 14 = .ok (.iaload, 1) := by decide +kernel
theorem dX7_valueOf_15 : decode cX7_valueOf 15 = .ok (.goto 4, 3) := by decide +kernel
theorem dX7_valueOf_18 : decode cX7_valueOf 18 = .ok (.iconst (-1), 1) := by decide +kernel
theorem dX7_valueOf_19 : decode cX7_valueOf 19 = .ok (.ireturn, 1) := by decide +kernel
theorem dX8_init_0 : decode cX8_init 0 = .ok (.aload_n 0, 1) := by decide +kernel
theorem dX8_init_1 : decode cX8_init 1 = .ok (.invokespecial 1, 3) := by decide +kernel
theorem dX8_init_4 : decode cX8_init 4 = .ok (.new 7, 3) := by decide +kernel
theorem dX8_init_7 : decode cX8_init 7 = .ok (.dup, 1) := by decide +kernel
theorem dX8_init_8 : decode cX8_init 8 = .ok (.invokespecial 9, 3) := by decide +kernel
theorem dX8_init_11 : decode cX8_init 11 = .ok (.astore_n 1, 1) := by decide +kernel
theorem dX8_init_12 : decode cX8_init 12 = .ok (.aload_n 0, 1) := by decide +kernel
theorem dX8_init_13 : decode cX8_init 13 = .ok (.new 10, 3) := by decide +kernel
theorem dX8_init_16 : decode cX8_init 16 = .ok (.dup, 1) := by decide +kernel
theorem dX8_init_17 : decode cX8_init 17 = .ok (.aload_n 1, 1) := by decide +kernel
theorem dX8_init_18 : decode cX8_init 18 = .ok (.invokespecial 12, 3) := by decide +kernel
theorem dX8_init_21 : decode cX8_init 21 = .ok (.putfield 15, 3) := by decide +kernel
theorem dX8_init_24 : decode cX8_init 24 = .ok (.aload_n 0, 1) := by decide +kernel
theorem dX8_init_25 : decode cX8_init 25 = .ok (.iconst 5, 1) := by decide +kernel
theorem dX8_init_26 : decode cX8_init 26 = .ok (.anewarray 10, 3) := by decide +kernel
theorem dX8_init_29 : decode cX8_init 29 = .ok (.putfield 21, 3) := by decide +kernel
theorem dX8_init_32 : decode cX8_init 32 = .ok (.iconst 0, 1) := by decide +kernel
theorem dX8_init_33 : decode cX8_init 33 = .ok (.istore_n 2, 1) := by decide +kernel
theorem dX8_init_34 : decode cX8_init 34 = .ok (.iload_n 2, 1) := by decide +kernel
theorem dX8_init_35 : decode cX8_init 35 = .ok (.iconst 5, 1) := by decide +kernel
theorem dX8_init_36 : decode cX8_init 36 = .ok (.if_icmp .ge 23, 3) := by decide +kernel
theorem dX8_init_39 : decode cX8_init 39 = .ok (.aload_n 0, 1) := by decide +kernel
theorem dX8_init_40 : decode cX8_init 40 = .ok (.getfield 21, 3) := by decide +kernel
theorem dX8_init_43 : decode cX8_init 43 = .ok (.iload_n 2, 1) := by decide +kernel
theorem dX8_init_44 : decode cX8_init 44 = .ok (.new 10, 3) := by decide +kernel
theorem dX8_init_47 : decode cX8_init 47 = .ok (.dup, 1) := by decide +kernel
theorem dX8_init_48 : decode cX8_init 48 = .ok (.aload_n 1, 1) := by decide +kernel
theorem dX8_init_49 : decode cX8_init 49 = .ok (.invokespecial 12, 3) := by decide +kernel
theorem dX8_init_52 : decode cX8_init 52 = .ok (.aastore, 1) := by decide +kernel
theorem dX8_init_53 : decode cX8_init 53 = .ok (.iinc 2 1, 3) := by decide +kernel
theorem dX8_init_56 : decode cX8_init 56 = .ok (.goto (-22), 3) := by decide +kernel
theorem dX8_init_59 : decode cX8_init 59 = .ok (.aload_n 0, 1) := by decide +kernel
theorem dX8_init_60 : decode cX8_init 60 = .ok (.new 25, 3) := by decide +kernel
theorem dX8_init_63 : decode cX8_init 63 = .ok (.dup, 1) := by decide +kernel
theorem dX8_init_64 : decode cX8_init 64 = .ok (.invokespecial 27, 3) := by decide +kernel
theorem dX8_init_67 : decode cX8_init 67 = .ok (.putfield 28, 3) := by decide +kernel
theorem dX8_init_70 : decode cX8_init 70 = .ok (.return_, 1) := by decide +kernel
theorem dX8_setField_0 : decode cX8_setField 0 = .ok (.iload_n 1, 1) := by decide +kernel
theorem dX8_setField_1 : decode cX8_setField 1 = .ok (.iconst 0, 1) := by decide +kernel
theorem dX8_setField_2 : decode cX8_setField 2 = .ok (.iconst 3, 1) := by decide +kernel
theorem dX8_setField_3 : decode cX8_setField 3 = .ok (.invokestatic 32, 3) := by decide +kernel
theorem dX8_setField_6 : decode cX8_setField 6 = .ok (.ifCond .ne 13, 3) := by decide +kernel
theorem dX8_setField_9 : decode cX8_setField 9 = .ok (.new 36, 3) := by decide +kernel
theorem dX8_setField_12 : decode cX8_setField 12 = .ok (.dup, 1) := by decide +kernel
theorem dX8_setField_13 : decode cX8_setField 13 = .ok (.ldc 38, 2) := by decide +kernel
theorem dX8_setField_15 : decode cX8_setField 15 = .ok (.invokespecial 40, 3) := by decide +kernel
theorem dX8_setField_18 : decode cX8_setField 18 = .ok (.athrow, 1) := by decide +kernel
theorem dX8_setField_19 : decode cX8_setField 19 = .ok (.iload_n 2, 1) := by decide +kernel
theorem dX8_setField_20 : decode cX8_setField 20 = .ok (.iconst 0, 1) := by decide +kernel
theorem dX8_setField_21 : decode cX8_setField 21 = .ok (.iload_n 1, 1) := by decide +kernel
theorem dX8_setField_22 : decode cX8_setField 22 = .ok (.invokestatic 43, 3) := by decide +kernel
theorem dX8_setField_25 : decode cX8_setField 25 = .ok (.invokestatic 32, 3) := by decide +kernel
theorem dX8_setField_28 : decode cX8_setField 28 = .ok (.ifCond .ne 13, 3) := by decide +kernel
theorem dX8_setField_31 : decode cX8_setField 31 = .ok (.new 47, 3) := by decide +kernel
theorem dX8_setField_34 : decode cX8_setField 34 = .ok (.dup, 1) := by decide +kernel
theorem dX8_setField_35 : decode cX8_setField 35 = .ok (.ldc 49, 2) := by decide +kernel
theorem dX8_setField_37 : decode cX8_setField 37 = .ok (.invokespecial 51, 3) := by decide +kernel
theorem dX8_setField_40 : decode cX8_setField 40 = .ok (.athrow, 1) := by decide +kernel
theorem dX8_setField_41 : decode cX8_setField 41 = .ok (.aload_n 0, 1) := by decide +kernel
theorem dX8_setField_42 : decode cX8_setField 42 = .ok (.invokevirtual 52, 3) := by decide +kernel
theorem dX8_setField_45 : decode cX8_setField 45 = .ok (.aload_n 0, 1) := by decide +kernel
theorem dX8_setField_46 : decode cX8_setField 46 = .ok (.getfield 15, 3) := by decide +kernel
theorem dX8_setField_49 : decode cX8_setField 49 = .ok (.getfield 55, 3) := by decide +kernel
theorem dX8_setField_52 : decode cX8_setField 52 = .ok (.getfield 59, 3) := by decide +kernel
theorem dX8_setField_55 : decode cX8_setField 55 = .ok (.iload_n 1, 1) := by decide +kernel
theorem dX8_setField_56 : decode cX8_setField 56 = .ok (.iaload, 1) := by decide +kernel
theorem dX8_setField_57 : decode cX8_setField 57 = .ok (.istore_n 3, 1) := by decide +kernel
theorem dX8_setField_58 : decode cX8_setField 58 = .ok (.aload_n 0, 1) := by decide +kernel
theorem dX8_setField_59 : decode cX8_setField 59 = .ok (.getfield 15, 3) := by decide +kernel
theorem dX8_setField_62 : decode cX8_setField 62 = .ok (.getfield 55, 3) := by decide +kernel
theorem dX8_setField_65 : decode cX8_setField 65 = .ok (.getfield 59, 3) := by decide +kernel
theorem dX8_setField_68 : decode cX8_setField 68 = .ok (.iload_n 1, 1) := by decide +kernel
theorem dX8_setField_69 : decode cX8_setField 69 = .ok (.iload_n 2, 1) := by decide +kernel
theorem dX8_setField_70 : decode cX8_setField 70 = .ok (.iastore, 1) := by decide +kernel
theorem dX8_setField_71 : decode cX8_setField 71 = .ok (.iload_n 3, 1) := by decide +kernel
theorem dX8_setField_72 : decode cX8_setField 72 = .ok (.ireturn, 1) := by decide +kernel
theorem dX8_setStrides_0 : decode cX8_setStrides 0 = .ok (.iload_n 1, 1) := by decide +kernel
theorem dX8_setStrides_1 : decode cX8_setStrides 1 = .ok (.iconst 0, 1) := by decide +kernel
theorem dX8_setStrides_2 : decode cX8_setStrides 2 = .ok (.sipush 255, 3) := by decide +kernel
theorem dX8_setStrides_5 : decode cX8_setStrides 5 = .ok (.invokestatic 32, 3) := by decide +kernel
theorem dX8_setStrides_8 : decode cX8_setStrides 8 = .ok (.ifCond .eq 14, 3) := by decide +kernel
theorem dX8_setStrides_11 : decode cX8_setStrides 11 = .ok (.iload_n 2, 1) := by decide +kernel
theorem dX8_setStrides_12 : decode cX8_setStrides 12 = .ok (.iconst 0, 1) := by decide +kernel
theorem dX8_setStrides_13 : decode cX8_setStrides 13 = .ok (.sipush 4095, 3) := by decide +kernel
theorem dX8_setStrides_16 : decode cX8_setStrides 16 = .ok (.invokestatic 32, 3) := by decide +kernel
theorem dX8_setStrides_19 : decode cX8_setStrides 19 = .ok (.ifCond .ne 13, 3) := by decide +kernel
theorem dX8_setStrides_22 : decode cX8_setStrides 22 = .ok (.new 47, 3) := by decide +kernel
theorem dX8_setStrides_25 : decode cX8_setStrides 25 = .ok (.dup, 1) := by decide +kernel
theorem dX8_setStrides_26 : decode cX8_setStrides 26 = .ok (.ldc 65, 2) := by decide +kernel
theorem dX8_setStrides_28 : decode cX8_setStrides 28 = .ok (.invokespecial 51, 3) := by decide +kernel
theorem dX8_setStrides_31 : decode cX8_setStrides 31 = .ok (.athrow, 1) := by decide +kernel
theorem dX8_setStrides_32 : decode cX8_setStrides 32 = .ok (.aload_n 0, 1) := by decide +kernel
theorem dX8_setStrides_33 : decode cX8_setStrides 33 = .ok (.invokevirtual 52, 3) := by decide +kernel
theorem dX8_setStrides_36 : decode cX8_setStrides 36 = .ok (.aload_n 0, 1) := by decide +kernel
theorem dX8_setStrides_37 : decode cX8_setStrides 37 = .ok (.getfield 15, 3) := by decide +kernel
theorem dX8_setStrides_40 : decode cX8_setStrides 40 = .ok (.getfield 55, 3) := by decide +kernel
theorem dX8_setStrides_43 : decode cX8_setStrides 43 = .ok (.getfield 59, 3) := by decide +kernel
theorem dX8_setStrides_46 : decode cX8_setStrides 46 = .ok (.iconst 5, 1) := by decide +kernel
theorem dX8_setStrides_47 : decode cX8_setStrides 47 = .ok (.iaload, 1) := by decide +kernel
theorem dX8_setStrides_48 : decode cX8_setStrides 48 = .ok (.istore_n 3, 1) := by decide +kernel
theorem dX8_setStrides_49 : decode cX8_setStrides 49 = .ok (.aload_n 0, 1) := by decide +kernel
theorem dX8_setStrides_50 : decode cX8_setStrides 50 = .ok (.getfield 15, 3) := by decide +kernel
theorem dX8_setStrides_53 : decode cX8_setStrides 53 = .ok (.getfield 55, 3) := by decide +kernel
theorem dX8_setStrides_56 : decode cX8_setStrides 56 = .ok (.getfield 59, 3) := by decide +kernel
theorem dX8_setStrides_59 : decode cX8_setStrides 59 = .ok (.iconst 4, 1) := by decide +kernel
theorem dX8_setStrides_60 : decode cX8_setStrides 60 = .ok (.iload_n 1, 1) := by decide +kernel
theorem dX8_setStrides_61 : decode cX8_setStrides 61 = .ok (.iastore, 1) := by decide +kernel
theorem dX8_setStrides_62 : decode cX8_setStrides 62 = .ok (.aload_n 0, 1) := by decide +kernel
theorem dX8_setStrides_63 : decode cX8_setStrides 63 = .ok (.getfield 15, 3) := by decide +kernel
theorem dX8_setStrides_66 : decode cX8_setStrides 66 = .ok (.getfield 55, 3) := by decide +kernel
theorem dX8_setStrides_69 : decode cX8_setStrides 69 = .ok (.getfield 59, 3) := by decide +kernel
theorem dX8_setStrides_72 : decode cX8_setStrides 72 = .ok (.iconst 5, 1) := by decide +kernel
theorem dX8_setStrides_73 : decode cX8_setStrides 73 = .ok (.iload_n 2, 1) := by decide +kernel
theorem dX8_setStrides_74 : decode cX8_setStrides 74 = .ok (.iastore, 1) := by decide +kernel
theorem dX8_setStrides_75 : decode cX8_setStrides 75 = .ok (.iload_n 3, 1) := by decide +kernel
theorem dX8_setStrides_76 : decode cX8_setStrides 76 = .ok (.ireturn, 1) := by decide +kernel
theorem dX8_setPolicy_0 : decode cX8_setPolicy 0 = .ok (.iload_n 1, 1) := by decide +kernel
theorem dX8_setPolicy_1 : decode cX8_setPolicy 1 = .ok (.iconst 0, 1) := by decide +kernel
theorem dX8_setPolicy_2 : decode cX8_setPolicy 2 = .ok (.iconst 2, 1) := by decide +kernel
theorem dX8_setPolicy_3 : decode cX8_setPolicy 3 = .ok (.invokestatic 32, 3) := by decide +kernel
theorem dX8_setPolicy_6 : decode cX8_setPolicy 6 = .ok (.ifCond .eq 13, 3) := by decide +kernel
theorem dX8_setPolicy_9 : decode cX8_setPolicy 9 = .ok (.iload_n 2, 1) := by decide +kernel
theorem dX8_setPolicy_10 : decode cX8_setPolicy 10 = .ok (.iconst 0, 1) := by decide +kernel
theorem dX8_setPolicy_11 : decode cX8_setPolicy 11 = .ok (.bipush 15, 2) := by decide +kernel
theorem dX8_setPolicy_13 : decode cX8_setPolicy 13 = .ok (.invokestatic 32, 3) := by decide +kernel
theorem dX8_setPolicy_16 : decode cX8_setPolicy 16 = .ok (.ifCond .ne 13, 3) := by decide +kernel
theorem dX8_setPolicy_19 : decode cX8_setPolicy 19 = .ok (.new 47, 3) := by decide +kernel
theorem dX8_setPolicy_22 : decode cX8_setPolicy 22 = .ok (.dup, 1) := by decide +kernel
theorem dX8_setPolicy_23 : decode cX8_setPolicy 23 = .ok (.ldc 67, 2) := by decide +kernel
theorem dX8_setPolicy_25 : decode cX8_setPolicy 25 = .ok (.invokespecial 51, 3) := by decide +kernel
theorem dX8_setPolicy_28 : decode cX8_setPolicy 28 = .ok (.athrow, 1) := by decide +kernel
theorem dX8_setPolicy_29 : decode cX8_setPolicy 29 = .ok (.aload_n 0, 1) := by decide +kernel
theorem dX8_setPolicy_30 : decode cX8_setPolicy 30 = .ok (.invokevirtual 52, 3) := by decide +kernel
theorem dX8_setPolicy_33 : decode cX8_setPolicy 33 = .ok (.aload_n 0, 1) := by decide +kernel
theorem dX8_setPolicy_34 : decode cX8_setPolicy 34 = .ok (.getfield 15, 3) := by decide +kernel
theorem dX8_setPolicy_37 : decode cX8_setPolicy 37 = .ok (.getfield 55, 3) := by decide +kernel
theorem dX8_setPolicy_40 : decode cX8_setPolicy 40 = .ok (.getfield 69, 3) := by decide +kernel
theorem dX8_setPolicy_43 : decode cX8_setPolicy 43 = .ok (.istore_n 3, 1) := by decide +kernel
theorem dX8_setPolicy_44 : decode cX8_setPolicy 44 = .ok (.aload_n 0, 1) := by decide +kernel
theorem dX8_setPolicy_45 : decode cX8_setPolicy 45 = .ok (.getfield 15, 3) := by decide +kernel
theorem dX8_setPolicy_48 : decode cX8_setPolicy 48 = .ok (.getfield 55, 3) := by decide +kernel
theorem dX8_setPolicy_51 : decode cX8_setPolicy 51 = .ok (.iload_n 1, 1) := by decide +kernel
theorem dX8_setPolicy_52 : decode cX8_setPolicy 52 = .ok (.putfield 69, 3) := by decide +kernel
theorem dX8_setPolicy_55 : decode cX8_setPolicy 55 = .ok (.aload_n 0, 1) := by decide +kernel
theorem dX8_setPolicy_56 : decode cX8_setPolicy 56 = .ok (.getfield 15, 3) := by decide +kernel
theorem dX8_setPolicy_59 : decode cX8_setPolicy 59 = .ok (.getfield 55, 3) := by decide +kernel
theorem dX8_setPolicy_62 : decode cX8_setPolicy 62 = .ok (.iload_n 2, 1) := by decide +kernel
theorem dX8_setPolicy_63 : decode cX8_setPolicy 63 = .ok (.putfield 73, 3) := by decide +kernel
theorem dX8_setPolicy_66 : decode cX8_setPolicy 66 = .ok (.iload_n 3, 1) := by decide +kernel
theorem dX8_setPolicy_67 : decode cX8_setPolicy 67 = .ok (.ireturn, 1) := by decide +kernel
theorem dX8_advance_0 : decode cX8_advance 0 = .ok (.aload_n 0, 1) := by decide +kernel
theorem dX8_advance_1 : decode cX8_advance 1 = .ok (.invokevirtual 52, 3) := by decide +kernel
theorem dX8_advance_4 : decode cX8_advance 4 = .ok (.aload_n 0, 1) := by decide +kernel
theorem dX8_advance_5 : decode cX8_advance 5 = .ok (.getfield 15, 3) := by decide +kernel
theorem dX8_advance_8 : decode cX8_advance 8 = .ok (.getfield 55, 3) := by decide +kernel
theorem dX8_advance_11 : decode cX8_advance 11 = .ok (.invokevirtual 76, 3) := by decide +kernel
theorem dX8_advance_14 : decode cX8_advance 14 = .ok (.aload_n 0, 1) := by decide +kernel
theorem dX8_advance_15 : decode cX8_advance 15 = .ok (.getfield 15, 3) := by decide +kernel
theorem dX8_advance_18 : decode cX8_advance 18 = .ok (.getfield 55, 3) := by decide +kernel
theorem dX8_advance_21 : decode cX8_advance 21 = .ok (.getfield 59, 3) := by decide +kernel
theorem dX8_advance_24 : decode cX8_advance 24 = .ok (.iconst 1, 1) := by decide +kernel
theorem dX8_advance_25 : decode cX8_advance 25 = .ok (.iaload, 1) := by decide +kernel
theorem dX8_advance_26 : decode cX8_advance 26 = .ok (.ireturn, 1) := by decide +kernel
theorem dX8_send_0 : decode cX8_send 0 = .ok (.aload_n 0, 1) := by decide +kernel
theorem dX8_send_1 : decode cX8_send 1 = .ok (.getfield 15, 3) := by decide +kernel
theorem dX8_send_4 : decode cX8_send 4 = .ok (.iconst 1, 1) := by decide +kernel
theorem dX8_send_5 : decode cX8_send 5 = .ok (.invokevirtual 79, 3) := by decide +kernel
theorem dX8_send_8 : decode cX8_send 8 = .ok (.ifCond .ne 13, 3) := by decide +kernel
theorem dX8_send_11 : decode cX8_send 11 = .ok (.new 83, 3) := by decide +kernel
theorem dX8_send_14 : decode cX8_send 14 = .ok (.dup, 1) := by decide +kernel
theorem dX8_send_15 : decode cX8_send 15 = .ok (.ldc 85, 2) := by decide +kernel
theorem dX8_send_17 : decode cX8_send 17 = .ok (.invokespecial 87, 3) := by decide +kernel
theorem dX8_send_20 : decode cX8_send 20 = .ok (.athrow, 1) := by decide +kernel
theorem dX8_send_21 : decode cX8_send 21 = .ok (.aload_n 0, 1) := by decide +kernel
theorem dX8_send_22 : decode cX8_send 22 = .ok (.invokevirtual 52, 3) := by decide +kernel
theorem dX8_send_25 : decode cX8_send 25 = .ok (.aload_n 0, 1) := by decide +kernel
theorem dX8_send_26 : decode cX8_send 26 = .ok (.getfield 15, 3) := by decide +kernel
theorem dX8_send_29 : decode cX8_send 29 = .ok (.invokevirtual 88, 3) := by decide +kernel
theorem dX8_send_32 : decode cX8_send 32 = .ok (.ireturn, 1) := by decide +kernel
theorem dX8_stream_0 : decode cX8_stream 0 = .ok (.iload_n 1, 1) := by decide +kernel
theorem dX8_stream_1 : decode cX8_stream 1 = .ok (.iconst 1, 1) := by decide +kernel
theorem dX8_stream_2 : decode cX8_stream 2 = .ok (.bipush 20, 2) := by decide +kernel
theorem dX8_stream_4 : decode cX8_stream 4 = .ok (.invokestatic 32, 3) := by decide +kernel
theorem dX8_stream_7 : decode cX8_stream 7 = .ok (.ifCond .ne 13, 3) := by decide +kernel
theorem dX8_stream_10 : decode cX8_stream 10 = .ok (.new 47, 3) := by decide +kernel
theorem dX8_stream_13 : decode cX8_stream 13 = .ok (.dup, 1) := by decide +kernel
theorem dX8_stream_14 : decode cX8_stream 14 = .ok (.ldc 92, 2) := by decide +kernel
theorem dX8_stream_16 : decode cX8_stream 16 = .ok (.invokespecial 51, 3) := by decide +kernel
theorem dX8_stream_19 : decode cX8_stream 19 = .ok (.athrow, 1) := by decide +kernel
theorem dX8_stream_20 : decode cX8_stream 20 = .ok (.aload_n 0, 1) := by decide +kernel
theorem dX8_stream_21 : decode cX8_stream 21 = .ok (.getfield 15, 3) := by decide +kernel
theorem dX8_stream_24 : decode cX8_stream 24 = .ok (.iload_n 1, 1) := by decide +kernel
theorem dX8_stream_25 : decode cX8_stream 25 = .ok (.invokevirtual 79, 3) := by decide +kernel
theorem dX8_stream_28 : decode cX8_stream 28 = .ok (.ifCond .ne 13, 3) := by decide +kernel
theorem dX8_stream_31 : decode cX8_stream 31 = .ok (.new 83, 3) := by decide +kernel
theorem dX8_stream_34 : decode cX8_stream 34 = .ok (.dup, 1) := by decide +kernel
theorem dX8_stream_35 : decode cX8_stream 35 = .ok (.ldc 94, 2) := by decide +kernel
theorem dX8_stream_37 : decode cX8_stream 37 = .ok (.invokespecial 87, 3) := by decide +kernel
theorem dX8_stream_40 : decode cX8_stream 40 = .ok (.athrow, 1) := by decide +kernel
theorem dX8_stream_41 : decode cX8_stream 41 = .ok (.aload_n 0, 1) := by decide +kernel
theorem dX8_stream_42 : decode cX8_stream 42 = .ok (.invokevirtual 52, 3) := by decide +kernel
theorem dX8_stream_45 : decode cX8_stream 45 = .ok (.iconst 0, 1) := by decide +kernel
theorem dX8_stream_46 : decode cX8_stream 46 = .ok (.istore_n 2, 1) := by decide +kernel
theorem dX8_stream_47 : decode cX8_stream 47 = .ok (.iload_n 2, 1) := by decide +kernel
theorem dX8_stream_48 : decode cX8_stream 48 = .ok (.iload_n 1, 1) := by decide +kernel
theorem dX8_stream_49 : decode cX8_stream 49 = .ok (.if_icmp .ge 27, 3) := by decide +kernel
theorem dX8_stream_52 : decode cX8_stream 52 = .ok (.aload_n 0, 1) := by decide +kernel
theorem dX8_stream_53 : decode cX8_stream 53 = .ok (.getfield 15, 3) := by decide +kernel
theorem dX8_stream_56 : decode cX8_stream 56 = .ok (.getfield 55, 3) := by decide +kernel
theorem dX8_stream_59 : decode cX8_stream 59 = .ok (.invokevirtual 76, 3) := by decide +kernel
theorem dX8_stream_62 : decode cX8_stream 62 = .ok (.aload_n 0, 1) := by decide +kernel
theorem dX8_stream_63 : decode cX8_stream 63 = .ok (.getfield 15, 3) := by decide +kernel
theorem dX8_stream_66 : decode cX8_stream 66 = .ok (.invokevirtual 88, 3) := by decide +kernel
theorem dX8_stream_69 : decode cX8_stream 69 = .ok (.pop, 1) := by decide +kernel
theorem dX8_stream_70 : decode cX8_stream 70 = .ok (.iinc 2 1, 3) := by decide +kernel
theorem dX8_stream_73 : decode cX8_stream 73 = .ok (.goto (-26), 3) := by decide +kernel
theorem dX8_stream_76 : decode cX8_stream 76 = .ok (.aload_n 0, 1) := by decide +kernel
theorem dX8_stream_77 : decode cX8_stream 77 = .ok (.getfield 15, 3) := by decide +kernel
theorem dX8_stream_80 : decode cX8_stream 80 = .ok (.getfield 96, 3) := by decide +kernel
theorem dX8_stream_83 : decode cX8_stream 83 = .ok (.getfield 100, 3) := by decide +kernel
theorem dX8_stream_86 : decode cX8_stream 86 = .ok (.ireturn, 1) := by decide +kernel
theorem dX8_field_0 : decode cX8_field 0 = .ok (.iload_n 1, 1) := by decide +kernel
theorem dX8_field_1 : decode cX8_field 1 = .ok (.iconst 0, 1) := by decide +kernel
theorem dX8_field_2 : decode cX8_field 2 = .ok (.iconst 3, 1) := by decide +kernel
theorem dX8_field_3 : decode cX8_field 3 = .ok (.invokestatic 32, 3) := by decide +kernel
theorem dX8_field_6 : decode cX8_field 6 = .ok (.ifCond .ne 13, 3) := by decide +kernel
theorem dX8_field_9 : decode cX8_field 9 = .ok (.new 36, 3) := by decide +kernel
theorem dX8_field_12 : decode cX8_field 12 = .ok (.dup, 1) := by decide +kernel
theorem dX8_field_13 : decode cX8_field 13 = .ok (.ldc 38, 2) := by decide +kernel
theorem dX8_field_15 : decode cX8_field 15 = .ok (.invokespecial 40, 3) := by decide +kernel
theorem dX8_field_18 : decode cX8_field 18 = .ok (.athrow, 1) := by decide +kernel
theorem dX8_field_19 : decode cX8_field 19 = .ok (.aload_n 0, 1) := by decide +kernel
theorem dX8_field_20 : decode cX8_field 20 = .ok (.getfield 15, 3) := by decide +kernel
theorem dX8_field_23 : decode cX8_field 23 = .ok (.getfield 55, 3) := by decide +kernel
theorem dX8_field_26 : decode cX8_field 26 = .ok (.getfield 59, 3) := by decide +kernel
theorem dX8_field_29 : decode cX8_field 29 = .ok (.iload_n 1, 1) := by decide +kernel
theorem dX8_field_30 : decode cX8_field 30 = .ok (.iaload, 1) := by decide +kernel
theorem dX8_field_31 : decode cX8_field 31 = .ok (.ireturn, 1) := by decide +kernel
theorem dX8_sizeWith_0 : decode cX8_sizeWith 0 = .ok (.iload_n 1, 1) := by decide +kernel
theorem dX8_sizeWith_1 : decode cX8_sizeWith 1 = .ok (.iconst 0, 1) := by decide +kernel
theorem dX8_sizeWith_2 : decode cX8_sizeWith 2 = .ok (.iconst 2, 1) := by decide +kernel
theorem dX8_sizeWith_3 : decode cX8_sizeWith 3 = .ok (.invokestatic 32, 3) := by decide +kernel
theorem dX8_sizeWith_6 : decode cX8_sizeWith 6 = .ok (.ifCond .eq 13, 3) := by decide +kernel
theorem dX8_sizeWith_9 : decode cX8_sizeWith 9 = .ok (.iload_n 2, 1) := by decide +kernel
theorem dX8_sizeWith_10 : decode cX8_sizeWith 10 = .ok (.iconst 0, 1) := by decide +kernel
theorem dX8_sizeWith_11 : decode cX8_sizeWith 11 = .ok (.bipush 15, 2) := by decide +kernel
theorem dX8_sizeWith_13 : decode cX8_sizeWith 13 = .ok (.invokestatic 32, 3) := by decide +kernel
theorem dX8_sizeWith_16 : decode cX8_sizeWith 16 = .ok (.ifCond .ne 13, 3) := by decide +kernel
theorem dX8_sizeWith_19 : decode cX8_sizeWith 19 = .ok (.new 47, 3) := by decide +kernel
theorem dX8_sizeWith_22 : decode cX8_sizeWith 22 = .ok (.dup, 1) := by decide +kernel
theorem dX8_sizeWith_23 : decode cX8_sizeWith 23 = .ok (.ldc 67, 2) := by decide +kernel
theorem dX8_sizeWith_25 : decode cX8_sizeWith 25 = .ok (.invokespecial 51, 3) := by decide +kernel
theorem dX8_sizeWith_28 : decode cX8_sizeWith 28 = .ok (.athrow, 1) := by decide +kernel
theorem dX8_sizeWith_29 : decode cX8_sizeWith 29 = .ok (.aload_n 0, 1) := by decide +kernel
theorem dX8_sizeWith_30 : decode cX8_sizeWith 30 = .ok (.getfield 15, 3) := by decide +kernel
theorem dX8_sizeWith_33 : decode cX8_sizeWith 33 = .ok (.getfield 55, 3) := by decide +kernel
theorem dX8_sizeWith_36 : decode cX8_sizeWith 36 = .ok (.aload_n 0, 1) := by decide +kernel
theorem dX8_sizeWith_37 : decode cX8_sizeWith 37 = .ok (.getfield 15, 3) := by decide +kernel
theorem dX8_sizeWith_40 : decode cX8_sizeWith 40 = .ok (.getfield 55, 3) := by decide +kernel
theorem dX8_sizeWith_43 : decode cX8_sizeWith 43 = .ok (.iload_n 1, 1) := by decide +kernel
theorem dX8_sizeWith_44 : decode cX8_sizeWith 44 = .ok (.iload_n 2, 1) := by decide +kernel
theorem dX8_sizeWith_45 : decode cX8_sizeWith 45 = .ok (.invokevirtual 105, 3) := by decide +kernel
theorem dX8_sizeWith_48 : decode cX8_sizeWith 48 = .ok (.iload_n 1, 1) := by decide +kernel
theorem dX8_sizeWith_49 : decode cX8_sizeWith 49 = .ok (.invokevirtual 109, 3) := by decide +kernel
theorem dX8_sizeWith_52 : decode cX8_sizeWith 52 = .ok (.ireturn, 1) := by decide +kernel
theorem dX8_reference_0 : decode cX8_reference 0 = .ok (.aload_n 0, 1) := by decide +kernel
theorem dX8_reference_1 : decode cX8_reference 1 = .ok (.getfield 15, 3) := by decide +kernel
theorem dX8_reference_4 : decode cX8_reference 4 = .ok (.getfield 55, 3) := by decide +kernel
theorem dX8_reference_7 : decode cX8_reference 7 = .ok (.aload_n 0, 1) := by decide +kernel
theorem dX8_reference_8 : decode cX8_reference 8 = .ok (.getfield 15, 3) := by decide +kernel
theorem dX8_reference_11 : decode cX8_reference 11 = .ok (.getfield 55, 3) := by decide +kernel
theorem dX8_reference_14 : decode cX8_reference 14 = .ok (.getfield 73, 3) := by decide +kernel
theorem dX8_reference_17 : decode cX8_reference 17 = .ok (.invokevirtual 112, 3) := by decide +kernel
theorem dX8_reference_20 : decode cX8_reference 20 = .ok (.ireturn, 1) := by decide +kernel
theorem dX8_sent_0 : decode cX8_sent 0 = .ok (.iload_n 1, 1) := by decide +kernel
theorem dX8_sent_1 : decode cX8_sent 1 = .ok (.iconst 0, 1) := by decide +kernel
theorem dX8_sent_2 : decode cX8_sent 2 = .ok (.aload_n 0, 1) := by decide +kernel
theorem dX8_sent_3 : decode cX8_sent 3 = .ok (.getfield 15, 3) := by decide +kernel
theorem dX8_sent_6 : decode cX8_sent 6 = .ok (.getfield 55, 3) := by decide +kernel
theorem dX8_sent_9 : decode cX8_sent 9 = .ok (.getfield 115, 3) := by decide +kernel
theorem dX8_sent_12 : decode cX8_sent 12 = .ok (.iconst 1, 1) := by decide +kernel
theorem dX8_sent_13 : decode cX8_sent 13 = .ok (.isub, 1) := by decide +kernel
theorem dX8_sent_14 : decode cX8_sent 14 = .ok (.invokestatic 32, 3) := by decide +kernel
theorem dX8_sent_17 : decode cX8_sent 17 = .ok (.ifCond .ne 13, 3) := by decide +kernel
theorem dX8_sent_20 : decode cX8_sent 20 = .ok (.new 36, 3) := by decide +kernel
theorem dX8_sent_23 : decode cX8_sent 23 = .ok (.dup, 1) := by decide +kernel
theorem dX8_sent_24 : decode cX8_sent 24 = .ok (.ldc 118, 2) := by decide +kernel
theorem dX8_sent_26 : decode cX8_sent 26 = .ok (.invokespecial 40, 3) := by decide +kernel
theorem dX8_sent_29 : decode cX8_sent 29 = .ok (.athrow, 1) := by decide +kernel
theorem dX8_sent_30 : decode cX8_sent 30 = .ok (.iload_n 2, 1) := by decide +kernel
theorem dX8_sent_31 : decode cX8_sent 31 = .ok (.iconst 0, 1) := by decide +kernel
theorem dX8_sent_32 : decode cX8_sent 32 = .ok (.bipush 7, 2) := by decide +kernel
theorem dX8_sent_34 : decode cX8_sent 34 = .ok (.invokestatic 32, 3) := by decide +kernel
theorem dX8_sent_37 : decode cX8_sent 37 = .ok (.ifCond .ne 13, 3) := by decide +kernel
theorem dX8_sent_40 : decode cX8_sent 40 = .ok (.new 47, 3) := by decide +kernel
theorem dX8_sent_43 : decode cX8_sent 43 = .ok (.dup, 1) := by decide +kernel
theorem dX8_sent_44 : decode cX8_sent 44 = .ok (.ldc 120, 2) := by decide +kernel
theorem dX8_sent_46 : decode cX8_sent 46 = .ok (.invokespecial 51, 3) := by decide +kernel
theorem dX8_sent_49 : decode cX8_sent 49 = .ok (.athrow, 1) := by decide +kernel
theorem dX8_sent_50 : decode cX8_sent 50 = .ok (.aload_n 0, 1) := by decide +kernel
theorem dX8_sent_51 : decode cX8_sent 51 = .ok (.getfield 15, 3) := by decide +kernel
theorem dX8_sent_54 : decode cX8_sent 54 = .ok (.getfield 55, 3) := by decide +kernel
theorem dX8_sent_57 : decode cX8_sent 57 = .ok (.iload_n 1, 1) := by decide +kernel
theorem dX8_sent_58 : decode cX8_sent 58 = .ok (.iload_n 2, 1) := by decide +kernel
theorem dX8_sent_59 : decode cX8_sent 59 = .ok (.invokevirtual 122, 3) := by decide +kernel
theorem dX8_sent_62 : decode cX8_sent 62 = .ok (.ireturn, 1) := by decide +kernel
theorem dX8_deliver_0 : decode cX8_deliver 0 = .ok (.aload_n 0, 1) := by decide +kernel
theorem dX8_deliver_1 : decode cX8_deliver 1 = .ok (.getfield 15, 3) := by decide +kernel
theorem dX8_deliver_4 : decode cX8_deliver 4 = .ok (.getfield 96, 3) := by decide +kernel
theorem dX8_deliver_7 : decode cX8_deliver 7 = .ok (.iload_n 1, 1) := by decide +kernel
theorem dX8_deliver_8 : decode cX8_deliver 8 = .ok (.invokevirtual 125, 3) := by decide +kernel
theorem dX8_deliver_11 : decode cX8_deliver 11 = .ok (.ifCond .ne 13, 3) := by decide +kernel
theorem dX8_deliver_14 : decode cX8_deliver 14 = .ok (.new 36, 3) := by decide +kernel
theorem dX8_deliver_17 : decode cX8_deliver 17 = .ok (.dup, 1) := by decide +kernel
theorem dX8_deliver_18 : decode cX8_deliver 18 = .ok (.ldc 128, 2) := by decide +kernel
theorem dX8_deliver_20 : decode cX8_deliver 20 = .ok (.invokespecial 40, 3) := by decide +kernel
theorem dX8_deliver_23 : decode cX8_deliver 23 = .ok (.athrow, 1) := by decide +kernel
theorem dX8_deliver_24 : decode cX8_deliver 24 = .ok (.aload_n 0, 1) := by decide +kernel
theorem dX8_deliver_25 : decode cX8_deliver 25 = .ok (.invokevirtual 52, 3) := by decide +kernel
theorem dX8_deliver_28 : decode cX8_deliver 28 = .ok (.aload_n 0, 1) := by decide +kernel
theorem dX8_deliver_29 : decode cX8_deliver 29 = .ok (.getfield 15, 3) := by decide +kernel
theorem dX8_deliver_32 : decode cX8_deliver 32 = .ok (.iload_n 1, 1) := by decide +kernel
theorem dX8_deliver_33 : decode cX8_deliver 33 = .ok (.invokevirtual 130, 3) := by decide +kernel
theorem dX8_deliver_36 : decode cX8_deliver 36 = .ok (.ireturn, 1) := by decide +kernel
theorem dX8_deliverAll_0 : decode cX8_deliverAll 0 = .ok (.aload_n 0, 1) := by decide +kernel
theorem dX8_deliverAll_1 : decode cX8_deliverAll 1 = .ok (.invokevirtual 52, 3) := by decide +kernel
theorem dX8_deliverAll_4 : decode cX8_deliverAll 4 = .ok (.aload_n 0, 1) := by decide +kernel
theorem dX8_deliverAll_5 : decode cX8_deliverAll 5 = .ok (.getfield 15, 3) := by decide +kernel
theorem dX8_deliverAll_8 : decode cX8_deliverAll 8 = .ok (.getfield 96, 3) := by decide +kernel
theorem dX8_deliverAll_11 : decode cX8_deliverAll 11 = .ok (.getfield 100, 3) := by decide +kernel
theorem dX8_deliverAll_14 : decode cX8_deliverAll 14 = .ok (.istore_n 1, 1) := by decide +kernel
theorem dX8_deliverAll_15 : decode cX8_deliverAll 15 = .ok (.iconst 0, 1) := by decide +kernel
theorem dX8_deliverAll_16 : decode cX8_deliverAll 16 = .ok (.istore_n 2, 1) := by decide +kernel
theorem dX8_deliverAll_17 : decode cX8_deliverAll 17 = .ok (.iconst 0, 1) := by decide +kernel
theorem dX8_deliverAll_18 : decode cX8_deliverAll 18 = .ok (.istore_n 3, 1) := by decide +kernel
theorem dX8_deliverAll_19 : decode cX8_deliverAll 19 = .ok (.iload_n 3, 1) := by decide +kernel
theorem dX8_deliverAll_20 : decode cX8_deliverAll 20 = .ok (.iload_n 1, 1) := by decide +kernel
theorem dX8_deliverAll_21 : decode cX8_deliverAll 21 = .ok (.if_icmp .ge 33, 3) := by decide +kernel
theorem dX8_deliverAll_24 : decode cX8_deliverAll 24 = .ok (.aload_n 0, 1) := by decide +kernel
theorem dX8_deliverAll_25 : decode cX8_deliverAll 25 = .ok (.getfield 15, 3) := by decide +kernel
theorem dX8_deliverAll_28 : decode cX8_deliverAll 28 = .ok (.iconst 0, 1) := by decide +kernel
theorem dX8_deliverAll_29 : decode cX8_deliverAll 29 = .ok (.invokevirtual 130, 3) := by decide +kernel
theorem dX8_deliverAll_32 : decode cX8_deliverAll 32 = .ok (.istore 4, 2) := by decide +kernel
theorem dX8_deliverAll_34 : decode cX8_deliverAll 34 = .ok (.iload 4, 2) := by decide +kernel
theorem dX8_deliverAll_36 : decode cX8_deliverAll 36 = .ok (.ifCond .eq 9, 3) := by decide +kernel
theorem dX8_deliverAll_39 : decode cX8_deliverAll 39 = .ok (.iload 4, 2) := by decide +kernel
theorem dX8_deliverAll_41 : decode cX8_deliverAll 41 = .ok (.iconst 1, 1) := by decide +kernel
theorem dX8_deliverAll_42 : decode cX8_deliverAll 42 = .ok (.if_icmp .ne 6, 3) := by decide +kernel
theorem dX8_deliverAll_45 : decode cX8_deliverAll 45 = .ok (.iinc 2 1, 3) := by decide +kernel
theorem dX8_deliverAll_48 : decode cX8_deliverAll 48 = .ok (.iinc 3 1, 3) := by decide +kernel
theorem dX8_deliverAll_51 : decode cX8_deliverAll 51 = .ok (.goto (-32), 3) := by decide +kernel
theorem dX8_deliverAll_54 : decode cX8_deliverAll 54 = .ok (.iload_n 2, 1) := by decide +kernel
theorem dX8_deliverAll_55 : decode cX8_deliverAll 55 = .ok (.ireturn, 1) := by decide +kernel
theorem dX8_lose_0 : decode cX8_lose 0 = .ok (.aload_n 0, 1) := by decide +kernel
theorem dX8_lose_1 : decode cX8_lose 1 = .ok (.getfield 15, 3) := by decide +kernel
theorem dX8_lose_4 : decode cX8_lose 4 = .ok (.getfield 96, 3) := by decide +kernel
theorem dX8_lose_7 : decode cX8_lose 7 = .ok (.iload_n 1, 1) := by decide +kernel
theorem dX8_lose_8 : decode cX8_lose 8 = .ok (.invokevirtual 125, 3) := by decide +kernel
theorem dX8_lose_11 : decode cX8_lose 11 = .ok (.ifCond .ne 13, 3) := by decide +kernel
theorem dX8_lose_14 : decode cX8_lose 14 = .ok (.new 36, 3) := by decide +kernel
theorem dX8_lose_17 : decode cX8_lose 17 = .ok (.dup, 1) := by decide +kernel
theorem dX8_lose_18 : decode cX8_lose 18 = .ok (.ldc 128, 2) := by decide +kernel
theorem dX8_lose_20 : decode cX8_lose 20 = .ok (.invokespecial 40, 3) := by decide +kernel
theorem dX8_lose_23 : decode cX8_lose 23 = .ok (.athrow, 1) := by decide +kernel
theorem dX8_lose_24 : decode cX8_lose 24 = .ok (.aload_n 0, 1) := by decide +kernel
theorem dX8_lose_25 : decode cX8_lose 25 = .ok (.invokevirtual 52, 3) := by decide +kernel
theorem dX8_lose_28 : decode cX8_lose 28 = .ok (.aload_n 0, 1) := by decide +kernel
theorem dX8_lose_29 : decode cX8_lose 29 = .ok (.getfield 15, 3) := by decide +kernel
theorem dX8_lose_32 : decode cX8_lose 32 = .ok (.getfield 96, 3) := by decide +kernel
theorem dX8_lose_35 : decode cX8_lose 35 = .ok (.iload_n 1, 1) := by decide +kernel
theorem dX8_lose_36 : decode cX8_lose 36 = .ok (.invokevirtual 133, 3) := by decide +kernel
theorem dX8_lose_39 : decode cX8_lose 39 = .ok (.ireturn, 1) := by decide +kernel
theorem dX8_copy_0 : decode cX8_copy 0 = .ok (.aload_n 0, 1) := by decide +kernel
theorem dX8_copy_1 : decode cX8_copy 1 = .ok (.getfield 15, 3) := by decide +kernel
theorem dX8_copy_4 : decode cX8_copy 4 = .ok (.getfield 96, 3) := by decide +kernel
theorem dX8_copy_7 : decode cX8_copy 7 = .ok (.iload_n 1, 1) := by decide +kernel
theorem dX8_copy_8 : decode cX8_copy 8 = .ok (.invokevirtual 125, 3) := by decide +kernel
theorem dX8_copy_11 : decode cX8_copy 11 = .ok (.ifCond .ne 13, 3) := by decide +kernel
theorem dX8_copy_14 : decode cX8_copy 14 = .ok (.new 36, 3) := by decide +kernel
theorem dX8_copy_17 : decode cX8_copy 17 = .ok (.dup, 1) := by decide +kernel
theorem dX8_copy_18 : decode cX8_copy 18 = .ok (.ldc 128, 2) := by decide +kernel
theorem dX8_copy_20 : decode cX8_copy 20 = .ok (.invokespecial 40, 3) := by decide +kernel
theorem dX8_copy_23 : decode cX8_copy 23 = .ok (.athrow, 1) := by decide +kernel
theorem dX8_copy_24 : decode cX8_copy 24 = .ok (.aload_n 0, 1) := by decide +kernel
theorem dX8_copy_25 : decode cX8_copy 25 = .ok (.getfield 15, 3) := by decide +kernel
theorem dX8_copy_28 : decode cX8_copy 28 = .ok (.getfield 96, 3) := by decide +kernel
theorem dX8_copy_31 : decode cX8_copy 31 = .ok (.invokevirtual 136, 3) := by decide +kernel
theorem dX8_copy_34 : decode cX8_copy 34 = .ok (.ifCond .eq 13, 3) := by decide +kernel
theorem dX8_copy_37 : decode cX8_copy 37 = .ok (.new 83, 3) := by decide +kernel
theorem dX8_copy_40 : decode cX8_copy 40 = .ok (.dup, 1) := by decide +kernel
theorem dX8_copy_41 : decode cX8_copy 41 = .ok (.ldc 140, 2) := by decide +kernel
theorem dX8_copy_43 : decode cX8_copy 43 = .ok (.invokespecial 87, 3) := by decide +kernel
theorem dX8_copy_46 : decode cX8_copy 46 = .ok (.athrow, 1) := by decide +kernel
theorem dX8_copy_47 : decode cX8_copy 47 = .ok (.aload_n 0, 1) := by decide +kernel
theorem dX8_copy_48 : decode cX8_copy 48 = .ok (.invokevirtual 52, 3) := by decide +kernel
theorem dX8_copy_51 : decode cX8_copy 51 = .ok (.aload_n 0, 1) := by decide +kernel
theorem dX8_copy_52 : decode cX8_copy 52 = .ok (.getfield 15, 3) := by decide +kernel
theorem dX8_copy_55 : decode cX8_copy 55 = .ok (.getfield 96, 3) := by decide +kernel
theorem dX8_copy_58 : decode cX8_copy 58 = .ok (.aload_n 0, 1) := by decide +kernel
theorem dX8_copy_59 : decode cX8_copy 59 = .ok (.getfield 15, 3) := by decide +kernel
theorem dX8_copy_62 : decode cX8_copy 62 = .ok (.getfield 96, 3) := by decide +kernel
theorem dX8_copy_65 : decode cX8_copy 65 = .ok (.getfield 142, 3) := by decide +kernel
theorem dX8_copy_68 : decode cX8_copy 68 = .ok (.iload_n 1, 1) := by decide +kernel
theorem dX8_copy_69 : decode cX8_copy 69 = .ok (.iaload, 1) := by decide +kernel
theorem dX8_copy_70 : decode cX8_copy 70 = .ok (.invokevirtual 145, 3) := by decide +kernel
theorem dX8_copy_73 : decode cX8_copy 73 = .ok (.aload_n 0, 1) := by decide +kernel
theorem dX8_copy_74 : decode cX8_copy 74 = .ok (.getfield 15, 3) := by decide +kernel
theorem dX8_copy_77 : decode cX8_copy 77 = .ok (.getfield 96, 3) := by decide +kernel
theorem dX8_copy_80 : decode cX8_copy 80 = .ok (.getfield 100, 3) := by decide +kernel
theorem dX8_copy_83 : decode cX8_copy 83 = .ok (.ireturn, 1) := by decide +kernel
theorem dX8_deliverBack_0 : decode cX8_deliverBack 0 = .ok (.aload_n 0, 1) := by decide +kernel
theorem dX8_deliverBack_1 : decode cX8_deliverBack 1 = .ok (.getfield 15, 3) := by decide +kernel
theorem dX8_deliverBack_4 : decode cX8_deliverBack 4 = .ok (.getfield 149, 3) := by decide +kernel
theorem dX8_deliverBack_7 : decode cX8_deliverBack 7 = .ok (.iload_n 1, 1) := by decide +kernel
theorem dX8_deliverBack_8 : decode cX8_deliverBack 8 = .ok (.invokevirtual 125, 3) := by decide +kernel
theorem dX8_deliverBack_11 : decode cX8_deliverBack 11 = .ok (.ifCond .ne 13, 3) := by decide +kernel
theorem dX8_deliverBack_14 : decode cX8_deliverBack 14 = .ok (.new 36, 3) := by decide +kernel
theorem dX8_deliverBack_17 : decode cX8_deliverBack 17 = .ok (.dup, 1) := by decide +kernel
theorem dX8_deliverBack_18 : decode cX8_deliverBack 18 = .ok (.ldc 152, 2) := by decide +kernel
theorem dX8_deliverBack_20 : decode cX8_deliverBack 20 = .ok (.invokespecial 40, 3) := by decide +kernel
theorem dX8_deliverBack_23 : decode cX8_deliverBack 23 = .ok (.athrow, 1) := by decide +kernel
theorem dX8_deliverBack_24 : decode cX8_deliverBack 24 = .ok (.aload_n 0, 1) := by decide +kernel
theorem dX8_deliverBack_25 : decode cX8_deliverBack 25 = .ok (.invokevirtual 52, 3) := by decide +kernel
theorem dX8_deliverBack_28 : decode cX8_deliverBack 28 = .ok (.aload_n 0, 1) := by decide +kernel
theorem dX8_deliverBack_29 : decode cX8_deliverBack 29 = .ok (.getfield 15, 3) := by decide +kernel
theorem dX8_deliverBack_32 : decode cX8_deliverBack 32 = .ok (.iload_n 1, 1) := by decide +kernel
theorem dX8_deliverBack_33 : decode cX8_deliverBack 33 = .ok (.invokevirtual 154, 3) := by decide +kernel
theorem dX8_deliverBack_36 : decode cX8_deliverBack 36 = .ok (.ireturn, 1) := by decide +kernel
theorem dX8_loseBack_0 : decode cX8_loseBack 0 = .ok (.aload_n 0, 1) := by decide +kernel
theorem dX8_loseBack_1 : decode cX8_loseBack 1 = .ok (.getfield 15, 3) := by decide +kernel
theorem dX8_loseBack_4 : decode cX8_loseBack 4 = .ok (.getfield 149, 3) := by decide +kernel
theorem dX8_loseBack_7 : decode cX8_loseBack 7 = .ok (.iload_n 1, 1) := by decide +kernel
theorem dX8_loseBack_8 : decode cX8_loseBack 8 = .ok (.invokevirtual 125, 3) := by decide +kernel
theorem dX8_loseBack_11 : decode cX8_loseBack 11 = .ok (.ifCond .ne 13, 3) := by decide +kernel
theorem dX8_loseBack_14 : decode cX8_loseBack 14 = .ok (.new 36, 3) := by decide +kernel
theorem dX8_loseBack_17 : decode cX8_loseBack 17 = .ok (.dup, 1) := by decide +kernel
theorem dX8_loseBack_18 : decode cX8_loseBack 18 = .ok (.ldc 152, 2) := by decide +kernel
theorem dX8_loseBack_20 : decode cX8_loseBack 20 = .ok (.invokespecial 40, 3) := by decide +kernel
theorem dX8_loseBack_23 : decode cX8_loseBack 23 = .ok (.athrow, 1) := by decide +kernel
theorem dX8_loseBack_24 : decode cX8_loseBack 24 = .ok (.aload_n 0, 1) := by decide +kernel
theorem dX8_loseBack_25 : decode cX8_loseBack 25 = .ok (.invokevirtual 52, 3) := by decide +kernel
theorem dX8_loseBack_28 : decode cX8_loseBack 28 = .ok (.aload_n 0, 1) := by decide +kernel
theorem dX8_loseBack_29 : decode cX8_loseBack 29 = .ok (.getfield 15, 3) := by decide +kernel
theorem dX8_loseBack_32 : decode cX8_loseBack 32 = .ok (.getfield 149, 3) := by decide +kernel
theorem dX8_loseBack_35 : decode cX8_loseBack 35 = .ok (.iload_n 1, 1) := by decide +kernel
theorem dX8_loseBack_36 : decode cX8_loseBack 36 = .ok (.invokevirtual 133, 3) := by decide +kernel
theorem dX8_loseBack_39 : decode cX8_loseBack 39 = .ok (.ireturn, 1) := by decide +kernel
theorem dX8_waiting_0 : decode cX8_waiting 0 = .ok (.aload_n 0, 1) := by decide +kernel
theorem dX8_waiting_1 : decode cX8_waiting 1 = .ok (.iload_n 1, 1) := by decide +kernel
theorem dX8_waiting_2 : decode cX8_waiting 2 = .ok (.invokevirtual 157, 3) := by decide +kernel
theorem dX8_waiting_5 : decode cX8_waiting 5 = .ok (.getfield 100, 3) := by decide +kernel
theorem dX8_waiting_8 : decode cX8_waiting 8 = .ok (.ireturn, 1) := by decide +kernel
theorem dX8_waitingAt_0 : decode cX8_waitingAt 0 = .ok (.aload_n 0, 1) := by decide +kernel
theorem dX8_waitingAt_1 : decode cX8_waitingAt 1 = .ok (.iload_n 1, 1) := by decide +kernel
theorem dX8_waitingAt_2 : decode cX8_waitingAt 2 = .ok (.invokevirtual 157, 3) := by decide +kernel
theorem dX8_waitingAt_5 : decode cX8_waitingAt 5 = .ok (.astore_n 3, 1) := by decide +kernel
theorem dX8_waitingAt_6 : decode cX8_waitingAt 6 = .ok (.aload_n 3, 1) := by decide +kernel
theorem dX8_waitingAt_7 : decode cX8_waitingAt 7 = .ok (.iload_n 2, 1) := by decide +kernel
theorem dX8_waitingAt_8 : decode cX8_waitingAt 8 = .ok (.invokevirtual 125, 3) := by decide +kernel
theorem dX8_waitingAt_11 : decode cX8_waitingAt 11 = .ok (.ifCond .ne 13, 3) := by decide +kernel
theorem dX8_waitingAt_14 : decode cX8_waitingAt 14 = .ok (.new 36, 3) := by decide +kernel
theorem dX8_waitingAt_17 : decode cX8_waitingAt 17 = .ok (.dup, 1) := by decide +kernel
theorem dX8_waitingAt_18 : decode cX8_waitingAt 18 = .ok (.ldc 161, 2) := by decide +kernel
theorem dX8_waitingAt_20 : decode cX8_waitingAt 20 = .ok (.invokespecial 40, 3) := by decide +kernel
theorem dX8_waitingAt_23 : decode cX8_waitingAt 23 = .ok (.athrow, 1) := by decide +kernel
theorem dX8_waitingAt_24 : decode cX8_waitingAt 24 = .ok (.aload_n 3, 1) := by decide +kernel
theorem dX8_waitingAt_25 : decode cX8_waitingAt 25 = .ok (.getfield 142, 3) := by decide +kernel
theorem dX8_waitingAt_28 : decode cX8_waitingAt 28 = .ok (.iload_n 2, 1) := by decide +kernel
theorem dX8_waitingAt_29 : decode cX8_waitingAt 29 = .ok (.iaload, 1) := by decide +kernel
theorem dX8_waitingAt_30 : decode cX8_waitingAt 30 = .ok (.ireturn, 1) := by decide +kernel
theorem dX8_setReceiver_0 : decode cX8_setReceiver 0 = .ok (.iload_n 1, 1) := by decide +kernel
theorem dX8_setReceiver_1 : decode cX8_setReceiver 1 = .ok (.iconst 0, 1) := by decide +kernel
theorem dX8_setReceiver_2 : decode cX8_setReceiver 2 = .ok (.bipush 15, 2) := by decide +kernel
theorem dX8_setReceiver_4 : decode cX8_setReceiver 4 = .ok (.invokestatic 32, 3) := by decide +kernel
theorem dX8_setReceiver_7 : decode cX8_setReceiver 7 = .ok (.ifCond .eq 23, 3) := by decide +kernel
theorem dX8_setReceiver_10 : decode cX8_setReceiver 10 = .ok (.iload_n 2, 1) := by decide +kernel
theorem dX8_setReceiver_11 : decode cX8_setReceiver 11 = .ok (.iconst 1, 1) := by decide +kernel
theorem dX8_setReceiver_12 : decode cX8_setReceiver 12 = .ok (.bipush 16, 2) := by decide +kernel
theorem dX8_setReceiver_14 : decode cX8_setReceiver 14 = .ok (.invokestatic 32, 3) := by decide +kernel
theorem dX8_setReceiver_17 : decode cX8_setReceiver 17 = .ok (.ifCond .eq 13, 3) := by decide +kernel
theorem dX8_setReceiver_20 : decode cX8_setReceiver 20 = .ok (.iload_n 3, 1) := by decide +kernel
theorem dX8_setReceiver_21 : decode cX8_setReceiver 21 = .ok (.iconst 1, 1) := by decide +kernel
theorem dX8_setReceiver_22 : decode cX8_setReceiver 22 = .ok (.bipush 8, 2) := by decide +kernel
theorem dX8_setReceiver_24 : decode cX8_setReceiver 24 = .ok (.invokestatic 32, 3) := by decide +kernel
theorem dX8_setReceiver_27 : decode cX8_setReceiver 27 = .ok (.ifCond .ne 13, 3) := by decide +kernel
theorem dX8_setReceiver_30 : decode cX8_setReceiver 30 = .ok (.new 47, 3) := by decide +kernel
theorem dX8_setReceiver_33 : decode cX8_setReceiver 33 = .ok (.dup, 1) := by decide +kernel
theorem dX8_setReceiver_34 : decode cX8_setReceiver 34 = .ok (.ldc 163, 2) := by decide +kernel
theorem dX8_setReceiver_36 : decode cX8_setReceiver 36 = .ok (.invokespecial 51, 3) := by decide +kernel
theorem dX8_setReceiver_39 : decode cX8_setReceiver 39 = .ok (.athrow, 1) := by decide +kernel
theorem dX8_setReceiver_40 : decode cX8_setReceiver 40 = .ok (.aload_n 0, 1) := by decide +kernel
theorem dX8_setReceiver_41 : decode cX8_setReceiver 41 = .ok (.invokevirtual 52, 3) := by decide +kernel
theorem dX8_setReceiver_44 : decode cX8_setReceiver 44 = .ok (.aload_n 0, 1) := by decide +kernel
theorem dX8_setReceiver_45 : decode cX8_setReceiver 45 = .ok (.getfield 15, 3) := by decide +kernel
theorem dX8_setReceiver_48 : decode cX8_setReceiver 48 = .ok (.getfield 165, 3) := by decide +kernel
theorem dX8_setReceiver_51 : decode cX8_setReceiver 51 = .ok (.getfield 169, 3) := by decide +kernel
theorem dX8_setReceiver_54 : decode cX8_setReceiver 54 = .ok (.istore 4, 2) := by decide +kernel
theorem dX8_setReceiver_56 : decode cX8_setReceiver 56 = .ok (.aload_n 0, 1) := by decide +kernel
theorem dX8_setReceiver_57 : decode cX8_setReceiver 57 = .ok (.getfield 15, 3) := by decide +kernel
theorem dX8_setReceiver_60 : decode cX8_setReceiver 60 = .ok (.getfield 165, 3) := by decide +kernel
theorem dX8_setReceiver_63 : decode cX8_setReceiver 63 = .ok (.iload_n 1, 1) := by decide +kernel
theorem dX8_setReceiver_64 : decode cX8_setReceiver 64 = .ok (.putfield 169, 3) := by decide +kernel
theorem dX8_setReceiver_67 : decode cX8_setReceiver 67 = .ok (.aload_n 0, 1) := by decide +kernel
theorem dX8_setReceiver_68 : decode cX8_setReceiver 68 = .ok (.getfield 15, 3) := by decide +kernel
theorem dX8_setReceiver_71 : decode cX8_setReceiver 71 = .ok (.getfield 165, 3) := by decide +kernel
theorem dX8_setReceiver_74 : decode cX8_setReceiver 74 = .ok (.iload_n 2, 1) := by decide +kernel
theorem dX8_setReceiver_75 : decode cX8_setReceiver 75 = .ok (.putfield 174, 3) := by decide +kernel
theorem dX8_setReceiver_78 : decode cX8_setReceiver 78 = .ok (.aload_n 0, 1) := by decide +kernel
theorem dX8_setReceiver_79 : decode cX8_setReceiver 79 = .ok (.getfield 15, 3) := by decide +kernel
theorem dX8_setReceiver_82 : decode cX8_setReceiver 82 = .ok (.getfield 165, 3) := by decide +kernel
theorem dX8_setReceiver_85 : decode cX8_setReceiver 85 = .ok (.iload_n 3, 1) := by decide +kernel
theorem dX8_setReceiver_86 : decode cX8_setReceiver 86 = .ok (.putfield 177, 3) := by decide +kernel
theorem dX8_setReceiver_89 : decode cX8_setReceiver 89 = .ok (.iload 4, 2) := by decide +kernel
theorem dX8_setReceiver_91 : decode cX8_setReceiver 91 = .ok (.ireturn, 1) := by decide +kernel
theorem dX8_highest_0 : decode cX8_highest 0 = .ok (.aload_n 0, 1) := by decide +kernel
theorem dX8_highest_1 : decode cX8_highest 1 = .ok (.getfield 15, 3) := by decide +kernel
theorem dX8_highest_4 : decode cX8_highest 4 = .ok (.getfield 165, 3) := by decide +kernel
theorem dX8_highest_7 : decode cX8_highest 7 = .ok (.getfield 180, 3) := by decide +kernel
theorem dX8_highest_10 : decode cX8_highest 10 = .ok (.ireturn, 1) := by decide +kernel
theorem dX8_record_0 : decode cX8_record 0 = .ok (.iload_n 1, 1) := by decide +kernel
theorem dX8_record_1 : decode cX8_record 1 = .ok (.iconst 0, 1) := by decide +kernel
theorem dX8_record_2 : decode cX8_record 2 = .ok (.sipush 999, 3) := by decide +kernel
theorem dX8_record_5 : decode cX8_record 5 = .ok (.invokestatic 32, 3) := by decide +kernel
theorem dX8_record_8 : decode cX8_record 8 = .ok (.ifCond .eq 12, 3) := by decide +kernel
theorem dX8_record_11 : decode cX8_record 11 = .ok (.iload_n 2, 1) := by decide +kernel
theorem dX8_record_12 : decode cX8_record 12 = .ok (.iconst 0, 1) := by decide +kernel
theorem dX8_record_13 : decode cX8_record 13 = .ok (.iconst 5, 1) := by decide +kernel
theorem dX8_record_14 : decode cX8_record 14 = .ok (.invokestatic 32, 3) := by decide +kernel
theorem dX8_record_17 : decode cX8_record 17 = .ok (.ifCond .ne 13, 3) := by decide +kernel
theorem dX8_record_20 : decode cX8_record 20 = .ok (.new 47, 3) := by decide +kernel
theorem dX8_record_23 : decode cX8_record 23 = .ok (.dup, 1) := by decide +kernel
theorem dX8_record_24 : decode cX8_record 24 = .ok (.ldc 183, 2) := by decide +kernel
theorem dX8_record_26 : decode cX8_record 26 = .ok (.invokespecial 51, 3) := by decide +kernel
theorem dX8_record_29 : decode cX8_record 29 = .ok (.athrow, 1) := by decide +kernel
theorem dX8_record_30 : decode cX8_record 30 = .ok (.aload_n 0, 1) := by decide +kernel
theorem dX8_record_31 : decode cX8_record 31 = .ok (.getfield 15, 3) := by decide +kernel
theorem dX8_record_34 : decode cX8_record 34 = .ok (.getfield 165, 3) := by decide +kernel
theorem dX8_record_37 : decode cX8_record 37 = .ok (.getfield 185, 3) := by decide +kernel
theorem dX8_record_40 : decode cX8_record 40 = .ok (.iload_n 1, 1) := by decide +kernel
theorem dX8_record_41 : decode cX8_record 41 = .ok (.iload_n 2, 1) := by decide +kernel
theorem dX8_record_42 : decode cX8_record 42 = .ok (.invokevirtual 189, 3) := by decide +kernel
theorem dX8_record_45 : decode cX8_record 45 = .ok (.ireturn, 1) := by decide +kernel
theorem dX8_records_0 : decode cX8_records 0 = .ok (.aload_n 0, 1) := by decide +kernel
theorem dX8_records_1 : decode cX8_records 1 = .ok (.getfield 15, 3) := by decide +kernel
theorem dX8_records_4 : decode cX8_records 4 = .ok (.getfield 165, 3) := by decide +kernel
theorem dX8_records_7 : decode cX8_records 7 = .ok (.getfield 185, 3) := by decide +kernel
theorem dX8_records_10 : decode cX8_records 10 = .ok (.invokevirtual 194, 3) := by decide +kernel
theorem dX8_records_13 : decode cX8_records 13 = .ok (.ireturn, 1) := by decide +kernel
theorem dX8_numberFor_0 : decode cX8_numberFor 0 = .ok (.iload_n 1, 1) := by decide +kernel
theorem dX8_numberFor_1 : decode cX8_numberFor 1 = .ok (.iconst 0, 1) := by decide +kernel
theorem dX8_numberFor_2 : decode cX8_numberFor 2 = .ok (.bipush 63, 2) := by decide +kernel
theorem dX8_numberFor_4 : decode cX8_numberFor 4 = .ok (.invokestatic 32, 3) := by decide +kernel
theorem dX8_numberFor_7 : decode cX8_numberFor 7 = .ok (.ifCond .ne 13, 3) := by decide +kernel
theorem dX8_numberFor_10 : decode cX8_numberFor 10 = .ok (.new 47, 3) := by decide +kernel
theorem dX8_numberFor_13 : decode cX8_numberFor 13 = .ok (.dup, 1) := by decide +kernel
theorem dX8_numberFor_14 : decode cX8_numberFor 14 = .ok (.ldc 197, 2) := by decide +kernel
theorem dX8_numberFor_16 : decode cX8_numberFor 16 = .ok (.invokespecial 51, 3) := by decide +kernel
theorem dX8_numberFor_19 : decode cX8_numberFor 19 = .ok (.athrow, 1) := by decide +kernel
theorem dX8_numberFor_20 : decode cX8_numberFor 20 = .ok (.aload_n 0, 1) := by decide +kernel
theorem dX8_numberFor_21 : decode cX8_numberFor 21 = .ok (.getfield 15, 3) := by decide +kernel
theorem dX8_numberFor_24 : decode cX8_numberFor 24 = .ok (.getfield 165, 3) := by decide +kernel
theorem dX8_numberFor_27 : decode cX8_numberFor 27 = .ok (.iload_n 1, 1) := by decide +kernel
theorem dX8_numberFor_28 : decode cX8_numberFor 28 = .ok (.invokevirtual 199, 3) := by decide +kernel
theorem dX8_numberFor_31 : decode cX8_numberFor 31 = .ok (.ireturn, 1) := by decide +kernel
theorem dX8_count_0 : decode cX8_count 0 = .ok (.iload_n 1, 1) := by decide +kernel
theorem dX8_count_1 : decode cX8_count 1 = .ok (.iconst 0, 1) := by decide +kernel
theorem dX8_count_2 : decode cX8_count 2 = .ok (.bipush 7, 2) := by decide +kernel
theorem dX8_count_4 : decode cX8_count 4 = .ok (.invokestatic 32, 3) := by decide +kernel
theorem dX8_count_7 : decode cX8_count 7 = .ok (.ifCond .ne 13, 3) := by decide +kernel
theorem dX8_count_10 : decode cX8_count 10 = .ok (.new 47, 3) := by decide +kernel
theorem dX8_count_13 : decode cX8_count 13 = .ok (.dup, 1) := by decide +kernel
theorem dX8_count_14 : decode cX8_count 14 = .ok (.ldc 120, 2) := by decide +kernel
theorem dX8_count_16 : decode cX8_count 16 = .ok (.invokespecial 51, 3) := by decide +kernel
theorem dX8_count_19 : decode cX8_count 19 = .ok (.athrow, 1) := by decide +kernel
theorem dX8_count_20 : decode cX8_count 20 = .ok (.aload_n 0, 1) := by decide +kernel
theorem dX8_count_21 : decode cX8_count 21 = .ok (.getfield 15, 3) := by decide +kernel
theorem dX8_count_24 : decode cX8_count 24 = .ok (.iload_n 1, 1) := by decide +kernel
theorem dX8_count_25 : decode cX8_count 25 = .ok (.invokevirtual 202, 3) := by decide +kernel
theorem dX8_count_28 : decode cX8_count 28 = .ok (.ireturn, 1) := by decide +kernel
theorem dX8_saved_0 : decode cX8_saved 0 = .ok (.aload_n 0, 1) := by decide +kernel
theorem dX8_saved_1 : decode cX8_saved 1 = .ok (.getfield 15, 3) := by decide +kernel
theorem dX8_saved_4 : decode cX8_saved 4 = .ok (.getfield 55, 3) := by decide +kernel
theorem dX8_saved_7 : decode cX8_saved 7 = .ok (.invokevirtual 205, 3) := by decide +kernel
theorem dX8_saved_10 : decode cX8_saved 10 = .ok (.ireturn, 1) := by decide +kernel
theorem dX8_lateness_0 : decode cX8_lateness 0 = .ok (.aload_n 0, 1) := by decide +kernel
theorem dX8_lateness_1 : decode cX8_lateness 1 = .ok (.getfield 15, 3) := by decide +kernel
theorem dX8_lateness_4 : decode cX8_lateness 4 = .ok (.getfield 165, 3) := by decide +kernel
theorem dX8_lateness_7 : decode cX8_lateness 7 = .ok (.getfield 208, 3) := by decide +kernel
theorem dX8_lateness_10 : decode cX8_lateness 10 = .ok (.ireturn, 1) := by decide +kernel
theorem dX8_meanSize_0 : decode cX8_meanSize 0 = .ok (.aload_n 0, 1) := by decide +kernel
theorem dX8_meanSize_1 : decode cX8_meanSize 1 = .ok (.getfield 15, 3) := by decide +kernel
theorem dX8_meanSize_4 : decode cX8_meanSize 4 = .ok (.getfield 55, 3) := by decide +kernel
theorem dX8_meanSize_7 : decode cX8_meanSize 7 = .ok (.getfield 115, 3) := by decide +kernel
theorem dX8_meanSize_10 : decode cX8_meanSize 10 = .ok (.istore_n 1, 1) := by decide +kernel
theorem dX8_meanSize_11 : decode cX8_meanSize 11 = .ok (.iload_n 1, 1) := by decide +kernel
theorem dX8_meanSize_12 : decode cX8_meanSize 12 = .ok (.ifCond .ne 7, 3) := by decide +kernel
theorem dX8_meanSize_15 : decode cX8_meanSize 15 = .ok (.dconst 0, 1) := by decide +kernel
theorem dX8_meanSize_16 : decode cX8_meanSize 16 = .ok (.goto 17, 3) := by decide +kernel
theorem dX8_meanSize_19 : decode cX8_meanSize 19 = .ok (.aload_n 0, 1) := by decide +kernel
theorem dX8_meanSize_20 : decode cX8_meanSize 20 = .ok (.getfield 15, 3) := by decide +kernel
theorem dX8_meanSize_23 : decode cX8_meanSize 23 = .ok (.getfield 55, 3) := by decide +kernel
theorem dX8_meanSize_26 : decode cX8_meanSize 26 = .ok (.getfield 211, 3) := by decide +kernel
theorem dX8_meanSize_29 : decode cX8_meanSize 29 = .ok (.i2d, 1) := by decide +kernel
theorem dX8_meanSize_30 : decode cX8_meanSize 30 = .ok (.iload_n 1, 1) := by decide +kernel
theorem dX8_meanSize_31 : decode cX8_meanSize 31 = .ok (.i2d, 1) := by decide +kernel
theorem dX8_meanSize_32 : decode cX8_meanSize 32 = .ok (.ddiv, 1) := by decide +kernel
theorem dX8_meanSize_33 : decode cX8_meanSize 33 = .ok (.dreturn, 1) := by decide +kernel
theorem dX8_linkOf_0 : decode cX8_linkOf 0 = .ok (.iload_n 1, 1) := by decide +kernel
theorem dX8_linkOf_1 : decode cX8_linkOf 1 = .ok (.ifCond .eq 13, 3) := by decide +kernel
theorem dX8_linkOf_4 : decode cX8_linkOf 4 = .ok (.aload_n 0, 1) := by decide +kernel
theorem dX8_linkOf_5 : decode cX8_linkOf 5 = .ok (.getfield 15, 3) := by decide +kernel
theorem dX8_linkOf_8 : decode cX8_linkOf 8 = .ok (.getfield 149, 3) := by decide +kernel
theorem dX8_linkOf_11 : decode cX8_linkOf 11 = .ok (.goto 10, 3) := by decide +kernel
theorem dX8_linkOf_14 : decode cX8_linkOf 14 = .ok (.aload_n 0, 1) := by decide +kernel
theorem dX8_linkOf_15 : decode cX8_linkOf 15 = .ok (.getfield 15, 3) := by decide +kernel
theorem dX8_linkOf_18 : decode cX8_linkOf 18 = .ok (.getfield 96, 3) := by decide +kernel
theorem dX8_linkOf_21 : decode cX8_linkOf 21 = .ok (.areturn, 1) := by decide +kernel
theorem dX8_nextPlace_0 : decode cX8_nextPlace 0 = .ok (.aload_n 0, 1) := by decide +kernel
theorem dX8_nextPlace_1 : decode cX8_nextPlace 1 = .ok (.getfield 251, 3) := by decide +kernel
theorem dX8_nextPlace_4 : decode cX8_nextPlace 4 = .ok (.iconst 1, 1) := by decide +kernel
theorem dX8_nextPlace_5 : decode cX8_nextPlace 5 = .ok (.iadd, 1) := by decide +kernel
theorem dX8_nextPlace_6 : decode cX8_nextPlace 6 = .ok (.iconst 5, 1) := by decide +kernel
theorem dX8_nextPlace_7 : decode cX8_nextPlace 7 = .ok (.irem, 1) := by decide +kernel
theorem dX8_nextPlace_8 : decode cX8_nextPlace 8 = .ok (.ireturn, 1) := by decide +kernel
theorem dX8_keepNextPlace_0 : decode cX8_keepNextPlace 0 = .ok (.aload_n 0, 1) := by decide +kernel
theorem dX8_keepNextPlace_1 : decode cX8_keepNextPlace 1 = .ok (.aload_n 0, 1) := by decide +kernel
theorem dX8_keepNextPlace_2 : decode cX8_keepNextPlace 2 = .ok (.invokevirtual 223, 3) := by decide +kernel
theorem dX8_keepNextPlace_5 : decode cX8_keepNextPlace 5 = .ok (.putfield 251, 3) := by decide +kernel
theorem dX8_keepNextPlace_8 : decode cX8_keepNextPlace 8 = .ok (.aload_n 0, 1) := by decide +kernel
theorem dX8_keepNextPlace_9 : decode cX8_keepNextPlace 9 = .ok (.aload_n 0, 1) := by decide +kernel
theorem dX8_keepNextPlace_10 : decode cX8_keepNextPlace 10 = .ok (.getfield 246, 3) := by decide +kernel
theorem dX8_keepNextPlace_13 : decode cX8_keepNextPlace 13 = .ok (.iconst 1, 1) := by decide +kernel
theorem dX8_keepNextPlace_14 : decode cX8_keepNextPlace 14 = .ok (.iadd, 1) := by decide +kernel
theorem dX8_keepNextPlace_15 : decode cX8_keepNextPlace 15 = .ok (.iconst 4, 1) := by decide +kernel
theorem dX8_keepNextPlace_16 : decode cX8_keepNextPlace 16 = .ok (.invokestatic 266, 3) := by decide +kernel
theorem dX8_keepNextPlace_19 : decode cX8_keepNextPlace 19 = .ok (.putfield 246, 3) := by decide +kernel
theorem dX8_keepNextPlace_22 : decode cX8_keepNextPlace 22 = .ok (.return_, 1) := by decide +kernel
theorem dX8_saveState_0 : decode cX8_saveState 0 = .ok (.aload_n 0, 1) := by decide +kernel
theorem dX8_saveState_1 : decode cX8_saveState 1 = .ok (.getfield 21, 3) := by decide +kernel
theorem dX8_saveState_4 : decode cX8_saveState 4 = .ok (.aload_n 0, 1) := by decide +kernel
theorem dX8_saveState_5 : decode cX8_saveState 5 = .ok (.invokevirtual 223, 3) := by decide +kernel
theorem dX8_saveState_8 : decode cX8_saveState 8 = .ok (.aaload, 1) := by decide +kernel
theorem dX8_saveState_9 : decode cX8_saveState 9 = .ok (.aload_n 0, 1) := by decide +kernel
theorem dX8_saveState_10 : decode cX8_saveState 10 = .ok (.getfield 15, 3) := by decide +kernel
theorem dX8_saveState_13 : decode cX8_saveState 13 = .ok (.invokevirtual 226, 3) := by decide +kernel
theorem dX8_saveState_16 : decode cX8_saveState 16 = .ok (.aload_n 0, 1) := by decide +kernel
theorem dX8_saveState_17 : decode cX8_saveState 17 = .ok (.invokevirtual 243, 3) := by decide +kernel
theorem dX8_saveState_20 : decode cX8_saveState 20 = .ok (.return_, 1) := by decide +kernel
theorem dX8_inRange_0 : decode cX8_inRange 0 = .ok (.iload_n 0, 1) := by decide +kernel
theorem dX8_inRange_1 : decode cX8_inRange 1 = .ok (.iload_n 1, 1) := by decide +kernel
theorem dX8_inRange_2 : decode cX8_inRange 2 = .ok (.if_icmp .lt 12, 3) := by decide +kernel
theorem dX8_inRange_5 : decode cX8_inRange 5 = .ok (.iload_n 0, 1) := by decide +kernel
theorem dX8_inRange_6 : decode cX8_inRange 6 = .ok (.iload_n 2, 1) := by decide +kernel
theorem dX8_inRange_7 : decode cX8_inRange 7 = .ok (.if_icmp .gt 7, 3) := by decide +kernel
theorem dX8_inRange_10 : decode cX8_inRange 10 = .ok (.iconst 1, 1) := by decide +kernel
theorem dX8_inRange_11 : decode cX8_inRange 11 = .ok (.goto 4, 3) := by decide +kernel
theorem dX8_inRange_14 : decode cX8_inRange 14 = .ok (.iconst 0, 1) := by decide +kernel
theorem dX8_inRange_15 : decode cX8_inRange 15 = .ok (.ireturn, 1) := by decide +kernel
theorem dX8_fieldMost_0 : decode cX8_fieldMost 0 = .ok (.iload_n 0, 1) := by decide +kernel
theorem dX8_fieldMost_1 : decode cX8_fieldMost 1 = .ok (.lookupswitch 34 #[(0, 27), (3, 31)], 27) := by decide +kernel
theorem dX8_fieldMost_28 : decode cX8_fieldMost 28 = .ok (.sipush 255, 3) := by decide +kernel
theorem dX8_fieldMost_31 : decode cX8_fieldMost 31 = .ok (.ireturn, 1) := by decide +kernel
theorem dX8_fieldMost_32 : decode cX8_fieldMost 32 = .ok (.bipush 15, 2) := by decide +kernel
theorem dX8_fieldMost_34 : decode cX8_fieldMost 34 = .ok (.ireturn, 1) := by decide +kernel
theorem dX8_fieldMost_35 : decode cX8_fieldMost 35 = .ok (.ldc_w 271, 3) := by decide +kernel
theorem dX8_fieldMost_38 : decode cX8_fieldMost 38 = .ok (.ireturn, 1) := by decide +kernel
theorem dJ9_floorMod_7cf53_0 : decode cJ9_floorMod_7cf53 0 = .ok (.iload_n 0, 1) := by decide +kernel
theorem dJ9_floorMod_7cf53_1 : decode cJ9_floorMod_7cf53 1 = .ok (.iload_n 1, 1) := by decide +kernel
theorem dJ9_floorMod_7cf53_2 : decode cJ9_floorMod_7cf53 2 = .ok (.irem, 1) := by decide +kernel
theorem dJ9_floorMod_7cf53_3 : decode cJ9_floorMod_7cf53 3 = .ok (.istore_n 2, 1) := by decide +kernel
theorem dJ9_floorMod_7cf53_4 : decode cJ9_floorMod_7cf53 4 = .ok (.iload_n 0, 1) := by decide +kernel
theorem dJ9_floorMod_7cf53_5 : decode cJ9_floorMod_7cf53 5 = .ok (.iload_n 1, 1) := by decide +kernel
theorem dJ9_floorMod_7cf53_6 : decode cJ9_floorMod_7cf53 6 = .ok (.ixor, 1) := by decide +kernel
theorem dJ9_floorMod_7cf53_7 : decode cJ9_floorMod_7cf53 7 = .ok (.ifCond .ge 11, 3) := by decide +kernel
theorem dJ9_floorMod_7cf53_10 : decode cJ9_floorMod_7cf53 10 = .ok (.iload_n 2, 1) := by decide +kernel
theorem dJ9_floorMod_7cf53_11 : decode cJ9_floorMod_7cf53 11 = .ok (.ifCond .eq 7, 3) := by decide +kernel
theorem dJ9_floorMod_7cf53_14 : decode cJ9_floorMod_7cf53 14 = .ok (.iload_n 2, 1) := by decide +kernel
theorem dJ9_floorMod_7cf53_15 : decode cJ9_floorMod_7cf53 15 = .ok (.iload_n 1, 1) := by decide +kernel
theorem dJ9_floorMod_7cf53_16 : decode cJ9_floorMod_7cf53 16 = .ok (.iadd, 1) := by decide +kernel
theorem dJ9_floorMod_7cf53_17 : decode cJ9_floorMod_7cf53 17 = .ok (.ireturn, 1) := by decide +kernel
theorem dJ9_floorMod_7cf53_18 : decode cJ9_floorMod_7cf53 18 = .ok (.iload_n 2, 1) := by decide +kernel
theorem dJ9_floorMod_7cf53_19 : decode cJ9_floorMod_7cf53 19 = .ok (.ireturn, 1) := by decide +kernel
theorem dJ9_max_7cf53_0 : decode cJ9_max_7cf53 0 = .ok (.iload_n 0, 1) := by decide +kernel
theorem dJ9_max_7cf53_1 : decode cJ9_max_7cf53 1 = .ok (.iload_n 1, 1) := by decide +kernel
theorem dJ9_max_7cf53_2 : decode cJ9_max_7cf53 2 = .ok (.if_icmp .lt 7, 3) := by decide +kernel
theorem dJ9_max_7cf53_5 : decode cJ9_max_7cf53 5 = .ok (.iload_n 0, 1) := by decide +kernel
theorem dJ9_max_7cf53_6 : decode cJ9_max_7cf53 6 = .ok (.goto 4, 3) := by decide +kernel
theorem dJ9_max_7cf53_9 : decode cJ9_max_7cf53 9 = .ok (.iload_n 1, 1) := by decide +kernel
theorem dJ9_max_7cf53_10 : decode cJ9_max_7cf53 10 = .ok (.ireturn, 1) := by decide +kernel
theorem dJ9_min_7cf53_0 : decode cJ9_min_7cf53 0 = .ok (.iload_n 0, 1) := by decide +kernel
theorem dJ9_min_7cf53_1 : decode cJ9_min_7cf53 1 = .ok (.iload_n 1, 1) := by decide +kernel
theorem dJ9_min_7cf53_2 : decode cJ9_min_7cf53 2 = .ok (.if_icmp .gt 7, 3) := by decide +kernel
theorem dJ9_min_7cf53_5 : decode cJ9_min_7cf53 5 = .ok (.iload_n 0, 1) := by decide +kernel
theorem dJ9_min_7cf53_6 : decode cJ9_min_7cf53 6 = .ok (.goto 4, 3) := by decide +kernel
theorem dJ9_min_7cf53_9 : decode cJ9_min_7cf53 9 = .ok (.iload_n 1, 1) := by decide +kernel
theorem dJ9_min_7cf53_10 : decode cJ9_min_7cf53 10 = .ok (.ireturn, 1) := by decide +kernel
theorem dJ7_fill_53178_0 : decode cJ7_fill_53178 0 = .ok (.iconst 0, 1) := by decide +kernel
theorem dJ7_fill_53178_1 : decode cJ7_fill_53178 1 = .ok (.istore_n 2, 1) := by decide +kernel
theorem dJ7_fill_53178_2 : decode cJ7_fill_53178 2 = .ok (.aload_n 0, 1) := by decide +kernel
theorem dJ7_fill_53178_3 : decode cJ7_fill_53178 3 = .ok (.arraylength, 1) := by decide +kernel
theorem dJ7_fill_53178_4 : decode cJ7_fill_53178 4 = .ok (.istore_n 3, 1) := by decide +kernel
theorem dJ7_fill_53178_5 : decode cJ7_fill_53178 5 = .ok (.iload_n 2, 1) := by decide +kernel
theorem dJ7_fill_53178_6 : decode cJ7_fill_53178 6 = .ok (.iload_n 3, 1) := by decide +kernel
theorem dJ7_fill_53178_7 : decode cJ7_fill_53178 7 = .ok (.if_icmp .ge 13, 3) := by decide +kernel
theorem dJ7_fill_53178_10 : decode cJ7_fill_53178 10 = .ok (.aload_n 0, 1) := by decide +kernel
theorem dJ7_fill_53178_11 : decode cJ7_fill_53178 11 = .ok (.iload_n 2, 1) := by decide +kernel
theorem dJ7_fill_53178_12 : decode cJ7_fill_53178 12 = .ok (.iload_n 1, 1) := by decide +kernel
theorem dJ7_fill_53178_13 : decode cJ7_fill_53178 13 = .ok (.iastore, 1) := by decide +kernel
theorem dJ7_fill_53178_14 : decode cJ7_fill_53178 14 = .ok (.iinc 2 1, 3) := by decide +kernel
theorem dJ7_fill_53178_17 : decode cJ7_fill_53178 17 = .ok (.goto (-12), 3) := by decide +kernel
theorem dJ7_fill_53178_20 : decode cJ7_fill_53178 20 = .ok (.return_, 1) := by decide +kernel
